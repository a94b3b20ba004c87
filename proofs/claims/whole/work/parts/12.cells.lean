
theorem mm_HR_set {b qs B : Nat} {D : va_G} {dA : FieldType → ClassId} {h h2 : mm_H} {H H1 : Heap} (hH : mm_HR b qs B D dA h H) {a : Nat} (ha : 2 ≤ mm_ix a ∧ mm_ix a < h.1) (h1 : h2.1 = h.1) (hkd : h2.2.1 = h.2.1) (hne : ∀ i, i ≠ a → mm_e (mm_a b qs B) dA h2 i = mm_e (mm_a b qs B) dA h i) (hat : va_at D vwCl (mm_a b qs B a, mm_e (mm_a b qs B) dA h2 a) H1) (z : H1.size = H.size) (oq : ∀ q : Nat, q ≠ mm_a b qs B a → H1[q]? = H[q]?) : mm_HR b qs B D dA h2 H1 := by
  obtain ⟨g1, g2, g3, g4⟩ := hH
  refine ⟨by rw [h1]; exact g1, by rw [h1, z]; exact g2, by rw [h1, hkd]; exact g3, ?_⟩
  have e := mm_a_ge (b := b) (qs := qs) (B := B) ha.1
  rw [← mm_ws_set e h1 ha hne rfl]
  exact va_P.set g4 mm_D (mm_ws_get ha) hat oq
theorem mm_ge {b qs B : Nat} {h : mm_H} {a : Nat} (ha : 2 ≤ mm_ix a ∧ mm_ix a < h.1) : B ≤ mm_a b qs B a := by
  rw [mm_a_ge ha.1]; exact Nat.le_add_right B _
theorem mm_u_ne {α : Type} {f : Nat → Nat → α} {a k i : Nat} {v : α} (h : i ≠ a) : mm_u f a k v i = f i := by
  funext j
  unfold mm_u
  rw [if_neg h]
theorem mm_e_pI {ρ : Nat → Nat} {dA : FieldType → ClassId} {h : mm_H} {a k : Nat} {x : Int32} (i : Nat) (hi : i ≠ a) : mm_e ρ dA (mm_pI h a k x) i = mm_e ρ dA h i := by
  unfold mm_e mm_ac mm_fv mm_pI
  simp only [mm_u_ne hi]
theorem mm_e_pJ {ρ : Nat → Nat} {dA : FieldType → ClassId} {h : mm_H} {a k : Nat} {x : Int64} (i : Nat) (hi : i ≠ a) : mm_e ρ dA (mm_pJ h a k x) i = mm_e ρ dA h i := by
  unfold mm_e mm_ac mm_fv mm_pJ
  simp only [mm_u_ne hi]
theorem mm_e_pR {ρ : Nat → Nat} {dA : FieldType → ClassId} {h : mm_H} {a k : Nat} {x : Option Nat} (i : Nat) (hi : i ≠ a) : mm_e ρ dA (mm_pR h a k x) i = mm_e ρ dA h i := by
  unfold mm_e mm_ac mm_fv mm_pR
  simp only [mm_u_ne hi]
theorem mm_arr {ρ : Nat → Nat} {dA : FieldType → ClassId} {h : mm_H} {a n : Nat} {ty : FieldType} (h0 : h.2.1 a = .inl (ty, n)) : mm_e ρ dA h a = .inl (dA ty, mm_ac ρ h a n (mm_fk ty)) := by
  unfold mm_e
  rw [h0]
theorem mm_obj {ρ : Nat → Nat} {dA : FieldType → ClassId} {h : mm_H} {a ci : Nat} (h0 : h.2.1 a = .inr ci) : mm_e ρ dA h a = .inr (ci, (List.range (mm_nf ci)).map (fun k => mm_fv ρ h a k (mm_fk (mm_ty ci k)))) := by
  unfold mm_e
  rw [h0]
/-- a field is put: what the kit says, with the heap's size -/
theorem mm_put {p : Program} {l : Launch} {e : Env} {R : Room} {s : State} {m : MethodId} {args : Array Value} {below : List Frame} {meth : Method} {c : Code} {H : Heap} {locs : List Loc} {cells slots : Nat} {Q : State → Prop} {cc : ByteArray} {pc : Nat} {ls : Array Slot} {rest : List Value} {D : va_G} {A : Nat → Prop} {a : Nat} {tys : List (ClassId × FieldType)} {ws : va_W} {H0 : Heap} (hexec : p.tables.exec = Jvm.exec) (hb : c.code = cc) {own : String} {r : vw_C} {ci index : Nat} {Ts : List Cond} (hts : ∀ w ∈ Ts, w.before args s = true) (hin : ∀ w ∈ u_ws r.1 r.2.1 r.2.2, w ∈ Ts) (ty0 : Nat → FieldType) (hty : ∀ k, k < r.2.2 → parseFieldDescriptor (r.2.1 k).2.2.1 = some (ty0 k)) (hnm : ∀ a, a < r.2.2 → ∀ b, b < r.2.2 → a ≠ b → (r.2.1 a).2.1 ≠ (r.2.1 b).2.1) (hown : s.vm.findClass own = some m.cls) (hK : va_K D vwCl tys s) (hP : va_P D vwCl ws H) (hD : va_D A ws) (hS0 : va_S A H0 H locs) (q0 : Nat) {fs : List Value} (he : ws[q0]? = some (a, .inr (ci, fs))) (hc : vwCl[ci]? = some r) (k : Nat) (hk : k < r.2.2) (hlink : (Cond.fieldLink own index (r.2.1 k).1 (r.2.1 k).2.1 (r.2.1 k).2.2.1).before args s = true) (hfin : (r.2.1 k).2.2.2 = false ∨ ((r.2.1 k).1 = own ∧ meth.name = "<init>")) {v : Value} (hn : narrow (ty0 k) v = v) (hfit : fits (ty0 k) v = true) (hl : k < fs.length)
    (hdg : decode cc pc = .ok (.putfield index, 3)) (kk : ∀ (H1 : Heap) (locs1 : List Loc), va_at D vwCl (a, .inr (ci, fs.set k v)) H1 → H1.size = H.size → (∀ q : Nat, q ≠ a → H1[q]? = H[q]?) → va_S A H0 H1 locs1 → W p l e R s m args below meth c H1 locs1 cells slots Q (F0 m (pc + 3) ls rest)) : W p l e R s m args below meth c H locs cells slots Q (F0 m pc ls (v :: .ref a :: rest)) := by
  have hap := va_apart (own := own) (s := s) (args := args) hts hin ty0 hty hnm hK hc
  have hd := hty k hk
  obtain ⟨r', h1, cell, q1, q2, q3, q4⟩ := hP q0 _ he
  have hr : r' = r := Option.some.inj (h1.symm.trans hc)
  subst hr
  obtain ⟨hS, hfc, kC, hkC, hkind⟩ := hK.1 ci _ hc
  obtain ⟨cf, kf, fi, f, hi, hsl⟩ := hS k hk
  have hlay := hts _ (hin _ (u_in_lay hk))
  unfold u_lay at hlay
  have hst := (u_facts hfc hkC (u_lays hts hin hk) hi).1
  by_cases hf2 : (r'.2.1 k).2.2.2 = true
  · rcases hfin with h9 | ⟨hdecl, hin2⟩
    · rw [h9] at hf2; cases hf2
    · rw [if_pos hf2] at hlay
      have hcf : m.cls = cf := by
        obtain ⟨_, _, c', _, _, _, -, -, hf', -, -, -, hown2, -⟩ := Cond.laysFinal_spec hlay
        have e1 : c' = cf := by have := hi.symm.trans hf'; simp at this; exact this.1.symm
        rw [hdecl] at hown2
        rw [← e1]; exact Option.some.inj (hown.symm.trans hown2)
      have h6 := u_fits hfc hkC hkind (Or.inr hlay) hi hd hn hfit
      refine W.putFinK hexec hb hown hlink hi hst hcf hin2 (by rw [q2]; exact h6) q1 q3 (by rw [hsl]; exact k2_hasslot (q4 k hk)) rfl rfl hdg fun H' e1 e2 e3 => ?_
      rw [hsl] at e1 ⊢
      exact kk H' _ ⟨_, hc, t_OB.to (V := updV (vp_V fs) k v) ⟨_, e1, q2, q3, t_set q4 hap hk v⟩ (fun j _ => vp_updV_set hl v j)⟩ e2 e3 (hS0.put e2 e3 (hD.2 q0 _ he))
  · rw [if_neg hf2] at hlay
    have h6 := u_store hfc hkC hkind hlay hi hd hn hfit
    refine W.putK hexec hb (f := f) ⟨hown, hlink, ⟨_, _, _, hi⟩, hst⟩ (by rw [q2]; exact h6) q1 q3 (by rw [hsl]; exact k2_hasslot (q4 k hk)) rfl rfl hdg fun H' e1 e2 e3 => ?_
    rw [hsl] at e1 ⊢
    exact kk H' _ ⟨_, hc, t_OB.to (V := updV (vp_V fs) k v) ⟨_, e1, q2, q3, t_set q4 hap hk v⟩ (fun j _ => vp_updV_set hl v j)⟩ e2 e3 (hS0.put e2 e3 (hD.2 q0 _ he))
theorem mm_fset {N k : Nat} {g g2 : Nat → Value} {v : Value} (hk : k < N) (h1 : g2 k = v) (h2 : ∀ j, j ≠ k → g2 j = g j) : ((List.range N).map g).set k v = (List.range N).map g2 := by
  apply List.ext_getElem?
  intro i
  by_cases hi : k = i
  · subst hi
    rw [List.getElem?_set_self (by simpa using hk), List.getElem?_map, List.getElem?_range hk]
    show some v = some (g2 k)
    rw [h1]
  · rw [List.getElem?_set_ne hi, List.getElem?_map, List.getElem?_map]
    by_cases hl : i < N
    · rw [List.getElem?_range hl]
      show some (g i) = some (g2 i)
      rw [h2 i (Ne.symm hi)]
    · rw [List.getElem?_eq_none (by simpa using hl)]; rfl
theorem mm_pk_fk {ty : FieldType} {z : Nat} (h : mm_pk ty = z) (hz : z < 4) : (z = 0 → ty = .int) ∧ (z = 1 → ty = .long) ∧ (z = 3 → ty = .boolean) ∧ (z = 2 → mm_fk ty = 2 ∧ ((∃ n, ty = .object n) ∨ ∃ t, ty = .array t)) := by
  subst h
  cases ty <;> simp [mm_pk, mm_fk] at hz ⊢
theorem mm_finok {ow ci k : Nat} {ini : Bool} {r : vw_C} {meth : Method} (hr : vwCl[ci]? = some r) (hk : k < r.2.2) (hfin : (!(mm_fin ci k) || (ini && decide (mm_co ci = ow))) = true) (hini : ini = true → meth.name = "<init>") : (r.2.1 k).2.2.2 = false ∨ ((r.2.1 k).1 = mm_on ow ∧ meth.name = "<init>") := by
  have hf : mm_fin ci k = (r.2.1 k).2.2.2 := by unfold mm_fin; rw [hr]
  rw [hf] at hfin
  cases hq : (r.2.1 k).2.2.2
  · exact Or.inl rfl
  · rw [hq] at hfin
    simp at hfin
    refine Or.inr ⟨?_, hini hfin.1⟩
    rw [← hfin.2]
    exact (mm_cl hr).2.2.2.1 k hk

theorem ss_putI {p : Program} {l : Launch} {e : Env} {R : Room} {s : State} {m : MethodId} {args : Array Value} {below : List Frame} {meth : Method} {c : Code} {b qs qv B SL : Nat} {xs : Nat → Int32} {D : va_G} {dA : FieldType → ClassId} {QW : State → Prop} {ow : Nat} {ini : Bool} {cc : ByteArray} {cd : List (Nat × mm_R)} {mc ms : Nat} {cs : mm_Cs} {am : Nat → Nat × Nat} {rt : Option FieldType} {Q : Option Value → mm_H → Prop} (K : mm_cx p R s m args meth c b qs qv B SL xs D dA ow ini cc cd mc ms) : mm_r_putI SL xs cs am cd mc ms rt Q (mm_XW p l e R s m args below meth c b qs B D dA QW) := by
  intro pc L h cc0 ss0 i ci k a x st hd h0 k0
  intro H locs ls hH hS hl
  obtain ⟨hx, hb, hown, hts, hSK, hini, hck, hmc, hms, hfr, hlo, hB⟩ := id K
  obtain ⟨hdg, hcr⟩ := mm_row hck hd
  have hcr : (decide ((i, ci, k) ∈ mm_ft ow) && (decide (mm_pk (mm_ty ci k) = 0) && (!(mm_fin ci k) || (ini && decide (mm_co ci = ow))))) = true := hcr
  rw [Bool.and_eq_true, Bool.and_eq_true] at hcr
  obtain ⟨r9, hr, hk9, hlk⟩ := mm_ff_all ow _ (of_decide_eq_true hcr.1)
  have hr : vwCl[ci]? = some r9 := hr
  have hk9 : k < r9.2.2 := hk9
  have hz := of_decide_eq_true hcr.2.1
  obtain ⟨g1, g2, g3, g4, g5⟩ := mm_cl hr
  have ha := mm_at_in hH.2.2.1 h0 (fun q => by cases q)
  have hw := mm_ws_get (b := b) (qs := qs) (B := B) (dA := dA) ha
  have hty := mm_pk_fk hz (by decide)
  rw [mm_obj h0, g5] at hw
  refine mm_put hx hb hts g1 (fun k => mm_ty ci k) g2 g3 hown hSK.1 hH.2.2.2 mm_D hS (mm_ix a - 2) hw hr k hk9 (hts _ hlk) (mm_finok hr hk9 hcr.2.2 hini) (by rw [hty.1 rfl]; rfl) (by rw [hty.1 rfl]; rfl) (by rw [List.length_map, List.length_range]; exact hk9) hdg (fun H1 locs1 hat z oq hS1 => ?_)
  refine k0 H1 locs1 ls (mm_HR_set (h2 := mm_pI h a k x) hH ha rfl rfl (fun i hi => mm_e_pI i hi) ?_ z oq) hS1 hl
  rw [mm_obj (h := mm_pI h a k x) (show (mm_pI h a k x).2.1 a = .inr ci from h0), g5, ← mm_fset (g := fun k => mm_fv (mm_a b qs B) h a k (mm_fk (mm_ty ci k))) (v := .int x) hk9 (by rw [hty.1 rfl]; show Value.int (mm_u h.2.2.1 a k x a k) = _; simp [mm_u]) (fun j hj => by show mm_fv _ (mm_pI h a k x) a j _ = mm_fv _ h a j _; unfold mm_fv mm_pI; simp only [mm_u, if_neg hj, ite_self])]
  exact hat
theorem ss_putZ {p : Program} {l : Launch} {e : Env} {R : Room} {s : State} {m : MethodId} {args : Array Value} {below : List Frame} {meth : Method} {c : Code} {b qs qv B SL : Nat} {xs : Nat → Int32} {D : va_G} {dA : FieldType → ClassId} {QW : State → Prop} {ow : Nat} {ini : Bool} {cc : ByteArray} {cd : List (Nat × mm_R)} {mc ms : Nat} {cs : mm_Cs} {am : Nat → Nat × Nat} {rt : Option FieldType} {Q : Option Value → mm_H → Prop} (K : mm_cx p R s m args meth c b qs qv B SL xs D dA ow ini cc cd mc ms) : mm_r_putZ SL xs cs am cd mc ms rt Q (mm_XW p l e R s m args below meth c b qs B D dA QW) := by
  intro pc L h cc0 ss0 i ci k a x st hd h0 h1 k0
  intro H locs ls hH hS hl
  obtain ⟨hx, hb, hown, hts, hSK, hini, hck, hmc, hms, hfr, hlo, hB⟩ := id K
  obtain ⟨hdg, hcr⟩ := mm_row hck hd
  have hcr : (decide ((i, ci, k) ∈ mm_ft ow) && (decide (mm_pk (mm_ty ci k) = 3) && (!(mm_fin ci k) || (ini && decide (mm_co ci = ow))))) = true := hcr
  rw [Bool.and_eq_true, Bool.and_eq_true] at hcr
  obtain ⟨r9, hr, hk9, hlk⟩ := mm_ff_all ow _ (of_decide_eq_true hcr.1)
  have hr : vwCl[ci]? = some r9 := hr
  have hk9 : k < r9.2.2 := hk9
  have hz := of_decide_eq_true hcr.2.1
  obtain ⟨g1, g2, g3, g4, g5⟩ := mm_cl hr
  have ha := mm_at_in hH.2.2.1 h0 (fun q => by cases q)
  have hw := mm_ws_get (b := b) (qs := qs) (B := B) (dA := dA) ha
  have hty := mm_pk_fk hz (by decide)
  rw [mm_obj h0, g5] at hw
  refine mm_put hx hb hts g1 (fun k => mm_ty ci k) g2 g3 hown hSK.1 hH.2.2.2 mm_D hS (mm_ix a - 2) hw hr k hk9 (hts _ hlk) (mm_finok hr hk9 hcr.2.2 hini) (by rw [hty.2.2.1 rfl]; rcases h1 with q | q <;> (subst q; rfl)) (by rw [hty.2.2.1 rfl]; rcases h1 with q | q <;> (subst q; rfl)) (by rw [List.length_map, List.length_range]; exact hk9) hdg (fun H1 locs1 hat z oq hS1 => ?_)
  refine k0 H1 locs1 ls (mm_HR_set (h2 := mm_pI h a k x) hH ha rfl rfl (fun i hi => mm_e_pI i hi) ?_ z oq) hS1 hl
  rw [mm_obj (h := mm_pI h a k x) (show (mm_pI h a k x).2.1 a = .inr ci from h0), g5, ← mm_fset (g := fun k => mm_fv (mm_a b qs B) h a k (mm_fk (mm_ty ci k))) (v := .int x) hk9 (by rw [hty.2.2.1 rfl]; show Value.int (mm_u h.2.2.1 a k x a k) = _; simp [mm_u]) (fun j hj => by show mm_fv _ (mm_pI h a k x) a j _ = mm_fv _ h a j _; unfold mm_fv mm_pI; simp only [mm_u, if_neg hj, ite_self])]
  exact hat
theorem ss_putJ {p : Program} {l : Launch} {e : Env} {R : Room} {s : State} {m : MethodId} {args : Array Value} {below : List Frame} {meth : Method} {c : Code} {b qs qv B SL : Nat} {xs : Nat → Int32} {D : va_G} {dA : FieldType → ClassId} {QW : State → Prop} {ow : Nat} {ini : Bool} {cc : ByteArray} {cd : List (Nat × mm_R)} {mc ms : Nat} {cs : mm_Cs} {am : Nat → Nat × Nat} {rt : Option FieldType} {Q : Option Value → mm_H → Prop} (K : mm_cx p R s m args meth c b qs qv B SL xs D dA ow ini cc cd mc ms) : mm_r_putJ SL xs cs am cd mc ms rt Q (mm_XW p l e R s m args below meth c b qs B D dA QW) := by
  intro pc L h cc0 ss0 i ci k a x st hd h0 k0
  intro H locs ls hH hS hl
  obtain ⟨hx, hb, hown, hts, hSK, hini, hck, hmc, hms, hfr, hlo, hB⟩ := id K
  obtain ⟨hdg, hcr⟩ := mm_row hck hd
  have hcr : (decide ((i, ci, k) ∈ mm_ft ow) && (decide (mm_pk (mm_ty ci k) = 1) && (!(mm_fin ci k) || (ini && decide (mm_co ci = ow))))) = true := hcr
  rw [Bool.and_eq_true, Bool.and_eq_true] at hcr
  obtain ⟨r9, hr, hk9, hlk⟩ := mm_ff_all ow _ (of_decide_eq_true hcr.1)
  have hr : vwCl[ci]? = some r9 := hr
  have hk9 : k < r9.2.2 := hk9
  have hz := of_decide_eq_true hcr.2.1
  obtain ⟨g1, g2, g3, g4, g5⟩ := mm_cl hr
  have ha := mm_at_in hH.2.2.1 h0 (fun q => by cases q)
  have hw := mm_ws_get (b := b) (qs := qs) (B := B) (dA := dA) ha
  have hty := mm_pk_fk hz (by decide)
  rw [mm_obj h0, g5] at hw
  refine mm_put hx hb hts g1 (fun k => mm_ty ci k) g2 g3 hown hSK.1 hH.2.2.2 mm_D hS (mm_ix a - 2) hw hr k hk9 (hts _ hlk) (mm_finok hr hk9 hcr.2.2 hini) (by rw [hty.2.1 rfl]; rfl) (by rw [hty.2.1 rfl]; rfl) (by rw [List.length_map, List.length_range]; exact hk9) hdg (fun H1 locs1 hat z oq hS1 => ?_)
  refine k0 H1 locs1 ls (mm_HR_set (h2 := mm_pJ h a k x) hH ha rfl rfl (fun i hi => mm_e_pJ i hi) ?_ z oq) hS1 hl
  rw [mm_obj (h := mm_pJ h a k x) (show (mm_pJ h a k x).2.1 a = .inr ci from h0), g5, ← mm_fset (g := fun k => mm_fv (mm_a b qs B) h a k (mm_fk (mm_ty ci k))) (v := .long x) hk9 (by rw [hty.2.1 rfl]; show Value.long (mm_u h.2.2.2.1 a k x a k) = _; simp [mm_u]) (fun j hj => by show mm_fv _ (mm_pJ h a k x) a j _ = mm_fv _ h a j _; unfold mm_fv mm_pJ; simp only [mm_u, if_neg hj, ite_self])]
  exact hat
theorem ss_putR {p : Program} {l : Launch} {e : Env} {R : Room} {s : State} {m : MethodId} {args : Array Value} {below : List Frame} {meth : Method} {c : Code} {b qs qv B SL : Nat} {xs : Nat → Int32} {D : va_G} {dA : FieldType → ClassId} {QW : State → Prop} {ow : Nat} {ini : Bool} {cc : ByteArray} {cd : List (Nat × mm_R)} {mc ms : Nat} {cs : mm_Cs} {am : Nat → Nat × Nat} {rt : Option FieldType} {Q : Option Value → mm_H → Prop} (K : mm_cx p R s m args meth c b qs qv B SL xs D dA ow ini cc cd mc ms) : mm_r_putR SL xs cs am cd mc ms rt Q (mm_XW p l e R s m args below meth c b qs B D dA QW) := by
  intro pc L h cc0 ss0 i ci k a v st hd h0 k0
  intro H locs ls hH hS hl
  obtain ⟨hx, hb, hown, hts, hSK, hini, hck, hmc, hms, hfr, hlo, hB⟩ := id K
  obtain ⟨hdg, hcr⟩ := mm_row hck hd
  have hcr : (decide ((i, ci, k) ∈ mm_ft ow) && (decide (mm_pk (mm_ty ci k) = 2) && (!(mm_fin ci k) || (ini && decide (mm_co ci = ow))))) = true := hcr
  rw [Bool.and_eq_true, Bool.and_eq_true] at hcr
  obtain ⟨r9, hr, hk9, hlk⟩ := mm_ff_all ow _ (of_decide_eq_true hcr.1)
  have hr : vwCl[ci]? = some r9 := hr
  have hk9 : k < r9.2.2 := hk9
  have hz := of_decide_eq_true hcr.2.1
  obtain ⟨g1, g2, g3, g4, g5⟩ := mm_cl hr
  have ha := mm_at_in hH.2.2.1 h0 (fun q => by cases q)
  have hw := mm_ws_get (b := b) (qs := qs) (B := B) (dA := dA) ha
  have hty := mm_pk_fk hz (by decide)
  rw [mm_obj h0, g5] at hw
  refine mm_put hx hb hts g1 (fun k => mm_ty ci k) g2 g3 hown hSK.1 hH.2.2.2 mm_D hS (mm_ix a - 2) hw hr k hk9 (hts _ hlk) (mm_finok hr hk9 hcr.2.2 hini) (by rcases (hty.2.2.2 rfl).2 with ⟨n9, q⟩ | ⟨n9, q⟩ <;> (rw [q]; rfl)) (by rcases (hty.2.2.2 rfl).2 with ⟨n9, q⟩ | ⟨n9, q⟩ <;> (rw [q]; rfl)) (by rw [List.length_map, List.length_range]; exact hk9) hdg (fun H1 locs1 hat z oq hS1 => ?_)
  refine k0 H1 locs1 ls (mm_HR_set (h2 := mm_pR h a k (some v)) hH ha rfl rfl (fun i hi => mm_e_pR i hi) ?_ z oq) hS1 hl
  rw [mm_obj (h := mm_pR h a k (some v)) (show (mm_pR h a k (some v)).2.1 a = .inr ci from h0), g5, ← mm_fset (g := fun k => mm_fv (mm_a b qs B) h a k (mm_fk (mm_ty ci k))) (v := .ref (mm_a b qs B v)) hk9 (by rw [(hty.2.2.2 rfl).1]; show va_rf ((mm_u h.2.2.2.2 a k (some v) a k).map (mm_a b qs B)) = _; simp [mm_u, va_rf]) (fun j hj => by show mm_fv _ (mm_pR h a k (some v)) a j _ = mm_fv _ h a j _; unfold mm_fv mm_pR; simp only [mm_u, if_neg hj, ite_self])]
  exact hat
theorem ss_iald {p : Program} {l : Launch} {e : Env} {R : Room} {s : State} {m : MethodId} {args : Array Value} {below : List Frame} {meth : Method} {c : Code} {b qs qv B SL : Nat} {xs : Nat → Int32} {D : va_G} {dA : FieldType → ClassId} {QW : State → Prop} {ow : Nat} {ini : Bool} {cc : ByteArray} {cd : List (Nat × mm_R)} {mc ms : Nat} {cs : mm_Cs} {am : Nat → Nat × Nat} {rt : Option FieldType} {Q : Option Value → mm_H → Prop} (K : mm_cx p R s m args meth c b qs qv B SL xs D dA ow ini cc cd mc ms) : mm_r_iald SL xs cs am cd mc ms rt Q (mm_XW p l e R s m args below meth c b qs B D dA QW) := by
  intro pc L h cc0 ss0 a n i st hd h0 h1 k0
  intro H locs ls hH hS hl
  obtain ⟨hx, hb, hown, hts, hSK, hini, hck, hmc, hms, hfr, hlo, hB⟩ := id K
  obtain ⟨hdg, hcr⟩ := mm_row hck hd
  have ha := mm_at_in hH.2.2.1 h0 (fun q => by cases q)
  have hw := mm_ws_get (b := b) (qs := qs) (B := B) (dA := dA) ha
  rw [mm_arr h0] at hw
  obtain ⟨t9, ht9⟩ := mm_tys_get (dA := dA) (ty := .int) rfl
  exact va_iald hx hb hSK.1 hH.2.2.2 (mm_ix a - 2) t9 hw ht9 h1 hdg (k0 H locs ls hH hS hl)
theorem ss_bald {p : Program} {l : Launch} {e : Env} {R : Room} {s : State} {m : MethodId} {args : Array Value} {below : List Frame} {meth : Method} {c : Code} {b qs qv B SL : Nat} {xs : Nat → Int32} {D : va_G} {dA : FieldType → ClassId} {QW : State → Prop} {ow : Nat} {ini : Bool} {cc : ByteArray} {cd : List (Nat × mm_R)} {mc ms : Nat} {cs : mm_Cs} {am : Nat → Nat × Nat} {rt : Option FieldType} {Q : Option Value → mm_H → Prop} (K : mm_cx p R s m args meth c b qs qv B SL xs D dA ow ini cc cd mc ms) : mm_r_bald SL xs cs am cd mc ms rt Q (mm_XW p l e R s m args below meth c b qs B D dA QW) := by
  intro pc L h cc0 ss0 a n i st hd h0 h1 k0
  intro H locs ls hH hS hl
  obtain ⟨hx, hb, hown, hts, hSK, hini, hck, hmc, hms, hfr, hlo, hB⟩ := id K
  obtain ⟨hdg, hcr⟩ := mm_row hck hd
  have ha := mm_at_in hH.2.2.1 h0 (fun q => by cases q)
  have hw := mm_ws_get (b := b) (qs := qs) (B := B) (dA := dA) ha
  rw [mm_arr h0] at hw
  obtain ⟨t9, ht9⟩ := mm_tys_get (dA := dA) (ty := .byte) rfl
  exact va_bald hx hb hSK.1 hH.2.2.2 (mm_ix a - 2) t9 hw ht9 h1 hdg (k0 H locs ls hH hS hl)
theorem ss_zald {p : Program} {l : Launch} {e : Env} {R : Room} {s : State} {m : MethodId} {args : Array Value} {below : List Frame} {meth : Method} {c : Code} {b qs qv B SL : Nat} {xs : Nat → Int32} {D : va_G} {dA : FieldType → ClassId} {QW : State → Prop} {ow : Nat} {ini : Bool} {cc : ByteArray} {cd : List (Nat × mm_R)} {mc ms : Nat} {cs : mm_Cs} {am : Nat → Nat × Nat} {rt : Option FieldType} {Q : Option Value → mm_H → Prop} (K : mm_cx p R s m args meth c b qs qv B SL xs D dA ow ini cc cd mc ms) : mm_r_zald SL xs cs am cd mc ms rt Q (mm_XW p l e R s m args below meth c b qs B D dA QW) := by
  intro pc L h cc0 ss0 a n i st hd h0 h1 k0
  intro H locs ls hH hS hl
  obtain ⟨hx, hb, hown, hts, hSK, hini, hck, hmc, hms, hfr, hlo, hB⟩ := id K
  obtain ⟨hdg, hcr⟩ := mm_row hck hd
  have ha := mm_at_in hH.2.2.1 h0 (fun q => by cases q)
  have hw := mm_ws_get (b := b) (qs := qs) (B := B) (dA := dA) ha
  rw [mm_arr h0] at hw
  obtain ⟨t9, ht9⟩ := mm_tys_get (dA := dA) (ty := .boolean) rfl
  exact va_zald hx hb hSK.1 hH.2.2.2 (mm_ix a - 2) t9 hw ht9 h1 hdg (k0 H locs ls hH hS hl)
theorem ss_lald {p : Program} {l : Launch} {e : Env} {R : Room} {s : State} {m : MethodId} {args : Array Value} {below : List Frame} {meth : Method} {c : Code} {b qs qv B SL : Nat} {xs : Nat → Int32} {D : va_G} {dA : FieldType → ClassId} {QW : State → Prop} {ow : Nat} {ini : Bool} {cc : ByteArray} {cd : List (Nat × mm_R)} {mc ms : Nat} {cs : mm_Cs} {am : Nat → Nat × Nat} {rt : Option FieldType} {Q : Option Value → mm_H → Prop} (K : mm_cx p R s m args meth c b qs qv B SL xs D dA ow ini cc cd mc ms) : mm_r_lald SL xs cs am cd mc ms rt Q (mm_XW p l e R s m args below meth c b qs B D dA QW) := by
  intro pc L h cc0 ss0 a n i st hd h0 h1 k0
  intro H locs ls hH hS hl
  obtain ⟨hx, hb, hown, hts, hSK, hini, hck, hmc, hms, hfr, hlo, hB⟩ := id K
  obtain ⟨hdg, hcr⟩ := mm_row hck hd
  have ha := mm_at_in hH.2.2.1 h0 (fun q => by cases q)
  have hw := mm_ws_get (b := b) (qs := qs) (B := B) (dA := dA) ha
  rw [mm_arr h0] at hw
  obtain ⟨t9, ht9⟩ := mm_tys_get (dA := dA) (ty := .long) rfl
  exact va_lald hx hb hSK.1 hH.2.2.2 (mm_ix a - 2) t9 hw ht9 h1 hdg (k0 H locs ls hH hS hl)
theorem ss_aald {p : Program} {l : Launch} {e : Env} {R : Room} {s : State} {m : MethodId} {args : Array Value} {below : List Frame} {meth : Method} {c : Code} {b qs qv B SL : Nat} {xs : Nat → Int32} {D : va_G} {dA : FieldType → ClassId} {QW : State → Prop} {ow : Nat} {ini : Bool} {cc : ByteArray} {cd : List (Nat × mm_R)} {mc ms : Nat} {cs : mm_Cs} {am : Nat → Nat × Nat} {rt : Option FieldType} {Q : Option Value → mm_H → Prop} (K : mm_cx p R s m args meth c b qs qv B SL xs D dA ow ini cc cd mc ms) : mm_r_aald SL xs cs am cd mc ms rt Q (mm_XW p l e R s m args below meth c b qs B D dA QW) := by
  intro pc L h cc0 ss0 a n i r st hd h0 h1 h2 k0
  intro H locs ls hH hS hl
  obtain ⟨hx, hb, hown, hts, hSK, hini, hck, hmc, hms, hfr, hlo, hB⟩ := id K
  obtain ⟨hdg, hcr⟩ := mm_row hck hd
  have ha := mm_at_in hH.2.2.1 h0 (fun q => by cases q)
  have hw := mm_ws_get (b := b) (qs := qs) (B := B) (dA := dA) ha
  rw [mm_arr h0] at hw
  obtain ⟨t9, ht9⟩ := mm_tys_get (dA := dA) (ty := .object RX1) (by decide)
  refine va_aldq hx hb hSK.1 hH.2.2.2 (mm_ix a - 2) t9 hw ht9 h1 hdg ?_
  have := k0 H locs ls hH hS hl
  rw [List.map_cons, mm_rfv, ← h2] at this
  exact this
theorem ss_sald {p : Program} {l : Launch} {e : Env} {R : Room} {s : State} {m : MethodId} {args : Array Value} {below : List Frame} {meth : Method} {c : Code} {b qs qv B SL : Nat} {xs : Nat → Int32} {D : va_G} {dA : FieldType → ClassId} {QW : State → Prop} {ow : Nat} {ini : Bool} {cc : ByteArray} {cd : List (Nat × mm_R)} {mc ms : Nat} {cs : mm_Cs} {am : Nat → Nat × Nat} {rt : Option FieldType} {Q : Option Value → mm_H → Prop} (K : mm_cx p R s m args meth c b qs qv B SL xs D dA ow ini cc cd mc ms) : mm_r_sald SL xs cs am cd mc ms rt Q (mm_XW p l e R s m args below meth c b qs B D dA QW) := by
  intro pc L h cc0 ss0 i st hd h0 k0
  intro H locs ls hH hS hl
  obtain ⟨hx, hb, hown, hts, hSK, hini, hck, hmc, hms, hfr, hlo, hB⟩ := id K
  obtain ⟨hdg, hcr⟩ := mm_row hck hd
  exact va_sld hx hb hSK.2.2.2.1 hSK.2.2.2.2.2.1 (Nat.not_le.mpr hSK.2.2.2.2.1) hS h0 hdg (k0 H locs ls hH hS hl)
theorem ss_slen {p : Program} {l : Launch} {e : Env} {R : Room} {s : State} {m : MethodId} {args : Array Value} {below : List Frame} {meth : Method} {c : Code} {b qs qv B SL : Nat} {xs : Nat → Int32} {D : va_G} {dA : FieldType → ClassId} {QW : State → Prop} {ow : Nat} {ini : Bool} {cc : ByteArray} {cd : List (Nat × mm_R)} {mc ms : Nat} {cs : mm_Cs} {am : Nat → Nat × Nat} {rt : Option FieldType} {Q : Option Value → mm_H → Prop} (K : mm_cx p R s m args meth c b qs qv B SL xs D dA ow ini cc cd mc ms) : mm_r_slen SL xs cs am cd mc ms rt Q (mm_XW p l e R s m args below meth c b qs B D dA QW) := by
  intro pc L h cc0 ss0 st hd  k0
  intro H locs ls hH hS hl
  obtain ⟨hx, hb, hown, hts, hSK, hini, hck, hmc, hms, hfr, hlo, hB⟩ := id K
  obtain ⟨hdg, hcr⟩ := mm_row hck hd
  exact va_slen hx hb hSK.2.2.2.1 hSK.2.2.2.2.2.1 (Nat.not_le.mpr hSK.2.2.2.2.1) hS hdg (k0 H locs ls hH hS hl)
theorem ss_alen {p : Program} {l : Launch} {e : Env} {R : Room} {s : State} {m : MethodId} {args : Array Value} {below : List Frame} {meth : Method} {c : Code} {b qs qv B SL : Nat} {xs : Nat → Int32} {D : va_G} {dA : FieldType → ClassId} {QW : State → Prop} {ow : Nat} {ini : Bool} {cc : ByteArray} {cd : List (Nat × mm_R)} {mc ms : Nat} {cs : mm_Cs} {am : Nat → Nat × Nat} {rt : Option FieldType} {Q : Option Value → mm_H → Prop} (K : mm_cx p R s m args meth c b qs qv B SL xs D dA ow ini cc cd mc ms) : mm_r_alen SL xs cs am cd mc ms rt Q (mm_XW p l e R s m args below meth c b qs B D dA QW) := by
  intro pc L h cc0 ss0 ty a n st hd h0 h1 k0
  intro H locs ls hH hS hl
  obtain ⟨hx, hb, hown, hts, hSK, hini, hck, hmc, hms, hfr, hlo, hB⟩ := id K
  obtain ⟨hdg, hcr⟩ := mm_row hck hd
  have ha := mm_at_in hH.2.2.1 h0 (fun q => by cases q; exact absurd h1 (by decide))
  have hw := mm_ws_get (b := b) (qs := qs) (B := B) (dA := dA) ha
  rw [mm_arr h0] at hw
  obtain ⟨t9, ht9⟩ := mm_tys_get (dA := dA) (ty := ty) h1
  exact va_alen hx hb hSK.1 hH.2.2.2 (mm_ix a - 2) t9 hw ht9 rfl hdg (k0 H locs ls hH hS hl)
theorem ss_iast {p : Program} {l : Launch} {e : Env} {R : Room} {s : State} {m : MethodId} {args : Array Value} {below : List Frame} {meth : Method} {c : Code} {b qs qv B SL : Nat} {xs : Nat → Int32} {D : va_G} {dA : FieldType → ClassId} {QW : State → Prop} {ow : Nat} {ini : Bool} {cc : ByteArray} {cd : List (Nat × mm_R)} {mc ms : Nat} {cs : mm_Cs} {am : Nat → Nat × Nat} {rt : Option FieldType} {Q : Option Value → mm_H → Prop} (K : mm_cx p R s m args meth c b qs qv B SL xs D dA ow ini cc cd mc ms) : mm_r_iast SL xs cs am cd mc ms rt Q (mm_XW p l e R s m args below meth c b qs B D dA QW) := by
  intro pc L h cc0 ss0 a n i x st hd h0 h1 k0
  intro H locs ls hH hS hl
  obtain ⟨hx, hb, hown, hts, hSK, hini, hck, hmc, hms, hfr, hlo, hB⟩ := id K
  obtain ⟨hdg, hcr⟩ := mm_row hck hd
  have ha := mm_at_in hH.2.2.1 h0 (fun q => by cases q)
  have hw := mm_ws_get (b := b) (qs := qs) (B := B) (dA := dA) ha
  rw [mm_arr h0] at hw
  obtain ⟨t9, ht9⟩ := mm_tys_get (dA := dA) (ty := .int) rfl
  have hat0 := hH.2.2.2 (mm_ix a - 2) _ hw
  refine W.iast hx hb hat0 ((hSK.1.2 t9 _ ht9).1 n (fun j => Value.int (h.2.2.1 a j))) (fun q => by cases q) (by show ¬ (i < 0 ∨ (arrV _ _ _).slots.size ≤ _); rw [arrV_size]; exact h1) rfl rfl hdg fun H1 e z oq => ?_
  refine k0 H1 _ ls (mm_HR_set (h2 := mm_pI h a i.toNatClampNeg x) hH ha rfl rfl (fun i hi => mm_e_pI i hi) ?_ z oq) (hS.put z oq (mm_ge ha)) hl
  rw [mm_arr (h := mm_pI h a i.toNatClampNeg x) (show (mm_pI h a i.toNatClampNeg x).2.1 a = .inl (.int, n) from h0)]
  show H1[_]? = some (vp_cell (dA .int) (n, .inl (mm_u h.2.2.1 a i.toNatClampNeg x a)))
  rw [e]
  show some (Cell.setSlot (vp_cell (dA .int) (n, .inl (h.2.2.1 a))) _ _) = _
  rw [vp_cell_i, vp_cell_i, arrV_store]
  congr 2
  funext q
  by_cases hq : q = i.toNatClampNeg
  · subst hq
    simp [updV, mm_u]
  · simp [updV, mm_u, hq]
theorem ss_bast {p : Program} {l : Launch} {e : Env} {R : Room} {s : State} {m : MethodId} {args : Array Value} {below : List Frame} {meth : Method} {c : Code} {b qs qv B SL : Nat} {xs : Nat → Int32} {D : va_G} {dA : FieldType → ClassId} {QW : State → Prop} {ow : Nat} {ini : Bool} {cc : ByteArray} {cd : List (Nat × mm_R)} {mc ms : Nat} {cs : mm_Cs} {am : Nat → Nat × Nat} {rt : Option FieldType} {Q : Option Value → mm_H → Prop} (K : mm_cx p R s m args meth c b qs qv B SL xs D dA ow ini cc cd mc ms) : mm_r_bast SL xs cs am cd mc ms rt Q (mm_XW p l e R s m args below meth c b qs B D dA QW) := by
  intro pc L h cc0 ss0 a n i x st hd h0 h1 k0
  intro H locs ls hH hS hl
  obtain ⟨hx, hb, hown, hts, hSK, hini, hck, hmc, hms, hfr, hlo, hB⟩ := id K
  obtain ⟨hdg, hcr⟩ := mm_row hck hd
  have ha := mm_at_in hH.2.2.1 h0 (fun q => by cases q)
  have hw := mm_ws_get (b := b) (qs := qs) (B := B) (dA := dA) ha
  rw [mm_arr h0] at hw
  obtain ⟨t9, ht9⟩ := mm_tys_get (dA := dA) (ty := .byte) rfl
  have hat0 := hH.2.2.2 (mm_ix a - 2) _ hw
  refine W.bast hx hb hat0 ((hSK.1.2 t9 _ ht9).1 n (fun j => Value.int (h.2.2.1 a j))) (fun q => by cases q) (by show ¬ (i < 0 ∨ (arrV _ _ _).slots.size ≤ _); rw [arrV_size]; exact h1) rfl rfl hdg fun H1 e z oq => ?_
  refine k0 H1 _ ls (mm_HR_set (h2 := mm_pI h a i.toNatClampNeg x.toInt8.toInt32) hH ha rfl rfl (fun i hi => mm_e_pI i hi) ?_ z oq) (hS.put z oq (mm_ge ha)) hl
  rw [mm_arr (h := mm_pI h a i.toNatClampNeg x.toInt8.toInt32) (show (mm_pI h a i.toNatClampNeg x.toInt8.toInt32).2.1 a = .inl (.byte, n) from h0)]
  show H1[_]? = some (vp_cell (dA .byte) (n, .inl (mm_u h.2.2.1 a i.toNatClampNeg x.toInt8.toInt32 a)))
  rw [e]
  show some (Cell.setSlot (vp_cell (dA .byte) (n, .inl (h.2.2.1 a))) _ _) = _
  rw [vp_cell_i, vp_cell_i, arrV_store]
  congr 2
  funext q
  by_cases hq : q = i.toNatClampNeg
  · subst hq
    simp [updV, mm_u, narrow]
  · simp [updV, mm_u, hq]
theorem ss_zast {p : Program} {l : Launch} {e : Env} {R : Room} {s : State} {m : MethodId} {args : Array Value} {below : List Frame} {meth : Method} {c : Code} {b qs qv B SL : Nat} {xs : Nat → Int32} {D : va_G} {dA : FieldType → ClassId} {QW : State → Prop} {ow : Nat} {ini : Bool} {cc : ByteArray} {cd : List (Nat × mm_R)} {mc ms : Nat} {cs : mm_Cs} {am : Nat → Nat × Nat} {rt : Option FieldType} {Q : Option Value → mm_H → Prop} (K : mm_cx p R s m args meth c b qs qv B SL xs D dA ow ini cc cd mc ms) : mm_r_zast SL xs cs am cd mc ms rt Q (mm_XW p l e R s m args below meth c b qs B D dA QW) := by
  intro pc L h cc0 ss0 a n i x st hd h0 h1 h2 k0
  intro H locs ls hH hS hl
  obtain ⟨hx, hb, hown, hts, hSK, hini, hck, hmc, hms, hfr, hlo, hB⟩ := id K
  obtain ⟨hdg, hcr⟩ := mm_row hck hd
  have ha := mm_at_in hH.2.2.1 h0 (fun q => by cases q)
  have hw := mm_ws_get (b := b) (qs := qs) (B := B) (dA := dA) ha
  rw [mm_arr h0] at hw
  obtain ⟨t9, ht9⟩ := mm_tys_get (dA := dA) (ty := .boolean) rfl
  have hat0 := hH.2.2.2 (mm_ix a - 2) _ hw
  refine W.zast hx hb hat0 ((hSK.1.2 t9 _ ht9).1 n (fun j => Value.int (h.2.2.1 a j))) (fun q => by cases q) (by show ¬ (i < 0 ∨ (arrV _ _ _).slots.size ≤ _); rw [arrV_size]; exact h1) rfl rfl hdg fun H1 e z oq => ?_
  refine k0 H1 _ ls (mm_HR_set (h2 := mm_pI h a i.toNatClampNeg x) hH ha rfl rfl (fun i hi => mm_e_pI i hi) ?_ z oq) (hS.put z oq (mm_ge ha)) hl
  rw [mm_arr (h := mm_pI h a i.toNatClampNeg x) (show (mm_pI h a i.toNatClampNeg x).2.1 a = .inl (.boolean, n) from h0)]
  show H1[_]? = some (vp_cell (dA .boolean) (n, .inl (mm_u h.2.2.1 a i.toNatClampNeg x a)))
  rw [e]
  show some (Cell.setSlot (vp_cell (dA .boolean) (n, .inl (h.2.2.1 a))) _ _) = _
  rw [vp_cell_i, vp_cell_i, arrV_store]
  congr 2
  funext q
  by_cases hq : q = i.toNatClampNeg
  · subst hq
    simp [updV, mm_u, narrow]
    rcases h2 with q | q <;> (subst q; rfl)
  · simp [updV, mm_u, hq]
theorem ss_last {p : Program} {l : Launch} {e : Env} {R : Room} {s : State} {m : MethodId} {args : Array Value} {below : List Frame} {meth : Method} {c : Code} {b qs qv B SL : Nat} {xs : Nat → Int32} {D : va_G} {dA : FieldType → ClassId} {QW : State → Prop} {ow : Nat} {ini : Bool} {cc : ByteArray} {cd : List (Nat × mm_R)} {mc ms : Nat} {cs : mm_Cs} {am : Nat → Nat × Nat} {rt : Option FieldType} {Q : Option Value → mm_H → Prop} (K : mm_cx p R s m args meth c b qs qv B SL xs D dA ow ini cc cd mc ms) : mm_r_last SL xs cs am cd mc ms rt Q (mm_XW p l e R s m args below meth c b qs B D dA QW) := by
  intro pc L h cc0 ss0 a n i x st hd h0 h1 k0
  intro H locs ls hH hS hl
  obtain ⟨hx, hb, hown, hts, hSK, hini, hck, hmc, hms, hfr, hlo, hB⟩ := id K
  obtain ⟨hdg, hcr⟩ := mm_row hck hd
  have ha := mm_at_in hH.2.2.1 h0 (fun q => by cases q)
  have hw := mm_ws_get (b := b) (qs := qs) (B := B) (dA := dA) ha
  rw [mm_arr h0] at hw
  obtain ⟨t9, ht9⟩ := mm_tys_get (dA := dA) (ty := .long) rfl
  have hat0 := hH.2.2.2 (mm_ix a - 2) _ hw
  refine W.last hx hb hat0 ((hSK.1.2 t9 _ ht9).1 n (fun j => Value.long (h.2.2.2.1 a j))) (fun q => by cases q) (by show ¬ (i < 0 ∨ (arrV _ _ _).slots.size ≤ _); rw [arrV_size]; exact h1) rfl rfl hdg fun H1 e z oq => ?_
  refine k0 H1 _ ls (mm_HR_set (h2 := mm_pJ h a i.toNatClampNeg x) hH ha rfl rfl (fun i hi => mm_e_pJ i hi) ?_ z oq) (hS.put z oq (mm_ge ha)) hl
  rw [mm_arr (h := mm_pJ h a i.toNatClampNeg x) (show (mm_pJ h a i.toNatClampNeg x).2.1 a = .inl (.long, n) from h0)]
  show H1[_]? = some (vp_cell (dA .long) (n, .inr (.inl (mm_u h.2.2.2.1 a i.toNatClampNeg x a))))
  rw [e]
  show some (Cell.setSlot (vp_cell (dA .long) (n, .inr (.inl (h.2.2.2.1 a)))) _ _) = _
  rw [vp_cell_l, vp_cell_l, arrV_store]
  congr 2
  funext q
  by_cases hq : q = i.toNatClampNeg
  · subst hq
    simp [updV, mm_u]
  · simp [updV, mm_u, hq]
theorem ss_wk {p : Program} {l : Launch} {e : Env} {R : Room} {s : State} {m : MethodId} {args : Array Value} {below : List Frame} {meth : Method} {c : Code} {b qs qv B SL : Nat} {xs : Nat → Int32} {D : va_G} {dA : FieldType → ClassId} {QW : State → Prop} {ow : Nat} {ini : Bool} {cc : ByteArray} {cd : List (Nat × mm_R)} {mc ms : Nat} {cs : mm_Cs} {am : Nat → Nat × Nat} {rt : Option FieldType} {Q : Option Value → mm_H → Prop} (K : mm_cx p R s m args meth c b qs qv B SL xs D dA ow ini cc cd mc ms) : mm_r_wk SL xs cs am cd mc ms rt Q (mm_XW p l e R s m args below meth c b qs B D dA QW) := by
  intro pc L h cc0 ss0 L1 st  h0 k0
  intro H locs ls hH hS hl
  obtain ⟨hx, hb, hown, hts, hSK, hini, hck, hmc, hms, hfr, hlo, hB⟩ := id K
  exact k0 H locs ls hH hS (mm_wkL hl h0)
theorem mm_oi1 : Cond.instanceMethod objectInit ∈ mm_TT := mm_in (i := 29) (by decide +kernel) rfl
theorem mm_oi2 : Cond.code objectInit ⟨#[0xb1]⟩ 1 none ∈ mm_TT := mm_in (i := 30) (by rfl) rfl
theorem ss_objI {p : Program} {l : Launch} {e : Env} {R : Room} {s : State} {m : MethodId} {args : Array Value} {below : List Frame} {meth : Method} {c : Code} {b qs qv B SL : Nat} {xs : Nat → Int32} {D : va_G} {dA : FieldType → ClassId} {QW : State → Prop} {ow : Nat} {ini : Bool} {cc : ByteArray} {cd : List (Nat × mm_R)} {mc ms : Nat} {cs : mm_Cs} {am : Nat → Nat × Nat} {rt : Option FieldType} {Q : Option Value → mm_H → Prop} (K : mm_cx p R s m args meth c b qs qv B SL xs D dA ow ini cc cd mc ms) : mm_r_objI SL xs cs am cd mc ms rt Q (mm_XW p l e R s m args below meth c b qs B D dA QW) := by
  intro pc L h cc0 ss0 i a st hd h0 k0
  intro H locs ls hH hS hl
  obtain ⟨hx, hb, hown, hts, hSK, hini, hck, hmc, hms, hfr, hlo, hB⟩ := id K
  obtain ⟨hdg, hcr⟩ := mm_row hck hd
  rcases mm_fi_all ow _ (of_decide_eq_true hcr) with ⟨_, hw⟩ | ⟨h9, _⟩
  · refine W.objInit hx hb hown (hts _ hw) (hts _ mm_oi1) (hts _ mm_oi2) rfl hl.2.1 rfl hdg (Nat.le_trans (by decide) hfr) ?_ (k0 H locs ls hH hS hl)
    have h8 := Nat.le_of_ble_eq_true h0
    show 2 * 0 + ((st.map (mm_v (mm_a b qs B))).map fun v => v.category).sum + 12 ≤ _
    rw [mm_catS]
    omega
  · rcases h9 with ⟨h9, _⟩ | ⟨h9, _⟩
    · exact absurd h9 (show ¬ (7 : Int) = 0 by decide)
    · exact absurd h9 (show ¬ (7 : Int) = 1 by decide)
