
theorem mm_e_new {ρ : Nat → Nat} {dA : FieldType → ClassId} {h : mm_H} {kd : (FieldType × Nat) ⊕ Nat} (i : Nat) (hi : i ≠ mm_ad h.1) : mm_e ρ dA (mm_new h kd) i = mm_e ρ dA h i := by
  unfold mm_e mm_ac mm_fv mm_new
  simp only [if_neg hi]
theorem mm_a_sz {b qs B : Nat} {n : Nat} (hn : 2 ≤ n) : mm_a b qs B (mm_ad n) = B + (n - 2) := by
  rw [mm_a_ge (by rw [mm_ix_ad]; exact hn), mm_ix_ad]
theorem mm_HR_new {b qs B : Nat} {D : va_G} {dA : FieldType → ClassId} {h : mm_H} {H H1 : Heap} {kd : (FieldType × Nat) ⊕ Nat} (hH : mm_HR b qs B D dA h H) (hat : va_at D vwCl (H.size, mm_e (mm_a b qs B) dA (mm_new h kd) (mm_ad h.1)) H1) (z1 : H1.size = H.size + 1) (o1 : ∀ q : Nat, q < H.size → H1[q]? = H[q]?) : mm_HR b qs B D dA (mm_new h kd) H1 := by
  obtain ⟨g1, g2, g3, g4⟩ := hH
  refine ⟨by show 2 ≤ h.1 + 1; omega, by show H1.size = B + (h.1 + 1 - 2); omega, fun a ha => ?_, ?_⟩
  · have ha : ¬ (2 ≤ mm_ix a ∧ mm_ix a < h.1 + 1) := ha
    show (if a = mm_ad h.1 then kd else h.2.1 a) = _
    rw [if_neg (fun q => ha (by rw [q, mm_ix_ad]; omega))]
    exact g3 a (by omega)
  · rw [← mm_ws_new (e := mm_e (mm_a b qs B) dA (mm_new h kd) (mm_ad h.1)) (h2 := mm_new h kd) g1 rfl (fun i hi => mm_e_new i hi) rfl]
    refine va_P.app (va_P.kept g4 (fun k q hk => o1 q.1 ((g4 k q hk).lt))) (fun k q hk => ?_)
    have hz : k < 1 := (List.getElem?_eq_some_iff.mp hk).1
    rw [show k = 0 by omega] at hk
    cases hk
    rw [← g2]
    exact hat
theorem mm_S_new {A : Nat → Prop} {H0 H H1 : Heap} {locs : List Loc} (hS : va_S A H0 H locs) (z1 : H1.size = H.size + 1) (o1 : ∀ q : Nat, q < H.size → H1[q]? = H[q]?) : va_S A H0 H1 locs := ⟨Nat.le_trans hS.1 (by omega), fun x h1 h2 => (o1 x (Nat.lt_of_lt_of_le h1 hS.1)).trans (hS.2.1 x h1 h2), hS.2.2⟩
theorem mm_szW {p : Program} {l : Launch} {e : Env} {R : Room} {s : State} {m : MethodId} {args : Array Value} {below : List Frame} {meth : Method} {c : Code} {H : Heap} {locs : List Loc} {cells slots : Nat} {Q : State → Prop} {g : JFrame} (k : H.size ≤ s.heap.size + cells → W p l e R s m args below meth c H locs cells slots Q g) : W p l e R s m args below meth c H locs cells slots Q g := by
  intro T hT X
  exact k (by rw [← hT]; exact X.heapSize) T hT X

theorem mm_ac0 : Cond.arrayClass .int ∈ mm_TT := mm_in (i := 85) (by decide +kernel) rfl
theorem mm_ac1 : Cond.arrayClass .byte ∈ mm_TT := mm_in (i := 357) (by decide +kernel) rfl
theorem mm_ac2 : Cond.arrayClass .boolean ∈ mm_TT := mm_in (i := 380) (by decide +kernel) rfl
theorem mm_ac3 : Cond.arrayClass .long ∈ mm_TT := mm_in (i := 165) (by decide +kernel) rfl
theorem mm_cy1 : Cond.native arraycopyName ∈ mm_TT := mm_in (i := 718) (by decide +kernel) rfl
theorem mm_cy2 : Cond.static arraycopyName ∈ mm_TT := mm_in (i := 717) (by decide +kernel) rfl
theorem mm_cy3 : Cond.initialized "java/lang/System" ∈ mm_TT := mm_in (i := 21) (by decide +kernel) rfl
theorem mm_t3_0 : ∀ k, k < 2 → mm_fk (mm_ty 0 k) ≠ 3 := by decide
theorem mm_t3_1 : ∀ k, k < 11 → mm_fk (mm_ty 1 k) ≠ 3 := by decide
theorem mm_t3_2 : ∀ k, k < 2 → mm_fk (mm_ty 2 k) ≠ 3 := by decide
theorem mm_t3_3 : ∀ k, k < 4 → mm_fk (mm_ty 3 k) ≠ 3 := by decide
theorem mm_t3_4 : ∀ k, k < 19 → mm_fk (mm_ty 4 k) ≠ 3 := by decide
theorem mm_t3_5 : ∀ k, k < 6 → mm_fk (mm_ty 5 k) ≠ 3 := by decide
theorem mm_t3_6 : ∀ k, k < 6 → mm_fk (mm_ty 6 k) ≠ 3 := by decide
theorem mm_t3_7 : ∀ k, k < 9 → mm_fk (mm_ty 7 k) ≠ 3 := by decide
theorem mm_t3_8 : ∀ k, k < 10 → mm_fk (mm_ty 8 k) ≠ 3 := by decide
theorem mm_t3_9 : ∀ k, k < 99 → mm_fk (mm_ty 9 k) ≠ 3 := by decide
theorem mm_t3 {ci : Nat} {r : vw_C} (h : vwCl[ci]? = some r) : ∀ k, k < r.2.2 → mm_fk (mm_ty ci k) ≠ 3 := by
  match ci, h with
  | 0, h => cases h; exact mm_t3_0
  | 1, h => cases h; exact mm_t3_1
  | 2, h => cases h; exact mm_t3_2
  | 3, h => cases h; exact mm_t3_3
  | 4, h => cases h; exact mm_t3_4
  | 5, h => cases h; exact mm_t3_5
  | 6, h => cases h; exact mm_t3_6
  | 7, h => cases h; exact mm_t3_7
  | 8, h => cases h; exact mm_t3_8
  | 9, h => cases h; exact mm_t3_9
  | n + 10, h => cases h
theorem mm_dv {ty : FieldType} {ρ : Nat → Nat} {h : mm_H} {kd : (FieldType × Nat) ⊕ Nat} {k : Nat} (h3 : mm_fk ty ≠ 3) : defaultValue ty = mm_fv ρ (mm_new h kd) (mm_ad h.1) k (mm_fk ty) := by
  have e1 : (mm_new h kd).2.2.1 (mm_ad h.1) k = 0 := by show (if mm_ad h.1 = mm_ad h.1 then (0 : Int32) else _) = 0; rw [if_pos rfl]
  have e2 : (mm_new h kd).2.2.2.1 (mm_ad h.1) k = 0 := by show (if mm_ad h.1 = mm_ad h.1 then (0 : Int64) else _) = 0; rw [if_pos rfl]
  have e3 : (mm_new h kd).2.2.2.2 (mm_ad h.1) k = none := by show (if mm_ad h.1 = mm_ad h.1 then (none : Option Nat) else _) = none; rw [if_pos rfl]
  cases ty <;> first | (exact absurd rfl h3) | (simp only [mm_fk, mm_fv, e1, e2, e3, defaultValue]; rfl) | (simp only [mm_fk, mm_fv, e1, e2, e3, defaultValue])
theorem ss_new {p : Program} {l : Launch} {e : Env} {R : Room} {s : State} {m : MethodId} {args : Array Value} {below : List Frame} {meth : Method} {c : Code} {b qs qv B SL : Nat} {xs : Nat → Int32} {D : va_G} {dA : FieldType → ClassId} {QW : State → Prop} {ow : Nat} {ini : Bool} {cc : ByteArray} {cd : List (Nat × mm_R)} {mc ms : Nat} {cs : mm_Cs} {am : Nat → Nat × Nat} {rt : Option FieldType} {Q : Option Value → mm_H → Prop} (K : mm_cx p R s m args meth c b qs qv B SL xs D dA ow ini cc cd mc ms) : mm_r_new SL xs cs am cd mc ms rt Q (mm_XW p l e R s m args below meth c b qs B D dA QW) := by
  intro pc L h cc0 ss0 i ci N st hd h0 h1 k0
  intro H locs ls hH hS hl
  obtain ⟨hx, hb, hown, hts, hSK, hini, hck, hmc, hms, hfr, hlo, hB⟩ := id K
  obtain ⟨hdg, hcr⟩ := mm_row hck hd
  obtain ⟨r9, hr, hN, hw1, hw2, hw3⟩ := mm_fc_all ow _ (of_decide_eq_true hcr)
  have hr : vwCl[ci]? = some r9 := hr
  have hN : N = r9.2.2 := hN
  subst hN
  obtain ⟨g1, g2, g3, g4, g5⟩ := mm_cl hr
  have hKn := hSK.1.1 ci _ hr
  refine W.newcK hx hb hown (hts _ hw1) (hts _ hw2) (hts _ hw3) rfl hdg (by rw [← hmc]; exact h0) (by rw [← hms]; exact h1) hKn.2.1 rfl fun H1 kC hkC e1 z1 o1 => ?_
  have := k0 H1 locs ls (mm_HR_new hH ?_ z1 o1) (mm_S_new hS z1 o1) hl
  · rw [List.map_cons] at this
    show W p l e R s m args below meth c H1 locs (cc0 + 1) (ss0 + r9.2.2) QW (F0 m (pc + 3) ls (.ref H.size :: _))
    rw [show Value.ref H.size = mm_v (mm_a b qs B) (.ref (mm_ad h.1)) by show _ = Value.ref (mm_a b qs B (mm_ad h.1)); rw [mm_a_sz hH.1, hH.2.1]]
    exact this
  · rw [mm_obj (h := mm_new h (.inr ci)) (ci := ci) (by show (if mm_ad h.1 = mm_ad h.1 then _ else _) = _; rw [if_pos rfl]), g5]
    refine ⟨_, hr, (u_born (fun k => mm_ty ci k) hts g1 hKn hkC e1 g2).to (fun k hk => ?_)⟩
    show defaultValue (mm_ty ci k) = ((List.range r9.2.2).map (fun k => mm_fv (mm_a b qs B) (mm_new h (.inr ci)) (mm_ad h.1) k (mm_fk (mm_ty ci k)))).getD k .null
    rw [List.getD_eq_getElem?_getD, List.getElem?_map, List.getElem?_range hk]
    exact mm_dv (mm_t3 hr k hk)
theorem ss_newa {p : Program} {l : Launch} {e : Env} {R : Room} {s : State} {m : MethodId} {args : Array Value} {below : List Frame} {meth : Method} {c : Code} {b qs qv B SL : Nat} {xs : Nat → Int32} {D : va_G} {dA : FieldType → ClassId} {QW : State → Prop} {ow : Nat} {ini : Bool} {cc : ByteArray} {cd : List (Nat × mm_R)} {mc ms : Nat} {cs : mm_Cs} {am : Nat → Nat × Nat} {rt : Option FieldType} {Q : Option Value → mm_H → Prop} (K : mm_cx p R s m args meth c b qs qv B SL xs D dA ow ini cc cd mc ms) : mm_r_newa SL xs cs am cd mc ms rt Q (mm_XW p l e R s m args below meth c b qs B D dA QW) := by
  intro pc L h cc0 ss0 ty n N st hd h0 h1 h2 h3 h4 h5 k0
  intro H locs ls hH hS hl
  obtain ⟨hx, hb, hown, hts, hSK, hini, hck, hmc, hms, hfr, hlo, hB⟩ := id K
  obtain ⟨hdg, hcr⟩ := mm_row hck hd
  obtain ⟨t9, ht9⟩ := mm_tys_get (dA := dA) h0
  obtain ⟨hA1, hA2⟩ := hSK.1.2 t9 _ ht9
  have harr : (Cond.arrayClass (newarray.typeOf ty)).before args s = true := by
    cases ty <;> first | exact hts _ mm_ac0 | exact hts _ mm_ac1 | exact hts _ mm_ac2 | exact hts _ mm_ac3 | cases h0
  have hbytes : N * componentBytes (newarray.typeOf ty) ≤ 536870912 := by
    have : componentBytes (newarray.typeOf ty) ≤ 8 := by cases ty <;> decide
    have := Nat.mul_le_mul h3 this
    omega
  refine va_newaK hx hb harr rfl hdg rfl h1 h2 hbytes (by rw [← hmc]; exact h4) (by rw [← hms]; exact h5) rfl fun H1 cA e1 z1 o1 hAr hNm => ?_
  have hcA : cA = dA (newarray.typeOf ty) := by
    have : s.vm.findClass ("[" ++ (newarray.typeOf ty).toString) = some (dA (newarray.typeOf ty)) := by cases ty <;> first | exact hA2 | cases h0
    exact Option.some.inj (hNm.symm.trans this)
  subst hcA
  have := k0 H1 locs ls (mm_HR_new hH ?_ z1 o1) (mm_S_new hS z1 o1) hl
  · rw [List.map_cons] at this
    show W p l e R s m args below meth c H1 locs (cc0 + 1) (ss0 + N) QW (F0 m (pc + 2) ls (.ref H.size :: _))
    rw [show Value.ref H.size = mm_v (mm_a b qs B) (.ref (mm_ad h.1)) by show _ = Value.ref (mm_a b qs B (mm_ad h.1)); rw [mm_a_sz hH.1, hH.2.1]]
    exact this
  · rw [mm_arr (h := mm_new h (.inl (newarray.typeOf ty, N))) (ty := newarray.typeOf ty) (n := N) (by show (if mm_ad h.1 = mm_ad h.1 then _ else _) = _; rw [if_pos rfl])]
    show H1[H.size]? = some (vp_cell (dA (newarray.typeOf ty)) (mm_ac _ (mm_new h (.inl (newarray.typeOf ty, N))) (mm_ad h.1) N (mm_fk (newarray.typeOf ty))))
    rw [e1]
    have f1 : (mm_new h (.inl (newarray.typeOf ty, N))).2.2.1 (mm_ad h.1) = fun _ => 0 := by funext j; show (if mm_ad h.1 = mm_ad h.1 then (0 : Int32) else _) = 0; rw [if_pos rfl]
    have f2 : (mm_new h (.inl (newarray.typeOf ty, N))).2.2.2.1 (mm_ad h.1) = fun _ => 0 := by funext j; show (if mm_ad h.1 = mm_ad h.1 then (0 : Int64) else _) = 0; rw [if_pos rfl]
    unfold mm_ac
    rw [f1, f2]
    cases ty <;> first | rfl | cases h0
theorem ss_newq {p : Program} {l : Launch} {e : Env} {R : Room} {s : State} {m : MethodId} {args : Array Value} {below : List Frame} {meth : Method} {c : Code} {b qs qv B SL : Nat} {xs : Nat → Int32} {D : va_G} {dA : FieldType → ClassId} {QW : State → Prop} {ow : Nat} {ini : Bool} {cc : ByteArray} {cd : List (Nat × mm_R)} {mc ms : Nat} {cs : mm_Cs} {am : Nat → Nat × Nat} {rt : Option FieldType} {Q : Option Value → mm_H → Prop} (K : mm_cx p R s m args meth c b qs qv B SL xs D dA ow ini cc cd mc ms) : mm_r_newq SL xs cs am cd mc ms rt Q (mm_XW p l e R s m args below meth c b qs B D dA QW) := by
  intro pc L h cc0 ss0 i n N st hd h0 h1 h2 h3 h4 k0
  intro H locs ls hH hS hl
  obtain ⟨hx, hb, hown, hts, hSK, hini, hck, hmc, hms, hfr, hlo, hB⟩ := id K
  obtain ⟨hdg, hcr⟩ := mm_row hck hd
  have hw1 := mm_fq_all ow _ (of_decide_eq_true hcr)
  obtain ⟨t9, ht9⟩ := mm_tys_get (dA := dA) (ty := .object RX1) (by decide)
  obtain ⟨hA1, kA9, comp9, a1, a2, a3, a4⟩ := hSK.1.2 t9 _ ht9
  subst h1
  refine W.anew hx hb hown (hts _ hw1) (va_AO.use hSK.2.2.1) rfl hdg rfl h0 (by omega) (by rw [← hmc]; exact h3) (by rw [← hms]; exact h4) fun cA kA comp f1 f2 f3 f4 => ?_
  have hcA : cA = dA (.object RX1) := Option.some.inj (f1.symm.trans a4)
  subst hcA
  generalize hH1 : H.push ({ cls := dA (.object RX1), slots := Array.replicate n.toNatClampNeg .null, vm := .none } : Cell) = H1
  have z1 : H1.size = H.size + 1 := by rw [← hH1, Array.size_push]
  have e1 : H1[H.size]? = some (arrV (dA (.object RX1)) n.toNatClampNeg (fun _ => .null)) := by rw [← hH1, Array.getElem?_push_size, ← arrV_new]
  have o1 : ∀ q : Nat, q < H.size → H1[q]? = H[q]? := fun q hq => by rw [← hH1, Array.getElem?_push, if_neg (Nat.ne_of_lt hq)]
  have := k0 H1 locs ls (mm_HR_new hH ?_ z1 o1) (mm_S_new hS z1 o1) hl
  · rw [List.map_cons] at this
    show W p l e R s m args below meth c H1 locs (cc0 + 1) (ss0 + n.toNatClampNeg) QW (F0 m (pc + 3) ls (.ref H.size :: _))
    rw [show Value.ref H.size = mm_v (mm_a b qs B) (.ref (mm_ad h.1)) by show _ = Value.ref (mm_a b qs B (mm_ad h.1)); rw [mm_a_sz hH.1, hH.2.1]]
    exact this
  · rw [mm_arr (h := mm_new h (.inl (.object RX1, n.toNatClampNeg))) (ty := .object RX1) (n := n.toNatClampNeg) (by show (if mm_ad h.1 = mm_ad h.1 then _ else _) = _; rw [if_pos rfl])]
    show H1[H.size]? = some (vp_cell (dA (.object RX1)) (mm_ac _ (mm_new h (.inl (.object RX1, n.toNatClampNeg))) (mm_ad h.1) n.toNatClampNeg 2))
    rw [e1]
    have f1 : (mm_new h (.inl (.object RX1, n.toNatClampNeg))).2.2.2.2 (mm_ad h.1) = fun _ => none := by funext j; show (if mm_ad h.1 = mm_ad h.1 then (none : Option Nat) else _) = none; rw [if_pos rfl]
    unfold mm_ac
    rw [f1]
    rfl
theorem ss_aast {p : Program} {l : Launch} {e : Env} {R : Room} {s : State} {m : MethodId} {args : Array Value} {below : List Frame} {meth : Method} {c : Code} {b qs qv B SL : Nat} {xs : Nat → Int32} {D : va_G} {dA : FieldType → ClassId} {QW : State → Prop} {ow : Nat} {ini : Bool} {cc : ByteArray} {cd : List (Nat × mm_R)} {mc ms : Nat} {cs : mm_Cs} {am : Nat → Nat × Nat} {rt : Option FieldType} {Q : Option Value → mm_H → Prop} (K : mm_cx p R s m args meth c b qs qv B SL xs D dA ow ini cc cd mc ms) : mm_r_aast SL xs cs am cd mc ms rt Q (mm_XW p l e R s m args below meth c b qs B D dA QW) := by
  intro pc L h cc0 ss0 a n v i st hd h0 h1 h2 k0
  intro H locs ls hH hS hl
  obtain ⟨hx, hb, hown, hts, hSK, hini, hck, hmc, hms, hfr, hlo, hB⟩ := id K
  obtain ⟨hdg, hcr⟩ := mm_row hck hd
  have ha := mm_at_in hH.2.2.1 h0 (fun q => by cases q)
  have hw := mm_ws_get (b := b) (qs := qs) (B := B) (dA := dA) ha
  rw [mm_arr h0] at hw
  have hv := mm_at_in hH.2.2.1 h2 (fun q => by cases q)
  have hwv := mm_ws_get (b := b) (qs := qs) (B := B) (dA := dA) hv
  rw [mm_obj h2] at hwv
  obtain ⟨t9, ht9⟩ := mm_tys_get (dA := dA) (ty := .object RX1) (by decide)
  have hlt : i.toNatClampNeg < n := Nat.not_le.mp fun q => h1 (Or.inr q)
  have hi0 : ¬ i < 0 := fun q => h1 (Or.inl q)
  obtain ⟨r', hr', cellV, g1, g2, g3, -⟩ := hH.2.2.2 _ _ hwv
  have hcls := (hSK.1.1 1 _ (rfl : vwCl[1]? = some (RX1, TX1, 11))).2
  obtain ⟨kA, comp, k1, k2, k3, -⟩ := (hSK.1.2 t9 _ ht9).2
  have hcomp : comp = D.1 1 := Option.some.inj (k3.symm.trans hcls.1)
  subst hcomp
  obtain ⟨kC, hkC, -⟩ := hcls.2
  have hat0 := hH.2.2.2 (mm_ix a - 2) _ hw
  refine W.aast hx hb hat0 (fun q h => by cases h) (fun h => by cases h) k1 k2 rfl hkC ⟨hi0, by show _ < (arrV _ _ _).slots.size; rw [arrV_size]; exact hlt⟩ g1 (fun q h => by rw [g3] at h; cases h) (by rw [g2]; exact hkC) (by rw [g2]; exact va_assign hcls) rfl rfl hdg fun H1 e z oq => ?_
  refine k0 H1 _ ls (mm_HR_set (h2 := mm_pR h a i.toNatClampNeg (some v)) hH ha rfl rfl (fun i hi => mm_e_pR i hi) ?_ z oq) (hS.put z oq (mm_ge ha)) hl
  rw [mm_arr (h := mm_pR h a i.toNatClampNeg (some v)) (show (mm_pR h a i.toNatClampNeg (some v)).2.1 a = .inl (.object RX1, n) from h0)]
  show H1[_]? = some (vp_cell (dA (.object RX1)) (n, .inr (.inr (.inr (.inr (fun j => (mm_u h.2.2.2.2 a i.toNatClampNeg (some v) a j).map (mm_a b qs B)))))))
  rw [e]
  show some (Cell.setSlot (vp_cell (dA (.object RX1)) (n, .inr (.inr (.inr (.inr (fun j => (h.2.2.2.2 a j).map (mm_a b qs B))))))) _ _) = _
  rw [vp_cell_q, vp_cell_q, arrV_store]
  congr 2
  funext q
  by_cases hq : q = i.toNatClampNeg
  · subst hq
    simp [updV, mm_u, va_rf]
  · simp [updV, mm_u, hq]
theorem ss_copy {p : Program} {l : Launch} {e : Env} {R : Room} {s : State} {m : MethodId} {args : Array Value} {below : List Frame} {meth : Method} {c : Code} {b qs qv B SL : Nat} {xs : Nat → Int32} {D : va_G} {dA : FieldType → ClassId} {QW : State → Prop} {ow : Nat} {ini : Bool} {cc : ByteArray} {cd : List (Nat × mm_R)} {mc ms : Nat} {cs : mm_Cs} {am : Nat → Nat × Nat} {rt : Option FieldType} {Q : Option Value → mm_H → Prop} (K : mm_cx p R s m args meth c b qs qv B SL xs D dA ow ini cc cd mc ms) : mm_r_copy SL xs cs am cd mc ms rt Q (mm_XW p l e R s m args below meth c b qs B D dA QW) := by
  intro pc L h cc0 ss0 i a b9 n0 n1 sp dp n st hd h0 h1 h2 h3 h4 h5 h6 h7 h8 k0
  intro H locs ls hH hS hl
  obtain ⟨hx, hb, hown, hts, hSK, hini, hck, hmc, hms, hfr, hlo, hB⟩ := id K
  obtain ⟨hdg, hcr⟩ := mm_row hck hd
  subst h8
  have hmt := mm_fs_all ow _ (of_decide_eq_true hcr)
  have hlk : Cond.methodLink (mm_on ow) i arraycopyName ∈ mm_TT := by
    rcases hmt with ⟨_, hw⟩ | ⟨h9, _⟩
    · exact hw
    · exact absurd h9 (show ¬ (7 : Int) = 0 by decide)
  have ha := mm_at_in hH.2.2.1 h0 (fun q => by cases q)
  have hb9 := mm_at_in hH.2.2.1 h1 (fun q => by cases q)
  have hwa := mm_ws_get (b := b) (qs := qs) (B := B) (dA := dA) ha
  have hwb := mm_ws_get (b := b) (qs := qs) (B := B) (dA := dA) hb9
  rw [mm_arr h0] at hwa
  rw [mm_arr h1] at hwb
  obtain ⟨t9, ht9⟩ := mm_tys_get (dA := dA) (ty := .int) rfl
  refine mm_szW (fun hsz => ?_)
  have hcat := Nat.le_of_ble_eq_true h7
  have hnf : nativeFrameWords "java/lang/System" "arraycopy" 5 = 7 := by decide
  have hroom : ((st.map (mm_v (mm_a b qs B))).map fun v => v.category).sum + (nativeFrameWords "java/lang/System" "arraycopy" 5 + 11) ≤ R.locals := by rw [mm_catS, hnf]; omega
  refine va_copyi hx hb hl.2.1.symm hown (hts _ hlk) (hts _ mm_cy1) (hts _ mm_cy2) (hts _ mm_cy3) hSK.1 hH.2.2.2 mm_D hS (mm_ix a - 2) (mm_ix b9 - 2) t9 t9 hwa hwb ht9 ht9 rfl h2 h3 h4 h5 h6 (fun _ _ => rfl) (Nat.le_trans (by decide) hfr) hroom hdg (fun H1 locs1 hP1 _ hS1 => ?_)
  refine mm_szW (fun hsz1 => ?_)
  have hz : H1.size = H.size := by
    have q1 := hS.1
    have q2 := hS1.1
    omega
  refine k0 H1 locs1 ls ⟨hH.1, hz.trans hH.2.1, hH.2.2.1, ?_⟩ hS1 hl
  have hset : (mm_ws (mm_a b qs B) B dA h).set (mm_ix b9 - 2) (mm_a b qs B b9, .inl (dA .int, n1, .inl (va_cpy (h.2.2.1 a) (h.2.2.1 b9) sp.toNatClampNeg dp.toNatClampNeg n.toNatClampNeg))) = mm_ws (mm_a b qs B) B dA (mm_cp h a b9 sp.toNatClampNeg dp.toNatClampNeg n.toNatClampNeg) := by
    refine mm_ws_set (h := h) (h2 := mm_cp h a b9 sp.toNatClampNeg dp.toNatClampNeg n.toNatClampNeg) (mm_a_ge hb9.1) rfl hb9 (fun i hi => ?_) ?_
    · unfold mm_e mm_ac mm_fv mm_cp
      simp only [if_neg hi]
    · rw [mm_arr (h := mm_cp h a b9 sp.toNatClampNeg dp.toNatClampNeg n.toNatClampNeg) (show (mm_cp h a b9 sp.toNatClampNeg dp.toNatClampNeg n.toNatClampNeg).2.1 b9 = .inl (.int, n1) from h1)]
      unfold mm_ac mm_cp
      simp [mm_fk]
  rw [← hset]
  exact hP1
