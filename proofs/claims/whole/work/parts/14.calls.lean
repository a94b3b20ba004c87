
def mm_Wd (y : Nat) : List Cond := Cond.code (mm_M y).1 (mm_M y).2.1 (mm_M y).2.2.1 (mm_M y).2.2.2.1 :: mm_TT
def mm_rm (d y : Nat) : Room := { frames := d + 6, cells := (mm_am y).1, slots := (mm_am y).2, locals := 60 * d + 240 }
def mm_Qc (b qs B : Nat) (D : va_G) (dA : FieldType → ClassId) (Q : Option Value → mm_H → Prop) : Array Value → State → Outcome → State → Prop := fun _ st oc t => (∃ (r : Option Value) (h2 : mm_H), oc = .returned (r.map (mm_v (mm_a b qs B))) ∧ Q r h2 ∧ mm_HR b qs B D dA h2 t.heap) ∧ va_F (fun q => B ≤ q) st t
def mm_Pc (b qs qv B SL : Nat) (xs : Nat → Int32) (D : va_G) (dA : FieldType → ClassId) (args : List Value) (h : mm_H) : Array Value → State → Prop := va_Pc (args.map (mm_v (mm_a b qs B))) (fun U => mm_SK b qs qv B SL xs D dA U ∧ mm_HR b qs B D dA h U.heap)
def mm_Met (l : Launch) (b qs qv B SL : Nat) (xs : Nat → Int32) (D : va_G) (dA : FieldType → ClassId) (d y : Nat) (args : List Value) (h : mm_H) (Q : Option Value → mm_H → Prop) : Prop := Met l (mm_M y).1 (mm_Wd y) (mm_rm d y) (mm_Pc b qs qv B SL xs D dA args h) (mm_Qc b qs B D dA Q) (mm_am y).1 (mm_am y).2 (fun q => B ≤ q)
theorem mm_good {ws : List Cond} (h : ∀ w ∈ ws, w ∈ mm_TT) : GoodIn mm_TT ws := fun w hw => ⟨h w hw, good_of_word (List.mem_filter.mp (h w hw)).2⟩
theorem mm_blind {b qs qv B SL : Nat} {xs : Nat → Int32} {D : va_G} {dA : FieldType → ClassId} {args : List Value} {h : mm_H} : FrameBlind (mm_Pc b qs qv B SL xs D dA args h) := fun a U g mk q => ⟨q.1, mm_SK_same q.2.1 rfl rfl, q.2.2⟩
theorem mm_nl1 : Cond.static yL_law ∉ lw_tbl := by decide +kernel
theorem mm_nl2 : Cond.instanceMethod yL_law ∉ lw_tbl := by decide +kernel
theorem mm_cdw {y : Nat} (hy : y < mm_T.length) (h : Cond.static (mm_M y).1 ∈ mm_TT ∨ Cond.instanceMethod (mm_M y).1 ∈ mm_TT) : Cond.code (mm_M y).1 (mm_M y).2.1 (mm_M y).2.2.1 (mm_M y).2.2.2.1 ∈ mm_TT := by
  rcases (mm_ok hy).2.1 with q | q
  · rw [q] at h
    rcases h with h | h
    · exact absurd (List.mem_filter.mp h).1 mm_nl1
    · exact absurd (List.mem_filter.mp h).1 mm_nl2
  · exact q
theorem mm_callW {p : Program} {l : Launch} {e : Env} {R : Room} {s : State} {m : MethodId} {args : Array Value} {below : List Frame} {meth : Method} {c : Code} {H : Heap} {locs : List Loc} {cells slots mc ms : Nat} {QW : State → Prop} {pc : Nat} {ls : Array Slot} {rest st0 : List Value} {a0 : Array Value} {b qs B : Nat} {D : va_G} {dA : FieldType → ClassId} {Q : Option Value → mm_H → Prop} (hr : va_Run p l e R s m args below meth c H locs cells slots mc ms (F0 m pc ls st0) rest (mm_Qc b qs B D dA Q a0) (fun q => B ≤ q)) (hS : va_S (fun q => B ≤ q) s.heap H locs)
    (kk : ∀ (r : Option Value) (h2 : mm_H) (H1 : Heap) (locs1 : List Loc), Q r h2 → mm_HR b qs B D dA h2 H1 → va_S (fun q => B ≤ q) s.heap H1 locs1 → W p l e R s m args below meth c H1 locs1 (cells + mc) (slots + ms) QW (F0 m (pc + 3) ls ((r.map (mm_v (mm_a b qs B))).toList ++ rest))) : W p l e R s m args below meth c H locs cells slots QW (F0 m pc ls st0) := by
  intro T hT X
  obtain ⟨v, st₀, t, T', L, h0, X', hL, e1, e2, ⟨⟨r, h2, hv, hq, hh⟩, hz, hk⟩, st⟩ := hr T hT X
  cases hv
  rw [h0] at hz hk
  obtain ⟨t2, a1, b1⟩ := kk r h2 T'.heap (locs ++ L) hq (by rw [e1]; exact hh)
    ⟨Nat.le_trans hS.1 (by rw [e1]; exact hz), fun q h1 h2 => by rw [e1, hk q (Nat.lt_of_lt_of_le h1 hS.1) h2]; exact hS.2.1 q h1 h2, fun q hq => by
      rcases List.mem_append.mp hq with h | h
      · exact hS.2.2 q h
      · exact hL q h⟩ T' rfl X'
  exact ⟨t2, st t2 a1, b1⟩
theorem mm_stk {ρ : Nat → Nat} (r : Option Value) (st : List Value) : (r.map (mm_v ρ)).toList ++ st.map (mm_v ρ) = (r.toList ++ st).map (mm_v ρ) := by cases r <;> rfl
theorem mm_pop {ρ : Nat → Nat} (n : Nat) (st : List Value) : st.map (mm_v ρ) = ((st.take n).reverse.map (mm_v ρ)).reverse ++ (st.drop n).map (mm_v ρ) := by
  rw [List.map_reverse, List.reverse_reverse, ← List.map_append, List.take_append_drop]
theorem mm_at_split : ∀ (st : List Value) (n : Nat) (v : Value), mm_at st n = some v → st = st.take n ++ v :: st.drop (n + 1) ∧ (st.take n).length = n
  | [], n, v, h => by cases n <;> cases h
  | x :: l, 0, v, h => by cases h; exact ⟨rfl, rfl⟩
  | x :: l, n + 1, v, h => by
    obtain ⟨h1, h2⟩ := mm_at_split l n v h
    exact ⟨congrArg (x :: ·) h1, by show (l.take n).length + 1 = n + 1; rw [h2]⟩
theorem mm_pop1 {ρ : Nat → Nat} {n a : Nat} {st : List Value} (h : mm_at st n = some (.ref a)) : st.map (mm_v ρ) = ((st.take n).reverse.map (mm_v ρ)).reverse ++ .ref (ρ a) :: (st.drop (n + 1)).map (mm_v ρ) := by
  have e := (mm_at_split st n _ h).1
  have e2 := congrArg (List.map (mm_v ρ)) e
  rw [List.map_append, List.map_cons] at e2
  rw [List.map_reverse, List.reverse_reverse]
  exact e2
/-- what a call wants of the tables and of the room -/
theorem mm_hws {s : State} {args : Array Value} (hts : ∀ w ∈ mm_TT, w.before args s = true) {y : Nat} (hcd : Cond.code (mm_M y).1 (mm_M y).2.1 (mm_M y).2.2.1 (mm_M y).2.2.2.1 ∈ mm_TT) : ∀ w ∈ mm_Wd y, ∀ (a' : Array Value) (U : State), s.WarmedH U.vm → w.before a' U = true :=
  pay_in hts (mm_good (fun w hw => (List.mem_cons.mp hw).elim (fun q => by rw [q]; exact hcd) (fun q => q)))
theorem mm_len {y n : Nat} (h : (parseMethodDescriptor (mm_M y).1.desc).map (fun d => d.parameters.length) = some n) : ∀ sig, parseMethodDescriptor (mm_M y).1.desc = some sig → n = sig.parameters.length := fun sig q => by
  rw [q] at h
  exact (Option.some.inj h).symm

theorem ss_callS {p : Program} {l : Launch} {e : Env} {R : Room} {s : State} {m : MethodId} {args : Array Value} {below : List Frame} {meth : Method} {c : Code} {b qs qv B SL : Nat} {xs : Nat → Int32} {D : va_G} {dA : FieldType → ClassId} {QW : State → Prop} {ow : Nat} {ini : Bool} {cc : ByteArray} {cd : List (Nat × mm_R)} {mc ms : Nat} {cs : mm_Cs} {rt : Option FieldType} {Q : Option Value → mm_H → Prop} {d : Nat} (K : mm_cx p R s m args meth c b qs qv B SL xs D dA ow ini cc cd mc ms) (hIH : ∀ (y : Nat) (a : List Value) (h : mm_H) (q : Option Value → mm_H → Prop), y < mm_T.length → Cond.code (mm_M y).1 (mm_M y).2.1 (mm_M y).2.2.1 (mm_M y).2.2.2.1 ∈ mm_TT → cs y a h q → mm_Met l b qs qv B SL xs D dA d y a h q) (hf1 : d + 7 ≤ R.frames) (hl1 : 60 * d + 300 ≤ R.locals) : mm_r_callS SL xs cs mm_am cd mc ms rt Q (mm_XW p l e R s m args below meth c b qs B D dA QW) := by
  intro pc L h cc0 ss0 i y n st hd h0 h1 h2 h3 k0
  intro H locs ls hH hS hl
  obtain ⟨hx, hb, hown, hts, hSK, hini, hck, hmc, hms, hfr, hlo, hB⟩ := id K
  obtain ⟨hdg, hcr⟩ := mm_row hck hd
  rcases mm_fs_all ow _ (of_decide_eq_true hcr) with ⟨h9, _⟩ | ⟨_, hy, hnp, hw1, hw2⟩
  · exact absurd h9 (show ¬ (0 : Int) = 7 by decide)
  have hy : y < mm_T.length := hy
  have hnp : (mm_M y).2.2.2.2.2.2 = n := hnp
  have hcd := mm_cdw hy (Or.inl hw2)
  obtain ⟨o1, o2, o3, ⟨o4, o5, o6⟩, o7, o8, o9⟩ := mm_ok hy
  rw [hnp] at o6
  have hM := hIH y _ h _ hy hcd k0
  have hlen : ((st.take n).reverse.map (mm_v (mm_a b qs B))).length = n := by
    have := Nat.le_of_ble_eq_true h0
    rw [List.length_map, List.length_reverse, List.length_take]; omega
  have hroom : (((st.drop n).map (mm_v (mm_a b qs B))).map fun v => v.category).sum ≤ 8 := by rw [mm_catS]; exact Nat.le_of_ble_eq_true h1
  refine mm_callW (va_runS (nL := c.maxLocals) (Ts := mm_TT) (own := mm_on ow) (n := n) (As := (st.take n).reverse.map (mm_v (mm_a b qs B))) (rest := (st.drop n).map (mm_v (mm_a b qs B))) ⟨hx, hb, rfl, hown, hts⟩ hM ⟨⟨rfl, rfl, hf1, by show 8 + ((mm_M y).2.2.1 + 11) + (60 * d + 240) ≤ R.locals; omega, mm_hws hts hcd, List.mem_cons_self, hts _ hcd, hts _ o3, ⟨o4, o5⟩, mm_len o6, hts _ hw1⟩, hts _ hw2⟩ ⟨mm_blind, fun U hU hW => ⟨rfl, mm_SK_go hSK hU hS hW, by rw [hU]; exact hH⟩⟩ rfl hlen hl.2.1 (mm_pop n st) (lv_room hroom) hdg ⟨by rw [← hmc]; exact h2, by rw [← hms]; exact h3⟩) hS (fun r h2 H1 locs1 hq hH1 hS1 => ?_)
  rw [mm_stk]
  exact hq H1 locs1 ls hH1 hS1 hl
theorem ss_callV {p : Program} {l : Launch} {e : Env} {R : Room} {s : State} {m : MethodId} {args : Array Value} {below : List Frame} {meth : Method} {c : Code} {b qs qv B SL : Nat} {xs : Nat → Int32} {D : va_G} {dA : FieldType → ClassId} {QW : State → Prop} {ow : Nat} {ini : Bool} {cc : ByteArray} {cd : List (Nat × mm_R)} {mc ms : Nat} {cs : mm_Cs} {rt : Option FieldType} {Q : Option Value → mm_H → Prop} {d : Nat} (K : mm_cx p R s m args meth c b qs qv B SL xs D dA ow ini cc cd mc ms) (hIH : ∀ (y : Nat) (a : List Value) (h : mm_H) (q : Option Value → mm_H → Prop), y < mm_T.length → Cond.code (mm_M y).1 (mm_M y).2.1 (mm_M y).2.2.1 (mm_M y).2.2.2.1 ∈ mm_TT → cs y a h q → mm_Met l b qs qv B SL xs D dA d y a h q) (hf1 : d + 7 ≤ R.frames) (hl1 : 60 * d + 300 ≤ R.locals) : mm_r_callV SL xs cs mm_am cd mc ms rt Q (mm_XW p l e R s m args below meth c b qs B D dA QW) := by
  intro pc L h cc0 ss0 i y n ci a st hd h0 h1 h2 h3 h4 k0
  intro H locs ls hH hS hl
  obtain ⟨hx, hb, hown, hts, hSK, hini, hck, hmc, hms, hfr, hlo, hB⟩ := id K
  obtain ⟨hdg, hcr⟩ := mm_row hck hd
  rcases mm_fv2_all ow _ (of_decide_eq_true hcr) with ⟨h9, _⟩ | ⟨h9, _⟩ | ⟨_, hy, hnp, hw1, hw2, hw3, r9, hr9, hrc⟩
  · exact absurd h9 (show ¬ (0 : Int) = 8 by decide)
  · exact absurd h9 (show ¬ (0 : Int) = 9 by decide)
  have hy : y < mm_T.length := hy
  have hnp : (mm_M y).2.2.2.2.2.2 = n := hnp
  have hr9 : vwCl[ci]? = some r9 := hr9
  have hrc : r9.1 = (mm_M y).1.cls := hrc
  have hcd := mm_cdw hy (Or.inr hw2)
  obtain ⟨o1, o2, o3, ⟨o4, o5, o6⟩, o7, o8, o9⟩ := mm_ok hy
  rw [hnp] at o6
  have hM := hIH y _ h _ hy hcd k0
  have hsp := mm_at_split st n _ h0
  have hlen : ((st.take n).reverse.map (mm_v (mm_a b qs B))).length = n := by
    rw [List.length_map, List.length_reverse, hsp.2]
  have hroom : (((st.drop (n + 1)).map (mm_v (mm_a b qs B))).map fun v => v.category).sum ≤ 8 := by rw [mm_catS]; exact Nat.le_of_ble_eq_true h2
  have ha := mm_at_in hH.2.2.1 h1 (fun q => by cases q)
  have hw := mm_ws_get (b := b) (qs := qs) (B := B) (dA := dA) ha
  rw [mm_obj h1] at hw
  have hrecv := va_recv hSK.1 hH.2.2.2 hr9 hw
  rw [hrc] at hrecv
  refine mm_callW (va_runV (nL := c.maxLocals) (Ts := mm_TT) (own := mm_on ow) (C := (mm_M y).1.cls) (n := n) (b := mm_a b qs B a) (As := (st.take n).reverse.map (mm_v (mm_a b qs B))) (rest := (st.drop (n + 1)).map (mm_v (mm_a b qs B))) ⟨hx, hb, rfl, hown, hts⟩ hM ⟨⟨rfl, rfl, hf1, by show 8 + ((mm_M y).2.2.1 + 11) + (60 * d + 240) ≤ R.locals; omega, mm_hws hts hcd, List.mem_cons_self, hts _ hcd, hts _ o3, ⟨o4, o5⟩, mm_len o6, hts _ hw1⟩, hts _ hw2, hts _ hw3⟩ ⟨mm_blind, hrecv, fun U hU hW => ⟨rfl, mm_SK_go hSK hU hS hW, by rw [hU]; exact hH⟩⟩ rfl hlen hl.2.1 (mm_pop1 h0) (lv_room hroom) hdg ⟨by rw [← hmc]; exact h3, by rw [← hms]; exact h4⟩) hS (fun r h2 H1 locs1 hq hH1 hS1 => ?_)
  rw [mm_stk]
  exact hq H1 locs1 ls hH1 hS1 hl
theorem ss_callI {p : Program} {l : Launch} {e : Env} {R : Room} {s : State} {m : MethodId} {args : Array Value} {below : List Frame} {meth : Method} {c : Code} {b qs qv B SL : Nat} {xs : Nat → Int32} {D : va_G} {dA : FieldType → ClassId} {QW : State → Prop} {ow : Nat} {ini : Bool} {cc : ByteArray} {cd : List (Nat × mm_R)} {mc ms : Nat} {cs : mm_Cs} {rt : Option FieldType} {Q : Option Value → mm_H → Prop} {d : Nat} (K : mm_cx p R s m args meth c b qs qv B SL xs D dA ow ini cc cd mc ms) (hIH : ∀ (y : Nat) (a : List Value) (h : mm_H) (q : Option Value → mm_H → Prop), y < mm_T.length → Cond.code (mm_M y).1 (mm_M y).2.1 (mm_M y).2.2.1 (mm_M y).2.2.2.1 ∈ mm_TT → cs y a h q → mm_Met l b qs qv B SL xs D dA d y a h q) (hf1 : d + 7 ≤ R.frames) (hl1 : 60 * d + 300 ≤ R.locals) : mm_r_callI SL xs cs mm_am cd mc ms rt Q (mm_XW p l e R s m args below meth c b qs B D dA QW) := by
  intro pc L h cc0 ss0 i y n ci a z st hd h0 h1 h2 h3 h4 h5 k0
  intro H locs ls hH hS hl
  obtain ⟨hx, hb, hown, hts, hSK, hini, hck, hmc, hms, hfr, hlo, hB⟩ := id K
  obtain ⟨hdg, hcr⟩ := mm_row hck hd
  rcases mm_fi_all ow _ (of_decide_eq_true hcr) with ⟨h9, _⟩ | ⟨hlk, hy, hnp, hrt, hnm, hw2, r9, hr9, hrc⟩
  · exact absurd h9 h0
  have hy : y < mm_T.length := hy
  have hnp : (mm_M y).2.2.2.2.2.2 = n := hnp
  have hcd := mm_cdw hy (Or.inr hw2)
  obtain ⟨o1, o2, o3, ⟨o4, o5, o6⟩, o7, o8, o9⟩ := mm_ok hy
  rw [hnp] at o6
  have hM := hIH y _ h _ hy hcd k0
  have hsp := mm_at_split st n _ h1
  have hlen : ((st.take n).reverse.map (mm_v (mm_a b qs B))).length = n := by
    rw [List.length_map, List.length_reverse, hsp.2]
  have hroom : (((st.drop (n + 1)).map (mm_v (mm_a b qs B))).map fun v => v.category).sum ≤ 8 := by rw [mm_catS]; exact Nat.le_of_ble_eq_true h3
  have hrt : (mm_M y).2.2.2.1 = none := hrt
  have hcd2 := hcd
  rw [hrt] at hcd2
  have hmem : Cond.code (mm_M y).1 (mm_M y).2.1 (mm_M y).2.2.1 none ∈ mm_Wd y := by
    have : Cond.code (mm_M y).1 (mm_M y).2.1 (mm_M y).2.2.1 (mm_M y).2.2.2.1 ∈ mm_Wd y := List.mem_cons_self
    rwa [hrt] at this
  rcases hlk with ⟨_, hw1⟩ | ⟨_, hw1⟩
  · refine mm_callW (va_runI (nL := c.maxLocals) (Ts := mm_TT) (own := mm_on ow) (n := n) (b := mm_a b qs B a) (As := (st.take n).reverse.map (mm_v (mm_a b qs B))) (rest := (st.drop (n + 1)).map (mm_v (mm_a b qs B))) ⟨hx, hb, rfl, hown, hts⟩ hM ⟨⟨rfl, rfl, hf1, by show 8 + ((mm_M y).2.2.1 + 11) + (60 * d + 240) ≤ R.locals; omega, mm_hws hts hcd, hmem, hts _ hcd2, hts _ o3, ⟨o4, o5⟩, mm_len o6, hts _ hw1⟩, hnm, hts _ hw2⟩ ⟨mm_blind, fun U hU hW => ⟨rfl, mm_SK_go hSK hU hS hW, by rw [hU]; exact hH⟩⟩ rfl hlen hl.2.1 (mm_pop1 h1) (lv_room hroom) hdg ⟨by rw [← hmc]; exact h4, by rw [← hms]; exact h5⟩) hS (fun r h2 H1 locs1 hq hH1 hS1 => ?_)
    rw [mm_stk]
    exact hq H1 locs1 ls hH1 hS1 hl
  · refine mm_callW (va_runIN (nL := c.maxLocals) (Ts := mm_TT) (own := mm_on ow) (host := RX10) (n := n) (b := mm_a b qs B a) (As := (st.take n).reverse.map (mm_v (mm_a b qs B))) (rest := (st.drop (n + 1)).map (mm_v (mm_a b qs B))) ⟨hx, hb, rfl, hown, hts⟩ hM ⟨⟨⟨rfl, rfl, hf1, by show 8 + ((mm_M y).2.2.1 + 11) + (60 * d + 240) ≤ R.locals; omega, mm_hws hts hcd, hmem⟩, hts _ hcd2, hts _ o3, ⟨o4, o5⟩, mm_len o6, va_Nw.use rfl (hSK.2.1 _ _ _ _ hw1)⟩, hnm, hts _ hw2⟩ ⟨mm_blind, fun U hU hW => ⟨rfl, mm_SK_go hSK hU hS hW, by rw [hU]; exact hH⟩⟩ rfl hlen hl.2.1 (mm_pop1 h1) (lv_room hroom) hdg ⟨by rw [← hmc]; exact h4, by rw [← hms]; exact h5⟩) hS (fun r h2 H1 locs1 hq hH1 hS1 => ?_)
    rw [mm_stk]
    exact hq H1 locs1 ls hH1 hS1 hl
theorem ss_iret {p : Program} {l : Launch} {e : Env} {R : Room} {s : State} {m : MethodId} {args : Array Value} {below : List Frame} {meth : Method} {c : Code} {b qs qv B SL : Nat} {xs : Nat → Int32} {D : va_G} {dA : FieldType → ClassId} {ow : Nat} {ini : Bool} {cc : ByteArray} {cd : List (Nat × mm_R)} {mc ms : Nat} {cs : mm_Cs} {am : Nat → Nat × Nat} {rt : Option FieldType} {Q : Option Value → mm_H → Prop} {d : Nat} (K : mm_cx p R s m args meth c b qs qv B SL xs D dA ow ini cc cd mc ms) (hr : meth.sig.returnType = rt) (hlk : meth.locks = false) : mm_r_iret SL xs cs am cd mc ms rt Q (mm_XW p l e R s m args below meth c b qs B D dA (MQ below (mm_Qc b qs B D dA Q) args s mc ms (fun q => B ≤ q))) := by
  intro pc L h cc0 ss0 x hd h0 h1 h2 k0
  intro H locs ls hH hS hl
  obtain ⟨hx, hb, hown, hts, hSK, hini, hck, hmc, hms, hfr, hlo, hB⟩ := id K
  obtain ⟨hdg, hcr⟩ := mm_row hck hd
  exact W.widen (k := mc) (n := ms) h1 h2 (W.iret hx hb (hr.trans h0) (fun t ht hW => ⟨⟨some (.int x), h, rfl, k0, by rw [ht]; exact hH⟩, hS.F ht⟩) hS.2.2 hdg hlk)
theorem ss_zret {p : Program} {l : Launch} {e : Env} {R : Room} {s : State} {m : MethodId} {args : Array Value} {below : List Frame} {meth : Method} {c : Code} {b qs qv B SL : Nat} {xs : Nat → Int32} {D : va_G} {dA : FieldType → ClassId} {ow : Nat} {ini : Bool} {cc : ByteArray} {cd : List (Nat × mm_R)} {mc ms : Nat} {cs : mm_Cs} {am : Nat → Nat × Nat} {rt : Option FieldType} {Q : Option Value → mm_H → Prop} {d : Nat} (K : mm_cx p R s m args meth c b qs qv B SL xs D dA ow ini cc cd mc ms) (hr : meth.sig.returnType = rt) (hlk : meth.locks = false) : mm_r_zret SL xs cs am cd mc ms rt Q (mm_XW p l e R s m args below meth c b qs B D dA (MQ below (mm_Qc b qs B D dA Q) args s mc ms (fun q => B ≤ q))) := by
  intro pc L h cc0 ss0 x hd h0 h1 h2 h3 k0
  intro H locs ls hH hS hl
  obtain ⟨hx, hb, hown, hts, hSK, hini, hck, hmc, hms, hfr, hlo, hB⟩ := id K
  obtain ⟨hdg, hcr⟩ := mm_row hck hd
  exact W.widen (k := mc) (n := ms) h2 h3 (W.zret hx hb (hr.trans h0) (by rcases h1 with q | q <;> (subst q; rfl)) (fun t ht hW => ⟨⟨some (.int x), h, rfl, k0, by rw [ht]; exact hH⟩, hS.F ht⟩) hS.2.2 hdg hlk)
theorem ss_lret {p : Program} {l : Launch} {e : Env} {R : Room} {s : State} {m : MethodId} {args : Array Value} {below : List Frame} {meth : Method} {c : Code} {b qs qv B SL : Nat} {xs : Nat → Int32} {D : va_G} {dA : FieldType → ClassId} {ow : Nat} {ini : Bool} {cc : ByteArray} {cd : List (Nat × mm_R)} {mc ms : Nat} {cs : mm_Cs} {am : Nat → Nat × Nat} {rt : Option FieldType} {Q : Option Value → mm_H → Prop} {d : Nat} (K : mm_cx p R s m args meth c b qs qv B SL xs D dA ow ini cc cd mc ms) (hr : meth.sig.returnType = rt) (hlk : meth.locks = false) : mm_r_lret SL xs cs am cd mc ms rt Q (mm_XW p l e R s m args below meth c b qs B D dA (MQ below (mm_Qc b qs B D dA Q) args s mc ms (fun q => B ≤ q))) := by
  intro pc L h cc0 ss0 x hd h0 h1 h2 k0
  intro H locs ls hH hS hl
  obtain ⟨hx, hb, hown, hts, hSK, hini, hck, hmc, hms, hfr, hlo, hB⟩ := id K
  obtain ⟨hdg, hcr⟩ := mm_row hck hd
  exact W.widen (k := mc) (n := ms) h1 h2 (W.lret hx hb (hr.trans h0) (fun t ht hW => ⟨⟨some (.long x), h, rfl, k0, by rw [ht]; exact hH⟩, hS.F ht⟩) hS.2.2 hdg hlk)
theorem ss_aret {p : Program} {l : Launch} {e : Env} {R : Room} {s : State} {m : MethodId} {args : Array Value} {below : List Frame} {meth : Method} {c : Code} {b qs qv B SL : Nat} {xs : Nat → Int32} {D : va_G} {dA : FieldType → ClassId} {ow : Nat} {ini : Bool} {cc : ByteArray} {cd : List (Nat × mm_R)} {mc ms : Nat} {cs : mm_Cs} {am : Nat → Nat × Nat} {rt : Option FieldType} {Q : Option Value → mm_H → Prop} {d : Nat} (K : mm_cx p R s m args meth c b qs qv B SL xs D dA ow ini cc cd mc ms) (hr : meth.sig.returnType = rt) (hlk : meth.locks = false) : mm_r_aret SL xs cs am cd mc ms rt Q (mm_XW p l e R s m args below meth c b qs B D dA (MQ below (mm_Qc b qs B D dA Q) args s mc ms (fun q => B ≤ q))) := by
  intro pc L h cc0 ss0 x C hd h0 h1 h2 k0
  intro H locs ls hH hS hl
  obtain ⟨hx, hb, hown, hts, hSK, hini, hck, hmc, hms, hfr, hlo, hB⟩ := id K
  obtain ⟨hdg, hcr⟩ := mm_row hck hd
  exact W.widen (k := mc) (n := ms) h1 h2 (W.aret hx hb (hr.trans h0) (Or.inl ⟨_, rfl⟩) (Or.inr ⟨_, rfl⟩) (fun t ht hW => ⟨⟨some (.ref x), h, rfl, k0, by rw [ht]; exact hH⟩, hS.F ht⟩) hS.2.2 hdg hlk)
theorem ss_aretN {p : Program} {l : Launch} {e : Env} {R : Room} {s : State} {m : MethodId} {args : Array Value} {below : List Frame} {meth : Method} {c : Code} {b qs qv B SL : Nat} {xs : Nat → Int32} {D : va_G} {dA : FieldType → ClassId} {ow : Nat} {ini : Bool} {cc : ByteArray} {cd : List (Nat × mm_R)} {mc ms : Nat} {cs : mm_Cs} {am : Nat → Nat × Nat} {rt : Option FieldType} {Q : Option Value → mm_H → Prop} {d : Nat} (K : mm_cx p R s m args meth c b qs qv B SL xs D dA ow ini cc cd mc ms) (hr : meth.sig.returnType = rt) (hlk : meth.locks = false) : mm_r_aretN SL xs cs am cd mc ms rt Q (mm_XW p l e R s m args below meth c b qs B D dA (MQ below (mm_Qc b qs B D dA Q) args s mc ms (fun q => B ≤ q))) := by
  intro pc L h cc0 ss0 C hd h0 h1 h2 k0
  intro H locs ls hH hS hl
  obtain ⟨hx, hb, hown, hts, hSK, hini, hck, hmc, hms, hfr, hlo, hB⟩ := id K
  obtain ⟨hdg, hcr⟩ := mm_row hck hd
  exact W.widen (k := mc) (n := ms) h1 h2 (W.aret hx hb (hr.trans h0) (Or.inl ⟨_, rfl⟩) (Or.inl rfl) (fun t ht hW => ⟨⟨some .null, h, rfl, k0, by rw [ht]; exact hH⟩, hS.F ht⟩) hS.2.2 hdg hlk)
theorem ss_vret {p : Program} {l : Launch} {e : Env} {R : Room} {s : State} {m : MethodId} {args : Array Value} {below : List Frame} {meth : Method} {c : Code} {b qs qv B SL : Nat} {xs : Nat → Int32} {D : va_G} {dA : FieldType → ClassId} {ow : Nat} {ini : Bool} {cc : ByteArray} {cd : List (Nat × mm_R)} {mc ms : Nat} {cs : mm_Cs} {am : Nat → Nat × Nat} {rt : Option FieldType} {Q : Option Value → mm_H → Prop} {d : Nat} (K : mm_cx p R s m args meth c b qs qv B SL xs D dA ow ini cc cd mc ms) (hr : meth.sig.returnType = rt) (hlk : meth.locks = false) : mm_r_vret SL xs cs am cd mc ms rt Q (mm_XW p l e R s m args below meth c b qs B D dA (MQ below (mm_Qc b qs B D dA Q) args s mc ms (fun q => B ≤ q))) := by
  intro pc L h cc0 ss0  hd h0 h1 h2 k0
  intro H locs ls hH hS hl
  obtain ⟨hx, hb, hown, hts, hSK, hini, hck, hmc, hms, hfr, hlo, hB⟩ := id K
  obtain ⟨hdg, hcr⟩ := mm_row hck hd
  exact W.widen (k := mc) (n := ms) h1 h2 (W.vret hx hb (hr.trans h0) (fun t ht hW => ⟨⟨none, h, rfl, k0, by rw [ht]; exact hH⟩, hS.F ht⟩) hS.2.2 hdg hlk)
