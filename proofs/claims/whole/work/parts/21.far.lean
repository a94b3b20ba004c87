theorem sp_J {SL : Nat} {xs : Nat → Int32} {cs : mm_Cs} {am : Nat → Nat × Nat} {cd : List (Nat × mm_R)} {mc ms : Nat} {rt : Option FieldType} {Q : Option Value → mm_H → Prop} {pc : Nat} {L : mm_L} {st : List Value} {h : mm_H} {c s : Nat} {x y : Int64} (e : x = y) (k : mm_w SL xs cs am cd mc ms rt Q pc L (.long y :: st) h c s) : mm_w SL xs cs am cd mc ms rt Q pc L (.long x :: st) h c s := e ▸ k
theorem sp_I {SL : Nat} {xs : Nat → Int32} {cs : mm_Cs} {am : Nat → Nat × Nat} {cd : List (Nat × mm_R)} {mc ms : Nat} {rt : Option FieldType} {Q : Option Value → mm_H → Prop} {pc : Nat} {L : mm_L} {st : List Value} {h : mm_H} {c s : Nat} {x y : Int32} (e : x = y) (k : mm_w SL xs cs am cd mc ms rt Q pc L (.int y :: st) h c s) : mm_w SL xs cs am cd mc ms rt Q pc L (.int x :: st) h c s := e ▸ k
def fr (a b m : Nat) : Nat := if b = 1 then m - 1 else fa a b (b * m) (b * m) - 1
theorem lN_sub1 {x : Nat} (h : 1 ≤ x) : lN x - Int64.ofNat 1 = lN (x - 1) := lN_sub h
theorem fr_ml {a b x : Nat} (hb : 2 ≤ b) (h : a < x) : (b * (x - a) - 1) / (b - 1) = (x - a) + (x - a - 1) / (b - 1) := by
  obtain ⟨D, rfl⟩ : ∃ D, b = D + 1 := ⟨b - 1, by omega⟩
  obtain ⟨t, ht⟩ : ∃ t, x - a = t + 1 := ⟨x - a - 1, by omega⟩
  rw [ht, Nat.add_sub_cancel, Nat.add_sub_cancel]
  have e : (D + 1) * (t + 1) - 1 = t + D * (t + 1) := by
    rw [Nat.add_mul, Nat.one_mul]; omega
  rw [e, Nat.add_mul_div_left _ _ (by omega)]
  omega
theorem fr_loop {SL : Nat} {xs : Nat → Int32} {cs : mm_Cs} {h : mm_H} {Q : Option Value → mm_H → Prop} {a b : Nat} {m : Int64} (hb : 2 ≤ b) (hb2 : b ≤ 3000) (ha : a ≤ 1000000000000) : ∀ (f x : Nat), x ≤ f → 1 ≤ x → x ≤ b * a → Q (some (.long (lN (fa a b f x - 1)))) h → mm_w SL xs cs mm_am kX11_farOf 0 0 (some .long) Q 15 [some (.long (lN a)), none, some (.int (nI b)), some (.long m), none, some (.long (lN x)), none] [] h 0 0
  | 0, x, hf, h1, _, _ => by omega
  | f + 1, x, hf, h1, hx, k => by
    have hba : b * a ≤ 3000 * 1000000000000 := Nat.mul_le_mul hb2 ha
    refine sp_lload 17 rfl rfl rfl ?_
    refine sp_lload_n 18 rfl rfl rfl ?_
    refine sp_lcmp 19 rfl rfl ?_
    refine sp_if_le 22 rfl rfl (fun q => ?_) (fun q => ?_)
    · have hle : x ≤ a := (pk_lLE (by omega) (by omega)).mp ((lg_cmp_le _ _).mp q)
      rw [fa_stop _ _ hle] at k
      refine sp_lload 43 rfl rfl rfl ?_
      refine sp_lconst 44 rfl rfl ?_
      refine sp_lsub 45 rfl rfl ?_
      refine sp_J (lN_sub1 h1) ?_
      exact st_lret rfl rfl (Nat.le_refl _) (Nat.le_refl _) k
    · have hlt : a < x := Nat.lt_of_not_le (fun z => q ((lg_cmp_le _ _).mpr ((pk_lLE (by omega) (by omega)).mpr z)))
      rw [fa_go (Nat.not_le.mpr hlt)] at k
      obtain ⟨g1, g2, -, g4⟩ := fa_step hb hlt hx
      have hmul : b * (x - a) ≤ 3000 * (3000 * 1000000000000) := Nat.mul_le_mul hb2 (by omega)
      have hpos : 1 ≤ b * (x - a) := Nat.mul_pos (by omega) (by omega)
      refine sp_iload_n 23 rfl rfl rfl ?_
      refine sp_i2l 24 rfl rfl ?_
      refine sp_lload 26 rfl rfl rfl ?_
      refine sp_lload_n 27 rfl rfl rfl ?_
      refine sp_lsub 28 rfl rfl ?_
      refine sp_lmul 29 rfl rfl ?_
      refine sp_lconst 30 rfl rfl ?_
      refine sp_lsub 31 rfl rfl ?_
      refine sp_iload_n 32 rfl rfl rfl ?_
      refine sp_i2l 33 rfl rfl ?_
      refine sp_lconst 34 rfl rfl ?_
      refine sp_lsub 35 rfl rfl ?_
      have eb : (nI b).toInt64 - Int64.ofNat 1 = lN (b - 1) := by rw [nI_l (by omega)]; exact lN_sub (by omega)
      refine sp_ldiv 36 rfl ?_ rfl ?_
      · intro z
        have z2 : lN (b - 1) = lN 0 := eb.symm.trans z
        have := (pk_lEQ (by omega) (by decide)).mp z2
        omega
      · refine sp_J (y := lN ((x - a) + (x - a - 1) / (b - 1))) ?_ ?_
        · show ((nI b).toInt64 * (lN x - lN a) - Int64.ofNat 1) / ((nI b).toInt64 - Int64.ofNat 1) = _
          rw [eb, nI_l (by omega), lN_sub (by omega), lN_mul]
          show (lN (b * (x - a)) - lN 1) / lN (b - 1) = _
          rw [lN_sub hpos, pk_lDiv (by omega) (by omega) (by omega), fr_ml hb hlt]
        · refine sp_lstore 38 rfl rfl rfl ?_
          refine sp_goto rfl ?_
          exact fr_loop hb hb2 ha f _ (by omega) g4 g2 k
/-- the reference's FAR, on numbers -/
theorem c_X11_farOf {SL : Nat} {xs : Nat → Int32} {d : Nat} {h : mm_H} {Q : Option Value → mm_H → Prop} {a b m : Nat} (ha : a ≤ 1000000000000) (hb : 1 ≤ b) (hb2 : b ≤ 3000) (hm : 1 ≤ m) (hm2 : m ≤ a) (k : Q (some (.long (lN (fr a b m)))) h) : mm_s SL xs (d + 1) 233 [.long (lN a), .int (nI b), .long (lN m)] h Q := by
  have hba : b * m ≤ b * a := Nat.mul_le_mul_left b hm2
  have hba2 : b * a ≤ 3000 * 1000000000000 := Nat.mul_le_mul hb2 ha
  refine e_X11_farOf rfl ?_
  refine sp_iload_n 1 rfl rfl rfl ?_
  refine sp_iconst 2 rfl rfl ?_
  refine sp_ic_ne 5 rfl rfl (fun q => ?_) (fun q => ?_)
  · have hb1 : b ≠ 1 := fun z => q (by rw [z]; rfl)
    rw [fr, if_neg hb1] at k
    refine sp_iload_n 10 rfl rfl rfl ?_
    refine sp_i2l 11 rfl rfl ?_
    refine sp_lload_n 12 rfl rfl rfl ?_
    refine sp_lmul 13 rfl rfl ?_
    refine sp_J (y := lN (b * m)) (by rw [nI_l (by omega), lN_mul]) ?_
    refine sp_lstore 15 rfl rfl rfl ?_
    exact fr_loop (by omega) hb2 ha (b * m) (b * m) (Nat.le_refl _) (Nat.mul_pos (by omega) hm) hba k
  · have hb1 : b = 1 := (nI_eq (by omega) (by decide)).mp (q : nI b = nI 1)
    rw [fr, if_pos hb1] at k
    refine sp_lload_n 6 rfl rfl rfl ?_
    refine sp_lconst 7 rfl rfl ?_
    refine sp_lsub 8 rfl rfl ?_
    refine sp_J (lN_sub1 hm) ?_
    exact st_lret rfl rfl (Nat.le_refl _) (Nat.le_refl _) k
theorem fg_loop {SL : Nat} {xs : Nat → Int32} {cs : mm_Cs} {h : mm_H} {Q : Option Value → mm_H → Prop} {a b : Nat} {m : Int64} (hb : 1 ≤ b) (hb2 : b ≤ 3000) (ha : a ≤ 1000000000000) : ∀ (f x j : Nat), fa a b f x ≤ a → (b = 1 → x ≤ a) → j + f < 1000000 → 1 ≤ x → x ≤ b * a → Q (some (.long (lN (fa a b f x - 1)))) h → mm_w SL xs cs mm_am kX4_farGoer 0 0 (some .long) Q 9 [some (.long (lN a)), none, some (.int (nI b)), some (.long m), none, some (.long (lN x)), none, some (.int (nI j))] [] h 0 0
  | f, x, j, hfa, hb1, hj, h1, hx, k => by
    have hba : b * a ≤ 3000 * 1000000000000 := Nat.mul_le_mul hb2 ha
    refine sp_iload 11 rfl rfl rfl ?_
    refine sp_ldc 13 rfl rfl ?_
    refine sp_ic_ge 16 rfl rfl (fun q => absurd q (nI_ge (a := j) (b := 1000000) (by omega) (by decide))) (fun _ => ?_)
    refine sp_lload 18 rfl rfl rfl ?_
    refine sp_lload_n 19 rfl rfl rfl ?_
    refine sp_lcmp 20 rfl rfl ?_
    refine sp_if_le 23 rfl rfl (fun q => ?_) (fun q => ?_)
    · have hle : x ≤ a := (pk_lLE (by omega) (by omega)).mp ((lg_cmp_le _ _).mp q)
      rw [fa_stop _ _ hle] at k
      refine sp_lload 54 rfl rfl rfl ?_
      refine sp_lconst 55 rfl rfl ?_
      refine sp_lsub 56 rfl rfl ?_
      refine sp_J (lN_sub1 h1) ?_
      exact st_lret rfl rfl (Nat.le_refl _) (Nat.le_refl _) k
    · have hlt : a < x := Nat.lt_of_not_le (fun z => q ((lg_cmp_le _ _).mpr ((pk_lLE (by omega) (by omega)).mpr z)))
      have hb3 : 2 ≤ b := by
        rcases Nat.lt_or_ge b 2 with z | z
        · have := hb1 (by omega); omega
        · exact z
      match f, hfa, hj, k with
      | 0, hfa, _, _ => exact absurd (show x ≤ a from hfa) (by omega)
      | f + 1, hfa, hj, k =>
        rw [fa_go (Nat.not_le.mpr hlt)] at k hfa
        obtain ⟨g1, g2, -, g4⟩ := fa_step hb3 hlt hx
        refine sp_iload_n 24 rfl rfl rfl ?_
        refine sp_iconst 25 rfl rfl ?_
        refine sp_ic_le 28 rfl rfl (fun z => absurd z (nI_ge (a := 1) (b := b) (by omega) (by omega))) (fun _ => ?_)
        refine sp_lload 30 rfl rfl rfl ?_
        refine sp_lload_n 31 rfl rfl rfl ?_
        refine sp_lsub 32 rfl rfl ?_
        refine sp_lload 34 rfl rfl rfl ?_
        refine sp_lload_n 35 rfl rfl rfl ?_
        refine sp_lsub 36 rfl rfl ?_
        refine sp_lconst 37 rfl rfl ?_
        refine sp_lsub 38 rfl rfl ?_
        refine sp_iload_n 39 rfl rfl rfl ?_
        refine sp_iconst 40 rfl rfl ?_
        refine sp_isub 41 rfl rfl ?_
        refine sp_i2l 42 rfl rfl ?_
        have eb : (nI b - Int32.ofInt 1).toInt64 = lN (b - 1) := by
          have e1 : nI b - Int32.ofInt 1 = nI (b - 1) := pk_sub (a := b) (b := 1) (by omega)
          rw [e1, nI_l (by omega)]
        refine sp_ldiv 43 rfl ?_ rfl ?_
        · intro z
          have z2 : lN (b - 1) = lN 0 := eb.symm.trans z
          have := (pk_lEQ (by omega) (by decide)).mp z2
          omega
        · refine sp_ladd 44 rfl rfl ?_
          refine sp_J (y := lN ((x - a) + (x - a - 1) / (b - 1))) ?_ ?_
          · show (lN x - lN a) + (lN x - lN a - Int64.ofNat 1) / (nI b - Int32.ofInt 1).toInt64 = _
            rw [eb, lN_sub (by omega)]
            show lN (x - a) + (lN (x - a) - lN 1) / lN (b - 1) = _
            rw [lN_sub (by omega), pk_lDiv (by omega) (by omega) (by omega), lN_add]
          · refine sp_lstore 46 rfl rfl rfl ?_
            refine sp_iinc 49 rfl rfl rfl rfl ?_
            refine sp_goto rfl ?_
            have e : nI j + Int32.ofInt 1 = nI (j + 1) := nI_add j 1
            show mm_w SL xs cs mm_am kX4_farGoer 0 0 (some .long) Q 9 [some (.long (lN a)), none, some (.int (nI b)), some (.long m), none, some (.long (lN ((x - a) + (x - a - 1) / (b - 1)))), none, some (.int (nI j + Int32.ofInt 1))] [] h 0 0
            rw [e]
            exact fg_loop hb hb2 ha f _ (j + 1) hfa (fun z => by omega) (by omega) g4 g2 k
/-- the class's FAR, on numbers -/
theorem c_X4_farGoer {SL : Nat} {xs : Nat → Int32} {d : Nat} {h : mm_H} {Q : Option Value → mm_H → Prop} {a b m : Nat} (ha : a ≤ 1000000000000) (hb : 1 ≤ b) (hb2 : b ≤ 1000) (hm : 1 ≤ m) (hm2 : m ≤ a) (k : Q (some (.long (lN (fr a b m)))) h) : mm_s SL xs (d + 1) 41 [.long (lN a), .int (nI b), .long (lN m)] h Q := by
  have hba : b * m ≤ b * a := Nat.mul_le_mul_left b hm2
  have hpos : 1 ≤ b * m := Nat.mul_pos (by omega) hm
  refine e_X4_farGoer rfl ?_
  refine sp_lload_n 1 rfl rfl rfl ?_
  refine sp_iload_n 2 rfl rfl rfl ?_
  refine sp_i2l 3 rfl rfl ?_
  refine sp_lmul 4 rfl rfl ?_
  refine sp_J (y := lN (b * m)) (by rw [nI_l (by omega), lN_mul, Nat.mul_comm]) ?_
  refine sp_lstore 6 rfl rfl rfl ?_
  refine sp_iconst 7 rfl rfl ?_
  refine sp_istore 9 rfl rfl rfl ?_
  by_cases hb1 : b = 1
  · rw [fr, if_pos hb1] at k
    have hx : b * m ≤ a := by rw [hb1, Nat.one_mul]; exact hm2
    refine fg_loop hb (by omega) ha 0 (b * m) 0 (by rw [fa]; exact hx) (fun _ => hx) (by decide) hpos hba ?_
    rw [fa, hb1, Nat.one_mul]
    exact k
  · rw [fr, if_neg hb1] at k
    have hfast := fa_fast (n := a) (k := b) (x := b * m) (by omega) hb2 ha hba
    refine fg_loop hb (by omega) ha 50000 (b * m) 0 hfast (fun z => absurd z hb1) (by decide) hpos hba ?_
    rw [fa_same hfast (fa_in (by omega) (b * m) (b * m) hba (Nat.le_refl _))]
    exact k
