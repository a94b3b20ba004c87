def w_X4_leastForAll_7 (SL : Nat) (xs : Nat → Int32) (d : Nat) (p s q : Nat) (Q : Option Value → mm_H → Prop) (v0 : Int32) (v1 : Int64) (v3 : Int32) (I : Nat → Nat → Int32) (J : Nat → Nat → Int64) : Prop := mm_w SL xs (mm_s SL xs (d + 1)) mm_am kX4_leastForAll 0 0 (some .int) Q 7 [some (.int v0), some (.long v1), none, some (.int v3)] [] (hp p s q I J) 0 0
theorem sg_X4_leastForAll {SL : Nat} {xs : Nat → Int32} {d : Nat} {p s q : Nat} {Q : Option Value → mm_H → Prop} {a0 : Int32} {I : Nat → Nat → Int32} {J : Nat → Nat → Int64}  (k : w_X4_leastForAll_7 SL xs d p s q Q a0 (sx_X6_all a0) (Int32.ofInt 1) I J) : mm_s SL xs (d + 2) 48 [.int a0] (hp p s q I J) Q := by
  refine e_X4_leastForAll rfl ?_
  refine hs_L (L2 := [some (.int a0), none, none, none]) rfl ?_
  refine sp_iload_n 1 rfl rfl rfl ?_
  refine sc_S 4 rfl rfl rfl rfl (Nat.le_refl _) (Nat.le_refl _) rfl ?_
  refine cx_X6_all ?_
  refine hs_S (st2 := [.long (sx_X6_all a0)]) rfl ?_
  refine hs_lstore_n 5 (L2 := [some (.int a0), some (.long (sx_X6_all a0)), none, none]) rfl rfl rfl rfl ?_
  refine sp_iconst 6 rfl rfl ?_
  refine hs_istore_n 7 (L2 := [some (.int a0), some (.long (sx_X6_all a0)), none, some (.int (Int32.ofInt 1))]) rfl rfl rfl rfl ?_
  exact k
theorem sg_X4_leastForAll_7 {SL : Nat} {xs : Nat → Int32} {d : Nat} {p s q : Nat} {Q : Option Value → mm_H → Prop} {v0 : Int32} {v1 : Int64} {v3 : Int32} {I : Nat → Nat → Int32} {J : Nat → Nat → Int64}  (k : (((Int32.ofInt 3000) < v3 → Q (some (.int (Int32.ofInt (-1)))) (hp p s q I J)) ∧ (¬ ((Int32.ofInt 3000) < v3) → (mm_s SL xs (d + 1) 40 [.int v0, .int v3, .int v0] (hp p s q I J) (fun r_ h_ => ∃ x1 I1 J1, r_ = some (.int x1) ∧ h_ = hp p s q I1 J1 ∧ (((v1 &&& ((sx_X6_bit x1) ^^^ (Int64.ofInt (-1)))) = (Int64.ofInt 0) → Q (some (.int v3)) (hp p s q I1 J1)) ∧ (¬ ((v1 &&& ((sx_X6_bit x1) ^^^ (Int64.ofInt (-1)))) = (Int64.ofInt 0)) → w_X4_leastForAll_7 SL xs d p s q Q v0 (v1 &&& ((sx_X6_bit x1) ^^^ (Int64.ofInt (-1)))) (v3 + Int32.ofInt 1) I1 J1))))))) : w_X4_leastForAll_7 SL xs d p s q Q v0 v1 v3 I J := by
  unfold w_X4_leastForAll_7
  refine sp_iload_n 8 rfl rfl rfl ?_
  refine sp_sipush 11 rfl rfl ?_
  refine sp_I (y := Int32.ofInt 3000) rfl ?_
  refine sp_ic_gt 14 rfl rfl (fun q_ => ?_) (fun q_ => ?_)
  · have k := k.1 q_
    refine sp_iconst 45 rfl rfl ?_
    exact st_iret rfl rfl (Nat.le_refl _) (Nat.le_refl _) k
  · have k := k.2 q_
    refine sp_lload_n 15 rfl rfl rfl ?_
    refine sp_iload_n 16 rfl rfl rfl ?_
    refine sp_iload_n 17 rfl rfl rfl ?_
    refine sp_iload_n 18 rfl rfl rfl ?_
    refine sc_S 21 rfl rfl rfl rfl (Nat.le_refl _) (Nat.le_refl _) rfl ?_
    refine mm_s_mono _ _ _ _ _ _ ?_ k
    rintro r_ h_ ⟨x1, I1, J1, rfl, rfl, k⟩
    refine hs_S (st2 := [.int x1, .long v1]) rfl ?_
    refine sc_S 24 rfl rfl rfl rfl (Nat.le_refl _) (Nat.le_refl _) rfl ?_
    refine cx_X6_bit ?_
    refine hs_S (st2 := [.long (sx_X6_bit x1), .long v1]) rfl ?_
    refine sp_ldc2 27 rfl rfl ?_
    refine sp_lxor 28 rfl rfl ?_
    refine sp_land 29 rfl rfl ?_
    refine hs_lstore_n 30 (L2 := [some (.int v0), some (.long (v1 &&& ((sx_X6_bit x1) ^^^ (Int64.ofInt (-1))))), none, some (.int v3)]) rfl rfl rfl rfl ?_
    refine sp_lload_n 31 rfl rfl rfl ?_
    refine sp_lconst 32 rfl rfl ?_
    refine sp_J (y := Int64.ofInt 0) rfl ?_
    refine sp_lcmp 33 rfl rfl ?_
    refine sp_if_ne 36 rfl rfl (fun q_ => ?_) (fun q_ => ?_)
    · have k := k.2 (fun z_ => q_ ((lg_cmp_eq _ _).mpr z_))
      refine hs_iinc 41 (L2 := [some (.int v0), some (.long (v1 &&& ((sx_X6_bit x1) ^^^ (Int64.ofInt (-1))))), none, some (.int (v3 + Int32.ofInt 1))]) rfl rfl rfl rfl rfl ?_
      refine sp_goto rfl ?_
      exact k
    · have k := k.1 ((lg_cmp_eq _ _).mp q_)
      refine sp_iload_n 37 rfl rfl rfl ?_
      exact st_iret rfl rfl (Nat.le_refl _) (Nat.le_refl _) k
def w_X5_countOf_6 (SL : Nat) (xs : Nat → Int32) (d : Nat) (p s q : Nat) (Q : Option Value → mm_H → Prop) (o : Nat) (v1 : Int32) (v2 : Int32) (v3 : Int32) (v4 : Int32) (v5 : Int32) (I : Nat → Nat → Int32) (J : Nat → Nat → Int64) : Prop := mm_w SL xs (mm_s SL xs (d + 1)) mm_am kX5_countOf 0 0 (some .int) Q 6 [some (.ref o), some (.int v1), some (.int v2), some (.int v3), some (.int v4), some (.int v5), none] [] (hp p s q I J) 0 0
theorem sg_X5_countOf {SL : Nat} {xs : Nat → Int32} {d : Nat} {p s q : Nat} {Q : Option Value → mm_H → Prop} {o : Nat} {a0 : Int32} {a1 : Int32} {a2 : Int32} {I : Nat → Nat → Int32} {J : Nat → Nat → Int64}  (k : w_X5_countOf_6 SL xs d p s q Q o a0 a1 a2 (Int32.ofInt 0) (Int32.ofInt 0) I J) : mm_s SL xs (d + 2) 60 [.ref o, .int a0, .int a1, .int a2] (hp p s q I J) Q := by
  refine e_X5_countOf rfl ?_
  refine hs_L (L2 := [some (.ref o), some (.int a0), some (.int a1), some (.int a2), none, none, none]) rfl ?_
  refine sp_iconst 1 rfl rfl ?_
  refine hs_istore 3 (L2 := [some (.ref o), some (.int a0), some (.int a1), some (.int a2), some (.int (Int32.ofInt 0)), none, none]) rfl rfl rfl rfl ?_
  refine sp_iconst 4 rfl rfl ?_
  refine hs_istore 6 (L2 := [some (.ref o), some (.int a0), some (.int a1), some (.int a2), some (.int (Int32.ofInt 0)), some (.int (Int32.ofInt 0)), none]) rfl rfl rfl rfl ?_
  exact k
theorem sg_X5_countOf_6 {SL : Nat} {xs : Nat → Int32} {d : Nat} {p s q : Nat} {Q : Option Value → mm_H → Prop} {o : Nat} {v1 : Int32} {v2 : Int32} {v3 : Int32} {v4 : Int32} {v5 : Int32} {I : Nat → Nat → Int32} {J : Nat → Nat → Int64} (h_o : isP o) (k : (((I o 17) ≤ v5 → (vp_in (Int32.ofInt 0) 40 ∧ Q (some (.int (sx_J9_max_7cf53 (Int32.ofInt 1) (sx_J9_min_7cf53 (Int32.ofInt 999) (I (o + 6) (((Int32.ofInt 0)).toNatClampNeg)))))) (hp p s q I J))) ∧ (¬ ((I o 17) ≤ v5) → (((Int32.ofInt 360) ≤ v5 → (vp_in (Int32.ofInt 0) 40 ∧ Q (some (.int (sx_J9_max_7cf53 (Int32.ofInt 1) (sx_J9_min_7cf53 (Int32.ofInt 999) (I (o + 6) (((Int32.ofInt 0)).toNatClampNeg)))))) (hp p s q I J))) ∧ (¬ ((Int32.ofInt 360) ≤ v5) → (vp_in v5 360 ∧ (((I (o + 5) ((v5).toNatClampNeg)) = (Int32.ofInt (-144)) → ((v4 ≤ Int32.ofInt 0 → w_X5_countOf_6 SL xs d p s q Q o v1 v2 v3 v4 (v5 + Int32.ofInt 1) I J) ∧ (¬ (v4 ≤ Int32.ofInt 0) → (vp_in (v4 - (Int32.ofInt 1)) 40 ∧ (((I (o + 6) (((v4 - (Int32.ofInt 1))).toNatClampNeg)) = Int32.ofInt 0 → w_X5_countOf_6 SL xs d p s q Q o v1 v2 v3 v4 (v5 + Int32.ofInt 1) (mm_u I (o + 6) (((v4 - (Int32.ofInt 1))).toNatClampNeg) (Int32.ofInt 1)) J) ∧ (¬ ((I (o + 6) (((v4 - (Int32.ofInt 1))).toNatClampNeg)) = Int32.ofInt 0) → w_X5_countOf_6 SL xs d p s q Q o v1 v2 v3 v4 (v5 + Int32.ofInt 1) (mm_u I (o + 6) (((v4 - (Int32.ofInt 1))).toNatClampNeg) (Int32.ofInt 0)) J)))))) ∧ (¬ ((I (o + 5) ((v5).toNatClampNeg)) = (Int32.ofInt (-144))) → (((sx_X5_isJoint (I (o + 5) ((v5).toNatClampNeg))) = Int32.ofInt 0 → (((Int32.ofInt 40) ≤ v4 → w_X5_countOf_6 SL xs d p s q Q o v1 v2 v3 v4 (v5 + Int32.ofInt 1) I J) ∧ (¬ ((Int32.ofInt 40) ≤ v4) → (vp_in v4 40 ∧ w_X5_countOf_6 SL xs d p s q Q o v1 v2 v3 (v4 + Int32.ofInt 1) (v5 + Int32.ofInt 1) (mm_u I (o + 6) ((v4).toNatClampNeg) (sy_X5_valueOf o (I (o + 5) ((v5).toNatClampNeg)) v1 v2 v3 I J)) J)))) ∧ (¬ ((sx_X5_isJoint (I (o + 5) ((v5).toNatClampNeg))) = Int32.ofInt 0) → ((v4 ≤ (Int32.ofInt 1) → w_X5_countOf_6 SL xs d p s q Q o v1 v2 v3 v4 (v5 + Int32.ofInt 1) I J) ∧ (¬ (v4 ≤ (Int32.ofInt 1)) → (vp_in ((v4 + Int32.ofInt (-1)) - (Int32.ofInt 1)) 40 ∧ (vp_in (v4 + Int32.ofInt (-1)) 40 ∧ (mm_s SL xs (d + 1) 63 [.int (-(I (o + 5) ((v5).toNatClampNeg))), .int (I (o + 6) ((((v4 + Int32.ofInt (-1)) - (Int32.ofInt 1))).toNatClampNeg)), .int (I (o + 6) (((v4 + Int32.ofInt (-1))).toNatClampNeg))] (hp p s q I J) (fun r_ h_ => ∃ x1 I1 J1, r_ = some (.int x1) ∧ h_ = hp p s q I1 J1 ∧ w_X5_countOf_6 SL xs d p s q Q o v1 v2 v3 (v4 + Int32.ofInt (-1)) (v5 + Int32.ofInt 1) (mm_u I1 (o + 6) ((((v4 + Int32.ofInt (-1)) - (Int32.ofInt 1))).toNatClampNeg) x1) J1)))))))))))))))) : w_X5_countOf_6 SL xs d p s q Q o v1 v2 v3 v4 v5 I J := by
  unfold w_X5_countOf_6
  refine sp_iload 8 rfl rfl rfl ?_
  refine sp_aload_n 9 rfl rfl rfl ?_
  refine hq_getI 12 rfl (kP0 h_o) rfl ?_
  refine sp_ic_ge 15 rfl rfl (fun q_ => ?_) (fun q_ => ?_)
  · have k := k.1 q_
    refine sp_iconst 163 rfl rfl ?_
    refine sp_sipush 166 rfl rfl ?_
    refine sp_I (y := Int32.ofInt 999) rfl ?_
    refine sp_aload_n 167 rfl rfl rfl ?_
    refine hq_getR 170 rfl (kP0 h_o) (rP6 h_o) rfl ?_
    refine sp_iconst 171 rfl rfl ?_
    have n1_ := k.1
    have k := k.2
    refine hq_iald 172 rfl (kP6 h_o) n1_ rfl ?_
    refine sc_S 175 rfl rfl rfl rfl (Nat.le_refl _) (Nat.le_refl _) rfl ?_
    refine cx_J9_min_7cf53 ?_
    refine hs_S (st2 := [.int (sx_J9_min_7cf53 (Int32.ofInt 999) (I (o + 6) (((Int32.ofInt 0)).toNatClampNeg))), .int (Int32.ofInt 1)]) rfl ?_
    refine sc_S 178 rfl rfl rfl rfl (Nat.le_refl _) (Nat.le_refl _) rfl ?_
    refine cx_J9_max_7cf53 ?_
    refine hs_S (st2 := [.int (sx_J9_max_7cf53 (Int32.ofInt 1) (sx_J9_min_7cf53 (Int32.ofInt 999) (I (o + 6) (((Int32.ofInt 0)).toNatClampNeg))))]) rfl ?_
    exact st_iret rfl rfl (Nat.le_refl _) (Nat.le_refl _) k
  · have k := k.2 q_
    refine sp_iload 17 rfl rfl rfl ?_
    refine sp_aload_n 18 rfl rfl rfl ?_
    refine hq_getR 21 rfl (kP0 h_o) (rP5 h_o) rfl ?_
    refine hq_alen 22 rfl (kP5 h_o) rfl rfl ?_
    refine sp_I (y := Int32.ofInt 360) rfl ?_
    refine sp_ic_ge 25 rfl rfl (fun q_ => ?_) (fun q_ => ?_)
    · have k := k.1 q_
      refine sp_iconst 163 rfl rfl ?_
      refine sp_sipush 166 rfl rfl ?_
      refine sp_I (y := Int32.ofInt 999) rfl ?_
      refine sp_aload_n 167 rfl rfl rfl ?_
      refine hq_getR 170 rfl (kP0 h_o) (rP6 h_o) rfl ?_
      refine sp_iconst 171 rfl rfl ?_
      have n2_ := k.1
      have k := k.2
      refine hq_iald 172 rfl (kP6 h_o) n2_ rfl ?_
      refine sc_S 175 rfl rfl rfl rfl (Nat.le_refl _) (Nat.le_refl _) rfl ?_
      refine cx_J9_min_7cf53 ?_
      refine hs_S (st2 := [.int (sx_J9_min_7cf53 (Int32.ofInt 999) (I (o + 6) (((Int32.ofInt 0)).toNatClampNeg))), .int (Int32.ofInt 1)]) rfl ?_
      refine sc_S 178 rfl rfl rfl rfl (Nat.le_refl _) (Nat.le_refl _) rfl ?_
      refine cx_J9_max_7cf53 ?_
      refine hs_S (st2 := [.int (sx_J9_max_7cf53 (Int32.ofInt 1) (sx_J9_min_7cf53 (Int32.ofInt 999) (I (o + 6) (((Int32.ofInt 0)).toNatClampNeg))))]) rfl ?_
      exact st_iret rfl rfl (Nat.le_refl _) (Nat.le_refl _) k
    · have k := k.2 q_
      refine sp_aload_n 26 rfl rfl rfl ?_
      refine hq_getR 29 rfl (kP0 h_o) (rP5 h_o) rfl ?_
      refine sp_iload 31 rfl rfl rfl ?_
      have n3_ := k.1
      have k := k.2
      refine hq_iald 32 rfl (kP5 h_o) n3_ rfl ?_
      refine hs_istore 34 (L2 := [some (.ref o), some (.int v1), some (.int v2), some (.int v3), some (.int v4), some (.int v5), some (.int (I (o + 5) ((v5).toNatClampNeg)))]) rfl rfl rfl rfl ?_
      refine sp_iload 36 rfl rfl rfl ?_
      refine sp_sipush 39 rfl rfl ?_
      refine sp_I (y := Int32.ofInt (-144)) rfl ?_
      refine sp_ic_ne 42 rfl rfl (fun q_ => ?_) (fun q_ => ?_)
      · have k := k.2 q_
        refine sp_iload 78 rfl rfl rfl ?_
        refine sc_S 81 rfl rfl rfl rfl (Nat.le_refl _) (Nat.le_refl _) rfl ?_
        refine cx_X5_isJoint ?_
        refine hs_S (st2 := [.int (sx_X5_isJoint (I (o + 5) ((v5).toNatClampNeg)))]) rfl ?_
        refine sp_if_eq 84 rfl rfl (fun q_ => ?_) (fun q_ => ?_)
        · have k := k.1 q_
          refine sp_iload 129 rfl rfl rfl ?_
          refine sp_aload_n 130 rfl rfl rfl ?_
          refine hq_getR 133 rfl (kP0 h_o) (rP6 h_o) rfl ?_
          refine hq_alen 134 rfl (kP6 h_o) rfl rfl ?_
          refine sp_I (y := Int32.ofInt 40) rfl ?_
          refine sp_ic_ge 137 rfl rfl (fun q_ => ?_) (fun q_ => ?_)
          · have k := k.1 q_
            refine hs_iinc 159 (L2 := [some (.ref o), some (.int v1), some (.int v2), some (.int v3), some (.int v4), some (.int (v5 + Int32.ofInt 1)), some (.int (I (o + 5) ((v5).toNatClampNeg)))]) rfl rfl rfl rfl rfl ?_
            refine sp_goto rfl ?_
            refine st_wk (L1 := [some (.ref o), some (.int v1), some (.int v2), some (.int v3), some (.int v4), some (.int (v5 + Int32.ofInt 1)), none]) ⟨.inr rfl, .inr rfl, .inr rfl, .inr rfl, .inr rfl, .inr rfl, .inl rfl, trivial⟩ ?_
            exact k
          · have k := k.2 q_
            refine sp_aload_n 138 rfl rfl rfl ?_
            refine hq_getR 141 rfl (kP0 h_o) (rP6 h_o) rfl ?_
            refine sp_iload 143 rfl rfl rfl ?_
            refine sp_aload_n 144 rfl rfl rfl ?_
            refine sp_iload 146 rfl rfl rfl ?_
            refine sp_iload_n 147 rfl rfl rfl ?_
            refine sp_iload_n 148 rfl rfl rfl ?_
            refine sp_iload_n 149 rfl rfl rfl ?_
            refine sc_V 152 rfl rfl (kP0 h_o) rfl rfl (Nat.le_refl _) (Nat.le_refl _) rfl ?_
            refine cy_X5_valueOf h_o ?_
            have n4_ := k.1
            have k := k.2
            refine hq_iast 153 rfl (kP6 h_o) n4_ rfl ?_
            refine hs_iinc 156 (L2 := [some (.ref o), some (.int v1), some (.int v2), some (.int v3), some (.int (v4 + Int32.ofInt 1)), some (.int v5), some (.int (I (o + 5) ((v5).toNatClampNeg)))]) rfl rfl rfl rfl rfl ?_
            refine hs_iinc 159 (L2 := [some (.ref o), some (.int v1), some (.int v2), some (.int v3), some (.int (v4 + Int32.ofInt 1)), some (.int (v5 + Int32.ofInt 1)), some (.int (I (o + 5) ((v5).toNatClampNeg)))]) rfl rfl rfl rfl rfl ?_
            refine sp_goto rfl ?_
            refine st_wk (L1 := [some (.ref o), some (.int v1), some (.int v2), some (.int v3), some (.int (v4 + Int32.ofInt 1)), some (.int (v5 + Int32.ofInt 1)), none]) ⟨.inr rfl, .inr rfl, .inr rfl, .inr rfl, .inr rfl, .inr rfl, .inl rfl, trivial⟩ ?_
            exact k
        · have k := k.2 q_
          refine sp_iload 86 rfl rfl rfl ?_
          refine sp_iconst 87 rfl rfl ?_
          refine sp_ic_le 90 rfl rfl (fun q_ => ?_) (fun q_ => ?_)
          · have k := k.1 q_
            refine hs_iinc 159 (L2 := [some (.ref o), some (.int v1), some (.int v2), some (.int v3), some (.int v4), some (.int (v5 + Int32.ofInt 1)), some (.int (I (o + 5) ((v5).toNatClampNeg)))]) rfl rfl rfl rfl rfl ?_
            refine sp_goto rfl ?_
            refine st_wk (L1 := [some (.ref o), some (.int v1), some (.int v2), some (.int v3), some (.int v4), some (.int (v5 + Int32.ofInt 1)), none]) ⟨.inr rfl, .inr rfl, .inr rfl, .inr rfl, .inr rfl, .inr rfl, .inl rfl, trivial⟩ ?_
            exact k
          · have k := k.2 q_
            refine hs_iinc 93 (L2 := [some (.ref o), some (.int v1), some (.int v2), some (.int v3), some (.int (v4 + Int32.ofInt (-1))), some (.int v5), some (.int (I (o + 5) ((v5).toNatClampNeg)))]) rfl rfl rfl rfl rfl ?_
            refine sp_aload_n 94 rfl rfl rfl ?_
            refine hq_getR 97 rfl (kP0 h_o) (rP6 h_o) rfl ?_
            refine sp_iload 99 rfl rfl rfl ?_
            refine sp_iconst 100 rfl rfl ?_
            refine sp_isub 101 rfl rfl ?_
            refine sp_iload 103 rfl rfl rfl ?_
            refine sp_ineg 104 rfl rfl ?_
            refine sp_aload_n 105 rfl rfl rfl ?_
            refine hq_getR 108 rfl (kP0 h_o) (rP6 h_o) rfl ?_
            refine sp_iload 110 rfl rfl rfl ?_
            refine sp_iconst 111 rfl rfl ?_
            refine sp_isub 112 rfl rfl ?_
            have n5_ := k.1
            have k := k.2
            refine hq_iald 113 rfl (kP6 h_o) n5_ rfl ?_
            refine sp_aload_n 114 rfl rfl rfl ?_
            refine hq_getR 117 rfl (kP0 h_o) (rP6 h_o) rfl ?_
            refine sp_iload 119 rfl rfl rfl ?_
            have n6_ := k.1
            have k := k.2
            refine hq_iald 120 rfl (kP6 h_o) n6_ rfl ?_
            refine sc_S 123 rfl rfl rfl rfl (Nat.le_refl _) (Nat.le_refl _) rfl ?_
            refine mm_s_mono _ _ _ _ _ _ ?_ k
            rintro r_ h_ ⟨x1, I1, J1, rfl, rfl, k⟩
            refine hs_S (st2 := [.int x1, .int ((v4 + Int32.ofInt (-1)) - (Int32.ofInt 1)), .ref (o + 6)]) rfl ?_
            refine hq_iast 124 rfl (kP6 h_o) n5_ rfl ?_
            refine sp_goto rfl ?_
            refine hs_iinc 159 (L2 := [some (.ref o), some (.int v1), some (.int v2), some (.int v3), some (.int (v4 + Int32.ofInt (-1))), some (.int (v5 + Int32.ofInt 1)), some (.int (I (o + 5) ((v5).toNatClampNeg)))]) rfl rfl rfl rfl rfl ?_
            refine sp_goto rfl ?_
            refine st_wk (L1 := [some (.ref o), some (.int v1), some (.int v2), some (.int v3), some (.int (v4 + Int32.ofInt (-1))), some (.int (v5 + Int32.ofInt 1)), none]) ⟨.inr rfl, .inr rfl, .inr rfl, .inr rfl, .inr rfl, .inr rfl, .inl rfl, trivial⟩ ?_
            exact k
      · have k := k.1 q_
        refine sp_iload 44 rfl rfl rfl ?_
        refine sp_if_le 47 rfl rfl (fun q_ => ?_) (fun q_ => ?_)
        · have k := k.1 q_
          refine hs_iinc 159 (L2 := [some (.ref o), some (.int v1), some (.int v2), some (.int v3), some (.int v4), some (.int (v5 + Int32.ofInt 1)), some (.int (I (o + 5) ((v5).toNatClampNeg)))]) rfl rfl rfl rfl rfl ?_
          refine sp_goto rfl ?_
          refine st_wk (L1 := [some (.ref o), some (.int v1), some (.int v2), some (.int v3), some (.int v4), some (.int (v5 + Int32.ofInt 1)), none]) ⟨.inr rfl, .inr rfl, .inr rfl, .inr rfl, .inr rfl, .inr rfl, .inl rfl, trivial⟩ ?_
          exact k
        · have k := k.2 q_
          refine sp_aload_n 48 rfl rfl rfl ?_
          refine hq_getR 51 rfl (kP0 h_o) (rP6 h_o) rfl ?_
          refine sp_iload 53 rfl rfl rfl ?_
          refine sp_iconst 54 rfl rfl ?_
          refine sp_isub 55 rfl rfl ?_
          refine sp_aload_n 56 rfl rfl rfl ?_
          refine hq_getR 59 rfl (kP0 h_o) (rP6 h_o) rfl ?_
          refine sp_iload 61 rfl rfl rfl ?_
          refine sp_iconst 62 rfl rfl ?_
          refine sp_isub 63 rfl rfl ?_
          have n7_ := k.1
          have k := k.2
          refine hq_iald 64 rfl (kP6 h_o) n7_ rfl ?_
          refine sp_if_ne 67 rfl rfl (fun q_ => ?_) (fun q_ => ?_)
          · have k := k.2 q_
            refine sp_iconst 72 rfl rfl ?_
            refine hq_iast 73 rfl (kP6 h_o) n7_ rfl ?_
            refine sp_goto rfl ?_
            refine hs_iinc 159 (L2 := [some (.ref o), some (.int v1), some (.int v2), some (.int v3), some (.int v4), some (.int (v5 + Int32.ofInt 1)), some (.int (I (o + 5) ((v5).toNatClampNeg)))]) rfl rfl rfl rfl rfl ?_
            refine sp_goto rfl ?_
            refine st_wk (L1 := [some (.ref o), some (.int v1), some (.int v2), some (.int v3), some (.int v4), some (.int (v5 + Int32.ofInt 1)), none]) ⟨.inr rfl, .inr rfl, .inr rfl, .inr rfl, .inr rfl, .inr rfl, .inl rfl, trivial⟩ ?_
            exact k
          · have k := k.1 q_
            refine sp_iconst 68 rfl rfl ?_
            refine sp_goto rfl ?_
            refine hq_iast 73 rfl (kP6 h_o) n7_ rfl ?_
            refine sp_goto rfl ?_
            refine hs_iinc 159 (L2 := [some (.ref o), some (.int v1), some (.int v2), some (.int v3), some (.int v4), some (.int (v5 + Int32.ofInt 1)), some (.int (I (o + 5) ((v5).toNatClampNeg)))]) rfl rfl rfl rfl rfl ?_
            refine sp_goto rfl ?_
            refine st_wk (L1 := [some (.ref o), some (.int v1), some (.int v2), some (.int v3), some (.int v4), some (.int (v5 + Int32.ofInt 1)), none]) ⟨.inr rfl, .inr rfl, .inr rfl, .inr rfl, .inr rfl, .inr rfl, .inl rfl, trivial⟩ ?_
            exact k
theorem sg_X7_isNumber {SL : Nat} {xs : Nat → Int32} {d : Nat} {p s q : Nat} {Q : Option Value → mm_H → Prop} {a0 : Int32} {a1 : Int32} {I : Nat → Nat → Int32} {J : Nat → Nat → Int64}  (k : (((I 4 2) = (Int32.ofInt 2) → (((I 4 4) < a0 → (mm_s SL xs (d + 1) 74 [.ref 3, .int (Int32.ofInt 4)] (hp p s q I J) (fun r_ h_ => ∃ x1 I1 J1, r_ = some (.int x1) ∧ h_ = hp p s q I1 J1 ∧ ((x1 = Int32.ofInt 0 → Q (some (.int (Int32.ofInt 0))) (hp p s q I1 J1)) ∧ (¬ (x1 = Int32.ofInt 0) → Q (some (.int (Int32.ofInt 1))) (hp p s q I1 J1)))))) ∧ (¬ ((I 4 4) < a0) → (((I 4 4) ≤ a1 → Q (some (.int (Int32.ofInt 1))) (hp p s q I J)) ∧ (¬ ((I 4 4) ≤ a1) → (mm_s SL xs (d + 1) 74 [.ref 3, .int (Int32.ofInt 4)] (hp p s q I J) (fun r_ h_ => ∃ x2 I2 J2, r_ = some (.int x2) ∧ h_ = hp p s q I2 J2 ∧ ((x2 = Int32.ofInt 0 → Q (some (.int (Int32.ofInt 0))) (hp p s q I2 J2)) ∧ (¬ (x2 = Int32.ofInt 0) → Q (some (.int (Int32.ofInt 1))) (hp p s q I2 J2)))))))))) ∧ (¬ ((I 4 2) = (Int32.ofInt 2)) → (mm_s SL xs (d + 1) 74 [.ref 3, .int (Int32.ofInt 2)] (hp p s q I J) (fun r_ h_ => ∃ x3 I3 J3, r_ = some (.int x3) ∧ h_ = hp p s q I3 J3 ∧ ((x3 = 0 ∨ x3 = 1) ∧ Q (some (.int x3)) (hp p s q I3 J3))))))) : mm_s SL xs (d + 2) 78 [.ref 3, .int a0, .int a1] (hp p s q I J) Q := by
  refine e_X7_isNumber rfl ?_
  refine hs_L (L2 := [some (.ref 3), some (.int a0), some (.int a1)]) rfl ?_
  refine sp_aload_n 1 rfl rfl rfl ?_
  refine hq_getR 4 rfl rfl rfl rfl ?_
  refine hq_getI 7 rfl rfl rfl ?_
  refine sp_iconst 8 rfl rfl ?_
  refine sp_ic_eq 11 rfl rfl (fun q_ => ?_) (fun q_ => ?_)
  · have k := k.1 q_
    refine sp_aload_n 18 rfl rfl rfl ?_
    refine hq_getR 21 rfl rfl rfl rfl ?_
    refine hq_getI 24 rfl rfl rfl ?_
    refine sp_iload_n 25 rfl rfl rfl ?_
    refine sp_ic_lt 28 rfl rfl (fun q_ => ?_) (fun q_ => ?_)
    · have k := k.1 q_
      refine sp_aload_n 40 rfl rfl rfl ?_
      refine sp_iconst 41 rfl rfl ?_
      refine sc_V 44 rfl rfl rfl rfl rfl (Nat.le_refl _) (Nat.le_refl _) rfl ?_
      refine mm_s_mono _ _ _ _ _ _ ?_ k
      rintro r_ h_ ⟨x1, I1, J1, rfl, rfl, k⟩
      refine hs_S (st2 := [.int x1]) rfl ?_
      refine sp_if_eq 47 rfl rfl (fun q_ => ?_) (fun q_ => ?_)
      · have k := k.1 q_
        refine sp_iconst 52 rfl rfl ?_
        exact st_zret rfl rfl (by decide) (Nat.le_refl _) (Nat.le_refl _) k
      · have k := k.2 q_
        refine sp_iconst 48 rfl rfl ?_
        refine sp_goto rfl ?_
        exact st_zret rfl rfl (by decide) (Nat.le_refl _) (Nat.le_refl _) k
    · have k := k.2 q_
      refine sp_aload_n 29 rfl rfl rfl ?_
      refine hq_getR 32 rfl rfl rfl rfl ?_
      refine hq_getI 35 rfl rfl rfl ?_
      refine sp_iload_n 36 rfl rfl rfl ?_
      refine sp_ic_le 39 rfl rfl (fun q_ => ?_) (fun q_ => ?_)
      · have k := k.1 q_
        refine sp_iconst 48 rfl rfl ?_
        refine sp_goto rfl ?_
        exact st_zret rfl rfl (by decide) (Nat.le_refl _) (Nat.le_refl _) k
      · have k := k.2 q_
        refine sp_aload_n 40 rfl rfl rfl ?_
        refine sp_iconst 41 rfl rfl ?_
        refine sc_V 44 rfl rfl rfl rfl rfl (Nat.le_refl _) (Nat.le_refl _) rfl ?_
        refine mm_s_mono _ _ _ _ _ _ ?_ k
        rintro r_ h_ ⟨x2, I2, J2, rfl, rfl, k⟩
        refine hs_S (st2 := [.int x2]) rfl ?_
        refine sp_if_eq 47 rfl rfl (fun q_ => ?_) (fun q_ => ?_)
        · have k := k.1 q_
          refine sp_iconst 52 rfl rfl ?_
          exact st_zret rfl rfl (by decide) (Nat.le_refl _) (Nat.le_refl _) k
        · have k := k.2 q_
          refine sp_iconst 48 rfl rfl ?_
          refine sp_goto rfl ?_
          exact st_zret rfl rfl (by decide) (Nat.le_refl _) (Nat.le_refl _) k
  · have k := k.2 q_
    refine sp_aload_n 12 rfl rfl rfl ?_
    refine sp_iconst 13 rfl rfl ?_
    refine sc_V 16 rfl rfl rfl rfl rfl (Nat.le_refl _) (Nat.le_refl _) rfl ?_
    refine mm_s_mono _ _ _ _ _ _ ?_ k
    rintro r_ h_ ⟨x3, I3, J3, rfl, rfl, k⟩
    refine hs_S (st2 := [.int x3]) rfl ?_
    exact st_zret rfl rfl k.1 (Nat.le_refl _) (Nat.le_refl _) k.2
def w_X8_tell_50 (SL : Nat) (xs : Nat → Int32) (d : Nat) (p s q : Nat) (Q : Option Value → mm_H → Prop) (v1 : Int32) (v2 : Int32) (v3 : Int32) (v4 : Int32) (v5 : Int32) (v6 : Int32) (I : Nat → Nat → Int32) (J : Nat → Nat → Int64) : Prop := mm_w SL xs (mm_s SL xs (d + 1)) mm_am kX8_tell 0 0 (some .int) Q 50 [some (.ref 33), some (.int v1), some (.int v2), some (.int v3), some (.int v4), some (.int v5), some (.int v6)] [] (hp p s q I J) 0 0
def w_X8_tell_76 (SL : Nat) (xs : Nat → Int32) (d : Nat) (p s q : Nat) (Q : Option Value → mm_H → Prop) (v1 : Int32) (v2 : Int32) (v3 : Int32) (v4 : Int32) (v5 : Int32) (v6 : Int32) (I : Nat → Nat → Int32) (J : Nat → Nat → Int64) : Prop := mm_w SL xs (mm_s SL xs (d + 1)) mm_am kX8_tell 0 0 (some .int) Q 76 [some (.ref 33), some (.int v1), some (.int v2), some (.int v3), some (.int v4), some (.int v5), some (.int v6)] [] (hp p s q I J) 0 0
theorem sg_X8_tell {SL : Nat} {xs : Nat → Int32} {d : Nat} {p s q : Nat} {Q : Option Value → mm_H → Prop} {a0 : Int32} {a1 : Int32} {a2 : Int32} {a3 : Int32} {I : Nat → Nat → Int32} {J : Nat → Nat → Int64}  (k : (((I 33 0) < Int32.ofInt 0 → Q (some (.int (Int32.ofInt (-1)))) (hp p s q I J)) ∧ (¬ ((I 33 0) < Int32.ofInt 0) → (((I 33 0) < (Int32.ofInt 40) → (vp_in (I 33 0) 40 ∧ w_X8_tell_50 SL xs d p s q Q a0 a1 a2 a3 ((I 33 0) * (Int32.ofInt 4)) (Int32.ofInt 0) (mm_u (mm_u I 34 (((I 33 0)).toNatClampNeg) a3) 35 (((I 33 0)).toNatClampNeg) (Int32.ofInt (-1))) J)) ∧ (¬ ((I 33 0) < (Int32.ofInt 40)) → Q (some (.int (Int32.ofInt (-1)))) (hp p s q I J)))))) : mm_s SL xs (d + 2) 93 [.ref 33, .int a0, .int a1, .int a2, .int a3] (hp p s q I J) Q := by
  refine e_X8_tell rfl ?_
  refine hs_L (L2 := [some (.ref 33), some (.int a0), some (.int a1), some (.int a2), some (.int a3), none, none]) rfl ?_
  refine sp_aload_n 1 rfl rfl rfl ?_
  refine hq_getI 4 rfl rfl rfl ?_
  refine sp_if_lt 7 rfl rfl (fun q_ => ?_) (fun q_ => ?_)
  · have k := k.1 q_
    refine sp_iconst 17 rfl rfl ?_
    exact st_iret rfl rfl (Nat.le_refl _) (Nat.le_refl _) k
  · have k := k.2 q_
    refine sp_aload_n 8 rfl rfl rfl ?_
    refine hq_getI 11 rfl rfl rfl ?_
    refine sp_bipush 13 rfl rfl ?_
    refine sp_I (y := Int32.ofInt 40) rfl ?_
    refine sp_ic_lt 16 rfl rfl (fun q_ => ?_) (fun q_ => ?_)
    · have k := k.1 q_
      refine sp_aload_n 19 rfl rfl rfl ?_
      refine hq_getR 22 rfl rfl rfl rfl ?_
      refine sp_aload_n 23 rfl rfl rfl ?_
      refine hq_getI 26 rfl rfl rfl ?_
      refine sp_iload 28 rfl rfl rfl ?_
      have n1_ := k.1
      have k := k.2
      refine hq_iast 29 rfl rfl n1_ rfl ?_
      refine sp_aload_n 30 rfl rfl rfl ?_
      refine hq_getR 33 rfl rfl rfl rfl ?_
      refine sp_aload_n 34 rfl rfl rfl ?_
      refine hq_getI 37 rfl rfl rfl ?_
      refine sp_I (y := (I 33 0)) (by simp [mm_u]) ?_
      refine sp_iconst 38 rfl rfl ?_
      refine hq_iast 39 rfl rfl n1_ rfl ?_
      refine sp_aload_n 40 rfl rfl rfl ?_
      refine hq_getI 43 rfl rfl rfl ?_
      refine sp_I (y := (I 33 0)) (by simp [mm_u]) ?_
      refine sp_iconst 44 rfl rfl ?_
      refine sp_imul 45 rfl rfl ?_
      refine hs_istore 47 (L2 := [some (.ref 33), some (.int a0), some (.int a1), some (.int a2), some (.int a3), some (.int ((I 33 0) * (Int32.ofInt 4))), none]) rfl rfl rfl rfl ?_
      refine sp_iconst 48 rfl rfl ?_
      refine hs_istore 50 (L2 := [some (.ref 33), some (.int a0), some (.int a1), some (.int a2), some (.int a3), some (.int ((I 33 0) * (Int32.ofInt 4))), some (.int (Int32.ofInt 0))]) rfl rfl rfl rfl ?_
      exact k
    · have k := k.2 q_
      refine sp_iconst 17 rfl rfl ?_
      exact st_iret rfl rfl (Nat.le_refl _) (Nat.le_refl _) k
theorem sg_X8_tell_50 {SL : Nat} {xs : Nat → Int32} {d : Nat} {p s q : Nat} {Q : Option Value → mm_H → Prop} {v1 : Int32} {v2 : Int32} {v3 : Int32} {v4 : Int32} {v5 : Int32} {v6 : Int32} {I : Nat → Nat → Int32} {J : Nat → Nat → Int64}  (k : (((Int32.ofInt 4) ≤ v6 → w_X8_tell_76 SL xs d p s q Q v1 v2 v3 v4 v5 (Int32.ofInt 1) I J) ∧ (¬ ((Int32.ofInt 4) ≤ v6) → (vp_in (v5 + v6) 160 ∧ w_X8_tell_50 SL xs d p s q Q v1 v2 v3 v4 v5 (v6 + Int32.ofInt 1) I (mm_u J 36 (((v5 + v6)).toNatClampNeg) (Int64.ofInt 0)))))) : w_X8_tell_50 SL xs d p s q Q v1 v2 v3 v4 v5 v6 I J := by
  unfold w_X8_tell_50
  refine sp_iload 52 rfl rfl rfl ?_
  refine sp_iconst 53 rfl rfl ?_
  refine sp_ic_ge 56 rfl rfl (fun q_ => ?_) (fun q_ => ?_)
  · have k := k.1 q_
    refine sp_iconst 74 rfl rfl ?_
    refine hs_istore 76 (L2 := [some (.ref 33), some (.int v1), some (.int v2), some (.int v3), some (.int v4), some (.int v5), some (.int (Int32.ofInt 1))]) rfl rfl rfl rfl ?_
    exact k
  · have k := k.2 q_
    refine sp_aload_n 57 rfl rfl rfl ?_
    refine hq_getR 60 rfl rfl rfl rfl ?_
    refine sp_iload 62 rfl rfl rfl ?_
    refine sp_iload 64 rfl rfl rfl ?_
    refine sp_iadd 65 rfl rfl ?_
    refine sp_lconst 66 rfl rfl ?_
    refine sp_J (y := Int64.ofInt 0) rfl ?_
    have n2_ := k.1
    have k := k.2
    refine hq_last 67 rfl rfl n2_ rfl ?_
    refine hs_iinc 70 (L2 := [some (.ref 33), some (.int v1), some (.int v2), some (.int v3), some (.int v4), some (.int v5), some (.int (v6 + Int32.ofInt 1))]) rfl rfl rfl rfl rfl ?_
    refine sp_goto rfl ?_
    exact k
theorem sg_X8_tell_76 {SL : Nat} {xs : Nat → Int32} {d : Nat} {p s q : Nat} {Q : Option Value → mm_H → Prop} {v1 : Int32} {v2 : Int32} {v3 : Int32} {v4 : Int32} {v5 : Int32} {v6 : Int32} {I : Nat → Nat → Int32} {J : Nat → Nat → Int64}  (k : (((Int32.ofInt 200) < v6 → Q (some (.int (((I 33 0) + (Int32.ofInt 1)) - (Int32.ofInt 1)))) (hp p s q (mm_u I 33 0 ((I 33 0) + (Int32.ofInt 1))) J)) ∧ (¬ ((Int32.ofInt 200) < v6) → (mm_s SL xs (d + 1) 40 [.int v1, .int v6, .int v2] (hp p s q I J) (fun r_ h_ => ∃ x1 I1 J1, r_ = some (.int x1) ∧ h_ = hp p s q I1 J1 ∧ ((x1 = v3 → (vp_in (v5 + (v6 / (Int32.ofInt 64))) 160 ∧ w_X8_tell_76 SL xs d p s q Q v1 v2 v3 v4 v5 (v6 + Int32.ofInt 1) I1 (mm_u J1 36 (((v5 + (v6 / (Int32.ofInt 64)))).toNatClampNeg) ((J1 36 (((v5 + (v6 / (Int32.ofInt 64)))).toNatClampNeg)) ||| ((Int64.ofInt 1) <<< (((v6 - v6 / (Int32.ofInt 64) * (Int32.ofInt 64))).toInt64 &&& 63)))))) ∧ (¬ (x1 = v3) → w_X8_tell_76 SL xs d p s q Q v1 v2 v3 v4 v5 (v6 + Int32.ofInt 1) I1 J1))))))) : w_X8_tell_76 SL xs d p s q Q v1 v2 v3 v4 v5 v6 I J := by
  unfold w_X8_tell_76
  refine sp_iload 78 rfl rfl rfl ?_
  refine sp_sipush 81 rfl rfl ?_
  refine sp_I (y := Int32.ofInt 200) rfl ?_
  refine sp_ic_gt 84 rfl rfl (fun q_ => ?_) (fun q_ => ?_)
  · have k := k.1 q_
    refine sp_aload_n 125 rfl rfl rfl ?_
    refine sp_dup 126 rfl rfl rfl ?_
    refine hq_getI 129 rfl rfl rfl ?_
    refine sp_iconst 130 rfl rfl ?_
    refine sp_iadd 131 rfl rfl ?_
    refine hq_putI 134 rfl rfl rfl ?_
    refine sp_aload_n 135 rfl rfl rfl ?_
    refine hq_getI 138 rfl rfl rfl ?_
    refine sp_I (y := ((I 33 0) + (Int32.ofInt 1))) (by simp [mm_u]) ?_
    refine sp_iconst 139 rfl rfl ?_
    refine sp_isub 140 rfl rfl ?_
    exact st_iret rfl rfl (Nat.le_refl _) (Nat.le_refl _) k
  · have k := k.2 q_
    refine sp_iload_n 85 rfl rfl rfl ?_
    refine sp_iload 87 rfl rfl rfl ?_
    refine sp_iload_n 88 rfl rfl rfl ?_
    refine sc_S 91 rfl rfl rfl rfl (Nat.le_refl _) (Nat.le_refl _) rfl ?_
    refine mm_s_mono _ _ _ _ _ _ ?_ k
    rintro r_ h_ ⟨x1, I1, J1, rfl, rfl, k⟩
    refine hs_S (st2 := [.int x1]) rfl ?_
    refine sp_iload_n 92 rfl rfl rfl ?_
    refine sp_ic_ne 95 rfl rfl (fun q_ => ?_) (fun q_ => ?_)
    · have k := k.2 q_
      refine hs_iinc 121 (L2 := [some (.ref 33), some (.int v1), some (.int v2), some (.int v3), some (.int v4), some (.int v5), some (.int (v6 + Int32.ofInt 1))]) rfl rfl rfl rfl rfl ?_
      refine sp_goto rfl ?_
      exact k
    · have k := k.1 q_
      refine sp_aload_n 96 rfl rfl rfl ?_
      refine hq_getR 99 rfl rfl rfl rfl ?_
      refine sp_iload 101 rfl rfl rfl ?_
      refine sp_iload 103 rfl rfl rfl ?_
      refine sp_bipush 105 rfl rfl ?_
      refine sp_I (y := Int32.ofInt 64) rfl ?_
      refine sp_idiv 106 rfl (by decide) rfl ?_
      refine sp_iadd 107 rfl rfl ?_
      refine sp_dup2 108 rfl rfl rfl rfl ?_
      have n3_ := k.1
      have k := k.2
      refine hq_lald 109 rfl rfl n3_ rfl ?_
      refine sp_lconst 110 rfl rfl ?_
      refine sp_J (y := Int64.ofInt 1) rfl ?_
      refine sp_iload 112 rfl rfl rfl ?_
      refine sp_bipush 114 rfl rfl ?_
      refine sp_I (y := Int32.ofInt 64) rfl ?_
      refine sp_irem 115 rfl (by decide) rfl ?_
      refine sp_lshl 116 rfl rfl ?_
      refine sp_lor 117 rfl rfl ?_
      refine hq_last 118 rfl rfl n3_ rfl ?_
      refine hs_iinc 121 (L2 := [some (.ref 33), some (.int v1), some (.int v2), some (.int v3), some (.int v4), some (.int v5), some (.int (v6 + Int32.ofInt 1))]) rfl rfl rfl rfl rfl ?_
      refine sp_goto rfl ?_
      exact k
def w_X8_fitCount_4 (SL : Nat) (xs : Nat → Int32) (d : Nat) (p s q : Nat) (Q : Option Value → mm_H → Prop) (v1 : Int32) (v2 : Int32) (I : Nat → Nat → Int32) (J : Nat → Nat → Int64) : Prop := mm_w SL xs (mm_s SL xs (d + 1)) mm_am kX8_fitCount 0 0 (some .int) Q 4 [some (.ref 33), some (.int v1), some (.int v2)] [] (hp p s q I J) 0 0
theorem sg_X8_fitCount {SL : Nat} {xs : Nat → Int32} {d : Nat} {p s q : Nat} {Q : Option Value → mm_H → Prop}  {I : Nat → Nat → Int32} {J : Nat → Nat → Int64}  (k : w_X8_fitCount_4 SL xs d p s q Q (Int32.ofInt 0) (Int32.ofInt 1) I J) : mm_s SL xs (d + 2) 97 [.ref 33] (hp p s q I J) Q := by
  refine e_X8_fitCount rfl ?_
  refine hs_L (L2 := [some (.ref 33), none, none]) rfl ?_
  refine sp_iconst 1 rfl rfl ?_
  refine hs_istore_n 2 (L2 := [some (.ref 33), some (.int (Int32.ofInt 0)), none]) rfl rfl rfl rfl ?_
  refine sp_iconst 3 rfl rfl ?_
  refine hs_istore_n 4 (L2 := [some (.ref 33), some (.int (Int32.ofInt 0)), some (.int (Int32.ofInt 1))]) rfl rfl rfl rfl ?_
  exact k
theorem sg_X8_fitCount_4 {SL : Nat} {xs : Nat → Int32} {d : Nat} {p s q : Nat} {Q : Option Value → mm_H → Prop} {v1 : Int32} {v2 : Int32} {I : Nat → Nat → Int32} {J : Nat → Nat → Int64}  (k : (((Int32.ofInt 200) < v2 → Q (some (.int v1)) (hp p s q I J)) ∧ (¬ ((Int32.ofInt 200) < v2) → (mm_s SL xs (d + 1) 96 [.ref 33, .int v2] (hp p s q I J) (fun r_ h_ => ∃ x1 I1 J1, r_ = some (.int x1) ∧ h_ = hp p s q I1 J1 ∧ ((x1 = Int32.ofInt 0 → w_X8_fitCount_4 SL xs d p s q Q v1 (v2 + Int32.ofInt 1) I1 J1) ∧ (¬ (x1 = Int32.ofInt 0) → w_X8_fitCount_4 SL xs d p s q Q (v1 + Int32.ofInt 1) (v2 + Int32.ofInt 1) I1 J1))))))) : w_X8_fitCount_4 SL xs d p s q Q v1 v2 I J := by
  unfold w_X8_fitCount_4
  refine sp_iload_n 5 rfl rfl rfl ?_
  refine sp_sipush 8 rfl rfl ?_
  refine sp_I (y := Int32.ofInt 200) rfl ?_
  refine sp_ic_gt 11 rfl rfl (fun q_ => ?_) (fun q_ => ?_)
  · have k := k.1 q_
    refine sp_iload_n 29 rfl rfl rfl ?_
    exact st_iret rfl rfl (Nat.le_refl _) (Nat.le_refl _) k
  · have k := k.2 q_
    refine sp_aload_n 12 rfl rfl rfl ?_
    refine sp_iload_n 13 rfl rfl rfl ?_
    refine sc_V 16 rfl rfl rfl rfl rfl (Nat.le_refl _) (Nat.le_refl _) rfl ?_
    refine mm_s_mono _ _ _ _ _ _ ?_ k
    rintro r_ h_ ⟨x1, I1, J1, rfl, rfl, k⟩
    refine hs_S (st2 := [.int x1]) rfl ?_
    refine sp_if_eq 19 rfl rfl (fun q_ => ?_) (fun q_ => ?_)
    · have k := k.1 q_
      refine hs_iinc 25 (L2 := [some (.ref 33), some (.int v1), some (.int (v2 + Int32.ofInt 1))]) rfl rfl rfl rfl rfl ?_
      refine sp_goto rfl ?_
      exact k
    · have k := k.2 q_
      refine hs_iinc 22 (L2 := [some (.ref 33), some (.int (v1 + Int32.ofInt 1)), some (.int v2)]) rfl rfl rfl rfl rfl ?_
      refine hs_iinc 25 (L2 := [some (.ref 33), some (.int (v1 + Int32.ofInt 1)), some (.int (v2 + Int32.ofInt 1))]) rfl rfl rfl rfl rfl ?_
      refine sp_goto rfl ?_
      exact k
def w_X8_leastFit_2 (SL : Nat) (xs : Nat → Int32) (d : Nat) (p s q : Nat) (Q : Option Value → mm_H → Prop) (v1 : Int32) (I : Nat → Nat → Int32) (J : Nat → Nat → Int64) : Prop := mm_w SL xs (mm_s SL xs (d + 1)) mm_am kX8_leastFit 0 0 (some .int) Q 2 [some (.ref 33), some (.int v1)] [] (hp p s q I J) 0 0
theorem sg_X8_leastFit {SL : Nat} {xs : Nat → Int32} {d : Nat} {p s q : Nat} {Q : Option Value → mm_H → Prop}  {I : Nat → Nat → Int32} {J : Nat → Nat → Int64}  (k : w_X8_leastFit_2 SL xs d p s q Q (Int32.ofInt 1) I J) : mm_s SL xs (d + 2) 98 [.ref 33] (hp p s q I J) Q := by
  refine e_X8_leastFit rfl ?_
  refine hs_L (L2 := [some (.ref 33), none]) rfl ?_
  refine sp_iconst 1 rfl rfl ?_
  refine hs_istore_n 2 (L2 := [some (.ref 33), some (.int (Int32.ofInt 1))]) rfl rfl rfl rfl ?_
  exact k
theorem sg_X8_leastFit_2 {SL : Nat} {xs : Nat → Int32} {d : Nat} {p s q : Nat} {Q : Option Value → mm_H → Prop} {v1 : Int32} {I : Nat → Nat → Int32} {J : Nat → Nat → Int64}  (k : (((Int32.ofInt 200) < v1 → Q (some (.int (Int32.ofInt (-1)))) (hp p s q I J)) ∧ (¬ ((Int32.ofInt 200) < v1) → (mm_s SL xs (d + 1) 96 [.ref 33, .int v1] (hp p s q I J) (fun r_ h_ => ∃ x1 I1 J1, r_ = some (.int x1) ∧ h_ = hp p s q I1 J1 ∧ ((x1 = Int32.ofInt 0 → w_X8_leastFit_2 SL xs d p s q Q (v1 + Int32.ofInt 1) I1 J1) ∧ (¬ (x1 = Int32.ofInt 0) → Q (some (.int v1)) (hp p s q I1 J1)))))))) : w_X8_leastFit_2 SL xs d p s q Q v1 I J := by
  unfold w_X8_leastFit_2
  refine sp_iload_n 3 rfl rfl rfl ?_
  refine sp_sipush 6 rfl rfl ?_
  refine sp_I (y := Int32.ofInt 200) rfl ?_
  refine sp_ic_gt 9 rfl rfl (fun q_ => ?_) (fun q_ => ?_)
  · have k := k.1 q_
    refine sp_iconst 26 rfl rfl ?_
    exact st_iret rfl rfl (Nat.le_refl _) (Nat.le_refl _) k
  · have k := k.2 q_
    refine sp_aload_n 10 rfl rfl rfl ?_
    refine sp_iload_n 11 rfl rfl rfl ?_
    refine sc_V 14 rfl rfl rfl rfl rfl (Nat.le_refl _) (Nat.le_refl _) rfl ?_
    refine mm_s_mono _ _ _ _ _ _ ?_ k
    rintro r_ h_ ⟨x1, I1, J1, rfl, rfl, k⟩
    refine hs_S (st2 := [.int x1]) rfl ?_
    refine sp_if_eq 17 rfl rfl (fun q_ => ?_) (fun q_ => ?_)
    · have k := k.1 q_
      refine hs_iinc 22 (L2 := [some (.ref 33), some (.int (v1 + Int32.ofInt 1))]) rfl rfl rfl rfl rfl ?_
      refine sp_goto rfl ?_
      exact k
    · have k := k.2 q_
      refine sp_iload_n 18 rfl rfl rfl ?_
      exact st_iret rfl rfl (Nat.le_refl _) (Nat.le_refl _) k
def w_X8_greatestAt_18 (SL : Nat) (xs : Nat → Int32) (d : Nat) (p s q : Nat) (Q : Option Value → mm_H → Prop) (v1 : Int32) (v2 : Int32) (v3 : Int32) (v4 : Int32) (I : Nat → Nat → Int32) (J : Nat → Nat → Int64) : Prop := mm_w SL xs (mm_s SL xs (d + 1)) mm_am kX8_greatestAt 0 0 (some .int) Q 18 [some (.ref 33), some (.int v1), some (.int v2), some (.int v3), some (.int v4)] [] (hp p s q I J) 0 0
theorem sg_X8_greatestAt {SL : Nat} {xs : Nat → Int32} {d : Nat} {p s q : Nat} {Q : Option Value → mm_H → Prop} {a0 : Int32} {a1 : Int32} {I : Nat → Nat → Int32} {J : Nat → Nat → Int64}  (k : ((a1 < (Int32.ofInt 1) → Q (some (.int (Int32.ofInt 0))) (hp p s q I J)) ∧ (¬ (a1 < (Int32.ofInt 1)) → ((a1 ≤ (Int32.ofInt 60) → w_X8_greatestAt_18 SL xs d p s q Q a0 a1 (Int32.ofInt 0) (Int32.ofInt 0) I J) ∧ (¬ (a1 ≤ (Int32.ofInt 60)) → Q (some (.int (Int32.ofInt 0))) (hp p s q I J)))))) : mm_s SL xs (d + 2) 101 [.ref 33, .int a0, .int a1] (hp p s q I J) Q := by
  refine e_X8_greatestAt rfl ?_
  refine hs_L (L2 := [some (.ref 33), some (.int a0), some (.int a1), none, none]) rfl ?_
  refine sp_iconst 1 rfl rfl ?_
  refine hs_istore_n 2 (L2 := [some (.ref 33), some (.int a0), some (.int a1), some (.int (Int32.ofInt 0)), none]) rfl rfl rfl rfl ?_
  refine sp_iload_n 3 rfl rfl rfl ?_
  refine sp_iconst 4 rfl rfl ?_
  refine sp_ic_lt 7 rfl rfl (fun q_ => ?_) (fun q_ => ?_)
  · have k := k.1 q_
    refine sp_iload_n 14 rfl rfl rfl ?_
    exact st_iret rfl rfl (Nat.le_refl _) (Nat.le_refl _) k
  · have k := k.2 q_
    refine sp_iload_n 8 rfl rfl rfl ?_
    refine sp_bipush 10 rfl rfl ?_
    refine sp_I (y := Int32.ofInt 60) rfl ?_
    refine sp_ic_le 13 rfl rfl (fun q_ => ?_) (fun q_ => ?_)
    · have k := k.1 q_
      refine sp_iconst 16 rfl rfl ?_
      refine hs_istore 18 (L2 := [some (.ref 33), some (.int a0), some (.int a1), some (.int (Int32.ofInt 0)), some (.int (Int32.ofInt 0))]) rfl rfl rfl rfl ?_
      exact k
    · have k := k.2 q_
      refine sp_iload_n 14 rfl rfl rfl ?_
      exact st_iret rfl rfl (Nat.le_refl _) (Nat.le_refl _) k
theorem sg_X8_greatestAt_18 {SL : Nat} {xs : Nat → Int32} {d : Nat} {p s q : Nat} {Q : Option Value → mm_H → Prop} {v1 : Int32} {v2 : Int32} {v3 : Int32} {v4 : Int32} {I : Nat → Nat → Int32} {J : Nat → Nat → Int64}  (k : ((v1 ≤ v4 → Q (some (.int v3)) (hp p s q I J)) ∧ (¬ (v1 ≤ v4) → (((Int32.ofInt 60) ≤ v4 → Q (some (.int v3)) (hp p s q I J)) ∧ (¬ ((Int32.ofInt 60) ≤ v4) → (vp_in (((v2 - (Int32.ofInt 1)) * (Int32.ofInt 60)) + v4) 3600 ∧ w_X8_greatestAt_18 SL xs d p s q Q v1 v2 (sx_J9_max_7cf53 v3 (I 38 (((((v2 - (Int32.ofInt 1)) * (Int32.ofInt 60)) + v4)).toNatClampNeg))) (v4 + Int32.ofInt 1) I J)))))) : w_X8_greatestAt_18 SL xs d p s q Q v1 v2 v3 v4 I J := by
  unfold w_X8_greatestAt_18
  refine sp_iload 20 rfl rfl rfl ?_
  refine sp_iload_n 21 rfl rfl rfl ?_
  refine sp_ic_ge 24 rfl rfl (fun q_ => ?_) (fun q_ => ?_)
  · have k := k.1 q_
    refine sp_iload_n 57 rfl rfl rfl ?_
    exact st_iret rfl rfl (Nat.le_refl _) (Nat.le_refl _) k
  · have k := k.2 q_
    refine sp_iload 26 rfl rfl rfl ?_
    refine sp_bipush 28 rfl rfl ?_
    refine sp_I (y := Int32.ofInt 60) rfl ?_
    refine sp_ic_ge 31 rfl rfl (fun q_ => ?_) (fun q_ => ?_)
    · have k := k.1 q_
      refine sp_iload_n 57 rfl rfl rfl ?_
      exact st_iret rfl rfl (Nat.le_refl _) (Nat.le_refl _) k
    · have k := k.2 q_
      refine sp_iload_n 32 rfl rfl rfl ?_
      refine sp_aload_n 33 rfl rfl rfl ?_
      refine hq_getR 36 rfl rfl rfl rfl ?_
      refine sp_iload_n 37 rfl rfl rfl ?_
      refine sp_iconst 38 rfl rfl ?_
      refine sp_isub 39 rfl rfl ?_
      refine sp_bipush 41 rfl rfl ?_
      refine sp_I (y := Int32.ofInt 60) rfl ?_
      refine sp_imul 42 rfl rfl ?_
      refine sp_iload 44 rfl rfl rfl ?_
      refine sp_iadd 45 rfl rfl ?_
      have n1_ := k.1
      have k := k.2
      refine hq_iald 46 rfl rfl n1_ rfl ?_
      refine sc_S 49 rfl rfl rfl rfl (Nat.le_refl _) (Nat.le_refl _) rfl ?_
      refine cx_J9_max_7cf53 ?_
      refine hs_S (st2 := [.int (sx_J9_max_7cf53 v3 (I 38 (((((v2 - (Int32.ofInt 1)) * (Int32.ofInt 60)) + v4)).toNatClampNeg)))]) rfl ?_
      refine hs_istore_n 50 (L2 := [some (.ref 33), some (.int v1), some (.int v2), some (.int (sx_J9_max_7cf53 v3 (I 38 (((((v2 - (Int32.ofInt 1)) * (Int32.ofInt 60)) + v4)).toNatClampNeg)))), some (.int v4)]) rfl rfl rfl rfl ?_
      refine hs_iinc 53 (L2 := [some (.ref 33), some (.int v1), some (.int v2), some (.int (sx_J9_max_7cf53 v3 (I 38 (((((v2 - (Int32.ofInt 1)) * (Int32.ofInt 60)) + v4)).toNatClampNeg)))), some (.int (v4 + Int32.ofInt 1))]) rfl rfl rfl rfl rfl ?_
      refine sp_goto rfl ?_
      exact k
def w_X9_takeWord_10 (SL : Nat) (xs : Nat → Int32) (d : Nat) (p s q : Nat) (Q : Option Value → mm_H → Prop)  (I : Nat → Nat → Int32) (J : Nat → Nat → Int64) : Prop := mm_w SL xs (mm_s SL xs (d + 1)) mm_am kX9_takeWord 0 0 none Q 10 [some (.ref 4)] [] (hp p s q I J) 0 0
theorem sg_X9_takeWord {SL : Nat} {xs : Nat → Int32} {d : Nat} {p s q : Nat} {Q : Option Value → mm_H → Prop}  {I : Nat → Nat → Int32} {J : Nat → Nat → Int64}  (k : w_X9_takeWord_10 SL xs d p s q Q  (mm_u I 4 6 (Int32.ofInt 0)) (mm_u J 4 5 (Int64.ofInt 0))) : mm_s SL xs (d + 2) 106 [.ref 4] (hp p s q I J) Q := by
  refine e_X9_takeWord rfl ?_
  refine hs_L (L2 := [some (.ref 4)]) rfl ?_
  refine sp_aload_n 1 rfl rfl rfl ?_
  refine sp_lconst 2 rfl rfl ?_
  refine sp_J (y := Int64.ofInt 0) rfl ?_
  refine hq_putJ 5 rfl rfl rfl ?_
  refine sp_aload_n 6 rfl rfl rfl ?_
  refine sp_iconst 7 rfl rfl ?_
  refine hq_putI 10 rfl rfl rfl ?_
  exact k
theorem sg_X9_takeWord_10 {SL : Nat} {xs : Nat → Int32} {d : Nat} {p s q : Nat} {Q : Option Value → mm_H → Prop}  {I : Nat → Nat → Int32} {J : Nat → Nat → Int64}  (k : (((I 4 1) ≤ (I 4 7) → (((I 4 6) ≤ (Int32.ofInt 8) → (mm_s SL xs (d + 1) 108 [.ref 4, .long (J 4 5)] (hp p s q I J) (fun r_ h_ => ∃ x1 I1 J1, r_ = some (.int x1) ∧ h_ = hp p s q I1 J1 ∧ Q none (hp p s q (mm_u I1 4 2 x1) J1)))) ∧ (¬ ((I 4 6) ≤ (Int32.ofInt 8)) → Q none (hp p s q (mm_u I 4 2 (Int32.ofInt 1)) J)))) ∧ (¬ ((I 4 1) ≤ (I 4 7)) → (mm_s SL xs (d + 1) 109 [.ref 4, .int (I 4 7)] (hp p s q I J) (fun r_ h_ => ∃ x2 I2 J2, r_ = some (.int x2) ∧ h_ = hp p s q I2 J2 ∧ (((sx_X9_isLetter x2) = Int32.ofInt 0 → (((I2 4 6) ≤ (Int32.ofInt 8) → (mm_s SL xs (d + 1) 108 [.ref 4, .long (J2 4 5)] (hp p s q I2 J2) (fun r_ h_ => ∃ x3 I3 J3, r_ = some (.int x3) ∧ h_ = hp p s q I3 J3 ∧ Q none (hp p s q (mm_u I3 4 2 x3) J3)))) ∧ (¬ ((I2 4 6) ≤ (Int32.ofInt 8)) → Q none (hp p s q (mm_u I2 4 2 (Int32.ofInt 1)) J2)))) ∧ (¬ ((sx_X9_isLetter x2) = Int32.ofInt 0) → (mm_s SL xs (d + 1) 109 [.ref 4, .int (I2 4 7)] (hp p s q I2 J2) (fun r_ h_ => ∃ x4 I4 J4, r_ = some (.int x4) ∧ h_ = hp p s q I4 J4 ∧ w_X9_takeWord_10 SL xs d p s q Q  (mm_u (mm_u I4 4 6 ((I4 4 6) + (Int32.ofInt 1))) 4 7 ((I4 4 7) + (Int32.ofInt 1))) (mm_u J4 4 5 (sx_X9_withLetter (J2 4 5) x4))))))))))) : w_X9_takeWord_10 SL xs d p s q Q  I J := by
  unfold w_X9_takeWord_10
  refine sp_aload_n 11 rfl rfl rfl ?_
  refine hq_getI 14 rfl rfl rfl ?_
  refine sp_aload_n 15 rfl rfl rfl ?_
  refine hq_getI 18 rfl rfl rfl ?_
  refine sp_ic_ge 21 rfl rfl (fun q_ => ?_) (fun q_ => ?_)
  · have k := k.1 q_
    refine sp_aload_n 78 rfl rfl rfl ?_
    refine sp_aload_n 79 rfl rfl rfl ?_
    refine hq_getI 82 rfl rfl rfl ?_
    refine sp_bipush 84 rfl rfl ?_
    refine sp_I (y := Int32.ofInt 8) rfl ?_
    refine sp_ic_le 87 rfl rfl (fun q_ => ?_) (fun q_ => ?_)
    · have k := k.1 q_
      refine sp_aload_n 92 rfl rfl rfl ?_
      refine sp_aload_n 93 rfl rfl rfl ?_
      refine hq_getJ 96 rfl rfl rfl ?_
      refine sc_V 99 rfl rfl rfl rfl rfl (Nat.le_refl _) (Nat.le_refl _) rfl ?_
      refine mm_s_mono _ _ _ _ _ _ ?_ k
      rintro r_ h_ ⟨x1, I1, J1, rfl, rfl, k⟩
      refine hs_S (st2 := [.int x1, .ref 4]) rfl ?_
      refine hq_putI 102 rfl rfl rfl ?_
      exact st_vret rfl rfl (Nat.le_refl _) (Nat.le_refl _) k
    · have k := k.2 q_
      refine sp_iconst 88 rfl rfl ?_
      refine sp_goto rfl ?_
      refine hq_putI 102 rfl rfl rfl ?_
      exact st_vret rfl rfl (Nat.le_refl _) (Nat.le_refl _) k
  · have k := k.2 q_
    refine sp_aload_n 22 rfl rfl rfl ?_
    refine sp_aload_n 23 rfl rfl rfl ?_
    refine hq_getI 26 rfl rfl rfl ?_
    refine sc_V 29 rfl rfl rfl rfl rfl (Nat.le_refl _) (Nat.le_refl _) rfl ?_
    refine mm_s_mono _ _ _ _ _ _ ?_ k
    rintro r_ h_ ⟨x2, I2, J2, rfl, rfl, k⟩
    refine hs_S (st2 := [.int x2]) rfl ?_
    refine sc_S 32 rfl rfl rfl rfl (Nat.le_refl _) (Nat.le_refl _) rfl ?_
    refine cx_X9_isLetter ?_
    refine hs_S (st2 := [.int (sx_X9_isLetter x2)]) rfl ?_
    refine sp_if_eq 35 rfl rfl (fun q_ => ?_) (fun q_ => ?_)
    · have k := k.1 q_
      refine sp_aload_n 78 rfl rfl rfl ?_
      refine sp_aload_n 79 rfl rfl rfl ?_
      refine hq_getI 82 rfl rfl rfl ?_
      refine sp_bipush 84 rfl rfl ?_
      refine sp_I (y := Int32.ofInt 8) rfl ?_
      refine sp_ic_le 87 rfl rfl (fun q_ => ?_) (fun q_ => ?_)
      · have k := k.1 q_
        refine sp_aload_n 92 rfl rfl rfl ?_
        refine sp_aload_n 93 rfl rfl rfl ?_
        refine hq_getJ 96 rfl rfl rfl ?_
        refine sc_V 99 rfl rfl rfl rfl rfl (Nat.le_refl _) (Nat.le_refl _) rfl ?_
        refine mm_s_mono _ _ _ _ _ _ ?_ k
        rintro r_ h_ ⟨x3, I3, J3, rfl, rfl, k⟩
        refine hs_S (st2 := [.int x3, .ref 4]) rfl ?_
        refine hq_putI 102 rfl rfl rfl ?_
        exact st_vret rfl rfl (Nat.le_refl _) (Nat.le_refl _) k
      · have k := k.2 q_
        refine sp_iconst 88 rfl rfl ?_
        refine sp_goto rfl ?_
        refine hq_putI 102 rfl rfl rfl ?_
        exact st_vret rfl rfl (Nat.le_refl _) (Nat.le_refl _) k
    · have k := k.2 q_
      refine sp_aload_n 36 rfl rfl rfl ?_
      refine sp_aload_n 37 rfl rfl rfl ?_
      refine hq_getJ 40 rfl rfl rfl ?_
      refine sp_aload_n 41 rfl rfl rfl ?_
      refine sp_aload_n 42 rfl rfl rfl ?_
      refine hq_getI 45 rfl rfl rfl ?_
      refine sc_V 48 rfl rfl rfl rfl rfl (Nat.le_refl _) (Nat.le_refl _) rfl ?_
      refine mm_s_mono _ _ _ _ _ _ ?_ k
      rintro r_ h_ ⟨x4, I4, J4, rfl, rfl, k⟩
      refine hs_S (st2 := [.int x4, .long (J2 4 5), .ref 4]) rfl ?_
      refine sc_S 51 rfl rfl rfl rfl (Nat.le_refl _) (Nat.le_refl _) rfl ?_
      refine cx_X9_withLetter ?_
      refine hs_S (st2 := [.long (sx_X9_withLetter (J2 4 5) x4), .ref 4]) rfl ?_
      refine hq_putJ 54 rfl rfl rfl ?_
      refine sp_aload_n 55 rfl rfl rfl ?_
      refine sp_dup 56 rfl rfl rfl ?_
      refine hq_getI 59 rfl rfl rfl ?_
      refine sp_iconst 60 rfl rfl ?_
      refine sp_iadd 61 rfl rfl ?_
      refine hq_putI 64 rfl rfl rfl ?_
      refine sp_aload_n 65 rfl rfl rfl ?_
      refine sp_dup 66 rfl rfl rfl ?_
      refine hq_getI 69 rfl rfl rfl ?_
      refine sp_I (y := (I4 4 7)) (by simp [mm_u]) ?_
      refine sp_iconst 70 rfl rfl ?_
      refine sp_iadd 71 rfl rfl ?_
      refine hq_putI 74 rfl rfl rfl ?_
      refine sp_goto rfl ?_
      exact k
def w_X9_takeNumber_7 (SL : Nat) (xs : Nat → Int32) (d : Nat) (p s q : Nat) (Q : Option Value → mm_H → Prop) (v1 : Int32) (I : Nat → Nat → Int32) (J : Nat → Nat → Int64) : Prop := mm_w SL xs (mm_s SL xs (d + 1)) mm_am kX9_takeNumber 0 0 none Q 7 [some (.ref 4), some (.int v1)] [] (hp p s q I J) 0 0
theorem sg_X9_takeNumber {SL : Nat} {xs : Nat → Int32} {d : Nat} {p s q : Nat} {Q : Option Value → mm_H → Prop}  {I : Nat → Nat → Int32} {J : Nat → Nat → Int64}  (k : w_X9_takeNumber_7 SL xs d p s q Q (Int32.ofInt 0) (mm_u I 4 4 (Int32.ofInt 0)) J) : mm_s SL xs (d + 2) 107 [.ref 4] (hp p s q I J) Q := by
  refine e_X9_takeNumber rfl ?_
  refine hs_L (L2 := [some (.ref 4), none]) rfl ?_
  refine sp_iconst 1 rfl rfl ?_
  refine hs_istore_n 2 (L2 := [some (.ref 4), some (.int (Int32.ofInt 0))]) rfl rfl rfl rfl ?_
  refine sp_aload_n 3 rfl rfl rfl ?_
  refine sp_iconst 4 rfl rfl ?_
  refine hq_putI 7 rfl rfl rfl ?_
  exact k
theorem sg_X9_takeNumber_7 {SL : Nat} {xs : Nat → Int32} {d : Nat} {p s q : Nat} {Q : Option Value → mm_H → Prop} {v1 : Int32} {I : Nat → Nat → Int32} {J : Nat → Nat → Int64}  (k : (((I 4 1) ≤ (I 4 7) → (((Int32.ofInt 4) < v1 → Q none (hp p s q (mm_u I 4 2 (Int32.ofInt 1)) J)) ∧ (¬ ((Int32.ofInt 4) < v1) → (mm_s SL xs (d + 1) 109 [.ref 4, .int (I 4 7)] (hp p s q I J) (fun r_ h_ => ∃ x1 I1 J1, r_ = some (.int x1) ∧ h_ = hp p s q I1 J1 ∧ (((sx_X9_isLetter x1) = Int32.ofInt 0 → Q none (hp p s q (mm_u I1 4 2 (Int32.ofInt 2)) J1)) ∧ (¬ ((sx_X9_isLetter x1) = Int32.ofInt 0) → Q none (hp p s q (mm_u I1 4 2 (Int32.ofInt 1)) J1)))))))) ∧ (¬ ((I 4 1) ≤ (I 4 7)) → (mm_s SL xs (d + 1) 109 [.ref 4, .int (I 4 7)] (hp p s q I J) (fun r_ h_ => ∃ x2 I2 J2, r_ = some (.int x2) ∧ h_ = hp p s q I2 J2 ∧ (((sx_X9_isDigit x2) = Int32.ofInt 0 → (((Int32.ofInt 4) < v1 → Q none (hp p s q (mm_u I2 4 2 (Int32.ofInt 1)) J2)) ∧ (¬ ((Int32.ofInt 4) < v1) → (mm_s SL xs (d + 1) 109 [.ref 4, .int (I2 4 7)] (hp p s q I2 J2) (fun r_ h_ => ∃ x3 I3 J3, r_ = some (.int x3) ∧ h_ = hp p s q I3 J3 ∧ (((sx_X9_isLetter x3) = Int32.ofInt 0 → Q none (hp p s q (mm_u I3 4 2 (Int32.ofInt 2)) J3)) ∧ (¬ ((sx_X9_isLetter x3) = Int32.ofInt 0) → Q none (hp p s q (mm_u I3 4 2 (Int32.ofInt 1)) J3)))))))) ∧ (¬ ((sx_X9_isDigit x2) = Int32.ofInt 0) → (mm_s SL xs (d + 1) 109 [.ref 4, .int (I2 4 7)] (hp p s q I2 J2) (fun r_ h_ => ∃ x4 I4 J4, r_ = some (.int x4) ∧ h_ = hp p s q I4 J4 ∧ w_X9_takeNumber_7 SL xs d p s q Q (v1 + Int32.ofInt 1) (mm_u (mm_u I4 4 4 ((((I2 4 4) * (Int32.ofInt 10)) + x4) - (Int32.ofInt 48))) 4 7 ((I4 4 7) + (Int32.ofInt 1))) J4))))))))) : w_X9_takeNumber_7 SL xs d p s q Q v1 I J := by
  unfold w_X9_takeNumber_7
  refine sp_aload_n 8 rfl rfl rfl ?_
  refine hq_getI 11 rfl rfl rfl ?_
  refine sp_aload_n 12 rfl rfl rfl ?_
  refine hq_getI 15 rfl rfl rfl ?_
  refine sp_ic_ge 18 rfl rfl (fun q_ => ?_) (fun q_ => ?_)
  · have k := k.1 q_
    refine sp_aload_n 72 rfl rfl rfl ?_
    refine sp_iload_n 73 rfl rfl rfl ?_
    refine sp_iconst 74 rfl rfl ?_
    refine sp_ic_gt 77 rfl rfl (fun q_ => ?_) (fun q_ => ?_)
    · have k := k.1 q_
      refine sp_iconst 92 rfl rfl ?_
      refine sp_goto rfl ?_
      refine hq_putI 99 rfl rfl rfl ?_
      exact st_vret rfl rfl (Nat.le_refl _) (Nat.le_refl _) k
    · have k := k.2 q_
      refine sp_aload_n 78 rfl rfl rfl ?_
      refine sp_aload_n 79 rfl rfl rfl ?_
      refine hq_getI 82 rfl rfl rfl ?_
      refine sc_V 85 rfl rfl rfl rfl rfl (Nat.le_refl _) (Nat.le_refl _) rfl ?_
      refine mm_s_mono _ _ _ _ _ _ ?_ k
      rintro r_ h_ ⟨x1, I1, J1, rfl, rfl, k⟩
      refine hs_S (st2 := [.int x1, .ref 4]) rfl ?_
      refine sc_S 88 rfl rfl rfl rfl (Nat.le_refl _) (Nat.le_refl _) rfl ?_
      refine cx_X9_isLetter ?_
      refine hs_S (st2 := [.int (sx_X9_isLetter x1), .ref 4]) rfl ?_
      refine sp_if_eq 91 rfl rfl (fun q_ => ?_) (fun q_ => ?_)
      · have k := k.1 q_
        refine sp_iconst 96 rfl rfl ?_
        refine hq_putI 99 rfl rfl rfl ?_
        exact st_vret rfl rfl (Nat.le_refl _) (Nat.le_refl _) k
      · have k := k.2 q_
        refine sp_iconst 92 rfl rfl ?_
        refine sp_goto rfl ?_
        refine hq_putI 99 rfl rfl rfl ?_
        exact st_vret rfl rfl (Nat.le_refl _) (Nat.le_refl _) k
  · have k := k.2 q_
    refine sp_aload_n 19 rfl rfl rfl ?_
    refine sp_aload_n 20 rfl rfl rfl ?_
    refine hq_getI 23 rfl rfl rfl ?_
    refine sc_V 26 rfl rfl rfl rfl rfl (Nat.le_refl _) (Nat.le_refl _) rfl ?_
    refine mm_s_mono _ _ _ _ _ _ ?_ k
    rintro r_ h_ ⟨x2, I2, J2, rfl, rfl, k⟩
    refine hs_S (st2 := [.int x2]) rfl ?_
    refine sc_S 29 rfl rfl rfl rfl (Nat.le_refl _) (Nat.le_refl _) rfl ?_
    refine cx_X9_isDigit ?_
    refine hs_S (st2 := [.int (sx_X9_isDigit x2)]) rfl ?_
    refine sp_if_eq 32 rfl rfl (fun q_ => ?_) (fun q_ => ?_)
    · have k := k.1 q_
      refine sp_aload_n 72 rfl rfl rfl ?_
      refine sp_iload_n 73 rfl rfl rfl ?_
      refine sp_iconst 74 rfl rfl ?_
      refine sp_ic_gt 77 rfl rfl (fun q_ => ?_) (fun q_ => ?_)
      · have k := k.1 q_
        refine sp_iconst 92 rfl rfl ?_
        refine sp_goto rfl ?_
        refine hq_putI 99 rfl rfl rfl ?_
        exact st_vret rfl rfl (Nat.le_refl _) (Nat.le_refl _) k
      · have k := k.2 q_
        refine sp_aload_n 78 rfl rfl rfl ?_
        refine sp_aload_n 79 rfl rfl rfl ?_
        refine hq_getI 82 rfl rfl rfl ?_
        refine sc_V 85 rfl rfl rfl rfl rfl (Nat.le_refl _) (Nat.le_refl _) rfl ?_
        refine mm_s_mono _ _ _ _ _ _ ?_ k
        rintro r_ h_ ⟨x3, I3, J3, rfl, rfl, k⟩
        refine hs_S (st2 := [.int x3, .ref 4]) rfl ?_
        refine sc_S 88 rfl rfl rfl rfl (Nat.le_refl _) (Nat.le_refl _) rfl ?_
        refine cx_X9_isLetter ?_
        refine hs_S (st2 := [.int (sx_X9_isLetter x3), .ref 4]) rfl ?_
        refine sp_if_eq 91 rfl rfl (fun q_ => ?_) (fun q_ => ?_)
        · have k := k.1 q_
          refine sp_iconst 96 rfl rfl ?_
          refine hq_putI 99 rfl rfl rfl ?_
          exact st_vret rfl rfl (Nat.le_refl _) (Nat.le_refl _) k
        · have k := k.2 q_
          refine sp_iconst 92 rfl rfl ?_
          refine sp_goto rfl ?_
          refine hq_putI 99 rfl rfl rfl ?_
          exact st_vret rfl rfl (Nat.le_refl _) (Nat.le_refl _) k
    · have k := k.2 q_
      refine sp_aload_n 33 rfl rfl rfl ?_
      refine sp_aload_n 34 rfl rfl rfl ?_
      refine hq_getI 37 rfl rfl rfl ?_
      refine sp_bipush 39 rfl rfl ?_
      refine sp_I (y := Int32.ofInt 10) rfl ?_
      refine sp_imul 40 rfl rfl ?_
      refine sp_aload_n 41 rfl rfl rfl ?_
      refine sp_aload_n 42 rfl rfl rfl ?_
      refine hq_getI 45 rfl rfl rfl ?_
      refine sc_V 48 rfl rfl rfl rfl rfl (Nat.le_refl _) (Nat.le_refl _) rfl ?_
      refine mm_s_mono _ _ _ _ _ _ ?_ k
      rintro r_ h_ ⟨x4, I4, J4, rfl, rfl, k⟩
      refine hs_S (st2 := [.int x4, .int ((I2 4 4) * (Int32.ofInt 10)), .ref 4]) rfl ?_
      refine sp_iadd 49 rfl rfl ?_
      refine sp_bipush 51 rfl rfl ?_
      refine sp_I (y := Int32.ofInt 48) rfl ?_
      refine sp_isub 52 rfl rfl ?_
      refine hq_putI 55 rfl rfl rfl ?_
      refine hs_iinc 58 (L2 := [some (.ref 4), some (.int (v1 + Int32.ofInt 1))]) rfl rfl rfl rfl rfl ?_
      refine sp_aload_n 59 rfl rfl rfl ?_
      refine sp_dup 60 rfl rfl rfl ?_
      refine hq_getI 63 rfl rfl rfl ?_
      refine sp_I (y := (I4 4 7)) (by simp [mm_u]) ?_
      refine sp_iconst 64 rfl rfl ?_
      refine sp_iadd 65 rfl rfl ?_
      refine hq_putI 68 rfl rfl rfl ?_
      refine sp_goto rfl ?_
      exact k
theorem sg_X1_nextCount {SL : Nat} {xs : Nat → Int32} {d : Nat} {p s q : Nat} {Q : Option Value → mm_H → Prop} {o : Nat} {a0 : Nat} {I : Nat → Nat → Int32} {J : Nat → Nat → Int64} (h_a0 : isP a0) (h_o : isC o) (k : (mm_s SL xs (d + 2) 60 [.ref a0, .int ((I o 2) + (Int32.ofInt 1)), .int (sy_X1_standing o I J), .int (I o 10)] (hp p s q I J) (fun r_ h_ => ∃ x1 I1 J1, r_ = some (.int x1) ∧ h_ = hp p s q I1 J1 ∧ Q (some (.int x1)) (hp p s q I1 J1)))) : mm_s SL xs (d + 3) 20 [.ref o, .ref a0] (hp p s q I J) Q := by
  refine e_X1_nextCount rfl ?_
  refine hs_L (L2 := [some (.ref o), some (.ref a0)]) rfl ?_
  refine sp_aload_n 1 rfl rfl rfl ?_
  refine sp_aload_n 2 rfl rfl rfl ?_
  refine hq_getI 5 rfl (kC0 h_o) rfl ?_
  refine sp_iconst 6 rfl rfl ?_
  refine sp_iadd 7 rfl rfl ?_
  refine sp_aload_n 8 rfl rfl rfl ?_
  refine sc_V 11 rfl rfl (kC0 h_o) rfl rfl (Nat.le_refl _) (Nat.le_refl _) rfl ?_
  refine cy_X1_standing h_o ?_
  refine sp_aload_n 12 rfl rfl rfl ?_
  refine hq_getI 15 rfl (kC0 h_o) rfl ?_
  refine sc_V 18 rfl rfl (kP0 h_a0) rfl rfl (Nat.le_refl _) (Nat.le_refl _) rfl ?_
  refine mm_s_mono _ _ _ _ _ _ ?_ k
  rintro r_ h_ ⟨x1, I1, J1, rfl, rfl, k⟩
  refine hs_S (st2 := [.int x1]) rfl ?_
  exact st_iret rfl rfl (Nat.le_refl _) (Nat.le_refl _) k
theorem sg_X1_hit {SL : Nat} {xs : Nat → Int32} {d : Nat} {p s q : Nat} {Q : Option Value → mm_H → Prop} {o : Nat} {a0 : Nat} {a1 : Int32} {I : Nat → Nat → Int32} {J : Nat → Nat → Int64} (h_a0 : isP a0) (h_o : isC o) (k : ((a1 < Int32.ofInt 0 → Q none (hp p s q I J)) ∧ (¬ (a1 < Int32.ofInt 0) → ((a1 < (Int32.ofInt 60) → (vp_in a1 60 ∧ (((sy_X5_hitsToGo a0 a1 (mm_u I (o + 1) ((a1).toNatClampNeg) ((I (o + 1) ((a1).toNatClampNeg)) + (Int32.ofInt 1))) J) ≤ ((I (o + 1) ((a1).toNatClampNeg)) + (Int32.ofInt 1)) → (((Int32.ofInt 60) ≤ (I o 5) → Q none (hp p s q (mm_u (mm_u I (o + 1) ((a1).toNatClampNeg) ((I (o + 1) ((a1).toNatClampNeg)) + (Int32.ofInt 1))) (o + 2) ((a1).toNatClampNeg) (I o 2)) (mm_u J o 1 ((J o 1) &&& ((sx_X6_bit a1) ^^^ (Int64.ofInt (-1))))))) ∧ (¬ ((Int32.ofInt 60) ≤ (I o 5)) → (vp_in (I o 5) 60 ∧ Q none (hp p s q (mm_u (mm_u (mm_u (mm_u I (o + 1) ((a1).toNatClampNeg) ((I (o + 1) ((a1).toNatClampNeg)) + (Int32.ofInt 1))) (o + 2) ((a1).toNatClampNeg) (I o 2)) (o + 3) (((I o 5)).toNatClampNeg) a1) o 5 ((I o 5) + (Int32.ofInt 1))) (mm_u J o 1 ((J o 1) &&& ((sx_X6_bit a1) ^^^ (Int64.ofInt (-1)))))))))) ∧ (¬ ((sy_X5_hitsToGo a0 a1 (mm_u I (o + 1) ((a1).toNatClampNeg) ((I (o + 1) ((a1).toNatClampNeg)) + (Int32.ofInt 1))) J) ≤ ((I (o + 1) ((a1).toNatClampNeg)) + (Int32.ofInt 1))) → Q none (hp p s q (mm_u I (o + 1) ((a1).toNatClampNeg) ((I (o + 1) ((a1).toNatClampNeg)) + (Int32.ofInt 1))) J))))) ∧ (¬ (a1 < (Int32.ofInt 60)) → Q none (hp p s q I J)))))) : mm_s SL xs (d + 3) 23 [.ref o, .ref a0, .int a1] (hp p s q I J) Q := by
  refine e_X1_hit rfl ?_
  refine hs_L (L2 := [some (.ref o), some (.ref a0), some (.int a1)]) rfl ?_
  refine sp_iload_n 1 rfl rfl rfl ?_
  refine sp_if_lt 4 rfl rfl (fun q_ => ?_) (fun q_ => ?_)
  · have k := k.1 q_
    exact st_vret rfl rfl (Nat.le_refl _) (Nat.le_refl _) k
  · have k := k.2 q_
    refine sp_iload_n 5 rfl rfl rfl ?_
    refine sp_bipush 7 rfl rfl ?_
    refine sp_I (y := Int32.ofInt 60) rfl ?_
    refine sp_ic_lt 10 rfl rfl (fun q_ => ?_) (fun q_ => ?_)
    · have k := k.1 q_
      refine sp_aload_n 12 rfl rfl rfl ?_
      refine hq_getR 15 rfl (kC0 h_o) (rC1 h_o) rfl ?_
      refine sp_iload_n 16 rfl rfl rfl ?_
      refine sp_dup2 17 rfl rfl rfl rfl ?_
      have n1_ := k.1
      have k := k.2
      refine hq_iald 18 rfl (kC1 h_o) n1_ rfl ?_
      refine sp_iconst 19 rfl rfl ?_
      refine sp_iadd 20 rfl rfl ?_
      refine hq_iast 21 rfl (kC1 h_o) n1_ rfl ?_
      refine sp_aload_n 22 rfl rfl rfl ?_
      refine hq_getR 25 rfl (kC0 h_o) (rC1 h_o) rfl ?_
      refine sp_iload_n 26 rfl rfl rfl ?_
      refine hq_iald 27 rfl (kC1 h_o) n1_ rfl ?_
      refine sp_I (y := ((I (o + 1) ((a1).toNatClampNeg)) + (Int32.ofInt 1))) (by simp [mm_u]) ?_
      refine sp_aload_n 28 rfl rfl rfl ?_
      refine sp_iload_n 29 rfl rfl rfl ?_
      refine sc_V 32 rfl rfl (kP0 h_a0) rfl rfl (Nat.le_refl _) (Nat.le_refl _) rfl ?_
      refine cy_X5_hitsToGo h_a0 ?_
      refine sp_ic_ge 35 rfl rfl (fun q_ => ?_) (fun q_ => ?_)
      · have k := k.1 q_
        refine sp_aload_n 37 rfl rfl rfl ?_
        refine sp_dup 38 rfl rfl rfl ?_
        refine hq_getJ 41 rfl (kC0 h_o) rfl ?_
        refine sp_iload_n 42 rfl rfl rfl ?_
        refine sc_S 45 rfl rfl rfl rfl (Nat.le_refl _) (Nat.le_refl _) rfl ?_
        refine cx_X6_bit ?_
        refine hs_S (st2 := [.long (sx_X6_bit a1), .long (J o 1), .ref o]) rfl ?_
        refine sp_ldc2 48 rfl rfl ?_
        refine sp_lxor 49 rfl rfl ?_
        refine sp_land 50 rfl rfl ?_
        refine hq_putJ 53 rfl (kC0 h_o) rfl ?_
        refine sp_aload_n 54 rfl rfl rfl ?_
        refine hq_getR 57 rfl (kC0 h_o) (rC2 h_o) rfl ?_
        refine sp_iload_n 58 rfl rfl rfl ?_
        refine sp_aload_n 59 rfl rfl rfl ?_
        refine hq_getI 62 rfl (kC0 h_o) rfl ?_
        refine sp_I (y := (I o 2)) (by simp [mm_u]) ?_
        refine hq_iast 63 rfl (kC2 h_o) n1_ rfl ?_
        refine sp_aload_n 64 rfl rfl rfl ?_
        refine hq_getI 67 rfl (kC0 h_o) rfl ?_
        refine sp_I (y := (I o 5)) (by simp [mm_u]) ?_
        refine sp_bipush 69 rfl rfl ?_
        refine sp_I (y := Int32.ofInt 60) rfl ?_
        refine sp_ic_ge 72 rfl rfl (fun q_ => ?_) (fun q_ => ?_)
        · have k := k.1 q_
          exact st_vret rfl rfl (Nat.le_refl _) (Nat.le_refl _) k
        · have k := k.2 q_
          refine sp_aload_n 73 rfl rfl rfl ?_
          refine hq_getR 76 rfl (kC0 h_o) (rC3 h_o) rfl ?_
          refine sp_aload_n 77 rfl rfl rfl ?_
          refine hq_getI 80 rfl (kC0 h_o) rfl ?_
          refine sp_I (y := (I o 5)) (by simp [mm_u]) ?_
          refine sp_iload_n 81 rfl rfl rfl ?_
          have n2_ := k.1
          have k := k.2
          refine hq_iast 82 rfl (kC3 h_o) n2_ rfl ?_
          refine sp_aload_n 83 rfl rfl rfl ?_
          refine sp_dup 84 rfl rfl rfl ?_
          refine hq_getI 87 rfl (kC0 h_o) rfl ?_
          refine sp_I (y := (I o 5)) (by simp [mm_u]) ?_
          refine sp_iconst 88 rfl rfl ?_
          refine sp_iadd 89 rfl rfl ?_
          refine hq_putI 92 rfl (kC0 h_o) rfl ?_
          exact st_vret rfl rfl (Nat.le_refl _) (Nat.le_refl _) k
      · have k := k.2 q_
        exact st_vret rfl rfl (Nat.le_refl _) (Nat.le_refl _) k
    · have k := k.2 q_
      exact st_vret rfl rfl (Nat.le_refl _) (Nat.le_refl _) k
def w_X2_tallyUpTo_6 (SL : Nat) (xs : Nat → Int32) (d : Nat) (p s q : Nat) (Q : Option Value → mm_H → Prop) (v1 : Int32) (v2 : Int32) (v3 : Int32) (I : Nat → Nat → Int32) (J : Nat → Nat → Int64) : Prop := mm_w SL xs (mm_s SL xs (d + 2)) mm_am kX2_tallyUpTo 0 0 none Q 6 [some (.ref 31), some (.int v1), some (.int v2), some (.int v3)] [] (hp p s q I J) 0 0
theorem sg_X2_tallyUpTo {SL : Nat} {xs : Nat → Int32} {d : Nat} {p s q : Nat} {Q : Option Value → mm_H → Prop} {a0 : Int32} {a1 : Int32} {I : Nat → Nat → Int32} {J : Nat → Nat → Int64}  (k : (mm_s SL xs (d + 2) 25 [.ref 31] (hp p s q I J) (fun r_ h_ => ∃ I1 J1, r_ = none ∧ h_ = hp p s q I1 J1 ∧ w_X2_tallyUpTo_6 SL xs d p s q Q a0 a1 (Int32.ofInt 1) I1 J1))) : mm_s SL xs (d + 3) 27 [.ref 31, .int a0, .int a1] (hp p s q I J) Q := by
  refine e_X2_tallyUpTo rfl ?_
  refine hs_L (L2 := [some (.ref 31), some (.int a0), some (.int a1), none]) rfl ?_
  refine sp_aload_n 1 rfl rfl rfl ?_
  refine sc_V 4 rfl rfl rfl rfl rfl (Nat.le_refl _) (Nat.le_refl _) rfl ?_
  refine mm_s_mono _ _ _ _ _ _ ?_ k
  rintro r_ h_ ⟨I1, J1, rfl, rfl, k⟩
  refine hs_S (st2 := []) rfl ?_
  refine sp_iconst 5 rfl rfl ?_
  refine hs_istore_n 6 (L2 := [some (.ref 31), some (.int a0), some (.int a1), some (.int (Int32.ofInt 1))]) rfl rfl rfl rfl ?_
  exact k
theorem sg_X2_tallyUpTo_6 {SL : Nat} {xs : Nat → Int32} {d : Nat} {p s q : Nat} {Q : Option Value → mm_H → Prop} {v1 : Int32} {v2 : Int32} {v3 : Int32} {I : Nat → Nat → Int32} {J : Nat → Nat → Int64}  (k : ((v2 < v3 → Q none (hp p s q I J)) ∧ (¬ (v2 < v3) → (mm_s SL xs (d + 2) 40 [.int v1, .int v3, .int v1] (hp p s q I J) (fun r_ h_ => ∃ x1 I1 J1, r_ = some (.int x1) ∧ h_ = hp p s q I1 J1 ∧ (mm_s SL xs (d + 2) 26 [.ref 31, .int x1, .int (Int32.ofInt 1)] (hp p s q I1 J1) (fun r_ h_ => ∃ I2 J2, r_ = none ∧ h_ = hp p s q I2 J2 ∧ w_X2_tallyUpTo_6 SL xs d p s q Q v1 v2 (v3 + Int32.ofInt 1) I2 J2))))))) : w_X2_tallyUpTo_6 SL xs d p s q Q v1 v2 v3 I J := by
  unfold w_X2_tallyUpTo_6
  refine sp_iload_n 7 rfl rfl rfl ?_
  refine sp_iload_n 8 rfl rfl rfl ?_
  refine sp_ic_gt 11 rfl rfl (fun q_ => ?_) (fun q_ => ?_)
  · have k := k.1 q_
    exact st_vret rfl rfl (Nat.le_refl _) (Nat.le_refl _) k
  · have k := k.2 q_
    refine sp_aload_n 12 rfl rfl rfl ?_
    refine sp_iload_n 13 rfl rfl rfl ?_
    refine sp_iload_n 14 rfl rfl rfl ?_
    refine sp_iload_n 15 rfl rfl rfl ?_
    refine sc_S 18 rfl rfl rfl rfl (Nat.le_refl _) (Nat.le_refl _) rfl ?_
    refine mm_s_mono _ _ _ _ _ _ ?_ k
    rintro r_ h_ ⟨x1, I1, J1, rfl, rfl, k⟩
    refine hs_S (st2 := [.int x1, .ref 31]) rfl ?_
    refine sp_iconst 19 rfl rfl ?_
    refine sc_V 22 rfl rfl rfl rfl rfl (Nat.le_refl _) (Nat.le_refl _) rfl ?_
    refine mm_s_mono _ _ _ _ _ _ ?_ k
    rintro r_ h_ ⟨I2, J2, rfl, rfl, k⟩
    refine hs_S (st2 := []) rfl ?_
    refine hs_iinc 25 (L2 := [some (.ref 31), some (.int v1), some (.int v2), some (.int (v3 + Int32.ofInt 1))]) rfl rfl rfl rfl rfl ?_
    refine sp_goto rfl ?_
    exact k
def w_X2_tallyDrawn_6 (SL : Nat) (xs : Nat → Int32) (d : Nat) (p s q : Nat) (Q : Option Value → mm_H → Prop) (v1 : Int32) (a1 : Nat) (v3 : Int32) (I : Nat → Nat → Int32) (J : Nat → Nat → Int64) : Prop := mm_w SL xs (mm_s SL xs (d + 2)) mm_am kX2_tallyDrawn 0 0 none Q 6 [some (.ref 31), some (.int v1), some (.ref a1), some (.int v3)] [] (hp p s q I J) 0 0
theorem sg_X2_tallyDrawn {SL : Nat} {xs : Nat → Int32} {d : Nat} {p s q : Nat} {Q : Option Value → mm_H → Prop} {a0 : Int32} {a1 : Nat} {I : Nat → Nat → Int32} {J : Nat → Nat → Int64}  (k : (mm_s SL xs (d + 2) 25 [.ref 31] (hp p s q I J) (fun r_ h_ => ∃ I1 J1, r_ = none ∧ h_ = hp p s q I1 J1 ∧ w_X2_tallyDrawn_6 SL xs d p s q Q a0 a1 (Int32.ofInt 0) I1 J1))) : mm_s SL xs (d + 3) 28 [.ref 31, .int a0, .ref a1] (hp p s q I J) Q := by
  refine e_X2_tallyDrawn rfl ?_
  refine hs_L (L2 := [some (.ref 31), some (.int a0), some (.ref a1), none]) rfl ?_
  refine sp_aload_n 1 rfl rfl rfl ?_
  refine sc_V 4 rfl rfl rfl rfl rfl (Nat.le_refl _) (Nat.le_refl _) rfl ?_
  refine mm_s_mono _ _ _ _ _ _ ?_ k
  rintro r_ h_ ⟨I1, J1, rfl, rfl, k⟩
  refine hs_S (st2 := []) rfl ?_
  refine sp_iconst 5 rfl rfl ?_
  refine hs_istore_n 6 (L2 := [some (.ref 31), some (.int a0), some (.ref a1), some (.int (Int32.ofInt 0))]) rfl rfl rfl rfl ?_
  exact k
theorem sg_X2_tallyDrawn_6 {SL : Nat} {xs : Nat → Int32} {d : Nat} {p s q : Nat} {Q : Option Value → mm_H → Prop} {v1 : Int32} {a1 : Nat} {v3 : Int32} {I : Nat → Nat → Int32} {J : Nat → Nat → Int64} (h_a1 : isP a1) (k : (((I a1 11) ≤ v3 → Q none (hp p s q I J)) ∧ (¬ ((I a1 11) ≤ v3) → (((Int32.ofInt 12) ≤ v3 → Q none (hp p s q I J)) ∧ (¬ ((Int32.ofInt 12) ≤ v3) → (vp_in v3 12 ∧ (mm_s SL xs (d + 2) 40 [.int v1, .int (I (a1 + 3) ((v3).toNatClampNeg)), .int v1] (hp p s q I J) (fun r_ h_ => ∃ x1 I1 J1, r_ = some (.int x1) ∧ h_ = hp p s q I1 J1 ∧ (mm_s SL xs (d + 2) 26 [.ref 31, .int x1, .int (I1 (a1 + 4) ((v3).toNatClampNeg))] (hp p s q I1 J1) (fun r_ h_ => ∃ I2 J2, r_ = none ∧ h_ = hp p s q I2 J2 ∧ w_X2_tallyDrawn_6 SL xs d p s q Q v1 a1 (v3 + Int32.ofInt 1) I2 J2)))))))))) : w_X2_tallyDrawn_6 SL xs d p s q Q v1 a1 v3 I J := by
  unfold w_X2_tallyDrawn_6
  refine sp_iload_n 7 rfl rfl rfl ?_
  refine sp_aload_n 8 rfl rfl rfl ?_
  refine hq_getI 11 rfl (kP0 h_a1) rfl ?_
  refine sp_ic_ge 14 rfl rfl (fun q_ => ?_) (fun q_ => ?_)
  · have k := k.1 q_
    exact st_vret rfl rfl (Nat.le_refl _) (Nat.le_refl _) k
  · have k := k.2 q_
    refine sp_iload_n 15 rfl rfl rfl ?_
    refine sp_bipush 17 rfl rfl ?_
    refine sp_I (y := Int32.ofInt 12) rfl ?_
    refine sp_ic_ge 20 rfl rfl (fun q_ => ?_) (fun q_ => ?_)
    · have k := k.1 q_
      exact st_vret rfl rfl (Nat.le_refl _) (Nat.le_refl _) k
    · have k := k.2 q_
      refine sp_aload_n 21 rfl rfl rfl ?_
      refine sp_iload_n 22 rfl rfl rfl ?_
      refine sp_aload_n 23 rfl rfl rfl ?_
      refine hq_getR 26 rfl (kP0 h_a1) (rP3 h_a1) rfl ?_
      refine sp_iload_n 27 rfl rfl rfl ?_
      have n1_ := k.1
      have k := k.2
      refine hq_iald 28 rfl (kP3 h_a1) n1_ rfl ?_
      refine sp_iload_n 29 rfl rfl rfl ?_
      refine sc_S 32 rfl rfl rfl rfl (Nat.le_refl _) (Nat.le_refl _) rfl ?_
      refine mm_s_mono _ _ _ _ _ _ ?_ k
      rintro r_ h_ ⟨x1, I1, J1, rfl, rfl, k⟩
      refine hs_S (st2 := [.int x1, .ref 31]) rfl ?_
      refine sp_aload_n 33 rfl rfl rfl ?_
      refine hq_getR 36 rfl (kP0 h_a1) (rP4 h_a1) rfl ?_
      refine sp_iload_n 37 rfl rfl rfl ?_
      refine hq_iald 38 rfl (kP4 h_a1) n1_ rfl ?_
      refine sc_V 41 rfl rfl rfl rfl rfl (Nat.le_refl _) (Nat.le_refl _) rfl ?_
      refine mm_s_mono _ _ _ _ _ _ ?_ k
      rintro r_ h_ ⟨I2, J2, rfl, rfl, k⟩
      refine hs_S (st2 := []) rfl ?_
      refine hs_iinc 44 (L2 := [some (.ref 31), some (.int v1), some (.ref a1), some (.int (v3 + Int32.ofInt 1))]) rfl rfl rfl rfl rfl ?_
      refine sp_goto rfl ?_
      exact k
def w_X6_ranked_5 (SL : Nat) (xs : Nat → Int32) (d : Nat) (p s q : Nat) (Q : Option Value → mm_H → Prop) (v0 : Int64) (v2 : Int32) (v3 : Int64) (v5 : Int32) (I : Nat → Nat → Int32) (J : Nat → Nat → Int64) : Prop := mm_w SL xs (mm_s SL xs (d + 2)) mm_am kX6_ranked 0 0 (some .int) Q 5 [some (.long v0), none, some (.int v2), some (.long v3), none, some (.int v5)] [] (hp p s q I J) 0 0
theorem sg_X6_ranked {SL : Nat} {xs : Nat → Int32} {d : Nat} {p s q : Nat} {Q : Option Value → mm_H → Prop} {a0 : Int64} {a1 : Int32} {I : Nat → Nat → Int32} {J : Nat → Nat → Int64}  (k : w_X6_ranked_5 SL xs d p s q Q a0 a1 a0 (Int32.ofInt 0) I J) : mm_s SL xs (d + 3) 69 [.long a0, .int a1] (hp p s q I J) Q := by
  refine e_X6_ranked rfl ?_
  refine hs_L (L2 := [some (.long a0), none, some (.int a1), none, none, none]) rfl ?_
  refine sp_lload_n 1 rfl rfl rfl ?_
  refine hs_lstore_n 2 (L2 := [some (.long a0), none, some (.int a1), some (.long a0), none, none]) rfl rfl rfl rfl ?_
  refine sp_iconst 3 rfl rfl ?_
  refine hs_istore 5 (L2 := [some (.long a0), none, some (.int a1), some (.long a0), none, some (.int (Int32.ofInt 0))]) rfl rfl rfl rfl ?_
  exact k
theorem sg_X6_ranked_5 {SL : Nat} {xs : Nat → Int32} {d : Nat} {p s q : Nat} {Q : Option Value → mm_H → Prop} {v0 : Int64} {v2 : Int32} {v3 : Int64} {v5 : Int32} {I : Nat → Nat → Int32} {J : Nat → Nat → Int64}  (k : ((v2 ≤ v5 → ((v3 = (Int64.ofInt 0) → Q (some (.int (Int32.ofInt (-1)))) (hp p s q I J)) ∧ (¬ (v3 = (Int64.ofInt 0)) → Q (some (.int (tz64 v3))) (hp p s q I J)))) ∧ (¬ (v2 ≤ v5) → (((Int32.ofInt 60) ≤ v5 → ((v3 = (Int64.ofInt 0) → Q (some (.int (Int32.ofInt (-1)))) (hp p s q I J)) ∧ (¬ (v3 = (Int64.ofInt 0)) → Q (some (.int (tz64 v3))) (hp p s q I J)))) ∧ (¬ ((Int32.ofInt 60) ≤ v5) → w_X6_ranked_5 SL xs d p s q Q v0 v2 (v3 &&& (v3 - (Int64.ofInt 1))) (v5 + Int32.ofInt 1) I J))))) : w_X6_ranked_5 SL xs d p s q Q v0 v2 v3 v5 I J := by
  unfold w_X6_ranked_5
  refine sp_iload 7 rfl rfl rfl ?_
  refine sp_iload_n 8 rfl rfl rfl ?_
  refine sp_ic_ge 11 rfl rfl (fun q_ => ?_) (fun q_ => ?_)
  · have k := k.1 q_
    refine sp_lload_n 31 rfl rfl rfl ?_
    refine sp_lconst 32 rfl rfl ?_
    refine sp_J (y := Int64.ofInt 0) rfl ?_
    refine sp_lcmp 33 rfl rfl ?_
    refine sp_if_ne 36 rfl rfl (fun q_ => ?_) (fun q_ => ?_)
    · have k := k.2 (fun z_ => q_ ((lg_cmp_eq _ _).mpr z_))
      refine sp_lload_n 41 rfl rfl rfl ?_
      refine sc_S 44 rfl rfl rfl rfl (Nat.le_refl _) (Nat.le_refl _) rfl ?_
      refine cz_tz64 ?_
      exact st_iret rfl rfl (Nat.le_refl _) (Nat.le_refl _) k
    · have k := k.1 ((lg_cmp_eq _ _).mp q_)
      refine sp_iconst 37 rfl rfl ?_
      refine sp_goto rfl ?_
      exact st_iret rfl rfl (Nat.le_refl _) (Nat.le_refl _) k
  · have k := k.2 q_
    refine sp_iload 13 rfl rfl rfl ?_
    refine sp_bipush 15 rfl rfl ?_
    refine sp_I (y := Int32.ofInt 60) rfl ?_
    refine sp_ic_ge 18 rfl rfl (fun q_ => ?_) (fun q_ => ?_)
    · have k := k.1 q_
      refine sp_lload_n 31 rfl rfl rfl ?_
      refine sp_lconst 32 rfl rfl ?_
      refine sp_J (y := Int64.ofInt 0) rfl ?_
      refine sp_lcmp 33 rfl rfl ?_
      refine sp_if_ne 36 rfl rfl (fun q_ => ?_) (fun q_ => ?_)
      · have k := k.2 (fun z_ => q_ ((lg_cmp_eq _ _).mpr z_))
        refine sp_lload_n 41 rfl rfl rfl ?_
        refine sc_S 44 rfl rfl rfl rfl (Nat.le_refl _) (Nat.le_refl _) rfl ?_
        refine cz_tz64 ?_
        exact st_iret rfl rfl (Nat.le_refl _) (Nat.le_refl _) k
      · have k := k.1 ((lg_cmp_eq _ _).mp q_)
        refine sp_iconst 37 rfl rfl ?_
        refine sp_goto rfl ?_
        exact st_iret rfl rfl (Nat.le_refl _) (Nat.le_refl _) k
    · have k := k.2 q_
      refine sp_lload_n 19 rfl rfl rfl ?_
      refine sp_lload_n 20 rfl rfl rfl ?_
      refine sp_lconst 21 rfl rfl ?_
      refine sp_J (y := Int64.ofInt 1) rfl ?_
      refine sp_lsub 22 rfl rfl ?_
      refine sp_land 23 rfl rfl ?_
      refine hs_lstore_n 24 (L2 := [some (.long v0), none, some (.int v2), some (.long (v3 &&& (v3 - (Int64.ofInt 1)))), none, some (.int v5)]) rfl rfl rfl rfl ?_
      refine hs_iinc 27 (L2 := [some (.long v0), none, some (.int v2), some (.long (v3 &&& (v3 - (Int64.ofInt 1)))), none, some (.int (v5 + Int32.ofInt 1))]) rfl rfl rfl rfl rfl ?_
      refine sp_goto rfl ?_
      exact k
theorem sg_X6_countTo {SL : Nat} {xs : Nat → Int32} {d : Nat} {p s q : Nat} {Q : Option Value → mm_H → Prop} {a0 : Int64} {a1 : Int32} {a2 : Int32} {I : Nat → Nat → Int32} {J : Nat → Nat → Int64}  (k : (((sx_J13_bitCount_95d88 a0) = Int32.ofInt 0 → Q (some (.int (Int32.ofInt 0))) (hp p s q I J)) ∧ (¬ ((sx_J13_bitCount_95d88 a0) = Int32.ofInt 0) → (mm_s SL xs (d + 2) 277 [.int ((sx_X6_below a0 a2) - (sx_X6_below a0 a1)), .int (sx_J13_bitCount_95d88 a0)] (hp p s q I J) (fun r_ h_ => ∃ x1 I1 J1, r_ = some (.int x1) ∧ h_ = hp p s q I1 J1 ∧ Q (some (.int (x1 + (Int32.ofInt 1)))) (hp p s q I1 J1)))))) : mm_s SL xs (d + 3) 71 [.long a0, .int a1, .int a2] (hp p s q I J) Q := by
  refine e_X6_countTo rfl ?_
  refine hs_L (L2 := [some (.long a0), none, some (.int a1), some (.int a2), none]) rfl ?_
  refine sp_lload_n 1 rfl rfl rfl ?_
  refine sc_S 4 rfl rfl rfl rfl (Nat.le_refl _) (Nat.le_refl _) rfl ?_
  refine cx_J13_bitCount_95d88 ?_
  refine hs_S (st2 := [.int (sx_J13_bitCount_95d88 a0)]) rfl ?_
  refine hs_istore 6 (L2 := [some (.long a0), none, some (.int a1), some (.int a2), some (.int (sx_J13_bitCount_95d88 a0))]) rfl rfl rfl rfl ?_
  refine sp_iload 8 rfl rfl rfl ?_
  refine sp_if_ne 11 rfl rfl (fun q_ => ?_) (fun q_ => ?_)
  · have k := k.2 q_
    refine sp_lload_n 14 rfl rfl rfl ?_
    refine sp_iload_n 15 rfl rfl rfl ?_
    refine sc_S 18 rfl rfl rfl rfl (Nat.le_refl _) (Nat.le_refl _) rfl ?_
    refine cx_X6_below ?_
    refine hs_S (st2 := [.int (sx_X6_below a0 a2)]) rfl ?_
    refine sp_lload_n 19 rfl rfl rfl ?_
    refine sp_iload_n 20 rfl rfl rfl ?_
    refine sc_S 23 rfl rfl rfl rfl (Nat.le_refl _) (Nat.le_refl _) rfl ?_
    refine cx_X6_below ?_
    refine hs_S (st2 := [.int (sx_X6_below a0 a1), .int (sx_X6_below a0 a2)]) rfl ?_
    refine sp_isub 24 rfl rfl ?_
    refine sp_iload 26 rfl rfl rfl ?_
    refine sc_S 29 rfl rfl rfl rfl (Nat.le_refl _) (Nat.le_refl _) rfl ?_
    refine mm_s_mono _ _ _ _ _ _ ?_ k
    rintro r_ h_ ⟨x1, I1, J1, rfl, rfl, k⟩
    refine hs_S (st2 := [.int x1]) rfl ?_
    refine sp_iconst 30 rfl rfl ?_
    refine sp_iadd 31 rfl rfl ?_
    exact st_iret rfl rfl (Nat.le_refl _) (Nat.le_refl _) k
  · have k := k.1 q_
    refine sp_iconst 12 rfl rfl ?_
    exact st_iret rfl rfl (Nat.le_refl _) (Nat.le_refl _) k
