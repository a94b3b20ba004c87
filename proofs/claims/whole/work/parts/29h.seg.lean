def w_X11_readLine_30 (SL : Nat) (xs : Nat → Int32) (d : Nat) (p s q : Nat) (Q : Option Value → mm_H → Prop)  (I : Nat → Nat → Int32) (J : Nat → Nat → Int64) : Prop := mm_w SL xs (mm_s SL xs (d + 6)) mm_am kX11_readLine 0 0 none Q 30 [some (.ref 65)] [] (hp p s q I J) 0 0
def w_X11_readLine_60 (SL : Nat) (xs : Nat → Int32) (d : Nat) (p s q : Nat) (Q : Option Value → mm_H → Prop)  (I : Nat → Nat → Int32) (J : Nat → Nat → Int64) : Prop := mm_w SL xs (mm_s SL xs (d + 6)) mm_am kX11_readLine 0 0 none Q 60 [some (.ref 65)] [] (hp p s q I J) 0 0
def w_X11_readLine_90 (SL : Nat) (xs : Nat → Int32) (d : Nat) (p s q : Nat) (Q : Option Value → mm_H → Prop)  (I : Nat → Nat → Int32) (J : Nat → Nat → Int64) : Prop := mm_w SL xs (mm_s SL xs (d + 6)) mm_am kX11_readLine 0 0 none Q 90 [some (.ref 65)] [] (hp p s q I J) 0 0
def w_X11_readLine_117 (SL : Nat) (xs : Nat → Int32) (d : Nat) (p s q : Nat) (Q : Option Value → mm_H → Prop)  (I : Nat → Nat → Int32) (J : Nat → Nat → Int64) : Prop := mm_w SL xs (mm_s SL xs (d + 6)) mm_am kX11_readLine 0 0 none Q 117 [some (.ref 65)] [] (hp p s q I J) 0 0
def w_X11_readLine_147 (SL : Nat) (xs : Nat → Int32) (d : Nat) (p s q : Nat) (Q : Option Value → mm_H → Prop)  (I : Nat → Nat → Int32) (J : Nat → Nat → Int64) : Prop := mm_w SL xs (mm_s SL xs (d + 6)) mm_am kX11_readLine 0 0 none Q 147 [some (.ref 65)] [] (hp p s q I J) 0 0
def w_X11_readLine_177 (SL : Nat) (xs : Nat → Int32) (d : Nat) (p s q : Nat) (Q : Option Value → mm_H → Prop)  (I : Nat → Nat → Int32) (J : Nat → Nat → Int64) : Prop := mm_w SL xs (mm_s SL xs (d + 6)) mm_am kX11_readLine 0 0 none Q 177 [some (.ref 65)] [] (hp p s q I J) 0 0
def w_X11_readLine_207 (SL : Nat) (xs : Nat → Int32) (d : Nat) (p s q : Nat) (Q : Option Value → mm_H → Prop)  (I : Nat → Nat → Int32) (J : Nat → Nat → Int64) : Prop := mm_w SL xs (mm_s SL xs (d + 6)) mm_am kX11_readLine 0 0 none Q 207 [some (.ref 65)] [] (hp p s q I J) 0 0
def w_X11_readLine_233 (SL : Nat) (xs : Nat → Int32) (d : Nat) (p s q : Nat) (Q : Option Value → mm_H → Prop)  (I : Nat → Nat → Int32) (J : Nat → Nat → Int64) : Prop := mm_w SL xs (mm_s SL xs (d + 6)) mm_am kX11_readLine 0 0 none Q 233 [some (.ref 65)] [] (hp p s q I J) 0 0
def w_X11_readLine_260 (SL : Nat) (xs : Nat → Int32) (d : Nat) (p s q : Nat) (Q : Option Value → mm_H → Prop)  (I : Nat → Nat → Int32) (J : Nat → Nat → Int64) : Prop := mm_w SL xs (mm_s SL xs (d + 6)) mm_am kX11_readLine 0 0 none Q 260 [some (.ref 65)] [] (hp p s q I J) 0 0
def w_X11_readLine_286 (SL : Nat) (xs : Nat → Int32) (d : Nat) (p s q : Nat) (Q : Option Value → mm_H → Prop)  (I : Nat → Nat → Int32) (J : Nat → Nat → Int64) : Prop := mm_w SL xs (mm_s SL xs (d + 6)) mm_am kX11_readLine 0 0 none Q 286 [some (.ref 65)] [] (hp p s q I J) 0 0
def w_X11_readLine_312 (SL : Nat) (xs : Nat → Int32) (d : Nat) (p s q : Nat) (Q : Option Value → mm_H → Prop)  (I : Nat → Nat → Int32) (J : Nat → Nat → Int64) : Prop := mm_w SL xs (mm_s SL xs (d + 6)) mm_am kX11_readLine 0 0 none Q 312 [some (.ref 65)] [] (hp p s q I J) 0 0
def w_X11_readLine_317 (SL : Nat) (xs : Nat → Int32) (d : Nat) (p s q : Nat) (Q : Option Value → mm_H → Prop)  (I : Nat → Nat → Int32) (J : Nat → Nat → Int64) : Prop := mm_w SL xs (mm_s SL xs (d + 6)) mm_am kX11_readLine 0 0 none Q 317 [some (.ref 65)] [] (hp p s q I J) 0 0
def w_X11_readLine_338 (SL : Nat) (xs : Nat → Int32) (d : Nat) (p s q : Nat) (Q : Option Value → mm_H → Prop)  (I : Nat → Nat → Int32) (J : Nat → Nat → Int64) : Prop := mm_w SL xs (mm_s SL xs (d + 6)) mm_am kX11_readLine 0 0 none Q 338 [some (.ref 65)] [] (hp p s q I J) 0 0
theorem sg_X11_readLine {SL : Nat} {xs : Nat → Int32} {d : Nat} {p s q : Nat} {Q : Option Value → mm_H → Prop}  {I : Nat → Nat → Int32} {J : Nat → Nat → Int64}  (k : (((sy_X11_isWord (Int64.ofInt 495873781348) I J) = Int32.ofInt 0 → w_X11_readLine_30 SL xs d p s q Q  I J) ∧ (¬ ((sy_X11_isWord (Int64.ofInt 495873781348) I J) = Int32.ofInt 0) → (vp_in (Int32.ofInt 0) 8 ∧ (((I 85 (((Int32.ofInt 0)).toNatClampNeg)) = Int32.ofInt 0 → (mm_s SL xs (d + 6) 191 [.ref 65, .int (Int32.ofInt 0), .int (Int32.ofInt 1), .int (Int32.ofInt 60)] (hp p s q I J) (fun r_ h_ => ∃ I1 J1, r_ = none ∧ h_ = hp p s q I1 J1 ∧ w_X11_readLine_317 SL xs d p s q Q  I1 J1))) ∧ (¬ ((I 85 (((Int32.ofInt 0)).toNatClampNeg)) = Int32.ofInt 0) → w_X11_readLine_30 SL xs d p s q Q  I J)))))) : mm_s SL xs (d + 7) 197 [.ref 65] (hp p s q I J) Q := by
  refine e_X11_readLine rfl ?_
  refine hs_L (L2 := [some (.ref 65)]) rfl ?_
  refine sp_aload_n 1 rfl rfl rfl ?_
  refine sp_ldc2 4 rfl rfl ?_
  refine sc_V 7 rfl rfl rfl rfl rfl (Nat.le_refl _) (Nat.le_refl _) rfl ?_
  refine cy_X11_isWord ?_
  refine sp_if_eq 10 rfl rfl (fun q_ => ?_) (fun q_ => ?_)
  · have k := k.1 q_
    exact k
  · have k := k.2 q_
    refine sp_aload_n 11 rfl rfl rfl ?_
    refine hq_getR 14 rfl rfl rfl rfl ?_
    refine sp_iconst 15 rfl rfl ?_
    have n1_ := k.1
    have k := k.2
    refine hq_zald 16 rfl rfl n1_ rfl ?_
    refine sp_if_ne 19 rfl rfl (fun q_ => ?_) (fun q_ => ?_)
    · have k := k.2 q_
      exact k
    · have k := k.1 q_
      refine sp_aload_n 20 rfl rfl rfl ?_
      refine sp_iconst 21 rfl rfl ?_
      refine sp_iconst 22 rfl rfl ?_
      refine sp_bipush 24 rfl rfl ?_
      refine sp_I (y := Int32.ofInt 60) rfl ?_
      refine sc_V 27 rfl rfl rfl rfl rfl (Nat.le_refl _) (Nat.le_refl _) rfl ?_
      refine mm_s_mono _ _ _ _ _ _ ?_ k
      rintro r_ h_ ⟨I1, J1, rfl, rfl, k⟩
      refine hs_S (st2 := []) rfl ?_
      refine sp_goto rfl ?_
      exact k
theorem sg_X11_readLine_30 {SL : Nat} {xs : Nat → Int32} {d : Nat} {p s q : Nat} {Q : Option Value → mm_H → Prop}  {I : Nat → Nat → Int32} {J : Nat → Nat → Int64}  (k : (((sy_X11_isWord (Int64.ofInt 422608071022) I J) = Int32.ofInt 0 → w_X11_readLine_60 SL xs d p s q Q  I J) ∧ (¬ ((sy_X11_isWord (Int64.ofInt 422608071022) I J) = Int32.ofInt 0) → (vp_in (Int32.ofInt 1) 8 ∧ (((I 85 (((Int32.ofInt 1)).toNatClampNeg)) = Int32.ofInt 0 → (mm_s SL xs (d + 6) 191 [.ref 65, .int (Int32.ofInt 1), .int (Int32.ofInt 0), .int (Int32.ofInt 59)] (hp p s q I J) (fun r_ h_ => ∃ I1 J1, r_ = none ∧ h_ = hp p s q I1 J1 ∧ w_X11_readLine_317 SL xs d p s q Q  I1 J1))) ∧ (¬ ((I 85 (((Int32.ofInt 1)).toNatClampNeg)) = Int32.ofInt 0) → w_X11_readLine_60 SL xs d p s q Q  I J)))))) : w_X11_readLine_30 SL xs d p s q Q  I J := by
  unfold w_X11_readLine_30
  refine sp_aload_n 31 rfl rfl rfl ?_
  refine sp_ldc2 34 rfl rfl ?_
  refine sc_V 37 rfl rfl rfl rfl rfl (Nat.le_refl _) (Nat.le_refl _) rfl ?_
  refine cy_X11_isWord ?_
  refine sp_if_eq 40 rfl rfl (fun q_ => ?_) (fun q_ => ?_)
  · have k := k.1 q_
    exact k
  · have k := k.2 q_
    refine sp_aload_n 41 rfl rfl rfl ?_
    refine hq_getR 44 rfl rfl rfl rfl ?_
    refine sp_iconst 45 rfl rfl ?_
    have n2_ := k.1
    have k := k.2
    refine hq_zald 46 rfl rfl n2_ rfl ?_
    refine sp_if_ne 49 rfl rfl (fun q_ => ?_) (fun q_ => ?_)
    · have k := k.2 q_
      exact k
    · have k := k.1 q_
      refine sp_aload_n 50 rfl rfl rfl ?_
      refine sp_iconst 51 rfl rfl ?_
      refine sp_iconst 52 rfl rfl ?_
      refine sp_bipush 54 rfl rfl ?_
      refine sp_I (y := Int32.ofInt 59) rfl ?_
      refine sc_V 57 rfl rfl rfl rfl rfl (Nat.le_refl _) (Nat.le_refl _) rfl ?_
      refine mm_s_mono _ _ _ _ _ _ ?_ k
      rintro r_ h_ ⟨I1, J1, rfl, rfl, k⟩
      refine hs_S (st2 := []) rfl ?_
      refine sp_goto rfl ?_
      exact k
theorem sg_X11_readLine_60 {SL : Nat} {xs : Nat → Int32} {d : Nat} {p s q : Nat} {Q : Option Value → mm_H → Prop}  {I : Nat → Nat → Int32} {J : Nat → Nat → Int64}  (k : (((sy_X11_isWord (Int64.ofInt 1818584692) I J) = Int32.ofInt 0 → w_X11_readLine_90 SL xs d p s q Q  I J) ∧ (¬ ((sy_X11_isWord (Int64.ofInt 1818584692) I J) = Int32.ofInt 0) → (vp_in (Int32.ofInt 2) 8 ∧ (((I 85 (((Int32.ofInt 2)).toNatClampNeg)) = Int32.ofInt 0 → (mm_s SL xs (d + 6) 191 [.ref 65, .int (Int32.ofInt 2), .int (Int32.ofInt 1), .int (Int32.ofInt 59)] (hp p s q I J) (fun r_ h_ => ∃ I1 J1, r_ = none ∧ h_ = hp p s q I1 J1 ∧ w_X11_readLine_317 SL xs d p s q Q  I1 J1))) ∧ (¬ ((I 85 (((Int32.ofInt 2)).toNatClampNeg)) = Int32.ofInt 0) → w_X11_readLine_90 SL xs d p s q Q  I J)))))) : w_X11_readLine_60 SL xs d p s q Q  I J := by
  unfold w_X11_readLine_60
  refine sp_aload_n 61 rfl rfl rfl ?_
  refine sp_ldc2 64 rfl rfl ?_
  refine sc_V 67 rfl rfl rfl rfl rfl (Nat.le_refl _) (Nat.le_refl _) rfl ?_
  refine cy_X11_isWord ?_
  refine sp_if_eq 70 rfl rfl (fun q_ => ?_) (fun q_ => ?_)
  · have k := k.1 q_
    exact k
  · have k := k.2 q_
    refine sp_aload_n 71 rfl rfl rfl ?_
    refine hq_getR 74 rfl rfl rfl rfl ?_
    refine sp_iconst 75 rfl rfl ?_
    have n3_ := k.1
    have k := k.2
    refine hq_zald 76 rfl rfl n3_ rfl ?_
    refine sp_if_ne 79 rfl rfl (fun q_ => ?_) (fun q_ => ?_)
    · have k := k.2 q_
      exact k
    · have k := k.1 q_
      refine sp_aload_n 80 rfl rfl rfl ?_
      refine sp_iconst 81 rfl rfl ?_
      refine sp_iconst 82 rfl rfl ?_
      refine sp_bipush 84 rfl rfl ?_
      refine sp_I (y := Int32.ofInt 59) rfl ?_
      refine sc_V 87 rfl rfl rfl rfl rfl (Nat.le_refl _) (Nat.le_refl _) rfl ?_
      refine mm_s_mono _ _ _ _ _ _ ?_ k
      rintro r_ h_ ⟨I1, J1, rfl, rfl, k⟩
      refine hs_S (st2 := []) rfl ?_
      refine sp_goto rfl ?_
      exact k
theorem sg_X11_readLine_90 {SL : Nat} {xs : Nat → Int32} {d : Nat} {p s q : Nat} {Q : Option Value → mm_H → Prop}  {I : Nat → Nat → Int32} {J : Nat → Nat → Int64}  (k : (((sy_X11_isWord (Int64.ofInt 427071729268) I J) = Int32.ofInt 0 → w_X11_readLine_117 SL xs d p s q Q  I J) ∧ (¬ ((sy_X11_isWord (Int64.ofInt 427071729268) I J) = Int32.ofInt 0) → (vp_in (Int32.ofInt 6) 8 ∧ (((I 85 (((Int32.ofInt 6)).toNatClampNeg)) = Int32.ofInt 0 → (mm_s SL xs (d + 6) 196 [.ref 65] (hp p s q I J) (fun r_ h_ => ∃ I1 J1, r_ = none ∧ h_ = hp p s q I1 J1 ∧ w_X11_readLine_317 SL xs d p s q Q  I1 J1))) ∧ (¬ ((I 85 (((Int32.ofInt 6)).toNatClampNeg)) = Int32.ofInt 0) → w_X11_readLine_117 SL xs d p s q Q  I J)))))) : w_X11_readLine_90 SL xs d p s q Q  I J := by
  unfold w_X11_readLine_90
  refine sp_aload_n 91 rfl rfl rfl ?_
  refine sp_ldc2 94 rfl rfl ?_
  refine sc_V 97 rfl rfl rfl rfl rfl (Nat.le_refl _) (Nat.le_refl _) rfl ?_
  refine cy_X11_isWord ?_
  refine sp_if_eq 100 rfl rfl (fun q_ => ?_) (fun q_ => ?_)
  · have k := k.1 q_
    exact k
  · have k := k.2 q_
    refine sp_aload_n 101 rfl rfl rfl ?_
    refine hq_getR 104 rfl rfl rfl rfl ?_
    refine sp_bipush 106 rfl rfl ?_
    refine sp_I (y := Int32.ofInt 6) rfl ?_
    have n4_ := k.1
    have k := k.2
    refine hq_zald 107 rfl rfl n4_ rfl ?_
    refine sp_if_ne 110 rfl rfl (fun q_ => ?_) (fun q_ => ?_)
    · have k := k.2 q_
      exact k
    · have k := k.1 q_
      refine sp_aload_n 111 rfl rfl rfl ?_
      refine sc_V 114 rfl rfl rfl rfl rfl (Nat.le_refl _) (Nat.le_refl _) rfl ?_
      refine mm_s_mono _ _ _ _ _ _ ?_ k
      rintro r_ h_ ⟨I1, J1, rfl, rfl, k⟩
      refine hs_S (st2 := []) rfl ?_
      refine sp_goto rfl ?_
      exact k
theorem sg_X11_readLine_117 {SL : Nat} {xs : Nat → Int32} {d : Nat} {p s q : Nat} {Q : Option Value → mm_H → Prop}  {I : Nat → Nat → Int32} {J : Nat → Nat → Int64}  (k : (((sy_X11_isWord (Int64.ofInt 1953854062) I J) = Int32.ofInt 0 → w_X11_readLine_147 SL xs d p s q Q  I J) ∧ (¬ ((sy_X11_isWord (Int64.ofInt 1953854062) I J) = Int32.ofInt 0) → (vp_in (Int32.ofInt 3) 8 ∧ (((I 85 (((Int32.ofInt 3)).toNatClampNeg)) = Int32.ofInt 0 → (mm_s SL xs (d + 6) 191 [.ref 65, .int (Int32.ofInt 3), .int (Int32.ofInt 1), .int (Int32.ofInt 99)] (hp p s q I J) (fun r_ h_ => ∃ I1 J1, r_ = none ∧ h_ = hp p s q I1 J1 ∧ w_X11_readLine_317 SL xs d p s q Q  I1 J1))) ∧ (¬ ((I 85 (((Int32.ofInt 3)).toNatClampNeg)) = Int32.ofInt 0) → w_X11_readLine_147 SL xs d p s q Q  I J)))))) : w_X11_readLine_117 SL xs d p s q Q  I J := by
  unfold w_X11_readLine_117
  refine sp_aload_n 118 rfl rfl rfl ?_
  refine sp_ldc2 121 rfl rfl ?_
  refine sc_V 124 rfl rfl rfl rfl rfl (Nat.le_refl _) (Nat.le_refl _) rfl ?_
  refine cy_X11_isWord ?_
  refine sp_if_eq 127 rfl rfl (fun q_ => ?_) (fun q_ => ?_)
  · have k := k.1 q_
    exact k
  · have k := k.2 q_
    refine sp_aload_n 128 rfl rfl rfl ?_
    refine hq_getR 131 rfl rfl rfl rfl ?_
    refine sp_iconst 132 rfl rfl ?_
    have n5_ := k.1
    have k := k.2
    refine hq_zald 133 rfl rfl n5_ rfl ?_
    refine sp_if_ne 136 rfl rfl (fun q_ => ?_) (fun q_ => ?_)
    · have k := k.2 q_
      exact k
    · have k := k.1 q_
      refine sp_aload_n 137 rfl rfl rfl ?_
      refine sp_iconst 138 rfl rfl ?_
      refine sp_iconst 139 rfl rfl ?_
      refine sp_bipush 141 rfl rfl ?_
      refine sp_I (y := Int32.ofInt 99) rfl ?_
      refine sc_V 144 rfl rfl rfl rfl rfl (Nat.le_refl _) (Nat.le_refl _) rfl ?_
      refine mm_s_mono _ _ _ _ _ _ ?_ k
      rintro r_ h_ ⟨I1, J1, rfl, rfl, k⟩
      refine hs_S (st2 := []) rfl ?_
      refine sp_goto rfl ?_
      exact k
theorem sg_X11_readLine_147 {SL : Nat} {xs : Nat → Int32} {d : Nat} {p s q : Nat} {Q : Option Value → mm_H → Prop}  {I : Nat → Nat → Int32} {J : Nat → Nat → Int64}  (k : (((sy_X11_isWord (Int64.ofInt 418346264942) I J) = Int32.ofInt 0 → w_X11_readLine_177 SL xs d p s q Q  I J) ∧ (¬ ((sy_X11_isWord (Int64.ofInt 418346264942) I J) = Int32.ofInt 0) → (vp_in (Int32.ofInt 4) 8 ∧ (((I 85 (((Int32.ofInt 4)).toNatClampNeg)) = Int32.ofInt 0 → (mm_s SL xs (d + 6) 191 [.ref 65, .int (Int32.ofInt 4), .int (Int32.ofInt 0), .int (Int32.ofInt 9)] (hp p s q I J) (fun r_ h_ => ∃ I1 J1, r_ = none ∧ h_ = hp p s q I1 J1 ∧ w_X11_readLine_317 SL xs d p s q Q  I1 J1))) ∧ (¬ ((I 85 (((Int32.ofInt 4)).toNatClampNeg)) = Int32.ofInt 0) → w_X11_readLine_177 SL xs d p s q Q  I J)))))) : w_X11_readLine_147 SL xs d p s q Q  I J := by
  unfold w_X11_readLine_147
  refine sp_aload_n 148 rfl rfl rfl ?_
  refine sp_ldc2 151 rfl rfl ?_
  refine sc_V 154 rfl rfl rfl rfl rfl (Nat.le_refl _) (Nat.le_refl _) rfl ?_
  refine cy_X11_isWord ?_
  refine sp_if_eq 157 rfl rfl (fun q_ => ?_) (fun q_ => ?_)
  · have k := k.1 q_
    exact k
  · have k := k.2 q_
    refine sp_aload_n 158 rfl rfl rfl ?_
    refine hq_getR 161 rfl rfl rfl rfl ?_
    refine sp_iconst 162 rfl rfl ?_
    have n6_ := k.1
    have k := k.2
    refine hq_zald 163 rfl rfl n6_ rfl ?_
    refine sp_if_ne 166 rfl rfl (fun q_ => ?_) (fun q_ => ?_)
    · have k := k.2 q_
      exact k
    · have k := k.1 q_
      refine sp_aload_n 167 rfl rfl rfl ?_
      refine sp_iconst 168 rfl rfl ?_
      refine sp_iconst 169 rfl rfl ?_
      refine sp_bipush 171 rfl rfl ?_
      refine sp_I (y := Int32.ofInt 9) rfl ?_
      refine sc_V 174 rfl rfl rfl rfl rfl (Nat.le_refl _) (Nat.le_refl _) rfl ?_
      refine mm_s_mono _ _ _ _ _ _ ?_ k
      rintro r_ h_ ⟨I1, J1, rfl, rfl, k⟩
      refine hs_S (st2 := []) rfl ?_
      refine sp_goto rfl ?_
      exact k
theorem sg_X11_readLine_177 {SL : Nat} {xs : Nat → Int32} {d : Nat} {p s q : Nat} {Q : Option Value → mm_H → Prop}  {I : Nat → Nat → Int32} {J : Nat → Nat → Int64}  (k : (((sy_X11_isWord (Int64.ofInt 6451065) I J) = Int32.ofInt 0 → w_X11_readLine_207 SL xs d p s q Q  I J) ∧ (¬ ((sy_X11_isWord (Int64.ofInt 6451065) I J) = Int32.ofInt 0) → (vp_in (Int32.ofInt 5) 8 ∧ (((I 85 (((Int32.ofInt 5)).toNatClampNeg)) = Int32.ofInt 0 → (mm_s SL xs (d + 6) 191 [.ref 65, .int (Int32.ofInt 5), .int (Int32.ofInt 0), .int (Int32.ofInt 59)] (hp p s q I J) (fun r_ h_ => ∃ I1 J1, r_ = none ∧ h_ = hp p s q I1 J1 ∧ w_X11_readLine_317 SL xs d p s q Q  I1 J1))) ∧ (¬ ((I 85 (((Int32.ofInt 5)).toNatClampNeg)) = Int32.ofInt 0) → w_X11_readLine_207 SL xs d p s q Q  I J)))))) : w_X11_readLine_177 SL xs d p s q Q  I J := by
  unfold w_X11_readLine_177
  refine sp_aload_n 178 rfl rfl rfl ?_
  refine sp_ldc2 181 rfl rfl ?_
  refine sc_V 184 rfl rfl rfl rfl rfl (Nat.le_refl _) (Nat.le_refl _) rfl ?_
  refine cy_X11_isWord ?_
  refine sp_if_eq 187 rfl rfl (fun q_ => ?_) (fun q_ => ?_)
  · have k := k.1 q_
    exact k
  · have k := k.2 q_
    refine sp_aload_n 188 rfl rfl rfl ?_
    refine hq_getR 191 rfl rfl rfl rfl ?_
    refine sp_iconst 192 rfl rfl ?_
    have n7_ := k.1
    have k := k.2
    refine hq_zald 193 rfl rfl n7_ rfl ?_
    refine sp_if_ne 196 rfl rfl (fun q_ => ?_) (fun q_ => ?_)
    · have k := k.2 q_
      exact k
    · have k := k.1 q_
      refine sp_aload_n 197 rfl rfl rfl ?_
      refine sp_iconst 198 rfl rfl ?_
      refine sp_iconst 199 rfl rfl ?_
      refine sp_bipush 201 rfl rfl ?_
      refine sp_I (y := Int32.ofInt 59) rfl ?_
      refine sc_V 204 rfl rfl rfl rfl rfl (Nat.le_refl _) (Nat.le_refl _) rfl ?_
      refine mm_s_mono _ _ _ _ _ _ ?_ k
      rintro r_ h_ ⟨I1, J1, rfl, rfl, k⟩
      refine hs_S (st2 := []) rfl ?_
      refine sp_goto rfl ?_
      exact k
theorem sg_X11_readLine_207 {SL : Nat} {xs : Nat → Int32} {d : Nat} {p s q : Nat} {Q : Option Value → mm_H → Prop}  {I : Nat → Nat → Int32} {J : Nat → Nat → Int64}  (k : (((sy_X11_isWord (Int64.ofInt 444350952036) I J) = Int32.ofInt 0 → w_X11_readLine_233 SL xs d p s q Q  I J) ∧ (¬ ((sy_X11_isWord (Int64.ofInt 444350952036) I J) = Int32.ofInt 0) → (((Int32.ofInt 8) ≤ (I 65 37) → w_X11_readLine_233 SL xs d p s q Q  I J) ∧ (¬ ((Int32.ofInt 8) ≤ (I 65 37)) → (mm_s SL xs (d + 6) 192 [.ref 65] (hp p s q I J) (fun r_ h_ => ∃ I1 J1, r_ = none ∧ h_ = hp p s q I1 J1 ∧ w_X11_readLine_317 SL xs d p s q Q  I1 J1))))))) : w_X11_readLine_207 SL xs d p s q Q  I J := by
  unfold w_X11_readLine_207
  refine sp_aload_n 208 rfl rfl rfl ?_
  refine sp_ldc2 211 rfl rfl ?_
  refine sc_V 214 rfl rfl rfl rfl rfl (Nat.le_refl _) (Nat.le_refl _) rfl ?_
  refine cy_X11_isWord ?_
  refine sp_if_eq 217 rfl rfl (fun q_ => ?_) (fun q_ => ?_)
  · have k := k.1 q_
    exact k
  · have k := k.2 q_
    refine sp_aload_n 218 rfl rfl rfl ?_
    refine hq_getI 221 rfl rfl rfl ?_
    refine sp_bipush 223 rfl rfl ?_
    refine sp_I (y := Int32.ofInt 8) rfl ?_
    refine sp_ic_ge 226 rfl rfl (fun q_ => ?_) (fun q_ => ?_)
    · have k := k.1 q_
      exact k
    · have k := k.2 q_
      refine sp_aload_n 227 rfl rfl rfl ?_
      refine sc_V 230 rfl rfl rfl rfl rfl (Nat.le_refl _) (Nat.le_refl _) rfl ?_
      refine mm_s_mono _ _ _ _ _ _ ?_ k
      rintro r_ h_ ⟨I1, J1, rfl, rfl, k⟩
      refine hs_S (st2 := []) rfl ?_
      refine sp_goto rfl ?_
      exact k
theorem sg_X11_readLine_233 {SL : Nat} {xs : Nat → Int32} {d : Nat} {p s q : Nat} {Q : Option Value → mm_H → Prop}  {I : Nat → Nat → Int32} {J : Nat → Nat → Int64}  (k : (((sy_X11_isWord (Int64.ofInt 491379060069) I J) = Int32.ofInt 0 → w_X11_readLine_260 SL xs d p s q Q  I J) ∧ (¬ ((sy_X11_isWord (Int64.ofInt 491379060069) I J) = Int32.ofInt 0) → (vp_in (Int32.ofInt 7) 8 ∧ (((I 85 (((Int32.ofInt 7)).toNatClampNeg)) = Int32.ofInt 0 → (mm_s SL xs (d + 6) 193 [.ref 65] (hp p s q I J) (fun r_ h_ => ∃ I1 J1, r_ = none ∧ h_ = hp p s q I1 J1 ∧ w_X11_readLine_317 SL xs d p s q Q  I1 J1))) ∧ (¬ ((I 85 (((Int32.ofInt 7)).toNatClampNeg)) = Int32.ofInt 0) → w_X11_readLine_260 SL xs d p s q Q  I J)))))) : w_X11_readLine_233 SL xs d p s q Q  I J := by
  unfold w_X11_readLine_233
  refine sp_aload_n 234 rfl rfl rfl ?_
  refine sp_ldc2 237 rfl rfl ?_
  refine sc_V 240 rfl rfl rfl rfl rfl (Nat.le_refl _) (Nat.le_refl _) rfl ?_
  refine cy_X11_isWord ?_
  refine sp_if_eq 243 rfl rfl (fun q_ => ?_) (fun q_ => ?_)
  · have k := k.1 q_
    exact k
  · have k := k.2 q_
    refine sp_aload_n 244 rfl rfl rfl ?_
    refine hq_getR 247 rfl rfl rfl rfl ?_
    refine sp_bipush 249 rfl rfl ?_
    refine sp_I (y := Int32.ofInt 7) rfl ?_
    have n8_ := k.1
    have k := k.2
    refine hq_zald 250 rfl rfl n8_ rfl ?_
    refine sp_if_ne 253 rfl rfl (fun q_ => ?_) (fun q_ => ?_)
    · have k := k.2 q_
      exact k
    · have k := k.1 q_
      refine sp_aload_n 254 rfl rfl rfl ?_
      refine sc_V 257 rfl rfl rfl rfl rfl (Nat.le_refl _) (Nat.le_refl _) rfl ?_
      refine mm_s_mono _ _ _ _ _ _ ?_ k
      rintro r_ h_ ⟨I1, J1, rfl, rfl, k⟩
      refine hs_S (st2 := []) rfl ?_
      refine sp_goto rfl ?_
      exact k
theorem sg_X11_readLine_260 {SL : Nat} {xs : Nat → Int32} {d : Nat} {p s q : Nat} {Q : Option Value → mm_H → Prop}  {I : Nat → Nat → Int32} {J : Nat → Nat → Int64}  (k : (((sy_X11_isWord (Int64.ofInt 123581014175598) I J) = Int32.ofInt 0 → w_X11_readLine_286 SL xs d p s q Q  I J) ∧ (¬ ((sy_X11_isWord (Int64.ofInt 123581014175598) I J) = Int32.ofInt 0) → (((Int32.ofInt 9) ≤ (I 65 38) → w_X11_readLine_286 SL xs d p s q Q  I J) ∧ (¬ ((Int32.ofInt 9) ≤ (I 65 38)) → (mm_s SL xs (d + 6) 194 [.ref 65] (hp p s q I J) (fun r_ h_ => ∃ I1 J1, r_ = none ∧ h_ = hp p s q I1 J1 ∧ w_X11_readLine_317 SL xs d p s q Q  I1 J1))))))) : w_X11_readLine_260 SL xs d p s q Q  I J := by
  unfold w_X11_readLine_260
  refine sp_aload_n 261 rfl rfl rfl ?_
  refine sp_ldc2 264 rfl rfl ?_
  refine sc_V 267 rfl rfl rfl rfl rfl (Nat.le_refl _) (Nat.le_refl _) rfl ?_
  refine cy_X11_isWord ?_
  refine sp_if_eq 270 rfl rfl (fun q_ => ?_) (fun q_ => ?_)
  · have k := k.1 q_
    exact k
  · have k := k.2 q_
    refine sp_aload_n 271 rfl rfl rfl ?_
    refine hq_getI 274 rfl rfl rfl ?_
    refine sp_bipush 276 rfl rfl ?_
    refine sp_I (y := Int32.ofInt 9) rfl ?_
    refine sp_ic_ge 279 rfl rfl (fun q_ => ?_) (fun q_ => ?_)
    · have k := k.1 q_
      exact k
    · have k := k.2 q_
      refine sp_aload_n 280 rfl rfl rfl ?_
      refine sc_V 283 rfl rfl rfl rfl rfl (Nat.le_refl _) (Nat.le_refl _) rfl ?_
      refine mm_s_mono _ _ _ _ _ _ ?_ k
      rintro r_ h_ ⟨I1, J1, rfl, rfl, k⟩
      refine hs_S (st2 := []) rfl ?_
      refine sp_goto rfl ?_
      exact k
theorem sg_X11_readLine_286 {SL : Nat} {xs : Nat → Int32} {d : Nat} {p s q : Nat} {Q : Option Value → mm_H → Prop}  {I : Nat → Nat → Int32} {J : Nat → Nat → Int64}  (k : (((sy_X11_isWord (Int64.ofInt 431415719790) I J) = Int32.ofInt 0 → w_X11_readLine_312 SL xs d p s q Q  I J) ∧ (¬ ((sy_X11_isWord (Int64.ofInt 431415719790) I J) = Int32.ofInt 0) → (((Int32.ofInt 12) ≤ (I 65 39) → w_X11_readLine_312 SL xs d p s q Q  I J) ∧ (¬ ((Int32.ofInt 12) ≤ (I 65 39)) → (mm_s SL xs (d + 6) 195 [.ref 65] (hp p s q I J) (fun r_ h_ => ∃ I1 J1, r_ = none ∧ h_ = hp p s q I1 J1 ∧ w_X11_readLine_317 SL xs d p s q Q  I1 J1))))))) : w_X11_readLine_286 SL xs d p s q Q  I J := by
  unfold w_X11_readLine_286
  refine sp_aload_n 287 rfl rfl rfl ?_
  refine sp_ldc2 290 rfl rfl ?_
  refine sc_V 293 rfl rfl rfl rfl rfl (Nat.le_refl _) (Nat.le_refl _) rfl ?_
  refine cy_X11_isWord ?_
  refine sp_if_eq 296 rfl rfl (fun q_ => ?_) (fun q_ => ?_)
  · have k := k.1 q_
    exact k
  · have k := k.2 q_
    refine sp_aload_n 297 rfl rfl rfl ?_
    refine hq_getI 300 rfl rfl rfl ?_
    refine sp_bipush 302 rfl rfl ?_
    refine sp_I (y := Int32.ofInt 12) rfl ?_
    refine sp_ic_ge 305 rfl rfl (fun q_ => ?_) (fun q_ => ?_)
    · have k := k.1 q_
      exact k
    · have k := k.2 q_
      refine sp_aload_n 306 rfl rfl rfl ?_
      refine sc_V 309 rfl rfl rfl rfl rfl (Nat.le_refl _) (Nat.le_refl _) rfl ?_
      refine mm_s_mono _ _ _ _ _ _ ?_ k
      rintro r_ h_ ⟨I1, J1, rfl, rfl, k⟩
      refine hs_S (st2 := []) rfl ?_
      refine sp_goto rfl ?_
      exact k
theorem sg_X11_readLine_312 {SL : Nat} {xs : Nat → Int32} {d : Nat} {p s q : Nat} {Q : Option Value → mm_H → Prop}  {I : Nat → Nat → Int32} {J : Nat → Nat → Int64}  (k : (mm_s SL xs (d + 6) 173 [.ref 65, .int (Int32.ofInt 2)] (hp p s q I J) (fun r_ h_ => ∃ I1 J1, r_ = none ∧ h_ = hp p s q I1 J1 ∧ w_X11_readLine_317 SL xs d p s q Q  I1 J1))) : w_X11_readLine_312 SL xs d p s q Q  I J := by
  unfold w_X11_readLine_312
  refine sp_aload_n 313 rfl rfl rfl ?_
  refine sp_iconst 314 rfl rfl ?_
  refine sc_V 317 rfl rfl rfl rfl rfl (Nat.le_refl _) (Nat.le_refl _) rfl ?_
  refine mm_s_mono _ _ _ _ _ _ ?_ k
  rintro r_ h_ ⟨I1, J1, rfl, rfl, k⟩
  refine hs_S (st2 := []) rfl ?_
  exact k
theorem sg_X11_readLine_317 {SL : Nat} {xs : Nat → Int32} {d : Nat} {p s q : Nat} {Q : Option Value → mm_H → Prop}  {I : Nat → Nat → Int32} {J : Nat → Nat → Int64}  (k : (((I 65 2) = Int32.ofInt 0 → (((I 65 6) = (Int32.ofInt 59) → w_X11_readLine_338 SL xs d p s q Q  I J) ∧ (¬ ((I 65 6) = (Int32.ofInt 59)) → (mm_s SL xs (d + 6) 173 [.ref 65, .int (Int32.ofInt 2)] (hp p s q I J) (fun r_ h_ => ∃ I1 J1, r_ = none ∧ h_ = hp p s q I1 J1 ∧ w_X11_readLine_338 SL xs d p s q Q  I1 J1))))) ∧ (¬ ((I 65 2) = Int32.ofInt 0) → w_X11_readLine_338 SL xs d p s q Q  I J))) : w_X11_readLine_317 SL xs d p s q Q  I J := by
  unfold w_X11_readLine_317
  refine sp_aload_n 318 rfl rfl rfl ?_
  refine hq_getI 321 rfl rfl rfl ?_
  refine sp_if_ne 324 rfl rfl (fun q_ => ?_) (fun q_ => ?_)
  · have k := k.2 q_
    exact k
  · have k := k.1 q_
    refine sp_aload_n 325 rfl rfl rfl ?_
    refine hq_getI 328 rfl rfl rfl ?_
    refine sp_bipush 330 rfl rfl ?_
    refine sp_I (y := Int32.ofInt 59) rfl ?_
    refine sp_ic_eq 333 rfl rfl (fun q_ => ?_) (fun q_ => ?_)
    · have k := k.1 q_
      exact k
    · have k := k.2 q_
      refine sp_aload_n 334 rfl rfl rfl ?_
      refine sp_iconst 335 rfl rfl ?_
      refine sc_V 338 rfl rfl rfl rfl rfl (Nat.le_refl _) (Nat.le_refl _) rfl ?_
      refine mm_s_mono _ _ _ _ _ _ ?_ k
      rintro r_ h_ ⟨I1, J1, rfl, rfl, k⟩
      refine hs_S (st2 := []) rfl ?_
      exact k
theorem sg_X11_readLine_338 {SL : Nat} {xs : Nat → Int32} {d : Nat} {p s q : Nat} {Q : Option Value → mm_H → Prop}  {I : Nat → Nat → Int32} {J : Nat → Nat → Int64}  (k : (((I 65 2) = Int32.ofInt 0 → (mm_s SL xs (d + 6) 172 [.ref 65] (hp p s q I J) (fun r_ h_ => ∃ I1 J1, r_ = none ∧ h_ = hp p s q I1 J1 ∧ Q none (hp p s q I1 J1)))) ∧ (¬ ((I 65 2) = Int32.ofInt 0) → Q none (hp p s q I J)))) : w_X11_readLine_338 SL xs d p s q Q  I J := by
  unfold w_X11_readLine_338
  refine sp_aload_n 339 rfl rfl rfl ?_
  refine hq_getI 342 rfl rfl rfl ?_
  refine sp_if_ne 345 rfl rfl (fun q_ => ?_) (fun q_ => ?_)
  · have k := k.2 q_
    exact st_vret rfl rfl (Nat.le_refl _) (Nat.le_refl _) k
  · have k := k.1 q_
    refine sp_aload_n 346 rfl rfl rfl ?_
    refine sc_V 349 rfl rfl rfl rfl rfl (Nat.le_refl _) (Nat.le_refl _) rfl ?_
    refine mm_s_mono _ _ _ _ _ _ ?_ k
    rintro r_ h_ ⟨I1, J1, rfl, rfl, k⟩
    refine hs_S (st2 := []) rfl ?_
    exact st_vret rfl rfl (Nat.le_refl _) (Nat.le_refl _) k
def w_X11_late_24 (SL : Nat) (xs : Nat → Int32) (d : Nat) (p s q : Nat) (Q : Option Value → mm_H → Prop) (v1 : Int32) (v2 : Int64) (v4 : Int32) (I : Nat → Nat → Int32) (J : Nat → Nat → Int64) : Prop := mm_w SL xs (mm_s SL xs (d + 6)) mm_am kX11_late 0 0 (some .long) Q 24 [some (.ref 65), some (.int v1), some (.long v2), none, some (.int v4)] [] (hp p s q I J) 0 0
theorem sg_X11_late {SL : Nat} {xs : Nat → Int32} {d : Nat} {p s q : Nat} {Q : Option Value → mm_H → Prop} {a0 : Int32} {I : Nat → Nat → Int32} {J : Nat → Nat → Int64}  (k : ((a0 < Int32.ofInt 0 → Q (some (.long (Int64.ofInt (-1)))) (hp p s q I J)) ∧ (¬ (a0 < Int32.ofInt 0) → ((a0 ≤ (Int32.ofInt 300) → (mm_s SL xs (d + 6) 203 [.ref 65] (hp p s q I J) (fun r_ h_ => ∃ I1 J1, r_ = none ∧ h_ = hp p s q I1 J1 ∧ w_X11_late_24 SL xs d p s q Q a0 (Int64.ofInt 0) (Int32.ofInt 0) I1 J1))) ∧ (¬ (a0 ≤ (Int32.ofInt 300)) → Q (some (.long (Int64.ofInt (-1)))) (hp p s q I J)))))) : mm_s SL xs (d + 7) 222 [.ref 65, .int a0] (hp p s q I J) Q := by
  refine e_X11_late rfl ?_
  refine hs_L (L2 := [some (.ref 65), some (.int a0), none, none, none]) rfl ?_
  refine sp_iload_n 1 rfl rfl rfl ?_
  refine sp_if_lt 4 rfl rfl (fun q_ => ?_) (fun q_ => ?_)
  · have k := k.1 q_
    refine sp_ldc2 14 rfl rfl ?_
    exact st_lret rfl rfl (Nat.le_refl _) (Nat.le_refl _) k
  · have k := k.2 q_
    refine sp_iload_n 5 rfl rfl rfl ?_
    refine sp_sipush 8 rfl rfl ?_
    refine sp_I (y := Int32.ofInt 300) rfl ?_
    refine sp_ic_le 11 rfl rfl (fun q_ => ?_) (fun q_ => ?_)
    · have k := k.1 q_
      refine sp_aload_n 16 rfl rfl rfl ?_
      refine sc_V 19 rfl rfl rfl rfl rfl (Nat.le_refl _) (Nat.le_refl _) rfl ?_
      refine mm_s_mono _ _ _ _ _ _ ?_ k
      rintro r_ h_ ⟨I1, J1, rfl, rfl, k⟩
      refine hs_S (st2 := []) rfl ?_
      refine sp_lconst 20 rfl rfl ?_
      refine sp_J (y := Int64.ofInt 0) rfl ?_
      refine hs_lstore_n 21 (L2 := [some (.ref 65), some (.int a0), some (.long (Int64.ofInt 0)), none, none]) rfl rfl rfl rfl ?_
      refine sp_iconst 22 rfl rfl ?_
      refine hs_istore 24 (L2 := [some (.ref 65), some (.int a0), some (.long (Int64.ofInt 0)), none, some (.int (Int32.ofInt 0))]) rfl rfl rfl rfl ?_
      exact k
    · have k := k.2 q_
      refine sp_ldc2 14 rfl rfl ?_
      exact st_lret rfl rfl (Nat.le_refl _) (Nat.le_refl _) k
theorem sg_X11_late_24 {SL : Nat} {xs : Nat → Int32} {d : Nat} {p s q : Nat} {Q : Option Value → mm_H → Prop} {v1 : Int32} {v2 : Int64} {v4 : Int32} {I : Nat → Nat → Int32} {J : Nat → Nat → Int64}  (k : (((I 65 47) ≤ v4 → Q (some (.long v2)) (hp p s q I J)) ∧ (¬ ((I 65 47) ≤ v4) → (mm_s SL xs (d + 6) 220 [.ref 65, .int v1, .int v4] (hp p s q I J) (fun r_ h_ => ∃ x1 I1 J1, r_ = some (.int x1) ∧ h_ = hp p s q I1 J1 ∧ ((x1 = Int32.ofInt 0 → (mm_s SL xs (d + 6) 204 [.ref 65] (hp p s q I1 J1) (fun r_ h_ => ∃ I2 J2, r_ = none ∧ h_ = hp p s q I2 J2 ∧ w_X11_late_24 SL xs d p s q Q v1 (v2 ||| (Int64.ofInt 0)) (v4 + Int32.ofInt 1) I2 J2))) ∧ (¬ (x1 = Int32.ofInt 0) → (mm_s SL xs (d + 6) 204 [.ref 65] (hp p s q I1 J1) (fun r_ h_ => ∃ I3 J3, r_ = none ∧ h_ = hp p s q I3 J3 ∧ w_X11_late_24 SL xs d p s q Q v1 (v2 ||| ((Int64.ofInt 1) <<< ((v4).toInt64 &&& 63))) (v4 + Int32.ofInt 1) I3 J3))))))))) : w_X11_late_24 SL xs d p s q Q v1 v2 v4 I J := by
  unfold w_X11_late_24
  refine sp_iload 26 rfl rfl rfl ?_
  refine sp_aload_n 27 rfl rfl rfl ?_
  refine hq_getI 30 rfl rfl rfl ?_
  refine sp_ic_ge 33 rfl rfl (fun q_ => ?_) (fun q_ => ?_)
  · have k := k.1 q_
    refine sp_lload_n 65 rfl rfl rfl ?_
    exact st_lret rfl rfl (Nat.le_refl _) (Nat.le_refl _) k
  · have k := k.2 q_
    refine sp_lload_n 34 rfl rfl rfl ?_
    refine sp_aload_n 35 rfl rfl rfl ?_
    refine sp_iload_n 36 rfl rfl rfl ?_
    refine sp_iload 38 rfl rfl rfl ?_
    refine sc_V 41 rfl rfl rfl rfl rfl (Nat.le_refl _) (Nat.le_refl _) rfl ?_
    refine mm_s_mono _ _ _ _ _ _ ?_ k
    rintro r_ h_ ⟨x1, I1, J1, rfl, rfl, k⟩
    refine hs_S (st2 := [.int x1, .long v2]) rfl ?_
    refine sp_if_eq 44 rfl rfl (fun q_ => ?_) (fun q_ => ?_)
    · have k := k.1 q_
      refine sp_lconst 52 rfl rfl ?_
      refine sp_J (y := Int64.ofInt 0) rfl ?_
      refine sp_lor 53 rfl rfl ?_
      refine hs_lstore_n 54 (L2 := [some (.ref 65), some (.int v1), some (.long (v2 ||| (Int64.ofInt 0))), none, some (.int v4)]) rfl rfl rfl rfl ?_
      refine sp_aload_n 55 rfl rfl rfl ?_
      refine sc_V 58 rfl rfl rfl rfl rfl (Nat.le_refl _) (Nat.le_refl _) rfl ?_
      refine mm_s_mono _ _ _ _ _ _ ?_ k
      rintro r_ h_ ⟨I2, J2, rfl, rfl, k⟩
      refine hs_S (st2 := []) rfl ?_
      refine hs_iinc 61 (L2 := [some (.ref 65), some (.int v1), some (.long (v2 ||| (Int64.ofInt 0))), none, some (.int (v4 + Int32.ofInt 1))]) rfl rfl rfl rfl rfl ?_
      refine sp_goto rfl ?_
      exact k
    · have k := k.2 q_
      refine sp_lconst 45 rfl rfl ?_
      refine sp_J (y := Int64.ofInt 1) rfl ?_
      refine sp_iload 47 rfl rfl rfl ?_
      refine sp_lshl 48 rfl rfl ?_
      refine sp_goto rfl ?_
      refine sp_lor 53 rfl rfl ?_
      refine hs_lstore_n 54 (L2 := [some (.ref 65), some (.int v1), some (.long (v2 ||| ((Int64.ofInt 1) <<< ((v4).toInt64 &&& 63)))), none, some (.int v4)]) rfl rfl rfl rfl ?_
      refine sp_aload_n 55 rfl rfl rfl ?_
      refine sc_V 58 rfl rfl rfl rfl rfl (Nat.le_refl _) (Nat.le_refl _) rfl ?_
      refine mm_s_mono _ _ _ _ _ _ ?_ k
      rintro r_ h_ ⟨I3, J3, rfl, rfl, k⟩
      refine hs_S (st2 := []) rfl ?_
      refine hs_iinc 61 (L2 := [some (.ref 65), some (.int v1), some (.long (v2 ||| ((Int64.ofInt 1) <<< ((v4).toInt64 &&& 63)))), none, some (.int (v4 + Int32.ofInt 1))]) rfl rfl rfl rfl rfl ?_
      refine sp_goto rfl ?_
      exact k
def w_X11_readAll_65 (SL : Nat) (xs : Nat → Int32) (d : Nat) (p s q : Nat) (Q : Option Value → mm_H → Prop) (v1 : Int32) (I : Nat → Nat → Int32) (J : Nat → Nat → Int64) : Prop := mm_w SL xs (mm_s SL xs (d + 7)) mm_am kX11_readAll 0 0 none Q 65 [some (.ref 65), some (.int v1)] [] (hp p s q I J) 0 0
def w_X11_readAll_88 (SL : Nat) (xs : Nat → Int32) (d : Nat) (p s q : Nat) (Q : Option Value → mm_H → Prop) (v1 : Int32) (I : Nat → Nat → Int32) (J : Nat → Nat → Int64) : Prop := mm_w SL xs (mm_s SL xs (d + 7)) mm_am kX11_readAll 0 0 none Q 88 [some (.ref 65), some (.int v1)] [] (hp p s q I J) 0 0
theorem sg_X11_readAll {SL : Nat} {xs : Nat → Int32} {d : Nat} {p s q : Nat} {Q : Option Value → mm_H → Prop}  {I : Nat → Nat → Int32} {J : Nat → Nat → Int64}  (k : w_X11_readAll_65 SL xs d p s q Q (Int32.ofInt 0) (mm_u (mm_u (mm_u (mm_u (mm_u (mm_u (mm_u (mm_u (mm_u (mm_u (mm_u (mm_u I 65 5 (I 65 1)) 65 1 (Int32.ofInt 0)) 65 4 (Int32.ofInt 0)) 65 2 (Int32.ofInt 0)) 65 3 (Int32.ofInt (-1))) 65 18 (Int32.ofInt 0)) 65 19 (Int32.ofInt 0)) 65 37 (Int32.ofInt 0)) 65 38 (Int32.ofInt 0)) 65 39 (Int32.ofInt 0)) 65 40 (Int32.ofInt 0)) 65 41 (Int32.ofInt 0)) J) : mm_s SL xs (d + 8) 198 [.ref 65] (hp p s q I J) Q := by
  refine e_X11_readAll rfl ?_
  refine hs_L (L2 := [some (.ref 65), none]) rfl ?_
  refine sp_aload_n 1 rfl rfl rfl ?_
  refine sp_aload_n 2 rfl rfl rfl ?_
  refine hq_getI 5 rfl rfl rfl ?_
  refine hq_putI 8 rfl rfl rfl ?_
  refine sp_aload_n 9 rfl rfl rfl ?_
  refine sp_iconst 10 rfl rfl ?_
  refine hq_putI 13 rfl rfl rfl ?_
  refine sp_aload_n 14 rfl rfl rfl ?_
  refine sp_iconst 15 rfl rfl ?_
  refine hq_putI 18 rfl rfl rfl ?_
  refine sp_aload_n 19 rfl rfl rfl ?_
  refine sp_iconst 20 rfl rfl ?_
  refine hq_putI 23 rfl rfl rfl ?_
  refine sp_aload_n 24 rfl rfl rfl ?_
  refine sp_iconst 25 rfl rfl ?_
  refine hq_putI 28 rfl rfl rfl ?_
  refine sp_aload_n 29 rfl rfl rfl ?_
  refine sp_iconst 30 rfl rfl ?_
  refine hq_putI 33 rfl rfl rfl ?_
  refine sp_aload_n 34 rfl rfl rfl ?_
  refine sp_iconst 35 rfl rfl ?_
  refine hq_putI 38 rfl rfl rfl ?_
  refine sp_aload_n 39 rfl rfl rfl ?_
  refine sp_iconst 40 rfl rfl ?_
  refine hq_putI 43 rfl rfl rfl ?_
  refine sp_aload_n 44 rfl rfl rfl ?_
  refine sp_iconst 45 rfl rfl ?_
  refine hq_putI 48 rfl rfl rfl ?_
  refine sp_aload_n 49 rfl rfl rfl ?_
  refine sp_iconst 50 rfl rfl ?_
  refine hq_putI 53 rfl rfl rfl ?_
  refine sp_aload_n 54 rfl rfl rfl ?_
  refine sp_iconst 55 rfl rfl ?_
  refine hq_putI 58 rfl rfl rfl ?_
  refine sp_aload_n 59 rfl rfl rfl ?_
  refine sp_iconst 60 rfl rfl ?_
  refine hq_putI 63 rfl rfl rfl ?_
  refine sp_iconst 64 rfl rfl ?_
  refine hs_istore_n 65 (L2 := [some (.ref 65), some (.int (Int32.ofInt 0))]) rfl rfl rfl rfl ?_
  exact k
theorem sg_X11_readAll_65 {SL : Nat} {xs : Nat → Int32} {d : Nat} {p s q : Nat} {Q : Option Value → mm_H → Prop} {v1 : Int32} {I : Nat → Nat → Int32} {J : Nat → Nat → Int64}  (k : (((Int32.ofInt 8) ≤ v1 → (mm_s SL xs (d + 7) 172 [.ref 65] (hp p s q I J) (fun r_ h_ => ∃ I1 J1, r_ = none ∧ h_ = hp p s q I1 J1 ∧ w_X11_readAll_88 SL xs d p s q Q v1 I1 J1))) ∧ (¬ ((Int32.ofInt 8) ≤ v1) → (vp_in v1 8 ∧ w_X11_readAll_65 SL xs d p s q Q (v1 + Int32.ofInt 1) (mm_u I 85 ((v1).toNatClampNeg) (Int32.ofInt 0)) J)))) : w_X11_readAll_65 SL xs d p s q Q v1 I J := by
  unfold w_X11_readAll_65
  refine sp_iload_n 66 rfl rfl rfl ?_
  refine sp_bipush 68 rfl rfl ?_
  refine sp_I (y := Int32.ofInt 8) rfl ?_
  refine sp_ic_ge 71 rfl rfl (fun q_ => ?_) (fun q_ => ?_)
  · have k := k.1 q_
    refine sp_aload_n 85 rfl rfl rfl ?_
    refine sc_V 88 rfl rfl rfl rfl rfl (Nat.le_refl _) (Nat.le_refl _) rfl ?_
    refine mm_s_mono _ _ _ _ _ _ ?_ k
    rintro r_ h_ ⟨I1, J1, rfl, rfl, k⟩
    refine hs_S (st2 := []) rfl ?_
    exact k
  · have k := k.2 q_
    refine sp_aload_n 72 rfl rfl rfl ?_
    refine hq_getR 75 rfl rfl rfl rfl ?_
    refine sp_iload_n 76 rfl rfl rfl ?_
    refine sp_iconst 77 rfl rfl ?_
    have n1_ := k.1
    have k := k.2
    refine hq_zast 78 rfl rfl n1_ (by decide) rfl ?_
    refine hs_iinc 81 (L2 := [some (.ref 65), some (.int (v1 + Int32.ofInt 1))]) rfl rfl rfl rfl rfl ?_
    refine sp_goto rfl ?_
    exact k
theorem sg_X11_readAll_88 {SL : Nat} {xs : Nat → Int32} {d : Nat} {p s q : Nat} {Q : Option Value → mm_H → Prop} {v1 : Int32} {I : Nat → Nat → Int32} {J : Nat → Nat → Int64}  (k : (((I 65 2) = Int32.ofInt 0 → (((I 65 6) = Int32.ofInt 0 → Q none (hp p s q I J)) ∧ (¬ ((I 65 6) = Int32.ofInt 0) → (mm_s SL xs (d + 7) 197 [.ref 65] (hp p s q I J) (fun r_ h_ => ∃ I1 J1, r_ = none ∧ h_ = hp p s q I1 J1 ∧ w_X11_readAll_88 SL xs d p s q Q v1 I1 J1))))) ∧ (¬ ((I 65 2) = Int32.ofInt 0) → Q none (hp p s q I J)))) : w_X11_readAll_88 SL xs d p s q Q v1 I J := by
  unfold w_X11_readAll_88
  refine sp_aload_n 89 rfl rfl rfl ?_
  refine hq_getI 92 rfl rfl rfl ?_
  refine sp_if_ne 95 rfl rfl (fun q_ => ?_) (fun q_ => ?_)
  · have k := k.2 q_
    exact st_vret rfl rfl (Nat.le_refl _) (Nat.le_refl _) k
  · have k := k.1 q_
    refine sp_aload_n 96 rfl rfl rfl ?_
    refine hq_getI 99 rfl rfl rfl ?_
    refine sp_if_eq 102 rfl rfl (fun q_ => ?_) (fun q_ => ?_)
    · have k := k.1 q_
      exact st_vret rfl rfl (Nat.le_refl _) (Nat.le_refl _) k
    · have k := k.2 q_
      refine sp_aload_n 103 rfl rfl rfl ?_
      refine sc_V 106 rfl rfl rfl rfl rfl (Nat.le_refl _) (Nat.le_refl _) rfl ?_
      refine mm_s_mono _ _ _ _ _ _ ?_ k
      rintro r_ h_ ⟨I1, J1, rfl, rfl, k⟩
      refine hs_S (st2 := []) rfl ?_
      refine sp_goto rfl ?_
      exact k
def w_X11_ring_36 (SL : Nat) (xs : Nat → Int32) (d : Nat) (p s q : Nat) (Q : Option Value → mm_H → Prop)  (I : Nat → Nat → Int32) (J : Nat → Nat → Int64) : Prop := mm_w SL xs (mm_s SL xs (d + 8)) mm_am kX11_ring 0 0 (some .int) Q 36 [some (.ref 65), none] [] (hp p s q I J) 0 0
def w_X11_ring_64 (SL : Nat) (xs : Nat → Int32) (d : Nat) (p s q : Nat) (Q : Option Value → mm_H → Prop)  (I : Nat → Nat → Int32) (J : Nat → Nat → Int64) : Prop := mm_w SL xs (mm_s SL xs (d + 8)) mm_am kX11_ring 0 0 (some .int) Q 64 [some (.ref 65), none] [] (hp p s q I J) 0 0
def w_X11_ring_87 (SL : Nat) (xs : Nat → Int32) (d : Nat) (p s q : Nat) (Q : Option Value → mm_H → Prop)  (I : Nat → Nat → Int32) (J : Nat → Nat → Int64) : Prop := mm_w SL xs (mm_s SL xs (d + 8)) mm_am kX11_ring 0 0 (some .int) Q 87 [some (.ref 65), none] [] (hp p s q I J) 0 0
def w_X11_ring_110 (SL : Nat) (xs : Nat → Int32) (d : Nat) (p s q : Nat) (Q : Option Value → mm_H → Prop)  (I : Nat → Nat → Int32) (J : Nat → Nat → Int64) : Prop := mm_w SL xs (mm_s SL xs (d + 8)) mm_am kX11_ring 0 0 (some .int) Q 110 [some (.ref 65), none] [] (hp p s q I J) 0 0
def w_X11_ring_133 (SL : Nat) (xs : Nat → Int32) (d : Nat) (p s q : Nat) (Q : Option Value → mm_H → Prop)  (I : Nat → Nat → Int32) (J : Nat → Nat → Int64) : Prop := mm_w SL xs (mm_s SL xs (d + 8)) mm_am kX11_ring 0 0 (some .int) Q 133 [some (.ref 65), none] [] (hp p s q I J) 0 0
def w_X11_ring_161 (SL : Nat) (xs : Nat → Int32) (d : Nat) (p s q : Nat) (Q : Option Value → mm_H → Prop)  (I : Nat → Nat → Int32) (J : Nat → Nat → Int64) : Prop := mm_w SL xs (mm_s SL xs (d + 8)) mm_am kX11_ring 0 0 (some .int) Q 161 [some (.ref 65), none] [] (hp p s q I J) 0 0
def w_X11_ring_182 (SL : Nat) (xs : Nat → Int32) (d : Nat) (p s q : Nat) (Q : Option Value → mm_H → Prop) (v1 : Int32) (I : Nat → Nat → Int32) (J : Nat → Nat → Int64) : Prop := mm_w SL xs (mm_s SL xs (d + 8)) mm_am kX11_ring 0 0 (some .int) Q 182 [some (.ref 65), some (.int v1)] [] (hp p s q I J) 0 0
def w_X11_ring_270 (SL : Nat) (xs : Nat → Int32) (d : Nat) (p s q : Nat) (Q : Option Value → mm_H → Prop) (v1 : Int32) (I : Nat → Nat → Int32) (J : Nat → Nat → Int64) : Prop := mm_w SL xs (mm_s SL xs (d + 8)) mm_am kX11_ring 0 0 (some .int) Q 270 [some (.ref 65), some (.int v1)] [] (hp p s q I J) 0 0
def w_X11_ring_310 (SL : Nat) (xs : Nat → Int32) (d : Nat) (p s q : Nat) (Q : Option Value → mm_H → Prop) (v1 : Int32) (I : Nat → Nat → Int32) (J : Nat → Nat → Int64) : Prop := mm_w SL xs (mm_s SL xs (d + 8)) mm_am kX11_ring 0 0 (some .int) Q 310 [some (.ref 65), some (.int v1)] [] (hp p s q I J) 0 0
def w_X11_ring_338 (SL : Nat) (xs : Nat → Int32) (d : Nat) (p s q : Nat) (Q : Option Value → mm_H → Prop) (v1 : Int32) (I : Nat → Nat → Int32) (J : Nat → Nat → Int64) : Prop := mm_w SL xs (mm_s SL xs (d + 8)) mm_am kX11_ring 0 0 (some .int) Q 338 [some (.ref 65), some (.int v1)] [] (hp p s q I J) 0 0
def w_X11_ring_396 (SL : Nat) (xs : Nat → Int32) (d : Nat) (p s q : Nat) (Q : Option Value → mm_H → Prop) (v1 : Int32) (I : Nat → Nat → Int32) (J : Nat → Nat → Int64) : Prop := mm_w SL xs (mm_s SL xs (d + 8)) mm_am kX11_ring 0 0 (some .int) Q 396 [some (.ref 65), some (.int v1)] [] (hp p s q I J) 0 0
theorem sg_X11_ring {SL : Nat} {xs : Nat → Int32} {d : Nat} {p s q : Nat} {Q : Option Value → mm_H → Prop}  {I : Nat → Nat → Int32} {J : Nat → Nat → Int64}  (k : (mm_s SL xs (d + 8) 198 [.ref 65] (hp p s q I J) (fun r_ h_ => ∃ I1 J1, r_ = none ∧ h_ = hp p s q I1 J1 ∧ (((I1 65 2) ≤ Int32.ofInt 0 → (vp_in (Int32.ofInt 0) 8 ∧ (((I1 85 (((Int32.ofInt 0)).toNatClampNeg)) = Int32.ofInt 0 → w_X11_ring_36 SL xs d p s q Q  (mm_u I1 65 47 (Int32.ofInt 1)) J1) ∧ (¬ ((I1 85 (((Int32.ofInt 0)).toNatClampNeg)) = Int32.ofInt 0) → (vp_in (Int32.ofInt 0) 6 ∧ w_X11_ring_36 SL xs d p s q Q  (mm_u I1 65 47 (I1 74 (((Int32.ofInt 0)).toNatClampNeg))) J1))))) ∧ (¬ ((I1 65 2) ≤ Int32.ofInt 0) → Q (some (.int (Int32.ofInt (-1)))) (hp p s q I1 J1)))))) : mm_s SL xs (d + 9) 199 [.ref 65] (hp p s q I J) Q := by
  refine e_X11_ring rfl ?_
  refine hs_L (L2 := [some (.ref 65), none]) rfl ?_
  refine sp_aload_n 1 rfl rfl rfl ?_
  refine sc_V 4 rfl rfl rfl rfl rfl (Nat.le_refl _) (Nat.le_refl _) rfl ?_
  refine mm_s_mono _ _ _ _ _ _ ?_ k
  rintro r_ h_ ⟨I1, J1, rfl, rfl, k⟩
  refine hs_S (st2 := []) rfl ?_
  refine sp_aload_n 5 rfl rfl rfl ?_
  refine hq_getI 8 rfl rfl rfl ?_
  refine sp_if_le 11 rfl rfl (fun q_ => ?_) (fun q_ => ?_)
  · have k := k.1 q_
    refine sp_aload_n 14 rfl rfl rfl ?_
    refine sp_aload_n 15 rfl rfl rfl ?_
    refine hq_getR 18 rfl rfl rfl rfl ?_
    refine sp_iconst 19 rfl rfl ?_
    have n1_ := k.1
    have k := k.2
    refine hq_zald 20 rfl rfl n1_ rfl ?_
    refine sp_if_eq 23 rfl rfl (fun q_ => ?_) (fun q_ => ?_)
    · have k := k.1 q_
      refine sp_iconst 33 rfl rfl ?_
      refine hq_putI 36 rfl rfl rfl ?_
      exact k
    · have k := k.2 q_
      refine sp_aload_n 24 rfl rfl rfl ?_
      refine hq_getR 27 rfl rfl rfl rfl ?_
      refine sp_iconst 28 rfl rfl ?_
      have n2_ := k.1
      have k := k.2
      refine hq_iald 29 rfl rfl n2_ rfl ?_
      refine sp_goto rfl ?_
      refine hq_putI 36 rfl rfl rfl ?_
      exact k
  · have k := k.2 q_
    refine sp_iconst 12 rfl rfl ?_
    exact st_iret rfl rfl (Nat.le_refl _) (Nat.le_refl _) k
theorem sg_X11_ring_36 {SL : Nat} {xs : Nat → Int32} {d : Nat} {p s q : Nat} {Q : Option Value → mm_H → Prop}  {I : Nat → Nat → Int32} {J : Nat → Nat → Int64}  (k : (vp_in (Int32.ofInt 1) 8 ∧ (((I 85 (((Int32.ofInt 1)).toNatClampNeg)) = Int32.ofInt 0 → w_X11_ring_64 SL xs d p s q Q  (mm_u I 65 48 (Int32.ofInt 0)) J) ∧ (¬ ((I 85 (((Int32.ofInt 1)).toNatClampNeg)) = Int32.ofInt 0) → (vp_in (Int32.ofInt 1) 6 ∧ (¬ (I 65 47) = 0 ∧ w_X11_ring_64 SL xs d p s q Q  (mm_u I 65 48 ((I 74 (((Int32.ofInt 1)).toNatClampNeg)) - (I 74 (((Int32.ofInt 1)).toNatClampNeg)) / (I 65 47) * (I 65 47))) J)))))) : w_X11_ring_36 SL xs d p s q Q  I J := by
  unfold w_X11_ring_36
  refine sp_aload_n 37 rfl rfl rfl ?_
  refine sp_aload_n 38 rfl rfl rfl ?_
  refine hq_getR 41 rfl rfl rfl rfl ?_
  refine sp_iconst 42 rfl rfl ?_
  have n3_ := k.1
  have k := k.2
  refine hq_zald 43 rfl rfl n3_ rfl ?_
  refine sp_if_eq 46 rfl rfl (fun q_ => ?_) (fun q_ => ?_)
  · have k := k.1 q_
    refine sp_iconst 61 rfl rfl ?_
    refine hq_putI 64 rfl rfl rfl ?_
    exact k
  · have k := k.2 q_
    refine sp_aload_n 47 rfl rfl rfl ?_
    refine hq_getR 50 rfl rfl rfl rfl ?_
    refine sp_iconst 51 rfl rfl ?_
    have n4_ := k.1
    have k := k.2
    refine hq_iald 52 rfl rfl n4_ rfl ?_
    refine sp_aload_n 53 rfl rfl rfl ?_
    refine hq_getI 56 rfl rfl rfl ?_
    have n5_ := k.1
    have k := k.2
    refine sp_irem 57 rfl n5_ rfl ?_
    refine sp_goto rfl ?_
    refine hq_putI 64 rfl rfl rfl ?_
    exact k
theorem sg_X11_ring_64 {SL : Nat} {xs : Nat → Int32} {d : Nat} {p s q : Nat} {Q : Option Value → mm_H → Prop}  {I : Nat → Nat → Int32} {J : Nat → Nat → Int64}  (k : (vp_in (Int32.ofInt 2) 8 ∧ (((I 85 (((Int32.ofInt 2)).toNatClampNeg)) = Int32.ofInt 0 → w_X11_ring_87 SL xs d p s q Q  (mm_u I 65 49 (Int32.ofInt 1)) J) ∧ (¬ ((I 85 (((Int32.ofInt 2)).toNatClampNeg)) = Int32.ofInt 0) → (vp_in (Int32.ofInt 2) 6 ∧ w_X11_ring_87 SL xs d p s q Q  (mm_u I 65 49 (I 74 (((Int32.ofInt 2)).toNatClampNeg))) J))))) : w_X11_ring_64 SL xs d p s q Q  I J := by
  unfold w_X11_ring_64
  refine sp_aload_n 65 rfl rfl rfl ?_
  refine sp_aload_n 66 rfl rfl rfl ?_
  refine hq_getR 69 rfl rfl rfl rfl ?_
  refine sp_iconst 70 rfl rfl ?_
  have n6_ := k.1
  have k := k.2
  refine hq_zald 71 rfl rfl n6_ rfl ?_
  refine sp_if_eq 74 rfl rfl (fun q_ => ?_) (fun q_ => ?_)
  · have k := k.1 q_
    refine sp_iconst 84 rfl rfl ?_
    refine hq_putI 87 rfl rfl rfl ?_
    exact k
  · have k := k.2 q_
    refine sp_aload_n 75 rfl rfl rfl ?_
    refine hq_getR 78 rfl rfl rfl rfl ?_
    refine sp_iconst 79 rfl rfl ?_
    have n7_ := k.1
    have k := k.2
    refine hq_iald 80 rfl rfl n7_ rfl ?_
    refine sp_goto rfl ?_
    refine hq_putI 87 rfl rfl rfl ?_
    exact k
theorem sg_X11_ring_87 {SL : Nat} {xs : Nat → Int32} {d : Nat} {p s q : Nat} {Q : Option Value → mm_H → Prop}  {I : Nat → Nat → Int32} {J : Nat → Nat → Int64}  (k : (vp_in (Int32.ofInt 3) 8 ∧ (((I 85 (((Int32.ofInt 3)).toNatClampNeg)) = Int32.ofInt 0 → w_X11_ring_110 SL xs d p s q Q  (mm_u I 65 50 (Int32.ofInt 0)) J) ∧ (¬ ((I 85 (((Int32.ofInt 3)).toNatClampNeg)) = Int32.ofInt 0) → (vp_in (Int32.ofInt 3) 6 ∧ w_X11_ring_110 SL xs d p s q Q  (mm_u I 65 50 (I 74 (((Int32.ofInt 3)).toNatClampNeg))) J))))) : w_X11_ring_87 SL xs d p s q Q  I J := by
  unfold w_X11_ring_87
  refine sp_aload_n 88 rfl rfl rfl ?_
  refine sp_aload_n 89 rfl rfl rfl ?_
  refine hq_getR 92 rfl rfl rfl rfl ?_
  refine sp_iconst 93 rfl rfl ?_
  have n8_ := k.1
  have k := k.2
  refine hq_zald 94 rfl rfl n8_ rfl ?_
  refine sp_if_eq 97 rfl rfl (fun q_ => ?_) (fun q_ => ?_)
  · have k := k.1 q_
    refine sp_iconst 107 rfl rfl ?_
    refine hq_putI 110 rfl rfl rfl ?_
    exact k
  · have k := k.2 q_
    refine sp_aload_n 98 rfl rfl rfl ?_
    refine hq_getR 101 rfl rfl rfl rfl ?_
    refine sp_iconst 102 rfl rfl ?_
    have n9_ := k.1
    have k := k.2
    refine hq_iald 103 rfl rfl n9_ rfl ?_
    refine sp_goto rfl ?_
    refine hq_putI 110 rfl rfl rfl ?_
    exact k
theorem sg_X11_ring_110 {SL : Nat} {xs : Nat → Int32} {d : Nat} {p s q : Nat} {Q : Option Value → mm_H → Prop}  {I : Nat → Nat → Int32} {J : Nat → Nat → Int64}  (k : (vp_in (Int32.ofInt 4) 8 ∧ (((I 85 (((Int32.ofInt 4)).toNatClampNeg)) = Int32.ofInt 0 → w_X11_ring_133 SL xs d p s q Q  (mm_u I 65 51 (Int32.ofInt 0)) J) ∧ (¬ ((I 85 (((Int32.ofInt 4)).toNatClampNeg)) = Int32.ofInt 0) → (vp_in (Int32.ofInt 4) 6 ∧ w_X11_ring_133 SL xs d p s q Q  (mm_u I 65 51 (I 74 (((Int32.ofInt 4)).toNatClampNeg))) J))))) : w_X11_ring_110 SL xs d p s q Q  I J := by
  unfold w_X11_ring_110
  refine sp_aload_n 111 rfl rfl rfl ?_
  refine sp_aload_n 112 rfl rfl rfl ?_
  refine hq_getR 115 rfl rfl rfl rfl ?_
  refine sp_iconst 116 rfl rfl ?_
  have n10_ := k.1
  have k := k.2
  refine hq_zald 117 rfl rfl n10_ rfl ?_
  refine sp_if_eq 120 rfl rfl (fun q_ => ?_) (fun q_ => ?_)
  · have k := k.1 q_
    refine sp_iconst 130 rfl rfl ?_
    refine hq_putI 133 rfl rfl rfl ?_
    exact k
  · have k := k.2 q_
    refine sp_aload_n 121 rfl rfl rfl ?_
    refine hq_getR 124 rfl rfl rfl rfl ?_
    refine sp_iconst 125 rfl rfl ?_
    have n11_ := k.1
    have k := k.2
    refine hq_iald 126 rfl rfl n11_ rfl ?_
    refine sp_goto rfl ?_
    refine hq_putI 133 rfl rfl rfl ?_
    exact k
theorem sg_X11_ring_133 {SL : Nat} {xs : Nat → Int32} {d : Nat} {p s q : Nat} {Q : Option Value → mm_H → Prop}  {I : Nat → Nat → Int32} {J : Nat → Nat → Int64}  (k : (vp_in (Int32.ofInt 5) 8 ∧ (((I 85 (((Int32.ofInt 5)).toNatClampNeg)) = Int32.ofInt 0 → w_X11_ring_161 SL xs d p s q Q  (mm_u I 65 52 (Int32.ofInt (-1))) J) ∧ (¬ ((I 85 (((Int32.ofInt 5)).toNatClampNeg)) = Int32.ofInt 0) → (vp_in (Int32.ofInt 5) 6 ∧ (¬ (I 65 47) = 0 ∧ w_X11_ring_161 SL xs d p s q Q  (mm_u I 65 52 ((I 74 (((Int32.ofInt 5)).toNatClampNeg)) - (I 74 (((Int32.ofInt 5)).toNatClampNeg)) / (I 65 47) * (I 65 47))) J)))))) : w_X11_ring_133 SL xs d p s q Q  I J := by
  unfold w_X11_ring_133
  refine sp_aload_n 134 rfl rfl rfl ?_
  refine sp_aload_n 135 rfl rfl rfl ?_
  refine hq_getR 138 rfl rfl rfl rfl ?_
  refine sp_iconst 139 rfl rfl ?_
  have n12_ := k.1
  have k := k.2
  refine hq_zald 140 rfl rfl n12_ rfl ?_
  refine sp_if_eq 143 rfl rfl (fun q_ => ?_) (fun q_ => ?_)
  · have k := k.1 q_
    refine sp_iconst 158 rfl rfl ?_
    refine hq_putI 161 rfl rfl rfl ?_
    exact k
  · have k := k.2 q_
    refine sp_aload_n 144 rfl rfl rfl ?_
    refine hq_getR 147 rfl rfl rfl rfl ?_
    refine sp_iconst 148 rfl rfl ?_
    have n13_ := k.1
    have k := k.2
    refine hq_iald 149 rfl rfl n13_ rfl ?_
    refine sp_aload_n 150 rfl rfl rfl ?_
    refine hq_getI 153 rfl rfl rfl ?_
    have n14_ := k.1
    have k := k.2
    refine sp_irem 154 rfl n14_ rfl ?_
    refine sp_goto rfl ?_
    refine hq_putI 161 rfl rfl rfl ?_
    exact k
theorem sg_X11_ring_161 {SL : Nat} {xs : Nat → Int32} {d : Nat} {p s q : Nat} {Q : Option Value → mm_H → Prop}  {I : Nat → Nat → Int32} {J : Nat → Nat → Int64}  (k : (vp_in (Int32.ofInt 6) 8 ∧ (((I 85 (((Int32.ofInt 6)).toNatClampNeg)) = 0 ∨ (I 85 (((Int32.ofInt 6)).toNatClampNeg)) = 1) ∧ w_X11_ring_182 SL xs d p s q Q (Int32.ofInt 0) (mm_u (mm_u I 65 53 (I 85 (((Int32.ofInt 6)).toNatClampNeg))) 65 20 (I 65 18)) J))) : w_X11_ring_161 SL xs d p s q Q  I J := by
  unfold w_X11_ring_161
  refine sp_aload_n 162 rfl rfl rfl ?_
  refine sp_aload_n 163 rfl rfl rfl ?_
  refine hq_getR 166 rfl rfl rfl rfl ?_
  refine sp_bipush 168 rfl rfl ?_
  refine sp_I (y := Int32.ofInt 6) rfl ?_
  have n15_ := k.1
  have k := k.2
  refine hq_zald 169 rfl rfl n15_ rfl ?_
  refine hq_putZ 172 rfl rfl k.1 rfl ?_
  have k := k.2
  refine sp_aload_n 173 rfl rfl rfl ?_
  refine sp_aload_n 174 rfl rfl rfl ?_
  refine hq_getI 177 rfl rfl rfl ?_
  refine sp_I (y := (I 65 18)) (by simp [mm_u]) ?_
  refine hq_putI 180 rfl rfl rfl ?_
  refine sp_iconst 181 rfl rfl ?_
  refine hs_istore_n 182 (L2 := [some (.ref 65), some (.int (Int32.ofInt 0))]) rfl rfl rfl rfl ?_
  exact k
theorem sg_X11_ring_182 {SL : Nat} {xs : Nat → Int32} {d : Nat} {p s q : Nat} {Q : Option Value → mm_H → Prop} {v1 : Int32} {I : Nat → Nat → Int32} {J : Nat → Nat → Int64}  (k : (((I 65 20) ≤ v1 → w_X11_ring_270 SL xs d p s q Q (Int32.ofInt 0) (mm_u (mm_u (mm_u (mm_u (mm_u (mm_u I 65 42 (I 65 37)) 65 43 (I 65 38)) 65 44 (I 65 39)) 65 45 (I 65 40)) 65 46 (I 65 41)) 65 21 (I 65 19)) J) ∧ (¬ ((I 65 20) ≤ v1) → (vp_in v1 500 ∧ w_X11_ring_182 SL xs d p s q Q (v1 + Int32.ofInt 1) (mm_u (mm_u I 69 ((v1).toNatClampNeg) (I 67 ((v1).toNatClampNeg))) 70 ((v1).toNatClampNeg) (I 68 ((v1).toNatClampNeg))) J)))) : w_X11_ring_182 SL xs d p s q Q v1 I J := by
  unfold w_X11_ring_182
  refine sp_iload_n 183 rfl rfl rfl ?_
  refine sp_aload_n 184 rfl rfl rfl ?_
  refine hq_getI 187 rfl rfl rfl ?_
  refine sp_ic_ge 190 rfl rfl (fun q_ => ?_) (fun q_ => ?_)
  · have k := k.1 q_
    refine sp_aload_n 221 rfl rfl rfl ?_
    refine sp_aload_n 222 rfl rfl rfl ?_
    refine hq_getI 225 rfl rfl rfl ?_
    refine hq_putI 228 rfl rfl rfl ?_
    refine sp_aload_n 229 rfl rfl rfl ?_
    refine sp_aload_n 230 rfl rfl rfl ?_
    refine hq_getI 233 rfl rfl rfl ?_
    refine sp_I (y := (I 65 38)) (by simp [mm_u]) ?_
    refine hq_putI 236 rfl rfl rfl ?_
    refine sp_aload_n 237 rfl rfl rfl ?_
    refine sp_aload_n 238 rfl rfl rfl ?_
    refine hq_getI 241 rfl rfl rfl ?_
    refine sp_I (y := (I 65 39)) (by simp [mm_u]) ?_
    refine hq_putI 244 rfl rfl rfl ?_
    refine sp_aload_n 245 rfl rfl rfl ?_
    refine sp_aload_n 246 rfl rfl rfl ?_
    refine hq_getI 249 rfl rfl rfl ?_
    refine sp_I (y := (I 65 40)) (by simp [mm_u]) ?_
    refine hq_putI 252 rfl rfl rfl ?_
    refine sp_aload_n 253 rfl rfl rfl ?_
    refine sp_aload_n 254 rfl rfl rfl ?_
    refine hq_getI 257 rfl rfl rfl ?_
    refine sp_I (y := (I 65 41)) (by simp [mm_u]) ?_
    refine hq_putI 260 rfl rfl rfl ?_
    refine sp_aload_n 261 rfl rfl rfl ?_
    refine sp_aload_n 262 rfl rfl rfl ?_
    refine hq_getI 265 rfl rfl rfl ?_
    refine sp_I (y := (I 65 19)) (by simp [mm_u]) ?_
    refine hq_putI 268 rfl rfl rfl ?_
    refine sp_iconst 269 rfl rfl ?_
    refine hs_istore_n 270 (L2 := [some (.ref 65), some (.int (Int32.ofInt 0))]) rfl rfl rfl rfl ?_
    exact k
  · have k := k.2 q_
    refine sp_aload_n 191 rfl rfl rfl ?_
    refine hq_getR 194 rfl rfl rfl rfl ?_
    refine sp_iload_n 195 rfl rfl rfl ?_
    refine sp_aload_n 196 rfl rfl rfl ?_
    refine hq_getR 199 rfl rfl rfl rfl ?_
    refine sp_iload_n 200 rfl rfl rfl ?_
    have n16_ := k.1
    have k := k.2
    refine hq_iald 201 rfl rfl n16_ rfl ?_
    refine hq_iast 202 rfl rfl n16_ rfl ?_
    refine sp_aload_n 203 rfl rfl rfl ?_
    refine hq_getR 206 rfl rfl rfl rfl ?_
    refine sp_iload_n 207 rfl rfl rfl ?_
    refine sp_aload_n 208 rfl rfl rfl ?_
    refine hq_getR 211 rfl rfl rfl rfl ?_
    refine sp_iload_n 212 rfl rfl rfl ?_
    refine hq_iald 213 rfl rfl n16_ rfl ?_
    refine sp_I (y := (I 68 ((v1).toNatClampNeg))) (by simp [mm_u]) ?_
    refine hq_iast 214 rfl rfl n16_ rfl ?_
    refine hs_iinc 217 (L2 := [some (.ref 65), some (.int (v1 + Int32.ofInt 1))]) rfl rfl rfl rfl rfl ?_
    refine sp_goto rfl ?_
    exact k
theorem sg_X11_ring_270 {SL : Nat} {xs : Nat → Int32} {d : Nat} {p s q : Nat} {Q : Option Value → mm_H → Prop} {v1 : Int32} {I : Nat → Nat → Int32} {J : Nat → Nat → Int64}  (k : (((I 65 42) ≤ v1 → w_X11_ring_310 SL xs d p s q Q (Int32.ofInt 0) I J) ∧ (¬ ((I 65 42) ≤ v1) → (vp_in v1 8 ∧ w_X11_ring_270 SL xs d p s q Q (v1 + Int32.ofInt 1) (mm_u (mm_u I 80 ((v1).toNatClampNeg) (I 75 ((v1).toNatClampNeg))) 81 ((v1).toNatClampNeg) (I 76 ((v1).toNatClampNeg))) J)))) : w_X11_ring_270 SL xs d p s q Q v1 I J := by
  unfold w_X11_ring_270
  refine sp_iload_n 271 rfl rfl rfl ?_
  refine sp_aload_n 272 rfl rfl rfl ?_
  refine hq_getI 275 rfl rfl rfl ?_
  refine sp_ic_ge 278 rfl rfl (fun q_ => ?_) (fun q_ => ?_)
  · have k := k.1 q_
    refine sp_iconst 309 rfl rfl ?_
    refine hs_istore_n 310 (L2 := [some (.ref 65), some (.int (Int32.ofInt 0))]) rfl rfl rfl rfl ?_
    exact k
  · have k := k.2 q_
    refine sp_aload_n 279 rfl rfl rfl ?_
    refine hq_getR 282 rfl rfl rfl rfl ?_
    refine sp_iload_n 283 rfl rfl rfl ?_
    refine sp_aload_n 284 rfl rfl rfl ?_
    refine hq_getR 287 rfl rfl rfl rfl ?_
    refine sp_iload_n 288 rfl rfl rfl ?_
    have n17_ := k.1
    have k := k.2
    refine hq_iald 289 rfl rfl n17_ rfl ?_
    refine hq_iast 290 rfl rfl n17_ rfl ?_
    refine sp_aload_n 291 rfl rfl rfl ?_
    refine hq_getR 294 rfl rfl rfl rfl ?_
    refine sp_iload_n 295 rfl rfl rfl ?_
    refine sp_aload_n 296 rfl rfl rfl ?_
    refine hq_getR 299 rfl rfl rfl rfl ?_
    refine sp_iload_n 300 rfl rfl rfl ?_
    refine hq_iald 301 rfl rfl n17_ rfl ?_
    refine sp_I (y := (I 76 ((v1).toNatClampNeg))) (by simp [mm_u]) ?_
    refine hq_iast 302 rfl rfl n17_ rfl ?_
    refine hs_iinc 305 (L2 := [some (.ref 65), some (.int (v1 + Int32.ofInt 1))]) rfl rfl rfl rfl rfl ?_
    refine sp_goto rfl ?_
    exact k
theorem sg_X11_ring_310 {SL : Nat} {xs : Nat → Int32} {d : Nat} {p s q : Nat} {Q : Option Value → mm_H → Prop} {v1 : Int32} {I : Nat → Nat → Int32} {J : Nat → Nat → Int64}  (k : (((I 65 43) ≤ v1 → w_X11_ring_338 SL xs d p s q Q (Int32.ofInt 0) I J) ∧ (¬ ((I 65 43) ≤ v1) → (vp_in v1 9 ∧ w_X11_ring_310 SL xs d p s q Q (v1 + Int32.ofInt 1) (mm_u I 82 ((v1).toNatClampNeg) (I 77 ((v1).toNatClampNeg))) J)))) : w_X11_ring_310 SL xs d p s q Q v1 I J := by
  unfold w_X11_ring_310
  refine sp_iload_n 311 rfl rfl rfl ?_
  refine sp_aload_n 312 rfl rfl rfl ?_
  refine hq_getI 315 rfl rfl rfl ?_
  refine sp_ic_ge 318 rfl rfl (fun q_ => ?_) (fun q_ => ?_)
  · have k := k.1 q_
    refine sp_iconst 337 rfl rfl ?_
    refine hs_istore_n 338 (L2 := [some (.ref 65), some (.int (Int32.ofInt 0))]) rfl rfl rfl rfl ?_
    exact k
  · have k := k.2 q_
    refine sp_aload_n 319 rfl rfl rfl ?_
    refine hq_getR 322 rfl rfl rfl rfl ?_
    refine sp_iload_n 323 rfl rfl rfl ?_
    refine sp_aload_n 324 rfl rfl rfl ?_
    refine hq_getR 327 rfl rfl rfl rfl ?_
    refine sp_iload_n 328 rfl rfl rfl ?_
    have n18_ := k.1
    have k := k.2
    refine hq_iald 329 rfl rfl n18_ rfl ?_
    refine hq_iast 330 rfl rfl n18_ rfl ?_
    refine hs_iinc 333 (L2 := [some (.ref 65), some (.int (v1 + Int32.ofInt 1))]) rfl rfl rfl rfl rfl ?_
    refine sp_goto rfl ?_
    exact k
theorem sg_X11_ring_338 {SL : Nat} {xs : Nat → Int32} {d : Nat} {p s q : Nat} {Q : Option Value → mm_H → Prop} {v1 : Int32} {I : Nat → Nat → Int32} {J : Nat → Nat → Int64}  (k : (((I 65 44) ≤ v1 → (mm_s SL xs (d + 8) 202 [.ref 65, .int (I 65 48)] (hp p s q I J) (fun r_ h_ => ∃ I1 J1, r_ = none ∧ h_ = hp p s q I1 J1 ∧ w_X11_ring_396 SL xs d p s q Q (Int32.ofInt 0) (mm_u (mm_u I1 65 88 (Int32.ofInt 0)) 65 80 (Int32.ofInt 0)) J1))) ∧ (¬ ((I 65 44) ≤ v1) → (vp_in v1 12 ∧ w_X11_ring_338 SL xs d p s q Q (v1 + Int32.ofInt 1) (mm_u (mm_u I 83 ((v1).toNatClampNeg) (I 78 ((v1).toNatClampNeg))) 84 ((v1).toNatClampNeg) (I 79 ((v1).toNatClampNeg))) J)))) : w_X11_ring_338 SL xs d p s q Q v1 I J := by
  unfold w_X11_ring_338
  refine sp_iload_n 339 rfl rfl rfl ?_
  refine sp_aload_n 340 rfl rfl rfl ?_
  refine hq_getI 343 rfl rfl rfl ?_
  refine sp_ic_ge 346 rfl rfl (fun q_ => ?_) (fun q_ => ?_)
  · have k := k.1 q_
    refine sp_aload_n 377 rfl rfl rfl ?_
    refine sp_aload_n 378 rfl rfl rfl ?_
    refine hq_getI 381 rfl rfl rfl ?_
    refine sc_V 384 rfl rfl rfl rfl rfl (Nat.le_refl _) (Nat.le_refl _) rfl ?_
    refine mm_s_mono _ _ _ _ _ _ ?_ k
    rintro r_ h_ ⟨I1, J1, rfl, rfl, k⟩
    refine hs_S (st2 := []) rfl ?_
    refine sp_aload_n 385 rfl rfl rfl ?_
    refine sp_iconst 386 rfl rfl ?_
    refine hq_putI 389 rfl rfl rfl ?_
    refine sp_aload_n 390 rfl rfl rfl ?_
    refine sp_iconst 391 rfl rfl ?_
    refine hq_putI 394 rfl rfl rfl ?_
    refine sp_iconst 395 rfl rfl ?_
    refine hs_istore_n 396 (L2 := [some (.ref 65), some (.int (Int32.ofInt 0))]) rfl rfl rfl rfl ?_
    exact k
  · have k := k.2 q_
    refine sp_aload_n 347 rfl rfl rfl ?_
    refine hq_getR 350 rfl rfl rfl rfl ?_
    refine sp_iload_n 351 rfl rfl rfl ?_
    refine sp_aload_n 352 rfl rfl rfl ?_
    refine hq_getR 355 rfl rfl rfl rfl ?_
    refine sp_iload_n 356 rfl rfl rfl ?_
    have n19_ := k.1
    have k := k.2
    refine hq_iald 357 rfl rfl n19_ rfl ?_
    refine hq_iast 358 rfl rfl n19_ rfl ?_
    refine sp_aload_n 359 rfl rfl rfl ?_
    refine hq_getR 362 rfl rfl rfl rfl ?_
    refine sp_iload_n 363 rfl rfl rfl ?_
    refine sp_aload_n 364 rfl rfl rfl ?_
    refine hq_getR 367 rfl rfl rfl rfl ?_
    refine sp_iload_n 368 rfl rfl rfl ?_
    refine hq_iald 369 rfl rfl n19_ rfl ?_
    refine sp_I (y := (I 79 ((v1).toNatClampNeg))) (by simp [mm_u]) ?_
    refine hq_iast 370 rfl rfl n19_ rfl ?_
    refine hs_iinc 373 (L2 := [some (.ref 65), some (.int (v1 + Int32.ofInt 1))]) rfl rfl rfl rfl rfl ?_
    refine sp_goto rfl ?_
    exact k
theorem sg_X11_ring_396 {SL : Nat} {xs : Nat → Int32} {d : Nat} {p s q : Nat} {Q : Option Value → mm_H → Prop} {v1 : Int32} {I : Nat → Nat → Int32} {J : Nat → Nat → Int64}  (k : (((Int32.ofInt 3) ≤ v1 → Q (some (.int (I 65 47))) (hp p s q I J)) ∧ (¬ ((Int32.ofInt 3) ≤ v1) → (vp_in v1 3 ∧ w_X11_ring_396 SL xs d p s q Q (v1 + Int32.ofInt 1) (mm_u I 107 ((v1).toNatClampNeg) (Int32.ofInt 0)) J)))) : w_X11_ring_396 SL xs d p s q Q v1 I J := by
  unfold w_X11_ring_396
  refine sp_iload_n 397 rfl rfl rfl ?_
  refine sp_iconst 398 rfl rfl ?_
  refine sp_ic_ge 401 rfl rfl (fun q_ => ?_) (fun q_ => ?_)
  · have k := k.1 q_
    refine sp_aload_n 415 rfl rfl rfl ?_
    refine hq_getI 418 rfl rfl rfl ?_
    exact st_iret rfl rfl (Nat.le_refl _) (Nat.le_refl _) k
  · have k := k.2 q_
    refine sp_aload_n 402 rfl rfl rfl ?_
    refine hq_getR 405 rfl rfl rfl rfl ?_
    refine sp_iload_n 406 rfl rfl rfl ?_
    refine sp_iconst 407 rfl rfl ?_
    have n20_ := k.1
    have k := k.2
    refine hq_zast 408 rfl rfl n20_ (by decide) rfl ?_
    refine hs_iinc 411 (L2 := [some (.ref 65), some (.int (v1 + Int32.ofInt 1))]) rfl rfl rfl rfl rfl ?_
    refine sp_goto rfl ?_
    exact k
