def tf_74 (v0 v1 : Int32) : Int32 := v1 + ((v0).toUInt32 >>> ((Int32.ofInt 1).toUInt32 &&& Int32.toUInt32 31)).toInt32
def tf_62 (v0 v1 : Int32) : Int32 := if v0 ≤ Int32.ofInt 4 then tf_74 v0 v1 else tf_74 (((v0).toUInt32 >>> ((Int32.ofInt 2).toUInt32 &&& Int32.toUInt32 31)).toInt32) (v1 + Int32.ofInt 2)
def tf_49 (v0 v1 : Int32) : Int32 := if v0 ≤ Int32.ofInt 16 then tf_62 v0 v1 else tf_62 (((v0).toUInt32 >>> ((Int32.ofInt 4).toUInt32 &&& Int32.toUInt32 31)).toInt32) (v1 + Int32.ofInt 4)
def tf_34 (v0 v1 : Int32) : Int32 := if v0 ≤ Int32.ofInt 256 then tf_49 v0 v1 else tf_49 (((v0).toUInt32 >>> ((Int32.ofInt 8).toUInt32 &&& Int32.toUInt32 31)).toInt32) (v1 + Int32.ofInt 8)
def tf_17 (v0 : Int32) : Int32 := if v0 ≤ Int32.ofInt 65536 then tf_34 v0 (Int32.ofInt 1) else tf_34 (((v0).toUInt32 >>> ((Int32.ofInt 16).toUInt32 &&& Int32.toUInt32 31)).toInt32) (Int32.ofInt 1 + Int32.ofInt 16)
def tz32 (a0 : Int32) : Int32 := if Int32.ofInt 0 < ((a0 ^^^ (Int32.ofInt (-1))) &&& (a0 - (Int32.ofInt 1))) then tf_17 ((a0 ^^^ (Int32.ofInt (-1))) &&& (a0 - (Int32.ofInt 1))) else (((a0 ^^^ (Int32.ofInt (-1))) &&& (a0 - (Int32.ofInt 1))) &&& (Int32.ofInt 32))
/-- Long.numberOfTrailingZeros, as its code says -/
def tz64 (a0 : Int64) : Int32 := if ((a0).toInt32) = Int32.ofInt 0 then (Int32.ofInt 32) + (tz32 ((((a0).toUInt64 >>> ((Int32.ofInt 32).toInt64.toUInt64 &&& Int64.toUInt64 63)).toInt64).toInt32)) else tz32 ((a0).toInt32)
def w_J6_numberOfTrailingZeros_0f7a4_17 (SL : Nat) (xs : Nat → Int32) (d : Nat) (p s q : Nat) (Q : Option Value → mm_H → Prop) (v0 : Int32) (I : Nat → Nat → Int32) (J : Nat → Nat → Int64) : Prop := mm_w SL xs (mm_s SL xs (d + 0)) mm_am kJ6_numberOfTrailingZeros_0f7a4 0 0 (some .int) Q 17 [some (.int v0), none] [] (hp p s q I J) 0 0
def w_J6_numberOfTrailingZeros_0f7a4_34 (SL : Nat) (xs : Nat → Int32) (d : Nat) (p s q : Nat) (Q : Option Value → mm_H → Prop) (v0 : Int32) (v1 : Int32) (I : Nat → Nat → Int32) (J : Nat → Nat → Int64) : Prop := mm_w SL xs (mm_s SL xs (d + 0)) mm_am kJ6_numberOfTrailingZeros_0f7a4 0 0 (some .int) Q 34 [some (.int v0), some (.int v1)] [] (hp p s q I J) 0 0
def w_J6_numberOfTrailingZeros_0f7a4_49 (SL : Nat) (xs : Nat → Int32) (d : Nat) (p s q : Nat) (Q : Option Value → mm_H → Prop) (v0 : Int32) (v1 : Int32) (I : Nat → Nat → Int32) (J : Nat → Nat → Int64) : Prop := mm_w SL xs (mm_s SL xs (d + 0)) mm_am kJ6_numberOfTrailingZeros_0f7a4 0 0 (some .int) Q 49 [some (.int v0), some (.int v1)] [] (hp p s q I J) 0 0
def w_J6_numberOfTrailingZeros_0f7a4_62 (SL : Nat) (xs : Nat → Int32) (d : Nat) (p s q : Nat) (Q : Option Value → mm_H → Prop) (v0 : Int32) (v1 : Int32) (I : Nat → Nat → Int32) (J : Nat → Nat → Int64) : Prop := mm_w SL xs (mm_s SL xs (d + 0)) mm_am kJ6_numberOfTrailingZeros_0f7a4 0 0 (some .int) Q 62 [some (.int v0), some (.int v1)] [] (hp p s q I J) 0 0
def w_J6_numberOfTrailingZeros_0f7a4_74 (SL : Nat) (xs : Nat → Int32) (d : Nat) (p s q : Nat) (Q : Option Value → mm_H → Prop) (v0 : Int32) (v1 : Int32) (I : Nat → Nat → Int32) (J : Nat → Nat → Int64) : Prop := mm_w SL xs (mm_s SL xs (d + 0)) mm_am kJ6_numberOfTrailingZeros_0f7a4 0 0 (some .int) Q 74 [some (.int v0), some (.int v1)] [] (hp p s q I J) 0 0
theorem sg_J6_numberOfTrailingZeros_0f7a4 {SL : Nat} {xs : Nat → Int32} {d : Nat} {p s q : Nat} {Q : Option Value → mm_H → Prop} {a0 : Int32} {I : Nat → Nat → Int32} {J : Nat → Nat → Int64}  (k : ((Int32.ofInt 0 < ((a0 ^^^ (Int32.ofInt (-1))) &&& (a0 - (Int32.ofInt 1))) → w_J6_numberOfTrailingZeros_0f7a4_17 SL xs d p s q Q ((a0 ^^^ (Int32.ofInt (-1))) &&& (a0 - (Int32.ofInt 1))) I J) ∧ (¬ (Int32.ofInt 0 < ((a0 ^^^ (Int32.ofInt (-1))) &&& (a0 - (Int32.ofInt 1)))) → Q (some (.int (((a0 ^^^ (Int32.ofInt (-1))) &&& (a0 - (Int32.ofInt 1))) &&& (Int32.ofInt 32)))) (hp p s q I J)))) : mm_s SL xs (d + 1) 274 [.int a0] (hp p s q I J) Q := by
  refine e_J6_numberOfTrailingZeros_0f7a4 rfl ?_
  refine hs_L (L2 := [some (.int a0), none]) rfl ?_
  refine sp_iload_n 1 rfl rfl rfl ?_
  refine sp_iconst 2 rfl rfl ?_
  refine sp_ixor 3 rfl rfl ?_
  refine sp_iload_n 4 rfl rfl rfl ?_
  refine sp_iconst 5 rfl rfl ?_
  refine sp_isub 6 rfl rfl ?_
  refine sp_iand 7 rfl rfl ?_
  refine hs_istore_n 8 (L2 := [some (.int ((a0 ^^^ (Int32.ofInt (-1))) &&& (a0 - (Int32.ofInt 1)))), none]) rfl rfl rfl rfl ?_
  refine sp_iload_n 9 rfl rfl rfl ?_
  refine sp_if_gt 12 rfl rfl (fun q => ?_) (fun q => ?_)
  · have k := k.1 q
    exact k
  · have k := k.2 q
    refine sp_iload_n 13 rfl rfl rfl ?_
    refine sp_bipush 15 rfl rfl ?_
    refine sp_I (y := Int32.ofInt 32) rfl ?_
    refine sp_iand 16 rfl rfl ?_
    exact st_iret rfl rfl (Nat.le_refl _) (Nat.le_refl _) k
theorem sg_J6_numberOfTrailingZeros_0f7a4_17 {SL : Nat} {xs : Nat → Int32} {d : Nat} {p s q : Nat} {Q : Option Value → mm_H → Prop} {v0 : Int32} {I : Nat → Nat → Int32} {J : Nat → Nat → Int64}  (k : ((v0 ≤ (Int32.ofInt 65536) → w_J6_numberOfTrailingZeros_0f7a4_34 SL xs d p s q Q v0 (Int32.ofInt 1) I J) ∧ (¬ (v0 ≤ (Int32.ofInt 65536)) → w_J6_numberOfTrailingZeros_0f7a4_34 SL xs d p s q Q (((v0).toUInt32 >>> ((Int32.ofInt 16).toUInt32 &&& Int32.toUInt32 31)).toInt32) ((Int32.ofInt 1) + Int32.ofInt 16) I J))) : w_J6_numberOfTrailingZeros_0f7a4_17 SL xs d p s q Q v0 I J := by
  unfold w_J6_numberOfTrailingZeros_0f7a4_17
  refine sp_iconst 18 rfl rfl ?_
  refine hs_istore_n 19 (L2 := [some (.int v0), some (.int (Int32.ofInt 1))]) rfl rfl rfl rfl ?_
  refine sp_iload_n 20 rfl rfl rfl ?_
  refine sp_ldcw 23 rfl rfl ?_
  refine sp_ic_le 26 rfl rfl (fun q => ?_) (fun q => ?_)
  · have k := k.1 q
    exact k
  · have k := k.2 q
    refine hs_iinc 29 (L2 := [some (.int v0), some (.int ((Int32.ofInt 1) + Int32.ofInt 16))]) rfl rfl rfl rfl rfl ?_
    refine sp_iload_n 30 rfl rfl rfl ?_
    refine sp_bipush 32 rfl rfl ?_
    refine sp_I (y := Int32.ofInt 16) rfl ?_
    refine sp_iushr 33 rfl rfl ?_
    refine hs_istore_n 34 (L2 := [some (.int (((v0).toUInt32 >>> ((Int32.ofInt 16).toUInt32 &&& Int32.toUInt32 31)).toInt32)), some (.int ((Int32.ofInt 1) + Int32.ofInt 16))]) rfl rfl rfl rfl ?_
    exact k
theorem sg_J6_numberOfTrailingZeros_0f7a4_34 {SL : Nat} {xs : Nat → Int32} {d : Nat} {p s q : Nat} {Q : Option Value → mm_H → Prop} {v0 : Int32} {v1 : Int32} {I : Nat → Nat → Int32} {J : Nat → Nat → Int64}  (k : ((v0 ≤ (Int32.ofInt 256) → w_J6_numberOfTrailingZeros_0f7a4_49 SL xs d p s q Q v0 v1 I J) ∧ (¬ (v0 ≤ (Int32.ofInt 256)) → w_J6_numberOfTrailingZeros_0f7a4_49 SL xs d p s q Q (((v0).toUInt32 >>> ((Int32.ofInt 8).toUInt32 &&& Int32.toUInt32 31)).toInt32) (v1 + Int32.ofInt 8) I J))) : w_J6_numberOfTrailingZeros_0f7a4_34 SL xs d p s q Q v0 v1 I J := by
  unfold w_J6_numberOfTrailingZeros_0f7a4_34
  refine sp_iload_n 35 rfl rfl rfl ?_
  refine sp_sipush 38 rfl rfl ?_
  refine sp_I (y := Int32.ofInt 256) rfl ?_
  refine sp_ic_le 41 rfl rfl (fun q => ?_) (fun q => ?_)
  · have k := k.1 q
    exact k
  · have k := k.2 q
    refine hs_iinc 44 (L2 := [some (.int v0), some (.int (v1 + Int32.ofInt 8))]) rfl rfl rfl rfl rfl ?_
    refine sp_iload_n 45 rfl rfl rfl ?_
    refine sp_bipush 47 rfl rfl ?_
    refine sp_I (y := Int32.ofInt 8) rfl ?_
    refine sp_iushr 48 rfl rfl ?_
    refine hs_istore_n 49 (L2 := [some (.int (((v0).toUInt32 >>> ((Int32.ofInt 8).toUInt32 &&& Int32.toUInt32 31)).toInt32)), some (.int (v1 + Int32.ofInt 8))]) rfl rfl rfl rfl ?_
    exact k
theorem sg_J6_numberOfTrailingZeros_0f7a4_49 {SL : Nat} {xs : Nat → Int32} {d : Nat} {p s q : Nat} {Q : Option Value → mm_H → Prop} {v0 : Int32} {v1 : Int32} {I : Nat → Nat → Int32} {J : Nat → Nat → Int64}  (k : ((v0 ≤ (Int32.ofInt 16) → w_J6_numberOfTrailingZeros_0f7a4_62 SL xs d p s q Q v0 v1 I J) ∧ (¬ (v0 ≤ (Int32.ofInt 16)) → w_J6_numberOfTrailingZeros_0f7a4_62 SL xs d p s q Q (((v0).toUInt32 >>> ((Int32.ofInt 4).toUInt32 &&& Int32.toUInt32 31)).toInt32) (v1 + Int32.ofInt 4) I J))) : w_J6_numberOfTrailingZeros_0f7a4_49 SL xs d p s q Q v0 v1 I J := by
  unfold w_J6_numberOfTrailingZeros_0f7a4_49
  refine sp_iload_n 50 rfl rfl rfl ?_
  refine sp_bipush 52 rfl rfl ?_
  refine sp_I (y := Int32.ofInt 16) rfl ?_
  refine sp_ic_le 55 rfl rfl (fun q => ?_) (fun q => ?_)
  · have k := k.1 q
    exact k
  · have k := k.2 q
    refine hs_iinc 58 (L2 := [some (.int v0), some (.int (v1 + Int32.ofInt 4))]) rfl rfl rfl rfl rfl ?_
    refine sp_iload_n 59 rfl rfl rfl ?_
    refine sp_iconst 60 rfl rfl ?_
    refine sp_iushr 61 rfl rfl ?_
    refine hs_istore_n 62 (L2 := [some (.int (((v0).toUInt32 >>> ((Int32.ofInt 4).toUInt32 &&& Int32.toUInt32 31)).toInt32)), some (.int (v1 + Int32.ofInt 4))]) rfl rfl rfl rfl ?_
    exact k
theorem sg_J6_numberOfTrailingZeros_0f7a4_62 {SL : Nat} {xs : Nat → Int32} {d : Nat} {p s q : Nat} {Q : Option Value → mm_H → Prop} {v0 : Int32} {v1 : Int32} {I : Nat → Nat → Int32} {J : Nat → Nat → Int64}  (k : ((v0 ≤ (Int32.ofInt 4) → w_J6_numberOfTrailingZeros_0f7a4_74 SL xs d p s q Q v0 v1 I J) ∧ (¬ (v0 ≤ (Int32.ofInt 4)) → w_J6_numberOfTrailingZeros_0f7a4_74 SL xs d p s q Q (((v0).toUInt32 >>> ((Int32.ofInt 2).toUInt32 &&& Int32.toUInt32 31)).toInt32) (v1 + Int32.ofInt 2) I J))) : w_J6_numberOfTrailingZeros_0f7a4_62 SL xs d p s q Q v0 v1 I J := by
  unfold w_J6_numberOfTrailingZeros_0f7a4_62
  refine sp_iload_n 63 rfl rfl rfl ?_
  refine sp_iconst 64 rfl rfl ?_
  refine sp_ic_le 67 rfl rfl (fun q => ?_) (fun q => ?_)
  · have k := k.1 q
    exact k
  · have k := k.2 q
    refine hs_iinc 70 (L2 := [some (.int v0), some (.int (v1 + Int32.ofInt 2))]) rfl rfl rfl rfl rfl ?_
    refine sp_iload_n 71 rfl rfl rfl ?_
    refine sp_iconst 72 rfl rfl ?_
    refine sp_iushr 73 rfl rfl ?_
    refine hs_istore_n 74 (L2 := [some (.int (((v0).toUInt32 >>> ((Int32.ofInt 2).toUInt32 &&& Int32.toUInt32 31)).toInt32)), some (.int (v1 + Int32.ofInt 2))]) rfl rfl rfl rfl ?_
    exact k
theorem sg_J6_numberOfTrailingZeros_0f7a4_74 {SL : Nat} {xs : Nat → Int32} {d : Nat} {p s q : Nat} {Q : Option Value → mm_H → Prop} {v0 : Int32} {v1 : Int32} {I : Nat → Nat → Int32} {J : Nat → Nat → Int64}  (k : Q (some (.int (v1 + (((v0).toUInt32 >>> ((Int32.ofInt 1).toUInt32 &&& Int32.toUInt32 31)).toInt32)))) (hp p s q I J)) : w_J6_numberOfTrailingZeros_0f7a4_74 SL xs d p s q Q v0 v1 I J := by
  unfold w_J6_numberOfTrailingZeros_0f7a4_74
  refine sp_iload_n 75 rfl rfl rfl ?_
  refine sp_iload_n 76 rfl rfl rfl ?_
  refine sp_iconst 77 rfl rfl ?_
  refine sp_iushr 78 rfl rfl ?_
  refine sp_iadd 79 rfl rfl ?_
  exact st_iret rfl rfl (Nat.le_refl _) (Nat.le_refl _) k
theorem cf_74 {SL : Nat} {xs : Nat → Int32} {d : Nat} {p s q : Nat} {Q : Option Value → mm_H → Prop} {I : Nat → Nat → Int32} {J : Nat → Nat → Int64} {v0 v1 : Int32} (k : Q (some (.int (tf_74 v0 v1))) (hp p s q I J)) : w_J6_numberOfTrailingZeros_0f7a4_74 SL xs d p s q Q v0 v1 I J := sg_J6_numberOfTrailingZeros_0f7a4_74 k
theorem cf_62 {SL : Nat} {xs : Nat → Int32} {d : Nat} {p s q : Nat} {Q : Option Value → mm_H → Prop} {I : Nat → Nat → Int32} {J : Nat → Nat → Int64} {v0 v1 : Int32} (k : Q (some (.int (tf_62 v0 v1))) (hp p s q I J)) : w_J6_numberOfTrailingZeros_0f7a4_62 SL xs d p s q Q v0 v1 I J := by
  unfold tf_62 at k
  refine sg_J6_numberOfTrailingZeros_0f7a4_62 ⟨fun q => ?_, fun q => ?_⟩
  · rw [if_pos q] at k; exact cf_74 k
  · rw [if_neg q] at k; exact cf_74 k
theorem cf_49 {SL : Nat} {xs : Nat → Int32} {d : Nat} {p s q : Nat} {Q : Option Value → mm_H → Prop} {I : Nat → Nat → Int32} {J : Nat → Nat → Int64} {v0 v1 : Int32} (k : Q (some (.int (tf_49 v0 v1))) (hp p s q I J)) : w_J6_numberOfTrailingZeros_0f7a4_49 SL xs d p s q Q v0 v1 I J := by
  unfold tf_49 at k
  refine sg_J6_numberOfTrailingZeros_0f7a4_49 ⟨fun q => ?_, fun q => ?_⟩
  · rw [if_pos q] at k; exact cf_62 k
  · rw [if_neg q] at k; exact cf_62 k
theorem cf_34 {SL : Nat} {xs : Nat → Int32} {d : Nat} {p s q : Nat} {Q : Option Value → mm_H → Prop} {I : Nat → Nat → Int32} {J : Nat → Nat → Int64} {v0 v1 : Int32} (k : Q (some (.int (tf_34 v0 v1))) (hp p s q I J)) : w_J6_numberOfTrailingZeros_0f7a4_34 SL xs d p s q Q v0 v1 I J := by
  unfold tf_34 at k
  refine sg_J6_numberOfTrailingZeros_0f7a4_34 ⟨fun q => ?_, fun q => ?_⟩
  · rw [if_pos q] at k; exact cf_49 k
  · rw [if_neg q] at k; exact cf_49 k
theorem cf_17 {SL : Nat} {xs : Nat → Int32} {d : Nat} {p s q : Nat} {Q : Option Value → mm_H → Prop} {I : Nat → Nat → Int32} {J : Nat → Nat → Int64} {v0 : Int32} (k : Q (some (.int (tf_17 v0))) (hp p s q I J)) : w_J6_numberOfTrailingZeros_0f7a4_17 SL xs d p s q Q v0 I J := by
  unfold tf_17 at k
  refine sg_J6_numberOfTrailingZeros_0f7a4_17 ⟨fun q => ?_, fun q => ?_⟩
  · rw [if_pos q] at k; exact cf_34 k
  · rw [if_neg q] at k; exact cf_34 k
theorem cz_tz32 {SL : Nat} {xs : Nat → Int32} {d : Nat} {p s q : Nat} {Q : Option Value → mm_H → Prop} {I : Nat → Nat → Int32} {J : Nat → Nat → Int64} {a0 : Int32} (k : Q (some (.int (tz32 a0))) (hp p s q I J)) : mm_s SL xs (d + 1) 274 [.int a0] (hp p s q I J) Q := by
  unfold tz32 at k
  refine sg_J6_numberOfTrailingZeros_0f7a4 ⟨fun q => ?_, fun q => ?_⟩
  · rw [if_pos q] at k; exact cf_17 k
  · rw [if_neg q] at k; exact k
theorem sg_J13_numberOfTrailingZeros_95d88 {SL : Nat} {xs : Nat → Int32} {d : Nat} {p s q : Nat} {Q : Option Value → mm_H → Prop} {a0 : Int64} {I : Nat → Nat → Int32} {J : Nat → Nat → Int64}  (k : ((((a0).toInt32) = Int32.ofInt 0 → Q (some (.int ((Int32.ofInt 32) + (tz32 ((((a0).toUInt64 >>> ((Int32.ofInt 32).toInt64.toUInt64 &&& Int64.toUInt64 63)).toInt64).toInt32))))) (hp p s q I J)) ∧ (¬ (((a0).toInt32) = Int32.ofInt 0) → Q (some (.int (tz32 ((a0).toInt32)))) (hp p s q I J)))) : mm_s SL xs (d + 2) 275 [.long a0] (hp p s q I J) Q := by
  refine e_J13_numberOfTrailingZeros_95d88 rfl ?_
  refine hs_L (L2 := [some (.long a0), none, none]) rfl ?_
  refine sp_lload_n 1 rfl rfl rfl ?_
  refine sp_l2i 2 rfl rfl ?_
  refine hs_istore_n 3 (L2 := [some (.long a0), none, some (.int ((a0).toInt32))]) rfl rfl rfl rfl ?_
  refine sp_iload_n 4 rfl rfl rfl ?_
  refine sp_if_ne 7 rfl rfl (fun q => ?_) (fun q => ?_)
  · have k := k.2 q
    refine sp_iload_n 22 rfl rfl rfl ?_
    refine sc_S 25 rfl rfl rfl rfl (Nat.le_refl _) (Nat.le_refl _) rfl ?_
    refine cz_tz32 ?_
    exact st_iret rfl rfl (Nat.le_refl _) (Nat.le_refl _) k
  · have k := k.1 q
    refine sp_bipush 9 rfl rfl ?_
    refine sp_I (y := Int32.ofInt 32) rfl ?_
    refine sp_lload_n 10 rfl rfl rfl ?_
    refine sp_bipush 12 rfl rfl ?_
    refine sp_I (y := Int32.ofInt 32) rfl ?_
    refine sp_lushr 13 rfl rfl ?_
    refine sp_l2i 14 rfl rfl ?_
    refine sc_S 17 rfl rfl rfl rfl (Nat.le_refl _) (Nat.le_refl _) rfl ?_
    refine cz_tz32 ?_
    refine sp_iadd 18 rfl rfl ?_
    refine sp_goto rfl ?_
    exact st_iret rfl rfl (Nat.le_refl _) (Nat.le_refl _) k
theorem cz_tz64 {SL : Nat} {xs : Nat → Int32} {d : Nat} {p s q : Nat} {Q : Option Value → mm_H → Prop} {I : Nat → Nat → Int32} {J : Nat → Nat → Int64} {a0 : Int64} (k : Q (some (.int (tz64 a0))) (hp p s q I J)) : mm_s SL xs (d + 2) 275 [.long a0] (hp p s q I J) Q := by
  unfold tz64 at k
  refine sg_J13_numberOfTrailingZeros_95d88 ⟨fun q => ?_, fun q => ?_⟩
  · rw [if_pos q] at k; exact k
  · rw [if_neg q] at k; exact k
