def po_all (n : Int32) : Int64 := if n < 1 then 0 else if 60 < n then -1 else (1 <<< (n.toInt64 &&& 63)) - 1
theorem c_X6_all {SL : Nat} {xs : Nat → Int32} {d : Nat} {h : mm_H} {Q : Option Value → mm_H → Prop} {n : Int32} (k : Q (some (.long (po_all n))) h) : mm_s SL xs (d + 1) 64 [.int n] h Q := by
  refine e_X6_all rfl ?_
  refine sp_iload_n 1 rfl rfl rfl ?_
  refine sp_iconst 2 rfl rfl ?_
  refine sp_ic_ge 5 rfl rfl (fun q2 => ?_) (fun q2 => ?_)
  · skip
    refine sp_iload_n 10 rfl rfl rfl ?_
    refine sp_bipush 12 rfl rfl ?_
    refine sp_ic_le 15 rfl rfl (fun q12 => ?_) (fun q12 => ?_)
    · skip
      refine sp_lconst 22 rfl rfl ?_
      refine sp_iload_n 23 rfl rfl rfl ?_
      refine sp_lshl 24 rfl rfl ?_
      refine sp_lconst 25 rfl rfl ?_
      refine sp_lsub 26 rfl rfl ?_
      refine st_lret rfl rfl (Nat.le_refl _) (Nat.le_refl _) ?_
      rw [po_all] at k
      first
        | (have e : n < 1 := by rw [← Int32.not_le]; assumption
           rw [if_pos e] at k; exact k)
        | (have e : ¬ n < 1 := by rw [Int32.not_lt]; assumption
           rw [if_neg e] at k
           first
             | (have f : 60 < n := by rw [← Int32.not_le]; assumption
                rw [if_pos f] at k; exact k)
             | (have f : ¬ 60 < n := by rw [Int32.not_lt]; assumption
                rw [if_neg f] at k; exact k))
    · skip
      refine sp_ldc2 18 rfl rfl ?_
      refine sp_goto rfl ?_
      refine st_lret rfl rfl (Nat.le_refl _) (Nat.le_refl _) ?_
      rw [po_all] at k
      first
        | (have e : n < 1 := by rw [← Int32.not_le]; assumption
           rw [if_pos e] at k; exact k)
        | (have e : ¬ n < 1 := by rw [Int32.not_lt]; assumption
           rw [if_neg e] at k
           first
             | (have f : 60 < n := by rw [← Int32.not_le]; assumption
                rw [if_pos f] at k; exact k)
             | (have f : ¬ 60 < n := by rw [Int32.not_lt]; assumption
                rw [if_neg f] at k; exact k))
  · skip
    refine sp_lconst 6 rfl rfl ?_
    refine sp_goto rfl ?_
    refine st_lret rfl rfl (Nat.le_refl _) (Nat.le_refl _) ?_
    rw [po_all] at k
    first
      | (have e : n < 1 := by rw [← Int32.not_le]; assumption
         rw [if_pos e] at k; exact k)
      | (have e : ¬ n < 1 := by rw [Int32.not_lt]; assumption
         rw [if_neg e] at k
         first
           | (have f : 60 < n := by rw [← Int32.not_le]; assumption
              rw [if_pos f] at k; exact k)
           | (have f : ¬ 60 < n := by rw [Int32.not_lt]; assumption
              rw [if_neg f] at k; exact k))
