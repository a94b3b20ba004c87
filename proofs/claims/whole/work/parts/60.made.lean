/-! the class's own words, and the rest of its making -/
def wst : Nat → Nat × Int64
  | 0 => (0, 0)
  | j + 1 => if mm_str.getD j 0 = 32 then ((wst j).1 + 1, 0) else ((wst j).1, sx_X9_withLetter (wst j).2 (nI (mm_str.getD j 0)))
def wtb : Nat → Nat → Int64
  | 0 => fun _ => 0
  | j + 1 => if mm_str.getD j 0 = 32 then (fun i => if i = (wst j).1 then (wst j).2 else wtb j i) else wtb j
def wgo : List Nat → Nat → Int64 → List Int64 → List Int64 × Bool
  | [], c, _, l => (l, Nat.beq c 22)
  | x :: r, c, v, l => if Nat.blt c 22 then (if x = 32 then wgo r (c + 1) 0 (l ++ [v]) else wgo r c (sx_X9_withLetter v (nI x)) l) else (l, false)
theorem str_l : mm_str.length = 118 := by decide +kernel
theorem str_i : Int32.ofNat mm_str.length = Int32.ofInt ((118 : Nat) : Int) := by rw [str_l]; rfl
theorem wst_lt : ∀ j : Fin 118, (wst j.val).1 < 22 := by decide +kernel
theorem wtb_own : ∀ i : Fin 22, wtb 118 i.val = Int64.ofInt (ownL.getD i.val 0) := by decide +kernel
theorem nI_p1 {j : Nat} : nI j + Int32.ofInt 1 = nI (j + 1) := by rw [z_nI, z_nI, z_p1]
theorem wst_t {j : Nat} (h : mm_str.getD j 0 = 32) : wst (j + 1) = ((wst j).1 + 1, 0) := by rw [wst, if_pos h]
theorem wst_f {j : Nat} (h : ¬ mm_str.getD j 0 = 32) : wst (j + 1) = ((wst j).1, sx_X9_withLetter (wst j).2 (nI (mm_str.getD j 0))) := by rw [wst, if_neg h]
theorem wtb_t {j : Nat} (h : mm_str.getD j 0 = 32) : wtb (j + 1) = fun i => if i = (wst j).1 then (wst j).2 else wtb j i := by rw [wtb, if_pos h]
theorem wtb_f {j : Nat} (h : ¬ mm_str.getD j 0 = 32) : wtb (j + 1) = wtb j := by rw [wtb, if_neg h]
theorem str_b : ∀ j : Fin 118, Nat.blt (mm_str.getD j.val 0) 200 = true := by decide +kernel
section
variable {SL : Nat} {xs : Nat → Int32} {d : Nat} {Q : Option Value → mm_H → Prop} {I : Nat → Nat → Int32} {J : Nat → Nat → Int64} {R : Nat → Nat → Option Nat}
theorem words_loop (hr : R 4 8 = some 6) {c s : Nat} (hc : c ≤ 2) (hs : s ≤ 1222) : ∀ (f j : Nat) (J : Nat → Nat → Int64) (o5 : Option Value), j + f = 118 → Zq 14 I J R → (∀ i, i < 22 → J 6 i = wtb j i) → (∀ J2, Zq 14 I J2 R → (∀ r, r ≠ 6 → J2 r = J r) → (∀ i, i < 22 → J2 6 i = wtb 118 i) → Q none (hq 14 I J2 R)) → mm_w SL xs (mm_s SL xs (d + 1)) mm_am kX9_init 2 1222 none Q 28 [some (.ref 4), some (.int (nI (wst j).1)), some (.long (wst j).2), none, some (.int (nI j)), o5] [] (hq 14 I J R) c s
  | 0, j, J, o5, hf, hz, hj, kq => by
    obtain rfl : j = 118 := by omega
    refine sp_iload 30 rfl rfl rfl ?_
    refine sp_ldcS 32 rfl rfl ?_
    refine sp_strL 35 rfl rfl hc hs rfl ?_
    refine sp_ic_ge 38 rfl rfl (fun _ => ?_) (fun h => absurd (by rw [str_i, z_nI, z_le (by omega)]; omega) h)
    exact st_vret rfl rfl hc hs (kq J hz (fun _ _ => rfl) hj)
  | f + 1, j, J, o5, hf, hz, hj, kq => by
    have hw : (wst j).1 < 22 := wst_lt ⟨j, by omega⟩
    have hb : mm_str.getD j 0 < 200 := by
      have := str_b ⟨j, by omega⟩
      exact Nat.lt_succ_of_le (by simpa [Nat.blt] using this)
    refine sp_iload 30 rfl rfl rfl ?_
    refine sp_ldcS 32 rfl rfl ?_
    refine sp_strL 35 rfl rfl hc hs rfl ?_
    refine sp_ic_ge 38 rfl rfl (fun h => ?_) (fun _ => ?_)
    · rw [str_i, z_nI, z_le (by omega)] at h; omega
    refine sp_iload_n 39 rfl rfl rfl ?_
    refine sp_aload_n 40 rfl rfl rfl ?_
    refine sp_getR 43 rfl ((kq_at (by decide)).trans rfl) hr rfl ?_
    refine sp_alen 44 rfl ((kq_at (by decide)).trans rfl) rfl rfl ?_
    refine sp_ic_ge 47 rfl rfl (fun h => ?_) (fun _ => ?_)
    · rw [show Int32.ofNat 22 = Int32.ofInt ((22 : Nat) : Int) by decide, z_nI, z_le (by omega)] at h; omega
    refine sp_ldcS 49 rfl rfl ?_
    refine sp_iload 51 rfl rfl rfl ?_
    refine sp_strC 54 rfl (show j < mm_str.length by rw [str_l]; omega) rfl hc hs rfl ?_
    refine hs_istore 56 (L2 := [some (.ref 4), some (.int (nI (wst j).1)), some (.long (wst j).2), none, some (.int (nI j)), some (.int (nI (mm_str.getD j 0)))]) rfl rfl rfl rfl ?_
    refine sp_iload 58 rfl rfl rfl ?_
    refine sp_bipush 60 rfl rfl ?_
    refine sp_ic_ne 63 rfl rfl (fun h => ?_) (fun h => ?_)
    · have h2 : ¬ mm_str.getD j 0 = 32 := fun z => h (by rw [z]; decide)
      refine sp_lload_n 79 rfl rfl rfl ?_
      refine sp_iload 81 rfl rfl rfl ?_
      refine sc_S 84 rfl rfl rfl rfl hc hs rfl ?_
      refine cx_X9_withLetter ?_
      refine hs_lstore_n 85 (L2 := [some (.ref 4), some (.int (nI (wst j).1)), some (.long (sx_X9_withLetter (wst j).2 (nI (mm_str.getD j 0)))), none, some (.int (nI j)), some (.int (nI (mm_str.getD j 0)))]) rfl rfl rfl rfl ?_
      refine hs_iinc 88 (L2 := [some (.ref 4), some (.int (nI (wst j).1)), some (.long (sx_X9_withLetter (wst j).2 (nI (mm_str.getD j 0)))), none, some (.int (nI j + Int32.ofInt 1)), some (.int (nI (mm_str.getD j 0)))]) rfl rfl rfl rfl rfl ?_
      refine sp_goto rfl ?_
      have ih := words_loop hr hc hs f (j + 1) J (some (.int (nI (mm_str.getD j 0)))) (by omega) hz (fun i hi => by rw [wtb_f h2]; exact hj i hi) kq
      rw [wst_f h2] at ih
      rw [nI_p1]
      exact ih
    · have h2 : mm_str.getD j 0 = 32 := by
        rw [show (Int8.ofInt 32).toInt32 = Int32.ofInt ((32 : Nat) : Int) by decide, z_nI, z_eq (by omega)] at h
        omega
      refine sp_aload_n 64 rfl rfl rfl ?_
      refine sp_getR 67 rfl ((kq_at (by decide)).trans rfl) hr rfl ?_
      refine sp_iload_n 68 rfl rfl rfl ?_
      refine sp_lload_n 69 rfl rfl rfl ?_
      refine alq 70 (t := (wst j).1) rfl rfl hz (by decide) rfl (by rw [z_nI]; exact z_inN hw (by omega)) (by rw [z_nI]; exact z_ixN (by omega)) (fun hz => ?_)
      refine hs_iinc 73 (L2 := [some (.ref 4), some (.int (nI (wst j).1 + Int32.ofInt 1)), some (.long (wst j).2), none, some (.int (nI j)), some (.int (nI (mm_str.getD j 0)))]) rfl rfl rfl rfl rfl ?_
      refine sp_lconst 74 rfl rfl ?_
      refine hs_lstore_n 75 (L2 := [some (.ref 4), some (.int (nI (wst j).1 + Int32.ofInt 1)), some (.long 0), none, some (.int (nI j)), some (.int (nI (mm_str.getD j 0)))]) rfl rfl rfl rfl ?_
      refine sp_goto rfl ?_
      refine hs_iinc 88 (L2 := [some (.ref 4), some (.int (nI (wst j).1 + Int32.ofInt 1)), some (.long 0), none, some (.int (nI j + Int32.ofInt 1)), some (.int (nI (mm_str.getD j 0)))]) rfl rfl rfl rfl rfl ?_
      refine sp_goto rfl ?_
      have ih := words_loop hr hc hs f (j + 1) _ (some (.int (nI (mm_str.getD j 0)))) (by omega) hz (fun i hi => by
        rw [wtb_t h2, mu_if]
        show _ = if i = (wst j).1 then (wst j).2 else wtb j i
        by_cases e : i = (wst j).1
        · rw [if_pos e, if_pos e]
        · rw [if_neg e, if_neg e]; exact hj i hi) (fun J2 z2 g1 g2 => kq J2 z2 (fun r hr => by rw [g1 r hr, mu_row hr]) g2)
      rw [wst_t h2] at ih
      rw [nI_p1, nI_p1]
      exact ih
theorem n_X9 (hz0 : Zq 5 I J R) (kq : ∀ J2, Zq 14 I J2 (mm_u (mm_u R 4 0 (some 5)) 4 8 (some 6)) → (∀ r, r ≠ 6 → J2 r = J r) → v_own (J2 6) → Q none (hq 14 I J2 (mm_u (mm_u R 4 0 (some 5)) 4 8 (some 6)))) : mm_s SL xs (d + 2) 102 [.ref 4] (hq 5 I J R) Q := by
  refine e_X9_init rfl ?_
  refine hs_L (L2 := [some (.ref 4), none, none, none, none, none]) rfl ?_
  refine sp_aload_n 1 rfl rfl rfl ?_
  refine sp_objI 4 rfl rfl rfl ?_
  refine sp_aload_n 5 rfl rfl rfl ?_
  refine sp_sipush 8 rfl rfl ?_
  refine nwq 10 13 rfl rfl rfl rfl rfl (by decide) rfl (by decide) (by decide) (by decide) hz0 (by decide) rfl (by decide) rfl (by decide) (fun hz => ?_)
  refine sp_aload_n 14 rfl rfl rfl ?_
  refine sp_bipush 16 rfl rfl ?_
  refine nwqm 18 21 14 rfl rfl rfl rfl rfl (by decide) rfl (by decide) (by decide) (by decide) hz (by decide) rfl (by decide) rfl (by decide) (fun hz => ?_)
  refine sp_iconst 22 rfl rfl ?_
  refine hs_istore_n 23 (L2 := [some (.ref 4), some (.int (nI 0)), none, none, none, none]) rfl rfl rfl rfl ?_
  refine sp_lconst 24 rfl rfl ?_
  refine hs_lstore_n 25 (L2 := [some (.ref 4), some (.int (nI 0)), some (.long 0), none, none, none]) rfl rfl rfl rfl ?_
  refine sp_iconst 26 rfl rfl ?_
  refine hs_istore 28 (L2 := [some (.ref 4), some (.int (nI 0)), some (.long 0), none, some (.int (nI 0)), none]) rfl rfl rfl rfl ?_
  refine words_loop (R := mm_u (mm_u R 4 0 (some 5)) 4 8 (some 6)) mu_at (by decide) (by decide) 118 0 J none rfl hz (fun i hi => ?_) (fun J2 z2 g1 g2 => kq J2 z2 g1 (fun i hi => by rw [g2 i hi]; exact wtb_own ⟨i, hi⟩))
  exact hz0.2.1 6 i (by decide)
end
