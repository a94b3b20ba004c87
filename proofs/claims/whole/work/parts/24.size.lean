/-! SIZE -/
def sz (k p i : Nat) : Nat → Nat → Nat → Nat → Int32
  | 0, _, _, _ => Int32.ofInt (-1)
  | f + 1, n, l, b => if (l + k) % n = p then (if b = i then nI n else sz k p i f (n + 1) ((l + k) % n) (b + 1)) else sz k p i f (n + 1) ((l + k) % n) b
theorem sz_X {SL : Nat} {xs : Nat → Int32} {cs : mm_Cs} {h : mm_H} {Q : Option Value → mm_H → Prop} {k p i : Nat} (hk : k ≤ 1000) (hp : p < 5000) (hi : i < 2 ^ 31) : ∀ (f n l b : Nat), n + f = 5001 → 1 ≤ n → l ≤ 5000 → b ≤ n → Q (some (.int (sz k p i f n l b))) h → mm_w SL xs cs mm_am kX4_sizeKeeping 0 0 (some .int) Q 8 [some (.int (nI k)), some (.int (nI p)), some (.int (nI i)), some (.int (nI b)), some (.int (nI l)), some (.int (nI n))] [] h 0 0
  | 0, n, l, b, hn, h1, hl, hb, kq => by
    refine sp_iload 10 rfl rfl rfl ?_
    refine sp_sipush 13 rfl rfl ?_
    refine sp_ic_gt 16 rfl rfl (fun _ => ?_) (fun q => absurd (show nI 5000 < nI n from nI_lt (by omega) (by omega)) q)
    refine sp_iconst 49 rfl rfl ?_
    exact st_iret rfl rfl (Nat.le_refl _) (Nat.le_refl _) kq
  | f + 1, n, l, b, hn, h1, hl, hb, kq => by
    rw [sz] at kq
    have hmod : (l + k) % n < n := Nat.mod_lt _ (by omega)
    refine sp_iload 10 rfl rfl rfl ?_
    refine sp_sipush 13 rfl rfl ?_
    refine sp_ic_gt 16 rfl rfl (fun q => absurd q (show ¬ nI 5000 < nI n from nI_nlt (by omega) (by omega))) (fun _ => ?_)
    refine sp_iload 18 rfl rfl rfl ?_
    refine sp_iload_n 19 rfl rfl rfl ?_
    refine sp_iadd 20 rfl rfl ?_
    refine sp_iload 22 rfl rfl rfl ?_
    refine sp_irem 23 rfl (nI_ne0 (by omega) (by omega)) rfl ?_
    refine sp_I (y := nI ((l + k) % n)) (by rw [nI_add, pk_rem (by omega) (by omega) (by omega)]) ?_
    refine sp_istore 25 rfl rfl rfl ?_
    refine sp_iload 27 rfl rfl rfl ?_
    refine sp_iload_n 28 rfl rfl rfl ?_
    have en : nI n + Int32.ofInt 1 = nI (n + 1) := nI_add n 1
    have eb : nI b + Int32.ofInt 1 = nI (b + 1) := nI_add b 1
    refine sp_ic_ne 31 rfl rfl (fun q => ?_) (fun q => ?_)
    · have hne : ¬ (l + k) % n = p := fun z => q (by rw [z])
      rw [if_neg hne] at kq
      refine sp_iinc 45 rfl rfl rfl rfl ?_
      refine sp_goto rfl ?_
      show mm_w SL xs cs mm_am kX4_sizeKeeping 0 0 (some .int) Q 8 [some (.int (nI k)), some (.int (nI p)), some (.int (nI i)), some (.int (nI b)), some (.int (nI ((l + k) % n))), some (.int (nI n + Int32.ofInt 1))] [] h 0 0
      rw [en]
      exact sz_X hk hp hi f (n + 1) _ b (by omega) (by omega) (by omega) (by omega) kq
    · have heq : (l + k) % n = p := (nI_eq (by omega) (by omega)).mp q
      rw [if_pos heq] at kq
      refine sp_iload_n 32 rfl rfl rfl ?_
      refine sp_iload_n 33 rfl rfl rfl ?_
      refine sp_ic_ne 36 rfl rfl (fun q2 => ?_) (fun q2 => ?_)
      · have hne : ¬ b = i := fun z => q2 (by rw [z])
        rw [if_neg hne] at kq
        refine sp_iinc 42 rfl rfl rfl rfl ?_
        refine sp_iinc 45 rfl rfl rfl rfl ?_
        refine sp_goto rfl ?_
        show mm_w SL xs cs mm_am kX4_sizeKeeping 0 0 (some .int) Q 8 [some (.int (nI k)), some (.int (nI p)), some (.int (nI i)), some (.int (nI b + Int32.ofInt 1)), some (.int (nI ((l + k) % n))), some (.int (nI n + Int32.ofInt 1))] [] h 0 0
        rw [en, eb]
        exact sz_X hk hp hi f (n + 1) _ (b + 1) (by omega) (by omega) (by omega) (by omega) kq
      · have heq2 : b = i := (nI_eq (by omega) (by omega)).mp q2
        rw [if_pos heq2] at kq
        refine sp_iload 38 rfl rfl rfl ?_
        exact st_iret rfl rfl (Nat.le_refl _) (Nat.le_refl _) kq
theorem sz_M {SL : Nat} {xs : Nat → Int32} {cs : mm_Cs} {h : mm_H} {Q : Option Value → mm_H → Prop} {o k p i : Nat} (hk : k ≤ 1000) (hp : p < 5000) (hi : i < 2 ^ 31) : ∀ (f n l b : Nat), n + f = 5001 → 1 ≤ n → l ≤ 5000 → b ≤ n → Q (some (.int (sz k p i f n l b))) h → mm_w SL xs cs mm_am kX11_size 0 0 (some .int) Q 38 [some (.ref o), some (.int (nI k)), some (.int (nI p)), some (.int (nI i)), some (.int (nI l)), some (.int (nI b)), some (.int (nI n))] [] h 0 0
  | 0, n, l, b, hn, h1, hl, hb, kq => by
    refine sp_iload 40 rfl rfl rfl ?_
    refine sp_sipush 43 rfl rfl ?_
    refine sp_ic_gt 46 rfl rfl (fun _ => ?_) (fun q => absurd (show nI 5000 < nI n from nI_lt (by omega) (by omega)) q)
    refine sp_iconst 93 rfl rfl ?_
    exact st_iret rfl rfl (Nat.le_refl _) (Nat.le_refl _) kq
  | f + 1, n, l, b, hn, h1, hl, hb, kq => by
    rw [sz] at kq
    have hmod : (l + k) % n < n := Nat.mod_lt _ (by omega)
    have en : nI n + Int32.ofInt 1 = nI (n + 1) := nI_add n 1
    have eb : nI b + Int32.ofInt 1 = nI (b + 1) := nI_add b 1
    have rest : mm_w SL xs cs mm_am kX11_size 0 0 (some .int) Q 63 [some (.ref o), some (.int (nI k)), some (.int (nI p)), some (.int (nI i)), some (.int (nI l)), some (.int (nI b)), some (.int (nI n))] [.int (nI ((l + k) % n))] h 0 0 := by
      refine sp_istore 65 rfl rfl rfl ?_
      refine sp_iload 67 rfl rfl rfl ?_
      refine sp_iload_n 68 rfl rfl rfl ?_
      refine sp_ic_eq 71 rfl rfl (fun q => ?_) (fun q => ?_)
      · have heq : (l + k) % n = p := (nI_eq (by omega) (by omega)).mp q
        rw [if_pos heq] at kq
        refine sp_iload 76 rfl rfl rfl ?_
        refine sp_iload_n 77 rfl rfl rfl ?_
        refine sp_ic_ne 80 rfl rfl (fun q2 => ?_) (fun q2 => ?_)
        · have hne : ¬ b = i := fun z => q2 (by rw [z])
          rw [if_neg hne] at kq
          refine sp_iinc 86 rfl rfl rfl rfl ?_
          refine sp_iinc 89 rfl rfl rfl rfl ?_
          refine sp_goto rfl ?_
          show mm_w SL xs cs mm_am kX11_size 0 0 (some .int) Q 38 [some (.ref o), some (.int (nI k)), some (.int (nI p)), some (.int (nI i)), some (.int (nI ((l + k) % n))), some (.int (nI b + Int32.ofInt 1)), some (.int (nI n + Int32.ofInt 1))] [] h 0 0
          rw [en, eb]
          exact sz_M hk hp hi f (n + 1) _ (b + 1) (by omega) (by omega) (by omega) (by omega) kq
        · have heq2 : b = i := (nI_eq (by omega) (by omega)).mp q2
          rw [if_pos heq2] at kq
          refine sp_iload 82 rfl rfl rfl ?_
          exact st_iret rfl rfl (Nat.le_refl _) (Nat.le_refl _) kq
      · have hne : ¬ (l + k) % n = p := fun z => q (by rw [z])
        rw [if_neg hne] at kq
        refine sp_goto rfl ?_
        refine sp_iinc 89 rfl rfl rfl rfl ?_
        refine sp_goto rfl ?_
        show mm_w SL xs cs mm_am kX11_size 0 0 (some .int) Q 38 [some (.ref o), some (.int (nI k)), some (.int (nI p)), some (.int (nI i)), some (.int (nI ((l + k) % n))), some (.int (nI b)), some (.int (nI n + Int32.ofInt 1))] [] h 0 0
        rw [en]
        exact sz_M hk hp hi f (n + 1) _ b (by omega) (by omega) (by omega) (by omega) kq
    refine sp_iload 40 rfl rfl rfl ?_
    refine sp_sipush 43 rfl rfl ?_
    refine sp_ic_gt 46 rfl rfl (fun q => absurd q (show ¬ nI 5000 < nI n from nI_nlt (by omega) (by omega))) (fun _ => ?_)
    refine sp_iload 48 rfl rfl rfl ?_
    refine sp_iconst 49 rfl rfl ?_
    refine sp_ic_ne 52 rfl rfl (fun q => ?_) (fun q => ?_)
    · refine sp_iload 58 rfl rfl rfl ?_
      refine sp_iload_n 59 rfl rfl rfl ?_
      refine sp_iadd 60 rfl rfl ?_
      refine sp_iload 62 rfl rfl rfl ?_
      refine sp_irem 63 rfl (nI_ne0 (by omega) (by omega)) rfl ?_
      refine sp_I (y := nI ((l + k) % n)) (by rw [nI_add, pk_rem (by omega) (by omega) (by omega)]) ?_
      exact rest
    · have hn1 : n = 1 := (nI_eq (by omega) (by decide)).mp (show nI n = nI 1 from q)
      refine sp_iconst 53 rfl rfl ?_
      refine sp_goto rfl ?_
      refine sp_I (y := nI ((l + k) % n)) ?_ rest
      rw [hn1, Nat.mod_one]
      rfl
def size_r (k p i : Int32) : Int32 := if k < Int32.ofInt 1 then Int32.ofInt (-1) else if (Int16.ofInt 1000).toInt32 < k then Int32.ofInt (-1) else if p < 0 then Int32.ofInt (-1) else if (Int16.ofInt 5000).toInt32 ≤ p then Int32.ofInt (-1) else if 0 ≤ i then sz k.toInt.toNat p.toInt.toNat i.toInt.toNat 5000 1 0 0 else Int32.ofInt (-1)
theorem nI_of1 {k : Int32} (h : ¬ k < Int32.ofInt 1) : ∃ a : Nat, a < 2 ^ 31 ∧ k = nI a ∧ 1 ≤ a := by
  have k0 : ¬ k < 0 := fun z => h (by
    rw [Int32.lt_iff_toInt_lt] at z ⊢
    have g1 : (Int32.ofInt 1).toInt = 1 := by decide
    have g0 : (0 : Int32).toInt = 0 := by decide
    rw [g0] at z
    rw [g1]
    omega)
  obtain ⟨b, hb, rfl⟩ := nI_of k0
  refine ⟨b, hb, rfl, ?_⟩
  rcases Nat.lt_or_ge b 1 with q | q
  · exact absurd (show nI b < nI 1 from nI_lt q (by decide)) h
  · exact q
theorem size_args {k p i : Int32} (h1 : ¬ k < Int32.ofInt 1) (h2 : ¬ (Int16.ofInt 1000).toInt32 < k) (h3 : ¬ p < 0) (h4 : ¬ (Int16.ofInt 5000).toInt32 ≤ p) (h5 : 0 ≤ i) : ∃ a b c : Nat, k = nI a ∧ p = nI b ∧ i = nI c ∧ a ≤ 1000 ∧ b < 5000 ∧ c < 2 ^ 31 := by
  obtain ⟨a, ha, rfl, -⟩ := nI_of1 h1
  obtain ⟨b, hb, rfl⟩ := nI_of h3
  obtain ⟨c, hc, rfl⟩ := nI_of (Int32.not_lt.mpr h5)
  refine ⟨a, b, c, rfl, rfl, rfl, ?_, ?_, hc⟩
  · rcases Nat.lt_or_ge 1000 a with q | q
    · exact absurd (show nI 1000 < nI a from nI_lt q ha) h2
    · exact q
  · rcases Nat.lt_or_ge b 5000 with q | q
    · exact q
    · exact absurd (show nI 5000 ≤ nI b from nI_le q hb) h4
theorem c_X10_size {SL : Nat} {xs : Nat → Int32} {d : Nat} {h : mm_H} {Q : Option Value → mm_H → Prop} {o : Nat} {kk p i : Int32} (k : Q (some (.int (size_r kk p i))) h) : mm_s SL xs (d + 2) 136 [.ref o, .int kk, .int p, .int i] h Q := by
  unfold size_r at k
  refine e_X10_size rfl ?_
  refine sp_iload_n 1 rfl rfl rfl ?_
  refine sp_iconst 2 rfl rfl ?_
  refine sp_ic_lt 5 rfl rfl (fun q1 => ?_) (fun q1 => ?_)
  · rw [if_pos q1] at k
    refine sp_iconst 28 rfl rfl ?_
    exact st_iret rfl rfl (Nat.le_refl _) (Nat.le_refl _) k
  · rw [if_neg q1] at k
    refine sp_iload_n 6 rfl rfl rfl ?_
    refine sp_sipush 9 rfl rfl ?_
    refine sp_ic_gt 12 rfl rfl (fun q2 => ?_) (fun q2 => ?_)
    · rw [if_pos q2] at k
      refine sp_iconst 28 rfl rfl ?_
      exact st_iret rfl rfl (Nat.le_refl _) (Nat.le_refl _) k
    · rw [if_neg q2] at k
      refine sp_iload_n 13 rfl rfl rfl ?_
      refine sp_if_lt 16 rfl rfl (fun q3 => ?_) (fun q3 => ?_)
      · rw [if_pos q3] at k
        refine sp_iconst 28 rfl rfl ?_
        exact st_iret rfl rfl (Nat.le_refl _) (Nat.le_refl _) k
      · rw [if_neg q3] at k
        refine sp_iload_n 17 rfl rfl rfl ?_
        refine sp_sipush 20 rfl rfl ?_
        refine sp_ic_ge 23 rfl rfl (fun q4 => ?_) (fun q4 => ?_)
        · rw [if_pos q4] at k
          refine sp_iconst 28 rfl rfl ?_
          exact st_iret rfl rfl (Nat.le_refl _) (Nat.le_refl _) k
        · rw [if_neg q4] at k
          refine sp_iload_n 24 rfl rfl rfl ?_
          refine sp_if_ge 27 rfl rfl (fun q5 => ?_) (fun q5 => ?_)
          · rw [if_pos q5] at k
            obtain ⟨a, b, c, rfl, rfl, rfl, ha, hb, hc⟩ := size_args q1 q2 q3 q4 q5
            rw [nI_nat (by omega), nI_nat (by omega), nI_nat hc] at k
            refine sp_iload_n 30 rfl rfl rfl ?_
            refine sp_iload_n 31 rfl rfl rfl ?_
            refine sp_iload_n 32 rfl rfl rfl ?_
            refine sc_S 35 rfl rfl rfl rfl (Nat.le_refl _) (Nat.le_refl _) rfl ?_
            refine e_X4_sizeKeeping rfl ?_
            refine sp_iconst 1 rfl rfl ?_
            refine sp_istore_n 2 rfl rfl rfl ?_
            refine sp_iconst 3 rfl rfl ?_
            refine sp_istore 5 rfl rfl rfl ?_
            refine sp_iconst 6 rfl rfl ?_
            refine sp_istore 8 rfl rfl rfl ?_
            refine sz_X ha hb hc 5000 1 0 0 rfl (by decide) (by decide) (by decide) ?_
            exact st_iret rfl rfl (Nat.le_refl _) (Nat.le_refl _) k
          · rw [if_neg q5] at k
            refine sp_iconst 28 rfl rfl ?_
            exact st_iret rfl rfl (Nat.le_refl _) (Nat.le_refl _) k
theorem c_X11_size {SL : Nat} {xs : Nat → Int32} {d : Nat} {h : mm_H} {Q : Option Value → mm_H → Prop} {o : Nat} {kk p i : Int32} (k : Q (some (.int (size_r kk p i))) h) : mm_s SL xs (d + 2) 237 [.ref o, .int kk, .int p, .int i] h Q := by
  unfold size_r at k
  refine e_X11_size rfl ?_
  refine sp_iload_n 1 rfl rfl rfl ?_
  refine sp_iconst 2 rfl rfl ?_
  refine sp_ic_lt 5 rfl rfl (fun q1 => ?_) (fun q1 => ?_)
  · rw [if_pos q1] at k
    refine sp_iconst 28 rfl rfl ?_
    exact st_iret rfl rfl (Nat.le_refl _) (Nat.le_refl _) k
  · rw [if_neg q1] at k
    refine sp_iload_n 6 rfl rfl rfl ?_
    refine sp_sipush 9 rfl rfl ?_
    refine sp_ic_gt 12 rfl rfl (fun q2 => ?_) (fun q2 => ?_)
    · rw [if_pos q2] at k
      refine sp_iconst 28 rfl rfl ?_
      exact st_iret rfl rfl (Nat.le_refl _) (Nat.le_refl _) k
    · rw [if_neg q2] at k
      refine sp_iload_n 13 rfl rfl rfl ?_
      refine sp_if_lt 16 rfl rfl (fun q3 => ?_) (fun q3 => ?_)
      · rw [if_pos q3] at k
        refine sp_iconst 28 rfl rfl ?_
        exact st_iret rfl rfl (Nat.le_refl _) (Nat.le_refl _) k
      · rw [if_neg q3] at k
        refine sp_iload_n 17 rfl rfl rfl ?_
        refine sp_sipush 20 rfl rfl ?_
        refine sp_ic_ge 23 rfl rfl (fun q4 => ?_) (fun q4 => ?_)
        · rw [if_pos q4] at k
          refine sp_iconst 28 rfl rfl ?_
          exact st_iret rfl rfl (Nat.le_refl _) (Nat.le_refl _) k
        · rw [if_neg q4] at k
          refine sp_iload_n 24 rfl rfl rfl ?_
          refine sp_if_ge 27 rfl rfl (fun q5 => ?_) (fun q5 => ?_)
          · rw [if_pos q5] at k
            obtain ⟨a, b, c, rfl, rfl, rfl, ha, hb, hc⟩ := size_args q1 q2 q3 q4 q5
            rw [nI_nat (by omega), nI_nat (by omega), nI_nat hc] at k
            refine sp_iconst 30 rfl rfl ?_
            refine sp_istore 32 rfl rfl rfl ?_
            refine sp_iconst 33 rfl rfl ?_
            refine sp_istore 35 rfl rfl rfl ?_
            refine sp_iconst 36 rfl rfl ?_
            refine sp_istore 38 rfl rfl rfl ?_
            exact sz_M ha hb hc 5000 1 0 0 rfl (by decide) (by decide) (by decide) k
          · rw [if_neg q5] at k
            refine sp_iconst 28 rfl rfl ?_
            exact st_iret rfl rfl (Nat.le_refl _) (Nat.le_refl _) k
