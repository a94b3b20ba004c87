/-! ring, in the class: its steps -/
theorem ly_28 {p s q v : Nat} : mm_u (ly_R p s q) 2 8 (some v) = ly_R p v q := by
  funext a k
  unfold mm_u
  by_cases h : a = 2
  · subst h
    rw [if_pos rfl]
    match k with
    | 0 => rfl
    | 1 => rfl
    | 2 => rfl
    | 3 => rfl
    | 4 => rfl
    | 5 => rfl
    | 6 => rfl
    | 7 => rfl
    | 8 => rfl
    | n + 9 => rw [if_neg (by omega)]; rfl
  · rw [if_neg h]
    match a, h with
    | 0, _ => rfl
    | 1, _ => rfl
    | 2, h => exact absurd rfl h
    | n + 3, _ => rfl
theorem ly_27 {p s q v : Nat} : mm_u (ly_R p s q) 2 7 (some v) = ly_R v s q := by
  funext a k
  unfold mm_u
  by_cases h : a = 2
  · subst h
    rw [if_pos rfl]
    match k with
    | 0 => rfl
    | 1 => rfl
    | 2 => rfl
    | 3 => rfl
    | 4 => rfl
    | 5 => rfl
    | 6 => rfl
    | 7 => rfl
    | 8 => rfl
    | n + 9 => rw [if_neg (by omega)]; rfl
  · rw [if_neg h]
    match a, h with
    | 0, _ => rfl
    | 1, _ => rfl
    | 2, h => exact absurd rfl h
    | n + 3, _ => rfl
theorem pR_28 {p s q v : Nat} {I : Nat → Nat → Int32} {J : Nat → Nat → Int64} : mm_pR (hp p s q I J) 2 8 (some v) = hp p v q I J := by
  show (107, ly_kd, I, J, mm_u (ly_R p s q) 2 8 (some v)) = _
  rw [ly_28]; rfl
theorem pR_27 {p s q v : Nat} {I : Nat → Nat → Int32} {J : Nat → Nat → Int64} : mm_pR (hp p s q I J) 2 7 (some v) = hp v s q I J := by
  show (107, ly_kd, I, J, mm_u (ly_R p s q) 2 7 (some v)) = _
  rw [ly_27]; rfl
theorem ly_box {p s q b : Nat} (hb : b < 3) : ly_R p s q 19 b = some (53 + 4 * b) := by
  have : b = 0 ∨ b = 1 ∨ b = 2 := by omega
  rcases this with rfl | rfl | rfl <;> rfl
section
variable {SL : Nat} {xs : Nat → Int32} {d : Nat} {p s q : Nat} {Q : Option Value → mm_H → Prop} {J : Nat → Nat → Int64}
theorem c_eb : ∀ (f i : Nat) (o : Option Value) (I : Nat → Nat → Int32), i + f = 3 → (∀ b, b < i → I (53 + 4 * b) 0 = Int32.ofInt 0) → (∀ I2 : Nat → Nat → Int32, (∀ r k, ¬ ((r = 53 ∨ r = 57 ∨ r = 61) ∧ k = 0) → I2 r k = I r k) → (∀ b, b < 3 → I2 (53 + 4 * b) 0 = Int32.ofInt 0) → Q none (hp p s q I2 J)) → mm_w SL xs (mm_s SL xs d) mm_am kX10_emptyBoxes 0 0 none Q 2 [some (.ref 2), some (.int (Int32.ofInt (i : Nat))), o] [] (hp p s q I J) 0 0
  | f, i, o, I, hf, hz, kq => by
    refine sp_iload_n 3 rfl rfl rfl ?_
    refine sp_iconst 4 rfl rfl ?_
    refine sp_ic_ge 7 rfl rfl (fun q_ => ?_) (fun q_ => ?_)
    · have q_ : Int32.ofInt 3 ≤ Int32.ofInt (i : Nat) := q_
      rw [z_le (by omega)] at q_
      exact st_vret rfl rfl (Nat.le_refl _) (Nat.le_refl _) (kq I (fun _ _ _ => rfl) (fun b hb => hz b (by omega)))
    · have q_ : ¬ Int32.ofInt 3 ≤ Int32.ofInt (i : Nat) := q_
      rw [z_le (by omega)] at q_
      have hb : i < 3 := by omega
      refine sp_aload_n 8 rfl rfl rfl ?_
      refine hq_getR 11 rfl rfl rfl rfl ?_
      refine sp_iload_n 12 rfl rfl rfl ?_
      refine hq_aald 13 rfl rfl (z_inN (by omega) (by omega)) (by rw [z_ixN (by omega)]; exact ly_box hb) rfl ?_
      refine hs_astore_n 14 (L2 := [some (.ref 2), some (.int (Int32.ofInt (i : Nat))), some (.ref (53 + 4 * i))]) rfl rfl rfl rfl ?_
      refine sp_aload_n 15 rfl rfl rfl ?_
      refine sp_ifnull 18 rfl rfl ?_
      refine sp_aload_n 19 rfl rfl rfl ?_
      refine sp_iconst 20 rfl rfl ?_
      refine hq_putZ 23 rfl (kC0 (isC_b hb)) (Or.inl rfl) rfl ?_
      refine hs_iinc 26 (L2 := [some (.ref 2), some (.int (Int32.ofInt (i : Nat) + Int32.ofInt 1)), some (.ref (53 + 4 * i))]) rfl rfl rfl rfl rfl ?_
      refine sp_goto rfl ?_
      rw [z_p1]
      match f, hf with
      | 0, hf => omega
      | f + 1, hf =>
        refine c_eb f (i + 1) _ _ (by omega) (fun b hb2 => ?_) (fun I2 a b => kq I2 (fun r k h => ?_) b)
        · by_cases c : b = i
          · subst c; exact mu_at
          · rw [mu_row (by omega)]; exact hz b (by omega)
        · rw [a r k h]
          by_cases c : r = 53 + 4 * i
          · subst c; exact mu_ne (by omega)
          · rw [mu_row c]
theorem c_emptyBoxes {I : Nat → Nat → Int32} (kq : ∀ I2 : Nat → Nat → Int32, (∀ r k, ¬ ((r = 53 ∨ r = 57 ∨ r = 61) ∧ k = 0) → I2 r k = I r k) → (∀ b, b < 3 → I2 (53 + 4 * b) 0 = Int32.ofInt 0) → Q none (hp p s q I2 J)) : mm_s SL xs (d + 1) 156 [.ref 2] (hp p s q I J) Q := by
  refine e_X10_emptyBoxes rfl ?_
  refine hs_L (L2 := [some (.ref 2), none, none]) rfl ?_
  refine sp_iconst 1 rfl rfl ?_
  refine hs_istore_n 2 (L2 := [some (.ref 2), some (.int (Int32.ofInt 0)), none]) rfl rfl rfl rfl ?_
  exact c_eb 3 0 none I rfl (fun b hb => absurd hb (Nat.not_lt_zero b)) kq
theorem s_ring {I : Nat → Nat → Int32} (hs : isP s) (k : mm_s SL xs d 73 [.ref 3, .ref s] (hp p s q I J) (fun r_ h_ => ∃ x I1 J1, r_ = some (.int x) ∧ h_ = hp p s s I1 J1 ∧ (x = 0 → Q (some (.int (Int32.ofInt (-1)))) (hp p s s (mm_u I1 4 1 (Int32.ofInt 0)) J1)) ∧ (¬ x = 0 → mm_s SL xs d 13 [.ref 15, .ref s, .int (mm_u I1 4 1 (Int32.ofInt 0) s 1)] (hp s p s (mm_u I1 4 1 (Int32.ofInt 0)) J1) (fun r_ h_ => ∃ I2 J2, r_ = none ∧ h_ = hp s p s I2 J2 ∧ mm_s SL xs d 156 [.ref 2] (hp s p s (mm_u (mm_u I2 29 1 (Int32.ofInt 0)) 33 0 (Int32.ofInt 0)) J2) (fun r_ h_ => ∃ I3 J3, r_ = none ∧ h_ = hp s p s I3 J3 ∧ Q (some (.int (I3 s 0))) (hp s p s I3 J3)))))) : mm_s SL xs (d + 1) 118 [.ref 2] (hp p s q I J) Q := by
  refine e_X10_ring rfl ?_
  refine hs_L (L2 := [some (.ref 2), none, none]) rfl ?_
  refine sp_aload_n 1 rfl rfl rfl ?_
  refine hq_getR 4 rfl rfl rfl rfl ?_
  refine sp_aload_n 5 rfl rfl rfl ?_
  refine hq_getR 8 rfl rfl rfl rfl ?_
  refine sc_V 11 rfl rfl rfl rfl rfl (Nat.le_refl _) (Nat.le_refl _) rfl ?_
  refine mm_s_mono _ _ _ _ _ _ ?_ k
  rintro r_ h_ ⟨x, I1, J1, rfl, rfl, k0, k1⟩
  refine hs_S (st2 := [.int x]) rfl ?_
  refine hs_istore_n 12 (L2 := [some (.ref 2), some (.int x), none]) rfl rfl rfl rfl ?_
  refine sp_aload_n 13 rfl rfl rfl ?_
  refine hq_getR 16 rfl rfl rfl rfl ?_
  refine hq_getR 19 rfl rfl rfl rfl ?_
  refine sp_iconst 20 rfl rfl ?_
  refine hq_putI 23 rfl rfl rfl ?_
  refine sp_iload_n 24 rfl rfl rfl ?_
  refine sp_if_ne 27 rfl rfl (fun q_ => ?_) (fun q_ => ?_)
  · refine sp_aload_n 30 rfl rfl rfl ?_
    refine hq_getR 33 rfl rfl rfl rfl ?_
    refine hs_astore_n 34 (L2 := [some (.ref 2), some (.int x), some (.ref s)]) rfl rfl rfl rfl ?_
    refine sp_aload_n 35 rfl rfl rfl ?_
    refine sp_aload_n 36 rfl rfl rfl ?_
    refine hq_getR 39 rfl rfl rfl rfl ?_
    refine sp_putR 42 rfl rfl rfl ?_
    rw [pR_28]
    refine sp_aload_n 43 rfl rfl rfl ?_
    refine sp_aload_n 44 rfl rfl rfl ?_
    refine sp_putR 47 rfl rfl rfl ?_
    rw [pR_27]
    refine sp_aload_n 48 rfl rfl rfl ?_
    refine hq_getR 51 rfl rfl rfl rfl ?_
    refine sp_aload_n 52 rfl rfl rfl ?_
    refine hq_getR 55 rfl rfl rfl rfl ?_
    refine sp_aload_n 56 rfl rfl rfl ?_
    refine hq_getR 59 rfl rfl rfl rfl ?_
    refine hq_getI 62 rfl (kP0 hs) rfl ?_
    refine sc_V 65 rfl rfl rfl rfl rfl (Nat.le_refl _) (Nat.le_refl _) rfl ?_
    refine mm_s_mono _ _ _ _ _ _ ?_ (k1 q_)
    rintro r_ h_ ⟨I2, J2, rfl, rfl, k2⟩
    refine hs_S (st2 := []) rfl ?_
    refine sp_aload_n 66 rfl rfl rfl ?_
    refine hq_getR 69 rfl rfl rfl rfl ?_
    refine sp_iconst 70 rfl rfl ?_
    refine hq_putI 73 rfl rfl rfl ?_
    refine sp_aload_n 74 rfl rfl rfl ?_
    refine hq_getR 77 rfl rfl rfl rfl ?_
    refine sp_iconst 78 rfl rfl ?_
    refine hq_putI 81 rfl rfl rfl ?_
    refine sp_aload_n 82 rfl rfl rfl ?_
    refine sc_V 85 rfl rfl rfl rfl rfl (Nat.le_refl _) (Nat.le_refl _) rfl ?_
    refine mm_s_mono _ _ _ _ _ _ ?_ k2
    rintro r_ h_ ⟨I3, J3, rfl, rfl, k3⟩
    refine hs_S (st2 := []) rfl ?_
    refine sp_aload_n 86 rfl rfl rfl ?_
    refine hq_getR 89 rfl rfl rfl rfl ?_
    refine hq_getI 92 rfl (kP0 hs) rfl ?_
    exact st_iret rfl rfl (Nat.le_refl _) (Nat.le_refl _) k3
  · refine sp_iconst 28 rfl rfl ?_
    exact st_iret rfl rfl (Nat.le_refl _) (Nat.le_refl _) (k0 q_)
end
