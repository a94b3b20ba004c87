/-! the reference takes the ring over -/
def t182 (I : Nat → Nat → Int32) : Nat → Nat → Int32 := mm_u (mm_u (mm_u (mm_u (mm_u (mm_u I 65 42 (I 65 37)) 65 43 (I 65 38)) 65 44 (I 65 39)) 65 45 (I 65 40)) 65 46 (I 65 41)) 65 21 (I 65 19)
theorem t182_r {I : Nat → Nat → Int32} {r : Nat} (h : r ≠ 65) : t182 I r = I r := by
  unfold t182; rw [mu_row h, mu_row h, mu_row h, mu_row h, mu_row h, mu_row h]
theorem t182_k {I : Nat → Nat → Int32} {k : Nat} (h : k < 42 ∨ 46 < k) (h2 : k ≠ 21) : t182 I 65 k = I 65 k := by
  unfold t182; rw [mu_ne h2, mu_ne (by omega), mu_ne (by omega), mu_ne (by omega), mu_ne (by omega), mu_ne (by omega)]
theorem t182_v {I : Nat → Nat → Int32} : t182 I 65 42 = I 65 37 ∧ t182 I 65 43 = I 65 38 ∧ t182 I 65 44 = I 65 39 ∧ t182 I 65 45 = I 65 40 ∧ t182 I 65 46 = I 65 41 ∧ t182 I 65 21 = I 65 19 := by
  refine ⟨?_, ?_, ?_, ?_, ?_, ?_⟩ <;> simp [t182, mm_u]
section
variable {SL : Nat} {xs : Nat → Int32} {d : Nat} {p s q : Nat} {Q : Option Value → mm_H → Prop} {J : Nat → Nat → Int64}
theorem cp_182 {m : Nat} (hm : m ≤ 500) : ∀ (f i : Nat) (I : Nat → Nat → Int32), i + f = m → I 65 20 = Int32.ofInt (m : Nat) → (∀ k, k < i → I 69 k = I 67 k ∧ I 70 k = I 68 k) → (∀ I2 : Nat → Nat → Int32, (∀ r, r ≠ 69 → r ≠ 70 → I2 r = I r) → (∀ k, k < m → I2 69 k = I 67 k ∧ I2 70 k = I 68 k) → w_X11_ring_270 SL xs d p s q Q (Int32.ofInt 0) (t182 I2) J) → w_X11_ring_182 SL xs d p s q Q (Int32.ofInt (i : Nat)) I J
  | 0, i, I, hf, h2, hz, kq => sg_X11_ring_182 ⟨fun _ => kq I (fun _ _ _ => rfl) (fun k hk => hz k (by omega)), fun z => absurd (by rw [h2, z_le (by omega)]; omega) z⟩
  | f + 1, i, I, hf, h2, hz, kq => by
    refine sg_X11_ring_182 ⟨fun z => ?_, fun _ => ⟨z_inN (by omega) (by omega), ?_⟩⟩
    · rw [h2, z_le (by omega)] at z; omega
    · rw [z_ixN (by omega), z_p1]
      refine cp_182 hm f (i + 1) _ (by omega) (by rw [mu_row (by omega), mu_row (by omega)]; exact h2) (fun k hk => ?_) (fun I2 a b => kq I2 (fun r h1 h2 => by rw [a r h1 h2, mu_row h2, mu_row h1]) (fun k hk => ?_))
      · by_cases c : k = i
        · subst c
          exact ⟨by rw [mu_row (by omega), mu_at, mu_row (by omega), mu_row (by omega)], by rw [mu_at, mu_row (by omega), mu_row (by omega)]⟩
        · have := hz k (by omega)
          exact ⟨by rw [mu_row (by omega), mu_ne c, mu_row (by omega), mu_row (by omega)]; exact this.1, by rw [mu_ne c, mu_row (by omega), mu_row (by omega), mu_row (by omega)]; exact this.2⟩
      · have := b k hk
        exact ⟨by rw [this.1, mu_row (by omega), mu_row (by omega)], by rw [this.2, mu_row (by omega), mu_row (by omega)]⟩
theorem cp_270 {m : Nat} (hm : m ≤ 8) : ∀ (f i : Nat) (I : Nat → Nat → Int32), i + f = m → I 65 42 = Int32.ofInt (m : Nat) → (∀ k, k < i → I 80 k = I 75 k ∧ I 81 k = I 76 k) → (∀ I2 : Nat → Nat → Int32, (∀ r, r ≠ 80 → r ≠ 81 → I2 r = I r) → (∀ k, k < m → I2 80 k = I 75 k ∧ I2 81 k = I 76 k) → w_X11_ring_310 SL xs d p s q Q (Int32.ofInt 0) I2 J) → w_X11_ring_270 SL xs d p s q Q (Int32.ofInt (i : Nat)) I J
  | 0, i, I, hf, h2, hz, kq => sg_X11_ring_270 ⟨fun _ => kq I (fun _ _ _ => rfl) (fun k hk => hz k (by omega)), fun z => absurd (by rw [h2, z_le (by omega)]; omega) z⟩
  | f + 1, i, I, hf, h2, hz, kq => by
    refine sg_X11_ring_270 ⟨fun z => ?_, fun _ => ⟨z_inN (by omega) (by omega), ?_⟩⟩
    · rw [h2, z_le (by omega)] at z; omega
    · rw [z_ixN (by omega), z_p1]
      refine cp_270 hm f (i + 1) _ (by omega) (by rw [mu_row (by omega), mu_row (by omega)]; exact h2) (fun k hk => ?_) (fun I2 a b => kq I2 (fun r h1 h2 => by rw [a r h1 h2, mu_row h2, mu_row h1]) (fun k hk => ?_))
      · by_cases c : k = i
        · subst c
          exact ⟨by rw [mu_row (by omega), mu_at, mu_row (by omega), mu_row (by omega)], by rw [mu_at, mu_row (by omega), mu_row (by omega)]⟩
        · have := hz k (by omega)
          exact ⟨by rw [mu_row (by omega), mu_ne c, mu_row (by omega), mu_row (by omega)]; exact this.1, by rw [mu_ne c, mu_row (by omega), mu_row (by omega), mu_row (by omega)]; exact this.2⟩
      · have := b k hk
        exact ⟨by rw [this.1, mu_row (by omega), mu_row (by omega)], by rw [this.2, mu_row (by omega), mu_row (by omega)]⟩
theorem cp_310 {m : Nat} (hm : m ≤ 9) : ∀ (f i : Nat) (I : Nat → Nat → Int32), i + f = m → I 65 43 = Int32.ofInt (m : Nat) → (∀ k, k < i → I 82 k = I 77 k) → (∀ I2 : Nat → Nat → Int32, (∀ r, r ≠ 82 → I2 r = I r) → (∀ k, k < m → I2 82 k = I 77 k) → w_X11_ring_338 SL xs d p s q Q (Int32.ofInt 0) I2 J) → w_X11_ring_310 SL xs d p s q Q (Int32.ofInt (i : Nat)) I J
  | 0, i, I, hf, h2, hz, kq => sg_X11_ring_310 ⟨fun _ => kq I (fun _ _ => rfl) (fun k hk => hz k (by omega)), fun z => absurd (by rw [h2, z_le (by omega)]; omega) z⟩
  | f + 1, i, I, hf, h2, hz, kq => by
    refine sg_X11_ring_310 ⟨fun z => ?_, fun _ => ⟨z_inN (by omega) (by omega), ?_⟩⟩
    · rw [h2, z_le (by omega)] at z; omega
    · rw [z_ixN (by omega), z_p1]
      refine cp_310 hm f (i + 1) _ (by omega) (by rw [mu_row (by omega)]; exact h2) (fun k hk => ?_) (fun I2 a b => kq I2 (fun r h1 => by rw [a r h1, mu_row h1]) (fun k hk => ?_))
      · by_cases c : k = i
        · subst c
          rw [mu_at, mu_row (by omega)]
        · rw [mu_ne c, mu_row (by omega)]; exact hz k (by omega)
      · rw [b k hk, mu_row (by omega)]
theorem cp_338 {m : Nat} (hm : m ≤ 12) : ∀ (f i : Nat) (I : Nat → Nat → Int32), i + f = m → I 65 44 = Int32.ofInt (m : Nat) → (∀ k, k < i → I 83 k = I 78 k ∧ I 84 k = I 79 k) → (∀ I2 : Nat → Nat → Int32, (∀ r, r ≠ 83 → r ≠ 84 → I2 r = I r) → (∀ k, k < m → I2 83 k = I 78 k ∧ I2 84 k = I 79 k) → mm_s SL xs (d + 8) 202 [.ref 65, .int (I 65 48)] (hp p s q I2 J) (fun r_ h_ => ∃ I1 J1, r_ = none ∧ h_ = hp p s q I1 J1 ∧ w_X11_ring_396 SL xs d p s q Q (Int32.ofInt 0) (mm_u (mm_u I1 65 88 (Int32.ofInt 0)) 65 80 (Int32.ofInt 0)) J1)) → w_X11_ring_338 SL xs d p s q Q (Int32.ofInt (i : Nat)) I J
  | 0, i, I, hf, h2, hz, kq => sg_X11_ring_338 ⟨fun _ => kq I (fun _ _ _ => rfl) (fun k hk => hz k (by omega)), fun z => absurd (by rw [h2, z_le (by omega)]; omega) z⟩
  | f + 1, i, I, hf, h2, hz, kq => by
    refine sg_X11_ring_338 ⟨fun z => ?_, fun _ => ⟨z_inN (by omega) (by omega), ?_⟩⟩
    · rw [h2, z_le (by omega)] at z; omega
    · rw [z_ixN (by omega), z_p1]
      refine cp_338 hm f (i + 1) _ (by omega) (by rw [mu_row (by omega), mu_row (by omega)]; exact h2) (fun k hk => ?_) (fun I2 a b => ?_)
      · by_cases c : k = i
        · subst c
          exact ⟨by rw [mu_row (by omega), mu_at, mu_row (by omega), mu_row (by omega)], by rw [mu_at, mu_row (by omega), mu_row (by omega)]⟩
        · have := hz k (by omega)
          exact ⟨by rw [mu_row (by omega), mu_ne c, mu_row (by omega), mu_row (by omega)]; exact this.1, by rw [mu_ne c, mu_row (by omega), mu_row (by omega), mu_row (by omega)]; exact this.2⟩
      · rw [mu_row (by omega), mu_row (by omega)]
        refine kq I2 (fun r h1 h2 => by rw [a r h1 h2, mu_row h2, mu_row h1]) (fun k hk => ?_)
        have := b k hk
        exact ⟨by rw [this.1, mu_row (by omega), mu_row (by omega)], by rw [this.2, mu_row (by omega), mu_row (by omega)]⟩
theorem cp_396 : ∀ (f i : Nat) (I : Nat → Nat → Int32), i + f = 3 → (∀ k, k < i → I 107 k = Int32.ofInt 0) → (∀ I2 : Nat → Nat → Int32, (∀ r, r ≠ 107 → I2 r = I r) → (∀ k, k < 3 → I2 107 k = Int32.ofInt 0) → Q (some (.int (I 65 47))) (hp p s q I2 J)) → w_X11_ring_396 SL xs d p s q Q (Int32.ofInt (i : Nat)) I J
  | 0, i, I, hf, hz, kq => sg_X11_ring_396 ⟨fun _ => kq I (fun _ _ => rfl) (fun k hk => hz k (by omega)), fun z => absurd (by rw [z_le (by omega)]; omega) z⟩
  | f + 1, i, I, hf, hz, kq => by
    refine sg_X11_ring_396 ⟨fun z => ?_, fun _ => ⟨z_inN (by omega) (by omega), ?_⟩⟩
    · rw [z_le (by omega)] at z; omega
    · rw [z_ixN (by omega), z_p1]
      refine cp_396 f (i + 1) _ (by omega) (fun k hk => ?_) (fun I2 a b => ?_)
      · by_cases c : k = i
        · subst c; rw [mu_at]
        · rw [mu_ne c]; exact hz k (by omega)
      · rw [mu_row (by omega)]
        exact kq I2 (fun r hr => by rw [a r hr, mu_row hr]) b
end
def RG (A : Nat → Option Nat) (G : List (Nat × Nat)) (w e : Nat) (P D : List (Nat × Nat)) (u : Nat) (C : List Int) (Pp : plT) (I I9 : Nat → Nat → Int32) : Prop := (∀ r, r ≠ 65 → r ≠ 69 → r ≠ 70 → (r < 80 ∨ 84 < r) → (r < 87 ∨ 91 < r) → r ≠ 107 → I9 r = I r) ∧ (∀ k, (k < 20 ∨ (21 < k ∧ k < 42) ∨ (53 < k ∧ k < 59) ∨ (64 < k ∧ k < 76) ∨ k = 79 ∨ (80 < k ∧ k < 88) ∨ 88 < k) → I9 65 k = I 65 k) ∧ (∀ k, k < C.length → I9 69 k = I 67 k ∧ I9 70 k = I 68 k) ∧ (∀ k, k < G.length → I9 80 k = I 75 k ∧ I9 81 k = I 76 k) ∧ (∀ k, k < P.length → I9 82 k = I 77 k) ∧ (∀ k, k < D.length → I9 83 k = I 78 k ∧ I9 84 k = I 79 k) ∧ (I9 65 20 = Int32.ofInt (C.length : Nat) ∧ I9 65 21 = Int32.ofInt (u : Nat) ∧ I9 65 42 = Int32.ofInt (G.length : Nat) ∧ I9 65 43 = Int32.ofInt (P.length : Nat) ∧ I9 65 44 = Int32.ofInt (D.length : Nat) ∧ I9 65 45 = Int32.ofInt (w : Nat) ∧ I9 65 46 = Int32.ofInt (e : Nat) ∧ I9 65 47 = Int32.ofInt (pn A : Nat) ∧ I9 65 48 = Int32.ofInt ((pb A % pn A : Nat) : Int) ∧ I9 65 49 = Int32.ofInt (pk_ A : Nat) ∧ I9 65 50 = Int32.ofInt (pt_ A : Nat) ∧ I9 65 51 = Int32.ofInt (pa_ A : Nat) ∧ I9 65 52 = Int32.ofInt (oi (by_ A) (-1)) ∧ I9 65 53 = zB (A 6).isSome) ∧ (I9 65 80 = Int32.ofInt 0 ∧ I9 65 88 = Int32.ofInt 0) ∧ (∀ b, b < 3 → I9 107 b = Int32.ofInt 0) ∧ MX Pp (fr3 Pp (pb A % pn A)) I9
section
variable {SL : Nat} {xs : Nat → Int32} {d : Nat} {p s q : Nat} {Q : Option Value → mm_H → Prop} {I : Nat → Nat → Int32} {J : Nat → Nat → Int64} {A : Nat → Option Nat} {G : List (Nat × Nat)} {w e : Nat} {P D : List (Nat × Nat)} {u : Nat} {C : List Int} {Pp : plT}
theorem m_ring2 {I2 : Nat → Nat → Int32} (hP : pw Pp) (hn : p_n Pp = pn A) (h : MB A G w e P D u C I J) (hw : LW A G w e P D u C) (g : m47 A C I I2) (k : ∀ I9, RG A G w e P D u C Pp I I9 → Q (some (.int (Int32.ofInt (pn A : Nat)))) (hp p s q I9 J)) : w_X11_ring_182 SL xs d p s q Q (Int32.ofInt 0) I2 J := by
  obtain ⟨gr, gk, g47, g48, g49, g50, g51, g52, g53, g20⟩ := g
  obtain ⟨_, ⟨h37, _⟩, ⟨h40, h41⟩, ⟨h38, _⟩, ⟨h39, _⟩, h18, _, h19⟩ := h
  refine cp_182 (m := C.length) (by have := hw.2.2.2.2.2.2.1; omega) C.length 0 I2 (Nat.zero_add _) g20 (fun k hk => absurd hk (Nat.not_lt_zero k)) (fun I3 a3 b3 => ?_)
  obtain ⟨v42, v43, v44, v45, v46, v21⟩ := t182_v (I := I3)
  have r3 : I3 65 = I2 65 := a3 65 (by omega) (by omega)
  have t42 : t182 I3 65 42 = Int32.ofInt (G.length : Nat) := by rw [v42, r3, gk 37 (by omega) (by omega)]; exact h37
  refine cp_270 (m := G.length) hw.2.1.1 G.length 0 _ (Nat.zero_add _) t42 (fun k hk => absurd hk (Nat.not_lt_zero k)) (fun I4 a4 b4 => ?_)
  have r4 : I4 65 = t182 I3 65 := a4 65 (by omega) (by omega)
  have t43 : I4 65 43 = Int32.ofInt (P.length : Nat) := by rw [r4, v43, r3, gk 38 (by omega) (by omega)]; exact h38
  refine cp_310 (m := P.length) hw.2.2.2.1.1 P.length 0 _ (Nat.zero_add _) t43 (fun k hk => absurd hk (Nat.not_lt_zero k)) (fun I5 a5 b5 => ?_)
  have r5 : I5 65 = t182 I3 65 := by rw [a5 65 (by omega), r4]
  have t44 : I5 65 44 = Int32.ofInt (D.length : Nat) := by rw [r5, v44, r3, gk 39 (by omega) (by omega)]; exact h39
  refine cp_338 (m := D.length) hw.2.2.2.2.1.1 D.length 0 _ (Nat.zero_add _) t44 (fun k hk => absurd hk (Nat.not_lt_zero k)) (fun I6 a6 b6 => ?_)
  have r6 : I6 65 = t182 I3 65 := by rw [a6 65 (by omega) (by omega), r5]
  have u48 : I5 65 48 = Int32.ofInt ((pb A % pn A : Nat) : Int) := by rw [r5, t182_k (by omega) (by omega), r3]; exact g48
  have u47 : I6 65 47 = Int32.ofInt (p_n Pp : Nat) := by rw [r6, t182_k (by omega) (by omega), r3, hn]; exact g47
  rw [u48]
  refine m_fresh (P := Pp) hP u47 (fun I7 f7 mt e78 e76 e77 => ⟨_, _, rfl, rfl, ?_⟩)
  have g7 : ∀ k, k < 59 ∨ (64 < k ∧ k < 76) ∨ 78 < k → I7 65 k = t182 I3 65 k := fun k hk => by rw [f7.2 k hk, r6]
  refine cp_396 3 0 _ rfl (fun k hk => absurd hk (Nat.not_lt_zero k)) (fun I8 a8 b8 => ?_)
  have g8' : ∀ k, k ≠ 80 → k ≠ 88 → I8 65 k = I7 65 k := fun k h1 h2 => by rw [a8 65 (by omega), mu_ne h1, mu_ne h2]
  have r8 : ∀ r, r ≠ 65 → r ≠ 107 → I8 r = I7 r := fun r h1 h2 => by rw [a8 r h2, mu_row h1, mu_row h1]
  have rall : ∀ r, r ≠ 65 → r ≠ 107 → (r < 87 ∨ 91 < r) → r ≠ 83 → r ≠ 84 → r ≠ 82 → r ≠ 80 → r ≠ 81 → I8 r = I3 r := fun r h1 h2 h3 h4 h5 h6 h7 h8 => by
    rw [r8 r h1 h2, f7.1 r h1 h3, a6 r h4 h5, a5 r h6, a4 r h7 h8, t182_r h1]
  have kk : ∀ k, k ≠ 80 → k ≠ 88 → (k < 59 ∨ (64 < k ∧ k < 76) ∨ 78 < k) → I8 65 k = t182 I3 65 k := fun k h1 h2 h3 => by rw [g8' k h1 h2, g7 k h3]
  have k47 : mm_u (mm_u I7 65 88 (Int32.ofInt 0)) 65 80 (Int32.ofInt 0) 65 47 = Int32.ofInt (pn A : Nat) := by
    rw [mu_ne (by omega), mu_ne (by omega), g7 47 (by omega), t182_k (by omega) (by omega), r3]; exact g47
  rw [k47]
  refine k I8 ⟨fun r h1 h2 h3 h4 h5 h6 => ?_, fun k hk => ?_, fun k hk => ?_, fun k hk => ?_, fun k hk => ?_, fun k hk => ?_, ⟨?_, ?_, ?_, ?_, ?_, ?_, ?_, ?_, ?_, ?_, ?_, ?_, ?_, ?_⟩, ⟨?_, ?_⟩, b8, ?_⟩
  · rw [rall r h1 h6 h5 (by omega) (by omega) (by omega) (by omega) (by omega), a3 r h2 h3, gr r h1]
  · rw [kk k (by omega) (by omega) (by omega), t182_k (by omega) (by omega), r3, gk k (by omega) (by omega)]
  · have := b3 k hk
    rw [rall 69 (by omega) (by omega) (by omega) (by omega) (by omega) (by omega) (by omega) (by omega), rall 70 (by omega) (by omega) (by omega) (by omega) (by omega) (by omega) (by omega) (by omega), this.1, this.2, gr 67 (by omega), gr 68 (by omega)]; exact ⟨rfl, rfl⟩
  · have := b4 k hk
    rw [r8 80 (by omega) (by omega), r8 81 (by omega) (by omega), f7.1 80 (by omega) (by omega), f7.1 81 (by omega) (by omega), a6 80 (by omega) (by omega), a6 81 (by omega) (by omega), a5 80 (by omega), a5 81 (by omega), this.1, this.2, t182_r (by omega), t182_r (by omega), a3 75 (by omega) (by omega), a3 76 (by omega) (by omega), gr 75 (by omega), gr 76 (by omega)]; exact ⟨rfl, rfl⟩
  · rw [r8 82 (by omega) (by omega), f7.1 82 (by omega) (by omega), a6 82 (by omega) (by omega), b5 k hk, a4 77 (by omega) (by omega), t182_r (by omega), a3 77 (by omega) (by omega), gr 77 (by omega)]
  · have := b6 k hk
    rw [r8 83 (by omega) (by omega), r8 84 (by omega) (by omega), f7.1 83 (by omega) (by omega), f7.1 84 (by omega) (by omega), this.1, this.2, a5 78 (by omega), a5 79 (by omega), a4 78 (by omega) (by omega), a4 79 (by omega) (by omega), t182_r (by omega), t182_r (by omega), a3 78 (by omega) (by omega), a3 79 (by omega) (by omega), gr 78 (by omega), gr 79 (by omega)]; exact ⟨rfl, rfl⟩
  · rw [kk 20 (by omega) (by omega) (by omega), t182_k (by omega) (by omega), r3]; exact g20
  · rw [kk 21 (by omega) (by omega) (by omega), v21, r3, gk 19 (by omega) (by omega)]; exact h19
  · rw [kk 42 (by omega) (by omega) (by omega)]; exact t42
  · rw [kk 43 (by omega) (by omega) (by omega), ← r4]; exact t43
  · rw [kk 44 (by omega) (by omega) (by omega), ← r5]; exact t44
  · rw [kk 45 (by omega) (by omega) (by omega), v45, r3, gk 40 (by omega) (by omega)]; exact h40
  · rw [kk 46 (by omega) (by omega) (by omega), v46, r3, gk 41 (by omega) (by omega)]; exact h41
  · rw [kk 47 (by omega) (by omega) (by omega), t182_k (by omega) (by omega), r3]; exact g47
  · rw [kk 48 (by omega) (by omega) (by omega), t182_k (by omega) (by omega), r3]; exact g48
  · rw [kk 49 (by omega) (by omega) (by omega), t182_k (by omega) (by omega), r3]; exact g49
  · rw [kk 50 (by omega) (by omega) (by omega), t182_k (by omega) (by omega), r3]; exact g50
  · rw [kk 51 (by omega) (by omega) (by omega), t182_k (by omega) (by omega), r3]; exact g51
  · rw [kk 52 (by omega) (by omega) (by omega), t182_k (by omega) (by omega), r3]; exact g52
  · rw [kk 53 (by omega) (by omega) (by omega), t182_k (by omega) (by omega), r3]; exact g53
  · rw [a8 65 (by omega), mu_at]
  · rw [a8 65 (by omega), mu_ne (by omega), mu_at]
  · refine ⟨MT_c (fun r a b => r8 r (by omega) (by omega)) (fun k a b => g8' k (by omega) (by omega)) mt, ?_, ?_, ?_⟩
    · rw [g8' 76 (by omega) (by omega)]; exact e76
    · rw [g8' 77 (by omega) (by omega)]; exact e77
    · rw [g8' 78 (by omega) (by omega), g8' 49 (by omega) (by omega), e78, f7.2 49 (by omega)]
end
