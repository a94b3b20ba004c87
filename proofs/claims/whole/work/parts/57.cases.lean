/-! guessed rules: the search -/
def f29 (I I2 : Nat → Nat → Int32) : Prop := (∀ r, r ≠ 29 → I2 r = I r) ∧ I2 29 1 = I 29 1
theorem f29_t {I I2 I3 : Nat → Nat → Int32} (a : f29 I I2) (b : f29 I2 I3) : f29 I I3 := ⟨fun r h => by rw [b.1 r h, a.1 r h], by rw [b.2, a.2]⟩
def f98 (I I2 : Nat → Nat → Int32) : Prop := ∀ r, r ≠ 98 → I2 r = I r
theorem f98_t {I I2 I3 : Nat → Nat → Int32} (a : f98 I I2) (b : f98 I2 I3) : f98 I I3 := fun r h => by rw [b r h, a r h]
def cG (n l : Nat) (V : Nat → Nat) (t : gT) (I : Nat → Nat → Int32) : Prop := gWf t.2 ∧ I 29 1 = Int32.ofInt (l : Nat) ∧ (∀ i, i < l → V i < 60 ∧ I 30 i = Int32.ofInt (V i : Nat)) ∧ I 29 2 = Int32.ofInt (t.1 : Nat) ∧ I 29 3 = Int32.ofInt (gO t.2)
def mG (n l : Nat) (V : Nat → Nat) (t : gT) (v5 : Int32) (I : Nat → Nat → Int32) : Prop := gWf t.2 ∧ I 65 80 = Int32.ofInt (l : Nat) ∧ (∀ i, i < l → V i < 60 ∧ I 97 i = Int32.ofInt (V i : Nat)) ∧ ∀ w, t.2 = some w → v5 = Int32.ofInt (w.1 : Nat)
def GG (n l : Nat) (V : Nat → Nat) (a b c : Nat) : Bool := gB2 n V a b c l 0
theorem sum3 {a b c : Nat} : Int32.ofInt (a : Nat) + Int32.ofInt (b : Nat) + Int32.ofInt (c : Nat) = Int32.ofInt ((a + b + c : Nat) : Int) := by rw [z_add, z_add]; rfl
theorem cod3 {a b c : Nat} : Int32.ofInt 10000 * Int32.ofInt (a : Nat) + Int32.ofInt 100 * Int32.ofInt (b : Nat) + Int32.ofInt (c : Nat) = Int32.ofInt ((10000 * a + 100 * b + c : Nat) : Int) := by rw [z_mul, z_mul, z_add, z_add]; rfl
section
variable {SL : Nat} {xs : Nat → Int32} {d : Nat} {p s q : Nat} {Q : Option Value → mm_H → Prop} {J : Nat → Nat → Int64}
theorem try50 {n l a b : Nat} {V : Nat → Nat} (n1 : 1 ≤ n) (n2 : n ≤ 60) (hl : l ≤ n) (a1 : 1 ≤ a) (a2 : a ≤ 12) (b1 : 1 ≤ b) (b2 : b ≤ 12) : ∀ (f c : Nat) (t : gT) (I : Nat → Nat → Int32), c + f = 7 → cG n l V t I → (∀ I2, f29 I I2 → cG n l V (gL3 (GG n l V) a b f c t) I2 → w_X3_tryRules_40 SL xs d p s q Q (Int32.ofInt (n : Nat)) (Int32.ofInt (gM (gL3 (GG n l V) a b f c t).2)) (Int32.ofInt (a : Nat)) (Int32.ofInt ((b + 1 : Nat) : Int)) I2 J) → w_X3_tryRules_50 SL xs d p s q Q (Int32.ofInt (n : Nat)) (Int32.ofInt (gM t.2)) (Int32.ofInt (a : Nat)) (Int32.ofInt (b : Nat)) (Int32.ofInt (c : Nat)) I J
  | 0, c, t, I, hf, hI, kq => by
    obtain rfl : c = 7 := by omega
    refine sg_X3_tryRules_50 ⟨fun _ => ?_, fun h => absurd (by rw [z_lt (by omega)]; omega) h⟩
    rw [z_p1]
    exact kq I ⟨fun _ _ => rfl, rfl⟩ hI
  | f + 1, c, t, I, hf, hI, kq => by
    have hI' := hI
    obtain ⟨h1, h2, h3, h4, h5⟩ := hI'
    have hgb := gM_b h1
    refine sg_X3_tryRules_50 ⟨fun h => ?_, fun _ => sg_X3_isBy ?_⟩
    · rw [z_lt (by omega)] at h; omega
    · rw [bs_all n2]
      refine isBy_c (V := V) (c := c) n2 hl a1 a2 b1 b2 (by omega) h2 h3 l 0 (Nat.zero_add l) nS_0 (fun _ => n1) ⟨_, _, _, rfl, rfl, ?_⟩
      rw [zB_0, sum3, cod3, z_p1, z_le (by omega), h4, z_p1]
      rw [gL3] at kq
      refine ⟨fun h => ?_, fun h => ⟨fun h6 => ?_, fun h6 => ?_⟩⟩
      · rw [if_neg (by show ¬ gB2 n V a b c l 0 = true; rw [h]; decide)] at kq
        exact try50 n1 n2 hl a1 a2 b1 b2 f (c + 1) t I (by omega) hI kq
      · have hg : GG n l V a b c = true := by show gB2 n V a b c l 0 = true; simpa using h
        have ea : gA t.2 a b c = t.2 := by unfold gA; rw [if_neg (by omega)]
        rw [if_pos hg] at kq
        have e2 : (t.1 + 1, gA t.2 a b c).2 = t.2 := ea
        rw [← e2]
        refine try50 n1 n2 hl a1 a2 b1 b2 f (c + 1) (t.1 + 1, gA t.2 a b c) _ (by omega) ⟨by rw [e2]; exact h1, ?_, fun i hi => by rw [mu_row (by omega)]; exact h3 i hi, mu_at, ?_⟩ (fun I2 g1 g2 => kq I2 (f29_t ⟨fun r hr => mu_row hr, mu_ne (by omega)⟩ g1) g2)
        · rw [mu_ne (by omega)]; exact h2
        · rw [mu_ne (by omega), e2]; exact h5
      · have hg : GG n l V a b c = true := by show gB2 n V a b c l 0 = true; simpa using h
        have ea : gA t.2 a b c = some (a + b + c, 10000 * a + 100 * b + c) := by unfold gA; rw [if_pos (by omega)]
        rw [if_pos hg] at kq
        have e2 : (t.1 + 1, gA t.2 a b c).2 = some (a + b + c, 10000 * a + 100 * b + c) := ea
        have e3 : Int32.ofInt ((a + b + c : Nat) : Int) = Int32.ofInt (gM (t.1 + 1, gA t.2 a b c).2) := by rw [e2]; rfl
        rw [e3]
        refine try50 n1 n2 hl a1 a2 b1 b2 f (c + 1) (t.1 + 1, gA t.2 a b c) _ (by omega) ⟨gA_w a2 b2 (by omega) h1, ?_, fun i hi => by rw [mu_row (by omega), mu_row (by omega)]; exact h3 i hi, ?_, ?_⟩ (fun I2 g1 g2 => kq I2 (f29_t ⟨fun r hr => by rw [mu_row hr, mu_row hr], by rw [mu_ne (by omega), mu_ne (by omega)]⟩ g1) g2)
        · rw [mu_ne (by omega), mu_ne (by omega)]; exact h2
        · rw [mu_ne (by omega), mu_at]
        · rw [mu_at, e2]; rfl
theorem try40 {n l a : Nat} {V : Nat → Nat} (n1 : 1 ≤ n) (n2 : n ≤ 60) (hl : l ≤ n) (a1 : 1 ≤ a) (a2 : a ≤ 12) : ∀ (f b : Nat) (t : gT) (I : Nat → Nat → Int32), b + f = 13 → 1 ≤ b → cG n l V t I → (∀ I2, f29 I I2 → cG n l V (gL2 (GG n l V) a f b t) I2 → w_X3_tryRules_31 SL xs d p s q Q (Int32.ofInt (n : Nat)) (Int32.ofInt (gM (gL2 (GG n l V) a f b t).2)) (Int32.ofInt ((a + 1 : Nat) : Int)) I2 J) → w_X3_tryRules_40 SL xs d p s q Q (Int32.ofInt (n : Nat)) (Int32.ofInt (gM t.2)) (Int32.ofInt (a : Nat)) (Int32.ofInt (b : Nat)) I J
  | 0, b, t, I, hf, b1, hI, kq => by
    obtain rfl : b = 13 := by omega
    refine sg_X3_tryRules_40 ⟨fun _ => ?_, fun h => absurd (by rw [z_lt (by omega)]; omega) h⟩
    rw [z_p1]
    exact kq I ⟨fun _ _ => rfl, rfl⟩ hI
  | f + 1, b, t, I, hf, b1, hI, kq => by
    refine sg_X3_tryRules_40 ⟨fun h => ?_, fun _ => ?_⟩
    · rw [z_lt (by omega)] at h; omega
    · exact try50 n1 n2 hl a1 a2 b1 (by omega) 7 0 t I rfl hI (fun I2 g1 g2 => try40 n1 n2 hl a1 a2 f (b + 1) _ I2 (by omega) (by omega) g2 (fun I3 g3 g4 => kq I3 (f29_t g1 g3) g4))
theorem try31 {n l : Nat} {V : Nat → Nat} (n1 : 1 ≤ n) (n2 : n ≤ 60) (hl : l ≤ n) : ∀ (f a : Nat) (t : gT) (I : Nat → Nat → Int32), a + f = 13 → 1 ≤ a → cG n l V t I → (∀ I2, f29 I I2 → cG n l V (gL1 (GG n l V) f a t) I2 → Q none (hp p s q I2 J)) → w_X3_tryRules_31 SL xs d p s q Q (Int32.ofInt (n : Nat)) (Int32.ofInt (gM t.2)) (Int32.ofInt (a : Nat)) I J
  | 0, a, t, I, hf, a1, hI, kq => by
    obtain rfl : a = 13 := by omega
    exact sg_X3_tryRules_31 ⟨fun _ => kq I ⟨fun _ _ => rfl, rfl⟩ hI, fun h => absurd (by rw [z_lt (by omega)]; omega) h⟩
  | f + 1, a, t, I, hf, a1, hI, kq => by
    refine sg_X3_tryRules_31 ⟨fun h => ?_, fun _ => ?_⟩
    · rw [z_lt (by omega)] at h; omega
    · exact try40 n1 n2 hl a1 (by omega) 12 1 t I rfl (by omega) hI (fun I2 g1 g2 => try31 n1 n2 hl f (a + 1) _ I2 (by omega) (by omega) g2 (fun I3 g3 g4 => kq I3 (f29_t g1 g3) g4))
theorem gue64 {n l a b : Nat} {V : Nat → Nat} {v2 : Int32} (n1 : 1 ≤ n) (n2 : n ≤ 60) (hl : l ≤ n) (a1 : 1 ≤ a) (a2 : a ≤ 12) (b1 : 1 ≤ b) (b2 : b ≤ 12) : ∀ (f c : Nat) (t : gT) (v5 : Int32) (I : Nat → Nat → Int32), c + f = 7 → mG n l V t v5 I → (∀ I2 v5, f98 I I2 → mG n l V (gL3 (GG n l V) a b f c t) v5 I2 → w_X11_guess_54 SL xs d p s q Q (Int32.ofInt (n : Nat)) v2 (Int32.ofInt ((gL3 (GG n l V) a b f c t).1 : Nat)) (Int32.ofInt (gO (gL3 (GG n l V) a b f c t).2)) v5 (Int32.ofInt (a : Nat)) (Int32.ofInt ((b + 1 : Nat) : Int)) I2 J) → w_X11_guess_64 SL xs d p s q Q (Int32.ofInt (n : Nat)) v2 (Int32.ofInt (t.1 : Nat)) (Int32.ofInt (gO t.2)) v5 (Int32.ofInt (a : Nat)) (Int32.ofInt (b : Nat)) (Int32.ofInt (c : Nat)) I J
  | 0, c, t, v5, I, hf, hI, kq => by
    obtain rfl : c = 7 := by omega
    refine sg_X11_guess_64 ⟨fun _ => ?_, fun h => absurd (by rw [z_lt (by omega)]; omega) h⟩
    rw [z_p1]
    exact kq I v5 (fun _ _ => rfl) hI
  | f + 1, c, t, v5, I, hf, hI, kq => by
    obtain ⟨h1, h2, h3, h4⟩ := hI
    have hgb := gM_b h1
    refine sg_X11_guess_64 ⟨fun h => ?_, fun _ => sg_X11_goesSo ?_⟩
    · rw [z_lt (by omega)] at h; omega
    · refine goes_f (V := V) (c := c) n1 n2 hl a1 a2 b1 b2 (by omega) n 0 I (Nat.zero_add n) h2 h3 (fun x hx => absurd hx (Nat.not_lt_zero x)) (fun I2 g => ⟨_, _, _, rfl, rfl, ?_⟩)
      have f2 : f98 I I2 := g
      have m2 : ∀ (t2 : gT) (w5 : Int32), gWf t2.2 → (∀ w, t2.2 = some w → w5 = Int32.ofInt (w.1 : Nat)) → mG n l V t2 w5 I2 := fun t2 w5 a b => ⟨a, by rw [g 65 (by omega)]; exact h2, fun i hi => by rw [g 97 (by omega)]; exact h3 i hi, b⟩
      rw [zB_0, sum3, cod3, z_p1, z_p1, z_lt (by omega)]
      rw [gL3] at kq
      have hnew : GG n l V a b c = true → gA t.2 a b c = some (a + b + c, 10000 * a + 100 * b + c) → w_X11_guess_64 SL xs d p s q Q (Int32.ofInt (n : Nat)) v2 (Int32.ofInt ((t.1 + 1 : Nat) : Int)) (Int32.ofInt ((10000 * a + 100 * b + c : Nat) : Int)) (Int32.ofInt ((a + b + c : Nat) : Int)) (Int32.ofInt (a : Nat)) (Int32.ofInt (b : Nat)) (Int32.ofInt ((c + 1 : Nat) : Int)) I2 J := fun hg ea => by
        rw [if_pos hg] at kq
        have e2 : (t.1 + 1, gA t.2 a b c).2 = some (a + b + c, 10000 * a + 100 * b + c) := ea
        have e3 : Int32.ofInt ((10000 * a + 100 * b + c : Nat) : Int) = Int32.ofInt (gO (t.1 + 1, gA t.2 a b c).2) := by rw [e2]; rfl
        rw [e3]
        exact gue64 n1 n2 hl a1 a2 b1 b2 f (c + 1) (t.1 + 1, gA t.2 a b c) _ I2 (by omega) (m2 _ _ (gA_w a2 b2 (by omega) h1) (fun w hw => by rw [e2] at hw; injection hw with hw; subst hw; rfl)) (fun I3 v5 g1 g2 => kq I3 v5 (f98_t f2 g1) g2)
      refine ⟨fun h => ?_, fun h => ?_⟩
      · rw [if_neg (by show ¬ gB2 n V a b c l 0 = true; rw [h]; decide)] at kq
        exact gue64 n1 n2 hl a1 a2 b1 b2 f (c + 1) t v5 I2 (by omega) (m2 _ _ h1 h4) (fun I3 v5 g1 g2 => kq I3 v5 (f98_t f2 g1) g2)
      · have hg : GG n l V a b c = true := by show gB2 n V a b c l 0 = true; simpa using h
        cases ho : t.2 with
        | none =>
          refine ⟨fun _ => hnew hg ?_, fun h6 => absurd (by decide) h6⟩
          rw [ho]; unfold gA; rw [if_pos (by show ((a + b + c : Nat) : Int) < 2147483647; omega)]
        | some w =>
          have hw := h1 w ho
          rw [h4 w ho, z_lt (by omega)]
          refine ⟨fun h6 => absurd h6 (by show ¬ ((w.2 : Nat) : Int) < 0; omega), fun _ => ⟨fun h6 => hnew hg ?_, fun h6 => ?_⟩⟩
          · rw [ho]; unfold gA; rw [if_pos (by show ((a + b + c : Nat) : Int) < ((w.1 : Nat) : Int); exact h6)]
          · have ea : gA t.2 a b c = t.2 := by rw [ho]; unfold gA; rw [if_neg (by show ¬ ((a + b + c : Nat) : Int) < ((w.1 : Nat) : Int); exact h6)]
            rw [if_pos hg, ea] at kq
            rw [← ho]
            exact gue64 n1 n2 hl a1 a2 b1 b2 f (c + 1) (t.1 + 1, t.2) _ I2 (by omega) (m2 _ _ h1 (fun w2 hw2 => by rw [ho] at hw2; injection hw2 with hw2; subst hw2; rfl)) (fun I3 v5 g1 g2 => kq I3 v5 (f98_t f2 g1) g2)
theorem gue54 {n l a : Nat} {V : Nat → Nat} {v2 : Int32} (n1 : 1 ≤ n) (n2 : n ≤ 60) (hl : l ≤ n) (a1 : 1 ≤ a) (a2 : a ≤ 12) : ∀ (f b : Nat) (t : gT) (v5 : Int32) (I : Nat → Nat → Int32), b + f = 13 → 1 ≤ b → mG n l V t v5 I → (∀ I2 v5, f98 I I2 → mG n l V (gL2 (GG n l V) a f b t) v5 I2 → w_X11_guess_29 SL xs d p s q Q (Int32.ofInt (n : Nat)) v2 (Int32.ofInt ((gL2 (GG n l V) a f b t).1 : Nat)) (Int32.ofInt (gO (gL2 (GG n l V) a f b t).2)) v5 (Int32.ofInt ((a + 1 : Nat) : Int)) I2 J) → w_X11_guess_54 SL xs d p s q Q (Int32.ofInt (n : Nat)) v2 (Int32.ofInt (t.1 : Nat)) (Int32.ofInt (gO t.2)) v5 (Int32.ofInt (a : Nat)) (Int32.ofInt (b : Nat)) I J
  | 0, b, t, v5, I, hf, b1, hI, kq => by
    obtain rfl : b = 13 := by omega
    refine sg_X11_guess_54 ⟨fun _ => ?_, fun h => absurd (by rw [z_lt (by omega)]; omega) h⟩
    rw [z_p1]
    exact kq I v5 (fun _ _ => rfl) hI
  | f + 1, b, t, v5, I, hf, b1, hI, kq => by
    refine sg_X11_guess_54 ⟨fun h => ?_, fun _ => ?_⟩
    · rw [z_lt (by omega)] at h; omega
    · exact gue64 n1 n2 hl a1 a2 b1 (by omega) 7 0 t v5 I rfl hI (fun I2 v5 g1 g2 => gue54 n1 n2 hl a1 a2 f (b + 1) _ v5 I2 (by omega) (by omega) g2 (fun I3 v5 g3 g4 => kq I3 v5 (f98_t g1 g3) g4))
theorem gue29 {n l : Nat} {V : Nat → Nat} {v2 : Int32} (n1 : 1 ≤ n) (n2 : n ≤ 60) (l1 : 1 ≤ l) (hl : l ≤ n) : ∀ (f a : Nat) (t : gT) (v5 : Int32) (I : Nat → Nat → Int32), a + f = 13 → 1 ≤ a → mG n l V t v5 I → (∀ I2, f98 I I2 → (v2 = Int32.ofInt 0 → Q (some (.int (Int32.ofInt ((gL1 (GG n l V) f a t).1 : Nat)))) (hp p s q I2 J)) ∧ (¬ v2 = Int32.ofInt 0 → Q (some (.int (Int32.ofInt (gO (gL1 (GG n l V) f a t).2)))) (hp p s q I2 J))) → w_X11_guess_29 SL xs d p s q Q (Int32.ofInt (n : Nat)) v2 (Int32.ofInt (t.1 : Nat)) (Int32.ofInt (gO t.2)) v5 (Int32.ofInt (a : Nat)) I J
  | 0, a, t, v5, I, hf, a1, hI, kq => by
    obtain rfl : a = 13 := by omega
    exact sg_X11_guess_29 ⟨fun _ => kq I (fun _ _ => rfl), fun h => absurd (by rw [z_lt (by omega)]; omega) h⟩
  | f + 1, a, t, v5, I, hf, a1, hI, kq => by
    refine sg_X11_guess_29 ⟨fun h => ?_, fun _ => ⟨fun h => ?_, fun _ => ⟨fun h => ?_, fun _ => ?_⟩⟩⟩
    · rw [z_lt (by omega)] at h; omega
    · rw [hI.2.1, z_le (by omega)] at h; omega
    · rw [hI.2.1, z_lt (by omega)] at h; omega
    · exact gue54 n1 n2 hl a1 (by omega) 12 1 t v5 I rfl (by omega) hI (fun I2 v5 g1 g2 => gue29 n1 n2 l1 hl f (a + 1) _ v5 I2 (by omega) (by omega) g2 (fun I3 g3 => kq I3 (f98_t g1 g3)))
end
theorem QS_29 {p s q : Nat} {P : plT} {bg : Nat} {x : trT} {I I2 : Nat → Nat → Int32} {J : Nat → Nat → Int64} (f : f29 I I2) (h : QS p s q P bg x I J) : QS p s q P bg x I2 J :=
  ⟨RX_f (I := I) (J := J) ⟨fun x h => f.1 x (by unfold scr at h; omega), fun k _ => by rw [f.1 65 (by omega)], f.2, fun _ _ _ _ => rfl⟩ h.1, MX_c (fun r z => f.1 r (by omega)) h.2⟩
theorem QS_98 {p s q : Nat} {P : plT} {bg : Nat} {x : trT} {I I2 : Nat → Nat → Int32} {J : Nat → Nat → Int64} (f : f98 I I2) (h : QS p s q P bg x I J) : QS p s q P bg x I2 J :=
  ⟨RX_f (I := I) (J := J) ⟨fun x h => f x (by unfold scr at h; omega), fun k _ => by rw [f 65 (by omega)], by rw [f 29 (by omega)], fun _ _ _ _ => rfl⟩ h.1, MX_c (fun r z => f r (by omega)) h.2⟩
theorem ca_guess {SL : Nat} {xs : Nat → Int32} {d : Nat} {h : mm_H} {Q : Option Value → mm_H → Prop} {a0 : Int32} {a1 : Int32} (hd : 150 ≤ d) (hiv : iv h) (k : ∀ (r : Int32) (h1 : mm_H), h1.2.1 65 = .inr 9 → (∀ Q2 : Option Value → mm_H → Prop, (∀ h2, iv h2 → Q2 (some (.int r)) h2) → mm_s SL xs d 247 [.ref 65, .int a0, .int a1] h1 Q2) → Q (some (.int r)) h1) : mm_s SL xs d 140 [.ref 2, .int a0, .int a1] h Q := by
  obtain ⟨e, rfl⟩ : ∃ e, d = e + 20 := ⟨d - 20, by omega⟩
  obtain ⟨_, _, p, s, q, I, J, rfl, P, bg, x, hR, hM⟩ := hiv
  have hS : QS p s q P bg x I J := ⟨hR, hM⟩
  refine sg_X10_guess ⟨fun h => k _ _ rfl (fun Q2 k2 => sg_X11_guess ⟨fun _ => k2 _ (QS_iv hS), fun h2 => absurd h h2⟩), fun h => ⟨fun h1 => ?_, fun h1 => ?_⟩⟩
  · rw [zo_z] at h1
    refine k _ _ rfl (fun Q2 k2 => sg_X11_guess ⟨fun z => absurd z h, fun _ => ⟨fun _ => k2 _ (QS_iv hS), fun h2 => ⟨fun h3 => absurd ?_ h1, fun _ => k2 _ (QS_iv hS)⟩⟩⟩)
    obtain ⟨z, z1, z2, rfl⟩ := z_of a1
    rw [z_lt (by omega)] at h2
    rw [z_le (by omega)] at h3
    rcases (show z = 0 ∨ z = 1 by omega) with e | e
    · exact Or.inl (by rw [e])
    · exact Or.inr (by rw [e])
  · rw [zo_z, Classical.not_not] at h1
    have hlt : ¬ a1 < Int32.ofInt 0 := by rcases h1 with e | e <;> rw [e] <;> decide
    have hle : a1 ≤ Int32.ofInt 1 := by rcases h1 with e | e <;> rw [e] <;> decide
    have h' := h
    rw [pl_z, Classical.not_not] at h'
    obtain ⟨n, n1, n2, rfl⟩ := h'
    obtain ⟨l, l1, l2, l3, l4⟩ := hR.2.2.2.2.2.1
    have l4' : ∃ V : Nat → Nat, ∀ i, i < l → V i < 60 ∧ I 30 i = Int32.ofInt (V i : Nat) ∧ I 97 i = Int32.ofInt (V i : Nat) := by
      refine ⟨fun i => (I 30 i).toInt.toNat, fun i hi => ?_⟩
      obtain ⟨v, v1, v2, v3⟩ := l4 i hi
      have e1 : (I 30 i).toInt.toNat = v := by rw [v2, z_to (by omega) (by omega)]; exact Int.toNat_natCast v
      simp only [e1]
      exact ⟨v1, v2, v3⟩
    obtain ⟨V, hV⟩ := l4'
    have f0 : f29 I (mm_u (mm_u I 29 2 (Int32.ofInt 0)) 29 3 (Int32.ofInt (-1))) := ⟨fun r hr => by rw [mu_row hr, mu_row hr], by rw [mu_ne (by omega), mu_ne (by omega)]⟩
    have e65 : mm_u (mm_u I 29 2 (Int32.ofInt 0)) 29 3 (Int32.ofInt (-1)) 65 80 = Int32.ofInt (l : Nat) := by rw [f0.1 65 (by omega)]; exact l3
    have none_ : (l = 0 ∨ n < l) → (a1 = Int32.ofInt 0 → Q (some (.int (mm_u (mm_u I 29 2 (Int32.ofInt 0)) 29 3 (Int32.ofInt (-1)) 29 2))) (hp p s q (mm_u (mm_u I 29 2 (Int32.ofInt 0)) 29 3 (Int32.ofInt (-1))) J)) ∧ (¬ a1 = Int32.ofInt 0 → Q (some (.int (mm_u (mm_u I 29 2 (Int32.ofInt 0)) 29 3 (Int32.ofInt (-1)) 29 3))) (hp p s q (mm_u (mm_u I 29 2 (Int32.ofInt 0)) 29 3 (Int32.ofInt (-1))) J)) := fun hno => by
      rw [show mm_u (mm_u I 29 2 (Int32.ofInt 0)) 29 3 (Int32.ofInt (-1)) 29 2 = Int32.ofInt 0 by rw [mu_ne (by omega), mu_at], show mm_u (mm_u I 29 2 (Int32.ofInt 0)) 29 3 (Int32.ofInt (-1)) 29 3 = Int32.ofInt (-1) from mu_at]
      have body : ∀ (Q2 : Option Value → mm_H → Prop), ((a1 = Int32.ofInt 0 → Q2 (some (.int (Int32.ofInt 0))) (hp p s q (mm_u (mm_u I 29 2 (Int32.ofInt 0)) 29 3 (Int32.ofInt (-1))) J)) ∧ (¬ a1 = Int32.ofInt 0 → Q2 (some (.int (Int32.ofInt (-1)))) (hp p s q (mm_u (mm_u I 29 2 (Int32.ofInt 0)) 29 3 (Int32.ofInt (-1))) J))) → mm_s SL xs (e + 20) 247 [.ref 65, .int (Int32.ofInt (n : Nat)), .int a1] (hp p s q (mm_u (mm_u I 29 2 (Int32.ofInt 0)) 29 3 (Int32.ofInt (-1))) J) Q2 := fun Q2 kk => by
        refine sg_X11_guess ⟨fun z => absurd z h, fun _ => ⟨fun z => absurd z hlt, fun _ => ⟨fun _ => ?_, fun z => absurd hle z⟩⟩⟩
        refine sg_X11_guess_29 ⟨fun z => absurd z (by decide), fun _ => ⟨fun _ => kk, fun z => ⟨fun _ => kk, fun z2 => ?_⟩⟩⟩
        rw [e65, z_le (by omega)] at z
        rw [e65, z_lt (by omega)] at z2
        omega
      exact ⟨fun h2 => k _ _ rfl (fun Q2 k2 => body Q2 ⟨fun _ => k2 _ (QS_iv (QS_29 f0 hS)), fun z => absurd h2 z⟩), fun h2 => k _ _ rfl (fun Q2 k2 => body Q2 ⟨fun z => absurd z h2, fun _ => k2 _ (QS_iv (QS_29 f0 hS))⟩)⟩
    refine sg_X3_tryRules ⟨fun h0 => ⟨_, _, rfl, rfl, ?_⟩, fun h0 => ⟨fun h2 => ?_, fun h2 => ⟨_, _, rfl, rfl, ?_⟩⟩⟩
    · rw [l2, z_eq (by omega)] at h0
      exact none_ (by omega)
    · rw [l2, z_eq (by omega)] at h0
      rw [l2, z_le (by omega)] at h2
      refine try31 (V := V) (l := l) n1 n2 (by omega) 12 1 (0, none) _ rfl (by omega) ⟨(fun w hw => by cases hw), by rw [f0.2]; exact l2, fun i hi => by rw [f0.1 30 (by omega)]; exact ⟨(hV i hi).1, (hV i hi).2.1⟩, by rw [mu_ne (by omega)]; exact mu_at, mu_at⟩ (fun I2 g1 g2 => ⟨_, _, rfl, rfl, ?_⟩)
      have f2 := f29_t f0 g1
      obtain ⟨c1, c2, c3, c4, c5⟩ := g2
      rw [c4, c5]
      have body : ∀ (Q2 : Option Value → mm_H → Prop), (∀ I3, f98 I2 I3 → (a1 = Int32.ofInt 0 → Q2 (some (.int (Int32.ofInt ((gL1 (GG n l V) 12 1 (0, none)).1 : Nat)))) (hp p s q I3 J)) ∧ (¬ a1 = Int32.ofInt 0 → Q2 (some (.int (Int32.ofInt (gO (gL1 (GG n l V) 12 1 (0, none)).2)))) (hp p s q I3 J))) → mm_s SL xs (e + 20) 247 [.ref 65, .int (Int32.ofInt (n : Nat)), .int a1] (hp p s q I2 J) Q2 := fun Q2 kk => by
        refine sg_X11_guess ⟨fun z => absurd z h, fun _ => ⟨fun z => absurd z hlt, fun _ => ⟨fun _ => ?_, fun z => absurd hle z⟩⟩⟩
        exact gue29 (V := V) n1 n2 (by omega) (by omega) 12 1 (0, none) _ I2 rfl (by omega) ⟨(fun w hw => by cases hw), by rw [f2.1 65 (by omega)]; exact l3, fun i hi => by rw [f2.1 97 (by omega)]; exact ⟨(hV i hi).1, (hV i hi).2.2⟩, fun w hw => by cases hw⟩ kk
      exact ⟨fun h2 => k _ _ rfl (fun Q2 k2 => body Q2 (fun I3 g3 => ⟨fun _ => k2 _ (QS_iv (QS_98 g3 (QS_29 f2 hS))), fun z => absurd h2 z⟩)), fun h2 => k _ _ rfl (fun Q2 k2 => body Q2 (fun I3 g3 => ⟨fun z => absurd z h2, fun _ => k2 _ (QS_iv (QS_98 g3 (QS_29 f2 hS)))⟩))⟩
    · rw [l2, z_le (by omega)] at h2
      exact none_ (by omega)
