/-! what holds between two calls -/
def v_tape (a : Int32) (b : Nat → Int32) (c : Int32) (t : Nat → Int32) : Prop := ∃ l : Nat, l ≤ 1200 ∧ a = Int32.ofInt (l : Nat) ∧ c = Int32.ofInt (l : Nat) ∧ ∀ i, i < l → t i = b i &&& Int32.ofInt 255
def v_pers (a c : Int32) (b e : Nat → Int32) : Prop := ∃ l : Nat, l ≤ 9 ∧ a = Int32.ofInt (l : Nat) ∧ c = Int32.ofInt (l : Nat) ∧ ∀ i, i < l → ∃ v : Nat, v ≤ 999 ∧ b i = Int32.ofInt (v : Nat) ∧ e i = Int32.ofInt (v : Nat)
def v_draw (a c : Int32) (b b2 e e2 : Nat → Int32) : Prop := ∃ l : Nat, l ≤ 12 ∧ a = Int32.ofInt (l : Nat) ∧ c = Int32.ofInt (l : Nat) ∧ ∀ i, i < l → ∃ v w : Nat, 1 ≤ v ∧ v ≤ 999 ∧ 1 ≤ w ∧ w ≤ 99 ∧ b i = Int32.ofInt (v : Nat) ∧ e i = Int32.ofInt (v : Nat) ∧ b2 i = Int32.ofInt (w : Nat) ∧ e2 i = Int32.ofInt (w : Nat)
def v_ord (a c : Int32) (b e : Nat → Int32) : Prop := ∃ l : Nat, l ≤ 60 ∧ a = Int32.ofInt (l : Nat) ∧ c = Int32.ofInt (l : Nat) ∧ ∀ i, i < l → ∃ v : Nat, v < 60 ∧ b i = Int32.ofInt (v : Nat) ∧ e i = Int32.ofInt (v : Nat)
def v_time (a c : Int32) : Prop := ∃ l : Nat, l ≤ 100000 ∧ a = Int32.ofInt (l : Nat) ∧ c = Int32.ofInt (l : Nat)
def v_sig (a c : Int32) (a34 a35 : Nat → Int32) (j36 : Nat → Int64) (a100 a101 a102 a103 a104 : Nat → Int32) : Prop := ∃ l : Nat, l ≤ 40 ∧ a = Int32.ofInt (l : Nat) ∧ c = Int32.ofInt (l : Nat) ∧ ∀ i, i < l → ∃ (n w po t : Nat) (u : Int), 1 ≤ n ∧ n ≤ 60 ∧ 1 ≤ w ∧ w ≤ n ∧ po < n ∧ t ≤ 100000 ∧ -1 ≤ u ∧ u ≤ 100000 ∧ a100 i = Int32.ofInt (n : Nat) ∧ a101 i = Int32.ofInt (w : Nat) ∧ a102 i = Int32.ofInt (po : Nat) ∧ a103 i = Int32.ofInt (t : Nat) ∧ a34 i = Int32.ofInt (t : Nat) ∧ a104 i = Int32.ofInt u ∧ a35 i = Int32.ofInt u ∧ ∀ v, 1 ≤ v → v ≤ 200 → (j36 (4 * i + v / 64)).toBitVec.getLsbD (v % 64) = decide (jo v (n - w + 1) (w - 1) = po)
def v_plan (p : Nat) (P : plT) (bg : Nat) (I : Nat → Nat → Int32) (J : Nat → Nat → Int64) : Prop := pw P ∧ PA p P I J ∧ MP P I ∧ bg < p_n P ∧ I p 1 = Int32.ofInt (bg : Nat) ∧ I 65 48 = Int32.ofInt (bg : Nat) ∧ I p 9 = I 65 21 ∧ v_pers (I p 10) (I 65 43) (I (p + 2)) (I 82) ∧ v_draw (I p 11) (I 65 44) (I (p + 3)) (I (p + 4)) (I 83) (I 84)
def BX (P : plT) (b : Nat) (x : trT) (I : Nat → Nat → Int32) : Prop := (∀ i, i < 60 → I 108 (60 * b + i) = zB (c_S x.1 i) ∧ I 110 (60 * b + i) = Int32.ofInt (c_H x.1 i : Nat) ∧ I 111 (60 * b + i) = Int32.ofInt (x.2.1 i)) ∧ (∀ i, i < x.2.2.1 → I 112 (60 * b + i) = Int32.ofInt (x.2.2.2 i : Nat)) ∧ I 113 (6 * b) = Int32.ofInt (sta P x.1 : Nat) ∧ I 113 (6 * b + 1) = Int32.ofInt (c_g x.1 : Nat) ∧ I 113 (6 * b + 2) = Int32.ofInt (x.2.2.1 : Nat) ∧ I 113 (6 * b + 3) = Int32.ofInt (c_l x.1 : Nat) ∧ I 113 (6 * b + 4) = Int32.ofInt (c_f x.1) ∧ I 113 (6 * b + 5) = Int32.ofInt (c_e x.1) ∧ I 109 b = zB (tur P x.1)
def v_box (P : plT) (bg b : Nat) (I : Nat → Nat → Int32) (J : Nat → Nat → Int64) : Prop := ∃ f : Bool, I (53 + 4 * b) 0 = zB f ∧ I 107 b = zB f ∧ (f = true → ∃ x, tw P x 660 ∧ c_b x.1 = bg ∧ TR (53 + 4 * b) x I J ∧ BX P b x I)
def ownL : List Int := [20579780, 2268462, 398548, 3659220, 677454, 1279278, 2553, 8029764, 19162533, 542723566, 4785902, 655, 24627848, 777297172, 498, 1476, 14836, 7841223, 267845, 394868, 24627347, 20225491]
def v_own (j : Nat → Int64) : Prop := ∀ i, i < 22 → j i = Int64.ofInt (ownL.getD i 0)
def RX (p s q : Nat) (P : plT) (bg : Nat) (x : trT) (I : Nat → Nat → Int32) (J : Nat → Nat → Int64) : Prop := ((p = 39 ∧ s = 46) ∨ (p = 46 ∧ s = 39)) ∧ isP q ∧ v_tape (I 4 1) (I 5) (I 65 1) (I 66) ∧ I 3 1 = I 65 2 ∧ I 3 2 = I 65 3 ∧ v_ord (I 29 1) (I 65 80) (I 30) (I 97) ∧ v_time (I 2 9) (I 65 89) ∧ v_sig (I 33 0) (I 65 88) (I 34) (I 35) (J 36) (I 100) (I 101) (I 102) (I 103) (I 104) ∧ v_own (J 6) ∧ v_plan p P bg I J ∧ tw P x 660 ∧ c_b x.1 = bg ∧ TR 15 x I J ∧ ∀ b, b < 3 → v_box P bg b I J
def MX (P : plT) (x : trT) (I : Nat → Nat → Int32) : Prop := MT P x I ∧ I 65 76 = Int32.ofInt 0 ∧ I 65 77 = Int32.ofInt 0 ∧ I 65 78 = I 65 49
def RLx (p s q : Nat) (I : Nat → Nat → Int32) (J : Nat → Nat → Int64) : Prop := ∃ P bg x, RX p s q P bg x I J ∧ MX P x I
def scr (p x : Nat) : Prop := (21 ≤ x ∧ x ≤ 29) ∨ x = 31 ∨ x = 32 ∨ x = 38 ∨ x = 65 ∨ x = 72 ∨ x = 73 ∨ (87 ≤ x ∧ x ≤ 96) ∨ x = 98 ∨ x = 99 ∨ x = 105 ∨ x = 106 ∨ x = p + 6
def Fq (p : Nat) (I I2 : Nat → Nat → Int32) (J J2 : Nat → Nat → Int64) : Prop := (∀ x, ¬ scr p x → I2 x = I x) ∧ (∀ k, k < 59 ∨ 78 < k → I2 65 k = I 65 k) ∧ I2 29 1 = I 29 1 ∧ ∀ x, x ≠ 21 → x ≠ 25 → x ≠ 37 → J2 x = J x
theorem Fq_r {p : Nat} {I : Nat → Nat → Int32} {J : Nat → Nat → Int64} : Fq p I I J J := ⟨fun _ _ => rfl, fun _ _ => rfl, rfl, fun _ _ _ _ => rfl⟩
theorem Fq_t {p : Nat} {I I2 I3 : Nat → Nat → Int32} {J J2 J3 : Nat → Nat → Int64} (a : Fq p I I2 J J2) (b : Fq p I2 I3 J2 J3) : Fq p I I3 J J3 := ⟨fun x h => by rw [b.1 x h, a.1 x h], fun k h => by rw [b.2.1 k h, a.2.1 k h], by rw [b.2.2.1, a.2.2.1], fun x h1 h2 h3 => by rw [b.2.2.2 x h1 h2 h3, a.2.2.2 x h1 h2 h3]⟩
theorem Fq_m {p : Nat} {I I2 : Nat → Nat → Int32} {J : Nat → Nat → Int64} (f : FrM I I2) : Fq p I I2 J J := ⟨fun x h => f.1 x (by unfold scr at h; omega) (by unfold scr at h; omega) (by unfold scr at h; omega) (by unfold scr at h; omega), fun k h => f.2 k (by omega), by rw [f.1 29 (by omega) (by omega) (by omega) (by omega)], fun _ _ _ _ => rfl⟩
theorem Fq_p {p : Nat} {I I2 : Nat → Nat → Int32} {J : Nat → Nat → Int64} (f : FrP I I2) : Fq p I I2 J J := ⟨fun x h => f.1 x (by unfold scr at h; omega) (by unfold scr at h; omega), fun k h => f.2 k (by omega), by rw [f.1 29 (by omega) (by omega)], fun _ _ _ _ => rfl⟩
theorem Fq_b {p : Nat} {I I2 : Nat → Nat → Int32} {J : Nat → Nat → Int64} (f : FrB I I2) : Fq p I I2 J J := ⟨fun x h => f.1 x (by unfold scr at h; omega) (by unfold scr at h; omega), fun k h => f.2 k (by omega), by rw [f.1 29 (by omega) (by omega)], fun _ _ _ _ => rfl⟩
theorem Fq_g {p o : Nat} {I I2 : Nat → Nat → Int32} {J J2 : Nat → Nat → Int64} (ho : o = 21 ∨ o = 25) (hp_ : p = 39 ∨ p = 46) (f : FrG o p I I2 J J2) : Fq p I I2 J J2 := ⟨fun x h => f.1 x (by unfold scr at h; omega) (by unfold scr at h; omega), fun k h => by rw [f.1 65 (by omega) (by omega)], by rw [f.1 29 (by omega) (by omega)], fun x a b _ => f.2 x (by omega)⟩
theorem Fq_c {p o : Nat} {I I2 : Nat → Nat → Int32} {J J2 : Nat → Nat → Int64} (ho : o = 21 ∨ o = 25) (f : FrC o I I2 J J2) : Fq p I I2 J J2 := ⟨fun x h => f.1 x (by unfold scr at h; omega), fun k h => by rw [f.1 65 (by omega)], by rw [f.1 29 (by omega)], fun x a b _ => f.2 x (by omega)⟩
theorem v_plan_f {p : Nat} {P : plT} {bg : Nat} {I I2 : Nat → Nat → Int32} {J J2 : Nat → Nat → Int64} (hp_ : p = 39 ∨ p = 46) (f : Fq p I I2 J J2) (h : v_plan p P bg I J) : v_plan p P bg I2 J2 := by
  obtain ⟨h1, h2, h3, h4, h5, h6, h7, h8, h9⟩ := h
  refine ⟨h1, PA_c (f.1 p (by unfold scr; omega)) (f.1 (p + 5) (by unfold scr; omega)) (f.2.2.2 p (by omega) (by omega) (by omega)) h2, MP_c (fun r hr => f.1 r (by unfold scr; omega)) (fun k hk => f.2.1 k (by omega)) h3, h4, ?_, ?_, ?_, ?_, ?_⟩
  · rw [f.1 p (by unfold scr; omega)]; exact h5
  · rw [f.2.1 48 (by omega)]; exact h6
  · rw [f.1 p (by unfold scr; omega), f.2.1 21 (by omega)]; exact h7
  · rw [f.1 p (by unfold scr; omega), f.2.1 43 (by omega), f.1 (p + 2) (by unfold scr; omega), f.1 82 (by unfold scr; omega)]; exact h8
  · rw [f.1 p (by unfold scr; omega), f.2.1 44 (by omega), f.1 (p + 3) (by unfold scr; omega), f.1 (p + 4) (by unfold scr; omega), f.1 83 (by unfold scr; omega), f.1 84 (by unfold scr; omega)]; exact h9
theorem v_box_c {P : plT} {bg b : Nat} {I I2 : Nat → Nat → Int32} {J J2 : Nat → Nat → Int64} (hb : b < 3) (h : ∀ x, (53 ≤ x ∧ x ≤ 64) ∨ (107 ≤ x ∧ x ≤ 113) → I2 x = I x) (hj : ∀ x, 53 ≤ x → x ≤ 64 → J2 x = J x) (t : v_box P bg b I J) : v_box P bg b I2 J2 := by
  obtain ⟨f, t1, t2, t3⟩ := t
  refine ⟨f, by rw [h _ (by omega)]; exact t1, by rw [h 107 (by omega)]; exact t2, fun hf => ?_⟩
  obtain ⟨x, x1, x2, x3, x4⟩ := t3 hf
  refine ⟨x, x1, x2, TR_c (fun r a b => h r (by omega)) (hj _ (by omega) (by omega)) x3, ?_⟩
  unfold BX at x4 ⊢
  rw [h 108 (by omega), h 109 (by omega), h 110 (by omega), h 111 (by omega), h 112 (by omega), h 113 (by omega)]; exact x4
theorem RX_p {p s q : Nat} {P : plT} {bg : Nat} {x : trT} {I : Nat → Nat → Int32} {J : Nat → Nat → Int64} (h : RX p s q P bg x I J) : (p = 39 ∨ p = 46) ∧ isP p := by
  rcases h.1 with ⟨rfl, _⟩ | ⟨rfl, _⟩
  · exact ⟨Or.inl rfl, by unfold isP; omega⟩
  · exact ⟨Or.inr rfl, by unfold isP; omega⟩
theorem RX_f {p s q : Nat} {P : plT} {bg : Nat} {x : trT} {I I2 : Nat → Nat → Int32} {J J2 : Nat → Nat → Int64} (f : Fq p I I2 J J2) (h : RX p s q P bg x I J) : RX p s q P bg x I2 J2 := by
  have hpp := (RX_p h).1
  obtain ⟨h1, h2, h3, h4, h5, h6, h7, h8, h9, h10, h11, h12, h13, h14⟩ := h
  refine ⟨h1, h2, ?_, ?_, ?_, ?_, ?_, ?_, ?_, v_plan_f hpp f h10, h11, h12, TR_c (fun r a b => f.1 r (by unfold scr; omega)) (f.2.2.2 15 (by omega) (by omega) (by omega)) h13, fun b hb => v_box_c hb (fun x hx => f.1 x (by unfold scr; omega)) (fun x a b => f.2.2.2 x (by omega) (by omega) (by omega)) (h14 b hb)⟩
  · rw [f.1 4 (by unfold scr; omega), f.1 5 (by unfold scr; omega), f.2.1 1 (by omega), f.1 66 (by unfold scr; omega)]; exact h3
  · rw [f.1 3 (by unfold scr; omega), f.2.1 2 (by omega)]; exact h4
  · rw [f.1 3 (by unfold scr; omega), f.2.1 3 (by omega)]; exact h5
  · rw [f.2.2.1, f.2.1 80 (by omega), f.1 30 (by unfold scr; omega), f.1 97 (by unfold scr; omega)]; exact h6
  · rw [f.1 2 (by unfold scr; omega), f.2.1 89 (by omega)]; exact h7
  · rw [f.1 33 (by unfold scr; omega), f.2.1 88 (by omega), f.1 34 (by unfold scr; omega), f.1 35 (by unfold scr; omega), f.2.2.2 36 (by omega) (by omega) (by omega), f.1 100 (by unfold scr; omega), f.1 101 (by unfold scr; omega), f.1 102 (by unfold scr; omega), f.1 103 (by unfold scr; omega), f.1 104 (by unfold scr; omega)]; exact h8
  · rw [f.2.2.2 6 (by omega) (by omega) (by omega)]; exact h9
theorem MX_c {P : plT} {x : trT} {I I2 : Nat → Nat → Int32} (h : ∀ r, r = 65 ∨ (87 ≤ r ∧ r ≤ 91) → I2 r = I r) (t : MX P x I) : MX P x I2 := by
  obtain ⟨t1, t2, t3, t4⟩ := t
  refine ⟨MT_c (fun r a b => h r (by omega)) (fun k a b => by rw [h 65 (by omega)]) t1, ?_, ?_, ?_⟩
  · rw [h 65 (by omega)]; exact t2
  · rw [h 65 (by omega)]; exact t3
  · rw [h 65 (by omega)]; exact t4
def iv3 (h : mm_H) : Prop := ∃ p s q I J, h = hp p s q I J ∧ RLx p s q I J
def iv (h : mm_H) : Prop := h.2.1 2 = .inr 8 ∧ h.2.1 65 = .inr 9 ∧ iv3 h
theorem iv_mk {p s q : Nat} {I : Nat → Nat → Int32} {J : Nat → Nat → Int64} (h : RLx p s q I J) : iv (hp p s q I J) := ⟨rfl, rfl, p, s, q, I, J, rfl, h⟩
