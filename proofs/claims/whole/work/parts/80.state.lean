/-! the lines: what is told so far, in both readers -/
def oi : Option Nat → Int → Int
  | none, x => x
  | some v, _ => (v : Nat)
def sn (k : Nat) : Nat := if k = 3 then 4 else if k = 4 then 5 else if k = 5 then 6 else if k = 6 then 3 else if k = 7 then 8 else k
def upA (A : Nat → Option Nat) (k v : Nat) : Nat → Option Nat := fun i => if i = k then some v else A i
def gst : List (Nat × Nat) → Nat → Bool
  | [], _ => false
  | x :: r, i => gst r i || decide (x.1 ≤ i ∧ i ≤ x.2)
def PS (q : Nat) (I : Nat → Nat → Int32) (J : Nat → Nat → Int64) : List (Nat × Nat) → Prop
  | [] => True
  | x :: r => (J (q + 1) r.length = lN x.1 ∧ I (q + 2) r.length = Int32.ofInt (x.2 : Nat)) ∧ PS q I J r
def PM (I : Nat → Nat → Int32) (J : Nat → Nat → Int64) : List (Nat × Nat) → Prop
  | [] => True
  | x :: r => (J 86 r.length = lN (g8 8 x.1) ∧ I 77 r.length = Int32.ofInt (x.2 : Nat)) ∧ PM I J r
def XS (a b : Nat) (I : Nat → Nat → Int32) : List (Nat × Nat) → Prop
  | [] => True
  | x :: r => (I a r.length = Int32.ofInt (x.1 : Nat) ∧ I b r.length = Int32.ofInt (x.2 : Nat)) ∧ XS a b I r
def XW (f : Nat → Nat → Prop) : List (Nat × Nat) → Prop
  | [] => True
  | x :: r => f x.1 x.2 ∧ XW f r
theorem PS_c {q : Nat} {I I2 : Nat → Nat → Int32} {J J2 : Nat → Nat → Int64} : ∀ P : List (Nat × Nat), (∀ i, i < P.length → I2 (q + 2) i = I (q + 2) i ∧ J2 (q + 1) i = J (q + 1) i) → PS q I J P → PS q I2 J2 P
  | [], _, _ => trivial
  | x :: r, h, g => ⟨⟨by rw [(h _ (by rw [List.length_cons]; omega)).2]; exact g.1.1, by rw [(h _ (by rw [List.length_cons]; omega)).1]; exact g.1.2⟩, PS_c r (fun i hi => h i (by rw [List.length_cons]; omega)) g.2⟩
theorem PM_c {I I2 : Nat → Nat → Int32} {J J2 : Nat → Nat → Int64} : ∀ P : List (Nat × Nat), (∀ i, i < P.length → I2 77 i = I 77 i ∧ J2 86 i = J 86 i) → PM I J P → PM I2 J2 P
  | [], _, _ => trivial
  | x :: r, h, g => ⟨⟨by rw [(h _ (by rw [List.length_cons]; omega)).2]; exact g.1.1, by rw [(h _ (by rw [List.length_cons]; omega)).1]; exact g.1.2⟩, PM_c r (fun i hi => h i (by rw [List.length_cons]; omega)) g.2⟩
theorem XS_c {a b : Nat} {I I2 : Nat → Nat → Int32} : ∀ P : List (Nat × Nat), (∀ i, i < P.length → I2 a i = I a i ∧ I2 b i = I b i) → XS a b I P → XS a b I2 P
  | [], _, _ => trivial
  | x :: r, h, g => ⟨⟨by rw [(h _ (by rw [List.length_cons]; omega)).1]; exact g.1.1, by rw [(h _ (by rw [List.length_cons]; omega)).2]; exact g.1.2⟩, XS_c r (fun i hi => h i (by rw [List.length_cons]; omega)) g.2⟩
def gok (a b : Nat) : Prop := a ≤ b ∧ b ≤ 59
def pok (a b : Nat) : Prop := a < 2 ^ 40 ∧ g8 8 a < 2 ^ 63 ∧ g5 8 (g8 8 a) = a ∧ b ≤ 999
def dok (a b : Nat) : Prop := 1 ≤ a ∧ a ≤ 999 ∧ 1 ≤ b ∧ b ≤ 99
def aok (A : Nat → Option Nat) : Prop := (∀ v, A 0 = some v → 1 ≤ v ∧ v ≤ 60) ∧ (∀ v, A 1 = some v → v ≤ 59) ∧ (∀ v, A 2 = some v → 1 ≤ v ∧ v ≤ 59) ∧ (∀ v, A 3 = some v → 1 ≤ v ∧ v ≤ 99) ∧ (∀ v, A 4 = some v → v ≤ 9) ∧ ∀ v, A 5 = some v → v ≤ 59
def ccd (A : Nat → Option Nat) (C : List Int) : List Int := if (A 6).isSome = true then C else [3]
def LW (A : Nat → Option Nat) (G : List (Nat × Nat)) (w e : Nat) (P D : List (Nat × Nat)) (u : Nat) (C : List Int) : Prop := aok A ∧ (G.length ≤ 8 ∧ XW gok G) ∧ (w ≤ 24 ∧ e ≤ 8 * w ∧ (A 7 = none → w = 0 ∧ e = 0)) ∧ (P.length ≤ 9 ∧ XW pok P) ∧ (D.length ≤ 12 ∧ XW dok D) ∧ (u ≤ 40 ∧ C.length ≤ 360 ∧ (A 6 = none → u = 0 ∧ C = []) ∧ (¬ A 6 = none → wfl C ∧ 1 ≤ dl C))
def kS (q : Nat) (A : Nat → Option Nat) (I : Nat → Nat → Int32) : Prop := I q 0 = Int32.ofInt (oi (A 0) 1) ∧ I q 1 = Int32.ofInt (oi (A 1) 0) ∧ I q 2 = Int32.ofInt (oi (A 2) 1) ∧ I q 3 = Int32.ofInt (oi (A 3) 0) ∧ I q 4 = Int32.ofInt (oi (A 4) 0) ∧ I q 5 = Int32.ofInt (oi (A 5) (-1))
def kN (A : Nat → Option Nat) (I : Nat → Nat → Int32) : Prop := ∀ k, k < 8 → I 14 (sn k) = zB (A k).isSome
def kC (q : Nat) (A : Nat → Option Nat) (u : Nat) (C : List Int) (I : Nat → Nat → Int32) : Prop := I q 9 = Int32.ofInt (u : Nat) ∧ I q 17 = Int32.ofInt ((ccd A C).length : Nat) ∧ CS q I (ccd A C)
/-- the class -/
def KB (q : Nat) (A : Nat → Option Nat) (G : List (Nat × Nat)) (w e : Nat) (P D : List (Nat × Nat)) (u : Nat) (C : List Int) (I : Nat → Nat → Int32) (J : Nat → Nat → Int64) : Prop := kS q A I ∧ (I 3 5 = Int32.ofInt (G.length : Nat) ∧ J q 6 = bs (gst G)) ∧ (I q 7 = Int32.ofInt (w : Nat) ∧ I q 8 = Int32.ofInt (e : Nat)) ∧ (I q 10 = Int32.ofInt (P.length : Nat) ∧ PS q I J P) ∧ (I q 11 = Int32.ofInt (D.length : Nat) ∧ XS (q + 3) (q + 4) I D) ∧ kC q A u C I
def CLr (l : Nat) (T : Nat → Nat) (q j : Nat) (A : Nat → Option Nat) (G : List (Nat × Nat)) (w e : Nat) (P D : List (Nat × Nat)) (u : Nat) (C : List Int) (I : Nat → Nat → Int32) (J : Nat → Nat → Int64) : Prop := Cc l T j I J ∧ kN A I ∧ KB q A G w e P D u C I J
theorem KB_c {q : Nat} {A : Nat → Option Nat} {G : List (Nat × Nat)} {w e : Nat} {P D : List (Nat × Nat)} {u : Nat} {C : List Int} {I I2 : Nat → Nat → Int32} {J J2 : Nat → Nat → Int64} (r : ∀ r, q ≤ r → r ≤ q + 5 → I2 r = I r) (r3 : I2 3 5 = I 3 5) (g : ∀ r, r = q ∨ r = q + 1 → J2 r = J r) (h : KB q A G w e P D u C I J) : KB q A G w e P D u C I2 J2 := by
  have g0 := g q (Or.inl rfl)
  have g1 := g (q + 1) (Or.inr rfl)
  have r0 := r q (by omega) (by omega)
  obtain ⟨h1, ⟨h2, h2'⟩, h3, ⟨h4, h4'⟩, ⟨h5, h5'⟩, h6, h6', h6''⟩ := h
  refine ⟨?_, ⟨by rw [r3]; exact h2, by rw [g0]; exact h2'⟩, by rw [r0]; exact h3, ⟨by rw [r0]; exact h4, PS_c P (fun i _ => by rw [r (q + 2) (by omega) (by omega), g1]; exact ⟨rfl, rfl⟩) h4'⟩, ⟨by rw [r0]; exact h5, XS_c D (fun i _ => by rw [r (q + 3) (by omega) (by omega), r (q + 4) (by omega) (by omega)]; exact ⟨rfl, rfl⟩) h5'⟩, by rw [r0]; exact h6, by rw [r0]; exact h6', CS_c _ (fun i _ => by rw [r (q + 5) (by omega) (by omega)]) h6''⟩
  unfold kS at h1 ⊢
  rw [r0]; exact h1
theorem KB_4 {q : Nat} {A : Nat → Option Nat} {G : List (Nat × Nat)} {w e : Nat} {P D : List (Nat × Nat)} {u : Nat} {C : List Int} {I I2 : Nat → Nat → Int32} {J J2 : Nat → Nat → Int64} (hq : isP q) (f : fr4 I I2 J J2) (h : KB q A G w e P D u C I J) : KB q A G w e P D u C I2 J2 := by
  have hq : q = 39 ∨ q = 46 := hq
  exact KB_c (fun r a b => f.1 r (by omega)) (by rw [f.1 3 (by omega)]) (fun r hr => f.2.2 r (by omega)) h
theorem KB_14 {q k : Nat} {v : Int32} {A : Nat → Option Nat} {G : List (Nat × Nat)} {w e : Nat} {P D : List (Nat × Nat)} {u : Nat} {C : List Int} {I : Nat → Nat → Int32} {J : Nat → Nat → Int64} (hq : isP q) (h : KB q A G w e P D u C I J) : KB q A G w e P D u C (mm_u I 14 k v) J := by
  have hq : q = 39 ∨ q = 46 := hq
  exact KB_c (fun r a b => mu_row (by omega)) (by rw [mu_row (by omega)]) (fun r hr => rfl) h
theorem sn_inj : ∀ a b : Fin 8, sn a.val = sn b.val → a = b := by decide
theorem sn_no : ∀ a : Fin 8, sn a.val ≠ 7 ∧ sn a.val ≠ 9 ∧ sn a.val ≠ 10 := by decide
theorem kN_up {A : Nat → Option Nat} {I I2 : Nat → Nat → Int32} {k v : Nat} (hk : k < 8) (e : I2 14 = mm_u I 14 (sn k) (Int32.ofInt 1) 14) (h : kN A I) : kN (upA A k v) I2 := by
  intro i hi
  rw [e]
  unfold upA
  by_cases c : i = k
  · subst c; rw [mu_at, if_pos rfl]; rfl
  · rw [mu_ne (fun z => c (congrArg Fin.val (sn_inj ⟨i, hi⟩ ⟨k, hk⟩ z))), if_neg c]; exact h i hi
theorem kN_no {A : Nat → Option Nat} {I I2 : Nat → Nat → Int32} {k : Nat} {v : Int32} (hk : k = 7 ∨ k = 9 ∨ k = 10) (e : I2 14 = mm_u I 14 k v 14) (h : kN A I) : kN A I2 := by
  intro i hi
  have := sn_no ⟨i, hi⟩
  have e2 : sn i ≠ k := by
    rcases hk with z | z | z <;> subst z
    · exact this.1
    · exact this.2.1
    · exact this.2.2
  rw [e, mu_ne e2]; exact h i hi
/-- the reference -/
def MB (A : Nat → Option Nat) (G : List (Nat × Nat)) (w e : Nat) (P D : List (Nat × Nat)) (u : Nat) (C : List Int) (I : Nat → Nat → Int32) (J : Nat → Nat → Int64) : Prop := ((∀ k, k < 8 → I 85 k = zB (A k).isSome) ∧ ∀ k v, k < 6 → A k = some v → I 74 k = Int32.ofInt (v : Nat)) ∧ (I 65 37 = Int32.ofInt (G.length : Nat) ∧ XS 75 76 I G) ∧ (I 65 40 = Int32.ofInt (w : Nat) ∧ I 65 41 = Int32.ofInt (e : Nat)) ∧ (I 65 38 = Int32.ofInt (P.length : Nat) ∧ PM I J P) ∧ (I 65 39 = Int32.ofInt (D.length : Nat) ∧ XS 78 79 I D) ∧ (I 65 18 = Int32.ofInt (C.length : Nat) ∧ NS I C ∧ I 65 19 = Int32.ofInt (u : Nat))
def MLr (l : Nat) (T : Nat → Nat) (j : Nat) (A : Nat → Option Nat) (G : List (Nat × Nat)) (w e : Nat) (P D : List (Nat × Nat)) (u : Nat) (C : List Int) (I : Nat → Nat → Int32) (J : Nat → Nat → Int64) : Prop := Mm l T j I J ∧ I 65 2 = Int32.ofInt 0 ∧ MB A G w e P D u C I J
/-- rows and fields that a reader may change -/
def rrow (r : Nat) : Prop := r = 65 ∨ r = 67 ∨ r = 68 ∨ r = 71 ∨ (74 ≤ r ∧ r ≤ 79) ∨ r = 85
def rfldw (k : Nat) : Prop := (2 ≤ k ∧ k ≤ 4) ∨ (6 ≤ k ∧ k ≤ 10) ∨ k = 18 ∨ k = 19 ∨ k = 22 ∨ k = 23 ∨ (37 ≤ k ∧ k ≤ 41)
def rfld (k : Nat) : Prop := k = 4 ∨ (6 ≤ k ∧ k ≤ 10) ∨ k = 18 ∨ k = 19 ∨ k = 22 ∨ k = 23 ∨ (37 ≤ k ∧ k ≤ 41)
def FL (I I2 : Nat → Nat → Int32) (J J2 : Nat → Nat → Int64) : Prop := (∀ r, ¬ rrow r → I2 r = I r) ∧ (∀ k, ¬ rfld k → I2 65 k = I 65 k) ∧ ∀ r, r ≠ 65 → r ≠ 86 → J2 r = J r
def FLw (I I2 : Nat → Nat → Int32) (J J2 : Nat → Nat → Int64) : Prop := (∀ r, ¬ rrow r → I2 r = I r) ∧ (∀ k, ¬ rfldw k → I2 65 k = I 65 k) ∧ ∀ r, r ≠ 65 → r ≠ 86 → J2 r = J r
def FK (q : Nat) (I I2 : Nat → Nat → Int32) (J J2 : Nat → Nat → Int64) : Prop := (∀ r, r ≠ 3 → r ≠ 4 → r ≠ 14 → (r < q ∨ q + 5 < r) → I2 r = I r) ∧ (∀ k, k ≠ 5 → I2 3 k = I 3 k) ∧ I2 4 1 = I 4 1 ∧ ∀ r, r ≠ 4 → r ≠ q → r ≠ q + 1 → J2 r = J r
def FKw (q : Nat) (I I2 : Nat → Nat → Int32) (J J2 : Nat → Nat → Int64) : Prop := (∀ r, r ≠ 3 → r ≠ 4 → r ≠ 14 → (r < q ∨ q + 5 < r) → I2 r = I r) ∧ (∀ k, k ≠ 1 → k ≠ 2 → k ≠ 5 → I2 3 k = I 3 k) ∧ I2 4 1 = I 4 1 ∧ ∀ r, r ≠ 4 → r ≠ q → r ≠ q + 1 → J2 r = J r
theorem FL_r {I : Nat → Nat → Int32} {J : Nat → Nat → Int64} : FL I I J J := ⟨fun _ _ => rfl, fun _ _ => rfl, fun _ _ _ => rfl⟩
theorem FL_t {I I2 I3 : Nat → Nat → Int32} {J J2 J3 : Nat → Nat → Int64} (a : FL I I2 J J2) (b : FL I2 I3 J2 J3) : FL I I3 J J3 := ⟨fun r h => by rw [b.1 r h, a.1 r h], fun k h => by rw [b.2.1 k h, a.2.1 k h], fun r h1 h2 => by rw [b.2.2 r h1 h2, a.2.2 r h1 h2]⟩
theorem FL_m {I I2 : Nat → Nat → Int32} {J J2 : Nat → Nat → Int64} (f : fm I I2 J J2) : FL I I2 J J2 := ⟨fun r h => f.1 r (by unfold rrow at h; omega), fun k h => f.2.1 k (by unfold rfld at h; omega), fun r h _ => f.2.2.1 r h⟩
theorem FL_e {I I2 : Nat → Nat → Int32} {J J2 : Nat → Nat → Int64} (f : FE I I2 J J2) : FL I I2 J J2 := ⟨fun r h => f.1 r (by unfold rrow at h; omega) (by unfold rrow at h; omega) (by unfold rrow at h; omega) (by unfold rrow at h; omega), fun k h => f.2.1 k (by unfold rfld at h; omega), fun r h _ => f.2.2.1 r h⟩
theorem FL_u {I : Nat → Nat → Int32} {J : Nat → Nat → Int64} {r k : Nat} {v : Int32} (h : (r = 65 ∧ rfld k) ∨ (r ≠ 65 ∧ rrow r)) : FL I (mm_u I r k v) J J := by
  refine ⟨fun x hx => mu_row (fun e => ?_), fun x hx => ?_, fun _ _ _ => rfl⟩
  · subst e
    rcases h with h | h
    · exact hx (Or.inl h.1)
    · exact hx h.2
  · rcases h with h | h
    · obtain ⟨rfl, h⟩ := h
      exact mu_ne (fun e => hx (by rw [e]; exact h))
    · rw [mu_row (fun e => h.1 e.symm)]
theorem FL_J {I : Nat → Nat → Int32} {J : Nat → Nat → Int64} {k : Nat} {v : Int64} : FL I I J (mm_u J 86 k v) := ⟨fun _ _ => rfl, fun _ _ => rfl, fun r _ h => mu_row h⟩
theorem rfw {k : Nat} (h : ¬ rfldw k) : ¬ rfld k := by unfold rfldw at h; unfold rfld; omega
theorem FY {I I2 I3 : Nat → Nat → Int32} {J J2 J3 : Nat → Nat → Int64} (a : FL I I2 J J2) (b : FLw I2 I3 J2 J3) : FLw I I3 J J3 := ⟨fun r h => by rw [b.1 r h, a.1 r h], fun k h => by rw [b.2.1 k h, a.2.1 k (rfw h)], fun r h1 h2 => by rw [b.2.2 r h1 h2, a.2.2 r h1 h2]⟩
theorem FW {I I2 I3 : Nat → Nat → Int32} {J J2 J3 : Nat → Nat → Int64} (a : FLw I I2 J J2) (b : FL I2 I3 J2 J3) : FLw I I3 J J3 := ⟨fun r h => by rw [b.1 r h, a.1 r h], fun k h => by rw [b.2.1 k (rfw h), a.2.1 k h], fun r h1 h2 => by rw [b.2.2 r h1 h2, a.2.2 r h1 h2]⟩
theorem FLw_e {I I2 : Nat → Nat → Int32} {J J2 : Nat → Nat → Int64} (f : FEw I I2 J J2) : FLw I I2 J J2 := ⟨fun r h => f.1 r (by unfold rrow at h; omega) (by unfold rrow at h; omega) (by unfold rrow at h; omega) (by unfold rrow at h; omega), fun k h => f.2.1 k (by unfold rfldw at h; omega), fun r h _ => f.2.2.1 r h⟩
theorem FL_g {I : Nat → Nat → Int32} {J : Nat → Nat → Int64} {K n j : Nat} : FLw I (gI I K n j) J J := ⟨fun r h => by unfold gI; rw [mu_row (by unfold rrow at h; omega), mu_row (by unfold rrow at h; omega)], fun k h => by unfold gI; rw [mu_ne (by unfold rfldw at h; omega), mu_ne (by unfold rfldw at h; omega)], fun _ _ _ => rfl⟩
theorem gI_2 {I : Nat → Nat → Int32} {K n j : Nat} : gI I K n j 65 2 = Int32.ofInt (flt K n : Nat) ∧ gI I K n j 65 3 = Int32.ofInt (j : Nat) := by
  unfold gI
  exact ⟨by rw [mu_ne (by omega), mu_at], mu_at⟩
theorem fI_2 {I : Nat → Nat → Int32} {K n j : Nat} : fI I K n j 3 1 = Int32.ofInt (flt K n : Nat) ∧ fI I K n j 3 2 = Int32.ofInt (j : Nat) := by
  unfold fI
  exact ⟨by rw [mu_ne (by omega), mu_at], mu_at⟩
theorem FK_r {q : Nat} {I : Nat → Nat → Int32} {J : Nat → Nat → Int64} : FK q I I J J := ⟨fun _ _ _ _ _ => rfl, fun _ _ => rfl, rfl, fun _ _ _ _ => rfl⟩
theorem FK_t {q : Nat} {I I2 I3 : Nat → Nat → Int32} {J J2 J3 : Nat → Nat → Int64} (a : FK q I I2 J J2) (b : FK q I2 I3 J2 J3) : FK q I I3 J J3 := ⟨fun r h1 h2 h3 h4 => by rw [b.1 r h1 h2 h3 h4, a.1 r h1 h2 h3 h4], fun k h => by rw [b.2.1 k h, a.2.1 k h], by rw [b.2.2.1, a.2.2.1], fun r h1 h2 h3 => by rw [b.2.2.2 r h1 h2 h3, a.2.2.2 r h1 h2 h3]⟩
theorem FZ {q : Nat} {I I2 I3 : Nat → Nat → Int32} {J J2 J3 : Nat → Nat → Int64} (a : FK q I I2 J J2) (b : FKw q I2 I3 J2 J3) : FKw q I I3 J J3 := ⟨fun r h1 h2 h3 h4 => by rw [b.1 r h1 h2 h3 h4, a.1 r h1 h2 h3 h4], fun k h1 h2 h3 => by rw [b.2.1 k h1 h2 h3, a.2.1 k h3], by rw [b.2.2.1, a.2.2.1], fun r h1 h2 h3 => by rw [b.2.2.2 r h1 h2 h3, a.2.2.2 r h1 h2 h3]⟩
theorem FKw_c {q : Nat} {I I2 : Nat → Nat → Int32} {J J2 : Nat → Nat → Int64} (f : FCw q I I2 J J2) : FKw q I I2 J J2 := ⟨fun r h1 h2 _ h4 => f.1 r h1 h2 (by omega) (by omega), fun k h1 h2 _ => f.2.2.1 k h1 h2, f.2.2.2.1, fun r h _ _ => f.2.2.2.2 r h⟩
theorem FK_4 {q : Nat} {I I2 : Nat → Nat → Int32} {J J2 : Nat → Nat → Int64} (f : fr4 I I2 J J2) : FK q I I2 J J2 := ⟨fun r _ h _ _ => f.1 r h, fun k _ => by rw [f.1 3 (by omega)], f.2.1, fun r h _ _ => f.2.2 r h⟩
theorem FK_c {q : Nat} {I I2 : Nat → Nat → Int32} {J J2 : Nat → Nat → Int64} (f : FC q I I2 J J2) : FK q I I2 J J2 := ⟨fun r h1 h2 _ h4 => f.1 r h1 h2 (by omega) (by omega), fun k _ => f.2.2.1 k, f.2.2.2.1, fun r h _ _ => f.2.2.2.2 r h⟩
theorem FK_u {q r k : Nat} {v : Int32} {I : Nat → Nat → Int32} {J : Nat → Nat → Int64} (hq : isP q) (h : r = 14 ∨ (q ≤ r ∧ r ≤ q + 5) ∨ (r = 3 ∧ k = 5)) : FK q I (mm_u I r k v) J J := by
  have hq : q = 39 ∨ q = 46 := hq
  refine ⟨fun x h1 h2 h3 h4 => mu_row (by omega), fun x h1 => ?_, by rw [mu_row (by omega)], fun _ _ _ _ => rfl⟩
  by_cases e : r = 3
  · subst e; exact mu_ne (by omega)
  · rw [mu_row (fun z => e z.symm)]
theorem FK_f {q K n j : Nat} {I : Nat → Nat → Int32} {J : Nat → Nat → Int64} (hq : isP q) : FKw q I (fI I K n j) J J := FKw_c (FCw_g hq)
theorem FK_J {q r k : Nat} {v : Int64} {I : Nat → Nat → Int32} {J : Nat → Nat → Int64} (h : r = q ∨ r = q + 1) : FK q I I J (mm_u J r k v) := ⟨fun _ _ _ _ _ => rfl, fun _ _ => rfl, rfl, fun x h1 h2 h3 => mu_row (by omega)⟩
theorem MB_m {A : Nat → Option Nat} {G : List (Nat × Nat)} {w e : Nat} {P D : List (Nat × Nat)} {u : Nat} {C : List Int} {I I2 : Nat → Nat → Int32} {J J2 : Nat → Nat → Int64} (f : fm I I2 J J2) (h : MB A G w e P D u C I J) : MB A G w e P D u C I2 J2 := by
  obtain ⟨⟨h1, h1'⟩, ⟨h2, h2'⟩, ⟨h3, h3'⟩, ⟨h4, h4'⟩, ⟨h5, h5'⟩, h6, h6', h6''⟩ := h
  have g : ∀ k, 10 < k → I2 65 k = I 65 k := fun k hk => f.2.1 k (by omega)
  have r : ∀ r, r ≠ 65 → I2 r = I r := f.1
  refine ⟨⟨fun k hk => by rw [r 85 (by omega)]; exact h1 k hk, fun k v hk hv => by rw [r 74 (by omega)]; exact h1' k v hk hv⟩, ⟨by rw [g 37 (by omega)]; exact h2, XS_c G (fun i _ => by rw [r 75 (by omega), r 76 (by omega)]; exact ⟨rfl, rfl⟩) h2'⟩, ⟨by rw [g 40 (by omega)]; exact h3, by rw [g 41 (by omega)]; exact h3'⟩, ⟨by rw [g 38 (by omega)]; exact h4, PM_c P (fun i _ => by rw [r 77 (by omega), f.2.2.1 86 (by omega)]; exact ⟨rfl, rfl⟩) h4'⟩, ⟨by rw [g 39 (by omega)]; exact h5, XS_c D (fun i _ => by rw [r 78 (by omega), r 79 (by omega)]; exact ⟨rfl, rfl⟩) h5'⟩, by rw [g 18 (by omega)]; exact h6, NS_c C (fun i _ => by rw [r 67 (by omega), r 68 (by omega)]; exact ⟨rfl, rfl⟩) h6', by rw [g 19 (by omega)]; exact h6''⟩
/-- a line's body, and a line, in the reference; a fault in it -/
def AS (l : Nat) (T : Nat → Nat) (j : Nat) (A : Nat → Option Nat) (G : List (Nat × Nat)) (w e : Nat) (P D : List (Nat × Nat)) (u : Nat) (C : List Int) (j1 : Nat) (A1 : Nat → Option Nat) (G1 : List (Nat × Nat)) (w1 e1 : Nat) (P1 D1 : List (Nat × Nat)) (u1 : Nat) (C1 : List Int) : Prop := ∀ (SL : Nat) (xs : Nat → Int32) (d p s q : Nat) (Q : Option Value → mm_H → Prop) (I : Nat → Nat → Int32) (J : Nat → Nat → Int64), MLr l T j A G w e P D u C I J → (∀ I2 J2, FL I I2 J J2 → MLr l T j1 A1 G1 w1 e1 P1 D1 u1 C1 I2 J2 → w_X11_readLine_317 SL xs d p s q Q I2 J2) → mm_s SL xs (d + 7) 197 [.ref 65] (hp p s q I J) Q
def LSr (l : Nat) (T : Nat → Nat) (j : Nat) (A : Nat → Option Nat) (G : List (Nat × Nat)) (w e : Nat) (P D : List (Nat × Nat)) (u : Nat) (C : List Int) (j1 : Nat) (A1 : Nat → Option Nat) (G1 : List (Nat × Nat)) (w1 e1 : Nat) (P1 D1 : List (Nat × Nat)) (u1 : Nat) (C1 : List Int) : Prop := ∀ (SL : Nat) (xs : Nat → Int32) (d p s q : Nat) (Q : Option Value → mm_H → Prop) (I : Nat → Nat → Int32) (J : Nat → Nat → Int64), MLr l T j A G w e P D u C I J → (∀ I2 J2, FL I I2 J J2 → MLr l T j1 A1 G1 w1 e1 P1 D1 u1 C1 I2 J2 → Q none (hp p s q I2 J2)) → mm_s SL xs (d + 7) 197 [.ref 65] (hp p s q I J) Q
def LF (l : Nat) (T : Nat → Nat) (j : Nat) (A : Nat → Option Nat) (G : List (Nat × Nat)) (w e : Nat) (P D : List (Nat × Nat)) (u : Nat) (C : List Int) (fx px : Nat) : Prop := ∀ (SL : Nat) (xs : Nat → Int32) (d p s q : Nat) (Q : Option Value → mm_H → Prop) (I : Nat → Nat → Int32) (J : Nat → Nat → Int64), MLr l T j A G w e P D u C I J → (∀ I2 J2, FLw I I2 J J2 → I2 65 2 = Int32.ofInt (fx : Nat) → I2 65 3 = Int32.ofInt (px : Nat) → Q none (hp p s q I2 J2)) → mm_s SL xs (d + 7) 197 [.ref 65] (hp p s q I J) Q
section
variable {SL : Nat} {xs : Nat → Int32} {d : Nat} {p s q : Nat} {Q : Option Value → mm_H → Prop} {I : Nat → Nat → Int32} {J : Nat → Nat → Int64} {l j : Nat} {T : Nat → Nat} {A : Nat → Option Nat} {G : List (Nat × Nat)} {w e : Nat} {P D : List (Nat × Nat)} {u : Nat} {C : List Int} {j1 : Nat} {A1 : Nat → Option Nat} {G1 : List (Nat × Nat)} {w1 e1 : Nat} {P1 D1 : List (Nat × Nat)} {u1 : Nat} {C1 : List Int}
theorem f317_f (h : ¬ I 65 2 = Int32.ofInt 0) (k : Q none (hp p s q I J)) : w_X11_readLine_317 SL xs d p s q Q I J :=
  sg_X11_readLine_317 ⟨fun z => absurd z h, fun _ => sg_X11_readLine_338 ⟨fun z => absurd z h, fun _ => k⟩⟩
theorem f317_b {n K jj : Nat} (hn : 1 ≤ flt K n ∧ flt K n ≤ 4) (k : Q none (hp p s q (gI I K n jj) J)) : w_X11_readLine_317 SL xs d p s q Q (gI I K n jj) J :=
  f317_f (by rw [gI_2.1]; exact (flt_ne hn).1) k
theorem AS_ok (h : AS l T j A G w e P D u C j1 A1 G1 w1 e1 P1 D1 u1 C1) (hk : tkK l T j1 = 59) : LSr l T j A G w e P D u C (nX l T j1) A1 G1 w1 e1 P1 D1 u1 C1 := by
  intro SL xs d p s q Q I J ml kq
  refine h SL xs d p s q Q I J ml (fun I2 J2 f m => ?_)
  refine sg_X11_readLine_317 ⟨fun _ => ⟨fun _ => sg_X11_readLine_338 ⟨fun _ => ?_, fun z => absurd m.2.1 z⟩, fun z => absurd ?_ z⟩, fun z => absurd m.2.1 z⟩
  · exact m_adv m.1 (by omega) (fun I3 J3 f3 g3 => ⟨_, _, rfl, rfl, kq I3 J3 (FL_t f (FL_m f3)) ⟨g3, by rw [f3.2.1 2 (by omega)]; exact m.2.1, MB_m f3 m.2.2⟩⟩)
  · rw [show (I2 65 6 = Int32.ofInt 59) = (tkK l T j1 = 59) from Mm_k (c := 59) m.1 (by omega)]; exact hk
theorem AS_no (h : AS l T j A G w e P D u C j1 A1 G1 w1 e1 P1 D1 u1 C1) (hk : tkK l T j1 ≠ 59) : LF l T j A G w e P D u C (flt (tkK l T j1) 2) j1 := by
  intro SL xs d p s q Q I J ml kq
  refine h SL xs d p s q Q I J ml (fun I2 J2 f m => ?_)
  refine sg_X11_readLine_317 ⟨fun _ => ⟨fun z => absurd ?_ hk, fun _ => m_wrong (n := 2) m.1 m.2.1 ⟨_, _, rfl, rfl, sg_X11_readLine_338 ⟨fun z => ?_, fun _ => ?_⟩⟩⟩, fun z => absurd m.2.1 z⟩
  · rw [show (I2 65 6 = Int32.ofInt 59) = (tkK l T j1 = 59) from Mm_k (c := 59) m.1 (by omega)] at z; exact z
  · rw [mu_ne (by omega), mu_at] at z; exact absurd z flt_0.1
  · exact kq _ _ (FY f FL_g) gI_2.1 gI_2.2
end
def BO (l : Nat) (T : Nat → Nat) (q j : Nat) (A : Nat → Option Nat) (G : List (Nat × Nat)) (w e : Nat) (P D : List (Nat × Nat)) (u : Nat) (C : List Int) (I I1 : Nat → Nat → Int32) (J J1 : Nat → Nat → Int64) : Prop := ∃ (j1 : Nat) (A1 : Nat → Option Nat) (G1 : List (Nat × Nat)) (w1 e1 : Nat) (P1 D1 : List (Nat × Nat)) (u1 : Nat) (C1 : List Int), FK q I I1 J J1 ∧ CLr l T q j1 A1 G1 w1 e1 P1 D1 u1 C1 I1 J1 ∧ LW A1 G1 w1 e1 P1 D1 u1 C1 ∧ AS l T j A G w e P D u C j1 A1 G1 w1 e1 P1 D1 u1 C1 ∧ j < j1
def LO (l : Nat) (T : Nat → Nat) (q j : Nat) (A : Nat → Option Nat) (G : List (Nat × Nat)) (w e : Nat) (P D : List (Nat × Nat)) (u : Nat) (C : List Int) (I I1 : Nat → Nat → Int32) (J J1 : Nat → Nat → Int64) : Prop := ∃ (j1 : Nat) (A1 : Nat → Option Nat) (G1 : List (Nat × Nat)) (w1 e1 : Nat) (P1 D1 : List (Nat × Nat)) (u1 : Nat) (C1 : List Int), FK q I I1 J J1 ∧ CLr l T q j1 A1 G1 w1 e1 P1 D1 u1 C1 I1 J1 ∧ LW A1 G1 w1 e1 P1 D1 u1 C1 ∧ LSr l T j A G w e P D u C j1 A1 G1 w1 e1 P1 D1 u1 C1 ∧ j < j1
def LX (l : Nat) (T : Nat → Nat) (q j : Nat) (A : Nat → Option Nat) (G : List (Nat × Nat)) (w e : Nat) (P D : List (Nat × Nat)) (u : Nat) (C : List Int) (I I1 : Nat → Nat → Int32) (J J1 : Nat → Nat → Int64) : Prop := FKw q I I1 J J1 ∧ ∃ fx px : Nat, I1 3 1 = Int32.ofInt (fx : Nat) ∧ I1 3 2 = Int32.ofInt (px : Nat) ∧ 1 ≤ fx ∧ fx ≤ 4 ∧ LF l T j A G w e P D u C fx px
section
variable {SL : Nat} {xs : Nat → Int32} {d : Nat} {p s q : Nat} {Q : Option Value → mm_H → Prop} {I I1 : Nat → Nat → Int32} {J J1 : Nat → Nat → Int64} {l j : Nat} {T : Nat → Nat} {A : Nat → Option Nat} {G : List (Nat × Nat)} {w e : Nat} {P D : List (Nat × Nat)} {u : Nat} {C : List Int} {v1 : Int32}
theorem c_163 (hq : isP q) (h : BO l T q j A G w e P D u C I I1 J J1) (kq : ∀ I2 J2, LO l T q j A G w e P D u C I I2 J J2 → Q (some (.int (Int32.ofInt 1))) (hp p s q I2 J2)) (kf : ∀ I2 J2, LX l T q j A G w e P D u C I I2 J J2 → Q (some (.int (Int32.ofInt 0))) (hp p s q I2 J2)) : w_X7_readLine_163 SL xs d p s q Q v1 (Int32.ofInt 1) I1 J1 := by
  obtain ⟨j1, A1, G1, w1, e1, P1, D1, u1, C1, g1, g2, g3, g4, g5⟩ := h
  have hq' : q = 39 ∨ q = 46 := hq
  refine sg_X7_readLine_163 ⟨fun z => absurd z (by decide), fun _ => c_take (c := 59) (by omega) g2.1 (fun hk I2 J2 f c2 => ⟨_, _, _, rfl, rfl, fun z => absurd z (by decide), fun _ => kq I2 J2 ⟨nX l T j1, A1, G1, w1, e1, P1, D1, u1, C1, FK_t g1 (FK_4 f), ⟨c2, ?_, KB_4 hq f g2.2.2⟩, g3, AS_ok g4 hk, ?_⟩⟩) (fun hk => ⟨_, _, _, rfl, rfl, fun _ => sg_X7_readLine_180 (kf _ _ ⟨FZ g1 (FK_f hq), flt (tkK l T j1) 2, j1, fI_2.1, fI_2.2, flt_1.1, flt_1.2, AS_no g4 hk⟩), fun z => absurd rfl z⟩)⟩
  · intro i hi; rw [f.1 14 (by omega)]; exact g2.2.1 i hi
  · have := nX_b (T := T) g2.1.1
    rcases Nat.lt_or_ge j1 l with y | y
    · have := this.2 y; omega
    · exfalso
      have : tkK l T j1 = 0 := by rw [tkK, if_pos y]
      omega
theorem c_163f (h : LX l T q j A G w e P D u C I I1 J J1) (kf : ∀ I2 J2, LX l T q j A G w e P D u C I I2 J J2 → Q (some (.int (Int32.ofInt 0))) (hp p s q I2 J2)) : w_X7_readLine_163 SL xs d p s q Q v1 (Int32.ofInt 0) I1 J1 :=
  sg_X7_readLine_163 ⟨fun _ => sg_X7_readLine_180 (kf _ _ h), fun z => absurd rfl z⟩
end
