/-! lists as rows -/
def uL (C : List Int) (i : Nat) : Int := C.getD (C.length - 1 - i) 0
theorem uL_lt {w : Int} {r : List Int} {i : Nat} (h : i < r.length) : uL (w :: r) i = uL r i := by
  unfold uL
  rw [List.length_cons, show r.length + 1 - 1 - i = (r.length - 1 - i) + 1 by omega, List.getD_cons_succ]
theorem uL_eq {w : Int} {r : List Int} : uL (w :: r) r.length = w := by
  unfold uL
  rw [List.length_cons, show r.length + 1 - 1 - r.length = 0 by omega, List.getD_cons_zero]
theorem dpt_cong {u v : Nat → Int} : ∀ n, (∀ i, i < n → u i = v i) → dpt u n = dpt v n
  | 0, _ => rfl
  | n + 1, h => by rw [dpt, dpt, h n (by omega), dpt_cong n (fun i hi => h i (by omega))]
theorem wf_l : ∀ C : List Int, wfl C → dpt (uL C) C.length = dl C ∧ ∀ i, i < C.length → vc (uL C i) ∧ dpt (uL C) i ≤ 40 ∧ (uL C i = -144 → 1 ≤ dpt (uL C) i) ∧ (¬ uL C i = -144 → jn (uL C i) = true → 2 ≤ dpt (uL C) i) ∧ (¬ uL C i = -144 → jn (uL C i) = false → dpt (uL C) i < 40)
  | [], _ => ⟨rfl, fun i hi => absurd hi (Nat.not_lt_zero i)⟩
  | w :: r, h => by
    obtain ⟨i1, i2⟩ := wf_l r h.1
    have e : ∀ n, n ≤ r.length → dpt (uL (w :: r)) n = dpt (uL r) n := fun n hn => dpt_cong n (fun i hi => uL_lt (by omega))
    have el := e r.length (Nat.le_refl _)
    refine ⟨?_, fun i hi => ?_⟩
    · rw [List.length_cons, dpt, uL_eq, el, i1, dl]
    · rw [List.length_cons] at hi
      rcases Nat.lt_or_ge i r.length with c | c
      · rw [uL_lt c, e i (by omega)]; exact i2 i c
      · obtain rfl : i = r.length := by omega
        rw [uL_eq, el, i1]
        exact h.2
theorem CS_u {q : Nat} {I : Nat → Nat → Int32} : ∀ C : List Int, CS q I C → ∀ i, i < C.length → I (q + 5) i = Int32.ofInt (uL C i)
  | [], _, i, hi => absurd hi (Nat.not_lt_zero i)
  | w :: r, h, i, hi => by
    rw [List.length_cons] at hi
    rcases Nat.lt_or_ge i r.length with c | c
    · rw [uL_lt c]; exact CS_u r h.2 i c
    · obtain rfl : i = r.length := by omega
      rw [uL_eq]; exact h.1
theorem NS_u {I : Nat → Nat → Int32} : ∀ C : List Int, NS I C → ∀ i, i < C.length → I 67 i = Int32.ofInt (wh (uL C i)) ∧ (0 ≤ uL C i → I 68 i = Int32.ofInt (uL C i))
  | [], _, i, hi => absurd hi (Nat.not_lt_zero i)
  | w :: r, h, i, hi => by
    rw [List.length_cons] at hi
    rcases Nat.lt_or_ge i r.length with c | c
    · rw [uL_lt c]; exact NS_u r h.2 i c
    · obtain rfl : i = r.length := by omega
      rw [uL_eq]; exact h.1
def pL (C : List (Nat × Nat)) (i : Nat) : Nat × Nat := C.getD (C.length - 1 - i) (0, 0)
theorem pL_lt {w : Nat × Nat} {r : List (Nat × Nat)} {i : Nat} (h : i < r.length) : pL (w :: r) i = pL r i := by
  unfold pL
  rw [List.length_cons, show r.length + 1 - 1 - i = (r.length - 1 - i) + 1 by omega, List.getD_cons_succ]
theorem pL_eq {w : Nat × Nat} {r : List (Nat × Nat)} : pL (w :: r) r.length = w := by
  unfold pL
  rw [List.length_cons, show r.length + 1 - 1 - r.length = 0 by omega, List.getD_cons_zero]
theorem XS_u {a b : Nat} {I : Nat → Nat → Int32} : ∀ C : List (Nat × Nat), XS a b I C → ∀ i, i < C.length → I a i = Int32.ofInt ((pL C i).1 : Nat) ∧ I b i = Int32.ofInt ((pL C i).2 : Nat)
  | [], _, i, hi => absurd hi (Nat.not_lt_zero i)
  | w :: r, h, i, hi => by
    rw [List.length_cons] at hi
    rcases Nat.lt_or_ge i r.length with c | c
    · rw [pL_lt c]; exact XS_u r h.2 i c
    · obtain rfl : i = r.length := by omega
      rw [pL_eq]; exact h.1
theorem PS_u {q : Nat} {I : Nat → Nat → Int32} {J : Nat → Nat → Int64} : ∀ C : List (Nat × Nat), PS q I J C → ∀ i, i < C.length → I (q + 2) i = Int32.ofInt ((pL C i).2 : Nat)
  | [], _, i, hi => absurd hi (Nat.not_lt_zero i)
  | w :: r, h, i, hi => by
    rw [List.length_cons] at hi
    rcases Nat.lt_or_ge i r.length with c | c
    · rw [pL_lt c]; exact PS_u r h.2 i c
    · obtain rfl : i = r.length := by omega
      rw [pL_eq]; exact h.1.2
theorem PM_u {I : Nat → Nat → Int32} {J : Nat → Nat → Int64} : ∀ C : List (Nat × Nat), PM I J C → ∀ i, i < C.length → I 77 i = Int32.ofInt ((pL C i).2 : Nat)
  | [], _, i, hi => absurd hi (Nat.not_lt_zero i)
  | w :: r, h, i, hi => by
    rw [List.length_cons] at hi
    rcases Nat.lt_or_ge i r.length with c | c
    · rw [pL_lt c]; exact PM_u r h.2 i c
    · obtain rfl : i = r.length := by omega
      rw [pL_eq]; exact h.1.2
theorem XW_u {f : Nat → Nat → Prop} : ∀ C : List (Nat × Nat), XW f C → ∀ i, i < C.length → f (pL C i).1 (pL C i).2
  | [], _, i, hi => absurd hi (Nat.not_lt_zero i)
  | w :: r, h, i, hi => by
    rw [List.length_cons] at hi
    rcases Nat.lt_or_ge i r.length with c | c
    · rw [pL_lt c]; exact XW_u r h.2 i c
    · obtain rfl : i = r.length := by omega
      rw [pL_eq]; exact h.1
theorem gst_u {i : Nat} : ∀ G : List (Nat × Nat), gst G i = true ↔ ∃ j, j < G.length ∧ (pL G j).1 ≤ i ∧ i ≤ (pL G j).2
  | [] => ⟨fun z => absurd z (by simp [gst]), fun ⟨j, hj, _⟩ => absurd hj (Nat.not_lt_zero j)⟩
  | x :: r => by
    rw [gst, Bool.or_eq_true, gst_u r, decide_eq_true_eq]
    constructor
    · rintro (⟨j, h1, h2⟩ | h)
      · exact ⟨j, by rw [List.length_cons]; omega, by rw [pL_lt h1]; exact h2⟩
      · exact ⟨r.length, by rw [List.length_cons]; omega, by rw [pL_eq]; exact h⟩
    · rintro ⟨j, h1, h2⟩
      rw [List.length_cons] at h1
      rcases Nat.lt_or_ge j r.length with c | c
      · rw [pL_lt c] at h2; exact Or.inl ⟨j, c, h2⟩
      · obtain rfl : j = r.length := by omega
        rw [pL_eq] at h2; exact Or.inr h2
/-! the tape's bytes -/
def tpe (I : Nat → Nat → Int32) (i : Nat) : Nat := (I 5 i &&& Int32.ofInt 255).toBitVec.toNat
theorem tpe_ok {I : Nat → Nat → Int32} {i : Nat} : tpe I i ≤ 255 ∧ I 5 i &&& Int32.ofInt 255 = Int32.ofInt (tpe I i : Nat) := by
  constructor
  · show ((I 5 i).toBitVec &&& (Int32.ofInt 255).toBitVec).toNat ≤ 255
    rw [BitVec.toNat_and]
    exact Nat.le_trans Nat.and_le_right (by decide)
  · rw [← z_nI]
    apply Int32.toBitVec_inj.1
    show _ = BitVec.ofNat 32 (I 5 i &&& Int32.ofInt 255).toBitVec.toNat
    simp
/-! the ring that is told -/
def npl (A : Nat → Option Nat) (G : List (Nat × Nat)) (w e : Nat) (C : List Int) : plT := (pn A, pk_ A, pt_ A, pa_ A, oi (by_ A) (-1), gst G, fun x y z => clp (est (Int32.ofInt (x : Nat)) (Int32.ofInt (y : Nat)) (Int32.ofInt (z : Nat)) (Int32.ofInt (w : Nat)) (Int32.ofInt (e : Nat)) (uL (ccd A C)) (ccd A C).length 0))
theorem pk_b {A : Nat → Option Nat} (h : aok A) : (1 ≤ pk_ A ∧ pk_ A ≤ 59 ∧ oi (A 2) 1 = (pk_ A : Nat)) ∧ (pt_ A ≤ 99 ∧ oi (A 3) 0 = (pt_ A : Nat)) ∧ (pa_ A ≤ 9 ∧ oi (A 4) 0 = (pa_ A : Nat)) := by
  unfold pk_ pt_ pa_
  refine ⟨?_, ?_, ?_⟩
  · cases z : A 2 with
    | none => exact ⟨by decide, by decide, rfl⟩
    | some v => have := h.2.2.1 v z; exact ⟨this.1, this.2, rfl⟩
  · cases z : A 3 with
    | none => exact ⟨by decide, rfl⟩
    | some v => have := h.2.2.2.1 v z; exact ⟨this.2, rfl⟩
  · cases z : A 4 with
    | none => exact ⟨by decide, rfl⟩
    | some v => have := h.2.2.2.2.1 v z; exact ⟨this, rfl⟩
theorem by_b {A : Nat → Option Nat} (h : aok A) : -1 ≤ oi (by_ A) (-1) ∧ oi (by_ A) (-1) < (pn A : Nat) := by
  obtain ⟨n1, n2, n3⟩ := pn_b h
  unfold by_
  cases z : A 5 with
  | none => show -1 ≤ (-1 : Int) ∧ (-1 : Int) < _; omega
  | some v =>
    have := Nat.mod_lt v (show 0 < pn A by omega)
    show -1 ≤ ((v % pn A : Nat) : Int) ∧ ((v % pn A : Nat) : Int) < _
    omega
theorem npl_w {A : Nat → Option Nat} {G : List (Nat × Nat)} {w e : Nat} {C : List Int} (h : aok A) : pw (npl A G w e C) := by
  obtain ⟨n1, n2, n3⟩ := pn_b h
  obtain ⟨⟨k1, k2, _⟩, ⟨t1, _⟩, ⟨a1, _⟩⟩ := pk_b h
  obtain ⟨y1, y2⟩ := by_b h
  exact ⟨n1, n2, k1, k2, t1, a1, y1, y2, fun x y z => clp_ok _⟩
theorem ccd_w {A : Nat → Option Nat} {G : List (Nat × Nat)} {w e : Nat} {P D : List (Nat × Nat)} {u : Nat} {C : List Int} (h : LW A G w e P D u C) : wfo (uL (ccd A C)) (ccd A C).length ∧ (ccd A C).length ≤ 360 := by
  have key : wfl (ccd A C) ∧ 1 ≤ dl (ccd A C) ∧ (ccd A C).length ≤ 360 := by
    unfold ccd
    by_cases z : (A 6).isSome = true
    · rw [if_pos z]
      have := h.2.2.2.2.2.2.2.2 (fun y => by rw [y] at z; exact absurd z (by decide))
      exact ⟨this.1, this.2, h.2.2.2.2.2.2.1⟩
    · rw [if_neg z]
      refine ⟨⟨trivial, by unfold vc; omega, by decide, fun z => absurd z (by decide), fun _ z => absurd z (by decide), fun _ _ => by decide⟩, by decide, by decide⟩
  obtain ⟨a, b⟩ := wf_l _ key.1
  exact ⟨⟨by rw [a]; exact key.2.1, b⟩, key.2.2⟩
theorem ccd_3 {A : Nat → Option Nat} {C : List Int} {x y z w g : Int32} (h : ¬ (A 6).isSome = true) : clp (est x y z w g (uL (ccd A C)) (ccd A C).length 0) = 3 := by
  have e : ccd A C = [3] := by unfold ccd; rw [if_neg h]
  rw [e]
  show clp (est x y z w g (uL [3]) 1 0) = 3
  have e1 : uL [3] 0 = 3 := rfl
  rw [est_vl (by rw [e1]; decide) (by rw [e1]; decide), e1, if_pos (show 0 = dpt (uL [3]) 0 from rfl)]
  show clp (Int32.ofInt 3) = 3
  decide
