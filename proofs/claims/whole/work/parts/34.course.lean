/-! a ring's course, as numbers -/
theorem mu_row {α : Type} {f : Nat → Nat → α} {a k i : Nat} {v : α} (h : i ≠ a) : mm_u f a k v i = f i := funext fun j => if_neg h
theorem mu_at {α : Type} {f : Nat → Nat → α} {a k : Nat} {v : α} : mm_u f a k v a k = v := by unfold mm_u; rw [if_pos rfl, if_pos rfl]
theorem mu_ne {α : Type} {f : Nat → Nat → α} {a k j : Nat} {v : α} (h : j ≠ k) : mm_u f a k v a j = f a j := by unfold mm_u; rw [if_pos rfl, if_neg h]
theorem mu_if {α : Type} {f : Nat → Nat → α} {a k j : Nat} {v : α} : mm_u f a k v a j = if j = k then v else f a j := by unfold mm_u; rw [if_pos rfl]
theorem z_ixN {t : Nat} (h : t < 2147483648) : (Int32.ofInt (t : Int)).toNatClampNeg = t := by rw [z_ix (by omega)]; exact Int.toNat_natCast t
theorem z_inN {t n : Nat} (h : t < n) (h2 : t < 2147483648) : vp_in (Int32.ofInt (t : Int)) n := by rw [z_in (by omega)]; omega
abbrev plT : Type := Nat × Nat × Nat × Nat × Int × (Nat → Bool) × (Nat → Nat → Nat → Nat)
def p_n (P : plT) : Nat := P.1
def p_k (P : plT) : Nat := P.2.1
def p_t (P : plT) : Nat := P.2.2.1
def p_a (P : plT) : Nat := P.2.2.2.1
def p_b (P : plT) : Int := P.2.2.2.2.1
def p_g (P : plT) : Nat → Bool := P.2.2.2.2.2.1
def p_c (P : plT) : Nat → Nat → Nat → Nat := P.2.2.2.2.2.2
abbrev crT : Type := (Nat → Bool) × (Nat → Nat) × Nat × Int × Int × Nat × Nat
def c_S (c : crT) : Nat → Bool := c.1
def c_H (c : crT) : Nat → Nat := c.2.1
def c_g (c : crT) : Nat := c.2.2.1
def c_f (c : crT) : Int := c.2.2.2.1
def c_e (c : crT) : Int := c.2.2.2.2.1
def c_l (c : crT) : Nat := c.2.2.2.2.2.1
def c_b (c : crT) : Nat := c.2.2.2.2.2.2
def nd (P : plT) (i : Nat) : Nat := if p_g P i then p_a P + 2 else p_a P + 1
def tur (P : plT) (c : crT) : Bool := decide (0 < p_t P ∧ c_g c / p_t P % 2 = 1)
def sec (P : plT) (c : crT) : Bool := decide (p_b P ≠ -1 ∧ c_g c % 2 = 1)
def upw (P : plT) (c : crT) : Bool := sec P c == tur P c
def was (P : plT) (c : crT) : Int := if sec P c then c_e c else c_f c
def frm (P : plT) (c : crT) : Nat := if was P c = -1 then (if sec P c then (p_b P).toNat else c_b c) else nx (p_n P) (upw P c) (was P c).toNat
def hit (P : plT) (c : crT) (k : Nat) : Nat := pk (c_S c) (p_n P) (upw P c) (frm P c) k
def gw (P : plT) (c : crT) (k : Nat) : Bool := decide (nd P (hit P c k) ≤ c_H c (hit P c k) + 1)
def gs (P : plT) (c : crT) (k : Nat) : crT := ((fun i => if i = hit P c k then c_S c i && !gw P c k else c_S c i), (fun i => if i = hit P c k then c_H c i + 1 else c_H c i), c_g c + 1, (if sec P c then c_f c else (hit P c k : Int)), (if sec P c then (hit P c k : Int) else c_e c), k, c_b c)
def sta (P : plT) (c : crT) : Nat := fb_ct (c_S c) (p_n P)
def ncn (P : plT) (c : crT) : Nat := p_c P (c_g c + 1) (sta P c) (c_l c)
def rem_f (P : plT) (c : crT) (i : Nat) : Nat := if c_S c i then nd P i - c_H c i else 0
def rem_ (P : plT) (c : crT) : Nat := fb_sm (rem_f P c) (p_n P)
def pw (P : plT) : Prop := 1 ≤ p_n P ∧ p_n P ≤ 60 ∧ 1 ≤ p_k P ∧ p_k P ≤ 59 ∧ p_t P ≤ 99 ∧ p_a P ≤ 9 ∧ -1 ≤ p_b P ∧ p_b P < p_n P ∧ ∀ x y z, 1 ≤ p_c P x y z ∧ p_c P x y z ≤ 999
def cw (P : plT) (c : crT) (M : Nat) : Prop := (∀ i, c_S c i = true → i < p_n P) ∧ (∀ i, c_S c i = true → c_H c i < nd P i) ∧ (∀ i, i < 60 → c_H c i ≤ 11) ∧ -1 ≤ c_f c ∧ c_f c < p_n P ∧ -1 ≤ c_e c ∧ c_e c < p_n P ∧ c_b c < p_n P ∧ c_l c ≤ 1000 ∧ c_g c + rem_ P c ≤ M
theorem nd_le {P : plT} (h : pw P) (i : Nat) : 1 ≤ nd P i ∧ nd P i ≤ 11 := by
  obtain ⟨_, _, _, _, _, h6, _⟩ := h
  unfold nd; split <;> omega
theorem frm_lt {P : plT} {c : crT} {M : Nat} (hP : pw P) (hc : cw P c M) : frm P c < p_n P := by
  obtain ⟨p1, p2, p3, p4, p5, p6, p7, p8, p9⟩ := hP
  obtain ⟨c1, c2, c3, c4, c5, c6, c7, c8, c9, c10⟩ := hc
  unfold frm
  split
  · split
    · omega
    · exact c8
  · rename_i h
    apply nx_lt
    unfold was at h ⊢
    split <;> (split at h <;> omega)
theorem hit_ok {P : plT} {c : crT} (k : Nat) (hs : 0 < sta P c) : hit P c k < p_n P ∧ c_S c (hit P c k) = true := pk_ok _ _ _ hs
theorem gs_S {P : plT} {c : crT} {k i : Nat} : c_S (gs P c k) i = if i = hit P c k then c_S c i && !gw P c k else c_S c i := rfl
theorem gs_H {P : plT} {c : crT} {k i : Nat} : c_H (gs P c k) i = if i = hit P c k then c_H c i + 1 else c_H c i := rfl
theorem gs_rem {P : plT} {c : crT} {M k : Nat} (hP : pw P) (hc : cw P c M) (hs : 0 < sta P c) : rem_ P (gs P c k) + 1 = rem_ P c := by
  obtain ⟨h1, h2⟩ := hit_ok (P := P) (c := c) k hs
  have h3 := hc.2.1 _ h2
  have e : rem_ P (gs P c k) = fb_sm (fun i => if i = hit P c k then rem_f P c (hit P c k) - 1 else rem_f P c i) (p_n P) := by
    unfold rem_
    apply fb_sm_cong
    intro i hi
    show rem_f P (gs P c k) i = _
    unfold rem_f
    rw [gs_S, gs_H]
    by_cases q : i = hit P c k
    · subst q
      simp only [if_true, h2, Bool.true_and]
      unfold gw
      by_cases z : nd P (hit P c k) ≤ c_H c (hit P c k) + 1
      · rw [decide_eq_true z]; simp; omega
      · rw [decide_eq_false z]; simp; omega
    · simp only [if_neg q]
  have f1 : 1 ≤ rem_f P c (hit P c k) := by unfold rem_f; rw [if_pos h2]; omega
  have := fb_sm_upd (rem_f P c) (rem_f P c (hit P c k) - 1) h1
  rw [e]
  unfold rem_ at *
  omega
theorem gs_sta {P : plT} {c : crT} {k : Nat} (hs : 0 < sta P c) : sta P (gs P c k) = if gw P c k then sta P c - 1 else sta P c := by
  obtain ⟨h1, h2⟩ := hit_ok (P := P) (c := c) k hs
  have := fb_ct_upd (c_S c) (c_S c (hit P c k) && !gw P c k) h1
  have e : sta P (gs P c k) = fb_ct (fun i => if i = hit P c k then c_S c (hit P c k) && !gw P c k else c_S c i) (p_n P) := by
    unfold sta
    apply fb_ct_cong
    intro i hi
    rw [gs_S]
    by_cases q : i = hit P c k
    · rw [if_pos q, if_pos q, q]
    · rw [if_neg q, if_neg q]
  rw [e]
  unfold sta at *
  rw [h2] at this ⊢
  cases hg : gw P c k <;> simp [hg] at this ⊢ <;> omega
theorem gs_cw {P : plT} {c : crT} {M k : Nat} (hP : pw P) (hc : cw P c M) (hs : 0 < sta P c) (hk : k ≤ 1000) : cw P (gs P c k) M := by
  obtain ⟨h1, h2⟩ := hit_ok (P := P) (c := c) k hs
  have hr := gs_rem (k := k) hP hc hs
  obtain ⟨c1, c2, c3, c4, c5, c6, c7, c8, c9, c10⟩ := hc
  have hnd := nd_le hP (hit P c k)
  have hh := c2 _ h2
  refine ⟨fun i hi => ?_, fun i hi => ?_, fun i hi => ?_, ?_, ?_, ?_, ?_, c8, hk, ?_⟩
  · rw [gs_S] at hi
    split at hi
    · rename_i e; rw [e]; exact h1
    · exact c1 i hi
  · rw [gs_S] at hi
    rw [gs_H]
    split at hi
    · rename_i e
      rw [if_pos e]
      subst e
      rw [h2, Bool.true_and] at hi
      unfold gw at hi
      simp only [Bool.not_eq_true', decide_eq_false_iff_not] at hi
      omega
    · rename_i e; rw [if_neg e]; exact c2 i hi
  · rw [gs_H]
    split
    · rename_i e; subst e; omega
    · exact c3 i hi
  · show -1 ≤ (if sec P c then c_f c else (hit P c k : Int)); split <;> omega
  · show (if sec P c then c_f c else (hit P c k : Int)) < _; split <;> omega
  · show -1 ≤ (if sec P c then (hit P c k : Int) else c_e c); split <;> omega
  · show (if sec P c then (hit P c k : Int) else c_e c) < _; split <;> omega
  · show c_g c + 1 + _ ≤ M; omega
theorem sta_rem {P : plT} {c : crT} {M : Nat} (hc : cw P c M) : sta P c ≤ rem_ P c := by
  have : ∀ n, fb_ct (c_S c) n ≤ fb_sm (rem_f P c) n := by
    intro n
    induction n with
    | zero => exact Nat.le_refl _
    | succ n ih =>
      rw [fb_ct_succ, fb_sm_succ]
      have : (if c_S c n then 1 else 0) ≤ rem_f P c n := by
        unfold rem_f
        by_cases q : c_S c n = true
        · rw [if_pos q, if_pos q]; have := hc.2.1 n q; omega
        · rw [if_neg q, if_neg q]; exact Nat.le_refl _
      omega
  exact this _
theorem ncn_ok {P : plT} {c : crT} (hP : pw P) : 1 ≤ ncn P c ∧ ncn P c ≤ 999 := hP.2.2.2.2.2.2.2.2 _ _ _
