/-- one of the small parts changed, all else kept -/
theorem RX_u {p s q : Nat} {P : plT} {bg : Nat} {x : trT} {I I2 : Nat → Nat → Int32} {J J2 : Nat → Nat → Int64} (hR : RX p s q P bg x I J) (fr : ∀ x, (15 ≤ x ∧ x ≤ 18) ∨ (39 ≤ x ∧ x ≤ 44) ∨ (46 ≤ x ∧ x ≤ 51) ∨ (53 ≤ x ∧ x ≤ 64) ∨ x = 69 ∨ x = 70 ∨ (80 ≤ x ∧ x ≤ 84) ∨ (107 ≤ x ∧ x ≤ 113) → I2 x = I x) (ff : ∀ k, 19 ≤ k → k < 59 → I2 65 k = I 65 k) (fj : ∀ x, x = 6 ∨ (15 ≤ x ∧ x ≤ 18) ∨ x = 39 ∨ x = 46 ∨ (53 ≤ x ∧ x ≤ 64) → J2 x = J x) (h3 : v_tape (I2 4 1) (I2 5) (I2 65 1) (I2 66)) (h4 : I2 3 1 = I2 65 2) (h5 : I2 3 2 = I2 65 3) (h6 : v_ord (I2 29 1) (I2 65 80) (I2 30) (I2 97)) (h7 : v_time (I2 2 9) (I2 65 89)) (h8 : v_sig (I2 33 0) (I2 65 88) (I2 34) (I2 35) (J2 36) (I2 100) (I2 101) (I2 102) (I2 103) (I2 104)) : RX p s q P bg x I2 J2 := by
  have hpp := (RX_p hR).1
  obtain ⟨g1, g2, g3, g4, g5, g6, g7, g8, g9, g10, g11, g12, g13, g14⟩ := hR
  refine ⟨g1, g2, h3, h4, h5, h6, h7, h8, by rw [fj 6 (by omega)]; exact g9, ?_, g11, g12, TR_c (fun r a b => fr r (by omega)) (fj 15 (by omega)) g13, fun b hb => v_box_c hb (fun x hx => fr x (by omega)) (fun x a b => fj x (by omega)) (g14 b hb)⟩
  obtain ⟨q1, q2, q3, q4, q5, q6, q7, q8, q9⟩ := g10
  refine ⟨q1, PA_c (fr p (by omega)) (fr (p + 5) (by omega)) (fj p (by omega)) q2, ?_, q4, ?_, ?_, ?_, ?_, ?_⟩
  · unfold MP MG MC at q3 ⊢
    rw [fr 69 (by omega), fr 70 (by omega), fr 80 (by omega), fr 81 (by omega), ff 42 (by omega) (by omega), ff 53 (by omega) (by omega), ff 20 (by omega) (by omega), ff 45 (by omega) (by omega), ff 46 (by omega) (by omega), ff 47 (by omega) (by omega), ff 49 (by omega) (by omega), ff 50 (by omega) (by omega), ff 51 (by omega) (by omega), ff 52 (by omega) (by omega)]; exact q3
  · rw [fr p (by omega)]; exact q5
  · rw [ff 48 (by omega) (by omega)]; exact q6
  · rw [fr p (by omega), ff 21 (by omega) (by omega)]; exact q7
  · rw [fr p (by omega), ff 43 (by omega) (by omega), fr (p + 2) (by omega), fr 82 (by omega)]; exact q8
  · rw [fr p (by omega), ff 44 (by omega) (by omega), fr (p + 3) (by omega), fr (p + 4) (by omega), fr 83 (by omega), fr 84 (by omega)]; exact q9
theorem ca_end {SL : Nat} {xs : Nat → Int32} {d : Nat} {h : mm_H} {Q : Option Value → mm_H → Prop} {a0 : Int32} (hd : 150 ≤ d) (hiv : iv h) (k : ∀ (r : Int32) (h1 : mm_H), h1.2.1 65 = .inr 9 → (∀ Q2 : Option Value → mm_H → Prop, (∀ h2, iv h2 → Q2 (some (.int r)) h2) → mm_s SL xs d 167 [.ref 65, .int a0] h1 Q2) → Q (some (.int r)) h1) : mm_s SL xs d 117 [.ref 2, .int a0] h Q := by
  obtain ⟨e, rfl⟩ : ∃ e, d = e + 1 := ⟨d - 1, by omega⟩
  obtain ⟨_, _, p, s, q, I, J, rfl, P, bg, x, hR, hM⟩ := hiv
  obtain ⟨l, l1, l2, l3, l4⟩ := hR.2.2.1
  have hI : I 65 1 = I 4 1 := by rw [l2, l3]
  refine sg_X10_end ⟨fun h => k _ _ rfl (fun Q2 k2 => sg_X11_end ⟨fun _ => k2 _ (iv_mk ⟨P, bg, x, hR, hM⟩), fun h' => absurd h h'⟩), fun h => ⟨fun h2 => k _ _ rfl (fun Q2 k2 => sg_X11_end ⟨fun h' => absurd h' h, fun _ => ⟨fun _ => k2 _ (iv_mk ⟨P, bg, x, ?_, ?_⟩), fun h3 => absurd (show a0 ≤ I 65 1 by rw [hI]; exact h2) h3⟩⟩), fun h2 => k _ _ rfl (fun Q2 k2 => sg_X11_end ⟨fun h' => absurd h' h, fun _ => ⟨fun h3 => absurd (show a0 ≤ I 4 1 by rw [← hI]; exact h3) h2, fun _ => k2 _ (iv_mk ⟨P, bg, x, hR, hM⟩)⟩⟩)⟩⟩
  · refine RX_u hR (fun x hx => by rw [mu_row (by omega), mu_row (by omega)]) (fun k a b => by rw [mu_ne (by omega), mu_row (by omega)]) (fun _ _ => rfl) ?_ hR.2.2.2.1 hR.2.2.2.2.1 hR.2.2.2.2.2.1 hR.2.2.2.2.2.2.1 hR.2.2.2.2.2.2.2.1
    obtain ⟨z, z1, z2, rfl⟩ := z_of a0
    rw [z_lt (by omega)] at h
    rw [l2, z_le (by omega)] at h2
    refine ⟨z.toNat, by omega, ?_, ?_, fun i hi => l4 i (by omega)⟩
    · show Int32.ofInt z = _; congr 1; omega
    · show Int32.ofInt z = _; congr 1; omega
  · exact hM
theorem ca_fault {SL : Nat} {xs : Nat → Int32} {d : Nat} {h : mm_H} {Q : Option Value → mm_H → Prop} {a0 : Int32} (hd : 150 ≤ d) (hiv : iv h) (k : ∀ (r : Int32) (h1 : mm_H), h1.2.1 65 = .inr 9 → (∀ Q2 : Option Value → mm_H → Prop, (∀ h2, iv h2 → Q2 (some (.int r)) h2) → mm_s SL xs d 200 [.ref 65, .int a0] h1 Q2) → Q (some (.int r)) h1) : mm_s SL xs d 119 [.ref 2, .int a0] h Q := by
  obtain ⟨e, rfl⟩ : ∃ e, d = e + 1 := ⟨d - 1, by omega⟩
  obtain ⟨_, _, p, s, q, I, J, rfl, P, bg, x, hR, hM⟩ := hiv
  refine cy_X10_fault (k _ _ rfl (fun Q2 k2 => cy_X11_fault ?_))
  have e : sy_X11_fault a0 I J = sy_X10_fault a0 I J := by unfold sy_X11_fault sy_X10_fault; rw [hR.2.2.2.1, hR.2.2.2.2.1]
  rw [e]
  exact k2 _ (iv_mk ⟨P, bg, x, hR, hM⟩)
/-- a post, in the class and in the reference -/
theorem isPost_c {SL : Nat} {xs : Nat → Int32} {d : Nat} {p s q : Nat} {Q : Option Value → mm_H → Prop} {I : Nat → Nat → Int32} {J : Nat → Nat → Int64} {a : Int32} {n : Nat} (hp_ : isP p) (hn : n ≤ 60) (h0 : I p 0 = Int32.ofInt (n : Nat)) (k1 : (∃ t : Nat, t < n ∧ a = Int32.ofInt (t : Nat)) → Q (some (.int (Int32.ofInt 1))) (hp p s q I J)) (k0 : (¬ ∃ t : Nat, t < n ∧ a = Int32.ofInt (t : Nat)) → Q (some (.int (Int32.ofInt 0))) (hp p s q I J)) : mm_s SL xs (d + 1) 157 [.ref 2, .int a] (hp p s q I J) Q := by
  obtain ⟨z, z1, z2, rfl⟩ := z_of a
  have key : (∃ t : Nat, t < n ∧ Int32.ofInt z = Int32.ofInt (t : Nat)) ↔ (0 ≤ z ∧ z < n) := ⟨fun ⟨t, t1, t2⟩ => by rw [z_eq (by omega)] at t2; omega, fun h => ⟨z.toNat, by omega, by congr 1; omega⟩⟩
  rw [key] at k1 k0
  refine sg_X10_isPost hp_ ?_
  rw [h0, z_lt (by omega), z_le (by omega), z_le (by omega)]
  exact ⟨fun h => k0 (by omega), fun h => ⟨fun h2 => k0 (by omega), fun h2 => ⟨fun h3 => absurd h3 (by omega), fun h3 => k1 (by omega)⟩⟩⟩
theorem isPost_m {I : Nat → Nat → Int32} {J : Nat → Nat → Int64} {a : Int32} {n : Nat} (hn : n ≤ 60) (h0 : I 65 47 = Int32.ofInt (n : Nat)) : (sy_X11_isPost a I J = Int32.ofInt 0) = (¬ ∃ t : Nat, t < n ∧ a = Int32.ofInt (t : Nat)) := by
  obtain ⟨z, z1, z2, rfl⟩ := z_of a
  have key : (∃ t : Nat, t < n ∧ Int32.ofInt z = Int32.ofInt (t : Nat)) ↔ (0 ≤ z ∧ z < n) := ⟨fun ⟨t, t1, t2⟩ => by rw [z_eq (by omega)] at t2; omega, fun h => ⟨z.toNat, by omega, by congr 1; omega⟩⟩
  rw [key]
  unfold sy_X11_isPost
  rw [h0]
  by_cases a : z < 0
  · rw [if_pos (by rw [z_lt (by omega)]; exact a)]; exact propext ⟨fun _ => by omega, fun _ => rfl⟩
  · rw [if_neg (by rw [z_lt (by omega)]; exact a)]
    by_cases b : (n : Int) ≤ z
    · rw [if_pos (by rw [z_le (by omega)]; exact b)]; exact propext ⟨fun _ => by omega, fun _ => rfl⟩
    · rw [if_neg (by rw [z_le (by omega)]; exact b)]; exact propext ⟨fun h => absurd h (by decide), fun h => absurd (by omega) h⟩
theorem ca_post {SL : Nat} {xs : Nat → Int32} {d : Nat} {h : mm_H} {Q : Option Value → mm_H → Prop} {a0 : Int32} {a1 : Int32} (hd : 150 ≤ d) (hiv : iv h) (k : ∀ (r : Int32) (h1 : mm_H), h1.2.1 65 = .inr 9 → (∀ Q2 : Option Value → mm_H → Prop, (∀ h2, iv h2 → Q2 (some (.int r)) h2) → mm_s SL xs d 214 [.ref 65, .int a0, .int a1] h1 Q2) → Q (some (.int r)) h1) : mm_s SL xs d 121 [.ref 2, .int a0, .int a1] h Q := by
  obtain ⟨e, rfl⟩ : ∃ e, d = e + 20 := ⟨d - 20, by omega⟩
  obtain ⟨_, _, p, s, q, I, J, rfl, P, bg, x, hR, hM⟩ := hiv
  obtain ⟨hpp, hip⟩ := RX_p hR
  have hpl := hR.2.2.2.2.2.2.2.2.2.1
  have hT := hR.2.2.2.2.2.2.2.2.2.2.2.2.1
  have hn := hpl.1.2.1
  have hiv2 := iv_mk (p := p) (s := s) (q := q) (I := I) (J := J) ⟨P, bg, x, hR, hM⟩
  refine sg_X10_post ?_
  refine isPost_c hip hn hpl.2.1.1.1 (fun hpo => ⟨_, _, _, rfl, rfl, fun h => absurd h (by decide), fun _ => ?_⟩) (fun hpo => ⟨_, _, _, rfl, rfl, fun _ => ?_, fun h => absurd rfl h⟩)
  · obtain ⟨t, t1, rfl⟩ := hpo
    have hm0 : ¬ (sy_X11_isPost (Int32.ofInt (t : Nat)) I J = Int32.ofInt 0) := by rw [isPost_m hn hpl.2.2.1.1]; exact fun z => z ⟨t, t1, rfl⟩
    have eS : sy_X1_standsAt 15 (Int32.ofInt (t : Nat)) I J = zB (c_S x.1 t) := by unfold sy_X1_standsAt; rw [hT.1.1, bs_has _ (by omega)]; rfl
    rw [eS, zB_0]
    refine ⟨fun h => ⟨fun hs => k _ _ rfl (fun Q2 k2 => sg_X11_post ⟨fun z => absurd z hm0, fun _ => ⟨fun _ => ⟨z_inN (by omega) (by omega), ?_⟩, fun h2 => ?_, fun h2 => ?_, fun h2 => absurd h h2⟩⟩), fun hs => k _ _ rfl (fun Q2 k2 => sg_X11_post ⟨fun z => absurd z hm0, fun _ => ⟨fun _ => ⟨z_inN (by omega) (by omega), ?_⟩, fun h2 => ?_, fun h2 => ?_, fun h2 => absurd h h2⟩⟩)⟩, fun h => ⟨z_inN (by omega) (by omega), k _ _ rfl (fun Q2 k2 => sg_X11_post ⟨fun z => absurd z hm0, fun _ => ⟨fun h2 => ?_, fun _ => ⟨z_inN (by omega) (by omega), ?_⟩, fun h2 => ?_, fun _ h2 => absurd h h2⟩⟩)⟩, fun h => ⟨z_inN (by omega) (by omega), k _ _ rfl (fun Q2 k2 => sg_X11_post ⟨fun z => absurd z hm0, fun _ => ⟨fun h2 => ?_, fun h2 => ?_, fun _ => ⟨z_inN (by omega) (by omega), ?_⟩, fun _ _ h2 => absurd h h2⟩⟩)⟩, fun n0 n1 n2 => k _ _ rfl (fun Q2 k2 => sg_X11_post ⟨fun z => absurd z hm0, fun _ => ⟨fun h2 => absurd h2 n0, fun h2 => absurd h2 n1, fun h2 => absurd h2 n2, fun _ _ _ => k2 _ hiv2⟩⟩)⟩
    · rw [z_ixN (by omega), hM.1.1.1 t (by omega), zB_0, hs]; exact ⟨fun _ => k2 _ hiv2, fun z => absurd rfl z⟩
    · rw [h] at h2; exact absurd h2 (by decide)
    · rw [h] at h2; exact absurd h2 (by decide)
    · rw [z_ixN (by omega), hM.1.1.1 t (by omega), zB_0]; exact ⟨fun z => absurd z hs, fun _ => k2 _ hiv2⟩
    · rw [h] at h2; exact absurd h2 (by decide)
    · rw [h] at h2; exact absurd h2 (by decide)
    · rw [h] at h2; exact absurd h2 (by decide)
    · have e1 : I 87 ((Int32.ofInt (t : Nat)).toNatClampNeg) = I 16 ((Int32.ofInt (t : Nat)).toNatClampNeg) := by rw [z_ixN (by omega), hM.1.1.2.1 t (by omega)]; exact (hT.1.2.1 t (by omega)).symm
      rw [e1]; exact k2 _ hiv2
    · rw [h] at h2; exact absurd h2 (by decide)
    · rw [h] at h2; exact absurd h2 (by decide)
    · rw [h] at h2; exact absurd h2 (by decide)
    · have e1 : I 88 ((Int32.ofInt (t : Nat)).toNatClampNeg) = I 17 ((Int32.ofInt (t : Nat)).toNatClampNeg) := by rw [z_ixN (by omega), hM.1.2.1 t (by omega)]; exact (hT.2.1 t (by omega)).symm
      rw [e1]; exact k2 _ hiv2
  · exact k _ _ rfl (fun Q2 k2 => sg_X11_post ⟨fun _ => k2 _ hiv2, fun z => absurd (by rw [isPost_m hn hpl.2.2.1.1]; exact hpo) z⟩)
theorem ca_went {SL : Nat} {xs : Nat → Int32} {d : Nat} {h : mm_H} {Q : Option Value → mm_H → Prop} {a0 : Int32} (hd : 150 ≤ d) (hiv : iv h) (k : ∀ (r : Int32) (h1 : mm_H), h1.2.1 65 = .inr 9 → (∀ Q2 : Option Value → mm_H → Prop, (∀ h2, iv h2 → Q2 (some (.int r)) h2) → mm_s SL xs d 215 [.ref 65, .int a0] h1 Q2) → Q (some (.int r)) h1) : mm_s SL xs d 122 [.ref 2, .int a0] h Q := by
  obtain ⟨e, rfl⟩ : ∃ e, d = e + 1 := ⟨d - 1, by omega⟩
  obtain ⟨_, _, p, s, q, I, J, rfl, P, bg, x, hR, hM⟩ := hiv
  have hT := hR.2.2.2.2.2.2.2.2.2.2.2.2.1
  have hiv2 := iv_mk (p := p) (s := s) (q := q) (I := I) (J := J) ⟨P, bg, x, hR, hM⟩
  have hL := hT.2.2
  have hL2 := hM.1.2.2
  obtain ⟨z, z1, z2, rfl⟩ := z_of a0
  have hl60 := hL.1
  have eI : I 65 61 = I 15 5 := by rw [hL2.2.1, hL.2.1]
  refine sg_X10_went ⟨fun h => k _ _ rfl (fun Q2 k2 => sg_X11_went ⟨fun _ => k2 _ hiv2, fun h2 => absurd h h2⟩), fun h => ⟨fun h2 => k _ _ rfl (fun Q2 k2 => sg_X11_went ⟨fun z => absurd z h, fun _ => ⟨fun _ => k2 _ hiv2, fun h3 => absurd (by rw [eI]; exact h2) h3⟩⟩), fun h2 => ⟨fun h3 => ?_, fun h3 => ⟨?_, k _ _ rfl (fun Q2 k2 => sg_X11_went ⟨fun z => absurd z h, fun _ => ⟨fun h4 => absurd (by rw [← eI]; exact h4) h2, fun _ => ⟨?_, ?_⟩⟩⟩)⟩⟩⟩⟩
  · rw [z_le (by omega)] at h3
    rw [hL.2.1, z_le (by omega)] at h2
    omega
  · rw [z_lt (by omega)] at h
    rw [z_le (by omega)] at h3
    rw [z_in (by omega)]; omega
  · rw [z_lt (by omega)] at h
    rw [z_le (by omega)] at h3
    rw [z_in (by omega)]; omega
  · rw [z_lt (by omega)] at h
    rw [hL.2.1, z_le (by omega)] at h2
    have e1 : I 89 ((Int32.ofInt z).toNatClampNeg) = I 18 ((Int32.ofInt z).toNatClampNeg) := by rw [z_ix (by omega), hL2.2.2 z.toNat (by omega)]; exact (hL.2.2 z.toNat (by omega)).symm
    rw [e1]; exact k2 _ hiv2
theorem ca_order {SL : Nat} {xs : Nat → Int32} {d : Nat} {h : mm_H} {Q : Option Value → mm_H → Prop} {a0 : Int32} (hd : 150 ≤ d) (hiv : iv h) (k : ∀ (r : Int32) (h1 : mm_H), h1.2.1 65 = .inr 9 → (∀ Q2 : Option Value → mm_H → Prop, (∀ h2, iv h2 → Q2 (some (.int r)) h2) → mm_s SL xs d 230 [.ref 65, .int a0] h1 Q2) → Q (some (.int r)) h1) : mm_s SL xs d 131 [.ref 2, .int a0] h Q := by
  obtain ⟨e, rfl⟩ : ∃ e, d = e + 1 := ⟨d - 1, by omega⟩
  obtain ⟨_, _, p, s, q, I, J, rfl, P, bg, x, hR, hM⟩ := hiv
  have hiv2 := iv_mk (p := p) (s := s) (q := q) (I := I) (J := J) ⟨P, bg, x, hR, hM⟩
  obtain ⟨l, l1, l2, l3, l4⟩ := hR.2.2.2.2.2.1
  obtain ⟨z, z1, z2, rfl⟩ := z_of a0
  refine sg_X10_order ?_
  rw [l2, z_lt (by omega), z_le (by omega), z_lt (by omega)]
  refine ⟨fun h => k _ _ rfl (fun Q2 k2 => sg_X11_order ⟨fun _ => k2 _ hiv2, fun h2 => absurd (by rw [z_lt (by omega)]; exact h) h2⟩), fun h => ⟨fun h2 => k _ _ rfl (fun Q2 k2 => sg_X11_order ⟨fun h' => absurd (by rw [z_lt (by omega)] at h'; exact h') h, fun _ => ⟨fun _ => k2 _ hiv2, fun h3 => absurd (by rw [z_lt (by omega)]; omega) h3⟩⟩), fun h2 => ⟨fun h3 => ⟨z_inN (by omega) (by omega), ?_⟩, fun h3 => k _ _ rfl (fun Q2 k2 => sg_X11_order ⟨fun h' => absurd (by rw [z_lt (by omega)] at h'; exact h') h, fun _ => ⟨fun h4 => absurd (by rw [z_lt (by omega)] at h4; exact h4) (by omega), fun _ => ⟨fun _ => k2 _ hiv2, fun h4 => absurd (by rw [l3, z_eq (by omega)]; omega) h4⟩⟩⟩)⟩⟩⟩
  rw [z_ixN (by omega), z_p1]
  refine k _ _ rfl (fun Q2 k2 => sg_X11_order ⟨fun h' => absurd (by rw [z_lt (by omega)] at h'; exact h') h, fun _ => ⟨fun h4 => absurd (by rw [z_lt (by omega)] at h4; exact h4) (by omega), fun _ => ⟨fun h5 => ?_, fun _ => ⟨?_, ?_⟩⟩⟩⟩)
  · change I 65 80 = Int32.ofInt 60 at h5
    rw [l3, z_eq (by omega)] at h5; omega
  · change vp_in (I 65 80) 60
    rw [l3]; exact z_inN (by omega) (by omega)
  · have e80 : (mm_u (mm_u I 30 l (Int32.ofInt z)) 29 1 (Int32.ofInt ((l + 1 : Nat) : Int))) 65 80 = Int32.ofInt (l : Nat) := l3
    rw [e80, z_ixN (by omega), z_p1]
    refine k2 _ (iv_mk ⟨P, bg, x, RX_u hR (fun x hx => by rw [mu_row (by omega), mu_row (by omega), mu_row (by omega), mu_row (by omega)]) (fun k a b => by rw [mu_ne (by omega), mu_row (by omega), mu_row (by omega), mu_row (by omega)]) (fun _ _ => rfl) hR.2.2.1 hR.2.2.2.1 hR.2.2.2.2.1 ⟨l + 1, by omega, rfl, rfl, fun i hi => ?_⟩ hR.2.2.2.2.2.2.1 hR.2.2.2.2.2.2.2.1, hM⟩)
    show ∃ v : Nat, v < 60 ∧ mm_u I 30 l (Int32.ofInt z) 30 i = _ ∧ mm_u I 97 l (Int32.ofInt z) 97 i = _
    rw [mu_if, mu_if]
    by_cases e : i = l
    · rw [if_pos e, if_pos e]; exact ⟨z.toNat, by omega, by congr 1; omega, by congr 1; omega⟩
    · rw [if_neg e, if_neg e]; exact l4 i (by omega)
theorem ca_keep {SL : Nat} {xs : Nat → Int32} {d : Nat} {h : mm_H} {Q : Option Value → mm_H → Prop} {a0 : Int32} (hd : 150 ≤ d) (hiv : iv h) (k : ∀ (r : Int32) (h1 : mm_H), h1.2.1 65 = .inr 9 → (∀ Q2 : Option Value → mm_H → Prop, (∀ h2, iv h2 → Q2 (some (.int r)) h2) → mm_s SL xs d 231 [.ref 65, .int a0] h1 Q2) → Q (some (.int r)) h1) : mm_s SL xs d 132 [.ref 2, .int a0] h Q := by
  obtain ⟨e, rfl⟩ : ∃ e, d = e + 1 := ⟨d - 1, by omega⟩
  obtain ⟨_, _, p, s, q, I, J, rfl, P, bg, x, hR, hM⟩ := hiv
  obtain ⟨l, l1, l2, l3, l4⟩ := hR.2.2.2.2.2.1
  have hI : I 65 80 = I 29 1 := by rw [l2, l3]
  refine sg_X10_keep ⟨fun h => k _ _ rfl (fun Q2 k2 => sg_X11_keep ⟨fun _ => k2 _ (iv_mk ⟨P, bg, x, hR, hM⟩), fun h' => absurd h h'⟩), fun h => ⟨fun h2 => k _ _ rfl (fun Q2 k2 => sg_X11_keep ⟨fun h' => absurd h' h, fun _ => ⟨fun _ => k2 _ (iv_mk ⟨P, bg, x, ?_, hM⟩), fun h3 => absurd (show a0 ≤ I 65 80 by rw [hI]; exact h2) h3⟩⟩), fun h2 => k _ _ rfl (fun Q2 k2 => sg_X11_keep ⟨fun h' => absurd h' h, fun _ => ⟨fun h3 => absurd (show a0 ≤ I 29 1 by rw [← hI]; exact h3) h2, fun _ => k2 _ (iv_mk ⟨P, bg, x, hR, hM⟩)⟩⟩)⟩⟩
  refine RX_u hR (fun x hx => by rw [mu_row (by omega), mu_row (by omega)]) (fun k a b => by rw [mu_ne (by omega), mu_row (by omega)]) (fun _ _ => rfl) hR.2.2.1 hR.2.2.2.1 hR.2.2.2.2.1 ?_ hR.2.2.2.2.2.2.1 hR.2.2.2.2.2.2.2.1
  obtain ⟨z, z1, z2, rfl⟩ := z_of a0
  rw [z_lt (by omega)] at h
  rw [l2, z_le (by omega)] at h2
  refine ⟨z.toNat, by omega, ?_, ?_, fun i hi => l4 i (by omega)⟩
  · show Int32.ofInt z = _; congr 1; omega
  · show Int32.ofInt z = _; congr 1; omega
theorem ca_later {SL : Nat} {xs : Nat → Int32} {d : Nat} {h : mm_H} {Q : Option Value → mm_H → Prop} {a0 : Int32} (hd : 150 ≤ d) (hiv : iv h) (k : ∀ (r : Int32) (h1 : mm_H), h1.2.1 65 = .inr 9 → (∀ Q2 : Option Value → mm_H → Prop, (∀ h2, iv h2 → Q2 (some (.int r)) h2) → mm_s SL xs d 264 [.ref 65, .int a0] h1 Q2) → Q (some (.int r)) h1) : mm_s SL xs d 149 [.ref 2, .int a0] h Q := by
  obtain ⟨e, rfl⟩ : ∃ e, d = e + 1 := ⟨d - 1, by omega⟩
  obtain ⟨_, _, p, s, q, I, J, rfl, P, bg, x, hR, hM⟩ := hiv
  have hiv2 := iv_mk (p := p) (s := s) (q := q) (I := I) (J := J) ⟨P, bg, x, hR, hM⟩
  obtain ⟨l, l1, l2, l3⟩ := hR.2.2.2.2.2.2.1
  obtain ⟨z, z1, z2, rfl⟩ := z_of a0
  refine sg_X10_later ?_
  rw [l2, z_lt (by omega), z_lt (by omega), z_sub, z_add]
  refine ⟨fun h => k _ _ rfl (fun Q2 k2 => sg_X11_later ⟨fun _ => k2 _ hiv2, fun h2 => absurd (by rw [z_lt (by omega)]; exact h) h2⟩), fun h => ⟨fun h2 => k _ _ rfl (fun Q2 k2 => sg_X11_later ⟨fun h' => absurd (by rw [z_lt (by omega)] at h'; exact h') h, fun _ => ⟨fun _ => k2 _ hiv2, fun h3 => absurd (by rw [z_lt (by omega)]; omega) h3⟩⟩), fun h2 => ⟨fun h3 => ?_, fun h3 => ?_⟩⟩⟩
  · rw [z_le (by omega)] at h3
    refine k _ _ rfl (fun Q2 k2 => sg_X11_later ⟨fun h' => absurd (by rw [z_lt (by omega)] at h'; exact h') h, fun _ => ⟨fun h4 => absurd (by rw [z_lt (by omega)] at h4; exact h4) h2, fun _ => ?_⟩⟩)
    have e89 : (mm_u I 2 9 (Int32.ofInt ((l : Int) + z))) 65 89 = Int32.ofInt (l : Nat) := l3
    rw [e89, z_add, z_le (by omega)]
    refine ⟨fun _ => k2 _ (iv_mk ⟨P, bg, x, RX_u hR (fun x hx => by rw [mu_row (by omega), mu_row (by omega)]) (fun k a b => by rw [mu_ne (by omega), mu_row (by omega)]) (fun _ _ => rfl) hR.2.2.1 hR.2.2.2.1 hR.2.2.2.2.1 hR.2.2.2.2.2.1 ⟨(l + z).toNat, by omega, ?_, ?_⟩ hR.2.2.2.2.2.2.2.1, hM⟩), fun h4 => absurd (by omega) h4⟩
    · show Int32.ofInt ((l : Int) + z) = _; congr 1; omega
    · show Int32.ofInt ((l : Int) + z) = _; congr 1; omega
  · rw [z_le (by omega)] at h3
    refine k _ _ rfl (fun Q2 k2 => sg_X11_later ⟨fun h' => absurd (by rw [z_lt (by omega)] at h'; exact h') h, fun _ => ⟨fun h4 => absurd (by rw [z_lt (by omega)] at h4; exact h4) h2, fun _ => ?_⟩⟩)
    rw [l3, z_add, z_le (by omega)]
    exact ⟨fun h4 => absurd (by omega) h3, fun _ => k2 _ hiv2⟩
theorem ca_untell {SL : Nat} {xs : Nat → Int32} {d : Nat} {h : mm_H} {Q : Option Value → mm_H → Prop} {a0 : Int32} (hd : 150 ≤ d) (hiv : iv h) (k : ∀ (r : Int32) (h1 : mm_H), h1.2.1 65 = .inr 9 → (∀ Q2 : Option Value → mm_H → Prop, (∀ h2, iv h2 → Q2 (some (.int r)) h2) → mm_s SL xs d 263 [.ref 65, .int a0] h1 Q2) → Q (some (.int r)) h1) : mm_s SL xs d 148 [.ref 2, .int a0] h Q := by
  obtain ⟨e, rfl⟩ : ∃ e, d = e + 2 := ⟨d - 2, by omega⟩
  obtain ⟨_, _, p, s, q, I, J, rfl, P, bg, x, hR, hM⟩ := hiv
  have hiv2 := iv_mk (p := p) (s := s) (q := q) (I := I) (J := J) ⟨P, bg, x, hR, hM⟩
  obtain ⟨lt, lt1, lt2, lt3⟩ := hR.2.2.2.2.2.2.1
  obtain ⟨l, l1, l2, l3, l4⟩ := hR.2.2.2.2.2.2.2.1
  obtain ⟨z, z1, z2, rfl⟩ := z_of a0
  refine sg_X10_untell ?_
  refine sg_X8_takeBack ?_
  rw [l2, z_lt (by omega), z_le (by omega), z_le (by omega)]
  refine ⟨fun h => ⟨_, _, _, rfl, rfl, Or.inl rfl, k _ _ rfl (fun Q2 k2 => sg_X11_untell ⟨fun _ => k2 _ hiv2, fun h2 => absurd (by rw [z_lt (by omega)]; exact h) h2⟩)⟩, fun h => ⟨fun h2 => ⟨_, _, _, rfl, rfl, Or.inl rfl, k _ _ rfl (fun Q2 k2 => sg_X11_untell ⟨fun h' => absurd (by rw [z_lt (by omega)] at h'; exact h') h, fun _ => ⟨fun _ => k2 _ hiv2, fun h3 => absurd (by rw [l3, z_le (by omega)]; exact h2) h3⟩⟩)⟩, fun h2 => ⟨fun h3 => absurd h3 (by omega), fun h3 => ⟨by rw [z_in (by omega)]; omega, ?_⟩⟩⟩⟩
  obtain ⟨n, w, po, t, u, u1, u2, u3, u4, u5, u6, u7, u8, u9, u10, u11, u12, u13, u14, u15, u16⟩ := l4 z.toNat (by omega)
  rw [z_ix (by omega), u15, z_eq (by omega)]
  refine ⟨fun h4 => ⟨_, _, _, rfl, rfl, Or.inr rfl, k _ _ rfl (fun Q2 k2 => sg_X11_untell ⟨fun h' => absurd (by rw [z_lt (by omega)] at h'; exact h') h, fun _ => ⟨fun h5 => ?_, fun _ => ⟨by rw [z_in (by omega)]; omega, ?_⟩⟩⟩)⟩, fun h4 => ⟨_, _, _, rfl, rfl, Or.inl rfl, k _ _ rfl (fun Q2 k2 => sg_X11_untell ⟨fun h' => absurd (by rw [z_lt (by omega)] at h'; exact h') h, fun _ => ⟨fun h5 => ?_, fun _ => ⟨by rw [z_in (by omega)]; omega, ?_⟩⟩⟩)⟩⟩
  · change I 65 88 ≤ Int32.ofInt z at h5
    rw [l3, z_le (by omega)] at h5; exact absurd h5 h2
  · rw [z_ix (by omega)]
    have e104 : (mm_u I 35 z.toNat (I 2 9)) 104 z.toNat = Int32.ofInt u := u14
    rw [e104, z_lt (by omega)]
    refine ⟨fun _ => k2 _ (iv_mk ⟨P, bg, x, RX_u hR (fun x hx => by rw [mu_row (by omega), mu_row (by omega)]) (fun k a b => by rw [mu_row (by omega), mu_row (by omega)]) (fun _ _ => rfl) hR.2.2.1 hR.2.2.2.1 hR.2.2.2.2.1 hR.2.2.2.2.2.1 hR.2.2.2.2.2.2.1 ⟨l, l1, l2, l3, fun i hi => ?_⟩, hM⟩), fun h5 => absurd (by omega) h5⟩
    by_cases e : i = z.toNat
    · subst e
      refine ⟨n, w, po, t, (lt : Int), u1, u2, u3, u4, u5, u6, by omega, by omega, u9, u10, u11, u12, u13, ?_, ?_, u16⟩
      · show mm_u _ 104 z.toNat (I 65 89) 104 z.toNat = _; rw [mu_at, lt3]
      · show mm_u I 35 z.toNat (I 2 9) 35 z.toNat = _; rw [mu_at, lt2]
    · obtain ⟨n, w, po, t, u, u1, u2, u3, u4, u5, u6, u7, u8, u9, u10, u11, u12, u13, u14, u15, u16⟩ := l4 i hi
      refine ⟨n, w, po, t, u, u1, u2, u3, u4, u5, u6, u7, u8, u9, u10, u11, u12, u13, ?_, ?_, u16⟩
      · show mm_u I 104 z.toNat (I 65 89) 104 i = _; rw [mu_ne e]; exact u14
      · show mm_u I 35 z.toNat (I 2 9) 35 i = _; rw [mu_ne e]; exact u15
  · rw [l3, z_le (by omega)] at h5; exact absurd h5 h2
  · rw [z_ix (by omega), u14, z_lt (by omega)]
    exact ⟨fun h5 => absurd (by omega) h4, fun _ => k2 _ hiv2⟩
theorem ca_about {SL : Nat} {xs : Nat → Int32} {d : Nat} {h : mm_H} {Q : Option Value → mm_H → Prop} {a0 : Int32} (hd : 150 ≤ d) (hiv : iv h) (k : ∀ (r : Int32) (h1 : mm_H), h1.2.1 65 = .inr 9 → (∀ Q2 : Option Value → mm_H → Prop, (∀ h2, iv h2 → Q2 (some (.int r)) h2) → mm_s SL xs d 273 [.ref 65, .int a0] h1 Q2) → Q (some (.int r)) h1) : mm_s SL xs d 154 [.ref 2, .int a0] h Q := by
  obtain ⟨e, rfl⟩ : ∃ e, d = e + 20 := ⟨d - 20, by omega⟩
  obtain ⟨_, _, p, s, q, I, J, rfl, P, bg, x, hR, hM⟩ := hiv
  obtain ⟨hpp, hip⟩ := RX_p hR
  have hiv2 := iv_mk (p := p) (s := s) (q := q) (I := I) (J := J) ⟨P, bg, x, hR, hM⟩
  obtain ⟨g1, g2, ⟨lt, _, t4, t65, _⟩, g4, g5, ⟨lo, _, o29, o65, _⟩, ⟨lm, _, m2, m65⟩, ⟨ls, _, s33, s65, _⟩, g9, g10, g11, g12, g13, g14⟩ := hR
  obtain ⟨q1, q2, q3, q4, q5, q6, q7, ⟨lp, _, p10, p65, _⟩, ⟨ld, _, d11, d65, _⟩⟩ := g10
  have hg : c_g x.1 ≤ 660 := by have := g11.1.2.2.2.2.2.2.2.2.2; omega
  have fin : ∀ r : Int32, (∀ Q2 : Option Value → mm_H → Prop, (∀ h2, iv h2 → Q2 (some (.int r)) h2) → mm_s SL xs (e + 20) 273 [.ref 65, .int a0] (hp p s q I J) Q2) → Q (some (.int r)) (hp p s q I J) := fun r hr => k r _ rfl hr
  have z0 : (Int32.ofInt 0).toNatClampNeg = 0 := z_ixN (t := 0) (by omega)
  have z1 : (Int32.ofInt 1).toNatClampNeg = 1 := z_ixN (t := 1) (by omega)
  have mod : ∀ (c : Nat) (r : Int32), c < 13 → a0 = Int32.ofInt (c : Nat) → (∀ Q2 : Option Value → mm_H → Prop, Q2 (some (.int r)) (hp p s q I J) → (c = 0 → r = I 65 47) ∧ (c = 1 → r = I 65 59) ∧ (c = 2 → r = I 65 60) ∧ (c = 3 → r = I 65 43) ∧ (c = 4 → r = I 65 44) ∧ (c = 5 → r = I 65 88) ∧ (c = 6 → r = I 65 89) ∧ (c = 7 → r = I 65 1) ∧ (c = 8 → r = I 65 80) ∧ (c = 9 → r = I 65 21) ∧ (c = 10 → r = I 90 0) ∧ (c = 11 → r = I 90 1) ∧ (c = 12 → r = I 65 64)) → Q (some (.int r)) (hp p s q I J) := by
    intro c r hc hac hr
    refine fin r (fun Q2 k2 => ?_)
    have k3 := k2 _ hiv2
    obtain ⟨r0, r1, r2, r3, r4, r5, r6, r7, r8, r9, r10, r11, r12⟩ := hr Q2 k3
    refine sg_X11_about ?_
    rw [hac, z_eq (by omega), z_eq (by omega), z_eq (by omega), z_eq (by omega), z_eq (by omega), z_eq (by omega), z_eq (by omega), z_eq (by omega), z_eq (by omega), z_eq (by omega), z_eq (by omega), z_eq (by omega), z_eq (by omega), z0, z1]
    refine ⟨fun h => ?_, fun h => ?_, fun h => ?_, fun h => ?_, fun h => ?_, fun h => ?_, fun h => ?_, fun h => ?_, fun h => ?_, fun h => ?_, fun h => ⟨z_inN (t := 0) (by omega) (by omega), ?_⟩, fun h => ⟨z_inN (t := 1) (by omega) (by omega), ?_⟩, fun h => ⟨fun h2 => ?_, fun h2 => ?_⟩, fun a0 a1 a2 a3 a4 a5 a6 a7 a8 a9 a10 a11 a12 => by omega⟩
    · rw [← r0 (by omega)]; exact k3
    · rw [← r1 (by omega)]; exact k3
    · rw [← r2 (by omega)]; exact k3
    · rw [← r3 (by omega)]; exact k3
    · rw [← r4 (by omega)]; exact k3
    · rw [← r5 (by omega)]; exact k3
    · rw [← r6 (by omega)]; exact k3
    · rw [← r7 (by omega)]; exact k3
    · rw [← r8 (by omega)]; exact k3
    · rw [← r9 (by omega)]; exact k3
    · rw [← r10 (by omega)]; exact k3
    · rw [← r11 (by omega)]; exact k3
    · rw [← h2, ← r12 (by omega)]; exact k3
    · have h64 := hM.1.1.2.2.2.2.2.2.1
      have hz : I 65 64 = Int32.ofInt 1 := by
        rw [h64] at h2 ⊢
        rw [zB_0] at h2
        have : tur P x.1 = true := by simpa using h2
        rw [this]; rfl
      rw [← hz, ← r12 (by omega)]; exact k3
  refine sg_X10_about hip ⟨fun h => ?_, fun h => ?_, fun h => ?_, fun h => ?_, fun h => ?_, fun h => ?_, fun h => ?_, fun h => ?_, fun h => ?_, fun h => ?_, fun h => ?_, fun h => ?_, fun h => ?_, fun a0 a1 a2 a3 a4 a5 a6 a7 a8 a9 a10 a11 a12 => ?_⟩
  · exact mod 0 _ (by omega) h (fun Q2 k3 => ⟨fun _ => by rw [q2.1.1, q3.1], fun z => by omega, fun z => by omega, fun z => by omega, fun z => by omega, fun z => by omega, fun z => by omega, fun z => by omega, fun z => by omega, fun z => by omega, fun z => by omega, fun z => by omega, fun z => by omega⟩)
  · exact mod 1 _ (by omega) h (fun Q2 k3 => ⟨fun z => by omega, fun _ => by rw [sta_c q1 g11.1 g13.1, hM.1.1.2.2.1], fun z => by omega, fun z => by omega, fun z => by omega, fun z => by omega, fun z => by omega, fun z => by omega, fun z => by omega, fun z => by omega, fun z => by omega, fun z => by omega, fun z => by omega⟩)
  · exact mod 2 _ (by omega) h (fun Q2 k3 => ⟨fun z => by omega, fun z => by omega, fun _ => by rw [g13.1.2.2.1, hM.1.1.2.2.2.1], fun z => by omega, fun z => by omega, fun z => by omega, fun z => by omega, fun z => by omega, fun z => by omega, fun z => by omega, fun z => by omega, fun z => by omega, fun z => by omega⟩)
  · exact mod 3 _ (by omega) h (fun Q2 k3 => ⟨fun z => by omega, fun z => by omega, fun z => by omega, fun _ => by rw [p10, p65], fun z => by omega, fun z => by omega, fun z => by omega, fun z => by omega, fun z => by omega, fun z => by omega, fun z => by omega, fun z => by omega, fun z => by omega⟩)
  · exact mod 4 _ (by omega) h (fun Q2 k3 => ⟨fun z => by omega, fun z => by omega, fun z => by omega, fun z => by omega, fun _ => by rw [d11, d65], fun z => by omega, fun z => by omega, fun z => by omega, fun z => by omega, fun z => by omega, fun z => by omega, fun z => by omega, fun z => by omega⟩)
  · exact mod 5 _ (by omega) h (fun Q2 k3 => ⟨fun z => by omega, fun z => by omega, fun z => by omega, fun z => by omega, fun z => by omega, fun _ => by rw [s33, s65], fun z => by omega, fun z => by omega, fun z => by omega, fun z => by omega, fun z => by omega, fun z => by omega, fun z => by omega⟩)
  · exact mod 6 _ (by omega) h (fun Q2 k3 => ⟨fun z => by omega, fun z => by omega, fun z => by omega, fun z => by omega, fun z => by omega, fun z => by omega, fun _ => by rw [m2, m65], fun z => by omega, fun z => by omega, fun z => by omega, fun z => by omega, fun z => by omega, fun z => by omega⟩)
  · exact mod 7 _ (by omega) h (fun Q2 k3 => ⟨fun z => by omega, fun z => by omega, fun z => by omega, fun z => by omega, fun z => by omega, fun z => by omega, fun z => by omega, fun _ => by rw [t4, t65], fun z => by omega, fun z => by omega, fun z => by omega, fun z => by omega, fun z => by omega⟩)
  · exact mod 8 _ (by omega) h (fun Q2 k3 => ⟨fun z => by omega, fun z => by omega, fun z => by omega, fun z => by omega, fun z => by omega, fun z => by omega, fun z => by omega, fun z => by omega, fun _ => by rw [o29, o65], fun z => by omega, fun z => by omega, fun z => by omega, fun z => by omega⟩)
  · exact mod 9 _ (by omega) h (fun Q2 k3 => ⟨fun z => by omega, fun z => by omega, fun z => by omega, fun z => by omega, fun z => by omega, fun z => by omega, fun z => by omega, fun z => by omega, fun z => by omega, fun _ => q7, fun z => by omega, fun z => by omega, fun z => by omega⟩)
  · exact mod 10 _ (by omega) h (fun Q2 k3 => ⟨fun z => by omega, fun z => by omega, fun z => by omega, fun z => by omega, fun z => by omega, fun z => by omega, fun z => by omega, fun z => by omega, fun z => by omega, fun z => by omega, fun _ => by rw [g13.1.2.2.2.1, hM.1.1.2.2.2.2.2.2.2.1], fun z => by omega, fun z => by omega⟩)
  · exact mod 11 _ (by omega) h (fun Q2 k3 => ⟨fun z => by omega, fun z => by omega, fun z => by omega, fun z => by omega, fun z => by omega, fun z => by omega, fun z => by omega, fun z => by omega, fun z => by omega, fun z => by omega, fun z => by omega, fun _ => by rw [g13.1.2.2.2.2.1, hM.1.1.2.2.2.2.2.2.2.2], fun z => by omega⟩)
  · have h64 := hM.1.1.2.2.2.2.2.2.1
    refine c_isTurned (g := c_g x.1) isC_15 hip q1 (by omega) q2.1.2.2.1 g13.1.2.2.1 ⟨_, _, _, rfl, rfl, fun h2 => ?_, fun h2 => ?_⟩
    · change zB (tur P x.1) = Int32.ofInt 0 at h2
      exact mod 12 _ (by omega) h (fun Q2 k3 => ⟨fun z => by omega, fun z => by omega, fun z => by omega, fun z => by omega, fun z => by omega, fun z => by omega, fun z => by omega, fun z => by omega, fun z => by omega, fun z => by omega, fun z => by omega, fun z => by omega, fun _ => by rw [h64, h2]⟩)
    · change ¬ zB (tur P x.1) = Int32.ofInt 0 at h2
      rw [zB_0] at h2
      have h3 : tur P x.1 = true := by simpa using h2
      exact mod 12 _ (by omega) h (fun Q2 k3 => ⟨fun z => by omega, fun z => by omega, fun z => by omega, fun z => by omega, fun z => by omega, fun z => by omega, fun z => by omega, fun z => by omega, fun z => by omega, fun z => by omega, fun z => by omega, fun z => by omega, fun _ => by rw [h64, h3]; rfl⟩)
  · exact fin _ (fun Q2 k2 => sg_X11_about ⟨fun h => absurd h a0, fun h => absurd h a1, fun h => absurd h a2, fun h => absurd h a3, fun h => absurd h a4, fun h => absurd h a5, fun h => absurd h a6, fun h => absurd h a7, fun h => absurd h a8, fun h => absurd h a9, fun h => absurd h a10, fun h => absurd h a11, fun h => absurd h a12, fun _ _ _ _ _ _ _ _ _ _ _ _ _ => k2 _ hiv2⟩)
