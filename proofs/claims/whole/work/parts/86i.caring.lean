/-! ring -/
def kpr (s r : Nat) : Prop := r ≠ 3 ∧ r ≠ 4 ∧ r ≠ 14 ∧ (r < s ∨ s + 5 < r) ∧ ¬ rrow r
theorem RX_kp {p s q q2 : Nat} {P : plT} {bg : Nat} {x : trT} {I I2 : Nat → Nat → Int32} {J J2 : Nat → Nat → Int64} (hq2 : isP q2) (fr : ∀ r, kpr s r → I2 r = I r) (fk : ∀ k, ¬ rfldw k → k ≠ 1 → k ≠ 5 → I2 65 k = I 65 k) (fj : ∀ r, r ≠ 4 → r ≠ s → r ≠ s + 1 → r ≠ 65 → r ≠ 86 → J2 r = J r) (t4 : I2 4 1 = Int32.ofInt 0) (t65 : I2 65 1 = Int32.ofInt 0) (e1 : I2 3 1 = I2 65 2) (e2 : I2 3 2 = I2 65 3) (h : RX p s q P bg x I J) : RX p s q2 P bg x I2 J2 := by
  obtain ⟨h1, h2, h3, h4, h5, h6, h7, h8, h9, h10, h11, h12, h13, h14⟩ := h
  have hr : ∀ r, r ≠ 3 → r ≠ 4 → r ≠ 14 → (r < s ∨ s + 5 < r) → r < 65 ∨ 86 ≤ r ∨ r = 66 ∨ r = 69 ∨ r = 70 ∨ (72 ≤ r ∧ r ≤ 73) ∨ (80 ≤ r ∧ r ≤ 84) → I2 r = I r := fun r a b c d e => fr r ⟨a, b, c, d, by unfold rrow; omega⟩
  have hk : ∀ k, 20 ≤ k → (k < 22 ∨ 41 < k) → I2 65 k = I 65 k := fun k a b => fk k (by unfold rfldw; omega) (by omega) (by omega)
  refine ⟨h1, hq2, ⟨0, by omega, t4, t65, fun i hi => absurd hi (Nat.not_lt_zero i)⟩, e1, e2, ?_, ?_, ?_, ?_, ?_, h11, h12, TR_c (fun r a b => hr r (by omega) (by omega) (by omega) (by omega) (by omega)) (fj 15 (by omega) (by omega) (by omega) (by omega) (by omega)) h13, fun b hb => v_box_c hb (fun r hx => hr r (by omega) (by omega) (by omega) (by omega) (by omega)) (fun r a b => fj r (by omega) (by omega) (by omega) (by omega) (by omega)) (h14 b hb)⟩
  · rw [hr 29 (by omega) (by omega) (by omega) (by omega) (by omega), hk 80 (by omega) (by omega), hr 30 (by omega) (by omega) (by omega) (by omega) (by omega), hr 97 (by omega) (by omega) (by omega) (by omega) (by omega)]; exact h6
  · rw [hr 2 (by omega) (by omega) (by omega) (by omega) (by omega), hk 89 (by omega) (by omega)]; exact h7
  · rw [hr 33 (by omega) (by omega) (by omega) (by omega) (by omega), hk 88 (by omega) (by omega), hr 34 (by omega) (by omega) (by omega) (by omega) (by omega), hr 35 (by omega) (by omega) (by omega) (by omega) (by omega), fj 36 (by omega) (by omega) (by omega) (by omega) (by omega), hr 100 (by omega) (by omega) (by omega) (by omega) (by omega), hr 101 (by omega) (by omega) (by omega) (by omega) (by omega), hr 102 (by omega) (by omega) (by omega) (by omega) (by omega), hr 103 (by omega) (by omega) (by omega) (by omega) (by omega), hr 104 (by omega) (by omega) (by omega) (by omega) (by omega)]; exact h8
  · rw [fj 6 (by omega) (by omega) (by omega) (by omega) (by omega)]; exact h9
  · obtain ⟨g1, g2, ⟨m1, m2, m3, m4, m5, m6, m7⟩, g4, g5, g6, g7, g8, g9⟩ := h10
    have hp_ : ∀ r, p ≤ r → r ≤ p + 5 → I2 r = I r := fun r a b => hr r (by omega) (by omega) (by omega) (by omega) (by omega)
    have p0 := hp_ p (by omega) (by omega)
    refine ⟨g1, PA_c p0 (hp_ (p + 5) (by omega) (by omega)) (fj p (by omega) (by omega) (by omega) (by omega) (by omega)) g2, ⟨?_, ?_, ?_, ?_, ?_, MG_c (hk 42 (by omega) (by omega)) (hr 80 (by omega) (by omega) (by omega) (by omega) (by omega)) (hr 81 (by omega) (by omega) (by omega) (by omega) (by omega)) m6, MC_c (hk 53 (by omega) (by omega)) (hk 20 (by omega) (by omega)) (hk 45 (by omega) (by omega)) (hk 46 (by omega) (by omega)) (hr 69 (by omega) (by omega) (by omega) (by omega) (by omega)) (hr 70 (by omega) (by omega) (by omega) (by omega) (by omega)) m7⟩, g4, ?_, ?_, ?_, ?_, ?_⟩
    · rw [hk 47 (by omega) (by omega)]; exact m1
    · rw [hk 49 (by omega) (by omega)]; exact m2
    · rw [hk 50 (by omega) (by omega)]; exact m3
    · rw [hk 51 (by omega) (by omega)]; exact m4
    · rw [hk 52 (by omega) (by omega)]; exact m5
    · rw [p0]; exact g5
    · rw [hk 48 (by omega) (by omega)]; exact g6
    · rw [p0, hk 21 (by omega) (by omega)]; exact g7
    · rw [p0, hk 43 (by omega) (by omega), hp_ (p + 2) (by omega) (by omega), hr 82 (by omega) (by omega) (by omega) (by omega) (by omega)]; exact g8
    · rw [p0, hk 44 (by omega) (by omega), hp_ (p + 3) (by omega) (by omega), hp_ (p + 4) (by omega) (by omega), hr 83 (by omega) (by omega) (by omega) (by omega) (by omega), hr 84 (by omega) (by omega) (by omega) (by omega) (by omega)]; exact g9
/-- the plan that is read, in both -/
theorem v_new {s j : Nat} {l : Nat} {T : Nat → Nat} {A : Nat → Option Nat} {G : List (Nat × Nat)} {w e : Nat} {P D : List (Nat × Nat)} {u : Nat} {C : List Int} {I1 I5 I9 : Nat → Nat → Int32} {J1 J5 J9 : Nat → Nat → Int64} (hw : LW A G w e P D u C) (kb : KB s A G w e P D u C I1 J1) (mb : MB A G w e P D u C I5 J5) (rg : RG A G w e P D u C (npl A G w e C) I5 I9) (r0 : ∀ k, k ≠ 1 → k ≠ 5 → I9 s k = I1 s k) (r1 : I9 s 1 = Int32.ofInt ((pb A % pn A : Nat) : Int)) (r5 : I9 s 5 = Int32.ofInt (oi (by_ A) (-1))) (rr : ∀ r, s + 1 ≤ r → r ≤ s + 5 → I9 r = I1 r) (rj : J9 s = J1 s) : v_plan s (npl A G w e C) (pb A % pn A) I9 J9 := by
  obtain ⟨n1, n2, n3⟩ := pn_b hw.1
  obtain ⟨⟨k1, k2, k3⟩, ⟨t1, t3⟩, ⟨a1, a3⟩⟩ := pk_b hw.1
  obtain ⟨⟨s0, s1, s2, s3, s4, s5⟩, ⟨c2, c2'⟩, ⟨c7, c8⟩, ⟨c4, c4'⟩, ⟨c5, c5'⟩, c6, c6', c6''⟩ := kb
  obtain ⟨mA, ⟨h37, hG⟩, ⟨h40, h41⟩, ⟨h38, hPm⟩, ⟨h39, hDm⟩, h18, hN, h19⟩ := mb
  obtain ⟨q1, q2, q3, q4, q5, q6, ⟨v20, v21, v42, v43, v44, v45, v46, v47, v48, v49, v50, v51, v52, v53⟩, _, _, _⟩ := rg
  obtain ⟨cw1, cw2⟩ := ccd_w hw
  refine ⟨npl_w hw.1, ⟨⟨?_, ?_, ?_, ?_, ?_, ?_⟩, uL (ccd A C), (ccd A C).length, Int32.ofInt (w : Nat), Int32.ofInt (e : Nat), cw2, ?_, fun i hi => ?_, ?_, ?_, cw1, fun x y z => rfl⟩, ⟨v47, v49, v50, v51, v52, ⟨G.length, fun i => (pL G i).1, fun i => (pL G i).2, hw.2.1.1, v42, fun i hi => ?_, fun i _ => gst_u G⟩, ?_⟩, Nat.mod_lt _ (show 0 < pn A by omega), r1, v48, ?_, ⟨P.length, hw.2.2.2.1.1, ?_, v43, fun i hi => ?_⟩, ⟨D.length, hw.2.2.2.2.1.1, ?_, v44, fun i hi => ?_⟩⟩
  · rw [r0 0 (by omega) (by omega), s0, n3]; rfl
  · rw [r0 2 (by omega) (by omega), s2, k3]; rfl
  · rw [r0 3 (by omega) (by omega), s3, t3]; rfl
  · rw [r0 4 (by omega) (by omega), s4, a3]; rfl
  · exact r5
  · rw [rj]; exact c2'
  · rw [r0 17 (by omega) (by omega)]; exact c6'
  · rw [rr (s + 5) (by omega) (by omega)]; exact CS_u _ c6'' i hi
  · rw [r0 7 (by omega) (by omega)]; exact c7
  · rw [r0 8 (by omega) (by omega)]; exact c8
  · have g1 := XS_u G hG i hi
    have g2 := q4 i hi
    have g3 := XW_u G hw.2.1.2 i hi
    unfold gok at g3
    exact ⟨show (pL G i).1 < 60 by omega, show (pL G i).2 < 60 by omega, by rw [g2.1]; exact g1.1, by rw [g2.2]; exact g1.2⟩
  · by_cases z : (A 6).isSome = true
    · right
      have ec : ccd A C = C := by unfold ccd; rw [if_pos z]
      rw [ec] at cw1 cw2
      refine ⟨by rw [v53, z]; decide, uL C, C.length, Int32.ofInt (w : Nat), Int32.ofInt (e : Nat), cw2, v20, fun i hi => ?_, v45, v46, cw1, fun x y z => ?_⟩
      · have g1 := NS_u C hN i hi
        have g2 := q3 i hi
        rw [g2.1, g2.2]; exact g1
      · show clp (est _ _ _ _ _ (uL (ccd A C)) (ccd A C).length 0) = _
        rw [ec]
    · left
      refine ⟨?_, fun x y z2 => ccd_3 z⟩
      rw [v53, eq_false_of_ne_true z]; rfl
  · rw [r0 9 (by omega) (by omega), c6, v21]
  · rw [r0 10 (by omega) (by omega)]; exact c4
  · have g1 := PS_u P c4' i hi
    have g2 := PM_u P hPm i hi
    have g3 := XW_u P hw.2.2.2.1.2 i hi
    exact ⟨(pL P i).2, g3.2.2.2, by rw [rr (s + 2) (by omega) (by omega)]; exact g1, by rw [q5 i hi]; exact g2⟩
  · rw [r0 11 (by omega) (by omega)]; exact c5
  · have g1 := XS_u D c5' i hi
    have g2 := XS_u D hDm i hi
    have g3 := XW_u D hw.2.2.2.2.1.2 i hi
    have g4 := q6 i hi
    exact ⟨(pL D i).1, (pL D i).2, g3.1, g3.2.1, g3.2.2.1, g3.2.2.2, by rw [rr (s + 3) (by omega) (by omega)]; exact g1.1, by rw [g4.1]; exact g2.1, by rw [rr (s + 4) (by omega) (by omega)]; exact g1.2, by rw [g4.2]; exact g2.2⟩
theorem ca_ring {SL : Nat} {xs : Nat → Int32} {d : Nat} {h : mm_H} {Q : Option Value → mm_H → Prop}  (hd : 150 ≤ d) (hiv : iv h) (k : ∀ (r : Int32) (h1 : mm_H), h1.2.1 65 = .inr 9 → (∀ Q2 : Option Value → mm_H → Prop, (∀ h2, iv h2 → Q2 (some (.int r)) h2) → mm_s SL xs d 199 [.ref 65] h1 Q2) → Q (some (.int r)) h1) : mm_s SL xs d 118 [.ref 2] h Q := by
  obtain ⟨d0, rfl⟩ : ∃ e, d = e + 93 := ⟨d - 93, by omega⟩
  obtain ⟨_, _, p, s, q, I, J, rfl, P, bg, x, hR, hM⟩ := hiv
  have hps := hR.1
  have hs : isP s := by unfold isP; omega
  have hs' : s = 39 ∨ s = 46 := by omega
  obtain ⟨l, l1, l2, l3, l4⟩ := hR.2.2.1
  have hT : TP l (tpe I) I := ⟨l1, l2, fun i _ => tpe_ok⟩
  have ho : v_own (J 6) := hR.2.2.2.2.2.2.2.2.1
  have h66 : ∀ i, i < l → tpe I i ≤ 255 ∧ I 66 i = Int32.ofInt (tpe I i : Nat) := fun i hi => ⟨tpe_ok.1, by rw [l4 i hi]; exact tpe_ok.2⟩
  refine s_ring hs (c_read (l := l) (T := tpe I) (d := d0) (by omega) hs hT ho rfl (fun I1 J1 j A G w e P' D u C n1 n2 n3 kb lw n6 ga => ?_) (fun I1 J1 n1 n2 => ?_))
  · have hP := npl_w (G := G) (w := w) (e := e) (C := C) lw.1
    obtain ⟨m1, m2, m3⟩ := pn_b lw.1
    have hx : ∀ r, r ≠ 4 → mm_u (stl s A I1) 4 1 (Int32.ofInt 0) r = stl s A I1 r := fun r h => mu_row h
    have hst : ∀ r, r ≠ s → stl s A I1 r = I1 r := fun r h => by unfold stl; rw [mu_row h, mu_row h]
    have hs0 : ∀ k, k ≠ 1 → k ≠ 5 → stl s A I1 s k = I1 s k := fun k h1 h5 => by unfold stl; rw [mu_ne h5, mu_ne h1]
    have e1 : mm_u (stl s A I1) 4 1 (Int32.ofInt 0) s 1 = Int32.ofInt ((pb A % pn A : Nat) : Int) := by rw [hx s (by omega)]; unfold stl; rw [mu_ne (by omega), mu_at]
    have e0 : mm_u (stl s A I1) 4 1 (Int32.ofInt 0) s 0 = Int32.ofInt (pn A : Nat) := by rw [hx s (by omega), hs0 0 (by omega) (by omega), kb.1.1, m3]
    refine ⟨_, _, _, rfl, rfl, fun z => absurd z (by decide), fun _ => ?_⟩
    rw [e1]
    refine c_startFrom isC_15 hs hP e0 (fun I2 J2 f2 t2 => ⟨_, _, rfl, rfl, c_emptyBoxes (fun I3 a3 b3 => ⟨_, _, rfl, rfl, ?_⟩)⟩)
    have z3 : ∀ r, r ≠ 29 → r ≠ 33 → ¬ (53 ≤ r ∧ r ≤ 61) → I3 r = I2 r := fun r h1 h2 h3 => by
      funext k
      rw [a3 r k (by omega), mu_row h2, mu_row h1]
    have z1 : ∀ r, r ≠ 29 → r ≠ 33 → ¬ (53 ≤ r ∧ r ≤ 61) → ¬ (15 ≤ r ∧ r ≤ 18) → r ≠ 4 → I3 r = stl s A I1 r := fun r h1 h2 h3 h4 h5 => by rw [z3 r h1 h2 h3, f2.1 r (by omega), hx r h5]
    have z0 : ∀ r, r ≠ 29 → r ≠ 33 → ¬ (53 ≤ r ∧ r ≤ 61) → ¬ (15 ≤ r ∧ r ≤ 18) → r ≠ 4 → r ≠ 3 → r ≠ 14 → (r < s ∨ s + 5 < r) → I3 r = I r := fun r h1 h2 h3 h4 h5 h6 h7 h8 => by rw [z1 r h1 h2 h3 h4 h5, hst r (by omega), n1.1 r h6 h5 h7 h8]
    have r65 : I3 65 = I 65 := z0 65 (by omega) (by omega) (by omega) (by omega) (by omega) (by omega) (by omega) (by omega)
    have r66 : I3 66 = I 66 := z0 66 (by omega) (by omega) (by omega) (by omega) (by omega) (by omega) (by omega) (by omega)
    have es0 : I3 s 0 = Int32.ofInt (pn A : Nat) := by rw [z1 s (by omega) (by omega) (by omega) (by omega) (by omega), hs0 0 (by omega) (by omega), kb.1.1, m3]
    rw [es0]
    refine k _ _ rfl (fun Q2 k2 => sg_X11_ring (m_readAll (I := I3) l1 (by rw [r65]; exact l3) (fun i hi => by rw [r66]; exact h66 i hi) rfl (fun v1 I4 J4 fa ml e3 => ga SL xs _ _ _ _ _ v1 I4 J4 ml (fun I5 J5 f5 m5 => m_88e m5 n6 ⟨_, _, rfl, rfl, m_ring1 m5.2.2 lw.1 m5.2.1 (fun I6 g6 => m_ring2 (Pp := npl A G w e C) hP rfl m5.2.2 lw g6 (fun I9 rg => ?_)), fun z => absurd (by rw [m5.2.1]; decide) z⟩))))
    have fl := FA_l fa (FLw_s f5)
    have y9 : ∀ r, r < 65 → I9 r = I3 r := fun r hr => by rw [rg.1 r (by omega) (by omega) (by omega) (by omega) (by omega) (by omega), fl.1 r (by unfold rrow; omega)]
    have yk : ∀ k, 88 < k → I9 65 k = I 65 k := fun k hk => by rw [rg.2.1 k (by omega), fl.2.1 k (by unfold rfldw; omega) (by omega) (by omega), r65]
    have yj : ∀ r, r ≠ 65 → r ≠ 86 → J5 r = J2 r := fun r h1 h2 => fl.2.2.2 r h1 h2
    refine k2 _ (iv_mk ⟨npl A G w e C, pb A % pn A, fr3 (npl A G w e C) (pb A % pn A), ⟨by omega, hs, ⟨0, by omega, ?_, ?_, fun i hi => absurd hi (Nat.not_lt_zero i)⟩, ?_, ?_, ⟨0, by omega, ?_, rg.2.2.2.2.2.2.2.1.1, fun i hi => absurd hi (Nat.not_lt_zero i)⟩, ?_, ⟨0, by omega, ?_, rg.2.2.2.2.2.2.2.1.2, fun i hi => absurd hi (Nat.not_lt_zero i)⟩, ?_, ?_, fre_tw hP (Nat.mod_lt _ (show 0 < pn A by omega)), rfl, ?_, fun b hb => ⟨false, ?_, ?_, fun z => absurd z (by decide)⟩⟩, rg.2.2.2.2.2.2.2.2.2⟩)
    · rw [y9 4 (by omega), z3 4 (by omega) (by omega) (by omega), f2.1 4 (by omega), mu_at]; rfl
    · rw [rg.2.1 1 (by omega)]; exact fl.2.2.1
    · rw [y9 3 (by omega), z1 3 (by omega) (by omega) (by omega) (by omega) (by omega), hst 3 (by omega), n2, rg.2.1 2 (by omega), m5.2.1]
    · rw [y9 3 (by omega), z1 3 (by omega) (by omega) (by omega) (by omega) (by omega), hst 3 (by omega), n3, rg.2.1 3 (by omega), f5.2.1 3 (by unfold rfld; omega), e3]
    · rw [y9 29 (by omega), a3 29 1 (by omega), mu_row (by omega), mu_at]; rfl
    · rw [y9 2 (by omega), z0 2 (by omega) (by omega) (by omega) (by omega) (by omega) (by omega) (by omega) (by omega), yk 89 (by omega)]
      exact hR.2.2.2.2.2.2.1
    · rw [y9 33 (by omega), a3 33 0 (by omega), mu_at]; rfl
    · rw [yj 6 (by omega) (by omega), f2.2 6 (by omega), n1.2.2.2 6 (by omega) (by omega) (by omega)]; exact ho
    · refine v_new (j := j) (l := l) (T := tpe I) lw kb m5.2.2 rg (fun k h1 h5 => ?_) ?_ ?_ (fun r h1 h2 => ?_) ?_
      · rw [y9 s (by omega), z1 s (by omega) (by omega) (by omega) (by omega) (by omega), hs0 k h1 h5]
      · rw [y9 s (by omega), z1 s (by omega) (by omega) (by omega) (by omega) (by omega)]; unfold stl; rw [mu_ne (by omega), mu_at]
      · rw [y9 s (by omega), z1 s (by omega) (by omega) (by omega) (by omega) (by omega)]; unfold stl; rw [mu_at]
      · rw [y9 r (by omega), z1 r (by omega) (by omega) (by omega) (by omega) (by omega), hst r (by omega)]
      · rw [yj s (by omega) (by omega), f2.2 s (by omega)]
    · exact TR_c (fun r a b => by rw [y9 r (by omega), z3 r (by omega) (by omega) (by omega)]) (by rw [yj 15 (by omega) (by omega)]) t2
    · rw [y9 _ (by omega), b3 b hb]; rfl
    · rw [rg.2.2.2.2.2.2.2.2.1 b hb]; rfl
  · obtain ⟨fx, px, x1, x2, x3, x4, gf⟩ := n2
    have hx : ∀ r, r ≠ 4 → mm_u I1 4 1 (Int32.ofInt 0) r = I1 r := fun r h => mu_row h
    have r65 : mm_u I1 4 1 (Int32.ofInt 0) 65 = I 65 := by rw [hx 65 (by omega), n1.1 65 (by omega) (by omega) (by omega) (by omega)]
    have r66 : mm_u I1 4 1 (Int32.ofInt 0) 66 = I 66 := by rw [hx 66 (by omega), n1.1 66 (by omega) (by omega) (by omega) (by omega)]
    refine ⟨_, _, _, rfl, rfl, fun _ => ?_, fun z => absurd rfl z⟩
    refine k _ _ rfl (fun Q2 k2 => sg_X11_ring (m_readAll (I := mm_u I1 4 1 (Int32.ofInt 0)) l1 (by rw [r65]; exact l3) (fun i hi => by rw [r66]; exact h66 i hi) rfl (fun v1 I4 J4 fa ml e3 => gf SL xs _ _ _ _ _ v1 I4 J4 ml (fun I5 J5 f5 a b => ⟨_, _, rfl, rfl, fun z => ?_, fun _ => ?_⟩))))
    · rw [a, z_le (by omega)] at z; omega
    · have fl := FA_l fa f5
      refine k2 _ (iv_mk ⟨P, bg, x, RX_kp hs (fun r hr => ?_) (fun k h1 h2 h3 => ?_) (fun r h1 h2 h3 h4 h5 => ?_) ?_ fl.2.2.1 ?_ ?_ hR, ?_⟩)
      · rw [fl.1 r hr.2.2.2.2, hx r hr.2.1, n1.1 r hr.1 hr.2.1 hr.2.2.1 hr.2.2.2.1]
      · rw [fl.2.1 k h1 h2 h3, r65]
      · rw [fl.2.2.2 r h4 h5, n1.2.2.2 r h1 h2 h3]
      · rw [fl.1 4 (by unfold rrow; omega), mu_at]
      · rw [fl.1 3 (by unfold rrow; omega), hx 3 (by omega), x1, a]
      · rw [fl.1 3 (by unfold rrow; omega), hx 3 (by omega), x2, b]
      · obtain ⟨t1, t2, t3, t4⟩ := hM
        have hk : ∀ k, 41 < k → I5 65 k = I 65 k := fun k hk => by rw [fl.2.1 k (by unfold rfldw; omega) (by omega) (by omega), r65]
        refine ⟨MT_c (fun r a b => ?_) (fun k a b => hk k (by omega)) t1, ?_, ?_, ?_⟩
        · rw [fl.1 r (by unfold rrow; omega), hx r (by omega), n1.1 r (by omega) (by omega) (by omega) (by omega)]
        · rw [hk 76 (by omega)]; exact t2
        · rw [hk 77 (by omega)]; exact t3
        · rw [hk 78 (by omega), hk 49 (by omega)]; exact t4
