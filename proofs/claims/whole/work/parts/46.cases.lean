/-! BRIBE -/
def brT (P : plT) (t : Nat) (y : trT) : Bool := c_S (run P (nK P) (p_k P) 1000 (gt_ P y (ncn P y.1 + 1))).1 t
def brc (P : plT) (t : Nat) : Nat → trT → Int
  | 0, _ => -1
  | f + 1, y => if c_S y.1 t then (if brT P t y then (c_g y.1 + 1 : Int) else brc P t f (gt_ P y (ncn P y.1))) else -1
def bri (P : plT) (t : Nat) : Nat → trT → Int
  | 0, _ => -1
  | f + 1, y => if sta P y.1 ≤ p_k P then -1 else if brT P t y then (c_g y.1 + 1 : Int) else bri P t f (gt_ P y (ncn P y.1))
theorem gt_gone {P : plT} {t k : Nat} {y : trT} (h : c_S y.1 t = false) : c_S (gt_ P y k).1 t = false := by
  show c_S (gs P y.1 k) t = false
  rw [gs_S, h]; split <;> rfl
theorem bri_gone {P : plT} {t : Nat} : ∀ (f : Nat) (y : trT), c_S y.1 t = false → bri P t f y = -1
  | 0, y, h => rfl
  | f + 1, y, h => by
    rw [bri]
    by_cases q : sta P y.1 ≤ p_k P
    · rw [if_pos q]
    · have e : brT P t y = false := run_S 1000 _ (gt_gone h)
      rw [if_neg q, e, if_neg (by decide)]
      exact bri_gone f _ (gt_gone h)
theorem brc_bri {P : plT} {t M : Nat} (hP : pw P) : ∀ (f g : Nat) (y : trT), tw P y M → rem_ P y.1 ≤ f → rem_ P y.1 ≤ g → c_S (run P (nK P) (p_k P) f y).1 t = false → brc P t f y = bri P t g y
  | 0, 0, y, hy, h1, h2, h3 => rfl
  | 0, g + 1, y, hy, h1, h2, h3 => by have := sta_rem hy.1; rw [brc, bri, if_pos (by omega)]
  | f + 1, 0, y, hy, h1, h2, h3 => by
    have := sta_rem hy.1
    rw [run_end (by omega)] at h3
    rw [brc, bri, h3, if_neg (by decide)]
  | f + 1, g + 1, y, hy, h1, h2, h3 => by
    by_cases q : sta P y.1 ≤ p_k P
    · rw [run_end q] at h3
      rw [brc, bri, h3, if_neg (by decide), if_pos q]
    · by_cases hs : c_S y.1 t = true
      · rw [run_go q] at h3
        have hk := ncn_ok (c := y.1) hP
        have hr : rem_ P (gt_ P y (ncn P y.1)).1 + 1 = rem_ P y.1 := gs_rem (k := ncn P y.1) hP hy.1 (by omega)
        have h3' : c_S (run P (nK P) (p_k P) f (gt_ P y (ncn P y.1))).1 t = false := h3
        rw [brc, bri, if_pos hs, if_neg q, brc_bri hP f g (gt_ P y (ncn P y.1)) (gt_tw hP hy (by omega) (by omega)) (by omega) (by omega) h3']
      · have hs : c_S y.1 t = false := by simpa using hs
        rw [brc, hs, if_neg (by decide), bri_gone _ _ hs]
theorem run_late {P : plT} {e br : Nat} : ∀ (f : Nat) (y : trT), br ≤ c_g y.1 → run P (mK P 0 br) e f y = run P (nK P) e f y
  | 0, y, h => rfl
  | f + 1, y, h => by
    by_cases q : sta P y.1 ≤ e
    · rw [run_end q, run_end q]
    · have ek : mK P 0 br y.1 = nK P y.1 := by unfold mK nK; rw [if_neg (by omega), if_neg (by omega)]; rfl
      rw [run_go q, run_go q, ek]
      exact run_late f _ (by show br ≤ c_g y.1 + 1; omega)
section
variable {SL : Nat} {xs : Nat → Int32} {d : Nat} {p s q : Nat} {Q : Option Value → mm_H → Prop} {P : plT} {bg : Nat} {x : trT}
theorem bribe_c {t : Nat} (hP : pw P) (ht : t < p_n P) : ∀ (f i : Nat) (y : trT) (I : Nat → Nat → Int32) (J : Nat → Nat → Int64), i + f = 1000 → cw P y.1 660 → QS p s q P bg x I J → TR 21 y I J → (∀ I2 J2, QS p s q P bg x I2 J2 → Q (some (.int (Int32.ofInt (brc P t f y)))) (hp p s q I2 J2)) → w_X0_bribeFor_38 SL xs d p s q Q p 15 (Int32.ofInt (t : Nat)) (Int32.ofInt (i : Nat)) I J
  | 0, i, y, I, J, hf, hy, h, tr, kq => by
    refine sg_X0_bribeFor_38 ⟨fun _ => kq I J h, fun h2 => ?_⟩
    rw [z_le (by omega)] at h2; omega
  | f + 1, i, y, I, J, hf, hy, h, tr, kq => by
    have hn := hP.2.1
    have hg := hy.2.2.2.2.2.2.2.2.2
    have hpp := (RX_p h.1).1
    rw [brc] at kq
    refine sg_X0_bribeFor_38 ?_
    rw [stands_z tr.1 (by omega), zB_0, z_le (by omega)]
    refine ⟨fun h2 => absurd h2 (by omega), fun _ => ⟨fun h2 => ?_, fun h2 => ?_⟩⟩
    · rw [h2, if_neg (by decide)] at kq; exact kq I J h
    · have h2 : c_S y.1 t = true := by simpa using h2
      rw [h2, if_pos rfl] at kq
      have hs : 0 < sta P y.1 := fb_ct_pos.mpr ⟨t, ht, h2⟩
      have hk := ncn_ok (c := y.1) hP
      refine c_nextCount isC_21 (RX_p h.1).2 hP hy (RX_pl h.1).2.1.2 tr.1 (fun I1 g1 => ⟨_, _, _, rfl, rfl, ?_⟩)
      have f1 : FrG 21 p I I1 J J := FrG_n g1
      have h1 := QS_g (Or.inl rfl) f1 h
      have tr1 : TR 21 y I1 J := TR_c (fun r a b => g1 r (by omega)) rfl tr
      refine c_copyFrom isC_25 isC_21 (by omega) (fun I2 J2 f2 _ t2 => ⟨_, _, rfl, rfl, ?_⟩)
      have h3 := QS_c (Or.inr rfl) f2 h1
      have tr2 : TR 21 y I2 J2 := TR_c (fun r a b => f2.1 r (by omega)) (f2.2 21 (by omega)) tr1
      obtain ⟨a1, a2, a3⟩ := t2 y tr1
      rw [z_p1]
      refine c_goOnce (k := ncn P y.1 + 1) isC_25 (RX_p h.1).2 hP hy hs (by omega) (by omega) (by omega) (RX_pl h3.1).2.1.1 a1 a2 a3 (fun I3 J3 f3 b1 b2 b3 => ⟨_, _, rfl, rfl, ?_⟩)
      have h4 := QS_c (Or.inr rfl) f3 h3
      have tr3 : TR 21 y I3 J3 := TR_c (fun r a b => f3.1 r (by omega)) (f3.2 21 (by omega)) tr2
      refine c_trial (M := 660) (t := t) (y := gt_ P y (ncn P y.1 + 1)) (by omega) (by omega) (gs_cw hP hy hs (by omega)) h4 ⟨b1, b2, b3⟩ (fun I4 J4 h5 f4 => ⟨_, _, _, rfl, rfl, ?_⟩)
      have tr4 : TR 21 y I4 J4 := TR_c (fun r a b => f4.1 r (by omega) (by omega)) (f4.2 21 (by omega)) tr3
      rw [zB_0]
      refine ⟨fun h6 => ?_, fun h6 => ?_⟩
      · have h6 : brT P t y = false := h6
        rw [h6, if_neg (by decide)] at kq
        refine c_goOnce (k := ncn P y.1) isC_21 (RX_p h.1).2 hP hy hs (by omega) (by omega) (by omega) (RX_pl h5.1).2.1.1 tr4.1 tr4.2.1 tr4.2.2 (fun I5 J5 f5 b1 b2 b3 => ⟨_, _, rfl, rfl, ?_⟩)
        rw [z_p1]
        exact bribe_c hP ht f (i + 1) (gt_ P y (ncn P y.1)) I5 J5 (by omega) (gs_cw hP hy hs (by omega)) (QS_c (Or.inl rfl) f5 h5) ⟨b1, b2, b3⟩ kq
      · have h6 : brT P t y = true := (Bool.not_eq_false _).mp h6
        rw [h6, if_pos rfl] at kq
        rw [tr4.1.2.2.1, z_p1]
        exact kq I4 J4 h5
theorem bribe_m {t gend : Nat} {v3 : Int32} (hP : pw P) (ht : t < p_n P) (hv3 : v3 = Int32.ofInt 0) (hge : gend ≤ 660) : ∀ (f : Nat) (y : trT) (I : Nat → Nat → Int32) (J : Nat → Nat → Int64), tw P y 660 → rem_ P y.1 ≤ f → gend = c_g (run P (nK P) (p_k P) 1000 y).1 → (∀ br, c_g y.1 + 1 ≤ br → run P (mK P 0 br) (p_k P) 1000 x = run P (mK P 0 br) (p_k P) 1000 y) → QK p s q P bg x I J → MX P x I → (∀ I2 : Nat → Nat → Int32, QS p s q P bg x I2 J → Q (some (.int (Int32.ofInt (bri P t f y)))) (hp p s q I2 J)) → w_X11_bribe_57 SL xs d p s q Q (Int32.ofInt (t : Nat)) (Int32.ofInt (gend : Nat)) v3 (Int32.ofInt (-1)) (Int32.ofInt ((c_g y.1 + 1 : Nat) : Int)) I J
  | 0, y, I, J, hy, hr, hgd, hlk, h, hx, kq => by
    have := sta_rem hy.1
    rw [run_end (by omega)] at hgd
    have hg := hy.1.2.2.2.2.2.2.2.2.2
    refine sg_X11_bribe_57 ⟨fun _ => kq I ⟨h.1, hx⟩, fun h2 => ?_⟩
    rw [z_lt (by omega)] at h2; omega
  | f + 1, y, I, J, hy, hr, hgd, hlk, h, hx, kq => by
    have hg := hy.1.2.2.2.2.2.2.2.2.2
    have hn := hP.2.1
    have hkk := hP.2.2.2.1
    rw [bri] at kq
    refine sg_X11_bribe_57 ?_
    rw [z_lt (by omega)]
    by_cases qe : sta P y.1 ≤ p_k P
    · rw [run_end qe] at hgd
      rw [if_pos qe] at kq
      exact ⟨fun _ => kq I ⟨h.1, hx⟩, fun h2 => absurd (by omega) h2⟩
    · have hr2 : rem_ P (gt_ P y (ncn P y.1)).1 + 1 = rem_ P y.1 := gs_rem (k := ncn P y.1) hP hy.1 (by omega)
      have hk := ncn_ok (c := y.1) hP
      have hy2 := gt_tw (k := ncn P y.1) hP hy (by omega) (by omega)
      have hgd2 : gend = c_g (run P (nK P) (p_k P) 1000 (gt_ P y (ncn P y.1))).1 := by
        rw [hgd, run_go qe]
        show c_g (run P (nK P) (p_k P) 999 (gt_ P y (ncn P y.1))).1 = _
        rw [run_more hP (nK_w hP) 999 1000 _ hy2 (by omega) (by omega)]
      have hge2 : c_g y.1 + 1 ≤ gend := by
        rw [hgd2]
        exact (run_g (P := P) (K := nK P) (e := p_k P) 1000 (gt_ P y (ncn P y.1))).1
      rw [if_neg qe] at kq
      refine ⟨fun h2 => absurd h2 (by omega), fun _ => ⟨fun _ => ⟨fun h2 => absurd h2 (by decide), fun _ => ?_⟩, fun h2 => absurd hv3 h2⟩⟩
      refine q_goOn (ins := 0) (br := c_g y.1 + 1) (M := 660) (e := p_k P) (y := x) (QK_k (by omega) h) (by omega) (by omega) (by omega) (by omega) (RX_tw h.1) (MT_k (by omega) hx.1) (by rw [mu_ne (by omega)]; exact hx.2.1) mu_at (by rw [mu_ne (by omega), hx.2.2.2]; exact (RX_pl h.1).2.2.1.2.1) (fun I1 h1 t1 _ => ⟨_, _, rfl, rfl, z_inN (by omega) (by omega), ?_⟩)
      have eT : (run P (mK P 0 (c_g y.1 + 1)) (p_k P) 1000 x) = run P (nK P) (p_k P) 1000 (gt_ P y (ncn P y.1 + 1)) := by
        have hy3 := gt_tw (k := ncn P y.1 + 1) hP hy (by omega) (by omega)
        have hr3 : rem_ P (gt_ P y (ncn P y.1 + 1)).1 + 1 = rem_ P y.1 := gs_rem (k := ncn P y.1 + 1) hP hy.1 (by omega)
        have ek : mK P 0 (c_g y.1 + 1) y.1 = ncn P y.1 + 1 := by unfold mK; rw [if_neg (by omega), if_pos rfl]
        rw [hlk _ (Nat.le_refl _), run_go qe, ek, run_late 999 _ (by show c_g y.1 + 1 ≤ c_g y.1 + 1; omega), run_more hP (nK_w hP) 999 1000 _ hy3 (by omega) (by omega)]
      rw [eT] at t1
      have e91 : I1 91 t = zB (brT P t y) := t1.1.1 t (by omega)
      rw [z_ixN (by omega), e91, zB_0, z_p1]
      refine ⟨fun h2 => ?_, fun h2 => ?_⟩
      · rw [h2, if_neg (by decide)] at kq
        refine m_bring h1.2 (fun I3 f3 g1 g2 g3 g4 => ⟨_, _, rfl, rfl, ?_⟩)
        refine bribe_m hP ht hv3 hge f (gt_ P y (ncn P y.1)) I3 J hy2 (by omega) hgd2 (fun br hbr => ?_) (QK_b f3 h1) ⟨g1, g3, g4, by rw [g2, f3.2 49 (by omega)]⟩ kq
        have hbr : c_g y.1 + 2 ≤ br := hbr
        have ek : mK P 0 br y.1 = ncn P y.1 := by unfold mK; rw [if_neg (by omega), if_neg (by omega)]; rfl
        rw [hlk br (by omega), run_go qe, ek, run_more hP (mK_w hP (by omega)) 999 1000 _ hy2 (by omega) (by omega)]
      · have h2 : brT P t y = true := (Bool.not_eq_false _).mp h2
        rw [h2, if_pos rfl] at kq
        refine q_bring h1 (fun I3 h3 => ⟨_, _, rfl, rfl, ?_⟩)
        refine sg_X11_bribe_57 ⟨fun _ => kq I3 h3, fun _ => ⟨fun _ => ⟨fun _ => kq I3 h3, fun h4 => ?_⟩, fun _ => kq I3 h3⟩⟩
        rw [z_le (by omega)] at h4; omega
end
theorem ca_bribe {SL : Nat} {xs : Nat → Int32} {d : Nat} {h : mm_H} {Q : Option Value → mm_H → Prop} {a0 : Int32} (hd : 150 ≤ d) (hiv : iv h) (k : ∀ (r : Int32) (h1 : mm_H), h1.2.1 65 = .inr 9 → (∀ Q2 : Option Value → mm_H → Prop, (∀ h2, iv h2 → Q2 (some (.int r)) h2) → mm_s SL xs d 223 [.ref 65, .int a0] h1 Q2) → Q (some (.int r)) h1) : mm_s SL xs d 126 [.ref 2, .int a0] h Q := by
  obtain ⟨e, rfl⟩ : ∃ e, d = e + 20 := ⟨d - 20, by omega⟩
  obtain ⟨_, _, p, s, q, I, J, rfl, P, bg, x, hR, hM⟩ := hiv
  have hS : QS p s q P bg x I J := ⟨hR, hM⟩
  obtain ⟨hpp, hip⟩ := RX_p hR
  have hpl := RX_pl hR
  have hP := hpl.1
  have hkk := hP.2.2.2.1
  have hn := hP.2.1
  have hr : rem_ P x.1 ≤ 660 := by have := (RX_tw hR).1.2.2.2.2.2.2.2.2.2; omega
  have hgr : c_g (run P (nK P) (p_k P) 1000 x).1 ≤ 660 := by have := (run_tw (e := p_k P) hP (nK_w hP) 1000 x (RX_tw hR)).1.2.2.2.2.2.2.2.2.2; omega
  refine sg_X10_bribe ?_
  refine isPost_c hip hn hpl.2.1.1.1 (fun hpo => ⟨_, _, _, rfl, rfl, fun h => absurd h (by decide), fun _ => ?_⟩) (fun hpo => ⟨_, _, _, rfl, rfl, fun _ => k _ _ rfl (fun Q2 k2 => sg_X11_bribe ⟨fun _ => k2 _ (QS_iv hS), fun z => absurd (by rw [isPost_m hn hpl.2.2.1.1]; exact hpo) z⟩), fun h => absurd rfl h⟩)
  obtain ⟨t, t1, rfl⟩ := hpo
  have hm0 : ∀ I2 : Nat → Nat → Int32, I2 65 47 = Int32.ofInt (p_n P : Nat) → ∀ J2, ¬ (sy_X11_isPost (Int32.ofInt (t : Nat)) I2 J2 = Int32.ofInt 0) := fun I2 h2 J2 => by rw [isPost_m hn h2]; exact fun z => z ⟨t, t1, rfl⟩
  refine sg_X0_bribeFor hip isC_15 ?_
  rw [stands_z (RX_tr hR).1 (by omega), zB_0, hpl.2.1.1.2.1]
  refine ⟨fun h => ⟨_, _, _, rfl, rfl, k _ _ rfl (fun Q2 k2 => sg_X11_bribe ⟨fun z => absurd z (hm0 I hpl.2.2.1.1 J), fun _ => ⟨z_inN (by omega) (by omega), ?_⟩⟩)⟩, fun h => ?_⟩
  · rw [z_ixN (by omega), hM.1.1.1 t (by omega), zB_0, h]; exact ⟨fun _ => k2 _ (QS_iv hS), fun z => absurd rfl z⟩
  · -- the reference's answer, over any rows of its own
    have mod : ∀ (I2 : Nat → Nat → Int32) (J2 : Nat → Nat → Int64), QS p s q P bg x I2 J2 → ∀ r : Int, (c_S (run P (nK P) (p_k P) 1000 x).1 t = true → r = -1) → (c_S (run P (nK P) (p_k P) 1000 x).1 t = false → r = bri P t 1000 x) → ∀ Q2 : Option Value → mm_H → Prop, (∀ h2, iv h2 → Q2 (some (.int (Int32.ofInt r))) h2) → mm_s SL xs (e + 20) 223 [.ref 65, .int (Int32.ofInt (t : Nat))] (hp p s q I2 J2) Q2 := by
      intro I2 J2 h2 r r1 r2 Q2 k2
      refine sg_X11_bribe ⟨fun z => absurd z (hm0 I2 (RX_pl h2.1).2.2.1.1 J2), fun _ => ⟨z_inN (by omega) (by omega), ?_⟩⟩
      rw [z_ixN (by omega), h2.2.1.1.1 t (by omega), zB_0]
      refine ⟨fun z => absurd z h, fun _ => ?_⟩
      refine q_put h2 (fun I3 h3 m3 => ⟨_, _, rfl, rfl, ?_⟩)
      refine q_goOn (ins := 0) (br := 0) (M := 660) (e := p_k P) h3 (by omega) (by omega) (by omega) (by omega) (RX_tw h3.1) m3.1 m3.2.1 m3.2.2.1 (by rw [m3.2.2.2]; exact (RX_pl h3.1).2.2.1.2.1) (fun I4 h4 t4 _ => ⟨_, _, rfl, rfl, ?_⟩)
      rw [mK_0] at t4
      refine m_bring h4.2 (fun I5 f5 g1 g2 g3 g4 => ⟨_, _, rfl, rfl, ?_⟩)
      have h5 : QK p s q P bg x I5 J2 := QK_b f5 h4
      have m5 : MX P x I5 := ⟨g1, g3, g4, by rw [g2, f5.2 49 (by omega)]⟩
      rw [t4.1.2.2.2.1, g1.1.2.2.2.1, t4.1.1 t (by omega), z_p1]
      cases hl : c_S (run P (nK P) (p_k P) 1000 x).1 t with
      | true =>
        rw [r1 hl] at k2
        exact sg_X11_bribe_57 ⟨fun _ => k2 _ (QS_iv ⟨h5.1, m5⟩), fun _ => ⟨fun z => absurd z (by decide), fun _ => k2 _ (QS_iv ⟨h5.1, m5⟩)⟩⟩
      | false =>
        rw [r2 hl] at k2
        exact bribe_m (x := x) hP t1 rfl hgr 1000 x I5 J2 (RX_tw hR) (by omega) rfl (fun _ _ => rfl) h5 m5 (fun I6 h6 => k2 _ (QS_iv h6))
    refine q_leftOf hS (by omega) (fun I1 J1 h1 t1' => ⟨_, _, _, rfl, rfl, ?_⟩)
    rw [bs_has _ (by omega)]
    cases hl : c_S (run P (nK P) (p_k P) 1000 x).1 t with
    | true =>
      refine ⟨fun z => absurd z (by decide), fun _ => ⟨_, _, _, rfl, rfl, k _ _ rfl (mod I1 J1 h1 (-1) (fun _ => rfl) (fun z => by rw [hl] at z; exact absurd z (by decide)))⟩⟩
    | false =>
      refine ⟨fun _ => ?_, fun z => absurd rfl z⟩
      refine c_copyFrom isC_21 isC_15 (by omega) (fun I2 J2 f2 _ t2 => ⟨_, _, rfl, rfl, ?_⟩)
      refine bribe_c hP t1 1000 0 x I2 J2 rfl (RX_tw hR).1 (QS_c (Or.inl rfl) f2 h1) (t2 x (RX_tr h1.1)) (fun I3 J3 h3 => ⟨_, _, _, rfl, rfl, k _ _ rfl (mod I3 J3 h3 _ (fun z => by rw [hl] at z; exact absurd z (by decide)) (fun _ => brc_bri hP 1000 1000 x (RX_tw hR) (by omega) (by omega) hl))⟩)
/-! CHOICES -/
theorem sh63 {a d : Nat} {D : Int64} (hD : (D.toBitVec.smod 64).toNat = d) (h : a < 2 ^ 63) : lN a >>> D = lN (a / 2 ^ d) := by
  have hd : a / 2 ^ d ≤ a := Nat.div_le_self _ _
  apply Int64.toInt_inj.mp
  have e : (lN a >>> D).toInt = (lN a).toInt >>> d := by
    rw [← hD]
    exact BitVec.toInt_sshiftRight ..
  rw [e, Int.shiftRight_eq_div_pow, pk_lT h, pk_lT (by omega)]
  rfl
theorem sh63n {a n : Nat} (hn : n < 64) (h : a < 2 ^ 63) : lN a >>> ((Int32.ofInt (n : Int)).toInt64 &&& 63) = lN (a / 2 ^ n) := by
  rw [← z_nI, wb_c n hn]
  apply sh63 _ h
  show ((BitVec.ofNat 64 n).smod 64).toNat = n
  rw [wb_sm n hn, BitVec.toNat_ofNat, Nat.mod_eq_of_lt (by omega)]
def isS (n : Nat) (x : Int64) : Prop := ∃ T : Nat → Bool, x = bs T ∧ (∀ i, T i = true → i < n) ∧ ∃ i, T i = true
theorem isS_lt {n m : Nat} (hn : n ≤ 60) (hm : m < 2 ^ 64) : isS n (lN m) ↔ (m ≠ 0 ∧ m < 2 ^ n) := by
  have h60 : (2 : Nat) ^ n ≤ 2 ^ 60 := Nat.pow_le_pow_right (by decide) hn
  constructor
  · rintro ⟨T, hT, h1, i, hi⟩
    have hb : bn T 60 = bn T n := by
      have := bn_up T (n := n) (fun i hi => by cases h : T i with | false => rfl | true => have := h1 i h; omega) (60 - n)
      rwa [Nat.add_sub_cancel' hn] at this
    have hl := bn_lt T n
    have hl60 := bs_lt T
    have e : m = bn T 60 := by
      have e1 : (lN m).toBitVec.toNat = (lN (bn T 60)).toBitVec.toNat := by rw [hT]; rfl
      rwa [wb_tn hm, wb_tn (by omega)] at e1
    refine ⟨fun z => ?_, by omega⟩
    have ht := bn_test T 60 i
    rw [← e, z, Nat.zero_testBit, hi, Bool.and_true] at ht
    have := h1 i hi
    simp at ht; omega
  · rintro ⟨h1, h2⟩
    have e : m = bn (fun i => m.testBit i) 60 := bn_of (by omega)
    refine ⟨fun i => m.testBit i, by unfold bs; rw [← e], fun i hi => ?_, ?_⟩
    · rcases Nat.lt_or_ge i n with q | q
      · exact q
      · have : m < 2 ^ i := Nat.lt_of_lt_of_le h2 (Nat.pow_le_pow_right (by decide) q)
        change m.testBit i = true at hi
        rw [Nat.testBit_lt_two_pow this] at hi
        exact absurd hi (by decide)
    · exact Nat.exists_testBit_of_ne_zero h1
theorem isS_c {n : Nat} {x : Int64} (hn : n ≤ 60) : (sx_X10_isSet (Int32.ofInt (n : Int)) x = Int32.ofInt 0) = ¬ isS n x := by
  obtain ⟨m, hm, rfl⟩ := wb_of x
  rw [isS_lt hn hm]
  unfold sx_X10_isSet
  by_cases z : m = 0
  · subst z
    rw [if_pos ((lg_cmp_eq (lN 0) (Int64.ofNat 0)).mpr rfl)]
    exact propext ⟨fun _ h => h.1 rfl, fun _ => rfl⟩
  · have hne : ¬ lN m = Int64.ofNat 0 := fun e => z (by
      have e1 : (lN m).toBitVec.toNat = (lN 0).toBitVec.toNat := by rw [e]; rfl
      rwa [wb_tn hm, wb_tn (by decide)] at e1)
    rw [if_neg (fun e => hne ((lg_cmp_eq _ _).mp e)), bs_all hn]
    by_cases q : m < 2 ^ n
    · obtain ⟨T, hT, h1, _⟩ := (isS_lt hn hm).mpr ⟨z, q⟩
      rw [if_pos ((lg_cmp_eq _ _).mpr (by
        rw [hT, bs_not]
        show _ = Int64.ofInt 0
        rw [bs_eq0]
        intro i hi
        cases h : T i with
        | false => rfl
        | true => have := h1 i h; simp; omega))]
      exact propext ⟨fun e => absurd e (by decide), fun e => absurd ⟨z, q⟩ e⟩
    · rw [if_neg (fun e => by
        have e1 := (lg_cmp_eq _ _).mp e
        obtain ⟨i, hi, hb⟩ := Nat.exists_ge_and_testBit_of_ge_two_pow (show m ≥ 2 ^ n by omega)
        have hi64 : i < 64 := by
          rcases Nat.lt_or_ge i 64 with a | a
          · exact a
          · have : m < 2 ^ i := Nat.lt_of_lt_of_le hm (Nat.pow_le_pow_right (by decide) a)
            rw [Nat.testBit_lt_two_pow this] at hb
            exact absurd hb (by decide)
        have e2 : (lN m &&& (bs (fun i => decide (i < n)) ^^^ Int64.ofInt (-1))).toBitVec.getLsbD i = true := by
          rw [Int64.toBitVec_and, Int64.toBitVec_xor, BitVec.getLsbD_and, BitVec.getLsbD_xor, bs_bit, bs_m1 hi64]
          have : (lN m).toBitVec.getLsbD i = true := by rw [wb_tb, BitVec.getLsbD_ofNat, hb]; simp [hi64]
          rw [this]
          simp; omega
        rw [e1] at e2
        have : (Int64.ofNat 0).toBitVec.getLsbD i = false := by
          show (BitVec.ofNat 64 0).getLsbD i = false
          simp
        rw [this] at e2
        exact absurd e2 (by decide))]
      exact propext ⟨fun _ e => q e.2, fun _ => rfl⟩
theorem isS_m {n : Nat} {x : Int64} (hn : n ≤ 60) : (sx_X11_isSet x (Int32.ofInt (n : Int)) = Int32.ofInt 0) = ¬ isS n x := by
  obtain ⟨m, hm, rfl⟩ := wb_of x
  have h60 : (2 : Nat) ^ n ≤ 2 ^ 60 := Nat.pow_le_pow_right (by decide) hn
  have hp0 : 0 < 2 ^ n := Nat.pow_pos (by decide)
  rw [isS_lt hn hm]
  unfold sx_X11_isSet
  by_cases z : m = 0
  · subst z
    rw [if_pos ((lg_cmp_le _ _).mpr (by decide))]
    exact propext ⟨fun _ h => h.1 rfl, fun _ => rfl⟩
  · by_cases q : m < 2 ^ 63
    · rw [if_neg (fun e => by
        have := (pk_lLE (a := m) (b := 0) q (by decide)).mp ((lg_cmp_le _ _).mp e)
        omega), sh63n (by omega) q]
      by_cases q2 : m < 2 ^ n
      · rw [if_pos ((lg_cmp_eq _ _).mpr (by rw [Nat.div_eq_of_lt q2]; rfl))]
        exact propext ⟨fun e => absurd e (by decide), fun e => absurd ⟨z, q2⟩ e⟩
      · rw [if_neg (fun e => by
          have h1 := (pk_lEQ (a := m / 2 ^ n) (b := 0) (Nat.lt_of_le_of_lt (Nat.div_le_self _ _) q) (by decide)).mp ((lg_cmp_eq _ _).mp e)
          have h2 : 1 ≤ m / 2 ^ n := (Nat.one_le_div_iff hp0).mpr (by omega)
          omega)]
        exact propext ⟨fun _ e => q2 e.2, fun _ => rfl⟩
    · rw [if_pos ((lg_cmp_le _ _).mpr (by
        rw [Int64.le_iff_toInt_le]
        have e1 : (lN m).toInt = (m : Int) - 2 ^ 64 := by
          have e0 : (lN m).toInt = (m : Int).bmod (2 ^ 64) := Int64.toInt_ofNat'
          rw [e0, Int.bmod_def]
          have : (m : Int) % ((2 ^ 64 : Nat) : Int) = m := Int.emod_eq_of_lt (by omega) (by omega)
          rw [this, if_neg (by omega)]
          rfl
        rw [e1]
        show (m : Int) - 2 ^ 64 ≤ (Int64.ofNat 0).toInt
        have : (Int64.ofNat 0).toInt = 0 := by decide
        omega))]
      exact propext ⟨fun _ e => by omega, fun _ => rfl⟩
def cK (k : Nat) : crT → Nat := fun _ => k
theorem cK_m {P : plT} {k : Nat} (hk : 1 ≤ k) : mK P k 0 = cK k := by
  funext c
  unfold mK cK
  rw [if_pos (show 0 < k from hk), if_neg (by omega)]; rfl
def subB (T S : Nat → Bool) : Bool := decide (fb_ct (fun i => T i && !S i) 60 = 0)
theorem subB_t {T S : Nat → Bool} : subB T S = true ↔ ∀ i, i < 60 → T i = true → S i = true := by
  unfold subB
  rw [decide_eq_true_eq, fb_ct_zero]
  refine ⟨fun h i hi ht => ?_, fun h i hi => ?_⟩
  · have := h i hi
    rw [ht] at this
    simpa using this
  · cases ht : T i with
    | false => rfl
    | true => rw [h i hi ht]; rfl
theorem subB_f {T S : Nat → Bool} (h : ¬ ∀ i, i < 60 → T i = true → S i = true) : subB T S = false := by
  cases hs : subB T S with
  | false => rfl
  | true => exact absurd (subB_t.mp hs) h
def choT (P : plT) (bg : Nat) (T : Nat → Bool) (k : Nat) : Bool := subB T (c_S (run P (cK k) (p_k P) 1000 (fr3 P bg)).1)
def cho (P : plT) (bg : Nat) (T : Nat → Bool) : Nat → Nat → Int
  | 0, _ => -1
  | f + 1, k => if choT P bg T k then (k : Int) else cho P bg T f (k + 1)
theorem cho_none {P : plT} {bg : Nat} {T : Nat → Bool} : ∀ (f k : Nat), (∀ j, k ≤ j → j < k + f → choT P bg T j = false) → cho P bg T f k = -1
  | 0, k, h => rfl
  | f + 1, k, h => by
    rw [cho, h k (by omega) (by omega), if_neg (by decide)]
    exact cho_none f (k + 1) (fun j a b => h j (by omega) (by omega))
theorem sub_z {T S : Nat → Bool} : (bs T &&& (bs S ^^^ Int64.ofInt (-1)) = Int64.ofInt 0) = (∀ i, i < 60 → T i = true → S i = true) := by
  rw [bs_not]
  refine propext ((bs_eq0 _).trans ⟨fun h i hi ht => ?_, fun h i hi => ?_⟩)
  · have := h i hi
    rw [ht] at this
    simpa using this
  · cases ht : T i with
    | false => rfl
    | true => rw [h i hi ht]; rfl
theorem sub_m {T S : Nat → Bool} : (bs S &&& bs T = bs T) = (∀ i, i < 60 → T i = true → S i = true) := by
  rw [bs_and]
  refine propext ⟨fun h i hi ht => ?_, fun h => bs_cong (fun i hi => ?_)⟩
  · have := bs_inj h hi
    simp only [ht, Bool.and_true] at this
    exact this
  · cases ht : T i with
    | false => rw [Bool.and_false]
    | true => rw [h i hi ht]; rfl
section
variable {SL : Nat} {xs : Nat → Int32} {d : Nat} {p s q : Nat} {Q : Option Value → mm_H → Prop} {P : plT} {bg : Nat} {x : trT}
theorem keepsAll_loop {T : Nat → Bool} {kk : Nat} (hP : pw P) (hk1 : 1 ≤ kk) (hk2 : kk ≤ 999) : ∀ (f i : Nat) (y : trT) (I : Nat → Nat → Int32) (J : Nat → Nat → Int64), i + f = 1000 → tw P y 660 → QS p s q P bg x I J → TR 21 y I J → (∀ i, i < 60 → T i = true → c_S y.1 i = true) → (∀ I2 J2, QS p s q P bg x I2 J2 → Q (some (.int (zB (subB T (c_S (run P (cK kk) (p_k P) f y).1))))) (hp p s q I2 J2)) → w_X0_keepsAll_15 SL xs d p s q Q p (bs T) (Int32.ofInt (kk : Nat)) (Int32.ofInt (i : Nat)) I J
  | 0, i, y, I, J, hf, hy, h, tr, hT, kq => by
    refine sg_X0_keepsAll_15 (RX_p h.1).2 ⟨fun _ => ?_, fun h2 => ?_⟩
    · have := kq I J h
      rw [show subB T (c_S (run P (cK kk) (p_k P) 0 y).1) = true from subB_t.mpr hT] at this
      exact this
    · rw [z_le (by omega)] at h2; omega
  | f + 1, i, y, I, J, hf, hy, h, tr, hT, kq => by
    have hsn : sta P y.1 ≤ p_n P := fb_ct_le _ _
    have hn := hP.2.1
    have hkk := hP.2.2.2.1
    refine sg_X0_keepsAll_15 (RX_p h.1).2 ?_
    rw [sta_c hP hy.1 tr.1, (RX_pl h.1).2.1.1.2.1, z_le (by omega), z_le (by omega), z_p1]
    refine ⟨fun h2 => absurd h2 (by omega), fun _ => ⟨fun h2 => ?_, fun h2 => ?_⟩⟩
    · have := kq I J h
      rw [run_end (show sta P y.1 ≤ p_k P by omega), subB_t.mpr hT] at this
      exact this
    · refine c_goOnce (k := kk) isC_21 (RX_p h.1).2 hP hy.1 (by omega) (by omega) hk1 (by omega) (RX_pl h.1).2.1.1 tr.1 tr.2.1 tr.2.2 (fun I2 J2 f2 b1 b2 b3 => ⟨_, _, rfl, rfl, ?_⟩)
      rw [b1.1, sub_z]
      have h3 := QS_c (Or.inl rfl) f2 h
      refine ⟨fun h4 => ?_, fun h4 => ?_⟩
      · refine keepsAll_loop hP hk1 hk2 f (i + 1) (gt_ P y kk) I2 J2 (by omega) (gt_tw hP hy (by omega) (by omega)) h3 ⟨b1, b2, b3⟩ h4 (fun I3 J3 h5 => ?_)
        have := kq I3 J3 h5
        rw [run_go (show ¬ sta P y.1 ≤ p_k P by omega)] at this
        exact this
      · have := kq I2 J2 h3
        rw [run_go (show ¬ sta P y.1 ≤ p_k P by omega), subB_f (fun z => h4 (fun i hi ht => by
          have h6 := z i hi ht
          cases hc : c_S (gs P y.1 kk) i with
          | true => rfl
          | false => rw [run_S f (gt_ P y (cK kk y.1)) hc] at h6; exact absurd h6 (by decide)))] at this
        exact this
theorem choice_c {T : Nat → Bool} (hT : ∀ i, T i = true → i < p_n P) : ∀ (f kk : Nat) (I : Nat → Nat → Int32) (J : Nat → Nat → Int64), kk + f = 1000 → 1 ≤ kk → QS p s q P bg x I J → (∀ I2 J2, QS p s q P bg x I2 J2 → Q (some (.int (Int32.ofInt (cho P bg T f kk)))) (hp p s q I2 J2)) → w_X0_choiceFor_16 SL xs d p s q Q p (bs T) (Int32.ofInt (kk : Nat)) I J
  | 0, kk, I, J, hf, hk, h, kq => by
    refine sg_X0_choiceFor_16 ⟨fun _ => kq I J h, fun h2 => ?_⟩
    rw [z_lt (by omega)] at h2; omega
  | f + 1, kk, I, J, hf, hk, h, kq => by
    have hpl := RX_pl h.1
    have hP := hpl.1
    have hn := hP.2.1
    rw [cho] at kq
    refine sg_X0_choiceFor_16 ?_
    rw [z_lt (by omega), z_p1]
    refine ⟨fun h2 => absurd h2 (by omega), fun _ => ?_⟩
    refine sg_X0_keepsAll (RX_p h.1).2 ?_
    rw [hpl.2.2.2.2.1]
    refine c_startFrom isC_21 (RX_p h.1).2 hP hpl.2.1.1.1 (fun I1 J1 f1 t1 => ⟨_, _, rfl, rfl, ?_⟩)
    refine keepsAll_loop hP hk (by omega) 1000 0 (fr3 P bg) I1 J1 rfl (fre_tw hP hpl.2.2.2.1) (QS_c (Or.inl rfl) f1 h) t1 (fun i hi ht => decide_eq_true (hT i ht)) (fun I2 J2 h2 => ⟨_, _, _, rfl, rfl, ?_⟩)
    rw [zB_0]
    refine ⟨fun h3 => ?_, fun h3 => ?_⟩
    · have h3 : choT P bg T kk = false := h3
      rw [h3, if_neg (by decide)] at kq
      exact choice_c hT f (kk + 1) I2 J2 (by omega) (by omega) h2 kq
    · have h3 : choT P bg T kk = true := (Bool.not_eq_false _).mp h3
      rw [h3, if_pos rfl] at kq
      exact kq I2 J2 h2
theorem choice_m {T : Nat → Bool} : ∀ (f kk : Nat) (I : Nat → Nat → Int32) (J : Nat → Nat → Int64), kk + f = 1000 → 1 ≤ kk → QK p s q P bg x I J → (∀ I2 : Nat → Nat → Int32, QS p s q P bg x I2 J → Q (some (.int (Int32.ofInt (cho P bg T f kk)))) (hp p s q I2 J)) → w_X11_chooses_22 SL xs d p s q Q (bs T) (Int32.ofInt (-1)) (Int32.ofInt (kk : Nat)) I J
  | 0, kk, I, J, hf, hk, h, kq => by
    refine sg_X11_chooses_22 ⟨fun _ => q_bring h (fun I2 h2 => ⟨_, _, rfl, rfl, kq I2 h2⟩), fun h2 => ?_⟩
    rw [z_lt (by omega)] at h2; omega
  | f + 1, kk, I, J, hf, hk, h, kq => by
    have hpl := RX_pl h.1
    have hP := hpl.1
    have hn := hP.2.1
    have hkk := hP.2.2.2.1
    have hft := fre_tw hP hpl.2.2.2.1
    rw [cho] at kq
    refine sg_X11_chooses_22 ?_
    rw [z_lt (by omega)]
    refine ⟨fun h2 => absurd h2 (by omega), fun _ => ⟨fun h2 => absurd h2 (by decide), fun _ => ?_⟩⟩
    rw [hpl.2.2.2.2.2.1]
    refine q_fresh h (fun I1 h1 m1 => ⟨_, _, rfl, rfl, ?_⟩)
    refine q_goOn (ins := kk) (br := 0) (M := 660) (e := p_k P) (y := fr3 P bg) (QK_k (by omega) h1) (by omega) (by omega) (by omega) (by omega) hft (MT_k (by omega) m1.1) mu_at (by rw [mu_ne (by omega)]; exact m1.2.2.1) (by rw [mu_ne (by omega), m1.2.2.2]; exact (RX_pl h1.1).2.2.1.2.1) (fun I2 h2 t2 _ => ⟨_, _, rfl, rfl, ?_⟩)
    rw [cK_m hk] at t2
    have hcw : kw (cK kk) := fun c => ⟨hk, by show kk ≤ 1000; omega⟩
    refine m_standSet hn (run_tw hP hcw 1000 _ hft).1.1 t2.1.1 (RX_pl h2.1).2.2.1.1 ⟨_, _, _, rfl, rfl, ?_⟩
    rw [sub_m, z_p1]
    refine ⟨fun h3 => ?_, fun h3 => ?_⟩
    · have h3 : choT P bg T kk = true := subB_t.mpr h3
      rw [h3, if_pos rfl] at kq
      refine sg_X11_chooses_22 ⟨fun _ => q_bring h2 (fun I4 h4 => ⟨_, _, rfl, rfl, kq I4 h4⟩), fun _ => ⟨fun _ => q_bring h2 (fun I4 h4 => ⟨_, _, rfl, rfl, kq I4 h4⟩), fun h5 => ?_⟩⟩
      rw [z_le (by omega)] at h5; omega
    · have h3 : choT P bg T kk = false := subB_f h3
      rw [h3, if_neg (by decide)] at kq
      exact choice_m f (kk + 1) I2 J (by omega) (by omega) h2 kq
end
theorem ca_chooses {SL : Nat} {xs : Nat → Int32} {d : Nat} {h : mm_H} {Q : Option Value → mm_H → Prop} {a0 : Int64} (hd : 150 ≤ d) (hiv : iv h) (k : ∀ (r : Int32) (h1 : mm_H), h1.2.1 65 = .inr 9 → (∀ Q2 : Option Value → mm_H → Prop, (∀ h2, iv h2 → Q2 (some (.int r)) h2) → mm_s SL xs d 229 [.ref 65, .long a0] h1 Q2) → Q (some (.int r)) h1) : mm_s SL xs d 130 [.ref 2, .long a0] h Q := by
  obtain ⟨e, rfl⟩ : ∃ e, d = e + 20 := ⟨d - 20, by omega⟩
  obtain ⟨_, _, p, s, q, I, J, rfl, P, bg, x, hR, hM⟩ := hiv
  have hS : QS p s q P bg x I J := ⟨hR, hM⟩
  obtain ⟨hpp, hip⟩ := RX_p hR
  have hpl := RX_pl hR
  have hP := hpl.1
  have hn := hP.2.1
  have hkk := hP.2.2.2.1
  refine sg_X10_chooses hip ?_
  rw [hpl.2.1.1.1, isS_c hn]
  refine ⟨fun h => k _ _ rfl (fun Q2 k2 => sg_X11_chooses ⟨fun _ => k2 _ (QS_iv hS), fun h2 => absurd (by rw [hpl.2.2.1.1, isS_m hn]; exact h) h2⟩), fun h => ?_⟩
  have h := Classical.not_not.mp h
  have hset := h
  obtain ⟨T, rfl, hT, hT2⟩ := h
  have mod : ∀ (I2 : Nat → Nat → Int32) (J2 : Nat → Nat → Int64), QS p s q P bg x I2 J2 → ∀ r : Int, r = cho P bg T 999 1 → ∀ Q2 : Option Value → mm_H → Prop, (∀ h2, iv h2 → Q2 (some (.int (Int32.ofInt r))) h2) → mm_s SL xs (e + 20) 229 [.ref 65, .long (bs T)] (hp p s q I2 J2) Q2 := by
    intro I2 J2 h2 r hr Q2 k2
    rw [hr] at k2
    refine sg_X11_chooses ⟨fun z => absurd hset (by rw [(RX_pl h2.1).2.2.1.1, isS_m hn] at z; exact z), fun _ => ?_⟩
    refine q_put h2 (fun I3 h3 m3 => ⟨_, _, rfl, rfl, ?_⟩)
    exact choice_m 999 1 I3 J2 rfl (by omega) h3 (fun I4 h4 => k2 _ (QS_iv h4))
  have hcT : fb_ct T 60 = fb_ct T (p_n P) := ct_sup2 hT hn
  have hcl : fb_ct T (p_n P) ≤ p_n P := fb_ct_le _ _
  refine sg_X0_choiceFor hip ?_
  rw [bs_count, hcT, hpl.2.1.1.2.1, z_le (by omega)]
  refine ⟨fun h1 => ?_, fun h1 => ?_⟩
  · exact choice_c hT 999 1 I J rfl (by omega) hS (fun I2 J2 h3 => ⟨_, _, _, rfl, rfl, k _ _ rfl (mod I2 J2 h3 _ rfl)⟩)
  · have h2 : ¬ ((p_n P : Nat) : Int) ≤ (p_k P : Nat) := by omega
    refine ⟨_, _, _, rfl, rfl, k _ _ rfl (mod I J hS _ (cho_none 999 1 (fun j j1 j2 => ?_)).symm)⟩
    have hft := fre_tw hP hpl.2.2.2.1
    have hcw : kw (cK j) := fun c => ⟨j1, by show j ≤ 1000; omega⟩
    have hend := run_ended (e := p_k P) hP hcw 1000 (fr3 P bg) hft (by have := hft.1.2.2.2.2.2.2.2.2.2; omega)
    apply subB_f
    intro hz
    have : fb_ct T (p_n P) ≤ sta P (run P (cK j) (p_k P) 1000 (fr3 P bg)).1 := fb_ct_sub (fun i hi ht => hz i (by omega) ht)
    omega
