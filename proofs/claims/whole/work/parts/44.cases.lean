/-! what comes: class and reference with rows of their own -/
theorem RX_n {p s q : Nat} {P : plT} {bg : Nat} {x y : trT} {I I2 : Nat → Nat → Int32} {J J2 : Nat → Nat → Int64} (hR : RX p s q P bg x I J) (f1 : ∀ r, ¬ scr p r → r < 15 ∨ 18 < r → I2 r = I r) (f2 : ∀ k, k < 59 ∨ 78 < k → I2 65 k = I 65 k) (f3 : I2 29 1 = I 29 1) (f4 : ∀ r, r ≠ 15 → r ≠ 21 → r ≠ 25 → r ≠ 37 → J2 r = J r) (h1 : tw P y 660) (h2 : c_b y.1 = bg) (h3 : TR 15 y I2 J2) : RX p s q P bg y I2 J2 := by
  have hpp := (RX_p hR).1
  have f : Fq p I (fun r => if 15 ≤ r ∧ r ≤ 18 then I r else I2 r) J (fun r => if r = 15 then J r else J2 r) := ⟨fun r hr => by
      by_cases e : 15 ≤ r ∧ r ≤ 18
      · exact if_pos e
      · exact (if_neg e).trans (f1 r hr (by omega)), fun k hk => f2 k hk, f3, fun r a b c => by
      by_cases e : r = 15
      · exact if_pos e
      · exact (if_neg e).trans (f4 r e a b c)⟩
  have h := RX_f f hR
  obtain ⟨g1, g2, g3, g4, g5, g6, g7, g8, g9, g10, g11, g12, g13, g14⟩ := h
  refine ⟨g1, g2, g3, g4, g5, g6, g7, g8, g9, ?_, h1, h2, h3, fun b hb => v_box_c hb (fun r hr => (if_neg (by omega)).symm) (fun r a b => (if_neg (by omega)).symm) (g14 b hb)⟩
  rcases hpp with rfl | rfl
  · exact g10
  · exact g10
def QS (p s q : Nat) (P : plT) (bg : Nat) (x : trT) (I : Nat → Nat → Int32) (J : Nat → Nat → Int64) : Prop := RX p s q P bg x I J ∧ MX P x I
def QK (p s q : Nat) (P : plT) (bg : Nat) (x : trT) (I : Nat → Nat → Int32) (J : Nat → Nat → Int64) : Prop := RX p s q P bg x I J ∧ KT P x I
theorem QS_iv {p s q : Nat} {P : plT} {bg : Nat} {x : trT} {I : Nat → Nat → Int32} {J : Nat → Nat → Int64} (h : QS p s q P bg x I J) : iv (hp p s q I J) := iv_mk ⟨P, bg, x, h.1, h.2⟩
theorem RX_pl {p s q : Nat} {P : plT} {bg : Nat} {x : trT} {I : Nat → Nat → Int32} {J : Nat → Nat → Int64} (h : RX p s q P bg x I J) : v_plan p P bg I J := h.2.2.2.2.2.2.2.2.2.1
theorem RX_tw {p s q : Nat} {P : plT} {bg : Nat} {x : trT} {I : Nat → Nat → Int32} {J : Nat → Nat → Int64} (h : RX p s q P bg x I J) : tw P x 660 := h.2.2.2.2.2.2.2.2.2.2.1
theorem RX_cb {p s q : Nat} {P : plT} {bg : Nat} {x : trT} {I : Nat → Nat → Int32} {J : Nat → Nat → Int64} (h : RX p s q P bg x I J) : c_b x.1 = bg := h.2.2.2.2.2.2.2.2.2.2.2.1
theorem RX_tr {p s q : Nat} {P : plT} {bg : Nat} {x : trT} {I : Nat → Nat → Int32} {J : Nat → Nat → Int64} (h : RX p s q P bg x I J) : TR 15 x I J := h.2.2.2.2.2.2.2.2.2.2.2.2.1
theorem QS_g {p s q o : Nat} {P : plT} {bg : Nat} {x : trT} {I I2 : Nat → Nat → Int32} {J J2 : Nat → Nat → Int64} (ho : o = 21 ∨ o = 25) (f : FrG o p I I2 J J2) (h : QS p s q P bg x I J) : QS p s q P bg x I2 J2 :=
  ⟨RX_f (Fq_g ho (RX_p h.1).1 f) h.1, MX_c (fun r hr => f.1 r (by omega) (by have := (RX_p h.1).1; omega)) h.2⟩
theorem QS_c {p s q o : Nat} {P : plT} {bg : Nat} {x : trT} {I I2 : Nat → Nat → Int32} {J J2 : Nat → Nat → Int64} (ho : o = 21 ∨ o = 25) (f : FrC o I I2 J J2) (h : QS p s q P bg x I J) : QS p s q P bg x I2 J2 := QS_g ho (FrG_c f) h
theorem QK_m {p s q : Nat} {P : plT} {bg : Nat} {x : trT} {I I2 : Nat → Nat → Int32} {J : Nat → Nat → Int64} (f : FrM I I2) (h : QK p s q P bg x I J) : QK p s q P bg x I2 J := ⟨RX_f (Fq_m f) h.1, KT_m f h.2⟩
theorem QK_b {p s q : Nat} {P : plT} {bg : Nat} {x : trT} {I I2 : Nat → Nat → Int32} {J : Nat → Nat → Int64} (f : FrB I I2) (h : QK p s q P bg x I J) : QK p s q P bg x I2 J := ⟨RX_f (Fq_b f) h.1, KT_b f h.2⟩
theorem QK_k {p s q k : Nat} {P : plT} {bg : Nat} {x : trT} {v : Int32} {I : Nat → Nat → Int32} {J : Nat → Nat → Int64} (hk : 76 ≤ k ∧ k ≤ 78) (h : QK p s q P bg x I J) : QK p s q P bg x (mm_u I 65 k v) J :=
  ⟨RX_f (⟨fun r hr => mu_row (by unfold scr at hr; omega), fun j hj => mu_ne (by omega), by rw [mu_row (by omega)], fun _ _ _ _ => rfl⟩ : Fq p I _ J J) h.1, KT_c (fun r a b => mu_row (by omega)) (fun j a b => mu_ne (by omega)) h.2⟩
theorem MT_k {P : plT} {x : trT} {k : Nat} {v : Int32} {I : Nat → Nat → Int32} (hk : 64 < k) (h : MT P x I) : MT P x (mm_u I 65 k v) := MT_c (fun r a b => mu_row (by omega)) (fun j a b => mu_ne (by omega)) h
theorem MP_k {P : plT} {k : Nat} {v : Int32} {I : Nat → Nat → Int32} (hk : 59 ≤ k) (h : MP P I) : MP P (mm_u I 65 k v) := MP_c (fun r hr => mu_row (by omega)) (fun j hj => mu_ne (by omega)) h
theorem run_b {P : plT} {K : crT → Nat} {e : Nat} : ∀ (f : Nat) (x : trT), c_b (run P K e f x).1 = c_b x.1
  | 0, x => rfl
  | f + 1, x => by
    by_cases q : sta P x.1 ≤ e
    · rw [run_end q]
    · rw [run_go q, run_b f]; rfl
theorem run_S {P : plT} {K : crT → Nat} {e t : Nat} : ∀ (f : Nat) (x : trT), c_S x.1 t = false → c_S (run P K e f x).1 t = false
  | 0, x, h => h
  | f + 1, x, h => by
    by_cases q : sta P x.1 ≤ e
    · rw [run_end q]; exact h
    · rw [run_go q]
      apply run_S f
      show c_S (gs P x.1 (K x.1)) t = false
      rw [gs_S, h]; split <;> rfl
section
variable {SL : Nat} {xs : Nat → Int32} {d : Nat} {p s q : Nat} {Q : Option Value → mm_H → Prop} {P : plT} {bg : Nat} {x : trT} {I : Nat → Nat → Int32} {J : Nat → Nat → Int64}
theorem q_put (h : QS p s q P bg x I J) (kq : ∀ I2 : Nat → Nat → Int32, QK p s q P bg x I2 J → MX P x I2 → Q none (hp p s q I2 J)) : mm_s SL xs (d + 1) 203 [.ref 65] (hp p s q I J) Q := by
  refine m_put h.2.1 (fun I2 f g => kq I2 ⟨RX_f (Fq_p f) h.1, g⟩ ⟨MT_p f h.2.1, ?_, ?_, ?_⟩)
  · rw [f.2 76 (by omega)]; exact h.2.2.1
  · rw [f.2 77 (by omega)]; exact h.2.2.2.1
  · rw [f.2 78 (by omega), f.2 49 (by omega)]; exact h.2.2.2.2
theorem q_bring (h : QK p s q P bg x I J) (kq : ∀ I2 : Nat → Nat → Int32, QS p s q P bg x I2 J → Q none (hp p s q I2 J)) : mm_s SL xs (d + 1) 204 [.ref 65] (hp p s q I J) Q :=
  m_bring h.2 (fun I2 f g1 g2 g3 g4 => kq I2 ⟨RX_f (Fq_b f) h.1, g1, g3, g4, by rw [g2, f.2 49 (by omega)]⟩)
theorem q_fresh {b : Nat} (h : QK p s q P bg x I J) (kq : ∀ I2 : Nat → Nat → Int32, QK p s q P bg x I2 J → MX P (fr3 P b) I2 → Q none (hp p s q I2 J)) : mm_s SL xs (d + 1) 202 [.ref 65, .int (Int32.ofInt (b : Nat))] (hp p s q I J) Q :=
  m_fresh (RX_pl h.1).1 (RX_pl h.1).2.2.1.1 (fun I2 f g1 g2 g3 g4 => kq I2 (QK_b f h) ⟨g1, g3, g4, by rw [g2, f.2 49 (by omega)]⟩)
/-- the reference goes on to the end, from a state of its own -/
theorem q_goOn {y : trT} {M ins br e : Nat} (h : QK p s q P bg x I J) (hM : M ≤ 900) (he : e ≤ 100) (hi : ins ≤ 999) (hb : br ≤ 2000) (hy : tw P y M) (hmt : MT P y I) (h76 : I 65 76 = Int32.ofInt (ins : Nat)) (h77 : I 65 77 = Int32.ofInt (br : Nat)) (h78 : I 65 78 = Int32.ofInt (e : Nat)) (kq : ∀ I2 : Nat → Nat → Int32, QK p s q P bg x I2 J → MT P (run P (mK P ins br) e 1000 y) I2 → FrM I I2 → Q none (hp p s q I2 J)) : mm_s SL xs (d + 4) 211 [.ref 65] (hp p s q I J) Q :=
  m_goOn (RX_pl h.1).1 hM he hi hb hy (RX_pl h.1).2.2.1 hmt h76 h77 h78 (fun I2 f g => kq I2 (QK_m f h) g f)
theorem q_seekLeft {e : Nat} (h : QK p s q P bg x I J) (he : e ≤ 100) (hmt : MT P x I) (h76 : I 65 76 = Int32.ofInt 0) (h77 : I 65 77 = Int32.ofInt 0) (h78 : I 65 78 = Int32.ofInt (e : Nat)) (kq : ∀ I2 : Nat → Nat → Int32, QS p s q P bg x I2 J → Q (some (.long (bs (c_S (run P (nK P) e 1000 x).1)))) (hp p s q I2 J)) : mm_s SL xs (d + 5) 216 [.ref 65] (hp p s q I J) Q := by
  have hP := (RX_pl h.1).1
  refine sg_X11_seekLeft ?_
  refine q_goOn (ins := 0) (br := 0) h (M := 660) (by omega) he (by omega) (by omega) (RX_tw h.1) hmt h76 h77 h78 (fun I2 g1 g2 _ => ⟨_, _, rfl, rfl, ?_⟩)
  rw [mK_0] at g2
  refine m_standSet hP.2.1 (run_tw hP (nK_w hP) 1000 x (RX_tw h.1)).1.1 g2.1.1 (RX_pl g1.1).2.2.1.1 ⟨_, _, _, rfl, rfl, ?_⟩
  exact q_bring g1 (fun I3 g3 => ⟨_, _, rfl, rfl, kq I3 g3⟩)
theorem q_leftOf {e : Nat} (h : QS p s q P bg x I J) (he : e ≤ 100) (kq : ∀ (I2 : Nat → Nat → Int32) (J2 : Nat → Nat → Int64), QS p s q P bg x I2 J2 → TR 21 (run P (nK P) e 1000 x) I2 J2 → Q (some (.long (bs (c_S (run P (nK P) e 1000 x).1)))) (hp p s q I2 J2)) : mm_s SL xs (d + 7) 1 [.ref 20, .ref p, .ref 15, .int (Int32.ofInt (e : Nat))] (hp p s q I J) Q := by
  have hP := (RX_pl h.1).1
  refine sg_X0_leftOf ?_
  refine c_copyFrom isC_21 isC_15 (by omega) (fun I1 J1 f1 _ t1 => ⟨_, _, rfl, rfl, ?_⟩)
  have h1 := QS_c (Or.inl rfl) f1 h
  refine c_goOn (M := 660) (most := 1000) isC_21 (RX_p h1.1).2 hP (by omega) he (by omega) (RX_tw h1.1) (RX_pl h1.1).2.1 (t1 x (RX_tr h.1)) (fun I2 J2 f2 t2 => ⟨_, _, _, rfl, rfl, ?_⟩)
  rw [t2.1.1]
  exact kq I2 J2 (QS_g (Or.inl rfl) f2 h1) t2
end
theorem ca_go {SL : Nat} {xs : Nat → Int32} {d : Nat} {h : mm_H} {Q : Option Value → mm_H → Prop} {a0 : Int32} (hd : 150 ≤ d) (hiv : iv h) (k : ∀ (r : Int32) (h1 : mm_H), h1.2.1 65 = .inr 9 → (∀ Q2 : Option Value → mm_H → Prop, (∀ h2, iv h2 → Q2 (some (.int r)) h2) → mm_s SL xs d 213 [.ref 65, .int a0] h1 Q2) → Q (some (.int r)) h1) : mm_s SL xs d 120 [.ref 2, .int a0] h Q := by
  obtain ⟨e, rfl⟩ : ∃ e, d = e + 20 := ⟨d - 20, by omega⟩
  obtain ⟨_, _, p, s, q, I, J, rfl, P, bg, x, hR, hM⟩ := hiv
  obtain ⟨hpp, hip⟩ := RX_p hR
  have hiv2 := iv_mk (p := p) (s := s) (q := q) (I := I) (J := J) ⟨P, bg, x, hR, hM⟩
  have hpl := RX_pl hR
  have hP := hpl.1
  have hk := hP.2.2.2.1
  obtain ⟨z, z1, z2, rfl⟩ := z_of a0
  refine sg_X10_go hip ?_
  rw [z_lt (by omega), z_le (by omega)]
  refine ⟨fun h => k _ _ rfl (fun Q2 k2 => sg_X11_go ⟨fun _ => k2 _ hiv2, fun h2 => absurd (by rw [z_lt (by omega)]; exact h) h2⟩), fun h => ⟨fun h2 => ?_, fun h2 => k _ _ rfl (fun Q2 k2 => sg_X11_go ⟨fun h' => absurd (by rw [z_lt (by omega)] at h'; exact h') h, fun _ => ⟨fun h3 => absurd (by rw [z_le (by omega)] at h3; exact h3) h2, fun _ => k2 _ hiv2⟩⟩)⟩⟩
  obtain ⟨m, rfl⟩ : ∃ m : Nat, z = (m : Int) := ⟨z.toNat, by omega⟩
  rw [hpl.2.1.1.2.1]
  refine c_goOn (M := 660) isC_15 hip hP (by omega) (by omega) (by omega) (RX_tw hR) hpl.2.1 (RX_tr hR) (fun I2 J2 f1 t1 => ⟨_, _, _, rfl, rfl, k _ _ rfl (fun Q2 k2 => ?_)⟩)
  have r65 : ∀ r, 65 ≤ r → I2 r = I r := fun r hr => f1.1 r (by omega) (by omega)
  have hmx : MX P x I2 := MX_c (fun r hr => r65 r (by omega)) hM
  have hmp : MP P I2 := MP_c (fun r hr => r65 r (by omega)) (fun j hj => by rw [r65 65 (by omega)]) hpl.2.2.1
  refine sg_X11_go ⟨fun h' => absurd (by rw [z_lt (by omega)] at h'; exact h') h, fun _ => ⟨fun _ => ?_, fun h3 => absurd (by rw [z_le (by omega)]; exact h2) h3⟩⟩
  refine mgo_loop (M := 660) (e := p_k P) (most := m) hP (by omega) (by omega) (by omega) m 0 x I2 (Nat.zero_add m) (RX_tw hR) hmp hmx.1 hmx.2.1 hmx.2.2.1 (by rw [hmx.2.2.2, hmp.2.1]) (fun I3 f3 t3 => ?_)
  rw [Nat.zero_add]
  refine k2 _ (iv_mk ⟨P, bg, run P (nK P) (p_k P) m x, RX_n hR (fun r hr hr2 => ?_) (fun j hj => ?_) ?_ (fun r a b c e => f1.2 r a) (run_tw hP (nK_w hP) m x (RX_tw hR)) (by rw [run_b]; exact RX_cb hR) (TR_c (fun r a b => f3.1 r (by omega) (by omega) (by omega) (by omega)) rfl t1), t3, ?_, ?_, ?_⟩)
  · rw [f3.1 r (by unfold scr at hr; omega) (by unfold scr at hr; omega) (by unfold scr at hr; omega) (by unfold scr at hr; omega), f1.1 r (by omega) (by unfold scr at hr; omega)]
  · rw [f3.2 j (by omega), r65 65 (by omega)]
  · rw [f3.1 29 (by omega) (by omega) (by omega) (by omega), f1.1 29 (by omega) (by omega)]
  · rw [f3.2 76 (by omega)]; exact hmx.2.1
  · rw [f3.2 77 (by omega)]; exact hmx.2.2.1
  · rw [f3.2 78 (by omega), f3.2 49 (by omega)]; exact hmx.2.2.2
theorem ca_left {SL : Nat} {xs : Nat → Int32} {d : Nat} {h : mm_H} {Q : Option Value → mm_H → Prop}  (hd : 150 ≤ d) (hiv : iv h) (k : ∀ (r : Int64) (h1 : mm_H), h1.2.1 65 = .inr 9 → (∀ Q2 : Option Value → mm_H → Prop, (∀ h2, iv h2 → Q2 (some (.long r)) h2) → mm_s SL xs d 217 [.ref 65] h1 Q2) → Q (some (.long r)) h1) : mm_s SL xs d 123 [.ref 2] h Q := by
  obtain ⟨e, rfl⟩ : ∃ e, d = e + 20 := ⟨d - 20, by omega⟩
  obtain ⟨_, _, p, s, q, I, J, rfl, P, bg, x, hR, hM⟩ := hiv
  have hS : QS p s q P bg x I J := ⟨hR, hM⟩
  have hpl := RX_pl hR
  have hk := hpl.1.2.2.2.1
  refine sg_X10_left (RX_p hR).2 ?_
  rw [hpl.2.1.1.2.1]
  refine q_leftOf hS (by omega) (fun I2 J2 h2 t2 => ⟨_, _, _, rfl, rfl, k _ _ rfl (fun Q2 k2 => ?_)⟩)
  refine sg_X11_left ?_
  refine q_put h2 (fun I3 h3 m3 => ⟨_, _, rfl, rfl, ?_⟩)
  exact q_seekLeft h3 (by omega) m3.1 m3.2.1 m3.2.2.1 (by rw [m3.2.2.2]; exact (RX_pl h3.1).2.2.1.2.1) (fun I4 h4 => ⟨_, _, _, rfl, rfl, k2 _ (QS_iv h4)⟩)
theorem ca_stay {SL : Nat} {xs : Nat → Int32} {d : Nat} {h : mm_H} {Q : Option Value → mm_H → Prop} {a0 : Int32} (hd : 150 ≤ d) (hiv : iv h) (k : ∀ (r : Int64) (h1 : mm_H), h1.2.1 65 = .inr 9 → (∀ Q2 : Option Value → mm_H → Prop, (∀ h2, iv h2 → Q2 (some (.long r)) h2) → mm_s SL xs d 224 [.ref 65, .int a0] h1 Q2) → Q (some (.long r)) h1) : mm_s SL xs d 127 [.ref 2, .int a0] h Q := by
  obtain ⟨e, rfl⟩ : ∃ e, d = e + 20 := ⟨d - 20, by omega⟩
  obtain ⟨_, _, p, s, q, I, J, rfl, P, bg, x, hR, hM⟩ := hiv
  have hS : QS p s q P bg x I J := ⟨hR, hM⟩
  obtain ⟨z, z1, z2, rfl⟩ := z_of a0
  refine sg_X10_stay ?_
  rw [z_lt (by omega), z_lt (by omega)]
  refine ⟨fun h => k _ _ rfl (fun Q2 k2 => sg_X11_stay ⟨fun _ => k2 _ (QS_iv hS), fun h2 => absurd (by rw [z_lt (by omega)]; exact h) h2⟩), fun h => ⟨fun h2 => ?_, fun h2 => k _ _ rfl (fun Q2 k2 => sg_X11_stay ⟨fun h' => absurd (by rw [z_lt (by omega)] at h'; exact h') h, fun _ => ⟨fun h3 => absurd (by rw [z_le (by omega)] at h3; omega) h2, fun _ => k2 _ (QS_iv hS)⟩⟩)⟩⟩
  obtain ⟨m, rfl⟩ : ∃ m : Nat, z = (m : Int) := ⟨z.toNat, by omega⟩
  refine q_leftOf hS (by omega) (fun I2 J2 h2 t2 => ⟨_, _, _, rfl, rfl, k _ _ rfl (fun Q2 k2 => ?_)⟩)
  refine sg_X11_stay ⟨fun h' => absurd (by rw [z_lt (by omega)] at h'; exact h') h, fun _ => ⟨fun _ => ?_, fun h3 => absurd (by rw [z_le (by omega)]; omega) h3⟩⟩
  refine q_put h2 (fun I3 h3 m3 => ⟨_, _, rfl, rfl, ?_⟩)
  exact q_seekLeft (QK_k (by omega) h3) (by omega) (MT_k (by omega) m3.1) (by rw [mu_ne (by omega)]; exact m3.2.1) (by rw [mu_ne (by omega)]; exact m3.2.2.1) mu_at (fun I4 h4 => ⟨_, _, _, rfl, rfl, k2 _ (QS_iv h4)⟩)
theorem ca_when {SL : Nat} {xs : Nat → Int32} {d : Nat} {h : mm_H} {Q : Option Value → mm_H → Prop} {a0 : Int32} (hd : 150 ≤ d) (hiv : iv h) (k : ∀ (r : Int32) (h1 : mm_H), h1.2.1 65 = .inr 9 → (∀ Q2 : Option Value → mm_H → Prop, (∀ h2, iv h2 → Q2 (some (.int r)) h2) → mm_s SL xs d 218 [.ref 65, .int a0] h1 Q2) → Q (some (.int r)) h1) : mm_s SL xs d 124 [.ref 2, .int a0] h Q := by
  obtain ⟨e, rfl⟩ : ∃ e, d = e + 20 := ⟨d - 20, by omega⟩
  obtain ⟨_, _, p, s, q, I, J, rfl, P, bg, x, hR, hM⟩ := hiv
  have hS : QS p s q P bg x I J := ⟨hR, hM⟩
  obtain ⟨hpp, hip⟩ := RX_p hR
  have hpl := RX_pl hR
  have hP := hpl.1
  have hk := hP.2.2.2.1
  have hn := hP.2.1
  refine sg_X10_when ?_
  refine isPost_c hip hn hpl.2.1.1.1 (fun hpo => ⟨_, _, _, rfl, rfl, fun h => absurd h (by decide), fun _ => ?_⟩) (fun hpo => ⟨_, _, _, rfl, rfl, fun _ => k _ _ rfl (fun Q2 k2 => sg_X11_when ⟨fun _ => k2 _ (QS_iv hS), fun z => absurd (by rw [isPost_m hn hpl.2.2.1.1]; exact hpo) z⟩), fun h => absurd rfl h⟩)
  obtain ⟨t, t1, rfl⟩ := hpo
  have hm0 : ∀ I2 : Nat → Nat → Int32, I2 65 47 = Int32.ofInt (p_n P : Nat) → ∀ J2, ¬ (sy_X11_isPost (Int32.ofInt (t : Nat)) I2 J2 = Int32.ofInt 0) := fun I2 h2 J2 => by rw [isPost_m hn h2]; exact fun z => z ⟨t, t1, rfl⟩
  have eS : sy_X1_standsAt 15 (Int32.ofInt (t : Nat)) I J = zB (c_S x.1 t) := by unfold sy_X1_standsAt; rw [(RX_tr hR).1.1, bs_has _ (by omega)]; rfl
  refine sg_X0_goingOf hip isC_15 ?_
  rw [eS, zB_0, z_lt (by omega), z_lt (by omega)]
  refine ⟨fun h => ⟨_, _, _, rfl, rfl, k _ _ rfl (fun Q2 k2 => sg_X11_when ⟨fun z => absurd z (hm0 I hpl.2.2.1.1 J), fun _ => ⟨z_inN (by omega) (by omega), ?_⟩⟩)⟩, fun h => ⟨fun h2 => absurd h2 (by omega), fun _ => ⟨fun _ => ?_, fun h2 => absurd h2 (by omega)⟩⟩⟩
  · rw [z_ixN (by omega), hM.1.1.1 t (by omega), zB_0, h]; exact ⟨fun _ => k2 _ (QS_iv hS), fun z => absurd rfl z⟩
  · rw [hpl.2.1.1.2.1]
    refine q_leftOf hS (by omega) (fun I2 J2 h2 t2 => ⟨_, _, _, rfl, rfl, z_inN (by omega) (by omega), _, _, _, rfl, rfl, ?_⟩)
    rw [z_ixN (by omega), t2.2.1 t (by omega)]
    refine k _ _ rfl (fun Q2 k2 => sg_X11_when ⟨fun z => absurd z (hm0 I2 (RX_pl h2.1).2.2.1.1 J2), fun _ => ⟨z_inN (by omega) (by omega), ?_⟩⟩)
    rw [z_ixN (by omega), h2.2.1.1.1 t (by omega), zB_0]
    refine ⟨fun z => absurd z h, fun _ => ?_⟩
    refine q_put h2 (fun I3 h3 m3 => ⟨_, _, rfl, rfl, ?_⟩)
    refine q_goOn (ins := 0) (br := 0) (M := 660) (e := p_k P) h3 (by omega) (by omega) (by omega) (by omega) (RX_tw h3.1) m3.1 m3.2.1 m3.2.2.1 (by rw [m3.2.2.2]; exact (RX_pl h3.1).2.2.1.2.1) (fun I4 h4 t4 _ => ⟨_, _, rfl, rfl, ?_⟩)
    rw [mK_0] at t4
    refine q_bring h4 (fun I5 h5 => ⟨_, _, rfl, rfl, ?_⟩)
    rw [t4.2.1 t (by omega)]
    exact k2 _ (QS_iv h5)
/-! MEET -/
def near (P : plT) (c : crT) : Bool := decide (0 ≤ c_f c ∧ 0 ≤ c_e c ∧ ((c_f c - c_e c).natAbs ≤ 1 ∨ ((c_f c - c_e c).natAbs : Int) = (p_n P : Int) - 1))
def mt_ (P : plT) : Nat → trT → Int
  | 0, _ => -1
  | f + 1, x => if sta P x.1 ≤ p_k P then -1 else if near P (gt_ P x (ncn P x.1)).1 then (c_g x.1 + 1 : Int) else mt_ P f (gt_ P x (ncn P x.1))
theorem mt_more {P : plT} {M : Nat} (hP : pw P) : ∀ (f g : Nat) (x : trT), tw P x M → rem_ P x.1 ≤ f → rem_ P x.1 ≤ g → mt_ P f x = mt_ P g x
  | 0, 0, x, hx, h1, h2 => rfl
  | 0, g + 1, x, hx, h1, h2 => by have := sta_rem hx.1; rw [mt_, mt_, if_pos (by omega)]
  | f + 1, 0, x, hx, h1, h2 => by have := sta_rem hx.1; rw [mt_, mt_, if_pos (by omega)]
  | f + 1, g + 1, x, hx, h1, h2 => by
    rw [mt_, mt_]
    by_cases q : sta P x.1 ≤ p_k P
    · rw [if_pos q, if_pos q]
    · have hk := ncn_ok (c := x.1) hP
      have hr : rem_ P (gt_ P x (ncn P x.1)).1 + 1 = rem_ P x.1 := gs_rem (k := ncn P x.1) hP hx.1 (by omega)
      rw [if_neg q, if_neg q, mt_more hP f g _ (gt_tw hP hx (by omega) (by omega)) (by omega) (by omega)]
theorem near_c {P : plT} {c : crT} {M : Nat} {I : Nat → Nat → Int32} {J : Nat → Nat → Int64} (hP : pw P) (hc : cw P c M) (hr : CR 21 c I J) : sy_X0_areNear (Int32.ofInt (p_n P : Nat)) I J = zB (near P c) := by
  obtain ⟨c1, c2, c3, c4, c5, c6, c7, c8, c9, c10⟩ := hc
  have hn := hP.2.1
  have hn1 := hP.1
  unfold sy_X0_areNear near
  rw [hr.2.2.2.1, hr.2.2.2.2.1, z_sub]
  have ea : sx_J9_abs_0f7a4 (Int32.ofInt (c_f c - c_e c)) = Int32.ofInt (((c_f c - c_e c).natAbs : Nat) : Int) := by
    unfold sx_J9_abs_0f7a4
    by_cases q : 0 ≤ c_f c - c_e c
    · rw [if_pos (by rw [z_0, z_le (by omega)]; exact q)]; congr 1; omega
    · rw [if_neg (by rw [z_0, z_le (by omega)]; exact q), z_neg]; congr 1; omega
  rw [ea, z_m1 hn1]
  by_cases a : c_f c = -1
  · rw [if_pos (by rw [a]), decide_eq_false (by omega)]; rfl
  · rw [if_neg (by rw [z_eq (by omega)]; exact a)]
    by_cases b : c_e c = -1
    · rw [if_pos (by rw [b]), decide_eq_false (by omega)]; rfl
    · rw [if_neg (by rw [z_eq (by omega)]; exact b)]
      by_cases e : (c_f c - c_e c).natAbs ≤ 1
      · rw [if_pos (by rw [z_le (by omega)]; omega), decide_eq_true (by omega)]; rfl
      · rw [if_neg (by rw [z_le (by omega)]; omega)]
        by_cases g : ((c_f c - c_e c).natAbs : Int) = (p_n P : Int) - 1
        · rw [if_pos (by rw [z_eq (by omega)]; omega), decide_eq_true (by omega)]; rfl
        · rw [if_neg (by rw [z_eq (by omega)]; omega), decide_eq_false (by omega)]; rfl
section
variable {SL : Nat} {xs : Nat → Int32} {d : Nat} {p s q : Nat} {Q : Option Value → mm_H → Prop} {P : plT}
theorem near_m {c : crT} {M : Nat} {I : Nat → Nat → Int32} {J : Nat → Nat → Int64} (hP : pw P) (hc : cw P c M) (h47 : I 65 47 = Int32.ofInt (p_n P : Nat)) (hr : MR P c I) (kq : Q (some (.int (zB (near P c)))) (hp p s q I J)) : mm_s SL xs (d + 1) 225 [.ref 65] (hp p s q I J) Q := by
  obtain ⟨c1, c2, c3, c4, c5, c6, c7, c8, c9, c10⟩ := hc
  have hn := hP.2.1
  have hn1 := hP.1
  have z0 : (Int32.ofInt 0).toNatClampNeg = 0 := z_ixN (t := 0) (by omega)
  have z1 : (Int32.ofInt 1).toNatClampNeg = 1 := z_ixN (t := 1) (by omega)
  refine sg_X11_areNear ⟨z_inN (t := 0) (by omega) (by omega), ?_⟩
  unfold near at kq
  rw [z0, z1, hr.2.2.2.2.2.2.2.1, hr.2.2.2.2.2.2.2.2, h47, z_m1 hn1, z_sub, z_sub, z_lt (by omega), z_le (by omega), z_le (by omega), z_le (by omega), z_le (by omega), z_eq (by omega), z_eq (by omega)]
  refine ⟨fun h => ?_, fun h => ⟨z_inN (t := 1) (by omega) (by omega), fun h2 => ⟨fun h3 => ⟨fun h4 => ?_, fun h4 => ⟨fun h5 => ?_, fun h5 => ?_⟩⟩, fun h3 => ⟨fun h4 => ?_, fun h4 => ⟨fun h5 => ?_, fun h5 => ?_⟩⟩⟩, fun h2 => ?_⟩⟩
  · rw [decide_eq_false (by omega)] at kq; exact kq
  · rw [decide_eq_true (by omega)] at kq; exact kq
  · rw [decide_eq_true (by omega)] at kq; exact kq
  · rw [decide_eq_false (by omega)] at kq; exact kq
  · rw [decide_eq_true (by omega)] at kq; exact kq
  · rw [decide_eq_true (by omega)] at kq; exact kq
  · rw [decide_eq_false (by omega)] at kq; exact kq
  · rw [decide_eq_false (by omega)] at kq; exact kq
theorem meet_c {bg : Nat} {x : trT} (hP : pw P) : ∀ (f i : Nat) (y : trT) (I : Nat → Nat → Int32) (J : Nat → Nat → Int64), i + f = 1000 → tw P y 660 → QS p s q P bg x I J → TR 21 y I J → (∀ I2 J2, QS p s q P bg x I2 J2 → Q (some (.int (Int32.ofInt (mt_ P f y)))) (hp p s q I2 J2)) → w_X0_meeting_20 SL xs d p s q Q p 15 (Int32.ofInt (i : Nat)) I J
  | 0, i, y, I, J, hf, hy, h, t, kq => by
    refine sg_X0_meeting_20 (RX_p h.1).2 ⟨fun _ => kq I J h, fun h2 => ?_⟩
    rw [z_le (by omega)] at h2; omega
  | f + 1, i, y, I, J, hf, hy, h, t, kq => by
    have hsn : sta P y.1 ≤ p_n P := fb_ct_le _ _
    have hn := hP.2.1
    have hkk := hP.2.2.2.1
    have hg := hy.1.2.2.2.2.2.2.2.2.2
    rw [mt_] at kq
    refine sg_X0_meeting_20 (RX_p h.1).2 ?_
    rw [sta_c hP hy.1 t.1, (RX_pl h.1).2.1.1.2.1, z_le (by omega), z_le (by omega)]
    refine ⟨fun h2 => absurd h2 (by omega), fun _ => ⟨fun h2 => ?_, fun h2 => ?_⟩⟩
    · rw [if_pos (by omega)] at kq; exact kq I J h
    · rw [if_neg (by omega)] at kq
      refine c_step isC_21 (RX_p h.1).2 hP hy (by omega) (by omega) (RX_pl h.1).2.1 t (fun I2 J2 g1 g2 => ⟨_, _, rfl, rfl, ?_⟩)
      have hk := ncn_ok (c := y.1) hP
      have h3 := QS_g (Or.inl rfl) g1 h
      have hy2 := gt_tw (k := ncn P y.1) hP hy (by omega) (by omega)
      rw [(RX_pl h3.1).2.1.1.1, near_c hP hy2.1 g2.1, zB_0, z_p1]
      refine ⟨fun h4 => ?_, fun h4 => ?_⟩
      · rw [h4] at kq
        exact meet_c hP f (i + 1) _ I2 J2 (by omega) hy2 h3 g2 kq
      · have h4 : near P (gt_ P y (ncn P y.1)).1 = true := by simpa using h4
        rw [h4, if_pos rfl] at kq
        rw [g2.1.2.2.1]
        exact kq I2 J2 h3
theorem meet_m {bg : Nat} {x : trT} (hP : pw P) : ∀ (f : Nat) (y : trT) (I : Nat → Nat → Int32) (J : Nat → Nat → Int64), tw P y 660 → rem_ P y.1 ≤ f → QK p s q P bg x I J → MX P y I → (∀ I2 : Nat → Nat → Int32, QS p s q P bg x I2 J → Q (some (.int (Int32.ofInt (mt_ P f y)))) (hp p s q I2 J)) → w_X11_meet_15 SL xs d p s q Q (Int32.ofInt (-1)) I J
  | 0, y, I, J, hy, hr, h, t, kq => by
    have := sta_rem hy.1
    have hkk := hP.2.2.2.1
    have h78 : I 65 78 = Int32.ofInt (p_k P : Nat) := by rw [t.2.2.2]; exact (RX_pl h.1).2.2.1.2.1
    refine sg_X11_meet_15 ?_
    rw [ended_z (J := J) hP t.1.1.2.2.1 h78 (by omega)]
    exact ⟨fun h => absurd (by omega) h, fun _ => q_bring h (fun I2 h2 => ⟨_, _, rfl, rfl, kq I2 h2⟩)⟩
  | f + 1, y, I, J, hy, hr, h, t, kq => by
    have hkk := hP.2.2.2.1
    have hg := hy.1.2.2.2.2.2.2.2.2.2
    have h78 : I 65 78 = Int32.ofInt (p_k P : Nat) := by rw [t.2.2.2]; exact (RX_pl h.1).2.2.1.2.1
    rw [mt_] at kq
    refine sg_X11_meet_15 ?_
    rw [ended_z (J := J) hP t.1.1.2.2.1 h78 (by omega)]
    refine ⟨fun h2 => ⟨fun h3 => absurd h3 (by decide), fun _ => ?_⟩, fun h2 => q_bring h (fun I2 h3 => ⟨_, _, rfl, rfl, by rw [if_pos (by omega)] at kq; exact kq I2 h3⟩)⟩
    rw [if_neg h2] at kq
    refine m_step (ins := 0) (br := 0) (M := 660) hP hy (by omega) (by omega) (RX_pl h.1).2.2.1 t.1 t.2.1 (by omega) t.2.2.1 (by omega) (fun I2 g1 g2 => ⟨_, _, rfl, rfl, ?_⟩)
    rw [mK_0] at g2
    have hk := ncn_ok (c := y.1) hP
    have hr2 : rem_ P (gt_ P y (ncn P y.1)).1 + 1 = rem_ P y.1 := gs_rem (k := ncn P y.1) hP hy.1 (by omega)
    have hy2 := gt_tw (k := ncn P y.1) hP hy (by omega) (by omega)
    have h3 := QK_m g1 h
    have t3 : MX P (gt_ P y (ncn P y.1)) I2 := ⟨g2, by rw [g1.2 76 (by omega)]; exact t.2.1, by rw [g1.2 77 (by omega)]; exact t.2.2.1, by rw [g1.2 78 (by omega), g1.2 49 (by omega)]; exact t.2.2.2⟩
    refine near_m hP hy2.1 (RX_pl h3.1).2.2.1.1 g2.1 ⟨_, _, _, rfl, rfl, ?_⟩
    rw [zB_0]
    refine ⟨fun h4 => ?_, fun h4 => ?_⟩
    · rw [h4] at kq
      exact meet_m hP f _ I2 J hy2 (by omega) h3 t3 kq
    · have h4 : near P (gt_ P y (ncn P y.1)).1 = true := by simpa using h4
      rw [h4, if_pos rfl] at kq
      have e60 : I2 65 60 = Int32.ofInt ((c_g y.1 + 1 : Nat) : Int) := g2.1.2.2.2.1
      have h78' : I2 65 78 = Int32.ofInt (p_k P : Nat) := by rw [t3.2.2.2]; exact (RX_pl h3.1).2.2.1.2.1
      refine sg_X11_meet_15 ?_
      rw [ended_z (J := J) hP t3.1.1.2.2.1 h78' (by omega), e60, z_le (by omega)]
      exact ⟨fun _ => ⟨fun _ => q_bring h3 (fun I4 h5 => ⟨_, _, rfl, rfl, kq I4 h5⟩), fun h5 => absurd (by omega) h5⟩, fun _ => q_bring h3 (fun I4 h5 => ⟨_, _, rfl, rfl, kq I4 h5⟩)⟩
end
theorem ca_meet {SL : Nat} {xs : Nat → Int32} {d : Nat} {h : mm_H} {Q : Option Value → mm_H → Prop}  (hd : 150 ≤ d) (hiv : iv h) (k : ∀ (r : Int32) (h1 : mm_H), h1.2.1 65 = .inr 9 → (∀ Q2 : Option Value → mm_H → Prop, (∀ h2, iv h2 → Q2 (some (.int r)) h2) → mm_s SL xs d 226 [.ref 65] h1 Q2) → Q (some (.int r)) h1) : mm_s SL xs d 128 [.ref 2] h Q := by
  obtain ⟨e, rfl⟩ : ∃ e, d = e + 20 := ⟨d - 20, by omega⟩
  obtain ⟨_, _, p, s, q, I, J, rfl, P, bg, x, hR, hM⟩ := hiv
  have hS : QS p s q P bg x I J := ⟨hR, hM⟩
  obtain ⟨hpp, hip⟩ := RX_p hR
  have hpl := RX_pl hR
  have hP := hpl.1
  have hpb := hP.2.2.2.2.2.2.1
  have hpb2 := hP.2.2.2.2.2.2.2.1
  have hn := hP.2.1
  refine sg_X10_meet ?_
  refine sg_X0_meeting hip ?_
  rw [hpl.2.1.1.2.2.2.2.1, z_eq (by omega)]
  refine ⟨fun h => ⟨_, _, _, rfl, rfl, k _ _ rfl (fun Q2 k2 => sg_X11_meet ⟨fun h2 => ?_, fun _ => k2 _ (QS_iv hS)⟩)⟩, fun h => ?_⟩
  · rw [hpl.2.2.1.2.2.2.2.1, z_le (by omega)] at h2; omega
  · refine c_copyFrom isC_21 isC_15 (by omega) (fun I1 J1 f1 _ t1 => ⟨_, _, rfl, rfl, ?_⟩)
    refine meet_c hP 1000 0 x I1 J1 rfl (RX_tw hR) (QS_c (Or.inl rfl) f1 hS) (t1 x (RX_tr hR)) (fun I2 J2 h2 => ⟨_, _, _, rfl, rfl, k _ _ rfl (fun Q2 k2 => sg_X11_meet ⟨fun _ => ?_, fun h3 => ?_⟩)⟩)
    · refine q_put h2 (fun I3 h3 m3 => ⟨_, _, rfl, rfl, ?_⟩)
      have hr : rem_ P x.1 ≤ 1000 := by have := (RX_tw hR).1.2.2.2.2.2.2.2.2.2; omega
      exact meet_m hP 1000 x I3 J2 (RX_tw hR) hr h3 m3 (fun I4 h4 => k2 _ (QS_iv h4))
    · exact absurd (by rw [(RX_pl h2.1).2.2.1.2.2.2.2.1, z_le (by omega)]; omega) h3
