/-! JUDGED, BEGINS, LATE, BRIBE -/
def fw_ (L : Nat × (Nat → Nat)) (o : Nat → Int32) : Nat → Nat → Int
  | 0, _ => -1
  | f + 1, i => if i < L.1 ∧ Int32.ofInt (L.2 i : Nat) = o i then fw_ L o f (i + 1) else (i : Int)
section
variable {SL : Nat} {xs : Nat → Int32} {d : Nat} {p s q : Nat} {Q : Option Value → mm_H → Prop} {P : plT} {bg : Nat} {x : trT}
theorem fw_c {l : Nat} {L : Nat × (Nat → Nat)} {I : Nat → Nat → Int32} {J : Nat → Nat → Int64} (hl : l ≤ 60) (h29 : I 29 1 = Int32.ofInt (l : Nat)) (hL : CL 21 L I) : ∀ (f i : Nat), i + f = l → Q (some (.int (Int32.ofInt (fw_ L (I 30) f i)))) (hp p s q I J) → w_X3_firstWrong_2 SL xs d p s q Q 21 (Int32.ofInt (i : Nat)) I J
  | 0, i, hf, kq => by
    refine sg_X3_firstWrong_2 isC_21 ⟨fun _ => kq, fun h => ?_⟩
    rw [h29, z_le (by omega)] at h; omega
  | f + 1, i, hf, kq => by
    have hl1 := hL.1
    rw [fw_] at kq
    refine sg_X3_firstWrong_2 isC_21 ?_
    rw [h29, hL.2.1, z_le (by omega), z_le (by omega), z_le (by omega), z_ixN (by omega), z_p1]
    refine ⟨fun h => absurd h (by omega), fun _ => ⟨fun h => absurd h (by omega), fun _ => ⟨fun h => ?_, fun h => ⟨z_inN (by omega) (by omega), fun h2 => ?_, fun h2 => ?_⟩⟩⟩⟩
    · rw [if_neg (by omega)] at kq; exact kq
    · rw [if_pos ⟨by omega, by rw [← hL.2.2 i (by omega)]; exact h2⟩] at kq
      exact fw_c hl h29 hL f (i + 1) (by omega) kq
    · rw [if_neg (fun z => h2 (by rw [← z.2, ← hL.2.2 i z.1]))] at kq; exact kq
theorem fw_m {l : Nat} {L : Nat × (Nat → Nat)} {o : Nat → Int32} {I : Nat → Nat → Int32} {J : Nat → Nat → Int64} (h : QK p s q P bg x I J) (hl : l ≤ 60) (h80 : I 65 80 = Int32.ofInt (l : Nat)) (hL : ML L I) (ho : ∀ i, i < l → I 97 i = o i) : ∀ (f i : Nat), i + f = l → (∀ I2 : Nat → Nat → Int32, QS p s q P bg x I2 J → Q (some (.int (Int32.ofInt (fw_ L o f i)))) (hp p s q I2 J)) → w_X11_judge_20 SL xs d p s q Q (Int32.ofInt (-1)) (Int32.ofInt (i : Nat)) I J
  | 0, i, hf, kq => by
    refine sg_X11_judge_20 ⟨fun _ => q_bring h (fun I2 h2 => ⟨_, _, rfl, rfl, kq I2 h2⟩), fun h2 => ?_⟩
    rw [h80, z_le (by omega)] at h2; omega
  | f + 1, i, hf, kq => by
    have hl1 := hL.1
    have stop : ∀ (hk : ∀ I2 : Nat → Nat → Int32, QS p s q P bg x I2 J → Q (some (.int (Int32.ofInt (i : Nat)))) (hp p s q I2 J)), w_X11_judge_20 SL xs d p s q Q (Int32.ofInt (i : Nat)) (Int32.ofInt ((i + 1 : Nat) : Int)) I J := by
      intro hk
      refine sg_X11_judge_20 ⟨fun _ => q_bring h (fun I2 h2 => ⟨_, _, rfl, rfl, hk I2 h2⟩), fun h2 => ⟨fun _ => q_bring h (fun I2 h2 => ⟨_, _, rfl, rfl, hk I2 h2⟩), fun h3 => ?_⟩⟩
      rw [z_le (by omega)] at h3; omega
    rw [fw_] at kq
    refine sg_X11_judge_20 ?_
    rw [h80, hL.2.1, z_le (by omega), z_le (by omega), z_le (by omega), z_ixN (by omega), z_p1]
    refine ⟨fun h => absurd h (by omega), fun _ => ⟨fun h => absurd h (by decide), fun _ => ⟨fun h2 => ?_, fun h2 => ⟨z_inN (by omega) (by omega), fun h3 => ?_, fun h3 => ?_⟩⟩⟩⟩
    · rw [if_neg (by omega)] at kq; exact stop kq
    · rw [if_pos ⟨by omega, by rw [← hL.2.2 i (by omega), ← ho i (by omega)]; exact h3⟩] at kq
      exact fw_m h hl h80 hL ho f (i + 1) (by omega) kq
    · rw [if_neg (fun z => h3 (by rw [hL.2.2 i z.1, ho i (by omega)]; exact z.2))] at kq
      exact stop kq
end
theorem ca_judge {SL : Nat} {xs : Nat → Int32} {d : Nat} {h : mm_H} {Q : Option Value → mm_H → Prop}  (hd : 150 ≤ d) (hiv : iv h) (k : ∀ (r : Int32) (h1 : mm_H), h1.2.1 65 = .inr 9 → (∀ Q2 : Option Value → mm_H → Prop, (∀ h2, iv h2 → Q2 (some (.int r)) h2) → mm_s SL xs d 232 [.ref 65] h1 Q2) → Q (some (.int r)) h1) : mm_s SL xs d 133 [.ref 2] h Q := by
  obtain ⟨e, rfl⟩ : ∃ e, d = e + 20 := ⟨d - 20, by omega⟩
  obtain ⟨_, _, p, s, q, I, J, rfl, P, bg, x, hR, hM⟩ := hiv
  have hS : QS p s q P bg x I J := ⟨hR, hM⟩
  obtain ⟨hpp, hip⟩ := RX_p hR
  have hpl := RX_pl hR
  have hP := hpl.1
  have hkk := hP.2.2.2.1
  obtain ⟨l, l1, l2, l3, l4⟩ := hR.2.2.2.2.2.1
  have hft := fre_tw hP hpl.2.2.2.1
  refine sg_X10_judge ?_
  refine sg_X0_wholeCourse hip ?_
  rw [hpl.2.2.2.2.1]
  refine c_startFrom isC_21 hip hP hpl.2.1.1.1 (fun I1 J1 f1 t1 => ⟨_, _, rfl, rfl, ?_⟩)
  have h1 := QS_c (Or.inl rfl) f1 hS
  rw [(RX_pl h1.1).2.1.1.2.1]
  refine c_goOn (M := 660) (most := 1000) isC_21 hip hP (by omega) (by omega) (by omega) hft (RX_pl h1.1).2.1 t1 (fun I2 J2 f2 t2 => ⟨_, _, _, rfl, rfl, _, _, _, rfl, rfl, ?_⟩)
  have h2 := QS_g (Or.inl rfl) f2 h1
  have e29 : I2 29 = I 29 := by rw [f2.1 29 (by omega) (by omega), f1.1 29 (by omega)]
  have e30 : I2 30 = I 30 := by rw [f2.1 30 (by omega) (by omega), f1.1 30 (by omega)]
  have e97 : I2 97 = I 97 := by rw [f2.1 97 (by omega) (by omega), f1.1 97 (by omega)]
  have e65 : I2 65 = I 65 := by rw [f2.1 65 (by omega) (by omega), f1.1 65 (by omega)]
  refine sg_X3_firstWrong (fw_c l1 (by rw [e29]; exact l2) t2.2.2 l 0 (Nat.zero_add l) ⟨_, _, _, rfl, rfl, k _ _ rfl (fun Q2 k2 => ?_)⟩)
  refine sg_X11_judge ?_
  refine m_put h2.2.1 (fun I3 f3 g3 => ⟨_, _, rfl, rfl, ?_⟩)
  have h3 : QK p s q P bg x I3 J2 := ⟨RX_f (Fq_p f3) h2.1, g3⟩
  rw [(RX_pl h3.1).2.2.2.2.2.1]
  refine m_fresh hP (RX_pl h3.1).2.2.1.1 (fun I4 f4 g4 k78 k76 k77 => ⟨_, _, rfl, rfl, ?_⟩)
  have h4 := QK_b f4 h3
  refine q_goOn (ins := 0) (br := 0) (M := 660) (e := p_k P) h4 (by omega) (by omega) (by omega) (by omega) hft g4 k76 k77 (by rw [k78]; exact (RX_pl h3.1).2.2.1.2.1) (fun I5 h5 t5 f5 => ⟨_, _, rfl, rfl, ?_⟩)
  rw [mK_0] at t5
  refine fw_m (o := I2 30) h5 l1 ?_ t5.2.2 (fun i hi => ?_) l 0 (Nat.zero_add l) (fun I6 h6 => k2 _ (QS_iv h6))
  · rw [f5.2 80 (by omega), f4.2 80 (by omega), f3.2 80 (by omega), e65]; exact l3
  · rw [f5.1 97 (by omega) (by omega) (by omega) (by omega), f4.1 97 (by omega) (by omega), f3.1 97 (by omega) (by omega), e97, e30]
    obtain ⟨v, _, v2, v3⟩ := l4 i hi
    rw [v2, v3]
section
variable {SL : Nat} {xs : Nat → Int32} {d : Nat} {p s q : Nat} {Q : Option Value → mm_H → Prop} {P : plT} {bg : Nat} {x : trT}
theorem c_stepc {o a M : Nat} {y : trT} {I : Nat → Nat → Int32} {J : Nat → Nat → Int64} (ho : isC o) (ha : isP a) (hP : pw P) (hc : cw P y.1 M) (hM : M ≤ 900) (hs : 0 < sta P y.1) (hpa : PA a P I J) (ht : TR o y I J) (kq : ∀ I2 J2, FrG o a I I2 J J2 → TR o (gt_ P y (ncn P y.1)) I2 J2 → Q none (hp p s q I2 J2)) : mm_s SL xs (d + 5) 20 [.ref o, .ref a] (hp p s q I J) (fun r_ h_ => ∃ x1 I1 J1, r_ = some (.int x1) ∧ h_ = hp p s q I1 J1 ∧ (mm_s SL xs (d + 5) 21 [.ref o, .ref a, .int x1] (hp p s q I1 J1) Q)) := by
  have hk := ncn_ok (c := y.1) hP
  have hao := ne_ac ha ho
  refine c_nextCount ho ha hP hc hpa.2 ht.1 (fun I1 h1 => ⟨_, _, _, rfl, rfl, ?_⟩)
  have f1 : FrG o a I I1 J J := FrG_n h1
  obtain ⟨t1, t2, t3⟩ := TR_c (J2 := J) (fun r a b => h1 r (by omega)) rfl ht
  exact c_goOnce ho ha hP hc hs hM hk.1 (by omega) (PA_g ho ha f1 hpa).1 t1 t2 t3 (fun I2 J2 g1 g2 g3 g4 => kq I2 J2 (FrG_t f1 (FrG_c g1)) ⟨g2, g3, g4⟩)
theorem stands_z {o t : Nat} {c : crT} {I : Nat → Nat → Int32} {J : Nat → Nat → Int64} (hr : CR o c I J) (ht : t < 60) : sy_X1_standsAt o (Int32.ofInt (t : Nat)) I J = zB (c_S c t) := by
  unfold sy_X1_standsAt; rw [hr.1, bs_has _ ht]; rfl
theorem trial_loop {t M : Nat} (hP : pw P) (hM : M ≤ 900) (ht : t < 60) : ∀ (f i : Nat) (y : trT) (I : Nat → Nat → Int32) (J : Nat → Nat → Int64), i + f = 1000 → cw P y.1 M → QS p s q P bg x I J → TR 25 y I J → (∀ I2 J2, QS p s q P bg x I2 J2 → FrG 25 p I I2 J J2 → Q (some (.int (zB (c_S (run P (nK P) (p_k P) f y).1 t)))) (hp p s q I2 J2)) → w_X0_trialKeeps_2 SL xs d p s q Q p (Int32.ofInt (t : Nat)) (Int32.ofInt (i : Nat)) I J
  | 0, i, y, I, J, hf, hy, h, tr, kq => by
    refine sg_X0_trialKeeps_2 (RX_p h.1).2 ⟨fun _ => ?_, fun h2 => ?_⟩
    · rw [stands_z tr.1 ht]; exact kq I J h (FrG_r 25 p I J)
    · rw [z_le (by omega)] at h2; omega
  | f + 1, i, y, I, J, hf, hy, h, tr, kq => by
    have hsn : sta P y.1 ≤ p_n P := fb_ct_le _ _
    have hn := hP.2.1
    have hkk := hP.2.2.2.1
    refine sg_X0_trialKeeps_2 (RX_p h.1).2 ?_
    rw [sta_c hP hy tr.1, (RX_pl h.1).2.1.1.2.1, stands_z tr.1 ht, zB_0, z_le (by omega), z_le (by omega)]
    refine ⟨fun h2 => absurd h2 (by omega), fun _ => ⟨fun h2 => ?_, fun h2 => ⟨fun h3 => ?_, fun h3 => ?_⟩⟩⟩
    · have := kq I J h (FrG_r 25 p I J)
      rw [run_end (by omega)] at this
      exact this
    · have := kq I J h (FrG_r 25 p I J)
      rw [run_S (f + 1) y h3] at this
      exact this
    · refine c_stepc isC_25 (RX_p h.1).2 hP hy hM (by omega) (RX_pl h.1).2.1 tr (fun I2 J2 g1 g2 => ⟨_, _, rfl, rfl, ?_⟩)
      have hk := ncn_ok (c := y.1) hP
      rw [z_p1]
      refine trial_loop hP hM ht f (i + 1) _ I2 J2 (by omega) (gs_cw hP hy (by omega) (by omega)) (QS_g (Or.inr rfl) g1 h) g2 (fun I3 J3 h4 g3 => ?_)
      have := kq I3 J3 h4 (FrG_t g1 g3)
      rw [run_go (by omega)] at this
      exact this
theorem c_trial {t M : Nat} {y : trT} {I : Nat → Nat → Int32} {J : Nat → Nat → Int64} (hM : M ≤ 900) (ht : t < 60) (hy : cw P y.1 M) (h : QS p s q P bg x I J) (tr : TR 25 y I J) (kq : ∀ I2 J2, QS p s q P bg x I2 J2 → FrG 25 p I I2 J J2 → Q (some (.int (zB (c_S (run P (nK P) (p_k P) 1000 y).1 t)))) (hp p s q I2 J2)) : mm_s SL xs (d + 6) 5 [.ref 20, .ref p, .int (Int32.ofInt (t : Nat))] (hp p s q I J) Q :=
  sg_X0_trialKeeps (trial_loop (RX_pl h.1).1 hM ht 1000 0 y I J rfl hy h tr kq)
/-- a bit more -/
theorem bs_more {F : Nat → Bool} {j : Nat} (hj : j < 60) : (F j = false → bs (fun b => decide (b < j) && F b) = bs (fun b => decide (b < j + 1) && F b)) ∧ (F j = true → bs (fun b => decide (b < j) && F b) ||| bs (fun i => decide (i = j)) = bs (fun b => decide (b < j + 1) && F b)) := by
  constructor
  · intro h
    refine bs_cong (fun i _ => ?_)
    by_cases e : i = j
    · rw [e, h, Bool.and_false, Bool.and_false]
    · congr 1; simp; omega
  · intro h
    rw [bs_or]
    refine bs_cong (fun i _ => ?_)
    by_cases e : i = j
    · rw [e, h]; simp
    · rw [decide_eq_false e, Bool.or_false]; congr 1; simp; omega
def begF (P : plT) (t b : Nat) : Bool := c_S (run P (nK P) (p_k P) 1000 (fr3 P b)).1 t
theorem begins_c {t : Nat} (ht : t < 60) : ∀ (f j : Nat) (I : Nat → Nat → Int32) (J : Nat → Nat → Int64), j + f = p_n P → QS p s q P bg x I J → (∀ I2 J2, QS p s q P bg x I2 J2 → Q (some (.long (bs (fun b => decide (b < p_n P) && begF P t b)))) (hp p s q I2 J2)) → w_X0_beginsFor_5 SL xs d p s q Q p (Int32.ofInt (t : Nat)) (bs (fun b => decide (b < j) && begF P t b)) (Int32.ofInt (j : Nat)) I J
  | 0, j, I, J, hf, h, kq => by
    have hP := (RX_pl h.1).1
    have hn := hP.2.1
    obtain rfl : j = p_n P := by omega
    refine sg_X0_beginsFor_5 (RX_p h.1).2 ⟨fun _ => kq I J h, fun h2 => ?_⟩
    rw [(RX_pl h.1).2.1.1.1, z_le (by omega)] at h2; omega
  | f + 1, j, I, J, hf, h, kq => by
    have hP := (RX_pl h.1).1
    have hn := hP.2.1
    refine sg_X0_beginsFor_5 (RX_p h.1).2 ⟨fun h2 => ?_, fun _ => ?_⟩
    · rw [(RX_pl h.1).2.1.1.1, z_le (by omega)] at h2; omega
    · refine c_startFrom isC_25 (RX_p h.1).2 hP (RX_pl h.1).2.1.1.1 (fun I1 J1 f1 t1 => ⟨_, _, rfl, rfl, ?_⟩)
      have h1 := QS_c (Or.inr rfl) f1 h
      refine c_trial (M := 660) (by omega) ht (fre_tw hP (by omega)).1 h1 t1 (fun I2 J2 h2 _ => ⟨_, _, _, rfl, rfl, ?_⟩)
      rw [zB_0, z_p1, bs_one (by omega)]
      obtain ⟨m0, m1⟩ := bs_more (F := begF P t) (j := j) (by omega)
      refine ⟨fun h3 => ?_, fun h3 => ?_⟩
      · rw [m0 h3]; exact begins_c ht f (j + 1) I2 J2 (by omega) h2 kq
      · rw [m1 ((Bool.not_eq_false _).mp h3)]; exact begins_c ht f (j + 1) I2 J2 (by omega) h2 kq
theorem begins_m {t : Nat} (ht : t < 60) : ∀ (f j : Nat) (I : Nat → Nat → Int32) (J : Nat → Nat → Int64), j + f = p_n P → QK p s q P bg x I J → (∀ I2 : Nat → Nat → Int32, QS p s q P bg x I2 J → Q (some (.long (bs (fun b => decide (b < p_n P) && begF P t b)))) (hp p s q I2 J)) → w_X11_begins_21 SL xs d p s q Q (Int32.ofInt (t : Nat)) (bs (fun b => decide (b < j) && begF P t b)) (Int32.ofInt (j : Nat)) I J
  | 0, j, I, J, hf, h, kq => by
    have hP := (RX_pl h.1).1
    have hn := hP.2.1
    obtain rfl : j = p_n P := by omega
    refine sg_X11_begins_21 ⟨fun _ => q_bring h (fun I2 h2 => ⟨_, _, rfl, rfl, kq I2 h2⟩), fun h2 => ?_⟩
    rw [(RX_pl h.1).2.2.1.1, z_le (by omega)] at h2; omega
  | f + 1, j, I, J, hf, h, kq => by
    have hP := (RX_pl h.1).1
    have hn := hP.2.1
    have hkk := hP.2.2.2.1
    refine sg_X11_begins_21 ⟨fun h2 => ?_, fun _ => ?_⟩
    · rw [(RX_pl h.1).2.2.1.1, z_le (by omega)] at h2; omega
    · refine q_fresh h (fun I2 h2 m2 => ⟨_, _, rfl, rfl, ?_⟩)
      refine q_goOn (ins := 0) (br := 0) (M := 660) (e := p_k P) h2 (by omega) (by omega) (by omega) (by omega) (fre_tw hP (by omega)) m2.1 m2.2.1 m2.2.2.1 (by rw [m2.2.2.2]; exact (RX_pl h2.1).2.2.1.2.1) (fun I3 h3 t3 _ => ⟨_, _, rfl, rfl, z_inN (by omega) (by omega), ?_⟩)
      rw [mK_0] at t3
      rw [z_ixN (by omega), t3.1.1 t ht, zB_0, z_p1, bs_or0, bs_sh (by omega)]
      obtain ⟨m0, m1⟩ := bs_more (F := begF P t) (j := j) (by omega)
      refine ⟨fun h4 => ?_, fun h4 => ?_⟩
      · rw [m0 h4]; exact begins_m ht f (j + 1) I3 J (by omega) h3 kq
      · rw [m1 ((Bool.not_eq_false _).mp h4)]; exact begins_m ht f (j + 1) I3 J (by omega) h3 kq
theorem bs_none {F : Nat → Bool} : bs (fun b => decide (b < 0) && F b) = Int64.ofInt 0 := by
  rw [← bs_0]; exact bs_cong (fun i _ => by simp)
end
theorem ca_begins {SL : Nat} {xs : Nat → Int32} {d : Nat} {h : mm_H} {Q : Option Value → mm_H → Prop} {a0 : Int32} (hd : 150 ≤ d) (hiv : iv h) (k : ∀ (r : Int64) (h1 : mm_H), h1.2.1 65 = .inr 9 → (∀ Q2 : Option Value → mm_H → Prop, (∀ h2, iv h2 → Q2 (some (.long r)) h2) → mm_s SL xs d 227 [.ref 65, .int a0] h1 Q2) → Q (some (.long r)) h1) : mm_s SL xs d 129 [.ref 2, .int a0] h Q := by
  obtain ⟨e, rfl⟩ : ∃ e, d = e + 20 := ⟨d - 20, by omega⟩
  obtain ⟨_, _, p, s, q, I, J, rfl, P, bg, x, hR, hM⟩ := hiv
  have hS : QS p s q P bg x I J := ⟨hR, hM⟩
  obtain ⟨hpp, hip⟩ := RX_p hR
  have hpl := RX_pl hR
  have hP := hpl.1
  have hn := hP.2.1
  refine sg_X10_begins ?_
  refine isPost_c hip hn hpl.2.1.1.1 (fun hpo => ⟨_, _, _, rfl, rfl, fun h => absurd h (by decide), fun _ => ?_⟩) (fun hpo => ⟨_, _, _, rfl, rfl, fun _ => k _ _ rfl (fun Q2 k2 => sg_X11_begins ⟨fun _ => k2 _ (QS_iv hS), fun z => absurd (by rw [isPost_m hn hpl.2.2.1.1]; exact hpo) z⟩), fun h => absurd rfl h⟩)
  obtain ⟨t, t1, rfl⟩ := hpo
  refine sg_X0_beginsFor ?_
  rw [← bs_none (F := begF P t)]
  refine begins_c (by omega) (p_n P) 0 I J (Nat.zero_add _) hS (fun I2 J2 h2 => ⟨_, _, _, rfl, rfl, k _ _ rfl (fun Q2 k2 => sg_X11_begins ⟨fun z => absurd z (by rw [isPost_m hn (RX_pl h2.1).2.2.1.1]; exact fun z => z ⟨t, t1, rfl⟩), fun _ => ?_⟩)⟩)
  refine q_put h2 (fun I3 h3 m3 => ⟨_, _, rfl, rfl, ?_⟩)
  rw [← bs_none (F := begF P t)]
  exact begins_m (by omega) (p_n P) 0 I3 J2 (Nat.zero_add _) h3 (fun I4 h4 => k2 _ (QS_iv h4))
/-! LATE -/
def come (y : crT) (t : Nat) : crT := ((fun i => if i = t then true else c_S y i), (fun i => if i = t then 0 else c_H y i), c_g y, c_f y, c_e y, c_l y, c_b y)
theorem come_rem {P : plT} {c : crT} {t : Nat} (ht : t < p_n P) (hS : c_S c t = false) : rem_ P (come c t) = rem_ P c + nd P t := by
  have h0 : rem_f P c t = 0 := by unfold rem_f; rw [hS]; rfl
  have := fb_sm_upd (rem_f P c) (nd P t) ht
  have e : rem_ P (come c t) = fb_sm (fun i => if i = t then nd P t else rem_f P c i) (p_n P) := by
    unfold rem_
    apply fb_sm_cong
    intro i hi
    unfold rem_f
    show (if (if i = t then true else c_S c i) = true then nd P i - (if i = t then 0 else c_H c i) else 0) = _
    by_cases q : i = t
    · rw [if_pos q, if_pos q, if_pos q, q]; rfl
    · rw [if_neg q, if_neg q, if_neg q]
  rw [e]
  unfold rem_
  omega
theorem come_sta {P : plT} {c : crT} {t : Nat} (ht : t < p_n P) (hS : c_S c t = false) : sta P (come c t) = sta P c + 1 := by
  have := fb_ct_upd (c_S c) true ht
  rw [hS] at this
  unfold sta
  show fb_ct (fun i => if i = t then true else c_S c i) (p_n P) = _
  simpa using this
theorem come_cw {P : plT} {c : crT} {t : Nat} (hP : pw P) (hc : cw P c 660) (ht : t < p_n P) (hS : c_S c t = false) : cw P (come c t) 680 := by
  obtain ⟨c1, c2, c3, c4, c5, c6, c7, c8, c9, c10⟩ := hc
  have hnd := nd_le hP t
  refine ⟨fun i hi => ?_, fun i hi => ?_, fun i hi => ?_, c4, c5, c6, c7, c8, c9, ?_⟩
  · change (if i = t then true else c_S c i) = true at hi
    by_cases q : i = t
    · rw [q]; exact ht
    · rw [if_neg q] at hi; exact c1 i hi
  · change (if i = t then true else c_S c i) = true at hi
    show (if i = t then 0 else c_H c i) < _
    by_cases q : i = t
    · rw [if_pos q, q]; omega
    · rw [if_neg q] at hi ⊢; exact c2 i hi
  · show (if i = t then 0 else c_H c i) ≤ 11
    by_cases q : i = t
    · rw [if_pos q]; omega
    · rw [if_neg q]; exact c3 i hi
  · rw [come_rem ht hS]
    show c_g c + _ ≤ 680; omega
def latF (P : plT) (y : trT) (t : Nat) : Bool := !c_S y.1 t && c_S (run P (nK P) (p_k P) 1000 (come y.1 t, y.2.1, y.2.2)).1 t
section
variable {SL : Nat} {xs : Nat → Int32} {d : Nat} {p s q : Nat} {Q : Option Value → mm_H → Prop} {P : plT} {bg : Nat} {x : trT}
theorem c_comeTo {o t : Nat} {y : trT} {I : Nat → Nat → Int32} {J : Nat → Nat → Int64} (ho : isC o) (ht : t < 60) (tr : TR o y I J) (kq : ∀ I2 J2, FrC o I I2 J J2 → TR o (come y.1 t, y.2.1, y.2.2) I2 J2 → Q none (hp p s q I2 J2)) : mm_s SL xs (d + 2) 18 [.ref o, .int (Int32.ofInt (t : Nat))] (hp p s q I J) Q := by
  obtain ⟨⟨s1, s2, s3, s4, s5, s6, s7⟩, hW, l1, l2, l3⟩ := tr
  refine sg_X1_comeTo ho ?_
  rw [z_lt (by omega), z_le (by omega), z_ixN (by omega)]
  refine ⟨fun h => absurd h (by omega), fun _ => ⟨fun h => absurd h (by omega), fun _ => ⟨z_inN ht (by omega), ?_⟩⟩⟩
  refine kq _ _ ⟨fun r hr => mu_row (by omega), fun r hr => mu_row hr⟩ ⟨⟨?_, fun i hi => ?_, ?_, ?_, ?_, ?_, ?_⟩, fun i hi => ?_, l1, ?_, fun i hi => ?_⟩
  · rw [mu_at, s1, bs_one ht, bs_or]
    refine bs_cong (fun i _ => ?_)
    show _ = (if i = t then true else c_S y.1 i)
    by_cases e : i = t
    · simp [e]
    · simp [e]
  · rw [mu_if]
    show _ = Int32.ofInt ((if i = t then 0 else c_H y.1 i : Nat) : Int)
    by_cases e : i = t
    · rw [if_pos e, if_pos e]; rfl
    · rw [if_neg e, if_neg e]; exact s2 i hi
  · rw [mu_row (by omega)]; exact s3
  · rw [mu_row (by omega)]; exact s4
  · rw [mu_row (by omega)]; exact s5
  · rw [mu_row (by omega)]; exact s6
  · rw [mu_row (by omega)]; exact s7
  · rw [mu_row (by omega)]; exact hW i hi
  · rw [mu_row (by omega)]; exact l2
  · rw [mu_row (by omega)]; exact l3 i hi
theorem late_c {y : trT} {v3 : Int32} (hy : cw P y.1 660) : ∀ (f j : Nat) (I : Nat → Nat → Int32) (J : Nat → Nat → Int64), j + f = p_n P → QS p s q P bg x I J → TR 21 y I J → (∀ I2 J2, QS p s q P bg x I2 J2 → Q (some (.long (bs (fun b => decide (b < p_n P) && latF P y b)))) (hp p s q I2 J2)) → w_X0_goodFor_28 SL xs d p s q Q p 15 v3 (bs (fun b => decide (b < j) && latF P y b)) (Int32.ofInt (j : Nat)) I J
  | 0, j, I, J, hf, h, tr, kq => by
    have hP := (RX_pl h.1).1
    have hn := hP.2.1
    obtain rfl : j = p_n P := by omega
    refine sg_X0_goodFor_28 (RX_p h.1).2 ⟨fun _ => kq I J h, fun h2 => ?_⟩
    rw [(RX_pl h.1).2.1.1.1, z_le (by omega)] at h2; omega
  | f + 1, j, I, J, hf, h, tr, kq => by
    have hP := (RX_pl h.1).1
    have hn := hP.2.1
    have hpp := (RX_p h.1).1
    obtain ⟨m0, m1⟩ := bs_more (F := latF P y) (j := j) (by omega)
    refine sg_X0_goodFor_28 (RX_p h.1).2 ⟨fun h2 => ?_, fun _ => ?_⟩
    · rw [(RX_pl h.1).2.1.1.1, z_le (by omega)] at h2; omega
    · rw [stands_z tr.1 (by omega), zB_0, z_p1]
      refine ⟨fun h2 => ?_, fun h2 => ?_⟩
      · refine c_copyFrom isC_25 isC_21 (by omega) (fun I1 J1 f1 _ t1 => ⟨_, _, rfl, rfl, ?_⟩)
        have h1 := QS_c (Or.inr rfl) f1 h
        refine c_comeTo (t := j) isC_25 (by omega) (t1 y tr) (fun I2 J2 f2 t2 => ⟨_, _, rfl, rfl, ?_⟩)
        have h3 := QS_c (Or.inr rfl) f2 h1
        refine c_trial (M := 680) (by omega) (by omega) (come_cw hP hy (by omega) h2) h3 t2 (fun I3 J3 h4 f3 => ⟨_, _, _, rfl, rfl, ?_⟩)
        have tr3 : TR 21 y I3 J3 := TR_c (fun r a b => by rw [f3.1 r (by omega) (by omega), f2.1 r (by omega), f1.1 r (by omega)]) (by rw [f3.2 21 (by omega), f2.2 21 (by omega), f1.2 21 (by omega)]) tr
        have el : latF P y j = c_S (run P (nK P) (p_k P) 1000 (come y.1 j, y.2.1, y.2.2)).1 j := by unfold latF; rw [h2]; rfl
        rw [← el, zB_0, bs_one (by omega)]
        refine ⟨fun h5 => ?_, fun h5 => ?_⟩
        · rw [m0 h5]; exact late_c hy f (j + 1) I3 J3 (by omega) h4 tr3 kq
        · rw [m1 ((Bool.not_eq_false _).mp h5)]; exact late_c hy f (j + 1) I3 J3 (by omega) h4 tr3 kq
      · have el : latF P y j = false := by unfold latF; rw [show c_S y.1 j = true by simpa using h2]; rfl
        rw [m0 el]; exact late_c hy f (j + 1) I J (by omega) h tr kq
theorem late1_m {t m : Nat} {I : Nat → Nat → Int32} {J : Nat → Nat → Int64} (ht : t < p_n P) (hm : m ≤ 300) (h : QK p s q P bg x I J) (hx : MX P x I) (kq : ∀ I2 : Nat → Nat → Int32, QK p s q P bg x I2 J → Q (some (.int (zB (latF P (run P (nK P) (p_k P) m x) t)))) (hp p s q I2 J)) : mm_s SL xs (d + 6) 220 [.ref 65, .int (Int32.ofInt (m : Nat)), .int (Int32.ofInt (t : Nat))] (hp p s q I J) Q := by
  have hP := (RX_pl h.1).1
  have hn := hP.2.1
  have hkk := hP.2.2.2.1
  have hmp := (RX_pl h.1).2.2.1
  have h78 : I 65 78 = Int32.ofInt (p_k P : Nat) := by rw [hx.2.2.2]; exact hmp.2.1
  have htw := run_tw (e := p_k P) hP (nK_w hP) m x (RX_tw h.1)
  refine sg_X11_isLateLeft ?_
  refine sg_X11_goSome ?_
  refine msome_loop (M := 660) (e := p_k P) (most := m) hP (by omega) (by omega) (by omega) m 0 x I (Nat.zero_add m) (RX_tw h.1) hmp hx.1 hx.2.1 hx.2.2.1 h78 (fun I1 f1 t1 => ⟨_, _, rfl, rfl, z_inN (by omega) (by omega), ?_⟩)
  have h1 := QK_m f1 h
  rw [z_ixN (by omega), t1.1.1 t (by omega), zB_0]
  refine ⟨fun h2 => ?_, fun h2 => ?_⟩
  · have hc2 := come_cw hP htw.1 ht h2
    have hsl := come_sta (P := P) ht h2
    have hsn : sta P (come (run P (nK P) (p_k P) m x).1 t) ≤ p_n P := fb_ct_le _ _
    have el : latF P (run P (nK P) (p_k P) m x) t = c_S (run P (nK P) (p_k P) 1000 (come (run P (nK P) (p_k P) m x).1 t, (fun i => if i = t then (-1 : Int) else (run P (nK P) (p_k P) m x).2.1 i), 0, fun _ => 0)).1 t := by
      unfold latF; rw [h2, Bool.not_false, Bool.true_and]; exact congrArg (fun c => c_S c t) (run_core 1000 _ _ rfl)
    generalize hy : run P (nK P) (p_k P) m x = y at *
    have e59 : I1 65 59 = Int32.ofInt (sta P y.1 : Nat) := t1.1.2.2.1
    have hys : sta P y.1 ≤ 60 := by omega
    refine sg_X11_lateGo ?_
    rw [e59, z_p1]
    refine q_goOn (x := x) (bg := bg) (ins := 0) (br := 0) (M := 680) (e := p_k P) (y := (come y.1 t, (fun i => if i = t then (-1 : Int) else y.2.1 i), 0, fun _ => 0)) ?_ (by omega) (by omega) (by omega) (by omega) ⟨hc2, ?_⟩ ?_ ?_ ?_ ?_ (fun I2 h3 t3 _ => ⟨_, _, rfl, rfl, _, _, rfl, rfl, ?_, ?_⟩)
    · exact ⟨RX_f (⟨fun r hr => by
          unfold scr at hr
          rw [mu_row (by omega), mu_row (by omega), mu_row (by omega), mu_row (by omega), mu_row (by omega)], fun j hj => by rw [mu_ne (by omega), mu_ne (by omega), mu_row (by omega), mu_row (by omega), mu_row (by omega)], by rw [mu_row (by omega), mu_row (by omega), mu_row (by omega), mu_row (by omega), mu_row (by omega)], fun _ _ _ _ => rfl⟩ : Fq p I1 _ J J) h1.1, KT_c (fun r a b => by rw [mu_row (by omega), mu_row (by omega), mu_row (by omega), mu_row (by omega), mu_row (by omega)]) (fun j a b => by rw [mu_ne (by omega), mu_ne (by omega), mu_row (by omega), mu_row (by omega), mu_row (by omega)]) h1.2⟩
    · show 0 + sta P (come y.1 t) ≤ 60; omega
    · obtain ⟨⟨r1, r2, r3, r4, r5, r6, r7, r8, r9⟩, hW, hL⟩ := t1
      refine ⟨⟨fun i hi => ?_, fun i hi => ?_, ?_, r4, r5, r6, r7, r8, r9⟩, fun i hi => ?_, ?_, ?_, fun i hi => absurd hi (Nat.not_lt_zero i)⟩
      · rw [mu_row (by omega), mu_row (by omega), mu_row (by omega), mu_row (by omega), mu_if]
        show _ = zB (if i = t then true else c_S y.1 i)
        by_cases e : i = t
        · rw [if_pos e, if_pos e]; rfl
        · rw [if_neg e, if_neg e]; exact r1 i hi
      · rw [mu_row (by omega), mu_row (by omega), mu_row (by omega), mu_if]
        show _ = Int32.ofInt ((if i = t then 0 else c_H y.1 i : Nat) : Int)
        by_cases e : i = t
        · rw [if_pos e, if_pos e]; rfl
        · rw [if_neg e, if_neg e, mu_row (by omega)]; exact r2 i hi
      · rw [mu_ne (by omega), mu_at]
        show _ = Int32.ofInt (sta P (come y.1 t) : Nat); rw [hsl]
      · rw [mu_row (by omega), mu_row (by omega), mu_if]
        show _ = Int32.ofInt (if i = t then (-1 : Int) else y.2.1 i)
        by_cases e : i = t
        · rw [if_pos e, if_pos e]
        · rw [if_neg e, if_neg e, mu_row (by omega), mu_row (by omega)]; exact hW i hi
      · show 0 ≤ 60; omega
      · rw [mu_at]; rfl
    · show I1 65 76 = _; rw [f1.2 76 (by omega)]; exact hx.2.1
    · show I1 65 77 = _; rw [f1.2 77 (by omega)]; exact hx.2.2.1
    · show I1 65 78 = _; rw [f1.2 78 (by omega)]; exact h78
    · rw [t3.1.1 t (by omega)]; exact zB_z _
    · rw [mK_0] at t3
      rw [t3.1.1 t (by omega), ← el]
      exact kq I2 h3
  · have el : latF P (run P (nK P) (p_k P) m x) t = false := by unfold latF; rw [show c_S (run P (nK P) (p_k P) m x).1 t = true by simpa using h2]; rfl
    rw [el] at kq
    exact kq I1 h1
theorem late_m {m : Nat} (hm : m ≤ 300) : ∀ (f j : Nat) (I : Nat → Nat → Int32) (J : Nat → Nat → Int64), j + f = p_n P → QK p s q P bg x I J → MX P x I → (∀ I2 : Nat → Nat → Int32, QS p s q P bg x I2 J → Q (some (.long (bs (fun b => decide (b < p_n P) && latF P (run P (nK P) (p_k P) m x) b)))) (hp p s q I2 J)) → w_X11_late_24 SL xs d p s q Q (Int32.ofInt (m : Nat)) (bs (fun b => decide (b < j) && latF P (run P (nK P) (p_k P) m x) b)) (Int32.ofInt (j : Nat)) I J
  | 0, j, I, J, hf, h, hx, kq => by
    have hP := (RX_pl h.1).1
    have hn := hP.2.1
    obtain rfl : j = p_n P := by omega
    refine sg_X11_late_24 ⟨fun _ => kq I ⟨h.1, hx⟩, fun h2 => ?_⟩
    rw [(RX_pl h.1).2.2.1.1, z_le (by omega)] at h2; omega
  | f + 1, j, I, J, hf, h, hx, kq => by
    have hP := (RX_pl h.1).1
    have hn := hP.2.1
    obtain ⟨m0, m1⟩ := bs_more (F := latF P (run P (nK P) (p_k P) m x)) (j := j) (by omega)
    refine sg_X11_late_24 ⟨fun h2 => ?_, fun _ => ?_⟩
    · rw [(RX_pl h.1).2.2.1.1, z_le (by omega)] at h2; omega
    · refine late1_m (t := j) (by omega) hm h hx (fun I2 h2 => ⟨_, _, _, rfl, rfl, ?_⟩)
      rw [zB_0, z_p1, bs_or0, bs_sh (by omega)]
      refine ⟨fun h3 => ?_, fun h3 => ?_⟩
      · refine m_bring h2.2 (fun I3 f3 g1 g2 g3 g4 => ⟨_, _, rfl, rfl, ?_⟩)
        rw [m0 h3]
        exact late_m hm f (j + 1) I3 J (by omega) (QK_b f3 h2) ⟨g1, g3, g4, by rw [g2, f3.2 49 (by omega)]⟩ kq
      · refine m_bring h2.2 (fun I3 f3 g1 g2 g3 g4 => ⟨_, _, rfl, rfl, ?_⟩)
        rw [m1 ((Bool.not_eq_false _).mp h3)]
        exact late_m hm f (j + 1) I3 J (by omega) (QK_b f3 h2) ⟨g1, g3, g4, by rw [g2, f3.2 49 (by omega)]⟩ kq
end
theorem ca_late {SL : Nat} {xs : Nat → Int32} {d : Nat} {h : mm_H} {Q : Option Value → mm_H → Prop} {a0 : Int32} (hd : 150 ≤ d) (hiv : iv h) (k : ∀ (r : Int64) (h1 : mm_H), h1.2.1 65 = .inr 9 → (∀ Q2 : Option Value → mm_H → Prop, (∀ h2, iv h2 → Q2 (some (.long r)) h2) → mm_s SL xs d 222 [.ref 65, .int a0] h1 Q2) → Q (some (.long r)) h1) : mm_s SL xs d 125 [.ref 2, .int a0] h Q := by
  obtain ⟨e, rfl⟩ : ∃ e, d = e + 20 := ⟨d - 20, by omega⟩
  obtain ⟨_, _, p, s, q, I, J, rfl, P, bg, x, hR, hM⟩ := hiv
  have hS : QS p s q P bg x I J := ⟨hR, hM⟩
  obtain ⟨hpp, hip⟩ := RX_p hR
  have hpl := RX_pl hR
  have hP := hpl.1
  have hkk := hP.2.2.2.1
  obtain ⟨z, z1, z2, rfl⟩ := z_of a0
  refine sg_X10_late ?_
  rw [z_lt (by omega), z_le (by omega)]
  refine ⟨fun h => k _ _ rfl (fun Q2 k2 => sg_X11_late ⟨fun _ => k2 _ (QS_iv hS), fun h2 => absurd (by rw [z_lt (by omega)]; exact h) h2⟩), fun h => ⟨fun h2 => ?_, fun h2 => k _ _ rfl (fun Q2 k2 => sg_X11_late ⟨fun h' => absurd (by rw [z_lt (by omega)] at h'; exact h') h, fun _ => ⟨fun h3 => absurd (by rw [z_le (by omega)] at h3; exact h3) h2, fun _ => k2 _ (QS_iv hS)⟩⟩)⟩⟩
  obtain ⟨m, rfl⟩ : ∃ m : Nat, z = (m : Int) := ⟨z.toNat, by omega⟩
  have htw := run_tw (e := p_k P) hP (nK_w hP) m x (RX_tw hR)
  refine sg_X0_goodFor hip ?_
  refine c_copyFrom isC_21 isC_15 (by omega) (fun I1 J1 f1 _ t1 => ⟨_, _, rfl, rfl, ?_⟩)
  have h1 := QS_c (Or.inl rfl) f1 hS
  rw [(RX_pl h1.1).2.1.1.2.1]
  refine c_goOn (M := 660) (most := m) isC_21 hip hP (by omega) (by omega) (by omega) (RX_tw h1.1) (RX_pl h1.1).2.1 (t1 x (RX_tr hR)) (fun I2 J2 f2 t2 => ⟨_, _, _, rfl, rfl, ?_⟩)
  rw [← bs_none (F := latF P (run P (nK P) (p_k P) m x))]
  refine late_c htw.1 (p_n P) 0 I2 J2 (Nat.zero_add _) (QS_g (Or.inl rfl) f2 h1) t2 (fun I3 J3 h3 => ⟨_, _, _, rfl, rfl, k _ _ rfl (fun Q2 k2 => sg_X11_late ⟨fun h' => absurd (by rw [z_lt (by omega)] at h'; exact h') h, fun _ => ⟨fun _ => ?_, fun h4 => absurd (by rw [z_le (by omega)]; exact h2) h4⟩⟩)⟩)
  refine q_put h3 (fun I4 h4 m4 => ⟨_, _, rfl, rfl, ?_⟩)
  rw [← bs_none (F := latF P (run P (nK P) (p_k P) m x))]
  exact late_m (by omega) (p_n P) 0 I4 J3 (Nat.zero_add _) h4 m4 (fun I5 h5 => k2 _ (QS_iv h5))
