/-! SIGHTS -/
theorem gb_or {x : Int64} {s b : Nat} (hs : s < 64) (hb : b < 64) : (x ||| (Int64.ofInt 1 <<< ((Int32.ofInt (s : Nat)).toInt64 &&& 63))).toBitVec.getLsbD b = (x.toBitVec.getLsbD b || decide (b = s)) := by
  have e : Int64.ofInt 1 <<< ((Int32.ofInt (s : Nat)).toInt64 &&& 63) = lN (1 * 2 ^ s) := by rw [← z_nI]; exact wb_shl 1 hs
  rw [e, Int64.toBitVec_or, BitVec.getLsbD_or, wb_tb, BitVec.getLsbD_ofNat, Nat.one_mul, Nat.testBit_two_pow, decide_eq_true hb, Bool.true_and]
  congr 1
  by_cases h : b = s
  · rw [decide_eq_true h, decide_eq_true h.symm]
  · rw [decide_eq_false h, decide_eq_false (fun z => h z.symm)]
theorem gb_t {x : Int64} {s : Nat} (hs : s < 64) : (((x.toUInt64 >>> ((Int32.ofInt (s : Nat)).toInt64.toUInt64 &&& Int64.toUInt64 63)).toInt64 &&& Int64.ofInt 1) = Int64.ofInt 0) = (x.toBitVec.getLsbD s = false) := by
  obtain ⟨m, hm, rfl⟩ := wb_of x
  rw [← z_nI]
  have e := wb_bit (n := m) (k := s) hm hs
  have e2 : (((lN m).toUInt64 >>> ((nI s).toInt64.toUInt64 &&& Int64.toUInt64 63)).toInt64 &&& Int64.ofInt 1) = lN (m / 2 ^ s % 2) := e
  have hml : m / 2 ^ s % 2 < 2 := Nat.mod_lt _ (by decide)
  rw [e2, lN_0 (by omega), wb_tb, BitVec.getLsbD_ofNat, decide_eq_true hs, Bool.true_and, Nat.testBit_eq_decide_div_mod_eq, decide_eq_false_iff_not]
  exact propext (by omega)
theorem gb_0 {b : Nat} : (Int64.ofInt 0).toBitVec.getLsbD b = false := by show (BitVec.ofNat 64 0).getLsbD b = false; simp
def gbit (J : Nat → Nat → Int64) (a i b : Nat) : Bool := (J a i).toBitVec.getLsbD b
def sgC (t : Int32) (I : Nat → Nat → Int32) (i : Nat) : Bool := decide (¬ t < I 34 i ∧ (I 35 i = Int32.ofInt (-1) ∨ t < I 35 i))
def sgG (t : Int32) (I : Nat → Nat → Int32) (J : Nat → Nat → Int64) (l r b : Nat) : Bool := decide (fb_ct (fun i => sgC t I i && !gbit J 36 (4 * i + r) b) l = 0)
theorem sgG_s {t : Int32} {I : Nat → Nat → Int32} {J : Nat → Nat → Int64} {l r b : Nat} : sgG t I J (l + 1) r b = (sgG t I J l r b && !(sgC t I l && !gbit J 36 (4 * l + r) b)) := by
  unfold sgG
  rw [fb_ct_succ]
  cases (sgC t I l && !gbit J 36 (4 * l + r) b) with
  | true => rw [if_pos rfl, decide_eq_false (by omega)]; simp
  | false => rw [if_neg (by decide), Nat.add_zero]; simp
section
variable {SL : Nat} {xs : Nat → Int32} {d : Nat} {p s q : Nat} {Q : Option Value → mm_H → Prop}
theorem sift1 {v1 : Int32} {I : Nat → Nat → Int32} : ∀ (f j : Nat) (J : Nat → Nat → Int64), j + f = 4 → (∀ r, r < j → ∀ b, b < 64 → gbit J 37 r b = true) → (∀ J2 : Nat → Nat → Int64, (∀ r, r ≠ 37 → J2 r = J r) → (∀ r, r < 4 → ∀ b, b < 64 → gbit J2 37 r b = true) → w_X8_sift_24 SL xs d p s q Q v1 (Int32.ofInt 0) I J2) → w_X8_sift_2 SL xs d p s q Q v1 (Int32.ofInt (j : Nat)) I J
  | 0, j, J, hf, h0, kq => by
    obtain rfl : j = 4 := by omega
    refine sg_X8_sift_2 ⟨fun _ => kq J (fun _ _ => rfl) h0, fun h => ?_⟩
    rw [z_le (by omega)] at h; omega
  | f + 1, j, J, hf, h0, kq => by
    refine sg_X8_sift_2 ⟨fun h => ?_, fun _ => ⟨z_inN (by omega) (by omega), ?_⟩⟩
    · rw [z_le (by omega)] at h; omega
    · rw [z_ixN (by omega), z_p1]
      refine sift1 f (j + 1) _ (by omega) (fun r hr b hb => ?_) (fun J2 g1 g2 => kq J2 (fun r hr => by rw [g1 r hr, mu_row hr]) g2)
      unfold gbit
      rw [mu_if]
      by_cases e : r = j
      · rw [if_pos e]; exact bs_m1 hb
      · rw [if_neg e]; exact h0 r (by omega) b hb
theorem sift3 {v1 v3 : Int32} {i : Nat} {I : Nat → Nat → Int32} (hi : i < 40) : ∀ (f j : Nat) (J : Nat → Nat → Int64), j + f = 4 → (∀ J2 : Nat → Nat → Int64, (∀ r, r ≠ 37 → J2 r = J r) → (∀ r, r < 4 → ∀ b, gbit J2 37 r b = (gbit J 37 r b && (decide (r < j) || gbit J 36 (4 * i + r) b))) → w_X8_sift_24 SL xs d p s q Q v1 (Int32.ofInt ((i + 1 : Nat) : Int)) I J2) → w_X8_sift_81 SL xs d p s q Q v1 (Int32.ofInt (i : Nat)) v3 (Int32.ofInt (j : Nat)) I J
  | 0, j, J, hf, kq => by
    obtain rfl : j = 4 := by omega
    refine sg_X8_sift_81 ⟨fun _ => ?_, fun h => ?_⟩
    · rw [z_p1]; exact kq J (fun _ _ => rfl) (fun r hr b => by rw [decide_eq_true hr]; simp)
    · rw [z_le (by omega)] at h; omega
  | f + 1, j, J, hf, kq => by
    have e1 : Int32.ofInt (i : Nat) * Int32.ofInt 4 + Int32.ofInt (j : Nat) = Int32.ofInt ((4 * i + j : Nat) : Int) := by rw [z_mul, z_add]; congr 1; omega
    refine sg_X8_sift_81 ⟨fun h => ?_, fun _ => ⟨z_inN (by omega) (by omega), ?_, ?_⟩⟩
    · rw [z_le (by omega)] at h; omega
    · rw [e1]; exact z_inN (by omega) (by omega)
    · rw [e1, z_ixN (by omega), z_ixN (by omega), z_p1]
      refine sift3 hi f (j + 1) _ (by omega) (fun J2 g1 g2 => kq J2 (fun r hr => by rw [g1 r hr, mu_row hr]) (fun r hr b => ?_))
      rw [g2 r hr b]
      unfold gbit
      rw [mu_row (i := 36) (by omega), mu_if]
      by_cases e : r = j
      · rw [if_pos e, Int64.toBitVec_and, BitVec.getLsbD_and, e, decide_eq_true (by omega), decide_eq_false (by omega)]; simp
      · rw [if_neg e]
        congr 2
        simp; omega
theorem sift2 {t : Int32} {l : Nat} {I : Nat → Nat → Int32} {J0 : Nat → Nat → Int64} (hl : l ≤ 40) (h33 : I 33 0 = Int32.ofInt (l : Nat)) : ∀ (f j : Nat) (J : Nat → Nat → Int64), j + f = l → (∀ r, r ≠ 37 → J r = J0 r) → (∀ r, r < 4 → ∀ b, b < 64 → gbit J 37 r b = sgG t I J0 j r b) → (∀ J2 : Nat → Nat → Int64, (∀ r, r ≠ 37 → J2 r = J0 r) → (∀ r, r < 4 → ∀ b, b < 64 → gbit J2 37 r b = sgG t I J0 l r b) → Q none (hp p s q I J2)) → w_X8_sift_24 SL xs d p s q Q t (Int32.ofInt (j : Nat)) I J
  | 0, j, J, hf, hr, hb, kq => by
    obtain rfl : j = l := by omega
    refine sg_X8_sift_24 ⟨fun _ => kq J hr hb, fun h => ?_⟩
    rw [h33, z_le (by omega)] at h; omega
  | f + 1, j, J, hf, hr, hb, kq => by
    have skip : sgC t I j = false → w_X8_sift_24 SL xs d p s q Q t (Int32.ofInt ((j + 1 : Nat) : Int)) I J := fun hc =>
      sift2 hl h33 f (j + 1) J (by omega) hr (fun r h1 b h2 => by rw [sgG_s, hc, hb r h1 b h2]; simp) kq
    have take : sgC t I j = true → w_X8_sift_81 SL xs d p s q Q t (Int32.ofInt (j : Nat)) (Int32.ofInt 0) (Int32.ofInt 0) I J := fun hc =>
      sift3 (by omega) 4 0 J rfl (fun J2 g1 g2 => sift2 hl h33 f (j + 1) J2 (by omega) (fun r h1 => by rw [g1 r h1, hr r h1]) (fun r h1 b h2 => by
        rw [g2 r h1 b, sgG_s, hc, hb r h1 b h2]
        unfold gbit
        rw [hr 36 (by omega)]; simp) kq)
    refine sg_X8_sift_24 ?_
    rw [h33, z_le (by omega), z_le (by omega), z_ixN (by omega), z_p1]
    refine ⟨fun h => absurd h (by omega), fun _ => ⟨fun h => absurd h (by omega), fun _ => ⟨z_inN (by omega) (by omega), fun h1 => ⟨fun h2 => skip (decide_eq_false (fun z => z.1 h2)), fun h2 => take (decide_eq_true ⟨h2, Or.inl h1⟩)⟩, fun h1 => ⟨fun h3 => ⟨fun h2 => skip (decide_eq_false (fun z => z.1 h2)), fun h2 => take (decide_eq_true ⟨h2, Or.inr h3⟩)⟩, fun h3 => ⟨fun h2 => skip (decide_eq_false (fun z => z.1 h2)), fun h2 => skip (decide_eq_false (fun z => z.2.elim h1 h3))⟩⟩⟩⟩⟩
def ftB (t : Int32) (I : Nat → Nat → Int32) (J : Nat → Nat → Int64) (l v : Nat) : Bool := sgG t I J l (v / 64) (v % 64)
theorem c_sift {t : Int32} {l : Nat} {I : Nat → Nat → Int32} {J : Nat → Nat → Int64} (hl : l ≤ 40) (h33 : I 33 0 = Int32.ofInt (l : Nat)) (kq : ∀ J2 : Nat → Nat → Int64, (∀ r, r ≠ 37 → J2 r = J r) → (∀ v, v ≤ 200 → gbit J2 37 (v / 64) (v % 64) = ftB t I J l v) → Q none (hp p s q I J2)) : mm_s SL xs (d + 1) 95 [.ref 33, .int t] (hp p s q I J) Q := by
  refine sg_X8_sift (sift1 4 0 J rfl (fun r hr => absurd hr (Nat.not_lt_zero r)) (fun J1 g1 g2 => ?_))
  exact sift2 (J0 := J) hl h33 l 0 J1 (Nat.zero_add l) g1 (fun r h1 b h2 => g2 r h1 b h2) (fun J2 g3 g4 => kq J2 g3 (fun v hv => g4 _ (by omega) _ (Nat.mod_lt _ (by decide))))
theorem c_isFit {F : Nat → Bool} {v : Nat} {I : Nat → Nat → Int32} {J : Nat → Nat → Int64} (h1 : 1 ≤ v) (h2 : v ≤ 200) (hF : ∀ v, v ≤ 200 → gbit J 37 (v / 64) (v % 64) = F v) (kq : Q (some (.int (zB (F v)))) (hp p s q I J)) : mm_s SL xs (d + 1) 96 [.ref 33, .int (Int32.ofInt (v : Nat))] (hp p s q I J) Q := by
  have hd : Int32.ofInt (v : Nat) / Int32.ofInt 64 = Int32.ofInt ((v / 64 : Nat) : Int) := z_divN (b := 64) (by omega) (by omega) (by omega)
  have hm : Int32.ofInt (v : Nat) - Int32.ofInt (v : Nat) / Int32.ofInt 64 * Int32.ofInt 64 = Int32.ofInt ((v % 64 : Nat) : Int) := z_remN (b := 64) (by omega) (by omega) (by omega)
  have hml : v % 64 < 64 := Nat.mod_lt _ (by decide)
  refine sg_X8_isFit ?_
  rw [hm, hd, z_ixN (by omega), gb_t hml, z_lt (by omega), z_lt (by omega)]
  have e : (J 37 (v / 64)).toBitVec.getLsbD (v % 64) = F v := hF v h2
  rw [e]
  refine ⟨fun h => absurd h (by omega), fun _ => ⟨fun h => absurd h (by omega), fun _ => ⟨z_inN (by omega) (by omega), fun h => ?_, fun h => ?_⟩⟩⟩
  · rw [h] at kq; exact kq
  · rw [(Bool.not_eq_false _).mp h] at kq; exact kq
theorem fitCount_c {F : Nat → Bool} {I : Nat → Nat → Int32} {J : Nat → Nat → Int64} (hF : ∀ v, v ≤ 200 → gbit J 37 (v / 64) (v % 64) = F v) (kq : Q (some (.int (Int32.ofInt (fb_ct (fun v => F (v + 1)) 200 : Nat)))) (hp p s q I J)) : ∀ (f j : Nat), j + f = 200 → w_X8_fitCount_4 SL xs d p s q Q (Int32.ofInt (fb_ct (fun v => F (v + 1)) j : Nat)) (Int32.ofInt ((j + 1 : Nat) : Int)) I J
  | 0, j, hf => by
    obtain rfl : j = 200 := by omega
    refine sg_X8_fitCount_4 ⟨fun _ => kq, fun h => ?_⟩
    rw [z_lt (by omega)] at h; omega
  | f + 1, j, hf => by
    refine sg_X8_fitCount_4 ⟨fun h => ?_, fun _ => ?_⟩
    · rw [z_lt (by omega)] at h; omega
    · refine c_isFit (F := F) (by omega) (by omega) hF ⟨_, _, _, rfl, rfl, ?_⟩
      have es := fb_ct_succ (fun v => F (v + 1)) j
      rw [zB_0, z_p1, z_p1]
      refine ⟨fun h => ?_, fun h => ?_⟩
      · have es0 : fb_ct (fun v => F (v + 1)) (j + 1) = fb_ct (fun v => F (v + 1)) j := ct_S0 (by show ¬ F (j + 1) = true; rw [h]; decide)
        rw [← es0]; exact fitCount_c hF kq f (j + 1) (by omega)
      · rw [(Bool.not_eq_false _).mp h, if_pos rfl] at es
        rw [← es]; exact fitCount_c hF kq f (j + 1) (by omega)
theorem leastFit_c {F : Nat → Bool} {I : Nat → Nat → Int32} {J : Nat → Nat → Int64} (hF : ∀ v, v ≤ 200 → gbit J 37 (v / 64) (v % 64) = F v) : ∀ (f v : Nat), v + f = 201 → 1 ≤ v → Q (some (.int (Int32.ofInt (lsd F f v)))) (hp p s q I J) → w_X8_leastFit_2 SL xs d p s q Q (Int32.ofInt (v : Nat)) I J
  | 0, v, hf, hv, kq => by
    refine sg_X8_leastFit_2 ⟨fun _ => kq, fun h => ?_⟩
    rw [z_lt (by omega)] at h; omega
  | f + 1, v, hf, hv, kq => by
    rw [lsd] at kq
    refine sg_X8_leastFit_2 ⟨fun h => ?_, fun _ => ?_⟩
    · rw [z_lt (by omega)] at h; omega
    · refine c_isFit (F := F) hv (by omega) hF ⟨_, _, _, rfl, rfl, ?_⟩
      rw [zB_0, z_p1]
      refine ⟨fun h => ?_, fun h => ?_⟩
      · rw [h, if_neg (by decide)] at kq; exact leastFit_c hF f (v + 1) (by omega) (by omega) kq
      · rw [(Bool.not_eq_false _).mp h, if_pos rfl] at kq; exact kq
/-- the reference: does a number fit -/
theorem counts_m {t : Int32} {i l : Nat} {I : Nat → Nat → Int32} {J : Nat → Nat → Int64} (h : v_sig (I 33 0) (I 65 88) (I 34) (I 35) (J 36) (I 100) (I 101) (I 102) (I 103) (I 104)) (h33 : I 33 0 = Int32.ofInt (l : Nat)) (hl : l ≤ 40) (hi : i < l) (kq : Q (some (.int (zB (sgC t I i)))) (hp p s q I J)) : mm_s SL xs (d + 1) 265 [.ref 65, .int (Int32.ofInt (i : Nat)), .int t] (hp p s q I J) Q := by
  obtain ⟨l', l1, l2, l3, l4⟩ := h
  have : l = l' := by rw [h33, z_eq (by omega)] at l2; omega
  subst this
  obtain ⟨n, w, po, tt, u, u1, u2, u3, u4, u5, u6, u7, u8, u9, u10, u11, u12, u13, u14, u15, u16⟩ := l4 i hi
  obtain ⟨tz, t1, t2, rfl⟩ := z_of t
  refine sg_X11_counts ⟨z_inN (by omega) (by omega), ?_⟩
  have hC : sgC (Int32.ofInt tz) I i = decide (¬ tz < (tt : Int) ∧ (u = -1 ∨ tz < u)) := by
    unfold sgC
    rw [decide_eq_decide, u13, u15, z_lt (by omega), z_eq (by omega), z_lt (by omega)]
  rw [hC] at kq
  rw [z_ixN (by omega), u12, u14, z_lt (by omega), z_lt (by omega), z_le (by omega)]
  refine ⟨fun h => ?_, fun h => ⟨fun h2 => ?_, fun h2 => ⟨fun h3 => ?_, fun h3 => ?_⟩⟩⟩
  · rw [decide_eq_false (by omega)] at kq; exact kq
  · rw [decide_eq_true (by omega)] at kq; exact kq
  · rw [decide_eq_false (by omega)] at kq; exact kq
  · rw [decide_eq_true (by omega)] at kq; exact kq
theorem doesFit_m {t : Int32} {v l : Nat} {I : Nat → Nat → Int32} {J : Nat → Nat → Int64} (h : v_sig (I 33 0) (I 65 88) (I 34) (I 35) (J 36) (I 100) (I 101) (I 102) (I 103) (I 104)) (h33 : I 33 0 = Int32.ofInt (l : Nat)) (hl : l ≤ 40) (hv : 1 ≤ v) (hv2 : v ≤ 200) (kq : Q (some (.int (zB (ftB t I J l v)))) (hp p s q I J)) : ∀ (f j : Nat), j + f = l → ftB t I J j v = true → w_X11_doesFit_5 SL xs d p s q Q (Int32.ofInt (v : Nat)) t (Int32.ofInt 1) (Int32.ofInt (j : Nat)) I J
  | 0, j, hf, hj => by
    obtain ⟨l', l1, l2, l3, l4⟩ := h
    have : l = l' := by rw [h33, z_eq (by omega)] at l2; omega
    subst this
    obtain rfl : j = l := by omega
    rw [hj] at kq
    refine sg_X11_doesFit_5 ⟨fun _ => ⟨Or.inr rfl, kq⟩, fun h => ?_⟩
    rw [l3, z_le (by omega)] at h; omega
  | f + 1, j, hf, hj => by
    have hs := h
    obtain ⟨l', l1, l2, l3, l4⟩ := h
    have : l = l' := by rw [h33, z_eq (by omega)] at l2; omega
    subst this
    obtain ⟨n, w, po, tt, u, u1, u2, u3, u4, u5, u6, u7, u8, u9, u10, u11, u12, u13, u14, u15, u16⟩ := l4 j (by omega)
    have hin := ps_in (k := v) (n := n) (i := w - 1) hv (by omega)
    have estep : ftB t I J (j + 1) v = (ftB t I J j v && !(sgC t I j && !gbit J 36 (4 * j + v / 64) (v % 64))) := sgG_s
    have ebit : gbit J 36 (4 * j + v / 64) (v % 64) = decide (ps v n (w - 1) = po) := by
      have := u16 v hv hv2
      unfold gbit
      rw [this]; unfold ps
      rw [show n - (w - 1) = n - w + 1 by omega]
    rw [hj, Bool.true_and, ebit] at estep
    have on : ftB t I J (j + 1) v = true → w_X11_doesFit_5 SL xs d p s q Q (Int32.ofInt (v : Nat)) t (Int32.ofInt 1) (Int32.ofInt ((j + 1 : Nat) : Int)) I J := fun hn => doesFit_m hs h33 hl hv hv2 kq f (j + 1) (by omega) hn
    refine sg_X11_doesFit_5 ⟨fun h => ?_, fun _ => ⟨fun h => absurd h (by decide), fun _ => ?_⟩⟩
    · rw [l3, z_le (by omega)] at h; omega
    · refine counts_m hs h33 hl (by omega) ⟨_, _, _, rfl, rfl, ?_⟩
      rw [zB_0, z_p1]
      refine ⟨fun hc => on (by rw [estep, hc]; rfl), fun hc => ⟨z_inN (by omega) (by omega), ?_⟩⟩
      have hc : sgC t I j = true := (Bool.not_eq_false _).mp hc
      rw [z_ixN (by omega), u9, u10]
      refine m_farOf hv (by omega) u3 u4 u2 ⟨_, _, _, rfl, rfl, ?_⟩
      rw [u11, zl (by omega)]
      have eq : (lN (ps v n (w - 1)) = lN po) = (ps v n (w - 1) = po) := propext (pk_lEQ (by omega) (by omega))
      rw [eq]
      refine ⟨fun he => on (by rw [estep, hc, decide_eq_true he]; rfl), fun he => ?_⟩
      have hn : ftB t I J (j + 1) v = false := by rw [estep, hc, decide_eq_false he]; rfl
      have hlf : ftB t I J l v = false := by
        unfold ftB sgG at hn ⊢
        have h2 := of_decide_eq_false hn
        have h3 := fb_ct_mono (fun i => sgC t I i && !gbit J 36 (4 * i + v / 64) (v % 64)) (show j + 1 ≤ l by omega)
        exact decide_eq_false (by omega)
      rw [hlf] at kq
      exact sg_X11_doesFit_5 ⟨fun _ => ⟨Or.inl rfl, kq⟩, fun _ => ⟨fun _ => ⟨Or.inl rfl, kq⟩, fun h => absurd rfl h⟩⟩
theorem m_doesFit {t : Int32} {v l : Nat} {I : Nat → Nat → Int32} {J : Nat → Nat → Int64} (h : v_sig (I 33 0) (I 65 88) (I 34) (I 35) (J 36) (I 100) (I 101) (I 102) (I 103) (I 104)) (h33 : I 33 0 = Int32.ofInt (l : Nat)) (hl : l ≤ 40) (hv : 1 ≤ v) (hv2 : v ≤ 200) (kq : Q (some (.int (zB (ftB t I J l v)))) (hp p s q I J)) : mm_s SL xs (d + 2) 266 [.ref 65, .int (Int32.ofInt (v : Nat)), .int t] (hp p s q I J) Q :=
  sg_X11_doesFit (doesFit_m h h33 hl hv hv2 kq l 0 (Nat.zero_add l) (by unfold ftB sgG; exact decide_eq_true rfl))
theorem fits_m {F : Nat → Bool} {t v1 : Int32} {l : Nat} {I : Nat → Nat → Int32} {J : Nat → Nat → Int64} (h : v_sig (I 33 0) (I 65 88) (I 34) (I 35) (J 36) (I 100) (I 101) (I 102) (I 103) (I 104)) (h33 : I 33 0 = Int32.ofInt (l : Nat)) (hl : l ≤ 40) (hF : ∀ v, ftB t I J l v = F v) (k0 : v1 = Int32.ofInt 0 → Q (some (.int (Int32.ofInt (fb_ct (fun v => F (v + 1)) 200 : Nat)))) (hp p s q I J)) : ∀ (f j : Nat) (r : Int), j + f = 200 → -1 ≤ r → r ≤ 200 → (¬ v1 = Int32.ofInt 0 → Q (some (.int (Int32.ofInt (if r = -1 then lsd F f (j + 1) else r)))) (hp p s q I J)) → w_X11_fits_19 SL xs d p s q Q v1 t (Int32.ofInt (fb_ct (fun v => F (v + 1)) j : Nat)) (Int32.ofInt r) (Int32.ofInt ((j + 1 : Nat) : Int)) I J
  | 0, j, r, hf, r1, r2, k1 => by
    obtain rfl : j = 200 := by omega
    refine sg_X11_fits_19 ⟨fun _ => ⟨k0, fun hn => ?_⟩, fun h => ?_⟩
    · have := k1 hn
      by_cases e : r = -1
      · rw [if_pos e, lsd, ← e] at this; exact this
      · rw [if_neg e] at this; exact this
    · rw [z_lt (by omega)] at h; omega
  | f + 1, j, r, hf, r1, r2, k1 => by
    rw [lsd] at k1
    have es := fb_ct_succ (fun v => F (v + 1)) j
    refine sg_X11_fits_19 ⟨fun h => ?_, fun _ => ?_⟩
    · rw [z_lt (by omega)] at h; omega
    · refine m_doesFit h h33 hl (by omega) (by omega) ⟨_, _, _, rfl, rfl, ?_⟩
      rw [hF, zB_0, z_p1, z_p1, z_le (by omega)]
      refine ⟨fun hc => ?_, fun hc => ⟨fun hr => ?_, fun hr => ?_⟩⟩
      · have es0 : fb_ct (fun v => F (v + 1)) (j + 1) = fb_ct (fun v => F (v + 1)) j := ct_S0 (by show ¬ F (j + 1) = true; rw [hc]; decide)
        rw [← es0]
        exact fits_m h h33 hl hF k0 f (j + 1) r (by omega) r1 r2 (fun hn => by have := k1 hn; rw [hc] at this; exact this)
      · have hc := (Bool.not_eq_false _).mp hc
        rw [hc, if_pos rfl] at es
        rw [← es]
        exact fits_m h h33 hl hF k0 f (j + 1) r (by omega) r1 r2 (fun hn => by have := k1 hn; rw [if_neg (by omega)] at this ⊢; exact this)
      · have hc := (Bool.not_eq_false _).mp hc
        rw [hc, if_pos rfl] at es
        rw [← es]
        exact fits_m h h33 hl hF k0 f (j + 1) ((j + 1 : Nat) : Int) (by omega) (by omega) (by omega) (fun hn => by
          have := k1 hn
          rw [if_pos (by omega), hc, if_pos rfl] at this
          rw [if_neg (by omega)]; exact this)
end
theorem zo_m {a : Int32} : (a = Int32.ofInt 0 ∨ a = Int32.ofInt 1) ↔ (¬ a < Int32.ofInt 0 ∧ a ≤ Int32.ofInt 1) := by
  obtain ⟨z, z1, z2, rfl⟩ := z_of a
  rw [z_eq (by omega), z_eq (by omega), z_lt (by omega), z_le (by omega)]
  omega
theorem ftB_c {t : Int32} {l v : Nat} {I : Nat → Nat → Int32} {J J2 : Nat → Nat → Int64} (h : J2 36 = J 36) : ftB t I J2 l v = ftB t I J l v := by
  unfold ftB sgG gbit; rw [h]
theorem ca_fits {SL : Nat} {xs : Nat → Int32} {d : Nat} {h : mm_H} {Q : Option Value → mm_H → Prop} {a0 : Int32} {a1 : Int32} (hd : 150 ≤ d) (hiv : iv h) (k : ∀ (r : Int32) (h1 : mm_H), h1.2.1 65 = .inr 9 → (∀ Q2 : Option Value → mm_H → Prop, (∀ h2, iv h2 → Q2 (some (.int r)) h2) → mm_s SL xs d 267 [.ref 65, .int a0, .int a1] h1 Q2) → Q (some (.int r)) h1) : mm_s SL xs d 150 [.ref 2, .int a0, .int a1] h Q := by
  obtain ⟨e, rfl⟩ : ∃ e, d = e + 20 := ⟨d - 20, by omega⟩
  obtain ⟨_, _, p, s, q, I, J, rfl, P, bg, x, hR, hM⟩ := hiv
  have hS : QS p s q P bg x I J := ⟨hR, hM⟩
  have hsg := hR.2.2.2.2.2.2.2.1
  obtain ⟨l, l1, l2, l3, _⟩ := hR.2.2.2.2.2.2.2.1
  refine sg_X10_fits ?_
  rw [zo_z]
  refine ⟨fun h => k _ _ rfl (fun Q2 k2 => sg_X11_fits ⟨fun _ => k2 _ (QS_iv hS), fun h2 => ⟨fun h3 => absurd (zo_m.mpr ⟨h2, h3⟩) h, fun _ => k2 _ (QS_iv hS)⟩⟩), fun h => ?_⟩
  have h := Classical.not_not.mp h
  obtain ⟨hlt, hle⟩ := zo_m.mp h
  refine c_sift l1 l2 (fun J2 g1 g2 => ⟨_, _, rfl, rfl, ?_⟩)
  have hS2 : QS p s q P bg x I J2 := QS_s (fun _ _ _ _ _ _ _ _ => rfl) g1 hS
  have hsg2 := hS2.1.2.2.2.2.2.2.2.1
  have mod : ∀ r : Int32, (a0 = Int32.ofInt 0 → r = Int32.ofInt (fb_ct (fun v => ftB a1 I J l (v + 1)) 200 : Nat)) → (¬ a0 = Int32.ofInt 0 → r = Int32.ofInt (lsd (ftB a1 I J l) 200 1)) → ∀ Q2 : Option Value → mm_H → Prop, (∀ h2, iv h2 → Q2 (some (.int r)) h2) → mm_s SL xs (e + 20) 267 [.ref 65, .int a0, .int a1] (hp p s q I J2) Q2 := by
    intro r r0 r1 Q2 k2
    refine sg_X11_fits ⟨fun z => absurd z hlt, fun _ => ⟨fun _ => ?_, fun z => absurd hle z⟩⟩
    exact fits_m (F := ftB a1 I J l) hsg2 l2 l1 (fun v => ftB_c (g1 36 (by omega))) (fun z => by rw [← r0 z]; exact k2 _ (QS_iv hS2)) 200 0 (-1) rfl (by omega) (by omega) (fun z => by rw [if_pos rfl, ← r1 z]; exact k2 _ (QS_iv hS2))
  refine ⟨fun ha => ?_, fun ha => ?_⟩
  · exact sg_X8_fitCount (fitCount_c (F := ftB a1 I J l) g2 ⟨_, _, _, rfl, rfl, k _ _ rfl (mod _ (fun _ => rfl) (fun z => absurd ha z))⟩ 200 0 rfl)
  · exact sg_X8_leastFit (leastFit_c (F := ftB a1 I J l) g2 200 1 rfl (by omega) ⟨_, _, _, rfl, rfl, k _ _ rfl (mod _ (fun z => absurd z ha) (fun _ => rfl))⟩)
/-! a SIGHT is told -/
section
variable {SL : Nat} {xs : Nat → Int32} {d : Nat} {p s q : Nat} {Q : Option Value → mm_H → Prop}
theorem tell0 {v1 v2 v3 v4 : Int32} {l : Nat} {I : Nat → Nat → Int32} (hl : l < 40) : ∀ (f j : Nat) (J : Nat → Nat → Int64), j + f = 4 → (∀ r, r < j → J 36 (4 * l + r) = Int64.ofInt 0) → (∀ J2 : Nat → Nat → Int64, (∀ r, r ≠ 36 → J2 r = J r) → (∀ i, i < 4 * l → J2 36 i = J 36 i) → (∀ r, r < 4 → J2 36 (4 * l + r) = Int64.ofInt 0) → w_X8_tell_76 SL xs d p s q Q v1 v2 v3 v4 (Int32.ofInt ((4 * l : Nat) : Int)) (Int32.ofInt 1) I J2) → w_X8_tell_50 SL xs d p s q Q v1 v2 v3 v4 (Int32.ofInt ((4 * l : Nat) : Int)) (Int32.ofInt (j : Nat)) I J
  | 0, j, J, hf, h0, kq => by
    obtain rfl : j = 4 := by omega
    refine sg_X8_tell_50 ⟨fun _ => kq J (fun _ _ => rfl) (fun _ _ => rfl) h0, fun h => ?_⟩
    rw [z_le (by omega)] at h; omega
  | f + 1, j, J, hf, h0, kq => by
    have e1 : Int32.ofInt ((4 * l : Nat) : Int) + Int32.ofInt (j : Nat) = Int32.ofInt ((4 * l + j : Nat) : Int) := by rw [z_add]; rfl
    refine sg_X8_tell_50 ⟨fun h => ?_, fun _ => ⟨?_, ?_⟩⟩
    · rw [z_le (by omega)] at h; omega
    · rw [e1]; exact z_inN (by omega) (by omega)
    · rw [e1, z_ixN (by omega), z_p1]
      refine tell0 hl f (j + 1) _ (by omega) (fun r hr => ?_) (fun J2 g1 g2 g3 => kq J2 (fun r hr => by rw [g1 r hr, mu_row hr]) (fun i hi => by rw [g2 i hi, mu_ne (by omega)]) g3)
      rw [mu_if]
      by_cases e : 4 * l + r = 4 * l + j
      · rw [if_pos e]
      · rw [if_neg e]; exact h0 r (by omega)
theorem tell1 {n w po l : Nat} {v4 : Int32} {I : Nat → Nat → Int32} (hn1 : 1 ≤ n) (hn : n ≤ 60) (hw1 : 1 ≤ w) (hw : w ≤ n) (hpo : po < n) (hl : l < 40) (h33 : I 33 0 = Int32.ofInt (l : Nat)) : ∀ (f j : Nat) (J : Nat → Nat → Int64), j + f = 200 → (∀ u, 1 ≤ u → u ≤ 200 → gbit J 36 (4 * l + u / 64) (u % 64) = (decide (u ≤ j) && decide (jo u (n - w + 1) (w - 1) = po))) → (∀ J2 : Nat → Nat → Int64, (∀ r, r ≠ 36 → J2 r = J r) → (∀ i, i < 4 * l → J2 36 i = J 36 i) → (∀ u, 1 ≤ u → u ≤ 200 → gbit J2 36 (4 * l + u / 64) (u % 64) = decide (jo u (n - w + 1) (w - 1) = po)) → Q (some (.int (Int32.ofInt (l : Nat)))) (hp p s q (mm_u I 33 0 (Int32.ofInt ((l + 1 : Nat) : Int))) J2)) → w_X8_tell_76 SL xs d p s q Q (Int32.ofInt (n : Nat)) (Int32.ofInt (w : Nat)) (Int32.ofInt (po : Nat)) v4 (Int32.ofInt ((4 * l : Nat) : Int)) (Int32.ofInt ((j + 1 : Nat) : Int)) I J
  | 0, j, J, hf, h0, kq => by
    obtain rfl : j = 200 := by omega
    refine sg_X8_tell_76 ⟨fun _ => ?_, fun h => ?_⟩
    · rw [h33, z_p1, z_m1 (by omega)]
      exact kq J (fun _ _ => rfl) (fun _ _ => rfl) (fun u u1 u2 => by rw [h0 u u1 u2, decide_eq_true u2, Bool.true_and])
    · rw [z_lt (by omega)] at h; omega
  | f + 1, j, J, hf, h0, kq => by
    have hjo : jo (j + 1) (n - w + 1) (w - 1) < n := by have := jo_lt (k := j + 1) (show 1 ≤ n - w + 1 by omega) (w - 1); omega
    have hd : Int32.ofInt ((j + 1 : Nat) : Int) / Int32.ofInt 64 = Int32.ofInt (((j + 1) / 64 : Nat) : Int) := z_divN (b := 64) (by omega) (by omega) (by omega)
    have hm : Int32.ofInt ((j + 1 : Nat) : Int) - Int32.ofInt ((j + 1 : Nat) : Int) / Int32.ofInt 64 * Int32.ofInt 64 = Int32.ofInt (((j + 1) % 64 : Nat) : Int) := z_remN (b := 64) (by omega) (by omega) (by omega)
    have e1 : Int32.ofInt ((4 * l : Nat) : Int) + Int32.ofInt (((j + 1) / 64 : Nat) : Int) = Int32.ofInt ((4 * l + (j + 1) / 64 : Nat) : Int) := by rw [z_add]; rfl
    have hml : (j + 1) % 64 < 64 := Nat.mod_lt _ (by decide)
    refine sg_X8_tell_76 ⟨fun h => ?_, fun _ => ?_⟩
    · rw [z_lt (by omega)] at h; omega
    · refine c_goer hw1 hw hn (by omega) (by omega) ⟨_, _, _, rfl, rfl, ?_⟩
      rw [z_eq (by omega), hm, hd, e1, z_p1]
      refine ⟨fun h => ⟨z_inN (by omega) (by omega), ?_⟩, fun h => ?_⟩
      · rw [z_ixN (by omega)]
        refine tell1 hn1 hn hw1 hw hpo hl h33 f (j + 1) _ (by omega) (fun u u1 u2 => ?_) (fun J2 g1 g2 g3 => kq J2 (fun r hr => by rw [g1 r hr, mu_row hr]) (fun i hi => by rw [g2 i hi, mu_ne (by omega)]) g3)
        have h0u := h0 u u1 u2
        unfold gbit at h0u ⊢
        have hul : u % 64 < 64 := Nat.mod_lt _ (by decide)
        rw [mu_if]
        by_cases e : 4 * l + u / 64 = 4 * l + (j + 1) / 64
        · rw [if_pos e, gb_or hml hul, ← e, h0u]
          by_cases e2 : u = j + 1
          · rw [e2, decide_eq_true (show jo (j + 1) (n - w + 1) (w - 1) = po by omega)]; simp
          · rw [decide_eq_false (show ¬ u % 64 = (j + 1) % 64 by omega), Bool.or_false]
            congr 1; simp; omega
        · rw [if_neg e, h0u]
          congr 1
          have : u ≠ j + 1 := fun z => e (by rw [z])
          simp; omega
      · refine tell1 hn1 hn hw1 hw hpo hl h33 f (j + 1) J (by omega) (fun u u1 u2 => ?_) kq
        rw [h0 u u1 u2]
        by_cases e2 : u = j + 1
        · rw [e2, decide_eq_false (show ¬ jo (j + 1) (n - w + 1) (w - 1) = po by omega)]; simp
        · congr 1; simp; omega
end
theorem ca_sight {SL : Nat} {xs : Nat → Int32} {d : Nat} {h : mm_H} {Q : Option Value → mm_H → Prop} {a0 : Int32} {a1 : Int32} {a2 : Int32} (hd : 150 ≤ d) (hiv : iv h) (k : ∀ (r : Int32) (h1 : mm_H), h1.2.1 65 = .inr 9 → (∀ Q2 : Option Value → mm_H → Prop, (∀ h2, iv h2 → Q2 (some (.int r)) h2) → mm_s SL xs d 262 [.ref 65, .int a0, .int a1, .int a2] h1 Q2) → Q (some (.int r)) h1) : mm_s SL xs d 147 [.ref 2, .int a0, .int a1, .int a2] h Q := by
  obtain ⟨e, rfl⟩ : ∃ e, d = e + 20 := ⟨d - 20, by omega⟩
  obtain ⟨_, _, p, s, q, I, J, rfl, P, bg, x, hR, hM⟩ := hiv
  have hS : QS p s q P bg x I J := ⟨hR, hM⟩
  obtain ⟨l, l1, l2, l3, l4⟩ := hR.2.2.2.2.2.2.2.1
  obtain ⟨lt, lt1, lt2, lt3⟩ := hR.2.2.2.2.2.2.1
  refine sg_X10_sight ⟨fun h => k _ _ rfl (fun Q2 k2 => sg_X11_sight ⟨fun _ => k2 _ (QS_iv hS), fun h2 => absurd h h2⟩), fun h => ?_⟩
  have h' := h
  rw [pl_z, Classical.not_not] at h'
  obtain ⟨n, n1, n2, rfl⟩ := h'
  obtain ⟨w, w1, w2, rfl⟩ := z_of a1
  obtain ⟨po, p1, p2, rfl⟩ := z_of a2
  rw [z_lt (by omega), z_lt (by omega), z_lt (by omega), z_lt (by omega)]
  refine ⟨fun h2 => k _ _ rfl (fun Q2 k2 => sg_X11_sight ⟨fun z => absurd z h, fun _ => ⟨fun _ => k2 _ (QS_iv hS), fun z => absurd (by rw [z_lt (by omega)]; exact h2) z⟩⟩), fun h2 => ⟨fun h3 => k _ _ rfl (fun Q2 k2 => sg_X11_sight ⟨fun z => absurd z h, fun _ => ⟨fun z => absurd (by rw [z_lt (by omega)] at z; exact z) h2, fun _ => ⟨fun _ => k2 _ (QS_iv hS), fun z => absurd (by rw [z_lt (by omega)]; exact h3) z⟩⟩⟩), fun h3 => ⟨fun h4 => k _ _ rfl (fun Q2 k2 => sg_X11_sight ⟨fun z => absurd z h, fun _ => ⟨fun z => absurd (by rw [z_lt (by omega)] at z; exact z) h2, fun _ => ⟨fun z => absurd (by rw [z_lt (by omega)] at z; exact z) h3, fun _ => ⟨fun _ => k2 _ (QS_iv hS), fun z => absurd (by rw [z_lt (by omega)]; exact h4) z⟩⟩⟩⟩), fun h4 => ⟨fun h5 => ?_, fun h5 => k _ _ rfl (fun Q2 k2 => sg_X11_sight ⟨fun z => absurd z h, fun _ => ⟨fun z => absurd (by rw [z_lt (by omega)] at z; exact z) h2, fun _ => ⟨fun z => absurd (by rw [z_lt (by omega)] at z; exact z) h3, fun _ => ⟨fun z => absurd (by rw [z_lt (by omega)] at z; exact z) h4, fun _ => ⟨fun _ => k2 _ (QS_iv hS), fun z => absurd (by rw [z_le (by omega)]; omega) z⟩⟩⟩⟩⟩)⟩⟩⟩⟩
  refine sg_X8_tell ?_
  rw [l2, z_lt (by omega), z_lt (by omega)]
  refine ⟨fun z => absurd z (by omega), fun _ => ⟨fun h6 => ⟨z_inN (by omega) (by omega), ?_⟩, fun h6 => ⟨_, _, _, rfl, rfl, k _ _ rfl (fun Q2 k2 => sg_X11_sight ⟨fun z => absurd z h, fun _ => ⟨fun z => absurd (by rw [z_lt (by omega)] at z; exact z) h2, fun _ => ⟨fun z => absurd (by rw [z_lt (by omega)] at z; exact z) h3, fun _ => ⟨fun z => absurd (by rw [z_lt (by omega)] at z; exact z) h4, fun _ => ⟨fun z => absurd (by rw [z_le (by omega)] at z; exact z) (by omega), fun _ => ⟨fun _ => k2 _ (QS_iv hS), fun z => absurd (by rw [l3, z_eq (by omega)]; omega) z⟩⟩⟩⟩⟩⟩)⟩⟩⟩
  obtain ⟨ww, rfl⟩ : ∃ ww : Nat, w = (ww : Int) := ⟨w.toNat, by omega⟩
  obtain ⟨pp, rfl⟩ : ∃ pp : Nat, po = (pp : Int) := ⟨po.toNat, by omega⟩
  have e4 : Int32.ofInt (l : Nat) * Int32.ofInt 4 = Int32.ofInt ((4 * l : Nat) : Int) := by rw [z_mul]; congr 1; omega
  rw [e4, z_ixN (by omega), lt2]
  refine tell0 (l := l) (by omega) 4 0 J rfl (fun r hr => absurd hr (Nat.not_lt_zero r)) (fun J1 g1 g2 g3 => ?_)
  refine tell1 (n := n) (w := ww) (po := pp) (l := l) n1 n2 (by omega) (by omega) (by omega) (by omega) (by rw [mu_row (by omega), mu_row (by omega)]; exact l2) 200 0 J1 rfl (fun u u1 u2 => ?_) (fun J2 g4 g5 g6 => ⟨_, _, _, rfl, rfl, k _ _ rfl (fun Q2 k2 => sg_X11_sight ⟨fun z => absurd z h, fun _ => ⟨fun z => absurd (by rw [z_lt (by omega)] at z; exact z) h2, fun _ => ⟨fun z => absurd (by rw [z_lt (by omega)] at z; exact z) h3, fun _ => ⟨fun z => absurd (by rw [z_lt (by omega)] at z; exact z) h4, fun _ => ⟨fun z => absurd (by rw [z_le (by omega)] at z; exact z) (by omega), fun _ => ⟨fun z => ?_, fun _ => ⟨?_, ?_⟩⟩⟩⟩⟩⟩⟩)⟩)
  · unfold gbit; rw [g3 (u / 64) (by omega), gb_0, decide_eq_false (by omega)]; rfl
  · change I 65 88 = Int32.ofInt 40 at z
    rw [l3, z_eq (by omega)] at z; omega
  · change vp_in (I 65 88) 40
    rw [l3]; exact z_inN (by omega) (by omega)
  · have e88 : (mm_u (mm_u (mm_u I 34 l (Int32.ofInt (lt : Nat))) 35 l (Int32.ofInt (-1))) 33 0 (Int32.ofInt ((l + 1 : Nat) : Int))) 65 88 = Int32.ofInt (l : Nat) := l3
    have e89 : (mm_u (mm_u (mm_u I 34 l (Int32.ofInt (lt : Nat))) 35 l (Int32.ofInt (-1))) 33 0 (Int32.ofInt ((l + 1 : Nat) : Int))) 65 89 = Int32.ofInt (lt : Nat) := lt3
    rw [e88, e89, z_ixN (by omega), z_p1, z_m1 (by omega)]
    refine k2 _ (iv_mk ⟨P, bg, x, RX_u hR (fun r hr => by rw [mu_row (by omega), mu_row (by omega), mu_row (by omega), mu_row (by omega), mu_row (by omega), mu_row (by omega), mu_row (by omega), mu_row (by omega), mu_row (by omega)]) (fun j a b => by rw [mu_ne (by omega), mu_row (by omega), mu_row (by omega), mu_row (by omega), mu_row (by omega), mu_row (by omega), mu_row (by omega), mu_row (by omega), mu_row (by omega)]) (fun r hr => by rw [g4 r (by omega), g1 r (by omega)]) hR.2.2.1 hR.2.2.2.1 hR.2.2.2.2.1 hR.2.2.2.2.2.1 hR.2.2.2.2.2.2.1 ⟨l + 1, by omega, rfl, rfl, fun i hi => ?_⟩, hM⟩)
    by_cases ei : i = l
    · subst ei
      refine ⟨n, ww, pp, lt, -1, n1, n2, by omega, by omega, by omega, lt1, by omega, by omega, (show mm_u I 100 i (Int32.ofInt (n : Nat)) 100 i = _ from mu_at), (show mm_u I 101 i (Int32.ofInt (ww : Nat)) 101 i = _ from mu_at), (show mm_u I 102 i (Int32.ofInt (pp : Nat)) 102 i = _ from mu_at), (show mm_u I 103 i (Int32.ofInt (lt : Nat)) 103 i = _ from mu_at), (show mm_u I 34 i (Int32.ofInt (lt : Nat)) 34 i = _ from mu_at), (show mm_u I 104 i (Int32.ofInt (-1)) 104 i = _ from mu_at), (show mm_u (mm_u I 34 i (Int32.ofInt (lt : Nat))) 35 i (Int32.ofInt (-1)) 35 i = _ from mu_at), fun v v1 v2 => g6 v v1 v2⟩
    · obtain ⟨n', w', po', t', u', u1, u2, u3, u4, u5, u6, u7, u8, u9, u10, u11, u12, u13, u14, u15, u16⟩ := l4 i (by omega)
      refine ⟨n', w', po', t', u', u1, u2, u3, u4, u5, u6, u7, u8, ?_, ?_, ?_, ?_, ?_, ?_, ?_, fun v v1 v2 => ?_⟩
      · show mm_u I 100 l _ 100 i = _; rw [mu_ne ei]; exact u9
      · show mm_u I 101 l _ 101 i = _; rw [mu_ne ei]; exact u10
      · show mm_u I 102 l _ 102 i = _; rw [mu_ne ei]; exact u11
      · show mm_u I 103 l _ 103 i = _; rw [mu_ne ei]; exact u12
      · show mm_u I 34 l _ 34 i = _; rw [mu_ne ei]; exact u13
      · show mm_u I 104 l _ 104 i = _; rw [mu_ne ei]; exact u14
      · show mm_u I 35 l _ 35 i = _; rw [mu_ne ei]; exact u15
      · have := u16 v v1 v2
        rw [g5 _ (by omega), g2 _ (by omega)]; exact this
