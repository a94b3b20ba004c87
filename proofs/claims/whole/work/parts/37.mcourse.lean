/-! the reference's course -/
def FrM (I I2 : Nat → Nat → Int32) : Prop := (∀ x, x ≠ 65 → x ≠ 72 → x ≠ 73 → (x < 87 ∨ 91 < x) → I2 x = I x) ∧ ∀ k, k < 59 ∨ k = 63 ∨ 64 < k → I2 65 k = I 65 k
theorem FrM_t {I I2 I3 : Nat → Nat → Int32} (h : FrM I I2) (h2 : FrM I2 I3) : FrM I I3 := ⟨fun x a b c e => by rw [h2.1 x a b c e, h.1 x a b c e], fun k a => by rw [h2.2 k a, h.2 k a]⟩
theorem FrM_r (I : Nat → Nat → Int32) : FrM I I := ⟨fun _ _ _ _ _ => rfl, fun _ _ => rfl⟩
def MR (P : plT) (c : crT) (I : Nat → Nat → Int32) : Prop := (∀ i, i < 60 → I 91 i = zB (c_S c i)) ∧ (∀ i, i < 60 → I 87 i = Int32.ofInt (c_H c i : Nat)) ∧ I 65 59 = Int32.ofInt (sta P c : Nat) ∧ I 65 60 = Int32.ofInt (c_g c : Nat) ∧ I 65 62 = Int32.ofInt (c_l c : Nat) ∧ I 65 63 = Int32.ofInt (c_b c : Nat) ∧ I 65 64 = zB (tur P c) ∧ I 90 0 = Int32.ofInt (c_f c) ∧ I 90 1 = Int32.ofInt (c_e c)
def MW (W : Nat → Int) (I : Nat → Nat → Int32) : Prop := ∀ i, i < 60 → I 88 i = Int32.ofInt (W i)
def ML (L : Nat × (Nat → Nat)) (I : Nat → Nat → Int32) : Prop := L.1 ≤ 60 ∧ I 65 61 = Int32.ofInt (L.1 : Nat) ∧ ∀ i, i < L.1 → I 89 i = Int32.ofInt (L.2 i : Nat)
def wh (u : Int) : Int := if 0 ≤ u then 0 else if u = -145 then 1 else if u = -146 then 2 else if u = -147 then 3 else if u = -148 then 4 else if u = -149 then 5 else if u = -142 then 20 else if u = -143 then 21 else if u = -144 then 22 else if u = -61 then 23 else if u = -60 then 24 else if u = -62 then 25 else if u = -43 then 26 else if u = -45 then 27 else if u = -42 then 28 else 29
def MG (P : plT) (I : Nat → Nat → Int32) : Prop := ∃ (gn : Nat) (A B : Nat → Nat), gn ≤ 8 ∧ I 65 42 = Int32.ofInt (gn : Nat) ∧ (∀ j, j < gn → A j < 60 ∧ B j < 60 ∧ I 80 j = Int32.ofInt (A j : Nat) ∧ I 81 j = Int32.ofInt (B j : Nat)) ∧ ∀ i, i < 60 → (p_g P i = true ↔ ∃ j, j < gn ∧ A j ≤ i ∧ i ≤ B j)
def MC (P : plT) (I : Nat → Nat → Int32) : Prop := (I 65 53 = Int32.ofInt 0 ∧ ∀ x y z, p_c P x y z = 3) ∨ (¬ I 65 53 = Int32.ofInt 0 ∧ ∃ (u : Nat → Int) (m : Nat) (w g : Int32), m ≤ 360 ∧ I 65 20 = Int32.ofInt (m : Nat) ∧ (∀ i, i < m → I 69 i = Int32.ofInt (wh (u i)) ∧ (0 ≤ u i → I 70 i = Int32.ofInt (u i))) ∧ I 65 45 = w ∧ I 65 46 = g ∧ wfo u m ∧ ∀ x y z : Nat, p_c P x y z = clp (est (Int32.ofInt (x : Nat)) (Int32.ofInt (y : Nat)) (Int32.ofInt (z : Nat)) w g u m 0))
def MP (P : plT) (I : Nat → Nat → Int32) : Prop := I 65 47 = Int32.ofInt (p_n P : Nat) ∧ I 65 49 = Int32.ofInt (p_k P : Nat) ∧ I 65 50 = Int32.ofInt (p_t P : Nat) ∧ I 65 51 = Int32.ofInt (p_a P : Nat) ∧ I 65 52 = Int32.ofInt (p_b P) ∧ MG P I ∧ MC P I
theorem MG_c {P : plT} {I I2 : Nat → Nat → Int32} (a : I2 65 42 = I 65 42) (b : I2 80 = I 80) (c : I2 81 = I 81) (h : MG P I) : MG P I2 := by
  unfold MG at h ⊢
  rw [a, b, c]; exact h
theorem MC_c {P : plT} {I I2 : Nat → Nat → Int32} (a : I2 65 53 = I 65 53) (b : I2 65 20 = I 65 20) (c : I2 65 45 = I 65 45) (e : I2 65 46 = I 65 46) (f : I2 69 = I 69) (g : I2 70 = I 70) (h : MC P I) : MC P I2 := by
  unfold MC at h ⊢
  rw [a, b, c, e, f, g]; exact h
theorem MP_fr {P : plT} {I I2 : Nat → Nat → Int32} (f : FrM I I2) (h : MP P I) : MP P I2 := by
  obtain ⟨h1, h2, h3, h4, h5, h6, h7⟩ := h
  refine ⟨?_, ?_, ?_, ?_, ?_, MG_c (f.2 42 (by omega)) (f.1 80 (by omega) (by omega) (by omega) (by omega)) (f.1 81 (by omega) (by omega) (by omega) (by omega)) h6, MC_c (f.2 53 (by omega)) (f.2 20 (by omega)) (f.2 45 (by omega)) (f.2 46 (by omega)) (f.1 69 (by omega) (by omega) (by omega) (by omega)) (f.1 70 (by omega) (by omega) (by omega) (by omega)) h7⟩
  · rw [f.2 47 (by omega)]; exact h1
  · rw [f.2 49 (by omega)]; exact h2
  · rw [f.2 50 (by omega)]; exact h3
  · rw [f.2 51 (by omega)]; exact h4
  · rw [f.2 52 (by omega)]; exact h5
theorem dv_s {g t : Nat} (ht : 0 < t) : ((g + 1) % t = 0 → (g + 1) / t = g / t + 1) ∧ (¬ (g + 1) % t = 0 → (g + 1) / t = g / t) := by
  have e := Nat.div_add_mod g t
  have hl := Nat.mod_lt g ht
  have e2 : g + 1 = t * (g / t) + (g % t + 1) := by omega
  have ed : (g + 1) / t = g / t + (g % t + 1) / t := by rw [e2, Nat.mul_add_div ht]
  have em : (g + 1) % t = (g % t + 1) % t := by rw [e2, Nat.mul_add_mod]
  rcases Nat.lt_or_ge (g % t + 1) t with q | q
  · rw [em, ed, Nat.mod_eq_of_lt q, Nat.div_eq_of_lt q]
    exact ⟨fun h => by omega, fun _ => rfl⟩
  · have e3 : g % t + 1 = t := by omega
    rw [em, ed, e3, Nat.mod_self, Nat.div_self ht]
    exact ⟨fun _ => rfl, fun h => absurd rfl h⟩
theorem tur_gs {P : plT} {c : crT} {k : Nat} : tur P (gs P c k) = if 0 < p_t P ∧ (c_g c + 1) % p_t P = 0 then !tur P c else tur P c := by
  unfold tur
  show decide (0 < p_t P ∧ (c_g c + 1) / p_t P % 2 = 1) = _
  by_cases ht : 0 < p_t P
  · obtain ⟨d1, d2⟩ := dv_s (g := c_g c) ht
    by_cases q : (c_g c + 1) % p_t P = 0
    · rw [if_pos ⟨ht, q⟩, d1 q, ← decide_not]
      congr 1
      exact propext (by omega)
    · rw [if_neg (fun z => q z.2), d2 q]
  · rw [if_neg (fun z => ht z.1)]
    congr 1
    exact propext (by omega)
section
variable {SL : Nat} {xs : Nat → Int32} {d : Nat} {p s q : Nat} {Q : Option Value → mm_H → Prop} {I : Nat → Nat → Int32} {J : Nat → Nat → Int64}
theorem m_worked {u : Int} {a b : Int32} (hv : vc u) (hn : ¬ u = -144) (hj : jn u = true) (k : Q (some (.int (jo2 u a b))) (hp p s q I J)) : mm_s SL xs (d + 1) 205 [.int (Int32.ofInt (wh u)), .int a, .int b] (hp p s q I J) Q := by
  have hj2 := of_decide_eq_true hj
  have hu : u = -142 ∨ u = -143 ∨ u = -61 ∨ u = -60 ∨ u = -62 ∨ u = -43 ∨ u = -45 ∨ u = -42 ∨ u = -47 := by unfold vc at hv; omega
  unfold jo2 at k
  rcases hu with rfl | rfl | rfl | rfl | rfl | rfl | rfl | rfl | rfl
  · refine sg_X11_worked ⟨fun _ => ⟨fun h0 => ⟨fun h1 => ?_, fun h1 => ?_⟩, fun h0 => ?_⟩, fun h => absurd h (by decide), fun h => absurd h (by decide), fun h => absurd h (by decide), fun h => absurd h (by decide), fun h => absurd h (by decide), fun h => absurd h (by decide), fun h => absurd h (by decide), fun h => absurd rfl h⟩
    · rw [if_neg (by decide), if_neg (by decide), if_neg (by decide), if_neg (by decide), if_neg (by decide), if_neg (by decide), if_neg (by decide), if_pos rfl, if_pos h0, if_pos h1] at k; exact k
    · rw [if_neg (by decide), if_neg (by decide), if_neg (by decide), if_neg (by decide), if_neg (by decide), if_neg (by decide), if_neg (by decide), if_pos rfl, if_pos h0, if_neg h1] at k; exact k
    · rw [if_neg (by decide), if_neg (by decide), if_neg (by decide), if_neg (by decide), if_neg (by decide), if_neg (by decide), if_neg (by decide), if_pos rfl, if_neg h0] at k; exact k
  · refine sg_X11_worked ⟨fun h => absurd h (by decide), fun _ => ⟨fun h0 => ?_, fun h0 => ⟨fun h1 => ?_, fun h1 => ?_⟩⟩, fun h => absurd h (by decide), fun h => absurd h (by decide), fun h => absurd h (by decide), fun h => absurd h (by decide), fun h => absurd h (by decide), fun h => absurd h (by decide), fun _ h => absurd rfl h⟩
    · rw [if_neg (by decide), if_neg (by decide), if_neg (by decide), if_neg (by decide), if_neg (by decide), if_neg (by decide), if_neg (by decide), if_neg (by decide), if_pos h0] at k; exact k
    · rw [if_neg (by decide), if_neg (by decide), if_neg (by decide), if_neg (by decide), if_neg (by decide), if_neg (by decide), if_neg (by decide), if_neg (by decide), if_neg h0, if_pos h1] at k; exact k
    · rw [if_neg (by decide), if_neg (by decide), if_neg (by decide), if_neg (by decide), if_neg (by decide), if_neg (by decide), if_neg (by decide), if_neg (by decide), if_neg h0, if_neg h1] at k; exact k
  · refine sg_X11_worked ⟨fun h => absurd h (by decide), fun h => absurd h (by decide), fun _ => ⟨fun h0 => ?_, fun h0 => ?_⟩, fun h => absurd h (by decide), fun h => absurd h (by decide), fun h => absurd h (by decide), fun h => absurd h (by decide), fun h => absurd h (by decide), fun _ _ h => absurd rfl h⟩
    · rw [if_neg (by decide), if_neg (by decide), if_neg (by decide), if_neg (by decide), if_neg (by decide), if_pos rfl, if_pos h0] at k; exact k
    · rw [if_neg (by decide), if_neg (by decide), if_neg (by decide), if_neg (by decide), if_neg (by decide), if_pos rfl, if_neg h0] at k; exact k
  · refine sg_X11_worked ⟨fun h => absurd h (by decide), fun h => absurd h (by decide), fun h => absurd h (by decide), fun _ => ⟨fun h0 => ?_, fun h0 => ?_⟩, fun h => absurd h (by decide), fun h => absurd h (by decide), fun h => absurd h (by decide), fun h => absurd h (by decide), fun _ _ _ h => absurd rfl h⟩
    · rw [if_neg (by decide), if_neg (by decide), if_neg (by decide), if_neg (by decide), if_pos rfl, if_pos h0] at k; exact k
    · rw [if_neg (by decide), if_neg (by decide), if_neg (by decide), if_neg (by decide), if_pos rfl, if_neg h0] at k; exact k
  · refine sg_X11_worked ⟨fun h => absurd h (by decide), fun h => absurd h (by decide), fun h => absurd h (by decide), fun h => absurd h (by decide), fun _ => ⟨fun h0 => ?_, fun h0 => ?_⟩, fun h => absurd h (by decide), fun h => absurd h (by decide), fun h => absurd h (by decide), fun _ _ _ _ h => absurd rfl h⟩
    · rw [if_neg (by decide), if_neg (by decide), if_neg (by decide), if_neg (by decide), if_neg (by decide), if_neg (by decide), if_pos rfl, if_pos h0] at k; exact k
    · rw [if_neg (by decide), if_neg (by decide), if_neg (by decide), if_neg (by decide), if_neg (by decide), if_neg (by decide), if_pos rfl, if_neg h0] at k; exact k
  · exact sg_X11_worked ⟨fun h => absurd h (by decide), fun h => absurd h (by decide), fun h => absurd h (by decide), fun h => absurd h (by decide), fun h => absurd h (by decide), fun _ => k, fun h => absurd h (by decide), fun h => absurd h (by decide), fun _ _ _ _ _ h => absurd rfl h⟩
  · exact sg_X11_worked ⟨fun h => absurd h (by decide), fun h => absurd h (by decide), fun h => absurd h (by decide), fun h => absurd h (by decide), fun h => absurd h (by decide), fun h => absurd h (by decide), fun _ => k, fun h => absurd h (by decide), fun _ _ _ _ _ _ h => absurd rfl h⟩
  · exact sg_X11_worked ⟨fun h => absurd h (by decide), fun h => absurd h (by decide), fun h => absurd h (by decide), fun h => absurd h (by decide), fun h => absurd h (by decide), fun h => absurd h (by decide), fun h => absurd h (by decide), fun _ => k, fun _ _ _ _ _ _ _ h => absurd rfl h⟩
  · refine sg_X11_worked ⟨fun h => absurd h (by decide), fun h => absurd h (by decide), fun h => absurd h (by decide), fun h => absurd h (by decide), fun h => absurd h (by decide), fun h => absurd h (by decide), fun h => absurd h (by decide), fun h => absurd h (by decide), fun _ _ _ _ _ _ _ _ => ⟨fun h0 => ?_, fun h0 => ⟨h0, ?_⟩⟩⟩
    · rw [if_neg (by decide), if_neg (by decide), if_neg (by decide), if_pos rfl, if_pos h0] at k; exact k
    · rw [if_neg (by decide), if_neg (by decide), if_neg (by decide), if_pos rfl, if_neg h0] at k; exact k
theorem counted_loop {m : Nat} {u : Nat → Int} {w g x y z : Int32} (hm : m ≤ 360) (hw : wfo u m) : ∀ (f i : Nat) (I : Nat → Nat → Int32), i + f = m → I 65 20 = Int32.ofInt (m : Nat) → (∀ i, i < m → I 69 i = Int32.ofInt (wh (u i)) ∧ (0 ≤ u i → I 70 i = Int32.ofInt (u i))) → I 73 1 = x → I 73 2 = y → I 73 3 = z → I 73 4 = w → I 73 5 = g → (∀ j, j < dpt u i → I 72 j = est x y z w g u i j) → (∀ I2 : Nat → Nat → Int32, (∀ r, r ≠ 72 → I2 r = I r) → Q (some (.int (Int32.ofInt (clp (est x y z w g u m 0) : Nat)))) (hp p s q I2 J)) → w_X11_counted_75 SL xs d p s q Q (Int32.ofInt (dpt u i : Nat)) (Int32.ofInt (i : Nat)) I J
  | 0, i, I, hf, h20, hu, hx, hy, hz, h4, h5, hst, kq => by
    obtain rfl : i = m := by omega
    have h0 : (Int32.ofInt 0).toNatClampNeg = 0 := z_ixN (t := 0) (by omega)
    have kq := kq I (fun r _ => rfl)
    have e := hst 0 hw.1
    refine sg_X11_counted_75 ⟨fun _ => ⟨z_inN (t := 0) (by omega) (by omega), ?_⟩, fun h => ?_⟩
    · rw [h0, e]
      obtain ⟨t, t1, t2, te⟩ := z_of (est x y z w g u i 0)
      rw [te] at kq ⊢
      unfold clp at kq
      rw [z_to t1 t2] at kq
      rw [z_le (by omega), z_le (by omega)]
      refine ⟨fun a => ⟨fun b => ?_, fun b => ?_⟩, fun a => ?_⟩
      · rw [if_neg (by omega), if_neg (by omega), Int.toNat_of_nonneg (by omega)] at kq; exact kq
      · rw [if_neg (by omega), if_pos (by omega)] at kq; exact kq
      · rw [if_pos (by omega)] at kq; exact kq
    · rw [h20, z_le (by omega)] at h; omega
  | f + 1, i, I, hf, h20, hu, hx, hy, hz, h4, h5, hst, kq => by
    obtain ⟨v1, v2, v3, v4, v5⟩ := hw.2 i (by omega)
    have hr := vc_r v1
    obtain ⟨u1, u2⟩ := hu i (by omega)
    have hwr : 0 ≤ wh (u i) ∧ wh (u i) ≤ 29 := by unfold wh; repeat' split
                                                  all_goals omega
    have hw20 : (20 ≤ wh (u i)) ↔ (u i = -144 ∨ jn (u i) = true) := by
      unfold jn
      rw [decide_eq_true_eq]
      unfold wh
      unfold vc at v1
      repeat' split
      all_goals omega
    have hw22 : (wh (u i) = 22) ↔ u i = -144 := by
      unfold wh
      unfold vc at v1
      repeat' split
      all_goals omega
    refine sg_X11_counted_75 ⟨fun h => ?_, fun _ => ⟨z_inN (by omega) (by omega), ?_⟩⟩
    · rw [h20, z_le (by omega)] at h; omega
    · rw [z_ixN (by omega), u1, z_p1, z_le (by omega), z_eq (by omega), z_eq (by omega)]
      refine ⟨fun h => ⟨fun hn => ?_, fun hn => ?_⟩, fun h => ?_⟩
      · have hn := hw22.mp hn
        have h1 := v3 hn
        rw [z_m1 h1]
        refine ⟨z_inN (by omega) (by omega), ?_⟩
        rw [z_ixN (by omega), hst _ (by omega)]
        have ed := dpt_not hn
        refine ⟨fun h0 => ?_, fun h0 => ?_⟩
        · rw [← ed]
          refine counted_loop hm hw f (i + 1) _ (by omega) h20 hu hx hy hz h4 h5 (fun j hj => ?_) (fun I2 h2 => kq I2 (fun r hr => by rw [h2 r hr, mu_row hr]))
          rw [ed] at hj
          rw [mu_if, est_not hn, if_pos h0, ed, hst j hj]
        · rw [← ed]
          refine counted_loop hm hw f (i + 1) _ (by omega) h20 hu hx hy hz h4 h5 (fun j hj => ?_) (fun I2 h2 => kq I2 (fun r hr => by rw [h2 r hr, mu_row hr]))
          rw [ed] at hj
          rw [mu_if, est_not hn, if_neg h0, ed, hst j hj]
      · have hn : ¬ u i = -144 := fun z => hn (hw22.mpr z)
        have hj : jn (u i) = true := by rcases hw20.mp h with z | z; exact absurd z hn; exact z
        have h5' := v4 hn hj
        have e1 : Int32.ofInt (dpt u i : Nat) + Int32.ofInt (-1) = Int32.ofInt ((dpt u i - 1 : Nat) : Int) := by rw [z_add]; congr 1; omega
        rw [e1, z_m1 (by omega)]
        refine ⟨z_inN (by omega) (by omega), z_inN (by omega) (by omega), ?_⟩
        rw [z_ixN (by omega), z_ixN (by omega), hst _ (by omega), hst _ (by omega)]
        refine m_worked v1 hn hj ⟨_, _, _, rfl, rfl, ?_⟩
        rw [← dpt_jn hn hj]
        refine counted_loop hm hw f (i + 1) _ (by omega) h20 hu hx hy hz h4 h5 (fun j hj2 => ?_) (fun I2 h2 => kq I2 (fun r hr => by rw [h2 r hr, mu_row hr]))
        rw [dpt_jn hn hj] at hj2 ⊢
        rw [mu_if, est_jn hn hj, show dpt u i - 1 - 1 = dpt u i - 2 by omega]
        by_cases e : j = dpt u i - 2
        · rw [if_pos e, if_pos e]
        · rw [if_neg e, if_neg e, hst j (by omega)]
      · have hn : ¬ u i = -144 := fun z => h (hw20.mpr (Or.inl z))
        have hj : jn (u i) = false := by cases hjj : jn (u i) with | false => rfl | true => exact absurd (hw20.mpr (Or.inr hjj)) h
        have h5' := v5 hn hj
        have fin : ∀ v : Int32, v = vlo (u i) x y z w g → w_X11_counted_75 SL xs d p s q Q (Int32.ofInt (dpt u i : Nat) + Int32.ofInt 1) (Int32.ofInt ((i + 1 : Nat) : Int)) (mm_u I 72 ((Int32.ofInt (dpt u i : Nat)).toNatClampNeg) v) J := by
          intro v hv
          rw [z_ixN (by omega), z_p1, ← dpt_vl hn hj]
          refine counted_loop hm hw f (i + 1) _ (by omega) h20 hu hx hy hz h4 h5 (fun j hj2 => ?_) (fun I2 h2 => kq I2 (fun r hr => by rw [h2 r hr, mu_row hr]))
          rw [dpt_vl hn hj] at hj2
          rw [mu_if, est_vl hn hj]
          by_cases e : j = dpt u i
          · rw [if_pos e, if_pos e, hv]
          · rw [if_neg e, if_neg e, hst j (by omega)]
        have hu2 : (0 ≤ u i) ∨ u i = -145 ∨ u i = -146 ∨ u i = -147 ∨ u i = -148 ∨ u i = -149 := by
          have := of_decide_eq_false hj
          unfold vc at v1; omega
        refine ⟨fun h0 => ⟨z_inN (by omega) (by omega), fin _ ?_⟩, fun h0 => ⟨?_, z_inN (by omega) (by omega), fin _ ?_⟩⟩
        · have h0' : 0 ≤ u i := by
            rcases hu2 with z | z | z | z | z | z
            · exact z
            all_goals (rw [z] at h0; exact absurd h0 (by decide))
          rw [u2 h0']
          unfold vlo
          rw [if_neg (by omega), if_neg (by omega), if_neg (by omega), if_neg (by omega), if_neg (by omega)]
        · rcases hu2 with z | z | z | z | z | z
          · exact absurd (show wh (u i) = 0 by unfold wh; rw [if_pos z]) h0
          · rw [z]; exact z_inN (t := 1) (by omega) (by omega)
          · rw [z]; exact z_inN (t := 2) (by omega) (by omega)
          · rw [z]; exact z_inN (t := 3) (by omega) (by omega)
          · rw [z]; exact z_inN (t := 4) (by omega) (by omega)
          · rw [z]; exact z_inN (t := 5) (by omega) (by omega)
        · rcases hu2 with z' | z' | z' | z' | z' | z'
          · exact absurd (show wh (u i) = 0 by unfold wh; rw [if_pos z']) h0
          · rw [z']; exact hx
          · rw [z']; exact hy
          · rw [z']; exact hz
          · rw [z']; exact h4
          · rw [z']; exact h5
theorem m_counted {P : plT} {c : crT} {g1 ins : Nat} (hmp : MP P I) (hins : I 65 76 = Int32.ofInt (ins : Nat)) (hi : ins ≤ 999) (h60 : I 65 60 = Int32.ofInt (g1 : Nat)) (h59 : I 65 59 = Int32.ofInt (sta P c : Nat)) (h62 : I 65 62 = Int32.ofInt (c_l c : Nat)) (kq : ∀ I2 : Nat → Nat → Int32, (∀ r, r ≠ 72 → r ≠ 73 → I2 r = I r) → Q (some (.int (Int32.ofInt ((if 0 < ins then ins else p_c P g1 (sta P c) (c_l c) : Nat) : Int)))) (hp p s q I2 J)) : mm_s SL xs (d + 2) 206 [.ref 65] (hp p s q I J) Q := by
  have hmc := hmp.2.2.2.2.2.2
  refine sg_X11_counted ⟨fun h => ⟨fun h0 => ?_, fun h0 => ?_⟩, fun h => ?_⟩
  · rw [hins, z_le (by omega)] at h
    rcases hmc with ⟨_, m2⟩ | ⟨m1, _⟩
    · rw [if_neg (by omega), m2] at kq; exact kq I (fun r _ _ => rfl)
    · exact absurd h0 m1
  · rw [hins, z_le (by omega)] at h
    rcases hmc with ⟨m1, _⟩ | ⟨_, u, m, w, g, m1, m2, m3, m4, m5, m6, m7⟩
    · exact absurd m1 h0
    · rw [if_neg (by omega), m7] at kq
      refine ⟨z_inN (t := 1) (by omega) (by omega), z_inN (t := 2) (by omega) (by omega), z_inN (t := 3) (by omega) (by omega), z_inN (t := 4) (by omega) (by omega), z_inN (t := 5) (by omega) (by omega), ?_⟩
      refine counted_loop (u := u) (w := w) (g := g) m1 m6 m 0 _ (Nat.zero_add m) m2 m3 ?_ ?_ ?_ ?_ ?_ (fun j hj => absurd hj (Nat.not_lt_zero j)) (fun I2 h2 => kq I2 (fun r hr hr2 => ?_))
      · exact h60
      · exact h59
      · exact h62
      · exact m4
      · exact m5
      · rw [h2 r hr, mu_row hr2, mu_row hr2, mu_row hr2, mu_row hr2, mu_row hr2]
  · rw [hins, z_le (by omega)] at h
    rw [if_pos (by omega)] at kq
    rw [hins]
    exact kq I (fun r _ _ => rfl)
theorem guarded_loop {gn t : Nat} {A B : Nat → Nat} (hg : gn ≤ 8) (ht : t < 60) (h42 : I 65 42 = Int32.ofInt (gn : Nat)) (hab : ∀ j, j < gn → A j < 60 ∧ B j < 60 ∧ I 80 j = Int32.ofInt (A j : Nat) ∧ I 81 j = Int32.ofInt (B j : Nat)) : ∀ (f j : Nat) (b : Bool), j + f = gn → (∀ b2 : Bool, (b2 = true ↔ b = true ∨ ∃ i, j ≤ i ∧ i < gn ∧ A i ≤ t ∧ t ≤ B i) → Q (some (.int (zB b2))) (hp p s q I J)) → w_X11_isGuarded_4 SL xs d p s q Q (Int32.ofInt (t : Nat)) (zB b) (Int32.ofInt (j : Nat)) I J
  | 0, j, b, hf, kq => by
    refine sg_X11_isGuarded_4 ⟨fun _ => ⟨?_, kq b ⟨Or.inl, fun h => ?_⟩⟩, fun h => ?_⟩
    · cases b <;> decide
    · rcases h with h | ⟨i, h1, h2, _⟩
      · exact h
      · omega
    · rw [h42, z_le (by omega)] at h; omega
  | f + 1, j, b, hf, kq => by
    obtain ⟨a1, a2, a3, a4⟩ := hab j (by omega)
    refine sg_X11_isGuarded_4 ⟨fun h => ?_, fun _ => ⟨fun hb => ⟨z_inN (by omega) (by omega), ?_⟩, fun hb => ?_⟩⟩
    · rw [h42, z_le (by omega)] at h; omega
    · rw [zB_0] at hb
      rw [z_ixN (by omega), a3, a4, z_lt (by omega), z_lt (by omega), z_p1]
      refine ⟨fun h1 => ?_, fun h1 => ⟨fun h2 => ?_, fun h2 => ?_⟩⟩
      · refine guarded_loop hg ht h42 hab f (j + 1) false (by omega) (fun b2 h => kq b2 (h.trans ?_))
        rw [hb]
        exact ⟨fun z => by
          rcases z with z | ⟨i, i1, i2⟩
          · exact absurd z (by decide)
          · exact Or.inr ⟨i, by omega, i2⟩, fun z => by
          rcases z with z | ⟨i, i1, i2, i3, i4⟩
          · exact absurd z (by decide)
          · by_cases e : i = j
            · subst e; omega
            · exact Or.inr ⟨i, by omega, i2, i3, i4⟩⟩
      · refine guarded_loop hg ht h42 hab f (j + 1) false (by omega) (fun b2 h => kq b2 (h.trans ?_))
        rw [hb]
        exact ⟨fun z => by
          rcases z with z | ⟨i, i1, i2⟩
          · exact absurd z (by decide)
          · exact Or.inr ⟨i, by omega, i2⟩, fun z => by
          rcases z with z | ⟨i, i1, i2, i3, i4⟩
          · exact absurd z (by decide)
          · by_cases e : i = j
            · subst e; omega
            · exact Or.inr ⟨i, by omega, i2, i3, i4⟩⟩
      · exact guarded_loop hg ht h42 hab f (j + 1) true (by omega) (fun b2 h => kq b2 (h.trans ⟨fun _ => Or.inr ⟨j, by omega, by omega, by omega, by omega⟩, fun _ => Or.inl rfl⟩))
    · rw [zB_0] at hb
      obtain rfl : b = true := by simpa using hb
      rw [z_p1]
      exact guarded_loop hg ht h42 hab f (j + 1) true (by omega) (fun b2 h => kq b2 (h.trans ⟨fun _ => Or.inl rfl, fun _ => Or.inl rfl⟩))
theorem m_isGuarded {P : plT} {t : Nat} (hg : MG P I) (ht : t < 60) (k : Q (some (.int (zB (p_g P t)))) (hp p s q I J)) : mm_s SL xs (d + 1) 207 [.ref 65, .int (Int32.ofInt (t : Nat))] (hp p s q I J) Q := by
  obtain ⟨gn, A, B, h1, h2, h3, h4⟩ := hg
  refine sg_X11_isGuarded ?_
  refine guarded_loop (A := A) (B := B) h1 ht h2 h3 gn 0 false (Nat.zero_add gn) (fun b2 h => ?_)
  have e : b2 = p_g P t := by
    have h5 := h4 t ht
    have h6 : b2 = true ↔ p_g P t = true := h.trans ⟨fun z => by
      rcases z with z | ⟨i, _, i2, i3, i4⟩
      · exact absurd z (by decide)
      · exact h5.mpr ⟨i, i2, i3, i4⟩, fun z => by
      obtain ⟨i, i2, i3, i4⟩ := h5.mp z
      exact Or.inr ⟨i, by omega, i2, i3, i4⟩⟩
    exact Bool.eq_iff_iff.mpr h6
  rw [e]; exact k
end
