/-! the class's course -/
def FrC (o : Nat) (I I2 : Nat → Nat → Int32) (J J2 : Nat → Nat → Int64) : Prop := (∀ x, x < o ∨ o + 3 < x → I2 x = I x) ∧ ∀ x, x ≠ o → J2 x = J x
def CR (o : Nat) (c : crT) (I : Nat → Nat → Int32) (J : Nat → Nat → Int64) : Prop := J o 1 = bs (c_S c) ∧ (∀ i, i < 60 → I (o + 1) i = Int32.ofInt (c_H c i : Nat)) ∧ I o 2 = Int32.ofInt (c_g c : Nat) ∧ I o 3 = Int32.ofInt (c_f c) ∧ I o 4 = Int32.ofInt (c_e c) ∧ I o 9 = Int32.ofInt (c_b c : Nat) ∧ I o 10 = Int32.ofInt (c_l c : Nat)
def CW (o : Nat) (W : Nat → Int) (I : Nat → Nat → Int32) : Prop := ∀ i, i < 60 → I (o + 2) i = Int32.ofInt (W i)
def CL (o : Nat) (L : Nat × (Nat → Nat)) (I : Nat → Nat → Int32) : Prop := L.1 ≤ 60 ∧ I o 5 = Int32.ofInt (L.1 : Nat) ∧ ∀ i, i < L.1 → I (o + 3) i = Int32.ofInt (L.2 i : Nat)
def PR (a : Nat) (P : plT) (I : Nat → Nat → Int32) (J : Nat → Nat → Int64) : Prop := I a 0 = Int32.ofInt (p_n P : Nat) ∧ I a 2 = Int32.ofInt (p_k P : Nat) ∧ I a 3 = Int32.ofInt (p_t P : Nat) ∧ I a 4 = Int32.ofInt (p_a P : Nat) ∧ I a 5 = Int32.ofInt (p_b P) ∧ J a 6 = bs (p_g P)
theorem ne_ac {a o : Nat} (ha : isP a) (ho : isC o) : (a < o ∨ o + 3 < a) ∧ (a + 6 < o ∨ o + 3 < a) := by
  rcases ha with rfl | rfl <;> rcases ho with rfl | rfl | rfl | rfl | rfl | rfl <;> exact ⟨by omega, by omega⟩
theorem nx_c {n t : Nat} {up : Bool} (h : t < n) (hn : n ≤ 60) : sx_X6_next (Int32.ofInt (t : Int)) (Int32.ofInt (n : Int)) (zB up) = Int32.ofInt ((nx n up t : Nat) : Int) := by
  unfold sx_X6_next nx
  rw [z_0]
  cases up with
  | true =>
    rw [if_neg (by rw [zB_0]; decide), z_p1]
    by_cases q : t + 1 < n
    · rw [if_neg (by rw [z_le (by omega)]; omega), if_pos rfl, if_pos q]
    · rw [if_pos (by rw [z_le (by omega)]; omega), if_pos rfl, if_neg q]; rfl
  | false =>
    rw [if_pos (by rw [zB_0])]
    by_cases q : 0 < t
    · rw [if_neg (by rw [z_le (by omega)]; omega), if_neg (by decide), if_pos q, z_m1 (by omega)]
    · rw [if_pos (by rw [z_le (by omega)]; omega), if_neg (by decide), if_neg q, z_m1 (by omega)]
theorem look_c {o a : Nat} {P : plT} {c : crT} {M : Nat} {I : Nat → Nat → Int32} {J : Nat → Nat → Int64} (hP : pw P) (hc : cw P c M) (hpr : PR a P I J) (hcr : CR o c I J) : sy_X1_firstLook o a (zB (sec P c)) (zB (upw P c)) I J = Int32.ofInt (frm P c : Nat) := by
  obtain ⟨r1, r2, r3, r4, r5, r6⟩ := hpr
  obtain ⟨s1, s2, s3, s4, s5, s6, s7⟩ := hcr
  obtain ⟨p1, p2, p3, p4, p5, p6, p7, p8, p9⟩ := hP
  obtain ⟨c1, c2, c3, c4, c5, c6, c7, c8, c9, c10⟩ := hc
  unfold sy_X1_firstLook
  rw [s4, s5, s6, r5, r1]
  cases hs : sec P c with
  | true =>
    have hb : p_b P ≠ -1 := by unfold sec at hs; exact (of_decide_eq_true hs).1
    rw [if_neg (by rw [zB_0]; decide)]
    by_cases q : c_e c = -1
    · have ef : frm P c = (p_b P).toNat := by unfold frm was; simp [hs, q]
      rw [if_pos (by rw [q]), if_neg (by rw [zB_0]; decide), ef, Int.toNat_of_nonneg (by omega)]
    · have ef : frm P c = nx (p_n P) (upw P c) (c_e c).toNat := by unfold frm was; simp [hs, q]
      have e : Int32.ofInt (c_e c) = Int32.ofInt (((c_e c).toNat : Nat) : Int) := by congr 1; omega
      rw [if_neg (by rw [z_eq (by omega)]; exact q), ef, e, nx_c (by omega) p2]
  | false =>
    rw [if_pos (by rw [zB_0])]
    by_cases q : c_f c = -1
    · have ef : frm P c = c_b c := by unfold frm was; simp [hs, q]
      rw [if_pos (by rw [q]), if_pos (by rw [zB_0]), ef]
    · have ef : frm P c = nx (p_n P) (upw P c) (c_f c).toNat := by unfold frm was; simp [hs, q]
      have e : Int32.ofInt (c_f c) = Int32.ofInt (((c_f c).toNat : Nat) : Int) := by congr 1; omega
      rw [if_neg (by rw [z_eq (by omega)]; exact q), ef, e, nx_c (by omega) p2]
def gW (P : plT) (c : crT) (k : Nat) (W : Nat → Int) : Nat → Int := fun i => if i = hit P c k ∧ gw P c k = true then ((c_g c + 1 : Nat) : Int) else W i
def gL (P : plT) (c : crT) (k : Nat) (L : Nat × (Nat → Nat)) : Nat × (Nat → Nat) := if gw P c k = true ∧ L.1 < 60 then (L.1 + 1, fun i => if i = L.1 then hit P c k else L.2 i) else L
section
variable {SL : Nat} {xs : Nat → Int32} {d : Nat} {p s q : Nat} {Q : Option Value → mm_H → Prop} {I : Nat → Nat → Int32} {J : Nat → Nat → Int64}
theorem c_isTurned {o a : Nat} {P : plT} {g : Nat} (ho : isC o) (ha : isP a) (hP : pw P) (hg : g ≤ 100000) (h3 : I a 3 = Int32.ofInt (p_t P : Nat)) (h2 : I o 2 = Int32.ofInt (g : Nat)) (k : Q (some (.int (zB (decide (0 < p_t P ∧ g / p_t P % 2 = 1))))) (hp p s q I J)) : mm_s SL xs (d + 1) 17 [.ref o, .ref a] (hp p s q I J) Q := by
  have p5 := hP.2.2.2.2.1
  refine sg_X1_isTurned ha ho ?_
  rw [h3, h2]
  refine ⟨fun h => ?_, fun h => ?_⟩
  · rw [z_le (by omega)] at h
    rw [decide_eq_false (by omega)] at k; exact k
  · rw [z_le (by omega)] at h
    refine ⟨by rw [z_eq0 (by omega)]; omega, ?_⟩
    have e1 : Int32.ofInt (g : Int) / Int32.ofInt (p_t P : Int) = Int32.ofInt ((g / p_t P : Nat) : Int) := by rw [z_div (by omega)]; rfl
    have hdl : g / p_t P ≤ g := Nat.div_le_self _ _
    have e2 : Int32.ofInt ((g / p_t P : Nat) : Int) - Int32.ofInt ((g / p_t P : Nat) : Int) / Int32.ofInt 2 * Int32.ofInt 2 = Int32.ofInt ((g / p_t P % 2 : Nat) : Int) := z_remN (b := 2) (by omega) (by omega) (by omega)
    have hml : g / p_t P % 2 < 2 := Nat.mod_lt _ (by decide)
    rw [e1, e2, z_eq (by omega)]
    refine ⟨fun h5 => ?_, fun h5 => ?_⟩
    · rw [decide_eq_true (by omega)] at k; exact k
    · rw [decide_eq_false (by omega)] at k; exact k
theorem c_hit {o a t g : Nat} {P : plT} {S : Nat → Bool} {H : Nat → Nat} {W : Nat → Int} {L : Nat × (Nat → Nat)} (ho : isC o) (ha : isP a) (hP : pw P) (ht : t < 60) (hH : H t ≤ 11) (h4 : I a 4 = Int32.ofInt (p_a P : Nat)) (h6 : J a 6 = bs (p_g P)) (hS : J o 1 = bs S) (hHI : ∀ i, i < 60 → I (o + 1) i = Int32.ofInt (H i : Nat)) (hg : I o 2 = Int32.ofInt (g : Nat)) (hW : CW o W I) (hL : CL o L I) (kq : ∀ I2 J2, FrC o I I2 J J2 → (∀ k, k ≠ 5 → I2 o k = I o k) → J2 o 1 = bs (fun i => if i = t then S i && !decide (nd P t ≤ H t + 1) else S i) → (∀ i, i < 60 → I2 (o + 1) i = Int32.ofInt ((if i = t then H i + 1 else H i : Nat) : Int)) → CW o (fun i => if i = t ∧ decide (nd P t ≤ H t + 1) = true then (g : Int) else W i) I2 → CL o (if decide (nd P t ≤ H t + 1) = true ∧ L.1 < 60 then (L.1 + 1, fun i => if i = L.1 then t else L.2 i) else L) I2 → Q none (hp p s q I2 J2)) : mm_s SL xs (d + 3) 23 [.ref o, .ref a, .int (Int32.ofInt (t : Int))] (hp p s q I J) Q := by
  have hao := ne_ac ha ho
  have p6 := hP.2.2.2.2.2.1
  obtain ⟨l1, l2, l3⟩ := hL
  refine sg_X1_hit ha ho ⟨fun h => ?_, fun _ => ⟨fun _ => ?_, fun h => ?_⟩⟩
  · rw [z_lt (by omega)] at h; omega
  · refine ⟨z_inN ht (by omega), ?_⟩
    rw [z_ixN (by omega), hHI t ht, z_p1, l2]
    have e : sy_X5_hitsToGo a (Int32.ofInt (t : Int)) (mm_u I (o + 1) t (Int32.ofInt ((H t + 1 : Nat) : Int))) J = Int32.ofInt (nd P t : Nat) := by
      unfold sy_X5_hitsToGo nd
      rw [h6, bs_has _ ht, mu_row (by omega), h4]
      by_cases q : p_g P t = true
      · rw [if_pos q, if_pos q, if_neg (by decide)]; exact z_add
      · rw [if_neg q, if_neg q, if_pos rfl, z_p1]
    rw [e, z_le (by have := nd_le hP t; omega)]
    have row : ∀ x, x < o ∨ o + 3 < x → mm_u I (o + 1) t (Int32.ofInt ((H t + 1 : Nat) : Int)) x = I x := fun x hx => mu_row (by omega)
    have hits : ∀ i, i < 60 → mm_u I (o + 1) t (Int32.ofInt ((H t + 1 : Nat) : Int)) (o + 1) i = Int32.ofInt ((if i = t then H i + 1 else H i : Nat) : Int) := by
      intro i hi
      rw [mu_if]
      by_cases q : i = t
      · rw [if_pos q, if_pos q, q]
      · rw [if_neg q, if_neg q, hHI i hi]
    refine ⟨fun h => ?_, fun h => ?_⟩
    · have hd : decide (nd P t ≤ H t + 1) = true := decide_eq_true (by omega)
      have hJ : mm_u J o 1 (J o 1 &&& (sx_X6_bit (Int32.ofInt (t : Int)) ^^^ Int64.ofInt (-1))) o 1 = bs (fun i => if i = t then S i && !decide (nd P t ≤ H t + 1) else S i) := by
        rw [mu_at, hS, bs_one ht, bs_not]
        apply bs_cong
        intro i hi
        rw [hd]
        by_cases q : i = t
        · simp [q]
        · simp [q]
      rw [hd] at hJ kq
      refine ⟨fun h5 => ?_, fun h5 => ⟨?_, ?_⟩⟩
      · rw [z_le (by omega)] at h5
        refine kq _ _ ⟨fun x hx => ?_, fun x hx => mu_row hx⟩ (fun k hk => ?_) hJ (fun i hi => ?_) (fun i hi => ?_) ?_
        · rw [mu_row (by omega)]; exact row x hx
        · rw [mu_row (by omega), mu_row (by omega)]
        · rw [mu_row (by omega)]; exact hits i hi
        · rw [mu_if]
          show _ = Int32.ofInt (if i = t ∧ true = true then (g : Int) else W i)
          by_cases q : i = t
          · rw [if_pos q, if_pos ⟨q, rfl⟩, hg]
          · rw [if_neg q, if_neg (fun z => q z.1), mu_row (by omega)]; exact hW i hi
        · rw [if_neg (by omega)]
          refine ⟨l1, ?_, fun i hi => ?_⟩
          · rw [mu_row (by omega), mu_row (by omega)]; exact l2
          · rw [mu_row (by omega), mu_row (by omega)]; exact l3 i hi
      · rw [z_le (by omega)] at h5; exact z_inN (by omega) (by omega)
      · rw [z_le (by omega)] at h5
        rw [z_ixN (by omega), z_p1]
        refine kq _ _ ⟨fun x hx => ?_, fun x hx => mu_row hx⟩ (fun k hk => ?_) hJ (fun i hi => ?_) (fun i hi => ?_) ?_
        · rw [mu_row (by omega), mu_row (by omega), mu_row (by omega)]; exact row x hx
        · rw [mu_ne hk, mu_row (by omega), mu_row (by omega), mu_row (by omega)]
        · rw [mu_row (by omega), mu_row (by omega), mu_row (by omega)]; exact hits i hi
        · rw [mu_row (by omega), mu_row (by omega), mu_if]
          show _ = Int32.ofInt (if i = t ∧ true = true then (g : Int) else W i)
          by_cases q : i = t
          · rw [if_pos q, if_pos ⟨q, rfl⟩, hg]
          · rw [if_neg q, if_neg (fun z => q z.1), mu_row (by omega)]; exact hW i hi
        · rw [if_pos ⟨rfl, by omega⟩]
          refine ⟨by show L.1 + 1 ≤ 60; omega, mu_at, fun i hi => ?_⟩
          have hi : i < L.1 + 1 := hi
          rw [mu_row (by omega), mu_if]
          show _ = Int32.ofInt (((if i = L.1 then t else L.2 i : Nat)) : Int)
          by_cases q : i = L.1
          · rw [if_pos q, if_pos q]
          · rw [if_neg q, if_neg q, mu_row (by omega), mu_row (by omega)]; exact l3 i (by omega)
    · have hd : decide (nd P t ≤ H t + 1) = false := decide_eq_false (by omega)
      rw [hd] at kq
      refine kq _ _ ⟨row, fun x hx => rfl⟩ (fun k hk => by rw [mu_row (by omega)]) ?_ hits (fun i hi => ?_) ?_
      · rw [hS]
        apply bs_cong
        intro i hi
        by_cases q : i = t
        · simp [q]
        · simp [q]
      · rw [mu_row (by omega)]
        show _ = Int32.ofInt (if i = t ∧ false = true then (g : Int) else W i)
        rw [if_neg (by simp)]; exact hW i hi
      · rw [if_neg (by simp)]
        refine ⟨l1, ?_, fun i hi => ?_⟩
        · rw [mu_row (by omega)]; exact l2
        · rw [mu_row (by omega)]; exact l3 i hi
  · rw [z_lt (by omega)] at h; omega
theorem go_tail {o a k M : Nat} {P : plT} {c : crT} {W : Nat → Int} {L : Nat × (Nat → Nat)} {sd : Bool} (hsd : sec P c = sd) (ho : isC o) (ha : isP a) (hP : pw P) (hc : cw P c M) (hs : 0 < sta P c) (hM : M ≤ 900) (hpr : PR a P I J) (hcr : CR o c I J) (hW : CW o W I) (hL : CL o L I) (kq : ∀ I2 J2, FrC o I I2 J J2 → CR o (gs P c k) I2 J2 → CW o (gW P c k W) I2 → CL o (gL P c k L) I2 → Q none (hp p s q I2 J2)) : mm_s SL xs (d + 4) 23 [.ref o, .ref a, .int (Int32.ofInt (hit P c k : Nat))] (hp p s q (mm_u (mm_u (mm_u I o 2 (I o 2 + Int32.ofInt 1)) o 10 (Int32.ofInt (k : Int))) o (if sd then 4 else 3) (Int32.ofInt (hit P c k : Nat))) J) (fun r_ h_ => ∃ I5 J5, r_ = none ∧ h_ = hp p s q I5 J5 ∧ Q none (hp p s q I5 J5)) := by
  have hao := ne_ac ha ho
  obtain ⟨h1, h2⟩ := hit_ok (P := P) (c := c) k hs
  have hn := hP.2.1
  obtain ⟨r1, r2, r3, r4, r5, r6⟩ := hpr
  obtain ⟨s1, s2, s3, s4, s5, s6, s7⟩ := hcr
  have hfs : (if sd then 4 else 3) = 4 ∧ sd = true ∨ (if sd then 4 else 3) = 3 ∧ sd = false := by cases sd <;> simp
  generalize (if sd then 4 else 3) = fs at hfs ⊢
  refine c_hit (S := c_S c) (H := c_H c) (W := W) (L := L) (g := c_g c + 1) ho ha hP (by omega) (hc.2.2.1 _ (by omega)) ?_ r6 s1 ?_ ?_ ?_ ?_ (fun I2 J2 f1 f2 f3 f4 f5 f6 => ⟨_, _, rfl, rfl, kq I2 J2 ⟨fun x hx => ?_, f1.2⟩ ⟨f3, f4, ?_, ?_, ?_, ?_, ?_⟩ f5 f6⟩)
  · rw [mu_row (by omega), mu_row (by omega), mu_row (by omega)]; exact r4
  · intro i hi; rw [mu_row (by omega), mu_row (by omega), mu_row (by omega)]; exact s2 i hi
  · rw [mu_ne (by omega), mu_ne (by omega), mu_at, s3, z_p1]
  · intro i hi; rw [mu_row (by omega), mu_row (by omega), mu_row (by omega)]; exact hW i hi
  · refine ⟨hL.1, ?_, fun i hi => ?_⟩
    · rw [mu_ne (by omega), mu_ne (by omega), mu_ne (by omega)]; exact hL.2.1
    · rw [mu_row (by omega), mu_row (by omega), mu_row (by omega)]; exact hL.2.2 i hi
  · rw [f1.1 x hx, mu_row (by omega), mu_row (by omega), mu_row (by omega)]
  · rw [f2 2 (by omega), mu_ne (by omega), mu_ne (by omega), mu_at, s3, z_p1]; rfl
  · rw [f2 3 (by omega)]
    show _ = Int32.ofInt (if sec P c then c_f c else (hit P c k : Int))
    rw [hsd]
    rcases hfs with ⟨rfl, rfl⟩ | ⟨rfl, rfl⟩
    · rw [mu_ne (by omega), mu_ne (by omega), mu_ne (by omega), s4]; rfl
    · rw [mu_at]; rfl
  · rw [f2 4 (by omega)]
    show _ = Int32.ofInt (if sec P c then (hit P c k : Int) else c_e c)
    rw [hsd]
    rcases hfs with ⟨rfl, rfl⟩ | ⟨rfl, rfl⟩
    · rw [mu_at]; rfl
    · rw [mu_ne (by omega), mu_ne (by omega), mu_ne (by omega), s5]; rfl
  · rw [f2 9 (by omega), mu_ne (by omega), mu_ne (by omega), mu_ne (by omega)]; exact s6
  · rw [f2 10 (by omega), mu_ne (by omega), mu_at]; rfl
theorem c_goOnce {o a k M : Nat} {P : plT} {c : crT} {W : Nat → Int} {L : Nat × (Nat → Nat)} (ho : isC o) (ha : isP a) (hP : pw P) (hc : cw P c M) (hs : 0 < sta P c) (hM : M ≤ 900) (hk : 1 ≤ k) (hk2 : k ≤ 1000) (hpr : PR a P I J) (hcr : CR o c I J) (hW : CW o W I) (hL : CL o L I) (kq : ∀ I2 J2, FrC o I I2 J J2 → CR o (gs P c k) I2 J2 → CW o (gW P c k W) I2 → CL o (gL P c k L) I2 → Q none (hp p s q I2 J2)) : mm_s SL xs (d + 5) 21 [.ref o, .ref a, .int (Int32.ofInt (k : Int))] (hp p s q I J) Q := by
  have hpb := hP.2.2.2.2.2.2.1
  have hpb2 := hP.2.2.2.2.2.2.2.1
  have hn := hP.2.1
  have hg : c_g c ≤ 900 := by have := hc.2.2.2.2.2.2.2.2.2; omega
  have hml : c_g c % 2 < 2 := Nat.mod_lt _ (by decide)
  have eg : I o 2 - I o 2 / Int32.ofInt 2 * Int32.ofInt 2 = Int32.ofInt ((c_g c % 2 : Nat) : Int) := by rw [hcr.2.2.1]; exact z_remN (b := 2) (by omega) (by omega) (by omega)
  have tail : ∀ sd : Bool, sec P c = sd → ∀ up : Bool, upw P c = up → mm_s SL xs (d + 4) 70 [.long (J o 1), .int (sy_X1_firstLook o a (zB sd) (zB up) I J), .int (zB up), .int (Int32.ofInt (k : Int))] (hp p s q I J) (fun r_ h_ => ∃ x4 I4 J4, r_ = some (.int x4) ∧ h_ = hp p s q I4 J4 ∧ (mm_s SL xs (d + 4) 23 [.ref o, .ref a, .int x4] (hp p s q (mm_u (mm_u (mm_u I4 o 2 ((I4 o 2) + (Int32.ofInt 1))) o 10 (Int32.ofInt (k : Int))) o (if sd then 4 else 3) x4) J4) (fun r_ h_ => ∃ I5 J5, r_ = none ∧ h_ = hp p s q I5 J5 ∧ Q none (hp p s q I5 J5)))) := by
    intro sd hsd up hup
    rw [← hsd, ← hup, look_c hP hc hpr hcr, hcr.1]
    refine c_counted hn hc.1 hs (frm_lt hP hc) hk hk2 ⟨_, _, _, rfl, rfl, ?_⟩
    rw [hsd]
    exact go_tail hsd ho ha hP hc hs hM hpr hcr hW hL kq
  have sel2 : ∀ sd : Bool, sec P c = sd → mm_s SL xs (d + 4) 17 [.ref o, .ref a] (hp p s q I J) (fun r_ h_ => ∃ x1 I1 J1, r_ = some (.int x1) ∧ h_ = hp p s q I1 J1 ∧ ((zB sd = x1 → (mm_s SL xs (d + 4) 70 [.long (J1 o 1), .int (sy_X1_firstLook o a (zB sd) (Int32.ofInt 1) I1 J1), .int (Int32.ofInt 1), .int (Int32.ofInt (k : Int))] (hp p s q I1 J1) (fun r_ h_ => ∃ x4 I4 J4, r_ = some (.int x4) ∧ h_ = hp p s q I4 J4 ∧ (mm_s SL xs (d + 4) 23 [.ref o, .ref a, .int x4] (hp p s q (mm_u (mm_u (mm_u I4 o 2 ((I4 o 2) + (Int32.ofInt 1))) o 10 (Int32.ofInt (k : Int))) o (if sd then 4 else 3) x4) J4) (fun r_ h_ => ∃ I5 J5, r_ = none ∧ h_ = hp p s q I5 J5 ∧ Q none (hp p s q I5 J5)))))) ∧ (¬ (zB sd = x1) → (mm_s SL xs (d + 4) 70 [.long (J1 o 1), .int (sy_X1_firstLook o a (zB sd) (Int32.ofInt 0) I1 J1), .int (Int32.ofInt 0), .int (Int32.ofInt (k : Int))] (hp p s q I1 J1) (fun r_ h_ => ∃ x2 I2 J2, r_ = some (.int x2) ∧ h_ = hp p s q I2 J2 ∧ (mm_s SL xs (d + 4) 23 [.ref o, .ref a, .int x2] (hp p s q (mm_u (mm_u (mm_u I2 o 2 ((I2 o 2) + (Int32.ofInt 1))) o 10 (Int32.ofInt (k : Int))) o (if sd then 4 else 3) x2) J2) (fun r_ h_ => ∃ I3 J3, r_ = none ∧ h_ = hp p s q I3 J3 ∧ Q none (hp p s q I3 J3)))))))) := by
    intro sd hsd
    refine c_isTurned (g := c_g c) ho ha hP (by omega) hpr.2.2.1 hcr.2.2.1 ⟨_, _, _, rfl, rfl, fun h => ?_, fun h => ?_⟩
    · refine tail sd hsd true ?_
      show (sec P c == tur P c) = true
      rw [hsd]
      change zB sd = zB (tur P c) at h
      revert h
      cases sd <;> cases tur P c <;> simp [zB] <;> decide
    · refine tail sd hsd false ?_
      show (sec P c == tur P c) = false
      rw [hsd]
      change ¬ zB sd = zB (tur P c) at h
      revert h
      cases sd <;> cases tur P c <;> simp [zB]
  refine sg_X1_goOnce ha ho ⟨fun h => ?_, fun h => ⟨fun h2 => ?_, fun h2 => ?_⟩⟩
  · rw [hpr.2.2.2.2.1, z_eq (by omega)] at h
    exact sel2 false (decide_eq_false (fun z => z.1 h))
  · rw [hpr.2.2.2.2.1, z_eq (by omega)] at h
    rw [eg, z_eq (by omega)] at h2
    exact sel2 true (decide_eq_true ⟨h, by omega⟩)
  · rw [eg, z_eq (by omega)] at h2
    exact sel2 false (decide_eq_false (fun z => h2 (by omega)))
end
