section
variable {SL : Nat} {xs : Nat → Int32} {d : Nat} {p s q : Nat} {Q : Option Value → mm_H → Prop} {J : Nat → Nat → Int64}
theorem m_walk {n t : Nat} {S : Nat → Bool} {up : Bool} {v1 v2 v3 : Int32} {I : Nat → Nat → Int32} (hn : n ≤ 60) (hS : S t = true) (ht : t < n) (h47 : I 65 47 = Int32.ofInt (n : Nat)) (h91 : ∀ i, i < 60 → I 91 i = zB (S i)) (hx : w_X11_going_162 SL xs d p s q Q v1 v2 v3 (Int32.ofInt ((if up then 1 else n - 1 : Nat) : Int)) (Int32.ofInt (t : Nat)) (Int32.ofInt 0) I J) : ∀ (D r rest : Nat), dst n up r t = D → r < n → 1 ≤ rest → rest ≤ fb_ct S n → fb_ct S t = rk S n up r rest → w_X11_going_149 SL xs d p s q Q v1 v2 v3 (Int32.ofInt ((if up then 1 else n - 1 : Nat) : Int)) (Int32.ofInt (r : Nat)) (Int32.ofInt (rest : Nat)) I J
  | 0, r, rest, hD, hr, h1, h2, e => by
    obtain rfl := (dst_0 hr ht).mp hD
    obtain rfl := wk_stop hS ht h1 h2 e
    refine sg_X11_going_149 ⟨z_inN (by omega) (by omega), ?_⟩
    rw [z_ixN (by omega), h91 r (by omega), zB_0, hS]
    exact ⟨fun h => absurd h (by decide), fun _ => hx⟩
  | D + 1, r, rest, hD, hr, h1, h2, e => by
    have ne : r ≠ t := fun z => by rw [(dst_0 hr ht).mpr z] at hD; omega
    have hcl : fb_ct S n ≤ n := fb_ct_le S n
    obtain ⟨o1, o2, o3⟩ := wk_on hS ht hr h1 h2 e ne
    have hst : (if up then 1 else n - 1 : Nat) ≤ 60 := by split <;> omega
    have next : ∀ r2, r2 = (if S r then rest - 1 else rest) → 1 ≤ r2 → r2 ≤ fb_ct S n → w_X11_going_162 SL xs d p s q Q v1 v2 v3 (Int32.ofInt ((if up then 1 else n - 1 : Nat) : Int)) (Int32.ofInt (r : Nat)) (Int32.ofInt (r2 : Nat)) I J := by
      intro r2 e2 g1 g2
      refine sg_X11_going_162 ⟨fun z => ?_, fun _ => ⟨?_, ?_⟩⟩
      · rw [z_eq (by omega)] at z; omega
      · rw [h47, z_eq0 (by omega)]; omega
      · have ea : Int32.ofInt (r : Nat) + Int32.ofInt ((if up then 1 else n - 1 : Nat) : Int) = Int32.ofInt ((r + (if up then 1 else n - 1) : Nat) : Int) := by rw [z_add]; rfl
        rw [h47, ea, z_remN (by omega) (by omega) (by omega), nx_mod up hr]
        exact m_walk hn hS ht h47 h91 hx D _ r2 (by omega) (nx_lt up hr) g1 g2 (by rw [e2]; exact o2)
    refine sg_X11_going_149 ⟨z_inN (by omega) (by omega), ?_⟩
    rw [z_ixN (by omega), h91 r (by omega), zB_0]
    refine ⟨fun h => next rest (by rw [h]; rfl) h1 h2, fun h => ?_⟩
    have hs : S r = true := by simpa using h
    have := o1 hs
    have em : Int32.ofInt (rest : Nat) + Int32.ofInt (-1) = Int32.ofInt ((rest - 1 : Nat) : Int) := by rw [z_add]; congr 1; omega
    rw [em]
    exact next (rest - 1) (by rw [hs]; rfl) (by omega) (by omega)
theorem m_turn {P : plT} {c : crT} {k M : Nat} {v1 v2 v3 v4 v5 v6 : Int32} {I : Nat → Nat → Int32} (hP : pw P) (hc : cw P c M) (hM : M ≤ 900) (h50 : I 65 50 = Int32.ofInt (p_t P : Nat)) (h60 : I 65 60 = Int32.ofInt ((c_g c + 1 : Nat) : Int)) (h64 : I 65 64 = zB (tur P c)) (kq : ∀ I2 : Nat → Nat → Int32, (∀ x, x ≠ 65 → I2 x = I x) → (∀ k, k ≠ 64 → I2 65 k = I 65 k) → I2 65 64 = zB (tur P (gs P c k)) → Q none (hp p s q I2 J)) : w_X11_going_243 SL xs d p s q Q v1 v2 v3 v4 v5 v6 I J := by
  have hg := hc.2.2.2.2.2.2.2.2.2
  have p5 := hP.2.2.2.2.1
  rw [tur_gs] at kq
  refine sg_X11_going_243 ⟨fun h => ?_, fun h => ⟨?_, ?_⟩⟩
  · rw [h50, z_le (by omega)] at h
    rw [if_neg (by omega)] at kq
    exact kq I (fun _ _ => rfl) (fun _ _ => rfl) h64
  · rw [h50, z_le (by omega)] at h
    rw [h50, z_eq0 (by omega)]; omega
  · rw [h50, z_le (by omega)] at h
    have hm : (c_g c + 1) % p_t P < p_t P := Nat.mod_lt _ (by omega)
    rw [h50, h60, z_remN (by omega) (by omega) (by omega), z_eq (by omega), h64, zB_0]
    refine ⟨fun h0 => ⟨fun h1 => ?_, fun h1 => ?_⟩, fun h0 => ?_⟩
    · rw [if_pos (by omega), h1] at kq
      exact kq _ (fun x hx => mu_row hx) (fun k hk => mu_ne hk) mu_at
    · have h1 : tur P c = true := by simpa using h1
      rw [if_pos (by omega), h1] at kq
      exact kq _ (fun x hx => mu_row hx) (fun k hk => mu_ne hk) mu_at
    · rw [if_neg (by omega)] at kq
      exact kq I (fun _ _ => rfl) (fun _ _ => rfl) h64
theorem m_tail {P : plT} {c : crT} {k M who : Nat} {v1 v2 v3 v4 : Int32} {W : Nat → Int} {L : Nat × (Nat → Nat)} {I : Nat → Nat → Int32} (hP : pw P) (hc : cw P c M) (hM : M ≤ 900) (hs : 0 < sta P c) (hmp : MP P I) (hv1 : v1 = Int32.ofInt (who : Nat)) (hwho : who = if sec P c then 1 else 0) (h91 : ∀ i, i < 60 → I 91 i = zB (c_S c i)) (h87 : ∀ i, i < 60 → I 87 i = Int32.ofInt (c_H c i : Nat)) (h59 : I 65 59 = Int32.ofInt (sta P c : Nat)) (h60 : I 65 60 = Int32.ofInt ((c_g c + 1 : Nat) : Int)) (h62 : I 65 62 = Int32.ofInt (k : Nat)) (h63 : I 65 63 = Int32.ofInt (c_b c : Nat)) (h64 : I 65 64 = zB (tur P c)) (hf : I 90 0 = Int32.ofInt (c_f c)) (he : I 90 1 = Int32.ofInt (c_e c)) (hW : MW W I) (hL : ML L I) (hL2 : L.1 + sta P c ≤ 60) (kq : ∀ I2 : Nat → Nat → Int32, FrM I I2 → MR P (gs P c k) I2 → MW (gW P c k W) I2 → ML (gL P c k L) I2 → Q none (hp p s q I2 J)) : w_X11_going_162 SL xs d p s q Q v1 v2 v3 v4 (Int32.ofInt (hit P c k : Nat)) (Int32.ofInt 0) I J := by
  subst hv1
  obtain ⟨t1, t2⟩ := hit_ok (P := P) (c := c) k hs
  have hn := hP.2.1
  have hg := hc.2.2.2.2.2.2.2.2.2
  have hH := hc.2.1 _ t2
  have hnd := nd_le hP (hit P c k)
  have hpa := hP.2.2.2.2.2.1
  have hsta := gs_sta (P := P) (c := c) (k := k) hs
  have hwl : who ≤ 1 := by rw [hwho]; split <;> omega
  generalize ht : hit P c k = t at *
  -- who is hit, as the two rows have it
  have fin : ∀ I3 : Nat → Nat → Int32, (∀ x, x ≠ 65 → x ≠ 72 → x ≠ 73 → (x < 87 ∨ 91 < x) → I3 x = I x) → (∀ j, j ≠ 59 → j ≠ 61 → I3 65 j = I 65 j) → (∀ i, i < 60 → I3 91 i = zB (c_S (gs P c k) i)) → (∀ i, i < 60 → I3 87 i = Int32.ofInt (c_H (gs P c k) i : Nat)) → I3 65 59 = Int32.ofInt (sta P (gs P c k) : Nat) → (∀ i, I3 90 i = if i = who then Int32.ofInt (t : Nat) else I 90 i) → MW (gW P c k W) I3 → ML (gL P c k L) I3 → w_X11_going_243 SL xs d p s q Q (Int32.ofInt (who : Nat)) v2 v3 v4 (Int32.ofInt (t : Nat)) (Int32.ofInt 0) I3 J := by
    intro I3 f1 f2 f3 f4 f5 f6 f7 f8
    refine m_turn (k := k) hP hc hM ?_ ?_ ?_ (fun I4 g1 g2 g3 => kq I4 ⟨fun x a b c e => ?_, fun j hj => ?_⟩ ⟨fun i hi => ?_, fun i hi => ?_, ?_, ?_, ?_, ?_, g3, ?_, ?_⟩ (fun i hi => ?_) ⟨f8.1, ?_, fun i hi => ?_⟩)
    · rw [f2 50 (by omega) (by omega)]; exact hmp.2.2.1
    · rw [f2 60 (by omega) (by omega)]; exact h60
    · rw [f2 64 (by omega) (by omega)]; exact h64
    · rw [g1 x a, f1 x a b c e]
    · rw [g2 j (by omega), f2 j (by omega) (by omega)]
    · rw [g1 91 (by omega)]; exact f3 i hi
    · rw [g1 87 (by omega)]; exact f4 i hi
    · rw [g2 59 (by omega)]; exact f5
    · rw [g2 60 (by omega), f2 60 (by omega) (by omega)]; exact h60
    · rw [g2 62 (by omega), f2 62 (by omega) (by omega)]; exact h62
    · rw [g2 63 (by omega), f2 63 (by omega) (by omega)]; exact h63
    · rw [g1 90 (by omega), f6 0]
      show _ = Int32.ofInt (if sec P c then c_f c else (hit P c k : Int))
      rw [ht]
      cases hsc : sec P c <;> rw [hsc] at hwho
      · rw [if_pos (by rw [hwho]; rfl)]; rfl
      · rw [if_neg (by rw [hwho]; decide), hf]; rfl
    · rw [g1 90 (by omega), f6 1]
      show _ = Int32.ofInt (if sec P c then (hit P c k : Int) else c_e c)
      rw [ht]
      cases hsc : sec P c <;> rw [hsc] at hwho
      · rw [if_neg (by rw [hwho]; decide), he]; rfl
      · rw [if_pos (by rw [hwho]; rfl)]; rfl
    · rw [g1 88 (by omega)]; exact f7 i hi
    · rw [g2 61 (by omega)]; exact f8.2.1
    · rw [g1 89 (by omega)]; exact f8.2.2 i hi
  refine sg_X11_going_162 ⟨fun _ => ⟨?_, z_inN (by omega) (by omega), ?_⟩, fun z => absurd rfl z⟩
  · exact z_inN (by omega) (by omega)
  · rw [z_ixN (by omega), z_ixN (by omega), h87 t (by omega), z_p1]
    -- what is hit stands in row 87
    have e87 : ∀ i, i < 60 → mm_u (mm_u I 90 who (Int32.ofInt (t : Nat))) 87 t (Int32.ofInt ((c_H c t + 1 : Nat) : Int)) 87 i = Int32.ofInt (c_H (gs P c k) i : Nat) := by
      intro i hi
      rw [mu_if, gs_H, ht]
      by_cases e : i = t
      · rw [if_pos e, if_pos e, e]
      · rw [if_neg e, if_neg e]; exact h87 i hi
    have e90 : ∀ i, mm_u (mm_u I 90 who (Int32.ofInt (t : Nat))) 87 t (Int32.ofInt ((c_H c t + 1 : Nat) : Int)) 90 i = if i = who then Int32.ofInt (t : Nat) else I 90 i := by
      intro i
      rw [mu_row (by omega), mu_if]
    generalize hI3 : mm_u (mm_u I 90 who (Int32.ofInt (t : Nat))) 87 t (Int32.ofInt ((c_H c t + 1 : Nat) : Int)) = I3 at e87 e90
    have r3 : ∀ x, x ≠ 87 → x ≠ 90 → I3 x = I x := fun x a b => by rw [← hI3, mu_row a, mu_row b]
    have stay : ¬ nd P t ≤ c_H c t + 1 → w_X11_going_243 SL xs d p s q Q (Int32.ofInt (who : Nat)) v2 v3 v4 (Int32.ofInt (t : Nat)) (Int32.ofInt 0) I3 J := by
      intro z
      have hgw : gw P c k = false := by unfold gw; rw [ht]; exact decide_eq_false z
      refine fin I3 (fun x a b c e => r3 x (by omega) (by omega)) (fun j _ _ => by rw [r3 65 (by omega) (by omega)]) (fun i hi => ?_) e87 ?_ e90 (fun i hi => ?_) ?_
      · rw [r3 91 (by omega) (by omega), h91 i hi, gs_S, hgw]; split <;> simp
      · rw [r3 65 (by omega) (by omega), h59, hsta, hgw]; rfl
      · rw [r3 88 (by omega) (by omega)]
        show _ = Int32.ofInt (if i = hit P c k ∧ gw P c k = true then _ else W i)
        rw [hgw, if_neg (by simp)]; exact hW i hi
      · unfold gL
        rw [hgw, if_neg (by simp)]
        exact ⟨hL.1, by rw [r3 65 (by omega) (by omega)]; exact hL.2.1, fun i hi => by rw [r3 89 (by omega) (by omega)]; exact hL.2.2 i hi⟩
    have goes : nd P t ≤ c_H c t + 1 → mm_s SL xs (d + 2) 210 [.ref 65, .int (Int32.ofInt (t : Nat)), .int (I3 65 60)] (hp p s q I3 J) (fun r_ h_ => ∃ I2 J2, r_ = none ∧ h_ = hp p s q I2 J2 ∧ w_X11_going_243 SL xs d p s q Q (Int32.ofInt (who : Nat)) v2 v3 v4 (Int32.ofInt (t : Nat)) (Int32.ofInt 0) I2 J2) := by
      intro z
      have hgw : gw P c k = true := by unfold gw; rw [ht]; exact decide_eq_true z
      have hl60 : L.1 < 60 := by omega
      have e61 : I3 65 61 = Int32.ofInt (L.1 : Nat) := by rw [r3 65 (by omega) (by omega)]; exact hL.2.1
      have e59 : I3 65 59 = Int32.ofInt (sta P c : Nat) := by rw [r3 65 (by omega) (by omega)]; exact h59
      have e60 : I3 65 60 = Int32.ofInt ((c_g c + 1 : Nat) : Int) := by rw [r3 65 (by omega) (by omega)]; exact h60
      refine sg_X11_leaves ⟨z_inN (by omega) (by omega), ?_, _, _, rfl, rfl, ?_⟩
      · rw [e61]; exact z_inN (by omega) (by omega)
      · rw [e61, e59, e60, z_ixN (by omega), z_ixN (by omega), z_m1 hs, z_p1]
        refine fin _ (fun x a b c e => ?_) (fun j j1 j2 => ?_) (fun i hi => ?_) (fun i hi => ?_) ?_ (fun i => ?_) (fun i hi => ?_) ?_
        · rw [mu_row a, mu_row (by omega), mu_row (by omega), mu_row a, mu_row (by omega), r3 x (by omega) (by omega)]
        · rw [mu_ne j2, mu_row (by omega), mu_row (by omega), mu_ne j1, mu_row (by omega), r3 65 (by omega) (by omega)]
        · rw [mu_row (by omega), mu_row (by omega), mu_row (by omega), mu_row (by omega), mu_if, gs_S, ht, hgw]
          by_cases e : i = t
          · rw [if_pos e, if_pos e]; simp [zB]
          · rw [if_neg e, if_neg e, r3 91 (by omega) (by omega)]; exact h91 i hi
        · rw [mu_row (by omega), mu_row (by omega), mu_row (by omega), mu_row (by omega), mu_row (by omega)]; exact e87 i hi
        · rw [mu_ne (by omega), mu_row (by omega), mu_row (by omega), mu_at, hsta, hgw]; rfl
        · rw [mu_row (by omega), mu_row (by omega), mu_row (by omega), mu_row (by omega), mu_row (by omega)]; exact e90 i
        · rw [mu_row (by omega), mu_row (by omega), mu_if]
          show _ = Int32.ofInt (if i = hit P c k ∧ gw P c k = true then ((c_g c + 1 : Nat) : Int) else W i)
          rw [hgw, ht]
          by_cases e : i = t
          · rw [if_pos e, if_pos ⟨e, rfl⟩]
          · rw [if_neg e, if_neg (fun z => e z.1), mu_row (by omega), mu_row (by omega), r3 88 (by omega) (by omega)]; exact hW i hi
        · unfold gL
          rw [hgw, if_pos ⟨rfl, hl60⟩, ht]
          refine ⟨by show L.1 + 1 ≤ 60; omega, mu_at, fun i hi => ?_⟩
          have hi : i < L.1 + 1 := hi
          rw [mu_row (by omega), mu_if]
          show _ = Int32.ofInt ((if i = L.1 then t else L.2 i : Nat) : Int)
          by_cases e : i = L.1
          · rw [if_pos e, if_pos e]
          · rw [if_neg e, if_neg e, mu_row (by omega), mu_row (by omega), mu_row (by omega), r3 89 (by omega) (by omega)]; exact hL.2.2 i (by omega)
    refine m_isGuarded (P := P) (MG_c (I := I) (by rw [r3 65 (by omega) (by omega)]) (r3 80 (by omega) (by omega)) (r3 81 (by omega) (by omega)) hmp.2.2.2.2.2.1) (by omega) ⟨_, _, _, rfl, rfl, ?_⟩
    rw [hmp.2.2.2.1, zB_0]
    have ndt : nd P t = if p_g P t then p_a P + 2 else p_a P + 1 := rfl
    refine ⟨fun h => ?_, fun h => ?_⟩
    · rw [h] at ndt
      rw [z_p1, z_eq (by omega)]
      exact ⟨fun h2 => goes (by rw [ndt]; show p_a P + 1 ≤ _; omega), fun h2 => stay (by rw [ndt] at hH ⊢; change c_H c t < p_a P + 1 at hH; show ¬ p_a P + 1 ≤ _; omega)⟩
    · have h : p_g P t = true := by simpa using h
      rw [h] at ndt
      have e2 : Int32.ofInt (p_a P : Nat) + Int32.ofInt 2 = Int32.ofInt ((p_a P + 2 : Nat) : Int) := by rw [z_add]; rfl
      rw [e2, z_eq (by omega)]
      exact ⟨fun h2 => goes (by rw [ndt]; show p_a P + 2 ≤ _; omega), fun h2 => stay (by rw [ndt] at hH ⊢; change c_H c t < p_a P + 2 at hH; show ¬ p_a P + 2 ≤ _; omega)⟩
theorem m_going {P : plT} {c : crT} {k M ins br : Nat} {W : Nat → Int} {L : Nat × (Nat → Nat)} {I : Nat → Nat → Int32} (hP : pw P) (hc : cw P c M) (hM : M ≤ 900) (hs : 0 < sta P c) (hmp : MP P I) (hmr : MR P c I) (hW : MW W I) (hL : ML L I) (hL2 : L.1 + sta P c ≤ 60) (hins : I 65 76 = Int32.ofInt (ins : Nat)) (hi : ins ≤ 999) (hbr : I 65 77 = Int32.ofInt (br : Nat)) (hb : br ≤ 2000) (hk : k = (if 0 < ins then ins else ncn P c) + (if c_g c + 1 = br then 1 else 0)) (kq : ∀ I2 : Nat → Nat → Int32, FrM I I2 → MR P (gs P c k) I2 → MW (gW P c k W) I2 → ML (gL P c k L) I2 → Q none (hp p s q I2 J)) : mm_s SL xs (d + 3) 209 [.ref 65] (hp p s q I J) Q := by
  obtain ⟨r1, r2, r3, r4, r5, r6, r7, r8, r9⟩ := hmr
  have hn1 := hP.1
  have hn := hP.2.1
  have hpb := hP.2.2.2.2.2.2.1
  have hpb2 := hP.2.2.2.2.2.2.2.1
  have hcc := hc
  obtain ⟨c1, c2, c3, c4, c5, c6, c7, c8, c9, c10⟩ := hc
  have hcn := ncn_ok (c := c) hP
  have hml : (c_g c + 1) % 2 < 2 := Nat.mod_lt _ (by decide)
  have hsn : sta P c ≤ p_n P := fb_ct_le _ _
  have hk1 : 1 ≤ k := by rw [hk]; split <;> omega
  have hk2 : k ≤ 1000 := by rw [hk]; split <;> split <;> omega
  have main : ∀ who : Nat, who = (if sec P c then 1 else 0) → w_X11_going_32 SL xs d p s q Q (Int32.ofInt (who : Nat)) (mm_u I 65 60 (Int32.ofInt ((c_g c + 1 : Nat) : Int))) J := by
    intro who hwho
    have hwl : who ≤ 1 := by rw [hwho]; split <;> omega
    refine sg_X11_going_32 ?_
    refine m_counted (P := P) (c := c) (g1 := c_g c + 1) (ins := ins) ?_ hins hi rfl r3 r5 (fun I1 h1 => ⟨_, _, _, rfl, rfl, ?_⟩)
    · obtain ⟨m1, m2, m3, m4, m5, m6, m7⟩ := hmp
      exact ⟨m1, m2, m3, m4, m5, m6, m7⟩
    · have hrow : ∀ x, x ≠ 65 → x ≠ 72 → x ≠ 73 → I1 x = I x := fun x a b e => by rw [h1 x b e, mu_row a]
      have hfld : ∀ j, j ≠ 60 → I1 65 j = I 65 j := fun j a => by rw [h1 65 (by omega) (by omega), mu_ne a]
      have h60 : I1 65 60 = Int32.ofInt ((c_g c + 1 : Nat) : Int) := by rw [h1 65 (by omega) (by omega), mu_at]
      have rest : w_X11_going_51 SL xs d p s q Q (Int32.ofInt (who : Nat)) (Int32.ofInt (k : Nat)) I1 J := by
        have f1 : FrM I (mm_u I1 65 62 (Int32.ofInt (k : Nat))) := ⟨fun x a b c e => by rw [mu_row a, hrow x a b c], fun j hj => by rw [mu_ne (by omega), hfld j (by omega)]⟩
        have hmp2 := MP_fr f1 hmp
        have h78 : ∀ v3 : Int32, v3 = zB (upw P c) → w_X11_going_78 SL xs d p s q Q (Int32.ofInt (who : Nat)) (Int32.ofInt (k : Nat)) v3 (mm_u I1 65 62 (Int32.ofInt (k : Nat))) J := by
          intro v3 hv3
          have h94 : w_X11_going_94 SL xs d p s q Q (Int32.ofInt (who : Nat)) (Int32.ofInt (k : Nat)) v3 (Int32.ofInt ((if upw P c then 1 else p_n P - 1 : Nat) : Int)) (mm_u I1 65 62 (Int32.ofInt (k : Nat))) J := by
            have h137 : w_X11_going_137 SL xs d p s q Q (Int32.ofInt (who : Nat)) (Int32.ofInt (k : Nat)) v3 (Int32.ofInt ((if upw P c then 1 else p_n P - 1 : Nat) : Int)) (Int32.ofInt (frm P c : Nat)) (mm_u I1 65 62 (Int32.ofInt (k : Nat))) J := by
              have e59 : (mm_u I1 65 62 (Int32.ofInt (k : Nat))) 65 59 = Int32.ofInt (sta P c : Nat) := by rw [mu_ne (by omega), hfld 59 (by omega)]; exact r3
              have hmo : (k - 1) % sta P c < sta P c := Nat.mod_lt _ hs
              refine sg_X11_going_137 ⟨by rw [e59, z_eq0 (by omega)]; omega, ?_⟩
              rw [e59, z_m1 hk1, z_remN (by omega) (by omega) (by omega), z_p1]
              obtain ⟨t1, t2⟩ := hit_ok (P := P) (c := c) k hs
              refine m_walk (S := c_S c) (n := p_n P) (t := hit P c k) hn t2 t1 hmp2.1 ?_ ?_ _ _ _ rfl (frm_lt hP hcc) (by omega) (by show _ ≤ sta P c; omega) (pk_rk _ _ _ hs)
              · intro i hi; rw [mu_row (by omega), hrow 91 (by omega) (by omega) (by omega)]; exact r1 i hi
              · refine m_tail (W := W) (L := L) hP hcc hM hs hmp2 rfl hwho ?_ ?_ e59 ?_ mu_at ?_ ?_ ?_ ?_ ?_ ?_ hL2 (fun I2 g1 g2 g3 g4 => kq I2 (FrM_t f1 g1) g2 g3 g4)
                · intro i hi; rw [mu_row (by omega), hrow 91 (by omega) (by omega) (by omega)]; exact r1 i hi
                · intro i hi; rw [mu_row (by omega), hrow 87 (by omega) (by omega) (by omega)]; exact r2 i hi
                · rw [mu_ne (by omega)]; exact h60
                · rw [mu_ne (by omega), hfld 63 (by omega)]; exact r6
                · rw [mu_ne (by omega), hfld 64 (by omega)]; exact r7
                · rw [mu_row (by omega), hrow 90 (by omega) (by omega) (by omega)]; exact r8
                · rw [mu_row (by omega), hrow 90 (by omega) (by omega) (by omega)]; exact r9
                · intro i hi; rw [mu_row (by omega), hrow 88 (by omega) (by omega) (by omega)]; exact hW i hi
                · exact ⟨hL.1, by rw [mu_ne (by omega), hfld 61 (by omega)]; exact hL.2.1, fun i hi => by rw [mu_row (by omega), hrow 89 (by omega) (by omega) (by omega)]; exact hL.2.2 i hi⟩
            have e90 : ∀ i, (mm_u I1 65 62 (Int32.ofInt (k : Nat))) 90 i = I 90 i := fun i => by rw [mu_row (by omega), hrow 90 (by omega) (by omega) (by omega)]
            have ewas : I 90 who = Int32.ofInt (was P c) := by
              unfold was
              cases hsc : sec P c <;> rw [hsc] at hwho
              · rw [hwho]; exact r8
              · rw [hwho]; exact r9
            have hwr : -1 ≤ was P c ∧ was P c < p_n P := by unfold was; split <;> omega
            refine sg_X11_going_94 ⟨z_inN (by omega) (by omega), ?_⟩
            rw [z_ixN (by omega), e90, ewas, hmp2.1, z_le (by omega)]
            refine ⟨fun h => ⟨by rw [z_eq0 (by omega)]; omega, ?_⟩, fun h => ⟨fun h0 => ?_, fun h0 => ?_⟩⟩
            · have eu : (if upw P c then 1 else p_n P - 1 : Nat) ≤ 60 := by split <;> omega
              have ea : Int32.ofInt (was P c) + Int32.ofInt ((if upw P c then 1 else p_n P - 1 : Nat) : Int) = Int32.ofInt (((was P c).toNat + (if upw P c then 1 else p_n P - 1) : Nat) : Int) := by rw [z_add]; congr 1; omega
              have ef : frm P c = nx (p_n P) (upw P c) (was P c).toNat := by unfold frm; rw [if_neg (by omega)]
              rw [ea, z_remN (by omega) (by omega) (by omega), nx_mod _ (by omega), ← ef]
              exact h137
            · rw [z_eq (by omega)] at h0
              have hsc : sec P c = false := by cases hsc : sec P c with | false => rfl | true => rw [hsc] at hwho; change who = 1 at hwho; omega
              have ef : frm P c = c_b c := by unfold frm; rw [if_pos (by omega), hsc]; rfl
              have e63 : (mm_u I1 65 62 (Int32.ofInt (k : Nat))) 65 63 = Int32.ofInt (frm P c : Nat) := by rw [mu_ne (by omega), hfld 63 (by omega), ef]; exact r6
              rw [e63]
              exact h137
            · rw [z_eq (by omega)] at h0
              have hsc : sec P c = true := by cases hsc : sec P c with | true => rfl | false => rw [hsc] at hwho; change who = 0 at hwho; omega
              have hb1 : p_b P ≠ -1 := by unfold sec at hsc; exact (of_decide_eq_true hsc).1
              have ef : frm P c = (p_b P).toNat := by unfold frm; rw [if_pos (by omega), hsc]; rfl
              rw [hmp2.2.2.2.2.1, show p_b P = ((frm P c : Nat) : Int) by rw [ef]; omega]
              exact h137
          refine sg_X11_going_78 ?_
          rw [hv3, zB_0, hmp2.1] at *
          refine ⟨fun h => ?_, fun h => ?_⟩
          · rw [h] at h94 ⊢
            rw [z_m1 (by omega)]
            exact h94
          · have h : upw P c = true := by simpa using h
            rw [h] at h94 ⊢
            exact h94
        refine sg_X11_going_51 ?_
        have e64 : I1 65 64 = zB (tur P c) := by rw [hfld 64 (by omega)]; exact r7
        rw [e64, z_eq (by omega)]
        have hup : upw P c = (sec P c == tur P c) := rfl
        refine ⟨fun h0 => ⟨fun h2 => h78 _ ?_, fun h2 => h78 _ ?_⟩, fun h0 => ⟨fun h2 => h78 _ ?_, fun h2 => h78 _ ?_⟩⟩
        all_goals (rw [hup]; cases hsc : sec P c <;> rw [hsc] at hwho <;> cases htu : tur P c <;> rw [htu] at h2 <;> first | rfl | (exfalso; change who = 0 at hwho; omega) | (exfalso; change who = 1 at hwho; omega) | (exfalso; exact absurd h2 (by decide)) | (exfalso; exact h2 rfl))
      rw [hfld 77 (by omega), hbr, h60, z_eq (by omega)]
      refine ⟨fun h => ?_, fun h => ?_⟩
      · rw [z_p1]
        have ek : k = (if 0 < ins then ins else p_c P (c_g c + 1) (sta P c) (c_l c)) + 1 := by rw [hk, if_pos (show c_g c + 1 = br by omega)]; rfl
        rw [← ek]; exact rest
      · have ek : k = (if 0 < ins then ins else p_c P (c_g c + 1) (sta P c) (c_l c)) := by rw [hk, if_neg (show ¬ c_g c + 1 = br by omega)]; rfl
        rw [← ek]; exact rest
  refine sg_X11_going ?_
  rw [r4, z_p1, hmp.2.2.2.2.1, z_lt (by omega)]
  have em : Int32.ofInt ((c_g c + 1 : Nat) : Int) - Int32.ofInt ((c_g c + 1 : Nat) : Int) / Int32.ofInt 2 * Int32.ofInt 2 = Int32.ofInt (((c_g c + 1) % 2 : Nat) : Int) := z_remN (b := 2) (by omega) (by omega) (by omega)
  rw [em, z_eq (by omega)]
  refine ⟨fun h => sg_X11_going_30 (main 0 ?_), fun h => ⟨fun h2 => main 1 ?_, fun h2 => sg_X11_going_30 (main 0 ?_)⟩⟩
  · unfold sec; rw [decide_eq_false (by omega)]; rfl
  · unfold sec; rw [decide_eq_true (by omega)]; rfl
  · unfold sec; rw [decide_eq_false (by omega)]; rfl
end
