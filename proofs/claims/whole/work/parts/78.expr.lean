/-! the count's text: terms, sums, ones, both, either -/
theorem x_term {t need : Nat} (ht : t ≤ 7) (hn : 91 ≤ need) (hy : SP 90 need 29 0 0 t ncU noU) : SP 89 (need + 1) 28 1 0 t ncT noU := by
  refine lp (ops := fun K => K = 42 ∨ K = 47) (Wl := fun SL xs d p s q Q v1 v2 v3 I J => w_X7_readTerm_8 SL xs d p s q Q v1 v2 v3 I J) hy hn (by omega) (by omega) (by omega) ht (by omega) (fun K h => ?_) (fun K K2 h => ?_) (fun K v w h => h) (fun SL xs d p s q Q v1 v3 I J l T j hq hc h3 ks kg => ?_) (fun SL xs d p s q Q v1 v3 I J hq k => ?_) (fun SL xs d p s q Q v1 I J k => sg_X7_readTerm k)
  · rcases h with h | h <;> subst h <;> exact ⟨by unfold bop; omega, by decide⟩
  · rcases h with h | h <;> subst h <;> exact Or.inl (by decide)
  · have k42 : (I 4 2 = Int32.ofInt 42) = (tkK l T j = 42) := Cc_k (c := 42) hc (by omega)
    have k47 : (I 4 2 = Int32.ofInt 47) = (tkK l T j = 47) := Cc_k (c := 47) hc (by omega)
    have ek : -(I 4 2) = Int32.ofInt (-((tkK l T j : Nat) : Int)) := by rw [hc.2.2.2.2.1, z_neg]
    refine sg_X7_readTerm_8 hq ⟨fun z => absurd z h3, fun _ => ⟨fun z => absurd z (by decide), fun _ => ?_⟩⟩
    rw [k42, k47, ek]
    exact ⟨fun e => kg (Or.inl e), fun e => ⟨fun e2 => kg (Or.inr e2), fun e2 => ⟨Or.inr rfl, ks (fun z => z.elim e e2)⟩⟩⟩
  · exact sg_X7_readTerm_8 hq ⟨fun _ => ⟨Or.inl rfl, k⟩, fun _ => ⟨fun _ => ⟨Or.inl rfl, k⟩, fun z => absurd rfl z⟩⟩
theorem x_sum {t need : Nat} (ht : t ≤ 7) (hn : 91 ≤ need) (hy : SP 89 need 28 1 0 t ncT noU) : SP 88 (need + 1) 26 2 0 t ncS noU := by
  refine lp (ops := fun K => K = 43 ∨ K = 45) (Wl := fun SL xs d p s q Q v1 v2 v3 I J => w_X7_readSum_8 SL xs d p s q Q v1 v2 v3 I J) hy hn (by omega) (by omega) (by omega) ht (by omega) (fun K h => ?_) (fun K K2 h => ?_) (fun K v w h => h) (fun SL xs d p s q Q v1 v3 I J l T j hq hc h3 ks kg => ?_) (fun SL xs d p s q Q v1 v3 I J hq k => ?_) (fun SL xs d p s q Q v1 I J k => sg_X7_readSum k)
  · rcases h with h | h <;> subst h <;> exact ⟨by unfold bop; omega, by decide⟩
  · rcases h with h | h <;> subst h <;> exact Or.inl (by decide)
  · have k42 : (I 4 2 = Int32.ofInt 43) = (tkK l T j = 43) := Cc_k (c := 43) hc (by omega)
    have k47 : (I 4 2 = Int32.ofInt 45) = (tkK l T j = 45) := Cc_k (c := 45) hc (by omega)
    have ek : -(I 4 2) = Int32.ofInt (-((tkK l T j : Nat) : Int)) := by rw [hc.2.2.2.2.1, z_neg]
    refine sg_X7_readSum_8 hq ⟨fun z => absurd z h3, fun _ => ⟨fun z => absurd z (by decide), fun _ => ?_⟩⟩
    rw [k42, k47, ek]
    exact ⟨fun e => kg (Or.inl e), fun e => ⟨fun e2 => kg (Or.inr e2), fun e2 => ⟨Or.inr rfl, ks (fun z => z.elim e e2)⟩⟩⟩
  · exact sg_X7_readSum_8 hq ⟨fun _ => ⟨Or.inl rfl, k⟩, fun _ => ⟨fun _ => ⟨Or.inl rfl, k⟩, fun z => absurd rfl z⟩⟩
theorem x_both {t need : Nat} (ht : t ≤ 7) (hn : 91 ≤ need) (hy : SP 86 need 22 (10 - t) (7 - t) t ncO no0) : SP 85 (need + 1) 21 (10 - t + 1) (7 - t) t ncB no0 := by
  refine lp (ops := fun K => K = 143) (Wl := fun SL xs d p s q Q v1 v2 v3 I J => w_X7_readBoth_8 SL xs d p s q Q v1 v2 v3 I J) hy hn (by omega) (by omega) (by omega) ht (by omega) (fun K h => ?_) (fun K K2 h => ?_) (fun K v w h => ⟨h.1, fun z => rb_app (h.2 z)⟩) (fun SL xs d p s q Q v1 v3 I J l T j hq hc h3 ks kg => ?_) (fun SL xs d p s q Q v1 v3 I J hq k => ?_) (fun SL xs d p s q Q v1 I J k => sg_X7_readBoth k)
  · subst h; exact ⟨by unfold bop; omega, by decide⟩
  · subst h; show nwx 143 = 0; decide
  · have k42 : (I 4 2 = Int32.ofInt 143) = (tkK l T j = 143) := Cc_k (c := 143) hc (by omega)
    refine sg_X7_readBoth_8 hq ⟨fun z => absurd z h3, fun _ => ⟨fun z => absurd z (by decide), fun _ => ?_⟩⟩
    rw [k42]
    refine ⟨fun e => ?_, fun e2 => ⟨Or.inr rfl, ks e2⟩⟩
    have := kg e
    rw [e] at this
    exact this
  · exact sg_X7_readBoth_8 hq ⟨fun _ => ⟨Or.inl rfl, k⟩, fun _ => ⟨fun _ => ⟨Or.inl rfl, k⟩, fun z => absurd rfl z⟩⟩
theorem x_either {t need : Nat} (ht : t ≤ 7) (hn : 91 ≤ need) (hy : SP 85 need 21 (10 - t + 1) (7 - t) t ncB no0) : SP 84 (need + 1) 20 (10 - t + 1 + 1) (7 - t) t ncE no0 := by
  refine lp (ops := fun K => K = 142) (Wl := fun SL xs d p s q Q v1 v2 v3 I J => w_X7_readEither_8 SL xs d p s q Q v1 v2 v3 I J) hy hn (by omega) (by omega) (by omega) ht (by omega) (fun K h => ?_) (fun K K2 h => ?_) (fun K v w h => ⟨⟨h.1.1, fun z => rb_app (h.1.2 z)⟩, h.2⟩) (fun SL xs d p s q Q v1 v3 I J l T j hq hc h3 ks kg => ?_) (fun SL xs d p s q Q v1 v3 I J hq k => ?_) (fun SL xs d p s q Q v1 I J k => sg_X7_readEither k)
  · subst h; exact ⟨by unfold bop; omega, by decide⟩
  · subst h; show nwx 142 = 0; decide
  · have k42 : (I 4 2 = Int32.ofInt 142) = (tkK l T j = 142) := Cc_k (c := 142) hc (by omega)
    refine sg_X7_readEither_8 hq ⟨fun z => absurd z h3, fun _ => ⟨fun z => absurd z (by decide), fun _ => ?_⟩⟩
    rw [k42]
    refine ⟨fun e => ?_, fun e2 => ⟨Or.inr rfl, ks e2⟩⟩
    have := kg e
    rw [e] at this
    exact this
  · exact sg_X7_readEither_8 hq ⟨fun _ => ⟨Or.inl rfl, k⟩, fun _ => ⟨fun _ => ⟨Or.inl rfl, k⟩, fun z => absurd rfl z⟩⟩
theorem x_one {t need nd nO : Nat} (ht : t ≤ 7) (hn : 91 ≤ need) (h1 : need + 1 ≤ nd) (h2 : t < 7 → nO + 2 ≤ nd) (hy : SP 88 need 26 2 0 t ncS noU) (ho : t < 7 → SP2 86 nO 23 22 (10 - (t + 1)) (7 - (t + 1)) (t + 1) ncO no0) : SP2 86 nd 23 22 (10 - t) (7 - t) t ncO no0 := by
  intro SL xs D p s q Q I J l T j u C W nw hD hq hce hu hC hW hdp htp hwf hdl hnw kq kf
  obtain ⟨d, rfl⟩ : ∃ d, D = d + 92 := ⟨D - 92, by omega⟩
  have hnw : nw = 0 := hnw
  subst hnw
  have hq' : q = 39 ∨ q = 46 := hq
  have hr := (KR l T j).1
  have k144 : (I 4 2 = Int32.ofInt 144) = (tkK l T j = 144) := Cc_k (c := 144) hce.1 (by omega)
  refine sg_X7_readOne (d := d + 1) hq ?_
  rw [k144]
  refine ⟨fun e => ?_, fun e => ?_⟩
  · refine sg_X7_readNot (d := d) hq ⟨fun z => ?_, fun z => ?_⟩
    · have ht7 : t < 7 := by rw [z_lt (by omega)] at z; omega
      have h2' := h2 ht7
      refine c_adv hce.1 (fun I2 J2 f2 c2 => ⟨_, _, rfl, rfl, ?_⟩)
      have ce2 := CE_4 hq f2 hce c2
      rw [z_p1]
      refine ho ht7 SL xs (d + 90) p s q _ I2 J2 l T (nX l T j) u C (-144 :: W) 0 (by omega) hq ce2 hu hC (by rw [List.length_cons]; omega) (by rw [dp, if_pos (Or.inr rfl)]; omega) (Or.inr ⟨by unfold opn; omega, by decide⟩) hwf hdl rfl (fun I3 J3 r3 => ⟨_, _, _, rfl, rfl, ?_⟩) (fun I3 J3 r3 => ⟨_, _, _, rfl, rfl, ?_⟩)
      · obtain ⟨j3, u3, C3, v3, N3, k1, k2, k3, k4, k5, k6, k7, k8, k9, k10, k11, k12, k13⟩ := r3
        refine c_addc hq k2 (by omega) (fun I4 f4 ce4 => ⟨_, _, rfl, rfl, Or.inr rfl, ⟨_, _, _, rfl, rfl, Or.inr rfl, ?_⟩⟩)
        refine kq I4 J3 ⟨j3, u3, -144 :: C3, v3 ++ [-144], N3, FC_t (FC_4 hq f2) (FC_t k1 f4), ce4, k3, k4, by rw [List.length_cons]; omega, ⟨k6, by unfold vc; omega, by omega, fun _ => by omega, fun z => absurd rfl z, fun z => absurd rfl z⟩, by rw [dl, if_pos rfl]; omega, by rw [pp_app, ← k8]; rfl, vk_app k9 (by unfold opn; omega) (by decide), by rw [List.length_append, List.length_singleton]; omega, ⟨k11.1, fun z => rb_app (k11.2 z)⟩, ?_, by have := (nX_ge (T := T) hce.1.1 (by omega)).2; omega⟩
        intro SL' xs' d' p' s' q' Q' Im Jm me kk
        refine o_not me hu e (by omega) (by omega) (by omega) (fun Im2 Jm2 fm2 me2 => ?_)
        refine k12 SL' xs' d' p' s' q' Q' Im2 Jm2 me2 (fun Im3 Jm3 fm3 me3 => kk Im3 Jm3 (FE_t fm2 fm3) ?_)
        rw [List.append_assoc]; exact me3
      · obtain ⟨m1, ⟨c, mc1, mc2⟩, fx, px, m3, m4, m5, m6, m7⟩ := r3
        refine c_add0 hq mc2 mc1 (fun I4 f4 e4 e5 => ⟨_, _, rfl, rfl, Or.inl rfl, ⟨_, _, _, rfl, rfl, Or.inl rfl, ?_⟩⟩)
        refine kf I4 J3 ⟨FZc (FC_4 hq f2) (FWc m1 f4), e5, fx, px, by rw [e4]; exact m3, by rw [e4]; exact m4, m5, m6, ?_⟩
        intro SL' xs' d' p' s' q' Q' Im Jm me kk
        refine o_not me hu e (by omega) (by omega) (by omega) (fun Im2 Jm2 fm2 me2 => ?_)
        exact m7 SL' xs' d' p' s' q' Q' Im2 Jm2 me2 (fun Im3 Jm3 fm3 a b => kk Im3 Jm3 (FX fm2 fm3) a b)
    · rw [ne_m ht] at z
      exact c_failF (nw := 0) (W := W) hq hce (by omega) (fun SL' xs' d' p' s' q' Q' Im Jm me kk => o_fail (by omega) me hu (Or.inr (Or.inr ⟨Or.inl ⟨rfl, e⟩, by omega⟩)) kk) (fun I1 J1 cf => ⟨_, _, _, rfl, rfl, Or.inl rfl, ⟨_, _, _, rfl, rfl, Or.inl rfl, kf I1 J1 cf⟩⟩)
  · refine hy SL xs (d + 91) p s q _ I J l T j u C W 0 (by omega) hq hce hu hC hW hdp (tp_m (by omega) htp) hwf hdl (Or.inr ⟨rfl, e⟩) (fun I1 J1 r => ⟨_, _, _, rfl, rfl, fun z => absurd z (by decide), fun _ => ?_⟩) (fun I1 J1 cf => ⟨_, _, _, rfl, rfl, fun _ => kf I1 J1 cf, fun z => absurd rfl z⟩)
    obtain ⟨j1, u1, C1, v1, N1, g1, g2, g3, g4, g5, g6, g7, g8, g9, g10, g11, g12, g13⟩ := r
    have k60 : (I1 4 2 = Int32.ofInt 60) = (tkK l T j1 = 60) := Cc_k (c := 60) g2.1 (by omega)
    have k61 : (I1 4 2 = Int32.ofInt 61) = (tkK l T j1 = 61) := Cc_k (c := 61) g2.1 (by omega)
    have k62 : (I1 4 2 = Int32.ofInt 62) = (tkK l T j1 = 62) := Cc_k (c := 62) g2.1 (by omega)
    have ek : -(I1 4 2) = Int32.ofInt (-((tkK l T j1 : Nat) : Int)) := by rw [g2.1.2.2.2.2.1, z_neg]
    have rel : brl (tkK l T j1) → mm_s SL xs (d + 1 + 90) 105 [.ref 4] (hp p s q I1 J1) (fun r_ h_ => ∃ I2 J2, r_ = none ∧ h_ = hp p s q I2 J2 ∧ (mm_s SL xs (d + 1 + 90) 88 [.ref 3, .int (Int32.ofInt (t : Nat))] (hp p s q I2 J2) (fun r_ h_ => ∃ x3 I3 J3, r_ = some (.int x3) ∧ h_ = hp p s q I3 J3 ∧ (mm_s SL xs (d + 1 + 90) 58 [.ref q, .int (Int32.ofInt (-((tkK l T j1 : Nat) : Int)))] (hp p s q I3 J3) (fun r_ h_ => ∃ I4 J4, r_ = none ∧ h_ = hp p s q I4 J4 ∧ ((x3 = 0 ∨ x3 = 1) ∧ Q (some (.int x3)) (hp p s q I4 J4))))))) := fun hb => by
      have of_ := sgf_f (Or.inr hb)
      have ndp : ¬ (-((tkK l T j1 : Nat) : Int) = -40 ∨ -((tkK l T j1 : Nat) : Int) = -144) := by unfold brl at hb; omega
      have r23 := of_.2.2.1.1 hb
      refine c_adv g2.1 (fun I2 J2 f2 c2 => ⟨_, _, rfl, rfl, ?_⟩)
      have ce2 := CE_4 hq f2 g2 c2
      refine hy SL xs (d + 91) p s q _ I2 J2 l T (nX l T j1) u1 C1 (-((tkK l T j1 : Nat) : Int) :: W) 1 (by omega) hq ce2 g4 (by omega) (by rw [List.length_cons]; omega) (by rw [dp, if_neg ndp]; omega) (Or.inr ⟨of_.2.1, by omega⟩) g6 (by omega) (Or.inl rfl) (fun I3 J3 r3 => ⟨_, _, _, rfl, rfl, ?_⟩) (fun I3 J3 r3 => ⟨_, _, _, rfl, rfl, ?_⟩)
      · obtain ⟨j3, u3, C3, v3, N3, k1, k2, k3, k4, k5, k6, k7, k8, k9, k10, k11, k12, k13⟩ := r3
        have hvc : vc (-((tkK l T j1 : Nat) : Int)) ∧ jn (-((tkK l T j1 : Nat) : Int)) = true := by
          unfold brl at hb; unfold vc jn
          exact ⟨by omega, decide_eq_true (by omega)⟩
        refine c_addc hq k2 (by omega) (fun I4 f4 ce4 => ⟨_, _, rfl, rfl, Or.inr rfl, ?_⟩)
        refine kq I4 J3 ⟨j3, u3, -((tkK l T j1 : Nat) : Int) :: C3, v3 ++ [-((tkK l T j1 : Nat) : Int)], N3, FC_t g1 (FC_t (FC_4 hq f2) (FC_t k1 f4)), ce4, by omega, k4, by rw [List.length_cons]; omega, ⟨k6, hvc.1, by omega, fun z => absurd (Or.inr z) ndp, fun _ _ => by omega, fun _ z => absurd (hvc.2.symm.trans z) (by decide)⟩, by rw [dl, if_neg (fun z => ndp (Or.inr z)), if_pos hvc.2]; omega, by rw [pp_app, ← k8]; rfl, vk_app (vk_m (by omega) k9) of_.2.1 (by omega), by rw [List.length_append, List.length_singleton]; omega, ⟨k11, fun _ => ⟨v3, -((tkK l T j1 : Nat) : Int), [], rfl, k9, of_.2.1, r23⟩⟩, ?_, by have := (nX_ge (T := T) g2.1.1 (show tkK l T j1 ≠ 0 by unfold brl at hb; omega)).2; omega⟩
        intro SL' xs' d' p' s' q' Q' Im Jm me kk
        refine g12 SL' xs' d' p' s' q' Q' Im Jm me (fun Im2 Jm2 fm2 me2 => ?_)
        refine s_rel me2 hb g9 htp (by omega) (by rw [← g8]; omega) (fun Im3 Jm3 fm3 me3 => ?_)
        rw [← g8] at me3
        refine k12 SL' xs' d' p' s' q' Q' Im3 Jm3 me3 (fun Im4 Jm4 fm4 me4 => kk Im4 Jm4 (FE_t fm2 (FE_t fm3 fm4)) ?_)
        rw [List.append_assoc]; exact me4
      · obtain ⟨m1, ⟨c, mc1, mc2⟩, fx, px, m3, m4, m5, m6, m7⟩ := r3
        refine c_add0 hq mc2 mc1 (fun I4 f4 e4 e5 => ⟨_, _, rfl, rfl, Or.inl rfl, ?_⟩)
        refine kf I4 J3 ⟨FZc g1 (FZc (FC_4 hq f2) (FWc m1 f4)), e5, fx, px, by rw [e4]; exact m3, by rw [e4]; exact m4, m5, m6, ?_⟩
        intro SL' xs' d' p' s' q' Q' Im Jm me kk
        refine g12 SL' xs' d' p' s' q' Q' Im Jm me (fun Im2 Jm2 fm2 me2 => ?_)
        refine s_rel me2 hb g9 htp (by omega) (by rw [← g8]; omega) (fun Im3 Jm3 fm3 me3 => ?_)
        rw [← g8] at me3
        exact m7 SL' xs' d' p' s' q' Q' Im3 Jm3 me3 (fun Im4 Jm4 fm4 a b => kk Im4 Jm4 (FX fm2 (FX fm3 fm4)) a b)
    rw [k60, k61, k62, ek]
    refine ⟨fun z => rel (Or.inl z), fun z1 => ⟨fun z => rel (Or.inr (Or.inr z)), fun z2 => ⟨fun z => rel (Or.inr (Or.inl z)), fun z3 => ?_⟩⟩⟩
    exact kq I1 J1 ⟨j1, u1, C1, v1, N1, g1, g2, g3, g4, by omega, g6, g7, g8, vk_m (by omega) g9, by omega, ⟨g11, fun z => by unfold brl at z; omega⟩, g12, g13⟩
theorem sp_w {y need b sl t L L2 Lv : Nat} {nc : Nat → List Int → Prop} {no : Nat → Nat → Prop} (h : L2 ≤ L) (hy : SP2 y need L Lv b sl t nc no) : SP2 y need L2 Lv b sl t nc no :=
  fun SL xs D p s q Q I J l T j u C W nw a1 a2 a3 a4 a5 a6 a7 a8 a9 => hy SL xs D p s q Q I J l T j u C W nw a1 a2 a3 a4 a5 a6 a7 (tp_m h a8) a9
theorem x_all : ∀ f t, t + f = 7 → SP2 86 (95 + 6 * f) 23 22 (10 - t) (7 - t) t ncO no0 ∧ SP 84 (97 + 6 * f) 20 (10 - t + 1 + 1) (7 - t) t ncE no0
  | 0, t, h => by
    have a1 := x_unit (t := t) (need := 91) (by omega) (by omega) (fun z => by omega)
    have a2 := x_sum (by omega) (by omega) (x_term (by omega) (by omega) a1)
    have a3 := x_one (nd := 95) (nO := 0) (by omega) (by omega) (by omega) (fun z => by omega) a2 (fun z => by omega)
    exact ⟨a3, x_either (by omega) (by omega) (x_both (by omega) (by omega) (sp_w (by omega) a3))⟩
  | f + 1, t, h => by
    obtain ⟨b1, b2⟩ := x_all f (t + 1) (by omega)
    have a1 := x_unit (t := t) (need := 97 + 6 * f) (by omega) (by omega) (fun _ => b2)
    have a2 := x_sum (by omega) (by omega) (x_term (by omega) (by omega) a1)
    have a3 := x_one (nd := 95 + 6 * (f + 1)) (nO := 95 + 6 * f) (by omega) (by omega) (by omega) (fun z => by omega) a2 (fun _ => b1)
    have a4 := x_either (t := t) (need := 95 + 6 * (f + 1) + 1) (by omega) (by omega) (x_both (need := 95 + 6 * (f + 1)) (by omega) (by omega) (sp_w (L := 23) (by omega) a3))
    refine ⟨a3, ?_⟩
    rw [show 97 + 6 * (f + 1) = 95 + 6 * (f + 1) + 1 + 1 by omega]
    exact a4
