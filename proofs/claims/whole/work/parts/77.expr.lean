/-! the count's text: all pieces, both readers -/
def noU (nw K : Nat) : Prop := nw = 1 ∨ (nw = 0 ∧ K ≠ 144)
def no0 (nw _K : Nat) : Prop := nw = 0
def ncU (_K : Nat) (_v : List Int) : Prop := True
def ncT (K : Nat) (v : List Int) : Prop := ncU K v ∧ ¬ (K = 42 ∨ K = 47)
def ncS (K : Nat) (v : List Int) : Prop := ncT K v ∧ ¬ (K = 43 ∨ K = 45)
def ncO (K : Nat) (v : List Int) : Prop := ncS K v ∧ (brl K → rb v)
def ncB (K : Nat) (v : List Int) : Prop := ncO K v ∧ ¬ K = 143
def ncE (K : Nat) (v : List Int) : Prop := ncB K v ∧ ¬ K = 142
theorem isU {l j : Nat} {T : Nat → Nat} {I : Nat → Nat → Int32} {J : Nat → Nat → Int64} (h : Cc l T j I J) : sx_X7_isUnit (I 4 2) = zB (decide (tkK l T j = 2 ∨ tkK l T j = 40 ∨ 145 ≤ tkK l T j)) := by
  have hr := (KR l T j).1
  have hb : tkK l T j ≤ 149 := by omega
  rw [h.2.2.2.2.1]
  unfold sx_X7_isUnit
  show (if Int32.ofInt (tkK l T j : Nat) = Int32.ofInt 2 then Int32.ofInt 1 else if Int32.ofInt (tkK l T j : Nat) = Int32.ofInt 40 then Int32.ofInt 1 else if Int32.ofInt (tkK l T j : Nat) < Int32.ofInt 145 then Int32.ofInt 0 else if Int32.ofInt 149 < Int32.ofInt (tkK l T j : Nat) then Int32.ofInt 0 else Int32.ofInt 1) = _
  by_cases a : tkK l T j = 2
  · rw [if_pos (by rw [a]; rfl), decide_eq_true (Or.inl a)]; rfl
  rw [if_neg (by rw [z_eq (by omega)]; omega)]
  by_cases b : tkK l T j = 40
  · rw [if_pos (by rw [b]; rfl), decide_eq_true (Or.inr (Or.inl b))]; rfl
  rw [if_neg (by rw [z_eq (by omega)]; omega)]
  by_cases c : 145 ≤ tkK l T j
  · rw [if_neg (by rw [z_lt (by omega)]; omega), if_neg (by rw [z_lt (by omega)]; omega), decide_eq_true (Or.inr (Or.inr c))]; rfl
  · rw [if_pos (by rw [z_lt (by omega)]; omega), decide_eq_false (by omega)]; rfl
theorem ne_m {t : Nat} (h : t ≤ 7) : ¬ Int32.ofInt (t : Nat) < Int32.ofInt 7 ↔ t = 7 := by rw [z_lt (by omega)]; omega
/-- a fault behind a whole count -/
theorem sf_end {l j u : Nat} {T : Nat → Nat} {N v W : List Int} (hv : ncE (tkK l T j) v) (h3 : tkK l T j ≠ 41 ∨ hasO (v ++ W) = false) (h4 : hasO (v ++ W) = true ∨ tkK l T j ≠ 59) : SF 2 l T j u N (v ++ W) (flt (tkK l T j) 2) j := by
  intro SL xs d p s q Q I J me kq
  obtain ⟨⟨⟨⟨⟨_, a⟩, b⟩, c⟩, e⟩, f⟩ := hv
  by_cases g : brl (tkK l T j)
  · exact s_relf me g (c g) kq
  · exact s_fail me (by unfold bop; omega) g h3 h4 kq
theorem flt_1 {K : Nat} : 1 ≤ flt K 2 ∧ flt K 2 ≤ 4 := by unfold flt; split <;> omega
theorem c_failG {SL : Nat} {xs : Nat → Int32} {d : Nat} {p s q : Nat} {Q : Option Value → mm_H → Prop} {I : Nat → Nat → Int32} {J : Nat → Nat → Int64} {l j u : Nat} {T : Nat → Nat} {C : List Int} (hq : isP q) (h : CE l T q j u C I J) (hc : C.length ≤ 360) (kq : ∀ I1, FCw q I I1 J J → (∃ c : Nat, c ≤ 360 ∧ I1 q 17 = Int32.ofInt (c : Nat)) → I1 3 1 = Int32.ofInt (flt (tkK l T j) 2 : Nat) → I1 3 2 = Int32.ofInt (j : Nat) → Q (some (.int (Int32.ofInt 0))) (hp p s q I1 J)) : mm_s SL xs (d + 1) 74 [.ref 3, .int (Int32.ofInt 2)] (hp p s q I J) Q := by
  have hq' : q = 39 ∨ q = 46 := hq
  exact c_fail (n := 2) h.1 (kq _ (FCw_g hq) ⟨C.length, hc, by rw [mu_row (by omega), mu_row (by omega)]; exact h.2.2.1⟩ (by rw [mu_ne (by omega), mu_at]) mu_at)
theorem x_unit {t need : Nat} (ht : t ≤ 7) (hn : 91 ≤ need) (he : t < 7 → SP 84 need 20 (10 - (t + 1) + 1 + 1) (7 - (t + 1)) (t + 1) ncE no0) : SP 90 (need + 1) 29 0 0 t ncU noU := by
  intro SL xs D p s q Q I J l T j u C W nw hD hq hce hu hC hW hdp htp hwf hdl hnw kq kf
  obtain ⟨d, rfl⟩ : ∃ d, D = d + 91 := ⟨D - 91, by omega⟩
  have hq' : q = 39 ∨ q = 46 := hq
  have hr := (KR l T j).1
  have hnw1 : nw ≤ 1 := by unfold noU at hnw; omega
  have k40 : (I 4 2 = Int32.ofInt 40) = (tkK l T j = 40) := Cc_k (c := 40) hce.1 (by omega)
  have k2 : (I 4 2 = Int32.ofInt 2) = (tkK l T j = 2) := Cc_k (c := 2) hce.1 (by omega)
  have bad : obad nw (tkK l T j) u t → mm_s SL xs (d + 90) 74 [.ref 3, .int (Int32.ofInt 2)] (hp p s q I J) (fun r_ h_ => ∃ x1 I1 J1, r_ = some (.int x1) ∧ h_ = hp p s q I1 J1 ∧ ((x1 = 0 ∨ x1 = 1) ∧ Q (some (.int x1)) (hp p s q I1 J1))) := fun hb =>
    c_failF (nw := nw) (W := W) hq hce (by omega) (fun SL' xs' d' p' s' q' Q' Im Jm me kk => o_fail hnw1 me hu (by rw [hdp]; exact hb) kk) (fun I1 J1 cf => ⟨_, _, _, rfl, rfl, Or.inl rfl, kf I1 J1 cf⟩)
  have ce1 : CE l T q j (u + 1) C (mm_u I q 9 (I q 9 + Int32.ofInt 1)) J := by
    obtain ⟨h1, h2, h3, h4⟩ := hce
    refine ⟨Cc_c (by rw [mu_row (by omega)]) (by rw [mu_row (by omega)]) rfl rfl h1, by rw [mu_at, h2, z_p1], by rw [mu_ne (by omega)]; exact h3, CS_c C (fun i _ => by rw [mu_row (by omega)]) h4⟩
  have f1 : FC q I (mm_u I q 9 (I q 9 + Int32.ofInt 1)) J J := FC_u hq (by omega)
  have atom : (tkK l T j = 2 ∨ 145 ≤ tkK l T j) → u < 40 → mm_s SL xs (d + 90) 58 [.ref q, .int (Int32.ofInt (atm l T j))] (hp p s q (mm_u I q 9 (I q 9 + Int32.ofInt 1)) J) (fun r_ h_ => ∃ I10 J10, r_ = none ∧ h_ = hp p s q I10 J10 ∧ (mm_s SL xs (d + 90) 105 [.ref 4] (hp p s q I10 J10) (fun r_ h_ => ∃ I11 J11, r_ = none ∧ h_ = hp p s q I11 J11 ∧ Q (some (.int (Int32.ofInt 1))) (hp p s q I11 J11)))) := fun hk hu4 => by
    have hat : vc (atm l T j) ∧ ¬ atm l T j = -144 ∧ jn (atm l T j) = false := by
      unfold atm
      by_cases e : tkK l T j = 2
      · have := (Cc_v hce.1 e).2
        rw [if_pos e]
        exact ⟨by unfold vc; omega, by omega, by unfold jn; exact decide_eq_false (by omega)⟩
      · rw [if_neg e]
        exact ⟨by unfold vc; omega, by omega, by unfold jn; exact decide_eq_false (by omega)⟩
    refine c_addc hq ce1 (by omega) (fun I2 f2 ce2 => ⟨_, _, rfl, rfl, c_adv ce2.1 (fun I3 J3 f3 c3 => ⟨_, _, rfl, rfl, kq I3 J3 ⟨nX l T j, u + 1, atm l T j :: C, [], atm l T j :: C, FC_t f1 (FC_t f2 (FC_4 hq f3)), CE_4 hq f3 ce2 c3, by omega, by omega, by rw [List.length_cons]; omega, ⟨hwf, hat.1, by omega, fun z => absurd z hat.2.1, fun _ z => absurd (hat.2.2.symm.trans z) (by decide), fun _ _ => by omega⟩, ?_, rfl, vk_0, Nat.le_refl _, trivial, ?_, (nX_ge hce.1.1 (by omega)).2⟩⟩)⟩)
    · rw [dl, if_neg hat.2.1, if_neg (by rw [hat.2.2]; decide)]
    · intro SL' xs' d' p' s' q' Q' Im Jm me kk
      exact o_atom hnw1 me hu4 hk (by omega) kk
  refine sg_X7_readUnit hq ?_
  rw [isU hce.1, zB_0, k40, k2, hce.2.1, z_le (by omega)]
  refine ⟨fun z => bad (Or.inl ⟨?_, of_decide_eq_false z⟩), fun z => ?_⟩
  · have z := of_decide_eq_false z
    unfold noU at hnw; omega
  have z : tkK l T j = 2 ∨ tkK l T j = 40 ∨ 145 ≤ tkK l T j := Decidable.byContradiction (fun y => z (decide_eq_false y))
  refine ⟨fun z2 => bad (Or.inr (Or.inl ⟨z, by omega⟩)), fun z2 => ⟨fun z3 => ⟨fun z4 => ⟨fun _ => ?_, fun y => absurd z3 y⟩, fun z4 => bad (Or.inr (Or.inr ⟨Or.inr z3, by rw [ne_m ht] at z4; omega⟩))⟩, fun z3 => ⟨fun y => absurd y z3, fun _ => ⟨fun z5 => ?_, fun z5 => ?_⟩⟩⟩⟩
  · have ht7 : t < 7 := by rw [z_lt (by omega)] at z4; omega
    rw [← hce.2.1]
    refine c_adv ce1.1 (fun I2 J2 f2 c2 => ⟨_, _, rfl, rfl, ?_⟩)
    have ce2 := CE_4 hq f2 ce1 c2
    rw [z_p1]
    refine he ht7 SL xs (d + 90) p s q _ I2 J2 l T (nX l T j) (u + 1) C (-40 :: W) 0 (by omega) hq ce2 (by omega) (by omega) (by rw [List.length_cons]; omega) (by rw [dp, if_pos (Or.inl rfl)]; omega) (Or.inl rfl) hwf (by omega) rfl (fun I3 J3 r3 => ⟨_, _, _, rfl, rfl, fun y => absurd y (by decide), fun _ => ?_⟩) (fun I3 J3 r3 => ⟨_, _, _, rfl, rfl, fun _ => ?_, fun y => absurd rfl y⟩)
    · obtain ⟨j3, u3, C3, v3, N3, k1, k2, k3, k4, k5, k6, k7, k8, k9, k10, k11, k12, k13⟩ := r3
      have k41 : (I3 4 2 = Int32.ofInt 41) = (tkK l T j3 = 41) := Cc_k (c := 41) k2.1 (by omega)
      refine sg_X7_take (d := d + 86) ?_
      rw [k41]
      refine ⟨fun e => c_adv k2.1 (fun I4 J4 f4 c4 => ⟨_, _, rfl, rfl, ⟨_, _, _, rfl, rfl, fun y => absurd y (by decide), fun _ => ?_⟩⟩), fun e => ?_⟩
      · refine kq I4 J4 ⟨nX l T j3, u3, C3, [], C3, FC_t f1 (FC_t (FC_4 hq f2) (FC_t k1 (FC_4 hq f4))), CE_4 hq f4 k2 c4, by omega, k4, by omega, k6, k7, rfl, vk_0, Nat.le_refl _, trivial, ?_, by have := (nX_ge (T := T) hce.1.1 (by omega)).2; have := (nX_ge (T := T) k2.1.1 (by omega)).2; omega⟩
        intro SL' xs' d' p' s' q' Q' Im Jm me kk
        refine o_paren hnw1 me (by omega) z3 (by rw [hdp]; omega) (by omega) (by omega) (fun Im2 Jm2 fm2 me2 => ?_)
        refine k12 SL' xs' d' p' s' q' Q' Im2 Jm2 me2 (fun Im3 Jm3 fm3 me3 => ?_)
        refine s_close me3 e k9 (fun Im4 Jm4 fm4 me4 => ?_)
        rw [← k8] at me4
        exact kk Im4 Jm4 (FE_t fm2 (FE_t fm3 fm4)) me4
      · refine c_failG hq k2 (by omega) (fun I4 m1 m2 m3 m4 => ⟨_, _, _, rfl, rfl, Or.inl rfl, ⟨_, _, _, rfl, rfl, fun _ => kf I4 J3 ⟨FZc f1 (FZc (FC_4 hq f2) (FZc k1 m1)), m2, flt (tkK l T j3) 2, j3, m3, m4, flt_1.1, flt_1.2, ?_⟩, fun y => absurd rfl y⟩⟩)
        intro SL' xs' d' p' s' q' Q' Im Jm me kk
        refine o_paren hnw1 me (by omega) z3 (by rw [hdp]; omega) (by omega) (by omega) (fun Im2 Jm2 fm2 me2 => ?_)
        refine k12 SL' xs' d' p' s' q' Q' Im2 Jm2 me2 (fun Im3 Jm3 fm3 me3 => ?_)
        exact sf_end k11 (Or.inl e) (Or.inl (hasO_app v3)) SL' xs' d' p' s' q' Q' Im3 Jm3 me3 (fun Im4 Jm4 fm4 a b => kk Im4 Jm4 (FX fm2 (FX fm3 fm4)) a b)
    · obtain ⟨m1, m2, fx, px, m3, m4, m5, m6, m7⟩ := r3
      refine kf I3 J3 ⟨FZc f1 (FZc (FC_4 hq f2) m1), m2, fx, px, m3, m4, m5, m6, ?_⟩
      intro SL' xs' d' p' s' q' Q' Im Jm me kk
      refine o_paren hnw1 me (by omega) z3 (by rw [hdp]; omega) (by omega) (by omega) (fun Im2 Jm2 fm2 me2 => ?_)
      exact m7 SL' xs' d' p' s' q' Q' Im2 Jm2 me2 (fun Im3 Jm3 fm3 a b => kk Im3 Jm3 (FX fm2 fm3) a b)
  · have e : (mm_u I q 9 (Int32.ofInt (u : Nat) + Int32.ofInt 1)) 4 4 = Int32.ofInt (atm l T j) := by
      rw [mu_row (by omega), (Cc_v hce.1 z5).1, atm, if_pos z5]
    rw [e, ← hce.2.1]
    exact atom (Or.inl z5) (by omega)
  · have e : -(I 4 2) = Int32.ofInt (atm l T j) := by
      rw [hce.1.2.2.2.2.1, z_neg, atm, if_neg z5]
    rw [e, ← hce.2.1]
    exact atom (by omega) (by omega)
