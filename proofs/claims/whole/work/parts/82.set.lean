/-! the lines: settings, guards -/
def tb (c k lo hi : Nat) : Prop := (c = 128 ∧ k = 0 ∧ lo = 1 ∧ hi = 60) ∨ (c = 129 ∧ k = 1 ∧ lo = 0 ∧ hi = 59) ∨ (c = 130 ∧ k = 2 ∧ lo = 1 ∧ hi = 59) ∨ (c = 132 ∧ k = 3 ∧ lo = 1 ∧ hi = 99) ∨ (c = 133 ∧ k = 4 ∧ lo = 0 ∧ hi = 9) ∨ (c = 134 ∧ k = 5 ∧ lo = 0 ∧ hi = 59)
theorem tb_f {c k lo hi : Nat} (h : tb c k lo hi) : k < 6 ∧ lo ≤ 9999 ∧ hi ≤ 9999 ∧ 128 ≤ c ∧ c ≤ 134 ∧ c ≠ 131 ∧ sn k = c - 128 := by
  rcases h with ⟨rfl, rfl, rfl, rfl⟩ | ⟨rfl, rfl, rfl, rfl⟩ | ⟨rfl, rfl, rfl, rfl⟩ | ⟨rfl, rfl, rfl, rfl⟩ | ⟨rfl, rfl, rfl, rfl⟩ | ⟨rfl, rfl, rfl, rfl⟩ <;> decide
theorem MB_A {A A2 : Nat → Option Nat} {G : List (Nat × Nat)} {w e : Nat} {P D : List (Nat × Nat)} {u : Nat} {C : List Int} {I I2 : Nat → Nat → Int32} {J J2 : Nat → Nat → Int64} (r : ∀ r, r ≠ 65 → r ≠ 74 → r ≠ 85 → I2 r = I r) (g : ∀ k, k = 18 ∨ k = 19 ∨ (37 ≤ k ∧ k ≤ 41) → I2 65 k = I 65 k) (gj : J2 86 = J 86) (hA : (∀ k, k < 8 → I2 85 k = zB (A2 k).isSome) ∧ ∀ k v, k < 6 → A2 k = some v → I2 74 k = Int32.ofInt (v : Nat)) (h : MB A G w e P D u C I J) : MB A2 G w e P D u C I2 J2 := by
  obtain ⟨_, ⟨h2, h2'⟩, ⟨h3, h3'⟩, ⟨h4, h4'⟩, ⟨h5, h5'⟩, h6, h6', h6''⟩ := h
  exact ⟨hA, ⟨by rw [g 37 (by omega)]; exact h2, XS_c G (fun i _ => by rw [r 75 (by omega) (by omega) (by omega), r 76 (by omega) (by omega) (by omega)]; exact ⟨rfl, rfl⟩) h2'⟩, ⟨by rw [g 40 (by omega)]; exact h3, by rw [g 41 (by omega)]; exact h3'⟩, ⟨by rw [g 38 (by omega)]; exact h4, PM_c P (fun i _ => by rw [r 77 (by omega) (by omega) (by omega), gj]; exact ⟨rfl, rfl⟩) h4'⟩, ⟨by rw [g 39 (by omega)]; exact h5, XS_c D (fun i _ => by rw [r 78 (by omega) (by omega) (by omega), r 79 (by omega) (by omega) (by omega)]; exact ⟨rfl, rfl⟩) h5'⟩, by rw [g 18 (by omega)]; exact h6, NS_c C (fun i _ => by rw [r 67 (by omega) (by omega) (by omega), r 68 (by omega) (by omega) (by omega)]; exact ⟨rfl, rfl⟩) h6', by rw [g 19 (by omega)]; exact h6''⟩
theorem KB_set {q k v : Nat} {A : Nat → Option Nat} {G : List (Nat × Nat)} {w e : Nat} {P D : List (Nat × Nat)} {u : Nat} {C : List Int} {I : Nat → Nat → Int32} {J : Nat → Nat → Int64} (hq : isP q) (hk : k < 6) (h : KB q A G w e P D u C I J) : KB q (upA A k v) G w e P D u C (mm_u I q k (Int32.ofInt (v : Nat))) J := by
  have hq' : q = 39 ∨ q = 46 := hq
  obtain ⟨h1, ⟨h2, h2'⟩, h3, ⟨h4, h4'⟩, ⟨h5, h5'⟩, h6, h6', h6''⟩ := h
  have ec : ccd (upA A k v) C = ccd A C := by unfold ccd upA; rw [if_neg (show ¬ 6 = k by omega)]
  refine ⟨?_, ⟨by rw [mu_row (by omega)]; exact h2, h2'⟩, ⟨by rw [mu_ne (by omega)]; exact h3.1, by rw [mu_ne (by omega)]; exact h3.2⟩, ⟨by rw [mu_ne (by omega)]; exact h4, PS_c P (fun i _ => by rw [mu_row (by omega)]; exact ⟨rfl, rfl⟩) h4'⟩, ⟨by rw [mu_ne (by omega)]; exact h5, XS_c D (fun i _ => by rw [mu_row (by omega), mu_row (by omega)]; exact ⟨rfl, rfl⟩) h5'⟩, by rw [mu_ne (by omega)]; exact h6, by rw [mu_ne (by omega), ec]; exact h6', by rw [ec]; exact CS_c _ (fun i _ => by rw [mu_row (by omega)]) h6''⟩
  obtain ⟨a0, a1, a2, a3, a4, a5⟩ := h1
  have hk : k = 0 ∨ k = 1 ∨ k = 2 ∨ k = 3 ∨ k = 4 ∨ k = 5 := by omega
  rcases hk with rfl | rfl | rfl | rfl | rfl | rfl
  · exact ⟨by rw [mu_at]; rfl, by rw [mu_ne (by omega)]; exact a1, by rw [mu_ne (by omega)]; exact a2, by rw [mu_ne (by omega)]; exact a3, by rw [mu_ne (by omega)]; exact a4, by rw [mu_ne (by omega)]; exact a5⟩
  · exact ⟨by rw [mu_ne (by omega)]; exact a0, by rw [mu_at]; rfl, by rw [mu_ne (by omega)]; exact a2, by rw [mu_ne (by omega)]; exact a3, by rw [mu_ne (by omega)]; exact a4, by rw [mu_ne (by omega)]; exact a5⟩
  · exact ⟨by rw [mu_ne (by omega)]; exact a0, by rw [mu_ne (by omega)]; exact a1, by rw [mu_at]; rfl, by rw [mu_ne (by omega)]; exact a3, by rw [mu_ne (by omega)]; exact a4, by rw [mu_ne (by omega)]; exact a5⟩
  · exact ⟨by rw [mu_ne (by omega)]; exact a0, by rw [mu_ne (by omega)]; exact a1, by rw [mu_ne (by omega)]; exact a2, by rw [mu_at]; rfl, by rw [mu_ne (by omega)]; exact a4, by rw [mu_ne (by omega)]; exact a5⟩
  · exact ⟨by rw [mu_ne (by omega)]; exact a0, by rw [mu_ne (by omega)]; exact a1, by rw [mu_ne (by omega)]; exact a2, by rw [mu_ne (by omega)]; exact a3, by rw [mu_at]; rfl, by rw [mu_ne (by omega)]; exact a5⟩
  · exact ⟨by rw [mu_ne (by omega)]; exact a0, by rw [mu_ne (by omega)]; exact a1, by rw [mu_ne (by omega)]; exact a2, by rw [mu_ne (by omega)]; exact a3, by rw [mu_ne (by omega)]; exact a4, by rw [mu_at]; rfl⟩
theorem aok_up {A : Nat → Option Nat} {c k lo hi v : Nat} (h : tb c k lo hi) (h1 : lo ≤ v) (h2 : v ≤ hi) (ha : aok A) : aok (upA A k v) := by
  obtain ⟨a0, a1, a2, a3, a4, a5⟩ := ha
  have s : ∀ x : Nat, some v = some x → x = v := fun x e => (Option.some.inj e).symm
  rcases h with ⟨rfl, rfl, rfl, rfl⟩ | ⟨rfl, rfl, rfl, rfl⟩ | ⟨rfl, rfl, rfl, rfl⟩ | ⟨rfl, rfl, rfl, rfl⟩ | ⟨rfl, rfl, rfl, rfl⟩ | ⟨rfl, rfl, rfl, rfl⟩
  · exact ⟨fun x e => by have := s x e; omega, a1, a2, a3, a4, a5⟩
  · exact ⟨a0, fun x e => by have := s x e; omega, a2, a3, a4, a5⟩
  · exact ⟨a0, a1, fun x e => by have := s x e; omega, a3, a4, a5⟩
  · exact ⟨a0, a1, a2, fun x e => by have := s x e; omega, a4, a5⟩
  · exact ⟨a0, a1, a2, a3, fun x e => by have := s x e; omega, a5⟩
  · exact ⟨a0, a1, a2, a3, a4, fun x e => by have := s x e; omega⟩
section
variable {SL : Nat} {xs : Nat → Int32} {d : Nat} {p s q : Nat} {Q : Option Value → mm_H → Prop} {I : Nat → Nat → Int32} {J : Nat → Nat → Int64} {l j : Nat} {T : Nat → Nat} {A : Nat → Option Nat} {G : List (Nat × Nat)} {w e : Nat} {P D : List (Nat × Nat)} {u : Nat} {C : List Int}
theorem c_setting {c k lo hi : Nat} (ht : tb c k lo hi) (hq : isP q) (h : Cc l T j I J) (k1 : tkK l T j = 2 → lo ≤ tv l T j → tv l T j ≤ hi → ∀ I2 J2, fr4 (mm_u I q k (Int32.ofInt (tv l T j : Nat))) I2 J J2 → Cc l T (nX l T j) I2 J2 → Q (some (.int (Int32.ofInt 1))) (hp p s q I2 J2)) (k0 : ∀ n, nbad (tkK l T j) (tv l T j) lo hi n → Q (some (.int (Int32.ofInt 0))) (hp p s q (fI I (tkK l T j) n j) J)) : mm_s SL xs (d + 4) 79 [.ref 3, .int (Int32.ofInt (c : Nat))] (hp p s q I J) Q := by
  have hq' : q = 39 ∨ q = 46 := hq
  have tf := tb_f ht
  have fin : w_X7_readSetting_66 SL xs d p s q Q (Int32.ofInt (c : Nat)) (Int32.ofInt (lo : Nat)) (Int32.ofInt (hi : Nat)) I J := by
    refine sg_X7_readSetting_66 hq (c_num (by omega) (by omega) h (fun a b c2 => ⟨_, _, _, rfl, rfl, fun z => absurd z (by decide), fun _ => ?_⟩) (fun n hn => ⟨_, _, _, rfl, rfl, fun _ => k0 n hn, fun z => absurd rfl z⟩))
    have go : mm_s SL xs (d + 3) 105 [.ref 4] (hp p s q (mm_u I q k (Int32.ofInt (tv l T j : Nat))) J) (fun r_ h_ => ∃ I3 J3, r_ = none ∧ h_ = hp p s q I3 J3 ∧ Q (some (.int (Int32.ofInt 1))) (hp p s q I3 J3)) :=
      c_adv (Cc_c (by rw [mu_row (by omega)]) (by rw [mu_row (by omega)]) rfl rfl h) (fun I3 J3 f3 c3 => ⟨_, _, rfl, rfl, k1 a b c2 I3 J3 f3 c3⟩)
    rw [(Cc_v h a).1]
    refine sg_X5_set hq ?_
    rw [z_eq (by omega), z_eq (by omega), z_eq (by omega), z_eq (by omega), z_eq (by omega), z_eq (by omega)]
    refine ⟨fun z => ⟨_, _, rfl, rfl, ?_⟩, fun z => ⟨_, _, rfl, rfl, ?_⟩, fun z => ⟨_, _, rfl, rfl, ?_⟩, fun z => ⟨_, _, rfl, rfl, ?_⟩, fun z => ⟨_, _, rfl, rfl, ?_⟩, fun z => ⟨_, _, rfl, rfl, ?_⟩, fun z1 z2 z3 z4 z5 z6 => absurd ht (by unfold tb; omega)⟩
    · rw [show k = 0 by unfold tb at ht; omega] at go; exact go
    · rw [show k = 1 by unfold tb at ht; omega] at go; exact go
    · rw [show k = 2 by unfold tb at ht; omega] at go; exact go
    · rw [show k = 3 by unfold tb at ht; omega] at go; exact go
    · rw [show k = 4 by unfold tb at ht; omega] at go; exact go
    · rw [show k = 5 by unfold tb at ht; omega] at go; exact go
  clear k1 k0
  rcases ht with ⟨rfl, rfl, rfl, rfl⟩ | ⟨rfl, rfl, rfl, rfl⟩ | ⟨rfl, rfl, rfl, rfl⟩ | ⟨rfl, rfl, rfl, rfl⟩ | ⟨rfl, rfl, rfl, rfl⟩ | ⟨rfl, rfl, rfl, rfl⟩
  · exact sg_X7_readSetting ⟨fun _ => sg_X7_readSetting_21 (sg_X7_readSetting_27 ⟨fun _ => fin, fun z => absurd rfl z⟩), fun z => absurd rfl z⟩
  · exact sg_X7_readSetting ⟨fun z => absurd z (by decide), fun _ => ⟨fun z => absurd z (by decide), fun _ => ⟨fun z => absurd z (by decide), fun _ => sg_X7_readSetting_27 ⟨fun z => absurd z (by decide), fun _ => ⟨fun z => absurd z (by decide), fun _ => ⟨fun z => absurd z (by decide), fun _ => fin⟩⟩⟩⟩⟩⟩
  · exact sg_X7_readSetting ⟨fun z => absurd z (by decide), fun _ => ⟨fun _ => sg_X7_readSetting_21 (sg_X7_readSetting_27 ⟨fun z => absurd z (by decide), fun _ => ⟨fun z => absurd z (by decide), fun _ => ⟨fun z => absurd z (by decide), fun _ => fin⟩⟩⟩), fun z => absurd rfl z⟩⟩
  · exact sg_X7_readSetting ⟨fun z => absurd z (by decide), fun _ => ⟨fun z => absurd z (by decide), fun _ => ⟨fun _ => sg_X7_readSetting_21 (sg_X7_readSetting_27 ⟨fun z => absurd z (by decide), fun _ => ⟨fun _ => fin, fun z => absurd rfl z⟩⟩), fun z => absurd rfl z⟩⟩⟩
  · exact sg_X7_readSetting ⟨fun z => absurd z (by decide), fun _ => ⟨fun z => absurd z (by decide), fun _ => ⟨fun z => absurd z (by decide), fun _ => sg_X7_readSetting_27 ⟨fun z => absurd z (by decide), fun _ => ⟨fun z => absurd z (by decide), fun _ => ⟨fun _ => fin, fun z => absurd rfl z⟩⟩⟩⟩⟩⟩
  · exact sg_X7_readSetting ⟨fun z => absurd z (by decide), fun _ => ⟨fun z => absurd z (by decide), fun _ => ⟨fun z => absurd z (by decide), fun _ => sg_X7_readSetting_27 ⟨fun z => absurd z (by decide), fun _ => ⟨fun z => absurd z (by decide), fun _ => ⟨fun z => absurd z (by decide), fun _ => fin⟩⟩⟩⟩⟩⟩
theorem m_set {c k lo hi : Nat} (ht : tb c k lo hi) (hK : tkK l T j = c) (h : MLr l T j A G w e P D u C I J) (hw : LW A G w e P D u C) (hf : ¬ (A k).isSome = true) (k1 : tkK l T (nX l T j) = 2 → lo ≤ tv l T (nX l T j) → tv l T (nX l T j) ≤ hi → ∀ I2 J2, FL I I2 J J2 → MLr l T (nX l T (nX l T j)) (upA A k (tv l T (nX l T j))) G w e P D u C I2 J2 → w_X11_readLine_317 SL xs d p s q Q I2 J2) (k0 : ∀ n, nbad (tkK l T (nX l T j)) (tv l T (nX l T j)) lo hi n → ∀ I2 J2, FLw I I2 J J2 → I2 65 2 = Int32.ofInt (flt (tkK l T (nX l T j)) n : Nat) → I2 65 3 = Int32.ofInt (nX l T j : Nat) → Q none (hp p s q I2 J2)) : mm_s SL xs (d + 7) 197 [.ref 65] (hp p s q I J) Q := by
  have tf := tb_f ht
  have act : mm_s SL xs (d + 6) 191 [.ref 65, .int (Int32.ofInt (k : Nat)), .int (Int32.ofInt (lo : Nat)), .int (Int32.ofInt (hi : Nat))] (hp p s q I J) (fun r_ h_ => ∃ I1 J1, r_ = none ∧ h_ = hp p s q I1 J1 ∧ w_X11_readLine_317 SL xs d p s q Q I1 J1) := by
    refine sg_X11_readNumber (m_adv h.1 (by omega) (fun I1 J1 f1 c1 => ⟨_, _, rfl, rfl, z_inN (by omega) (by omega), ?_⟩))
    rw [z_ixN (by omega)]
    have c1' : Mm l T (nX l T j) (mm_u I1 85 k (Int32.ofInt 1)) J1 := Mm_c (fun _ _ _ => by rw [mu_row (by omega)]) (mu_row (by omega)) rfl c1
    refine m_num (by omega) (by omega) c1' (by rw [mu_row (by omega), f1.2.1 2 (by omega)]; exact h.2.1) (fun a b c2 I3 J3 f3 c3 => ⟨_, _, _, rfl, rfl, z_inN (by omega) (by omega), ?_⟩) (fun n x hn => ⟨_, _, _, rfl, rfl, z_inN (by omega) (by omega), ?_⟩)
    · refine ⟨_, _, rfl, rfl, k1 a b c2 _ _ (FL_t (FL_m f1) (FL_t (FL_u (Or.inr ⟨by omega, by unfold rrow; omega⟩)) (FL_t (FL_m f3) (FL_u (Or.inr ⟨by omega, by unfold rrow; omega⟩))))) ⟨Mm_c (fun _ _ _ => by rw [mu_row (by omega)]) (mu_row (by omega)) rfl c3, ?_, ?_⟩⟩
      · rw [mu_row (by omega), f3.2.1 2 (by omega), mu_row (by omega), f1.2.1 2 (by omega)]; exact h.2.1
      · refine MB_A (fun r a b c => ?_) (fun k hk => ?_) ?_ ⟨fun i hi => ?_, fun i v hi hv => ?_⟩ h.2.2
        · rw [mu_row b, f3.1 r a, mu_row c, f1.1 r a]
        · rw [mu_row (by omega), f3.2.1 k (by omega), mu_row (by omega), f1.2.1 k (by omega)]
        · rw [f3.2.2.1 86 (by omega), f1.2.2.1 86 (by omega)]
        · rw [mu_row (by omega), f3.1 85 (by omega)]
          unfold upA
          by_cases z : i = k
          · subst z; rw [mu_at, if_pos rfl]; rfl
          · rw [mu_ne z, if_neg z, f1.1 85 (by omega)]; exact h.2.2.1.1 i hi
        · unfold upA at hv
          by_cases z : i = k
          · subst z; rw [if_pos rfl] at hv; rw [mu_at, Option.some.inj hv]
          · rw [if_neg z] at hv
            rw [mu_ne z, f3.1 74 (by omega), mu_row (by omega), f1.1 74 (by omega)]; exact h.2.2.1.2 i v hi hv
    · refine ⟨_, _, rfl, rfl, f317_f ?_ (k0 n hn _ _ (FY (FL_m f1) (FY (FL_u (Or.inr ⟨by omega, by unfold rrow; omega⟩)) (FW FL_g (FL_u (Or.inr ⟨by omega, by unfold rrow; omega⟩))))) ?_ ?_)⟩
      · rw [mu_row (by omega), gI_2.1]; exact (flt_ne (flt_b hn)).1
      · rw [mu_row (by omega), gI_2.1]
      · rw [mu_row (by omega), gI_2.2]
  clear k1 k0
  rcases ht with ⟨rfl, rfl, rfl, rfl⟩ | ⟨rfl, rfl, rfl, rfl⟩ | ⟨rfl, rfl, rfl, rfl⟩ | ⟨rfl, rfl, rfl, rfl⟩ | ⟨rfl, rfl, rfl, rfl⟩ | ⟨rfl, rfl, rfl, rfl⟩
  · exact di_0 h hw hK hf act
  · exact di_1 h hw hK hf act
  · exact di_2 h hw hK hf act
  · exact di_4 h hw hK hf act
  · exact di_5 h hw hK hf act
  · exact di_6 h hw hK hf act
theorem b_set {c k lo hi : Nat} (ht : tb c k lo hi) (hK : tkK l T j = c) (hq : isP q) (h : CLr l T q j A G w e P D u C I J) (hw : LW A G w e P D u C) (hf : ¬ (A k).isSome = true) (ko : ∀ I1 J1, BO l T q j A G w e P D u C I I1 J J1 → w_X7_readLine_163 SL xs d p s q Q (Int32.ofInt (c : Nat)) (Int32.ofInt 1) I1 J1) (kx : ∀ I1 J1, LX l T q j A G w e P D u C I I1 J J1 → w_X7_readLine_163 SL xs d p s q Q (Int32.ofInt (c : Nat)) (Int32.ofInt 0) I1 J1) : w_X7_readLine_61 SL xs d p s q Q (Int32.ofInt (c : Nat)) (mm_u I 14 (c - 128) (Int32.ofInt 1)) J := by
  have hq' : q = 39 ∨ q = 46 := hq
  have tf := tb_f ht
  have c0 : Cc l T j (mm_u I 14 (c - 128) (Int32.ofInt 1)) J := Cc_c (by rw [mu_row (by omega)]) (by rw [mu_row (by omega)]) rfl rfl h.1
  refine sg_X7_readLine_61 (c_adv c0 (fun I1 J1 f1 c1 => ⟨_, _, rfl, rfl, ?_⟩))
  rw [z_eq (by omega), z_eq (by omega), z_eq (by omega), z_eq (by omega), z_eq (by omega)]
  refine ⟨fun z => by omega, fun z => by omega, fun z => by omega, fun z => by omega, fun z => by omega, fun _ _ _ _ _ => sg_X7_readLine_157 (c_setting ht hq c1 (fun a b c2 I3 J3 f3 c3 => ⟨_, _, _, rfl, rfl, ko I3 J3 ?_⟩) (fun n hn => ⟨_, _, _, rfl, rfl, kx _ _ ?_⟩))⟩
  · refine ⟨nX l T (nX l T j), upA A k (tv l T (nX l T j)), G, w, e, P, D, u, C, FK_t (FK_u hq (by omega)) (FK_t (FK_4 f1) (FK_t (FK_u hq (by omega)) (FK_4 f3))), ⟨c3, ?_, KB_4 hq f3 (KB_set hq tf.1 (KB_4 hq f1 (KB_14 hq h.2.2)))⟩, ?_, ?_, ?_⟩
    · refine kN_up (by omega) ?_ h.2.1
      rw [f3.1 14 (by omega), mu_row (by omega), f1.1 14 (by omega), tf.2.2.2.2.2.2]
    · obtain ⟨w1, w2, w3, w4, w5, w6⟩ := hw
      refine ⟨aok_up ht b c2 w1, w2, ⟨w3.1, w3.2.1, ?_⟩, w4, w5, w6.1, w6.2.1, ?_, ?_⟩
      · unfold upA; rw [if_neg (show ¬ 7 = k by omega)]; exact w3.2.2
      · unfold upA; rw [if_neg (show ¬ 6 = k by omega)]; exact w6.2.2.1
      · unfold upA; rw [if_neg (show ¬ 6 = k by omega)]; exact w6.2.2.2
    · intro SL' xs' d' p' s' q' Q' Im Jm ml kk
      exact m_set ht hK ml hw hf (fun _ _ _ I2 J2 f m => kk I2 J2 f m) (fun n hn => by unfold nbad at hn; omega)
    · have b1 := nX_b (T := T) h.1.1
      have b2 := nX_b (T := T) b1.1
      rcases Nat.lt_or_ge j l with y | y
      · have := b1.2 y
        rcases Nat.lt_or_ge (nX l T j) l with y2 | y2
        · have := b2.2 y2; omega
        · exfalso
          have : tkK l T (nX l T j) = 0 := by rw [tkK, if_pos y2]
          omega
      · exfalso
        have : tkK l T j = 0 := by rw [tkK, if_pos y]
        omega
  · have fb := flt_b hn
    refine ⟨FZ (FK_u hq (by omega)) (FZ (FK_4 f1) (FK_f hq)), flt (tkK l T (nX l T j)) n, nX l T j, fI_2.1, fI_2.2, fb.1, fb.2, ?_⟩
    intro SL' xs' d' p' s' q' Q' Im Jm ml kk
    exact m_set ht hK ml hw hf (fun a b c => by unfold nbad at hn; omega) (fun n2 hn2 I2 J2 f x y => kk I2 J2 f (by rw [x, show n2 = n by unfold nbad at hn hn2; omega]) y)
end
