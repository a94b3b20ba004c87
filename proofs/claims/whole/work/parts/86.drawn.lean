/-! the lines: drawn ones -/
theorem kno_out {n : Nat} (hn : ¬ (1 ≤ n ∧ n ≤ 999)) : ∀ D : List (Nat × Nat), XW dok D → kno D n = false
  | [], _ => rfl
  | x :: r, h => by
    have h1 : 1 ≤ x.1 ∧ x.1 ≤ 999 := ⟨h.1.1, h.1.2.1⟩
    rw [kno, kno_out hn r h.2, decide_eq_false (by omega)]; rfl
section
variable {SL : Nat} {xs : Nat → Int32} {d : Nat} {p s q : Nat} {Q : Option Value → mm_H → Prop} {I : Nat → Nat → Int32} {J : Nat → Nat → Int64} {l j : Nat} {T : Nat → Nat} {A : Nat → Option Nat} {G : List (Nat × Nat)} {w e : Nat} {P D : List (Nat × Nat)} {u : Nat} {C : List Int}
theorem c_draws_l {n : Nat} (hq : isP q) (h : I q 11 = Int32.ofInt (D.length : Nat)) (hP : XS (q + 3) (q + 4) I D) (hW : XW dok D) (hn : n ≤ 9999) (hl : D.length ≤ 12) (kq : Q (some (.int (zB (kno D n)))) (hp p s q I J)) : ∀ m, m ≤ D.length → kno (D.drop m) n = false → w_X5_draws_2 SL xs d p s q Q q (Int32.ofInt (n : Nat)) (Int32.ofInt ((D.length - m : Nat) : Int)) I J
  | 0, _, hk => by
    refine sg_X5_draws_2 hq ⟨fun _ => ?_, fun z => absurd ?_ z⟩
    · rw [show kno D n = false from hk] at kq; exact kq
    · rw [h, z_le (by omega)]; omega
  | m + 1, hm, hk => by
    have ed : D.drop m = D[m] :: D.drop (m + 1) := List.drop_eq_getElem_cons (by omega)
    have hp_ := XS_drop m D hP
    have hw_ := XW_drop m D hW
    rw [ed] at hp_ hw_
    have el : (D.drop (m + 1)).length = D.length - (m + 1) := List.length_drop
    have h1 := hp_.1.1
    rw [el] at h1
    have hx : (D[m]).1 ≤ 999 := hw_.1.2.1
    refine sg_X5_draws_2 hq ⟨fun z => ?_, fun _ => ⟨fun z => ?_, fun _ => ⟨z_inN (by omega) (by omega), ?_⟩⟩⟩
    · rw [h, z_le (by omega)] at z; omega
    · rw [z_le (by omega)] at z; omega
    · rw [z_ixN (by omega), h1, z_eq (by omega), z_p1, show D.length - (m + 1) + 1 = D.length - m by omega]
      refine ⟨fun z => ?_, fun z => c_draws_l hq h hP hW hn hl kq m (by omega) (by rw [ed, kno, hk, decide_eq_false (by omega)]; rfl)⟩
      have : kno D n = true := kno_drop m D (by rw [ed, kno, decide_eq_true (by omega)]; rfl)
      rw [this] at kq; exact kq
theorem c_draws {n : Nat} (hq : isP q) (h : I q 11 = Int32.ofInt (D.length : Nat)) (hP : XS (q + 3) (q + 4) I D) (hW : XW dok D) (hn : n ≤ 9999) (hl : D.length ≤ 12) (kq : Q (some (.int (zB (kno D n)))) (hp p s q I J)) : mm_s SL xs (d + 1) 54 [.ref q, .int (Int32.ofInt (n : Nat))] (hp p s q I J) Q := by
  have g := c_draws_l (SL := SL) (xs := xs) (d := d) hq h hP hW hn hl kq D.length (Nat.le_refl _) (by rw [List.drop_length]; rfl)
  rw [Nat.sub_self] at g
  exact sg_X5_draws g
theorem m_again_l (h : Mm l T j I J) (h39 : I 65 39 = Int32.ofInt (D.length : Nat)) (hP : XS 78 79 I D) (hW : XW dok D) (hl : D.length ≤ 12) (kt : ∀ b : Bool, (tkK l T j = 2 → b = kno D (tv l T j)) → w_X11_readDrawn_8 SL xs d p s q Q (zB b) (Int32.ofInt (D.length : Nat)) I J) : ∀ m, m ≤ D.length → ∀ b : Bool, (tkK l T j = 2 → b = kno (D.drop m) (tv l T j)) → w_X11_readDrawn_8 SL xs d p s q Q (zB b) (Int32.ofInt ((D.length - m : Nat) : Int)) I J
  | 0, _, b, hb => kt b hb
  | m + 1, hm, b, hb => by
    have ed : D.drop m = D[m] :: D.drop (m + 1) := List.drop_eq_getElem_cons (by omega)
    have hp_ := XS_drop m D hP
    have hw_ := XW_drop m D hW
    rw [ed] at hp_ hw_
    have el : (D.drop (m + 1)).length = D.length - (m + 1) := List.length_drop
    have h1 := hp_.1.1
    rw [el] at h1
    have hx : (D[m]).1 ≤ 999 := hw_.1.2.1
    have ek : kno (D.drop m) (tv l T j) = (decide ((D[m]).1 = tv l T j) || kno (D.drop (m + 1)) (tv l T j)) := by rw [ed]; rfl
    refine sg_X11_readDrawn_8 ⟨fun z => ?_, fun _ => ⟨fun z => ⟨z_inN (by omega) (by omega), ?_⟩, fun z => ?_⟩⟩
    · rw [h39, z_le (by omega)] at z; omega
    · rw [z_ixN (by omega), h1, z_p1, show D.length - (m + 1) + 1 = D.length - m by omega]
      rw [zB_0] at z
      have key : tkK l T j = 2 → ((Int32.ofInt ((D[m]).1 : Nat) = I 65 8) ↔ (D[m]).1 = tv l T j) := fun hk => by
        have n := Mm_v h hk
        rw [n.1, z_eq (by omega)]; omega
      refine ⟨fun y => ?_, fun y => ?_⟩
      · exact m_again_l h h39 hP hW hl kt m (by omega) true (fun hk => by rw [ek, decide_eq_true ((key hk).1 y)]; rfl)
      · exact m_again_l h h39 hP hW hl kt m (by omega) false (fun hk => by rw [ek, ← hb hk, z, decide_eq_false (fun x => y ((key hk).2 x))]; rfl)
    · rw [zB_t] at z
      rw [z_p1, show D.length - (m + 1) + 1 = D.length - m by omega]
      exact m_again_l h h39 hP hW hl kt m (by omega) true (fun hk => by rw [ek, ← hb hk, z, Bool.or_true])
theorem m_draw (hK : tkK l T j = 138) (h : MLr l T j A G w e P D u C I J) (hw : LW A G w e P D u C) (hf : ¬ 12 ≤ D.length) (j1 : Nat) (e1 : j1 = nX l T j) (j2 : Nat) (e2 : j2 = nX l T j1) (j3 : Nat) (e3 : j3 = nX l T j2)
  (k1 : tkK l T j1 = 2 → 1 ≤ tv l T j1 → tv l T j1 ≤ 999 → kno D (tv l T j1) = false → tkK l T j2 = 141 → tkK l T j3 = 2 → 1 ≤ tv l T j3 → tv l T j3 ≤ 99 → ∀ I2 J2, FL I I2 J J2 → MLr l T (nX l T j3) A G w e P ((tv l T j1, tv l T j3) :: D) u C I2 J2 → w_X11_readLine_317 SL xs d p s q Q I2 J2)
  (k0 : ∀ n, nbad (tkK l T j1) (tv l T j1) 1 999 n → ∀ I2 J2, FLw I I2 J J2 → I2 65 2 = Int32.ofInt (flt (tkK l T j1) n : Nat) → I2 65 3 = Int32.ofInt (j1 : Nat) → Q none (hp p s q I2 J2))
  (kk : tkK l T j1 = 2 → kno D (tv l T j1) = true → ∀ I2 J2, FLw I I2 J J2 → I2 65 2 = Int32.ofInt (flt (tkK l T j1) 3 : Nat) → I2 65 3 = Int32.ofInt (j1 : Nat) → Q none (hp p s q I2 J2))
  (k2 : tkK l T j1 = 2 → 1 ≤ tv l T j1 → tv l T j1 ≤ 999 → kno D (tv l T j1) = false → tkK l T j2 ≠ 141 → ∀ I2 J2, FLw I I2 J J2 → I2 65 2 = Int32.ofInt (flt (tkK l T j2) 2 : Nat) → I2 65 3 = Int32.ofInt (j2 : Nat) → Q none (hp p s q I2 J2))
  (k3 : tkK l T j1 = 2 → 1 ≤ tv l T j1 → tv l T j1 ≤ 999 → kno D (tv l T j1) = false → tkK l T j2 = 141 → ∀ n, nbad (tkK l T j3) (tv l T j3) 1 99 n → ∀ I2 J2, FLw I I2 J J2 → I2 65 2 = Int32.ofInt (flt (tkK l T j3) n : Nat) → I2 65 3 = Int32.ofInt (j3 : Nat) → Q none (hp p s q I2 J2)) : mm_s SL xs (d + 7) 197 [.ref 65] (hp p s q I J) Q := by
  subst e1 e2 e3
  have b3 : ∀ K : Nat, 1 ≤ flt K 3 ∧ flt K 3 ≤ 4 := fun K => by unfold flt; split <;> omega
  refine di_10 h hw hK hf (sg_X11_readDrawn (m_adv h.1 (by omega) (fun I1 J1 f1 c1 => ⟨_, _, rfl, rfl, ?_⟩)))
  have mb := MB_m f1 h.2.2
  have e2 : I1 65 2 = Int32.ofInt 0 := by rw [f1.2.1 2 (by omega)]; exact h.2.1
  have g39 : I1 65 39 = Int32.ofInt (D.length : Nat) := mb.2.2.2.2.1.1
  have k2' : (I1 65 6 = Int32.ofInt 2) = (tkK l T (nX l T j) = 2) := Mm_k (c := 2) c1 (by omega)
  have start : ∀ b : Bool, (tkK l T (nX l T j) = 2 → b = kno D (tv l T (nX l T j))) → w_X11_readDrawn_8 SL xs (d + 1) p s q (fun r_ h_ => ∃ I1 J1, r_ = none ∧ h_ = hp p s q I1 J1 ∧ w_X11_readLine_317 SL xs d p s q Q I1 J1) (zB b) (Int32.ofInt (D.length : Nat)) I1 J1 := fun b hb => by
    refine sg_X11_readDrawn_8 ⟨fun _ => ?_, fun z => absurd (by rw [g39, z_le (by omega)]; omega) z⟩
    rw [k2']
    refine ⟨fun z => ⟨fun y => ?_, fun y => ?_⟩, fun z => ?_⟩
    · rw [zB_0] at y
      have y : kno D (tv l T (nX l T j)) = false := by rw [← hb z]; exact y
      refine m_num (lo := 1) (hi := 999) (by omega) (by omega) c1 e2 (fun _ a1 a2 I3 J3 f3 c3 => ⟨_, _, _, rfl, rfl, ?_⟩) (fun n x hn => ⟨_, _, _, rfl, rfl, ?_⟩)
      · have e3 : I3 65 2 = Int32.ofInt 0 := by rw [f3.2.1 2 (by omega)]; exact e2
        refine m_told (c := 13) (lo := 1) (hi := 99) (by omega) (by omega) (by omega) c3 e3 (fun y1 y2 y3 y4 I4 J4 f4 c4 => ⟨_, _, _, rfl, rfl, fun _ => ?_, fun z => absurd ?_ z⟩) (fun y1 n x I4 J4 f4 hn => ⟨_, _, _, rfl, rfl, fun y => ?_, fun _ => ⟨_, _, rfl, rfl, f317_b (flt_b hn) (k3 z a1 a2 y y1 n hn _ _ (FY (FL_m (fm_t f1 (fm_t f3 f4))) FL_g) gI_2.1 gI_2.2)⟩⟩) (fun y1 x => ⟨_, _, _, rfl, rfl, fun y => ?_, fun _ => ⟨_, _, rfl, rfl, f317_b flt_1 (k2 z a1 a2 y y1 _ _ (FY (FL_m (fm_t f1 f3)) FL_g) gI_2.1 gI_2.2)⟩⟩)
        · have ff := fm_t f1 (fm_t f3 f4)
          have mb4 := MB_m ff h.2.2
          have g39' : I4 65 39 = Int32.ofInt (D.length : Nat) := mb4.2.2.2.2.1.1
          rw [g39']
          refine ⟨z_inN (by omega) (by omega), ?_⟩
          rw [z_ixN (by omega), z_p1]
          refine ⟨_, _, rfl, rfl, k1 z a1 a2 y y1 y2 y3 y4 _ _ (FL_t (FL_m ff) (FL_t (FL_u (Or.inr ⟨by omega, by unfold rrow; omega⟩)) (FL_t (FL_u (Or.inr ⟨by omega, by unfold rrow; omega⟩)) (FL_u (Or.inl ⟨rfl, by unfold rfld; omega⟩))))) ⟨Mm_c (fun k a b => by rw [mu_ne (by omega), mu_row (by omega), mu_row (by omega)]) (by rw [mu_row (by omega), mu_row (by omega), mu_row (by omega)]) rfl c4, ?_, ?_⟩⟩
          · rw [mu_ne (by omega), mu_row (by omega), mu_row (by omega), ff.2.1 2 (by omega)]; exact h.2.1
          · obtain ⟨⟨h1, h1'⟩, ⟨h2, h2'⟩, ⟨h3, h3'⟩, ⟨h4, h4'⟩, ⟨h5, h5'⟩, h6, h6', h6''⟩ := mb4
            refine ⟨⟨fun k hk => by rw [mu_row (by omega), mu_row (by omega), mu_row (by omega)]; exact h1 k hk, fun k v hk hv => by rw [mu_row (by omega), mu_row (by omega), mu_row (by omega)]; exact h1' k v hk hv⟩, ⟨by rw [mu_ne (by omega), mu_row (by omega), mu_row (by omega)]; exact h2, XS_c G (fun i hi => by rw [mu_row (by omega), mu_row (by omega), mu_row (by omega), mu_row (by omega), mu_row (by omega), mu_row (by omega)]; exact ⟨rfl, rfl⟩) h2'⟩, ⟨by rw [mu_ne (by omega), mu_row (by omega), mu_row (by omega)]; exact h3, by rw [mu_ne (by omega), mu_row (by omega), mu_row (by omega)]; exact h3'⟩, ⟨by rw [mu_ne (by omega), mu_row (by omega), mu_row (by omega)]; exact h4, PM_c P (fun i hi => by rw [mu_row (by omega), mu_row (by omega), mu_row (by omega)]; exact ⟨rfl, rfl⟩) h4'⟩, ⟨by rw [mu_at, List.length_cons], ⟨by rw [mu_row (by omega), mu_row (by omega), mu_at], by rw [mu_row (by omega), mu_at]⟩, XS_c D (fun i hi => ⟨by rw [mu_row (by omega), mu_row (by omega), mu_ne (by omega)], by rw [mu_row (by omega), mu_ne (by omega), mu_row (by omega)]⟩) h5'⟩, by rw [mu_ne (by omega), mu_row (by omega), mu_row (by omega)]; exact h6, NS_c C (fun i _ => by rw [mu_row (by omega), mu_row (by omega), mu_row (by omega), mu_row (by omega), mu_row (by omega), mu_row (by omega)]; exact ⟨rfl, rfl⟩) h6', by rw [mu_ne (by omega), mu_row (by omega), mu_row (by omega)]; exact h6''⟩
        · rw [f4.2.1 2 (by omega), e3]; decide
        · rw [gI_2.1] at y; exact absurd y (flt_ne (flt_b hn)).2
        · rw [gI_2.1] at y; exact absurd y flt_0.2
      · have q2 : ¬ gI I1 (tkK l T (nX l T j)) n (nX l T j) 65 2 ≤ Int32.ofInt 0 := by rw [gI_2.1]; exact (flt_ne (flt_b hn)).2
        exact m_told0 q2 ⟨_, _, _, rfl, rfl, fun y => absurd y q2, fun _ => ⟨_, _, rfl, rfl, f317_b (flt_b hn) (k0 n hn _ _ (FY (FL_m f1) FL_g) gI_2.1 gI_2.2)⟩⟩
    · rw [zB_t] at y
      have y : kno D (tv l T (nX l T j)) = true := by rw [← hb z]; exact y
      have q2 : ¬ gI I1 (tkK l T (nX l T j)) 3 (nX l T j) 65 2 ≤ Int32.ofInt 0 := by rw [gI_2.1]; exact (flt_ne (b3 _)).2
      exact m_wrong (n := 3) c1 e2 ⟨_, _, rfl, rfl, m_num0 q2 ⟨_, _, _, rfl, rfl, m_told0 q2 ⟨_, _, _, rfl, rfl, fun y => absurd y q2, fun _ => ⟨_, _, rfl, rfl, f317_b (b3 _) (kk z y _ _ (FY (FL_m f1) FL_g) gI_2.1 gI_2.2)⟩⟩⟩⟩
    · refine m_num (lo := 1) (hi := 999) (by omega) (by omega) c1 e2 (fun y => absurd y z) (fun n x hn => ⟨_, _, _, rfl, rfl, ?_⟩)
      have q2 : ¬ gI I1 (tkK l T (nX l T j)) n (nX l T j) 65 2 ≤ Int32.ofInt 0 := by rw [gI_2.1]; exact (flt_ne (flt_b hn)).2
      exact m_told0 q2 ⟨_, _, _, rfl, rfl, fun y => absurd y q2, fun _ => ⟨_, _, rfl, rfl, f317_b (flt_b hn) (k0 n hn _ _ (FY (FL_m f1) FL_g) gI_2.1 gI_2.2)⟩⟩
  have g := m_again_l c1 g39 mb.2.2.2.2.1.2 hw.2.2.2.2.1.2 hw.2.2.2.2.1.1 start D.length (Nat.le_refl _) false (fun _ => by rw [List.drop_length]; rfl)
  rw [Nat.sub_self] at g
  exact g
theorem b_drawn (hK : tkK l T j = 138) (hq : isP q) (h : CLr l T q j A G w e P D u C I J) (hw : LW A G w e P D u C) (hf : ¬ 12 ≤ D.length) (ko : ∀ I1 J1, BO l T q j A G w e P D u C I I1 J J1 → w_X7_readLine_163 SL xs d p s q Q (Int32.ofInt 138) (Int32.ofInt 1) I1 J1) (kx : ∀ I1 J1, LX l T q j A G w e P D u C I I1 J J1 → w_X7_readLine_163 SL xs d p s q Q (Int32.ofInt 138) (Int32.ofInt 0) I1 J1) : w_X7_readLine_61 SL xs d p s q Q (Int32.ofInt 138) (mm_u I 14 10 (Int32.ofInt 1)) J := by
  have hq' : q = 39 ∨ q = 46 := hq
  have c0 : Cc l T j (mm_u I 14 10 (Int32.ofInt 1)) J := Cc_c (by rw [mu_row (by omega)]) (by rw [mu_row (by omega)]) rfl rfl h.1
  have l1 := tk_lt h.1.1 (show tkK l T j ≠ 0 by omega)
  have b3 : ∀ K : Nat, 1 ≤ flt K 3 ∧ flt K 3 ≤ 4 := fun K => by unfold flt; split <;> omega
  refine sg_X7_readLine_61 (c_adv c0 (fun I1 J1 f1 c1 => ⟨_, _, rfl, rfl, fun z => absurd z (by decide), fun z => absurd z (by decide), fun z => absurd z (by decide), fun z => absurd z (by decide), fun _ => ?_, fun _ _ _ _ z => absurd rfl z⟩))
  have k0 : FK q I I1 J J1 := FK_t (FK_u hq (by omega)) (FK_4 f1)
  have kb := KB_4 hq f1 (KB_14 (k := 10) (v := Int32.ofInt 1) hq h.2.2)
  refine sg_X7_readDrawn hq (c_num (lo := 1) (hi := 999) (by omega) (by omega) c1 (fun hk a1 a2 => ⟨_, _, _, rfl, rfl, fun z => absurd z (by decide), fun _ => ?_⟩) (fun n hn => ⟨_, _, _, rfl, rfl, fun _ => ⟨_, _, _, rfl, rfl, kx _ _ ?_⟩, fun z => absurd rfl z⟩))
  · rw [(Cc_v c1 hk).1]
    refine c_draws hq kb.2.2.2.2.1.1 kb.2.2.2.2.1.2 hw.2.2.2.2.1.2 (by omega) hw.2.2.2.2.1.1 ⟨_, _, _, rfl, rfl, fun z => ?_, fun z => ?_⟩
    · rw [zB_0] at z
      have l2 := tk_lt l1.1 (show tkK l T (nX l T j) ≠ 0 by omega)
      refine c_adv c1 (fun I2 J2 f2 c2 => ⟨_, _, rfl, rfl, c_take (c := 141) (by omega) c2 (fun y1 I3 J3 f3 c3 => ⟨_, _, _, rfl, rfl, fun z => absurd z (by decide), fun _ => ?_⟩) (fun y1 => ⟨_, _, _, rfl, rfl, fun _ => ⟨_, _, _, rfl, rfl, kx _ _ ?_⟩, fun z => absurd rfl z⟩)⟩)
      · refine c_num (lo := 1) (hi := 99) (by omega) (by omega) c3 (fun b1 b2 b3 => ⟨_, _, _, rfl, rfl, fun z => absurd z (by decide), fun _ => ?_⟩) (fun n hn => ⟨_, _, _, rfl, rfl, fun _ => ⟨_, _, _, rfl, rfl, kx _ _ ?_⟩, fun z => absurd rfl z⟩)
        · have kb3 := KB_4 hq f3 (KB_4 hq f2 kb)
          have g11 : I3 q 11 = Int32.ofInt (D.length : Nat) := kb3.2.2.2.2.1.1
          rw [(Cc_v c3 b1).1]
          refine sg_X5_addDrawn hq ?_
          rw [g11, z_le (by omega)]
          refine ⟨fun z => absurd z (by omega), fun _ => ⟨z_inN (by omega) (by omega), ?_⟩⟩
          rw [z_ixN (by omega), z_p1]
          refine ⟨_, _, rfl, rfl, c_adv (Cc_c (by rw [mu_row (by omega), mu_row (by omega), mu_row (by omega)]) (by rw [mu_row (by omega), mu_row (by omega), mu_row (by omega)]) rfl rfl c3) (fun I4 J4 f4 c4 => ⟨_, _, rfl, rfl, ⟨_, _, _, rfl, rfl, ko I4 J4 ?_⟩⟩)⟩
          refine ⟨nX l T (nX l T (nX l T (nX l T j))), A, G, w, e, P, (tv l T (nX l T j), tv l T (nX l T (nX l T (nX l T j)))) :: D, u, C, FK_t k0 (FK_t (FK_4 f2) (FK_t (FK_4 f3) (FK_t (FK_u hq (by omega)) (FK_t (FK_u hq (by omega)) (FK_t (FK_u hq (by omega)) (FK_4 f4)))))), ⟨c4, ?_, KB_4 hq f4 ?_⟩, ?_, ?_, ?_⟩
          · refine kN_no (k := 10) (v := Int32.ofInt 1) (by omega) ?_ h.2.1
            rw [f4.1 14 (by omega), mu_row (by omega), mu_row (by omega), mu_row (by omega), f3.1 14 (by omega), f2.1 14 (by omega), f1.1 14 (by omega)]
          · obtain ⟨h1, ⟨h2, h2'⟩, h3, ⟨h4, h4'⟩, ⟨h5, h5'⟩, h6, h6', h6''⟩ := kb3
            refine ⟨?_, ⟨by rw [mu_row (by omega), mu_row (by omega), mu_row (by omega)]; exact h2, h2'⟩, ⟨by rw [mu_ne (by omega), mu_row (by omega), mu_row (by omega)]; exact h3.1, by rw [mu_ne (by omega), mu_row (by omega), mu_row (by omega)]; exact h3.2⟩, ⟨by rw [mu_ne (by omega), mu_row (by omega), mu_row (by omega)]; exact h4, PS_c P (fun i hi => by rw [mu_row (by omega), mu_row (by omega), mu_row (by omega)]; exact ⟨rfl, rfl⟩) h4'⟩, ⟨by rw [mu_at, List.length_cons], ⟨by rw [mu_row (by omega), mu_row (by omega), mu_at], by rw [mu_row (by omega), mu_at]⟩, XS_c D (fun i hi => ⟨by rw [mu_row (by omega), mu_row (by omega), mu_ne (by omega)], by rw [mu_row (by omega), mu_ne (by omega), mu_row (by omega)]⟩) h5'⟩, by rw [mu_ne (by omega), mu_row (by omega), mu_row (by omega)]; exact h6, by rw [mu_ne (by omega), mu_row (by omega), mu_row (by omega)]; exact h6', CS_c _ (fun i _ => by rw [mu_row (by omega), mu_row (by omega), mu_row (by omega)]) h6''⟩
            unfold kS at h1 ⊢
            rw [mu_ne (by omega), mu_ne (by omega), mu_ne (by omega), mu_ne (by omega), mu_ne (by omega), mu_ne (by omega), mu_row (by omega), mu_row (by omega)]; exact h1
          · obtain ⟨w1, w2, w3, w4, w5, w6⟩ := hw
            exact ⟨w1, w2, w3, w4, ⟨by rw [List.length_cons]; omega, ⟨a1, a2, b2, b3⟩, w5.2⟩, w6⟩
          · intro SL' xs' d' p' s' q' Q' Im Jm ml kk
            exact m_draw hK ml hw hf _ rfl _ rfl _ rfl (fun _ _ _ _ _ _ _ _ I2 J2 f m => kk I2 J2 f m) (fun n hn => by unfold nbad at hn; omega) (fun _ y => absurd (z.symm.trans y) (by decide)) (fun _ _ _ _ z => absurd y1 z) (fun _ _ _ _ _ n hn => by unfold nbad at hn; omega)
          · have l3 := tk_lt l2.1 (show tkK l T (nX l T (nX l T j)) ≠ 0 by omega)
            have l4 := tk_lt l3.1 (show tkK l T (nX l T (nX l T (nX l T j))) ≠ 0 by omega)
            omega
        · have fb := flt_b hn
          refine ⟨FZ k0 (FZ (FK_4 f2) (FZ (FK_4 f3) (FK_f hq))), _, _, fI_2.1, fI_2.2, fb.1, fb.2, ?_⟩
          intro SL' xs' d' p' s' q' Q' Im Jm ml kk
          exact m_draw hK ml hw hf _ rfl _ rfl _ rfl (fun _ _ _ _ _ _ _ _ => by unfold nbad at hn; omega) (fun n hn => by unfold nbad at hn; omega) (fun _ y => absurd (z.symm.trans y) (by decide)) (fun _ _ _ _ z => absurd y1 z) (fun _ _ _ _ _ n2 hn2 I2 J2 f x y => kk I2 J2 f (by rw [x, show n2 = n by unfold nbad at hn hn2; omega]) y)
      · refine ⟨FZ k0 (FZ (FK_4 f2) (FK_f hq)), _, _, fI_2.1, fI_2.2, flt_1.1, flt_1.2, ?_⟩
        intro SL' xs' d' p' s' q' Q' Im Jm ml kk
        exact m_draw hK ml hw hf _ rfl _ rfl _ rfl (fun _ _ _ _ z => absurd z y1) (fun n hn => by unfold nbad at hn; omega) (fun _ y => absurd (z.symm.trans y) (by decide)) (fun _ _ _ _ _ I2 J2 f x y => kk I2 J2 f x y) (fun _ _ _ _ z => absurd z y1)
    · rw [zB_t] at z
      refine c_fail (n := 3) c1 ⟨_, _, _, rfl, rfl, Or.inl rfl, ⟨_, _, _, rfl, rfl, kx _ _ ⟨FZ k0 (FK_f hq), _, _, fI_2.1, fI_2.2, (b3 _).1, (b3 _).2, ?_⟩⟩⟩
      intro SL' xs' d' p' s' q' Q' Im Jm ml kk
      exact m_draw hK ml hw hf _ rfl _ rfl _ rfl (fun _ _ _ y => absurd (z.symm.trans y) (by decide)) (fun n hn => by unfold nbad at hn; omega) (fun _ _ I2 J2 f x y => kk I2 J2 f x y) (fun _ _ _ y => absurd (z.symm.trans y) (by decide)) (fun _ _ _ y => absurd (z.symm.trans y) (by decide))
  · have fb := flt_b hn
    refine ⟨FZ k0 (FK_f hq), _, _, fI_2.1, fI_2.2, fb.1, fb.2, ?_⟩
    intro SL' xs' d' p' s' q' Q' Im Jm ml kk
    exact m_draw hK ml hw hf _ rfl _ rfl _ rfl (fun _ _ _ => by unfold nbad at hn; omega) (fun n2 hn2 I2 J2 f x y => kk I2 J2 f (by rw [x, show n2 = n by unfold nbad at hn hn2; omega]) y) (fun a b => absurd ((kno_out (by unfold nbad at hn; omega) D hw.2.2.2.2.1.2).symm.trans b) (by decide)) (fun _ _ _ => by unfold nbad at hn; omega) (fun _ _ _ => by unfold nbad at hn; omega)
end
