/-! the lines: persons -/
def kno : List (Nat × Nat) → Nat → Bool
  | [], _ => false
  | x :: r, n => decide (x.1 = n) || kno r n
theorem kno_drop {n : Nat} : ∀ (m : Nat) (P : List (Nat × Nat)), kno (P.drop m) n = true → kno P n = true
  | 0, _, h => h
  | _ + 1, [], h => h
  | m + 1, x :: r, h => by rw [kno, kno_drop m r h, Bool.or_true]
theorem PS_drop {q : Nat} {I : Nat → Nat → Int32} {J : Nat → Nat → Int64} : ∀ (m : Nat) (P : List (Nat × Nat)), PS q I J P → PS q I J (P.drop m)
  | 0, _, h => h
  | _ + 1, [], _ => trivial
  | m + 1, _ :: r, h => PS_drop m r h.2
theorem PM_drop {I : Nat → Nat → Int32} {J : Nat → Nat → Int64} : ∀ (m : Nat) (P : List (Nat × Nat)), PM I J P → PM I J (P.drop m)
  | 0, _, h => h
  | _ + 1, [], _ => trivial
  | m + 1, _ :: r, h => PM_drop m r h.2
theorem XS_drop {a b : Nat} {I : Nat → Nat → Int32} : ∀ (m : Nat) (P : List (Nat × Nat)), XS a b I P → XS a b I (P.drop m)
  | 0, _, h => h
  | _ + 1, [], _ => trivial
  | m + 1, _ :: r, h => XS_drop m r h.2
theorem XW_drop {f : Nat → Nat → Prop} : ∀ (m : Nat) (P : List (Nat × Nat)), XW f P → XW f (P.drop m)
  | 0, _, h => h
  | _ + 1, [], _ => trivial
  | m + 1, _ :: r, h => XW_drop m r h.2
section
variable {SL : Nat} {xs : Nat → Int32} {d : Nat} {p s q : Nat} {Q : Option Value → mm_H → Prop} {I : Nat → Nat → Int32} {J : Nat → Nat → Int64} {l j : Nat} {T : Nat → Nat} {A : Nat → Option Nat} {G : List (Nat × Nat)} {w e : Nat} {P D : List (Nat × Nat)} {u : Nat} {C : List Int}
theorem c_knows_l {n : Nat} (hq : isP q) (h : I q 10 = Int32.ofInt (P.length : Nat)) (hP : PS q I J P) (hW : XW pok P) (hn : n < 2 ^ 40) (hl : P.length ≤ 9) (kq : Q (some (.int (zB (kno P n)))) (hp p s q I J)) : ∀ m, m ≤ P.length → kno (P.drop m) n = false → w_X5_knows_2 SL xs d p s q Q q (lN n) (Int32.ofInt ((P.length - m : Nat) : Int)) I J
  | 0, _, hk => by
    refine sg_X5_knows_2 hq ⟨fun _ => ?_, fun z => absurd ?_ z⟩
    · rw [show kno P n = false from hk] at kq; exact kq
    · rw [h, z_le (by omega)]; omega
  | m + 1, hm, hk => by
    have ed : P.drop m = P[m] :: P.drop (m + 1) := List.drop_eq_getElem_cons (by omega)
    have hp_ := PS_drop m P hP
    have hw_ := XW_drop m P hW
    rw [ed] at hp_ hw_
    have el : (P.drop (m + 1)).length = P.length - (m + 1) := List.length_drop
    have h1 := hp_.1.1
    rw [el] at h1
    have hx : (P[m]).1 < 2 ^ 40 := hw_.1.1
    refine sg_X5_knows_2 hq ⟨fun z => ?_, fun _ => ⟨fun z => ?_, fun _ => ⟨z_inN (by omega) (by omega), ?_⟩⟩⟩
    · rw [h, z_le (by omega)] at z; omega
    · rw [z_le (by omega)] at z; omega
    · rw [z_ixN (by omega), h1, fb_lN_inj (by omega) (by omega), z_p1, show P.length - (m + 1) + 1 = P.length - m by omega]
      refine ⟨fun z => ?_, fun z => c_knows_l hq h hP hW hn hl kq m (by omega) (by rw [ed, kno, hk, decide_eq_false z]; rfl)⟩
      have : kno P n = true := kno_drop m P (by rw [ed, kno, decide_eq_true z]; rfl)
      rw [this] at kq; exact kq
theorem c_knows {n : Nat} (hq : isP q) (h : I q 10 = Int32.ofInt (P.length : Nat)) (hP : PS q I J P) (hW : XW pok P) (hn : n < 2 ^ 40) (hl : P.length ≤ 9) (kq : Q (some (.int (zB (kno P n)))) (hp p s q I J)) : mm_s SL xs (d + 1) 53 [.ref q, .long (lN n)] (hp p s q I J) Q := by
  have g := c_knows_l (SL := SL) (xs := xs) (d := d) hq h hP hW hn hl kq P.length (Nat.le_refl _) (by rw [List.drop_length]; rfl)
  rw [Nat.sub_self] at g
  exact sg_X5_knows g
theorem m_twice_l (h : Mm l T j I J) (h38 : I 65 38 = Int32.ofInt (P.length : Nat)) (hP : PM I J P) (hW : XW pok P) (hl : P.length ≤ 9) (kt : ∀ b : Bool, (tkK l T j = 3 → b = kno P (tw_ l T j)) → w_X11_readPerson_8 SL xs d p s q Q (zB b) (Int32.ofInt (P.length : Nat)) I J) : ∀ m, m ≤ P.length → ∀ b : Bool, (tkK l T j = 3 → b = kno (P.drop m) (tw_ l T j)) → w_X11_readPerson_8 SL xs d p s q Q (zB b) (Int32.ofInt ((P.length - m : Nat) : Int)) I J
  | 0, _, b, hb => kt b hb
  | m + 1, hm, b, hb => by
    have ed : P.drop m = P[m] :: P.drop (m + 1) := List.drop_eq_getElem_cons (by omega)
    have hp_ := PM_drop m P hP
    have hw_ := XW_drop m P hW
    rw [ed] at hp_ hw_
    have el : (P.drop (m + 1)).length = P.length - (m + 1) := List.length_drop
    have h1 := hp_.1.1
    rw [el] at h1
    have hx : g8 8 (P[m]).1 < 2 ^ 63 ∧ g5 8 (g8 8 (P[m]).1) = (P[m]).1 := ⟨hw_.1.2.1, hw_.1.2.2.1⟩
    have ek : kno (P.drop m) (tw_ l T j) = (decide ((P[m]).1 = tw_ l T j) || kno (P.drop (m + 1)) (tw_ l T j)) := by rw [ed]; rfl
    refine sg_X11_readPerson_8 ⟨fun z => ?_, fun _ => ⟨fun z => ⟨z_inN (by omega) (by omega), ?_⟩, fun z => ?_⟩⟩
    · rw [h38, z_le (by omega)] at z; omega
    · rw [z_ixN (by omega), h1, z_p1, show P.length - (m + 1) + 1 = P.length - m by omega]
      rw [zB_0] at z
      have key : tkK l T j = 3 → ((lN (g8 8 (P[m]).1) = J 65 9) ↔ (P[m]).1 = tw_ l T j) := fun hk => by
        have n := Mm_n h hk
        have t : tw_ l T j < 2 ^ 40 ∧ g8 8 (tw_ l T j) < 2 ^ 63 ∧ g5 8 (g8 8 (tw_ l T j)) = tw_ l T j := by
          rcases kc l T j with ⟨a, _⟩ | ⟨_, b, _⟩ | ⟨a, b, _, d4, e⟩ | ⟨a, b, c, e, _⟩ | ⟨_, b, c, _⟩
          · omega
          · omega
          · omega
          · exact (tw_ok c).2.2
          · have b := of_decide_eq_true b; omega
        rw [n.1, fb_lN_inj hx.1 t.2.1]
        exact ⟨fun z => by rw [← hx.2, z, t.2.2], fun z => by rw [z]⟩
      refine ⟨fun y => ?_, fun y => ?_⟩
      · exact m_twice_l h h38 hP hW hl kt m (by omega) true (fun hk => by rw [ek, decide_eq_true ((key hk).1 y)]; rfl)
      · exact m_twice_l h h38 hP hW hl kt m (by omega) false (fun hk => by rw [ek, ← hb hk, z, decide_eq_false (fun x => y ((key hk).2 x))]; rfl)
    · rw [zB_t] at z
      rw [z_p1, show P.length - (m + 1) + 1 = P.length - m by omega]
      exact m_twice_l h h38 hP hW hl kt m (by omega) true (fun hk => by rw [ek, ← hb hk, z, Bool.or_true])
theorem m_pers (hK : tkK l T j = 137) (h : MLr l T j A G w e P D u C I J) (hw : LW A G w e P D u C) (hf : ¬ 9 ≤ P.length) (j1 : Nat) (e1 : j1 = nX l T j) (j2 : Nat) (e2 : j2 = nX l T j1) (j3 : Nat) (e3 : j3 = nX l T j2)
  (k1 : tkK l T j1 = 3 → kno P (tw_ l T j1) = false → tkK l T j2 = 140 → tkK l T j3 = 2 → tv l T j3 ≤ 999 → ∀ I2 J2, FL I I2 J J2 → MLr l T (nX l T j3) A G w e ((tw_ l T j1, tv l T j3) :: P) D u C I2 J2 → w_X11_readLine_317 SL xs d p s q Q I2 J2)
  (k0 : tkK l T j1 ≠ 3 → ∀ I2 J2, FLw I I2 J J2 → I2 65 2 = Int32.ofInt (flt (tkK l T j1) 2 : Nat) → I2 65 3 = Int32.ofInt (j1 : Nat) → Q none (hp p s q I2 J2))
  (kk : tkK l T j1 = 3 → kno P (tw_ l T j1) = true → ∀ I2 J2, FLw I I2 J J2 → I2 65 2 = Int32.ofInt (flt (tkK l T j1) 3 : Nat) → I2 65 3 = Int32.ofInt (j1 : Nat) → Q none (hp p s q I2 J2))
  (k2 : tkK l T j1 = 3 → kno P (tw_ l T j1) = false → tkK l T j2 ≠ 140 → ∀ I2 J2, FLw I I2 J J2 → I2 65 2 = Int32.ofInt (flt (tkK l T j2) 2 : Nat) → I2 65 3 = Int32.ofInt (j2 : Nat) → Q none (hp p s q I2 J2))
  (k3 : tkK l T j1 = 3 → kno P (tw_ l T j1) = false → tkK l T j2 = 140 → ∀ n, nbad (tkK l T j3) (tv l T j3) 0 999 n → ∀ I2 J2, FLw I I2 J J2 → I2 65 2 = Int32.ofInt (flt (tkK l T j3) n : Nat) → I2 65 3 = Int32.ofInt (j3 : Nat) → Q none (hp p s q I2 J2)) : mm_s SL xs (d + 7) 197 [.ref 65] (hp p s q I J) Q := by
  subst e1 e2 e3
  have b3 : ∀ K : Nat, 1 ≤ flt K 3 ∧ flt K 3 ≤ 4 := fun K => by unfold flt; split <;> omega
  refine di_9 h hw hK hf (sg_X11_readPerson (m_adv h.1 (by omega) (fun I1 J1 f1 c1 => ⟨_, _, rfl, rfl, ?_⟩)))
  have mb := MB_m f1 h.2.2
  have e2 : I1 65 2 = Int32.ofInt 0 := by rw [f1.2.1 2 (by omega)]; exact h.2.1
  have g38 : I1 65 38 = Int32.ofInt (P.length : Nat) := mb.2.2.2.1.1
  have start : ∀ b : Bool, (tkK l T (nX l T j) = 3 → b = kno P (tw_ l T (nX l T j))) → w_X11_readPerson_8 SL xs (d + 1) p s q (fun r_ h_ => ∃ I1 J1, r_ = none ∧ h_ = hp p s q I1 J1 ∧ w_X11_readLine_317 SL xs d p s q Q I1 J1) (zB b) (Int32.ofInt (P.length : Nat)) I1 J1 := fun b hb => by
    refine sg_X11_readPerson_8 ⟨fun _ => m_isName c1 ⟨_, _, _, rfl, rfl, fun z => ?_, fun z => ?_⟩, fun z => absurd (by rw [g38, z_le (by omega)]; omega) z⟩
    · rw [zB_0] at z
      have z := of_decide_eq_false z
      have q1 : ¬ gI I1 (tkK l T (nX l T j)) 2 (nX l T j) 65 2 = Int32.ofInt 0 := by rw [gI_2.1]; exact flt_0.1
      have q2 : ¬ gI I1 (tkK l T (nX l T j)) 2 (nX l T j) 65 2 ≤ Int32.ofInt 0 := by rw [gI_2.1]; exact flt_0.2
      exact m_wrong (n := 2) c1 e2 ⟨_, _, rfl, rfl, fun y => absurd y q1, fun _ => m_told0 q2 ⟨_, _, _, rfl, rfl, fun y => absurd y q2, fun _ => ⟨_, _, rfl, rfl, f317_b flt_1 (k0 z _ _ (FY (FL_m f1) FL_g) gI_2.1 gI_2.2)⟩⟩⟩
    · rw [zB_t] at z
      have z := of_decide_eq_true z
      have n := Mm_n c1 z
      refine ⟨fun y => ⟨fun _ => m_adv c1 (by omega) (fun I3 J3 f3 c3 => ⟨_, _, rfl, rfl, ?_⟩), fun y => absurd e2 y⟩, fun y => ?_⟩
      · rw [zB_0] at y
        have y : kno P (tw_ l T (nX l T j)) = false := by rw [← hb z]; exact y
        have e3 : I3 65 2 = Int32.ofInt 0 := by rw [f3.2.1 2 (by omega)]; exact e2
        refine m_told (c := 12) (lo := 0) (hi := 999) (by omega) (by omega) (by omega) c3 e3 (fun y1 y2 _ y4 I4 J4 f4 c4 => ⟨_, _, _, rfl, rfl, fun _ => ?_, fun z => absurd ?_ z⟩) (fun y1 n x I4 J4 f4 hn => ⟨_, _, _, rfl, rfl, fun y => ?_, fun _ => ⟨_, _, rfl, rfl, f317_b (flt_b hn) (k3 z y y1 n hn _ _ (FY (FL_m (fm_t f1 (fm_t f3 f4))) FL_g) gI_2.1 gI_2.2)⟩⟩) (fun y1 x => ⟨_, _, _, rfl, rfl, fun y => ?_, fun _ => ⟨_, _, rfl, rfl, f317_b flt_1 (k2 z y y1 _ _ (FY (FL_m (fm_t f1 f3)) FL_g) gI_2.1 gI_2.2)⟩⟩)
        · have ff := fm_t f1 (fm_t f3 f4)
          have mb4 := MB_m ff h.2.2
          have g38' : I4 65 38 = Int32.ofInt (P.length : Nat) := mb4.2.2.2.1.1
          rw [g38', n.1]
          refine ⟨z_inN (by omega) (by omega), ?_⟩
          rw [z_ixN (by omega), z_p1]
          refine ⟨_, _, rfl, rfl, k1 z y y1 y2 y4 _ _ (FL_t (FL_m ff) (FL_t (FL_u (Or.inr ⟨by omega, by unfold rrow; omega⟩)) (FL_t (FL_u (Or.inl ⟨rfl, by unfold rfld; omega⟩)) FL_J))) ⟨Mm_c (fun k a b => by rw [mu_ne (by omega), mu_row (by omega)]) (by rw [mu_row (by omega), mu_row (by omega)]) (by rw [mu_row (by omega)]) c4, ?_, ?_⟩⟩
          · rw [mu_ne (by omega), mu_row (by omega), ff.2.1 2 (by omega)]; exact h.2.1
          · obtain ⟨⟨h1, h1'⟩, ⟨h2, h2'⟩, ⟨h3, h3'⟩, ⟨h4, h4'⟩, ⟨h5, h5'⟩, h6, h6', h6''⟩ := mb4
            refine ⟨⟨fun k hk => by rw [mu_row (by omega), mu_row (by omega)]; exact h1 k hk, fun k v hk hv => by rw [mu_row (by omega), mu_row (by omega)]; exact h1' k v hk hv⟩, ⟨by rw [mu_ne (by omega), mu_row (by omega)]; exact h2, XS_c G (fun i hi => by rw [mu_row (by omega), mu_row (by omega), mu_row (by omega), mu_row (by omega)]; exact ⟨rfl, rfl⟩) h2'⟩, ⟨by rw [mu_ne (by omega), mu_row (by omega)]; exact h3, by rw [mu_ne (by omega), mu_row (by omega)]; exact h3'⟩, ⟨by rw [mu_at, List.length_cons], ⟨by rw [mu_at], by rw [mu_row (by omega), mu_at]⟩, PM_c P (fun i hi => ⟨by rw [mu_row (by omega), mu_ne (by omega)], by rw [mu_ne (by omega)]⟩) h4'⟩, ⟨by rw [mu_ne (by omega), mu_row (by omega)]; exact h5, XS_c D (fun i _ => by rw [mu_row (by omega), mu_row (by omega), mu_row (by omega), mu_row (by omega)]; exact ⟨rfl, rfl⟩) h5'⟩, by rw [mu_ne (by omega), mu_row (by omega)]; exact h6, NS_c C (fun i _ => by rw [mu_row (by omega), mu_row (by omega), mu_row (by omega), mu_row (by omega)]; exact ⟨rfl, rfl⟩) h6', by rw [mu_ne (by omega), mu_row (by omega)]; exact h6''⟩
        · rw [f4.2.1 2 (by omega), e3]; decide
        · rw [gI_2.1] at y; exact absurd y (flt_ne (flt_b hn)).2
        · rw [gI_2.1] at y; exact absurd y flt_0.2
      · rw [zB_t] at y
        have y : kno P (tw_ l T (nX l T j)) = true := by rw [← hb z]; exact y
        have q1 : ¬ gI I1 (tkK l T (nX l T j)) 3 (nX l T j) 65 2 = Int32.ofInt 0 := by rw [gI_2.1]; exact (flt_ne (b3 _)).1
        have q2 : ¬ gI I1 (tkK l T (nX l T j)) 3 (nX l T j) 65 2 ≤ Int32.ofInt 0 := by rw [gI_2.1]; exact (flt_ne (b3 _)).2
        exact m_wrong (n := 3) c1 e2 ⟨_, _, rfl, rfl, fun y => absurd y q1, fun _ => m_told0 q2 ⟨_, _, _, rfl, rfl, fun y => absurd y q2, fun _ => ⟨_, _, rfl, rfl, f317_b (b3 _) (kk z y _ _ (FY (FL_m f1) FL_g) gI_2.1 gI_2.2)⟩⟩⟩
  have g := m_twice_l c1 g38 mb.2.2.2.1.2 hw.2.2.2.1.2 hw.2.2.2.1.1 start P.length (Nat.le_refl _) false (fun _ => by rw [List.drop_length]; rfl)
  rw [Nat.sub_self] at g
  exact g
theorem b_person (hK : tkK l T j = 137) (hq : isP q) (h : CLr l T q j A G w e P D u C I J) (hw : LW A G w e P D u C) (hf : ¬ 9 ≤ P.length) (ko : ∀ I1 J1, BO l T q j A G w e P D u C I I1 J J1 → w_X7_readLine_163 SL xs d p s q Q (Int32.ofInt 137) (Int32.ofInt 1) I1 J1) (kx : ∀ I1 J1, LX l T q j A G w e P D u C I I1 J J1 → w_X7_readLine_163 SL xs d p s q Q (Int32.ofInt 137) (Int32.ofInt 0) I1 J1) : w_X7_readLine_61 SL xs d p s q Q (Int32.ofInt 137) (mm_u I 14 9 (Int32.ofInt 1)) J := by
  have hq' : q = 39 ∨ q = 46 := hq
  have c0 : Cc l T j (mm_u I 14 9 (Int32.ofInt 1)) J := Cc_c (by rw [mu_row (by omega)]) (by rw [mu_row (by omega)]) rfl rfl h.1
  have l1 := tk_lt h.1.1 (show tkK l T j ≠ 0 by omega)
  have b3 : ∀ K : Nat, 1 ≤ flt K 3 ∧ flt K 3 ≤ 4 := fun K => by unfold flt; split <;> omega
  refine sg_X7_readLine_61 (c_adv c0 (fun I1 J1 f1 c1 => ⟨_, _, rfl, rfl, fun z => absurd z (by decide), fun z => absurd z (by decide), fun z => absurd z (by decide), fun _ => ?_, fun z => absurd z (by decide), fun _ _ _ z => absurd rfl z⟩))
  have k0 : FK q I I1 J J1 := FK_t (FK_u hq (by omega)) (FK_4 f1)
  have kb := KB_4 hq f1 (KB_14 (k := 9) (v := Int32.ofInt 1) hq h.2.2)
  have e3 : (I1 4 2 = Int32.ofInt 3) = (tkK l T (nX l T j) = 3) := Cc_k (c := 3) c1 (by omega)
  refine sg_X7_readPerson hq ?_
  rw [e3]
  refine ⟨fun hk => ?_, fun hk => c_fail (n := 2) c1 ⟨_, _, _, rfl, rfl, Or.inl rfl, ⟨_, _, _, rfl, rfl, kx _ _ ⟨FZ k0 (FK_f hq), _, _, fI_2.1, fI_2.2, flt_1.1, flt_1.2, ?_⟩⟩⟩⟩
  · have n := Cc_n c1 hk
    rw [n.1]
    refine c_knows hq kb.2.2.2.1.1 kb.2.2.2.1.2 hw.2.2.2.1.2 n.2.2.2.1 hw.2.2.2.1.1 ⟨_, _, _, rfl, rfl, fun z => ?_, fun z => ?_⟩
    · rw [zB_0] at z
      have l2 := tk_lt l1.1 (show tkK l T (nX l T j) ≠ 0 by omega)
      refine c_adv c1 (fun I2 J2 f2 c2 => ⟨_, _, rfl, rfl, c_take (c := 140) (by omega) c2 (fun y1 I3 J3 f3 c3 => ⟨_, _, _, rfl, rfl, fun z => absurd z (by decide), fun _ => ?_⟩) (fun y1 => ⟨_, _, _, rfl, rfl, fun _ => ⟨_, _, _, rfl, rfl, kx _ _ ?_⟩, fun z => absurd rfl z⟩)⟩)
      · refine c_num (lo := 0) (hi := 999) (by omega) (by omega) c3 (fun b1 _ b3 => ⟨_, _, _, rfl, rfl, fun z => absurd z (by decide), fun _ => ?_⟩) (fun n hn => ⟨_, _, _, rfl, rfl, fun _ => ⟨_, _, _, rfl, rfl, kx _ _ ?_⟩, fun z => absurd rfl z⟩)
        · have kb3 := KB_4 hq f3 (KB_4 hq f2 kb)
          have g10 : I3 q 10 = Int32.ofInt (P.length : Nat) := kb3.2.2.2.1.1
          rw [(Cc_v c3 b1).1]
          refine sg_X5_addPerson hq ?_
          rw [g10, z_le (by omega)]
          refine ⟨fun z => absurd z (by omega), fun _ => ⟨z_inN (by omega) (by omega), ?_⟩⟩
          rw [z_ixN (by omega), z_p1]
          refine ⟨_, _, rfl, rfl, c_adv (Cc_c (by rw [mu_row (by omega), mu_row (by omega)]) (by rw [mu_row (by omega), mu_row (by omega)]) (mu_row (by omega)) (mu_row (by omega)) c3) (fun I4 J4 f4 c4 => ⟨_, _, rfl, rfl, ⟨_, _, _, rfl, rfl, ko I4 J4 ?_⟩⟩)⟩
          refine ⟨nX l T (nX l T (nX l T (nX l T j))), A, G, w, e, (tw_ l T (nX l T j), tv l T (nX l T (nX l T (nX l T j)))) :: P, D, u, C, FK_t k0 (FK_t (FK_4 f2) (FK_t (FK_4 f3) (FK_t (FK_u hq (by omega)) (FK_t (FK_u hq (by omega)) (FK_t (FK_J (Or.inr rfl)) (FK_4 f4)))))), ⟨c4, ?_, KB_4 hq f4 ?_⟩, ?_, ?_, ?_⟩
          · refine kN_no (k := 9) (v := Int32.ofInt 1) (by omega) ?_ h.2.1
            rw [f4.1 14 (by omega), mu_row (by omega), mu_row (by omega), f3.1 14 (by omega), f2.1 14 (by omega), f1.1 14 (by omega)]
          · obtain ⟨h1, ⟨h2, h2'⟩, h3, ⟨h4, h4'⟩, ⟨h5, h5'⟩, h6, h6', h6''⟩ := kb3
            refine ⟨?_, ⟨by rw [mu_row (by omega), mu_row (by omega)]; exact h2, by rw [mu_row (by omega)]; exact h2'⟩, ⟨by rw [mu_ne (by omega), mu_row (by omega)]; exact h3.1, by rw [mu_ne (by omega), mu_row (by omega)]; exact h3.2⟩, ⟨by rw [mu_at, List.length_cons], ⟨by rw [mu_at], by rw [mu_row (by omega), mu_at]⟩, PS_c P (fun i hi => ⟨by rw [mu_row (by omega), mu_ne (by omega)], by rw [mu_ne (by omega)]⟩) h4'⟩, ⟨by rw [mu_ne (by omega), mu_row (by omega)]; exact h5, XS_c D (fun i _ => by rw [mu_row (by omega), mu_row (by omega), mu_row (by omega), mu_row (by omega)]; exact ⟨rfl, rfl⟩) h5'⟩, by rw [mu_ne (by omega), mu_row (by omega)]; exact h6, by rw [mu_ne (by omega), mu_row (by omega)]; exact h6', CS_c _ (fun i _ => by rw [mu_row (by omega), mu_row (by omega)]) h6''⟩
            unfold kS at h1 ⊢
            rw [mu_ne (by omega), mu_ne (by omega), mu_ne (by omega), mu_ne (by omega), mu_ne (by omega), mu_ne (by omega), mu_row (by omega)]; exact h1
          · obtain ⟨w1, w2, w3, w4, w5, w6⟩ := hw
            exact ⟨w1, w2, w3, ⟨by rw [List.length_cons]; omega, ⟨n.2.2.2.1, n.2.2.2.2.1, n.2.2.2.2.2, b3⟩, w4.2⟩, w5, w6⟩
          · intro SL' xs' d' p' s' q' Q' Im Jm ml kk
            exact m_pers hK ml hw hf _ rfl _ rfl _ rfl (fun _ _ _ _ _ I2 J2 f m => kk I2 J2 f m) (fun z => absurd hk z) (fun _ y => absurd (z.symm.trans y) (by decide)) (fun _ _ z => absurd y1 z) (fun _ _ _ n hn => by unfold nbad at hn; omega)
          · have l3 := tk_lt l2.1 (show tkK l T (nX l T (nX l T j)) ≠ 0 by omega)
            have l4 := tk_lt l3.1 (show tkK l T (nX l T (nX l T (nX l T j))) ≠ 0 by omega)
            omega
        · have fb := flt_b hn
          refine ⟨FZ k0 (FZ (FK_4 f2) (FZ (FK_4 f3) (FK_f hq))), _, _, fI_2.1, fI_2.2, fb.1, fb.2, ?_⟩
          intro SL' xs' d' p' s' q' Q' Im Jm ml kk
          exact m_pers hK ml hw hf _ rfl _ rfl _ rfl (fun _ _ _ _ _ => by unfold nbad at hn; omega) (fun z => absurd hk z) (fun _ y => absurd (z.symm.trans y) (by decide)) (fun _ _ z => absurd y1 z) (fun _ _ _ n2 hn2 I2 J2 f x y => kk I2 J2 f (by rw [x, show n2 = n by unfold nbad at hn hn2; omega]) y)
      · refine ⟨FZ k0 (FZ (FK_4 f2) (FK_f hq)), _, _, fI_2.1, fI_2.2, flt_1.1, flt_1.2, ?_⟩
        intro SL' xs' d' p' s' q' Q' Im Jm ml kk
        exact m_pers hK ml hw hf _ rfl _ rfl _ rfl (fun _ _ z => absurd z y1) (fun z => absurd hk z) (fun _ y => absurd (z.symm.trans y) (by decide)) (fun _ _ _ I2 J2 f x y => kk I2 J2 f x y) (fun _ _ z => absurd z y1)
    · rw [zB_t] at z
      refine c_fail (n := 3) c1 ⟨_, _, _, rfl, rfl, Or.inl rfl, ⟨_, _, _, rfl, rfl, kx _ _ ⟨FZ k0 (FK_f hq), _, _, fI_2.1, fI_2.2, (b3 _).1, (b3 _).2, ?_⟩⟩⟩
      intro SL' xs' d' p' s' q' Q' Im Jm ml kk
      exact m_pers hK ml hw hf _ rfl _ rfl _ rfl (fun _ y => absurd (z.symm.trans y) (by decide)) (fun z => absurd hk z) (fun _ _ I2 J2 f x y => kk I2 J2 f x y) (fun _ y => absurd (z.symm.trans y) (by decide)) (fun _ y => absurd (z.symm.trans y) (by decide))
  · intro SL' xs' d' p' s' q' Q' Im Jm ml kk
    exact m_pers hK ml hw hf _ rfl _ rfl _ rfl (fun z => absurd z hk) (fun _ I2 J2 f x y => kk I2 J2 f x y) (fun z => absurd z hk) (fun z => absurd z hk) (fun z => absurd z hk)
end
