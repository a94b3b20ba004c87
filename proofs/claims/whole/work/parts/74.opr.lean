/-! the count's text: the reference's steps -/
def kn (k : Nat) : Int := if k = 145 then 1 else if k = 146 then 2 else if k = 147 then 3 else if k = 148 then 4 else if k = 149 then 5 else -1
def sgf (k : Nat) : Int := if k = 43 then 26 else if k = 45 then 27 else if k = 42 then 28 else if k = 47 then 29 else if k = 61 then 23 else if k = 60 then 24 else if k = 62 then 25 else if k = 143 then 21 else if k = 142 then 20 else -1
def obad (nw K u t : Nat) : Prop := (¬ (nw = 0 ∧ K = 144) ∧ ¬ (K = 2 ∨ K = 40 ∨ 145 ≤ K)) ∨ ((K = 2 ∨ K = 40 ∨ 145 ≤ K) ∧ u = 40) ∨ (((nw = 0 ∧ K = 144) ∨ K = 40) ∧ 7 ≤ t)
def bop (K : Nat) : Prop := K = 142 ∨ K = 143 ∨ K = 43 ∨ K = 45 ∨ K = 42 ∨ K = 47
def brl (K : Nat) : Prop := K = 60 ∨ K = 61 ∨ K = 62
def rb (v : List Int) : Prop := ∃ v1 r v2, v = v1 ++ r :: v2 ∧ vk 26 v1 ∧ opn r ∧ xrk r = 23
theorem rb_app {v w : List Int} (h : rb v) : rb (v ++ w) := by
  obtain ⟨v1, r, v2, e, a, b, c⟩ := h
  exact ⟨v1, r, v2 ++ w, by rw [e]; simp, a, b, c⟩
theorem flt_0 {K : Nat} : ¬ Int32.ofInt (flt K 2 : Nat) = Int32.ofInt 0 ∧ ¬ Int32.ofInt (flt K 2 : Nat) ≤ Int32.ofInt 0 := by
  unfold flt; split <;> decide
section
variable {SL : Nat} {xs : Nat → Int32} {d : Nat} {p s q : Nat} {Q : Option Value → mm_H → Prop} {I : Nat → Nat → Int32} {J : Nat → Nat → Int64} {l j u : Nat} {T : Nat → Nat} {N W : List Int}
theorem e_known (h : Mm l T j I J) : sy_X11_known I J = Int32.ofInt (kn (tkK l T j)) := by
  unfold sy_X11_known kn
  rw [show sy_X11_isWord (Int64.ofInt 444250812007) I J = zB (decide (tkK l T j = 145)) from Mm_isW h 17 (by omega), show sy_X11_isWord (Int64.ofInt 1751478885) I J = zB (decide (tkK l T j = 146)) from Mm_isW h 18 (by omega), show sy_X11_isWord (Int64.ofInt 1818325876) I J = zB (decide (tkK l T j = 147)) from Mm_isW h 19 (by omega), show sy_X11_isWord (Int64.ofInt 512970876019) I J = zB (decide (tkK l T j = 148)) from Mm_isW h 20 (by omega), show sy_X11_isWord (Int64.ofInt 495689625203) I J = zB (decide (tkK l T j = 149)) from Mm_isW h 21 (by omega)]
  by_cases a : tkK l T j = 145
  · rw [if_neg (by rw [zB_0, decide_eq_true a]; decide), if_pos a]
  rw [if_pos (by rw [zB_0]; exact decide_eq_false a), if_neg a]
  by_cases a : tkK l T j = 146
  · rw [if_neg (by rw [zB_0, decide_eq_true a]; decide), if_pos a]
  rw [if_pos (by rw [zB_0]; exact decide_eq_false a), if_neg a]
  by_cases a : tkK l T j = 147
  · rw [if_neg (by rw [zB_0, decide_eq_true a]; decide), if_pos a]
  rw [if_pos (by rw [zB_0]; exact decide_eq_false a), if_neg a]
  by_cases a : tkK l T j = 148
  · rw [if_neg (by rw [zB_0, decide_eq_true a]; decide), if_pos a]
  rw [if_pos (by rw [zB_0]; exact decide_eq_false a), if_neg a]
  by_cases a : tkK l T j = 149
  · rw [if_neg (by rw [zB_0, decide_eq_true a]; decide), if_pos a]
  rw [if_pos (by rw [zB_0]; exact decide_eq_false a), if_neg a]
theorem e_signOf (h : Mm l T j I J) : sy_X11_signOf I J = Int32.ofInt (sgf (tkK l T j)) := by
  unfold sy_X11_signOf sgf
  rw [show sy_X11_isWord (Int64.ofInt 6385252) I J = zB (decide (tkK l T j = 143)) from Mm_isW h 15 (by omega), show sy_X11_isWord (Int64.ofInt 28530) I J = zB (decide (tkK l T j = 142)) from Mm_isW h 14 (by omega)]
  have k43 : (I 65 6 = Int32.ofInt 43) = (tkK l T j = 43) := Mm_k (c := 43) h (by omega)
  have k45 : (I 65 6 = Int32.ofInt 45) = (tkK l T j = 45) := Mm_k (c := 45) h (by omega)
  have k42 : (I 65 6 = Int32.ofInt 42) = (tkK l T j = 42) := Mm_k (c := 42) h (by omega)
  have k47 : (I 65 6 = Int32.ofInt 47) = (tkK l T j = 47) := Mm_k (c := 47) h (by omega)
  have k61 : (I 65 6 = Int32.ofInt 61) = (tkK l T j = 61) := Mm_k (c := 61) h (by omega)
  have k60 : (I 65 6 = Int32.ofInt 60) = (tkK l T j = 60) := Mm_k (c := 60) h (by omega)
  have k62 : (I 65 6 = Int32.ofInt 62) = (tkK l T j = 62) := Mm_k (c := 62) h (by omega)
  by_cases a : tkK l T j = 43
  · rw [if_pos (k43.mpr a), if_pos a]
  rw [if_neg (fun z => a (k43.mp z)), if_neg a]
  by_cases a : tkK l T j = 45
  · rw [if_pos (k45.mpr a), if_pos a]
  rw [if_neg (fun z => a (k45.mp z)), if_neg a]
  by_cases a : tkK l T j = 42
  · rw [if_pos (k42.mpr a), if_pos a]
  rw [if_neg (fun z => a (k42.mp z)), if_neg a]
  by_cases a : tkK l T j = 47
  · rw [if_pos (k47.mpr a), if_pos a]
  rw [if_neg (fun z => a (k47.mp z)), if_neg a]
  by_cases a : tkK l T j = 61
  · rw [if_pos (k61.mpr a), if_pos a]
  rw [if_neg (fun z => a (k61.mp z)), if_neg a]
  by_cases a : tkK l T j = 60
  · rw [if_pos (k60.mpr a), if_pos a]
  rw [if_neg (fun z => a (k60.mp z)), if_neg a]
  by_cases a : tkK l T j = 62
  · rw [if_pos (k62.mpr a), if_pos a]
  rw [if_neg (fun z => a (k62.mp z)), if_neg a]
  by_cases a : tkK l T j = 143
  · rw [if_neg (by rw [zB_0, decide_eq_true a]; decide), if_pos a]
  rw [if_pos (by rw [zB_0]; exact decide_eq_false a), if_neg a]
  by_cases a : tkK l T j = 142
  · rw [if_neg (by rw [zB_0, decide_eq_true a]; decide), if_pos a]
  rw [if_pos (by rw [zB_0]; exact decide_eq_false a), if_neg a]
theorem zB_t {b : Bool} : (¬ zB b = Int32.ofInt 0) = (b = true) := by rw [zB_0]; cases b <;> simp
theorem e_opw {nw : Nat} (hn : nw ≤ 1) (h : ME l T j u N W I J) (hu : u ≤ 40) (kb : obad nw (tkK l T j) u (dp W) → w_X11_operand_98 SL xs d p s q Q (Int32.ofInt (nw : Nat)) (zB (decide (nw = 0 ∧ tkK l T j = 144))) (Int32.ofInt (kn (tkK l T j))) (zB (decide (tkK l T j = 2 ∨ tkK l T j = 40 ∨ 145 ≤ tkK l T j))) I J) (kg : ¬ obad nw (tkK l T j) u (dp W) → w_X11_operand_103 SL xs d p s q Q (Int32.ofInt (nw : Nat)) (zB (decide (nw = 0 ∧ tkK l T j = 144))) (Int32.ofInt (kn (tkK l T j))) (zB (decide (tkK l T j = 2 ∨ tkK l T j = 40 ∨ 145 ≤ tkK l T j))) I J) : mm_s SL xs (d + 3) 187 [.ref 65, .int (Int32.ofInt (nw : Nat))] (hp p s q I J) Q := by
  have hr := (KR l T j).1
  have hd : dp W ≤ 200 := by
    have : ∀ V : List Int, dp V ≤ V.length := fun V => by
      induction V with
      | nil => exact Nat.le_refl _
      | cons a r ih => rw [dp, List.length_cons]; split <;> omega
    have := this W
    have := h.2.2.2.2.2.2.2.2.1
    omega
  have g53 : ∀ b : Bool, b = decide (tkK l T j = 2 ∨ tkK l T j = 40 ∨ 145 ≤ tkK l T j) → w_X11_operand_53 SL xs d p s q Q (Int32.ofInt (nw : Nat)) (zB (decide (nw = 0 ∧ tkK l T j = 144))) (Int32.ofInt (kn (tkK l T j))) (zB b) I J := fun b hb => by
    have h76 : ¬ (¬ (nw = 0 ∧ tkK l T j = 144) ∧ ¬ (tkK l T j = 2 ∨ tkK l T j = 40 ∨ 145 ≤ tkK l T j)) → ¬ ((tkK l T j = 2 ∨ tkK l T j = 40 ∨ 145 ≤ tkK l T j) ∧ u = 40) → w_X11_operand_76 SL xs d p s q Q (Int32.ofInt (nw : Nat)) (zB (decide (nw = 0 ∧ tkK l T j = 144))) (Int32.ofInt (kn (tkK l T j))) (zB b) I J := fun a1 a2 => by
      have h89 : ((nw = 0 ∧ tkK l T j = 144) ∨ tkK l T j = 40) → w_X11_operand_89 SL xs d p s q Q (Int32.ofInt (nw : Nat)) (zB (decide (nw = 0 ∧ tkK l T j = 144))) (Int32.ofInt (kn (tkK l T j))) (zB b) I J := fun a3 => by
        refine sg_X11_operand_89 ?_
        rw [h.2.2.2.2.2.2.2.1, z_lt (by omega), hb]
        exact ⟨fun z => kg (fun o => by unfold obad at o; omega), fun z => kb (Or.inr (Or.inr ⟨a3, by omega⟩))⟩
      refine sg_X11_operand_76 ?_
      rw [zB_0, show (I 65 6 = Int32.ofInt 40) = (tkK l T j = 40) from Mm_k (c := 40) h.1 (by omega)]
      refine ⟨fun z => ⟨fun e => h89 (Or.inr e), fun e => ?_⟩, fun z => h89 (Or.inl ?_)⟩
      · rw [hb]; exact kg (fun o => by have z := of_decide_eq_false z; unfold obad at o; omega)
      · exact of_decide_eq_true (by simpa using z)
    have h62 : ¬ (¬ (nw = 0 ∧ tkK l T j = 144) ∧ ¬ (tkK l T j = 2 ∨ tkK l T j = 40 ∨ 145 ≤ tkK l T j)) → w_X11_operand_62 SL xs d p s q Q (Int32.ofInt (nw : Nat)) (zB (decide (nw = 0 ∧ tkK l T j = 144))) (Int32.ofInt (kn (tkK l T j))) (zB b) I J := fun a1 => by
      refine sg_X11_operand_62 ?_
      rw [zB_0, h.2.2.2.2.1, z_eq (by omega)]
      refine ⟨fun z => h76 a1 (fun y => ?_), fun z => ⟨fun e => ?_, fun e => h76 a1 (fun y => e (by omega))⟩⟩
      · rw [hb] at z; exact absurd y.1 (of_decide_eq_false z)
      · have z : b = true := by simpa using z
        rw [hb] at z
        rw [hb]; exact kb (Or.inr (Or.inl ⟨of_decide_eq_true z, by omega⟩))
    refine sg_X11_operand_53 ?_
    rw [zB_0, zB_0]
    refine ⟨fun z => ⟨fun y => ?_, fun y => h62 (fun x => ?_)⟩, fun z => h62 (fun x => ?_)⟩
    · rw [hb] at y
      rw [hb]; exact kb (Or.inl ⟨of_decide_eq_false z, of_decide_eq_false y⟩)
    · have y : b = true := by simpa using y
      rw [hb] at y
      exact x.2 (of_decide_eq_true y)
    · exact x.1 (of_decide_eq_true (by simpa using z))
  have g20 : w_X11_operand_20 SL xs d p s q Q (Int32.ofInt (nw : Nat)) (zB (decide (nw = 0 ∧ tkK l T j = 144))) I J := by
    refine sg_X11_operand_20 ?_
    rw [e_known h.1, show (I 65 6 = Int32.ofInt 2) = (tkK l T j = 2) from Mm_k (c := 2) h.1 (by omega), show (I 65 6 = Int32.ofInt 40) = (tkK l T j = 40) from Mm_k (c := 40) h.1 (by omega)]
    have hkn : (kn (tkK l T j) < 0 ↔ ¬ 145 ≤ tkK l T j) ∧ -1 ≤ kn (tkK l T j) ∧ kn (tkK l T j) ≤ 5 := by
      unfold kn
      repeat' split
      all_goals omega
    rw [z_lt (by omega)]
    refine ⟨fun e => sg_X11_operand_46 (g53 true (decide_eq_true (Or.inl e)).symm), fun e => ⟨fun e2 => sg_X11_operand_46 (g53 true (decide_eq_true (Or.inr (Or.inl e2))).symm), fun e2 => ⟨fun e3 => g53 false (decide_eq_false (by omega)).symm, fun e3 => sg_X11_operand_46 (g53 true (decide_eq_true (by omega)).symm)⟩⟩⟩
  refine sg_X11_operand ?_
  rw [show sy_X11_isWord (Int64.ofInt 7237492) I J = zB (decide (tkK l T j = 144)) from Mm_isW h.1 16 (by omega), zB_0, z_eq (by omega)]
  refine ⟨fun e => ⟨fun e2 => sg_X11_operand_18 ?_, fun e2 => ?_⟩, fun e => sg_X11_operand_18 ?_⟩
  · rw [decide_eq_false (p := nw = 0 ∧ tkK l T j = 144) (fun z => of_decide_eq_false e2 z.2)] at g20; exact g20
  · rw [decide_eq_true (p := nw = 0 ∧ tkK l T j = 144) ⟨by omega, of_decide_eq_true (by simpa using e2)⟩] at g20; exact g20
  · rw [decide_eq_false (p := nw = 0 ∧ tkK l T j = 144) (fun z => e (by omega))] at g20; exact g20
theorem rc_op {nw : Nat} (hn : nw ≤ 1) (h2 : I 65 2 = Int32.ofInt 0) (k : mm_s SL xs (d + 4) 187 [.ref 65, .int (Int32.ofInt (nw : Nat))] (hp p s q I J) (fun r_ h_ => ∃ x1 I1 J1, r_ = some (.int x1) ∧ h_ = hp p s q I1 J1 ∧ w_X11_readCount_16 SL xs d p s q Q x1 I1 J1)) : w_X11_readCount_16 SL xs d p s q Q (Int32.ofInt (nw : Nat)) I J := by
  have n2 : ¬ Int32.ofInt (nw : Nat) = Int32.ofInt 2 := by rw [z_eq (by omega)]; omega
  exact sg_X11_readCount_16 ⟨fun _ => ⟨fun z => absurd z n2, fun _ => ⟨fun z => absurd z n2, fun _ => k⟩⟩, fun z => absurd h2 z⟩
theorem rc_f {x : Int32} (h2 : ¬ I 65 2 = Int32.ofInt 0) (k : Q none (hp p s q I J)) : w_X11_readCount_16 SL xs d p s q Q x I J :=
  sg_X11_readCount_16 ⟨fun z => absurd z h2, fun _ => ⟨fun z => absurd z h2, fun _ => k⟩⟩
theorem rc_si (h : ME l T j u N W I J) (hk : hasO W = true ∨ tkK l T j ≠ 59) (k : mm_s SL xs (d + 4) 189 [.ref 65] (hp p s q I J) (fun r_ h_ => ∃ x1 I1 J1, r_ = some (.int x1) ∧ h_ = hp p s q I1 J1 ∧ w_X11_readCount_16 SL xs d p s q Q x1 I1 J1)) : w_X11_readCount_16 SL xs d p s q Q (Int32.ofInt 2) I J := by
  refine sg_X11_readCount_16 ⟨fun _ => ⟨fun _ => e_open h ⟨_, _, _, rfl, rfl, fun z => ⟨fun z2 => ?_, fun _ => ⟨fun _ => k, fun z => absurd rfl z⟩⟩, fun _ => ⟨fun _ => k, fun z => absurd rfl z⟩⟩, fun z => absurd rfl z⟩, fun z => absurd h.2.1 z⟩
  rw [zB_0] at z
  rw [show (I 65 6 = Int32.ofInt 59) = (tkK l T j = 59) from Mm_k (c := 59) h.1 (by omega)] at z2
  rcases hk with y | y
  · rw [z] at y; exact absurd y (by decide)
  · exact absurd z2 y
theorem rc_end {v : List Int} (h : ME l T j u N v I J) (hk : tkK l T j = 59) (hv : vk 20 v) (kq : ∀ I2, FE I I2 J J → ME l T j u (pp v N) [] I2 J → Q none (hp p s q I2 J)) : w_X11_readCount_16 SL xs d p s q Q (Int32.ofInt 2) I J := by
  have ho : hasO v = false := by
    clear h kq
    induction v with
    | nil => rfl
    | cons a r ih =>
      have ha := (hv a (by simp)).1
      rw [hasO, ih (fun w hw => hv w (by simp [hw])), decide_eq_false (fun z => by subst z; unfold opn at ha; omega)]; rfl
  refine sg_X11_readCount_16 ⟨fun _ => ⟨fun _ => e_open h ⟨_, _, _, rfl, rfl, fun z => ⟨fun z2 => ⟨fun _ => ?_, fun z => absurd h.2.1 z⟩, fun z2 => absurd ?_ z2⟩, fun z => absurd (by rw [zB_0]; exact ho) z⟩, fun z => absurd rfl z⟩, fun z => absurd h.2.1 z⟩
  · have h' : ME l T j u N (v ++ []) I J := by rw [List.append_nil]; exact h
    exact e_settle (L := 0) (by omega) (show tp 0 [] from trivial) (vk_m (by omega) hv) h' (fun I2 f m => ⟨_, _, rfl, rfl, kq I2 f m⟩)
  · rw [show (I 65 6 = Int32.ofInt 59) = (tkK l T j = 59) from Mm_k (c := 59) h.1 (by omega)]; exact hk
/-- a fault at an operand -/
theorem o_fail {nw : Nat} (hn : nw ≤ 1) (h : ME l T j u N W I J) (hu : u ≤ 40) (hb : obad nw (tkK l T j) u (dp W)) (kq : ∀ I2 J2, FEw I I2 J J2 → I2 65 2 = Int32.ofInt (flt (tkK l T j) 2 : Nat) → I2 65 3 = Int32.ofInt (j : Nat) → Q none (hp p s q I2 J2)) : w_X11_readCount_16 SL xs d p s q Q (Int32.ofInt (nw : Nat)) I J := by
  refine rc_op hn h.2.1 (e_opw hn h hu (fun _ => sg_X11_operand_98 (m_wrong (n := 2) h.1 h.2.1 ⟨_, _, rfl, rfl, sg_X11_operand_103 ⟨fun z => ?_, fun _ => ⟨_, _, _, rfl, rfl, rc_f ?_ (kq _ _ FEw_g ?_ ?_)⟩⟩⟩)) (fun z => absurd hb z))
  · rw [mu_ne (by omega), mu_at] at z; exact absurd z flt_0.2
  · rw [mu_ne (by omega), mu_at]; exact flt_0.1
  · rw [mu_ne (by omega), mu_at]
  · rw [mu_at]
theorem ME_u {v : Int32} {u2 : Nat} (h : ME l T j u N W I J) (hv : v = Int32.ofInt (u2 : Nat)) : ME l T j u2 N W (mm_u I 65 19 v) J := by
  obtain ⟨h1, h2, h3, h4, h5, h6, h7, h8, h9⟩ := h
  refine ⟨Mm_c (fun k a b => by rw [mu_ne (by omega)]) (by rw [mu_row (by omega)]) rfl h1, ?_, ?_, ?_, ?_, ?_, ?_, ?_, h9⟩
  · rw [mu_ne (by omega)]; exact h2
  · rw [mu_ne (by omega)]; exact h3
  · exact NS_c N (fun i _ => by rw [mu_row (by omega), mu_row (by omega)]; exact ⟨rfl, rfl⟩) h4
  · rw [mu_at]; exact hv
  · rw [mu_ne (by omega)]; exact h6
  · exact WS_c W (fun i _ => by rw [mu_row (by omega)]) h7
  · rw [mu_ne (by omega)]; exact h8
theorem o_not (h : ME l T j u N W I J) (hu : u ≤ 40) (hk : tkK l T j = 144) (ht : dp W < 7) (hl : W.length < 100) (hn : N.length + 1 + W.length ≤ 490) (kq : ∀ I2 J2, FE I I2 J J2 → ME l T (nX l T j) u N (-144 :: W) I2 J2 → w_X11_readCount_16 SL xs d p s q Q (Int32.ofInt 0) I2 J2) : w_X11_readCount_16 SL xs d p s q Q (Int32.ofInt 0) I J := by
  refine rc_op (nw := 0) (by omega) h.2.1 (e_opw (by omega) h hu (fun z => absurd z (fun o => by unfold obad at o; omega)) (fun _ => sg_X11_operand_103 ⟨fun _ => ⟨fun z => ?_, fun _ => ?_⟩, fun z => absurd (by rw [h.2.1]; decide) z⟩))
  · rw [zB_0] at z; exact absurd ⟨rfl, hk⟩ (of_decide_eq_false z)
  · rw [show Int32.ofInt 22 = Int32.ofInt (wo (-144)) by decide]
    exact e_hold (w := -144) h (Or.inr (by unfold opn; omega)) hl hn (fun I2 f m => ⟨_, _, rfl, rfl, e_tok m (by omega) (fun I3 J3 f3 m3 => ⟨_, _, rfl, rfl, ⟨_, _, _, rfl, rfl, kq I3 J3 (FE_t f f3) m3⟩⟩)⟩)
theorem o_paren {nw : Nat} (hnw : nw ≤ 1) (h : ME l T j u N W I J) (hu : u < 40) (hk : tkK l T j = 40) (ht : dp W < 7) (hl : W.length < 100) (hn : N.length + 1 + W.length ≤ 490) (kq : ∀ I2 J2, FE I I2 J J2 → ME l T (nX l T j) (u + 1) N (-40 :: W) I2 J2 → w_X11_readCount_16 SL xs d p s q Q (Int32.ofInt 0) I2 J2) : w_X11_readCount_16 SL xs d p s q Q (Int32.ofInt (nw : Nat)) I J := by
  refine rc_op hnw h.2.1 (e_opw hnw h (by omega) (fun z => absurd z (fun o => by unfold obad at o; omega)) (fun _ => sg_X11_operand_103 ⟨fun _ => ⟨fun _ => ⟨fun _ => ?_, fun z => absurd ?_ z⟩, fun z => ?_⟩, fun z => absurd (by rw [h.2.1]; decide) z⟩))
  · exact e_hold (w := -40) (ME_u h (by rw [h.2.2.2.2.1, z_p1])) (Or.inl rfl) hl hn (fun I2 f m => ⟨_, _, rfl, rfl, e_tok m (by omega) (fun I3 J3 f3 m3 => ⟨_, _, rfl, rfl, ⟨_, _, _, rfl, rfl, kq I3 J3 (FE_t (FE_u (by omega)) (FE_t f f3)) m3⟩⟩)⟩)
  · rw [show (I 65 6 = Int32.ofInt 40) = (tkK l T j = 40) from Mm_k (c := 40) h.1 (by omega)]; exact hk
  · rw [zB_0, decide_eq_false (by omega)] at z; exact absurd rfl z
def atm (l : Nat) (T : Nat → Nat) (j : Nat) : Int := if tkK l T j = 2 then (tv l T j : Nat) else -((tkK l T j : Nat) : Int)
theorem o_atom {nw : Nat} (hnw : nw ≤ 1) (h : ME l T j u N W I J) (hu : u < 40) (hk : tkK l T j = 2 ∨ 145 ≤ tkK l T j) (hn : N.length + 1 + W.length ≤ 490) (kq : ∀ I2 J2, FE I I2 J J2 → ME l T (nX l T j) (u + 1) (atm l T j :: N) W I2 J2 → w_X11_readCount_16 SL xs d p s q Q (Int32.ofInt 2) I2 J2) : w_X11_readCount_16 SL xs d p s q Q (Int32.ofInt (nw : Nat)) I J := by
  have hr := (KR l T j).1
  have hkn : (kn (tkK l T j) < 0 ↔ ¬ 145 ≤ tkK l T j) ∧ -1 ≤ kn (tkK l T j) ∧ kn (tkK l T j) ≤ 5 := by
    unfold kn
    repeat' split
    all_goals omega
  have fin : ∀ a : Int32, a = Int32.ofInt (wh (atm l T j)) → mm_s SL xs (d + 3) 179 [.ref 65, .int a, .int (I 65 8)] (hp p s q (mm_u I 65 19 (I 65 19 + Int32.ofInt 1)) J) (fun r_ h_ => ∃ I1 J1, r_ = none ∧ h_ = hp p s q I1 J1 ∧ w_X11_operand_176 SL xs (d + 1) p s q (fun r_ h_ => ∃ x1 I1 J1, r_ = some (.int x1) ∧ h_ = hp p s q I1 J1 ∧ w_X11_readCount_16 SL xs d p s q Q x1 I1 J1) (Int32.ofInt (nw : Nat)) (zB (decide (nw = 0 ∧ tkK l T j = 144))) (Int32.ofInt (kn (tkK l T j))) (zB (decide (tkK l T j = 2 ∨ tkK l T j = 40 ∨ 145 ≤ tkK l T j))) I1 J1) := fun a ha => by
    refine e_note (c := atm l T j) (ME_u h (by rw [h.2.2.2.2.1, z_p1])) ha (fun z => ?_) hn (fun I2 f m => ⟨_, _, rfl, rfl, sg_X11_operand_176 (e_tok m (by omega) (fun I3 J3 f3 m3 => ⟨_, _, rfl, rfl, ⟨_, _, _, rfl, rfl, kq I3 J3 (FE_t (FE_u (by omega)) (FE_t f f3)) m3⟩⟩))⟩)
    unfold atm at z ⊢
    by_cases e : tkK l T j = 2
    · rw [if_pos e]; exact (Mm_v h.1 e).1
    · rw [if_neg e] at z; omega
  refine rc_op hnw h.2.1 (e_opw hnw h (by omega) (fun z => absurd z (fun o => by unfold obad at o; omega)) (fun _ => sg_X11_operand_103 ⟨fun _ => ⟨fun _ => ⟨fun z => ?_, fun _ => ⟨fun z => fin _ ?_, fun z => fin _ ?_⟩⟩, fun z => ?_⟩, fun z => absurd (by rw [h.2.1]; decide) z⟩))
  · rw [show (I 65 6 = Int32.ofInt 40) = (tkK l T j = 40) from Mm_k (c := 40) h.1 (by omega)] at z; omega
  · rw [z_le (by omega)] at z
    have : tkK l T j = 145 ∨ tkK l T j = 146 ∨ tkK l T j = 147 ∨ tkK l T j = 148 ∨ tkK l T j = 149 := by omega
    unfold atm
    rcases this with e | e | e | e | e <;> rw [e] <;> rfl
  · rw [z_le (by omega)] at z
    have e : tkK l T j = 2 := by omega
    unfold atm wh
    rw [if_pos e, if_pos (by omega)]
  · rw [zB_0, decide_eq_false (by omega)] at z; exact absurd rfl z
end
