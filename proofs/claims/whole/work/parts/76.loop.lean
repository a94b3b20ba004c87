/-! the count's text: the class's code, and what both readers make of a piece -/
theorem nX_ge {l : Nat} {T : Nat → Nat} {j : Nat} (h : j ≤ l) (hk : tkK l T j ≠ 0) : nX l T j ≤ l ∧ j < nX l T j := by
  have b := nX_b (T := T) h
  refine ⟨b.1, b.2 ?_⟩
  rcases Nat.lt_or_ge j l with y | y
  · exact y
  · exact absurd (by rw [tkK, if_pos y]) hk
def CS (q : Nat) (I : Nat → Nat → Int32) : List Int → Prop
  | [] => True
  | w :: r => I (q + 5) r.length = Int32.ofInt w ∧ CS q I r
theorem CS_c {q : Nat} {I I2 : Nat → Nat → Int32} : ∀ C : List Int, (∀ i, i < C.length → I2 (q + 5) i = I (q + 5) i) → CS q I C → CS q I2 C
  | [], _, _ => trivial
  | w :: r, h, g => ⟨by rw [h _ (by rw [List.length_cons]; omega)]; exact g.1, CS_c r (fun i hi => h i (by rw [List.length_cons]; omega)) g.2⟩
def dl : List Int → Nat
  | [] => 0
  | w :: r => if w = -144 then dl r else if jn w then dl r - 1 else dl r + 1
def wfl : List Int → Prop
  | [] => True
  | w :: r => wfl r ∧ vc w ∧ dl r ≤ 40 ∧ (w = -144 → 1 ≤ dl r) ∧ (¬ w = -144 → jn w = true → 2 ≤ dl r) ∧ (¬ w = -144 → jn w = false → dl r < 40)
def CE (l : Nat) (T : Nat → Nat) (q j u : Nat) (C : List Int) (I : Nat → Nat → Int32) (J : Nat → Nat → Int64) : Prop := Cc l T j I J ∧ I q 9 = Int32.ofInt (u : Nat) ∧ I q 17 = Int32.ofInt (C.length : Nat) ∧ CS q I C
def FC (q : Nat) (I I2 : Nat → Nat → Int32) (J J2 : Nat → Nat → Int64) : Prop := (∀ r, r ≠ 3 → r ≠ 4 → r ≠ q → r ≠ q + 5 → I2 r = I r) ∧ (∀ k, k ≠ 9 → k ≠ 17 → I2 q k = I q k) ∧ (∀ k, I2 3 k = I 3 k) ∧ I2 4 1 = I 4 1 ∧ ∀ r, r ≠ 4 → J2 r = J r
def FCw (q : Nat) (I I2 : Nat → Nat → Int32) (J J2 : Nat → Nat → Int64) : Prop := (∀ r, r ≠ 3 → r ≠ 4 → r ≠ q → r ≠ q + 5 → I2 r = I r) ∧ (∀ k, k ≠ 9 → k ≠ 17 → I2 q k = I q k) ∧ (∀ k, k ≠ 1 → k ≠ 2 → I2 3 k = I 3 k) ∧ I2 4 1 = I 4 1 ∧ ∀ r, r ≠ 4 → J2 r = J r
theorem FC_r {q : Nat} {I : Nat → Nat → Int32} {J : Nat → Nat → Int64} : FC q I I J J := ⟨fun _ _ _ _ _ => rfl, fun _ _ _ => rfl, fun _ => rfl, rfl, fun _ _ => rfl⟩
theorem FC_t {q : Nat} {I I2 I3 : Nat → Nat → Int32} {J J2 J3 : Nat → Nat → Int64} (a : FC q I I2 J J2) (b : FC q I2 I3 J2 J3) : FC q I I3 J J3 := ⟨fun r h1 h2 h3 h4 => by rw [b.1 r h1 h2 h3 h4, a.1 r h1 h2 h3 h4], fun k h1 h2 => by rw [b.2.1 k h1 h2, a.2.1 k h1 h2], fun k => by rw [b.2.2.1 k, a.2.2.1 k], by rw [b.2.2.2.1, a.2.2.2.1], fun r h => by rw [b.2.2.2.2 r h, a.2.2.2.2 r h]⟩
theorem FZc {q : Nat} {I I2 I3 : Nat → Nat → Int32} {J J2 J3 : Nat → Nat → Int64} (a : FC q I I2 J J2) (b : FCw q I2 I3 J2 J3) : FCw q I I3 J J3 := ⟨fun r h1 h2 h3 h4 => by rw [b.1 r h1 h2 h3 h4, a.1 r h1 h2 h3 h4], fun k h1 h2 => by rw [b.2.1 k h1 h2, a.2.1 k h1 h2], fun k h1 h2 => by rw [b.2.2.1 k h1 h2, a.2.2.1 k], by rw [b.2.2.2.1, a.2.2.2.1], fun r h => by rw [b.2.2.2.2 r h, a.2.2.2.2 r h]⟩
theorem FWc {q : Nat} {I I2 I3 : Nat → Nat → Int32} {J J2 J3 : Nat → Nat → Int64} (a : FCw q I I2 J J2) (b : FC q I2 I3 J2 J3) : FCw q I I3 J J3 := ⟨fun r h1 h2 h3 h4 => by rw [b.1 r h1 h2 h3 h4, a.1 r h1 h2 h3 h4], fun k h1 h2 => by rw [b.2.1 k h1 h2, a.2.1 k h1 h2], fun k h1 h2 => by rw [b.2.2.1 k, a.2.2.1 k h1 h2], by rw [b.2.2.2.1, a.2.2.2.1], fun r h => by rw [b.2.2.2.2 r h, a.2.2.2.2 r h]⟩
theorem FCw_g {q : Nat} {I : Nat → Nat → Int32} {J : Nat → Nat → Int64} {a b : Int32} (hq : isP q) : FCw q I (mm_u (mm_u I 3 1 a) 3 2 b) J J := by
  have hq' : q = 39 ∨ q = 46 := hq
  exact ⟨fun r h1 _ _ _ => by rw [mu_row h1, mu_row h1], fun k _ _ => by rw [mu_row (by omega), mu_row (by omega)], fun k h1 h2 => by rw [mu_ne h2, mu_ne h1], by rw [mu_row (by omega), mu_row (by omega)], fun _ _ => rfl⟩
theorem FC_4 {q : Nat} {I I2 : Nat → Nat → Int32} {J J2 : Nat → Nat → Int64} (hq : isP q) (f : fr4 I I2 J J2) : FC q I I2 J J2 := by
  have hq : q ≠ 4 ∧ q ≠ 3 := by unfold isP at hq; omega
  exact ⟨fun r _ h _ _ => f.1 r h, fun k _ _ => by rw [f.1 q hq.1], fun k => by rw [f.1 3 (by omega)], f.2.1, f.2.2⟩
theorem FC_u {q r k : Nat} {v : Int32} {I : Nat → Nat → Int32} {J : Nat → Nat → Int64} (hq : isP q) (h : (r = q ∧ (k = 9 ∨ k = 17)) ∨ r = q + 5) : FC q I (mm_u I r k v) J J := by
  have hq : q = 39 ∨ q = 46 := hq
  refine ⟨fun x h1 h2 h3 h4 => mu_row (by omega), fun x h1 h2 => ?_, fun x => by rw [mu_row (by omega)], by rw [mu_row (by omega)], fun _ _ => rfl⟩
  by_cases e : r = q
  · subst e; exact mu_ne (by omega)
  · rw [mu_row (fun z => e z.symm)]
theorem CE_4 {l q j u j2 : Nat} {T : Nat → Nat} {C : List Int} {I I2 : Nat → Nat → Int32} {J J2 : Nat → Nat → Int64} (hq : isP q) (f : fr4 I I2 J J2) (h : CE l T q j u C I J) (h2 : Cc l T j2 I2 J2) : CE l T q j2 u C I2 J2 := by
  have hq : q = 39 ∨ q = 46 := hq
  exact ⟨h2, by rw [f.1 q (by omega)]; exact h.2.1, by rw [f.1 q (by omega)]; exact h.2.2.1, CS_c C (fun i _ => by rw [f.1 (q + 5) (by omega)]) h.2.2.2⟩
def SY (nw l : Nat) (T : Nat → Nat) (j u : Nat) (C W : List Int) (j1 u1 : Nat) (v N1 : List Int) : Prop := ∀ (SL : Nat) (xs : Nat → Int32) (d p s q : Nat) (Q : Option Value → mm_H → Prop) (I : Nat → Nat → Int32) (J : Nat → Nat → Int64), ME l T j u C W I J → (∀ I2 J2, FE I I2 J J2 → ME l T j1 u1 N1 (v ++ W) I2 J2 → w_X11_readCount_16 SL xs d p s q Q (Int32.ofInt 2) I2 J2) → w_X11_readCount_16 SL xs d p s q Q (Int32.ofInt (nw : Nat)) I J
def SF (nw l : Nat) (T : Nat → Nat) (j u : Nat) (C W : List Int) (fx px : Nat) : Prop := ∀ (SL : Nat) (xs : Nat → Int32) (d p s q : Nat) (Q : Option Value → mm_H → Prop) (I : Nat → Nat → Int32) (J : Nat → Nat → Int64), ME l T j u C W I J → (∀ I2 J2, FEw I I2 J J2 → I2 65 2 = Int32.ofInt (fx : Nat) → I2 65 3 = Int32.ofInt (px : Nat) → Q none (hp p s q I2 J2)) → w_X11_readCount_16 SL xs d p s q Q (Int32.ofInt (nw : Nat)) I J
/-- a piece is read: what then stands -/
def RY (nw l : Nat) (T : Nat → Nat) (q j u : Nat) (C W : List Int) (L b sl : Nat) (nc : Nat → List Int → Prop) (I I1 : Nat → Nat → Int32) (J J1 : Nat → Nat → Int64) : Prop := ∃ (j1 u1 : Nat) (C1 v N1 : List Int), FC q I I1 J J1 ∧ CE l T q j1 u1 C1 I1 J1 ∧ u < u1 ∧ u1 ≤ 40 ∧ C1.length + 8 ≤ C.length + 9 * (u1 - u) + sl ∧ wfl C1 ∧ dl C1 = dl C + 1 ∧ C1 = pp v N1 ∧ vk L v ∧ v.length ≤ b ∧ nc (tkK l T j1) v ∧ SY nw l T j u C W j1 u1 v N1 ∧ j < j1
def CF (nw l : Nat) (T : Nat → Nat) (q j u : Nat) (C W : List Int) (I I1 : Nat → Nat → Int32) (J J1 : Nat → Nat → Int64) : Prop := FCw q I I1 J J1 ∧ (∃ c : Nat, c ≤ 360 ∧ I1 q 17 = Int32.ofInt (c : Nat)) ∧ ∃ fx px : Nat, I1 3 1 = Int32.ofInt (fx : Nat) ∧ I1 3 2 = Int32.ofInt (px : Nat) ∧ 1 ≤ fx ∧ fx ≤ 4 ∧ SF nw l T j u C W fx px
def SP2 (y need L Lv b sl t : Nat) (nc : Nat → List Int → Prop) (no : Nat → Nat → Prop) : Prop := ∀ (SL : Nat) (xs : Nat → Int32) (D p s q : Nat) (Q : Option Value → mm_H → Prop) (I : Nat → Nat → Int32) (J : Nat → Nat → Int64) (l : Nat) (T : Nat → Nat) (j u : Nat) (C W : List Int) (nw : Nat), need ≤ D → isP q → CE l T q j u C I J → u ≤ 40 → C.length ≤ 9 * u → W.length ≤ u + t → dp W = t → tp L W → wfl C → dl C ≤ u → no nw (tkK l T j) → (∀ I1 J1, RY nw l T q j u C W Lv b sl nc I I1 J J1 → Q (some (.int (Int32.ofInt 1))) (hp p s q I1 J1)) → (∀ I1 J1, CF nw l T q j u C W I I1 J J1 → Q (some (.int (Int32.ofInt 0))) (hp p s q I1 J1)) → mm_s SL xs D y [.ref 3, .int (Int32.ofInt (t : Nat))] (hp p s q I J) Q
def SP (y need L b sl t : Nat) (nc : Nat → List Int → Prop) (no : Nat → Nat → Prop) : Prop := SP2 y need L L b sl t nc no
section
variable {SL : Nat} {xs : Nat → Int32} {d : Nat} {p s q : Nat} {Q : Option Value → mm_H → Prop} {I : Nat → Nat → Int32} {J : Nat → Nat → Int64} {l j u : Nat} {T : Nat → Nat} {C W : List Int}
theorem c_addc {w : Int} (hq : isP q) (h : CE l T q j u C I J) (hc : C.length < 360) (kq : ∀ I2, FC q I I2 J J → CE l T q j u (w :: C) I2 J → Q none (hp p s q I2 J)) : mm_s SL xs (d + 1) 58 [.ref q, .int (Int32.ofInt w)] (hp p s q I J) Q := by
  have hq' : q = 39 ∨ q = 46 := hq
  obtain ⟨h1, h2, h3, h4⟩ := h
  refine sg_X5_addCode hq ?_
  rw [h3, z_le (by omega)]
  refine ⟨fun z => by omega, fun _ => ⟨z_inN (by omega) (by omega), ?_⟩⟩
  rw [z_ixN (by omega), z_p1]
  refine kq _ (FC_t (FC_u hq (by omega)) (FC_u hq (by omega))) ⟨Cc_c (by rw [mu_row (by omega), mu_row (by omega)]) (by rw [mu_row (by omega), mu_row (by omega)]) rfl rfl h1, ?_, ?_, ?_, ?_⟩
  · rw [mu_ne (by omega), mu_row (by omega)]; exact h2
  · rw [mu_at, List.length_cons]
  · rw [mu_row (by omega), mu_at]
  · exact CS_c C (fun i hi => by rw [mu_row (by omega), mu_ne (by omega)]) h4
theorem c_add0 {w : Int32} {c : Nat} (hq : isP q) (h : I q 17 = Int32.ofInt (c : Nat)) (hc : c ≤ 360) (kq : ∀ I2, FC q I I2 J J → I2 3 = I 3 → (∃ c : Nat, c ≤ 360 ∧ I2 q 17 = Int32.ofInt (c : Nat)) → Q none (hp p s q I2 J)) : mm_s SL xs (d + 1) 58 [.ref q, .int w] (hp p s q I J) Q := by
  have hq' : q = 39 ∨ q = 46 := hq
  refine sg_X5_addCode hq ?_
  rw [h, z_le (by omega)]
  refine ⟨fun z => kq I FC_r rfl ⟨c, hc, h⟩, fun z => ⟨z_inN (by omega) (by omega), ?_⟩⟩
  rw [z_p1]
  exact kq _ (FC_t (FC_u hq (by omega)) (FC_u hq (by omega))) (by rw [mu_row (by omega), mu_row (by omega)]) ⟨c + 1, by omega, mu_at⟩
/-- a fault of the class at the token that it looks at -/
theorem c_failF {nw : Nat} (hq : isP q) (h : CE l T q j u C I J) (hc : C.length ≤ 360) (hs : SF nw l T j u C W (flt (tkK l T j) 2) j) (kq : ∀ I1 J1, CF nw l T q j u C W I I1 J J1 → Q (some (.int (Int32.ofInt 0))) (hp p s q I1 J1)) : mm_s SL xs (d + 1) 74 [.ref 3, .int (Int32.ofInt 2)] (hp p s q I J) Q := by
  have hq' : q = 39 ∨ q = 46 := hq
  refine c_fail (n := 2) h.1 (kq _ _ ⟨FCw_g hq, ⟨C.length, hc, by rw [mu_row (by omega), mu_row (by omega)]; exact h.2.2.1⟩, flt (tkK l T j) 2, j, by rw [mu_ne (by omega), mu_at], mu_at, ?_, ?_, hs⟩)
  · unfold flt; split <;> omega
  · unfold flt; split <;> omega
end
/-- X = Y {op Y} -/
theorem lp {x y need L LY b sl t : Nat} {nc : Nat → List Int → Prop} {no : Nat → Nat → Prop} {ops : Nat → Prop} {Wl : Nat → (Nat → Int32) → Nat → Nat → Nat → Nat → (Option Value → mm_H → Prop) → Int32 → Int32 → Int32 → (Nat → Nat → Int32) → (Nat → Nat → Int64) → Prop} (hy : SP y need LY b sl t nc no) (hn : 91 ≤ need) (hsl : sl ≤ 7) (hL : L < LY) (hL2 : 20 ≤ L) (ht7 : t ≤ 7) (hb8 : b ≤ 20) (hops : ∀ K, ops K → bop K ∧ xrk (-(K : Int)) = L) (hno : ∀ K K2, ops K → no (nwx K) K2) (hmono : ∀ K v w, nc K v → nc K (v ++ w))
  (hs : ∀ (SL : Nat) (xs : Nat → Int32) (d p s q : Nat) (Q : Option Value → mm_H → Prop) (v1 : Int32) (v3 : Int32) (I : Nat → Nat → Int32) (J : Nat → Nat → Int64) (l : Nat) (T : Nat → Nat) (j : Nat), isP q → Cc l T j I J → ¬ Int32.ofInt 40 ≤ v3 → (¬ ops (tkK l T j) → Q (some (.int (Int32.ofInt 1))) (hp p s q I J)) → (ops (tkK l T j) → mm_s SL xs (d + 90) 105 [.ref 4] (hp p s q I J) (fun r_ h_ => ∃ I1 J1, r_ = none ∧ h_ = hp p s q I1 J1 ∧ (mm_s SL xs (d + 90) y [.ref 3, .int v1] (hp p s q I1 J1) (fun r_ h_ => ∃ x2 I2 J2, r_ = some (.int x2) ∧ h_ = hp p s q I2 J2 ∧ (mm_s SL xs (d + 90) 58 [.ref q, .int (Int32.ofInt (-((tkK l T j : Nat) : Int)))] (hp p s q I2 J2) (fun r_ h_ => ∃ I3 J3, r_ = none ∧ h_ = hp p s q I3 J3 ∧ Wl SL xs d p s q Q v1 x2 (v3 + Int32.ofInt 1) I3 J3)))))) → Wl SL xs d p s q Q v1 (Int32.ofInt 1) v3 I J)
  (hs0 : ∀ (SL : Nat) (xs : Nat → Int32) (d p s q : Nat) (Q : Option Value → mm_H → Prop) (v1 v3 : Int32) (I : Nat → Nat → Int32) (J : Nat → Nat → Int64), isP q → Q (some (.int (Int32.ofInt 0))) (hp p s q I J) → Wl SL xs d p s q Q v1 (Int32.ofInt 0) v3 I J)
  (hx : ∀ (SL : Nat) (xs : Nat → Int32) (d p s q : Nat) (Q : Option Value → mm_H → Prop) (v1 : Int32) (I : Nat → Nat → Int32) (J : Nat → Nat → Int64), mm_s SL xs (d + 90) y [.ref 3, .int v1] (hp p s q I J) (fun r_ h_ => ∃ x1 I1 J1, r_ = some (.int x1) ∧ h_ = hp p s q I1 J1 ∧ Wl SL xs d p s q Q v1 x1 (Int32.ofInt 0) I1 J1) → mm_s SL xs (d + 91) x [.ref 3, .int v1] (hp p s q I J) Q) : SP x (need + 1) L (b + 1) sl t (fun K v => nc K v ∧ ¬ ops K) no := by
  intro SL xs D p s q Q I J l T j u C W nw hD hq hce hu hC hW hdp htp hwf hdl hnw kq kf
  obtain ⟨d, rfl⟩ : ∃ d, D = d + 91 := ⟨D - 91, by omega⟩
  have hq' : q = 39 ∨ q = 46 := hq
  have loop : ∀ (f i : Nat) (I1 : Nat → Nat → Int32) (J1 : Nat → Nat → Int64) (j1 u1 : Nat) (C1 v N1 : List Int), 40 - u1 ≤ f → i + u < u1 → FC q I I1 J J1 → CE l T q j1 u1 C1 I1 J1 → u1 ≤ 40 → C1.length + 8 ≤ C.length + 9 * (u1 - u) + sl → wfl C1 → dl C1 = dl C + 1 → C1 = pp v N1 → vk L v → v.length ≤ b + 1 → nc (tkK l T j1) v → SY nw l T j u C W j1 u1 v N1 → j < j1 → Wl SL xs d p s q Q (Int32.ofInt (t : Nat)) (Int32.ofInt 1) (Int32.ofInt (i : Nat)) I1 J1 := by
    intro f
    induction f with
    | zero =>
      intro i I1 J1 j1 u1 C1 v N1 hf hi g1 g2 g3 g4 g5 g6 g7 g8 g9 g10 g11 g12
      refine hs SL xs d p s q Q _ _ I1 J1 l T j1 hq g2.1 (by rw [z_le (by omega)]; omega) (fun ho => kq I1 J1 ⟨j1, u1, C1, v, N1, g1, g2, by omega, g3, g4, g5, g6, g7, g8, g9, ⟨g10, ho⟩, g11, g12⟩) (fun ho => ?_)
      have ob := hops _ ho
      have of_ := sgf_f (Or.inl ob.1)
      refine c_adv g2.1 (fun I2 J2 f2 c2 => ⟨_, _, rfl, rfl, ?_⟩)
      have ce2 := CE_4 hq f2 g2 c2
      have ndp : ¬ (-((tkK l T j1 : Nat) : Int) = -40 ∨ -((tkK l T j1 : Nat) : Int) = -144) := by have := ob.1; unfold bop at this; omega
      refine hy SL xs (d + 90) p s q _ I2 J2 l T (nX l T j1) u1 C1 (-((tkK l T j1 : Nat) : Int) :: W) (nwx (tkK l T j1)) (by omega) hq ce2 g3 (by omega) (by rw [List.length_cons]; omega) (by rw [dp, if_neg ndp]; omega) (Or.inr ⟨of_.2.1, by omega⟩) g5 (by omega) (hno _ _ ho) (fun I3 J3 r3 => ?_) (fun I3 J3 r3 => ?_)
      · obtain ⟨j3, u3, C3, v3, N3, k1, k2, k3, k4, _⟩ := r3
        omega
      · obtain ⟨k1, ⟨c, kc1, kc2⟩, fx, px, k2, k3, k4, k5, k6⟩ := r3
        refine ⟨_, _, _, rfl, rfl, c_add0 hq kc2 kc1 (fun I4 f4 e4 e5 => ⟨_, _, rfl, rfl, hs0 _ _ _ _ _ _ _ _ _ _ _ hq (kf I4 J3 ⟨FZc g1 (FZc (FC_4 hq f2) (FWc k1 f4)), e5, fx, px, by rw [e4]; exact k2, by rw [e4]; exact k3, k4, k5, ?_⟩)⟩)⟩
        intro SL' xs' d' p' s' q' Q' Im Jm me kk
        refine g11 SL' xs' d' p' s' q' Q' Im Jm me (fun Im2 Jm2 fm2 me2 => ?_)
        refine s_bin me2 ob.1 (by rw [ob.2]; exact g8) (by rw [ob.2]; exact htp) (by omega) (by rw [← g7]; omega) (fun Im3 Jm3 fm3 me3 => ?_)
        rw [← g7] at me3
        exact k6 SL' xs' d' p' s' q' Q' Im3 Jm3 me3 (fun Im4 Jm4 fm4 a b => kk Im4 Jm4 (FX fm2 (FX fm3 fm4)) a b)
    | succ f ih =>
      intro i I1 J1 j1 u1 C1 v N1 hf hi g1 g2 g3 g4 g5 g6 g7 g8 g9 g10 g11 g12
      refine hs SL xs d p s q Q _ _ I1 J1 l T j1 hq g2.1 (by rw [z_le (by omega)]; omega) (fun ho => kq I1 J1 ⟨j1, u1, C1, v, N1, g1, g2, by omega, g3, g4, g5, g6, g7, g8, g9, ⟨g10, ho⟩, g11, g12⟩) (fun ho => ?_)
      have ob := hops _ ho
      have of_ := sgf_f (Or.inl ob.1)
      refine c_adv g2.1 (fun I2 J2 f2 c2 => ⟨_, _, rfl, rfl, ?_⟩)
      have ce2 := CE_4 hq f2 g2 c2
      have ndp : ¬ (-((tkK l T j1 : Nat) : Int) = -40 ∨ -((tkK l T j1 : Nat) : Int) = -144) := by have := ob.1; unfold bop at this; omega
      refine hy SL xs (d + 90) p s q _ I2 J2 l T (nX l T j1) u1 C1 (-((tkK l T j1 : Nat) : Int) :: W) (nwx (tkK l T j1)) (by omega) hq ce2 g3 (by omega) (by rw [List.length_cons]; omega) (by rw [dp, if_neg ndp]; omega) (Or.inr ⟨of_.2.1, by omega⟩) g5 (by omega) (hno _ _ ho) (fun I3 J3 r3 => ?_) (fun I3 J3 r3 => ?_)
      · obtain ⟨j3, u3, C3, v3, N3, k1, k2, k3, k4, k5, k6, k7, k8, k9, k10, k11, k12, k13⟩ := r3
        have hvc : vc (-((tkK l T j1 : Nat) : Int)) ∧ jn (-((tkK l T j1 : Nat) : Int)) = true := by
          have := ob.1; unfold bop at this; unfold vc jn
          exact ⟨by omega, decide_eq_true (by omega)⟩
        refine ⟨_, _, _, rfl, rfl, c_addc hq k2 (by omega) (fun I4 f4 ce4 => ⟨_, _, rfl, rfl, ?_⟩)⟩
        rw [z_p1]
        refine ih (i + 1) I4 J3 j3 u3 (-((tkK l T j1 : Nat) : Int) :: C3) (v3 ++ [-((tkK l T j1 : Nat) : Int)]) N3 (by omega) (by omega) (FC_t g1 (FC_t (FC_4 hq f2) (FC_t k1 f4))) ce4 k4 (by rw [List.length_cons]; omega) ⟨k6, hvc.1, by omega, fun z => absurd (Or.inr z) ndp, fun _ _ => by omega, fun _ z => absurd (hvc.2.symm.trans z) (by decide)⟩ (by rw [dl, if_neg (fun z => ndp (Or.inr z)), if_pos hvc.2]; omega) (by rw [pp_app, ← k8]; rfl) (vk_app (vk_m (by omega) k9) of_.2.1 (by omega)) (by rw [List.length_append, List.length_singleton]; omega) (hmono _ _ _ k11) ?_ (by have := nX_ge g2.1.1 (show tkK l T j1 ≠ 0 by have := ob.1; unfold bop at this; omega); omega)
        intro SL' xs' d' p' s' q' Q' Im Jm me kk
        refine g11 SL' xs' d' p' s' q' Q' Im Jm me (fun Im2 Jm2 fm2 me2 => ?_)
        refine s_bin me2 ob.1 (by rw [ob.2]; exact g8) (by rw [ob.2]; exact htp) (by omega) (by rw [← g7]; omega) (fun Im3 Jm3 fm3 me3 => ?_)
        rw [← g7] at me3
        refine k12 SL' xs' d' p' s' q' Q' Im3 Jm3 me3 (fun Im4 Jm4 fm4 me4 => kk Im4 Jm4 (FE_t fm2 (FE_t fm3 fm4)) ?_)
        rw [List.append_assoc]; exact me4
      · obtain ⟨k1, ⟨c, kc1, kc2⟩, fx, px, k2, k3, k4, k5, k6⟩ := r3
        refine ⟨_, _, _, rfl, rfl, c_add0 hq kc2 kc1 (fun I4 f4 e4 e5 => ⟨_, _, rfl, rfl, hs0 _ _ _ _ _ _ _ _ _ _ _ hq (kf I4 J3 ⟨FZc g1 (FZc (FC_4 hq f2) (FWc k1 f4)), e5, fx, px, by rw [e4]; exact k2, by rw [e4]; exact k3, k4, k5, ?_⟩)⟩)⟩
        intro SL' xs' d' p' s' q' Q' Im Jm me kk
        refine g11 SL' xs' d' p' s' q' Q' Im Jm me (fun Im2 Jm2 fm2 me2 => ?_)
        refine s_bin me2 ob.1 (by rw [ob.2]; exact g8) (by rw [ob.2]; exact htp) (by omega) (by rw [← g7]; omega) (fun Im3 Jm3 fm3 me3 => ?_)
        rw [← g7] at me3
        exact k6 SL' xs' d' p' s' q' Q' Im3 Jm3 me3 (fun Im4 Jm4 fm4 a b => kk Im4 Jm4 (FX fm2 (FX fm3 fm4)) a b)
  refine hx SL xs d p s q Q _ I J (hy SL xs (d + 90) p s q _ I J l T j u C W nw (by omega) hq hce hu hC hW hdp (tp_m (by omega) htp) hwf hdl hnw (fun I1 J1 r => ?_) (fun I1 J1 r => ⟨_, _, _, rfl, rfl, hs0 _ _ _ _ _ _ _ _ _ _ _ hq (kf I1 J1 r)⟩))
  obtain ⟨j3, u3, C3, v3, N3, k1, k2, k3, k4, k5, k6, k7, k8, k9, k10, k11, k12, k13⟩ := r
  exact ⟨_, _, _, rfl, rfl, loop (40 - u3) 0 I1 J1 j3 u3 C3 v3 N3 (Nat.le_refl _) (by omega) k1 k2 k4 k5 k6 k7 k8 (vk_m (by omega) k9) (by omega) k11 k12 k13⟩
