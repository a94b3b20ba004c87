/-! the count's text: the reference's waits and notes -/
def wo (u : Int) : Int := if u = -40 then 40 else wh u
def xrk (u : Int) : Nat := if u = -142 then 20 else if u = -143 then 21 else if u = -144 then 22 else if u = -60 ∨ u = -61 ∨ u = -62 then 23 else if u = -43 ∨ u = -45 then 26 else 28
def opn (u : Int) : Prop := u = -142 ∨ u = -143 ∨ u = -144 ∨ u = -60 ∨ u = -61 ∨ u = -62 ∨ u = -43 ∨ u = -45 ∨ u = -42 ∨ u = -47
theorem opn_f {u : Int} (h : opn u) : sx_X11_rank (Int32.ofInt (wo u)) = Int32.ofInt (xrk u : Nat) ∧ wo u = wh u ∧ 20 ≤ wo u ∧ wo u ≤ 29 ∧ (wo u = 22 ↔ u = -144) ∧ xrk u ≤ 28 ∧ 20 ≤ xrk u ∧ u < 0 := by
  rcases h with h | h | h | h | h | h | h | h | h | h <;> subst h <;> decide
def WS (I : Nat → Nat → Int32) : List Int → Prop
  | [] => True
  | w :: r => (I 71 r.length = Int32.ofInt (wo w) ∧ (w = -40 ∨ opn w)) ∧ WS I r
def NS (I : Nat → Nat → Int32) : List Int → Prop
  | [] => True
  | w :: r => (I 67 r.length = Int32.ofInt (wh w) ∧ (0 ≤ w → I 68 r.length = Int32.ofInt w)) ∧ NS I r
def dp : List Int → Nat
  | [] => 0
  | w :: r => (if w = -40 ∨ w = -144 then 1 else 0) + dp r
def hasO : List Int → Bool
  | [] => false
  | w :: r => decide (w = -40) || hasO r
def pp : List Int → List Int → List Int
  | [], N => N
  | w :: r, N => pp r (w :: N)
theorem pp_app : ∀ v w N, pp (v ++ w) N = pp w (pp v N)
  | [], _, _ => rfl
  | a :: v, w, N => pp_app v w (a :: N)
theorem pp_len : ∀ v N, (pp v N).length = v.length + N.length
  | [], N => by rw [pp, List.length_nil, Nat.zero_add]
  | a :: v, N => by rw [pp, pp_len v (a :: N), List.length_cons, List.length_cons]; omega
theorem WS_c {I I2 : Nat → Nat → Int32} : ∀ W : List Int, (∀ i, i < W.length → I2 71 i = I 71 i) → WS I W → WS I2 W
  | [], _, _ => trivial
  | w :: r, h, g => ⟨⟨by rw [h _ (by rw [List.length_cons]; omega)]; exact g.1.1, g.1.2⟩, WS_c r (fun i hi => h i (by rw [List.length_cons]; omega)) g.2⟩
theorem NS_c {I I2 : Nat → Nat → Int32} : ∀ N : List Int, (∀ i, i < N.length → I2 67 i = I 67 i ∧ I2 68 i = I 68 i) → NS I N → NS I2 N
  | [], _, _ => trivial
  | w :: r, h, g => ⟨⟨by rw [(h _ (by rw [List.length_cons]; omega)).1]; exact g.1.1, fun z => by rw [(h _ (by rw [List.length_cons]; omega)).2]; exact g.1.2 z⟩, NS_c r (fun i hi => h i (by rw [List.length_cons]; omega)) g.2⟩
theorem WS_drop {I : Nat → Nat → Int32} : ∀ (m : Nat) (W : List Int), WS I W → WS I (W.drop m)
  | 0, _, h => h
  | _ + 1, [], _ => trivial
  | m + 1, _ :: r, h => WS_drop m r h.2
def vk (L : Nat) (v : List Int) : Prop := ∀ w, w ∈ v → opn w ∧ L ≤ xrk w
def tp (L : Nat) : List Int → Prop
  | [] => True
  | w :: _ => w = -40 ∨ (opn w ∧ xrk w < L)
theorem tp_m {L M : Nat} {W : List Int} (h : L ≤ M) (t : tp L W) : tp M W := by
  cases W with
  | nil => trivial
  | cons w r => rcases t with t | t
                · exact Or.inl t
                · exact Or.inr ⟨t.1, by omega⟩
theorem vk_m {L M : Nat} {v : List Int} (h : M ≤ L) (t : vk L v) : vk M v := fun w hw => ⟨(t w hw).1, by have := (t w hw).2; omega⟩
theorem vk_0 {L : Nat} : vk L [] := fun w hw => absurd hw (by simp)
theorem vk_app {L : Nat} {v : List Int} {o : Int} (h : vk L v) (ho : opn o) (hr : L ≤ xrk o) : vk L (v ++ [o]) := fun w hw => by
  rcases List.mem_append.1 hw with z | z
  · exact h w z
  · rw [List.mem_singleton.1 z]; exact ⟨ho, hr⟩
theorem dp_vk {L : Nat} {W : List Int} : ∀ v : List Int, vk L v → 23 ≤ L → dp (v ++ W) = dp W
  | [], _, _ => rfl
  | a :: v, h, hL => by
    have h1 := h a (by simp)
    rw [List.cons_append, dp, dp_vk v (fun w hw => h w (by simp [hw])) hL, if_neg, Nat.zero_add]
    have := h1.2
    have h2 := h1.1
    intro z
    rcases z with z | z
    · subst z; unfold opn at h2; omega
    · subst z; exact absurd this (by show ¬ L ≤ 22; omega)
def ME (l : Nat) (T : Nat → Nat) (j u : Nat) (N W : List Int) (I : Nat → Nat → Int32) (J : Nat → Nat → Int64) : Prop := Mm l T j I J ∧ I 65 2 = Int32.ofInt 0 ∧ I 65 18 = Int32.ofInt (N.length : Nat) ∧ NS I N ∧ I 65 19 = Int32.ofInt (u : Nat) ∧ I 65 22 = Int32.ofInt (W.length : Nat) ∧ WS I W ∧ I 65 23 = Int32.ofInt (dp W : Nat) ∧ W.length ≤ 100 ∧ N.length + W.length ≤ 490
def FE (I I2 : Nat → Nat → Int32) (J J2 : Nat → Nat → Int64) : Prop := (∀ r, r ≠ 65 → r ≠ 67 → r ≠ 68 → r ≠ 71 → I2 r = I r) ∧ (∀ k, (k < 4 ∨ k = 5 ∨ (10 < k ∧ k ≠ 18 ∧ k ≠ 19 ∧ k ≠ 22 ∧ k ≠ 23)) → I2 65 k = I 65 k) ∧ (∀ r, r ≠ 65 → J2 r = J r) ∧ ∀ k, k ≠ 9 → J2 65 k = J 65 k
theorem FE_r {I : Nat → Nat → Int32} {J : Nat → Nat → Int64} : FE I I J J := ⟨fun _ _ _ _ _ => rfl, fun _ _ => rfl, fun _ _ => rfl, fun _ _ => rfl⟩
theorem FE_t {I I2 I3 : Nat → Nat → Int32} {J J2 J3 : Nat → Nat → Int64} (a : FE I I2 J J2) (b : FE I2 I3 J2 J3) : FE I I3 J J3 := ⟨fun r h1 h2 h3 h4 => by rw [b.1 r h1 h2 h3 h4, a.1 r h1 h2 h3 h4], fun k h => by rw [b.2.1 k h, a.2.1 k h], fun r h => by rw [b.2.2.1 r h, a.2.2.1 r h], fun k h => by rw [b.2.2.2 k h, a.2.2.2 k h]⟩
theorem FE_m {I I2 : Nat → Nat → Int32} {J J2 : Nat → Nat → Int64} (f : fm I I2 J J2) : FE I I2 J J2 := ⟨fun r h _ _ _ => f.1 r h, fun k h => f.2.1 k (by omega), f.2.2.1, f.2.2.2⟩
theorem FE_u {I : Nat → Nat → Int32} {J : Nat → Nat → Int64} {r k : Nat} {v : Int32} (h : (r = 65 ∧ (k = 18 ∨ k = 19 ∨ k = 22 ∨ k = 23)) ∨ r = 67 ∨ r = 68 ∨ r = 71) : FE I (mm_u I r k v) J J := by
  refine ⟨fun x h1 h2 h3 h4 => mu_row (by omega), fun x hx => ?_, fun _ _ => rfl, fun _ _ => rfl⟩
  by_cases e : r = 65
  · subst e; exact mu_ne (by omega)
  · rw [mu_row (fun z => e z.symm)]
def FEw (I I2 : Nat → Nat → Int32) (J J2 : Nat → Nat → Int64) : Prop := (∀ r, r ≠ 65 → r ≠ 67 → r ≠ 68 → r ≠ 71 → I2 r = I r) ∧ (∀ k, (k < 2 ∨ k = 5 ∨ (10 < k ∧ k ≠ 18 ∧ k ≠ 19 ∧ k ≠ 22 ∧ k ≠ 23)) → I2 65 k = I 65 k) ∧ (∀ r, r ≠ 65 → J2 r = J r) ∧ ∀ k, k ≠ 9 → J2 65 k = J 65 k
theorem FX {I I2 I3 : Nat → Nat → Int32} {J J2 J3 : Nat → Nat → Int64} (a : FE I I2 J J2) (b : FEw I2 I3 J2 J3) : FEw I I3 J J3 := ⟨fun r h1 h2 h3 h4 => by rw [b.1 r h1 h2 h3 h4, a.1 r h1 h2 h3 h4], fun k h => by rw [b.2.1 k h, a.2.1 k (by omega)], fun r h => by rw [b.2.2.1 r h, a.2.2.1 r h], fun k h => by rw [b.2.2.2 k h, a.2.2.2 k h]⟩
theorem FEw_g {I : Nat → Nat → Int32} {J : Nat → Nat → Int64} {a b : Int32} : FEw I (mm_u (mm_u I 65 2 a) 65 3 b) J J := ⟨fun r h _ _ _ => by rw [mu_row h, mu_row h], fun k h => by rw [mu_ne (by omega), mu_ne (by omega)], fun _ _ => rfl, fun _ _ => rfl⟩
section
variable {SL : Nat} {xs : Nat → Int32} {d : Nat} {p s q : Nat} {Q : Option Value → mm_H → Prop} {I : Nat → Nat → Int32} {J : Nat → Nat → Int64} {l j u : Nat} {T : Nat → Nat} {N W : List Int}
theorem e_tok (h : ME l T j u N W I J) (hk : tkK l T j ≠ 1) (kq : ∀ I2 J2, FE I I2 J J2 → ME l T (nX l T j) u N W I2 J2 → Q none (hp p s q I2 J2)) : mm_s SL xs (d + 2) 172 [.ref 65] (hp p s q I J) Q := by
  obtain ⟨h1, h2, h3, h4, h5, h6, h7, h8, h9⟩ := h
  refine m_adv h1 hk (fun I2 J2 f g => kq I2 J2 (FE_m f) ⟨g, ?_, ?_, ?_, ?_, ?_, ?_, ?_, h9⟩)
  · rw [f.2.1 2 (by omega)]; exact h2
  · rw [f.2.1 18 (by omega)]; exact h3
  · exact NS_c N (fun i _ => by rw [f.1 67 (by omega), f.1 68 (by omega)]; exact ⟨rfl, rfl⟩) h4
  · rw [f.2.1 19 (by omega)]; exact h5
  · rw [f.2.1 22 (by omega)]; exact h6
  · exact WS_c W (fun i _ => by rw [f.1 71 (by omega)]) h7
  · rw [f.2.1 23 (by omega)]; exact h8
theorem e_note {c : Int} {a b : Int32} (h : ME l T j u N W I J) (ha : a = Int32.ofInt (wh c)) (hb : 0 ≤ c → b = Int32.ofInt c) (hn : N.length + 1 + W.length ≤ 490) (kq : ∀ I2, FE I I2 J J → ME l T j u (c :: N) W I2 J → Q none (hp p s q I2 J)) : mm_s SL xs (d + 1) 179 [.ref 65, .int a, .int b] (hp p s q I J) Q := by
  obtain ⟨h1, h2, h3, h4, h5, h6, h7, h8, h9⟩ := h
  refine sg_X11_note ?_
  rw [h3]
  refine ⟨z_inN (by omega) (by omega), ?_⟩
  rw [z_ixN (by omega), z_p1]
  refine kq _ (FE_t (FE_u (by omega)) (FE_t (FE_u (by omega)) (FE_u (by omega)))) ⟨Mm_c (fun k a b => by rw [mu_ne (by omega), mu_row (by omega), mu_row (by omega)]) (by rw [mu_row (by omega), mu_row (by omega), mu_row (by omega)]) rfl h1, ?_, ?_, ⟨⟨?_, fun z => ?_⟩, ?_⟩, ?_, ?_, ?_, ?_, h9.1, by rw [List.length_cons]; omega⟩
  · rw [mu_ne (by omega), mu_row (by omega), mu_row (by omega)]; exact h2
  · rw [mu_at, List.length_cons]
  · rw [mu_row (by omega), mu_row (by omega), mu_at]; exact ha
  · rw [mu_row (by omega), mu_at]; exact hb z
  · refine NS_c N (fun i hi => ⟨?_, ?_⟩) h4
    · rw [mu_row (by omega), mu_row (by omega), mu_ne (by omega)]
    · rw [mu_row (by omega), mu_ne (by omega), mu_row (by omega)]
  · rw [mu_ne (by omega), mu_row (by omega), mu_row (by omega)]; exact h5
  · rw [mu_ne (by omega), mu_row (by omega), mu_row (by omega)]; exact h6
  · exact WS_c W (fun i _ => by rw [mu_row (by omega), mu_row (by omega), mu_row (by omega)]) h7
  · rw [mu_ne (by omega), mu_row (by omega), mu_row (by omega)]; exact h8
theorem e_upper (h : ME l T j u N W I J) (k0 : W = [] → Q (some (.int (Int32.ofInt 40))) (hp p s q I J)) (k1 : ∀ w r, W = w :: r → Q (some (.int (Int32.ofInt (wo w)))) (hp p s q I J)) : mm_s SL xs (d + 1) 180 [.ref 65] (hp p s q I J) Q := by
  obtain ⟨h1, h2, h3, h4, h5, h6, h7, h8, h9⟩ := h
  refine sg_X11_upper ?_
  rw [h6, z_eq (by omega)]
  cases W with
  | nil => exact ⟨fun _ => k0 rfl, fun z => absurd rfl z⟩
  | cons w r =>
    rw [List.length_cons] at h9 ⊢
    refine ⟨fun z => absurd z (by omega), fun _ => ?_⟩
    rw [z_m1 (by omega), Nat.add_sub_cancel]
    refine ⟨z_inN (by omega) (by omega), ?_⟩
    rw [z_ixN (by omega), h7.1.1]
    exact k1 w r rfl
theorem e_hold {w : Int} (h : ME l T j u N W I J) (hw : w = -40 ∨ opn w) (hl : W.length < 100) (hn : N.length + 1 + W.length ≤ 490) (kq : ∀ I2, FE I I2 J J → ME l T j u N (w :: W) I2 J → Q none (hp p s q I2 J)) : mm_s SL xs (d + 1) 181 [.ref 65, .int (Int32.ofInt (wo w))] (hp p s q I J) Q := by
  obtain ⟨h1, h2, h3, h4, h5, h6, h7, h8, h9⟩ := h
  refine sg_X11_hold ?_
  rw [h6]
  refine ⟨z_inN (by omega) (by omega), ?_⟩
  rw [z_ixN (by omega), z_p1, h8]
  have hb : 20 ≤ wo w ∧ wo w ≤ 40 := by
    rcases hw with z | z
    · subst z; decide
    · have := opn_f z; omega
  rw [z_eq (by omega), z_eq (by omega)]
  have fin : ∀ I2 : Nat → Nat → Int32, I2 = (if w = -40 ∨ w = -144 then (mm_u (mm_u (mm_u I 71 W.length (Int32.ofInt (wo w))) 65 22 (Int32.ofInt ((W.length + 1 : Nat) : Int))) 65 23 (Int32.ofInt (dp W : Nat) + Int32.ofInt 1)) else (mm_u (mm_u I 71 W.length (Int32.ofInt (wo w))) 65 22 (Int32.ofInt ((W.length + 1 : Nat) : Int)))) → Q none (hp p s q I2 J) := fun I2 e => by
    have f : FE I I2 J J := by
      rw [e]; split
      · exact FE_t (FE_u (by omega)) (FE_t (FE_u (by omega)) (FE_u (by omega)))
      · exact FE_t (FE_u (by omega)) (FE_u (by omega))
    have r : ∀ r, r ≠ 65 → r ≠ 71 → I2 r = I r := fun r h1 h2 => by
      rw [e]; split
      · rw [mu_row h1, mu_row h1, mu_row h2]
      · rw [mu_row h1, mu_row h2]
    have g : ∀ k, k ≠ 22 → k ≠ 23 → I2 65 k = I 65 k := fun k h1 h2 => by
      rw [e]; split
      · rw [mu_ne h2, mu_ne h1, mu_row (by omega)]
      · rw [mu_ne h1, mu_row (by omega)]
    have g71 : ∀ i, I2 71 i = mm_u I 71 W.length (Int32.ofInt (wo w)) 71 i := fun i => by
      rw [e]; split
      · rw [mu_row (by omega), mu_row (by omega)]
      · rw [mu_row (by omega)]
    refine kq I2 f ⟨Mm_c (fun k a b => g k (by omega) (by omega)) (r 66 (by omega) (by omega)) rfl h1, by rw [g 2 (by omega) (by omega)]; exact h2, by rw [g 18 (by omega) (by omega)]; exact h3, NS_c N (fun i _ => by rw [r 67 (by omega) (by omega), r 68 (by omega) (by omega)]; exact ⟨rfl, rfl⟩) h4, by rw [g 19 (by omega) (by omega)]; exact h5, ?_, ⟨⟨by rw [g71, mu_at], hw⟩, WS_c W (fun i hi => by rw [g71, mu_ne (by omega)]) h7⟩, ?_, by rw [List.length_cons]; omega, by rw [List.length_cons]; omega⟩
    · rw [e, List.length_cons]; split
      · rw [mu_ne (by omega), mu_at]
      · rw [mu_at]
    · rw [e, dp]; split
      · rw [mu_at, z_p1]; congr 2; omega
      · rw [mu_ne (by omega), mu_row (by omega), h8]; congr 2; omega
  rcases hw with z | z
  · subst z
    rw [if_pos (by omega)] at fin
    exact ⟨fun _ => fin _ rfl, fun y => absurd rfl y⟩
  · have o := opn_f z
    have ne : ¬ w = -40 := fun y => by subst y; unfold opn at z; omega
    refine ⟨fun y => by omega, fun _ => ⟨fun y => ?_, fun y => ?_⟩⟩
    · rw [if_pos (Or.inr (o.2.2.2.2.1.1 y))] at fin; exact fin _ rfl
    · rw [if_neg (fun x => x.elim ne (fun v => y (o.2.2.2.2.1.2 v)))] at fin; exact fin _ rfl
theorem e_pop {w : Int} (h : ME l T j u N (w :: W) I J) (hw : opn w) (kq : ∀ I2, FE I I2 J J → ME l T j u (w :: N) W I2 J → Q none (hp p s q I2 J)) : mm_s SL xs (d + 2) 182 [.ref 65] (hp p s q I J) Q := by
  obtain ⟨h1, h2, h3, h4, h5, h6, h7, h8, h9⟩ := h
  have o := opn_f hw
  have ne : ¬ w = -40 := fun y => by subst y; unfold opn at hw; omega
  rw [List.length_cons] at h6 h9
  refine sg_X11_pop ?_
  rw [h6, z_m1 (by omega), Nat.add_sub_cancel]
  refine ⟨z_inN (by omega) (by omega), ?_⟩
  rw [z_ixN (by omega), h7.1.1, z_eq (by omega), h8]
  have fin : ∀ I2 : Nat → Nat → Int32, (∀ r, r ≠ 65 → I2 r = I r) → (∀ k, k ≠ 22 → k ≠ 23 → I2 65 k = I 65 k) → I2 65 22 = Int32.ofInt (W.length : Nat) → I2 65 23 = Int32.ofInt (dp W : Nat) → mm_s SL xs (d + 1) 179 [.ref 65, .int (Int32.ofInt (wo w)), .int (Int32.ofInt 0)] (hp p s q I2 J) (fun r_ h_ => ∃ I1 J1, r_ = none ∧ h_ = hp p s q I1 J1 ∧ Q none (hp p s q I1 J1)) := fun I2 r g e22 e23 => by
    have me : ME l T j u N W I2 J := ⟨Mm_c (fun k a b => g k (by omega) (by omega)) (r 66 (by omega)) rfl h1, by rw [g 2 (by omega) (by omega)]; exact h2, by rw [g 18 (by omega) (by omega)]; exact h3, NS_c N (fun i _ => by rw [r 67 (by omega), r 68 (by omega)]; exact ⟨rfl, rfl⟩) h4, by rw [g 19 (by omega) (by omega)]; exact h5, e22, WS_c W (fun i hi => by rw [r 71 (by omega)]) h7.2, e23, by omega, by omega⟩
    have f : FE I I2 J J := ⟨fun x a _ _ _ => r x a, fun k hk => g k (by omega) (by omega), fun _ _ => rfl, fun _ _ => rfl⟩
    exact e_note (c := w) me (by rw [o.2.1]) (fun z => by omega) (by omega) (fun I3 f3 m3 => ⟨_, _, rfl, rfl, kq I3 (FE_t f f3) m3⟩)
  refine ⟨fun y => ?_, fun y => ?_⟩
  · have e := o.2.2.2.2.1.1 y
    refine fin _ (fun r hr => by rw [mu_row hr, mu_row hr]) (fun k a b => by rw [mu_ne b, mu_ne a]) (by rw [mu_ne (by omega), mu_at]) ?_
    rw [mu_at, dp, if_pos (Or.inr e), z_m1 (by omega)]; congr 2; omega
  · have e : ¬ w = -144 := fun z => y (o.2.2.2.2.1.2 z)
    refine fin _ (fun r hr => by rw [mu_row hr]) (fun k a b => by rw [mu_ne a]) mu_at ?_
    rw [mu_ne (by omega), h8, dp, if_neg (fun x => x.elim ne e), Nat.zero_add]
theorem e_settle_l {L : Nat} (hL : L ≤ 40) (ht : tp L W) : ∀ (v N : List Int) (I : Nat → Nat → Int32), vk L v → ME l T j u N (v ++ W) I J → (∀ I2, FE I I2 J J → ME l T j u (pp v N) W I2 J → Q none (hp p s q I2 J)) → w_X11_settle_0 SL xs d p s q Q (Int32.ofInt (L : Nat)) I J
  | [], N, I, hv, h, kq => by
    refine sg_X11_settle_0 (e_upper h (fun e => ⟨_, _, _, rfl, rfl, fun _ => kq I FE_r h, fun z => absurd rfl z⟩) (fun w r e => ⟨_, _, _, rfl, rfl, fun z => kq I FE_r h, fun z => ?_⟩))
    have e : W = w :: r := e
    rw [e] at ht
    rcases ht with t | t
    · subst t; exact absurd rfl z
    · have o := opn_f t.1
      refine e_upper h (fun e2 => absurd (e2.symm.trans (show [] ++ W = w :: r from e)) (by simp)) (fun w2 r2 e2 => ⟨_, _, _, rfl, rfl, fun _ => kq I FE_r h, fun z2 => ?_⟩)
      have e2 : W = w2 :: r2 := e2
      rw [e] at e2
      have : w = w2 := (List.cons.inj e2).1
      subst this
      rw [o.1, z_lt (by omega)] at z2
      omega
  | a :: v, N, I, hv, h, kq => by
    have ha := hv a (by simp)
    have o := opn_f ha.1
    have h : ME l T j u N (a :: (v ++ W)) I J := h
    refine sg_X11_settle_0 (e_upper h (fun e => absurd e (by simp)) (fun w r e => ⟨_, _, _, rfl, rfl, fun z => ?_, fun _ => ?_⟩))
    · have : a = w := (List.cons.inj e).1
      subst this
      rw [z_eq (by omega)] at z; omega
    · refine e_upper h (fun e => absurd e (by simp)) (fun w2 r2 e2 => ⟨_, _, _, rfl, rfl, fun z => ?_, fun _ => ?_⟩)
      · have : a = w2 := (List.cons.inj e2).1
        subst this
        rw [o.1, z_lt (by omega)] at z
        omega
      · exact e_pop h ha.1 (fun I2 f m => ⟨_, _, rfl, rfl, e_settle_l hL ht v (a :: N) I2 (fun w hw => hv w (by simp [hw])) m (fun I3 f3 m3 => kq I3 (FE_t f f3) m3)⟩)
theorem e_settle {L : Nat} {v : List Int} (hL : L ≤ 40) (ht : tp L W) (hv : vk L v) (h : ME l T j u N (v ++ W) I J) (kq : ∀ I2, FE I I2 J J → ME l T j u (pp v N) W I2 J → Q none (hp p s q I2 J)) : mm_s SL xs (d + 3) 184 [.ref 65, .int (Int32.ofInt (L : Nat))] (hp p s q I J) Q :=
  e_X11_settle rfl (e_settle_l hL ht v N I hv h kq)
theorem e_open_l (h : ME l T j u N W I J) (kq : Q (some (.int (zB (hasO W)))) (hp p s q I J)) : ∀ m, m ≤ W.length → w_X11_isOpen_4 SL xs d p s q Q (zB (hasO (W.drop m))) (Int32.ofInt ((W.length - m : Nat) : Int)) I J
  | 0, _ => by
    refine sg_X11_isOpen_4 ⟨fun _ => ⟨zB_z _, kq⟩, fun z => absurd ?_ z⟩
    rw [h.2.2.2.2.2.1, z_le (by have := h.2.2.2.2.2.2.2.2.1; omega)]; omega
  | m + 1, hm => by
    have hb := h.2.2.2.2.2.2.2.2.1
    have hw := WS_drop m W h.2.2.2.2.2.2.1
    have ed : W.drop m = W[m] :: W.drop (m + 1) := List.drop_eq_getElem_cons (by omega)
    rw [ed] at hw
    have el : (W.drop (m + 1)).length = W.length - (m + 1) := List.length_drop
    have ho : hasO (W.drop m) = (decide (W[m] = -40) || hasO (W.drop (m + 1))) := by rw [ed]; rfl
    have es : W.length - (m + 1) + 1 = W.length - m := by omega
    have h71 := hw.1.1
    rw [el] at h71
    have ih := e_open_l h kq m (by omega)
    refine sg_X11_isOpen_4 ⟨fun z => ?_, fun _ => ⟨fun z => ⟨z_inN (by omega) (by omega), ?_⟩, fun z => ?_⟩⟩
    · rw [h.2.2.2.2.2.1, z_le (by omega)] at z; omega
    · rw [z_ixN (by omega), h71, z_p1, es]
      rw [zB_0] at z
      rw [z, Bool.or_false] at ho
      rw [ho] at ih
      rcases hw.1.2 with o | o
      · rw [decide_eq_true o] at ih
        exact ⟨fun _ => ih, fun y => absurd (by rw [o]; rfl) y⟩
      · have ne : ¬ W[m] = -40 := fun y => by rw [y] at o; unfold opn at o; omega
        rw [decide_eq_false ne] at ih
        have f := opn_f o
        exact ⟨fun y => by rw [z_eq (by omega)] at y; omega, fun _ => ih⟩
    · rw [zB_0] at z
      have z : hasO (W.drop (m + 1)) = true := by simpa using z
      rw [z, Bool.or_true] at ho
      rw [ho] at ih
      rw [z_p1, es]
      exact ih
theorem e_open (h : ME l T j u N W I J) (kq : Q (some (.int (zB (hasO W)))) (hp p s q I J)) : mm_s SL xs (d + 1) 185 [.ref 65] (hp p s q I J) Q := by
  have g := e_open_l (SL := SL) (xs := xs) (d := d) h kq W.length (Nat.le_refl _)
  rw [List.drop_length, Nat.sub_self] at g
  exact sg_X11_isOpen g
end
