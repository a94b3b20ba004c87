/-! the reference's making -/
def P00 : plT := (1, 1, 0, 0, -1, (fun _ => false), fun _ _ _ => 3)
def cX (I : Nat → Nat → Int32) (J : Nat → Nat → Int64) : Prop := I 4 1 = Int32.ofInt 0 ∧ I 3 1 = Int32.ofInt 0 ∧ I 3 2 = Int32.ofInt (-1) ∧ I 29 1 = Int32.ofInt 0 ∧ I 2 9 = Int32.ofInt 0 ∧ I 33 0 = Int32.ofInt 0 ∧ v_own (J 6) ∧ (I 39 0 = Int32.ofInt 1 ∧ I 39 1 = Int32.ofInt 0 ∧ I 39 2 = Int32.ofInt 1 ∧ I 39 3 = Int32.ofInt 0 ∧ I 39 4 = Int32.ofInt 0 ∧ I 39 5 = Int32.ofInt (-1) ∧ J 39 6 = Int64.ofInt 0 ∧ I 39 9 = Int32.ofInt 0 ∧ I 39 10 = Int32.ofInt 0 ∧ I 39 11 = Int32.ofInt 0 ∧ I 39 17 = Int32.ofInt 1 ∧ I 44 0 = Int32.ofInt 3) ∧ TR 15 (fr3 P00 0) I J ∧ I 53 0 = Int32.ofInt 0 ∧ I 57 0 = Int32.ofInt 0 ∧ I 61 0 = Int32.ofInt 0
def ix (h : mm_H) : Prop := h.1 = 58 ∧ (∀ a, a < 65 → h.2.1 a = ly_kd a) ∧ (∀ a, 65 ≤ a → h.2.1 a = .inl (.double, 0)) ∧ (∀ a k, a < 65 → h.2.2.2.2 a k = ly_R 39 46 46 a k) ∧ (∀ a k, 65 ≤ a → h.2.2.2.2 a k = none) ∧ cX h.2.2.1 h.2.2.2.1
theorem mm_ad_hi {m n : Nat} (h : m + 7 = n) (h1 : 53 ≤ n) (h2 : n < 114) : mm_ad m = n := by
  have := mm_ad_e m
  omega
def fl (n : Nat) (o : Option Nat) : Option Nat := match o with | none => none | some v => if v < n then some v else none
def hi (n : Nat) (F : Nat → Int32) (h0 h : mm_H) : Prop := h.1 + 7 = n ∧ (∀ a, a < n → h.2.1 a = ly_kd a) ∧ (∀ a, n ≤ a → h.2.1 a = .inl (.double, 0)) ∧ (∀ a, a < 65 → h.2.2.1 a = h0.2.2.1 a) ∧ (∀ i, h.2.2.1 65 i = F i) ∧ (∀ a i, 66 ≤ a → a < n → h.2.2.1 a i = 0) ∧ (∀ a, a < 65 → h.2.2.2.1 a = h0.2.2.2.1 a) ∧ (∀ a k, a ≠ 65 → h.2.2.2.2 a k = ly_R 39 46 46 a k) ∧ ∀ k, h.2.2.2.2 65 k = fl n (ly_R 39 46 46 65 k)
def l65 : List (Option Nat) := (ly_rl 39 46 46).getD 65 []
theorem gD_0 {α : Type} {l : List α} {i : Nat} {d : α} (h : l.length ≤ i) : l.getD i d = d := by rw [List.getD_eq_getElem?_getD, List.getElem?_eq_none h]; rfl
theorem ly_65 (k : Nat) : ly_R 39 46 46 65 k = l65.getD k none := rfl
theorem ly_t : ∀ a : Fin 120, Nat.ble 66 a.val = true → (ly_rl 39 46 46).getD a.val [] = [] := by decide +kernel
theorem ly_hi {a k : Nat} (h : 66 ≤ a) : ly_R 39 46 46 a k = none := by
  unfold ly_R
  rw [show (ly_rl 39 46 46).getD a [] = [] by
    rcases Nat.lt_or_ge a 120 with z | z
    · exact ly_t ⟨a, z⟩ (Nat.ble_eq_true_of_le h)
    · exact gD_0 (Nat.le_trans (by decide) z)]
  rfl
def l65b (k : Nat) : Bool := match l65.getD k none with | none => true | some v => Nat.ble 66 v && Nat.ble (v + 1) 114 && Nat.beq (l65.findIdx (fun o => o == some v)) k
theorem l65_t : ∀ k : Fin 99, l65b k.val = true := by decide +kernel
theorem l65_o {k v : Nat} (h : ly_R 39 46 46 65 k = some v) : 66 ≤ v ∧ v < 114 ∧ l65.findIdx (fun o => o == some v) = k := by
  rw [ly_65] at h
  rcases Nat.lt_or_ge k 99 with hk | hk
  · have := l65_t ⟨k, hk⟩
    unfold l65b at this
    simp only [h, Bool.and_eq_true] at this
    exact ⟨Nat.le_of_ble_eq_true this.1.1, Nat.le_of_ble_eq_true this.1.2, Nat.eq_of_beq_eq_true this.2⟩
  · rw [gD_0 (by exact hk)] at h
    exact absurd h (by simp)
theorem ix_hi {h : mm_H} (hx : ix h) : hi 66 (fun _ => 0) h (mm_new h (.inr 9)) := by
  obtain ⟨x1, x2, x3, x4, x5, _⟩ := hx
  unfold mm_new
  rw [x1, show mm_ad 58 = 65 from rfl]
  refine ⟨rfl, fun a ha => ?_, fun a ha => ?_, fun a ha => ?_, fun i => rfl, fun a i h1 h2 => absurd h1 (by omega), fun a ha => ?_, fun a k ha => ?_, fun k => ?_⟩
  · show (if a = 65 then _ else _) = _
    by_cases e : a = 65
    · rw [if_pos e, e]; rfl
    · rw [if_neg e]; exact x2 a (by omega)
  · show (if a = 65 then _ else _) = _
    rw [if_neg (by omega)]; exact x3 a (by omega)
  · funext i; exact if_neg (by omega)
  · funext i; exact if_neg (by omega)
  · show (if a = 65 then _ else _) = _
    rw [if_neg ha]
    rcases Nat.lt_or_ge a 65 with z | z
    · exact x4 a k z
    · rw [x5 a k z, ly_hi (by omega)]
  · show (none : Option Nat) = _
    cases e : ly_R 39 46 46 65 k with
    | none => rfl
    | some v => have := (l65_o e).1; show none = if v < 66 then some v else none; rw [if_neg (by omega)]
theorem hi_k {n : Nat} {F : Nat → Int32} {h0 h : mm_H} (hh : hi n F h0 h) (hn : 66 ≤ n) : h.2.1 65 = .inr 9 := by rw [hh.2.1 65 (by omega)]; rfl
theorem hi_new {n f : Nat} {F : Nat → Int32} {h0 h : mm_H} {kd : (FieldType × Nat) ⊕ Nat} (hn : 66 ≤ n) (hh : hi n F h0 h) (hk : ly_kd n = kd) (hf : ly_R 39 46 46 65 f = some n) : hi (n + 1) F h0 (mm_pR (mm_new h kd) 65 f (some (mm_ad h.1))) := by
  obtain ⟨x1, x2, x3, x4, x5, x6, x7, x8, x9⟩ := hh
  unfold mm_pR mm_new
  rw [mm_ad_hi x1 (by omega) (l65_o hf).2.1]
  refine ⟨by show h.1 + 1 + 7 = n + 1; omega, fun a ha => ?_, fun a ha => ?_, fun a ha => ?_, fun i => ?_, fun a i h1 h2 => ?_, fun a ha => ?_, fun a k ha => ?_, fun k => ?_⟩
  · show (if a = n then _ else _) = _
    by_cases e : a = n
    · rw [if_pos e, e]; exact hk.symm
    · rw [if_neg e]; exact x2 a (by omega)
  · show (if a = n then _ else _) = _
    rw [if_neg (by omega)]; exact x3 a (by omega)
  · rw [← x4 a ha]; funext i; exact if_neg (by omega)
  · show (if 65 = n then _ else _) = _
    rw [if_neg (by omega)]; exact x5 i
  · show (if a = n then _ else _) = _
    by_cases e : a = n
    · rw [if_pos e]
    · rw [if_neg e]; exact x6 a i h1 (by omega)
  · rw [← x7 a ha]; funext i; exact if_neg (by omega)
  · show mm_u (fun i j => if i = n then none else h.2.2.2.2 i j) 65 f (some n) a k = _
    rw [mu_row ha]
    by_cases e : a = n
    · show (if a = n then _ else _) = _
      rw [if_pos e, ly_hi (by omega)]
    · show (if a = n then _ else _) = _
      rw [if_neg e]; exact x8 a k ha
  · show mm_u (fun i j => if i = n then none else h.2.2.2.2 i j) 65 f (some n) 65 k = _
    rw [mu_if]
    by_cases e : k = f
    · rw [if_pos e, e, hf]
      show _ = if n < n + 1 then some n else none
      rw [if_pos (by omega)]
    · rw [if_neg e]
      show (if 65 = n then _ else _) = _
      rw [if_neg (by omega), x9 k]
      cases z : ly_R 39 46 46 65 k with
      | none => rfl
      | some v =>
        have h1 := (l65_o z).2.2
        have h2 := (l65_o hf).2.2
        have hv : v ≠ n := fun q => e (by rw [← h1, ← h2, q])
        show (if v < n then some v else none) = if v < n + 1 then some v else none
        by_cases q : v < n
        · rw [if_pos q, if_pos (by omega)]
        · rw [if_neg q, if_neg (by omega)]
theorem hi_put {n k : Nat} {v : Int32} {F : Nat → Int32} {h0 h : mm_H} (hn : 66 ≤ n) (hh : hi n F h0 h) : hi n (fun i => if i = k then v else F i) h0 (mm_pI h 65 k v) := by
  obtain ⟨x1, x2, x3, x4, x5, x6, x7, x8, x9⟩ := hh
  refine ⟨x1, x2, x3, fun a ha => ?_, fun i => ?_, fun a i h1 h2 => ?_, x7, x8, x9⟩
  · rw [← x4 a ha]; exact mu_row (by omega)
  · show mm_u h.2.2.1 65 k v 65 i = _
    rw [mu_if, x5]
  · show mm_u h.2.2.1 65 k v a i = _
    rw [mu_row (by omega)]; exact x6 a i h1 h2
theorem hi_hp {F : Nat → Int32} {h0 h : mm_H} (hh : hi 114 F h0 h) : h = hp 39 46 46 h.2.2.1 h.2.2.2.1 := by
  obtain ⟨n, K, I, J, R⟩ := h
  obtain ⟨x1, x2, x3, x4, x5, x6, x7, x8, x9⟩ := hh
  have e1 : n = 107 := by have : n + 7 = 114 := x1; omega
  have e2 : K = ly_kd := by
    funext a
    rcases Nat.lt_or_ge a 114 with z | z
    · exact x2 a z
    · exact (x3 a z).trans (gD_0 (Nat.le_trans (by decide) z)).symm
  have e3 : R = ly_R 39 46 46 := by
    funext a k
    by_cases z : a = 65
    · subst z
      refine (x9 k).trans ?_
      cases e : ly_R 39 46 46 65 k with
      | none => rfl
      | some v => have := (l65_o e).2.1; show (if v < 114 then some v else none) = some v; rw [if_pos this]
    · exact x8 a k z
  subst e1 e2 e3
  rfl
theorem nw9 (n2 n3 : Nat) {SL : Nat} {xs : Nat → Int32} {cs : mm_Cs} {am : Nat → Nat × Nat} {cd : List (Nat × mm_R)} {mc ms : Nat} {rt : Option FieldType} {Q : Option Value → mm_H → Prop} {pc : Nat} {L : mm_L} {h h0 : mm_H} {c s : Nat} {ty : ArrayType} {n : Int32} {N i f m : Nat} {F : Nat → Int32} {st : List Value} (hd : cd.lookup pc = some (.newarray ty, 2, 0, 0, 0, 0)) (hd2 : cd.lookup n2 = some (.putfield i, 3, 9, f, 2, 0)) (e1 : pc + 2 = n2) (e2 : n2 + 3 = n3) (ht : mm_isT (newarray.typeOf ty) = true) (h1 : ¬ n < 0) (h2 : n.toNatClampNeg = N) (h3 : N ≤ 60000) (h4 : c + 1 ≤ mc) (h5 : s + N ≤ ms) (hh : hi m F h0 h) (hm : 66 ≤ m) (hk : ly_kd m = .inl (newarray.typeOf ty, N)) (hf : ly_R 39 46 46 65 f = some m) (k0 : ∀ h', hi (m + 1) F h0 h' → mm_w SL xs cs am cd mc ms rt Q n3 L st h' (c + 1) (s + N)) : mm_w SL xs cs am cd mc ms rt Q pc L (.int n :: .ref 65 :: st) h c s := by
  refine sp_newa n2 hd ht h1 h2 h3 h4 h5 e1 ?_
  refine sp_putR n3 hd2 ?_ e2 (k0 _ (hi_new hm hh hk hf))
  show (if 65 = mm_ad h.1 then _ else h.2.1 65) = _
  rw [if_neg (by rw [mm_ad_hi hh.1 (by omega) (l65_o hf).2.1]; omega)]
  exact hi_k hh hm
theorem put9 {SL : Nat} {xs : Nat → Int32} {cs : mm_Cs} {am : Nat → Nat × Nat} {cd : List (Nat × mm_R)} {mc ms : Nat} {rt : Option FieldType} {Q : Option Value → mm_H → Prop} {pc : Nat} {L : mm_L} {h h0 : mm_H} {c s m k : Nat} {v : Int32} {F : Nat → Int32} {st : List Value} (hm : 66 ≤ m) (hh : hi m F h0 h) (k0 : ∀ h', hi m (fun i => if i = k then v else F i) h0 h' → mm_w SL xs cs am cd mc ms rt Q pc L st h' c s) : mm_w SL xs cs am cd mc ms rt Q pc L st (mm_pI h 65 k v) c s := k0 _ (hi_put hm hh)
theorem cw_0 : wfo (fun _ => 3) 1 := ⟨by decide, fun i hi => by
  obtain rfl : i = 0 := by omega
  exact ⟨Or.inl (by decide), by decide, fun h => absurd h (by decide), fun _ h => absurd h (by decide), fun _ _ => by decide⟩⟩
theorem P00_w : pw P00 := ⟨by decide, by decide, by decide, by decide, by decide, by decide, by decide, by decide, fun _ _ _ => ⟨by show 1 ≤ 3; omega, by show 3 ≤ 999; omega⟩⟩
theorem ix_RX {h0 : mm_H} {I : Nat → Nat → Int32} {J : Nat → Nat → Int64} (hx : cX h0.2.2.1 h0.2.2.2.1) (hI : ∀ a, a < 65 → I a = h0.2.2.1 a) (hJ : ∀ a, a < 65 → J a = h0.2.2.2.1 a) (z : ∀ k, k ≠ 3 → k ≠ 47 → k ≠ 49 → k ≠ 52 → (k < 59 ∨ 78 < k) → I 65 k = Int32.ofInt 0) (z3 : I 65 3 = Int32.ofInt (-1)) (z47 : I 65 47 = Int32.ofInt 1) (z49 : I 65 49 = Int32.ofInt 1) (z52 : I 65 52 = Int32.ofInt (-1)) (z107 : ∀ i, I 107 i = Int32.ofInt 0) : RX 39 46 46 P00 0 (fr3 P00 0) I J := by
  obtain ⟨c1, c2, c3, c4, c5, c6, c7, ⟨p0, p1, p2, p3, p4, p5, p6, p9, p10, p11, p17, p44⟩, cT, b0, b1, b2⟩ := hx
  have nb : ∀ b, b < 3 → I (53 + 4 * b) 0 = Int32.ofInt 0 := fun b hb => by
    rw [hI _ (by omega)]
    match b, hb with
    | 0, _ => exact b0
    | 1, _ => exact b1
    | 2, _ => exact b2
  refine ⟨Or.inl ⟨rfl, rfl⟩, Or.inr rfl, ⟨0, by omega, ?_, z 1 (by omega) (by omega) (by omega) (by omega) (by omega), fun i hi => absurd hi (Nat.not_lt_zero i)⟩, ?_, ?_, ⟨0, by omega, ?_, z 80 (by omega) (by omega) (by omega) (by omega) (by omega), fun i hi => absurd hi (Nat.not_lt_zero i)⟩, ⟨0, by omega, ?_, z 89 (by omega) (by omega) (by omega) (by omega) (by omega)⟩, ⟨0, by omega, ?_, z 88 (by omega) (by omega) (by omega) (by omega) (by omega), fun i hi => absurd hi (Nat.not_lt_zero i)⟩, ?_, ⟨P00_w, ⟨⟨?_, ?_, ?_, ?_, ?_, ?_⟩, (fun _ => 3), 1, _, _, by omega, ?_, fun i hi => ?_, rfl, rfl, cw_0, fun _ _ _ => rfl⟩, ⟨z47, z49, z 50 (by omega) (by omega) (by omega) (by omega) (by omega), z 51 (by omega) (by omega) (by omega) (by omega) (by omega), z52, ⟨0, (fun _ => 0), (fun _ => 0), by omega, z 42 (by omega) (by omega) (by omega) (by omega) (by omega), fun i hi => absurd hi (Nat.not_lt_zero i), fun i _ => ⟨fun h => absurd (show false = true from h) (by decide), fun ⟨j, hj, _⟩ => absurd hj (Nat.not_lt_zero j)⟩⟩, Or.inl ⟨z 53 (by omega) (by omega) (by omega) (by omega) (by omega), fun _ _ _ => rfl⟩⟩, by decide, ?_, z 48 (by omega) (by omega) (by omega) (by omega) (by omega), ?_, ⟨0, by omega, ?_, z 43 (by omega) (by omega) (by omega) (by omega) (by omega), fun i hi => absurd hi (Nat.not_lt_zero i)⟩, ⟨0, by omega, ?_, z 44 (by omega) (by omega) (by omega) (by omega) (by omega), fun i hi => absurd hi (Nat.not_lt_zero i)⟩⟩, fre_tw P00_w (by decide), rfl, TR_c (fun r a b => hI r (by omega)) (hJ 15 (by omega)) cT, fun b hb => ⟨false, nb b hb, z107 b, fun h => absurd h (by decide)⟩⟩
  · rw [hI 4 (by omega)]; exact c1
  · rw [hI 3 (by omega), c2, z 2 (by omega) (by omega) (by omega) (by omega) (by omega)]
  · rw [hI 3 (by omega), c3, z3]
  · rw [hI 29 (by omega)]; exact c4
  · rw [hI 2 (by omega)]; exact c5
  · rw [hI 33 (by omega)]; exact c6
  · rw [hJ 6 (by omega)]; exact c7
  · rw [hI 39 (by omega)]; exact p0
  · rw [hI 39 (by omega)]; exact p2
  · rw [hI 39 (by omega)]; exact p3
  · rw [hI 39 (by omega)]; exact p4
  · rw [hI 39 (by omega)]; exact p5
  · rw [hJ 39 (by omega), p6]; exact bs_0.symm
  · rw [hI 39 (by omega)]; exact p17
  · obtain rfl : i = 0 := by omega
    rw [hI (39 + 5) (by omega)]; exact p44
  · rw [hI 39 (by omega)]; exact p1
  · rw [hI 39 (by omega), p9, z 21 (by omega) (by omega) (by omega) (by omega) (by omega)]
  · rw [hI 39 (by omega)]; exact p10
  · rw [hI 39 (by omega)]; exact p11
theorem ct_M {SL : Nat} {xs : Nat → Int32} {d : Nat} {h : mm_H} {Q : Option Value → mm_H → Prop} (hd : 150 ≤ d) (hx : ix h) (k : ∀ h, iv h → Q none h) : mm_s SL xs d 164 [.ref 65] (mm_new h (.inr 9)) Q := by
  obtain ⟨e, rfl⟩ : ∃ e, d = e + 20 := ⟨d - 20, by omega⟩
  have hh := ix_hi hx
  generalize mm_new h (.inr 9) = h1 at hh
  refine e_X11_init rfl ?_
  refine hs_L (L2 := [some (.ref 65)]) rfl ?_
  refine sp_aload_n 1 rfl rfl rfl ?_
  refine sp_objI 4 rfl rfl rfl ?_
  refine sp_aload_n 5 rfl rfl rfl ?_
  refine sp_sipush 8 rfl rfl ?_
  refine nw9 10 13 rfl rfl rfl rfl rfl (by decide) rfl (by decide) (by decide) (by decide) hh (by decide) rfl rfl (fun h1 hh => ?_)
  refine sp_aload_n 14 rfl rfl rfl ?_
  refine sp_iconst 15 rfl rfl ?_
  refine sp_putI 18 rfl (hi_k hh (by decide)) rfl ?_
  refine put9 (k := 3) (by decide) hh (fun h1 hh => ?_)
  refine sp_aload_n 19 rfl rfl rfl ?_
  refine sp_sipush 22 rfl rfl ?_
  refine nw9 24 27 rfl rfl rfl rfl rfl (by decide) rfl (by decide) (by decide) (by decide) hh (by decide) rfl rfl (fun h1 hh => ?_)
  refine sp_aload_n 28 rfl rfl rfl ?_
  refine sp_sipush 31 rfl rfl ?_
  refine nw9 33 36 rfl rfl rfl rfl rfl (by decide) rfl (by decide) (by decide) (by decide) hh (by decide) rfl rfl (fun h1 hh => ?_)
  refine sp_aload_n 37 rfl rfl rfl ?_
  refine sp_sipush 40 rfl rfl ?_
  refine nw9 42 45 rfl rfl rfl rfl rfl (by decide) rfl (by decide) (by decide) (by decide) hh (by decide) rfl rfl (fun h1 hh => ?_)
  refine sp_aload_n 46 rfl rfl rfl ?_
  refine sp_sipush 49 rfl rfl ?_
  refine nw9 51 54 rfl rfl rfl rfl rfl (by decide) rfl (by decide) (by decide) (by decide) hh (by decide) rfl rfl (fun h1 hh => ?_)
  refine sp_aload_n 55 rfl rfl rfl ?_
  refine sp_sipush 58 rfl rfl ?_
  refine nw9 60 63 rfl rfl rfl rfl rfl (by decide) rfl (by decide) (by decide) (by decide) hh (by decide) rfl rfl (fun h1 hh => ?_)
  refine sp_aload_n 64 rfl rfl rfl ?_
  refine sp_bipush 66 rfl rfl ?_
  refine nw9 68 71 rfl rfl rfl rfl rfl (by decide) rfl (by decide) (by decide) (by decide) hh (by decide) rfl rfl (fun h1 hh => ?_)
  refine sp_aload_n 72 rfl rfl rfl ?_
  refine sp_bipush 74 rfl rfl ?_
  refine nw9 76 79 rfl rfl rfl rfl rfl (by decide) rfl (by decide) (by decide) (by decide) hh (by decide) rfl rfl (fun h1 hh => ?_)
  refine sp_aload_n 80 rfl rfl rfl ?_
  refine sp_bipush 82 rfl rfl ?_
  refine nw9 84 87 rfl rfl rfl rfl rfl (by decide) rfl (by decide) (by decide) (by decide) hh (by decide) rfl rfl (fun h1 hh => ?_)
  refine sp_aload_n 88 rfl rfl rfl ?_
  refine sp_bipush 90 rfl rfl ?_
  refine nw9 92 95 rfl rfl rfl rfl rfl (by decide) rfl (by decide) (by decide) (by decide) hh (by decide) rfl rfl (fun h1 hh => ?_)
  refine sp_aload_n 96 rfl rfl rfl ?_
  refine sp_bipush 98 rfl rfl ?_
  refine nw9 100 103 rfl rfl rfl rfl rfl (by decide) rfl (by decide) (by decide) (by decide) hh (by decide) rfl rfl (fun h1 hh => ?_)
  refine sp_aload_n 104 rfl rfl rfl ?_
  refine sp_bipush 106 rfl rfl ?_
  refine nw9 108 111 rfl rfl rfl rfl rfl (by decide) rfl (by decide) (by decide) (by decide) hh (by decide) rfl rfl (fun h1 hh => ?_)
  refine sp_aload_n 112 rfl rfl rfl ?_
  refine sp_bipush 114 rfl rfl ?_
  refine nw9 116 119 rfl rfl rfl rfl rfl (by decide) rfl (by decide) (by decide) (by decide) hh (by decide) rfl rfl (fun h1 hh => ?_)
  refine sp_aload_n 120 rfl rfl rfl ?_
  refine sp_bipush 122 rfl rfl ?_
  refine nw9 124 127 rfl rfl rfl rfl rfl (by decide) rfl (by decide) (by decide) (by decide) hh (by decide) rfl rfl (fun h1 hh => ?_)
  refine sp_aload_n 128 rfl rfl rfl ?_
  refine sp_bipush 130 rfl rfl ?_
  refine nw9 132 135 rfl rfl rfl rfl rfl (by decide) rfl (by decide) (by decide) (by decide) hh (by decide) rfl rfl (fun h1 hh => ?_)
  refine sp_aload_n 136 rfl rfl rfl ?_
  refine sp_bipush 138 rfl rfl ?_
  refine nw9 140 143 rfl rfl rfl rfl rfl (by decide) rfl (by decide) (by decide) (by decide) hh (by decide) rfl rfl (fun h1 hh => ?_)
  refine sp_aload_n 144 rfl rfl rfl ?_
  refine sp_bipush 146 rfl rfl ?_
  refine nw9 148 151 rfl rfl rfl rfl rfl (by decide) rfl (by decide) (by decide) (by decide) hh (by decide) rfl rfl (fun h1 hh => ?_)
  refine sp_aload_n 152 rfl rfl rfl ?_
  refine sp_bipush 154 rfl rfl ?_
  refine nw9 156 159 rfl rfl rfl rfl rfl (by decide) rfl (by decide) (by decide) (by decide) hh (by decide) rfl rfl (fun h1 hh => ?_)
  refine sp_aload_n 160 rfl rfl rfl ?_
  refine sp_bipush 162 rfl rfl ?_
  refine nw9 164 167 rfl rfl rfl rfl rfl (by decide) rfl (by decide) (by decide) (by decide) hh (by decide) rfl rfl (fun h1 hh => ?_)
  refine sp_aload_n 168 rfl rfl rfl ?_
  refine sp_bipush 170 rfl rfl ?_
  refine nw9 172 175 rfl rfl rfl rfl rfl (by decide) rfl (by decide) (by decide) (by decide) hh (by decide) rfl rfl (fun h1 hh => ?_)
  refine sp_aload_n 176 rfl rfl rfl ?_
  refine sp_bipush 178 rfl rfl ?_
  refine nw9 180 183 rfl rfl rfl rfl rfl (by decide) rfl (by decide) (by decide) (by decide) hh (by decide) rfl rfl (fun h1 hh => ?_)
  refine sp_aload_n 184 rfl rfl rfl ?_
  refine sp_bipush 186 rfl rfl ?_
  refine nw9 188 191 rfl rfl rfl rfl rfl (by decide) rfl (by decide) (by decide) (by decide) hh (by decide) rfl rfl (fun h1 hh => ?_)
  refine sp_aload_n 192 rfl rfl rfl ?_
  refine sp_bipush 194 rfl rfl ?_
  refine nw9 196 199 rfl rfl rfl rfl rfl (by decide) rfl (by decide) (by decide) (by decide) hh (by decide) rfl rfl (fun h1 hh => ?_)
  refine sp_aload_n 200 rfl rfl rfl ?_
  refine sp_bipush 202 rfl rfl ?_
  refine nw9 204 207 rfl rfl rfl rfl rfl (by decide) rfl (by decide) (by decide) (by decide) hh (by decide) rfl rfl (fun h1 hh => ?_)
  refine sp_aload_n 208 rfl rfl rfl ?_
  refine sp_iconst 209 rfl rfl ?_
  refine nw9 211 214 rfl rfl rfl rfl rfl (by decide) rfl (by decide) (by decide) (by decide) hh (by decide) rfl rfl (fun h1 hh => ?_)
  refine sp_aload_n 215 rfl rfl rfl ?_
  refine sp_bipush 217 rfl rfl ?_
  refine nw9 219 222 rfl rfl rfl rfl rfl (by decide) rfl (by decide) (by decide) (by decide) hh (by decide) rfl rfl (fun h1 hh => ?_)
  refine sp_aload_n 223 rfl rfl rfl ?_
  refine sp_bipush 225 rfl rfl ?_
  refine nw9 227 230 rfl rfl rfl rfl rfl (by decide) rfl (by decide) (by decide) (by decide) hh (by decide) rfl rfl (fun h1 hh => ?_)
  refine sp_aload_n 231 rfl rfl rfl ?_
  refine sp_bipush 233 rfl rfl ?_
  refine nw9 235 238 rfl rfl rfl rfl rfl (by decide) rfl (by decide) (by decide) (by decide) hh (by decide) rfl rfl (fun h1 hh => ?_)
  refine sp_aload_n 239 rfl rfl rfl ?_
  refine sp_bipush 241 rfl rfl ?_
  refine nw9 243 246 rfl rfl rfl rfl rfl (by decide) rfl (by decide) (by decide) (by decide) hh (by decide) rfl rfl (fun h1 hh => ?_)
  refine sp_aload_n 247 rfl rfl rfl ?_
  refine sp_iconst 248 rfl rfl ?_
  refine nw9 250 253 rfl rfl rfl rfl rfl (by decide) rfl (by decide) (by decide) (by decide) hh (by decide) rfl rfl (fun h1 hh => ?_)
  refine sp_aload_n 254 rfl rfl rfl ?_
  refine sp_bipush 256 rfl rfl ?_
  refine nw9 258 261 rfl rfl rfl rfl rfl (by decide) rfl (by decide) (by decide) (by decide) hh (by decide) rfl rfl (fun h1 hh => ?_)
  refine sp_aload_n 262 rfl rfl rfl ?_
  refine sp_bipush 264 rfl rfl ?_
  refine nw9 266 269 rfl rfl rfl rfl rfl (by decide) rfl (by decide) (by decide) (by decide) hh (by decide) rfl rfl (fun h1 hh => ?_)
  refine sp_aload_n 270 rfl rfl rfl ?_
  refine sp_bipush 272 rfl rfl ?_
  refine nw9 274 277 rfl rfl rfl rfl rfl (by decide) rfl (by decide) (by decide) (by decide) hh (by decide) rfl rfl (fun h1 hh => ?_)
  refine sp_aload_n 278 rfl rfl rfl ?_
  refine sp_bipush 280 rfl rfl ?_
  refine nw9 282 285 rfl rfl rfl rfl rfl (by decide) rfl (by decide) (by decide) (by decide) hh (by decide) rfl rfl (fun h1 hh => ?_)
  refine sp_aload_n 286 rfl rfl rfl ?_
  refine sp_bipush 288 rfl rfl ?_
  refine nw9 290 293 rfl rfl rfl rfl rfl (by decide) rfl (by decide) (by decide) (by decide) hh (by decide) rfl rfl (fun h1 hh => ?_)
  refine sp_aload_n 294 rfl rfl rfl ?_
  refine sp_bipush 296 rfl rfl ?_
  refine nw9 298 301 rfl rfl rfl rfl rfl (by decide) rfl (by decide) (by decide) (by decide) hh (by decide) rfl rfl (fun h1 hh => ?_)
  refine sp_aload_n 302 rfl rfl rfl ?_
  refine sp_bipush 304 rfl rfl ?_
  refine nw9 306 309 rfl rfl rfl rfl rfl (by decide) rfl (by decide) (by decide) (by decide) hh (by decide) rfl rfl (fun h1 hh => ?_)
  refine sp_aload_n 310 rfl rfl rfl ?_
  refine sp_bipush 312 rfl rfl ?_
  refine nw9 314 317 rfl rfl rfl rfl rfl (by decide) rfl (by decide) (by decide) (by decide) hh (by decide) rfl rfl (fun h1 hh => ?_)
  refine sp_aload_n 318 rfl rfl rfl ?_
  refine sp_bipush 320 rfl rfl ?_
  refine nw9 322 325 rfl rfl rfl rfl rfl (by decide) rfl (by decide) (by decide) (by decide) hh (by decide) rfl rfl (fun h1 hh => ?_)
  refine sp_aload_n 326 rfl rfl rfl ?_
  refine sp_sipush 329 rfl rfl ?_
  refine nw9 331 334 rfl rfl rfl rfl rfl (by decide) rfl (by decide) (by decide) (by decide) hh (by decide) rfl rfl (fun h1 hh => ?_)
  refine sp_aload_n 335 rfl rfl rfl ?_
  refine sp_bipush 337 rfl rfl ?_
  refine nw9 339 342 rfl rfl rfl rfl rfl (by decide) rfl (by decide) (by decide) (by decide) hh (by decide) rfl rfl (fun h1 hh => ?_)
  refine sp_aload_n 343 rfl rfl rfl ?_
  refine sp_iconst 344 rfl rfl ?_
  refine nw9 346 349 rfl rfl rfl rfl rfl (by decide) rfl (by decide) (by decide) (by decide) hh (by decide) rfl rfl (fun h1 hh => ?_)
  refine sp_aload_n 350 rfl rfl rfl ?_
  refine sp_sipush 353 rfl rfl ?_
  refine nw9 355 358 rfl rfl rfl rfl rfl (by decide) rfl (by decide) (by decide) (by decide) hh (by decide) rfl rfl (fun h1 hh => ?_)
  refine sp_aload_n 359 rfl rfl rfl ?_
  refine sp_iconst 360 rfl rfl ?_
  refine nw9 362 365 rfl rfl rfl rfl rfl (by decide) rfl (by decide) (by decide) (by decide) hh (by decide) rfl rfl (fun h1 hh => ?_)
  refine sp_aload_n 366 rfl rfl rfl ?_
  refine sp_sipush 369 rfl rfl ?_
  refine nw9 371 374 rfl rfl rfl rfl rfl (by decide) rfl (by decide) (by decide) (by decide) hh (by decide) rfl rfl (fun h1 hh => ?_)
  refine sp_aload_n 375 rfl rfl rfl ?_
  refine sp_sipush 378 rfl rfl ?_
  refine nw9 380 383 rfl rfl rfl rfl rfl (by decide) rfl (by decide) (by decide) (by decide) hh (by decide) rfl rfl (fun h1 hh => ?_)
  refine sp_aload_n 384 rfl rfl rfl ?_
  refine sp_sipush 387 rfl rfl ?_
  refine nw9 389 392 rfl rfl rfl rfl rfl (by decide) rfl (by decide) (by decide) (by decide) hh (by decide) rfl rfl (fun h1 hh => ?_)
  refine sp_aload_n 393 rfl rfl rfl ?_
  refine sp_bipush 395 rfl rfl ?_
  refine nw9 397 400 rfl rfl rfl rfl rfl (by decide) rfl (by decide) (by decide) (by decide) hh (by decide) rfl rfl (fun h1 hh => ?_)
  refine sp_aload_n 401 rfl rfl rfl ?_
  refine sp_iconst 402 rfl rfl ?_
  refine sp_putI 405 rfl (hi_k hh (by decide)) rfl ?_
  refine put9 (k := 47) (by decide) hh (fun h1 hh => ?_)
  refine sp_aload_n 406 rfl rfl rfl ?_
  refine sp_iconst 407 rfl rfl ?_
  refine sp_putI 410 rfl (hi_k hh (by decide)) rfl ?_
  refine put9 (k := 49) (by decide) hh (fun h1 hh => ?_)
  refine sp_aload_n 411 rfl rfl rfl ?_
  refine sp_iconst 412 rfl rfl ?_
  refine sp_putI 415 rfl (hi_k hh (by decide)) rfl ?_
  refine put9 (k := 52) (by decide) hh (fun h1 hh => ?_)
  refine sp_aload_n 416 rfl rfl rfl ?_
  refine sp_iconst 417 rfl rfl ?_
  refine sc_V 420 rfl rfl (hi_k hh (by decide)) rfl rfl (by decide) (by decide) rfl ?_
  rw [hi_hp hh]
  obtain ⟨x1, x2, x3, x4, x5, x6, x7, x8, x9⟩ := hh
  refine m_fresh (P := P00) (b := 0) P00_w (x5 47) (fun I2 g1 g2 g3 g4 g5 => ?_)
  refine st_vret rfl rfl (by decide) (by decide) ?_
  have z5 : ∀ k, k ≠ 3 → k ≠ 47 → k ≠ 49 → k ≠ 52 → h1.2.2.1 65 k = Int32.ofInt 0 := fun k a b c d => by
    rw [x5 k]
    show (if k = 52 then Int32.ofInt (-1) else if k = 49 then Int32.ofInt 1 else if k = 47 then Int32.ofInt 1 else if k = 3 then Int32.ofInt (-1) else 0) = _
    rw [if_neg d, if_neg c, if_neg b, if_neg a]; rfl
  refine k _ (iv_mk ⟨P00, 0, fr3 P00 0, ix_RX hx.2.2.2.2.2 (fun a ha => ?_) x7 (fun k a b c d e => ?_) ?_ ?_ ?_ ?_ (fun i => ?_), g2, g4, g5, ?_⟩)
  · rw [g1.1 a (by omega) (by omega)]; exact x4 a ha
  · rw [g1.2 k (by omega)]; exact z5 k a b c d
  · rw [g1.2 3 (by omega)]; exact x5 3
  · rw [g1.2 47 (by omega)]; exact x5 47
  · rw [g1.2 49 (by omega)]; exact x5 49
  · rw [g1.2 52 (by omega)]; exact x5 52
  · rw [g1.1 107 (by omega) (by omega)]; exact x6 107 i (by omega) (by omega)
  · rw [g3, g1.2 49 (by omega)]
