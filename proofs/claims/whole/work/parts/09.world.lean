/-! the worlds of the machine that a plain heap stands for -/
def mm_a (b qs B : Nat) : Nat → Nat
  | 0 => b
  | 1 => qs
  | i + 2 => B + (mm_ix (i + 2) - 2)
theorem mm_a_ge {b qs B a : Nat} (h : 2 ≤ mm_ix a) : mm_a b qs B a = B + (mm_ix a - 2) := by
  have h2 : 2 ≤ a := mm_ix_2.mp h
  obtain ⟨i, rfl⟩ : ∃ i, a = i + 2 := ⟨a - 2, by omega⟩
  rfl
def mm_v (ρ : Nat → Nat) : Value → Value
  | .ref i => .ref (ρ i)
  | v => v
theorem mm_cat (ρ : Nat → Nat) (v : Value) : (mm_v ρ v).category = v.category := by cases v <;> rfl
theorem mm_catS (ρ : Nat → Nat) (st : List Value) : ((st.map (mm_v ρ)).map fun v => v.category) = st.map Value.category := by
  rw [List.map_map]
  apply List.map_congr_left
  intro v _
  exact mm_cat ρ v
theorem mm_rfv (ρ : Nat → Nat) (r : Option Nat) : mm_v ρ (va_rf r) = va_rf (r.map ρ) := by cases r <;> rfl
/-- locals -/
def mm_LR (ρ : Nat → Nat) (nL : Nat) (ls : Array Slot) (L : mm_L) : Prop := L.length = nL ∧ ls.size = nL ∧ lv_wf ls ∧ ∀ (i : Nat) (v : Value), mm_g L i = some v → ls[i]? = some (.val (mm_v ρ v))
def mm_ll (ρ : Nat → Nat) (nL : Nat) (L : mm_L) : List (Nat × Value) := (List.range nL).filterMap (fun i => (mm_g L i).map (fun v => (i, mm_v ρ v)))
theorem mm_g_len : ∀ (L : mm_L) (i : Nat) (v : Value), mm_g L i = some v → i < L.length
  | [], i, v, h => by cases i <;> cases h
  | x :: l, 0, v, h => Nat.zero_lt_succ _
  | x :: l, i + 1, v, h => Nat.succ_lt_succ (mm_g_len l i v h)
theorem mm_ll_mem {ρ : Nat → Nat} {nL : Nat} {L : mm_L} (hL : L.length = nL) {i : Nat} {v : Value} (h : mm_g L i = some v) : (i, mm_v ρ v) ∈ mm_ll ρ nL L := by
  unfold mm_ll
  rw [List.mem_filterMap]
  refine ⟨i, List.mem_range.mpr (by rw [← hL]; exact mm_g_len L i v h), ?_⟩
  rw [h]; rfl
theorem mm_lh {ρ : Nat → Nat} {nL : Nat} {ls : Array Slot} {L : mm_L} (hl : mm_LR ρ nL ls L) : lv_has ls nL (mm_ll ρ nL L) := by
  refine ⟨hl.2.1, hl.2.2.1, fun q hq => ?_⟩
  unfold mm_ll at hq
  obtain ⟨i, -, hi⟩ := List.mem_filterMap.mp hq
  cases hg : mm_g L i with
  | none => rw [hg] at hi; cases hi
  | some v =>
    rw [hg] at hi
    cases hi
    exact hl.2.2.2 i v hg
theorem mm_lv {ρ : Nat → Nat} {nL : Nat} {ls : Array Slot} {L : mm_L} (hl : mm_LR ρ nL ls L) {i : Nat} {v : Value} (h : mm_g L i = some v) : ls[i]? = some (.val (mm_v ρ v)) := hl.2.2.2 i v h
theorem mm_t_len : ∀ (L : mm_L) (i : Nat) (x : Option Value), (mm_t L i x).length = L.length
  | [], i, x => by cases i <;> rfl
  | _ :: l, 0, x => rfl
  | y :: l, i + 1, x => by show (mm_t l i x).length + 1 = l.length + 1; rw [mm_t_len l i x]
theorem mm_g_t_ne : ∀ (L : mm_L) (i j : Nat) (x : Option Value), j ≠ i → mm_g (mm_t L i x) j = mm_g L j
  | [], i, j, x, _ => by cases i <;> rfl
  | _ :: l, 0, 0, x, h => absurd rfl h
  | _ :: l, 0, j + 1, x, h => rfl
  | y :: l, i + 1, 0, x, h => rfl
  | y :: l, i + 1, j + 1, x, h => mm_g_t_ne l i j x (fun q => h (by rw [q]))
theorem mm_g_t_eq : ∀ (L : mm_L) (i : Nat) (x : Option Value) (v : Value), mm_g (mm_t L i x) i = some v → x = some v
  | [], i, x, v, h => by cases i <;> cases h
  | _ :: l, 0, x, v, h => h
  | y :: l, i + 1, x, v, h => mm_g_t_eq l i x v h
theorem mm_k_len (L : mm_L) (i : Nat) : (mm_k L i).length = L.length := by
  cases i with
  | zero => rfl
  | succ i =>
    show (cond (mm_c2 (mm_g L i)) (mm_t L i none) L).length = _
    cases mm_c2 (mm_g L i)
    · rfl
    · exact mm_t_len L i none
theorem mm_c2_cat {v : Value} (h : mm_c2 (some v) = false) : v.category = 1 := by cases v <;> first | rfl | cases h
theorem mm_k_g (L : mm_L) (i j : Nat) (v : Value) (h : mm_g (mm_k L i) j = some v) : mm_g L j = some v ∧ (j + 1 = i → v.category = 1) := by
  cases i with
  | zero => exact ⟨h, fun q => by cases q⟩
  | succ i =>
    have h : mm_g (cond (mm_c2 (mm_g L i)) (mm_t L i none) L) j = some v := h
    cases hc : mm_c2 (mm_g L i)
    · rw [hc] at h
      refine ⟨h, fun q => ?_⟩
      have q : j = i := Nat.succ.inj q
      have h : mm_g L j = some v := h
      rw [← q, h] at hc
      exact mm_c2_cat hc
    · rw [hc] at h
      have h : mm_g (mm_t L i none) j = some v := h
      by_cases hj : j = i
      · subst hj
        have := mm_g_t_eq L j none v h
        cases this
      · rw [mm_g_t_ne L i j none hj] at h
        exact ⟨h, fun q => absurd (Nat.succ.inj q) hj⟩
theorem mm_st1 {ρ : Nat → Nat} {nL : Nat} {ls ls2 : Array Slot} {L : mm_L} (hl : mm_LR ρ nL ls L) {i : Nat} {v : Value} (h2 : lv_has ls2 nL ((i, mm_v ρ v) :: (mm_ll ρ nL L).filter (fun q => !(q.1 == i) && !(q.1 + 1 == i && q.2.category == 2)))) : mm_LR ρ nL ls2 (mm_s1 L i v) := by
  refine ⟨by unfold mm_s1; rw [mm_t_len, mm_k_len]; exact hl.1, h2.1, h2.2.1, fun j w hw => ?_⟩
  by_cases hj : j = i
  · subst hj
    have e := mm_g_t_eq _ _ _ _ hw
    cases e
    exact h2.2.2 _ List.mem_cons_self
  · unfold mm_s1 at hw
    rw [mm_g_t_ne _ _ _ _ hj] at hw
    obtain ⟨h3, h4⟩ := mm_k_g L i j w hw
    refine h2.2.2 (j, mm_v ρ w) (List.mem_cons_of_mem _ (List.mem_filter.mpr ⟨mm_ll_mem hl.1 h3, ?_⟩))
    by_cases hji : j + 1 = i
    · have := h4 hji
      simp [hj, mm_cat, this]
    · simp [hj, hji]
theorem mm_st2 {ρ : Nat → Nat} {nL : Nat} {ls ls2 : Array Slot} {L : mm_L} (hl : mm_LR ρ nL ls L) {i : Nat} {v : Value} (h2 : lv_has ls2 nL ((i, mm_v ρ v) :: (mm_ll ρ nL L).filter (fun q => !(q.1 == i) && (!(q.1 == i + 1) && !(q.1 + 1 == i && q.2.category == 2))))) : mm_LR ρ nL ls2 (mm_s2 L i v) := by
  refine ⟨by unfold mm_s2; rw [mm_t_len, mm_t_len, mm_k_len]; exact hl.1, h2.1, h2.2.1, fun j w hw => ?_⟩
  unfold mm_s2 at hw
  by_cases hj1 : j = i + 1
  · subst hj1
    have e := mm_g_t_eq _ _ _ _ hw
    cases e
  · rw [mm_g_t_ne _ _ _ _ hj1] at hw
    by_cases hj : j = i
    · subst hj
      have e := mm_g_t_eq _ _ _ _ hw
      cases e
      exact h2.2.2 _ List.mem_cons_self
    · rw [mm_g_t_ne _ _ _ _ hj] at hw
      obtain ⟨h3, h4⟩ := mm_k_g L i j w hw
      refine h2.2.2 (j, mm_v ρ w) (List.mem_cons_of_mem _ (List.mem_filter.mpr ⟨mm_ll_mem hl.1 h3, ?_⟩))
      by_cases hji : j + 1 = i
      · have := h4 hji
        simp [hj, hj1, mm_cat, this]
      · simp [hj, hj1, hji]
theorem mm_le_g : ∀ (L1 L : mm_L), mm_le L1 L → L1.length = L.length ∧ ∀ (i : Nat) (v : Value), mm_g L1 i = some v → mm_g L i = some v
  | [], [], _ => ⟨rfl, fun i v h => h⟩
  | a :: l, b :: m, h => by
    obtain ⟨h1, h2⟩ := mm_le_g l m h.2
    refine ⟨by show l.length + 1 = m.length + 1; rw [h1], fun i v hv => ?_⟩
    cases i with
    | zero =>
      have hv : a = some v := hv
      rcases h.1 with q | q
      · rw [q] at hv; cases hv
      · show b = some v
        rw [← q]; exact hv
    | succ i => exact h2 i v hv
  | [], _ :: _, h => h.elim
  | _ :: _, [], h => h.elim
theorem mm_wkL {ρ : Nat → Nat} {nL : Nat} {ls : Array Slot} {L L1 : mm_L} (hl : mm_LR ρ nL ls L) (h : mm_le L1 L) : mm_LR ρ nL ls L1 := by
  obtain ⟨h1, h2⟩ := mm_le_g L1 L h
  exact ⟨h1.trans hl.1, hl.2.1, hl.2.2.1, fun i v hv => hl.2.2.2 i v (h2 i v hv)⟩
/-- what the locals are at a method's entry -/
theorem mm_lay_sl (ρ : Nat → Nat) : ∀ args : List Value, (lg_sl (args.map (mm_v ρ))).length = (mm_lay args).length
  | [] => rfl
  | v :: r => by
    have ih := mm_lay_sl ρ r
    unfold lg_sl at ih ⊢
    rw [List.map_cons, List.flatMap_cons, List.length_append, ih]
    cases v <;> simp [mm_v, Value.category, mm_lay] <;> omega
theorem mm_g_rep : ∀ (n i : Nat) (v : Value), mm_g (List.replicate n none) i = some v → False
  | 0, i, v, h => by cases i <;> cases h
  | n + 1, 0, v, h => by cases h
  | n + 1, i + 1, v, h => mm_g_rep n i v h
theorem mm_lay_g (ρ : Nat → Nat) : ∀ (args : List Value) (k i n : Nat) (v : Value), mm_g (mm_lay args ++ List.replicate n none) i = some v → (k + i, mm_v ρ v) ∈ lv_args k (args.map (mm_v ρ))
  | [], k, i, n, v, h => (mm_g_rep n i v h).elim
  | w :: r, k, i, n, v, h => by
    have one : ∀ (u : Value), u.category = 1 → mm_g (some u :: (mm_lay r ++ List.replicate n none)) i = some v → (k + i, mm_v ρ v) ∈ lv_args k (mm_v ρ u :: r.map (mm_v ρ)) := by
      intro u hc hg
      have hc2 : ¬ (mm_v ρ u).category = 2 := by rw [mm_cat, hc]; decide
      cases i with
      | zero =>
        have : u = v := Option.some.inj hg
        rw [this]
        exact List.mem_cons_self
      | succ i =>
        show _ ∈ (k, mm_v ρ u) :: lv_args (if (mm_v ρ u).category = 2 then k + 2 else k + 1) (r.map (mm_v ρ))
        rw [if_neg hc2]
        refine List.mem_cons_of_mem _ ?_
        have := mm_lay_g ρ r (k + 1) i n v hg
        rwa [show k + (i + 1) = k + 1 + i by omega]
    have two : ∀ (u : Value), u.category = 2 → mm_g (some u :: none :: (mm_lay r ++ List.replicate n none)) i = some v → (k + i, mm_v ρ v) ∈ lv_args k (mm_v ρ u :: r.map (mm_v ρ)) := by
      intro u hc hg
      have hc2 : (mm_v ρ u).category = 2 := by rw [mm_cat, hc]
      cases i with
      | zero =>
        have : u = v := Option.some.inj hg
        rw [this]
        exact List.mem_cons_self
      | succ i =>
        cases i with
        | zero => cases hg
        | succ i =>
          show _ ∈ (k, mm_v ρ u) :: lv_args (if (mm_v ρ u).category = 2 then k + 2 else k + 1) (r.map (mm_v ρ))
          rw [if_pos hc2]
          refine List.mem_cons_of_mem _ ?_
          have := mm_lay_g ρ r (k + 2) i n v hg
          rwa [show k + (i + 1 + 1) = k + 2 + i by omega]
    cases w with
    | int x => exact one _ rfl h
    | null => exact one _ rfl h
    | ref x => exact one _ rfl h
    | float x => exact one _ rfl h
    | retAddr x => exact one _ rfl h
    | double x => exact two _ rfl h
    | long x => exact two _ rfl h
/-- cells -/
def mm_tyl : List FieldType := [.int, .byte, .boolean, .long, .object RX1]
def mm_tys (dA : FieldType → ClassId) : List (ClassId × FieldType) := mm_tyl.map (fun t => (dA t, t))
theorem mm_tys_get {dA : FieldType → ClassId} {ty : FieldType} (h : mm_isT ty = true) : ∃ k : Nat, (mm_tys dA)[k]? = some (dA ty, ty) := by
  cases ty with
  | int => exact ⟨0, rfl⟩
  | byte => exact ⟨1, rfl⟩
  | boolean => exact ⟨2, rfl⟩
  | long => exact ⟨3, rfl⟩
  | object C =>
    have h : (C == RX1) = true := h
    have e : C = RX1 := by simpa using h
    subst e
    exact ⟨4, rfl⟩
  | char => cases h
  | double => cases h
  | float => cases h
  | short => cases h
  | array t => cases h
def mm_nf (ci : Nat) : Nat := match vwCl[ci]? with
  | some r => r.2.2
  | none => 0
def mm_fv (ρ : Nat → Nat) (h : mm_H) (a k : Nat) (z : Nat) : Value := match z with
  | 0 => .int (h.2.2.1 a k)
  | 1 => .long (h.2.2.2.1 a k)
  | _ => va_rf ((h.2.2.2.2 a k).map ρ)
def mm_ac (ρ : Nat → Nat) (h : mm_H) (a n z : Nat) : vp_A := (n, match z with
  | 0 => .inl (h.2.2.1 a)
  | 1 => .inr (.inl (h.2.2.2.1 a))
  | _ => .inr (.inr (.inr (.inr (fun j => (h.2.2.2.2 a j).map ρ)))))
def mm_e (ρ : Nat → Nat) (dA : FieldType → ClassId) (h : mm_H) (a : Nat) : va_E := match h.2.1 a with
  | .inl q => .inl (dA q.1, mm_ac ρ h a q.2 (mm_fk q.1))
  | .inr ci => .inr (ci, (List.range (mm_nf ci)).map (fun k => mm_fv ρ h a k (mm_fk (mm_ty ci k))))
def mm_ws (ρ : Nat → Nat) (B : Nat) (dA : FieldType → ClassId) (h : mm_H) : va_W := (List.range (h.1 - 2)).map (fun i => (B + i, mm_e ρ dA h (mm_ad (i + 2))))
def mm_HR (b qs B : Nat) (D : va_G) (dA : FieldType → ClassId) (h : mm_H) (H : Heap) : Prop := 2 ≤ h.1 ∧ H.size = B + (h.1 - 2) ∧ (∀ a, ¬ (2 ≤ mm_ix a ∧ mm_ix a < h.1) → h.2.1 a = .inl (.double, 0)) ∧ va_P D vwCl (mm_ws (mm_a b qs B) B dA h) H
theorem mm_ws_at {ρ : Nat → Nat} {B : Nat} {dA : FieldType → ClassId} {h : mm_H} (i : Nat) : (mm_ws ρ B dA h)[i]? = if i < h.1 - 2 then some (B + i, mm_e ρ dA h (mm_ad (i + 2))) else none := by
  unfold mm_ws
  rw [List.getElem?_map]
  by_cases hi : i < h.1 - 2
  · rw [List.getElem?_range hi, if_pos hi]; rfl
  · rw [if_neg hi, List.getElem?_eq_none (by simpa using hi)]; rfl
theorem mm_ws_get {b qs B : Nat} {dA : FieldType → ClassId} {h : mm_H} {a : Nat} (ha : 2 ≤ mm_ix a ∧ mm_ix a < h.1) : (mm_ws (mm_a b qs B) B dA h)[mm_ix a - 2]? = some (mm_a b qs B a, mm_e (mm_a b qs B) dA h a) := by
  rw [mm_ws_at, if_pos (by omega), show mm_ix a - 2 + 2 = mm_ix a by omega, mm_ad_ix, mm_a_ge ha.1]
theorem mm_at_in {h : mm_H} (hd : ∀ a, ¬ (2 ≤ mm_ix a ∧ mm_ix a < h.1) → h.2.1 a = .inl (.double, 0)) {a : Nat} {x : (FieldType × Nat) ⊕ Nat} (hk : h.2.1 a = x) (hx : x ≠ .inl (.double, 0)) : 2 ≤ mm_ix a ∧ mm_ix a < h.1 := by
  by_cases q : 2 ≤ mm_ix a ∧ mm_ix a < h.1
  · exact q
  · exact absurd (hk.symm.trans (hd a q)) hx
theorem mm_D {ρ : Nat → Nat} {B : Nat} {dA : FieldType → ClassId} {h : mm_H} : va_D (fun q => B ≤ q) (mm_ws ρ B dA h) := by
  refine ⟨fun i j x y hi hj e => ?_, fun k q hk => ?_⟩
  · rw [mm_ws_at] at hi hj
    split at hi
    · split at hj
      · cases hi; cases hj
        have e : B + i = B + j := e
        omega
      · cases hj
    · cases hi
  · rw [mm_ws_at] at hk
    split at hk
    · cases hk
      exact Nat.le_add_right B k
    · cases hk
theorem mm_ws_set {ρ : Nat → Nat} {B : Nat} {dA : FieldType → ClassId} {h h2 : mm_H} {a x : Nat} (hx : x = B + (mm_ix a - 2)) (h1 : h2.1 = h.1) (ha : 2 ≤ mm_ix a ∧ mm_ix a < h.1) (hne : ∀ i, i ≠ a → mm_e ρ dA h2 i = mm_e ρ dA h i) {e : va_E} (he : mm_e ρ dA h2 a = e) : (mm_ws ρ B dA h).set (mm_ix a - 2) (x, e) = mm_ws ρ B dA h2 := by
  subst hx; subst he
  apply List.ext_getElem?
  intro i
  have hl : (mm_ws ρ B dA h).length = h.1 - 2 := by simp [mm_ws]
  by_cases hi : mm_ix a - 2 = i
  · subst hi
    rw [List.getElem?_set_self (by rw [hl]; omega), mm_ws_at, if_pos (by omega), show mm_ix a - 2 + 2 = mm_ix a by omega, mm_ad_ix]
  · rw [List.getElem?_set_ne hi, mm_ws_at, mm_ws_at, h1, hne (mm_ad (i + 2)) (fun q => hi (by rw [← q, mm_ix_ad]; omega))]
theorem mm_ws_new {ρ : Nat → Nat} {B : Nat} {dA : FieldType → ClassId} {h h2 : mm_H} (h2' : 2 ≤ h.1) (h1 : h2.1 = h.1 + 1) (hne : ∀ i, i ≠ mm_ad h.1 → mm_e ρ dA h2 i = mm_e ρ dA h i) {e : va_E} (he : mm_e ρ dA h2 (mm_ad h.1) = e) : mm_ws ρ B dA h ++ [(B + (h.1 - 2), e)] = mm_ws ρ B dA h2 := by
  subst he
  apply List.ext_getElem?
  intro i
  have hl : (mm_ws ρ B dA h).length = h.1 - 2 := by simp [mm_ws]
  rw [List.getElem?_append, hl, mm_ws_at, mm_ws_at, h1]
  by_cases hi : i < h.1 - 2
  · rw [if_pos hi, if_pos hi, if_pos (by omega), hne (mm_ad (i + 2)) (fun q => by have := congrArg mm_ix q; rw [mm_ix_ad, mm_ix_ad] at this; omega)]
  · rw [if_neg hi]
    by_cases hi2 : i = h.1 - 2
    · subst hi2
      rw [Nat.sub_self, if_pos (by omega), show h.1 - 2 + 2 = h.1 by omega]
      rfl
    · rw [if_neg (by omega), List.getElem?_eq_none (by simp; omega)]
