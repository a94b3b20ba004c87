
theorem lw_arr {s : State} {args : Array Value} {ty : FieldType} (h : (Cond.arrayClass ty).before args s = true) (hp : va_RA s ((s.vm.findClass ("[" ++ ty.toString)).getD 0) ty = (s.vm.findClass ("[" ++ ty.toString) = some ((s.vm.findClass ("[" ++ ty.toString)).getD 0))) : ArrOfT s ((s.vm.findClass ("[" ++ ty.toString)).getD 0) ty ∧ va_RA s ((s.vm.findClass ("[" ++ ty.toString)).getD 0) ty := by
  obtain ⟨cA, kA, comp, h1, h2, h3⟩ := Cond.arrayClass_spec h
  rw [hp, h1]
  exact ⟨fun n z => ⟨fun k h => (by cases h), kA, h2, comp, h3⟩, rfl⟩
def lw_tm : Term := Term.string RX9 19
def lw_G : List Cond := flatC (Jvm.Cond.and given_1 narrow_1)
theorem lw_g1 : Cond.eq (.static "java/lang/String" "COMPACT_STRINGS" "Z") (.int 1) ∈ lw_G := by decide +kernel
theorem lw_g2 : Cond.isRef (.static "jdk/internal/util/Preconditions" "SIOOBE_FORMATTER" "Ljava/util/function/BiFunction;") ∈ lw_G := by decide +kernel
theorem lw_g3 : Cond.exactly lw_tm "java/lang/String" ∈ lw_G := by decide +kernel
theorem lw_g4 : Cond.eq (.field lw_tm "java/lang/String" "coder" "B") (.int 0) ∈ lw_G := by decide +kernel
theorem lw_g5 : Cond.arrayOf (.field lw_tm "java/lang/String" "value" "[B") .byte ∈ lw_G := by decide +kernel
theorem lw_g6 : Cond.eq (.length (.field lw_tm "java/lang/String" "value" "[B")) (.int (Int32.ofNat mm_str.length)) ∈ lw_G := by decide +kernel
set_option maxRecDepth 100000 in
theorem lw_g7 : ∀ j, j < mm_str.length → Cond.eq (.elem (.field lw_tm "java/lang/String" "value" "[B") (.int (Int32.ofNat j))) (.int (mm_sb.getD j 0)) ∈ lw_G := by decide +kernel
/-- what the small machine's soundness asks of the start -/
theorem lw_SK {s : State} {b L : Nat} {xs : Nat → Int32} (hts : ∀ w ∈ lw_tbl, w.before #[Value.ref b] s = true) (hX : va_X b L xs s s.heap) (hbl : b < s.heap.size) (hgv : (Jvm.Cond.and given_1 narrow_1).before #[Value.ref b] s = true) : ∃ (D : va_G) (dA : FieldType → ClassId) (qs qv : Nat), mm_SK b qs qv s.heap.size L xs D dA s := by
  have hG : ∀ c ∈ lw_G, c.before #[Value.ref b] s = true := flat_of_before _ hgv
  have hA : ∀ a : Nat, a < s.heap.size → ¬ (fun q => s.heap.size ≤ q) a := fun a h => Nat.not_le.mpr h
  have hcl : ∀ k : Nat, ∃ x : ClassId × (Nat → Nat), ∀ q : vw_C, vwCl[k]? = some q → u_Kn s q.1 q.2.1 q.2.2 x.1 x.2 := by
    intro k
    cases hq : vwCl[k]? with
    | none => exact ⟨(0, fun _ => 0), (fun q h => by cases h)⟩
    | some r =>
      obtain ⟨cC, iS, h⟩ := u_known (n := r.2.2) hts (fun w hw => mm_sub ((mm_cl hq).1 w hw)) (hts _ (mm_sub (mm_inst hq)))
      exact ⟨(cC, iS), fun q h9 => by cases h9; exact h⟩
  obtain ⟨f, hf⟩ := Classical.axiomOfChoice hcl
  obtain ⟨adK, adV, hvS, hev⟩ := vk_Sof (N := 1) (tm := fun _ => lw_tm) (len := [mm_str.length]) (byt := [mm_sb]) (A := fun q => s.heap.size ≤ q) (fun i hi => by obtain rfl : i = 0 := (by omega); decide) (fun i hi => hG _ lw_g3) (fun i hi => hG _ lw_g4) (fun i hi => hG _ lw_g5) (fun i hi => by obtain rfl : i = 0 := (by omega); exact hG _ lw_g6) (fun i hi j hj => by obtain rfl : i = 0 := (by omega); exact hG _ (lw_g7 j hj)) (fun i j hi hj hne => absurd (show i = j by omega) hne) hA
  refine ⟨(fun k => (f k).1, fun k => (f k).2), fun t => (s.vm.findClass ("[" ++ t.toString)).getD 0, adK 0, adV 0, ⟨fun c q hq => hf c q hq, fun k q hk => ?_⟩, fun o i y k h => va_Nw.of rfl (hts _ h), va_AO.of (hts _ (List.mem_append_right _ (List.mem_of_getElem? (i := 86) (by decide +kernel)))), hX, hbl, hbl, vk_R.of (hts _ (List.mem_append_right _ (List.mem_of_getElem? (i := 269) (by decide +kernel)))) (hev 0 (by decide)), ?_, va_Zof (hts _ (List.mem_append_right _ (List.mem_of_getElem? (i := 279) (by decide +kernel)))) (hts _ (List.mem_append_right _ (List.mem_of_getElem? (i := 10) (by decide +kernel)))) (va_eqt (hG _ lw_g1)) hA, va_Zqof (hts _ (List.mem_append_right _ (List.mem_of_getElem? (i := 295) (by decide +kernel)))) (hts _ (List.mem_append_right _ (List.mem_of_getElem? (i := 12) (by decide +kernel)))) (hG _ lw_g2) hA⟩
  · match k, hk with
    | 0, hk => cases hk; exact lw_arr (hts _ (mm_sub mm_ac0)) rfl
    | 1, hk => cases hk; exact lw_arr (hts _ (mm_sub mm_ac1)) rfl
    | 2, hk => cases hk; exact lw_arr (hts _ (mm_sub mm_ac2)) rfl
    | 3, hk => cases hk; exact lw_arr (hts _ (mm_sub mm_ac3)) rfl
    | 4, hk =>
      cases hk
      obtain ⟨comp, cA, kA, h1, -, h3, h4, h5⟩ := Cond.arrayOver_spec (hts _ (List.mem_append_right _ (List.mem_of_getElem? (i := 86) (by decide +kernel))) : (Cond.arrayOver (.object RX1)).before #[Value.ref b] s = true)
      dsimp only
      rw [h5]
      exact ⟨fun n z => ⟨fun k h => (by cases h), kA, h3, comp, h4⟩, kA, comp, h3, h4, h1, h5⟩
    | n + 5, hk => cases hk
  · refine ⟨fun i hi => ?_, fun i j hi hj _ => by omega⟩
    have : i = 0 := by omega
    subst this
    exact hvS.1 0 (by decide)
/-- YOUR PART: from the entry, for every script of at most 3072 ints, the law comes to its end with true -/
theorem whole_start {p : Program} {e : Env} {s : State} {m : MethodId} {below : List Frame} {meth : Method} {c : Code} (l : Launch) {b L : Nat} {xs : Nat → Int32} (hL : L ≤ 3072) (C0 : lw_At p s m meth c b L xs) : W p l e room_1 s m #[Value.ref b] below meth c s.heap [] 0 0 (lw_Z below #[Value.ref b] s) (entryFrame m ([Value.ref b] : List Value).toArray 4) := by
  obtain ⟨hx, hb, hr, hml, hown, hts, hX, hbl, hlocks, hgv⟩ := id C0
  obtain ⟨D, dA, qs, qv, hSK⟩ := lw_SK hts hX hbl hgv
  obtain ⟨d, hd, hlen, hw⟩ := law_ok L xs hL
  have K : mm_cx p room_1 s m #[Value.ref b] meth c b qs qv s.heap.size L xs D dA 16 false code kL_law 600000 7302250 :=
    ⟨hx, hb, hown, fun w h => hts w (mm_sub h), hSK, (fun q => by cases q), mm_k_L_law, rfl, rfl, by decide, by decide, Nat.le_refl _⟩
  have hIH := fun (y : Nat) (a : List Value) (h : mm_H) (q : Option Value → mm_H → Prop) (h1 : y < mm_T.length) (h2 : Cond.code (mm_M y).1 (mm_M y).2.1 (mm_M y).2.2.1 (mm_M y).2.2.2.1 ∈ mm_TT) (h3 : mm_s L xs d y a h q) => mm_sound l b qs qv s.heap.size L xs D dA d y a h q h1 h2 h3
  have hC := mm_sC (l := l) (e := e) (below := below) (QW := lw_Z below #[Value.ref b] s) (rt := some .boolean) (Q := fun r _ => r = some (.int 1)) (cs := mm_s L xs d) K hIH (by show d + 7 ≤ 2048; omega) (by show 60 * d + 300 ≤ 84000; omega)
    ⟨(fun pc L h c s x hd h0 => by cases h0), ?_, (fun pc L h c s x hd h0 => by cases h0), (fun pc L h c s x C hd h0 => by cases h0), (fun pc L h c s C hd h0 => by cases h0), (fun pc L h c s hd h0 => by cases h0)⟩
  · have hgo := hw _ (mm_C_up (mc := (mm_am 282).1) (ms := (mm_am 282).2) (by decide) (by decide) hC) s.heap [] _ ⟨Nat.le_refl 2, rfl, fun a _ => rfl, (fun k q h => by simp [mm_ws, mm_h0] at h)⟩ va_S.rf (by rw [hml]; exact mm_entry (mm_a b qs s.heap.size) [.ref 0] (n := 4) (by decide))
    rw [lg_entry_eq]
    exact hgo
  · intro pc L9 h9 cc0 ss0 x hd9 h0 h1 h2 h3 k0
    intro H locs ls hH hS hl
    have hx1 : x = 1 := by cases k0; rfl
    subst hx1
    obtain ⟨hdg, -⟩ := mm_row mm_k_L_law hd9
    refine va_forget (fun q hq => hS.2.2 q hq) (W.widen (k := 600000) (n := 7302250) h2 h3 ?_)
    exact lw_ret hx hb hr hlocks hdg
