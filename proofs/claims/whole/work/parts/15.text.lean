theorem dJ0_length_8abf5_0 : decode cJ0_length_8abf5 0 = .ok (.aload_n 0, 1) := by decide +kernel
theorem dJ0_length_8abf5_1 : decode cJ0_length_8abf5 1 = .ok (.getfield 9, 3) := by decide +kernel
theorem dJ0_length_8abf5_4 : decode cJ0_length_8abf5 4 = .ok (.arraylength, 1) := by decide +kernel
theorem dJ0_length_8abf5_5 : decode cJ0_length_8abf5 5 = .ok (.aload_n 0, 1) := by decide +kernel
theorem dJ0_length_8abf5_6 : decode cJ0_length_8abf5 6 = .ok (.invokevirtual 335, 3) := by decide +kernel
theorem dJ0_length_8abf5_9 : decode cJ0_length_8abf5 9 = .ok (.ishr, 1) := by decide +kernel
theorem dJ0_length_8abf5_10 : decode cJ0_length_8abf5 10 = .ok (.ireturn, 1) := by decide +kernel
theorem dJ0_charAt_5068e_0 : decode cJ0_charAt_5068e 0 = .ok (.aload_n 0, 1) := by decide +kernel
theorem dJ0_charAt_5068e_1 : decode cJ0_charAt_5068e 1 = .ok (.invokevirtual 492, 3) := by decide +kernel
theorem dJ0_charAt_5068e_4 : decode cJ0_charAt_5068e 4 = .ok (.ifCond .eq 12, 3) := by decide +kernel
theorem dJ0_charAt_5068e_7 : decode cJ0_charAt_5068e 7 = .ok (.aload_n 0, 1) := by decide +kernel
theorem dJ0_charAt_5068e_8 : decode cJ0_charAt_5068e 8 = .ok (.getfield 9, 3) := by decide +kernel
theorem dJ0_charAt_5068e_11 : decode cJ0_charAt_5068e 11 = .ok (.iload_n 1, 1) := by decide +kernel
theorem dJ0_charAt_5068e_12 : decode cJ0_charAt_5068e 12 = .ok (.invokestatic 495, 3) := by decide +kernel
theorem dJ0_charAt_5068e_15 : decode cJ0_charAt_5068e 15 = .ok (.ireturn, 1) := by decide +kernel
theorem dJ0_charAt_5068e_16 : decode cJ0_charAt_5068e 16 = .ok (.aload_n 0, 1) := by decide +kernel
theorem dJ0_charAt_5068e_17 : decode cJ0_charAt_5068e 17 = .ok (.getfield 9, 3) := by decide +kernel
theorem dJ0_charAt_5068e_20 : decode cJ0_charAt_5068e 20 = .ok (.iload_n 1, 1) := by decide +kernel
theorem dJ0_charAt_5068e_21 : decode cJ0_charAt_5068e 21 = .ok (.invokestatic 498, 3) := by decide +kernel
theorem dJ0_charAt_5068e_24 : decode cJ0_charAt_5068e 24 = .ok (.ireturn, 1) := by decide +kernel
theorem dJ0_coder_7d493_0 : decode cJ0_coder_7d493 0 = .ok (.getstatic 38, 3) := by decide +kernel
theorem dJ0_coder_7d493_3 : decode cJ0_coder_7d493 3 = .ok (.ifCond .eq 10, 3) := by decide +kernel
theorem dJ0_coder_7d493_6 : decode cJ0_coder_7d493 6 = .ok (.aload_n 0, 1) := by decide +kernel
theorem dJ0_coder_7d493_7 : decode cJ0_coder_7d493 7 = .ok (.getfield 15, 3) := by decide +kernel
theorem dJ0_coder_7d493_10 : decode cJ0_coder_7d493 10 = .ok (.goto 4, 3) := by decide +kernel
theorem dJ0_coder_7d493_13 : decode cJ0_coder_7d493 13 = .ok (.iconst 1, 1) := by decide +kernel
theorem dJ0_coder_7d493_14 : decode cJ0_coder_7d493 14 = .ok (.ireturn, 1) := by decide +kernel
theorem dJ0_isLatin1_aae02_0 : decode cJ0_isLatin1_aae02 0 = .ok (.getstatic 38, 3) := by decide +kernel
theorem dJ0_isLatin1_aae02_3 : decode cJ0_isLatin1_aae02 3 = .ok (.ifCond .eq 14, 3) := by decide +kernel
theorem dJ0_isLatin1_aae02_6 : decode cJ0_isLatin1_aae02 6 = .ok (.aload_n 0, 1) := by decide +kernel
theorem dJ0_isLatin1_aae02_7 : decode cJ0_isLatin1_aae02 7 = .ok (.getfield 15, 3) := by decide +kernel
theorem dJ0_isLatin1_aae02_10 : decode cJ0_isLatin1_aae02 10 = .ok (.ifCond .ne 7, 3) := by decide +kernel
theorem dJ0_isLatin1_aae02_13 : decode cJ0_isLatin1_aae02 13 = .ok (.iconst 1, 1) := by decide +kernel
theorem dJ0_isLatin1_aae02_14 : decode cJ0_isLatin1_aae02 14 = .ok (.goto 4, 3) := by decide +kernel
theorem dJ0_isLatin1_aae02_17 : decode cJ0_isLatin1_aae02 17 = .ok (.iconst 0, 1) := by decide +kernel
theorem dJ0_isLatin1_aae02_18 : decode cJ0_isLatin1_aae02 18 = .ok (.ireturn, 1) := by decide +kernel
theorem dJ0_checkIndex_df160_0 : decode cJ0_checkIndex_df160 0 = .ok (.iload_n 0, 1) := by decide +kernel
theorem dJ0_checkIndex_df160_1 : decode cJ0_checkIndex_df160 1 = .ok (.iload_n 1, 1) := by decide +kernel
theorem dJ0_checkIndex_df160_2 : decode cJ0_checkIndex_df160 2 = .ok (.getstatic 1053, 3) := by decide +kernel
theorem dJ0_checkIndex_df160_5 : decode cJ0_checkIndex_df160 5 = .ok (.invokestatic 1059, 3) := by decide +kernel
theorem dJ0_checkIndex_df160_8 : decode cJ0_checkIndex_df160 8 = .ok (.pop, 1) := by decide +kernel
theorem dJ0_checkIndex_df160_9 : decode cJ0_checkIndex_df160 9 = .ok (.return_, 1) := by decide +kernel
theorem dJ1_charAt_3b067_0 : decode cJ1_charAt_3b067 0 = .ok (.iload_n 1, 1) := by decide +kernel
theorem dJ1_charAt_3b067_1 : decode cJ1_charAt_3b067 1 = .ok (.aload_n 0, 1) := by decide +kernel
theorem dJ1_charAt_3b067_2 : decode cJ1_charAt_3b067 2 = .ok (.arraylength, 1) := by decide +kernel
theorem dJ1_charAt_3b067_3 : decode cJ1_charAt_3b067 3 = .ok (.invokestatic 9, 3) := by decide +kernel
theorem dJ1_charAt_3b067_6 : decode cJ1_charAt_3b067 6 = .ok (.aload_n 0, 1) := by decide +kernel
theorem dJ1_charAt_3b067_7 : decode cJ1_charAt_3b067 7 = .ok (.iload_n 1, 1) := by decide +kernel
theorem dJ1_charAt_3b067_8 : decode cJ1_charAt_3b067 8 = .ok (.baload, 1) := by decide +kernel
theorem dJ1_charAt_3b067_9 : decode cJ1_charAt_3b067 9 = .ok (.sipush 255, 3) := by decide +kernel
theorem dJ1_charAt_3b067_12 : decode cJ1_charAt_3b067 12 = .ok (.iand, 1) := by decide +kernel
theorem dJ1_charAt_3b067_13 : decode cJ1_charAt_3b067 13 = .ok (.i2c, 1) := by decide +kernel
theorem dJ1_charAt_3b067_14 : decode cJ1_charAt_3b067 14 = .ok (.ireturn, 1) := by decide +kernel
theorem dJ3_checkIndex_8e157_0 : decode cJ3_checkIndex_8e157 0 = .ok (.iload_n 0, 1) := by decide +kernel
theorem dJ3_checkIndex_8e157_1 : decode cJ3_checkIndex_8e157 1 = .ok (.ifCond .lt 8, 3) := by decide +kernel
theorem dJ3_checkIndex_8e157_4 : decode cJ3_checkIndex_8e157 4 = .ok (.iload_n 0, 1) := by decide +kernel
theorem dJ3_checkIndex_8e157_5 : decode cJ3_checkIndex_8e157 5 = .ok (.iload_n 1, 1) := by decide +kernel
theorem dJ3_checkIndex_8e157_6 : decode cJ3_checkIndex_8e157 6 = .ok (.if_icmp .lt 10, 3) := by decide +kernel
theorem dJ3_checkIndex_8e157_9 : decode cJ3_checkIndex_8e157 9 = .ok (.aload_n 2, 1) := by decide +kernel
theorem dJ3_checkIndex_8e157_10 : decode cJ3_checkIndex_8e157 10 = .ok (.iload_n 0, 1) := by decide +kernel
theorem dJ3_checkIndex_8e157_11 : decode cJ3_checkIndex_8e157 11 = .ok (.iload_n 1, 1) := by decide +kernel
theorem dJ3_checkIndex_8e157_12 : decode cJ3_checkIndex_8e157 12 = .ok (.invokestatic 95, 3) := by decide +kernel
theorem dJ3_checkIndex_8e157_15 : decode cJ3_checkIndex_8e157 15 = .ok (.athrow, 1) := by decide +kernel
theorem dJ3_checkIndex_8e157_16 : decode cJ3_checkIndex_8e157 16 = .ok (.iload_n 0, 1) := by decide +kernel
theorem dJ3_checkIndex_8e157_17 : decode cJ3_checkIndex_8e157 17 = .ok (.ireturn, 1) := by decide +kernel
set_option maxRecDepth 100000 in
theorem tq_J0_length_8abf5 : Cond.code yJ0_length_8abf5 cJ0_length_8abf5 1 (some .int) ∈ mm_TT := mm_in (i := 273) (by rfl) rfl
set_option maxRecDepth 100000 in
theorem tq_J0_charAt_5068e : Cond.code yJ0_charAt_5068e cJ0_charAt_5068e 2 (some .char) ∈ mm_TT := mm_in (i := 283) (by rfl) rfl
set_option maxRecDepth 100000 in
theorem tq_J0_coder_7d493 : Cond.code yJ0_coder_7d493 cJ0_coder_7d493 1 (some .byte) ∈ mm_TT := mm_in (i := 277) (by rfl) rfl
set_option maxRecDepth 100000 in
theorem tq_J0_isLatin1_aae02 : Cond.code yJ0_isLatin1_aae02 cJ0_isLatin1_aae02 1 (some .boolean) ∈ mm_TT := mm_in (i := 287) (by rfl) rfl
set_option maxRecDepth 100000 in
theorem tq_J0_checkIndex_df160 : Cond.code yJ0_checkIndex_df160 cJ0_checkIndex_df160 2 none ∈ mm_TT := mm_in (i := 293) (by rfl) rfl
set_option maxRecDepth 100000 in
theorem tq_J1_charAt_3b067 : Cond.code yJ1_charAt_3b067 cJ1_charAt_3b067 2 (some .char) ∈ mm_TT := mm_in (i := 290) (by rfl) rfl
set_option maxRecDepth 100000 in
theorem tq_J3_checkIndex_8e157 : Cond.code yJ3_checkIndex_8e157 cJ3_checkIndex_8e157 3 (some .int) ∈ mm_TT := mm_in (i := 298) (by rfl) rfl
theorem tf_cs : Cond.fieldLink "java/lang/String" 38 "java/lang/String" "COMPACT_STRINGS" "Z" ∈ mm_TT := mm_in (i := 278) (by decide +kernel) rfl
theorem tf_co : Cond.fieldLink "java/lang/String" 15 "java/lang/String" "coder" "B" ∈ mm_TT := mm_in (i := 1832) (by decide +kernel) rfl
theorem tf_va : Cond.fieldLink "java/lang/String" 9 "java/lang/String" "value" "[B" ∈ mm_TT := mm_in (i := 1831) (by decide +kernel) rfl
theorem tf_fo : Cond.fieldLink "java/lang/String" 1053 "jdk/internal/util/Preconditions" "SIOOBE_FORMATTER" "Ljava/util/function/BiFunction;" ∈ mm_TT := mm_in (i := 294) (by decide +kernel) rfl
theorem tm_co : Cond.methodLink "java/lang/String" 335 yJ0_coder_7d493 ∈ mm_TT := mm_in (i := 274) (by decide +kernel) rfl
theorem tm_l1 : Cond.methodLink "java/lang/String" 492 yJ0_isLatin1_aae02 ∈ mm_TT := mm_in (i := 284) (by decide +kernel) rfl
theorem tm_c1 : Cond.methodLink "java/lang/String" 495 yJ1_charAt_3b067 ∈ mm_TT := mm_in (i := 288) (by decide +kernel) rfl
theorem tm_ck : Cond.methodLink "java/lang/StringLatin1" 9 yJ0_checkIndex_df160 ∈ mm_TT := mm_in (i := 291) (by decide +kernel) rfl
theorem tm_pc : Cond.methodLink "java/lang/String" 1059 yJ3_checkIndex_8e157 ∈ mm_TT := mm_in (i := 296) (by decide +kernel) rfl
theorem tm_len : Cond.methodLink "PostRing$Tokens" 21 yJ0_length_8abf5 ∈ mm_TT := mm_in (i := 270) (by decide +kernel) rfl
theorem tm_chr : Cond.methodLink "PostRing$Tokens" 27 yJ0_charAt_5068e ∈ mm_TT := mm_in (i := 280) (by decide +kernel) rfl
theorem ti_len : Cond.instanceMethod yJ0_length_8abf5 ∈ mm_TT := mm_in (i := 271) (by decide +kernel) rfl
theorem ts_len : Cond.selects "java/lang/String" yJ0_length_8abf5 yJ0_length_8abf5 ∈ mm_TT := mm_in (i := 272) (by decide +kernel) rfl
theorem ti_chr : Cond.instanceMethod yJ0_charAt_5068e ∈ mm_TT := mm_in (i := 281) (by decide +kernel) rfl
theorem ts_chr : Cond.selects "java/lang/String" yJ0_charAt_5068e yJ0_charAt_5068e ∈ mm_TT := mm_in (i := 282) (by decide +kernel) rfl
theorem ti_co : Cond.instanceMethod yJ0_coder_7d493 ∈ mm_TT := mm_in (i := 275) (by decide +kernel) rfl
theorem ts_co : Cond.selects "java/lang/String" yJ0_coder_7d493 yJ0_coder_7d493 ∈ mm_TT := mm_in (i := 276) (by decide +kernel) rfl
theorem ti_l1 : Cond.instanceMethod yJ0_isLatin1_aae02 ∈ mm_TT := mm_in (i := 285) (by decide +kernel) rfl
theorem ts_l1 : Cond.selects "java/lang/String" yJ0_isLatin1_aae02 yJ0_isLatin1_aae02 ∈ mm_TT := mm_in (i := 286) (by decide +kernel) rfl
theorem ti_c1 : Cond.static yJ1_charAt_3b067 ∈ mm_TT := mm_in (i := 289) (by decide +kernel) rfl
theorem ti_ck : Cond.static yJ0_checkIndex_df160 ∈ mm_TT := mm_in (i := 292) (by decide +kernel) rfl
theorem ti_pc : Cond.static yJ3_checkIndex_8e157 ∈ mm_TT := mm_in (i := 297) (by decide +kernel) rfl
theorem tz_str : Cond.initialized "java/lang/String" ∈ mm_TT := mm_in (i := 10) (by decide +kernel) rfl
theorem tz_l1 : Cond.initialized "java/lang/StringLatin1" ∈ mm_TT := mm_in (i := 11) (by decide +kernel) rfl
theorem tz_pc : Cond.initialized "jdk/internal/util/Preconditions" ∈ mm_TT := mm_in (i := 12) (by decide +kernel) rfl

theorem tx_ci {p : Program} {l : Launch} {e : Env} {R : Room} {s : State} {m : MethodId} {args : Array Value} {below : List Frame} {meth : Method} {c : Code} {H : Heap} {locs : List Loc} {cells slots : Nat} {Q : State → Prop} {pc : Nat} {ls : Array Slot} {rest st0 : List Value} {a : Array Value} {post : Int32 → Prop} (hr : CallRun p l e R s m args below meth c H locs cells slots 0 0 (F0 m pc ls st0) rest (vp_Si post a) (fun _ => False))
    (kk : ∀ r : Int32, post r → W p l e R s m args below meth c H locs cells slots Q (F0 m (pc + 3) ls (.int r :: rest))) : W p l e R s m args below meth c H locs cells slots Q (F0 m pc ls st0) := by
  intro T hT X
  obtain ⟨v, st₀, t, T', L, h0, X', hL, e1, ⟨r, hv, hp, hh⟩, st⟩ := hr T hT X
  cases hv
  obtain ⟨t2, a1, b1⟩ := kk r hp T' (by rw [e1, hh, h0]) (Stand.forget X' (fun q h => (hL q h).elim))
  exact ⟨t2, st t2 a1, b1⟩
theorem tx_cv {p : Program} {l : Launch} {e : Env} {R : Room} {s : State} {m : MethodId} {args : Array Value} {below : List Frame} {meth : Method} {c : Code} {H : Heap} {locs : List Loc} {cells slots : Nat} {Q : State → Prop} {pc : Nat} {ls : Array Slot} {rest st0 : List Value} {a : Array Value} {post : Unit → Prop} (hr : CallRun p l e R s m args below meth c H locs cells slots 0 0 (F0 m pc ls st0) rest (va_Sv post a) (fun _ => False))
    (kk : W p l e R s m args below meth c H locs cells slots Q (F0 m (pc + 3) ls rest)) : W p l e R s m args below meth c H locs cells slots Q (F0 m pc ls st0) := by
  intro T hT X
  obtain ⟨v, st₀, t, T', L, h0, X', hL, e1, ⟨hv, hp, hh⟩, st⟩ := hr T hT X
  cases hv
  obtain ⟨t2, a1, b1⟩ := kk T' (by rw [e1, hh, h0]) (Stand.forget X' (fun q h => (hL q h).elim))
  exact ⟨t2, st t2 a1, b1⟩
def tx_Wd (y : MethodName) (cc : ByteArray) (n : Nat) (r : Option FieldType) : List Cond := Cond.code y cc n r :: mm_TT
def tx_Pc (b qs qv B SL : Nat) (xs : Nat → Int32) (D : va_G) (dA : FieldType → ClassId) (args : List Value) : Array Value → State → Prop := va_Pc args (fun U => mm_SK b qs qv B SL xs D dA U ∧ B ≤ U.heap.size)
theorem tx_blind {b qs qv B SL : Nat} {xs : Nat → Int32} {D : va_G} {dA : FieldType → ClassId} {args : List Value} : FrameBlind (tx_Pc b qs qv B SL xs D dA args) := fun a U g mk q => ⟨q.1, mm_SK_same q.2.1 rfl rfl, q.2.2⟩
theorem tx_pre {b qs qv B SL : Nat} {xs : Nat → Int32} {D : va_G} {dA : FieldType → ClassId} {s U : State} {H : Heap} {locs : List Loc} {av : List Value} (hSK : mm_SK b qs qv B SL xs D dA s) (hB : B ≤ s.heap.size) (hS : va_S (fun q => B ≤ q) s.heap H locs) (hU : U.heap = H) (hW : s.WarmedH U.vm) : tx_Pc b qs qv B SL xs D dA av av.toArray U := ⟨rfl, mm_SK_go hSK hU hS hW, by rw [hU]; exact Nat.le_trans hB hS.1⟩
theorem tx_hws {s : State} {args : Array Value} (hts : ∀ w ∈ mm_TT, w.before args s = true) {y : MethodName} {cc : ByteArray} {n : Nat} {r : Option FieldType} (hcd : Cond.code y cc n r ∈ mm_TT) : ∀ w ∈ tx_Wd y cc n r, ∀ (a' : Array Value) (U : State), s.WarmedH U.vm → w.before a' U = true :=
  pay_in hts (mm_good (fun w hw => (List.mem_cons.mp hw).elim (fun q => by rw [q]; exact hcd) (fun q => q)))
theorem tx_len {y : MethodName} {n : Nat} (h : (parseMethodDescriptor y.desc).map (fun d => d.parameters.length) = some n) : ∀ sig, parseMethodDescriptor y.desc = some sig → n = sig.parameters.length := fun sig q => by
  rw [q] at h
  exact (Option.some.inj h).symm

theorem tx_coder (l : Launch) (b qs qv B SL : Nat) (xs : Nat → Int32) (D : va_G) (dA : FieldType → ClassId) : Met l yJ0_coder_7d493 (tx_Wd yJ0_coder_7d493 cJ0_coder_7d493 1 (some .byte)) { frames := 0, cells := 0, slots := 0, locals := 0 } (tx_Pc b qs qv B SL xs D dA [.ref qs]) (vp_Si (fun r => r = 0)) 0 0 (fun _ => False) := by
  refine Met.ofW (cc := cJ0_coder_7d493) (maxL := 1) (ret := (some .byte)) (by decide) rfl ?_
  intro p e s m args below meth c s₁ B9 hml hv
  obtain ⟨rfl, hSK, hB⟩ := hv
  have hx := B9.exec
  have hb := B9.bytes
  have hr := B9.returns
  have hts : ∀ w ∈ mm_TT, w.before ([.ref qs] : List Value).toArray s = true := fun w hw => atoms_spec (ws := tx_Wd yJ0_coder_7d493 cJ0_coder_7d493 1 (some .byte)) B9.pre w (List.mem_cons_of_mem _ hw)
  have hown : s.vm.findClass yJ0_coder_7d493.cls = some m.cls := findClass_of_methodNamed B9.named
  have hlocks := B9.notSynchronized
  have hS : va_S (fun q => B ≤ q) s.heap s.heap [] := va_S.rf
  have hE := hSK.2.2.2.2.2.2.2.1
  have hl := lv_entry ([.ref qs]) (n := 1) (Nat.le_of_ble_eq_true rfl)
  rw [lg_entry_eq]
  generalize (lg_sl ([.ref qs]) ++ List.replicate (1 - (lg_sl ([.ref qs])).length) Slot.unset).toArray = ls at hl ⊢
  have hl : lv_has ls 1 [(0, .ref qs)] := hl
  refine va_gets hx hb hSK.2.2.2.2.2.2.2.2.1 hS hown (hts _ tf_cs) (fun _ q => q) dJ0_coder_7d493_0 ?_
  refine lv_if_eq (tgt := 13) hx hb dJ0_coder_7d493_3 (by decide) (fun q => absurd q (by decide)) (fun _ => ?_)
  refine lv_aload_n hx hb dJ0_coder_7d493_6 rfl (lv_at hl 0 rfl) ?_
  refine vk_getf hx hb (hE.1 0 (by decide)).2.1 hS hown (hts _ tf_co) (fun _ q => q) dJ0_coder_7d493_7 ?_
  refine lv_goto (tgt := 14) hx hb dJ0_coder_7d493_10 (by decide) ?_
  exact W.zret hx hb hr rfl (fun t ht hW => ⟨0, rfl, rfl, ht⟩) (fun q h => by cases h) dJ0_coder_7d493_14 hlocks
theorem tx_isLatin1 (l : Launch) (b qs qv B SL : Nat) (xs : Nat → Int32) (D : va_G) (dA : FieldType → ClassId) : Met l yJ0_isLatin1_aae02 (tx_Wd yJ0_isLatin1_aae02 cJ0_isLatin1_aae02 1 (some .boolean)) { frames := 0, cells := 0, slots := 0, locals := 0 } (tx_Pc b qs qv B SL xs D dA [.ref qs]) (vp_Si (fun r => r = 1)) 0 0 (fun _ => False) := by
  refine Met.ofW (cc := cJ0_isLatin1_aae02) (maxL := 1) (ret := (some .boolean)) (by decide) rfl ?_
  intro p e s m args below meth c s₁ B9 hml hv
  obtain ⟨rfl, hSK, hB⟩ := hv
  have hx := B9.exec
  have hb := B9.bytes
  have hr := B9.returns
  have hts : ∀ w ∈ mm_TT, w.before ([.ref qs] : List Value).toArray s = true := fun w hw => atoms_spec (ws := tx_Wd yJ0_isLatin1_aae02 cJ0_isLatin1_aae02 1 (some .boolean)) B9.pre w (List.mem_cons_of_mem _ hw)
  have hown : s.vm.findClass yJ0_isLatin1_aae02.cls = some m.cls := findClass_of_methodNamed B9.named
  have hlocks := B9.notSynchronized
  have hS : va_S (fun q => B ≤ q) s.heap s.heap [] := va_S.rf
  have hE := hSK.2.2.2.2.2.2.2.1
  have hl := lv_entry ([.ref qs]) (n := 1) (Nat.le_of_ble_eq_true rfl)
  rw [lg_entry_eq]
  generalize (lg_sl ([.ref qs]) ++ List.replicate (1 - (lg_sl ([.ref qs])).length) Slot.unset).toArray = ls at hl ⊢
  have hl : lv_has ls 1 [(0, .ref qs)] := hl
  refine va_gets hx hb hSK.2.2.2.2.2.2.2.2.1 hS hown (hts _ tf_cs) (fun _ q => q) dJ0_isLatin1_aae02_0 ?_
  refine lv_if_eq (tgt := 17) hx hb dJ0_isLatin1_aae02_3 (by decide) (fun q => absurd q (by decide)) (fun _ => ?_)
  refine lv_aload_n hx hb dJ0_isLatin1_aae02_6 rfl (lv_at hl 0 rfl) ?_
  refine vk_getf hx hb (hE.1 0 (by decide)).2.1 hS hown (hts _ tf_co) (fun _ q => q) dJ0_isLatin1_aae02_7 ?_
  refine lv_if_ne (tgt := 17) hx hb dJ0_isLatin1_aae02_10 (by decide) (fun q => absurd rfl q) (fun _ => ?_)
  refine lv_iconst (v := 1) hx hb dJ0_isLatin1_aae02_13 (by decide) ?_
  refine lv_goto (tgt := 18) hx hb dJ0_isLatin1_aae02_14 (by decide) ?_
  exact W.zret hx hb hr rfl (fun t ht hW => ⟨1, rfl, rfl, ht⟩) (fun q h => by cases h) dJ0_isLatin1_aae02_18 hlocks
theorem tx_pcheck (l : Launch) (b qs qv B SL : Nat) (xs : Nat → Int32) (D : va_G) (dA : FieldType → ClassId) (k n : Int32) (f : Option Nat) (h0 : ¬ k < 0) (h1 : k < n) : Met l yJ3_checkIndex_8e157 (tx_Wd yJ3_checkIndex_8e157 cJ3_checkIndex_8e157 3 (some .int)) { frames := 0, cells := 0, slots := 0, locals := 0 } (tx_Pc b qs qv B SL xs D dA [.int k, .int n, va_rf f]) (vp_Si (fun r => r = k)) 0 0 (fun _ => False) := by
  refine Met.ofW (cc := cJ3_checkIndex_8e157) (maxL := 3) (ret := (some .int)) (by decide) rfl ?_
  intro p e s m args below meth c s₁ B9 hml hv
  obtain ⟨rfl, hSK, hB⟩ := hv
  have hx := B9.exec
  have hb := B9.bytes
  have hr := B9.returns
  have hts : ∀ w ∈ mm_TT, w.before ([.int k, .int n, va_rf f] : List Value).toArray s = true := fun w hw => atoms_spec (ws := tx_Wd yJ3_checkIndex_8e157 cJ3_checkIndex_8e157 3 (some .int)) B9.pre w (List.mem_cons_of_mem _ hw)
  have hown : s.vm.findClass yJ3_checkIndex_8e157.cls = some m.cls := findClass_of_methodNamed B9.named
  have hlocks := B9.notSynchronized
  have hS : va_S (fun q => B ≤ q) s.heap s.heap [] := va_S.rf
  have hE := hSK.2.2.2.2.2.2.2.1
  have hl := lv_entry ([.int k, .int n, va_rf f]) (n := 3) (by cases f <;> exact Nat.le_of_ble_eq_true rfl)
  rw [lg_entry_eq]
  generalize (lg_sl ([.int k, .int n, va_rf f]) ++ List.replicate (3 - (lg_sl ([.int k, .int n, va_rf f])).length) Slot.unset).toArray = ls at hl ⊢
  have hl : lv_has ls 3 [(0, .int k), (1, .int n)] := lv_sub hl [0, 1] rfl
  refine lv_iload_n hx hb dJ3_checkIndex_8e157_0 rfl (lv_at hl 0 rfl) ?_
  refine lv_if_lt (tgt := 9) hx hb dJ3_checkIndex_8e157_1 (by decide) (fun q => absurd q h0) (fun _ => ?_)
  refine lv_iload_n hx hb dJ3_checkIndex_8e157_4 rfl (lv_at hl 0 rfl) ?_
  refine lv_iload_n hx hb dJ3_checkIndex_8e157_5 rfl (lv_at hl 1 rfl) ?_
  refine lv_icmp_lt (tgt := 16) hx hb dJ3_checkIndex_8e157_6 (by decide) (fun _ => ?_) (fun q => absurd h1 q)
  refine lv_iload_n hx hb dJ3_checkIndex_8e157_16 rfl (lv_at hl 0 rfl) ?_
  exact W.iret hx hb hr (fun t ht hW => ⟨k, rfl, rfl, ht⟩) (fun q h => by cases h) dJ3_checkIndex_8e157_17 hlocks
theorem tx_check (l : Launch) (b qs qv B SL : Nat) (xs : Nat → Int32) (D : va_G) (dA : FieldType → ClassId) (k n : Int32) (h0 : ¬ k < 0) (h1 : k < n) : Met l yJ0_checkIndex_df160 (tx_Wd yJ0_checkIndex_df160 cJ0_checkIndex_df160 2 none) { frames := 1, cells := 0, slots := 0, locals := 30 } (tx_Pc b qs qv B SL xs D dA [.int k, .int n]) (va_Sv (fun _ => True)) 0 0 (fun _ => False) := by
  refine Met.ofW (cc := cJ0_checkIndex_df160) (maxL := 2) (ret := none) (by decide) rfl ?_
  intro p e s m args below meth c s₁ B9 hml hv
  obtain ⟨rfl, hSK, hB⟩ := hv
  have hx := B9.exec
  have hb := B9.bytes
  have hr := B9.returns
  have hts : ∀ w ∈ mm_TT, w.before ([.int k, .int n] : List Value).toArray s = true := fun w hw => atoms_spec (ws := tx_Wd yJ0_checkIndex_df160 cJ0_checkIndex_df160 2 none) B9.pre w (List.mem_cons_of_mem _ hw)
  have hown : s.vm.findClass yJ0_checkIndex_df160.cls = some m.cls := findClass_of_methodNamed B9.named
  have hlocks := B9.notSynchronized
  have hS : va_S (fun q => B ≤ q) s.heap s.heap [] := va_S.rf
  have hE := hSK.2.2.2.2.2.2.2.1
  have hl := lv_entry ([.int k, .int n]) (n := 2) (Nat.le_of_ble_eq_true rfl)
  rw [lg_entry_eq]
  generalize (lg_sl ([.int k, .int n]) ++ List.replicate (2 - (lg_sl ([.int k, .int n])).length) Slot.unset).toArray = ls at hl ⊢
  have hl : lv_has ls 2 [(0, .int k), (1, .int n)] := hl
  refine lv_iload_n hx hb dJ0_checkIndex_df160_0 rfl (lv_at hl 0 rfl) ?_
  refine lv_iload_n hx hb dJ0_checkIndex_df160_1 rfl (lv_at hl 1 rfl) ?_
  have go : ∀ f : Option Nat, W p l e (headSpec (tx_Wd yJ0_checkIndex_df160 cJ0_checkIndex_df160 2 none) { frames := 1, cells := 0, slots := 0, locals := 30 }).room s m ([.int k, .int n] : List Value).toArray below meth c s.heap [] 0 0 (MQ below (va_Sv (fun _ => True)) ([.int k, .int n] : List Value).toArray s 0 0 (fun _ => False)) (F0 m 5 ls [va_rf f, .int n, .int k]) := by
    intro f
    refine tx_ci (W.runS (nL := 2) (Ts := mm_TT) (own := RJ0) (n := 3) (As := [.int k, .int n, va_rf f]) (rest := []) ⟨hx, hb, hml, hown, hts⟩ (tx_pcheck l b qs qv B SL xs D dA k n f h0 h1) ⟨⟨rfl, rfl, Nat.le_of_ble_eq_true rfl, Nat.le_of_ble_eq_true rfl, tx_hws hts tq_J3_checkIndex_8e157, List.mem_cons_self, hts _ tq_J3_checkIndex_8e157, hts _ tz_pc, ⟨by decide, by decide⟩, tx_len (by decide +kernel), hts _ tm_pc⟩, hts _ ti_pc⟩ ⟨tx_blind, fun U hU hW => tx_pre hSK hB hS hU hW⟩ rfl rfl hl.1 rfl (lv_room (Nat.le_of_ble_eq_true rfl)) dJ0_checkIndex_df160_5 ⟨Nat.le_refl 0, Nat.le_refl 0⟩) (fun r hr9 => ?_)
    refine lv_pop hx hb dJ0_checkIndex_df160_8 rfl ?_
    exact W.vret hx hb hr (fun t ht hW => ⟨rfl, trivial, ht⟩) (fun q h => by cases h) dJ0_checkIndex_df160_9 hlocks
  rcases hSK.2.2.2.2.2.2.2.2.2 with hz | ⟨t9, hz⟩
  · exact va_gets hx hb hz hS hown (hts _ tf_fo) (fun _ q => q) dJ0_checkIndex_df160_2 (go none)
  · exact va_gets hx hb hz hS hown (hts _ tf_fo) (fun _ q => q) dJ0_checkIndex_df160_2 (go (some t9))
theorem tx_ch : ∀ k, k < 118 → ((mm_sb.getD k 0 &&& 255).toUInt32 % 65536).toInt32 = nI (mm_str.getD k 0) ∧ narrow .char (.int (nI (mm_str.getD k 0))) = .int (nI (mm_str.getD k 0)) := by decide +kernel
theorem tx_lcharAt (l : Launch) (b qs qv B SL : Nat) (xs : Nat → Int32) (D : va_G) (dA : FieldType → ClassId) (k : Nat) (hk : k < 118) : Met l yJ1_charAt_3b067 (tx_Wd yJ1_charAt_3b067 cJ1_charAt_3b067 2 (some .char)) { frames := 2, cells := 0, slots := 0, locals := 60 } (tx_Pc b qs qv B SL xs D dA [.ref qv, .int (nI k)]) (vp_Si (fun r => r = nI (mm_str.getD k 0))) 0 0 (fun _ => False) := by
  refine Met.ofW (cc := cJ1_charAt_3b067) (maxL := 2) (ret := (some .char)) (by decide) rfl ?_
  intro p e s m args below meth c s₁ B9 hml hv
  obtain ⟨rfl, hSK, hB⟩ := hv
  have hx := B9.exec
  have hb := B9.bytes
  have hr := B9.returns
  have hts : ∀ w ∈ mm_TT, w.before ([.ref qv, .int (nI k)] : List Value).toArray s = true := fun w hw => atoms_spec (ws := tx_Wd yJ1_charAt_3b067 cJ1_charAt_3b067 2 (some .char)) B9.pre w (List.mem_cons_of_mem _ hw)
  have hown : s.vm.findClass yJ1_charAt_3b067.cls = some m.cls := findClass_of_methodNamed B9.named
  have hlocks := B9.notSynchronized
  have hS : va_S (fun q => B ≤ q) s.heap s.heap [] := va_S.rf
  have hE := hSK.2.2.2.2.2.2.2.1
  have hl := lv_entry ([.ref qv, .int (nI k)]) (n := 2) (Nat.le_of_ble_eq_true rfl)
  rw [lg_entry_eq]
  generalize (lg_sl ([.ref qv, .int (nI k)]) ++ List.replicate (2 - (lg_sl ([.ref qv, .int (nI k)])).length) Slot.unset).toArray = ls at hl ⊢
  have hl : lv_has ls 2 [(0, .ref qv), (1, .int (nI k))] := hl
  have hT := (hE.1 0 (by decide)).2.2.2
  refine lv_iload_n hx hb dJ1_charAt_3b067_0 rfl (lv_at hl 1 rfl) ?_
  refine lv_aload_n hx hb dJ1_charAt_3b067_1 rfl (lv_at hl 0 rfl) ?_
  refine va_tlen hx hb hT hS (v := 118) (by decide) dJ1_charAt_3b067_2 ?_
  refine tx_cv (W.runS (nL := 2) (Ts := mm_TT) (own := RJ1) (n := 2) (As := [.int (nI k), .int 118]) (rest := []) ⟨hx, hb, hml, hown, hts⟩ (tx_check l b qs qv B SL xs D dA (nI k) 118 (nI_pos (by omega)) (nI_lt (b := 118) hk (by decide))) ⟨⟨rfl, rfl, Nat.le_of_ble_eq_true rfl, Nat.le_of_ble_eq_true rfl, tx_hws hts tq_J0_checkIndex_df160, List.mem_cons_self, hts _ tq_J0_checkIndex_df160, hts _ tz_str, ⟨by decide, by decide⟩, tx_len (by decide +kernel), hts _ tm_ck⟩, hts _ ti_ck⟩ ⟨tx_blind, fun U hU hW => tx_pre hSK hB hS hU hW⟩ rfl rfl hl.1 rfl (lv_room (Nat.le_of_ble_eq_true rfl)) dJ1_charAt_3b067_3 ⟨Nat.le_refl 0, Nat.le_refl 0⟩) ?_
  refine lv_aload_n hx hb dJ1_charAt_3b067_6 rfl (lv_at hl 0 rfl) ?_
  refine lv_iload_n hx hb dJ1_charAt_3b067_7 rfl (lv_at hl 1 rfl) ?_
  refine va_tb hx hb hT hS (vp_in_nI (N := 118) hk (by decide)) rfl dJ1_charAt_3b067_8 ?_
  refine lv_sipush (v := 255) hx hb dJ1_charAt_3b067_9 (by decide) ?_
  refine lv_iand hx hb dJ1_charAt_3b067_12 ?_
  refine lv_i2c hx hb dJ1_charAt_3b067_13 (v := nI (mm_str.getD k 0)) (by show ((mm_sb.getD (nI k).toNatClampNeg 0 &&& 255).toUInt32 % 65536).toInt32 = _; rw [nI_clamp (by omega)]; exact (tx_ch k hk).1) ?_
  exact W.zret hx hb hr (tx_ch k hk).2 (fun t ht hW => ⟨_, rfl, rfl, ht⟩) (fun q h => by cases h) dJ1_charAt_3b067_14 hlocks
theorem tx_length (l : Launch) (b qs qv B SL : Nat) (xs : Nat → Int32) (D : va_G) (dA : FieldType → ClassId) : Met l yJ0_length_8abf5 (tx_Wd yJ0_length_8abf5 cJ0_length_8abf5 1 (some .int)) { frames := 1, cells := 0, slots := 0, locals := 30 } (tx_Pc b qs qv B SL xs D dA [.ref qs]) (vp_Si (fun r => r = Int32.ofNat mm_str.length)) 0 0 (fun _ => False) := by
  refine Met.ofW (cc := cJ0_length_8abf5) (maxL := 1) (ret := (some .int)) (by decide) rfl ?_
  intro p e s m args below meth c s₁ B9 hml hv
  obtain ⟨rfl, hSK, hB⟩ := hv
  have hx := B9.exec
  have hb := B9.bytes
  have hr := B9.returns
  have hts : ∀ w ∈ mm_TT, w.before ([.ref qs] : List Value).toArray s = true := fun w hw => atoms_spec (ws := tx_Wd yJ0_length_8abf5 cJ0_length_8abf5 1 (some .int)) B9.pre w (List.mem_cons_of_mem _ hw)
  have hown : s.vm.findClass yJ0_length_8abf5.cls = some m.cls := findClass_of_methodNamed B9.named
  have hlocks := B9.notSynchronized
  have hS : va_S (fun q => B ≤ q) s.heap s.heap [] := va_S.rf
  have hE := hSK.2.2.2.2.2.2.2.1
  have hl := lv_entry ([.ref qs]) (n := 1) (Nat.le_of_ble_eq_true rfl)
  rw [lg_entry_eq]
  generalize (lg_sl ([.ref qs]) ++ List.replicate (1 - (lg_sl ([.ref qs])).length) Slot.unset).toArray = ls at hl ⊢
  have hl : lv_has ls 1 [(0, .ref qs)] := hl
  have hT := (hE.1 0 (by decide)).2.2.2
  refine lv_aload_n hx hb dJ0_length_8abf5_0 rfl (lv_at hl 0 rfl) ?_
  refine vk_getf hx hb (hE.1 0 (by decide)).2.2.1 hS hown (hts _ tf_va) (fun _ q => q) dJ0_length_8abf5_1 ?_
  refine va_tlen hx hb hT hS (v := 118) (by decide) dJ0_length_8abf5_4 ?_
  refine lv_aload_n hx hb dJ0_length_8abf5_5 rfl (lv_at hl 0 rfl) ?_
  refine tx_ci (W.runV (nL := 1) (Ts := mm_TT) (own := RJ0) (C := RJ0) (n := 0) (b := qs) (As := []) (rest := [.int 118]) ⟨hx, hb, hml, hown, hts⟩ (tx_coder l b qs qv B SL xs D dA) ⟨⟨rfl, rfl, Nat.le_of_ble_eq_true rfl, Nat.le_of_ble_eq_true rfl, tx_hws hts tq_J0_coder_7d493, List.mem_cons_self, hts _ tq_J0_coder_7d493, hts _ tz_str, ⟨by decide, by decide⟩, tx_len (by decide +kernel), hts _ tm_co⟩, hts _ ti_co, hts _ ts_co⟩ ⟨tx_blind, vk_recv hE (i := 0) (by decide) hS, fun U hU hW => tx_pre hSK hB hS hU hW⟩ rfl rfl hl.1 rfl (lv_room (Nat.le_of_ble_eq_true rfl)) dJ0_length_8abf5_6 ⟨Nat.le_refl 0, Nat.le_refl 0⟩) (fun r hr9 => ?_)
  subst hr9
  refine lv_ishr hx hb dJ0_length_8abf5_9 ?_
  exact W.iret hx hb hr (fun t ht hW => ⟨_, rfl, by decide, ht⟩) (fun q h => by cases h) dJ0_length_8abf5_10 hlocks
theorem tx_charAt (l : Launch) (b qs qv B SL : Nat) (xs : Nat → Int32) (D : va_G) (dA : FieldType → ClassId) (k : Nat) (hk : k < 118) : Met l yJ0_charAt_5068e (tx_Wd yJ0_charAt_5068e cJ0_charAt_5068e 2 (some .char)) { frames := 3, cells := 0, slots := 0, locals := 90 } (tx_Pc b qs qv B SL xs D dA [.ref qs, .int (nI k)]) (vp_Si (fun r => r = nI (mm_str.getD k 0))) 0 0 (fun _ => False) := by
  refine Met.ofW (cc := cJ0_charAt_5068e) (maxL := 2) (ret := (some .char)) (by decide) rfl ?_
  intro p e s m args below meth c s₁ B9 hml hv
  obtain ⟨rfl, hSK, hB⟩ := hv
  have hx := B9.exec
  have hb := B9.bytes
  have hr := B9.returns
  have hts : ∀ w ∈ mm_TT, w.before ([.ref qs, .int (nI k)] : List Value).toArray s = true := fun w hw => atoms_spec (ws := tx_Wd yJ0_charAt_5068e cJ0_charAt_5068e 2 (some .char)) B9.pre w (List.mem_cons_of_mem _ hw)
  have hown : s.vm.findClass yJ0_charAt_5068e.cls = some m.cls := findClass_of_methodNamed B9.named
  have hlocks := B9.notSynchronized
  have hS : va_S (fun q => B ≤ q) s.heap s.heap [] := va_S.rf
  have hE := hSK.2.2.2.2.2.2.2.1
  have hl := lv_entry ([.ref qs, .int (nI k)]) (n := 2) (Nat.le_of_ble_eq_true rfl)
  rw [lg_entry_eq]
  generalize (lg_sl ([.ref qs, .int (nI k)]) ++ List.replicate (2 - (lg_sl ([.ref qs, .int (nI k)])).length) Slot.unset).toArray = ls at hl ⊢
  have hl : lv_has ls 2 [(0, .ref qs), (1, .int (nI k))] := hl
  refine lv_aload_n hx hb dJ0_charAt_5068e_0 rfl (lv_at hl 0 rfl) ?_
  refine tx_ci (W.runV (nL := 2) (Ts := mm_TT) (own := RJ0) (C := RJ0) (n := 0) (b := qs) (As := []) (rest := []) ⟨hx, hb, hml, hown, hts⟩ (tx_isLatin1 l b qs qv B SL xs D dA) ⟨⟨rfl, rfl, Nat.le_of_ble_eq_true rfl, Nat.le_of_ble_eq_true rfl, tx_hws hts tq_J0_isLatin1_aae02, List.mem_cons_self, hts _ tq_J0_isLatin1_aae02, hts _ tz_str, ⟨by decide, by decide⟩, tx_len (by decide +kernel), hts _ tm_l1⟩, hts _ ti_l1, hts _ ts_l1⟩ ⟨tx_blind, vk_recv hE (i := 0) (by decide) hS, fun U hU hW => tx_pre hSK hB hS hU hW⟩ rfl rfl hl.1 rfl (lv_room (Nat.le_of_ble_eq_true rfl)) dJ0_charAt_5068e_1 ⟨Nat.le_refl 0, Nat.le_refl 0⟩) (fun r hr9 => ?_)
  subst hr9
  refine lv_if_eq (tgt := 16) hx hb dJ0_charAt_5068e_4 (by decide) (fun q => absurd q (by decide)) (fun _ => ?_)
  refine lv_aload_n hx hb dJ0_charAt_5068e_7 rfl (lv_at hl 0 rfl) ?_
  refine vk_getf hx hb (hE.1 0 (by decide)).2.2.1 hS hown (hts _ tf_va) (fun _ q => q) dJ0_charAt_5068e_8 ?_
  refine lv_iload_n hx hb dJ0_charAt_5068e_11 rfl (lv_at hl 1 rfl) ?_
  refine tx_ci (W.runS (nL := 2) (Ts := mm_TT) (own := RJ0) (n := 2) (As := [.ref qv, .int (nI k)]) (rest := []) ⟨hx, hb, hml, hown, hts⟩ (tx_lcharAt l b qs qv B SL xs D dA k hk) ⟨⟨rfl, rfl, Nat.le_of_ble_eq_true rfl, Nat.le_of_ble_eq_true rfl, tx_hws hts tq_J1_charAt_3b067, List.mem_cons_self, hts _ tq_J1_charAt_3b067, hts _ tz_l1, ⟨by decide, by decide⟩, tx_len (by decide +kernel), hts _ tm_c1⟩, hts _ ti_c1⟩ ⟨tx_blind, fun U hU hW => tx_pre hSK hB hS hU hW⟩ rfl rfl hl.1 rfl (lv_room (Nat.le_of_ble_eq_true rfl)) dJ0_charAt_5068e_12 ⟨Nat.le_refl 0, Nat.le_refl 0⟩) (fun r hr9 => ?_)
  subst hr9
  exact W.zret hx hb hr (tx_ch k hk).2 (fun t ht hW => ⟨_, rfl, rfl, ht⟩) (fun q h => by cases h) dJ0_charAt_5068e_15 hlocks
theorem ss_strL {p : Program} {l : Launch} {e : Env} {R : Room} {s : State} {m : MethodId} {args : Array Value} {below : List Frame} {meth : Method} {c : Code} {b qs qv B SL : Nat} {xs : Nat → Int32} {D : va_G} {dA : FieldType → ClassId} {QW : State → Prop} {ow : Nat} {ini : Bool} {cc : ByteArray} {cd : List (Nat × mm_R)} {mc ms : Nat} {cs : mm_Cs} {am : Nat → Nat × Nat} {rt : Option FieldType} {Q : Option Value → mm_H → Prop} (K : mm_cx p R s m args meth c b qs qv B SL xs D dA ow ini cc cd mc ms) : mm_r_strL SL xs cs am cd mc ms rt Q (mm_XW p l e R s m args below meth c b qs B D dA QW) := by
  intro pc L h cc0 ss0 i st hd h0 h1 h2 k0
  intro H locs ls hH hS hl
  obtain ⟨hx, hb, hown, hts, hSK, hini, hck, hmc, hms, hfr, hlo, hB⟩ := id K
  obtain ⟨hdg, hcr⟩ := mm_row hck hd
  rcases mm_fv2_all ow _ (of_decide_eq_true hcr) with ⟨h9, h8, h7⟩ | ⟨h9, h8, h7⟩ | ⟨h9, _⟩
  case inr.inl => exact absurd h9 (show ¬ (8 : Int) = 9 by decide)
  case inr.inr => exact absurd h9 (show ¬ (8 : Int) = 0 by decide)
  have h7 : i = 21 := h7
  subst h7
  rw [h8] at hown
  have hE := hSK.2.2.2.2.2.2.2.1
  have hroom : ((st.map (mm_v (mm_a b qs B))).map fun v => v.category).sum ≤ 8 := by rw [mm_catS]; exact Nat.le_of_ble_eq_true h0
  refine tx_ci (W.runV (nL := c.maxLocals) (Ts := mm_TT) (own := RX9) (C := RJ0) (n := 0) (b := qs) (As := []) (rest := st.map (mm_v (mm_a b qs B))) ⟨hx, hb, rfl, hown, hts⟩ (tx_length l b qs qv B SL xs D dA) ⟨⟨rfl, rfl, Nat.le_trans (by decide) hfr, Nat.le_trans (by decide) hlo, tx_hws hts tq_J0_length_8abf5, List.mem_cons_self, hts _ tq_J0_length_8abf5, hts _ tz_str, ⟨by decide, by decide⟩, tx_len (by decide +kernel), hts _ tm_len⟩, hts _ ti_len, hts _ ts_len⟩ ⟨tx_blind, vk_recv hE (i := 0) (by decide) hS, fun U hU hW => tx_pre hSK hB hS hU hW⟩ rfl rfl hl.2.1 rfl (lv_room hroom) hdg ⟨by rw [← hmc]; exact h1, by rw [← hms]; exact h2⟩) (fun r hr9 => ?_)
  subst hr9
  exact k0 H locs ls hH hS hl
theorem ss_strC {p : Program} {l : Launch} {e : Env} {R : Room} {s : State} {m : MethodId} {args : Array Value} {below : List Frame} {meth : Method} {c : Code} {b qs qv B SL : Nat} {xs : Nat → Int32} {D : va_G} {dA : FieldType → ClassId} {QW : State → Prop} {ow : Nat} {ini : Bool} {cc : ByteArray} {cd : List (Nat × mm_R)} {mc ms : Nat} {cs : mm_Cs} {am : Nat → Nat × Nat} {rt : Option FieldType} {Q : Option Value → mm_H → Prop} (K : mm_cx p R s m args meth c b qs qv B SL xs D dA ow ini cc cd mc ms) : mm_r_strC SL xs cs am cd mc ms rt Q (mm_XW p l e R s m args below meth c b qs B D dA QW) := by
  intro pc L h cc0 ss0 i k st hd h0 h1 h2 h3 k0
  intro H locs ls hH hS hl
  obtain ⟨hx, hb, hown, hts, hSK, hini, hck, hmc, hms, hfr, hlo, hB⟩ := id K
  obtain ⟨hdg, hcr⟩ := mm_row hck hd
  rcases mm_fv2_all ow _ (of_decide_eq_true hcr) with ⟨h9, h8, h7⟩ | ⟨h9, h8, h7⟩ | ⟨h9, _⟩
  case inl => exact absurd h9 (show ¬ (9 : Int) = 8 by decide)
  case inr.inr => exact absurd h9 (show ¬ (9 : Int) = 0 by decide)
  have h7 : i = 27 := h7
  subst h7
  rw [h8] at hown
  have hE := hSK.2.2.2.2.2.2.2.1
  have hroom : ((st.map (mm_v (mm_a b qs B))).map fun v => v.category).sum ≤ 8 := by rw [mm_catS]; exact Nat.le_of_ble_eq_true h1
  refine tx_ci (W.runV (nL := c.maxLocals) (Ts := mm_TT) (own := RX9) (C := RJ0) (n := 1) (b := qs) (As := [.int (nI k)]) (rest := st.map (mm_v (mm_a b qs B))) ⟨hx, hb, rfl, hown, hts⟩ (tx_charAt l b qs qv B SL xs D dA k h0) ⟨⟨rfl, rfl, Nat.le_trans (by decide) hfr, Nat.le_trans (by decide) hlo, tx_hws hts tq_J0_charAt_5068e, List.mem_cons_self, hts _ tq_J0_charAt_5068e, hts _ tz_str, ⟨by decide, by decide⟩, tx_len (by decide +kernel), hts _ tm_chr⟩, hts _ ti_chr, hts _ ts_chr⟩ ⟨tx_blind, vk_recv hE (i := 0) (by decide) hS, fun U hU hW => tx_pre hSK hB hS hU hW⟩ rfl rfl hl.2.1 rfl (lv_room hroom) hdg ⟨by rw [← hmc]; exact h2, by rw [← hms]; exact h3⟩) (fun r hr9 => ?_)
  subst hr9
  exact k0 H locs ls hH hS hl
