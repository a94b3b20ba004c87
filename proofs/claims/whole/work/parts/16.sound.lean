theorem mm_ofW {l : Launch} {y : MethodName} {ws ws' : List Cond} {rm : Room} {Pc : Array Value → State → Prop} {Qc : Array Value → State → Outcome → State → Prop} {mc ms : Nat} {free : Addr → Prop} {cc : ByteArray} {maxL : Nat} {ret : Option FieldType}
    (hy : plainFor y = true) (hw : ws = Cond.code y cc maxL ret :: ws')
    (body : ∀ p e s m args below meth c s₁, BodyLoose p l y (headSpec ws rm) cc maxL ret e s m args below meth c s₁ → c.maxLocals = maxL → Pc args s →
      W p l e (headSpec ws rm).room s m args below meth c s.heap [] 0 0 (MQ below Qc args s mc ms free) (entryFrame m args maxL)) : Met l y ws rm Pc Qc mc ms free := by
  refine MetFree.of_bodySF (code := cc) (maxLocals := maxL) (ret := ret) hy ?_ ?_
  · intro args s m h hn
    obtain ⟨meth, c, h1, h2, h3, h4, h5, h6, -, -⟩ := Cond.code_spec hn (atoms_spec (ws := ws) h _ (by rw [hw]; exact List.mem_cons_self))
    exact ⟨meth, c, h1, h2, h3, h4, h5, h6⟩
  · intro p e s m args below meth c s₁ B hml hP _
    have hh0 : s₁.heap = s.heap := by rw [B.state]; rfl
    obtain ⟨t, a1, o, b1, b2, b3⟩ := body p e s m args below meth c s₁ B hml hP s₁ hh0 (Stand.of_body B)
    exact ⟨t, o, a1, b1, b2, ⟨b3.1, b3.2⟩⟩
theorem mm_entry (ρ : Nat → Nat) (args : List Value) {n : Nat} (h : (mm_lay args).length ≤ n) : mm_LR ρ n ((lg_sl (args.map (mm_v ρ)) ++ List.replicate (n - (lg_sl (args.map (mm_v ρ))).length) Slot.unset).toArray) (mm_ent n args) := by
  have hl := lv_entry (args.map (mm_v ρ)) (n := n) (by rw [mm_lay_sl]; exact h)
  refine ⟨by unfold mm_ent; rw [List.length_append, List.length_replicate]; omega, hl.1, hl.2.1, fun i v hv => ?_⟩
  have := mm_lay_g ρ args 0 i _ v hv
  rw [Nat.zero_add] at this
  exact hl.2.2 _ this
theorem mm_sC {p : Program} {l : Launch} {e : Env} {R : Room} {s : State} {m : MethodId} {args : Array Value} {below : List Frame} {meth : Method} {c : Code} {b qs qv B SL : Nat} {xs : Nat → Int32} {D : va_G} {dA : FieldType → ClassId} {QW : State → Prop} {ow : Nat} {ini : Bool} {cc : ByteArray} {cd : List (Nat × mm_R)} {mc ms : Nat} {cs : mm_Cs} {rt : Option FieldType} {Q : Option Value → mm_H → Prop} {d : Nat} (K : mm_cx p R s m args meth c b qs qv B SL xs D dA ow ini cc cd mc ms) (hIH : ∀ (y : Nat) (a : List Value) (h : mm_H) (q : Option Value → mm_H → Prop), y < mm_T.length → Cond.code (mm_M y).1 (mm_M y).2.1 (mm_M y).2.2.1 (mm_M y).2.2.2.1 ∈ mm_TT → cs y a h q → mm_Met l b qs qv B SL xs D dA d y a h q) (hf1 : d + 7 ≤ R.frames) (hl1 : 60 * d + 300 ≤ R.locals) (hret : mm_r_iret SL xs cs mm_am cd mc ms rt Q (mm_XW p l e R s m args below meth c b qs B D dA QW) ∧ mm_r_zret SL xs cs mm_am cd mc ms rt Q (mm_XW p l e R s m args below meth c b qs B D dA QW) ∧ mm_r_lret SL xs cs mm_am cd mc ms rt Q (mm_XW p l e R s m args below meth c b qs B D dA QW) ∧ mm_r_aret SL xs cs mm_am cd mc ms rt Q (mm_XW p l e R s m args below meth c b qs B D dA QW) ∧ mm_r_aretN SL xs cs mm_am cd mc ms rt Q (mm_XW p l e R s m args below meth c b qs B D dA QW) ∧ mm_r_vret SL xs cs mm_am cd mc ms rt Q (mm_XW p l e R s m args below meth c b qs B D dA QW)) : mm_C SL xs cs mm_am cd mc ms rt Q (mm_XW p l e R s m args below meth c b qs B D dA QW) :=
  ⟨ss_iconst K,
   ss_bipush K,
   ss_sipush K,
   ss_lconst K,
   ss_ldc K,
   ss_ldcw K,
   ss_ldcS K,
   ss_ldc2 K,
   ss_null K,
   ss_iload_n K,
   ss_iload K,
   ss_istore_n K,
   ss_istore K,
   ss_lload_n K,
   ss_lload K,
   ss_lstore_n K,
   ss_lstore K,
   ss_aload_n K,
   ss_aload K,
   ss_astore_n K,
   ss_astore K,
   ss_aload_nN K,
   ss_aloadN K,
   ss_astore_nN K,
   ss_astoreN K,
   ss_iinc K,
   ss_iadd K,
   ss_isub K,
   ss_imul K,
   ss_iand K,
   ss_ior K,
   ss_ixor K,
   ss_ishl K,
   ss_ishr K,
   ss_iushr K,
   ss_idiv K,
   ss_irem K,
   ss_ineg K,
   ss_ladd K,
   ss_lsub K,
   ss_lmul K,
   ss_land K,
   ss_lor K,
   ss_lxor K,
   ss_ldiv K,
   ss_lrem K,
   ss_lshl K,
   ss_lshr K,
   ss_lushr K,
   ss_lcmp K,
   ss_i2l K,
   ss_l2i K,
   ss_i2b K,
   ss_dup K,
   ss_pop K,
   ss_dup2 K,
   ss_pop2 K,
   ss_if_eq K,
   ss_if_ne K,
   ss_if_lt K,
   ss_if_ge K,
   ss_if_gt K,
   ss_if_le K,
   ss_ic_eq K,
   ss_ic_ne K,
   ss_ic_lt K,
   ss_ic_ge K,
   ss_ic_gt K,
   ss_ic_le K,
   ss_ifnull K,
   ss_ifnullN K,
   ss_ifnonnull K,
   ss_ifnonnullN K,
   ss_goto K,
   ss_table K,
   ss_lookup K,
   ss_getI K,
   ss_getJ K,
   ss_getR K,
   ss_putI K,
   ss_putZ K,
   ss_putJ K,
   ss_putR K,
   ss_iald K,
   ss_sald K,
   ss_bald K,
   ss_zald K,
   ss_lald K,
   ss_aald K,
   ss_iast K,
   ss_bast K,
   ss_zast K,
   ss_last K,
   ss_aast K,
   ss_alen K,
   ss_slen K,
   ss_newa K,
   ss_newq K,
   ss_new K,
   ss_callS K hIH hf1 hl1,
   ss_callV K hIH hf1 hl1,
   ss_callI K hIH hf1 hl1,
   ss_objI K,
   ss_copy K,
   ss_strL K,
   ss_strC K,
   hret.1,
   hret.2.1,
   hret.2.2.1,
   hret.2.2.2.1,
   hret.2.2.2.2.1,
   hret.2.2.2.2.2,
   ss_wk K⟩
/-- the small machine is sound: what it comes to, the machine comes to -/
theorem mm_sound (l : Launch) (b qs qv B SL : Nat) (xs : Nat → Int32) (D : va_G) (dA : FieldType → ClassId) : ∀ (d y : Nat) (args : List Value) (h : mm_H) (Q : Option Value → mm_H → Prop), y < mm_T.length → Cond.code (mm_M y).1 (mm_M y).2.1 (mm_M y).2.2.1 (mm_M y).2.2.2.1 ∈ mm_TT → mm_s SL xs d y args h Q → mm_Met l b qs qv B SL xs D dA d y args h Q
  | 0, y, args, h, Q, _, _, hs => hs.elim
  | d + 1, y, args, h, Q, hy, hcd, hs => by
    obtain ⟨o1, o2, o3, ⟨o4, o5, o6⟩, o7, o8, o9⟩ := mm_ok hy
    obtain ⟨hlen, hw⟩ := hs
    refine mm_ofW (cc := (mm_M y).2.1) (maxL := (mm_M y).2.2.1) (ret := (mm_M y).2.2.2.1) o1 rfl ?_
    intro p e s m args' below meth c s₁ Bd hml hv
    obtain ⟨rfl, hSK, hHR⟩ := hv
    have hown : s.vm.findClass (mm_on (mm_M y).2.2.2.2.2.1) = some m.cls := by rw [← o8]; exact findClass_of_methodNamed Bd.named
    have hts : ∀ w ∈ mm_TT, w.before (args.map (mm_v (mm_a b qs B))).toArray s = true := fun w hw => atoms_spec (ws := mm_Wd y) Bd.pre w (List.mem_cons_of_mem _ hw)
    have hnm : meth.name = (mm_M y).1.name := (name_of_methodNamed Bd.named Bd.method).1
    have K : mm_cx p (headSpec (mm_Wd y) (mm_rm (d + 1) y)).room s m (args.map (mm_v (mm_a b qs B))).toArray meth c b qs qv B SL xs D dA (mm_M y).2.2.2.2.2.1 ((mm_M y).1.name == "<init>") (mm_M y).2.1 (mm_M y).2.2.2.2.1 (mm_am y).1 (mm_am y).2 :=
      ⟨Bd.exec, Bd.bytes, hown, hts, hSK, fun q => by rw [hnm]; simpa using q, o9, rfl, rfl, by show 6 ≤ d + 1 + 6; omega, by show 240 ≤ 60 * (d + 1) + 240; omega, by rw [hHR.2.1]; exact Nat.le_add_right _ _⟩
    have hIH := fun (y : Nat) (a : List Value) (h : mm_H) (q : Option Value → mm_H → Prop) (h1 : y < mm_T.length) (h2 : Cond.code (mm_M y).1 (mm_M y).2.1 (mm_M y).2.2.1 (mm_M y).2.2.2.1 ∈ mm_TT) (h3 : mm_s SL xs d y a h q) => mm_sound l b qs qv B SL xs D dA d y a h q h1 h2 h3
    have hC := mm_sC (l := l) (e := e) (below := below) (QW := MQ below (mm_Qc b qs B D dA Q) (args.map (mm_v (mm_a b qs B))).toArray s (mm_am y).1 (mm_am y).2 (fun q => B ≤ q)) (rt := (mm_M y).2.2.2.1) (Q := Q) (cs := mm_s SL xs d) K hIH (by show d + 7 ≤ d + 1 + 6; omega) (by show 60 * d + 300 ≤ 60 * (d + 1) + 240; omega)
      ⟨ss_iret (d := d) K Bd.returns Bd.notSynchronized, ss_zret (d := d) K Bd.returns Bd.notSynchronized, ss_lret (d := d) K Bd.returns Bd.notSynchronized, ss_aret (d := d) K Bd.returns Bd.notSynchronized, ss_aretN (d := d) K Bd.returns Bd.notSynchronized, ss_vret (d := d) K Bd.returns Bd.notSynchronized⟩
    have hgo := hw _ hC s.heap [] _ hHR va_S.rf (by rw [hml]; exact mm_entry (mm_a b qs B) args (Nat.le_of_ble_eq_true hlen))
    rw [lg_entry_eq]
    exact hgo
