theorem sp_iconst (n2 : Nat) {SL : Nat} {xs : Nat → Int32} {cs : mm_Cs} {am : Nat → Nat × Nat} {cd : List (Nat × mm_R)} {mc ms : Nat} {rt : Option FieldType} {Q : Option Value → mm_H → Prop} {pc : Nat} {L : mm_L} {h : mm_H} {c s : Nat} {n : Int} {st : List Value} (hd : cd.lookup pc = some (.iconst n, 1, 0, 0, 0, 0)) (hp : (pc + 1) = n2) (k0 : mm_w SL xs cs am cd mc ms rt Q n2 L (.int (Int32.ofInt n) :: st) h c s) : mm_w SL xs cs am cd mc ms rt Q pc L st h c s := by
  subst hp
  exact st_iconst hd k0
theorem sp_bipush (n2 : Nat) {SL : Nat} {xs : Nat → Int32} {cs : mm_Cs} {am : Nat → Nat × Nat} {cd : List (Nat × mm_R)} {mc ms : Nat} {rt : Option FieldType} {Q : Option Value → mm_H → Prop} {pc : Nat} {L : mm_L} {h : mm_H} {c s : Nat} {n : Int} {st : List Value} (hd : cd.lookup pc = some (.bipush n, 2, 0, 0, 0, 0)) (hp : (pc + 2) = n2) (k0 : mm_w SL xs cs am cd mc ms rt Q n2 L (.int (Int8.ofInt n).toInt32 :: st) h c s) : mm_w SL xs cs am cd mc ms rt Q pc L st h c s := by
  subst hp
  exact st_bipush hd k0
theorem sp_sipush (n2 : Nat) {SL : Nat} {xs : Nat → Int32} {cs : mm_Cs} {am : Nat → Nat × Nat} {cd : List (Nat × mm_R)} {mc ms : Nat} {rt : Option FieldType} {Q : Option Value → mm_H → Prop} {pc : Nat} {L : mm_L} {h : mm_H} {c s : Nat} {n : Int} {st : List Value} (hd : cd.lookup pc = some (.sipush n, 3, 0, 0, 0, 0)) (hp : (pc + 3) = n2) (k0 : mm_w SL xs cs am cd mc ms rt Q n2 L (.int (Int16.ofInt n).toInt32 :: st) h c s) : mm_w SL xs cs am cd mc ms rt Q pc L st h c s := by
  subst hp
  exact st_sipush hd k0
theorem sp_lconst (n2 : Nat) {SL : Nat} {xs : Nat → Int32} {cs : mm_Cs} {am : Nat → Nat × Nat} {cd : List (Nat × mm_R)} {mc ms : Nat} {rt : Option FieldType} {Q : Option Value → mm_H → Prop} {pc : Nat} {L : mm_L} {h : mm_H} {c s : Nat} {n : Fin 2} {st : List Value} (hd : cd.lookup pc = some (.lconst n, 1, 0, 0, 0, 0)) (hp : (pc + 1) = n2) (k0 : mm_w SL xs cs am cd mc ms rt Q n2 L (.long (Int64.ofNat n.val) :: st) h c s) : mm_w SL xs cs am cd mc ms rt Q pc L st h c s := by
  subst hp
  exact st_lconst hd k0
theorem sp_ldc (n2 : Nat) {SL : Nat} {xs : Nat → Int32} {cs : mm_Cs} {am : Nat → Nat × Nat} {cd : List (Nat × mm_R)} {mc ms : Nat} {rt : Option FieldType} {Q : Option Value → mm_H → Prop} {pc : Nat} {L : mm_L} {h : mm_H} {c s : Nat} {i : Nat} {v : Int} {st : List Value} (hd : cd.lookup pc = some (.ldc i, 2, 0, 0, 0, v)) (hp : (pc + 2) = n2) (k0 : mm_w SL xs cs am cd mc ms rt Q n2 L (.int (Int32.ofInt v) :: st) h c s) : mm_w SL xs cs am cd mc ms rt Q pc L st h c s := by
  subst hp
  exact st_ldc hd k0
theorem sp_ldcw (n2 : Nat) {SL : Nat} {xs : Nat → Int32} {cs : mm_Cs} {am : Nat → Nat × Nat} {cd : List (Nat × mm_R)} {mc ms : Nat} {rt : Option FieldType} {Q : Option Value → mm_H → Prop} {pc : Nat} {L : mm_L} {h : mm_H} {c s : Nat} {i : Nat} {v : Int} {st : List Value} (hd : cd.lookup pc = some (.ldc_w i, 3, 0, 0, 0, v)) (hp : (pc + 3) = n2) (k0 : mm_w SL xs cs am cd mc ms rt Q n2 L (.int (Int32.ofInt v) :: st) h c s) : mm_w SL xs cs am cd mc ms rt Q pc L st h c s := by
  subst hp
  exact st_ldcw hd k0
theorem sp_ldcS (n2 : Nat) {SL : Nat} {xs : Nat → Int32} {cs : mm_Cs} {am : Nat → Nat × Nat} {cd : List (Nat × mm_R)} {mc ms : Nat} {rt : Option FieldType} {Q : Option Value → mm_H → Prop} {pc : Nat} {L : mm_L} {h : mm_H} {c s : Nat} {i : Nat} {st : List Value} (hd : cd.lookup pc = some (.ldc i, 2, 1, 0, 0, 0)) (hp : (pc + 2) = n2) (k0 : mm_w SL xs cs am cd mc ms rt Q n2 L (.ref 1 :: st) h c s) : mm_w SL xs cs am cd mc ms rt Q pc L st h c s := by
  subst hp
  exact st_ldcS hd k0
theorem sp_ldc2 (n2 : Nat) {SL : Nat} {xs : Nat → Int32} {cs : mm_Cs} {am : Nat → Nat × Nat} {cd : List (Nat × mm_R)} {mc ms : Nat} {rt : Option FieldType} {Q : Option Value → mm_H → Prop} {pc : Nat} {L : mm_L} {h : mm_H} {c s : Nat} {i : Nat} {v : Int} {st : List Value} (hd : cd.lookup pc = some (.ldc2_w i, 3, 0, 0, 0, v)) (hp : (pc + 3) = n2) (k0 : mm_w SL xs cs am cd mc ms rt Q n2 L (.long (Int64.ofInt v) :: st) h c s) : mm_w SL xs cs am cd mc ms rt Q pc L st h c s := by
  subst hp
  exact st_ldc2 hd k0
theorem sp_null (n2 : Nat) {SL : Nat} {xs : Nat → Int32} {cs : mm_Cs} {am : Nat → Nat × Nat} {cd : List (Nat × mm_R)} {mc ms : Nat} {rt : Option FieldType} {Q : Option Value → mm_H → Prop} {pc : Nat} {L : mm_L} {h : mm_H} {c s : Nat} {st : List Value} (hd : cd.lookup pc = some (.aconst_null, 1, 0, 0, 0, 0)) (hp : (pc + 1) = n2) (k0 : mm_w SL xs cs am cd mc ms rt Q n2 L (.null :: st) h c s) : mm_w SL xs cs am cd mc ms rt Q pc L st h c s := by
  subst hp
  exact st_null hd k0
theorem sp_iload_n (n2 : Nat) {SL : Nat} {xs : Nat → Int32} {cs : mm_Cs} {am : Nat → Nat × Nat} {cd : List (Nat × mm_R)} {mc ms : Nat} {rt : Option FieldType} {Q : Option Value → mm_H → Prop} {pc : Nat} {L : mm_L} {h : mm_H} {c s : Nat} {k : Fin 4} {x : Int32} {st : List Value} (hd : cd.lookup pc = some (.iload_n k, 1, 0, 0, 0, 0)) (h0 : mm_g L k.val = some (.int x)) (hp : (pc + 1) = n2) (k0 : mm_w SL xs cs am cd mc ms rt Q n2 L (.int x :: st) h c s) : mm_w SL xs cs am cd mc ms rt Q pc L st h c s := by
  subst hp
  exact st_iload_n hd h0 k0
theorem sp_iload (n2 : Nat) {SL : Nat} {xs : Nat → Int32} {cs : mm_Cs} {am : Nat → Nat × Nat} {cd : List (Nat × mm_R)} {mc ms : Nat} {rt : Option FieldType} {Q : Option Value → mm_H → Prop} {pc : Nat} {L : mm_L} {h : mm_H} {c s : Nat} {k : Nat} {x : Int32} {st : List Value} (hd : cd.lookup pc = some (.iload k, 2, 0, 0, 0, 0)) (h0 : mm_g L k = some (.int x)) (hp : (pc + 2) = n2) (k0 : mm_w SL xs cs am cd mc ms rt Q n2 L (.int x :: st) h c s) : mm_w SL xs cs am cd mc ms rt Q pc L st h c s := by
  subst hp
  exact st_iload hd h0 k0
theorem sp_istore_n (n2 : Nat) {SL : Nat} {xs : Nat → Int32} {cs : mm_Cs} {am : Nat → Nat × Nat} {cd : List (Nat × mm_R)} {mc ms : Nat} {rt : Option FieldType} {Q : Option Value → mm_H → Prop} {pc : Nat} {L : mm_L} {h : mm_H} {c s : Nat} {k : Fin 4} {x : Int32} {st : List Value} (hd : cd.lookup pc = some (.istore_n k, 1, 0, 0, 0, 0)) (h0 : Nat.ble (k.val + 1) L.length = true) (hp : (pc + 1) = n2) (k0 : mm_w SL xs cs am cd mc ms rt Q n2 (mm_s1 L k.val (.int x)) st h c s) : mm_w SL xs cs am cd mc ms rt Q pc L (.int x :: st) h c s := by
  subst hp
  exact st_istore_n hd h0 k0
theorem sp_istore (n2 : Nat) {SL : Nat} {xs : Nat → Int32} {cs : mm_Cs} {am : Nat → Nat × Nat} {cd : List (Nat × mm_R)} {mc ms : Nat} {rt : Option FieldType} {Q : Option Value → mm_H → Prop} {pc : Nat} {L : mm_L} {h : mm_H} {c s : Nat} {k : Nat} {x : Int32} {st : List Value} (hd : cd.lookup pc = some (.istore k, 2, 0, 0, 0, 0)) (h0 : Nat.ble (k + 1) L.length = true) (hp : (pc + 2) = n2) (k0 : mm_w SL xs cs am cd mc ms rt Q n2 (mm_s1 L k (.int x)) st h c s) : mm_w SL xs cs am cd mc ms rt Q pc L (.int x :: st) h c s := by
  subst hp
  exact st_istore hd h0 k0
theorem sp_lload_n (n2 : Nat) {SL : Nat} {xs : Nat → Int32} {cs : mm_Cs} {am : Nat → Nat × Nat} {cd : List (Nat × mm_R)} {mc ms : Nat} {rt : Option FieldType} {Q : Option Value → mm_H → Prop} {pc : Nat} {L : mm_L} {h : mm_H} {c s : Nat} {k : Fin 4} {x : Int64} {st : List Value} (hd : cd.lookup pc = some (.lload_n k, 1, 0, 0, 0, 0)) (h0 : mm_g L k.val = some (.long x)) (hp : (pc + 1) = n2) (k0 : mm_w SL xs cs am cd mc ms rt Q n2 L (.long x :: st) h c s) : mm_w SL xs cs am cd mc ms rt Q pc L st h c s := by
  subst hp
  exact st_lload_n hd h0 k0
theorem sp_lload (n2 : Nat) {SL : Nat} {xs : Nat → Int32} {cs : mm_Cs} {am : Nat → Nat × Nat} {cd : List (Nat × mm_R)} {mc ms : Nat} {rt : Option FieldType} {Q : Option Value → mm_H → Prop} {pc : Nat} {L : mm_L} {h : mm_H} {c s : Nat} {k : Nat} {x : Int64} {st : List Value} (hd : cd.lookup pc = some (.lload k, 2, 0, 0, 0, 0)) (h0 : mm_g L k = some (.long x)) (hp : (pc + 2) = n2) (k0 : mm_w SL xs cs am cd mc ms rt Q n2 L (.long x :: st) h c s) : mm_w SL xs cs am cd mc ms rt Q pc L st h c s := by
  subst hp
  exact st_lload hd h0 k0
theorem sp_lstore_n (n2 : Nat) {SL : Nat} {xs : Nat → Int32} {cs : mm_Cs} {am : Nat → Nat × Nat} {cd : List (Nat × mm_R)} {mc ms : Nat} {rt : Option FieldType} {Q : Option Value → mm_H → Prop} {pc : Nat} {L : mm_L} {h : mm_H} {c s : Nat} {k : Fin 4} {x : Int64} {st : List Value} (hd : cd.lookup pc = some (.lstore_n k, 1, 0, 0, 0, 0)) (h0 : Nat.ble (k.val + 2) L.length = true) (hp : (pc + 1) = n2) (k0 : mm_w SL xs cs am cd mc ms rt Q n2 (mm_s2 L k.val (.long x)) st h c s) : mm_w SL xs cs am cd mc ms rt Q pc L (.long x :: st) h c s := by
  subst hp
  exact st_lstore_n hd h0 k0
theorem sp_lstore (n2 : Nat) {SL : Nat} {xs : Nat → Int32} {cs : mm_Cs} {am : Nat → Nat × Nat} {cd : List (Nat × mm_R)} {mc ms : Nat} {rt : Option FieldType} {Q : Option Value → mm_H → Prop} {pc : Nat} {L : mm_L} {h : mm_H} {c s : Nat} {k : Nat} {x : Int64} {st : List Value} (hd : cd.lookup pc = some (.lstore k, 2, 0, 0, 0, 0)) (h0 : Nat.ble (k + 2) L.length = true) (hp : (pc + 2) = n2) (k0 : mm_w SL xs cs am cd mc ms rt Q n2 (mm_s2 L k (.long x)) st h c s) : mm_w SL xs cs am cd mc ms rt Q pc L (.long x :: st) h c s := by
  subst hp
  exact st_lstore hd h0 k0
theorem sp_aload_n (n2 : Nat) {SL : Nat} {xs : Nat → Int32} {cs : mm_Cs} {am : Nat → Nat × Nat} {cd : List (Nat × mm_R)} {mc ms : Nat} {rt : Option FieldType} {Q : Option Value → mm_H → Prop} {pc : Nat} {L : mm_L} {h : mm_H} {c s : Nat} {k : Fin 4} {x : Nat} {st : List Value} (hd : cd.lookup pc = some (.aload_n k, 1, 0, 0, 0, 0)) (h0 : mm_g L k.val = some (.ref x)) (hp : (pc + 1) = n2) (k0 : mm_w SL xs cs am cd mc ms rt Q n2 L (.ref x :: st) h c s) : mm_w SL xs cs am cd mc ms rt Q pc L st h c s := by
  subst hp
  exact st_aload_n hd h0 k0
theorem sp_aload (n2 : Nat) {SL : Nat} {xs : Nat → Int32} {cs : mm_Cs} {am : Nat → Nat × Nat} {cd : List (Nat × mm_R)} {mc ms : Nat} {rt : Option FieldType} {Q : Option Value → mm_H → Prop} {pc : Nat} {L : mm_L} {h : mm_H} {c s : Nat} {k : Nat} {x : Nat} {st : List Value} (hd : cd.lookup pc = some (.aload k, 2, 0, 0, 0, 0)) (h0 : mm_g L k = some (.ref x)) (hp : (pc + 2) = n2) (k0 : mm_w SL xs cs am cd mc ms rt Q n2 L (.ref x :: st) h c s) : mm_w SL xs cs am cd mc ms rt Q pc L st h c s := by
  subst hp
  exact st_aload hd h0 k0
theorem sp_astore_n (n2 : Nat) {SL : Nat} {xs : Nat → Int32} {cs : mm_Cs} {am : Nat → Nat × Nat} {cd : List (Nat × mm_R)} {mc ms : Nat} {rt : Option FieldType} {Q : Option Value → mm_H → Prop} {pc : Nat} {L : mm_L} {h : mm_H} {c s : Nat} {k : Fin 4} {x : Nat} {st : List Value} (hd : cd.lookup pc = some (.astore_n k, 1, 0, 0, 0, 0)) (h0 : Nat.ble (k.val + 1) L.length = true) (hp : (pc + 1) = n2) (k0 : mm_w SL xs cs am cd mc ms rt Q n2 (mm_s1 L k.val (.ref x)) st h c s) : mm_w SL xs cs am cd mc ms rt Q pc L (.ref x :: st) h c s := by
  subst hp
  exact st_astore_n hd h0 k0
theorem sp_astore (n2 : Nat) {SL : Nat} {xs : Nat → Int32} {cs : mm_Cs} {am : Nat → Nat × Nat} {cd : List (Nat × mm_R)} {mc ms : Nat} {rt : Option FieldType} {Q : Option Value → mm_H → Prop} {pc : Nat} {L : mm_L} {h : mm_H} {c s : Nat} {k : Nat} {x : Nat} {st : List Value} (hd : cd.lookup pc = some (.astore k, 2, 0, 0, 0, 0)) (h0 : Nat.ble (k + 1) L.length = true) (hp : (pc + 2) = n2) (k0 : mm_w SL xs cs am cd mc ms rt Q n2 (mm_s1 L k (.ref x)) st h c s) : mm_w SL xs cs am cd mc ms rt Q pc L (.ref x :: st) h c s := by
  subst hp
  exact st_astore hd h0 k0
theorem sp_aload_nN (n2 : Nat) {SL : Nat} {xs : Nat → Int32} {cs : mm_Cs} {am : Nat → Nat × Nat} {cd : List (Nat × mm_R)} {mc ms : Nat} {rt : Option FieldType} {Q : Option Value → mm_H → Prop} {pc : Nat} {L : mm_L} {h : mm_H} {c s : Nat} {k : Fin 4} {st : List Value} (hd : cd.lookup pc = some (.aload_n k, 1, 0, 0, 0, 0)) (h0 : mm_g L k.val = some .null) (hp : (pc + 1) = n2) (k0 : mm_w SL xs cs am cd mc ms rt Q n2 L (.null :: st) h c s) : mm_w SL xs cs am cd mc ms rt Q pc L st h c s := by
  subst hp
  exact st_aload_nN hd h0 k0
theorem sp_aloadN (n2 : Nat) {SL : Nat} {xs : Nat → Int32} {cs : mm_Cs} {am : Nat → Nat × Nat} {cd : List (Nat × mm_R)} {mc ms : Nat} {rt : Option FieldType} {Q : Option Value → mm_H → Prop} {pc : Nat} {L : mm_L} {h : mm_H} {c s : Nat} {k : Nat} {st : List Value} (hd : cd.lookup pc = some (.aload k, 2, 0, 0, 0, 0)) (h0 : mm_g L k = some .null) (hp : (pc + 2) = n2) (k0 : mm_w SL xs cs am cd mc ms rt Q n2 L (.null :: st) h c s) : mm_w SL xs cs am cd mc ms rt Q pc L st h c s := by
  subst hp
  exact st_aloadN hd h0 k0
theorem sp_astore_nN (n2 : Nat) {SL : Nat} {xs : Nat → Int32} {cs : mm_Cs} {am : Nat → Nat × Nat} {cd : List (Nat × mm_R)} {mc ms : Nat} {rt : Option FieldType} {Q : Option Value → mm_H → Prop} {pc : Nat} {L : mm_L} {h : mm_H} {c s : Nat} {k : Fin 4} {st : List Value} (hd : cd.lookup pc = some (.astore_n k, 1, 0, 0, 0, 0)) (h0 : Nat.ble (k.val + 1) L.length = true) (hp : (pc + 1) = n2) (k0 : mm_w SL xs cs am cd mc ms rt Q n2 (mm_s1 L k.val .null) st h c s) : mm_w SL xs cs am cd mc ms rt Q pc L (.null :: st) h c s := by
  subst hp
  exact st_astore_nN hd h0 k0
theorem sp_astoreN (n2 : Nat) {SL : Nat} {xs : Nat → Int32} {cs : mm_Cs} {am : Nat → Nat × Nat} {cd : List (Nat × mm_R)} {mc ms : Nat} {rt : Option FieldType} {Q : Option Value → mm_H → Prop} {pc : Nat} {L : mm_L} {h : mm_H} {c s : Nat} {k : Nat} {st : List Value} (hd : cd.lookup pc = some (.astore k, 2, 0, 0, 0, 0)) (h0 : Nat.ble (k + 1) L.length = true) (hp : (pc + 2) = n2) (k0 : mm_w SL xs cs am cd mc ms rt Q n2 (mm_s1 L k .null) st h c s) : mm_w SL xs cs am cd mc ms rt Q pc L (.null :: st) h c s := by
  subst hp
  exact st_astoreN hd h0 k0
theorem sp_iinc (n2 : Nat) {SL : Nat} {xs : Nat → Int32} {cs : mm_Cs} {am : Nat → Nat × Nat} {cd : List (Nat × mm_R)} {mc ms : Nat} {rt : Option FieldType} {Q : Option Value → mm_H → Prop} {pc : Nat} {L : mm_L} {h : mm_H} {c s : Nat} {k : Nat} {n : Int} {x : Int32} {st : List Value} (hd : cd.lookup pc = some (.iinc k n, 3, 0, 0, 0, 0)) (h0 : mm_g L k = some (.int x)) (h1 : Nat.ble (k + 1) L.length = true) (hp : (pc + 3) = n2) (k0 : mm_w SL xs cs am cd mc ms rt Q n2 (mm_s1 L k (.int (x + Int32.ofInt n))) st h c s) : mm_w SL xs cs am cd mc ms rt Q pc L st h c s := by
  subst hp
  exact st_iinc hd h0 h1 k0
theorem sp_iadd (n2 : Nat) {SL : Nat} {xs : Nat → Int32} {cs : mm_Cs} {am : Nat → Nat × Nat} {cd : List (Nat × mm_R)} {mc ms : Nat} {rt : Option FieldType} {Q : Option Value → mm_H → Prop} {pc : Nat} {L : mm_L} {h : mm_H} {c s : Nat} {x y : Int32} {st : List Value} (hd : cd.lookup pc = some (.iadd, 1, 0, 0, 0, 0)) (hp : (pc + 1) = n2) (k0 : mm_w SL xs cs am cd mc ms rt Q n2 L (.int (x + y) :: st) h c s) : mm_w SL xs cs am cd mc ms rt Q pc L (.int y :: .int x :: st) h c s := by
  subst hp
  exact st_iadd hd k0
theorem sp_isub (n2 : Nat) {SL : Nat} {xs : Nat → Int32} {cs : mm_Cs} {am : Nat → Nat × Nat} {cd : List (Nat × mm_R)} {mc ms : Nat} {rt : Option FieldType} {Q : Option Value → mm_H → Prop} {pc : Nat} {L : mm_L} {h : mm_H} {c s : Nat} {x y : Int32} {st : List Value} (hd : cd.lookup pc = some (.isub, 1, 0, 0, 0, 0)) (hp : (pc + 1) = n2) (k0 : mm_w SL xs cs am cd mc ms rt Q n2 L (.int (x - y) :: st) h c s) : mm_w SL xs cs am cd mc ms rt Q pc L (.int y :: .int x :: st) h c s := by
  subst hp
  exact st_isub hd k0
theorem sp_imul (n2 : Nat) {SL : Nat} {xs : Nat → Int32} {cs : mm_Cs} {am : Nat → Nat × Nat} {cd : List (Nat × mm_R)} {mc ms : Nat} {rt : Option FieldType} {Q : Option Value → mm_H → Prop} {pc : Nat} {L : mm_L} {h : mm_H} {c s : Nat} {x y : Int32} {st : List Value} (hd : cd.lookup pc = some (.imul, 1, 0, 0, 0, 0)) (hp : (pc + 1) = n2) (k0 : mm_w SL xs cs am cd mc ms rt Q n2 L (.int (x * y) :: st) h c s) : mm_w SL xs cs am cd mc ms rt Q pc L (.int y :: .int x :: st) h c s := by
  subst hp
  exact st_imul hd k0
theorem sp_iand (n2 : Nat) {SL : Nat} {xs : Nat → Int32} {cs : mm_Cs} {am : Nat → Nat × Nat} {cd : List (Nat × mm_R)} {mc ms : Nat} {rt : Option FieldType} {Q : Option Value → mm_H → Prop} {pc : Nat} {L : mm_L} {h : mm_H} {c s : Nat} {x y : Int32} {st : List Value} (hd : cd.lookup pc = some (.iand, 1, 0, 0, 0, 0)) (hp : (pc + 1) = n2) (k0 : mm_w SL xs cs am cd mc ms rt Q n2 L (.int (x &&& y) :: st) h c s) : mm_w SL xs cs am cd mc ms rt Q pc L (.int y :: .int x :: st) h c s := by
  subst hp
  exact st_iand hd k0
theorem sp_ior (n2 : Nat) {SL : Nat} {xs : Nat → Int32} {cs : mm_Cs} {am : Nat → Nat × Nat} {cd : List (Nat × mm_R)} {mc ms : Nat} {rt : Option FieldType} {Q : Option Value → mm_H → Prop} {pc : Nat} {L : mm_L} {h : mm_H} {c s : Nat} {x y : Int32} {st : List Value} (hd : cd.lookup pc = some (.ior, 1, 0, 0, 0, 0)) (hp : (pc + 1) = n2) (k0 : mm_w SL xs cs am cd mc ms rt Q n2 L (.int (x ||| y) :: st) h c s) : mm_w SL xs cs am cd mc ms rt Q pc L (.int y :: .int x :: st) h c s := by
  subst hp
  exact st_ior hd k0
theorem sp_ixor (n2 : Nat) {SL : Nat} {xs : Nat → Int32} {cs : mm_Cs} {am : Nat → Nat × Nat} {cd : List (Nat × mm_R)} {mc ms : Nat} {rt : Option FieldType} {Q : Option Value → mm_H → Prop} {pc : Nat} {L : mm_L} {h : mm_H} {c s : Nat} {x y : Int32} {st : List Value} (hd : cd.lookup pc = some (.ixor, 1, 0, 0, 0, 0)) (hp : (pc + 1) = n2) (k0 : mm_w SL xs cs am cd mc ms rt Q n2 L (.int (x ^^^ y) :: st) h c s) : mm_w SL xs cs am cd mc ms rt Q pc L (.int y :: .int x :: st) h c s := by
  subst hp
  exact st_ixor hd k0
theorem sp_ishl (n2 : Nat) {SL : Nat} {xs : Nat → Int32} {cs : mm_Cs} {am : Nat → Nat × Nat} {cd : List (Nat × mm_R)} {mc ms : Nat} {rt : Option FieldType} {Q : Option Value → mm_H → Prop} {pc : Nat} {L : mm_L} {h : mm_H} {c s : Nat} {x y : Int32} {st : List Value} (hd : cd.lookup pc = some (.ishl, 1, 0, 0, 0, 0)) (hp : (pc + 1) = n2) (k0 : mm_w SL xs cs am cd mc ms rt Q n2 L (.int (x <<< (y &&& 31)) :: st) h c s) : mm_w SL xs cs am cd mc ms rt Q pc L (.int y :: .int x :: st) h c s := by
  subst hp
  exact st_ishl hd k0
theorem sp_ishr (n2 : Nat) {SL : Nat} {xs : Nat → Int32} {cs : mm_Cs} {am : Nat → Nat × Nat} {cd : List (Nat × mm_R)} {mc ms : Nat} {rt : Option FieldType} {Q : Option Value → mm_H → Prop} {pc : Nat} {L : mm_L} {h : mm_H} {c s : Nat} {x y : Int32} {st : List Value} (hd : cd.lookup pc = some (.ishr, 1, 0, 0, 0, 0)) (hp : (pc + 1) = n2) (k0 : mm_w SL xs cs am cd mc ms rt Q n2 L (.int (x >>> (y &&& 31)) :: st) h c s) : mm_w SL xs cs am cd mc ms rt Q pc L (.int y :: .int x :: st) h c s := by
  subst hp
  exact st_ishr hd k0
theorem sp_iushr (n2 : Nat) {SL : Nat} {xs : Nat → Int32} {cs : mm_Cs} {am : Nat → Nat × Nat} {cd : List (Nat × mm_R)} {mc ms : Nat} {rt : Option FieldType} {Q : Option Value → mm_H → Prop} {pc : Nat} {L : mm_L} {h : mm_H} {c s : Nat} {x y : Int32} {st : List Value} (hd : cd.lookup pc = some (.iushr, 1, 0, 0, 0, 0)) (hp : (pc + 1) = n2) (k0 : mm_w SL xs cs am cd mc ms rt Q n2 L (.int ((x.toUInt32 >>> (y.toUInt32 &&& Int32.toUInt32 31)).toInt32) :: st) h c s) : mm_w SL xs cs am cd mc ms rt Q pc L (.int y :: .int x :: st) h c s := by
  subst hp
  exact st_iushr hd k0
theorem sp_idiv (n2 : Nat) {SL : Nat} {xs : Nat → Int32} {cs : mm_Cs} {am : Nat → Nat × Nat} {cd : List (Nat × mm_R)} {mc ms : Nat} {rt : Option FieldType} {Q : Option Value → mm_H → Prop} {pc : Nat} {L : mm_L} {h : mm_H} {c s : Nat} {x y : Int32} {st : List Value} (hd : cd.lookup pc = some (.idiv, 1, 0, 0, 0, 0)) (h0 : ¬ y = 0) (hp : (pc + 1) = n2) (k0 : mm_w SL xs cs am cd mc ms rt Q n2 L (.int (x / y) :: st) h c s) : mm_w SL xs cs am cd mc ms rt Q pc L (.int y :: .int x :: st) h c s := by
  subst hp
  exact st_idiv hd h0 k0
theorem sp_irem (n2 : Nat) {SL : Nat} {xs : Nat → Int32} {cs : mm_Cs} {am : Nat → Nat × Nat} {cd : List (Nat × mm_R)} {mc ms : Nat} {rt : Option FieldType} {Q : Option Value → mm_H → Prop} {pc : Nat} {L : mm_L} {h : mm_H} {c s : Nat} {x y : Int32} {st : List Value} (hd : cd.lookup pc = some (.irem, 1, 0, 0, 0, 0)) (h0 : ¬ y = 0) (hp : (pc + 1) = n2) (k0 : mm_w SL xs cs am cd mc ms rt Q n2 L (.int (x - x / y * y) :: st) h c s) : mm_w SL xs cs am cd mc ms rt Q pc L (.int y :: .int x :: st) h c s := by
  subst hp
  exact st_irem hd h0 k0
theorem sp_ineg (n2 : Nat) {SL : Nat} {xs : Nat → Int32} {cs : mm_Cs} {am : Nat → Nat × Nat} {cd : List (Nat × mm_R)} {mc ms : Nat} {rt : Option FieldType} {Q : Option Value → mm_H → Prop} {pc : Nat} {L : mm_L} {h : mm_H} {c s : Nat} {x : Int32} {st : List Value} (hd : cd.lookup pc = some (.ineg, 1, 0, 0, 0, 0)) (hp : (pc + 1) = n2) (k0 : mm_w SL xs cs am cd mc ms rt Q n2 L (.int (-x) :: st) h c s) : mm_w SL xs cs am cd mc ms rt Q pc L (.int x :: st) h c s := by
  subst hp
  exact st_ineg hd k0
theorem sp_ladd (n2 : Nat) {SL : Nat} {xs : Nat → Int32} {cs : mm_Cs} {am : Nat → Nat × Nat} {cd : List (Nat × mm_R)} {mc ms : Nat} {rt : Option FieldType} {Q : Option Value → mm_H → Prop} {pc : Nat} {L : mm_L} {h : mm_H} {c s : Nat} {x y : Int64} {st : List Value} (hd : cd.lookup pc = some (.ladd, 1, 0, 0, 0, 0)) (hp : (pc + 1) = n2) (k0 : mm_w SL xs cs am cd mc ms rt Q n2 L (.long (x + y) :: st) h c s) : mm_w SL xs cs am cd mc ms rt Q pc L (.long y :: .long x :: st) h c s := by
  subst hp
  exact st_ladd hd k0
theorem sp_lsub (n2 : Nat) {SL : Nat} {xs : Nat → Int32} {cs : mm_Cs} {am : Nat → Nat × Nat} {cd : List (Nat × mm_R)} {mc ms : Nat} {rt : Option FieldType} {Q : Option Value → mm_H → Prop} {pc : Nat} {L : mm_L} {h : mm_H} {c s : Nat} {x y : Int64} {st : List Value} (hd : cd.lookup pc = some (.lsub, 1, 0, 0, 0, 0)) (hp : (pc + 1) = n2) (k0 : mm_w SL xs cs am cd mc ms rt Q n2 L (.long (x - y) :: st) h c s) : mm_w SL xs cs am cd mc ms rt Q pc L (.long y :: .long x :: st) h c s := by
  subst hp
  exact st_lsub hd k0
theorem sp_lmul (n2 : Nat) {SL : Nat} {xs : Nat → Int32} {cs : mm_Cs} {am : Nat → Nat × Nat} {cd : List (Nat × mm_R)} {mc ms : Nat} {rt : Option FieldType} {Q : Option Value → mm_H → Prop} {pc : Nat} {L : mm_L} {h : mm_H} {c s : Nat} {x y : Int64} {st : List Value} (hd : cd.lookup pc = some (.lmul, 1, 0, 0, 0, 0)) (hp : (pc + 1) = n2) (k0 : mm_w SL xs cs am cd mc ms rt Q n2 L (.long (x * y) :: st) h c s) : mm_w SL xs cs am cd mc ms rt Q pc L (.long y :: .long x :: st) h c s := by
  subst hp
  exact st_lmul hd k0
theorem sp_land (n2 : Nat) {SL : Nat} {xs : Nat → Int32} {cs : mm_Cs} {am : Nat → Nat × Nat} {cd : List (Nat × mm_R)} {mc ms : Nat} {rt : Option FieldType} {Q : Option Value → mm_H → Prop} {pc : Nat} {L : mm_L} {h : mm_H} {c s : Nat} {x y : Int64} {st : List Value} (hd : cd.lookup pc = some (.land, 1, 0, 0, 0, 0)) (hp : (pc + 1) = n2) (k0 : mm_w SL xs cs am cd mc ms rt Q n2 L (.long (x &&& y) :: st) h c s) : mm_w SL xs cs am cd mc ms rt Q pc L (.long y :: .long x :: st) h c s := by
  subst hp
  exact st_land hd k0
theorem sp_lor (n2 : Nat) {SL : Nat} {xs : Nat → Int32} {cs : mm_Cs} {am : Nat → Nat × Nat} {cd : List (Nat × mm_R)} {mc ms : Nat} {rt : Option FieldType} {Q : Option Value → mm_H → Prop} {pc : Nat} {L : mm_L} {h : mm_H} {c s : Nat} {x y : Int64} {st : List Value} (hd : cd.lookup pc = some (.lor, 1, 0, 0, 0, 0)) (hp : (pc + 1) = n2) (k0 : mm_w SL xs cs am cd mc ms rt Q n2 L (.long (x ||| y) :: st) h c s) : mm_w SL xs cs am cd mc ms rt Q pc L (.long y :: .long x :: st) h c s := by
  subst hp
  exact st_lor hd k0
theorem sp_lxor (n2 : Nat) {SL : Nat} {xs : Nat → Int32} {cs : mm_Cs} {am : Nat → Nat × Nat} {cd : List (Nat × mm_R)} {mc ms : Nat} {rt : Option FieldType} {Q : Option Value → mm_H → Prop} {pc : Nat} {L : mm_L} {h : mm_H} {c s : Nat} {x y : Int64} {st : List Value} (hd : cd.lookup pc = some (.lxor, 1, 0, 0, 0, 0)) (hp : (pc + 1) = n2) (k0 : mm_w SL xs cs am cd mc ms rt Q n2 L (.long (x ^^^ y) :: st) h c s) : mm_w SL xs cs am cd mc ms rt Q pc L (.long y :: .long x :: st) h c s := by
  subst hp
  exact st_lxor hd k0
theorem sp_ldiv (n2 : Nat) {SL : Nat} {xs : Nat → Int32} {cs : mm_Cs} {am : Nat → Nat × Nat} {cd : List (Nat × mm_R)} {mc ms : Nat} {rt : Option FieldType} {Q : Option Value → mm_H → Prop} {pc : Nat} {L : mm_L} {h : mm_H} {c s : Nat} {x y : Int64} {st : List Value} (hd : cd.lookup pc = some (.ldiv, 1, 0, 0, 0, 0)) (h0 : ¬ y = 0) (hp : (pc + 1) = n2) (k0 : mm_w SL xs cs am cd mc ms rt Q n2 L (.long (x / y) :: st) h c s) : mm_w SL xs cs am cd mc ms rt Q pc L (.long y :: .long x :: st) h c s := by
  subst hp
  exact st_ldiv hd h0 k0
theorem sp_lrem (n2 : Nat) {SL : Nat} {xs : Nat → Int32} {cs : mm_Cs} {am : Nat → Nat × Nat} {cd : List (Nat × mm_R)} {mc ms : Nat} {rt : Option FieldType} {Q : Option Value → mm_H → Prop} {pc : Nat} {L : mm_L} {h : mm_H} {c s : Nat} {x y : Int64} {st : List Value} (hd : cd.lookup pc = some (.lrem, 1, 0, 0, 0, 0)) (h0 : ¬ y = 0) (hp : (pc + 1) = n2) (k0 : mm_w SL xs cs am cd mc ms rt Q n2 L (.long (x - x / y * y) :: st) h c s) : mm_w SL xs cs am cd mc ms rt Q pc L (.long y :: .long x :: st) h c s := by
  subst hp
  exact st_lrem hd h0 k0
theorem sp_lshl (n2 : Nat) {SL : Nat} {xs : Nat → Int32} {cs : mm_Cs} {am : Nat → Nat × Nat} {cd : List (Nat × mm_R)} {mc ms : Nat} {rt : Option FieldType} {Q : Option Value → mm_H → Prop} {pc : Nat} {L : mm_L} {h : mm_H} {c s : Nat} {x : Int64} {y : Int32} {st : List Value} (hd : cd.lookup pc = some (.lshl, 1, 0, 0, 0, 0)) (hp : (pc + 1) = n2) (k0 : mm_w SL xs cs am cd mc ms rt Q n2 L (.long (x <<< (y.toInt64 &&& 63)) :: st) h c s) : mm_w SL xs cs am cd mc ms rt Q pc L (.int y :: .long x :: st) h c s := by
  subst hp
  exact st_lshl hd k0
theorem sp_lshr (n2 : Nat) {SL : Nat} {xs : Nat → Int32} {cs : mm_Cs} {am : Nat → Nat × Nat} {cd : List (Nat × mm_R)} {mc ms : Nat} {rt : Option FieldType} {Q : Option Value → mm_H → Prop} {pc : Nat} {L : mm_L} {h : mm_H} {c s : Nat} {x : Int64} {y : Int32} {st : List Value} (hd : cd.lookup pc = some (.lshr, 1, 0, 0, 0, 0)) (hp : (pc + 1) = n2) (k0 : mm_w SL xs cs am cd mc ms rt Q n2 L (.long (x >>> (y.toInt64 &&& 63)) :: st) h c s) : mm_w SL xs cs am cd mc ms rt Q pc L (.int y :: .long x :: st) h c s := by
  subst hp
  exact st_lshr hd k0
theorem sp_lushr (n2 : Nat) {SL : Nat} {xs : Nat → Int32} {cs : mm_Cs} {am : Nat → Nat × Nat} {cd : List (Nat × mm_R)} {mc ms : Nat} {rt : Option FieldType} {Q : Option Value → mm_H → Prop} {pc : Nat} {L : mm_L} {h : mm_H} {c s : Nat} {x : Int64} {y : Int32} {st : List Value} (hd : cd.lookup pc = some (.lushr, 1, 0, 0, 0, 0)) (hp : (pc + 1) = n2) (k0 : mm_w SL xs cs am cd mc ms rt Q n2 L (.long ((x.toUInt64 >>> (y.toInt64.toUInt64 &&& Int64.toUInt64 63)).toInt64) :: st) h c s) : mm_w SL xs cs am cd mc ms rt Q pc L (.int y :: .long x :: st) h c s := by
  subst hp
  exact st_lushr hd k0
theorem sp_lcmp (n2 : Nat) {SL : Nat} {xs : Nat → Int32} {cs : mm_Cs} {am : Nat → Nat × Nat} {cd : List (Nat × mm_R)} {mc ms : Nat} {rt : Option FieldType} {Q : Option Value → mm_H → Prop} {pc : Nat} {L : mm_L} {h : mm_H} {c s : Nat} {x y : Int64} {st : List Value} (hd : cd.lookup pc = some (.lcmp, 1, 0, 0, 0, 0)) (hp : (pc + 1) = n2) (k0 : mm_w SL xs cs am cd mc ms rt Q n2 L (.int (lg_cmp x y) :: st) h c s) : mm_w SL xs cs am cd mc ms rt Q pc L (.long y :: .long x :: st) h c s := by
  subst hp
  exact st_lcmp hd k0
theorem sp_i2l (n2 : Nat) {SL : Nat} {xs : Nat → Int32} {cs : mm_Cs} {am : Nat → Nat × Nat} {cd : List (Nat × mm_R)} {mc ms : Nat} {rt : Option FieldType} {Q : Option Value → mm_H → Prop} {pc : Nat} {L : mm_L} {h : mm_H} {c s : Nat} {x : Int32} {st : List Value} (hd : cd.lookup pc = some (.i2l, 1, 0, 0, 0, 0)) (hp : (pc + 1) = n2) (k0 : mm_w SL xs cs am cd mc ms rt Q n2 L (.long x.toInt64 :: st) h c s) : mm_w SL xs cs am cd mc ms rt Q pc L (.int x :: st) h c s := by
  subst hp
  exact st_i2l hd k0
theorem sp_l2i (n2 : Nat) {SL : Nat} {xs : Nat → Int32} {cs : mm_Cs} {am : Nat → Nat × Nat} {cd : List (Nat × mm_R)} {mc ms : Nat} {rt : Option FieldType} {Q : Option Value → mm_H → Prop} {pc : Nat} {L : mm_L} {h : mm_H} {c s : Nat} {x : Int64} {st : List Value} (hd : cd.lookup pc = some (.l2i, 1, 0, 0, 0, 0)) (hp : (pc + 1) = n2) (k0 : mm_w SL xs cs am cd mc ms rt Q n2 L (.int x.toInt32 :: st) h c s) : mm_w SL xs cs am cd mc ms rt Q pc L (.long x :: st) h c s := by
  subst hp
  exact st_l2i hd k0
theorem sp_i2b (n2 : Nat) {SL : Nat} {xs : Nat → Int32} {cs : mm_Cs} {am : Nat → Nat × Nat} {cd : List (Nat × mm_R)} {mc ms : Nat} {rt : Option FieldType} {Q : Option Value → mm_H → Prop} {pc : Nat} {L : mm_L} {h : mm_H} {c s : Nat} {x : Int32} {st : List Value} (hd : cd.lookup pc = some (.i2b, 1, 0, 0, 0, 0)) (hp : (pc + 1) = n2) (k0 : mm_w SL xs cs am cd mc ms rt Q n2 L (.int x.toInt8.toInt32 :: st) h c s) : mm_w SL xs cs am cd mc ms rt Q pc L (.int x :: st) h c s := by
  subst hp
  exact st_i2b hd k0
theorem sp_dup (n2 : Nat) {SL : Nat} {xs : Nat → Int32} {cs : mm_Cs} {am : Nat → Nat × Nat} {cd : List (Nat × mm_R)} {mc ms : Nat} {rt : Option FieldType} {Q : Option Value → mm_H → Prop} {pc : Nat} {L : mm_L} {h : mm_H} {c s : Nat} {v : Value} {st : List Value} (hd : cd.lookup pc = some (.dup, 1, 0, 0, 0, 0)) (h0 : v.category = 1) (hp : (pc + 1) = n2) (k0 : mm_w SL xs cs am cd mc ms rt Q n2 L (v :: v :: st) h c s) : mm_w SL xs cs am cd mc ms rt Q pc L (v :: st) h c s := by
  subst hp
  exact st_dup hd h0 k0
theorem sp_pop (n2 : Nat) {SL : Nat} {xs : Nat → Int32} {cs : mm_Cs} {am : Nat → Nat × Nat} {cd : List (Nat × mm_R)} {mc ms : Nat} {rt : Option FieldType} {Q : Option Value → mm_H → Prop} {pc : Nat} {L : mm_L} {h : mm_H} {c s : Nat} {v : Value} {st : List Value} (hd : cd.lookup pc = some (.pop, 1, 0, 0, 0, 0)) (h0 : v.category = 1) (hp : (pc + 1) = n2) (k0 : mm_w SL xs cs am cd mc ms rt Q n2 L st h c s) : mm_w SL xs cs am cd mc ms rt Q pc L (v :: st) h c s := by
  subst hp
  exact st_pop hd h0 k0
theorem sp_dup2 (n2 : Nat) {SL : Nat} {xs : Nat → Int32} {cs : mm_Cs} {am : Nat → Nat × Nat} {cd : List (Nat × mm_R)} {mc ms : Nat} {rt : Option FieldType} {Q : Option Value → mm_H → Prop} {pc : Nat} {L : mm_L} {h : mm_H} {c s : Nat} {v w : Value} {st : List Value} (hd : cd.lookup pc = some (.dup2, 1, 0, 0, 0, 0)) (h0 : v.category = 1) (h1 : w.category = 1) (hp : (pc + 1) = n2) (k0 : mm_w SL xs cs am cd mc ms rt Q n2 L (v :: w :: v :: w :: st) h c s) : mm_w SL xs cs am cd mc ms rt Q pc L (v :: w :: st) h c s := by
  subst hp
  exact st_dup2 hd h0 h1 k0
theorem sp_pop2 (n2 : Nat) {SL : Nat} {xs : Nat → Int32} {cs : mm_Cs} {am : Nat → Nat × Nat} {cd : List (Nat × mm_R)} {mc ms : Nat} {rt : Option FieldType} {Q : Option Value → mm_H → Prop} {pc : Nat} {L : mm_L} {h : mm_H} {c s : Nat} {v : Value} {st : List Value} (hd : cd.lookup pc = some (.pop2, 1, 0, 0, 0, 0)) (h0 : v.category = 2) (hp : (pc + 1) = n2) (k0 : mm_w SL xs cs am cd mc ms rt Q n2 L st h c s) : mm_w SL xs cs am cd mc ms rt Q pc L (v :: st) h c s := by
  subst hp
  exact st_pop2 hd h0 k0
theorem sp_if_eq (n2 : Nat) {SL : Nat} {xs : Nat → Int32} {cs : mm_Cs} {am : Nat → Nat × Nat} {cd : List (Nat × mm_R)} {mc ms : Nat} {rt : Option FieldType} {Q : Option Value → mm_H → Prop} {pc : Nat} {L : mm_L} {h : mm_H} {c s : Nat} {off : Int} {t : Nat} {x : Int32} {st : List Value} (hd : cd.lookup pc = some (.ifCond .eq off, 3, t, 0, 0, 0)) (hp : (pc + 3) = n2) (k0 : (x = 0) → mm_w SL xs cs am cd mc ms rt Q t L st h c s) (k1 : (¬ x = 0) → mm_w SL xs cs am cd mc ms rt Q n2 L st h c s) : mm_w SL xs cs am cd mc ms rt Q pc L (.int x :: st) h c s := by
  subst hp
  exact st_if_eq hd k0 k1
theorem sp_if_ne (n2 : Nat) {SL : Nat} {xs : Nat → Int32} {cs : mm_Cs} {am : Nat → Nat × Nat} {cd : List (Nat × mm_R)} {mc ms : Nat} {rt : Option FieldType} {Q : Option Value → mm_H → Prop} {pc : Nat} {L : mm_L} {h : mm_H} {c s : Nat} {off : Int} {t : Nat} {x : Int32} {st : List Value} (hd : cd.lookup pc = some (.ifCond .ne off, 3, t, 0, 0, 0)) (hp : (pc + 3) = n2) (k0 : (¬ x = 0) → mm_w SL xs cs am cd mc ms rt Q t L st h c s) (k1 : (x = 0) → mm_w SL xs cs am cd mc ms rt Q n2 L st h c s) : mm_w SL xs cs am cd mc ms rt Q pc L (.int x :: st) h c s := by
  subst hp
  exact st_if_ne hd k0 k1
theorem sp_if_lt (n2 : Nat) {SL : Nat} {xs : Nat → Int32} {cs : mm_Cs} {am : Nat → Nat × Nat} {cd : List (Nat × mm_R)} {mc ms : Nat} {rt : Option FieldType} {Q : Option Value → mm_H → Prop} {pc : Nat} {L : mm_L} {h : mm_H} {c s : Nat} {off : Int} {t : Nat} {x : Int32} {st : List Value} (hd : cd.lookup pc = some (.ifCond .lt off, 3, t, 0, 0, 0)) (hp : (pc + 3) = n2) (k0 : (x < 0) → mm_w SL xs cs am cd mc ms rt Q t L st h c s) (k1 : (¬ x < 0) → mm_w SL xs cs am cd mc ms rt Q n2 L st h c s) : mm_w SL xs cs am cd mc ms rt Q pc L (.int x :: st) h c s := by
  subst hp
  exact st_if_lt hd k0 k1
theorem sp_if_ge (n2 : Nat) {SL : Nat} {xs : Nat → Int32} {cs : mm_Cs} {am : Nat → Nat × Nat} {cd : List (Nat × mm_R)} {mc ms : Nat} {rt : Option FieldType} {Q : Option Value → mm_H → Prop} {pc : Nat} {L : mm_L} {h : mm_H} {c s : Nat} {off : Int} {t : Nat} {x : Int32} {st : List Value} (hd : cd.lookup pc = some (.ifCond .ge off, 3, t, 0, 0, 0)) (hp : (pc + 3) = n2) (k0 : (0 ≤ x) → mm_w SL xs cs am cd mc ms rt Q t L st h c s) (k1 : (¬ 0 ≤ x) → mm_w SL xs cs am cd mc ms rt Q n2 L st h c s) : mm_w SL xs cs am cd mc ms rt Q pc L (.int x :: st) h c s := by
  subst hp
  exact st_if_ge hd k0 k1
theorem sp_if_gt (n2 : Nat) {SL : Nat} {xs : Nat → Int32} {cs : mm_Cs} {am : Nat → Nat × Nat} {cd : List (Nat × mm_R)} {mc ms : Nat} {rt : Option FieldType} {Q : Option Value → mm_H → Prop} {pc : Nat} {L : mm_L} {h : mm_H} {c s : Nat} {off : Int} {t : Nat} {x : Int32} {st : List Value} (hd : cd.lookup pc = some (.ifCond .gt off, 3, t, 0, 0, 0)) (hp : (pc + 3) = n2) (k0 : (0 < x) → mm_w SL xs cs am cd mc ms rt Q t L st h c s) (k1 : (¬ 0 < x) → mm_w SL xs cs am cd mc ms rt Q n2 L st h c s) : mm_w SL xs cs am cd mc ms rt Q pc L (.int x :: st) h c s := by
  subst hp
  exact st_if_gt hd k0 k1
theorem sp_if_le (n2 : Nat) {SL : Nat} {xs : Nat → Int32} {cs : mm_Cs} {am : Nat → Nat × Nat} {cd : List (Nat × mm_R)} {mc ms : Nat} {rt : Option FieldType} {Q : Option Value → mm_H → Prop} {pc : Nat} {L : mm_L} {h : mm_H} {c s : Nat} {off : Int} {t : Nat} {x : Int32} {st : List Value} (hd : cd.lookup pc = some (.ifCond .le off, 3, t, 0, 0, 0)) (hp : (pc + 3) = n2) (k0 : (x ≤ 0) → mm_w SL xs cs am cd mc ms rt Q t L st h c s) (k1 : (¬ x ≤ 0) → mm_w SL xs cs am cd mc ms rt Q n2 L st h c s) : mm_w SL xs cs am cd mc ms rt Q pc L (.int x :: st) h c s := by
  subst hp
  exact st_if_le hd k0 k1
theorem sp_ic_eq (n2 : Nat) {SL : Nat} {xs : Nat → Int32} {cs : mm_Cs} {am : Nat → Nat × Nat} {cd : List (Nat × mm_R)} {mc ms : Nat} {rt : Option FieldType} {Q : Option Value → mm_H → Prop} {pc : Nat} {L : mm_L} {h : mm_H} {c s : Nat} {off : Int} {t : Nat} {x y : Int32} {st : List Value} (hd : cd.lookup pc = some (.if_icmp .eq off, 3, t, 0, 0, 0)) (hp : (pc + 3) = n2) (k0 : (x = y) → mm_w SL xs cs am cd mc ms rt Q t L st h c s) (k1 : (¬ x = y) → mm_w SL xs cs am cd mc ms rt Q n2 L st h c s) : mm_w SL xs cs am cd mc ms rt Q pc L (.int y :: .int x :: st) h c s := by
  subst hp
  exact st_ic_eq hd k0 k1
theorem sp_ic_ne (n2 : Nat) {SL : Nat} {xs : Nat → Int32} {cs : mm_Cs} {am : Nat → Nat × Nat} {cd : List (Nat × mm_R)} {mc ms : Nat} {rt : Option FieldType} {Q : Option Value → mm_H → Prop} {pc : Nat} {L : mm_L} {h : mm_H} {c s : Nat} {off : Int} {t : Nat} {x y : Int32} {st : List Value} (hd : cd.lookup pc = some (.if_icmp .ne off, 3, t, 0, 0, 0)) (hp : (pc + 3) = n2) (k0 : (¬ x = y) → mm_w SL xs cs am cd mc ms rt Q t L st h c s) (k1 : (x = y) → mm_w SL xs cs am cd mc ms rt Q n2 L st h c s) : mm_w SL xs cs am cd mc ms rt Q pc L (.int y :: .int x :: st) h c s := by
  subst hp
  exact st_ic_ne hd k0 k1
theorem sp_ic_lt (n2 : Nat) {SL : Nat} {xs : Nat → Int32} {cs : mm_Cs} {am : Nat → Nat × Nat} {cd : List (Nat × mm_R)} {mc ms : Nat} {rt : Option FieldType} {Q : Option Value → mm_H → Prop} {pc : Nat} {L : mm_L} {h : mm_H} {c s : Nat} {off : Int} {t : Nat} {x y : Int32} {st : List Value} (hd : cd.lookup pc = some (.if_icmp .lt off, 3, t, 0, 0, 0)) (hp : (pc + 3) = n2) (k0 : (x < y) → mm_w SL xs cs am cd mc ms rt Q t L st h c s) (k1 : (¬ x < y) → mm_w SL xs cs am cd mc ms rt Q n2 L st h c s) : mm_w SL xs cs am cd mc ms rt Q pc L (.int y :: .int x :: st) h c s := by
  subst hp
  exact st_ic_lt hd k0 k1
theorem sp_ic_ge (n2 : Nat) {SL : Nat} {xs : Nat → Int32} {cs : mm_Cs} {am : Nat → Nat × Nat} {cd : List (Nat × mm_R)} {mc ms : Nat} {rt : Option FieldType} {Q : Option Value → mm_H → Prop} {pc : Nat} {L : mm_L} {h : mm_H} {c s : Nat} {off : Int} {t : Nat} {x y : Int32} {st : List Value} (hd : cd.lookup pc = some (.if_icmp .ge off, 3, t, 0, 0, 0)) (hp : (pc + 3) = n2) (k0 : (y ≤ x) → mm_w SL xs cs am cd mc ms rt Q t L st h c s) (k1 : (¬ y ≤ x) → mm_w SL xs cs am cd mc ms rt Q n2 L st h c s) : mm_w SL xs cs am cd mc ms rt Q pc L (.int y :: .int x :: st) h c s := by
  subst hp
  exact st_ic_ge hd k0 k1
theorem sp_ic_gt (n2 : Nat) {SL : Nat} {xs : Nat → Int32} {cs : mm_Cs} {am : Nat → Nat × Nat} {cd : List (Nat × mm_R)} {mc ms : Nat} {rt : Option FieldType} {Q : Option Value → mm_H → Prop} {pc : Nat} {L : mm_L} {h : mm_H} {c s : Nat} {off : Int} {t : Nat} {x y : Int32} {st : List Value} (hd : cd.lookup pc = some (.if_icmp .gt off, 3, t, 0, 0, 0)) (hp : (pc + 3) = n2) (k0 : (y < x) → mm_w SL xs cs am cd mc ms rt Q t L st h c s) (k1 : (¬ y < x) → mm_w SL xs cs am cd mc ms rt Q n2 L st h c s) : mm_w SL xs cs am cd mc ms rt Q pc L (.int y :: .int x :: st) h c s := by
  subst hp
  exact st_ic_gt hd k0 k1
theorem sp_ic_le (n2 : Nat) {SL : Nat} {xs : Nat → Int32} {cs : mm_Cs} {am : Nat → Nat × Nat} {cd : List (Nat × mm_R)} {mc ms : Nat} {rt : Option FieldType} {Q : Option Value → mm_H → Prop} {pc : Nat} {L : mm_L} {h : mm_H} {c s : Nat} {off : Int} {t : Nat} {x y : Int32} {st : List Value} (hd : cd.lookup pc = some (.if_icmp .le off, 3, t, 0, 0, 0)) (hp : (pc + 3) = n2) (k0 : (x ≤ y) → mm_w SL xs cs am cd mc ms rt Q t L st h c s) (k1 : (¬ x ≤ y) → mm_w SL xs cs am cd mc ms rt Q n2 L st h c s) : mm_w SL xs cs am cd mc ms rt Q pc L (.int y :: .int x :: st) h c s := by
  subst hp
  exact st_ic_le hd k0 k1
theorem sp_ifnull (n2 : Nat) {SL : Nat} {xs : Nat → Int32} {cs : mm_Cs} {am : Nat → Nat × Nat} {cd : List (Nat × mm_R)} {mc ms : Nat} {rt : Option FieldType} {Q : Option Value → mm_H → Prop} {pc : Nat} {L : mm_L} {h : mm_H} {c s : Nat} {off : Int} {t a : Nat} {st : List Value} (hd : cd.lookup pc = some (.ifnull off, 3, t, 0, 0, 0)) (hp : (pc + 3) = n2) (k0 : mm_w SL xs cs am cd mc ms rt Q n2 L st h c s) : mm_w SL xs cs am cd mc ms rt Q pc L (.ref a :: st) h c s := by
  subst hp
  exact st_ifnull hd k0
theorem sp_ifnullN {SL : Nat} {xs : Nat → Int32} {cs : mm_Cs} {am : Nat → Nat × Nat} {cd : List (Nat × mm_R)} {mc ms : Nat} {rt : Option FieldType} {Q : Option Value → mm_H → Prop} {pc : Nat} {L : mm_L} {h : mm_H} {c s : Nat} {off : Int} {t : Nat} {st : List Value} (hd : cd.lookup pc = some (.ifnull off, 3, t, 0, 0, 0)) (k0 : mm_w SL xs cs am cd mc ms rt Q t L st h c s) : mm_w SL xs cs am cd mc ms rt Q pc L (.null :: st) h c s := st_ifnullN hd k0
theorem sp_ifnonnull {SL : Nat} {xs : Nat → Int32} {cs : mm_Cs} {am : Nat → Nat × Nat} {cd : List (Nat × mm_R)} {mc ms : Nat} {rt : Option FieldType} {Q : Option Value → mm_H → Prop} {pc : Nat} {L : mm_L} {h : mm_H} {c s : Nat} {off : Int} {t a : Nat} {st : List Value} (hd : cd.lookup pc = some (.ifnonnull off, 3, t, 0, 0, 0)) (k0 : mm_w SL xs cs am cd mc ms rt Q t L st h c s) : mm_w SL xs cs am cd mc ms rt Q pc L (.ref a :: st) h c s := st_ifnonnull hd k0
theorem sp_ifnonnullN (n2 : Nat) {SL : Nat} {xs : Nat → Int32} {cs : mm_Cs} {am : Nat → Nat × Nat} {cd : List (Nat × mm_R)} {mc ms : Nat} {rt : Option FieldType} {Q : Option Value → mm_H → Prop} {pc : Nat} {L : mm_L} {h : mm_H} {c s : Nat} {off : Int} {t : Nat} {st : List Value} (hd : cd.lookup pc = some (.ifnonnull off, 3, t, 0, 0, 0)) (hp : (pc + 3) = n2) (k0 : mm_w SL xs cs am cd mc ms rt Q n2 L st h c s) : mm_w SL xs cs am cd mc ms rt Q pc L (.null :: st) h c s := by
  subst hp
  exact st_ifnonnullN hd k0
theorem sp_goto {SL : Nat} {xs : Nat → Int32} {cs : mm_Cs} {am : Nat → Nat × Nat} {cd : List (Nat × mm_R)} {mc ms : Nat} {rt : Option FieldType} {Q : Option Value → mm_H → Prop} {pc : Nat} {L : mm_L} {h : mm_H} {c s : Nat} {off : Int} {t : Nat} {st : List Value} (hd : cd.lookup pc = some (.goto off, 3, t, 0, 0, 0)) (k0 : mm_w SL xs cs am cd mc ms rt Q t L st h c s) : mm_w SL xs cs am cd mc ms rt Q pc L st h c s := st_goto hd k0
theorem sp_table {SL : Nat} {xs : Nat → Int32} {cs : mm_Cs} {am : Nat → Nat × Nat} {cd : List (Nat × mm_R)} {mc ms : Nat} {rt : Option FieldType} {Q : Option Value → mm_H → Prop} {pc : Nat} {L : mm_L} {h : mm_H} {c s : Nat} {d lo hi : Int} {offs : Array Int} {len t : Nat} {x : Int32} {st : List Value} (hd : cd.lookup pc = some (.tableswitch d lo hi offs, len, 0, 0, 0, 0)) (h0 : mm_tab pc d lo hi offs x.toInt = (t : Int)) (k0 : mm_w SL xs cs am cd mc ms rt Q t L st h c s) : mm_w SL xs cs am cd mc ms rt Q pc L (.int x :: st) h c s := st_table hd h0 k0
theorem sp_lookup {SL : Nat} {xs : Nat → Int32} {cs : mm_Cs} {am : Nat → Nat × Nat} {cd : List (Nat × mm_R)} {mc ms : Nat} {rt : Option FieldType} {Q : Option Value → mm_H → Prop} {pc : Nat} {L : mm_L} {h : mm_H} {c s : Nat} {d : Int} {ps : Array (Int × Int)} {len t : Nat} {x : Int32} {st : List Value} (hd : cd.lookup pc = some (.lookupswitch d ps, len, 0, 0, 0, 0)) (h0 : (pc : Int) + Op.lookupswitch.offset ps.toList d x.toInt = (t : Int)) (k0 : mm_w SL xs cs am cd mc ms rt Q t L st h c s) : mm_w SL xs cs am cd mc ms rt Q pc L (.int x :: st) h c s := st_lookup hd h0 k0
theorem sp_getI (n2 : Nat) {SL : Nat} {xs : Nat → Int32} {cs : mm_Cs} {am : Nat → Nat × Nat} {cd : List (Nat × mm_R)} {mc ms : Nat} {rt : Option FieldType} {Q : Option Value → mm_H → Prop} {pc : Nat} {L : mm_L} {h : mm_H} {c s : Nat} {i ci k a : Nat} {st : List Value} (hd : cd.lookup pc = some (.getfield i, 3, ci, k, 0, 0)) (h0 : h.2.1 a = .inr ci) (hp : (pc + 3) = n2) (k0 : mm_w SL xs cs am cd mc ms rt Q n2 L (.int (h.2.2.1 a k) :: st) h c s) : mm_w SL xs cs am cd mc ms rt Q pc L (.ref a :: st) h c s := by
  subst hp
  exact st_getI hd h0 k0
theorem sp_getJ (n2 : Nat) {SL : Nat} {xs : Nat → Int32} {cs : mm_Cs} {am : Nat → Nat × Nat} {cd : List (Nat × mm_R)} {mc ms : Nat} {rt : Option FieldType} {Q : Option Value → mm_H → Prop} {pc : Nat} {L : mm_L} {h : mm_H} {c s : Nat} {i ci k a : Nat} {st : List Value} (hd : cd.lookup pc = some (.getfield i, 3, ci, k, 1, 0)) (h0 : h.2.1 a = .inr ci) (hp : (pc + 3) = n2) (k0 : mm_w SL xs cs am cd mc ms rt Q n2 L (.long (h.2.2.2.1 a k) :: st) h c s) : mm_w SL xs cs am cd mc ms rt Q pc L (.ref a :: st) h c s := by
  subst hp
  exact st_getJ hd h0 k0
theorem sp_getR (n2 : Nat) {SL : Nat} {xs : Nat → Int32} {cs : mm_Cs} {am : Nat → Nat × Nat} {cd : List (Nat × mm_R)} {mc ms : Nat} {rt : Option FieldType} {Q : Option Value → mm_H → Prop} {pc : Nat} {L : mm_L} {h : mm_H} {c s : Nat} {i ci k a : Nat} {r : Option Nat} {st : List Value} (hd : cd.lookup pc = some (.getfield i, 3, ci, k, 2, 0)) (h0 : h.2.1 a = .inr ci) (h1 : h.2.2.2.2 a k = r) (hp : (pc + 3) = n2) (k0 : mm_w SL xs cs am cd mc ms rt Q n2 L (va_rf r :: st) h c s) : mm_w SL xs cs am cd mc ms rt Q pc L (.ref a :: st) h c s := by
  subst hp
  exact st_getR hd h0 h1 k0
theorem sp_putI (n2 : Nat) {SL : Nat} {xs : Nat → Int32} {cs : mm_Cs} {am : Nat → Nat × Nat} {cd : List (Nat × mm_R)} {mc ms : Nat} {rt : Option FieldType} {Q : Option Value → mm_H → Prop} {pc : Nat} {L : mm_L} {h : mm_H} {c s : Nat} {i ci k a : Nat} {x : Int32} {st : List Value} (hd : cd.lookup pc = some (.putfield i, 3, ci, k, 0, 0)) (h0 : h.2.1 a = .inr ci) (hp : (pc + 3) = n2) (k0 : mm_w SL xs cs am cd mc ms rt Q n2 L st (mm_pI h a k x) c s) : mm_w SL xs cs am cd mc ms rt Q pc L (.int x :: .ref a :: st) h c s := by
  subst hp
  exact st_putI hd h0 k0
theorem sp_putZ (n2 : Nat) {SL : Nat} {xs : Nat → Int32} {cs : mm_Cs} {am : Nat → Nat × Nat} {cd : List (Nat × mm_R)} {mc ms : Nat} {rt : Option FieldType} {Q : Option Value → mm_H → Prop} {pc : Nat} {L : mm_L} {h : mm_H} {c s : Nat} {i ci k a : Nat} {x : Int32} {st : List Value} (hd : cd.lookup pc = some (.putfield i, 3, ci, k, 3, 0)) (h0 : h.2.1 a = .inr ci) (h1 : x = 0 ∨ x = 1) (hp : (pc + 3) = n2) (k0 : mm_w SL xs cs am cd mc ms rt Q n2 L st (mm_pI h a k x) c s) : mm_w SL xs cs am cd mc ms rt Q pc L (.int x :: .ref a :: st) h c s := by
  subst hp
  exact st_putZ hd h0 h1 k0
theorem sp_putJ (n2 : Nat) {SL : Nat} {xs : Nat → Int32} {cs : mm_Cs} {am : Nat → Nat × Nat} {cd : List (Nat × mm_R)} {mc ms : Nat} {rt : Option FieldType} {Q : Option Value → mm_H → Prop} {pc : Nat} {L : mm_L} {h : mm_H} {c s : Nat} {i ci k a : Nat} {x : Int64} {st : List Value} (hd : cd.lookup pc = some (.putfield i, 3, ci, k, 1, 0)) (h0 : h.2.1 a = .inr ci) (hp : (pc + 3) = n2) (k0 : mm_w SL xs cs am cd mc ms rt Q n2 L st (mm_pJ h a k x) c s) : mm_w SL xs cs am cd mc ms rt Q pc L (.long x :: .ref a :: st) h c s := by
  subst hp
  exact st_putJ hd h0 k0
theorem sp_putR (n2 : Nat) {SL : Nat} {xs : Nat → Int32} {cs : mm_Cs} {am : Nat → Nat × Nat} {cd : List (Nat × mm_R)} {mc ms : Nat} {rt : Option FieldType} {Q : Option Value → mm_H → Prop} {pc : Nat} {L : mm_L} {h : mm_H} {c s : Nat} {i ci k a v : Nat} {st : List Value} (hd : cd.lookup pc = some (.putfield i, 3, ci, k, 2, 0)) (h0 : h.2.1 a = .inr ci) (hp : (pc + 3) = n2) (k0 : mm_w SL xs cs am cd mc ms rt Q n2 L st (mm_pR h a k (some v)) c s) : mm_w SL xs cs am cd mc ms rt Q pc L (.ref v :: .ref a :: st) h c s := by
  subst hp
  exact st_putR hd h0 k0
theorem sp_iald (n2 : Nat) {SL : Nat} {xs : Nat → Int32} {cs : mm_Cs} {am : Nat → Nat × Nat} {cd : List (Nat × mm_R)} {mc ms : Nat} {rt : Option FieldType} {Q : Option Value → mm_H → Prop} {pc : Nat} {L : mm_L} {h : mm_H} {c s : Nat} {a n : Nat} {i : Int32} {st : List Value} (hd : cd.lookup pc = some (.iaload, 1, 0, 0, 0, 0)) (h0 : h.2.1 a = .inl (.int, n)) (h1 : vp_in i n) (hp : (pc + 1) = n2) (k0 : mm_w SL xs cs am cd mc ms rt Q n2 L (.int (h.2.2.1 a i.toNatClampNeg) :: st) h c s) : mm_w SL xs cs am cd mc ms rt Q pc L (.int i :: .ref a :: st) h c s := by
  subst hp
  exact st_iald hd h0 h1 k0
theorem sp_sald (n2 : Nat) {SL : Nat} {xs : Nat → Int32} {cs : mm_Cs} {am : Nat → Nat × Nat} {cd : List (Nat × mm_R)} {mc ms : Nat} {rt : Option FieldType} {Q : Option Value → mm_H → Prop} {pc : Nat} {L : mm_L} {h : mm_H} {c s : Nat} {i : Int32} {st : List Value} (hd : cd.lookup pc = some (.iaload, 1, 0, 0, 0, 0)) (h0 : vp_in i SL) (hp : (pc + 1) = n2) (k0 : mm_w SL xs cs am cd mc ms rt Q n2 L (.int (xs i.toNatClampNeg) :: st) h c s) : mm_w SL xs cs am cd mc ms rt Q pc L (.int i :: .ref 0 :: st) h c s := by
  subst hp
  exact st_sald hd h0 k0
theorem sp_bald (n2 : Nat) {SL : Nat} {xs : Nat → Int32} {cs : mm_Cs} {am : Nat → Nat × Nat} {cd : List (Nat × mm_R)} {mc ms : Nat} {rt : Option FieldType} {Q : Option Value → mm_H → Prop} {pc : Nat} {L : mm_L} {h : mm_H} {c s : Nat} {a n : Nat} {i : Int32} {st : List Value} (hd : cd.lookup pc = some (.baload, 1, 0, 0, 0, 0)) (h0 : h.2.1 a = .inl (.byte, n)) (h1 : vp_in i n) (hp : (pc + 1) = n2) (k0 : mm_w SL xs cs am cd mc ms rt Q n2 L (.int (h.2.2.1 a i.toNatClampNeg) :: st) h c s) : mm_w SL xs cs am cd mc ms rt Q pc L (.int i :: .ref a :: st) h c s := by
  subst hp
  exact st_bald hd h0 h1 k0
theorem sp_zald (n2 : Nat) {SL : Nat} {xs : Nat → Int32} {cs : mm_Cs} {am : Nat → Nat × Nat} {cd : List (Nat × mm_R)} {mc ms : Nat} {rt : Option FieldType} {Q : Option Value → mm_H → Prop} {pc : Nat} {L : mm_L} {h : mm_H} {c s : Nat} {a n : Nat} {i : Int32} {st : List Value} (hd : cd.lookup pc = some (.baload, 1, 0, 0, 0, 0)) (h0 : h.2.1 a = .inl (.boolean, n)) (h1 : vp_in i n) (hp : (pc + 1) = n2) (k0 : mm_w SL xs cs am cd mc ms rt Q n2 L (.int (h.2.2.1 a i.toNatClampNeg) :: st) h c s) : mm_w SL xs cs am cd mc ms rt Q pc L (.int i :: .ref a :: st) h c s := by
  subst hp
  exact st_zald hd h0 h1 k0
theorem sp_lald (n2 : Nat) {SL : Nat} {xs : Nat → Int32} {cs : mm_Cs} {am : Nat → Nat × Nat} {cd : List (Nat × mm_R)} {mc ms : Nat} {rt : Option FieldType} {Q : Option Value → mm_H → Prop} {pc : Nat} {L : mm_L} {h : mm_H} {c s : Nat} {a n : Nat} {i : Int32} {st : List Value} (hd : cd.lookup pc = some (.laload, 1, 0, 0, 0, 0)) (h0 : h.2.1 a = .inl (.long, n)) (h1 : vp_in i n) (hp : (pc + 1) = n2) (k0 : mm_w SL xs cs am cd mc ms rt Q n2 L (.long (h.2.2.2.1 a i.toNatClampNeg) :: st) h c s) : mm_w SL xs cs am cd mc ms rt Q pc L (.int i :: .ref a :: st) h c s := by
  subst hp
  exact st_lald hd h0 h1 k0
theorem sp_aald (n2 : Nat) {SL : Nat} {xs : Nat → Int32} {cs : mm_Cs} {am : Nat → Nat × Nat} {cd : List (Nat × mm_R)} {mc ms : Nat} {rt : Option FieldType} {Q : Option Value → mm_H → Prop} {pc : Nat} {L : mm_L} {h : mm_H} {c s : Nat} {a n : Nat} {i : Int32} {r : Option Nat} {st : List Value} (hd : cd.lookup pc = some (.aaload, 1, 0, 0, 0, 0)) (h0 : h.2.1 a = .inl (.object RX1, n)) (h1 : vp_in i n) (h2 : h.2.2.2.2 a i.toNatClampNeg = r) (hp : (pc + 1) = n2) (k0 : mm_w SL xs cs am cd mc ms rt Q n2 L (va_rf r :: st) h c s) : mm_w SL xs cs am cd mc ms rt Q pc L (.int i :: .ref a :: st) h c s := by
  subst hp
  exact st_aald hd h0 h1 h2 k0
theorem sp_iast (n2 : Nat) {SL : Nat} {xs : Nat → Int32} {cs : mm_Cs} {am : Nat → Nat × Nat} {cd : List (Nat × mm_R)} {mc ms : Nat} {rt : Option FieldType} {Q : Option Value → mm_H → Prop} {pc : Nat} {L : mm_L} {h : mm_H} {c s : Nat} {a n : Nat} {i x : Int32} {st : List Value} (hd : cd.lookup pc = some (.iastore, 1, 0, 0, 0, 0)) (h0 : h.2.1 a = .inl (.int, n)) (h1 : vp_in i n) (hp : (pc + 1) = n2) (k0 : mm_w SL xs cs am cd mc ms rt Q n2 L st (mm_pI h a i.toNatClampNeg x) c s) : mm_w SL xs cs am cd mc ms rt Q pc L (.int x :: .int i :: .ref a :: st) h c s := by
  subst hp
  exact st_iast hd h0 h1 k0
theorem sp_bast (n2 : Nat) {SL : Nat} {xs : Nat → Int32} {cs : mm_Cs} {am : Nat → Nat × Nat} {cd : List (Nat × mm_R)} {mc ms : Nat} {rt : Option FieldType} {Q : Option Value → mm_H → Prop} {pc : Nat} {L : mm_L} {h : mm_H} {c s : Nat} {a n : Nat} {i x : Int32} {st : List Value} (hd : cd.lookup pc = some (.bastore, 1, 0, 0, 0, 0)) (h0 : h.2.1 a = .inl (.byte, n)) (h1 : vp_in i n) (hp : (pc + 1) = n2) (k0 : mm_w SL xs cs am cd mc ms rt Q n2 L st (mm_pI h a i.toNatClampNeg x.toInt8.toInt32) c s) : mm_w SL xs cs am cd mc ms rt Q pc L (.int x :: .int i :: .ref a :: st) h c s := by
  subst hp
  exact st_bast hd h0 h1 k0
theorem sp_zast (n2 : Nat) {SL : Nat} {xs : Nat → Int32} {cs : mm_Cs} {am : Nat → Nat × Nat} {cd : List (Nat × mm_R)} {mc ms : Nat} {rt : Option FieldType} {Q : Option Value → mm_H → Prop} {pc : Nat} {L : mm_L} {h : mm_H} {c s : Nat} {a n : Nat} {i x : Int32} {st : List Value} (hd : cd.lookup pc = some (.bastore, 1, 0, 0, 0, 0)) (h0 : h.2.1 a = .inl (.boolean, n)) (h1 : vp_in i n) (h2 : x = 0 ∨ x = 1) (hp : (pc + 1) = n2) (k0 : mm_w SL xs cs am cd mc ms rt Q n2 L st (mm_pI h a i.toNatClampNeg x) c s) : mm_w SL xs cs am cd mc ms rt Q pc L (.int x :: .int i :: .ref a :: st) h c s := by
  subst hp
  exact st_zast hd h0 h1 h2 k0
theorem sp_last (n2 : Nat) {SL : Nat} {xs : Nat → Int32} {cs : mm_Cs} {am : Nat → Nat × Nat} {cd : List (Nat × mm_R)} {mc ms : Nat} {rt : Option FieldType} {Q : Option Value → mm_H → Prop} {pc : Nat} {L : mm_L} {h : mm_H} {c s : Nat} {a n : Nat} {i : Int32} {x : Int64} {st : List Value} (hd : cd.lookup pc = some (.lastore, 1, 0, 0, 0, 0)) (h0 : h.2.1 a = .inl (.long, n)) (h1 : vp_in i n) (hp : (pc + 1) = n2) (k0 : mm_w SL xs cs am cd mc ms rt Q n2 L st (mm_pJ h a i.toNatClampNeg x) c s) : mm_w SL xs cs am cd mc ms rt Q pc L (.long x :: .int i :: .ref a :: st) h c s := by
  subst hp
  exact st_last hd h0 h1 k0
theorem sp_aast (n2 : Nat) {SL : Nat} {xs : Nat → Int32} {cs : mm_Cs} {am : Nat → Nat × Nat} {cd : List (Nat × mm_R)} {mc ms : Nat} {rt : Option FieldType} {Q : Option Value → mm_H → Prop} {pc : Nat} {L : mm_L} {h : mm_H} {c s : Nat} {a n v : Nat} {i : Int32} {st : List Value} (hd : cd.lookup pc = some (.aastore, 1, 0, 0, 0, 0)) (h0 : h.2.1 a = .inl (.object RX1, n)) (h1 : vp_in i n) (h2 : h.2.1 v = .inr 1) (hp : (pc + 1) = n2) (k0 : mm_w SL xs cs am cd mc ms rt Q n2 L st (mm_pR h a i.toNatClampNeg (some v)) c s) : mm_w SL xs cs am cd mc ms rt Q pc L (.ref v :: .int i :: .ref a :: st) h c s := by
  subst hp
  exact st_aast hd h0 h1 h2 k0
theorem sp_alen (n2 : Nat) {SL : Nat} {xs : Nat → Int32} {cs : mm_Cs} {am : Nat → Nat × Nat} {cd : List (Nat × mm_R)} {mc ms : Nat} {rt : Option FieldType} {Q : Option Value → mm_H → Prop} {pc : Nat} {L : mm_L} {h : mm_H} {c s : Nat} {ty : FieldType} {a n : Nat} {st : List Value} (hd : cd.lookup pc = some (.arraylength, 1, 0, 0, 0, 0)) (h0 : h.2.1 a = .inl (ty, n)) (h1 : mm_isT ty = true) (hp : (pc + 1) = n2) (k0 : mm_w SL xs cs am cd mc ms rt Q n2 L (.int (Int32.ofNat n) :: st) h c s) : mm_w SL xs cs am cd mc ms rt Q pc L (.ref a :: st) h c s := by
  subst hp
  exact st_alen hd h0 h1 k0
theorem sp_slen (n2 : Nat) {SL : Nat} {xs : Nat → Int32} {cs : mm_Cs} {am : Nat → Nat × Nat} {cd : List (Nat × mm_R)} {mc ms : Nat} {rt : Option FieldType} {Q : Option Value → mm_H → Prop} {pc : Nat} {L : mm_L} {h : mm_H} {c s : Nat} {st : List Value} (hd : cd.lookup pc = some (.arraylength, 1, 0, 0, 0, 0)) (hp : (pc + 1) = n2) (k0 : mm_w SL xs cs am cd mc ms rt Q n2 L (.int (Int32.ofNat SL) :: st) h c s) : mm_w SL xs cs am cd mc ms rt Q pc L (.ref 0 :: st) h c s := by
  subst hp
  exact st_slen hd k0
theorem sp_newa (n2 : Nat) {SL : Nat} {xs : Nat → Int32} {cs : mm_Cs} {am : Nat → Nat × Nat} {cd : List (Nat × mm_R)} {mc ms : Nat} {rt : Option FieldType} {Q : Option Value → mm_H → Prop} {pc : Nat} {L : mm_L} {h : mm_H} {c s : Nat} {ty : ArrayType} {n : Int32} {N : Nat} {st : List Value} (hd : cd.lookup pc = some (.newarray ty, 2, 0, 0, 0, 0)) (h0 : mm_isT (newarray.typeOf ty) = true) (h1 : ¬ n < 0) (h2 : n.toNatClampNeg = N) (h3 : N ≤ 60000) (h4 : c + 1 ≤ mc) (h5 : s + N ≤ ms) (hp : (pc + 2) = n2) (k0 : mm_w SL xs cs am cd mc ms rt Q n2 L (.ref (mm_ad h.1) :: st) (mm_new h (.inl (newarray.typeOf ty, N))) (c + 1) (s + N)) : mm_w SL xs cs am cd mc ms rt Q pc L (.int n :: st) h c s := by
  subst hp
  exact st_newa hd h0 h1 h2 h3 h4 h5 k0
theorem sp_newq (n2 : Nat) {SL : Nat} {xs : Nat → Int32} {cs : mm_Cs} {am : Nat → Nat × Nat} {cd : List (Nat × mm_R)} {mc ms : Nat} {rt : Option FieldType} {Q : Option Value → mm_H → Prop} {pc : Nat} {L : mm_L} {h : mm_H} {c s : Nat} {i : Nat} {n : Int32} {N : Nat} {st : List Value} (hd : cd.lookup pc = some (.anewarray i, 3, 0, 0, 0, 0)) (h0 : ¬ n < 0) (h1 : n.toNatClampNeg = N) (h2 : N ≤ 60000) (h3 : c + 1 ≤ mc) (h4 : s + N ≤ ms) (hp : (pc + 3) = n2) (k0 : mm_w SL xs cs am cd mc ms rt Q n2 L (.ref (mm_ad h.1) :: st) (mm_new h (.inl (.object RX1, N))) (c + 1) (s + N)) : mm_w SL xs cs am cd mc ms rt Q pc L (.int n :: st) h c s := by
  subst hp
  exact st_newq hd h0 h1 h2 h3 h4 k0
theorem sp_new (n2 : Nat) {SL : Nat} {xs : Nat → Int32} {cs : mm_Cs} {am : Nat → Nat × Nat} {cd : List (Nat × mm_R)} {mc ms : Nat} {rt : Option FieldType} {Q : Option Value → mm_H → Prop} {pc : Nat} {L : mm_L} {h : mm_H} {c s : Nat} {i ci N : Nat} {st : List Value} (hd : cd.lookup pc = some (.new i, 3, ci, N, 0, 0)) (h0 : c + 1 ≤ mc) (h1 : s + N ≤ ms) (hp : (pc + 3) = n2) (k0 : mm_w SL xs cs am cd mc ms rt Q n2 L (.ref (mm_ad h.1) :: st) (mm_new h (.inr ci)) (c + 1) (s + N)) : mm_w SL xs cs am cd mc ms rt Q pc L st h c s := by
  subst hp
  exact st_new hd h0 h1 k0
theorem sp_objI (n2 : Nat) {SL : Nat} {xs : Nat → Int32} {cs : mm_Cs} {am : Nat → Nat × Nat} {cd : List (Nat × mm_R)} {mc ms : Nat} {rt : Option FieldType} {Q : Option Value → mm_H → Prop} {pc : Nat} {L : mm_L} {h : mm_H} {c s : Nat} {i a : Nat} {st : List Value} (hd : cd.lookup pc = some (.invokespecial i, 3, 0, 0, 0, 7)) (h0 : Nat.ble (st.map Value.category).sum 8 = true) (hp : (pc + 3) = n2) (k0 : mm_w SL xs cs am cd mc ms rt Q n2 L st h c s) : mm_w SL xs cs am cd mc ms rt Q pc L (.ref a :: st) h c s := by
  subst hp
  exact st_objI hd h0 k0
theorem sp_copy (n2 : Nat) {SL : Nat} {xs : Nat → Int32} {cs : mm_Cs} {am : Nat → Nat × Nat} {cd : List (Nat × mm_R)} {mc ms : Nat} {rt : Option FieldType} {Q : Option Value → mm_H → Prop} {pc : Nat} {L : mm_L} {h : mm_H} {c s : Nat} {i a b n0 n1 : Nat} {sp dp n : Int32} {st : List Value} (hd : cd.lookup pc = some (.invokestatic i, 3, 0, 0, 0, 7)) (h0 : h.2.1 a = .inl (.int, n0)) (h1 : h.2.1 b = .inl (.int, n1)) (h2 : ¬ sp < 0) (h3 : ¬ dp < 0) (h4 : ¬ n < 0) (h5 : sp.toNatClampNeg + n.toNatClampNeg ≤ n0) (h6 : dp.toNatClampNeg + n.toNatClampNeg ≤ n1) (h7 : Nat.ble (st.map Value.category).sum 8 = true) (h8 : c = 0) (hp : (pc + 3) = n2) (k0 : mm_w SL xs cs am cd mc ms rt Q n2 L st (mm_cp h a b sp.toNatClampNeg dp.toNatClampNeg n.toNatClampNeg) c s) : mm_w SL xs cs am cd mc ms rt Q pc L (.int n :: .int dp :: .ref b :: .int sp :: .ref a :: st) h c s := by
  subst hp
  exact st_copy hd h0 h1 h2 h3 h4 h5 h6 h7 h8 k0
theorem sp_strL (n2 : Nat) {SL : Nat} {xs : Nat → Int32} {cs : mm_Cs} {am : Nat → Nat × Nat} {cd : List (Nat × mm_R)} {mc ms : Nat} {rt : Option FieldType} {Q : Option Value → mm_H → Prop} {pc : Nat} {L : mm_L} {h : mm_H} {c s : Nat} {i : Nat} {st : List Value} (hd : cd.lookup pc = some (.invokevirtual i, 3, 0, 0, 0, 8)) (h0 : Nat.ble (st.map Value.category).sum 8 = true) (h1 : c ≤ mc) (h2 : s ≤ ms) (hp : (pc + 3) = n2) (k0 : mm_w SL xs cs am cd mc ms rt Q n2 L (.int (Int32.ofNat mm_str.length) :: st) h c s) : mm_w SL xs cs am cd mc ms rt Q pc L (.ref 1 :: st) h c s := by
  subst hp
  exact st_strL hd h0 h1 h2 k0
theorem sp_strC (n2 : Nat) {SL : Nat} {xs : Nat → Int32} {cs : mm_Cs} {am : Nat → Nat × Nat} {cd : List (Nat × mm_R)} {mc ms : Nat} {rt : Option FieldType} {Q : Option Value → mm_H → Prop} {pc : Nat} {L : mm_L} {h : mm_H} {c s : Nat} {i k : Nat} {st : List Value} (hd : cd.lookup pc = some (.invokevirtual i, 3, 0, 0, 0, 9)) (h0 : k < mm_str.length) (h1 : Nat.ble (st.map Value.category).sum 8 = true) (h2 : c ≤ mc) (h3 : s ≤ ms) (hp : (pc + 3) = n2) (k0 : mm_w SL xs cs am cd mc ms rt Q n2 L (.int (nI (mm_str.getD k 0)) :: st) h c s) : mm_w SL xs cs am cd mc ms rt Q pc L (.int (nI k) :: .ref 1 :: st) h c s := by
  subst hp
  exact st_strC hd h0 h1 h2 h3 k0

theorem sc_S (n2 : Nat) {SL : Nat} {xs : Nat → Int32} {d : Nat} {cd : List (Nat × mm_R)} {mc ms : Nat} {rt : Option FieldType} {Q : Option Value → mm_H → Prop} {pc : Nat} {L : mm_L} {h : mm_H} {c s i y n : Nat} {st : List Value} (hd : cd.lookup pc = some (.invokestatic i, 3, y, n, 0, 0)) (h0 : Nat.ble n st.length = true) (h1 : Nat.ble ((st.drop n).map Value.category).sum 8 = true) (ha : mm_am y = (0, 0)) (hc : c ≤ mc) (hs : s ≤ ms) (hp : pc + 3 = n2) (k : mm_s SL xs d y (st.take n).reverse h (fun r h2 => mm_w SL xs (mm_s SL xs d) mm_am cd mc ms rt Q n2 L (r.toList ++ st.drop n) h2 c s)) : mm_w SL xs (mm_s SL xs d) mm_am cd mc ms rt Q pc L st h c s := by
  subst hp
  refine st_callS (mm_s_mono d) hd h0 h1 (by rw [ha]; exact hc) (by rw [ha]; exact hs) ?_
  rw [ha]
  exact k
theorem sc_V (n2 : Nat) {SL : Nat} {xs : Nat → Int32} {d : Nat} {cd : List (Nat × mm_R)} {mc ms : Nat} {rt : Option FieldType} {Q : Option Value → mm_H → Prop} {pc : Nat} {L : mm_L} {h : mm_H} {c s i y n ci a : Nat} {st : List Value} (hd : cd.lookup pc = some (.invokevirtual i, 3, y, n, ci, 0)) (h0 : mm_at st n = some (.ref a)) (hk : h.2.1 a = .inr ci) (h1 : Nat.ble ((st.drop (n + 1)).map Value.category).sum 8 = true) (ha : mm_am y = (0, 0)) (hc : c ≤ mc) (hs : s ≤ ms) (hp : pc + 3 = n2) (k : mm_s SL xs d y (.ref a :: (st.take n).reverse) h (fun r h2 => mm_w SL xs (mm_s SL xs d) mm_am cd mc ms rt Q n2 L (r.toList ++ st.drop (n + 1)) h2 c s)) : mm_w SL xs (mm_s SL xs d) mm_am cd mc ms rt Q pc L st h c s := by
  subst hp
  refine st_callV (mm_s_mono d) hd h0 hk h1 (by rw [ha]; exact hc) (by rw [ha]; exact hs) ?_
  rw [ha]
  exact k
theorem sc_I (n2 : Nat) {SL : Nat} {xs : Nat → Int32} {d : Nat} {cd : List (Nat × mm_R)} {mc ms : Nat} {rt : Option FieldType} {Q : Option Value → mm_H → Prop} {pc : Nat} {L : mm_L} {h : mm_H} {c s i y n ci a : Nat} {z : Int} {st : List Value} (hd : cd.lookup pc = some (.invokespecial i, 3, y, n, ci, z)) (hz : ¬ z = 7) (h0 : mm_at st n = some (.ref a)) (hk : h.2.1 a = .inr ci) (h1 : Nat.ble ((st.drop (n + 1)).map Value.category).sum 8 = true) (hc : c + (mm_am y).1 ≤ mc) (hs : s + (mm_am y).2 ≤ ms) (hp : pc + 3 = n2) (k : mm_s SL xs d y (.ref a :: (st.take n).reverse) h (fun r h2 => mm_w SL xs (mm_s SL xs d) mm_am cd mc ms rt Q n2 L (r.toList ++ st.drop (n + 1)) h2 (c + (mm_am y).1) (s + (mm_am y).2))) : mm_w SL xs (mm_s SL xs d) mm_am cd mc ms rt Q pc L st h c s := by
  subst hp
  exact st_callI (mm_s_mono d) hd hz h0 hk h1 hc hs k
theorem mm_u_same {α : Type} {f : Nat → Nat → α} {a k : Nat} {v : α} : mm_u f a k v a k = v := by simp [mm_u]
theorem mm_u_off {α : Type} {f : Nat → Nat → α} {a k i j : Nat} {v : α} (h : i ≠ a ∨ j ≠ k) : mm_u f a k v i j = f i j := by
  unfold mm_u
  by_cases h1 : i = a
  · rw [if_pos h1]
    rcases h with q | q
    · exact absurd h1 q
    · rw [if_neg q]
  · rw [if_neg h1]

