
def mm_tx : String := "stand begin left count turn again boy guard rhyme person drawn to worth weight or and not going here last words signs "
def mm_sb : List Int32 := mm_str.map nI
/-- what the tables say, and what lies outside the world: the script, the text, two statics -/
def mm_SK (b qs qv B SL : Nat) (xs : Nat → Int32) (D : va_G) (dA : FieldType → ClassId) (U : State) : Prop := va_K D vwCl (mm_tys dA) U ∧ (∀ (o : String) (i : Nat) (y : MethodName) (k : String), Cond.methodLinkNest o i y k ∈ lw_tbl → va_Nw (.methodLinkNest o i y k) U) ∧ va_AO RX1 U ∧ va_X b SL xs U U.heap ∧ b < B ∧ b < U.heap.size ∧ vk_R RX9 19 mm_tx qs U ∧ vk_S 1 [mm_str.length] [mm_sb] (fun _ => qs) (fun _ => qv) (fun q => B ≤ q) U U.heap ∧ va_Z "java/lang/String" "COMPACT_STRINGS" "Z" (.int 1) (fun q => B ≤ q) U U.heap ∧ va_Zq "jdk/internal/util/Preconditions" "SIOOBE_FORMATTER" "Ljava/util/function/BiFunction;" (fun q => B ≤ q) U U.heap
theorem mm_SK_go {b qs qv B SL : Nat} {xs : Nat → Int32} {D : va_G} {dA : FieldType → ClassId} {s U : State} {H : Heap} {locs : List Loc} (h : mm_SK b qs qv B SL xs D dA s) (hH : U.heap = H) (hS : va_S (fun q => B ≤ q) s.heap H locs) (hW : s.WarmedH U.vm) : mm_SK b qs qv B SL xs D dA U := by
  obtain ⟨h1, h2, h3, h4, h5, h6, h7, h8, h9, h10⟩ := h
  subst hH
  refine ⟨va_K.moved hW.alike h1, fun o i y k hm => va_Nw.warmM hW (h2 o i y k hm), va_AO.moved hW.alike h3, va_X.moved hW.alike (h4.kept (hS.2.1 b h6 (Nat.not_le.mpr h5))), h5, Nat.lt_of_lt_of_le h6 hS.1, vk_R.warm hW h7, vk_S.moved hW.alike (h8.kept hS.2.1), va_Z.moved hW.alike (h9.kept hS.2.1), va_Zq.moved hW.alike (h10.kept hS.2.1)⟩
theorem mm_SK_same {b qs qv B SL : Nat} {xs : Nat → Int32} {D : va_G} {dA : FieldType → ClassId} {s U : State} (h : mm_SK b qs qv B SL xs D dA s) (hH : U.heap = s.heap) (hv : U.vm = s.vm) : mm_SK b qs qv B SL xs D dA U := by
  obtain ⟨h1, h2, h3, h4, h5, h6, h7, h8, h9, h10⟩ := h
  have hA : s.vm.Alike U.vm := by rw [hv]; exact Vm.Alike.refl s.vm
  refine ⟨va_K.moved hA h1, fun o i y k hm => va_Nw.same rfl hv.symm (h2 o i y k hm), va_AO.moved hA h3, va_X.moved hA (by rw [hH]; exact h4), h5, by rw [hH]; exact h6, vk_R.same hv h7, vk_S.moved hA (by rw [hH]; exact h8), va_Z.moved hA (by rw [hH]; exact h9), va_Zq.moved hA (by rw [hH]; exact h10)⟩
/-- the machine at a place of the small machine -/
def mm_XW (p : Program) (l : Launch) (e : Env) (R : Room) (s : State) (m : MethodId) (args : Array Value) (below : List Frame) (meth : Method) (c : Code) (b qs B : Nat) (D : va_G) (dA : FieldType → ClassId) (QW : State → Prop) : mm_X := fun pc L st h cc ss => ∀ (H : Heap) (locs : List Loc) (ls : Array Slot), mm_HR b qs B D dA h H → va_S (fun q => B ≤ q) s.heap H locs → mm_LR (mm_a b qs B) c.maxLocals ls L → W p l e R s m args below meth c H locs cc ss QW (F0 m pc ls (st.map (mm_v (mm_a b qs B))))
/-- where a method stands: the machine, the code, the tables, its room -/
def mm_cx (p : Program) (R : Room) (s : State) (m : MethodId) (args : Array Value) (meth : Method) (c : Code) (b qs qv B SL : Nat) (xs : Nat → Int32) (D : va_G) (dA : FieldType → ClassId) (ow : Nat) (ini : Bool) (cc : ByteArray) (cd : List (Nat × mm_R)) (mc ms : Nat) : Prop := p.tables.exec = Jvm.exec ∧ c.code = cc ∧ s.vm.findClass (mm_on ow) = some m.cls ∧ (∀ w ∈ mm_TT, w.before args s = true) ∧ mm_SK b qs qv B SL xs D dA s ∧ (ini = true → meth.name = "<init>") ∧ cd.all (mm_cb ow ini cc) = true ∧ mc = R.cells ∧ ms = R.slots ∧ 6 ≤ R.frames ∧ 240 ≤ R.locals ∧ B ≤ s.heap.size
theorem mm_lk_mem : ∀ (cd : List (Nat × mm_R)) (pc : Nat) (r : mm_R), cd.lookup pc = some r → (pc, r) ∈ cd
  | [], pc, r, h => by cases h
  | (k, v) :: l, pc, r, h => by
    rw [List.lookup_cons] at h
    by_cases hk : pc = k
    · subst hk
      simp at h
      rw [h]
      exact List.mem_cons_self
    · have : (pc == k) = false := by simpa using hk
      rw [this] at h
      exact List.mem_cons_of_mem _ (mm_lk_mem l pc r h)
theorem mm_row {ow : Nat} {ini : Bool} {cc : ByteArray} {cd : List (Nat × mm_R)} (hck : cd.all (mm_cb ow ini cc) = true) {pc : Nat} {r : mm_R} (hd : cd.lookup pc = some r) : decode cc pc = .ok (r.1, r.2.1) ∧ mm_cr ow ini pc r = true := by
  have h := List.all_eq_true.mp hck _ (mm_lk_mem cd pc r hd)
  unfold mm_cb at h
  rw [Bool.and_eq_true] at h
  exact ⟨of_decide_eq_true h.1, h.2⟩
/-- the classes of the worlds: their words, their fields' types and names -/
theorem mm_cl {ci : Nat} {r : vw_C} (h : vwCl[ci]? = some r) : (∀ w ∈ u_ws r.1 r.2.1 r.2.2, w ∈ mm_TT) ∧ (∀ k, k < r.2.2 → parseFieldDescriptor (r.2.1 k).2.2.1 = some (mm_ty ci k)) ∧ (∀ a, a < r.2.2 → ∀ b, b < r.2.2 → a ≠ b → (r.2.1 a).2.1 ≠ (r.2.1 b).2.1) ∧ (∀ k, k < r.2.2 → (r.2.1 k).1 = mm_on (mm_co ci)) ∧ mm_nf ci = r.2.2 := by
  match ci, h with
  | 0, h => cases h; exact ⟨fun w hw => by obtain ⟨k, hk, rfl⟩ := List.mem_map.mp hw; exact mm_cl_0 k (List.mem_range.mp hk), tyX0_ok, nmX0, mm_cd_0, rfl⟩
  | 1, h => cases h; exact ⟨fun w hw => by obtain ⟨k, hk, rfl⟩ := List.mem_map.mp hw; exact mm_cl_1 k (List.mem_range.mp hk), tyX1_ok, nmX1, mm_cd_1, rfl⟩
  | 2, h => cases h; exact ⟨fun w hw => by obtain ⟨k, hk, rfl⟩ := List.mem_map.mp hw; exact mm_cl_2 k (List.mem_range.mp hk), tyX2_ok, nmX2, mm_cd_2, rfl⟩
  | 3, h => cases h; exact ⟨fun w hw => by obtain ⟨k, hk, rfl⟩ := List.mem_map.mp hw; exact mm_cl_3 k (List.mem_range.mp hk), tyX3_ok, nmX3, mm_cd_3, rfl⟩
  | 4, h => cases h; exact ⟨fun w hw => by obtain ⟨k, hk, rfl⟩ := List.mem_map.mp hw; exact mm_cl_4 k (List.mem_range.mp hk), tyX5_ok, nmX5, mm_cd_4, rfl⟩
  | 5, h => cases h; exact ⟨fun w hw => by obtain ⟨k, hk, rfl⟩ := List.mem_map.mp hw; exact mm_cl_5 k (List.mem_range.mp hk), tyX7_ok, nmX7, mm_cd_5, rfl⟩
  | 6, h => cases h; exact ⟨fun w hw => by obtain ⟨k, hk, rfl⟩ := List.mem_map.mp hw; exact mm_cl_6 k (List.mem_range.mp hk), tyX8_ok, nmX8, mm_cd_6, rfl⟩
  | 7, h => cases h; exact ⟨fun w hw => by obtain ⟨k, hk, rfl⟩ := List.mem_map.mp hw; exact mm_cl_7 k (List.mem_range.mp hk), tyX9_ok, nmX9, mm_cd_7, rfl⟩
  | 8, h => cases h; exact ⟨fun w hw => by obtain ⟨k, hk, rfl⟩ := List.mem_map.mp hw; exact mm_cl_8 k (List.mem_range.mp hk), tyX10_ok, nmX10, mm_cd_8, rfl⟩
  | 9, h => cases h; exact ⟨fun w hw => by obtain ⟨k, hk, rfl⟩ := List.mem_map.mp hw; exact mm_cl_9 k (List.mem_range.mp hk), tyX11_ok, nmX11, mm_cd_9, rfl⟩
  | n + 10, h => cases h

theorem ss_iconst {p : Program} {l : Launch} {e : Env} {R : Room} {s : State} {m : MethodId} {args : Array Value} {below : List Frame} {meth : Method} {c : Code} {b qs qv B SL : Nat} {xs : Nat → Int32} {D : va_G} {dA : FieldType → ClassId} {QW : State → Prop} {ow : Nat} {ini : Bool} {cc : ByteArray} {cd : List (Nat × mm_R)} {mc ms : Nat} {cs : mm_Cs} {am : Nat → Nat × Nat} {rt : Option FieldType} {Q : Option Value → mm_H → Prop} (K : mm_cx p R s m args meth c b qs qv B SL xs D dA ow ini cc cd mc ms) : mm_r_iconst SL xs cs am cd mc ms rt Q (mm_XW p l e R s m args below meth c b qs B D dA QW) := by
  intro pc L h cc0 ss0 n st hd  k0
  intro H locs ls hH hS hl
  obtain ⟨hx, hb, hown, hts, hSK, hini, hck, hmc, hms, hfr, hlo, hB⟩ := id K
  obtain ⟨hdg, hcr⟩ := mm_row hck hd
  exact lv_iconst hx hb hdg rfl (k0 H locs ls hH hS hl)
theorem ss_bipush {p : Program} {l : Launch} {e : Env} {R : Room} {s : State} {m : MethodId} {args : Array Value} {below : List Frame} {meth : Method} {c : Code} {b qs qv B SL : Nat} {xs : Nat → Int32} {D : va_G} {dA : FieldType → ClassId} {QW : State → Prop} {ow : Nat} {ini : Bool} {cc : ByteArray} {cd : List (Nat × mm_R)} {mc ms : Nat} {cs : mm_Cs} {am : Nat → Nat × Nat} {rt : Option FieldType} {Q : Option Value → mm_H → Prop} (K : mm_cx p R s m args meth c b qs qv B SL xs D dA ow ini cc cd mc ms) : mm_r_bipush SL xs cs am cd mc ms rt Q (mm_XW p l e R s m args below meth c b qs B D dA QW) := by
  intro pc L h cc0 ss0 n st hd  k0
  intro H locs ls hH hS hl
  obtain ⟨hx, hb, hown, hts, hSK, hini, hck, hmc, hms, hfr, hlo, hB⟩ := id K
  obtain ⟨hdg, hcr⟩ := mm_row hck hd
  exact lv_bipush hx hb hdg rfl (k0 H locs ls hH hS hl)
theorem ss_sipush {p : Program} {l : Launch} {e : Env} {R : Room} {s : State} {m : MethodId} {args : Array Value} {below : List Frame} {meth : Method} {c : Code} {b qs qv B SL : Nat} {xs : Nat → Int32} {D : va_G} {dA : FieldType → ClassId} {QW : State → Prop} {ow : Nat} {ini : Bool} {cc : ByteArray} {cd : List (Nat × mm_R)} {mc ms : Nat} {cs : mm_Cs} {am : Nat → Nat × Nat} {rt : Option FieldType} {Q : Option Value → mm_H → Prop} (K : mm_cx p R s m args meth c b qs qv B SL xs D dA ow ini cc cd mc ms) : mm_r_sipush SL xs cs am cd mc ms rt Q (mm_XW p l e R s m args below meth c b qs B D dA QW) := by
  intro pc L h cc0 ss0 n st hd  k0
  intro H locs ls hH hS hl
  obtain ⟨hx, hb, hown, hts, hSK, hini, hck, hmc, hms, hfr, hlo, hB⟩ := id K
  obtain ⟨hdg, hcr⟩ := mm_row hck hd
  exact lv_sipush hx hb hdg rfl (k0 H locs ls hH hS hl)
theorem ss_lconst {p : Program} {l : Launch} {e : Env} {R : Room} {s : State} {m : MethodId} {args : Array Value} {below : List Frame} {meth : Method} {c : Code} {b qs qv B SL : Nat} {xs : Nat → Int32} {D : va_G} {dA : FieldType → ClassId} {QW : State → Prop} {ow : Nat} {ini : Bool} {cc : ByteArray} {cd : List (Nat × mm_R)} {mc ms : Nat} {cs : mm_Cs} {am : Nat → Nat × Nat} {rt : Option FieldType} {Q : Option Value → mm_H → Prop} (K : mm_cx p R s m args meth c b qs qv B SL xs D dA ow ini cc cd mc ms) : mm_r_lconst SL xs cs am cd mc ms rt Q (mm_XW p l e R s m args below meth c b qs B D dA QW) := by
  intro pc L h cc0 ss0 n st hd  k0
  intro H locs ls hH hS hl
  obtain ⟨hx, hb, hown, hts, hSK, hini, hck, hmc, hms, hfr, hlo, hB⟩ := id K
  obtain ⟨hdg, hcr⟩ := mm_row hck hd
  exact lv_lconst hx hb hdg rfl (k0 H locs ls hH hS hl)
theorem ss_ldc {p : Program} {l : Launch} {e : Env} {R : Room} {s : State} {m : MethodId} {args : Array Value} {below : List Frame} {meth : Method} {c : Code} {b qs qv B SL : Nat} {xs : Nat → Int32} {D : va_G} {dA : FieldType → ClassId} {QW : State → Prop} {ow : Nat} {ini : Bool} {cc : ByteArray} {cd : List (Nat × mm_R)} {mc ms : Nat} {cs : mm_Cs} {am : Nat → Nat × Nat} {rt : Option FieldType} {Q : Option Value → mm_H → Prop} (K : mm_cx p R s m args meth c b qs qv B SL xs D dA ow ini cc cd mc ms) : mm_r_ldc SL xs cs am cd mc ms rt Q (mm_XW p l e R s m args below meth c b qs B D dA QW) := by
  intro pc L h cc0 ss0 i v st hd  k0
  intro H locs ls hH hS hl
  obtain ⟨hx, hb, hown, hts, hSK, hini, hck, hmc, hms, hfr, hlo, hB⟩ := id K
  obtain ⟨hdg, hcr⟩ := mm_row hck hd
  rcases mm_fl_all ow _ (of_decide_eq_true hcr) with ⟨_, hw⟩ | ⟨h9, _⟩
  · exact lv_ldc hx hb hown (hts _ hw) hdg (k0 H locs ls hH hS hl)
  · exact absurd h9 (Nat.zero_ne_one)
theorem ss_ldcw {p : Program} {l : Launch} {e : Env} {R : Room} {s : State} {m : MethodId} {args : Array Value} {below : List Frame} {meth : Method} {c : Code} {b qs qv B SL : Nat} {xs : Nat → Int32} {D : va_G} {dA : FieldType → ClassId} {QW : State → Prop} {ow : Nat} {ini : Bool} {cc : ByteArray} {cd : List (Nat × mm_R)} {mc ms : Nat} {cs : mm_Cs} {am : Nat → Nat × Nat} {rt : Option FieldType} {Q : Option Value → mm_H → Prop} (K : mm_cx p R s m args meth c b qs qv B SL xs D dA ow ini cc cd mc ms) : mm_r_ldcw SL xs cs am cd mc ms rt Q (mm_XW p l e R s m args below meth c b qs B D dA QW) := by
  intro pc L h cc0 ss0 i v st hd  k0
  intro H locs ls hH hS hl
  obtain ⟨hx, hb, hown, hts, hSK, hini, hck, hmc, hms, hfr, hlo, hB⟩ := id K
  obtain ⟨hdg, hcr⟩ := mm_row hck hd
  rcases mm_fl_all ow _ (of_decide_eq_true hcr) with ⟨_, hw⟩ | ⟨h9, _⟩
  · exact lv_ldcw hx hb hown (hts _ hw) hdg (k0 H locs ls hH hS hl)
  · exact absurd h9 (Nat.zero_ne_one)
theorem ss_ldcS {p : Program} {l : Launch} {e : Env} {R : Room} {s : State} {m : MethodId} {args : Array Value} {below : List Frame} {meth : Method} {c : Code} {b qs qv B SL : Nat} {xs : Nat → Int32} {D : va_G} {dA : FieldType → ClassId} {QW : State → Prop} {ow : Nat} {ini : Bool} {cc : ByteArray} {cd : List (Nat × mm_R)} {mc ms : Nat} {cs : mm_Cs} {am : Nat → Nat × Nat} {rt : Option FieldType} {Q : Option Value → mm_H → Prop} (K : mm_cx p R s m args meth c b qs qv B SL xs D dA ow ini cc cd mc ms) : mm_r_ldcS SL xs cs am cd mc ms rt Q (mm_XW p l e R s m args below meth c b qs B D dA QW) := by
  intro pc L h cc0 ss0 i st hd  k0
  intro H locs ls hH hS hl
  obtain ⟨hx, hb, hown, hts, hSK, hini, hck, hmc, hms, hfr, hlo, hB⟩ := id K
  obtain ⟨hdg, hcr⟩ := mm_row hck hd
  rcases mm_fl_all ow _ (of_decide_eq_true hcr) with ⟨h9, _⟩ | ⟨_, h8, h9⟩
  · exact absurd h9 (Nat.one_ne_zero)
  · have h9 : i = 19 := h9
    subst h9
    rw [h8] at hown
    exact va_ldcS hx hb hown hSK.2.2.2.2.2.2.1 hdg (k0 H locs ls hH hS hl)
theorem ss_ldc2 {p : Program} {l : Launch} {e : Env} {R : Room} {s : State} {m : MethodId} {args : Array Value} {below : List Frame} {meth : Method} {c : Code} {b qs qv B SL : Nat} {xs : Nat → Int32} {D : va_G} {dA : FieldType → ClassId} {QW : State → Prop} {ow : Nat} {ini : Bool} {cc : ByteArray} {cd : List (Nat × mm_R)} {mc ms : Nat} {cs : mm_Cs} {am : Nat → Nat × Nat} {rt : Option FieldType} {Q : Option Value → mm_H → Prop} (K : mm_cx p R s m args meth c b qs qv B SL xs D dA ow ini cc cd mc ms) : mm_r_ldc2 SL xs cs am cd mc ms rt Q (mm_XW p l e R s m args below meth c b qs B D dA QW) := by
  intro pc L h cc0 ss0 i v st hd  k0
  intro H locs ls hH hS hl
  obtain ⟨hx, hb, hown, hts, hSK, hini, hck, hmc, hms, hfr, hlo, hB⟩ := id K
  obtain ⟨hdg, hcr⟩ := mm_row hck hd
  exact lv_ldc2 hx hb hown (hts _ (mm_fj_all ow _ (of_decide_eq_true hcr))) hdg (k0 H locs ls hH hS hl)
theorem ss_null {p : Program} {l : Launch} {e : Env} {R : Room} {s : State} {m : MethodId} {args : Array Value} {below : List Frame} {meth : Method} {c : Code} {b qs qv B SL : Nat} {xs : Nat → Int32} {D : va_G} {dA : FieldType → ClassId} {QW : State → Prop} {ow : Nat} {ini : Bool} {cc : ByteArray} {cd : List (Nat × mm_R)} {mc ms : Nat} {cs : mm_Cs} {am : Nat → Nat × Nat} {rt : Option FieldType} {Q : Option Value → mm_H → Prop} (K : mm_cx p R s m args meth c b qs qv B SL xs D dA ow ini cc cd mc ms) : mm_r_null SL xs cs am cd mc ms rt Q (mm_XW p l e R s m args below meth c b qs B D dA QW) := by
  intro pc L h cc0 ss0 st hd  k0
  intro H locs ls hH hS hl
  obtain ⟨hx, hb, hown, hts, hSK, hini, hck, hmc, hms, hfr, hlo, hB⟩ := id K
  obtain ⟨hdg, hcr⟩ := mm_row hck hd
  exact lv_null hx hb hdg (k0 H locs ls hH hS hl)
theorem ss_iload_n {p : Program} {l : Launch} {e : Env} {R : Room} {s : State} {m : MethodId} {args : Array Value} {below : List Frame} {meth : Method} {c : Code} {b qs qv B SL : Nat} {xs : Nat → Int32} {D : va_G} {dA : FieldType → ClassId} {QW : State → Prop} {ow : Nat} {ini : Bool} {cc : ByteArray} {cd : List (Nat × mm_R)} {mc ms : Nat} {cs : mm_Cs} {am : Nat → Nat × Nat} {rt : Option FieldType} {Q : Option Value → mm_H → Prop} (K : mm_cx p R s m args meth c b qs qv B SL xs D dA ow ini cc cd mc ms) : mm_r_iload_n SL xs cs am cd mc ms rt Q (mm_XW p l e R s m args below meth c b qs B D dA QW) := by
  intro pc L h cc0 ss0 k x st hd h0 k0
  intro H locs ls hH hS hl
  obtain ⟨hx, hb, hown, hts, hSK, hini, hck, hmc, hms, hfr, hlo, hB⟩ := id K
  obtain ⟨hdg, hcr⟩ := mm_row hck hd
  exact lv_iload_n hx hb hdg rfl (mm_lv hl h0) (k0 H locs ls hH hS hl)
theorem ss_iload {p : Program} {l : Launch} {e : Env} {R : Room} {s : State} {m : MethodId} {args : Array Value} {below : List Frame} {meth : Method} {c : Code} {b qs qv B SL : Nat} {xs : Nat → Int32} {D : va_G} {dA : FieldType → ClassId} {QW : State → Prop} {ow : Nat} {ini : Bool} {cc : ByteArray} {cd : List (Nat × mm_R)} {mc ms : Nat} {cs : mm_Cs} {am : Nat → Nat × Nat} {rt : Option FieldType} {Q : Option Value → mm_H → Prop} (K : mm_cx p R s m args meth c b qs qv B SL xs D dA ow ini cc cd mc ms) : mm_r_iload SL xs cs am cd mc ms rt Q (mm_XW p l e R s m args below meth c b qs B D dA QW) := by
  intro pc L h cc0 ss0 k x st hd h0 k0
  intro H locs ls hH hS hl
  obtain ⟨hx, hb, hown, hts, hSK, hini, hck, hmc, hms, hfr, hlo, hB⟩ := id K
  obtain ⟨hdg, hcr⟩ := mm_row hck hd
  exact lv_iload hx hb hdg (mm_lv hl h0) (k0 H locs ls hH hS hl)
theorem ss_istore_n {p : Program} {l : Launch} {e : Env} {R : Room} {s : State} {m : MethodId} {args : Array Value} {below : List Frame} {meth : Method} {c : Code} {b qs qv B SL : Nat} {xs : Nat → Int32} {D : va_G} {dA : FieldType → ClassId} {QW : State → Prop} {ow : Nat} {ini : Bool} {cc : ByteArray} {cd : List (Nat × mm_R)} {mc ms : Nat} {cs : mm_Cs} {am : Nat → Nat × Nat} {rt : Option FieldType} {Q : Option Value → mm_H → Prop} (K : mm_cx p R s m args meth c b qs qv B SL xs D dA ow ini cc cd mc ms) : mm_r_istore_n SL xs cs am cd mc ms rt Q (mm_XW p l e R s m args below meth c b qs B D dA QW) := by
  intro pc L h cc0 ss0 k x st hd h0 k0
  intro H locs ls hH hS hl
  obtain ⟨hx, hb, hown, hts, hSK, hini, hck, hmc, hms, hfr, hlo, hB⟩ := id K
  obtain ⟨hdg, hcr⟩ := mm_row hck hd
  exact lv_istore_n hx hb hdg rfl (mm_lh hl) (by have := Nat.le_of_ble_eq_true h0; rw [hl.1] at this; omega) rfl (fun ls2 h2 => k0 H locs ls2 hH hS (mm_st1 hl h2))
theorem ss_istore {p : Program} {l : Launch} {e : Env} {R : Room} {s : State} {m : MethodId} {args : Array Value} {below : List Frame} {meth : Method} {c : Code} {b qs qv B SL : Nat} {xs : Nat → Int32} {D : va_G} {dA : FieldType → ClassId} {QW : State → Prop} {ow : Nat} {ini : Bool} {cc : ByteArray} {cd : List (Nat × mm_R)} {mc ms : Nat} {cs : mm_Cs} {am : Nat → Nat × Nat} {rt : Option FieldType} {Q : Option Value → mm_H → Prop} (K : mm_cx p R s m args meth c b qs qv B SL xs D dA ow ini cc cd mc ms) : mm_r_istore SL xs cs am cd mc ms rt Q (mm_XW p l e R s m args below meth c b qs B D dA QW) := by
  intro pc L h cc0 ss0 k x st hd h0 k0
  intro H locs ls hH hS hl
  obtain ⟨hx, hb, hown, hts, hSK, hini, hck, hmc, hms, hfr, hlo, hB⟩ := id K
  obtain ⟨hdg, hcr⟩ := mm_row hck hd
  exact lv_istore hx hb hdg (mm_lh hl) (by have := Nat.le_of_ble_eq_true h0; rw [hl.1] at this; omega) rfl (fun ls2 h2 => k0 H locs ls2 hH hS (mm_st1 hl h2))
theorem ss_lload_n {p : Program} {l : Launch} {e : Env} {R : Room} {s : State} {m : MethodId} {args : Array Value} {below : List Frame} {meth : Method} {c : Code} {b qs qv B SL : Nat} {xs : Nat → Int32} {D : va_G} {dA : FieldType → ClassId} {QW : State → Prop} {ow : Nat} {ini : Bool} {cc : ByteArray} {cd : List (Nat × mm_R)} {mc ms : Nat} {cs : mm_Cs} {am : Nat → Nat × Nat} {rt : Option FieldType} {Q : Option Value → mm_H → Prop} (K : mm_cx p R s m args meth c b qs qv B SL xs D dA ow ini cc cd mc ms) : mm_r_lload_n SL xs cs am cd mc ms rt Q (mm_XW p l e R s m args below meth c b qs B D dA QW) := by
  intro pc L h cc0 ss0 k x st hd h0 k0
  intro H locs ls hH hS hl
  obtain ⟨hx, hb, hown, hts, hSK, hini, hck, hmc, hms, hfr, hlo, hB⟩ := id K
  obtain ⟨hdg, hcr⟩ := mm_row hck hd
  exact lv_lload_n hx hb hdg rfl (mm_lv hl h0) (k0 H locs ls hH hS hl)
theorem ss_lload {p : Program} {l : Launch} {e : Env} {R : Room} {s : State} {m : MethodId} {args : Array Value} {below : List Frame} {meth : Method} {c : Code} {b qs qv B SL : Nat} {xs : Nat → Int32} {D : va_G} {dA : FieldType → ClassId} {QW : State → Prop} {ow : Nat} {ini : Bool} {cc : ByteArray} {cd : List (Nat × mm_R)} {mc ms : Nat} {cs : mm_Cs} {am : Nat → Nat × Nat} {rt : Option FieldType} {Q : Option Value → mm_H → Prop} (K : mm_cx p R s m args meth c b qs qv B SL xs D dA ow ini cc cd mc ms) : mm_r_lload SL xs cs am cd mc ms rt Q (mm_XW p l e R s m args below meth c b qs B D dA QW) := by
  intro pc L h cc0 ss0 k x st hd h0 k0
  intro H locs ls hH hS hl
  obtain ⟨hx, hb, hown, hts, hSK, hini, hck, hmc, hms, hfr, hlo, hB⟩ := id K
  obtain ⟨hdg, hcr⟩ := mm_row hck hd
  exact lv_lload hx hb hdg (mm_lv hl h0) (k0 H locs ls hH hS hl)
theorem ss_lstore_n {p : Program} {l : Launch} {e : Env} {R : Room} {s : State} {m : MethodId} {args : Array Value} {below : List Frame} {meth : Method} {c : Code} {b qs qv B SL : Nat} {xs : Nat → Int32} {D : va_G} {dA : FieldType → ClassId} {QW : State → Prop} {ow : Nat} {ini : Bool} {cc : ByteArray} {cd : List (Nat × mm_R)} {mc ms : Nat} {cs : mm_Cs} {am : Nat → Nat × Nat} {rt : Option FieldType} {Q : Option Value → mm_H → Prop} (K : mm_cx p R s m args meth c b qs qv B SL xs D dA ow ini cc cd mc ms) : mm_r_lstore_n SL xs cs am cd mc ms rt Q (mm_XW p l e R s m args below meth c b qs B D dA QW) := by
  intro pc L h cc0 ss0 k x st hd h0 k0
  intro H locs ls hH hS hl
  obtain ⟨hx, hb, hown, hts, hSK, hini, hck, hmc, hms, hfr, hlo, hB⟩ := id K
  obtain ⟨hdg, hcr⟩ := mm_row hck hd
  exact lv_lstore_n hx hb hdg rfl (mm_lh hl) (by have := Nat.le_of_ble_eq_true h0; rw [hl.1] at this; omega) rfl (fun ls2 h2 => k0 H locs ls2 hH hS (mm_st2 hl h2))
theorem ss_lstore {p : Program} {l : Launch} {e : Env} {R : Room} {s : State} {m : MethodId} {args : Array Value} {below : List Frame} {meth : Method} {c : Code} {b qs qv B SL : Nat} {xs : Nat → Int32} {D : va_G} {dA : FieldType → ClassId} {QW : State → Prop} {ow : Nat} {ini : Bool} {cc : ByteArray} {cd : List (Nat × mm_R)} {mc ms : Nat} {cs : mm_Cs} {am : Nat → Nat × Nat} {rt : Option FieldType} {Q : Option Value → mm_H → Prop} (K : mm_cx p R s m args meth c b qs qv B SL xs D dA ow ini cc cd mc ms) : mm_r_lstore SL xs cs am cd mc ms rt Q (mm_XW p l e R s m args below meth c b qs B D dA QW) := by
  intro pc L h cc0 ss0 k x st hd h0 k0
  intro H locs ls hH hS hl
  obtain ⟨hx, hb, hown, hts, hSK, hini, hck, hmc, hms, hfr, hlo, hB⟩ := id K
  obtain ⟨hdg, hcr⟩ := mm_row hck hd
  exact lv_lstore hx hb hdg (mm_lh hl) (by have := Nat.le_of_ble_eq_true h0; rw [hl.1] at this; omega) rfl (fun ls2 h2 => k0 H locs ls2 hH hS (mm_st2 hl h2))
theorem ss_aload_n {p : Program} {l : Launch} {e : Env} {R : Room} {s : State} {m : MethodId} {args : Array Value} {below : List Frame} {meth : Method} {c : Code} {b qs qv B SL : Nat} {xs : Nat → Int32} {D : va_G} {dA : FieldType → ClassId} {QW : State → Prop} {ow : Nat} {ini : Bool} {cc : ByteArray} {cd : List (Nat × mm_R)} {mc ms : Nat} {cs : mm_Cs} {am : Nat → Nat × Nat} {rt : Option FieldType} {Q : Option Value → mm_H → Prop} (K : mm_cx p R s m args meth c b qs qv B SL xs D dA ow ini cc cd mc ms) : mm_r_aload_n SL xs cs am cd mc ms rt Q (mm_XW p l e R s m args below meth c b qs B D dA QW) := by
  intro pc L h cc0 ss0 k x st hd h0 k0
  intro H locs ls hH hS hl
  obtain ⟨hx, hb, hown, hts, hSK, hini, hck, hmc, hms, hfr, hlo, hB⟩ := id K
  obtain ⟨hdg, hcr⟩ := mm_row hck hd
  exact lv_aload_n hx hb hdg rfl (mm_lv hl h0) (k0 H locs ls hH hS hl)
theorem ss_aload {p : Program} {l : Launch} {e : Env} {R : Room} {s : State} {m : MethodId} {args : Array Value} {below : List Frame} {meth : Method} {c : Code} {b qs qv B SL : Nat} {xs : Nat → Int32} {D : va_G} {dA : FieldType → ClassId} {QW : State → Prop} {ow : Nat} {ini : Bool} {cc : ByteArray} {cd : List (Nat × mm_R)} {mc ms : Nat} {cs : mm_Cs} {am : Nat → Nat × Nat} {rt : Option FieldType} {Q : Option Value → mm_H → Prop} (K : mm_cx p R s m args meth c b qs qv B SL xs D dA ow ini cc cd mc ms) : mm_r_aload SL xs cs am cd mc ms rt Q (mm_XW p l e R s m args below meth c b qs B D dA QW) := by
  intro pc L h cc0 ss0 k x st hd h0 k0
  intro H locs ls hH hS hl
  obtain ⟨hx, hb, hown, hts, hSK, hini, hck, hmc, hms, hfr, hlo, hB⟩ := id K
  obtain ⟨hdg, hcr⟩ := mm_row hck hd
  exact lv_aload hx hb hdg (mm_lv hl h0) (k0 H locs ls hH hS hl)
theorem ss_astore_n {p : Program} {l : Launch} {e : Env} {R : Room} {s : State} {m : MethodId} {args : Array Value} {below : List Frame} {meth : Method} {c : Code} {b qs qv B SL : Nat} {xs : Nat → Int32} {D : va_G} {dA : FieldType → ClassId} {QW : State → Prop} {ow : Nat} {ini : Bool} {cc : ByteArray} {cd : List (Nat × mm_R)} {mc ms : Nat} {cs : mm_Cs} {am : Nat → Nat × Nat} {rt : Option FieldType} {Q : Option Value → mm_H → Prop} (K : mm_cx p R s m args meth c b qs qv B SL xs D dA ow ini cc cd mc ms) : mm_r_astore_n SL xs cs am cd mc ms rt Q (mm_XW p l e R s m args below meth c b qs B D dA QW) := by
  intro pc L h cc0 ss0 k x st hd h0 k0
  intro H locs ls hH hS hl
  obtain ⟨hx, hb, hown, hts, hSK, hini, hck, hmc, hms, hfr, hlo, hB⟩ := id K
  obtain ⟨hdg, hcr⟩ := mm_row hck hd
  exact lv_astore_n hx hb hdg rfl (mm_lh hl) (by have := Nat.le_of_ble_eq_true h0; rw [hl.1] at this; omega) rfl (fun ls2 h2 => k0 H locs ls2 hH hS (mm_st1 hl h2))
theorem ss_astore {p : Program} {l : Launch} {e : Env} {R : Room} {s : State} {m : MethodId} {args : Array Value} {below : List Frame} {meth : Method} {c : Code} {b qs qv B SL : Nat} {xs : Nat → Int32} {D : va_G} {dA : FieldType → ClassId} {QW : State → Prop} {ow : Nat} {ini : Bool} {cc : ByteArray} {cd : List (Nat × mm_R)} {mc ms : Nat} {cs : mm_Cs} {am : Nat → Nat × Nat} {rt : Option FieldType} {Q : Option Value → mm_H → Prop} (K : mm_cx p R s m args meth c b qs qv B SL xs D dA ow ini cc cd mc ms) : mm_r_astore SL xs cs am cd mc ms rt Q (mm_XW p l e R s m args below meth c b qs B D dA QW) := by
  intro pc L h cc0 ss0 k x st hd h0 k0
  intro H locs ls hH hS hl
  obtain ⟨hx, hb, hown, hts, hSK, hini, hck, hmc, hms, hfr, hlo, hB⟩ := id K
  obtain ⟨hdg, hcr⟩ := mm_row hck hd
  exact lv_astore hx hb hdg (mm_lh hl) (by have := Nat.le_of_ble_eq_true h0; rw [hl.1] at this; omega) rfl (fun ls2 h2 => k0 H locs ls2 hH hS (mm_st1 hl h2))
theorem ss_aload_nN {p : Program} {l : Launch} {e : Env} {R : Room} {s : State} {m : MethodId} {args : Array Value} {below : List Frame} {meth : Method} {c : Code} {b qs qv B SL : Nat} {xs : Nat → Int32} {D : va_G} {dA : FieldType → ClassId} {QW : State → Prop} {ow : Nat} {ini : Bool} {cc : ByteArray} {cd : List (Nat × mm_R)} {mc ms : Nat} {cs : mm_Cs} {am : Nat → Nat × Nat} {rt : Option FieldType} {Q : Option Value → mm_H → Prop} (K : mm_cx p R s m args meth c b qs qv B SL xs D dA ow ini cc cd mc ms) : mm_r_aload_nN SL xs cs am cd mc ms rt Q (mm_XW p l e R s m args below meth c b qs B D dA QW) := by
  intro pc L h cc0 ss0 k st hd h0 k0
  intro H locs ls hH hS hl
  obtain ⟨hx, hb, hown, hts, hSK, hini, hck, hmc, hms, hfr, hlo, hB⟩ := id K
  obtain ⟨hdg, hcr⟩ := mm_row hck hd
  exact lv_aload_nN hx hb hdg rfl (mm_lv hl h0) (k0 H locs ls hH hS hl)
theorem ss_aloadN {p : Program} {l : Launch} {e : Env} {R : Room} {s : State} {m : MethodId} {args : Array Value} {below : List Frame} {meth : Method} {c : Code} {b qs qv B SL : Nat} {xs : Nat → Int32} {D : va_G} {dA : FieldType → ClassId} {QW : State → Prop} {ow : Nat} {ini : Bool} {cc : ByteArray} {cd : List (Nat × mm_R)} {mc ms : Nat} {cs : mm_Cs} {am : Nat → Nat × Nat} {rt : Option FieldType} {Q : Option Value → mm_H → Prop} (K : mm_cx p R s m args meth c b qs qv B SL xs D dA ow ini cc cd mc ms) : mm_r_aloadN SL xs cs am cd mc ms rt Q (mm_XW p l e R s m args below meth c b qs B D dA QW) := by
  intro pc L h cc0 ss0 k st hd h0 k0
  intro H locs ls hH hS hl
  obtain ⟨hx, hb, hown, hts, hSK, hini, hck, hmc, hms, hfr, hlo, hB⟩ := id K
  obtain ⟨hdg, hcr⟩ := mm_row hck hd
  exact lv_aloadN hx hb hdg (mm_lv hl h0) (k0 H locs ls hH hS hl)
theorem ss_astore_nN {p : Program} {l : Launch} {e : Env} {R : Room} {s : State} {m : MethodId} {args : Array Value} {below : List Frame} {meth : Method} {c : Code} {b qs qv B SL : Nat} {xs : Nat → Int32} {D : va_G} {dA : FieldType → ClassId} {QW : State → Prop} {ow : Nat} {ini : Bool} {cc : ByteArray} {cd : List (Nat × mm_R)} {mc ms : Nat} {cs : mm_Cs} {am : Nat → Nat × Nat} {rt : Option FieldType} {Q : Option Value → mm_H → Prop} (K : mm_cx p R s m args meth c b qs qv B SL xs D dA ow ini cc cd mc ms) : mm_r_astore_nN SL xs cs am cd mc ms rt Q (mm_XW p l e R s m args below meth c b qs B D dA QW) := by
  intro pc L h cc0 ss0 k st hd h0 k0
  intro H locs ls hH hS hl
  obtain ⟨hx, hb, hown, hts, hSK, hini, hck, hmc, hms, hfr, hlo, hB⟩ := id K
  obtain ⟨hdg, hcr⟩ := mm_row hck hd
  exact lv_astore_nN hx hb hdg rfl (mm_lh hl) (by have := Nat.le_of_ble_eq_true h0; rw [hl.1] at this; omega) rfl (fun ls2 h2 => k0 H locs ls2 hH hS (mm_st1 (v := .null) hl h2))
theorem ss_astoreN {p : Program} {l : Launch} {e : Env} {R : Room} {s : State} {m : MethodId} {args : Array Value} {below : List Frame} {meth : Method} {c : Code} {b qs qv B SL : Nat} {xs : Nat → Int32} {D : va_G} {dA : FieldType → ClassId} {QW : State → Prop} {ow : Nat} {ini : Bool} {cc : ByteArray} {cd : List (Nat × mm_R)} {mc ms : Nat} {cs : mm_Cs} {am : Nat → Nat × Nat} {rt : Option FieldType} {Q : Option Value → mm_H → Prop} (K : mm_cx p R s m args meth c b qs qv B SL xs D dA ow ini cc cd mc ms) : mm_r_astoreN SL xs cs am cd mc ms rt Q (mm_XW p l e R s m args below meth c b qs B D dA QW) := by
  intro pc L h cc0 ss0 k st hd h0 k0
  intro H locs ls hH hS hl
  obtain ⟨hx, hb, hown, hts, hSK, hini, hck, hmc, hms, hfr, hlo, hB⟩ := id K
  obtain ⟨hdg, hcr⟩ := mm_row hck hd
  exact lv_astoreN hx hb hdg (mm_lh hl) (by have := Nat.le_of_ble_eq_true h0; rw [hl.1] at this; omega) rfl (fun ls2 h2 => k0 H locs ls2 hH hS (mm_st1 (v := .null) hl h2))
theorem ss_iinc {p : Program} {l : Launch} {e : Env} {R : Room} {s : State} {m : MethodId} {args : Array Value} {below : List Frame} {meth : Method} {c : Code} {b qs qv B SL : Nat} {xs : Nat → Int32} {D : va_G} {dA : FieldType → ClassId} {QW : State → Prop} {ow : Nat} {ini : Bool} {cc : ByteArray} {cd : List (Nat × mm_R)} {mc ms : Nat} {cs : mm_Cs} {am : Nat → Nat × Nat} {rt : Option FieldType} {Q : Option Value → mm_H → Prop} (K : mm_cx p R s m args meth c b qs qv B SL xs D dA ow ini cc cd mc ms) : mm_r_iinc SL xs cs am cd mc ms rt Q (mm_XW p l e R s m args below meth c b qs B D dA QW) := by
  intro pc L h cc0 ss0 k n x st hd h0 h1 k0
  intro H locs ls hH hS hl
  obtain ⟨hx, hb, hown, hts, hSK, hini, hck, hmc, hms, hfr, hlo, hB⟩ := id K
  obtain ⟨hdg, hcr⟩ := mm_row hck hd
  obtain ⟨j, hj⟩ := List.getElem?_of_mem (mm_ll_mem (ρ := mm_a b qs B) hl.1 h0)
  exact lv_iinc hx hb hdg (mm_lh hl) hj rfl (by have := Nat.le_of_ble_eq_true h1; rw [hl.1] at this; omega) rfl (fun ls2 h2 => k0 H locs ls2 hH hS (mm_st1 (v := .int (x + Int32.ofInt n)) hl h2))
theorem ss_iadd {p : Program} {l : Launch} {e : Env} {R : Room} {s : State} {m : MethodId} {args : Array Value} {below : List Frame} {meth : Method} {c : Code} {b qs qv B SL : Nat} {xs : Nat → Int32} {D : va_G} {dA : FieldType → ClassId} {QW : State → Prop} {ow : Nat} {ini : Bool} {cc : ByteArray} {cd : List (Nat × mm_R)} {mc ms : Nat} {cs : mm_Cs} {am : Nat → Nat × Nat} {rt : Option FieldType} {Q : Option Value → mm_H → Prop} (K : mm_cx p R s m args meth c b qs qv B SL xs D dA ow ini cc cd mc ms) : mm_r_iadd SL xs cs am cd mc ms rt Q (mm_XW p l e R s m args below meth c b qs B D dA QW) := by
  intro pc L h cc0 ss0 x y st hd  k0
  intro H locs ls hH hS hl
  obtain ⟨hx, hb, hown, hts, hSK, hini, hck, hmc, hms, hfr, hlo, hB⟩ := id K
  obtain ⟨hdg, hcr⟩ := mm_row hck hd
  exact lv_iadd hx hb hdg (k0 H locs ls hH hS hl)
theorem ss_isub {p : Program} {l : Launch} {e : Env} {R : Room} {s : State} {m : MethodId} {args : Array Value} {below : List Frame} {meth : Method} {c : Code} {b qs qv B SL : Nat} {xs : Nat → Int32} {D : va_G} {dA : FieldType → ClassId} {QW : State → Prop} {ow : Nat} {ini : Bool} {cc : ByteArray} {cd : List (Nat × mm_R)} {mc ms : Nat} {cs : mm_Cs} {am : Nat → Nat × Nat} {rt : Option FieldType} {Q : Option Value → mm_H → Prop} (K : mm_cx p R s m args meth c b qs qv B SL xs D dA ow ini cc cd mc ms) : mm_r_isub SL xs cs am cd mc ms rt Q (mm_XW p l e R s m args below meth c b qs B D dA QW) := by
  intro pc L h cc0 ss0 x y st hd  k0
  intro H locs ls hH hS hl
  obtain ⟨hx, hb, hown, hts, hSK, hini, hck, hmc, hms, hfr, hlo, hB⟩ := id K
  obtain ⟨hdg, hcr⟩ := mm_row hck hd
  exact lv_isub hx hb hdg (k0 H locs ls hH hS hl)
theorem ss_imul {p : Program} {l : Launch} {e : Env} {R : Room} {s : State} {m : MethodId} {args : Array Value} {below : List Frame} {meth : Method} {c : Code} {b qs qv B SL : Nat} {xs : Nat → Int32} {D : va_G} {dA : FieldType → ClassId} {QW : State → Prop} {ow : Nat} {ini : Bool} {cc : ByteArray} {cd : List (Nat × mm_R)} {mc ms : Nat} {cs : mm_Cs} {am : Nat → Nat × Nat} {rt : Option FieldType} {Q : Option Value → mm_H → Prop} (K : mm_cx p R s m args meth c b qs qv B SL xs D dA ow ini cc cd mc ms) : mm_r_imul SL xs cs am cd mc ms rt Q (mm_XW p l e R s m args below meth c b qs B D dA QW) := by
  intro pc L h cc0 ss0 x y st hd  k0
  intro H locs ls hH hS hl
  obtain ⟨hx, hb, hown, hts, hSK, hini, hck, hmc, hms, hfr, hlo, hB⟩ := id K
  obtain ⟨hdg, hcr⟩ := mm_row hck hd
  exact lv_imul hx hb hdg (k0 H locs ls hH hS hl)
theorem ss_iand {p : Program} {l : Launch} {e : Env} {R : Room} {s : State} {m : MethodId} {args : Array Value} {below : List Frame} {meth : Method} {c : Code} {b qs qv B SL : Nat} {xs : Nat → Int32} {D : va_G} {dA : FieldType → ClassId} {QW : State → Prop} {ow : Nat} {ini : Bool} {cc : ByteArray} {cd : List (Nat × mm_R)} {mc ms : Nat} {cs : mm_Cs} {am : Nat → Nat × Nat} {rt : Option FieldType} {Q : Option Value → mm_H → Prop} (K : mm_cx p R s m args meth c b qs qv B SL xs D dA ow ini cc cd mc ms) : mm_r_iand SL xs cs am cd mc ms rt Q (mm_XW p l e R s m args below meth c b qs B D dA QW) := by
  intro pc L h cc0 ss0 x y st hd  k0
  intro H locs ls hH hS hl
  obtain ⟨hx, hb, hown, hts, hSK, hini, hck, hmc, hms, hfr, hlo, hB⟩ := id K
  obtain ⟨hdg, hcr⟩ := mm_row hck hd
  exact lv_iand hx hb hdg (k0 H locs ls hH hS hl)
theorem ss_ior {p : Program} {l : Launch} {e : Env} {R : Room} {s : State} {m : MethodId} {args : Array Value} {below : List Frame} {meth : Method} {c : Code} {b qs qv B SL : Nat} {xs : Nat → Int32} {D : va_G} {dA : FieldType → ClassId} {QW : State → Prop} {ow : Nat} {ini : Bool} {cc : ByteArray} {cd : List (Nat × mm_R)} {mc ms : Nat} {cs : mm_Cs} {am : Nat → Nat × Nat} {rt : Option FieldType} {Q : Option Value → mm_H → Prop} (K : mm_cx p R s m args meth c b qs qv B SL xs D dA ow ini cc cd mc ms) : mm_r_ior SL xs cs am cd mc ms rt Q (mm_XW p l e R s m args below meth c b qs B D dA QW) := by
  intro pc L h cc0 ss0 x y st hd  k0
  intro H locs ls hH hS hl
  obtain ⟨hx, hb, hown, hts, hSK, hini, hck, hmc, hms, hfr, hlo, hB⟩ := id K
  obtain ⟨hdg, hcr⟩ := mm_row hck hd
  exact lv_ior hx hb hdg (k0 H locs ls hH hS hl)
theorem ss_ixor {p : Program} {l : Launch} {e : Env} {R : Room} {s : State} {m : MethodId} {args : Array Value} {below : List Frame} {meth : Method} {c : Code} {b qs qv B SL : Nat} {xs : Nat → Int32} {D : va_G} {dA : FieldType → ClassId} {QW : State → Prop} {ow : Nat} {ini : Bool} {cc : ByteArray} {cd : List (Nat × mm_R)} {mc ms : Nat} {cs : mm_Cs} {am : Nat → Nat × Nat} {rt : Option FieldType} {Q : Option Value → mm_H → Prop} (K : mm_cx p R s m args meth c b qs qv B SL xs D dA ow ini cc cd mc ms) : mm_r_ixor SL xs cs am cd mc ms rt Q (mm_XW p l e R s m args below meth c b qs B D dA QW) := by
  intro pc L h cc0 ss0 x y st hd  k0
  intro H locs ls hH hS hl
  obtain ⟨hx, hb, hown, hts, hSK, hini, hck, hmc, hms, hfr, hlo, hB⟩ := id K
  obtain ⟨hdg, hcr⟩ := mm_row hck hd
  exact lv_ixor hx hb hdg (k0 H locs ls hH hS hl)
theorem ss_ishl {p : Program} {l : Launch} {e : Env} {R : Room} {s : State} {m : MethodId} {args : Array Value} {below : List Frame} {meth : Method} {c : Code} {b qs qv B SL : Nat} {xs : Nat → Int32} {D : va_G} {dA : FieldType → ClassId} {QW : State → Prop} {ow : Nat} {ini : Bool} {cc : ByteArray} {cd : List (Nat × mm_R)} {mc ms : Nat} {cs : mm_Cs} {am : Nat → Nat × Nat} {rt : Option FieldType} {Q : Option Value → mm_H → Prop} (K : mm_cx p R s m args meth c b qs qv B SL xs D dA ow ini cc cd mc ms) : mm_r_ishl SL xs cs am cd mc ms rt Q (mm_XW p l e R s m args below meth c b qs B D dA QW) := by
  intro pc L h cc0 ss0 x y st hd  k0
  intro H locs ls hH hS hl
  obtain ⟨hx, hb, hown, hts, hSK, hini, hck, hmc, hms, hfr, hlo, hB⟩ := id K
  obtain ⟨hdg, hcr⟩ := mm_row hck hd
  exact lv_ishl hx hb hdg (k0 H locs ls hH hS hl)
theorem ss_ishr {p : Program} {l : Launch} {e : Env} {R : Room} {s : State} {m : MethodId} {args : Array Value} {below : List Frame} {meth : Method} {c : Code} {b qs qv B SL : Nat} {xs : Nat → Int32} {D : va_G} {dA : FieldType → ClassId} {QW : State → Prop} {ow : Nat} {ini : Bool} {cc : ByteArray} {cd : List (Nat × mm_R)} {mc ms : Nat} {cs : mm_Cs} {am : Nat → Nat × Nat} {rt : Option FieldType} {Q : Option Value → mm_H → Prop} (K : mm_cx p R s m args meth c b qs qv B SL xs D dA ow ini cc cd mc ms) : mm_r_ishr SL xs cs am cd mc ms rt Q (mm_XW p l e R s m args below meth c b qs B D dA QW) := by
  intro pc L h cc0 ss0 x y st hd  k0
  intro H locs ls hH hS hl
  obtain ⟨hx, hb, hown, hts, hSK, hini, hck, hmc, hms, hfr, hlo, hB⟩ := id K
  obtain ⟨hdg, hcr⟩ := mm_row hck hd
  exact lv_ishr hx hb hdg (k0 H locs ls hH hS hl)
theorem ss_iushr {p : Program} {l : Launch} {e : Env} {R : Room} {s : State} {m : MethodId} {args : Array Value} {below : List Frame} {meth : Method} {c : Code} {b qs qv B SL : Nat} {xs : Nat → Int32} {D : va_G} {dA : FieldType → ClassId} {QW : State → Prop} {ow : Nat} {ini : Bool} {cc : ByteArray} {cd : List (Nat × mm_R)} {mc ms : Nat} {cs : mm_Cs} {am : Nat → Nat × Nat} {rt : Option FieldType} {Q : Option Value → mm_H → Prop} (K : mm_cx p R s m args meth c b qs qv B SL xs D dA ow ini cc cd mc ms) : mm_r_iushr SL xs cs am cd mc ms rt Q (mm_XW p l e R s m args below meth c b qs B D dA QW) := by
  intro pc L h cc0 ss0 x y st hd  k0
  intro H locs ls hH hS hl
  obtain ⟨hx, hb, hown, hts, hSK, hini, hck, hmc, hms, hfr, hlo, hB⟩ := id K
  obtain ⟨hdg, hcr⟩ := mm_row hck hd
  exact lv_iushr hx hb hdg rfl (k0 H locs ls hH hS hl)
theorem ss_idiv {p : Program} {l : Launch} {e : Env} {R : Room} {s : State} {m : MethodId} {args : Array Value} {below : List Frame} {meth : Method} {c : Code} {b qs qv B SL : Nat} {xs : Nat → Int32} {D : va_G} {dA : FieldType → ClassId} {QW : State → Prop} {ow : Nat} {ini : Bool} {cc : ByteArray} {cd : List (Nat × mm_R)} {mc ms : Nat} {cs : mm_Cs} {am : Nat → Nat × Nat} {rt : Option FieldType} {Q : Option Value → mm_H → Prop} (K : mm_cx p R s m args meth c b qs qv B SL xs D dA ow ini cc cd mc ms) : mm_r_idiv SL xs cs am cd mc ms rt Q (mm_XW p l e R s m args below meth c b qs B D dA QW) := by
  intro pc L h cc0 ss0 x y st hd h0 k0
  intro H locs ls hH hS hl
  obtain ⟨hx, hb, hown, hts, hSK, hini, hck, hmc, hms, hfr, hlo, hB⟩ := id K
  obtain ⟨hdg, hcr⟩ := mm_row hck hd
  exact lv_idiv hx hb hdg h0 (k0 H locs ls hH hS hl)
theorem ss_irem {p : Program} {l : Launch} {e : Env} {R : Room} {s : State} {m : MethodId} {args : Array Value} {below : List Frame} {meth : Method} {c : Code} {b qs qv B SL : Nat} {xs : Nat → Int32} {D : va_G} {dA : FieldType → ClassId} {QW : State → Prop} {ow : Nat} {ini : Bool} {cc : ByteArray} {cd : List (Nat × mm_R)} {mc ms : Nat} {cs : mm_Cs} {am : Nat → Nat × Nat} {rt : Option FieldType} {Q : Option Value → mm_H → Prop} (K : mm_cx p R s m args meth c b qs qv B SL xs D dA ow ini cc cd mc ms) : mm_r_irem SL xs cs am cd mc ms rt Q (mm_XW p l e R s m args below meth c b qs B D dA QW) := by
  intro pc L h cc0 ss0 x y st hd h0 k0
  intro H locs ls hH hS hl
  obtain ⟨hx, hb, hown, hts, hSK, hini, hck, hmc, hms, hfr, hlo, hB⟩ := id K
  obtain ⟨hdg, hcr⟩ := mm_row hck hd
  exact lv_irem hx hb hdg h0 (k0 H locs ls hH hS hl)
theorem ss_ineg {p : Program} {l : Launch} {e : Env} {R : Room} {s : State} {m : MethodId} {args : Array Value} {below : List Frame} {meth : Method} {c : Code} {b qs qv B SL : Nat} {xs : Nat → Int32} {D : va_G} {dA : FieldType → ClassId} {QW : State → Prop} {ow : Nat} {ini : Bool} {cc : ByteArray} {cd : List (Nat × mm_R)} {mc ms : Nat} {cs : mm_Cs} {am : Nat → Nat × Nat} {rt : Option FieldType} {Q : Option Value → mm_H → Prop} (K : mm_cx p R s m args meth c b qs qv B SL xs D dA ow ini cc cd mc ms) : mm_r_ineg SL xs cs am cd mc ms rt Q (mm_XW p l e R s m args below meth c b qs B D dA QW) := by
  intro pc L h cc0 ss0 x st hd  k0
  intro H locs ls hH hS hl
  obtain ⟨hx, hb, hown, hts, hSK, hini, hck, hmc, hms, hfr, hlo, hB⟩ := id K
  obtain ⟨hdg, hcr⟩ := mm_row hck hd
  exact lv_ineg hx hb hdg (k0 H locs ls hH hS hl)
theorem ss_ladd {p : Program} {l : Launch} {e : Env} {R : Room} {s : State} {m : MethodId} {args : Array Value} {below : List Frame} {meth : Method} {c : Code} {b qs qv B SL : Nat} {xs : Nat → Int32} {D : va_G} {dA : FieldType → ClassId} {QW : State → Prop} {ow : Nat} {ini : Bool} {cc : ByteArray} {cd : List (Nat × mm_R)} {mc ms : Nat} {cs : mm_Cs} {am : Nat → Nat × Nat} {rt : Option FieldType} {Q : Option Value → mm_H → Prop} (K : mm_cx p R s m args meth c b qs qv B SL xs D dA ow ini cc cd mc ms) : mm_r_ladd SL xs cs am cd mc ms rt Q (mm_XW p l e R s m args below meth c b qs B D dA QW) := by
  intro pc L h cc0 ss0 x y st hd  k0
  intro H locs ls hH hS hl
  obtain ⟨hx, hb, hown, hts, hSK, hini, hck, hmc, hms, hfr, hlo, hB⟩ := id K
  obtain ⟨hdg, hcr⟩ := mm_row hck hd
  exact lv_ladd hx hb hdg (k0 H locs ls hH hS hl)
theorem ss_lsub {p : Program} {l : Launch} {e : Env} {R : Room} {s : State} {m : MethodId} {args : Array Value} {below : List Frame} {meth : Method} {c : Code} {b qs qv B SL : Nat} {xs : Nat → Int32} {D : va_G} {dA : FieldType → ClassId} {QW : State → Prop} {ow : Nat} {ini : Bool} {cc : ByteArray} {cd : List (Nat × mm_R)} {mc ms : Nat} {cs : mm_Cs} {am : Nat → Nat × Nat} {rt : Option FieldType} {Q : Option Value → mm_H → Prop} (K : mm_cx p R s m args meth c b qs qv B SL xs D dA ow ini cc cd mc ms) : mm_r_lsub SL xs cs am cd mc ms rt Q (mm_XW p l e R s m args below meth c b qs B D dA QW) := by
  intro pc L h cc0 ss0 x y st hd  k0
  intro H locs ls hH hS hl
  obtain ⟨hx, hb, hown, hts, hSK, hini, hck, hmc, hms, hfr, hlo, hB⟩ := id K
  obtain ⟨hdg, hcr⟩ := mm_row hck hd
  exact lv_lsub hx hb hdg (k0 H locs ls hH hS hl)
theorem ss_lmul {p : Program} {l : Launch} {e : Env} {R : Room} {s : State} {m : MethodId} {args : Array Value} {below : List Frame} {meth : Method} {c : Code} {b qs qv B SL : Nat} {xs : Nat → Int32} {D : va_G} {dA : FieldType → ClassId} {QW : State → Prop} {ow : Nat} {ini : Bool} {cc : ByteArray} {cd : List (Nat × mm_R)} {mc ms : Nat} {cs : mm_Cs} {am : Nat → Nat × Nat} {rt : Option FieldType} {Q : Option Value → mm_H → Prop} (K : mm_cx p R s m args meth c b qs qv B SL xs D dA ow ini cc cd mc ms) : mm_r_lmul SL xs cs am cd mc ms rt Q (mm_XW p l e R s m args below meth c b qs B D dA QW) := by
  intro pc L h cc0 ss0 x y st hd  k0
  intro H locs ls hH hS hl
  obtain ⟨hx, hb, hown, hts, hSK, hini, hck, hmc, hms, hfr, hlo, hB⟩ := id K
  obtain ⟨hdg, hcr⟩ := mm_row hck hd
  exact lv_lmul hx hb hdg (k0 H locs ls hH hS hl)
theorem ss_land {p : Program} {l : Launch} {e : Env} {R : Room} {s : State} {m : MethodId} {args : Array Value} {below : List Frame} {meth : Method} {c : Code} {b qs qv B SL : Nat} {xs : Nat → Int32} {D : va_G} {dA : FieldType → ClassId} {QW : State → Prop} {ow : Nat} {ini : Bool} {cc : ByteArray} {cd : List (Nat × mm_R)} {mc ms : Nat} {cs : mm_Cs} {am : Nat → Nat × Nat} {rt : Option FieldType} {Q : Option Value → mm_H → Prop} (K : mm_cx p R s m args meth c b qs qv B SL xs D dA ow ini cc cd mc ms) : mm_r_land SL xs cs am cd mc ms rt Q (mm_XW p l e R s m args below meth c b qs B D dA QW) := by
  intro pc L h cc0 ss0 x y st hd  k0
  intro H locs ls hH hS hl
  obtain ⟨hx, hb, hown, hts, hSK, hini, hck, hmc, hms, hfr, hlo, hB⟩ := id K
  obtain ⟨hdg, hcr⟩ := mm_row hck hd
  exact lv_land hx hb hdg (k0 H locs ls hH hS hl)
theorem ss_lor {p : Program} {l : Launch} {e : Env} {R : Room} {s : State} {m : MethodId} {args : Array Value} {below : List Frame} {meth : Method} {c : Code} {b qs qv B SL : Nat} {xs : Nat → Int32} {D : va_G} {dA : FieldType → ClassId} {QW : State → Prop} {ow : Nat} {ini : Bool} {cc : ByteArray} {cd : List (Nat × mm_R)} {mc ms : Nat} {cs : mm_Cs} {am : Nat → Nat × Nat} {rt : Option FieldType} {Q : Option Value → mm_H → Prop} (K : mm_cx p R s m args meth c b qs qv B SL xs D dA ow ini cc cd mc ms) : mm_r_lor SL xs cs am cd mc ms rt Q (mm_XW p l e R s m args below meth c b qs B D dA QW) := by
  intro pc L h cc0 ss0 x y st hd  k0
  intro H locs ls hH hS hl
  obtain ⟨hx, hb, hown, hts, hSK, hini, hck, hmc, hms, hfr, hlo, hB⟩ := id K
  obtain ⟨hdg, hcr⟩ := mm_row hck hd
  exact lv_lor hx hb hdg (k0 H locs ls hH hS hl)
theorem ss_lxor {p : Program} {l : Launch} {e : Env} {R : Room} {s : State} {m : MethodId} {args : Array Value} {below : List Frame} {meth : Method} {c : Code} {b qs qv B SL : Nat} {xs : Nat → Int32} {D : va_G} {dA : FieldType → ClassId} {QW : State → Prop} {ow : Nat} {ini : Bool} {cc : ByteArray} {cd : List (Nat × mm_R)} {mc ms : Nat} {cs : mm_Cs} {am : Nat → Nat × Nat} {rt : Option FieldType} {Q : Option Value → mm_H → Prop} (K : mm_cx p R s m args meth c b qs qv B SL xs D dA ow ini cc cd mc ms) : mm_r_lxor SL xs cs am cd mc ms rt Q (mm_XW p l e R s m args below meth c b qs B D dA QW) := by
  intro pc L h cc0 ss0 x y st hd  k0
  intro H locs ls hH hS hl
  obtain ⟨hx, hb, hown, hts, hSK, hini, hck, hmc, hms, hfr, hlo, hB⟩ := id K
  obtain ⟨hdg, hcr⟩ := mm_row hck hd
  exact lv_lxor hx hb hdg (k0 H locs ls hH hS hl)
theorem ss_ldiv {p : Program} {l : Launch} {e : Env} {R : Room} {s : State} {m : MethodId} {args : Array Value} {below : List Frame} {meth : Method} {c : Code} {b qs qv B SL : Nat} {xs : Nat → Int32} {D : va_G} {dA : FieldType → ClassId} {QW : State → Prop} {ow : Nat} {ini : Bool} {cc : ByteArray} {cd : List (Nat × mm_R)} {mc ms : Nat} {cs : mm_Cs} {am : Nat → Nat × Nat} {rt : Option FieldType} {Q : Option Value → mm_H → Prop} (K : mm_cx p R s m args meth c b qs qv B SL xs D dA ow ini cc cd mc ms) : mm_r_ldiv SL xs cs am cd mc ms rt Q (mm_XW p l e R s m args below meth c b qs B D dA QW) := by
  intro pc L h cc0 ss0 x y st hd h0 k0
  intro H locs ls hH hS hl
  obtain ⟨hx, hb, hown, hts, hSK, hini, hck, hmc, hms, hfr, hlo, hB⟩ := id K
  obtain ⟨hdg, hcr⟩ := mm_row hck hd
  exact lv_ldiv hx hb hdg h0 (k0 H locs ls hH hS hl)
theorem ss_lrem {p : Program} {l : Launch} {e : Env} {R : Room} {s : State} {m : MethodId} {args : Array Value} {below : List Frame} {meth : Method} {c : Code} {b qs qv B SL : Nat} {xs : Nat → Int32} {D : va_G} {dA : FieldType → ClassId} {QW : State → Prop} {ow : Nat} {ini : Bool} {cc : ByteArray} {cd : List (Nat × mm_R)} {mc ms : Nat} {cs : mm_Cs} {am : Nat → Nat × Nat} {rt : Option FieldType} {Q : Option Value → mm_H → Prop} (K : mm_cx p R s m args meth c b qs qv B SL xs D dA ow ini cc cd mc ms) : mm_r_lrem SL xs cs am cd mc ms rt Q (mm_XW p l e R s m args below meth c b qs B D dA QW) := by
  intro pc L h cc0 ss0 x y st hd h0 k0
  intro H locs ls hH hS hl
  obtain ⟨hx, hb, hown, hts, hSK, hini, hck, hmc, hms, hfr, hlo, hB⟩ := id K
  obtain ⟨hdg, hcr⟩ := mm_row hck hd
  exact lv_lrem hx hb hdg h0 (k0 H locs ls hH hS hl)
theorem ss_lshl {p : Program} {l : Launch} {e : Env} {R : Room} {s : State} {m : MethodId} {args : Array Value} {below : List Frame} {meth : Method} {c : Code} {b qs qv B SL : Nat} {xs : Nat → Int32} {D : va_G} {dA : FieldType → ClassId} {QW : State → Prop} {ow : Nat} {ini : Bool} {cc : ByteArray} {cd : List (Nat × mm_R)} {mc ms : Nat} {cs : mm_Cs} {am : Nat → Nat × Nat} {rt : Option FieldType} {Q : Option Value → mm_H → Prop} (K : mm_cx p R s m args meth c b qs qv B SL xs D dA ow ini cc cd mc ms) : mm_r_lshl SL xs cs am cd mc ms rt Q (mm_XW p l e R s m args below meth c b qs B D dA QW) := by
  intro pc L h cc0 ss0 x y st hd  k0
  intro H locs ls hH hS hl
  obtain ⟨hx, hb, hown, hts, hSK, hini, hck, hmc, hms, hfr, hlo, hB⟩ := id K
  obtain ⟨hdg, hcr⟩ := mm_row hck hd
  exact lv_lshl hx hb hdg rfl (k0 H locs ls hH hS hl)
theorem ss_lshr {p : Program} {l : Launch} {e : Env} {R : Room} {s : State} {m : MethodId} {args : Array Value} {below : List Frame} {meth : Method} {c : Code} {b qs qv B SL : Nat} {xs : Nat → Int32} {D : va_G} {dA : FieldType → ClassId} {QW : State → Prop} {ow : Nat} {ini : Bool} {cc : ByteArray} {cd : List (Nat × mm_R)} {mc ms : Nat} {cs : mm_Cs} {am : Nat → Nat × Nat} {rt : Option FieldType} {Q : Option Value → mm_H → Prop} (K : mm_cx p R s m args meth c b qs qv B SL xs D dA ow ini cc cd mc ms) : mm_r_lshr SL xs cs am cd mc ms rt Q (mm_XW p l e R s m args below meth c b qs B D dA QW) := by
  intro pc L h cc0 ss0 x y st hd  k0
  intro H locs ls hH hS hl
  obtain ⟨hx, hb, hown, hts, hSK, hini, hck, hmc, hms, hfr, hlo, hB⟩ := id K
  obtain ⟨hdg, hcr⟩ := mm_row hck hd
  exact lv_lshr hx hb hdg rfl (k0 H locs ls hH hS hl)
theorem ss_lushr {p : Program} {l : Launch} {e : Env} {R : Room} {s : State} {m : MethodId} {args : Array Value} {below : List Frame} {meth : Method} {c : Code} {b qs qv B SL : Nat} {xs : Nat → Int32} {D : va_G} {dA : FieldType → ClassId} {QW : State → Prop} {ow : Nat} {ini : Bool} {cc : ByteArray} {cd : List (Nat × mm_R)} {mc ms : Nat} {cs : mm_Cs} {am : Nat → Nat × Nat} {rt : Option FieldType} {Q : Option Value → mm_H → Prop} (K : mm_cx p R s m args meth c b qs qv B SL xs D dA ow ini cc cd mc ms) : mm_r_lushr SL xs cs am cd mc ms rt Q (mm_XW p l e R s m args below meth c b qs B D dA QW) := by
  intro pc L h cc0 ss0 x y st hd  k0
  intro H locs ls hH hS hl
  obtain ⟨hx, hb, hown, hts, hSK, hini, hck, hmc, hms, hfr, hlo, hB⟩ := id K
  obtain ⟨hdg, hcr⟩ := mm_row hck hd
  exact lv_lushr hx hb hdg rfl (k0 H locs ls hH hS hl)
theorem ss_lcmp {p : Program} {l : Launch} {e : Env} {R : Room} {s : State} {m : MethodId} {args : Array Value} {below : List Frame} {meth : Method} {c : Code} {b qs qv B SL : Nat} {xs : Nat → Int32} {D : va_G} {dA : FieldType → ClassId} {QW : State → Prop} {ow : Nat} {ini : Bool} {cc : ByteArray} {cd : List (Nat × mm_R)} {mc ms : Nat} {cs : mm_Cs} {am : Nat → Nat × Nat} {rt : Option FieldType} {Q : Option Value → mm_H → Prop} (K : mm_cx p R s m args meth c b qs qv B SL xs D dA ow ini cc cd mc ms) : mm_r_lcmp SL xs cs am cd mc ms rt Q (mm_XW p l e R s m args below meth c b qs B D dA QW) := by
  intro pc L h cc0 ss0 x y st hd  k0
  intro H locs ls hH hS hl
  obtain ⟨hx, hb, hown, hts, hSK, hini, hck, hmc, hms, hfr, hlo, hB⟩ := id K
  obtain ⟨hdg, hcr⟩ := mm_row hck hd
  exact W.lcmp hx hb hdg (k0 H locs ls hH hS hl)
theorem ss_i2l {p : Program} {l : Launch} {e : Env} {R : Room} {s : State} {m : MethodId} {args : Array Value} {below : List Frame} {meth : Method} {c : Code} {b qs qv B SL : Nat} {xs : Nat → Int32} {D : va_G} {dA : FieldType → ClassId} {QW : State → Prop} {ow : Nat} {ini : Bool} {cc : ByteArray} {cd : List (Nat × mm_R)} {mc ms : Nat} {cs : mm_Cs} {am : Nat → Nat × Nat} {rt : Option FieldType} {Q : Option Value → mm_H → Prop} (K : mm_cx p R s m args meth c b qs qv B SL xs D dA ow ini cc cd mc ms) : mm_r_i2l SL xs cs am cd mc ms rt Q (mm_XW p l e R s m args below meth c b qs B D dA QW) := by
  intro pc L h cc0 ss0 x st hd  k0
  intro H locs ls hH hS hl
  obtain ⟨hx, hb, hown, hts, hSK, hini, hck, hmc, hms, hfr, hlo, hB⟩ := id K
  obtain ⟨hdg, hcr⟩ := mm_row hck hd
  exact lv_i2l hx hb hdg rfl (k0 H locs ls hH hS hl)
theorem ss_l2i {p : Program} {l : Launch} {e : Env} {R : Room} {s : State} {m : MethodId} {args : Array Value} {below : List Frame} {meth : Method} {c : Code} {b qs qv B SL : Nat} {xs : Nat → Int32} {D : va_G} {dA : FieldType → ClassId} {QW : State → Prop} {ow : Nat} {ini : Bool} {cc : ByteArray} {cd : List (Nat × mm_R)} {mc ms : Nat} {cs : mm_Cs} {am : Nat → Nat × Nat} {rt : Option FieldType} {Q : Option Value → mm_H → Prop} (K : mm_cx p R s m args meth c b qs qv B SL xs D dA ow ini cc cd mc ms) : mm_r_l2i SL xs cs am cd mc ms rt Q (mm_XW p l e R s m args below meth c b qs B D dA QW) := by
  intro pc L h cc0 ss0 x st hd  k0
  intro H locs ls hH hS hl
  obtain ⟨hx, hb, hown, hts, hSK, hini, hck, hmc, hms, hfr, hlo, hB⟩ := id K
  obtain ⟨hdg, hcr⟩ := mm_row hck hd
  exact lv_l2i hx hb hdg rfl (k0 H locs ls hH hS hl)
theorem ss_i2b {p : Program} {l : Launch} {e : Env} {R : Room} {s : State} {m : MethodId} {args : Array Value} {below : List Frame} {meth : Method} {c : Code} {b qs qv B SL : Nat} {xs : Nat → Int32} {D : va_G} {dA : FieldType → ClassId} {QW : State → Prop} {ow : Nat} {ini : Bool} {cc : ByteArray} {cd : List (Nat × mm_R)} {mc ms : Nat} {cs : mm_Cs} {am : Nat → Nat × Nat} {rt : Option FieldType} {Q : Option Value → mm_H → Prop} (K : mm_cx p R s m args meth c b qs qv B SL xs D dA ow ini cc cd mc ms) : mm_r_i2b SL xs cs am cd mc ms rt Q (mm_XW p l e R s m args below meth c b qs B D dA QW) := by
  intro pc L h cc0 ss0 x st hd  k0
  intro H locs ls hH hS hl
  obtain ⟨hx, hb, hown, hts, hSK, hini, hck, hmc, hms, hfr, hlo, hB⟩ := id K
  obtain ⟨hdg, hcr⟩ := mm_row hck hd
  exact lv_i2b hx hb hdg rfl (k0 H locs ls hH hS hl)
theorem ss_dup {p : Program} {l : Launch} {e : Env} {R : Room} {s : State} {m : MethodId} {args : Array Value} {below : List Frame} {meth : Method} {c : Code} {b qs qv B SL : Nat} {xs : Nat → Int32} {D : va_G} {dA : FieldType → ClassId} {QW : State → Prop} {ow : Nat} {ini : Bool} {cc : ByteArray} {cd : List (Nat × mm_R)} {mc ms : Nat} {cs : mm_Cs} {am : Nat → Nat × Nat} {rt : Option FieldType} {Q : Option Value → mm_H → Prop} (K : mm_cx p R s m args meth c b qs qv B SL xs D dA ow ini cc cd mc ms) : mm_r_dup SL xs cs am cd mc ms rt Q (mm_XW p l e R s m args below meth c b qs B D dA QW) := by
  intro pc L h cc0 ss0 v st hd h0 k0
  intro H locs ls hH hS hl
  obtain ⟨hx, hb, hown, hts, hSK, hini, hck, hmc, hms, hfr, hlo, hB⟩ := id K
  obtain ⟨hdg, hcr⟩ := mm_row hck hd
  exact lv_dup hx hb hdg ((mm_cat _ v).trans h0) (k0 H locs ls hH hS hl)
theorem ss_pop {p : Program} {l : Launch} {e : Env} {R : Room} {s : State} {m : MethodId} {args : Array Value} {below : List Frame} {meth : Method} {c : Code} {b qs qv B SL : Nat} {xs : Nat → Int32} {D : va_G} {dA : FieldType → ClassId} {QW : State → Prop} {ow : Nat} {ini : Bool} {cc : ByteArray} {cd : List (Nat × mm_R)} {mc ms : Nat} {cs : mm_Cs} {am : Nat → Nat × Nat} {rt : Option FieldType} {Q : Option Value → mm_H → Prop} (K : mm_cx p R s m args meth c b qs qv B SL xs D dA ow ini cc cd mc ms) : mm_r_pop SL xs cs am cd mc ms rt Q (mm_XW p l e R s m args below meth c b qs B D dA QW) := by
  intro pc L h cc0 ss0 v st hd h0 k0
  intro H locs ls hH hS hl
  obtain ⟨hx, hb, hown, hts, hSK, hini, hck, hmc, hms, hfr, hlo, hB⟩ := id K
  obtain ⟨hdg, hcr⟩ := mm_row hck hd
  exact lv_pop hx hb hdg ((mm_cat _ v).trans h0) (k0 H locs ls hH hS hl)
theorem ss_dup2 {p : Program} {l : Launch} {e : Env} {R : Room} {s : State} {m : MethodId} {args : Array Value} {below : List Frame} {meth : Method} {c : Code} {b qs qv B SL : Nat} {xs : Nat → Int32} {D : va_G} {dA : FieldType → ClassId} {QW : State → Prop} {ow : Nat} {ini : Bool} {cc : ByteArray} {cd : List (Nat × mm_R)} {mc ms : Nat} {cs : mm_Cs} {am : Nat → Nat × Nat} {rt : Option FieldType} {Q : Option Value → mm_H → Prop} (K : mm_cx p R s m args meth c b qs qv B SL xs D dA ow ini cc cd mc ms) : mm_r_dup2 SL xs cs am cd mc ms rt Q (mm_XW p l e R s m args below meth c b qs B D dA QW) := by
  intro pc L h cc0 ss0 v w st hd h0 h1 k0
  intro H locs ls hH hS hl
  obtain ⟨hx, hb, hown, hts, hSK, hini, hck, hmc, hms, hfr, hlo, hB⟩ := id K
  obtain ⟨hdg, hcr⟩ := mm_row hck hd
  exact lv_dup2_11 hx hb hdg ((mm_cat _ v).trans h0) ((mm_cat _ w).trans h1) (k0 H locs ls hH hS hl)
theorem ss_pop2 {p : Program} {l : Launch} {e : Env} {R : Room} {s : State} {m : MethodId} {args : Array Value} {below : List Frame} {meth : Method} {c : Code} {b qs qv B SL : Nat} {xs : Nat → Int32} {D : va_G} {dA : FieldType → ClassId} {QW : State → Prop} {ow : Nat} {ini : Bool} {cc : ByteArray} {cd : List (Nat × mm_R)} {mc ms : Nat} {cs : mm_Cs} {am : Nat → Nat × Nat} {rt : Option FieldType} {Q : Option Value → mm_H → Prop} (K : mm_cx p R s m args meth c b qs qv B SL xs D dA ow ini cc cd mc ms) : mm_r_pop2 SL xs cs am cd mc ms rt Q (mm_XW p l e R s m args below meth c b qs B D dA QW) := by
  intro pc L h cc0 ss0 v st hd h0 k0
  intro H locs ls hH hS hl
  obtain ⟨hx, hb, hown, hts, hSK, hini, hck, hmc, hms, hfr, hlo, hB⟩ := id K
  obtain ⟨hdg, hcr⟩ := mm_row hck hd
  exact lv_pop2_2 hx hb hdg ((mm_cat _ v).trans h0) (k0 H locs ls hH hS hl)
theorem ss_if_eq {p : Program} {l : Launch} {e : Env} {R : Room} {s : State} {m : MethodId} {args : Array Value} {below : List Frame} {meth : Method} {c : Code} {b qs qv B SL : Nat} {xs : Nat → Int32} {D : va_G} {dA : FieldType → ClassId} {QW : State → Prop} {ow : Nat} {ini : Bool} {cc : ByteArray} {cd : List (Nat × mm_R)} {mc ms : Nat} {cs : mm_Cs} {am : Nat → Nat × Nat} {rt : Option FieldType} {Q : Option Value → mm_H → Prop} (K : mm_cx p R s m args meth c b qs qv B SL xs D dA ow ini cc cd mc ms) : mm_r_if_eq SL xs cs am cd mc ms rt Q (mm_XW p l e R s m args below meth c b qs B D dA QW) := by
  intro pc L h cc0 ss0 off t x st hd  k0 k1
  intro H locs ls hH hS hl
  obtain ⟨hx, hb, hown, hts, hSK, hini, hck, hmc, hms, hfr, hlo, hB⟩ := id K
  obtain ⟨hdg, hcr⟩ := mm_row hck hd
  exact lv_if_eq hx hb hdg (of_decide_eq_true hcr) (fun q => k0 q H locs ls hH hS hl) (fun q => k1 q H locs ls hH hS hl)
theorem ss_if_ne {p : Program} {l : Launch} {e : Env} {R : Room} {s : State} {m : MethodId} {args : Array Value} {below : List Frame} {meth : Method} {c : Code} {b qs qv B SL : Nat} {xs : Nat → Int32} {D : va_G} {dA : FieldType → ClassId} {QW : State → Prop} {ow : Nat} {ini : Bool} {cc : ByteArray} {cd : List (Nat × mm_R)} {mc ms : Nat} {cs : mm_Cs} {am : Nat → Nat × Nat} {rt : Option FieldType} {Q : Option Value → mm_H → Prop} (K : mm_cx p R s m args meth c b qs qv B SL xs D dA ow ini cc cd mc ms) : mm_r_if_ne SL xs cs am cd mc ms rt Q (mm_XW p l e R s m args below meth c b qs B D dA QW) := by
  intro pc L h cc0 ss0 off t x st hd  k0 k1
  intro H locs ls hH hS hl
  obtain ⟨hx, hb, hown, hts, hSK, hini, hck, hmc, hms, hfr, hlo, hB⟩ := id K
  obtain ⟨hdg, hcr⟩ := mm_row hck hd
  exact lv_if_ne hx hb hdg (of_decide_eq_true hcr) (fun q => k0 q H locs ls hH hS hl) (fun q => k1 q H locs ls hH hS hl)
theorem ss_if_lt {p : Program} {l : Launch} {e : Env} {R : Room} {s : State} {m : MethodId} {args : Array Value} {below : List Frame} {meth : Method} {c : Code} {b qs qv B SL : Nat} {xs : Nat → Int32} {D : va_G} {dA : FieldType → ClassId} {QW : State → Prop} {ow : Nat} {ini : Bool} {cc : ByteArray} {cd : List (Nat × mm_R)} {mc ms : Nat} {cs : mm_Cs} {am : Nat → Nat × Nat} {rt : Option FieldType} {Q : Option Value → mm_H → Prop} (K : mm_cx p R s m args meth c b qs qv B SL xs D dA ow ini cc cd mc ms) : mm_r_if_lt SL xs cs am cd mc ms rt Q (mm_XW p l e R s m args below meth c b qs B D dA QW) := by
  intro pc L h cc0 ss0 off t x st hd  k0 k1
  intro H locs ls hH hS hl
  obtain ⟨hx, hb, hown, hts, hSK, hini, hck, hmc, hms, hfr, hlo, hB⟩ := id K
  obtain ⟨hdg, hcr⟩ := mm_row hck hd
  exact lv_if_lt hx hb hdg (of_decide_eq_true hcr) (fun q => k0 q H locs ls hH hS hl) (fun q => k1 q H locs ls hH hS hl)
theorem ss_if_ge {p : Program} {l : Launch} {e : Env} {R : Room} {s : State} {m : MethodId} {args : Array Value} {below : List Frame} {meth : Method} {c : Code} {b qs qv B SL : Nat} {xs : Nat → Int32} {D : va_G} {dA : FieldType → ClassId} {QW : State → Prop} {ow : Nat} {ini : Bool} {cc : ByteArray} {cd : List (Nat × mm_R)} {mc ms : Nat} {cs : mm_Cs} {am : Nat → Nat × Nat} {rt : Option FieldType} {Q : Option Value → mm_H → Prop} (K : mm_cx p R s m args meth c b qs qv B SL xs D dA ow ini cc cd mc ms) : mm_r_if_ge SL xs cs am cd mc ms rt Q (mm_XW p l e R s m args below meth c b qs B D dA QW) := by
  intro pc L h cc0 ss0 off t x st hd  k0 k1
  intro H locs ls hH hS hl
  obtain ⟨hx, hb, hown, hts, hSK, hini, hck, hmc, hms, hfr, hlo, hB⟩ := id K
  obtain ⟨hdg, hcr⟩ := mm_row hck hd
  exact lv_if_ge hx hb hdg (of_decide_eq_true hcr) (fun q => k0 q H locs ls hH hS hl) (fun q => k1 q H locs ls hH hS hl)
theorem ss_if_gt {p : Program} {l : Launch} {e : Env} {R : Room} {s : State} {m : MethodId} {args : Array Value} {below : List Frame} {meth : Method} {c : Code} {b qs qv B SL : Nat} {xs : Nat → Int32} {D : va_G} {dA : FieldType → ClassId} {QW : State → Prop} {ow : Nat} {ini : Bool} {cc : ByteArray} {cd : List (Nat × mm_R)} {mc ms : Nat} {cs : mm_Cs} {am : Nat → Nat × Nat} {rt : Option FieldType} {Q : Option Value → mm_H → Prop} (K : mm_cx p R s m args meth c b qs qv B SL xs D dA ow ini cc cd mc ms) : mm_r_if_gt SL xs cs am cd mc ms rt Q (mm_XW p l e R s m args below meth c b qs B D dA QW) := by
  intro pc L h cc0 ss0 off t x st hd  k0 k1
  intro H locs ls hH hS hl
  obtain ⟨hx, hb, hown, hts, hSK, hini, hck, hmc, hms, hfr, hlo, hB⟩ := id K
  obtain ⟨hdg, hcr⟩ := mm_row hck hd
  exact lv_if_gt hx hb hdg (of_decide_eq_true hcr) (fun q => k0 q H locs ls hH hS hl) (fun q => k1 q H locs ls hH hS hl)
theorem ss_if_le {p : Program} {l : Launch} {e : Env} {R : Room} {s : State} {m : MethodId} {args : Array Value} {below : List Frame} {meth : Method} {c : Code} {b qs qv B SL : Nat} {xs : Nat → Int32} {D : va_G} {dA : FieldType → ClassId} {QW : State → Prop} {ow : Nat} {ini : Bool} {cc : ByteArray} {cd : List (Nat × mm_R)} {mc ms : Nat} {cs : mm_Cs} {am : Nat → Nat × Nat} {rt : Option FieldType} {Q : Option Value → mm_H → Prop} (K : mm_cx p R s m args meth c b qs qv B SL xs D dA ow ini cc cd mc ms) : mm_r_if_le SL xs cs am cd mc ms rt Q (mm_XW p l e R s m args below meth c b qs B D dA QW) := by
  intro pc L h cc0 ss0 off t x st hd  k0 k1
  intro H locs ls hH hS hl
  obtain ⟨hx, hb, hown, hts, hSK, hini, hck, hmc, hms, hfr, hlo, hB⟩ := id K
  obtain ⟨hdg, hcr⟩ := mm_row hck hd
  exact lv_if_le hx hb hdg (of_decide_eq_true hcr) (fun q => k0 q H locs ls hH hS hl) (fun q => k1 q H locs ls hH hS hl)
theorem ss_ic_eq {p : Program} {l : Launch} {e : Env} {R : Room} {s : State} {m : MethodId} {args : Array Value} {below : List Frame} {meth : Method} {c : Code} {b qs qv B SL : Nat} {xs : Nat → Int32} {D : va_G} {dA : FieldType → ClassId} {QW : State → Prop} {ow : Nat} {ini : Bool} {cc : ByteArray} {cd : List (Nat × mm_R)} {mc ms : Nat} {cs : mm_Cs} {am : Nat → Nat × Nat} {rt : Option FieldType} {Q : Option Value → mm_H → Prop} (K : mm_cx p R s m args meth c b qs qv B SL xs D dA ow ini cc cd mc ms) : mm_r_ic_eq SL xs cs am cd mc ms rt Q (mm_XW p l e R s m args below meth c b qs B D dA QW) := by
  intro pc L h cc0 ss0 off t x y st hd  k0 k1
  intro H locs ls hH hS hl
  obtain ⟨hx, hb, hown, hts, hSK, hini, hck, hmc, hms, hfr, hlo, hB⟩ := id K
  obtain ⟨hdg, hcr⟩ := mm_row hck hd
  exact lv_icmp_eq hx hb hdg (of_decide_eq_true hcr) (fun q => k0 q H locs ls hH hS hl) (fun q => k1 q H locs ls hH hS hl)
theorem ss_ic_ne {p : Program} {l : Launch} {e : Env} {R : Room} {s : State} {m : MethodId} {args : Array Value} {below : List Frame} {meth : Method} {c : Code} {b qs qv B SL : Nat} {xs : Nat → Int32} {D : va_G} {dA : FieldType → ClassId} {QW : State → Prop} {ow : Nat} {ini : Bool} {cc : ByteArray} {cd : List (Nat × mm_R)} {mc ms : Nat} {cs : mm_Cs} {am : Nat → Nat × Nat} {rt : Option FieldType} {Q : Option Value → mm_H → Prop} (K : mm_cx p R s m args meth c b qs qv B SL xs D dA ow ini cc cd mc ms) : mm_r_ic_ne SL xs cs am cd mc ms rt Q (mm_XW p l e R s m args below meth c b qs B D dA QW) := by
  intro pc L h cc0 ss0 off t x y st hd  k0 k1
  intro H locs ls hH hS hl
  obtain ⟨hx, hb, hown, hts, hSK, hini, hck, hmc, hms, hfr, hlo, hB⟩ := id K
  obtain ⟨hdg, hcr⟩ := mm_row hck hd
  exact lv_icmp_ne hx hb hdg (of_decide_eq_true hcr) (fun q => k0 q H locs ls hH hS hl) (fun q => k1 q H locs ls hH hS hl)
theorem ss_ic_lt {p : Program} {l : Launch} {e : Env} {R : Room} {s : State} {m : MethodId} {args : Array Value} {below : List Frame} {meth : Method} {c : Code} {b qs qv B SL : Nat} {xs : Nat → Int32} {D : va_G} {dA : FieldType → ClassId} {QW : State → Prop} {ow : Nat} {ini : Bool} {cc : ByteArray} {cd : List (Nat × mm_R)} {mc ms : Nat} {cs : mm_Cs} {am : Nat → Nat × Nat} {rt : Option FieldType} {Q : Option Value → mm_H → Prop} (K : mm_cx p R s m args meth c b qs qv B SL xs D dA ow ini cc cd mc ms) : mm_r_ic_lt SL xs cs am cd mc ms rt Q (mm_XW p l e R s m args below meth c b qs B D dA QW) := by
  intro pc L h cc0 ss0 off t x y st hd  k0 k1
  intro H locs ls hH hS hl
  obtain ⟨hx, hb, hown, hts, hSK, hini, hck, hmc, hms, hfr, hlo, hB⟩ := id K
  obtain ⟨hdg, hcr⟩ := mm_row hck hd
  exact lv_icmp_lt hx hb hdg (of_decide_eq_true hcr) (fun q => k0 q H locs ls hH hS hl) (fun q => k1 q H locs ls hH hS hl)
theorem ss_ic_ge {p : Program} {l : Launch} {e : Env} {R : Room} {s : State} {m : MethodId} {args : Array Value} {below : List Frame} {meth : Method} {c : Code} {b qs qv B SL : Nat} {xs : Nat → Int32} {D : va_G} {dA : FieldType → ClassId} {QW : State → Prop} {ow : Nat} {ini : Bool} {cc : ByteArray} {cd : List (Nat × mm_R)} {mc ms : Nat} {cs : mm_Cs} {am : Nat → Nat × Nat} {rt : Option FieldType} {Q : Option Value → mm_H → Prop} (K : mm_cx p R s m args meth c b qs qv B SL xs D dA ow ini cc cd mc ms) : mm_r_ic_ge SL xs cs am cd mc ms rt Q (mm_XW p l e R s m args below meth c b qs B D dA QW) := by
  intro pc L h cc0 ss0 off t x y st hd  k0 k1
  intro H locs ls hH hS hl
  obtain ⟨hx, hb, hown, hts, hSK, hini, hck, hmc, hms, hfr, hlo, hB⟩ := id K
  obtain ⟨hdg, hcr⟩ := mm_row hck hd
  exact lv_icmp_ge hx hb hdg (of_decide_eq_true hcr) (fun q => k0 q H locs ls hH hS hl) (fun q => k1 q H locs ls hH hS hl)
theorem ss_ic_gt {p : Program} {l : Launch} {e : Env} {R : Room} {s : State} {m : MethodId} {args : Array Value} {below : List Frame} {meth : Method} {c : Code} {b qs qv B SL : Nat} {xs : Nat → Int32} {D : va_G} {dA : FieldType → ClassId} {QW : State → Prop} {ow : Nat} {ini : Bool} {cc : ByteArray} {cd : List (Nat × mm_R)} {mc ms : Nat} {cs : mm_Cs} {am : Nat → Nat × Nat} {rt : Option FieldType} {Q : Option Value → mm_H → Prop} (K : mm_cx p R s m args meth c b qs qv B SL xs D dA ow ini cc cd mc ms) : mm_r_ic_gt SL xs cs am cd mc ms rt Q (mm_XW p l e R s m args below meth c b qs B D dA QW) := by
  intro pc L h cc0 ss0 off t x y st hd  k0 k1
  intro H locs ls hH hS hl
  obtain ⟨hx, hb, hown, hts, hSK, hini, hck, hmc, hms, hfr, hlo, hB⟩ := id K
  obtain ⟨hdg, hcr⟩ := mm_row hck hd
  exact lv_icmp_gt hx hb hdg (of_decide_eq_true hcr) (fun q => k0 q H locs ls hH hS hl) (fun q => k1 q H locs ls hH hS hl)
theorem ss_ic_le {p : Program} {l : Launch} {e : Env} {R : Room} {s : State} {m : MethodId} {args : Array Value} {below : List Frame} {meth : Method} {c : Code} {b qs qv B SL : Nat} {xs : Nat → Int32} {D : va_G} {dA : FieldType → ClassId} {QW : State → Prop} {ow : Nat} {ini : Bool} {cc : ByteArray} {cd : List (Nat × mm_R)} {mc ms : Nat} {cs : mm_Cs} {am : Nat → Nat × Nat} {rt : Option FieldType} {Q : Option Value → mm_H → Prop} (K : mm_cx p R s m args meth c b qs qv B SL xs D dA ow ini cc cd mc ms) : mm_r_ic_le SL xs cs am cd mc ms rt Q (mm_XW p l e R s m args below meth c b qs B D dA QW) := by
  intro pc L h cc0 ss0 off t x y st hd  k0 k1
  intro H locs ls hH hS hl
  obtain ⟨hx, hb, hown, hts, hSK, hini, hck, hmc, hms, hfr, hlo, hB⟩ := id K
  obtain ⟨hdg, hcr⟩ := mm_row hck hd
  exact lv_icmp_le hx hb hdg (of_decide_eq_true hcr) (fun q => k0 q H locs ls hH hS hl) (fun q => k1 q H locs ls hH hS hl)
theorem ss_ifnull {p : Program} {l : Launch} {e : Env} {R : Room} {s : State} {m : MethodId} {args : Array Value} {below : List Frame} {meth : Method} {c : Code} {b qs qv B SL : Nat} {xs : Nat → Int32} {D : va_G} {dA : FieldType → ClassId} {QW : State → Prop} {ow : Nat} {ini : Bool} {cc : ByteArray} {cd : List (Nat × mm_R)} {mc ms : Nat} {cs : mm_Cs} {am : Nat → Nat × Nat} {rt : Option FieldType} {Q : Option Value → mm_H → Prop} (K : mm_cx p R s m args meth c b qs qv B SL xs D dA ow ini cc cd mc ms) : mm_r_ifnull SL xs cs am cd mc ms rt Q (mm_XW p l e R s m args below meth c b qs B D dA QW) := by
  intro pc L h cc0 ss0 off t a st hd  k0
  intro H locs ls hH hS hl
  obtain ⟨hx, hb, hown, hts, hSK, hini, hck, hmc, hms, hfr, hlo, hB⟩ := id K
  obtain ⟨hdg, hcr⟩ := mm_row hck hd
  exact lv_ifnull hx hb hdg (k0 H locs ls hH hS hl)
theorem ss_ifnullN {p : Program} {l : Launch} {e : Env} {R : Room} {s : State} {m : MethodId} {args : Array Value} {below : List Frame} {meth : Method} {c : Code} {b qs qv B SL : Nat} {xs : Nat → Int32} {D : va_G} {dA : FieldType → ClassId} {QW : State → Prop} {ow : Nat} {ini : Bool} {cc : ByteArray} {cd : List (Nat × mm_R)} {mc ms : Nat} {cs : mm_Cs} {am : Nat → Nat × Nat} {rt : Option FieldType} {Q : Option Value → mm_H → Prop} (K : mm_cx p R s m args meth c b qs qv B SL xs D dA ow ini cc cd mc ms) : mm_r_ifnullN SL xs cs am cd mc ms rt Q (mm_XW p l e R s m args below meth c b qs B D dA QW) := by
  intro pc L h cc0 ss0 off t st hd  k0
  intro H locs ls hH hS hl
  obtain ⟨hx, hb, hown, hts, hSK, hini, hck, hmc, hms, hfr, hlo, hB⟩ := id K
  obtain ⟨hdg, hcr⟩ := mm_row hck hd
  exact lv_ifnullN hx hb hdg (of_decide_eq_true hcr) (k0 H locs ls hH hS hl)
theorem ss_ifnonnull {p : Program} {l : Launch} {e : Env} {R : Room} {s : State} {m : MethodId} {args : Array Value} {below : List Frame} {meth : Method} {c : Code} {b qs qv B SL : Nat} {xs : Nat → Int32} {D : va_G} {dA : FieldType → ClassId} {QW : State → Prop} {ow : Nat} {ini : Bool} {cc : ByteArray} {cd : List (Nat × mm_R)} {mc ms : Nat} {cs : mm_Cs} {am : Nat → Nat × Nat} {rt : Option FieldType} {Q : Option Value → mm_H → Prop} (K : mm_cx p R s m args meth c b qs qv B SL xs D dA ow ini cc cd mc ms) : mm_r_ifnonnull SL xs cs am cd mc ms rt Q (mm_XW p l e R s m args below meth c b qs B D dA QW) := by
  intro pc L h cc0 ss0 off t a st hd  k0
  intro H locs ls hH hS hl
  obtain ⟨hx, hb, hown, hts, hSK, hini, hck, hmc, hms, hfr, hlo, hB⟩ := id K
  obtain ⟨hdg, hcr⟩ := mm_row hck hd
  exact lv_ifnonnull hx hb hdg (of_decide_eq_true hcr) (k0 H locs ls hH hS hl)
theorem ss_ifnonnullN {p : Program} {l : Launch} {e : Env} {R : Room} {s : State} {m : MethodId} {args : Array Value} {below : List Frame} {meth : Method} {c : Code} {b qs qv B SL : Nat} {xs : Nat → Int32} {D : va_G} {dA : FieldType → ClassId} {QW : State → Prop} {ow : Nat} {ini : Bool} {cc : ByteArray} {cd : List (Nat × mm_R)} {mc ms : Nat} {cs : mm_Cs} {am : Nat → Nat × Nat} {rt : Option FieldType} {Q : Option Value → mm_H → Prop} (K : mm_cx p R s m args meth c b qs qv B SL xs D dA ow ini cc cd mc ms) : mm_r_ifnonnullN SL xs cs am cd mc ms rt Q (mm_XW p l e R s m args below meth c b qs B D dA QW) := by
  intro pc L h cc0 ss0 off t st hd  k0
  intro H locs ls hH hS hl
  obtain ⟨hx, hb, hown, hts, hSK, hini, hck, hmc, hms, hfr, hlo, hB⟩ := id K
  obtain ⟨hdg, hcr⟩ := mm_row hck hd
  exact lv_ifnonnullN hx hb hdg (k0 H locs ls hH hS hl)
theorem ss_goto {p : Program} {l : Launch} {e : Env} {R : Room} {s : State} {m : MethodId} {args : Array Value} {below : List Frame} {meth : Method} {c : Code} {b qs qv B SL : Nat} {xs : Nat → Int32} {D : va_G} {dA : FieldType → ClassId} {QW : State → Prop} {ow : Nat} {ini : Bool} {cc : ByteArray} {cd : List (Nat × mm_R)} {mc ms : Nat} {cs : mm_Cs} {am : Nat → Nat × Nat} {rt : Option FieldType} {Q : Option Value → mm_H → Prop} (K : mm_cx p R s m args meth c b qs qv B SL xs D dA ow ini cc cd mc ms) : mm_r_goto SL xs cs am cd mc ms rt Q (mm_XW p l e R s m args below meth c b qs B D dA QW) := by
  intro pc L h cc0 ss0 off t st hd  k0
  intro H locs ls hH hS hl
  obtain ⟨hx, hb, hown, hts, hSK, hini, hck, hmc, hms, hfr, hlo, hB⟩ := id K
  obtain ⟨hdg, hcr⟩ := mm_row hck hd
  exact lv_goto hx hb hdg (of_decide_eq_true hcr) (k0 H locs ls hH hS hl)
theorem ss_table {p : Program} {l : Launch} {e : Env} {R : Room} {s : State} {m : MethodId} {args : Array Value} {below : List Frame} {meth : Method} {c : Code} {b qs qv B SL : Nat} {xs : Nat → Int32} {D : va_G} {dA : FieldType → ClassId} {QW : State → Prop} {ow : Nat} {ini : Bool} {cc : ByteArray} {cd : List (Nat × mm_R)} {mc ms : Nat} {cs : mm_Cs} {am : Nat → Nat × Nat} {rt : Option FieldType} {Q : Option Value → mm_H → Prop} (K : mm_cx p R s m args meth c b qs qv B SL xs D dA ow ini cc cd mc ms) : mm_r_table SL xs cs am cd mc ms rt Q (mm_XW p l e R s m args below meth c b qs B D dA QW) := by
  intro pc L h cc0 ss0 d lo hi offs len t x st hd h0 k0
  intro H locs ls hH hS hl
  obtain ⟨hx, hb, hown, hts, hSK, hini, hck, hmc, hms, hfr, hlo, hB⟩ := id K
  obtain ⟨hdg, hcr⟩ := mm_row hck hd
  unfold mm_tab at h0
  by_cases hq : x.toInt < lo ∨ hi < x.toInt
  · rw [if_pos hq] at h0
    exact lv_tableOut hx hb hdg hq h0 (k0 H locs ls hH hS hl)
  · rw [if_neg hq] at h0
    have hcr : (decide (offs.size = (hi - lo + 1).toNat) && decide (lo ≤ hi)) = true := hcr
    rw [Bool.and_eq_true] at hcr
    have h1 := of_decide_eq_true hcr.1
    have h2 := of_decide_eq_true hcr.2
    have hlt : (x.toInt - lo).toNat < offs.size := by omega
    have hg : offs[(x.toInt - lo).toNat]? = some (offs.getD (x.toInt - lo).toNat d) := by
      rw [Array.getD_eq_getD_getElem?, Array.getElem?_eq_getElem hlt]; rfl
    exact lv_tableIn hx hb hdg (fun z => hq (Or.inl z)) (fun z => hq (Or.inr z)) hg h0 (k0 H locs ls hH hS hl)
theorem ss_lookup {p : Program} {l : Launch} {e : Env} {R : Room} {s : State} {m : MethodId} {args : Array Value} {below : List Frame} {meth : Method} {c : Code} {b qs qv B SL : Nat} {xs : Nat → Int32} {D : va_G} {dA : FieldType → ClassId} {QW : State → Prop} {ow : Nat} {ini : Bool} {cc : ByteArray} {cd : List (Nat × mm_R)} {mc ms : Nat} {cs : mm_Cs} {am : Nat → Nat × Nat} {rt : Option FieldType} {Q : Option Value → mm_H → Prop} (K : mm_cx p R s m args meth c b qs qv B SL xs D dA ow ini cc cd mc ms) : mm_r_lookup SL xs cs am cd mc ms rt Q (mm_XW p l e R s m args below meth c b qs B D dA QW) := by
  intro pc L h cc0 ss0 d ps len t x st hd h0 k0
  intro H locs ls hH hS hl
  obtain ⟨hx, hb, hown, hts, hSK, hini, hck, hmc, hms, hfr, hlo, hB⟩ := id K
  obtain ⟨hdg, hcr⟩ := mm_row hck hd
  exact lv_lookup hx hb hdg hcr rfl h0 (k0 H locs ls hH hS hl)
theorem ss_getI {p : Program} {l : Launch} {e : Env} {R : Room} {s : State} {m : MethodId} {args : Array Value} {below : List Frame} {meth : Method} {c : Code} {b qs qv B SL : Nat} {xs : Nat → Int32} {D : va_G} {dA : FieldType → ClassId} {QW : State → Prop} {ow : Nat} {ini : Bool} {cc : ByteArray} {cd : List (Nat × mm_R)} {mc ms : Nat} {cs : mm_Cs} {am : Nat → Nat × Nat} {rt : Option FieldType} {Q : Option Value → mm_H → Prop} (K : mm_cx p R s m args meth c b qs qv B SL xs D dA ow ini cc cd mc ms) : mm_r_getI SL xs cs am cd mc ms rt Q (mm_XW p l e R s m args below meth c b qs B D dA QW) := by
  intro pc L h cc0 ss0 i ci k a st hd h0 k0
  intro H locs ls hH hS hl
  obtain ⟨hx, hb, hown, hts, hSK, hini, hck, hmc, hms, hfr, hlo, hB⟩ := id K
  obtain ⟨hdg, hcr⟩ := mm_row hck hd
  have hcr : (decide ((i, ci, k) ∈ mm_ft ow) && decide (mm_fk (mm_ty ci k) = 0)) = true := hcr
  rw [Bool.and_eq_true] at hcr
  obtain ⟨r9, hr, hk9, hlk⟩ := mm_ff_all ow _ (of_decide_eq_true hcr.1)
  have hz := of_decide_eq_true hcr.2
  obtain ⟨g1, g2, g3, g4, g5⟩ := mm_cl hr
  have ha := mm_at_in hH.2.2.1 h0 (fun q => by cases q)
  have hw := mm_ws_get (b := b) (qs := qs) (B := B) (dA := dA) ha
  have he : mm_e (mm_a b qs B) dA h a = .inr (ci, (List.range r9.2.2).map (fun k => mm_fv (mm_a b qs B) h a k (mm_fk (mm_ty ci k)))) := by unfold mm_e; rw [h0, ← g5]
  rw [he] at hw
  refine va_get hx hb hts g1 hown hSK.1 hH.2.2.2 (mm_ix a - 2) hw hr k hk9 (hts _ hlk) (fun _ q => q) (v := .int (h.2.2.1 a k)) (by rw [List.getElem?_map, List.getElem?_range hk9]; show some (mm_fv _ h a k (mm_fk (mm_ty ci k))) = _; rw [hz]; rfl) hdg (k0 H locs ls hH hS hl)
theorem ss_getJ {p : Program} {l : Launch} {e : Env} {R : Room} {s : State} {m : MethodId} {args : Array Value} {below : List Frame} {meth : Method} {c : Code} {b qs qv B SL : Nat} {xs : Nat → Int32} {D : va_G} {dA : FieldType → ClassId} {QW : State → Prop} {ow : Nat} {ini : Bool} {cc : ByteArray} {cd : List (Nat × mm_R)} {mc ms : Nat} {cs : mm_Cs} {am : Nat → Nat × Nat} {rt : Option FieldType} {Q : Option Value → mm_H → Prop} (K : mm_cx p R s m args meth c b qs qv B SL xs D dA ow ini cc cd mc ms) : mm_r_getJ SL xs cs am cd mc ms rt Q (mm_XW p l e R s m args below meth c b qs B D dA QW) := by
  intro pc L h cc0 ss0 i ci k a st hd h0 k0
  intro H locs ls hH hS hl
  obtain ⟨hx, hb, hown, hts, hSK, hini, hck, hmc, hms, hfr, hlo, hB⟩ := id K
  obtain ⟨hdg, hcr⟩ := mm_row hck hd
  have hcr : (decide ((i, ci, k) ∈ mm_ft ow) && decide (mm_fk (mm_ty ci k) = 1)) = true := hcr
  rw [Bool.and_eq_true] at hcr
  obtain ⟨r9, hr, hk9, hlk⟩ := mm_ff_all ow _ (of_decide_eq_true hcr.1)
  have hz := of_decide_eq_true hcr.2
  obtain ⟨g1, g2, g3, g4, g5⟩ := mm_cl hr
  have ha := mm_at_in hH.2.2.1 h0 (fun q => by cases q)
  have hw := mm_ws_get (b := b) (qs := qs) (B := B) (dA := dA) ha
  have he : mm_e (mm_a b qs B) dA h a = .inr (ci, (List.range r9.2.2).map (fun k => mm_fv (mm_a b qs B) h a k (mm_fk (mm_ty ci k)))) := by unfold mm_e; rw [h0, ← g5]
  rw [he] at hw
  refine va_get hx hb hts g1 hown hSK.1 hH.2.2.2 (mm_ix a - 2) hw hr k hk9 (hts _ hlk) (fun _ q => q) (v := .long (h.2.2.2.1 a k)) (by rw [List.getElem?_map, List.getElem?_range hk9]; show some (mm_fv _ h a k (mm_fk (mm_ty ci k))) = _; rw [hz]; rfl) hdg (k0 H locs ls hH hS hl)
theorem ss_getR {p : Program} {l : Launch} {e : Env} {R : Room} {s : State} {m : MethodId} {args : Array Value} {below : List Frame} {meth : Method} {c : Code} {b qs qv B SL : Nat} {xs : Nat → Int32} {D : va_G} {dA : FieldType → ClassId} {QW : State → Prop} {ow : Nat} {ini : Bool} {cc : ByteArray} {cd : List (Nat × mm_R)} {mc ms : Nat} {cs : mm_Cs} {am : Nat → Nat × Nat} {rt : Option FieldType} {Q : Option Value → mm_H → Prop} (K : mm_cx p R s m args meth c b qs qv B SL xs D dA ow ini cc cd mc ms) : mm_r_getR SL xs cs am cd mc ms rt Q (mm_XW p l e R s m args below meth c b qs B D dA QW) := by
  intro pc L h cc0 ss0 i ci k a r st hd h0 h1 k0
  intro H locs ls hH hS hl
  obtain ⟨hx, hb, hown, hts, hSK, hini, hck, hmc, hms, hfr, hlo, hB⟩ := id K
  obtain ⟨hdg, hcr⟩ := mm_row hck hd
  have hcr : (decide ((i, ci, k) ∈ mm_ft ow) && decide (mm_fk (mm_ty ci k) = 2)) = true := hcr
  rw [Bool.and_eq_true] at hcr
  obtain ⟨r9, hr, hk9, hlk⟩ := mm_ff_all ow _ (of_decide_eq_true hcr.1)
  have hz := of_decide_eq_true hcr.2
  obtain ⟨g1, g2, g3, g4, g5⟩ := mm_cl hr
  have ha := mm_at_in hH.2.2.1 h0 (fun q => by cases q)
  have hw := mm_ws_get (b := b) (qs := qs) (B := B) (dA := dA) ha
  have he : mm_e (mm_a b qs B) dA h a = .inr (ci, (List.range r9.2.2).map (fun k => mm_fv (mm_a b qs B) h a k (mm_fk (mm_ty ci k)))) := by unfold mm_e; rw [h0, ← g5]
  rw [he] at hw
  refine va_get hx hb hts g1 hown hSK.1 hH.2.2.2 (mm_ix a - 2) hw hr k hk9 (hts _ hlk) (fun _ q => q) (v := mm_v (mm_a b qs B) (va_rf r)) (by rw [List.getElem?_map, List.getElem?_range hk9]; show some (mm_fv _ h a k (mm_fk (mm_ty ci k))) = _; rw [hz]; rw [mm_rfv, ← h1]; rfl) hdg (k0 H locs ls hH hS hl)
