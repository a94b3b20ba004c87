theorem ss_strL {p : Program} {l : Launch} {e : Env} {R : Room} {s : State} {m : MethodId} {args : Array Value} {below : List Frame} {meth : Method} {c : Code} {b qs qv B SL : Nat} {xs : Nat → Int32} {D : va_G} {dA : FieldType → ClassId} {QW : State → Prop} {ow : Nat} {ini : Bool} {cc : ByteArray} {cd : List (Nat × mm_R)} {mc ms : Nat} {cs : mm_Cs} {am : Nat → Nat × Nat} {rt : Option FieldType} {Q : Option Value → mm_H → Prop} (K : mm_cx p R s m args meth c b qs qv B SL xs D dA ow ini cc cd mc ms) : mm_r_strL SL xs cs am cd mc ms rt Q (mm_XW p l e R s m args below meth c b qs B D dA QW) := by
  intro pc L h cc0 ss0 i st hd h0 k0
  intro H locs ls hH hS hl
  obtain ⟨hx, hb, hown, hts, hSK, hini, hck, hmc, hms, hfr, hlo, hB⟩ := id K
  obtain ⟨hdg, hcr⟩ := mm_row hck hd
  sorry
theorem ss_strC {p : Program} {l : Launch} {e : Env} {R : Room} {s : State} {m : MethodId} {args : Array Value} {below : List Frame} {meth : Method} {c : Code} {b qs qv B SL : Nat} {xs : Nat → Int32} {D : va_G} {dA : FieldType → ClassId} {QW : State → Prop} {ow : Nat} {ini : Bool} {cc : ByteArray} {cd : List (Nat × mm_R)} {mc ms : Nat} {cs : mm_Cs} {am : Nat → Nat × Nat} {rt : Option FieldType} {Q : Option Value → mm_H → Prop} (K : mm_cx p R s m args meth c b qs qv B SL xs D dA ow ini cc cd mc ms) : mm_r_strC SL xs cs am cd mc ms rt Q (mm_XW p l e R s m args below meth c b qs B D dA QW) := by
  intro pc L h cc0 ss0 i k st hd h0 h1 k0
  intro H locs ls hH hS hl
  obtain ⟨hx, hb, hown, hts, hSK, hini, hck, hmc, hms, hfr, hlo, hB⟩ := id K
  obtain ⟨hdg, hcr⟩ := mm_row hck hd
  sorry
