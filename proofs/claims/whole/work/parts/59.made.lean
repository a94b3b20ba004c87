/-! the class's making -/
def mm_h0 : mm_H := (2, fun _ => .inl (.double, 0), fun _ _ => 0, fun _ _ => 0, fun _ _ => none)
def kdn (n a : Nat) : (FieldType × Nat) ⊕ Nat := if mm_ix a < mm_ix n then ly_kd a else .inl (.double, 0)
/-- the heap when the cell n is the next that will be made -/
def hq (n : Nat) (I : Nat → Nat → Int32) (J : Nat → Nat → Int64) (R : Nat → Nat → Option Nat) : mm_H := (mm_ix n, kdn n, I, J, R)
def Zq (n : Nat) (I : Nat → Nat → Int32) (J : Nat → Nat → Int64) (R : Nat → Nat → Option Nat) : Prop := (∀ a i, mm_ix n ≤ mm_ix a → I a i = 0) ∧ (∀ a i, mm_ix n ≤ mm_ix a → J a i = 0) ∧ ∀ a k, mm_ix n ≤ mm_ix a ∨ 20 ≤ k → R a k = none
theorem ixC {o : Nat} (h : isC o) : mm_ix (o + 1) = mm_ix o + 1 ∧ mm_ix (o + 1 + 1) = mm_ix o + 2 ∧ mm_ix (o + 1 + 1 + 1) = mm_ix o + 3 ∧ mm_ix (o + 1 + 1 + 1 + 1) = mm_ix o + 4 := by rcases h with rfl | rfl | rfl | rfl | rfl | rfl <;> decide
theorem ixP {o : Nat} (h : isP o) : mm_ix (o + 1) = mm_ix o + 1 ∧ mm_ix (o + 1 + 1) = mm_ix o + 2 ∧ mm_ix (o + 1 + 1 + 1) = mm_ix o + 3 ∧ mm_ix (o + 1 + 1 + 1 + 1) = mm_ix o + 4 ∧ mm_ix (o + 1 + 1 + 1 + 1 + 1) = mm_ix o + 5 ∧ mm_ix (o + 1 + 1 + 1 + 1 + 1 + 1) = mm_ix o + 6 := by rcases h with rfl | rfl <;> decide
section
variable {n : Nat} {I : Nat → Nat → Int32} {J : Nat → Nat → Int64} {R : Nat → Nat → Option Nat}
theorem kq_at {a : Nat} (h : mm_ix a < mm_ix n) : (hq n I J R).2.1 a = ly_kd a := if_pos h
theorem Zq_m {m : Nat} (h : mm_ix n ≤ mm_ix m) (z : Zq n I J R) : Zq m I J R := ⟨fun a i q => z.1 a i (by omega), fun a i q => z.2.1 a i (by omega), fun a k q => z.2.2 a k (by omega)⟩
theorem Zq_R {a k v : Nat} (ha : mm_ix a < mm_ix n) (hk : k < 20) (z : Zq n I J R) : Zq n I J (mm_u R a k (some v)) := ⟨z.1, z.2.1, fun b j q => by
  unfold mm_u
  by_cases e : b = a
  · have q2 := q
    rw [e] at q2
    rw [if_pos e, if_neg (by omega)]; exact z.2.2 b j q
  · rw [if_neg e]; exact z.2.2 b j q⟩
theorem Zq_I {a k : Nat} {v : Int32} (ha : mm_ix a < mm_ix n) (z : Zq n I J R) : Zq n (mm_u I a k v) J R := ⟨fun b j q => by rw [mu_row (fun e => by rw [e] at q; omega)]; exact z.1 b j q, z.2.1, z.2.2⟩
theorem Zq_J {a k : Nat} {v : Int64} (ha : mm_ix a < mm_ix n) (z : Zq n I J R) : Zq n I (mm_u J a k v) R := ⟨z.1, fun b j q => by rw [mu_row (fun e => by rw [e] at q; omega)]; exact z.2.1 b j q, z.2.2⟩
theorem hq_new {m : Nat} {kd : (FieldType × Nat) ⊕ Nat} (z : Zq n I J R) (hx : mm_ix m = mm_ix n + 1) (hk : ly_kd n = kd) : mm_new (hq n I J R) kd = hq m I J R := by
  have e0 : mm_ad (mm_ix n) = n := mm_ad_ix n
  have e1 : (fun i => if i = n then kd else kdn n i) = kdn m := by
    funext i
    unfold kdn
    by_cases e : i = n
    · rw [if_pos e, if_pos (by rw [e]; omega), e, hk]
    · have ne : mm_ix i ≠ mm_ix n := fun q => e (by rw [← mm_ad_ix i, q, mm_ad_ix])
      rw [if_neg e]
      by_cases q : mm_ix i < mm_ix n
      · rw [if_pos q, if_pos (by omega)]
      · rw [if_neg q, if_neg (by omega)]
  have e2 : (fun i j => if i = n then (0 : Int32) else I i j) = I := by
    funext i j
    by_cases e : i = n
    · rw [if_pos e, z.1 i j (by rw [e]; omega)]
    · rw [if_neg e]
  have e3 : (fun i j => if i = n then (0 : Int64) else J i j) = J := by
    funext i j
    by_cases e : i = n
    · rw [if_pos e, z.2.1 i j (by rw [e]; omega)]
    · rw [if_neg e]
  have e4 : (fun i j => if i = n then (none : Option Nat) else R i j) = R := by
    funext i j
    by_cases e : i = n
    · rw [if_pos e, z.2.2 i j (Or.inl (by rw [e]; omega))]
    · rw [if_neg e]
  show (mm_ix n + 1, (fun i => if i = mm_ad (mm_ix n) then kd else kdn n i), (fun i j => if i = mm_ad (mm_ix n) then (0 : Int32) else I i j), (fun i j => if i = mm_ad (mm_ix n) then (0 : Int64) else J i j), (fun i j => if i = mm_ad (mm_ix n) then (none : Option Nat) else R i j)) = hq m I J R
  rw [e0, e1, e2, e3, e4, ← hx]; rfl
end
theorem nwqm (n2 n3 m : Nat) {SL : Nat} {xs : Nat → Int32} {cs : mm_Cs} {am : Nat → Nat × Nat} {cd : List (Nat × mm_R)} {mc ms : Nat} {rt : Option FieldType} {Q : Option Value → mm_H → Prop} {pc : Nat} {L : mm_L} {c s : Nat} {st : List Value} {n : Nat} {I : Nat → Nat → Int32} {J : Nat → Nat → Int64} {R : Nat → Nat → Option Nat} {ty : ArrayType} {v : Int32} {o i ci f N : Nat} (hd : cd.lookup pc = some (.newarray ty, 2, 0, 0, 0, 0)) (hd2 : cd.lookup n2 = some (.putfield i, 3, ci, f, 2, 0)) (e1 : pc + 2 = n2) (e2 : n2 + 3 = n3) (ht : mm_isT (newarray.typeOf ty) = true) (h1 : ¬ v < 0) (h2 : v.toNatClampNeg = N) (h3 : N ≤ 60000) (h4 : c + 1 ≤ mc) (h5 : s + N ≤ ms) (hz : Zq n I J R) (hx : mm_ix m = mm_ix n + 1) (hk : ly_kd n = .inl (newarray.typeOf ty, N)) (ho : mm_ix o < mm_ix n) (hko : ly_kd o = .inr ci) (hf : f < 20) (k0 : Zq m I J (mm_u R o f (some n)) → mm_w SL xs cs am cd mc ms rt Q n3 L st (hq m I J (mm_u R o f (some n))) (c + 1) (s + N)) : mm_w SL xs cs am cd mc ms rt Q pc L (.int v :: .ref o :: st) (hq n I J R) c s := by
  refine sp_newa n2 hd ht h1 h2 h3 h4 h5 e1 ?_
  rw [hq_new hz hx hk, show mm_ad (hq n I J R).1 = n from mm_ad_ix n]
  exact sp_putR n3 hd2 ((kq_at (by omega)).trans hko) e2 (k0 (Zq_R (by omega) hf (Zq_m (by omega) hz)))
theorem nwq (n2 n3 : Nat) {SL : Nat} {xs : Nat → Int32} {cs : mm_Cs} {am : Nat → Nat × Nat} {cd : List (Nat × mm_R)} {mc ms : Nat} {rt : Option FieldType} {Q : Option Value → mm_H → Prop} {pc : Nat} {L : mm_L} {c s : Nat} {st : List Value} {n : Nat} {I : Nat → Nat → Int32} {J : Nat → Nat → Int64} {R : Nat → Nat → Option Nat} {ty : ArrayType} {v : Int32} {o i ci f N : Nat} (hd : cd.lookup pc = some (.newarray ty, 2, 0, 0, 0, 0)) (hd2 : cd.lookup n2 = some (.putfield i, 3, ci, f, 2, 0)) (e1 : pc + 2 = n2) (e2 : n2 + 3 = n3) (ht : mm_isT (newarray.typeOf ty) = true) (h1 : ¬ v < 0) (h2 : v.toNatClampNeg = N) (h3 : N ≤ 60000) (h4 : c + 1 ≤ mc) (h5 : s + N ≤ ms) (hz : Zq n I J R) (hx : mm_ix (n + 1) = mm_ix n + 1) (hk : ly_kd n = .inl (newarray.typeOf ty, N)) (ho : mm_ix o < mm_ix n) (hko : ly_kd o = .inr ci) (hf : f < 20) (k0 : Zq (n + 1) I J (mm_u R o f (some n)) → mm_w SL xs cs am cd mc ms rt Q n3 L st (hq (n + 1) I J (mm_u R o f (some n))) (c + 1) (s + N)) : mm_w SL xs cs am cd mc ms rt Q pc L (.int v :: .ref o :: st) (hq n I J R) c s := nwqm n2 n3 (n + 1) hd hd2 e1 e2 ht h1 h2 h3 h4 h5 hz hx hk ho hko hf k0
theorem nobm (n2 m : Nat) {SL : Nat} {xs : Nat → Int32} {cs : mm_Cs} {am : Nat → Nat × Nat} {cd : List (Nat × mm_R)} {mc ms : Nat} {rt : Option FieldType} {Q : Option Value → mm_H → Prop} {pc : Nat} {L : mm_L} {c s : Nat} {st : List Value} {n : Nat} {I : Nat → Nat → Int32} {J : Nat → Nat → Int64} {R : Nat → Nat → Option Nat} {i ci N : Nat} (hd : cd.lookup pc = some (.new i, 3, ci, N, 0, 0)) (h0 : c + 1 ≤ mc) (h1 : s + N ≤ ms) (e : pc + 3 = n2) (hz : Zq n I J R) (hx : mm_ix m = mm_ix n + 1) (hk : ly_kd n = .inr ci) (k0 : Zq m I J R → mm_w SL xs cs am cd mc ms rt Q n2 L (.ref n :: st) (hq m I J R) (c + 1) (s + N)) : mm_w SL xs cs am cd mc ms rt Q pc L st (hq n I J R) c s := by
  refine sp_new n2 hd h0 h1 e ?_
  rw [hq_new hz hx hk, show mm_ad (hq n I J R).1 = n from mm_ad_ix n]
  exact k0 (Zq_m (by omega) hz)
theorem nob (n2 : Nat) {SL : Nat} {xs : Nat → Int32} {cs : mm_Cs} {am : Nat → Nat × Nat} {cd : List (Nat × mm_R)} {mc ms : Nat} {rt : Option FieldType} {Q : Option Value → mm_H → Prop} {pc : Nat} {L : mm_L} {c s : Nat} {st : List Value} {n : Nat} {I : Nat → Nat → Int32} {J : Nat → Nat → Int64} {R : Nat → Nat → Option Nat} {i ci N : Nat} (hd : cd.lookup pc = some (.new i, 3, ci, N, 0, 0)) (h0 : c + 1 ≤ mc) (h1 : s + N ≤ ms) (e : pc + 3 = n2) (hz : Zq n I J R) (hx : mm_ix (n + 1) = mm_ix n + 1) (hk : ly_kd n = .inr ci) (k0 : Zq (n + 1) I J R → mm_w SL xs cs am cd mc ms rt Q n2 L (.ref n :: st) (hq (n + 1) I J R) (c + 1) (s + N)) : mm_w SL xs cs am cd mc ms rt Q pc L st (hq n I J R) c s := nobm n2 (n + 1) hd h0 h1 e hz hx hk k0
theorem pRq (n2 : Nat) {SL : Nat} {xs : Nat → Int32} {cs : mm_Cs} {am : Nat → Nat × Nat} {cd : List (Nat × mm_R)} {mc ms : Nat} {rt : Option FieldType} {Q : Option Value → mm_H → Prop} {pc : Nat} {L : mm_L} {c s : Nat} {st : List Value} {n : Nat} {I : Nat → Nat → Int32} {J : Nat → Nat → Int64} {R : Nat → Nat → Option Nat} {i ci f o v : Nat} (hd : cd.lookup pc = some (.putfield i, 3, ci, f, 2, 0)) (e : pc + 3 = n2) (hz : Zq n I J R) (ho : mm_ix o < mm_ix n) (hko : ly_kd o = .inr ci) (hf : f < 20) (k0 : Zq n I J (mm_u R o f (some v)) → mm_w SL xs cs am cd mc ms rt Q n2 L st (hq n I J (mm_u R o f (some v))) c s) : mm_w SL xs cs am cd mc ms rt Q pc L (.ref v :: .ref o :: st) (hq n I J R) c s := sp_putR n2 hd ((kq_at ho).trans hko) e (k0 (Zq_R ho hf hz))
theorem pIq (n2 : Nat) {SL : Nat} {xs : Nat → Int32} {cs : mm_Cs} {am : Nat → Nat × Nat} {cd : List (Nat × mm_R)} {mc ms : Nat} {rt : Option FieldType} {Q : Option Value → mm_H → Prop} {pc : Nat} {L : mm_L} {c s : Nat} {st : List Value} {n : Nat} {I : Nat → Nat → Int32} {J : Nat → Nat → Int64} {R : Nat → Nat → Option Nat} {i ci f o : Nat} {v : Int32} (hd : cd.lookup pc = some (.putfield i, 3, ci, f, 0, 0)) (e : pc + 3 = n2) (hz : Zq n I J R) (ho : mm_ix o < mm_ix n) (hko : ly_kd o = .inr ci) (k0 : Zq n (mm_u I o f v) J R → mm_w SL xs cs am cd mc ms rt Q n2 L st (hq n (mm_u I o f v) J R) c s) : mm_w SL xs cs am cd mc ms rt Q pc L (.int v :: .ref o :: st) (hq n I J R) c s := sp_putI n2 hd ((kq_at ho).trans hko) e (k0 (Zq_I ho hz))
theorem pJq (n2 : Nat) {SL : Nat} {xs : Nat → Int32} {cs : mm_Cs} {am : Nat → Nat × Nat} {cd : List (Nat × mm_R)} {mc ms : Nat} {rt : Option FieldType} {Q : Option Value → mm_H → Prop} {pc : Nat} {L : mm_L} {c s : Nat} {st : List Value} {n : Nat} {I : Nat → Nat → Int32} {J : Nat → Nat → Int64} {R : Nat → Nat → Option Nat} {i ci f o : Nat} {v : Int64} (hd : cd.lookup pc = some (.putfield i, 3, ci, f, 1, 0)) (e : pc + 3 = n2) (hz : Zq n I J R) (ho : mm_ix o < mm_ix n) (hko : ly_kd o = .inr ci) (k0 : Zq n I (mm_u J o f v) R → mm_w SL xs cs am cd mc ms rt Q n2 L st (hq n I (mm_u J o f v) R) c s) : mm_w SL xs cs am cd mc ms rt Q pc L (.long v :: .ref o :: st) (hq n I J R) c s := sp_putJ n2 hd ((kq_at ho).trans hko) e (k0 (Zq_J ho hz))
theorem aiq (n2 : Nat) {SL : Nat} {xs : Nat → Int32} {cs : mm_Cs} {am : Nat → Nat × Nat} {cd : List (Nat × mm_R)} {mc ms : Nat} {rt : Option FieldType} {Q : Option Value → mm_H → Prop} {pc : Nat} {L : mm_L} {c s : Nat} {st : List Value} {n : Nat} {I : Nat → Nat → Int32} {J : Nat → Nat → Int64} {R : Nat → Nat → Option Nat} {a N t : Nat} {i v : Int32} (hd : cd.lookup pc = some (.iastore, 1, 0, 0, 0, 0)) (e : pc + 1 = n2) (hz : Zq n I J R) (ha : mm_ix a < mm_ix n) (hk : ly_kd a = .inl (.int, N)) (h1 : vp_in i N) (ht : i.toNatClampNeg = t) (k0 : Zq n (mm_u I a t v) J R → mm_w SL xs cs am cd mc ms rt Q n2 L st (hq n (mm_u I a t v) J R) c s) : mm_w SL xs cs am cd mc ms rt Q pc L (.int v :: .int i :: .ref a :: st) (hq n I J R) c s := by
  subst ht
  exact sp_iast n2 hd ((kq_at ha).trans hk) h1 e (k0 (Zq_I ha hz))
theorem alq (n2 : Nat) {SL : Nat} {xs : Nat → Int32} {cs : mm_Cs} {am : Nat → Nat × Nat} {cd : List (Nat × mm_R)} {mc ms : Nat} {rt : Option FieldType} {Q : Option Value → mm_H → Prop} {pc : Nat} {L : mm_L} {c s : Nat} {st : List Value} {n : Nat} {I : Nat → Nat → Int32} {J : Nat → Nat → Int64} {R : Nat → Nat → Option Nat} {a N t : Nat} {i : Int32} {v : Int64} (hd : cd.lookup pc = some (.lastore, 1, 0, 0, 0, 0)) (e : pc + 1 = n2) (hz : Zq n I J R) (ha : mm_ix a < mm_ix n) (hk : ly_kd a = .inl (.long, N)) (h1 : vp_in i N) (ht : i.toNatClampNeg = t) (k0 : Zq n I (mm_u J a t v) R → mm_w SL xs cs am cd mc ms rt Q n2 L st (hq n I (mm_u J a t v) R) c s) : mm_w SL xs cs am cd mc ms rt Q pc L (.long v :: .int i :: .ref a :: st) (hq n I J R) c s := by
  subst ht
  exact sp_last n2 hd ((kq_at ha).trans hk) h1 e (k0 (Zq_J ha hz))
theorem arq (n2 : Nat) {SL : Nat} {xs : Nat → Int32} {cs : mm_Cs} {am : Nat → Nat × Nat} {cd : List (Nat × mm_R)} {mc ms : Nat} {rt : Option FieldType} {Q : Option Value → mm_H → Prop} {pc : Nat} {L : mm_L} {c s : Nat} {st : List Value} {n : Nat} {I : Nat → Nat → Int32} {J : Nat → Nat → Int64} {R : Nat → Nat → Option Nat} {a N t v : Nat} {i : Int32} (hd : cd.lookup pc = some (.aastore, 1, 0, 0, 0, 0)) (e : pc + 1 = n2) (hz : Zq n I J R) (ha : mm_ix a < mm_ix n) (hk : ly_kd a = .inl (.object RX1, N)) (h1 : vp_in i N) (ht : i.toNatClampNeg = t) (hv : mm_ix v < mm_ix n) (hkv : ly_kd v = .inr 1) (ht2 : t < 20) (k0 : Zq n I J (mm_u R a t (some v)) → mm_w SL xs cs am cd mc ms rt Q n2 L st (hq n I J (mm_u R a t (some v))) c s) : mm_w SL xs cs am cd mc ms rt Q pc L (.ref v :: .int i :: .ref a :: st) (hq n I J R) c s := by
  subst ht
  exact sp_aast n2 hd ((kq_at ha).trans hk) h1 ((kq_at hv).trans hkv) e (k0 (Zq_R ha ht2 hz))
def I_P (o : Nat) (I : Nat → Nat → Int32) : Nat → Nat → Int32 := (mm_u (mm_u (mm_u (mm_u (mm_u (mm_u (mm_u (mm_u (mm_u (mm_u (mm_u (mm_u (mm_u I o 0 (Int32.ofInt 1)) o 1 (Int32.ofInt 0)) o 2 (Int32.ofInt 1)) o 3 (Int32.ofInt 0)) o 4 (Int32.ofInt 0)) o 5 (Int32.ofInt (-1))) o 7 (Int32.ofInt 0)) o 8 (Int32.ofInt 0)) o 9 (Int32.ofInt 0)) o 10 (Int32.ofInt 0)) o 11 (Int32.ofInt 0)) (o + 5) 0 (Int32.ofInt 3)) o 17 (Int32.ofInt 1))
def J_P (o : Nat) (J : Nat → Nat → Int64) : Nat → Nat → Int64 := mm_u J o 6 (Int64.ofNat 0)
def R_P (o : Nat) (R : Nat → Nat → Option Nat) : Nat → Nat → Option Nat := mm_u (mm_u (mm_u (mm_u (mm_u (mm_u R o 12 (some (o + 1))) o 13 (some (o + 2))) o 14 (some (o + 3))) o 15 (some (o + 4))) o 16 (some (o + 5))) o 18 (some (o + 6))
def R_C (o : Nat) (R : Nat → Nat → Option Nat) : Nat → Nat → Option Nat := mm_u (mm_u (mm_u R o 6 (some (o + 1))) o 7 (some (o + 2))) o 8 (some (o + 3))
section
variable {SL : Nat} {xs : Nat → Int32} {d : Nat} {Q : Option Value → mm_H → Prop} {I : Nat → Nat → Int32} {J : Nat → Nat → Int64} {R : Nat → Nat → Option Nat}
theorem n_course {o : Nat} (ho : isC o) (hz : Zq (o + 1) I J R) (kq : Zq (o + 4) I J (R_C o R) → Q none (hq (o + 4) I J (R_C o R))) : mm_s SL xs (d + 1) 12 [.ref o] (hq (o + 1) I J R) Q := by
  obtain ⟨c1, c2, c3, c4⟩ := ixC ho
  refine e_X1_init rfl ?_
  refine hs_L (L2 := [some (.ref o)]) rfl ?_
  refine sp_aload_n 1 rfl rfl rfl ?_
  refine sp_objI 4 rfl rfl rfl ?_
  refine sp_aload_n 5 rfl rfl rfl ?_
  refine sp_bipush 7 rfl rfl ?_
  refine nwq 9 12 rfl rfl rfl rfl rfl (by decide) rfl (by decide) (by decide) (by decide) hz (by omega) (kC1 ho) (by omega) (kC0 ho) (by decide) (fun hz => ?_)
  refine sp_aload_n 13 rfl rfl rfl ?_
  refine sp_bipush 15 rfl rfl ?_
  refine nwq 17 20 rfl rfl rfl rfl rfl (by decide) rfl (by decide) (by decide) (by decide) hz (by omega) (kC2 ho) (by omega) (kC0 ho) (by decide) (fun hz => ?_)
  refine sp_aload_n 21 rfl rfl rfl ?_
  refine sp_bipush 23 rfl rfl ?_
  refine nwq 25 28 rfl rfl rfl rfl rfl (by decide) rfl (by decide) (by decide) (by decide) hz (by omega) (kC3 ho) (by omega) (kC0 ho) (by decide) (fun hz => ?_)
  exact st_vret rfl rfl (by decide) (by decide) (kq hz)
theorem n_clear {o n : Nat} (ho : isP o) (h0 : mm_ix o < mm_ix n) (h5 : mm_ix (o + 5) < mm_ix n) (hr : R o 16 = some (o + 5)) (hz : Zq n I J R) (kq : Zq n (I_P o I) (J_P o J) R → Q none (hq n (I_P o I) (J_P o J) R)) : mm_s SL xs (d + 1) 50 [.ref o] (hq n I J R) Q := by
  refine e_X5_clear rfl ?_
  refine hs_L (L2 := [some (.ref o)]) rfl ?_
  refine sp_aload_n 1 rfl rfl rfl ?_
  refine sp_iconst 2 rfl rfl ?_
  refine pIq 5 rfl rfl hz (by omega) (kP0 ho) (fun hz => ?_)
  refine sp_aload_n 6 rfl rfl rfl ?_
  refine sp_iconst 7 rfl rfl ?_
  refine pIq 10 rfl rfl hz (by omega) (kP0 ho) (fun hz => ?_)
  refine sp_aload_n 11 rfl rfl rfl ?_
  refine sp_iconst 12 rfl rfl ?_
  refine pIq 15 rfl rfl hz (by omega) (kP0 ho) (fun hz => ?_)
  refine sp_aload_n 16 rfl rfl rfl ?_
  refine sp_iconst 17 rfl rfl ?_
  refine pIq 20 rfl rfl hz (by omega) (kP0 ho) (fun hz => ?_)
  refine sp_aload_n 21 rfl rfl rfl ?_
  refine sp_iconst 22 rfl rfl ?_
  refine pIq 25 rfl rfl hz (by omega) (kP0 ho) (fun hz => ?_)
  refine sp_aload_n 26 rfl rfl rfl ?_
  refine sp_iconst 27 rfl rfl ?_
  refine pIq 30 rfl rfl hz (by omega) (kP0 ho) (fun hz => ?_)
  refine sp_aload_n 31 rfl rfl rfl ?_
  refine sp_lconst 32 rfl rfl ?_
  refine pJq 35 rfl rfl hz (by omega) (kP0 ho) (fun hz => ?_)
  refine sp_aload_n 36 rfl rfl rfl ?_
  refine sp_iconst 37 rfl rfl ?_
  refine pIq 40 rfl rfl hz (by omega) (kP0 ho) (fun hz => ?_)
  refine sp_aload_n 41 rfl rfl rfl ?_
  refine sp_iconst 42 rfl rfl ?_
  refine pIq 45 rfl rfl hz (by omega) (kP0 ho) (fun hz => ?_)
  refine sp_aload_n 46 rfl rfl rfl ?_
  refine sp_iconst 47 rfl rfl ?_
  refine pIq 50 rfl rfl hz (by omega) (kP0 ho) (fun hz => ?_)
  refine sp_aload_n 51 rfl rfl rfl ?_
  refine sp_iconst 52 rfl rfl ?_
  refine pIq 55 rfl rfl hz (by omega) (kP0 ho) (fun hz => ?_)
  refine sp_aload_n 56 rfl rfl rfl ?_
  refine sp_iconst 57 rfl rfl ?_
  refine pIq 60 rfl rfl hz (by omega) (kP0 ho) (fun hz => ?_)
  refine sp_aload_n 61 rfl rfl rfl ?_
  refine sp_getR 64 rfl ((kq_at (by omega)).trans (kP0 ho)) hr rfl ?_
  refine sp_iconst 65 rfl rfl ?_
  refine sp_iconst 66 rfl rfl ?_
  refine aiq 67 rfl rfl hz (by omega) (kP5 ho) (z_inN (t := 0) (by omega) (by omega)) (z_ixN (t := 0) (by omega)) (fun hz => ?_)
  refine sp_aload_n 68 rfl rfl rfl ?_
  refine sp_iconst 69 rfl rfl ?_
  refine pIq 72 rfl rfl hz (by omega) (kP0 ho) (fun hz => ?_)
  exact st_vret rfl rfl (by decide) (by decide) (kq hz)
theorem n_plan {o m : Nat} (ho : isP o) (hm : mm_ix m = mm_ix o + 7) (hz : Zq (o + 1) I J R) (kq : Zq m (I_P o I) (J_P o J) (R_P o R) → Q none (hq m (I_P o I) (J_P o J) (R_P o R))) : mm_s SL xs (d + 2) 49 [.ref o] (hq (o + 1) I J R) Q := by
  obtain ⟨c1, c2, c3, c4, c5, c6⟩ := ixP ho
  refine e_X5_init rfl ?_
  refine hs_L (L2 := [some (.ref o)]) rfl ?_
  refine sp_aload_n 1 rfl rfl rfl ?_
  refine sp_objI 4 rfl rfl rfl ?_
  refine sp_aload_n 5 rfl rfl rfl ?_
  refine sp_bipush 7 rfl rfl ?_
  refine nwq 9 12 rfl rfl rfl rfl rfl (by decide) rfl (by decide) (by decide) (by decide) hz (by omega) (kP1 ho) (by omega) (kP0 ho) (by decide) (fun hz => ?_)
  refine sp_aload_n 13 rfl rfl rfl ?_
  refine sp_bipush 15 rfl rfl ?_
  refine nwq 17 20 rfl rfl rfl rfl rfl (by decide) rfl (by decide) (by decide) (by decide) hz (by omega) (kP2 ho) (by omega) (kP0 ho) (by decide) (fun hz => ?_)
  refine sp_aload_n 21 rfl rfl rfl ?_
  refine sp_bipush 23 rfl rfl ?_
  refine nwq 25 28 rfl rfl rfl rfl rfl (by decide) rfl (by decide) (by decide) (by decide) hz (by omega) (kP3 ho) (by omega) (kP0 ho) (by decide) (fun hz => ?_)
  refine sp_aload_n 29 rfl rfl rfl ?_
  refine sp_bipush 31 rfl rfl ?_
  refine nwq 33 36 rfl rfl rfl rfl rfl (by decide) rfl (by decide) (by decide) (by decide) hz (by omega) (kP4 ho) (by omega) (kP0 ho) (by decide) (fun hz => ?_)
  refine sp_aload_n 37 rfl rfl rfl ?_
  refine sp_sipush 40 rfl rfl ?_
  refine nwq 42 45 rfl rfl rfl rfl rfl (by decide) rfl (by decide) (by decide) (by decide) hz (by omega) (kP5 ho) (by omega) (kP0 ho) (by decide) (fun hz => ?_)
  refine sp_aload_n 46 rfl rfl rfl ?_
  refine sp_bipush 48 rfl rfl ?_
  refine nwqm 50 53 m rfl rfl rfl rfl rfl (by decide) rfl (by decide) (by decide) (by decide) hz (by omega) (kP6 ho) (by omega) (kP0 ho) (by decide) (fun hz => ?_)
  refine sp_aload_n 54 rfl rfl rfl ?_
  refine sc_V 57 rfl rfl ((kq_at (by omega)).trans (kP0 ho)) rfl rfl (by decide) (by decide) rfl ?_
  refine n_clear ho (by omega) (show mm_ix (o + 1 + 1 + 1 + 1 + 1) < _ by omega) (by rw [mu_ne (by omega), mu_at]) hz (fun hz => ?_)
  exact st_vret rfl rfl (by decide) (by decide) (kq hz)
theorem n_X2 (hz : Zq 32 I J R) (kq : Zq 33 I J (mm_u R 31 0 (some 32)) → Q none (hq 33 I J (mm_u R 31 0 (some 32)))) : mm_s SL xs (d + 1) 24 [.ref 31] (hq 32 I J R) Q := by
  refine e_X2_init rfl ?_
  refine hs_L (L2 := [some (.ref 31)]) rfl ?_
  refine sp_aload_n 1 rfl rfl rfl ?_
  refine sp_objI 4 rfl rfl rfl ?_
  refine sp_aload_n 5 rfl rfl rfl ?_
  refine sp_bipush 7 rfl rfl ?_
  refine nwq 9 12 rfl rfl rfl rfl rfl (by decide) rfl (by decide) (by decide) (by decide) hz (by decide) rfl (by decide) rfl (by decide) (fun hz => ?_)
  exact st_vret rfl rfl (by decide) (by decide) (kq hz)
theorem n_X3 (hz : Zq 30 I J R) (kq : Zq 31 I J (mm_u R 29 0 (some 30)) → Q none (hq 31 I J (mm_u R 29 0 (some 30)))) : mm_s SL xs (d + 1) 33 [.ref 29] (hq 30 I J R) Q := by
  refine e_X3_init rfl ?_
  refine hs_L (L2 := [some (.ref 29)]) rfl ?_
  refine sp_aload_n 1 rfl rfl rfl ?_
  refine sp_objI 4 rfl rfl rfl ?_
  refine sp_aload_n 5 rfl rfl rfl ?_
  refine sp_bipush 7 rfl rfl ?_
  refine nwq 9 12 rfl rfl rfl rfl rfl (by decide) rfl (by decide) (by decide) (by decide) hz (by decide) rfl (by decide) rfl (by decide) (fun hz => ?_)
  exact st_vret rfl rfl (by decide) (by decide) (kq hz)
theorem n_X8 (hz : Zq 34 I J R) (kq : Zq 39 I J (mm_u (mm_u (mm_u (mm_u (mm_u R 33 1 (some 34)) 33 2 (some 35)) 33 3 (some 36)) 33 4 (some 37)) 33 5 (some 38)) → Q none (hq 39 I J (mm_u (mm_u (mm_u (mm_u (mm_u R 33 1 (some 34)) 33 2 (some 35)) 33 3 (some 36)) 33 4 (some 37)) 33 5 (some 38)))) : mm_s SL xs (d + 1) 92 [.ref 33] (hq 34 I J R) Q := by
  refine e_X8_init rfl ?_
  refine hs_L (L2 := [some (.ref 33)]) rfl ?_
  refine sp_aload_n 1 rfl rfl rfl ?_
  refine sp_objI 4 rfl rfl rfl ?_
  refine sp_aload_n 5 rfl rfl rfl ?_
  refine sp_bipush 7 rfl rfl ?_
  refine nwq 9 12 rfl rfl rfl rfl rfl (by decide) rfl (by decide) (by decide) (by decide) hz (by decide) rfl (by decide) rfl (by decide) (fun hz => ?_)
  refine sp_aload_n 13 rfl rfl rfl ?_
  refine sp_bipush 15 rfl rfl ?_
  refine nwq 17 20 rfl rfl rfl rfl rfl (by decide) rfl (by decide) (by decide) (by decide) hz (by decide) rfl (by decide) rfl (by decide) (fun hz => ?_)
  refine sp_aload_n 21 rfl rfl rfl ?_
  refine sp_sipush 24 rfl rfl ?_
  refine nwq 26 29 rfl rfl rfl rfl rfl (by decide) rfl (by decide) (by decide) (by decide) hz (by decide) rfl (by decide) rfl (by decide) (fun hz => ?_)
  refine sp_aload_n 30 rfl rfl rfl ?_
  refine sp_iconst 31 rfl rfl ?_
  refine nwq 33 36 rfl rfl rfl rfl rfl (by decide) rfl (by decide) (by decide) (by decide) hz (by decide) rfl (by decide) rfl (by decide) (fun hz => ?_)
  refine sp_aload_n 37 rfl rfl rfl ?_
  refine sp_sipush 40 rfl rfl ?_
  refine nwq 42 45 rfl rfl rfl rfl rfl (by decide) rfl (by decide) (by decide) (by decide) hz (by decide) rfl (by decide) rfl (by decide) (fun hz => ?_)
  exact st_vret rfl rfl (by decide) (by decide) (kq hz)
theorem n_X0 (hz : Zq 21 I J R) (kq : Zq 29 I J (mm_u (R_C 25 (mm_u (R_C 21 R) 20 0 (some 21))) 20 1 (some 25)) → Q none (hq 29 I J (mm_u (R_C 25 (mm_u (R_C 21 R) 20 0 (some 21))) 20 1 (some 25)))) : mm_s SL xs (d + 2) 0 [.ref 20] (hq 21 I J R) Q := by
  refine e_X0_init rfl ?_
  refine hs_L (L2 := [some (.ref 20)]) rfl ?_
  refine sp_aload_n 1 rfl rfl rfl ?_
  refine sp_objI 4 rfl rfl rfl ?_
  refine sp_aload_n 5 rfl rfl rfl ?_
  refine nob 8 rfl (by decide) (by decide) rfl hz (by decide) rfl (fun hz => ?_)
  refine sp_dup 9 rfl rfl rfl ?_
  refine sc_I 12 rfl (by decide) rfl ((kq_at (by decide)).trans rfl) rfl (by decide) (by decide) rfl ?_
  refine n_course (o := 21) isC_21 hz (fun hz => ?_)
  refine pRq 15 rfl rfl hz (by decide) rfl (by decide) (fun hz => ?_)
  refine sp_aload_n 16 rfl rfl rfl ?_
  refine nob 19 rfl (by decide) (by decide) rfl hz (by decide) rfl (fun hz => ?_)
  refine sp_dup 20 rfl rfl rfl ?_
  refine sc_I 23 rfl (by decide) rfl ((kq_at (by decide)).trans rfl) rfl (by decide) (by decide) rfl ?_
  refine n_course (o := 25) isC_25 hz (fun hz => ?_)
  refine pRq 26 rfl rfl hz (by decide) rfl (by decide) (fun hz => ?_)
  exact st_vret rfl rfl (by decide) (by decide) (kq hz)
end
