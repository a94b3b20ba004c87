/-! the class's making, whole -/
theorem nqq (n2 n3 : Nat) {SL : Nat} {xs : Nat → Int32} {cs : mm_Cs} {am : Nat → Nat × Nat} {cd : List (Nat × mm_R)} {mc ms : Nat} {rt : Option FieldType} {Q : Option Value → mm_H → Prop} {pc : Nat} {L : mm_L} {c s : Nat} {st : List Value} {n : Nat} {I : Nat → Nat → Int32} {J : Nat → Nat → Int64} {R : Nat → Nat → Option Nat} {v : Int32} {o i i2 ci f N : Nat} (hd : cd.lookup pc = some (.anewarray i2, 3, 0, 0, 0, 0)) (hd2 : cd.lookup n2 = some (.putfield i, 3, ci, f, 2, 0)) (e1 : pc + 3 = n2) (e2 : n2 + 3 = n3) (h1 : ¬ v < 0) (h2 : v.toNatClampNeg = N) (h3 : N ≤ 60000) (h4 : c + 1 ≤ mc) (h5 : s + N ≤ ms) (hz : Zq n I J R) (hx : mm_ix (n + 1) = mm_ix n + 1) (hk : ly_kd n = .inl (.object RX1, N)) (ho : mm_ix o < mm_ix n) (hko : ly_kd o = .inr ci) (hf : f < 20) (k0 : Zq (n + 1) I J (mm_u R o f (some n)) → mm_w SL xs cs am cd mc ms rt Q n3 L st (hq (n + 1) I J (mm_u R o f (some n))) (c + 1) (s + N)) : mm_w SL xs cs am cd mc ms rt Q pc L (.int v :: .ref o :: st) (hq n I J R) c s := by
  refine sp_newq n2 hd h1 h2 h3 h4 h5 e1 ?_
  rw [hq_new hz hx hk, show mm_ad (hq n I J R).1 = n from mm_ad_ix n]
  exact sp_putR n3 hd2 ((kq_at (by omega)).trans hko) e2 (k0 (Zq_R (by omega) hf (Zq_m (by omega) hz)))
def fT (a : Nat) (v : Int32) (t : Nat) (I : Nat → Nat → Int32) : Nat → Nat → Int32 := fun r i => if r = a then (if i < t then v else I r i) else I r i
theorem fT_0 {a : Nat} {v : Int32} {I : Nat → Nat → Int32} : fT a v 0 I = I := by
  funext r i
  unfold fT
  split
  · rw [if_neg (by omega)]
  · rfl
theorem fT_s {a t : Nat} {v : Int32} {I : Nat → Nat → Int32} : mm_u (fT a v t I) a t v = fT a v (t + 1) I := by
  funext r i
  show (if r = a then (if i = t then v else (if r = a then (if i < t then v else I r i) else I r i)) else (if r = a then (if i < t then v else I r i) else I r i)) = if r = a then (if i < t + 1 then v else I r i) else I r i
  by_cases e : r = a
  · simp only [if_pos e]
    by_cases q : i = t
    · rw [if_pos q, if_pos (by omega)]
    · rw [if_neg q]
      by_cases w : i < t
      · rw [if_pos w, if_pos (by omega)]
      · rw [if_neg w, if_neg (by omega)]
  · simp only [if_neg e]
section
variable {SL : Nat} {xs : Nat → Int32} {d : Nat} {Q : Option Value → mm_H → Prop} {I : Nat → Nat → Int32} {J : Nat → Nat → Int64} {R : Nat → Nat → Option Nat}
theorem n_fill_l {a n : Nat} {v : Int32} (ha : mm_ix a < mm_ix n) (hk : ly_kd a = .inl (.int, 60)) (kq : Zq n (fT a v 60 I) J R → Q none (hq n (fT a v 60 I) J R)) : ∀ (f t : Nat), t + f = 60 → Zq n (fT a v t I) J R → mm_w SL xs (mm_s SL xs d) mm_am kJ7_fill_53178 0 0 none Q 5 [some (.ref a), some (.int v), some (.int (Int32.ofInt (t : Nat))), some (.int (Int32.ofInt ((60 : Nat) : Int)))] [] (hq n (fT a v t I) J R) 0 0
  | 0, t, hf, hz => by
    obtain rfl : t = 60 := by omega
    refine sp_iload_n 6 rfl rfl rfl ?_
    refine sp_iload_n 7 rfl rfl rfl ?_
    refine sp_ic_ge 10 rfl rfl (fun _ => ?_) (fun h => absurd (by rw [z_le (by omega)]; omega) h)
    exact st_vret rfl rfl (by decide) (by decide) (kq hz)
  | f + 1, t, hf, hz => by
    refine sp_iload_n 6 rfl rfl rfl ?_
    refine sp_iload_n 7 rfl rfl rfl ?_
    refine sp_ic_ge 10 rfl rfl (fun h => ?_) (fun _ => ?_)
    · rw [z_le (by omega)] at h; omega
    refine sp_aload_n 11 rfl rfl rfl ?_
    refine sp_iload_n 12 rfl rfl rfl ?_
    refine sp_iload_n 13 rfl rfl rfl ?_
    refine aiq 14 (t := t) rfl rfl hz ha hk (z_inN (by omega) (by omega)) (z_ixN (by omega)) (fun hz => ?_)
    rw [fT_s] at hz ⊢
    refine hs_iinc 17 (L2 := [some (.ref a), some (.int v), some (.int (Int32.ofInt (t : Nat) + Int32.ofInt 1)), some (.int (Int32.ofInt ((60 : Nat) : Int)))]) rfl rfl rfl rfl rfl ?_
    rw [z_p1]
    refine sp_goto rfl ?_
    exact n_fill_l ha hk kq f (t + 1) (by omega) hz
theorem n_fill {a n : Nat} {v : Int32} (ha : mm_ix a < mm_ix n) (hk : ly_kd a = .inl (.int, 60)) (hz : Zq n I J R) (kq : Zq n (fT a v 60 I) J R → Q none (hq n (fT a v 60 I) J R)) : mm_s SL xs (d + 1) 281 [.ref a, .int v] (hq n I J R) Q := by
  refine e_J7_fill_53178 rfl ?_
  refine hs_L (L2 := [some (.ref a), some (.int v), none, none]) rfl ?_
  refine sp_iconst 1 rfl rfl ?_
  refine hs_istore_n 2 (L2 := [some (.ref a), some (.int v), some (.int (Int32.ofInt 0)), none]) rfl rfl rfl rfl ?_
  refine sp_aload_n 3 rfl rfl rfl ?_
  refine sp_alen 4 rfl ((kq_at ha).trans hk) rfl rfl ?_
  refine hs_istore_n 5 (L2 := [some (.ref a), some (.int v), some (.int (Int32.ofInt 0)), some (.int (Int32.ofInt ((60 : Nat) : Int)))]) rfl rfl rfl rfl ?_
  have := n_fill_l (SL := SL) (xs := xs) (d := d) (I := I) ha hk kq 60 0 rfl (by rw [fT_0]; exact hz)
  rw [fT_0] at this
  exact this
def I_S (b : Int32) (I : Nat → Nat → Int32) : Nat → Nat → Int32 := fT 17 (Int32.ofInt (-1)) 60 (fT 16 (Int32.ofInt 0) 60 (mm_u (mm_u (mm_u (mm_u (mm_u (mm_u I 15 2 (Int32.ofInt 0)) 15 3 (Int32.ofInt (-1))) 15 4 (Int32.ofInt (-1))) 15 5 (Int32.ofInt 0)) 15 9 b) 15 10 (Int32.ofInt 0)))
theorem n_start {b : Int32} (h6 : R 15 6 = some 16) (h7 : R 15 7 = some 17) (hz : Zq 65 I J R) (kq : Zq 65 (I_S b I) (mm_u J 15 1 (sx_X6_all (I 39 0))) R → Q none (hq 65 (I_S b I) (mm_u J 15 1 (sx_X6_all (I 39 0))) R)) : mm_s SL xs (d + 2) 13 [.ref 15, .ref 39, .int b] (hq 65 I J R) Q := by
  refine e_X1_startFrom rfl ?_
  refine hs_L (L2 := [some (.ref 15), some (.ref 39), some (.int b)]) rfl ?_
  refine sp_aload_n 1 rfl rfl rfl ?_
  refine sp_aload_n 2 rfl rfl rfl ?_
  refine sp_getI 5 rfl ((kq_at (by decide)).trans rfl) rfl ?_
  refine sc_S 8 rfl rfl rfl rfl (by decide) (by decide) rfl ?_
  refine cx_X6_all ?_
  refine pJq 11 rfl rfl hz (by decide) rfl (fun hz => ?_)
  refine sp_aload_n 12 rfl rfl rfl ?_
  refine sp_iconst 13 rfl rfl ?_
  refine pIq 16 rfl rfl hz (by decide) rfl (fun hz => ?_)
  refine sp_aload_n 17 rfl rfl rfl ?_
  refine sp_iconst 18 rfl rfl ?_
  refine pIq 21 rfl rfl hz (by decide) rfl (fun hz => ?_)
  refine sp_aload_n 22 rfl rfl rfl ?_
  refine sp_iconst 23 rfl rfl ?_
  refine pIq 26 rfl rfl hz (by decide) rfl (fun hz => ?_)
  refine sp_aload_n 27 rfl rfl rfl ?_
  refine sp_iconst 28 rfl rfl ?_
  refine pIq 31 rfl rfl hz (by decide) rfl (fun hz => ?_)
  refine sp_aload_n 32 rfl rfl rfl ?_
  refine sp_iload_n 33 rfl rfl rfl ?_
  refine pIq 36 rfl rfl hz (by decide) rfl (fun hz => ?_)
  refine sp_aload_n 37 rfl rfl rfl ?_
  refine sp_iconst 38 rfl rfl ?_
  refine pIq 41 rfl rfl hz (by decide) rfl (fun hz => ?_)
  refine sp_aload_n 42 rfl rfl rfl ?_
  refine sp_getR 45 rfl ((kq_at (by decide)).trans rfl) h6 rfl ?_
  refine sp_iconst 46 rfl rfl ?_
  refine sc_S 49 rfl rfl rfl rfl (by decide) (by decide) rfl ?_
  refine n_fill (a := 16) (by decide) rfl hz (fun hz => ?_)
  refine sp_aload_n 50 rfl rfl rfl ?_
  refine sp_getR 53 rfl ((kq_at (by decide)).trans rfl) h7 rfl ?_
  refine sp_iconst 54 rfl rfl ?_
  refine sc_S 57 rfl rfl rfl rfl (by decide) (by decide) rfl ?_
  refine n_fill (a := 17) (by decide) rfl hz (fun hz => ?_)
  exact st_vret rfl rfl (by decide) (by decide) (kq hz)
theorem n_X7 (hz : Zq 4 I J R) (kq : ∀ J2, (∀ r, r ≠ 6 → J2 r = J r) → v_own (J2 6) → Zq 53 (mm_u I 3 2 (Int32.ofInt (-1))) J2 (mm_u (mm_u (mm_u (mm_u (mm_u R 4 0 (some 5)) 4 8 (some 6)) 3 0 (some 4)) 3 4 (some 14)) 3 3 (some 46)) → Q none (hq 53 (mm_u I 3 2 (Int32.ofInt (-1))) J2 (mm_u (mm_u (mm_u (mm_u (mm_u R 4 0 (some 5)) 4 8 (some 6)) 3 0 (some 4)) 3 4 (some 14)) 3 3 (some 46)))) : mm_s SL xs (d + 3) 72 [.ref 3, .ref 46] (hq 4 I J R) Q := by
  refine e_X7_init rfl ?_
  refine hs_L (L2 := [some (.ref 3), some (.ref 46)]) rfl ?_
  refine sp_aload_n 1 rfl rfl rfl ?_
  refine sp_objI 4 rfl rfl rfl ?_
  refine sp_aload_n 5 rfl rfl rfl ?_
  refine nob 8 rfl (by decide) (by decide) rfl hz (by decide) rfl (fun hz => ?_)
  refine sp_dup 9 rfl rfl rfl ?_
  refine sc_I 12 rfl (by decide) rfl ((kq_at (by decide)).trans rfl) rfl (by decide) (by decide) rfl ?_
  refine n_X9 hz (fun J2 hz g1 g2 => ?_)
  refine pRq 15 rfl rfl hz (by decide) rfl (by decide) (fun hz => ?_)
  refine sp_aload_n 16 rfl rfl rfl ?_
  refine sp_iconst 17 rfl rfl ?_
  refine pIq 20 rfl rfl hz (by decide) rfl (fun hz => ?_)
  refine sp_aload_n 21 rfl rfl rfl ?_
  refine sp_bipush 23 rfl rfl ?_
  refine nwqm 25 28 53 rfl rfl rfl rfl rfl (by decide) rfl (by decide) (by decide) (by decide) hz (by decide) rfl (by decide) rfl (by decide) (fun hz => ?_)
  refine sp_aload_n 29 rfl rfl rfl ?_
  refine sp_aload_n 30 rfl rfl rfl ?_
  refine pRq 33 rfl rfl hz (by decide) rfl (by decide) (fun hz => ?_)
  exact st_vret rfl rfl (by decide) (by decide) (kq J2 g1 g2 hz)
end
