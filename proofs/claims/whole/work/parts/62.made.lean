/-! the class's making: the end -/
theorem h0_q : mm_h0 = hq 2 (fun _ _ => 0) (fun _ _ => 0) (fun _ _ => none) := by
  have e : (fun _ => Sum.inl (FieldType.double, 0) : Nat → (FieldType × Nat) ⊕ Nat) = kdn 2 := by
    funext a
    unfold kdn
    by_cases h : mm_ix a < mm_ix 2
    · rw [if_pos h]
      have h2 : mm_ix 2 = 2 := rfl
      have h1 := mm_ix_e a
      have : a < 2 := by omega
      match a, this with
      | 0, _ => rfl
      | 1, _ => rfl
    · rw [if_neg h]
  show (2, (fun _ => Sum.inl (FieldType.double, 0) : Nat → (FieldType × Nat) ⊕ Nat), (fun _ _ => (0 : Int32)), (fun _ _ => (0 : Int64)), (fun _ _ => (none : Option Nat))) = _
  rw [e]; rfl
theorem z0_q : Zq 2 (fun _ _ => 0) (fun _ _ => 0) (fun _ _ => none) := ⟨fun _ _ _ => rfl, fun _ _ _ => rfl, fun _ _ _ => rfl⟩
def RF : Nat → Nat → Option Nat := (mm_u (R_C 61 (mm_u (R_C 57 (mm_u (R_C 53 (mm_u (mm_u (mm_u (mm_u (mm_u (mm_u (mm_u (R_P 46 (mm_u (R_P 39 (mm_u (mm_u (mm_u (mm_u (mm_u (mm_u (mm_u (mm_u (mm_u (mm_u (mm_u (mm_u (R_C 25 (mm_u (R_C 21 (mm_u (mm_u (R_C 15 (fun _ _ => none)) 2 1 (some 15)) 2 2 (some 19))) 20 0 (some 21))) 20 1 (some 25)) 2 3 (some 20)) 29 0 (some 30)) 2 4 (some 29)) 31 0 (some 32)) 2 5 (some 31)) 33 1 (some 34)) 33 2 (some 35)) 33 3 (some 36)) 33 4 (some 37)) 33 5 (some 38)) 2 6 (some 33))) 2 7 (some 39))) 2 8 (some 46)) 4 0 (some 5)) 4 8 (some 6)) 3 0 (some 4)) 3 4 (some 14)) 3 3 (some 46)) 2 0 (some 3))) 19 0 (some 53))) 19 1 (some 57))) 19 2 (some 61))
theorem RF_t : ∀ (a : Fin 65) (k : Fin 20), RF a.val k.val = ly_R 39 46 46 a.val k.val := by decide +kernel
theorem lr_20 : ∀ a : Fin 65, ((ly_rl 39 46 46).getD a.val []).length ≤ 20 := by decide +kernel
theorem kd_65 : ∀ a : Fin 65, kdn 65 a.val = ly_kd a.val := by decide +kernel
theorem TR_i0 {I : Nat → Nat → Int32} {J : Nat → Nat → Int64} (h1 : J 15 1 = sx_X6_all (Int32.ofInt ((1 : Nat) : Int))) (h2 : ∀ i, i < 60 → I 16 i = Int32.ofInt 0) (h3 : ∀ i, i < 60 → I 17 i = Int32.ofInt (-1)) (e2 : I 15 2 = Int32.ofInt 0) (e3 : I 15 3 = Int32.ofInt (-1)) (e4 : I 15 4 = Int32.ofInt (-1)) (e5 : I 15 5 = Int32.ofInt 0) (e9 : I 15 9 = Int32.ofInt 0) (e10 : I 15 10 = Int32.ofInt 0) : TR 15 (fr3 P00 0) I J :=
  ⟨⟨by rw [h1, bs_all (by omega)]; rfl, h2, e2, e3, e4, e9, e10⟩, h3, by decide, e5, fun i hi => absurd hi (Nat.not_lt_zero i)⟩
theorem ct_X {SL : Nat} {xs : Nat → Int32} {d : Nat} {Q : Option Value → mm_H → Prop} (hd : 150 ≤ d) (k : ∀ h, ix h → Q none h) : mm_s SL xs d 115 [.ref 2] (mm_new mm_h0 (.inr 8)) Q := by
  obtain ⟨e, rfl⟩ : ∃ e, d = e + 20 := ⟨d - 20, by omega⟩
  rw [h0_q, hq_new (m := 15) z0_q (by decide) (show ly_kd 2 = .inr 8 from rfl)]
  have hz := Zq_m (m := 15) (by decide) z0_q
  refine e_X10_init rfl ?_
  refine hs_L (L2 := [some (.ref 2), none]) rfl ?_
  refine sp_aload_n 1 rfl rfl rfl ?_
  refine sp_objI 4 rfl rfl rfl ?_
  refine sp_aload_n 5 rfl rfl rfl ?_
  refine nob 8 rfl (by decide) (by decide) rfl hz (by decide) rfl (fun hz => ?_)
  refine sp_dup 9 rfl rfl rfl ?_
  refine sc_I 12 rfl (by decide) rfl ((kq_at (by decide)).trans rfl) rfl (by decide) (by decide) rfl ?_
  refine n_course (o := 15) isC_15 hz (fun hz => ?_)
  refine pRq 15 rfl rfl hz (by decide) rfl (by decide) (fun hz => ?_)
  refine sp_aload_n 16 rfl rfl rfl ?_
  refine sp_iconst 17 rfl rfl ?_
  refine nqq 20 23 rfl rfl rfl rfl (by decide) rfl (by decide) (by decide) (by decide) hz (by decide) rfl (by decide) rfl (by decide) (fun hz => ?_)
  refine sp_aload_n 24 rfl rfl rfl ?_
  refine nob 27 rfl (by decide) (by decide) rfl hz (by decide) rfl (fun hz => ?_)
  refine sp_dup 28 rfl rfl rfl ?_
  refine sc_I 31 rfl (by decide) rfl ((kq_at (by decide)).trans rfl) rfl (by decide) (by decide) rfl ?_
  refine n_X0 hz (fun hz => ?_)
  refine pRq 34 rfl rfl hz (by decide) rfl (by decide) (fun hz => ?_)
  refine sp_aload_n 35 rfl rfl rfl ?_
  refine nob 38 rfl (by decide) (by decide) rfl hz (by decide) rfl (fun hz => ?_)
  refine sp_dup 39 rfl rfl rfl ?_
  refine sc_I 42 rfl (by decide) rfl ((kq_at (by decide)).trans rfl) rfl (by decide) (by decide) rfl ?_
  refine n_X3 hz (fun hz => ?_)
  refine pRq 45 rfl rfl hz (by decide) rfl (by decide) (fun hz => ?_)
  refine sp_aload_n 46 rfl rfl rfl ?_
  refine nob 49 rfl (by decide) (by decide) rfl hz (by decide) rfl (fun hz => ?_)
  refine sp_dup 50 rfl rfl rfl ?_
  refine sc_I 53 rfl (by decide) rfl ((kq_at (by decide)).trans rfl) rfl (by decide) (by decide) rfl ?_
  refine n_X2 hz (fun hz => ?_)
  refine pRq 56 rfl rfl hz (by decide) rfl (by decide) (fun hz => ?_)
  refine sp_aload_n 57 rfl rfl rfl ?_
  refine nob 60 rfl (by decide) (by decide) rfl hz (by decide) rfl (fun hz => ?_)
  refine sp_dup 61 rfl rfl rfl ?_
  refine sc_I 64 rfl (by decide) rfl ((kq_at (by decide)).trans rfl) rfl (by decide) (by decide) rfl ?_
  refine n_X8 hz (fun hz => ?_)
  refine pRq 67 rfl rfl hz (by decide) rfl (by decide) (fun hz => ?_)
  refine sp_aload_n 68 rfl rfl rfl ?_
  refine nob 71 rfl (by decide) (by decide) rfl hz (by decide) rfl (fun hz => ?_)
  refine sp_dup 72 rfl rfl rfl ?_
  refine sc_I 75 rfl (by decide) rfl ((kq_at (by decide)).trans rfl) rfl (by decide) (by decide) rfl ?_
  refine n_plan (o := 39) (m := 46) (Or.inl rfl) (by decide) hz (fun hz => ?_)
  refine pRq 78 rfl rfl hz (by decide) rfl (by decide) (fun hz => ?_)
  refine sp_aload_n 79 rfl rfl rfl ?_
  refine nob 82 rfl (by decide) (by decide) rfl hz (by decide) rfl (fun hz => ?_)
  refine sp_dup 83 rfl rfl rfl ?_
  refine sc_I 86 rfl (by decide) rfl ((kq_at (by decide)).trans rfl) rfl (by decide) (by decide) rfl ?_
  refine n_plan (o := 46) (m := 3) (Or.inr rfl) (by decide) hz (fun hz => ?_)
  refine pRq 89 rfl rfl hz (by decide) rfl (by decide) (fun hz => ?_)
  refine sp_aload_n 90 rfl rfl rfl ?_
  refine nob 93 rfl (by decide) (by decide) rfl hz (by decide) rfl (fun hz => ?_)
  refine sp_dup 94 rfl rfl rfl ?_
  refine sp_aload_n 95 rfl rfl rfl ?_
  refine sp_getR 98 rfl ((kq_at (by decide)).trans rfl) rfl rfl ?_
  refine sc_I 101 rfl (by decide) rfl ((kq_at (by decide)).trans rfl) rfl (by decide) (by decide) rfl ?_
  refine n_X7 hz (fun J2 g1 g2 hz => ?_)
  refine pRq 104 rfl rfl hz (by decide) rfl (by decide) (fun hz => ?_)
  refine sp_iconst 105 rfl rfl ?_
  refine hs_istore_n 106 (L2 := [some (.ref 2), some (.int (Int32.ofInt 0))]) rfl rfl rfl rfl ?_
  refine sp_iload_n 107 rfl rfl rfl ?_
  refine sp_iconst 108 rfl rfl ?_
  refine sp_ic_ge 111 rfl rfl (fun h => absurd h (by decide)) (fun _ => ?_)
  refine sp_aload_n 112 rfl rfl rfl ?_
  refine sp_getR 115 rfl ((kq_at (by decide)).trans rfl) rfl rfl ?_
  refine sp_iload_n 116 rfl rfl rfl ?_
  refine nob 119 rfl (by decide) (by decide) rfl hz (by decide) rfl (fun hz => ?_)
  refine sp_dup 120 rfl rfl rfl ?_
  refine sc_I 123 rfl (by decide) rfl ((kq_at (by decide)).trans rfl) rfl (by decide) (by decide) rfl ?_
  refine n_course (o := 53) isC_53 hz (fun hz => ?_)
  refine arq 124 (a := 19) (t := 0) rfl rfl hz (by decide) rfl (z_inN (t := 0) (by omega) (by omega)) (z_ixN (t := 0) (by omega)) (by decide) rfl (by decide) (fun hz => ?_)
  refine hs_iinc 127 (L2 := [some (.ref 2), some (.int (Int32.ofInt 1))]) rfl rfl rfl rfl rfl ?_
  refine sp_goto rfl ?_
  refine sp_iload_n 107 rfl rfl rfl ?_
  refine sp_iconst 108 rfl rfl ?_
  refine sp_ic_ge 111 rfl rfl (fun h => absurd h (by decide)) (fun _ => ?_)
  refine sp_aload_n 112 rfl rfl rfl ?_
  refine sp_getR 115 rfl ((kq_at (by decide)).trans rfl) rfl rfl ?_
  refine sp_iload_n 116 rfl rfl rfl ?_
  refine nob 119 rfl (by decide) (by decide) rfl hz (by decide) rfl (fun hz => ?_)
  refine sp_dup 120 rfl rfl rfl ?_
  refine sc_I 123 rfl (by decide) rfl ((kq_at (by decide)).trans rfl) rfl (by decide) (by decide) rfl ?_
  refine n_course (o := 57) isC_57 hz (fun hz => ?_)
  refine arq 124 (a := 19) (t := 1) rfl rfl hz (by decide) rfl (z_inN (t := 1) (by omega) (by omega)) (z_ixN (t := 1) (by omega)) (by decide) rfl (by decide) (fun hz => ?_)
  refine hs_iinc 127 (L2 := [some (.ref 2), some (.int (Int32.ofInt 2))]) rfl rfl rfl rfl rfl ?_
  refine sp_goto rfl ?_
  refine sp_iload_n 107 rfl rfl rfl ?_
  refine sp_iconst 108 rfl rfl ?_
  refine sp_ic_ge 111 rfl rfl (fun h => absurd h (by decide)) (fun _ => ?_)
  refine sp_aload_n 112 rfl rfl rfl ?_
  refine sp_getR 115 rfl ((kq_at (by decide)).trans rfl) rfl rfl ?_
  refine sp_iload_n 116 rfl rfl rfl ?_
  refine nob 119 rfl (by decide) (by decide) rfl hz (by decide) rfl (fun hz => ?_)
  refine sp_dup 120 rfl rfl rfl ?_
  refine sc_I 123 rfl (by decide) rfl ((kq_at (by decide)).trans rfl) rfl (by decide) (by decide) rfl ?_
  refine n_course (o := 61) isC_61 hz (fun hz => ?_)
  refine arq 124 (a := 19) (t := 2) rfl rfl hz (by decide) rfl (z_inN (t := 2) (by omega) (by omega)) (z_ixN (t := 2) (by omega)) (by decide) rfl (by decide) (fun hz => ?_)
  refine hs_iinc 127 (L2 := [some (.ref 2), some (.int (Int32.ofInt 3))]) rfl rfl rfl rfl rfl ?_
  refine sp_goto rfl ?_
  refine sp_iload_n 107 rfl rfl rfl ?_
  refine sp_iconst 108 rfl rfl ?_
  refine sp_ic_ge 111 rfl rfl (fun _ => ?_) (fun h => absurd (by decide) h)
  refine sp_aload_n 131 rfl rfl rfl ?_
  refine sp_getR 134 rfl ((kq_at (by decide)).trans rfl) rfl rfl ?_
  refine sp_aload_n 135 rfl rfl rfl ?_
  refine sp_getR 138 rfl ((kq_at (by decide)).trans rfl) rfl rfl ?_
  refine sp_aload_n 139 rfl rfl rfl ?_
  refine sp_getR 142 rfl ((kq_at (by decide)).trans rfl) rfl rfl ?_
  refine sp_getI 145 rfl ((kq_at (by decide)).trans rfl) rfl ?_
  refine sc_V 148 rfl rfl ((kq_at (by decide)).trans rfl) rfl rfl (by decide) (by decide) rfl ?_
  refine n_start rfl rfl hz (fun hz => ?_)
  refine st_vret rfl rfl (by decide) (by decide) ?_
  have h65 : ∀ a, 65 ≤ a → mm_ix 65 ≤ mm_ix a := fun a ha => by
    have h1 := mm_ix_e a
    have h2 : mm_ix 65 = 58 := rfl
    omega
  refine k _ ⟨rfl, fun a ha => kd_65 ⟨a, ha⟩, fun a ha => if_neg (Nat.not_lt.mpr (h65 a ha)), ?_, fun a k ha => hz.2.2 a k (Or.inl (h65 a ha)), ?_⟩
  · intro a k ha
    rcases Nat.lt_or_ge k 20 with q | q
    · exact RF_t ⟨a, ha⟩ ⟨k, q⟩
    · rw [show ly_R 39 46 46 a k = none from gD_0 (Nat.le_trans (lr_20 ⟨a, ha⟩) q)]
      exact hz.2.2 a k (Or.inr q)
  · exact ⟨rfl, rfl, rfl, rfl, rfl, rfl, g2, ⟨rfl, rfl, rfl, rfl, rfl, rfl, (show J2 39 6 = Int64.ofInt 0 by rw [g1 39 (by decide)]; rfl), rfl, rfl, rfl, rfl, rfl⟩, TR_i0 rfl (fun i hi => if_pos hi) (fun i hi => if_pos hi) rfl rfl rfl rfl rfl rfl, rfl, rfl, rfl⟩
