/-! the whole text read, in the class -/
def pn (A : Nat → Option Nat) : Nat := (A 0).getD 1
def pb (A : Nat → Option Nat) : Nat := (A 1).getD 0
def by_ (A : Nat → Option Nat) : Option Nat := (A 5).map (fun v => v % pn A)
def stl (q : Nat) (A : Nat → Option Nat) (I : Nat → Nat → Int32) : Nat → Nat → Int32 := mm_u (mm_u I q 1 (Int32.ofInt ((pb A % pn A : Nat) : Int))) q 5 (Int32.ofInt (oi (by_ A) (-1)))
theorem pn_b {A : Nat → Option Nat} (h : aok A) : 1 ≤ pn A ∧ pn A ≤ 60 ∧ oi (A 0) 1 = (pn A : Nat) := by
  unfold pn
  cases z : A 0 with
  | none => exact ⟨by decide, by decide, rfl⟩
  | some v => have := h.1 v z; exact ⟨this.1, this.2, rfl⟩
theorem pb_b {A : Nat → Option Nat} (h : aok A) : pb A ≤ 59 ∧ oi (A 1) 0 = (pb A : Nat) := by
  unfold pb
  cases z : A 1 with
  | none => exact ⟨by decide, rfl⟩
  | some v => have := h.2.1 v z; exact ⟨this, rfl⟩
def clI (o : Nat) (I : Nat → Nat → Int32) : Nat → Nat → Int32 := mm_u (mm_u (mm_u (mm_u (mm_u (mm_u (mm_u (mm_u (mm_u (mm_u (mm_u (mm_u (mm_u I o 0 (Int32.ofInt 1)) o 1 (Int32.ofInt 0)) o 2 (Int32.ofInt 1)) o 3 (Int32.ofInt 0)) o 4 (Int32.ofInt 0)) o 5 (Int32.ofInt (-1))) o 7 (Int32.ofInt 0)) o 8 (Int32.ofInt 0)) o 9 (Int32.ofInt 0)) o 10 (Int32.ofInt 0)) o 11 (Int32.ofInt 0)) (o + 5) 0 (Int32.ofInt 3)) o 17 (Int32.ofInt 1)
theorem clI_r {o r : Nat} {I : Nat → Nat → Int32} (h1 : r ≠ o) (h2 : r ≠ o + 5) : clI o I r = I r := by
  unfold clI
  rw [mu_row h1, mu_row h2, mu_row h1, mu_row h1, mu_row h1, mu_row h1, mu_row h1, mu_row h1, mu_row h1, mu_row h1, mu_row h1, mu_row h1, mu_row h1]
theorem clI_q {o : Nat} {I : Nat → Nat → Int32} : clI o I o 0 = Int32.ofInt 1 ∧ clI o I o 1 = Int32.ofInt 0 ∧ clI o I o 2 = Int32.ofInt 1 ∧ clI o I o 3 = Int32.ofInt 0 ∧ clI o I o 4 = Int32.ofInt 0 ∧ clI o I o 5 = Int32.ofInt (-1) ∧ clI o I o 7 = Int32.ofInt 0 ∧ clI o I o 8 = Int32.ofInt 0 ∧ clI o I o 9 = Int32.ofInt 0 ∧ clI o I o 10 = Int32.ofInt 0 ∧ clI o I o 11 = Int32.ofInt 0 ∧ clI o I o 17 = Int32.ofInt 1 ∧ clI o I (o + 5) 0 = Int32.ofInt 3 := by
  refine ⟨?_, ?_, ?_, ?_, ?_, ?_, ?_, ?_, ?_, ?_, ?_, ?_, ?_⟩ <;> simp [clI, mm_u]
theorem sn_lt : ∀ k : Fin 8, sn k.val < 11 := by decide
section
variable {SL : Nat} {xs : Nat → Int32} {d : Nat} {p s q : Nat} {Q : Option Value → mm_H → Prop} {I : Nat → Nat → Int32} {J : Nat → Nat → Int64} {l j j0 : Nat} {T : Nat → Nat}
theorem c_settle {A : Nat → Option Nat} (hq : isP q) (ha : aok A) (h : kS q A I) (k : Q none (hp p s q (stl q A I) J)) : mm_s SL xs (d + 1) 51 [.ref q] (hp p s q I J) Q := by
  obtain ⟨n1, n2, n3⟩ := pn_b ha
  obtain ⟨b1, b2⟩ := pb_b ha
  obtain ⟨h0, h1, _, _, _, h5⟩ := h
  rw [n3] at h0
  rw [b2] at h1
  have hz : I q 0 = Int32.ofInt (pn A : Nat) := h0
  refine sg_X5_settle hq ?_
  rw [h0, h1, h5, z_le (by omega), z_eq0 (by omega), z_remN (by omega) (by omega) (by omega)]
  refine ⟨fun z => absurd z (by omega), fun _ => ⟨by omega, ?_⟩⟩
  unfold stl by_ at k
  cases z : A 5 with
  | none =>
    rw [z] at k
    exact ⟨fun _ => k, fun y => absurd rfl y⟩
  | some v =>
    have hv := ha.2.2.2.2.2 v z
    rw [z] at k
    show (Int32.ofInt (v : Nat) = _ → _) ∧ (¬ Int32.ofInt (v : Nat) = _ → Q none (hp p s q (mm_u _ q 5 (Int32.ofInt (v : Nat) - Int32.ofInt (v : Nat) / _ * _)) J))
    rw [z_eq (by omega), z_remN (by omega) (by omega) (by omega)]
    exact ⟨fun y => by omega, fun _ => k⟩
theorem c_read {q0 : Nat} (hd : 49 ≤ d) (hq : isP q) (hT : TP l T I) (ho : v_own (J 6)) (e0 : j0 = rn tB l T l 0) (kq : ∀ I1 J1 j A G w e P D u C, FKw q I I1 J J1 → I1 3 1 = Int32.ofInt 0 → I1 3 2 = Int32.ofInt (-1) → KB q A G w e P D u C I1 J1 → LW A G w e P D u C → tkK l T j = 0 → GA l T j0 j A G w e P D u C → Q (some (.int (Int32.ofInt 1))) (hp p s q (stl q A I1) J1)) (kf : ∀ I1 J1, FKw q I I1 J J1 → (∃ fx px : Nat, I1 3 1 = Int32.ofInt (fx : Nat) ∧ I1 3 2 = Int32.ofInt (px : Nat) ∧ 1 ≤ fx ∧ fx ≤ 4 ∧ GF l T j0 fx px) → Q (some (.int (Int32.ofInt 0))) (hp p s q I1 J1)) : mm_s SL xs (d + 92) 73 [.ref 3, .ref q] (hp p s q0 I J) Q := by
  have hq' : q = 39 ∨ q = 46 := hq
  refine s_read hq (sg_X5_clear hq ⟨z_inN (t := 0) (by omega) (by omega), ⟨_, _, rfl, rfl, ?_⟩⟩)
  rw [show (Int32.ofInt 0).toNatClampNeg = 0 from z_ixN (t := 0) (by omega)]
  refine r_seen 11 0 (mm_u (mm_u (mm_u (clI q I) 3 1 (Int32.ofInt 0)) 3 2 (Int32.ofInt (-1))) 3 5 (Int32.ofInt 0)) rfl (fun k hk => absurd hk (Nat.not_lt_zero k)) (fun I2 a2 b2 v => s_read_51 (sg_X9_rewind ?_))
  have er : ∀ r, r ≠ 3 → r ≠ 14 → (r < q ∨ q + 5 < r) → I2 r = I r := fun r h1 h3 h4 => by
    rw [a2 r h3, mu_row h1, mu_row h1, mu_row h1, clI_r (by omega) (by omega)]
  have e4 : I2 4 = I 4 := er 4 (by omega) (by omega) (by omega)
  have f4 : fr4 I2 (mm_u I2 4 7 (Int32.ofInt 0)) (mm_u J q 6 (Int64.ofInt 0)) (mm_u J q 6 (Int64.ofInt 0)) := ⟨fun r h => mu_row h, mu_ne (by omega), fun _ _ => rfl⟩
  have hT2 : TP l T I2 := by
    unfold TP at hT ⊢
    rw [e4, er 5 (by omega) (by omega) (by omega)]; exact hT
  refine e_X9_advance rfl (c_advance l 0 _ _ (Nat.zero_add l) (TP_f f4 hT2) (by rw [mu_row (by omega)]; exact ho) mu_at (fun I3 J3 f3 t3 => ⟨_, _, rfl, rfl, ⟨_, _, rfl, rfl, ?_⟩⟩))
  have ff := fr4_t f4 f3
  rw [← e0] at t3
  have hc : Cc l T j0 I3 J3 := by
    refine ⟨?_, TP_f ff hT2, ?_, t3⟩
    · have := rn_ge (P := tB) (l := l) (T := T) l 0; omega
    · rw [ff.2.2 6 (by omega), mu_row (by omega)]; exact ho
  have g3 : ∀ k, I3 3 k = mm_u (mm_u (mm_u I 3 1 (Int32.ofInt 0)) 3 2 (Int32.ofInt (-1))) 3 5 (Int32.ofInt 0) 3 k := fun k => by
    rw [ff.1 3 (by omega), a2 3 (by omega), mu_if, mu_if, mu_if, mu_if, mu_if, mu_if, clI_r (by omega) (by omega)]
  have kb : KB q A0 [] 0 0 [] [] 0 [] I3 J3 := by
    have rq : I3 q = clI q I q := by rw [ff.1 q (by omega), a2 q (by omega), mu_row (by omega), mu_row (by omega), mu_row (by omega)]
    have r5 : I3 (q + 5) = clI q I (q + 5) := by rw [ff.1 (q + 5) (by omega), a2 (q + 5) (by omega), mu_row (by omega), mu_row (by omega), mu_row (by omega)]
    obtain ⟨v0, v1, v2, v3, v4, v5, v7, v8, v9, v10, v11, v17, w5⟩ := clI_q (o := q) (I := I)
    refine ⟨?_, ⟨?_, ?_⟩, ⟨?_, ?_⟩, ⟨?_, trivial⟩, ⟨?_, trivial⟩, ?_, ?_, ?_, trivial⟩
    · unfold kS
      rw [rq]
      exact ⟨v0, v1, v2, v3, v4, v5⟩
    · rw [g3, mu_at]; rfl
    · rw [ff.2.2 q (by omega), mu_at, ← bs_0]
      exact bs_cong (fun i _ => rfl)
    · rw [rq]; exact v7
    · rw [rq]; exact v8
    · rw [rq]; exact v10
    · rw [rq]; exact v11
    · rw [rq]; exact v9
    · rw [rq]; exact v17
    · show I3 (q + 5) 0 = Int32.ofInt 3
      rw [r5]; exact w5
  have f0 : FKw q I I3 J J3 := by
    refine ⟨fun r h1 h2 h3 h4 => by rw [ff.1 r h2, er r h1 h3 h4], fun k h1 h2 h3 => by rw [g3, mu_ne h3, mu_ne h2, mu_ne h1], by rw [ff.2.1, e4], fun r h1 h2 h3 => by rw [ff.2.2 r h1, mu_row h2]⟩
  have cl : CLr l T q j0 A0 [] 0 0 [] [] 0 [] I3 J3 := by
    refine ⟨hc, fun k hk => ?_, kb⟩
    rw [ff.1 14 (by omega), b2 (sn k) (sn_lt ⟨k, hk⟩)]; rfl
  have lw : LW A0 [] 0 0 [] [] 0 [] := ⟨⟨fun v z => (by simp [A0] at z), fun v z => (by simp [A0] at z), fun v z => (by simp [A0] at z), fun v z => (by simp [A0] at z), fun v z => (by simp [A0] at z), fun v z => (by simp [A0] at z)⟩, ⟨Nat.zero_le _, trivial⟩, ⟨Nat.zero_le _, Nat.zero_le _, fun _ => ⟨rfl, rfl⟩⟩, ⟨Nat.zero_le _, trivial⟩, ⟨Nat.zero_le _, trivial⟩, Nat.zero_le _, Nat.zero_le _, fun _ => ⟨rfl, rfl⟩, fun z => absurd rfl z⟩
  have fw : ∀ I1 J1, FK q I3 I1 J3 J1 → FKw q I I1 J J1 := fun I1 J1 f => ⟨fun r h1 h2 h3 h4 => by rw [f.1 r h1 h2 h3 h4, f0.1 r h1 h2 h3 h4], fun k h1 h2 h3 => by rw [f.2.1 k h3, f0.2.1 k h1 h2 h3], by rw [f.2.2.1, f0.2.2.1], fun r h1 h2 h3 => by rw [f.2.2.2 r h1 h2 h3, f0.2.2.2 r h1 h2 h3]⟩
  have fww : ∀ I1 J1, FKw q I3 I1 J3 J1 → FKw q I I1 J J1 := fun I1 J1 f => ⟨fun r h1 h2 h3 h4 => by rw [f.1 r h1 h2 h3 h4, f0.1 r h1 h2 h3 h4], fun k h1 h2 h3 => by rw [f.2.1 k h1 h2 h3, f0.2.1 k h1 h2 h3], by rw [f.2.2.1, f0.2.2.1], fun r h1 h2 h3 => by rw [f.2.2.2 r h1 h2 h3, f0.2.2.2 r h1 h2 h3]⟩
  refine r_lines (I := I3) (J := J3) hd hq hT.1 (fun v I1 J1 j A G w e P D u C n1 n2 n3 n4 n5 => s_read_92 (c_settle hq n3.1 n2.2.2.1 ⟨_, _, rfl, rfl, kq I1 J1 j A G w e P D u C (fw I1 J1 n1) ?_ ?_ n2.2.2 n3 n4 n5⟩) hq) (fun I1 J1 n1 n2 => kf I1 J1 (fww I1 J1 n1) n2) l 0 j0 A0 [] 0 0 [] [] 0 [] I3 J3 (by omega) (Nat.zero_le _) FK_r cl lw (fun SL' xs' d' p' s' q' Q' v1 Im Jm ml kk => kk Im Jm FL_r ml)
  · rw [n1.2.1 1 (by omega), g3, mu_ne (by omega), mu_ne (by omega), mu_at]
  · rw [n1.2.1 2 (by omega), g3, mu_ne (by omega), mu_at]
end
