/-! the lines: numbers and words, both readers -/
def nbad (K v lo hi n : Nat) : Prop := (n = 2 ∧ K ≠ 2) ∨ (n = 4 ∧ K = 2 ∧ ¬ (lo ≤ v ∧ v ≤ hi))
theorem flt_b {K v lo hi n : Nat} (h : nbad K v lo hi n) : 1 ≤ flt K n ∧ flt K n ≤ 4 := by unfold nbad at h; unfold flt; split <;> omega
theorem flt_ne {K n : Nat} (h : 1 ≤ flt K n ∧ flt K n ≤ 4) : ¬ Int32.ofInt (flt K n : Nat) = Int32.ofInt 0 ∧ ¬ Int32.ofInt (flt K n : Nat) ≤ Int32.ofInt 0 := by
  rw [z_eq (by omega), z_le (by omega)]; omega
def fI (I : Nat → Nat → Int32) (K n j : Nat) : Nat → Nat → Int32 := mm_u (mm_u I 3 1 (Int32.ofInt (flt K n : Nat))) 3 2 (Int32.ofInt (j : Nat))
def gI (I : Nat → Nat → Int32) (K n j : Nat) : Nat → Nat → Int32 := mm_u (mm_u I 65 2 (Int32.ofInt (flt K n : Nat))) 65 3 (Int32.ofInt (j : Nat))
section
variable {SL : Nat} {xs : Nat → Int32} {d : Nat} {p s q : Nat} {Q : Option Value → mm_H → Prop} {I : Nat → Nat → Int32} {J : Nat → Nat → Int64} {l j : Nat} {T : Nat → Nat}
theorem c_num {lo hi : Nat} (hl : lo ≤ 9999) (hh : hi ≤ 9999) (h : Cc l T j I J) (k1 : tkK l T j = 2 → lo ≤ tv l T j → tv l T j ≤ hi → Q (some (.int (Int32.ofInt 1))) (hp p s q I J)) (k0 : ∀ n, nbad (tkK l T j) (tv l T j) lo hi n → Q (some (.int (Int32.ofInt 0))) (hp p s q (fI I (tkK l T j) n j) J)) : mm_s SL xs (d + 2) 78 [.ref 3, .int (Int32.ofInt (lo : Nat)), .int (Int32.ofInt (hi : Nat))] (hp p s q I J) Q := by
  have e2 : (I 4 2 = Int32.ofInt 2) = (tkK l T j = 2) := Cc_k (c := 2) h (by omega)
  refine sg_X7_isNumber ?_
  rw [e2]
  refine ⟨fun z => ?_, fun z => ?_⟩
  · have v := Cc_v h z
    rw [v.1, z_lt (by omega), z_le (by omega)]
    refine ⟨fun a => ?_, fun a => ⟨fun b => k1 z (by omega) (by omega), fun b => ?_⟩⟩
    · exact c_fail (n := 4) h ⟨_, _, _, rfl, rfl, fun _ => k0 4 (Or.inr ⟨rfl, z, by omega⟩), fun y => absurd rfl y⟩
    · exact c_fail (n := 4) h ⟨_, _, _, rfl, rfl, fun _ => k0 4 (Or.inr ⟨rfl, z, by omega⟩), fun y => absurd rfl y⟩
  · exact c_fail (n := 2) h ⟨_, _, _, rfl, rfl, Or.inl rfl, k0 2 (Or.inl ⟨rfl, z⟩)⟩
theorem c_take {c : Nat} (hc : c < 1000) (h : Cc l T j I J) (k1 : tkK l T j = c → ∀ I2 J2, fr4 I I2 J J2 → Cc l T (nX l T j) I2 J2 → Q (some (.int (Int32.ofInt 1))) (hp p s q I2 J2)) (k0 : tkK l T j ≠ c → Q (some (.int (Int32.ofInt 0))) (hp p s q (fI I (tkK l T j) 2 j) J)) : mm_s SL xs (d + 4) 75 [.ref 3, .int (Int32.ofInt (c : Nat))] (hp p s q I J) Q := by
  refine sg_X7_take ?_
  rw [Cc_k h hc]
  exact ⟨fun z => c_adv h (fun I2 J2 f g => ⟨_, _, rfl, rfl, k1 z I2 J2 f g⟩), fun z => c_fail (n := 2) h ⟨_, _, _, rfl, rfl, Or.inl rfl, k0 z⟩⟩
theorem m_num {lo hi : Nat} (hl : lo ≤ 9999) (hh : hi ≤ 9999) (h : Mm l T j I J) (h2 : I 65 2 = Int32.ofInt 0) (k1 : tkK l T j = 2 → lo ≤ tv l T j → tv l T j ≤ hi → ∀ I2 J2, fm I I2 J J2 → Mm l T (nX l T j) I2 J2 → Q (some (.int (Int32.ofInt (tv l T j : Nat)))) (hp p s q I2 J2)) (k0 : ∀ n x, nbad (tkK l T j) (tv l T j) lo hi n → Q (some (.int x)) (hp p s q (gI I (tkK l T j) n j) J)) : mm_s SL xs (d + 3) 177 [.ref 65, .int (Int32.ofInt (lo : Nat)), .int (Int32.ofInt (hi : Nat))] (hp p s q I J) Q := by
  have e2 : (I 65 6 = Int32.ofInt 2) = (tkK l T j = 2) := Mm_k (c := 2) h (by omega)
  have bad : ∀ n, nbad (tkK l T j) (tv l T j) lo hi n → mm_s SL xs (d + 2) 173 [.ref 65, .int (Int32.ofInt (n : Nat))] (hp p s q I J) (fun r_ h_ => ∃ I1 J1, r_ = none ∧ h_ = hp p s q I1 J1 ∧ (((I1 65 2) = Int32.ofInt 0 → (mm_s SL xs (d + 2) 172 [.ref 65] (hp p s q I1 J1) (fun r_ h_ => ∃ I2 J2, r_ = none ∧ h_ = hp p s q I2 J2 ∧ Q (some (.int (I1 65 8))) (hp p s q I2 J2)))) ∧ (¬ ((I1 65 2) = Int32.ofInt 0) → Q (some (.int (I1 65 8))) (hp p s q I1 J1)))) := fun n hn => by
    refine m_wrong h h2 ⟨_, _, rfl, rfl, fun y => ?_, fun _ => k0 n _ hn⟩
    rw [mu_ne (by omega), mu_at] at y
    exact absurd y (flt_ne (flt_b hn)).1
  refine sg_X11_toldNumber ⟨fun _ => ?_, fun z => absurd (by rw [h2]; decide) z⟩
  rw [e2]
  refine ⟨fun z => ?_, fun z => bad 2 (Or.inl ⟨rfl, z⟩)⟩
  have v := Mm_v h z
  rw [v.1, z_lt (by omega), z_le (by omega)]
  refine ⟨fun a => bad 4 (Or.inr ⟨rfl, z, by omega⟩), fun a => ⟨fun b => ⟨fun _ => ?_, fun y => absurd h2 y⟩, fun b => bad 4 (Or.inr ⟨rfl, z, by omega⟩)⟩⟩
  exact m_adv h (by omega) (fun I2 J2 f g => ⟨_, _, rfl, rfl, k1 z (by omega) (by omega) I2 J2 f g⟩)
theorem m_num0 {a b : Int32} (h2 : ¬ I 65 2 ≤ Int32.ofInt 0) (k : Q (some (.int (Int32.ofInt 0))) (hp p s q I J)) : mm_s SL xs (d + 3) 177 [.ref 65, .int a, .int b] (hp p s q I J) Q :=
  sg_X11_toldNumber ⟨fun z => absurd z h2, fun _ => k⟩
theorem m_told0 {a b : Int32} {w : Int64} (h2 : ¬ I 65 2 ≤ Int32.ofInt 0) (k : Q (some (.int (Int32.ofInt 0))) (hp p s q I J)) : mm_s SL xs (d + 4) 178 [.ref 65, .long w, .int a, .int b] (hp p s q I J) Q :=
  sg_X11_told (sg_X11_want ⟨fun z => absurd z h2, fun _ => ⟨_, _, rfl, rfl, m_num0 h2 ⟨_, _, _, rfl, rfl, k⟩⟩⟩)
/-- a word, then a number -/
theorem m_told {c lo hi : Nat} (hl : lo ≤ 9999) (hh : hi ≤ 9999) (hc : c < 22) (h : Mm l T j I J) (h2 : I 65 2 = Int32.ofInt 0) (k1 : tkK l T j = 128 + c → tkK l T (nX l T j) = 2 → lo ≤ tv l T (nX l T j) → tv l T (nX l T j) ≤ hi → ∀ I2 J2, fm I I2 J J2 → Mm l T (nX l T (nX l T j)) I2 J2 → Q (some (.int (Int32.ofInt (tv l T (nX l T j) : Nat)))) (hp p s q I2 J2)) (k0 : tkK l T j = 128 + c → ∀ n x I2 J2, fm I I2 J J2 → nbad (tkK l T (nX l T j)) (tv l T (nX l T j)) lo hi n → Q (some (.int x)) (hp p s q (gI I2 (tkK l T (nX l T j)) n (nX l T j)) J2)) (kw : tkK l T j ≠ 128 + c → ∀ x, Q (some (.int x)) (hp p s q (gI I (tkK l T j) 2 j) J)) : mm_s SL xs (d + 4) 178 [.ref 65, .long (Int64.ofInt (ownM.getD c 0)), .int (Int32.ofInt (lo : Nat)), .int (Int32.ofInt (hi : Nat))] (hp p s q I J) Q := by
  refine sg_X11_told (sg_X11_want ⟨fun _ => ?_, fun z => absurd (by rw [h2]; decide) z⟩)
  rw [Mm_isW h c hc, zB_0]
  refine ⟨fun z => ?_, fun z => ?_⟩
  · have z := of_decide_eq_false z
    refine m_wrong (n := 2) h h2 ⟨_, _, rfl, rfl, ⟨_, _, rfl, rfl, m_num0 ?_ ⟨_, _, _, rfl, rfl, kw z _⟩⟩⟩
    rw [mu_ne (by omega), mu_at]
    exact flt_0.2
  · have z : tkK l T j = 128 + c := of_decide_eq_true (by simpa using z)
    refine m_adv h (by omega) (fun I2 J2 f g => ⟨_, _, rfl, rfl, ⟨_, _, rfl, rfl, ?_⟩⟩)
    refine m_num hl hh g (by rw [f.2.1 2 (by omega)]; exact h2) (fun a b c I3 J3 f3 g3 => ⟨_, _, _, rfl, rfl, k1 z a b c I3 J3 (fm_t f f3) g3⟩) (fun n x hn => ⟨_, _, _, rfl, rfl, k0 z n x I2 J2 f hn⟩)
end
