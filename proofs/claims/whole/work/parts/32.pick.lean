/-! who is counted: by ranks, and by walking -/
def sel (S : Nat → Bool) : Nat → Nat → Nat
  | 0, _ => 0
  | n + 1, r => if S n = true ∧ fb_ct S n = r then n else sel S n r
theorem sel_ok {S : Nat → Bool} {r : Nat} : ∀ {n : Nat}, r < fb_ct S n → sel S n r < n ∧ S (sel S n r) = true ∧ fb_ct S (sel S n r) = r
  | 0, h => absurd h (Nat.not_lt_zero r)
  | n + 1, h => by
    rw [sel]
    by_cases q : S n = true ∧ fb_ct S n = r
    · rw [if_pos q]; exact ⟨Nat.lt_succ_self n, q.1, q.2⟩
    · rw [if_neg q]
      have h2 : r < fb_ct S n := by
        rw [fb_ct_succ] at h
        cases hs : S n with
        | false => rw [hs] at h; simpa using h
        | true =>
          rw [hs, if_pos rfl] at h
          have : ¬ fb_ct S n = r := fun e => q ⟨hs, e⟩
          omega
      obtain ⟨a, b, c⟩ := sel_ok h2
      exact ⟨Nat.lt_succ_of_lt a, b, c⟩
theorem sel_eq {S : Nat → Bool} {n r t : Nat} (hr : r < fb_ct S n) (ht : S t = true) (e : fb_ct S t = r) : sel S n r = t := by
  obtain ⟨_, b, c⟩ := sel_ok hr
  exact fb_ct_kth_one b ht (by rw [c, e])
/-- the rank of the one who is hit, if rest are to be counted from p on -/
def rk (S : Nat → Bool) (n : Nat) (up : Bool) (p rest : Nat) : Nat := if up then (fb_ct S p + rest - 1) % fb_ct S n else (fb_ct S (p + 1) + fb_ct S n - rest) % fb_ct S n
def pk (S : Nat → Bool) (n : Nat) (up : Bool) (frm cnt : Nat) : Nat := sel S n (rk S n up frm ((cnt - 1) % fb_ct S n + 1))
theorem rk_lt {S : Nat → Bool} {n : Nat} {up : Bool} {p rest : Nat} (h : 0 < fb_ct S n) : rk S n up p rest < fb_ct S n := by
  unfold rk
  split <;> exact Nat.mod_lt _ h
theorem pk_ok {S : Nat → Bool} {n : Nat} (up : Bool) (frm cnt : Nat) (h : 0 < fb_ct S n) : pk S n up frm cnt < n ∧ S (pk S n up frm cnt) = true := by
  obtain ⟨a, b, _⟩ := sel_ok (rk_lt (S := S) (n := n) (up := up) (p := frm) (rest := (cnt - 1) % fb_ct S n + 1) h)
  exact ⟨a, b⟩
def nx (n : Nat) (up : Bool) (p : Nat) : Nat := if up then (if p + 1 < n then p + 1 else 0) else (if 0 < p then p - 1 else n - 1)
theorem nx_lt {n p : Nat} (up : Bool) (h : p < n) : nx n up p < n := by
  unfold nx
  repeat (first | omega | split)
theorem nx_mod {n p : Nat} (up : Bool) (h : p < n) : (p + (if up then 1 else n - 1)) % n = nx n up p := by
  unfold nx
  cases up with
  | true =>
    simp only [if_true]
    split
    · exact Nat.mod_eq_of_lt (by assumption)
    · rw [show p + 1 = n by omega, Nat.mod_self]
  | false =>
    simp only [Bool.false_eq_true, if_false]
    split
    · rw [show p + (n - 1) = (p - 1) + n by omega, Nat.add_mod_right, Nat.mod_eq_of_lt (by omega)]
    · rw [show p + (n - 1) = n - 1 by omega, Nat.mod_eq_of_lt (by omega)]
def dst (n : Nat) (up : Bool) (p t : Nat) : Nat := if up then (if p ≤ t then t - p else t + n - p) else (if t ≤ p then p - t else p + n - t)
theorem ct_S1 {S : Nat → Bool} {p : Nat} (h : S p = true) : fb_ct S (p + 1) = fb_ct S p + 1 := by rw [fb_ct_succ, if_pos h]
theorem ct_S0 {S : Nat → Bool} {p : Nat} (h : ¬ S p = true) : fb_ct S (p + 1) = fb_ct S p := by rw [fb_ct_succ, if_neg h]; rfl
theorem ct_lt {S : Nat → Bool} {p n : Nat} (h : S p = true) (hp : p < n) : fb_ct S p < fb_ct S n := by
  have := fb_ct_mono S (show p + 1 ≤ n by omega)
  rw [ct_S1 h] at this
  omega
theorem md_c {a s : Nat} (h : a < s) : a % s = a := Nat.mod_eq_of_lt h
theorem md_w {a s : Nat} (h1 : s ≤ a) (h2 : a < s + s) : a % s = a - s := by rw [Nat.mod_eq_sub_mod h1, Nat.mod_eq_of_lt (by omega)]
/-- at the one who is hit: it is the last to be counted -/
theorem wk_stop {S : Nat → Bool} {n t rest : Nat} {up : Bool} (hS : S t = true) (ht : t < n) (h1 : 1 ≤ rest) (h2 : rest ≤ fb_ct S n) (e : fb_ct S t = rk S n up t rest) : rest = 1 := by
  have hl := ct_lt hS ht
  unfold rk at e
  cases up with
  | true =>
    simp only [if_true] at e
    rcases Nat.lt_or_ge (fb_ct S t + rest - 1) (fb_ct S n) with q | q
    · rw [md_c q] at e; omega
    · rw [md_w q (by omega)] at e; omega
  | false =>
    simp only [Bool.false_eq_true, if_false] at e
    rw [ct_S1 hS] at e
    rcases Nat.lt_or_ge (fb_ct S t + 1 + fb_ct S n - rest) (fb_ct S n) with q | q
    · rw [md_c q] at e; omega
    · rw [md_w q (by omega)] at e; omega
/-- before that: on to the next post -/
theorem wk_on {S : Nat → Bool} {n t p rest : Nat} {up : Bool} (hS : S t = true) (ht : t < n) (hp : p < n) (h1 : 1 ≤ rest) (h2 : rest ≤ fb_ct S n) (e : fb_ct S t = rk S n up p rest) (ne : p ≠ t) : (S p = true → 2 ≤ rest) ∧ fb_ct S t = rk S n up (nx n up p) (if S p then rest - 1 else rest) ∧ dst n up (nx n up p) t + 1 = dst n up p t := by
  have hl := ct_lt hS ht
  have hm : fb_ct S p ≤ fb_ct S n := fb_ct_mono S (by omega)
  have hm1 : fb_ct S (p + 1) ≤ fb_ct S n := fb_ct_mono S (by omega)
  have one : S p = true → 2 ≤ rest := by
    intro q
    rcases Nat.lt_or_ge rest 2 with z | z
    · exfalso
      obtain rfl : rest = 1 := by omega
      have hlp := ct_lt q hp
      apply ne
      apply fb_ct_kth_one q hS
      rw [e]
      unfold rk
      cases up with
      | true => simp only [if_true]; rw [md_c (by omega)]; omega
      | false =>
        simp only [Bool.false_eq_true, if_false]
        rw [ct_S1 q, md_w (by omega) (by omega)]
        omega
    · exact z
  refine ⟨one, ?_, ?_⟩
  · rw [e]
    unfold rk nx
    cases up with
    | true =>
      simp only [if_true]
      by_cases q : p + 1 < n
      · rw [if_pos q]
        cases hs : S p with
        | true => simp only [if_true]; rw [ct_S1 hs]; have := one hs; congr 1; omega
        | false => simp only [Bool.false_eq_true, if_false]; rw [ct_S0 (by rw [hs]; decide)]
      · rw [if_neg q]
        have en : p + 1 = n := by omega
        cases hs : S p with
        | true =>
          simp only [if_true]
          have h3 := one hs
          have e1 := ct_S1 hs
          rw [en] at e1
          show _ = (0 + (rest - 1) - 1) % _
          rw [md_w (by omega) (by omega), md_c (by omega)]
          omega
        | false =>
          simp only [Bool.false_eq_true, if_false]
          have e1 := ct_S0 (S := S) (p := p) (by rw [hs]; decide)
          rw [en] at e1
          show _ = (0 + rest - 1) % _
          rw [md_w (by omega) (by omega), md_c (by omega)]
          omega
    | false =>
      simp only [Bool.false_eq_true, if_false]
      by_cases q : 0 < p
      · rw [if_pos q, show p - 1 + 1 = p by omega]
        cases hs : S p with
        | true => simp only [if_true]; rw [ct_S1 hs]; have := one hs; congr 1; omega
        | false => simp only [Bool.false_eq_true, if_false]; rw [ct_S0 (by rw [hs]; decide)]
      · rw [if_neg q, show n - 1 + 1 = n by omega]
        obtain rfl : p = 0 := by omega
        cases hs : S 0 with
        | true =>
          simp only [if_true]
          have h3 := one hs
          rw [ct_S1 hs]
          show (0 + 1 + _ - rest) % _ = _
          rw [md_c (by omega), md_w (by omega) (by omega)]
          omega
        | false =>
          simp only [Bool.false_eq_true, if_false]
          rw [ct_S0 (by rw [hs]; decide)]
          show (0 + _ - rest) % _ = _
          rcases Nat.lt_or_ge (0 + fb_ct S n - rest) (fb_ct S n) with z | z
          · rw [md_c z, md_w (by omega) (by omega)]; omega
          · omega
  · unfold dst nx
    cases up with
    | true => simp only [if_true]; repeat (first | omega | split)
    | false => simp only [Bool.false_eq_true, if_false]; repeat (first | omega | split)
theorem dst_0 {n p t : Nat} {up : Bool} (hp : p < n) (ht : t < n) : dst n up p t = 0 ↔ p = t := by
  unfold dst
  cases up with
  | true => simp only [if_true]; split <;> omega
  | false => simp only [Bool.false_eq_true, if_false]; split <;> omega
/-- the first look: what is to be counted, made less than a round -/
theorem pk_rk {S : Nat → Bool} {n : Nat} (up : Bool) (frm cnt : Nat) (h : 0 < fb_ct S n) : fb_ct S (pk S n up frm cnt) = rk S n up frm ((cnt - 1) % fb_ct S n + 1) := (sel_ok (rk_lt h)).2.2
