/-! a PLAIN ring gone through by ranks -/
theorem ct_del {S : Nat → Bool} {g : Nat} (hg : S g = true) : ∀ t, fb_ct (fun i => S i && !decide (i = g)) t + (if g < t then 1 else 0) = fb_ct S t
  | 0 => rfl
  | t + 1 => by
    have ih := ct_del hg t
    rw [fb_ct_succ, fb_ct_succ]
    by_cases e : t = g
    · subst e
      rw [if_neg (Nat.lt_irrefl t)] at ih
      rw [if_pos (Nat.lt_succ_self t), hg]
      simp only [decide_true, Bool.not_true, Bool.and_false, Bool.false_eq_true, if_false, if_true]
      omega
    · have e2 : (if g < t + 1 then 1 else 0) = (if g < t then 1 else 0) := by
        by_cases q : g < t
        · rw [if_pos q, if_pos (by omega)]
        · rw [if_neg q, if_neg (by omega)]
      rw [e2, decide_eq_false e, Bool.not_false, Bool.and_true]
      omega
theorem sel_del {S : Nat → Bool} {n r y : Nat} (hr : r < fb_ct S n) (hy : y < fb_ct S n) (hne : y ≠ r) : sel (fun i => S i && !decide (i = sel S n r)) n (if y < r then y else y - 1) = sel S n y := by
  obtain ⟨r1, r2, r3⟩ := sel_ok hr
  obtain ⟨y1, y2, y3⟩ := sel_ok hy
  have hdn := ct_del r2 n
  rw [if_pos r1] at hdn
  have hdy := ct_del r2 (sel S n y)
  have hney : sel S n y ≠ sel S n r := fun z => hne (by rw [← y3, ← r3, z])
  have hcmp : sel S n r < sel S n y ↔ r < y := by
    constructor
    · intro h
      have := ct_lt r2 h
      omega
    · intro h
      rcases Nat.lt_or_ge (sel S n r) (sel S n y) with z | z
      · exact z
      · have z2 : sel S n y < sel S n r := by omega
        have := ct_lt y2 z2
        omega
  refine sel_eq ?_ (by simp only [y2, Bool.true_and, decide_eq_false hney, Bool.not_false]) ?_
  · split <;> omega
  · by_cases q : y < r
    · rw [if_pos q]
      rw [if_neg (by rw [hcmp]; omega)] at hdy
      omega
    · rw [if_neg q]
      rw [if_pos (by rw [hcmp]; omega)] at hdy
      omega
def ps (k n i : Nat) : Nat := jo k (n - i) i
def SS (k n : Nat) : Nat → Nat → Bool
  | 0 => fun t => decide (t < n)
  | i + 1 => fun t => SS k n i t && !decide (t = ps k n i)
def rkk (k n : Nat) : Nat → Nat
  | 0 => 0
  | i + 1 => (rkk k n i + k - 1) % (n - i)
def jt (k n : Nat) : Nat → Nat → Nat
  | 0, x => x
  | i + 1, x => jt k n i ((x + k) % (n - i))
theorem jt_jo {k n r : Nat} : ∀ (i j : Nat), r + j = n - i → i ≤ n → jt k n i (jo k r j) = jo k r (j + i)
  | 0, j, _, _ => rfl
  | i + 1, j, h, hi => by
    rw [jt]
    have e : (jo k r j + k) % (n - i) = jo k r (j + 1) := by rw [jo, show n - i = r + j + 1 by omega]
    rw [e, jt_jo i (j + 1) (by omega) (by omega), show j + 1 + i = j + (i + 1) by omega]
theorem mod_ad {a b n : Nat} : (a + b % n) % n = (a + b) % n := by rw [Nat.add_mod, Nat.mod_mod, ← Nat.add_mod]
theorem sim {k n : Nat} (hk : 1 ≤ k) : ∀ i, i ≤ n → fb_ct (SS k n i) n = n - i ∧ (∀ t, SS k n i t = true → t < n) ∧ (∀ x, x < n - i → sel (SS k n i) n ((rkk k n i + x) % (n - i)) = jt k n i x) ∧ (i < n → sel (SS k n i) n (rkk k n (i + 1)) = ps k n i)
  | 0, _ => by
    have h1 : fb_ct (SS k n 0) n = n := ct_lt_n n (Nat.le_refl n)
    have hs : ∀ x, x < n → sel (SS k n 0) n x = x := fun x hx => sel_eq (by omega) (decide_eq_true hx) (ct_lt_n x (by omega))
    refine ⟨by omega, fun t h => of_decide_eq_true h, fun x hx => ?_, fun hn => ?_⟩
    · rw [show rkk k n 0 + x = x by show 0 + x = x; omega, Nat.mod_eq_of_lt (by omega)]; exact hs x (by omega)
    · have : rkk k n 1 = (k - 1) % n := by show (0 + k - 1) % (n - 0) = _; rw [Nat.zero_add, Nat.sub_zero]
      rw [this, hs _ (Nat.mod_lt _ hn)]
      rfl
  | i + 1, hi => by
    obtain ⟨a1, a2, a3, a4⟩ := sim (n := n) hk i (by omega)
    have a4 := a4 (by omega)
    have hg : rkk k n (i + 1) < n - i := Nat.mod_lt _ (by omega)
    obtain ⟨s1, s2, s3⟩ := sel_ok (S := SS k n i) (n := n) (r := rkk k n (i + 1)) (by omega)
    have eS : SS k n (i + 1) = fun t => SS k n i t && !decide (t = sel (SS k n i) n (rkk k n (i + 1))) := by rw [a4]; rfl
    have b1 : fb_ct (SS k n (i + 1)) n = n - (i + 1) := by
      have := ct_del s2 n
      rw [if_pos s1] at this
      rw [eS]; omega
    have b3 : ∀ x, x < n - (i + 1) → sel (SS k n (i + 1)) n ((rkk k n (i + 1) + x) % (n - (i + 1))) = jt k n (i + 1) x := by
      intro x hx
      rw [jt, ← a3 _ (Nat.mod_lt _ (by omega)), mod_ad]
      have e1 : (rkk k n i + (x + k)) % (n - i) = (rkk k n (i + 1) + 1 + x) % (n - i) := by
        show _ = ((rkk k n i + k - 1) % (n - i) + 1 + x) % (n - i)
        rw [Nat.add_assoc, Nat.add_mod ((rkk k n i + k - 1) % (n - i)), Nat.mod_mod, ← Nat.add_mod]
        congr 1; omega
      rw [e1]
      have hd := sel_del (S := SS k n i) (n := n) (r := rkk k n (i + 1)) (y := (rkk k n (i + 1) + 1 + x) % (n - i)) (by omega) (by rw [a1]; exact Nat.mod_lt _ (by omega)) ?_
      · rw [← hd, ← eS]
        congr 1
        rcases Nat.lt_or_ge (rkk k n (i + 1) + 1 + x) (n - i) with q | q
        · rw [md_c q, if_neg (by omega), md_c (by omega)]; omega
        · rw [md_w q (by omega), if_pos (by omega), md_w (by omega) (by omega)]; omega
      · rcases Nat.lt_or_ge (rkk k n (i + 1) + 1 + x) (n - i) with q | q
        · rw [md_c q]; omega
        · rw [md_w q (by omega)]; omega
    refine ⟨b1, fun t ht => a2 t (by
      change (SS k n i t && !decide (t = ps k n i)) = true at ht
      rw [Bool.and_eq_true] at ht; exact ht.1), b3, fun hlt => ?_⟩
    have e2 : rkk k n (i + 1 + 1) = (rkk k n (i + 1) + (k - 1) % (n - (i + 1))) % (n - (i + 1)) := by
      show (rkk k n (i + 1) + k - 1) % (n - (i + 1)) = _
      rw [mod_ad]; congr 1; omega
    rw [e2, b3 _ (Nat.mod_lt _ (by omega))]
    exact jt_jo (r := n - (i + 1)) (i + 1) 0 (by omega) (by omega) |>.trans (by rw [Nat.zero_add]; rfl)
theorem ps_in {k n i : Nat} (hk : 1 ≤ k) (hi : i < n) : ps k n i < n ∧ SS k n i (ps k n i) = true ∧ fb_ct (SS k n i) (ps k n i) = rkk k n (i + 1) := by
  obtain ⟨a1, a2, a3, a4⟩ := sim (n := n) hk i (by omega)
  have hg : rkk k n (i + 1) < n - i := Nat.mod_lt _ (by omega)
  obtain ⟨s1, s2, s3⟩ := sel_ok (S := SS k n i) (n := n) (r := rkk k n (i + 1)) (by omega)
  rw [a4 hi] at s1 s2 s3
  exact ⟨s1, s2, s3⟩
theorem SS_mono {k n i t : Nat} : ∀ m, SS k n (i + m) t = true → SS k n i t = true
  | 0, h => h
  | m + 1, h => by
    change (SS k n (i + m) t && !decide (t = ps k n (i + m))) = true at h
    rw [Bool.and_eq_true] at h
    exact SS_mono m h.1
theorem SS_all {k n t : Nat} (hk : 1 ≤ k) : ∀ (f i : Nat), i + f = n → SS k n i t = true → ∃ j, i ≤ j ∧ j < n ∧ ps k n j = t
  | 0, i, hf, h => by
    obtain rfl : i = n := by omega
    obtain ⟨a1, a2, _, _⟩ := sim (k := k) (n := i) hk i (Nat.le_refl i)
    rw [Nat.sub_self] at a1
    have := fb_ct_zero.mp a1 t (a2 t h)
    rw [h] at this; exact absurd this (by decide)
  | f + 1, i, hf, h => by
    by_cases e : t = ps k n i
    · exact ⟨i, Nat.le_refl i, by omega, e.symm⟩
    · obtain ⟨j, j1, j2, j3⟩ := SS_all (n := n) hk f (i + 1) (by omega) (by show (SS k n i t && !decide (t = ps k n i)) = true; rw [h, decide_eq_false e]; rfl)
      exact ⟨j, by omega, j2, j3⟩
/-- the i-th to the (i + m)-th are all of a set -/
def aT (T : Nat → Bool) (k n i m : Nat) : Bool := decide (fb_ct (fun j => !T (ps k n (i + j))) m = 0)
theorem aT_t {T : Nat → Bool} {k n i m : Nat} : aT T k n i m = true ↔ ∀ j, j < m → T (ps k n (i + j)) = true := by
  unfold aT
  rw [decide_eq_true_eq, fb_ct_zero]
  exact ⟨fun h j hj => by have := h j hj; simpa using this, fun h j hj => by rw [h j hj]; rfl⟩
theorem aT_f {T : Nat → Bool} {k n i m j : Nat} (hj : j < m) (h : T (ps k n (i + j)) = false) : aT T k n i m = false := by
  cases hh : aT T k n i m with
  | false => rfl
  | true => rw [aT_t.mp hh j hj] at h; exact absurd h (by decide)
/-- those who go first are of the others, just if those who go last are of the set -/
theorem aT_swap {T : Nat → Bool} {k n : Nat} (hk : 1 ≤ k) (hT : ∀ t, T t = true → t < n) : aT (fun t => decide (t < n) && !T t) k n 0 (n - fb_ct T n) = aT T k n (n - fb_ct T n) (fb_ct T n) := by
  have hle := fb_ct_le T n
  obtain ⟨c1, c2, _, _⟩ := sim (k := k) (n := n) hk (n - fb_ct T n) (by omega)
  have hsz : fb_ct (SS k n (n - fb_ct T n)) n = fb_ct T n := by omega
  rw [Bool.eq_iff_iff, aT_t, aT_t]
  constructor
  · intro h j hj
    have hin := ps_in (n := n) (i := n - fb_ct T n + j) hk (by omega)
    have hS : SS k n (n - fb_ct T n) (ps k n (n - fb_ct T n + j)) = true := SS_mono j hin.2.1
    -- T lies within those who stand then, and is as many
    have hsub : ∀ t, t < n → T t = true → SS k n (n - fb_ct T n) t = true := by
      intro t ht hTt
      cases hs : SS k n (n - fb_ct T n) t with
      | true => rfl
      | false =>
        exfalso
        have h0 : SS k n 0 t = true := decide_eq_true ht
        obtain ⟨j2, _, j3, j4⟩ := SS_all (n := n) hk n 0 (by omega) h0
        rcases Nat.lt_or_ge j2 (n - fb_ct T n) with q | q
        · have := h j2 q
          rw [Nat.zero_add, j4, hTt] at this
          simp at this
        · have hi2 := ps_in (n := n) (i := j2) hk j3
          have := SS_mono (k := k) (n := n) (i := n - fb_ct T n) (t := t) (j2 - (n - fb_ct T n)) (by rw [Nat.add_sub_cancel' q, ← j4]; exact hi2.2.1)
          rw [hs] at this; exact absurd this (by decide)
    refine Classical.byContradiction fun hn => ?_
    have hF : T (ps k n (n - fb_ct T n + j)) = false := by simpa using hn
    have := fb_ct_sub (p := T) (q := fun t => SS k n (n - fb_ct T n) t && !decide (t = ps k n (n - fb_ct T n + j))) (n := n) (fun t ht hTt => by
      show (SS k n (n - fb_ct T n) t && !decide (t = ps k n (n - fb_ct T n + j))) = true
      rw [hsub t ht hTt, decide_eq_false (fun e => by rw [← e, hTt] at hF; exact absurd hF (by decide))]; rfl)
    have hd := ct_del hS n
    rw [if_pos hin.1] at hd
    omega
  · intro h j hj
    have hin := ps_in (n := n) (i := j) hk (by omega)
    show (decide (ps k n (0 + j) < n) && !T (ps k n (0 + j))) = true
    rw [Nat.zero_add, decide_eq_true hin.1, Bool.true_and]
    cases hTt : T (ps k n j) with
    | false => rfl
    | true =>
      exfalso
      -- those who stand then lie within T, and are as many: who went is not of T
      have hsub : ∀ t, t < n → SS k n (n - fb_ct T n) t = true → T t = true := by
        intro t ht hs
        obtain ⟨j2, j3, j4, j5⟩ := SS_all (n := n) hk (fb_ct T n) (n - fb_ct T n) (by omega) hs
        have := h (j2 - (n - fb_ct T n)) (by omega)
        rw [Nat.add_sub_cancel' j3, j5] at this
        exact this
      have hno : SS k n (n - fb_ct T n) (ps k n j) = false := by
        cases hs : SS k n (n - fb_ct T n) (ps k n j) with
        | false => rfl
        | true =>
          have := SS_mono (k := k) (n := n) (i := j + 1) (t := ps k n j) (n - fb_ct T n - (j + 1)) (by rw [Nat.add_sub_cancel' (by omega)]; exact hs)
          change (SS k n j (ps k n j) && !decide (ps k n j = ps k n j)) = true at this
          simp at this
      have := fb_ct_sub (p := SS k n (n - fb_ct T n)) (q := fun t => T t && !decide (t = ps k n j)) (n := n) (fun t ht hs => by
        show (T t && !decide (t = ps k n j)) = true
        rw [hsub t ht hs, decide_eq_false (fun e => by rw [e, hno] at hs; exact absurd hs (by decide))]; rfl)
      have hd := ct_del hTt n
      rw [if_pos hin.1] at hd
      omega
section
variable {SL : Nat} {xs : Nat → Int32} {d : Nat} {p s q : Nat} {Q : Option Value → mm_H → Prop} {I : Nat → Nat → Int32} {J : Nat → Nat → Int64}
theorem rk_z {k n i : Nat} (hk : 1 ≤ k) (hk2 : k ≤ 3000) (hn : n ≤ 60) (hi : i < n) : (Int32.ofInt (rkk k n i : Nat) + Int32.ofInt (k : Nat) - Int32.ofInt 1) - (Int32.ofInt (rkk k n i : Nat) + Int32.ofInt (k : Nat) - Int32.ofInt 1) / (Int32.ofInt (n : Nat) - Int32.ofInt (i : Nat)) * (Int32.ofInt (n : Nat) - Int32.ofInt (i : Nat)) = Int32.ofInt (rkk k n (i + 1) : Nat) := by
  have hr : rkk k n i ≤ 60 := by
    cases i with
    | zero => show 0 ≤ 60; omega
    | succ i => have : rkk k n (i + 1) < n - i := Nat.mod_lt _ (by omega); omega
  have e1 : Int32.ofInt (rkk k n i : Nat) + Int32.ofInt (k : Nat) - Int32.ofInt 1 = Int32.ofInt ((rkk k n i + k - 1 : Nat) : Int) := by rw [z_add, z_sub]; congr 1; omega
  have e2 : Int32.ofInt (n : Nat) - Int32.ofInt (i : Nat) = Int32.ofInt ((n - i : Nat) : Int) := by rw [z_sub]; congr 1; omega
  rw [e1, e2, z_remN (by omega) (by omega) (by omega)]
  rfl
theorem SS_s {k n i : Nat} (hi : ps k n i < 60) : bs (SS k n i) &&& (sx_X6_bit (Int32.ofInt (ps k n i : Nat)) ^^^ Int64.ofInt (-1)) = bs (SS k n (i + 1)) := by
  rw [bs_one hi, bs_not]; rfl
theorem sends_loop {T : Nat → Bool} {k n m : Nat} (hk : 1 ≤ k) (hk2 : k ≤ 3000) (hn : n ≤ 60) (hm : m ≤ n) (kq : Q (some (.int (zB (aT T k n 0 m)))) (hp p s q I J)) : ∀ (f i : Nat), i + f = m → (∀ j, j < i → T (ps k n j) = true) → w_X4_sends_12 SL xs d p s q Q (Int32.ofInt (n : Nat)) (Int32.ofInt (k : Nat)) (bs T) (Int32.ofInt (m : Nat)) (bs (SS k n i)) (Int32.ofInt (rkk k n i : Nat)) (Int32.ofInt (i : Nat)) I J
  | 0, i, hf, ha => by
    obtain rfl : i = m := by omega
    rw [aT_t.mpr (fun j hj => by rw [Nat.zero_add]; exact ha j hj)] at kq
    refine sg_X4_sends_12 ⟨fun _ => kq, fun h => ?_⟩
    rw [z_le (by omega)] at h; omega
  | f + 1, i, hf, ha => by
    have hin := ps_in (k := k) (n := n) (i := i) hk (by omega)
    have e2 : Int32.ofInt (n : Nat) - Int32.ofInt (i : Nat) = Int32.ofInt ((n - i : Nat) : Int) := by rw [z_sub]; congr 1; omega
    refine sg_X4_sends_12 ⟨fun h => ?_, fun _ => ⟨fun h => ?_, fun _ => ⟨?_, ?_⟩⟩⟩
    · rw [z_le (by omega)] at h; omega
    · rw [z_le (by omega)] at h; omega
    · rw [e2, z_eq0 (by omega)]; omega
    · rw [rk_z hk hk2 hn (by omega)]
      refine c_ranked (by omega) hin.2.1 hin.2.2 ⟨_, _, _, rfl, rfl, ?_⟩
      rw [bs_has _ (by omega), SS_s (by omega), z_p1]
      cases hT : T (ps k n i) with
      | true => exact ⟨fun h => absurd h (by decide), fun _ => sends_loop hk hk2 hn hm kq f (i + 1) (by omega) (fun j hj => by
          by_cases e : j = i
          · rw [e]; exact hT
          · exact ha j (by omega))⟩
      | false =>
        rw [aT_f (j := i) (by omega) (by rw [Nat.zero_add]; exact hT)] at kq
        exact ⟨fun _ => kq, fun h => absurd rfl h⟩
def lsd (F : Nat → Bool) : Nat → Nat → Int
  | 0, _ => -1
  | f + 1, k => if F k then (k : Int) else lsd F f (k + 1)
theorem lsd_c {F G : Nat → Bool} : ∀ (f k : Nat), (∀ j, k ≤ j → j < k + f → F j = G j) → lsd F f k = lsd G f k
  | 0, _, _ => rfl
  | f + 1, k, h => by rw [lsd, lsd, h k (by omega) (by omega), lsd_c f (k + 1) (fun j a b => h j (by omega) (by omega))]
theorem leastS_loop {T : Nat → Bool} {n m : Nat} (hn : n ≤ 60) (hm : m ≤ n) : ∀ (f k : Nat), k + f = 3001 → 1 ≤ k → Q (some (.int (Int32.ofInt (lsd (fun k => aT T k n 0 m) f k)))) (hp p s q I J) → w_X4_leastSending_8 SL xs d p s q Q (Int32.ofInt (n : Nat)) (bs T) (Int32.ofInt (m : Nat)) (Int32.ofInt (k : Nat)) I J
  | 0, k, hf, hk, kq => by
    refine sg_X4_leastSending_8 ⟨fun _ => kq, fun h => ?_⟩
    rw [z_lt (by omega)] at h; omega
  | f + 1, k, hf, hk, kq => by
    rw [lsd] at kq
    refine sg_X4_leastSending_8 ⟨fun h => ?_, fun _ => ?_⟩
    · rw [z_lt (by omega)] at h; omega
    · refine sg_X4_sends ?_
      rw [bs_all hn]
      refine sends_loop (T := T) (k := k) (n := n) (m := m) hk (by omega) hn hm ⟨_, _, _, rfl, rfl, ?_⟩ m 0 (Nat.zero_add m) (fun j hj => absurd hj (Nat.not_lt_zero j))
      rw [zB_0, z_p1]
      refine ⟨fun h => ?_, fun h => ?_⟩
      · rw [h, if_neg (by decide)] at kq; exact leastS_loop hn hm f (k + 1) (by omega) (by omega) kq
      · rw [(Bool.not_eq_false _).mp h, if_pos rfl] at kq; exact kq
theorem fr_ps {k n m : Nat} (hk : 1 ≤ k) (hm : 1 ≤ m) (hn : m ≤ n) : fr n k m = ps k n (m - 1) := by
  rw [fr_jo2 hk hm hn]; unfold ps; congr 1; omega
theorem m_farOf {k n m : Nat} (hk : 1 ≤ k) (hk2 : k ≤ 3000) (hm : 1 ≤ m) (hmn : m ≤ n) (hn : n ≤ 60) (kq : Q (some (.long (lN (ps k n (m - 1))))) (hp p s q I J)) : mm_s SL xs (d + 1) 233 [.long ((Int32.ofInt (n : Nat)).toInt64), .int (Int32.ofInt (k : Nat)), .long ((Int32.ofInt (m : Nat)).toInt64)] (hp p s q I J) Q := by
  rw [zl (by omega), zl (by omega), ← z_nI]
  exact c_X11_farOf (by omega) hk hk2 hm hmn (by rw [fr_ps hk hm hmn]; exact kq)
theorem those_loop {T : Nat → Bool} {k n i m : Nat} {v4 : Int32} (hk : 1 ≤ k) (hk2 : k ≤ 3000) (hn : n ≤ 60) (hm : i + m ≤ n) (kq : Q (some (.int (zB (aT T k n i m)))) (hp p s q I J)) : ∀ (f j : Nat), j + f = m → (∀ j2, j2 < j → T (ps k n (i + j2)) = true) → w_X11_areThose_7 SL xs d p s q Q (Int32.ofInt (n : Nat)) (Int32.ofInt (k : Nat)) (bs T) v4 (Int32.ofInt ((i + m : Nat) : Int)) (Int32.ofInt 1) (Int32.ofInt ((i + j + 1 : Nat) : Int)) I J
  | 0, j, hf, ha => by
    obtain rfl : j = m := by omega
    rw [aT_t.mpr ha] at kq
    refine sg_X11_areThose_7 ⟨fun _ => ⟨Or.inr rfl, kq⟩, fun h => ?_⟩
    rw [z_lt (by omega)] at h; omega
  | f + 1, j, hf, ha => by
    have hin := ps_in (k := k) (n := n) (i := i + j) hk (by omega)
    refine sg_X11_areThose_7 ⟨fun h => ?_, fun _ => ⟨fun h => absurd h (by decide), fun _ => ?_⟩⟩
    · rw [z_lt (by omega)] at h; omega
    · refine m_farOf hk hk2 (by omega) (by omega) hn ⟨_, _, _, rfl, rfl, ?_⟩
      rw [show i + j + 1 - 1 = i + j by omega, li, bs_sar (by omega), z_p1]
      cases hT : T (ps k n (i + j)) with
      | true => exact ⟨fun _ => those_loop hk hk2 hn hm kq f (j + 1) (by omega) (fun j2 hj2 => by
          by_cases e : j2 = j
          · rw [e]; exact hT
          · exact ha j2 (by omega)), fun h => absurd rfl h⟩
      | false =>
        rw [aT_f (j := j) (by omega) hT] at kq
        refine ⟨fun h => absurd h (by decide), fun _ => ?_⟩
        exact sg_X11_areThose_7 ⟨fun _ => ⟨Or.inl rfl, kq⟩, fun _ => ⟨fun _ => ⟨Or.inl rfl, kq⟩, fun h => absurd rfl h⟩⟩
theorem m_those {T : Nat → Bool} {k n i m : Nat} (hk : 1 ≤ k) (hk2 : k ≤ 3000) (hn : n ≤ 60) (hm : i + m ≤ n) (kq : Q (some (.int (zB (aT T k n i m)))) (hp p s q I J)) : mm_s SL xs (d + 2) 240 [.int (Int32.ofInt (n : Nat)), .int (Int32.ofInt (k : Nat)), .long (bs T), .int (Int32.ofInt ((i + 1 : Nat) : Int)), .int (Int32.ofInt ((i + m : Nat) : Int))] (hp p s q I J) Q :=
  sg_X11_areThose (those_loop hk hk2 hn hm kq m 0 (Nat.zero_add m) (fun j hj => absurd hj (Nat.not_lt_zero j)))
theorem keeps_m {T : Nat → Bool} {n c : Nat} (hn : n ≤ 60) (hc : c ≤ n) : ∀ (f k : Nat), k + f = 3001 → 1 ≤ k → Q (some (.int (Int32.ofInt (lsd (fun k => aT T k n (n - c) c) f k)))) (hp p s q I J) → w_X11_keeps_26 SL xs d p s q Q (Int32.ofInt (n : Nat)) (bs T) (Int32.ofInt (c : Nat)) (Int32.ofInt (k : Nat)) I J
  | 0, k, hf, hk, kq => by
    refine sg_X11_keeps_26 ⟨fun _ => kq, fun h => ?_⟩
    rw [z_lt (by omega)] at h; omega
  | f + 1, k, hf, hk, kq => by
    rw [lsd] at kq
    refine sg_X11_keeps_26 ⟨fun h => ?_, fun _ => ?_⟩
    · rw [z_lt (by omega)] at h; omega
    · have e1 : Int32.ofInt (n : Nat) - Int32.ofInt (c : Nat) + Int32.ofInt 1 = Int32.ofInt ((n - c + 1 : Nat) : Int) := by rw [z_sub, z_add]; congr 1; omega
      have e2 : mm_s SL xs (d + 2) 240 [.int (Int32.ofInt (n : Nat)), .int (Int32.ofInt (k : Nat)), .long (bs T), .int (Int32.ofInt ((n - c + 1 : Nat) : Int)), .int (Int32.ofInt ((n - c + c : Nat) : Int))] (hp p s q I J) (fun r_ h_ => ∃ x1 I1 J1, r_ = some (.int x1) ∧ h_ = hp p s q I1 J1 ∧ ((x1 = Int32.ofInt 0 → w_X11_keeps_26 SL xs d p s q Q (Int32.ofInt (n : Nat)) (bs T) (Int32.ofInt (c : Nat)) (Int32.ofInt (k : Nat) + Int32.ofInt 1) I1 J1) ∧ (¬ (x1 = Int32.ofInt 0) → Q (some (.int (Int32.ofInt (k : Nat)))) (hp p s q I1 J1)))) := by
        refine m_those hk (by omega) hn (by omega) ⟨_, _, _, rfl, rfl, ?_⟩
        rw [zB_0, z_p1]
        refine ⟨fun h => ?_, fun h => ?_⟩
        · rw [h, if_neg (by decide)] at kq; exact keeps_m hn hc f (k + 1) (by omega) (by omega) kq
        · rw [(Bool.not_eq_false _).mp h, if_pos rfl] at kq; exact kq
      rw [e1]
      rw [Nat.sub_add_cancel hc] at e2
      exact e2
theorem first_m {T : Nat → Bool} {n c : Nat} (hn : n ≤ 60) (hc : c ≤ n) : ∀ (f k : Nat), k + f = 3001 → 1 ≤ k → Q (some (.int (Int32.ofInt (lsd (fun k => aT T k n 0 c) f k)))) (hp p s q I J) → w_X11_first_26 SL xs d p s q Q (Int32.ofInt (n : Nat)) (bs T) (Int32.ofInt (c : Nat)) (Int32.ofInt (k : Nat)) I J
  | 0, k, hf, hk, kq => by
    refine sg_X11_first_26 ⟨fun _ => kq, fun h => ?_⟩
    rw [z_lt (by omega)] at h; omega
  | f + 1, k, hf, hk, kq => by
    rw [lsd] at kq
    refine sg_X11_first_26 ⟨fun h => ?_, fun _ => ?_⟩
    · rw [z_lt (by omega)] at h; omega
    · have e2 : mm_s SL xs (d + 2) 240 [.int (Int32.ofInt (n : Nat)), .int (Int32.ofInt (k : Nat)), .long (bs T), .int (Int32.ofInt ((0 + 1 : Nat) : Int)), .int (Int32.ofInt ((0 + c : Nat) : Int))] (hp p s q I J) (fun r_ h_ => ∃ x1 I1 J1, r_ = some (.int x1) ∧ h_ = hp p s q I1 J1 ∧ ((x1 = Int32.ofInt 0 → w_X11_first_26 SL xs d p s q Q (Int32.ofInt (n : Nat)) (bs T) (Int32.ofInt (c : Nat)) (Int32.ofInt (k : Nat) + Int32.ofInt 1) I1 J1) ∧ (¬ (x1 = Int32.ofInt 0) → Q (some (.int (Int32.ofInt (k : Nat)))) (hp p s q I1 J1)))) := by
        refine m_those hk (by omega) hn (by omega) ⟨_, _, _, rfl, rfl, ?_⟩
        rw [zB_0, z_p1]
        refine ⟨fun h => ?_, fun h => ?_⟩
        · rw [h, if_neg (by decide)] at kq; exact first_m hn hc f (k + 1) (by omega) (by omega) kq
        · rw [(Bool.not_eq_false _).mp h, if_pos rfl] at kq; exact kq
      rw [Nat.zero_add c] at e2
      exact e2
end
theorem ca_first {SL : Nat} {xs : Nat → Int32} {d : Nat} {h : mm_H} {Q : Option Value → mm_H → Prop} {a0 : Int32} {a1 : Int64} (hd : 150 ≤ d) (hiv : iv h) (k : ∀ (r : Int32) (h1 : mm_H), h1.2.1 65 = .inr 9 → (∀ Q2 : Option Value → mm_H → Prop, (∀ h2, iv h2 → Q2 (some (.int r)) h2) → mm_s SL xs d 242 [.ref 65, .int a0, .long a1] h1 Q2) → Q (some (.int r)) h1) : mm_s SL xs d 138 [.ref 2, .int a0, .long a1] h Q := by
  obtain ⟨e, rfl⟩ : ∃ e, d = e + 20 := ⟨d - 20, by omega⟩
  obtain ⟨_, _, p, s, q, I, J, rfl, P, bg, x, hR, hM⟩ := hiv
  have hS : QS p s q P bg x I J := ⟨hR, hM⟩
  refine sg_X10_first ⟨fun h => k _ _ rfl (fun Q2 k2 => sg_X11_first ⟨fun _ => k2 _ (QS_iv hS), fun h2 => absurd h h2⟩), fun h => ?_⟩
  have h' := h
  rw [pl_z, Classical.not_not] at h'
  obtain ⟨n, n1, n2, rfl⟩ := h'
  rw [isS_c n2]
  refine ⟨fun h2 => k _ _ rfl (fun Q2 k2 => sg_X11_first ⟨fun z => absurd z h, fun _ => ⟨fun _ => k2 _ (QS_iv hS), fun z => absurd (by rw [isS_m n2]; exact h2) z⟩⟩), fun h2 => ?_⟩
  have hset := Classical.not_not.mp h2
  have hset' := hset
  obtain ⟨T, rfl, hT, hT2⟩ := hset'
  have hcT : fb_ct T 60 = fb_ct T n := ct_sup2 hT n2
  refine sg_X4_leastSending ?_
  rw [bs_count, hcT]
  refine leastS_loop n2 (fb_ct_le T n) 3000 1 rfl (by omega) ⟨_, _, _, rfl, rfl, k _ _ rfl (fun Q2 k2 => sg_X11_first ⟨fun z => absurd z h, fun _ => ⟨fun z => absurd hset (by rw [isS_m n2] at z; exact z), fun _ => ?_⟩⟩)⟩
  refine m_ones ⟨_, _, _, rfl, rfl, ?_⟩
  rw [hcT]
  exact first_m n2 (fb_ct_le T n) 3000 1 rfl (by omega) (k2 _ (QS_iv hS))
theorem ca_keeps {SL : Nat} {xs : Nat → Int32} {d : Nat} {h : mm_H} {Q : Option Value → mm_H → Prop} {a0 : Int32} {a1 : Int64} (hd : 150 ≤ d) (hiv : iv h) (k : ∀ (r : Int32) (h1 : mm_H), h1.2.1 65 = .inr 9 → (∀ Q2 : Option Value → mm_H → Prop, (∀ h2, iv h2 → Q2 (some (.int r)) h2) → mm_s SL xs d 241 [.ref 65, .int a0, .long a1] h1 Q2) → Q (some (.int r)) h1) : mm_s SL xs d 137 [.ref 2, .int a0, .long a1] h Q := by
  obtain ⟨e, rfl⟩ : ∃ e, d = e + 20 := ⟨d - 20, by omega⟩
  obtain ⟨_, _, p, s, q, I, J, rfl, P, bg, x, hR, hM⟩ := hiv
  have hS : QS p s q P bg x I J := ⟨hR, hM⟩
  refine sg_X10_keeps ⟨fun h => k _ _ rfl (fun Q2 k2 => sg_X11_keeps ⟨fun _ => k2 _ (QS_iv hS), fun h2 => absurd h h2⟩), fun h => ?_⟩
  have h' := h
  rw [pl_z, Classical.not_not] at h'
  obtain ⟨n, n1, n2, rfl⟩ := h'
  rw [isS_c n2]
  refine ⟨fun h2 => k _ _ rfl (fun Q2 k2 => sg_X11_keeps ⟨fun z => absurd z h, fun _ => ⟨fun _ => k2 _ (QS_iv hS), fun z => absurd (by rw [isS_m n2]; exact h2) z⟩⟩), fun h2 => ?_⟩
  have hset := Classical.not_not.mp h2
  have hset' := hset
  obtain ⟨T, rfl, hT, hT2⟩ := hset'
  have hcT : fb_ct T 60 = fb_ct T n := ct_sup2 hT n2
  have hle := fb_ct_le T n
  rw [bs_all n2, bs_not]
  have hcU : fb_ct (fun t => decide (t < n) && !T t) 60 = n - fb_ct T n := by
    rw [ct_sup2 (fun i hi => by rw [Bool.and_eq_true] at hi; exact of_decide_eq_true hi.1) n2]
    have := fb_ct_not T n
    have e2 : fb_ct (fun t => decide (t < n) && !T t) n = fb_ct (fun t => !T t) n := fb_ct_cong (fun i hi => by rw [decide_eq_true hi, Bool.true_and])
    omega
  refine sg_X4_leastSending ?_
  rw [bs_count, hcU]
  refine leastS_loop n2 (by omega) 3000 1 rfl (by omega) ⟨_, _, _, rfl, rfl, k _ _ rfl (fun Q2 k2 => sg_X11_keeps ⟨fun z => absurd z h, fun _ => ⟨fun z => absurd hset (by rw [isS_m n2] at z; exact z), fun _ => ?_⟩⟩)⟩
  refine m_ones ⟨_, _, _, rfl, rfl, ?_⟩
  rw [hcT]
  refine keeps_m n2 hle 3000 1 rfl (by omega) ?_
  rw [← lsd_c (F := fun k => aT (fun t => decide (t < n) && !T t) k n 0 (n - fb_ct T n)) 3000 1 (fun j j1 j2 => aT_swap j1 hT)]
  exact k2 _ (QS_iv hS)
