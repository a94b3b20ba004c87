/-! the least number for an order -/
def nS (n : Nat) (V : Nat → Nat) : Nat → Nat → Bool
  | 0 => fun x => decide (x < n)
  | i + 1 => fun x => nS n V i x && !decide (x = V i)
def nF (n : Nat) (V : Nat → Nat) : Nat → Nat
  | 0 => 0
  | i + 1 => nx n true (V i)
def nC (n : Nat) (V : Nat → Nat) (i : Nat) : Nat := (fb_ct (nS n V i) (V i) + fb_ct (nS n V i) n - fb_ct (nS n V i) (nF n V i)) % fb_ct (nS n V i) n + 1
def ft (P : Nat → Bool) : Nat → Nat → Nat
  | 0, t => t
  | f + 1, t => if P t = true then t else ft P f (t + 1)
theorem ft_le (P : Nat → Bool) : ∀ f t, ft P f t ≤ t + f
  | 0, t => Nat.le_refl t
  | f + 1, t => by
    rw [ft]
    split
    · omega
    · have := ft_le P f (t + 1); omega
theorem ft_t {P : Nat → Bool} {f t : Nat} (h : P t = true) : ft P (f + 1) t = t := by rw [ft, if_pos h]
theorem ft_f {P : Nat → Bool} {f t : Nat} (h : ¬ P t = true) : ft P (f + 1) t = ft P f (t + 1) := by rw [ft, if_neg h]
theorem ft_ok {P : Nat → Bool} : ∀ f t, ft P f t ≠ t + f → P (ft P f t) = true ∧ ∀ u, t ≤ u → u < ft P f t → ¬ P u = true
  | 0, t, h => absurd rfl h
  | f + 1, t, h => by
    by_cases e : P t = true
    · rw [ft_t e]; exact ⟨e, fun u a b => absurd a (by omega)⟩
    · rw [ft_f e] at h ⊢
      obtain ⟨a, b⟩ := ft_ok (P := P) f (t + 1) (fun z => h (by rw [z]; omega))
      refine ⟨a, fun u h1 h2 => ?_⟩
      by_cases z : u = t
      · rw [z]; exact e
      · exact b u (by omega) h2
def wP (num stp m r t : Nat) : Bool := decide ((num + t * stp) % m = r)
def nR (n : Nat) (V : Nat → Nat) : Nat → Nat → Nat → Nat → Int64
  | 0, _, num, stp => if num = 0 then lN stp else lN num
  | f + 1, i, num, stp => if n ≤ i then Int64.ofInt (-1) else if nS n V i (V i) = false then Int64.ofInt (-1) else if ft (wP num stp (n - i) (nC n V i % (n - i))) (n - i) 0 = n - i then Int64.ofInt (-1) else nR n V f (i + 1) (num + ft (wP num stp (n - i) (nC n V i % (n - i))) (n - i) 0 * stp) (stp / Nat.gcd stp (n - i) * (n - i))
theorem nS_lt {n : Nat} {V : Nat → Nat} : ∀ i x, nS n V i x = true → x < n
  | 0, x, h => by simpa [nS] using h
  | i + 1, x, h => by
    have e : nS n V (i + 1) x = (nS n V i x && !decide (x = V i)) := rfl
    rw [e, Bool.and_eq_true] at h
    exact nS_lt i x h.1
theorem lst {num stp m t r : Nat} (hm : 1 ≤ m) (h : num < stp) (hP : (num + t * stp) % m = r) (hn : ∀ u, u < t → ¬ (num + u * stp) % m = r) : num + t * stp < stp / Nat.gcd stp m * m := by
  have hg : 0 < Nat.gcd stp m := Nat.gcd_pos_of_pos_right stp hm
  obtain ⟨s', hs⟩ := Nat.gcd_dvd_left stp m
  obtain ⟨m', hm'⟩ := Nat.gcd_dvd_right stp m
  generalize Nat.gcd stp m = g at hg hs hm'
  have e1 : stp / g = s' := Nat.div_eq_of_eq_mul_right hg hs
  have e2 : s' * m = m' * stp := by rw [hs, hm', ← Nat.mul_assoc, ← Nat.mul_assoc, Nat.mul_comm s' g, Nat.mul_comm m' g, Nat.mul_assoc, Nat.mul_assoc, Nat.mul_comm s' m']
  have ht : t < m' := by
    rcases Nat.lt_or_ge t m' with q | q
    · exact q
    · exfalso
      have hm0 : 0 < m' := by
        rcases Nat.eq_zero_or_pos m' with z | z
        · rw [z] at hm'; omega
        · exact z
      refine hn (t - m') (by omega) ?_
      rw [← hP]
      have e3 : num + t * stp = num + (t - m') * stp + m * s' := by
        have : t * stp = (t - m') * stp + m' * stp := by rw [← Nat.add_mul]; congr 1; omega
        rw [this, ← e2, Nat.mul_comm m s']; omega
      rw [e3, Nat.add_mul_mod_self_left]
  rw [e1, e2]
  have h3 : (t + 1) * stp ≤ m' * stp := Nat.mul_le_mul_right stp ht
  rw [Nat.succ_mul] at h3
  omega
theorem lsw {num stp m r : Nat} (hm : 1 ≤ m) (h : num < stp) (ht : ft (wP num stp m r) m 0 ≠ m) : num + ft (wP num stp m r) m 0 * stp < stp / Nat.gcd stp m * m := by
  obtain ⟨a, b⟩ := ft_ok (P := wP num stp m r) m 0 (by omega)
  exact lst hm h (of_decide_eq_true a) (fun u hu z => b u (Nat.zero_le u) hu (decide_eq_true z))
theorem em_x {a b c : Nat} (h : b ≤ c) : ((a : Int) - (b : Int)) % (c : Int) = (((a + c - b) % c : Nat) : Int) := by
  have e : ((a : Int) - (b : Int)) = ((a + c - b : Nat) : Int) + (c : Int) * (-1) := by omega
  rw [e, Int.add_mul_emod_self_left]
  rfl
theorem nC_rk {n i : Nat} {V : Nat → Nat} (hv : nS n V i (V i) = true) (hF : nF n V i < n) : 1 ≤ nC n V i ∧ nC n V i ≤ fb_ct (nS n V i) n ∧ fb_ct (nS n V i) (V i) = rk (nS n V i) n true (nF n V i) (nC n V i) := by
  have hc := ct_lt hv (nS_lt i _ hv)
  have hb := fb_ct_mono (nS n V i) (show nF n V i ≤ n by omega)
  unfold nC
  have hl := Nat.mod_lt (fb_ct (nS n V i) (V i) + fb_ct (nS n V i) n - fb_ct (nS n V i) (nF n V i)) (show 0 < fb_ct (nS n V i) n by omega)
  refine ⟨by omega, by omega, ?_⟩
  unfold rk
  rw [if_pos rfl, show fb_ct (nS n V i) (nF n V i) + ((fb_ct (nS n V i) (V i) + fb_ct (nS n V i) n - fb_ct (nS n V i) (nF n V i)) % fb_ct (nS n V i) n + 1) - 1 = fb_ct (nS n V i) (nF n V i) + (fb_ct (nS n V i) (V i) + fb_ct (nS n V i) n - fb_ct (nS n V i) (nF n V i)) % fb_ct (nS n V i) n by omega, Nat.add_mod_mod, show fb_ct (nS n V i) (nF n V i) + (fb_ct (nS n V i) (V i) + fb_ct (nS n V i) n - fb_ct (nS n V i) (nF n V i)) = fb_ct (nS n V i) (V i) + fb_ct (nS n V i) n by omega, Nat.add_mod_right, Nat.mod_eq_of_lt hc]
theorem pw_s {stp f s2 m : Nat} (h : stp * 60 ^ (f + 1) ≤ 60 ^ 8) (hm : m ≤ 60) (h2 : s2 ≤ stp) : s2 * m * 60 ^ f ≤ 60 ^ 8 := by
  refine Nat.le_trans (Nat.mul_le_mul_right (60 ^ f) (Nat.mul_le_mul h2 hm)) ?_
  rw [Nat.mul_assoc, Nat.mul_comm 60 (60 ^ f), ← Nat.pow_succ]; exact h
theorem pw_0 {stp f : Nat} (h : stp * 60 ^ f ≤ 60 ^ 8) : stp ≤ 60 ^ 8 := Nat.le_trans (Nat.le_mul_of_pos_right stp (Nat.pow_pos (by decide))) h
theorem pw_1 {stp f : Nat} (h : stp * 60 ^ (f + 1) ≤ 60 ^ 8) : stp * 60 ≤ 60 ^ 8 := by
  have := pw_s (m := 60) h (Nat.le_refl 60) (Nat.le_refl stp)
  exact pw_0 this
section
variable {SL : Nat} {xs : Nat → Int32} {d : Nat} {p s q : Nat} {Q : Option Value → mm_H → Prop} {J : Nat → Nat → Int64}
theorem wr_c {I : Nat → Nat → Int32} {num stp r m : Nat} (hm : 1 ≤ m) (hm2 : m ≤ 60) (hn : num < stp) (hb : stp * 60 ≤ 60 ^ 8) (hr : r < 60) : ∀ f t, t + f = m → Q (some (.long (if ft (wP num stp m r) f t = m then Int64.ofInt (-1) else lN (num + ft (wP num stp m r) f t * stp)))) (hp p s q I J) → w_X3_withRemainder_3 SL xs d p s q Q (lN num) (lN stp) (Int32.ofInt (r : Nat)) (Int32.ofInt (m : Nat)) (Int32.ofInt (t : Nat)) I J
  | 0, t, hf, kq => by
    rw [ft, if_pos (by omega)] at kq
    refine sg_X3_withRemainder_3 ⟨fun _ => kq, fun h => ?_⟩
    rw [z_le (by omega)] at h; omega
  | f + 1, t, hf, kq => by
    have h8 : (60 : Nat) ^ 8 = 167961600000000 := by decide
    have ht : t * stp ≤ 60 * stp := Nat.mul_le_mul_right stp (by omega)
    have hq : num + t * stp < 2 ^ 63 := by omega
    refine sg_X3_withRemainder_3 ⟨fun h => ?_, fun _ => ?_⟩
    · rw [z_le (by omega)] at h; omega
    · rw [zl (n := m) (by omega), zl (n := t) (by omega), zl (n := r) (by omega), lN_mul, lN_add, Nat.mul_comm stp t, pk_lRem hq (by omega) (by omega), z_p1]
      refine ⟨lN_ne0 hm (by omega), fun h => ?_, fun h => ?_⟩
      · have e : (num + t * stp) % m = r := (pk_lEQ (Nat.lt_of_le_of_lt (Nat.mod_le _ _) hq) (by omega)).mp h
        rw [ft_t (show wP num stp m r t = true from decide_eq_true e), if_neg (by omega)] at kq; exact kq
      · have e : ¬ (num + t * stp) % m = r := fun z => h (by rw [z])
        rw [ft_f (show ¬ wP num stp m r t = true by unfold wP; rw [decide_eq_true_eq]; exact e)] at kq
        exact wr_c hm hm2 hn hb hr f (t + 1) (by omega) kq
theorem number_c {I : Nat → Nat → Int32} {n l m : Nat} {V : Nat → Nat} (n1 : 1 ≤ n) (n2 : n ≤ 60) (hl : l ≤ 60) (h29 : I 29 1 = Int32.ofInt (l : Nat)) (hV : ∀ i, i < l → V i < 60 ∧ I 30 i = Int32.ofInt (V i : Nat)) (hm : m = if 8 ≤ l then 8 else l) : ∀ (f i num stp : Nat), i + f = m → num < stp → stp * 60 ^ f ≤ 60 ^ 8 → nF n V i < n → Q (some (.long (nR n V f i num stp))) (hp p s q I J) → w_X3_leastNumber_28 SL xs d p s q Q (Int32.ofInt (n : Nat)) (bs (nS n V i)) (lN num) (lN stp) (Int32.ofInt (nF n V i : Nat)) (Int32.ofInt (i : Nat)) I J
  | 0, i, num, stp, hf, hn, hb, hF, kq => by
    have hb0 := pw_0 hb
    have h8 : (60 : Nat) ^ 8 = 167961600000000 := by decide
    have k0 : lN num = Int64.ofInt 0 → Q (some (.long (lN stp))) (hp p s q I J) := fun h => by
      rw [lN_0 (by omega)] at h
      rw [nR, if_pos h] at kq; exact kq
    have k1 : ¬ lN num = Int64.ofInt 0 → Q (some (.long (lN num))) (hp p s q I J) := fun h => by
      rw [lN_0 (by omega)] at h
      rw [nR, if_neg h] at kq; exact kq
    refine sg_X3_leastNumber_28 ⟨fun _ => ⟨k0, k1⟩, fun h => ⟨fun _ => ⟨k0, k1⟩, fun h2 => ?_⟩⟩
    have hi8 : i ≤ 8 := by split at hm <;> omega
    rw [h29, z_le (by omega)] at h
    rw [z_le (by omega)] at h2
    split at hm <;> omega
  | f + 1, i, num, stp, hf, hn, hb, hF, kq => by
    have h8 : (60 : Nat) ^ 8 = 167961600000000 := by decide
    have hb1 := pw_1 hb
    have hil : i < l ∧ i < 8 := by split at hm <;> omega
    obtain ⟨v1, v2⟩ := hV i hil.1
    refine sg_X3_leastNumber_28 ⟨fun h => ?_, fun h => ⟨fun h2 => ?_, fun h2 => ⟨z_inN (by omega) (by omega), ?_⟩⟩⟩
    · rw [h29, z_le (by omega)] at h; omega
    · rw [z_le (by omega)] at h2; omega
    · rw [z_ixN (t := i) (by omega), v2]
      by_cases hni : n ≤ i
      · rw [nR, if_pos hni] at kq
        refine ⟨fun _ => kq, fun h => absurd ?_ h⟩
        rw [z_sub, z_lt (by omega)]; omega
      · rw [nR, if_neg hni] at kq
        have e2 : Int32.ofInt (n : Nat) - Int32.ofInt (i : Nat) = Int32.ofInt ((n - i : Nat) : Int) := by rw [z_sub]; congr 1; omega
        rw [e2, bs_has _ v1]
        refine ⟨fun h => ?_, fun _ => ⟨fun h => ?_, fun h => ?_⟩⟩
        · rw [z_lt (by omega)] at h; omega
        · have hs : nS n V i (V i) = false := zB_0.mp h
          rw [if_pos hs] at kq; exact kq
        · have hs : nS n V i (V i) = true := by
            cases z : nS n V i (V i)
            · rw [z] at h; exact absurd rfl h
            · rfl
          rw [if_neg (by rw [hs]; decide)] at kq
          have hvn := nS_lt i _ hs
          obtain ⟨c1, c2, _⟩ := nC_rk hs hF
          have hct := fb_ct_le (nS n V i) n
          have hb2 := fb_ct_mono (nS n V i) (show nF n V i ≤ n by omega)
          have hb3 := fb_ct_mono (nS n V i) (show V i ≤ n by omega)
          refine sg_X6_countTo ?_
          rw [bs_count, ct_sup2 (nS_lt i) n2, bs_below _ (by omega), bs_below _ (by omega), z_sub]
          refine ⟨fun z => ?_, fun _ => c_floorMod (by omega) (by omega) (by omega) (by omega) ⟨_, _, _, rfl, rfl, ?_⟩⟩
          · rw [z_eq (by omega)] at z; omega
          · rw [em_x hb2, z_p1]
            refine ⟨_, _, _, rfl, rfl, ?_⟩
            show ¬ _ ∧ _
            rw [show ((fb_ct (nS n V i) (V i) + fb_ct (nS n V i) n - fb_ct (nS n V i) (nF n V i)) % fb_ct (nS n V i) n + 1) = nC n V i from rfl, z_remN (by omega) (by omega) (by omega), z_eq0 (by omega)]
            refine ⟨by omega, ?_⟩
            have hr : nC n V i % (n - i) < n - i := Nat.mod_lt _ (by omega)
            have hfl := ft_le (wP num stp (n - i) (nC n V i % (n - i))) (n - i) 0
            refine sg_X3_withRemainder (wr_c (by omega) (by omega) hn hb1 (by omega) (n - i) 0 (by omega) ⟨_, _, _, rfl, rfl, ?_⟩)
            by_cases ht : ft (wP num stp (n - i) (nC n V i % (n - i))) (n - i) 0 = n - i
            · rw [if_pos ht] at kq
              rw [if_pos ht]
              exact ⟨fun z => absurd z (by decide), fun _ => kq⟩
            · rw [if_neg ht] at kq
              rw [if_neg ht]
              have hlt := lsw (r := nC n V i % (n - i)) (show 1 ≤ n - i by omega) hn ht
              have hdv : stp / Nat.gcd stp (n - i) ≤ stp := Nat.div_le_self _ _
              have hnb := pw_s hb (show n - i ≤ 60 by omega) hdv
              have hn0 := pw_0 hnb
              have hg : 1 ≤ Nat.gcd stp (n - i) := Nat.gcd_pos_of_pos_right stp (by omega)
              have hg2 : Nat.gcd stp (n - i) ≤ n - i := Nat.gcd_le_right stp (by omega)
              generalize num + ft (wP num stp (n - i) (nC n V i % (n - i))) (n - i) 0 * stp = w at hlt kq ⊢
              refine ⟨fun _ => sg_X3_leastCommon ?_, fun z => absurd ((pk_lLE (a := 0) (by omega) (by omega)).mpr (Nat.zero_le w)) z⟩
              rw [zl (n := n - i) (by omega)]
              refine sg_X4_greatestCommon (gcd_c 6 stp (n - i) 0 (by omega) (by omega) (by omega) ⟨_, _, _, rfl, rfl, fun _ => ⟨lN_ne0 hg (by omega), ?_⟩, fun z => absurd ((pk_lLE (a := 1) (by omega) (by omega)).mpr hg) z⟩)
              refine ⟨_, _, _, rfl, rfl, ?_⟩
              rw [pk_lDiv (by omega) (by omega) (by omega), lN_mul, z_p1, bs_one v1, bs_not, show Int32.ofInt 1 = zB true from rfl, nx_c hvn n2]
              exact number_c n1 n2 hl h29 hV hm f (i + 1) w _ (by omega) hlt hnb (nx_lt true hvn) kq
theorem lk_m {I : Nat → Nat → Int32} {S : Nat → Bool} {n t : Nat} {v2 : Int32} (n2 : n ≤ 60) (hS : S t = true) (ht : t < n) (h98 : ∀ x, x < 60 → I 98 x = zB (S x)) : ∀ (D r b c rest : Nat), dst n true r t = D → (b + 1) % n = r → b < n → c + rest ≤ 100 → 1 ≤ rest → rest ≤ fb_ct S n → fb_ct S t = rk S n true r rest → Q (some (.int (Int32.ofInt ((c + rest : Nat) : Int)))) (hp p s q I J) → w_X11_looked_22 SL xs d p s q Q (Int32.ofInt (n : Nat)) v2 (Int32.ofInt (t : Nat)) (Int32.ofInt (c : Nat)) (Int32.ofInt (b : Nat)) I J
  | D, r, b, c, rest, hD, hr, hb, hc, r1, r2, e, kq => by
    have hrn : r < n := by rw [← hr]; exact Nat.mod_lt _ (by omega)
    refine sg_X11_looked_22 ?_
    rw [z_p1, z_remN (by omega) (by omega) (by omega), hr, z_ixN (by omega), h98 r (by omega), z_add, z_p1, z_eq (a := (r : Int)) (by omega)]
    refine ⟨by rw [z_eq0 (by omega)]; omega, z_inN (by omega) (by omega), fun h => ⟨fun h2 => ?_, fun h2 => ?_⟩, fun h => ⟨fun h2 => ?_, fun h2 => ?_⟩⟩
    · rw [zB_0] at h
      obtain rfl : r = t := by omega
      rw [hS] at h; exact absurd h (by decide)
    · rw [zB_0] at h
      obtain ⟨_, o2, o3⟩ := wk_on hS ht hrn r1 r2 e (by omega)
      rw [h, if_neg (by decide)] at o2
      match D, hD with
      | 0, hD => omega
      | D + 1, hD =>
        rw [show (c : Int) + 0 = ((c : Nat) : Int) by omega]
        exact lk_m n2 hS ht h98 D _ r c rest (by omega) (nx_mod true hrn) hrn hc r1 r2 o2 kq
    · obtain rfl : r = t := by omega
      obtain rfl := wk_stop hS ht r1 r2 e
      exact kq
    · have hs : S r = true := by
        cases z : S r
        · rw [z] at h; exact absurd rfl h
        · rfl
      obtain ⟨o1, o2, o3⟩ := wk_on hS ht hrn r1 r2 e (by omega)
      have o1 := o1 hs
      rw [hs, if_pos rfl] at o2
      match D, hD with
      | 0, hD => omega
      | D + 1, hD =>
        refine lk_m n2 hS ht h98 D _ r (c + 1) (rest - 1) (by omega) (nx_mod true hrn) hrn (by omega) (by omega) (by omega) o2 ?_
        rw [show c + 1 + (rest - 1) = c + rest by omega]; exact kq
theorem wr_m {I : Nat → Nat → Int32} {n i num stp cn m v : Nat} {v2 v7 : Int32} (hm : 1 ≤ m) (hm2 : m ≤ 60) (hn : num < stp) (hb : stp * 60 ≤ 60 ^ 8) (hc : cn ≤ 100) (hi : i < 60) (hv : v < 60) (h97 : I 97 i = Int32.ofInt (v : Nat)) (k0 : ft (wP num stp m (cn % m)) m 0 = m → Q (some (.long (Int64.ofInt (-1)))) (hp p s q I J)) (k1 : ft (wP num stp m (cn % m)) m 0 ≠ m → w_X11_number_80 SL xs d p s q Q (Int32.ofInt (n : Nat)) v2 (lN (num + ft (wP num stp m (cn % m)) m 0 * stp)) (lN (stp / Nat.gcd stp m * m)) (Int32.ofInt (v : Nat)) (Int32.ofInt ((i + 1 : Nat) : Int)) (mm_u I 98 v (Int32.ofInt 0)) J) : ∀ f t, t + f = m → ft (wP num stp m (cn % m)) m 0 = ft (wP num stp m (cn % m)) f t → w_X11_number_130 SL xs d p s q Q (Int32.ofInt (n : Nat)) v2 (lN num) (lN stp) v7 (Int32.ofInt (i : Nat)) (Int32.ofInt (m : Nat)) (Int32.ofInt (cn : Nat)) (Int32.ofInt (t : Nat)) I J
  | 0, t, hf, hF => by
    obtain rfl : t = m := by omega
    refine sg_X11_number_130 ⟨fun _ => ⟨fun _ => k0 hF, fun h => absurd rfl h⟩, fun h => ?_⟩
    rw [z_le (by omega)] at h; omega
  | f + 1, t, hf, hF => by
    have h8 : (60 : Nat) ^ 8 = 167961600000000 := by decide
    have ht : t * stp ≤ 60 * stp := Nat.mul_le_mul_right stp (by omega)
    have hq : num + t * stp < 2 ^ 63 := by omega
    have hr : cn % m < m := Nat.mod_lt _ (by omega)
    refine sg_X11_number_130 ⟨fun h => ?_, fun _ => ⟨?_, ?_, fun h => ⟨fun h2 => ?_, fun h2 => ?_⟩, fun h => ?_⟩⟩
    · rw [z_le (by omega)] at h; omega
    · rw [zl (by omega)]; exact lN_ne0 hm (by omega)
    · rw [z_eq0 (by omega)]; omega
    · rw [z_eq (by omega)] at h2; omega
    · rw [zl (n := m) (by omega), zl (n := t) (by omega), z_remN (by omega) (by omega) (by omega), zl (n := cn % m) (by omega), lN_mul, lN_add, pk_lRem hq (by omega) (by omega)] at h
      have e : (num + t * stp) % m = cn % m := (pk_lEQ (Nat.lt_of_le_of_lt (Nat.mod_le _ _) hq) (by omega)).mp h
      rw [ft_t (show wP num stp m (cn % m) t = true from decide_eq_true e)] at hF
      have hne : ft (wP num stp m (cn % m)) m 0 ≠ m := by omega
      have hlt := lsw hm hn hne
      have k1 := k1 hne
      rw [hF] at hlt k1
      have hdv : stp / Nat.gcd stp m ≤ stp := Nat.div_le_self _ _
      have hdm : stp / Nat.gcd stp m * m ≤ stp * 60 := Nat.mul_le_mul hdv hm2
      have hg : 1 ≤ Nat.gcd stp m := Nat.gcd_pos_of_pos_right stp (by omega)
      have hg2 : Nat.gcd stp m ≤ m := Nat.gcd_le_right stp (by omega)
      rw [zl (n := m) (by omega), zl (n := t) (by omega)]
      refine sg_X11_common (gcd_m m stp m (Nat.le_refl m) (by omega) (by omega) ⟨_, _, _, rfl, rfl, lN_ne0 hg (by omega), ?_⟩)
      rw [pk_lDiv (by omega) (by omega) (by omega), lN_mul, lN_mul, lN_add, pk_lRem hq (by omega) (by omega), Nat.mod_eq_of_lt hlt, z_ixN (t := i) (by omega), h97, z_ixN (t := v) (by omega), z_p1]
      exact ⟨lN_ne0 (by omega) (by omega), z_inN (by omega) (by omega), z_inN (by omega) (by omega), k1⟩
    · rw [zl (n := m) (by omega), zl (n := t) (by omega), z_remN (by omega) (by omega) (by omega), zl (n := cn % m) (by omega), lN_mul, lN_add, pk_lRem hq (by omega) (by omega)] at h
      have e : ¬ (num + t * stp) % m = cn % m := fun z => h (by rw [z])
      rw [ft_f (show ¬ wP num stp m (cn % m) t = true by unfold wP; rw [decide_eq_true_eq]; exact e)] at hF
      rw [z_p1]
      exact wr_m hm hm2 hn hb hc hi hv h97 k0 k1 f (t + 1) (by omega) hF
theorem number_m {n l m : Nat} {V : Nat → Nat} (n1 : 1 ≤ n) (n2 : n ≤ 60) (hl : l ≤ 60) (hm : m = if 8 ≤ l then 8 else l) : ∀ (f i num stp b : Nat) (I : Nat → Nat → Int32), i + f = m → (∀ i, i < l → V i < 60 ∧ I 97 i = Int32.ofInt (V i : Nat)) → (∀ x, x < 60 → I 98 x = zB (nS n V i x)) → num < stp → stp * 60 ^ f ≤ 60 ^ 8 → b < n → (b + 1) % n = nF n V i → (∀ I2 : Nat → Nat → Int32, (∀ r, r ≠ 98 → I2 r = I r) → Q (some (.long (nR n V f i num stp))) (hp p s q I2 J)) → w_X11_number_80 SL xs d p s q Q (Int32.ofInt (n : Nat)) (Int32.ofInt (m : Nat)) (lN num) (lN stp) (Int32.ofInt (b : Nat)) (Int32.ofInt (i : Nat)) I J
  | 0, i, num, stp, b, I, hf, hV, h98, hn, hb, hbn, hF, kq => by
    have hb0 := pw_0 hb
    have h8 : (60 : Nat) ^ 8 = 167961600000000 := by decide
    have hi8 : i ≤ 8 := by split at hm <;> omega
    have kq := kq I (fun _ _ => rfl)
    refine sg_X11_number_80 ⟨fun _ => ⟨fun h => ?_, fun h => ?_⟩, fun h => ?_⟩
    · rw [lN_0 (by omega)] at h
      rw [nR, if_pos h] at kq; exact kq
    · rw [lN_0 (by omega)] at h
      rw [nR, if_neg h] at kq; exact kq
    · rw [z_le (by omega)] at h; omega
  | f + 1, i, num, stp, b, I, hf, hV, h98, hn, hb, hbn, hF, kq => by
    have h8 : (60 : Nat) ^ 8 = 167961600000000 := by decide
    have hb1 := pw_1 hb
    have hil : i < l ∧ i < 8 := by split at hm <;> omega
    have hm8 : m ≤ 8 := by split at hm <;> omega
    obtain ⟨v1, v2⟩ := hV i hil.1
    have hFn : nF n V i < n := by rw [← hF]; exact Nat.mod_lt _ (by omega)
    refine sg_X11_number_80 ⟨fun h => ?_, fun _ => ⟨fun h => ⟨z_inN (by omega) (by omega), ?_⟩, fun h => ?_⟩⟩
    · rw [z_le (by omega)] at h; omega
    · rw [z_sub, z_le (by omega)] at h
      have hni : ¬ n ≤ i := by omega
      have e2 : Int32.ofInt (n : Nat) - Int32.ofInt (i : Nat) = Int32.ofInt ((n - i : Nat) : Int) := by rw [z_sub]; congr 1; omega
      rw [e2, z_ixN (t := i) (by omega), v2]
      have kn : nS n V i (V i) = false → Q (some (.long (Int64.ofInt (-1)))) (hp p s q I J) := fun z => by
        have kq := kq I (fun _ _ => rfl)
        rw [nR, if_neg hni, if_pos z] at kq; exact kq
      have h0 := h98 (V i) v1
      refine sg_X11_looked ⟨fun h => ⟨_, _, _, rfl, rfl, fun _ => kn ?_, fun z => absurd rfl z⟩, fun h => ⟨z_inN (by omega) (by omega), fun h2 => ⟨_, _, _, rfl, rfl, fun _ => kn ?_, fun z => absurd rfl z⟩, fun h2 => ?_⟩⟩
      · rw [z_le (by omega)] at h
        cases z : nS n V i (V i)
        · rfl
        · have := nS_lt i _ z; omega
      · rw [z_ixN (by omega), h0, zB_0] at h2; exact h2
      · rw [z_ixN (by omega), h0, zB_0] at h2
        have hs : nS n V i (V i) = true := by simpa using h2
        have hvn := nS_lt i _ hs
        obtain ⟨c1, c2, c3⟩ := nC_rk hs hFn
        have hct := fb_ct_le (nS n V i) n
        refine lk_m n2 hs hvn h98 _ _ b 0 (nC n V i) rfl hF hbn (by omega) c1 c2 c3 ⟨_, _, _, rfl, rfl, fun z => ?_, fun _ => ?_⟩
        · rw [Nat.zero_add, z_eq (by omega)] at z; omega
        · rw [Nat.zero_add]
          have kq2 : ∀ I2 : Nat → Nat → Int32, (∀ r, r ≠ 98 → I2 r = I r) → Q (some (.long (if ft (wP num stp (n - i) (nC n V i % (n - i))) (n - i) 0 = n - i then Int64.ofInt (-1) else nR n V f (i + 1) (num + ft (wP num stp (n - i) (nC n V i % (n - i))) (n - i) 0 * stp) (stp / Nat.gcd stp (n - i) * (n - i))))) (hp p s q I2 J) := fun I2 g => by
            have kq := kq I2 g
            rw [nR, if_neg hni, if_neg (by rw [hs]; decide)] at kq; exact kq
          refine wr_m (by omega) (by omega) hn hb1 (by omega) (by omega) v1 v2 (fun z => ?_) (fun z => ?_) (n - i) 0 (by omega) rfl
          · have kq2 := kq2 I (fun _ _ => rfl)
            rw [if_pos z] at kq2; exact kq2
          · rw [if_neg z] at kq2
            have hlt := lsw (show 1 ≤ n - i by omega) hn z
            have hdv : stp / Nat.gcd stp (n - i) ≤ stp := Nat.div_le_self _ _
            have hnb := pw_s hb (show n - i ≤ 60 by omega) hdv
            refine number_m n1 n2 hl hm f (i + 1) _ _ (V i) _ (by omega) (fun j hj => ?_) (fun x hx => ?_) hlt hnb hvn (nx_mod true hvn) (fun I2 g => kq2 I2 (fun r hr => by rw [g r hr, mu_row hr]))
            · rw [mu_row (by omega)]; exact hV j hj
            · rw [mu_if]
              by_cases e : x = V i
              · rw [if_pos e, show nS n V (i + 1) x = (nS n V i x && !decide (x = V i)) from rfl, decide_eq_true e, Bool.not_true, Bool.and_false]; rfl
              · rw [if_neg e, show nS n V (i + 1) x = (nS n V i x && !decide (x = V i)) from rfl, decide_eq_false e, Bool.not_false, Bool.and_true]; exact h98 x hx
    · rw [z_sub, z_le (by omega)] at h
      have kq := kq I (fun _ _ => rfl)
      rw [nR, if_pos (by omega)] at kq; exact kq
theorem number_f {n l : Nat} (n1 : 1 ≤ n) (n2 : n ≤ 60) (hl : l ≤ 60) : ∀ (f j : Nat) (I : Nat → Nat → Int32), j + f = 60 → I 65 80 = Int32.ofInt (l : Nat) → (∀ x, x < j → I 98 x = zB (decide (x < n))) → (∀ I2 : Nat → Nat → Int32, (∀ r, r ≠ 98 → I2 r = I r) → (∀ x, x < 60 → I2 98 x = zB (decide (x < n))) → w_X11_number_80 SL xs d p s q Q (Int32.ofInt (n : Nat)) (Int32.ofInt ((if 8 ≤ l then 8 else l : Nat) : Int)) (lN 0) (lN 1) (Int32.ofInt ((n - 1 : Nat) : Int)) (Int32.ofInt ((0 : Nat) : Int)) I2 J) → w_X11_number_20 SL xs d p s q Q (Int32.ofInt (n : Nat)) (Int32.ofInt (j : Nat)) I J
  | 0, j, I, hf, h80, hj, kq => by
    obtain rfl : j = 60 := by omega
    have kq := kq I (fun _ _ => rfl) hj
    refine sg_X11_number_20 ⟨fun _ => ?_, fun h => absurd (by rw [z_le (by omega)]; omega) h⟩
    rw [h80, z_m1 n1, z_le (by omega)]
    by_cases e : 8 ≤ l
    · rw [if_pos e] at kq; exact ⟨fun _ => kq, fun h => absurd (by omega) h⟩
    · rw [if_neg e] at kq; exact ⟨fun h => absurd h (by omega), fun _ => kq⟩
  | f + 1, j, I, hf, h80, hj, kq => by
    have go : ∀ b : Bool, b = decide (j < n) → w_X11_number_20 SL xs d p s q Q (Int32.ofInt (n : Nat)) (Int32.ofInt ((j + 1 : Nat) : Int)) (mm_u I 98 j (zB b)) J := fun b hb => by
      refine number_f n1 n2 hl f (j + 1) _ (by omega) (by rw [mu_row (by omega)]; exact h80) (fun x hx => ?_) (fun I2 g1 g2 => kq I2 (fun r hr => by rw [g1 r hr, mu_row hr]) g2)
      rw [mu_if]
      by_cases e : x = j
      · rw [if_pos e, e, hb]
      · rw [if_neg e]; exact hj x (by omega)
    refine sg_X11_number_20 ⟨fun h => ?_, fun _ => ⟨fun h => ⟨z_inN (by omega) (by omega), ?_⟩, fun h => ⟨z_inN (by omega) (by omega), ?_⟩⟩⟩
    · rw [z_le (by omega)] at h; omega
    · rw [z_le (by omega)] at h
      rw [z_ixN (by omega), z_p1]
      exact go false (decide_eq_false (by omega)).symm
    · rw [z_le (by omega)] at h
      rw [z_ixN (by omega), z_p1]
      exact go true (decide_eq_true (by omega)).symm
end
theorem ca_number {SL : Nat} {xs : Nat → Int32} {d : Nat} {h : mm_H} {Q : Option Value → mm_H → Prop} {a0 : Int32} (hd : 150 ≤ d) (hiv : iv h) (k : ∀ (r : Int64) (h1 : mm_H), h1.2.1 65 = .inr 9 → (∀ Q2 : Option Value → mm_H → Prop, (∀ h2, iv h2 → Q2 (some (.long r)) h2) → mm_s SL xs d 245 [.ref 65, .int a0] h1 Q2) → Q (some (.long r)) h1) : mm_s SL xs d 139 [.ref 2, .int a0] h Q := by
  obtain ⟨e, rfl⟩ : ∃ e, d = e + 20 := ⟨d - 20, by omega⟩
  obtain ⟨_, _, p, s, q, I, J, rfl, P, bg, x, hR, hM⟩ := hiv
  have hS : QS p s q P bg x I J := ⟨hR, hM⟩
  refine sg_X10_number ⟨fun h => k _ _ rfl (fun Q2 k2 => sg_X11_number ⟨fun _ => k2 _ (QS_iv hS), fun h2 => absurd h h2⟩), fun h => ?_⟩
  have h' := h
  rw [pl_z, Classical.not_not] at h'
  obtain ⟨n, n1, n2, rfl⟩ := h'
  obtain ⟨l, l1, l2, l3, l4⟩ := hR.2.2.2.2.2.1
  have l4' : ∃ V : Nat → Nat, ∀ i, i < l → V i < 60 ∧ I 30 i = Int32.ofInt (V i : Nat) ∧ I 97 i = Int32.ofInt (V i : Nat) := by
    refine ⟨fun i => (I 30 i).toInt.toNat, fun i hi => ?_⟩
    obtain ⟨v, v1, v2, v3⟩ := l4 i hi
    have e1 : (I 30 i).toInt.toNat = v := by rw [v2, z_to (by omega) (by omega)]; exact Int.toNat_natCast v
    simp only [e1]
    exact ⟨v1, v2, v3⟩
  obtain ⟨V, hV⟩ := l4'
  refine sg_X3_leastNumber ⟨fun h0 => ⟨_, _, _, rfl, rfl, k _ _ rfl (fun Q2 k2 => sg_X11_number ⟨fun z => absurd z h, fun _ => ⟨fun _ => k2 _ (QS_iv hS), fun z => absurd (by rw [l3, ← l2]; exact h0) z⟩⟩)⟩, fun h0 => ?_⟩
  have hm8 : (if 8 ≤ l then 8 else l) ≤ 8 := by split <;> omega
  have hpw : 1 * 60 ^ (if 8 ≤ l then 8 else l) ≤ 60 ^ 8 := by rw [Nat.one_mul]; exact Nat.pow_le_pow_right (by decide) hm8
  rw [bs_all n2]
  refine number_c (V := V) (m := if 8 ≤ l then 8 else l) n1 n2 l1 l2 (fun i hi => ⟨(hV i hi).1, (hV i hi).2.1⟩) rfl _ 0 0 1 (Nat.zero_add _) (by omega) hpw n1 ⟨_, _, _, rfl, rfl, ?_⟩
  refine k _ _ rfl (fun Q2 k2 => sg_X11_number ⟨fun z => absurd z h, fun _ => ⟨fun z => absurd (by rw [l2, ← l3]; exact z) h0, fun _ => ?_⟩⟩)
  refine number_f n1 n2 l1 60 0 I rfl l3 (fun x hx => absurd hx (Nat.not_lt_zero x)) (fun I1 g1 g2 => ?_)
  refine number_m (V := V) n1 n2 l1 rfl _ 0 0 1 (n - 1) I1 (Nat.zero_add _) (fun i hi => ?_) g2 (by omega) hpw (by omega) ?_ (fun I2 g3 => ?_)
  · rw [g1 97 (by omega)]; exact ⟨(hV i hi).1, (hV i hi).2.2⟩
  · rw [Nat.sub_add_cancel n1, Nat.mod_self]; rfl
  · have hr : ∀ r, r ≠ 98 → I2 r = I r := fun r z => by rw [g3 r z, g1 r z]
    exact k2 _ (QS_iv ⟨RX_f (I := I) (J := J) ⟨fun x h => hr x (by unfold scr at h; omega), fun k _ => by rw [hr 65 (by omega)], by rw [hr 29 (by omega)], fun _ _ _ _ => rfl⟩ hR, MX_c (fun r z => hr r (by omega)) hM⟩)
