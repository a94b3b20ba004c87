def fmI (x y : Int32) : Int32 := if Int32.ofInt 0 ≤ (x ^^^ y) then x - x / y * y else if x - x / y * y = Int32.ofInt 0 then x - x / y * y else x - x / y * y + y
theorem fm_tab : ∀ (b : Fin 61) (a : Fin 192), b.val = 0 ∨ fmI (Int32.ofInt ((a.val : Int) - 64)) (Int32.ofInt (b.val : Int)) = Int32.ofInt (((a.val : Int) - 64) % (b.val : Int)) := by decide +kernel
theorem fm_ok {a : Int} {b : Nat} (h1 : -64 ≤ a) (h2 : a < 128) (h3 : 1 ≤ b) (h4 : b ≤ 60) : fmI (Int32.ofInt a) (Int32.ofInt (b : Int)) = Int32.ofInt (a % (b : Int)) := by
  have h := fm_tab ⟨b, by omega⟩ ⟨(a + 64).toNat, by omega⟩
  have e : (((a + 64).toNat : Nat) : Int) - 64 = a := by omega
  rcases h with h | h
  · exact absurd h (by show ¬ b = 0; omega)
  · simp only [e] at h; exact h
theorem ct_sup {S : Nat → Bool} {n : Nat} (h : ∀ i, S i = true → i < n) : ∀ m, fb_ct S (n + m) = fb_ct S n
  | 0 => rfl
  | m + 1 => by
    show fb_ct S (n + m + 1) = _
    rw [ct_S0 (fun q => by have := h _ q; omega), ct_sup h m]
theorem ct_sup2 {S : Nat → Bool} {n m : Nat} (h : ∀ i, S i = true → i < n) (hm : n ≤ m) : fb_ct S m = fb_ct S n := by
  have := ct_sup h (m - n)
  rwa [Nat.add_sub_cancel' hm] at this
theorem z_p1 {a : Nat} : Int32.ofInt (a : Int) + Int32.ofInt 1 = Int32.ofInt ((a + 1 : Nat) : Int) := by rw [z_add]; rfl
theorem z_m1 {a : Nat} (h : 1 ≤ a) : Int32.ofInt (a : Int) - Int32.ofInt 1 = Int32.ofInt ((a - 1 : Nat) : Int) := by rw [z_sub]; congr 1; omega
def zB (b : Bool) : Int32 := if b then Int32.ofInt 1 else Int32.ofInt 0
theorem zB_0 {b : Bool} : (zB b = Int32.ofInt 0) = (b = false) := by cases b <;> simp [zB]
theorem zB_1 {b : Bool} : (zB b = Int32.ofInt 1) = (b = true) := by cases b <;> simp [zB]
theorem em_w {B st r : Nat} (h : r + 1 ≤ st) : ((B : Int) - 1 - (r : Int)) % (st : Int) = (((B + st - (r + 1)) % st : Nat) : Int) := by
  have e : ((B : Int) - 1 - (r : Int)) = ((B + st - (r + 1) : Nat) : Int) + (st : Int) * (-1) := by omega
  rw [e, Int.add_mul_emod_self_left]
  rfl
section
variable {SL : Nat} {xs : Nat → Int32} {d : Nat} {p s q : Nat} {Q : Option Value → mm_H → Prop} {I : Nat → Nat → Int32} {J : Nat → Nat → Int64}
theorem c_floorMod {a : Int} {b : Nat} (h1 : -64 ≤ a) (h2 : a < 128) (h3 : 1 ≤ b) (h4 : b ≤ 60) (k : Q (some (.int (Int32.ofInt (a % (b : Int))))) (hp p s q I J)) : mm_s SL xs (d + 1) 277 [.int (Int32.ofInt a), .int (Int32.ofInt (b : Int))] (hp p s q I J) Q := by
  rw [← fm_ok h1 h2 h3 h4] at k
  unfold fmI at k
  refine sg_J9_floorMod_7cf53 ⟨?_, fun h => ?_, fun h => ⟨fun h5 => ?_, fun h5 => ?_⟩⟩
  · rw [z_eq0 (by omega)]; omega
  · rw [if_pos h] at k; exact k
  · rw [if_neg h, if_pos h5] at k; exact k
  · rw [if_neg h, if_neg h5] at k; exact k
theorem ranked_loop {S : Nat → Bool} {t r : Nat} {v0 : Int64} (ht : t < 60) (hS : S t = true) (hr : fb_ct S t = r) (k : Q (some (.int (Int32.ofInt (t : Int)))) (hp p s q I J)) : ∀ (f i : Nat), i + f = r → w_X6_ranked_5 SL xs d p s q Q v0 (Int32.ofInt (r : Int)) (bs (fun x => S x && decide (i ≤ fb_ct S x))) (Int32.ofInt (i : Int)) I J
  | f, i, hf => by
    have hrl : r ≤ t := by rw [← hr]; exact fb_ct_le S t
    refine sg_X6_ranked_5 ⟨fun h => ⟨fun h0 => ?_, fun h0 => ?_⟩, fun h => ⟨fun h6 => ?_, fun h6 => ?_⟩⟩
    · rw [z_le (by omega)] at h
      have := (bs_eq0 _).mp h0 t ht
      simp only [hS, Bool.true_and, decide_eq_false_iff_not] at this
      omega
    · rw [z_le (by omega)] at h
      rw [bs_tz (fun x => S x && decide (i ≤ fb_ct S x)) ht (by simp only [hS, Bool.true_and, decide_eq_true_eq]; omega) (fun j hj => by
        cases hs : S j with
        | false => rfl
        | true =>
          have := ct_lt hs hj
          simp only [Bool.true_and, decide_eq_false_iff_not]; omega)]
      exact k
    · rw [z_le (by omega)] at h6; omega
    · rw [z_le (by omega)] at h
      obtain ⟨g, rfl⟩ : ∃ g, f = g + 1 := ⟨f - 1, by omega⟩
      have hi : i < fb_ct S 60 := by
        have := fb_ct_mono S (show t ≤ 60 by omega)
        omega
      obtain ⟨u1, u2, u3⟩ := sel_ok hi
      rw [bs_drop (fun x => S x && decide (i ≤ fb_ct S x)) u1 (by simp only [u2, Bool.true_and, decide_eq_true_eq]; omega) (fun j hj => by
        cases hs : S j with
        | false => rfl
        | true =>
          have := ct_lt hs hj
          simp only [Bool.true_and, decide_eq_false_iff_not]; omega), z_p1]
      have e : bs (fun x => (S x && decide (i ≤ fb_ct S x)) && !decide (x = sel S 60 i)) = bs (fun x => S x && decide (i + 1 ≤ fb_ct S x)) := by
        apply bs_cong
        intro x hx
        cases hs : S x with
        | false => rfl
        | true =>
          simp only [Bool.true_and]
          by_cases hu : x = sel S 60 i
          · subst hu
            rw [u3]; simp
          · have : fb_ct S x ≠ i := fun z => hu (fb_ct_kth_one hs u2 (by rw [z, u3]))
            simp only [hu, decide_false, Bool.not_false, Bool.and_true]
            congr 1
            exact propext (by omega)
      rw [e]
      exact ranked_loop ht hS hr k g (i + 1) (by omega)
theorem c_ranked {S : Nat → Bool} {t r : Nat} (ht : t < 60) (hS : S t = true) (hr : fb_ct S t = r) (k : Q (some (.int (Int32.ofInt (t : Int)))) (hp p s q I J)) : mm_s SL xs (d + 3) 69 [.long (bs S), .int (Int32.ofInt (r : Int))] (hp p s q I J) Q := by
  refine sg_X6_ranked ?_
  have := ranked_loop (SL := SL) (xs := xs) (d := d) (v0 := bs S) ht hS hr k r 0 (Nat.zero_add r)
  have e : bs (fun x => S x && decide (0 ≤ fb_ct S x)) = bs S := bs_cong (fun i _ => by simp)
  rw [e] at this
  exact this
theorem c_counted {S : Nat → Bool} {n frm cnt : Nat} {up : Bool} (hn : n ≤ 60) (sup : ∀ i, S i = true → i < n) (st : 0 < fb_ct S n) (hf : frm < n) (hc : 1 ≤ cnt) (hc2 : cnt ≤ 1000) (k : Q (some (.int (Int32.ofInt (pk S n up frm cnt : Nat)))) (hp p s q I J)) : mm_s SL xs (d + 4) 70 [.long (bs S), .int (Int32.ofInt (frm : Int)), .int (zB up), .int (Int32.ofInt (cnt : Int))] (hp p s q I J) Q := by
  have hle : fb_ct S n ≤ n := fb_ct_le S n
  have hml : (cnt - 1) % fb_ct S n < fb_ct S n := Nat.mod_lt _ st
  have hrk := rk_lt (S := S) (n := n) (up := up) (p := frm) (rest := (cnt - 1) % fb_ct S n + 1) st
  obtain ⟨g1, g2⟩ := pk_ok (S := S) (n := n) up frm cnt st
  have g3 := pk_rk (S := S) (n := n) up frm cnt st
  have hb1 : fb_ct S (frm + 1) ≤ fb_ct S n := fb_ct_mono S (by omega)
  have hb0 : fb_ct S frm ≤ fb_ct S n := fb_ct_mono S (by omega)
  refine sg_X6_counted ?_
  rw [bs_count, ct_sup2 sup hn, z_m1 hc, z_remN (by omega) (by omega) (by omega)]
  refine ⟨fun h => ?_, fun h => ⟨?_, fun hu => ?_, fun hu => ?_⟩⟩
  · rw [z_eq (by omega)] at h; omega
  · rw [z_eq0 (by omega)]; omega
  · rw [zB_0] at hu
    subst hu
    rw [z_p1, bs_below S (by omega), z_sub, z_sub]
    refine c_floorMod (by omega) (by omega) st (by omega) ⟨_, _, _, rfl, rfl, ?_⟩
    rw [em_w (by omega)]
    refine c_ranked (t := pk S n false frm cnt) (by omega) g2 ?_ ⟨_, _, _, rfl, rfl, k⟩
    rw [g3]; rfl
  · rw [zB_0] at hu
    obtain rfl : up = true := by simpa using hu
    rw [bs_below S (by omega), z_add]
    refine c_floorMod (by omega) (by omega) st (by omega) ⟨_, _, _, rfl, rfl, ?_⟩
    have e : ((fb_ct S frm : Int) + ((cnt - 1) % fb_ct S n : Nat)) % (fb_ct S n : Int) = ((rk S n true frm ((cnt - 1) % fb_ct S n + 1) : Nat) : Int) := by
      unfold rk
      rw [if_pos rfl, show fb_ct S frm + ((cnt - 1) % fb_ct S n + 1) - 1 = fb_ct S frm + (cnt - 1) % fb_ct S n by omega]
      rfl
    rw [e]
    exact c_ranked (t := pk S n true frm cnt) (by omega) g2 g3 ⟨_, _, _, rfl, rfl, k⟩
end
