/-! guessed rules -/
def gU (c : Nat) : Nat → Bool
  | 0 => true
  | i + 1 => if c = 0 then gU c i else if (i + 1) % c = 0 then !gU c i else gU c i
def gF (n : Nat) (V : Nat → Nat) (c : Nat) : Nat → Nat
  | 0 => 0
  | i + 1 => nx n (gU c (i + 1)) (V i)
def gN (a b i : Nat) : Nat := if i % 2 = 0 then a else b
def gH (n : Nat) (V : Nat → Nat) (a b c i : Nat) : Nat := pk (nS n V i) n (gU c i) (gF n V c i) (gN a b i)
def gB2 (n : Nat) (V : Nat → Nat) (a b c : Nat) : Nat → Nat → Bool
  | 0, _ => true
  | f + 1, i => if gH n V a b c i = V i then gB2 n V a b c f (i + 1) else false
theorem gB_t {n : Nat} {V : Nat → Nat} {a b c f i : Nat} (h : gH n V a b c i = V i) : gB2 n V a b c (f + 1) i = gB2 n V a b c f (i + 1) := by rw [gB2, if_pos h]
theorem gB_f {n : Nat} {V : Nat → Nat} {a b c f i : Nat} (h : ¬ gH n V a b c i = V i) : gB2 n V a b c (f + 1) i = false := by rw [gB2, if_neg h]
theorem gU_0 {i : Nat} : gU 0 (i + 1) = gU 0 i := by rw [gU, if_pos rfl]
theorem gU_t {c i : Nat} (h : c ≠ 0) (h2 : (i + 1) % c = 0) : gU c (i + 1) = !gU c i := by rw [gU, if_neg h, if_pos h2]
theorem gU_f {c i : Nat} (h : c ≠ 0) (h2 : ¬ (i + 1) % c = 0) : gU c (i + 1) = gU c i := by rw [gU, if_neg h, if_neg h2]
theorem gN_le {a b i : Nat} (a1 : 1 ≤ a) (a2 : a ≤ 12) (b1 : 1 ≤ b) (b2 : b ≤ 12) : 1 ≤ gN a b i ∧ gN a b i ≤ 12 := by
  unfold gN
  split <;> omega
theorem nS_ct {n i : Nat} {V : Nat → Nat} (hv : nS n V i (V i) = true) (hc : fb_ct (nS n V i) n = n - i) : fb_ct (nS n V (i + 1)) n = n - (i + 1) := by
  have h := ct_del hv n
  rw [if_pos (nS_lt i _ hv)] at h
  have e : fb_ct (nS n V (i + 1)) n = fb_ct (fun j => nS n V i j && !decide (j = V i)) n := rfl
  omega
theorem nS_0 {n : Nat} {V : Nat → Nat} : fb_ct (nS n V 0) n = n - 0 := by
  have : ∀ m, m ≤ n → fb_ct (nS n V 0) m = m := by
    intro m
    induction m with
    | zero => intro _; rfl
    | succ m ih => intro h; rw [ct_S1 (show nS n V 0 m = true from decide_eq_true (by omega)), ih (by omega)]
  exact this n (Nat.le_refl n)
section
variable {SL : Nat} {xs : Nat → Int32} {d : Nat} {p s q : Nat} {Q : Option Value → mm_H → Prop} {J : Nat → Nat → Int64}
theorem isBy_c {I : Nat → Nat → Int32} {n l a b c : Nat} {V : Nat → Nat} (n2 : n ≤ 60) (hl : l ≤ n) (a1 : 1 ≤ a) (a2 : a ≤ 12) (b1 : 1 ≤ b) (b2 : b ≤ 12) (hc : c ≤ 6) (h29 : I 29 1 = Int32.ofInt (l : Nat)) (hV : ∀ i, i < l → V i < 60 ∧ I 30 i = Int32.ofInt (V i : Nat)) : ∀ (f i : Nat), i + f = l → fb_ct (nS n V i) n = n - i → (i < n → gF n V c i < n) → Q (some (.int (zB (gB2 n V a b c f i)))) (hp p s q I J) → w_X3_isBy_15 SL xs d p s q Q (Int32.ofInt (n : Nat)) (Int32.ofInt (a : Nat)) (Int32.ofInt (b : Nat)) (Int32.ofInt (c : Nat)) (bs (nS n V i)) (zB (gU c i)) (Int32.ofInt (gF n V c i : Nat)) (Int32.ofInt (i : Nat)) I J
  | 0, i, hf, hct, hF, kq => by
    obtain rfl : i = l := by omega
    refine sg_X3_isBy_15 ⟨fun _ => kq, fun h => ?_⟩
    rw [h29, z_le (by omega)] at h; omega
  | f + 1, i, hf, hct, hF, kq => by
    have hF := hF (by omega)
    obtain ⟨v1, v2⟩ := hV i (by omega)
    have hg := gN_le (i := i) a1 a2 b1 b2
    obtain ⟨g1, g2⟩ := pk_ok (S := nS n V i) (n := n) (gU c i) (gF n V c i) (gN a b i) (by omega)
    have e2 : Int32.ofInt (i : Nat) - Int32.ofInt (i : Nat) / Int32.ofInt 2 * Int32.ofInt 2 = Int32.ofInt ((i % 2 : Nat) : Int) := z_remN (b := 2) (by omega) (by omega) (by omega)
    have k0 : ¬ gH n V a b c i = V i → Q (some (.int (Int32.ofInt 0))) (hp p s q I J) := fun z => by rw [gB_f z] at kq; exact kq
    have go : gH n V a b c i = V i → ∀ u : Bool, u = gU c (i + 1) → w_X3_isBy_15 SL xs d p s q Q (Int32.ofInt (n : Nat)) (Int32.ofInt (a : Nat)) (Int32.ofInt (b : Nat)) (Int32.ofInt (c : Nat)) (bs (nS n V i) &&& ((sx_X6_bit (Int32.ofInt (V i : Nat))) ^^^ (Int64.ofInt (-1)))) (zB u) (sx_X6_next (Int32.ofInt (V i : Nat)) (Int32.ofInt (n : Nat)) (zB u)) (Int32.ofInt ((i + 1 : Nat) : Int)) I J := fun z u hu => by
      have hvs : nS n V i (V i) = true := by rw [← z]; exact g2
      have hvn : V i < n := by rw [← z]; exact g1
      rw [gB_t z] at kq
      rw [bs_one v1, bs_not, nx_c hvn n2, hu]
      exact isBy_c n2 hl a1 a2 b1 b2 hc h29 hV f (i + 1) (by omega) (nS_ct hvs hct) (fun _ => nx_lt _ hvn) kq
    have ec : Int32.ofInt ((i + 1 : Nat) : Int) - Int32.ofInt ((i + 1 : Nat) : Int) / Int32.ofInt (c : Nat) * Int32.ofInt (c : Nat) = Int32.ofInt (((i + 1) % c : Nat) : Int) ∨ c = 0 := by
      by_cases z : c = 0
      · exact Or.inr z
      · exact Or.inl (z_remN (by omega) (by omega) (by omega))
    have fin : gH n V a b c i = V i → ((Int32.ofInt (c : Nat) ≤ Int32.ofInt 0 → w_X3_isBy_15 SL xs d p s q Q (Int32.ofInt (n : Nat)) (Int32.ofInt (a : Nat)) (Int32.ofInt (b : Nat)) (Int32.ofInt (c : Nat)) (bs (nS n V i) &&& ((sx_X6_bit (Int32.ofInt (V i : Nat))) ^^^ (Int64.ofInt (-1)))) (zB (gU c i)) (sx_X6_next (Int32.ofInt (V i : Nat)) (Int32.ofInt (n : Nat)) (zB (gU c i))) (Int32.ofInt ((i + 1 : Nat) : Int)) I J) ∧ (¬ (Int32.ofInt (c : Nat) ≤ Int32.ofInt 0) → (¬ Int32.ofInt (c : Nat) = 0 ∧ (((Int32.ofInt ((i + 1 : Nat) : Int) - Int32.ofInt ((i + 1 : Nat) : Int) / Int32.ofInt (c : Nat) * Int32.ofInt (c : Nat)) = Int32.ofInt 0 → ((zB (gU c i) = Int32.ofInt 0 → w_X3_isBy_15 SL xs d p s q Q (Int32.ofInt (n : Nat)) (Int32.ofInt (a : Nat)) (Int32.ofInt (b : Nat)) (Int32.ofInt (c : Nat)) (bs (nS n V i) &&& ((sx_X6_bit (Int32.ofInt (V i : Nat))) ^^^ (Int64.ofInt (-1)))) (Int32.ofInt 1) (sx_X6_next (Int32.ofInt (V i : Nat)) (Int32.ofInt (n : Nat)) (Int32.ofInt 1)) (Int32.ofInt ((i + 1 : Nat) : Int)) I J) ∧ (¬ (zB (gU c i) = Int32.ofInt 0) → w_X3_isBy_15 SL xs d p s q Q (Int32.ofInt (n : Nat)) (Int32.ofInt (a : Nat)) (Int32.ofInt (b : Nat)) (Int32.ofInt (c : Nat)) (bs (nS n V i) &&& ((sx_X6_bit (Int32.ofInt (V i : Nat))) ^^^ (Int64.ofInt (-1)))) (Int32.ofInt 0) (sx_X6_next (Int32.ofInt (V i : Nat)) (Int32.ofInt (n : Nat)) (Int32.ofInt 0)) (Int32.ofInt ((i + 1 : Nat) : Int)) I J))) ∧ (¬ ((Int32.ofInt ((i + 1 : Nat) : Int) - Int32.ofInt ((i + 1 : Nat) : Int) / Int32.ofInt (c : Nat) * Int32.ofInt (c : Nat)) = Int32.ofInt 0) → w_X3_isBy_15 SL xs d p s q Q (Int32.ofInt (n : Nat)) (Int32.ofInt (a : Nat)) (Int32.ofInt (b : Nat)) (Int32.ofInt (c : Nat)) (bs (nS n V i) &&& ((sx_X6_bit (Int32.ofInt (V i : Nat))) ^^^ (Int64.ofInt (-1)))) (zB (gU c i)) (sx_X6_next (Int32.ofInt (V i : Nat)) (Int32.ofInt (n : Nat)) (zB (gU c i))) (Int32.ofInt ((i + 1 : Nat) : Int)) I J))))) := fun z => by
      refine ⟨fun h => ?_, fun h => ⟨?_, ?_⟩⟩
      · rw [z_le (by omega)] at h
        have hc0 : c = 0 := by omega
        exact go z _ (by rw [hc0, gU_0])
      · rw [z_le (by omega)] at h
        rw [z_eq0 (by omega)]; omega
      · rw [z_le (by omega)] at h
        have hcm : (i + 1) % c < c := Nat.mod_lt _ (by omega)
        rw [ec.resolve_right (by omega), z_eq (by omega)]
        refine ⟨fun h2 => ⟨fun h3 => ?_, fun h3 => ?_⟩, fun h2 => ?_⟩
        · rw [zB_0] at h3
          exact go z true (by rw [gU_t (by omega) (by omega), h3]; rfl)
        · rw [zB_0] at h3
          exact go z false (by rw [gU_t (by omega) (by omega), show gU c i = true by simpa using h3]; rfl)
        · exact go z _ (by rw [gU_f (by omega) (by omega)])
    refine sg_X3_isBy_15 ⟨fun h => ?_, fun _ => ⟨fun h => ?_, fun _ => ?_⟩⟩
    · rw [h29, z_le (by omega)] at h; omega
    · rw [z_le (by omega)] at h; omega
    · rw [e2, z_eq (by omega)]
      have hgh : ∀ w, gN a b i = w → pk (nS n V i) n (gU c i) (gF n V c i) w = gH n V a b c i := fun w hw => by unfold gH; rw [hw]
      refine ⟨fun h => ?_, fun h => ?_⟩
      · have ew : gN a b i = a := by unfold gN; rw [if_pos (by omega)]
        refine c_counted n2 (nS_lt i) (by omega) hF (by omega) (by omega) ⟨_, _, _, rfl, rfl, z_inN (by omega) (by omega), ?_⟩
        rw [hgh a ew, z_ixN (by omega), v2, z_p1]
        refine ⟨fun z => ?_, fun z => k0 (fun z2 => z (by rw [z2]))⟩
        have z : gH n V a b c i = V i := by rw [z_eq (by have : gH n V a b c i < n := g1; omega)] at z; omega
        rw [z]; exact fin z
      · have ew : gN a b i = b := by unfold gN; rw [if_neg (by omega)]
        refine c_counted n2 (nS_lt i) (by omega) hF (by omega) (by omega) ⟨_, _, _, rfl, rfl, z_inN (by omega) (by omega), ?_⟩
        rw [hgh b ew, z_ixN (by omega), v2, z_p1]
        refine ⟨fun z => ?_, fun z => k0 (fun z2 => z (by rw [z2]))⟩
        have z : gH n V a b c i = V i := by rw [z_eq (by have : gH n V a b c i < n := g1; omega)] at z; omega
        rw [z]; exact fin z
theorem gw_m {n t : Nat} {S : Nat → Bool} {up : Bool} {v2 v3 v4 v5 v7 v8 : Int32} {I : Nat → Nat → Int32} (hn : n ≤ 60) (hS : S t = true) (ht : t < n) (h98 : ∀ i, i < n → I 98 i = zB (S i)) (hx : w_X11_goesSo_97 SL xs d p s q Q (Int32.ofInt (n : Nat)) v2 v3 v4 v5 (Int32.ofInt ((if up then 1 else n - 1 : Nat) : Int)) v7 v8 (Int32.ofInt 0) (Int32.ofInt (t : Nat)) I J) : ∀ (D r rest : Nat), dst n up r t = D → r < n → 1 ≤ rest → rest ≤ fb_ct S n → fb_ct S t = rk S n up r rest → w_X11_goesSo_84 SL xs d p s q Q (Int32.ofInt (n : Nat)) v2 v3 v4 v5 (Int32.ofInt ((if up then 1 else n - 1 : Nat) : Int)) v7 v8 (Int32.ofInt (rest : Nat)) (Int32.ofInt (r : Nat)) I J
  | 0, r, rest, hD, hr, h1, h2, e => by
    obtain rfl := (dst_0 hr ht).mp hD
    obtain rfl := wk_stop hS ht h1 h2 e
    refine sg_X11_goesSo_84 ⟨z_inN (by omega) (by omega), ?_⟩
    rw [z_ixN (by omega), h98 r (by omega), zB_0, hS]
    exact ⟨fun h => absurd h (by decide), fun _ => hx⟩
  | D + 1, r, rest, hD, hr, h1, h2, e => by
    have ne : r ≠ t := fun z => by rw [(dst_0 hr ht).mpr z] at hD; omega
    have hcl : fb_ct S n ≤ n := fb_ct_le S n
    obtain ⟨o1, o2, o3⟩ := wk_on hS ht hr h1 h2 e ne
    have hst : (if up then 1 else n - 1 : Nat) ≤ 60 := by split <;> omega
    have next : ∀ r2, r2 = (if S r then rest - 1 else rest) → 1 ≤ r2 → r2 ≤ fb_ct S n → w_X11_goesSo_97 SL xs d p s q Q (Int32.ofInt (n : Nat)) v2 v3 v4 v5 (Int32.ofInt ((if up then 1 else n - 1 : Nat) : Int)) v7 v8 (Int32.ofInt (r2 : Nat)) (Int32.ofInt (r : Nat)) I J := by
      intro r2 e2 g1 g2
      refine sg_X11_goesSo_97 ⟨fun z => ?_, fun _ => ⟨?_, ?_⟩⟩
      · rw [z_eq (by omega)] at z; omega
      · rw [z_eq0 (by omega)]; omega
      · have ea : Int32.ofInt (r : Nat) + Int32.ofInt ((if up then 1 else n - 1 : Nat) : Int) = Int32.ofInt ((r + (if up then 1 else n - 1) : Nat) : Int) := by rw [z_add]; rfl
        rw [ea, z_remN (by omega) (by omega) (by omega), nx_mod up hr]
        exact gw_m hn hS ht h98 hx D _ r2 (by omega) (nx_lt up hr) g1 g2 (by rw [e2]; exact o2)
    refine sg_X11_goesSo_84 ⟨z_inN (by omega) (by omega), ?_⟩
    rw [z_ixN (by omega), h98 r (by omega), zB_0]
    refine ⟨fun h => next rest (by rw [h]; rfl) h1 h2, fun h => ?_⟩
    have hs : S r = true := by simpa using h
    have := o1 hs
    have em : Int32.ofInt (rest : Nat) + Int32.ofInt (-1) = Int32.ofInt ((rest - 1 : Nat) : Int) := by rw [z_add]; congr 1; omega
    rw [em]
    exact next (rest - 1) (by rw [hs]; rfl) (by omega) (by omega)
end
