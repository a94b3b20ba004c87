/-! guessed rules, the reference and the search -/
def v7P (n : Nat) (V : Nat → Nat) (i : Nat) (v7 : Int32) : Prop := (v7 = Int32.ofInt (-1) ∧ i = 0) ∨ ∃ j, i = j + 1 ∧ v7 = Int32.ofInt (V j : Nat) ∧ V j < n
section
variable {SL : Nat} {xs : Nat → Int32} {d : Nat} {p s q : Nat} {Q : Option Value → mm_H → Prop} {J : Nat → Nat → Int64}
theorem stp_le {u : Bool} {n : Nat} (h1 : 1 ≤ n) (h : n ≤ 60) : (if u then 1 else n - 1 : Nat) ≤ 60 := by cases u <;> simp <;> omega
theorem goes_m {n l a b c : Nat} {V : Nat → Nat} (n1 : 1 ≤ n) (n2 : n ≤ 60) (hl : l ≤ n) (a1 : 1 ≤ a) (a2 : a ≤ 12) (b1 : 1 ≤ b) (b2 : b ≤ 12) (hc : c ≤ 6) : ∀ (f i : Nat) (v7 : Int32) (I : Nat → Nat → Int32), i + f = l → I 65 80 = Int32.ofInt (l : Nat) → (∀ i, i < l → V i < 60 ∧ I 97 i = Int32.ofInt (V i : Nat)) → (∀ x, x < n → I 98 x = zB (nS n V i x)) → fb_ct (nS n V i) n = n - i → v7P n V i v7 → (∀ I2 : Nat → Nat → Int32, (∀ r, r ≠ 98 → I2 r = I r) → Q (some (.int (zB (gB2 n V a b c f i)))) (hp p s q I2 J)) → w_X11_goesSo_35 SL xs d p s q Q (Int32.ofInt (n : Nat)) (Int32.ofInt (a : Nat)) (Int32.ofInt (b : Nat)) (Int32.ofInt (c : Nat)) (Int32.ofInt ((n - i : Nat) : Int)) (Int32.ofInt ((if gU c i then 1 else n - 1 : Nat) : Int)) v7 (Int32.ofInt ((i + 1 : Nat) : Int)) I J
  | 0, i, v7, I, hf, h80, hV, h98, hct, h7, kq => by
    obtain rfl : i = l := by omega
    refine sg_X11_goesSo_35 ⟨fun _ => kq I (fun _ _ => rfl), fun h => ?_⟩
    rw [h80, z_lt (by omega)] at h; omega
  | f + 1, i, v7, I, hf, h80, hV, h98, hct, h7, kq => by
    obtain ⟨v1, v2⟩ := hV i (by omega)
    have hF : gF n V c i < n := by
      rcases h7 with ⟨_, z⟩ | ⟨j, z, _, z2⟩
      · rw [z]; exact n1
      · rw [z]; exact nx_lt _ z2
    have hg := gN_le (i := i) a1 a2 b1 b2
    obtain ⟨g1, g2⟩ := pk_ok (S := nS n V i) (n := n) (gU c i) (gF n V c i) (gN a b i) (by omega)
    have g3 := pk_rk (S := nS n V i) (n := n) (gU c i) (gF n V c i) (gN a b i) (by omega)
    have hml : (gN a b i - 1) % fb_ct (nS n V i) n < fb_ct (nS n V i) n := Nat.mod_lt _ (by omega)
    have e2 : Int32.ofInt ((i + 1 : Nat) : Int) - Int32.ofInt ((i + 1 : Nat) : Int) / Int32.ofInt 2 * Int32.ofInt 2 = Int32.ofInt (((i + 1) % 2 : Nat) : Int) := z_remN (b := 2) (by omega) (by omega) (by omega)
    have ei : Int32.ofInt ((i + 1 : Nat) : Int) - Int32.ofInt 1 = Int32.ofInt (i : Nat) := by rw [z_sub]; congr 1; omega
    have eh : gH n V a b c i < n := g1
    have go : gH n V a b c i = V i → ∀ w : Int32, w = Int32.ofInt ((if gU c (i + 1) then 1 else n - 1 : Nat) : Int) → w_X11_goesSo_176 SL xs d p s q Q (Int32.ofInt (n : Nat)) (Int32.ofInt (a : Nat)) (Int32.ofInt (b : Nat)) (Int32.ofInt (c : Nat)) (Int32.ofInt ((n - i : Nat) : Int) + Int32.ofInt (-1)) w (Int32.ofInt (V i : Nat)) (Int32.ofInt ((i + 1 : Nat) : Int)) (Int32.ofInt 0) (Int32.ofInt (V i : Nat)) (mm_u I 98 (V i) (Int32.ofInt 0)) J := fun z w hw => by
      have hvs : nS n V i (V i) = true := by rw [← z]; exact g2
      have hvn : V i < n := by rw [← z]; exact g1
      rw [gB_t z] at kq
      refine sg_X11_goesSo_176 ?_
      rw [hw, z_p1, show Int32.ofInt ((n - i : Nat) : Int) + Int32.ofInt (-1) = Int32.ofInt ((n - (i + 1) : Nat) : Int) by rw [z_add]; congr 1; omega]
      refine goes_m n1 n2 hl a1 a2 b1 b2 hc f (i + 1) _ _ (by omega) (by rw [mu_row (by omega)]; exact h80) (fun j hj => by rw [mu_row (by omega)]; exact hV j hj) (fun x hx => ?_) (nS_ct hvs hct) (Or.inr ⟨i, rfl, rfl, hvn⟩) (fun I2 g => kq I2 (fun r hr => by rw [g r hr, mu_row hr]))
      rw [mu_if]
      by_cases e : x = V i
      · rw [if_pos e, show nS n V (i + 1) x = (nS n V i x && !decide (x = V i)) from rfl, decide_eq_true e, Bool.not_true, Bool.and_false]; rfl
      · rw [if_neg e, show nS n V (i + 1) x = (nS n V i x && !decide (x = V i)) from rfl, decide_eq_false e, Bool.not_false, Bool.and_true]; exact h98 x hx
    have fin : w_X11_goesSo_97 SL xs d p s q Q (Int32.ofInt (n : Nat)) (Int32.ofInt (a : Nat)) (Int32.ofInt (b : Nat)) (Int32.ofInt (c : Nat)) (Int32.ofInt ((n - i : Nat) : Int)) (Int32.ofInt ((if gU c i then 1 else n - 1 : Nat) : Int)) v7 (Int32.ofInt ((i + 1 : Nat) : Int)) (Int32.ofInt 0) (Int32.ofInt (gH n V a b c i : Nat)) I J := by
      refine sg_X11_goesSo_97 ⟨fun _ => ?_, fun h => absurd rfl h⟩
      rw [ei, z_ixN (t := i) (by omega), v2, z_ixN (by omega)]
      refine ⟨z_inN (by omega) (by omega), fun z => ⟨z_inN (by omega) (by omega), ?_⟩, fun z => ?_⟩
      · have z : gH n V a b c i = V i := by rw [z_eq (by omega)] at z; omega
        rw [z]
        refine ⟨fun h => ?_, fun h => ⟨?_, ?_⟩⟩
        · rw [z_le (by omega)] at h
          have hc0 : c = 0 := by omega
          exact go z _ (by rw [hc0, gU_0])
        · rw [z_le (by omega)] at h
          rw [z_eq0 (by omega)]; omega
        · rw [z_le (by omega)] at h
          have hcm : (i + 1) % c < c := Nat.mod_lt _ (by omega)
          rw [z_remN (by omega) (by omega) (by omega), z_eq (by omega)]
          refine ⟨fun h2 => ⟨fun h3 => ?_, fun h3 => ?_⟩, fun h2 => ?_⟩
          · refine go z _ ?_
            rw [gU_t (by omega) (by omega)]
            cases hu : gU c i
            · rw [hu] at h3
              have h4 : Int32.ofInt ((n - 1 : Nat) : Int) = Int32.ofInt 1 := h3
              rw [z_eq (by omega)] at h4
              show Int32.ofInt (n : Nat) - Int32.ofInt 1 = Int32.ofInt ((1 : Nat) : Int)
              rw [z_sub]; congr 1; omega
            · exact z_m1 n1
          · refine go z _ ?_
            rw [gU_t (by omega) (by omega)]
            cases hu : gU c i
            · rfl
            · rw [hu] at h3; exact absurd rfl h3
          · exact go z _ (by rw [gU_f (by omega) (by omega)])
      · have z : ¬ gH n V a b c i = V i := fun z2 => z (by rw [z2])
        have kq := kq I (fun _ _ => rfl)
        rw [gB_f z] at kq; exact kq
    have walk : w_X11_goesSo_66 SL xs d p s q Q (Int32.ofInt (n : Nat)) (Int32.ofInt (a : Nat)) (Int32.ofInt (b : Nat)) (Int32.ofInt (c : Nat)) (Int32.ofInt ((n - i : Nat) : Int)) (Int32.ofInt ((if gU c i then 1 else n - 1 : Nat) : Int)) v7 (Int32.ofInt ((i + 1 : Nat) : Int)) (Int32.ofInt (((gN a b i - 1) % (n - i) + 1 : Nat) : Int)) I J := by
      have w84 := gw_m (S := nS n V i) (up := gU c i) n2 g2 g1 h98 fin _ _ _ rfl hF (show 1 ≤ (gN a b i - 1) % fb_ct (nS n V i) n + 1 by omega) (by omega) g3
      rw [hct] at w84
      rcases h7 with ⟨z1, z2⟩ | ⟨j, z1, z2, z3⟩
      · subst z2
        refine sg_X11_goesSo_66 ⟨fun h => ?_, fun _ => w84⟩
        rw [z1, z_le (by omega)] at h; omega
      · subst z1
        refine sg_X11_goesSo_66 ⟨fun _ => ⟨?_, ?_⟩, fun h => ?_⟩
        · rw [z_eq0 (by omega)]; omega
        · rw [z2] at w84 ⊢
          have ea : Int32.ofInt (V j : Nat) + Int32.ofInt ((if gU c (j + 1) then 1 else n - 1 : Nat) : Int) = Int32.ofInt ((V j + (if gU c (j + 1) then 1 else n - 1) : Nat) : Int) := by rw [z_add]; rfl
          rw [ea, z_remN (Nat.lt_of_le_of_lt (Nat.add_le_add_left (stp_le n1 n2) _) (by omega)) (by omega) (by omega), nx_mod _ z3]
          exact w84
        · refine absurd ?_ h
          rw [z2, z_le (by omega)]; omega
    refine sg_X11_goesSo_35 ⟨fun h => ?_, fun _ => ?_⟩
    · rw [h80, z_lt (by omega)] at h; omega
    · rw [e2, z_eq (by omega)]
      refine ⟨fun h => ⟨by rw [z_eq0 (by omega)]; omega, ?_⟩, fun h => ⟨by rw [z_eq0 (by omega)]; omega, ?_⟩⟩
      · rw [show gN a b i = a by unfold gN; rw [if_pos (by omega)]] at walk
        rw [z_m1 a1, z_remN (by omega) (by omega) (by omega), z_p1]; exact walk
      · rw [show gN a b i = b by unfold gN; rw [if_neg (by omega)]] at walk
        rw [z_m1 b1, z_remN (by omega) (by omega) (by omega), z_p1]; exact walk
theorem goes_f {n l a b c : Nat} {V : Nat → Nat} (n1 : 1 ≤ n) (n2 : n ≤ 60) (hl : l ≤ n) (a1 : 1 ≤ a) (a2 : a ≤ 12) (b1 : 1 ≤ b) (b2 : b ≤ 12) (hc : c ≤ 6) : ∀ (f j : Nat) (I : Nat → Nat → Int32), j + f = n → I 65 80 = Int32.ofInt (l : Nat) → (∀ i, i < l → V i < 60 ∧ I 97 i = Int32.ofInt (V i : Nat)) → (∀ x, x < j → I 98 x = Int32.ofInt 1) → (∀ I2 : Nat → Nat → Int32, (∀ r, r ≠ 98 → I2 r = I r) → Q (some (.int (zB (gB2 n V a b c l 0)))) (hp p s q I2 J)) → w_X11_goesSo_3 SL xs d p s q Q (Int32.ofInt (n : Nat)) (Int32.ofInt (a : Nat)) (Int32.ofInt (b : Nat)) (Int32.ofInt (c : Nat)) (Int32.ofInt (j : Nat)) I J
  | 0, j, I, hf, h80, hV, hj, kq => by
    obtain rfl : j = n := by omega
    refine sg_X11_goesSo_3 ⟨fun _ => ?_, fun h => absurd (by rw [z_le (by omega)]; omega) h⟩
    exact goes_m n1 n2 hl a1 a2 b1 b2 hc l 0 _ I (Nat.zero_add l) h80 hV (fun x hx => by rw [hj x hx, show nS j V 0 x = true from decide_eq_true hx]; rfl) nS_0 (Or.inl ⟨rfl, rfl⟩) kq
  | f + 1, j, I, hf, h80, hV, hj, kq => by
    refine sg_X11_goesSo_3 ⟨fun h => ?_, fun _ => ⟨z_inN (by omega) (by omega), ?_⟩⟩
    · rw [z_le (by omega)] at h; omega
    · rw [z_ixN (by omega), z_p1]
      refine goes_f n1 n2 hl a1 a2 b1 b2 hc f (j + 1) _ (by omega) (by rw [mu_row (by omega)]; exact h80) (fun i hi => by rw [mu_row (by omega)]; exact hV i hi) (fun x hx => ?_) (fun I2 g => kq I2 (fun r hr => by rw [g r hr, mu_row hr]))
      rw [mu_if]
      by_cases e : x = j
      · rw [if_pos e]
      · rw [if_neg e]; exact hj x (by omega)
end
abbrev gT := Nat × Option (Nat × Nat)
def gO (o : Option (Nat × Nat)) : Int := match o with | none => -1 | some w => (w.2 : Nat)
def gM (o : Option (Nat × Nat)) : Int := match o with | none => 2147483647 | some w => (w.1 : Nat)
def gA (o : Option (Nat × Nat)) (a b c : Nat) : Option (Nat × Nat) := if ((a + b + c : Nat) : Int) < gM o then some (a + b + c, 10000 * a + 100 * b + c) else o
def gWf (o : Option (Nat × Nat)) : Prop := ∀ w, o = some w → w.1 ≤ 30 ∧ w.2 ≤ 200000
def gL3 (G : Nat → Nat → Nat → Bool) (a b : Nat) : Nat → Nat → gT → gT
  | 0, _, t => t
  | f + 1, c, t => gL3 G a b f (c + 1) (if G a b c = true then (t.1 + 1, gA t.2 a b c) else t)
def gL2 (G : Nat → Nat → Nat → Bool) (a : Nat) : Nat → Nat → gT → gT
  | 0, _, t => t
  | f + 1, b, t => gL2 G a f (b + 1) (gL3 G a b 7 0 t)
def gL1 (G : Nat → Nat → Nat → Bool) : Nat → Nat → gT → gT
  | 0, _, t => t
  | f + 1, a, t => gL1 G f (a + 1) (gL2 G a 12 1 t)
theorem gA_w {o : Option (Nat × Nat)} {a b c : Nat} (ha : a ≤ 12) (hb : b ≤ 12) (hc : c ≤ 6) (h : gWf o) : gWf (gA o a b c) := by
  unfold gA
  split
  · intro w hw; injection hw with hw; subst hw; exact ⟨by show a + b + c ≤ 30; omega, by show 10000 * a + 100 * b + c ≤ 200000; omega⟩
  · exact h
theorem gM_b {o : Option (Nat × Nat)} (h : gWf o) : 0 ≤ gM o ∧ gM o ≤ 2147483647 ∧ -1 ≤ gO o ∧ gO o ≤ 200000 := by
  cases o with
  | none => exact ⟨by decide, by decide, by decide, by decide⟩
  | some w => have := h w rfl; show 0 ≤ ((w.1 : Nat) : Int) ∧ ((w.1 : Nat) : Int) ≤ 2147483647 ∧ -1 ≤ ((w.2 : Nat) : Int) ∧ ((w.2 : Nat) : Int) ≤ 200000; omega
