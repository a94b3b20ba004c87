/-! going on -/
abbrev trT : Type := crT × (Nat → Int) × (Nat × (Nat → Nat))
def gt_ (P : plT) (x : trT) (k : Nat) : trT := (gs P x.1 k, gW P x.1 k x.2.1, gL P x.1 k x.2.2)
def run (P : plT) (K : crT → Nat) (e : Nat) : Nat → trT → trT
  | 0, x => x
  | f + 1, x => if sta P x.1 ≤ e then x else run P K e f (gt_ P x (K x.1))
def tw (P : plT) (x : trT) (M : Nat) : Prop := cw P x.1 M ∧ x.2.2.1 + sta P x.1 ≤ 60
def kw (K : crT → Nat) : Prop := ∀ c, 1 ≤ K c ∧ K c ≤ 1000
theorem gt_tw {P : plT} {x : trT} {M k : Nat} (hP : pw P) (hx : tw P x M) (hs : 0 < sta P x.1) (hk : k ≤ 1000) : tw P (gt_ P x k) M := by
  refine ⟨gs_cw hP hx.1 hs hk, ?_⟩
  have h2 := hx.2
  show (gL P x.1 k x.2.2).1 + sta P (gs P x.1 k) ≤ 60
  rw [gs_sta hs]
  unfold gL
  cases hg : gw P x.1 k with
  | true =>
    by_cases q : x.2.2.1 < 60
    · rw [if_pos ⟨rfl, q⟩]; show x.2.2.1 + 1 + (sta P x.1 - 1) ≤ 60; omega
    · rw [if_neg (fun z => q z.2)]; show x.2.2.1 + (sta P x.1 - 1) ≤ 60; omega
  | false => rw [if_neg (by simp)]; exact h2
theorem run_end {P : plT} {K : crT → Nat} {x : trT} {e : Nat} (h : sta P x.1 ≤ e) : ∀ f, run P K e f x = x
  | 0 => rfl
  | f + 1 => by rw [run, if_pos h]
theorem run_go {P : plT} {K : crT → Nat} {x : trT} {e f : Nat} (h : ¬ sta P x.1 ≤ e) : run P K e (f + 1) x = run P K e f (gt_ P x (K x.1)) := by rw [run, if_neg h]
/-- fuel enough -/
theorem run_more {P : plT} {K : crT → Nat} {e M : Nat} (hP : pw P) (hK : kw K) : ∀ (f g : Nat) (x : trT), tw P x M → rem_ P x.1 ≤ f → rem_ P x.1 ≤ g → run P K e f x = run P K e g x
  | 0, g, x, hc, h1, h2 => by
    have := sta_rem hc.1
    rw [run_end (by omega), run_end (by omega)]
  | f + 1, 0, x, hc, h1, h2 => by
    have := sta_rem hc.1
    rw [run_end (by omega), run_end (by omega)]
  | f + 1, g + 1, x, hc, h1, h2 => by
    by_cases q : sta P x.1 ≤ e
    · rw [run_end q, run_end q]
    · rw [run_go q, run_go q]
      have hr := gs_rem (k := K x.1) hP hc.1 (by omega)
      have hk := hK x.1
      have hr2 : rem_ P (gt_ P x (K x.1)).1 + 1 = rem_ P x.1 := hr
      exact run_more hP hK f g _ (gt_tw hP hc (by omega) (by omega)) (by omega) (by omega)
theorem run_tw {P : plT} {K : crT → Nat} {e M : Nat} (hP : pw P) (hK : kw K) : ∀ (f : Nat) (x : trT), tw P x M → tw P (run P K e f x) M
  | 0, x, hc => hc
  | f + 1, x, hc => by
    by_cases q : sta P x.1 ≤ e
    · rw [run_end q]; exact hc
    · rw [run_go q]
      have hk := hK x.1
      exact run_tw hP hK f _ (gt_tw hP hc (by omega) (by omega))
theorem run_ended {P : plT} {K : crT → Nat} {e M : Nat} (hP : pw P) (hK : kw K) : ∀ (f : Nat) (x : trT), tw P x M → rem_ P x.1 ≤ f → sta P (run P K e f x).1 ≤ e
  | 0, x, hc, h => by have := sta_rem hc.1; rw [run]; omega
  | f + 1, x, hc, h => by
    by_cases q : sta P x.1 ≤ e
    · rw [run_end q]; exact q
    · rw [run_go q]
      have hr : rem_ P (gt_ P x (K x.1)).1 + 1 = rem_ P x.1 := gs_rem (k := K x.1) hP hc.1 (by omega)
      have hk := hK x.1
      exact run_ended hP hK f _ (gt_tw hP hc (by omega) (by omega)) (by omega)
theorem run_core {P : plT} {K : crT → Nat} {e : Nat} : ∀ (f : Nat) (x y : trT), x.1 = y.1 → (run P K e f x).1 = (run P K e f y).1
  | 0, x, y, h => h
  | f + 1, x, y, h => by
    by_cases q : sta P x.1 ≤ e
    · rw [run_end q, run_end (by rw [← h]; exact q)]; exact h
    · rw [run_go q, run_go (by rw [← h]; exact q)]
      exact run_core f _ _ (by show gs P x.1 (K x.1) = gs P y.1 (K y.1); rw [h])
theorem run_g {P : plT} {K : crT → Nat} {e : Nat} : ∀ (f : Nat) (x : trT), c_g x.1 ≤ c_g (run P K e f x).1 ∧ c_g (run P K e f x).1 ≤ c_g x.1 + f
  | 0, x => ⟨Nat.le_refl _, Nat.le_refl _⟩
  | f + 1, x => by
    by_cases q : sta P x.1 ≤ e
    · rw [run_end q]; omega
    · rw [run_go q]
      have := run_g (P := P) (K := K) (e := e) f (gt_ P x (K x.1))
      have h2 : c_g (gt_ P x (K x.1)).1 = c_g x.1 + 1 := rfl
      omega
def nK (P : plT) : crT → Nat := fun c => ncn P c
theorem nK_w {P : plT} (hP : pw P) : kw (nK P) := fun c => by have := ncn_ok (c := c) hP; exact ⟨this.1, by show ncn P c ≤ 1000; omega⟩
def fre (P : plT) (b : Nat) : crT := ((fun i => decide (i < p_n P)), (fun _ => 0), 0, -1, -1, 0, b)
def fr3 (P : plT) (b : Nat) : trT := (fre P b, (fun _ => -1), 0, fun _ => 0)
theorem ct_lt_n {n : Nat} : ∀ m, m ≤ n → fb_ct (fun i => decide (i < n)) m = m
  | 0, _ => rfl
  | m + 1, h => by rw [ct_S1 (by simp; omega), ct_lt_n m (by omega)]
theorem fre_sta {P : plT} {b : Nat} : sta P (fre P b) = p_n P := ct_lt_n _ (Nat.le_refl _)
theorem fre_tw {P : plT} {b : Nat} (hP : pw P) (hb : b < p_n P) : tw P (fr3 P b) 660 := by
  have hn := hP.2.1
  have hn1 := hP.1
  refine ⟨⟨fun i hi => of_decide_eq_true hi, fun i hi => ?_, fun i hi => ?_, ?_, ?_, ?_, ?_, hb, ?_, ?_⟩, ?_⟩
  · have := nd_le hP i
    show 0 < nd P i; omega
  · show 0 ≤ 11; omega
  · show -1 ≤ (-1 : Int); omega
  · show (-1 : Int) < _; omega
  · show -1 ≤ (-1 : Int); omega
  · show (-1 : Int) < _; omega
  · show 0 ≤ 1000; omega
  · show 0 + fb_sm _ _ ≤ 660
    have := fb_sm_bound (f := rem_f P (fre P b)) (c := 11) (n := p_n P) (fun k hk => by
      unfold rem_f
      have := nd_le hP k
      split <;> omega)
    show 0 + fb_sm (rem_f P (fre P b)) (p_n P) ≤ 660
    omega
  · show 0 + sta P (fre P b) ≤ 60
    rw [fre_sta]; omega
def FrG (o a : Nat) (I I2 : Nat → Nat → Int32) (J J2 : Nat → Nat → Int64) : Prop := (∀ x, x < o ∨ o + 3 < x → x ≠ a + 6 → I2 x = I x) ∧ ∀ x, x ≠ o → J2 x = J x
theorem FrG_r (o a : Nat) (I : Nat → Nat → Int32) (J : Nat → Nat → Int64) : FrG o a I I J J := ⟨fun _ _ _ => rfl, fun _ _ => rfl⟩
theorem FrG_t {o a : Nat} {I I2 I3 : Nat → Nat → Int32} {J J2 J3 : Nat → Nat → Int64} (h : FrG o a I I2 J J2) (h2 : FrG o a I2 I3 J2 J3) : FrG o a I I3 J J3 := ⟨fun x b c => by rw [h2.1 x b c, h.1 x b c], fun x b => by rw [h2.2 x b, h.2 x b]⟩
theorem FrG_c {o a : Nat} {I I2 : Nat → Nat → Int32} {J J2 : Nat → Nat → Int64} (h : FrC o I I2 J J2) : FrG o a I I2 J J2 := ⟨fun x b _ => h.1 x b, h.2⟩
theorem FrG_n {o a : Nat} {I I2 : Nat → Nat → Int32} {J : Nat → Nat → Int64} (h : ∀ r, r ≠ a + 6 → I2 r = I r) : FrG o a I I2 J J := ⟨fun x _ b => h x b, fun _ _ => rfl⟩
def TR (o : Nat) (x : trT) (I : Nat → Nat → Int32) (J : Nat → Nat → Int64) : Prop := CR o x.1 I J ∧ CW o x.2.1 I ∧ CL o x.2.2 I
def MT (P : plT) (x : trT) (I : Nat → Nat → Int32) : Prop := MR P x.1 I ∧ MW x.2.1 I ∧ ML x.2.2 I
def PA (a : Nat) (P : plT) (I : Nat → Nat → Int32) (J : Nat → Nat → Int64) : Prop := PR a P I J ∧ CNT a P I
theorem PA_c {a : Nat} {P : plT} {I I2 : Nat → Nat → Int32} {J J2 : Nat → Nat → Int64} (h1 : I2 a = I a) (h2 : I2 (a + 5) = I (a + 5)) (h3 : J2 a = J a) (h : PA a P I J) : PA a P I2 J2 := by
  unfold PA PR CNT at h ⊢
  rw [h1, h2, h3]; exact h
theorem PA_g {o a : Nat} {P : plT} {I I2 : Nat → Nat → Int32} {J J2 : Nat → Nat → Int64} (ho : isC o) (ha : isP a) (f : FrG o a I I2 J J2) (h : PA a P I J) : PA a P I2 J2 := by
  have := ne_ac ha ho
  exact PA_c (f.1 a (by omega) (by omega)) (f.1 (a + 5) (by omega) (by omega)) (f.2 a (by omega)) h
theorem TR_c {o : Nat} {x : trT} {I I2 : Nat → Nat → Int32} {J J2 : Nat → Nat → Int64} (h : ∀ r, o ≤ r → r ≤ o + 3 → I2 r = I r) (hj : J2 o = J o) (t : TR o x I J) : TR o x I2 J2 := by
  unfold TR CR CW CL at t ⊢
  rw [h o (by omega) (by omega), h (o + 1) (by omega) (by omega), h (o + 2) (by omega) (by omega), h (o + 3) (by omega) (by omega), hj]; exact t
section
variable {SL : Nat} {xs : Nat → Int32} {d : Nat} {p s q : Nat} {Q : Option Value → mm_H → Prop}
theorem sta_c {o : Nat} {P : plT} {c : crT} {M : Nat} {I : Nat → Nat → Int32} {J : Nat → Nat → Int64} (hP : pw P) (hc : cw P c M) (h : CR o c I J) : sy_X1_standing o I J = Int32.ofInt (sta P c : Nat) := by
  unfold sy_X1_standing sta
  rw [h.1, bs_count, ct_sup2 hc.1 hP.2.1]
/-- one going of the class -/
theorem c_step {o a M : Nat} {P : plT} {x : trT} {I : Nat → Nat → Int32} {J : Nat → Nat → Int64} (ho : isC o) (ha : isP a) (hP : pw P) (hx : tw P x M) (hM : M ≤ 900) (hs : 0 < sta P x.1) (hpa : PA a P I J) (ht : TR o x I J) (kq : ∀ I2 J2, FrG o a I I2 J J2 → TR o (gt_ P x (ncn P x.1)) I2 J2 → Q none (hp p s q I2 J2)) : mm_s SL xs (d + 5) 20 [.ref o, .ref a] (hp p s q I J) (fun r_ h_ => ∃ x1 I1 J1, r_ = some (.int x1) ∧ h_ = hp p s q I1 J1 ∧ (mm_s SL xs (d + 5) 21 [.ref o, .ref a, .int x1] (hp p s q I1 J1) Q)) := by
  have hk := ncn_ok (c := x.1) hP
  have hao := ne_ac ha ho
  refine c_nextCount ho ha hP hx.1 hpa.2 ht.1 (fun I1 h1 => ⟨_, _, _, rfl, rfl, ?_⟩)
  have f1 : FrG o a I I1 J J := FrG_n h1
  obtain ⟨t1, t2, t3⟩ := TR_c (J2 := J) (fun r a b => h1 r (by omega)) rfl ht
  exact c_goOnce ho ha hP hx.1 hs hM hk.1 (by omega) (PA_g ho ha f1 hpa).1 t1 t2 t3 (fun I2 J2 g1 g2 g3 g4 => kq I2 J2 (FrG_t f1 (FrG_c g1)) ⟨g2, g3, g4⟩)
theorem goOn_loop {o a e M most : Nat} {P : plT} (ho : isC o) (ha : isP a) (hP : pw P) (hM : M ≤ 900) (he : e ≤ 100) (hm : most ≤ 1000) : ∀ (f made : Nat) (x : trT) (I : Nat → Nat → Int32) (J : Nat → Nat → Int64), made + f = most → tw P x M → PA a P I J → TR o x I J → (∀ I2 J2, FrG o a I I2 J J2 → TR o (run P (nK P) e f x) I2 J2 → Q (some (.int (Int32.ofInt ((made + (c_g (run P (nK P) e f x).1 - c_g x.1) : Nat) : Int)))) (hp p s q I2 J2)) → w_X1_goOn_3 SL xs d p s q Q o a (Int32.ofInt (e : Nat)) (Int32.ofInt (most : Nat)) (Int32.ofInt (made : Nat)) I J
  | 0, made, x, I, J, hf, hx, hpa, ht, kq => by
    refine sg_X1_goOn_3 ho ⟨fun _ => ?_, fun h => ?_⟩
    · have := kq I J (FrG_r o a I J) ht
      rw [run, Nat.sub_self] at this
      exact this
    · rw [z_le (by omega)] at h; omega
  | f + 1, made, x, I, J, hf, hx, hpa, ht, kq => by
    have hsn : sta P x.1 ≤ p_n P := fb_ct_le _ _
    have hn := hP.2.1
    refine sg_X1_goOn_3 ho ?_
    rw [sta_c hP hx.1 ht.1, z_le (by omega), z_le (by omega)]
    refine ⟨fun h => by omega, fun _ => ⟨fun h => ?_, fun h => ?_⟩⟩
    · have := kq I J (FrG_r o a I J)
      rw [run_end (by omega), Nat.sub_self] at this
      exact this ht
    · refine c_step ho ha hP hx hM (by omega) hpa ht (fun I2 J2 g1 g2 => ⟨_, _, rfl, rfl, ?_⟩)
      have hk := ncn_ok (c := x.1) hP
      rw [z_p1]
      refine goOn_loop ho ha hP hM he hm f (made + 1) _ I2 J2 (by omega) (gt_tw hP hx (by omega) (by omega)) (PA_g ho ha g1 hpa) g2 (fun I3 J3 g3 g4 => ?_)
      have := kq I3 J3 (FrG_t g1 g3)
      rw [run_go (by omega)] at this
      have hg := run_g (P := P) (K := nK P) (e := e) f (gt_ P x (nK P x.1))
      have h2 : c_g (gt_ P x (nK P x.1)).1 = c_g x.1 + 1 := rfl
      have e3 : made + 1 + (c_g (run P (nK P) e f (gt_ P x (nK P x.1))).1 - c_g (gt_ P x (nK P x.1)).1) = made + (c_g (run P (nK P) e f (gt_ P x (nK P x.1))).1 - c_g x.1) := by omega
      show Q (some (.int (Int32.ofInt ((made + 1 + (c_g (run P (nK P) e f (gt_ P x (nK P x.1))).1 - c_g (gt_ P x (nK P x.1)).1) : Nat) : Int)))) _
      rw [e3]
      exact this g4
theorem c_goOn {o a e M most : Nat} {P : plT} {x : trT} {I : Nat → Nat → Int32} {J : Nat → Nat → Int64} (ho : isC o) (ha : isP a) (hP : pw P) (hM : M ≤ 900) (he : e ≤ 100) (hm : most ≤ 1000) (hx : tw P x M) (hpa : PA a P I J) (ht : TR o x I J) (kq : ∀ I2 J2, FrG o a I I2 J J2 → TR o (run P (nK P) e most x) I2 J2 → Q (some (.int (Int32.ofInt ((c_g (run P (nK P) e most x).1 - c_g x.1 : Nat) : Int)))) (hp p s q I2 J2)) : mm_s SL xs (d + 6) 19 [.ref o, .ref a, .int (Int32.ofInt (e : Nat)), .int (Int32.ofInt (most : Nat))] (hp p s q I J) Q := by
  refine sg_X1_goOn (goOn_loop ho ha hP hM he hm most 0 x I J (Nat.zero_add _) hx hpa ht (fun I2 J2 g1 g2 => ?_))
  rw [Nat.zero_add]
  exact kq I2 J2 g1 g2
end
