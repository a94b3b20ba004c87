/-! the count's text: the reference behind a unit -/
theorem sgf_f {K : Nat} (h : bop K ∨ brl K) : sgf K = wo (-(K : Int)) ∧ opn (-(K : Int)) ∧ (brl K ↔ xrk (-(K : Int)) = 23) ∧ (sgf K = 21 ↔ K = 143) ∧ (sgf K = 20 ↔ K = 142) := by
  unfold bop brl at h
  rcases h with (h | h | h | h | h | h) | (h | h | h) <;> subst h <;> refine ⟨by decide, by unfold opn; decide, by unfold brl; decide, by decide, by decide⟩
theorem hasO_app {W : List Int} : ∀ v : List Int, hasO (v ++ -40 :: W) = true
  | [] => by rw [List.nil_append, hasO, decide_eq_true rfl]; rfl
  | a :: v => by rw [List.cons_append, hasO, hasO_app v, Bool.or_true]
def nwx (K : Nat) : Nat := if K = 142 ∨ K = 143 then 0 else 1
section
variable {SL : Nat} {xs : Nat → Int32} {d : Nat} {p s q : Nat} {Q : Option Value → mm_H → Prop} {I : Nat → Nat → Int32} {J : Nat → Nat → Int64} {l j u : Nat} {T : Nat → Nat} {N W v : List Int}
theorem s_106 (h : ME l T j u N W I J) (hb : bop (tkK l T j) ∨ brl (tkK l T j)) (hl : W.length < 100) (hn : N.length + 1 + W.length ≤ 490) (kq : ∀ I2 J2, FE I I2 J J2 → ME l T (nX l T j) u N (-((tkK l T j : Nat) : Int) :: W) I2 J2 → Q (some (.int (Int32.ofInt (nwx (tkK l T j) : Nat)))) (hp p s q I2 J2)) : w_X11_sign_106 SL xs d p s q Q (Int32.ofInt (sgf (tkK l T j))) I J := by
  have f := sgf_f hb
  have o := opn_f f.2.1
  refine sg_X11_sign_106 ⟨fun _ => ?_, fun z => absurd (by rw [h.2.1]; decide) z⟩
  have ez : Int32.ofInt (sgf (tkK l T j)) = Int32.ofInt (wo (-((tkK l T j : Nat) : Int))) := by rw [f.1]
  rw [ez]
  refine e_hold h (Or.inr f.2.1) hl hn (fun I2 f2 m2 => ⟨_, _, rfl, rfl, e_tok m2 (by unfold bop brl at hb; omega) (fun I3 J3 f3 m3 => ⟨_, _, rfl, rfl, ?_⟩)⟩)
  have fin := kq I3 J3 (FE_t f2 f3) m3
  rw [← ez, z_eq (by omega), z_eq (by omega), f.2.2.2.1, f.2.2.2.2]
  refine ⟨fun e => sg_X11_sign_136 ?_, fun e => ⟨fun e2 => sg_X11_sign_136 ?_, fun e2 => ?_⟩⟩
  · rw [nwx, if_pos (Or.inr e)] at fin; exact fin
  · rw [nwx, if_pos (Or.inl e2)] at fin; exact fin
  · rw [nwx, if_neg (by omega)] at fin; exact fin
theorem s_in (h : ME l T j u N W I J) (hk : tkK l T j ≠ 41) (k : w_X11_sign_52 SL xs d p s q Q (Int32.ofInt (sgf (tkK l T j))) I J) : mm_s SL xs (d + 4) 189 [.ref 65] (hp p s q I J) Q := by
  refine sg_X11_sign ⟨fun z => ?_, fun _ => ?_⟩
  · rw [show (I 65 6 = Int32.ofInt 41) = (tkK l T j = 41) from Mm_k (c := 41) h.1 (by omega)] at z; exact absurd z hk
  · rw [e_signOf h.1]; exact k
theorem s_bin (h : ME l T j u N (v ++ W) I J) (hb : bop (tkK l T j)) (hv : vk (xrk (-((tkK l T j : Nat) : Int))) v) (ht : tp (xrk (-((tkK l T j : Nat) : Int))) W) (hl : W.length < 100) (hn : (pp v N).length + 1 + W.length ≤ 490) (kq : ∀ I2 J2, FE I I2 J J2 → ME l T (nX l T j) u (pp v N) (-((tkK l T j : Nat) : Int) :: W) I2 J2 → w_X11_readCount_16 SL xs d p s q Q (Int32.ofInt (nwx (tkK l T j) : Nat)) I2 J2) : w_X11_readCount_16 SL xs d p s q Q (Int32.ofInt 2) I J := by
  have f := sgf_f (Or.inl hb)
  have o := opn_f f.2.1
  have nr : ¬ xrk (-((tkK l T j : Nat) : Int)) = 23 := fun z => by
    have := f.2.2.1.2 z
    unfold bop at hb; unfold brl at this; omega
  have er : sx_X11_rank (Int32.ofInt (sgf (tkK l T j))) = Int32.ofInt (xrk (-((tkK l T j : Nat) : Int)) : Nat) := by rw [f.1]; exact o.1
  refine rc_si h (Or.inr (by unfold bop at hb; omega)) (s_in h (by unfold bop at hb; omega) (sg_X11_sign_52 ⟨fun _ => ⟨fun z => ?_, fun _ => ?_⟩, fun z => absurd ?_ z⟩))
  · rw [er, z_eq (by omega)] at z; omega
  · rw [er]
    exact e_settle (by omega) ht hv h (fun I2 f2 m2 => ⟨_, _, rfl, rfl, s_106 m2 (Or.inl hb) hl hn (fun I3 J3 f3 m3 => ⟨_, _, _, rfl, rfl, kq I3 J3 (FE_t f2 f3) m3⟩)⟩)
  · rw [z_le (by omega)]; omega
theorem s_rel (h : ME l T j u N (v ++ W) I J) (hb : brl (tkK l T j)) (hv : vk 26 v) (ht : tp 23 W) (hl : W.length < 100) (hn : (pp v N).length + 1 + W.length ≤ 490) (kq : ∀ I2 J2, FE I I2 J J2 → ME l T (nX l T j) u (pp v N) (-((tkK l T j : Nat) : Int) :: W) I2 J2 → w_X11_readCount_16 SL xs d p s q Q (Int32.ofInt 1) I2 J2) : w_X11_readCount_16 SL xs d p s q Q (Int32.ofInt 2) I J := by
  have f := sgf_f (Or.inr hb)
  have o := opn_f f.2.1
  have nr := f.2.2.1.1 hb
  have er : sx_X11_rank (Int32.ofInt (sgf (tkK l T j))) = Int32.ofInt (xrk (-((tkK l T j : Nat) : Int)) : Nat) := by rw [f.1]; exact o.1
  have e1 : nwx (tkK l T j) = 1 := by rw [nwx, if_neg (by unfold brl at hb; omega)]
  have fin : ∀ I2, FE I I2 J J → ME l T j u (pp v N) W I2 J → w_X11_sign_106 SL xs d p s q (fun r_ h_ => ∃ x1 I1 J1, r_ = some (.int x1) ∧ h_ = hp p s q I1 J1 ∧ w_X11_readCount_16 SL xs d p s q Q x1 I1 J1) (Int32.ofInt (sgf (tkK l T j))) I2 J := fun I2 f2 m2 => s_106 m2 (Or.inr hb) hl hn (fun I3 J3 f3 m3 => ⟨_, _, _, rfl, rfl, by rw [e1]; exact kq I3 J3 (FE_t f2 f3) m3⟩)
  refine rc_si h (Or.inr (by unfold brl at hb; omega)) (s_in h (by unfold brl at hb; omega) (sg_X11_sign_52 ⟨fun _ => ⟨fun _ => ?_, fun z => absurd ?_ z⟩, fun z => absurd ?_ z⟩))
  · refine e_settle (L := 26) (by omega) (tp_m (by omega) ht) hv h (fun I2 f2 m2 => ⟨_, _, rfl, rfl, e_upper m2 (fun e => ⟨_, _, _, rfl, rfl, fun z => absurd z (by decide), fun _ => fin I2 f2 m2⟩) (fun w r e => ⟨_, _, _, rfl, rfl, fun z => ?_, fun _ => fin I2 f2 m2⟩)⟩)
    rw [e] at ht
    rcases ht with t | t
    · subst t; exact absurd z (by decide)
    · have ow := opn_f t.1
      rw [ow.1, z_eq (by omega)] at z; omega
  · rw [er, nr]; rfl
  · rw [z_le (by omega)]; omega
theorem s_relf (h : ME l T j u N (v ++ W) I J) (hb : brl (tkK l T j)) (hv : rb v) (kq : ∀ I2 J2, FEw I I2 J J2 → I2 65 2 = Int32.ofInt (flt (tkK l T j) 2 : Nat) → I2 65 3 = Int32.ofInt (j : Nat) → Q none (hp p s q I2 J2)) : w_X11_readCount_16 SL xs d p s q Q (Int32.ofInt 2) I J := by
  have f := sgf_f (Or.inr hb)
  have o := opn_f f.2.1
  have nr := f.2.2.1.1 hb
  have er : sx_X11_rank (Int32.ofInt (sgf (tkK l T j))) = Int32.ofInt (xrk (-((tkK l T j : Nat) : Int)) : Nat) := by rw [f.1]; exact o.1
  obtain ⟨v1, r, v2, ev, a, b, c⟩ := hv
  have h' : ME l T j u N (v1 ++ (r :: v2 ++ W)) I J := by rw [ev] at h; simpa using h
  have or_ := opn_f b
  refine rc_si h (Or.inr (by unfold brl at hb; omega)) (s_in h (by unfold brl at hb; omega) (sg_X11_sign_52 ⟨fun _ => ⟨fun _ => ?_, fun z => absurd ?_ z⟩, fun z => absurd ?_ z⟩))
  · refine e_settle (L := 26) (by omega) (show tp 26 (r :: v2 ++ W) from Or.inr ⟨b, by omega⟩) a h' (fun I2 f2 m2 => ⟨_, _, rfl, rfl, e_upper m2 (fun e => absurd e (by simp)) (fun w r2 e => ⟨_, _, _, rfl, rfl, fun _ => ?_, fun z => absurd ?_ z⟩)⟩)
    · refine m_wrong (n := 2) m2.1 m2.2.1 ⟨_, _, rfl, rfl, sg_X11_sign_106 ⟨fun z => ?_, fun _ => ⟨_, _, _, rfl, rfl, rc_f ?_ (kq _ _ (FX f2 FEw_g) ?_ ?_)⟩⟩⟩
      · rw [mu_ne (by omega), mu_at] at z; exact absurd z flt_0.2
      · rw [mu_ne (by omega), mu_at]; exact flt_0.1
      · rw [mu_ne (by omega), mu_at]
      · rw [mu_at]
    · have e : r :: (v2 ++ W) = w :: r2 := e
      have : r = w := (List.cons.inj e).1
      subst this
      rw [or_.1, c]; rfl
  · rw [er, nr]; rfl
  · rw [z_le (by omega)]; omega
theorem s_fail (h : ME l T j u N W I J) (h1 : ¬ bop (tkK l T j)) (h2 : ¬ brl (tkK l T j)) (h3 : tkK l T j ≠ 41 ∨ hasO W = false) (h4 : hasO W = true ∨ tkK l T j ≠ 59) (kq : ∀ I2 J2, FEw I I2 J J2 → I2 65 2 = Int32.ofInt (flt (tkK l T j) 2 : Nat) → I2 65 3 = Int32.ofInt (j : Nat) → Q none (hp p s q I2 J2)) : w_X11_readCount_16 SL xs d p s q Q (Int32.ofInt 2) I J := by
  have es : sgf (tkK l T j) = -1 := by
    unfold bop at h1; unfold brl at h2; unfold sgf
    rw [if_neg (by omega), if_neg (by omega), if_neg (by omega), if_neg (by omega), if_neg (by omega), if_neg (by omega), if_neg (by omega), if_neg (by omega), if_neg (by omega)]
  have k52 : w_X11_sign_52 SL xs d p s q (fun r_ h_ => ∃ x1 I1 J1, r_ = some (.int x1) ∧ h_ = hp p s q I1 J1 ∧ w_X11_readCount_16 SL xs d p s q Q x1 I1 J1) (Int32.ofInt (sgf (tkK l T j))) I J := by
    rw [es]
    refine sg_X11_sign_52 ⟨fun z => absurd z (by decide), fun _ => m_wrong (n := 2) h.1 h.2.1 ⟨_, _, rfl, rfl, ⟨_, _, _, rfl, rfl, rc_f ?_ (kq _ _ FEw_g ?_ ?_)⟩⟩⟩
    · rw [mu_ne (by omega), mu_at]; exact flt_0.1
    · rw [mu_ne (by omega), mu_at]
    · rw [mu_at]
  refine rc_si h h4 ?_
  by_cases c : tkK l T j = 41
  · refine sg_X11_sign ⟨fun _ => e_open h ⟨_, _, _, rfl, rfl, fun _ => ?_, fun z => ?_⟩, fun z => absurd ?_ z⟩
    · rw [e_signOf h.1]; exact k52
    · rw [zB_t] at z
      rcases h3 with y | y
      · exact absurd c y
      · rw [y] at z; exact absurd z (by decide)
    · rw [show (I 65 6 = Int32.ofInt 41) = (tkK l T j = 41) from Mm_k (c := 41) h.1 (by omega)]; exact c
  · exact s_in h c k52
theorem s_close (h : ME l T j u N (v ++ -40 :: W) I J) (hk : tkK l T j = 41) (hv : vk 20 v) (kq : ∀ I2 J2, FE I I2 J J2 → ME l T (nX l T j) u (pp v N) W I2 J2 → w_X11_readCount_16 SL xs d p s q Q (Int32.ofInt 2) I2 J2) : w_X11_readCount_16 SL xs d p s q Q (Int32.ofInt 2) I J := by
  refine rc_si h (Or.inl (hasO_app v)) (sg_X11_sign ⟨fun _ => e_open h ⟨_, _, _, rfl, rfl, fun z => ?_, fun _ => ?_⟩, fun z => absurd ?_ z⟩)
  · rw [hasO_app] at z; exact absurd z (by decide)
  · refine e_settle (L := 0) (by omega) (show tp 0 (-40 :: W) from Or.inl rfl) (vk_m (by omega) hv) h (fun I2 f2 m2 => ⟨_, _, rfl, rfl, ?_⟩)
    obtain ⟨h1, h2, h3, h4, h5, h6, h7, h8, h9⟩ := m2
    rw [List.length_cons] at h6 h9
    rw [dp, if_pos (Or.inl rfl)] at h8
    have me : ME l T j u (pp v N) W (mm_u (mm_u I2 65 22 (I2 65 22 - Int32.ofInt 1)) 65 23 (I2 65 23 - Int32.ofInt 1)) J := by
      refine ⟨Mm_c (fun k a b => by rw [mu_ne (by omega), mu_ne (by omega)]) (by rw [mu_row (by omega), mu_row (by omega)]) rfl h1, ?_, ?_, ?_, ?_, ?_, ?_, ?_, by omega, by omega⟩
      · rw [mu_ne (by omega), mu_ne (by omega)]; exact h2
      · rw [mu_ne (by omega), mu_ne (by omega)]; exact h3
      · exact NS_c _ (fun i _ => by rw [mu_row (by omega), mu_row (by omega), mu_row (by omega), mu_row (by omega)]; exact ⟨rfl, rfl⟩) h4
      · rw [mu_ne (by omega), mu_ne (by omega)]; exact h5
      · rw [mu_ne (by omega), mu_at, h6, z_m1 (by omega), Nat.add_sub_cancel]
      · exact WS_c W (fun i _ => by rw [mu_row (by omega), mu_row (by omega)]) h7.2
      · rw [mu_at, h8, z_m1 (by omega)]; congr 2; omega
    exact e_tok me (by omega) (fun I3 J3 f3 m3 => ⟨_, _, rfl, rfl, ⟨_, _, _, rfl, rfl, kq I3 J3 (FE_t f2 (FE_t (FE_u (by omega)) (FE_t (FE_u (by omega)) f3))) m3⟩⟩)
  · rw [show (I 65 6 = Int32.ofInt 41) = (tkK l T j = 41) from Mm_k (c := 41) h.1 (by omega)]; exact hk
end
