/-! calls: rates, both sides -/
section RX
variable {S S1 S2 : gM}
noncomputable def rtL (C F : Nat → Int → Int) (f : Int) (y : Nat) (d : Int) (la : Int → Int) (j r : Int) : Int := ifp (0 ≤ j ∧ j < C 55 1) (liS C F f y d la (-1) (-1) j r)
noncomputable def rtB (C F : Nat → Int → Int) (f : Int) (y : Nat) (d : Int) (la : Int → Int) (a b lim : Int) : Int × Int × Int := bst (rtL C F f y d la) la (fun j => (y : Int) < C 67 j) a b (rk F f (nsF F f).toNat) lim (C 55 1).toNat 441
def rtA (B : Int × Int × Int) (i : Int) : Int := if B.1 = -1 then -2000000000000 else if i = 0 then B.2.1 else if i = 1 then B.2.2 else if i = 2 then B.1 / 21 else B.1 % 21
noncomputable def rtF (S : gM) (y : Int) : Int := inF (gi S) y (gi S 55 0)
noncomputable def rtR (S : gM) (y : Int) : Nat := rk (gi S) (rtF S y) (nsF (gi S) (rtF S y)).toNat
noncomputable def rt (S : gM) (y : Nat) (a b lim i : Int) : Int := rtA (rtB (cor S) (gi S) (rtF S y) y (gi S 55 0) (laV (cor S) (gi S) y) a b lim) i
/-- when rates are worked out at all -/
def rtO (S : gM) (y a b lim i : Int) : Prop := (0 ≤ y ∧ y < 10) ∧ (0 ≤ lim ∧ lim ≤ 999999999) ∧ ¬ a = b ∧ (0 ≤ i ∧ i < 4) ∧ (0 ≤ a ∧ a < rtR S y) ∧ (0 ≤ b ∧ b < rtR S y)
theorem rk_all {F G : Nat → Int → Int} {f : Int} (h : SEq F G f) (hF : FOk F f) : rk F f (nsF F f).toNat = rk G f (nsF G f).toNat := by
  rw [← nsF_c h]
  by_cases hm : f = -1
  · have : (nsF F f).toNat = 0 := by unfold nsF; rw [if_pos hm]; rfl
    rw [this]; rfl
  · have := hF.1
    exact rk_c h hm _ (by omega)
theorem rtB_c (C : Nat → Int → Int) {F G : Nat → Int → Int} {f : Int} (h : SEq F G f) (hF : FOk F f) (hf : -1 ≤ f) (y : Nat) (d : Int) (la : Int → Int) (a b lim : Int) : rtB C F f y d la a b lim = rtB C G f y d la a b lim := by
  have e : rtL C F f y d la = rtL C G f y d la := by
    funext j r
    unfold rtL
    rw [(suS_c C h hF hf y d la la (-1) (-1) j).2.2.2.2]
  unfold rtB
  rw [e, rk_all h hF]
/-- a memory that keeps what rates stand on -/
theorem rt_c (h : ClsI S) (hD : DayI S) (hc : cor S1 = cor S) (hs : ∀ f, SEq (gi S) (gi S1) f) (h18 : gi S1 55 18 = gi S 55 18) (h71 : gi S1 71 = gi S 71) (h72 : gi S1 72 = gi S 72) (h0 : gi S1 55 0 = gi S 55 0) {y : Nat} (hy : y < 10) : rtF S1 y = rtF S y ∧ rtR S1 y = rtR S y ∧ ∀ a b lim i, rt S1 y a b lim i = rt S y a b lim i := by
  have ok := inF_ok h.2.2.2.1 (y := y) (d := gi S 55 0) (by omega) hD.2.1
  have eF : rtF S1 y = rtF S y := by
    unfold rtF
    rw [h0]
    exact (inF_c h18.symm (fun k _ _ => ⟨by rw [h71], by rw [h72]⟩) y _).symm
  have k := (pasV_c (F := gi S) (G := gi S1) (cor S) h18.symm (fun k _ _ => ⟨by rw [h71], by rw [h72]⟩) (fun y d a b c => ⟨hs _, (inF_ok h.2.2.2.1 ⟨a, c⟩ b).1, (inF_ok h.2.2.2.1 ⟨a, c⟩ b).2.1⟩) y hy).2
  refine ⟨eF, ?_, fun a b lim i => ?_⟩
  · unfold rtR
    rw [eF]
    exact (rk_all (hs _) ok.1).symm
  · unfold rt
    rw [eF, hc, h0, ← funext k]
    exact congrArg (fun z => rtA z i) (rtB_c (cor S) (hs _) ok.1 ok.2.1 y (gi S 55 0) _ a b lim).symm
theorem rtL_rng (h : ClsI S) {y : Nat} {d : Int} {f : Int} (ok : FOk (gi S) f ∧ -1 ≤ f ∧ f < 9) (la : Int → Int) (j r : Int) : -100000000 ≤ rtL (cor S) (gi S) f y d la j r ∧ rtL (cor S) (gi S) f y d la j r ≤ 100000000 := by
  unfold rtL
  by_cases c : 0 ≤ j ∧ j < cor S 55 1
  · rw [ifp_t c]
    exact (SB_1 (y := y) (d := d) (la := la) (th := la) (es := -1) (em := -1) h.1 ok.1 ok.2.1 (s := j) (by rw [← co55_1]; exact c)).2.2.2.1 r
  · rw [ifp_f c]; omega
theorem g191_l32_w {Q : Int × gM → Prop} {K : Int → gM → Option (Int × gM)} {y a b lim i f : Int} (hF : FOk (gi S) f) (hf : -1 ≤ f ∧ f < 9) (hK : Wp Q (K (rk (gi S) f (nsF (gi S) f).toNat) S)) : Wp Q (g191_l32 y a b lim i f K 100000 0 (30 * f) S) := by
  have hn := hF.1
  by_cases hm : f = -1
  · have e : rk (gi S) f (nsF (gi S) f).toNat = 0 := by
      have : (nsF (gi S) f).toNat = 0 := by unfold nsF; rw [if_pos hm]; rfl
      rw [this]; rfl
    rw [e] at hK
    have key : ∀ n : Nat, 0 < n → Wp Q (g191_l32 y a b lim i f K n 0 (30 * f) S) := by
      intro n hn
      cases n with
      | zero => omega
      | succ n => dsimp only [g191_l32]; rw [if_pos hm]; exact hK
    exact key 100000 (by omega)
  · have e70 : nsF (gi S) f = gi S 70 f := by unfold nsF; rw [if_neg hm]
    have key := upto (nsF (gi S) f).toNat (fun n k => Wp Q (g191_l32 y a b lim i f K n (rk (gi S) f k) (30 * f + k) S)) ?_ 100000 0 (Nat.zero_le _) (by omega)
    · rw [show 30 * f + ((0 : Nat) : Int) = 30 * f by omega] at key
      exact key
    intro n k hk ih
    dsimp only [g191_l32]
    have hrk := rk_le (gi S) f k
    rw [if_neg hm, ckI_t (by omega), chk_t (by omega), lt_t, ckI_t (by omega)]
    refine p_if (fun hc => ?_) (fun hc => ?_)
    · have : k = (nsF (gi S) f).toNat := by omega
      rw [this]; exact hK
    have ih := ih (by omega)
    rw [rk_s, show 30 * f + ((k + 1 : Nat) : Int) = 30 * f + k + 1 by omega] at ih
    rw [chk_t (by omega), lt_t]
    refine p_if (fun c => ?_) (fun c => ?_)
    · rw [if_neg c] at ih
      refine p_call (g113_eq 0) ?_
      dsimp only
      rw [one_f (fun z => z rfl), ckI_t (by omega), ckI_t (by omega), Int.add_zero]
      exact ih
    · rw [if_pos (Classical.not_not.mp c)] at ih
      refine p_call (g113_eq 1) ?_
      dsimp only
      rw [one_t (by decide), ckI_t (by omega), ckI_t (by omega)]
      exact ih
theorem g191_w (h : ClsI S) (hD : DayI S) (y a b lim i : Int) : Wp (fun r => (rtO S y a b lim i → r.1 = rt S y.toNat a b lim i) ∧ (¬ rtO S y a b lim i → r.1 = -2000000000000) ∧ Fr frZ S r.2 ∧ ClsI r.2) (g191 y a b lim i S) := by
  have n12 := h.1.n12
  unfold g191
  rw [g115_eq, ob_s]
  dsimp only
  have out : ¬ rtO S y a b lim i → Wp (fun r => (rtO S y a b lim i → r.1 = rt S y.toNat a b lim i) ∧ (¬ rtO S y a b lim i → r.1 = -2000000000000) ∧ Fr frZ S r.2 ∧ ClsI r.2) (some ((-2000000000000 : Int), S)) := fun hno => p_some ⟨fun z => absurd z hno, fun _ => rfl, Fr.refl, h⟩
  by_cases c2 : 0 ≤ y ∧ y < 10
  · rw [one_t c2, if_neg (by decide), lt_t]
    refine p_call (g160_eq h.2.2.2.1.1 _ _) ?_
    dsimp only
    obtain ⟨y, rfl⟩ : ∃ k : Nat, y = k := ⟨y.toNat, by omega⟩
    have ok := inF_ok h.2.2.2.1 (y := y) (d := gi S 55 0) (by omega) hD.2.1
    rw [ckI_t (by omega)]
    refine g191_l32_w ok.1 ok.2 ?_
    have hrk := rk_le (gi S) (inF (gi S) y (gi S 55 0)) (nsF (gi S) (inF (gi S) y (gi S 55 0))).toNat
    have hn30 := ok.1.1
    have eR : rk (gi S) (inF (gi S) y (gi S 55 0)) (nsF (gi S) (inF (gi S) y (gi S 55 0))).toNat = rtR S y := rfl
    rw [eR] at hrk ⊢
    unfold g191_j85
    rw [ckI_t (by omega), g112_eq, ob_s]
    dsimp only
    by_cases ca : 0 ≤ a ∧ a ≤ (rtR S y : Int) - 1
    · rw [one_t ca, if_neg (by decide), ckI_t (by omega), g112_eq, ob_s]
      dsimp only
      by_cases cb : 0 ≤ b ∧ b ≤ (rtR S y : Int) - 1
      · rw [one_t cb, if_neg (by decide)]
        refine p_if (fun hab => out (fun z => z.2.2.1 hab)) (fun hab => ?_)
        rw [g112_eq, ob_s]
        dsimp only
        by_cases cl : 0 ≤ lim ∧ lim ≤ 999999999
        · rw [one_t cl, if_neg (by decide), g112_eq, ob_s]
          dsimp only
          by_cases ci : 0 ≤ i ∧ i ≤ 3
          · rw [one_t ci, if_pos (by decide), lt_t]
            have hO : rtO S y a b lim i := ⟨c2, cl, hab, by omega, by omega, by omega⟩
            refine p_use (ref_y h Fr.refl h (by omega) hD.2.1) (fun S2 h2 => ?_)
            have e67 : ∀ j, gi S2 67 j = cor S 67 j := fun j => by rw [co67]; exact h2.1.i rfl
            refine g191_l161_w (n := gi S 55 1) (L := rtL (cor S) (gi S) (rtF S y) y (gi S 55 0) (laV (cor S) (gi S) y)) (la := laV (cor S) (gi S) y) (rtL_rng h ok _) (by omega) (h2.1.i rfl) n12 (fun j u v w => ⟨(h2.2.2.2.1 j u v).1, fun r x z => ?_⟩) ?_
            · have e := (h2.2.2.1 j u v).2.2.2.2 r x z
              rw [ifp_t (by rw [← show gi S2 67 j = gi S 67 j from h2.1.i rfl]; exact w)] at e
              rw [e]
              unfold rtL
              rw [ifp_t (by rw [co55_1]; exact ⟨u, v⟩)]
              rfl
            have eB : bst (rtL (cor S) (gi S) (rtF S y) y (gi S 55 0) (laV (cor S) (gi S) y)) (laV (cor S) (gi S) y) (fun j => (y : Int) < gi S2 67 j) a b (rtR S y) lim (gi S 55 1).toNat 441 = rtB (cor S) (gi S) (rtF S y) y (gi S 55 0) (laV (cor S) (gi S) y) a b lim := by
              unfold rtB
              rw [co55_1, show (fun j => (y : Int) < gi S2 67 j) = (fun j => (y : Int) < cor S 67 j) from funext fun j => by rw [e67]]
              rfl
            rw [eB]
            have hbr : -1 ≤ (rtB (cor S) (gi S) (rtF S y) y (gi S 55 0) (laV (cor S) (gi S) y) a b lim).1 ∧ (rtB (cor S) (gi S) (rtF S y) y (gi S 55 0) (laV (cor S) (gi S) y) a b lim).1 < (441 : Nat) := bst_rng _ _ _ _
            have ert : rt S y a b lim i = rtA (rtB (cor S) (gi S) (rtF S y) y (gi S 55 0) (laV (cor S) (gi S) y) a b lim) i := rfl
            have fin : ∀ v : Int, v = rt S y a b lim i → Wp (fun r => (rtO S y a b lim i → r.1 = rt S ((y : Int)).toNat a b lim i) ∧ (¬ rtO S y a b lim i → r.1 = -2000000000000) ∧ Fr frZ S r.2 ∧ ClsI r.2) (some (v, S2)) := fun v hv => p_some ⟨fun _ => by rw [Int.toNat_natCast]; exact hv, fun z => absurd hO z, h2.1, h2.2.1⟩
            generalize rtB (cor S) (gi S) (rtF S y) y (gi S 55 0) (laV (cor S) (gi S) y) a b lim = B at *
            unfold rtA at ert
            refine p_if (fun hB => ?_) (fun hB => ?_)
            · rw [if_neg hB] at ert
              have etd : B.1.tdiv 21 = B.1 / 21 := Int.tdiv_eq_ediv_of_nonneg (by omega)
              have etm : B.1.tmod 21 = B.1 % 21 := Int.tmod_eq_emod_of_nonneg (by omega)
              refine p_if (fun i0 => ?_) (fun i0 => ?_)
              · rw [if_neg i0] at ert
                refine p_if (fun i1 => ?_) (fun i1 => ?_)
                · rw [if_neg i1] at ert
                  refine p_if (fun i2 => ?_) (fun i2 => ?_)
                  · rw [if_neg i2] at ert
                    rw [ckI_t (by omega), lt_t]
                    exact fin _ (by rw [ert, etm])
                  · rw [if_pos (Classical.not_not.mp i2)] at ert
                    rw [ckI_t (by omega)]
                    exact fin _ (by rw [ert, etd])
                · rw [if_pos (Classical.not_not.mp i1)] at ert
                  exact fin _ ert.symm
              · rw [if_pos (Classical.not_not.mp i0)] at ert
                exact fin _ ert.symm
            · rw [if_pos (Classical.not_not.mp hB)] at ert
              exact fin _ ert.symm
          · rw [one_f ci, if_neg (by decide)]
            exact out (fun z => ci ⟨z.2.2.2.1.1, by have := z.2.2.2.1.2; omega⟩)
        · rw [one_f cl, if_pos (by decide)]
          exact out (fun z => cl z.2.1)
      · rw [one_f cb, if_pos (by decide)]
        exact out (fun z => cb (by have := z.2.2.2.2.2; omega))
    · rw [one_f ca, if_pos (by decide)]
      exact out (fun z => ca (by have := z.2.2.2.2.1; omega))
  · have hno : ¬ rtO S y a b lim i := fun z => c2 z.1
    rw [one_f c2, if_pos (by decide), ckI_t (by omega)]
    refine g191_l32_w (f := -1) (FOk_m1 _) (by omega) ?_
    have e : rk (gi S) (-1) (nsF (gi S) (-1)).toNat = 0 := by
      have : (nsF (gi S) (-1)).toNat = 0 := by unfold nsF; rw [if_pos rfl]; rfl
      rw [this]; rfl
    rw [e]
    unfold g191_j85
    rw [ckI_t (by omega), g112_eq, ob_s]
    dsimp only
    rw [one_f (show ¬ (0 ≤ a ∧ a ≤ ((0 : Nat) : Int) - 1) by omega), if_pos (by decide)]
    exact out hno
end RX
