/-! the reference's works: all schools, before the total -/
section WA
variable {S : gM}
theorem fl_m1 (C F : Nat → Int → Int) (y d : Int) (la th : Int → Int) (es em s : Int) : baS C F (-1) y d la es em s = 0 ∧ flS C F (-1) y d la th es em s = 0 ∧ cpS C F (-1) y d la th es em s = 0 ∧ prS C F (-1) y d la th es em s = 0 ∧ (∀ r, liS C F (-1) y d la es em s r = 0) := by
  have e0 : (nsF F (-1)).toNat = 0 := by unfold nsF; rw [if_pos rfl]; rfl
  have t1 : ∀ w o, tls F (-1) w o = o := fun w o => by unfold tls lst; rw [e0]; exact if_pos rfl
  have b0 : baS C F (-1) y d la es em s = 0 := by unfold baS; rw [e0]; rfl
  have f0 : flS C F (-1) y d la th es em s = 0 := by
    unfold flS flo lfV
    rw [t1, t1, t1]
    simp
  have c0 : cpS C F (-1) y d la th es em s = 0 := by
    unfold cpS cpo cpV
    rw [t1, t1, t1]
    simp
  refine ⟨b0, f0, c0, by unfold prS; rw [b0, f0, c0]; rfl, fun r => ?_⟩
  unfold liS
  rw [e0]
  rfl
abbrev fr7 : List Nat := [68, 69, 81, 82, 85, 86, 87, 88, 89, 92]
/-- what stands in the rows for the first schools -/
def Row (S0 S : gM) (f y d : Int) (la th : Int → Int) (es em : Int) (k : Int) : Prop := ∀ j : Int, 0 ≤ j → j < k →
  gl S 86 j = ifp (y < gi S0 67 j) (flS (cor S0) (gi S0) f y d la th es em j) ∧ gl S 87 j = ifp (y < gi S0 67 j) (cpS (cor S0) (gi S0) f y d la th es em j) ∧ gl S 88 j = 0 ∧ gl S 89 j = ifp (y < gi S0 67 j) (prS (cor S0) (gi S0) f y d la th es em j) ∧
  (¬ f = -1 → y < gi S0 67 j → gl S 92 j = wS (cor S0) y d la es em j 5) ∧ (∀ r : Int, 0 ≤ r → r < 30 → gl S 85 (30 * j + r) = ifp (y < gi S0 67 j) (liS (cor S0) (gi S0) f y d la es em j r))
theorem Row.nb {S0 S S' : gM} {f y d es em k : Int} {la th : Int → Int} (h : Row S0 S f y d la th es em k) (hN : Nb k S S') : Row S0 S' f y d la th es em k := fun j a b => by
  have := h j a b
  rw [hN.1 86 (by omega) (by omega) j (by omega), hN.1 87 (by omega) (by omega) j (by omega), hN.1 88 (by omega) (by omega) j (by omega), hN.1 89 (by omega) (by omega) j (by omega), hN.1 92 (by omega) (by omega) j (by omega)]
  refine ⟨this.1, this.2.1, this.2.2.1, this.2.2.2.1, this.2.2.2.2.1, fun r c e => ?_⟩
  rw [hN.2 _ (by omega)]
  exact this.2.2.2.2.2 r c e
set_option maxHeartbeats 4000000 in
theorem g170_l6_w {Q : gM → Prop} {K : Int → gM → Option gM} (S0 : gM) (hB : Bas S0) {f y d es em : Int} {la th : Int → Int} (hF : FOk (gi S0) f) (hf : -1 ≤ f ∧ f < 9) (hy : 0 ≤ y ∧ y ≤ 9) (h90 : ∀ j : Int, 0 ≤ j → j < gi S0 55 1 → gl S0 90 j = la j ∧ (-15740000000000 ≤ la j ∧ la j ≤ 15740000000000)) (h91 : ∀ j : Int, 0 ≤ j → j < gi S0 55 1 → y < gi S0 67 j → gl S0 91 j = th j) (hy0 : y = 0 → ∀ j, la j = 0)
    (hK : ∀ S, Fr fr7 S0 S → Row S0 S f y d la th es em (gi S0 55 1) → Wp Q (K (sm (fun j => ifp (y < gi S0 67 j) (prS (cor S0) (gi S0) f y d la th es em j)) (gi S0 55 1).toNat) S)) :
    ∀ n k : Nat, k ≤ (gi S0 55 1).toNat → (gi S0 55 1).toNat - k < n → ∀ S, Fr fr7 S0 S → Row S0 S f y d la th es em k → Wp Q (g170_l6 y d f es em K n (sm (fun j => ifp (y < gi S0 67 j) (prS (cor S0) (gi S0) f y d la th es em j)) k) k S) := by
  have h0 := hB.2.1.1
  refine upto (gi S0 55 1).toNat (fun n k => ∀ S, Fr fr7 S0 S → Row S0 S f y d la th es em k → Wp Q (g170_l6 y d f es em K n (sm (fun j => ifp (y < gi S0 67 j) (prS (cor S0) (gi S0) f y d la th es em j)) k) k S)) ?_
  intro n k hk ih S hFr hR
  dsimp only [g170_l6]
  have e1 : ∀ S, Fr fr7 S0 S → gi S 55 1 = gi S0 55 1 := fun S h => h.i rfl
  rw [lt_t, e1 S hFr]
  refine p_if (fun hc => ?_) (fun hc => ?_)
  · have : k = (gi S0 55 1).toNat := by omega
    subst this
    rw [show (((gi S0 55 1).toNat : Nat) : Int) = gi S0 55 1 by omega] at hR
    exact hK S hFr hR
  have hks : 0 ≤ (k : Int) ∧ (k : Int) < gi S0 55 1 := by omega
  have ih := ih (by omega)
  rw [chk_t (by omega), lt_t, chk_t (by omega), lt_t, chk_t (by omega), lt_t, chk_t (by omega), lt_t, chk_t (by omega), lt_t]
  have hZ : Fr fr7 S0 (wl (wl (wl (wl (wl S 86 k 0) 87 k 0) 88 k 0) 89 k 0) 92 k 0) := ((((hFr.wl rfl).wl rfl).wl rfl).wl rfl).wl rfl
  have nZ : Nb k S (wl (wl (wl (wl (wl S 86 k 0) 87 k 0) 88 k 0) 89 k 0) 92 k 0) := ((((Nb.refl.wl (Or.inl ⟨by omega, rfl⟩)).wl (Or.inl ⟨by omega, rfl⟩)).wl (Or.inl ⟨by omega, rfl⟩)).wl (Or.inl ⟨by omega, rfl⟩)).wl (Or.inl ⟨by omega, rfl⟩)
  have v86 : gl (wl (wl (wl (wl (wl S 86 k 0) 87 k 0) 88 k 0) 89 k 0) 92 k 0) 86 k = 0 := by simp only [gi_wi, gl_wl, gl_wi, gi_wl, gi_wcl, gl_wcl, Nat.reduceEqDiff, Int.reduceEq, false_and, true_and, and_true, and_false, if_false, if_true]
  have v87 : gl (wl (wl (wl (wl (wl S 86 k 0) 87 k 0) 88 k 0) 89 k 0) 92 k 0) 87 k = 0 := by simp only [gi_wi, gl_wl, gl_wi, gi_wl, gi_wcl, gl_wcl, Nat.reduceEqDiff, Int.reduceEq, false_and, true_and, and_true, and_false, if_false, if_true]
  have v88 : gl (wl (wl (wl (wl (wl S 86 k 0) 87 k 0) 88 k 0) 89 k 0) 92 k 0) 88 k = 0 := by simp only [gi_wi, gl_wl, gl_wi, gi_wl, gi_wcl, gl_wcl, Nat.reduceEqDiff, Int.reduceEq, false_and, true_and, and_true, and_false, if_false, if_true]
  have v89 : gl (wl (wl (wl (wl (wl S 86 k 0) 87 k 0) 88 k 0) 89 k 0) 92 k 0) 89 k = 0 := by simp only [gi_wi, gl_wl, gl_wi, gi_wl, gi_wcl, gl_wcl, Nat.reduceEqDiff, Int.reduceEq, false_and, true_and, and_true, and_false, if_false, if_true]
  generalize wl (wl (wl (wl (wl S 86 k 0) 87 k 0) 88 k 0) 89 k 0) 92 k 0 = SZ at *
  refine g170_l58_w SZ (by omega) ?_ 100000 0 (by omega) (by omega) SZ Fr.refl Nb.refl (fun r a b => by omega)
  intro S1 hF1 hN1 hL1
  have f1 : Fr fr7 S0 S1 := hZ.trans (hF1.mono rfl)
  have n1 : Nb k S S1 := nZ.trans hN1
  have w86 : gl S1 86 k = 0 := (hF1.l rfl).trans v86
  have w87 : gl S1 87 k = 0 := (hF1.l rfl).trans v87
  have w88 : gl S1 88 k = 0 := (hF1.l rfl).trans v88
  have w89 : gl S1 89 k = 0 := (hF1.l rfl).trans v89
  -- a school without lines
  have nothing : (¬ y < gi S0 67 k ∨ f = -1) → Wp Q (w_ckI ((k : Int) + 1) fun V22 => g170_l6 y d f es em K n (sm (fun j => ifp (y < gi S0 67 j) (prS (cor S0) (gi S0) f y d la th es em j)) k) V22 S1) := by
    intro hno
    have z : ∀ v : Int, (f = -1 → v = 0) → ifp (y < gi S0 67 k) v = 0 := fun v hv => by
      by_cases ho : y < gi S0 67 k
      · rw [ifp_t ho]; rcases hno with w | w
        · exact absurd ho w
        · exact hv w
      · rw [ifp_f ho]
    have m1 := fun hf1 : f = -1 => by have := fl_m1 (cor S0) (gi S0) y d la th es em k; rw [← hf1] at this; exact this
    rw [ckI_t (by omega)]
    have ih2 := ih S1 f1 (fun j a b => ?_)
    · rw [sm_s, z _ (fun q => (m1 q).2.2.2.1), Int.add_zero] at ih2
      exact ih2
    · by_cases hj : j = k
      · rw [hj]
        refine ⟨by rw [w86, z _ (fun q => (m1 q).2.1)], by rw [w87, z _ (fun q => (m1 q).2.2.1)], w88, by rw [w89, z _ (fun q => (m1 q).2.2.2.1)], fun a1 a2 => ?_, fun r a1 a2 => by rw [hL1 r a1 a2, z _ (fun q => (m1 q).2.2.2.2 r)]⟩
        rcases hno with w | w
        · exact absurd a2 w
        · exact absurd w a1
      · exact (hR.nb n1) j a (by omega)
  have e67 : gi S1 67 k = gi S0 67 k := f1.i rfl
  refine p_call (g122_eq k y (by omega)) ?_
  dsimp only
  rw [e67]
  refine p_if1 (fun ho => ?_) (fun ho => nothing (Or.inl ho))
  refine p_if (fun hf1 => ?_) (fun hf1 => nothing (Or.inr (Classical.not_not.mp hf1)))
  have sc1 : Sc S0 S1 := f1.mono rfl
  have B1 := hB.sc sc1
  refine g170_l106_w S1 B1 (s := k) (by rw [e1 S1 f1]; omega) hy ?_ 100000 0 (by omega) (by omega) S1 Fr.refl (fun j a b => by omega)
  intro S2 hF2 hW2
  rw [sc1.cE] at hW2
  have f2 : Fr fr7 S0 S2 := f1.trans (hF2.mono rfl)
  have n2 : Nb k S S2 := n1.fr hF2 rfl
  have sc2 : Sc S0 S2 := f2.mono rfl
  have hw := wdV_rng hB.1 hB.2.1 hB.2.2.1 hB.2.2.2 (y := y) d (la k) es em hks
  have e20 := hW2 0 (by omega) (by omega)
  have e21 := hW2 1 (by omega) (by omega)
  have e22 := hW2 2 (by omega) (by omega)
  have w5 : wS (cor S0) y d la es em k 5 = gl S2 82 0 + gl S2 82 1 + gl S2 82 2 := by
    rw [e20, e21, e22]
    unfold wS wdV
    rw [if_pos rfl]
  have r5 : 0 ≤ wS (cor S0) y d la es em k 5 ∧ wS (cor S0) y d la es em k 5 ≤ 359967 := hw.2
  have rr := fun i (a : 0 ≤ i) (b : i < 10) => hw.1 i a b
  have x0 : gl S2 82 0 = wS (cor S0) y d la es em k 0 := by rw [e20]; rfl
  have x1 : gl S2 82 1 = wS (cor S0) y d la es em k 1 := by rw [e21]; rfl
  have y0 := rr 0 (by omega) (by omega)
  have y1 := rr 1 (by omega) (by omega)
  have y01 : -200000000 ≤ gl S2 82 0 + gl S2 82 1 ∧ gl S2 82 0 + gl S2 82 1 ≤ 200000000 := by
    rw [x0, x1]; unfold wS; omega
  have hks2 := hB.2.1.2.1 k hks.1 hks.2
  have hks56 := hks2.2.1
  rw [lt_t, lt_t, ckJ_t (by omega), lt_t, ← w5, ckJ_t (by omega), lt_t, chk_t (by omega), lt_t, gi_wl, show gi S2 56 k = gi S0 56 k from f2.i rfl, chk_t hks56, lt_t, gi_wl, show gi S2 59 (gi S0 56 k) = gi S0 59 (gi S0 56 k) from f2.i rfl, lt_t]
  have fT2 : Fr fr7 S0 (wl (wl S2 82 5 (wS (cor S0) y d la es em k 5)) 82 6 (gi S0 59 (gi S0 56 k))) := (f2.wl rfl).wl rfl
  have nT2 : Nb k S (wl (wl S2 82 5 (wS (cor S0) y d la es em k 5)) 82 6 (gi S0 59 (gi S0 56 k))) := (n2.wl (Or.inr (Or.inr (by omega)))).wl (Or.inr (Or.inr (by omega)))
  have scT2 : Sc S0 (wl (wl S2 82 5 (wS (cor S0) y d la es em k 5)) 82 6 (gi S0 59 (gi S0 56 k))) := fT2.mono rfl
  have BT2 := hB.sc scT2
  have g82 : ∀ i : Int, 0 ≤ i → i < 7 → gl (wl (wl S2 82 5 (wS (cor S0) y d la es em k 5)) 82 6 (gi S0 59 (gi S0 56 k))) 82 i = wS (cor S0) y d la es em k i := by
    intro i a b
    rw [gl_wl, gl_wl]
    by_cases i6 : i = 6
    · rw [if_pos ⟨rfl, i6⟩, i6]
      unfold wS wdV
      rw [if_neg (by decide), if_pos rfl, co59, co56]
    · rw [if_neg (fun z => i6 z.2)]
      by_cases i5 : i = 5
      · rw [if_pos ⟨rfl, i5⟩, i5]
      · rw [if_neg (fun z => i5 z.2), hW2 i a (by omega)]
        unfold wS wdV
        rw [if_neg i5, if_neg i6, if_neg (show ¬ i = 7 by omega), if_neg (show ¬ i = 8 by omega), if_neg (show ¬ i = 9 by omega)]
  have c86 : gl (wl (wl S2 82 5 (wS (cor S0) y d la es em k 5)) 82 6 (gi S0 59 (gi S0 56 k))) 86 k = 0 := by rw [gl_wl, if_neg (by rintro ⟨z, -⟩; cases z), gl_wl, if_neg (by rintro ⟨z, -⟩; cases z)]; exact (hF2.l rfl).trans w86
  have c87 : gl (wl (wl S2 82 5 (wS (cor S0) y d la es em k 5)) 82 6 (gi S0 59 (gi S0 56 k))) 87 k = 0 := by rw [gl_wl, if_neg (by rintro ⟨z, -⟩; cases z), gl_wl, if_neg (by rintro ⟨z, -⟩; cases z)]; exact (hF2.l rfl).trans w87
  have c88 : gl (wl (wl S2 82 5 (wS (cor S0) y d la es em k 5)) 82 6 (gi S0 59 (gi S0 56 k))) 88 k = 0 := by rw [gl_wl, if_neg (by rintro ⟨z, -⟩; cases z), gl_wl, if_neg (by rintro ⟨z, -⟩; cases z)]; exact (hF2.l rfl).trans w88
  have c89 : gl (wl (wl S2 82 5 (wS (cor S0) y d la es em k 5)) 82 6 (gi S0 59 (gi S0 56 k))) 89 k = 0 := by rw [gl_wl, if_neg (by rintro ⟨z, -⟩; cases z), gl_wl, if_neg (by rintro ⟨z, -⟩; cases z)]; exact (hF2.l rfl).trans w89
  have c85 : ∀ r : Int, 0 ≤ r → r < 30 → gl (wl (wl S2 82 5 (wS (cor S0) y d la es em k 5)) 82 6 (gi S0 59 (gi S0 56 k))) 85 (30 * k + r) = 0 := fun r a b => by rw [gl_wl, if_neg (by rintro ⟨z, -⟩; cases z), gl_wl, if_neg (by rintro ⟨z, -⟩; cases z)]; exact (hF2.l rfl).trans (hL1 r a b)
  generalize wl (wl S2 82 5 (wS (cor S0) y d la es em k 5)) 82 6 (gi S0 59 (gi S0 56 k)) = T2 at *
  refine p_use (g123_w BT2.2.1 BT2.2.2.2 y (by rw [e1 T2 fT2]; exact hks)) (fun p hp => ?_)
  rw [scT2.cE] at hp
  have fP : Fr fr7 S0 p.2 := fT2.trans (hp.2.2.mono rfl)
  have l90 := h90 k hks.1 hks.2
  rw [lt_t, chk_t (by omega), lt_t, gl_wl, if_neg (by rintro ⟨z, -⟩; cases z), show gl p.2 90 k = gl S0 90 k from fP.l rfl, l90.1]
  refine p_call (show g165 (la k) _ = some (hld (la k), _) from rfl) ?_
  dsimp only
  rw [lt_t, chk_t (by omega), lt_t, gi_wl, gi_wl, show gi p.2 56 k = gi S0 56 k from fP.i rfl, lt_t, lt_t, chk_t (by omega), lt_t, ckI_t (by omega)]
  have h5 : gl (wl (wl (wl p.2 82 7 p.1) 82 8 (hld (la k))) 82 9 (gi S0 56 k)) 82 5 = wS (cor S0) y d la es em k 5 := by
    simp only [gi_wi, gl_wl, gl_wi, gi_wl, gi_wcl, gl_wcl, Nat.reduceEqDiff, Int.reduceEq, false_and, true_and, and_true, and_false, if_false, if_true]
    exact (hp.2.2.l rfl).trans (g82 5 (by omega) (by omega))
  rw [h5]
  have fT : Fr fr7 S0 (wl (wl (wl (wl p.2 82 7 p.1) 82 8 (hld (la k))) 82 9 (gi S0 56 k)) 92 k (wS (cor S0) y d la es em k 5)) := (((fP.wl rfl).wl rfl).wl rfl).wl rfl
  have nT : Nb k S (wl (wl (wl (wl p.2 82 7 p.1) 82 8 (hld (la k))) 82 9 (gi S0 56 k)) 92 k (wS (cor S0) y d la es em k 5)) := ((((nT2.fr hp.2.2 rfl).wl (Or.inr (Or.inr (by omega)))).wl (Or.inr (Or.inr (by omega)))).wl (Or.inr (Or.inr (by omega)))).wl (Or.inl ⟨by omega, rfl⟩)
  have hWT : ∀ i : Int, 0 ≤ i → i < 10 → gl (wl (wl (wl (wl p.2 82 7 p.1) 82 8 (hld (la k))) 82 9 (gi S0 56 k)) 92 k (wS (cor S0) y d la es em k 5)) 82 i = wS (cor S0) y d la es em k i := by
    intro i a b
    rw [gl_wl, if_neg (by rintro ⟨z, -⟩; cases z), gl_wl, gl_wl, gl_wl]
    by_cases i9 : i = 9
    · rw [if_pos ⟨rfl, i9⟩, i9]; unfold wS wdV; rw [if_neg (by decide), if_neg (by decide), if_neg (by decide), if_neg (by decide), if_pos rfl, co56]
    · rw [if_neg (fun z => i9 z.2)]
      by_cases i8 : i = 8
      · rw [if_pos ⟨rfl, i8⟩, i8]; unfold wS wdV; rw [if_neg (by decide), if_neg (by decide), if_neg (by decide), if_pos rfl]
      · rw [if_neg (fun z => i8 z.2)]
        by_cases i7 : i = 7
        · rw [if_pos ⟨rfl, i7⟩, i7, hp.1]; unfold wS wdV; rw [if_neg (by decide), if_neg (by decide), if_pos rfl]
        · rw [if_neg (fun z => i7 z.2)]; exact (hp.2.2.l rfl).trans (g82 i a (by omega))
  have t85 : ∀ r : Int, 0 ≤ r → r < 30 → gl (wl (wl (wl (wl p.2 82 7 p.1) 82 8 (hld (la k))) 82 9 (gi S0 56 k)) 92 k (wS (cor S0) y d la es em k 5)) 85 (30 * k + r) = 0 := fun r a b => by simp only [gi_wi, gl_wl, gl_wi, gi_wl, gi_wcl, gl_wcl, Nat.reduceEqDiff, Int.reduceEq, false_and, true_and, and_true, and_false, if_false, if_true]; exact (hp.2.2.l rfl).trans (c85 r a b)
  have t86 : gl (wl (wl (wl (wl p.2 82 7 p.1) 82 8 (hld (la k))) 82 9 (gi S0 56 k)) 92 k (wS (cor S0) y d la es em k 5)) 86 k = 0 := by simp only [gi_wi, gl_wl, gl_wi, gi_wl, gi_wcl, gl_wcl, Nat.reduceEqDiff, Int.reduceEq, false_and, true_and, and_true, and_false, if_false, if_true]; exact (hp.2.2.l rfl).trans c86
  have t87 : gl (wl (wl (wl (wl p.2 82 7 p.1) 82 8 (hld (la k))) 82 9 (gi S0 56 k)) 92 k (wS (cor S0) y d la es em k 5)) 87 k = 0 := by simp only [gi_wi, gl_wl, gl_wi, gi_wl, gi_wcl, gl_wcl, Nat.reduceEqDiff, Int.reduceEq, false_and, true_and, and_true, and_false, if_false, if_true]; exact (hp.2.2.l rfl).trans c87
  have t88 : gl (wl (wl (wl (wl p.2 82 7 p.1) 82 8 (hld (la k))) 82 9 (gi S0 56 k)) 92 k (wS (cor S0) y d la es em k 5)) 88 k = 0 := by simp only [gi_wi, gl_wl, gl_wi, gi_wl, gi_wcl, gl_wcl, Nat.reduceEqDiff, Int.reduceEq, false_and, true_and, and_true, and_false, if_false, if_true]; exact (hp.2.2.l rfl).trans c88
  have t89 : gl (wl (wl (wl (wl p.2 82 7 p.1) 82 8 (hld (la k))) 82 9 (gi S0 56 k)) 92 k (wS (cor S0) y d la es em k 5)) 89 k = 0 := by simp only [gi_wi, gl_wl, gl_wi, gi_wl, gi_wcl, gl_wcl, Nat.reduceEqDiff, Int.reduceEq, false_and, true_and, and_true, and_false, if_false, if_true]; exact (hp.2.2.l rfl).trans c89
  have t92 : gl (wl (wl (wl (wl p.2 82 7 p.1) 82 8 (hld (la k))) 82 9 (gi S0 56 k)) 92 k (wS (cor S0) y d la es em k 5)) 92 k = wS (cor S0) y d la es em k 5 := by rw [gl_wl]; exact if_pos ⟨rfl, rfl⟩
  generalize wl (wl (wl (wl p.2 82 7 p.1) 82 8 (hld (la k))) 82 9 (gi S0 56 k)) 92 k (wS (cor S0) y d la es em k 5) = T at *
  have scT : Sc S0 T := fT.mono rfl
  have FT : FOk (gi T) f := FOk_c (scT.seq f) hF
  have eT : ∀ w o, tls (gi T) f w o = tls (gi S0) f w o := fun w o => (tls_c (scT.seq f) hF.1 hf.1 w o).symm
  have eN : nsF (gi T) f = nsF (gi S0) f := (nsF_c (scT.seq f)).symm
  have eSg : ∀ (m : Nat) (a : Int), sgm (gi T) m a = sgm (gi S0) m a := fun m a => sgm_fr fT ⟨rfl, rfl⟩ m a
  have q73 : gi T 73 = gi S0 73 := funext fun i => fT.i rfl
  have q75 : gi T 75 = gi S0 75 := funext fun i => fT.i rfl
  have q76 : gi T 76 = gi S0 76 := funext fun i => fT.i rfl
  have q77 : gi T 77 = gi S0 77 := funext fun i => fT.i rfl
  have erk : ∀ i, rk (gi T) f i = rk (gi S0) f i := by
    intro i
    induction i with
    | zero => rfl
    | succ i ih => rw [rk_s, rk_s, ih, q73]
  have eln : ∀ i, lns (gi T) f (wS (cor S0) y d la es em k) i = lns (gi S0) f (wS (cor S0) y d la es em k) i := by
    intro i
    induction i with
    | zero => rfl
    | succ i ih =>
      rw [lns_s, lns_s, ih, q73, erk]
      unfold lnV
      rw [q75, q76, q77, eSg, eSg]
  have eba : ∀ i, bar (gi T) f (wS (cor S0) y d la es em k) i = bar (gi S0) f (wS (cor S0) y d la es em k) i := by
    intro i
    induction i with
    | zero => rfl
    | succ i ih =>
      rw [bar_s, bar_s, ih, q73, eln]
      unfold lnV
      rw [q75, q76, q77, eSg, eSg]
  have run := g170_l272_w (Q := Q) (K := fun S110 => (g171 k y f S110).bind fun p111 => w_chk ((0 : Int) ≤ (k : Int) ∧ (k : Int) < 12) <| w_lt (gl p111 89 k) fun V113 => w_ckJ (sm (fun j => ifp (y < gi S0 67 j) (prS (cor S0) (gi S0) f y d la th es em j)) k + V113) fun V114 => w_ckI ((k : Int) + 1) fun V115 => g170_l6 y d f es em K n V114 V115 p111) T (f := f) (s := k) (y := y) (d := d) (es := es) (em := em) (acc := sm (fun j => ifp (y < gi S0 67 j) (prS (cor S0) (gi S0) f y d la th es em j)) k) (W := wS (cor S0) y d la es em k) FT (by omega) (by omega) hw.1 hWT ?_ 100000 0 (Nat.zero_le _) (by have := hF.1; rw [eN]; omega) T Fr.refl Nb.refl (fun r a b => t85 r a b) t89
  · rw [show 30 * f + ((0 : Nat) : Int) = 30 * f by omega] at run
    exact run
  · intro S5 hF5 hN5 hL5 hB5
    rw [eN, eln] at hL5
    rw [eN, eba] at hB5
    have f5 : Fr fr7 S0 S5 := fT.trans (hF5.mono rfl)
    have sc5 : Sc S0 S5 := f5.mono rfl
    have F5 : FOk (gi S5) f := FOk_c (sc5.seq f) hF
    have e5 : ∀ w o, tls (gi S5) f w o = tls (gi S0) f w o := fun w o => (tls_c (sc5.seq f) hF.1 hf.1 w o).symm
    have sb := SB_1 (y := y) (d := d) (la := la) (th := th) (es := es) (em := em) hB hF hf.1 hks
    have g171 := g171_w (S := S5) (f := f) (s := k) (y := y) (b := baS (cor S0) (gi S0) f y d la es em k) (la := la k) (th := th k) (hd := wS (cor S0) y d la es em k 5) F5 hf (by omega) hB5 ((hF5.l rfl).trans t86) ((hF5.l rfl).trans t87) ((f5.l rfl).trans l90.1) ((f5.l rfl).trans (h91 k hks.1 hks.2 ho)) ((hF5.l rfl).trans t92) (fun z => hy0 z k) sb.1 l90.2 r5
    rw [e5, e5, e5] at g171
    refine p_use g171 (fun S6 h6 => ?_)
    have f6 : Fr fr7 S0 S6 := f5.trans (h6.1.mono rfl)
    have n6 : Nb k S S6 := (nT.trans hN5).trans h6.2.1
    have epr : gl S6 89 k = prS (cor S0) (gi S0) f y d la th es em k := h6.2.2.2.2
    have hp12 := sm_ifp_rng (c := fun j => y < gi S0 67 j) (g := fun j => prS (cor S0) (gi S0) f y d la th es em j) (A := -100000000000) (B := 100000000000) (n := (gi S0 55 1).toNat) (by omega) (by omega) (by omega) (fun j hj => (SB_1 (y := y) (d := d) (la := la) (th := th) (es := es) (em := em) hB hF hf.1 (s := j) (by omega)).2.2.1) k hk
    have hpk := sb.2.2.1
    rw [chk_t (by omega), lt_t, epr, ckJ_t (by omega), ckI_t (by omega)]
    have ih2 := ih S6 f6 (fun j a b => ?_)
    · rw [sm_s, ifp_t ho] at ih2
      exact ih2
    · by_cases hj : j = k
      · rw [hj, ifp_t ho, ifp_t ho, ifp_t ho]
        refine ⟨h6.2.2.1, h6.2.2.2.1, (h6.1.l rfl).trans ((hF5.l rfl).trans t88), epr, fun _ _ => (h6.1.l rfl).trans ((hF5.l rfl).trans t92), fun r a1 a2 => ?_⟩
        rw [ifp_t ho]
        exact (h6.1.l rfl).trans (hL5 r a1 a2)
      · exact (hR.nb n6) j a (by omega)
end WA
