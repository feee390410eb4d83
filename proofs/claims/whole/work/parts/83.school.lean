/-! the reference's works: a school's lines, all schools -/
section WL
variable {S : gM}
theorem sgm_fr {S S' : gM} {W : List Nat} (hF : Fr W S S') (hw : W.contains 78 = false ∧ W.contains 79 = false) (k : Nat) (a : Int) : sgm (gi S') k a = sgm (gi S) k a := sgm_c (a := a) k a (fun j _ => ⟨hF.i hw.1, hF.i hw.2⟩)
theorem g170_l272_w {Q : gM → Prop} {K : gM → Option gM} (S0 : gM) {f s y d es em acc : Int} (hF : FOk (gi S0) f) (hf : 0 ≤ f ∧ f < 9) (hs : 0 ≤ s ∧ s < 12) {W : Int → Int} (hWr : ∀ i : Int, 0 ≤ i → i < 10 → -100000000 ≤ W i ∧ W i ≤ 100000000) (hW : ∀ i : Int, 0 ≤ i → i < 10 → gl S0 82 i = W i)
    (hK : ∀ S, Fr [81, 85, 89] S0 S → Nb s S0 S → (∀ r : Int, 0 ≤ r → r < 30 → gl S 85 (30 * s + r) = lns (gi S0) f W (nsF (gi S0) f).toNat r) → gl S 89 s = bar (gi S0) f W (nsF (gi S0) f).toNat → Wp Q (K S)) :
    ∀ n i : Nat, i ≤ (nsF (gi S0) f).toNat → (nsF (gi S0) f).toNat - i < n → ∀ S, Fr [81, 85, 89] S0 S → Nb s S0 S → (∀ r : Int, 0 ≤ r → r < 30 → gl S 85 (30 * s + r) = lns (gi S0) f W i r) → gl S 89 s = bar (gi S0) f W i → Wp Q (g170_l272 y d f es em acc s K n (30 * f + i) S) := by
  have hn := hF.1
  have ens : nsF (gi S0) f = gi S0 70 f := by unfold nsF; rw [if_neg (by omega)]
  refine upto (nsF (gi S0) f).toNat (fun n i => ∀ S, Fr [81, 85, 89] S0 S → Nb s S0 S → (∀ r : Int, 0 ≤ r → r < 30 → gl S 85 (30 * s + r) = lns (gi S0) f W i r) → gl S 89 s = bar (gi S0) f W i → Wp Q (g170_l272 y d f es em acc s K n (30 * f + i) S)) ?_
  intro n i hi ih S hFr hN hL hB
  dsimp only [g170_l272]
  have c70 : gi S 70 f = gi S0 70 f := hFr.i rfl
  have c73 : gi S 73 (30 * f + i) = gi S0 73 (30 * f + i) := hFr.i rfl
  have c74 : ∀ S, Fr [81, 85, 89] S0 S → gi S 74 (30 * f + i) = gi S0 74 (30 * f + i) := fun S h => h.i rfl
  have c75 : ∀ S, Fr [81, 85, 89] S0 S → gi S 75 (30 * f + i) = gi S0 75 (30 * f + i) := fun S h => h.i rfl
  have c76 : ∀ S, Fr [81, 85, 89] S0 S → gi S 76 (30 * f + i) = gi S0 76 (30 * f + i) := fun S h => h.i rfl
  have c77 : ∀ S, Fr [81, 85, 89] S0 S → gi S 77 (30 * f + i) = gi S0 77 (30 * f + i) := fun S h => h.i rfl
  rw [ckI_t (by omega), chk_t (by omega), lt_t, c70, ckI_t (by omega)]
  refine p_if (fun hc => ?_) (fun hc => ?_)
  · have : i = (nsF (gi S0) f).toNat := by omega
    subst this
    exact hK S hFr hN hL hB
  have ih := ih (by omega)
  have hst := hF.2 i (by omega)
  rw [chk_t (by omega), lt_t, c73]
  refine p_if (fun h0 => ?_) (fun h0 => ?_)
  · have h2 := hst.2.1 h0
    have hlr := lns_rng hF hWr i (by omega)
    obtain ⟨v, e1, e2, -⟩ := h2.2.2.1 W (lns (gi S0) f W i) hWr (fun r _ _ => hlr.1 r)
    have hrk := rk_le (gi S0) f i
    rw [chk_t (by omega), lt_t, c76 S hFr, chk_t (by omega), lt_t, c77 S hFr]
    -- the end of a step: the line's value is stored
    have fin : ∀ (S1 : gM) (x : Int), Fr [81, 85, 89] S0 S1 → Nb s S0 S1 → (∀ r : Int, 0 ≤ r → r < 30 → gl S1 85 (30 * s + r) = lns (gi S0) f W i r) → gl S1 89 s = bar (gi S0) f W i → x = lnV (gi S0) f W (lns (gi S0) f W i) i → (-100000000 ≤ x ∧ x ≤ 100000000) →
        Wp Q (g170_j396 K (g170_l272 y d f es em acc s K n) y d f es em acc s (30 * f + i) (30 * s + gi S0 74 (30 * f + i)) x S1) := by
      intro S1 x a1 a2 a3 a4 a5 a6
      unfold g170_j396
      rw [h2.1, chk_t (by omega), lt_t, chk_t (by omega), lt_t, ckI_t (by omega), chk_t (by omega), lt_t]
      have e74 : gi (wl S1 85 (30 * s + (rk (gi S0) f i : Int)) x) 74 (30 * f + i) = rk (gi S0) f i := by rw [gi_wl, c74 S1 a1, h2.1]
      rw [e74, ckI_t (by omega), chk_t (by omega), lt_t]
      have e85 : gl (wl S1 85 (30 * s + (rk (gi S0) f i : Int)) x) 85 (30 * s + (rk (gi S0) f i : Int)) = x := by rw [gl_wl]; exact if_pos ⟨rfl, rfl⟩
      have e89 : gl (wl S1 85 (30 * s + (rk (gi S0) f i : Int)) x) 89 s = bar (gi S0) f W i := by rw [gl_wl, if_neg (by rintro ⟨z, -⟩; cases z)]; exact a4
      rw [e85, e89, ckJ_t (by omega), chk_t (by omega), lt_t, ckI_t (by omega)]
      have ih2 := ih (wl (wl S1 85 (30 * s + (rk (gi S0) f i : Int)) x) 89 s (bar (gi S0) f W i + x)) ((a1.wl rfl).wl rfl) ((a2.wl (Or.inr (Or.inl ⟨rfl, by omega, by omega⟩))).wl (Or.inl ⟨by omega, rfl⟩)) (fun r h1 h3 => ?_) ?_
      · rw [show 30 * f + ((i + 1 : Nat) : Int) = 30 * f + i + 1 by omega] at ih2
        exact ih2
      · rw [gl_wl, if_neg (by rintro ⟨z, -⟩; cases z), gl_wl, lns_s, if_pos h0]
        by_cases hr : r = rk (gi S0) f i
        · rw [if_pos ⟨rfl, by omega⟩, if_pos hr, a5]
        · rw [if_neg (by omega), if_neg hr]; exact a3 r h1 h3
      · rw [gl_wl, if_pos ⟨rfl, rfl⟩, bar_s, if_pos h0, a5]
    have exq : ∀ S1 : gM, Fr [81, 85, 89] S0 S1 → Nb s S0 S1 → (∀ r : Int, 0 ≤ r → r < 30 → gl S1 85 (30 * s + r) = lns (gi S0) f W i r) → gl S1 89 s = bar (gi S0) f W i → (gi S0 76 (30 * f + i) = gi S0 77 (30 * f + i) ∨ evV W (lns (gi S0) f W i) (sgm (gi S0) (gi S0 77 (30 * f + i) - gi S0 76 (30 * f + i)).toNat (gi S0 76 (30 * f + i))) = 1) → Wp Q (g170_j343 K (g170_l272 y d f es em acc s K n) y d f es em acc s (30 * f + i) S1) := by
      intro S1 a1 a2 a3 a4 hol
      unfold g170_j343 g170_j348
      rw [ckI_t (by omega), chk_t (by omega), lt_t, c74 S1 a1, h2.1, ckI_t (by omega), if_neg (by decide), chk_t (by omega), lt_t, c75 S1 a1, chk_t (by omega), lt_t, c76 S1 a1]
      have hrun := g168_w (S := S1) (W := W) (L := lns (gi S0) f W i) (s := s) (a := gi S0 75 (30 * f + i)) (v := v) (k := (gi S0 76 (30 * f + i) - gi S0 75 (30 * f + i)).toNat) hs (fun j q1 q2 => (a1.l rfl).trans (hW j q1 q2)) a3 (by omega) (by omega) (by rw [sgm_fr a1 ⟨rfl, rfl⟩]; exact e1)
      rw [show gi S0 75 (30 * f + i) + (((gi S0 76 (30 * f + i) - gi S0 75 (30 * f + i)).toNat : Nat) : Int) = gi S0 76 (30 * f + i) by omega] at hrun
      refine p_use hrun (fun r hr => ?_)
      have := fin r.2 r.1 (a1.trans (hr.2.mono rfl)) (a2.fr hr.2 rfl) (fun q h1 h3 => by rw [hr.2.l rfl]; exact a3 q h1 h3) (by rw [hr.2.l rfl]; exact a4) (by unfold lnV; rw [ifp_t hol, evV_eq e1]; exact hr.1) (by rw [hr.1]; exact e2)
      rw [h2.1] at this
      exact this
    refine p_if (fun hmt => exq S hFr hN hL hB (Or.inl hmt)) (fun hmt => ?_)
    obtain ⟨cv, e3, e4, e5⟩ := h2.2.2.2 (by omega) W (lns (gi S0) f W i) hWr (fun r _ _ => hlr.1 r)
    rw [chk_t (by omega), lt_t, chk_t (by omega), lt_t]
    have hrun := g168_w (S := S) (W := W) (L := lns (gi S0) f W i) (s := s) (a := gi S0 76 (30 * f + i)) (v := cv) (k := (gi S0 77 (30 * f + i) - gi S0 76 (30 * f + i)).toNat) hs (fun j q1 q2 => (hFr.l rfl).trans (hW j q1 q2)) hL (by omega) (by omega) (by rw [sgm_fr hFr ⟨rfl, rfl⟩]; exact e3)
    rw [show gi S0 76 (30 * f + i) + (((gi S0 77 (30 * f + i) - gi S0 76 (30 * f + i)).toNat : Nat) : Int) = gi S0 77 (30 * f + i) by omega] at hrun
    refine p_use hrun (fun r hr => ?_)
    have b1 : Fr [81, 85, 89] S0 r.2 := hFr.trans (hr.2.mono rfl)
    have b2 : Nb s S0 r.2 := hN.fr hr.2 rfl
    have b3 : ∀ q : Int, 0 ≤ q → q < 30 → gl r.2 85 (30 * s + q) = lns (gi S0) f W i q := fun q h1 h3 => by rw [hr.2.l rfl]; exact hL q h1 h3
    have b4 : gl r.2 89 s = bar (gi S0) f W i := by rw [hr.2.l rfl]; exact hB
    refine p_if (fun hno => ?_) (fun hyes => exq r.2 b1 b2 b3 b4 (Or.inr (by rw [evV_eq e3, ← hr.1]; exact Classical.not_not.mp hyes)))
    unfold g170_j348
    rw [ckI_t (by omega), chk_t (by omega), lt_t, c74 r.2 b1, h2.1, ckI_t (by omega), if_pos rfl]
    have := fin r.2 0 b1 b2 b3 b4 (by unfold lnV; rw [ifp_f (fun z => by rcases z with z | z; exact hmt z; rw [evV_eq e3, ← hr.1] at z; exact hno z)]) (by omega)
    rw [h2.1] at this
    exact this
  · rw [ckI_t (by omega)]
    have ih2 := ih S hFr hN (fun r h1 h2 => by rw [lns_s, if_neg h0]; exact hL r h1 h2) (by rw [bar_s, if_neg h0]; exact hB)
    rw [show 30 * f + ((i + 1 : Nat) : Int) = 30 * f + i + 1 by omega] at ih2
    exact ih2
theorem g170_l58_w {Q : gM → Prop} {K : gM → Option gM} (S0 : gM) {f s y d es em acc : Int} (hs : 0 ≤ s ∧ s < 12) (hK : ∀ S, Fr [85] S0 S → Nb s S0 S → (∀ r : Int, 0 ≤ r → r < 30 → gl S 85 (30 * s + r) = 0) → Wp Q (K S)) :
    ∀ n i : Nat, i ≤ 30 → 30 - i < n → ∀ S, Fr [85] S0 S → Nb s S0 S → (∀ r : Int, 0 ≤ r → r < i → gl S 85 (30 * s + r) = 0) → Wp Q (g170_l58 y d f es em acc s K n i S) := by
  refine upto 30 (fun n i => ∀ S, Fr [85] S0 S → Nb s S0 S → (∀ r : Int, 0 ≤ r → r < i → gl S 85 (30 * s + r) = 0) → Wp Q (g170_l58 y d f es em acc s K n i S)) ?_
  intro n i hi ih S hF hN hI
  dsimp only [g170_l58]
  refine p_if (fun hc => hK S hF hN (fun r a b => hI r a (by omega))) (fun hc => ?_)
  repeat (first | (with_reducible refine p_chk ?_ ?_; (· (first | omega | (simp only [gi_wi, gl_wl, gl_wi, gi_wl, gi_wcl, gl_wcl, Nat.reduceEqDiff, Int.reduceEq, false_and, true_and, and_true, and_false, if_false, if_true]; omega)))) | with_reducible refine p_lt ?_ | (with_reducible refine p_ckI ?_ ?_; (· (first | omega | (simp only [gi_wi, gl_wl, gl_wi, gi_wl, gi_wcl, gl_wcl, Nat.reduceEqDiff, Int.reduceEq, false_and, true_and, and_true, and_false, if_false, if_true]; omega)))) | (with_reducible refine p_ckJ ?_ ?_; (· (first | omega | (simp only [gi_wi, gl_wl, gl_wi, gi_wl, gi_wcl, gl_wcl, Nat.reduceEqDiff, Int.reduceEq, false_and, true_and, and_true, and_false, if_false, if_true]; omega)))))
  refine ih (by omega) _ (hF.wl rfl) (hN.wl (Or.inr (Or.inl ⟨rfl, by omega, by omega⟩))) (fun r a b => ?_)
  rw [gl_wl]
  by_cases hr : r = i
  · rw [if_pos ⟨rfl, by omega⟩]
  · rw [if_neg (by omega)]; exact hI r a (by omega)
theorem g170_l106_w {Q : gM → Prop} {K : gM → Option gM} (S0 : gM) (hB : Bas S0) {f s y d es em acc : Int} (hs : 0 ≤ s ∧ s < gi S0 55 1) (hy : 0 ≤ y ∧ y ≤ 9) (hK : ∀ S, Fr [82] S0 S → (∀ i : Int, 0 ≤ i → i < 5 → gl S 82 i = mkB (cor S0) s y (max 0 (y - 1)) i d + (if s = es ∧ i = em then 1 else 0)) → Wp Q (K S)) :
    ∀ n i : Nat, i ≤ 5 → 5 - i < n → ∀ S, Fr [82] S0 S → (∀ j : Int, 0 ≤ j → j < i → gl S 82 j = mkB (cor S0) s y (max 0 (y - 1)) j d + (if s = es ∧ j = em then 1 else 0)) → Wp Q (g170_l106 y d f es em acc s K n i S) := by
  refine upto 5 (fun n i => ∀ S, Fr [82] S0 S → (∀ j : Int, 0 ≤ j → j < i → gl S 82 j = mkB (cor S0) s y (max 0 (y - 1)) j d + (if s = es ∧ j = em then 1 else 0)) → Wp Q (g170_l106 y d f es em acc s K n i S)) ?_
  intro n i hi ih S hF hI
  dsimp only [g170_l106]
  refine p_if (fun hc => hK S hF (fun r a b => hI r a (by omega))) (fun hc => ?_)
  have hSc : Sc S0 S := hF.mono rfl
  have hBS := hB.sc hSc
  have h0 := hB.2.1.1
  have hlk : g169 y S = some (max 0 (y - 1), S) := by unfold g169; rw [ckI_t (by omega)]; rfl
  have hb := mkB_rng hBS.1 hBS.2.1 s y (max 0 (y - 1)) i d
  refine p_call hlk ?_
  dsimp only
  refine p_call (g132_eq hBS.1 hBS.2.1 s _ i d hy.2) ?_
  dsimp only
  rw [hSc.cE] at hb ⊢
  have go : ∀ v : Int, v = mkB (cor S0) s y (max 0 (y - 1)) i d + (if s = es ∧ (i : Int) = em then 1 else 0) → Wp Q (w_chk ((0 : Int) ≤ (i : Int) ∧ (i : Int) < 10) <| w_lt (wl S 82 i v) fun S30 => w_ckI ((i : Int) + 1) fun V31 => g170_l106 y d f es em acc s K n V31 S30) := by
    intro v hv
    repeat (first | (with_reducible refine p_chk ?_ ?_; (· (first | omega | (simp only [gi_wi, gl_wl, gl_wi, gi_wl, gi_wcl, gl_wcl, Nat.reduceEqDiff, Int.reduceEq, false_and, true_and, and_true, and_false, if_false, if_true]; omega)))) | with_reducible refine p_lt ?_ | (with_reducible refine p_ckI ?_ ?_; (· (first | omega | (simp only [gi_wi, gl_wl, gl_wi, gi_wl, gi_wcl, gl_wcl, Nat.reduceEqDiff, Int.reduceEq, false_and, true_and, and_true, and_false, if_false, if_true]; omega)))) | (with_reducible refine p_ckJ ?_ ?_; (· (first | omega | (simp only [gi_wi, gl_wl, gl_wi, gi_wl, gi_wcl, gl_wcl, Nat.reduceEqDiff, Int.reduceEq, false_and, true_and, and_true, and_false, if_false, if_true]; omega)))))
    refine ih (by omega) _ (hF.wl rfl) (fun j a b => ?_)
    rw [gl_wl]
    by_cases hj : j = i
    · rw [if_pos ⟨rfl, hj⟩, hv, hj]
    · rw [if_neg (fun z => hj z.2)]; exact hI j a (by omega)
  refine p_if (fun h1 => ?_) (fun h1 => ?_)
  · rw [ckI_t (by omega)]; exact go _ (by rw [if_neg (fun z => h1 z.1)])
  · refine p_if (fun h2 => ?_) (fun h2 => ?_)
    · rw [ckI_t (by omega)]; exact go _ (by rw [if_neg (fun z => h2 z.2)])
    · rw [ckI_t (by omega)]; exact go _ (by rw [if_pos ⟨Classical.not_not.mp h1, Classical.not_not.mp h2⟩])
end WL
