/-! foretold, the reference's way; doubt -/
section FR2
variable {S : gM}
/-- the mark of the latest year below k, -1 without -/
def lyv (C : Nat → Int → Int) (s w d : Int) (k : Nat) : Int := if lyr C s w d k < 0 then -1 else own C s (lyr C s w d k) w d
theorem lyv_s (C : Nat → Int → Int) (s w d : Int) (k : Nat) : lyv C s w d (k + 1) = if own C s k w d = -1 then lyv C s w d k else own C s k w d := by
  unfold lyv
  rw [lyr_s]
  by_cases h : own C s k w d = -1
  · rw [if_pos h, if_pos h]
  · rw [if_neg h, if_neg h, if_neg (by omega)]
theorem lyv_0 (C : Nat → Int → Int) (s w d : Int) : lyv C s w d 0 = -1 := rfl
theorem g192_l50_b (hm : MarkI S) {s w n' x v : Int} {K : Int → Int → gM → Option (Int × gM)} (hv : ¬ v = -1) : ∀ (n k : Nat), k ≤ 10 → k < n → g192_l50 s w n' x K n v (-1) ((k : Int) - 1) S = K v (lyv (cor S) s w (gi S 55 0) k) S := by
  intro n
  have h0 := hm.1
  induction n with
  | zero => intro k h1 h2; omega
  | succ n ih =>
    intro k h1 h2
    dsimp only [g192_l50]
    cases k with
    | zero => rw [if_pos (by omega), lyv_0]
    | succ k =>
      rw [if_neg (by omega), if_neg (fun z => z rfl), lt_t, show (((k + 1 : Nat) : Int) - 1) = (k : Int) by omega, g126_eq ⟨h0.1, h0.2.1⟩, ob_s, lyv_s]
      dsimp only
      by_cases h : own (cor S) s k w (gi S 55 0) = -1
      · rw [if_neg (fun z => z h), if_pos h, ckI_t (by omega), show (k : Int) + -1 = (k : Int) - 1 by omega]
        exact ih k (by omega) (by omega)
      · rw [if_pos h, if_pos hv, if_neg h, ckI_t (by omega)]
        cases n with
        | zero => omega
        | succ n =>
          dsimp only [g192_l50]
          by_cases hk : (k : Int) + -1 < 0
          · rw [if_pos hk]
          · rw [if_neg hk, if_pos h]
theorem g192_l50_a (hm : MarkI S) {s w n' x : Int} {K : Int → Int → gM → Option (Int × gM)} : ∀ (n k : Nat), k ≤ 10 → k < n → g192_l50 s w n' x K n (-1) (-1) ((k : Int) - 1) S = (if lyr (cor S) s w (gi S 55 0) k < 0 then K (-1) (-1) S else K (lyv (cor S) s w (gi S 55 0) k) (lyv (cor S) s w (gi S 55 0) (lyr (cor S) s w (gi S 55 0) k).toNat) S) := by
  intro n
  have h0 := hm.1
  induction n with
  | zero => intro k h1 h2; omega
  | succ n ih =>
    intro k h1 h2
    dsimp only [g192_l50]
    cases k with
    | zero => rw [if_pos (by omega), if_pos (by unfold lyr; omega)]
    | succ k =>
      rw [if_neg (by omega), if_neg (fun z => z rfl), lt_t, show (((k + 1 : Nat) : Int) - 1) = (k : Int) by omega, g126_eq ⟨h0.1, h0.2.1⟩, ob_s, lyv_s, lyr_s]
      dsimp only
      by_cases h : own (cor S) s k w (gi S 55 0) = -1
      · rw [if_neg (fun z => z h), if_pos h, if_pos h, ckI_t (by omega), show (k : Int) + -1 = (k : Int) - 1 by omega]
        exact ih k (by omega) (by omega)
      · rw [if_pos h, if_neg (fun z => z rfl), if_neg h, if_neg h, ckI_t (by omega), show (k : Int) + -1 = (k : Int) - 1 by omega, if_neg (by omega), show ((k : Int)).toNat = k by omega]
        exact g192_l50_b hm h n k (by omega) (by omega)
theorem frV_eq (C : Nat → Int → Int) (s w d k x : Int) : frV C s w d k x = if lyr C s w d (d / 100 + 1).toNat < 0 ∨ lyr C s w d (lyr C s w d (d / 100 + 1).toNat).toNat < 0 then -1 else frt (lyv C s w d (d / 100 + 1).toNat) (lyv C s w d (lyr C s w d (d / 100 + 1).toNat).toNat) k x := by
  unfold frV lyv
  by_cases h : lyr C s w d (d / 100 + 1).toNat < 0 ∨ lyr C s w d (lyr C s w d (d / 100 + 1).toNat).toNat < 0
  · rw [if_pos h, if_pos h]
  · rw [if_neg h, if_neg h, if_neg (by omega), if_neg (by omega)]
theorem lyv_rng (hm : MarkI S) (s w d : Int) (k : Nat) : -1 ≤ lyv (cor S) s w d k ∧ lyv (cor S) s w d k ≤ 9999 := by
  unfold lyv
  have := hm.rng s (lyr (cor S) s w d k) w d
  split <;> omega
theorem g192_j_w {V U k x : Int} (hV : -1 ≤ V ∧ V ≤ 9999) (hU : -1 ≤ U ∧ U ≤ 9999) (hn : ¬ U = -1) (hk : k = 1 ∨ k = 2 ∨ k = 3 ∨ k = 4 ∨ k = 5) (hx : x = 0 ∨ x = 1 ∨ x = 2) : Wp (fun r => r = (frt V U k x, S)) (g192_j107 k x V U S) := by
  unfold frt g192_j107
  rw [if_pos hn]
  rcases hk with q | q | q | q | q <;> rcases hx with z | z | z <;> subst q z <;> simp only [Int.reduceEq, if_true, if_false, Int.add_zero, not_true_eq_false, not_false_eq_true]
  all_goals repeat (first | (with_reducible refine p_chk ?_ ?_; (· (first | omega | (simp only [gi_wi, gl_wl, gl_wi, gi_wl, gi_wcl, gl_wcl, Nat.reduceEqDiff, Int.reduceEq, false_and, true_and, and_true, and_false, if_false, if_true]; omega)))) | with_reducible refine p_lt ?_ | (with_reducible refine p_ckI ?_ ?_; (· (first | omega | (simp only [gi_wi, gl_wl, gl_wi, gi_wl, gi_wcl, gl_wcl, Nat.reduceEqDiff, Int.reduceEq, false_and, true_and, and_true, and_false, if_false, if_true]; omega)))) | (with_reducible refine p_ckJ ?_ ?_; (· (first | omega | (simp only [gi_wi, gl_wl, gl_wi, gi_wl, gi_wcl, gl_wcl, Nat.reduceEqDiff, Int.reduceEq, false_and, true_and, and_true, and_false, if_false, if_true]; omega)))))
  all_goals first | exact p_some rfl | exact p_some (by congr 1)
theorem g192_w (hm : MarkI S) (hn : 0 ≤ gi S 55 1 ∧ gi S 55 1 ≤ 12) (ht : 0 ≤ gi S 55 0 ∧ gi S 55 0 ≤ 999) (s w k x : Int) : Wp (Two (c_frt (gi S 55 1) s w k x) (frV (cor S) s w (gi S 55 0) k x) S (-1) S) (g192 s w k x S) := by
  unfold g192 c_frt
  repeat' (first | (with_reducible refine p_chk ?_ ?_; (· (first | omega | (simp only [gi_wi, gl_wl, gl_wi, gi_wl, gi_wcl, gl_wcl, Nat.reduceEqDiff, Int.reduceEq, false_and, true_and, and_true, and_false, if_false, if_true]; omega)))) | with_reducible refine p_lt ?_ | (with_reducible refine p_ckI ?_ ?_; (· (first | omega | (simp only [gi_wi, gl_wl, gl_wi, gi_wl, gi_wcl, gl_wcl, Nat.reduceEqDiff, Int.reduceEq, false_and, true_and, and_true, and_false, if_false, if_true]; omega)))) | (with_reducible refine p_ckJ ?_ ?_; (· (first | omega | (simp only [gi_wi, gl_wl, gl_wi, gi_wl, gi_wcl, gl_wcl, Nat.reduceEqDiff, Int.reduceEq, false_and, true_and, and_true, and_false, if_false, if_true]; omega)))) | (with_reducible refine p_call (g102_eq _ _) ?_; try dsimp only) | (with_reducible refine p_call (g103_eq _) ?_; try dsimp only) | (with_reducible refine p_call (g104_eq _) ?_; try dsimp only) | (with_reducible refine p_call (g105_eq _) ?_; try dsimp only) | (with_reducible refine p_call (g112_eq _ _ _) ?_; try dsimp only) | (with_reducible refine p_call (g113_eq _) ?_; try dsimp only) | (with_reducible refine p_call (g114_eq _) ?_; try dsimp only) | (with_reducible refine p_call (g115_eq _) ?_; try dsimp only) | (with_reducible refine p_call (g116_eq _ ?_) ?_; (· (first | omega | (simp only [gi_wi, gl_wl, gl_wi, gi_wl, gi_wcl, gl_wcl, Nat.reduceEqDiff, Int.reduceEq, false_and, true_and, and_true, and_false, if_false, if_true]; omega))); try dsimp only) | (with_reducible refine p_call (g118_eq ?_) ?_; (· (first | omega | (simp only [gi_wi, gl_wl, gl_wi, gi_wl, gi_wcl, gl_wcl, Nat.reduceEqDiff, Int.reduceEq, false_and, true_and, and_true, and_false, if_false, if_true]; omega))); try dsimp only) | (with_reducible refine p_call (g106_eq _ ?_) ?_; (· (first | omega | (simp only [gi_wi, gl_wl, gl_wi, gi_wl, gi_wcl, gl_wcl, Nat.reduceEqDiff, Int.reduceEq, false_and, true_and, and_true, and_false, if_false, if_true]; omega))); try dsimp only) | (with_reducible refine p_call (g2_eq _ _ ?_ ?_) ?_; (· (first | omega | (simp only [gi_wi, gl_wl, gl_wi, gi_wl, gi_wcl, gl_wcl, Nat.reduceEqDiff, Int.reduceEq, false_and, true_and, and_true, and_false, if_false, if_true]; omega))); (· (first | omega | (simp only [gi_wi, gl_wl, gl_wi, gi_wl, gi_wcl, gl_wcl, Nat.reduceEqDiff, Int.reduceEq, false_and, true_and, and_true, and_false, if_false, if_true]; omega))); try dsimp only) | (with_reducible refine p_call (g3_eq _ ?_) ?_; (· (first | omega | (simp only [gi_wi, gl_wl, gl_wi, gi_wl, gi_wcl, gl_wcl, Nat.reduceEqDiff, Int.reduceEq, false_and, true_and, and_true, and_false, if_false, if_true]; omega))); try dsimp only) | (with_reducible refine p_call (g122_eq _ _ ?_) ?_; (· (first | omega | (simp only [gi_wi, gl_wl, gl_wi, gi_wl, gi_wcl, gl_wcl, Nat.reduceEqDiff, Int.reduceEq, false_and, true_and, and_true, and_false, if_false, if_true]; omega))); try dsimp only) | (with_reducible refine p_call (g58_eq) ?_; try dsimp only) | with_reducible refine p_if1 (fun _ => ?_) (fun _ => ?_) | with_reducible refine p_if1n (fun _ => ?_) (fun _ => ?_) | with_reducible refine p_if (fun _ => ?_) (fun _ => ?_))
  all_goals first | exact p_some ⟨fun z => absurd z (by omega), fun _ => rfl⟩ | skip
  have e := g192_l50_a hm (s := s) (w := w) (n' := k) (x := x) (K := fun Y19 Y20 S21 => g192_j107 k x Y19 Y20 S21) 100000 (gi S 55 0 / 100 + 1).toNat (by omega) (by omega)
  rw [show (((gi S 55 0 / 100 + 1).toNat : Nat) : Int) - 1 = gi S 55 0 / 100 by omega] at e
  rw [e, frV_eq]
  have r1 := lyr_rng (cor S) s w (gi S 55 0) (gi S 55 0 / 100 + 1).toNat
  have r2 := lyr_rng (cor S) s w (gi S 55 0) (lyr (cor S) s w (gi S 55 0) (gi S 55 0 / 100 + 1).toNat).toNat
  have v1 := lyv_rng hm s w (gi S 55 0) (gi S 55 0 / 100 + 1).toNat
  have v2 := lyv_rng hm s w (gi S 55 0) (lyr (cor S) s w (gi S 55 0) (gi S 55 0 / 100 + 1).toNat).toNat
  refine p_if (fun h => ?_) (fun h => ?_)
  · rw [if_pos (Or.inl h)]
    exact p_some ⟨fun _ => rfl, fun z => absurd (by omega) z⟩
  · by_cases h2 : lyr (cor S) s w (gi S 55 0) (lyr (cor S) s w (gi S 55 0) (gi S 55 0 / 100 + 1).toNat).toNat < 0
    · rw [if_pos (Or.inr h2)]
      have e2 : lyv (cor S) s w (gi S 55 0) (lyr (cor S) s w (gi S 55 0) (gi S 55 0 / 100 + 1).toNat).toNat = -1 := by unfold lyv; rw [if_pos h2]
      rw [e2]
      exact p_some ⟨fun _ => rfl, fun z => absurd (by omega) z⟩
    · rw [if_neg (by omega)]
      refine p_imp (g192_j_w v1 v2 ?_ (by omega) (by omega)) (fun r hr => ⟨fun _ => hr, fun z => absurd (by omega) z⟩)
      unfold lyv
      rw [if_neg h2]
      exact r2.2.2 (by omega)
end FR2
