/-! feed, propose, object, foretold -/
section SM2
variable {S : gM}
/-- the cells of the tape behind a feed of five numbers; j: which byte -/
def fd (f : Int → Int → Int) (a b c d e : Int) (k : Int) : Int := if k < 4 then f a k else if k < 8 then f b (k - 4) else if k < 12 then f c (k - 8) else if k < 16 then f d (k - 12) else f e (k - 16)
theorem g83_w (ht : 0 ≤ gi S 0 7 ∧ gi S 0 7 ≤ 700) (a b c d e : Int) : Wp (fun r => (gi S 0 7 ≤ 680 → r.1 = gi S 0 7 + 20 ∧ Fr [1000000007, 54] S r.2 ∧ gi r.2 0 7 = gi S 0 7 + 20 ∧ ∀ k, gi r.2 54 k = if gi S 0 7 ≤ k ∧ k < gi S 0 7 + 20 then fd bo a b c d e (k - gi S 0 7) else gi S 54 k) ∧ (¬ gi S 0 7 ≤ 680 → r = (-1, S))) (g83 a b c d e S) := by
  unfold g83
  rw [lt_t]
  refine p_if (fun hc => ?_) (fun hc => p_some ⟨fun z => absurd z hc, fun _ => rfl⟩)
  refine p_use (g107_w a (by omega)) (fun S1 h1 => ?_)
  refine p_use (g107_w b (by omega)) (fun S2 h2 => ?_)
  refine p_use (g107_w c (by omega)) (fun S3 h3 => ?_)
  refine p_use (g107_w d (by omega)) (fun S4 h4 => ?_)
  refine p_use (g107_w e (by omega)) (fun S5 h5 => ?_)
  refine p_some ⟨fun _ => ⟨by show gi S5 0 7 = _; omega, (((h1.1.trans h2.1).trans h3.1).trans h4.1).trans h5.1, by show gi S5 0 7 = _; omega, fun k => ?_⟩, fun z => absurd hc z⟩
  show gi S5 54 k = _
  unfold fd
  rw [h5.2.2, h4.2.2, h3.2.2, h2.2.2, h1.2.2]
  by_cases q5 : gi S4 0 7 ≤ k ∧ k < gi S4 0 7 + 4
  · rw [if_pos q5, if_pos (by omega), if_neg (by omega), if_neg (by omega), if_neg (by omega), if_neg (by omega), show k - gi S4 0 7 = k - gi S 0 7 - 16 by omega]
  rw [if_neg q5]
  by_cases q4 : gi S3 0 7 ≤ k ∧ k < gi S3 0 7 + 4
  · rw [if_pos q4, if_pos (by omega), if_neg (by omega), if_neg (by omega), if_neg (by omega), if_pos (by omega), show k - gi S3 0 7 = k - gi S 0 7 - 12 by omega]
  rw [if_neg q4]
  by_cases q3 : gi S2 0 7 ≤ k ∧ k < gi S2 0 7 + 4
  · rw [if_pos q3, if_pos (by omega), if_neg (by omega), if_neg (by omega), if_pos (by omega), show k - gi S2 0 7 = k - gi S 0 7 - 8 by omega]
  rw [if_neg q3]
  by_cases q2 : gi S1 0 7 ≤ k ∧ k < gi S1 0 7 + 4
  · rw [if_pos q2, if_pos (by omega), if_neg (by omega), if_pos (by omega), show k - gi S1 0 7 = k - gi S 0 7 - 4 by omega]
  rw [if_neg q2]
  by_cases q1 : gi S 0 7 ≤ k ∧ k < gi S 0 7 + 4
  · rw [if_pos q1, if_pos (by omega), if_pos (by omega)]
  rw [if_neg q1, if_neg (by omega)]
theorem g134_w (ht : 0 ≤ gi S 55 19 ∧ gi S 55 19 ≤ 700) (a b c d e : Int) : Wp (fun r => (gi S 55 19 ≤ 680 → r.1 = gi S 55 19 + 20 ∧ Fr [1000055019, 83] S r.2 ∧ gi r.2 55 19 = gi S 55 19 + 20 ∧ ∀ k, gi r.2 83 k = if gi S 55 19 ≤ k ∧ k < gi S 55 19 + 20 then fd bo2 a b c d e (k - gi S 55 19) else gi S 83 k) ∧ (¬ gi S 55 19 ≤ 680 → r = (-1, S))) (g134 a b c d e S) := by
  unfold g134
  repeat (first | (with_reducible refine p_chk ?_ ?_; (· (first | omega | (simp only [gi_wi, gl_wl, gl_wi, gi_wl, gi_wcl, gl_wcl, Nat.reduceEqDiff, Int.reduceEq, false_and, true_and, and_true, and_false, if_false, if_true]; omega)))) | with_reducible refine p_lt ?_ | (with_reducible refine p_ckI ?_ ?_; (· (first | omega | (simp only [gi_wi, gl_wl, gl_wi, gi_wl, gi_wcl, gl_wcl, Nat.reduceEqDiff, Int.reduceEq, false_and, true_and, and_true, and_false, if_false, if_true]; omega)))) | (with_reducible refine p_ckJ ?_ ?_; (· (first | omega | (simp only [gi_wi, gl_wl, gl_wi, gi_wl, gi_wcl, gl_wcl, Nat.reduceEqDiff, Int.reduceEq, false_and, true_and, and_true, and_false, if_false, if_true]; omega)))))
  refine p_if (fun hc => ?_) (fun hc => p_some ⟨fun z => absurd z (by omega), fun _ => rfl⟩)
  refine p_use (g135_w a (by omega)) (fun S1 h1 => ?_)
  refine p_use (g135_w b (by omega)) (fun S2 h2 => ?_)
  refine p_use (g135_w c (by omega)) (fun S3 h3 => ?_)
  refine p_use (g135_w d (by omega)) (fun S4 h4 => ?_)
  refine p_use (g135_w e (by omega)) (fun S5 h5 => ?_)
  refine p_some ⟨fun _ => ⟨by show gi S5 55 19 = _; omega, (((h1.1.trans h2.1).trans h3.1).trans h4.1).trans h5.1, by show gi S5 55 19 = _; omega, fun k => ?_⟩, fun z => absurd (by omega) z⟩
  show gi S5 83 k = _
  unfold fd
  rw [h5.2.2, h4.2.2, h3.2.2, h2.2.2, h1.2.2]
  by_cases q5 : gi S4 55 19 ≤ k ∧ k < gi S4 55 19 + 4
  · rw [if_pos q5, if_pos (by omega), if_neg (by omega), if_neg (by omega), if_neg (by omega), if_neg (by omega), show k - gi S4 55 19 = k - gi S 55 19 - 16 by omega]
  rw [if_neg q5]
  by_cases q4 : gi S3 55 19 ≤ k ∧ k < gi S3 55 19 + 4
  · rw [if_pos q4, if_pos (by omega), if_neg (by omega), if_neg (by omega), if_neg (by omega), if_pos (by omega), show k - gi S3 55 19 = k - gi S 55 19 - 12 by omega]
  rw [if_neg q4]
  by_cases q3 : gi S2 55 19 ≤ k ∧ k < gi S2 55 19 + 4
  · rw [if_pos q3, if_pos (by omega), if_neg (by omega), if_neg (by omega), if_pos (by omega), show k - gi S2 55 19 = k - gi S 55 19 - 8 by omega]
  rw [if_neg q3]
  by_cases q2 : gi S1 55 19 ≤ k ∧ k < gi S1 55 19 + 4
  · rw [if_pos q2, if_pos (by omega), if_neg (by omega), if_pos (by omega), show k - gi S1 55 19 = k - gi S 55 19 - 4 by omega]
  rw [if_neg q2]
  by_cases q1 : gi S 55 19 ≤ k ∧ k < gi S 55 19 + 4
  · rw [if_pos q1, if_pos (by omega), if_pos (by omega)]
  rw [if_neg q1, if_neg (by omega)]
theorem fd_eq (a b c d e k : Int) (hk : 0 ≤ k ∧ k < 20) : b_byte (fd bo a b c d e k) = fd bo2 a b c d e k ∧ 0 ≤ fd bo a b c d e k ∧ fd bo a b c d e k ≤ 255 := by
  unfold fd
  by_cases h1 : k < 4
  · rw [if_pos h1, if_pos h1]; exact ⟨bo_eq _ _ (by omega), bo_rng _ _⟩
  rw [if_neg h1, if_neg h1]
  by_cases h2 : k < 8
  · rw [if_pos h2, if_pos h2]; exact ⟨bo_eq _ _ (by omega), bo_rng _ _⟩
  rw [if_neg h2, if_neg h2]
  by_cases h3 : k < 12
  · rw [if_pos h3, if_pos h3]; exact ⟨bo_eq _ _ (by omega), bo_rng _ _⟩
  rw [if_neg h3, if_neg h3]
  by_cases h4 : k < 16
  · rw [if_pos h4, if_pos h4]; exact ⟨bo_eq _ _ (by omega), bo_rng _ _⟩
  rw [if_neg h4, if_neg h4]
  exact ⟨bo_eq _ _ (by omega), bo_rng _ _⟩
/-- proposed -/
def c_prop (n p t c a b k y ca cb : Int) : Prop := (0 ≤ c ∧ c < 3) ∧ (0 ≤ a ∧ a < n) ∧ (0 ≤ b ∧ b < n) ∧ ¬ a = b ∧ ca = c ∧ cb = c ∧ (1 ≤ k ∧ k ≤ 9999999) ∧ ((0 ≤ y ∧ y < 10) ∧ t / 100 < y) ∧ p < 20
def w92 (S : gM) (c a b k y : Int) : gM := wi (wi (wi (wi (wi (wi (wi S 46 (gi S 45 8) c) 50 (gi S 45 8) y) 51 (gi S 45 8) (gi S 0 10)) 45 8 (gi S 45 8 + 1)) 47 (gi S 45 8) a) 48 (gi S 45 8) b) 49 (gi S 45 8) k
theorem g21_eq (c y t : Int) (h : 0 ≤ gi S 45 8 ∧ gi S 45 8 < 20) : g21 c y t S = some (gi S 45 8, wi (wi (wi (wi S 46 (gi S 45 8) c) 50 (gi S 45 8) y) 51 (gi S 45 8) t) 45 8 (gi S 45 8 + 1)) := by
  refine p_eq ?_
  unfold g21
  repeat' (first | (with_reducible refine p_chk ?_ ?_; (· (first | omega | (simp only [gi_wi, gl_wl, gl_wi, gi_wl, gi_wcl, gl_wcl, Nat.reduceEqDiff, Int.reduceEq, false_and, true_and, and_true, and_false, if_false, if_true]; omega)))) | with_reducible refine p_lt ?_ | (with_reducible refine p_ckI ?_ ?_; (· (first | omega | (simp only [gi_wi, gl_wl, gl_wi, gi_wl, gi_wcl, gl_wcl, Nat.reduceEqDiff, Int.reduceEq, false_and, true_and, and_true, and_false, if_false, if_true]; omega)))) | (with_reducible refine p_ckJ ?_ ?_; (· (first | omega | (simp only [gi_wi, gl_wl, gl_wi, gi_wl, gi_wcl, gl_wcl, Nat.reduceEqDiff, Int.reduceEq, false_and, true_and, and_true, and_false, if_false, if_true]; omega)))) | (with_reducible refine p_call (g102_eq _ _) ?_; try dsimp only) | (with_reducible refine p_call (g103_eq _) ?_; try dsimp only) | (with_reducible refine p_call (g104_eq _) ?_; try dsimp only) | (with_reducible refine p_call (g105_eq _) ?_; try dsimp only) | (with_reducible refine p_call (g112_eq _ _ _) ?_; try dsimp only) | (with_reducible refine p_call (g113_eq _) ?_; try dsimp only) | (with_reducible refine p_call (g114_eq _) ?_; try dsimp only) | (with_reducible refine p_call (g115_eq _) ?_; try dsimp only) | (with_reducible refine p_call (g116_eq _ ?_) ?_; (· (first | omega | (simp only [gi_wi, gl_wl, gl_wi, gi_wl, gi_wcl, gl_wcl, Nat.reduceEqDiff, Int.reduceEq, false_and, true_and, and_true, and_false, if_false, if_true]; omega))); try dsimp only) | (with_reducible refine p_call (g118_eq ?_) ?_; (· (first | omega | (simp only [gi_wi, gl_wl, gl_wi, gi_wl, gi_wcl, gl_wcl, Nat.reduceEqDiff, Int.reduceEq, false_and, true_and, and_true, and_false, if_false, if_true]; omega))); try dsimp only) | (with_reducible refine p_call (g106_eq _ ?_) ?_; (· (first | omega | (simp only [gi_wi, gl_wl, gl_wi, gi_wl, gi_wcl, gl_wcl, Nat.reduceEqDiff, Int.reduceEq, false_and, true_and, and_true, and_false, if_false, if_true]; omega))); try dsimp only) | (with_reducible refine p_call (g2_eq _ _ ?_ ?_) ?_; (· (first | omega | (simp only [gi_wi, gl_wl, gl_wi, gi_wl, gi_wcl, gl_wcl, Nat.reduceEqDiff, Int.reduceEq, false_and, true_and, and_true, and_false, if_false, if_true]; omega))); (· (first | omega | (simp only [gi_wi, gl_wl, gl_wi, gi_wl, gi_wcl, gl_wcl, Nat.reduceEqDiff, Int.reduceEq, false_and, true_and, and_true, and_false, if_false, if_true]; omega))); try dsimp only) | (with_reducible refine p_call (g3_eq _ ?_) ?_; (· (first | omega | (simp only [gi_wi, gl_wl, gl_wi, gi_wl, gi_wcl, gl_wcl, Nat.reduceEqDiff, Int.reduceEq, false_and, true_and, and_true, and_false, if_false, if_true]; omega))); try dsimp only) | (with_reducible refine p_call (g122_eq _ _ ?_) ?_; (· (first | omega | (simp only [gi_wi, gl_wl, gl_wi, gi_wl, gi_wcl, gl_wcl, Nat.reduceEqDiff, Int.reduceEq, false_and, true_and, and_true, and_false, if_false, if_true]; omega))); try dsimp only) | (with_reducible refine p_call (g58_eq) ?_; try dsimp only) | with_reducible refine p_if1 (fun _ => ?_) (fun _ => ?_) | with_reducible refine p_if1n (fun _ => ?_) (fun _ => ?_) | with_reducible refine p_if (fun _ => ?_) (fun _ => ?_))
  · exact p_some (by simp only [gi_wi, gl_wl, gl_wi, gi_wl, gi_wcl, gl_wcl, Nat.reduceEqDiff, Int.reduceEq, false_and, true_and, and_true, and_false, if_false, if_true])
  · omega
theorem g92_w (c a b k y : Int) (hn : gi S 1 7 ≤ 12) (hp : 0 ≤ gi S 45 8) (ht : 0 ≤ gi S 0 10 ∧ gi S 0 10 ≤ 999) : Wp (Two (c_prop (gi S 1 7) (gi S 45 8) (gi S 0 10) c a b k y (gi S 3 a) (gi S 3 b)) (gi S 45 8) (w92 S c a b k y) (-1) S) (g92 c a b k y S) := by
  unfold g92 c_prop
  repeat' (first | (with_reducible refine p_chk ?_ ?_; (· (first | omega | (simp only [gi_wi, gl_wl, gl_wi, gi_wl, gi_wcl, gl_wcl, Nat.reduceEqDiff, Int.reduceEq, false_and, true_and, and_true, and_false, if_false, if_true]; omega)))) | with_reducible refine p_lt ?_ | (with_reducible refine p_ckI ?_ ?_; (· (first | omega | (simp only [gi_wi, gl_wl, gl_wi, gi_wl, gi_wcl, gl_wcl, Nat.reduceEqDiff, Int.reduceEq, false_and, true_and, and_true, and_false, if_false, if_true]; omega)))) | (with_reducible refine p_ckJ ?_ ?_; (· (first | omega | (simp only [gi_wi, gl_wl, gl_wi, gi_wl, gi_wcl, gl_wcl, Nat.reduceEqDiff, Int.reduceEq, false_and, true_and, and_true, and_false, if_false, if_true]; omega)))) | (with_reducible refine p_call (g102_eq _ _) ?_; try dsimp only) | (with_reducible refine p_call (g103_eq _) ?_; try dsimp only) | (with_reducible refine p_call (g104_eq _) ?_; try dsimp only) | (with_reducible refine p_call (g105_eq _) ?_; try dsimp only) | (with_reducible refine p_call (g112_eq _ _ _) ?_; try dsimp only) | (with_reducible refine p_call (g113_eq _) ?_; try dsimp only) | (with_reducible refine p_call (g114_eq _) ?_; try dsimp only) | (with_reducible refine p_call (g115_eq _) ?_; try dsimp only) | (with_reducible refine p_call (g116_eq _ ?_) ?_; (· (first | omega | (simp only [gi_wi, gl_wl, gl_wi, gi_wl, gi_wcl, gl_wcl, Nat.reduceEqDiff, Int.reduceEq, false_and, true_and, and_true, and_false, if_false, if_true]; omega))); try dsimp only) | (with_reducible refine p_call (g118_eq ?_) ?_; (· (first | omega | (simp only [gi_wi, gl_wl, gl_wi, gi_wl, gi_wcl, gl_wcl, Nat.reduceEqDiff, Int.reduceEq, false_and, true_and, and_true, and_false, if_false, if_true]; omega))); try dsimp only) | (with_reducible refine p_call (g106_eq _ ?_) ?_; (· (first | omega | (simp only [gi_wi, gl_wl, gl_wi, gi_wl, gi_wcl, gl_wcl, Nat.reduceEqDiff, Int.reduceEq, false_and, true_and, and_true, and_false, if_false, if_true]; omega))); try dsimp only) | (with_reducible refine p_call (g2_eq _ _ ?_ ?_) ?_; (· (first | omega | (simp only [gi_wi, gl_wl, gl_wi, gi_wl, gi_wcl, gl_wcl, Nat.reduceEqDiff, Int.reduceEq, false_and, true_and, and_true, and_false, if_false, if_true]; omega))); (· (first | omega | (simp only [gi_wi, gl_wl, gl_wi, gi_wl, gi_wcl, gl_wcl, Nat.reduceEqDiff, Int.reduceEq, false_and, true_and, and_true, and_false, if_false, if_true]; omega))); try dsimp only) | (with_reducible refine p_call (g3_eq _ ?_) ?_; (· (first | omega | (simp only [gi_wi, gl_wl, gl_wi, gi_wl, gi_wcl, gl_wcl, Nat.reduceEqDiff, Int.reduceEq, false_and, true_and, and_true, and_false, if_false, if_true]; omega))); try dsimp only) | (with_reducible refine p_call (g122_eq _ _ ?_) ?_; (· (first | omega | (simp only [gi_wi, gl_wl, gl_wi, gi_wl, gi_wcl, gl_wcl, Nat.reduceEqDiff, Int.reduceEq, false_and, true_and, and_true, and_false, if_false, if_true]; omega))); try dsimp only) | (with_reducible refine p_call (g58_eq) ?_; try dsimp only) | with_reducible refine p_if1 (fun _ => ?_) (fun _ => ?_) | with_reducible refine p_if1n (fun _ => ?_) (fun _ => ?_) | with_reducible refine p_if (fun _ => ?_) (fun _ => ?_))
  all_goals first | exact p_some ⟨fun z => absurd z (by omega), fun _ => rfl⟩ | skip
  refine p_call (g21_eq c y _ (by omega)) ?_
  dsimp only
  repeat (first | (with_reducible refine p_chk ?_ ?_; (· (first | omega | (simp only [gi_wi, gl_wl, gl_wi, gi_wl, gi_wcl, gl_wcl, Nat.reduceEqDiff, Int.reduceEq, false_and, true_and, and_true, and_false, if_false, if_true]; omega)))) | with_reducible refine p_lt ?_ | (with_reducible refine p_ckI ?_ ?_; (· (first | omega | (simp only [gi_wi, gl_wl, gl_wi, gi_wl, gi_wcl, gl_wcl, Nat.reduceEqDiff, Int.reduceEq, false_and, true_and, and_true, and_false, if_false, if_true]; omega)))) | (with_reducible refine p_ckJ ?_ ?_; (· (first | omega | (simp only [gi_wi, gl_wl, gl_wi, gi_wl, gi_wcl, gl_wcl, Nat.reduceEqDiff, Int.reduceEq, false_and, true_and, and_true, and_false, if_false, if_true]; omega)))))
  exact p_some ⟨fun _ => rfl, fun z => absurd (by omega) z⟩
def w184 (S : gM) (c a b k y : Int) : gM := wi (wi (wi (wi (wi (wi (wi S 94 (gi S 55 53) a) 95 (gi S 55 53) b) 96 (gi S 55 53) k) 97 (gi S 55 53) y) 98 (gi S 55 53) (gi S 55 0)) 99 (gi S 55 53) c) 55 53 (gi S 55 53 + 1)
theorem g184_w (c a b k y : Int) (hn : 0 ≤ gi S 55 1 ∧ gi S 55 1 ≤ 12) (hp : 0 ≤ gi S 55 53 ∧ gi S 55 53 ≤ 20) (ht : 0 ≤ gi S 55 0 ∧ gi S 55 0 ≤ 999) : Wp (Two (c_prop (gi S 55 1) (gi S 55 53) (gi S 55 0) c a b k y (gi S 57 a) (gi S 57 b)) (gi S 55 53) (w184 S c a b k y) (-1) S) (g184 c a b k y S) := by
  unfold g184 c_prop
  repeat' (first | (with_reducible refine p_chk ?_ ?_; (· (first | omega | (simp only [gi_wi, gl_wl, gl_wi, gi_wl, gi_wcl, gl_wcl, Nat.reduceEqDiff, Int.reduceEq, false_and, true_and, and_true, and_false, if_false, if_true]; omega)))) | with_reducible refine p_lt ?_ | (with_reducible refine p_ckI ?_ ?_; (· (first | omega | (simp only [gi_wi, gl_wl, gl_wi, gi_wl, gi_wcl, gl_wcl, Nat.reduceEqDiff, Int.reduceEq, false_and, true_and, and_true, and_false, if_false, if_true]; omega)))) | (with_reducible refine p_ckJ ?_ ?_; (· (first | omega | (simp only [gi_wi, gl_wl, gl_wi, gi_wl, gi_wcl, gl_wcl, Nat.reduceEqDiff, Int.reduceEq, false_and, true_and, and_true, and_false, if_false, if_true]; omega)))) | (with_reducible refine p_call (g102_eq _ _) ?_; try dsimp only) | (with_reducible refine p_call (g103_eq _) ?_; try dsimp only) | (with_reducible refine p_call (g104_eq _) ?_; try dsimp only) | (with_reducible refine p_call (g105_eq _) ?_; try dsimp only) | (with_reducible refine p_call (g112_eq _ _ _) ?_; try dsimp only) | (with_reducible refine p_call (g113_eq _) ?_; try dsimp only) | (with_reducible refine p_call (g114_eq _) ?_; try dsimp only) | (with_reducible refine p_call (g115_eq _) ?_; try dsimp only) | (with_reducible refine p_call (g116_eq _ ?_) ?_; (· (first | omega | (simp only [gi_wi, gl_wl, gl_wi, gi_wl, gi_wcl, gl_wcl, Nat.reduceEqDiff, Int.reduceEq, false_and, true_and, and_true, and_false, if_false, if_true]; omega))); try dsimp only) | (with_reducible refine p_call (g118_eq ?_) ?_; (· (first | omega | (simp only [gi_wi, gl_wl, gl_wi, gi_wl, gi_wcl, gl_wcl, Nat.reduceEqDiff, Int.reduceEq, false_and, true_and, and_true, and_false, if_false, if_true]; omega))); try dsimp only) | (with_reducible refine p_call (g106_eq _ ?_) ?_; (· (first | omega | (simp only [gi_wi, gl_wl, gl_wi, gi_wl, gi_wcl, gl_wcl, Nat.reduceEqDiff, Int.reduceEq, false_and, true_and, and_true, and_false, if_false, if_true]; omega))); try dsimp only) | (with_reducible refine p_call (g2_eq _ _ ?_ ?_) ?_; (· (first | omega | (simp only [gi_wi, gl_wl, gl_wi, gi_wl, gi_wcl, gl_wcl, Nat.reduceEqDiff, Int.reduceEq, false_and, true_and, and_true, and_false, if_false, if_true]; omega))); (· (first | omega | (simp only [gi_wi, gl_wl, gl_wi, gi_wl, gi_wcl, gl_wcl, Nat.reduceEqDiff, Int.reduceEq, false_and, true_and, and_true, and_false, if_false, if_true]; omega))); try dsimp only) | (with_reducible refine p_call (g3_eq _ ?_) ?_; (· (first | omega | (simp only [gi_wi, gl_wl, gl_wi, gi_wl, gi_wcl, gl_wcl, Nat.reduceEqDiff, Int.reduceEq, false_and, true_and, and_true, and_false, if_false, if_true]; omega))); try dsimp only) | (with_reducible refine p_call (g122_eq _ _ ?_) ?_; (· (first | omega | (simp only [gi_wi, gl_wl, gl_wi, gi_wl, gi_wcl, gl_wcl, Nat.reduceEqDiff, Int.reduceEq, false_and, true_and, and_true, and_false, if_false, if_true]; omega))); try dsimp only) | (with_reducible refine p_call (g58_eq) ?_; try dsimp only) | with_reducible refine p_if1 (fun _ => ?_) (fun _ => ?_) | with_reducible refine p_if1n (fun _ => ?_) (fun _ => ?_) | with_reducible refine p_if (fun _ => ?_) (fun _ => ?_))
  all_goals first | exact p_some ⟨fun z => absurd z (by omega), fun _ => rfl⟩ | skip
  refine p_some ⟨fun _ => ?_, fun z => absurd (by omega) z⟩
  simp only [gi_wi, gl_wl, gl_wi, gi_wl, gi_wcl, gl_wcl, Nat.reduceEqDiff, Int.reduceEq, false_and, true_and, and_true, and_false, if_false, if_true]
  rw [show gi S 55 53 + 1 - 1 = gi S 55 53 by omega]
  rfl
/-- a school objects -/
theorem g22_eq (p s : Int) (hp : 0 ≤ p ∧ p < 20) (hs : 0 ≤ s ∧ s < 12) : g22 p s S = some (one (tb (gi S 52 p) s.toNat = true), S) := by
  refine p_eq ?_
  unfold g22
  have e := tb_shl (gi S 52 p) s hs
  repeat (first | (with_reducible refine p_chk ?_ ?_; (· (first | omega | (simp only [gi_wi, gl_wl, gl_wi, gi_wl, gi_wcl, gl_wcl, Nat.reduceEqDiff, Int.reduceEq, false_and, true_and, and_true, and_false, if_false, if_true]; omega)))) | with_reducible refine p_lt ?_ | (with_reducible refine p_ckI ?_ ?_; (· (first | omega | (simp only [gi_wi, gl_wl, gl_wi, gi_wl, gi_wcl, gl_wcl, Nat.reduceEqDiff, Int.reduceEq, false_and, true_and, and_true, and_false, if_false, if_true]; omega)))) | (with_reducible refine p_ckJ ?_ ?_; (· (first | omega | (simp only [gi_wi, gl_wl, gl_wi, gi_wl, gi_wcl, gl_wcl, Nat.reduceEqDiff, Int.reduceEq, false_and, true_and, and_true, and_false, if_false, if_true]; omega)))))
  refine p_if (fun hc => ?_) (fun hc => ?_)
  · rw [one_f (by rw [e.mp hc]; decide)]; exact p_some rfl
  · rw [one_t (by cases h : tb (gi S 52 p) s.toNat with
      | true => rfl
      | false => exact absurd (e.mpr h) hc)]
    exact p_some rfl
theorem g108_eq (p s : Int) (hp : 0 ≤ p ∧ p < 20) (hs : 0 ≤ s ∧ s < 12) (hn : gi S 1 7 ≤ 12) (ht : 0 ≤ gi S 0 10 ∧ gi S 0 10 ≤ 999) : g108 p s S = some (one (gi S 3 s = gi S 46 p ∧ s < gi S 1 7 ∧ gi S 0 10 / 100 < gi S 6 s), S) := by
  refine p_eq ?_
  unfold g108
  repeat (first | (with_reducible refine p_chk ?_ ?_; (· (first | omega | (simp only [gi_wi, gl_wl, gl_wi, gi_wl, gi_wcl, gl_wcl, Nat.reduceEqDiff, Int.reduceEq, false_and, true_and, and_true, and_false, if_false, if_true]; omega)))) | with_reducible refine p_lt ?_ | (with_reducible refine p_ckI ?_ ?_; (· (first | omega | (simp only [gi_wi, gl_wl, gl_wi, gi_wl, gi_wcl, gl_wcl, Nat.reduceEqDiff, Int.reduceEq, false_and, true_and, and_true, and_false, if_false, if_true]; omega)))) | (with_reducible refine p_ckJ ?_ ?_; (· (first | omega | (simp only [gi_wi, gl_wl, gl_wi, gi_wl, gi_wcl, gl_wcl, Nat.reduceEqDiff, Int.reduceEq, false_and, true_and, and_true, and_false, if_false, if_true]; omega)))))
  refine p_if (fun hc => ?_) (fun hc => ?_)
  · rw [one_f (fun z => hc z.1)]; exact p_some rfl
  · have hc := Classical.not_not.mp hc
    rw [lt_t, td_pos ht.1]
    repeat' (first | (with_reducible refine p_chk ?_ ?_; (· (first | omega | (simp only [gi_wi, gl_wl, gl_wi, gi_wl, gi_wcl, gl_wcl, Nat.reduceEqDiff, Int.reduceEq, false_and, true_and, and_true, and_false, if_false, if_true]; omega)))) | with_reducible refine p_lt ?_ | (with_reducible refine p_ckI ?_ ?_; (· (first | omega | (simp only [gi_wi, gl_wl, gl_wi, gi_wl, gi_wcl, gl_wcl, Nat.reduceEqDiff, Int.reduceEq, false_and, true_and, and_true, and_false, if_false, if_true]; omega)))) | (with_reducible refine p_ckJ ?_ ?_; (· (first | omega | (simp only [gi_wi, gl_wl, gl_wi, gi_wl, gi_wcl, gl_wcl, Nat.reduceEqDiff, Int.reduceEq, false_and, true_and, and_true, and_false, if_false, if_true]; omega)))) | (with_reducible refine p_call (g102_eq _ _) ?_; try dsimp only) | (with_reducible refine p_call (g103_eq _) ?_; try dsimp only) | (with_reducible refine p_call (g104_eq _) ?_; try dsimp only) | (with_reducible refine p_call (g105_eq _) ?_; try dsimp only) | (with_reducible refine p_call (g112_eq _ _ _) ?_; try dsimp only) | (with_reducible refine p_call (g113_eq _) ?_; try dsimp only) | (with_reducible refine p_call (g114_eq _) ?_; try dsimp only) | (with_reducible refine p_call (g115_eq _) ?_; try dsimp only) | (with_reducible refine p_call (g116_eq _ ?_) ?_; (· (first | omega | (simp only [gi_wi, gl_wl, gl_wi, gi_wl, gi_wcl, gl_wcl, Nat.reduceEqDiff, Int.reduceEq, false_and, true_and, and_true, and_false, if_false, if_true]; omega))); try dsimp only) | (with_reducible refine p_call (g118_eq ?_) ?_; (· (first | omega | (simp only [gi_wi, gl_wl, gl_wi, gi_wl, gi_wcl, gl_wcl, Nat.reduceEqDiff, Int.reduceEq, false_and, true_and, and_true, and_false, if_false, if_true]; omega))); try dsimp only) | (with_reducible refine p_call (g106_eq _ ?_) ?_; (· (first | omega | (simp only [gi_wi, gl_wl, gl_wi, gi_wl, gi_wcl, gl_wcl, Nat.reduceEqDiff, Int.reduceEq, false_and, true_and, and_true, and_false, if_false, if_true]; omega))); try dsimp only) | (with_reducible refine p_call (g2_eq _ _ ?_ ?_) ?_; (· (first | omega | (simp only [gi_wi, gl_wl, gl_wi, gi_wl, gi_wcl, gl_wcl, Nat.reduceEqDiff, Int.reduceEq, false_and, true_and, and_true, and_false, if_false, if_true]; omega))); (· (first | omega | (simp only [gi_wi, gl_wl, gl_wi, gi_wl, gi_wcl, gl_wcl, Nat.reduceEqDiff, Int.reduceEq, false_and, true_and, and_true, and_false, if_false, if_true]; omega))); try dsimp only) | (with_reducible refine p_call (g3_eq _ ?_) ?_; (· (first | omega | (simp only [gi_wi, gl_wl, gl_wi, gi_wl, gi_wcl, gl_wcl, Nat.reduceEqDiff, Int.reduceEq, false_and, true_and, and_true, and_false, if_false, if_true]; omega))); try dsimp only) | (with_reducible refine p_call (g122_eq _ _ ?_) ?_; (· (first | omega | (simp only [gi_wi, gl_wl, gl_wi, gi_wl, gi_wcl, gl_wcl, Nat.reduceEqDiff, Int.reduceEq, false_and, true_and, and_true, and_false, if_false, if_true]; omega))); try dsimp only) | (with_reducible refine p_call (g58_eq) ?_; try dsimp only) | with_reducible refine p_if1 (fun _ => ?_) (fun _ => ?_) | with_reducible refine p_if1n (fun _ => ?_) (fun _ => ?_) | with_reducible refine p_if (fun _ => ?_) (fun _ => ?_))
    · rw [one_t (by omega)]; exact p_some rfl
    · rw [one_f (by omega)]; exact p_some rfl
def c_obj (n p t x s ad cs cp cl : Int) (o : Bool) : Prop := (0 ≤ x ∧ x < p) ∧ (0 ≤ s ∧ s < n) ∧ ad = 0 ∧ o = false ∧ cs = cp ∧ t / 100 < cl
theorem g93_w (x s : Int) (hn : gi S 1 7 ≤ 12) (hp : 0 ≤ gi S 45 8 ∧ gi S 45 8 ≤ 20) (ht : 0 ≤ gi S 0 10 ∧ gi S 0 10 ≤ 999) : Wp (Two (c_obj (gi S 1 7) (gi S 45 8) (gi S 0 10) x s (gi S 53 x) (gi S 3 s) (gi S 46 x) (gi S 6 s) (tb (gi S 52 x) s.toNat)) 1 (wi S 52 x (b_or (gi S 52 x) (b_shl 1 s))) 0 S) (g93 x s S) := by
  unfold g93 c_obj
  repeat' (first | (with_reducible refine p_chk ?_ ?_; (· (first | omega | (simp only [gi_wi, gl_wl, gl_wi, gi_wl, gi_wcl, gl_wcl, Nat.reduceEqDiff, Int.reduceEq, false_and, true_and, and_true, and_false, if_false, if_true]; omega)))) | with_reducible refine p_lt ?_ | (with_reducible refine p_ckI ?_ ?_; (· (first | omega | (simp only [gi_wi, gl_wl, gl_wi, gi_wl, gi_wcl, gl_wcl, Nat.reduceEqDiff, Int.reduceEq, false_and, true_and, and_true, and_false, if_false, if_true]; omega)))) | (with_reducible refine p_ckJ ?_ ?_; (· (first | omega | (simp only [gi_wi, gl_wl, gl_wi, gi_wl, gi_wcl, gl_wcl, Nat.reduceEqDiff, Int.reduceEq, false_and, true_and, and_true, and_false, if_false, if_true]; omega)))) | (with_reducible refine p_call (g102_eq _ _) ?_; try dsimp only) | (with_reducible refine p_call (g103_eq _) ?_; try dsimp only) | (with_reducible refine p_call (g104_eq _) ?_; try dsimp only) | (with_reducible refine p_call (g105_eq _) ?_; try dsimp only) | (with_reducible refine p_call (g112_eq _ _ _) ?_; try dsimp only) | (with_reducible refine p_call (g113_eq _) ?_; try dsimp only) | (with_reducible refine p_call (g114_eq _) ?_; try dsimp only) | (with_reducible refine p_call (g115_eq _) ?_; try dsimp only) | (with_reducible refine p_call (g116_eq _ ?_) ?_; (· (first | omega | (simp only [gi_wi, gl_wl, gl_wi, gi_wl, gi_wcl, gl_wcl, Nat.reduceEqDiff, Int.reduceEq, false_and, true_and, and_true, and_false, if_false, if_true]; omega))); try dsimp only) | (with_reducible refine p_call (g118_eq ?_) ?_; (· (first | omega | (simp only [gi_wi, gl_wl, gl_wi, gi_wl, gi_wcl, gl_wcl, Nat.reduceEqDiff, Int.reduceEq, false_and, true_and, and_true, and_false, if_false, if_true]; omega))); try dsimp only) | (with_reducible refine p_call (g106_eq _ ?_) ?_; (· (first | omega | (simp only [gi_wi, gl_wl, gl_wi, gi_wl, gi_wcl, gl_wcl, Nat.reduceEqDiff, Int.reduceEq, false_and, true_and, and_true, and_false, if_false, if_true]; omega))); try dsimp only) | (with_reducible refine p_call (g2_eq _ _ ?_ ?_) ?_; (· (first | omega | (simp only [gi_wi, gl_wl, gl_wi, gi_wl, gi_wcl, gl_wcl, Nat.reduceEqDiff, Int.reduceEq, false_and, true_and, and_true, and_false, if_false, if_true]; omega))); (· (first | omega | (simp only [gi_wi, gl_wl, gl_wi, gi_wl, gi_wcl, gl_wcl, Nat.reduceEqDiff, Int.reduceEq, false_and, true_and, and_true, and_false, if_false, if_true]; omega))); try dsimp only) | (with_reducible refine p_call (g3_eq _ ?_) ?_; (· (first | omega | (simp only [gi_wi, gl_wl, gl_wi, gi_wl, gi_wcl, gl_wcl, Nat.reduceEqDiff, Int.reduceEq, false_and, true_and, and_true, and_false, if_false, if_true]; omega))); try dsimp only) | (with_reducible refine p_call (g122_eq _ _ ?_) ?_; (· (first | omega | (simp only [gi_wi, gl_wl, gl_wi, gi_wl, gi_wcl, gl_wcl, Nat.reduceEqDiff, Int.reduceEq, false_and, true_and, and_true, and_false, if_false, if_true]; omega))); try dsimp only) | (with_reducible refine p_call (g58_eq) ?_; try dsimp only) | with_reducible refine p_if1 (fun _ => ?_) (fun _ => ?_) | with_reducible refine p_if1n (fun _ => ?_) (fun _ => ?_) | with_reducible refine p_if (fun _ => ?_) (fun _ => ?_))
  all_goals first | exact p_some ⟨fun z => absurd z (by omega), fun _ => rfl⟩ | skip
  · refine p_call (g22_eq x s (by omega) (by omega)) ?_
    dsimp only
    refine p_if1 (fun h => ?_) (fun h => ?_)
    · exact p_some ⟨fun z => (by rw [z.2.2.2.1] at h; cases h), fun _ => rfl⟩
    · have h : tb (gi S 52 x) s.toNat = false := by
        cases h2 : tb (gi S 52 x) s.toNat with
        | true => exact absurd h2 h
        | false => rfl
      refine p_call (g108_eq x s (by omega) (by omega) hn ht) ?_
      dsimp only
      refine p_if1n (fun h3 => ?_) (fun h3 => ?_)
      · repeat (first | (with_reducible refine p_chk ?_ ?_; (· (first | omega | (simp only [gi_wi, gl_wl, gl_wi, gi_wl, gi_wcl, gl_wcl, Nat.reduceEqDiff, Int.reduceEq, false_and, true_and, and_true, and_false, if_false, if_true]; omega)))) | with_reducible refine p_lt ?_ | (with_reducible refine p_ckI ?_ ?_; (· (first | omega | (simp only [gi_wi, gl_wl, gl_wi, gi_wl, gi_wcl, gl_wcl, Nat.reduceEqDiff, Int.reduceEq, false_and, true_and, and_true, and_false, if_false, if_true]; omega)))) | (with_reducible refine p_ckJ ?_ ?_; (· (first | omega | (simp only [gi_wi, gl_wl, gl_wi, gi_wl, gi_wcl, gl_wcl, Nat.reduceEqDiff, Int.reduceEq, false_and, true_and, and_true, and_false, if_false, if_true]; omega)))))
        exact p_some ⟨fun _ => rfl, fun z => absurd ⟨by omega, by omega, by omega, h, by omega, by omega⟩ z⟩
      · exact p_some ⟨fun z => absurd z (fun w => h3 ⟨by omega, by omega, by omega⟩), fun _ => rfl⟩
theorem g185_w (x s : Int) (hn : 0 ≤ gi S 55 1 ∧ gi S 55 1 ≤ 12) (hp : 0 ≤ gi S 55 53 ∧ gi S 55 53 ≤ 20) (ht : 0 ≤ gi S 55 0 ∧ gi S 55 0 ≤ 999) : Wp (Two (c_obj (gi S 55 1) (gi S 55 53) (gi S 55 0) x s (gi S 101 x) (gi S 57 s) (gi S 99 x) (gi S 67 s) (tb (gi S 100 x) s.toNat)) 1 (wi S 100 x (b_or (gi S 100 x) (b_shl 1 s))) 0 S) (g185 x s S) := by
  unfold g185 c_obj
  repeat' (first | (with_reducible refine p_chk ?_ ?_; (· (first | omega | (simp only [gi_wi, gl_wl, gl_wi, gi_wl, gi_wcl, gl_wcl, Nat.reduceEqDiff, Int.reduceEq, false_and, true_and, and_true, and_false, if_false, if_true]; omega)))) | with_reducible refine p_lt ?_ | (with_reducible refine p_ckI ?_ ?_; (· (first | omega | (simp only [gi_wi, gl_wl, gl_wi, gi_wl, gi_wcl, gl_wcl, Nat.reduceEqDiff, Int.reduceEq, false_and, true_and, and_true, and_false, if_false, if_true]; omega)))) | (with_reducible refine p_ckJ ?_ ?_; (· (first | omega | (simp only [gi_wi, gl_wl, gl_wi, gi_wl, gi_wcl, gl_wcl, Nat.reduceEqDiff, Int.reduceEq, false_and, true_and, and_true, and_false, if_false, if_true]; omega)))) | (with_reducible refine p_call (g102_eq _ _) ?_; try dsimp only) | (with_reducible refine p_call (g103_eq _) ?_; try dsimp only) | (with_reducible refine p_call (g104_eq _) ?_; try dsimp only) | (with_reducible refine p_call (g105_eq _) ?_; try dsimp only) | (with_reducible refine p_call (g112_eq _ _ _) ?_; try dsimp only) | (with_reducible refine p_call (g113_eq _) ?_; try dsimp only) | (with_reducible refine p_call (g114_eq _) ?_; try dsimp only) | (with_reducible refine p_call (g115_eq _) ?_; try dsimp only) | (with_reducible refine p_call (g116_eq _ ?_) ?_; (· (first | omega | (simp only [gi_wi, gl_wl, gl_wi, gi_wl, gi_wcl, gl_wcl, Nat.reduceEqDiff, Int.reduceEq, false_and, true_and, and_true, and_false, if_false, if_true]; omega))); try dsimp only) | (with_reducible refine p_call (g118_eq ?_) ?_; (· (first | omega | (simp only [gi_wi, gl_wl, gl_wi, gi_wl, gi_wcl, gl_wcl, Nat.reduceEqDiff, Int.reduceEq, false_and, true_and, and_true, and_false, if_false, if_true]; omega))); try dsimp only) | (with_reducible refine p_call (g106_eq _ ?_) ?_; (· (first | omega | (simp only [gi_wi, gl_wl, gl_wi, gi_wl, gi_wcl, gl_wcl, Nat.reduceEqDiff, Int.reduceEq, false_and, true_and, and_true, and_false, if_false, if_true]; omega))); try dsimp only) | (with_reducible refine p_call (g2_eq _ _ ?_ ?_) ?_; (· (first | omega | (simp only [gi_wi, gl_wl, gl_wi, gi_wl, gi_wcl, gl_wcl, Nat.reduceEqDiff, Int.reduceEq, false_and, true_and, and_true, and_false, if_false, if_true]; omega))); (· (first | omega | (simp only [gi_wi, gl_wl, gl_wi, gi_wl, gi_wcl, gl_wcl, Nat.reduceEqDiff, Int.reduceEq, false_and, true_and, and_true, and_false, if_false, if_true]; omega))); try dsimp only) | (with_reducible refine p_call (g3_eq _ ?_) ?_; (· (first | omega | (simp only [gi_wi, gl_wl, gl_wi, gi_wl, gi_wcl, gl_wcl, Nat.reduceEqDiff, Int.reduceEq, false_and, true_and, and_true, and_false, if_false, if_true]; omega))); try dsimp only) | (with_reducible refine p_call (g122_eq _ _ ?_) ?_; (· (first | omega | (simp only [gi_wi, gl_wl, gl_wi, gi_wl, gi_wcl, gl_wcl, Nat.reduceEqDiff, Int.reduceEq, false_and, true_and, and_true, and_false, if_false, if_true]; omega))); try dsimp only) | (with_reducible refine p_call (g58_eq) ?_; try dsimp only) | with_reducible refine p_if1 (fun _ => ?_) (fun _ => ?_) | with_reducible refine p_if1n (fun _ => ?_) (fun _ => ?_) | with_reducible refine p_if (fun _ => ?_) (fun _ => ?_))
  all_goals first | exact p_some ⟨fun z => absurd z (by omega), fun _ => rfl⟩ | skip
  all_goals
    rename_i h
    have e := tb_shr (gi S 100 x) s (by omega)
    rw [e] at h
    cases h2 : tb (gi S 100 x) s.toNat with
    | true =>
      rw [h2] at h
      first
        | exact absurd rfl h
        | exact p_some ⟨fun z => (by cases z.2.2.2.1), fun _ => rfl⟩
    | false =>
      rw [h2] at h
      first
        | exact p_some ⟨fun _ => rfl, fun z => absurd ⟨by omega, by omega, by omega, rfl, by omega, by omega⟩ z⟩
        | exact absurd (fun z => by cases z) h
/-- the latest year below k with such a mark -/
def lyr (C : Nat → Int → Int) (s w d : Int) : Nat → Int
  | 0 => -1
  | k + 1 => if own C s k w d = -1 then lyr C s w d k else k
theorem lyr_s (C : Nat → Int → Int) (s w d : Int) (k : Nat) : lyr C s w d (k + 1) = if own C s k w d = -1 then lyr C s w d k else (k : Int) := rfl
theorem lyr_rng (C : Nat → Int → Int) (s w d : Int) (k : Nat) : -1 ≤ lyr C s w d k ∧ lyr C s w d k < k ∧ (0 ≤ lyr C s w d k → ¬ own C s (lyr C s w d k) w d = -1) := by
  induction k with
  | zero => exact ⟨by unfold lyr; omega, by unfold lyr; omega, fun z => by unfold lyr at z; omega⟩
  | succ k ih =>
    rw [lyr_s]
    by_cases h : own C s k w d = -1
    · rw [if_pos h]; exact ⟨ih.1, by omega, ih.2.2⟩
    · rw [if_neg h]; exact ⟨by omega, by omega, fun _ => h⟩
theorem g13_l3_eq (hm : MarkI S) (s w d : Int) (hs : 0 ≤ s ∧ s < 12) (hw : 0 ≤ w ∧ w < 6) : ∀ (n k : Nat), k ≤ 10 → k < n → g13_l3 s w d n ((k : Int) - 1) S = some (lyr (cor S) s w d k, S) := by
  intro n
  induction n with
  | zero => intro k h1 h2; omega
  | succ n ih =>
    intro k h1 h2
    dsimp only [g13_l3]
    refine p_eq ?_
    cases k with
    | zero =>
      refine p_if (fun _ => p_some rfl) (fun z => by omega)
    | succ k =>
      refine p_if (fun z => by omega) (fun _ => ?_)
      rw [show (((k + 1 : Nat) : Int) - 1) = (k : Int) by omega, lyr_s]
      refine p_call (g12_eq hm s k w d hs (by omega) hw) ?_
      dsimp only
      refine p_if (fun h => ?_) (fun h => ?_)
      · rw [if_pos h]
        repeat (first | (with_reducible refine p_chk ?_ ?_; (· (first | omega | (simp only [gi_wi, gl_wl, gl_wi, gi_wl, gi_wcl, gl_wcl, Nat.reduceEqDiff, Int.reduceEq, false_and, true_and, and_true, and_false, if_false, if_true]; omega)))) | with_reducible refine p_lt ?_ | (with_reducible refine p_ckI ?_ ?_; (· (first | omega | (simp only [gi_wi, gl_wl, gl_wi, gi_wl, gi_wcl, gl_wcl, Nat.reduceEqDiff, Int.reduceEq, false_and, true_and, and_true, and_false, if_false, if_true]; omega)))) | (with_reducible refine p_ckJ ?_ ?_; (· (first | omega | (simp only [gi_wi, gl_wl, gl_wi, gi_wl, gi_wcl, gl_wcl, Nat.reduceEqDiff, Int.reduceEq, false_and, true_and, and_true, and_false, if_false, if_true]; omega)))))
        rw [show (k : Int) + -1 = (k : Int) - 1 by omega]
        exact ⟨_, ih k (by omega) (by omega), rfl⟩
      · rw [if_neg h]; exact p_some rfl
theorem g13_eq (hm : MarkI S) (s w d y : Int) (hs : 0 ≤ s ∧ s < 12) (hw : 0 ≤ w ∧ w < 6) (hy : -2 ≤ y ∧ y < 10) : g13 s w y d S = some (lyr (cor S) s w d (y + 1).toNat, S) := by
  unfold g13
  by_cases h : y = -2
  · subst h; rfl
  · have := g13_l3_eq hm s w d hs hw 100000 (y + 1).toNat (by omega) (by omega)
    rw [show (((y + 1).toNat : Nat) : Int) - 1 = y by omega] at this
    exact this
/-- what is foretold, of the later number, the earlier one, n and what is asked -/
def frt (v u n x : Int) : Int := max 0 (v + n * (v - u) + (if x = 0 then 0 else if x = 1 then -(n * ((v - u).natAbs : Int)) else n * ((v - u).natAbs : Int)))
def c_frt (n s w k x : Int) : Prop := (0 ≤ s ∧ s < n) ∧ (0 ≤ w ∧ w < 3) ∧ (1 ≤ k ∧ k ≤ 5) ∧ (0 ≤ x ∧ x < 3)
def frV (C : Nat → Int → Int) (s w d k x : Int) : Int :=
  if lyr C s w d (d / 100 + 1).toNat < 0 ∨ lyr C s w d (lyr C s w d (d / 100 + 1).toNat).toNat < 0 then -1
  else frt (own C s (lyr C s w d (d / 100 + 1).toNat) w d) (own C s (lyr C s w d (lyr C s w d (d / 100 + 1).toNat).toNat) w d) k x
theorem g99_calc {V U k x : Int} (hV : -1 ≤ V ∧ V ≤ 9999) (hU : -1 ≤ U ∧ U ≤ 9999) (hk : k = 1 ∨ k = 2 ∨ k = 3 ∨ k = 4 ∨ k = 5) (hx : x = 0 ∨ x = 1 ∨ x = 2) : Wp (fun r => r = (frt V U k x, S)) (w_ckI (V - U) fun V22 => w_ckI (k * V22) fun V23 => w_ckI (V + V23) fun V24 => if ¬ x = 1 then g99_j154 k x V22 V24 S else w_ckI (V22.natAbs : Int) fun V32 => w_ckI (k * V32) fun V33 => w_ckI (V24 - V33) fun V34 => g99_j154 k x V22 V34 S) := by
  unfold frt g99_j154
  rcases hk with q | q | q | q | q <;> rcases hx with z | z | z <;> subst q z <;> simp only [Int.reduceEq, if_true, if_false, Int.add_zero, not_true_eq_false, not_false_eq_true]
  all_goals repeat (first | (with_reducible refine p_chk ?_ ?_; (· (first | omega | (simp only [gi_wi, gl_wl, gl_wi, gi_wl, gi_wcl, gl_wcl, Nat.reduceEqDiff, Int.reduceEq, false_and, true_and, and_true, and_false, if_false, if_true]; omega)))) | with_reducible refine p_lt ?_ | (with_reducible refine p_ckI ?_ ?_; (· (first | omega | (simp only [gi_wi, gl_wl, gl_wi, gi_wl, gi_wcl, gl_wcl, Nat.reduceEqDiff, Int.reduceEq, false_and, true_and, and_true, and_false, if_false, if_true]; omega)))) | (with_reducible refine p_ckJ ?_ ?_; (· (first | omega | (simp only [gi_wi, gl_wl, gl_wi, gi_wl, gi_wcl, gl_wcl, Nat.reduceEqDiff, Int.reduceEq, false_and, true_and, and_true, and_false, if_false, if_true]; omega)))))
  all_goals first | exact p_some rfl | exact p_some (by congr 1)
theorem g99_w (hm : MarkI S) (hn : gi S 1 7 ≤ 12) (ht : 0 ≤ gi S 0 10 ∧ gi S 0 10 ≤ 999) (s w k x : Int) : Wp (Two (c_frt (gi S 1 7) s w k x) (frV (cor S) s w (gi S 0 10) k x) S (-1) S) (g99 s w k x S) := by
  unfold g99 c_frt
  repeat' (first | (with_reducible refine p_chk ?_ ?_; (· (first | omega | (simp only [gi_wi, gl_wl, gl_wi, gi_wl, gi_wcl, gl_wcl, Nat.reduceEqDiff, Int.reduceEq, false_and, true_and, and_true, and_false, if_false, if_true]; omega)))) | with_reducible refine p_lt ?_ | (with_reducible refine p_ckI ?_ ?_; (· (first | omega | (simp only [gi_wi, gl_wl, gl_wi, gi_wl, gi_wcl, gl_wcl, Nat.reduceEqDiff, Int.reduceEq, false_and, true_and, and_true, and_false, if_false, if_true]; omega)))) | (with_reducible refine p_ckJ ?_ ?_; (· (first | omega | (simp only [gi_wi, gl_wl, gl_wi, gi_wl, gi_wcl, gl_wcl, Nat.reduceEqDiff, Int.reduceEq, false_and, true_and, and_true, and_false, if_false, if_true]; omega)))) | (with_reducible refine p_call (g102_eq _ _) ?_; try dsimp only) | (with_reducible refine p_call (g103_eq _) ?_; try dsimp only) | (with_reducible refine p_call (g104_eq _) ?_; try dsimp only) | (with_reducible refine p_call (g105_eq _) ?_; try dsimp only) | (with_reducible refine p_call (g112_eq _ _ _) ?_; try dsimp only) | (with_reducible refine p_call (g113_eq _) ?_; try dsimp only) | (with_reducible refine p_call (g114_eq _) ?_; try dsimp only) | (with_reducible refine p_call (g115_eq _) ?_; try dsimp only) | (with_reducible refine p_call (g116_eq _ ?_) ?_; (· (first | omega | (simp only [gi_wi, gl_wl, gl_wi, gi_wl, gi_wcl, gl_wcl, Nat.reduceEqDiff, Int.reduceEq, false_and, true_and, and_true, and_false, if_false, if_true]; omega))); try dsimp only) | (with_reducible refine p_call (g118_eq ?_) ?_; (· (first | omega | (simp only [gi_wi, gl_wl, gl_wi, gi_wl, gi_wcl, gl_wcl, Nat.reduceEqDiff, Int.reduceEq, false_and, true_and, and_true, and_false, if_false, if_true]; omega))); try dsimp only) | (with_reducible refine p_call (g106_eq _ ?_) ?_; (· (first | omega | (simp only [gi_wi, gl_wl, gl_wi, gi_wl, gi_wcl, gl_wcl, Nat.reduceEqDiff, Int.reduceEq, false_and, true_and, and_true, and_false, if_false, if_true]; omega))); try dsimp only) | (with_reducible refine p_call (g2_eq _ _ ?_ ?_) ?_; (· (first | omega | (simp only [gi_wi, gl_wl, gl_wi, gi_wl, gi_wcl, gl_wcl, Nat.reduceEqDiff, Int.reduceEq, false_and, true_and, and_true, and_false, if_false, if_true]; omega))); (· (first | omega | (simp only [gi_wi, gl_wl, gl_wi, gi_wl, gi_wcl, gl_wcl, Nat.reduceEqDiff, Int.reduceEq, false_and, true_and, and_true, and_false, if_false, if_true]; omega))); try dsimp only) | (with_reducible refine p_call (g3_eq _ ?_) ?_; (· (first | omega | (simp only [gi_wi, gl_wl, gl_wi, gi_wl, gi_wcl, gl_wcl, Nat.reduceEqDiff, Int.reduceEq, false_and, true_and, and_true, and_false, if_false, if_true]; omega))); try dsimp only) | (with_reducible refine p_call (g122_eq _ _ ?_) ?_; (· (first | omega | (simp only [gi_wi, gl_wl, gl_wi, gi_wl, gi_wcl, gl_wcl, Nat.reduceEqDiff, Int.reduceEq, false_and, true_and, and_true, and_false, if_false, if_true]; omega))); try dsimp only) | (with_reducible refine p_call (g58_eq) ?_; try dsimp only) | with_reducible refine p_if1 (fun _ => ?_) (fun _ => ?_) | with_reducible refine p_if1n (fun _ => ?_) (fun _ => ?_) | with_reducible refine p_if (fun _ => ?_) (fun _ => ?_))
  all_goals first | exact p_some ⟨fun z => absurd z (by omega), fun _ => rfl⟩ | skip
  rename_i h1 h2 h3 h4 h5
  rw [td_pos ht.1]
  repeat (first | (with_reducible refine p_chk ?_ ?_; (· (first | omega | (simp only [gi_wi, gl_wl, gl_wi, gi_wl, gi_wcl, gl_wcl, Nat.reduceEqDiff, Int.reduceEq, false_and, true_and, and_true, and_false, if_false, if_true]; omega)))) | with_reducible refine p_lt ?_ | (with_reducible refine p_ckI ?_ ?_; (· (first | omega | (simp only [gi_wi, gl_wl, gl_wi, gi_wl, gi_wcl, gl_wcl, Nat.reduceEqDiff, Int.reduceEq, false_and, true_and, and_true, and_false, if_false, if_true]; omega)))) | (with_reducible refine p_ckJ ?_ ?_; (· (first | omega | (simp only [gi_wi, gl_wl, gl_wi, gi_wl, gi_wcl, gl_wcl, Nat.reduceEqDiff, Int.reduceEq, false_and, true_and, and_true, and_false, if_false, if_true]; omega)))))
  refine p_call (g13_eq hm s w _ _ ?_ ?_ ?_) ?_
  · omega
  · omega
  · omega
  dsimp only
  have r1 := lyr_rng (cor S) s w (gi S 0 10) (gi S 0 10 / 100 + 1).toNat
  repeat (first | (with_reducible refine p_chk ?_ ?_; (· (first | omega | (simp only [gi_wi, gl_wl, gl_wi, gi_wl, gi_wcl, gl_wcl, Nat.reduceEqDiff, Int.reduceEq, false_and, true_and, and_true, and_false, if_false, if_true]; omega)))) | with_reducible refine p_lt ?_ | (with_reducible refine p_ckI ?_ ?_; (· (first | omega | (simp only [gi_wi, gl_wl, gl_wi, gi_wl, gi_wcl, gl_wcl, Nat.reduceEqDiff, Int.reduceEq, false_and, true_and, and_true, and_false, if_false, if_true]; omega)))) | (with_reducible refine p_ckJ ?_ ?_; (· (first | omega | (simp only [gi_wi, gl_wl, gl_wi, gi_wl, gi_wcl, gl_wcl, Nat.reduceEqDiff, Int.reduceEq, false_and, true_and, and_true, and_false, if_false, if_true]; omega)))))
  refine p_call (g13_eq hm s w _ _ ?_ ?_ ?_) ?_
  · omega
  · omega
  · omega
  dsimp only
  rw [show lyr (cor S) s w (gi S 0 10) (gi S 0 10 / 100 + 1).toNat - 1 + 1 = lyr (cor S) s w (gi S 0 10) (gi S 0 10 / 100 + 1).toNat by omega]
  have r2 := lyr_rng (cor S) s w (gi S 0 10) (lyr (cor S) s w (gi S 0 10) (gi S 0 10 / 100 + 1).toNat).toNat
  have fin : ∀ v, v = frV (cor S) s w (gi S 0 10) k x → Two (((0 ≤ s ∧ s < gi S 1 7) ∧ (0 ≤ w ∧ w < 3) ∧ (1 ≤ k ∧ k ≤ 5) ∧ 0 ≤ x ∧ x < 3)) (frV (cor S) s w (gi S 0 10) k x) S (-1) S (v, S) := fun v hv => ⟨fun _ => by rw [hv], fun z => absurd (by omega) z⟩
  refine p_if (fun h6 => ?_) (fun h6 => ?_)
  · refine p_some (fin _ ?_)
    unfold frV; rw [if_pos (Or.inl h6)]
  refine p_if (fun h7 => ?_) (fun h7 => ?_)
  · repeat (first | (with_reducible refine p_chk ?_ ?_; (· (first | omega | (simp only [gi_wi, gl_wl, gl_wi, gi_wl, gi_wcl, gl_wcl, Nat.reduceEqDiff, Int.reduceEq, false_and, true_and, and_true, and_false, if_false, if_true]; omega)))) | with_reducible refine p_lt ?_ | (with_reducible refine p_ckI ?_ ?_; (· (first | omega | (simp only [gi_wi, gl_wl, gl_wi, gi_wl, gi_wcl, gl_wcl, Nat.reduceEqDiff, Int.reduceEq, false_and, true_and, and_true, and_false, if_false, if_true]; omega)))) | (with_reducible refine p_ckJ ?_ ?_; (· (first | omega | (simp only [gi_wi, gl_wl, gl_wi, gi_wl, gi_wcl, gl_wcl, Nat.reduceEqDiff, Int.reduceEq, false_and, true_and, and_true, and_false, if_false, if_true]; omega)))))
    refine p_call (g12_eq hm s _ w _ (by omega) (by omega) (by omega)) ?_
    dsimp only
    repeat (first | (with_reducible refine p_chk ?_ ?_; (· (first | omega | (simp only [gi_wi, gl_wl, gl_wi, gi_wl, gi_wcl, gl_wcl, Nat.reduceEqDiff, Int.reduceEq, false_and, true_and, and_true, and_false, if_false, if_true]; omega)))) | with_reducible refine p_lt ?_ | (with_reducible refine p_ckI ?_ ?_; (· (first | omega | (simp only [gi_wi, gl_wl, gl_wi, gi_wl, gi_wcl, gl_wcl, Nat.reduceEqDiff, Int.reduceEq, false_and, true_and, and_true, and_false, if_false, if_true]; omega)))) | (with_reducible refine p_ckJ ?_ ?_; (· (first | omega | (simp only [gi_wi, gl_wl, gl_wi, gi_wl, gi_wcl, gl_wcl, Nat.reduceEqDiff, Int.reduceEq, false_and, true_and, and_true, and_false, if_false, if_true]; omega)))))
    refine p_call (g12_eq hm s _ w _ (by omega) (by omega) (by omega)) ?_
    dsimp only
    have v1 := hm.rng s (lyr (cor S) s w (gi S 0 10) (gi S 0 10 / 100 + 1).toNat) w (gi S 0 10)
    have v2 := hm.rng s (lyr (cor S) s w (gi S 0 10) (lyr (cor S) s w (gi S 0 10) (gi S 0 10 / 100 + 1).toNat).toNat) w (gi S 0 10)
    have e : frV (cor S) s w (gi S 0 10) k x = frt (own (cor S) s (lyr (cor S) s w (gi S 0 10) (gi S 0 10 / 100 + 1).toNat) w (gi S 0 10)) (own (cor S) s (lyr (cor S) s w (gi S 0 10) (lyr (cor S) s w (gi S 0 10) (gi S 0 10 / 100 + 1).toNat).toNat) w (gi S 0 10)) k x := by
      unfold frV; rw [if_neg (by omega)]
    rw [e] at fin ⊢
    exact p_imp (g99_calc v1 v2 (by omega) (by omega)) (fun r hr => by rw [hr]; exact fin _ rfl)
  · refine p_some (fin _ ?_)
    unfold frV; rw [if_pos (Or.inr (by omega))]
end SM2
