/-! the core's cells by their numbers -/
theorem co2 {S : gM} : cor S 2 = gi S 2 := funext fun k => cor_i (by unfold cr; omega)
theorem co3 {S : gM} : cor S 3 = gi S 3 := funext fun k => cor_i (by unfold cr; omega)
theorem co4 {S : gM} : cor S 4 = gi S 4 := funext fun k => cor_i (by unfold cr; omega)
theorem co5 {S : gM} : cor S 5 = gi S 5 := funext fun k => cor_i (by unfold cr; omega)
theorem co6 {S : gM} : cor S 6 = gi S 6 := funext fun k => cor_i (by unfold cr; omega)
theorem co7 {S : gM} : cor S 7 = gi S 7 := funext fun k => cor_i (by unfold cr; omega)
theorem co9 {S : gM} : cor S 9 = gi S 9 := funext fun k => cor_i (by unfold cr; omega)
theorem co12 {S : gM} : cor S 12 = gi S 12 := funext fun k => cor_i (by unfold cr; omega)
theorem co13 {S : gM} : cor S 13 = gi S 13 := funext fun k => cor_i (by unfold cr; omega)
theorem co14 {S : gM} : cor S 14 = gi S 14 := funext fun k => cor_i (by unfold cr; omega)
theorem co15 {S : gM} : cor S 15 = gi S 15 := funext fun k => cor_i (by unfold cr; omega)
theorem co56 {S : gM} : cor S 56 = gi S 56 := funext fun k => cor_i (by unfold cr; omega)
theorem co57 {S : gM} : cor S 57 = gi S 57 := funext fun k => cor_i (by unfold cr; omega)
theorem co58 {S : gM} : cor S 58 = gi S 58 := funext fun k => cor_i (by unfold cr; omega)
theorem co59 {S : gM} : cor S 59 = gi S 59 := funext fun k => cor_i (by unfold cr; omega)
theorem co60 {S : gM} : cor S 60 = gi S 60 := funext fun k => cor_i (by unfold cr; omega)
theorem co61 {S : gM} : cor S 61 = gi S 61 := funext fun k => cor_i (by unfold cr; omega)
theorem co62 {S : gM} : cor S 62 = gi S 62 := funext fun k => cor_i (by unfold cr; omega)
theorem co63 {S : gM} : cor S 63 = gi S 63 := funext fun k => cor_i (by unfold cr; omega)
theorem co64 {S : gM} : cor S 64 = gi S 64 := funext fun k => cor_i (by unfold cr; omega)
theorem co65 {S : gM} : cor S 65 = gi S 65 := funext fun k => cor_i (by unfold cr; omega)
theorem co66 {S : gM} : cor S 66 = gi S 66 := funext fun k => cor_i (by unfold cr; omega)
theorem co67 {S : gM} : cor S 67 = gi S 67 := funext fun k => cor_i (by unfold cr; omega)
theorem co1_7 {S : gM} : cor S 1 7 = gi S 1 7 := cor_i (by unfold cr; omega)
theorem co1_8 {S : gM} : cor S 1 8 = gi S 1 8 := cor_i (by unfold cr; omega)
theorem co11_4 {S : gM} : cor S 11 4 = gi S 11 4 := cor_i (by unfold cr; omega)
theorem co55_1 {S : gM} : cor S 55 1 = gi S 55 1 := cor_i (by unfold cr; omega)
theorem co55_2 {S : gM} : cor S 55 2 = gi S 55 2 := cor_i (by unfold cr; omega)
theorem co55_3 {S : gM} : cor S 55 3 = gi S 55 3 := cor_i (by unfold cr; omega)
/-! marks: what holds of a school, a year and a kind as known by a day -/
def oM (C : Nat → Int → Int) (s y w d : Int) : Nat → Int
  | 0 => -1
  | k + 1 => if C 61 k = s ∧ C 62 k = y ∧ C 63 k = w ∧ C 65 k ≤ d then C 64 k else oM C s y w d k
def own (C : Nat → Int → Int) (s y w d : Int) : Int := oM C s y w d (C 55 2).toNat
/-- the last mark of that kind among the first ones -/
def lI (C : Nat → Int → Int) (s y w : Int) : Nat → Int
  | 0 => -1
  | k + 1 => if C 61 k = s ∧ C 62 k = y ∧ C 63 k = w then k else lI C s y w k
def MarkI (S : gM) : Prop :=
  (0 ≤ gi S 55 2 ∧ gi S 55 2 ≤ 300 ∧ gi S 11 4 = gi S 55 2) ∧
  (∀ k : Int, 0 ≤ k → k < gi S 55 2 → (0 ≤ gi S 61 k ∧ gi S 61 k < gi S 55 1) ∧ (0 ≤ gi S 62 k ∧ gi S 62 k < 10) ∧ (0 ≤ gi S 63 k ∧ gi S 63 k < 6) ∧ (0 ≤ gi S 64 k ∧ gi S 64 k ≤ 9999) ∧ gi S 12 k = gi S 64 k ∧ gi S 13 k = gi S 65 k) ∧
  (∀ k : Nat, (k : Int) < gi S 55 2 → gi S 14 k = lI (gi S) (gi S 61 k) (gi S 62 k) (gi S 63 k) k) ∧
  (∀ s y w : Int, 0 ≤ s → s < 12 → 0 ≤ y → y < 10 → 0 ≤ w → w < 6 → gi S 15 ((s * 10 + y) * 6 + w) = lI (gi S) s y w (gi S 55 2).toNat)
section MK
variable {S : gM}
theorem oM_s (C : Nat → Int → Int) (s y w d : Int) (k : Nat) : oM C s y w d (k + 1) = if C 61 k = s ∧ C 62 k = y ∧ C 63 k = w ∧ C 65 k ≤ d then C 64 k else oM C s y w d k := rfl
theorem lI_s (C : Nat → Int → Int) (s y w : Int) (k : Nat) : lI C s y w (k + 1) = if C 61 k = s ∧ C 62 k = y ∧ C 63 k = w then (k : Int) else lI C s y w k := rfl
theorem lI_c (s y w : Int) (k : Nat) : lI (gi S) s y w k = lI (cor S) s y w k := by
  induction k with
  | zero => rfl
  | succ k ih => unfold lI; rw [ih]; simp only [co2, co3, co4, co5, co6, co7, co9, co12, co13, co14, co15, co56, co57, co58, co59, co60, co61, co62, co63, co64, co65, co66, co67, co1_7, co1_8, co11_4, co55_1, co55_2, co55_3]
theorem oM_c (s y w d : Int) (k : Nat) : oM (gi S) s y w d k = oM (cor S) s y w d k := by
  induction k with
  | zero => rfl
  | succ k ih => unfold oM; rw [ih]; simp only [co2, co3, co4, co5, co6, co7, co9, co12, co13, co14, co15, co56, co57, co58, co59, co60, co61, co62, co63, co64, co65, co66, co67, co1_7, co1_8, co11_4, co55_1, co55_2, co55_3]
theorem own_c (s y w d : Int) : own (cor S) s y w d = oM (gi S) s y w d (gi S 55 2).toNat := by
  unfold own; rw [oM_c, co55_2]
theorem oM_rng (C : Nat → Int → Int) (s y w d : Int) (k : Nat) (h : ∀ j : Nat, j < k → 0 ≤ C 64 j ∧ C 64 j ≤ 9999) : -1 ≤ oM C s y w d k ∧ oM C s y w d k ≤ 9999 := by
  induction k with
  | zero => unfold oM; omega
  | succ k ih =>
    unfold oM
    split
    · have := h k (by omega); omega
    · exact ih (fun j hj => h j (by omega))
theorem MarkI.rng (h : MarkI S) (s y w d : Int) : -1 ≤ own (cor S) s y w d ∧ own (cor S) s y w d ≤ 9999 := by
  rw [own_c]
  exact oM_rng _ _ _ _ _ _ (fun j hj => (h.2.1 j (by omega) (by have := h.1; omega)).2.2.2.1)
theorem g126_l6_eq (s y w d : Int) (h : 0 ≤ gi S 55 2 ∧ gi S 55 2 ≤ 300) : ∀ n k : Nat, k ≤ (gi S 55 2).toNat → (gi S 55 2).toNat - k < n → g126_l6 s y w d n (oM (gi S) s y w d k) k S = some (oM (gi S) s y w d (gi S 55 2).toNat, S) := by
  refine upto (gi S 55 2).toNat (fun n k => g126_l6 s y w d n (oM (gi S) s y w d k) k S = some (oM (gi S) s y w d (gi S 55 2).toNat, S)) ?_
  intro n k hk ih
  dsimp only [g126_l6]
  refine p_eq ?_
  repeat' (first | (with_reducible refine p_chk ?_ ?_; (· (first | omega | (simp only [gi_wi, gl_wl, gl_wi, gi_wl, gi_wcl, gl_wcl, Nat.reduceEqDiff, Int.reduceEq, false_and, true_and, and_true, and_false, if_false, if_true]; omega)))) | with_reducible refine p_lt ?_ | (with_reducible refine p_ckI ?_ ?_; (· (first | omega | (simp only [gi_wi, gl_wl, gl_wi, gi_wl, gi_wcl, gl_wcl, Nat.reduceEqDiff, Int.reduceEq, false_and, true_and, and_true, and_false, if_false, if_true]; omega)))) | (with_reducible refine p_ckJ ?_ ?_; (· (first | omega | (simp only [gi_wi, gl_wl, gl_wi, gi_wl, gi_wcl, gl_wcl, Nat.reduceEqDiff, Int.reduceEq, false_and, true_and, and_true, and_false, if_false, if_true]; omega)))) | (with_reducible refine p_call (g102_eq _ _) ?_; try dsimp only) | (with_reducible refine p_call (g103_eq _) ?_; try dsimp only) | (with_reducible refine p_call (g104_eq _) ?_; try dsimp only) | (with_reducible refine p_call (g105_eq _) ?_; try dsimp only) | (with_reducible refine p_call (g112_eq _ _ _) ?_; try dsimp only) | (with_reducible refine p_call (g113_eq _) ?_; try dsimp only) | (with_reducible refine p_call (g114_eq _) ?_; try dsimp only) | (with_reducible refine p_call (g115_eq _) ?_; try dsimp only) | (with_reducible refine p_call (g116_eq _ ?_) ?_; (· (first | omega | (simp only [gi_wi, gl_wl, gl_wi, gi_wl, gi_wcl, gl_wcl, Nat.reduceEqDiff, Int.reduceEq, false_and, true_and, and_true, and_false, if_false, if_true]; omega))); try dsimp only) | (with_reducible refine p_call (g118_eq ?_) ?_; (· (first | omega | (simp only [gi_wi, gl_wl, gl_wi, gi_wl, gi_wcl, gl_wcl, Nat.reduceEqDiff, Int.reduceEq, false_and, true_and, and_true, and_false, if_false, if_true]; omega))); try dsimp only) | (with_reducible refine p_call (g106_eq _ ?_) ?_; (· (first | omega | (simp only [gi_wi, gl_wl, gl_wi, gi_wl, gi_wcl, gl_wcl, Nat.reduceEqDiff, Int.reduceEq, false_and, true_and, and_true, and_false, if_false, if_true]; omega))); try dsimp only) | (with_reducible refine p_call (g2_eq _ _ ?_ ?_) ?_; (· (first | omega | (simp only [gi_wi, gl_wl, gl_wi, gi_wl, gi_wcl, gl_wcl, Nat.reduceEqDiff, Int.reduceEq, false_and, true_and, and_true, and_false, if_false, if_true]; omega))); (· (first | omega | (simp only [gi_wi, gl_wl, gl_wi, gi_wl, gi_wcl, gl_wcl, Nat.reduceEqDiff, Int.reduceEq, false_and, true_and, and_true, and_false, if_false, if_true]; omega))); try dsimp only) | (with_reducible refine p_call (g3_eq _ ?_) ?_; (· (first | omega | (simp only [gi_wi, gl_wl, gl_wi, gi_wl, gi_wcl, gl_wcl, Nat.reduceEqDiff, Int.reduceEq, false_and, true_and, and_true, and_false, if_false, if_true]; omega))); try dsimp only) | (with_reducible refine p_call (g122_eq _ _ ?_) ?_; (· (first | omega | (simp only [gi_wi, gl_wl, gl_wi, gi_wl, gi_wcl, gl_wcl, Nat.reduceEqDiff, Int.reduceEq, false_and, true_and, and_true, and_false, if_false, if_true]; omega))); try dsimp only) | (with_reducible refine p_call (g58_eq) ?_; try dsimp only) | with_reducible refine p_if1 (fun _ => ?_) (fun _ => ?_) | with_reducible refine p_if1n (fun _ => ?_) (fun _ => ?_) | with_reducible refine p_if (fun _ => ?_) (fun _ => ?_))
  · rw [show k = (gi S 55 2).toNat by omega]; exact p_some rfl
  all_goals
    have ih := ih (by omega)
    rw [oM_s] at ih
  · rw [if_neg (by omega)] at ih; exact ⟨_, ih, rfl⟩
  · rw [if_neg (by omega)] at ih; exact ⟨_, ih, rfl⟩
  · rw [if_neg (by omega)] at ih; exact ⟨_, ih, rfl⟩
  · rw [if_neg (by omega)] at ih; exact ⟨_, ih, rfl⟩
  · rw [if_pos (by omega)] at ih; exact ⟨_, ih, rfl⟩
theorem g126_eq (h : 0 ≤ gi S 55 2 ∧ gi S 55 2 ≤ 300) (s y w d : Int) : g126 s y w d S = some (own (cor S) s y w d, S) := by
  unfold g126
  rw [own_c]
  exact g126_l6_eq s y w d h 100000 0 (Nat.zero_le _) (by omega)
theorem lI_cases (C : Nat → Int → Int) (s y w d : Int) (K : Nat) : (lI C s y w K = -1 ∧ oM C s y w d K = -1) ∨ ∃ j : Nat, lI C s y w K = j ∧ j < K ∧ (C 61 j = s ∧ C 62 j = y ∧ C 63 j = w) ∧ oM C s y w d K = if C 65 j ≤ d then C 64 j else oM C s y w d j := by
  induction K with
  | zero => exact Or.inl ⟨rfl, rfl⟩
  | succ k ih =>
    by_cases hm : C 61 k = s ∧ C 62 k = y ∧ C 63 k = w
    · refine Or.inr ⟨k, ?_, by omega, hm, ?_⟩
      · unfold lI; rw [if_pos hm]
      · rw [oM]
        by_cases hd : C 65 k ≤ d
        · rw [if_pos ⟨hm.1, hm.2.1, hm.2.2, hd⟩, if_pos hd]
        · rw [if_neg (fun z => hd z.2.2.2), if_neg hd]
    · have e1 : lI C s y w (k + 1) = lI C s y w k := by rw [lI]; exact if_neg hm
      have e2 : oM C s y w d (k + 1) = oM C s y w d k := by rw [oM]; exact if_neg (fun z => hm ⟨z.1, z.2.1, z.2.2.1⟩)
      rw [e1, e2]
      rcases ih with ih | ⟨j, a, b, c⟩
      · exact Or.inl ih
      · exact Or.inr ⟨j, a, by omega, c⟩
theorem g12_l21_eq (h : MarkI S) (s y w d : Int) : ∀ (n K i : Nat), K ≤ (gi S 55 2).toNat → K + i ≤ 300 → 300 - i < n → g12_l21 d n (lI (gi S) s y w K) i S = some (oM (gi S) s y w d K, S) := by
  intro n
  induction n with
  | zero => intro K i h1 h2 h3; omega
  | succ n ih =>
    intro K i h1 h2 h3
    dsimp only [g12_l21]
    have h0 := h.1
    rcases lI_cases (gi S) s y w d K with ⟨e1, e2⟩ | ⟨j, e1, e2, e3, e4⟩
    · rw [e1, e2]
      refine p_eq ?_
      repeat' (first | (with_reducible refine p_chk ?_ ?_; (· (first | omega | (simp only [gi_wi, gl_wl, gl_wi, gi_wl, gi_wcl, gl_wcl, Nat.reduceEqDiff, Int.reduceEq, false_and, true_and, and_true, and_false, if_false, if_true]; omega)))) | with_reducible refine p_lt ?_ | (with_reducible refine p_ckI ?_ ?_; (· (first | omega | (simp only [gi_wi, gl_wl, gl_wi, gi_wl, gi_wcl, gl_wcl, Nat.reduceEqDiff, Int.reduceEq, false_and, true_and, and_true, and_false, if_false, if_true]; omega)))) | (with_reducible refine p_ckJ ?_ ?_; (· (first | omega | (simp only [gi_wi, gl_wl, gl_wi, gi_wl, gi_wcl, gl_wcl, Nat.reduceEqDiff, Int.reduceEq, false_and, true_and, and_true, and_false, if_false, if_true]; omega)))) | (with_reducible refine p_call (g102_eq _ _) ?_; try dsimp only) | (with_reducible refine p_call (g103_eq _) ?_; try dsimp only) | (with_reducible refine p_call (g104_eq _) ?_; try dsimp only) | (with_reducible refine p_call (g105_eq _) ?_; try dsimp only) | (with_reducible refine p_call (g112_eq _ _ _) ?_; try dsimp only) | (with_reducible refine p_call (g113_eq _) ?_; try dsimp only) | (with_reducible refine p_call (g114_eq _) ?_; try dsimp only) | (with_reducible refine p_call (g115_eq _) ?_; try dsimp only) | (with_reducible refine p_call (g116_eq _ ?_) ?_; (· (first | omega | (simp only [gi_wi, gl_wl, gl_wi, gi_wl, gi_wcl, gl_wcl, Nat.reduceEqDiff, Int.reduceEq, false_and, true_and, and_true, and_false, if_false, if_true]; omega))); try dsimp only) | (with_reducible refine p_call (g118_eq ?_) ?_; (· (first | omega | (simp only [gi_wi, gl_wl, gl_wi, gi_wl, gi_wcl, gl_wcl, Nat.reduceEqDiff, Int.reduceEq, false_and, true_and, and_true, and_false, if_false, if_true]; omega))); try dsimp only) | (with_reducible refine p_call (g106_eq _ ?_) ?_; (· (first | omega | (simp only [gi_wi, gl_wl, gl_wi, gi_wl, gi_wcl, gl_wcl, Nat.reduceEqDiff, Int.reduceEq, false_and, true_and, and_true, and_false, if_false, if_true]; omega))); try dsimp only) | (with_reducible refine p_call (g2_eq _ _ ?_ ?_) ?_; (· (first | omega | (simp only [gi_wi, gl_wl, gl_wi, gi_wl, gi_wcl, gl_wcl, Nat.reduceEqDiff, Int.reduceEq, false_and, true_and, and_true, and_false, if_false, if_true]; omega))); (· (first | omega | (simp only [gi_wi, gl_wl, gl_wi, gi_wl, gi_wcl, gl_wcl, Nat.reduceEqDiff, Int.reduceEq, false_and, true_and, and_true, and_false, if_false, if_true]; omega))); try dsimp only) | (with_reducible refine p_call (g3_eq _ ?_) ?_; (· (first | omega | (simp only [gi_wi, gl_wl, gl_wi, gi_wl, gi_wcl, gl_wcl, Nat.reduceEqDiff, Int.reduceEq, false_and, true_and, and_true, and_false, if_false, if_true]; omega))); try dsimp only) | (with_reducible refine p_call (g122_eq _ _ ?_) ?_; (· (first | omega | (simp only [gi_wi, gl_wl, gl_wi, gi_wl, gi_wcl, gl_wcl, Nat.reduceEqDiff, Int.reduceEq, false_and, true_and, and_true, and_false, if_false, if_true]; omega))); try dsimp only) | (with_reducible refine p_call (g58_eq) ?_; try dsimp only) | with_reducible refine p_if1 (fun _ => ?_) (fun _ => ?_) | with_reducible refine p_if1n (fun _ => ?_) (fun _ => ?_) | with_reducible refine p_if (fun _ => ?_) (fun _ => ?_))
      all_goals first | exact p_some rfl | omega
    · rw [e1, e4]
      have hj := h.2.1 j (by omega) (by omega)
      have hb := h.2.2.1 j (by omega)
      rw [e3.1, e3.2.1, e3.2.2] at hb
      have ih := ih j (i + 1) (by omega) (by omega) (by omega)
      refine p_eq ?_
      repeat' (first | (with_reducible refine p_chk ?_ ?_; (· (first | omega | (simp only [gi_wi, gl_wl, gl_wi, gi_wl, gi_wcl, gl_wcl, Nat.reduceEqDiff, Int.reduceEq, false_and, true_and, and_true, and_false, if_false, if_true]; omega)))) | with_reducible refine p_lt ?_ | (with_reducible refine p_ckI ?_ ?_; (· (first | omega | (simp only [gi_wi, gl_wl, gl_wi, gi_wl, gi_wcl, gl_wcl, Nat.reduceEqDiff, Int.reduceEq, false_and, true_and, and_true, and_false, if_false, if_true]; omega)))) | (with_reducible refine p_ckJ ?_ ?_; (· (first | omega | (simp only [gi_wi, gl_wl, gl_wi, gi_wl, gi_wcl, gl_wcl, Nat.reduceEqDiff, Int.reduceEq, false_and, true_and, and_true, and_false, if_false, if_true]; omega)))) | (with_reducible refine p_call (g102_eq _ _) ?_; try dsimp only) | (with_reducible refine p_call (g103_eq _) ?_; try dsimp only) | (with_reducible refine p_call (g104_eq _) ?_; try dsimp only) | (with_reducible refine p_call (g105_eq _) ?_; try dsimp only) | (with_reducible refine p_call (g112_eq _ _ _) ?_; try dsimp only) | (with_reducible refine p_call (g113_eq _) ?_; try dsimp only) | (with_reducible refine p_call (g114_eq _) ?_; try dsimp only) | (with_reducible refine p_call (g115_eq _) ?_; try dsimp only) | (with_reducible refine p_call (g116_eq _ ?_) ?_; (· (first | omega | (simp only [gi_wi, gl_wl, gl_wi, gi_wl, gi_wcl, gl_wcl, Nat.reduceEqDiff, Int.reduceEq, false_and, true_and, and_true, and_false, if_false, if_true]; omega))); try dsimp only) | (with_reducible refine p_call (g118_eq ?_) ?_; (· (first | omega | (simp only [gi_wi, gl_wl, gl_wi, gi_wl, gi_wcl, gl_wcl, Nat.reduceEqDiff, Int.reduceEq, false_and, true_and, and_true, and_false, if_false, if_true]; omega))); try dsimp only) | (with_reducible refine p_call (g106_eq _ ?_) ?_; (· (first | omega | (simp only [gi_wi, gl_wl, gl_wi, gi_wl, gi_wcl, gl_wcl, Nat.reduceEqDiff, Int.reduceEq, false_and, true_and, and_true, and_false, if_false, if_true]; omega))); try dsimp only) | (with_reducible refine p_call (g2_eq _ _ ?_ ?_) ?_; (· (first | omega | (simp only [gi_wi, gl_wl, gl_wi, gi_wl, gi_wcl, gl_wcl, Nat.reduceEqDiff, Int.reduceEq, false_and, true_and, and_true, and_false, if_false, if_true]; omega))); (· (first | omega | (simp only [gi_wi, gl_wl, gl_wi, gi_wl, gi_wcl, gl_wcl, Nat.reduceEqDiff, Int.reduceEq, false_and, true_and, and_true, and_false, if_false, if_true]; omega))); try dsimp only) | (with_reducible refine p_call (g3_eq _ ?_) ?_; (· (first | omega | (simp only [gi_wi, gl_wl, gl_wi, gi_wl, gi_wcl, gl_wcl, Nat.reduceEqDiff, Int.reduceEq, false_and, true_and, and_true, and_false, if_false, if_true]; omega))); try dsimp only) | (with_reducible refine p_call (g122_eq _ _ ?_) ?_; (· (first | omega | (simp only [gi_wi, gl_wl, gl_wi, gi_wl, gi_wcl, gl_wcl, Nat.reduceEqDiff, Int.reduceEq, false_and, true_and, and_true, and_false, if_false, if_true]; omega))); try dsimp only) | (with_reducible refine p_call (g58_eq) ?_; try dsimp only) | with_reducible refine p_if1 (fun _ => ?_) (fun _ => ?_) | with_reducible refine p_if1n (fun _ => ?_) (fun _ => ?_) | with_reducible refine p_if (fun _ => ?_) (fun _ => ?_))
      · omega
      · omega
      · rw [if_neg (by omega), hb]; exact ⟨_, ih, rfl⟩
      · rw [if_pos (by omega)]; exact p_some (by rw [hj.2.2.2.2.1])
theorem g12_eq (h : MarkI S) (s y w d : Int) (hs : 0 ≤ s ∧ s < 12) (hy : 0 ≤ y ∧ y < 10) (hw : 0 ≤ w ∧ w < 6) : g12 s y w d S = some (own (cor S) s y w d, S) := by
  refine p_eq ?_
  unfold g12
  repeat' (first | (with_reducible refine p_chk ?_ ?_; (· (first | omega | (simp only [gi_wi, gl_wl, gl_wi, gi_wl, gi_wcl, gl_wcl, Nat.reduceEqDiff, Int.reduceEq, false_and, true_and, and_true, and_false, if_false, if_true]; omega)))) | with_reducible refine p_lt ?_ | (with_reducible refine p_ckI ?_ ?_; (· (first | omega | (simp only [gi_wi, gl_wl, gl_wi, gi_wl, gi_wcl, gl_wcl, Nat.reduceEqDiff, Int.reduceEq, false_and, true_and, and_true, and_false, if_false, if_true]; omega)))) | (with_reducible refine p_ckJ ?_ ?_; (· (first | omega | (simp only [gi_wi, gl_wl, gl_wi, gi_wl, gi_wcl, gl_wcl, Nat.reduceEqDiff, Int.reduceEq, false_and, true_and, and_true, and_false, if_false, if_true]; omega)))) | (with_reducible refine p_call (g102_eq _ _) ?_; try dsimp only) | (with_reducible refine p_call (g103_eq _) ?_; try dsimp only) | (with_reducible refine p_call (g104_eq _) ?_; try dsimp only) | (with_reducible refine p_call (g105_eq _) ?_; try dsimp only) | (with_reducible refine p_call (g112_eq _ _ _) ?_; try dsimp only) | (with_reducible refine p_call (g113_eq _) ?_; try dsimp only) | (with_reducible refine p_call (g114_eq _) ?_; try dsimp only) | (with_reducible refine p_call (g115_eq _) ?_; try dsimp only) | (with_reducible refine p_call (g116_eq _ ?_) ?_; (· (first | omega | (simp only [gi_wi, gl_wl, gl_wi, gi_wl, gi_wcl, gl_wcl, Nat.reduceEqDiff, Int.reduceEq, false_and, true_and, and_true, and_false, if_false, if_true]; omega))); try dsimp only) | (with_reducible refine p_call (g118_eq ?_) ?_; (· (first | omega | (simp only [gi_wi, gl_wl, gl_wi, gi_wl, gi_wcl, gl_wcl, Nat.reduceEqDiff, Int.reduceEq, false_and, true_and, and_true, and_false, if_false, if_true]; omega))); try dsimp only) | (with_reducible refine p_call (g106_eq _ ?_) ?_; (· (first | omega | (simp only [gi_wi, gl_wl, gl_wi, gi_wl, gi_wcl, gl_wcl, Nat.reduceEqDiff, Int.reduceEq, false_and, true_and, and_true, and_false, if_false, if_true]; omega))); try dsimp only) | (with_reducible refine p_call (g2_eq _ _ ?_ ?_) ?_; (· (first | omega | (simp only [gi_wi, gl_wl, gl_wi, gi_wl, gi_wcl, gl_wcl, Nat.reduceEqDiff, Int.reduceEq, false_and, true_and, and_true, and_false, if_false, if_true]; omega))); (· (first | omega | (simp only [gi_wi, gl_wl, gl_wi, gi_wl, gi_wcl, gl_wcl, Nat.reduceEqDiff, Int.reduceEq, false_and, true_and, and_true, and_false, if_false, if_true]; omega))); try dsimp only) | (with_reducible refine p_call (g3_eq _ ?_) ?_; (· (first | omega | (simp only [gi_wi, gl_wl, gl_wi, gi_wl, gi_wcl, gl_wcl, Nat.reduceEqDiff, Int.reduceEq, false_and, true_and, and_true, and_false, if_false, if_true]; omega))); try dsimp only) | (with_reducible refine p_call (g122_eq _ _ ?_) ?_; (· (first | omega | (simp only [gi_wi, gl_wl, gl_wi, gi_wl, gi_wcl, gl_wcl, Nat.reduceEqDiff, Int.reduceEq, false_and, true_and, and_true, and_false, if_false, if_true]; omega))); try dsimp only) | (with_reducible refine p_call (g58_eq) ?_; try dsimp only) | with_reducible refine p_if1 (fun _ => ?_) (fun _ => ?_) | with_reducible refine p_if1n (fun _ => ?_) (fun _ => ?_) | with_reducible refine p_if (fun _ => ?_) (fun _ => ?_))
  have h0 := h.1
  rw [h.2.2.2 s y w (by omega) (by omega) (by omega) (by omega) (by omega) (by omega), own_c]
  exact ⟨_, g12_l21_eq h s y w d 100000 (gi S 55 2).toNat 0 (by omega) (by omega) (by omega), rfl⟩
def c_mkd (n s y w d : Int) : Prop := (0 ≤ s ∧ s < n) ∧ (0 ≤ y ∧ y < 10) ∧ (0 ≤ w ∧ w < 6) ∧ (0 ≤ d ∧ d ≤ 999)
theorem g80_w (h : MarkI S) (hn : gi S 1 7 ≤ 12) (s y w d : Int) : Wp (Two (c_mkd (gi S 1 7) s y w d) (own (cor S) s y w d) S (-1) S) (g80 s y w d S) := by
  unfold g80 c_mkd
  repeat' (first | (with_reducible refine p_chk ?_ ?_; (· (first | omega | (simp only [gi_wi, gl_wl, gl_wi, gi_wl, gi_wcl, gl_wcl, Nat.reduceEqDiff, Int.reduceEq, false_and, true_and, and_true, and_false, if_false, if_true]; omega)))) | with_reducible refine p_lt ?_ | (with_reducible refine p_ckI ?_ ?_; (· (first | omega | (simp only [gi_wi, gl_wl, gl_wi, gi_wl, gi_wcl, gl_wcl, Nat.reduceEqDiff, Int.reduceEq, false_and, true_and, and_true, and_false, if_false, if_true]; omega)))) | (with_reducible refine p_ckJ ?_ ?_; (· (first | omega | (simp only [gi_wi, gl_wl, gl_wi, gi_wl, gi_wcl, gl_wcl, Nat.reduceEqDiff, Int.reduceEq, false_and, true_and, and_true, and_false, if_false, if_true]; omega)))) | (with_reducible refine p_call (g102_eq _ _) ?_; try dsimp only) | (with_reducible refine p_call (g103_eq _) ?_; try dsimp only) | (with_reducible refine p_call (g104_eq _) ?_; try dsimp only) | (with_reducible refine p_call (g105_eq _) ?_; try dsimp only) | (with_reducible refine p_call (g112_eq _ _ _) ?_; try dsimp only) | (with_reducible refine p_call (g113_eq _) ?_; try dsimp only) | (with_reducible refine p_call (g114_eq _) ?_; try dsimp only) | (with_reducible refine p_call (g115_eq _) ?_; try dsimp only) | (with_reducible refine p_call (g116_eq _ ?_) ?_; (· (first | omega | (simp only [gi_wi, gl_wl, gl_wi, gi_wl, gi_wcl, gl_wcl, Nat.reduceEqDiff, Int.reduceEq, false_and, true_and, and_true, and_false, if_false, if_true]; omega))); try dsimp only) | (with_reducible refine p_call (g118_eq ?_) ?_; (· (first | omega | (simp only [gi_wi, gl_wl, gl_wi, gi_wl, gi_wcl, gl_wcl, Nat.reduceEqDiff, Int.reduceEq, false_and, true_and, and_true, and_false, if_false, if_true]; omega))); try dsimp only) | (with_reducible refine p_call (g106_eq _ ?_) ?_; (· (first | omega | (simp only [gi_wi, gl_wl, gl_wi, gi_wl, gi_wcl, gl_wcl, Nat.reduceEqDiff, Int.reduceEq, false_and, true_and, and_true, and_false, if_false, if_true]; omega))); try dsimp only) | (with_reducible refine p_call (g2_eq _ _ ?_ ?_) ?_; (· (first | omega | (simp only [gi_wi, gl_wl, gl_wi, gi_wl, gi_wcl, gl_wcl, Nat.reduceEqDiff, Int.reduceEq, false_and, true_and, and_true, and_false, if_false, if_true]; omega))); (· (first | omega | (simp only [gi_wi, gl_wl, gl_wi, gi_wl, gi_wcl, gl_wcl, Nat.reduceEqDiff, Int.reduceEq, false_and, true_and, and_true, and_false, if_false, if_true]; omega))); try dsimp only) | (with_reducible refine p_call (g3_eq _ ?_) ?_; (· (first | omega | (simp only [gi_wi, gl_wl, gl_wi, gi_wl, gi_wcl, gl_wcl, Nat.reduceEqDiff, Int.reduceEq, false_and, true_and, and_true, and_false, if_false, if_true]; omega))); try dsimp only) | (with_reducible refine p_call (g122_eq _ _ ?_) ?_; (· (first | omega | (simp only [gi_wi, gl_wl, gl_wi, gi_wl, gi_wcl, gl_wcl, Nat.reduceEqDiff, Int.reduceEq, false_and, true_and, and_true, and_false, if_false, if_true]; omega))); try dsimp only) | (with_reducible refine p_call (g58_eq) ?_; try dsimp only) | with_reducible refine p_if1 (fun _ => ?_) (fun _ => ?_) | with_reducible refine p_if1n (fun _ => ?_) (fun _ => ?_) | with_reducible refine p_if (fun _ => ?_) (fun _ => ?_))
  all_goals first | exact p_some ⟨fun z => absurd z (by omega), fun _ => rfl⟩ | skip
  refine p_call (g12_eq h s y w d (by omega) (by omega) (by omega)) ?_
  exact p_some ⟨fun _ => rfl, fun z => absurd (by omega) z⟩
theorem g127_w (h : MarkI S) (hn : 0 ≤ gi S 55 1 ∧ gi S 55 1 ≤ 12) (s y w d : Int) : Wp (Two (c_mkd (gi S 55 1) s y w d) (own (cor S) s y w d) S (-1) S) (g127 s y w d S) := by
  unfold g127 c_mkd
  have h0 := h.1
  repeat' (first | (with_reducible refine p_chk ?_ ?_; (· (first | omega | (simp only [gi_wi, gl_wl, gl_wi, gi_wl, gi_wcl, gl_wcl, Nat.reduceEqDiff, Int.reduceEq, false_and, true_and, and_true, and_false, if_false, if_true]; omega)))) | with_reducible refine p_lt ?_ | (with_reducible refine p_ckI ?_ ?_; (· (first | omega | (simp only [gi_wi, gl_wl, gl_wi, gi_wl, gi_wcl, gl_wcl, Nat.reduceEqDiff, Int.reduceEq, false_and, true_and, and_true, and_false, if_false, if_true]; omega)))) | (with_reducible refine p_ckJ ?_ ?_; (· (first | omega | (simp only [gi_wi, gl_wl, gl_wi, gi_wl, gi_wcl, gl_wcl, Nat.reduceEqDiff, Int.reduceEq, false_and, true_and, and_true, and_false, if_false, if_true]; omega)))) | (with_reducible refine p_call (g102_eq _ _) ?_; try dsimp only) | (with_reducible refine p_call (g103_eq _) ?_; try dsimp only) | (with_reducible refine p_call (g104_eq _) ?_; try dsimp only) | (with_reducible refine p_call (g105_eq _) ?_; try dsimp only) | (with_reducible refine p_call (g112_eq _ _ _) ?_; try dsimp only) | (with_reducible refine p_call (g113_eq _) ?_; try dsimp only) | (with_reducible refine p_call (g114_eq _) ?_; try dsimp only) | (with_reducible refine p_call (g115_eq _) ?_; try dsimp only) | (with_reducible refine p_call (g116_eq _ ?_) ?_; (· (first | omega | (simp only [gi_wi, gl_wl, gl_wi, gi_wl, gi_wcl, gl_wcl, Nat.reduceEqDiff, Int.reduceEq, false_and, true_and, and_true, and_false, if_false, if_true]; omega))); try dsimp only) | (with_reducible refine p_call (g118_eq ?_) ?_; (· (first | omega | (simp only [gi_wi, gl_wl, gl_wi, gi_wl, gi_wcl, gl_wcl, Nat.reduceEqDiff, Int.reduceEq, false_and, true_and, and_true, and_false, if_false, if_true]; omega))); try dsimp only) | (with_reducible refine p_call (g106_eq _ ?_) ?_; (· (first | omega | (simp only [gi_wi, gl_wl, gl_wi, gi_wl, gi_wcl, gl_wcl, Nat.reduceEqDiff, Int.reduceEq, false_and, true_and, and_true, and_false, if_false, if_true]; omega))); try dsimp only) | (with_reducible refine p_call (g2_eq _ _ ?_ ?_) ?_; (· (first | omega | (simp only [gi_wi, gl_wl, gl_wi, gi_wl, gi_wcl, gl_wcl, Nat.reduceEqDiff, Int.reduceEq, false_and, true_and, and_true, and_false, if_false, if_true]; omega))); (· (first | omega | (simp only [gi_wi, gl_wl, gl_wi, gi_wl, gi_wcl, gl_wcl, Nat.reduceEqDiff, Int.reduceEq, false_and, true_and, and_true, and_false, if_false, if_true]; omega))); try dsimp only) | (with_reducible refine p_call (g3_eq _ ?_) ?_; (· (first | omega | (simp only [gi_wi, gl_wl, gl_wi, gi_wl, gi_wcl, gl_wcl, Nat.reduceEqDiff, Int.reduceEq, false_and, true_and, and_true, and_false, if_false, if_true]; omega))); try dsimp only) | (with_reducible refine p_call (g122_eq _ _ ?_) ?_; (· (first | omega | (simp only [gi_wi, gl_wl, gl_wi, gi_wl, gi_wcl, gl_wcl, Nat.reduceEqDiff, Int.reduceEq, false_and, true_and, and_true, and_false, if_false, if_true]; omega))); try dsimp only) | (with_reducible refine p_call (g58_eq) ?_; try dsimp only) | with_reducible refine p_if1 (fun _ => ?_) (fun _ => ?_) | with_reducible refine p_if1n (fun _ => ?_) (fun _ => ?_) | with_reducible refine p_if (fun _ => ?_) (fun _ => ?_))
  all_goals first | exact p_some ⟨fun z => absurd z (by omega), fun _ => rfl⟩ | skip
  refine p_call (g126_eq ⟨h0.1, h0.2.1⟩ s y w d) ?_
  exact p_some ⟨fun _ => rfl, fun z => absurd (by omega) z⟩
end MK
