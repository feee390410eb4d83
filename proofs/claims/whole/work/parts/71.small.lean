/-! count, feed, propose, object, foretold -/
def TapeI (S : gM) : Prop := gi S 0 7 = gi S 55 19 ∧ (0 ≤ gi S 55 19 ∧ gi S 55 19 ≤ 700) ∧ ∀ k, 0 ≤ k → k < gi S 55 19 → (0 ≤ gi S 54 k ∧ gi S 54 k ≤ 255) ∧ b_byte (gi S 54 k) = gi S 83 k
def su_TapeI : List Nat := [54, 83, 1000000007, 1000055019]
theorem TapeI.fr {S S' : gM} {W : List Nat} (h : TapeI S) (hF : Fr W S S') (hd : su_TapeI.all (fun x => !W.contains x) = true) : TapeI S' := by
  have e0 : gi S' 0 7 = gi S 0 7 := hF.cell hd rfl
  have e1 : gi S' 55 19 = gi S 55 19 := hF.cell hd rfl
  have f0 : gi S' 54 = gi S 54 := funext fun k => hF.cell hd rfl
  have f1 : gi S' 83 = gi S 83 := funext fun k => hF.cell hd rfl
  unfold TapeI at h ⊢
  simp only [e0, e1, f0, f1]
  exact h
def MoveI (S : gM) : Prop :=
  (gi S 45 8 = gi S 55 53 ∧ 0 ≤ gi S 55 53 ∧ gi S 55 53 ≤ 20) ∧
  (∀ k, 0 ≤ k → k < gi S 55 53 → (gi S 46 k = gi S 99 k ∧ gi S 47 k = gi S 94 k ∧ gi S 48 k = gi S 95 k ∧ gi S 49 k = gi S 96 k ∧ gi S 50 k = gi S 97 k ∧ gi S 51 k = gi S 98 k) ∧ (1 ≤ gi S 96 k ∧ gi S 96 k ≤ 9999999) ∧ (0 ≤ gi S 97 k ∧ gi S 97 k < 10) ∧ (0 ≤ gi S 98 k ∧ gi S 98 k ≤ 999) ∧ ¬ gi S 94 k = gi S 95 k) ∧
  (∀ k, 0 ≤ k → k < 20 → gi S 52 k = gi S 100 k ∧ gi S 53 k = gi S 101 k ∧ (gi S 101 k = 0 ∨ gi S 101 k = 1) ∧ (gi S 55 53 ≤ k → gi S 101 k = 0)) ∧
  gi S 45 9 = sm (fun k => gi S 101 k) 20
def su_MoveI : List Nat := [46, 47, 48, 49, 50, 51, 52, 53, 94, 95, 96, 97, 98, 99, 100, 101, 1000045008, 1000045009, 1000055053]
theorem MoveI.fr {S S' : gM} {W : List Nat} (h : MoveI S) (hF : Fr W S S') (hd : su_MoveI.all (fun x => !W.contains x) = true) : MoveI S' := by
  have e0 : gi S' 45 8 = gi S 45 8 := hF.cell hd rfl
  have e1 : gi S' 45 9 = gi S 45 9 := hF.cell hd rfl
  have e2 : gi S' 55 53 = gi S 55 53 := hF.cell hd rfl
  have f0 : gi S' 46 = gi S 46 := funext fun k => hF.cell hd rfl
  have f1 : gi S' 47 = gi S 47 := funext fun k => hF.cell hd rfl
  have f2 : gi S' 48 = gi S 48 := funext fun k => hF.cell hd rfl
  have f3 : gi S' 49 = gi S 49 := funext fun k => hF.cell hd rfl
  have f4 : gi S' 50 = gi S 50 := funext fun k => hF.cell hd rfl
  have f5 : gi S' 51 = gi S 51 := funext fun k => hF.cell hd rfl
  have f6 : gi S' 52 = gi S 52 := funext fun k => hF.cell hd rfl
  have f7 : gi S' 53 = gi S 53 := funext fun k => hF.cell hd rfl
  have f8 : gi S' 94 = gi S 94 := funext fun k => hF.cell hd rfl
  have f9 : gi S' 95 = gi S 95 := funext fun k => hF.cell hd rfl
  have f10 : gi S' 96 = gi S 96 := funext fun k => hF.cell hd rfl
  have f11 : gi S' 97 = gi S 97 := funext fun k => hF.cell hd rfl
  have f12 : gi S' 98 = gi S 98 := funext fun k => hF.cell hd rfl
  have f13 : gi S' 99 = gi S 99 := funext fun k => hF.cell hd rfl
  have f14 : gi S' 100 = gi S 100 := funext fun k => hF.cell hd rfl
  have f15 : gi S' 101 = gi S 101 := funext fun k => hF.cell hd rfl
  unfold MoveI at h ⊢
  simp only [e0, e1, e2, f0, f1, f2, f3, f4, f5, f6, f7, f8, f9, f10, f11, f12, f13, f14, f15]
  exact h
section SM
variable {S : gM}
noncomputable def opN (C : Nat → Int → Int) (y : Int) : Int := sm (fun k => one (y < C 67 k)) (C 55 1).toNat
theorem one_rng (c : Prop) : 0 ≤ one c ∧ one c ≤ 1 := by rcases one_01 c with h | h <;> omega
theorem opN_part (C : Nat → Int → Int) (y : Int) (k : Nat) (hk : k ≤ 12) : 0 ≤ sm (fun k => one (y < C 67 k)) k ∧ sm (fun k => one (y < C 67 k)) k ≤ 12 := by
  have := sm_rng (f := fun k => one (y < C 67 k)) 0 1 k (fun j _ => one_rng _)
  omega
theorem g6_eq (hl : LandI S) (y : Int) : g6 y S = some (opN (cor S) y, S) := by
  unfold g6 opN
  rw [co55_1, co67]
  have h0 := hl.1
  refine upto (gi S 55 1).toNat (fun n k => g6_l4 y n (sm (fun k => one (y < gi S 67 k)) k) k S = some (sm (fun k => one (y < gi S 67 k)) (gi S 55 1).toNat, S)) ?_ 100000 0 (Nat.zero_le _) (by omega)
  intro n k hk ih
  dsimp only [g6_l4]
  have hp := opN_part (gi S) y k (by omega)
  refine p_eq ?_
  rw [lt_t]
  refine p_if (fun hc => ?_) (fun hc => ?_)
  · rw [show k = (gi S 55 1).toNat by omega]; exact p_some rfl
  · have ih := ih (by omega)
    rw [sm_s] at ih
    have hkk := (hl.2.1 k (by omega) (by omega)).1
    repeat' (first | (with_reducible refine p_chk ?_ ?_; (· (first | omega | (simp only [gi_wi, gl_wl, gl_wi, gi_wl, gi_wcl, gl_wcl, Nat.reduceEqDiff, Int.reduceEq, false_and, true_and, and_true, and_false, if_false, if_true]; omega)))) | with_reducible refine p_lt ?_ | (with_reducible refine p_ckI ?_ ?_; (· (first | omega | (simp only [gi_wi, gl_wl, gl_wi, gi_wl, gi_wcl, gl_wcl, Nat.reduceEqDiff, Int.reduceEq, false_and, true_and, and_true, and_false, if_false, if_true]; omega)))) | (with_reducible refine p_ckJ ?_ ?_; (· (first | omega | (simp only [gi_wi, gl_wl, gl_wi, gi_wl, gi_wcl, gl_wcl, Nat.reduceEqDiff, Int.reduceEq, false_and, true_and, and_true, and_false, if_false, if_true]; omega)))) | (with_reducible refine p_call (g102_eq _ _) ?_; try dsimp only) | (with_reducible refine p_call (g103_eq _) ?_; try dsimp only) | (with_reducible refine p_call (g104_eq _) ?_; try dsimp only) | (with_reducible refine p_call (g105_eq _) ?_; try dsimp only) | (with_reducible refine p_call (g112_eq _ _ _) ?_; try dsimp only) | (with_reducible refine p_call (g113_eq _) ?_; try dsimp only) | (with_reducible refine p_call (g114_eq _) ?_; try dsimp only) | (with_reducible refine p_call (g115_eq _) ?_; try dsimp only) | (with_reducible refine p_call (g116_eq _ ?_) ?_; (· (first | omega | (simp only [gi_wi, gl_wl, gl_wi, gi_wl, gi_wcl, gl_wcl, Nat.reduceEqDiff, Int.reduceEq, false_and, true_and, and_true, and_false, if_false, if_true]; omega))); try dsimp only) | (with_reducible refine p_call (g118_eq ?_) ?_; (· (first | omega | (simp only [gi_wi, gl_wl, gl_wi, gi_wl, gi_wcl, gl_wcl, Nat.reduceEqDiff, Int.reduceEq, false_and, true_and, and_true, and_false, if_false, if_true]; omega))); try dsimp only) | (with_reducible refine p_call (g106_eq _ ?_) ?_; (· (first | omega | (simp only [gi_wi, gl_wl, gl_wi, gi_wl, gi_wcl, gl_wcl, Nat.reduceEqDiff, Int.reduceEq, false_and, true_and, and_true, and_false, if_false, if_true]; omega))); try dsimp only) | (with_reducible refine p_call (g2_eq _ _ ?_ ?_) ?_; (· (first | omega | (simp only [gi_wi, gl_wl, gl_wi, gi_wl, gi_wcl, gl_wcl, Nat.reduceEqDiff, Int.reduceEq, false_and, true_and, and_true, and_false, if_false, if_true]; omega))); (· (first | omega | (simp only [gi_wi, gl_wl, gl_wi, gi_wl, gi_wcl, gl_wcl, Nat.reduceEqDiff, Int.reduceEq, false_and, true_and, and_true, and_false, if_false, if_true]; omega))); try dsimp only) | (with_reducible refine p_call (g3_eq _ ?_) ?_; (· (first | omega | (simp only [gi_wi, gl_wl, gl_wi, gi_wl, gi_wcl, gl_wcl, Nat.reduceEqDiff, Int.reduceEq, false_and, true_and, and_true, and_false, if_false, if_true]; omega))); try dsimp only) | (with_reducible refine p_call (g122_eq _ _ ?_) ?_; (· (first | omega | (simp only [gi_wi, gl_wl, gl_wi, gi_wl, gi_wcl, gl_wcl, Nat.reduceEqDiff, Int.reduceEq, false_and, true_and, and_true, and_false, if_false, if_true]; omega))); try dsimp only) | (with_reducible refine p_call (g58_eq) ?_; try dsimp only) | with_reducible refine p_if1 (fun _ => ?_) (fun _ => ?_) | with_reducible refine p_if1n (fun _ => ?_) (fun _ => ?_) | with_reducible refine p_if (fun _ => ?_) (fun _ => ?_))
    · rw [one_t (by omega)] at ih; exact ⟨_, ih, rfl⟩
    · rw [one_f (by omega), Int.add_zero] at ih; exact ⟨_, ih, rfl⟩
theorem g197_l68_eq (hl : LandI S) (hd : DayI S) : g197_l68 100000 0 0 S = some (opN (cor S) (gi S 55 0 / 100), S) := by
  unfold opN
  rw [co55_1, co67]
  have h0 := hl.1
  have hd2 := hd.2
  refine upto (gi S 55 1).toNat (fun n k => g197_l68 n (sm (fun k => one (gi S 55 0 / 100 < gi S 67 k)) k) k S = some (sm (fun k => one (gi S 55 0 / 100 < gi S 67 k)) (gi S 55 1).toNat, S)) ?_ 100000 0 (Nat.zero_le _) (by omega)
  intro n k hk ih
  dsimp only [g197_l68]
  have hp := opN_part (gi S) (gi S 55 0 / 100) k (by omega)
  refine p_eq ?_
  rw [lt_t]
  refine p_if (fun hc => ?_) (fun hc => ?_)
  · rw [show k = (gi S 55 1).toNat by omega]; exact p_some rfl
  · have ih := ih (by omega)
    rw [sm_s] at ih
    refine p_call (g118_eq ⟨hd2.1, hd2.2⟩) ?_
    refine p_call (g122_eq k _ (by omega)) ?_
    refine p_call (g113_eq _) ?_
    dsimp only
    rw [one_c (d := gi S 55 0 / 100 < gi S 67 k) (by rw [one_0]; exact Classical.not_not)]
    have o1 := one_rng (gi S 55 0 / 100 < gi S 67 k)
    repeat (first | (with_reducible refine p_chk ?_ ?_; (· (first | omega | (simp only [gi_wi, gl_wl, gl_wi, gi_wl, gi_wcl, gl_wcl, Nat.reduceEqDiff, Int.reduceEq, false_and, true_and, and_true, and_false, if_false, if_true]; omega)))) | with_reducible refine p_lt ?_ | (with_reducible refine p_ckI ?_ ?_; (· (first | omega | (simp only [gi_wi, gl_wl, gl_wi, gi_wl, gi_wcl, gl_wcl, Nat.reduceEqDiff, Int.reduceEq, false_and, true_and, and_true, and_false, if_false, if_true]; omega)))) | (with_reducible refine p_ckJ ?_ ?_; (· (first | omega | (simp only [gi_wi, gl_wl, gl_wi, gi_wl, gi_wcl, gl_wcl, Nat.reduceEqDiff, Int.reduceEq, false_and, true_and, and_true, and_false, if_false, if_true]; omega)))))
    exact ⟨_, ih, rfl⟩
theorem g196_eq (hm : MoveI S) : g196 S = some (gi S 45 9, S) := by
  rw [hm.2.2.2]
  unfold g196
  have h0 := hm.1
  have e : sm (fun k => gi S 101 k) 20 = sm (fun k => gi S 101 k) (gi S 55 53).toNat := by
    have key : ∀ d k : Nat, k + d = 20 → (gi S 55 53).toNat ≤ k → sm (fun k => gi S 101 k) 20 = sm (fun k => gi S 101 k) k := by
      intro d
      induction d with
      | zero => intro k h1 h2; rw [show k = 20 by omega]
      | succ d ih =>
        intro k h1 h2
        rw [ih (k + 1) (by omega) (by omega), sm_s, (hm.2.2.1 k (by omega) (by omega)).2.2.2 (by omega), Int.add_zero]
    exact key (20 - (gi S 55 53).toNat) _ (by omega) (Nat.le_refl _)
  rw [e]
  refine upto (gi S 55 53).toNat (fun n k => g196_l4 n (sm (fun k => gi S 101 k) k) k S = some (sm (fun k => gi S 101 k) (gi S 55 53).toNat, S)) ?_ 100000 0 (Nat.zero_le _) (by omega)
  intro n k hk ih
  dsimp only [g196_l4]
  have hp := sm_rng (f := fun k => gi S 101 k) 0 1 k (fun j hj => by have := (hm.2.2.1 j (by omega) (by omega)).2.2.1; omega)
  refine p_eq ?_
  rw [lt_t]
  refine p_if (fun hc => ?_) (fun hc => ?_)
  · rw [show k = (gi S 55 53).toNat by omega]; exact p_some rfl
  · have ih := ih (by omega)
    rw [sm_s] at ih
    have h1 := (hm.2.2.1 k (by omega) (by omega)).2.2.1
    repeat (first | (with_reducible refine p_chk ?_ ?_; (· (first | omega | (simp only [gi_wi, gl_wl, gl_wi, gi_wl, gi_wcl, gl_wcl, Nat.reduceEqDiff, Int.reduceEq, false_and, true_and, and_true, and_false, if_false, if_true]; omega)))) | with_reducible refine p_lt ?_ | (with_reducible refine p_ckI ?_ ?_; (· (first | omega | (simp only [gi_wi, gl_wl, gl_wi, gi_wl, gi_wcl, gl_wcl, Nat.reduceEqDiff, Int.reduceEq, false_and, true_and, and_true, and_false, if_false, if_true]; omega)))) | (with_reducible refine p_ckJ ?_ ?_; (· (first | omega | (simp only [gi_wi, gl_wl, gl_wi, gi_wl, gi_wcl, gl_wcl, Nat.reduceEqDiff, Int.reduceEq, false_and, true_and, and_true, and_false, if_false, if_true]; omega)))))
    refine p_call (g113_eq _) ?_
    dsimp only
    have e2 : one (¬ gi S 101 k = 0) = gi S 101 k := by
      rcases h1 with z | z
      · rw [one_f (by omega), z]
      · rw [one_t (by omega), z]
    rw [e2]
    repeat (first | (with_reducible refine p_chk ?_ ?_; (· (first | omega | (simp only [gi_wi, gl_wl, gl_wi, gi_wl, gi_wcl, gl_wcl, Nat.reduceEqDiff, Int.reduceEq, false_and, true_and, and_true, and_false, if_false, if_true]; omega)))) | with_reducible refine p_lt ?_ | (with_reducible refine p_ckI ?_ ?_; (· (first | omega | (simp only [gi_wi, gl_wl, gl_wi, gi_wl, gi_wcl, gl_wcl, Nat.reduceEqDiff, Int.reduceEq, false_and, true_and, and_true, and_false, if_false, if_true]; omega)))) | (with_reducible refine p_ckJ ?_ ?_; (· (first | omega | (simp only [gi_wi, gl_wl, gl_wi, gi_wl, gi_wcl, gl_wcl, Nat.reduceEqDiff, Int.reduceEq, false_and, true_and, and_true, and_false, if_false, if_true]; omega)))))
    exact ⟨_, ih, rfl⟩
/-- count, but for the formulae -/
theorem count_w (hl : LandI S) (hd : DayI S) (hm : MarkI S) (ht : TapeI S) (hv : MoveI S) (hf : gi S 23 2 = gi S 55 18) (hb : gr S 0 8 = none ↔ gi S 55 26 = 0) (x : Int) : ∃ v, g101 x S = some (v, S) ∧ g197 x S = some (v, S) := by
  have hd1 := hd.1
  have hd2 := hd.2
  unfold g101 g197
  by_cases h0 : x = 0
  · rw [if_pos h0, if_pos h0]; exact ⟨_, by rw [lt_t, hd1], rfl⟩
  rw [if_neg h0, if_neg h0]
  by_cases h0 : x = 1
  · rw [if_pos h0, if_pos h0]; exact ⟨_, by rw [lt_t, hl.1.2.2.1], rfl⟩
  rw [if_neg h0, if_neg h0]
  by_cases h0 : x = 2
  · rw [if_pos h0, if_pos h0]
    refine ⟨_, ?_, g197_l68_eq hl hd⟩
    rw [lt_t, td_pos (by omega), ckI_t (by omega), g6_eq hl, ob_s, hd1]
  rw [if_neg h0, if_neg h0]
  by_cases h0 : x = 3
  · rw [if_pos h0, if_pos h0]; exact ⟨_, by rw [lt_t, hm.1.2.2], rfl⟩
  rw [if_neg h0, if_neg h0]
  by_cases h0 : x = 4
  · rw [if_pos h0, if_pos h0]; exact ⟨_, by rw [lt_t, hl.1.2.2.2.1], rfl⟩
  rw [if_neg h0, if_neg h0]
  by_cases h0 : x = 5
  · rw [if_pos h0, if_pos h0]; exact ⟨_, by rw [lt_t, hf], rfl⟩
  rw [if_neg h0, if_neg h0]
  by_cases h0 : x = 6
  · rw [if_pos h0, if_pos h0]; exact ⟨_, by rw [lt_t, hv.1.1], rfl⟩
  rw [if_neg h0, if_neg h0]
  by_cases h0 : x = 7
  · rw [if_pos h0, if_pos h0]
    exact ⟨_, rfl, by rw [g196_eq hv]; rfl⟩
  rw [if_neg h0, if_neg h0]
  by_cases h0 : x = 8
  · rw [if_pos h0, if_pos h0]; exact ⟨_, by rw [lt_t, ht.1], rfl⟩
  rw [if_neg h0, if_neg h0]
  by_cases h0 : x = 9
  · rw [if_pos h0, if_pos h0, lt_t, lt_t, g113_eq, ob_s]
    cases hg : gr S 0 8 with
    | none => exact ⟨0, rfl, by rw [one_f (by have := hb.mp hg; omega)]⟩
    | some q => exact ⟨1, rfl, by rw [one_t (fun z => by have := hb.mpr z; rw [hg] at this; cases this)]⟩
  rw [if_neg h0, if_neg h0]
  exact ⟨_, rfl, rfl⟩
/-- four bytes on the tape -/
def bo (x j : Int) : Int := b_and (b_ushr x (24 - 8 * j)) 255
def bo2 (x j : Int) : Int := b_byte (b_byte (b_shr x (24 - 8 * j)))
theorem bo_eq (x j : Int) (hj : 0 ≤ j ∧ j < 4) : b_byte (bo x j) = bo2 x j := by
  have : j = 0 ∨ j = 1 ∨ j = 2 ∨ j = 3 := by omega
  unfold bo bo2
  rcases this with h | h | h | h <;> subst h
  · exact byte_24 x
  · exact byte_16 x
  · exact byte_8 x
  · exact byte_0 x
theorem bo_rng (x j : Int) : 0 ≤ bo x j ∧ bo x j ≤ 255 := by
  unfold bo b_and
  have e : (Int32.ofInt 255).toBitVec = 255#32 := by decide
  have h : ((Int32.ofInt (b_ushr x (24 - 8 * j)) &&& Int32.ofInt 255).toBitVec).toNat ≤ 255 := by
    rw [Int32.toBitVec_and, e, BitVec.toNat_and]
    exact Nat.and_le_right
  have h2 : (Int32.ofInt (b_ushr x (24 - 8 * j)) &&& Int32.ofInt 255).toInt = ((Int32.ofInt (b_ushr x (24 - 8 * j)) &&& Int32.ofInt 255).toBitVec).toInt := rfl
  rw [h2, BitVec.toInt_eq_toNat_of_lt (by omega)]
  omega
theorem g107_w (x : Int) (ht : 0 ≤ gi S 0 7 ∧ gi S 0 7 ≤ 696) : Wp (fun S' => Fr [1000000007, 54] S S' ∧ gi S' 0 7 = gi S 0 7 + 4 ∧ ∀ k, gi S' 54 k = if gi S 0 7 ≤ k ∧ k < gi S 0 7 + 4 then bo x (k - gi S 0 7) else gi S 54 k) (g107 x S) := by
  unfold g107
  refine upto 4 (fun n j => ∀ S1, Fr [1000000007, 54] S S1 → gi S1 0 7 = gi S 0 7 + j → (∀ k, gi S1 54 k = if gi S 0 7 ≤ k ∧ k < gi S 0 7 + j then bo x (k - gi S 0 7) else gi S 54 k) → Wp (fun S' => Fr [1000000007, 54] S S' ∧ gi S' 0 7 = gi S 0 7 + 4 ∧ ∀ k, gi S' 54 k = if gi S 0 7 ≤ k ∧ k < gi S 0 7 + 4 then bo x (k - gi S 0 7) else gi S 54 k) (g107_l3 x n (24 - 8 * (j : Int)) S1)) ?_ 100000 0 (by omega) (by omega) S Fr.refl (by omega) (fun k => by rw [if_neg (by omega)])
  intro n j hj ih S1 hF h1 h2
  dsimp only [g107_l3]
  refine p_if (fun hc => ?_) (fun hc => ?_)
  · have : j = 4 := by omega
    subst this
    exact p_some ⟨hF, h1, h2⟩
  · rw [lt_t]
    refine p_if (fun hd => by omega) (fun hd => ?_)
    repeat (first | (with_reducible refine p_chk ?_ ?_; (· (first | omega | (simp only [gi_wi, gl_wl, gl_wi, gi_wl, gi_wcl, gl_wcl, Nat.reduceEqDiff, Int.reduceEq, false_and, true_and, and_true, and_false, if_false, if_true]; omega)))) | with_reducible refine p_lt ?_ | (with_reducible refine p_ckI ?_ ?_; (· (first | omega | (simp only [gi_wi, gl_wl, gl_wi, gi_wl, gi_wcl, gl_wcl, Nat.reduceEqDiff, Int.reduceEq, false_and, true_and, and_true, and_false, if_false, if_true]; omega)))) | (with_reducible refine p_ckJ ?_ ?_; (· (first | omega | (simp only [gi_wi, gl_wl, gl_wi, gi_wl, gi_wcl, gl_wcl, Nat.reduceEqDiff, Int.reduceEq, false_and, true_and, and_true, and_false, if_false, if_true]; omega)))))
    have ih := ih (by omega) (wi (wi S1 0 7 (gi S1 0 7 + 1)) 54 (gi S1 0 7) (b_and (b_ushr x (24 - 8 * (j : Int))) 255)) ((hF.wi rfl).wi rfl) (by simp only [gi_wi, gl_wl, gl_wi, gi_wl, gi_wcl, gl_wcl, Nat.reduceEqDiff, Int.reduceEq, false_and, true_and, and_true, and_false, if_false, if_true]; omega) (fun k => ?_)
    · rw [show 24 - 8 * (j : Int) + -8 = 24 - 8 * ((j + 1 : Nat) : Int) by omega]; exact ih
    · simp only [gi_wi, gl_wl, gl_wi, gi_wl, gi_wcl, gl_wcl, Nat.reduceEqDiff, Int.reduceEq, false_and, true_and, and_true, and_false, if_false, if_true]
      by_cases hk : k = gi S1 0 7
      · rw [if_pos hk, if_pos (by omega)]
        unfold bo
        rw [show k - gi S 0 7 = (j : Int) by omega]
      · rw [if_neg hk, h2]
        by_cases h3 : gi S 0 7 ≤ k ∧ k < gi S 0 7 + j
        · rw [if_pos h3, if_pos (by omega)]
        · rw [if_neg h3, if_neg (by omega)]
theorem g135_w (x : Int) (ht : 0 ≤ gi S 55 19 ∧ gi S 55 19 ≤ 696) : Wp (fun S' => Fr [1000055019, 83] S S' ∧ gi S' 55 19 = gi S 55 19 + 4 ∧ ∀ k, gi S' 83 k = if gi S 55 19 ≤ k ∧ k < gi S 55 19 + 4 then bo2 x (k - gi S 55 19) else gi S 83 k) (g135 x S) := by
  unfold g135
  refine upto 4 (fun n j => ∀ S1, Fr [1000055019, 83] S S1 → gi S1 55 19 = gi S 55 19 + j → (∀ k, gi S1 83 k = if gi S 55 19 ≤ k ∧ k < gi S 55 19 + j then bo2 x (k - gi S 55 19) else gi S 83 k) → Wp (fun S' => Fr [1000055019, 83] S S' ∧ gi S' 55 19 = gi S 55 19 + 4 ∧ ∀ k, gi S' 83 k = if gi S 55 19 ≤ k ∧ k < gi S 55 19 + 4 then bo2 x (k - gi S 55 19) else gi S 83 k) (g135_l3 x n (24 - 8 * (j : Int)) S1)) ?_ 100000 0 (by omega) (by omega) S Fr.refl (by omega) (fun k => by rw [if_neg (by omega)])
  intro n j hj ih S1 hF h1 h2
  dsimp only [g135_l3]
  refine p_if (fun hc => ?_) (fun hc => ?_)
  · have : j = 4 := by omega
    subst this
    exact p_some ⟨hF, h1, h2⟩
  · repeat (first | (with_reducible refine p_chk ?_ ?_; (· (first | omega | (simp only [gi_wi, gl_wl, gl_wi, gi_wl, gi_wcl, gl_wcl, Nat.reduceEqDiff, Int.reduceEq, false_and, true_and, and_true, and_false, if_false, if_true]; omega)))) | with_reducible refine p_lt ?_ | (with_reducible refine p_ckI ?_ ?_; (· (first | omega | (simp only [gi_wi, gl_wl, gl_wi, gi_wl, gi_wcl, gl_wcl, Nat.reduceEqDiff, Int.reduceEq, false_and, true_and, and_true, and_false, if_false, if_true]; omega)))) | (with_reducible refine p_ckJ ?_ ?_; (· (first | omega | (simp only [gi_wi, gl_wl, gl_wi, gi_wl, gi_wcl, gl_wcl, Nat.reduceEqDiff, Int.reduceEq, false_and, true_and, and_true, and_false, if_false, if_true]; omega)))))
    have ih := ih (by omega) (wi (wi S1 83 (gi S1 55 19) (b_byte (b_byte (b_shr x (24 - 8 * (j : Int)))))) 55 19 (gi S1 55 19 + 1)) ((hF.wi rfl).wi rfl) (by simp only [gi_wi, gl_wl, gl_wi, gi_wl, gi_wcl, gl_wcl, Nat.reduceEqDiff, Int.reduceEq, false_and, true_and, and_true, and_false, if_false, if_true]; omega) (fun k => ?_)
    · rw [show 24 - 8 * (j : Int) + -8 = 24 - 8 * ((j + 1 : Nat) : Int) by omega]; exact ih
    · simp only [gi_wi, gl_wl, gl_wi, gi_wl, gi_wcl, gl_wcl, Nat.reduceEqDiff, Int.reduceEq, false_and, true_and, and_true, and_false, if_false, if_true]
      by_cases hk : k = gi S1 55 19
      · rw [if_pos hk, if_pos (by omega)]
        unfold bo2
        rw [show k - gi S 55 19 = (j : Int) by omega]
      · rw [if_neg hk, h2]
        by_cases h3 : gi S 55 19 ≤ k ∧ k < gi S 55 19 + j
        · rw [if_pos h3, if_pos (by omega)]
        · rw [if_neg h3, if_neg (by omega)]
end SM
