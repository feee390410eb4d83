/-! the reference's fewest miles: from one node, each time anew -/
section FAR2
variable {S : gM}
theorem g123_l2_w {Q : Int × gM → Prop} {K : gM → Option (Int × gM)} (S0 : gM) {s y : Int} (hs : 0 ≤ s ∧ s < 12) (hK : ∀ S, Fr [68, 69] S0 S → (∀ i : Int, 0 ≤ i → i < 16 → gi S 68 i = (if i = gi S0 58 s then 0 else 9999) ∧ gi S 69 i = 0) → Wp Q (K S)) :
    ∀ n k : Nat, k ≤ 16 → 16 - k < n → ∀ S, Fr [68, 69] S0 S → (∀ i : Int, 0 ≤ i → i < k → gi S 68 i = (if i = gi S0 58 s then 0 else 9999) ∧ gi S 69 i = 0) → Wp Q (g123_l2 s y K n k S) := by
  refine upto 16 (fun n k => ∀ S, Fr [68, 69] S0 S → (∀ i : Int, 0 ≤ i → i < k → gi S 68 i = (if i = gi S0 58 s then 0 else 9999) ∧ gi S 69 i = 0) → Wp Q (g123_l2 s y K n k S)) ?_
  intro n k hk ih S hF hI
  dsimp only [g123_l2]
  have e58 : gi S 58 s = gi S0 58 s := hF.i rfl
  have step : ∀ v : Int, (v = if (k : Int) = gi S0 58 s then 0 else 9999) → (k : Int) < 16 → Wp Q (g123_j30 K (g123_l2 s y K n) s y k k v S) := by
    intro v hv hc
    unfold g123_j30
    repeat (first | (with_reducible refine p_chk ?_ ?_; (· (first | omega | (simp only [gi_wi, gl_wl, gl_wi, gi_wl, gi_wcl, gl_wcl, Nat.reduceEqDiff, Int.reduceEq, false_and, true_and, and_true, and_false, if_false, if_true]; omega)))) | with_reducible refine p_lt ?_ | (with_reducible refine p_ckI ?_ ?_; (· (first | omega | (simp only [gi_wi, gl_wl, gl_wi, gi_wl, gi_wcl, gl_wcl, Nat.reduceEqDiff, Int.reduceEq, false_and, true_and, and_true, and_false, if_false, if_true]; omega)))) | (with_reducible refine p_ckJ ?_ ?_; (· (first | omega | (simp only [gi_wi, gl_wl, gl_wi, gi_wl, gi_wcl, gl_wcl, Nat.reduceEqDiff, Int.reduceEq, false_and, true_and, and_true, and_false, if_false, if_true]; omega)))))
    refine ih (by omega) _ ((hF.wi rfl).wi rfl) (fun i h1 h2 => ?_)
    simp only [gi_wi, gl_wl, gl_wi, gi_wl, gi_wcl, gl_wcl, Nat.reduceEqDiff, Int.reduceEq, false_and, true_and, and_true, and_false, if_false, if_true]
    by_cases hi : i = k
    · rw [if_pos hi, if_pos hi, hv, hi]; exact ⟨rfl, rfl⟩
    · rw [if_neg hi, if_neg hi]; exact hI i h1 (by omega)
  refine p_if (fun hc => hK S hF (fun i h1 h2 => hI i h1 (by omega))) (fun hc => ?_)
  repeat (first | (with_reducible refine p_chk ?_ ?_; (· (first | omega | (simp only [gi_wi, gl_wl, gl_wi, gi_wl, gi_wcl, gl_wcl, Nat.reduceEqDiff, Int.reduceEq, false_and, true_and, and_true, and_false, if_false, if_true]; omega)))) | with_reducible refine p_lt ?_ | (with_reducible refine p_ckI ?_ ?_; (· (first | omega | (simp only [gi_wi, gl_wl, gl_wi, gi_wl, gi_wcl, gl_wcl, Nat.reduceEqDiff, Int.reduceEq, false_and, true_and, and_true, and_false, if_false, if_true]; omega)))) | (with_reducible refine p_ckJ ?_ ?_; (· (first | omega | (simp only [gi_wi, gl_wl, gl_wi, gi_wl, gi_wcl, gl_wcl, Nat.reduceEqDiff, Int.reduceEq, false_and, true_and, and_true, and_false, if_false, if_true]; omega)))))
  refine p_if (fun hd => ?_) (fun hd => ?_)
  · exact step 9999 (by rw [if_neg (by omega)]) (by omega)
  · exact step 0 (by rw [if_pos (by omega)]) (by omega)
theorem g123_l58_w {Q : Int × gM → Prop} {K : Int → gM → Option (Int × gM)} {s y x : Int} (hK : ∀ u : Int, (u = -1 ∧ ∀ i : Int, 0 ≤ i → i < 16 → ¬ gi S 69 i = 0) ∨ ((0 ≤ u ∧ u < 16) ∧ gi S 69 u = 0 ∧ ∀ i : Int, 0 ≤ i → i < 16 → gi S 69 i = 0 → gi S 68 u ≤ gi S 68 i) → Wp Q (K u S)) :
    ∀ n k : Nat, k ≤ 16 → 16 - k < n → ∀ u : Int, (u = -1 ∧ ∀ i : Int, 0 ≤ i → i < k → ¬ gi S 69 i = 0) ∨ ((0 ≤ u ∧ u < k) ∧ gi S 69 u = 0 ∧ ∀ i : Int, 0 ≤ i → i < k → gi S 69 i = 0 → gi S 68 u ≤ gi S 68 i) → Wp Q (g123_l58 s y x K n u k S) := by
  refine upto 16 (fun n k => ∀ u : Int, (u = -1 ∧ ∀ i : Int, 0 ≤ i → i < k → ¬ gi S 69 i = 0) ∨ ((0 ≤ u ∧ u < k) ∧ gi S 69 u = 0 ∧ ∀ i : Int, 0 ≤ i → i < k → gi S 69 i = 0 → gi S 68 u ≤ gi S 68 i) → Wp Q (g123_l58 s y x K n u k S)) ?_
  intro n k hk ih u hu
  dsimp only [g123_l58]
  refine p_if (fun hc => hK u ?_) (fun hc => ?_)
  · rcases hu with ⟨h1, h2⟩ | ⟨h1, h2, h3⟩
    · exact Or.inl ⟨h1, fun i a b => h2 i a (by omega)⟩
    · exact Or.inr ⟨by omega, h2, fun i a b => h3 i a (by omega)⟩
  · have ih := ih (by omega)
    repeat (first | (with_reducible refine p_chk ?_ ?_; (· (first | omega | (simp only [gi_wi, gl_wl, gl_wi, gi_wl, gi_wcl, gl_wcl, Nat.reduceEqDiff, Int.reduceEq, false_and, true_and, and_true, and_false, if_false, if_true]; omega)))) | with_reducible refine p_lt ?_ | (with_reducible refine p_ckI ?_ ?_; (· (first | omega | (simp only [gi_wi, gl_wl, gl_wi, gi_wl, gi_wcl, gl_wcl, Nat.reduceEqDiff, Int.reduceEq, false_and, true_and, and_true, and_false, if_false, if_true]; omega)))) | (with_reducible refine p_ckJ ?_ ?_; (· (first | omega | (simp only [gi_wi, gl_wl, gl_wi, gi_wl, gi_wcl, gl_wcl, Nat.reduceEqDiff, Int.reduceEq, false_and, true_and, and_true, and_false, if_false, if_true]; omega)))))
    refine p_if (fun hd => ?_) (fun hd => ?_)
    · repeat (first | (with_reducible refine p_chk ?_ ?_; (· (first | omega | (simp only [gi_wi, gl_wl, gl_wi, gi_wl, gi_wcl, gl_wcl, Nat.reduceEqDiff, Int.reduceEq, false_and, true_and, and_true, and_false, if_false, if_true]; omega)))) | with_reducible refine p_lt ?_ | (with_reducible refine p_ckI ?_ ?_; (· (first | omega | (simp only [gi_wi, gl_wl, gl_wi, gi_wl, gi_wcl, gl_wcl, Nat.reduceEqDiff, Int.reduceEq, false_and, true_and, and_true, and_false, if_false, if_true]; omega)))) | (with_reducible refine p_ckJ ?_ ?_; (· (first | omega | (simp only [gi_wi, gl_wl, gl_wi, gi_wl, gi_wcl, gl_wcl, Nat.reduceEqDiff, Int.reduceEq, false_and, true_and, and_true, and_false, if_false, if_true]; omega)))))
      refine ih u ?_
      rcases hu with ⟨h1, h2⟩ | ⟨h1, h2, h3⟩
      · refine Or.inl ⟨h1, fun i a b => ?_⟩
        by_cases hi : i = k
        · rw [hi]; exact hd
        · exact h2 i a (by omega)
      · refine Or.inr ⟨by omega, h2, fun i a b hz => ?_⟩
        by_cases hi : i = k
        · rw [hi] at hz; exact absurd hz hd
        · exact h3 i a (by omega) hz
    · have hd := Classical.not_not.mp hd
      refine p_if (fun he => ?_) (fun he => ?_)
      · repeat (first | (with_reducible refine p_chk ?_ ?_; (· (first | omega | (simp only [gi_wi, gl_wl, gl_wi, gi_wl, gi_wcl, gl_wcl, Nat.reduceEqDiff, Int.reduceEq, false_and, true_and, and_true, and_false, if_false, if_true]; omega)))) | with_reducible refine p_lt ?_ | (with_reducible refine p_ckI ?_ ?_; (· (first | omega | (simp only [gi_wi, gl_wl, gl_wi, gi_wl, gi_wcl, gl_wcl, Nat.reduceEqDiff, Int.reduceEq, false_and, true_and, and_true, and_false, if_false, if_true]; omega)))) | (with_reducible refine p_ckJ ?_ ?_; (· (first | omega | (simp only [gi_wi, gl_wl, gl_wi, gi_wl, gi_wcl, gl_wcl, Nat.reduceEqDiff, Int.reduceEq, false_and, true_and, and_true, and_false, if_false, if_true]; omega)))))
        refine ih k (Or.inr ⟨by omega, hd, fun i a b hz => ?_⟩)
        by_cases hi : i = k
        · rw [hi]; exact Int.le_refl _
        · rcases hu with ⟨h1, h2⟩ | ⟨h1, h2, h3⟩
          · exact absurd hz (h2 i a (by omega))
          · omega
      · rcases hu with ⟨h1, h2⟩ | ⟨h1, h2, h3⟩
        · exact absurd h1 he
        · repeat (first | (with_reducible refine p_chk ?_ ?_; (· (first | omega | (simp only [gi_wi, gl_wl, gl_wi, gi_wl, gi_wcl, gl_wcl, Nat.reduceEqDiff, Int.reduceEq, false_and, true_and, and_true, and_false, if_false, if_true]; omega)))) | with_reducible refine p_lt ?_ | (with_reducible refine p_ckI ?_ ?_; (· (first | omega | (simp only [gi_wi, gl_wl, gl_wi, gi_wl, gi_wcl, gl_wcl, Nat.reduceEqDiff, Int.reduceEq, false_and, true_and, and_true, and_false, if_false, if_true]; omega)))) | (with_reducible refine p_ckJ ?_ ?_; (· (first | omega | (simp only [gi_wi, gl_wl, gl_wi, gi_wl, gi_wcl, gl_wcl, Nat.reduceEqDiff, Int.reduceEq, false_and, true_and, and_true, and_false, if_false, if_true]; omega)))))
          refine p_if (fun hf => ?_) (fun hf => ?_)
          · repeat (first | (with_reducible refine p_chk ?_ ?_; (· (first | omega | (simp only [gi_wi, gl_wl, gl_wi, gi_wl, gi_wcl, gl_wcl, Nat.reduceEqDiff, Int.reduceEq, false_and, true_and, and_true, and_false, if_false, if_true]; omega)))) | with_reducible refine p_lt ?_ | (with_reducible refine p_ckI ?_ ?_; (· (first | omega | (simp only [gi_wi, gl_wl, gl_wi, gi_wl, gi_wcl, gl_wcl, Nat.reduceEqDiff, Int.reduceEq, false_and, true_and, and_true, and_false, if_false, if_true]; omega)))) | (with_reducible refine p_ckJ ?_ ?_; (· (first | omega | (simp only [gi_wi, gl_wl, gl_wi, gi_wl, gi_wcl, gl_wcl, Nat.reduceEqDiff, Int.reduceEq, false_and, true_and, and_true, and_false, if_false, if_true]; omega)))))
            refine ih u (Or.inr ⟨by omega, h2, fun i a b hz => ?_⟩)
            by_cases hi : i = k
            · rw [hi]; exact hf
            · exact h3 i a (by omega) hz
          · repeat (first | (with_reducible refine p_chk ?_ ?_; (· (first | omega | (simp only [gi_wi, gl_wl, gl_wi, gi_wl, gi_wcl, gl_wcl, Nat.reduceEqDiff, Int.reduceEq, false_and, true_and, and_true, and_false, if_false, if_true]; omega)))) | with_reducible refine p_lt ?_ | (with_reducible refine p_ckI ?_ ?_; (· (first | omega | (simp only [gi_wi, gl_wl, gl_wi, gi_wl, gi_wcl, gl_wcl, Nat.reduceEqDiff, Int.reduceEq, false_and, true_and, and_true, and_false, if_false, if_true]; omega)))) | (with_reducible refine p_ckJ ?_ ?_; (· (first | omega | (simp only [gi_wi, gl_wl, gl_wi, gi_wl, gi_wcl, gl_wcl, Nat.reduceEqDiff, Int.reduceEq, false_and, true_and, and_true, and_false, if_false, if_true]; omega)))))
            refine ih k (Or.inr ⟨by omega, hd, fun i a b hz => ?_⟩)
            by_cases hi : i = k
            · rw [hi]; exact Int.le_refl _
            · have := h3 i a (by omega) hz; omega
/-- the miles by one more node -/
def rlx (w A : Int → Int) (u : Int) : Int → Int := fun v => if 0 < w (16 * u + v) then min (A v) (A u + w (16 * u + v)) else A v
theorem rlx_u (w A : Int → Int) (u : Int) : rlx w A u u = A u := by
  unfold rlx
  split
  · omega
  · rfl
theorem g123_l119_w {Q : Int × gM → Prop} {K : gM → Option (Int × gM)} (S0 : gM) {s y x u : Int} {A : Int → Int} (hu : 0 ≤ u ∧ u < 16) (hr : RoadI S0) (hA : ∀ i : Int, 0 ≤ i → i < 16 → 0 ≤ A i ∧ A i ≤ 9999)
    (hK : ∀ S, Fr [68] S0 S → (∀ i : Int, 0 ≤ i → i < 16 → gi S 68 i = rlx (gi S0 60) A u i) → Wp Q (K S)) :
    ∀ n k : Nat, k ≤ 16 → 16 - k < n → ∀ S, Fr [68] S0 S → (∀ i : Int, 0 ≤ i → i < 16 → gi S 68 i = if i < k then rlx (gi S0 60) A u i else A i) → Wp Q (g123_l119 s y x u K n k S) := by
  refine upto 16 (fun n k => ∀ S, Fr [68] S0 S → (∀ i : Int, 0 ≤ i → i < 16 → gi S 68 i = if i < k then rlx (gi S0 60) A u i else A i) → Wp Q (g123_l119 s y x u K n k S)) ?_
  intro n k hk ih S hF hI
  dsimp only [g123_l119]
  refine p_if (fun hc => hK S hF (fun i h1 h2 => by rw [hI i h1 h2, if_pos (by omega)])) (fun hc => ?_)
  have ih := ih (by omega)
  have e60 : gi S 60 (16 * u + k) = gi S0 60 (16 * u + k) := hF.i rfl
  have r60 := hr (16 * u + k) (by omega) (by omega)
  have sk : gi S 68 k = A k := by rw [hI k (by omega) (by omega), if_neg (by omega)]
  have su : gi S 68 u = A u := by
    rw [hI u hu.1 hu.2, rlx_u]
    split <;> rfl
  have ru := hA u hu.1 hu.2
  repeat (first | (with_reducible refine p_chk ?_ ?_; (· (first | omega | (simp only [gi_wi, gl_wl, gl_wi, gi_wl, gi_wcl, gl_wcl, Nat.reduceEqDiff, Int.reduceEq, false_and, true_and, and_true, and_false, if_false, if_true]; omega)))) | with_reducible refine p_lt ?_ | (with_reducible refine p_ckI ?_ ?_; (· (first | omega | (simp only [gi_wi, gl_wl, gl_wi, gi_wl, gi_wcl, gl_wcl, Nat.reduceEqDiff, Int.reduceEq, false_and, true_and, and_true, and_false, if_false, if_true]; omega)))) | (with_reducible refine p_ckJ ?_ ?_; (· (first | omega | (simp only [gi_wi, gl_wl, gl_wi, gi_wl, gi_wcl, gl_wcl, Nat.reduceEqDiff, Int.reduceEq, false_and, true_and, and_true, and_false, if_false, if_true]; omega)))))
  refine p_if (fun hd => ?_) (fun hd => ?_)
  · repeat (first | (with_reducible refine p_chk ?_ ?_; (· (first | omega | (simp only [gi_wi, gl_wl, gl_wi, gi_wl, gi_wcl, gl_wcl, Nat.reduceEqDiff, Int.reduceEq, false_and, true_and, and_true, and_false, if_false, if_true]; omega)))) | with_reducible refine p_lt ?_ | (with_reducible refine p_ckI ?_ ?_; (· (first | omega | (simp only [gi_wi, gl_wl, gl_wi, gi_wl, gi_wcl, gl_wcl, Nat.reduceEqDiff, Int.reduceEq, false_and, true_and, and_true, and_false, if_false, if_true]; omega)))) | (with_reducible refine p_ckJ ?_ ?_; (· (first | omega | (simp only [gi_wi, gl_wl, gl_wi, gi_wl, gi_wcl, gl_wcl, Nat.reduceEqDiff, Int.reduceEq, false_and, true_and, and_true, and_false, if_false, if_true]; omega)))))
    refine ih S hF (fun i h1 h2 => ?_)
    rw [hI i h1 h2]
    by_cases hi : i = k
    · rw [if_neg (by omega), if_pos (by omega)]
      unfold rlx
      rw [hi, if_neg (by omega)]
    · by_cases h3 : i < k
      · rw [if_pos h3, if_pos (by omega)]
      · rw [if_neg h3, if_neg (by omega)]
  · repeat (first | (with_reducible refine p_chk ?_ ?_; (· (first | omega | (simp only [gi_wi, gl_wl, gl_wi, gi_wl, gi_wcl, gl_wcl, Nat.reduceEqDiff, Int.reduceEq, false_and, true_and, and_true, and_false, if_false, if_true]; omega)))) | with_reducible refine p_lt ?_ | (with_reducible refine p_ckI ?_ ?_; (· (first | omega | (simp only [gi_wi, gl_wl, gl_wi, gi_wl, gi_wcl, gl_wcl, Nat.reduceEqDiff, Int.reduceEq, false_and, true_and, and_true, and_false, if_false, if_true]; omega)))) | (with_reducible refine p_ckJ ?_ ?_; (· (first | omega | (simp only [gi_wi, gl_wl, gl_wi, gi_wl, gi_wcl, gl_wcl, Nat.reduceEqDiff, Int.reduceEq, false_and, true_and, and_true, and_false, if_false, if_true]; omega)))))
    refine ih _ (hF.wi rfl) (fun i h1 h2 => ?_)
    rw [gi_wi]
    by_cases hi : i = k
    · rw [if_pos ⟨rfl, hi⟩, if_pos (by omega)]
      unfold rlx
      rw [hi, if_pos (by omega), sk, su, e60]
    · rw [if_neg (fun z => hi z.2), hI i h1 h2]
      by_cases h3 : i < k
      · rw [if_pos h3, if_pos (by omega)]
      · rw [if_neg h3, if_neg (by omega)]
theorem sm_all {B : Nat → Int} (k : Nat) (h : ∀ j, j < k → B j = 0 ∨ B j = 1) (hk : sm B k = k) : ∀ j, j < k → B j = 1 := by
  induction k with
  | zero => intro j hj; omega
  | succ k ih =>
    rw [sm_s] at hk
    have h1 := sm_rng (f := B) 0 1 k (fun j hj => by have := h j (by omega); omega)
    have h2 := h k (by omega)
    have hk' : sm B k = k := by omega
    intro j hj
    by_cases hjk : j = k
    · rw [hjk]; omega
    · exact ih (fun j hj => h j (by omega)) hk' j (by omega)
theorem sm_all1 {B : Nat → Int} (k : Nat) (h : ∀ j, j < k → B j = 1) : sm B k = k := by
  induction k with
  | zero => rfl
  | succ k ih => rw [sm_s, ih (fun j hj => h j (by omega)), h k (by omega)]; rfl
theorem sm_one {B B' : Nat → Int} (k u : Nat) (hu : u < k) (h0 : B u = 0) (h : ∀ j, j < k → B' j = if j = u then 1 else B j) : sm B' k = sm B k + 1 := by
  induction k with
  | zero => omega
  | succ k ih =>
    rw [sm_s, sm_s, h k (by omega)]
    by_cases hk : k = u
    · rw [if_pos hk, sm_congr (g := B) k (fun j hj => by rw [h j (by omega), if_neg (by omega)]), hk, h0]; omega
    · rw [if_neg hk, ih (by omega) (fun j hj => h j (by omega))]; omega
theorem g123_l46_w {Q : Int × gM → Prop} {K : gM → Option (Int × gM)} (S0 : gM) {s y : Int} (hr : RoadI S0) (hn : 0 ≤ gi S0 58 s ∧ gi S0 58 s < 16) (hK : ∀ S, Fr [68, 69] S0 S → (∀ v : Int, 0 ≤ v → v < 16 → isD (gi S0 60) (gi S0 58 s) v (gi S 68 v)) → Wp Q (K S)) :
    ∀ n k : Nat, k ≤ 16 → 16 - k < n → ∀ S, Fr [68, 69] S0 S → DJ (gi S0 60) (gi S 68) (gi S 69) (gi S0 58 s) → sm (fun j => gi S 69 j) 16 = k → Wp Q (g123_l46 s y K n k S) := by
  refine upto 16 (fun n k => ∀ S, Fr [68, 69] S0 S → DJ (gi S0 60) (gi S 68) (gi S 69) (gi S0 58 s) → sm (fun j => gi S 69 j) 16 = k → Wp Q (g123_l46 s y K n k S)) ?_
  intro n k hk ih S hF hD hc
  dsimp only [g123_l46]
  refine p_if (fun h1 => hK S hF (fun v h2 h3 => DJ_isD hD hn (fun v h4 h5 => ?_) ⟨h2, h3⟩)) (fun h1 => ?_)
  · have := sm_all 16 (fun j hj => (hD.1 j (by omega) (by omega)).2.2) (by rw [hc]; omega) v.toNat (by omega)
    rw [show ((v.toNat : Nat) : Int) = v by omega] at this
    exact this
  · refine g123_l58_w ?_ 100000 0 (by omega) (by omega) (-1) (Or.inl ⟨rfl, fun i a b => by omega⟩)
    intro u hu
    rcases hu with ⟨rfl, h2⟩ | ⟨h2, h3, h4⟩
    · exfalso
      have := sm_all1 (B := fun j => gi S 69 j) 16 (fun j hj => by have := (hD.1 j (by omega) (by omega)).2.2; have := h2 j (by omega) (by omega); omega)
      rw [hc] at this
      omega
    · repeat (first | (with_reducible refine p_chk ?_ ?_; (· (first | omega | (simp only [gi_wi, gl_wl, gl_wi, gi_wl, gi_wcl, gl_wcl, Nat.reduceEqDiff, Int.reduceEq, false_and, true_and, and_true, and_false, if_false, if_true]; omega)))) | with_reducible refine p_lt ?_ | (with_reducible refine p_ckI ?_ ?_; (· (first | omega | (simp only [gi_wi, gl_wl, gl_wi, gi_wl, gi_wcl, gl_wcl, Nat.reduceEqDiff, Int.reduceEq, false_and, true_and, and_true, and_false, if_false, if_true]; omega)))) | (with_reducible refine p_ckJ ?_ ?_; (· (first | omega | (simp only [gi_wi, gl_wl, gl_wi, gi_wl, gi_wcl, gl_wcl, Nat.reduceEqDiff, Int.reduceEq, false_and, true_and, and_true, and_false, if_false, if_true]; omega)))))
      have hF2 : Fr [68, 69] S0 (wi S 69 u 1) := hF.wi rfl
      have e60 : gi (wi S 69 u 1) 60 = gi S0 60 := funext fun i => hF2.i rfl
      refine g123_l119_w (wi S 69 u 1) (A := gi S 68) h2 (hr.fr hF2 rfl) (fun i a b => (hD.1 i a b).1) ?_ 100000 0 (by omega) (by omega) _ Fr.refl (fun i a b => by rw [if_neg (by omega)]; rfl)
      intro S2 hF3 hI3
      repeat (first | (with_reducible refine p_chk ?_ ?_; (· (first | omega | (simp only [gi_wi, gl_wl, gl_wi, gi_wl, gi_wcl, gl_wcl, Nat.reduceEqDiff, Int.reduceEq, false_and, true_and, and_true, and_false, if_false, if_true]; omega)))) | with_reducible refine p_lt ?_ | (with_reducible refine p_ckI ?_ ?_; (· (first | omega | (simp only [gi_wi, gl_wl, gl_wi, gi_wl, gi_wcl, gl_wcl, Nat.reduceEqDiff, Int.reduceEq, false_and, true_and, and_true, and_false, if_false, if_true]; omega)))) | (with_reducible refine p_ckJ ?_ ?_; (· (first | omega | (simp only [gi_wi, gl_wl, gl_wi, gi_wl, gi_wcl, gl_wcl, Nat.reduceEqDiff, Int.reduceEq, false_and, true_and, and_true, and_false, if_false, if_true]; omega)))))
      rw [e60] at hI3
      have e69 : ∀ v, gi S2 69 v = if v = u then 1 else gi S 69 v := fun v => by
        rw [hF3.i rfl, gi_wi]
        by_cases hv : v = u
        · rw [if_pos ⟨rfl, hv⟩, if_pos hv]
        · rw [if_neg (fun z => hv z.2), if_neg hv]
      refine ih (by omega) S2 (hF2.trans (hF3.mono rfl)) (DJ_step hD hn h2 h3 (fun v a b c => h4 v a b c) (fun v a b => ?_) (fun v _ _ => e69 v)) ?_
      · rw [hI3 v a b]; rfl
      · have := sm_one (B := fun j => gi S 69 j) (B' := fun j => gi S2 69 j) 16 u.toNat (by omega) (by show gi S 69 ((u.toNat : Nat) : Int) = 0; rw [show ((u.toNat : Nat) : Int) = u by omega]; exact h3) (fun j hj => by
          show gi S2 69 j = _
          rw [e69]
          by_cases hj2 : (j : Int) = u
          · rw [if_pos hj2, if_pos (by omega)]
          · rw [if_neg hj2, if_neg (by omega)])
        rw [this, hc]
        rfl
theorem g123_w (hl : LandI S) (hr : RoadI S) {s : Int} (y : Int) (hs : 0 ≤ s ∧ s < gi S 55 1) : Wp (fun r => r.1 = farV (cor S) s y ∧ (0 ≤ r.1 ∧ r.1 ≤ 9999) ∧ Fr [68, 69] S r.2) (g123 s y S) := by
  unfold g123
  have h0 := hl.1
  have hks := (hl.2.1 s hs.1 hs.2).2.2.2.1
  refine g123_l2_w S (by omega) ?_ 100000 0 (by omega) (by omega) S Fr.refl (fun i a b => by omega)
  intro S1 hF1 hI1
  refine g123_l46_w S hr hks ?_ 100000 0 (by omega) (by omega) S1 hF1 ?_ ?_
  · intro S2 hF2 hD2
    have hl2 := hl.fr hF2 rfl
    have hc2 : cor S2 = cor S := Sc.cE (hF2.mono rfl)
    have e58 : gi S2 58 = gi S 58 := funext fun i => hF2.i rfl
    have e1 : gi S2 55 1 = gi S 55 1 := hF2.i rfl
    have hd : ∀ k : Int, 0 ≤ k → k < gi S 55 1 → dst (gi S 60) (gi S 58 s) (gi S 58 k) = gi S2 68 (gi S 58 k) := fun k h1 h2 => dst_eq (hD2 _ (hl.2.1 k h1 h2).2.2.2.1.1 (hl.2.1 k h1 h2).2.2.2.1.2)
    have hdr : ∀ k : Int, 0 ≤ k → k < gi S 55 1 → 0 ≤ gi S2 68 (gi S 58 k) := fun k h1 h2 => (isD_rng (hD2 _ (hl.2.1 k h1 h2).2.2.2.1.1 (hl.2.1 k h1 h2).2.2.2.1.2)).1
    have hrg : ∀ k : Nat, k ≤ (gi S 55 1).toNat → 0 ≤ farF (dst (gi S 60) (gi S 58 s)) (cor S) s y k ∧ farF (dst (gi S 60) (gi S 58 s)) (cor S) s y k ≤ 9999 := fun k hk => farF_rng k (fun j hj => by
      rw [co58, hd j (by omega) (by omega)]; exact hdr j (by omega) (by omega))
    have key : g123_l199 s y 100000 9999 0 S2 = some (farF (dst (gi S 60) (gi S 58 s)) (cor S) s y (gi S 55 1).toNat, S2) := by
      refine upto (gi S 55 1).toNat (fun n k => g123_l199 s y n (farF (dst (gi S 60) (gi S 58 s)) (cor S) s y k) k S2 = some (farF (dst (gi S 60) (gi S 58 s)) (cor S) s y (gi S 55 1).toNat, S2)) ?_ 100000 0 (Nat.zero_le _) (by omega)
      intro n k hk ih
      dsimp only [g123_l199]
      refine p_eq ?_
      rw [lt_t]
      refine p_if (fun hc => ?_) (fun hc => ?_)
      · rw [show k = (gi S 55 1).toNat by omega]; exact p_some rfl
      · have ih := ih (by omega)
        rw [farF_s, co67, co58, ← show gi S2 67 = gi S 67 from funext fun i => hF2.i rfl] at ih
        have hkk := hl.2.1 k (by omega) (by omega)
        have hdk := hd k (by omega) (by omega)
        rw [← e58] at hdk hkk
        repeat' (first | (with_reducible refine p_chk ?_ ?_; (· (first | omega | (simp only [gi_wi, gl_wl, gl_wi, gi_wl, gi_wcl, gl_wcl, Nat.reduceEqDiff, Int.reduceEq, false_and, true_and, and_true, and_false, if_false, if_true]; omega)))) | with_reducible refine p_lt ?_ | (with_reducible refine p_ckI ?_ ?_; (· (first | omega | (simp only [gi_wi, gl_wl, gl_wi, gi_wl, gi_wcl, gl_wcl, Nat.reduceEqDiff, Int.reduceEq, false_and, true_and, and_true, and_false, if_false, if_true]; omega)))) | (with_reducible refine p_ckJ ?_ ?_; (· (first | omega | (simp only [gi_wi, gl_wl, gl_wi, gi_wl, gi_wcl, gl_wcl, Nat.reduceEqDiff, Int.reduceEq, false_and, true_and, and_true, and_false, if_false, if_true]; omega)))) | (with_reducible refine p_call (g102_eq _ _) ?_; try dsimp only) | (with_reducible refine p_call (g103_eq _) ?_; try dsimp only) | (with_reducible refine p_call (g104_eq _) ?_; try dsimp only) | (with_reducible refine p_call (g105_eq _) ?_; try dsimp only) | (with_reducible refine p_call (g112_eq _ _ _) ?_; try dsimp only) | (with_reducible refine p_call (g113_eq _) ?_; try dsimp only) | (with_reducible refine p_call (g114_eq _) ?_; try dsimp only) | (with_reducible refine p_call (g115_eq _) ?_; try dsimp only) | (with_reducible refine p_call (g116_eq _ ?_) ?_; (· (first | omega | (simp only [gi_wi, gl_wl, gl_wi, gi_wl, gi_wcl, gl_wcl, Nat.reduceEqDiff, Int.reduceEq, false_and, true_and, and_true, and_false, if_false, if_true]; omega))); try dsimp only) | (with_reducible refine p_call (g118_eq ?_) ?_; (· (first | omega | (simp only [gi_wi, gl_wl, gl_wi, gi_wl, gi_wcl, gl_wcl, Nat.reduceEqDiff, Int.reduceEq, false_and, true_and, and_true, and_false, if_false, if_true]; omega))); try dsimp only) | (with_reducible refine p_call (g106_eq _ ?_) ?_; (· (first | omega | (simp only [gi_wi, gl_wl, gl_wi, gi_wl, gi_wcl, gl_wcl, Nat.reduceEqDiff, Int.reduceEq, false_and, true_and, and_true, and_false, if_false, if_true]; omega))); try dsimp only) | (with_reducible refine p_call (g2_eq _ _ ?_ ?_) ?_; (· (first | omega | (simp only [gi_wi, gl_wl, gl_wi, gi_wl, gi_wcl, gl_wcl, Nat.reduceEqDiff, Int.reduceEq, false_and, true_and, and_true, and_false, if_false, if_true]; omega))); (· (first | omega | (simp only [gi_wi, gl_wl, gl_wi, gi_wl, gi_wcl, gl_wcl, Nat.reduceEqDiff, Int.reduceEq, false_and, true_and, and_true, and_false, if_false, if_true]; omega))); try dsimp only) | (with_reducible refine p_call (g3_eq _ ?_) ?_; (· (first | omega | (simp only [gi_wi, gl_wl, gl_wi, gi_wl, gi_wcl, gl_wcl, Nat.reduceEqDiff, Int.reduceEq, false_and, true_and, and_true, and_false, if_false, if_true]; omega))); try dsimp only) | (with_reducible refine p_call (g122_eq _ _ ?_) ?_; (· (first | omega | (simp only [gi_wi, gl_wl, gl_wi, gi_wl, gi_wcl, gl_wcl, Nat.reduceEqDiff, Int.reduceEq, false_and, true_and, and_true, and_false, if_false, if_true]; omega))); try dsimp only) | (with_reducible refine p_call (g58_eq) ?_; try dsimp only) | with_reducible refine p_if1 (fun _ => ?_) (fun _ => ?_) | with_reducible refine p_if1n (fun _ => ?_) (fun _ => ?_) | with_reducible refine p_if (fun _ => ?_) (fun _ => ?_))
        · rw [if_neg (by omega)] at ih; exact ⟨_, ih, rfl⟩
        · rw [if_pos (by omega), hd k (by omega) (by omega)] at ih
          rw [show gi S2 58 (k : Int) = gi S 58 k from hF2.i rfl]
          exact ⟨_, ih, rfl⟩
        · rw [if_neg (by omega)] at ih; exact ⟨_, ih, rfl⟩
    refine ⟨_, key, ?_, hrg _ (Nat.le_refl _), hF2⟩
    unfold farV
    rw [co55_1, co60, co58]
  · refine ⟨fun v h1 h2 => ?_, ?_, fun u v h1 h2 h3 h4 h5 => ?_⟩
    · have := hI1 v h1 h2
      by_cases hv : v = gi S 58 s
      · rw [if_pos hv] at this
        refine ⟨by omega, Or.inr ⟨0, ?_⟩, by omega⟩
        rw [this.1]; exact ⟨hv.symm, rfl⟩
      · rw [if_neg hv] at this
        exact ⟨by omega, by omega, by omega⟩
    · have := hI1 (gi S 58 s) hks.1 hks.2
      rw [if_pos rfl] at this; exact this.1
    · have := hI1 u h1 h2; omega
  · have e : ∀ j : Nat, j < 16 → (fun j : Nat => gi S1 69 j) j = (fun _ => 0) j := fun j hj => (hI1 j (by omega) (by omega)).2
    rw [sm_congr 16 e]
    rfl
/-- far -/
def c_far (n s y cl : Int) : Prop := (0 ≤ s ∧ s < n) ∧ (0 ≤ y ∧ y < 10) ∧ y < cl
theorem g78_w (hl : LandI S) (hr : RoadI S) (hw : WaysI S) (s y : Int) : Wp (fun r => (c_far (gi S 1 7) s y (gi S 6 s) → r.1 = farV (cor S) s y) ∧ (¬ c_far (gi S 1 7) s y (gi S 6 s) → r.1 = -1) ∧ Fr [8, 10] S r.2 ∧ WaysI r.2) (g78 s y S) := by
  unfold g78 c_far
  have h0 := hl.1
  repeat' (first | (with_reducible refine p_chk ?_ ?_; (· (first | omega | (simp only [gi_wi, gl_wl, gl_wi, gi_wl, gi_wcl, gl_wcl, Nat.reduceEqDiff, Int.reduceEq, false_and, true_and, and_true, and_false, if_false, if_true]; omega)))) | with_reducible refine p_lt ?_ | (with_reducible refine p_ckI ?_ ?_; (· (first | omega | (simp only [gi_wi, gl_wl, gl_wi, gi_wl, gi_wcl, gl_wcl, Nat.reduceEqDiff, Int.reduceEq, false_and, true_and, and_true, and_false, if_false, if_true]; omega)))) | (with_reducible refine p_ckJ ?_ ?_; (· (first | omega | (simp only [gi_wi, gl_wl, gl_wi, gi_wl, gi_wcl, gl_wcl, Nat.reduceEqDiff, Int.reduceEq, false_and, true_and, and_true, and_false, if_false, if_true]; omega)))) | (with_reducible refine p_call (g102_eq _ _) ?_; try dsimp only) | (with_reducible refine p_call (g103_eq _) ?_; try dsimp only) | (with_reducible refine p_call (g104_eq _) ?_; try dsimp only) | (with_reducible refine p_call (g105_eq _) ?_; try dsimp only) | (with_reducible refine p_call (g112_eq _ _ _) ?_; try dsimp only) | (with_reducible refine p_call (g113_eq _) ?_; try dsimp only) | (with_reducible refine p_call (g114_eq _) ?_; try dsimp only) | (with_reducible refine p_call (g115_eq _) ?_; try dsimp only) | (with_reducible refine p_call (g116_eq _ ?_) ?_; (· (first | omega | (simp only [gi_wi, gl_wl, gl_wi, gi_wl, gi_wcl, gl_wcl, Nat.reduceEqDiff, Int.reduceEq, false_and, true_and, and_true, and_false, if_false, if_true]; omega))); try dsimp only) | (with_reducible refine p_call (g118_eq ?_) ?_; (· (first | omega | (simp only [gi_wi, gl_wl, gl_wi, gi_wl, gi_wcl, gl_wcl, Nat.reduceEqDiff, Int.reduceEq, false_and, true_and, and_true, and_false, if_false, if_true]; omega))); try dsimp only) | (with_reducible refine p_call (g106_eq _ ?_) ?_; (· (first | omega | (simp only [gi_wi, gl_wl, gl_wi, gi_wl, gi_wcl, gl_wcl, Nat.reduceEqDiff, Int.reduceEq, false_and, true_and, and_true, and_false, if_false, if_true]; omega))); try dsimp only) | (with_reducible refine p_call (g2_eq _ _ ?_ ?_) ?_; (· (first | omega | (simp only [gi_wi, gl_wl, gl_wi, gi_wl, gi_wcl, gl_wcl, Nat.reduceEqDiff, Int.reduceEq, false_and, true_and, and_true, and_false, if_false, if_true]; omega))); (· (first | omega | (simp only [gi_wi, gl_wl, gl_wi, gi_wl, gi_wcl, gl_wcl, Nat.reduceEqDiff, Int.reduceEq, false_and, true_and, and_true, and_false, if_false, if_true]; omega))); try dsimp only) | (with_reducible refine p_call (g3_eq _ ?_) ?_; (· (first | omega | (simp only [gi_wi, gl_wl, gl_wi, gi_wl, gi_wcl, gl_wcl, Nat.reduceEqDiff, Int.reduceEq, false_and, true_and, and_true, and_false, if_false, if_true]; omega))); try dsimp only) | (with_reducible refine p_call (g122_eq _ _ ?_) ?_; (· (first | omega | (simp only [gi_wi, gl_wl, gl_wi, gi_wl, gi_wcl, gl_wcl, Nat.reduceEqDiff, Int.reduceEq, false_and, true_and, and_true, and_false, if_false, if_true]; omega))); try dsimp only) | (with_reducible refine p_call (g58_eq) ?_; try dsimp only) | with_reducible refine p_if1 (fun _ => ?_) (fun _ => ?_) | with_reducible refine p_if1n (fun _ => ?_) (fun _ => ?_) | with_reducible refine p_if (fun _ => ?_) (fun _ => ?_))
  all_goals first | exact p_some ⟨fun z => absurd z (by omega), fun _ => rfl, Fr.refl, hw⟩ | skip
  refine p_use (g7_w hl hr hw y (by omega)) (fun r hr => ?_)
  exact p_some ⟨fun _ => hr.1, fun z => absurd (by omega) z, hr.2.2⟩
theorem g124_w (hl : LandI S) (hr : RoadI S) (s y : Int) : Wp (fun r => (c_far (gi S 55 1) s y (gi S 67 s) → r.1 = farV (cor S) s y) ∧ (¬ c_far (gi S 55 1) s y (gi S 67 s) → r.1 = -1) ∧ Fr [68, 69] S r.2) (g124 s y S) := by
  unfold g124 c_far
  have h0 := hl.1
  repeat' (first | (with_reducible refine p_chk ?_ ?_; (· (first | omega | (simp only [gi_wi, gl_wl, gl_wi, gi_wl, gi_wcl, gl_wcl, Nat.reduceEqDiff, Int.reduceEq, false_and, true_and, and_true, and_false, if_false, if_true]; omega)))) | with_reducible refine p_lt ?_ | (with_reducible refine p_ckI ?_ ?_; (· (first | omega | (simp only [gi_wi, gl_wl, gl_wi, gi_wl, gi_wcl, gl_wcl, Nat.reduceEqDiff, Int.reduceEq, false_and, true_and, and_true, and_false, if_false, if_true]; omega)))) | (with_reducible refine p_ckJ ?_ ?_; (· (first | omega | (simp only [gi_wi, gl_wl, gl_wi, gi_wl, gi_wcl, gl_wcl, Nat.reduceEqDiff, Int.reduceEq, false_and, true_and, and_true, and_false, if_false, if_true]; omega)))) | (with_reducible refine p_call (g102_eq _ _) ?_; try dsimp only) | (with_reducible refine p_call (g103_eq _) ?_; try dsimp only) | (with_reducible refine p_call (g104_eq _) ?_; try dsimp only) | (with_reducible refine p_call (g105_eq _) ?_; try dsimp only) | (with_reducible refine p_call (g112_eq _ _ _) ?_; try dsimp only) | (with_reducible refine p_call (g113_eq _) ?_; try dsimp only) | (with_reducible refine p_call (g114_eq _) ?_; try dsimp only) | (with_reducible refine p_call (g115_eq _) ?_; try dsimp only) | (with_reducible refine p_call (g116_eq _ ?_) ?_; (· (first | omega | (simp only [gi_wi, gl_wl, gl_wi, gi_wl, gi_wcl, gl_wcl, Nat.reduceEqDiff, Int.reduceEq, false_and, true_and, and_true, and_false, if_false, if_true]; omega))); try dsimp only) | (with_reducible refine p_call (g118_eq ?_) ?_; (· (first | omega | (simp only [gi_wi, gl_wl, gl_wi, gi_wl, gi_wcl, gl_wcl, Nat.reduceEqDiff, Int.reduceEq, false_and, true_and, and_true, and_false, if_false, if_true]; omega))); try dsimp only) | (with_reducible refine p_call (g106_eq _ ?_) ?_; (· (first | omega | (simp only [gi_wi, gl_wl, gl_wi, gi_wl, gi_wcl, gl_wcl, Nat.reduceEqDiff, Int.reduceEq, false_and, true_and, and_true, and_false, if_false, if_true]; omega))); try dsimp only) | (with_reducible refine p_call (g2_eq _ _ ?_ ?_) ?_; (· (first | omega | (simp only [gi_wi, gl_wl, gl_wi, gi_wl, gi_wcl, gl_wcl, Nat.reduceEqDiff, Int.reduceEq, false_and, true_and, and_true, and_false, if_false, if_true]; omega))); (· (first | omega | (simp only [gi_wi, gl_wl, gl_wi, gi_wl, gi_wcl, gl_wcl, Nat.reduceEqDiff, Int.reduceEq, false_and, true_and, and_true, and_false, if_false, if_true]; omega))); try dsimp only) | (with_reducible refine p_call (g3_eq _ ?_) ?_; (· (first | omega | (simp only [gi_wi, gl_wl, gl_wi, gi_wl, gi_wcl, gl_wcl, Nat.reduceEqDiff, Int.reduceEq, false_and, true_and, and_true, and_false, if_false, if_true]; omega))); try dsimp only) | (with_reducible refine p_call (g122_eq _ _ ?_) ?_; (· (first | omega | (simp only [gi_wi, gl_wl, gl_wi, gi_wl, gi_wcl, gl_wcl, Nat.reduceEqDiff, Int.reduceEq, false_and, true_and, and_true, and_false, if_false, if_true]; omega))); try dsimp only) | (with_reducible refine p_call (g58_eq) ?_; try dsimp only) | with_reducible refine p_if1 (fun _ => ?_) (fun _ => ?_) | with_reducible refine p_if1n (fun _ => ?_) (fun _ => ?_) | with_reducible refine p_if (fun _ => ?_) (fun _ => ?_))
  all_goals first | exact p_some ⟨fun z => absurd z (by omega), fun _ => rfl, Fr.refl⟩ | skip
  refine p_use (g123_w hl hr y (by omega)) (fun r hr => ?_)
  exact p_some ⟨fun _ => hr.1, fun z => absurd (by omega) z, hr.2.2⟩
end FAR2
