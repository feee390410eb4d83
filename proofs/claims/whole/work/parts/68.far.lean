/-! far: the class's way (all pairs, kept) and the reference's (from one node, anew) -/
theorem Rw_nn {w : Int → Int} {n : Nat} {a b d : Int} (h : Rw w n a b d) : 0 ≤ d := by
  induction n generalizing b d with
  | zero => obtain ⟨-, rfl⟩ := h; exact Int.le_refl _
  | succ n ih =>
    rcases h with h | ⟨c, e, -, h1, h2, h3⟩
    · exact ih h
    · have := ih h1; omega
noncomputable def dst (w : Int → Int) (a b : Int) : Int := by classical exact if h : ∃ x, isD w a b x then h.choose else 0
theorem dst_eq {w : Int → Int} {a b x : Int} (h : isD w a b x) : dst w a b = x := by
  have hx : ∃ x, isD w a b x := ⟨x, h⟩
  unfold dst
  rw [dif_pos hx]
  exact isD_one hx.choose_spec h
theorem isD_rng {w : Int → Int} {a b x : Int} (h : isD w a b x) : 0 ≤ x ∧ x ≤ 9999 := by
  refine ⟨?_, h.2.1⟩
  rcases h.1 with z | ⟨n, z⟩
  · omega
  · exact Rw_nn z
noncomputable def farF (d : Int → Int) (C : Nat → Int → Int) (s y : Int) : Nat → Int
  | 0 => 9999
  | k + 1 => if (¬ (k : Int) = s ∧ y < C 67 k) then min (farF d C s y k) (d (C 58 k)) else farF d C s y k
theorem farF_s (d : Int → Int) (C : Nat → Int → Int) (s y : Int) (k : Nat) : farF d C s y (k + 1) = if (¬ (k : Int) = s ∧ y < C 67 k) then min (farF d C s y k) (d (C 58 k)) else farF d C s y k := rfl
noncomputable def farV (C : Nat → Int → Int) (s y : Int) : Int := farF (dst (C 60) (C 58 s)) C s y (C 55 1).toNat
theorem farF_rng {d : Int → Int} {C : Nat → Int → Int} {s y : Int} (k : Nat) (h : ∀ j : Nat, j < k → 0 ≤ d (C 58 j)) : 0 ≤ farF d C s y k ∧ farF d C s y k ≤ 9999 := by
  induction k with
  | zero => unfold farF; omega
  | succ k ih =>
    rw [farF_s]
    have h1 := ih (fun j hj => h j (by omega))
    have h2 := h k (by omega)
    split
    · omega
    · exact h1
def WaysI (S : gM) : Prop := (gi S 8 2 = 0 ∨ gi S 8 2 = 1) ∧ (gi S 8 2 = 1 → FW (gi S 60) (gi S 10) 16)
def su_WaysI : List Nat := [8, 10, 60]
theorem WaysI.fr {S S' : gM} {W : List Nat} (h : WaysI S) (hF : Fr W S S') (hd : su_WaysI.all (fun x => !W.contains x) = true) : WaysI S' := by
  have e0 : gi S' 8 2 = gi S 8 2 := hF.cell hd rfl
  have f0 : gi S' 10 = gi S 10 := funext fun k => hF.cell hd rfl
  have f1 : gi S' 60 = gi S 60 := funext fun k => hF.cell hd rfl
  unfold WaysI at h ⊢
  simp only [e0, f0, f1]
  exact h
section FAR
variable {S : gM}
/-- Floyd's first row -/
theorem g53_l2_w {Q : gM → Prop} {K : gM → Option gM} (S0 : gM) (hK : ∀ S, Fr [8, 10] S0 S → (∀ i : Int, 0 ≤ i → i < 256 → gi S 10 i = if 0 < gi S0 9 i then gi S0 9 i else 1000000) → Wp Q (K S)) :
    ∀ n k : Nat, k ≤ 256 → 256 - k < n → ∀ S, Fr [8, 10] S0 S → (∀ i : Int, 0 ≤ i → i < k → gi S 10 i = if 0 < gi S0 9 i then gi S0 9 i else 1000000) → Wp Q (g53_l2 K n k S) := by
  refine upto 256 (fun n k => ∀ S, Fr [8, 10] S0 S → (∀ i : Int, 0 ≤ i → i < k → gi S 10 i = if 0 < gi S0 9 i then gi S0 9 i else 1000000) → Wp Q (g53_l2 K n k S)) ?_
  intro n k hk ih S hF hI
  dsimp only [g53_l2]
  have e9 : gi S 9 k = gi S0 9 k := hF.i rfl
  repeat' (first | (with_reducible refine p_chk ?_ ?_; (· (first | omega | (simp only [gi_wi, gl_wl, gl_wi, gi_wl, gi_wcl, gl_wcl, Nat.reduceEqDiff, Int.reduceEq, false_and, true_and, and_true, and_false, if_false, if_true]; omega)))) | with_reducible refine p_lt ?_ | (with_reducible refine p_ckI ?_ ?_; (· (first | omega | (simp only [gi_wi, gl_wl, gl_wi, gi_wl, gi_wcl, gl_wcl, Nat.reduceEqDiff, Int.reduceEq, false_and, true_and, and_true, and_false, if_false, if_true]; omega)))) | (with_reducible refine p_ckJ ?_ ?_; (· (first | omega | (simp only [gi_wi, gl_wl, gl_wi, gi_wl, gi_wcl, gl_wcl, Nat.reduceEqDiff, Int.reduceEq, false_and, true_and, and_true, and_false, if_false, if_true]; omega)))) | (with_reducible refine p_call (g102_eq _ _) ?_; try dsimp only) | (with_reducible refine p_call (g103_eq _) ?_; try dsimp only) | (with_reducible refine p_call (g104_eq _) ?_; try dsimp only) | (with_reducible refine p_call (g105_eq _) ?_; try dsimp only) | (with_reducible refine p_call (g112_eq _ _ _) ?_; try dsimp only) | (with_reducible refine p_call (g113_eq _) ?_; try dsimp only) | (with_reducible refine p_call (g114_eq _) ?_; try dsimp only) | (with_reducible refine p_call (g115_eq _) ?_; try dsimp only) | (with_reducible refine p_call (g116_eq _ ?_) ?_; (· (first | omega | (simp only [gi_wi, gl_wl, gl_wi, gi_wl, gi_wcl, gl_wcl, Nat.reduceEqDiff, Int.reduceEq, false_and, true_and, and_true, and_false, if_false, if_true]; omega))); try dsimp only) | (with_reducible refine p_call (g118_eq ?_) ?_; (· (first | omega | (simp only [gi_wi, gl_wl, gl_wi, gi_wl, gi_wcl, gl_wcl, Nat.reduceEqDiff, Int.reduceEq, false_and, true_and, and_true, and_false, if_false, if_true]; omega))); try dsimp only) | (with_reducible refine p_call (g106_eq _ ?_) ?_; (· (first | omega | (simp only [gi_wi, gl_wl, gl_wi, gi_wl, gi_wcl, gl_wcl, Nat.reduceEqDiff, Int.reduceEq, false_and, true_and, and_true, and_false, if_false, if_true]; omega))); try dsimp only) | (with_reducible refine p_call (g2_eq _ _ ?_ ?_) ?_; (· (first | omega | (simp only [gi_wi, gl_wl, gl_wi, gi_wl, gi_wcl, gl_wcl, Nat.reduceEqDiff, Int.reduceEq, false_and, true_and, and_true, and_false, if_false, if_true]; omega))); (· (first | omega | (simp only [gi_wi, gl_wl, gl_wi, gi_wl, gi_wcl, gl_wcl, Nat.reduceEqDiff, Int.reduceEq, false_and, true_and, and_true, and_false, if_false, if_true]; omega))); try dsimp only) | (with_reducible refine p_call (g3_eq _ ?_) ?_; (· (first | omega | (simp only [gi_wi, gl_wl, gl_wi, gi_wl, gi_wcl, gl_wcl, Nat.reduceEqDiff, Int.reduceEq, false_and, true_and, and_true, and_false, if_false, if_true]; omega))); try dsimp only) | (with_reducible refine p_call (g122_eq _ _ ?_) ?_; (· (first | omega | (simp only [gi_wi, gl_wl, gl_wi, gi_wl, gi_wcl, gl_wcl, Nat.reduceEqDiff, Int.reduceEq, false_and, true_and, and_true, and_false, if_false, if_true]; omega))); try dsimp only) | (with_reducible refine p_call (g58_eq) ?_; try dsimp only) | with_reducible refine p_if1 (fun _ => ?_) (fun _ => ?_) | with_reducible refine p_if1n (fun _ => ?_) (fun _ => ?_) | with_reducible refine p_if (fun _ => ?_) (fun _ => ?_))
  · exact hK S hF (fun i h1 h2 => hI i h1 (by omega))
  · refine ih (by omega) _ (hF.wi rfl) (fun i h1 h2 => ?_)
    rw [gi_wi]
    by_cases hc : i = k
    · rw [if_pos ⟨rfl, hc⟩, hc, if_neg (by omega)]
    · rw [if_neg (fun z => hc z.2)]; exact hI i h1 (by omega)
  · refine ih (by omega) _ (hF.wi rfl) (fun i h1 h2 => ?_)
    rw [gi_wi]
    by_cases hc : i = k
    · rw [if_pos ⟨rfl, hc⟩, hc, if_pos (by omega), e9]
    · rw [if_neg (fun z => hc z.2)]; exact hI i h1 (by omega)
theorem g53_l43_w {Q : gM → Prop} {K : gM → Option gM} (S0 : gM) (hK : ∀ S, Fr [8, 10] S0 S → (∀ i : Int, 0 ≤ i → i < 256 → gi S 10 i = if i % 17 = 0 then 0 else gi S0 10 i) → Wp Q (K S)) :
    ∀ n k : Nat, k ≤ 16 → 16 - k < n → ∀ S, Fr [8, 10] S0 S → (∀ i : Int, 0 ≤ i → i < 256 → gi S 10 i = if i % 17 = 0 ∧ i < 17 * k then 0 else gi S0 10 i) → Wp Q (g53_l43 K n k S) := by
  refine upto 16 (fun n k => ∀ S, Fr [8, 10] S0 S → (∀ i : Int, 0 ≤ i → i < 256 → gi S 10 i = if i % 17 = 0 ∧ i < 17 * k then 0 else gi S0 10 i) → Wp Q (g53_l43 K n k S)) ?_
  intro n k hk ih S hF hI
  dsimp only [g53_l43]
  repeat' (first | (with_reducible refine p_chk ?_ ?_; (· (first | omega | (simp only [gi_wi, gl_wl, gl_wi, gi_wl, gi_wcl, gl_wcl, Nat.reduceEqDiff, Int.reduceEq, false_and, true_and, and_true, and_false, if_false, if_true]; omega)))) | with_reducible refine p_lt ?_ | (with_reducible refine p_ckI ?_ ?_; (· (first | omega | (simp only [gi_wi, gl_wl, gl_wi, gi_wl, gi_wcl, gl_wcl, Nat.reduceEqDiff, Int.reduceEq, false_and, true_and, and_true, and_false, if_false, if_true]; omega)))) | (with_reducible refine p_ckJ ?_ ?_; (· (first | omega | (simp only [gi_wi, gl_wl, gl_wi, gi_wl, gi_wcl, gl_wcl, Nat.reduceEqDiff, Int.reduceEq, false_and, true_and, and_true, and_false, if_false, if_true]; omega)))) | (with_reducible refine p_call (g102_eq _ _) ?_; try dsimp only) | (with_reducible refine p_call (g103_eq _) ?_; try dsimp only) | (with_reducible refine p_call (g104_eq _) ?_; try dsimp only) | (with_reducible refine p_call (g105_eq _) ?_; try dsimp only) | (with_reducible refine p_call (g112_eq _ _ _) ?_; try dsimp only) | (with_reducible refine p_call (g113_eq _) ?_; try dsimp only) | (with_reducible refine p_call (g114_eq _) ?_; try dsimp only) | (with_reducible refine p_call (g115_eq _) ?_; try dsimp only) | (with_reducible refine p_call (g116_eq _ ?_) ?_; (· (first | omega | (simp only [gi_wi, gl_wl, gl_wi, gi_wl, gi_wcl, gl_wcl, Nat.reduceEqDiff, Int.reduceEq, false_and, true_and, and_true, and_false, if_false, if_true]; omega))); try dsimp only) | (with_reducible refine p_call (g118_eq ?_) ?_; (· (first | omega | (simp only [gi_wi, gl_wl, gl_wi, gi_wl, gi_wcl, gl_wcl, Nat.reduceEqDiff, Int.reduceEq, false_and, true_and, and_true, and_false, if_false, if_true]; omega))); try dsimp only) | (with_reducible refine p_call (g106_eq _ ?_) ?_; (· (first | omega | (simp only [gi_wi, gl_wl, gl_wi, gi_wl, gi_wcl, gl_wcl, Nat.reduceEqDiff, Int.reduceEq, false_and, true_and, and_true, and_false, if_false, if_true]; omega))); try dsimp only) | (with_reducible refine p_call (g2_eq _ _ ?_ ?_) ?_; (· (first | omega | (simp only [gi_wi, gl_wl, gl_wi, gi_wl, gi_wcl, gl_wcl, Nat.reduceEqDiff, Int.reduceEq, false_and, true_and, and_true, and_false, if_false, if_true]; omega))); (· (first | omega | (simp only [gi_wi, gl_wl, gl_wi, gi_wl, gi_wcl, gl_wcl, Nat.reduceEqDiff, Int.reduceEq, false_and, true_and, and_true, and_false, if_false, if_true]; omega))); try dsimp only) | (with_reducible refine p_call (g3_eq _ ?_) ?_; (· (first | omega | (simp only [gi_wi, gl_wl, gl_wi, gi_wl, gi_wcl, gl_wcl, Nat.reduceEqDiff, Int.reduceEq, false_and, true_and, and_true, and_false, if_false, if_true]; omega))); try dsimp only) | (with_reducible refine p_call (g122_eq _ _ ?_) ?_; (· (first | omega | (simp only [gi_wi, gl_wl, gl_wi, gi_wl, gi_wcl, gl_wcl, Nat.reduceEqDiff, Int.reduceEq, false_and, true_and, and_true, and_false, if_false, if_true]; omega))); try dsimp only) | (with_reducible refine p_call (g58_eq) ?_; try dsimp only) | with_reducible refine p_if1 (fun _ => ?_) (fun _ => ?_) | with_reducible refine p_if1n (fun _ => ?_) (fun _ => ?_) | with_reducible refine p_if (fun _ => ?_) (fun _ => ?_))
  · refine hK S hF (fun i h1 h2 => ?_)
    rw [hI i h1 h2]
    by_cases hc : i % 17 = 0
    · rw [if_pos hc, if_pos ⟨hc, by omega⟩]
    · rw [if_neg hc, if_neg (fun z => hc z.1)]
  · refine ih (by omega) _ (hF.wi rfl) (fun i h1 h2 => ?_)
    rw [gi_wi]
    by_cases hc : i = k * 16 + k
    · rw [if_pos ⟨rfl, hc⟩, if_pos (by omega)]
    · rw [if_neg (fun z => hc z.2), hI i h1 h2]
      by_cases h3 : i % 17 = 0 ∧ i < 17 * k
      · rw [if_pos h3, if_pos (by omega)]
      · rw [if_neg h3, if_neg (by omega)]
/-- a step's new ways -/
def stW (t : Int) (W : Int → Int) : Int → Int := fun i => min (W i) (W (16 * (i / 16) + t) + W (16 * t + i % 16))
theorem g53_l85_w {Q : gM → Prop} {K : gM → Option gM} (S0 : gM) {W : Int → Int} {t a : Int} (ht : 0 ≤ t ∧ t < 16) (ha : 0 ≤ a ∧ a < 16) (hW : ∀ i, 0 ≤ i → i < 256 → 0 ≤ W i ∧ W i ≤ 1000000) (hd : W (16 * t + t) = 0)
    (hK : ∀ S, Fr [8, 10] S0 S → (∀ i : Int, 0 ≤ i → i < 256 → gi S 10 i = if i < 16 * (a + 1) then stW t W i else W i) → Wp Q (K S)) :
    ∀ n k : Nat, k ≤ 16 → 16 - k < n → ∀ S, Fr [8, 10] S0 S → (∀ i : Int, 0 ≤ i → i < 256 → gi S 10 i = if i < 16 * a + k then stW t W i else W i) → Wp Q (g53_l85 t a K n k S) := by
  refine upto 16 (fun n k => ∀ S, Fr [8, 10] S0 S → (∀ i : Int, 0 ≤ i → i < 256 → gi S 10 i = if i < 16 * a + k then stW t W i else W i) → Wp Q (g53_l85 t a K n k S)) ?_
  intro n k hk ih S hF hI
  dsimp only [g53_l85]
  refine p_if (fun hc => hK S hF (fun i h1 h2 => ?_)) (fun hc => ?_)
  · rw [hI i h1 h2, show 16 * a + (k : Int) = 16 * (a + 1) by omega]
  · have s1 : gi S 10 (a * 16 + t) = W (16 * a + t) := by
      rw [show a * 16 + t = 16 * a + t by omega, hI _ (by omega) (by omega)]
      by_cases hc : 16 * a + t < 16 * a + k
      · rw [if_pos hc]
        unfold stW
        rw [show (16 * a + t) / 16 = a by omega, show (16 * a + t) % 16 = t by omega, hd]
        omega
      · rw [if_neg hc]
    have s2 : gi S 10 (t * 16 + k) = W (16 * t + k) := by
      rw [show t * 16 + (k : Int) = 16 * t + k by omega, hI _ (by omega) (by omega)]
      by_cases hc : 16 * t + k < 16 * a + k
      · rw [if_pos hc]
        unfold stW
        rw [show (16 * t + (k : Int)) / 16 = t by omega, show (16 * t + (k : Int)) % 16 = k by omega, hd]
        omega
      · rw [if_neg hc]
    have s3 : gi S 10 (a * 16 + k) = W (16 * a + k) := by
      rw [show a * 16 + (k : Int) = 16 * a + k by omega, hI _ (by omega) (by omega), if_neg (by omega)]
    have b1 := hW (16 * a + t) (by omega) (by omega)
    have b2 := hW (16 * t + k) (by omega) (by omega)
    repeat (first | (with_reducible refine p_chk ?_ ?_; (· (first | omega | (simp only [gi_wi, gl_wl, gl_wi, gi_wl, gi_wcl, gl_wcl, Nat.reduceEqDiff, Int.reduceEq, false_and, true_and, and_true, and_false, if_false, if_true]; omega)))) | with_reducible refine p_lt ?_ | (with_reducible refine p_ckI ?_ ?_; (· (first | omega | (simp only [gi_wi, gl_wl, gl_wi, gi_wl, gi_wcl, gl_wcl, Nat.reduceEqDiff, Int.reduceEq, false_and, true_and, and_true, and_false, if_false, if_true]; omega)))) | (with_reducible refine p_ckJ ?_ ?_; (· (first | omega | (simp only [gi_wi, gl_wl, gl_wi, gi_wl, gi_wcl, gl_wcl, Nat.reduceEqDiff, Int.reduceEq, false_and, true_and, and_true, and_false, if_false, if_true]; omega)))))
    refine ih (by omega) _ (hF.wi rfl) (fun i h1 h2 => ?_)
    rw [gi_wi, s1, s2, s3]
    by_cases hc : i = a * 16 + k
    · rw [if_pos ⟨rfl, hc⟩, if_pos (by omega)]
      unfold stW
      rw [hc, show (a * 16 + (k : Int)) / 16 = a by omega, show (a * 16 + (k : Int)) % 16 = k by omega, show a * 16 + (k : Int) = 16 * a + k by omega]
    · rw [if_neg (fun z => hc z.2), hI i h1 h2]
      by_cases h3 : i < 16 * a + k
      · rw [if_pos h3, if_pos (by omega)]
      · rw [if_neg h3, if_neg (by omega)]
theorem g53_l77_w {Q : gM → Prop} {K : gM → Option gM} (S0 : gM) {W : Int → Int} {t : Int} (ht : 0 ≤ t ∧ t < 16) (hW : ∀ i, 0 ≤ i → i < 256 → 0 ≤ W i ∧ W i ≤ 1000000) (hd : W (16 * t + t) = 0)
    (hK : ∀ S, Fr [8, 10] S0 S → (∀ i : Int, 0 ≤ i → i < 256 → gi S 10 i = stW t W i) → Wp Q (K S)) :
    ∀ n k : Nat, k ≤ 16 → 16 - k < n → ∀ S, Fr [8, 10] S0 S → (∀ i : Int, 0 ≤ i → i < 256 → gi S 10 i = if i < 16 * k then stW t W i else W i) → Wp Q (g53_l77 t K n k S) := by
  refine upto 16 (fun n k => ∀ S, Fr [8, 10] S0 S → (∀ i : Int, 0 ≤ i → i < 256 → gi S 10 i = if i < 16 * k then stW t W i else W i) → Wp Q (g53_l77 t K n k S)) ?_
  intro n k hk ih S hF hI
  dsimp only [g53_l77]
  refine p_if (fun hc => hK S hF (fun i h1 h2 => ?_)) (fun hc => ?_)
  · rw [hI i h1 h2, if_pos (by omega)]
  · refine g53_l85_w S0 ht (a := k) (by omega) hW hd ?_ 100000 0 (by omega) (by omega) S hF (fun i h1 h2 => by rw [hI i h1 h2]; simp)
    intro S2 hF2 hI2
    repeat (first | (with_reducible refine p_chk ?_ ?_; (· (first | omega | (simp only [gi_wi, gl_wl, gl_wi, gi_wl, gi_wcl, gl_wcl, Nat.reduceEqDiff, Int.reduceEq, false_and, true_and, and_true, and_false, if_false, if_true]; omega)))) | with_reducible refine p_lt ?_ | (with_reducible refine p_ckI ?_ ?_; (· (first | omega | (simp only [gi_wi, gl_wl, gl_wi, gi_wl, gi_wcl, gl_wcl, Nat.reduceEqDiff, Int.reduceEq, false_and, true_and, and_true, and_false, if_false, if_true]; omega)))) | (with_reducible refine p_ckJ ?_ ?_; (· (first | omega | (simp only [gi_wi, gl_wl, gl_wi, gi_wl, gi_wcl, gl_wcl, Nat.reduceEqDiff, Int.reduceEq, false_and, true_and, and_true, and_false, if_false, if_true]; omega)))))
    exact ih (by omega) S2 hF2 (fun i h1 h2 => by rw [hI2 i h1 h2]; rfl)
theorem g53_l69_w (S0 : gM) {w : Int → Int} : ∀ n k : Nat, k ≤ 16 → 16 - k < n → ∀ S, Fr [8, 10] S0 S → FW w (gi S 10) k → Wp (fun S' => Fr [8, 10] S0 S' ∧ gi S' 8 2 = 1 ∧ FW w (gi S' 10) 16) (g53_l69 n k S) := by
  refine upto 16 (fun n k => ∀ S, Fr [8, 10] S0 S → FW w (gi S 10) k → Wp (fun S' => Fr [8, 10] S0 S' ∧ gi S' 8 2 = 1 ∧ FW w (gi S' 10) 16) (g53_l69 n k S)) ?_
  intro n k hk ih S hF hI
  dsimp only [g53_l69]
  refine p_if (fun hc => ?_) (fun hc => ?_)
  · repeat (first | (with_reducible refine p_chk ?_ ?_; (· (first | omega | (simp only [gi_wi, gl_wl, gl_wi, gi_wl, gi_wcl, gl_wcl, Nat.reduceEqDiff, Int.reduceEq, false_and, true_and, and_true, and_false, if_false, if_true]; omega)))) | with_reducible refine p_lt ?_ | (with_reducible refine p_ckI ?_ ?_; (· (first | omega | (simp only [gi_wi, gl_wl, gl_wi, gi_wl, gi_wcl, gl_wcl, Nat.reduceEqDiff, Int.reduceEq, false_and, true_and, and_true, and_false, if_false, if_true]; omega)))) | (with_reducible refine p_ckJ ?_ ?_; (· (first | omega | (simp only [gi_wi, gl_wl, gl_wi, gi_wl, gi_wcl, gl_wcl, Nat.reduceEqDiff, Int.reduceEq, false_and, true_and, and_true, and_false, if_false, if_true]; omega)))))
    refine p_some ⟨hF.wi rfl, by rw [gi_wi]; exact if_pos ⟨rfl, rfl⟩, ?_⟩
    rw [show (16 : Int) = (k : Int) by omega]
    exact hI
  · refine g53_l77_w S0 (W := gi S 10) (t := k) (by omega) (fun i h1 h2 => ?_) (hI k k (by omega) (by omega) (by omega) (by omega)).2.2.1 ?_ 100000 0 (by omega) (by omega) S hF (fun i h1 h2 => by rw [if_neg (by omega)])
    · have := (hI (i / 16) (i % 16) (by omega) (by omega) (by omega) (by omega)).1
      rw [show 16 * (i / 16) + i % 16 = i by omega] at this
      exact this
    · intro S2 hF2 hI2
      repeat (first | (with_reducible refine p_chk ?_ ?_; (· (first | omega | (simp only [gi_wi, gl_wl, gl_wi, gi_wl, gi_wcl, gl_wcl, Nat.reduceEqDiff, Int.reduceEq, false_and, true_and, and_true, and_false, if_false, if_true]; omega)))) | with_reducible refine p_lt ?_ | (with_reducible refine p_ckI ?_ ?_; (· (first | omega | (simp only [gi_wi, gl_wl, gl_wi, gi_wl, gi_wcl, gl_wcl, Nat.reduceEqDiff, Int.reduceEq, false_and, true_and, and_true, and_false, if_false, if_true]; omega)))) | (with_reducible refine p_ckJ ?_ ?_; (· (first | omega | (simp only [gi_wi, gl_wl, gl_wi, gi_wl, gi_wcl, gl_wcl, Nat.reduceEqDiff, Int.reduceEq, false_and, true_and, and_true, and_false, if_false, if_true]; omega)))))
      refine ih (by omega) S2 hF2 (FW_step hI (by omega) (fun a b h1 h2 h3 h4 => ?_))
      rw [hI2 _ (by omega) (by omega)]
      unfold stW
      rw [show (16 * a + b) / 16 = a by omega, show (16 * a + b) % 16 = b by omega]
theorem g53_w (h : RoadI S) : Wp (fun S' => Fr [8, 10] S S' ∧ gi S' 8 2 = 1 ∧ FW (gi S 60) (gi S' 10) 16) (g53 S) := by
  unfold g53
  refine g53_l2_w S ?_ 100000 0 (by omega) (by omega) S Fr.refl (fun i h1 h2 => by omega)
  intro S2 hF2 hI2
  refine g53_l43_w S2 ?_ 100000 0 (by omega) (by omega) S2 Fr.refl (fun i h1 h2 => by rw [if_neg (by omega)])
  intro S3 hF3 hI3
  refine g53_l69_w S 100000 0 (by omega) (by omega) S3 (hF2.trans hF3) ?_
  intro a b h1 h2 h3 h4
  have e1 := hI3 (16 * a + b) (by omega) (by omega)
  have e2 := hI3 (16 * a + a) (by omega) (by omega)
  have e3 := hI2 (16 * a + b) (by omega) (by omega)
  have hr := h (16 * a + b) (by omega) (by omega)
  rw [if_pos (by omega)] at e2
  refine ⟨?_, ?_, e2, ?_, fun c h5 h6 => by omega⟩
  · by_cases hc : (16 * a + b) % 17 = 0
    · rw [if_pos hc] at e1; omega
    · rw [if_neg hc, e3] at e1
      by_cases hd : 0 < gi S 9 (16 * a + b)
      · rw [if_pos hd] at e1; omega
      · rw [if_neg hd] at e1; omega
  · by_cases hc : (16 * a + b) % 17 = 0
    · rw [if_pos hc] at e1
      have hab : a = b := by omega
      rw [e1]
      exact Or.inr ⟨0, hab, rfl⟩
    · rw [if_neg hc, e3] at e1
      by_cases hd : 0 < gi S 9 (16 * a + b)
      · rw [if_pos hd] at e1
        rw [e1, hr.1]
        rw [hr.1] at hd
        exact Or.inr ⟨1, Or.inr ⟨a, 0, ⟨h1, h2⟩, ⟨rfl, rfl⟩, hd, by omega⟩⟩
      · rw [if_neg hd] at e1; exact Or.inl e1
  · intro hw
    by_cases hc : (16 * a + b) % 17 = 0
    · rw [if_pos hc] at e1; omega
    · rw [if_neg hc, e3, if_pos (by omega)] at e1; omega
theorem g7_l24_eq (hl : LandI S) (hW : FW (gi S 60) (gi S 10) 16) {s : Int} (y : Int) (hs : 0 ≤ s ∧ s < gi S 55 1) : g7_l24 s y 100000 9999 0 S = some (farV (cor S) s y, S) ∧ (0 ≤ farV (cor S) s y ∧ farV (cor S) s y ≤ 9999) := by
  have h0 := hl.1
  have hks := hl.2.1 s hs.1 hs.2
  have hd : ∀ k : Int, 0 ≤ k → k < gi S 55 1 → dst (gi S 60) (gi S 58 s) (gi S 58 k) = min 9999 (gi S 10 (16 * gi S 58 s + gi S 58 k)) := fun k h1 h2 => dst_eq (FW_isD hW hks.2.2.2.1 (hl.2.1 k h1 h2).2.2.2.1)
  have hr : ∀ k : Nat, k ≤ (gi S 55 1).toNat → 0 ≤ farF (dst (gi S 60) (gi S 58 s)) (cor S) s y k ∧ farF (dst (gi S 60) (gi S 58 s)) (cor S) s y k ≤ 9999 := fun k hk => farF_rng k (fun j hj => by
    rw [co58, hd j (by omega) (by omega)]
    have := (hW (gi S 58 s) (gi S 58 j) hks.2.2.2.1.1 hks.2.2.2.1.2 (hl.2.1 j (by omega) (by omega)).2.2.2.1.1 (hl.2.1 j (by omega) (by omega)).2.2.2.1.2).1
    omega)
  unfold farV
  rw [co55_1, co60, co58]
  refine ⟨?_, hr _ (Nat.le_refl _)⟩
  refine upto (gi S 55 1).toNat (fun n k => g7_l24 s y n (farF (dst (gi S 60) (gi S 58 s)) (cor S) s y k) k S = some (farF (dst (gi S 60) (gi S 58 s)) (cor S) s y (gi S 55 1).toNat, S)) ?_ 100000 0 (Nat.zero_le _) (by omega)
  intro n k hk ih
  dsimp only [g7_l24]
  have hrk := hr k hk
  refine p_eq ?_
  rw [lt_t]
  refine p_if (fun hc => ?_) (fun hc => ?_)
  · rw [show k = (gi S 55 1).toNat by omega]; exact p_some rfl
  · have ih := ih (by omega)
    rw [farF_s, co67, co58] at ih
    have hkk := hl.2.1 k (by omega) (by omega)
    have hdk := hd k (by omega) (by omega)
    repeat' (first | (with_reducible refine p_chk ?_ ?_; (· (first | omega | (simp only [gi_wi, gl_wl, gl_wi, gi_wl, gi_wcl, gl_wcl, Nat.reduceEqDiff, Int.reduceEq, false_and, true_and, and_true, and_false, if_false, if_true]; omega)))) | with_reducible refine p_lt ?_ | (with_reducible refine p_ckI ?_ ?_; (· (first | omega | (simp only [gi_wi, gl_wl, gl_wi, gi_wl, gi_wcl, gl_wcl, Nat.reduceEqDiff, Int.reduceEq, false_and, true_and, and_true, and_false, if_false, if_true]; omega)))) | (with_reducible refine p_ckJ ?_ ?_; (· (first | omega | (simp only [gi_wi, gl_wl, gl_wi, gi_wl, gi_wcl, gl_wcl, Nat.reduceEqDiff, Int.reduceEq, false_and, true_and, and_true, and_false, if_false, if_true]; omega)))) | (with_reducible refine p_call (g102_eq _ _) ?_; try dsimp only) | (with_reducible refine p_call (g103_eq _) ?_; try dsimp only) | (with_reducible refine p_call (g104_eq _) ?_; try dsimp only) | (with_reducible refine p_call (g105_eq _) ?_; try dsimp only) | (with_reducible refine p_call (g112_eq _ _ _) ?_; try dsimp only) | (with_reducible refine p_call (g113_eq _) ?_; try dsimp only) | (with_reducible refine p_call (g114_eq _) ?_; try dsimp only) | (with_reducible refine p_call (g115_eq _) ?_; try dsimp only) | (with_reducible refine p_call (g116_eq _ ?_) ?_; (· (first | omega | (simp only [gi_wi, gl_wl, gl_wi, gi_wl, gi_wcl, gl_wcl, Nat.reduceEqDiff, Int.reduceEq, false_and, true_and, and_true, and_false, if_false, if_true]; omega))); try dsimp only) | (with_reducible refine p_call (g118_eq ?_) ?_; (· (first | omega | (simp only [gi_wi, gl_wl, gl_wi, gi_wl, gi_wcl, gl_wcl, Nat.reduceEqDiff, Int.reduceEq, false_and, true_and, and_true, and_false, if_false, if_true]; omega))); try dsimp only) | (with_reducible refine p_call (g106_eq _ ?_) ?_; (· (first | omega | (simp only [gi_wi, gl_wl, gl_wi, gi_wl, gi_wcl, gl_wcl, Nat.reduceEqDiff, Int.reduceEq, false_and, true_and, and_true, and_false, if_false, if_true]; omega))); try dsimp only) | (with_reducible refine p_call (g2_eq _ _ ?_ ?_) ?_; (· (first | omega | (simp only [gi_wi, gl_wl, gl_wi, gi_wl, gi_wcl, gl_wcl, Nat.reduceEqDiff, Int.reduceEq, false_and, true_and, and_true, and_false, if_false, if_true]; omega))); (· (first | omega | (simp only [gi_wi, gl_wl, gl_wi, gi_wl, gi_wcl, gl_wcl, Nat.reduceEqDiff, Int.reduceEq, false_and, true_and, and_true, and_false, if_false, if_true]; omega))); try dsimp only) | (with_reducible refine p_call (g3_eq _ ?_) ?_; (· (first | omega | (simp only [gi_wi, gl_wl, gl_wi, gi_wl, gi_wcl, gl_wcl, Nat.reduceEqDiff, Int.reduceEq, false_and, true_and, and_true, and_false, if_false, if_true]; omega))); try dsimp only) | (with_reducible refine p_call (g122_eq _ _ ?_) ?_; (· (first | omega | (simp only [gi_wi, gl_wl, gl_wi, gi_wl, gi_wcl, gl_wcl, Nat.reduceEqDiff, Int.reduceEq, false_and, true_and, and_true, and_false, if_false, if_true]; omega))); try dsimp only) | (with_reducible refine p_call (g58_eq) ?_; try dsimp only) | with_reducible refine p_if1 (fun _ => ?_) (fun _ => ?_) | with_reducible refine p_if1n (fun _ => ?_) (fun _ => ?_) | with_reducible refine p_if (fun _ => ?_) (fun _ => ?_))
    · rw [if_neg (by omega)] at ih; exact ⟨_, ih, rfl⟩
    · rw [if_pos (by omega), hdk] at ih
      rw [hkk.1.2.2.1, hks.1.2.2.1, show gi S 58 s * 16 + gi S 58 k = 16 * gi S 58 s + gi S 58 k by omega]
      rw [show min (farF (dst (gi S 60) (gi S 58 s)) (cor S) s y k) (min 9999 (gi S 10 (16 * gi S 58 s + gi S 58 k))) = min (farF (dst (gi S 60) (gi S 58 s)) (cor S) s y k) (gi S 10 (16 * gi S 58 s + gi S 58 k)) by omega] at ih
      exact ⟨_, ih, rfl⟩
    · rw [if_neg (by omega)] at ih; exact ⟨_, ih, rfl⟩
theorem g7_w (hl : LandI S) (hr : RoadI S) (hw : WaysI S) {s : Int} (y : Int) (hs : 0 ≤ s ∧ s < gi S 55 1) : Wp (fun r => r.1 = farV (cor S) s y ∧ (0 ≤ r.1 ∧ r.1 ≤ 9999) ∧ Fr [8, 10] S r.2 ∧ WaysI r.2) (g7 s y S) := by
  unfold g7
  rw [lt_t]
  refine p_if (fun hc => ?_) (fun hc => ?_)
  · have e := g7_l24_eq hl (hw.2 (by have := hw.1; omega)) y hs
    exact ⟨_, e.1, rfl, e.2, Fr.refl, hw⟩
  · refine p_use (g53_w hr) (fun S2 h2 => ?_)
    have hSc : Sc S S2 := h2.1.mono rfl
    have e60 : gi S2 60 = gi S 60 := funext fun k => h2.1.i rfl
    have e := g7_l24_eq (hl.fr h2.1 rfl) (by rw [e60]; exact h2.2.2) y (by rw [show gi S2 55 1 = gi S 55 1 from h2.1.i rfl]; exact hs)
    rw [hSc.cE] at e
    refine ⟨_, e.1, rfl, e.2, h2.1, Or.inr h2.2.1, fun _ => ?_⟩
    rw [e60]; exact h2.2.2
end FAR
