/-! a draft becomes a formula -/
/-- a piece copied from b to a, each shifted by s -/
def px_cpy (F : Int → Int) (a b s j : Int) : Int → Int := fun k => if a ≤ k ∧ k < a + j then F (b + (k - a)) + s else F k
/-- the rows that a draft can have are small -/
def px_RB (T : gM) : Prop := ∀ k : Int, 270 ≤ k → k < 300 → (0 ≤ gi T 75 k ∧ gi T 75 k ≤ 15000) ∧ (0 ≤ gi T 76 k ∧ gi T 76 k ≤ 15000) ∧ (0 ≤ gi T 77 k ∧ gi T 77 k ≤ 15000)
def px_BE (T T' : gM) (f y : Int) (m L : Nat) : Prop :=
  Fr [70, 71, 72, 73, 74, 75, 76, 77, 78, 79] T T' ∧
  ((∀ k, gi T' 70 k = if k = f then (m : Int) else gi T 70 k) ∧ (∀ k, gi T' 71 k = if k = f then y else gi T 71 k) ∧ (∀ k, gi T' 72 k = if k = f then gi T 55 0 else gi T 72 k)) ∧
  ((∀ k, gi T' 73 k = px_cpy (gi T 73) (30 * f) 270 0 m k) ∧ (∀ k, gi T' 74 k = px_cpy (gi T 74) (30 * f) 270 0 m k) ∧ (∀ k, gi T' 75 k = px_cpy (gi T 75) (30 * f) 270 (1500 * (f - 9)) m k) ∧ (∀ k, gi T' 76 k = px_cpy (gi T 76) (30 * f) 270 (1500 * (f - 9)) m k) ∧ ∀ k, gi T' 77 k = px_cpy (gi T 77) (30 * f) 270 (1500 * (f - 9)) m k) ∧
  ((∀ k, gi T' 78 k = px_cpy (gi T 78) (1500 * f) 13500 0 L k) ∧ ∀ k, gi T' 79 k = px_cpy (gi T 79) (1500 * f) 13500 0 L k)
section BE
variable {S S' T T' T0 U : gM} {f y : Int} {m L : Nat} {cd : List (Int × Int)}
theorem px_cpy_0 (F : Int → Int) (a b s k : Int) : px_cpy F a b s 0 k = F k := if_neg (by omega)
theorem px_cpy_s (F : Int → Int) (a b s : Int) (j : Nat) (k : Int) : px_cpy F a b s ((j + 1 : Nat) : Int) k = if k = a + j then F (b + j) + s else px_cpy F a b s j k := by
  unfold px_cpy
  by_cases z : k = a + j
  · rw [if_pos z, if_pos (by omega), show b + (k - a) = b + j by omega]
  · rw [if_neg z]
    by_cases w : a ≤ k ∧ k < a + j
    · rw [if_pos w, if_pos (by omega)]
    · rw [if_neg w, if_neg (by omega)]
theorem px_cpy_b (F : Int → Int) {a b s : Int} {j : Nat} (h : a ≤ b) : px_cpy F a b s j (b + j) = F (b + j) := if_neg (by omega)
/-- out of the piece: as it was -/
theorem px_cpy_o (F : Int → Int) {a b s j k : Int} (h : k < a ∨ a + j ≤ k) : px_cpy F a b s j k = F k := if_neg (by omega)
/-- in the piece -/
theorem px_cpy_i (F : Int → Int) (a b s j : Int) {i : Nat} (h : (i : Int) < j) : px_cpy F a b s j (a + i) = F (b + i) + s := by
  unfold px_cpy
  rw [if_pos (by omega), show b + (a + i - a) = b + i by omega]
theorem px_l42_w {Q : gM → Prop} (hf : 0 ≤ f ∧ f ≤ 8) (hm : gi T0 70 f = m ∧ m ≤ 30) (hB : px_RB T0) {K : gM → Option gM} (hK : ∀ T1, Fr [73, 74, 75, 76, 77] T0 T1 → ((∀ k, gi T1 73 k = px_cpy (gi T0 73) (30 * f) 270 0 m k) ∧ (∀ k, gi T1 74 k = px_cpy (gi T0 74) (30 * f) 270 0 m k) ∧ (∀ k, gi T1 75 k = px_cpy (gi T0 75) (30 * f) 270 (1500 * (f - 9)) m k) ∧ (∀ k, gi T1 76 k = px_cpy (gi T0 76) (30 * f) 270 (1500 * (f - 9)) m k) ∧ ∀ k, gi T1 77 k = px_cpy (gi T0 77) (30 * f) 270 (1500 * (f - 9)) m k) → Wp Q (K T1)) : Wp Q (g156_l42 f (1500 * (f - 9)) K 100000 0 T0) := by
  refine upto m (fun u j => ∀ T1, Fr [73, 74, 75, 76, 77] T0 T1 → ((∀ k, gi T1 73 k = px_cpy (gi T0 73) (30 * f) 270 0 j k) ∧ (∀ k, gi T1 74 k = px_cpy (gi T0 74) (30 * f) 270 0 j k) ∧ (∀ k, gi T1 75 k = px_cpy (gi T0 75) (30 * f) 270 (1500 * (f - 9)) j k) ∧ (∀ k, gi T1 76 k = px_cpy (gi T0 76) (30 * f) 270 (1500 * (f - 9)) j k) ∧ ∀ k, gi T1 77 k = px_cpy (gi T0 77) (30 * f) 270 (1500 * (f - 9)) j k) → Wp Q (g156_l42 f (1500 * (f - 9)) K u j T1)) ?_ 100000 0 (Nat.zero_le _) (by omega) T0 Fr.refl ⟨fun k => (px_cpy_0 _ _ _ _ k).symm, fun k => (px_cpy_0 _ _ _ _ k).symm, fun k => (px_cpy_0 _ _ _ _ k).symm, fun k => (px_cpy_0 _ _ _ _ k).symm, fun k => (px_cpy_0 _ _ _ _ k).symm⟩
  intro u j hj ih T1 hF hT
  dsimp only [g156_l42]
  have e70 : gi T1 70 f = m := (hF.i rfl).trans hm.1
  obtain ⟨t3, t4, t5, t6, t7⟩ := hT
  refine p_chk (by omega) (p_lt ?_)
  rw [e70]
  refine p_if (fun h1 => ?_) (fun h1 => ?_)
  · have : j = m := by omega
    subst this
    exact hK T1 hF ⟨t3, t4, t5, t6, t7⟩
  · have b := hB (270 + j) (by omega) (by omega)
    have s3 : gi T1 73 (270 + j) = gi T0 73 (270 + j) := (t3 _).trans (px_cpy_b _ (by omega))
    have s4 : gi T1 74 (270 + j) = gi T0 74 (270 + j) := (t4 _).trans (px_cpy_b _ (by omega))
    have s5 : gi T1 75 (270 + j) = gi T0 75 (270 + j) := (t5 _).trans (px_cpy_b _ (by omega))
    have s6 : gi T1 76 (270 + j) = gi T0 76 (270 + j) := (t6 _).trans (px_cpy_b _ (by omega))
    have s7 : gi T1 77 (270 + j) = gi T0 77 (270 + j) := (t7 _).trans (px_cpy_b _ (by omega))
    repeat (first | (with_reducible refine p_chk ?_ ?_; (· (first | assumption | omega | (simp only [gi_wi, gl_wl, gl_wi, gi_wl, gi_wcl, gl_wcl, Nat.reduceEqDiff, Int.reduceEq, false_and, true_and, and_true, and_false, if_false, if_true]; omega)))) | with_reducible refine p_lt ?_ | (with_reducible refine p_ckI ?_ ?_; (· (first | omega | (simp only [gi_wi, gl_wl, gl_wi, gi_wl, gi_wcl, gl_wcl, Nat.reduceEqDiff, Int.reduceEq, false_and, true_and, and_true, and_false, if_false, if_true]; omega)))) | (with_reducible refine p_ckJ ?_ ?_; (· (first | omega | (simp only [gi_wi, gl_wl, gl_wi, gi_wl, gi_wcl, gl_wcl, Nat.reduceEqDiff, Int.reduceEq, false_and, true_and, and_true, and_false, if_false, if_true]; omega)))))
    have F2 : Fr [73, 74, 75, 76, 77] T0 (wi (wi (wi (wi (wi T1 73 (30 * f + j) (gi T0 73 (270 + j))) 74 (30 * f + j) (gi T0 74 (270 + j))) 75 (30 * f + j) (gi T0 75 (270 + j) + 1500 * (f - 9))) 76 (30 * f + j) (gi T0 76 (270 + j) + 1500 * (f - 9))) 77 (30 * f + j) (gi T0 77 (270 + j) + 1500 * (f - 9))) := ((((hF.wi rfl).wi rfl).wi rfl).wi rfl).wi rfl
    have ih := ih (by omega) _ F2 ⟨fun k => ?_, fun k => ?_, fun k => ?_, fun k => ?_, fun k => ?_⟩
    · simp only [gi_wi, gl_wl, gl_wi, gi_wl, gi_wcl, gl_wcl, Nat.reduceEqDiff, Int.reduceEq, false_and, true_and, and_true, and_false, if_false, if_true]
      rw [s3, s4, s5, s6, s7]
      exact ih
    · simp only [gi_wi, gl_wl, gl_wi, gi_wl, gi_wcl, gl_wcl, Nat.reduceEqDiff, Int.reduceEq, false_and, true_and, and_true, and_false, if_false, if_true]; rw [px_cpy_s, t3, Int.add_zero]
    · simp only [gi_wi, gl_wl, gl_wi, gi_wl, gi_wcl, gl_wcl, Nat.reduceEqDiff, Int.reduceEq, false_and, true_and, and_true, and_false, if_false, if_true]; rw [px_cpy_s, t4, Int.add_zero]
    · simp only [gi_wi, gl_wl, gl_wi, gi_wl, gi_wcl, gl_wcl, Nat.reduceEqDiff, Int.reduceEq, false_and, true_and, and_true, and_false, if_false, if_true]; rw [px_cpy_s, t5]
    · simp only [gi_wi, gl_wl, gl_wi, gi_wl, gi_wcl, gl_wcl, Nat.reduceEqDiff, Int.reduceEq, false_and, true_and, and_true, and_false, if_false, if_true]; rw [px_cpy_s, t6]
    · simp only [gi_wi, gl_wl, gl_wi, gi_wl, gi_wcl, gl_wcl, Nat.reduceEqDiff, Int.reduceEq, false_and, true_and, and_true, and_false, if_false, if_true]; rw [px_cpy_s, t7]
theorem px_l157_w (hf : 0 ≤ f ∧ f ≤ 8) (hL : gi T0 55 24 = 13500 + L ∧ L ≤ 1500) : Wp (fun T1 => Fr [78, 79] T0 T1 ∧ (∀ k, gi T1 78 k = px_cpy (gi T0 78) (1500 * f) 13500 0 L k) ∧ ∀ k, gi T1 79 k = px_cpy (gi T0 79) (1500 * f) 13500 0 L k) (g156_l157 (1500 * (f - 9)) 100000 13500 T0) := by
  have key := upto L (fun u j => ∀ T1, Fr [78, 79] T0 T1 → ((∀ k, gi T1 78 k = px_cpy (gi T0 78) (1500 * f) 13500 0 j k) ∧ ∀ k, gi T1 79 k = px_cpy (gi T0 79) (1500 * f) 13500 0 j k) → Wp (fun T1 => Fr [78, 79] T0 T1 ∧ (∀ k, gi T1 78 k = px_cpy (gi T0 78) (1500 * f) 13500 0 L k) ∧ ∀ k, gi T1 79 k = px_cpy (gi T0 79) (1500 * f) 13500 0 L k) (g156_l157 (1500 * (f - 9)) u (13500 + j) T1)) ?_ 100000 0 (Nat.zero_le _) (by omega) T0 Fr.refl ⟨fun k => (px_cpy_0 _ _ _ _ k).symm, fun k => (px_cpy_0 _ _ _ _ k).symm⟩
  · exact key
  intro u j hj ih T1 hF hT
  dsimp only [g156_l157]
  have e24 : gi T1 55 24 = 13500 + L := (hF.i rfl).trans hL.1
  obtain ⟨t8, t9⟩ := hT
  refine p_lt ?_
  rw [e24]
  refine p_if (fun h1 => ?_) (fun h1 => ?_)
  · have : j = L := by omega
    subst this
    exact p_some ⟨hF, t8, t9⟩
  · have s8 : gi T1 78 (13500 + j) = gi T0 78 (13500 + j) := (t8 _).trans (px_cpy_b _ (by omega))
    have s9 : gi T1 79 (13500 + j) = gi T0 79 (13500 + j) := (t9 _).trans (px_cpy_b _ (by omega))
    have ei : 13500 + (j : Int) + 1500 * (f - 9) = 1500 * f + j := by omega
    rw [ei]
    repeat (first | (with_reducible refine p_chk ?_ ?_; (· (first | assumption | omega | (simp only [gi_wi, gl_wl, gl_wi, gi_wl, gi_wcl, gl_wcl, Nat.reduceEqDiff, Int.reduceEq, false_and, true_and, and_true, and_false, if_false, if_true]; omega)))) | with_reducible refine p_lt ?_ | (with_reducible refine p_ckI ?_ ?_; (· (first | omega | (simp only [gi_wi, gl_wl, gl_wi, gi_wl, gi_wcl, gl_wcl, Nat.reduceEqDiff, Int.reduceEq, false_and, true_and, and_true, and_false, if_false, if_true]; omega)))) | (with_reducible refine p_ckJ ?_ ?_; (· (first | omega | (simp only [gi_wi, gl_wl, gl_wi, gi_wl, gi_wcl, gl_wcl, Nat.reduceEqDiff, Int.reduceEq, false_and, true_and, and_true, and_false, if_false, if_true]; omega)))))
    have F2 : Fr [78, 79] T0 (wi (wi T1 78 (1500 * f + j) (gi T0 78 (13500 + j))) 79 (1500 * f + j) (gi T0 79 (13500 + j))) := (hF.wi rfl).wi rfl
    have ih := ih (by omega) _ F2 ⟨fun k => ?_, fun k => ?_⟩
    · simp only [gi_wi, gl_wl, gl_wi, gi_wl, gi_wcl, gl_wcl, Nat.reduceEqDiff, Int.reduceEq, false_and, true_and, and_true, and_false, if_false, if_true]
      rw [s8, s9, show 13500 + (j : Int) + 1 = 13500 + ((j + 1 : Nat) : Int) by omega]
      exact ih
    · simp only [gi_wi, gl_wl, gl_wi, gi_wl, gi_wcl, gl_wcl, Nat.reduceEqDiff, Int.reduceEq, false_and, true_and, and_true, and_false, if_false, if_true]; rw [px_cpy_s, t8, Int.add_zero]
    · simp only [gi_wi, gl_wl, gl_wi, gi_wl, gi_wcl, gl_wcl, Nat.reduceEqDiff, Int.reduceEq, false_and, true_and, and_true, and_false, if_false, if_true]; rw [px_cpy_s, t9, Int.add_zero]
theorem px_156_w (hf : 0 ≤ f ∧ f ≤ 8) (hm : gi T 70 9 = m ∧ m ≤ 30) (hL : gi T 55 24 = 13500 + L ∧ L ≤ 1500) (hB : px_RB T) : Wp (fun T' => px_BE T T' f y m L) (g156 f y T) := by
  unfold g156
  refine p_lt (p_chk (by omega) (p_lt (p_chk (by omega) (p_lt (p_lt (p_chk (by omega) (p_lt (p_ckI (by omega) (p_ckI (by omega) ?_)))))))))
  rw [hm.1]
  have e0 : gi (wi (wi T 70 f m) 71 f y) 55 0 = gi T 55 0 := by simp only [gi_wi, gl_wl, gl_wi, gi_wl, gi_wcl, gl_wcl, Nat.reduceEqDiff, Int.reduceEq, false_and, true_and, and_true, and_false, if_false, if_true]
  rw [e0]
  have F1 : Fr [70, 71, 72] T (wi (wi (wi T 70 f m) 71 f y) 72 f (gi T 55 0)) := ((Fr.refl.wi rfl).wi rfl).wi rfl
  have a0 : ∀ k, gi (wi (wi (wi T 70 f m) 71 f y) 72 f (gi T 55 0)) 70 k = if k = f then (m : Int) else gi T 70 k := fun k => by simp only [gi_wi, gl_wl, gl_wi, gi_wl, gi_wcl, gl_wcl, Nat.reduceEqDiff, Int.reduceEq, false_and, true_and, and_true, and_false, if_false, if_true]
  have a1 : ∀ k, gi (wi (wi (wi T 70 f m) 71 f y) 72 f (gi T 55 0)) 71 k = if k = f then y else gi T 71 k := fun k => by simp only [gi_wi, gl_wl, gl_wi, gi_wl, gi_wcl, gl_wcl, Nat.reduceEqDiff, Int.reduceEq, false_and, true_and, and_true, and_false, if_false, if_true]
  have a2 : ∀ k, gi (wi (wi (wi T 70 f m) 71 f y) 72 f (gi T 55 0)) 72 k = if k = f then gi T 55 0 else gi T 72 k := fun k => by simp only [gi_wi, gl_wl, gl_wi, gi_wl, gi_wcl, gl_wcl, Nat.reduceEqDiff, Int.reduceEq, false_and, true_and, and_true, and_false, if_false, if_true]
  generalize wi (wi (wi T 70 f (m : Int)) 71 f y) 72 f (gi T 55 0) = T1 at *
  have q : ∀ a : Nat, (a = 73 ∨ a = 74 ∨ a = 75 ∨ a = 76 ∨ a = 77 ∨ a = 78 ∨ a = 79) → gi T1 a = gi T a := fun a ha => funext fun k => F1.i (by rcases ha with z | z | z | z | z | z | z <;> subst z <;> rfl)
  refine px_l42_w hf ⟨(a0 f).trans (if_pos rfl), hm.2⟩ (fun k k1 k2 => by rw [q 75 (by decide), q 76 (by decide), q 77 (by decide)]; exact hB k k1 k2) (fun T2 F2 h2 => ?_)
  rw [q 73 (by decide), q 74 (by decide), q 75 (by decide), q 76 (by decide), q 77 (by decide)] at h2
  refine p_imp (px_l157_w (T0 := T2) (L := L) hf ⟨((F2.i rfl).trans (F1.i rfl)).trans hL.1, hL.2⟩) (fun T3 h3 => ?_)
  obtain ⟨F3, h8, h9⟩ := h3
  have q8 : gi T2 78 = gi T 78 := funext fun k => (F2.i rfl).trans (F1.i rfl)
  have q9 : gi T2 79 = gi T 79 := funext fun k => (F2.i rfl).trans (F1.i rfl)
  rw [q8] at h8
  rw [q9] at h9
  have w : ∀ a : Nat, (a = 70 ∨ a = 71 ∨ a = 72) → ∀ k, gi T3 a k = gi T1 a k := fun a ha k => by
    rcases ha with z | z | z <;> subst z <;> exact (F3.i rfl).trans (F2.i rfl)
  have w2 : ∀ a : Nat, (a = 73 ∨ a = 74 ∨ a = 75 ∨ a = 76 ∨ a = 77) → ∀ k, gi T3 a k = gi T2 a k := fun a ha k => by
    rcases ha with z | z | z | z | z <;> subst z <;> exact F3.i rfl
  exact ⟨(F1.mono rfl).trans ((F2.mono rfl).trans (F3.mono rfl)), ⟨fun k => (w 70 (by decide) k).trans (a0 k), fun k => (w 71 (by decide) k).trans (a1 k), fun k => (w 72 (by decide) k).trans (a2 k)⟩, ⟨fun k => (w2 73 (by decide) k).trans (h2.1 k), fun k => (w2 74 (by decide) k).trans (h2.2.1 k), fun k => (w2 75 (by decide) k).trans (h2.2.2.1 k), fun k => (w2 76 (by decide) k).trans (h2.2.2.2.1 k), fun k => (w2 77 (by decide) k).trans (h2.2.2.2.2 k)⟩, h8, h9⟩
/-- the other formulae stay -/
theorem px_BE.oth (h : px_BE T T' f y m L) (hf : 0 ≤ f ∧ f ≤ 8) (hm : m ≤ 30) (hL : L ≤ 1500) {g : Int} (hg : -1 ≤ g ∧ g < 9) (hne : ¬ g = f) : SEq (gi T) (gi T') g := by
  by_cases hm1 : g = -1
  · exact Or.inl hm1
  obtain ⟨-, ⟨b0, -, -⟩, ⟨b3, b4, b5, b6, b7⟩, b8, b9⟩ := h
  refine Or.inr ⟨?_, fun i hi => ⟨?_, ?_, ?_, ?_, ?_⟩, fun j hj => ⟨?_, ?_⟩⟩
  · rw [b0, if_neg hne]
  · rw [b3, px_cpy_o _ (by omega)]
  · rw [b4, px_cpy_o _ (by omega)]
  · rw [b5, px_cpy_o _ (by omega)]
  · rw [b6, px_cpy_o _ (by omega)]
  · rw [b7, px_cpy_o _ (by omega)]
  · rw [b8, px_cpy_o _ (by omega)]
  · rw [b9, px_cpy_o _ (by omega)]
/-- the new one's rows -/
theorem px_BE.row (h : px_BE T T' f y m L) {i : Nat} (hi : i < m) : gi T' 73 (30 * f + i) = gi T 73 (30 * 9 + i) ∧ gi T' 74 (30 * f + i) = gi T 74 (30 * 9 + i) ∧ gi T' 75 (30 * f + i) = gi T 75 (30 * 9 + i) + 1500 * (f - 9) ∧ gi T' 76 (30 * f + i) = gi T 76 (30 * 9 + i) + 1500 * (f - 9) ∧ gi T' 77 (30 * f + i) = gi T 77 (30 * 9 + i) + 1500 * (f - 9) := by
  obtain ⟨-, -, ⟨b3, b4, b5, b6, b7⟩, -⟩ := h
  rw [b3, b4, b5, b6, b7, px_cpy_i _ _ _ _ _ (by omega), px_cpy_i _ _ _ _ _ (by omega), px_cpy_i _ _ _ _ _ (by omega), px_cpy_i _ _ _ _ _ (by omega), px_cpy_i _ _ _ _ _ (by omega)]
  have e : (270 : Int) + i = 30 * 9 + i := by omega
  rw [e]
  exact ⟨Int.add_zero _, Int.add_zero _, rfl, rfl, rfl⟩
theorem px_BE.code (h : px_BE T T' f y m L) {i : Nat} (hi : i < L) : gi T' 78 (1500 * f + i) = gi T 78 (13500 + i) ∧ gi T' 79 (1500 * f + i) = gi T 79 (13500 + i) := by
  obtain ⟨-, -, -, b8, b9⟩ := h
  rw [b8, b9, px_cpy_i _ _ _ _ _ (by omega), px_cpy_i _ _ _ _ _ (by omega), Int.add_zero, Int.add_zero]
  exact ⟨rfl, rfl⟩
theorem px_BErk (h : px_BE T T' f y m L) : ∀ j : Nat, j ≤ m → rk (gi T') f j = rk (gi T) 9 j := by
  intro j
  induction j with
  | zero => intro _; rfl
  | succ j ih =>
    intro hj
    rw [rk_s, rk_s, ih (by omega), (h.row (i := j) (by omega)).1]
theorem px_BElst (h : px_BE T T' f y m L) (w : Int) : ∀ j : Nat, j ≤ m → (lstF (gi T) 9 w j = -1 ∧ lstF (gi T') f w j = -1) ∨ ∃ i : Nat, i < j ∧ lstF (gi T) 9 w j = 30 * 9 + i ∧ lstF (gi T') f w j = 30 * f + i := by
  intro j
  induction j with
  | zero => intro _; exact Or.inl ⟨rfl, rfl⟩
  | succ j ih =>
    intro hj
    rw [lstF_s, lstF_s, (h.row (i := j) (by omega)).1]
    by_cases z : gi T 73 (30 * 9 + j) = w
    · rw [if_pos z, if_pos z]
      exact Or.inr ⟨j, by omega, rfl, rfl⟩
    · rw [if_neg z, if_neg z]
      rcases ih (by omega) with a | ⟨i, a, b⟩
      · exact Or.inl a
      · exact Or.inr ⟨i, by omega, b⟩
theorem px_BEns (h : px_BE T T' f y m L) (hf : 0 ≤ f ∧ f ≤ 8) : nsF (gi T') f = m := by
  unfold nsF
  rw [if_neg (by omega), h.2.1.1, if_pos rfl]
theorem px_BEtls (h : px_BE T T' f y m L) (hf : 0 ≤ f ∧ f ≤ 8) (w o : Int) : tls (gi T') f w o = px_tl (gi T) m w o := by
  unfold tls lst px_tl
  rw [px_BEns h hf, show ((m : Int)).toNat = m by omega]
  rcases px_BElst h w m (Nat.le_refl _) with ⟨a, b⟩ | ⟨i, a, b, d⟩
  · rw [if_pos b, if_pos a]
  · rw [b, d, if_neg (by omega), if_neg (by omega), (h.row a).2.1]
/-- code moved is the same code -/
theorem px_BEsgm (h : px_BE T T' f y m L) : ∀ (k : Nat) (a : Int), 13500 ≤ a → a + k ≤ 13500 + L → sgm (gi T') k (a + 1500 * (f - 9)) = sgm (gi T) k a := by
  intro k
  induction k with
  | zero => intro a _ _; rfl
  | succ k ih =>
    intro a h1 h2
    unfold sgm
    have c := h.code (i := (a - 13500).toNat) (by omega)
    rw [show 1500 * f + (((a - 13500).toNat : Nat) : Int) = a + 1500 * (f - 9) by omega, show 13500 + (((a - 13500).toNat : Nat) : Int) = a by omega] at c
    have i := ih (a + 1) (by omega) (by omega)
    rw [show a + 1 + 1500 * (f - 9) = a + 1500 * (f - 9) + 1 by omega] at i
    rw [c.1, c.2, i]
theorem px_BEst (h : px_BE T T' f y m L) (hf : 0 ≤ f ∧ f ≤ 8) (hL : L ≤ 700) {j : Nat} (hj : j < m) (h7 : gi T 73 (30 * 9 + j) = 0 → gi T 77 (30 * 9 + j) - 13500 ≤ L) (hs : StOk (gi T) 9 j) : StOk (gi T') f j := by
  obtain ⟨e3, e4, e5, e6, e7⟩ := h.row hj
  have ek := px_BErk h j (by omega)
  unfold StOk at hs ⊢
  rw [e3, e4, e5, e6, e7, ek]
  refine ⟨hs.1, fun z => ?_, hs.2.2⟩
  have h2 := hs.2.1 z
  have h7 := h7 z
  have g1 := px_BEsgm h (gi T 76 (30 * 9 + j) - gi T 75 (30 * 9 + j)).toNat (gi T 75 (30 * 9 + j)) (by omega) (by omega)
  have g2 := px_BEsgm h (gi T 77 (30 * 9 + j) - gi T 76 (30 * 9 + j)).toNat (gi T 76 (30 * 9 + j)) (by omega) (by omega)
  rw [show gi T 76 (30 * 9 + j) + 1500 * (f - 9) - (gi T 75 (30 * 9 + j) + 1500 * (f - 9)) = gi T 76 (30 * 9 + j) - gi T 75 (30 * 9 + j) by omega, show gi T 77 (30 * 9 + j) + 1500 * (f - 9) - (gi T 76 (30 * 9 + j) + 1500 * (f - 9)) = gi T 77 (30 * 9 + j) - gi T 76 (30 * 9 + j) by omega, g1, g2]
  exact ⟨h2.1, by omega, h2.2.2.1, fun w => h2.2.2.2 (by omega)⟩
theorem px_BEfok (h : px_BE T T' f y m cd.length) (hf : 0 ≤ f ∧ f ≤ 8) (hm : m ≤ 30) (hL : cd.length ≤ 700) (hD : px_DI S T cd m) : FOk (gi T') f := by
  refine ⟨by rw [px_BEns h hf]; omega, fun j hj => ?_⟩
  rw [px_BEns h hf] at hj
  have k := hD.2.2 j (by omega)
  exact px_BEst h hf hL (by omega) (fun z => (k.2 z).2.2.2.2) k.1
/-- the class's new Law is the reference's new formula -/
theorem px_lawR {q : Nat} (h : px_BE T U f y m cd.length) (hf : 0 ≤ f ∧ f ≤ 8) (hm : m ≤ 30) (hL : cd.length ≤ 700) (hC : px_CD S T cd) (hD : px_DI S T cd m) (hS : LwS U q) (h3 : gi U q 3 = m) (h4 : gi U q 4 = rk (gi T) 9 m) (ht : ∀ k, gi U (q + 1) k = gi S 22 k) (h20 : ∀ k, 0 ≤ k → k < (rk (gi T) 9 m : Nat) → gi U (q + 2) k = gi S 20 k) (h19 : ∀ k, 0 ≤ k → k < 2 * ((rk (gi T) 9 m : Nat) : Int) + 1 → gi U (q + 3) k = gi S 19 k) (h18 : ∀ k, 0 ≤ k → k < cd.length → gi U (q + 4) k = gi S 18 k) (hl : gln U (q + 4) 0 = cd.length) : LwR U q f := by
  have en := px_BEns h hf
  have et := fun w o => px_BEtls h hf w o
  have ek := fun j hj => px_BErk h j hj
  refine ⟨hS, ?_, ?_, fun i hi h0 => ?_, fun z => by omega, fun j hj => ?_⟩
  · rw [en, show ((m : Int)).toNat = m by omega, ek m (Nat.le_refl _)]
    exact ⟨h3, h4⟩
  · rw [et, et, et, et, et, et, ht, ht, ht, ht, ht, ht]
    exact hD.2.1
  · rw [en] at hi
    have hi : i < m := by omega
    obtain ⟨e3, e4, e5, e6, e7⟩ := h.row hi
    rw [e3] at h0
    have k := (hD.2.2 i hi).2 h0
    have lt := rk_lt (F := gi T) (f := 9) hi h0
    rw [ek i (by omega), e5, e6, e7, hl, h20 _ (by omega) (by omega), h19 _ (by omega) (by omega), h19 _ (by omega) (by omega), h19 _ (by omega) (by omega), k.1, k.2.1, k.2.2.1, k.2.2.2.1]
    have := k.2.2.2.2
    omega
  · rw [hl] at hj
    have hj : j < cd.length := by omega
    have hx : cd[j]? = some cd[j] := List.getElem?_eq_getElem hj
    have k := hC.2.2 j _ hx
    have c := h.code hj
    rw [c.1, c.2, k.2.2.1, k.2.2.2, h18 _ (by omega) (by omega)]
    exact ⟨k.1.1, k.1.2, k.2.1⟩
end BE
