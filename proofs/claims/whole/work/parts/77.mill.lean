/-! the class's machine for a formula's code -/
theorem gob_c {S S' : gM} (h : S'.2.2 = S.2.2) (q a : Nat) : gob S' q a = gob S q a := by unfold gob gn gsh; rw [h]
theorem gr_c {S S' : gM} (h : S'.2.2 = S.2.2) (q a : Nat) : gr S' q a = gr S q a := by unfold gr; rw [h]
theorem gln_c {S S' : gM} (h : S'.2.2 = S.2.2) (q a : Nat) : gln S' q a = gln S q a := by unfold gln gn gsh; rw [h]
theorem gn_c {S S' : gM} (h : S'.2.2 = S.2.2) : gn S' = gn S := by unfold gn; rw [h]
theorem gs_c {S S' : gM} (h : S'.2.2 = S.2.2) : gs S' = gs S := by unfold gs; rw [h]
/-- a cell that holds a Law, with its arrays behind it -/
def LwS (S : gM) (q : Nat) : Prop := gob S q 1 = true ∧ (gr S q 5 = some (q + 1) ∧ gr S q 6 = some (q + 2) ∧ gr S q 7 = some (q + 3) ∧ gr S q 8 = some (q + 4)) ∧ gln S (q + 1) 0 = 6 ∧ gln S (q + 2) 0 = gi S q 4 ∧ gln S (q + 3) 0 = 2 * gi S q 4 + 1 ∧ (0 ≤ gln S (q + 4) 0 ∧ gln S (q + 4) 0 ≤ 700) ∧ (0 ≤ gi S q 4 ∧ gi S q 4 ≤ 30) ∧ (q = 24 ∨ (103 ≤ q ∧ q + 4 < 1000000000))
theorem rg_law {q : Nat} (h : q = 24 ∨ (103 ≤ q ∧ q + 4 < 1000000000)) (j : Nat) (hj : j ≤ 4) (k : Int) : scr.contains (rg (q + j) k) = false := by
  rcases h with h | h
  · subst h
    have : j = 0 ∨ j = 1 ∨ j = 2 ∨ j = 3 ∨ j = 4 := by omega
    rcases this with z | z | z | z | z <;> subst z <;> rfl
  · rw [rg_big (by omega)]; exact scr_big (by omega) (by omega)
theorem Sc.law {S S' : gM} (h : Sc S S') {q : Nat} (hq : q = 24 ∨ (103 ≤ q ∧ q + 4 < 1000000000)) (j : Nat) (hj : j ≤ 4) (k : Int) : gi S' (q + j) k = gi S (q + j) k := h.i (rg_law hq j hj k)
theorem LwS.sc {S S' : gM} {q : Nat} (h : LwS S q) (hS : Sc S S') : LwS S' q := by
  have e4 : gi S' q 4 = gi S q 4 := hS.law h.2.2.2.2.2.2.2 0 (by omega) 4
  unfold LwS at *
  rw [gob_c hS.1, gr_c hS.1, gr_c hS.1, gr_c hS.1, gr_c hS.1, gln_c hS.1, gln_c hS.1, gln_c hS.1, gln_c hS.1, e4]
  exact h
/-- a step as the class holds it -/
def cst (k a : Int) : Int := 16 * (if k = 1 then wmp a else a) + kmp k
section ML
variable {S : gM}
theorem g17_l10_w (S0 : gM) {q : Nat} (hq : LwS S0 q) {W L : Int → Int} {s : Int} (hs : 0 ≤ s ∧ s < 12) (hW : ∀ i : Int, 0 ≤ i → i < 10 → gl S0 32 (wmp i) = W i) (hL : ∀ i : Int, 0 ≤ i → i < 30 → gl S0 34 (30 * s + i) = L i) {v : Int} :
    ∀ (k n : Nat) (a c : Int) (st : List Int) (S : gM), k < n → 0 ≤ c → c + k ≤ gln S0 (q + 4) 0 → st.length ≤ 64 → (∀ j : Nat, j < k → (0 ≤ gi S0 78 (a + j) ∧ gi S0 78 (a + j) ≤ 14) ∧ (0 ≤ gi S0 79 (a + j) ∧ gi S0 79 (a + j) ≤ 9999999) ∧ gi S0 (q + 4) (c + j) = cst (gi S0 78 (a + j)) (gi S0 79 (a + j))) →
      ev W L (sgm (gi S0) k a) st = some [v] → Fr [33] S0 S → Stk (gl S 33) st → Wp (fun r => r.1 = v ∧ Fr [33] S0 r.2) (g17_l10 q (c + k) (30 * s) (fun Y50 S51 => g17_j175 Y50 S51) n st.length c S) := by
  intro k
  induction k with
  | zero =>
    intro n a c st S hn h0 h1 h2 hC he hF hst
    cases n with
    | zero => omega
    | succ n =>
      dsimp only [g17_l10]
      rw [if_pos (by omega)]
      have he : some st = some [v] := he
      cases he
      unfold g17_j175
      rw [if_neg (by simp), lt_t]
      exact p_some ⟨hst.1, hF⟩
  | succ k ih =>
    intro n a c st S hn h0 h1 h2 hC he hF hst
    cases n with
    | zero => omega
    | succ n =>
      dsimp only [g17_l10]
      have q1 : gob S q 1 = true := by rw [gob_c hF.1]; exact hq.1
      have q2 : gr S q 8 = some (q + 4) := by rw [gr_c hF.1]; exact hq.2.1.2.2.2
      have q3 : gln S (q + 4) 0 = gln S0 (q + 4) 0 := gln_c hF.1 _ _
      have hlen := hq.2.2.2.2.2.1
      have eC : gi S (q + 4) c = gi S0 (q + 4) c := (hF.mono (W' := scr) rfl).i (rg_law hq.2.2.2.2.2.2.2 4 (by omega) c)
      have e32 : ∀ i, gl S 32 i = gl S0 32 i := fun i => hF.l rfl
      have e34 : ∀ i, gl S 34 i = gl S0 34 i := fun i => hF.l rfl
      have hc0 := hC 0 (by omega)
      rw [show a + ((0 : Nat) : Int) = a by omega, show c + ((0 : Nat) : Int) = c by omega] at hc0
      have hwm : 0 ≤ wmp (gi S0 79 a) ∧ wmp (gi S0 79 a) ≤ 9999999 := by unfold wmp; split <;> (try split) <;> (try split) <;> omega
      have hkm : 0 ≤ kmp (gi S0 78 a) ∧ kmp (gi S0 78 a) ≤ 14 ∧ (gi S0 78 a ≤ 2 → kmp (gi S0 78 a) = gi S0 78 a) ∧ (gi S0 78 a = 14 → kmp (gi S0 78 a) = 14) ∧ (2 < gi S0 78 a → 2 < kmp (gi S0 78 a)) ∧ (¬ gi S0 78 a = 14 → ¬ kmp (gi S0 78 a) = 14) := by unfold kmp; split <;> (try split) <;> omega
      have hac : 0 ≤ (if gi S0 78 a = 1 then wmp (gi S0 79 a) else gi S0 79 a) ∧ (if gi S0 78 a = 1 then wmp (gi S0 79 a) else gi S0 79 a) ≤ 9999999 := by split <;> omega
      have hst16 : 0 ≤ cst (gi S0 78 a) (gi S0 79 a) ∧ cst (gi S0 78 a) (gi S0 79 a) ≤ 160000000 ∧ cst (gi S0 78 a) (gi S0 79 a) % 16 = kmp (gi S0 78 a) ∧ cst (gi S0 78 a) (gi S0 79 a) / 16 = (if gi S0 78 a = 1 then wmp (gi S0 79 a) else gi S0 79 a) := by unfold cst; omega
      have hi : c + ((k + 1 : Nat) : Int) = c + 1 + k := by omega
      rw [hi]
      rw [if_neg (by omega), chk_t q1, chk_t q2, q3, chk_t hlen.1, chk_t (by omega), if_neg (by omega), chk_t q1, chk_t q2, chk_t hlen.1, chk_t (by omega), lt_t, eC, hc0.2.2, td_pos hst16.1, ckI_t (by omega), lt_t, tm_pos hst16.1, chk_t q1, chk_t q2, chk_t hlen.1, chk_t (by omega), lt_t, td_pos hst16.1, ckI_t (by omega), hst16.2.2.1, hst16.2.2.2]
      have hC' : ∀ j : Nat, j < k → (0 ≤ gi S0 78 (a + 1 + j) ∧ gi S0 78 (a + 1 + j) ≤ 14) ∧ (0 ≤ gi S0 79 (a + 1 + j) ∧ gi S0 79 (a + 1 + j) ≤ 9999999) ∧ gi S0 (q + 4) (c + 1 + j) = cst (gi S0 78 (a + 1 + j)) (gi S0 79 (a + 1 + j)) := by
        intro j hj
        have := hC (j + 1) (by omega)
        rw [show a + ((j + 1 : Nat) : Int) = a + 1 + j by omega, show c + ((j + 1 : Nat) : Int) = c + 1 + j by omega] at this
        exact this
      unfold sgm at he
      rw [ev] at he
      dsimp only at he
      have push : ∀ x : Int, st.length < 64 → g18 (kmp (gi S0 78 a)) (if gi S0 78 a = 1 then wmp (gi S0 79 a) else gi S0 79 a) (30 * s) S = some (x, S) → ev W L (sgm (gi S0) k (a + 1)) (x :: st) = some [v] → Wp (fun r => r.1 = v ∧ Fr [33] S0 r.2) (if (st.length : Int) < 64 then w_ckI ((st.length : Int) + 1) fun V45 => (g18 (kmp (gi S0 78 a)) (if gi S0 78 a = 1 then wmp (gi S0 79 a) else gi S0 79 a) (30 * s) S).bind fun p46 => w_chk ((0 : Int) ≤ (st.length : Int) ∧ (st.length : Int) < 64) <| w_lt (wl p46.2 33 st.length p46.1) fun S48 => w_ckI (c + 1) fun V49 => g17_l10 q (c + 1 + k) (30 * s) (fun Y50 S51 => g17_j175 Y50 S51) n V45 V49 S48 else some (0, S)) := by
        intro x hl hx hxe
        rw [if_pos (by omega), ckI_t (by omega), hx, ob_s]
        dsimp only
        repeat (first | (with_reducible refine p_chk ?_ ?_; (· (first | omega | (simp only [gi_wi, gl_wl, gl_wi, gi_wl, gi_wcl, gl_wcl, Nat.reduceEqDiff, Int.reduceEq, false_and, true_and, and_true, and_false, if_false, if_true]; omega)))) | with_reducible refine p_lt ?_ | (with_reducible refine p_ckI ?_ ?_; (· (first | omega | (simp only [gi_wi, gl_wl, gl_wi, gi_wl, gi_wcl, gl_wcl, Nat.reduceEqDiff, Int.reduceEq, false_and, true_and, and_true, and_false, if_false, if_true]; omega)))) | (with_reducible refine p_ckJ ?_ ?_; (· (first | omega | (simp only [gi_wi, gl_wl, gl_wi, gi_wl, gi_wcl, gl_wcl, Nat.reduceEqDiff, Int.reduceEq, false_and, true_and, and_true, and_false, if_false, if_true]; omega)))))
        have := ih n (a + 1) (c + 1) (x :: st) (wl S 33 st.length x) (by omega) (by omega) (by omega) (by rw [List.length_cons]; omega) hC' hxe (hF.wl rfl) ⟨if_pos ⟨rfl, rfl⟩, Stk_c hst (fun i a b => if_neg (fun z => by omega))⟩
        rw [List.length_cons] at this
        exact this
      by_cases c0 : gi S0 78 a = 0
      · rw [if_pos c0] at he
        rw [if_neg (by omega)]
        split at he
        · rename_i hc
          refine push _ hc.1 ?_ he
          unfold g18
          rw [if_neg (by omega), if_neg (by omega)]
        · cases he
      rw [if_neg c0] at he
      by_cases c1 : gi S0 78 a = 1
      · rw [if_pos c1] at he
        rw [if_neg (by omega)]
        split at he
        · rename_i hc
          refine push _ hc.1 ?_ he
          have hw10 : 0 ≤ wmp (gi S0 79 a) ∧ wmp (gi S0 79 a) < 10 := by unfold wmp; split <;> (try split) <;> (try split) <;> omega
          unfold g18
          rw [if_pos (by omega), if_neg (by omega), if_pos c1, if_neg (by omega), chk_t hw10, lt_t, e32, hW _ hc.2.1 hc.2.2]
        · cases he
      rw [if_neg c1] at he
      by_cases c2 : gi S0 78 a = 2
      · rw [if_pos c2] at he
        rw [if_neg (by omega)]
        split at he
        · rename_i hc
          refine push _ hc.1 ?_ he
          unfold g18
          rw [if_pos (by omega), if_pos (by omega), if_neg c1, ckI_t (by omega), if_neg (by omega), ckI_t (by omega), chk_t (by omega), lt_t, e34, hL _ hc.2.1 hc.2.2]
        · cases he
      rw [if_neg c2] at he
      by_cases c14 : gi S0 78 a = 14
      · rw [if_pos c14] at he
        rw [if_pos (by omega), if_neg (fun z => by omega)]
        cases st with
        | nil => cases he
        | cons x t =>
          dsimp only at he
          rw [List.length_cons] at h2 ⊢
          split at he
          · rename_i hc
            rw [if_pos (by omega), show (((t.length + 1 : Nat)) : Int) - 1 = (t.length : Int) by omega]
            have hx : gl S 33 t.length = x := hst.1
            repeat (first | (with_reducible refine p_chk ?_ ?_; (· (first | omega | (simp only [gi_wi, gl_wl, gl_wi, gi_wl, gi_wcl, gl_wcl, Nat.reduceEqDiff, Int.reduceEq, false_and, true_and, and_true, and_false, if_false, if_true]; omega)))) | with_reducible refine p_lt ?_ | (with_reducible refine p_ckI ?_ ?_; (· (first | omega | (simp only [gi_wi, gl_wl, gl_wi, gi_wl, gi_wcl, gl_wcl, Nat.reduceEqDiff, Int.reduceEq, false_and, true_and, and_true, and_false, if_false, if_true]; omega)))) | (with_reducible refine p_ckJ ?_ ?_; (· (first | omega | (simp only [gi_wi, gl_wl, gl_wi, gi_wl, gi_wcl, gl_wcl, Nat.reduceEqDiff, Int.reduceEq, false_and, true_and, and_true, and_false, if_false, if_true]; omega)))))
            rw [hx]
            repeat (first | (with_reducible refine p_chk ?_ ?_; (· (first | omega | (simp only [gi_wi, gl_wl, gl_wi, gi_wl, gi_wcl, gl_wcl, Nat.reduceEqDiff, Int.reduceEq, false_and, true_and, and_true, and_false, if_false, if_true]; omega)))) | with_reducible refine p_lt ?_ | (with_reducible refine p_ckI ?_ ?_; (· (first | omega | (simp only [gi_wi, gl_wl, gl_wi, gi_wl, gi_wcl, gl_wcl, Nat.reduceEqDiff, Int.reduceEq, false_and, true_and, and_true, and_false, if_false, if_true]; omega)))) | (with_reducible refine p_ckJ ?_ ?_; (· (first | omega | (simp only [gi_wi, gl_wl, gl_wi, gi_wl, gi_wcl, gl_wcl, Nat.reduceEqDiff, Int.reduceEq, false_and, true_and, and_true, and_false, if_false, if_true]; omega)))))
            have := ih n (a + 1) (c + 1) ((1 - x) :: t) (wl S 33 t.length (1 - x)) (by omega) (by omega) (by omega) (by rw [List.length_cons]; omega) hC' he (hF.wl rfl) ⟨if_pos ⟨rfl, rfl⟩, Stk_c hst.2 (fun i a b => if_neg (fun z => by omega))⟩
            rw [List.length_cons] at this
            exact this
          · cases he
      rw [if_neg c14] at he
      cases st with
      | nil => cases he
      | cons y t =>
        cases t with
        | nil => cases he
        | cons x t =>
          dsimp only at he
          rw [List.length_cons, List.length_cons] at h2 ⊢
          split at he
          · rename_i hc
            have hc1 := hc.1
            rw [if_pos (by omega), if_pos (by omega), if_pos (by omega)]
            have hy : gl S 33 ((t.length : Int) + 1) = y := hst.1
            have hx : gl S 33 t.length = x := hst.2.1
            rw [show (((t.length + 1 + 1 : Nat)) : Int) + -1 = (t.length : Int) + 1 by omega]
            repeat (first | (with_reducible refine p_chk ?_ ?_; (· (first | omega | (simp only [gi_wi, gl_wl, gl_wi, gi_wl, gi_wcl, gl_wcl, Nat.reduceEqDiff, Int.reduceEq, false_and, true_and, and_true, and_false, if_false, if_true]; omega)))) | with_reducible refine p_lt ?_ | (with_reducible refine p_ckI ?_ ?_; (· (first | omega | (simp only [gi_wi, gl_wl, gl_wi, gi_wl, gi_wcl, gl_wcl, Nat.reduceEqDiff, Int.reduceEq, false_and, true_and, and_true, and_false, if_false, if_true]; omega)))) | (with_reducible refine p_ckJ ?_ ?_; (· (first | omega | (simp only [gi_wi, gl_wl, gl_wi, gi_wl, gi_wcl, gl_wcl, Nat.reduceEqDiff, Int.reduceEq, false_and, true_and, and_true, and_false, if_false, if_true]; omega)))))
            rw [show (t.length : Int) + 1 - 1 = (t.length : Int) by omega]
            repeat (first | (with_reducible refine p_chk ?_ ?_; (· (first | omega | (simp only [gi_wi, gl_wl, gl_wi, gi_wl, gi_wcl, gl_wcl, Nat.reduceEqDiff, Int.reduceEq, false_and, true_and, and_true, and_false, if_false, if_true]; omega)))) | with_reducible refine p_lt ?_ | (with_reducible refine p_ckI ?_ ?_; (· (first | omega | (simp only [gi_wi, gl_wl, gl_wi, gi_wl, gi_wcl, gl_wcl, Nat.reduceEqDiff, Int.reduceEq, false_and, true_and, and_true, and_false, if_false, if_true]; omega)))) | (with_reducible refine p_ckJ ?_ ?_; (· (first | omega | (simp only [gi_wi, gl_wl, gl_wi, gi_wl, gi_wcl, gl_wcl, Nat.reduceEqDiff, Int.reduceEq, false_and, true_and, and_true, and_false, if_false, if_true]; omega)))))
            rw [hx, hy]
            refine p_call (g19_eq hc) ?_
            dsimp only
            repeat (first | (with_reducible refine p_chk ?_ ?_; (· (first | omega | (simp only [gi_wi, gl_wl, gl_wi, gi_wl, gi_wcl, gl_wcl, Nat.reduceEqDiff, Int.reduceEq, false_and, true_and, and_true, and_false, if_false, if_true]; omega)))) | with_reducible refine p_lt ?_ | (with_reducible refine p_ckI ?_ ?_; (· (first | omega | (simp only [gi_wi, gl_wl, gl_wi, gi_wl, gi_wcl, gl_wcl, Nat.reduceEqDiff, Int.reduceEq, false_and, true_and, and_true, and_false, if_false, if_true]; omega)))) | (with_reducible refine p_ckJ ?_ ?_; (· (first | omega | (simp only [gi_wi, gl_wl, gl_wi, gi_wl, gi_wcl, gl_wcl, Nat.reduceEqDiff, Int.reduceEq, false_and, true_and, and_true, and_false, if_false, if_true]; omega)))))
            have := ih n (a + 1) (c + 1) (bth (gi S0 78 a) x y :: t) (wl S 33 t.length (bth (gi S0 78 a) x y)) (by omega) (by omega) (by omega) (by rw [List.length_cons]; omega) hC' he (hF.wl rfl) ⟨if_pos ⟨rfl, rfl⟩, Stk_c hst.2.2 (fun i a b => if_neg (fun z => by omega))⟩
            rw [List.length_cons] at this
            exact this
          · cases he
theorem g17_w {q : Nat} (hq : LwS S q) {W L : Int → Int} {s a c v : Int} {k : Nat} (hs : 0 ≤ s ∧ s < 12) (hW : ∀ i : Int, 0 ≤ i → i < 10 → gl S 32 (wmp i) = W i) (hL : ∀ i : Int, 0 ≤ i → i < 30 → gl S 34 (30 * s + i) = L i) (h0 : 0 ≤ c) (h1 : c + k ≤ gln S (q + 4) 0) (hC : ∀ j : Nat, j < k → (0 ≤ gi S 78 (a + j) ∧ gi S 78 (a + j) ≤ 14) ∧ (0 ≤ gi S 79 (a + j) ∧ gi S 79 (a + j) ≤ 9999999) ∧ gi S (q + 4) (c + j) = cst (gi S 78 (a + j)) (gi S 79 (a + j))) (he : ev W L (sgm (gi S) k a) [] = some [v]) : Wp (fun r => r.1 = v ∧ Fr [33] S r.2) (g17 q c (c + k) (30 * s) S) := by
  unfold g17
  rw [lt_t, show max 0 c = c by omega]
  have := hq.2.2.2.2.2.1
  exact g17_l10_w S hq hs hW hL k 100000 a c [] S (by omega) h0 h1 (by simp) hC he Fr.refl trivial
end ML
