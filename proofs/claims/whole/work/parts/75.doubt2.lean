/-! doubt: the two searches -/
noncomputable def rbs (t : Int) (V : Nat → Prop) : Nat → Int
  | 0 => -1
  | k + 1 => by classical exact if b_and k (b_xor t (-1)) = 0 ∧ (rbs t V k = -1 ∨ pcn k < pcn (rbs t V k)) ∧ V k then (k : Int) else rbs t V k
noncomputable def cbs (t : Int) (V : Nat → Prop) : Nat → Int
  | 0 => t
  | k + 1 => by classical exact if b_and k (b_xor t (-1)) = 0 ∧ pcn k < pcn (cbs t V k) ∧ V k then (k : Int) else cbs t V k
theorem rbs_t {t : Int} {V : Nat → Prop} {k : Nat} (h : b_and k (b_xor t (-1)) = 0 ∧ (rbs t V k = -1 ∨ pcn k < pcn (rbs t V k)) ∧ V k) : rbs t V (k + 1) = k := by rw [rbs]; exact if_pos h
theorem rbs_f {t : Int} {V : Nat → Prop} {k : Nat} (h : ¬ (b_and k (b_xor t (-1)) = 0 ∧ (rbs t V k = -1 ∨ pcn k < pcn (rbs t V k)) ∧ V k)) : rbs t V (k + 1) = rbs t V k := by rw [rbs]; exact if_neg h
theorem cbs_t {t : Int} {V : Nat → Prop} {k : Nat} (h : b_and k (b_xor t (-1)) = 0 ∧ pcn k < pcn (cbs t V k) ∧ V k) : cbs t V (k + 1) = k := by rw [cbs]; exact if_pos h
theorem cbs_f {t : Int} {V : Nat → Prop} {k : Nat} (h : ¬ (b_and k (b_xor t (-1)) = 0 ∧ pcn k < pcn (cbs t V k) ∧ V k)) : cbs t V (k + 1) = cbs t V k := by rw [cbs]; exact if_neg h
theorem bs_eq {t : Nat} {V : Nat → Prop} (ht : t < 64) (hV : V t) : ∀ k : Nat, k ≤ 64 → (rbs t V k = -1 ∧ cbs t V k = t ∧ k ≤ t) ∨ (rbs t V k = cbs t V k ∧ 0 ≤ rbs t V k ∧ rbs t V k < 64) := by
  intro k
  induction k with
  | zero => intro _; exact Or.inl ⟨rfl, rfl, Nat.zero_le _⟩
  | succ k ih =>
    intro hk
    rcases ih (by omega) with ⟨h1, h2, h3⟩ | ⟨h1, h2, h3⟩
    · by_cases hs : b_and k (b_xor t (-1)) = 0 ∧ V k
      · rw [rbs_t ⟨hs.1, Or.inl h1, hs.2⟩]
        refine Or.inr ⟨?_, by omega, by omega⟩
        by_cases hp : pcn k < pcn t
        · rw [cbs_t ⟨hs.1, by rw [h2]; exact hp, hs.2⟩]
        · have := sub_tab k (by omega) t ht hs.1 (by omega)
          rw [cbs_f (fun z => hp (by have := z.2.1; rw [h2] at this; exact this)), h2, this]
      · rw [rbs_f (fun z => hs ⟨z.1, z.2.2⟩), cbs_f (fun z => hs ⟨z.1, z.2.2⟩)]
        refine Or.inl ⟨h1, h2, ?_⟩
        have : k ≠ t := fun z => by subst z; exact hs ⟨sub_self k ht, hV⟩
        omega
    · by_cases hs : b_and k (b_xor t (-1)) = 0 ∧ pcn k < pcn (cbs t V k) ∧ V k
      · rw [cbs_t hs, rbs_t ⟨hs.1, Or.inr (by rw [h1]; exact hs.2.1), hs.2.2⟩]
        exact Or.inr ⟨rfl, by omega, by omega⟩
      · rw [cbs_f hs, rbs_f (fun z => hs ⟨z.1, by rcases z.2.1 with w | w; omega; rw [h1] at w; exact w, z.2.2⟩)]
        exact Or.inr ⟨h1, h2, h3⟩
theorem cbs_rng {t : Int} {V : Nat → Prop} (ht : 0 ≤ t ∧ t < 64) (k : Nat) (hk : k ≤ 64) : 0 ≤ cbs t V k ∧ cbs t V k < 64 := by
  induction k with
  | zero => exact ht
  | succ k ih =>
    by_cases hs : b_and k (b_xor t (-1)) = 0 ∧ pcn k < pcn (cbs t V k) ∧ V k
    · rw [cbs_t hs]; omega
    · rw [cbs_f hs]; exact ih (by omega)
section DB2
variable {S : gM}
noncomputable def tD (C : Nat → Int → Int) (s y d : Int) : Int := tpt (told6 C s y d) 6
def vD (C : Nat → Int → Int) (s y d t : Int) (f : Nat) : Prop := cB (sd t f 0) (sd t f 1) (sd t f 2) (sd t f 3) (sd t f 4) (sd t f 5) (fun k => own C s y k d)
theorem tD_ok (C : Nat → Int → Int) (s y d : Int) : (0 ≤ tD C s y d ∧ tD C s y d < 64) ∧ ∀ k : Nat, k < 6 → (tb (tD C s y d) k = true ↔ ¬ own C s y k d = -1) := by
  have h := twB_tab (told6 C s y d 0) (told6 C s y d 1) (told6 C s y d 2) (told6 C s y d 3) (told6 C s y d 4) (told6 C s y d 5)
  rw [← tpt_6] at h
  refine ⟨h.1, fun k hk => ?_⟩
  have e : tb (tD C s y d) k = told6 C s y d k := by
    have : k = 0 ∨ k = 1 ∨ k = 2 ∨ k = 3 ∨ k = 4 ∨ k = 5 := by omega
    rcases this with z | z | z | z | z | z <;> subst z
    · exact h.2.1
    · exact h.2.2.1
    · exact h.2.2.2.1
    · exact h.2.2.2.2.1
    · exact h.2.2.2.2.2.1
    · exact h.2.2.2.2.2.2
  rw [e]
  unfold told6
  exact decide_eq_true_iff
theorem vD_t (C : Nat → Int → Int) (s y d : Int) (t : Nat) : vD C s y d t t := by
  have e : ∀ k, sd t t k = false := fun k => by unfold sd; cases tb (t : Int) k <;> rfl
  unfold vD cB
  rw [e, e, e, e, e, e]
  simp
theorem sd_tb (t f : Int) (k : Nat) (hk : k < 32) : tb (b_and t (b_xor f (-1))) k = sd t f k := by rw [tb_and, tb_not f k hk]; rfl
theorem g100_l37_eq (hm : MarkI S) (s y t : Int) (hs : 0 ≤ s ∧ s < 12) (hy : 0 ≤ y ∧ y < 10) (ht : 0 ≤ t ∧ t < 64) : g100_l37 s y t 100000 t 0 S = some (cbs t (vD (cor S) s y (gi S 0 10) t) 64, S) := by
  refine upto 64 (fun n k => g100_l37 s y t n (cbs t (vD (cor S) s y (gi S 0 10) t) k) k S = some (cbs t (vD (cor S) s y (gi S 0 10) t) 64, S)) ?_ 100000 0 (by omega) (by omega)
  intro n k hk ih
  dsimp only [g100_l37]
  have hb := cbs_rng (V := vD (cor S) s y (gi S 0 10) t) ht k hk
  by_cases hc : 64 ≤ (k : Int)
  · rw [if_pos hc, show k = 64 by omega]
  · rw [if_neg hc, g198_eq _ _ (by omega), ob_s, g198_eq _ _ hb, ob_s]
    dsimp only
    have ih := ih (by omega)
    have jn : ∀ x : Int, (x = 0 → ¬ pcn k < pcn (cbs t (vD (cor S) s y (gi S 0 10) t) k)) → (¬ x = 0 → pcn k < pcn (cbs t (vD (cor S) s y (gi S 0 10) t) k)) → g100_j62 (g100_l37 s y t n) s y t (cbs t (vD (cor S) s y (gi S 0 10) t) k) k x S = some (cbs t (vD (cor S) s y (gi S 0 10) t) 64, S) := by
      intro x h0 h1
      unfold g100_j62
      rw [lt_t, lt_t]
      by_cases hsb : b_and k (b_xor t (-1)) = 0
      · rw [if_neg (fun z => z hsb)]
        by_cases hx : x = 0
        · rw [if_pos hx, ckI_t (by omega)]
          rw [cbs_f (fun z => h0 hx z.2.1)] at ih
          exact ih
        · rw [if_neg hx, lt_t, lt_t, lt_t, g15_eq hm s y (gi S 0 10) _ hs hy (and_rng t _ ht), ob_s]
          dsimp only
          rw [sd_tb t k 0 (by omega), sd_tb t k 1 (by omega), sd_tb t k 2 (by omega), sd_tb t k 3 (by omega), sd_tb t k 4 (by omega), sd_tb t k 5 (by omega), show cB (sd t k 0) (sd t k 1) (sd t k 2) (sd t k 3) (sd t k 4) (sd t k 5) (fun j => own (cor S) s y j (gi S 0 10)) = vD (cor S) s y (gi S 0 10) t k from rfl]
          by_cases hv : vD (cor S) s y (gi S 0 10) t k
          · rw [if_neg (by rw [one_t (c := _) hv]; decide), ckI_t (by omega)]
            rw [cbs_t ⟨hsb, h1 hx, hv⟩] at ih
            exact ih
          · rw [if_pos (by rw [one_f (c := _) hv]), ckI_t (by omega)]
            rw [cbs_f (fun z => hv z.2.2)] at ih
            exact ih
      · rw [if_pos hsb, ckI_t (by omega)]
        rw [cbs_f (fun z => hsb z.1)] at ih
        exact ih
    by_cases hp : pcn (cbs t (vD (cor S) s y (gi S 0 10) t) k) ≤ pcn k
    · rw [if_pos hp]; exact jn 0 (fun _ => by omega) (fun z => absurd rfl z)
    · rw [if_neg hp]; exact jn 1 (fun z => absurd z (by decide)) (fun _ => by omega)
noncomputable def dbV (C : Nat → Int → Int) (s y d : Int) : Int := cbs (tD C s y d) (vD C s y d (tD C s y d)) 64
def c_dbt (n s y : Int) : Prop := (0 ≤ s ∧ s < n) ∧ (0 ≤ y ∧ y < 10)
theorem g100_w (hm : MarkI S) (hn : gi S 1 7 ≤ 12) (s y : Int) : Wp (Two (c_dbt (gi S 1 7) s y) (dbV (cor S) s y (gi S 0 10)) S (-1) S) (g100 s y S) := by
  unfold g100 c_dbt
  repeat' (first | (with_reducible refine p_chk ?_ ?_; (· (first | omega | (simp only [gi_wi, gl_wl, gl_wi, gi_wl, gi_wcl, gl_wcl, Nat.reduceEqDiff, Int.reduceEq, false_and, true_and, and_true, and_false, if_false, if_true]; omega)))) | with_reducible refine p_lt ?_ | (with_reducible refine p_ckI ?_ ?_; (· (first | omega | (simp only [gi_wi, gl_wl, gl_wi, gi_wl, gi_wcl, gl_wcl, Nat.reduceEqDiff, Int.reduceEq, false_and, true_and, and_true, and_false, if_false, if_true]; omega)))) | (with_reducible refine p_ckJ ?_ ?_; (· (first | omega | (simp only [gi_wi, gl_wl, gl_wi, gi_wl, gi_wcl, gl_wcl, Nat.reduceEqDiff, Int.reduceEq, false_and, true_and, and_true, and_false, if_false, if_true]; omega)))) | (with_reducible refine p_call (g102_eq _ _) ?_; try dsimp only) | (with_reducible refine p_call (g103_eq _) ?_; try dsimp only) | (with_reducible refine p_call (g104_eq _) ?_; try dsimp only) | (with_reducible refine p_call (g105_eq _) ?_; try dsimp only) | (with_reducible refine p_call (g112_eq _ _ _) ?_; try dsimp only) | (with_reducible refine p_call (g113_eq _) ?_; try dsimp only) | (with_reducible refine p_call (g114_eq _) ?_; try dsimp only) | (with_reducible refine p_call (g115_eq _) ?_; try dsimp only) | (with_reducible refine p_call (g116_eq _ ?_) ?_; (· (first | omega | (simp only [gi_wi, gl_wl, gl_wi, gi_wl, gi_wcl, gl_wcl, Nat.reduceEqDiff, Int.reduceEq, false_and, true_and, and_true, and_false, if_false, if_true]; omega))); try dsimp only) | (with_reducible refine p_call (g118_eq ?_) ?_; (· (first | omega | (simp only [gi_wi, gl_wl, gl_wi, gi_wl, gi_wcl, gl_wcl, Nat.reduceEqDiff, Int.reduceEq, false_and, true_and, and_true, and_false, if_false, if_true]; omega))); try dsimp only) | (with_reducible refine p_call (g106_eq _ ?_) ?_; (· (first | omega | (simp only [gi_wi, gl_wl, gl_wi, gi_wl, gi_wcl, gl_wcl, Nat.reduceEqDiff, Int.reduceEq, false_and, true_and, and_true, and_false, if_false, if_true]; omega))); try dsimp only) | (with_reducible refine p_call (g2_eq _ _ ?_ ?_) ?_; (· (first | omega | (simp only [gi_wi, gl_wl, gl_wi, gi_wl, gi_wcl, gl_wcl, Nat.reduceEqDiff, Int.reduceEq, false_and, true_and, and_true, and_false, if_false, if_true]; omega))); (· (first | omega | (simp only [gi_wi, gl_wl, gl_wi, gi_wl, gi_wcl, gl_wcl, Nat.reduceEqDiff, Int.reduceEq, false_and, true_and, and_true, and_false, if_false, if_true]; omega))); try dsimp only) | (with_reducible refine p_call (g3_eq _ ?_) ?_; (· (first | omega | (simp only [gi_wi, gl_wl, gl_wi, gi_wl, gi_wcl, gl_wcl, Nat.reduceEqDiff, Int.reduceEq, false_and, true_and, and_true, and_false, if_false, if_true]; omega))); try dsimp only) | (with_reducible refine p_call (g122_eq _ _ ?_) ?_; (· (first | omega | (simp only [gi_wi, gl_wl, gl_wi, gi_wl, gi_wcl, gl_wcl, Nat.reduceEqDiff, Int.reduceEq, false_and, true_and, and_true, and_false, if_false, if_true]; omega))); try dsimp only) | (with_reducible refine p_call (g58_eq) ?_; try dsimp only) | with_reducible refine p_if1 (fun _ => ?_) (fun _ => ?_) | with_reducible refine p_if1n (fun _ => ?_) (fun _ => ?_) | with_reducible refine p_if (fun _ => ?_) (fun _ => ?_))
  all_goals first | exact p_some ⟨fun z => absurd z (by omega), fun _ => rfl⟩ | skip
  refine p_call (g14_eq hm s y _ (by omega) (by omega)) ?_
  dsimp only
  have ht := tD_ok (cor S) s y (gi S 0 10)
  exact ⟨_, g100_l37_eq hm s y (tD (cor S) s y (gi S 0 10)) (by omega) (by omega) ht.1, fun _ => rfl, fun z => absurd (by omega) z⟩
theorem g195_l22_w {Q : Int × gM → Prop} {K : Int → gM → Option (Int × gM)} (S0 : gM) (hm : MarkI S0) (s y : Int) (hs : 0 ≤ s ∧ s < 12) (hy : 0 ≤ y ∧ y < 10) (hK : ∀ S, Fr [102] S0 S → (∀ k : Int, 0 ≤ k → k < 6 → gi S 102 k = own (cor S0) s y k (gi S0 55 0)) → Wp Q (K (tD (cor S0) s y (gi S0 55 0)) S)) :
    ∀ n k : Nat, k ≤ 6 → 6 - k < n → ∀ S, Fr [102] S0 S → (∀ j : Int, 0 ≤ j → j < k → gi S 102 j = own (cor S0) s y j (gi S0 55 0)) → Wp Q (g195_l22 s y K n (tpt (told6 (cor S0) s y (gi S0 55 0)) k) k S) := by
  refine upto 6 (fun n k => ∀ S, Fr [102] S0 S → (∀ j : Int, 0 ≤ j → j < k → gi S 102 j = own (cor S0) s y j (gi S0 55 0)) → Wp Q (g195_l22 s y K n (tpt (told6 (cor S0) s y (gi S0 55 0)) k) k S)) ?_
  intro n k hk ih S hF hI
  dsimp only [g195_l22]
  refine p_if (fun hc => ?_) (fun hc => ?_)
  · have : k = 6 := by omega
    subst this
    exact hK S hF (fun j h1 h2 => hI j h1 (by omega))
  · have h0 := hm.1
    have e2 : gi S 55 2 = gi S0 55 2 := hF.i rfl
    have e0 : gi S 55 0 = gi S0 55 0 := hF.i rfl
    have ec : cor S = cor S0 := Sc.cE (hF.mono rfl)
    have ih := ih (by omega) (wi S 102 k (own (cor S0) s y k (gi S0 55 0))) (hF.wi rfl) (fun j h1 h2 => by
      rw [gi_wi]
      by_cases hj : j = k
      · rw [if_pos ⟨rfl, hj⟩, hj]
      · rw [if_neg (fun z => hj z.2)]; exact hI j h1 (by omega))
    rw [tpt] at ih
    rw [lt_t, e0]
    refine p_call (g126_eq (by omega) s y k _) ?_
    dsimp only
    rw [ec]
    repeat (first | (with_reducible refine p_chk ?_ ?_; (· (first | omega | (simp only [gi_wi, gl_wl, gl_wi, gi_wl, gi_wcl, gl_wcl, Nat.reduceEqDiff, Int.reduceEq, false_and, true_and, and_true, and_false, if_false, if_true]; omega)))) | with_reducible refine p_lt ?_ | (with_reducible refine p_ckI ?_ ?_; (· (first | omega | (simp only [gi_wi, gl_wl, gl_wi, gi_wl, gi_wcl, gl_wcl, Nat.reduceEqDiff, Int.reduceEq, false_and, true_and, and_true, and_false, if_false, if_true]; omega)))) | (with_reducible refine p_ckJ ?_ ?_; (· (first | omega | (simp only [gi_wi, gl_wl, gl_wi, gi_wl, gi_wcl, gl_wcl, Nat.reduceEqDiff, Int.reduceEq, false_and, true_and, and_true, and_false, if_false, if_true]; omega)))))
    rw [show gi (wi S 102 k (own (cor S0) s y k (gi S0 55 0))) 102 k = own (cor S0) s y k (gi S0 55 0) from if_pos ⟨rfl, rfl⟩]
    refine p_if (fun hd => ?_) (fun hd => ?_)
    · rw [if_pos (by unfold told6; simp [hd])] at ih
      repeat (first | (with_reducible refine p_chk ?_ ?_; (· (first | omega | (simp only [gi_wi, gl_wl, gl_wi, gi_wl, gi_wcl, gl_wcl, Nat.reduceEqDiff, Int.reduceEq, false_and, true_and, and_true, and_false, if_false, if_true]; omega)))) | with_reducible refine p_lt ?_ | (with_reducible refine p_ckI ?_ ?_; (· (first | omega | (simp only [gi_wi, gl_wl, gl_wi, gi_wl, gi_wcl, gl_wcl, Nat.reduceEqDiff, Int.reduceEq, false_and, true_and, and_true, and_false, if_false, if_true]; omega)))) | (with_reducible refine p_ckJ ?_ ?_; (· (first | omega | (simp only [gi_wi, gl_wl, gl_wi, gi_wl, gi_wcl, gl_wcl, Nat.reduceEqDiff, Int.reduceEq, false_and, true_and, and_true, and_false, if_false, if_true]; omega)))))
      exact ih
    · have hd := Classical.not_not.mp hd
      rw [if_neg (by unfold told6; simp [hd])] at ih
      rw [lt_t, b_or0 _ (tpt_rng _ _)]
      repeat (first | (with_reducible refine p_chk ?_ ?_; (· (first | omega | (simp only [gi_wi, gl_wl, gl_wi, gi_wl, gi_wcl, gl_wcl, Nat.reduceEqDiff, Int.reduceEq, false_and, true_and, and_true, and_false, if_false, if_true]; omega)))) | with_reducible refine p_lt ?_ | (with_reducible refine p_ckI ?_ ?_; (· (first | omega | (simp only [gi_wi, gl_wl, gl_wi, gi_wl, gi_wcl, gl_wcl, Nat.reduceEqDiff, Int.reduceEq, false_and, true_and, and_true, and_false, if_false, if_true]; omega)))) | (with_reducible refine p_ckJ ?_ ?_; (· (first | omega | (simp only [gi_wi, gl_wl, gl_wi, gi_wl, gi_wcl, gl_wcl, Nat.reduceEqDiff, Int.reduceEq, false_and, true_and, and_true, and_false, if_false, if_true]; omega)))))
      exact ih
theorem g195_l82_eq (s y d t : Int) (C : Nat → Int → Int) (h102 : ∀ k : Int, 0 ≤ k → k < 6 → gi S 102 k = own C s y k d) (hr : ∀ k : Nat, k < 6 → -1 ≤ own C s y k d ∧ own C s y k d ≤ 9999) (ht : ∀ k : Nat, k < 6 → (tb t k = true ↔ ¬ own C s y k d = -1)) (ht2 : 0 ≤ t ∧ t < 64) : g195_l82 t 100000 (-1) 0 S = some (rbs t (vD C s y d t) 64, S) := by
  have hrb : ∀ k : Nat, k ≤ 64 → -1 ≤ rbs t (vD C s y d t) k ∧ rbs t (vD C s y d t) k < 64 := by
    intro k
    induction k with
    | zero => intro _; unfold rbs; omega
    | succ k ih =>
      intro hk
      by_cases h : b_and k (b_xor t (-1)) = 0 ∧ (rbs t (vD C s y d t) k = -1 ∨ pcn k < pcn (rbs t (vD C s y d t) k)) ∧ vD C s y d t k
      · rw [rbs_t h]; omega
      · rw [rbs_f h]; exact ih (by omega)
  refine upto 64 (fun n k => g195_l82 t n (rbs t (vD C s y d t) k) k S = some (rbs t (vD C s y d t) 64, S)) ?_ 100000 0 (by omega) (by omega)
  intro n k hk ih
  dsimp only [g195_l82]
  have hb := hrb k hk
  by_cases hc : 64 ≤ (k : Int)
  · rw [if_pos hc, show k = 64 by omega]
  · rw [if_neg hc, lt_t, lt_t]
    have ih := ih (by omega)
    have jn : b_and k (b_xor t (-1)) = 0 → (rbs t (vD C s y d t) k = -1 ∨ pcn k < pcn (rbs t (vD C s y d t) k)) → g195_j117 (g195_l82 t n) t (rbs t (vD C s y d t) k) k S = some (rbs t (vD C s y d t) 64, S) := by
      intro h1 h2
      unfold g195_j117
      rw [g193_eq (fun k => own C s y k d) t k h102 hr ht, ob_s]
      dsimp only
      rw [show cB (sd t k 0) (sd t k 1) (sd t k 2) (sd t k 3) (sd t k 4) (sd t k 5) (fun j => own C s y j d) = vD C s y d t k from rfl]
      by_cases hv : vD C s y d t k
      · rw [if_neg (by rw [one_t (c := _) hv]; decide), ckI_t (by omega)]
        rw [rbs_t ⟨h1, h2, hv⟩] at ih
        exact ih
      · rw [if_pos (by rw [one_f (c := _) hv]), ckI_t (by omega)]
        rw [rbs_f (fun z => hv z.2.2)] at ih
        exact ih
    by_cases hsb : b_and k (b_xor t (-1)) = 0
    · rw [if_neg (fun z => z hsb)]
      by_cases h1 : rbs t (vD C s y d t) k = -1
      · rw [if_pos h1]; exact jn hsb (Or.inl h1)
      · rw [if_neg h1, g194_eq _ _ (by omega), ob_s, g194_eq _ _ (by omega), ob_s]
        dsimp only
        by_cases hp : pcn (rbs t (vD C s y d t) k) ≤ pcn k
        · rw [if_pos hp, ckI_t (by omega)]
          rw [rbs_f (fun z => by rcases z.2.1 with w | w; exact h1 w; omega)] at ih
          exact ih
        · rw [if_neg hp]; exact jn hsb (Or.inr (by omega))
    · rw [if_pos hsb, ckI_t (by omega)]
      rw [rbs_f (fun z => hsb z.1)] at ih
      exact ih
theorem g195_w (hm : MarkI S) (hn : 0 ≤ gi S 55 1 ∧ gi S 55 1 ≤ 12) (s y : Int) : Wp (fun r => (c_dbt (gi S 55 1) s y → r.1 = dbV (cor S) s y (gi S 55 0)) ∧ (¬ c_dbt (gi S 55 1) s y → r.1 = -1) ∧ Fr [102] S r.2) (g195 s y S) := by
  unfold g195 c_dbt
  repeat' (first | (with_reducible refine p_chk ?_ ?_; (· (first | omega | (simp only [gi_wi, gl_wl, gl_wi, gi_wl, gi_wcl, gl_wcl, Nat.reduceEqDiff, Int.reduceEq, false_and, true_and, and_true, and_false, if_false, if_true]; omega)))) | with_reducible refine p_lt ?_ | (with_reducible refine p_ckI ?_ ?_; (· (first | omega | (simp only [gi_wi, gl_wl, gl_wi, gi_wl, gi_wcl, gl_wcl, Nat.reduceEqDiff, Int.reduceEq, false_and, true_and, and_true, and_false, if_false, if_true]; omega)))) | (with_reducible refine p_ckJ ?_ ?_; (· (first | omega | (simp only [gi_wi, gl_wl, gl_wi, gi_wl, gi_wcl, gl_wcl, Nat.reduceEqDiff, Int.reduceEq, false_and, true_and, and_true, and_false, if_false, if_true]; omega)))) | (with_reducible refine p_call (g102_eq _ _) ?_; try dsimp only) | (with_reducible refine p_call (g103_eq _) ?_; try dsimp only) | (with_reducible refine p_call (g104_eq _) ?_; try dsimp only) | (with_reducible refine p_call (g105_eq _) ?_; try dsimp only) | (with_reducible refine p_call (g112_eq _ _ _) ?_; try dsimp only) | (with_reducible refine p_call (g113_eq _) ?_; try dsimp only) | (with_reducible refine p_call (g114_eq _) ?_; try dsimp only) | (with_reducible refine p_call (g115_eq _) ?_; try dsimp only) | (with_reducible refine p_call (g116_eq _ ?_) ?_; (· (first | omega | (simp only [gi_wi, gl_wl, gl_wi, gi_wl, gi_wcl, gl_wcl, Nat.reduceEqDiff, Int.reduceEq, false_and, true_and, and_true, and_false, if_false, if_true]; omega))); try dsimp only) | (with_reducible refine p_call (g118_eq ?_) ?_; (· (first | omega | (simp only [gi_wi, gl_wl, gl_wi, gi_wl, gi_wcl, gl_wcl, Nat.reduceEqDiff, Int.reduceEq, false_and, true_and, and_true, and_false, if_false, if_true]; omega))); try dsimp only) | (with_reducible refine p_call (g106_eq _ ?_) ?_; (· (first | omega | (simp only [gi_wi, gl_wl, gl_wi, gi_wl, gi_wcl, gl_wcl, Nat.reduceEqDiff, Int.reduceEq, false_and, true_and, and_true, and_false, if_false, if_true]; omega))); try dsimp only) | (with_reducible refine p_call (g2_eq _ _ ?_ ?_) ?_; (· (first | omega | (simp only [gi_wi, gl_wl, gl_wi, gi_wl, gi_wcl, gl_wcl, Nat.reduceEqDiff, Int.reduceEq, false_and, true_and, and_true, and_false, if_false, if_true]; omega))); (· (first | omega | (simp only [gi_wi, gl_wl, gl_wi, gi_wl, gi_wcl, gl_wcl, Nat.reduceEqDiff, Int.reduceEq, false_and, true_and, and_true, and_false, if_false, if_true]; omega))); try dsimp only) | (with_reducible refine p_call (g3_eq _ ?_) ?_; (· (first | omega | (simp only [gi_wi, gl_wl, gl_wi, gi_wl, gi_wcl, gl_wcl, Nat.reduceEqDiff, Int.reduceEq, false_and, true_and, and_true, and_false, if_false, if_true]; omega))); try dsimp only) | (with_reducible refine p_call (g122_eq _ _ ?_) ?_; (· (first | omega | (simp only [gi_wi, gl_wl, gl_wi, gi_wl, gi_wcl, gl_wcl, Nat.reduceEqDiff, Int.reduceEq, false_and, true_and, and_true, and_false, if_false, if_true]; omega))); try dsimp only) | (with_reducible refine p_call (g58_eq) ?_; try dsimp only) | with_reducible refine p_if1 (fun _ => ?_) (fun _ => ?_) | with_reducible refine p_if1n (fun _ => ?_) (fun _ => ?_) | with_reducible refine p_if (fun _ => ?_) (fun _ => ?_))
  all_goals first | exact p_some ⟨fun z => absurd z (by omega), fun _ => rfl, Fr.refl⟩ | skip
  refine g195_l22_w S hm s y (by omega) (by omega) ?_ 100000 0 (by omega) (by omega) S Fr.refl (fun j h1 h2 => by omega)
  intro S2 hF h102
  have ht := tD_ok (cor S) s y (gi S 55 0)
  have e := g195_l82_eq (S := S2) s y (gi S 55 0) (tD (cor S) s y (gi S 55 0)) (cor S) h102 (fun k _ => hm.rng s y k _) ht.2 ht.1
  refine ⟨_, e, fun _ => ?_, fun z => absurd (by omega) z, hF⟩
  unfold dbV
  have tn : ((tD (cor S) s y (gi S 55 0)).toNat : Int) = tD (cor S) s y (gi S 55 0) := by omega
  have hV := vD_t (cor S) s y (gi S 55 0) (tD (cor S) s y (gi S 55 0)).toNat
  rw [tn] at hV
  have b := bs_eq (t := (tD (cor S) s y (gi S 55 0)).toNat) (V := vD (cor S) s y (gi S 55 0) (tD (cor S) s y (gi S 55 0))) (by omega) hV 64 (Nat.le_refl _)
  rw [tn] at b
  rcases b with b | b
  · omega
  · exact b.1
end DB2
