/-! a formula's code: what it comes to; both machines for it -/
def okB (k x y : Int) : Prop := (3 ≤ k ∧ k ≤ 13) ∧ (-100000000 ≤ x ∧ x ≤ 100000000) ∧ (-100000000 ≤ y ∧ y ≤ 100000000) ∧ ((k = 12 ∨ k = 13) → (x = 0 ∨ x = 1) ∧ (y = 0 ∨ y = 1))
def hld (x : Int) : Int := max (-100000000) (min 100000000 x)
def bth (k x y : Int) : Int :=
  if k = 3 then hld (x + y) else if k = 4 then hld (x - y) else if k = 5 then hld (x * y) else if k = 6 then (if y = 0 then 0 else x.tdiv y) else if k = 7 then min x y else if k = 8 then max x y
  else if k = 9 then (if x < y then 1 else 0) else if k = 10 then (if y < x then 1 else 0) else if k = 11 then (if x = y then 1 else 0) else if k = 12 then (if 0 < x + y then 1 else 0) else (if x + y = 2 then 1 else 0)
noncomputable def ev (W L : Int → Int) : List (Int × Int) → List Int → Option (List Int)
  | [] => fun st => some st
  | (k, a) :: xs => fun st => by classical exact
    if k = 0 then (if st.length < 64 ∧ 0 ≤ a ∧ a ≤ 9999999 then ev W L xs (a :: st) else none)
    else if k = 1 then (if st.length < 64 ∧ (0 ≤ a ∧ a < 10) then ev W L xs (W a :: st) else none)
    else if k = 2 then (if st.length < 64 ∧ (0 ≤ a ∧ a < 30) then ev W L xs (L a :: st) else none)
    else if k = 14 then (match st with
      | x :: t => if x = 0 ∨ x = 1 then ev W L xs ((1 - x) :: t) else none
      | [] => none)
    else (match st with
      | y :: x :: t => if okB k x y then ev W L xs (bth k x y :: t) else none
      | _ => none)
def sgm (F : Nat → Int → Int) : Nat → Int → List (Int × Int)
  | 0 => fun _ => []
  | k + 1 => fun a => (F 78 a, F 79 a) :: sgm F k (a + 1)
def Stk (g : Int → Int) : List Int → Prop
  | [] => True
  | v :: t => g t.length = v ∧ Stk g t
theorem Stk_c {g g' : Int → Int} : ∀ {st : List Int}, Stk g st → (∀ i : Int, 0 ≤ i → i < st.length → g' i = g i) → Stk g' st := by
  intro st
  induction st with
  | nil => intro _ _; trivial
  | cons v t ih =>
    intro h h2
    refine ⟨(h2 t.length (by omega) (by rw [List.length_cons]; omega)).trans h.1, ih h.2 (fun i a b => h2 i a (by rw [List.length_cons]; omega))⟩
theorem hld_rng (x : Int) : -100000000 ≤ hld x ∧ hld x ≤ 100000000 := by unfold hld; omega
theorem mul_rng {x y : Int} (hx : -100000000 ≤ x ∧ x ≤ 100000000) (hy : -100000000 ≤ y ∧ y ≤ 100000000) : -10000000000000000 ≤ x * y ∧ x * y ≤ 10000000000000000 := by
  have h : (x * y).natAbs ≤ 100000000 * 100000000 := by
    rw [Int.natAbs_mul]
    exact Nat.mul_le_mul (by omega) (by omega)
  omega
theorem tdiv_rng {x y B : Int} (hx : -B ≤ x ∧ x ≤ B) : -B ≤ x.tdiv y ∧ x.tdiv y ≤ B := by
  have h : (x.tdiv y).natAbs ≤ x.natAbs := by
    rw [Int.natAbs_tdiv]
    exact Nat.div_le_self _ _
  omega
theorem bth_rng {k x y : Int} (h : okB k x y) : -100000000 ≤ bth k x y ∧ bth k x y ≤ 100000000 := by
  obtain ⟨h1, h2, h3, -⟩ := h
  unfold bth
  split
  · exact hld_rng _
  split
  · exact hld_rng _
  split
  · exact hld_rng _
  split
  · split
    · omega
    · exact tdiv_rng h2
  split
  · omega
  split
  · omega
  split
  · split <;> omega
  split
  · split <;> omega
  split
  · split <;> omega
  split
  · split <;> omega
  · split <;> omega
section EV2
variable {S : gM}
theorem g167_eq {k x y : Int} (h : okB k x y) : g167 k x y S = some (bth k x y, S) := by
  obtain ⟨h1, h2, h3, h4⟩ := h
  have hm := mul_rng h2 h3
  have hd := tdiv_rng (y := y) h2
  unfold g167 bth
  have k0 : g166 0 S = some (0, S) := rfl
  have k1 : g166 1 S = some (1, S) := rfl
  have k5 : ∀ z : Int, g165 z S = some (hld z, S) := fun z => rfl
  by_cases c : k = 3
  · rw [if_pos c, if_pos c, ckJ_t (by omega), k5]; rfl
  rw [if_neg c, if_neg c]
  by_cases c : k = 4
  · rw [if_pos c, if_pos c, ckJ_t (by omega), k5]; rfl
  rw [if_neg c, if_neg c]
  by_cases c : k = 5
  · rw [if_pos c, if_pos c, ckJ_t (by omega), k5]; rfl
  rw [if_neg c, if_neg c]
  by_cases c : k = 6
  · rw [if_pos c, if_pos c]
    by_cases z : y = 0
    · rw [if_neg (fun w => w z), if_pos z]
    · rw [if_pos z, chk_t z, ckJ_t (by omega), if_neg z]
  rw [if_neg c, if_neg c]
  by_cases c : k = 7
  · rw [if_pos c, if_pos c]; rfl
  rw [if_neg c, if_neg c]
  by_cases c : k = 8
  · rw [if_pos c, if_pos c]; rfl
  rw [if_neg c, if_neg c]
  by_cases c : k = 9
  · rw [if_pos c, if_pos c, k0, k1]
    by_cases z : y ≤ x
    · rw [if_pos z, if_neg (by omega)]; rfl
    · rw [if_neg z, if_pos (by omega)]; rfl
  rw [if_neg c, if_neg c]
  by_cases c : k = 10
  · rw [if_pos c, if_pos c, k0, k1]
    by_cases z : x ≤ y
    · rw [if_pos z, if_neg (by omega)]; rfl
    · rw [if_neg z, if_pos (by omega)]; rfl
  rw [if_neg c, if_neg c]
  by_cases c : k = 11
  · rw [if_pos c, if_pos c, k0, k1]
    by_cases z : x = y
    · rw [if_neg (fun w => w z), if_pos z]; rfl
    · rw [if_pos z, if_neg z]; rfl
  rw [if_neg c, if_neg c]
  by_cases c : k = 12
  · rw [if_pos c, if_pos c, k0, k1, ckJ_t (by omega)]
    by_cases z : x + y ≤ 0
    · rw [if_pos z, if_neg (by omega)]; rfl
    · rw [if_neg z, if_pos (by omega)]; rfl
  rw [if_neg c, if_neg c, k0, k1, ckJ_t (by omega)]
  by_cases z : x + y = 2
  · rw [if_neg (fun w => w z), if_pos z]; rfl
  · rw [if_pos z, if_neg z]; rfl
/-- the class's number of a step's kind -/
def kmp (k : Int) : Int := if k = 12 then 13 else if k = 13 then 12 else k
/-- the class's place of a word -/
def wmp (a : Int) : Int := if a = 3 then 4 else if a = 4 then 5 else if a = 5 then 3 else a
theorem g19_eq {k x y : Int} (h : okB k x y) : g19 (kmp k) x y S = some (bth k x y, S) := by
  obtain ⟨h1, h2, h3, h4⟩ := h
  have hm := mul_rng h2 h3
  have hd := tdiv_rng (y := y) h2
  unfold g19 bth kmp
  by_cases c12 : k = 12
  · have := h4 (Or.inl c12)
    subst c12
    rcases this.1 with a | a <;> rcases this.2 with b | b <;> subst a b <;> rfl
  by_cases c13 : k = 13
  · have := h4 (Or.inr c13)
    subst c13
    rcases this.1 with a | a <;> rcases this.2 with b | b <;> subst a b <;> rfl
  rw [if_neg c12, if_neg c13]
  by_cases c : k = 3
  · rw [if_pos c, if_pos c, ckJ_t (by omega)]; rfl
  rw [if_neg c, if_neg c]
  by_cases c : k = 4
  · rw [if_pos c, if_pos c, ckJ_t (by omega)]; rfl
  rw [if_neg c, if_neg c]
  by_cases c : k = 5
  · rw [if_pos c, if_pos c, ckJ_t (by omega)]; rfl
  rw [if_neg c, if_neg c]
  by_cases c : k = 6
  · rw [if_pos c, if_pos c]
    by_cases z : y = 0
    · rw [if_neg (fun w => w z), if_pos z]
    · rw [if_pos z, chk_t z, ckJ_t (by omega), if_neg z]
  rw [if_neg c, if_neg c]
  by_cases c : k = 7
  · rw [if_pos c, if_pos c]; rfl
  rw [if_neg c, if_neg c]
  by_cases c : k = 8
  · rw [if_pos c, if_pos c]; rfl
  rw [if_neg c, if_neg c]
  by_cases c : k = 9
  · rw [if_pos c, if_pos c]
    by_cases z : y ≤ x
    · rw [if_pos z, if_neg (by omega)]
    · rw [if_neg z, if_pos (by omega)]
  rw [if_neg c, if_neg c]
  by_cases c : k = 10
  · rw [if_pos c, if_pos c]
    by_cases z : x ≤ y
    · rw [if_pos z, if_neg (by omega)]
    · rw [if_neg z, if_pos (by omega)]
  rw [if_neg c, if_neg c]
  have c : k = 11 := by omega
  rw [if_pos c, if_pos c]
  by_cases z : x = y
  · rw [if_neg (fun w => w z), if_pos z]
  · rw [if_pos z, if_neg z]
/-- the reference's machine -/
theorem g168_l6_w (S0 : gM) {W L : Int → Int} {s : Int} (hs : 0 ≤ s ∧ s < 12) (hW : ∀ i : Int, 0 ≤ i → i < 10 → gl S0 82 i = W i) (hL : ∀ i : Int, 0 ≤ i → i < 30 → gl S0 85 (30 * s + i) = L i) {v : Int} :
    ∀ (k n : Nat) (a : Int) (st : List Int) (S : gM), k < n → 0 ≤ a → a + k ≤ 15000 → st.length ≤ 64 → ev W L (sgm (gi S0) k a) st = some [v] → Fr [81] S0 S → Stk (gl S 81) st → Wp (fun r => r.1 = v ∧ Fr [81] S0 r.2) (g168_l6 (a + k) s n st.length a S) := by
  intro k
  induction k with
  | zero =>
    intro n a st S hn h0 h1 h2 he hF hst
    cases n with
    | zero => omega
    | succ n =>
      dsimp only [g168_l6]
      rw [if_pos (by omega), lt_t]
      have he : some st = some [v] := he
      cases he
      exact p_some ⟨hst.1, hF⟩
  | succ k ih =>
    intro n a st S hn h0 h1 h2 he hF hst
    cases n with
    | zero => omega
    | succ n =>
      dsimp only [g168_l6]
      have e78 : gi S 78 a = gi S0 78 a := hF.i rfl
      have e79 : gi S 79 a = gi S0 79 a := hF.i rfl
      have e82 : ∀ i, gl S 82 i = gl S0 82 i := fun i => hF.l rfl
      have e85 : ∀ i, gl S 85 i = gl S0 85 i := fun i => hF.l rfl
      have hi : a + ((k + 1 : Nat) : Int) = a + 1 + k := by omega
      rw [hi]
      rw [if_neg (by omega), chk_t (by omega), lt_t, e78]
      unfold sgm at he
      rw [ev] at he
      dsimp only at he
      have push : ∀ x : Int, st.length < 64 → ev W L (sgm (gi S0) k (a + 1)) (x :: st) = some [v] → Wp (fun r => r.1 = v ∧ Fr [81] S0 r.2) (w_chk ((0 : Int) ≤ (st.length : Int) ∧ (st.length : Int) < 64) <| w_lt (wl S 81 st.length x) fun S49 => w_ckI ((st.length : Int) + 1) fun V50 => w_ckI (a + 1) fun V51 => g168_l6 (a + 1 + k) s n V50 V51 S49) := by
        intro x hl hx
        repeat (first | (with_reducible refine p_chk ?_ ?_; (· (first | omega | (simp only [gi_wi, gl_wl, gl_wi, gi_wl, gi_wcl, gl_wcl, Nat.reduceEqDiff, Int.reduceEq, false_and, true_and, and_true, and_false, if_false, if_true]; omega)))) | with_reducible refine p_lt ?_ | (with_reducible refine p_ckI ?_ ?_; (· (first | omega | (simp only [gi_wi, gl_wl, gl_wi, gi_wl, gi_wcl, gl_wcl, Nat.reduceEqDiff, Int.reduceEq, false_and, true_and, and_true, and_false, if_false, if_true]; omega)))) | (with_reducible refine p_ckJ ?_ ?_; (· (first | omega | (simp only [gi_wi, gl_wl, gl_wi, gi_wl, gi_wcl, gl_wcl, Nat.reduceEqDiff, Int.reduceEq, false_and, true_and, and_true, and_false, if_false, if_true]; omega)))))
        have := ih n (a + 1) (x :: st) (wl S 81 st.length x) (by omega) (by omega) (by omega) (by rw [List.length_cons]; omega) hx (hF.wl rfl) ⟨if_pos ⟨rfl, rfl⟩, Stk_c hst (fun i a b => if_neg (fun z => by omega))⟩
        rw [List.length_cons] at this
        exact this
      by_cases c0 : gi S0 78 a = 0
      · rw [if_pos c0] at he
        rw [if_neg (by omega), if_neg (fun z => z c0), chk_t (by omega), lt_t, e79]
        split at he
        · rename_i hc
          exact push _ hc.1 he
        · cases he
      rw [if_neg c0] at he
      by_cases c1 : gi S0 78 a = 1
      · rw [if_pos c1] at he
        rw [if_neg (by omega), if_pos c0, if_neg (fun z => z c1), chk_t (by omega), lt_t, e79]
        split at he
        · rename_i hc
          rw [chk_t hc.2, lt_t, e82, hW _ hc.2.1 hc.2.2]
          exact push _ hc.1 he
        · cases he
      rw [if_neg c1] at he
      by_cases c2 : gi S0 78 a = 2
      · rw [if_pos c2] at he
        rw [if_neg (by omega), if_pos c0, if_pos c1]
        split at he
        · rename_i hc
          rw [ckI_t (by omega), chk_t (by omega), lt_t, e79, ckI_t (by omega), chk_t (by omega), lt_t, e85, hL _ hc.2.1 hc.2.2]
          exact push _ hc.1 he
        · cases he
      rw [if_neg c2] at he
      by_cases c14 : gi S0 78 a = 14
      · rw [if_pos c14] at he
        rw [if_pos (by omega), if_neg (fun z => z c14)]
        cases st with
        | nil => cases he
        | cons x t =>
          dsimp only at he
          rw [List.length_cons] at h2 ⊢
          split at he
          · rename_i hc
            rw [show (((t.length + 1 : Nat)) : Int) - 1 = (t.length : Int) by omega]
            have hx : gl S 81 t.length = x := hst.1
            repeat (first | (with_reducible refine p_chk ?_ ?_; (· (first | omega | (simp only [gi_wi, gl_wl, gl_wi, gi_wl, gi_wcl, gl_wcl, Nat.reduceEqDiff, Int.reduceEq, false_and, true_and, and_true, and_false, if_false, if_true]; omega)))) | with_reducible refine p_lt ?_ | (with_reducible refine p_ckI ?_ ?_; (· (first | omega | (simp only [gi_wi, gl_wl, gl_wi, gi_wl, gi_wcl, gl_wcl, Nat.reduceEqDiff, Int.reduceEq, false_and, true_and, and_true, and_false, if_false, if_true]; omega)))) | (with_reducible refine p_ckJ ?_ ?_; (· (first | omega | (simp only [gi_wi, gl_wl, gl_wi, gi_wl, gi_wcl, gl_wcl, Nat.reduceEqDiff, Int.reduceEq, false_and, true_and, and_true, and_false, if_false, if_true]; omega)))))
            rw [hx]
            repeat (first | (with_reducible refine p_chk ?_ ?_; (· (first | omega | (simp only [gi_wi, gl_wl, gl_wi, gi_wl, gi_wcl, gl_wcl, Nat.reduceEqDiff, Int.reduceEq, false_and, true_and, and_true, and_false, if_false, if_true]; omega)))) | with_reducible refine p_lt ?_ | (with_reducible refine p_ckI ?_ ?_; (· (first | omega | (simp only [gi_wi, gl_wl, gl_wi, gi_wl, gi_wcl, gl_wcl, Nat.reduceEqDiff, Int.reduceEq, false_and, true_and, and_true, and_false, if_false, if_true]; omega)))) | (with_reducible refine p_ckJ ?_ ?_; (· (first | omega | (simp only [gi_wi, gl_wl, gl_wi, gi_wl, gi_wcl, gl_wcl, Nat.reduceEqDiff, Int.reduceEq, false_and, true_and, and_true, and_false, if_false, if_true]; omega)))))
            have := ih n (a + 1) ((1 - x) :: t) (wl S 81 t.length (1 - x)) (by omega) (by omega) (by omega) (by rw [List.length_cons]; omega) he (hF.wl rfl) ⟨if_pos ⟨rfl, rfl⟩, Stk_c hst.2 (fun i a b => if_neg (fun z => by omega))⟩
            rw [List.length_cons] at this
            exact this
          · cases he
      rw [if_neg c14] at he
      cases st with
      | nil => cases he
      | cons y t =>
        cases t with
        | nil => cases he
        | cons x t =>
          dsimp only at he
          rw [List.length_cons, List.length_cons] at h2 ⊢
          split at he
          · rename_i hc
            rw [if_pos (by have := hc.1; omega), if_pos c14]
            have hy : gl S 81 ((t.length : Int) + 1) = y := hst.1
            have hx : gl S 81 t.length = x := hst.2.1
            rw [show (((t.length + 1 + 1 : Nat)) : Int) + -1 = (t.length : Int) + 1 by omega]
            repeat (first | (with_reducible refine p_chk ?_ ?_; (· (first | omega | (simp only [gi_wi, gl_wl, gl_wi, gi_wl, gi_wcl, gl_wcl, Nat.reduceEqDiff, Int.reduceEq, false_and, true_and, and_true, and_false, if_false, if_true]; omega)))) | with_reducible refine p_lt ?_ | (with_reducible refine p_ckI ?_ ?_; (· (first | omega | (simp only [gi_wi, gl_wl, gl_wi, gi_wl, gi_wcl, gl_wcl, Nat.reduceEqDiff, Int.reduceEq, false_and, true_and, and_true, and_false, if_false, if_true]; omega)))) | (with_reducible refine p_ckJ ?_ ?_; (· (first | omega | (simp only [gi_wi, gl_wl, gl_wi, gi_wl, gi_wcl, gl_wcl, Nat.reduceEqDiff, Int.reduceEq, false_and, true_and, and_true, and_false, if_false, if_true]; omega)))))
            rw [show (t.length : Int) + 1 - 1 = (t.length : Int) by omega]
            repeat (first | (with_reducible refine p_chk ?_ ?_; (· (first | omega | (simp only [gi_wi, gl_wl, gl_wi, gi_wl, gi_wcl, gl_wcl, Nat.reduceEqDiff, Int.reduceEq, false_and, true_and, and_true, and_false, if_false, if_true]; omega)))) | with_reducible refine p_lt ?_ | (with_reducible refine p_ckI ?_ ?_; (· (first | omega | (simp only [gi_wi, gl_wl, gl_wi, gi_wl, gi_wcl, gl_wcl, Nat.reduceEqDiff, Int.reduceEq, false_and, true_and, and_true, and_false, if_false, if_true]; omega)))) | (with_reducible refine p_ckJ ?_ ?_; (· (first | omega | (simp only [gi_wi, gl_wl, gl_wi, gi_wl, gi_wcl, gl_wcl, Nat.reduceEqDiff, Int.reduceEq, false_and, true_and, and_true, and_false, if_false, if_true]; omega)))))
            rw [hx, hy]
            refine p_call (g167_eq hc) ?_
            dsimp only
            repeat (first | (with_reducible refine p_chk ?_ ?_; (· (first | omega | (simp only [gi_wi, gl_wl, gl_wi, gi_wl, gi_wcl, gl_wcl, Nat.reduceEqDiff, Int.reduceEq, false_and, true_and, and_true, and_false, if_false, if_true]; omega)))) | with_reducible refine p_lt ?_ | (with_reducible refine p_ckI ?_ ?_; (· (first | omega | (simp only [gi_wi, gl_wl, gl_wi, gi_wl, gi_wcl, gl_wcl, Nat.reduceEqDiff, Int.reduceEq, false_and, true_and, and_true, and_false, if_false, if_true]; omega)))) | (with_reducible refine p_ckJ ?_ ?_; (· (first | omega | (simp only [gi_wi, gl_wl, gl_wi, gi_wl, gi_wcl, gl_wcl, Nat.reduceEqDiff, Int.reduceEq, false_and, true_and, and_true, and_false, if_false, if_true]; omega)))))
            have := ih n (a + 1) (bth (gi S0 78 a) x y :: t) (wl S 81 t.length (bth (gi S0 78 a) x y)) (by omega) (by omega) (by omega) (by rw [List.length_cons]; omega) he (hF.wl rfl) ⟨if_pos ⟨rfl, rfl⟩, Stk_c hst.2.2 (fun i a b => if_neg (fun z => by omega))⟩
            rw [List.length_cons] at this
            exact this
          · cases he
theorem g168_w {W L : Int → Int} {s a v : Int} {k : Nat} (hs : 0 ≤ s ∧ s < 12) (hW : ∀ i : Int, 0 ≤ i → i < 10 → gl S 82 i = W i) (hL : ∀ i : Int, 0 ≤ i → i < 30 → gl S 85 (30 * s + i) = L i) (h0 : 0 ≤ a) (h1 : a + k ≤ 15000) (he : ev W L (sgm (gi S) k a) [] = some [v]) : Wp (fun r => r.1 = v ∧ Fr [81] S r.2) (g168 a (a + k) s S) := by
  unfold g168
  exact g168_l6_w S hs hW hL k 100000 a [] S (by omega) h0 h1 (by simp) he Fr.refl trivial
end EV2
