/-! doubt -/
def pcn (x : Int) : Int := (if tb x 0 then 1 else 0) + (if tb x 1 then 1 else 0) + (if tb x 2 then 1 else 0) + (if tb x 3 then 1 else 0) + (if tb x 4 then 1 else 0) + (if tb x 5 then 1 else 0)
def gS0 : gM := (fun _ _ => 0, fun _ _ => 0, 0, fun _ => .inl 0, fun _ _ => none, 0)
theorem g198_sep (x : Int) (S : gM) : g198 x S = (g198 x gS0).map (fun r => (r.1, S)) := by
  unfold g198
  simp only [w_lt, w_ckI]
  split
  · split
    · split
      · split
        · split
          · rfl
          · rfl
        · rfl
      · rfl
    · rfl
  · rfl
theorem g198_tab : ∀ f : Nat, f < 64 → (g198 f gS0).map (fun r => r.1) = some (pcn f) := by decide +kernel
theorem g198_eq (x : Int) (S : gM) (hx : 0 ≤ x ∧ x < 64) : g198 x S = some (pcn x, S) := by
  rw [g198_sep]
  have h := g198_tab x.toNat (by omega)
  rw [show ((x.toNat : Nat) : Int) = x by omega] at h
  obtain ⟨r, h1, h2⟩ := Option.map_eq_some_iff.mp h
  rw [h1, ← h2]
  rfl
theorem g194_l4_sep (S : gM) : ∀ (n : Nat) (a b : Int), g194_l4 n a b S = (g194_l4 n a b gS0).map (fun r => (r.1, S)) := by
  intro n
  induction n with
  | zero => intro a b; rfl
  | succ n ih =>
    intro a b
    dsimp only [g194_l4]
    by_cases h : b ≤ 0
    · rw [if_pos h, if_pos h]; rfl
    · rw [if_neg h, if_neg h]
      simp only [w_lt, w_ckI]
      split
      · exact ih _ _
      · rfl
theorem g194_tab : ∀ f : Nat, f < 64 → (g194 f gS0).map (fun r => r.1) = some (pcn f) := by decide +kernel
theorem g194_eq (x : Int) (S : gM) (hx : 0 ≤ x ∧ x < 64) : g194 x S = some (pcn x, S) := by
  unfold g194
  rw [g194_l4_sep]
  have h := g194_tab x.toNat (by omega)
  rw [show ((x.toNat : Nat) : Int) = x by omega] at h
  unfold g194 at h
  obtain ⟨r, h1, h2⟩ := Option.map_eq_some_iff.mp h
  rw [h1, ← h2]
  rfl
theorem sub_tab : ∀ f : Nat, f < 64 → ∀ t : Nat, t < 64 → b_and f (b_xor t (-1)) = 0 → pcn t ≤ pcn f → f = t := by decide +kernel
theorem sub_self : ∀ t : Nat, t < 64 → b_and t (b_xor t (-1)) = 0 := by decide +kernel
theorem and7_tab : ∀ b : Nat, b < 64 → (b_and b 7 = 7 ↔ (tb b 0 && (tb b 1 && tb b 2)) = true) := by decide +kernel
theorem and_rng (x y : Int) (hx : 0 ≤ x ∧ x < 64) : 0 ≤ b_and x y ∧ b_and x y < 64 := by
  unfold b_and
  have e : (Int32.ofInt x).toBitVec.toNat < 64 := by
    have h1 : (Int32.ofInt x).toInt = x := Int32.toInt_ofInt_of_le (by omega) (by omega)
    have h2 : (Int32.ofInt x).toBitVec.toInt = x := h1
    have h3 := BitVec.toInt_eq_toNat_cond (Int32.ofInt x).toBitVec
    split at h3
    · omega
    · have := (Int32.ofInt x).toBitVec.isLt; omega
  have h : ((Int32.ofInt x &&& Int32.ofInt y).toBitVec).toNat < 64 := by
    rw [Int32.toBitVec_and, BitVec.toNat_and]
    exact Nat.lt_of_le_of_lt Nat.and_le_left e
  have h2 : (Int32.ofInt x &&& Int32.ofInt y).toInt = ((Int32.ofInt x &&& Int32.ofInt y).toBitVec).toInt := rfl
  rw [h2, BitVec.toInt_eq_toNat_of_lt (by omega)]
  omega
/-- the bits of what is told -/
def tpt (b : Nat → Bool) : Nat → Int
  | 0 => 0
  | k + 1 => if b k = true then b_or (tpt b k) (b_shl 1 k) else tpt b k
def twB (b0 b1 b2 b3 b4 b5 : Bool) : Int :=
  let x0 := if b0 = true then b_or 0 (b_shl 1 ((0 : Nat) : Int)) else 0
  let x1 := if b1 = true then b_or x0 (b_shl 1 ((1 : Nat) : Int)) else x0
  let x2 := if b2 = true then b_or x1 (b_shl 1 ((2 : Nat) : Int)) else x1
  let x3 := if b3 = true then b_or x2 (b_shl 1 ((3 : Nat) : Int)) else x2
  let x4 := if b4 = true then b_or x3 (b_shl 1 ((4 : Nat) : Int)) else x3
  if b5 = true then b_or x4 (b_shl 1 ((5 : Nat) : Int)) else x4
theorem tpt_6 (b : Nat → Bool) : tpt b 6 = twB (b 0) (b 1) (b 2) (b 3) (b 4) (b 5) := rfl
theorem twB_tab : ∀ b0 b1 b2 b3 b4 b5 : Bool, (0 ≤ twB b0 b1 b2 b3 b4 b5 ∧ twB b0 b1 b2 b3 b4 b5 < 64) ∧ tb (twB b0 b1 b2 b3 b4 b5) 0 = b0 ∧ tb (twB b0 b1 b2 b3 b4 b5) 1 = b1 ∧ tb (twB b0 b1 b2 b3 b4 b5) 2 = b2 ∧ tb (twB b0 b1 b2 b3 b4 b5) 3 = b3 ∧ tb (twB b0 b1 b2 b3 b4 b5) 4 = b4 ∧ tb (twB b0 b1 b2 b3 b4 b5) 5 = b5 := by decide +kernel
theorem b_or0 (x : Int) (hx : -2147483648 ≤ x ∧ x ≤ 2147483647) : b_or x 0 = x := by
  unfold b_or
  have e : Int32.ofInt x ||| Int32.ofInt 0 = Int32.ofInt x := by
    apply Int32.toBitVec_inj.1
    have e0 : (Int32.ofInt 0).toBitVec = 0#32 := by decide
    rw [Int32.toBitVec_or, e0, BitVec.or_zero]
  rw [e]
  exact Int32.toInt_ofInt_of_le (by omega) (by omega)
theorem b_or_rng (x y : Int) : -2147483648 ≤ b_or x y ∧ b_or x y ≤ 2147483647 := t_rng rfl
theorem tpt_rng (b : Nat → Bool) (k : Nat) : -2147483648 ≤ tpt b k ∧ tpt b k ≤ 2147483647 := by
  induction k with
  | zero => unfold tpt; omega
  | succ k ih => unfold tpt; split
                 · exact b_or_rng _ _
                 · exact ih
section DB
variable {S : gM}
def told6 (C : Nat → Int → Int) (s y d : Int) : Nat → Bool := fun k => decide (¬ own C s y k d = -1)
theorem g14_eq (hm : MarkI S) (s y d : Int) (hs : 0 ≤ s ∧ s < 12) (hy : 0 ≤ y ∧ y < 10) : g14 s y d S = some (tpt (told6 (cor S) s y d) 6, S) := by
  unfold g14
  refine upto 6 (fun n k => g14_l6 s y d n (tpt (told6 (cor S) s y d) k) k S = some (tpt (told6 (cor S) s y d) 6, S)) ?_ 100000 0 (by omega) (by omega)
  intro n k hk ih
  dsimp only [g14_l6]
  refine p_eq ?_
  refine p_if (fun hc => ?_) (fun hc => ?_)
  · rw [show k = 6 by omega]; exact p_some rfl
  · have ih := ih (by omega)
    rw [tpt] at ih
    refine p_call (g12_eq hm s y k d hs hy (by omega)) ?_
    dsimp only
    refine p_if (fun h => ?_) (fun h => ?_)
    · rw [if_neg (by unfold told6; simp [h])] at ih
      repeat (first | (with_reducible refine p_chk ?_ ?_; (· (first | omega | (simp only [gi_wi, gl_wl, gl_wi, gi_wl, gi_wcl, gl_wcl, Nat.reduceEqDiff, Int.reduceEq, false_and, true_and, and_true, and_false, if_false, if_true]; omega)))) | with_reducible refine p_lt ?_ | (with_reducible refine p_ckI ?_ ?_; (· (first | omega | (simp only [gi_wi, gl_wl, gl_wi, gi_wl, gi_wcl, gl_wcl, Nat.reduceEqDiff, Int.reduceEq, false_and, true_and, and_true, and_false, if_false, if_true]; omega)))) | (with_reducible refine p_ckJ ?_ ?_; (· (first | omega | (simp only [gi_wi, gl_wl, gl_wi, gi_wl, gi_wcl, gl_wcl, Nat.reduceEqDiff, Int.reduceEq, false_and, true_and, and_true, and_false, if_false, if_true]; omega)))))
      exact ⟨_, ih, rfl⟩
    · rw [if_pos (by unfold told6; simp [h])] at ih
      repeat (first | (with_reducible refine p_chk ?_ ?_; (· (first | omega | (simp only [gi_wi, gl_wl, gl_wi, gi_wl, gi_wcl, gl_wcl, Nat.reduceEqDiff, Int.reduceEq, false_and, true_and, and_true, and_false, if_false, if_true]; omega)))) | with_reducible refine p_lt ?_ | (with_reducible refine p_ckI ?_ ?_; (· (first | omega | (simp only [gi_wi, gl_wl, gl_wi, gi_wl, gi_wcl, gl_wcl, Nat.reduceEqDiff, Int.reduceEq, false_and, true_and, and_true, and_false, if_false, if_true]; omega)))) | (with_reducible refine p_ckJ ?_ ?_; (· (first | omega | (simp only [gi_wi, gl_wl, gl_wi, gi_wl, gi_wcl, gl_wcl, Nat.reduceEqDiff, Int.reduceEq, false_and, true_and, and_true, and_false, if_false, if_true]; omega)))))
      exact ⟨_, ih, rfl⟩
/-- whether the marks in these bits can be -/
def cB (q0 q1 q2 q3 q4 q5 : Bool) (m : Int → Int) : Prop :=
  if q5 = true then ((if (q0 && (q1 && q2)) = true then (if q0 = true then m 0 else 0) + (if q1 = true then m 1 else 0) + (if q2 = true then m 2 else 0) = m 5 else (if q0 = true then m 0 else 0) + (if q1 = true then m 1 else 0) + (if q2 = true then m 2 else 0) ≤ m 5) ∧ (q3 = true → m 3 ≤ m 5) ∧ (q4 = true → m 4 ≤ m 5))
  else ((q0 && (q1 && q2)) = true → ((q3 = true → m 3 ≤ (if q0 = true then m 0 else 0) + (if q1 = true then m 1 else 0) + (if q2 = true then m 2 else 0)) ∧ (q4 = true → m 4 ≤ (if q0 = true then m 0 else 0) + (if q1 = true then m 1 else 0) + (if q2 = true then m 2 else 0))))
def hd3 (q : Nat → Bool) (m : Int → Int) : Nat → Int
  | 0 => 0
  | k + 1 => hd3 q m k + (if q k = true then m k else 0)
theorem hd3_rng {q : Nat → Bool} {m : Int → Int} (h : ∀ k : Nat, k < 6 → -1 ≤ m k ∧ m k ≤ 9999) (k : Nat) (hk : k ≤ 3) : -3 ≤ hd3 q m k ∧ hd3 q m k ≤ 29997 := by
  have key : ∀ j : Nat, j ≤ 3 → -(j : Int) ≤ hd3 q m j ∧ hd3 q m j ≤ 9999 * j := by
    intro j
    induction j with
    | zero => intro _; unfold hd3; omega
    | succ j ih =>
      intro hj
      have := ih (by omega)
      have := h j (by omega)
      unfold hd3
      split <;> omega
  have := key k hk
  omega
theorem hd3_3 (q : Nat → Bool) (m : Int → Int) : hd3 q m 3 = (if q 0 = true then m 0 else 0) + (if q 1 = true then m 1 else 0) + (if q 2 = true then m 2 else 0) := by
  simp only [hd3, Int.zero_add]
  rfl
theorem p8 : (Int32.ofInt 8).toBitVec = BitVec.twoPow 32 3 := by decide
theorem p16 : (Int32.ofInt 16).toBitVec = BitVec.twoPow 32 4 := by decide
theorem p32 : (Int32.ofInt 32).toBitVec = BitVec.twoPow 32 5 := by decide
theorem g15_eq (hm : MarkI S) (s y d b : Int) (hs : 0 ≤ s ∧ s < 12) (hy : 0 ≤ y ∧ y < 10) (hb : 0 ≤ b ∧ b < 64) : g15 s y d b S = some (one (cB (tb b 0) (tb b 1) (tb b 2) (tb b 3) (tb b 4) (tb b 5) (fun k => own (cor S) s y k d)), S) := by
  have hr : ∀ k : Nat, k < 6 → -1 ≤ own (cor S) s y k d ∧ own (cor S) s y k d ≤ 9999 := fun k _ => hm.rng s y k d
  have hl : g15 s y d b S = (fun Y9 S10 => w_lt (b_and b 7) fun V11 => if ¬ V11 = 7 then g15_j57 s y d b Y9 0 S10 else g15_j57 s y d b Y9 1 S10) (hd3 (tb b) (fun k => own (cor S) s y k d) 3) S := by
    unfold g15
    refine upto 3 (fun n k => g15_l6 s y d b _ n (hd3 (tb b) (fun k => own (cor S) s y k d) k) k S = _) ?_ 100000 0 (by omega) (by omega)
    intro n k hk ih
    dsimp only [g15_l6]
    by_cases hc : 3 ≤ (k : Int)
    · rw [if_pos hc, show k = 3 by omega]
    · rw [if_neg hc, lt_t, lt_t]
      have ih := ih (by omega)
      rw [hd3] at ih
      have e := tb_shl b k (by omega)
      have hq := hd3_rng (q := tb b) (m := fun k => own (cor S) s y k d) hr k (by omega)
      have hq2 := hr k (by omega)
      by_cases h : b_and b (b_shl 1 k) = 0
      · have e2 : tb b k = false := e.mp h
        rw [if_pos h, ckI_t (by omega)]
        rw [if_neg (by rw [e2]; decide), Int.add_zero] at ih
        exact ih
      · have e2 : tb b k = true := by
          cases h2 : tb b k with
          | true => rfl
          | false => exact absurd (e.mpr h2) h
        rw [if_neg h, g12_eq hm s y k d hs hy (by omega), ob_s]
        dsimp only
        rw [ckI_t (by omega), ckI_t (by omega)]
        rw [if_pos e2] at ih
        exact ih
  rw [hl]
  have hq := hd3_rng (q := tb b) (m := fun k => own (cor S) s y k d) hr 3 (by omega)
  have e7 := and7_tab b.toNat (by omega)
  rw [show ((b.toNat : Nat) : Int) = b by omega] at e7
  have e8 := tb_pow b 3 (by omega) 8 p8
  have e16 := tb_pow b 4 (by omega) 16 p16
  have e32 := tb_pow b 5 (by omega) 32 p32
  have m3 := g12_eq hm s y 3 d hs hy (by omega)
  have m4 := g12_eq hm s y 4 d hs hy (by omega)
  have m5 := g12_eq hm s y 5 d hs hy (by omega)
  unfold cB
  dsimp only
  rw [← hd3_3 (tb b) (fun k => own (cor S) s y k d)]
  generalize hd3 (tb b) (fun k => own (cor S) s y k d) 3 = H at *
  generalize own (cor S) s y 3 d = M3 at *
  generalize own (cor S) s y 4 d = M4 at *
  generalize own (cor S) s y 5 d = M5 at *
  have j153 : ∀ A : Int, g15_j153 s y d b A S = some (one (tb b 4 = true → M4 ≤ A), S) := by
    intro A
    unfold g15_j153
    rw [lt_t]
    by_cases h : b_and b 16 = 0
    · rw [if_pos h, one_t (by rw [e16.mp h]; intro z; cases z)]
    · have h4 : tb b 4 = true := by
        cases h2 : tb b 4 with
        | true => rfl
        | false => exact absurd (e16.mpr h2) h
      rw [if_neg h, m4, ob_s]
      dsimp only
      by_cases h3 : A < M4
      · rw [if_pos h3, one_f (fun z => by have := z h4; omega)]
      · rw [if_neg h3, one_t (fun _ => by omega)]
  have j130 : ∀ A : Int, g15_j130 s y d b A S = some (one ((tb b 3 = true → M3 ≤ A) ∧ (tb b 4 = true → M4 ≤ A)), S) := by
    intro A
    unfold g15_j130
    rw [lt_t]
    by_cases h : b_and b 8 = 0
    · rw [if_pos h, j153]
      rw [one_c (d := (tb b 3 = true → M3 ≤ A) ∧ (tb b 4 = true → M4 ≤ A))]
      exact ⟨fun z => ⟨by rw [e8.mp h]; intro w; (cases w), z⟩, fun z => z.2⟩
    · have h4 : tb b 3 = true := by
        cases h2 : tb b 3 with
        | true => rfl
        | false => exact absurd (e8.mpr h2) h
      rw [if_neg h, m3, ob_s]
      dsimp only
      by_cases h3 : M3 ≤ A
      · rw [if_pos h3, j153]
        rw [one_c (d := (tb b 3 = true → M3 ≤ A) ∧ (tb b 4 = true → M4 ≤ A))]
        exact ⟨fun z => ⟨fun _ => h3, z⟩, fun z => z.2⟩
      · rw [if_neg h3, one_f (fun z => h3 (z.1 h4))]
  rw [lt_t]
  unfold g15_j57
  rw [lt_t, lt_t]
  unfold g15_j72 g15_j86 g15_j104
  cases h5 : tb b 5 with
  | false =>
    rw [e32.mpr h5]
    by_cases h7 : b_and b 7 = 7
    · rw [if_neg (fun z => z h7), if_pos rfl, if_neg (fun z => z rfl), if_pos (by decide), if_pos rfl, if_neg (by decide), if_pos rfl, j130]
      have := e7.mp h7
      rw [this]
      simp
    · rw [if_pos h7, if_pos rfl, if_neg (fun z => z rfl), if_neg (fun z => z rfl)]
      have h7' : (tb b 0 && (tb b 1 && tb b 2)) = false := by
        cases h2 : (tb b 0 && (tb b 1 && tb b 2)) with
        | true => exact absurd (e7.mpr h2) h7
        | false => rfl
      rw [h7']
      rw [one_t]
      simp
  | true =>
    have h32 : ¬ b_and b 32 = 0 := fun z => by have := e32.mp z; rw [this] at h5; cases h5
    by_cases h7 : b_and b 7 = 7
    · rw [if_neg (fun z => z h7), if_neg h32, if_pos (by decide), if_neg (by decide), m5, ob_s]
      dsimp only
      rw [if_neg (by decide), e7.mp h7, if_pos rfl, if_pos rfl]
      by_cases h9 : H = M5
      · rw [if_pos h9, j130, one_c (d := H = M5 ∧ (tb b 3 = true → M3 ≤ M5) ∧ (tb b 4 = true → M4 ≤ M5))]
        exact ⟨fun z => ⟨h9, z⟩, fun z => z.2⟩
      · rw [if_neg h9, one_f (fun z => h9 z.1)]
    · have h7' : (tb b 0 && (tb b 1 && tb b 2)) = false := by
        cases h2 : (tb b 0 && (tb b 1 && tb b 2)) with
        | true => exact absurd (e7.mpr h2) h7
        | false => rfl
      rw [if_pos h7, if_neg h32, if_pos (by decide), if_neg (by decide), m5, ob_s]
      dsimp only
      rw [if_pos rfl, h7', if_pos rfl, if_neg (show ¬ ((false : Bool) = true) by decide)]
      by_cases h9 : H ≤ M5
      · rw [if_pos h9, j130, one_c (d := H ≤ M5 ∧ (tb b 3 = true → M3 ≤ M5) ∧ (tb b 4 = true → M4 ≤ M5))]
        exact ⟨fun z => ⟨h9, z⟩, fun z => z.2⟩
      · rw [if_neg h9, one_f (fun z => h9 z.1)]
/-- the reference's: who is free -/
def sd (t f : Int) (k : Nat) : Bool := tb t k && !tb f k
theorem g193_eq (m : Int → Int) (t f : Int) (h102 : ∀ k : Int, 0 ≤ k → k < 6 → gi S 102 k = m k) (hr : ∀ k : Nat, k < 6 → -1 ≤ m k ∧ m k ≤ 9999) (ht : ∀ k : Nat, k < 6 → (tb t k = true ↔ ¬ m k = -1)) : g193 f S = some (one (cB (sd t f 0) (sd t f 1) (sd t f 2) (sd t f 3) (sd t f 4) (sd t f 5) m), S) := by
  have hl : ∀ K : Int → Int → gM → Option (Int × gM), g193_l7 f K 100000 0 0 0 S = K (hd3 (sd t f) m 3) (if (sd t f 0 && (sd t f 1 && sd t f 2)) = true then 0 else 1) S := by
    intro K
    have key := upto 3 (fun n k => g193_l7 f K n (hd3 (sd t f) m k) (if (∀ j : Nat, j < k → sd t f j = true) then 0 else 1) k S = K (hd3 (sd t f) m 3) (if (∀ j : Nat, j < 3 → sd t f j = true) then 0 else 1) S) ?_ 100000 0 (by omega) (by omega)
    · rw [if_pos (fun j hj => by omega)] at key
      refine Eq.trans key ?_
      congr 1
      by_cases h : (sd t f 0 && (sd t f 1 && sd t f 2)) = true
      · rw [if_pos h, if_pos]
        rw [Bool.and_eq_true, Bool.and_eq_true] at h
        intro j hj
        have : j = 0 ∨ j = 1 ∨ j = 2 := by omega
        rcases this with z | z | z <;> subst z
        · exact h.1
        · exact h.2.1
        · exact h.2.2
      · rw [if_neg h, if_neg]
        intro z
        apply h
        rw [z 0 (by omega), z 1 (by omega), z 2 (by omega)]
        rfl
    · intro n k hk ih
      dsimp only [g193_l7]
      by_cases hc : 3 ≤ (k : Int)
      · rw [if_pos hc, show k = 3 by omega]
      · rw [if_neg hc, lt_t, lt_t]
        have ih := ih (by omega)
        have e1 := tb_shr f k (by omega)
        rw [show ((k : Int)).toNat = k by omega] at e1
        have hq := hd3_rng (q := sd t f) (m := m) hr k (by omega)
        have hmk := hr k (by omega)
        have htk := ht k (by omega)
        have h1k := h102 k (by omega) (by omega)
        have step : ∀ (b : Bool), b = sd t f k → g193_l7 f K n (hd3 (sd t f) m k + (if b = true then m k else 0)) (if (∀ j : Nat, j < k → sd t f j = true) ∧ b = true then 0 else 1) ((k : Int) + 1) S = K (hd3 (sd t f) m 3) (if (∀ j : Nat, j < 3 → sd t f j = true) then 0 else 1) S := by
          intro b hb
          subst hb
          rw [hd3] at ih
          have e : (if (∀ j : Nat, j < k + 1 → sd t f j = true) then (0 : Int) else 1) = (if (∀ j : Nat, j < k → sd t f j = true) ∧ sd t f k = true then 0 else 1) := by
            by_cases hA : (∀ j : Nat, j < k → sd t f j = true) ∧ sd t f k = true
            · rw [if_pos hA, if_pos]
              intro j hj
              by_cases hjk : j = k
              · rw [hjk]; exact hA.2
              · exact hA.1 j (by omega)
            · rw [if_neg hA, if_neg]
              exact fun z => hA ⟨fun j hj => z j (by omega), z k (by omega)⟩
          rw [e] at ih
          exact ih
        have no : sd t f k = false → g193_j37 K (g193_l7 f K n) f (hd3 (sd t f) m k) (if (∀ j : Nat, j < k → sd t f j = true) then 0 else 1) k S = K (hd3 (sd t f) m 3) (if (∀ j : Nat, j < 3 → sd t f j = true) then 0 else 1) S := by
          intro hs
          have st := step false hs.symm
          unfold g193_j37 g193_j38 g193_j57
          rw [if_pos rfl, ckI_t (by omega)]
          simp only [Bool.false_eq_true, if_false, and_false] at st
          by_cases hA : (∀ j : Nat, j < k → sd t f j = true)
          · rw [if_pos hA, if_neg (fun z => z rfl), if_neg (fun z => z rfl), ckI_t (by omega)]
            exact st
          · rw [if_neg hA, if_pos (by decide), ckI_t (by omega)]
            exact st
        by_cases h1 : tb f k = true
        · rw [e1, if_pos h1, if_pos (by decide)]
          exact no (by unfold sd; rw [h1]; simp)
        · rw [e1, if_neg h1, if_neg (fun z => z rfl), chk_t (by omega), lt_t, h1k]
          have h1f : tb f k = false := by
            cases h2 : tb f k with
            | true => exact absurd h2 h1
            | false => rfl
          by_cases h2 : m k = -1
          · rw [if_pos h2]
            refine no ?_
            have : tb t k = false := by
              cases h3 : tb t k with
              | true => exact absurd h2 (htk.mp h3)
              | false => rfl
            unfold sd; rw [this]; rfl
          · rw [if_neg h2]
            have hs : sd t f k = true := by unfold sd; rw [htk.mpr h2, h1f]; rfl
            have st := step true hs.symm
            unfold g193_j38 g193_j57
            rw [if_neg (by decide), chk_t (by omega), lt_t, h1k, ckI_t (by omega)]
            simp only [if_true, and_true] at st
            by_cases hA : (∀ j : Nat, j < k → sd t f j = true)
            · rw [if_pos hA, if_neg (fun z => z rfl), if_pos (by decide), ckI_t (by omega)]
              rw [if_pos hA] at st
              exact st
            · rw [if_neg hA, if_pos (by decide), ckI_t (by omega)]
              rw [if_neg hA] at st
              exact st
  have j187 : ∀ X4 X5 X6 : Int, g193_j187 X4 X5 X6 S = some (one (X4 ≤ X6 ∧ X5 ≤ X6), S) := by
    intro X4 X5 X6
    unfold g193_j187
    by_cases a : X6 < X4
    · rw [if_pos a, one_f (by omega)]
    · rw [if_neg a]
      by_cases b : X6 < X5
      · rw [if_pos b, one_f (by omega)]
      · rw [if_neg b, one_t (by omega)]
  have pick : ∀ k : Nat, k < 6 → (if tb f k = true then (-1 : Int) else m k) = if sd t f k = true then m k else -1 := by
    intro k hk
    unfold sd
    have := ht k hk
    cases h1 : tb f k <;> cases h2 : tb t k
    · have e : m k = -1 := Classical.not_not.mp (fun z => by have := this.mpr z; rw [h2] at this; cases this)
      simp [e]
    · simp
    · simp
    · simp
  have pk := pick
  unfold g193
  rw [hl]
  have hq := hd3_rng (q := sd t f) (m := m) hr 3 (by omega)
  have e3 := tb_shr f 3 (by omega)
  have e4 := tb_shr f 4 (by omega)
  have e5 := tb_shr f 5 (by omega)
  have j138 : ∀ A M3 M4 : Int, (A = if sd t f 5 = true then m 5 else -1) → (M3 = if sd t f 3 = true then m 3 else -1) → (M4 = if sd t f 4 = true then m 4 else -1) → g193_j138 (hd3 (sd t f) m 3) (if (sd t f 0 && (sd t f 1 && sd t f 2)) = true then 0 else 1) M3 M4 A S = some (one (cB (sd t f 0) (sd t f 1) (sd t f 2) (sd t f 3) (sd t f 4) (sd t f 5) m), S) := by
    intro A M3 M4 hA h3 h4
    unfold cB
    rw [← hd3_3 (sd t f) m]
    have q5 : sd t f 5 = true → ¬ m 5 = -1 ∧ 0 ≤ m 5 := fun z => by
      have h1 : tb t 5 = true := by unfold sd at z; rw [Bool.and_eq_true] at z; exact z.1
      have h2 := (ht 5 (by omega)).mp h1
      have h3 : -1 ≤ m 5 ∧ m 5 ≤ 9999 := hr 5 (by omega)
      have h2' : ¬ m 5 = -1 := h2
      exact ⟨h2', by omega⟩
    have qk : ∀ k : Nat, k < 3 → 0 ≤ (if sd t f k = true then m k else 0) := fun k hk => by
      by_cases z : sd t f k = true
      · rw [if_pos z]
        have h1 : tb t k = true := by unfold sd at z; rw [Bool.and_eq_true] at z; exact z.1
        have h2 := (ht k (by omega)).mp h1
        have h3 := hr k (by omega)
        omega
      · rw [if_neg z]; omega
    have hH : 0 ≤ hd3 (sd t f) m 3 := by
      rw [hd3_3]
      have b0 : 0 ≤ (if sd t f 0 = true then m 0 else 0) := qk 0 (by omega)
      have b1 : 0 ≤ (if sd t f 1 = true then m 1 else 0) := qk 1 (by omega)
      have b2 : 0 ≤ (if sd t f 2 = true then m 2 else 0) := qk 2 (by omega)
      exact Int.add_nonneg (Int.add_nonneg b0 b1) b2
    generalize hd3 (sd t f) m 3 = H at *
    unfold g193_j138
    by_cases s5 : sd t f 5 = true
    · have q := q5 s5
      rw [if_pos s5] at hA
      rw [if_pos (by omega), if_pos s5]
      by_cases s7 : (sd t f 0 && (sd t f 1 && sd t f 2)) = true
      · rw [if_pos s7, if_pos s7, if_pos rfl]
        by_cases hHA : H = A
        · rw [if_neg (fun z => z hHA), j187, one_c]
          constructor
          · intro z
            refine ⟨by omega, fun w => ?_, fun w => ?_⟩
            · rw [if_pos w] at h3; omega
            · rw [if_pos w] at h4; omega
          · intro z
            constructor
            · by_cases w : sd t f 3 = true
              · have := z.2.1 w; rw [if_pos w] at h3; omega
              · rw [if_neg w] at h3; omega
            · by_cases w : sd t f 4 = true
              · have := z.2.2 w; rw [if_pos w] at h4; omega
              · rw [if_neg w] at h4; omega
        · rw [if_pos hHA, one_f (fun z => hHA (by omega))]
      · rw [if_neg s7, if_neg s7, if_neg (by decide)]
        by_cases hHA : A < H
        · rw [if_pos hHA, one_f (fun z => by omega)]
        · rw [if_neg hHA, j187, one_c]
          constructor
          · intro z
            refine ⟨by omega, fun w => ?_, fun w => ?_⟩
            · rw [if_pos w] at h3; omega
            · rw [if_pos w] at h4; omega
          · intro z
            constructor
            · by_cases w : sd t f 3 = true
              · have := z.2.1 w; rw [if_pos w] at h3; omega
              · rw [if_neg w] at h3; omega
            · by_cases w : sd t f 4 = true
              · have := z.2.2 w; rw [if_pos w] at h4; omega
              · rw [if_neg w] at h4; omega
    · rw [if_neg s5] at hA
      rw [if_neg (fun z => z hA), if_neg s5]
      by_cases s7 : (sd t f 0 && (sd t f 1 && sd t f 2)) = true
      · rw [if_pos s7, if_neg (fun z => z rfl)]
        have e : (if H < M3 then some ((0 : Int), S) else if H < M4 then some (0, S) else some (1, S)) = some (one (M3 ≤ H ∧ M4 ≤ H), S) := j187 M3 M4 H
        rw [e, one_c]
        constructor
        · intro z _
          refine ⟨fun w => ?_, fun w => ?_⟩
          · rw [if_pos w] at h3; omega
          · rw [if_pos w] at h4; omega
        · intro z
          have z := z s7
          constructor
          · by_cases w : sd t f 3 = true
            · have := z.1 w; rw [if_pos w] at h3; omega
            · rw [if_neg w] at h3; omega
          · by_cases w : sd t f 4 = true
            · have := z.2 w; rw [if_pos w] at h4; omega
            · rw [if_neg w] at h4; omega
      · rw [if_neg s7, if_pos (by decide), one_t (fun z => absurd z s7)]
  have h5 : ∀ M3 M4 : Int, (M3 = if sd t f 3 = true then m 3 else -1) → (M4 = if sd t f 4 = true then m 4 else -1) → g193_j118 f (hd3 (sd t f) m 3) (if (sd t f 0 && (sd t f 1 && sd t f 2)) = true then 0 else 1) M3 M4 S = some (one (cB (sd t f 0) (sd t f 1) (sd t f 2) (sd t f 3) (sd t f 4) (sd t f 5) m), S) := by
    intro M3 M4 h3 h4
    unfold g193_j118
    rw [lt_t, lt_t, e5]
    have p := pk 5 (by omega)
    by_cases z : tb f 5 = true
    · rw [if_pos (show tb f ((5 : Int)).toNat = true from z), if_pos (by decide)]
      rw [if_pos z] at p
      exact j138 _ _ _ p h3 h4
    · rw [if_neg (show ¬ tb f ((5 : Int)).toNat = true from z), if_neg (fun z => z rfl), lt_t, h102 5 (by omega) (by omega)]
      rw [if_neg z] at p
      exact j138 _ _ _ p h3 h4
  have h4 : ∀ M3 : Int, (M3 = if sd t f 3 = true then m 3 else -1) → g193_j98 f (hd3 (sd t f) m 3) (if (sd t f 0 && (sd t f 1 && sd t f 2)) = true then 0 else 1) M3 S = some (one (cB (sd t f 0) (sd t f 1) (sd t f 2) (sd t f 3) (sd t f 4) (sd t f 5) m), S) := by
    intro M3 h3
    unfold g193_j98
    rw [lt_t, lt_t, e4]
    have p := pk 4 (by omega)
    by_cases z : tb f 4 = true
    · rw [if_pos (show tb f ((4 : Int)).toNat = true from z), if_pos (by decide)]
      rw [if_pos z] at p
      exact h5 _ _ h3 p
    · rw [if_neg (show ¬ tb f ((4 : Int)).toNat = true from z), if_neg (fun z => z rfl), lt_t, h102 4 (by omega) (by omega)]
      rw [if_neg z] at p
      exact h5 _ _ h3 p
  rw [lt_t, lt_t, e3]
  have p := pk 3 (by omega)
  by_cases z : tb f 3 = true
  · rw [if_pos (show tb f ((3 : Int)).toNat = true from z), if_pos (by decide)]
    rw [if_pos z] at p
    exact h4 _ p
  · rw [if_neg (show ¬ tb f ((3 : Int)).toNat = true from z), if_neg (fun z => z rfl), lt_t, h102 3 (by omega) (by omega)]
    rw [if_neg z] at p
    exact h4 _ p
end DB
