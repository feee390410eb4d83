/-! the parser: the class's next token -/
/-- what the class's reader reads: bytes c, n of them -/
def px_CS (S : gM) (c : Int → Int) (n : Int) : Prop := (0 ≤ n ∧ n ≤ 700) ∧ gi S 16 10 = n ∧ gi S 54 = c ∧ gr S 16 9 = some 54 ∧ (∀ i, 0 ≤ i → i < n → 0 ≤ c i ∧ c i ≤ 255) ∧ ∀ k, 0 ≤ k → k < 23 → gl S 17 k = px_ky k
section PN
variable {S S' S0 : gM} {c : Int → Int} {n : Int}
theorem px_CS.fr {W : List Nat} (h : px_CS S c n) (hF : Fr W S S') (hw : W.contains 1000016010 = false ∧ W.contains 54 = false ∧ W.contains 17 = false) : px_CS S' c n := by
  obtain ⟨h1, h2, h3, h4, h5, h6⟩ := h
  refine ⟨h1, ?_, ?_, ?_, h5, fun k a b => ?_⟩
  · rw [show gi S' 16 10 = gi S 16 10 from hF.i hw.1]; exact h2
  · rw [show gi S' 54 = gi S 54 from funext fun k => hF.i hw.2.1]; exact h3
  · rw [gr_c hF.1]; exact h4
  · rw [show gl S' 17 k = gl S 17 k from hF.l hw.2.2]; exact h6 k a b
theorem px_sk_w {Q : gM → Prop} (hC : px_CS S0 c n) {K : gM → Option gM} {q : Int} (hq : 0 ≤ q ∧ q ≤ n) (hK : ∀ S p, Fr [1000016011] S0 S → gi S 16 11 = p → px_R px_bl c n q p → Wp Q (K S)) (S : gM) (hF : Fr [1000016011] S0 S) (ha : gi S 16 11 = q) : Wp Q (g33_l21 K 100000 0 S) := by
  have hn := hC.1
  refine upto (n - q).toNat (fun m j => ∀ S : gM, Fr [1000016011] S0 S → gi S 16 11 = q + j → (∀ i, q ≤ i → i < q + j → px_bl (c i)) → Wp Q (g33_l21 K m j S)) ?_ 100000 0 (Nat.zero_le _) (by omega) S hF (by omega) (fun i _ _ => by omega)
  intro m j hj ih S hF ha hb
  dsimp only [g33_l21]
  have C := hC.fr hF ⟨rfl, rfl, rfl⟩
  have e10 := C.2.1
  have e54 := C.2.2.1
  have e9 := C.2.2.2.1
  refine p_if (fun h7 => ?_) (fun h7 => ?_)
  · exact hK S _ hF rfl ⟨by omega, fun i a b => hb i a (by omega), fun z => by omega⟩
  · refine p_lt (p_lt ?_)
    refine p_if (fun h8 => ?_) (fun h8 => ?_)
    · exact hK S _ hF rfl ⟨by omega, fun i a b => hb i a (by omega), fun z => by omega⟩
    · rw [e54]
      refine p_chk e9 (p_lt (p_chk (by omega) (p_lt ?_)))
      have go : px_bl (c (gi S 16 11)) → Wp Q (g33_j67 K (g33_l21 K m) j S) := by
        intro hbl
        unfold g33_j67
        repeat (first | (with_reducible refine p_chk ?_ ?_; (· (first | assumption | omega | (simp only [gi_wi, gl_wl, gl_wi, gi_wl, gi_wcl, gl_wcl, Nat.reduceEqDiff, Int.reduceEq, false_and, true_and, and_true, and_false, if_false, if_true]; omega)))) | with_reducible refine p_lt ?_ | (with_reducible refine p_ckI ?_ ?_; (· (first | omega | (simp only [gi_wi, gl_wl, gl_wi, gi_wl, gi_wcl, gl_wcl, Nat.reduceEqDiff, Int.reduceEq, false_and, true_and, and_true, and_false, if_false, if_true]; omega)))) | (with_reducible refine p_ckJ ?_ ?_; (· (first | omega | (simp only [gi_wi, gl_wl, gl_wi, gi_wl, gi_wcl, gl_wcl, Nat.reduceEqDiff, Int.reduceEq, false_and, true_and, and_true, and_false, if_false, if_true]; omega)))))
        refine ih (by omega) (wi S 16 11 (gi S 16 11 + 1)) (hF.wi rfl) (by simp only [gi_wi, gl_wl, gl_wi, gi_wl, gi_wcl, gl_wcl, Nat.reduceEqDiff, Int.reduceEq, false_and, true_and, and_true, and_false, if_false, if_true]; omega) (fun i a b => ?_)
        by_cases z : i < q + j
        · exact hb i a z
        · rw [show i = gi S 16 11 by omega]; exact hbl
      refine p_if (fun h9 => ?_) (fun h9 => ?_)
      · exact go (Or.inl h9)
      · refine p_chk e9 (p_lt (p_chk (by omega) (p_lt ?_)))
        refine p_if (fun h10 => ?_) (fun h10 => ?_)
        · exact hK S _ hF rfl ⟨by omega, fun i a b => hb i a (by omega), fun _ z => z.elim h9 h10⟩
        · exact go (Or.inr (Classical.not_not.mp h10))
/-- the token's number of a word of eight letters at most -/
def px_TN (t nm : Int) : Prop := (∃ k, (0 ≤ k ∧ k < 23) ∧ t = 256 + k ∧ px_ky k = nm) ∨ (t = 280 ∧ ∀ k, 0 ≤ k → k < 23 → ¬ px_ky k = nm)
theorem px_l133_n (m : Nat) (x : Int) (h : ¬ gi S 16 13 = 280) : g34_l133 (m + 1) x S = some S := by
  dsimp only [g34_l133]
  by_cases z : 23 ≤ x
  · rw [if_pos z]
  · rw [if_neg z, lt_t, if_pos h]
theorem px_l133_w (hK : ∀ k, 0 ≤ k → k < 23 → gl S 17 k = px_ky k) (ht : gi S 16 13 = 280) : Wp (fun S' => Fr [1000016013] S S' ∧ px_TN (gi S' 16 13) (gl S 16 15)) (g34_l133 100000 0 S) := by
  refine upto 23 (fun m k => (∀ j : Int, 0 ≤ j → j < k → ¬ px_ky j = gl S 16 15) → Wp (fun S' => Fr [1000016013] S S' ∧ px_TN (gi S' 16 13) (gl S 16 15)) (g34_l133 (m + 1) k S)) ?_ 99999 0 (Nat.zero_le _) (by omega) (fun j a b => by omega)
  intro m k hk ih hj
  rw [g34_l133]
  dsimp only
  refine p_if (fun h1 => ?_) (fun h1 => ?_)
  · exact p_some ⟨Fr.refl, Or.inr ⟨ht, fun j a b => hj j a (by omega)⟩⟩
  · refine p_lt ?_
    refine p_if (fun h2 => absurd ht h2) (fun h2 => ?_)
    refine p_chk (by omega) (p_lt (p_lt ?_))
    rw [hK k (by omega) (by omega)]
    refine p_if (fun h3 => ?_) (fun h3 => ?_)
    · refine p_ckI (by omega) ?_
      refine ih (by omega) (fun j a b => ?_)
      by_cases z : j = k
      · rw [z]; exact h3
      · exact hj j a (by omega)
    · have h3 := Classical.not_not.mp h3
      refine p_ckI (by omega) (p_lt (p_ckI (by omega) ?_))
      have hne : ¬ gi (wi S 16 13 (256 + (k : Int))) 16 13 = 280 := by simp only [gi_wi, gl_wl, gl_wi, gi_wl, gi_wcl, gl_wcl, Nat.reduceEqDiff, Int.reduceEq, false_and, true_and, and_true, and_false, if_false, if_true]; omega
      have : g34_l133 (m + 1) ((k : Int) + 1) (wi S 16 13 (256 + (k : Int))) = some (wi S 16 13 (256 + (k : Int))) := px_l133_n m _ hne
      rw [this]
      exact p_some ⟨Fr.refl.wi rfl, Or.inl ⟨k, by omega, by simp only [gi_wi, gl_wl, gl_wi, gi_wl, gi_wcl, gl_wcl, Nat.reduceEqDiff, Int.reduceEq, false_and, true_and, and_true, and_false, if_false, if_true], h3⟩⟩
theorem px_l7_w {Q : gM → Prop} (hC : px_CS S0 c n) {K : gM → Option gM} {p : Int} (hp : 0 ≤ p ∧ p < n) (hK : ∀ S e, Fr [1000016011, 1000016015] S0 S → gi S 16 11 = e → px_R px_le c n p e → (e - p ≤ 8 → gl S 16 15 = px_w c p (e - p).toNat) → Wp Q (K S)) (S : gM) (hF : Fr [1000016011, 1000016015] S0 S) (ha : gi S 16 11 = p) (h0 : gl S 16 15 = 0) : Wp Q (g34_l7 K 100000 0 S) := by
  have hn := hC.1
  refine upto (n - p).toNat (fun m j => ∀ S : gM, Fr [1000016011, 1000016015] S0 S → gi S 16 11 = p + j → (∀ i, p ≤ i → i < p + j → px_le (c i)) → (j ≤ 8 → gl S 16 15 = px_w c p j) → Wp Q (g34_l7 K m j S)) ?_ 100000 0 (Nat.zero_le _) (by omega) S hF (by omega) (fun i _ _ => by omega) (fun _ => h0)
  intro m j hj ih S hF ha hb hw
  dsimp only [g34_l7]
  have C := hC.fr hF ⟨rfl, rfl, rfl⟩
  have e10 := C.2.1
  have e54 := C.2.2.1
  have e9 := C.2.2.2.1
  have out : (gi S 16 11 < n → ¬ px_le (c (gi S 16 11))) → Wp Q (K S) := fun z => hK S _ hF rfl ⟨by omega, fun i a b => hb i a (by omega), z⟩ (fun w => by rw [hw (by omega)]; congr 1; omega)
  refine p_if (fun h7 => ?_) (fun h7 => ?_)
  · exact out (fun z => by omega)
  · refine p_lt (p_lt ?_)
    refine p_if (fun h8 => ?_) (fun h8 => ?_)
    · exact out (fun z => by omega)
    · rw [e54]
      refine p_chk e9 (p_lt (p_chk (by omega) (p_lt ?_)))
      refine p_if (fun h9 => ?_) (fun h9 => ?_)
      · exact out (fun _ z => by unfold px_le at z; omega)
      · refine p_chk e9 (p_lt (p_chk (by omega) (p_lt ?_)))
        refine p_if (fun h10 => ?_) (fun h10 => ?_)
        · exact out (fun _ z => by unfold px_le at z; omega)
        · have hle : px_le (c (gi S 16 11)) := by unfold px_le; omega
          have more : ∀ i, p ≤ i → i < p + ((j + 1 : Nat) : Int) → px_le (c i) := by
            intro i a b
            by_cases z : i < p + j
            · exact hb i a z
            · rw [show i = gi S 16 11 by omega]; exact hle
          refine p_if (fun h11 => ?_) (fun h11 => ?_)
          · unfold g34_j88
            repeat (first | (with_reducible refine p_chk ?_ ?_; (· (first | assumption | omega | (simp only [gi_wi, gl_wl, gl_wi, gi_wl, gi_wcl, gl_wcl, Nat.reduceEqDiff, Int.reduceEq, false_and, true_and, and_true, and_false, if_false, if_true]; omega)))) | with_reducible refine p_lt ?_ | (with_reducible refine p_ckI ?_ ?_; (· (first | omega | (simp only [gi_wi, gl_wl, gl_wi, gi_wl, gi_wcl, gl_wcl, Nat.reduceEqDiff, Int.reduceEq, false_and, true_and, and_true, and_false, if_false, if_true]; omega)))) | (with_reducible refine p_ckJ ?_ ?_; (· (first | omega | (simp only [gi_wi, gl_wl, gl_wi, gi_wl, gi_wcl, gl_wcl, Nat.reduceEqDiff, Int.reduceEq, false_and, true_and, and_true, and_false, if_false, if_true]; omega)))))
            exact ih (by omega) (wi S 16 11 (gi S 16 11 + 1)) (hF.wi rfl) (by simp only [gi_wi, gl_wl, gl_wi, gi_wl, gi_wcl, gl_wcl, Nat.reduceEqDiff, Int.reduceEq, false_and, true_and, and_true, and_false, if_false, if_true]; omega) more (fun z => by omega)
          · have hw := hw (by omega)
            have wb := (px_w8 (c := c) (p := p) (k := j) (by omega) (fun i hi => hb (p + i) (by omega) (by omega))).1
            rw [← hw] at wb
            have hle2 := hle
            unfold px_le at hle2
            refine p_lt (p_ckJ (by omega) (p_chk e9 (p_lt (p_chk (by omega) (p_lt (p_ckJ (by omega) (p_ckJ (by omega) (p_ckJ (by omega) (p_lt ?_)))))))))
            unfold g34_j88
            repeat (first | (with_reducible refine p_chk ?_ ?_; (· (first | assumption | omega | (simp only [gi_wi, gl_wl, gl_wi, gi_wl, gi_wcl, gl_wcl, Nat.reduceEqDiff, Int.reduceEq, false_and, true_and, and_true, and_false, if_false, if_true]; omega)))) | with_reducible refine p_lt ?_ | (with_reducible refine p_ckI ?_ ?_; (· (first | omega | (simp only [gi_wi, gl_wl, gl_wi, gi_wl, gi_wcl, gl_wcl, Nat.reduceEqDiff, Int.reduceEq, false_and, true_and, and_true, and_false, if_false, if_true]; omega)))) | (with_reducible refine p_ckJ ?_ ?_; (· (first | omega | (simp only [gi_wi, gl_wl, gl_wi, gi_wl, gi_wcl, gl_wcl, Nat.reduceEqDiff, Int.reduceEq, false_and, true_and, and_true, and_false, if_false, if_true]; omega)))))
            have eS : gl (wl S 16 15 (gl S 16 15 * 32 + c (gi S 16 11) - 97 + 1)) 16 15 = px_w c p (j + 1) := by
              simp only [gi_wi, gl_wl, gl_wi, gi_wl, gi_wcl, gl_wcl, Nat.reduceEqDiff, Int.reduceEq, false_and, true_and, and_true, and_false, if_false, if_true]
              rw [px_w_s, ← hw, ← ha]
              omega
            have eA : gi (wl S 16 15 (gl S 16 15 * 32 + c (gi S 16 11) - 97 + 1)) 16 11 = gi S 16 11 := by simp only [gi_wi, gl_wl, gl_wi, gi_wl, gi_wcl, gl_wcl, Nat.reduceEqDiff, Int.reduceEq, false_and, true_and, and_true, and_false, if_false, if_true]
            have F2 : Fr [1000016011, 1000016015] S0 (wl S 16 15 (gl S 16 15 * 32 + c (gi S 16 11) - 97 + 1)) := hF.wl rfl
            generalize wl S 16 15 (gl S 16 15 * 32 + c (gi S 16 11) - 97 + 1) = S2 at *
            exact ih (by omega) (wi S2 16 11 (gi S2 16 11 + 1)) (F2.wi rfl) (by simp only [gi_wi, gl_wl, gl_wi, gi_wl, gi_wcl, gl_wcl, Nat.reduceEqDiff, Int.reduceEq, false_and, true_and, and_true, and_false, if_false, if_true]; omega) more (fun _ => by simp only [gi_wi, gl_wl, gl_wi, gi_wl, gi_wcl, gl_wcl, Nat.reduceEqDiff, Int.reduceEq, false_and, true_and, and_true, and_false, if_false, if_true]; exact eS)
theorem px_l7d_w {Q : gM → Prop} (hC : px_CS S0 c n) {K : gM → Option gM} {p : Int} (hp : 0 ≤ p ∧ p < n) (hK : ∀ S e, Fr [1000016011, 1000016014] S0 S → gi S 16 11 = e → px_R px_di c n p e → (e - p ≤ 7 → gi S 16 14 = px_t c p (e - p).toNat) → Wp Q (K S)) (S : gM) (hF : Fr [1000016011, 1000016014] S0 S) (ha : gi S 16 11 = p) (h0 : gi S 16 14 = 0) : Wp Q (g35_l7 K 100000 0 S) := by
  have hn := hC.1
  refine upto (n - p).toNat (fun m j => ∀ S : gM, Fr [1000016011, 1000016014] S0 S → gi S 16 11 = p + j → (∀ i, p ≤ i → i < p + j → px_di (c i)) → (j ≤ 7 → gi S 16 14 = px_t c p j) → Wp Q (g35_l7 K m j S)) ?_ 100000 0 (Nat.zero_le _) (by omega) S hF (by omega) (fun i _ _ => by omega) (fun _ => h0)
  intro m j hj ih S hF ha hb hw
  dsimp only [g35_l7]
  have C := hC.fr hF ⟨rfl, rfl, rfl⟩
  have e10 := C.2.1
  have e54 := C.2.2.1
  have e9 := C.2.2.2.1
  have out : (gi S 16 11 < n → ¬ px_di (c (gi S 16 11))) → Wp Q (K S) := fun z => hK S _ hF rfl ⟨by omega, fun i a b => hb i a (by omega), z⟩ (fun w => by rw [hw (by omega)]; congr 1; omega)
  refine p_if (fun h7 => ?_) (fun h7 => ?_)
  · exact out (fun z => by omega)
  · refine p_lt (p_lt ?_)
    refine p_if (fun h8 => ?_) (fun h8 => ?_)
    · exact out (fun z => by omega)
    · rw [e54]
      refine p_chk e9 (p_lt (p_chk (by omega) (p_lt ?_)))
      refine p_if (fun h9 => ?_) (fun h9 => ?_)
      · exact out (fun _ z => by unfold px_di at z; omega)
      · refine p_chk e9 (p_lt (p_chk (by omega) (p_lt ?_)))
        refine p_if (fun h10 => ?_) (fun h10 => ?_)
        · exact out (fun _ z => by unfold px_di at z; omega)
        · have hle : px_di (c (gi S 16 11)) := by unfold px_di; omega
          have more : ∀ i, p ≤ i → i < p + ((j + 1 : Nat) : Int) → px_di (c i) := by
            intro i a b
            by_cases z : i < p + j
            · exact hb i a z
            · rw [show i = gi S 16 11 by omega]; exact hle
          refine p_if (fun h11 => ?_) (fun h11 => ?_)
          · unfold g35_j83
            repeat (first | (with_reducible refine p_chk ?_ ?_; (· (first | assumption | omega | (simp only [gi_wi, gl_wl, gl_wi, gi_wl, gi_wcl, gl_wcl, Nat.reduceEqDiff, Int.reduceEq, false_and, true_and, and_true, and_false, if_false, if_true]; omega)))) | with_reducible refine p_lt ?_ | (with_reducible refine p_ckI ?_ ?_; (· (first | omega | (simp only [gi_wi, gl_wl, gl_wi, gi_wl, gi_wcl, gl_wcl, Nat.reduceEqDiff, Int.reduceEq, false_and, true_and, and_true, and_false, if_false, if_true]; omega)))) | (with_reducible refine p_ckJ ?_ ?_; (· (first | omega | (simp only [gi_wi, gl_wl, gl_wi, gi_wl, gi_wcl, gl_wcl, Nat.reduceEqDiff, Int.reduceEq, false_and, true_and, and_true, and_false, if_false, if_true]; omega)))))
            exact ih (by omega) (wi S 16 11 (gi S 16 11 + 1)) (hF.wi rfl) (by simp only [gi_wi, gl_wl, gl_wi, gi_wl, gi_wcl, gl_wcl, Nat.reduceEqDiff, Int.reduceEq, false_and, true_and, and_true, and_false, if_false, if_true]; omega) more (fun z => by omega)
          · have hw := hw (by omega)
            have wb := px_t7 (c := c) (p := p) (k := j) (by omega) (fun i hi => hb (p + i) (by omega) (by omega))
            rw [← hw] at wb
            have hle2 := hle
            unfold px_di at hle2
            refine p_lt (p_ckI (by omega) (p_chk e9 (p_lt (p_chk (by omega) (p_lt (p_ckI (by omega) (p_ckI (by omega) (p_lt ?_))))))))
            unfold g35_j83
            repeat (first | (with_reducible refine p_chk ?_ ?_; (· (first | assumption | omega | (simp only [gi_wi, gl_wl, gl_wi, gi_wl, gi_wcl, gl_wcl, Nat.reduceEqDiff, Int.reduceEq, false_and, true_and, and_true, and_false, if_false, if_true]; omega)))) | with_reducible refine p_lt ?_ | (with_reducible refine p_ckI ?_ ?_; (· (first | omega | (simp only [gi_wi, gl_wl, gl_wi, gi_wl, gi_wcl, gl_wcl, Nat.reduceEqDiff, Int.reduceEq, false_and, true_and, and_true, and_false, if_false, if_true]; omega)))) | (with_reducible refine p_ckJ ?_ ?_; (· (first | omega | (simp only [gi_wi, gl_wl, gl_wi, gi_wl, gi_wcl, gl_wcl, Nat.reduceEqDiff, Int.reduceEq, false_and, true_and, and_true, and_false, if_false, if_true]; omega)))))
            have eS : gi (wi S 16 14 (gi S 16 14 * 10 + c (gi S 16 11) - 48)) 16 14 = px_t c p (j + 1) := by
              simp only [gi_wi, gl_wl, gl_wi, gi_wl, gi_wcl, gl_wcl, Nat.reduceEqDiff, Int.reduceEq, false_and, true_and, and_true, and_false, if_false, if_true]
              rw [px_t_s, ← hw, ← ha]
              omega
            have eA : gi (wi S 16 14 (gi S 16 14 * 10 + c (gi S 16 11) - 48)) 16 11 = gi S 16 11 := by simp only [gi_wi, gl_wl, gl_wi, gi_wl, gi_wcl, gl_wcl, Nat.reduceEqDiff, Int.reduceEq, false_and, true_and, and_true, and_false, if_false, if_true]
            have F2 : Fr [1000016011, 1000016014] S0 (wi S 16 14 (gi S 16 14 * 10 + c (gi S 16 11) - 48)) := hF.wi rfl
            generalize wi S 16 14 (gi S 16 14 * 10 + c (gi S 16 11) - 48) = S2 at *
            exact ih (by omega) (wi S2 16 11 (gi S2 16 11 + 1)) (F2.wi rfl) (by simp only [gi_wi, gl_wl, gl_wi, gi_wl, gi_wcl, gl_wcl, Nat.reduceEqDiff, Int.reduceEq, false_and, true_and, and_true, and_false, if_false, if_true]; omega) more (fun _ => by simp only [gi_wi, gl_wl, gl_wi, gi_wl, gi_wcl, gl_wcl, Nat.reduceEqDiff, Int.reduceEq, false_and, true_and, and_true, and_false, if_false, if_true]; exact eS)
/-- the token that begins at p -/
def px_TK (S : gM) (c : Int → Int) (n p : Int) : Prop := gi S 16 12 = p ∧ (0 ≤ p ∧ p ≤ n) ∧ (
  (p = n ∧ gi S 16 13 = 282) ∨
  (p < n ∧ px_le (c p) ∧ px_R px_le c n p (gi S 16 11) ∧ ((gi S 16 11 - p ≤ 8 ∧ gl S 16 15 = px_w c p (gi S 16 11 - p).toNat ∧ px_TN (gi S 16 13) (gl S 16 15)) ∨ (8 < gi S 16 11 - p ∧ gi S 16 13 = 283))) ∨
  (p < n ∧ px_di (c p) ∧ px_R px_di c n p (gi S 16 11) ∧ ((gi S 16 11 - p ≤ 7 ∧ gi S 16 14 = px_t c p (gi S 16 11 - p).toNat ∧ gi S 16 13 = 281) ∨ (7 < gi S 16 11 - p ∧ gi S 16 13 = 283))) ∨
  (p < n ∧ ¬ px_le (c p) ∧ ¬ px_di (c p) ∧ gi S 16 11 = p + 1 ∧ ((px_sg (c p) ∧ gi S 16 13 = c p) ∨ (¬ px_sg (c p) ∧ gi S 16 13 = 283))))
def px_tw : List Nat := [1000016011, 1000016012, 1000016013, 1000016014, 1000016015]
theorem px_36_eq (x : Int) : g36 x S = some (one (px_sg x), S) := by
  unfold g36
  by_cases h : px_sg x
  · rw [one_t h]
    rcases h with h | h | h | h | h | h | h | h | h | h | h | h | h <;> subst h <;> rfl
  · rw [one_f h]
    unfold px_sg at h
    simp only [not_or] at h
    obtain ⟨a, b, d, e, f, g, i, j, k, l, m, o, q⟩ := h
    rw [if_neg a, if_neg b, if_neg d, if_neg e, if_neg f, if_neg g, if_neg i, if_neg j, if_neg k, if_neg l, if_neg m, if_neg o, if_neg q]
theorem px_34_w (hC : px_CS S c n) (hp : 0 ≤ gi S 16 12 ∧ gi S 16 12 < n) (ha : gi S 16 11 = gi S 16 12) (hl : px_le (c (gi S 16 12))) : Wp (fun S' => px_TK S' c n (gi S 16 12) ∧ Fr px_tw S S') (g34 S) := by
  unfold g34
  refine p_lt ?_
  have C0 : px_CS (wl S 16 15 0) c n := hC.fr (Fr.refl.wl (W := [1000016011, 1000016015]) (q := 16) (k := 15) rfl) ⟨rfl, rfl, rfl⟩
  have F0 : Fr [1000016011, 1000016015] S (wl S 16 15 0) := Fr.refl.wl rfl
  refine px_l7_w C0 hp (fun S1 e hF h1 hR hw => ?_) (wl S 16 15 0) Fr.refl (by simp only [gi_wi, gl_wl, gl_wi, gi_wl, gi_wcl, gl_wcl, Nat.reduceEqDiff, Int.reduceEq, false_and, true_and, and_true, and_false, if_false, if_true]; exact ha) (by simp only [gi_wi, gl_wl, gl_wi, gi_wl, gi_wcl, gl_wcl, Nat.reduceEqDiff, Int.reduceEq, false_and, true_and, and_true, and_false, if_false, if_true])
  have F1 : Fr [1000016011, 1000016015] S S1 := F0.trans hF
  have C1 := hC.fr F1 ⟨rfl, rfl, rfl⟩
  have p1 : gi S1 16 12 = gi S 16 12 := F1.i rfl
  have hn := hC.1
  have hR1 := hR.1
  unfold g34_j104
  refine p_lt (p_lt (p_ckI (by omega) ?_))
  refine p_if (fun h8 => ?_) (fun h8 => ?_)
  · refine p_lt ?_
    refine p_imp (px_l133_w (S := wi S1 16 13 280) C1.2.2.2.2.2 (by simp only [gi_wi, gl_wl, gl_wi, gi_wl, gi_wcl, gl_wcl, Nat.reduceEqDiff, Int.reduceEq, false_and, true_and, and_true, and_false, if_false, if_true])) (fun S2 h2 => ?_)
    have F2 : Fr [1000016013] S1 S2 := (Fr.refl.wi rfl).trans h2.1
    have a2 : gi S2 16 11 = e := (F2.i rfl).trans h1
    have n2 : gl S2 16 15 = gl S1 16 15 := F2.l rfl
    have t2 : px_TN (gi S2 16 13) (gl S1 16 15) := h2.2
    refine ⟨⟨(F2.i rfl).trans p1, by omega, Or.inr (Or.inl ⟨hp.2, hl, by rw [a2]; exact hR, Or.inl ⟨by omega, ?_, by rw [n2]; exact t2⟩⟩)⟩, (F1.mono rfl).trans (F2.mono rfl)⟩
    rw [n2, a2]; exact hw (by omega)
  · refine p_lt ?_
    have : g34_l133 100000 0 (wi S1 16 13 283) = some (wi S1 16 13 283) := px_l133_n 99999 _ (by simp [gi_wi])
    rw [this]
    refine p_some ⟨⟨?_, by omega, Or.inr (Or.inl ⟨hp.2, hl, ?_, Or.inr ⟨?_, ?_⟩⟩)⟩, (F1.mono rfl).trans (Fr.refl.wi rfl)⟩
    · simp only [gi_wi, gl_wl, gl_wi, gi_wl, gi_wcl, gl_wcl, Nat.reduceEqDiff, Int.reduceEq, false_and, true_and, and_true, and_false, if_false, if_true]; exact p1
    · simp only [gi_wi, gl_wl, gl_wi, gi_wl, gi_wcl, gl_wcl, Nat.reduceEqDiff, Int.reduceEq, false_and, true_and, and_true, and_false, if_false, if_true]; rw [h1]; exact hR
    · simp only [gi_wi, gl_wl, gl_wi, gi_wl, gi_wcl, gl_wcl, Nat.reduceEqDiff, Int.reduceEq, false_and, true_and, and_true, and_false, if_false, if_true]; omega
    · simp only [gi_wi, gl_wl, gl_wi, gi_wl, gi_wcl, gl_wcl, Nat.reduceEqDiff, Int.reduceEq, false_and, true_and, and_true, and_false, if_false, if_true]
theorem px_35_w (hC : px_CS S c n) (hp : 0 ≤ gi S 16 12 ∧ gi S 16 12 < n) (ha : gi S 16 11 = gi S 16 12) (hl : px_di (c (gi S 16 12))) : Wp (fun S' => px_TK S' c n (gi S 16 12) ∧ Fr px_tw S S') (g35 S) := by
  unfold g35
  refine p_lt ?_
  have C0 : px_CS (wi S 16 14 0) c n := hC.fr (Fr.refl.wi (W := [1000016011, 1000016014]) (q := 16) (k := 14) rfl) ⟨rfl, rfl, rfl⟩
  have F0 : Fr [1000016011, 1000016014] S (wi S 16 14 0) := Fr.refl.wi rfl
  refine px_l7d_w C0 hp (fun S1 e hF h1 hR hw => ?_) (wi S 16 14 0) Fr.refl (by simp only [gi_wi, gl_wl, gl_wi, gi_wl, gi_wcl, gl_wcl, Nat.reduceEqDiff, Int.reduceEq, false_and, true_and, and_true, and_false, if_false, if_true]; exact ha) (by simp only [gi_wi, gl_wl, gl_wi, gi_wl, gi_wcl, gl_wcl, Nat.reduceEqDiff, Int.reduceEq, false_and, true_and, and_true, and_false, if_false, if_true])
  have F1 : Fr [1000016011, 1000016014] S S1 := F0.trans hF
  have p1 : gi S1 16 12 = gi S 16 12 := F1.i rfl
  have hn := hC.1
  have hR1 := hR.1
  unfold g35_j99
  refine p_lt (p_lt (p_ckI (by omega) ?_))
  have en : ∀ z, ∀ w : Int, px_R px_di c n (gi S 16 12) (gi S1 16 11) → (gi (wi S1 16 13 z) 16 11 = gi S1 16 11 ∧ gi (wi S1 16 13 z) 16 12 = gi S 16 12 ∧ gi (wi S1 16 13 z) 16 14 = gi S1 16 14 ∧ gi (wi S1 16 13 z) 16 13 = z) := fun z w _ => ⟨by simp only [gi_wi, gl_wl, gl_wi, gi_wl, gi_wcl, gl_wcl, Nat.reduceEqDiff, Int.reduceEq, false_and, true_and, and_true, and_false, if_false, if_true], by simp only [gi_wi, gl_wl, gl_wi, gi_wl, gi_wcl, gl_wcl, Nat.reduceEqDiff, Int.reduceEq, false_and, true_and, and_true, and_false, if_false, if_true]; exact p1, by simp only [gi_wi, gl_wl, gl_wi, gi_wl, gi_wcl, gl_wcl, Nat.reduceEqDiff, Int.reduceEq, false_and, true_and, and_true, and_false, if_false, if_true], by simp only [gi_wi, gl_wl, gl_wi, gi_wl, gi_wcl, gl_wcl, Nat.reduceEqDiff, Int.reduceEq, false_and, true_and, and_true, and_false, if_false, if_true]⟩
  refine p_if (fun h8 => ?_) (fun h8 => ?_)
  · refine p_lt ?_
    obtain ⟨q1, q2, q3, q4⟩ := en 281 0 (by rw [h1]; exact hR)
    refine p_some ⟨⟨q2, by omega, Or.inr (Or.inr (Or.inl ⟨hp.2, hl, by rw [q1, h1]; exact hR, Or.inl ⟨by omega, ?_, q4⟩⟩))⟩, (F1.mono rfl).trans (Fr.refl.wi rfl)⟩
    rw [q3, q1, h1]; exact hw (by omega)
  · refine p_lt ?_
    obtain ⟨q1, q2, q3, q4⟩ := en 283 0 (by rw [h1]; exact hR)
    exact p_some ⟨⟨q2, by omega, Or.inr (Or.inr (Or.inl ⟨hp.2, hl, by rw [q1, h1]; exact hR, Or.inr ⟨by omega, q4⟩⟩))⟩, (F1.mono rfl).trans (Fr.refl.wi rfl)⟩
theorem px_33_w (hC : px_CS S c n) (hf : gi S 16 16 = -1) (hq : 0 ≤ gi S 16 11 ∧ gi S 16 11 ≤ n) : Wp (fun S' => (∃ p, px_R px_bl c n (gi S 16 11) p ∧ px_TK S' c n p) ∧ Fr px_tw S S') (g33 S) := by
  have body : Wp (fun S' => (∃ p, px_R px_bl c n (gi S 16 11) p ∧ px_TK S' c n p) ∧ Fr px_tw S S') (g33_l21 (fun S21 => g33_j83 S21) 100000 0 S) := by
    refine px_sk_w hC hq (fun S1 p hF h1 hR => ?_) S Fr.refl rfl
    have C1 := hC.fr hF ⟨rfl, rfl, rfl⟩
    have hn := hC.1
    have hR1 := hR.1
    have e10 := C1.2.1
    have e54 := C1.2.2.1
    have e9 := C1.2.2.2.1
    unfold g33_j83
    refine p_lt (p_lt (p_lt (p_lt ?_)))
    have a2 : gi (wi S1 16 12 (gi S1 16 11)) 16 11 = p := by simp only [gi_wi, gl_wl, gl_wi, gi_wl, gi_wcl, gl_wcl, Nat.reduceEqDiff, Int.reduceEq, false_and, true_and, and_true, and_false, if_false, if_true]; exact h1
    have b2 : gi (wi S1 16 12 (gi S1 16 11)) 16 12 = p := by simp only [gi_wi, gl_wl, gl_wi, gi_wl, gi_wcl, gl_wcl, Nat.reduceEqDiff, Int.reduceEq, false_and, true_and, and_true, and_false, if_false, if_true]; exact h1
    have F2 : Fr px_tw S (wi S1 16 12 (gi S1 16 11)) := (hF.mono rfl).wi rfl
    generalize wi S1 16 12 (gi S1 16 11) = S2 at *
    have C2 := hC.fr F2 ⟨rfl, rfl, rfl⟩
    have e10 := C2.2.1
    have e54 := C2.2.2.1
    have e9 := C2.2.2.2.1
    have hbyte := hC.2.2.2.2.1 p
    refine p_if (fun h3 => ?_) (fun h3 => ?_)
    · rw [e54, a2]
      refine p_chk e9 (p_lt (p_chk (by omega) (p_lt ?_)))
      have sign : ¬ px_le (c p) → ¬ px_di (c p) → Wp (fun S' => (∃ p, px_R px_bl c n (gi S 16 11) p ∧ px_TK S' c n p) ∧ Fr px_tw S S') (g33_j158 (c p) S2) := by
        intro n1 n2
        unfold g33_j158
        refine p_lt (p_ckI (by omega) (p_lt ?_))
        refine p_call (px_36_eq _) ?_
        dsimp only
        have q1 : gi (wi S2 16 11 (gi S2 16 11 + 1)) 16 11 = p + 1 := by simp only [gi_wi, gl_wl, gl_wi, gi_wl, gi_wcl, gl_wcl, Nat.reduceEqDiff, Int.reduceEq, false_and, true_and, and_true, and_false, if_false, if_true]; omega
        have q2 : gi (wi S2 16 11 (gi S2 16 11 + 1)) 16 12 = p := by simp only [gi_wi, gl_wl, gl_wi, gi_wl, gi_wcl, gl_wcl, Nat.reduceEqDiff, Int.reduceEq, false_and, true_and, and_true, and_false, if_false, if_true]; exact b2
        have F3 : Fr px_tw S (wi S2 16 11 (gi S2 16 11 + 1)) := F2.wi rfl
        generalize wi S2 16 11 (gi S2 16 11 + 1) = S3 at *
        by_cases hs : px_sg (c p)
        · rw [one_t hs, if_neg (by decide)]
          refine p_lt (p_some ⟨⟨p, hR, ?_, by omega, Or.inr (Or.inr (Or.inr ⟨by omega, n1, n2, ?_, Or.inl ⟨hs, ?_⟩⟩))⟩, F3.wi rfl⟩)
          · simp only [gi_wi, gl_wl, gl_wi, gi_wl, gi_wcl, gl_wcl, Nat.reduceEqDiff, Int.reduceEq, false_and, true_and, and_true, and_false, if_false, if_true]; exact q2
          · simp only [gi_wi, gl_wl, gl_wi, gi_wl, gi_wcl, gl_wcl, Nat.reduceEqDiff, Int.reduceEq, false_and, true_and, and_true, and_false, if_false, if_true]; exact q1
          · simp only [gi_wi, gl_wl, gl_wi, gi_wl, gi_wcl, gl_wcl, Nat.reduceEqDiff, Int.reduceEq, false_and, true_and, and_true, and_false, if_false, if_true]
        · rw [one_f hs, if_pos rfl]
          refine p_lt (p_some ⟨⟨p, hR, ?_, by omega, Or.inr (Or.inr (Or.inr ⟨by omega, n1, n2, ?_, Or.inr ⟨hs, ?_⟩⟩))⟩, F3.wi rfl⟩)
          · simp only [gi_wi, gl_wl, gl_wi, gi_wl, gi_wcl, gl_wcl, Nat.reduceEqDiff, Int.reduceEq, false_and, true_and, and_true, and_false, if_false, if_true]; exact q2
          · simp only [gi_wi, gl_wl, gl_wi, gi_wl, gi_wcl, gl_wcl, Nat.reduceEqDiff, Int.reduceEq, false_and, true_and, and_true, and_false, if_false, if_true]; exact q1
          · simp only [gi_wi, gl_wl, gl_wi, gi_wl, gi_wcl, gl_wcl, Nat.reduceEqDiff, Int.reduceEq, false_and, true_and, and_true, and_false, if_false, if_true]
      have nodig : ¬ px_le (c p) → Wp (fun S' => (∃ p, px_R px_bl c n (gi S 16 11) p ∧ px_TK S' c n p) ∧ Fr px_tw S S') (g33_j139 (c p) S2) := by
        intro n1
        unfold g33_j139
        refine p_if (fun h4 => sign n1 (fun z => by unfold px_di at z; omega)) (fun h4 => ?_)
        refine p_if (fun h5 => sign n1 (fun z => by unfold px_di at z; omega)) (fun h5 => ?_)
        refine p_bind (p_imp (px_35_w C2 (by omega) (by omega) (by rw [b2]; unfold px_di; omega)) (fun S3 h6 => ?_))
        exact p_some ⟨⟨p, hR, by rw [← b2]; exact h6.1⟩, F2.trans h6.2⟩
      refine p_if (fun h4 => nodig (fun z => by unfold px_le at z; omega)) (fun h4 => ?_)
      refine p_if (fun h5 => nodig (fun z => by unfold px_le at z; omega)) (fun h5 => ?_)
      refine p_bind (p_imp (px_34_w C2 (by omega) (by omega) (by rw [b2]; unfold px_le; omega)) (fun S3 h6 => ?_))
      exact p_some ⟨⟨p, hR, by rw [← b2]; exact h6.1⟩, F2.trans h6.2⟩
    · refine p_lt (p_some ⟨⟨p, hR, ?_, by omega, Or.inl ⟨by omega, ?_⟩⟩, F2.wi rfl⟩)
      · simp only [gi_wi, gl_wl, gl_wi, gi_wl, gi_wcl, gl_wcl, Nat.reduceEqDiff, Int.reduceEq, false_and, true_and, and_true, and_false, if_false, if_true]; exact b2
      · simp only [gi_wi, gl_wl, gl_wi, gi_wl, gi_wcl, gl_wcl, Nat.reduceEqDiff, Int.reduceEq, false_and, true_and, and_true, and_false, if_false, if_true]
  unfold g33
  refine p_lt ?_
  refine p_if (fun h1 => body) (fun h1 => ?_)
  refine p_lt ?_
  refine p_if (fun h2 => body) (fun h2 => absurd hf h2)
end PN
