/-! a new Law -/
/-- one cell more, with an array of ints -/
def px_NW (S S' : gM) (n : Int) (f : Int → Int) : Prop := gn S' = gn S + 1 ∧ gs S' = gs S + n.toNat ∧ (∀ a k, ¬ a = gn S → gi S' a k = gi S a k ∧ gl S' a k = gl S a k) ∧ gln S' (gn S) 0 = n ∧ Gw S S' ∧ ∀ k, 0 ≤ k → k < n → gi S' (gn S) k = f k
section AL
variable {S S' S'' X : gM} {q : Nat}
theorem Gw.refl : Gw S S := ⟨Nat.le_refl _, fun _ _ h => h, fun _ _ _ => rfl, fun _ _ _ => rfl⟩
theorem Gw.trans (h : Gw S S') (h2 : Gw S' S'') : Gw S S'' := ⟨Nat.le_trans h.1 h2.1, fun q a z => h2.2.1 q a (h.2.1 q a z), fun q a z => by
  have e := h.2.2.1 q a z
  rw [h2.2.2.1 q a (by rw [e]; exact z), e], fun q k z => by rw [h2.2.2.2 q k (Nat.lt_of_lt_of_le z h.1), h.2.2.2 q k z]⟩
theorem px_gln_mk (S : gM) (n : Int) (hn : 0 ≤ n) (w : Nat) (f : Int → Int) : gln (gmk S (.inr (0, n.toNat)) w f) (gn S) 0 = n := by
  unfold gln
  rw [if_pos (show gn S < gn (gmk S (.inr (0, n.toNat)) w f) from Nat.lt_succ_self _), show gsh (gmk S (.inr (0, n.toNat)) w f) (gn S) = .inr (0, n.toNat) from if_pos rfl]
  dsimp only
  rw [if_pos rfl]
  omega
theorem px_gob_mk (S : gM) (a : Nat) (w : Nat) (f : Int → Int) : gob (gmk S (.inl a) w f) (gn S) a = true := by
  unfold gob
  rw [show gsh (gmk S (.inl a) w f) (gn S) = .inl a from if_pos rfl, decide_eq_true (show gn S < gn (gmk S (.inl a) w f) from Nat.lt_succ_self _)]
  simp
theorem px_mk (S : gM) (n : Int) (hn : 0 ≤ n) (f : Int → Int) : px_NW S (gmk S (.inr (0, n.toNat)) n.toNat f) n f := by
  refine ⟨rfl, rfl, fun a k h => ⟨if_neg h, if_neg h⟩, px_gln_mk S n hn _ f, Gw.mk S _ _ f, fun k _ _ => if_pos rfl⟩
/-- Arrays.copyOf -/
theorem px_201_w {x0 : Nat} {n len : Int} (hl : gln S x0 0 = len) (h0 : 0 ≤ n ∧ n ≤ len) (h1 : len ≤ 1000) : Wp (fun r => r.1 = some (gn S) ∧ px_NW S r.2 n (gi S x0)) (g201 x0 n S) := by
  have hx := gln_lt (S := S) (q := x0) (a := 0) (by omega)
  unfold g201
  rw [hl]
  refine p_chk (by omega) (p_chk (by omega) ?_)
  refine p_if (fun h2 => ?_) (fun h2 => ?_)
  · refine p_chk (by omega) (p_lt ?_)
    obtain ⟨a1, a2, a3, a4, a5, a6⟩ := px_mk S n h0.1 (fun _ => 0)
    generalize gmk S (.inr (0, n.toNat)) n.toNat (fun _ => 0) = S1 at *
    have l1 : gln S1 x0 0 = len := (a5.2.2.1 x0 0 (by omega)).trans hl
    rw [l1, a4]
    refine p_chk (by omega) (p_chk (by omega) (p_lt ?_))
    rw [show min len n = n by omega]
    refine p_chk (by omega) (p_chk (by omega) (p_chk (by omega) (p_lt (p_some ⟨rfl, a1, a2, fun a k h => ?_, a4, a5, fun k k1 k2 => ?_⟩))))
    · refine ⟨?_, (a3 a k h).2⟩
      show (if a = gn S ∧ 0 ≤ k ∧ k < 0 + n then _ else gi S1 a k) = _
      rw [if_neg (fun z => h z.1)]
      exact (a3 a k h).1
    · show (if gn S = gn S ∧ 0 ≤ k ∧ k < 0 + n then gi S1 x0 (0 + (k - 0)) else _) = _
      rw [if_pos ⟨rfl, by omega, by omega⟩, (a3 x0 _ (by omega)).1]
      congr 1
      omega
  · have h2 := Classical.not_not.mp h2
    subst h2
    refine p_chk (by omega) (p_lt ?_)
    have k := px_mk S n h0.1 (gi S x0)
    refine p_chk (by rw [k.2.2.2.1]; omega) (p_some ⟨rfl, k⟩)
/-- what stands in the class's new Law -/
def px_LN (S S' : gM) (a b d : Int) : Prop :=
  gn S' = gn S + 5 ∧ gs S' = gs S + (16 + 3 * (gi S 16 7).toNat + (gi S 16 6).toNat) ∧ Gw S S' ∧ (∀ x k, (x < gn S ∨ gn S + 5 ≤ x) → gi S' x k = gi S x k ∧ gl S' x k = gl S x k) ∧
  gob S' (gn S) 1 = true ∧ (gr S' (gn S) 5 = some (gn S + 1) ∧ gr S' (gn S) 6 = some (gn S + 2) ∧ gr S' (gn S) 7 = some (gn S + 3) ∧ gr S' (gn S) 8 = some (gn S + 4)) ∧
  (gln S' (gn S + 1) 0 = 6 ∧ gln S' (gn S + 2) 0 = gi S 16 7 ∧ gln S' (gn S + 3) 0 = 2 * gi S 16 7 + 1 ∧ gln S' (gn S + 4) 0 = gi S 16 6) ∧
  (gi S' (gn S) 0 = a ∧ gi S' (gn S) 1 = b ∧ gi S' (gn S) 2 = d ∧ gi S' (gn S) 3 = gi S 16 8 ∧ gi S' (gn S) 4 = gi S 16 7) ∧
  (∀ k, gi S' (gn S + 1) k = gi S 22 k) ∧ (∀ k, 0 ≤ k → k < gi S 16 7 → gi S' (gn S + 2) k = gi S 20 k) ∧ (∀ k, 0 ≤ k → k < 2 * gi S 16 7 + 1 → gi S' (gn S + 3) k = gi S 19 k) ∧ (∀ k, 0 ≤ k → k < gi S 16 6 → gi S' (gn S + 4) k = gi S 18 k)
theorem px_wr_gw (h : Gw S X) (hq : gn S ≤ q) (k : Nat) (v : Option Nat) : Gw S (wr X q k v) := ⟨h.1, h.2.1, h.2.2.1, fun a j z => by
  show (if a = q ∧ j = k then v else gr X a j) = _
  rw [if_neg (fun w => by omega)]
  exact h.2.2.2 a j z⟩
theorem gr_wr (X : gM) (q k : Nat) (v : Option Nat) (a j : Nat) : gr (wr X q k v) a j = if a = q ∧ j = k then v else gr X a j := rfl
set_option maxHeartbeats 1000000 in
theorem px_law_w (a b d : Int) (hg : 103 ≤ gn S) (hl : gln S 22 0 = 6 ∧ gln S 20 0 = 30 ∧ gln S 19 0 = 61 ∧ gln S 18 0 = 700) (h7 : 0 ≤ gi S 16 7 ∧ gi S 16 7 ≤ 30) (h6 : 0 ≤ gi S 16 6 ∧ gi S 16 6 ≤ 700) : Wp (fun S' => px_LN S S' a b d) (g8 (gn S) a b d (gmk S (.inl 1) (vg_N 1) (fun _ => 0))) := by
  obtain ⟨l22, l20, l19, l18⟩ := hl
  unfold g8
  have g0 := Gw.mk S (.inl 1) (vg_N 1) (fun _ => 0)
  have o0 := px_gob_mk S 1 (vg_N 1) (fun _ => 0)
  have n0 : gn (gmk S (.inl 1) (vg_N 1) (fun _ => 0)) = gn S + 1 := rfl
  have s0 : gs (gmk S (.inl 1) (vg_N 1) (fun _ => 0)) = gs S + 9 := rfl
  have c0 : ∀ x k, ¬ x = gn S → gi (gmk S (.inl 1) (vg_N 1) (fun _ => 0)) x k = gi S x k ∧ gl (gmk S (.inl 1) (vg_N 1) (fun _ => 0)) x k = gl S x k := fun x k h => ⟨if_neg h, if_neg h⟩
  generalize gmk S (.inl 1) (vg_N 1) (fun _ => 0) = S1 at *
  refine p_chk o0 (p_lt (p_chk o0 (p_lt (p_chk o0 (p_lt (p_lt (p_chk o0 (p_lt (p_lt (p_chk o0 (p_lt ?_)))))))))))
  have q16 : ¬ 16 = gn S := by omega
  have e8 : gi (wi (wi (wi S1 (gn S) 0 a) (gn S) 1 b) (gn S) 2 d) 16 8 = gi S 16 8 := by
    rw [gi_wi, if_neg (fun z => q16 z.1), gi_wi, if_neg (fun z => q16 z.1), gi_wi, if_neg (fun z => q16 z.1), (c0 16 8 q16).1]
  rw [e8]
  have e7 : gi (wi (wi (wi (wi S1 (gn S) 0 a) (gn S) 1 b) (gn S) 2 d) (gn S) 3 (gi S 16 8)) 16 7 = gi S 16 7 := by
    rw [gi_wi, if_neg (fun z => q16 z.1), gi_wi, if_neg (fun z => q16 z.1), gi_wi, if_neg (fun z => q16 z.1), gi_wi, if_neg (fun z => q16 z.1), (c0 16 7 q16).1]
  rw [e7]
  have W2 : ∀ x k, ¬ x = gn S → gi (wi (wi (wi (wi (wi S1 (gn S) 0 a) (gn S) 1 b) (gn S) 2 d) (gn S) 3 (gi S 16 8)) (gn S) 4 (gi S 16 7)) x k = gi S x k ∧ gl (wi (wi (wi (wi (wi S1 (gn S) 0 a) (gn S) 1 b) (gn S) 2 d) (gn S) 3 (gi S 16 8)) (gn S) 4 (gi S 16 7)) x k = gl S x k := fun x k h => ⟨by
    rw [gi_wi, if_neg (fun z => h z.1), gi_wi, if_neg (fun z => h z.1), gi_wi, if_neg (fun z => h z.1), gi_wi, if_neg (fun z => h z.1), gi_wi, if_neg (fun z => h z.1), (c0 x k h).1], (c0 x k h).2⟩
  have V2 : gi (wi (wi (wi (wi (wi S1 (gn S) 0 a) (gn S) 1 b) (gn S) 2 d) (gn S) 3 (gi S 16 8)) (gn S) 4 (gi S 16 7)) (gn S) 0 = a ∧ gi (wi (wi (wi (wi (wi S1 (gn S) 0 a) (gn S) 1 b) (gn S) 2 d) (gn S) 3 (gi S 16 8)) (gn S) 4 (gi S 16 7)) (gn S) 1 = b ∧ gi (wi (wi (wi (wi (wi S1 (gn S) 0 a) (gn S) 1 b) (gn S) 2 d) (gn S) 3 (gi S 16 8)) (gn S) 4 (gi S 16 7)) (gn S) 2 = d ∧ gi (wi (wi (wi (wi (wi S1 (gn S) 0 a) (gn S) 1 b) (gn S) 2 d) (gn S) 3 (gi S 16 8)) (gn S) 4 (gi S 16 7)) (gn S) 3 = gi S 16 8 ∧ gi (wi (wi (wi (wi (wi S1 (gn S) 0 a) (gn S) 1 b) (gn S) 2 d) (gn S) 3 (gi S 16 8)) (gn S) 4 (gi S 16 7)) (gn S) 4 = gi S 16 7 := by simp [gi_wi]
  have H2 : (wi (wi (wi (wi (wi S1 (gn S) 0 a) (gn S) 1 b) (gn S) 2 d) (gn S) 3 (gi S 16 8)) (gn S) 4 (gi S 16 7)).2.2 = S1.2.2 := rfl
  generalize wi (wi (wi (wi (wi S1 (gn S) 0 a) (gn S) 1 b) (gn S) 2 d) (gn S) 3 (gi S 16 8)) (gn S) 4 (gi S 16 7) = S2 at *
  have g2 : Gw S S2 := ⟨by rw [gn_c H2]; exact g0.1, fun x y z => by rw [gob_c H2]; exact g0.2.1 x y z, fun x y z => by rw [gln_c H2]; exact g0.2.2.1 x y z, fun x y z => by rw [gr_c H2]; exact g0.2.2.2 x y z⟩
  have o2 : gob S2 (gn S) 1 = true := by rw [gob_c H2]; exact o0
  have n2 : gn S2 = gn S + 1 := by rw [gn_c H2]; exact n0
  have s2 : gs S2 = gs S + 9 := by rw [gs_c H2]; exact s0
  clear c0 H2 e8 e7 n0 s0 o0 g0
  -- told
  refine p_lt ?_
  have k3 := px_mk S2 6 (by decide) (gi S2 22)
  have f3 : ∀ k, gi (gmk S2 (.inr (0, (6 : Int).toNat)) (6 : Int).toNat (gi S2 22)) (gn S2) k = gi S2 22 k := fun k => if_pos rfl
  generalize gmk S2 (.inr (0, (6 : Int).toNat)) (6 : Int).toNat (gi S2 22) = S3 at *
  obtain ⟨n3, s3, c3, m3, g3, -⟩ := k3
  rw [n2] at n3 c3 m3 f3 ⊢
  refine p_chk (by rw [m3]; decide) (p_chk (g3.2.1 _ _ o2) (p_chk hg (p_lt (p_lt ?_))))
  have g4 : Gw S (wr S3 (gn S) 5 (some (gn S + 1))) := px_wr_gw (g2.trans g3) (Nat.le_refl _) 5 _
  have o4 : gob (wr S3 (gn S) 5 (some (gn S + 1))) (gn S) 1 = true := g3.2.1 _ _ o2
  have n4 : gn (wr S3 (gn S) 5 (some (gn S + 1))) = gn S + 2 := n3
  have s4 : gs (wr S3 (gn S) 5 (some (gn S + 1))) = gs S + 15 := by
    show gs S3 = _
    rw [s3, s2]; rfl
  have c4 : ∀ x k, ¬ x = gn S + 1 → gi (wr S3 (gn S) 5 (some (gn S + 1))) x k = gi S2 x k ∧ gl (wr S3 (gn S) 5 (some (gn S + 1))) x k = gl S2 x k := c3
  have r4 : gr (wr S3 (gn S) 5 (some (gn S + 1))) (gn S) 5 = some (gn S + 1) := by rw [gr_wr, if_pos ⟨rfl, rfl⟩]
  have m4 : gln (wr S3 (gn S) 5 (some (gn S + 1))) (gn S + 1) 0 = 6 := m3
  have f4 : ∀ k, gi (wr S3 (gn S) 5 (some (gn S + 1))) (gn S + 1) k = gi S 22 k := fun k => (f3 k).trans (W2 22 k (by omega)).1
  generalize wr S3 (gn S) 5 (some (gn S + 1)) = S4 at *
  have e7 : gi S4 16 7 = gi S 16 7 := (c4 16 7 (by omega)).1.trans (W2 16 7 (by omega)).1
  rw [e7]
  clear n3 s3 c3 m3 g3 f3
  -- statementOf
  refine p_lt ?_
  rw [show max 0 (gi S 16 7) = gi S 16 7 by omega]
  refine p_bind (p_imp (px_201_w (S := S4) (x0 := 20) (n := gi S 16 7) (len := 30) ((g4.2.2.1 20 0 (by omega)).trans l20) h7 (by decide)) (fun r hr => ?_))
  obtain ⟨e5, n5, s5, c5, m5, g5, f5⟩ := hr
  rw [n4] at e5 n5 c5 m5 f5
  rw [e5]
  refine p_lt (p_chk (g5.2.1 _ _ o4) (p_chk hg (p_lt (p_lt ?_))))
  have g6 : Gw S (wr r.2 (gn S) 6 (some (gn S + 2))) := px_wr_gw (g4.trans g5) (Nat.le_refl _) 6 _
  have o6 : gob (wr r.2 (gn S) 6 (some (gn S + 2))) (gn S) 1 = true := g5.2.1 _ _ o4
  have n6 : gn (wr r.2 (gn S) 6 (some (gn S + 2))) = gn S + 3 := n5
  have s6 : gs (wr r.2 (gn S) 6 (some (gn S + 2))) = gs S + 15 + (gi S 16 7).toNat := by
    show gs r.2 = _
    rw [s5, s4]
  have c6 : ∀ x k, ¬ x = gn S + 2 → gi (wr r.2 (gn S) 6 (some (gn S + 2))) x k = gi S4 x k ∧ gl (wr r.2 (gn S) 6 (some (gn S + 2))) x k = gl S4 x k := c5
  have r6 : gr (wr r.2 (gn S) 6 (some (gn S + 2))) (gn S) 5 = some (gn S + 1) ∧ gr (wr r.2 (gn S) 6 (some (gn S + 2))) (gn S) 6 = some (gn S + 2) := by
    rw [gr_wr, gr_wr, if_neg (fun z => by omega), if_pos ⟨rfl, rfl⟩, g5.2.2.2 _ _ (by omega)]
    exact ⟨r4, rfl⟩
  have m6 : gln (wr r.2 (gn S) 6 (some (gn S + 2))) (gn S + 1) 0 = 6 ∧ gln (wr r.2 (gn S) 6 (some (gn S + 2))) (gn S + 2) 0 = gi S 16 7 := ⟨(g5.2.2.1 _ _ (by rw [m4]; decide)).trans m4, m5⟩
  have f6 : ∀ k, 0 ≤ k → k < gi S 16 7 → gi (wr r.2 (gn S) 6 (some (gn S + 2))) (gn S + 2) k = gi S 20 k := fun k k1 k2 => (f5 k k1 k2).trans ((c4 20 k (by omega)).1.trans (W2 20 k (by omega)).1)
  generalize wr r.2 (gn S) 6 (some (gn S + 2)) = S6 at *
  have e7 : gi S6 16 7 = gi S 16 7 := (c6 16 7 (by omega)).1.trans e7
  rw [e7]
  clear e5 n5 s5 c5 m5 g5 f5
  -- starts
  refine p_ckI (by omega) (p_ckI (by omega) (p_lt ?_))
  rw [show max 0 (2 * gi S 16 7 + 1) = 2 * gi S 16 7 + 1 by omega]
  refine p_bind (p_imp (px_201_w (S := S6) (x0 := 19) (n := 2 * gi S 16 7 + 1) (len := 61) ((g6.2.2.1 19 0 (by omega)).trans l19) (by omega) (by decide)) (fun r hr => ?_))
  obtain ⟨e5, n5, s5, c5, m5, g5, f5⟩ := hr
  rw [n6] at e5 n5 c5 m5 f5
  rw [e5]
  refine p_lt (p_chk (g5.2.1 _ _ o6) (p_chk hg (p_lt (p_lt ?_))))
  have g8 : Gw S (wr r.2 (gn S) 7 (some (gn S + 3))) := px_wr_gw (g6.trans g5) (Nat.le_refl _) 7 _
  have o8 : gob (wr r.2 (gn S) 7 (some (gn S + 3))) (gn S) 1 = true := g5.2.1 _ _ o6
  have n8 : gn (wr r.2 (gn S) 7 (some (gn S + 3))) = gn S + 4 := n5
  have s8 : gs (wr r.2 (gn S) 7 (some (gn S + 3))) = gs S + 15 + (gi S 16 7).toNat + (2 * gi S 16 7 + 1).toNat := by
    show gs r.2 = _
    rw [s5, s6]
  have c8 : ∀ x k, ¬ x = gn S + 3 → gi (wr r.2 (gn S) 7 (some (gn S + 3))) x k = gi S6 x k ∧ gl (wr r.2 (gn S) 7 (some (gn S + 3))) x k = gl S6 x k := c5
  have r8 : gr (wr r.2 (gn S) 7 (some (gn S + 3))) (gn S) 5 = some (gn S + 1) ∧ gr (wr r.2 (gn S) 7 (some (gn S + 3))) (gn S) 6 = some (gn S + 2) ∧ gr (wr r.2 (gn S) 7 (some (gn S + 3))) (gn S) 7 = some (gn S + 3) := by
    rw [gr_wr, gr_wr, gr_wr, if_neg (fun z => by omega), if_neg (fun z => by omega), if_pos ⟨rfl, rfl⟩, g5.2.2.2 _ _ (by omega), g5.2.2.2 _ _ (by omega)]
    exact ⟨r6.1, r6.2, rfl⟩
  have m8 : gln (wr r.2 (gn S) 7 (some (gn S + 3))) (gn S + 1) 0 = 6 ∧ gln (wr r.2 (gn S) 7 (some (gn S + 3))) (gn S + 2) 0 = gi S 16 7 ∧ gln (wr r.2 (gn S) 7 (some (gn S + 3))) (gn S + 3) 0 = 2 * gi S 16 7 + 1 := ⟨(g5.2.2.1 _ _ (by rw [m6.1]; decide)).trans m6.1, (g5.2.2.1 _ _ (by rw [m6.2]; omega)).trans m6.2, m5⟩
  have f8 : ∀ k, 0 ≤ k → k < 2 * gi S 16 7 + 1 → gi (wr r.2 (gn S) 7 (some (gn S + 3))) (gn S + 3) k = gi S 19 k := fun k k1 k2 => (f5 k k1 k2).trans ((c6 19 k (by omega)).1.trans ((c4 19 k (by omega)).1.trans (W2 19 k (by omega)).1))
  generalize wr r.2 (gn S) 7 (some (gn S + 3)) = S8 at *
  have e6 : gi S8 16 6 = gi S 16 6 := (c8 16 6 (by omega)).1.trans ((c6 16 6 (by omega)).1.trans ((c4 16 6 (by omega)).1.trans (W2 16 6 (by omega)).1))
  rw [e6]
  clear e5 n5 s5 c5 m5 g5 f5
  -- code
  refine p_lt ?_
  rw [show max 0 (gi S 16 6) = gi S 16 6 by omega]
  refine p_bind (p_imp (px_201_w (S := S8) (x0 := 18) (n := gi S 16 6) (len := 700) ((g8.2.2.1 18 0 (by omega)).trans l18) h6 (by decide)) (fun r hr => ?_))
  obtain ⟨e5, n5, s5, c5, m5, g5, f5⟩ := hr
  rw [n8] at e5 n5 c5 m5 f5
  rw [e5]
  refine p_lt (p_chk (g5.2.1 _ _ o8) (p_chk hg (p_lt (p_some ?_))))
  have all : ∀ x k, ¬ x = gn S + 4 → gi (wr r.2 (gn S) 8 (some (gn S + 4))) x k = gi S8 x k ∧ gl (wr r.2 (gn S) 8 (some (gn S + 4))) x k = gl S8 x k := c5
  refine ⟨n5, ?_, px_wr_gw (g8.trans g5) (Nat.le_refl _) 8 _, fun x k hx => ?_, g5.2.1 _ _ o8, ?_, ?_, ?_, fun k => ?_, fun k k1 k2 => ?_, fun k k1 k2 => ?_, fun k k1 k2 => ?_⟩
  · show gs r.2 = _
    rw [s5, s8]
    omega
  · have a1 := all x k (by omega)
    have a2 := c8 x k (by omega)
    have a3 := c6 x k (by omega)
    have a4 := c4 x k (by omega)
    have a5 := W2 x k (by omega)
    exact ⟨a1.1.trans (a2.1.trans (a3.1.trans (a4.1.trans a5.1))), a1.2.trans (a2.2.trans (a3.2.trans (a4.2.trans a5.2)))⟩
  · rw [gr_wr, gr_wr, gr_wr, gr_wr, if_neg (fun z => by omega), if_neg (fun z => by omega), if_neg (fun z => by omega), if_pos ⟨rfl, rfl⟩, g5.2.2.2 _ _ (by omega), g5.2.2.2 _ _ (by omega), g5.2.2.2 _ _ (by omega)]
    exact ⟨r8.1, r8.2.1, r8.2.2, rfl⟩
  · exact ⟨(g5.2.2.1 _ _ (by rw [m8.1]; decide)).trans m8.1, (g5.2.2.1 _ _ (by rw [m8.2.1]; omega)).trans m8.2.1, (g5.2.2.1 _ _ (by rw [m8.2.2]; omega)).trans m8.2.2, m5⟩
  · have w : ∀ k, gi (wr r.2 (gn S) 8 (some (gn S + 4))) (gn S) k = gi S2 (gn S) k := fun k => (all _ k (by omega)).1.trans ((c8 _ k (by omega)).1.trans ((c6 _ k (by omega)).1.trans (c4 _ k (by omega)).1))
    rw [w, w, w, w, w]
    exact V2
  · exact (all _ k (by omega)).1.trans ((c8 _ k (by omega)).1.trans ((c6 _ k (by omega)).1.trans (f4 k)))
  · exact (all _ k (by omega)).1.trans ((c8 _ k (by omega)).1.trans (f6 k k1 k2))
  · exact (all _ k (by omega)).1.trans (f8 k k1 k2)
  · exact (f5 k k1 k2).trans ((c8 18 k (by omega)).1.trans ((c6 18 k (by omega)).1.trans ((c4 18 k (by omega)).1.trans (W2 18 k (by omega)).1)))
end AL
