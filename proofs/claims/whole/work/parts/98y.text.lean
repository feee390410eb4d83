/-! the parser: a whole text side by side -/
def px_cw3 : List Nat := [1000016008, 1000016010, 1000016007, 19, 20, 21, 22, 1000016006, 18, 1000016011, 1000016012, 1000016013, 1000016014, 1000016015, 1000016016]
def px_rw3 : List Nat := [70, 84, 1000055019, 1000055020, 1000055025, 1000055023, 73, 74, 75, 76, 77, 80, 1000055021, 1000055022, 1000055024, 1000055042, 1000055043, 78, 79]
def px_rwl : List Nat := [70, 1000055025, 1000055023, 73, 74, 75, 76, 77, 80, 1000055021, 1000055022, 1000055024, 1000055042, 1000055043, 78, 79]
/-- what reading a text answers: -1 and all statements, or the fault's place in both -/
def px_RR (y x : Int × gM) : Prop := (y.1 = -1 ∧ x.1 = 1 ∧ gi x.2 55 25 = -1 ∧ ∃ (cd : List (Int × Int)) (i : Nat), px_CD y.2 x.2 cd ∧ px_DI y.2 x.2 cd i ∧ gi x.2 70 9 = i ∧ gi y.2 16 8 = i ∧ i ≤ 30 ∧ (cd.length : Int) ≤ 700) ∨ (0 ≤ y.1 ∧ x.1 = 0 ∧ gi x.2 55 25 = y.1)
def px_RD (S0 T0 : gM) (y x : Int × gM) : Prop := Fr px_cw3 S0 y.2 ∧ px_F px_rwl T0 x.2 ∧ px_RR y x
section TX
variable {S S' S0 T T' T0 : gM} {c r : Int → Int} {n p q f : Int} {cd xs ys : List (Int × Int)} {i : Nat}
theorem px_TK.fin (h : px_TK S c n p) : gi S 16 13 = 282 ↔ p = n := by
  rcases h.2.2 with z | ⟨z1, z2, z3, z4⟩ | ⟨z1, z2, z3, z4⟩ | ⟨z1, z2, z3, z4, z5⟩
  · exact ⟨fun _ => z.1, fun _ => z.2⟩
  · refine ⟨fun w => ?_, fun w => by omega⟩
    rcases z4 with ⟨-, -, y⟩ | ⟨-, y⟩
    · have := y.rng; omega
    · omega
  · refine ⟨fun w => ?_, fun w => by omega⟩
    rcases z4 with ⟨-, -, y⟩ | ⟨-, y⟩ <;> omega
  · refine ⟨fun w => ?_, fun w => by omega⟩
    rcases z5 with ⟨y1, y2⟩ | ⟨y1, y2⟩
    · unfold px_sg at y1; omega
    · omega
/-- the reference ends with a fault -/
theorem px_142_0 : g155_j142 0 T = some (0, wi T 55 25 (gi T 55 21)) := by
  unfold g155_j142
  rw [if_pos rfl, lt_t, lt_t, chk_t (Or.inl rfl)]
theorem px_142_1 : g155_j142 1 T = some (1, wi T 55 25 (-1)) := by
  unfold g155_j142
  rw [if_neg (by decide), lt_t, chk_t (Or.inr rfl)]
theorem px_l66_0 (m : Nat) : g155_l66 (fun Y30 S31 => g155_j142 Y30 S31) (m + 1) 0 T = some (0, wi T 55 25 (gi T 55 21)) := by
  rw [g155_l66]
  dsimp only
  rw [if_pos rfl, px_142_0]
theorem px_end0 (hb : px_BD S f) (F : Fr px_cw3 S0 S) (P : px_F px_rwl T0 T) (ha : gi T 55 21 = f) : W2 (px_RD S0 T0) (g31_j69 S) (some (0, wi T 55 25 (gi T 55 21))) := by
  unfold g31_j69
  have F5 : Fr [1000055025] T (wi T 55 25 (gi T 55 21)) := Fr.refl.wi rfl
  have e5 : gi (wi T 55 25 (gi T 55 21)) 55 25 = f := by simp only [gi_wi, gl_wl, gl_wi, gi_wl, gi_wcl, gl_wcl, Nat.reduceEqDiff, Int.reduceEq, false_and, true_and, and_true, and_false, if_false, if_true]; exact ha
  generalize wi T 55 25 (gi T 55 21) = T5 at *
  have t := hb.1
  refine l_lt (l_iff (by omega) ?_)
  refine l_bind (px_32_b hb) (fun S1 h1 => l_lt ?_)
  have b := h1.1
  refine b_some ⟨F.trans (h1.2.mono rfl), P.trans ((px_F.of F5 rfl).mono rfl), Or.inr ⟨?_, rfl, ?_⟩⟩
  · show 0 ≤ gi S1 16 16
    rw [b.2.1]
    exact b.2.2.1
  · show gi T5 55 25 = gi S1 16 16
    rw [b.2.1, e5]
theorem px_rd_l (hB : px_B c r n) : ∀ (u i m m2 : Nat) (S T : gM) (p : Int) (cd : List (Int × Int)), i ≤ 30 → 30 - i < u → u < m → u < m2 → Fr px_cw3 S0 S → px_F px_rwl T0 T → px_ST c r n S T p cd → px_DI S T cd i → gi T 70 9 = i → gi S 16 8 = i → gi T 55 21 = p →
    W2 (px_RD S0 T0) (g31_l25 (fun S17 => g31_j69 S17) m i S) (g155_l66 (fun Y30 S31 => g155_j142 Y30 S31) m2 1 T) := by
  intro u
  induction u with
  | zero => intro i m m2 S T p cd h1 h2; omega
  | succ u ih =>
    intro i m m2 S T p cd h1 h2 h3 h4 F P s D e9 e8 ha
    cases m with
    | zero => omega
    | succ m =>
    cases m2 with
    | zero => omega
    | succ m2 =>
    cases m with
    | zero => omega
    | succ m =>
    cases m2 with
    | zero => omega
    | succ m2 =>
    have hn := hB.1
    have hp := s.2.1.2.1
    have sl := s.2.2.2
    have tf := s.2.1.fin
    have e20 : gi T 55 20 = n := s.1.1.2.2
    rw [g31_l25, g155_l66]
    dsimp only
    refine r_iff (by decide) (r_lt (r_lt ?_))
    rw [ha, e20]
    by_cases te : p = n
    · -- the text's end
      refine r_ift (by omega) ?_
      rw [px_142_1]
      have good : W2 (px_RD S0 T0) (g31_j69 S) (some ((1 : Int), wi T 55 25 (-1))) := by
        have F5 : Fr [1000055025] T (wi T 55 25 (-1)) := Fr.refl.wi rfl
        have e5 : gi (wi T 55 25 (-1)) 55 25 = -1 := by simp only [gi_wi, gl_wl, gl_wi, gi_wl, gi_wcl, gl_wcl, Nat.reduceEqDiff, Int.reduceEq, false_and, true_and, and_true, and_false, if_false, if_true]
        generalize wi T 55 25 (-1) = T5 at *
        unfold g31_j69
        refine l_lt (l_ift (tf.mpr te) (l_lt ?_))
        refine b_some ⟨F, P.trans ((px_F.of F5 rfl).mono rfl), Or.inl ⟨s.1.2.1, rfl, e5, cd, i, s.1.2.2.1.fr (Fr.refl (W := [])) F5 ⟨rfl, rfl⟩ ⟨rfl, rfl, rfl⟩, D.fr (Fr.refl (W := [])) F5 ⟨rfl, rfl, rfl, rfl⟩ ⟨⟨rfl, rfl, rfl, rfl, rfl⟩, rfl, rfl⟩, (F5.i rfl).trans e9, e8, h1, by omega⟩⟩
      exact l_if (fun _ => good) (fun _ => l_lt (l_ift (tf.mpr te) good))
    refine r_iff (by omega) (r_lt ?_)
    rw [e9]
    have nt := mt tf.mp te
    by_cases i30 : i = 30
    · -- the 31st
      refine l_ift (by omega) (r_ift (by omega) ?_)
      unfold g155_j115 g155_j116
      refine r_iff (fun z => z rfl) ?_
      rw [px_l66_0]
      have F5 : Fr [1000055025] T (wi T 55 25 (gi T 55 21)) := Fr.refl.wi rfl
      have e5 : gi (wi T 55 25 (gi T 55 21)) 55 25 = p := by simp only [gi_wi, gl_wl, gl_wi, gi_wl, gi_wcl, gl_wcl, Nat.reduceEqDiff, Int.reduceEq, false_and, true_and, and_true, and_false, if_false, if_true]; exact ha
      generalize wi T 55 25 (gi T 55 21) = T5 at *
      unfold g31_j69
      refine l_lt (l_iff nt ?_)
      refine l_bind (px_32_w s) (fun S1 h1 => l_lt ?_)
      have b := h1.1
      refine b_some ⟨F.trans (h1.2.mono rfl), P.trans ((px_F.of F5 rfl).mono rfl), Or.inr ⟨?_, rfl, ?_⟩⟩
      · show 0 ≤ gi S1 16 16
        rw [b.2.1]
        exact hp.1
      · show gi T5 55 25 = gi S1 16 16
        rw [b.2.1, e5]
    refine l_iff (by omega) (l_lt (l_iff nt (l_lt (l_iff (fun z => z s.1.2.1) ?_))))
    refine r_iff (by omega) (r_lt ?_)
    refine r_ckI (by omega) ?_
    refine b_bind (px_stat hB s D (by omega) e8) (fun S1 x1 hk => ?_)
    obtain ⟨f1, P1, R1, hk⟩ := hk
    have f1' : Fr px_cw3 S0 S1 := F.trans (f1.mono rfl)
    have P1' : px_F px_rwl T0 x1.2 := P.trans (P1.mono rfl)
    have e8' : gi S1 16 8 = i := (f1.i rfl).trans e8
    refine l_lt (l_ckI (by omega) (l_lt (l_ckI (by omega) ?_)))
    have F2 : Fr [1000016008] S1 (wi S1 16 8 (gi S1 16 8 + 1)) := Fr.refl.wi rfl
    have a8 : gi (wi S1 16 8 (gi S1 16 8 + 1)) 16 8 = ((i + 1 : Nat) : Int) := by simp only [gi_wi, gl_wl, gl_wi, gi_wl, gi_wcl, gl_wcl, Nat.reduceEqDiff, Int.reduceEq, false_and, true_and, and_true, and_false, if_false, if_true]; omega
    generalize wi S1 16 8 (gi S1 16 8 + 1) = S2 at *
    rcases hk with ⟨v1, p1, cd1, s1, D1, q1⟩ | ⟨v1, b1⟩
    · refine r_iff (by omega) ?_
      unfold g155_j116
      have e91 : gi x1.2 70 9 = i := (P1.1.i rfl).trans e9
      refine r_ift (by decide) (r_lt (r_ckI (by omega) (r_lt ?_)))
      have F3 : Fr [70] x1.2 (wi x1.2 70 9 (gi x1.2 70 9 + 1)) := Fr.refl.wi rfl
      have a9 : gi (wi x1.2 70 9 (gi x1.2 70 9 + 1)) 70 9 = ((i + 1 : Nat) : Int) := by simp only [gi_wi, gl_wl, gl_wi, gi_wl, gi_wcl, gl_wcl, Nat.reduceEqDiff, Int.reduceEq, false_and, true_and, and_true, and_false, if_false, if_true]; omega
      have l3 : px_LO x1.2 (wi x1.2 70 9 (gi x1.2 70 9 + 1)) := ⟨fun k _ => ⟨F3.i rfl, F3.i rfl⟩, fun k _ => ⟨F3.i rfl, F3.i rfl, F3.i rfl, F3.i rfl, F3.i rfl⟩, fun k hk => by rw [gi_wi, if_neg (by omega)], fun k => ⟨Or.inl (F3.i rfl), Or.inl (F3.i rfl), Or.inl (F3.i rfl)⟩⟩
      generalize wi x1.2 70 9 (gi x1.2 70 9 + 1) = T3 at *
      have s2 := s1.fr F2 F3 rfl rfl
      have D2 := D1.fr F2 F3 ⟨rfl, rfl, rfl, rfl⟩ ⟨⟨rfl, rfl, rfl, rfl, rfl⟩, rfl, rfl⟩
      refine r_bind (px_blk hB s2) (fun T4 h4 => ?_)
      obtain ⟨a4, s4, F4⟩ := h4
      have P3 : px_F px_rwl x1.2 T3 := ⟨F3.mono rfl, l3⟩
      exact ih (i + 1) (m + 1) (m2 + 1) S2 T4 p1 cd1 (by omega) (by omega) (by omega) (by omega) (f1'.trans (F2.mono rfl)) ((P1'.trans P3).trans ((px_F.of F4 rfl).mono rfl)) s4 (D2.fr (Fr.refl (W := [])) F4 ⟨rfl, rfl, rfl, rfl⟩ ⟨⟨rfl, rfl, rfl, rfl, rfl⟩, rfl, rfl⟩) ((F4.i rfl).trans a9) a8 a4
    · refine r_ift v1 ?_
      unfold g155_j115 g155_j116
      refine r_iff (fun z => z rfl) ?_
      rw [px_l66_0]
      have b2 : px_BD S2 (gi x1.2 55 21) := ⟨(F2.i rfl).trans b1.1, (F2.i rfl).trans b1.2.1, b1.2.2.1, by rw [show gi S2 16 6 = gi S1 16 6 from F2.i rfl]; exact b1.2.2.2⟩
      have t2 := b2.1
      have g2 := b2.2.1
      have g3 := b2.2.2.1
      have e0 := px_end0 b2 (f1'.trans (F2.mono rfl)) P1' rfl
      rw [g31_l25]
      dsimp only
      refine l_if (fun _ => e0) (fun _ => l_lt (l_iff (by omega) (l_lt (l_ift (by omega) e0))))
theorem px_200_w (hl : gln S 22 0 = 6) : Wp (fun S' => Fr [22] S S' ∧ ∀ k, gi S' 22 k = if 0 ≤ k ∧ k < 6 then -1 else gi S 22 k) (g200 22 (-1) S) := by
  unfold g200
  rw [hl]
  refine p_chk (by decide) (p_chk (by decide) ?_)
  refine upto 6 (fun m j => ∀ S1, Fr [22] S S1 → (∀ k, gi S1 22 k = if 0 ≤ k ∧ k < j then -1 else gi S 22 k) → Wp (fun S' => Fr [22] S S' ∧ ∀ k, gi S' 22 k = if 0 ≤ k ∧ k < 6 then -1 else gi S 22 k) (g200_l5 22 (-1) 6 m j S1)) ?_ 100000 0 (by omega) (by omega) S Fr.refl (fun k => by rw [if_neg (by omega)])
  intro m j hj ih S1 hF h1
  dsimp only [g200_l5]
  have l1 : gln S1 22 0 = 6 := (gln_c hF.1 _ _).trans hl
  rw [l1]
  refine p_if (fun hc => ?_) (fun hc => ?_)
  · have : j = 6 := by omega
    subst this
    exact p_some ⟨hF, h1⟩
  · refine p_chk (by decide) (p_chk (by omega) (p_lt (p_ckI (by omega) ?_)))
    refine ih (by omega) (wi S1 22 j (-1)) (hF.wi rfl) (fun k => ?_)
    simp only [gi_wi, gl_wl, gl_wi, gi_wl, gi_wcl, gl_wcl, Nat.reduceEqDiff, Int.reduceEq, false_and, true_and, and_true, and_false, if_false, if_true]
    by_cases hk : k = j
    · rw [if_pos hk, if_pos (by omega)]
    · rw [if_neg hk, h1]
      by_cases h3 : 0 ≤ k ∧ k < j
      · rw [if_pos h3, if_pos (by omega)]
      · rw [if_neg h3, if_neg (by omega)]
theorem px_30_w (hl : gln S 22 0 = 6) : Wp (fun S' => Fr [1000016011, 1000016006, 1000016007, 1000016008, 1000016016, 22] S S' ∧ gi S' 16 11 = 0 ∧ gi S' 16 6 = 0 ∧ gi S' 16 7 = 0 ∧ gi S' 16 8 = 0 ∧ gi S' 16 16 = -1 ∧ (gi S' 22 0 = -1 ∧ gi S' 22 1 = -1 ∧ gi S' 22 2 = -1 ∧ gi S' 22 3 = 0 ∧ gi S' 22 4 = 0 ∧ gi S' 22 5 = -1)) (g30 S) := by
  unfold g30
  refine p_lt (p_lt (p_lt (p_lt (p_lt ?_))))
  have F1 : Fr [1000016011, 1000016006, 1000016007, 1000016008, 1000016016, 22] S (wi (wi (wi (wi (wi S 16 11 0) 16 6 0) 16 7 0) 16 8 0) 16 16 (-1)) := ((((Fr.refl.wi rfl).wi rfl).wi rfl).wi rfl).wi rfl
  have a11 : gi (wi (wi (wi (wi (wi S 16 11 0) 16 6 0) 16 7 0) 16 8 0) 16 16 (-1)) 16 11 = 0 := by simp only [gi_wi, gl_wl, gl_wi, gi_wl, gi_wcl, gl_wcl, Nat.reduceEqDiff, Int.reduceEq, false_and, true_and, and_true, and_false, if_false, if_true]
  have a6 : gi (wi (wi (wi (wi (wi S 16 11 0) 16 6 0) 16 7 0) 16 8 0) 16 16 (-1)) 16 6 = 0 := by simp only [gi_wi, gl_wl, gl_wi, gi_wl, gi_wcl, gl_wcl, Nat.reduceEqDiff, Int.reduceEq, false_and, true_and, and_true, and_false, if_false, if_true]
  have a7 : gi (wi (wi (wi (wi (wi S 16 11 0) 16 6 0) 16 7 0) 16 8 0) 16 16 (-1)) 16 7 = 0 := by simp only [gi_wi, gl_wl, gl_wi, gi_wl, gi_wcl, gl_wcl, Nat.reduceEqDiff, Int.reduceEq, false_and, true_and, and_true, and_false, if_false, if_true]
  have a8 : gi (wi (wi (wi (wi (wi S 16 11 0) 16 6 0) 16 7 0) 16 8 0) 16 16 (-1)) 16 8 = 0 := by simp only [gi_wi, gl_wl, gl_wi, gi_wl, gi_wcl, gl_wcl, Nat.reduceEqDiff, Int.reduceEq, false_and, true_and, and_true, and_false, if_false, if_true]
  have a16 : gi (wi (wi (wi (wi (wi S 16 11 0) 16 6 0) 16 7 0) 16 8 0) 16 16 (-1)) 16 16 = -1 := by simp only [gi_wi, gl_wl, gl_wi, gi_wl, gi_wcl, gl_wcl, Nat.reduceEqDiff, Int.reduceEq, false_and, true_and, and_true, and_false, if_false, if_true]
  generalize wi (wi (wi (wi (wi S 16 11 0) 16 6 0) 16 7 0) 16 8 0) 16 16 (-1) = S1 at *
  refine p_bind (p_imp (px_200_w ((gln_c F1.1 _ _).trans hl)) (fun S2 h2 => ?_))
  refine p_lt (p_lt (p_some ⟨((F1.trans (h2.1.mono rfl)).wi rfl).wi rfl, ?_, ?_, ?_, ?_, ?_, ?_⟩))
  · simp only [gi_wi, gl_wl, gl_wi, gi_wl, gi_wcl, gl_wcl, Nat.reduceEqDiff, Int.reduceEq, false_and, true_and, and_true, and_false, if_false, if_true]; exact (h2.1.i rfl).trans a11
  · simp only [gi_wi, gl_wl, gl_wi, gi_wl, gi_wcl, gl_wcl, Nat.reduceEqDiff, Int.reduceEq, false_and, true_and, and_true, and_false, if_false, if_true]; exact (h2.1.i rfl).trans a6
  · simp only [gi_wi, gl_wl, gl_wi, gi_wl, gi_wcl, gl_wcl, Nat.reduceEqDiff, Int.reduceEq, false_and, true_and, and_true, and_false, if_false, if_true]; exact (h2.1.i rfl).trans a7
  · simp only [gi_wi, gl_wl, gl_wi, gi_wl, gi_wcl, gl_wcl, Nat.reduceEqDiff, Int.reduceEq, false_and, true_and, and_true, and_false, if_false, if_true]; exact (h2.1.i rfl).trans a8
  · simp only [gi_wi, gl_wl, gl_wi, gi_wl, gi_wcl, gl_wcl, Nat.reduceEqDiff, Int.reduceEq, false_and, true_and, and_true, and_false, if_false, if_true]; exact (h2.1.i rfl).trans a16
  · simp only [gi_wi, gl_wl, gl_wi, gi_wl, gi_wcl, gl_wcl, Nat.reduceEqDiff, Int.reduceEq, false_and, true_and, and_true, and_false, if_false, if_true, h2.2]
    exact ⟨if_pos (by decide), if_pos (by decide), if_pos (by decide), if_pos (by decide)⟩
theorem px_byte {x : Int} (h : 0 ≤ x ∧ x ≤ 255) : (x ≤ 127 ∧ b_byte (b_byte x) = x) ∨ (127 < x ∧ (b_byte (b_byte x) < 0 ∧ -128 ≤ b_byte (b_byte x))) := by
  have key : ∀ k : Fin 256, (((k.val : Nat) : Int) ≤ 127 ∧ b_byte (b_byte ((k.val : Nat) : Int)) = ((k.val : Nat) : Int)) ∨ (127 < ((k.val : Nat) : Int) ∧ (b_byte (b_byte ((k.val : Nat) : Int)) < 0 ∧ -128 ≤ b_byte (b_byte ((k.val : Nat) : Int)))) := by decide +kernel
  have k := key ⟨x.toNat, by omega⟩
  dsimp only at k
  rw [show ((x.toNat : Nat) : Int) = x by omega] at k
  exact k
/-- the text is copied -/
theorem px_cp_w {Q : Int × gM → Int × gM → Prop} {o : Option (Int × gM)} (hn : 0 ≤ n ∧ n ≤ 700) {K : gM → Option (Int × gM)} (hK : ∀ T', Fr [84] T T' → (∀ k, 0 ≤ k → k < n → gi T' 84 k = b_byte (gi T 83 k)) → W2 Q o (K T')) : W2 Q o (g155_l2 n K 100000 0 T) := by
  refine upto n.toNat (fun m j => ∀ T1, Fr [84] T T1 → (∀ k : Int, 0 ≤ k → k < j → gi T1 84 k = b_byte (gi T 83 k)) → W2 Q o (g155_l2 n K m j T1)) ?_ 100000 0 (Nat.zero_le _) (by omega) T Fr.refl (fun k a b => by omega)
  intro m j hj ih T1 hF h1
  dsimp only [g155_l2]
  by_cases z : n ≤ j
  · exact r_ift z (hK T1 hF (fun k a b => h1 k a (by omega)))
  · refine r_iff z (r_chk (by omega) (r_lt (r_chk (by omega) (r_lt (r_ckI (by omega) ?_)))))
    refine ih (by omega) (wi T1 84 j (b_byte (gi T1 83 j))) (hF.wi rfl) (fun k a b => ?_)
    simp only [gi_wi, gl_wl, gl_wi, gi_wl, gi_wcl, gl_wcl, Nat.reduceEqDiff, Int.reduceEq, false_and, true_and, and_true, and_false, if_false, if_true]
    by_cases hk : k = j
    · rw [if_pos hk, hk, show gi T1 83 j = gi T 83 j from hF.i rfl]
    · rw [if_neg hk]
      exact h1 k a (by omega)
/-- a text -/
theorem px_read (hn : 0 ≤ n ∧ n ≤ 700) (hl : gln S 22 0 = 6) (hk : ∀ k, 0 ≤ k → k < 23 → gl S 17 k = px_ky k) (hby : ∀ k, 0 ≤ k → k < n → (0 ≤ gi S 54 k ∧ gi S 54 k ≤ 255) ∧ b_byte (gi S 54 k) = gi T 83 k) : W2 (fun y x => Fr px_cw3 (wr S 16 9 (some 54)) y.2 ∧ px_F px_rw3 T x.2 ∧ gi x.2 55 19 = 0 ∧ px_RR y x) (g31 n S) (g155 n T) := by
  unfold g31 g155
  refine l_lt (l_lt (l_lt ?_))
  rw [show min n 700 = n by omega]
  have W1 : ∀ q k, gi (wr S 16 9 (some 54)) q k = gi S q k := fun _ _ => rfl
  have W2' : ∀ q k, gl (wr S 16 9 (some 54)) q k = gl S q k := fun _ _ => rfl
  have W3 : gln (wr S 16 9 (some 54)) 22 0 = 6 := hl
  have W4 : gr (wr S 16 9 (some 54)) 16 9 = some 54 := by
    show (if 16 = 16 ∧ 9 = 9 then some 54 else S.2.2.2.2.1 16 9) = some 54
    exact if_pos ⟨rfl, rfl⟩
  generalize wr S 16 9 (some 54) = S1 at *
  have F1 : Fr [1000016010] S1 (wi S1 16 10 n) := Fr.refl.wi rfl
  have a10 : gi (wi S1 16 10 n) 16 10 = n := by simp only [gi_wi, gl_wl, gl_wi, gi_wl, gi_wcl, gl_wcl, Nat.reduceEqDiff, Int.reduceEq, false_and, true_and, and_true, and_false, if_false, if_true]
  generalize wi S1 16 10 n = S2 at *
  refine l_bind (px_30_w ((gln_c F1.1 _ _).trans W3)) (fun S3 h3 => ?_)
  obtain ⟨F3, b11, b6, b7, b8, b16, b22⟩ := h3
  have F13 : Fr [1000016010, 1000016011, 1000016006, 1000016007, 1000016008, 1000016016, 22] S1 S3 := (F1.mono rfl).trans (F3.mono rfl)
  have e54 : gi S3 54 = gi S 54 := funext fun k => (F13.i rfl).trans (W1 54 k)
  have CS3 : px_CS S3 (gi S 54) n := ⟨hn, (F3.i rfl).trans a10, e54, (gr_c F13.1 _ _).trans W4, fun k a b => (hby k a b).1, fun k a b => ((F13.l rfl).trans (W2' 17 k)).trans (hk k a b)⟩
  refine px_cp_w hn (fun T1 hF1 h1 => ?_)
  have hB : px_B (gi S 54) (gi T1 84) n := ⟨hn, fun k a b => by
    have z := hby k a b
    rw [h1 k a b, ← z.2]
    exact ⟨z.1, px_byte z.1⟩⟩
  refine r_lt (r_lt (r_lt (r_lt (r_lt (r_lt ?_)))))
  have G2 : Fr [1000055020, 1000055019, 1000055021, 1000055023, 1000055024, 70] T1 (wi (wi (wi (wi (wi (wi T1 55 20 n) 55 19 0) 55 21 0) 55 23 0) 55 24 13500) 70 9 0) := (((((Fr.refl.wi rfl).wi rfl).wi rfl).wi rfl).wi rfl).wi rfl
  have l2 : px_LO T1 (wi (wi (wi (wi (wi (wi T1 55 20 n) 55 19 0) 55 21 0) 55 23 0) 55 24 13500) 70 9 0) := ⟨fun k _ => ⟨G2.i rfl, G2.i rfl⟩, fun k _ => ⟨G2.i rfl, G2.i rfl, G2.i rfl, G2.i rfl, G2.i rfl⟩, fun k hk => by simp only [gi_wi, gl_wl, gl_wi, gi_wl, gi_wcl, gl_wcl, Nat.reduceEqDiff, Int.reduceEq, false_and, true_and, and_true, and_false, if_false, if_true]; rw [if_neg (by omega)], fun k => ⟨Or.inl (G2.i rfl), Or.inl (G2.i rfl), Or.inl (G2.i rfl)⟩⟩
  have c20 : gi (wi (wi (wi (wi (wi (wi T1 55 20 n) 55 19 0) 55 21 0) 55 23 0) 55 24 13500) 70 9 0) 55 20 = n := by simp only [gi_wi, gl_wl, gl_wi, gi_wl, gi_wcl, gl_wcl, Nat.reduceEqDiff, Int.reduceEq, false_and, true_and, and_true, and_false, if_false, if_true]
  have c19 : gi (wi (wi (wi (wi (wi (wi T1 55 20 n) 55 19 0) 55 21 0) 55 23 0) 55 24 13500) 70 9 0) 55 19 = 0 := by simp only [gi_wi, gl_wl, gl_wi, gi_wl, gi_wcl, gl_wcl, Nat.reduceEqDiff, Int.reduceEq, false_and, true_and, and_true, and_false, if_false, if_true]
  have c21 : gi (wi (wi (wi (wi (wi (wi T1 55 20 n) 55 19 0) 55 21 0) 55 23 0) 55 24 13500) 70 9 0) 55 21 = 0 := by simp only [gi_wi, gl_wl, gl_wi, gi_wl, gi_wcl, gl_wcl, Nat.reduceEqDiff, Int.reduceEq, false_and, true_and, and_true, and_false, if_false, if_true]
  have c23 : gi (wi (wi (wi (wi (wi (wi T1 55 20 n) 55 19 0) 55 21 0) 55 23 0) 55 24 13500) 70 9 0) 55 23 = 0 := by simp only [gi_wi, gl_wl, gl_wi, gi_wl, gi_wcl, gl_wcl, Nat.reduceEqDiff, Int.reduceEq, false_and, true_and, and_true, and_false, if_false, if_true]
  have c24 : gi (wi (wi (wi (wi (wi (wi T1 55 20 n) 55 19 0) 55 21 0) 55 23 0) 55 24 13500) 70 9 0) 55 24 = 13500 := by simp only [gi_wi, gl_wl, gl_wi, gi_wl, gi_wcl, gl_wcl, Nat.reduceEqDiff, Int.reduceEq, false_and, true_and, and_true, and_false, if_false, if_true]
  have c70 : gi (wi (wi (wi (wi (wi (wi T1 55 20 n) 55 19 0) 55 21 0) 55 23 0) 55 24 13500) 70 9 0) 70 9 = 0 := by simp only [gi_wi, gl_wl, gl_wi, gi_wl, gi_wcl, gl_wcl, Nat.reduceEqDiff, Int.reduceEq, false_and, true_and, and_true, and_false, if_false, if_true]
  generalize wi (wi (wi (wi (wi (wi T1 55 20 n) 55 19 0) 55 21 0) 55 23 0) 55 24 13500) 70 9 0 = T2 at *
  have PT : px_F px_rw3 T T2 := ((px_F.of hF1 rfl).mono rfl).trans ⟨G2.mono rfl, l2⟩
  have RS2 : px_RS T2 (gi T1 84) n := ⟨funext fun k => G2.i rfl, c20⟩
  have A : px_AD (gi S 54) (gi T1 84) n S3 T2 0 [] := ⟨⟨⟨CS3, RS2⟩, b16, ⟨b6, c24, fun i x hx => by cases hx⟩, ⟨by rw [b7, c23], by omega, fun k k1 k2 => by omega⟩⟩, ⟨b11, c21, by omega, by omega⟩, Int.le_refl 0⟩
  have D : px_DI S3 T2 [] 0 := ⟨⟨b7, fun z => by cases z⟩, b22, fun j hj => by omega⟩
  refine l_bind (px_adv A) (fun S4 h4 => ?_)
  obtain ⟨⟨p4, q4, s4⟩, F4⟩ := h4
  refine r_bind (px_blk hB s4) (fun T5 h5 => ?_)
  obtain ⟨a5, s5, G5⟩ := h5
  have D5 := D.fr F4 G5 ⟨rfl, rfl, rfl, rfl⟩ ⟨⟨rfl, rfl, rfl, rfl, rfl⟩, rfl, rfl⟩
  have R := px_rd_l (S0 := S1) (T0 := T5) hB 31 0 100000 100000 S4 T5 p4 [] (by decide) (by decide) (by decide) (by decide) ((F13.mono rfl).trans (F4.mono rfl)) px_F.refl s5 D5 ((G5.i rfl).trans c70) ((F4.i rfl).trans b8) a5
  refine R.imp (fun y x h => ?_)
  obtain ⟨k1, k2, k3⟩ := h
  exact ⟨k1, (PT.trans ((px_F.of G5 rfl).mono rfl)).trans (k2.mono rfl), (k2.1.i rfl).trans ((G5.i rfl).trans c19), k3⟩
end TX
