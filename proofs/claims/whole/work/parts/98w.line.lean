/-! the parser: "line" side by side; a statement -/
section LI
variable {S S' S0 T T' T0 : gM} {c r : Int → Int} {n p q f : Int} {cd xs ys : List (Int × Int)} {i : Nat}
theorem px_142_eq {w : Int} (hw : px_WD S w) (U : gM) : ∃ v, g142 w U = some (v, U) ∧ (gi S 16 13 = 280 → v = 0) ∧ ((256 ≤ gi S 16 13 ∧ gi S 16 13 < 279) → v = 1) := by
  obtain ⟨a, ea, ha1, ha2⟩ := px_141_eq hw U
  rcases hw with ⟨a1, a2, a3, a4, a5⟩ | ⟨b, h1, h2, h3⟩ | ⟨h1, h2⟩
  · have ha2 := ha2 (by omega)
    have n0 : ¬ w = 1818848869 := a5 0 (by decide) (by decide)
    have n1 : ¬ w = 439905906546 := a5 1 (by decide) (by decide)
    have n2 : ¬ w = 6513008 := a5 2 (by decide) (by decide)
    have n3 : ¬ w = 500086104428 := a5 3 (by decide) (by decide)
    have n4 : ¬ w = 1836021349 := a5 4 (by decide) (by decide)
    have n5 : ¬ w = 478660552050 := a5 5 (by decide) (by decide)
    have n6 : ¬ w = 495672455781 := a5 6 (by decide) (by decide)
    have n7 : ¬ w = 26982 := a5 7 (by decide) (by decide)
    have n8 : ¬ w = 7170414 := a5 8 (by decide) (by decide)
    have n9 : ¬ w = 7168376 := a5 9 (by decide) (by decide)
    have n10 : ¬ w = 28530 := a5 10 (by decide) (by decide)
    have n11 : ¬ w = 6385252 := a5 11 (by decide) (by decide)
    have n12 : ¬ w = 7237492 := a5 12 (by decide) (by decide)
    refine ⟨0, ?_, fun _ => rfl, fun z => by omega⟩
    unfold g142
    rw [if_neg n0, if_neg n7, if_neg n1, if_neg n2, if_neg n3, if_neg n4, if_neg n5, if_neg n6, if_neg n8, if_neg n9, if_neg n10, if_neg n11, if_neg n12, ea, ob_s, if_pos ha2]
  · refine ⟨1, ?_, fun z => by omega, fun _ => rfl⟩
    have key : ∀ k : Fin 23, g142 (px_vl.getD k.val 0) U = some (1, U) := by
      intro k
      have : k.val = 0 ∨ k.val = 1 ∨ k.val = 2 ∨ k.val = 3 ∨ k.val = 4 ∨ k.val = 5 ∨ k.val = 6 ∨ k.val = 7 ∨ k.val = 8 ∨ k.val = 9 ∨ k.val = 10 ∨ k.val = 11 ∨ k.val = 12 ∨ k.val = 13 ∨ k.val = 14 ∨ k.val = 15 ∨ k.val = 16 ∨ k.val = 17 ∨ k.val = 18 ∨ k.val = 19 ∨ k.val = 20 ∨ k.val = 21 ∨ k.val = 22 := by omega
      rcases this with z | z | z | z | z | z | z | z | z | z | z | z | z | z | z | z | z | z | z | z | z | z | z <;> rw [z] <;> rfl
    have k := key ⟨b.toNat, by omega⟩
    rw [h3]
    exact k
  · subst h2
    refine ⟨0, ?_, fun z => by omega, fun z => by omega⟩
    rfl
theorem px_sgm {F : Nat → Int → Int} : ∀ (xs : List (Int × Int)) (a : Int), (∀ j : Nat, ∀ x, xs[j]? = some x → F 78 (a + j) = x.1 ∧ F 79 (a + j) = x.2) → sgm F xs.length a = xs := by
  intro xs
  induction xs with
  | nil => intro a _; rfl
  | cons x t ih =>
    intro a h
    rw [List.length_cons]
    unfold sgm
    have h0 := h 0 x rfl
    rw [show a + ((0 : Nat) : Int) = a by omega] at h0
    rw [h0.1, h0.2, ih (a + 1) (fun j y hj => by
      have := h (j + 1) y (by rw [List.getElem?_cons_succ]; exact hj)
      rw [show a + ((j + 1 : Nat) : Int) = a + 1 + j by omega] at this
      exact this)]
/-- the piece in the middle -/
theorem px_CD.mid (h : px_CD S T (cd ++ xs ++ ys)) : sgm (gi T) xs.length (13500 + cd.length) = xs := by
  refine px_sgm xs _ (fun j x hj => ?_)
  have hl := (List.getElem?_eq_some_iff.mp hj).1
  have k := h.2.2 (cd.length + j) x (by
    rw [List.append_assoc, List.getElem?_append_right (by omega), show cd.length + j - cd.length = j by omega, List.getElem?_append_left hl]
    exact hj)
  rw [show 13500 + ((cd.length + j : Nat) : Int) = 13500 + cd.length + j by omega] at k
  exact k.2.2
/-- the class ends a line, a fault behind it -/
theorem px_128_b (h : px_BD S f) (hm : 0 ≤ gi S 16 7 ∧ gi S 16 7 < 30) : Wp (fun S' => px_BD S' f ∧ Fr [1000016007, 19] S S') (g43_j128 S) := by
  unfold g43_j128
  obtain ⟨h1, h2, h3, h4⟩ := h
  refine p_lt (p_ckI (by omega) (p_ckI (by omega) (p_lt (p_chk (by omega) (p_lt (p_lt ?_))))))
  have e7 : gi (wi S 19 (2 * gi S 16 7 + 2) (gi S 16 6)) 16 7 = gi S 16 7 := by simp only [gi_wi, gl_wl, gl_wi, gi_wl, gi_wcl, gl_wcl, Nat.reduceEqDiff, Int.reduceEq, false_and, true_and, and_true, and_false, if_false, if_true]
  rw [e7]
  refine p_ckI (by omega) (p_lt (p_some ⟨⟨?_, ?_, h3, ?_⟩, (Fr.refl.wi rfl).wi rfl⟩))
  · simp only [gi_wi, gl_wl, gl_wi, gi_wl, gi_wcl, gl_wcl, Nat.reduceEqDiff, Int.reduceEq, false_and, true_and, and_true, and_false, if_false, if_true]; exact h1
  · simp only [gi_wi, gl_wl, gl_wi, gi_wl, gi_wcl, gl_wcl, Nat.reduceEqDiff, Int.reduceEq, false_and, true_and, and_true, and_false, if_false, if_true]; exact h2
  · simp only [gi_wi, gl_wl, gl_wi, gi_wl, gi_wcl, gl_wcl, Nat.reduceEqDiff, Int.reduceEq, false_and, true_and, and_true, and_false, if_false, if_true]; exact h4
/-- the end of a line -/
theorem px_lfin (hD : px_DI S0 T0 cd i) (hi : i < 30) (h0 : px_CD S0 T0 cd) (s : px_ST c r n S T p (cd ++ xs ++ ys)) (e7 : gi S 16 7 = gi S0 16 7) {w : Int} (hw : w = px_c (gl S 21 (gi S 16 7)) ∧ gl S 21 (gi S 16 7) = px_d w ∧ ¬ w = 0 ∧ ∀ b, 0 ≤ b → b < 23 → ¬ w = px_vk b)
    (e19 : gi S 19 (2 * gi S 16 7) = cd.length ∧ gi S 19 (2 * gi S 16 7 + 1) = (cd ++ xs).length) (o19 : ∀ k : Int, 0 ≤ k → k < 2 * gi S 16 7 → gi S 19 k = gi S0 19 k) (e20 : gi S 20 (gi S 16 7) = i) (o20 : ∀ k : Int, 0 ≤ k → k < gi S 16 7 → gi S 20 k = gi S0 20 k) (e22 : gi S 22 = gi S0 22)
    (hR : px_RO T0 T i) (t73 : gi T 73 (30 * 9 + i) = 0) (t74 : gi T 74 (30 * 9 + i) = gi S 16 7) (t75 : gi T 75 (30 * 9 + i) = 13500 + cd.length) (t76 : gi T 76 (30 * 9 + i) = 13500 + (cd ++ xs).length) (G1 : px_PG xs false 27) (G2 : ys = [] ∨ px_PG ys true 46) :
    W2 (fun S' x => Fr [1000016007, 19] S S' ∧ px_F [77, 80, 1000055023] T x.2 ∧ px_RO T x.2 i ∧ x.1 = 1 ∧ px_ST c r n S' x.2 p (cd ++ xs ++ ys) ∧ px_DI S' x.2 (cd ++ xs ++ ys) (i + 1)) (g43_j128 S) (g152_j116 (270 + i) w T) := by
  have hn := s.1.1.1.1
  have hp := s.2.1.2.1
  have sl := s.2.2.2
  have nm := s.1.2.2.2
  have nma := nm.1
  have nmb := nm.2.1
  have cdh := s.1.2.2.1
  have rki := hD.1.1
  have rkl := rk_le (gi T0) 9 i
  unfold g43_j128 g152_j116
  refine l_lt (l_ckI (by omega) (l_ckI (by omega) (l_lt (l_chk (by omega) (l_lt (l_lt ?_))))))
  have e7' : gi (wi S 19 (2 * gi S 16 7 + 2) (gi S 16 6)) 16 7 = gi S 16 7 := by simp only [gi_wi, gl_wl, gl_wi, gi_wl, gi_wcl, gl_wcl, Nat.reduceEqDiff, Int.reduceEq, false_and, true_and, and_true, and_false, if_false, if_true]
  rw [e7']
  refine l_ckI (by omega) (l_lt ?_)
  refine r_lt (r_chk (by omega) (r_lt (r_lt ?_)))
  have cd24 := cdh.2.1
  obtain ⟨P1, R1⟩ := px_row (T := T) (i := i) 77 (by decide) (gi T 55 24) (fun _ => by omega)
  have u77 : gi (wi T 77 (270 + i) (gi T 55 24)) 77 (30 * 9 + i) = gi T 55 24 := by rw [gi_wi, if_pos ⟨rfl, by omega⟩]
  have u23 : gi (wi T 77 (270 + i) (gi T 55 24)) 55 23 = gi T 55 23 := P1.1.i rfl
  generalize wi T 77 (270 + (i : Int)) (gi T 55 24) = T1 at *
  rw [u23]
  refine r_chk (by omega) (r_lt (r_lt ?_))
  have e23 : gi (wl T1 80 (gi T 55 23) w) 55 23 = gi T 55 23 := by simp only [gi_wi, gl_wl, gl_wi, gi_wl, gi_wcl, gl_wcl, Nat.reduceEqDiff, Int.reduceEq, false_and, true_and, and_true, and_false, if_false, if_true]; exact u23
  rw [e23]
  refine r_ckI (by omega) (r_lt ?_)
  have FS : Fr [1000016007, 19] S (wi (wi S 19 (2 * gi S 16 7 + 2) (gi S 16 6)) 16 7 (gi S 16 7 + 1)) := (Fr.refl.wi rfl).wi rfl
  have a7 : gi (wi (wi S 19 (2 * gi S 16 7 + 2) (gi S 16 6)) 16 7 (gi S 16 7 + 1)) 16 7 = gi S 16 7 + 1 := by simp only [gi_wi, gl_wl, gl_wi, gi_wl, gi_wcl, gl_wcl, Nat.reduceEqDiff, Int.reduceEq, false_and, true_and, and_true, and_false, if_false, if_true]
  have a19 : ∀ k, gi (wi (wi S 19 (2 * gi S 16 7 + 2) (gi S 16 6)) 16 7 (gi S 16 7 + 1)) 19 k = if k = 2 * gi S 16 7 + 2 then gi S 16 6 else gi S 19 k := fun k => by simp only [gi_wi, gl_wl, gl_wi, gi_wl, gi_wcl, gl_wcl, Nat.reduceEqDiff, Int.reduceEq, false_and, true_and, and_true, and_false, if_false, if_true]
  have FT : Fr [80, 1000055023] T1 (wi (wl T1 80 (gi T 55 23) w) 55 23 (gi T 55 23 + 1)) := (Fr.refl.wl rfl).wi rfl
  have b23 : gi (wi (wl T1 80 (gi T 55 23) w) 55 23 (gi T 55 23 + 1)) 55 23 = gi T 55 23 + 1 := by simp only [gi_wi, gl_wl, gl_wi, gi_wl, gi_wcl, gl_wcl, Nat.reduceEqDiff, Int.reduceEq, false_and, true_and, and_true, and_false, if_false, if_true]
  have b80 : ∀ k, gl (wi (wl T1 80 (gi T 55 23) w) 55 23 (gi T 55 23 + 1)) 80 k = if k = gi T 55 23 then w else gl T 80 k := fun k => by
    rw [show gl T 80 k = gl T1 80 k from (P1.1.l rfl).symm]
    simp only [gi_wi, gl_wl, gl_wi, gi_wl, gi_wcl, gl_wcl, Nat.reduceEqDiff, Int.reduceEq, false_and, true_and, and_true, and_false, if_false, if_true]
  generalize wi (wi S 19 (2 * gi S 16 7 + 2) (gi S 16 6)) 16 7 (gi S 16 7 + 1) = S1 at *
  generalize wi (wl T1 80 (gi T 55 23) w) 55 23 (gi T 55 23 + 1) = T2 at *
  have P2 : px_F [80, 1000055023] T1 T2 := px_F.of FT rfl
  have PT : px_F [77, 80, 1000055023] T T2 := (P1.mono rfl).trans (P2.mono rfl)
  have R2 : px_RO T T2 i := R1.trans (px_RO.of FT ⟨rfl, rfl, rfl, rfl, rfl⟩)
  have g73 : gi T2 73 (30 * 9 + i) = 0 := ((FT.i rfl).trans (P1.1.i rfl)).trans t73
  have g74 : gi T2 74 (30 * 9 + i) = gi S 16 7 := ((FT.i rfl).trans (P1.1.i rfl)).trans t74
  have g75 : gi T2 75 (30 * 9 + i) = 13500 + cd.length := ((FT.i rfl).trans (P1.1.i rfl)).trans t75
  have g76 : gi T2 76 (30 * 9 + i) = 13500 + (cd ++ xs).length := ((FT.i rfl).trans (P1.1.i rfl)).trans t76
  have g77 : gi T2 77 (30 * 9 + i) = 13500 + (cd ++ xs ++ ys).length := ((FT.i rfl).trans u77).trans cdh.2.1
  have NM2 : px_NM S1 T2 := by
    refine ⟨by rw [a7, b23, nm.1], by rw [b23]; omega, fun k k1 k2 => ?_⟩
    rw [b23] at k2
    rw [b80, show gl S1 21 k = gl S 21 k from FS.l rfl]
    by_cases z : k = gi T 55 23
    · rw [if_pos z]
      rw [nm.1] at hw
      rw [z]
      exact hw
    · rw [if_neg z]
      exact nm.2.2 k k1 (by omega)
  have CD2 : px_CD S1 T2 (cd ++ xs ++ ys) := cdh.fr FS PT.1 ⟨rfl, rfl⟩ ⟨rfl, rfl, rfl⟩
  have ST2 : px_ST c r n S1 T2 p (cd ++ xs ++ ys) := ⟨⟨⟨s.1.1.1.fr FS ⟨rfl, rfl, rfl⟩, s.1.1.2.fr PT.1 ⟨rfl, rfl⟩⟩, (FS.i rfl).trans s.1.2.1, CD2, NM2⟩, s.2.1.fr FS ⟨rfl, rfl, rfl, rfl, rfl⟩, by rw [show gi T2 55 21 = gi T 55 21 from PT.1.i rfl]; exact s.2.2.1, sl⟩
  refine b_some ⟨FS, PT, R2, rfl, ST2, ?_⟩
  have R0 : px_RO T0 T2 i := hR.trans R2
  have ek : rk (gi T2) 9 (i + 1) = rk (gi T0) 9 i + 1 := by rw [rk_s, if_pos g73, px_rk_c R0 i (Nat.le_refl _)]
  have ts := fun w' o => px_tl_s R0 w' o
  have m0 : gi S 16 7 = (rk (gi T0) 9 i : Nat) := e7.trans rki
  have old := hD.old (S' := S1) (zs := xs ++ ys) R0 h0 (by rw [← List.append_assoc]; exact CD2) (fun k k1 k2 => by rw [show gi S1 20 k = gi S 20 k from FS.i rfl]; exact o20 k k1 (by omega)) (fun k k1 k2 k3 => by
    rw [a19, if_neg (by omega)]
    by_cases z : k < 2 * gi S 16 7
    · exact o19 k k1 z
    · have : k = 2 * gi S 16 7 := by omega
      rw [this, e19.1, m0]
      exact (hD.1.2 k3).symm)
  rw [← List.append_assoc] at old
  refine ⟨⟨by rw [ek, a7, m0]; omega, fun _ => ?_⟩, ?_, fun j hj => ?_⟩
  · rw [ek, a19, if_pos (by omega)]
    exact cdh.1
  · obtain ⟨t0, t1, t2, t3, t4, t5⟩ := hD.2.1
    have z22 : gi S1 22 = gi S0 22 := (funext fun k => FS.i rfl).trans e22
    rw [ts, ts, ts, ts, ts, ts, g73, z22, if_neg (by decide), if_neg (by decide), if_neg (by decide), if_neg (by decide), if_neg (by decide), if_neg (by decide)]
    exact ⟨t0, t1, t2, t3, t4, t5⟩
  · by_cases z : j < i
    · exact old j z
    · have ej : j = i := by omega
      subst ej
      have l1 : ((cd ++ xs).length : Int) = cd.length + xs.length := by rw [List.length_append]; omega
      have l2 : ((cd ++ xs ++ ys).length : Int) = cd.length + xs.length + ys.length := by rw [List.length_append, List.length_append]; omega
      have ekj : rk (gi T2) 9 j = rk (gi T0) 9 j := px_rk_c R0 j (Nat.le_refl _)
      have cA : sgm (gi T2) xs.length (13500 + cd.length) = xs := CD2.mid
      have cB : sgm (gi T2) ys.length (13500 + (cd ++ xs).length) = ys := by
        have := px_CD.mid (S := S1) (T := T2) (cd := cd ++ xs) (xs := ys) (ys := []) (by rw [List.append_nil]; exact CD2)
        exact this
      refine ⟨?_, fun _ => ?_⟩
      · unfold StOk
        rw [g73, g74, g75, g76, g77, ekj]
        refine ⟨by decide, fun _ => ⟨m0, by omega, ?_, fun y => ?_⟩, fun y => by omega, fun y => by omega, fun y => by omega, fun y => by omega, fun y => by omega⟩
        · rw [show (13500 + ((cd ++ xs).length : Int) - (13500 + (cd.length : Int))).toNat = xs.length by omega, cA]
          exact G1.gd (by decide)
        · rw [show (13500 + ((cd ++ xs ++ ys).length : Int) - (13500 + ((cd ++ xs).length : Int))).toNat = ys.length by omega, cB]
          rcases G2 with g | g
          · rw [g] at y; simp at y
          · exact g.gd (by decide)
      · rw [ekj, g75, g76, g77, a19, a19, a19, if_neg (by omega), if_neg (by omega), if_pos (by omega), show gi S1 20 (rk (gi T0) 9 j : Nat) = gi S 20 (rk (gi T0) 9 j : Nat) from FS.i rfl, ← m0, e20, e19.1, e19.2, cdh.1]
        omega
theorem px_line (hB : px_B c r n) (h : px_AD c r n S T q cd) (hD : px_DI S T cd i) (hi : i < 30) (h8 : gi S 16 8 = i) : W2 (px_KR c r n S T q i) (g43 S) (g152 (270 + i) T) := by
  unfold g43 g152
  have hn := hB.1
  have rki := hD.1.1
  have rkl := rk_le (gi T) 9 i
  refine r_chk (by omega) (r_lt ?_)
  obtain ⟨P1, R1⟩ := px_row (T := T) (i := i) 73 (by decide) 0 (by omega)
  have u73 : gi (wi T 73 (270 + i) 0) 73 (30 * 9 + i) = 0 := by rw [gi_wi, if_pos ⟨rfl, by omega⟩]
  generalize wi T 73 (270 + (i : Int)) 0 = T1 at *
  have A1 := h.fr (Fr.refl (W := [])) P1.1 rfl rfl
  refine l_bind (px_adv A1) (fun S2 h2 => ?_)
  obtain ⟨⟨p2, q2, s2⟩, f2⟩ := h2
  have f2 : Fr px_cw S S2 := f2.mono rfl
  refine r_bind (px_wrd hB s2) (fun x1 h1 => ?_)
  obtain ⟨F1, W1, ⟨s1, a1⟩, k1⟩ := h1
  have P2 : px_F px_rw2 T x1.2 := (P1.mono rfl).trans ((px_F.of F1 rfl).mono rfl)
  have R2 : px_RO T x1.2 i := R1.trans (px_RO.of F1 ⟨rfl, rfl, rfl, rfl, rfl⟩)
  have bad : ∀ T3 : gM, T3 = x1.2 → W2 (px_KR c r n S T q i) ((g32 S2).bind fun z => some z) (some ((0 : Int), T3)) := fun T3 e => by
    subst e
    refine l_bind (px_32_w s1) (fun S3 h3 => b_some ⟨(px_cw_2 f2).trans (h3.2.mono rfl), P2, R2, Or.inr ⟨rfl, ?_⟩⟩)
    show px_BD S3 (gi x1.2 55 21)
    rw [a1]
    exact h3.1
  obtain ⟨v, e42, eg, vr, v2⟩ := px_42_eq s1.1 W1
  obtain ⟨u, eu, u1, u2⟩ := px_142_eq W1 x1.2
  refine l_lt ?_
  by_cases t1 : gi S2 16 13 = 280
  rotate_left
  · refine l_ift t1 ?_
    by_cases w0 : x1.1 = 0
    · exact r_ift w0 (bad _ rfl)
    · refine r_iff w0 ?_
      have hk : 256 ≤ gi S2 16 13 ∧ gi S2 16 13 < 279 := by
        rcases W1 with ⟨z, -⟩ | ⟨b, z1, z2, -⟩ | ⟨-, z⟩
        · exact absurd z t1
        · omega
        · exact absurd z w0
      rw [eu, ob_s]
      dsimp only
      exact r_ift (by rw [u2 hk]; decide) (bad _ rfl)
  have hw : x1.1 = px_c (gl S2 16 15) ∧ px_d x1.1 = gl S2 16 15 ∧ ¬ x1.1 = 0 ∧ ∀ b, 0 ≤ b → b < 23 → ¬ x1.1 = px_vk b := by
    rcases W1 with ⟨-, z⟩ | ⟨b, z1, z2, -⟩ | ⟨z, -⟩
    · exact z
    · omega
    · omega
  refine l_iff (fun z => z t1) (r_iff hw.2.2.1 ?_)
  rw [eu, ob_s]
  dsimp only
  refine r_iff (fun z => z (u1 t1)) ?_
  rw [e42, eg, ob_s, ob_s]
  dsimp only
  by_cases hv : v = -1
  rotate_left
  · exact l_ift hv (r_iff hv (bad _ rfl))
  refine l_iff (fun z => z hv) (r_ift hv ?_)
  have k1 := k1 (by omega)
  have nm := s1.1.2.2.2
  have nma := nm.1
  have nmb := nm.2.1
  have m2 : gi S2 16 7 = gi S 16 7 := f2.i rfl
  have s28 : gi S2 16 8 = i := (f2.i rfl).trans h8
  have cd2 := s1.1.2.2.1
  -- the class's rows
  refine l_lt (l_ift (by omega) (l_lt (l_lt (l_chk (by omega) (l_lt (l_lt (l_lt ?_)))))))
  have c7 : gi (wl S2 21 (gi S2 16 7) (gl S2 16 15)) 16 7 = gi S2 16 7 := by simp only [gi_wi, gl_wl, gl_wi, gi_wl, gi_wcl, gl_wcl, Nat.reduceEqDiff, Int.reduceEq, false_and, true_and, and_true, and_false, if_false, if_true]
  have c8 : gi (wl S2 21 (gi S2 16 7) (gl S2 16 15)) 16 8 = gi S2 16 8 := by simp only [gi_wi, gl_wl, gl_wi, gi_wl, gi_wcl, gl_wcl, Nat.reduceEqDiff, Int.reduceEq, false_and, true_and, and_true, and_false, if_false, if_true]
  rw [c7, c8]
  refine l_chk (by omega) (l_lt (l_lt ?_))
  have c7 : gi (wi (wl S2 21 (gi S2 16 7) (gl S2 16 15)) 20 (gi S2 16 7) (gi S2 16 8)) 16 7 = gi S2 16 7 := by simp only [gi_wi, gl_wl, gl_wi, gi_wl, gi_wcl, gl_wcl, Nat.reduceEqDiff, Int.reduceEq, false_and, true_and, and_true, and_false, if_false, if_true]
  have c6 : gi (wi (wl S2 21 (gi S2 16 7) (gl S2 16 15)) 20 (gi S2 16 7) (gi S2 16 8)) 16 6 = gi S2 16 6 := by simp only [gi_wi, gl_wl, gl_wi, gi_wl, gi_wcl, gl_wcl, Nat.reduceEqDiff, Int.reduceEq, false_and, true_and, and_true, and_false, if_false, if_true]
  rw [c7, c6]
  refine l_ckI (by omega) (l_lt (l_chk (by omega) (l_lt ?_)))
  have FS : Fr [21, 20, 19] S2 (wi (wi (wl S2 21 (gi S2 16 7) (gl S2 16 15)) 20 (gi S2 16 7) (gi S2 16 8)) 19 (2 * gi S2 16 7) (gi S2 16 6)) := ((Fr.refl.wl rfl).wi rfl).wi rfl
  have z21 : ∀ k, gl (wi (wi (wl S2 21 (gi S2 16 7) (gl S2 16 15)) 20 (gi S2 16 7) (gi S2 16 8)) 19 (2 * gi S2 16 7) (gi S2 16 6)) 21 k = if k = gi S2 16 7 then gl S2 16 15 else gl S2 21 k := fun k => by simp only [gi_wi, gl_wl, gl_wi, gi_wl, gi_wcl, gl_wcl, Nat.reduceEqDiff, Int.reduceEq, false_and, true_and, and_true, and_false, if_false, if_true]
  have z20 : ∀ k, gi (wi (wi (wl S2 21 (gi S2 16 7) (gl S2 16 15)) 20 (gi S2 16 7) (gi S2 16 8)) 19 (2 * gi S2 16 7) (gi S2 16 6)) 20 k = if k = gi S2 16 7 then gi S2 16 8 else gi S2 20 k := fun k => by simp only [gi_wi, gl_wl, gl_wi, gi_wl, gi_wcl, gl_wcl, Nat.reduceEqDiff, Int.reduceEq, false_and, true_and, and_true, and_false, if_false, if_true]
  have z19 : ∀ k, gi (wi (wi (wl S2 21 (gi S2 16 7) (gl S2 16 15)) 20 (gi S2 16 7) (gi S2 16 8)) 19 (2 * gi S2 16 7) (gi S2 16 6)) 19 k = if k = 2 * gi S2 16 7 then gi S2 16 6 else gi S2 19 k := fun k => by simp only [gi_wi, gl_wl, gl_wi, gi_wl, gi_wcl, gl_wcl, Nat.reduceEqDiff, Int.reduceEq, false_and, true_and, and_true, and_false, if_false, if_true]
  generalize wi (wi (wl S2 21 (gi S2 16 7) (gl S2 16 15)) 20 (gi S2 16 7) (gi S2 16 8)) 19 (2 * gi S2 16 7) (gi S2 16 6) = S3 at *
  -- the reference's
  refine r_lt (r_lt (r_lt (r_chk (by omega) (r_lt (r_lt ?_)))))
  rw [k1.1]
  have F4 : Fr [1000055021] x1.2 (wi x1.2 55 21 (gi S2 16 11)) := Fr.refl.wi rfl
  have a4 : gi (wi x1.2 55 21 (gi S2 16 11)) 55 21 = gi S2 16 11 := by simp only [gi_wi, gl_wl, gl_wi, gi_wl, gi_wcl, gl_wcl, Nat.reduceEqDiff, Int.reduceEq, false_and, true_and, and_true, and_false, if_false, if_true]
  generalize wi x1.2 55 21 (gi S2 16 11) = T4 at *
  have A4 := s1.ad (F4.mono rfl) a4 (by omega)
  obtain ⟨P5, R5⟩ := px_row (T := T4) (i := i) 74 (by decide) (gi T4 55 23) (by omega)
  have v74 : gi (wi T4 74 (270 + i) (gi T4 55 23)) 74 (30 * 9 + i) = gi T4 55 23 := by rw [gi_wi, if_pos ⟨rfl, by omega⟩]
  generalize wi T4 74 (270 + (i : Int)) (gi T4 55 23) = T5 at *
  refine r_chk (by omega) (r_lt (r_lt ?_))
  have i54 : gi T5 55 24 = gi x1.2 55 24 := (P5.1.i rfl).trans (F4.i rfl)
  have cd24 := cd2.2.1
  have sl2 := s2.2.2.2
  have p2n := s2.2.1.2.1
  obtain ⟨P6, R6⟩ := px_row (T := T5) (i := i) 75 (by decide) (gi T5 55 24) (fun _ => by omega)
  have v75 : gi (wi T5 75 (270 + i) (gi T5 55 24)) 75 (30 * 9 + i) = gi T5 55 24 := by rw [gi_wi, if_pos ⟨rfl, by omega⟩]
  generalize wi T5 75 (270 + (i : Int)) (gi T5 55 24) = T6 at *
  have F7 : Fr [1000055022] T6 (wi T6 55 22 0) := Fr.refl.wi rfl
  have d7 : gi (wi T6 55 22 0) 55 22 = 0 := by simp only [gi_wi, gl_wl, gl_wi, gi_wl, gi_wcl, gl_wcl, Nat.reduceEqDiff, Int.reduceEq, false_and, true_and, and_true, and_false, if_false, if_true]
  generalize wi T6 55 22 0 = T7 at *
  have Q : Fr [74, 75, 1000055022] T4 T7 := (P5.1.mono rfl).trans ((P6.1.mono rfl).trans (F7.mono rfl))
  have P7 : px_F px_rw2 T T7 := (((P2.trans ((px_F.of F4 rfl).mono rfl)).trans (P5.mono rfl)).trans (P6.mono rfl)).trans ((px_F.of F7 rfl).mono rfl)
  have R7 : px_RO T T7 i := (((R2.trans (px_RO.of F4 ⟨rfl, rfl, rfl, rfl, rfl⟩)).trans R5).trans R6).trans (px_RO.of F7 ⟨rfl, rfl, rfl, rfl, rfl⟩)
  have w73 : gi T7 73 (30 * 9 + i) = 0 := (Q.i rfl).trans ((F4.i rfl).trans ((F1.i rfl).trans u73))
  have w74 : gi T7 74 (30 * 9 + i) = gi T4 55 23 := (F7.i rfl).trans ((P6.1.i rfl).trans v74)
  have w75 : gi T7 75 (30 * 9 + i) = gi T4 55 24 := (F7.i rfl).trans (v75.trans (P5.1.i rfl))
  have i23 : gi T4 55 23 = gi x1.2 55 23 := F4.i rfl
  have i24 : gi T4 55 24 = gi x1.2 55 24 := F4.i rfl
  -- both stand behind the name
  have C3 : px_CO c r n S3 T7 cd := by
    have C := A4.1
    refine ⟨⟨C.1.1.fr FS ⟨rfl, rfl, rfl⟩, C.1.2.fr Q ⟨rfl, rfl⟩⟩, (FS.i rfl).trans C.2.1, C.2.2.1.fr FS Q ⟨rfl, rfl⟩ ⟨rfl, rfl, rfl⟩, ?_⟩
    have nm4 := C.2.2.2
    have nm4a := nm4.1
    have fs7 : gi S2 16 7 = gi T4 55 23 := nm4.1
    have x23 : gi T7 55 23 = gi T4 55 23 := Q.i rfl
    refine ⟨by rw [x23, show gi S3 16 7 = gi S2 16 7 from FS.i rfl]; exact nm4.1, by rw [x23]; exact nm4.2.1, fun k b1 b2 => ?_⟩
    rw [x23] at b2
    rw [z21, if_neg (by omega), show gl T7 80 k = gl T4 80 k from Q.l rfl]
    exact nm4.2.2 k b1 b2
  have A7 : px_AD c r n S3 T7 (gi S2 16 11) cd := ⟨C3, ⟨FS.i rfl, (Q.i rfl).trans a4, A4.2.1.2.2⟩, A4.2.2⟩
  refine l_bind (px_adv A7) (fun S8 h8' => ?_)
  obtain ⟨⟨p8, q8, s8⟩, f8⟩ := h8'
  have f8 : Fr px_cw S3 S8 := f8.mono rfl
  have fS3 : Fr px_cw2 S S3 := (px_cw_2 f2).trans (FS.mono rfl)
  have g7 : gi S3 16 7 = gi S 16 7 := (FS.i rfl).trans m2
  refine b_bind (px_exp hB s8 (b := 61) (by unfold px_sg; decide)) (fun S9 x9 h9 => ?_)
  obtain ⟨f9, g9, h9⟩ := h9
  have f9 := f8.trans f9
  have P9 := P7.trans ((px_F.of g9 rfl).mono (W' := px_rw2) rfl)
  have R9 := R7.trans (px_RO.of (i := i) g9 ⟨rfl, rfl, rfl, rfl, rfl⟩)
  -- the class goes on with a fault
  have after : ∀ (S10 : gM) (f : Int), px_BD S10 f → Fr px_cw S3 S10 → Wp (fun S' => px_BD S' f ∧ Fr px_cw2 S S') (w_lt (gi S10 16 7) fun V26 => w_ckI (2 * V26) fun V27 => w_ckI (V27 + 1) fun V28 => w_lt (gi S10 16 6) fun V29 => w_chk ((0 : Int) ≤ V28 ∧ V28 < 61) <| w_lt (wi S10 19 V28 V29) fun S31 => w_lt (gi S31 16 13) fun V32 => if ¬ V32 = 263 then g43_j128 S31 else (g33 S31).bind fun p43 => (g48 0 p43).bind fun p44 => g43_j128 p44) := by
    intro S10 f b10 f10
    have e7 : gi S10 16 7 = gi S 16 7 := (f10.i rfl).trans g7
    refine p_lt (p_ckI (by omega) (p_ckI (by omega) (p_lt (p_chk (by omega) (p_lt (p_lt ?_))))))
    have e13 : gi (wi S10 19 (2 * gi S10 16 7 + 1) (gi S10 16 6)) 16 13 = 283 := by simp only [gi_wi, gl_wl, gl_wi, gi_wl, gi_wcl, gl_wcl, Nat.reduceEqDiff, Int.reduceEq, false_and, true_and, and_true, and_false, if_false, if_true]; exact b10.1
    have e7' : gi (wi S10 19 (2 * gi S10 16 7 + 1) (gi S10 16 6)) 16 7 = gi S10 16 7 := by simp only [gi_wi, gl_wl, gl_wi, gi_wl, gi_wcl, gl_wcl, Nat.reduceEqDiff, Int.reduceEq, false_and, true_and, and_true, and_false, if_false, if_true]
    have b11 : px_BD (wi S10 19 (2 * gi S10 16 7 + 1) (gi S10 16 6)) f := ⟨e13, by simp only [gi_wi, gl_wl, gl_wi, gi_wl, gi_wcl, gl_wcl, Nat.reduceEqDiff, Int.reduceEq, false_and, true_and, and_true, and_false, if_false, if_true]; exact b10.2.1, b10.2.2.1, by simp only [gi_wi, gl_wl, gl_wi, gi_wl, gi_wcl, gl_wcl, Nat.reduceEqDiff, Int.reduceEq, false_and, true_and, and_true, and_false, if_false, if_true]; exact b10.2.2.2⟩
    have f11 : Fr px_cw2 S (wi S10 19 (2 * gi S10 16 7 + 1) (gi S10 16 6)) := (fS3.trans (px_cw_2 f10)).wi rfl
    generalize wi S10 19 (2 * gi S10 16 7 + 1) (gi S10 16 6) = S11 at *
    rw [e13]
    refine p_if (fun _ => ?_) (fun z => absurd (by decide) z)
    exact p_imp (px_128_b b11 (by omega)) (fun S' k => ⟨k.1, f11.trans (k.2.mono rfl)⟩)
  rcases h9 with ⟨v9, p9, s9, q9⟩ | ⟨v9, b9⟩
  rotate_left
  · refine r_ift v9 (l_one ?_)
    refine px_bb (px_45_fl 0) b9 f9 (fun S10 b10 f10 => ?_)
    exact p_imp (after S10 _ b10 f10) (fun S' k => ⟨k.2, P9, R9, Or.inr ⟨rfl, k.1⟩⟩)
  refine r_iff (by omega) ?_
  refine b_bind (px_ex_w (o := 0) hB (by decide) S9 x9.2 p9 cd s9 ((g9.i rfl).trans d7)) (fun S10 x10 h10 => ?_)
  obtain ⟨f10, P10, h10⟩ := h10
  have f10 := f9.trans f10
  have R10 := R9.trans (px_RO.of (i := i) P10.1 ⟨rfl, rfl, rfl, rfl, rfl⟩)
  have P10' := P9.trans (P10.mono (W' := px_rw2) rfl)
  have Q10 : Fr px_rw T7 x10.2 := (g9.mono rfl).trans P10.1
  rcases h10 with ⟨v10, p10, xs, s10, d10, G10, q10⟩ | ⟨v10, b10⟩
  rotate_left
  · refine r_iff (fun z => z v10) (l_one ?_)
    exact p_imp (after S10 _ b10 f10) (fun S' k => ⟨k.2, P10', R10, Or.inr ⟨rfl, k.1⟩⟩)
  refine r_ift (by omega) ?_
  have cd10 := s10.1.2.2.1
  have sl10 := s10.2.2.2
  have p10n := s10.2.1.2.1
  have e7 : gi S10 16 7 = gi S 16 7 := (f10.i rfl).trans g7
  refine l_lt (l_ckI (by omega) (l_ckI (by omega) (l_lt (l_chk (by omega) (l_lt (l_lt ?_))))))
  refine r_lt (r_chk (by omega) (r_lt ?_))
  have F11 : Fr [19] S10 (wi S10 19 (2 * gi S10 16 7 + 1) (gi S10 16 6)) := Fr.refl.wi rfl
  have y19 : ∀ k, gi (wi S10 19 (2 * gi S10 16 7 + 1) (gi S10 16 6)) 19 k = if k = 2 * gi S10 16 7 + 1 then gi S10 16 6 else gi S10 19 k := fun k => by simp only [gi_wi, gl_wl, gl_wi, gi_wl, gi_wcl, gl_wcl, Nat.reduceEqDiff, Int.reduceEq, false_and, true_and, and_true, and_false, if_false, if_true]
  generalize wi S10 19 (2 * gi S10 16 7 + 1) (gi S10 16 6) = S11 at *
  have cd34 := cd10.2.1
  obtain ⟨P11, R11⟩ := px_row (T := x10.2) (i := i) 76 (by decide) (gi x10.2 55 24) (fun _ => by omega)
  have v76 : gi (wi x10.2 76 (270 + i) (gi x10.2 55 24)) 76 (30 * 9 + i) = gi x10.2 55 24 := by rw [gi_wi, if_pos ⟨rfl, by omega⟩]
  generalize wi x10.2 76 (270 + (i : Int)) (gi x10.2 55 24) = T11 at *
  have s11 := s10.fr F11 P11.1 rfl rfl
  obtain ⟨x, ex, hx⟩ := px_tak hB s11 (b := 7) (w := 26982) (by decide) rfl
  rw [ex, ob_s]
  have P12 := (P10'.trans (P11.mono (W' := px_rw2) rfl)).trans ((px_F.of hx.1 rfl).mono (W' := px_rw2) rfl)
  have R12 := (R10.trans R11).trans (px_RO.of (i := i) hx.1 ⟨rfl, rfl, rfl, rfl, rfl⟩)
  have Q12 : Fr (76 :: px_rw) T7 x.2 := (Q10.mono rfl).trans ((P11.1.mono rfl).trans (hx.1.mono rfl))
  have fS11 : Fr px_cw2 S S11 := (fS3.trans (px_cw_2 f10)).trans (F11.mono rfl)
  have F3 : Fr (19 :: px_cw) S3 S11 := (f10.mono rfl).trans (F11.mono rfl)
  -- the end, out of the memories behind the condition
  have fin : ∀ (S13 T13 : gM) (p13 : Int) (ys : List (Int × Int)), Fr px_cw S11 S13 → px_F px_rw x.2 T13 → px_ST c r n S13 T13 p13 (cd ++ xs ++ ys) → (ys = [] ∨ px_PG ys true 46) → p10 ≤ p13 → W2 (px_KR c r n S T q i) (g43_j128 S13) (g152_j116 (270 + i) x1.1 T13) := by
    intro S13 T13 p13 ys f13 P13 s13 G13 q13
    have h7 : gi S13 16 7 = gi S 16 7 := (f13.i rfl).trans ((F11.i rfl).trans e7)
    have R13 := R12.trans (px_RO.of (i := i) P13.1 ⟨rfl, rfl, rfl, rfl, rfl⟩)
    have o7 : gi S10 16 7 = gi S2 16 7 := by omega
    have j19 : ∀ k, gi S13 19 k = if k = 2 * gi S10 16 7 + 1 then gi S10 16 6 else if k = 2 * gi S2 16 7 then gi S2 16 6 else gi S 19 k := fun k => by
      rw [show gi S13 19 k = gi S11 19 k from f13.i rfl, y19, show gi S10 19 k = gi S3 19 k from f10.i rfl, z19, show gi S2 19 k = gi S 19 k from f2.i rfl]
    have j20 : ∀ k, gi S13 20 k = if k = gi S2 16 7 then gi S2 16 8 else gi S 20 k := fun k => by
      rw [show gi S13 20 k = gi S11 20 k from f13.i rfl, show gi S11 20 k = gi S3 20 k from F3.i rfl, z20, show gi S2 20 k = gi S 20 k from f2.i rfl]
    have j21 : gl S13 21 (gi S13 16 7) = gl S2 16 15 := by
      rw [show gl S13 21 (gi S13 16 7) = gl S11 21 (gi S13 16 7) from f13.l rfl, show gl S11 21 (gi S13 16 7) = gl S3 21 (gi S13 16 7) from F3.l rfl, z21, if_pos (by omega)]
    have k73 : gi T13 73 (30 * 9 + i) = 0 := (P13.1.i rfl).trans ((Q12.i rfl).trans w73)
    have k74 : gi T13 74 (30 * 9 + i) = gi S13 16 7 := by
      rw [show gi T13 74 (30 * 9 + (i : Int)) = gi x.2 74 (30 * 9 + i) from P13.1.i rfl, show gi x.2 74 (30 * 9 + (i : Int)) = gi T7 74 (30 * 9 + i) from Q12.i rfl, w74]
      omega
    have k75 : gi T13 75 (30 * 9 + i) = 13500 + cd.length := by
      rw [show gi T13 75 (30 * 9 + (i : Int)) = gi x.2 75 (30 * 9 + i) from P13.1.i rfl, show gi x.2 75 (30 * 9 + (i : Int)) = gi T7 75 (30 * 9 + i) from Q12.i rfl, w75, i24]
      exact cd2.2.1
    have k76 : gi T13 76 (30 * 9 + i) = 13500 + (cd ++ xs).length := by
      rw [show gi T13 76 (30 * 9 + (i : Int)) = gi x.2 76 (30 * 9 + i) from P13.1.i rfl, show gi x.2 76 (30 * 9 + (i : Int)) = gi T11 76 (30 * 9 + i) from hx.1.i rfl, v76]
      exact cd10.2.1
    refine (px_lfin hD hi h.1.2.2.1 s13 h7 ⟨by rw [j21]; exact hw.1, by rw [j21]; exact hw.2.1.symm, hw.2.2⟩ ⟨?_, ?_⟩ (fun k b1 b2 => ?_) ?_ (fun k b1 b2 => ?_) ?_ R13 k73 k74 k75 k76 G10 G13).imp (fun S' y hy => ?_)
    · rw [j19, if_neg (by omega), if_pos (by omega)]
      exact cd2.1
    · rw [j19, if_pos (by omega)]
      exact cd10.1
    · rw [j19, if_neg (by omega), if_neg (by omega)]
    · rw [j20, if_pos (by omega), s28]
    · rw [j20, if_neg (by omega)]
    · funext k
      rw [show gi S13 22 k = gi S11 22 k from f13.i rfl, show gi S11 22 k = gi S3 22 k from F3.i rfl, show gi S3 22 k = gi S2 22 k from FS.i rfl, show gi S2 22 k = gi S 22 k from f2.i rfl]
    · obtain ⟨y1, y2, y3, y4, y5, y6⟩ := hy
      exact ⟨(fS11.trans (px_cw_2 f13)).trans (y1.mono rfl), (P12.trans (P13.mono rfl)).trans (y2.mono rfl), R13.trans y3, Or.inl ⟨y4, p13, _, y5, y6, by omega⟩⟩
  by_cases t7 : gi S11 16 13 = 256 + 7
  · have k := hx.2.1 t7
    refine r_iff (by omega) (l_iff (fun z => z (by omega)) ?_)
    refine l_bind (px_adv k.2.1) (fun S12 h12 => ?_)
    obtain ⟨⟨p12, q12, s12⟩, f12⟩ := h12
    have f12 : Fr px_cw S11 S12 := f12.mono rfl
    have d12 : gi x.2 55 22 = 0 := (hx.1.i rfl).trans ((P11.1.i rfl).trans d10)
    refine b_bind (px_cond_w hB S12 x.2 p12 (cd ++ xs) s12 d12) (fun S13 x13 h13 => ?_)
    obtain ⟨f13, P13, h13⟩ := h13
    have f13 := f12.trans f13
    rcases h13 with ⟨v13, p13, ys, s13, d13, G13, q13⟩ | ⟨v13, b13⟩
    · refine r_ift (by omega) ?_
      exact fin S13 x13.2 p13 ys f13 P13 s13 (Or.inr G13) (by omega)
    · refine r_iff (fun z => z v13) (l_one ?_)
      have h7 : gi S13 16 7 = gi S 16 7 := (f13.i rfl).trans ((F11.i rfl).trans e7)
      exact p_imp (px_128_b b13 (by omega)) (fun S' k => ⟨(fS11.trans (px_cw_2 f13)).trans (k.2.mono rfl), P12.trans (P13.mono rfl), R12.trans (px_RO.of P13.1 ⟨rfl, rfl, rfl, rfl, rfl⟩), Or.inr ⟨rfl, k.1⟩⟩)
  · have k := hx.2.2 t7
    refine r_ift k.1 (l_ift (by omega) ?_)
    exact fin S11 x.2 p10 [] Fr.refl px_F.refl (by rw [List.append_nil]; exact k.2.1) (Or.inl rfl) (Int.le_refl _)
end LI
