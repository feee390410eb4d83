/-! the parser: ONE, ALL, COND side by side (wip/gen_px2.py) -/
section CN
variable {S S' S0 T T' T0 : gM} {c r : Int → Int} {n p q f o : Int} {cd : List (Int × Int)} {d D dx : Nat} {G48 G49 G50 : Int → gM → Option gM} {G149 G150 G151 : gM → Option (Int × gM)}
theorem px_50_f : px_FL (g50g G48 G49 G50 o) := fun S f h => by
  have t := h.1
  unfold g50g
  simp only [lt_t]
  rw [t, if_neg (by decide), if_pos (by decide)]
  refine px_bb (px_45_fl o) h Fr.refl (fun S1 h1 F1 => ?_)
  have t1 := h1.1
  rw [t1, if_pos (by decide), if_pos (by decide)]
  unfold g50_j120
  rw [if_neg (by decide)]
  refine px_bb (px_37_f (by unfold px_sg; decide)) h1 F1 (fun S2 h2 F2 => ?_)
  unfold g50_j140
  refine px_bb (px_45_fl o) h2 F2 (fun S3 h3 F3 => ?_)
  exact px_bb (px_44_f (by decide) (by decide)) h3 F3 (fun S4 h4 F4 => p_some ⟨h4, F4⟩)
theorem px_49_lb {k : Int} (m : Nat) (h : px_BD S f) : Wp (fun S' => px_BD S' f ∧ Fr px_cw S S') (g49_l7 G48 G49 G50 o (m + 1) k S) := by
  have t := h.1
  rw [g49_l7]
  simp only [lt_t]
  rw [t]
  refine p_if (fun _ => p_some ⟨h, Fr.refl⟩) (fun _ => ?_)
  rw [if_pos (by decide)]
  exact p_some ⟨h, Fr.refl⟩
theorem px_49_f (hG : px_FL (G50 o)) : px_FL (g49g G48 G49 G50 o) := fun S f h => by
  unfold g49g
  refine px_bb hG h Fr.refl (fun S' h' F => ?_)
  exact p_imp (px_49_lb 99999 h') (fun S5 h5 => ⟨h5.1, F.trans h5.2⟩)
theorem px_49_l (hB : px_B c r n) (hD : d + 1 ≤ D) (hG : px_LK c r n o true d (G50 o) G149) {p0 : Int} (hp0 : 0 ≤ p0) :
    ∀ (u m m2 : Nat) (k p : Int) (S T : gM) (xs : List (Int × Int)), (n - p).toNat < u → u < m → u < m2 → 0 ≤ k → k + p0 ≤ p → Fr px_cw S0 S → px_F px_rw T0 T → px_ST c r n S T p (cd ++ xs) → gi T 55 22 = o → px_PG xs true D → p0 + xs.length ≤ p → W2 (px_PO c r n S0 T0 p0 cd o true D) (g49_l7 G48 G49 G50 o m k S) (g150_l9 G149 G150 G151 m2 T) := by
  intro u
  induction u with
  | zero => intro m m2 k p S T xs h; omega
  | succ u ih =>
    intro m m2 k p S T xs hu hm hm2 hk hkp F P s hdp hPG hl
    cases m with
    | zero => omega
    | succ m =>
    cases m2 with
    | zero => omega
    | succ m2 =>
    have hn := hB.1
    have hp := s.2.1.2.1
    have sl := s.2.2.2
    dsimp only [g49_l7, g150_l9]
    obtain ⟨x, ex, hx⟩ := px_tak hB s (b := 11) (w := 6385252) (by decide) rfl
    rw [ex, ob_s]
    have F1 := hx.1
    have P1 := P.trans ((px_F.of F1 rfl).mono (W' := px_rw) rfl)
    have d1 : gi x.2 55 22 = o := (F1.i rfl).trans hdp
    by_cases t1 : gi S 16 13 = 267
    · have k1 := hx.2.1 t1
      have lt : p < n := by have := k1.2.1.2.1; omega
      refine r_iff (by omega) ?_
      refine l_iff (by omega) (l_lt (l_iff (fun z => z t1) ?_))
      refine l_bind (px_adv k1.2.1) (fun S2 h2 => ?_)
      obtain ⟨⟨p2, q2, s2⟩, f2⟩ := h2
      have f2 : Fr px_cw S0 S2 := F.trans (f2.mono rfl)
      refine b_bind (hG S2 x.2 p2 (cd ++ xs) s2 d1) (fun S3 x3 h3 => ?_)
      obtain ⟨f3, P3, h3⟩ := h3
      have f3 := f2.trans f3
      have P3 := P1.trans P3
      rcases h3 with ⟨v3, p3, ys, s3, d3, G3, q3⟩ | ⟨v3, b3⟩
      rotate_left
      · refine r_iff (fun z => z v3) (l_one ?_)
        refine px_bb (px_44_f (by decide) (by decide)) b3 f3 (fun S4 b4 f4 => ?_)
        refine p_ckI (by omega) ?_
        cases m with
        | zero => omega
        | succ m => exact p_imp (px_49_lb m b4) (fun S5 h5 => ⟨f4.trans h5.2, P3, Or.inr ⟨rfl, h5.1⟩⟩)
      refine r_ift (by omega) ?_
      have len : ((cd ++ xs ++ ys).length : Int) = (cd ++ xs).length + ys.length := by rw [List.length_append]; omega
      refine b_bind (px_putS s3 (by omega) (k := 12) (a := 0) (k' := 13) (a' := 0) ⟨by dsimp only; decide, by dsimp only; decide⟩ (by decide) (by decide) (by decide)) (fun S4 T4 h4 => ?_)
      obtain ⟨s4, f4, P4⟩ := h4
      refine l_ckI (by omega) ?_
      have p3n := s3.2.1.2.1
      refine ih m m2 (k + 1) p3 S4 T4 (xs ++ ys ++ [(13, 0)]) (by omega) (by omega) (by omega) (by omega) (by omega) (f3.trans (f4.mono rfl)) (P3.trans (P4.mono rfl)) ?_ ((P4.1.i rfl).trans d3) ?_ ?_
      · rw [List.append_assoc, List.append_assoc] at s4
        rw [List.append_assoc]
        exact s4
      · exact hPG.bin G3 (k := 13) (e := D) (Nat.le_refl _) hD (by decide) (fun _ => ⟨rfl, rfl⟩)
      · rw [List.length_append, List.length_append, List.length_singleton]; omega
    have k1 := hx.2.2 t1
    refine r_ift k1.1 ?_
    have fin : W2 (px_PO c r n S0 T0 p0 cd o true D) (some S) (some ((1 : Int), x.2)) := b_some ⟨F, P1, Or.inl ⟨rfl, p, xs, k1.2.1, d1, hPG, hl⟩⟩
    refine l_if (fun _ => fin) (fun _ => l_lt (l_ift t1 fin))
theorem px_49_w (hB : px_B c r n) (hD : d + 1 ≤ D) (hG : px_LK c r n o true d (G50 o) G149) : px_LK c r n o true D (g49g G48 G49 G50 o) (g150g G149 G150 G151) := by
  intro S T p cd s hdp
  have hn := hB.1
  have hp := s.2.1.2.1
  unfold g49g g150g
  refine b_bind (hG S T p cd s hdp) (fun S1 x1 h1 => ?_)
  obtain ⟨f1, P1, h1⟩ := h1
  rcases h1 with ⟨v1, p1, xs, s1, d1, G1, q1⟩ | ⟨v1, b1⟩
  · refine r_ift (by omega) ?_
    have p1n := s1.2.1.2.1
    exact px_49_l hB hD hG hp.1 ((n - p1).toNat + 1) 100000 100000 0 p1 S1 x1.2 xs (by omega) (by omega) (by omega) (by omega) (by omega) f1 P1 s1 d1 (G1.mono (by omega)) q1
  · refine r_iff (fun z => z v1) (l_one ?_)
    exact p_imp (px_49_lb 99999 b1) (fun S5 h5 => ⟨f1.trans h5.2, P1, Or.inr ⟨rfl, h5.1⟩⟩)
theorem px_48_lb {k : Int} (m : Nat) (h : px_BD S f) : Wp (fun S' => px_BD S' f ∧ Fr px_cw S S') (g48_l7 G48 G49 G50 o (m + 1) k S) := by
  have t := h.1
  rw [g48_l7]
  simp only [lt_t]
  rw [t]
  refine p_if (fun _ => p_some ⟨h, Fr.refl⟩) (fun _ => ?_)
  rw [if_pos (by decide)]
  exact p_some ⟨h, Fr.refl⟩
theorem px_48_f (hG : px_FL (G49 o)) : px_FL (g48g G48 G49 G50 o) := fun S f h => by
  unfold g48g
  refine px_bb hG h Fr.refl (fun S' h' F => ?_)
  exact p_imp (px_48_lb 99999 h') (fun S5 h5 => ⟨h5.1, F.trans h5.2⟩)
theorem px_48_l (hB : px_B c r n) (hD : d + 1 ≤ D) (hG : px_LK c r n o true d (G49 o) G150) {p0 : Int} (hp0 : 0 ≤ p0) :
    ∀ (u m m2 : Nat) (k p : Int) (S T : gM) (xs : List (Int × Int)), (n - p).toNat < u → u < m → u < m2 → 0 ≤ k → k + p0 ≤ p → Fr px_cw S0 S → px_F px_rw T0 T → px_ST c r n S T p (cd ++ xs) → gi T 55 22 = o → px_PG xs true D → p0 + xs.length ≤ p → W2 (px_PO c r n S0 T0 p0 cd o true D) (g48_l7 G48 G49 G50 o m k S) (g151_l9 G149 G150 G151 m2 T) := by
  intro u
  induction u with
  | zero => intro m m2 k p S T xs h; omega
  | succ u ih =>
    intro m m2 k p S T xs hu hm hm2 hk hkp F P s hdp hPG hl
    cases m with
    | zero => omega
    | succ m =>
    cases m2 with
    | zero => omega
    | succ m2 =>
    have hn := hB.1
    have hp := s.2.1.2.1
    have sl := s.2.2.2
    dsimp only [g48_l7, g151_l9]
    obtain ⟨x, ex, hx⟩ := px_tak hB s (b := 10) (w := 28530) (by decide) rfl
    rw [ex, ob_s]
    have F1 := hx.1
    have P1 := P.trans ((px_F.of F1 rfl).mono (W' := px_rw) rfl)
    have d1 : gi x.2 55 22 = o := (F1.i rfl).trans hdp
    by_cases t1 : gi S 16 13 = 266
    · have k1 := hx.2.1 t1
      have lt : p < n := by have := k1.2.1.2.1; omega
      refine r_iff (by omega) ?_
      refine l_iff (by omega) (l_lt (l_iff (fun z => z t1) ?_))
      refine l_bind (px_adv k1.2.1) (fun S2 h2 => ?_)
      obtain ⟨⟨p2, q2, s2⟩, f2⟩ := h2
      have f2 : Fr px_cw S0 S2 := F.trans (f2.mono rfl)
      refine b_bind (hG S2 x.2 p2 (cd ++ xs) s2 d1) (fun S3 x3 h3 => ?_)
      obtain ⟨f3, P3, h3⟩ := h3
      have f3 := f2.trans f3
      have P3 := P1.trans P3
      rcases h3 with ⟨v3, p3, ys, s3, d3, G3, q3⟩ | ⟨v3, b3⟩
      rotate_left
      · refine r_iff (fun z => z v3) (l_one ?_)
        refine px_bb (px_44_f (by decide) (by decide)) b3 f3 (fun S4 b4 f4 => ?_)
        refine p_ckI (by omega) ?_
        cases m with
        | zero => omega
        | succ m => exact p_imp (px_48_lb m b4) (fun S5 h5 => ⟨f4.trans h5.2, P3, Or.inr ⟨rfl, h5.1⟩⟩)
      refine r_ift (by omega) ?_
      have len : ((cd ++ xs ++ ys).length : Int) = (cd ++ xs).length + ys.length := by rw [List.length_append]; omega
      refine b_bind (px_putS s3 (by omega) (k := 13) (a := 0) (k' := 12) (a' := 0) ⟨by dsimp only; decide, by dsimp only; decide⟩ (by decide) (by decide) (by decide)) (fun S4 T4 h4 => ?_)
      obtain ⟨s4, f4, P4⟩ := h4
      refine l_ckI (by omega) ?_
      have p3n := s3.2.1.2.1
      refine ih m m2 (k + 1) p3 S4 T4 (xs ++ ys ++ [(12, 0)]) (by omega) (by omega) (by omega) (by omega) (by omega) (f3.trans (f4.mono rfl)) (P3.trans (P4.mono rfl)) ?_ ((P4.1.i rfl).trans d3) ?_ ?_
      · rw [List.append_assoc, List.append_assoc] at s4
        rw [List.append_assoc]
        exact s4
      · exact hPG.bin G3 (k := 12) (e := D) (Nat.le_refl _) hD (by decide) (fun _ => ⟨rfl, rfl⟩)
      · rw [List.length_append, List.length_append, List.length_singleton]; omega
    have k1 := hx.2.2 t1
    refine r_ift k1.1 ?_
    have fin : W2 (px_PO c r n S0 T0 p0 cd o true D) (some S) (some ((1 : Int), x.2)) := b_some ⟨F, P1, Or.inl ⟨rfl, p, xs, k1.2.1, d1, hPG, hl⟩⟩
    refine l_if (fun _ => fin) (fun _ => l_lt (l_ift t1 fin))
theorem px_48_w (hB : px_B c r n) (hD : d + 1 ≤ D) (hG : px_LK c r n o true d (G49 o) G150) : px_LK c r n o true D (g48g G48 G49 G50 o) (g151g G149 G150 G151) := by
  intro S T p cd s hdp
  have hn := hB.1
  have hp := s.2.1.2.1
  unfold g48g g151g
  refine b_bind (hG S T p cd s hdp) (fun S1 x1 h1 => ?_)
  obtain ⟨f1, P1, h1⟩ := h1
  rcases h1 with ⟨v1, p1, xs, s1, d1, G1, q1⟩ | ⟨v1, b1⟩
  · refine r_ift (by omega) ?_
    have p1n := s1.2.1.2.1
    exact px_48_l hB hD hG hp.1 ((n - p1).toNat + 1) 100000 100000 0 p1 S1 x1.2 xs (by omega) (by omega) (by omega) (by omega) (by omega) f1 P1 s1 d1 (G1.mono (by omega)) q1
  · refine r_iff (fun z => z v1) (l_one ?_)
    exact p_imp (px_48_lb 99999 b1) (fun S5 h5 => ⟨f1.trans h5.2, P1, Or.inr ⟨rfl, h5.1⟩⟩)
/-- EX sign EX -/
theorem px_rel (hB : px_B c r n) (ho : 0 ≤ o ∧ o ≤ 8) (s : px_ST c r n S T p cd) (hdp : gi T 55 22 = o) (F : Fr px_cw S0 S) (P : px_F px_rw T0 T) : W2 (px_PO c r n S0 T0 p cd o true 28) ((g45 o S).bind fun p17 => w_lt (gi p17 16 13) fun V18 => if ¬ V18 = 60 then w_lt (gi p17 16 13) fun V20 => if ¬ V20 = 62 then g50_j120 G48 G49 G50 o 11 p17 else g50_j120 G48 G49 G50 o 10 p17 else g50_j120 G48 G49 G50 o 9 p17) (g149_j130 G149 G150 G151 T) := by
  unfold g149_j130
  have E := px_ex_w (o := o) hB ho
  have sl := s.2.2.2
  have hp := s.2.1.2.1
  refine b_bind (E S T p cd s hdp) (fun S1 x1 h1 => ?_)
  obtain ⟨f1, P1, h1⟩ := h1
  have f1 := F.trans f1
  have P1 := P.trans P1
  rcases h1 with ⟨v1, p1, xs, s1, d1, G1, q1⟩ | ⟨v1, b1⟩
  rotate_left
  · refine r_iff (fun z => z v1) (l_one ?_)
    have t1 := b1.1
    simp only [lt_t]
    rw [t1, if_pos (by decide), if_pos (by decide)]
    unfold g50_j120
    rw [if_neg (by decide)]
    refine px_bb (px_37_f (by unfold px_sg; decide)) b1 f1 (fun S2 h2 F2 => ?_)
    unfold g50_j140
    refine px_bb (px_45_fl o) h2 F2 (fun S3 h3 F3 => ?_)
    exact px_bb (px_44_f (by decide) (by decide)) h3 F3 (fun S4 h4 F4 => p_some ⟨F4, P1, Or.inr ⟨rfl, h4⟩⟩)
  refine r_ift (by omega) ?_
  -- behind the sign
  have rest : ∀ kd : Int, (9 ≤ kd ∧ kd ≤ 11) → ∀ (S2 T2 : gM) (p2 : Int), Fr px_cw S0 S2 → px_F px_rw T0 T2 → px_ST c r n S2 T2 p2 (cd ++ xs) → gi T2 55 22 = o → p1 + 1 ≤ p2 → W2 (px_PO c r n S0 T0 p cd o true 28) (g50_j140 G48 G49 G50 o kd S2) (g149_j182 G149 G150 G151 kd T2) := by
    intro kd hkd S2 T2 p2 f2 P2 s2 d2 q2
    unfold g50_j140 g149_j182
    refine r_iff (by omega) ?_
    refine b_bind (E S2 T2 p2 (cd ++ xs) s2 d2) (fun S3 x3 h3 => ?_)
    obtain ⟨f3, P3, h3⟩ := h3
    have f3 := f2.trans f3
    have P3 := P2.trans P3
    rcases h3 with ⟨v3, p3, ys, s3, d3, G3, q3⟩ | ⟨v3, b3⟩
    rotate_left
    · refine r_iff (fun z => z v3) (l_one ?_)
      exact px_bb (px_44_f (by omega) (by decide)) b3 f3 (fun S4 h4 F4 => p_some ⟨F4, P3, Or.inr ⟨rfl, h4⟩⟩)
    refine r_ift (by omega) ?_
    have len : ((cd ++ xs ++ ys).length : Int) = cd.length + xs.length + ys.length := by rw [List.length_append, List.length_append]; omega
    refine b_bind (px_putS s3 (by omega) (k := kd) (a := 0) (k' := kd) (a' := 0) ⟨by dsimp only; omega, by dsimp only; decide⟩ (by omega) (by decide) (by unfold cst kmp; rw [if_neg (by omega), if_neg (by omega), if_neg (by omega)]; omega)) (fun S4 T4 h4 => ?_)
    obtain ⟨s4, f4, P4⟩ := h4
    refine b_some ⟨f3.trans (f4.mono rfl), P3.trans (P4.mono rfl), Or.inl ⟨rfl, p3, xs ++ ys ++ [(kd, 0)], ?_, (P4.1.i rfl).trans d3, ?_, ?_⟩⟩
    · rw [List.append_assoc, List.append_assoc] at s4
      rw [List.append_assoc]
      exact s4
    · have := G1.bin G3 (k := kd) (e := 28) (by omega) (by omega) (by omega) (fun z => by omega)
      rw [decide_eq_true (by omega)] at this
      exact this
    · rw [List.length_append, List.length_append, List.length_singleton]; omega
  obtain ⟨x, ex, hx⟩ := px_sgn hB s1 (b := 60) (by unfold px_sg; decide)
  rw [ex, ob_s]
  have F2 := hx.1
  have P2 := P1.trans ((px_F.of F2 rfl).mono (W' := px_rw) rfl)
  have d2 : gi x.2 55 22 = o := (F2.i rfl).trans d1
  refine l_lt ?_
  by_cases t1 : gi S1 16 13 = 60
  · have k1 := hx.2.1 t1
    refine r_iff (by omega) (l_iff (fun z => z t1) ?_)
    unfold g50_j120
    refine l_ift (by decide) ?_
    refine l_bind (px_adv k1.2.1) (fun S2 h2 => ?_)
    obtain ⟨⟨p2, q2, s2⟩, f2⟩ := h2
    exact rest 9 (by decide) S2 x.2 p2 (f1.trans (f2.mono rfl)) P2 s2 d2 (by omega)
  have k1 := hx.2.2 t1
  refine r_ift k1.1 (l_ift t1 (l_lt ?_))
  obtain ⟨y, ey, hy⟩ := px_sgn hB k1.2.1 (b := 62) (by unfold px_sg; decide)
  rw [ey, ob_s]
  have F3 := hy.1
  have P3 := P2.trans ((px_F.of F3 rfl).mono (W' := px_rw) rfl)
  have d3 : gi y.2 55 22 = o := (F3.i rfl).trans d2
  by_cases t2 : gi S1 16 13 = 62
  · have k2 := hy.2.1 t2
    refine r_iff (by omega) (l_iff (fun z => z t2) ?_)
    unfold g50_j120
    refine l_ift (by decide) ?_
    refine l_bind (px_adv k2.2.1) (fun S2 h2 => ?_)
    obtain ⟨⟨p2, q2, s2⟩, f2⟩ := h2
    exact rest 10 (by decide) S2 y.2 p2 (f1.trans (f2.mono rfl)) P3 s2 d3 (by omega)
  have k2 := hy.2.2 t2
  refine r_ift k2.1 (l_ift t2 ?_)
  unfold g50_j120
  refine l_iff (by decide) ?_
  refine b_bind (px_exp hB k2.2.1 (b := 61) (by unfold px_sg; decide)) (fun S4 x4 h4 => ?_)
  obtain ⟨f4, g4, h4⟩ := h4
  have f4 := f1.trans f4
  have P4 := P3.trans ((px_F.of g4 rfl).mono (W' := px_rw) rfl)
  rcases h4 with ⟨v4, p4, s4, q4⟩ | ⟨v4, b4⟩
  · refine r_iff (by omega) ?_
    exact rest 11 (by decide) S4 x4.2 p4 f4 P4 s4 ((g4.i rfl).trans d3) q4
  · refine r_ift v4 ?_
    unfold g149_j182
    refine r_ift rfl (l_one ?_)
    unfold g50_j140
    refine px_bb (px_45_fl o) b4 f4 (fun S5 h5 F5 => ?_)
    exact px_bb (px_44_f (by decide) (by decide)) h5 F5 (fun S6 h6 F6 => p_some ⟨F6, P4, Or.inr ⟨rfl, h6⟩⟩)
theorem px_50_w (hB : px_B c r n) (ho : 0 ≤ o ∧ o ≤ 8) (hd : 28 ≤ d) (IH : o < 8 → (px_LK c r n (o + 1) true dx (G50 (o + 1)) G149 ∧ px_FL (G50 (o + 1)) ∧ dx ≤ d) ∧ (px_LK c r n (o + 1) true D (G48 (o + 1)) G151 ∧ px_FL (G48 (o + 1)) ∧ D ≤ d)) : px_LK c r n o true d (g50g G48 G49 G50 o) (g149g G149 G150 G151) := by
  intro S T p cd s hdp
  have hn := hB.1
  have hp := s.2.1.2.1
  have sl := s.2.2.2
  unfold g50g g149g
  refine r_bind (px_wrd hB s) (fun x1 h1 => ?_)
  obtain ⟨F1, W1, ⟨s1, a1⟩, k1⟩ := h1
  have P1 : px_F px_rw T x1.2 := (px_F.of F1 rfl).mono rfl
  have d1 : gi x1.2 55 22 = o := (F1.i rfl).trans hdp
  have k12 := W1.key (b := 12) (by decide)
  rw [show px_vk 12 = 7237492 from rfl] at k12
  refine l_lt ?_
  by_cases w1 : x1.1 = 7237492
  · have t1 := k12.mp w1
    refine r_iff (fun z => z w1) (l_ift (by omega) ?_)
    unfold g50_j19
    refine l_lt (l_iff (fun z => z (by omega)) ?_)
    unfold g50_j34
    by_cases o8 : o < 8
    rotate_left
    · rw [px_145_8 (by omega), ob_s]
      dsimp only
      exact l_iff o8 (r_iff (fun z => z rfl) (px_bad s1 Fr.refl P1 a1))
    obtain ⟨⟨IA, IB, IC⟩, -⟩ := IH o8
    rw [px_145_n (by omega), ob_s]
    dsimp only
    refine l_ift o8 (r_ift (by decide) (r_lt (r_lt ?_)))
    have k1 := k1 (by omega)
    have e42 : gi (wi x1.2 55 22 (gi x1.2 55 22 + 1)) 55 42 = gi S 16 11 := by simp only [gi_wi, gl_wl, gl_wi, gi_wl, gi_wcl, gl_wcl, Nat.reduceEqDiff, Int.reduceEq, false_and, true_and, and_true, and_false, if_false, if_true]; exact k1.1
    rw [e42]
    have F3 : Fr [1000055021, 1000055022] x1.2 (wi (wi x1.2 55 22 (gi x1.2 55 22 + 1)) 55 21 (gi S 16 11)) := (Fr.refl.wi rfl).wi rfl
    have a3 : gi (wi (wi x1.2 55 22 (gi x1.2 55 22 + 1)) 55 21 (gi S 16 11)) 55 21 = gi S 16 11 := by simp only [gi_wi, gl_wl, gl_wi, gi_wl, gi_wcl, gl_wcl, Nat.reduceEqDiff, Int.reduceEq, false_and, true_and, and_true, and_false, if_false, if_true]
    have d3 : gi (wi (wi x1.2 55 22 (gi x1.2 55 22 + 1)) 55 21 (gi S 16 11)) 55 22 = o + 1 := by simp only [gi_wi, gl_wl, gl_wi, gi_wl, gi_wcl, gl_wcl, Nat.reduceEqDiff, Int.reduceEq, false_and, true_and, and_true, and_false, if_false, if_true]; omega
    generalize wi (wi x1.2 55 22 (gi x1.2 55 22 + 1)) 55 21 (gi S 16 11) = T3 at *
    have P3 := P1.trans ((px_F.of F3 rfl).mono (W' := px_rw) rfl)
    have A3 := s1.ad (F3.mono rfl) a3 (by omega)
    refine l_bind (px_adv A3) (fun S4 h4 => ?_)
    obtain ⟨⟨p4, q4, s4⟩, f4⟩ := h4
    have f4 : Fr px_cw S S4 := f4.mono rfl
    refine l_iff (by decide) (l_ckI (by omega) ?_)
    refine b_bind (IA S4 T3 p4 cd s4 d3) (fun S5 x5 h5 => ?_)
    obtain ⟨f5, P5, h5⟩ := h5
    have f5 := f4.trans f5
    have P5 := P3.trans P5
    rcases h5 with ⟨v5, p5, ys, s5, d5, G5, q5⟩ | ⟨v5, b5⟩
    rotate_left
    · refine r_iff (fun z => z v5) (l_one ?_)
      exact px_bb (px_44_f (by decide) (by decide)) b5 f5 (fun S6 b6 f6 => p_some ⟨f6, P5, Or.inr ⟨rfl, b6⟩⟩)
    refine r_ift (by omega) (r_lt (r_ckI (by omega) (r_lt ?_)))
    have F7 : Fr [1000055022] x5.2 (wi x5.2 55 22 (gi x5.2 55 22 - 1)) := Fr.refl.wi rfl
    have d7 : gi (wi x5.2 55 22 (gi x5.2 55 22 - 1)) 55 22 = o := by simp only [gi_wi, gl_wl, gl_wi, gi_wl, gi_wcl, gl_wcl, Nat.reduceEqDiff, Int.reduceEq, false_and, true_and, and_true, and_false, if_false, if_true]; omega
    generalize wi x5.2 55 22 (gi x5.2 55 22 - 1) = T7 at *
    have P7 := P5.trans ((px_F.of F7 rfl).mono (W' := px_rw) rfl)
    have len : ((cd ++ ys).length : Int) = cd.length + ys.length := by rw [List.length_append]; omega
    refine b_bind (px_putS (s5.dp F7) (by omega) (k := 14) (a := 0) (k' := 14) (a' := 0) ⟨by dsimp only; decide, by dsimp only; decide⟩ (by decide) (by decide) (by decide)) (fun S8 T8 h8 => ?_)
    obtain ⟨s8, f8, P8⟩ := h8
    refine b_some ⟨f5.trans (f8.mono rfl), P7.trans (P8.mono rfl), Or.inl ⟨rfl, p5, ys ++ [(14, 0)], ?_, (P8.1.i rfl).trans d7, (G5.not).mono IC, ?_⟩⟩
    · rw [List.append_assoc] at s8
      exact s8
    · rw [List.length_append, List.length_singleton]; omega
  refine r_ift w1 ?_
  have n1 := mt k12.mpr w1
  refine l_iff (by omega) (l_lt ?_)
  have e20 : gi x1.2 55 20 = n := s1.1.1.2.2
  have e84 : gi x1.2 84 = r := s1.1.1.2.1
  refine r_lt (r_lt ?_)
  rw [a1, e20, e84]
  have sg := s.2.1.sign (b := 123) (by unfold px_sg; decide)
  by_cases t2 : gi S 16 13 = 123
  · have k2 := sg.1.mp t2
    have k3 := sg.2 t2
    have hb := hB.2 p (by omega) (by omega)
    refine l_iff (fun z => z t2) ?_
    refine r_iff (by omega) (r_lt (r_chk (by omega) (r_lt (r_iff (fun z => by omega) ?_))))
    unfold g50_j19
    refine l_lt (l_ift (by omega) ?_)
    unfold g50_j34
    by_cases o8 : o < 8
    rotate_left
    · rw [px_145_8 (by omega), ob_s]
      dsimp only
      exact l_iff o8 (r_iff (fun z => z rfl) (px_bad s1 Fr.refl P1 a1))
    obtain ⟨-, IA, IB, IC⟩ := IH o8
    rw [px_145_n (by omega), ob_s]
    dsimp only
    refine l_ift o8 (r_ift (by decide) (r_lt ?_))
    have e21 : gi (wi x1.2 55 22 (gi x1.2 55 22 + 1)) 55 21 = p := by simp only [gi_wi, gl_wl, gl_wi, gi_wl, gi_wcl, gl_wcl, Nat.reduceEqDiff, Int.reduceEq, false_and, true_and, and_true, and_false, if_false, if_true]; exact a1
    rw [e21]
    refine r_ckI (by omega) (r_lt ?_)
    have F3 : Fr [1000055021, 1000055022] x1.2 (wi (wi x1.2 55 22 (gi x1.2 55 22 + 1)) 55 21 (p + 1)) := (Fr.refl.wi rfl).wi rfl
    have a3 : gi (wi (wi x1.2 55 22 (gi x1.2 55 22 + 1)) 55 21 (p + 1)) 55 21 = gi S 16 11 := by simp only [gi_wi, gl_wl, gl_wi, gi_wl, gi_wcl, gl_wcl, Nat.reduceEqDiff, Int.reduceEq, false_and, true_and, and_true, and_false, if_false, if_true]; omega
    have d3 : gi (wi (wi x1.2 55 22 (gi x1.2 55 22 + 1)) 55 21 (p + 1)) 55 22 = o + 1 := by simp only [gi_wi, gl_wl, gl_wi, gi_wl, gi_wcl, gl_wcl, Nat.reduceEqDiff, Int.reduceEq, false_and, true_and, and_true, and_false, if_false, if_true]; omega
    generalize wi (wi x1.2 55 22 (gi x1.2 55 22 + 1)) 55 21 (p + 1) = T3 at *
    have P3 := P1.trans ((px_F.of F3 rfl).mono (W' := px_rw) rfl)
    have A3 := s1.ad (F3.mono rfl) a3 (by omega)
    refine l_bind (px_adv A3) (fun S4 h4 => ?_)
    obtain ⟨⟨p4, q4, s4⟩, f4⟩ := h4
    have f4 : Fr px_cw S S4 := f4.mono rfl
    refine l_ift rfl (l_ckI (by omega) ?_)
    refine b_bind (IA S4 T3 p4 cd s4 d3) (fun S5 x5 h5 => ?_)
    obtain ⟨f5, P5, h5⟩ := h5
    have f5 := f4.trans f5
    have P5 := P3.trans P5
    rcases h5 with ⟨v5, p5, ys, s5, d5, G5, q5⟩ | ⟨v5, b5⟩
    rotate_left
    · refine r_ift v5 (l_one ?_)
      exact px_bb (px_37_f (by unfold px_sg; decide)) b5 f5 (fun S6 b6 f6 => p_some ⟨f6, P5, Or.inr ⟨rfl, b6⟩⟩)
    refine r_iff (by omega) ?_
    refine b_bind (px_exp hB s5 (b := 125) (by unfold px_sg; decide)) (fun S6 x6 h6 => ?_)
    obtain ⟨f6, g6, h6⟩ := h6
    have f6 := f5.trans f6
    have P6 := P5.trans ((px_F.of g6 rfl).mono (W' := px_rw) rfl)
    rcases h6 with ⟨v6, p6, s6, q6⟩ | ⟨v6, b6⟩
    rotate_left
    · refine r_iff (fun z => z v6) ?_
      exact b_some ⟨f6, P6, Or.inr ⟨rfl, b6⟩⟩
    have d6 : gi x6.2 55 22 = o + 1 := (g6.i rfl).trans d5
    refine r_ift (by omega) (r_lt (r_ckI (by omega) (r_lt ?_)))
    have F7 : Fr [1000055022] x6.2 (wi x6.2 55 22 (gi x6.2 55 22 - 1)) := Fr.refl.wi rfl
    have d7 : gi (wi x6.2 55 22 (gi x6.2 55 22 - 1)) 55 22 = o := by simp only [gi_wi, gl_wl, gl_wi, gi_wl, gi_wcl, gl_wcl, Nat.reduceEqDiff, Int.reduceEq, false_and, true_and, and_true, and_false, if_false, if_true]; omega
    generalize wi x6.2 55 22 (gi x6.2 55 22 - 1) = T7 at *
    have P7 := P6.trans ((px_F.of F7 rfl).mono (W' := px_rw) rfl)
    exact b_some ⟨f6, P7, Or.inl ⟨rfl, p6, ys, s6.dp F7, d7, G5.mono IC, by omega⟩⟩
  -- EX sign EX
  refine l_ift t2 ?_
  have R := px_rel (G48 := G48) (G49 := G49) (G50 := G50) (G149 := G149) (G150 := G150) (G151 := G151) hB ho s1 d1 (Fr.refl (S := S)) P1
  have R := R.imp (fun S' x hx => show px_PO c r n S T p cd o true d S' x from ⟨hx.1, hx.2.1, hx.2.2.imp (fun ⟨a, p', xs, e1, e2, e3, e4⟩ => ⟨a, p', xs, e1, e2, e3.mono hd, e4⟩) id⟩)
  by_cases z : n ≤ p
  · exact r_ift z R
  · refine r_iff z (r_lt (r_chk (by omega) (r_lt (r_ift ?_ R))))
    have hb := hB.2 p (by omega) (by omega)
    have := mt sg.1.mpr t2
    omega
theorem px_gd_f (m : Nat) (o : Int) : px_FL ((gc48 (m + 1)).2.2 o) ∧ px_FL ((gc48 (m + 2)).2.1 o) ∧ px_FL ((gc48 (m + 3)).1 o) := ⟨px_50_f, px_49_f px_50_f, px_48_f (px_49_f px_50_f)⟩
theorem px_gd_w (hB : px_B c r n) : ∀ j : Nat, j ≤ 8 → ∀ m : Nat, px_LK c r n (8 - (j : Int)) true (28 + 2 * j) ((gc48 (m + 3 * j + 1)).2.2 (8 - (j : Int))) (gc149 (m + 3 * j + 1)).1 ∧ px_LK c r n (8 - (j : Int)) true (30 + 2 * j) ((gc48 (m + 3 * j + 3)).1 (8 - (j : Int))) (gc149 (m + 3 * j + 3)).2.2 := by
  intro j
  induction j with
  | zero =>
    intro _
    have A : ∀ m : Nat, px_LK c r n (8 - ((0 : Nat) : Int)) true 28 ((gc48 (m + 1)).2.2 (8 - ((0 : Nat) : Int))) (gc149 (m + 1)).1 := fun m => px_50_w (dx := 0) (D := 0) hB (by omega) (by omega) (fun z => by omega)
    intro m
    refine ⟨A m, ?_⟩
    have B : px_LK c r n (8 - ((0 : Nat) : Int)) true 29 ((gc48 (m + 2)).2.1 (8 - ((0 : Nat) : Int))) (gc149 (m + 2)).2.1 := px_49_w hB (by omega) (A m)
    exact px_48_w hB (by omega) B
  | succ j ih =>
    intro hj
    have I := ih (by omega)
    have e1 : (8 : Int) - ((j + 1 : Nat) : Int) + 1 = 8 - (j : Int) := by omega
    have A : ∀ m : Nat, px_LK c r n (8 - ((j + 1 : Nat) : Int)) true (28 + 2 * (j + 1)) ((gc48 (m + 3 * j + 3 + 1)).2.2 (8 - ((j + 1 : Nat) : Int))) (gc149 (m + 3 * j + 3 + 1)).1 := by
      intro m
      refine px_50_w (dx := 28 + 2 * j) (D := 30 + 2 * j) hB (by omega) (by omega) (fun z => ?_)
      rw [e1]
      have I1 := (I (m + 2)).1
      rw [show m + 2 + 3 * j + 1 = m + 3 * j + 3 by omega] at I1
      exact ⟨⟨I1, (px_gd_f (m + 3 * j + 2) _).1, by omega⟩, (I m).2, (px_gd_f (m + 3 * j) _).2.2, by omega⟩
    intro m
    rw [show m + 3 * (j + 1) + 1 = m + 3 * j + 3 + 1 by omega, show m + 3 * (j + 1) + 3 = m + 3 * j + 3 + 3 by omega]
    refine ⟨A m, ?_⟩
    have B : px_LK c r n (8 - ((j + 1 : Nat) : Int)) true (29 + 2 * (j + 1)) ((gc48 (m + 3 * j + 3 + 2)).2.1 (8 - ((j + 1 : Nat) : Int))) (gc149 (m + 3 * j + 3 + 2)).2.1 := px_49_w hB (by omega) (A m)
    exact px_48_w hB (by omega) B
theorem px_cond_w (hB : px_B c r n) : px_LK c r n 0 true 46 (g48 0) g151 := (px_gd_w hB 8 (by decide) 33).2
theorem px_48_fl (o : Int) : px_FL (g48 o) := (px_gd_f 57 o).2.2
end CN
