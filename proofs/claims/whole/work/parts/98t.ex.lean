/-! the parser: PROD, EX side by side (wip/gen_px.py) -/
section EX
variable {S S' S0 T T' T0 : gM} {c r : Int → Int} {n p q f o : Int} {cd : List (Int × Int)} {d D dx : Nat} {G45 G46 G47 : Int → gM → Option gM} {G146 G147 G148 : gM → Option (Int × gM)}
theorem px_46_lb {o : Int} {k : Int} (m : Nat) (h : px_BD S f) : Wp (fun S' => px_BD S' f ∧ Fr px_cw S S') (g46_l7 G45 G46 G47 o (m + 1) k S) := by
  have t := h.1
  rw [g46_l7]
  simp only [lt_t]
  rw [t]
  refine p_if (fun _ => p_some ⟨h, Fr.refl⟩) (fun _ => ?_)
  rw [if_neg (by decide), if_pos (by decide)]
  exact p_some ⟨h, Fr.refl⟩
theorem px_46_l (hB : px_B c r n) (hD : d + 1 ≤ D) (hG : px_LK c r n o false d (G47 o) G146) {p0 : Int} (hp0 : 0 ≤ p0) :
    ∀ (u m m2 : Nat) (k p : Int) (S T : gM) (xs : List (Int × Int)), (n - p).toNat < u → u < m → u < m2 → 0 ≤ k → k + p0 ≤ p → Fr px_cw S0 S → px_F px_rw T0 T → px_ST c r n S T p (cd ++ xs) → gi T 55 22 = o → px_PG xs false D → p0 + xs.length ≤ p → W2 (px_PO c r n S0 T0 p0 cd o false D) (g46_l7 G45 G46 G47 o m k S) (g147_l9 G146 G147 G148 m2 T) := by
  intro u
  induction u with
  | zero => intro m m2 k p S T xs h; omega
  | succ u ih =>
    intro m m2 k p S T xs hu hm hm2 hk hkp F P s hdp hPG hl
    cases m with
    | zero => omega
    | succ m =>
    cases m2 with
    | zero => omega
    | succ m2 =>
    have hn := hB.1
    have hp := s.2.1.2.1
    have sl := s.2.2.2
    dsimp only [g46_l7, g147_l9]
    -- one more
    have step : ∀ kd : Int, (3 ≤ kd ∧ kd ≤ 6) → ∀ T1 : gM, px_F px_rw T0 T1 → gi T1 55 22 = o → px_AD c r n S T1 (gi S 16 11) (cd ++ xs) → p + 1 ≤ gi S 16 11 → k < 700 → W2 (px_PO c r n S0 T0 p0 cd o false D) (g46_j47 G45 G46 G47 (g46_l7 G45 G46 G47 o m) o k kd S) (g147_j37 G146 G147 G148 (g147_l9 G146 G147 G148 m2) kd T1) := by
      intro kd hkd T1 P1 d1 A1 hq hk7
      unfold g46_j47 g147_j37
      refine r_ift (by omega) ?_
      refine l_bind (px_adv A1) (fun S2 h2 => ?_)
      obtain ⟨⟨p2, q2, s2⟩, f2⟩ := h2
      have f2 : Fr px_cw S0 S2 := F.trans (f2.mono rfl)
      refine b_bind (hG S2 T1 p2 (cd ++ xs) s2 d1) (fun S3 x3 h3 => ?_)
      obtain ⟨f3, P3, h3⟩ := h3
      have f3 := f2.trans f3
      have P3 := P1.trans P3
      rcases h3 with ⟨v3, p3, ys, s3, d3, G3, q3⟩ | ⟨v3, b3⟩
      rotate_left
      · refine r_iff (fun z => z v3) (l_one ?_)
        refine px_bb (px_44_f (by omega) (by decide)) b3 f3 (fun S4 b4 f4 => ?_)
        refine p_ckI (by omega) ?_
        cases m with
        | zero => omega
        | succ m => exact p_imp (px_46_lb m b4) (fun S5 h5 => ⟨f4.trans h5.2, P3, Or.inr ⟨rfl, h5.1⟩⟩)
      refine r_ift (by omega) ?_
      have len : ((cd ++ xs ++ ys).length : Int) = (cd ++ xs).length + ys.length := by rw [List.length_append]; omega
      refine b_bind (px_putS s3 (by omega) (k := kd) (a := 0) (k' := kd) (a' := 0) ⟨by dsimp only; omega, by dsimp only; decide⟩ (by omega) (by decide) (by unfold cst kmp; rw [if_neg (by omega), if_neg (by omega), if_neg (by omega)]; omega)) (fun S4 T4 h4 => ?_)
      obtain ⟨s4, f4, P4⟩ := h4
      refine l_ckI (by omega) ?_
      have p3n := s3.2.1.2.1
      refine ih m m2 (k + 1) p3 S4 T4 (xs ++ ys ++ [(kd, 0)]) (by omega) (by omega) (by omega) (by omega) (by omega) (f3.trans (f4.mono rfl)) (P3.trans (P4.mono rfl)) ?_ ((P4.1.i rfl).trans d3) ?_ ?_
      · rw [List.append_assoc, List.append_assoc] at s4
        rw [List.append_assoc]
        exact s4
      · exact (hPG.bin G3 (k := kd) (e := D) (Nat.le_refl _) hD (by omega) (fun z => by omega)).any
      · rw [List.length_append, List.length_append, List.length_singleton]; omega
    obtain ⟨x, ex, hx⟩ := px_sgn hB s (b := 42) (by unfold px_sg; decide)
    rw [ex, ob_s]
    have F1 := hx.1
    have P1 := P.trans ((px_F.of F1 rfl).mono (W' := px_rw) rfl)
    have d1 : gi x.2 55 22 = o := (F1.i rfl).trans hdp
    have sg1 := s.2.1.sign (b := 42) (by unfold px_sg; decide)
    have sg2 := s.2.1.sign (b := 47) (by unfold px_sg; decide)
    by_cases t1 : gi S 16 13 = 42
    · have k1 := hx.2.1 t1
      have z1 := sg1.2 t1
      refine r_iff (by omega) ?_
      refine l_iff (by omega) (l_lt (l_ift t1 ?_))
      unfold g46_j32
      refine l_lt (l_iff (fun z => z t1) ?_)
      exact step 5 (by decide) x.2 P1 d1 k1.2.1 k1.2.2 (by omega)
    have k1 := hx.2.2 t1
    refine r_ift k1.1 ?_
    obtain ⟨y, ey, hy⟩ := px_sgn hB k1.2.1 (b := 47) (by unfold px_sg; decide)
    rw [ey, ob_s]
    have F2 := hy.1
    have P2 := P1.trans ((px_F.of F2 rfl).mono (W' := px_rw) rfl)
    have d2 : gi y.2 55 22 = o := (F2.i rfl).trans d1
    by_cases t2 : gi S 16 13 = 47
    · have k2 := hy.2.1 t2
      have z2 := sg2.2 t2
      refine r_iff (by omega) ?_
      refine l_iff (by omega) (l_lt (l_iff t1 (l_lt (l_iff (fun z => z t2) ?_))))
      unfold g46_j32
      refine l_lt (l_ift t1 ?_)
      exact step 6 (by decide) y.2 P2 d2 k2.2.1 k2.2.2 (by omega)
    have k2 := hy.2.2 t2
    refine r_ift k2.1 ?_
    unfold g147_j37
    refine r_iff (fun z => z rfl) ?_
    have fin : W2 (px_PO c r n S0 T0 p0 cd o false D) (some S) (some ((1 : Int), y.2)) := b_some ⟨F, P2, Or.inl ⟨rfl, p, xs, k2.2.1, d2, hPG, hl⟩⟩
    refine l_if (fun _ => fin) (fun _ => l_lt (l_iff t1 (l_lt (l_ift t2 fin))))
theorem px_46_w (hB : px_B c r n) (hD : d + 1 ≤ D) (hG : px_LK c r n o false d (G47 o) G146) : px_LK c r n o false D (g46g G45 G46 G47 o) (g147g G146 G147 G148) := by
  intro S T p cd s hdp
  have hn := hB.1
  have hp := s.2.1.2.1
  unfold g46g g147g
  refine b_bind (hG S T p cd s hdp) (fun S1 x1 h1 => ?_)
  obtain ⟨f1, P1, h1⟩ := h1
  rcases h1 with ⟨v1, p1, xs, s1, d1, G1, q1⟩ | ⟨v1, b1⟩
  · refine r_ift (by omega) ?_
    have p1n := s1.2.1.2.1
    exact px_46_l hB hD hG hp.1 ((n - p1).toNat + 1) 100000 100000 0 p1 S1 x1.2 xs (by omega) (by omega) (by omega) (by omega) (by omega) f1 P1 s1 d1 (G1.mono (by omega)) q1
  · refine r_iff (fun z => z v1) (l_one ?_)
    exact p_imp (px_46_lb 99999 b1) (fun S5 h5 => ⟨f1.trans h5.2, P1, Or.inr ⟨rfl, h5.1⟩⟩)
theorem px_45_lb {o : Int} {k : Int} (m : Nat) (h : px_BD S f) : Wp (fun S' => px_BD S' f ∧ Fr px_cw S S') (g45_l7 G45 G46 G47 o (m + 1) k S) := by
  have t := h.1
  rw [g45_l7]
  simp only [lt_t]
  rw [t]
  refine p_if (fun _ => p_some ⟨h, Fr.refl⟩) (fun _ => ?_)
  rw [if_neg (by decide), if_pos (by decide)]
  exact p_some ⟨h, Fr.refl⟩
theorem px_45_l (hB : px_B c r n) (hD : d + 1 ≤ D) (hG : px_LK c r n o false d (G46 o) G147) {p0 : Int} (hp0 : 0 ≤ p0) :
    ∀ (u m m2 : Nat) (k p : Int) (S T : gM) (xs : List (Int × Int)), (n - p).toNat < u → u < m → u < m2 → 0 ≤ k → k + p0 ≤ p → Fr px_cw S0 S → px_F px_rw T0 T → px_ST c r n S T p (cd ++ xs) → gi T 55 22 = o → px_PG xs false D → p0 + xs.length ≤ p → W2 (px_PO c r n S0 T0 p0 cd o false D) (g45_l7 G45 G46 G47 o m k S) (g148_l9 G146 G147 G148 m2 T) := by
  intro u
  induction u with
  | zero => intro m m2 k p S T xs h; omega
  | succ u ih =>
    intro m m2 k p S T xs hu hm hm2 hk hkp F P s hdp hPG hl
    cases m with
    | zero => omega
    | succ m =>
    cases m2 with
    | zero => omega
    | succ m2 =>
    have hn := hB.1
    have hp := s.2.1.2.1
    have sl := s.2.2.2
    dsimp only [g45_l7, g148_l9]
    -- one more
    have step : ∀ kd : Int, (3 ≤ kd ∧ kd ≤ 6) → ∀ T1 : gM, px_F px_rw T0 T1 → gi T1 55 22 = o → px_AD c r n S T1 (gi S 16 11) (cd ++ xs) → p + 1 ≤ gi S 16 11 → k < 700 → W2 (px_PO c r n S0 T0 p0 cd o false D) (g45_j46 G45 G46 G47 (g45_l7 G45 G46 G47 o m) o k kd S) (g148_j36 G146 G147 G148 (g148_l9 G146 G147 G148 m2) kd T1) := by
      intro kd hkd T1 P1 d1 A1 hq hk7
      unfold g45_j46 g148_j36
      refine r_ift (by omega) ?_
      refine l_bind (px_adv A1) (fun S2 h2 => ?_)
      obtain ⟨⟨p2, q2, s2⟩, f2⟩ := h2
      have f2 : Fr px_cw S0 S2 := F.trans (f2.mono rfl)
      refine b_bind (hG S2 T1 p2 (cd ++ xs) s2 d1) (fun S3 x3 h3 => ?_)
      obtain ⟨f3, P3, h3⟩ := h3
      have f3 := f2.trans f3
      have P3 := P1.trans P3
      rcases h3 with ⟨v3, p3, ys, s3, d3, G3, q3⟩ | ⟨v3, b3⟩
      rotate_left
      · refine r_iff (fun z => z v3) (l_one ?_)
        refine px_bb (px_44_f (by omega) (by decide)) b3 f3 (fun S4 b4 f4 => ?_)
        refine p_ckI (by omega) ?_
        cases m with
        | zero => omega
        | succ m => exact p_imp (px_45_lb m b4) (fun S5 h5 => ⟨f4.trans h5.2, P3, Or.inr ⟨rfl, h5.1⟩⟩)
      refine r_ift (by omega) ?_
      have len : ((cd ++ xs ++ ys).length : Int) = (cd ++ xs).length + ys.length := by rw [List.length_append]; omega
      refine b_bind (px_putS s3 (by omega) (k := kd) (a := 0) (k' := kd) (a' := 0) ⟨by dsimp only; omega, by dsimp only; decide⟩ (by omega) (by decide) (by unfold cst kmp; rw [if_neg (by omega), if_neg (by omega), if_neg (by omega)]; omega)) (fun S4 T4 h4 => ?_)
      obtain ⟨s4, f4, P4⟩ := h4
      refine l_ckI (by omega) ?_
      have p3n := s3.2.1.2.1
      refine ih m m2 (k + 1) p3 S4 T4 (xs ++ ys ++ [(kd, 0)]) (by omega) (by omega) (by omega) (by omega) (by omega) (f3.trans (f4.mono rfl)) (P3.trans (P4.mono rfl)) ?_ ((P4.1.i rfl).trans d3) ?_ ?_
      · rw [List.append_assoc, List.append_assoc] at s4
        rw [List.append_assoc]
        exact s4
      · exact (hPG.bin G3 (k := kd) (e := D) (Nat.le_refl _) hD (by omega) (fun z => by omega)).any
      · rw [List.length_append, List.length_append, List.length_singleton]; omega
    obtain ⟨x, ex, hx⟩ := px_sgn hB s (b := 43) (by unfold px_sg; decide)
    rw [ex, ob_s]
    have F1 := hx.1
    have P1 := P.trans ((px_F.of F1 rfl).mono (W' := px_rw) rfl)
    have d1 : gi x.2 55 22 = o := (F1.i rfl).trans hdp
    have sg1 := s.2.1.sign (b := 43) (by unfold px_sg; decide)
    have sg2 := s.2.1.sign (b := 45) (by unfold px_sg; decide)
    by_cases t1 : gi S 16 13 = 43
    · have k1 := hx.2.1 t1
      have z1 := sg1.2 t1
      refine r_iff (by omega) ?_
      refine l_iff (by omega) (l_lt (l_ift t1 ?_))
      unfold g45_j32
      refine l_lt (l_iff (fun z => z t1) ?_)
      exact step 3 (by decide) x.2 P1 d1 k1.2.1 k1.2.2 (by omega)
    have k1 := hx.2.2 t1
    refine r_ift k1.1 ?_
    obtain ⟨y, ey, hy⟩ := px_sgn hB k1.2.1 (b := 45) (by unfold px_sg; decide)
    rw [ey, ob_s]
    have F2 := hy.1
    have P2 := P1.trans ((px_F.of F2 rfl).mono (W' := px_rw) rfl)
    have d2 : gi y.2 55 22 = o := (F2.i rfl).trans d1
    by_cases t2 : gi S 16 13 = 45
    · have k2 := hy.2.1 t2
      have z2 := sg2.2 t2
      refine r_iff (by omega) ?_
      refine l_iff (by omega) (l_lt (l_iff t1 (l_lt (l_iff (fun z => z t2) ?_))))
      unfold g45_j32
      refine l_lt (l_ift t1 ?_)
      exact step 4 (by decide) y.2 P2 d2 k2.2.1 k2.2.2 (by omega)
    have k2 := hy.2.2 t2
    refine r_ift k2.1 ?_
    unfold g148_j36
    refine r_iff (fun z => z rfl) ?_
    have fin : W2 (px_PO c r n S0 T0 p0 cd o false D) (some S) (some ((1 : Int), y.2)) := b_some ⟨F, P2, Or.inl ⟨rfl, p, xs, k2.2.1, d2, hPG, hl⟩⟩
    refine l_if (fun _ => fin) (fun _ => l_lt (l_iff t1 (l_lt (l_ift t2 fin))))
theorem px_45_w (hB : px_B c r n) (hD : d + 1 ≤ D) (hG : px_LK c r n o false d (G46 o) G147) : px_LK c r n o false D (g45g G45 G46 G47 o) (g148g G146 G147 G148) := by
  intro S T p cd s hdp
  have hn := hB.1
  have hp := s.2.1.2.1
  unfold g45g g148g
  refine b_bind (hG S T p cd s hdp) (fun S1 x1 h1 => ?_)
  obtain ⟨f1, P1, h1⟩ := h1
  rcases h1 with ⟨v1, p1, xs, s1, d1, G1, q1⟩ | ⟨v1, b1⟩
  · refine r_ift (by omega) ?_
    have p1n := s1.2.1.2.1
    exact px_45_l hB hD hG hp.1 ((n - p1).toNat + 1) 100000 100000 0 p1 S1 x1.2 xs (by omega) (by omega) (by omega) (by omega) (by omega) f1 P1 s1 d1 (G1.mono (by omega)) q1
  · refine r_iff (fun z => z v1) (l_one ?_)
    exact p_imp (px_45_lb 99999 b1) (fun S5 h5 => ⟨f1.trans h5.2, P1, Or.inr ⟨rfl, h5.1⟩⟩)
theorem px_LK.mono {g : Bool} {fc : gM → Option gM} {fr : gM → Option (Int × gM)} (h : px_LK c r n o g d fc fr) (hd : d ≤ D) : px_LK c r n o g D fc fr := fun S T p cd s hdp => (h S T p cd s hdp).imp (fun S' x hx => ⟨hx.1, hx.2.1, hx.2.2.imp (fun ⟨a, p', xs, e1, e2, e3, e4⟩ => ⟨a, p', xs, e1, e2, e3.mono hd, e4⟩) id⟩)
theorem px_gc_w (hB : px_B c r n) : ∀ j : Nat, j ≤ 8 → ∀ m : Nat, px_LK c r n (8 - (j : Int)) false (3 * j + 3) ((gc45 (m + 3 * j + 3)).1 (8 - (j : Int))) (gc146 (m + 3 * j + 3)).2.2 := by
  intro j
  induction j with
  | zero =>
    intro _ m
    have A : px_LK c r n (8 - ((0 : Nat) : Int)) false 1 ((gc45 (m + 1)).2.2 (8 - ((0 : Nat) : Int))) (gc146 (m + 1)).1 := px_47_w (dx := 0) hB (by omega) (by omega) (fun z => by omega)
    have B : px_LK c r n (8 - ((0 : Nat) : Int)) false 2 ((gc45 (m + 2)).2.1 (8 - ((0 : Nat) : Int))) (gc146 (m + 2)).2.1 := px_46_w hB (by omega) A
    exact px_45_w hB (by omega) B
  | succ j ih =>
    intro hj m
    have I := ih (by omega) m
    have e1 : (8 : Int) - ((j + 1 : Nat) : Int) + 1 = 8 - (j : Int) := by omega
    have e2 : m + 3 * (j + 1) + 3 = m + 3 * j + 3 + 3 := by omega
    rw [e2]
    have A : px_LK c r n (8 - ((j + 1 : Nat) : Int)) false (3 * j + 4) ((gc45 (m + 3 * j + 3 + 1)).2.2 (8 - ((j + 1 : Nat) : Int))) (gc146 (m + 3 * j + 3 + 1)).1 := by
      refine px_47_w (dx := 3 * j + 3) hB (by omega) (by omega) (fun z => ?_)
      rw [e1]
      exact ⟨I, (px_gc_f (m + 3 * j) _).1, by omega⟩
    have B : px_LK c r n (8 - ((j + 1 : Nat) : Int)) false (3 * j + 5) ((gc45 (m + 3 * j + 3 + 2)).2.1 (8 - ((j + 1 : Nat) : Int))) (gc146 (m + 3 * j + 3 + 2)).2.1 := px_46_w hB (by omega) A
    exact px_45_w hB (by omega) B
theorem px_ex_w (hB : px_B c r n) (ho : 0 ≤ o ∧ o ≤ 8) : px_LK c r n o false 27 (g45 o) g148 := by
  have k := px_gc_w hB (8 - o).toNat (by omega) (57 - 3 * (8 - o).toNat)
  rw [show 57 - 3 * (8 - o).toNat + 3 * (8 - o).toNat + 3 = 60 by omega, show (8 : Int) - (((8 - o).toNat : Nat) : Int) = o by omega] at k
  exact k.mono (by omega)
end EX
