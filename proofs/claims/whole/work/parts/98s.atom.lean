/-! the parser: ATOM side by side -/
section AT
variable {S S' S0 T T' T0 : gM} {c r : Int → Int} {n p q f o : Int} {cd xs : List (Int × Int)} {d dx : Nat} {G45 G46 G47 : Int → gM → Option gM} {G146 G147 G148 : gM → Option (Int × gM)}
/-- the class, a fault behind it, goes on by a method -/
theorem px_bb {β : Type} {Q : β → Prop} {u : gM → Option gM} {K : gM → Option β} (hu : px_FL u) (h : px_BD S f) (F : Fr px_cw S0 S) (k : ∀ S', px_BD S' f → Fr px_cw S0 S' → Wp Q (K S')) : Wp Q ((u S).bind K) :=
  p_bind (p_imp (hu S f h) (fun S' h' => k S' h'.1 (F.trans h'.2)))
theorem px_33_f : px_FL g33 := fun _ _ h => px_33_b h
theorem px_32_f : px_FL g32 := fun _ _ h => px_32_b h
theorem px_37_f {b : Int} (hb : px_sg b) : px_FL (g37 b) := fun _ _ h => px_37_b h hb
theorem px_44_f {k a : Int} (hk : 0 ≤ k ∧ k ≤ 14) (ha : 0 ≤ a ∧ a ≤ 9999999) : px_FL (g44 k a) := fun _ _ h => px_44_b h hk ha
theorem px_47_f : px_FL (g47g G45 G46 G47 o) := fun S f h => by
  have t := h.1
  have e42 : g42 S = some (-1, S) := by unfold g42; rw [lt_t, if_neg (by omega)]
  unfold g47g g47_j71 g47_j124
  rw [e42, ob_s]
  simp only [lt_t]
  rw [t, if_pos (by decide), if_neg (by decide), if_pos (by decide), if_pos trivial, if_pos (by decide), if_neg (by decide), if_pos (by decide)]
  exact px_bb px_32_f h Fr.refl (fun S' h' F => p_some ⟨h', F⟩)
theorem px_46_f (hG : px_FL (G47 o)) : px_FL (g46g G45 G46 G47 o) := fun S f h => by
  unfold g46g
  refine px_bb hG h Fr.refl (fun S' h' F => ?_)
  have t := h'.1
  show Wp _ (g46_l7 G45 G46 G47 o (99999 + 1) 0 S')
  rw [g46_l7]
  simp only [lt_t]
  rw [t, if_neg (by decide), if_neg (by decide), if_pos (by decide)]
  exact p_some ⟨h', F⟩
theorem px_45_f (hG : px_FL (G46 o)) : px_FL (g45g G45 G46 G47 o) := fun S f h => by
  unfold g45g
  refine px_bb hG h Fr.refl (fun S' h' F => ?_)
  have t := h'.1
  show Wp _ (g45_l7 G45 G46 G47 o (99999 + 1) 0 S')
  rw [g45_l7]
  simp only [lt_t]
  rw [t, if_neg (by decide), if_neg (by decide), if_pos (by decide)]
  exact p_some ⟨h', F⟩
theorem px_gc_f (m : Nat) (o : Int) : px_FL ((gc45 (m + 3)).1 o) ∧ px_FL ((gc45 (m + 2)).2.1 o) ∧ px_FL ((gc45 (m + 1)).2.2 o) := ⟨px_45_f (px_46_f px_47_f), px_46_f px_47_f, px_47_f⟩
theorem px_45_fl (o : Int) : px_FL (g45 o) := (px_gc_f 57 o).1
theorem px_145_8 (h : gi T 55 22 = 8) : g145 T = some (0, T) := by
  unfold g145
  rw [lt_t, if_neg (fun z => z h)]
theorem px_145_n (h : 0 ≤ gi T 55 22 ∧ gi T 55 22 < 8) : g145 T = some (1, wi T 55 22 (gi T 55 22 + 1)) := by
  unfold g145
  rw [lt_t, if_pos (by omega), lt_t, ckI_t (by omega), lt_t]
/-- the reference's other cells may change -/
theorem px_ST.dp (h : px_ST c r n S T p cd) (hF : Fr [1000055022] T T') : px_ST c r n S T' p cd := by
  obtain ⟨h1, h2, h3, h4⟩ := h
  refine ⟨h1.fr (Fr.refl (W := [])) hF rfl rfl, h2, ?_, h4⟩
  rw [show gi T' 55 21 = gi T 55 21 from hF.i rfl]
  exact h3
theorem px_blk (hB : px_B c r n) (h : px_ST c r n S T p cd) : Wp (fun T' => gi T' 55 21 = p ∧ px_ST c r n S T' p cd ∧ Fr [1000055021] T T') (g136 T) :=
  p_imp (px_136_w h.1.1.2 hB h.2.2.1.1 h.2.2.1.2) (fun T' k => ⟨k.1, h.to (k.2.mono rfl) k.1, k.2⟩)
/-- a good end: the class reads the next token, the reference is through -/
theorem px_end {g : Bool} (h : px_AD c r n S T q (cd ++ xs)) (F1 : Fr px_cw S0 S) (F2 : px_F px_rw T0 T) (ho : gi T 55 22 = o) (hP : px_PG xs g d) (hq : p + xs.length ≤ q) : W2 (px_PO c r n S0 T0 p cd o g d) ((g33 S).bind fun z => some z) (some (1, T)) := by
  refine l_bind (px_adv h) (fun S1 h1 => ?_)
  obtain ⟨⟨p1, a1, a2⟩, a3⟩ := h1
  exact b_some ⟨F1.trans (a3.mono rfl), F2, Or.inl ⟨rfl, p1, xs, a2, ho, hP, by omega⟩⟩
/-- a bad end: the class finds the fault where it stands -/
theorem px_bad {g : Bool} (h : px_ST c r n S T p cd) (F1 : Fr px_cw S0 S) (F2 : px_F px_rw T0 T) (ha : gi T 55 21 = p) {p0 : Int} {cd0 : List (Int × Int)} : W2 (px_PO c r n S0 T0 p0 cd0 o g d) ((g32 S).bind fun z => some z) (some (0, T)) := by
  refine l_bind (px_32_w h) (fun S1 h1 => ?_)
  exact b_some ⟨F1.trans h1.2, F2, Or.inr ⟨rfl, by rw [ha]; exact h1.1⟩⟩
theorem px_mm (hB : px_B c r n) (ho : 0 ≤ o ∧ o ≤ 8) (IH : o < 8 → px_LK c r n (o + 1) false dx (G45 (o + 1)) G148 ∧ px_FL (G45 (o + 1)) ∧ dx + 1 ≤ d) (h : px_ST c r n S T p cd) (hdp : gi T 55 22 = o) (hat : gi T 55 21 = p) (h42 : gi T 55 42 = gi S 16 11 ∧ (p + 1 ≤ gi S 16 11 ∧ gi S 16 11 ≤ n)) {w : Int} (hw : (gi S 16 13 = 264 ∧ w = 7170414) ∨ (gi S 16 13 = 265 ∧ w = 7168376)) : W2 (px_PO c r n S T p cd o false d) (g47_j144 G45 G46 G47 o S) (g146_j120 G146 G147 G148 w T) := by
  unfold g47_j144 g146_j120
  by_cases o8 : 8 ≤ o
  · refine l_ift o8 ?_
    rw [px_145_8 (by omega), ob_s]
    dsimp only
    refine r_iff (fun z => z rfl) ?_
    exact px_bad h Fr.refl px_F.refl hat
  refine l_iff o8 ?_
  obtain ⟨IH1, IH2, IH3⟩ := IH (by omega)
  rw [px_145_n (by omega), ob_s]
  dsimp only
  refine r_ift (by decide) (r_lt (r_lt ?_))
  have e42 : gi (wi T 55 22 (gi T 55 22 + 1)) 55 42 = gi S 16 11 := by simp only [gi_wi, gl_wl, gl_wi, gi_wl, gi_wcl, gl_wcl, Nat.reduceEqDiff, Int.reduceEq, false_and, true_and, and_true, and_false, if_false, if_true]; exact h42.1
  rw [e42]
  have F1 : Fr [1000055021, 1000055022] T (wi (wi T 55 22 (gi T 55 22 + 1)) 55 21 (gi S 16 11)) := (Fr.refl.wi rfl).wi rfl
  have a1 : gi (wi (wi T 55 22 (gi T 55 22 + 1)) 55 21 (gi S 16 11)) 55 21 = gi S 16 11 := by simp only [gi_wi, gl_wl, gl_wi, gi_wl, gi_wcl, gl_wcl, Nat.reduceEqDiff, Int.reduceEq, false_and, true_and, and_true, and_false, if_false, if_true]
  have d1 : gi (wi (wi T 55 22 (gi T 55 22 + 1)) 55 21 (gi S 16 11)) 55 22 = o + 1 := by simp only [gi_wi, gl_wl, gl_wi, gi_wl, gi_wcl, gl_wcl, Nat.reduceEqDiff, Int.reduceEq, false_and, true_and, and_true, and_false, if_false, if_true]; omega
  generalize wi (wi T 55 22 (gi T 55 22 + 1)) 55 21 (gi S 16 11) = T1 at *
  have P1 : px_F px_rw T T1 := (px_F.of F1 rfl).mono rfl
  have A1 := h.ad (F1.mono rfl) a1 (by omega)
  have main : ∀ kd : Int, ((kd = 7 ∧ w = 7170414) ∨ (kd = 8 ∧ ¬ w = 7170414)) → W2 (px_PO c r n S T p cd o false d) (g47_j167 G45 G46 G47 o kd S) ((g139 40 T1).bind fun p13 => if p13.1 = 0 then some (0, p13.2) else (G148 p13.2).bind fun p15 => if p15.1 = 0 then some (0, p15.2) else (g139 44 p15.2).bind fun p17 => if p17.1 = 0 then some (0, p17.2) else (G148 p17.2).bind fun p19 => if p19.1 = 0 then some (0, p19.2) else (g139 41 p19.2).bind fun p21 => if ¬ p21.1 = 0 then w_lt (gi p21.2 55 22) fun V23 => w_ckI (V23 - 1) fun V24 => w_lt (wi p21.2 55 22 V24) fun S25 => if ¬ w = 7170414 then (g144 8 0 S25).bind fun p27 => some (1, p27) else (g144 7 0 S25).bind fun p28 => some (1, p28) else some (0, p21.2)) := by
    intro kd hkd
    have kdr : 0 ≤ kd ∧ kd ≤ 14 := by omega
    unfold g47_j167
    refine l_bind (px_adv A1) (fun S1 h1 => ?_)
    obtain ⟨⟨p1, q1, s1⟩, f1⟩ := h1
    have f1 : Fr px_cw S S1 := f1.mono rfl
    refine b_bind (px_exp hB s1 (b := 40) (by unfold px_sg; decide)) (fun S2 x2 h2 => ?_)
    obtain ⟨f2, g2, h2⟩ := h2
    have f2 := f1.trans f2
    have P2 := P1.trans ((px_F.of g2 rfl).mono (W' := px_rw) rfl)
    rcases h2 with ⟨v2, p2, s2, q2⟩ | ⟨v2, b2⟩
    rotate_left
    · refine r_ift v2 (l_ckI (by omega) (l_one ?_))
      refine px_bb IH2 b2 f2 (fun S3 b3 f3 => ?_)
      refine px_bb (px_37_f (by unfold px_sg; decide)) b3 f3 (fun S4 b4 f4 => ?_)
      refine p_ckI (by omega) ?_
      refine px_bb IH2 b4 f4 (fun S5 b5 f5 => ?_)
      refine px_bb (px_37_f (by unfold px_sg; decide)) b5 f5 (fun S6 b6 f6 => ?_)
      refine px_bb (px_44_f kdr (by decide)) b6 f6 (fun S7 b7 f7 => ?_)
      exact p_some ⟨f7, P2, Or.inr ⟨rfl, b7⟩⟩
    refine r_iff (by omega) (l_ckI (by omega) ?_)
    have d2 : gi x2.2 55 22 = o + 1 := (g2.i rfl).trans d1
    refine b_bind (IH1 S2 x2.2 p2 cd s2 d2) (fun S3 x3 h3 => ?_)
    obtain ⟨f3, P3, h3⟩ := h3
    have f3 := f2.trans f3
    have P3 := P2.trans P3
    rcases h3 with ⟨v3, p3, xs, s3, d3, G3, q3⟩ | ⟨v3, b3⟩
    rotate_left
    · refine r_ift v3 (l_one ?_)
      refine px_bb (px_37_f (by unfold px_sg; decide)) b3 f3 (fun S4 b4 f4 => ?_)
      refine p_ckI (by omega) ?_
      refine px_bb IH2 b4 f4 (fun S5 b5 f5 => ?_)
      refine px_bb (px_37_f (by unfold px_sg; decide)) b5 f5 (fun S6 b6 f6 => ?_)
      refine px_bb (px_44_f kdr (by decide)) b6 f6 (fun S7 b7 f7 => ?_)
      exact p_some ⟨f7, P3, Or.inr ⟨rfl, b7⟩⟩
    refine r_iff (by omega) ?_
    refine b_bind (px_exp hB s3 (b := 44) (by unfold px_sg; decide)) (fun S4 x4 h4 => ?_)
    obtain ⟨f4, g4, h4⟩ := h4
    have f4 := f3.trans f4
    have P4 := P3.trans ((px_F.of g4 rfl).mono (W' := px_rw) rfl)
    rcases h4 with ⟨v4, p4, s4, q4⟩ | ⟨v4, b4⟩
    rotate_left
    · refine r_ift v4 (l_ckI (by omega) (l_one ?_))
      refine px_bb IH2 b4 f4 (fun S5 b5 f5 => ?_)
      refine px_bb (px_37_f (by unfold px_sg; decide)) b5 f5 (fun S6 b6 f6 => ?_)
      refine px_bb (px_44_f kdr (by decide)) b6 f6 (fun S7 b7 f7 => ?_)
      exact p_some ⟨f7, P4, Or.inr ⟨rfl, b7⟩⟩
    refine r_iff (by omega) (l_ckI (by omega) ?_)
    have d4 : gi x4.2 55 22 = o + 1 := (g4.i rfl).trans d3
    refine b_bind (IH1 S4 x4.2 p4 (cd ++ xs) s4 d4) (fun S5 x5 h5 => ?_)
    obtain ⟨f5, P5, h5⟩ := h5
    have f5 := f4.trans f5
    have P5 := P4.trans P5
    rcases h5 with ⟨v5, p5, ys, s5, d5, G5, q5⟩ | ⟨v5, b5⟩
    rotate_left
    · refine r_ift v5 (l_one ?_)
      refine px_bb (px_37_f (by unfold px_sg; decide)) b5 f5 (fun S6 b6 f6 => ?_)
      refine px_bb (px_44_f kdr (by decide)) b6 f6 (fun S7 b7 f7 => ?_)
      exact p_some ⟨f7, P5, Or.inr ⟨rfl, b7⟩⟩
    refine r_iff (by omega) ?_
    refine b_bind (px_exp hB s5 (b := 41) (by unfold px_sg; decide)) (fun S6 x6 h6 => ?_)
    obtain ⟨f6, g6, h6⟩ := h6
    have f6 := f5.trans f6
    have P6 := P5.trans ((px_F.of g6 rfl).mono (W' := px_rw) rfl)
    rcases h6 with ⟨v6, p6, s6, q6⟩ | ⟨v6, b6⟩
    rotate_left
    · refine r_iff (fun z => z v6) (l_one ?_)
      refine px_bb (px_44_f kdr (by decide)) b6 f6 (fun S7 b7 f7 => ?_)
      exact p_some ⟨f7, P6, Or.inr ⟨rfl, b7⟩⟩
    have d6 : gi x6.2 55 22 = o + 1 := (g6.i rfl).trans d5
    refine r_ift (by omega) (r_lt (r_ckI (by omega) (r_lt ?_)))
    have F7 : Fr [1000055022] x6.2 (wi x6.2 55 22 (gi x6.2 55 22 - 1)) := Fr.refl.wi rfl
    have d7 : gi (wi x6.2 55 22 (gi x6.2 55 22 - 1)) 55 22 = o := by simp only [gi_wi, gl_wl, gl_wi, gi_wl, gi_wcl, gl_wcl, Nat.reduceEqDiff, Int.reduceEq, false_and, true_and, and_true, and_false, if_false, if_true]; omega
    generalize wi x6.2 55 22 (gi x6.2 55 22 - 1) = T7 at *
    have P7 := P6.trans ((px_F.of F7 rfl).mono (W' := px_rw) rfl)
    have s7 := s6.dp F7
    have l0 := h.2.2.2
    have len : ((cd ++ xs ++ ys).length : Int) = cd.length + xs.length + ys.length := by rw [List.length_append, List.length_append]; omega
    have fin : ∀ k' : Int, k' = kd → W2 (px_PO c r n S T p cd o false d) ((g44 kd 0 S6).bind fun z => some z) ((g144 k' 0 T7).bind fun z => some (1, z)) := by
      intro k' hk'
      refine b_bind (px_putS s7 (by omega) (k := kd) (a := 0) (k' := k') (a' := 0) ⟨by dsimp only; omega, by dsimp only; decide⟩ kdr (by decide) (by unfold cst kmp; rcases hkd with z | z <;> rw [hk', z.1] <;> decide)) (fun S8 T8 h8 => ?_)
      obtain ⟨s8, f8, P8⟩ := h8
      refine b_some ⟨f6.trans (f8.mono rfl), P7.trans (P8.mono rfl), Or.inl ⟨rfl, p6, xs ++ ys ++ [(k', 0)], ?_, (P8.1.i rfl).trans d7, ?_, ?_⟩⟩
      · rw [List.append_assoc, List.append_assoc] at s8
        rw [List.append_assoc]
        exact s8
      · have := G3.bin G5 (k := k') (e := d) (by omega) IH3 (by omega) (fun z => by omega)
        exact this.any
      · rw [List.length_append, List.length_append, List.length_singleton]; omega
    rcases hkd with z | z
    · exact r_iff (fun y => y z.2) (fin 7 z.1.symm)
    · exact r_ift z.2 (fin 8 z.1.symm)
  refine l_lt (l_if (fun z => main 8 (Or.inr ⟨rfl, by omega⟩)) (fun z => main 7 (Or.inl ⟨rfl, by omega⟩)))
theorem px_47_w (hB : px_B c r n) (ho : 0 ≤ o ∧ o ≤ 8) (hd : 1 ≤ d) (IH : o < 8 → px_LK c r n (o + 1) false dx (G45 (o + 1)) G148 ∧ px_FL (G45 (o + 1)) ∧ dx + 1 ≤ d) : px_LK c r n o false d (g47g G45 G46 G47 o) (g146g G146 G147 G148) := by
  intro S T p cd h hdp
  have hn := hB.1
  have hp := h.2.1.2.1
  have l0 := h.2.2.2
  unfold g47g g146g
  obtain ⟨x0, -, hx0⟩ := px_wrd hB h
  obtain ⟨v0, e42, -, -, v1⟩ := px_42_eq h.1 hx0.2.1
  rw [e42, ob_s]
  dsimp only
  obtain ⟨x, ex, hx⟩ := px_nmb hB h 9999999
  rw [ex, ob_s]
  have F1 : Fr [1000055021, 1000055043] T x.2 := hx.1
  have P1 : px_F px_rw T x.2 := (px_F.of hx.1 rfl).mono rfl
  have d1 : gi x.2 55 22 = o := (F1.i rfl).trans hdp
  obtain ⟨e, -, nm, -⟩ := h.2.1.num
  by_cases t1 : gi S 16 13 = 281
  · have k := hx.2.1 ⟨t1, (nm t1).2.2.2.2⟩
    refine l_lt (l_iff (fun z => z t1) (l_lt ?_))
    refine r_iff (by omega) (r_lt ?_)
    rw [k.2.1]
    refine b_bind (px_putA k.2.2.2.1 (by omega) (k := 0) (a := gi S 16 14) (k' := 0) (a' := gi S 16 14) ⟨by dsimp only; decide, k.2.2.1⟩ (by decide) k.2.2.1 (by unfold cst kmp; rw [if_neg (by decide), if_neg (by decide), if_neg (by decide)]; omega)) (fun S2 T2 h2 => ?_)
    obtain ⟨s2, f2, P2⟩ := h2
    refine px_end s2 (f2.mono rfl) (P1.trans (P2.mono rfl)) ((P2.1.i rfl).trans d1) ((px_PG.num k.2.2.1).mono hd) ?_
    rw [List.length_singleton]; omega
  have k := hx.2.2 (fun z => t1 z.1)
  refine l_lt (l_ift t1 (l_lt ?_))
  refine r_ift k.1 ?_
  refine r_bind (px_blk hB k.2.1) (fun T2 h2 => ?_)
  obtain ⟨a2, s2, F2⟩ := h2
  have P2 := P1.trans ((px_F.of F2 rfl).mono (W' := px_rw) rfl)
  have d2 : gi T2 55 22 = o := (F2.i rfl).trans d1
  have sg := h.2.1.sign (b := 40) (by unfold px_sg; decide)
  have e20 : gi T2 55 20 = n := s2.1.1.2.2
  have e84 : gi T2 84 = r := s2.1.1.2.1
  refine r_lt (r_lt ?_)
  rw [a2, e20, e84]
  by_cases t2 : gi S 16 13 = 40
  · have k2 := sg.1.mp t2
    have k3 := sg.2 t2
    have hb := hB.2 p (by omega) (by omega)
    have v1 := v1 (by omega)
    refine l_ift (by omega) ?_
    unfold g47_j71
    refine l_ift v1 (l_lt (l_iff (fun z => z t2) ?_))
    refine r_iff (by omega) (r_lt (r_chk (by omega) (r_lt (r_iff (fun z => by omega) ?_))))
    by_cases o8 : 8 ≤ o
    · refine l_ift o8 ?_
      unfold g47_j124
      refine l_lt (l_iff (by omega) (l_lt (l_ift (by omega) ?_)))
      rw [px_145_8 (by omega), ob_s]
      dsimp only
      refine r_iff (fun z => z rfl) ?_
      exact px_bad s2 Fr.refl P2 a2
    refine l_iff o8 ?_
    obtain ⟨IH1, IH2, IH3⟩ := IH (by omega)
    rw [px_145_n (by omega), ob_s]
    dsimp only
    refine r_ift (by decide) (r_lt ?_)
    have e21 : gi (wi T2 55 22 (gi T2 55 22 + 1)) 55 21 = p := by simp only [gi_wi, gl_wl, gl_wi, gi_wl, gi_wcl, gl_wcl, Nat.reduceEqDiff, Int.reduceEq, false_and, true_and, and_true, and_false, if_false, if_true]; exact a2
    rw [e21]
    refine r_ckI (by omega) (r_lt ?_)
    have F3 : Fr [1000055021, 1000055022] T2 (wi (wi T2 55 22 (gi T2 55 22 + 1)) 55 21 (p + 1)) := (Fr.refl.wi rfl).wi rfl
    have a3 : gi (wi (wi T2 55 22 (gi T2 55 22 + 1)) 55 21 (p + 1)) 55 21 = gi S 16 11 := by simp only [gi_wi, gl_wl, gl_wi, gi_wl, gi_wcl, gl_wcl, Nat.reduceEqDiff, Int.reduceEq, false_and, true_and, and_true, and_false, if_false, if_true]; omega
    have d3 : gi (wi (wi T2 55 22 (gi T2 55 22 + 1)) 55 21 (p + 1)) 55 22 = o + 1 := by simp only [gi_wi, gl_wl, gl_wi, gi_wl, gi_wcl, gl_wcl, Nat.reduceEqDiff, Int.reduceEq, false_and, true_and, and_true, and_false, if_false, if_true]; omega
    generalize wi (wi T2 55 22 (gi T2 55 22 + 1)) 55 21 (p + 1) = T3 at *
    have P3 := P2.trans ((px_F.of F3 rfl).mono (W' := px_rw) rfl)
    have A3 := s2.ad (F3.mono rfl) a3 (by omega)
    refine l_bind (px_adv A3) (fun S4 h4 => ?_)
    obtain ⟨⟨p4, q4, s4⟩, f4⟩ := h4
    have f4 : Fr px_cw S S4 := f4.mono rfl
    refine l_ckI (by omega) ?_
    refine b_bind (IH1 S4 T3 p4 cd s4 d3) (fun S5 x5 h5 => ?_)
    obtain ⟨f5, P5, h5⟩ := h5
    have f5 := f4.trans f5
    have P5 := P3.trans P5
    rcases h5 with ⟨v5, p5, ys, s5, d5, G5, q5⟩ | ⟨v5, b5⟩
    rotate_left
    · refine r_ift v5 (l_one ?_)
      refine px_bb (px_37_f (by unfold px_sg; decide)) b5 f5 (fun S6 b6 f6 => ?_)
      exact p_some ⟨f6, P5, Or.inr ⟨rfl, b6⟩⟩
    refine r_iff (by omega) ?_
    refine b_bind (px_exp hB s5 (b := 41) (by unfold px_sg; decide)) (fun S6 x6 h6 => ?_)
    obtain ⟨f6, g6, h6⟩ := h6
    have f6 := f5.trans f6
    have P6 := P5.trans ((px_F.of g6 rfl).mono (W' := px_rw) rfl)
    rcases h6 with ⟨v6, p6, s6, q6⟩ | ⟨v6, b6⟩
    rotate_left
    · refine r_iff (fun z => z v6) ?_
      exact b_some ⟨f6, P6, Or.inr ⟨rfl, b6⟩⟩
    have d6 : gi x6.2 55 22 = o + 1 := (g6.i rfl).trans d5
    refine r_ift (by omega) (r_lt (r_ckI (by omega) (r_lt ?_)))
    have F7 : Fr [1000055022] x6.2 (wi x6.2 55 22 (gi x6.2 55 22 - 1)) := Fr.refl.wi rfl
    have d7 : gi (wi x6.2 55 22 (gi x6.2 55 22 - 1)) 55 22 = o := by simp only [gi_wi, gl_wl, gl_wi, gi_wl, gi_wcl, gl_wcl, Nat.reduceEqDiff, Int.reduceEq, false_and, true_and, and_true, and_false, if_false, if_true]; omega
    generalize wi x6.2 55 22 (gi x6.2 55 22 - 1) = T7 at *
    have P7 := P6.trans ((px_F.of F7 rfl).mono (W' := px_rw) rfl)
    exact b_some ⟨f6, P7, Or.inl ⟨rfl, p6, ys, s6.dp F7, d7, G5.mono (by omega), by omega⟩⟩
  -- no "("
  have j99 : W2 (px_PO c r n S T p cd o false d) (if gi S 16 13 < 269 then g47_j71 G45 G46 G47 o v0 S else w_lt (gi S 16 13) fun V34 => if 279 ≤ V34 then g47_j71 G45 G46 G47 o v0 S else w_lt (gi S 16 13) fun V36 => w_ckI (V36 - 269) fun V37 => (g44 1 V37 S).bind fun p38 => (g33 p38).bind fun p39 => some p39) (g146_j99 G146 G147 G148 T2) := by
    unfold g146_j99
    refine r_bind (px_wrd hB s2) (fun x3 h3 => ?_)
    obtain ⟨F3, W3, ⟨s3, a3⟩, k3⟩ := h3
    have P3 := P2.trans ((px_F.of F3 rfl).mono (W' := px_rw) rfl)
    have d3 : gi x3.2 55 22 = o := (F3.i rfl).trans d2
    have k8 := W3.key (b := 8) (by decide)
    have k9 := W3.key (b := 9) (by decide)
    rw [show px_vk 8 = 7170414 from rfl] at k8
    rw [show px_vk 9 = 7168376 from rfl] at k9
    -- min, max
    have mm : ((gi S 16 13 = 264 ∧ x3.1 = 7170414) ∨ (gi S 16 13 = 265 ∧ x3.1 = 7168376)) → W2 (px_PO c r n S T p cd o false d) (if gi S 16 13 < 269 then g47_j71 G45 G46 G47 o v0 S else w_lt (gi S 16 13) fun V34 => if 279 ≤ V34 then g47_j71 G45 G46 G47 o v0 S else w_lt (gi S 16 13) fun V36 => w_ckI (V36 - 269) fun V37 => (g44 1 V37 S).bind fun p38 => (g33 p38).bind fun p39 => some p39) (g146_j120 G146 G147 G148 x3.1 x3.2) := by
      intro hw
      have v1 := v1 (by omega)
      refine l_ift (by omega) ?_
      unfold g47_j71
      refine l_ift v1 (l_lt (l_ift t2 ?_))
      have M := px_mm (G45 := G45) (G46 := G46) (G47 := G47) (G146 := G146) (G147 := G147) (G148 := G148) (d := d) hB ho IH s3 d3 a3 (k3 (by omega)) hw
      have M2 : W2 (px_PO c r n S T p cd o false d) (g47_j144 G45 G46 G47 o S) (g146_j120 G146 G147 G148 x3.1 x3.2) := M.imp (fun S' y hy => ⟨hy.1, P3.trans hy.2.1, hy.2.2⟩)
      unfold g47_j124
      refine l_lt (l_if (fun _ => M2) (fun z => l_lt (l_iff (fun y => by omega) M2)))
    by_cases w1 : x3.1 = 7170414
    · exact r_ift w1 (mm (Or.inl ⟨k8.mp w1, w1⟩))
    refine r_iff w1 ?_
    by_cases w2 : x3.1 = 7168376
    · exact r_iff (fun z => z w2) (mm (Or.inr ⟨k9.mp w2, w2⟩))
    refine r_ift w2 ?_
    have n8 := mt k8.mpr w1
    have n9 := mt k9.mpr w2
    obtain ⟨a, ea, ha1, ha2⟩ := px_141_eq W3 x3.2
    obtain ⟨v, ev, eg, vr, v2⟩ := px_42_eq s3.1 W3
    have evv : v0 = v := by
      rw [e42] at ev
      cases ev
      rfl
    subst evv
    rw [ea, ob_s]
    dsimp only
    rw [eg, ob_s]
    dsimp only
    by_cases t3 : 269 ≤ gi S 16 13 ∧ gi S 16 13 < 279
    · have ha1 := ha1 t3
      have k3 := k3 (by omega)
      refine l_iff (by omega) (l_lt (l_iff (by omega) (l_lt (l_ckI (by omega) ?_))))
      refine r_ift (by omega) ?_
      unfold g146_j237 g146_j256
      refine r_lt (r_lt (r_ift (by omega) (r_ift (by omega) ?_)))
      rw [k3.1]
      have F4 : Fr [1000055021] x3.2 (wi x3.2 55 21 (gi S 16 11)) := Fr.refl.wi rfl
      have a4 : gi (wi x3.2 55 21 (gi S 16 11)) 55 21 = gi S 16 11 := by simp only [gi_wi, gl_wl, gl_wi, gi_wl, gi_wcl, gl_wcl, Nat.reduceEqDiff, Int.reduceEq, false_and, true_and, and_true, and_false, if_false, if_true]
      generalize wi x3.2 55 21 (gi S 16 11) = T4 at *
      have P4 := P3.trans ((px_F.of F4 rfl).mono (W' := px_rw) rfl)
      have A4 := s3.ad (F4.mono rfl) a4 (by omega)
      refine b_bind (px_putA A4 (by omega) (k := 1) (a := gi S 16 13 - 269) (k' := 1) (a' := a) ⟨by dsimp only; decide, by dsimp only; omega⟩ (by decide) (by omega) (by unfold cst; rw [if_pos rfl, ha1.2, show kmp 1 = 1 from rfl]; omega)) (fun S5 T5 h5 => ?_)
      obtain ⟨s5, f5, P5⟩ := h5
      refine px_end s5 (f5.mono rfl) (P4.trans (P5.mono rfl)) ((P5.1.i rfl).trans ((F4.i rfl).trans d3)) ((px_PG.word ha1.1).mono hd) ?_
      rw [List.length_singleton]; omega
    have ha2 := ha2 t3
    subst ha2
    refine r_iff (fun z => z rfl) ?_
    have cls : W2 (px_PO c r n S T p cd o false d) (g47_j71 G45 G46 G47 o v0 S) (if ¬ v0 = -1 then g146_j237 G146 G147 G148 (-1) v0 x3.2 else some (0, x3.2)) := by
      unfold g47_j71
      by_cases hv : v0 = -1
      · refine l_ift hv (l_lt (l_ift t2 ?_))
        refine r_iff (fun z => z hv) ?_
        unfold g47_j124
        refine l_lt (l_iff (by omega) (l_lt (l_ift (by omega) ?_)))
        exact px_bad s3 Fr.refl P3 a3
      · have t4 : gi S 16 13 = 280 := by
          by_cases z : gi S 16 13 = 280
          · exact z
          · exact absurd (v2 z) hv
        have k3 := k3 (by omega)
        have nm := s3.1.2.2.2.2.1
        refine l_iff hv (r_ift hv ?_)
        unfold g146_j237 g146_j256
        refine r_lt (r_lt (r_iff (fun z => z rfl) (r_iff (fun z => z rfl) ?_)))
        rw [k3.1]
        have F4 : Fr [1000055021] x3.2 (wi x3.2 55 21 (gi S 16 11)) := Fr.refl.wi rfl
        have a4 : gi (wi x3.2 55 21 (gi S 16 11)) 55 21 = gi S 16 11 := by simp only [gi_wi, gl_wl, gl_wi, gi_wl, gi_wcl, gl_wcl, Nat.reduceEqDiff, Int.reduceEq, false_and, true_and, and_true, and_false, if_false, if_true]
        generalize wi x3.2 55 21 (gi S 16 11) = T4 at *
        have P4 := P3.trans ((px_F.of F4 rfl).mono (W' := px_rw) rfl)
        have A4 := s3.ad (F4.mono rfl) a4 (by omega)
        refine b_bind (px_putA A4 (by omega) (k := 2) (a := v0) (k' := 2) (a' := v0) ⟨by dsimp only; decide, by dsimp only; omega⟩ (by decide) (by omega) (by unfold cst; rw [if_neg (by decide), show kmp 2 = 2 from rfl]; omega)) (fun S5 T5 h5 => ?_)
        obtain ⟨s5, f5, P5⟩ := h5
        refine px_end s5 (f5.mono rfl) (P4.trans (P5.mono rfl)) ((P5.1.i rfl).trans ((F4.i rfl).trans d3)) ((px_PG.name (by omega)).mono hd) ?_
        rw [List.length_singleton]; omega
    refine l_if (fun _ => cls) (fun z => l_lt (l_ift (by omega) cls))
  by_cases z : n ≤ p
  · exact r_ift z j99
  · refine r_iff z (r_lt (r_chk (by omega) (r_lt (r_ift ?_ j99))))
    have hb := hB.2 p (by omega) (by omega)
    have := mt sg.1.mpr t2
    omega
end AT
