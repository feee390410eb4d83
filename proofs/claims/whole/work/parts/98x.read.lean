/-! the parser: a statement, a text side by side -/
section RE
variable {S S' S0 T T' T0 : gM} {c r : Int → Int} {n p q f : Int} {cd xs ys : List (Int × Int)} {i : Nat}
theorem px_243_0 : g154_j243 0 T = some (0, T) := by unfold g154_j243; rw [if_pos rfl]
theorem px_243_1 : g154_j243 1 T = (g139 59 T).bind fun p19 => if p19.1 = 0 then some (0, p19.2) else some (1, p19.2) := by unfold g154_j243; rw [if_neg (by decide)]
/-- a statement: that part, then ";" -/
theorem px_semi (hB : px_B c r n) {x : Int × gM} (h : px_KR c r n S T q i S' x) : W2 (px_KR c r n S T q i) ((g37 59 S').bind fun z => some z) (g154_j243 x.1 x.2) := by
  obtain ⟨f1, P1, R1, h1⟩ := h
  rcases h1 with ⟨v1, p1, cd1, s1, D1, q1⟩ | ⟨v1, b1⟩
  · rw [v1, px_243_1]
    refine b_bind (px_exp hB s1 (b := 59) (by unfold px_sg; decide)) (fun S2 y h2 => ?_)
    obtain ⟨f2, g2, h2⟩ := h2
    have P2 := P1.trans ((px_F.of g2 rfl).mono (W' := px_rw2) rfl)
    have R2 := R1.trans (px_RO.of (i := i) g2 ⟨rfl, rfl, rfl, rfl, rfl⟩)
    rcases h2 with ⟨v2, p2, s2, q2⟩ | ⟨v2, b2⟩
    · refine r_iff (by omega) ?_
      exact b_some ⟨f1.trans (px_cw_2 f2), P2, R2, Or.inl ⟨rfl, p2, cd1, s2, D1.fr f2 g2 ⟨rfl, rfl, rfl, rfl⟩ ⟨⟨rfl, rfl, rfl, rfl, rfl⟩, rfl, rfl⟩, by omega⟩⟩
    · refine r_ift v2 ?_
      exact b_some ⟨f1.trans (px_cw_2 f2), P2, R2, Or.inr ⟨rfl, b2⟩⟩
  · rw [v1, px_243_0]
    refine l_one ?_
    exact px_bb (px_37_f (by unfold px_sg; decide)) b1 Fr.refl (fun S3 b3 f3 => p_some ⟨f1.trans (px_cw_2 f3), P1, R1, Or.inr ⟨rfl, b3⟩⟩)
theorem px_161_eq (hi : i < 30) (v : Int) : g154_j161 (270 + i) (270 + i) v T = (w_chk ((0 : Int) ≤ 270 + i ∧ 270 + (i : Int) < 300) <| w_lt (wi T 74 (270 + i) v) fun S37 => some ((if v = -1 then 0 else 1 : Int), S37)).bind fun y => g154_j243 y.1 y.2 := by
  unfold g154_j161 g154_j177
  rw [chk_t (by omega), lt_t, chk_t (by omega), lt_t, chk_t (by omega), lt_t, ob_s]
  have e : gi (wi T 74 (270 + i) v) 74 (270 + i) = v := by rw [gi_wi, if_pos ⟨rfl, rfl⟩]
  rw [e]
  dsimp only
  by_cases z : v = -1
  · rw [if_pos z, if_pos z]
  · rw [if_neg z, if_neg z]
theorem px_ord_eq (hi : i < 30) : (w_chk ((0 : Int) ≤ 270 + i ∧ 270 + (i : Int) < 300) <| w_lt (wi T 73 (270 + i) 5) fun S31 => (g138 439905906546 S31).bind fun p32 => if p32.1 = 0 then (g138 6513008 p32.2).bind fun p34 => if p34.1 = 0 then g154_j161 (270 + i) (270 + i) (-1) p34.2 else g154_j161 (270 + i) (270 + i) 1 p34.2 else g154_j161 (270 + i) (270 + i) 0 p32.2) =
    (w_chk ((0 : Int) ≤ 270 + i ∧ 270 + (i : Int) < 300) <| w_lt (wi T 73 (270 + i) 5) fun S31 => (g138 439905906546 S31).bind fun p32 => if p32.1 = 0 then (g138 6513008 p32.2).bind fun p34 => if p34.1 = 0 then w_chk ((0 : Int) ≤ 270 + i ∧ 270 + (i : Int) < 300) <| w_lt (wi p34.2 74 (270 + i) (-1)) fun S37 => some (0, S37) else w_chk ((0 : Int) ≤ 270 + i ∧ 270 + (i : Int) < 300) <| w_lt (wi p34.2 74 (270 + i) 1) fun S37 => some (1, S37) else w_chk ((0 : Int) ≤ 270 + i ∧ 270 + (i : Int) < 300) <| w_lt (wi p32.2 74 (270 + i) 0) fun S37 => some ((1 : Int), S37)).bind fun y => g154_j243 y.1 y.2 := by
  have hc : (0 : Int) ≤ 270 + i ∧ 270 + (i : Int) < 300 := by omega
  rw [chk_t hc, lt_t, chk_t hc, lt_t]
  refine Eq.trans ?_ (Option.bind_assoc _ _ _).symm
  refine congrArg (Option.bind _) (funext fun x => ?_)
  by_cases z : x.1 = 0
  · rw [if_pos z, if_pos z]
    refine Eq.trans ?_ (Option.bind_assoc _ _ _).symm
    refine congrArg (Option.bind _) (funext fun y => ?_)
    by_cases z2 : y.1 = 0
    · rw [if_pos z2, if_pos z2, px_161_eq hi, if_pos rfl]
    · rw [if_neg z2, if_neg z2, px_161_eq hi, if_neg (by decide)]
  · rw [if_neg z, if_neg z, px_161_eq hi, if_neg (by decide)]
theorem px_shr_eq : ((g137 T).bind fun p27 => (g143 p27.1 p27.2).bind fun p28 => if p28.1 = -1 then g154_j215 (270 + i) p28.2 else g154_j216 (270 + i) 1 p28.2) =
    ((g137 T).bind fun p27 => (g143 p27.1 p27.2).bind fun p28 => if p28.1 = -1 then some (0, p28.2) else (g137 p28.2).bind fun p21 => (g143 p21.1 p21.2).bind fun p22 => w_chk ((0 : Int) ≤ 270 + i ∧ 270 + (i : Int) < 300) <| w_lt (wi p22.2 74 (270 + i) p22.1) fun S24 => w_lt (gi S24 55 42) fun V25 => w_lt (wi S24 55 21 V25) fun S26 => some ((1 : Int), S26)).bind fun y => g154_j243 y.1 y.2 := by
  refine Eq.trans ?_ (Option.bind_assoc _ _ _).symm
  refine congrArg (Option.bind _) (funext fun x => ?_)
  refine Eq.trans ?_ (Option.bind_assoc _ _ _).symm
  refine congrArg (Option.bind _) (funext fun y => ?_)
  by_cases z : y.1 = -1
  · rw [if_pos z, if_pos z, ob_s]
    unfold g154_j215 g154_j216
    rw [if_pos rfl]
  · rw [if_neg z, if_neg z]
    unfold g154_j216
    rw [if_neg (by decide)]
    refine Eq.trans ?_ (Option.bind_assoc _ _ _).symm
    refine congrArg (Option.bind _) (funext fun u => ?_)
    refine Eq.trans ?_ (Option.bind_assoc _ _ _).symm
    refine congrArg (Option.bind _) (funext fun v => ?_)
    unfold w_chk
    split
    · rfl
    · rfl
/-- from behind the word that tells the kind -/
theorem px_KR.pre {x : Int × gM} (h : px_KR c r n S T' q i S' x) (hP : px_F px_rw2 T T') (hR : px_RO T T' i) (hq : p + 1 ≤ q) : px_KR c r n S T (p + 1) i S' x := by
  obtain ⟨f1, P1, R1, h1⟩ := h
  exact ⟨f1, hP.trans P1, hR.trans R1, h1.imp (fun ⟨a, p', cd', e1, e2, e3⟩ => ⟨a, p', cd', e1, e2, by omega⟩) id⟩
theorem px_stat (hB : px_B c r n) (h : px_ST c r n S T p cd) (hD : px_DI S T cd i) (hi : i < 30) (h8 : gi S 16 8 = i) : W2 (px_KR c r n S T (p + 1) i) (g38 S) (g154 (270 + i) T) := by
  unfold g38 g154
  refine l_lt ?_
  obtain ⟨x0, ex0, hx0⟩ := px_tak hB h (b := 0) (w := 1818848869) (by decide) rfl
  rw [ex0, ob_s]
  have P0 : px_F px_rw2 T x0.2 := (px_F.of hx0.1 rfl).mono rfl
  have R0 : px_RO T x0.2 i := px_RO.of hx0.1 ⟨rfl, rfl, rfl, rfl, rfl⟩
  have D0 := hD.fr (Fr.refl (W := []) (S := S)) hx0.1 ⟨rfl, rfl, rfl, rfl⟩ ⟨⟨rfl, rfl, rfl, rfl, rfl⟩, rfl, rfl⟩
  by_cases t0 : gi S 16 13 = 256 + 0
  · have k := hx0.2.1 t0
    refine l_ift (by omega) (r_iff (by omega) ?_)
    exact b_bind (px_line hB k.2.1 D0 hi h8) (fun S1 y hy => px_semi hB (hy.pre P0 R0 k.2.2))
  have k0 := hx0.2.2 t0
  refine l_iff (by omega) (r_ift k0.1 ?_)
  obtain ⟨x1, ex1, hx1⟩ := px_tak hB k0.2.1 (b := 1) (w := 439905906546) (by decide) rfl
  rw [ex1, ob_s]
  have P1 : px_F px_rw2 T x1.2 := P0.trans ((px_F.of hx1.1 rfl).mono rfl)
  have R1 : px_RO T x1.2 i := R0.trans (px_RO.of hx1.1 ⟨rfl, rfl, rfl, rfl, rfl⟩)
  have D1 := D0.fr (Fr.refl (W := []) (S := S)) hx1.1 ⟨rfl, rfl, rfl, rfl⟩ ⟨⟨rfl, rfl, rfl, rfl, rfl⟩, rfl, rfl⟩
  by_cases t1 : gi S 16 13 = 256 + 1
  · have k := hx1.2.1 t1
    refine l_ift (by omega) (r_iff (by omega) ?_)
    exact b_bind (px_plain hB k.2.1 D1 hi (w := 1) (m := 1000) (by decide) (by decide)) (fun S1 y hy => px_semi hB (hy.pre P1 R1 k.2.2))
  have k1 := hx1.2.2 t1
  refine l_iff (by omega) (r_ift k1.1 ?_)
  obtain ⟨x2, ex2, hx2⟩ := px_tak hB k1.2.1 (b := 2) (w := 6513008) (by decide) rfl
  rw [ex2, ob_s]
  have P2 : px_F px_rw2 T x2.2 := P1.trans ((px_F.of hx2.1 rfl).mono rfl)
  have R2 : px_RO T x2.2 i := R1.trans (px_RO.of hx2.1 ⟨rfl, rfl, rfl, rfl, rfl⟩)
  have D2 := D1.fr (Fr.refl (W := []) (S := S)) hx2.1 ⟨rfl, rfl, rfl, rfl⟩ ⟨⟨rfl, rfl, rfl, rfl, rfl⟩, rfl, rfl⟩
  by_cases t2 : gi S 16 13 = 256 + 2
  · have k := hx2.2.1 t2
    refine l_ift (by omega) (r_iff (by omega) ?_)
    exact b_bind (px_plain hB k.2.1 D2 hi (w := 2) (m := 1000) (by decide) (by decide)) (fun S1 y hy => px_semi hB (hy.pre P2 R2 k.2.2))
  have k2 := hx2.2.2 t2
  refine l_iff (by omega) (r_ift k2.1 ?_)
  obtain ⟨x3, ex3, hx3⟩ := px_tak hB k2.2.1 (b := 3) (w := 500086104428) (by decide) rfl
  rw [ex3, ob_s]
  have P3 : px_F px_rw2 T x3.2 := P2.trans ((px_F.of hx3.1 rfl).mono rfl)
  have R3 : px_RO T x3.2 i := R2.trans (px_RO.of hx3.1 ⟨rfl, rfl, rfl, rfl, rfl⟩)
  have D3 := D2.fr (Fr.refl (W := []) (S := S)) hx3.1 ⟨rfl, rfl, rfl, rfl⟩ ⟨⟨rfl, rfl, rfl, rfl, rfl⟩, rfl, rfl⟩
  by_cases t3 : gi S 16 13 = 256 + 3
  · have k := hx3.2.1 t3
    refine l_ift (by omega) (r_iff (by omega) ?_)
    exact b_bind (px_plain hB k.2.1 D3 hi (w := 3) (m := 9999999) (by decide) (by decide)) (fun S1 y hy => px_semi hB (hy.pre P3 R3 k.2.2))
  have k3 := hx3.2.2 t3
  refine l_iff (by omega) (r_ift k3.1 ?_)
  obtain ⟨x4, ex4, hx4⟩ := px_tak hB k3.2.1 (b := 4) (w := 1836021349) (by decide) rfl
  rw [ex4, ob_s]
  have P4 : px_F px_rw2 T x4.2 := P3.trans ((px_F.of hx4.1 rfl).mono rfl)
  have R4 : px_RO T x4.2 i := R3.trans (px_RO.of hx4.1 ⟨rfl, rfl, rfl, rfl, rfl⟩)
  have D4 := D3.fr (Fr.refl (W := []) (S := S)) hx4.1 ⟨rfl, rfl, rfl, rfl⟩ ⟨⟨rfl, rfl, rfl, rfl, rfl⟩, rfl, rfl⟩
  by_cases t4 : gi S 16 13 = 256 + 4
  · have k := hx4.2.1 t4
    refine l_ift (by omega) (r_iff (by omega) ?_)
    exact b_bind (px_plain hB k.2.1 D4 hi (w := 4) (m := 100) (by decide) (by decide)) (fun S1 y hy => px_semi hB (hy.pre P4 R4 k.2.2))
  have k4 := hx4.2.2 t4
  refine l_iff (by omega) (r_ift k4.1 ?_)
  obtain ⟨x5, ex5, hx5⟩ := px_tak hB k4.2.1 (b := 5) (w := 478660552050) (by decide) rfl
  rw [ex5, ob_s]
  have P5 : px_F px_rw2 T x5.2 := P4.trans ((px_F.of hx5.1 rfl).mono rfl)
  have R5 : px_RO T x5.2 i := R4.trans (px_RO.of hx5.1 ⟨rfl, rfl, rfl, rfl, rfl⟩)
  have D5 := D4.fr (Fr.refl (W := []) (S := S)) hx5.1 ⟨rfl, rfl, rfl, rfl⟩ ⟨⟨rfl, rfl, rfl, rfl, rfl⟩, rfl, rfl⟩
  by_cases t5 : gi S 16 13 = 256 + 5
  · have k := hx5.2.1 t5
    refine l_ift (by omega) (r_iff (by omega) ?_)
    rw [px_ord_eq hi]
    exact b_bind (px_order hB k.2.1 D5 hi) (fun S1 y hy => px_semi hB (hy.pre P5 R5 k.2.2))
  have k5 := hx5.2.2 t5
  refine l_iff (by omega) (r_ift k5.1 (r_chk (by omega) (r_lt ?_)))
  obtain ⟨P6, R6⟩ := px_row (T := x5.2) (i := i) 73 (by decide) 6 (by omega)
  have u73 : gi (wi x5.2 73 (270 + i) 6) 73 (30 * 9 + i) = 6 := by rw [gi_wi, if_pos ⟨rfl, by omega⟩]
  generalize wi x5.2 73 (270 + (i : Int)) 6 = T6 at *
  have s6 := k5.2.1.fr (Fr.refl (W := [])) P6.1 rfl rfl
  obtain ⟨x7, ex7, hx7⟩ := px_tak hB s6 (b := 6) (w := 495672455781) (by decide) rfl
  rw [ex7, ob_s]
  have P7 : px_F px_rw2 T x7.2 := (P5.trans (P6.mono rfl)).trans ((px_F.of hx7.1 rfl).mono rfl)
  have R7 : px_RO T x7.2 i := (R5.trans R6).trans (px_RO.of hx7.1 ⟨rfl, rfl, rfl, rfl, rfl⟩)
  by_cases t6 : gi S 16 13 = 256 + 6
  · have k := hx7.2.1 t6
    refine l_ift (by omega) (r_iff (by omega) ?_)
    rw [px_shr_eq]
    have c0 := h.1.2.2.1
    have D7 : px_DI S x7.2 cd i := by
      have ek : ∀ j : Nat, j ≤ i → rk (gi x7.2) 9 j = rk (gi T) 9 j := fun j hj => px_rk_c R7 j hj
      have et : ∀ w o : Int, px_tl (gi x7.2) i w o = px_tl (gi T) i w o := fun w o => by
        unfold px_tl
        rw [px_lst_c R7 w i (Nat.le_refl _)]
        by_cases y : lstF (gi T) 9 w i = -1
        · rw [if_pos y, if_pos y]
        · rw [if_neg y, if_neg y]
          rcases lstF_rng (gi T) 9 w (by decide) i with q | q
          · exact absurd q y
          · exact (R7 _ (by omega)).2.1
      have old := hD.old (S' := S) (zs := []) R7 c0 (by rw [List.append_nil]; exact k.2.1.1.2.2.1) (fun _ _ _ => rfl) (fun _ _ _ _ => rfl)
      rw [List.append_nil] at old
      refine ⟨by rw [ek i (Nat.le_refl _)]; exact hD.1, ?_, old⟩
      rw [et, et, et, et, et, et]
      exact hD.2.1
    exact b_bind (px_share hB k.2.1 D7 hi ((hx7.1.i rfl).trans u73)) (fun S1 y hy => px_semi hB (hy.pre P7 R7 k.2.2))
  have k7 := hx7.2.2 t6
  refine l_iff (by omega) (r_ift k7.1 ?_)
  unfold g154_j215 g154_j216
  refine r_ift rfl ?_
  rw [px_243_0]
  refine l_one ?_
  refine p_bind (p_imp (px_32_w h) (fun S1 h1 => ?_))
  refine px_bb (px_37_f (by unfold px_sg; decide)) h1.1 h1.2 (fun S2 b2 f2 => p_some ⟨px_cw_2 f2, P7, R7, Or.inr ⟨rfl, ?_⟩⟩)
  show px_BD S2 (gi x7.2 55 21)
  rw [k7.2.2]
  exact b2
end RE
