/-! beside side by side; rates over all the books -/
section BS
variable {S U : gM}
set_option maxHeartbeats 1000000 in
theorem beside_ok (h : Bk S) (hk : px_KI S) (hg : gn S < 900000000) (n : Int) : Ok3 S (g85 n) (g158 n) := by
  have hT := h.2.2.1
  have hI := h.2.1.2.2.2.1
  have i8 := hI.1.1
  have g3 := hk.2.2.2
  by_cases c1 : 0 ≤ n ∧ n ≤ gi S 55 19
  rotate_left
  · refine ok3_same h hk (v := -2) ?_ ?_
    · unfold g85
      rw [hT.1]
      by_cases z : n < 0
      · rw [if_pos z]
      · rw [if_neg z, lt_t, if_neg (by omega)]
    · unfold g158
      rw [lt_t, g112_eq, ob_s]
      dsimp only
      rw [one_f c1, if_neg (fun z => z rfl)]
  obtain ⟨Y, eY, hF, b1, b2, ref⟩ := px_both h hk c1
  obtain ⟨m1, m2, m3, m4, m5, m6⟩ := px_mid h hk hF
  have gd : ∀ V : gM, gi V 55 19 = gi S 55 19 → g158 n V = (g155 n V).bind fun p4 => w_chk (p4.1 = 0 ∨ p4.1 = 1) <| w_lt (wi p4.2 55 26 p4.1) fun S6 => w_lt (gi S6 55 26) fun V7 => if ¬ V7 = 0 then (g156 8 0 S6).bind fun p9 => some (0, p9) else some (-1, S6) := by
    intro V v1
    unfold g158
    rw [lt_t, g112_eq, ob_s, v1]
    dsimp only
    rw [one_t c1, if_pos (by decide)]
  unfold Ok3 g85
  rw [hT.1, if_neg (by omega), lt_t, if_pos (by omega), eY, ob_s]
  refine p_lt (p_lt (p_lt ?_))
  have A7 : gi (wi (wi Y.2 0 9 Y.1) 0 7 0) 0 7 = 0 := by simp only [gi_wi, gl_wl, gl_wi, gi_wl, gi_wcl, gl_wcl, Nat.reduceEqDiff, Int.reduceEq, false_and, true_and, and_true, and_false, if_false, if_true]
  have A9 : gi (wi (wi Y.2 0 9 Y.1) 0 7 0) 0 9 = Y.1 := by simp only [gi_wi, gl_wl, gl_wi, gi_wl, gi_wcl, gl_wcl, Nat.reduceEqDiff, Int.reduceEq, false_and, true_and, and_true, and_false, if_false, if_true]
  have FA : Fr [1000000007, 1000000009] Y.2 (wi (wi Y.2 0 9 Y.1) 0 7 0) := (Fr.refl.wi rfl).wi rfl
  generalize wi (wi Y.2 0 9 Y.1) 0 7 0 = A at *
  rw [A9]
  have wA : px_KW px_cl S A := m2.trans ((px_KW.of FA).mono rfl) (by rw [m3]; exact Nat.le_refl _)
  have kA : px_KP S A := m1.trans (px_KP.of FA rfl)
  have gA : gn A = gn S := by rw [gn_c FA.1, m3]
  unfold g85_j63
  refine p_if (fun y1 => ?_) (fun y1 => ?_)
  · -- a fault
    refine p_lt (p_lt ?_)
    have V9 : gi (wr A 0 8 none) 0 9 = Y.1 := A9
    rw [V9, if_pos y1]
    refine p_some ?_
    dsimp only
    have e08 : gr (wr A 0 8 none) 0 8 = none := by rw [gr_wr, if_pos ⟨rfl, rfl⟩]
    have e29 : ∀ j, gr (wr A 0 8 none) 29 j = gr Y.2 29 j := fun j => by
      rw [gr_wr, if_neg (fun z => absurd z.1 (by decide))]
      exact gr_c FA.1 _ _
    have kV : px_KP Y.2 (wr A 0 8 none) := (px_KP.of FA rfl).trans (px_KP.wr 0 8 none (by decide))
    have wV : px_KW px_cl S (wr A 0 8 none) := wA
    have w9 : px_KW [1000000007, 1000000009] Y.2 (wr A 0 8 none) := px_KW.of (U := A) FA
    have V7 : gi (wr A 0 8 none) 0 7 = 0 := A7
    have Vn : gn (wr A 0 8 none) = gn Y.2 ∧ gs (wr A 0 8 none) = gs Y.2 := ⟨gn_c (S' := A) FA.1, gs_c (S' := A) FA.1⟩
    generalize wr A 0 8 none = V at *
    obtain ⟨x, ex, k1, k2, k3⟩ := ref V (fun k => (wV 83 k (by omega) rfl).1)
    rw [gd V (wV 55 19 (by omega) rfl).1, ex, ob_s]
    rcases k3 with ⟨z, -⟩ | ⟨z1, z2, z3⟩
    · exact absurd z y1
    · rw [z2]
      refine p_chk (by decide) (p_lt (p_lt ?_))
      have Z26 : gi (wi x.2 55 26 0) 55 26 = 0 := by simp only [gi_wi, gl_wl, gl_wi, gi_wl, gi_wcl, gl_wcl, Nat.reduceEqDiff, Int.reduceEq, false_and, true_and, and_true, and_false, if_false, if_true]
      have FZ : Fr [1000055026] x.2 (wi x.2 55 26 0) := Fr.refl.wi rfl
      rw [Z26, if_neg (fun z => z rfl)]
      generalize wi x.2 55 26 0 = Z at *
      have r08 : gr Z 0 8 = none := by rw [gr_c FZ.1, gr_c k1.1.1]; exact e08
      obtain ⟨f1, f2, f3⟩ := px_flt h hk hF kV w9 Vn e29 k1 FZ V7 k2 (V9.trans z3.symm) ⟨by rw [r08, Z26]; simp, fun q hq => by rw [r08] at hq; cases hq⟩
      exact p_some ⟨rfl, f1, by rw [f2]; omega, by rw [f3]; omega⟩
  -- taken
  have y1 := Classical.not_not.mp y1
  obtain ⟨b1, b1'⟩ := b1 y1
  have e16 : gi A 16 7 = gi Y.2 16 7 ∧ gi A 16 6 = gi Y.2 16 6 ∧ gi A 16 8 = gi Y.2 16 8 := ⟨FA.i rfl, FA.i rfl, FA.i rfl⟩
  have eA : ∀ (q : Nat) (k : Int), (q = 18 ∨ q = 19 ∨ q = 20 ∨ q = 22) → gi A q k = gi Y.2 q k := fun q k hq => by
    rcases hq with z | z | z | z <;> subst z <;> exact FA.i rfl
  have lA : ∀ q a, gln A q a = gln S q a := fun q a => by rw [gln_c FA.1, m5]
  have b7 := e16.1
  have b6 := e16.2.1
  refine p_lt ?_
  refine p_bind (p_imp (px_law_w (S := A) (-1) 0 0 (by rw [gA]; exact g3) (by rw [lA, lA, lA, lA]; exact hk.2.1) (by rw [b7]; exact b1) (by rw [b6]; exact b1')) (fun N hN => ?_))
  have n0 := hN
  obtain ⟨n1, n2, n3, n4, n5, n6, n7, n8, -⟩ := hN
  refine p_lt (p_lt ?_)
  have V9 : gi (wr N 0 8 (some (gn A))) 0 9 = Y.1 := (n4 0 9 (Or.inl (by omega))).1.trans A9
  rw [V9, if_neg (fun z => z y1)]
  refine p_some ?_
  dsimp only
  have V08 : gr (wr N 0 8 (some (gn A))) 0 8 = some (gn A) := by rw [gr_wr, if_pos ⟨rfl, rfl⟩]
  have Vr : ∀ q j, ¬ q = 0 → gr (wr N 0 8 (some (gn A))) q j = gr N q j := fun q j hq => by rw [gr_wr, if_neg (fun z => hq z.1)]
  have Vo : ∀ q a, gob (wr N 0 8 (some (gn A))) q a = gob N q a := fun _ _ => rfl
  have Vl : ∀ q a, gln (wr N 0 8 (some (gn A))) q a = gln N q a := fun _ _ => rfl
  have Vn : gn (wr N 0 8 (some (gn A))) = gn S + 5 := by rw [← gA]; exact n1
  have Vs : gs (wr N 0 8 (some (gn A))) ≤ gs S + 900 := by
    show gs N ≤ _
    rw [n2, gs_c FA.1, m4, b7, b6]
    omega
  have VN : ∀ (j : Nat) (k : Int), j ≤ 4 → gi (wr N 0 8 (some (gn A))) (gn A + j) k = gi N (gn A + j) k := fun _ _ _ => rfl
  have kV : px_KP S (wr N 0 8 (some (gn A))) := (kA.trans (px_KP.gw n3 (fun q k hq => n4 q k (Or.inl hq)))).trans (px_KP.wr 0 _ _ (by decide))
  have wV : px_KW px_cl S (wr N 0 8 (some (gn A))) := wA.trans (fun q k hq _ => n4 q k (Or.inl hq)) (by rw [gA]; exact Nat.le_refl _)
  have V7 : gi (wr N 0 8 (some (gn A))) 0 7 = 0 := (n4 0 7 (Or.inl (by omega))).1.trans A7
  have V30 : gi (wr N 0 8 (some (gn A))) 30 15 = gi S 30 15 := (n4 30 15 (Or.inl (by omega))).1.trans ((FA.i rfl).trans (hF.i rfl))
  have V23 : gi (wr N 0 8 (some (gn A))) 23 2 = gi S 23 2 := (n4 23 2 (Or.inl (by omega))).1.trans ((FA.i rfl).trans (hF.i rfl))
  generalize wr N 0 8 (some (gn A)) = V at *
  obtain ⟨x, ex, k1, k2, k3⟩ := ref V (fun k => (wV 83 k (by omega) rfl).1)
  rw [gd V (wV 55 19 (by omega) rfl).1, ex, ob_s]
  rcases k3 with ⟨z1, z2, z3, cd, i, C, D, z4, z5, z6, z7⟩ | ⟨z1, -⟩
  rotate_left
  · omega
  rw [z2]
  refine p_chk (by decide) (p_lt (p_lt ?_))
  have X26 : gi (wi x.2 55 26 1) 55 26 = 1 := by simp only [gi_wi, gl_wl, gl_wi, gi_wl, gi_wcl, gl_wcl, Nat.reduceEqDiff, Int.reduceEq, false_and, true_and, and_true, and_false, if_false, if_true]
  have FX : Fr [1000055026] x.2 (wi x.2 55 26 1) := Fr.refl.wi rfl
  rw [X26, if_pos (by decide)]
  generalize wi x.2 55 26 1 = X at *
  have s7 : ∀ (a : Nat) (j : Int), 70 ≤ a → a ≤ 79 → gi V a j = gi S a j := fun a j h1 h2 => (wV a j (by omega) (px_70 h1 h2 j)).1
  have x7 : ∀ (a : Nat) (j : Int), 70 ≤ a → a ≤ 79 → gi X a j = gi x.2 a j := fun a j h1 h2 => FX.i (by rw [rg_big (by omega)]; simp; omega)
  have rbV : px_RB V := fun j j1 j2 => by
    rw [s7 75 j (by decide) (by decide), s7 76 j (by decide) (by decide), s7 77 j (by decide) (by decide)]
    exact hk.2.2.1 j j1 j2
  have rbX : px_RB X := fun j j1 j2 => by
    rw [x7 75 j (by decide) (by decide), x7 76 j (by decide) (by decide), x7 77 j (by decide) (by decide)]
    exact k1.2.rb rbV j j1 j2
  have CX : px_CD Y.2 X cd := C.fr (Fr.refl (W := [])) FX ⟨rfl, rfl⟩ ⟨rfl, rfl, rfl⟩
  have DX : px_DI Y.2 X cd i := D.fr (Fr.refl (W := [])) FX ⟨rfl, rfl, rfl, rfl⟩ ⟨⟨rfl, rfl, rfl, rfl, rfl⟩, rfl, rfl⟩
  refine p_bind (p_imp (px_156_w (T := X) (f := 8) (y := 0) (m := i) (L := cd.length) (by decide) ⟨(FX.i rfl).trans z4, z6⟩ ⟨CX.2.1, by omega⟩ rbX) (fun U hE => ?_))
  refine p_some ⟨rfl, ?_⟩
  show (Bk U ∧ px_KI U) ∧ gn U ≤ gn S + 5 ∧ gs U ≤ gs S + 900
  obtain ⟨⟨R1, R2⟩, R3, R4, R5⟩ := px_new (by decide) CX DX z6 z7 z5 e16 eA n0 (by rw [gA]; exact ⟨g3, hg⟩) VN (Vo _ _) (fun k => Vr _ k (by omega)) (fun j => Vl _ _) ((k1.1.mono rfl).trans (FX.mono rfl)) hE
  have kU : px_KP S U := ((kV.trans (px_KP.of k1.1 rfl)).trans (px_KP.of FX rfl)).trans (px_KP.of hE.1 rfl)
  have seq : ∀ f : Int, -1 ≤ f → f < 8 → SEq (gi S) (gi U) f := fun f h1 h2 => (((px_seq_eq s7).trans (k1.2.seq ⟨h1, by omega⟩)).trans (px_seq_eq x7)).trans (hE.oth (by decide) z6 (by omega) ⟨h1, by omega⟩ (by omega))
  have u71 : ∀ k, k < 8 → gi U 71 k = gi S 71 k := fun k hk8 => by
    rw [hE.2.1.2.1 k, if_neg (by omega), x7 71 k (by decide) (by decide), show gi x.2 71 k = gi V 71 k from k1.1.i rfl, s7 71 k (by decide) (by decide)]
  have u72 : ∀ k, k < 8 → gi U 72 k = gi S 72 k := fun k hk8 => by
    rw [hE.2.1.2.2 k, if_neg (by omega), x7 72 k (by decide) (by decide), show gi x.2 72 k = gi V 72 k from k1.1.i rfl, s7 72 k (by decide) (by decide)]
  have u18 : gi U 55 18 = gi S 55 18 := (hE.1.i rfl).trans ((FX.i rfl).trans ((k1.1.i rfl).trans (wV 55 18 (by omega) rfl).1))
  have u23 : gi U 23 2 = gi S 23 2 := (hE.1.i rfl).trans ((FX.i rfl).trans ((k1.1.i rfl).trans V23))
  have u30 : gi U 30 15 = gi S 30 15 := (hE.1.i rfl).trans ((FX.i rfl).trans ((k1.1.i rfl).trans V30))
  have u26 : gi U 55 26 = 1 := (hE.1.i rfl).trans X26
  have rU : ∀ q j, gr U q j = gr V q j := fun q j => by rw [gr_c hE.1.1, gr_c FX.1, gr_c k1.1.1]
  have r29 : ∀ j : Nat, gr U 29 j = gr S 29 j := fun j => by
    rw [rU, Vr 29 j (by decide), n3.2.2.2 29 j (by omega), gr_c FA.1, m6 29 j (by decide)]
  have r08 : gr U 0 8 = some (gn A) := (rU 0 8).trans V08
  have fI : FormI U := px_form0 hI g3 kU u18 u23 (fun j a b => ⟨u71 j (by omega), u72 j (by omega)⟩) (fun f h1 h2 => seq f h1 (by omega)) r29 ⟨by rw [r08, u26]; simp, fun q hq => by
    rw [r08] at hq
    cases hq
    exact ⟨R1, R2⟩⟩
  have pI : PasI U U := px_pas h.2.1 g3 kU u30 u18 (fun j a b => ⟨u71 j (by omega), u72 j (by omega)⟩) (fun f h1 h2 => seq f h1 (by omega))
  refine ⟨⟨px_bk h g3 kU ⟨?_, ?_⟩ ?_ fI pI, hk.kp kU (fun j j1 j2 => ?_)⟩, ?_, ?_⟩
  · exact (hE.1.i rfl).trans ((FX.i rfl).trans ((k1.1.i rfl).trans V7))
  · exact (hE.1.i rfl).trans ((FX.i rfl).trans k2)
  · rw [show gi U 0 9 = gi V 0 9 from (hE.1.i rfl).trans ((FX.i rfl).trans (k1.1.i rfl)), show gi U 55 25 = gi x.2 55 25 from (hE.1.i rfl).trans (FX.i rfl), V9, y1, z3]
  · rw [hE.2.2.1.2.2.1 j, hE.2.2.1.2.2.2.1 j, hE.2.2.1.2.2.2.2 j, px_cpy_o _ (by omega), px_cpy_o _ (by omega), px_cpy_o _ (by omega)]
    exact rbX j j1 j2
  · rw [gn_c hE.1.1, gn_c FX.1, gn_c k1.1.1, Vn]; exact Nat.le_refl _
  · rw [gs_c hE.1.1, gs_c FX.1, gs_c k1.1.1]; exact Vs
end BS
