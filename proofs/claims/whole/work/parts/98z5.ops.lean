/-! formula, beside side by side -/
section OF
variable {S U : gM}
theorem px_new {Y P N V T T2 : gM} {cd : List (Int × Int)} {i : Nat} {f y a b d : Int} (hf : 0 ≤ f ∧ f ≤ 8) (hC : px_CD Y T cd) (hD : px_DI Y T cd i) (hi : i ≤ 30) (hL : (cd.length : Int) ≤ 700) (h8 : gi Y 16 8 = i) (e16 : gi P 16 7 = gi Y 16 7 ∧ gi P 16 6 = gi Y 16 6 ∧ gi P 16 8 = gi Y 16 8) (eP : ∀ (q : Nat) (k : Int), (q = 18 ∨ q = 19 ∨ q = 20 ∨ q = 22) → gi P q k = gi Y q k) (hN : px_LN P N a b d) (hg : 103 ≤ gn P ∧ gn P < 900000000)
    (hV : ∀ (j : Nat) (k : Int), j ≤ 4 → gi V (gn P + j) k = gi N (gn P + j) k) (hO : gob V (gn P) 1 = gob N (gn P) 1) (hR : ∀ k, gr V (gn P) k = gr N (gn P) k) (hX : ∀ j : Nat, gln V (gn P + j) 0 = gln N (gn P + j) 0) (hF : Fr px_tot V T) (hE : px_BE T T2 f y i cd.length) :
    (LwR T2 (gn P) f ∧ FOk (gi T2) f) ∧ gi T2 (gn P) 0 = a ∧ gi T2 (gn P) 1 = b ∧ gi T2 (gn P) 2 = d := by
  obtain ⟨-, -, -, -, n5, n6, n7, n8, n9, n10, n11, n12⟩ := hN
  have F : Fr px_tot V T2 := hF.trans (hE.1.mono rfl)
  have c : ∀ (j : Nat) (k : Int), j ≤ 4 → gi T2 (gn P + j) k = gi N (gn P + j) k := fun j k hj => by
    rw [← hV j k hj]
    refine F.i ?_
    rw [rg_big (by omega)]
    exact px_tot_big (by omega) (by omega)
  have c0 : ∀ k, gi T2 (gn P) k = gi N (gn P) k := fun k => c 0 k (by decide)
  have l : ∀ j : Nat, gln T2 (gn P + j) 0 = gln N (gn P + j) 0 := fun j => (gln_c F.1 _ _).trans (hX j)
  have g7 := e16.1
  have g6 := e16.2.1
  have d7 := hD.1.1
  have d6 := hC.1
  have rl := rk_le (gi T) 9 i
  have S2 : LwS T2 (gn P) := by
    unfold LwS
    rw [gob_c F.1, gr_c F.1, gr_c F.1, gr_c F.1, gr_c F.1, hO, hR, hR, hR, hR, l 1, l 2, l 3, l 4, c0, n5, n6.1, n6.2.1, n6.2.2.1, n6.2.2.2, n7.1, n7.2.1, n7.2.2.1, n7.2.2.2, n8.2.2.2.2]
    exact ⟨rfl, ⟨rfl, rfl, rfl, rfl⟩, rfl, rfl, rfl, by omega, by omega, Or.inr (by omega)⟩
  refine ⟨⟨px_lawR hE hf hi (by omega) hC hD S2 ?_ ?_ (fun k => ?_) (fun k k1 k2 => ?_) (fun k k1 k2 => ?_) (fun k k1 k2 => ?_) ?_, px_BEfok hE hf hi (by omega) hD⟩, (c0 0).trans n8.1, (c0 1).trans n8.2.1, (c0 2).trans n8.2.2.1⟩
  · rw [c0, n8.2.2.2.1, e16.2.2, h8]
  · rw [c0, n8.2.2.2.2, g7, d7]
  · rw [c 1 k (by decide), n9, eP 22 k (by decide)]
  · rw [c 2 k (by decide), n10 k (by omega) (by omega), eP 20 k (by decide)]
  · rw [c 3 k (by decide), n11 k k1 (by omega), eP 19 k (by decide)]
  · rw [c 4 k (by decide), n12 k (by omega) (by omega), eP 18 k (by decide)]
  · rw [l 4, n7.2.2.2, g6, d6]
theorem px_seq_eq {f : Int} (h : ∀ (a : Nat) (k : Int), 70 ≤ a → a ≤ 79 → gi U a k = gi S a k) : SEq (gi S) (gi U) f := by
  have g := fun (a : Nat) (h1 : 70 ≤ a) (h2 : a ≤ 79) (k : Int) => (h a k h1 h2).symm
  exact Or.inr ⟨g 70 (by decide) (by decide) _, fun i _ => ⟨g 73 (by decide) (by decide) _, g 74 (by decide) (by decide) _, g 75 (by decide) (by decide) _, g 76 (by decide) (by decide) _, g 77 (by decide) (by decide) _⟩, fun j _ => ⟨g 78 (by decide) (by decide) _, g 79 (by decide) (by decide) _⟩⟩
theorem px_70 {a : Nat} (h1 : 70 ≤ a) (h2 : a ≤ 79) (k : Int) : px_cl.contains (rg a k) = false := by
  have : a = 70 ∨ a = 71 ∨ a = 72 ∨ a = 73 ∨ a = 74 ∨ a = 75 ∨ a = 76 ∨ a = 77 ∨ a = 78 ∨ a = 79 := by omega
  rcases this with z | z | z | z | z | z | z | z | z | z <;> subst z <;> rfl
/-- the two runs, the books behind them; the heap has grown by that much at most -/
def Ok3 (S : gM) (fc fr : gM → Option (Int × gM)) : Prop := Wp (fun r => Wp (fun r2 => r2.1 = r.1 ∧ (Bk r2.2 ∧ px_KI r2.2) ∧ gn r2.2 ≤ gn S + 5 ∧ gs r2.2 ≤ gs S + 900) (fr r.2)) (fc S)
theorem ok3_same (h : Bk S) (hk : px_KI S) {fc fr : gM → Option (Int × gM)} {v : Int} (h1 : fc S = some (v, S)) (h2 : fr S = some (v, S)) : Ok3 S fc fr := ⟨_, h1, ⟨_, h2, rfl, ⟨h, hk⟩, Nat.le_add_right _ _, Nat.le_add_right _ _⟩⟩
/-- the class is behind the reading -/
theorem px_mid (h : Bk S) (hk : px_KI S) {y : Int × gM} (hF : Fr px_cw3 (wr S 16 9 (some 54)) y.2) : px_KP S y.2 ∧ px_KW px_cl S y.2 ∧ gn y.2 = gn S ∧ gs y.2 = gs S ∧ (∀ q a, gln y.2 q a = gln S q a) ∧ (∀ q k, ¬ q = 16 → gr y.2 q k = gr S q k) := by
  refine ⟨(px_KP.wr 16 9 (some 54) (Or.inl rfl)).trans (px_KP.of hF rfl), (px_KW.of (U := y.2) (S := wr S 16 9 (some 54)) hF).mono rfl, gn_c (S := wr S 16 9 (some 54)) hF.1, gs_c (S := wr S 16 9 (some 54)) hF.1, fun q a => gln_c (S := wr S 16 9 (some 54)) hF.1 q a, fun q k n1 => ?_⟩
  rw [gr_c hF.1, gr_wr, if_neg (fun z => n1 z.1)]
/-- a fault: nothing but the tape, the fault's place and the reader has changed -/
theorem px_flt (h : Bk S) (hk : px_KI S) {y : Int × gM} (hF : Fr px_cw3 (wr S 16 9 (some 54)) y.2) {V : gM} (hVk : px_KP y.2 V) (hVc : px_KW [1000000007, 1000000009] y.2 V) (hVn : gn V = gn y.2 ∧ gs V = gs y.2) (hV29 : ∀ j, gr V 29 j = gr y.2 29 j) {x : Int × gM} (hx : px_F px_rw3 V x.2) {Z : gM} (hZ : Fr [1000055026] x.2 Z) (e7 : gi V 0 7 = 0) (e19 : gi x.2 55 19 = 0) (e9 : gi V 0 9 = gi x.2 55 25) (hb : (gr Z 0 8 = none ↔ gi Z 55 26 = 0) ∧ ∀ q, gr Z 0 8 = some q → LwR Z q 8 ∧ FOk (gi Z) 8) : (Bk Z ∧ px_KI Z) ∧ gn Z = gn S ∧ gs Z = gs S := by
  obtain ⟨m1, m2, m3, m4, m5, m6⟩ := px_mid h hk hF
  have hg := hk.2.2.2
  have hI := h.2.1.2.2.2.1
  have kV : px_KP S V := m1.trans hVk
  have kx : px_KP S x.2 := kV.trans (px_KP.of hx.1 rfl)
  have k : px_KP S Z := kx.trans (px_KP.of hZ rfl)
  have wV : px_KW px_cl S V := m2.trans (hVc.mono rfl) (by rw [m3]; exact Nat.le_refl _)
  have n7 : ∀ (a : Nat) (j : Int), 70 ≤ a → a ≤ 79 → gi V a j = gi S a j := fun a j h1 h2 => (wV a j (by omega) (px_70 h1 h2 j)).1
  have z7 : ∀ (a : Nat) (j : Int), 70 ≤ a → a ≤ 79 → gi Z a j = gi x.2 a j := fun a j h1 h2 => hZ.i (by rw [rg_big (by omega)]; simp; omega)
  have hS : ∀ f : Int, -1 ≤ f → f < 9 → SEq (gi S) (gi Z) f := fun f h1 h2 => ((px_seq_eq n7).trans (hx.2.seq ⟨h1, h2⟩)).trans (px_seq_eq z7)
  have h18 : gi Z 55 18 = gi S 55 18 := (hZ.i rfl).trans ((hx.1.i rfl).trans (wV 55 18 (by omega) rfl).1)
  have h23 : gi Z 23 2 = gi S 23 2 := (hZ.i rfl).trans ((hx.1.i rfl).trans ((hVc 23 2 (by omega) rfl).1.trans (hF.i rfl)))
  have h71 : ∀ j, gi Z 71 j = gi S 71 j := fun j => (hZ.i rfl).trans ((hx.1.i rfl).trans (n7 71 j (by decide) (by decide)))
  have h72 : ∀ j, gi Z 72 j = gi S 72 j := fun j => (hZ.i rfl).trans ((hx.1.i rfl).trans (n7 72 j (by decide) (by decide)))
  have h30 : gi Z 30 15 = gi S 30 15 := (hZ.i rfl).trans ((hx.1.i rfl).trans ((hVc 30 15 (by omega) rfl).1.trans (hF.i rfl)))
  have i8 := hI.1.1
  have hp : ∀ j, gr Z 29 j = gr S 29 j := fun j => by rw [gr_c hZ.1, gr_c hx.1.1, hV29, m6 29 j (by decide)]
  have rb : px_RB Z := fun j j1 j2 => by
    have r := hx.2.rb (fun i i1 i2 => by rw [n7 75 i (by decide) (by decide), n7 76 i (by decide) (by decide), n7 77 i (by decide) (by decide)]; exact hk.2.2.1 i i1 i2) j j1 j2
    rw [z7 75 j (by decide) (by decide), z7 76 j (by decide) (by decide), z7 77 j (by decide) (by decide)]
    exact r
  have fI : FormI Z := px_form0 hI hg k h18 h23 (fun j _ _ => ⟨h71 j, h72 j⟩) (fun f h1 h2 => hS f h1 (by omega)) hp hb
  refine ⟨⟨px_bk h hg k ⟨(hZ.i rfl).trans ((hx.1.i rfl).trans e7), (hZ.i rfl).trans e19⟩ ?_ fI (px_pas h.2.1 hg k h30 h18 (fun j _ _ => ⟨h71 j, h72 j⟩) (fun f h1 h2 => hS f h1 (by omega))), hk.kp k rb⟩, ?_, ?_⟩
  · rw [show gi Z 0 9 = gi x.2 0 9 from hZ.i rfl, show gi x.2 0 9 = gi V 0 9 from hx.1.i rfl, show gi Z 55 25 = gi x.2 55 25 from hZ.i rfl]
    exact e9
  · rw [gn_c hZ.1, gn_c hx.1.1, hVn.1, m3]
  · rw [gs_c hZ.1, gs_c hx.1.1, hVn.2, m4]
set_option maxHeartbeats 1000000 in
theorem formula_ok (h : Bk S) (hk : px_KI S) (hg : gn S < 900000000) (n y : Int) : Ok3 S (g84 n y) (g157 n y) := by
  have hT := h.2.2.1
  have hD := h.1
  have hD2 := hD.2
  have hI := h.2.1.2.2.2.1
  have i8 := hI.1.1
  have g3 := hk.2.2.2
  by_cases c1 : 0 ≤ n ∧ n ≤ gi S 55 19
  rotate_left
  · refine ok3_same h hk (v := -2) ?_ ?_
    · unfold g84
      rw [hT.1]
      by_cases z : n < 0
      · rw [if_pos z]
      · rw [if_neg z, lt_t, if_pos (by omega)]
    · unfold g157
      rw [lt_t, g112_eq, ob_s]
      dsimp only
      rw [one_f c1, if_pos rfl]
  by_cases c2 : 0 ≤ y ∧ y < 10
  rotate_left
  · refine ok3_same h hk (v := -2) ?_ ?_
    · unfold g84
      rw [hT.1, if_neg (by omega), lt_t, if_neg (by omega), g103_eq, ob_s]
      dsimp only
      rw [one_f c2, if_pos rfl]
    · unfold g157
      rw [lt_t, g112_eq, ob_s]
      dsimp only
      rw [one_t c1, if_neg (by decide), g118_eq hD.2, ob_s]
      dsimp only
      rw [g112_eq, ob_s]
      dsimp only
      rw [one_f (by omega), if_neg (fun z => z rfl)]
  by_cases c3 : gi S 55 0 / 100 ≤ y
  rotate_left
  · refine ok3_same h hk (v := -2) ?_ ?_
    · unfold g84
      rw [hT.1, if_neg (by omega), lt_t, if_neg (by omega), g103_eq, ob_s]
      dsimp only
      rw [one_t c2, if_neg (by decide), lt_t, hD.1, td_pos (by omega), ckI_t (by omega), if_neg c3]
    · unfold g157
      rw [lt_t, g112_eq, ob_s]
      dsimp only
      rw [one_t c1, if_neg (by decide), g118_eq hD.2, ob_s]
      dsimp only
      rw [g112_eq, ob_s]
      dsimp only
      rw [one_f (by omega), if_neg (fun z => z rfl)]
  by_cases c4 : gi S 55 18 = 8
  · refine ok3_same h hk (v := -3) ?_ ?_
    · unfold g84
      rw [hT.1, if_neg (by omega), lt_t, if_neg (by omega), g103_eq, ob_s]
      dsimp only
      rw [one_t c2, if_neg (by decide), lt_t, hD.1, td_pos (by omega), ckI_t (by omega), if_pos c3, lt_t, hI.2.1, if_neg (by omega)]
    · unfold g157
      rw [lt_t, g112_eq, ob_s]
      dsimp only
      rw [one_t c1, if_neg (by decide), g118_eq hD.2, ob_s]
      dsimp only
      rw [g112_eq, ob_s]
      dsimp only
      rw [one_t (by omega), if_pos (by decide), lt_t, if_neg (fun z => z c4)]
  obtain ⟨Y, eY, hF, b1, b2, ref⟩ := px_both h hk c1
  obtain ⟨m1, m2, m3, m4, m5, m6⟩ := px_mid h hk hF
  -- the reference, from a memory on in which nothing that it looks at has changed
  have gd : ∀ V : gM, gi V 55 19 = gi S 55 19 → gi V 55 0 = gi S 55 0 → gi V 55 18 = gi S 55 18 → g157 n y V = (g155 n V).bind fun p9 => if ¬ p9.1 = 0 then w_lt (gi p9.2 55 18) fun V11 => (g156 V11 y p9.2).bind fun p12 => w_lt (gi p12 55 18) fun V13 => w_ckI (V13 + 1) fun V14 => w_lt (wi p12 55 18 V14) fun S15 => w_lt (gi S15 55 18) fun V16 => w_ckI (V16 - 1) fun V17 => some (V17, S15) else some (-1, p9.2) := by
    intro V v1 v2 v3
    unfold g157
    rw [lt_t, g112_eq, ob_s, v1]
    dsimp only
    rw [one_t c1, if_neg (by decide), g118_eq (by rw [v2]; exact hD.2), ob_s, v2]
    dsimp only
    rw [g112_eq, ob_s]
    dsimp only
    rw [one_t (by omega), if_pos (by decide), lt_t, if_pos (by rw [v3]; exact c4)]
  unfold Ok3 g84
  rw [hT.1, if_neg (by omega), lt_t, if_neg (by omega), g103_eq, ob_s]
  dsimp only
  rw [one_t c2, if_neg (by decide), lt_t, hD.1, td_pos (by omega), ckI_t (by omega), if_pos c3, lt_t, hI.2.1, if_pos (by omega), eY, ob_s]
  refine p_lt (p_lt (p_lt ?_))
  have A7 : gi (wi (wi Y.2 0 9 Y.1) 0 7 0) 0 7 = 0 := by simp only [gi_wi, gl_wl, gl_wi, gi_wl, gi_wcl, gl_wcl, Nat.reduceEqDiff, Int.reduceEq, false_and, true_and, and_true, and_false, if_false, if_true]
  have A9 : gi (wi (wi Y.2 0 9 Y.1) 0 7 0) 0 9 = Y.1 := by simp only [gi_wi, gl_wl, gl_wi, gi_wl, gi_wcl, gl_wcl, Nat.reduceEqDiff, Int.reduceEq, false_and, true_and, and_true, and_false, if_false, if_true]
  have FA : Fr [1000000007, 1000000009] Y.2 (wi (wi Y.2 0 9 Y.1) 0 7 0) := (Fr.refl.wi rfl).wi rfl
  generalize wi (wi Y.2 0 9 Y.1) 0 7 0 = A at *
  rw [A9]
  have wA : px_KW px_cl S A := m2.trans ((px_KW.of FA).mono rfl) (by rw [m3]; exact Nat.le_refl _)
  have kA : px_KP S A := m1.trans (px_KP.of FA rfl)
  refine p_if (fun y1 => ?_) (fun y1 => ?_)
  rotate_left
  · -- a fault
    refine p_some ?_
    dsimp only
    obtain ⟨x, ex, k1, k2, k3⟩ := ref A (fun k => (wA 83 k (by omega) rfl).1)
    rw [gd A (wA 55 19 (by omega) rfl).1 (wA 55 0 (by omega) rfl).1 (wA 55 18 (by omega) rfl).1, ex, ob_s]
    rcases k3 with ⟨z, -⟩ | ⟨z1, z2, z3⟩
    · exact absurd z y1
    · rw [if_neg (fun z => z z2)]
      refine p_some ⟨rfl, ?_⟩
      have e26 : gi x.2 55 26 = gi S 55 26 := (k1.1.i rfl).trans (wA 55 26 (by omega) rfl).1
      have e08 : gr x.2 0 8 = gr S 0 8 := by rw [gr_c k1.1.1, gr_c FA.1, m6 0 8 (by decide)]
      have kx : px_KP S x.2 := kA.trans (px_KP.of k1.1 rfl)
      have n7 : ∀ (a : Nat) (j : Int), 70 ≤ a → a ≤ 79 → gi A a j = gi S a j := fun a j h1 h2 => (wA a j (by omega) (px_70 h1 h2 j)).1
      obtain ⟨f1, f2, f3⟩ := px_flt h hk hF (px_KP.of FA rfl) (px_KW.of FA) ⟨gn_c FA.1, gs_c FA.1⟩ (fun j => gr_c FA.1 _ _) k1 (Z := x.2) Fr.refl A7 k2 (A9.trans z3.symm) ⟨by rw [e08, e26]; exact hI.2.2.2.2.1, fun q hq => by
        rw [e08] at hq
        have o := hI.2.2.2.2.2 q hq
        exact px_oldR kx o.1 o.2 (by decide) ((px_seq_eq n7).trans (k1.2.seq (by decide)))⟩
      exact ⟨f1, by rw [f2]; omega, by rw [f3]; omega⟩
  -- taken
  obtain ⟨b1, b1'⟩ := b1 y1
  refine p_call g58_eq ?_
  have B30 : gi (wi A 30 15 0) 30 15 = 0 := by simp only [gi_wi, gl_wl, gl_wi, gi_wl, gi_wcl, gl_wcl, Nat.reduceEqDiff, Int.reduceEq, false_and, true_and, and_true, and_false, if_false, if_true]
  have FB : Fr [1000030015] A (wi A 30 15 0) := Fr.refl.wi rfl
  generalize wi A 30 15 0 = B at *
  have gB : gn B = gn S := by rw [gn_c FB.1, gn_c FA.1, m3]
  have wB : px_KW px_cl S B := wA.trans ((px_KW.of FB).mono rfl) (by rw [gn_c FA.1, m3]; exact Nat.le_refl _)
  have kB : px_KP S B := kA.trans (px_KP.of FB rfl)
  have e16 : gi B 16 7 = gi Y.2 16 7 ∧ gi B 16 6 = gi Y.2 16 6 ∧ gi B 16 8 = gi Y.2 16 8 := ⟨(FB.i rfl).trans (FA.i rfl), (FB.i rfl).trans (FA.i rfl), (FB.i rfl).trans (FA.i rfl)⟩
  have eB : ∀ (q : Nat) (k : Int), (q = 18 ∨ q = 19 ∨ q = 20 ∨ q = 22) → gi B q k = gi Y.2 q k := fun q k hq => by
    rcases hq with z | z | z | z <;> subst z
    · exact (FB.i rfl).trans (FA.i rfl)
    · exact (FB.i rfl).trans (FA.i rfl)
    · exact (FB.i rfl).trans (FA.i rfl)
    · exact (FB.i rfl).trans (FA.i rfl)
  refine p_lt (p_lt (p_lt ?_))
  have c23 : gi (gmk B (.inl 1) (vg_N 1) (fun _ => 0)) 23 2 = gi S 55 18 := by
    show (if 23 = gn B then _ else gi B 23 2) = _
    rw [if_neg (by omega), show gi B 23 2 = gi S 23 2 from (FB.i rfl).trans ((FA.i rfl).trans (hF.i rfl)), hI.2.1]
  have c10 : gi (gmk B (.inl 1) (vg_N 1) (fun _ => 0)) 0 10 = gi S 55 0 := by
    show (if 0 = gn B then _ else gi B 0 10) = _
    rw [if_neg (by omega), show gi B 0 10 = gi S 0 10 from (wB 0 10 (by omega) rfl).1, hD.1]
  rw [c23, c10]
  have lB : ∀ q a, gln B q a = gln S q a := fun q a => by rw [gln_c FB.1, gln_c FA.1, m5]
  have b7 := e16.1
  have b6 := e16.2.1
  refine p_bind (p_imp (px_law_w (S := B) (gi S 55 18) y (gi S 55 0) (by rw [gB]; exact g3) (by rw [lB, lB, lB, lB]; exact hk.2.1) (by rw [b7]; exact b1) (by rw [b6]; exact b1')) (fun N hN => ?_))
  have n0 := hN
  obtain ⟨n1, n2, n3, n4, n5, n6, n7, n8, -⟩ := hN
  have N23 : gi N 23 2 = gi S 55 18 := ((n4 23 2 (Or.inl (by omega))).1).trans ((FB.i rfl).trans ((FA.i rfl).trans ((hF.i rfl).trans hI.2.1)))
  -- into the row of laws
  unfold g55
  refine p_bind ?_
  refine p_lt ?_
  rw [N23, if_pos (by omega)]
  refine p_lt (p_chk (by omega) (p_chk n5 (p_lt (p_lt ?_))))
  have M23 : gi (wr N 29 (gi S 55 18).toNat (some (gn B))) 23 2 = gi S 55 18 := N23
  rw [M23]
  refine p_ckI (by omega) (p_lt (p_some ?_))
  dsimp only
  refine p_some ?_
  dsimp only
  have V23 : gi (wi (wr N 29 (gi S 55 18).toNat (some (gn B))) 23 2 (gi S 55 18 + 1)) 23 2 = gi S 55 18 + 1 := by simp only [gi_wi, gl_wl, gl_wi, gi_wl, gi_wcl, gl_wcl, Nat.reduceEqDiff, Int.reduceEq, false_and, true_and, and_true, and_false, if_false, if_true]
  have FV : Fr [23] (wr N 29 (gi S 55 18).toNat (some (gn B))) (wi (wr N 29 (gi S 55 18).toNat (some (gn B))) 23 2 (gi S 55 18 + 1)) := Fr.refl.wi rfl
  have V29 : ∀ j, gr (wi (wr N 29 (gi S 55 18).toNat (some (gn B))) 23 2 (gi S 55 18 + 1)) 29 j = if j = (gi S 55 18).toNat then some (gn B) else gr N 29 j := fun j => by
    show gr (wr N 29 (gi S 55 18).toNat (some (gn B))) 29 j = _
    rw [gr_wr]
    simp only [true_and]
  have Vr : ∀ q j, ¬ q = 29 → gr (wi (wr N 29 (gi S 55 18).toNat (some (gn B))) 23 2 (gi S 55 18 + 1)) q j = gr N q j := fun q j hq => by
    show gr (wr N 29 (gi S 55 18).toNat (some (gn B))) q j = _
    rw [gr_wr, if_neg (fun z => hq z.1)]
  have Vo : ∀ q a, gob (wi (wr N 29 (gi S 55 18).toNat (some (gn B))) 23 2 (gi S 55 18 + 1)) q a = gob N q a := fun _ _ => rfl
  have Vl : ∀ q a, gln (wi (wr N 29 (gi S 55 18).toNat (some (gn B))) 23 2 (gi S 55 18 + 1)) q a = gln N q a := fun _ _ => rfl
  have Vn : gn (wi (wr N 29 (gi S 55 18).toNat (some (gn B))) 23 2 (gi S 55 18 + 1)) = gn S + 5 := by rw [← gB]; exact n1
  have Vs : gs (wi (wr N 29 (gi S 55 18).toNat (some (gn B))) 23 2 (gi S 55 18 + 1)) ≤ gs S + 900 := by
    show gs N ≤ _
    rw [n2, gs_c FB.1, gs_c FA.1, m4, b7, b6]
    omega
  have Vc : ∀ q k, ¬ q = 23 → gi (wi (wr N 29 (gi S 55 18).toNat (some (gn B))) 23 2 (gi S 55 18 + 1)) q k = gi N q k := fun q k hq => by
    rw [gi_wi, if_neg (fun z => hq z.1)]; rfl
  have kV : px_KP S (wi (wr N 29 (gi S 55 18).toNat (some (gn B))) 23 2 (gi S 55 18 + 1)) := ((kB.trans (px_KP.gw n3 (fun q k hq => n4 q k (Or.inl hq)))).trans (px_KP.wr 29 _ _ (by decide))).trans (px_KP.of FV rfl)
  have wN : px_KW px_cl S N := wB.trans (fun q k hq _ => n4 q k (Or.inl hq)) (by rw [gB]; exact Nat.le_refl _)
  have wV : px_KW px_cl S (wi (wr N 29 (gi S 55 18).toNat (some (gn B))) 23 2 (gi S 55 18 + 1)) := fun q k hq hw => by
    have z := (px_KW.of FV).mono (W' := px_cl) rfl q k (by show q < gn N; omega) hw
    have z2 := wN q k hq hw
    exact ⟨z.1.trans z2.1, z.2.trans z2.2⟩
  have V30 : gi (wi (wr N 29 (gi S 55 18).toNat (some (gn B))) 23 2 (gi S 55 18 + 1)) 30 15 = 0 := (Vc 30 15 (by decide)).trans ((n4 30 15 (Or.inl (by omega))).1.trans B30)
  have V7 : gi (wi (wr N 29 (gi S 55 18).toNat (some (gn B))) 23 2 (gi S 55 18 + 1)) 0 7 = 0 := (Vc 0 7 (by decide)).trans ((n4 0 7 (Or.inl (by omega))).1.trans ((FB.i rfl).trans A7))
  have V9 : gi (wi (wr N 29 (gi S 55 18).toNat (some (gn B))) 23 2 (gi S 55 18 + 1)) 0 9 = Y.1 := (Vc 0 9 (by decide)).trans ((n4 0 9 (Or.inl (by omega))).1.trans ((FB.i rfl).trans A9))
  have VN : ∀ (j : Nat) (k : Int), j ≤ 4 → gi (wi (wr N 29 (gi S 55 18).toNat (some (gn B))) 23 2 (gi S 55 18 + 1)) (gn B + j) k = gi N (gn B + j) k := fun j k _ => Vc _ k (by omega)
  generalize wi (wr N 29 (gi S 55 18).toNat (some (gn B))) 23 2 (gi S 55 18 + 1) = V at *
  clear FV
  obtain ⟨x, ex, k1, k2, k3⟩ := ref V (fun k => (wV 83 k (by omega) rfl).1)
  rw [gd V (wV 55 19 (by omega) rfl).1 (wV 55 0 (by omega) rfl).1 (wV 55 18 (by omega) rfl).1, ex, ob_s]
  rcases k3 with ⟨z1, z2, z3, cd, i, C, D, z4, z5, z6, z7⟩ | ⟨z1, -⟩
  rotate_left
  · omega
  rw [if_pos (by omega)]
  have x18 : gi x.2 55 18 = gi S 55 18 := (k1.1.i rfl).trans (wV 55 18 (by omega) rfl).1
  have s7 : ∀ (a : Nat) (j : Int), 70 ≤ a → a ≤ 79 → gi V a j = gi S a j := fun a j h1 h2 => (wV a j (by omega) (px_70 h1 h2 j)).1
  have rbV : px_RB V := fun j j1 j2 => by
    rw [s7 75 j (by decide) (by decide), s7 76 j (by decide) (by decide), s7 77 j (by decide) (by decide)]
    exact hk.2.2.1 j j1 j2
  refine p_lt ?_
  rw [x18]
  refine p_bind (p_imp (px_156_w (T := x.2) (f := gi S 55 18) (y := y) (m := i) (L := cd.length) (by omega) ⟨z4, z6⟩ ⟨C.2.1, by omega⟩ (k1.2.rb rbV)) (fun T hE => ?_))
  have t18 : gi T 55 18 = gi S 55 18 := (hE.1.i rfl).trans x18
  refine p_lt ?_
  rw [t18]
  refine p_ckI (by omega) (p_lt (p_lt ?_))
  have u18 : gi (wi T 55 18 (gi S 55 18 + 1)) 55 18 = gi S 55 18 + 1 := by simp only [gi_wi, gl_wl, gl_wi, gi_wl, gi_wcl, gl_wcl, Nat.reduceEqDiff, Int.reduceEq, false_and, true_and, and_true, and_false, if_false, if_true]
  have FU : Fr [1000055018] T (wi T 55 18 (gi S 55 18 + 1)) := Fr.refl.wi rfl
  rw [u18]
  generalize wi T 55 18 (gi S 55 18 + 1) = U at *
  refine p_ckI (by omega) (p_some ⟨by show gi S 55 18 + 1 - 1 = gi S 55 18; omega, ?_⟩)
  show (Bk U ∧ px_KI U) ∧ gn U ≤ gn S + 5 ∧ gs U ≤ gs S + 900
  obtain ⟨⟨R1, R2⟩, R3, R4, R5⟩ := px_new (by omega) C D z6 z7 z5 e16 eB n0 (by rw [gB]; exact ⟨g3, hg⟩) VN (Vo _ _) (fun k => Vr _ k (by omega)) (fun j => Vl _ _) (k1.1.mono rfl) hE
  have kT : px_KP S T := (kV.trans (px_KP.of k1.1 rfl)).trans (px_KP.of hE.1 rfl)
  have kU : px_KP S U := kT.trans (px_KP.of FU rfl)
  have u7 : ∀ (a : Nat) (j : Int), 70 ≤ a → a ≤ 79 → gi U a j = gi T a j := fun a j h1 h2 => FU.i (by rw [rg_big (by omega)]; simp; omega)
  have seq : ∀ f : Int, -1 ≤ f → f < 9 → ¬ f = gi S 55 18 → SEq (gi S) (gi U) f := fun f h1 h2 h3 => (((px_seq_eq s7).trans (k1.2.seq ⟨h1, h2⟩)).trans (hE.oth (by omega) z6 (by omega) ⟨h1, h2⟩ h3)).trans (px_seq_eq u7)
  have RU := px_oldR (px_KP.of FU rfl) R1 R2 (by omega) (px_seq_eq u7)
  have bu : ∀ k, gi U (gn B) k = gi T (gn B) k := fun k => FU.i (by rw [rg_big (by omega)]; simp; omega)
  have u71 : ∀ k, gi U 71 k = if k = gi S 55 18 then y else gi S 71 k := fun k => by
    rw [u7 71 k (by decide) (by decide), hE.2.1.2.1 k, show gi x.2 71 k = gi V 71 k from k1.1.i rfl, s7 71 k (by decide) (by decide)]
  have x0 : gi x.2 55 0 = gi S 55 0 := (k1.1.i rfl).trans (wV 55 0 (by omega) rfl).1
  have u72 : ∀ k, gi U 72 k = if k = gi S 55 18 then gi S 55 0 else gi S 72 k := fun k => by
    rw [u7 72 k (by decide) (by decide), hE.2.1.2.2 k, show gi x.2 72 k = gi V 72 k from k1.1.i rfl, s7 72 k (by decide) (by decide), x0]
  have rU : ∀ q j, gr U q j = gr V q j := fun q j => by rw [gr_c FU.1, gr_c hE.1.1, gr_c k1.1.1]
  have r29 : ∀ j : Nat, gr U 29 j = if j = (gi S 55 18).toNat then some (gn B) else gr S 29 j := fun j => by
    rw [rU, V29, n3.2.2.2 29 j (by omega), gr_c FB.1, gr_c FA.1, m6 29 j (by decide)]
  have r08 : gr U 0 8 = gr S 0 8 := by rw [rU, Vr 0 8 (by decide), n3.2.2.2 0 8 (by omega), gr_c FB.1, gr_c FA.1, m6 0 8 (by decide)]
  have u26 : gi U 55 26 = gi S 55 26 := (FU.i rfl).trans ((hE.1.i rfl).trans ((k1.1.i rfl).trans (wV 55 26 (by omega) rfl).1))
  have fI : FormI U := by
    refine px_form1 hI g3 kU (by omega) u18 ?_ (fun j a b => ?_) (fun f h1 h2 => seq f h1 (by omega) (by omega)) r29 ⟨RU.1, RU.2⟩ ⟨?_, ?_, ?_⟩ ⟨?_, ?_⟩ ⟨by rw [r08, u26]; exact hI.2.2.2.2.1, fun q hq => ?_⟩
    · rw [show gi U 23 2 = gi T 23 2 from FU.i rfl, show gi T 23 2 = gi x.2 23 2 from hE.1.i rfl, show gi x.2 23 2 = gi V 23 2 from k1.1.i rfl]
      exact V23
    · rw [u71, u72, if_neg (by omega), if_neg (by omega)]
      exact ⟨rfl, rfl⟩
    · rw [bu, R3]
    · rw [bu, R4, u71, if_pos rfl]
    · rw [bu, R5, u72, if_pos rfl]
    · rw [u71, if_pos rfl]; exact c2
    · rw [u72, if_pos rfl]; exact hD.2
    · rw [r08] at hq
      have o := hI.2.2.2.2.2 q hq
      exact px_oldR kU o.1 o.2 (by decide) (seq 8 (by decide) (by decide) (by omega))
  have U30 : gi U 30 15 = 0 := (FU.i rfl).trans ((hE.1.i rfl).trans ((k1.1.i rfl).trans V30))
  refine ⟨⟨px_bk h g3 kU ⟨?_, ?_⟩ ?_ fI (PasI.zero U30), hk.kp kU (fun j j1 j2 => ?_)⟩, ?_, ?_⟩
  · exact (FU.i rfl).trans ((hE.1.i rfl).trans ((k1.1.i rfl).trans V7))
  · exact (FU.i rfl).trans ((hE.1.i rfl).trans k2)
  · rw [show gi U 0 9 = gi V 0 9 from (FU.i rfl).trans ((hE.1.i rfl).trans (k1.1.i rfl)), show gi U 55 25 = gi x.2 55 25 from (FU.i rfl).trans (hE.1.i rfl), V9, y1, z3]
  · rw [u7 75 j (by decide) (by decide), u7 76 j (by decide) (by decide), u7 77 j (by decide) (by decide), hE.2.2.1.2.2.1 j, hE.2.2.1.2.2.2.1 j, hE.2.2.1.2.2.2.2 j, px_cpy_o _ (by omega), px_cpy_o _ (by omega), px_cpy_o _ (by omega)]
    exact k1.2.rb rbV j j1 j2
  · rw [gn_c FU.1, gn_c hE.1.1, gn_c k1.1.1, Vn]; exact Nat.le_refl _
  · rw [gs_c FU.1, gs_c hE.1.1, gs_c k1.1.1]; exact Vs
end OF
