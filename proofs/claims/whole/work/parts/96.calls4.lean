/-! calls: a sum beside, losers -/
section C4
variable {S S1 S2 : gM}
theorem ref_8 (h : ClsI S) (hD : DayI S) (hF : FOk (gi S) 8) (hS : Fr frZ S S1) (h1 : ClsI S1) {y : Nat} (hy : y ≤ 9) : Wp (fun S2 => Fr frZ S S2 ∧ ClsI S2 ∧ RowY S S2 y 8 (gi S 0 10) (-1) (-1) ∧ Fr frB S1 S2) (g187 y S1) := by
  have sc : Sc S S1 := hS.mono rfl
  unfold g187
  refine p_use (g176_w h1.1 h1.2.2.2.1 hy) (fun S2 h2 => ?_)
  have F1 : FOk (gi S1) 8 := FOk_c (sc.seq 8) hF
  rw [lt_t, show gi S2 55 0 = gi S1 55 0 from h2.1.i rfl, show gi S1 55 0 = gi S 0 10 from (hS.i rfl).trans hD.1.symm]
  refine p_use (g170_y (d := gi S 0 10) (es := -1) (em := -1) h1.1 h1.2.2.2.1 hy F1 (by omega) h2.1 h2.2) (fun S3 h3 => ?_)
  exact p_some ⟨hS.trans (h3.1.1.mono rfl), h1.st h3.1.1 rfl rfl ⟨⟨rfl, rfl⟩, rfl⟩, RowY.sc sc h.2.2.2.1 hy hF (by omega) h3.1.2, h3.1.1⟩
theorem cls_8 (h : ClsI S) {q : Nat} (hq : gr S 0 8 = some q) (hS : Fr frZ S S1) (h1 : ClsI S1) {y : Nat} (hy : y ≤ 9) {d : Int} : Wp (fun S2 => Fr frZ S S2 ∧ ClsI S2 ∧ CTy S S2 8 d y (-1) (-1) ∧ Fr frD S1 S2) (g60 q y d S1) := by
  have sc : Sc S S1 := hS.mono rfl
  have hd := h.2.2.2.1.2.2.2.2.2 q hq
  have L : LwF S q 8 := ⟨hd.1, hd.2, by omega, by omega⟩
  refine p_imp (g60_w (d := d) h1 (L.sc sc) hy) (fun S2 h2 => ⟨hS.trans (h2.1.mono rfl), h2.2.1, ?_, h2.1⟩)
  exact CTy.sc sc h.2.2.2.1 hy hd.2 (by omega) h2.2.2
theorem other_pr (h : ClsI S) (hD : DayI S) (s y : Int) : Pr S (g95 s y) (g188 s y) := by
  have n12 := h.1.n12
  have h17 := h.1.2.1.1.2.2.1
  have hI5 := h.2.2.2.1.2.2.2.2
  unfold Pr g95
  rw [lt_t]
  cases hq : gr S 0 8 with
  | none =>
    have e26 : gi S 55 26 = 0 := hI5.1.mp hq
    refine pr_no h ?_
    unfold g188
    rw [lt_t, if_pos e26]
  | some q =>
    have e26 : ¬ gi S 55 26 = 0 := fun z => by rw [hI5.1.mpr z] at hq; cases hq
    have hF := (hI5.2 q hq).2
    dsimp only
    rw [g105_eq, ob_s, h17]
    dsimp only
    by_cases c1 : 0 ≤ s ∧ s < gi S 55 1
    · rw [one_t c1, if_neg (by decide), g103_eq, ob_s]
      dsimp only
      by_cases c2 : 0 ≤ y ∧ y < 10
      · rw [one_t c2, if_pos (by decide), lt_t, lt_t, hq, ob_s]
        obtain ⟨y, rfl⟩ : ∃ k : Nat, y = k := ⟨y.toNat, by omega⟩
        refine p_use (cls_8 (d := gi S 0 10) h hq Fr.refl h (by omega)) (fun S1 h1 => ?_)
        rw [chk_t (by omega), lt_t]
        refine p_some ?_
        have e1 : gi S1 55 1 = gi S 55 1 := h1.1.i rfl
        unfold g188
        dsimp only
        rw [lt_t, show gi S1 55 26 = gi S 55 26 from h1.1.i rfl, if_neg e26, g116_eq _ (by rw [e1]; exact n12), ob_s, e1, one_t c1]
        dsimp only
        rw [if_neg (by decide), g115_eq, ob_s, one_t c2]
        dsimp only
        rw [if_pos (by decide)]
        refine p_use (ref_8 h hD hF h1.1 h1.2.1 (by omega)) (fun S2 h2 => ?_)
        rw [chk_t (by omega), lt_t]
        refine p_some ⟨?_, h2.1, h2.2.1⟩
        show gl S2 89 s = gl S1 41 s
        rw [(h2.2.2.1 s c1.1 c1.2).2.2.2.1, (h1.2.2.1 s c1.1 (by omega)).2.2.2.2, ifp_t c1.2]
      · rw [one_f c2, if_neg (by decide)]
        refine pr_no h ?_
        simp [g188, e26, g116_eq _ n12, g115_eq, one_t c1, one_f c2, lt_t]
    · rw [one_f c1, if_pos (by decide)]
      refine pr_no h ?_
      simp [g188, e26, g116_eq _ n12, one_f c1, lt_t]
theorem g96_l69_w {A B : Int → Int} (hA : ∀ j : Int, 0 ≤ j → j < 12 → gl S 41 j = A j ∧ gl S 42 j = B j) : g96_l69 100000 0 0 S = some (sm (fun j => one (A j < B j)) 12, S) := by
  refine p_eq ?_
  have key := upto 12 (fun n k => Wp (fun z => z = (sm (fun j => one (A j < B j)) 12, S)) (g96_l69 n (sm (fun j => one (A j < B j)) k) k S)) ?_ 100000 0 (Nat.zero_le _) (by omega)
  · exact key
  intro n k hk ih
  dsimp only [g96_l69]
  refine p_if (fun hc => ?_) (fun hc => ?_)
  · have : k = 12 := by omega
    rw [this]; exact p_some rfl
  have h := hA k (by omega) (by omega)
  have b := sm_rng (f := fun j => one (A j < B j)) 0 1 k (fun j _ => one_rng _)
  have ih := ih (by omega)
  rw [sm_s _ k] at ih
  rw [chk_t (by omega), lt_t, chk_t (by omega), lt_t, h.1, h.2]
  refine p_if (fun c => ?_) (fun c => ?_)
  · rw [one_f (by omega), Int.add_zero] at ih
    rw [ckI_t (by omega)]; exact ih
  · rw [one_t (by omega)] at ih
    rw [ckI_t (by omega), ckI_t (by omega)]; exact ih
theorem g113_eq2 (a : Int) {S : gM} : g113 a S = some (one (¬ a = 0), S) := g113_eq a
theorem g189_l62_w {y : Int} {A B : Int → Int} {n : Int} (hn : gi S 55 1 = n) (h0 : 0 ≤ n ∧ n ≤ 12) (hA : ∀ j : Int, 0 ≤ j → j < n → gl S 89 j = A j ∧ gl S 93 j = B j) : g189_l62 y 100000 0 0 S = some (sm (fun j => one (y < gi S 67 j ∧ A j < B j)) n.toNat, S) := by
  refine p_eq ?_
  have key := upto n.toNat (fun m k => Wp (fun z => z = (sm (fun j => one (y < gi S 67 j ∧ A j < B j)) n.toNat, S)) (g189_l62 y m (sm (fun j => one (y < gi S 67 j ∧ A j < B j)) k) k S)) ?_ 100000 0 (Nat.zero_le _) (by omega)
  · exact key
  intro m k hk ih
  dsimp only [g189_l62]
  rw [lt_t, hn]
  refine p_if (fun hc => ?_) (fun hc => ?_)
  · have : k = n.toNat := by omega
    rw [this]; exact p_some rfl
  have h := hA k (by omega) (by omega)
  have b := sm_rng (f := fun j => one (y < gi S 67 j ∧ A j < B j)) 0 1 k (fun j _ => one_rng _)
  have ih := ih (by omega)
  rw [sm_s] at ih
  refine p_call (g122_eq k y (by omega)) ?_
  dsimp only
  refine p_if1 (fun ho => ?_) (fun ho => ?_)
  · rw [chk_t (by omega), lt_t, chk_t (by omega), lt_t, h.1, h.2]
    refine p_if (fun c => ?_) (fun c => ?_)
    · rw [one_f (fun z => by have := z.2; omega), Int.add_zero] at ih
      refine p_call (g113_eq 0) ?_
      dsimp only
      rw [one_f (fun z => z rfl), ckI_t (by omega), ckI_t (by omega), Int.add_zero]; exact ih
    · rw [one_t ⟨ho, by omega⟩] at ih
      refine p_call (g113_eq 1) ?_
      dsimp only
      rw [one_t (by decide), ckI_t (by omega), ckI_t (by omega)]; exact ih
  · rw [one_f (fun z => ho z.1), Int.add_zero] at ih
    refine p_call (g113_eq 0) ?_
    dsimp only
    rw [one_f (fun z => z rfl), ckI_t (by omega), ckI_t (by omega), Int.add_zero]; exact ih
theorem g189_copy {Q : Int × gM → Prop} {K : gM → Option (Int × gM)} {y : Int} {n : Int} {A : Int → Int} (hn : gi S1 55 1 = n) (h0 : 0 ≤ n ∧ n ≤ 12) (hA : ∀ j : Int, 0 ≤ j → j < n → gl S1 89 j = A j) (hK : ∀ S, Fr [93] S1 S → (∀ j : Int, 0 ≤ j → j < n → gl S 93 j = A j) → Wp Q (K S)) : Wp Q (g189_l27 y K 100000 0 S1) := by
  have key := upto n.toNat (fun m k => ∀ S, Fr [93] S1 S → (∀ j : Int, 0 ≤ j → j < k → gl S 93 j = A j) → Wp Q (g189_l27 y K m k S)) ?_ 100000 0 (Nat.zero_le _) (by omega) S1 Fr.refl (fun j a b => by omega)
  · exact key
  intro m k hk ih S hS hT
  dsimp only [g189_l27]
  rw [lt_t, show gi S 55 1 = n from (hS.i rfl).trans hn]
  refine p_if (fun hc => ?_) (fun hc => ?_)
  · exact hK S hS (fun j a b => hT j a (by omega))
  rw [chk_t (by omega), lt_t, show gl S 89 k = A k from (hS.l rfl).trans (hA k (by omega) (by omega)), chk_t (by omega), lt_t, ckI_t (by omega)]
  refine ih (by omega) _ (hS.wl rfl) (fun j a b => ?_)
  rw [gl_wl]
  by_cases hj : j = k
  · rw [if_pos ⟨rfl, hj⟩, hj]
  · rw [if_neg (fun w => hj w.2)]; exact hT j a (by omega)
theorem losers_pr (h : ClsI S) (hD : DayI S) (y : Int) : Pr S (g96 y) (g189 y) := by
  have n12 := h.1.n12
  have hI5 := h.2.2.2.1.2.2.2.2
  unfold Pr g96
  rw [lt_t]
  cases hq : gr S 0 8 with
  | none =>
    have e26 : gi S 55 26 = 0 := hI5.1.mp hq
    refine pr_no h ?_
    unfold g189
    rw [lt_t, if_pos e26]
  | some q =>
    have e26 : ¬ gi S 55 26 = 0 := fun z => by rw [hI5.1.mpr z] at hq; cases hq
    have hF := (hI5.2 q hq).2
    have hd0 : 0 ≤ gi S 0 10 := by rw [hD.1]; exact hD.2.1
    dsimp only
    rw [g103_eq, ob_s]
    dsimp only
    by_cases c2 : 0 ≤ y ∧ y < 10
    · rw [one_t c2, if_pos (by decide), lt_t]
      obtain ⟨y, rfl⟩ : ∃ k : Nat, y = k := ⟨y.toNat, by omega⟩
      have ok := inF_ok h.2.2.2.1 (y := y) (d := gi S 0 10) (by omega) hd0
      refine p_use (cls_y h Fr.refl h (by omega) hd0) (fun S1 h1 => ?_)
      rw [chk_t (by omega), lt_t, lt_t, lt_t]
      have f2 : Fr [42] S1 (wcl S1 41 42 0 0 12) := Fr.refl.wcl (fun _ => rfl)
      have F2 : Fr frZ S (wcl S1 41 42 0 0 12) := h1.1.trans (f2.mono rfl)
      have C2 : ClsI (wcl S1 41 42 0 0 12) := h1.2.1.st f2 rfl rfl ⟨⟨rfl, rfl⟩, rfl⟩
      have e42 : ∀ j : Int, 0 ≤ j → j < 12 → gl (wcl S1 41 42 0 0 12) 42 j = ifp (j < gi S 55 1) (suY S y (gi S 0 10) j) := fun j a b => by
        rw [gl_wcl, if_pos ⟨rfl, a, by omega⟩, show 0 + (j - 0) = j by omega, (h1.2.2.1 j a b).2.2.2.2]
        rfl
      generalize wcl S1 41 42 0 0 12 = SB at *
      rw [show gr SB 0 8 = some q from (gr_c F2.1 _ _).trans hq, ob_s, show gi SB 0 10 = gi S 0 10 from F2.i rfl]
      refine p_use (cls_8 (d := gi S 0 10) h hq F2 C2 (by omega)) (fun S3 h3 => ?_)
      rw [g96_l69_w (A := fun j => ifp (j < gi S 55 1) (suS (cor S) (gi S) 8 y (gi S 0 10) (laV (cor S) (gi S) y) (thV (cor S) y) (-1) (-1) j)) (B := fun j => ifp (j < gi S 55 1) (suY S y (gi S 0 10) j)) (fun j a b => ⟨(h3.2.2.1 j a b).2.2.2.2, (h3.2.2.2.l rfl).trans (e42 j a b)⟩)]
      refine p_some ?_
      unfold g189
      dsimp only
      rw [lt_t, show gi S3 55 26 = gi S 55 26 from h3.1.i rfl, if_neg e26, g115_eq, ob_s, one_t c2]
      dsimp only
      rw [if_pos (by decide), lt_t, show gi S3 55 0 = gi S 0 10 from (h3.1.i rfl).trans hD.1.symm]
      refine p_use (ref_y h h3.1 h3.2.1 (by omega) hd0) (fun S4 h4 => ?_)
      refine g189_copy (A := fun j => suY S y (gi S 0 10) j) (show gi S4 55 1 = gi S 55 1 from h4.1.i rfl) n12 (fun j a b => (h4.2.2.1 j a b).2.2.2.1) ?_
      intro S5 f5 h93
      have F5 : Fr frZ S S5 := h4.1.trans (f5.mono rfl)
      refine p_use (ref_8 h hD hF F5 (h4.2.1.st f5 rfl rfl ⟨⟨rfl, rfl⟩, rfl⟩) (by omega)) (fun S6 h6 => ?_)
      rw [g189_l62_w (A := fun j => suS (cor S) (gi S) 8 y (gi S 0 10) (laV (cor S) (gi S) y) (thV (cor S) y) (-1) (-1) j) (B := fun j => suY S y (gi S 0 10) j) (show gi S6 55 1 = gi S 55 1 from h6.1.i rfl) n12 (fun j a b => ⟨(h6.2.2.1 j a b).2.2.2.1, (h6.2.2.2.l rfl).trans (h93 j a b)⟩)]
      refine p_some ⟨?_, h6.1, h6.2.1⟩
      show sm _ _ = sm _ _
      rw [sm_ext (n := (gi S 55 1).toNat) (m := 12) (by omega) (fun j a b => by rw [ifp_f (by omega), ifp_f (by omega)]; exact one_f (by omega))]
      refine sm_congr _ (fun j hj => ?_)
      rw [ifp_t (by omega), ifp_t (by omega), show gi S6 67 j = gi S 67 j from h6.1.i rfl]
      by_cases ho : (y : Int) < gi S 67 j
      · exact one_c ⟨fun z => z.2, fun z => ⟨ho, z⟩⟩
      · rw [one_f (fun z => ho z.1), one_f]
        unfold suY suS
        rw [co67, ifp_f ho, ifp_f ho]
        omega
    · rw [one_f c2, if_neg (by decide)]
      refine pr_no h ?_
      simp [g189, e26, g115_eq, one_f c2, lt_t]
end C4
