/-! calls: sum, all, a sum beside, an edge -/
abbrev frZ : List Nat := [8, 10, 32, 33, 34, 35, 36, 37, 38, 39, 40, 41, 42, 43, 44, 68, 69, 81, 82, 85, 86, 87, 88, 89, 90, 91, 92, 93, 1000030015, 1000030016, 1000030017, 1000030018]
/-- class and reference answer alike, nothing but scratch is touched -/
def Pr (S : gM) (fc fr : gM → Option (Int × gM)) : Prop := Wp (fun r => Wp (fun r2 => r2.1 = r.1 ∧ Fr frZ S r2.2 ∧ ClsI r2.2) (fr r.2)) (fc S)
section C1
variable {S S1 S2 : gM}
theorem RowY.sc (h : Sc S S1) (hI : FormI S) {y : Nat} (hy : y ≤ 9) {f d es em : Int} (hF : FOk (gi S) f) (hf : -1 ≤ f) (hR : RowY S1 S2 y f d es em) : RowY S S2 y f d es em := fun j a b => by
  have hR := hR j a (by rw [show gi S1 55 1 = gi S 55 1 from h.i rfl]; exact b)
  have e := suS_c (cor S) (h.seq f) hF hf y d (laV (cor S) (gi S) y) (thV (cor S) y) es em j
  rw [funext (h.pasE hI (y := y) (by omega)).2, h.cE, show gi S1 67 j = gi S 67 j from h.i rfl, ← e.1, ← e.2.1, ← e.2.2.1, ← e.2.2.2.1] at hR
  exact ⟨hR.1, hR.2.1, hR.2.2.1, hR.2.2.2.1, fun r u v => by rw [hR.2.2.2.2 r u v, e.2.2.2.2]⟩
theorem Beg.sc (h : Sc S S1) (hI : FormI S) {y : Nat} (hy : y ≤ 9) (hR : Beg S1 S2 y) : Beg S S2 y := fun j a b => by
  have hR := hR j a (by rw [show gi S1 55 1 = gi S 55 1 from h.i rfl]; exact b)
  rw [funext (h.pasE hI (y := y) (by omega)).2, h.cE] at hR
  exact hR
theorem CTy.sc (h : Sc S S1) (hI : FormI S) {y : Nat} (hy : y ≤ 9) {f d es em : Int} (hF : FOk (gi S) f) (hf : -1 ≤ f) (hR : CTy S1 S2 f d y es em) : CTy S S2 f d y es em := by
  unfold CTy at *
  rw [funext (h.pasE hI (y := y) (by omega)).2, h.cE] at hR
  exact CT.sc h hF hf hR
theorem cls_y (h : ClsI S) (hS : Fr frZ S S1) (h1 : ClsI S1) {y : Nat} (hy : y ≤ 9) {d : Int} (hd : 0 ≤ d) : Wp (fun S2 => Fr frZ S S2 ∧ ClsI S2 ∧ CTy S S2 (inF (gi S) y d) d y (-1) (-1) ∧ Fr frD S1 S2) (g59 y d S1) := by
  have sc : Sc S S1 := hS.mono rfl
  have ok := inF_ok h.2.2.2.1 (y := y) (d := d) (by omega) hd
  refine p_imp (g59_w h1 hy hd) (fun S2 h2 => ⟨hS.trans (h2.1.mono rfl), h2.2.1, ?_, h2.1⟩)
  have c := h2.2.2
  rw [sc.inF] at c
  exact CTy.sc sc h.2.2.2.1 hy ok.1 ok.2.1 c
theorem ref_y (h : ClsI S) (hS : Fr frZ S S1) (h1 : ClsI S1) {y : Nat} (hy : y ≤ 9) {d : Int} (hd : 0 ≤ d) : Wp (fun S2 => Fr frZ S S2 ∧ ClsI S2 ∧ RowY S S2 y (inF (gi S) y d) d (-1) (-1) ∧ Beg S S2 y ∧ Fr frB S1 S2) (g177 y d S1) := by
  have sc : Sc S S1 := hS.mono rfl
  have ok := inF_ok h.2.2.2.1 (y := y) (d := d) (by omega) hd
  refine p_imp (g177_w h1.1 h1.2.2.2.1 hy hd) (fun S2 h2 => ⟨hS.trans (h2.1.1.mono rfl), h1.st h2.1.1 rfl rfl ⟨⟨rfl, rfl⟩, rfl⟩, ?_, Beg.sc sc h.2.2.2.1 hy h2.2, h2.1.1⟩)
  have c := h2.1.2
  rw [sc.inF] at c
  exact RowY.sc sc h.2.2.2.1 hy ok.1 ok.2.1 c
theorem pr_no (h : ClsI S) {x : Int} {fr : gM → Option (Int × gM)} (hr : fr S = some (x, S)) : Wp (fun r => Wp (fun r2 => r2.1 = r.1 ∧ Fr frZ S r2.2 ∧ ClsI r2.2) (fr r.2)) (some (x, S)) := p_some ⟨_, hr, rfl, Fr.refl, h⟩
theorem sum_pr (h : ClsI S) (s y d : Int) : Pr S (g88 s y d) (g178 s y d) := by
  have n12 := h.1.n12
  have h17 := h.1.2.1.1.2.2.1
  unfold Pr g88
  rw [g105_eq, ob_s, h17]
  dsimp only
  by_cases c1 : 0 ≤ s ∧ s < gi S 55 1
  · rw [one_t c1, if_neg (by decide), g103_eq, ob_s]
    dsimp only
    by_cases c2 : 0 ≤ y ∧ y < 10
    · rw [one_t c2, if_neg (by decide), g104_eq, ob_s]
      dsimp only
      by_cases c3 : 0 ≤ d ∧ d ≤ 999
      · rw [one_t c3, if_pos (by decide)]
        obtain ⟨y, rfl⟩ : ∃ k : Nat, y = k := ⟨y.toNat, by omega⟩
        refine p_use (cls_y h Fr.refl h (by omega) c3.1) (fun S1 h1 => ?_)
        rw [chk_t (by omega), lt_t]
        refine p_some ?_
        have e1 : gi S1 55 1 = gi S 55 1 := h1.1.i rfl
        unfold g178
        dsimp only
        rw [g116_eq _ (by rw [e1]; exact n12), ob_s, e1, one_t c1]
        dsimp only
        rw [if_neg (by decide), g115_eq, ob_s, one_t c2]
        dsimp only
        rw [if_neg (by decide), g114_eq, ob_s, one_t c3]
        dsimp only
        rw [if_pos (by decide)]
        refine p_use (ref_y h h1.1 h1.2.1 (by omega) c3.1) (fun S2 h2 => ?_)
        rw [chk_t (by omega), lt_t]
        refine p_some ⟨?_, h2.1, h2.2.1⟩
        show gl S2 89 s = gl S1 41 s
        rw [(h2.2.2.1 s c1.1 c1.2).2.2.2.1, (h1.2.2.1 s c1.1 (by omega)).2.2.2.2, ifp_t c1.2]
      · rw [one_f c3, if_neg (by decide)]
        refine pr_no h ?_
        simp [g178, g116_eq _ n12, g115_eq, g114_eq, one_t c1, one_t c2, one_f c3]
    · rw [one_f c2, if_pos (by decide)]
      refine pr_no h ?_
      simp [g178, g116_eq _ n12, g115_eq, one_t c1, one_f c2]
  · rw [one_f c1, if_pos (by decide)]
    refine pr_no h ?_
    simp [g178, g116_eq _ n12, one_f c1]
theorem suS_rng (h : ClsI S) {y : Nat} (hy : y ≤ 9) {f d : Int} (ok : FOk (gi S) f ∧ -1 ≤ f ∧ f < 9) {es em s : Int} (hs : 0 ≤ s ∧ s < gi S 55 1) : -1311000000001 ≤ suS (cor S) (gi S) f y d (laV (cor S) (gi S) y) (thV (cor S) y) es em s ∧ suS (cor S) (gi S) f y d (laV (cor S) (gi S) y) (thV (cor S) y) es em s ≤ 1311000000001 := (SB_3 h.1 ok.1 ok.2.1 hs).2.2
theorem g91_l32_w {A : Int → Int} (hA : ∀ j : Int, 0 ≤ j → j < 12 → gl S 41 j = A j ∧ (-1311000000001 ≤ A j ∧ A j ≤ 1311000000001)) : g91_l32 100000 0 0 S = some (sm (fun j => A j) 12, S) := by
  refine p_eq ?_
  have key := upto 12 (fun n k => Wp (fun z => z = (sm (fun j => A j) 12, S)) (g91_l32 n (sm (fun j => A j) k) k S)) ?_ 100000 0 (Nat.zero_le _) (by omega)
  · exact key
  intro n k hk ih
  dsimp only [g91_l32]
  refine p_if (fun hc => ?_) (fun hc => ?_)
  · have : k = 12 := by omega
    rw [this]; exact p_some rfl
  have h := hA k (by omega) (by omega)
  have b := sm_rng (f := fun j => A j) (-1311000000001) 1311000000001 k (fun j hj => (hA j (by omega) (by omega)).2)
  rw [chk_t (by omega), lt_t, h.1, ckJ_t (by omega), ckI_t (by omega)]
  have ih := ih (by omega)
  rw [sm_s] at ih
  exact ih
theorem g179_l29_w {A : Int → Int} {n : Int} (hn : gi S 55 1 = n) (h0 : 0 ≤ n ∧ n ≤ 12) (hA : ∀ j : Int, 0 ≤ j → j < n → gl S 89 j = A j ∧ (-1311000000001 ≤ A j ∧ A j ≤ 1311000000001)) : g179_l29 100000 0 0 S = some (sm (fun j => A j) n.toNat, S) := by
  refine p_eq ?_
  have key := upto n.toNat (fun m k => Wp (fun z => z = (sm (fun j => A j) n.toNat, S)) (g179_l29 m (sm (fun j => A j) k) k S)) ?_ 100000 0 (Nat.zero_le _) (by omega)
  · exact key
  intro m k hk ih
  dsimp only [g179_l29]
  rw [lt_t, hn]
  refine p_if (fun hc => ?_) (fun hc => ?_)
  · have : k = n.toNat := by omega
    rw [this]; exact p_some rfl
  have h := hA k (by omega) (by omega)
  have b := sm_rng (f := fun j => A j) (-1311000000001) 1311000000001 k (fun j hj => (hA j (by omega) (by omega)).2)
  rw [chk_t (by omega), lt_t, h.1, ckJ_t (by omega), ckI_t (by omega)]
  have ih := ih (by omega)
  rw [sm_s] at ih
  exact ih
theorem all_pr (h : ClsI S) (y d : Int) : Pr S (g91 y d) (g179 y d) := by
  have n12 := h.1.n12
  unfold Pr g91
  rw [g103_eq, ob_s]
  dsimp only
  by_cases c2 : 0 ≤ y ∧ y < 10
  · rw [one_t c2, if_neg (by decide), g104_eq, ob_s]
    dsimp only
    by_cases c3 : 0 ≤ d ∧ d ≤ 999
    · rw [one_t c3, if_pos (by decide)]
      obtain ⟨y, rfl⟩ : ∃ k : Nat, y = k := ⟨y.toNat, by omega⟩
      have ok := inF_ok h.2.2.2.1 (y := y) (d := d) (by omega) c3.1
      refine p_use (cls_y h Fr.refl h (by omega) c3.1) (fun S1 h1 => ?_)
      have rg := fun (j : Int) (a : 0 ≤ j) (b : j < gi S 55 1) => suS_rng h (y := y) (by omega) (d := d) ok (es := -1) (em := -1) ⟨a, b⟩
      rw [g91_l32_w (A := fun j => ifp (j < gi S 55 1) (suS (cor S) (gi S) (inF (gi S) y d) y d (laV (cor S) (gi S) y) (thV (cor S) y) (-1) (-1) j)) (fun j a b => by
        refine ⟨(h1.2.2.1 j a b).2.2.2.2, ?_⟩
        by_cases hn : j < gi S 55 1
        · rw [ifp_t hn]; exact rg j a hn
        · rw [ifp_f hn]; omega)]
      refine p_some ?_
      unfold g179
      dsimp only
      rw [g115_eq, ob_s, one_t c2]
      dsimp only
      rw [if_neg (by decide), g114_eq, ob_s, one_t c3]
      dsimp only
      rw [if_pos (by decide)]
      refine p_use (ref_y h h1.1 h1.2.1 (by omega) c3.1) (fun S2 h2 => ?_)
      rw [g179_l29_w (A := fun j => suS (cor S) (gi S) (inF (gi S) y d) y d (laV (cor S) (gi S) y) (thV (cor S) y) (-1) (-1) j) (show gi S2 55 1 = gi S 55 1 from h2.1.i rfl) n12 (fun j a b => ⟨(h2.2.2.1 j a b).2.2.2.1, rg j a b⟩)]
      refine p_some ⟨?_, h2.1, h2.2.1⟩
      show sm _ _ = sm _ _
      rw [sm_ext (n := (gi S 55 1).toNat) (m := 12) (by omega) (fun j a b => by rw [ifp_f (by omega)])]
      exact sm_congr _ (fun j hj => by rw [ifp_t (by omega)])
    · rw [one_f c3, if_neg (by decide)]
      refine pr_no h ?_
      simp [g179, g115_eq, g114_eq, one_t c2, one_f c3]
  · rw [one_f c2, if_pos (by decide)]
    refine pr_no h ?_
    simp [g179, g115_eq, one_f c2]
theorem edge_pr (h : ClsI S) (hD : DayI S) (s y m : Int) : Pr S (g97 s y m) (g190 s y m) := by
  have n12 := h.1.n12
  have h17 := h.1.2.1.1.2.2.1
  unfold Pr g97
  rw [g105_eq, ob_s, h17]
  dsimp only
  by_cases c1 : 0 ≤ s ∧ s < gi S 55 1
  · have hks := h.1.2.1.2.1 s c1.1 c1.2
    rw [one_t c1, if_neg (by decide), g103_eq, ob_s]
    dsimp only
    by_cases c2 : 0 ≤ y ∧ y < 10
    · rw [one_t c2, if_neg (by decide), g102_eq, ob_s]
      dsimp only
      by_cases c3 : 0 ≤ m ∧ m < 5
      · have c3' : 0 ≤ m ∧ m ≤ 4 := by omega
        rw [one_t c3, if_pos (by decide), g2_eq s y (by omega) c1.1, ob_s, h17, hks.1.2.2.2]
        dsimp only
        by_cases ho : y < gi S 67 s
        · rw [one_t ⟨c1.2, ho⟩, if_pos (by decide), lt_t]
          obtain ⟨y, rfl⟩ : ∃ k : Nat, y = k := ⟨y.toNat, by omega⟩
          have hd0 : 0 ≤ gi S 0 10 := by rw [hD.1]; exact hD.2.1
          have ok := inF_ok h.2.2.2.1 (y := y) (d := gi S 0 10) (by omega) hd0
          have rg := fun es em => suS_rng h (y := y) (by omega) (d := gi S 0 10) ok (es := es) (em := em) c1
          refine p_use (cls_y h Fr.refl h (by omega) hd0) (fun S1 h1 => ?_)
          rw [chk_t (by omega), lt_t, lt_t, show gi S1 0 10 = gi S 0 10 from h1.1.i rfl, (h1.2.2.1 s c1.1 (by omega)).2.2.2.2, ifp_t c1.2]
          have sc1 : Sc S S1 := h1.1.mono rfl
          refine p_use (g61_w h1.2.1 (es := s) (em := m) (by omega) hd0) (fun S2 h2 => ?_)
          have f2 : Fr frZ S S2 := h1.1.trans (h2.1.mono rfl)
          have ct := h2.2.2
          rw [sc1.inF] at ct
          have ct := CTy.sc sc1 h.2.2.2.1 (by omega) ok.1 ok.2.1 ct
          have r0 := rg (-1) (-1)
          have r1 := rg s m
          rw [chk_t (by omega), lt_t, (ct s c1.1 (by omega)).2.2.2.2, ifp_t c1.2, ckJ_t (by omega)]
          refine p_some ?_
          have e1 : gi S2 55 1 = gi S 55 1 := f2.i rfl
          unfold g190
          dsimp only
          rw [g116_eq _ (by rw [e1]; exact n12), ob_s, e1, one_t c1]
          dsimp only
          rw [if_neg (by decide), g115_eq, ob_s, one_t c2]
          dsimp only
          rw [if_neg (by decide), g112_eq, ob_s, one_t c3']
          dsimp only
          rw [if_neg (by decide), g122_eq _ _ (by omega), ob_s, show gi S2 67 s = gi S 67 s from f2.i rfl, one_t ho]
          dsimp only
          rw [if_pos (by decide), lt_t, show gi S2 55 0 = gi S 0 10 from (f2.i rfl).trans hD.1.symm]
          refine p_use (ref_y h f2 h2.2.1 (by omega) hd0) (fun S3 h3 => ?_)
          have sc3 : Sc S S3 := h3.1.mono rfl
          rw [chk_t (by omega), lt_t, lt_t, lt_t, show gi S3 55 0 = gi S 0 10 from (h3.1.i rfl).trans hD.1.symm, (h3.2.2.1 s c1.1 c1.2).2.2.2.1]
          refine p_call (g160_eq h3.2.1.2.2.2.1.1 _ _) ?_
          dsimp only
          rw [sc3.inF]
          have F3 : FOk (gi S3) (inF (gi S) y (gi S 0 10)) := FOk_c (sc3.seq _) ok.1
          refine p_use (g170_y (S0 := S3) (es := s) (em := m) h3.2.1.1 h3.2.1.2.2.2.1 (by omega) F3 ok.2 Fr.refl (fun j a b => ?_)) (fun S4 h4 => ?_)
          · have := h3.2.2.2.1 j a (by rw [← show gi S3 55 1 = gi S 55 1 from h3.1.i rfl]; exact b)
            rw [funext (sc3.pasE h.2.2.2.1 (y := y) (by omega)).2, sc3.cE]
            exact this
          have ry := RowY.sc sc3 h.2.2.2.1 (by omega) ok.1 ok.2.1 h4.1.2
          rw [chk_t (by omega), lt_t, (ry s c1.1 c1.2).2.2.2.1, ckJ_t (by omega)]
          exact p_some ⟨rfl, h3.1.trans (h4.1.1.mono rfl), h3.2.1.st h4.1.1 rfl rfl ⟨⟨rfl, rfl⟩, rfl⟩⟩
        · rw [one_f (fun z => ho z.2), if_neg (by decide)]
          refine pr_no h ?_
          simp [g190, g116_eq _ n12, g115_eq, g112_eq, one_t c1, one_t c2, one_t c3', g122_eq s y (by omega), one_f ho]
      · have c3' : ¬ (0 ≤ m ∧ m ≤ 4) := by omega
        rw [one_f c3, if_neg (by decide)]
        refine pr_no h ?_
        simp [g190, g116_eq _ n12, g115_eq, g112_eq, one_t c1, one_t c2, one_f c3']
    · rw [one_f c2, if_pos (by decide)]
      refine pr_no h ?_
      simp [g190, g116_eq _ n12, g115_eq, one_t c1, one_f c2]
  · rw [one_f c1, if_pos (by decide)]
    refine pr_no h ?_
    simp [g190, g116_eq _ n12, one_f c1]
end C1
