/-! formula, beside: the books again -/
/-- the reader's words, the lengths of its arrays, the drafts' rows -/
def px_KI (S : gM) : Prop := (∀ k, 0 ≤ k → k < 23 → gl S 17 k = px_ky k) ∧ (gln S 22 0 = 6 ∧ gln S 20 0 = 30 ∧ gln S 19 0 = 61 ∧ gln S 18 0 = 700) ∧ px_RB S ∧ 103 ≤ gn S
/-- contents alone -/
def px_KW (W : List Nat) (S U : gM) : Prop := ∀ q k, q < gn S → W.contains (rg q k) = false → gi U q k = gi S q k ∧ gl U q k = gl S q k
def px_cl : List Nat := [1000000007, 1000000009, 1000030015, 23, 1000016008, 1000016010, 1000016007, 19, 20, 21, 22, 1000016006, 18, 1000016011, 1000016012, 1000016013, 1000016014, 1000016015, 1000016016]
section FO
variable {S U V : gM} {W W' : List Nat}
theorem px_KW.of (h : Fr W S U) : px_KW W S U := fun q k _ hk => h.2 q k hk
theorem px_KW.mono (h : px_KW W S U) (hw : W.all (fun x => W'.contains x) = true) : px_KW W' S U := fun q k hq hk => h q k hq (by
  cases hc : W.contains (rg q k) with
  | false => rfl
  | true =>
    have h1 := List.all_eq_true.mp hw _ (List.contains_iff_mem.mp hc)
    rw [hk] at h1
    cases h1)
theorem px_KW.trans (h : px_KW W S U) (h2 : px_KW W U V) (hg : gn S ≤ gn U) : px_KW W S V := fun q k hq hk => by
  have x := h q k hq hk
  have y := h2 q k (Nat.lt_of_lt_of_le hq hg) hk
  exact ⟨y.1.trans x.1, y.2.trans x.2⟩
theorem px_KI.kp (h : px_KI S) (k : px_KP S U) (hB : px_RB U) : px_KI U := by
  obtain ⟨h1, ⟨a, b, c, d⟩, -, h4⟩ := h
  have g := k.2.2.2.1
  exact ⟨fun j j1 j2 => (k.l h4 (by decide) rfl).trans (h1 j j1 j2), ⟨(g _ _ (by omega)).trans a, (g _ _ (by omega)).trans b, (g _ _ (by omega)).trans c, (g _ _ (by omega)).trans d⟩, hB, Nat.le_trans h4 k.2.1⟩
theorem px_LO.rb (h : px_LO S U) (hB : px_RB S) : px_RB U := fun k k1 k2 => by
  have b := hB k k1 k2
  have d := h.2.2.2 k
  omega
theorem px_bk (h : Bk S) (hg : 103 ≤ gn S) (k : px_KP S U) (hT : gi U 0 7 = 0 ∧ gi U 55 19 = 0) (hf : gi U 0 9 = gi U 55 25) (hI : FormI U) (hP : PasI U U) : Bk U := by
  obtain ⟨a1, a2, a3, a4, a5, a6⟩ := px_keep h hg k
  exact ⟨a1, ⟨a3, a4, a5, hI, hP, a6⟩, ⟨hT.1.trans hT.2.symm, by rw [hT.2]; decide, fun j j1 j2 => by rw [hT.2] at j2; omega⟩, a2, hf⟩
/-- the years worked out stay -/
theorem px_pas (h : ClsI S) (hg : 103 ≤ gn S) (k : px_KP S U) (h30 : gi U 30 15 = gi S 30 15) (h18 : gi U 55 18 = gi S 55 18) (h7 : ∀ j : Int, 0 ≤ j → j < gi S 55 18 → gi U 71 j = gi S 71 j ∧ gi U 72 j = gi S 72 j) (hS : ∀ f : Int, -1 ≤ f → f < gi S 55 18 → SEq (gi S) (gi U) f) : PasI U U := by
  obtain ⟨hB, hW, hH, hI, hP, hE⟩ := h
  have h0 := hI.1.1
  have ec : cor U = cor S := by
    funext q j
    by_cases hc : cr q j
    · rw [cor_i hc, cor_i hc]
      have hq : q < 103 := by rcases hc with z | z | z | z | z <;> omega
      refine k.i hg hq ?_
      rcases hc with h | h | h | h | h
      · rcases h with h | h | h | h | h | h | h | h | h | h | h <;> subst h <;> rfl
      · have : q = 56 ∨ q = 57 ∨ q = 58 ∨ q = 59 ∨ q = 60 ∨ q = 61 ∨ q = 62 ∨ q = 63 ∨ q = 64 ∨ q = 65 ∨ q = 66 ∨ q = 67 := by omega
        rcases this with h | h | h | h | h | h | h | h | h | h | h | h <;> subst h <;> rfl
      · obtain ⟨rfl, h | h⟩ := h <;> subst h <;> rfl
      · obtain ⟨rfl, h⟩ := h; subst h; rfl
      · obtain ⟨rfl, h | h | h⟩ := h <;> subst h <;> rfl
    · unfold cor; rw [if_neg hc, if_neg hc]
  refine ⟨by rw [h30]; exact hP.1, fun y hy j a b => ?_⟩
  rw [h30] at hy
  have kk := pasV_c (F := gi S) (G := gi U) (cor S) h18.symm (fun j a b => ⟨(h7 j a b).1.symm, (h7 j a b).2.symm⟩) (fun y d a b c => ⟨hS _ (inF_ok hI ⟨a, c⟩ b).2.1 (by
    have := iF_rng (gi S) y d (gi S 55 18).toNat
    unfold inF
    omega), (inF_ok hI ⟨a, c⟩ b).1, (inF_ok hI ⟨a, c⟩ b).2.1⟩) y (by have := hP.1; omega)
  rw [ec, ← kk.1 j, k.l hg (by decide) rfl]
  exact hP.2 y hy j a (by rw [← show gi U 55 1 = gi S 55 1 from k.i hg (by decide) rfl]; exact b)
/-- as many formulae as before -/
theorem px_form0 (h : FormI S) (hg : 103 ≤ gn S) (k : px_KP S U) (h18 : gi U 55 18 = gi S 55 18) (h23 : gi U 23 2 = gi S 23 2) (h7 : ∀ j : Int, 0 ≤ j → j < gi S 55 18 → gi U 71 j = gi S 71 j ∧ gi U 72 j = gi S 72 j) (hS : ∀ f : Int, -1 ≤ f → f < gi S 55 18 → SEq (gi S) (gi U) f) (h29 : ∀ j, gr U 29 j = gr S 29 j) (hb : (gr U 0 8 = none ↔ gi U 55 26 = 0) ∧ ∀ q, gr U 0 8 = some q → LwR U q 8 ∧ FOk (gi U) 8) : FormI U := by
  obtain ⟨i1, i2, i3, i4, i5⟩ := h
  have o3 := px_oldR k i3.1 (FOk_m1 _) (by omega) (Or.inl rfl)
  have c3 := k.law i3.1.1 0 (by omega)
  refine ⟨⟨by rw [h18]; exact i1.1, fun j a b => ?_⟩, by rw [h23, h18]; exact i2, ⟨o3.1, (c3 0).trans i3.2.1, (c3 1).trans i3.2.2.1, (c3 2).trans i3.2.2.2⟩, fun j hj => ?_, hb⟩
  · rw [h18] at b
    rw [(h7 j a b).1, (h7 j a b).2]
    exact i1.2 j a b
  · rw [h18] at hj
    obtain ⟨q, a, b, c, d⟩ := i4 j hj
    have o := px_oldR k b c (by omega) (hS j (by omega) hj)
    have cq := k.law b.1 0 (by omega)
    refine ⟨q, (h29 j).trans a, o.1, o.2, (cq 0).trans d.1, ?_, ?_⟩
    · rw [(h7 j (by omega) hj).1]; exact (cq 1).trans d.2.1
    · rw [(h7 j (by omega) hj).2]; exact (cq 2).trans d.2.2
/-- one formula more -/
theorem px_form1 (h : FormI S) (hg : 103 ≤ gn S) (k : px_KP S U) {q0 : Nat} (h8 : gi S 55 18 < 8) (h18 : gi U 55 18 = gi S 55 18 + 1) (h23 : gi U 23 2 = gi S 55 18 + 1) (h7 : ∀ j : Int, 0 ≤ j → j < gi S 55 18 → gi U 71 j = gi S 71 j ∧ gi U 72 j = gi S 72 j) (hS : ∀ f : Int, -1 ≤ f → f < gi S 55 18 → SEq (gi S) (gi U) f) (h29 : ∀ j : Nat, gr U 29 j = if j = (gi S 55 18).toNat then some q0 else gr S 29 j)
    (hn : LwR U q0 (gi S 55 18) ∧ FOk (gi U) (gi S 55 18)) (hq : gi U q0 0 = gi S 55 18 ∧ gi U q0 1 = gi U 71 (gi S 55 18) ∧ gi U q0 2 = gi U 72 (gi S 55 18)) (hr : (0 ≤ gi U 71 (gi S 55 18) ∧ gi U 71 (gi S 55 18) < 10) ∧ (0 ≤ gi U 72 (gi S 55 18) ∧ gi U 72 (gi S 55 18) ≤ 999)) (hb : (gr U 0 8 = none ↔ gi U 55 26 = 0) ∧ ∀ q, gr U 0 8 = some q → LwR U q 8 ∧ FOk (gi U) 8) : FormI U := by
  obtain ⟨i1, i2, i3, i4, i5⟩ := h
  have i11 := i1.1
  have o3 := px_oldR k i3.1 (FOk_m1 _) (by omega) (Or.inl rfl)
  have c3 := k.law i3.1.1 0 (by omega)
  refine ⟨⟨by omega, fun j a b => ?_⟩, by rw [h23, h18], ⟨o3.1, (c3 0).trans i3.2.1, (c3 1).trans i3.2.2.1, (c3 2).trans i3.2.2.2⟩, fun j hj => ?_, hb⟩
  · rw [h18] at b
    by_cases z : j = gi S 55 18
    · rw [z]; exact hr
    · rw [(h7 j a (by omega)).1, (h7 j a (by omega)).2]
      exact i1.2 j a (by omega)
  · rw [h18] at hj
    by_cases z : (j : Int) = gi S 55 18
    · rw [z]
      exact ⟨q0, (h29 j).trans (if_pos (by omega)), hn.1, hn.2, hq.1, hq.2.1, hq.2.2⟩
    · obtain ⟨q, a, b, c, d⟩ := i4 j (by omega)
      have o := px_oldR k b c (by omega) (hS j (by omega) (by omega))
      have cq := k.law b.1 0 (by omega)
      refine ⟨q, ((h29 j).trans (if_neg (by omega))).trans a, o.1, o.2, (cq 0).trans d.1, ?_, ?_⟩
      · rw [(h7 j (by omega) (by omega)).1]; exact (cq 1).trans d.2.1
      · rw [(h7 j (by omega) (by omega)).2]; exact (cq 2).trans d.2.2
/-- both read the tape's first n bytes -/
theorem px_both (h : Bk S) (hk : px_KI S) {n : Int} (hn : 0 ≤ n ∧ n ≤ gi S 55 19) : ∃ y : Int × gM, g31 n S = some y ∧ Fr px_cw3 (wr S 16 9 (some 54)) y.2 ∧ (y.1 = -1 → (0 ≤ gi y.2 16 7 ∧ gi y.2 16 7 ≤ 30) ∧ (0 ≤ gi y.2 16 6 ∧ gi y.2 16 6 ≤ 700)) ∧ (¬ y.1 = -1 → 0 ≤ y.1) ∧ ∀ T : gM, (∀ k, gi T 83 k = gi S 83 k) → ∃ x : Int × gM, g155 n T = some x ∧ px_F px_rw3 T x.2 ∧ gi x.2 55 19 = 0 ∧ px_RR y x := by
  have hT := h.2.2.1
  have h2 := hT.2.1
  have rd := fun (T : gM) (hT8 : ∀ k, gi T 83 k = gi S 83 k) => px_read (S := S) (T := T) (n := n) (by omega) hk.2.1.1 hk.1 (fun k k1 k2 => by
    have z := hT.2.2 k k1 (by omega)
    exact ⟨z.1, z.2.trans (hT8 k).symm⟩)
  obtain ⟨y, x0, e1, e2, k1, k2, k3, k4⟩ := rd S (fun _ => rfl)
  refine ⟨y, e1, k1, fun z => ?_, fun z => ?_, fun T hT8 => ?_⟩
  · rcases k4 with ⟨-, -, -, cd, i, c1, c2, c3, c4, c5, c6⟩ | ⟨a, -⟩
    · have r := rk_le (gi x0.2) 9 i
      have r7 := c2.1.1
      have r6 := c1.1
      omega
    · omega
  · rcases k4 with ⟨a, -⟩ | ⟨a, -⟩
    · exact absurd a z
    · exact a
  · obtain ⟨y', x, f1, f2, l1, l2, l3, l4⟩ := rd T hT8
    rw [e1] at f1
    cases f1
    exact ⟨x, f2, l2, l3, l4⟩
end FO
