/-! the reference's works: a school -/
def Nb (s : Int) (S S' : gM) : Prop := (∀ q, 86 ≤ q → q ≤ 92 → ∀ j : Int, ¬ j = s → gl S' q j = gl S q j) ∧ ∀ j : Int, (j < 30 * s ∨ 30 * s + 30 ≤ j) → gl S' 85 j = gl S 85 j
section NB
variable {S S' S'' : gM} {s : Int}
theorem Nb.refl : Nb s S S := ⟨fun _ _ _ _ _ => rfl, fun _ _ => rfl⟩
theorem Nb.trans (h : Nb s S S') (h2 : Nb s S' S'') : Nb s S S'' := ⟨fun q a b j hj => (h2.1 q a b j hj).trans (h.1 q a b j hj), fun j hj => (h2.2 j hj).trans (h.2 j hj)⟩
theorem Nb.wl (h : Nb s S S') {q : Nat} {k v : Int} (hq : (86 ≤ q ∧ k = s) ∨ (q = 85 ∧ 30 * s ≤ k ∧ k < 30 * s + 30) ∨ q < 85) : Nb s S (wl S' q k v) := by
  refine ⟨fun a b c j hj => ?_, fun j hj => ?_⟩
  · rw [gl_wl, if_neg (by rintro ⟨z1, z2⟩; omega)]; exact h.1 a b c j hj
  · rw [gl_wl, if_neg (by rintro ⟨z1, z2⟩; omega)]; exact h.2 j hj
theorem Nb.fr (h : Nb s S S') {W : List Nat} (hF : Fr W S' S'') (hw : W.all (fun x => decide (x < 85)) = true) : Nb s S S'' := by
  have key : ∀ q : Nat, 85 ≤ q → q ≤ 92 → ∀ j : Int, gl S'' q j = gl S' q j := fun q h1 h2 j => hF.l (by
    rw [show rg q j = q by unfold rg; rw [if_neg (by omega)]]
    cases hc : W.contains q with
    | false => rfl
    | true =>
      have := of_decide_eq_true (List.all_eq_true.mp hw _ (List.contains_iff_mem.mp hc))
      omega)
  exact ⟨fun q a b j hj => (key q (by omega) b j).trans (h.1 q a b j hj), fun j hj => (key 85 (by omega) (by omega) j).trans (h.2 j hj)⟩
end NB
section WK
variable {S : gM}
/-- cap -/
theorem g172_w {f s base b : Int} (hF : FOk (gi S) f) (hf : -1 ≤ f ∧ f < 9) (hs : 0 ≤ s ∧ s < 12) (hb : gl S 89 s = b) (h0 : gl S 87 s = 0) (hr : -10000000000 ≤ base ∧ base ≤ 10000000000) (hbr : -500000000000 ≤ b ∧ b ≤ 500000000000) :
    Wp (fun S' => Fr [87, 89] S S' ∧ Nb s S S' ∧ gl S' 87 s = cpV (tls (gi S) f 2 (-1)) base b ∧ gl S' 89 s = b + cpV (tls (gi S) f 2 (-1)) base b) (g172 s f base S) := by
  unfold g172
  have ht := (tls_rng hF hf.1).2.1
  have hm := mul_rng2 (A := 10000000000) (B := 1000) hr (y := tls (gi S) f 2 (-1)) (by omega)
  have u1 : -100000000000 ≤ (base * tls (gi S) f 2 (-1)).tdiv 100 ∧ (base * tls (gi S) f 2 (-1)).tdiv 100 ≤ 100000000000 := by
    have e : ((base * tls (gi S) f 2 (-1)).tdiv 100).natAbs = (base * tls (gi S) f 2 (-1)).natAbs / 100 := by rw [Int.natAbs_tdiv]; rfl
    omega
  refine p_call (g162_eq 2 (-1) hF hf) ?_
  dsimp only
  refine p_if (fun c => ?_) (fun c => ?_)
  · have e : cpV (tls (gi S) f 2 (-1)) base b = 0 := by unfold cpV; rw [if_neg (fun z => z.1 c)]
    exact p_some ⟨Fr.refl, Nb.refl, by rw [h0, e], by rw [hb, e]; omega⟩
  · repeat (first | (with_reducible refine p_chk ?_ ?_; (· (first | omega | (simp only [gi_wi, gl_wl, gl_wi, gi_wl, gi_wcl, gl_wcl, Nat.reduceEqDiff, Int.reduceEq, false_and, true_and, and_true, and_false, if_false, if_true]; omega)))) | with_reducible refine p_lt ?_ | (with_reducible refine p_ckI ?_ ?_; (· (first | omega | (simp only [gi_wi, gl_wl, gl_wi, gi_wl, gi_wcl, gl_wcl, Nat.reduceEqDiff, Int.reduceEq, false_and, true_and, and_true, and_false, if_false, if_true]; omega)))) | (with_reducible refine p_ckJ ?_ ?_; (· (first | omega | (simp only [gi_wi, gl_wl, gl_wi, gi_wl, gi_wcl, gl_wcl, Nat.reduceEqDiff, Int.reduceEq, false_and, true_and, and_true, and_false, if_false, if_true]; omega)))))
    rw [hb]
    refine p_if (fun c2 => ?_) (fun c2 => ?_)
    · have e : cpV (tls (gi S) f 2 (-1)) base b = (base * tls (gi S) f 2 (-1)).tdiv 100 - b := by unfold cpV; rw [if_pos ⟨c, c2⟩]
      repeat (first | (with_reducible refine p_chk ?_ ?_; (· (first | omega | (simp only [gi_wi, gl_wl, gl_wi, gi_wl, gi_wcl, gl_wcl, Nat.reduceEqDiff, Int.reduceEq, false_and, true_and, and_true, and_false, if_false, if_true]; omega)))) | with_reducible refine p_lt ?_ | (with_reducible refine p_ckI ?_ ?_; (· (first | omega | (simp only [gi_wi, gl_wl, gl_wi, gi_wl, gi_wcl, gl_wcl, Nat.reduceEqDiff, Int.reduceEq, false_and, true_and, and_true, and_false, if_false, if_true]; omega)))) | (with_reducible refine p_ckJ ?_ ?_; (· (first | omega | (simp only [gi_wi, gl_wl, gl_wi, gi_wl, gi_wcl, gl_wcl, Nat.reduceEqDiff, Int.reduceEq, false_and, true_and, and_true, and_false, if_false, if_true]; omega)))))
      refine p_some ⟨(Fr.refl.wl rfl).wl rfl, (Nb.refl.wl (Or.inl ⟨by omega, rfl⟩)).wl (Or.inl ⟨by omega, rfl⟩), ?_, ?_⟩
      · simp only [gi_wi, gl_wl, gl_wi, gi_wl, gi_wcl, gl_wcl, Nat.reduceEqDiff, Int.reduceEq, false_and, true_and, and_true, and_false, if_false, if_true]; rw [e]
      · simp only [gi_wi, gl_wl, gl_wi, gi_wl, gi_wcl, gl_wcl, Nat.reduceEqDiff, Int.reduceEq, false_and, true_and, and_true, and_false, if_false, if_true]; rw [hb, e]
    · have e : cpV (tls (gi S) f 2 (-1)) base b = 0 := by unfold cpV; rw [if_neg (fun z => c2 z.2)]
      exact p_some ⟨Fr.refl, Nb.refl, by rw [h0, e], by rw [hb, e]; omega⟩
/-- floor and cap, in their order -/
theorem g171_w {f s y b la th hd : Int} (hF : FOk (gi S) f) (hf : -1 ≤ f ∧ f < 9) (hs : 0 ≤ s ∧ s < 12) (hb : gl S 89 s = b) (h86 : gl S 86 s = 0) (h87 : gl S 87 s = 0) (hla : gl S 90 s = la) (hth : gl S 91 s = th) (hhd : gl S 92 s = hd) (hy : y = 0 → la = 0)
    (rb : -3000000000 ≤ b ∧ b ≤ 3000000000) (rl : -15740000000000 ≤ la ∧ la ≤ 15740000000000) (rh : 0 ≤ hd ∧ hd ≤ 359967) :
    Wp (fun S' => Fr [86, 87, 89] S S' ∧ Nb s S S' ∧ gl S' 86 s = flo la hd th (tls (gi S) f 1 (-1)) (tls (gi S) f 2 (-1)) (tls (gi S) f 5 0) b ∧ gl S' 87 s = cpo la hd th (tls (gi S) f 1 (-1)) (tls (gi S) f 2 (-1)) (tls (gi S) f 5 0) b ∧ gl S' 89 s = b + flo la hd th (tls (gi S) f 1 (-1)) (tls (gi S) f 2 (-1)) (tls (gi S) f 5 0) b + cpo la hd th (tls (gi S) f 1 (-1)) (tls (gi S) f 2 (-1)) (tls (gi S) f 5 0) b) (g171 s y f S) := by
  unfold g171
  have ht := tls_rng hF hf.1
  have none : la = 0 ∨ th = 0 → Wp (fun S' => Fr [86, 87, 89] S S' ∧ Nb s S S' ∧ gl S' 86 s = flo la hd th (tls (gi S) f 1 (-1)) (tls (gi S) f 2 (-1)) (tls (gi S) f 5 0) b ∧ gl S' 87 s = cpo la hd th (tls (gi S) f 1 (-1)) (tls (gi S) f 2 (-1)) (tls (gi S) f 5 0) b ∧ gl S' 89 s = b + flo la hd th (tls (gi S) f 1 (-1)) (tls (gi S) f 2 (-1)) (tls (gi S) f 5 0) b + cpo la hd th (tls (gi S) f 1 (-1)) (tls (gi S) f 2 (-1)) (tls (gi S) f 5 0) b) (some S) := by
    intro z
    have e1 : flo la hd th (tls (gi S) f 1 (-1)) (tls (gi S) f 2 (-1)) (tls (gi S) f 5 0) b = 0 := by unfold flo; rw [if_pos z]
    have e2 : cpo la hd th (tls (gi S) f 1 (-1)) (tls (gi S) f 2 (-1)) (tls (gi S) f 5 0) b = 0 := by unfold cpo; rw [if_pos z]
    rw [e1, e2]
    exact p_some ⟨Fr.refl, Nb.refl, h86, h87, by rw [hb]; omega⟩
  refine p_if (fun c => none (Or.inl (hy c))) (fun c => ?_)
  repeat (first | (with_reducible refine p_chk ?_ ?_; (· (first | omega | (simp only [gi_wi, gl_wl, gl_wi, gi_wl, gi_wcl, gl_wcl, Nat.reduceEqDiff, Int.reduceEq, false_and, true_and, and_true, and_false, if_false, if_true]; omega)))) | with_reducible refine p_lt ?_ | (with_reducible refine p_ckI ?_ ?_; (· (first | omega | (simp only [gi_wi, gl_wl, gl_wi, gi_wl, gi_wcl, gl_wcl, Nat.reduceEqDiff, Int.reduceEq, false_and, true_and, and_true, and_false, if_false, if_true]; omega)))) | (with_reducible refine p_ckJ ?_ ?_; (· (first | omega | (simp only [gi_wi, gl_wl, gl_wi, gi_wl, gi_wcl, gl_wcl, Nat.reduceEqDiff, Int.reduceEq, false_and, true_and, and_true, and_false, if_false, if_true]; omega)))))
  rw [hla]
  refine p_if (fun c1 => none (Or.inl c1)) (fun c1 => ?_)
  repeat (first | (with_reducible refine p_chk ?_ ?_; (· (first | omega | (simp only [gi_wi, gl_wl, gl_wi, gi_wl, gi_wcl, gl_wcl, Nat.reduceEqDiff, Int.reduceEq, false_and, true_and, and_true, and_false, if_false, if_true]; omega)))) | with_reducible refine p_lt ?_ | (with_reducible refine p_ckI ?_ ?_; (· (first | omega | (simp only [gi_wi, gl_wl, gl_wi, gi_wl, gi_wcl, gl_wcl, Nat.reduceEqDiff, Int.reduceEq, false_and, true_and, and_true, and_false, if_false, if_true]; omega)))) | (with_reducible refine p_ckJ ?_ ?_; (· (first | omega | (simp only [gi_wi, gl_wl, gl_wi, gi_wl, gi_wcl, gl_wcl, Nat.reduceEqDiff, Int.reduceEq, false_and, true_and, and_true, and_false, if_false, if_true]; omega)))))
  rw [hth]
  refine p_if (fun c2 => ?_) (fun c2 => none (Or.inr (Classical.not_not.mp c2)))
  have hm := mul_rng2 (A := 15740000000000) (B := 359967) rl (y := hd) (by omega)
  have ht2 := tdiv_rng (y := th) (B := 15740000000000 * 359967) hm
  rw [chk_t (by omega), lt_t, chk_t (by omega), lt_t, hhd, ckJ_t (by omega), chk_t (by omega), lt_t, chk_t c2, ckJ_t (by omega), lt_t, lt_t]
  have hbs := bsV_rng la hd th
  have ebs : max (-10000000000) (min 10000000000 ((la * hd).tdiv th)) = bsV la hd th := rfl
  rw [ebs]
  refine p_call (g162_eq 5 0 hF hf) ?_
  dsimp only
  have hno : ¬ (la = 0 ∨ th = 0) := fun z => by rcases z with z | z; exact c1 z; exact c2 z
  generalize hbase : bsV la hd th = base at *
  -- the floor's part, at any state with these numbers
  have lift : ∀ (S1 : gM) (b1 : Int) (x : Int), Fr [86, 87, 89] S S1 → Nb s S S1 → gl S1 89 s = b1 → gl S1 86 s = 0 → (-300000000000 ≤ b1 ∧ b1 ≤ 300000000000) → ∀ Q : gM → Prop, (∀ S2, Fr [86, 87, 89] S S2 → Nb s S S2 → gl S2 86 s = lfV (tls (gi S) f 1 (-1)) base b1 → gl S2 89 s = b1 + lfV (tls (gi S) f 1 (-1)) base b1 → gl S2 87 s = gl S1 87 s → Wp Q (g171_j165 s f base x S2)) → Wp Q (g171_j92 s f base x S1) := by
    intro S1 b1 x hF1 hN1 hb1 h1 hr1 Q hQ
    unfold g171_j92
    have hFk1 : FOk (gi S1) f := FOk_c (Sc.seq (show Sc S S1 from hF1.mono rfl) f) hF
    have et : tls (gi S1) f 1 (-1) = tls (gi S) f 1 (-1) := (tls_c (Sc.seq (show Sc S S1 from hF1.mono rfl) f) hF.1 hf.1 1 (-1)).symm
    refine p_call (g162_eq 1 (-1) hFk1 hf) ?_
    dsimp only
    rw [et]
    have hm1 := mul_rng2 (A := 10000000000) (B := 1000) hbs (y := tls (gi S) f 1 (-1)) (by omega)
    have u1 : -100000000000 ≤ (base * tls (gi S) f 1 (-1)).tdiv 100 ∧ (base * tls (gi S) f 1 (-1)).tdiv 100 ≤ 100000000000 := by
      have e : ((base * tls (gi S) f 1 (-1)).tdiv 100).natAbs = (base * tls (gi S) f 1 (-1)).natAbs / 100 := by rw [Int.natAbs_tdiv]; rfl
      omega
    refine p_if (fun c => ?_) (fun c => ?_)
    · have e : lfV (tls (gi S) f 1 (-1)) base b1 = 0 := by unfold lfV; rw [if_neg (fun z => z.1 c)]
      exact hQ S1 hF1 hN1 (by rw [h1, e]) (by rw [hb1, e]; omega) rfl
    · rw [chk_t (by omega), lt_t, hb1, ckJ_t (by omega), ckJ_t (by omega)]
      refine p_if (fun c2 => ?_) (fun c2 => ?_)
      · have e : lfV (tls (gi S) f 1 (-1)) base b1 = 0 := by unfold lfV; rw [if_neg (fun z => by omega)]
        exact hQ S1 hF1 hN1 (by rw [h1, e]) (by rw [hb1, e]; omega) rfl
      · have e : lfV (tls (gi S) f 1 (-1)) base b1 = (base * tls (gi S) f 1 (-1)).tdiv 100 - b1 := by unfold lfV; rw [if_pos ⟨c, by omega⟩]
        rw [ckJ_t (by omega), ckJ_t (by omega), chk_t (by omega), lt_t, ckJ_t (by omega), chk_t (by omega), lt_t, chk_t (by omega), lt_t, chk_t (by omega), lt_t]
        simp only [gi_wi, gl_wl, gl_wi, gi_wl, gi_wcl, gl_wcl, Nat.reduceEqDiff, Int.reduceEq, false_and, true_and, and_true, and_false, if_false, if_true, hb1]
        rw [ckJ_t (by omega), chk_t (by omega), lt_t]
        refine hQ _ ((hF1.wl rfl).wl rfl) ((hN1.wl (Or.inl ⟨by omega, rfl⟩)).wl (Or.inl ⟨by omega, rfl⟩)) ?_ ?_ ?_
        · simp only [gi_wi, gl_wl, gl_wi, gi_wl, gi_wcl, gl_wcl, Nat.reduceEqDiff, Int.reduceEq, false_and, true_and, and_true, and_false, if_false, if_true]; rw [e]
        · simp only [gi_wi, gl_wl, gl_wi, gi_wl, gi_wcl, gl_wcl, Nat.reduceEqDiff, Int.reduceEq, false_and, true_and, and_true, and_false, if_false, if_true]; rw [e]
        · simp only [gi_wi, gl_wl, gl_wi, gi_wl, gi_wcl, gl_wcl, Nat.reduceEqDiff, Int.reduceEq, false_and, true_and, and_true, and_false, if_false, if_true]
  have cap : ∀ (S1 : gM) (b1 : Int), Fr [86, 87, 89] S S1 → Nb s S S1 → gl S1 89 s = b1 → gl S1 87 s = 0 → (-300000000000 ≤ b1 ∧ b1 ≤ 300000000000) → Wp (fun S2 => Fr [86, 87, 89] S S2 ∧ Nb s S S2 ∧ gl S2 87 s = cpV (tls (gi S) f 2 (-1)) base b1 ∧ gl S2 89 s = b1 + cpV (tls (gi S) f 2 (-1)) base b1 ∧ gl S2 86 s = gl S1 86 s) (g172 s f base S1) := by
    intro S1 b1 hF1 hN1 hb1 h1 hr1
    have hFk1 : FOk (gi S1) f := FOk_c (Sc.seq (show Sc S S1 from hF1.mono rfl) f) hF
    have et : tls (gi S1) f 2 (-1) = tls (gi S) f 2 (-1) := (tls_c (Sc.seq (show Sc S S1 from hF1.mono rfl) f) hF.1 hf.1 2 (-1)).symm
    refine p_imp (g172_w hFk1 hf hs hb1 h1 hbs (by omega)) (fun S2 h => ?_)
    rw [et] at h
    exact ⟨hF1.trans (h.1.mono rfl), hN1.trans h.2.1, h.2.2.1, h.2.2.2, h.1.l rfl⟩
  have clf := lfV_c (tls (gi S) f 1 (-1)) base
  have ccp := cpV_c (tls (gi S) f 2 (-1)) base
  have u1 : -100000000000 ≤ (base * tls (gi S) f 1 (-1)).tdiv 100 ∧ (base * tls (gi S) f 1 (-1)).tdiv 100 ≤ 100000000000 := by
    have hm1 := mul_rng2 (A := 10000000000) (B := 1000) hbs (y := tls (gi S) f 1 (-1)) (by omega)
    have e : ((base * tls (gi S) f 1 (-1)).tdiv 100).natAbs = (base * tls (gi S) f 1 (-1)).natAbs / 100 := by rw [Int.natAbs_tdiv]; rfl
    omega
  have u2 : -100000000000 ≤ (base * tls (gi S) f 2 (-1)).tdiv 100 ∧ (base * tls (gi S) f 2 (-1)).tdiv 100 ≤ 100000000000 := by
    have hm1 := mul_rng2 (A := 10000000000) (B := 1000) hbs (y := tls (gi S) f 2 (-1)) (by omega)
    have e : ((base * tls (gi S) f 2 (-1)).tdiv 100).natAbs = (base * tls (gi S) f 2 (-1)).natAbs / 100 := by rw [Int.natAbs_tdiv]; rfl
    omega
  by_cases ho : tls (gi S) f 5 0 = 1
  · have ef : flo la hd th (tls (gi S) f 1 (-1)) (tls (gi S) f 2 (-1)) (tls (gi S) f 5 0) b = lfV (tls (gi S) f 1 (-1)) base (b + cpV (tls (gi S) f 2 (-1)) base b) := by
      unfold flo; rw [if_neg hno, if_pos ho, hbase]
    have ec : cpo la hd th (tls (gi S) f 1 (-1)) (tls (gi S) f 2 (-1)) (tls (gi S) f 5 0) b = cpV (tls (gi S) f 2 (-1)) base b := by
      unfold cpo; rw [if_neg hno, if_pos ho, hbase]
    rw [ef, ec]
    rw [if_neg (fun z => z ho)]
    unfold g171_j77
    rw [if_neg (by decide)]
    have c1 := ccp b
    refine p_use (cap S b Fr.refl Nb.refl hb h87 (by omega)) (fun S2 h2 => ?_)
    refine lift S2 _ 1 h2.1 h2.2.1 h2.2.2.2.1 (by rw [h2.2.2.2.2]; exact h86) (by omega) _ (fun S3 a1 a2 a3 a4 a5 => ?_)
    unfold g171_j165
    rw [if_pos (by decide)]
    exact p_some ⟨a1, a2, a3, by rw [a5]; exact h2.2.2.1, by rw [a4]; omega⟩
  · have ef : flo la hd th (tls (gi S) f 1 (-1)) (tls (gi S) f 2 (-1)) (tls (gi S) f 5 0) b = lfV (tls (gi S) f 1 (-1)) base b := by
      unfold flo; rw [if_neg hno, if_neg ho, hbase]
    have ec : cpo la hd th (tls (gi S) f 1 (-1)) (tls (gi S) f 2 (-1)) (tls (gi S) f 5 0) b = cpV (tls (gi S) f 2 (-1)) base (b + lfV (tls (gi S) f 1 (-1)) base b) := by
      unfold cpo; rw [if_neg hno, if_neg ho, hbase]
    rw [ef, ec]
    rw [if_pos ho]
    unfold g171_j77
    rw [if_pos rfl]
    have c1 := clf b
    refine lift S b 0 Fr.refl Nb.refl hb h86 (by omega) _ (fun S3 a1 a2 a3 a4 a5 => ?_)
    unfold g171_j165
    rw [if_neg (fun z => z rfl)]
    refine p_use (cap S3 _ a1 a2 a4 (by rw [a5]; exact h87) (by omega)) (fun S4 h4 => ?_)
    exact p_some ⟨h4.1, h4.2.1, by rw [h4.2.2.2.2]; exact a3, h4.2.2.1, h4.2.2.2.1⟩
end WK
