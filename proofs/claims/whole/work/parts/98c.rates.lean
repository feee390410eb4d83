/-! calls: rates, what both work out; the reference -/
section RT
theorem bar_sm (F : Nat → Int → Int) (f : Int) (W : Int → Int) (i : Nat) : bar F f W i = sm (fun r => lns F f W i r) (rk F f i) := by
  induction i with
  | zero => rfl
  | succ i ih =>
    rw [bar_s, lns_s, rk_s]
    by_cases c : F 73 (30 * f + i) = 0
    · rw [if_pos c, if_pos c, if_pos c, sm_s, if_pos rfl, ih]
      congr 1
      exact sm_congr _ (fun r hr => by rw [if_neg (by omega)])
    · rw [if_neg c, if_neg c, if_neg c, ih]
theorem sm_delta {a x : Int} (n : Nat) (ha : 0 ≤ a ∧ a < n) : sm (fun r => if (r : Int) = a then x else 0) n = x := by
  induction n with
  | zero => omega
  | succ n ih =>
    rw [sm_s]
    by_cases e : (n : Int) = a
    · rw [if_pos e, sm_congr (g := fun _ => 0) n (fun j hj => by rw [if_neg (by omega)])]
      have : sm (fun _ => (0 : Int)) n = 0 := by
        have := sm_rng (f := fun _ => (0 : Int)) 0 0 n (fun _ _ => by omega)
        omega
      omega
    · rw [if_neg e, ih (by omega)]; omega
/-- a line at its rate -/
def rG (L : Int → Int) (a b u v r : Int) : Int := if r = a then (L r * u).tdiv 10 else if r = b then (L r * v).tdiv 10 else L r
theorem rG_sm (L : Int → Int) {a b u v : Int} (n : Nat) (ha : 0 ≤ a ∧ a < n) (hb : 0 ≤ b ∧ b < n) (hab : ¬ a = b) : sm (fun r => rG L a b u v r) n = sm (fun r => L r) n - L a - L b + (L a * u).tdiv 10 + (L b * v).tdiv 10 := by
  have e : sm (fun r => rG L a b u v r) n = sm (fun r => (L r + if (r : Int) = a then (L a * u).tdiv 10 - L a else 0) + if (r : Int) = b then (L b * v).tdiv 10 - L b else 0) n := by
    refine sm_congr _ (fun r hr => ?_)
    unfold rG
    by_cases h1 : (r : Int) = a
    · rw [if_pos h1, if_pos h1, if_neg (by omega), h1]; omega
    · rw [if_neg h1, if_neg h1]
      by_cases h2 : (r : Int) = b
      · rw [if_pos h2, if_pos h2, h2]; omega
      · rw [if_neg h2, if_neg h2]; omega
  rw [e, sm_add, sm_add, sm_delta n ha, sm_delta n hb]
  omega
theorem rG_rng {L : Int → Int} (hL : ∀ r, -100000000 ≤ L r ∧ L r ≤ 100000000) {a b u v : Int} (hu : 0 ≤ u ∧ u ≤ 20) (hv : 0 ≤ v ∧ v ≤ 20) (r : Int) : (-200000000 ≤ rG L a b u v r ∧ rG L a b u v r ≤ 200000000) ∧ (-2000000000 ≤ L r * u ∧ L r * u ≤ 2000000000) ∧ (-2000000000 ≤ L r * v ∧ L r * v ≤ 2000000000) ∧ (-200000000 ≤ (L r * u).tdiv 10 ∧ (L r * u).tdiv 10 ≤ 200000000) ∧ (-200000000 ≤ (L r * v).tdiv 10 ∧ (L r * v).tdiv 10 ≤ 200000000) := by
  have m1 := mul_rng2 (A := 100000000) (B := 20) (hL r) (y := u) (by omega)
  have m2 := mul_rng2 (A := 100000000) (B := 20) (hL r) (y := v) (by omega)
  have e1 : ((L r * u).tdiv 10).natAbs = (L r * u).natAbs / 10 := by rw [Int.natAbs_tdiv]; rfl
  have e2 : ((L r * v).tdiv 10).natAbs = (L r * v).natAbs / 10 := by rw [Int.natAbs_tdiv]; rfl
  have h := hL r
  refine ⟨?_, by omega, by omega, by omega, by omega⟩
  unfold rG
  split
  · omega
  · split <;> omega
section SPEC
variable (L : Int → Int → Int) (la : Int → Int) (op : Int → Prop) (a b : Int) (R : Nat)
def rB (j u v : Int) : Int := sm (fun r => rG (L j) a b u v r) R
noncomputable def rTot (u v : Int) (n : Nat) : Int := sm (fun j => ifp (op j) (rB L a b R j u v)) n
noncomputable def rWor (u v : Int) (n : Nat) : Int := sm (fun j => one (op j ∧ rB L a b R j u v < la j)) n
/-- the best pair among the first: which, how many are worse off, what it comes to -/
noncomputable def bst (lim : Int) (n : Nat) : Nat → Int × Int × Int
  | 0 => (-1, 0, 0)
  | k + 1 => if rTot L op a b R (k / 21 : Nat) (k % 21 : Nat) n ≤ lim ∧ ((bst lim n k).1 = -1 ∨ rWor L la op a b R (k / 21 : Nat) (k % 21 : Nat) n < (bst lim n k).2.1 ∨ (rWor L la op a b R (k / 21 : Nat) (k % 21 : Nat) n = (bst lim n k).2.1 ∧ (bst lim n k).2.2 < rTot L op a b R (k / 21 : Nat) (k % 21 : Nat) n)) then (k, rWor L la op a b R (k / 21 : Nat) (k % 21 : Nat) n, rTot L op a b R (k / 21 : Nat) (k % 21 : Nat) n) else bst lim n k
end SPEC
variable {L : Int → Int → Int} {la : Int → Int} {a b : Int} {R : Nat}
theorem rB_rng (hL : ∀ j r, -100000000 ≤ L j r ∧ L j r ≤ 100000000) {u v : Int} (hu : 0 ≤ u ∧ u ≤ 20) (hv : 0 ≤ v ∧ v ≤ 20) (hR : R ≤ 30) (j : Int) : -6000000000 ≤ rB L a b R j u v ∧ rB L a b R j u v ≤ 6000000000 := by
  have := sm_rng (f := fun r => rG (L j) a b u v r) (-200000000) 200000000 R (fun r _ => (rG_rng (hL j) hu hv r).1)
  unfold rB
  omega
theorem g191_l206_w {Q : Int × gM → Prop} {K : Int → gM → Option (Int × gM)} {S : gM} {y lim x5 x8 x9 x10 x13 x15 j : Int} {k : Nat} (hL : ∀ j r, -100000000 ≤ L j r ∧ L j r ≤ 100000000) (hk : k < 441) (hR : R ≤ 30) (hj : 0 ≤ j ∧ j < 12) (h85 : ∀ r : Int, 0 ≤ r → r < 30 → gl S 85 (30 * j + r) = L j r)
    (hK : Wp Q (K (rB L a b R j (k / 21 : Nat) (k % 21 : Nat)) S)) : Wp Q (g191_l206 y a b lim x5 R x8 x9 x10 k x13 x15 j K 100000 0 0 S) := by
  have key := upto R (fun n i => Wp Q (g191_l206 y a b lim x5 R x8 x9 x10 k x13 x15 j K n (sm (fun r => rG (L j) a b (k / 21 : Nat) (k % 21 : Nat) r) i) i S)) ?_ 100000 0 (Nat.zero_le _) (by omega)
  · exact key
  intro n i hi ih
  have hu : 0 ≤ ((k / 21 : Nat) : Int) ∧ ((k / 21 : Nat) : Int) ≤ 20 := by omega
  have hv : 0 ≤ ((k % 21 : Nat) : Int) ∧ ((k % 21 : Nat) : Int) ≤ 20 := by omega
  dsimp only [g191_l206]
  refine p_if (fun hc => ?_) (fun hc => ?_)
  · have : i = R := by omega
    rw [this]; exact hK
  have ih := ih (by omega)
  rw [sm_s] at ih
  have rr := rG_rng (hL j) (a := a) (b := b) hu hv i
  have sr := sm_rng (f := fun r => rG (L j) a b (k / 21 : Nat) (k % 21 : Nat) r) (-200000000) 200000000 i (fun r _ => (rG_rng (hL j) hu hv r).1)
  have et : ((k : Int)).tmod 21 = (k % 21 : Nat) := rfl
  have ed : ((k : Int)).tdiv 21 = (k / 21 : Nat) := rfl
  have hLi := hL j i
  refine p_if (fun c1 => ?_) (fun c1 => ?_)
  · refine p_if (fun c2 => ?_) (fun c2 => ?_)
    · have e : rG (L j) a b (k / 21 : Nat) (k % 21 : Nat) i = L j i := by unfold rG; rw [if_neg c1, if_neg c2]
      rw [e] at ih
      rw [ckI_t (by omega), ckI_t (by omega), chk_t (by omega), lt_t, h85 i (by omega) (by omega), ckJ_t (by omega), ckI_t (by omega)]
      exact ih
    · have e : rG (L j) a b (k / 21 : Nat) (k % 21 : Nat) i = (L j i * (k % 21 : Nat)).tdiv 10 := by unfold rG; rw [if_neg c1, if_pos (Classical.not_not.mp c2)]
      rw [e] at ih
      rw [ckI_t (by omega), ckI_t (by omega), chk_t (by omega), lt_t, h85 i (by omega) (by omega), ed, ckI_t (by omega), lt_t, et, ckJ_t (by omega), ckJ_t (by omega), ckJ_t (by omega), ckI_t (by omega)]
      exact ih
  · have e : rG (L j) a b (k / 21 : Nat) (k % 21 : Nat) i = (L j i * (k / 21 : Nat)).tdiv 10 := by unfold rG; rw [if_pos (Classical.not_not.mp c1)]
    rw [e] at ih
    rw [ckI_t (by omega), ckI_t (by omega), chk_t (by omega), lt_t, h85 i (by omega) (by omega), ed, ckI_t (by omega), ckJ_t (by omega), ckJ_t (by omega), ckJ_t (by omega), ckI_t (by omega)]
    exact ih
theorem g191_l178_w {Q : Int × gM → Prop} {K : Int → Int → gM → Option (Int × gM)} {S : gM} {y lim x5 x8 x9 x10 n : Int} {k : Nat} (hL : ∀ j r, -100000000 ≤ L j r ∧ L j r ≤ 100000000) (hk : k < 441) (hR : R ≤ 30) (hn : gi S 55 1 = n) (h0 : 0 ≤ n ∧ n ≤ 12) (h85 : ∀ j : Int, 0 ≤ j → j < n → y < gi S 67 j → gl S 90 j = la j ∧ ∀ r : Int, 0 ≤ r → r < 30 → gl S 85 (30 * j + r) = L j r)
    (hK : Wp Q (K (rTot L (fun j => y < gi S 67 j) a b R (k / 21 : Nat) (k % 21 : Nat) n.toNat) (rWor L la (fun j => y < gi S 67 j) a b R (k / 21 : Nat) (k % 21 : Nat) n.toNat) S)) : Wp Q (g191_l178 y a b lim x5 R x8 x9 x10 k K 100000 0 0 0 S) := by
  have hu : 0 ≤ ((k / 21 : Nat) : Int) ∧ ((k / 21 : Nat) : Int) ≤ 20 := by omega
  have hv : 0 ≤ ((k % 21 : Nat) : Int) ∧ ((k % 21 : Nat) : Int) ≤ 20 := by omega
  have key := upto n.toNat (fun m i => Wp Q (g191_l178 y a b lim x5 R x8 x9 x10 k K m (rTot L (fun j => y < gi S 67 j) a b R (k / 21 : Nat) (k % 21 : Nat) i) (rWor L la (fun j => y < gi S 67 j) a b R (k / 21 : Nat) (k % 21 : Nat) i) i S)) ?_ 100000 0 (Nat.zero_le _) (by omega)
  · exact key
  intro m i hi ih
  dsimp only [g191_l178]
  rw [lt_t, hn]
  refine p_if (fun hc => ?_) (fun hc => ?_)
  · have : i = n.toNat := by omega
    rw [this]; exact hK
  have ih := ih (by omega)
  have eT : rTot L (fun j => y < gi S 67 j) a b R (k / 21 : Nat) (k % 21 : Nat) (i + 1) = rTot L (fun j => y < gi S 67 j) a b R (k / 21 : Nat) (k % 21 : Nat) i + ifp (y < gi S 67 i) (rB L a b R i (k / 21 : Nat) (k % 21 : Nat)) := sm_s _ i
  have eW : rWor L la (fun j => y < gi S 67 j) a b R (k / 21 : Nat) (k % 21 : Nat) (i + 1) = rWor L la (fun j => y < gi S 67 j) a b R (k / 21 : Nat) (k % 21 : Nat) i + one (y < gi S 67 i ∧ rB L a b R i (k / 21 : Nat) (k % 21 : Nat) < la i) := sm_s _ i
  rw [eT, eW] at ih
  have bT : -6000000000 * (i : Int) ≤ rTot L (fun j => y < gi S 67 j) a b R (k / 21 : Nat) (k % 21 : Nat) i ∧ rTot L (fun j => y < gi S 67 j) a b R (k / 21 : Nat) (k % 21 : Nat) i ≤ 6000000000 * i := sm_rng (f := fun j => ifp (y < gi S 67 j) (rB L a b R j (k / 21 : Nat) (k % 21 : Nat))) (-6000000000) 6000000000 i (fun j _ => ifp_rng (rB_rng hL hu hv hR j) (by omega) (by omega))
  have bW : 0 * (i : Int) ≤ rWor L la (fun j => y < gi S 67 j) a b R (k / 21 : Nat) (k % 21 : Nat) i ∧ rWor L la (fun j => y < gi S 67 j) a b R (k / 21 : Nat) (k % 21 : Nat) i ≤ 1 * i := sm_rng (f := fun j => one (y < gi S 67 j ∧ rB L a b R j (k / 21 : Nat) (k % 21 : Nat) < la j)) 0 1 i (fun j _ => one_rng _)
  have bB := rB_rng (a := a) (b := b) hL hu hv hR i
  refine p_call (g122_eq i y (by omega)) ?_
  dsimp only
  refine p_if1n (fun ho => ?_) (fun ho => ?_)
  · rw [ifp_t ho] at ih
    have h := h85 i (by omega) (by omega) ho
    refine g191_l206_w hL hk hR (by omega) h.2 ?_
    rw [ckJ_t (by omega), chk_t (by omega), lt_t, h.1]
    refine p_if (fun c => ?_) (fun c => ?_)
    · rw [one_f (fun z => by have := z.2; omega), Int.add_zero] at ih
      refine p_call (g113_eq 0) ?_
      dsimp only
      rw [one_f (fun z => z rfl), ckI_t (by omega), ckI_t (by omega), Int.add_zero]
      exact ih
    · rw [one_t ⟨ho, by omega⟩] at ih
      refine p_call (g113_eq 1) ?_
      dsimp only
      rw [one_t (by decide), ckI_t (by omega), ckI_t (by omega)]
      exact ih
  · rw [ifp_f ho, one_f (fun z => ho z.1), Int.add_zero, Int.add_zero] at ih
    rw [ckI_t (by omega)]
    exact ih
theorem bst_rng (lim : Int) (op : Int → Prop) (n : Nat) (k : Nat) : -1 ≤ (bst L la op a b R lim n k).1 ∧ (bst L la op a b R lim n k).1 < k := by
  induction k with
  | zero => exact ⟨by show (-1 : Int) ≤ -1; omega, by show (-1 : Int) < 0; omega⟩
  | succ k ih =>
    rw [bst]
    split
    · exact ⟨by show (-1 : Int) ≤ k; omega, by show (k : Int) < (k + 1 : Nat); omega⟩
    · omega
theorem g191_l161_w {Q : Int × gM → Prop} {K : Int → Int → Int → gM → Option (Int × gM)} {S : gM} {y lim x5 n : Int} (hL : ∀ j r, -100000000 ≤ L j r ∧ L j r ≤ 100000000) (hR : R ≤ 30) (hn : gi S 55 1 = n) (h0 : 0 ≤ n ∧ n ≤ 12) (h85 : ∀ j : Int, 0 ≤ j → j < n → y < gi S 67 j → gl S 90 j = la j ∧ ∀ r : Int, 0 ≤ r → r < 30 → gl S 85 (30 * j + r) = L j r)
    (hK : Wp Q (K (bst L la (fun j => y < gi S 67 j) a b R lim n.toNat 441).1 (bst L la (fun j => y < gi S 67 j) a b R lim n.toNat 441).2.1 (bst L la (fun j => y < gi S 67 j) a b R lim n.toNat 441).2.2 S)) : Wp Q (g191_l161 y a b lim x5 R K 100000 (-1) 0 0 0 S) := by
  have key := upto 441 (fun m k => Wp Q (g191_l161 y a b lim x5 R K m (bst L la (fun j => y < gi S 67 j) a b R lim n.toNat k).1 (bst L la (fun j => y < gi S 67 j) a b R lim n.toNat k).2.1 (bst L la (fun j => y < gi S 67 j) a b R lim n.toNat k).2.2 k S)) ?_ 100000 0 (Nat.zero_le _) (by omega)
  · exact key
  intro m k hk ih
  dsimp only [g191_l161]
  refine p_if (fun hc => ?_) (fun hc => ?_)
  · have : k = 441 := by omega
    subst this
    exact hK
  have ih := ih (by omega)
  rw [bst] at ih
  refine g191_l178_w hL (by omega) hR hn h0 h85 ?_
  generalize bst L la (fun j => y < gi S 67 j) a b R lim n.toNat k = B at *
  generalize rTot L (fun j => y < gi S 67 j) a b R (k / 21 : Nat) (k % 21 : Nat) n.toNat = T at *
  generalize rWor L la (fun j => y < gi S 67 j) a b R (k / 21 : Nat) (k % 21 : Nat) n.toNat = Wr at *
  have stay : ¬ (T ≤ lim ∧ (B.1 = -1 ∨ Wr < B.2.1 ∨ (Wr = B.2.1 ∧ B.2.2 < T))) → Wp Q (w_ckI ((k : Int) + 1) fun V83 => g191_l161 y a b lim x5 R K m B.1 B.2.1 B.2.2 V83 S) := fun hno => by
    rw [if_neg hno] at ih
    rw [ckI_t (by omega)]
    exact ih
  have take : (T ≤ lim ∧ (B.1 = -1 ∨ Wr < B.2.1 ∨ (Wr = B.2.1 ∧ B.2.2 < T))) → Wp Q (g191_j382 K (g191_l161 y a b lim x5 R K m) y a b lim x5 R k T Wr S) := fun hy => by
    rw [if_pos hy] at ih
    unfold g191_j382
    rw [ckI_t (by omega)]
    exact ih
  refine p_if (fun c1 => stay (fun z => by have := z.1; omega)) (fun c1 => ?_)
  refine p_if (fun c2 => take ⟨by omega, Or.inl c2⟩) (fun c2 => ?_)
  refine p_if (fun c3 => stay (fun z => by rcases z.2 with w | w | w <;> omega)) (fun c3 => ?_)
  refine p_if (fun c4 => take ⟨by omega, Or.inr (Or.inl (by omega))⟩) (fun c4 => ?_)
  refine p_if (fun c5 => take ⟨by omega, Or.inr (Or.inr ⟨by omega, c5⟩)⟩) (fun c5 => ?_)
  exact stay (fun z => by rcases z.2 with w | w | w <;> omega)
end RT
