/-! the class's works: the parts of a total, the sums, the years before -/
section CP
/-- the class's rows after all -/
def CT (S0 S : gM) (f y d : Int) (la th : Int → Int) (es em : Int) : Prop := ∀ j : Int, 0 ≤ j → j < 12 →
  ((∀ r : Int, 0 ≤ r → r < 30 → gl S 34 (30 * j + r) = ifp (j < gi S0 55 1 ∧ y < gi S0 67 j) (liS (cor S0) (gi S0) f y d la es em j r)) ∧ gl S 40 j = ifp (j < gi S0 55 1 ∧ y < gi S0 67 j) (la j) ∧ gl S 35 j = ifp (j < gi S0 55 1 ∧ y < gi S0 67 j) (baS (cor S0) (gi S0) f y d la es em j)) ∧ gl S 36 j = ifp (j < gi S0 55 1 ∧ y < gi S0 67 j) (flS (cor S0) (gi S0) f y d la th es em j) ∧ gl S 37 j = ifp (j < gi S0 55 1 ∧ y < gi S0 67 j) (cpS (cor S0) (gi S0) f y d la th es em j) ∧ gl S 38 j = ifp (j < gi S0 55 1) (shS (cor S0) (gi S0) f y d la th es em j) ∧ gl S 41 j = ifp (j < gi S0 55 1) (suS (cor S0) (gi S0) f y d la th es em j)
theorem g71_l8_w {Q : gM → Prop} {K : Int → Int → gM → Option gM} {S : gM} {A P : Int → Int} {t : Int} (hA : ∀ j : Int, 0 ≤ j → j < 12 → gl S 35 j + gl S 36 j + gl S 37 j = A j ∧ gl S 39 j = P j ∧ (-100000000000 ≤ A j ∧ A j ≤ 100000000000) ∧ (0 ≤ P j ∧ P j ≤ 100000000) ∧ (-500000000000 ≤ gl S 35 j ∧ gl S 35 j ≤ 500000000000) ∧ (-500000000000 ≤ gl S 36 j ∧ gl S 36 j ≤ 500000000000)) (ht : -1 ≤ t ∧ t ≤ 9999999)
    (hK : Wp Q (K (t - sm (fun j => A j) 12) (sm (fun j => P j) 12) S)) : Wp Q (g71_l8 K 100000 t 0 0 S) := by
  have key := upto 12 (fun n k => ∀ X Y : Int, X = t - sm (fun j => A j) k → Y = sm (fun j => P j) k → Wp Q (g71_l8 K n X Y k S)) ?_ 100000 0 (Nat.zero_le _) (by omega) t 0 (Int.sub_zero _).symm rfl
  · exact key
  intro n k hk ih X Y hX hY
  dsimp only [g71_l8]
  refine p_if (fun hc => ?_) (fun hc => ?_)
  · have : k = 12 := by omega
    subst this
    rw [hX, hY]
    exact hK
  have h := hA k (by omega) (by omega)
  have b1 := sm_rng (f := fun j => A j) (-100000000000) 100000000000 k (fun j hj => (hA j (by omega) (by omega)).2.2.1)
  have b2 := sm_rng (f := fun j => P j) 0 100000000 k (fun j hj => (hA j (by omega) (by omega)).2.2.2.1)
  rw [chk_t (by omega), lt_t, chk_t (by omega), lt_t, ckJ_t (by omega), chk_t (by omega), lt_t, ckJ_t (by omega), h.1, ckJ_t (by omega), chk_t (by omega), lt_t, h.2.1, ckJ_t (by omega), ckI_t (by omega)]
  exact ih (by omega) _ _ (by rw [hX, sm_s]; omega) (by rw [hY, sm_s])
theorem g71_l73_w {Q : gM → Prop} {K : Int → gM → Option gM} {S1 : gM} {P : Int → Int} {r a : Int} (hr : -1300000000000 ≤ r ∧ r ≤ 1300000000000) (ha : 0 < a ∧ a ≤ 1200000000) (hP : ∀ j : Int, 0 ≤ j → j < 12 → gl S1 39 j = P j ∧ (0 ≤ P j ∧ P j ≤ a)) (hz : ∀ j : Int, 0 ≤ j → j < 12 → gl S1 38 j = 0)
    (hK : ∀ S, Fr [38] S1 S → (∀ j : Int, 0 ≤ j → j < 12 → gl S 38 j = (r * P j).tdiv a) → Wp Q (K (r - sm (fun j => (r * P j).tdiv a) 12) S)) : Wp Q (g71_l73 r a K 100000 r 0 S1) := by
  have key := upto 12 (fun n k => ∀ X S, X = r - sm (fun j => (r * P j).tdiv a) k → Fr [38] S1 S → (∀ j : Int, 0 ≤ j → j < k → gl S 38 j = (r * P j).tdiv a) → Wp Q (g71_l73 r a K n X k S)) ?_ 100000 0 (Nat.zero_le _) (by omega) r S1 (Int.sub_zero _).symm Fr.refl (fun j a b => by omega)
  · exact key
  intro n k hk ih X S hX hS h38
  dsimp only [g71_l73]
  refine p_if (fun hc => ?_) (fun hc => ?_)
  · have : k = 12 := by omega
    subst this
    rw [hX]
    exact hK S hS (fun j a b => h38 j a (by omega))
  have h := hP k (by omega) (by omega)
  have b0 := fun (j : Int) (hj : 0 ≤ j ∧ j < 12) => sha_rng (r := r) (hP j hj.1 hj.2).2
  have b1 := sm_rng (f := fun j => (r * P j).tdiv a) (-1300000000000) 1300000000000 k (fun j hj => by have := b0 j (by omega); omega)
  have b2 := b0 k (by omega)
  have b3 := tdiv_part (r := r) h.2
  have b4 : (r.tdiv a).natAbs ≤ r.natAbs := by rw [Int.natAbs_tdiv]; exact Nat.div_le_self _ _
  have b5 : (r.tmod a).natAbs < a.natAbs := by rw [Int.natAbs_tmod]; exact Nat.mod_lt _ (by omega)
  have b6 := mul_rng2 (A := 1200000000) (B := 1200000000) (x := r.tmod a) (y := P k) (by omega) (by omega)
  have b7 := tdiv_two (r := r) (p := P k) ha.1 h.2.1
  have e39 : gl S 39 k = P k := (hS.l rfl).trans h.1
  have b8 : ((r.tmod a * P k).tdiv a).natAbs ≤ (r.tmod a).natAbs := sha_rng h.2
  rw [chk_t (by omega), ckJ_t (by omega), chk_t (by omega), lt_t, e39, ckJ_t (by omega), chk_t (by omega), ckJ_t (by omega), lt_t, chk_t (by omega), lt_t, ckJ_t (by omega), chk_t (by omega), ckJ_t (by omega), ckJ_t (by omega), b7, chk_t (by omega), lt_t, chk_t (by omega), lt_t, gl_wl, if_pos ⟨rfl, rfl⟩, ckJ_t (by omega), ckI_t (by omega)]
  refine ih (by omega) _ _ (by rw [hX, sm_s]; omega) (hS.wl rfl) (fun j a b => ?_)
  rw [gl_wl]
  by_cases hj : j = k
  · rw [if_pos ⟨rfl, hj⟩, hj]
  · rw [if_neg (fun w => hj w.2)]; exact h38 j a (by omega)
/-- how many of the first have a part -/
noncomputable def cnW (P : Int → Int) (k : Nat) : Int := sm (fun j => one (0 < P j)) k
theorem cnW_s (P : Int → Int) (k : Nat) : cnW P (k + 1) = cnW P k + one (0 < P k) := rfl
theorem cnW_rng (P : Int → Int) (k : Nat) : 0 ≤ cnW P k ∧ cnW P k ≤ k := by
  unfold cnW
  have := sm_rng (f := fun j => one (0 < P j)) 0 1 k (fun j _ => one_rng _)
  omega
theorem cnW_mono (P : Int → Int) {j k : Nat} (h : j ≤ k) : cnW P j ≤ cnW P k := by
  induction k with
  | zero => have : j = 0 := by omega
            rw [this]; omega
  | succ k ih =>
    by_cases e : j = k + 1
    · rw [e]; omega
    · have := ih (by omega)
      rw [cnW_s]
      have := one_rng (0 < P k)
      omega
theorem g71_l152_w {Q : gM → Prop} {S1 : gM} {P B : Int → Int} {c l : Int} (hc : c = 1 ∨ c = -1) (hl : l = c * (l.natAbs : Int)) (hL : (l.natAbs : Int) < cnW P 12) (hP : ∀ j : Int, 0 ≤ j → j < 12 → gl S1 39 j = P j) (hB : ∀ j : Int, 0 ≤ j → j < 12 → gl S1 38 j = B j ∧ (-1300000000000 ≤ B j ∧ B j ≤ 1300000000000))
    (hK : ∀ S, Fr [38] S1 S → (∀ j : Int, 0 ≤ j → j < 12 → gl S 38 j = B j + ifp (0 < P j ∧ cnW P j.toNat < (l.natAbs : Int)) c) → Q S) : Wp Q (g71_l152 c 100000 l 0 S1) := by
  have key := upto 12 (fun n k => ∀ X S, X = c * (max 0 ((l.natAbs : Int) - cnW P k)) → Fr [38] S1 S → (∀ j : Int, 0 ≤ j → j < 12 → gl S 38 j = B j + if j < k then ifp (0 < P j ∧ cnW P j.toNat < (l.natAbs : Int)) c else 0) → Wp Q (g71_l152 c n X k S)) ?_ 100000 0 (Nat.zero_le _) (by omega) l S1 (by rw [show cnW P 0 = 0 from rfl, show max 0 ((l.natAbs : Int) - 0) = (l.natAbs : Int) by omega]; exact hl) Fr.refl (fun j a b => by rw [if_neg (by omega), Int.add_zero]; exact (hB j a b).1)
  · exact key
  intro n k hk ih X S hX hS h38
  have hck := cnW_rng P k
  have hX1 : (X = 0 ↔ (l.natAbs : Int) ≤ cnW P k) ∧ -12 ≤ X ∧ X ≤ 12 := by
    have := cnW_rng P 12
    rcases hc with rfl | rfl <;> omega
  have done : X = 0 → Wp Q (some S) := fun hX0 => by
    refine p_some (hK S hS (fun j a b => ?_))
    rw [h38 j a b]
    by_cases hj : j < k
    · rw [if_pos hj]
    · rw [if_neg hj]
      have := cnW_mono P (j := k) (k := j.toNat) (by omega)
      rw [ifp_f (fun z => by have := z.2; omega)]
  dsimp only [g71_l152]
  refine p_if (fun h => by omega) (fun _ => ?_)
  refine p_if done (fun hX0 => ?_)
  have hlt : cnW P k < (l.natAbs : Int) := by
    have := fun z => hX0 (hX1.1.mpr z)
    omega
  have hk12 : k < 12 := by
    by_cases h : k < 12
    · exact h
    · have : k = 12 := by omega
      rw [this] at hlt; omega
  have ih := ih hk12
  rw [cnW_s] at ih
  have em : ((k : Int)).tmod 12 = k := Int.tmod_eq_of_lt (by omega) (by omega)
  have ed : -1 ≤ ((k : Int)).tdiv 12 ∧ ((k : Int)).tdiv 12 ≤ 12 := by
    have e : (((k : Int)).tdiv 12).natAbs = ((k : Int)).natAbs / 12 := by rw [Int.natAbs_tdiv]; rfl
    omega
  have e39 : gl S 39 k = P k := (hS.l rfl).trans (hP k (by omega) (by omega))
  have e38 : gl S 38 k = B k := by rw [h38 k (by omega) (by omega), if_neg (by omega), Int.add_zero]
  have bk := (hB k (by omega) (by omega)).2
  have hc3 : -1 ≤ c ∧ c ≤ 1 := by omega
  rw [ckI_t (by omega), lt_t, em, chk_t (by omega), lt_t, e39]
  refine p_if (fun hp => ?_) (fun hp => ?_)
  · rw [chk_t (by omega), lt_t, e38, ckJ_t (by omega), chk_t (by omega), lt_t, ckJ_t (by omega), ckI_t (by omega)]
    refine ih _ _ ?_ (hS.wl rfl) (fun j a b => ?_)
    · rw [one_t hp]
      rcases hc with rfl | rfl <;> omega
    · rw [gl_wl]
      by_cases hj : j = k
      · rw [if_pos ⟨rfl, hj⟩, if_pos (by omega), hj, show ((k : Int)).toNat = k from Int.toNat_natCast k, ifp_t ⟨hp, hlt⟩]
      · rw [if_neg (fun z => hj z.2), h38 j a b]
        by_cases hjk : j < k
        · rw [if_pos hjk, if_pos (by omega)]
        · rw [if_neg hjk, if_neg (by omega)]
  · rw [ckI_t (by omega)]
    refine ih _ _ ?_ hS (fun j a b => ?_)
    · rw [one_f hp, Int.add_zero]; exact hX
    · rw [h38 j a b]
      by_cases hj : j = k
      · rw [if_neg (by omega), if_pos (by omega), hj, ifp_f (fun z => hp z.1)]
      · by_cases hjk : j < k
        · rw [if_pos hjk, if_pos (by omega)]
        · rw [if_neg hjk, if_neg (by omega)]
/-- the parts of a total in the class -/
theorem g71_w {Q : gM → Prop} {S : gM} {A P : Int → Int} {t : Int} (hA : ∀ j : Int, 0 ≤ j → j < 12 → gl S 35 j + gl S 36 j + gl S 37 j = A j ∧ gl S 39 j = P j ∧ (-100000000000 ≤ A j ∧ A j ≤ 100000000000) ∧ (0 ≤ P j ∧ P j ≤ 100000000) ∧ (-500000000000 ≤ gl S 35 j ∧ gl S 35 j ≤ 500000000000) ∧ (-500000000000 ≤ gl S 36 j ∧ gl S 36 j ≤ 500000000000)) (ht : -1 ≤ t ∧ t ≤ 9999999) (hz : ∀ j : Int, 0 ≤ j → j < 12 → gl S 38 j = 0)
    {r a l c : Int} (er : r = t - sm (fun j => A j) 12) (ea : a = sm (fun j => P j) 12) (el : l = r - sm (fun j => (r * P j).tdiv a) 12) (hc : c = if 0 < l then 1 else -1)
    (hK : ∀ S', Fr [38] S S' → (∀ j : Int, 0 ≤ j → j < 12 → gl S' 38 j = ifp (¬ a = 0) ((r * P j).tdiv a + ifp (0 < P j ∧ cnW P j.toNat < (l.natAbs : Int)) c)) → Q S') : Wp Q (g71 t S) := by
  unfold g71
  refine g71_l8_w hA ht ?_
  have b1 := sm_rng (f := fun j => A j) (-100000000000) 100000000000 12 (fun j hj => (hA j (by omega) (by omega)).2.2.1)
  have b2 := sm_rng (f := fun j => P j) 0 100000000 12 (fun j hj => (hA j (by omega) (by omega)).2.2.2.1)
  rw [← er, ← ea]
  refine p_if (fun ha => ?_) (fun ha => ?_)
  · have hP : ∀ j : Int, 0 ≤ j → j < 12 → gl S 39 j = P j ∧ (0 ≤ P j ∧ P j ≤ a) := fun j u v => by
      have h := hA j u v
      refine ⟨h.2.1, h.2.2.2.1.1, ?_⟩
      have := sm_le (f := fun j => P j) (n := 12) (fun i hi => (hA i (by omega) (by omega)).2.2.2.1.1) (j := j.toNat) (by omega)
      rw [show ((j.toNat : Nat) : Int) = j by omega] at this
      omega
    refine g71_l73_w (P := P) (by omega) (by omega) hP hz ?_
    intro S1 h1 h38
    rw [← el]
    have hL : (l.natAbs : Int) < cnW P 12 := by
      rw [el]
      exact lef_rng r a (fun j => P j) 12 (fun j hj => (hP j (by omega) (by omega)).2.1) ea.symm ha
    have hB : ∀ j : Int, 0 ≤ j → j < 12 → gl S1 38 j = (r * P j).tdiv a ∧ (-1300000000000 ≤ (r * P j).tdiv a ∧ (r * P j).tdiv a ≤ 1300000000000) := fun j u v => by
      refine ⟨h38 j u v, ?_⟩
      have := sha_rng (r := r) (hP j u v).2
      omega
    have fin : ∀ S', Fr [38] S1 S' → (∀ j : Int, 0 ≤ j → j < 12 → gl S' 38 j = (r * P j).tdiv a + ifp (0 < P j ∧ cnW P j.toNat < (l.natAbs : Int)) c) → Q S' := fun S' f' h' => hK S' (h1.trans f') (fun j u v => by rw [h' j u v, ifp_t (show ¬ a = 0 by omega)])
    refine p_if (fun hl => ?_) (fun hl => ?_)
    · have e : c = -1 := by rw [hc, if_neg (by omega)]
      rw [e] at fin
      exact g71_l152_w (P := P) (Or.inr rfl) (by omega) hL (fun j u v => (h1.l rfl).trans (hP j u v).1) hB fin
    · have e : c = 1 := by rw [hc, if_pos (by omega)]
      rw [e] at fin
      exact g71_l152_w (P := P) (Or.inl rfl) (by omega) hL (fun j u v => (h1.l rfl).trans (hP j u v).1) hB fin
  · refine p_some (hK S Fr.refl (fun j u v => ?_))
    rw [hz j u v, ifp_f (by omega)]
theorem g63_l176_w {Q : gM → Prop} {S1 : gM} {V : Int → Int} (hV : ∀ j : Int, 0 ≤ j → j < 12 → gl S1 35 j + gl S1 36 j + gl S1 37 j + gl S1 38 j = V j ∧ (-500000000000 ≤ gl S1 35 j ∧ gl S1 35 j ≤ 500000000000) ∧ (-500000000000 ≤ gl S1 36 j ∧ gl S1 36 j ≤ 500000000000) ∧ (-500000000000 ≤ gl S1 37 j ∧ gl S1 37 j ≤ 500000000000) ∧ (-1300000000001 ≤ gl S1 38 j ∧ gl S1 38 j ≤ 1300000000001))
    (hK : ∀ S, Fr [41] S1 S → (∀ j : Int, 0 ≤ j → j < 12 → gl S 41 j = V j) → Q S) : Wp Q (g63_l176 100000 0 S1) := by
  have key := upto 12 (fun n k => ∀ S, Fr [41] S1 S → (∀ j : Int, 0 ≤ j → j < k → gl S 41 j = V j) → Wp Q (g63_l176 n k S)) ?_ 100000 0 (Nat.zero_le _) (by omega) S1 Fr.refl (fun j a b => by omega)
  · exact key
  intro n k hk ih S hS h41
  dsimp only [g63_l176]
  refine p_if (fun hc => ?_) (fun hc => ?_)
  · exact p_some (hK S hS (fun j a b => h41 j a (by omega)))
  have h := hV k (by omega) (by omega)
  rw [chk_t (by omega), lt_t, chk_t (by omega), lt_t, show gl S 35 k = gl S1 35 k from hS.l rfl, show gl S 36 k = gl S1 36 k from hS.l rfl, ckJ_t (by omega), chk_t (by omega), lt_t, show gl S 37 k = gl S1 37 k from hS.l rfl, ckJ_t (by omega), chk_t (by omega), lt_t, show gl S 38 k = gl S1 38 k from hS.l rfl, ckJ_t (by omega), chk_t (by omega), lt_t, h.1, ckI_t (by omega)]
  refine ih (by omega) _ (hS.wl rfl) (fun j a b => ?_)
  rw [gl_wl]
  by_cases hj : j = k
  · rw [if_pos ⟨rfl, hj⟩, hj]
  · rw [if_neg (fun w => hj w.2)]; exact h41 j a (by omega)
end CP
