/-! calls: adopt -/
section AD
variable {S S1 S2 : gM}
/-- who may speak on an agreement, and who has -/
def vot (S : gM) (p j : Int) : Prop := gi S 57 j = gi S 99 p ∧ gi S 55 0 / 100 < gi S 67 j
noncomputable def nV (S : gM) (p : Int) (k : Nat) : Int := sm (fun j => one (vot S p j)) k
noncomputable def nO (S : gM) (p : Int) (k : Nat) : Int := sm (fun j => one (vot S p j ∧ tb (gi S 100 p) j = true)) k
theorem nVO_rng (p : Int) (k : Nat) : (0 ≤ nV S p k ∧ nV S p k ≤ k) ∧ (0 ≤ nO S p k ∧ nO S p k ≤ k) := by
  have a := sm_rng (f := fun j => one (vot S p j)) 0 1 k (fun j _ => one_rng _)
  have b := sm_rng (f := fun j => one (vot S p j ∧ tb (gi S 100 p) j = true)) 0 1 k (fun j _ => one_rng _)
  unfold nV nO
  omega
theorem g109_eq (hD : DayI S) (hL : LandI S) (hM : MoveI S) {p : Int} (hp : 0 ≤ p ∧ p < gi S 55 53) : g109 p S = some (if 2 * nO S p (gi S 55 1).toNat ≤ nV S p (gi S 55 1).toNat then 0 else 1, S) := by
  have h0 := hL.1
  have hm0 := hM.1
  have hmp := hM.2.1 p hp.1 hp.2
  have hm2 := hM.2.2.1 p hp.1 (by omega)
  have hr := fun k => nVO_rng (S := S) p k
  refine p_eq ?_
  unfold g109
  have key := upto (gi S 55 1).toNat (fun n k => Wp (fun z => z = (if 2 * nO S p (gi S 55 1).toNat ≤ nV S p (gi S 55 1).toNat then (0 : Int) else 1, S)) (g109_l7 p (fun Y12 Y13 S14 => w_ckI (2 * Y13) fun V15 => if V15 ≤ Y12 then some (0, S14) else some (1, S14)) n (nV S p k) (nO S p k) k S)) ?_ 100000 0 (Nat.zero_le _) (by omega)
  · exact key
  intro n k hk ih
  have hrk := hr k
  dsimp only [g109_l7]
  rw [lt_t, h0.2.2.1]
  refine p_if (fun hc => ?_) (fun hc => ?_)
  · have e : k = (gi S 55 1).toNat := by omega
    rw [ckI_t (by omega), e]
    refine p_if (fun c => ?_) (fun c => ?_)
    · rw [if_pos c]; exact p_some rfl
    · rw [if_neg c]; exact p_some rfl
  have ih := ih (by omega)
  have hk2 := hL.2.1 k (by omega) (by omega)
  have eV : nV S p (k + 1) = nV S p k + one (vot S p k) := sm_s _ k
  have eO : nO S p (k + 1) = nO S p k + one (vot S p k ∧ tb (gi S 100 p) k = true) := sm_s _ k
  rw [eV, eO] at ih
  refine p_call (g108_eq p k (by omega) (by omega) (by omega) (by rw [hD.1]; exact hD.2)) ?_
  dsimp only
  have ev : (gi S 3 k = gi S 46 p ∧ (k : Int) < gi S 1 7 ∧ gi S 0 10 / 100 < gi S 6 k) ↔ vot S p k := by
    unfold vot
    rw [hk2.1.2.1, hmp.1.1, hk2.1.2.2.2, hD.1]
    exact ⟨fun z => ⟨z.1, z.2.2⟩, fun z => ⟨z.1, by omega, z.2⟩⟩
  rw [propext ev]
  refine p_if1n (fun hv => ?_) (fun hv => ?_)
  · rw [one_t hv] at ih
    rw [ckI_t (by omega)]
    refine p_call (g22_eq p k (by omega) (by omega)) ?_
    dsimp only
    rw [hm2.1, show ((k : Int)).toNat = k from Int.toNat_natCast k]
    refine p_if1 (fun hb => ?_) (fun hb => ?_)
    · rw [one_t ⟨hv, hb⟩] at ih
      rw [ckI_t (by omega), ckI_t (by omega)]
      exact ih
    · rw [one_f (fun z => hb z.2), Int.add_zero] at ih
      rw [ckI_t (by omega)]
      exact ih
  · rw [one_f hv, one_f (fun z => hv z.1), Int.add_zero, Int.add_zero] at ih
    rw [ckI_t (by omega)]
    exact ih
theorem g186_l79_w {Q : Int × gM → Prop} {K : Int → Int → gM → Option (Int × gM)} (hD : DayI S) (hL : LandI S) (hM : MoveI S) {p y : Int} (hp : 0 ≤ p ∧ p < gi S 55 53) (hK : Wp Q (K (nV S p (gi S 55 1).toNat) (nO S p (gi S 55 1).toNat) S)) : Wp Q (g186_l79 p y (gi S 99 p) K 100000 0 0 0 S) := by
  have h0 := hL.1
  have hm0 := hM.1
  have hr := fun k => nVO_rng (S := S) p k
  have key := upto (gi S 55 1).toNat (fun n k => Wp Q (g186_l79 p y (gi S 99 p) K n (nV S p k) (nO S p k) k S)) ?_ 100000 0 (Nat.zero_le _) (by omega)
  · exact key
  intro n k hk ih
  have hrk := hr k
  dsimp only [g186_l79]
  rw [lt_t]
  refine p_if (fun hc => ?_) (fun hc => ?_)
  · have e : k = (gi S 55 1).toNat := by omega
    rw [e]; exact hK
  have ih := ih (by omega)
  have eV : nV S p (k + 1) = nV S p k + one (vot S p k) := sm_s _ k
  have eO : nO S p (k + 1) = nO S p k + one (vot S p k ∧ tb (gi S 100 p) k = true) := sm_s _ k
  rw [eV, eO] at ih
  rw [chk_t (by omega), lt_t]
  refine p_if (fun c => ?_) (fun c => ?_)
  · rw [one_f (fun z => c z.1), one_f (fun z => c z.1.1), Int.add_zero, Int.add_zero] at ih
    rw [ckI_t (by omega)]
    exact ih
  have c := Classical.not_not.mp c
  refine p_call (g118_eq hD.2) ?_
  dsimp only
  refine p_call (g122_eq k _ (by omega)) ?_
  dsimp only
  refine p_if1n (fun hv => ?_) (fun hv => ?_)
  · have hvo : vot S p k := ⟨c, hv⟩
    rw [one_t hvo] at ih
    rw [ckI_t (by omega), chk_t (by omega), lt_t, lt_t, lt_t, tb_shr _ _ (by omega), show ((k : Int)).toNat = k from Int.toNat_natCast k]
    by_cases hb : tb (gi S 100 p) k = true
    · rw [one_t ⟨hvo, hb⟩] at ih
      rw [if_pos hb, ckI_t (by omega), ckI_t (by omega)]
      exact ih
    · rw [one_f (fun z => hb z.2), Int.add_zero] at ih
      rw [if_neg hb, ckI_t (by omega), ckI_t (by omega), Int.add_zero]
      exact ih
  · rw [one_f (fun z => hv z.2), one_f (fun z => hv z.1.2), Int.add_zero, Int.add_zero] at ih
    rw [ckI_t (by omega)]
    exact ih
/-- what is already given in a land and a year -/
noncomputable def gvn (F : Nat → Int → Int) (c y : Int) (k : Nat) : Int := sm (fun j => ifp (¬ F 101 j = 0 ∧ F 99 j = c ∧ F 97 j = y) (F 96 j)) k
theorem gvn_rng (h : MoveI S) (c y : Int) (k : Nat) (hk : (k : Int) ≤ gi S 55 53) : 0 ≤ gvn (gi S) c y k ∧ gvn (gi S) c y k ≤ 9999999 * k := by
  have := sm_rng (f := fun j => ifp (¬ gi S 101 j = 0 ∧ gi S 99 j = c ∧ gi S 97 j = y) (gi S 96 j)) 0 9999999 k (fun j hj => ifp_rng (by have := (h.2.1 j (by omega) (by omega)).2.1; omega) (by omega) (by omega))
  unfold gvn
  omega
theorem g23_eq (h : MoveI S) (c y : Int) : g23 c y S = some (gvn (gi S) c y (gi S 55 53).toNat, S) := by
  have h0 := h.1
  refine p_eq ?_
  unfold g23
  have key := upto (gi S 55 53).toNat (fun n k => Wp (fun z => z = (gvn (gi S) c y (gi S 55 53).toNat, S)) (g23_l5 c y n (gvn (gi S) c y k) k S)) ?_ 100000 0 (Nat.zero_le _) (by omega)
  · exact key
  intro n k hk ih
  dsimp only [g23_l5]
  rw [lt_t, h0.1]
  refine p_if (fun hc => ?_) (fun hc => ?_)
  · have : k = (gi S 55 53).toNat := by omega
    rw [this]; exact p_some rfl
  have ih := ih (by omega)
  have es : gvn (gi S) c y (k + 1) = gvn (gi S) c y k + ifp (¬ gi S 101 k = 0 ∧ gi S 99 k = c ∧ gi S 97 k = y) (gi S 96 k) := sm_s _ k
  rw [es] at ih
  have hm := h.2.1 k (by omega) (by omega)
  have hm2 := h.2.2.1 k (by omega) (by omega)
  have b := gvn_rng h c y k (by omega)
  rw [chk_t (by omega), lt_t, hm2.2.1]
  refine p_if (fun c1 => ?_) (fun c1 => ?_)
  · rw [ifp_f (fun z => z.1 c1), Int.add_zero] at ih
    rw [ckI_t (by omega)]; exact ih
  rw [chk_t (by omega), lt_t, hm.1.1]
  refine p_if (fun c2 => ?_) (fun c2 => ?_)
  · rw [ifp_f (fun z => c2 z.2.1), Int.add_zero] at ih
    rw [ckI_t (by omega)]; exact ih
  rw [chk_t (by omega), lt_t, hm.1.2.2.2.2.1]
  refine p_if (fun c3 => ?_) (fun c3 => ?_)
  · rw [ifp_f (fun z => c3 z.2.2), Int.add_zero] at ih
    rw [ckI_t (by omega)]; exact ih
  rw [ifp_t ⟨c1, Classical.not_not.mp c2, Classical.not_not.mp c3⟩] at ih
  rw [chk_t (by omega), lt_t, hm.1.2.2.2.1, ckJ_t (by omega), ckI_t (by omega)]; exact ih
theorem g186_l163_w {Q : Int × gM → Prop} {K : Int → gM → Option (Int × gM)} (h : MoveI S) {p c y v : Int} (hv : 0 ≤ v ∧ v ≤ 9999999) (hK : Wp Q (K (v + gvn (gi S) c y (gi S 55 53).toNat) S)) : Wp Q (g186_l163 p y c K 100000 v 0 S) := by
  have h0 := h.1
  have key := upto (gi S 55 53).toNat (fun n k => Wp Q (g186_l163 p y c K n (v + gvn (gi S) c y k) k S)) ?_ 100000 0 (Nat.zero_le _) (by omega)
  · have e : v + gvn (gi S) c y 0 = v := Int.add_zero v
    rw [e] at key
    exact key
  intro n k hk ih
  dsimp only [g186_l163]
  rw [lt_t]
  refine p_if (fun hc => ?_) (fun hc => ?_)
  · have : k = (gi S 55 53).toNat := by omega
    rw [this]; exact hK
  have ih := ih (by omega)
  have es : gvn (gi S) c y (k + 1) = gvn (gi S) c y k + ifp (¬ gi S 101 k = 0 ∧ gi S 99 k = c ∧ gi S 97 k = y) (gi S 96 k) := sm_s _ k
  rw [es] at ih
  have hm := h.2.1 k (by omega) (by omega)
  have b := gvn_rng h c y k (by omega)
  rw [chk_t (by omega), lt_t]
  refine p_if (fun c1 => ?_) (fun c1 => ?_)
  · rw [ifp_f (fun z => z.1 c1), Int.add_zero] at ih
    rw [ckJ_t (by omega), ckI_t (by omega), Int.add_zero]; exact ih
  rw [chk_t (by omega), lt_t]
  refine p_if (fun c2 => ?_) (fun c2 => ?_)
  · rw [ifp_f (fun z => c2 z.2.1), Int.add_zero] at ih
    rw [ckJ_t (by omega), ckI_t (by omega), Int.add_zero]; exact ih
  rw [chk_t (by omega), lt_t]
  refine p_if (fun c3 => ?_) (fun c3 => ?_)
  · rw [ifp_f (fun z => c3 z.2.2), Int.add_zero] at ih
    rw [ckJ_t (by omega), ckI_t (by omega), Int.add_zero]; exact ih
  rw [ifp_t ⟨c1, Classical.not_not.mp c2, Classical.not_not.mp c3⟩, ← Int.add_assoc] at ih
  rw [chk_t (by omega), lt_t, ckJ_t (by omega), ckI_t (by omega)]; exact ih
end AD
