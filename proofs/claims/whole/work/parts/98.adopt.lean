/-! calls: adopt -/
section AD
variable {S S1 S2 : gM}
/-- who may speak on an agreement, and who has -/
def vot (S : gM) (p j : Int) : Prop := gi S 57 j = gi S 99 p ∧ gi S 55 0 / 100 < gi S 67 j
noncomputable def nV (S : gM) (p : Int) (k : Nat) : Int := sm (fun j => one (vot S p j)) k
noncomputable def nO (S : gM) (p : Int) (k : Nat) : Int := sm (fun j => one (vot S p j ∧ tb (gi S 100 p) j = true)) k
theorem nVO_rng (p : Int) (k : Nat) : (0 ≤ nV S p k ∧ nV S p k ≤ k) ∧ (0 ≤ nO S p k ∧ nO S p k ≤ k) := by
  have a := sm_rng (f := fun j => one (vot S p j)) 0 1 k (fun j _ => one_rng _)
  have b := sm_rng (f := fun j => one (vot S p j ∧ tb (gi S 100 p) j = true)) 0 1 k (fun j _ => one_rng _)
  unfold nV nO
  omega
theorem g109_eq (hD : DayI S) (hL : LandI S) (hM : MoveI S) {p : Int} (hp : 0 ≤ p ∧ p < gi S 55 53) : g109 p S = some (if 2 * nO S p (gi S 55 1).toNat ≤ nV S p (gi S 55 1).toNat then 0 else 1, S) := by
  have h0 := hL.1
  have hm0 := hM.1
  have hmp := hM.2.1 p hp.1 hp.2
  have hm2 := hM.2.2.1 p hp.1 (by omega)
  have hr := fun k => nVO_rng (S := S) p k
  refine p_eq ?_
  unfold g109
  have key := upto (gi S 55 1).toNat (fun n k => Wp (fun z => z = (if 2 * nO S p (gi S 55 1).toNat ≤ nV S p (gi S 55 1).toNat then (0 : Int) else 1, S)) (g109_l7 p (fun Y12 Y13 S14 => w_ckI (2 * Y13) fun V15 => if V15 ≤ Y12 then some (0, S14) else some (1, S14)) n (nV S p k) (nO S p k) k S)) ?_ 100000 0 (Nat.zero_le _) (by omega)
  · exact key
  intro n k hk ih
  have hrk := hr k
  dsimp only [g109_l7]
  rw [lt_t, h0.2.2.1]
  refine p_if (fun hc => ?_) (fun hc => ?_)
  · have e : k = (gi S 55 1).toNat := by omega
    rw [ckI_t (by omega), e]
    refine p_if (fun c => ?_) (fun c => ?_)
    · rw [if_pos c]; exact p_some rfl
    · rw [if_neg c]; exact p_some rfl
  have ih := ih (by omega)
  have hk2 := hL.2.1 k (by omega) (by omega)
  have eV : nV S p (k + 1) = nV S p k + one (vot S p k) := sm_s _ k
  have eO : nO S p (k + 1) = nO S p k + one (vot S p k ∧ tb (gi S 100 p) k = true) := sm_s _ k
  rw [eV, eO] at ih
  refine p_call (g108_eq p k (by omega) (by omega) (by omega) (by rw [hD.1]; exact hD.2)) ?_
  dsimp only
  have ev : (gi S 3 k = gi S 46 p ∧ (k : Int) < gi S 1 7 ∧ gi S 0 10 / 100 < gi S 6 k) ↔ vot S p k := by
    unfold vot
    rw [hk2.1.2.1, hmp.1.1, hk2.1.2.2.2, hD.1]
    exact ⟨fun z => ⟨z.1, z.2.2⟩, fun z => ⟨z.1, by omega, z.2⟩⟩
  rw [propext ev]
  refine p_if1n (fun hv => ?_) (fun hv => ?_)
  · rw [one_t hv] at ih
    rw [ckI_t (by omega)]
    refine p_call (g22_eq p k (by omega) (by omega)) ?_
    dsimp only
    rw [hm2.1, show ((k : Int)).toNat = k from Int.toNat_natCast k]
    refine p_if1 (fun hb => ?_) (fun hb => ?_)
    · rw [one_t ⟨hv, hb⟩] at ih
      rw [ckI_t (by omega), ckI_t (by omega)]
      exact ih
    · rw [one_f (fun z => hb z.2), Int.add_zero] at ih
      rw [ckI_t (by omega)]
      exact ih
  · rw [one_f hv, one_f (fun z => hv z.1), Int.add_zero, Int.add_zero] at ih
    rw [ckI_t (by omega)]
    exact ih
theorem g186_l79_w {Q : Int × gM → Prop} {K : Int → Int → gM → Option (Int × gM)} (hD : DayI S) (hL : LandI S) (hm0 : 0 ≤ gi S 55 53 ∧ gi S 55 53 ≤ 20) {p y : Int} (hp : 0 ≤ p ∧ p < gi S 55 53) (hK : Wp Q (K (nV S p (gi S 55 1).toNat) (nO S p (gi S 55 1).toNat) S)) : Wp Q (g186_l79 p y (gi S 99 p) K 100000 0 0 0 S) := by
  have h0 := hL.1
  have hr := fun k => nVO_rng (S := S) p k
  have key := upto (gi S 55 1).toNat (fun n k => Wp Q (g186_l79 p y (gi S 99 p) K n (nV S p k) (nO S p k) k S)) ?_ 100000 0 (Nat.zero_le _) (by omega)
  · exact key
  intro n k hk ih
  have hrk := hr k
  dsimp only [g186_l79]
  rw [lt_t]
  refine p_if (fun hc => ?_) (fun hc => ?_)
  · have e : k = (gi S 55 1).toNat := by omega
    rw [e]; exact hK
  have ih := ih (by omega)
  have eV : nV S p (k + 1) = nV S p k + one (vot S p k) := sm_s _ k
  have eO : nO S p (k + 1) = nO S p k + one (vot S p k ∧ tb (gi S 100 p) k = true) := sm_s _ k
  rw [eV, eO] at ih
  rw [chk_t (by omega), lt_t]
  refine p_if (fun c => ?_) (fun c => ?_)
  · rw [one_f (fun z => c z.1), one_f (fun z => c z.1.1), Int.add_zero, Int.add_zero] at ih
    rw [ckI_t (by omega)]
    exact ih
  have c := Classical.not_not.mp c
  refine p_call (g118_eq hD.2) ?_
  dsimp only
  refine p_call (g122_eq k _ (by omega)) ?_
  dsimp only
  refine p_if1n (fun hv => ?_) (fun hv => ?_)
  · have hvo : vot S p k := ⟨c, hv⟩
    rw [one_t hvo] at ih
    rw [ckI_t (by omega), chk_t (by omega), lt_t, lt_t, lt_t, tb_shr _ _ (by omega), show ((k : Int)).toNat = k from Int.toNat_natCast k]
    by_cases hb : tb (gi S 100 p) k = true
    · rw [one_t ⟨hvo, hb⟩] at ih
      rw [if_pos hb, ckI_t (by omega), ckI_t (by omega)]
      exact ih
    · rw [one_f (fun z => hb z.2), Int.add_zero] at ih
      rw [if_neg hb, ckI_t (by omega), ckI_t (by omega), Int.add_zero]
      exact ih
  · rw [one_f (fun z => hv z.2), one_f (fun z => hv z.1.2), Int.add_zero, Int.add_zero] at ih
    rw [ckI_t (by omega)]
    exact ih
/-- what is already given in a land and a year -/
noncomputable def gvn (F : Nat → Int → Int) (c y : Int) (k : Nat) : Int := sm (fun j => ifp (¬ F 101 j = 0 ∧ F 99 j = c ∧ F 97 j = y) (F 96 j)) k
def MovR (S : gM) : Prop := (0 ≤ gi S 55 53 ∧ gi S 55 53 ≤ 20) ∧ ∀ k : Int, 0 ≤ k → k < gi S 55 53 → (1 ≤ gi S 96 k ∧ gi S 96 k ≤ 9999999) ∧ (0 ≤ gi S 97 k ∧ gi S 97 k < 10) ∧ (0 ≤ gi S 98 k ∧ gi S 98 k ≤ 999)
theorem MoveI.r (h : MoveI S) : MovR S := ⟨h.1.2, fun k a b => ⟨(h.2.1 k a b).2.1, (h.2.1 k a b).2.2.1, (h.2.1 k a b).2.2.2.1⟩⟩
theorem gvn_rng (h : MovR S) (c y : Int) (k : Nat) (hk : (k : Int) ≤ gi S 55 53) : 0 ≤ gvn (gi S) c y k ∧ gvn (gi S) c y k ≤ 9999999 * k := by
  have := sm_rng (f := fun j => ifp (¬ gi S 101 j = 0 ∧ gi S 99 j = c ∧ gi S 97 j = y) (gi S 96 j)) 0 9999999 k (fun j hj => ifp_rng (by have := (h.2 j (by omega) (by omega)).1; omega) (by omega) (by omega))
  unfold gvn
  omega
theorem g23_eq (h : MoveI S) (c y : Int) : g23 c y S = some (gvn (gi S) c y (gi S 55 53).toNat, S) := by
  have h0 := h.1
  refine p_eq ?_
  unfold g23
  have key := upto (gi S 55 53).toNat (fun n k => Wp (fun z => z = (gvn (gi S) c y (gi S 55 53).toNat, S)) (g23_l5 c y n (gvn (gi S) c y k) k S)) ?_ 100000 0 (Nat.zero_le _) (by omega)
  · exact key
  intro n k hk ih
  dsimp only [g23_l5]
  rw [lt_t, h0.1]
  refine p_if (fun hc => ?_) (fun hc => ?_)
  · have : k = (gi S 55 53).toNat := by omega
    rw [this]; exact p_some rfl
  have ih := ih (by omega)
  have es : gvn (gi S) c y (k + 1) = gvn (gi S) c y k + ifp (¬ gi S 101 k = 0 ∧ gi S 99 k = c ∧ gi S 97 k = y) (gi S 96 k) := sm_s _ k
  rw [es] at ih
  have hm := h.2.1 k (by omega) (by omega)
  have hm2 := h.2.2.1 k (by omega) (by omega)
  have b := gvn_rng h.r c y k (by omega)
  rw [chk_t (by omega), lt_t, hm2.2.1]
  refine p_if (fun c1 => ?_) (fun c1 => ?_)
  · rw [ifp_f (fun z => z.1 c1), Int.add_zero] at ih
    rw [ckI_t (by omega)]; exact ih
  rw [chk_t (by omega), lt_t, hm.1.1]
  refine p_if (fun c2 => ?_) (fun c2 => ?_)
  · rw [ifp_f (fun z => c2 z.2.1), Int.add_zero] at ih
    rw [ckI_t (by omega)]; exact ih
  rw [chk_t (by omega), lt_t, hm.1.2.2.2.2.1]
  refine p_if (fun c3 => ?_) (fun c3 => ?_)
  · rw [ifp_f (fun z => c3 z.2.2), Int.add_zero] at ih
    rw [ckI_t (by omega)]; exact ih
  rw [ifp_t ⟨c1, Classical.not_not.mp c2, Classical.not_not.mp c3⟩] at ih
  rw [chk_t (by omega), lt_t, hm.1.2.2.2.1, ckJ_t (by omega), ckI_t (by omega)]; exact ih
theorem g186_l163_w {Q : Int × gM → Prop} {K : Int → gM → Option (Int × gM)} (h : MovR S) {p c y v : Int} (hv : 0 ≤ v ∧ v ≤ 9999999) (hK : Wp Q (K (v + gvn (gi S) c y (gi S 55 53).toNat) S)) : Wp Q (g186_l163 p y c K 100000 v 0 S) := by
  have h0 := h.1
  have key := upto (gi S 55 53).toNat (fun n k => Wp Q (g186_l163 p y c K n (v + gvn (gi S) c y k) k S)) ?_ 100000 0 (Nat.zero_le _) (by omega)
  · have e : v + gvn (gi S) c y 0 = v := Int.add_zero v
    rw [e] at key
    exact key
  intro n k hk ih
  dsimp only [g186_l163]
  rw [lt_t]
  refine p_if (fun hc => ?_) (fun hc => ?_)
  · have : k = (gi S 55 53).toNat := by omega
    rw [this]; exact hK
  have ih := ih (by omega)
  have es : gvn (gi S) c y (k + 1) = gvn (gi S) c y k + ifp (¬ gi S 101 k = 0 ∧ gi S 99 k = c ∧ gi S 97 k = y) (gi S 96 k) := sm_s _ k
  rw [es] at ih
  have hm := h.2 k (by omega) (by omega)
  have b := gvn_rng h c y k (by omega)
  rw [chk_t (by omega), lt_t]
  refine p_if (fun c1 => ?_) (fun c1 => ?_)
  · rw [ifp_f (fun z => z.1 c1), Int.add_zero] at ih
    rw [ckJ_t (by omega), ckI_t (by omega), Int.add_zero]; exact ih
  rw [chk_t (by omega), lt_t]
  refine p_if (fun c2 => ?_) (fun c2 => ?_)
  · rw [ifp_f (fun z => c2 z.2.1), Int.add_zero] at ih
    rw [ckJ_t (by omega), ckI_t (by omega), Int.add_zero]; exact ih
  rw [chk_t (by omega), lt_t]
  refine p_if (fun c3 => ?_) (fun c3 => ?_)
  · rw [ifp_f (fun z => c3 z.2.2), Int.add_zero] at ih
    rw [ckJ_t (by omega), ckI_t (by omega), Int.add_zero]; exact ih
  rw [ifp_t ⟨c1, Classical.not_not.mp c2, Classical.not_not.mp c3⟩, ← Int.add_assoc] at ih
  rw [chk_t (by omega), lt_t, ckJ_t (by omega), ckI_t (by omega)]; exact ih
/-- what a land is given by its formula -/
noncomputable def ldS (S : gM) (c : Int) (y : Nat) (d : Int) (k : Nat) : Int := sm (fun j => ifp (gi S 57 j = c) (suY S y d j)) k
theorem ldS_rng (h : ClsI S) {y : Nat} (hy : y ≤ 9) {d : Int} (hd : 0 ≤ d) (c : Int) (k : Nat) (hk : (k : Int) ≤ gi S 55 1) : -1311000000001 * (k : Int) ≤ ldS S c y d k ∧ ldS S c y d k ≤ 1311000000001 * k := by
  unfold ldS
  exact sm_rng (f := fun j => ifp (gi S 57 j = c) (suY S y d j)) (-1311000000001) 1311000000001 k (fun j hj => ifp_rng (suY_rng h hy hd (by omega)) (by omega) (by omega))
theorem g110_l52_w {Q : Int × gM → Prop} {K : Int → gM → Option (Int × gM)} (h : ClsI S) {p : Int} {y : Nat} {c d : Int} {x4 : Option Nat} (hy : y ≤ 9) (hd : 0 ≤ d) (hS : Fr frZ S S1) (h41 : ∀ j : Int, 0 ≤ j → j < gi S 55 1 → gl S1 41 j = suY S y d j) (hK : Wp Q (K (ldS S c y d (gi S 55 1).toNat) S1)) : Wp Q (g110_l52 p y c x4 K 100000 0 0 S1) := by
  have n12 := h.1.n12
  have key := upto (gi S 55 1).toNat (fun n k => Wp Q (g110_l52 p y c x4 K n (ldS S c y d k) k S1)) ?_ 100000 0 (Nat.zero_le _) (by omega)
  · exact key
  intro n k hk ih
  dsimp only [g110_l52]
  rw [lt_t, show gi S1 1 7 = gi S 55 1 from (hS.i rfl).trans h.1.2.1.1.2.2.1]
  refine p_if (fun hc => ?_) (fun hc => ?_)
  · have : k = (gi S 55 1).toNat := by omega
    rw [this]; exact hK
  have ih := ih (by omega)
  have es : ldS S c y d (k + 1) = ldS S c y d k + ifp (gi S 57 k = c) (suY S y d k) := sm_s _ k
  rw [es] at ih
  have b := ldS_rng h hy hd c k (by omega)
  have b2 := suY_rng h hy hd (s := k) (by omega)
  have hk2 := h.1.2.1.2.1 k (by omega) (by omega)
  rw [chk_t (by omega), lt_t, show gi S1 3 k = gi S 57 k from (hS.i rfl).trans hk2.1.2.1]
  refine p_if (fun c1 => ?_) (fun c1 => ?_)
  · rw [ifp_f c1, Int.add_zero] at ih
    rw [ckI_t (by omega)]; exact ih
  · rw [ifp_t (Classical.not_not.mp c1)] at ih
    rw [chk_t (by omega), lt_t, h41 k (by omega) (by omega), ckJ_t (by omega), ckI_t (by omega)]; exact ih
theorem g186_l242_w {Q : Int × gM → Prop} {K : Int → gM → Option (Int × gM)} (h : ClsI S) {p x : Int} {y : Nat} {c d : Int} (hy : y ≤ 9) (hd : 0 ≤ d) {F : List Nat} (hS : Fr F S S1) (hf : F.contains 57 = false ∧ F.contains 1000055001 = false) (h89 : ∀ j : Int, 0 ≤ j → j < gi S 55 1 → gl S1 89 j = suY S y d j) (hK : Wp Q (K (ldS S c y d (gi S 55 1).toNat) S1)) : Wp Q (g186_l242 p y c x K 100000 0 0 S1) := by
  have n12 := h.1.n12
  have key := upto (gi S 55 1).toNat (fun n k => Wp Q (g186_l242 p y c x K n (ldS S c y d k) k S1)) ?_ 100000 0 (Nat.zero_le _) (by omega)
  · exact key
  intro n k hk ih
  dsimp only [g186_l242]
  rw [lt_t, show gi S1 55 1 = gi S 55 1 from hS.i (q := 55) (k := 1) hf.2]
  refine p_if (fun hc => ?_) (fun hc => ?_)
  · have : k = (gi S 55 1).toNat := by omega
    rw [this]; exact hK
  have ih := ih (by omega)
  have es : ldS S c y d (k + 1) = ldS S c y d k + ifp (gi S 57 k = c) (suY S y d k) := sm_s _ k
  rw [es] at ih
  have b := ldS_rng h hy hd c k (by omega)
  have b2 := suY_rng h hy hd (s := k) (by omega)
  rw [chk_t (by omega), lt_t, show gi S1 57 k = gi S 57 k from hS.i (q := 57) (k := k) hf.1]
  refine p_if (fun c1 => ?_) (fun c1 => ?_)
  · rw [ifp_f c1, Int.add_zero] at ih
    rw [ckJ_t (by omega), ckI_t (by omega), Int.add_zero]; exact ih
  · rw [ifp_t (Classical.not_not.mp c1)] at ih
    rw [chk_t (by omega), lt_t, h89 k (by omega) (by omega), ckJ_t (by omega), ckI_t (by omega)]; exact ih
/-- an agreement keeps within what a land may give on -/
def okG (S : gM) (p : Int) : Prop := gvn (gi S) (gi S 99 p) (gi S 97 p) (gi S 55 53).toNat + gi S 96 p ≤ (ldS S (gi S 99 p) (gi S 97 p).toNat (gi S 55 0) (gi S 55 1).toNat * tls (gi S) (inF (gi S) (gi S 97 p) (gi S 55 0)) 4 0).tdiv 100
theorem okG_rng (h : ClsI S) (hD : DayI S) {y : Nat} (hy : y ≤ 9) (c : Int) {t : Int} (ht : 0 ≤ t ∧ t ≤ 100) : (-1573200000001200 ≤ ldS S c y (gi S 55 0) (gi S 55 1).toNat * t ∧ ldS S c y (gi S 55 0) (gi S 55 1).toNat * t ≤ 1573200000001200) ∧ (-15732000000012 ≤ (ldS S c y (gi S 55 0) (gi S 55 1).toNat * t).tdiv 100 ∧ (ldS S c y (gi S 55 0) (gi S 55 1).toNat * t).tdiv 100 ≤ 15732000000012) := by
  have n12 := h.1.n12
  have b := ldS_rng h hy (d := gi S 55 0) hD.2.1 c (gi S 55 1).toNat (by omega)
  have m := mul_rng2 (A := 15732000000012) (B := 100) (x := ldS S c y (gi S 55 0) (gi S 55 1).toNat) (y := t) (by omega) (by omega)
  have e : ((ldS S c y (gi S 55 0) (gi S 55 1).toNat * t).tdiv 100).natAbs = (ldS S c y (gi S 55 0) (gi S 55 1).toNat * t).natAbs / 100 := by rw [Int.natAbs_tdiv]; rfl
  omega
theorem g110_w (h : ClsI S) (hD : DayI S) (hM : MoveI S) {p : Int} (hp : 0 ≤ p ∧ p < gi S 55 53) : Wp (fun r => (okG S p → r.1 = 0) ∧ (¬ okG S p → r.1 = 1) ∧ Fr frZ S r.2 ∧ ClsI r.2) (g110 p S) := by
  have n12 := h.1.n12
  have hm0 := hM.1
  have hm := hM.2.1 p hp.1 hp.2
  unfold g110
  rw [chk_t (by omega), lt_t, hm.1.2.2.2.2.1, chk_t (by omega), lt_t, hm.1.1, lt_t, hD.1]
  obtain ⟨y, ey⟩ : ∃ k : Nat, gi S 97 p = k := ⟨(gi S 97 p).toNat, by omega⟩
  have hy : y ≤ 9 := by omega
  obtain ⟨q, e56, hq, -⟩ := g56_w h.2.2.2.1 (gi S 97 p) (gi S 55 0) (by omega) hD.2.1
  refine p_call e56 ?_
  dsimp only
  rw [lt_t, lt_t, hD.1, ey]
  refine p_use (cls_y h Fr.refl h hy hD.2.1) (fun S1 h1 => ?_)
  refine g110_l52_w h (d := gi S 55 0) hy hD.2.1 h1.1 (fun j a b => by rw [(h1.2.2.1 j a (by omega)).2.2.2.2, ifp_t b]; rfl) ?_
  have sc : Sc S S1 := h1.1.mono rfl
  have M1 : MoveI S1 := hM.fr h1.1 rfl
  refine p_call (g23_eq M1 (gi S 99 p) y) ?_
  dsimp only
  have eg : gvn (gi S1) (gi S 99 p) y (gi S1 55 53).toNat = gvn (gi S) (gi S 99 p) y (gi S 55 53).toNat := by
    unfold gvn
    rw [show gi S1 55 53 = gi S 55 53 from h1.1.i rfl]
    exact sm_congr _ (fun j _ => by rw [show gi S1 101 j = gi S 101 j from h1.1.i rfl, show gi S1 99 j = gi S 99 j from h1.1.i rfl, show gi S1 97 j = gi S 97 j from h1.1.i rfl, show gi S1 96 j = gi S 96 j from h1.1.i rfl])
  have bg := gvn_rng hM.r (gi S 99 p) y (gi S 55 53).toNat (by omega)
  have q1 := hq.sc sc
  have l6 : gln S1 (q + 1) 0 = 6 := q1.1.1.2.2.1
  have e3 : gi S1 (q + 1) 3 = tls (gi S) (inF (gi S) (gi S 97 p) (gi S 55 0)) 4 0 := (sc.law hq.1.1.2.2.2.2.2.2.2 1 (by omega) 3).trans hq.1.2.2.1.2.2.2.1
  have ht := (tls_rng hq.2.1 hq.2.2.1).2.2.2.1
  have bo := okG_rng h hD hy (gi S 99 p) ht
  rw [chk_t (by omega), lt_t, show gi S1 49 p = gi S 96 p from (h1.1.i rfl).trans hm.1.2.2.2.1, eg, ckJ_t (by omega), ob_s, chk_t q1.1.1.1, chk_t q1.1.1.2.1.1, l6, chk_t (by omega), chk_t (by omega), lt_t, e3, ckJ_t (by omega), ckJ_t (by omega)]
  have eo : okG S p ↔ gvn (gi S) (gi S 99 p) y (gi S 55 53).toNat + gi S 96 p ≤ (ldS S (gi S 99 p) y (gi S 55 0) (gi S 55 1).toNat * tls (gi S) (inF (gi S) (gi S 97 p) (gi S 55 0)) 4 0).tdiv 100 := by
    unfold okG
    rw [ey, Int.toNat_natCast]
  refine p_if (fun c => ?_) (fun c => ?_)
  · exact p_some ⟨fun _ => rfl, fun z => absurd (eo.mpr c) z, h1.1, h1.2.1⟩
  · exact p_some ⟨fun z => absurd (eo.mp z) c, fun _ => rfl, h1.1, h1.2.1⟩
end AD
