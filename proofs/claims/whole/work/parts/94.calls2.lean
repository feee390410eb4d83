/-! calls: what is moved, put right, owed -/
section C2
variable {S S1 S2 : gM}
noncomputable def mvT (F : Nat → Int → Int) (s y : Int) (k : Int) : Int := ifp (¬ F 101 k = 0 ∧ F 97 k = y) (ifp (F 95 k = s) (F 96 k) - ifp (F 94 k = s) (F 96 k))
noncomputable def mvd (F : Nat → Int → Int) (s y : Int) : Int := sm (fun k => mvT F s y k) (F 55 53).toNat
theorem mvT_rng (h : MoveI S) (s y : Int) {k : Int} (hk : 0 ≤ k ∧ k < gi S 55 53) : -9999999 ≤ mvT (gi S) s y k ∧ mvT (gi S) s y k ≤ 9999999 := by
  have := (h.2.1 k hk.1 hk.2).2.1
  unfold mvT
  have a := ifp_rng (c := gi S 95 k = s) (x := gi S 96 k) (A := 0) (B := 9999999) (by omega) (by omega) (by omega)
  have b := ifp_rng (c := gi S 94 k = s) (x := gi S 96 k) (A := 0) (B := 9999999) (by omega) (by omega) (by omega)
  exact ifp_rng (by omega) (by omega) (by omega)
theorem g24_eq (h : MoveI S) (s y : Int) : g24 s y S = some (mvd (gi S) s y, S) := by
  have h0 := h.1
  refine p_eq ?_
  unfold g24 mvd
  have key := upto (gi S 55 53).toNat (fun n k => Wp (fun z => z = (sm (fun k => mvT (gi S) s y k) (gi S 55 53).toNat, S)) (g24_l5 s y n (sm (fun k => mvT (gi S) s y k) k) k S)) ?_ 100000 0 (Nat.zero_le _) (by omega)
  · exact key
  intro n k hk ih
  dsimp only [g24_l5]
  rw [lt_t, h0.1]
  refine p_if (fun hc => ?_) (fun hc => ?_)
  · have : k = (gi S 55 53).toNat := by omega
    rw [this]; exact p_some rfl
  have ih := ih (by omega)
  rw [sm_s] at ih
  have hm := h.2.1 k (by omega) (by omega)
  have hm2 := h.2.2.1 k (by omega) (by omega)
  have b := sm_rng (f := fun k => mvT (gi S) s y k) (-9999999) 9999999 k (fun j hj => mvT_rng h s y (by omega))
  have e : mvT (gi S) s y k = ifp (¬ gi S 101 k = 0 ∧ gi S 97 k = y) (ifp (gi S 95 k = s) (gi S 96 k) - ifp (gi S 94 k = s) (gi S 96 k)) := rfl
  rw [chk_t (by omega), lt_t, hm2.2.1]
  refine p_if (fun c1 => ?_) (fun c1 => ?_)
  · rw [e, ifp_f (fun z => z.1 c1), Int.add_zero] at ih
    rw [ckI_t (by omega)]; exact ih
  rw [chk_t (by omega), lt_t, hm.1.2.2.2.2.1]
  refine p_if (fun c2 => ?_) (fun c2 => ?_)
  · rw [e, ifp_t ⟨c1, c2⟩] at ih
    have fin : ∀ x : Int, x = sm (fun k => mvT (gi S) s y k) k + ifp (gi S 95 k = s) (gi S 96 k) → Wp (fun z => z = (sm (fun k => mvT (gi S) s y k) (gi S 55 53).toNat, S)) (g24_j60 (g24_l5 s y n) s y x k S) := fun x hx => by
      unfold g24_j60
      rw [chk_t (by omega), lt_t, hm.1.2.1]
      have a := ifp_rng (c := gi S 95 k = s) (x := gi S 96 k) (A := 0) (B := 9999999) (by omega) (by omega) (by omega)
      refine p_if (fun c3 => ?_) (fun c3 => ?_)
      · rw [ifp_f c3] at ih
        rw [ckI_t (by omega), hx]
        rw [Int.sub_zero] at ih
        exact ih
      · rw [ifp_t (Classical.not_not.mp c3)] at ih
        rw [chk_t (by omega), lt_t, hm.1.2.2.2.1, ckJ_t (by omega), ckI_t (by omega), hx, Int.add_sub_assoc]
        exact ih
    rw [chk_t (by omega), lt_t, hm.1.2.2.1]
    refine p_if (fun c3 => ?_) (fun c3 => ?_)
    · exact fin _ (by rw [ifp_f c3, Int.add_zero])
    · rw [chk_t (by omega), lt_t, hm.1.2.2.2.1, ckJ_t (by omega)]
      exact fin _ (by rw [ifp_t (Classical.not_not.mp c3)])
  · rw [e, ifp_f (fun z => c2 z.2), Int.add_zero] at ih
    rw [ckI_t (by omega)]; exact ih
theorem g181_eq (h : MoveI S) (s y : Int) : g181 s y S = some (mvd (gi S) s y, S) := by
  have h0 := h.1
  refine p_eq ?_
  unfold g181 mvd
  have key := upto (gi S 55 53).toNat (fun n k => Wp (fun z => z = (sm (fun k => mvT (gi S) s y k) (gi S 55 53).toNat, S)) (g181_l5 s y n (sm (fun k => mvT (gi S) s y k) k) k S)) ?_ 100000 0 (Nat.zero_le _) (by omega)
  · exact key
  intro n k hk ih
  dsimp only [g181_l5]
  rw [lt_t]
  refine p_if (fun hc => ?_) (fun hc => ?_)
  · have : k = (gi S 55 53).toNat := by omega
    rw [this]; exact p_some rfl
  have ih := ih (by omega)
  rw [sm_s] at ih
  have hm := h.2.1 k (by omega) (by omega)
  have b := sm_rng (f := fun k => mvT (gi S) s y k) (-9999999) 9999999 k (fun j hj => mvT_rng h s y (by omega))
  have e : mvT (gi S) s y k = ifp (¬ gi S 101 k = 0 ∧ gi S 97 k = y) (ifp (gi S 95 k = s) (gi S 96 k) - ifp (gi S 94 k = s) (gi S 96 k)) := rfl
  rw [chk_t (by omega), lt_t]
  refine p_if (fun c1 => ?_) (fun c1 => ?_)
  · rw [e, ifp_f (fun z => z.1 c1), Int.add_zero] at ih
    rw [ckI_t (by omega)]; exact ih
  rw [chk_t (by omega), lt_t]
  refine p_if (fun c2 => ?_) (fun c2 => ?_)
  · rw [e, ifp_f (fun z => c2 z.2), Int.add_zero] at ih
    rw [ckI_t (by omega)]; exact ih
  rw [e, ifp_t ⟨c1, Classical.not_not.mp c2⟩] at ih
  rw [chk_t (by omega), lt_t]
  refine p_if (fun c3 => ?_) (fun c3 => ?_)
  · rw [ifp_f c3] at ih
    rw [chk_t (by omega), lt_t]
    refine p_if (fun c4 => ?_) (fun c4 => ?_)
    · rw [ifp_f c4] at ih
      rw [ckJ_t (by omega), ckI_t (by omega)]; exact ih
    · rw [ifp_t (Classical.not_not.mp c4), Int.zero_sub] at ih
      rw [chk_t (by omega), lt_t, ckI_t (by omega), ckJ_t (by omega), ckI_t (by omega)]; exact ih
  · have c3 := Classical.not_not.mp c3
    rw [ifp_t c3, ifp_f (fun z => hm.2.2.2.2 (z.trans c3.symm)), Int.sub_zero] at ih
    rw [chk_t (by omega), lt_t, ckJ_t (by omega), ckI_t (by omega)]; exact ih
theorem mvd_rng (h : MoveI S) (s y : Int) : -199999980 ≤ mvd (gi S) s y ∧ mvd (gi S) s y ≤ 199999980 := by
  have h0 := h.1
  unfold mvd
  have b := sm_rng (f := fun k => mvT (gi S) s y k) (-9999999) 9999999 (gi S 55 53).toNat (fun j hj => mvT_rng h s y (by omega))
  omega
theorem mvd_fr (hF : Fr frZ S S1) (s y : Int) : mvd (gi S1) s y = mvd (gi S) s y := by
  unfold mvd mvT
  rw [show gi S1 55 53 = gi S 55 53 from hF.i rfl]
  exact sm_congr _ (fun k _ => by rw [show gi S1 101 k = gi S 101 k from hF.i rfl, show gi S1 97 k = gi S 97 k from hF.i rfl, show gi S1 95 k = gi S 95 k from hF.i rfl, show gi S1 94 k = gi S 94 k from hF.i rfl, show gi S1 96 k = gi S 96 k from hF.i rfl])
/-- a year's sum of a school on a day -/
noncomputable def suY (S : gM) (y : Nat) (d s : Int) : Int := suS (cor S) (gi S) (inF (gi S) y d) y d (laV (cor S) (gi S) y) (thV (cor S) y) (-1) (-1) s
theorem suY_rng (h : ClsI S) {y : Nat} (hy : y ≤ 9) {d : Int} (hd : 0 ≤ d) {s : Int} (hs : 0 ≤ s ∧ s < gi S 55 1) : -1311000000001 ≤ suY S y d s ∧ suY S y d s ≤ 1311000000001 := suS_rng h hy (inF_ok h.2.2.2.1 (y := y) (d := d) (by omega) hd) hs
/-- what is put right -/
noncomputable def prT (S : gM) (s : Int) (y : Nat) (j : Int) : Int := ifp (onC (cor S) s y 12 j) (suY S (y - 1) (100 * (y : Int)) j - suY S (y - 1) (100 * ((y : Int) - 1)) j)
noncomputable def prV (S : gM) (s : Int) (y : Nat) : Int := if y = 0 then 0 else sm (fun j => prT S s y j) (gi S 55 1).toNat
theorem prT_rng (h : ClsI S) (s : Int) {y : Nat} (hy : 1 ≤ y ∧ y ≤ 9) {j : Int} (hj : 0 ≤ j ∧ j < gi S 55 1) : -2622000000002 ≤ prT S s y j ∧ prT S s y j ≤ 2622000000002 := by
  have a := suY_rng h (y := y - 1) (by omega) (d := 100 * (y : Int)) (by omega) hj
  have b := suY_rng h (y := y - 1) (by omega) (d := 100 * ((y : Int) - 1)) (by omega) hj
  unfold prT
  exact ifp_rng (by omega) (by omega) (by omega)
theorem prV_rng (h : ClsI S) (s : Int) {y : Nat} (hy : y ≤ 9) : -31464000000024 ≤ prV S s y ∧ prV S s y ≤ 31464000000024 := by
  have n12 := h.1.n12
  unfold prV
  split
  · omega
  · have := sm_rng (f := fun j => prT S s y j) (-2622000000002) 2622000000002 (gi S 55 1).toNat (fun j hj => prT_rng h s (by omega) (by omega))
    omega
set_option maxHeartbeats 1000000 in
theorem g72_w (h : ClsI S) (hS : Fr frZ S S1) (h1 : ClsI S1) {y : Nat} (hy : y ≤ 9) {s : Int} (hs : 0 ≤ s ∧ s < gi S 55 1) (ho : (y : Int) < gi S 67 s) : Wp (fun r => r.1 = prV S s y ∧ Fr frZ S r.2 ∧ ClsI r.2) (g72 s y S1) := by
  have n12 := h.1.n12
  unfold g72 prV
  refine p_if (fun hc => ?_) (fun hc => ?_)
  · rw [if_neg (by omega), ckI_t (by omega), ckI_t (by omega)]
    obtain ⟨hB, hW, hH, hI, hP, hE⟩ := h1
    have sc1 : Sc S S1 := hS.mono rfl
    refine p_use (g62_w hB hW hH hI hP hE hy) (fun S2 h2 => ?_)
    have f2 : Fr frZ S S2 := hS.trans (h2.1.mono rfl)
    have sc : Sc S S2 := f2.mono rfl
    have sc12 : Sc S1 S2 := h2.1.mono rfl
    have hd : 0 ≤ ((y : Int) - 1) * 100 := by omega
    have ok := inF_ok h.2.2.2.1 (y := (y : Int) - 1) (d := ((y : Int) - 1) * 100) (by omega) hd
    have I2 := hI.sc sc12
    obtain ⟨q, e56, hq, -⟩ := g56_w I2 ((y : Int) - 1) (((y : Int) - 1) * 100) (by omega) hd
    rw [ckI_t (by omega)]
    refine p_call e56 ?_
    dsimp only
    rw [lt_t, ckI_t (by omega), ob_s]
    rw [sc.inF] at hq
    have P2 := PasI.sc sc12 hI h2.2.2.1
    have g63 := g63_y (S := S2) (y := y - 1) (d := ((y : Int) - 1) * 100) (es := -1) (em := -1) (hB.sc sc12) h2.2.1 (hH.fr h2.1) I2 P2 hq (by omega) (by omega) ⟨(h2.1.i rfl).trans hE, Or.inl rfl⟩
    rw [show ((y - 1 : Nat) : Int) = (y : Int) - 1 by omega] at g63
    refine p_use g63 (fun S3 h3 => ?_)
    have f3 : Fr frZ S S3 := f2.trans (h3.1.mono rfl)
    have sc3 : Sc S S3 := f3.mono rfl
    have f13 : Fr frD S1 S3 := h2.1.trans (h3.1.mono rfl)
    have C3 : ClsI S3 := ⟨hB.sc (f13.mono rfl), h3.2.1, hH.fr f13, hI.sc (f13.mono rfl), PasI.sc (f13.mono rfl) hI (h2.2.2.1.fr h3.1 ⟨rfl, rfl⟩), (f13.i rfl).trans hE⟩
    have e41 : ∀ j : Int, 0 ≤ j → j < gi S 55 1 → gl S3 41 j = suY S (y - 1) (100 * ((y : Int) - 1)) j := fun j a b => by
      have c := (h3.2.2 j a (by omega)).2.2.2.2
      have := (sc.pasE h.2.2.2.1 (y := y - 1) (by omega)).2
      rw [funext this, sc.cE, sc.suE ok.1 ok.2.1, show gi S2 55 1 = gi S 55 1 from f2.i rfl, ifp_t b] at c
      rw [c]
      unfold suY
      rw [show ((y - 1 : Nat) : Int) = (y : Int) - 1 by omega, show 100 * ((y : Int) - 1) = ((y : Int) - 1) * 100 by omega]
    have e44 : ∀ j : Int, 0 ≤ j → j < gi S 55 1 → gl S3 44 (12 * ((y : Int) - 1) + j) = suY S (y - 1) (100 * (y : Int)) j := fun j a b => by
      have c := C3.2.2.2.2.1.2 (y - 1) (by rw [show gi S3 30 15 = gi S2 30 15 from h3.1.i rfl]; omega) j a (by rw [show gi S3 55 1 = gi S 55 1 from f3.i rfl]; exact b)
      rw [(sc3.pasE h.2.2.2.1 (y := y - 1) (by omega)).1, pasV_eq, show ((y - 1 : Nat) : Int) = (y : Int) - 1 by omega, show (((y - 1 + 1 : Nat)) : Int) = y by omega] at c
      rw [c]
      unfold suY
      rw [show ((y - 1 : Nat) : Int) = (y : Int) - 1 by omega]
    have key := upto (gi S 55 1).toNat (fun n k => Wp (fun r => r.1 = sm (fun j => prT S s y j) (gi S 55 1).toNat ∧ Fr frZ S r.2 ∧ ClsI r.2) (g72_l44 s y n (sm (fun j => prT S s y j) k) k S3)) ?_ 100000 0 (Nat.zero_le _) (by omega)
    · exact key
    intro n k hk ih
    dsimp only [g72_l44]
    rw [lt_t, C3.1.2.1.1.2.2.1, show gi S3 55 1 = gi S 55 1 from f3.i rfl]
    refine p_if (fun hc => ?_) (fun hc => ?_)
    · have : k = (gi S 55 1).toNat := by omega
      rw [this]; exact p_some ⟨rfl, f3, C3⟩
    have ih := ih (by omega)
    rw [sm_s] at ih
    refine p_call (g5_eq C3.1.2.1 (y := y) (s := k) (by omega) (by omega) (by rw [show gi S3 55 1 = gi S 55 1 from f3.i rfl]; omega)) ?_
    dsimp only
    rw [sc3.cE]
    have e2 := onC_en (cor S) s y (by rw [co67]; exact ho) 12 k
    have b := sm_rng (f := fun j => prT S s y j) (-2622000000002) 2622000000002 k (fun j hj => prT_rng h s (by omega) (by omega))
    have ep : prT S s y k = ifp (onC (cor S) s y 12 k) (suY S (y - 1) (100 * (y : Int)) k - suY S (y - 1) (100 * ((y : Int) - 1)) k) := rfl
    refine p_if (fun c => ?_) (fun c => ?_)
    · rw [ep, ifp_f (fun z => c (e2.mp z)), Int.add_zero] at ih
      rw [ckI_t (by omega)]; exact ih
    · rw [ep, ifp_t (e2.mpr (Classical.not_not.mp c))] at ih
      have a1 := suY_rng h (y := y - 1) (by omega) (d := 100 * (y : Int)) (by omega) (s := k) (by omega)
      have a2 := suY_rng h (y := y - 1) (by omega) (d := 100 * ((y : Int) - 1)) (by omega) (s := k) (by omega)
      rw [ckI_t (by omega), ckI_t (by omega), ckI_t (by omega), chk_t (by omega), lt_t, show ((y : Int) - 1) * 12 + k = 12 * ((y : Int) - 1) + k by omega, e44 k (by omega) (by omega), chk_t (by omega), lt_t, e41 k (by omega) (by omega), ckJ_t (by omega), ckJ_t (by omega), ckI_t (by omega)]
      exact ih
  · rw [if_pos (by omega)]
    exact p_some ⟨rfl, hS, h1⟩
end C2
