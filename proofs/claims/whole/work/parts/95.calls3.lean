/-! calls: owed, led, a sum beside, losers -/
section C3
variable {S S1 S2 : gM}
theorem g93_copy {Q : Int × gM → Prop} {K : gM → Option (Int × gM)} {s y : Int} {n : Int} {A : Int → Int} (hn : gi S1 55 1 = n) (h0 : 0 ≤ n ∧ n ≤ 12) (hA : ∀ j : Int, 0 ≤ j → j < n → gl S1 89 j = A j) (hK : ∀ S, Fr [93] S1 S → (∀ j : Int, 0 ≤ j → j < n → gl S 93 j = A j) → Wp Q (K S)) : Wp Q (g180_l19 s y K 100000 0 S1) := by
  have key := upto n.toNat (fun m k => ∀ S, Fr [93] S1 S → (∀ j : Int, 0 ≤ j → j < k → gl S 93 j = A j) → Wp Q (g180_l19 s y K m k S)) ?_ 100000 0 (Nat.zero_le _) (by omega) S1 Fr.refl (fun j a b => by omega)
  · exact key
  intro m k hk ih S hS hT
  dsimp only [g180_l19]
  rw [lt_t, show gi S 55 1 = n from (hS.i rfl).trans hn]
  refine p_if (fun hc => ?_) (fun hc => ?_)
  · exact hK S hS (fun j a b => hT j a (by omega))
  rw [chk_t (by omega), lt_t, show gl S 89 k = A k from (hS.l rfl).trans (hA k (by omega) (by omega)), chk_t (by omega), lt_t, ckI_t (by omega)]
  refine ih (by omega) _ (hS.wl rfl) (fun j a b => ?_)
  rw [gl_wl]
  by_cases hj : j = k
  · rw [if_pos ⟨rfl, hj⟩, hj]
  · rw [if_neg (fun w => hj w.2)]; exact hT j a (by omega)
theorem g180_w (h : ClsI S) (hS : Fr frZ S S1) (h1 : ClsI S1) {y : Nat} (hy : y ≤ 9) {s : Int} (hs : 0 ≤ s ∧ s < gi S 55 1) : Wp (fun r => r.1 = prV S s y ∧ Fr frZ S r.2 ∧ ClsI r.2) (g180 s y S1) := by
  have n12 := h.1.n12
  unfold g180 prV
  refine p_if (fun hc => ?_) (fun hc => ?_)
  · rw [if_neg (by omega), ckI_t (by omega), ckI_t (by omega)]
    have r1 := ref_y h hS h1 (y := y - 1) (d := 100 * (y : Int)) (by omega) (by omega)
    rw [show ((y - 1 : Nat) : Int) = (y : Int) - 1 by omega] at r1
    refine p_use r1 (fun S2 h2 => ?_)
    have e89 : ∀ j : Int, 0 ≤ j → j < gi S 55 1 → gl S2 89 j = suY S (y - 1) (100 * (y : Int)) j := fun j a b => by
      rw [(h2.2.2.1 j a b).2.2.2.1]
      unfold suY
      rw [show ((y - 1 : Nat) : Int) = (y : Int) - 1 by omega]
    refine g93_copy (show gi S2 55 1 = gi S 55 1 from h2.1.i rfl) n12 e89 ?_
    intro S3 f3 h93
    have F3 : Fr frZ S S3 := h2.1.trans (f3.mono rfl)
    have C3 : ClsI S3 := h2.2.1.st f3 rfl rfl ⟨⟨rfl, rfl⟩, rfl⟩
    rw [ckI_t (by omega), ckI_t (by omega), ckI_t (by omega)]
    have r2 := ref_y h F3 C3 (y := y - 1) (d := 100 * ((y : Int) - 1)) (by omega) (by omega)
    rw [show ((y - 1 : Nat) : Int) = (y : Int) - 1 by omega] at r2
    refine p_use r2 (fun S4 h4 => ?_)
    have e2 : ∀ j : Int, 0 ≤ j → j < gi S 55 1 → gl S4 89 j = suY S (y - 1) (100 * ((y : Int) - 1)) j := fun j a b => by
      rw [(h4.2.2.1 j a b).2.2.2.1]
      unfold suY
      rw [show ((y - 1 : Nat) : Int) = (y : Int) - 1 by omega]
    have e93 : ∀ j : Int, 0 ≤ j → j < gi S 55 1 → gl S4 93 j = suY S (y - 1) (100 * (y : Int)) j := fun j a b => (h4.2.2.2.2.l rfl).trans (h93 j a b)
    have sc4 : Sc S S4 := h4.1.mono rfl
    have key := upto (gi S 55 1).toNat (fun n k => Wp (fun r => r.1 = sm (fun j => prT S s y j) (gi S 55 1).toNat ∧ Fr frZ S r.2 ∧ ClsI r.2) (g180_l63 s y n (sm (fun j => prT S s y j) k) k S4)) ?_ 100000 0 (Nat.zero_le _) (by omega)
    · exact key
    intro n k hk ih
    dsimp only [g180_l63]
    rw [lt_t, show gi S4 55 1 = gi S 55 1 from h4.1.i rfl]
    refine p_if (fun hc => ?_) (fun hc => ?_)
    · have : k = (gi S 55 1).toNat := by omega
      rw [this]; exact p_some ⟨rfl, h4.1, h4.2.1⟩
    have ih := ih (by omega)
    rw [sm_s] at ih
    refine p_call (g131_eq h4.2.1.1.2.1 s (y := y) (a := k) (by omega) (by omega) (by rw [show gi S4 55 1 = gi S 55 1 from h4.1.i rfl]; omega)) ?_
    dsimp only
    rw [sc4.cE]
    have b := sm_rng (f := fun j => prT S s y j) (-2622000000002) 2622000000002 k (fun j hj => prT_rng h s (by omega) (by omega))
    have ep : prT S s y k = ifp (onC (cor S) s y 12 k) (suY S (y - 1) (100 * (y : Int)) k - suY S (y - 1) (100 * ((y : Int) - 1)) k) := rfl
    refine p_if1 (fun c => ?_) (fun c => ?_)
    · rw [ep, ifp_t c] at ih
      have a1 := suY_rng h (y := y - 1) (by omega) (d := 100 * (y : Int)) (by omega) (s := k) (by omega)
      have a2 := suY_rng h (y := y - 1) (by omega) (d := 100 * ((y : Int) - 1)) (by omega) (s := k) (by omega)
      rw [chk_t (by omega), lt_t, e93 k (by omega) (by omega), chk_t (by omega), lt_t, e2 k (by omega) (by omega), ckJ_t (by omega), ckJ_t (by omega), ckI_t (by omega)]
      exact ih
    · rw [ep, ifp_f c, Int.add_zero] at ih
      rw [ckI_t (by omega)]; exact ih
  · rw [if_pos (by omega)]
    exact p_some ⟨rfl, hS, h1⟩
theorem due_pr (h : ClsI S) (hM : MoveI S) (s y : Int) : Pr S (g90 s y) (g182 s y) := by
  have n12 := h.1.n12
  have h17 := h.1.2.1.1.2.2.1
  unfold Pr g90
  rw [g105_eq, ob_s, h17]
  dsimp only
  by_cases c1 : 0 ≤ s ∧ s < gi S 55 1
  · have hks := h.1.2.1.2.1 s c1.1 c1.2
    rw [one_t c1, if_neg (by decide), g103_eq, ob_s]
    dsimp only
    by_cases c2 : 0 ≤ y ∧ y < 10
    · rw [one_t c2, if_pos (by decide), g2_eq s y (by omega) c1.1, ob_s, h17, hks.1.2.2.2]
      dsimp only
      by_cases ho : y < gi S 67 s
      · rw [one_t ⟨c1.2, ho⟩, if_pos (by decide)]
        obtain ⟨y, rfl⟩ : ∃ k : Nat, y = k := ⟨y.toNat, by omega⟩
        have hpr := prV_rng h s (y := y) (by omega)
        have hmv := mvd_rng hM s y
        have hsu := suY_rng h (y := y) (by omega) (d := 100 * (y : Int)) (by omega) c1
        refine p_use (g72_w h Fr.refl h (by omega) c1 ho) (fun r h1 => ?_)
        rw [ckI_t (by omega), show (y : Int) * 100 = 100 * (y : Int) by omega]
        refine p_use (cls_y h h1.2.1 h1.2.2 (y := y) (by omega) (d := 100 * (y : Int)) (by omega)) (fun S2 h2 => ?_)
        have e41 : gl S2 41 s = suY S y (100 * (y : Int)) s := by
          rw [(h2.2.2.1 s c1.1 (by omega)).2.2.2.2, ifp_t c1.2]; rfl
        have M2 : MoveI S2 := hM.fr h2.1 rfl
        rw [chk_t (by omega), lt_t, e41, h1.1, ckJ_t (by omega)]
        refine p_call (g24_eq M2 s y) ?_
        dsimp only
        rw [mvd_fr h2.1, ckJ_t (by omega)]
        refine p_some ?_
        have e1 : gi S2 55 1 = gi S 55 1 := h2.1.i rfl
        unfold g182
        dsimp only
        rw [g116_eq _ (by rw [e1]; exact n12), ob_s, e1, one_t c1]
        dsimp only
        rw [if_neg (by decide), g115_eq, ob_s, one_t c2]
        dsimp only
        rw [if_pos (by decide), g122_eq _ _ (by omega), ob_s, show gi S2 67 s = gi S 67 s from h2.1.i rfl, one_t ho]
        dsimp only
        rw [if_pos (by decide)]
        refine p_use (g180_w h h2.1 h2.2.1 (by omega) c1) (fun r3 h3 => ?_)
        rw [ckI_t (by omega)]
        refine p_use (ref_y h h3.2.1 h3.2.2 (y := y) (by omega) (d := 100 * (y : Int)) (by omega)) (fun S4 h4 => ?_)
        have e89 : gl S4 89 s = suY S y (100 * (y : Int)) s := (h4.2.2.1 s c1.1 c1.2).2.2.2.1
        rw [chk_t (by omega), lt_t, e89, h3.1, ckJ_t (by omega)]
        refine p_call (g181_eq (hM.fr h4.1 rfl) s y) ?_
        dsimp only
        rw [mvd_fr h4.1, ckJ_t (by omega)]
        exact p_some ⟨rfl, h4.1, h4.2.1⟩
      · rw [one_f (fun z => ho z.2), if_neg (by decide)]
        refine pr_no h ?_
        simp [g182, g116_eq _ n12, g115_eq, one_t c1, one_t c2, g122_eq s y (by omega), one_f ho]
    · rw [one_f c2, if_neg (by decide)]
      refine pr_no h ?_
      simp [g182, g116_eq _ n12, g115_eq, one_t c1, one_f c2]
  · rw [one_f c1, if_pos (by decide)]
    refine pr_no h ?_
    simp [g182, g116_eq _ n12, one_f c1]
/-- which line a statement is -/
def atV (F : Nat → Int → Int) (f x : Int) : Int := if x < nsF F f ∧ F 73 (30 * f + x) = 0 then rk F f x.toNat else -1
theorem g202_eq {q : Nat} {f x : Int} (hL : LwF S q f) (hx : 0 ≤ x ∧ x < 30) : g202 q x S = some (atV (gi S) f x, S) := by
  refine p_eq ?_
  obtain ⟨⟨lS, hn, ht, hp, hm1, hcd⟩, hF, hf⟩ := hL
  have hnr := hF.1
  have hrk := rk_le (gi S) f (nsF (gi S) f).toNat
  unfold g202
  have key := upto (rk (gi S) f (nsF (gi S) f).toNat) (fun n k => (∀ j : Nat, j < k → ¬ gi S (q + 2) j = x) → Wp (fun z => z = (atV (gi S) f x, S)) (g202_l2 q x n k S)) ?_ 100000 0 (Nat.zero_le _) (by omega) (fun j hj => by omega)
  · exact key
  intro n k hk ih hno
  dsimp only [g202_l2]
  have l2 : gln S (q + 2) 0 = gi S q 4 := lS.2.2.2.1
  rw [chk_t lS.1, lt_t, hn.2]
  refine p_if (fun hc => ?_) (fun hc => ?_)
  · refine p_some ?_
    unfold atV
    rw [if_neg]
    rintro ⟨z1, z2⟩
    have e : x = ((x.toNat : Nat) : Int) := by omega
    rw [e] at z2
    have h1 := (hp x.toNat (by omega) z2).1
    have h2 := rk_lt (F := gi S) (f := f) (i := x.toNat) (j := (nsF (gi S) f).toNat) (by omega) z2
    exact hno (rk (gi S) f x.toNat) (by omega) (by rw [h1]; omega)
  rw [chk_t lS.1, chk_t lS.2.1.2.1, l2, hn.2, chk_t (by omega), chk_t (by omega), if_neg (by omega), chk_t lS.1, chk_t lS.2.1.2.1, chk_t (by omega), chk_t (by omega), lt_t]
  obtain ⟨i, hi, h73, hri⟩ := pos_ex (gi S) f k (nsF (gi S) f).toNat (by omega)
  have hpi := (hp i (by omega) h73).1
  rw [hri] at hpi
  rw [hpi]
  refine p_if (fun c => ?_) (fun c => ?_)
  · rw [ckI_t (by omega)]
    refine ih (by omega) (fun j hj => ?_)
    by_cases e : j = k
    · rw [e, hpi]; exact c
    · exact hno j (by omega)
  · have c := Classical.not_not.mp c
    refine p_some ?_
    unfold atV
    rw [← c, if_pos ⟨by omega, h73⟩, show ((i : Int)).toNat = i from Int.toNat_natCast i, hri]
set_option maxHeartbeats 1000000 in
theorem led_pr (h : ClsI S) (hM : MoveI S) (s y x : Int) : Pr S (g89 s y x) (g183 s y x) := by
  have n12 := h.1.n12
  have h17 := h.1.2.1.1.2.2.1
  unfold Pr g89
  rw [g105_eq, ob_s, h17]
  dsimp only
  by_cases c1 : 0 ≤ s ∧ s < gi S 55 1
  · have hks := h.1.2.1.2.1 s c1.1 c1.2
    rw [one_t c1, if_neg (by decide), g103_eq, ob_s]
    dsimp only
    by_cases c2 : 0 ≤ y ∧ y < 10
    · rw [one_t c2, if_neg (by decide)]
      have bad : ¬ (0 ≤ x ∧ x ≤ 34) → Wp (fun r => Wp (fun r2 => r2.1 = r.1 ∧ Fr frZ S r2.2 ∧ ClsI r2.2) (g183 s y x r.2)) (some ((-2000000000000 : Int), S)) := fun c3 => by
        refine pr_no h (x := -2000000000000) (fr := g183 s y x) ?_
        simp [g183, g116_eq _ n12, g115_eq, g112_eq, one_t c1, one_t c2, one_f c3]
      refine p_if (fun cx => bad (by omega)) (fun cx => ?_)
      refine p_if (fun cx2 => ?_) (fun cx2 => bad (by omega))
      have c3 : 0 ≤ x ∧ x ≤ 34 := by omega
      rw [g2_eq s y (by omega) c1.1, ob_s, h17, hks.1.2.2.2]
      dsimp only
      by_cases ho : y < gi S 67 s
      · rw [one_t ⟨c1.2, ho⟩, if_pos (by decide)]
        obtain ⟨y, rfl⟩ : ∃ k : Nat, y = k := ⟨y.toNat, by omega⟩
        -- the reference's way in, from any memory after the class
        have ent : ∀ (S1 : gM) (Q : Int × gM → Prop), Fr frZ S S1 → Wp Q (if ¬x = 33 then if ¬x = 34 then w_ckI (100 * (y : Int)) fun V11 => (g177 y V11 S1).bind fun p12 => w_ckI (100 * (y : Int)) fun V13 => (g160 y V13 p12).bind fun p14 => if 30 ≤ x then if ¬x = 30 then if ¬x = 31 then w_chk ((0 : Int) ≤ s ∧ s < 12) <| w_lt (gl p14.2 88 s) fun V19 => some (V19, p14.2) else w_chk ((0 : Int) ≤ s ∧ s < 12) <| w_lt (gl p14.2 87 s) fun V21 => some (V21, p14.2) else w_chk ((0 : Int) ≤ s ∧ s < 12) <| w_lt (gl p14.2 86 s) fun V23 => some (V23, p14.2) else if p14.1 = -1 then some (0, p14.2) else w_chk ((0 : Int) ≤ p14.1 ∧ p14.1 < 10) <| w_lt (gi p14.2 70 p14.1) fun V26 => if V26 ≤ x then some (0, p14.2) else w_ckI (30 * p14.1) fun V28 => w_ckI (V28 + x) fun V29 => w_chk ((0 : Int) ≤ V29 ∧ V29 < 300) <| w_lt (gi p14.2 73 V29) fun V31 => if ¬V31 = 0 then some (0, p14.2) else w_ckI (30 * s) fun V33 => w_ckI (30 * p14.1) fun V34 => w_ckI (V34 + x) fun V35 => w_chk ((0 : Int) ≤ V35 ∧ V35 < 300) <| w_lt (gi p14.2 74 V35) fun V37 => w_ckI (V33 + V37) fun V38 => w_chk ((0 : Int) ≤ V38 ∧ V38 < 360) <| w_lt (gl p14.2 85 V38) fun V40 => some (V40, p14.2) else (g181 s y S1).bind fun p41 => some (p41.1, p41.2) else (g180 s y S1).bind fun p42 => some (p42.1, p42.2)) → Wp Q (g183 s y x S1) := fun S1 Q f1 k => by
          have e1 : gi S1 55 1 = gi S 55 1 := f1.i rfl
          unfold g183
          rw [g116_eq _ (by rw [e1]; exact n12), ob_s, e1, one_t c1]
          dsimp only
          rw [if_neg (by decide), g115_eq, ob_s, one_t c2]
          dsimp only
          rw [if_neg (by decide), g112_eq, ob_s, one_t c3]
          dsimp only
          rw [if_pos (by decide), g122_eq _ _ (by omega), ob_s, show gi S1 67 s = gi S 67 s from f1.i rfl, one_t ho]
          dsimp only
          rw [if_pos (by decide)]
          exact k
        refine p_if (fun x33 => ?_) (fun x33 => ?_)
        · refine p_if (fun x34 => ?_) (fun x34 => ?_)
          · have hd : 0 ≤ 100 * (y : Int) := by omega
            have ok := inF_ok h.2.2.2.1 (y := y) (d := 100 * (y : Int)) (by omega) hd
            rw [ckI_t (by omega), show (y : Int) * 100 = 100 * (y : Int) by omega]
            refine p_use (cls_y h Fr.refl h (by omega) hd) (fun S1 h1 => ?_)
            have ct := h1.2.2.1 s c1.1 (by omega)
            have yes : s < gi S 55 1 ∧ (y : Int) < gi S 67 s := ⟨c1.2, ho⟩
            -- the reference's numbers
            have ref : ∀ (v : Int), (∀ S2, Fr frZ S S2 → ClsI S2 → RowY S S2 y (inF (gi S) y (100 * (y : Int))) (100 * (y : Int)) (-1) (-1) → Wp (fun r2 => r2.1 = v ∧ r2.2 = S2) (if 30 ≤ x then if ¬x = 30 then if ¬x = 31 then w_chk ((0 : Int) ≤ s ∧ s < 12) <| w_lt (gl S2 88 s) fun V19 => some (V19, S2) else w_chk ((0 : Int) ≤ s ∧ s < 12) <| w_lt (gl S2 87 s) fun V21 => some (V21, S2) else w_chk ((0 : Int) ≤ s ∧ s < 12) <| w_lt (gl S2 86 s) fun V23 => some (V23, S2) else if inF (gi S) y (100 * (y : Int)) = -1 then some (0, S2) else w_chk ((0 : Int) ≤ inF (gi S) y (100 * (y : Int)) ∧ inF (gi S) y (100 * (y : Int)) < 10) <| w_lt (gi S2 70 (inF (gi S) y (100 * (y : Int)))) fun V26 => if V26 ≤ x then some (0, S2) else w_ckI (30 * inF (gi S) y (100 * (y : Int))) fun V28 => w_ckI (V28 + x) fun V29 => w_chk ((0 : Int) ≤ V29 ∧ V29 < 300) <| w_lt (gi S2 73 V29) fun V31 => if ¬V31 = 0 then some (0, S2) else w_ckI (30 * s) fun V33 => w_ckI (30 * inF (gi S) y (100 * (y : Int))) fun V34 => w_ckI (V34 + x) fun V35 => w_chk ((0 : Int) ≤ V35 ∧ V35 < 300) <| w_lt (gi S2 74 V35) fun V37 => w_ckI (V33 + V37) fun V38 => w_chk ((0 : Int) ≤ V38 ∧ V38 < 360) <| w_lt (gl S2 85 V38) fun V40 => some (V40, S2))) →
                ∀ S3, Fr frZ S S3 → ClsI S3 → Wp (fun r2 => r2.1 = v ∧ Fr frZ S r2.2 ∧ ClsI r2.2) (g183 s y x S3) := fun v k S3 f3 c3 => by
              refine ent S3 _ f3 ?_
              refine p_if (fun _ => ?_) (fun z => absurd x33 z)
              refine p_if (fun _ => ?_) (fun z => absurd x34 z)
              rw [ckI_t (by omega)]
              refine p_use (ref_y h f3 c3 (by omega) hd) (fun S4 h4 => ?_)
              rw [ckI_t (by omega)]
              refine p_call (g160_eq h4.2.1.2.2.2.1.1 _ _) ?_
              dsimp only
              rw [Sc.inF (show Sc S S4 from h4.1.mono rfl)]
              exact p_imp (k S4 h4.1 h4.2.1 h4.2.2.1) (fun r hr => ⟨hr.1, by rw [hr.2]; exact h4.1, by rw [hr.2]; exact h4.2.1⟩)
            refine p_if (fun x30 => ?_) (fun x30 => ?_)
            · refine p_if (fun x31 => ?_) (fun x31 => ?_)
              · refine p_if (fun x32 => ?_) (fun x32 => ?_)
                · have hx : 0 ≤ x ∧ x < 30 := by omega
                  rw [ckI_t (by omega)]
                  obtain ⟨q, e56, hq, -⟩ := g56_w h1.2.1.2.2.2.1 y (100 * (y : Int)) (by omega) hd
                  have sc1 : Sc S S1 := h1.1.mono rfl
                  rw [sc1.inF] at hq
                  refine p_call e56 ?_
                  dsimp only
                  rw [lt_t, ob_s, chk_t hq.1.1.1]
                  refine p_call (g202_eq hq hx) ?_
                  dsimp only
                  have eat : atV (gi S1) (inF (gi S) y (100 * (y : Int))) x = atV (gi S) (inF (gi S) y (100 * (y : Int))) x := by
                    unfold atV
                    rw [← nsF_c (sc1.seq _), show gi S1 73 (30 * inF (gi S) y (100 * (y : Int)) + x) = gi S 73 (30 * inF (gi S) y (100 * (y : Int)) + x) from h1.1.i rfl]
                    by_cases w : x < nsF (gi S) (inF (gi S) y (100 * (y : Int))) ∧ gi S 73 (30 * inF (gi S) y (100 * (y : Int)) + x) = 0
                    · rw [if_pos w, if_pos w, rk_c (sc1.seq _) (fun z => by have := w.1; unfold nsF at this; rw [if_pos z] at this; omega) x.toNat (by omega)]
                    · rw [if_neg w, if_neg w]
                  rw [eat]
                  have hn := ok.1.1
                  generalize hff : inF (gi S) y (100 * (y : Int)) = f at *
                  by_cases w : x < nsF (gi S) f ∧ gi S 73 (30 * f + x) = 0
                  · have ea : atV (gi S) f x = rk (gi S) f x.toNat := by unfold atV; rw [if_pos w]
                    have hrx := rk_le (gi S) f x.toNat
                    have hfm : ¬ f = -1 := fun z => by have := w.1; unfold nsF at this; rw [if_pos z] at this; omega
                    have hst := ((ok.1.2 x.toNat (by omega)).2.1 (by rw [show ((x.toNat : Nat) : Int) = x by omega]; exact w.2)).1
                    rw [show ((x.toNat : Nat) : Int) = x by omega] at hst
                    rw [ea]
                    refine p_call (g102_eq _ _) ?_
                    dsimp only
                    refine p_if1 (fun _ => ?_) (fun z => absurd (by omega) z)
                    rw [ckI_t (by omega), ckI_t (by omega), chk_t (by omega), lt_t]
                    refine p_some ?_
                    refine ref _ (fun S2 f2 c2' ry => ?_) _ h1.1 h1.2.1
                    have r := ry s c1.1 c1.2
                    refine p_if (fun z => by omega) (fun _ => ?_)
                    refine p_if (fun z => absurd z hfm) (fun _ => ?_)
                    have e70 : nsF (gi S) f = gi S 70 f := by unfold nsF; rw [if_neg hfm]
                    rw [chk_t (by omega), lt_t, show gi S2 70 f = gi S 70 f from f2.i rfl]
                    refine p_if (fun z => by omega) (fun _ => ?_)
                    rw [ckI_t (by omega), ckI_t (by omega), chk_t (by omega), lt_t, show gi S2 73 (30 * f + x) = gi S 73 (30 * f + x) from f2.i rfl]
                    refine p_if (fun z => absurd w.2 z) (fun _ => ?_)
                    rw [ckI_t (by omega), ckI_t (by omega), ckI_t (by omega), chk_t (by omega), lt_t, show gi S2 74 (30 * f + x) = gi S 74 (30 * f + x) from f2.i rfl, hst, ckI_t (by omega), chk_t (by omega), lt_t]
                    refine p_some ⟨?_, rfl⟩
                    show gl S2 85 _ = gl S1 34 _
                    rw [show s * 30 + (rk (gi S) f x.toNat : Int) = 30 * s + rk (gi S) f x.toNat by omega, r.2.2.2.2 _ (by omega) (by omega), ct.1.1 _ (by omega) (by omega), ifp_t ho, ifp_t yes]
                  · have ea : atV (gi S) f x = -1 := by unfold atV; rw [if_neg w]
                    rw [ea]
                    refine p_call (g102_eq _ _) ?_
                    dsimp only
                    refine p_if1 (fun z => by omega) (fun _ => ?_)
                    refine p_some ?_
                    refine ref _ (fun S2 f2 c2' ry => ?_) _ h1.1 h1.2.1
                    refine p_if (fun z => by omega) (fun _ => ?_)
                    refine p_if (fun z => p_some ⟨rfl, rfl⟩) (fun hfm => ?_)
                    have e70 : nsF (gi S) f = gi S 70 f := by unfold nsF; rw [if_neg hfm]
                    rw [chk_t (by omega), lt_t, show gi S2 70 f = gi S 70 f from f2.i rfl]
                    refine p_if (fun z => p_some ⟨rfl, rfl⟩) (fun w2 => ?_)
                    rw [ckI_t (by omega), ckI_t (by omega), chk_t (by omega), lt_t, show gi S2 73 (30 * f + x) = gi S 73 (30 * f + x) from f2.i rfl]
                    exact p_if (fun z => p_some ⟨rfl, rfl⟩) (fun w3 => absurd ⟨by omega, Classical.not_not.mp w3⟩ w)
                · have x32 := Classical.not_not.mp x32
                  rw [chk_t (by omega), lt_t]
                  refine p_some ?_
                  refine ref _ (fun S2 f2 c2' ry => ?_) _ h1.1 h1.2.1
                  refine p_if (fun _ => ?_) (fun z => absurd (by omega) z)
                  refine p_if (fun _ => ?_) (fun z => absurd x30 z)
                  refine p_if (fun _ => ?_) (fun z => absurd x31 z)
                  rw [chk_t (by omega), lt_t]
                  refine p_some ⟨?_, rfl⟩
                  show gl S2 88 s = gl S1 38 s
                  rw [(ry s c1.1 c1.2).2.2.1, ct.2.2.2.1, ifp_t c1.2]
              · have x31 := Classical.not_not.mp x31
                rw [chk_t (by omega), lt_t]
                refine p_some ?_
                refine ref _ (fun S2 f2 c2' ry => ?_) _ h1.1 h1.2.1
                refine p_if (fun _ => ?_) (fun z => absurd (by omega) z)
                refine p_if (fun _ => ?_) (fun z => absurd x30 z)
                refine p_if (fun z => absurd x31 z) (fun _ => ?_)
                rw [chk_t (by omega), lt_t]
                refine p_some ⟨?_, rfl⟩
                show gl S2 87 s = gl S1 37 s
                rw [(ry s c1.1 c1.2).2.1, ct.2.2.1, ifp_t ho, ifp_t yes]
            · have x30 := Classical.not_not.mp x30
              rw [chk_t (by omega), lt_t]
              refine p_some ?_
              refine ref _ (fun S2 f2 c2' ry => ?_) _ h1.1 h1.2.1
              refine p_if (fun _ => ?_) (fun z => absurd (by omega) z)
              refine p_if (fun z => absurd x30 z) (fun _ => ?_)
              rw [chk_t (by omega), lt_t]
              refine p_some ⟨?_, rfl⟩
              show gl S2 86 s = gl S1 36 s
              rw [(ry s c1.1 c1.2).1, ct.2.1, ifp_t ho, ifp_t yes]
          · refine p_call (g24_eq hM s y) ?_
            dsimp only
            refine p_some ?_
            refine ent S _ Fr.refl ?_
            refine p_if (fun _ => ?_) (fun z => absurd x33 z)
            refine p_if (fun z => absurd z x34) (fun _ => ?_)
            refine p_call (g181_eq hM s y) ?_
            exact p_some ⟨rfl, Fr.refl, h⟩
        · refine p_use (g72_w h Fr.refl h (by omega) c1 ho) (fun r h1 => ?_)
          refine p_some ?_
          refine ent r.2 _ h1.2.1 ?_
          refine p_if (fun z => absurd z x33) (fun _ => ?_)
          refine p_use (g180_w h h1.2.1 h1.2.2 (by omega) c1) (fun r2 h2 => ?_)
          exact p_some ⟨h2.1.trans h1.1.symm, h2.2⟩
      · rw [one_f (fun z => ho z.2), if_neg (by decide)]
        refine pr_no h ?_
        simp [g183, g116_eq _ n12, g115_eq, g112_eq, one_t c1, one_t c2, one_t c3, g122_eq s y (by omega), one_f ho]
    · rw [one_f c2, if_pos (by decide)]
      refine pr_no h ?_
      simp [g183, g116_eq _ n12, g115_eq, one_t c1, one_f c2]
  · rw [one_f c1, if_pos (by decide)]
    refine pr_no h ?_
    simp [g183, g116_eq _ n12, one_f c1]
end C3
