/-! calls: adopt, both sides -/
section AE
variable {S S1 S2 : gM}
noncomputable def adC (S : gM) (p : Int) : Int := by
  classical exact (if 0 ≤ p ∧ p < gi S 55 53 then (if gi S 101 p = 0 then (if gi S 98 p + 10 ≤ gi S 55 0 then (if gi S 55 0 < 100 * gi S 97 p then (if 2 * nO S p (gi S 55 1).toNat ≤ nV S p (gi S 55 1).toNat then (if okG S p then 0 else 5) else 4) else 3) else 2) else 1) else 1)
abbrev frA : List Nat := [8, 10, 32, 33, 34, 35, 36, 37, 38, 39, 40, 41, 42, 43, 44, 68, 69, 81, 82, 85, 86, 87, 88, 89, 90, 91, 92, 93, 1000030015, 1000030016, 1000030017, 1000030018, 53, 1000045009]
abbrev frA2 : List Nat := [8, 10, 32, 33, 34, 35, 36, 37, 38, 39, 40, 41, 42, 43, 44, 68, 69, 81, 82, 85, 86, 87, 88, 89, 90, 91, 92, 93, 1000030015, 1000030016, 1000030017, 1000030018, 53, 1000045009, 101]
theorem g94_w (h : ClsI S) (hD : DayI S) (hM : MoveI S) (p : Int) : Wp (fun r => r.1 = adC S p ∧ ((¬ adC S p = 0 ∧ Fr frZ S r.2 ∧ ClsI r.2) ∨ (adC S p = 0 ∧ (0 ≤ p ∧ p < gi S 55 53) ∧ gi S 101 p = 0 ∧ ∃ S', Fr frZ S S' ∧ ClsI S' ∧ r.2 = wi (wi S' 53 p 1) 45 9 (gi S 45 9 + 1)))) (g94 p S) := by
  have hm0 := hM.1
  have hs := hM.2.2.2
  have b101 := sm_rng (f := fun k => gi S 101 k) 0 1 20 (fun j hj => by have := (hM.2.2.1 j (by omega) (by omega)).2.2.1; omega)
  unfold g94
  rw [lt_t, g102_eq, ob_s, hm0.1]
  dsimp only
  by_cases cA : 0 ≤ p ∧ p < gi S 55 53
  · have hm := hM.2.1 p cA.1 cA.2
    have hm2 := hM.2.2.1 p cA.1 (by omega)
    rw [one_t cA, if_neg (by decide), chk_t (by omega), lt_t, hm2.2.1]
    refine p_if (fun cB => ?_) (fun cB => ?_)
    · rw [lt_t, hD.1, chk_t (by omega), lt_t, hm.1.2.2.2.2.2, ckI_t (by omega)]
      refine p_if (fun cC => ?_) (fun cC => ?_)
      · rw [lt_t, chk_t (by omega), lt_t, hm.1.2.2.2.2.1, ckI_t (by omega), show gi S 97 p * 100 = 100 * gi S 97 p by omega]
        refine p_if (fun cD => ?_) (fun cD => ?_)
        · skip
          refine p_call (g109_eq hD h.1.2.1 hM cA) ?_
          dsimp only
          by_cases cE : 2 * nO S p (gi S 55 1).toNat ≤ nV S p (gi S 55 1).toNat
          · rw [if_pos cE, if_pos rfl]
            refine p_use (g110_w h hD hM cA) (fun r hr => ?_)
            by_cases cF : okG S p
            · have e : adC S p = 0 := by unfold adC; rw [if_pos cA, if_pos cB, if_pos cC, if_pos cD, if_pos cE]; exact if_pos cF
              rw [e, hr.1 cF, if_pos rfl, chk_t (by omega), lt_t, lt_t, gi_wi, if_neg (by rintro ⟨z, -⟩; cases z), show gi r.2 45 9 = gi S 45 9 from hr.2.2.1.i rfl, ckI_t (by omega), lt_t]
              exact p_some ⟨rfl, Or.inr ⟨rfl, cA, cB, r.2, hr.2.2.1, hr.2.2.2, rfl⟩⟩
            · have e : adC S p = 5 := by unfold adC; rw [if_pos cA, if_pos cB, if_pos cC, if_pos cD, if_pos cE]; exact if_neg cF
              rw [e, hr.2.1 cF, if_neg (by decide)]
              exact p_some ⟨rfl, Or.inl ⟨by decide, hr.2.2.1, hr.2.2.2⟩⟩
          · have e : adC S p = 4 := by unfold adC; rw [if_pos cA, if_pos cB, if_pos cC, if_pos cD]; exact if_neg cE
            rw [e, if_neg cE, if_neg (by decide)]
            exact p_some ⟨rfl, Or.inl ⟨by decide, Fr.refl, h⟩⟩
        · have e : adC S p = 3 := by unfold adC; rw [if_pos cA, if_pos cB, if_pos cC]; exact if_neg cD
          rw [e]
          exact p_some ⟨rfl, Or.inl ⟨by decide, Fr.refl, h⟩⟩
      · have e : adC S p = 2 := by unfold adC; rw [if_pos cA, if_pos cB]; exact if_neg cC
        rw [e]
        exact p_some ⟨rfl, Or.inl ⟨by decide, Fr.refl, h⟩⟩
    · have e : adC S p = 1 := by unfold adC; rw [if_pos cA]; exact if_neg cB
      rw [e]
      exact p_some ⟨rfl, Or.inl ⟨by decide, Fr.refl, h⟩⟩
  · have e : adC S p = 1 := by unfold adC; exact if_neg cA
    rw [e, one_f cA, if_pos (by decide)]
    exact p_some ⟨rfl, Or.inl ⟨by decide, Fr.refl, h⟩⟩
theorem ref_yA (h : ClsI S) (hS : Fr frA S S1) (h1 : ClsI S1) {y : Nat} (hy : y ≤ 9) {d : Int} (hd : 0 ≤ d) : Wp (fun S2 => Fr frB S1 S2 ∧ ClsI S2 ∧ ∀ j : Int, 0 ≤ j → j < gi S 55 1 → gl S2 89 j = suY S y d j) (g177 y d S1) := by
  have hN : Fr ncr S S1 := hS.mono rfl
  have hM : Fr nfm S S1 := hN.mono rfl
  have ok := inF_ok h.2.2.2.1 (y := y) (d := d) (by omega) hd
  refine p_imp (g177_w h1.1 h1.2.2.2.1 hy hd) (fun S2 h2 => ⟨h2.1.1, h1.st h2.1.1 rfl rfl ⟨⟨rfl, rfl⟩, rfl⟩, fun j a b => ?_⟩)
  have c := (h2.1.2 j a (by rw [show gi S1 55 1 = gi S 55 1 from hS.i rfl]; exact b)).2.2.2.1
  have eI : inF (gi S1) y d = inF (gi S) y d := (inF_c (hM.i rfl).symm (fun k _ _ => ⟨(hM.i rfl).symm, (hM.i rfl).symm⟩) y d).symm
  have k := pasV_c (F := gi S) (G := gi S1) (cor S) (hM.i rfl).symm (fun k _ _ => ⟨(hM.i rfl).symm, (hM.i rfl).symm⟩) (fun y d a b c => ⟨nfm_seq hM _, (inF_ok h.2.2.2.1 ⟨a, c⟩ b).1, (inF_ok h.2.2.2.1 ⟨a, c⟩ b).2.1⟩) y (by omega)
  rw [eI, ncr_cE hN, ← funext k.2, ← (suS_c (cor S) (nfm_seq hM _) ok.1 ok.2.1 y d _ _ (-1) (-1) j).1] at c
  exact c
theorem g186_w (h : ClsI S) (hD : DayI S) (hM : MoveI S) (hS : Fr frA S S1) (h1 : ClsI S1) (p : Int) : Wp (fun r => r.1 = adC S p ∧ ((¬ adC S p = 0 ∧ Fr frZ S1 r.2 ∧ ClsI r.2) ∨ (adC S p = 0 ∧ ∃ S', Fr frZ S1 S' ∧ ClsI S' ∧ r.2 = wi S' 101 p 1))) (g186 p S1) := by
  have hm0 := hM.1
  have n12 := h.1.n12
  have e1 : gi S1 55 1 = gi S 55 1 := hS.i rfl
  have e53 : gi S1 55 53 = gi S 55 53 := hS.i rfl
  have e0 : gi S1 55 0 = gi S 55 0 := hS.i rfl
  have cD0 := hD.2
  unfold g186
  rw [lt_t, e53, ckI_t (by omega), g112_eq, ob_s]
  dsimp only
  by_cases cA : 0 ≤ p ∧ p < gi S 55 53
  · have hm := hM.2.1 p cA.1 cA.2
    have hm2 := hM.2.2.1 p cA.1 (by omega)
    rw [one_t (show 0 ≤ p ∧ p ≤ gi S 55 53 - 1 by omega), if_neg (by decide), chk_t (by omega), lt_t, show gi S1 101 p = gi S 101 p from hS.i rfl]
    refine p_if (fun cB => ?_) (fun cB => ?_)
    · rw [chk_t (by omega), lt_t, show gi S1 97 p = gi S 97 p from hS.i rfl, chk_t (by omega), lt_t, show gi S1 99 p = gi S 99 p from hS.i rfl, lt_t, e0, chk_t (by omega), lt_t, show gi S1 98 p = gi S 98 p from hS.i rfl, ckI_t (by omega)]
      refine p_if (fun cC => ?_) (fun cC => ?_)
      · rw [lt_t, ckI_t (by omega)]
        refine p_if (fun cD => ?_) (fun cD => ?_)
        · skip
          have D1 : DayI S1 := hD.fr hS rfl
          have hv := g186_l79_w (S := S1) (p := p) (y := gi S 97 p) D1 h1.1.2.1 (by rw [e53]; omega) (by rw [e53]; exact cA) (Q := fun r => r.1 = adC S p ∧ ((¬ adC S p = 0 ∧ Fr frZ S1 r.2 ∧ ClsI r.2) ∨ (adC S p = 0 ∧ ∃ S', Fr frZ S1 S' ∧ ClsI S' ∧ r.2 = wi S' 101 p 1)))
            (K := fun Y37 Y38 S39 =>
              w_ckI (2 * Y38) fun V40 =>
              if V40 ≤ Y37 then
                w_chk ((0 : Int) ≤ p ∧ p < 20) <|
                w_lt (gi S39 96 p) fun V43 =>
                g186_l163 p (gi S 97 p) (gi S 99 p)
                  (fun Y65 S66 =>
                    w_lt (gi S66 55 0) fun V67 =>
                    (g177 (gi S 97 p) V67 S66).bind fun p68 =>
                    g186_l242 p (gi S 97 p) (gi S 99 p) Y65
                      (fun Y80 S81 =>
                        w_lt (gi S81 55 0) fun V82 =>
                        (g160 (gi S 97 p) V82 S81).bind fun p83 =>
                        (g162 p83.1 4 0 p83.2).bind fun p84 =>
                        w_ckJ (Y80 * p84.1) fun V85 =>
                        w_ckJ (V85.tdiv 100) fun V86 =>
                        if Y65 ≤ V86 then
                          w_chk ((0 : Int) ≤ p ∧ p < 20) <|
                          w_lt (wi p84.2 101 p 1) fun S89 =>
                          some (0, S89)
                        else
                          some (5, p84.2))
                      100000 0 0 p68)
                  100000 V43 0 S39
              else
                some (4, S39)) ?_
          · rw [show gi S1 99 p = gi S 99 p from hS.i rfl] at hv
            exact hv
          have eN : nV S1 p (gi S1 55 1).toNat = nV S p (gi S 55 1).toNat ∧ nO S1 p (gi S1 55 1).toNat = nO S p (gi S 55 1).toNat := by
            rw [e1]
            unfold nV nO vot
            rw [e0, show gi S1 99 p = gi S 99 p from hS.i rfl, show gi S1 100 p = gi S 100 p from hS.i rfl]
            exact ⟨sm_congr _ (fun j _ => by rw [show gi S1 57 j = gi S 57 j from hS.i rfl, show gi S1 67 j = gi S 67 j from hS.i rfl]), sm_congr _ (fun j _ => by rw [show gi S1 57 j = gi S 57 j from hS.i rfl, show gi S1 67 j = gi S 67 j from hS.i rfl])⟩
          rw [eN.1, eN.2]
          have hr := nVO_rng (S := S) p (gi S 55 1).toNat
          rw [ckI_t (by omega)]
          refine p_if (fun cE => ?_) (fun cE => ?_)
          · rw [chk_t (by omega), lt_t, show gi S1 96 p = gi S 96 p from hS.i rfl]
            have R1 : MovR S1 := ⟨by rw [e53]; omega, fun k a b => by
              have := hM.r.2 k a (by rw [← e53]; exact b)
              rw [show gi S1 96 k = gi S 96 k from hS.i rfl, show gi S1 97 k = gi S 97 k from hS.i rfl, show gi S1 98 k = gi S 98 k from hS.i rfl]
              exact this⟩
            refine g186_l163_w R1 (by omega) ?_
            have eg : gvn (gi S1) (gi S 99 p) (gi S 97 p) (gi S1 55 53).toNat = gvn (gi S) (gi S 99 p) (gi S 97 p) (gi S 55 53).toNat := by
              rw [e53]
              unfold gvn
              exact sm_congr _ (fun j _ => by rw [show gi S1 101 j = gi S 101 j from hS.i rfl, show gi S1 99 j = gi S 99 j from hS.i rfl, show gi S1 97 j = gi S 97 j from hS.i rfl, show gi S1 96 j = gi S 96 j from hS.i rfl])
            rw [eg, lt_t, e0]
            obtain ⟨y, ey⟩ : ∃ k : Nat, gi S 97 p = k := ⟨(gi S 97 p).toNat, by omega⟩
            have hy : y ≤ 9 := by omega
            have ok := inF_ok h.2.2.2.1 (y := gi S 97 p) (d := gi S 55 0) (by omega) hD.2.1
            have ht := (tls_rng ok.1 ok.2.1).2.2.2.1
            have bo := okG_rng h hD hy (gi S 99 p) ht
            have eo : okG S p ↔ gi S 96 p + gvn (gi S) (gi S 99 p) y (gi S 55 53).toNat ≤ (ldS S (gi S 99 p) y (gi S 55 0) (gi S 55 1).toNat * tls (gi S) (inF (gi S) (gi S 97 p) (gi S 55 0)) 4 0).tdiv 100 := by
              unfold okG
              rw [ey, Int.toNat_natCast, Int.add_comm]
            rw [ey]
            rw [ey] at bo eo ok
            refine p_use (ref_yA h hS h1 hy hD.2.1) (fun S3 h3 => ?_)
            have F3 : Fr frA S S3 := hS.trans (h3.1.mono rfl)
            have M3 : Fr nfm S S3 := F3.mono rfl
            refine g186_l242_w h (d := gi S 55 0) hy hD.2.1 F3 ⟨rfl, rfl⟩ h3.2.2 ?_
            rw [lt_t, show gi S3 55 0 = gi S 55 0 from F3.i rfl]
            refine p_call (g160_eq h3.2.1.2.2.2.1.1 _ _) ?_
            dsimp only
            have eI : inF (gi S3) y (gi S 55 0) = inF (gi S) y (gi S 55 0) := (inF_c (M3.i rfl).symm (fun k _ _ => ⟨(M3.i rfl).symm, (M3.i rfl).symm⟩) y (gi S 55 0)).symm
            rw [eI]
            refine p_call (g162_eq 4 0 (FOk_c (nfm_seq M3 _) ok.1) ok.2) ?_
            dsimp only
            rw [← tls_c (nfm_seq M3 _) ok.1.1 ok.2.1 4 0, ckJ_t (by omega), ckJ_t (by omega)]
            refine p_if (fun cF => ?_) (fun cF => ?_)
            · have e : adC S p = 0 := by unfold adC; rw [if_pos cA, if_pos cB, if_pos cC, if_pos cD, if_pos cE]; exact if_pos (eo.mpr cF)
              rw [e, chk_t (by omega), lt_t]
              exact p_some ⟨rfl, Or.inr ⟨rfl, S3, h3.1.mono rfl, h3.2.1, rfl⟩⟩
            · have e : adC S p = 5 := by unfold adC; rw [if_pos cA, if_pos cB, if_pos cC, if_pos cD, if_pos cE]; exact if_neg (fun z => cF (eo.mp z))
              rw [e]
              exact p_some ⟨rfl, Or.inl ⟨by decide, h3.1.mono rfl, h3.2.1⟩⟩
          · have e : adC S p = 4 := by unfold adC; rw [if_pos cA, if_pos cB, if_pos cC, if_pos cD]; exact if_neg cE
            rw [e]
            exact p_some ⟨rfl, Or.inl ⟨by decide, Fr.refl, h1⟩⟩
        · have e : adC S p = 3 := by unfold adC; rw [if_pos cA, if_pos cB, if_pos cC]; exact if_neg cD
          rw [e]
          exact p_some ⟨rfl, Or.inl ⟨by decide, Fr.refl, h1⟩⟩
      · have e : adC S p = 2 := by unfold adC; rw [if_pos cA, if_pos cB]; exact if_neg cC
        rw [e]
        exact p_some ⟨rfl, Or.inl ⟨by decide, Fr.refl, h1⟩⟩
    · have e : adC S p = 1 := by unfold adC; rw [if_pos cA]; exact if_neg cB
      rw [e]
      exact p_some ⟨rfl, Or.inl ⟨by decide, Fr.refl, h1⟩⟩
  · have e : adC S p = 1 := by unfold adC; exact if_neg cA
    rw [e, one_f (show ¬ (0 ≤ p ∧ p ≤ gi S 55 53 - 1) by omega), if_pos (by decide)]
    exact p_some ⟨rfl, Or.inl ⟨by decide, Fr.refl, h1⟩⟩
theorem adopt_pr (h : ClsI S) (hD : DayI S) (hM : MoveI S) (p : Int) : Wp (fun r => Wp (fun r2 => r2.1 = r.1 ∧ Fr frA2 S r2.2 ∧ ClsI r2.2 ∧ MoveI r2.2) (g186 p r.2)) (g94 p S) := by
  refine p_imp (g94_w h hD hM p) (fun r hr => ?_)
  obtain ⟨e, hr⟩ := hr
  rcases hr with ⟨h0, f1, c1⟩ | ⟨h0, hp, h101, S', f', c', e'⟩
  · refine p_imp (g186_w h hD hM (f1.mono rfl) c1 p) (fun r2 h2 => ?_)
    rcases h2.2 with ⟨-, f2, c2⟩ | ⟨z, -⟩
    · exact ⟨h2.1.trans e.symm, (f1.mono rfl).trans (f2.mono rfl), c2, (hM.fr f1 rfl).fr f2 rfl⟩
    · exact absurd z h0
  · have fw : Fr [53, 1000045009] S' (wi (wi S' 53 p 1) 45 9 (gi S 45 9 + 1)) := (Fr.refl.wi rfl).wi rfl
    have f1 : Fr frA S r.2 := by rw [e']; exact (f'.mono rfl).trans (fw.mono rfl)
    have c1 : ClsI r.2 := by rw [e']; exact c'.nc fw rfl rfl ⟨⟨rfl, rfl⟩, rfl⟩
    refine p_imp (g186_w h hD hM f1 c1 p) (fun r2 h2 => ?_)
    rcases h2.2 with ⟨z, -, -⟩ | ⟨-, S3, f3, c3, e3⟩
    · exact absurd h0 z
    have fw3 : Fr [101] S3 (wi S3 101 p 1) := Fr.refl.wi rfl
    have F13 : Fr frA S S3 := f1.trans (f3.mono rfl)
    have F3 : Fr frA2 S (wi S3 101 p 1) := (F13.mono rfl).trans (fw3.mono rfl)
    refine ⟨h2.1.trans e.symm, by rw [e3]; exact F3, by rw [e3]; exact c3.nc fw3 rfl rfl ⟨⟨rfl, rfl⟩, rfl⟩, ?_⟩
    rw [e3]
    have e53 : ∀ k, gi (wi S3 101 p 1) 53 k = if k = p then 1 else gi S 53 k := fun k => by
      rw [gi_wi, if_neg (by rintro ⟨z, -⟩; cases z), show gi S3 53 k = gi r.2 53 k from f3.i rfl, e', gi_wi, if_neg (by rintro ⟨z, -⟩; cases z), gi_wi, show gi S' 53 k = gi S 53 k from f'.i rfl]
      by_cases hk : k = p
      · rw [if_pos ⟨rfl, hk⟩, if_pos hk]
      · rw [if_neg (fun z => hk z.2), if_neg hk]
    have e101 : ∀ k, gi (wi S3 101 p 1) 101 k = if k = p then 1 else gi S 101 k := fun k => by
      rw [gi_wi, show gi S3 101 k = gi S 101 k from F13.i rfl]
      by_cases hk : k = p
      · rw [if_pos ⟨rfl, hk⟩, if_pos hk]
      · rw [if_neg (fun z => hk z.2), if_neg hk]
    have e459 : gi (wi S3 101 p 1) 45 9 = gi S 45 9 + 1 := by
      rw [gi_wi, if_neg (by rintro ⟨z, -⟩; cases z), show gi S3 45 9 = gi r.2 45 9 from f3.i rfl, e', gi_wi, if_pos ⟨rfl, rfl⟩]
    have hm0 := hM.1
    refine ⟨?_, fun k a b => ?_, fun k a b => ?_, ?_⟩
    · rw [show gi (wi S3 101 p 1) 45 8 = gi S 45 8 from F3.i rfl, show gi (wi S3 101 p 1) 55 53 = gi S 55 53 from F3.i rfl]; exact hm0
    · have := hM.2.1 k a (by rw [← show gi (wi S3 101 p 1) 55 53 = gi S 55 53 from F3.i rfl]; exact b)
      rw [show gi (wi S3 101 p 1) 46 k = gi S 46 k from F3.i rfl, show gi (wi S3 101 p 1) 47 k = gi S 47 k from F3.i rfl, show gi (wi S3 101 p 1) 48 k = gi S 48 k from F3.i rfl, show gi (wi S3 101 p 1) 49 k = gi S 49 k from F3.i rfl, show gi (wi S3 101 p 1) 50 k = gi S 50 k from F3.i rfl, show gi (wi S3 101 p 1) 51 k = gi S 51 k from F3.i rfl, show gi (wi S3 101 p 1) 94 k = gi S 94 k from F3.i rfl, show gi (wi S3 101 p 1) 95 k = gi S 95 k from F3.i rfl, show gi (wi S3 101 p 1) 96 k = gi S 96 k from F3.i rfl, show gi (wi S3 101 p 1) 97 k = gi S 97 k from F3.i rfl, show gi (wi S3 101 p 1) 98 k = gi S 98 k from F3.i rfl, show gi (wi S3 101 p 1) 99 k = gi S 99 k from F3.i rfl]
      exact this
    · have := hM.2.2.1 k a b
      rw [show gi (wi S3 101 p 1) 52 k = gi S 52 k from F3.i rfl, show gi (wi S3 101 p 1) 100 k = gi S 100 k from F3.i rfl, e53, e101, show gi (wi S3 101 p 1) 55 53 = gi S 55 53 from F3.i rfl]
      by_cases hk : k = p
      · rw [if_pos hk, if_pos hk]
        exact ⟨this.1, rfl, Or.inr rfl, fun z => by omega⟩
      · rw [if_neg hk, if_neg hk]
        exact this
    · rw [e459, hM.2.2.2]
      refine (sm_one 20 p.toNat (by omega) (by rw [show ((p.toNat : Nat) : Int) = p by omega]; exact h101) (fun j hj => ?_)).symm
      rw [e101]
      by_cases hj2 : j = p.toNat
      · rw [if_pos hj2, if_pos (by omega)]
      · rw [if_neg hj2, if_neg (by omega)]
end AE
