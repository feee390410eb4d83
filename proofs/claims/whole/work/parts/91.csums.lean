/-! the class's works: a year's sums, the years before -/
section CS
theorem sm12 {n : Int} (h0 : 0 ≤ n ∧ n ≤ 12) {c : Int → Prop} {g : Int → Int} : sm (fun j => ifp ((j : Int) < n ∧ c j) (g j)) 12 = sm (fun j => ifp (c j) (g j)) n.toNat := by
  rw [sm_ext (n := n.toNat) (m := 12) (by omega) (fun j a b => ifp_f (by omega))]
  refine sm_congr _ (fun j hj => ?_)
  by_cases h : c j
  · rw [ifp_t h, ifp_t ⟨by omega, h⟩]
  · rw [ifp_f h, ifp_f (fun z => h z.2)]
theorem g63_l59_w {Q : gM → Prop} {K : gM → Option gM} (S0 : gM) (hB : Bas S0) {q : Nat} {y d : Int} (hy : 0 ≤ y ∧ y ≤ 9) (hK : ∀ S, Fr [43] S0 S → (∀ m : Int, 0 ≤ m → m < gi S0 55 1 → gi S 43 m = en (cor S0) y 12 m) → Wp Q (K S)) : Wp Q (g63_l59 q y d K 100000 0 S0) := by
  have h0 := hB.n12
  have h17 := hB.2.1.1.2.2.1
  have key := upto (gi S0 55 1).toNat (fun n k => ∀ S, Fr [43] S0 S → (∀ m : Int, 0 ≤ m → m < k → gi S 43 m = en (cor S0) y 12 m) → Wp Q (g63_l59 q y d K n k S)) ?_ 100000 0 (Nat.zero_le _) (by omega) S0 Fr.refl (fun j a b => by omega)
  · exact key
  intro n k hk ih S hS hT
  dsimp only [g63_l59]
  rw [lt_t, show gi S 1 7 = gi S0 1 7 from hS.i rfl, h17]
  refine p_if (fun hc => ?_) (fun hc => ?_)
  · exact hK S hS (fun m a b => hT m a (by omega))
  have sc : Sc S0 S := hS.mono rfl
  refine p_call (g5_eq (hB.sc sc).2.1 hy.2 (by omega) (by rw [show gi S 55 1 = gi S0 55 1 from hS.i rfl]; omega)) ?_
  dsimp only
  rw [chk_t (by omega), lt_t, ckI_t (by omega), sc.cE]
  refine ih (by omega) _ (hS.wi rfl) (fun j a b => ?_)
  rw [gi_wi]
  by_cases hj : j = k
  · rw [if_pos ⟨rfl, hj⟩, hj]
  · rw [if_neg (fun w => hj w.2)]; exact hT j a (by omega)
set_option maxHeartbeats 2000000 in
theorem g63_end {S0 S : gM} (hB : Bas S0) {q : Nat} {f y d es em : Int} {la th : Int → Int} (hL : LwF S0 q f) (hS : Fr frC S0 S) (hW : WaysI S) (hR : CR S0 S f y d la th es em (gi S0 55 1)) {K : gM → Option gM} (hK : K = fun S24 => w_chk (gob S24 q 1 = true) <| w_chk (gr S24 q 5 = some (q + 1)) <| w_chk ((0 : Int) ≤ gln S24 (q + 1) 0) <| w_chk ((0 : Int) ≤ 2 ∧ 2 < (gln S24 (q + 1) 0)) <| w_lt (gi S24 (q + 1) 2) fun V29 =>
      if V29 < 0 then g63_l176 100000 0 S24 else w_chk (gob S24 q 1 = true) <| w_chk (gr S24 q 5 = some (q + 1)) <| w_chk ((0 : Int) ≤ gln S24 (q + 1) 0) <| w_chk ((0 : Int) ≤ 2 ∧ 2 < (gln S24 (q + 1) 0)) <| w_lt (gi S24 (q + 1) 2) fun V50 => (g71 V50 S24).bind fun p51 => g63_l176 100000 0 p51) :
    Wp (fun S' => Fr frC S0 S' ∧ WaysI S' ∧ CT S0 S' f y d la th es em) (K S) := by
  rw [hK]
  have h0 := hB.n12
  have sc : Sc S0 S := hS.mono rfl
  have lS := hL.1.1.sc sc
  have l6 : gln S (q + 1) 0 = 6 := lS.2.2.1
  have e2 : gi S (q + 1) 2 = tls (gi S0) f 3 (-1) := (sc.law hL.1.1.2.2.2.2.2.2.2 1 (by omega) 2).trans hL.1.2.2.1.2.2.1
  have ht := (tls_rng hL.2.1 hL.2.2.1).2.2.1
  have sb := fun (j : Int) (a : 0 ≤ j) (b : j < gi S0 55 1) => SB_1 (y := y) (d := d) (la := la) (th := th) (es := es) (em := em) hB hL.2.1 hL.2.2.1 ⟨a, b⟩
  have s3 := fun (j : Int) (a : 0 ≤ j) (b : j < gi S0 55 1) => SB_3 (y := y) (d := d) (la := la) (th := th) (es := es) (em := em) hB hL.2.1 hL.2.2.1 ⟨a, b⟩
  dsimp only
  rw [chk_t lS.1, chk_t lS.2.1.1, l6, chk_t (by omega), chk_t (by omega), lt_t, e2]
  -- the sums from the rows
  have fin : ∀ S1, Fr [38] S S1 → (∀ j : Int, 0 ≤ j → j < 12 → gl S1 38 j = ifp (j < gi S0 55 1) (shS (cor S0) (gi S0) f y d la th es em j)) → Wp (fun S' => Fr frC S0 S' ∧ WaysI S' ∧ CT S0 S' f y d la th es em) (g63_l176 100000 0 S1) := fun S1 f1 h38 => by
    refine g63_l176_w (V := fun j => ifp (j < gi S0 55 1) (suS (cor S0) (gi S0) f y d la th es em j)) (fun j a b => ?_) (fun S2 f2 h41 => ?_)
    · have h := hR j a b
      rw [show gl S1 35 j = gl S 35 j from f1.l rfl, show gl S1 36 j = gl S 36 j from f1.l rfl, show gl S1 37 j = gl S 37 j from f1.l rfl, h38 j a b, h.2.1, h.2.2.1, h.2.2.2.1]
      by_cases hn : j < gi S0 55 1
      · have sbj := sb j a hn
        have s3j := s3 j a hn
        rw [ifp_t hn, ifp_t hn]
        by_cases ho : y < gi S0 67 j
        · rw [ifp_t ⟨hn, ho⟩, ifp_t ⟨hn, ho⟩, ifp_t ⟨hn, ho⟩]
          refine ⟨?_, by omega, by omega, by omega, by omega⟩
          unfold suS
          rw [co67, ifp_t ho]
          rfl
        · rw [ifp_f (fun z => ho z.2), ifp_f (fun z => ho z.2), ifp_f (fun z => ho z.2)]
          refine ⟨?_, by omega, by omega, by omega, by omega⟩
          have e : shS (cor S0) (gi S0) f y d la th es em j = 0 := by
            unfold shS sh0
            rw [co67, ifp_f ho, ifp_f (c := (y < gi S0 67 j ∧ _) ∧ _) (fun z => ho z.1.1)]
            by_cases w : ¬tls (gi S0) f 3 (-1) = -1 ∧ ¬alP (cor S0) (gi S0) f y d la es em = 0
            · rw [ifp_t w]; rfl
            · rw [ifp_f w]
          unfold suS
          rw [co67, ifp_f ho, e]
          rfl
      · rw [ifp_f (fun z => hn z.1), ifp_f (fun z => hn z.1), ifp_f (fun z => hn z.1), ifp_f hn, ifp_f hn]
        exact ⟨rfl, by omega, by omega, by omega, by omega⟩
    · refine ⟨hS.trans ((f1.mono rfl).trans (f2.mono rfl)), (hW.fr f1 rfl).fr f2 rfl, fun j a b => ?_⟩
      have h := hR j a b
      exact ⟨⟨fun r u v => (f2.l rfl).trans ((f1.l rfl).trans (h.1.1 r u v)), (f2.l rfl).trans ((f1.l rfl).trans h.1.2), (f2.l rfl).trans ((f1.l rfl).trans h.2.1)⟩, (f2.l rfl).trans ((f1.l rfl).trans h.2.2.1), (f2.l rfl).trans ((f1.l rfl).trans h.2.2.2.1), (f2.l rfl).trans (h38 j a b), h41 j a b⟩
  refine p_if (fun hc => ?_) (fun hc => ?_)
  · refine fin S Fr.refl (fun j a b => ?_)
    rw [(hR j a b).2.2.2.2.1]
    have e : shS (cor S0) (gi S0) f y d la th es em j = 0 := by
      unfold shS
      exact ifp_f (fun z => z.1 (by omega))
    rw [e]
    by_cases w : j < gi S0 55 1
    · rw [ifp_t w]
    · rw [ifp_f w]
  rw [chk_t lS.1, chk_t lS.2.1.1, chk_t (by omega), chk_t (by omega), lt_t]
  have eA : sm (fun j => ifp ((j : Int) < gi S0 55 1 ∧ y < gi S0 67 j) (prS (cor S0) (gi S0) f y d la th es em j)) 12 = sm (fun j => ifp (y < gi S0 67 j) (prS (cor S0) (gi S0) f y d la th es em j)) (gi S0 55 1).toNat := sm12 h0 (c := fun j => y < gi S0 67 j) (g := fun j => prS (cor S0) (gi S0) f y d la th es em j)
  have er : reT (cor S0) (gi S0) f y d la th es em = tls (gi S0) f 3 (-1) - sm (fun j => ifp ((j : Int) < gi S0 55 1 ∧ y < gi S0 67 j) (prS (cor S0) (gi S0) f y d la th es em j)) 12 := by
    rw [eA]
    unfold reT
    rw [co55_1]
    exact congrArg _ (sm_congr _ (fun j _ => by rw [co67]))
  have ea : alP (cor S0) (gi S0) f y d la es em = sm (fun j => ifp ((j : Int) < gi S0 55 1 ∧ y < gi S0 67 j) (paS (cor S0) (gi S0) f y d la es em j)) 12 := by
    rw [sm12 h0 (c := fun j => y < gi S0 67 j) (g := fun j => paS (cor S0) (gi S0) f y d la es em j)]
    unfold alP
    rw [co55_1]
    exact sm_congr _ (fun j _ => by rw [co67])
  have eP : ∀ j : Int, j < gi S0 55 1 → (reT (cor S0) (gi S0) f y d la th es em * ifp (j < gi S0 55 1 ∧ y < gi S0 67 j) (paS (cor S0) (gi S0) f y d la es em j)).tdiv (alP (cor S0) (gi S0) f y d la es em) = sh0 (cor S0) (gi S0) f y d la th es em j := fun j hj => by
    unfold sh0
    rw [co67]
    by_cases ho : y < gi S0 67 j
    · rw [ifp_t ⟨hj, ho⟩, ifp_t ho]
    · rw [ifp_f (fun z => ho z.2), ifp_f ho, Int.mul_zero, Int.zero_tdiv]
  have el : lef (cor S0) (gi S0) f y d la th es em = reT (cor S0) (gi S0) f y d la th es em - sm (fun j => (reT (cor S0) (gi S0) f y d la th es em * ifp ((j : Int) < gi S0 55 1 ∧ y < gi S0 67 j) (paS (cor S0) (gi S0) f y d la es em j)).tdiv (alP (cor S0) (gi S0) f y d la es em)) 12 := by
    unfold lef
    rw [co55_1]
    refine congrArg _ ?_
    rw [sm_ext (n := (gi S0 55 1).toNat) (m := 12) (by omega) (fun j a b => by rw [ifp_f (fun z => by omega), Int.mul_zero, Int.zero_tdiv])]
    exact sm_congr _ (fun j hj => (eP j (by omega)).symm)
  have ecn : ∀ k : Nat, (k : Int) ≤ gi S0 55 1 → cnW (fun j => ifp (j < gi S0 55 1 ∧ y < gi S0 67 j) (paS (cor S0) (gi S0) f y d la es em j)) k = cnP (cor S0) (gi S0) f y d la es em k := fun k hk => by
    unfold cnW cnP
    refine sm_congr _ (fun j hj => ?_)
    rw [co67]
    dsimp only
    by_cases ho : y < gi S0 67 j
    · rw [ifp_t ⟨by omega, ho⟩]
      by_cases hp : 0 < paS (cor S0) (gi S0) f y d la es em j
      · rw [one_t hp, one_t ⟨ho, hp⟩]
      · rw [one_f hp, one_f (fun z => hp z.2)]
    · rw [ifp_f (fun z => ho z.2), one_f (show ¬ (0 : Int) < 0 by omega), one_f (fun z => ho z.1)]
  suffices hs : Wp (fun S1 => Fr [38] S S1 ∧ (∀ j : Int, 0 ≤ j → j < 12 → gl S1 38 j = ifp (j < gi S0 55 1) (shS (cor S0) (gi S0) f y d la th es em j))) (g71 (tls (gi S0) f 3 (-1)) S) by
    exact p_use hs (fun S1 h1 => fin S1 h1.1 h1.2)
  refine g71_w (A := fun j => ifp (j < gi S0 55 1 ∧ y < gi S0 67 j) (prS (cor S0) (gi S0) f y d la th es em j)) (P := fun j => ifp (j < gi S0 55 1 ∧ y < gi S0 67 j) (paS (cor S0) (gi S0) f y d la es em j)) (fun j a b => ?_) ht (fun j a b => (hR j a b).2.2.2.2.1) er ea el rfl (fun S1 f1 h1 => ⟨f1, fun j a b => ?_⟩)
  · have h := hR j a b
    rw [h.2.1, h.2.2.1, h.2.2.2.1, h.2.2.2.2.2]
    by_cases hn : j < gi S0 55 1 ∧ y < gi S0 67 j
    · have sbj := sb j a hn.1
      rw [ifp_t hn, ifp_t hn, ifp_t hn, ifp_t hn, ifp_t hn]
      exact ⟨rfl, rfl, by omega, by omega, by omega, by omega⟩
    · rw [ifp_f hn, ifp_f hn, ifp_f hn, ifp_f hn, ifp_f hn]
      exact ⟨rfl, rfl, by omega, by omega, by omega, by omega⟩
  · rw [h1 j a b]
    by_cases hn : j < gi S0 55 1
    · rw [ifp_t hn, eP j hn, ecn j.toNat (by omega)]
      unfold shS
      have e3 : (0 < ifp (j < gi S0 55 1 ∧ y < gi S0 67 j) (paS (cor S0) (gi S0) f y d la es em j) ∧ cnP (cor S0) (gi S0) f y d la es em j.toNat < ((lef (cor S0) (gi S0) f y d la th es em).natAbs : Int)) ↔ ((y < cor S0 67 j ∧ 0 < paS (cor S0) (gi S0) f y d la es em j) ∧ cnP (cor S0) (gi S0) f y d la es em j.toNat < ((lef (cor S0) (gi S0) f y d la th es em).natAbs : Int)) := by
        rw [co67]
        by_cases ho : y < gi S0 67 j
        · rw [ifp_t ⟨hn, ho⟩]
          exact ⟨fun z => ⟨⟨ho, z.1⟩, z.2⟩, fun z => ⟨z.1.2, z.2⟩⟩
        · rw [ifp_f (fun z => ho z.2)]
          exact ⟨fun z => by omega, fun z => absurd z.1.1 ho⟩
      rw [propext e3]
      by_cases w : ¬ alP (cor S0) (gi S0) f y d la es em = 0
      · rw [ifp_t w]
        exact (ifp_t ⟨by omega, w⟩).symm
      · rw [ifp_f w]
        exact (ifp_f (fun z => w z.2)).symm
    · rw [ifp_f hn, ifp_f (c := 0 < ifp (j < gi S0 55 1 ∧ y < gi S0 67 j) _ ∧ _) (fun z => by have := z.1; rw [ifp_f (fun z => hn z.1)] at this; omega), ifp_f (c := j < gi S0 55 1 ∧ y < gi S0 67 j) (fun z => hn z.1), Int.mul_zero, Int.zero_tdiv]
      by_cases w : ¬ alP (cor S0) (gi S0) f y d la es em = 0
      · rw [ifp_t w]; rfl
      · rw [ifp_f w]
theorem baS_c {F G : Nat → Int → Int} {f : Int} (C : Nat → Int → Int) (h : SEq F G f) (hF : FOk F f) (y d : Int) (la : Int → Int) (es em s : Int) : baS C F f y d la es em s = baS C G f y d la es em s := by
  have hn := hF.1
  unfold baS
  rw [← nsF_c h]
  exact (lns_c h hF _ _ (by omega)).2
/-- the formula's numbers are the same in a memory that keeps what is kept -/
theorem CT.sc {S0 S1 S : gM} (h : Sc S0 S1) {f y d es em : Int} {la th : Int → Int} (hF : FOk (gi S0) f) (hf : -1 ≤ f) (hC : CT S1 S f y d la th es em) : CT S0 S f y d la th es em := fun j a b => by
  have c := hC j a b
  have e := suS_c (cor S0) (h.seq f) hF hf y d la th es em j
  have eb := baS_c (cor S0) (h.seq f) hF y d la es em j
  rw [h.cE, ← eb, show gi S1 55 1 = gi S0 55 1 from h.i rfl, show gi S1 67 j = gi S0 67 j from h.i rfl, ← e.1, ← e.2.1, ← e.2.2.1, ← e.2.2.2.1] at c
  exact ⟨⟨fun r u v => by rw [c.1.1 r u v, e.2.2.2.2], c.1.2⟩, c.2⟩
theorem CaP.sc {S0 S1 : gM} (h : Sc S0 S1) (e44 : ∀ k, gl S1 44 k = gl S0 44 k) {p : Int → Int} {y : Int} (hp : CaP S0 p y) : CaP S1 p y := fun hy j a b => by
  rw [e44]
  exact hp hy j a (by rw [← show gi S1 55 1 = gi S0 55 1 from h.i rfl]; exact b)
theorem g63_w {S : gM} {q : Nat} {f y d es em : Int} {la p : Int → Int} (hB : Bas S) (hW : WaysI S) (hH : HpI S) (hL : LwF S q f) (hy : 0 ≤ y ∧ y ≤ 9) (hE : gi S 30 17 = es ∧ (es = -1 ∨ gi S 30 18 = em)) (hp : CaP S p y) (hla : ∀ s : Int, 0 ≤ s → s < gi S 55 1 → la s = laG (cor S) p y s ∧ (-15740000000000 ≤ la s ∧ la s ≤ 15740000000000)) :
    Wp (fun S' => Fr frC S S' ∧ WaysI S' ∧ CT S S' f y d la (thV (cor S) y) es em) (g63 q y d S) := by
  unfold g63
  obtain ⟨l34, l35, l36, l37, l38, l39, l40⟩ := hH
  refine p_use (g199_w (S := S) (q := 34) (m := 360) (x := 0) (fun _ => rfl) l34 (by omega)) (fun A1 h1 => ?_)
  refine p_use (g199_w (S := A1) (q := 35) (m := 12) (x := 0) (fun _ => rfl) ((gln_c h1.1.1 _ _).trans l35) (by omega)) (fun A2 h2 => ?_)
  have F2 : Fr frC S A2 := (h1.1.mono rfl).trans (h2.1.mono rfl)
  refine p_use (g199_w (S := A2) (q := 36) (m := 12) (x := 0) (fun _ => rfl) ((gln_c F2.1 _ _).trans l36) (by omega)) (fun A3 h3 => ?_)
  have F3 : Fr frC S A3 := F2.trans (h3.1.mono rfl)
  refine p_use (g199_w (S := A3) (q := 37) (m := 12) (x := 0) (fun _ => rfl) ((gln_c F3.1 _ _).trans l37) (by omega)) (fun A4 h4 => ?_)
  have F4 : Fr frC S A4 := F3.trans (h4.1.mono rfl)
  refine p_use (g199_w (S := A4) (q := 38) (m := 12) (x := 0) (fun _ => rfl) ((gln_c F4.1 _ _).trans l38) (by omega)) (fun A5 h5 => ?_)
  have F5 : Fr frC S A5 := F4.trans (h5.1.mono rfl)
  refine p_use (g199_w (S := A5) (q := 39) (m := 12) (x := 0) (fun _ => rfl) ((gln_c F5.1 _ _).trans l39) (by omega)) (fun A6 h6 => ?_)
  have F6 : Fr frC S A6 := F5.trans (h6.1.mono rfl)
  refine p_use (g199_w (S := A6) (q := 40) (m := 12) (x := 0) (fun _ => rfl) ((gln_c F6.1 _ _).trans l40) (by omega)) (fun A7 h7 => ?_)
  have F7 : Fr frC S A7 := F6.trans (h7.1.mono rfl)
  have sc7 : Sc S A7 := F7.mono rfl
  have z7 : ∀ j : Int, 0 ≤ j → j < 12 → (∀ r : Int, 0 ≤ r → r < 30 → gl A7 34 (30 * j + r) = 0) ∧ gl A7 35 j = 0 ∧ gl A7 36 j = 0 ∧ gl A7 37 j = 0 ∧ gl A7 38 j = 0 ∧ gl A7 39 j = 0 := fun j a b => by
    refine ⟨fun r u v => ?_, ?_, ?_, ?_, ?_, ?_⟩
    · rw [h7.1.l rfl, h6.1.l rfl, h5.1.l rfl, h4.1.l rfl, h3.1.l rfl, h2.1.l rfl]; exact h1.2 _ (by omega) (by omega)
    · rw [h7.1.l rfl, h6.1.l rfl, h5.1.l rfl, h4.1.l rfl, h3.1.l rfl]; exact h2.2 j a b
    · rw [h7.1.l rfl, h6.1.l rfl, h5.1.l rfl, h4.1.l rfl]; exact h3.2 j a b
    · rw [h7.1.l rfl, h6.1.l rfl, h5.1.l rfl]; exact h4.2 j a b
    · rw [h7.1.l rfl, h6.1.l rfl]; exact h5.2 j a b
    · rw [h7.1.l rfl]; exact h6.2 j a b
  have w7 : WaysI A7 := ((((((hW.fr h1.1 rfl).fr h2.1 rfl).fr h3.1 rfl).fr h4.1 rfl).fr h5.1 rfl).fr h6.1 rfl).fr h7.1 rfl
  refine g63_l59_w A7 (hB.sc sc7) (q := q) (d := d) hy ?_
  intro SA fA h43
  have FA : Fr frC S SA := F7.trans (fA.mono rfl)
  have scA : Sc S SA := FA.mono rfl
  have BA := hB.sc scA
  have eA1 : gi SA 55 1 = gi S 55 1 := FA.i rfl
  rw [show gi A7 55 1 = gi S 55 1 from F7.i rfl, sc7.cE, ← scA.cE, ← eA1] at h43
  refine g63_l97_w SA BA (hL.sc scA) (es := es) (em := em) (la := la) (p := p) hy ⟨by rw [show gi SA 30 17 = gi S 30 17 from FA.i rfl]; exact hE.1, by rw [show gi SA 30 18 = gi S 30 18 from FA.i rfl]; exact hE.2⟩ (hp.sc scA (fun k => FA.l rfl)) (fun s a b => by rw [scA.cE]; exact hla s a (by omega)) h43 ?_ 100000 0 (Nat.zero_le _) (by have := hB.n12; omega) SA Fr.refl (fun _ => rfl) (w7.fr fA rfl) (fun j a b => ?_)
  · intro S1 f1 w1 r1
    refine p_imp (g63_end (th := thV (cor SA) y) BA (hL.sc scA) f1 w1 r1 rfl) (fun S2 h => ?_)
    refine ⟨FA.trans h.1, h.2.1, ?_⟩
    have := h.2.2
    rw [scA.cE] at this
    exact CT.sc scA hL.2.1 hL.2.2.1 this
  · have z := z7 j a b
    rw [ifp_f (by omega), ifp_f (by omega), ifp_f (by omega), ifp_f (by omega), ifp_f (by omega), fA.l rfl, fA.l rfl, fA.l rfl, fA.l rfl, fA.l rfl, fA.l rfl]
    exact ⟨⟨fun r u v => by rw [ifp_f (by omega), fA.l rfl]; exact z.1 r u v, h7.2 j a b⟩, z.2⟩
end CS
