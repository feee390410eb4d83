/-! the class's works: all schools, the parts of a total, the sums -/
theorem sm_ext {g : Nat → Int} {n m : Nat} (h : n ≤ m) (h0 : ∀ j, n ≤ j → j < m → g j = 0) : sm g m = sm g n := by
  induction m with
  | zero => have : n = 0 := by omega
            rw [this]
  | succ m ih =>
    by_cases e : n = m + 1
    · rw [e]
    · rw [sm_s, ih (by omega) (fun j a b => h0 j a (by omega)), h0 m (by omega) (by omega), Int.add_zero]
theorem tdiv_two {r p a : Int} (ha : 0 < a) (hp : 0 ≤ p) : r.tdiv a * p + (r.tmod a * p).tdiv a = (r * p).tdiv a := by
  have key : ∀ r : Int, 0 ≤ r → r.tdiv a * p + (r.tmod a * p).tdiv a = (r * p).tdiv a := by
    intro r hr
    have h1 : 0 ≤ r.tmod a := Int.tmod_nonneg a hr
    have h2 := Int.mul_tdiv_add_tmod r a
    have h3 : r * p = r.tmod a * p + a * (r.tdiv a * p) := by
      rw [← Int.mul_assoc, ← Int.add_mul, Int.add_comm, h2]
    rw [Int.tdiv_eq_ediv_of_nonneg (a := r * p) (Int.mul_nonneg hr hp), Int.tdiv_eq_ediv_of_nonneg (a := r.tmod a * p) (Int.mul_nonneg h1 hp), h3, Int.add_mul_ediv_left _ _ (by omega), Int.add_comm]
  by_cases hr : 0 ≤ r
  · exact key r hr
  · have := key (-r) (by omega)
    rw [Int.neg_tdiv, Int.neg_tmod, Int.neg_mul, Int.neg_mul, Int.neg_mul, Int.neg_tdiv, Int.neg_tdiv] at this
    omega
theorem tdiv_part {r p a : Int} (hp : 0 ≤ p ∧ p ≤ a) : (r.tdiv a * p).natAbs ≤ r.natAbs := by
  rw [Int.natAbs_mul, Int.natAbs_tdiv]
  refine Nat.le_trans (Nat.mul_le_mul_left _ (show p.natAbs ≤ a.natAbs by omega)) ?_
  exact Nat.div_mul_le_self _ _
section CD
theorem g199_w {S : gM} {q : Nat} {m x : Int} (hq : ∀ k, rg q k = q) (hm : gln S q 1 = m) (h0 : 0 ≤ m ∧ m ≤ 360) : Wp (fun S' => Fr [q] S S' ∧ ∀ k : Int, 0 ≤ k → k < m → gl S' q k = x) (g199 q x S) := by
  unfold g199
  rw [hm, chk_t (by omega), chk_t (by omega)]
  have key := upto m.toNat (fun n k => ∀ S', Fr [q] S S' → (∀ j : Int, 0 ≤ j → j < k → gl S' q j = x) → Wp (fun S' => Fr [q] S S' ∧ ∀ k : Int, 0 ≤ k → k < m → gl S' q k = x) (g199_l6 q x m n k S')) ?_ 100000 0 (Nat.zero_le _) (by omega) S Fr.refl (fun j a b => by omega)
  · exact key
  intro n k hk ih S' hS hT
  dsimp only [g199_l6]
  refine p_if (fun hc => ?_) (fun hc => ?_)
  · exact p_some ⟨hS, fun j a b => hT j a (by omega)⟩
  rw [show gln S' q 1 = m from (gln_c hS.1 _ _).trans hm, chk_t (by omega), chk_t (by omega), lt_t, ckI_t (by omega)]
  refine ih (by omega) _ (hS.wl (by rw [hq]; simp)) (fun j a b => ?_)
  rw [gl_wl]
  by_cases hj : j = k
  · rw [if_pos ⟨rfl, hj⟩]
  · rw [if_neg (fun w => hj w.2)]; exact hT j a (by omega)
/-- the lengths of the class's rows -/
def HpI (S : gM) : Prop := gln S 34 1 = 360 ∧ gln S 35 1 = 12 ∧ gln S 36 1 = 12 ∧ gln S 37 1 = 12 ∧ gln S 38 1 = 12 ∧ gln S 39 1 = 12 ∧ gln S 40 1 = 12
theorem HpI.fr {S S' : gM} {W : List Nat} (h : HpI S) (hF : Fr W S S') : HpI S' := by
  unfold HpI
  rw [gln_c hF.1, gln_c hF.1, gln_c hF.1, gln_c hF.1, gln_c hF.1, gln_c hF.1, gln_c hF.1]
  exact h
/-- what stands in the class's rows for the first schools -/
def CR (S0 S : gM) (f y d : Int) (la th : Int → Int) (es em : Int) (k : Int) : Prop := ∀ j : Int, 0 ≤ j → j < 12 →
  ((∀ r : Int, 0 ≤ r → r < 30 → gl S 34 (30 * j + r) = ifp (j < k ∧ y < gi S0 67 j) (liS (cor S0) (gi S0) f y d la es em j r)) ∧ gl S 40 j = ifp (j < k ∧ y < gi S0 67 j) (la j)) ∧ gl S 35 j = ifp (j < k ∧ y < gi S0 67 j) (baS (cor S0) (gi S0) f y d la es em j) ∧ gl S 36 j = ifp (j < k ∧ y < gi S0 67 j) (flS (cor S0) (gi S0) f y d la th es em j) ∧ gl S 37 j = ifp (j < k ∧ y < gi S0 67 j) (cpS (cor S0) (gi S0) f y d la th es em j) ∧ gl S 38 j = 0 ∧ gl S 39 j = ifp (j < k ∧ y < gi S0 67 j) (paS (cor S0) (gi S0) f y d la es em j)
abbrev frC : List Nat := [8, 10, 32, 33, 34, 35, 36, 37, 38, 39, 40, 41, 43, 1000030016]
set_option maxHeartbeats 2000000 in
theorem g63_l97_w {Q : gM → Prop} {K : gM → Option gM} (S0 : gM) (hB : Bas S0) {q : Nat} {f y d es em : Int} {la p : Int → Int} (hL : LwF S0 q f) (hy : 0 ≤ y ∧ y ≤ 9) (hE : gi S0 30 17 = es ∧ (es = -1 ∨ gi S0 30 18 = em)) (hp : CaP S0 p y) (hla : ∀ s : Int, 0 ≤ s → s < gi S0 55 1 → la s = laG (cor S0) p y s ∧ (-15740000000000 ≤ la s ∧ la s ≤ 15740000000000)) (h43 : ∀ m : Int, 0 ≤ m → m < gi S0 55 1 → gi S0 43 m = en (cor S0) y 12 m)
    (hK : ∀ S, Fr frC S0 S → WaysI S → CR S0 S f y d la (thV (cor S0) y) es em (gi S0 55 1) → Wp Q (K S)) :
    ∀ n k : Nat, k ≤ (gi S0 55 1).toNat → (gi S0 55 1).toNat - k < n → ∀ S, Fr frC S0 S → (∀ m, gi S 43 m = gi S0 43 m) → WaysI S → CR S0 S f y d la (thV (cor S0) y) es em k → Wp Q (g63_l97 q y d K n k S) := by
  have h0 := hB.n12
  have h17 := hB.2.1.1.2.2.1
  refine upto (gi S0 55 1).toNat (fun n k => ∀ S, Fr frC S0 S → (∀ m, gi S 43 m = gi S0 43 m) → WaysI S → CR S0 S f y d la (thV (cor S0) y) es em k → Wp Q (g63_l97 q y d K n k S)) ?_
  intro n k hk ih S hS e43 hW hR
  dsimp only [g63_l97]
  rw [lt_t, show gi S 1 7 = gi S0 1 7 from hS.i rfl, h17]
  refine p_if (fun hc => ?_) (fun hc => ?_)
  · have : k = (gi S0 55 1).toNat := by omega
    subst this
    rw [show (((gi S0 55 1).toNat : Nat) : Int) = gi S0 55 1 by omega] at hR
    exact hK S hS hW hR
  have ih := ih (by omega)
  have hks : 0 ≤ (k : Int) ∧ (k : Int) < gi S0 55 1 := by omega
  have hkd := hB.2.1.2.1 k hks.1 hks.2
  have e17 : gi S 1 7 = gi S0 55 1 := (hS.i rfl).trans h17
  refine p_call (g2_eq k y (by omega) (by omega)) ?_
  dsimp only
  rw [e17, show gi S 6 k = gi S0 6 k from hS.i rfl, hkd.1.2.2.2]
  have sc : Sc S0 S := hS.mono rfl
  have hRk := hR k (by omega) (by omega)
  refine p_if1n (fun ho => ?_) (fun ho => ?_)
  · have ho := ho.2
    have BS := hB.sc sc
    have hlak := hla k hks.1 hks.2
    have hpS : CaP S p y := fun h j a b => by
      have := hp h j a (by rw [← show gi S 55 1 = gi S0 55 1 from sc.i rfl]; exact b)
      rw [show gl S 44 (12 * (y - 1) + j) = gl S0 44 (12 * (y - 1) + j) from hS.l rfl]
      exact this
    refine p_use (g64_w (S0 := S) BS hW (d := d) (es := es) (em := em) (la := la k) (p := p) hy (s := k) (by rw [show gi S 55 1 = gi S0 55 1 from sc.i rfl]; exact hks) (by rw [show gi S 67 k = gi S0 67 k from hS.i rfl]; exact ho) (h43_fr sc e43 h43) ⟨by rw [show gi S 30 17 = gi S0 30 17 from hS.i rfl]; exact hE.1, by rw [show gi S 30 18 = gi S0 30 18 from hS.i rfl]; exact hE.2⟩ hpS (by rw [sc.cE]; exact hlak.1)) (fun S1 h1 => ?_)
    obtain ⟨f1, w1, n1, t1, l1, th1⟩ := h1
    rw [sc.cE] at t1 th1
    have g1 : Fr frC S0 S1 := hS.trans (f1.mono rfl)
    have sc1 : Sc S0 S1 := g1.mono rfl
    have hwr := wdV_rng hB.1 hB.2.1 hB.2.2.1 hB.2.2.2 (y := y) d (la k) es em hks
    have z : ∀ v : Int, ifp ((k : Int) < k ∧ y < gi S0 67 k) v = 0 := fun v => ifp_f (by omega)
    refine p_use (g67_w (S0 := S1) (hL.sc sc1) (s := k) (by omega) (W := wS (cor S0) y d la es em k) hwr.1 t1 (fun r a b => ?_) ?_) (fun S2 h2 => ?_)
    · rw [show gl S1 34 (30 * (k : Int) + r) = gl S 34 (30 * k + r) from f1.l rfl, hRk.1.1 r a b, z]
    · rw [show gl S1 35 k = gl S 35 k from f1.l rfl, hRk.2.1, z]
    obtain ⟨f2, n2, l2, b2, p2⟩ := h2
    have g2 : Fr frC S0 S2 := g1.trans (f2.mono rfl)
    have sc2 : Sc S0 S2 := g2.mono rfl
    have e5 : (∀ W, lns (gi S1) f W (nsF (gi S1) f).toNat = lns (gi S0) f W (nsF (gi S0) f).toNat) ∧ (∀ W, bar (gi S1) f W (nsF (gi S1) f).toNat = bar (gi S0) f W (nsF (gi S0) f).toNat) := by
      have hn := hL.2.1.1
      exact ⟨fun W => by rw [← nsF_c (sc1.seq f)]; exact (lns_c (sc1.seq f) hL.2.1 W _ (by omega)).1.symm, fun W => by rw [← nsF_c (sc1.seq f)]; exact (lns_c (sc1.seq f) hL.2.1 W _ (by omega)).2.symm⟩
    have et : ∀ S', Sc S0 S' → ∀ w o, tls (gi S') f w o = tls (gi S0) f w o := fun S' h w o => (tls_c (h.seq f) hL.2.1.1 hL.2.2.1 w o).symm
    rw [e5.1] at l2
    rw [e5.2] at b2
    rw [e5.1, et S1 sc1] at p2
    have sb := SB_1 (y := y) (d := d) (la := la) (th := thV (cor S0) y) (es := es) (em := em) hB hL.2.1 hL.2.2.1 hks
    refine p_use (g68_w (S := S2) (s := k) (b := baS (cor S0) (gi S0) f y d la es em k) (la := la k) (th := thV (cor S0) y k) (hd := wS (cor S0) y d la es em k 5) (hL.sc sc2) (by omega) b2 ?_ ?_ ((f2.l rfl).trans l1) ((f2.l rfl).trans th1) ((f2.l rfl).trans (t1 5 (by omega) (by omega))) sb.1 hlak.2 hwr.2) (fun S3 h3 => ?_)
    · rw [show gl S2 36 k = gl S1 36 k from f2.l rfl, show gl S1 36 k = gl S 36 k from f1.l rfl, hRk.2.2.1, z]
    · rw [show gl S2 37 k = gl S1 37 k from f2.l rfl, show gl S1 37 k = gl S 37 k from f1.l rfl, hRk.2.2.2.1, z]
    obtain ⟨f3, n3, fl3, cp3⟩ := h3
    rw [et S2 sc2] at fl3 cp3
    rw [et S2 sc2, et S2 sc2] at fl3 cp3
    have g3 : Fr frC S0 S3 := g2.trans (f3.mono rfl)
    have nT : Nk k S S3 := (n1.trans n2).trans n3
    rw [ckI_t (by omega)]
    refine ih S3 g3 (fun m => ?_) (((w1.fr f2 rfl).fr f3 rfl)) (fun j a b => ?_)
    · rw [show gi S3 43 m = gi S2 43 m from f3.i rfl, show gi S2 43 m = gi S1 43 m from f2.i rfl, show gi S1 43 m = gi S 43 m from f1.i rfl, e43]
    · by_cases hj : j = k
      · rw [hj]
        have ok : (k : Int) < (k + 1 : Nat) ∧ y < gi S0 67 k := ⟨by omega, ho⟩
        rw [ifp_t ok, ifp_t ok, ifp_t ok, ifp_t ok, ifp_t ok]
        refine ⟨⟨fun r u v => ?_, (f3.l rfl).trans ((f2.l rfl).trans l1)⟩, (f3.l rfl).trans b2, fl3, cp3, ?_, (f3.l rfl).trans p2⟩
        · rw [ifp_t ok]; exact (f3.l rfl).trans (l2 r u v)
        · rw [show gl S3 38 k = gl S2 38 k from f3.l rfl, show gl S2 38 k = gl S1 38 k from f2.l rfl, show gl S1 38 k = gl S 38 k from f1.l rfl]
          exact hRk.2.2.2.2.1
      · have h := hR j a b
        have ei : ∀ v : Int, ifp (j < (k + 1 : Nat) ∧ y < gi S0 67 j) v = ifp (j < (k : Int) ∧ y < gi S0 67 j) v := fun v => by
          by_cases w : j < (k : Int) ∧ y < gi S0 67 j
          · rw [ifp_t w, ifp_t ⟨by omega, w.2⟩]
          · rw [ifp_f w, ifp_f (fun z => w ⟨by omega, z.2⟩)]
        rw [ei, ei, ei, ei, ei, nT.1 40 (by omega) (by omega) j hj, nT.1 35 (by omega) (by omega) j hj, nT.1 36 (by omega) (by omega) j hj, nT.1 37 (by omega) (by omega) j hj, nT.1 38 (by omega) (by omega) j hj, nT.1 39 (by omega) (by omega) j hj]
        refine ⟨⟨fun r u v => ?_, h.1.2⟩, h.2⟩
        rw [ei, nT.2 _ (by omega)]
        exact h.1.1 r u v
  · rw [ckI_t (by omega)]
    refine ih S hS e43 hW (fun j a b => ?_)
    have h := hR j a b
    have ei : ∀ v : Int, ifp (j < (k + 1 : Nat) ∧ y < gi S0 67 j) v = ifp (j < (k : Int) ∧ y < gi S0 67 j) v := fun v => by
      by_cases w : j < (k : Int) ∧ y < gi S0 67 j
      · rw [ifp_t w, ifp_t ⟨by omega, w.2⟩]
      · rw [ifp_f w, ifp_f (fun z => by
          by_cases hj : j = k
          · rw [hj] at z; exact ho ⟨hks.2, z.2⟩
          · exact w ⟨by omega, z.2⟩)]
    rw [ei, ei, ei, ei, ei]
    exact ⟨⟨fun r u v => by rw [ei]; exact h.1.1 r u v, h.1.2⟩, h.2⟩
end CD
