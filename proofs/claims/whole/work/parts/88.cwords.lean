/-! the class's works: a school's words, floor and cap -/
section CW
/-- what the class keeps of the year before: the sums of all schools -/
def CaP (S0 : gM) (p : Int → Int) (y : Int) : Prop := 1 ≤ y → ∀ j : Int, 0 ≤ j → j < gi S0 55 1 → gl S0 44 (12 * (y - 1) + j) = p j ∧ (-1311000000001 ≤ p j ∧ p j ≤ 1311000000001)
noncomputable def laG (C : Nat → Int → Int) (p : Int → Int) (y s : Int) : Int := if y < 1 then 0 else laN C p y s
theorem g66_eq {S : gM} (hB : Bas S) {y s : Int} {p : Int → Int} (hy : 0 ≤ y ∧ y ≤ 9) (ho : y < gi S 67 s) (h43 : ∀ m : Int, 0 ≤ m → m < gi S 55 1 → gi S 43 m = en (cor S) y 12 m) (hp : CaP S p y) : g66 s y S = some (laG (cor S) p y s, S) := by
  have h0 := hB.n12
  have h17 := hB.2.1.1.2.2.1
  refine p_eq ?_
  unfold g66 laG
  refine p_if (fun hc => ?_) (fun hc => ?_)
  · rw [if_pos hc]; exact p_some rfl
  refine p_if (fun _ => ?_) (fun hc2 => absurd hy.2 (by omega))
  rw [if_neg hc]
  have hp := hp (by omega)
  have e : laN (cor S) p y s = sm (fun m => ifp (onC (cor S) s y 12 m) (p m)) (gi S 55 1).toNat := by unfold laN; rw [co55_1]
  rw [e]
  refine upto (gi S 55 1).toNat (fun n k => Wp (fun z => z = (sm (fun m => ifp (onC (cor S) s y 12 m) (p m)) (gi S 55 1).toNat, S)) (g66_l18 s y n (sm (fun m => ifp (onC (cor S) s y 12 m) (p m)) k) k S)) ?_ 100000 0 (Nat.zero_le _) (by omega)
  intro n k hk ih
  dsimp only [g66_l18]
  rw [lt_t, h17]
  refine p_if (fun hc => ?_) (fun hc => ?_)
  · rw [show k = (gi S 55 1).toNat by omega]; exact p_some rfl
  have ih := ih (by omega)
  rw [sm_s] at ih
  have e := h43 k (by omega) (by omega)
  have e2 := onC_en (cor S) s y (by rw [co67]; exact ho) 12 k
  have b1 := sm_ifp_rng (c := fun m => onC (cor S) s y 12 m) (g := fun m => p m) (A := -1311000000001) (B := 1311000000001) (n := (gi S 55 1).toNat) (by omega) (by omega) (by omega) (fun j hj => (hp j (by omega) (by omega)).2) k hk
  rw [chk_t (by omega), lt_t]
  refine p_if (fun hd => ?_) (fun hd => ?_)
  · rw [ifp_f (fun z => hd (e.trans (e2.mp z))), Int.add_zero] at ih
    rw [ckI_t (by omega)]
    exact ih
  · rw [ifp_t (e2.mpr (e.symm.trans (Classical.not_not.mp hd)))] at ih
    have hpk := hp k (by omega) (by omega)
    rw [ckI_t (by omega), ckI_t (by omega), ckI_t (by omega), chk_t (by omega), lt_t, show (y - 1) * 12 + (k : Int) = 12 * (y - 1) + k by omega, hpk.1, ckJ_t (by omega), ckI_t (by omega)]
    exact ih
theorem h43_fr {S0 S : gM} (hS : Sc S0 S) {y : Int} (e43 : ∀ m, gi S 43 m = gi S0 43 m) (h43 : ∀ m : Int, 0 ≤ m → m < gi S0 55 1 → gi S0 43 m = en (cor S0) y 12 m) : ∀ m : Int, 0 ≤ m → m < gi S 55 1 → gi S 43 m = en (cor S) y 12 m := fun m a b => by
  rw [hS.cE, e43]
  exact h43 m a (by rw [← show gi S 55 1 = gi S0 55 1 from hS.i rfl]; exact b)
theorem g64_l238_w {S0 : gM} (hB : Bas S0) {y s : Int} (hy : 0 ≤ y ∧ y ≤ 9) (ho : y < gi S0 67 s) (h43 : ∀ m : Int, 0 ≤ m → m < gi S0 55 1 → gi S0 43 m = en (cor S0) y 12 m) (h0 : gl S0 30 16 = 0) :
    Wp (fun S => Fr [1000030016] S0 S ∧ gl S 30 16 = thV (cor S0) y s) (g64_l238 s y 100000 0 S0) := by
  have b := fun k => mkB_rng hB.1 hB.2.1 s y (max 0 (y - 2)) k (100 * y)
  have key := upto 3 (fun n k => ∀ S, Fr [1000030016] S0 S → gl S 30 16 = (if y < 1 then 0 else sm (fun j => mkB (cor S0) s y (max 0 (y - 2)) j (100 * y)) k) → Wp (fun S => Fr [1000030016] S0 S ∧ gl S 30 16 = thV (cor S0) y s) (g64_l238 s y n k S)) ?_ 100000 0 (Nat.zero_le _) (by omega) S0 Fr.refl (by rw [h0]; split <;> rfl)
  · exact key
  intro n k hk ih S hS hT
  dsimp only [g64_l238]
  refine p_if (fun hc => ?_) (fun hc => ?_)
  · have : k = 3 := by omega
    subst this
    refine p_some ⟨hS, ?_⟩
    rw [hT]
    unfold thV
    by_cases h1 : y < 1
    · rw [if_pos h1, if_pos h1]
    · rw [if_neg h1, if_neg h1]
      show 0 + _ + _ + _ = _
      rw [Int.zero_add]
      rfl
  refine p_if (fun hc2 => ?_) (fun hc2 => ?_)
  · refine p_some ⟨hS, ?_⟩
    rw [hT]
    unfold thV
    rw [if_pos (by omega), if_pos (by omega)]
  rw [if_neg (by omega)] at hT
  have sc : Sc S0 S := hS.mono rfl
  rw [lt_t, ckI_t (by omega), lt_t, ckI_t (by omega)]
  refine p_call (g65_eq (hB.sc sc).1 (hB.sc sc).2.1 (y := y) (s := s) (look := max 0 (y - 2)) (w := k) (y * 100) hy.2 (by rw [show gi S 67 s = gi S0 67 s from hS.i rfl]; exact ho) (by omega) (by omega) (h43_fr sc (fun m => hS.i rfl) h43)) ?_
  dsimp only
  have hbk := b k
  have hsm := sm_rng (f := fun j => mkB (cor S0) s y (max 0 (y - 2)) j (100 * y)) 0 (9999 * 12) k (fun j _ => b j)
  rw [sc.cE, hT, show y * 100 = 100 * y by omega, ckJ_t (by omega), lt_t, ckI_t (by omega)]
  refine ih (by omega) _ (hS.wl rfl) ?_
  rw [gl_wl, if_pos ⟨rfl, rfl⟩, if_neg (by omega), sm_s]
theorem g64_l12_w {Q : gM → Prop} {K : gM → Option gM} {S0 : gM} (hB : Bas S0) {y d s es em : Int} {z : Int} (hy : 0 ≤ y ∧ y ≤ 9) (hs : 0 ≤ s) (ho : y < gi S0 67 s) (h43 : ∀ m : Int, 0 ≤ m → m < gi S0 55 1 → gi S0 43 m = en (cor S0) y 12 m) (hE : gi S0 30 17 = es ∧ (es = -1 ∨ gi S0 30 18 = em))
    (hK : ∀ S, Fr [32] S0 S → (∀ i : Int, 0 ≤ i → i < 5 → gl S 32 (wmp i) = mkB (cor S0) s y (max 0 (y - 1)) i d + (if s = es ∧ i = em then 1 else 0)) → Wp Q (K S)) :
    ∀ n k : Nat, k ≤ 5 → 5 - k < n → ∀ S, Fr [32] S0 S → (∀ i : Int, 0 ≤ i → i < k → gl S 32 (wmp i) = mkB (cor S0) s y (max 0 (y - 1)) i d + (if s = es ∧ i = em then 1 else 0)) → Wp Q (g64_l12 s z d (max 0 (y - 1)) K n k S) := by
  refine upto 5 (fun n k => ∀ S, Fr [32] S0 S → (∀ i : Int, 0 ≤ i → i < k → gl S 32 (wmp i) = mkB (cor S0) s y (max 0 (y - 1)) i d + (if s = es ∧ i = em then 1 else 0)) → Wp Q (g64_l12 s z d (max 0 (y - 1)) K n k S)) ?_
  intro n k hk ih S hS hT
  dsimp only [g64_l12]
  refine p_if (fun hc => ?_) (fun hc => ?_)
  · exact hK S hS (fun i a b => hT i a (by omega))
  have ih := ih (by omega)
  have sc : Sc S0 S := hS.mono rfl
  have hbk := mkB_rng hB.1 hB.2.1 s y (max 0 (y - 1)) k d
  refine p_call (g65_eq (hB.sc sc).1 (hB.sc sc).2.1 (y := y) (s := s) (look := max 0 (y - 1)) (w := k) d hy.2 (by rw [show gi S 67 s = gi S0 67 s from hS.i rfl]; exact ho) (by omega) (by omega) (h43_fr sc (fun m => hS.i rfl) h43)) ?_
  dsimp only
  have e17 : gi S 30 17 = es := (hS.i rfl).trans hE.1
  have e18 : gi S 30 18 = gi S0 30 18 := hS.i rfl
  rw [sc.cE, lt_t, e17]
  have go : ∀ x : Int, x = mkB (cor S0) s y (max 0 (y - 1)) k d + (if s = es ∧ (k : Int) = em then 1 else 0) → Wp Q (g64_j53 K (g64_l12 s z d (max 0 (y - 1)) K n) s z d (max 0 (y - 1)) k x S) := fun x hx => by
    unfold g64_j53
    have wk : ∀ m : Int, m = wmp k → ∀ i : Int, 0 ≤ i → i < (k + 1 : Nat) → gl (wl S 32 m x) 32 (wmp i) = mkB (cor S0) s y (max 0 (y - 1)) i d + (if s = es ∧ i = em then 1 else 0) := fun m hm i a b => by
      rw [gl_wl]
      by_cases hi : i = k
      · rw [if_pos ⟨rfl, by rw [hi, hm]⟩, hx, hi]
      · rw [if_neg]
        · exact hT i a (by omega)
        · rintro ⟨-, w⟩
          rw [hm] at w
          unfold wmp at w
          split at w <;> split at w <;> (try split at w) <;> (try split at w) <;> (try split at w) <;> omega
    refine p_if (fun h3 => ?_) (fun h3 => ?_)
    · rw [ckI_t (by omega), chk_t (by omega), lt_t, ckI_t (by omega)]
      refine ih _ (hS.wl rfl) (wk _ ?_)
      have : k = 3 ∨ k = 4 := by omega
      rcases this with rfl | rfl <;> rfl
    · rw [chk_t (by omega), lt_t, ckI_t (by omega)]
      refine ih _ (hS.wl rfl) (wk _ ?_)
      have : k = 0 ∨ k = 1 ∨ k = 2 := by omega
      rcases this with rfl | rfl | rfl <;> rfl
  refine p_if (fun h1 => ?_) (fun h1 => ?_)
  · exact go _ (by rw [if_neg (fun w => h1 w.1), Int.add_zero])
  · have hem : gi S 30 18 = em := by rw [e18]; rcases hE.2 with w | w; omega; exact w
    rw [lt_t, hem]
    refine p_if (fun h2 => ?_) (fun h2 => ?_)
    · exact go _ (by rw [if_neg (fun w => h2 w.2), Int.add_zero])
    · rw [ckJ_t (by omega)]
      exact go _ (by rw [if_pos ⟨Classical.not_not.mp h1, Classical.not_not.mp h2⟩])
set_option maxHeartbeats 1000000 in
theorem g64_w {S0 : gM} (hB : Bas S0) (hW : WaysI S0) {y d s es em la : Int} {p : Int → Int} (hy : 0 ≤ y ∧ y ≤ 9) (hs : 0 ≤ s ∧ s < gi S0 55 1) (ho : y < gi S0 67 s) (h43 : ∀ m : Int, 0 ≤ m → m < gi S0 55 1 → gi S0 43 m = en (cor S0) y 12 m) (hE : gi S0 30 17 = es ∧ (es = -1 ∨ gi S0 30 18 = em)) (hp : CaP S0 p y) (hla : la = laG (cor S0) p y s) :
    Wp (fun S => Fr [8, 10, 32, 40, 1000030016] S0 S ∧ WaysI S ∧ Nk s S0 S ∧ (∀ i : Int, 0 ≤ i → i < 10 → gl S 32 (wmp i) = wdV (cor S0) y d la es em s i) ∧ gl S 40 s = la ∧ gl S 30 16 = thV (cor S0) y s) (g64 s y d S0) := by
  have h0 := hB.n12
  have hks := hB.2.1.2.1 s hs.1 hs.2
  have b := fun k => mkB_rng hB.1 hB.2.1 s y (max 0 (y - 1)) k d
  unfold g64
  rw [ckI_t (by omega), lt_t]
  refine g64_l12_w hB hy hs.1 ho h43 hE ?_ 100000 0 (Nat.zero_le _) (by omega) S0 Fr.refl (fun i a b => by omega)
  intro S1 hS1 hT
  have t0 := hT 0 (by omega) (by omega)
  have t1 := hT 1 (by omega) (by omega)
  have t2 := hT 2 (by omega) (by omega)
  rw [show wmp 0 = 0 from rfl] at t0
  rw [show wmp 1 = 1 from rfl] at t1
  rw [show wmp 2 = 2 from rfl] at t2
  have e01 : ∀ c : Prop, [Decidable c] → 0 ≤ (if c then (1 : Int) else 0) ∧ (if c then (1 : Int) else 0) ≤ 1 := fun c _ => by split <;> omega
  have b0 := b 0
  have b1 := b 1
  have b2 := b 2
  have c0 := e01 (s = es ∧ 0 = em)
  have c1 := e01 (s = es ∧ 1 = em)
  have c2 := e01 (s = es ∧ 2 = em)
  have w5 : wdV (cor S0) y d la es em s 5 = gl S1 32 0 + gl S1 32 1 + gl S1 32 2 := by
    rw [t0, t1, t2]
    unfold wdV
    rw [if_pos rfl]
  rw [lt_t, lt_t, ckJ_t (by omega), lt_t, ckJ_t (by omega), ← w5, lt_t, chk_t (by omega), lt_t, gi_wl, show gi S1 2 s = gi S0 2 s from hS1.i rfl, hks.1.1]
  have hnd := hB.2.2.1 (gi S0 56 s) hks.2.1.1 hks.2.1.2
  rw [chk_t (by omega), lt_t, gi_wl, show gi S1 7 (gi S0 56 s) = gi S0 7 (gi S0 56 s) from hS1.i rfl, hnd.1, lt_t]
  have fA : Fr [8, 10, 32, 40, 1000030016] S0 (wl (wl S1 32 3 (wdV (cor S0) y d la es em s 5)) 32 6 (gi S0 59 (gi S0 56 s))) := ((hS1.mono rfl).wl rfl).wl rfl
  have fA2 : Fr [32] S0 (wl (wl S1 32 3 (wdV (cor S0) y d la es em s 5)) 32 6 (gi S0 59 (gi S0 56 s))) := (hS1.wl rfl).wl rfl
  have nA : Nk s S0 (wl (wl S1 32 3 (wdV (cor S0) y d la es em s 5)) 32 6 (gi S0 59 (gi S0 56 s))) := ((Nk.refl.fr hS1 rfl).wl (Or.inr (Or.inr (by omega)))).wl (Or.inr (Or.inr (by omega)))
  have tA : ∀ i : Int, 0 ≤ i → i < 7 → gl (wl (wl S1 32 3 (wdV (cor S0) y d la es em s 5)) 32 6 (gi S0 59 (gi S0 56 s))) 32 (wmp i) = wdV (cor S0) y d la es em s i := fun i a b => by
    rw [gl_wl, gl_wl]
    by_cases i6 : i = 6
    · rw [i6, if_pos ⟨rfl, rfl⟩]
      unfold wdV
      rw [if_neg (by decide), if_pos rfl, co59, co56]
    by_cases i5 : i = 5
    · rw [i5, if_neg (by rintro ⟨-, w⟩; exact absurd w (by decide)), if_pos ⟨rfl, rfl⟩]
    have hx : i = 0 ∨ i = 1 ∨ i = 2 ∨ i = 3 ∨ i = 4 := by omega
    have hn6 : ¬ wmp i = 6 := by rcases hx with rfl | rfl | rfl | rfl | rfl <;> decide
    have hn3 : ¬ wmp i = 3 := by rcases hx with rfl | rfl | rfl | rfl | rfl <;> decide
    rw [if_neg (fun w => hn6 w.2), if_neg (fun w => hn3 w.2), hT i a (by omega)]
    unfold wdV
    rw [if_neg i5, if_neg i6, if_neg (show ¬ i = 7 by omega), if_neg (show ¬ i = 8 by omega), if_neg (show ¬ i = 9 by omega)]
  generalize wl (wl S1 32 3 (wdV (cor S0) y d la es em s 5)) 32 6 (gi S0 59 (gi S0 56 s)) = SA at *
  have scA : Sc S0 SA := fA.mono rfl
  have BA := hB.sc scA
  have e1A : gi SA 55 1 = gi S0 55 1 := fA.i rfl
  refine p_use (g7_w BA.2.1 BA.2.2.2 (WaysI.fr hW fA2 rfl) y (by rw [e1A]; exact hs)) (fun r hr => ?_)
  rw [scA.cE] at hr
  have fB : Fr [8, 10, 32, 40, 1000030016] S0 (wl r.2 32 7 r.1) := (fA.trans (hr.2.2.1.mono rfl)).wl rfl
  have nB : Nk s S0 (wl r.2 32 7 r.1) := (nA.fr hr.2.2.1 rfl).wl (Or.inr (Or.inr (by omega)))
  have fB2 : Fr [32] r.2 (wl r.2 32 7 r.1) := Fr.refl.wl rfl
  have wB : WaysI (wl r.2 32 7 r.1) := WaysI.fr hr.2.2.2 fB2 rfl
  have scB : Sc S0 (wl r.2 32 7 r.1) := fB.mono rfl
  have tB : ∀ i : Int, 0 ≤ i → i < 8 → gl (wl r.2 32 7 r.1) 32 (wmp i) = wdV (cor S0) y d la es em s i := fun i a b => by
    rw [gl_wl]
    by_cases i7 : i = 7
    · rw [i7, if_pos ⟨rfl, rfl⟩, hr.1]
      unfold wdV
      rw [if_neg (by decide), if_neg (by decide), if_pos rfl]
    · have hx : i = 0 ∨ i = 1 ∨ i = 2 ∨ i = 3 ∨ i = 4 ∨ i = 5 ∨ i = 6 := by omega
      have hn7 : ¬ wmp i = 7 := by rcases hx with rfl | rfl | rfl | rfl | rfl | rfl | rfl <;> decide
      rw [if_neg (fun w => hn7 w.2)]
      exact (hr.2.2.1.l rfl).trans (tA i a (by omega))
  rw [lt_t]
  generalize wl r.2 32 7 r.1 = SB at *
  have BB := hB.sc scB
  have pB : CaP SB p y := fun h j a b => by
    have := hp h j a (by rw [← show gi SB 55 1 = gi S0 55 1 from scB.i rfl]; exact b)
    rw [show gl SB 44 (12 * (y - 1) + j) = gl S0 44 (12 * (y - 1) + j) from fB.l rfl]
    exact this
  refine p_call (g66_eq BB hy (by rw [show gi SB 67 s = gi S0 67 s from fB.i rfl]; exact ho) (h43_fr scB (fun m => fB.i rfl) h43) pB) ?_
  dsimp only
  rw [scB.cE, ← hla, chk_t (by omega), lt_t, chk_t (by omega), lt_t, gl_wl, if_pos ⟨rfl, rfl⟩, lt_t, lt_t, show max (-100000000) (min 100000000 la) = hld la from rfl, lt_t, chk_t (by omega), lt_t, gi_wl, gi_wl, show gi SB 2 s = gi S0 2 s from fB.i rfl, hks.1.1, lt_t, lt_t]
  have fC : Fr [8, 10, 32, 40, 1000030016] S0 (wl (wl (wl (wl SB 40 s la) 32 8 (hld la)) 32 9 (gi S0 56 s)) 30 16 0) := (((fB.wl rfl).wl rfl).wl rfl).wl rfl
  have fC2 : Fr [32, 40, 1000030016] SB (wl (wl (wl (wl SB 40 s la) 32 8 (hld la)) 32 9 (gi S0 56 s)) 30 16 0) := (((Fr.refl.wl rfl).wl rfl).wl rfl).wl rfl
  have nC : Nk s S0 (wl (wl (wl (wl SB 40 s la) 32 8 (hld la)) 32 9 (gi S0 56 s)) 30 16 0) := (((nB.wl (Or.inl ⟨by omega, rfl⟩)).wl (Or.inr (Or.inr (by omega)))).wl (Or.inr (Or.inr (by omega)))).wl (Or.inr (Or.inr (by omega)))
  have scC : Sc S0 (wl (wl (wl (wl SB 40 s la) 32 8 (hld la)) 32 9 (gi S0 56 s)) 30 16 0) := fC.mono rfl
  have tC : ∀ i : Int, 0 ≤ i → i < 10 → gl (wl (wl (wl (wl SB 40 s la) 32 8 (hld la)) 32 9 (gi S0 56 s)) 30 16 0) 32 (wmp i) = wdV (cor S0) y d la es em s i := fun i a b => by
    rw [gl_wl, if_neg (by rintro ⟨z, -⟩; cases z), gl_wl, gl_wl]
    by_cases i9 : i = 9
    · rw [i9, if_pos ⟨rfl, rfl⟩]; unfold wdV; rw [if_neg (by decide), if_neg (by decide), if_neg (by decide), if_neg (by decide), if_pos rfl, co56]
    by_cases i8 : i = 8
    · rw [i8, if_neg (by rintro ⟨-, w⟩; exact absurd w (by decide)), if_pos ⟨rfl, rfl⟩]; unfold wdV; rw [if_neg (by decide), if_neg (by decide), if_neg (by decide), if_pos rfl]
    have hx : i = 0 ∨ i = 1 ∨ i = 2 ∨ i = 3 ∨ i = 4 ∨ i = 5 ∨ i = 6 ∨ i = 7 := by omega
    have hn9 : ¬ wmp i = 9 := by rcases hx with rfl | rfl | rfl | rfl | rfl | rfl | rfl | rfl <;> decide
    have hn8 : ¬ wmp i = 8 := by rcases hx with rfl | rfl | rfl | rfl | rfl | rfl | rfl | rfl <;> decide
    rw [if_neg (fun w => hn9 w.2), if_neg (fun w => hn8 w.2), gl_wl, if_neg (by rintro ⟨z, -⟩; cases z)]
    exact tB i a (by omega)
  have c40 : gl (wl (wl (wl (wl SB 40 s la) 32 8 (hld la)) 32 9 (gi S0 56 s)) 30 16 0) 40 s = la := by
    rw [gl_wl, if_neg (by rintro ⟨z, -⟩; cases z), gl_wl, if_neg (by rintro ⟨z, -⟩; cases z), gl_wl, if_neg (by rintro ⟨z, -⟩; cases z), gl_wl, if_pos ⟨rfl, rfl⟩]
  have c16 : gl (wl (wl (wl (wl SB 40 s la) 32 8 (hld la)) 32 9 (gi S0 56 s)) 30 16 0) 30 16 = 0 := by rw [gl_wl, if_pos ⟨rfl, rfl⟩]
  generalize wl (wl (wl (wl SB 40 s la) 32 8 (hld la)) 32 9 (gi S0 56 s)) 30 16 0 = SC at *
  refine p_imp (g64_l238_w (hB.sc scC) hy (by rw [show gi SC 67 s = gi S0 67 s from fC.i rfl]; exact ho) (h43_fr scC (fun m => fC.i rfl) h43) c16) (fun S h => ?_)
  rw [scC.cE] at h
  exact ⟨fC.trans (h.1.mono rfl), (WaysI.fr wB fC2 rfl).fr h.1 rfl, nC.fr h.1 rfl, fun i a b => (h.1.l rfl).trans (tC i a b), (h.1.l rfl).trans c40, h.2⟩
/-- floor -/
theorem g69_w {S : gM} {q : Nat} {f s base b pr : Int} (hL : LwF S q f) (hs : 0 ≤ s ∧ s < 12) (hb : gl S 35 s = b) (h36 : gl S 36 s = 0) (h37 : gl S 37 s = pr) (hbs : -10000000000 ≤ base ∧ base ≤ 10000000000) (rb : -3000000000 ≤ b ∧ b ≤ 3000000000) (rp : -200000000000 ≤ pr ∧ pr ≤ 200000000000) :
    Wp (fun S' => Fr [36] S S' ∧ Nk s S S' ∧ gl S' 36 s = lfV (tls (gi S) f 1 (-1)) base (b + pr)) (g69 q s base S) := by
  have ht := (tls_rng hL.2.1 hL.2.2.1).1
  have lS := hL.1.1
  have l6 : gln S (q + 1) 0 = 6 := lS.2.2.1
  have e0 : gi S (q + 1) 0 = tls (gi S) f 1 (-1) := hL.1.2.2.1.1
  unfold g69
  have hm1 := mul_rng2 (A := 10000000000) (B := 1000) hbs (y := tls (gi S) f 1 (-1)) (by omega)
  have u1 : -100000000000 ≤ (base * tls (gi S) f 1 (-1)).tdiv 100 ∧ (base * tls (gi S) f 1 (-1)).tdiv 100 ≤ 100000000000 := by
    have e : ((base * tls (gi S) f 1 (-1)).tdiv 100).natAbs = (base * tls (gi S) f 1 (-1)).natAbs / 100 := by rw [Int.natAbs_tdiv]; rfl
    omega
  rw [chk_t lS.1, chk_t lS.2.1.1, l6, chk_t (by omega), chk_t (by omega), lt_t, e0, ckJ_t (by omega), ckJ_t (by omega), chk_t (by omega), lt_t, hb, ckJ_t (by omega), chk_t (by omega), lt_t, h37, ckJ_t (by omega),
    chk_t lS.1, chk_t lS.2.1.1, chk_t (by omega), chk_t (by omega), lt_t]
  unfold lfV
  refine p_if (fun c => ?_) (fun c => ?_)
  · exact p_some ⟨Fr.refl, Nk.refl, by rw [h36, if_neg (by omega)]⟩
  refine p_if (fun c2 => ?_) (fun c2 => ?_)
  · exact p_some ⟨Fr.refl, Nk.refl, by rw [h36, if_neg (by omega)]⟩
  rw [chk_t (by omega), lt_t]
  exact p_some ⟨Fr.refl.wl rfl, Nk.refl.wl (Or.inl ⟨by omega, rfl⟩), by rw [gl_wl, if_pos ⟨rfl, rfl⟩, if_pos (by omega)]; omega⟩
/-- cap -/
theorem g70_w {S : gM} {q : Nat} {f s base b pr : Int} (hL : LwF S q f) (hs : 0 ≤ s ∧ s < 12) (hb : gl S 35 s = b) (h36 : gl S 37 s = 0) (h37 : gl S 36 s = pr) (hbs : -10000000000 ≤ base ∧ base ≤ 10000000000) (rb : -3000000000 ≤ b ∧ b ≤ 3000000000) (rp : -200000000000 ≤ pr ∧ pr ≤ 200000000000) :
    Wp (fun S' => Fr [37] S S' ∧ Nk s S S' ∧ gl S' 37 s = cpV (tls (gi S) f 2 (-1)) base (b + pr)) (g70 q s base S) := by
  have ht := (tls_rng hL.2.1 hL.2.2.1).2.1
  have lS := hL.1.1
  have l6 : gln S (q + 1) 0 = 6 := lS.2.2.1
  have e0 : gi S (q + 1) 1 = tls (gi S) f 2 (-1) := hL.1.2.2.1.2.1
  unfold g70
  have hm1 := mul_rng2 (A := 10000000000) (B := 1000) hbs (y := tls (gi S) f 2 (-1)) (by omega)
  have u1 : -100000000000 ≤ (base * tls (gi S) f 2 (-1)).tdiv 100 ∧ (base * tls (gi S) f 2 (-1)).tdiv 100 ≤ 100000000000 := by
    have e : ((base * tls (gi S) f 2 (-1)).tdiv 100).natAbs = (base * tls (gi S) f 2 (-1)).natAbs / 100 := by rw [Int.natAbs_tdiv]; rfl
    omega
  rw [chk_t lS.1, chk_t lS.2.1.1, l6, chk_t (by omega), chk_t (by omega), lt_t, e0, ckJ_t (by omega), ckJ_t (by omega), chk_t (by omega), lt_t, hb, ckJ_t (by omega), chk_t (by omega), lt_t, h37, ckJ_t (by omega),
    chk_t lS.1, chk_t lS.2.1.1, chk_t (by omega), chk_t (by omega), lt_t]
  unfold cpV
  refine p_if (fun c => ?_) (fun c => ?_)
  · exact p_some ⟨Fr.refl, Nk.refl, by rw [h36, if_neg (by omega)]⟩
  refine p_if (fun c2 => ?_) (fun c2 => ?_)
  · exact p_some ⟨Fr.refl, Nk.refl, by rw [h36, if_neg (by omega)]⟩
  rw [chk_t (by omega), lt_t]
  exact p_some ⟨Fr.refl.wl rfl, Nk.refl.wl (Or.inl ⟨by omega, rfl⟩), by rw [gl_wl, if_pos ⟨rfl, rfl⟩, if_pos (by omega)]; omega⟩
theorem LwF.sc {S S' : gM} {q : Nat} {f : Int} (h : LwF S q f) (hS : Sc S S') : LwF S' q f := ⟨h.1.sc hS h.2.1.1 h.2.2.1, FOk_c (hS.seq f) h.2.1, h.2.2⟩
theorem g68_w {S : gM} {q : Nat} {f s b la th hd : Int} (hL : LwF S q f) (hs : 0 ≤ s ∧ s < 12) (hb : gl S 35 s = b) (h36 : gl S 36 s = 0) (h37 : gl S 37 s = 0) (hla : gl S 40 s = la) (hth : gl S 30 16 = th) (hhd : gl S 32 3 = hd) (rb : -3000000000 ≤ b ∧ b ≤ 3000000000) (rl : -15740000000000 ≤ la ∧ la ≤ 15740000000000) (rh : 0 ≤ hd ∧ hd ≤ 359967) :
    Wp (fun S' => Fr [36, 37] S S' ∧ Nk s S S' ∧ gl S' 36 s = flo la hd th (tls (gi S) f 1 (-1)) (tls (gi S) f 2 (-1)) (tls (gi S) f 5 0) b ∧ gl S' 37 s = cpo la hd th (tls (gi S) f 1 (-1)) (tls (gi S) f 2 (-1)) (tls (gi S) f 5 0) b) (g68 q s S) := by
  have lS := hL.1.1
  have l6 : gln S (q + 1) 0 = 6 := lS.2.2.1
  have e4 : gi S (q + 1) 4 = tls (gi S) f 5 0 := hL.1.2.2.1.2.2.2.2.1
  have ht5 := (tls_rng hL.2.1 hL.2.2.1).2.2.2.2.1
  have ht1 := (tls_rng hL.2.1 hL.2.2.1)
  have tc : ∀ S', Sc S S' → ∀ w o, tls (gi S') f w o = tls (gi S) f w o := fun S' h w o => (tls_c (h.seq f) hL.2.1.1 hL.2.2.1 w o).symm
  unfold g68
  rw [chk_t (by omega), lt_t, hla]
  unfold flo cpo
  refine p_if (fun c => ?_) (fun c => ?_)
  · exact p_some ⟨Fr.refl, Nk.refl, by rw [h36, if_pos (Or.inl c)], by rw [h37, if_pos (Or.inl c)]⟩
  rw [lt_t, hth]
  refine p_if (fun c2 => ?_) (fun c2 => ?_)
  · have hno : ¬ (la = 0 ∨ th = 0) := fun z => z.elim c c2
    rw [if_neg hno, if_neg hno]
    have hm := mul_rng2 (A := 15740000000000) (B := 359967) rl (y := hd) (by omega)
    have ht2 := tdiv_rng (y := th) (B := 15740000000000 * 359967) hm
    rw [chk_t (by omega), lt_t, lt_t, hhd, ckJ_t (by omega), lt_t, chk_t c2, ckJ_t (by omega), lt_t, lt_t]
    have hbs := bsV_rng la hd th
    have ebs : max (-10000000000) (min 10000000000 ((la * hd).tdiv th)) = bsV la hd th := rfl
    rw [ebs, chk_t lS.1, chk_t lS.2.1.1, l6, chk_t (by omega), chk_t (by omega), lt_t, e4]
    generalize bsV la hd th = base at *
    refine p_if (fun c3 => ?_) (fun c3 => ?_)
    · rw [if_pos (by omega), if_pos (by omega)]
      refine p_use (g70_w hL hs hb h37 h36 hbs rb (by omega)) (fun S1 h1 => ?_)
      have sc1 : Sc S S1 := h1.1.mono rfl
      rw [Int.add_zero] at h1
      have hfc := fc_rng (la := la) (hd := hd) (th := th) (ord := 1) ht1.1 ht1.2.1 rb
      have hc := cpV_c (tls (gi S) f 2 (-1)) base b
      have rp : -200000000000 ≤ cpV (tls (gi S) f 2 (-1)) base b ∧ cpV (tls (gi S) f 2 (-1)) base b ≤ 200000000000 := by
        have hm1 := mul_rng2 (A := 10000000000) (B := 1000) hbs (y := tls (gi S) f 2 (-1)) (by omega)
        have u1 : -100000000000 ≤ (base * tls (gi S) f 2 (-1)).tdiv 100 ∧ (base * tls (gi S) f 2 (-1)).tdiv 100 ≤ 100000000000 := by
          have e : ((base * tls (gi S) f 2 (-1)).tdiv 100).natAbs = (base * tls (gi S) f 2 (-1)).natAbs / 100 := by rw [Int.natAbs_tdiv]; rfl
          omega
        omega
      refine p_use (g69_w (hL.sc sc1) hs ((h1.1.l rfl).trans hb) ((h1.1.l rfl).trans h36) h1.2.2 hbs rb rp) (fun S2 h2 => ?_)
      rw [tc S1 sc1] at h2
      exact p_some ⟨(h1.1.mono rfl).trans (h2.1.mono rfl), h1.2.1.trans h2.2.1, h2.2.2, (h2.1.l rfl).trans h1.2.2⟩
    · rw [if_neg (by omega), if_neg (by omega)]
      refine p_use (g69_w hL hs hb h36 h37 hbs rb (by omega)) (fun S1 h1 => ?_)
      have sc1 : Sc S S1 := h1.1.mono rfl
      rw [Int.add_zero] at h1
      have hc := lfV_c (tls (gi S) f 1 (-1)) base b
      have rp : -200000000000 ≤ lfV (tls (gi S) f 1 (-1)) base b ∧ lfV (tls (gi S) f 1 (-1)) base b ≤ 200000000000 := by
        have hm1 := mul_rng2 (A := 10000000000) (B := 1000) hbs (y := tls (gi S) f 1 (-1)) (by omega)
        have u1 : -100000000000 ≤ (base * tls (gi S) f 1 (-1)).tdiv 100 ∧ (base * tls (gi S) f 1 (-1)).tdiv 100 ≤ 100000000000 := by
          have e : ((base * tls (gi S) f 1 (-1)).tdiv 100).natAbs = (base * tls (gi S) f 1 (-1)).natAbs / 100 := by rw [Int.natAbs_tdiv]; rfl
          omega
        omega
      refine p_use (g70_w (hL.sc sc1) hs ((h1.1.l rfl).trans hb) ((h1.1.l rfl).trans h37) h1.2.2 hbs rb rp) (fun S2 h2 => ?_)
      rw [tc S1 sc1] at h2
      exact p_some ⟨(h1.1.mono rfl).trans (h2.1.mono rfl), h1.2.1.trans h2.2.1, (h2.1.l rfl).trans h1.2.2, h2.2.2⟩
  · have c2 := Classical.not_not.mp c2
    exact p_some ⟨Fr.refl, Nk.refl, by rw [h36, if_pos (Or.inr c2)], by rw [h37, if_pos (Or.inr c2)]⟩
end CW
