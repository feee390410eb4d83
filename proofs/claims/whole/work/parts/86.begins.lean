/-! the reference: what a year begins with; the sums of a year -/
section CG
variable {F G : Nat → Int → Int} {f : Int}
theorem lns_c (h : SEq F G f) (hF : FOk F f) (W : Int → Int) : ∀ i : Nat, (i : Int) ≤ nsF F f → lns F f W i = lns G f W i ∧ bar F f W i = bar G f W i := by
  intro i
  induction i with
  | zero => intro _; exact ⟨rfl, rfl⟩
  | succ i ih =>
    intro hi
    have ih := ih (by omega)
    have hn := hF.1
    have hm : ¬ f = -1 := fun z => by unfold nsF at hi; rw [if_pos z] at hi; omega
    have hst := hF.2 i (by omega)
    have hr := rk_c h hm i (by omega)
    have hsg : ∀ (k : Nat) (a : Int), 1500 * f ≤ a → a + k ≤ 1500 * f + 1500 → sgm F k a = sgm G k a := fun k a => sgm_cs h hm
    rcases h with h | h
    · exact absurd h hm
    obtain ⟨e3, e4, e5, e6, e7⟩ := h.2.1 i (by omega)
    rw [lns_s, lns_s, bar_s, bar_s, ← ih.1, ← ih.2, ← e3, ← hr]
    by_cases h0 : F 73 (30 * f + i) = 0
    · have s0 := hst.2.1 h0
      have e : lnV F f W (lns F f W i) i = lnV G f W (lns F f W i) i := by
        unfold lnV
        rw [← e5, ← e6, ← e7, hsg _ _ (by omega) (by omega), hsg _ _ (by omega) (by omega)]
      rw [if_pos h0, if_pos h0, if_pos h0, if_pos h0, e]
      exact ⟨rfl, rfl⟩
    · rw [if_neg h0, if_neg h0, if_neg h0, if_neg h0]
      exact ⟨rfl, rfl⟩
theorem suS_c (C : Nat → Int → Int) (h : SEq F G f) (hF : FOk F f) (hf : -1 ≤ f) (y d : Int) (la th : Int → Int) (es em s : Int) :
    suS C F f y d la th es em s = suS C G f y d la th es em s ∧ flS C F f y d la th es em s = flS C G f y d la th es em s ∧ cpS C F f y d la th es em s = cpS C G f y d la th es em s ∧ shS C F f y d la th es em s = shS C G f y d la th es em s ∧ (∀ r, liS C F f y d la es em s r = liS C G f y d la es em s r) := by
  have hn := hF.1
  have e1 : ∀ W, lns F f W (nsF F f).toNat = lns G f W (nsF G f).toNat := fun W => by rw [← nsF_c h]; exact (lns_c h hF W _ (by omega)).1
  have e2 : ∀ W, bar F f W (nsF F f).toNat = bar G f W (nsF G f).toNat := fun W => by rw [← nsF_c h]; exact (lns_c h hF W _ (by omega)).2
  have e3 := tls_c h hn hf
  refine ⟨?_, ?_, ?_, ?_, fun r => ?_⟩
  · unfold suS shS lef sh0 reT alP cnP paS prS flS cpS baS liS; simp only [e1, e2, e3]
  · unfold flS baS; simp only [e2, e3]
  · unfold cpS baS; simp only [e2, e3]
  · unfold shS lef sh0 reT alP cnP paS prS flS cpS baS liS; simp only [e1, e2, e3]
  · unfold liS; rw [e1]
theorem iF_c (n : Nat) (h : ∀ k : Int, 0 ≤ k → k < n → F 71 k = G 71 k ∧ F 72 k = G 72 k) (y d : Int) : ∀ k : Nat, k ≤ n → iF F y d k = iF G y d k ∧ iF F y d k < k := by
  intro k
  induction k with
  | zero => intro _; exact ⟨rfl, by unfold iF; omega⟩
  | succ k ih =>
    intro hk
    have ih := ih (by omega)
    have hkk := h k (by omega) (by omega)
    have hr := iF_rng F y d k
    rw [iF_s, iF_s, ← ih.1, ← hkk.1, ← hkk.2]
    have e : iF F y d k = -1 ∨ F 71 (iF F y d k) = G 71 (iF F y d k) := by
      by_cases z : 0 ≤ iF F y d k
      · exact Or.inr (h _ z (by omega)).1
      · left; omega
    rcases e with e | e
    · simp only [e, true_or]
      refine ⟨trivial, ?_⟩
      split <;> omega
    · rw [← e]
      refine ⟨rfl, ?_⟩
      split <;> omega
theorem inF_c (h18 : F 55 18 = G 55 18) (h : ∀ k : Int, 0 ≤ k → k < F 55 18 → F 71 k = G 71 k ∧ F 72 k = G 72 k) (y d : Int) : inF F y d = inF G y d := by
  unfold inF
  rw [← h18]
  by_cases z : 0 ≤ F 55 18
  · exact (iF_c (F 55 18).toNat (fun k a b => h k a (by omega)) y d _ (Nat.le_refl _)).1
  · rw [show (F 55 18).toNat = 0 by omega]; rfl
/-- past years do not see a slot that isn't in force -/
theorem pasV_c (C : Nat → Int → Int) (h18 : F 55 18 = G 55 18) (h : ∀ k : Int, 0 ≤ k → k < F 55 18 → F 71 k = G 71 k ∧ F 72 k = G 72 k) (hS : ∀ y d, 0 ≤ y → 0 ≤ d → y < 10 → SEq F G (inF F y d) ∧ FOk F (inF F y d) ∧ -1 ≤ inF F y d) : ∀ y : Nat, y < 10 → (∀ s, pasV C F y s = pasV C G y s) ∧ (∀ s, laV C F y s = laV C G y s) := by
  intro y
  induction y with
  | zero =>
    intro hy
    refine ⟨fun s => ?_, fun s => rfl⟩
    have k := hS 0 100 (by omega) (by omega) (by omega)
    show suS C F (inF F 0 100) 0 100 (fun _ => 0) (fun _ => 0) (-1) (-1) s = suS C G (inF G 0 100) 0 100 (fun _ => 0) (fun _ => 0) (-1) (-1) s
    rw [(suS_c C k.1 k.2.1 k.2.2 _ _ _ _ _ _ s).1, inF_c h18 h]
  | succ y ih =>
    intro hy
    have ih := (ih (by omega)).1
    have ela : ∀ s, laV C F (y + 1) s = laV C G (y + 1) s := fun s => by
      show laN C (pasV C F y) _ s = laN C (pasV C G y) _ s
      rw [funext ih]
    refine ⟨fun s => ?_, ela⟩
    have k := hS (y + 1 : Nat) (100 * ((y + 1 + 1 : Nat) : Int)) (by omega) (by omega) (by omega)
    rw [pasV_eq, pasV_eq, funext ela, (suS_c C k.1 k.2.1 k.2.2 _ _ _ _ _ _ s).1, inF_c h18 h]
theorem Sc.inF {S S' : gM} (h : Sc S S') (y d : Int) : inF (gi S') y d = inF (gi S) y d := (inF_c (h.i rfl).symm (fun k _ _ => ⟨(h.i rfl).symm, (h.i rfl).symm⟩) y d).symm
theorem Sc.suE {S S' : gM} (h : Sc S S') {C : Nat → Int → Int} {f y d : Int} {la th : Int → Int} {es em s : Int} (hF : FOk (gi S) f) (hf : -1 ≤ f) : suS C (gi S') f y d la th es em s = suS C (gi S) f y d la th es em s := (suS_c C (h.seq f) hF hf y d la th es em s).1.symm
end CG
section BG
theorem inF_ok {S : gM} (h : FormI S) {y d : Int} (hy : 0 ≤ y ∧ y < 10) (hd : 0 ≤ d) : FOk (gi S) (inF (gi S) y d) ∧ -1 ≤ inF (gi S) y d ∧ inF (gi S) y d < 9 := by
  obtain ⟨q, -, hq, -⟩ := g56_w h y d hy hd
  exact hq.2
theorem Bas.n12 {S : gM} (hB : Bas S) : 0 ≤ gi S 55 1 ∧ gi S 55 1 ≤ 12 := by have := hB.2.1.1; omega
theorem pasV_rng {S : gM} (hB : Bas S) (hI : FormI S) (y : Nat) (hy : y ≤ 9) {s : Int} (hs : 0 ≤ s ∧ s < gi S 55 1) : -1311000000001 ≤ pasV (cor S) (gi S) y s ∧ pasV (cor S) (gi S) y s ≤ 1311000000001 := by
  have ok := inF_ok hI (y := y) (d := 100 * ((y + 1 : Nat) : Int)) (by omega) (by omega)
  rw [pasV_eq]
  exact (SB_3 hB ok.1 ok.2.1 hs).2.2
theorem laV_rng {S : gM} (hB : Bas S) (hI : FormI S) (y : Nat) (hy : y ≤ 10) (s : Int) : -15740000000000 ≤ laV (cor S) (gi S) y s ∧ laV (cor S) (gi S) y s ≤ 15740000000000 := by
  cases y with
  | zero => show (-15740000000000 : Int) ≤ 0 ∧ (0 : Int) ≤ 15740000000000; omega
  | succ y =>
    show -15740000000000 ≤ laN (cor S) (pasV (cor S) (gi S) y) _ s ∧ laN (cor S) (pasV (cor S) (gi S) y) _ s ≤ 15740000000000
    unfold laN
    rw [co55_1]
    have h0 := hB.n12
    have := sm_ifp_rng (c := fun m => onC (cor S) s ((y + 1 : Nat) : Int) 12 m) (g := fun m => pasV (cor S) (gi S) y m) (A := -1311000000001) (B := 1311000000001) (n := (gi S 55 1).toNat) (by omega) (by omega) (by omega) (fun j hj => pasV_rng hB hI y (by omega) (by omega)) _ (Nat.le_refl _)
    omega
abbrev frB : List Nat := [68, 69, 81, 82, 85, 86, 87, 88, 89, 92, 90, 91]
theorem g176_l79_w {Q : gM → Prop} {K : gM → Option gM} (S0 : gM) (hB : Bas S0) {y d s : Int} {p : Int → Int} (hy : 0 ≤ y ∧ y < 9) (hs : 0 ≤ s ∧ s < gi S0 55 1) (h89 : ∀ j : Int, 0 ≤ j → j < gi S0 55 1 → gl S0 89 j = p j ∧ (-1311000000001 ≤ p j ∧ p j ≤ 1311000000001))
    (hK : ∀ S, Fr [90] S0 S → (∀ j : Int, ¬ j = s → gl S 90 j = gl S0 90 j) → gl S 90 s = laN (cor S0) p (y + 1) s → Wp Q (K S)) {z : Int} :
    ∀ n k : Nat, k ≤ (gi S0 55 1).toNat → (gi S0 55 1).toNat - k < n → ∀ S, Fr [90] S0 S → (∀ j : Int, ¬ j = s → gl S 90 j = gl S0 90 j) → gl S 90 s = sm (fun m => ifp (onC (cor S0) s (y + 1) 12 m) (p m)) k → Wp Q (g176_l79 d y z s K n k S) := by
  have h0 := hB.n12
  refine upto (gi S0 55 1).toNat (fun n k => ∀ S, Fr [90] S0 S → (∀ j : Int, ¬ j = s → gl S 90 j = gl S0 90 j) → gl S 90 s = sm (fun m => ifp (onC (cor S0) s (y + 1) 12 m) (p m)) k → Wp Q (g176_l79 d y z s K n k S)) ?_
  intro n k hk ih S hS hO hs9
  dsimp only [g176_l79]
  have e1 : gi S 55 1 = gi S0 55 1 := hS.i rfl
  have sc : Sc S0 S := hS.mono rfl
  rw [lt_t, e1]
  refine p_if (fun hc => ?_) (fun hc => ?_)
  · have : k = (gi S0 55 1).toNat := by omega
    subst this
    refine hK S hS hO ?_
    unfold laN
    rw [hs9, co55_1]
  have ih := ih (by omega)
  have hpk := h89 k (by omega) (by omega)
  have b1 := sm_ifp_rng (c := fun m => onC (cor S0) s (y + 1) 12 m) (g := fun m => p m) (A := -1311000000001) (B := 1311000000001) (n := (gi S0 55 1).toNat) (by omega) (by omega) (by omega) (fun j hj => (h89 j (by omega) (by omega)).2) k hk
  rw [ckI_t (by omega)]
  refine p_call (g131_eq (hB.sc sc).2.1 s (y := y + 1) (a := k) (by omega) (by omega) (by omega)) ?_
  dsimp only
  rw [sc.cE]
  refine p_if1 (fun ho => ?_) (fun ho => ?_)
  · rw [chk_t (by omega), lt_t, chk_t (by omega), lt_t, hs9, show gl S 89 k = p k from (hS.l rfl).trans hpk.1, ckJ_t (by omega), chk_t (by omega), lt_t, ckI_t (by omega)]
    refine ih _ (hS.wl rfl) (fun j hj => ?_) ?_
    · rw [gl_wl, if_neg (fun w => hj w.2)]; exact hO j hj
    · rw [gl_wl, if_pos ⟨rfl, rfl⟩, sm_s, ifp_t ho]
  · rw [ckI_t (by omega)]
    refine ih _ hS hO ?_
    rw [hs9, sm_s, ifp_f ho, Int.add_zero]
theorem g176_l59_w {Q : gM → Prop} {K : gM → Option gM} (S0 : gM) (hB : Bas S0) {y d : Int} {p : Int → Int} (hy : 0 ≤ y ∧ y < 9) (h89 : ∀ j : Int, 0 ≤ j → j < gi S0 55 1 → gl S0 89 j = p j ∧ (-1311000000001 ≤ p j ∧ p j ≤ 1311000000001))
    (hK : ∀ S, Fr [90, 91] S0 S → (∀ j : Int, 0 ≤ j → j < gi S0 55 1 → gl S 90 j = laN (cor S0) p (y + 1) j ∧ gl S 91 j = thV (cor S0) (y + 1) j) → Wp Q (K S)) :
    ∀ n k : Nat, k ≤ (gi S0 55 1).toNat → (gi S0 55 1).toNat - k < n → ∀ S, Fr [90, 91] S0 S → (∀ j : Int, 0 ≤ j → j < k → gl S 90 j = laN (cor S0) p (y + 1) j ∧ gl S 91 j = thV (cor S0) (y + 1) j) → Wp Q (g176_l59 d y (100 * (y + 1)) K n k S) := by
  have h0 := hB.n12
  refine upto (gi S0 55 1).toNat (fun n k => ∀ S, Fr [90, 91] S0 S → (∀ j : Int, 0 ≤ j → j < k → gl S 90 j = laN (cor S0) p (y + 1) j ∧ gl S 91 j = thV (cor S0) (y + 1) j) → Wp Q (g176_l59 d y (100 * (y + 1)) K n k S)) ?_
  intro n k hk ih S hS hR
  dsimp only [g176_l59]
  have e1 : gi S 55 1 = gi S0 55 1 := hS.i rfl
  rw [lt_t, e1]
  refine p_if (fun hc => ?_) (fun hc => ?_)
  · exact hK S hS (fun j a b => hR j a (by omega))
  have ih := ih (by omega)
  rw [chk_t (by omega), lt_t]
  have sc1 : Sc S0 (wl S 90 k 0) := (hS.mono (W' := scr) rfl).wl rfl
  have hw : ∀ j : Int, gl (wl S 90 k 0) 89 j = gl S0 89 j := fun j => by rw [gl_wl, if_neg (by rintro ⟨z, -⟩; cases z)]; exact hS.l rfl
  have hw1 : gi (wl S 90 k 0) 55 1 = gi S0 55 1 := e1
  refine g176_l79_w (wl S 90 k 0) (hB.sc sc1) (p := p) hy (by rw [hw1]; omega) (fun j a b => by rw [hw]; exact h89 j a (by rw [hw1] at b; exact b)) ?_ 100000 0 (Nat.zero_le _) (by rw [hw1]; omega) _ Fr.refl (fun _ _ => rfl) (by rw [gl_wl, if_pos ⟨rfl, rfl⟩]; rfl)
  intro S2 hS2 hO2 h90
  rw [sc1.cE] at h90
  have hS02 : Fr [90, 91] S0 S2 := (hS.wl rfl).trans (hS2.mono rfl)
  have sc2 : Sc S0 S2 := hS02.mono rfl
  rw [ckI_t (by omega)]
  refine p_call (show g169 y S2 = some (max 0 (y - 1), S2) from by unfold g169; rw [ckI_t (by omega), lt_t]) ?_
  dsimp only
  refine p_call (g133_eq (hB.sc sc2).1 (hB.sc sc2).2.1 k (max 0 (y - 1)) (100 * (y + 1)) (y := y + 1) (by omega)) ?_
  dsimp only
  rw [sc2.cE, chk_t (by omega), lt_t, ckI_t (by omega)]
  have et : mkB (cor S0) k (y + 1) (max 0 (y - 1)) 0 (100 * (y + 1)) + mkB (cor S0) k (y + 1) (max 0 (y - 1)) 1 (100 * (y + 1)) + mkB (cor S0) k (y + 1) (max 0 (y - 1)) 2 (100 * (y + 1)) = thV (cor S0) (y + 1) k := by
    unfold thV
    rw [if_neg (by omega), show y + 1 - 2 = y - 1 by omega]
  rw [et]
  refine ih _ (hS02.wl rfl) (fun j a b => ?_)
  by_cases hj : j = k
  · rw [hj]
    exact ⟨by rw [gl_wl, if_neg (by rintro ⟨z, -⟩; cases z)]; exact h90, by rw [gl_wl, if_pos ⟨rfl, rfl⟩]⟩
  · have := hR j a (by omega)
    refine ⟨?_, ?_⟩
    · rw [gl_wl, if_neg (by rintro ⟨z, -⟩; cases z), hO2 j hj, gl_wl, if_neg (fun w => hj w.2)]
      exact this.1
    · rw [gl_wl, if_neg (fun w => hj w.2), hS2.l rfl, gl_wl, if_neg (by rintro ⟨z, -⟩; cases z)]
      exact this.2
/-- what stands before a year -/
def Beg (S0 S : gM) (y : Nat) : Prop := ∀ j : Int, 0 ≤ j → j < gi S0 55 1 → gl S 90 j = laV (cor S0) (gi S0) y j ∧ gl S 91 j = thV (cor S0) y j
theorem g176_l30_w (S0 : gM) (hB : Bas S0) (hI : FormI S0) {y : Nat} (hy : y ≤ 9) :
    ∀ n k : Nat, k ≤ y → y - k < n → ∀ S, Fr frB S0 S → Beg S0 S k → Wp (fun S => Fr frB S0 S ∧ Beg S0 S y) (g176_l30 y n k S) := by
  have h0 := hB.n12
  refine upto y (fun n k => ∀ S, Fr frB S0 S → Beg S0 S k → Wp (fun S => Fr frB S0 S ∧ Beg S0 S y) (g176_l30 y n k S)) ?_
  intro n k hk ih S hS hR
  dsimp only [g176_l30]
  have sc : Sc S0 S := hS.mono rfl
  have e1 : gi S 55 1 = gi S0 55 1 := hS.i rfl
  refine p_if (fun hc => ?_) (fun hc => ?_)
  · have : k = y := by omega
    rw [this] at hR
    exact p_some ⟨hS, hR⟩
  have ih := ih (by omega)
  rw [ckI_t (by omega), ckI_t (by omega)]
  have BS := hB.sc sc
  have IS := hI.sc sc
  refine p_call (g160_eq IS.1 k (100 * ((k : Int) + 1))) ?_
  dsimp only
  have eIF : inF (gi S) k (100 * ((k : Int) + 1)) = inF (gi S0) k (100 * ((k : Int) + 1)) := sc.inF _ _
  have ok := inF_ok hI (y := k) (d := 100 * ((k : Int) + 1)) (by omega) (by omega)
  rw [eIF]
  have FS : FOk (gi S) (inF (gi S0) k (100 * ((k : Int) + 1))) := FOk_c (sc.seq _) ok.1
  refine p_use (g170_w (S0 := S) (la := laV (cor S0) (gi S0) k) (th := thV (cor S0) k) BS FS ok.2 (by omega) (fun j a b => ⟨(hR j a (by omega)).1, laV_rng hB hI k (by omega) j⟩) (fun j a b _ => (hR j a (by omega)).2) (fun hk0 j => by rw [show k = 0 by omega]; rfl)) (fun S1 h1 => ?_)
  have hS1 : Fr frB S0 S1 := hS.trans (h1.1.mono rfl)
  have sc1 : Sc S0 S1 := hS1.mono rfl
  have e11 : gi S1 55 1 = gi S0 55 1 := hS1.i rfl
  have h89 : ∀ j : Int, 0 ≤ j → j < gi S1 55 1 → gl S1 89 j = pasV (cor S0) (gi S0) k j ∧ (-1311000000001 ≤ pasV (cor S0) (gi S0) k j ∧ pasV (cor S0) (gi S0) k j ≤ 1311000000001) := fun j a b => by
    refine ⟨?_, pasV_rng hB hI k (by omega) (by omega)⟩
    rw [(h1.2 j a (by omega)).2.2.2.1, pasV_eq, sc.cE, sc.suE ok.1 ok.2.1, show (100 : Int) * ((k + 1 : Nat) : Int) = 100 * ((k : Int) + 1) by omega]
  refine g176_l59_w S1 (hB.sc sc1) (p := pasV (cor S0) (gi S0) k) (by omega) h89 ?_ 100000 0 (Nat.zero_le _) (by omega) S1 Fr.refl (fun j a b => by omega)
  intro S2 hS2 hR2
  rw [sc1.cE] at hR2
  rw [ckI_t (by omega)]
  exact ih S2 (hS1.trans (hS2.mono rfl)) (fun j a b => hR2 j a (by omega))
theorem g176_w {S0 : gM} (hB : Bas S0) (hI : FormI S0) {y : Nat} (hy : y ≤ 9) : Wp (fun S => Fr frB S0 S ∧ Beg S0 S y) (g176 y S0) := by
  have h0 := hB.n12
  unfold g176
  have key := upto 12 (fun n k => ∀ S, Fr frB S0 S → (∀ j : Int, 0 ≤ j → j < k → gl S 90 j = 0 ∧ gl S 91 j = 0) → Wp (fun S => Fr frB S0 S ∧ Beg S0 S y) (g176_l2 y (fun S7 => g176_l30 y 100000 0 S7) n k S)) ?_ 100000 0 (Nat.zero_le _) (by omega) S0 Fr.refl (fun j a b => by omega)
  · exact key
  intro n k hk ih S hS hR
  dsimp only [g176_l2]
  refine p_if (fun hc => ?_) (fun hc => ?_)
  · refine g176_l30_w S0 hB hI hy 100000 0 (Nat.zero_le _) (by omega) S hS (fun j a b => ?_)
    have := hR j a (by omega)
    refine ⟨this.1, this.2.trans ?_⟩
    unfold thV
    rw [if_pos (by omega)]
  · rw [chk_t (by omega), lt_t, chk_t (by omega), lt_t, ckI_t (by omega)]
    refine ih (by omega) _ ((hS.wl rfl).wl rfl) (fun j a b => ?_)
    by_cases hj : j = k
    · rw [hj]
      exact ⟨by rw [gl_wl, if_neg (by rintro ⟨z, -⟩; cases z), gl_wl, if_pos ⟨rfl, rfl⟩], by rw [gl_wl, if_pos ⟨rfl, rfl⟩]⟩
    · rw [gl_wl, if_neg (by rintro ⟨z, -⟩; cases z), gl_wl, if_neg (fun w => hj w.2), gl_wl, if_neg (fun w => hj w.2), gl_wl, if_neg (by rintro ⟨z, -⟩; cases z)]
      exact hR j a (by omega)
/-- the sums of a year as known on a day, with one more mark -/
def RowY (S0 S : gM) (y : Nat) (f d es em : Int) : Prop := RowT S0 S f y d (laV (cor S0) (gi S0) y) (thV (cor S0) y) es em
theorem g170_y {S0 S : gM} (hB : Bas S0) (hI : FormI S0) {y : Nat} (hy : y ≤ 9) {f d es em : Int} (hF : FOk (gi S0) f) (hf : -1 ≤ f ∧ f < 9) (hS : Fr frB S0 S) (hR : Beg S0 S y) : Wp (fun S2 => (Fr frB S0 S2 ∧ RowY S0 S2 y f d es em) ∧ Beg S0 S2 y) (g170 y d f es em S) := by
  have sc : Sc S0 S := hS.mono rfl
  have e1 : gi S 55 1 = gi S0 55 1 := hS.i rfl
  have FS : FOk (gi S) f := FOk_c (sc.seq _) hF
  refine p_imp (g170_w (S0 := S) (la := laV (cor S0) (gi S0) y) (th := thV (cor S0) y) (hB.sc sc) FS hf (by omega) (fun j a b => ⟨(hR j a (by omega)).1, laV_rng hB hI y (by omega) j⟩) (fun j a b _ => (hR j a (by omega)).2) (fun hk0 j => by rw [show y = 0 by omega]; rfl)) (fun S1 h1 => ?_)
  refine ⟨⟨hS.trans (h1.1.mono rfl), fun j a b => ?_⟩, fun j a b => ?_⟩
  · have h := h1.2 j a (by omega)
    have e67 : gi S 67 j = gi S0 67 j := hS.i rfl
    have e := suS_c (cor S0) (sc.seq f) hF hf.1 y d (laV (cor S0) (gi S0) y) (thV (cor S0) y) es em j
    rw [sc.cE, e67, ← e.1, ← e.2.1, ← e.2.2.1, ← e.2.2.2.1] at h
    refine ⟨h.1, h.2.1, h.2.2.1, h.2.2.2.1, fun r u v => ?_⟩
    rw [h.2.2.2.2 r u v, e.2.2.2.2]
  · have := hR j a b
    exact ⟨(h1.1.l rfl).trans this.1, (h1.1.l rfl).trans this.2⟩
theorem g177_w {S0 : gM} (hB : Bas S0) (hI : FormI S0) {y : Nat} (hy : y ≤ 9) {d : Int} (hd : 0 ≤ d) : Wp (fun S2 => (Fr frB S0 S2 ∧ RowY S0 S2 y (inF (gi S0) y d) d (-1) (-1)) ∧ Beg S0 S2 y) (g177 y d S0) := by
  unfold g177
  refine p_use (g176_w hB hI hy) (fun S h => ?_)
  have sc : Sc S0 S := h.1.mono rfl
  refine p_call (g160_eq (hI.sc sc).1 y d) ?_
  dsimp only
  rw [sc.inF]
  have ok := inF_ok hI (y := y) (d := d) (by omega) hd
  exact p_use (g170_y hB hI hy ok.1 ok.2 h.1 h.2) (fun p hp => p_some hp)
end BG
