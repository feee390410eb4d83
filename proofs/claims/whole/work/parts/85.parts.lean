/-! the reference's works: the parts of a total -/
section PT
variable {S0 : gM} {f y d es em : Int} {la th : Int → Int}
def Pdt (S0 S : gM) (f y d : Int) (la : Int → Int) (es em : Int) : Prop := ∀ j : Int, 0 ≤ j → j < gi S0 55 1 → y < gi S0 67 j →
  gl S 92 j = wS (cor S0) y d la es em j 5 ∧ ∀ r : Int, 0 ≤ r → r < 30 → gl S 85 (30 * j + r) = liS (cor S0) (gi S0) f y d la es em j r
theorem Pdt.w {S S' : gM} (h : Pdt S0 S f y d la es em) (hF : Fr [88, 89] S S') : Pdt S0 S' f y d la es em := fun j a b c => by
  have := h j a b c
  exact ⟨(hF.l rfl).trans this.1, fun r c e => (hF.l rfl).trans (this.2 r c e)⟩
theorem g173_eq {S : gM} (hF : FOk (gi S0) f) (hf : 0 ≤ f ∧ f < 9) (h0 : gi S0 55 1 ≤ 12) (hS : Fr fr7 S0 S) (hP : Pdt S0 S f y d la es em) {j : Int} (hj : 0 ≤ j ∧ j < gi S0 55 1) (ho : y < gi S0 67 j) : g173 j f S = some (paS (cor S0) (gi S0) f y d la es em j, S) := by
  have sc : Sc S0 S := hS.mono rfl
  have F1 : FOk (gi S) f := FOk_c (sc.seq f) hF
  have e := fun w o => (tls_c (sc.seq f) hF.1 (by omega) w o).symm
  have hP := hP j hj.1 hj.2 ho
  have ht := (tls_rng hF (by omega)).2.2.2.2.2
  have hn := hF.1
  have hr := rk_le (gi S0) f (nsF (gi S0) f).toNat
  unfold g173 paS
  rw [g162_eq _ _ F1 (by omega), ob_s, e]
  dsimp only
  by_cases h : tls (gi S0) f 6 (-1) = -1
  · rw [if_neg (fun z => z h), if_pos h, chk_t (by omega), lt_t, lt_t, hP.1]
  · rw [if_pos h, if_neg h, ckI_t (by omega), ckI_t (by omega), chk_t (by omega), lt_t, lt_t, hP.2 _ (by omega) (by omega)]
theorem g174_l6_w {Q : gM → Prop} {K : Int → gM → Option gM} (hB : Bas S0) (hF : FOk (gi S0) f) (hf : 0 ≤ f ∧ f < 9) {r : Int} {S : gM} (hS : Fr fr7 S0 S) (hP : Pdt S0 S f y d la es em) (hK : Wp Q (K (alP (cor S0) (gi S0) f y d la es em) S)) :
    ∀ n k : Nat, k ≤ (gi S0 55 1).toNat → (gi S0 55 1).toNat - k < n → Wp Q (g174_l6 y f r K n (sm (fun j => ifp (y < gi S0 67 j) (paS (cor S0) (gi S0) f y d la es em j)) k) k S) := by
  have h0 := hB.2.1.1
  refine upto (gi S0 55 1).toNat (fun n k => Wp Q (g174_l6 y f r K n (sm (fun j => ifp (y < gi S0 67 j) (paS (cor S0) (gi S0) f y d la es em j)) k) k S)) ?_
  intro n k hk ih
  dsimp only [g174_l6]
  rw [lt_t, show gi S 55 1 = gi S0 55 1 from hS.i rfl]
  refine p_if (fun hc => ?_) (fun hc => ?_)
  · have : k = (gi S0 55 1).toNat := by omega
    subst this
    have e : alP (cor S0) (gi S0) f y d la es em = sm (fun j => ifp (y < gi S0 67 j) (paS (cor S0) (gi S0) f y d la es em j)) (gi S0 55 1).toNat := by
      unfold alP; rw [co55_1]; exact sm_congr _ (fun j _ => by rw [co67])
    rw [e] at hK
    exact hK
  have ih := ih (by omega)
  rw [sm_s] at ih
  refine p_call (g122_eq k y (by omega)) ?_
  dsimp only
  rw [show gi S 67 k = gi S0 67 k from hS.i rfl]
  refine p_if1 (fun ho => ?_) (fun ho => ?_)
  · rw [ifp_t ho] at ih
    refine p_call (g173_eq hF hf (by omega) hS hP (by omega) ho) ?_
    dsimp only
    have b1 := sm_ifp_rng (c := fun j => y < gi S0 67 j) (g := fun j => paS (cor S0) (gi S0) f y d la es em j) (A := 0) (B := 100000000) (n := (gi S0 55 1).toNat) (by omega) (by omega) (by omega) (fun j hj => (SB_1 (y := y) (d := d) (la := la) (th := fun _ => 0) (es := es) (em := em) hB hF (by omega) (s := j) (by omega)).2.1) k hk
    have b2 := (SB_1 (y := y) (d := d) (la := la) (th := fun _ => 0) (es := es) (em := em) hB hF (by omega) (s := k) (by omega)).2.1
    rw [ckJ_t (by omega), ckI_t (by omega)]
    exact ih
  · rw [ifp_f ho, Int.add_zero] at ih
    rw [ckI_t (by omega)]
    exact ih
theorem g174_l57_w {Q : gM → Prop} {K : Int → gM → Option gM} (hB : Bas S0) (hF : FOk (gi S0) f) (hf : 0 ≤ f ∧ f < 9) (hal : ¬ alP (cor S0) (gi S0) f y d la es em = 0) {S1 : gM} (hS1 : Fr fr7 S0 S1) (hP : Pdt S0 S1 f y d la es em) (hz : ∀ j : Int, 0 ≤ j → j < gi S0 55 1 → gl S1 88 j = 0)
    (hK : ∀ S, Fr [88] S1 S → (∀ j : Int, 0 ≤ j → j < gi S0 55 1 → gl S 88 j = sh0 (cor S0) (gi S0) f y d la th es em j) → Wp Q (K (lef (cor S0) (gi S0) f y d la th es em) S)) :
    ∀ n k : Nat, k ≤ (gi S0 55 1).toNat → (gi S0 55 1).toNat - k < n → ∀ X S, X = reT (cor S0) (gi S0) f y d la th es em - sm (fun j => sh0 (cor S0) (gi S0) f y d la th es em j) k → Fr [88] S1 S → (∀ j : Int, 0 ≤ j → j < gi S0 55 1 → gl S 88 j = if j < k then sh0 (cor S0) (gi S0) f y d la th es em j else 0) →
      Wp Q (g174_l57 y f (reT (cor S0) (gi S0) f y d la th es em) (alP (cor S0) (gi S0) f y d la es em) K n X k S) := by
  have h0 := hB.2.1.1
  have sb2 := SB_2 (y := y) (d := d) (la := la) (th := th) (es := es) (em := em) hB hF (by omega)
  have sb3 := fun (j : Int) (hj : 0 ≤ j ∧ j < gi S0 55 1) => (SB_3 (y := y) (d := d) (la := la) (th := th) (es := es) (em := em) hB hF (by omega) hj).1
  refine upto (gi S0 55 1).toNat (fun n k => ∀ X S, X = reT (cor S0) (gi S0) f y d la th es em - sm (fun j => sh0 (cor S0) (gi S0) f y d la th es em j) k → Fr [88] S1 S → (∀ j : Int, 0 ≤ j → j < gi S0 55 1 → gl S 88 j = if j < k then sh0 (cor S0) (gi S0) f y d la th es em j else 0) → Wp Q (g174_l57 y f (reT (cor S0) (gi S0) f y d la th es em) (alP (cor S0) (gi S0) f y d la es em) K n X k S)) ?_
  intro n k hk ih X S hX hS h88
  have hS0 : Fr fr7 S0 S := hS1.trans (hS.mono rfl)
  dsimp only [g174_l57]
  rw [lt_t, show gi S 55 1 = gi S0 55 1 from hS0.i rfl]
  refine p_if (fun hc => ?_) (fun hc => ?_)
  · have : k = (gi S0 55 1).toNat := by omega
    subst this
    have hK := hK S hS (fun j a b => by rw [h88 j a b, if_pos (by omega)])
    unfold lef at hK
    rw [co55_1] at hK
    rw [hX]
    exact hK
  have ih := ih (by omega)
  rw [sm_s] at ih
  refine p_call (g122_eq k y (by omega)) ?_
  dsimp only
  rw [show gi S 67 k = gi S0 67 k from hS0.i rfl]
  have b1 := sm_rng (f := fun j => sh0 (cor S0) (gi S0) f y d la th es em j) (-1211000000000) 1211000000000 k (fun j hj => sb3 j (by omega))
  have b2 := sb3 k (by omega)
  rw [hX]
  refine p_if1n (fun ho => ?_) (fun ho => ?_)
  · refine p_call (g173_eq hF hf (by omega) hS0 (hP.w (hS.mono rfl)) (by omega) ho) ?_
    dsimp only
    have hp := SB_p (y := y) (d := d) (la := la) (es := es) (em := em) hB hF (by omega) (s := k) (by omega) ho
    refine p_call (g175_eq (by omega) (by omega) (by omega)) ?_
    dsimp only
    have e : sh0 (cor S0) (gi S0) f y d la th es em k = (reT (cor S0) (gi S0) f y d la th es em * paS (cor S0) (gi S0) f y d la es em k).tdiv (alP (cor S0) (gi S0) f y d la es em) := by
      unfold sh0
      rw [co67, ifp_t ho]
    rw [← e, chk_t (by omega), lt_t, chk_t (by omega), lt_t, gl_wl, if_pos ⟨rfl, rfl⟩, ckJ_t (by omega), ckI_t (by omega)]
    refine ih _ (wl S 88 k (sh0 (cor S0) (gi S0) f y d la th es em k)) (Int.sub_sub _ _ _) (hS.wl rfl) (fun j a b => ?_)
    · rw [gl_wl]
      by_cases hj : j = k
      · rw [if_pos ⟨rfl, hj⟩, if_pos (by omega), hj]
      · rw [if_neg (fun z => hj z.2), h88 j a b]
        by_cases hjk : j < k
        · rw [if_pos hjk, if_pos (by omega)]
        · rw [if_neg hjk, if_neg (by omega)]
  · have e : sh0 (cor S0) (gi S0) f y d la th es em k = 0 := by
      unfold sh0
      rw [co67, ifp_f ho]
    rw [ckI_t (by omega)]
    refine ih _ _ (by rw [e, Int.add_zero]) hS (fun j a b => ?_)
    · rw [h88 j a b]
      by_cases hj : j = k
      · rw [if_neg (by omega), if_pos (by omega), hj, e]
      · by_cases hjk : j < k
        · rw [if_pos hjk, if_pos (by omega)]
        · rw [if_neg hjk, if_neg (by omega)]
/-- the coin of a school, as far as they are given -/
noncomputable def cnS (S0 : gM) (f y d : Int) (la th : Int → Int) (es em : Int) (c : Int) (j : Int) : Int := ifp ((y < gi S0 67 j ∧ 0 < paS (cor S0) (gi S0) f y d la es em j) ∧ cnP (cor S0) (gi S0) f y d la es em j.toNat < ((lef (cor S0) (gi S0) f y d la th es em).natAbs : Int)) c
theorem cnP_s (k : Nat) : cnP (cor S0) (gi S0) f y d la es em (k + 1) = cnP (cor S0) (gi S0) f y d la es em k + one (y < gi S0 67 k ∧ 0 < paS (cor S0) (gi S0) f y d la es em k) := by
  unfold cnP; rw [sm_s, co67]
theorem cnP_mono {j k : Nat} (h : j ≤ k) : cnP (cor S0) (gi S0) f y d la es em j ≤ cnP (cor S0) (gi S0) f y d la es em k := by
  induction k with
  | zero => have : j = 0 := by omega
            rw [this]; omega
  | succ k ih =>
    by_cases e : j = k + 1
    · rw [e]; omega
    · have := ih (by omega)
      rw [cnP_s]
      have := one_rng (y < gi S0 67 k ∧ 0 < paS (cor S0) (gi S0) f y d la es em k)
      omega
theorem cnP_rng (k : Nat) : 0 ≤ cnP (cor S0) (gi S0) f y d la es em k ∧ cnP (cor S0) (gi S0) f y d la es em k ≤ k := by
  unfold cnP
  have := sm_rng (f := fun j => one (y < cor S0 67 j ∧ 0 < paS (cor S0) (gi S0) f y d la es em j)) 0 1 k (fun j _ => one_rng _)
  omega
theorem g174_l143_w {Q : gM → Prop} {K : Int → gM → Option gM} (hB : Bas S0) (hF : FOk (gi S0) f) (hf : 0 ≤ f ∧ f < 9) {c : Int} (hc : c = 1 ∨ c = -1) (hL : ((lef (cor S0) (gi S0) f y d la th es em).natAbs : Int) < cnP (cor S0) (gi S0) f y d la es em (gi S0 55 1).toNat) {S1 : gM} (hS1 : Fr fr7 S0 S1) (hP : Pdt S0 S1 f y d la es em)
    (hK : ∀ S, Fr [88] S1 S → (∀ j : Int, 0 ≤ j → j < gi S0 55 1 → gl S 88 j = sh0 (cor S0) (gi S0) f y d la th es em j + cnS S0 f y d la th es em c j) → Wp Q (K 0 S)) :
    ∀ n k : Nat, k ≤ (gi S0 55 1).toNat → (gi S0 55 1).toNat - k < n → ∀ X S, X = c * (max 0 ((lef (cor S0) (gi S0) f y d la th es em).natAbs - cnP (cor S0) (gi S0) f y d la es em k)) → Fr [88] S1 S → (∀ j : Int, 0 ≤ j → j < gi S0 55 1 → gl S 88 j = sh0 (cor S0) (gi S0) f y d la th es em j + if j < k then cnS S0 f y d la th es em c j else 0) →
      Wp Q (g174_l143 y f c K n X k S) := by
  have h0 := hB.2.1.1
  have sb3 := fun (j : Int) (hj : 0 ≤ j ∧ j < gi S0 55 1) => (SB_3 (y := y) (d := d) (la := la) (th := th) (es := es) (em := em) hB hF (by omega) hj).1
  refine upto (gi S0 55 1).toNat (fun n k => ∀ X S, X = c * (max 0 ((lef (cor S0) (gi S0) f y d la th es em).natAbs - cnP (cor S0) (gi S0) f y d la es em k)) → Fr [88] S1 S → (∀ j : Int, 0 ≤ j → j < gi S0 55 1 → gl S 88 j = sh0 (cor S0) (gi S0) f y d la th es em j + if j < k then cnS S0 f y d la th es em c j else 0) → Wp Q (g174_l143 y f c K n X k S)) ?_
  intro n k hk ih X S hX hS h88
  have hS0 : Fr fr7 S0 S := hS1.trans (hS.mono rfl)
  have hck := cnP_rng (S0 := S0) (f := f) (y := y) (d := d) (la := la) (es := es) (em := em) (gi S0 55 1).toNat
  have hck2 := cnP_rng (S0 := S0) (f := f) (y := y) (d := d) (la := la) (es := es) (em := em) k
  have hX1 : (X = 0 ↔ ((lef (cor S0) (gi S0) f y d la th es em).natAbs : Int) ≤ cnP (cor S0) (gi S0) f y d la es em k) ∧ -12 ≤ X ∧ X ≤ 12 := by
    rcases hc with rfl | rfl <;> omega
  -- nothing is left to give
  have done : X = 0 → Wp Q (K X S) := fun hX0 => by
    rw [hX0]
    refine hK S hS (fun j a b => ?_)
    rw [h88 j a b]
    by_cases hj : j < k
    · rw [if_pos hj]
    · rw [if_neg hj]
      have := cnP_mono (S0 := S0) (f := f) (y := y) (d := d) (la := la) (es := es) (em := em) (j := k) (k := j.toNat) (by omega)
      unfold cnS
      rw [ifp_f (fun z => by have := z.2; omega)]
  dsimp only [g174_l143]
  rw [lt_t, show gi S 55 1 = gi S0 55 1 from hS0.i rfl]
  refine p_if (fun hc2 => ?_) (fun hc2 => ?_)
  · have : k = (gi S0 55 1).toNat := by omega
    subst this
    exact done (hX1.1.mpr (by omega))
  refine p_if done (fun hX0 => ?_)
  have ih := ih (by omega)
  have hlt : cnP (cor S0) (gi S0) f y d la es em k < ((lef (cor S0) (gi S0) f y d la th es em).natAbs : Int) := by
    have := fun z => hX0 (hX1.1.mpr z)
    omega
  rw [cnP_s] at ih
  have ecn : ∀ v : Int, (y < gi S0 67 k ∧ 0 < paS (cor S0) (gi S0) f y d la es em k → v = c) → (¬ (y < gi S0 67 k ∧ 0 < paS (cor S0) (gi S0) f y d la es em k) → v = 0) → cnS S0 f y d la th es em c k = v := fun v h1 h2 => by
    unfold cnS
    rw [show ((k : Int)).toNat = k from Int.toNat_natCast k]
    by_cases h : y < gi S0 67 k ∧ 0 < paS (cor S0) (gi S0) f y d la es em k
    · rw [ifp_t ⟨h, hlt⟩, h1 h]
    · rw [ifp_f (fun z => h z.1), h2 h]
  have skip : ¬ (y < gi S0 67 k ∧ 0 < paS (cor S0) (gi S0) f y d la es em k) → Wp Q (w_ckI ((k : Int) + 1) fun V34 => g174_l143 y f c K n X V34 S) := fun hno => by
    rw [ckI_t (by omega)]
    refine ih X S ?_ hS (fun j a b => ?_)
    · rw [one_f hno, Int.add_zero]; exact hX
    · rw [h88 j a b]
      by_cases hj : j = k
      · rw [if_neg (by omega), if_pos (by omega), hj, ecn 0 (fun z => absurd z hno) (fun _ => rfl)]
      · by_cases hjk : j < k
        · rw [if_pos hjk, if_pos (by omega)]
        · rw [if_neg hjk, if_neg (by omega)]
  refine p_call (g122_eq k y (by omega)) ?_
  dsimp only
  rw [show gi S 67 k = gi S0 67 k from hS0.i rfl]
  refine p_if1 (fun ho => ?_) (fun ho => skip (fun z => ho z.1))
  refine p_call (g173_eq hF hf (by omega) hS0 (hP.w (hS.mono rfl)) (by omega) ho) ?_
  dsimp only
  have hpa := (SB_1 (y := y) (d := d) (la := la) (th := th) (es := es) (em := em) hB hF (by omega) (s := k) (by omega)).2.1
  refine p_if (fun hp => ?_) (fun hp => skip (fun z => by have := z.2; omega))
  have hyes : y < gi S0 67 k ∧ 0 < paS (cor S0) (gi S0) f y d la es em k := ⟨ho, by omega⟩
  have e88 : gl S 88 k = sh0 (cor S0) (gi S0) f y d la th es em k := by rw [h88 k (by omega) (by omega), if_neg (by omega), Int.add_zero]
  have b2 := sb3 k (by omega)
  have hc3 : -1 ≤ c ∧ c ≤ 1 := by omega
  rw [chk_t (by omega), lt_t, e88, ckJ_t (by omega), chk_t (by omega), lt_t, ckJ_t (by omega), ckI_t (by omega)]
  refine ih _ _ ?_ (hS.wl rfl) (fun j a b => ?_)
  · rw [one_t hyes]
    rcases hc with rfl | rfl <;> omega
  · rw [gl_wl]
    by_cases hj : j = k
    · rw [if_pos ⟨rfl, hj⟩, if_pos (by omega), hj, ecn c (fun _ => rfl) (fun z => absurd hyes z)]
    · rw [if_neg (fun z => hj z.2), h88 j a b]
      by_cases hjk : j < k
      · rw [if_pos hjk, if_pos (by omega)]
      · rw [if_neg hjk, if_neg (by omega)]
theorem g174_l215_w {Q : gM → Prop} {S1 : gM} {A B : Int → Int} {m : Int} (hm : gi S1 55 1 = m) (h0 : 0 ≤ m ∧ m ≤ 12) (hA : ∀ j : Int, 0 ≤ j → j < m → gl S1 89 j = A j ∧ gl S1 88 j = B j ∧ (-100000000000 ≤ A j ∧ A j ≤ 100000000000) ∧ (-1211000000001 ≤ B j ∧ B j ≤ 1211000000001))
    (hK : ∀ S, Fr [89] S1 S → (∀ j : Int, 0 ≤ j → j < m → gl S 89 j = A j + B j) → Q S) :
    ∀ n k : Nat, k ≤ m.toNat → m.toNat - k < n → ∀ S, Fr [89] S1 S → (∀ j : Int, 0 ≤ j → j < m → gl S 89 j = A j + if j < k then B j else 0) → Wp Q (g174_l215 n k S) := by
  refine upto m.toNat (fun n k => ∀ S, Fr [89] S1 S → (∀ j : Int, 0 ≤ j → j < m → gl S 89 j = A j + if j < k then B j else 0) → Wp Q (g174_l215 n k S)) ?_
  intro n k hk ih S hS h89
  dsimp only [g174_l215]
  rw [lt_t, show gi S 55 1 = m from (hS.i rfl).trans hm]
  refine p_if (fun hc => ?_) (fun hc => ?_)
  · refine p_some (hK S hS (fun j a b => by rw [h89 j a b, if_pos (by omega)]))
  have hA := hA k (by omega) (by omega)
  have e89 : gl S 89 k = A k := by rw [h89 k (by omega) (by omega), if_neg (by omega), Int.add_zero]
  rw [chk_t (by omega), lt_t, chk_t (by omega), lt_t, e89, show gl S 88 k = B k from (hS.l rfl).trans hA.2.1, ckJ_t (by omega), chk_t (by omega), lt_t, ckI_t (by omega)]
  refine ih (by omega) _ (hS.wl rfl) (fun j a b => ?_)
  rw [gl_wl]
  by_cases hj : j = k
  · rw [if_pos ⟨rfl, hj⟩, if_pos (by omega), hj]
  · rw [if_neg (fun z => hj z.2), h89 j a b]
    by_cases hjk : j < k
    · rw [if_pos hjk, if_pos (by omega)]
    · rw [if_neg hjk, if_neg (by omega)]
theorem g174_l133_w {Q : gM → Prop} {K : gM → Option gM} {c X : Int} {S : gM} (h0 : X = 0 → Wp Q (K S)) (h1 : ∀ K2 : Int → gM → Option gM, (∀ S2, Wp Q (K S2) → Wp Q (K2 0 S2)) → ¬ X = 0 → Wp Q (g174_l143 y f c K2 100000 X 0 S)) (n : Nat) : Wp Q (g174_l133 y f c K (n + 1 + 1) X S) := by
  dsimp only [g174_l133]
  refine p_if h0 (fun hX => ?_)
  refine h1 _ (fun S2 h2 => ?_) hX
  exact p_if (fun _ => h2) (fun z => absurd rfl z)
def RowT (S0 S : gM) (f y d : Int) (la th : Int → Int) (es em : Int) : Prop := ∀ j : Int, 0 ≤ j → j < gi S0 55 1 →
  gl S 86 j = ifp (y < gi S0 67 j) (flS (cor S0) (gi S0) f y d la th es em j) ∧ gl S 87 j = ifp (y < gi S0 67 j) (cpS (cor S0) (gi S0) f y d la th es em j) ∧ gl S 88 j = shS (cor S0) (gi S0) f y d la th es em j ∧ gl S 89 j = suS (cor S0) (gi S0) f y d la th es em j ∧
  (∀ r : Int, 0 ≤ r → r < 30 → gl S 85 (30 * j + r) = ifp (y < gi S0 67 j) (liS (cor S0) (gi S0) f y d la es em j r))
set_option maxHeartbeats 1000000 in
theorem g170_w (hB : Bas S0) (hF : FOk (gi S0) f) (hf : -1 ≤ f ∧ f < 9) (hy : 0 ≤ y ∧ y ≤ 9) (h90 : ∀ j : Int, 0 ≤ j → j < gi S0 55 1 → gl S0 90 j = la j ∧ (-15740000000000 ≤ la j ∧ la j ≤ 15740000000000)) (h91 : ∀ j : Int, 0 ≤ j → j < gi S0 55 1 → y < gi S0 67 j → gl S0 91 j = th j) (hy0 : y = 0 → ∀ j, la j = 0) :
    Wp (fun S => Fr fr7 S0 S ∧ RowT S0 S f y d la th es em) (g170 y d f es em S0) := by
  have h0 := hB.2.1.1
  unfold g170
  refine g170_l6_w S0 hB hF hf hy h90 h91 hy0 ?_ 100000 0 (Nat.zero_le _) (by omega) S0 Fr.refl (fun j a b => by omega)
  intro S hS hR
  have sc : Sc S0 S := hS.mono rfl
  have F1 : FOk (gi S) f := FOk_c (sc.seq f) hF
  have e3 : tls (gi S) f 3 (-1) = tls (gi S0) f 3 (-1) := (tls_c (sc.seq f) hF.1 (by omega) _ _).symm
  have ht := (tls_rng hF (by omega)).2.2.1
  refine p_call (g162_eq _ _ F1 (by omega)) ?_
  dsimp only
  rw [e3]
  have plain : (tls (gi S0) f 3 (-1) = -1 ∨ alP (cor S0) (gi S0) f y d la es em = 0) → Fr fr7 S0 S ∧ RowT S0 S f y d la th es em := fun hno => by
    refine ⟨hS, fun j a b => ?_⟩
    have h := hR j a b
    have e : shS (cor S0) (gi S0) f y d la th es em j = 0 := by
      unfold shS
      exact ifp_f (fun z => hno.elim z.1 z.2)
    refine ⟨h.1, h.2.1, by rw [h.2.2.1, e], ?_, h.2.2.2.2.2⟩
    unfold suS
    rw [h.2.2.2.1, e, co67, Int.add_zero]
  refine p_if (fun hc => p_some (plain (Or.inl hc))) (fun hc => ?_)
  have hfm : ¬ f = -1 := fun z => hc (by rw [z]; unfold tls lst; rw [show (nsF (gi S0) (-1)).toNat = 0 by unfold nsF; rw [if_pos rfl]; rfl]; exact if_pos rfl)
  have hf2 : 0 ≤ f ∧ f < 9 := by omega
  refine p_call (g162_eq _ _ F1 (by omega)) ?_
  dsimp only
  rw [e3]
  have esum : tls (gi S0) f 3 (-1) - sm (fun j => ifp (y < gi S0 67 j) (prS (cor S0) (gi S0) f y d la th es em j)) (gi S0 55 1).toNat = reT (cor S0) (gi S0) f y d la th es em := by
    unfold reT
    rw [co55_1]
    exact congrArg _ (sm_congr _ (fun j _ => by rw [co67]))
  have sb2 := SB_2 (y := y) (d := d) (la := la) (th := th) (es := es) (em := em) hB hF (by omega)
  rw [esum, ckJ_t (by omega)]
  have hP : Pdt S0 S f y d la es em := fun j a b c => by
    have h := hR j a b
    refine ⟨h.2.2.2.2.1 hfm c, fun r u v => ?_⟩
    have := h.2.2.2.2.2 r u v
    rw [ifp_t c] at this
    exact this
  suffices hs : Wp (fun S => Fr fr7 S0 S ∧ RowT S0 S f y d la th es em) (g174 y f (reT (cor S0) (gi S0) f y d la th es em) S) by
    exact p_use hs (fun p hp => p_some hp)
  unfold g174
  refine g174_l6_w (la := la) (es := es) (em := em) hB hF hf2 hS hP ?_ 100000 0 (Nat.zero_le _) (by omega)
  refine p_if (fun hal => ?_) (fun hal => p_some (plain (Or.inr (Classical.not_not.mp hal))))
  -- the end: the shares go into the sums
  have fin : ∀ c : Int, (c = if 0 < lef (cor S0) (gi S0) f y d la th es em then 1 else -1) → ∀ S', Fr [88] S S' → (∀ j : Int, 0 ≤ j → j < gi S0 55 1 → gl S' 88 j = sh0 (cor S0) (gi S0) f y d la th es em j + cnS S0 f y d la th es em c j) → Wp (fun S => Fr fr7 S0 S ∧ RowT S0 S f y d la th es em) (g174_l215 100000 0 S') := fun c hc2 S' hS' h88 => by
    have e88 : ∀ j, shS (cor S0) (gi S0) f y d la th es em j = sh0 (cor S0) (gi S0) f y d la th es em j + cnS S0 f y d la th es em c j := fun j => by
      unfold shS cnS
      rw [ifp_t ⟨hc, hal⟩, co67, hc2]
    refine g174_l215_w (S1 := S') (A := fun j => ifp (y < gi S0 67 j) (prS (cor S0) (gi S0) f y d la th es em j)) (B := fun j => shS (cor S0) (gi S0) f y d la th es em j) (m := gi S0 55 1) ((hS'.i rfl).trans (hS.i rfl)) (by omega) (fun j a b => ?_) ?_ 100000 0 (Nat.zero_le _) (by omega) S' Fr.refl (fun j a b => ?_)
    · have h := hR j a b
      refine ⟨(hS'.l rfl).trans h.2.2.2.1, by rw [h88 j a b, e88], ?_, ?_⟩
      · exact ifp_rng (SB_1 (y := y) (d := d) (la := la) (th := th) (es := es) (em := em) hB hF (by omega) (s := j) (by omega)).2.2.1 (by omega) (by omega)
      · exact (SB_3 (y := y) (d := d) (la := la) (th := th) (es := es) (em := em) hB hF (by omega) (s := j) (by omega)).2.1
    · intro S2 hS2 h89
      refine ⟨hS.trans ((hS'.mono rfl).trans (hS2.mono rfl)), fun j a b => ?_⟩
      have h := hR j a b
      refine ⟨(hS2.l rfl).trans ((hS'.l rfl).trans h.1), (hS2.l rfl).trans ((hS'.l rfl).trans h.2.1), (hS2.l rfl).trans (by rw [h88 j a b, e88]), ?_, fun r u v => (hS2.l rfl).trans ((hS'.l rfl).trans (h.2.2.2.2.2 r u v))⟩
      rw [h89 j a b]
      by_cases ho : y < gi S0 67 j
      · unfold suS
        rw [co67, ifp_t ho, ifp_t ho]
      · unfold suS
        rw [co67, ifp_f ho, ifp_f ho, e88]
        unfold sh0 cnS
        rw [co67, ifp_f ho, ifp_f (fun z => ho z.1.1)]
        rfl
    · rw [if_neg (by omega)]
      have := (hS'.l (q := 89) (k := j) rfl).trans (hR j a b).2.2.2.1
      rw [this, Int.add_zero]
  refine g174_l57_w (th := th) hB hF hf2 hal hS hP (fun j a b => (hR j a b).2.2.1) ?_ 100000 0 (Nat.zero_le _) (by omega) _ S (Int.sub_zero _).symm Fr.refl (fun j a b => by rw [(hR j a b).2.2.1, if_neg (by omega)])
  intro S1 hS1 h88
  have hS01 : Fr fr7 S0 S1 := hS.trans (hS1.mono rfl)
  -- what is left is less than the parts
  have hL : ((lef (cor S0) (gi S0) f y d la th es em).natAbs : Int) < cnP (cor S0) (gi S0) f y d la es em (gi S0 55 1).toNat := by
    have h := lef_rng (reT (cor S0) (gi S0) f y d la th es em) (alP (cor S0) (gi S0) f y d la es em) (fun j => ifp (y < gi S0 67 j) (paS (cor S0) (gi S0) f y d la es em j)) (gi S0 55 1).toNat (fun j hj => ifp_rng (SB_1 (y := y) (d := d) (la := la) (th := th) (es := es) (em := em) hB hF (by omega) (s := j) (by omega)).2.1 (by omega) (by omega) |>.1) (by unfold alP; rw [co55_1]; exact sm_congr _ (fun j _ => by rw [co67])) (by omega)
    have e1 : lef (cor S0) (gi S0) f y d la th es em = reT (cor S0) (gi S0) f y d la th es em - sm (fun j => (reT (cor S0) (gi S0) f y d la th es em * ifp (y < gi S0 67 j) (paS (cor S0) (gi S0) f y d la es em j)).tdiv (alP (cor S0) (gi S0) f y d la es em)) (gi S0 55 1).toNat := by
      unfold lef
      rw [co55_1]
      refine congrArg _ (sm_congr _ (fun j _ => ?_))
      unfold sh0
      rw [co67]
      by_cases ho : y < gi S0 67 j
      · rw [ifp_t ho, ifp_t ho]
      · rw [ifp_f ho, ifp_f ho, Int.mul_zero, Int.zero_tdiv]
    have e2 : cnP (cor S0) (gi S0) f y d la es em (gi S0 55 1).toNat = sm (fun j => one (0 < ifp (y < gi S0 67 j) (paS (cor S0) (gi S0) f y d la es em j))) (gi S0 55 1).toNat := by
      unfold cnP
      refine sm_congr _ (fun j _ => ?_)
      rw [co67]
      by_cases ho : y < gi S0 67 j
      · rw [ifp_t ho]
        by_cases hp : 0 < paS (cor S0) (gi S0) f y d la es em j
        · rw [one_t ⟨ho, hp⟩, one_t hp]
        · rw [one_f (fun z => hp z.2), one_f hp]
      · rw [ifp_f ho, one_f (fun z => ho z.1), one_f (by omega)]
    rw [e1, e2]
    exact h
  have c0 : cnP (cor S0) (gi S0) f y d la es em 0 = 0 := rfl
  have round : ∀ c : Int, (c = if 0 < lef (cor S0) (gi S0) f y d la th es em then 1 else -1) → Wp (fun S => Fr fr7 S0 S ∧ RowT S0 S f y d la th es em) (g174_l133 y f c (fun S47 => g174_l215 100000 0 S47) 100000 (lef (cor S0) (gi S0) f y d la th es em) S1) := fun c hc2 => by
    have hc3 : c = 1 ∨ c = -1 := by rw [hc2]; split <;> omega
    have hcl : lef (cor S0) (gi S0) f y d la th es em = c * (max 0 ((lef (cor S0) (gi S0) f y d la th es em).natAbs - cnP (cor S0) (gi S0) f y d la es em 0)) := by
      rw [c0, hc2]; split <;> omega
    refine g174_l133_w (fun hl0 => ?_) (fun K2 hK2 hl0 => ?_) 99998
    · refine fin c hc2 S1 hS1 (fun j a b => ?_)
      rw [h88 j a b]
      unfold cnS
      have := cnP_rng (S0 := S0) (f := f) (y := y) (d := d) (la := la) (es := es) (em := em) j.toNat
      rw [ifp_f (fun z => by have := z.2; rw [hl0] at this; omega), Int.add_zero]
    · refine g174_l143_w (th := th) hB hF hf2 hc3 hL hS01 (hP.w (hS1.mono rfl)) ?_ 100000 0 (Nat.zero_le _) (by omega) _ S1 hcl Fr.refl (fun j a b => by rw [h88 j a b, if_neg (by omega), Int.add_zero])
      intro S2 hS2 h2
      exact hK2 S2 (fin c hc2 S2 (hS1.trans hS2) h2)
  refine p_if (fun hc3 => ?_) (fun hc3 => ?_)
  · exact round (-1) (by rw [if_neg (by omega)])
  · exact round 1 (by rw [if_pos (by omega)])
end PT
