/-! bounds of the spec's numbers; the reference's long division -/
section SB
variable {S : gM}
/-- what the spec stands on -/
def Bas (S : gM) : Prop := MarkI S ∧ LandI S ∧ NeedI S ∧ RoadI S
theorem Bas.sc {S S' : gM} (h : Bas S) (hS : Sc S S') : Bas S' := ⟨⟨by rw [show gi S' 55 2 = gi S 55 2 from hS.i rfl, show gi S' 11 4 = gi S 11 4 from hS.i rfl]; exact h.1.1,
    by rw [show gi S' 55 2 = gi S 55 2 from hS.i rfl, show gi S' 55 1 = gi S 55 1 from hS.i rfl, show gi S' 61 = gi S 61 from funext fun k => hS.i rfl, show gi S' 62 = gi S 62 from funext fun k => hS.i rfl, show gi S' 63 = gi S 63 from funext fun k => hS.i rfl, show gi S' 64 = gi S 64 from funext fun k => hS.i rfl, show gi S' 65 = gi S 65 from funext fun k => hS.i rfl, show gi S' 12 = gi S 12 from funext fun k => hS.i rfl, show gi S' 13 = gi S 13 from funext fun k => hS.i rfl]; exact h.1.2.1,
    by
      intro k hk
      rw [lI_c, hS.cE, ← lI_c, show gi S' 14 = gi S 14 from funext fun k => hS.i rfl, show gi S' 61 = gi S 61 from funext fun k => hS.i rfl, show gi S' 62 = gi S 62 from funext fun k => hS.i rfl, show gi S' 63 = gi S 63 from funext fun k => hS.i rfl]
      exact h.1.2.2.1 k (by rw [← show gi S' 55 2 = gi S 55 2 from hS.i rfl]; exact hk),
    by
      intro s y w h1 h2 h3 h4 h5 h6
      rw [lI_c, hS.cE, ← lI_c, show gi S' 15 = gi S 15 from funext fun k => hS.i rfl, show gi S' 55 2 = gi S 55 2 from hS.i rfl]
      exact h.1.2.2.2 s y w h1 h2 h3 h4 h5 h6⟩, h.2.1.fr hS rfl, h.2.2.1.fr hS rfl, h.2.2.2.fr hS rfl⟩
variable {F : Nat → Int → Int} {f y d es em : Int} {la th : Int → Int}
theorem SB_1 (hB : Bas S) (hF : FOk F f) (hf : -1 ≤ f) {s : Int} (hs : 0 ≤ s ∧ s < gi S 55 1) : (-3000000000 ≤ baS (cor S) F f y d la es em s ∧ baS (cor S) F f y d la es em s ≤ 3000000000) ∧ (0 ≤ paS (cor S) F f y d la es em s ∧ paS (cor S) F f y d la es em s ≤ 100000000) ∧ (-100000000000 ≤ prS (cor S) F f y d la th es em s ∧ prS (cor S) F f y d la th es em s ≤ 100000000000) ∧ (∀ r, -100000000 ≤ liS (cor S) F f y d la es em s r ∧ liS (cor S) F f y d la es em s r ≤ 100000000) ∧ (-200000000000 ≤ flS (cor S) F f y d la th es em s ∧ flS (cor S) F f y d la th es em s ≤ 200000000000) ∧ (-200000000000 ≤ cpS (cor S) F f y d la th es em s ∧ cpS (cor S) F f y d la th es em s ≤ 200000000000) := by
  have hw := wdV_rng hB.1 hB.2.1 hB.2.2.1 hB.2.2.2 (y := y) d (la s) es em hs
  have hl := lns_rng hF (W := wS (cor S) y d la es em s) hw.1 (nsF F f).toNat (by have := hF.1; omega)
  have ht := tls_rng hF hf
  have hn := hF.1
  have hb : -3000000000 ≤ baS (cor S) F f y d la es em s ∧ baS (cor S) F f y d la es em s ≤ 3000000000 := by
    unfold baS
    have := hl.2
    omega
  have hfc := fc_rng (la := la s) (hd := wS (cor S) y d la es em s 5) (th := th s) (ord := tls F f 5 0) ht.1 ht.2.1 hb
  refine ⟨hb, ?_, hfc.1, hl.1, hfc.2.1, hfc.2.2⟩
  unfold paS
  split
  · have := hw.2
    unfold wS
    omega
  · have := hl.1 (tls F f 6 (-1))
    unfold liS
    omega
theorem sm_ifp_rng {c : Nat → Prop} {g : Nat → Int} {A B : Int} {n : Nat} (hn : n ≤ 12) (hA : A ≤ 0) (hB : 0 ≤ B) (h : ∀ j, j < n → A ≤ g j ∧ g j ≤ B) : ∀ k, k ≤ n → 12 * A ≤ sm (fun j => ifp (c j) (g j)) k ∧ sm (fun j => ifp (c j) (g j)) k ≤ 12 * B := by
  intro k hk
  have h1 := sm_rng (f := fun j => ifp (c j) (g j)) A B k (fun j hj => ifp_rng (h j (by omega)) hA hB)
  have e1 : A * 12 ≤ A * (k : Int) := Int.mul_le_mul_of_nonpos_left hA (by omega)
  have e2 : B * (k : Int) ≤ B * 12 := Int.mul_le_mul_of_nonneg_left (by omega) hB
  omega
theorem SB_2 (hB : Bas S) (hF : FOk F f) (hf : -1 ≤ f) : (0 ≤ alP (cor S) F f y d la es em ∧ alP (cor S) F f y d la es em ≤ 1200000000) ∧ (-1201000000000 ≤ reT (cor S) F f y d la th es em ∧ reT (cor S) F f y d la th es em ≤ 1211000000000) := by
  have h0 := hB.2.1.1
  have h1 := fun (j : Nat) (hj : j < (gi S 55 1).toNat) => SB_1 (y := y) (d := d) (la := la) (th := th) (es := es) (em := em) hB hF hf (s := j) (by omega)
  have ht := (tls_rng hF hf).2.2.1
  constructor
  · unfold alP
    rw [co55_1]
    have := sm_ifp_rng (c := fun s => y < cor S 67 s) (g := fun s => paS (cor S) F f y d la es em s) (A := 0) (B := 100000000) (n := (gi S 55 1).toNat) (by omega) (by omega) (by omega) (fun j hj => (h1 j hj).2.1) _ (Nat.le_refl _)
    omega
  · unfold reT
    rw [co55_1]
    have := sm_ifp_rng (c := fun s => y < cor S 67 s) (g := fun s => prS (cor S) F f y d la th es em s) (A := -100000000000) (B := 100000000000) (n := (gi S 55 1).toNat) (by omega) (by omega) (by omega) (fun j hj => (h1 j hj).2.2.1) _ (Nat.le_refl _)
    omega
theorem sm_le {f : Nat → Int} {n : Nat} (h : ∀ j, j < n → 0 ≤ f j) {j : Nat} (hj : j < n) : f j ≤ sm f n := by
  induction n with
  | zero => omega
  | succ n ih =>
    rw [sm_s]
    have h0 := sm_rng (f := f) 0 (f n + sm f n + 1 + 0) 0 (fun j hj => by omega)
    have hn0 : 0 ≤ sm f n := by
      have key : ∀ k, k ≤ n → 0 ≤ sm f k := by
        intro k
        induction k with
        | zero => intro _; exact Int.le_refl _
        | succ k ih2 => intro hk; rw [sm_s]; have := ih2 (by omega); have := h k (by omega); omega
      exact key n (Nat.le_refl _)
    by_cases hjn : j = n
    · rw [hjn]; omega
    · have := ih (fun j hj => h j (by omega)) (by omega)
      have := h n (by omega)
      omega
/-- a school's part is no more than all -/
theorem SB_p (hB : Bas S) (hF : FOk F f) (hf : -1 ≤ f) {s : Int} (hs : 0 ≤ s ∧ s < gi S 55 1) (ho : y < gi S 67 s) : 0 ≤ paS (cor S) F f y d la es em s ∧ paS (cor S) F f y d la es em s ≤ alP (cor S) F f y d la es em := by
  have h1 := fun (j : Nat) (hj : j < (gi S 55 1).toNat) => (SB_1 (y := y) (d := d) (la := la) (th := la) (es := es) (em := em) hB hF hf (s := j) (by omega)).2.1
  have h2 := sm_le (f := fun s => ifp (y < cor S 67 s) (paS (cor S) F f y d la es em s)) (n := (gi S 55 1).toNat) (fun j hj => by
    by_cases hc : y < cor S 67 j
    · rw [ifp_t hc]; exact (h1 j hj).1
    · rw [ifp_f hc]; exact Int.le_refl _) (j := s.toNat) (by omega)
  rw [show ((s.toNat : Nat) : Int) = s by omega, ifp_t (by rw [co67]; exact ho)] at h2
  refine ⟨?_, ?_⟩
  · have := h1 s.toNat (by omega)
    rw [show ((s.toNat : Nat) : Int) = s by omega] at this
    exact this.1
  · unfold alP; rw [co55_1]; exact h2
theorem SB_3 (hB : Bas S) (hF : FOk F f) (hf : -1 ≤ f) {s : Int} (hs : 0 ≤ s ∧ s < gi S 55 1) : (-1211000000000 ≤ sh0 (cor S) F f y d la th es em s ∧ sh0 (cor S) F f y d la th es em s ≤ 1211000000000) ∧ (-1211000000001 ≤ shS (cor S) F f y d la th es em s ∧ shS (cor S) F f y d la th es em s ≤ 1211000000001) ∧ (-1311000000001 ≤ suS (cor S) F f y d la th es em s ∧ suS (cor S) F f y d la th es em s ≤ 1311000000001) := by
  have h2 := SB_2 (y := y) (d := d) (la := la) (th := th) (es := es) (em := em) hB hF hf
  have h1 := SB_1 (y := y) (d := d) (la := la) (th := th) (es := es) (em := em) hB hF hf hs
  have h3 : -1211000000000 ≤ sh0 (cor S) F f y d la th es em s ∧ sh0 (cor S) F f y d la th es em s ≤ 1211000000000 := by
    unfold sh0
    by_cases hc : y < cor S 67 s
    · rw [ifp_t hc]
      have hp := SB_p (y := y) (d := d) (la := la) (es := es) (em := em) hB hF hf hs (by rw [← co67]; exact hc)
      have := sha_rng (r := reT (cor S) F f y d la th es em) hp
      omega
    · rw [ifp_f hc]; omega
  have h4 : -1211000000001 ≤ shS (cor S) F f y d la th es em s ∧ shS (cor S) F f y d la th es em s ≤ 1211000000001 := by
    unfold shS
    refine ifp_rng ?_ (by omega) (by omega)
    have h5 : -1 ≤ ifp ((y < cor S 67 s ∧ 0 < paS (cor S) F f y d la es em s) ∧ cnP (cor S) F f y d la es em s.toNat < ((lef (cor S) F f y d la th es em).natAbs : Int)) (if 0 < lef (cor S) F f y d la th es em then 1 else -1) ∧ ifp ((y < cor S 67 s ∧ 0 < paS (cor S) F f y d la es em s) ∧ cnP (cor S) F f y d la es em s.toNat < ((lef (cor S) F f y d la th es em).natAbs : Int)) (if 0 < lef (cor S) F f y d la th es em then 1 else -1) ≤ 1 := ifp_rng (by split <;> omega) (by omega) (by omega)
    omega
  refine ⟨h3, h4, ?_⟩
  unfold suS
  exact ifp_rng (by omega) (by omega) (by omega)
end SB
/-! the long division -/
theorem shamt : ∀ k : Nat, k < 63 → ((Int32.ofInt k).toInt64 &&& 63).toBitVec.smod 64 = BitVec.ofNat 64 k := by decide +kernel
theorem B_shr_eq (x : Int) (k : Nat) (hk : k < 63) (hx : 0 ≤ x ∧ x ≤ 9223372036854775807) : B_shr x k = x / 2 ^ k := by
  have e : (Int64.ofInt x >>> ((Int32.ofInt k).toInt64 &&& 63)).toBitVec = (Int64.ofInt x).toBitVec.sshiftRight k := by
    rw [Int64.toBitVec_shiftRight, shamt k hk]
    show (Int64.ofInt x).toBitVec.sshiftRight (BitVec.ofNat 64 k).toNat = _
    rw [BitVec.toNat_ofNat, Nat.mod_eq_of_lt (by omega)]
  have e2 : (Int64.ofInt x).toInt = x := Int64.toInt_ofInt_of_le (by omega) (by omega)
  unfold B_shr
  show (Int64.ofInt x >>> ((Int32.ofInt k).toInt64 &&& 63)).toBitVec.toInt = _
  rw [e, BitVec.toInt_sshiftRight]
  show (Int64.ofInt x).toInt >>> k = _
  rw [e2, Int.shiftRight_eq_div_pow]
  rfl

theorem B_shl_eq (x : Int) (hx : -4611686018427387904 ≤ x ∧ x ≤ 4611686018427387903) : B_shl x 1 = 2 * x := by
  have e0 : ((Int32.ofInt 1).toInt64 &&& 63) = 1 := by decide
  have e2 : (Int64.ofInt x).toInt = x := Int64.toInt_ofInt_of_le (by omega) (by omega)
  have e1 : Int64.ofInt x <<< (1 : Int64) = Int64.ofInt x * 2 := by
    apply Int64.toBitVec_inj.1
    rw [Int64.toBitVec_shiftLeft, Int64.toBitVec_mul]
    show (Int64.ofInt x).toBitVec <<< ((1 : Int64).toBitVec.smod 64) = _
    have e3 : ((1 : Int64).toBitVec.smod 64) = 1#64 := by decide
    rw [e3]
    show (Int64.ofInt x).toBitVec <<< 1 = (Int64.ofInt x).toBitVec * 2#64
    rw [BitVec.shiftLeft_eq_mul_twoPow]
    rfl
  unfold B_shl
  rw [e0, e1, Int64.toInt_mul, e2, show (2 : Int64).toInt = 2 from rfl, Int.bmod_eq_of_le (by omega) (by omega)]
  omega
theorem B_and1_eq (x : Int) (hx : 0 ≤ x ∧ x ≤ 9223372036854775807) : B_and x 1 = x % 2 := by
  have e2 : (Int64.ofInt x).toInt = x := Int64.toInt_ofInt_of_le (by omega) (by omega)
  have e1 : ((Int64.ofInt x).toBitVec.toNat : Int) = x := by
    have h3 := BitVec.toInt_eq_toNat_cond (Int64.ofInt x).toBitVec
    have h4 : (Int64.ofInt x).toBitVec.toInt = x := e2
    split at h3
    · omega
    · have := (Int64.ofInt x).toBitVec.isLt; omega
  have e3 : (Int64.ofInt 1).toBitVec = 1#64 := by decide
  have e4 : ((Int64.ofInt x &&& Int64.ofInt 1).toBitVec).toNat = (Int64.ofInt x).toBitVec.toNat % 2 := by
    rw [Int64.toBitVec_and, e3, BitVec.toNat_and]
    show (Int64.ofInt x).toBitVec.toNat &&& 1 = _
    exact Nat.and_one_is_mod _
  unfold B_and
  show (Int64.ofInt x &&& Int64.ofInt 1).toBitVec.toInt = _
  rw [BitVec.toInt_eq_toNat_of_lt (by omega), e4]
  omega
section WH
variable {S : gM}
theorem g175_l16_w {Q : Int × gM → Prop} {K : Int → gM → Option (Int × gM)} {x p a A : Int} (hA : 0 ≤ A ∧ A ≤ 1300000000000) (ha : 0 < a ∧ a ≤ 1200000000) (hp : 0 ≤ p ∧ p ≤ a) (hK : ∀ v, v = A * p / a → Wp Q (K v S)) :
    ∀ (m n : Nat) (v r : Int), m ≤ 63 → m < n → v * a + r = A / 2 ^ m * p → (0 ≤ r ∧ r < a) → 0 ≤ v → Wp Q (g175_l16 x p a A K n v r ((m : Int) - 1) S) := by
  intro m
  induction m with
  | zero =>
    intro n v r _ hn he hr hv
    cases n with
    | zero => omega
    | succ n =>
      dsimp only [g175_l16]
      rw [if_pos (by omega)]
      apply hK
      rw [Int.pow_zero, Int.ediv_one] at he
      rw [← he, Int.add_comm, Int.add_mul_ediv_right _ _ (by omega), Int.ediv_eq_zero_of_lt hr.1 hr.2]
      omega
  | succ m ih =>
    intro n v r hm hn he hr hv
    cases n with
    | zero => omega
    | succ n =>
      dsimp only [g175_l16]
      rw [if_neg (by omega), show (((m + 1 : Nat) : Int) - 1) = (m : Int) by omega]
      have hd : 0 ≤ A / 2 ^ (m + 1) ∧ A / 2 ^ (m + 1) ≤ A := ⟨Int.ediv_nonneg hA.1 (Int.le_of_lt (Int.pow_pos (by omega))), Int.ediv_le_self _ hA.1⟩
      have hd2 : 0 ≤ A / 2 ^ m ∧ A / 2 ^ m ≤ A := ⟨Int.ediv_nonneg hA.1 (Int.le_of_lt (Int.pow_pos (by omega))), Int.ediv_le_self _ hA.1⟩
      have hbit : A / 2 ^ (m + 1) = A / 2 ^ m / 2 := by
        rw [Int.pow_succ, Int.ediv_ediv_of_nonneg (Int.le_of_lt (Int.pow_pos (by omega)))]
      have hvA : v ≤ A / 2 ^ (m + 1) := by
        have h1 : A / 2 ^ (m + 1) * p ≤ A / 2 ^ (m + 1) * a := Int.mul_le_mul_of_nonneg_left hp.2 hd.1
        exact Int.le_of_mul_le_mul_right (show v * a ≤ A / 2 ^ (m + 1) * a by omega) ha.1
      rw [lt_t, lt_t, lt_t, lt_t, B_shl_eq v (by omega), B_shl_eq r (by omega), B_shr_eq A m (by omega) (by omega), B_and1_eq _ (by omega)]
      have step : ∀ r2 : Int, (0 ≤ r2 ∧ r2 ≤ 4000000000) → 2 * v * a + r2 = A / 2 ^ m * p → Wp Q (g175_j51 K (g175_l16 x p a A K n) x p a A (2 * v) r2 m S) := by
        intro r2 h1 h2
        unfold g175_j51
        have q1 : 0 ≤ r2 / a ∧ r2 / a ≤ r2 := ⟨Int.ediv_nonneg h1.1 (by omega), Int.ediv_le_self _ h1.1⟩
        rw [chk_t (by omega), td_pos h1.1, tm_pos h1.1, ckJ_t (by omega), ckJ_t (by omega), chk_t (by omega), ckJ_t (by omega), lt_t, ckI_t (by omega), show (m : Int) + -1 = (m : Int) - 1 by omega]
        refine ih n (2 * v + r2 / a) (r2 % a) (by omega) (by omega) ?_ ⟨Int.emod_nonneg _ (by omega), Int.emod_lt_of_pos _ ha.1⟩ (by omega)
        have := Int.mul_ediv_add_emod r2 a
        rw [Int.add_mul, Int.mul_comm (r2 / a) a]
        omega
      have e2 : A / 2 ^ m = 2 * (A / 2 ^ (m + 1)) + A / 2 ^ m % 2 := by omega
      by_cases hb : A / 2 ^ m % 2 = 1
      · rw [if_neg (fun z => z hb), ckJ_t (by omega)]
        refine step _ (by omega) ?_
        rw [e2, hb, Int.add_mul, Int.mul_assoc, Int.mul_assoc, ← he]
        omega
      · rw [if_pos hb]
        refine step _ (by omega) ?_
        rw [e2, show A / 2 ^ m % 2 = 0 by omega, Int.add_zero, Int.mul_assoc, Int.mul_assoc, ← he]
        omega
theorem g175_eq {x p a : Int} (hx : -1300000000000 ≤ x ∧ x ≤ 1300000000000) (ha : 0 < a ∧ a ≤ 1200000000) (hp : 0 ≤ p ∧ p ≤ a) : g175 x p a S = some ((x * p).tdiv a, S) := by
  refine p_eq ?_
  unfold g175
  rw [ckJ_t (by omega)]
  have hq : (x.natAbs : Int) * p / a ≤ 1300000000000 ∧ 0 ≤ (x.natAbs : Int) * p / a := by
    have h1 : (x.natAbs : Int) * p ≤ (x.natAbs : Int) * a := Int.mul_le_mul_of_nonneg_left hp.2 (by omega)
    have h2 : (x.natAbs : Int) * p / a ≤ (x.natAbs : Int) * a / a := Int.ediv_le_ediv ha.1 h1
    rw [Int.mul_ediv_cancel _ (by omega)] at h2
    exact ⟨by omega, Int.ediv_nonneg (Int.mul_nonneg (by omega) hp.1) (by omega)⟩
  refine g175_l16_w (A := (x.natAbs : Int)) (by omega) ha hp ?_ 63 100000 0 0 (by omega) (by omega) ?_ (by omega) (by omega)
  · intro v hv
    by_cases h0 : 0 ≤ x
    · rw [if_pos h0]
      refine p_some ?_
      rw [hv, show (x.natAbs : Int) = x by omega, Int.tdiv_eq_ediv_of_nonneg (Int.mul_nonneg h0 hp.1)]
    · rw [if_neg h0, ckJ_t (by omega)]
      refine p_some ?_
      have e : x = -(x.natAbs : Int) := by omega
      rw [hv]
      conv => rhs; rw [e, Int.neg_mul, Int.neg_tdiv, Int.tdiv_eq_ediv_of_nonneg (Int.mul_nonneg (by omega) hp.1)]
  · have : (x.natAbs : Int) / 2 ^ 63 = 0 := Int.ediv_eq_zero_of_lt (by omega) (by omega)
    rw [this]
    omega
end WH
