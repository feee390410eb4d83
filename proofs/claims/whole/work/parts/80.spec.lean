/-! what a school's sum is: lines, floor, cap, share; bounds -/
noncomputable def wdV (C : Nat → Int → Int) (y d la es em s : Int) : Int → Int := fun k =>
  if k = 5 then mkB C s y (max 0 (y - 1)) 0 d + (if s = es ∧ 0 = em then 1 else 0) + (mkB C s y (max 0 (y - 1)) 1 d + (if s = es ∧ 1 = em then 1 else 0)) + (mkB C s y (max 0 (y - 1)) 2 d + (if s = es ∧ 2 = em then 1 else 0))
  else if k = 6 then C 59 (C 56 s) else if k = 7 then farV C s y else if k = 8 then hld la else if k = 9 then C 56 s
  else mkB C s y (max 0 (y - 1)) k d + (if s = es ∧ k = em then 1 else 0)
noncomputable def evV (W L : Int → Int) (xs : List (Int × Int)) : Int := match ev W L xs [] with
  | some [v] => v
  | _ => 0
theorem evV_eq {W L : Int → Int} {xs : List (Int × Int)} {v : Int} (h : ev W L xs [] = some [v]) : evV W L xs = v := by unfold evV; rw [h]
noncomputable def lnV (F : Nat → Int → Int) (f : Int) (W L : Int → Int) (i : Nat) : Int :=
  ifp (F 76 (30 * f + i) = F 77 (30 * f + i) ∨ evV W L (sgm F (F 77 (30 * f + i) - F 76 (30 * f + i)).toNat (F 76 (30 * f + i))) = 1) (evV W L (sgm F (F 76 (30 * f + i) - F 75 (30 * f + i)).toNat (F 75 (30 * f + i))))
noncomputable def lns (F : Nat → Int → Int) (f : Int) (W : Int → Int) : Nat → Int → Int
  | 0 => fun _ => 0
  | i + 1 => if F 73 (30 * f + i) = 0 then (fun r => if r = rk F f i then lnV F f W (lns F f W i) i else lns F f W i r) else lns F f W i
noncomputable def bar (F : Nat → Int → Int) (f : Int) (W : Int → Int) : Nat → Int
  | 0 => 0
  | i + 1 => if F 73 (30 * f + i) = 0 then bar F f W i + lnV F f W (lns F f W i) i else bar F f W i
theorem lns_s (F : Nat → Int → Int) (f : Int) (W : Int → Int) (i : Nat) : lns F f W (i + 1) = if F 73 (30 * f + i) = 0 then (fun r : Int => if r = rk F f i then lnV F f W (lns F f W i) i else lns F f W i r) else lns F f W i := rfl
theorem bar_s (F : Nat → Int → Int) (f : Int) (W : Int → Int) (i : Nat) : bar F f W (i + 1) = if F 73 (30 * f + i) = 0 then bar F f W i + lnV F f W (lns F f W i) i else bar F f W i := rfl
def bsV (la hd th : Int) : Int := max (-10000000000) (min 10000000000 ((la * hd).tdiv th))
def lfV (low base b : Int) : Int := if ¬ low = -1 ∧ b < (base * low).tdiv 100 then (base * low).tdiv 100 - b else 0
def cpV (high base b : Int) : Int := if ¬ high = -1 ∧ (base * high).tdiv 100 < b then (base * high).tdiv 100 - b else 0
def flo (la hd th low high ord b : Int) : Int := if la = 0 ∨ th = 0 then 0 else if ord = 1 then lfV low (bsV la hd th) (b + cpV high (bsV la hd th) b) else lfV low (bsV la hd th) b
def cpo (la hd th low high ord b : Int) : Int := if la = 0 ∨ th = 0 then 0 else if ord = 1 then cpV high (bsV la hd th) b else cpV high (bsV la hd th) (b + lfV low (bsV la hd th) b)
section SP
variable (C F : Nat → Int → Int) (f y d : Int) (la th : Int → Int) (es em : Int)
noncomputable def wS (s : Int) : Int → Int := wdV C y d (la s) es em s
noncomputable def liS (s : Int) : Int → Int := lns F f (wS C y d la es em s) (nsF F f).toNat
noncomputable def baS (s : Int) : Int := bar F f (wS C y d la es em s) (nsF F f).toNat
noncomputable def flS (s : Int) : Int := flo (la s) (wS C y d la es em s 5) (th s) (tls F f 1 (-1)) (tls F f 2 (-1)) (tls F f 5 0) (baS C F f y d la es em s)
noncomputable def cpS (s : Int) : Int := cpo (la s) (wS C y d la es em s 5) (th s) (tls F f 1 (-1)) (tls F f 2 (-1)) (tls F f 5 0) (baS C F f y d la es em s)
noncomputable def prS (s : Int) : Int := baS C F f y d la es em s + flS C F f y d la th es em s + cpS C F f y d la th es em s
noncomputable def paS (s : Int) : Int := max 0 (if tls F f 6 (-1) = -1 then wS C y d la es em s 5 else liS C F f y d la es em s (tls F f 6 (-1)))
noncomputable def alP : Int := sm (fun s => ifp (y < C 67 s) (paS C F f y d la es em s)) (C 55 1).toNat
noncomputable def reT : Int := tls F f 3 (-1) - sm (fun s => ifp (y < C 67 s) (prS C F f y d la th es em s)) (C 55 1).toNat
noncomputable def sh0 (s : Int) : Int := ifp (y < C 67 s) ((reT C F f y d la th es em * paS C F f y d la es em s).tdiv (alP C F f y d la es em))
noncomputable def lef : Int := reT C F f y d la th es em - sm (fun s => sh0 C F f y d la th es em s) (C 55 1).toNat
noncomputable def cnP (k : Nat) : Int := sm (fun j => one (y < C 67 j ∧ 0 < paS C F f y d la es em j)) k
noncomputable def shS (s : Int) : Int := ifp (¬ tls F f 3 (-1) = -1 ∧ ¬ alP C F f y d la es em = 0) (sh0 C F f y d la th es em s + ifp ((y < C 67 s ∧ 0 < paS C F f y d la es em s) ∧ cnP C F f y d la es em s.toNat < ((lef C F f y d la th es em).natAbs : Int)) (if 0 < lef C F f y d la th es em then 1 else -1))
noncomputable def suS (s : Int) : Int := ifp (y < C 67 s) (prS C F f y d la th es em s + shS C F f y d la th es em s)
end SP
noncomputable def laN (C : Nat → Int → Int) (p : Int → Int) (y s : Int) : Int := sm (fun m => ifp (onC C s y 12 m) (p m)) (C 55 1).toNat
noncomputable def thV (C : Nat → Int → Int) (y s : Int) : Int := if y < 1 then 0 else mkB C s y (max 0 (y - 2)) 0 (100 * y) + mkB C s y (max 0 (y - 2)) 1 (100 * y) + mkB C s y (max 0 (y - 2)) 2 (100 * y)
/-- the sums of a year as known by the day on which the next begins -/
noncomputable def pasV (C F : Nat → Int → Int) : Nat → Int → Int
  | 0 => fun s => suS C F (inF F 0 100) 0 100 (fun _ => 0) (fun _ => 0) (-1) (-1) s
  | y + 1 => fun s => suS C F (inF F (y + 1 : Nat) (100 * ((y + 2 : Nat) : Int))) (y + 1 : Nat) (100 * ((y + 2 : Nat) : Int)) (laN C (pasV C F y) (y + 1 : Nat)) (thV C (y + 1 : Nat)) (-1) (-1) s
noncomputable def laV (C F : Nat → Int → Int) : Nat → Int → Int
  | 0 => fun _ => 0
  | y + 1 => laN C (pasV C F y) (y + 1 : Nat)
theorem pasV_eq (C F : Nat → Int → Int) (y : Nat) (s : Int) : pasV C F y s = suS C F (inF F y (100 * ((y + 1 : Nat) : Int))) y (100 * ((y + 1 : Nat) : Int)) (laV C F y) (thV C y) (-1) (-1) s := by
  cases y with
  | zero => rfl
  | succ y => rfl
section BD
variable {S : gM}
/-- the bounds of the words -/
theorem wdV_rng (hm : MarkI S) (hl : LandI S) (hn : NeedI S) (hr : RoadI S) {y : Int} (d la es em : Int) {s : Int} (hs : 0 ≤ s ∧ s < gi S 55 1) : (∀ i : Int, 0 ≤ i → i < 10 → -100000000 ≤ wdV (cor S) y d la es em s i ∧ wdV (cor S) y d la es em s i ≤ 100000000) ∧ 0 ≤ wdV (cor S) y d la es em s 5 ∧ wdV (cor S) y d la es em s 5 ≤ 359967 := by
  have b := fun k => mkB_rng hm hl s y (max 0 (y - 1)) k d
  have e01 : ∀ c : Prop, [Decidable c] → 0 ≤ (if c then (1 : Int) else 0) ∧ (if c then (1 : Int) else 0) ≤ 1 := fun c _ => by split <;> omega
  have hks := hl.2.1 s hs.1 hs.2
  have h5 : 0 ≤ wdV (cor S) y d la es em s 5 ∧ wdV (cor S) y d la es em s 5 ≤ 359967 := by
    unfold wdV
    rw [if_pos rfl]
    have b0 := b 0
    have b1 := b 1
    have b2 := b 2
    have c0 := e01 (s = es ∧ 0 = em)
    have c1 := e01 (s = es ∧ 1 = em)
    have c2 := e01 (s = es ∧ 2 = em)
    omega
  refine ⟨fun i h1 h2 => ?_, h5⟩
  by_cases k5 : i = 5
  · rw [k5]; omega
  unfold wdV
  rw [if_neg k5]
  by_cases k6 : i = 6
  · rw [if_pos k6, co59, co56]
    have := hn (gi S 56 s) hks.2.1.1 hks.2.1.2
    omega
  rw [if_neg k6]
  by_cases k7 : i = 7
  · rw [if_pos k7]
    obtain ⟨r, -, e1, e2, -⟩ := g123_w hl hr y hs
    omega
  rw [if_neg k7]
  by_cases k8 : i = 8
  · rw [if_pos k8]; exact hld_rng _
  rw [if_neg k8]
  by_cases k9 : i = 9
  · rw [if_pos k9, co56]; omega
  rw [if_neg k9]
  have bi := b i
  have ci := e01 (s = es ∧ i = em)
  omega
theorem lns_rng {F : Nat → Int → Int} {f : Int} (h : FOk F f) {W : Int → Int} (hW : ∀ i : Int, 0 ≤ i → i < 10 → -100000000 ≤ W i ∧ W i ≤ 100000000) : ∀ i : Nat, (i : Int) ≤ nsF F f → (∀ r, -100000000 ≤ lns F f W i r ∧ lns F f W i r ≤ 100000000) ∧ (-100000000 * (i : Int) ≤ bar F f W i ∧ bar F f W i ≤ 100000000 * (i : Int)) := by
  intro i
  induction i with
  | zero => intro _; exact ⟨fun r => by unfold lns; omega, by unfold bar; omega⟩
  | succ i ih =>
    intro hi
    have ih := ih (by omega)
    rw [lns_s, bar_s]
    by_cases h0 : F 73 (30 * f + i) = 0
    · rw [if_pos h0, if_pos h0]
      have hst := (h.2 i (by omega)).2.1 h0
      have hv : -100000000 ≤ lnV F f W (lns F f W i) i ∧ lnV F f W (lns F f W i) i ≤ 100000000 := by
        unfold lnV
        obtain ⟨v, e1, e2, -⟩ := hst.2.2.1 W (lns F f W i) hW (fun r _ _ => ih.1 r)
        rw [evV_eq e1]
        exact ifp_rng e2 (by omega) (by omega)
      refine ⟨fun r => ?_, by omega⟩
      split
      · exact hv
      · exact ih.1 r
    · rw [if_neg h0, if_neg h0]
      exact ⟨ih.1, by omega⟩
theorem lfV_c (low base b : Int) : lfV low base b = 0 ∨ (lfV low base b = (base * low).tdiv 100 - b ∧ b < (base * low).tdiv 100) := by
  unfold lfV
  by_cases h : ¬ low = -1 ∧ b < (base * low).tdiv 100
  · rw [if_pos h]; exact Or.inr ⟨rfl, h.2⟩
  · rw [if_neg h]; exact Or.inl rfl
theorem cpV_c (high base b : Int) : cpV high base b = 0 ∨ (cpV high base b = (base * high).tdiv 100 - b ∧ (base * high).tdiv 100 < b) := by
  unfold cpV
  by_cases h : ¬ high = -1 ∧ (base * high).tdiv 100 < b
  · rw [if_pos h]; exact Or.inr ⟨rfl, h.2⟩
  · rw [if_neg h]; exact Or.inl rfl
theorem bsV_rng (la hd th : Int) : -10000000000 ≤ bsV la hd th ∧ bsV la hd th ≤ 10000000000 := by unfold bsV; omega
theorem mul_rng2 {x y A B : Int} (hx : -A ≤ x ∧ x ≤ A) (hy : -B ≤ y ∧ y ≤ B) : -(A * B) ≤ x * y ∧ x * y ≤ A * B := by
  have h : (x * y).natAbs ≤ A.toNat * B.toNat := by
    rw [Int.natAbs_mul]
    exact Nat.mul_le_mul (by omega) (by omega)
  have e : ((A.toNat * B.toNat : Nat) : Int) = A * B := by rw [Int.natCast_mul, Int.toNat_of_nonneg (by omega), Int.toNat_of_nonneg (by omega)]
  omega
theorem fc_rng {la hd th low high ord b : Int} (hl : -1 ≤ low ∧ low ≤ 1000) (hh : -1 ≤ high ∧ high ≤ 1000) (hb : -3000000000 ≤ b ∧ b ≤ 3000000000) :
    (-100000000000 ≤ b + flo la hd th low high ord b + cpo la hd th low high ord b ∧ b + flo la hd th low high ord b + cpo la hd th low high ord b ≤ 100000000000) ∧ (-200000000000 ≤ flo la hd th low high ord b ∧ flo la hd th low high ord b ≤ 200000000000) ∧ (-200000000000 ≤ cpo la hd th low high ord b ∧ cpo la hd th low high ord b ≤ 200000000000) := by
  have m1 := mul_rng2 (A := 10000000000) (B := 1000) (bsV_rng la hd th) (y := low) (by omega)
  have m2 := mul_rng2 (A := 10000000000) (B := 1000) (bsV_rng la hd th) (y := high) (by omega)
  have t1 := tdiv_rng (y := 100) (B := 10000000000 * 1000) m1
  have t2 := tdiv_rng (y := 100) (B := 10000000000 * 1000) m2
  have u1 : -100000000000 ≤ (bsV la hd th * low).tdiv 100 ∧ (bsV la hd th * low).tdiv 100 ≤ 100000000000 := by
    have e : ((bsV la hd th * low).tdiv 100).natAbs = (bsV la hd th * low).natAbs / 100 := by rw [Int.natAbs_tdiv]; rfl
    omega
  have u2 : -100000000000 ≤ (bsV la hd th * high).tdiv 100 ∧ (bsV la hd th * high).tdiv 100 ≤ 100000000000 := by
    have e : ((bsV la hd th * high).tdiv 100).natAbs = (bsV la hd th * high).natAbs / 100 := by rw [Int.natAbs_tdiv]; rfl
    omega
  unfold flo cpo
  by_cases c : la = 0 ∨ th = 0
  · rw [if_pos c, if_pos c]; omega
  rw [if_neg c, if_neg c]
  by_cases o : ord = 1
  · rw [if_pos o, if_pos o]
    have c1 := cpV_c high (bsV la hd th) b
    have c2 := lfV_c low (bsV la hd th) (b + cpV high (bsV la hd th) b)
    generalize (bsV la hd th * low).tdiv 100 = X at *
    generalize (bsV la hd th * high).tdiv 100 = Y at *
    generalize lfV low (bsV la hd th) (b + cpV high (bsV la hd th) b) = P at *
    generalize cpV high (bsV la hd th) b = Q at *
    clear m1 m2 t1 t2
    omega
  · rw [if_neg o, if_neg o]
    have c1 := lfV_c low (bsV la hd th) b
    have c2 := cpV_c high (bsV la hd th) (b + lfV low (bsV la hd th) b)
    generalize (bsV la hd th * low).tdiv 100 = X at *
    generalize (bsV la hd th * high).tdiv 100 = Y at *
    generalize cpV high (bsV la hd th) (b + lfV low (bsV la hd th) b) = P at *
    generalize lfV low (bsV la hd th) b = Q at *
    clear m1 m2 t1 t2
    omega
/-- a part of the rest -/
theorem sha_rng {r p a : Int} (hp : 0 ≤ p ∧ p ≤ a) : ((r * p).tdiv a).natAbs ≤ r.natAbs := by
  rw [Int.natAbs_tdiv, Int.natAbs_mul]
  by_cases h : a = 0
  · have : p = 0 := by omega
    rw [this]
    show r.natAbs * 0 / a.natAbs ≤ r.natAbs
    rw [Nat.mul_zero, Nat.zero_div]
    exact Nat.zero_le _
  · refine Nat.div_le_of_le_mul ?_
    rw [Nat.mul_comm a.natAbs]
    exact Nat.mul_le_mul (Nat.le_refl _) (by omega)
theorem sm_mul (c : Int) (f : Nat → Int) (k : Nat) : sm (fun j => c * f j) k = c * sm f k := by
  induction k with
  | zero => simp [sm]
  | succ k ih => rw [sm_s, sm_s, ih, Int.mul_add]
theorem sm_add (f g : Nat → Int) (k : Nat) : sm (fun j => f j + g j) k = sm f k + sm g k := by
  induction k with
  | zero => rfl
  | succ k ih => rw [sm_s, sm_s, sm_s, ih]; omega
/-- what is left over is less than the parts that there are -/
theorem lef_rng (r a : Int) (p : Nat → Int) (n : Nat) (hp : ∀ j, j < n → 0 ≤ p j) (ha : sm p n = a) (h0 : 0 < a) : ((r - sm (fun j => (r * p j).tdiv a) n).natAbs : Int) < sm (fun j => one (0 < p j)) n := by
  have hrem : ∀ k, k ≤ n → ((sm (fun j => (r * p j).tmod a) k).natAbs : Int) ≤ (a - 1) * sm (fun j => one (0 < p j)) k := by
    intro k
    induction k with
    | zero => intro _; simp [sm]
    | succ k ih =>
      intro hk
      have h1 := ih (by omega)
      rw [sm_s, sm_s, Int.mul_add]
      have h2 : (((r * p k).tmod a).natAbs : Int) ≤ (a - 1) * one (0 < p k) := by
        by_cases hc : 0 < p k
        · rw [one_t hc, Int.mul_one]
          have : ((r * p k).tmod a).natAbs < a.natAbs := by rw [Int.natAbs_tmod]; exact Nat.mod_lt _ (by omega)
          omega
        · have : p k = 0 := by have := hp k (by omega); omega
          rw [one_f hc, this]; simp
      have h3 : ((sm (fun j => (r * p j).tmod a) k + (r * p k).tmod a).natAbs) ≤ (sm (fun j => (r * p j).tmod a) k).natAbs + ((r * p k).tmod a).natAbs := Int.natAbs_add_le _ _
      omega
  have hid : a * (r - sm (fun j => (r * p j).tdiv a) n) = sm (fun j => (r * p j).tmod a) n := by
    have e1 : sm (fun j => a * ((r * p j).tdiv a) + (r * p j).tmod a) n = sm (fun j => r * p j) n := sm_congr n (fun j _ => Int.mul_tdiv_add_tmod _ _)
    rw [sm_add, sm_mul, sm_mul, ha] at e1
    rw [Int.mul_sub, Int.mul_comm a r]
    omega
  have h1 := hrem n (Nat.le_refl _)
  rw [← hid, Int.natAbs_mul, Int.natCast_mul] at h1
  have hc0 : 0 ≤ sm (fun j => one (0 < p j)) n := by
    have := sm_rng (f := fun j => one (0 < p j)) 0 1 n (fun j _ => one_rng _)
    omega
  have hcp : 0 < sm (fun j => one (0 < p j)) n := by
    by_cases hz : sm (fun j => one (0 < p j)) n = 0
    · exfalso
      have key : ∀ k, k ≤ n → sm (fun j => one (0 < p j)) k = 0 → sm p k = 0 := by
        intro k
        induction k with
        | zero => intro _ _; rfl
        | succ k ih =>
          intro hk hs
          rw [sm_s] at hs ⊢
          have q1 := sm_rng (f := fun j => one (0 < p j)) 0 1 k (fun j _ => one_rng _)
          have q2 := one_rng (0 < p k)
          have q3 : one (0 < p k) = 0 := by omega
          have q4 := one_0.mp q3
          have q5 := hp k (by omega)
          rw [ih (by omega) (by omega)]
          omega
      have := key n (Nat.le_refl _) hz
      omega
    · omega
  by_cases hlt : ((r - sm (fun j => (r * p j).tdiv a) n).natAbs : Int) < sm (fun j => one (0 < p j)) n
  · exact hlt
  · exfalso
    have ea : ((a.natAbs : Nat) : Int) = a := by omega
    rw [ea] at h1
    have h4 : a * sm (fun j => one (0 < p j)) n ≤ a * ((r - sm (fun j => (r * p j).tdiv a) n).natAbs : Int) := Int.mul_le_mul_of_nonneg_left (by omega) (by omega)
    have h5 : (a - 1) * sm (fun j => one (0 < p j)) n = a * sm (fun j => one (0 < p j)) n - sm (fun j => one (0 < p j)) n := by rw [Int.sub_mul, Int.one_mul]
    omega
end BD
