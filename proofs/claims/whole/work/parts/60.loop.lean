/-! the law's loop, out of a statement for each call (wip/gen_loop.py) -/
/-- a call: class and reference answer alike, and what holds of the memory holds again -/
def OpOk {α : Type} (Inv : Nat → vm_M → Prop) (fc fr : vm_M → Option (α × vm_M)) : Prop := ∀ (c : Nat) (M : vm_M), c < 512 → Inv c M → ∃ (x : α) (M1 M2 : vm_M), fc M = some (x, M1) ∧ Sh M1 ∧ fr M1 = some (x, M2) ∧ Inv (c + 1) M2
def wh_3 : Option Nat := (s_no vm_M0 10).bind fun M1 => (f73 0 M1).map vm_n
theorem wh_p3 : wh_3 = some 55 := by decide +kernel
theorem sc_rd {L : Nat} {xs : Nat → Int32} {x : Int32} {k : Nat} (hx : x.toInt = (k : Int)) (hk : k < L) : s_sc L xs x = some (xs k) := by
  unfold s_sc
  have e : x.toNatClampNeg = k := by
    show x.toInt.toNat = k
    omega
  rw [if_pos (by omega), e]
theorem sc_ad {x c : Int32} {k j : Nat} (hx : x.toInt = (k : Int)) (hc : c.toInt = (j : Int)) (h : k + j < 2147483648) : (x + c).toInt = ((k + j : Nat) : Int) := by
  rw [Int32.toInt_add, hx, hc, show ((k : Int) + (j : Int)) = ((k + j : Nat) : Int) by omega]
  rw [Int.bmod_eq_of_le (by omega) (by omega)]
theorem lg_cmp_self (x : Int64) : lg_cmp x x = 0 := by simp [lg_cmp]
set_option maxHeartbeats 4000000 in
theorem wh_loop {L : Nat} (xs : Nat → Int32) (hL : L ≤ 3072) {Inv : Nat → vm_M → Prop} (hSh : ∀ c M, Inv c M → Sh M) (hup : ∀ c M, Inv c M → Inv (c + 1) M) (o0 : ∀ a0, OpOk Inv (f74 0 a0) (f117 55 a0)) (o1 : ∀ a0 a1 a2, OpOk Inv (f75 0 a0 a1 a2) (f119 55 a0 a1 a2)) (o2 : ∀ a0 a1, OpOk Inv (f76 0 a0 a1) (f120 55 a0 a1)) (o3 : ∀ a0 a1 a2, OpOk Inv (f77 0 a0 a1 a2) (f121 55 a0 a1 a2)) (o4 : ∀ a0 a1, OpOk Inv (f78 0 a0 a1) (f124 55 a0 a1)) (o5 : ∀ a0 a1 a2 a3, OpOk Inv (f79 0 a0 a1 a2 a3) (f125 55 a0 a1 a2 a3)) (o6 : ∀ a0 a1 a2 a3, OpOk Inv (f80 0 a0 a1 a2 a3) (f127 55 a0 a1 a2 a3)) (o7 : ∀ a0 a1 a2, OpOk Inv (f81 0 a0 a1 a2) (f129 55 a0 a1 a2)) (o8 : ∀ a0 a1, OpOk Inv (f82 0 a0 a1) (f130 55 a0 a1)) (o9 : ∀ a0 a1 a2 a3 a4, OpOk Inv (f83 0 a0 a1 a2 a3 a4) (f134 55 a0 a1 a2 a3 a4)) (o10 : ∀ a0 a1, OpOk Inv (f84 0 a0 a1) (f157 55 a0 a1)) (o11 : ∀ a0, OpOk Inv (f85 0 a0) (f158 55 a0)) (o12 : OpOk Inv (f86 0) (f159 55)) (o13 : ∀ a0 a1 a2, OpOk Inv (f87 0 a0 a1 a2) (f164 55 a0 a1 a2)) (o14 : ∀ a0 a1 a2, OpOk Inv (f88 0 a0 a1 a2) (f178 55 a0 a1 a2)) (o15 : ∀ a0 a1 a2, OpOk Inv (f89 0 a0 a1 a2) (f183 55 a0 a1 a2)) (o16 : ∀ a0 a1, OpOk Inv (f90 0 a0 a1) (f182 55 a0 a1)) (o17 : ∀ a0 a1, OpOk Inv (f91 0 a0 a1) (f179 55 a0 a1)) (o18 : ∀ a0 a1 a2 a3 a4, OpOk Inv (f92 0 a0 a1 a2 a3 a4) (f184 55 a0 a1 a2 a3 a4)) (o19 : ∀ a0 a1, OpOk Inv (f93 0 a0 a1) (f185 55 a0 a1)) (o20 : ∀ a0, OpOk Inv (f94 0 a0) (f186 55 a0)) (o21 : ∀ a0 a1, OpOk Inv (f95 0 a0 a1) (f188 55 a0 a1)) (o22 : ∀ a0, OpOk Inv (f96 0 a0) (f189 55 a0)) (o23 : ∀ a0 a1 a2, OpOk Inv (f97 0 a0 a1 a2) (f190 55 a0 a1 a2)) (o24 : ∀ a0 a1 a2 a3 a4, OpOk Inv (f98 0 a0 a1 a2 a3 a4) (f191 55 a0 a1 a2 a3 a4)) (o25 : ∀ a0 a1 a2 a3, OpOk Inv (f99 0 a0 a1 a2 a3) (f192 55 a0 a1 a2 a3)) (o26 : ∀ a0 a1, OpOk Inv (f100 0 a0 a1) (f195 55 a0 a1)) (o27 : ∀ a0, OpOk Inv (f101 0 a0) (f197 55 a0)) :
    ∀ (n i : Nat) (x3 : Int32) (M : vm_M), x3.toInt = ((6 * i : Nat) : Int) → 6 * i ≤ L → 512 < n + i → Inv i M → ∃ (r : Int32 × vm_M) (c : Nat), f203_l18 L xs () 0 55 n x3 M = some r ∧ r.1 = 1 ∧ c ≤ 512 ∧ Inv c r.2 := by
  intro n
  induction n with
  | zero =>
    intro i x3 M hx hi hn
    omega
  | succ n ih =>
    intro i x3 M hx hi hn hI
    dsimp only [f203_l18]
    have hLt : (Int32.ofNat L).toInt = (L : Int) := Int32.toInt_ofNat_of_lt (by omega)
    have hL6 : ((Int32.ofNat L) - 6).toInt = (L : Int) - 6 := by
      rw [Int32.toInt_sub, hLt, show (6 : Int32).toInt = 6 from rfl]
      rw [Int.bmod_eq_of_le (by omega) (by omega)]
    by_cases hend : ((Int32.ofNat L) - 6) < x3
    · rw [if_pos hend]
      exact ⟨(1, M), i, rb1, rfl, by omega, hI⟩
    rw [if_neg hend]
    have hle : (6 * i : Nat) + 6 ≤ L := by
      have := mt Int32.lt_iff_toInt_lt.mpr hend
      rw [hL6, hx] at this
      omega
    have hS := hSh _ _ hI
    have r0 : s_sc L xs x3 = some (xs (6 * i)) := sc_rd hx (by omega)
    have r1 : s_sc L xs (x3 + 1) = some (xs (6 * i + 1)) := sc_rd (sc_ad hx (j := 1) rfl (by omega)) (by omega)
    have r2 : s_sc L xs (x3 + 2) = some (xs (6 * i + 2)) := sc_rd (sc_ad hx (j := 2) rfl (by omega)) (by omega)
    have r3 : s_sc L xs (x3 + 3) = some (xs (6 * i + 3)) := sc_rd (sc_ad hx (j := 3) rfl (by omega)) (by omega)
    have r4 : s_sc L xs (x3 + 4) = some (xs (6 * i + 4)) := sc_rd (sc_ad hx (j := 4) rfl (by omega)) (by omega)
    have r5 : s_sc L xs (x3 + 5) = some (xs (6 * i + 5)) := sc_rd (sc_ad hx (j := 5) rfl (by omega)) (by omega)
    have hx6 : (x3 + 6).toInt = ((6 * (i + 1) : Nat) : Int) := by rw [sc_ad hx (j := 6) rfl (by omega)]; congr 1
    rw [r0, ob_s]
    by_cases h0 : (xs (6 * i) &&& 31) = 0
    · obtain ⟨x, M1, M2, e1, s1, e2, i2⟩ := o0 (xs (6 * i + 1)) i M (by omega) hI
      rw [if_pos h0]
      simp only [r1, ob_s, cob0 hS, cob55 s1, e1, e2]
      exact ih (i + 1) (x3 + 6) M2 hx6 (by omega) (by omega) i2
    rw [if_neg h0]
    by_cases h1 : (xs (6 * i) &&& 31) = 1
    · obtain ⟨x, M1, M2, e1, s1, e2, i2⟩ := o1 (xs (6 * i + 1)) (xs (6 * i + 2)) (xs (6 * i + 3)) i M (by omega) hI
      rw [if_pos h1]
      simp only [r1, r2, r3, ob_s, cob0 hS, cob55 s1, e1, e2]
      exact ih (i + 1) (x3 + 6) M2 hx6 (by omega) (by omega) i2
    rw [if_neg h1]
    by_cases h2 : (xs (6 * i) &&& 31) = 2
    · obtain ⟨x, M1, M2, e1, s1, e2, i2⟩ := o2 (xs (6 * i + 1)) (xs (6 * i + 2)) i M (by omega) hI
      rw [if_pos h2]
      simp only [r1, r2, ob_s, cob0 hS, cob55 s1, e1, e2]
      exact ih (i + 1) (x3 + 6) M2 hx6 (by omega) (by omega) i2
    rw [if_neg h2]
    by_cases h3 : (xs (6 * i) &&& 31) = 3
    · obtain ⟨x, M1, M2, e1, s1, e2, i2⟩ := o3 (xs (6 * i + 1)) (xs (6 * i + 2)) (xs (6 * i + 3)) i M (by omega) hI
      rw [if_pos h3]
      simp only [r1, r2, r3, ob_s, cob0 hS, cob55 s1, e1, e2]
      exact ih (i + 1) (x3 + 6) M2 hx6 (by omega) (by omega) i2
    rw [if_neg h3]
    by_cases h4 : (xs (6 * i) &&& 31) = 4
    · obtain ⟨x, M1, M2, e1, s1, e2, i2⟩ := o4 (xs (6 * i + 1)) (xs (6 * i + 2)) i M (by omega) hI
      rw [if_pos h4]
      simp only [r1, r2, ob_s, cob0 hS, cob55 s1, e1, e2]
      exact ih (i + 1) (x3 + 6) M2 hx6 (by omega) (by omega) i2
    rw [if_neg h4]
    by_cases h5 : (xs (6 * i) &&& 31) = 5
    · obtain ⟨x, M1, M2, e1, s1, e2, i2⟩ := o5 (xs (6 * i + 1)) (xs (6 * i + 2)) (xs (6 * i + 3)) (xs (6 * i + 4)) i M (by omega) hI
      rw [if_pos h5]
      simp only [r1, r2, r3, r4, ob_s, cob0 hS, cob55 s1, e1, e2]
      exact ih (i + 1) (x3 + 6) M2 hx6 (by omega) (by omega) i2
    rw [if_neg h5]
    by_cases h6 : (xs (6 * i) &&& 31) = 6
    · obtain ⟨x, M1, M2, e1, s1, e2, i2⟩ := o6 (xs (6 * i + 1)) (xs (6 * i + 2)) (xs (6 * i + 3)) (xs (6 * i + 4)) i M (by omega) hI
      rw [if_pos h6]
      simp only [r1, r2, r3, r4, ob_s, cob0 hS, cob55 s1, e1, e2]
      exact ih (i + 1) (x3 + 6) M2 hx6 (by omega) (by omega) i2
    rw [if_neg h6]
    by_cases h7 : (xs (6 * i) &&& 31) = 7
    · obtain ⟨x, M1, M2, e1, s1, e2, i2⟩ := o7 (xs (6 * i + 1)) (xs (6 * i + 2)) (xs (6 * i + 3)) i M (by omega) hI
      rw [if_pos h7]
      simp only [r1, r2, r3, ob_s, cob0 hS, cob55 s1, e1, e2]
      exact ih (i + 1) (x3 + 6) M2 hx6 (by omega) (by omega) i2
    rw [if_neg h7]
    by_cases h8 : (xs (6 * i) &&& 31) = 8
    · obtain ⟨x, M1, M2, e1, s1, e2, i2⟩ := o8 (xs (6 * i + 1)) (xs (6 * i + 2)) i M (by omega) hI
      rw [if_pos h8]
      simp only [r1, r2, ob_s, cob0 hS, cob55 s1, e1, e2]
      exact ih (i + 1) (x3 + 6) M2 hx6 (by omega) (by omega) i2
    rw [if_neg h8]
    by_cases h9 : (xs (6 * i) &&& 31) = 9
    · obtain ⟨x, M1, M2, e1, s1, e2, i2⟩ := o9 (xs (6 * i + 1)) (xs (6 * i + 2)) (xs (6 * i + 3)) (xs (6 * i + 4)) (xs (6 * i + 5)) i M (by omega) hI
      rw [if_pos h9]
      simp only [r1, r2, r3, r4, r5, ob_s, cob0 hS, cob55 s1, e1, e2]
      exact ih (i + 1) (x3 + 6) M2 hx6 (by omega) (by omega) i2
    rw [if_neg h9]
    by_cases h10 : (xs (6 * i) &&& 31) = 10
    · obtain ⟨x, M1, M2, e1, s1, e2, i2⟩ := o10 (xs (6 * i + 1)) (xs (6 * i + 2)) i M (by omega) hI
      rw [if_pos h10]
      simp only [r1, r2, ob_s, cob0 hS, cob55 s1, e1, e2]
      exact ih (i + 1) (x3 + 6) M2 hx6 (by omega) (by omega) i2
    rw [if_neg h10]
    by_cases h11 : (xs (6 * i) &&& 31) = 11
    · obtain ⟨x, M1, M2, e1, s1, e2, i2⟩ := o11 (xs (6 * i + 1)) i M (by omega) hI
      rw [if_pos h11]
      simp only [r1, ob_s, cob0 hS, cob55 s1, e1, e2]
      exact ih (i + 1) (x3 + 6) M2 hx6 (by omega) (by omega) i2
    rw [if_neg h11]
    by_cases h12 : (xs (6 * i) &&& 31) = 12
    · obtain ⟨x, M1, M2, e1, s1, e2, i2⟩ := o12 i M (by omega) hI
      rw [if_pos h12]
      simp only [ob_s, cob0 hS, cob55 s1, e1, e2]
      exact ih (i + 1) (x3 + 6) M2 hx6 (by omega) (by omega) i2
    rw [if_neg h12]
    by_cases h13 : (xs (6 * i) &&& 31) = 13
    · obtain ⟨x, M1, M2, e1, s1, e2, i2⟩ := o13 (xs (6 * i + 1)) (xs (6 * i + 2)) (xs (6 * i + 3)) i M (by omega) hI
      rw [if_pos h13]
      simp only [r1, r2, r3, ob_s, cob0 hS, cob55 s1, e1, e2]
      exact ih (i + 1) (x3 + 6) M2 hx6 (by omega) (by omega) i2
    rw [if_neg h13]
    by_cases h14 : (xs (6 * i) &&& 31) = 14
    · obtain ⟨x, M1, M2, e1, s1, e2, i2⟩ := o14 (xs (6 * i + 1)) (xs (6 * i + 2)) (xs (6 * i + 3)) i M (by omega) hI
      rw [if_pos h14]
      simp only [r1, r2, r3, ob_s, cob0 hS, cob55 s1, e1, e2, lg_cmp_self]
      exact ih (i + 1) (x3 + 6) M2 hx6 (by omega) (by omega) i2
    rw [if_neg h14]
    by_cases h15 : (xs (6 * i) &&& 31) = 15
    · obtain ⟨x, M1, M2, e1, s1, e2, i2⟩ := o15 (xs (6 * i + 1)) (xs (6 * i + 2)) (xs (6 * i + 3)) i M (by omega) hI
      rw [if_pos h15]
      simp only [r1, r2, r3, ob_s, cob0 hS, cob55 s1, e1, e2, lg_cmp_self]
      exact ih (i + 1) (x3 + 6) M2 hx6 (by omega) (by omega) i2
    rw [if_neg h15]
    by_cases h16 : (xs (6 * i) &&& 31) = 16
    · obtain ⟨x, M1, M2, e1, s1, e2, i2⟩ := o16 (xs (6 * i + 1)) (xs (6 * i + 2)) i M (by omega) hI
      rw [if_pos h16]
      simp only [r1, r2, ob_s, cob0 hS, cob55 s1, e1, e2, lg_cmp_self]
      exact ih (i + 1) (x3 + 6) M2 hx6 (by omega) (by omega) i2
    rw [if_neg h16]
    by_cases h17 : (xs (6 * i) &&& 31) = 17
    · obtain ⟨x, M1, M2, e1, s1, e2, i2⟩ := o17 (xs (6 * i + 1)) (xs (6 * i + 2)) i M (by omega) hI
      rw [if_pos h17]
      simp only [r1, r2, ob_s, cob0 hS, cob55 s1, e1, e2, lg_cmp_self]
      exact ih (i + 1) (x3 + 6) M2 hx6 (by omega) (by omega) i2
    rw [if_neg h17]
    by_cases h18 : (xs (6 * i) &&& 31) = 18
    · obtain ⟨x, M1, M2, e1, s1, e2, i2⟩ := o18 (xs (6 * i + 1)) (xs (6 * i + 2)) (xs (6 * i + 3)) (xs (6 * i + 4)) (xs (6 * i + 5)) i M (by omega) hI
      rw [if_pos h18]
      simp only [r1, r2, r3, r4, r5, ob_s, cob0 hS, cob55 s1, e1, e2]
      exact ih (i + 1) (x3 + 6) M2 hx6 (by omega) (by omega) i2
    rw [if_neg h18]
    by_cases h19 : (xs (6 * i) &&& 31) = 19
    · obtain ⟨x, M1, M2, e1, s1, e2, i2⟩ := o19 (xs (6 * i + 1)) (xs (6 * i + 2)) i M (by omega) hI
      rw [if_pos h19]
      simp only [r1, r2, ob_s, cob0 hS, cob55 s1, e1, e2]
      exact ih (i + 1) (x3 + 6) M2 hx6 (by omega) (by omega) i2
    rw [if_neg h19]
    by_cases h20 : (xs (6 * i) &&& 31) = 20
    · obtain ⟨x, M1, M2, e1, s1, e2, i2⟩ := o20 (xs (6 * i + 1)) i M (by omega) hI
      rw [if_pos h20]
      simp only [r1, ob_s, cob0 hS, cob55 s1, e1, e2]
      exact ih (i + 1) (x3 + 6) M2 hx6 (by omega) (by omega) i2
    rw [if_neg h20]
    by_cases h21 : (xs (6 * i) &&& 31) = 21
    · obtain ⟨x, M1, M2, e1, s1, e2, i2⟩ := o21 (xs (6 * i + 1)) (xs (6 * i + 2)) i M (by omega) hI
      rw [if_pos h21]
      simp only [r1, r2, ob_s, cob0 hS, cob55 s1, e1, e2, lg_cmp_self]
      exact ih (i + 1) (x3 + 6) M2 hx6 (by omega) (by omega) i2
    rw [if_neg h21]
    by_cases h22 : (xs (6 * i) &&& 31) = 22
    · obtain ⟨x, M1, M2, e1, s1, e2, i2⟩ := o22 (xs (6 * i + 1)) i M (by omega) hI
      rw [if_pos h22]
      simp only [r1, ob_s, cob0 hS, cob55 s1, e1, e2]
      exact ih (i + 1) (x3 + 6) M2 hx6 (by omega) (by omega) i2
    rw [if_neg h22]
    by_cases h23 : (xs (6 * i) &&& 31) = 23
    · obtain ⟨x, M1, M2, e1, s1, e2, i2⟩ := o23 (xs (6 * i + 1)) (xs (6 * i + 2)) (xs (6 * i + 3)) i M (by omega) hI
      rw [if_pos h23]
      simp only [r1, r2, r3, ob_s, cob0 hS, cob55 s1, e1, e2, lg_cmp_self]
      exact ih (i + 1) (x3 + 6) M2 hx6 (by omega) (by omega) i2
    rw [if_neg h23]
    by_cases h24 : (xs (6 * i) &&& 31) = 24
    · obtain ⟨x, M1, M2, e1, s1, e2, i2⟩ := o24 (xs (6 * i + 1)) (xs (6 * i + 2)) (xs (6 * i + 3)) (xs (6 * i + 4)) (xs (6 * i + 5)) i M (by omega) hI
      rw [if_pos h24]
      simp only [r1, r2, r3, r4, r5, ob_s, cob0 hS, cob55 s1, e1, e2, lg_cmp_self]
      exact ih (i + 1) (x3 + 6) M2 hx6 (by omega) (by omega) i2
    rw [if_neg h24]
    by_cases h25 : (xs (6 * i) &&& 31) = 25
    · obtain ⟨x, M1, M2, e1, s1, e2, i2⟩ := o25 (xs (6 * i + 1)) (xs (6 * i + 2)) (xs (6 * i + 3)) (xs (6 * i + 4)) i M (by omega) hI
      rw [if_pos h25]
      simp only [r1, r2, r3, r4, ob_s, cob0 hS, cob55 s1, e1, e2]
      exact ih (i + 1) (x3 + 6) M2 hx6 (by omega) (by omega) i2
    rw [if_neg h25]
    by_cases h26 : (xs (6 * i) &&& 31) = 26
    · obtain ⟨x, M1, M2, e1, s1, e2, i2⟩ := o26 (xs (6 * i + 1)) (xs (6 * i + 2)) i M (by omega) hI
      rw [if_pos h26]
      simp only [r1, r2, ob_s, cob0 hS, cob55 s1, e1, e2]
      exact ih (i + 1) (x3 + 6) M2 hx6 (by omega) (by omega) i2
    rw [if_neg h26]
    by_cases h27 : (xs (6 * i) &&& 31) = 27
    · obtain ⟨x, M1, M2, e1, s1, e2, i2⟩ := o27 (xs (6 * i + 1)) i M (by omega) hI
      rw [if_pos h27]
      simp only [r1, ob_s, cob0 hS, cob55 s1, e1, e2]
      exact ih (i + 1) (x3 + 6) M2 hx6 (by omega) (by omega) i2
    rw [if_neg h27]
    exact ih (i + 1) (x3 + 6) M hx6 (by omega) (by omega) (hup _ _ hI)
/-- all that is left: a predicate on the memory, and a statement for each call -/
theorem wh_pure_of {L : Nat} (xs : Nat → Int32) (hL : L ≤ 3072) {Inv : Nat → vm_M → Prop} (hSh : ∀ c M, Inv c M → Sh M) (hup : ∀ c M, Inv c M → Inv (c + 1) M) (h0 : Inv 0 wh_M) (hb : ∀ c M, c ≤ 512 → Inv c M → vm_n M ≤ 600000 ∧ vm_s M ≤ 7302250) (o0 : ∀ a0, OpOk Inv (f74 0 a0) (f117 55 a0)) (o1 : ∀ a0 a1 a2, OpOk Inv (f75 0 a0 a1 a2) (f119 55 a0 a1 a2)) (o2 : ∀ a0 a1, OpOk Inv (f76 0 a0 a1) (f120 55 a0 a1)) (o3 : ∀ a0 a1 a2, OpOk Inv (f77 0 a0 a1 a2) (f121 55 a0 a1 a2)) (o4 : ∀ a0 a1, OpOk Inv (f78 0 a0 a1) (f124 55 a0 a1)) (o5 : ∀ a0 a1 a2 a3, OpOk Inv (f79 0 a0 a1 a2 a3) (f125 55 a0 a1 a2 a3)) (o6 : ∀ a0 a1 a2 a3, OpOk Inv (f80 0 a0 a1 a2 a3) (f127 55 a0 a1 a2 a3)) (o7 : ∀ a0 a1 a2, OpOk Inv (f81 0 a0 a1 a2) (f129 55 a0 a1 a2)) (o8 : ∀ a0 a1, OpOk Inv (f82 0 a0 a1) (f130 55 a0 a1)) (o9 : ∀ a0 a1 a2 a3 a4, OpOk Inv (f83 0 a0 a1 a2 a3 a4) (f134 55 a0 a1 a2 a3 a4)) (o10 : ∀ a0 a1, OpOk Inv (f84 0 a0 a1) (f157 55 a0 a1)) (o11 : ∀ a0, OpOk Inv (f85 0 a0) (f158 55 a0)) (o12 : OpOk Inv (f86 0) (f159 55)) (o13 : ∀ a0 a1 a2, OpOk Inv (f87 0 a0 a1 a2) (f164 55 a0 a1 a2)) (o14 : ∀ a0 a1 a2, OpOk Inv (f88 0 a0 a1 a2) (f178 55 a0 a1 a2)) (o15 : ∀ a0 a1 a2, OpOk Inv (f89 0 a0 a1 a2) (f183 55 a0 a1 a2)) (o16 : ∀ a0 a1, OpOk Inv (f90 0 a0 a1) (f182 55 a0 a1)) (o17 : ∀ a0 a1, OpOk Inv (f91 0 a0 a1) (f179 55 a0 a1)) (o18 : ∀ a0 a1 a2 a3 a4, OpOk Inv (f92 0 a0 a1 a2 a3 a4) (f184 55 a0 a1 a2 a3 a4)) (o19 : ∀ a0 a1, OpOk Inv (f93 0 a0 a1) (f185 55 a0 a1)) (o20 : ∀ a0, OpOk Inv (f94 0 a0) (f186 55 a0)) (o21 : ∀ a0 a1, OpOk Inv (f95 0 a0 a1) (f188 55 a0 a1)) (o22 : ∀ a0, OpOk Inv (f96 0 a0) (f189 55 a0)) (o23 : ∀ a0 a1 a2, OpOk Inv (f97 0 a0 a1 a2) (f190 55 a0 a1 a2)) (o24 : ∀ a0 a1 a2 a3 a4, OpOk Inv (f98 0 a0 a1 a2 a3 a4) (f191 55 a0 a1 a2 a3 a4)) (o25 : ∀ a0 a1 a2 a3, OpOk Inv (f99 0 a0 a1 a2 a3) (f192 55 a0 a1 a2 a3)) (o26 : ∀ a0 a1, OpOk Inv (f100 0 a0 a1) (f195 55 a0 a1)) (o27 : ∀ a0, OpOk Inv (f101 0 a0) (f197 55 a0)) :
    ∃ r, f203 L xs () vm_M0 = some r ∧ r.1 = 1 ∧ vm_n r.2 ≤ 600000 ∧ vm_s r.2 ≤ 7302250 := by
  obtain ⟨r, c, h1, h2, h3, h4⟩ := wh_loop xs hL hSh hup o0 o1 o2 o3 o4 o5 o6 o7 o8 o9 o10 o11 o12 o13 o14 o15 o16 o17 o18 o19 o20 o21 o22 o23 o24 o25 o26 o27 100000 0 0 wh_M rfl (Nat.zero_le _) (by omega) h0
  refine ⟨r, ?_, h2, (hb c _ h3 h4).1, (hb c _ h3 h4).2⟩
  have e := wh_ini_eq
  unfold wh_ini at e
  obtain ⟨M1, e1, e⟩ := bind_so e
  obtain ⟨p3, e2, e⟩ := bind_so e
  obtain ⟨M7, e3, e⟩ := bind_so e
  have n3 : vm_n p3 = 55 := by
    have := wh_p3
    unfold wh_3 at this
    rw [e1, ob_s, e2] at this
    exact Option.some.inj this
  unfold f203
  rw [e1, ob_s]
  show (f73 0 M1).bind _ = _
  rw [e2, ob_s, e3, ob_s, e, ob_s, n3]
  exact h1
