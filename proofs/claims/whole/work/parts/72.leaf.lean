/-! isYear, isDay, isSchool, isOpen: closed forms -/
theorem rb_ite {c : Prop} [Decidable c] {M : vm_M} : s_rb (if c then 1 else 0) M = some (if c then 1 else 0, M) := by
  split
  · exact rb1
  · exact rb0
theorem f103_eq (a : Int32) (M : vm_M) : f103 a M = some (if 0 ≤ a.toInt ∧ a.toInt < 10 then 1 else 0, M) := by
  unfold f103
  rw [f102_eq, ob_s]
  exact rb_ite
theorem f115_eq (a : Int32) (M : vm_M) : f115 a M = some (if 0 ≤ a.toInt ∧ a.toInt ≤ 9 then 1 else 0, M) := by
  unfold f115
  rw [f112_eq, ob_s]
  exact rb_ite
theorem f114_eq (a : Int32) (M : vm_M) : f114 a M = some (if 0 ≤ a.toInt ∧ a.toInt ≤ 999 then 1 else 0, M) := by
  unfold f114
  rw [f112_eq, ob_s]
  exact rb_ite
theorem f104_eq (a : Int32) (M : vm_M) : f104 a M = some (if 0 ≤ a.toInt ∧ a.toInt ≤ 999 then 1 else 0, M) := by
  unfold f104
  have e0 : (0 : Int32).toInt = 0 := rfl
  have e9 : (999 : Int32).toInt = 999 := rfl
  by_cases h1 : a < 0
  · rw [if_pos h1, rb0, if_neg]
    have := I_lt.mp h1
    omega
  · rw [if_neg h1]
    have h1' := mt I_lt.mpr h1
    by_cases h2 : 999 < a
    · rw [if_pos h2, rb0, if_neg]
      have := I_lt.mp h2
      omega
    · rw [if_neg h2, rb1, if_pos]
      have := mt I_lt.mpr h2
      omega
theorem f105_eq {M : vm_M} (h : Sh M) (a : Int32) : f105 0 a M = some (if 0 ≤ a.toInt ∧ a.toInt < (vm_i M 1 7).toInt then 1 else 0, M) := by
  unfold f105
  rw [cr0_0 h, ob_s, ob_s, ci1 h, ob_s, f102_eq, ob_s]
  exact rb_ite
/-- Land.isOpen, of a number from 0 on -/
theorem f2_eq {M : vm_M} (h : Sh M) (s y : Int32) (hs : (vm_i M 1 7).toInt ≤ 12) (h0 : 0 ≤ s.toInt) : f2 1 s y M = some (if s.toInt < (vm_i M 1 7).toInt ∧ y.toInt < (vm_i M 6 s.toNatClampNeg).toInt then 1 else 0, M) := by
  unfold f2
  rw [ci1 h, ob_s]
  by_cases h1 : vm_i M 1 7 ≤ s
  · rw [if_pos h1, rb0, if_neg]
    have := I_le.mp h1
    omega
  · have h1' := mt I_le.mpr h1
    rw [if_neg h1, cr1_4 h, ob_s, ob_s, ca6 h (by omega), ob_s]
    by_cases h2 : vm_i M 6 s.toNatClampNeg ≤ y
    · rw [if_pos h2, rb0, if_neg]
      have := I_le.mp h2
      omega
    · rw [if_neg h2, rb1, if_pos]
      have := mt I_le.mpr h2
      omega
theorem f3_eq {M : vm_M} (h : Sh M) (s : Int32) (h0 : 0 ≤ s.toInt ∧ s.toInt < 12) : f3 1 s M = some (if (vm_i M 6 s.toNatClampNeg).toInt < 10 then 1 else 0, M) := by
  unfold f3
  have e : (10 : Int32).toInt = 10 := rfl
  rw [cr1_4 h, ob_s, ob_s, ca6 h h0, ob_s]
  by_cases h2 : 10 ≤ vm_i M 6 s.toNatClampNeg
  · rw [if_pos h2, rb0, if_neg]
    have := I_le.mp h2
    omega
  · rw [if_neg h2, rb1, if_pos]
    have := mt I_le.mpr h2
    omega
/-- the reference's isOpen -/
theorem f122_eq {M : vm_M} (h : Sh M) (s y : Int32) (h0 : 0 ≤ s.toInt ∧ s.toInt < 12) : f122 55 s y M = some (if y.toInt < (vm_i M 67 s.toNatClampNeg).toInt then 1 else 0, M) := by
  unfold f122
  rw [cr55_15 h, ob_s, ob_s, ca67 h h0, ob_s]
  by_cases h2 : vm_i M 67 s.toNatClampNeg ≤ y
  · rw [if_pos h2, rb0, if_neg]
    have := I_le.mp h2
    omega
  · rw [if_neg h2, rb1, if_pos]
    have := mt I_le.mpr h2
    omega
theorem f116_eq {M : vm_M} (h : Sh M) (a : Int32) (hs : 0 ≤ (vm_i M 55 1).toInt ∧ (vm_i M 55 1).toInt ≤ 12) : f116 55 a M = some (if 0 ≤ a.toInt ∧ a.toInt < (vm_i M 55 1).toInt then 1 else 0, M) := by
  unfold f116
  have e0 : (0 : Int32).toInt = 0 := rfl
  have e : (vm_i M 55 1 - 1).toInt = (vm_i M 55 1).toInt - 1 := by
    rw [Int32.toInt_sub, show (1 : Int32).toInt = 1 from rfl, Int.bmod_eq_of_le (by omega) (by omega)]
  rw [ci55 h, ob_s, f112_eq, ob_s, e, e0, rb_ite]
  by_cases c : 0 ≤ a.toInt ∧ a.toInt < (vm_i M 55 1).toInt
  · rw [if_pos c, if_pos (by omega)]
  · rw [if_neg c, if_neg (by omega)]
/-- open -/
theorem f82_eq {M : vm_M} (h : Sh M) (s y : Int32) (hs : (vm_i M 1 7).toInt ≤ 12) : f82 0 s y M = some (if (0 ≤ s.toInt ∧ s.toInt < (vm_i M 1 7).toInt) ∧ 0 ≤ y.toInt ∧ y.toInt < 10 then (if y.toInt < (vm_i M 6 s.toNatClampNeg).toInt then 1 else 0) else -1, M) := by
  unfold f82
  rw [cob0 h, ob_s, f105_eq h, ob_s]
  by_cases c1 : 0 ≤ s.toInt ∧ s.toInt < (vm_i M 1 7).toInt
  · simp only [if_pos c1, if_neg one_ne]
    rw [f103_eq, ob_s]
    by_cases c2 : 0 ≤ y.toInt ∧ y.toInt < 10
    · simp only [if_pos c2]
      rw [if_pos one_ne, cr0_0 h, ob_s, ob_s, cob1 h, ob_s, f2_eq h s y hs c1.1, ob_s]
      have hc : (0 ≤ s.toInt ∧ s.toInt < (vm_i M 1 7).toInt) ∧ 0 ≤ y.toInt ∧ y.toInt < 10 := ⟨c1, c2⟩
      by_cases c3 : y.toInt < (vm_i M 6 s.toNatClampNeg).toInt
      · simp only [if_pos c3, if_pos (show s.toInt < (vm_i M 1 7).toInt ∧ y.toInt < (vm_i M 6 s.toNatClampNeg).toInt from ⟨c1.2, c3⟩), if_neg one_ne, if_pos hc]
      · simp only [if_neg c3, if_neg (show ¬ (s.toInt < (vm_i M 1 7).toInt ∧ y.toInt < (vm_i M 6 s.toNatClampNeg).toInt) from fun z => c3 z.2), if_true, if_pos hc]
    · simp only [if_neg c2]
      rw [if_neg (fun z => z trivial), if_neg (fun z => c2 z.2)]
  · simp only [if_neg c1]
    rw [if_pos trivial, if_neg (fun z => c1 z.1)]
theorem f130_eq {M : vm_M} (h : Sh M) (s y : Int32) (hs : 0 ≤ (vm_i M 55 1).toInt ∧ (vm_i M 55 1).toInt ≤ 12) : f130 55 s y M = some (if (0 ≤ s.toInt ∧ s.toInt < (vm_i M 55 1).toInt) ∧ 0 ≤ y.toInt ∧ y.toInt < 10 then (if y.toInt < (vm_i M 67 s.toNatClampNeg).toInt then 1 else 0) else -1, M) := by
  unfold f130
  rw [cob55 h, ob_s, f116_eq h s hs, ob_s]
  by_cases c1 : 0 ≤ s.toInt ∧ s.toInt < (vm_i M 55 1).toInt
  · simp only [if_pos c1, if_neg one_ne]
    rw [f115_eq, ob_s]
    by_cases c2 : 0 ≤ y.toInt ∧ y.toInt ≤ 9
    · simp only [if_pos c2, if_neg one_ne]
      rw [cob55 h, ob_s, f122_eq h s y (by omega), ob_s]
      have hc : (0 ≤ s.toInt ∧ s.toInt < (vm_i M 55 1).toInt) ∧ 0 ≤ y.toInt ∧ y.toInt < 10 := ⟨c1, by omega⟩
      by_cases c3 : y.toInt < (vm_i M 67 s.toNatClampNeg).toInt
      · simp only [if_pos c3, f113, if_neg one_ne, ob_s, if_pos hc]
      · simp only [if_neg c3, f113, if_true, ob_s, if_pos hc, if_neg one_ne]
    · simp only [if_neg c2]
      rw [if_pos trivial, if_neg (by omega)]
  · simp only [if_neg c1]
    rw [if_pos trivial, if_neg (fun z => c1 z.1)]
