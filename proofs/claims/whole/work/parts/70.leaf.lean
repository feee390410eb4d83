/-! closed forms of the smallest methods -/
theorem I_lt {a b : Int32} : a < b ↔ a.toInt < b.toInt := Int32.lt_iff_toInt_lt
theorem I_le {a b : Int32} : a ≤ b ↔ a.toInt ≤ b.toInt := Int32.le_iff_toInt_le
theorem one_ne : ¬ (1 : Int32) = 0 := by decide
/-- within(a, b): from 0 on, below b -/
theorem f102_eq (a b : Int32) (M : vm_M) : f102 a b M = some (if 0 ≤ a.toInt ∧ a.toInt < b.toInt then 1 else 0, M) := by
  unfold f102
  by_cases h1 : a < 0
  · rw [if_pos h1, rb0, if_neg]
    have := I_lt.mp h1
    have e : (0 : Int32).toInt = 0 := rfl
    omega
  · rw [if_neg h1]
    have h1' := mt I_lt.mpr h1
    have e : (0 : Int32).toInt = 0 := rfl
    by_cases h2 : b ≤ a
    · rw [if_pos h2, rb0, if_neg]
      have := I_le.mp h2
      omega
    · rw [if_neg h2, rb1, if_pos]
      have := mt I_le.mpr h2
      omega
/-- isIn(a, lo, hi) of the reference -/
theorem f112_eq (a lo hi : Int32) (M : vm_M) : f112 a lo hi M = some (if lo.toInt ≤ a.toInt ∧ a.toInt ≤ hi.toInt then 1 else 0, M) := by
  unfold f112
  by_cases h1 : a < lo
  · rw [if_pos h1, rb0, if_neg]
    have := I_lt.mp h1
    omega
  · rw [if_neg h1]
    have h1' := mt I_lt.mpr h1
    by_cases h2 : hi < a
    · rw [if_pos h2, rb0, if_neg]
      have := I_lt.mp h2
      omega
    · rw [if_neg h2, rb1, if_pos]
      have := mt I_lt.mpr h2
      omega
theorem f58_eq {M : vm_M} (h : Sh M) : f58 30 M = some (vm_pi M 30 15 0) := by
  unfold f58
  rw [cpi30 h, ob_s]
/-- day -/
theorem f74_eq {M : vm_M} (h : Sh M) (a : Int32) : f74 0 a M = some (if (vm_i M 0 10).toInt < a.toInt ∧ a.toInt ≤ 999 then (1, vm_pi M 0 10 a) else (0, M)) := by
  unfold f74
  rw [ci0 h, ob_s]
  have e : (999 : Int32).toInt = 999 := rfl
  by_cases h1 : a ≤ vm_i M 0 10
  · rw [if_pos h1, rb0, if_neg]
    have := I_le.mp h1
    omega
  · rw [if_neg h1]
    have h1' := mt I_le.mpr h1
    by_cases h2 : a ≤ 999
    · rw [if_pos h2, cpi0 h, ob_s, rb1, if_pos]
      have := I_le.mp h2
      omega
    · rw [if_neg h2, rb0, if_neg]
      have := mt I_le.mpr h2
      omega
theorem f117_eq {M : vm_M} (h : Sh M) (a : Int32) : f117 55 a M = some (if (vm_i M 55 0).toInt < a.toInt ∧ a.toInt ≤ 999 then (1, vm_pi M 55 0 a) else (0, M)) := by
  unfold f117
  rw [ci55 h, ob_s]
  have e : (999 : Int32).toInt = 999 := rfl
  by_cases h1 : a ≤ vm_i M 55 0
  · rw [if_pos h1, rb0, if_neg]
    have := I_le.mp h1
    omega
  · rw [if_neg h1]
    have h1' := mt I_le.mpr h1
    by_cases h2 : a ≤ 999
    · rw [if_pos h2, cpi55 h, ob_s, rb1, if_pos]
      have := I_le.mp h2
      omega
    · rw [if_neg h2, rb0, if_neg]
      have := mt I_le.mpr h2
      omega
/-- need -/
theorem f76_eq {M : vm_M} (h : Sh M) (a b : Int32) : f76 0 a b M = some (if (0 ≤ a.toInt ∧ a.toInt < 8) ∧ 0 ≤ b.toInt ∧ b.toInt ≤ 100 then (1, vm_pi (vm_pi M 7 a.toNatClampNeg b) 30 15 0) else (0, M)) := by
  unfold f76
  rw [f102_eq, ob_s]
  have e0 : (0 : Int32).toInt = 0 := rfl
  have e8 : (8 : Int32).toInt = 8 := rfl
  have e1 : (100 : Int32).toInt = 100 := rfl
  rw [e8]
  by_cases ha : 0 ≤ a.toInt ∧ a.toInt < 8
  · simp only [if_pos ha, if_neg one_ne]
    by_cases h1 : b < 0
    · rw [if_pos h1, rb0, if_neg]
      have := I_lt.mp h1
      omega
    · rw [if_neg h1]
      have h1' := mt I_lt.mpr h1
      by_cases h2 : b ≤ 100
      · have h2' := I_le.mp h2
        rw [if_pos h2, cr0_0 h, ob_s, ob_s, cr1_5 h, ob_s, ob_s, cs7 h ha, ob_s]
        have h' : Sh (vm_pi M 7 a.toNatClampNeg b) := h
        rw [cr0_4 h', ob_s, ob_s, cob30 h', ob_s, f58_eq h', ob_s, rb1, if_pos]
        omega
      · have h2' := mt I_le.mpr h2
        rw [if_neg h2, rb0, if_neg]
        omega
  · simp only [if_neg ha]
    rw [if_pos trivial, rb0, if_neg (fun z => ha z.1)]
theorem f120_eq {M : vm_M} (h : Sh M) (a b : Int32) : f120 55 a b M = some (if (0 ≤ a.toInt ∧ a.toInt < 8) ∧ 0 ≤ b.toInt ∧ b.toInt ≤ 100 then (1, vm_pi M 59 a.toNatClampNeg b) else (0, M)) := by
  unfold f120
  rw [f112_eq, ob_s]
  have e0 : (0 : Int32).toInt = 0 := rfl
  have e8 : (7 : Int32).toInt = 7 := rfl
  have e1 : (100 : Int32).toInt = 100 := rfl
  rw [e8, e0]
  by_cases ha : 0 ≤ a.toInt ∧ a.toInt < 8
  · have ha' : 0 ≤ a.toInt ∧ a.toInt ≤ 7 := by omega
    simp only [if_pos ha', if_neg one_ne]
    rw [f112_eq, ob_s, e0, e1]
    by_cases hb : 0 ≤ b.toInt ∧ b.toInt ≤ 100
    · simp only [if_pos hb]
      rw [if_pos one_ne, cr55_7 h, ob_s, ob_s, cs59 h ha, ob_s, rb1, if_pos ⟨ha, hb⟩]
    · simp only [if_neg hb]
      rw [if_neg (fun z => z trivial), rb0, if_neg (fun z => hb z.2)]
  · have ha' : ¬ (0 ≤ a.toInt ∧ a.toInt ≤ 7) := by omega
    simp only [if_neg ha']
    rw [if_pos trivial, rb0, if_neg (fun z => ha z.1)]
