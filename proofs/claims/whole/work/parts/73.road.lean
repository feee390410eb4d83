/-! road, school: closed forms -/
theorem ix16 {a b : Int32} (ha : 0 ≤ a.toInt ∧ a.toInt < 16) (hb : 0 ≤ b.toInt ∧ b.toInt < 16) : (a * 16 + b).toInt = a.toInt * 16 + b.toInt := by
  have e1 : (a * 16).toInt = a.toInt * 16 := by
    rw [Int32.toInt_mul, show (16 : Int32).toInt = 16 from rfl, Int.bmod_eq_of_le (by omega) (by omega)]
  rw [Int32.toInt_add, e1, Int.bmod_eq_of_le (by omega) (by omega)]
def w_road (M : vm_M) (q : Nat) (a b m : Int32) : vm_M := vm_pi (vm_pi M q (a * 16 + b).toNatClampNeg m) q (b * 16 + a).toNatClampNeg m
theorem f52_eq {M : vm_M} (h : Sh M) {a b : Int32} (m : Int32) (ha : 0 ≤ a.toInt ∧ a.toInt < 16) (hb : 0 ≤ b.toInt ∧ b.toInt < 16) : f52 8 a b m M = some (vm_pi (w_road M 9 a b m) 8 2 0) := by
  unfold f52
  have i1 := ix16 ha hb
  have i2 := ix16 hb ha
  rw [cr8_0 h, ob_s, ob_s, cs9 h (by omega), ob_s]
  have h' : Sh (vm_pi M 9 (a * 16 + b).toNatClampNeg m) := h
  rw [cr8_0 h', ob_s, ob_s, cs9 h' (by omega), ob_s]
  have h2 : Sh (vm_pi (vm_pi M 9 (a * 16 + b).toNatClampNeg m) 9 (b * 16 + a).toNatClampNeg m) := h
  rw [g_pz (h2.n (by decide)) (h2.o (by decide) rfl) (Or.inl rfl), ob_s]
  rfl
/-- what road asks of its numbers -/
def c_road (a b m : Int32) : Prop := (0 ≤ a.toInt ∧ a.toInt < 16) ∧ (0 ≤ b.toInt ∧ b.toInt < 16) ∧ ¬ a = b ∧ 0 ≤ m.toInt ∧ m.toInt ≤ 999
theorem f77_eq {M : vm_M} (h : Sh M) (a b m : Int32) : (c_road a b m ∧ f77 0 a b m M = some (1, vm_pi (vm_pi (w_road M 9 a b m) 8 2 0) 30 15 0)) ∨ (¬ c_road a b m ∧ f77 0 a b m M = some (0, M)) := by
  unfold f77 c_road
  have e0 : (0 : Int32).toInt = 0 := rfl
  have e16 : (16 : Int32).toInt = 16 := rfl
  have e9 : (999 : Int32).toInt = 999 := rfl
  rw [f102_eq, ob_s, e16]
  by_cases ha : 0 ≤ a.toInt ∧ a.toInt < 16
  · simp only [if_pos ha, if_neg one_ne]
    rw [f102_eq, ob_s, e16]
    by_cases hb : 0 ≤ b.toInt ∧ b.toInt < 16
    · simp only [if_pos hb, if_neg one_ne]
      by_cases hab : a = b
      · rw [if_neg (fun z => z hab), rb0]
        exact Or.inr ⟨fun z => z.2.2.1 hab, rfl⟩
      · rw [if_pos hab]
        by_cases h1 : m < 0
        · rw [if_pos h1, rb0]
          have := I_lt.mp h1
          exact Or.inr ⟨fun z => by have := z.2.2.2; omega, rfl⟩
        · rw [if_neg h1]
          have h1' := mt I_lt.mpr h1
          by_cases h2 : m ≤ 999
          · have h2' := I_le.mp h2
            rw [if_pos h2, cr0_0 h, ob_s, ob_s, cr1_6 h, ob_s, ob_s, cob8 h, ob_s, f52_eq h m ha hb, ob_s]
            have h' : Sh (vm_pi (w_road M 9 a b m) 8 2 0) := h
            rw [cr0_4 h', ob_s, ob_s, cob30 h', ob_s, f58_eq h', ob_s, rb1]
            exact Or.inl ⟨⟨ha, hb, hab, by omega, by omega⟩, rfl⟩
          · rw [if_neg h2, rb0]
            have h2' := mt I_le.mpr h2
            exact Or.inr ⟨fun z => by have := z.2.2.2; omega, rfl⟩
    · simp only [if_neg hb]
      rw [if_pos trivial, rb0]
      exact Or.inr ⟨fun z => hb z.2.1, rfl⟩
  · simp only [if_neg ha]
    rw [if_pos trivial, rb0]
    exact Or.inr ⟨fun z => ha z.1, rfl⟩
theorem f121_eq {M : vm_M} (h : Sh M) (a b m : Int32) : (c_road a b m ∧ f121 55 a b m M = some (1, w_road M 60 a b m)) ∨ (¬ c_road a b m ∧ f121 55 a b m M = some (0, M)) := by
  unfold f121 c_road
  have e0 : (0 : Int32).toInt = 0 := rfl
  have e15 : (15 : Int32).toInt = 15 := rfl
  have e9 : (999 : Int32).toInt = 999 := rfl
  rw [f112_eq, ob_s, e15, e0]
  by_cases ha : 0 ≤ a.toInt ∧ a.toInt < 16
  · have ha' : 0 ≤ a.toInt ∧ a.toInt ≤ 15 := by omega
    simp only [if_pos ha', if_neg one_ne]
    rw [f112_eq, ob_s, e15, e0]
    by_cases hb : 0 ≤ b.toInt ∧ b.toInt < 16
    · have hb' : 0 ≤ b.toInt ∧ b.toInt ≤ 15 := by omega
      simp only [if_pos hb', if_neg one_ne]
      by_cases hab : a = b
      · rw [if_pos hab, rb0]
        exact Or.inr ⟨fun z => z.2.2.1 hab, rfl⟩
      · rw [if_neg hab, f112_eq, ob_s, e0, e9]
        by_cases hm : 0 ≤ m.toInt ∧ m.toInt ≤ 999
        · simp only [if_pos hm]
          have i1 := ix16 ha hb
          have i2 := ix16 hb ha
          rw [if_pos one_ne, cr55_8 h, ob_s, ob_s, Int32.mul_comm 16 a, cs60 h (by omega), ob_s]
          have h' : Sh (vm_pi M 60 (a * 16 + b).toNatClampNeg m) := h
          rw [cr55_8 h', ob_s, ob_s, Int32.mul_comm 16 b, cs60 h' (by omega), ob_s, rb1]
          exact Or.inl ⟨⟨ha, hb, hab, hm⟩, rfl⟩
        · simp only [if_neg hm]
          rw [if_neg (fun z => z trivial), rb0]
          exact Or.inr ⟨fun z => hm z.2.2.2, rfl⟩
    · have hb' : ¬ (0 ≤ b.toInt ∧ b.toInt ≤ 15) := by omega
      simp only [if_neg hb']
      rw [if_pos trivial, rb0]
      exact Or.inr ⟨fun z => hb z.2.1, rfl⟩
  · have ha' : ¬ (0 ≤ a.toInt ∧ a.toInt ≤ 15) := by omega
    simp only [if_neg ha']
    rw [if_pos trivial, rb0]
    exact Or.inr ⟨fun z => ha z.1, rfl⟩
