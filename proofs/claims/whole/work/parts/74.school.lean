/-! school: closed forms -/
def c_school (n a b c : Int32) : Prop := (0 ≤ a.toInt ∧ a.toInt < 8) ∧ (0 ≤ b.toInt ∧ b.toInt < 3) ∧ (0 ≤ c.toInt ∧ c.toInt < 16) ∧ n.toInt < 12
theorem f75_eq {M : vm_M} (h : Sh M) (a b c : Int32) (hs : 0 ≤ (vm_i M 1 7).toInt) : (c_school (vm_i M 1 7) a b c ∧ f75 0 a b c M = some (vm_i M 1 7, w_found (vm_pi M 30 15 0) a b c)) ∨ (¬ c_school (vm_i M 1 7) a b c ∧ f75 0 a b c M = some (-1, M)) := by
  unfold f75 c_school
  have e8 : (8 : Int32).toInt = 8 := rfl
  have e3 : (3 : Int32).toInt = 3 := rfl
  have e16 : (16 : Int32).toInt = 16 := rfl
  have e12 : (12 : Int32).toInt = 12 := rfl
  rw [f102_eq, ob_s, e8]
  by_cases ha : 0 ≤ a.toInt ∧ a.toInt < 8
  · simp only [if_pos ha, if_neg one_ne]
    rw [f102_eq, ob_s, e3]
    by_cases hb : 0 ≤ b.toInt ∧ b.toInt < 3
    · simp only [if_pos hb, if_neg one_ne]
      rw [f102_eq, ob_s, e16]
      by_cases hc : 0 ≤ c.toInt ∧ c.toInt < 16
      · simp only [if_pos hc]
        rw [if_pos one_ne, cr0_0 h, ob_s, ob_s, ci1 h, ob_s]
        by_cases h1 : vm_i M 1 7 < 12
        · have h1' := I_lt.mp h1
          have h' : Sh (vm_pi M 30 15 0) := h
          rw [if_pos h1, cr0_4 h, ob_s, ob_s, cob30 h, ob_s, f58_eq h, ob_s, cr0_0 h', ob_s, ob_s, cob1 h', ob_s, f1_eq h' a b c (by rw [i_pi_ne (by decide)]; exact hs), ob_s]
          have e : vm_i (vm_pi M 30 15 0) 1 7 = vm_i M 1 7 := i_pi_ne (by decide)
          rw [e, if_pos (by rw [← e12]; exact h1')]
          exact Or.inl ⟨⟨ha, hb, hc, by rw [← e12]; exact h1'⟩, rfl⟩
        · have h1' := mt I_lt.mpr h1
          rw [if_neg h1]
          exact Or.inr ⟨fun z => h1' (by rw [e12]; exact z.2.2.2), rfl⟩
      · simp only [if_neg hc]
        rw [if_neg (fun z => z trivial)]
        exact Or.inr ⟨fun z => hc z.2.2.1, rfl⟩
    · simp only [if_neg hb]
      rw [if_pos trivial]
      exact Or.inr ⟨fun z => hb z.2.1, rfl⟩
  · simp only [if_neg ha]
    rw [if_pos trivial]
    exact Or.inr ⟨fun z => ha z.1, rfl⟩
def w_found2 (M : vm_M) (a b c : Int32) : vm_M :=
  let n := (vm_i M 55 1).toNatClampNeg
  vm_pi (vm_pi (vm_pi (vm_pi (vm_pi (vm_pi M 56 n a) 57 n b) 58 n c) 66 n (-1)) 67 n 10) 55 1 (vm_i M 55 1 + 1)
theorem f119_eq {M : vm_M} (h : Sh M) (a b c : Int32) (hs : 0 ≤ (vm_i M 55 1).toInt ∧ (vm_i M 55 1).toInt ≤ 12) : (c_school (vm_i M 55 1) a b c ∧ f119 55 a b c M = some (vm_i M 55 1, w_found2 M a b c)) ∨ (¬ c_school (vm_i M 55 1) a b c ∧ f119 55 a b c M = some (-1, M)) := by
  unfold f119 c_school
  have e0 : (0 : Int32).toInt = 0 := rfl
  have e7 : (7 : Int32).toInt = 7 := rfl
  have e2 : (2 : Int32).toInt = 2 := rfl
  have e15 : (15 : Int32).toInt = 15 := rfl
  have e12 : (12 : Int32).toInt = 12 := rfl
  rw [f112_eq, ob_s, e7, e0]
  by_cases ha : 0 ≤ a.toInt ∧ a.toInt < 8
  · have ha' : 0 ≤ a.toInt ∧ a.toInt ≤ 7 := by omega
    simp only [if_pos ha', if_neg one_ne]
    rw [f112_eq, ob_s, e2, e0]
    by_cases hb : 0 ≤ b.toInt ∧ b.toInt < 3
    · have hb' : 0 ≤ b.toInt ∧ b.toInt ≤ 2 := by omega
      simp only [if_pos hb', if_neg one_ne]
      rw [f112_eq, ob_s, e15, e0]
      by_cases hc : 0 ≤ c.toInt ∧ c.toInt < 16
      · have hc' : 0 ≤ c.toInt ∧ c.toInt ≤ 15 := by omega
        simp only [if_pos hc', if_neg one_ne]
        rw [ci55 h, ob_s]
        by_cases h1 : vm_i M 55 1 = 12
        · rw [if_neg (fun z => z h1)]
          exact Or.inr ⟨fun z => by have := z.2.2.2; rw [h1, e12] at this; omega, rfl⟩
        · have h1' : (vm_i M 55 1).toInt < 12 := by
            have : ¬ (vm_i M 55 1).toInt = 12 := fun z => h1 (Int32.toInt_inj.mp (by rw [z, e12]))
            omega
          rw [if_pos h1]
          have hs0 := hs.1
          refine Or.inl ⟨⟨ha, hb, hc, h1'⟩, ?_⟩
          simp (maxDischargeDepth := 40) only [ci55, cr55_4, cr55_5, cr55_6, cr55_14, cr55_15, cs56, cs57, cs58, cs66, cs67, cpi55, Shpi, h, ob_s, h1', hs0, if_true, i_pi, w_found2, and_self, Nat.reduceEqDiff, false_and, if_false, Int32.add_sub_cancel]
      · have hc' : ¬ (0 ≤ c.toInt ∧ c.toInt ≤ 15) := by omega
        simp only [if_neg hc']
        rw [if_pos trivial]
        exact Or.inr ⟨fun z => hc z.2.2.1, rfl⟩
    · have hb' : ¬ (0 ≤ b.toInt ∧ b.toInt ≤ 2) := by omega
      simp only [if_neg hb']
      rw [if_pos trivial]
      exact Or.inr ⟨fun z => hb z.2.1, rfl⟩
  · have ha' : ¬ (0 ≤ a.toInt ∧ a.toInt ≤ 7) := by omega
    simp only [if_neg ha']
    rw [if_pos trivial]
    exact Or.inr ⟨fun z => ha z.1, rfl⟩
