/-! a mark told: closed forms -/
theorem ixM {s y w : Int32} (hs : 0 ≤ s.toInt ∧ s.toInt < 12) (hy : 0 ≤ y.toInt ∧ y.toInt < 10) (hw : 0 ≤ w.toInt ∧ w.toInt < 6) : ((s * 10 + y) * 6 + w).toInt = (s.toInt * 10 + y.toInt) * 6 + w.toInt := by
  have e1 : (s * 10).toInt = s.toInt * 10 := by
    rw [Int32.toInt_mul, show (10 : Int32).toInt = 10 from rfl, Int.bmod_eq_of_le (by omega) (by omega)]
  have e2 : (s * 10 + y).toInt = s.toInt * 10 + y.toInt := by
    rw [Int32.toInt_add, e1, Int.bmod_eq_of_le (by omega) (by omega)]
  have e3 : ((s * 10 + y) * 6).toInt = (s.toInt * 10 + y.toInt) * 6 := by
    rw [Int32.toInt_mul, e2, show (6 : Int32).toInt = 6 from rfl, Int.bmod_eq_of_le (by omega) (by omega)]
  rw [Int32.toInt_add, e3, Int.bmod_eq_of_le (by omega) (by omega)]
def w_tell (M : vm_M) (x v t : Int32) : vm_M :=
  let n := (vm_i M 11 4).toNatClampNeg
  vm_pi (vm_pi (vm_pi (vm_pi (vm_pi M 12 n v) 13 n t) 14 n (vm_i M 15 x.toNatClampNeg)) 15 x.toNatClampNeg (vm_i M 11 4)) 11 4 (vm_i M 11 4 + 1)
theorem f11_eq {M : vm_M} (h : Sh M) (s y w v t : Int32) (hs : 0 ≤ s.toInt ∧ s.toInt < 12) (hy : 0 ≤ y.toInt ∧ y.toInt < 10) (hw : 0 ≤ w.toInt ∧ w.toInt < 6) (hn : 0 ≤ (vm_i M 11 4).toInt ∧ (vm_i M 11 4).toInt < 300) :
    f11 11 s y w v t M = some (vm_i M 11 4, w_tell M ((s * 10 + y) * 6 + w) v t) := by
  unfold f11
  have hx := ixM hs hy hw
  have hx1 : 0 ≤ ((s * 10 + y) * 6 + w).toInt := by omega
  have hx2 : ((s * 10 + y) * 6 + w).toInt < 720 := by omega
  have h2 : vm_i M 11 4 < 300 := I_lt.mpr hn.2
  obtain ⟨hn1, hn2⟩ := hn
  simp (maxDischargeDepth := 40) only [ci11, cr11_0, cr11_1, cr11_2, cr11_3, cs12, cs13, cs14, cs15, ca15, cpi11, Shpi, h, ob_s, h2, hn1, hn2, hx1, hx2, if_true, i_pi, w_tell, and_self, Nat.reduceEqDiff, false_and, if_false]
def w_tell2 (M : vm_M) (s y w v : Int32) : vm_M :=
  let n := (vm_i M 55 2).toNatClampNeg
  vm_pi (vm_pi (vm_pi (vm_pi (vm_pi (vm_pi M 61 n s) 62 n y) 63 n w) 64 n v) 65 n (vm_i M 55 0)) 55 2 (vm_i M 55 2 + 1)
def c_mark (ns nm s y w v : Int32) : Prop := (0 ≤ s.toInt ∧ s.toInt < ns.toInt) ∧ (0 ≤ y.toInt ∧ y.toInt < 10) ∧ (0 ≤ w.toInt ∧ w.toInt < 6) ∧ (0 ≤ v.toInt ∧ v.toInt ≤ 9999) ∧ nm.toInt < 300
theorem f79_eq {M : vm_M} (h : Sh M) (s y w v : Int32) (hs : (vm_i M 1 7).toInt ≤ 12) (hn : 0 ≤ (vm_i M 11 4).toInt) :
    (c_mark (vm_i M 1 7) (vm_i M 11 4) s y w v ∧ f79 0 s y w v M = some (vm_i M 11 4, w_tell (vm_pi M 30 15 0) ((s * 10 + y) * 6 + w) v (vm_i M 0 10))) ∨ (¬ c_mark (vm_i M 1 7) (vm_i M 11 4) s y w v ∧ f79 0 s y w v M = some (-1, M)) := by
  unfold f79 c_mark
  have e0 : (0 : Int32).toInt = 0 := rfl
  have e6 : (6 : Int32).toInt = 6 := rfl
  have e9 : (9999 : Int32).toInt = 9999 := rfl
  have e3 : (300 : Int32).toInt = 300 := rfl
  rw [cob0 h, ob_s, f105_eq h, ob_s]
  by_cases c1 : 0 ≤ s.toInt ∧ s.toInt < (vm_i M 1 7).toInt
  · simp only [if_pos c1, if_neg one_ne]
    rw [f103_eq, ob_s]
    by_cases c2 : 0 ≤ y.toInt ∧ y.toInt < 10
    · simp only [if_pos c2, if_neg one_ne]
      rw [f102_eq, ob_s, e6]
      by_cases c3 : 0 ≤ w.toInt ∧ w.toInt < 6
      · simp only [if_pos c3]
        rw [if_pos one_ne]
        by_cases h1 : v < 0
        · rw [if_pos h1]
          have := I_lt.mp h1
          exact Or.inr ⟨fun z => by have := z.2.2.2.1; omega, rfl⟩
        · rw [if_neg h1]
          have h1' := mt I_lt.mpr h1
          by_cases h2 : 9999 < v
          · rw [if_pos h2]
            have := I_lt.mp h2
            exact Or.inr ⟨fun z => by have := z.2.2.2.1; omega, rfl⟩
          · rw [if_neg h2, cr0_1 h, ob_s, ob_s, ci11 h, ob_s]
            have h2' := mt I_lt.mpr h2
            by_cases h3 : vm_i M 11 4 < 300
            · have h3' := I_lt.mp h3
              have h' : Sh (vm_pi M 30 15 0) := h
              rw [if_pos h3, cr0_4 h, ob_s, ob_s, cob30 h, ob_s, f58_eq h, ob_s, cr0_1 h', ob_s, ci0 h', ob_s, ob_s, cob11 h', ob_s, f11_eq h' s y w v _ (by omega) c2 c3 (by rw [i_pi_ne (by decide)]; omega), ob_s]
              have q1 : vm_i (vm_pi M 30 15 0) 0 10 = vm_i M 0 10 := i_pi_ne (by decide)
              have q2 : vm_i (vm_pi M 30 15 0) 11 4 = vm_i M 11 4 := i_pi_ne (by decide)
              rw [q1, q2]
              exact Or.inl ⟨⟨c1, c2, c3, by omega, by omega⟩, rfl⟩
            · rw [if_neg h3]
              have h3' := mt I_lt.mpr h3
              exact Or.inr ⟨fun z => by have := z.2.2.2.2; omega, rfl⟩
      · simp only [if_neg c3]
        rw [if_neg (fun z => z trivial)]
        exact Or.inr ⟨fun z => c3 z.2.2.1, rfl⟩
    · simp only [if_neg c2]
      rw [if_pos trivial]
      exact Or.inr ⟨fun z => c2 z.2.1, rfl⟩
  · simp only [if_neg c1]
    rw [if_pos trivial]
    exact Or.inr ⟨fun z => c1 z.1, rfl⟩
theorem f125_eq {M : vm_M} (h : Sh M) (s y w v : Int32) (hs : 0 ≤ (vm_i M 55 1).toInt ∧ (vm_i M 55 1).toInt ≤ 12) (hn : 0 ≤ (vm_i M 55 2).toInt ∧ (vm_i M 55 2).toInt ≤ 300) :
    (c_mark (vm_i M 55 1) (vm_i M 55 2) s y w v ∧ f125 55 s y w v M = some (vm_i M 55 2, w_tell2 M s y w v)) ∨ (¬ c_mark (vm_i M 55 1) (vm_i M 55 2) s y w v ∧ f125 55 s y w v M = some (-1, M)) := by
  unfold f125 c_mark
  have e0 : (0 : Int32).toInt = 0 := rfl
  have e5 : (5 : Int32).toInt = 5 := rfl
  have e9 : (9999 : Int32).toInt = 9999 := rfl
  have e3 : (300 : Int32).toInt = 300 := rfl
  rw [cob55 h, ob_s, f116_eq h s hs, ob_s]
  by_cases c1 : 0 ≤ s.toInt ∧ s.toInt < (vm_i M 55 1).toInt
  · simp only [if_pos c1, if_neg one_ne]
    rw [f115_eq, ob_s]
    by_cases c2 : 0 ≤ y.toInt ∧ y.toInt < 10
    · have c2' : 0 ≤ y.toInt ∧ y.toInt ≤ 9 := by omega
      simp only [if_pos c2', if_neg one_ne]
      rw [f112_eq, ob_s, e5, e0]
      by_cases c3 : 0 ≤ w.toInt ∧ w.toInt < 6
      · have c3' : 0 ≤ w.toInt ∧ w.toInt ≤ 5 := by omega
        simp only [if_pos c3', if_neg one_ne]
        rw [f112_eq, ob_s, e9, e0]
        by_cases c4 : 0 ≤ v.toInt ∧ v.toInt ≤ 9999
        · simp only [if_pos c4, if_neg one_ne]
          rw [ci55 h, ob_s]
          by_cases h1 : vm_i M 55 2 = 300
          · rw [if_neg (fun z => z h1)]
            exact Or.inr ⟨fun z => by have := z.2.2.2.2; rw [h1, e3] at this; omega, rfl⟩
          · have h1' : (vm_i M 55 2).toInt < 300 := by
              have : ¬ (vm_i M 55 2).toInt = 300 := fun z => h1 (Int32.toInt_inj.mp (by rw [z, e3]))
              omega
            rw [if_pos h1]
            have hn0 := hn.1
            refine Or.inl ⟨⟨c1, c2, c3, c4, h1'⟩, ?_⟩
            simp (maxDischargeDepth := 40) only [ci55, cr55_9, cr55_10, cr55_11, cr55_12, cr55_13, cs61, cs62, cs63, cs64, cs65, cpi55, Shpi, h, ob_s, h1', hn0, if_true, i_pi, w_tell2, and_self, Nat.reduceEqDiff, false_and, if_false, Int32.add_sub_cancel]
        · simp only [if_neg c4]
          rw [if_pos trivial]
          exact Or.inr ⟨fun z => c4 z.2.2.2.1, rfl⟩
      · have c3' : ¬ (0 ≤ w.toInt ∧ w.toInt ≤ 5) := by omega
        simp only [if_neg c3']
        rw [if_pos trivial]
        exact Or.inr ⟨fun z => c3 z.2.2.1, rfl⟩
    · have c2' : ¬ (0 ≤ y.toInt ∧ y.toInt ≤ 9) := by omega
      simp only [if_neg c2']
      rw [if_pos trivial]
      exact Or.inr ⟨fun z => c2 z.2.1, rfl⟩
  · simp only [if_neg c1]
    rw [if_pos trivial]
    exact Or.inr ⟨fun z => c1 z.1, rfl⟩
