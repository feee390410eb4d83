/-! a mark told: closed forms -/
theorem ixM {s y w : Int32} (hs : 0 ≤ s.toInt ∧ s.toInt < 12) (hy : 0 ≤ y.toInt ∧ y.toInt < 10) (hw : 0 ≤ w.toInt ∧ w.toInt < 6) : ((s * 10 + y) * 6 + w).toInt = (s.toInt * 10 + y.toInt) * 6 + w.toInt := by
  have e1 : (s * 10).toInt = s.toInt * 10 := by
    rw [Int32.toInt_mul, show (10 : Int32).toInt = 10 from rfl, Int.bmod_eq_of_le (by omega) (by omega)]
  have e2 : (s * 10 + y).toInt = s.toInt * 10 + y.toInt := by
    rw [Int32.toInt_add, e1, Int.bmod_eq_of_le (by omega) (by omega)]
  have e3 : ((s * 10 + y) * 6).toInt = (s.toInt * 10 + y.toInt) * 6 := by
    rw [Int32.toInt_mul, e2, show (6 : Int32).toInt = 6 from rfl, Int.bmod_eq_of_le (by omega) (by omega)]
  rw [Int32.toInt_add, e3, Int.bmod_eq_of_le (by omega) (by omega)]
def w_tell (M : vm_M) (x v t : Int32) : vm_M :=
  let n := (vm_i M 11 4).toNatClampNeg
  vm_pi (vm_pi (vm_pi (vm_pi (vm_pi M 12 n v) 13 n t) 14 n (vm_i M 15 x.toNatClampNeg)) 15 x.toNatClampNeg (vm_i M 11 4)) 11 4 (vm_i M 11 4 + 1)
theorem f11_eq {M : vm_M} (h : Sh M) (s y w v t : Int32) (hs : 0 ≤ s.toInt ∧ s.toInt < 12) (hy : 0 ≤ y.toInt ∧ y.toInt < 10) (hw : 0 ≤ w.toInt ∧ w.toInt < 6) (hn : 0 ≤ (vm_i M 11 4).toInt ∧ (vm_i M 11 4).toInt < 300) :
    f11 11 s y w v t M = some (vm_i M 11 4, w_tell M ((s * 10 + y) * 6 + w) v t) := by
  unfold f11
  have hx := ixM hs hy hw
  have hx1 : 0 ≤ ((s * 10 + y) * 6 + w).toInt := by omega
  have hx2 : ((s * 10 + y) * 6 + w).toInt < 720 := by omega
  have h2 : vm_i M 11 4 < 300 := I_lt.mpr hn.2
  obtain ⟨hn1, hn2⟩ := hn
  simp (maxDischargeDepth := 40) only [ci11, cr11_0, cr11_1, cr11_2, cr11_3, cs12, cs13, cs14, cs15, ca15, cpi11, Shpi, h, ob_s, h2, hn1, hn2, hx1, hx2, if_true, i_pi, w_tell, and_self, Nat.reduceEqDiff, false_and, if_false]
