/-! school, road: closed forms -/
theorem Shpi {M : vm_M} {q k : Nat} {v : Int32} (h : Sh M) : Sh (vm_pi M q k v) := h
theorem Shpl {M : vm_M} {q k : Nat} {v : Int64} (h : Sh M) : Sh (vm_pl M q k v) := h
theorem i_pi {M : vm_M} {q k a b : Nat} {v : Int32} : vm_i (vm_pi M q k v) a b = if a = q ∧ b = k then v else vm_i M a b := rfl
theorem i_pi_ne {M : vm_M} {q k a b : Nat} {v : Int32} (h : ¬ a = q) : vm_i (vm_pi M q k v) a b = vm_i M a b := if_neg (fun z => h z.1)
/-- Land.found -/
def w_found (M : vm_M) (a b c : Int32) : vm_M :=
  let n := (vm_i M 1 7).toNatClampNeg
  vm_pi (vm_pi (vm_pi (vm_pi (vm_pi (vm_pi M 2 n a) 3 n b) 4 n c) 5 n (vm_i M 1 7)) 6 n 10) 1 7 (vm_i M 1 7 + 1)
theorem f1_eq {M : vm_M} (h : Sh M) (a b c : Int32) (hs : 0 ≤ (vm_i M 1 7).toInt) : f1 1 a b c M = some (if (vm_i M 1 7).toInt < 12 then (vm_i M 1 7, w_found M a b c) else (-1, M)) := by
  unfold f1
  have e : (12 : Int32).toInt = 12 := rfl
  by_cases h1 : (vm_i M 1 7).toInt < 12
  · have h2 : vm_i M 1 7 < 12 := I_lt.mpr (by rw [e]; exact h1)
    simp (maxDischargeDepth := 40) only [ci1, cr1_0, cr1_1, cr1_2, cr1_3, cr1_4, cs2, cs3, cs4, cs5, cs6, cpi1, Shpi, h, ob_s, h2, h1, hs, if_true, i_pi, w_found, and_self, Nat.reduceEqDiff, false_and, if_false]
  · have h2 : ¬ vm_i M 1 7 < 12 := fun z => h1 (by rw [← e]; exact I_lt.mp z)
    simp only [ci1, h, ob_s, h2, h1, if_false]
