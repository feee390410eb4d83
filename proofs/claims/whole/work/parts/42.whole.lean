/-! the start: what the Statement gives of the String constant; the law's claim from its shallow function -/
theorem vt_ls1 : Cond.laysStatic "java/lang/String" "COMPACT_STRINGS" "Z" ∈ lw_tbl := List.mem_of_getElem? (i := 192) (by decide +kernel)
theorem vt_ls2 : Cond.laysStatic "jdk/internal/util/Preconditions" "SIOOBE_FORMATTER" "Ljava/util/function/BiFunction;" ∈ lw_tbl := List.mem_of_getElem? (i := 208) (by decide +kernel)
theorem vt_sr : Cond.stringRef "PupilCoin$Reader" 31 vm_txt ∈ lw_tbl := List.mem_of_getElem? (i := 182) (by decide +kernel)
abbrev wh_tm : Term := .string "PupilCoin$Reader" 31
abbrev wh_fl : List Cond := flatC (Jvm.Cond.and given_1 narrow_1)
theorem wh_f1 : Cond.eq (.static "java/lang/String" "COMPACT_STRINGS" "Z") (.int 1) ∈ wh_fl := by decide +kernel
theorem wh_f2 : Cond.isRef (.static "jdk/internal/util/Preconditions" "SIOOBE_FORMATTER" "Ljava/util/function/BiFunction;") ∈ wh_fl := by decide +kernel
theorem wh_f3 : Cond.exactly wh_tm "java/lang/String" ∈ wh_fl := by decide +kernel
theorem wh_f4 : Cond.eq (.field wh_tm "java/lang/String" "coder" "B") (.int 0) ∈ wh_fl := by decide +kernel
theorem wh_f5 : Cond.arrayOf (.field wh_tm "java/lang/String" "value" "[B") .byte ∈ wh_fl := by decide +kernel
theorem wh_f6 : Cond.eq (.length (.field wh_tm "java/lang/String" "value" "[B")) (.int (Int32.ofNat vm_by.length)) ∈ wh_fl := by decide +kernel
theorem wh_e0 : ∀ j, j < 23 → wh_fl[13 + j]? = some (Cond.eq (.elem (.field wh_tm "java/lang/String" "value" "[B") (.int (Int32.ofNat (0 + j)))) (.int (vm_by.getD (0 + j) 0))) := by decide +kernel
theorem wh_e1 : ∀ j, j < 23 → wh_fl[36 + j]? = some (Cond.eq (.elem (.field wh_tm "java/lang/String" "value" "[B") (.int (Int32.ofNat (23 + j)))) (.int (vm_by.getD (23 + j) 0))) := by decide +kernel
theorem wh_e2 : ∀ j, j < 23 → wh_fl[59 + j]? = some (Cond.eq (.elem (.field wh_tm "java/lang/String" "value" "[B") (.int (Int32.ofNat (46 + j)))) (.int (vm_by.getD (46 + j) 0))) := by decide +kernel
theorem wh_e3 : ∀ j, j < 23 → wh_fl[82 + j]? = some (Cond.eq (.elem (.field wh_tm "java/lang/String" "value" "[B") (.int (Int32.ofNat (69 + j)))) (.int (vm_by.getD (69 + j) 0))) := by decide +kernel
theorem wh_e4 : ∀ j, j < 23 → wh_fl[105 + j]? = some (Cond.eq (.elem (.field wh_tm "java/lang/String" "value" "[B") (.int (Int32.ofNat (92 + j)))) (.int (vm_by.getD (92 + j) 0))) := by decide +kernel
theorem wh_e5 : ∀ j, j < 23 → wh_fl[128 + j]? = some (Cond.eq (.elem (.field wh_tm "java/lang/String" "value" "[B") (.int (Int32.ofNat (115 + j)))) (.int (vm_by.getD (115 + j) 0))) := by decide +kernel
theorem wh_e6 : ∀ j, j < 23 → wh_fl[151 + j]? = some (Cond.eq (.elem (.field wh_tm "java/lang/String" "value" "[B") (.int (Int32.ofNat (138 + j)))) (.int (vm_by.getD (138 + j) 0))) := by decide +kernel
theorem wh_e7 : ∀ j, j < 23 → wh_fl[174 + j]? = some (Cond.eq (.elem (.field wh_tm "java/lang/String" "value" "[B") (.int (Int32.ofNat (161 + j)))) (.int (vm_by.getD (161 + j) 0))) := by decide +kernel
theorem vm_by_is : vm_by.length = 184 := by decide +kernel
theorem wh_f7 : ∀ j, j < vm_by.length → Cond.eq (.elem (.field wh_tm "java/lang/String" "value" "[B") (.int (Int32.ofNat j))) (.int (vm_by.getD j 0)) ∈ wh_fl := by
  intro j hj
  rw [vm_by_is] at hj
  by_cases h0 : j < 23
  · have h := wh_e0 (j - 0) (by omega)
    rw [show 0 + (j - 0) = j by omega] at h
    exact List.mem_of_getElem? h
  by_cases h1 : j < 46
  · have h := wh_e1 (j - 23) (by omega)
    rw [show 23 + (j - 23) = j by omega] at h
    exact List.mem_of_getElem? h
  by_cases h2 : j < 69
  · have h := wh_e2 (j - 46) (by omega)
    rw [show 46 + (j - 46) = j by omega] at h
    exact List.mem_of_getElem? h
  by_cases h3 : j < 92
  · have h := wh_e3 (j - 69) (by omega)
    rw [show 69 + (j - 69) = j by omega] at h
    exact List.mem_of_getElem? h
  by_cases h4 : j < 115
  · have h := wh_e4 (j - 92) (by omega)
    rw [show 92 + (j - 92) = j by omega] at h
    exact List.mem_of_getElem? h
  by_cases h5 : j < 138
  · have h := wh_e5 (j - 115) (by omega)
    rw [show 115 + (j - 115) = j by omega] at h
    exact List.mem_of_getElem? h
  by_cases h6 : j < 161
  · have h := wh_e6 (j - 138) (by omega)
    rw [show 138 + (j - 138) = j by omega] at h
    exact List.mem_of_getElem? h
  by_cases h7 : j < 184
  · have h := wh_e7 (j - 161) (by omega)
    rw [show 161 + (j - 161) = j by omega] at h
    exact List.mem_of_getElem? h
  omega
theorem vm_by_len : vm_by.length < 2 ^ 31 := by decide +kernel
theorem wh_X {s : State} {b L : Nat} {args : Array Value} (hts : ∀ w ∈ lw_tbl, w.before args s = true) (hgv : (Jvm.Cond.and given_1 narrow_1).before args s = true) : ∃ aS aV, vm_X s.heap.size aS aV s := by
  have hs := flat_of_before _ hgv
  have hA : ∀ a : Nat, a < s.heap.size → ¬ s.heap.size ≤ a := fun a h => Nat.not_le.mpr h
  obtain ⟨adK, adV, hS, hev⟩ := vk_Sof (args := args) (s := s) (N := 1) (tm := fun _ => wh_tm) (len := [vm_by.length]) (byt := [vm_by]) (A := fun q => s.heap.size ≤ q)
    (fun i hi => by rw [(by omega : i = 0)]; simpa only [List.getD_cons_zero] using vm_by_len) (fun i hi => hs _ wh_f3) (fun i hi => hs _ wh_f4) (fun i hi => hs _ wh_f5) (fun i hi => by rw [(by omega : i = 0)]; simpa only [List.getD_cons_zero] using hs _ wh_f6)
    (fun i hi j hj => by
      rw [(by omega : i = 0)] at hj ⊢
      simp only [List.getD_cons_zero] at hj ⊢
      exact hs _ (wh_f7 j hj)) (fun i j hi hj h => absurd (by omega) h) hA
  refine ⟨adK 0, adV 0, ?_, ⟨fun i hi => ?_, fun i j hi hj _ => by omega⟩, va_Zof (hts _ vt_ls1) (hts _ (vt_in _ jw_iS)) (va_eqi (hs _ wh_f1)) hA, va_Zqof (hts _ vt_ls2) (hts _ (vt_in _ jw_iP)) (hs _ wh_f2) hA⟩
  · have e := hev 0 (by omega)
    refine vk_R.of (A := args) (hts _ vt_sr) e
  · have h := hS.1 i hi
    rw [(by omega : i = 0)] at h ⊢
    exact h
/-- THE LAW'S CLAIM, ONCE ITS SHALLOW FUNCTION ANSWERS 1: all that is left is without any machine -/
theorem wh_whole {p : Program} {e : Env} {s : State} {m : MethodId} {below : List Frame} {meth : Method} {c : Code} (l : Launch) {b L : Nat} {xs : Nat → Int32} (C0 : lw_At p s m meth c b L xs)
    (hp : ∃ r, f203 L xs () vm_M0 = some r ∧ r.1 = 1 ∧ vm_n r.2 ≤ 600000 ∧ vm_s r.2 ≤ 7302250) : W p l e room_1 s m #[Value.ref b] below meth c s.heap [] 0 0 (lw_Z below #[Value.ref b] s) (entryFrame m ([Value.ref b] : List Value).toArray 4) := by
  obtain ⟨aS, aV, hX⟩ := wh_X (b := b) (L := L) C0.2.2.2.2.2.1 C0.2.2.2.2.2.2.2.2.2
  exact wh_start l C0 vm_Str_X hX hp
