/-! the String constant: what is kept of it, and its length, charAt (wip/gen_str.py) -/
def jy_coder : MethodName := ⟨"java/lang/String", "coder", "()B"⟩
abbrev jb_coder : ByteArray := prog_17_method_152_code
theorem jc_coder : Cond.code jy_coder jb_coder 1 (some .byte) ∈ vt := vt_of (i := 190) (by decide +kernel) rfl
theorem jd_coder_0 : decode jb_coder 0 = .ok (.getstatic 38, 3) := by decide +kernel
theorem jd_coder_3 : decode jb_coder 3 = .ok (.ifCond .eq 10, 3) := by decide +kernel
theorem jd_coder_6 : decode jb_coder 6 = .ok (.aload_n 0, 1) := by decide +kernel
theorem jd_coder_7 : decode jb_coder 7 = .ok (.getfield 15, 3) := by decide +kernel
theorem jd_coder_10 : decode jb_coder 10 = .ok (.goto 4, 3) := by decide +kernel
theorem jd_coder_13 : decode jb_coder 13 = .ok (.iconst 1, 1) := by decide +kernel
theorem jd_coder_14 : decode jb_coder 14 = .ok (.ireturn, 1) := by decide +kernel
def jy_length : MethodName := ⟨"java/lang/String", "length", "()I"⟩
abbrev jb_length : ByteArray := prog_17_method_54_code
theorem jc_length : Cond.code jy_length jb_length 1 (some .int) ∈ vt := vt_of (i := 186) (by decide +kernel) rfl
theorem jd_length_0 : decode jb_length 0 = .ok (.aload_n 0, 1) := by decide +kernel
theorem jd_length_1 : decode jb_length 1 = .ok (.getfield 9, 3) := by decide +kernel
theorem jd_length_4 : decode jb_length 4 = .ok (.arraylength, 1) := by decide +kernel
theorem jd_length_5 : decode jb_length 5 = .ok (.aload_n 0, 1) := by decide +kernel
theorem jd_length_6 : decode jb_length 6 = .ok (.invokevirtual 335, 3) := by decide +kernel
theorem jd_length_9 : decode jb_length 9 = .ok (.ishr, 1) := by decide +kernel
theorem jd_length_10 : decode jb_length 10 = .ok (.ireturn, 1) := by decide +kernel
def jy_isLatin1 : MethodName := ⟨"java/lang/String", "isLatin1", "()Z"⟩
abbrev jb_isLatin1 : ByteArray := prog_17_method_154_code
theorem jc_isLatin1 : Cond.code jy_isLatin1 jb_isLatin1 1 (some .boolean) ∈ vt := vt_of (i := 200) (by decide +kernel) rfl
theorem jd_isLatin1_0 : decode jb_isLatin1 0 = .ok (.getstatic 38, 3) := by decide +kernel
theorem jd_isLatin1_3 : decode jb_isLatin1 3 = .ok (.ifCond .eq 14, 3) := by decide +kernel
theorem jd_isLatin1_6 : decode jb_isLatin1 6 = .ok (.aload_n 0, 1) := by decide +kernel
theorem jd_isLatin1_7 : decode jb_isLatin1 7 = .ok (.getfield 15, 3) := by decide +kernel
theorem jd_isLatin1_10 : decode jb_isLatin1 10 = .ok (.ifCond .ne 7, 3) := by decide +kernel
theorem jd_isLatin1_13 : decode jb_isLatin1 13 = .ok (.iconst 1, 1) := by decide +kernel
theorem jd_isLatin1_14 : decode jb_isLatin1 14 = .ok (.goto 4, 3) := by decide +kernel
theorem jd_isLatin1_17 : decode jb_isLatin1 17 = .ok (.iconst 0, 1) := by decide +kernel
theorem jd_isLatin1_18 : decode jb_isLatin1 18 = .ok (.ireturn, 1) := by decide +kernel
def jy_charAt : MethodName := ⟨"java/lang/String", "charAt", "(I)C"⟩
abbrev jb_charAt : ByteArray := prog_17_method_56_code
theorem jc_charAt : Cond.code jy_charAt jb_charAt 2 (some .char) ∈ vt := vt_of (i := 196) (by decide +kernel) rfl
theorem jd_charAt_0 : decode jb_charAt 0 = .ok (.aload_n 0, 1) := by decide +kernel
theorem jd_charAt_1 : decode jb_charAt 1 = .ok (.invokevirtual 492, 3) := by decide +kernel
theorem jd_charAt_4 : decode jb_charAt 4 = .ok (.ifCond .eq 12, 3) := by decide +kernel
theorem jd_charAt_7 : decode jb_charAt 7 = .ok (.aload_n 0, 1) := by decide +kernel
theorem jd_charAt_8 : decode jb_charAt 8 = .ok (.getfield 9, 3) := by decide +kernel
theorem jd_charAt_11 : decode jb_charAt 11 = .ok (.iload_n 1, 1) := by decide +kernel
theorem jd_charAt_12 : decode jb_charAt 12 = .ok (.invokestatic 495, 3) := by decide +kernel
theorem jd_charAt_15 : decode jb_charAt 15 = .ok (.ireturn, 1) := by decide +kernel
theorem jd_charAt_16 : decode jb_charAt 16 = .ok (.aload_n 0, 1) := by decide +kernel
theorem jd_charAt_17 : decode jb_charAt 17 = .ok (.getfield 9, 3) := by decide +kernel
theorem jd_charAt_20 : decode jb_charAt 20 = .ok (.iload_n 1, 1) := by decide +kernel
theorem jd_charAt_21 : decode jb_charAt 21 = .ok (.invokestatic 498, 3) := by decide +kernel
theorem jd_charAt_24 : decode jb_charAt 24 = .ok (.ireturn, 1) := by decide +kernel
def jy_lcharAt : MethodName := ⟨"java/lang/StringLatin1", "charAt", "([BI)C"⟩
abbrev jb_lcharAt : ByteArray := prog_18_method_2_code
theorem jc_lcharAt : Cond.code jy_lcharAt jb_lcharAt 2 (some .char) ∈ vt := vt_of (i := 203) (by decide +kernel) rfl
theorem jd_lcharAt_0 : decode jb_lcharAt 0 = .ok (.iload_n 1, 1) := by decide +kernel
theorem jd_lcharAt_1 : decode jb_lcharAt 1 = .ok (.aload_n 0, 1) := by decide +kernel
theorem jd_lcharAt_2 : decode jb_lcharAt 2 = .ok (.arraylength, 1) := by decide +kernel
theorem jd_lcharAt_3 : decode jb_lcharAt 3 = .ok (.invokestatic 9, 3) := by decide +kernel
theorem jd_lcharAt_6 : decode jb_lcharAt 6 = .ok (.aload_n 0, 1) := by decide +kernel
theorem jd_lcharAt_7 : decode jb_lcharAt 7 = .ok (.iload_n 1, 1) := by decide +kernel
theorem jd_lcharAt_8 : decode jb_lcharAt 8 = .ok (.baload, 1) := by decide +kernel
theorem jd_lcharAt_9 : decode jb_lcharAt 9 = .ok (.sipush 255, 3) := by decide +kernel
theorem jd_lcharAt_12 : decode jb_lcharAt 12 = .ok (.iand, 1) := by decide +kernel
theorem jd_lcharAt_13 : decode jb_lcharAt 13 = .ok (.i2c, 1) := by decide +kernel
theorem jd_lcharAt_14 : decode jb_lcharAt 14 = .ok (.ireturn, 1) := by decide +kernel
def jy_checkIndex : MethodName := ⟨"java/lang/String", "checkIndex", "(II)V"⟩
abbrev jb_checkIndex : ByteArray := prog_17_method_155_code
theorem jc_checkIndex : Cond.code jy_checkIndex jb_checkIndex 2 none ∈ vt := vt_of (i := 206) (by decide +kernel) rfl
theorem jd_checkIndex_0 : decode jb_checkIndex 0 = .ok (.iload_n 0, 1) := by decide +kernel
theorem jd_checkIndex_1 : decode jb_checkIndex 1 = .ok (.iload_n 1, 1) := by decide +kernel
theorem jd_checkIndex_2 : decode jb_checkIndex 2 = .ok (.getstatic 1053, 3) := by decide +kernel
theorem jd_checkIndex_5 : decode jb_checkIndex 5 = .ok (.invokestatic 1059, 3) := by decide +kernel
theorem jd_checkIndex_8 : decode jb_checkIndex 8 = .ok (.pop, 1) := by decide +kernel
theorem jd_checkIndex_9 : decode jb_checkIndex 9 = .ok (.return_, 1) := by decide +kernel
def jy_pcheck : MethodName := ⟨"jdk/internal/util/Preconditions", "checkIndex", "(IILjava/util/function/BiFunction;)I"⟩
abbrev jb_pcheck : ByteArray := prog_22_method_11_code
theorem jc_pcheck : Cond.code jy_pcheck jb_pcheck 3 (some .int) ∈ vt := vt_of (i := 211) (by decide +kernel) rfl
theorem jd_pcheck_0 : decode jb_pcheck 0 = .ok (.iload_n 0, 1) := by decide +kernel
theorem jd_pcheck_1 : decode jb_pcheck 1 = .ok (.ifCond .lt 8, 3) := by decide +kernel
theorem jd_pcheck_4 : decode jb_pcheck 4 = .ok (.iload_n 0, 1) := by decide +kernel
theorem jd_pcheck_5 : decode jb_pcheck 5 = .ok (.iload_n 1, 1) := by decide +kernel
theorem jd_pcheck_6 : decode jb_pcheck 6 = .ok (.if_icmp .lt 10, 3) := by decide +kernel
theorem jd_pcheck_9 : decode jb_pcheck 9 = .ok (.aload_n 2, 1) := by decide +kernel
theorem jd_pcheck_10 : decode jb_pcheck 10 = .ok (.iload_n 0, 1) := by decide +kernel
theorem jd_pcheck_11 : decode jb_pcheck 11 = .ok (.iload_n 1, 1) := by decide +kernel
theorem jd_pcheck_12 : decode jb_pcheck 12 = .ok (.invokestatic 95, 3) := by decide +kernel
theorem jd_pcheck_15 : decode jb_pcheck 15 = .ok (.athrow, 1) := by decide +kernel
theorem jd_pcheck_16 : decode jb_pcheck 16 = .ok (.iload_n 0, 1) := by decide +kernel
theorem jd_pcheck_17 : decode jb_pcheck 17 = .ok (.ireturn, 1) := by decide +kernel
theorem jw_f38 : Cond.fieldLink "java/lang/String" 38 "java/lang/String" "COMPACT_STRINGS" "Z" ∈ vt := vt_of (i := 191) (by decide +kernel) rfl
theorem jw_f15 : Cond.fieldLink "java/lang/String" 15 "java/lang/String" "coder" "B" ∈ vt := vt_of (i := 1599) (by decide +kernel) rfl
theorem jw_f9 : Cond.fieldLink "java/lang/String" 9 "java/lang/String" "value" "[B" ∈ vt := vt_of (i := 1598) (by decide +kernel) rfl
theorem jw_f1053 : Cond.fieldLink "java/lang/String" 1053 "jdk/internal/util/Preconditions" "SIOOBE_FORMATTER" "Ljava/util/function/BiFunction;" ∈ vt := vt_of (i := 207) (by decide +kernel) rfl
theorem jw_m335 : Cond.methodLink "java/lang/String" 335 jy_coder ∈ vt := vt_of (i := 187) (by decide +kernel) rfl
theorem jw_m492 : Cond.methodLink "java/lang/String" 492 jy_isLatin1 ∈ vt := vt_of (i := 197) (by decide +kernel) rfl
theorem jw_m495 : Cond.methodLink "java/lang/String" 495 jy_lcharAt ∈ vt := vt_of (i := 201) (by decide +kernel) rfl
theorem jw_m9 : Cond.methodLink "java/lang/StringLatin1" 9 jy_checkIndex ∈ vt := vt_of (i := 204) (by decide +kernel) rfl
theorem jw_m1059 : Cond.methodLink "java/lang/String" 1059 jy_pcheck ∈ vt := vt_of (i := 209) (by decide +kernel) rfl
theorem jw_k_coder : Cond.instanceMethod jy_coder ∈ vt := vt_of (i := 188) (by decide +kernel) rfl
theorem jw_s_coder : Cond.selects "java/lang/String" jy_coder jy_coder ∈ vt := vt_of (i := 189) (by decide +kernel) rfl
theorem jw_k_length : Cond.instanceMethod jy_length ∈ vt := vt_of (i := 184) (by decide +kernel) rfl
theorem jw_s_length : Cond.selects "java/lang/String" jy_length jy_length ∈ vt := vt_of (i := 185) (by decide +kernel) rfl
theorem jw_k_isLatin1 : Cond.instanceMethod jy_isLatin1 ∈ vt := vt_of (i := 198) (by decide +kernel) rfl
theorem jw_s_isLatin1 : Cond.selects "java/lang/String" jy_isLatin1 jy_isLatin1 ∈ vt := vt_of (i := 199) (by decide +kernel) rfl
theorem jw_k_charAt : Cond.instanceMethod jy_charAt ∈ vt := vt_of (i := 194) (by decide +kernel) rfl
theorem jw_s_charAt : Cond.selects "java/lang/String" jy_charAt jy_charAt ∈ vt := vt_of (i := 195) (by decide +kernel) rfl
theorem jw_k_lcharAt : Cond.static jy_lcharAt ∈ vt := vt_of (i := 202) (by decide +kernel) rfl
theorem jw_k_checkIndex : Cond.static jy_checkIndex ∈ vt := vt_of (i := 205) (by decide +kernel) rfl
theorem jw_k_pcheck : Cond.static jy_pcheck ∈ vt := vt_of (i := 210) (by decide +kernel) rfl
theorem jw_iS : Cond.initialized "java/lang/String" ∈ vt := vt_of (i := 66) (by decide +kernel) rfl
theorem jw_iL : Cond.initialized "java/lang/StringLatin1" ∈ vt := vt_of (i := 67) (by decide +kernel) rfl
theorem jw_iP : Cond.initialized "jdk/internal/util/Preconditions" ∈ vt := vt_of (i := 68) (by decide +kernel) rfl
def vm_X (b0 aS aV : Nat) (U : State) : Prop := vk_R "PupilCoin$Reader" 31 vm_txt aS U ∧ vk_S 1 [vm_by.length] [vm_by] (fun _ => aS) (fun _ => aV) (fun q => b0 ≤ q) U U.heap ∧ va_Z "java/lang/String" "COMPACT_STRINGS" "Z" (.int 1) (fun q => b0 ≤ q) U U.heap ∧ va_Zq "jdk/internal/util/Preconditions" "SIOOBE_FORMATTER" "Ljava/util/function/BiFunction;" (fun q => b0 ≤ q) U U.heap
theorem vm_X_call {b0 aS aV : Nat} (U : State) (f : JFrame) (mk : MethodId) (a : Array Value) (h : vm_X b0 aS aV U) : vm_X b0 aS aV (U.calling f mk a) :=
  ⟨vk_R.same (u := U) (U := U.calling f mk a) rfl h.1, vk_S.moved (u := U) (U := U.calling f mk a) (Vm.Alike.refl U.vm) h.2.1, va_Z.moved (u := U) (U := U.calling f mk a) (Vm.Alike.refl U.vm) h.2.2.1, va_Zq.moved (u := U) (U := U.calling f mk a) (Vm.Alike.refl U.vm) h.2.2.2⟩
theorem vm_X_warm {b0 aS aV : Nat} (s U : State) (h : vm_X b0 aS aV s) (hW : s.WarmedH U.vm) (hF : va_F (fun q => b0 ≤ q) s U) : vm_X b0 aS aV U :=
  ⟨vk_R.warm hW h.1, (vk_S.moved (U := U) hW.alike h.2.1).kept hF.2, (va_Z.moved (U := U) hW.alike h.2.2.1).kept hF.2, (va_Zq.moved (U := U) hW.alike h.2.2.2).kept hF.2⟩
def js_room (d : Nat) : Room := { frames := d, cells := 0, slots := 0, locals := 40 * d }
def js_P (b0 aS aV : Nat) (as : List Value) : Array Value → State → Prop := va_Pc as (vm_X b0 aS aV)
def js_Q (rv : Option Value) : Array Value → State → Outcome → State → Prop := fun _ st oc t => oc = .returned rv ∧ t.heap = st.heap
theorem js_blind {b0 aS aV : Nat} {as : List Value} : FrameBlind (js_P b0 aS aV as) := fun a U f mk h => ⟨h.1, vm_X_call U f mk a h.2⟩
theorem js_good {y : MethodName} {cc : ByteArray} {ml : Nat} {ret : Option FieldType} (h : Cond.code y cc ml ret ∈ vt) : GoodIn vt (Cond.code y cc ml ret :: vt) := fun w hw => by
  rcases List.mem_cons.mp hw with rfl | hw
  · exact vm_good _ h
  · exact vm_good _ hw
theorem js_goodV {y : MethodName} {own C : String} {i : Nat} {cc : ByteArray} {ml : Nat} {ret : Option FieldType} (h : Cond.code y cc ml ret ∈ vt) (h1 : Cond.methodLink own i y ∈ vt) (h2 : Cond.instanceMethod y ∈ vt) (h3 : Cond.selects C y y ∈ vt) (h4 : Cond.initialized C ∈ vt) : GoodIn vt (wsV own i C y (Cond.code y cc ml ret :: vt)) := fun w hw => by
  unfold wsV at hw
  rcases List.mem_append.mp hw with hw | hw
  · simp only [List.mem_cons, List.not_mem_nil, or_false] at hw
    rcases hw with rfl | rfl | rfl | rfl
    · exact vm_good _ h1
    · exact vm_good _ h2
    · exact vm_good _ h3
    · exact vm_good _ h4
  · exact js_good h _ hw
theorem js_call {p : Program} {l : Launch} {e : Env} {R : Room} {s : State} {m : MethodId} {args : Array Value} {below : List Frame} {meth : Method} {c : Code} {Q : State → Prop} {H : Heap} {locs : List Loc} {cells slots : Nat} {pc : Nat} {ls : Array Slot} {rest st0 : List Value} {a : Array Value} {b0 : Nat} {rv : Option Value}
    (hr : va_Run p l e R s m args below meth c H locs cells slots 0 0 (F0 m pc ls st0) rest (js_Q rv a) (fun q => b0 ≤ q)) {H0 : Heap} (hS : va_S (fun q => b0 ≤ q) H0 H locs)
    (kk : ∀ (locs1 : List Loc), va_S (fun q => b0 ≤ q) H0 H locs1 → W p l e R s m args below meth c H locs1 cells slots Q (F0 m (pc + 3) ls (rv.toList ++ rest))) : W p l e R s m args below meth c H locs cells slots Q (F0 m pc ls st0) := by
  intro T hT X
  obtain ⟨v, st₀, t, T', L, h0, X', hL, e1, e2, ⟨hv, hh⟩, st⟩ := hr T hT X
  have hv : v = rv := by injection hv
  subst hv
  obtain ⟨t2, a1, b1⟩ := kk (locs ++ L) ⟨hS.1, hS.2.1, fun q hq => by
      rcases List.mem_append.mp hq with h | h
      · exact hS.2.2 q h
      · exact hL q h⟩ T' (by rw [e1, hh, h0]) X'
  exact ⟨t2, st t2 a1, b1⟩
theorem vp_lt {i : Int32} {n : Nat} (h : vp_in i n) : i.toNatClampNeg < n := Nat.not_le.mp fun q => h (Or.inr q)
theorem vm_by_all : vm_by.all (fun v => decide ((v &&& 255).toUInt32.toUInt16.toUInt32.toInt32 = v) && decide (narrow .char (.int v) = .int v)) = true := by decide +kernel
theorem vm_by_c {k : Nat} (h : k < vm_by.length) : ((vm_by.getD k 0) &&& 255).toUInt32.toUInt16.toUInt32.toInt32 = vm_by.getD k 0 ∧ narrow .char (.int (vm_by.getD k 0)) = .int (vm_by.getD k 0) := by
  have hm : vm_by.getD k 0 ∈ vm_by := by
    rw [List.getD_eq_getElem?_getD, List.getElem?_eq_getElem h]
    exact List.getElem_mem h
  have h2 := List.all_eq_true.mp vm_by_all _ hm
  simp only [Bool.and_eq_true, decide_eq_true_eq] at h2
  exact h2
set_option maxHeartbeats 1000000 in
theorem jm_coder (l : Launch) (b0 aS aV : Nat) : Met l jy_coder (.code jy_coder jb_coder 1 (some .byte) :: vt) (js_room 0) (js_P b0 aS aV [.ref aS]) (js_Q (some (.int 0))) 0 0 (fun q => b0 ≤ q) := by
  refine Met.ofW (cc := jb_coder) (maxL := 1) (ret := (some .byte)) (by decide) rfl ?_
  intro p e s m args below meth c s₁ B hml hv
  obtain ⟨rfl, hX⟩ := hv
  have hx := B.exec
  have hb := B.bytes
  have hr := B.returns
  have hlocks := B.notSynchronized
  have hts0 := atoms_spec (ws := Cond.code jy_coder jb_coder 1 (some .byte) :: vt) B.pre
  have hts : ∀ w ∈ vt, w.before ([.ref aS] : List Value).toArray s = true := fun w hw => hts0 w (List.mem_cons_of_mem _ hw)
  have hown : s.vm.findClass jy_coder.cls = some m.cls := findClass_of_methodNamed B.named
  have hS : va_S (fun q => b0 ≤ q) s.heap s.heap [] := va_S.rf
  have hl := lv_entry ([.ref aS] : List Value) (n := 1) (Nat.le_of_ble_eq_true rfl)
  have hpre : ∀ U : State, U.heap = s.heap → s.WarmedH U.vm → vm_X b0 aS aV U := fun U hU hW => vm_X_warm s U hX hW ⟨by rw [hU]; exact Nat.le_refl _, fun _ _ _ => by rw [hU]⟩
  obtain ⟨hR, hE, hC, hF⟩ := id hX
  obtain ⟨h1, h2, h3, h4⟩ := hE.1 0 (by omega)
  simp only [List.getD_cons_zero] at h4
  rw [lg_entry_eq]
  generalize (lg_sl ([.ref aS] : List Value) ++ List.replicate (1 - (lg_sl ([.ref aS] : List Value)).length) Slot.unset).toArray = ls at hl ⊢
  refine va_gets hx hb hC hS hown (hts _ jw_f38) (fun _ h => h) jd_coder_0 ?_
  refine lv_if_eq (tgt := 13) hx hb jd_coder_3 (by decide) (fun h => absurd h (by decide)) (fun _ => ?_)
  refine lv_aload_n hx hb jd_coder_6 rfl (lv_at hl 0 rfl) ?_
  refine vk_getf hx hb h2 hS hown (hts _ jw_f15) (fun _ h => h) jd_coder_7 ?_
  refine lv_goto (tgt := 14) hx hb jd_coder_10 (by decide) ?_
  exact W.zret hx hb (hr.trans rfl) rfl (fun t ht _ => ⟨rfl, ht⟩) hS.2.2 jd_coder_14
set_option maxHeartbeats 1000000 in
theorem jm_isLatin1 (l : Launch) (b0 aS aV : Nat) : Met l jy_isLatin1 (.code jy_isLatin1 jb_isLatin1 1 (some .boolean) :: vt) (js_room 0) (js_P b0 aS aV [.ref aS]) (js_Q (some (.int 1))) 0 0 (fun q => b0 ≤ q) := by
  refine Met.ofW (cc := jb_isLatin1) (maxL := 1) (ret := (some .boolean)) (by decide) rfl ?_
  intro p e s m args below meth c s₁ B hml hv
  obtain ⟨rfl, hX⟩ := hv
  have hx := B.exec
  have hb := B.bytes
  have hr := B.returns
  have hlocks := B.notSynchronized
  have hts0 := atoms_spec (ws := Cond.code jy_isLatin1 jb_isLatin1 1 (some .boolean) :: vt) B.pre
  have hts : ∀ w ∈ vt, w.before ([.ref aS] : List Value).toArray s = true := fun w hw => hts0 w (List.mem_cons_of_mem _ hw)
  have hown : s.vm.findClass jy_isLatin1.cls = some m.cls := findClass_of_methodNamed B.named
  have hS : va_S (fun q => b0 ≤ q) s.heap s.heap [] := va_S.rf
  have hl := lv_entry ([.ref aS] : List Value) (n := 1) (Nat.le_of_ble_eq_true rfl)
  have hpre : ∀ U : State, U.heap = s.heap → s.WarmedH U.vm → vm_X b0 aS aV U := fun U hU hW => vm_X_warm s U hX hW ⟨by rw [hU]; exact Nat.le_refl _, fun _ _ _ => by rw [hU]⟩
  obtain ⟨hR, hE, hC, hF⟩ := id hX
  obtain ⟨h1, h2, h3, h4⟩ := hE.1 0 (by omega)
  simp only [List.getD_cons_zero] at h4
  rw [lg_entry_eq]
  generalize (lg_sl ([.ref aS] : List Value) ++ List.replicate (1 - (lg_sl ([.ref aS] : List Value)).length) Slot.unset).toArray = ls at hl ⊢
  refine va_gets hx hb hC hS hown (hts _ jw_f38) (fun _ h => h) jd_isLatin1_0 ?_
  refine lv_if_eq (tgt := 17) hx hb jd_isLatin1_3 (by decide) (fun h => absurd h (by decide)) (fun _ => ?_)
  refine lv_aload_n hx hb jd_isLatin1_6 rfl (lv_at hl 0 rfl) ?_
  refine vk_getf hx hb h2 hS hown (hts _ jw_f15) (fun _ h => h) jd_isLatin1_7 ?_
  refine lv_if_ne (tgt := 17) hx hb jd_isLatin1_10 (by decide) (fun h => absurd rfl h) (fun _ => ?_)
  refine lv_iconst (v := 1) hx hb jd_isLatin1_13 (by decide) ?_
  refine lv_goto (tgt := 18) hx hb jd_isLatin1_14 (by decide) ?_
  exact W.zret hx hb (hr.trans rfl) rfl (fun t ht _ => ⟨rfl, ht⟩) hS.2.2 jd_isLatin1_18
set_option maxHeartbeats 1000000 in
theorem jm_length (l : Launch) (b0 aS aV : Nat) : Met l jy_length (.code jy_length jb_length 1 (some .int) :: vt) (js_room 1) (js_P b0 aS aV [.ref aS]) (js_Q (some (.int (Int32.ofNat vm_by.length)))) 0 0 (fun q => b0 ≤ q) := by
  refine Met.ofW (cc := jb_length) (maxL := 1) (ret := (some .int)) (by decide) rfl ?_
  intro p e s m args below meth c s₁ B hml hv
  obtain ⟨rfl, hX⟩ := hv
  have hx := B.exec
  have hb := B.bytes
  have hr := B.returns
  have hlocks := B.notSynchronized
  have hts0 := atoms_spec (ws := Cond.code jy_length jb_length 1 (some .int) :: vt) B.pre
  have hts : ∀ w ∈ vt, w.before ([.ref aS] : List Value).toArray s = true := fun w hw => hts0 w (List.mem_cons_of_mem _ hw)
  have hown : s.vm.findClass jy_length.cls = some m.cls := findClass_of_methodNamed B.named
  have hS : va_S (fun q => b0 ≤ q) s.heap s.heap [] := va_S.rf
  have hl := lv_entry ([.ref aS] : List Value) (n := 1) (Nat.le_of_ble_eq_true rfl)
  have hpre : ∀ U : State, U.heap = s.heap → s.WarmedH U.vm → vm_X b0 aS aV U := fun U hU hW => vm_X_warm s U hX hW ⟨by rw [hU]; exact Nat.le_refl _, fun _ _ _ => by rw [hU]⟩
  obtain ⟨hR, hE, hC, hF⟩ := id hX
  obtain ⟨h1, h2, h3, h4⟩ := hE.1 0 (by omega)
  simp only [List.getD_cons_zero] at h4
  rw [lg_entry_eq]
  generalize (lg_sl ([.ref aS] : List Value) ++ List.replicate (1 - (lg_sl ([.ref aS] : List Value)).length) Slot.unset).toArray = ls at hl ⊢
  refine lv_aload_n hx hb jd_length_0 rfl (lv_at hl 0 rfl) ?_
  refine vk_getf hx hb h3 hS hown (hts _ jw_f9) (fun _ h => h) jd_length_1 ?_
  refine va_tlen hx hb h4 hS (v := Int32.ofNat vm_by.length) rfl jd_length_4 ?_
  refine lv_aload_n hx hb jd_length_5 rfl (lv_at hl 0 rfl) ?_
  refine js_call (va_runV (As := []) (rest := [.int (Int32.ofNat vm_by.length)]) (C := "java/lang/String") (b := aS) ⟨hx, hb, hml, hown, hts⟩ (jm_coder l b0 aS aV) (cwV 0 hts (js_goodV jc_coder jw_m335 jw_k_coder jw_s_coder jw_iS) rfl rfl rfl ⟨rfl, by decide, by decide, by decide +kernel⟩ ⟨Nat.le_of_ble_eq_true rfl, Nat.le_of_ble_eq_true rfl⟩) ⟨js_blind, vk_recv hE (by omega : 0 < 1) hS, fun U hU hW => ⟨rfl, hpre U hU hW⟩⟩ rfl rfl hl.1 rfl (lv_room (Nat.le_of_ble_eq_true rfl)) jd_length_6 ⟨Nat.le_of_ble_eq_true rfl, Nat.le_of_ble_eq_true rfl⟩) hS (fun locs hS => ?_)
  refine lv_ishr hx hb jd_length_9 ?_
  have e0 : Int32.ofNat vm_by.length >>> ((0 : Int32) &&& 31) = Int32.ofNat vm_by.length := by decide +kernel
  rw [e0]
  exact W.zret hx hb (hr.trans rfl) rfl (fun t ht _ => ⟨rfl, ht⟩) hS.2.2 jd_length_10
set_option maxHeartbeats 1000000 in
theorem jm_pcheckN (l : Launch) (b0 aS aV : Nat) (i k : Int32) (hi : ¬ i < 0 ∧ i < k) : Met l jy_pcheck (.code jy_pcheck jb_pcheck 3 (some .int) :: vt) (js_room 0) (js_P b0 aS aV [.int i, .int k, .null]) (js_Q (some (.int i))) 0 0 (fun q => b0 ≤ q) := by
  refine Met.ofW (cc := jb_pcheck) (maxL := 3) (ret := (some .int)) (by decide) rfl ?_
  intro p e s m args below meth c s₁ B hml hv
  obtain ⟨rfl, hX⟩ := hv
  have hx := B.exec
  have hb := B.bytes
  have hr := B.returns
  have hlocks := B.notSynchronized
  have hts0 := atoms_spec (ws := Cond.code jy_pcheck jb_pcheck 3 (some .int) :: vt) B.pre
  have hts : ∀ w ∈ vt, w.before ([.int i, .int k, .null] : List Value).toArray s = true := fun w hw => hts0 w (List.mem_cons_of_mem _ hw)
  have hown : s.vm.findClass jy_pcheck.cls = some m.cls := findClass_of_methodNamed B.named
  have hS : va_S (fun q => b0 ≤ q) s.heap s.heap [] := va_S.rf
  have hl := lv_entry ([.int i, .int k, .null] : List Value) (n := 3) (Nat.le_of_ble_eq_true rfl)
  have hpre : ∀ U : State, U.heap = s.heap → s.WarmedH U.vm → vm_X b0 aS aV U := fun U hU hW => vm_X_warm s U hX hW ⟨by rw [hU]; exact Nat.le_refl _, fun _ _ _ => by rw [hU]⟩
  obtain ⟨hR, hE, hC, hF⟩ := id hX
  obtain ⟨h1, h2, h3, h4⟩ := hE.1 0 (by omega)
  simp only [List.getD_cons_zero] at h4
  rw [lg_entry_eq]
  generalize (lg_sl ([.int i, .int k, .null] : List Value) ++ List.replicate (3 - (lg_sl ([.int i, .int k, .null] : List Value)).length) Slot.unset).toArray = ls at hl ⊢
  have hl : lv_has ls 3 [(0, .int i), (1, .int k)] := lv_sub hl [0, 1] rfl
  refine lv_iload_n hx hb jd_pcheck_0 rfl (lv_at hl 0 rfl) ?_
  refine lv_if_lt (tgt := 9) hx hb jd_pcheck_1 (by decide) (fun h => absurd h hi.1) (fun _ => ?_)
  refine lv_iload_n hx hb jd_pcheck_4 rfl (lv_at hl 0 rfl) ?_
  refine lv_iload_n hx hb jd_pcheck_5 rfl (lv_at hl 1 rfl) ?_
  refine lv_icmp_lt (tgt := 16) hx hb jd_pcheck_6 (by decide) (fun _ => ?_) (fun h => absurd hi.2 h)
  refine lv_iload_n hx hb jd_pcheck_16 rfl (lv_at hl 0 rfl) ?_
  exact W.zret hx hb (hr.trans rfl) rfl (fun t ht _ => ⟨rfl, ht⟩) hS.2.2 jd_pcheck_17
set_option maxHeartbeats 1000000 in
theorem jm_pcheckR (l : Launch) (b0 aS aV : Nat) (i k : Int32) (q : Nat) (hi : ¬ i < 0 ∧ i < k) : Met l jy_pcheck (.code jy_pcheck jb_pcheck 3 (some .int) :: vt) (js_room 0) (js_P b0 aS aV [.int i, .int k, .ref q]) (js_Q (some (.int i))) 0 0 (fun q => b0 ≤ q) := by
  refine Met.ofW (cc := jb_pcheck) (maxL := 3) (ret := (some .int)) (by decide) rfl ?_
  intro p e s m args below meth c s₁ B hml hv
  obtain ⟨rfl, hX⟩ := hv
  have hx := B.exec
  have hb := B.bytes
  have hr := B.returns
  have hlocks := B.notSynchronized
  have hts0 := atoms_spec (ws := Cond.code jy_pcheck jb_pcheck 3 (some .int) :: vt) B.pre
  have hts : ∀ w ∈ vt, w.before ([.int i, .int k, .ref q] : List Value).toArray s = true := fun w hw => hts0 w (List.mem_cons_of_mem _ hw)
  have hown : s.vm.findClass jy_pcheck.cls = some m.cls := findClass_of_methodNamed B.named
  have hS : va_S (fun q => b0 ≤ q) s.heap s.heap [] := va_S.rf
  have hl := lv_entry ([.int i, .int k, .ref q] : List Value) (n := 3) (Nat.le_of_ble_eq_true rfl)
  have hpre : ∀ U : State, U.heap = s.heap → s.WarmedH U.vm → vm_X b0 aS aV U := fun U hU hW => vm_X_warm s U hX hW ⟨by rw [hU]; exact Nat.le_refl _, fun _ _ _ => by rw [hU]⟩
  obtain ⟨hR, hE, hC, hF⟩ := id hX
  obtain ⟨h1, h2, h3, h4⟩ := hE.1 0 (by omega)
  simp only [List.getD_cons_zero] at h4
  rw [lg_entry_eq]
  generalize (lg_sl ([.int i, .int k, .ref q] : List Value) ++ List.replicate (3 - (lg_sl ([.int i, .int k, .ref q] : List Value)).length) Slot.unset).toArray = ls at hl ⊢
  have hl : lv_has ls 3 [(0, .int i), (1, .int k)] := lv_sub hl [0, 1] rfl
  refine lv_iload_n hx hb jd_pcheck_0 rfl (lv_at hl 0 rfl) ?_
  refine lv_if_lt (tgt := 9) hx hb jd_pcheck_1 (by decide) (fun h => absurd h hi.1) (fun _ => ?_)
  refine lv_iload_n hx hb jd_pcheck_4 rfl (lv_at hl 0 rfl) ?_
  refine lv_iload_n hx hb jd_pcheck_5 rfl (lv_at hl 1 rfl) ?_
  refine lv_icmp_lt (tgt := 16) hx hb jd_pcheck_6 (by decide) (fun _ => ?_) (fun h => absurd hi.2 h)
  refine lv_iload_n hx hb jd_pcheck_16 rfl (lv_at hl 0 rfl) ?_
  exact W.zret hx hb (hr.trans rfl) rfl (fun t ht _ => ⟨rfl, ht⟩) hS.2.2 jd_pcheck_17
set_option maxHeartbeats 1000000 in
theorem jm_checkIndex (l : Launch) (b0 aS aV : Nat) (i k : Int32) (hi : ¬ i < 0 ∧ i < k) : Met l jy_checkIndex (.code jy_checkIndex jb_checkIndex 2 none :: vt) (js_room 1) (js_P b0 aS aV [.int i, .int k]) (js_Q none) 0 0 (fun q => b0 ≤ q) := by
  refine Met.ofW (cc := jb_checkIndex) (maxL := 2) (ret := none) (by decide) rfl ?_
  intro p e s m args below meth c s₁ B hml hv
  obtain ⟨rfl, hX⟩ := hv
  have hx := B.exec
  have hb := B.bytes
  have hr := B.returns
  have hlocks := B.notSynchronized
  have hts0 := atoms_spec (ws := Cond.code jy_checkIndex jb_checkIndex 2 none :: vt) B.pre
  have hts : ∀ w ∈ vt, w.before ([.int i, .int k] : List Value).toArray s = true := fun w hw => hts0 w (List.mem_cons_of_mem _ hw)
  have hown : s.vm.findClass jy_checkIndex.cls = some m.cls := findClass_of_methodNamed B.named
  have hS : va_S (fun q => b0 ≤ q) s.heap s.heap [] := va_S.rf
  have hl := lv_entry ([.int i, .int k] : List Value) (n := 2) (Nat.le_of_ble_eq_true rfl)
  have hpre : ∀ U : State, U.heap = s.heap → s.WarmedH U.vm → vm_X b0 aS aV U := fun U hU hW => vm_X_warm s U hX hW ⟨by rw [hU]; exact Nat.le_refl _, fun _ _ _ => by rw [hU]⟩
  obtain ⟨hR, hE, hC, hF⟩ := id hX
  obtain ⟨h1, h2, h3, h4⟩ := hE.1 0 (by omega)
  simp only [List.getD_cons_zero] at h4
  rw [lg_entry_eq]
  generalize (lg_sl ([.int i, .int k] : List Value) ++ List.replicate (2 - (lg_sl ([.int i, .int k] : List Value)).length) Slot.unset).toArray = ls at hl ⊢
  refine lv_iload_n hx hb jd_checkIndex_0 rfl (lv_at hl 0 rfl) ?_
  refine lv_iload_n hx hb jd_checkIndex_1 rfl (lv_at hl 1 rfl) ?_
  rcases hF with hF | ⟨q, hF⟩
  · refine va_gets hx hb hF hS hown (hts _ jw_f1053) (fun _ h => h) jd_checkIndex_2 ?_
    refine js_call (va_runS (As := [.int i, .int k, .null]) (rest := []) ⟨hx, hb, hml, hown, hts⟩ (jm_pcheckN l b0 aS aV i k hi) ⟨callB_of 3 hts (js_good jc_pcheck) rfl rfl rfl (hts _ jw_iP) (hts _ jw_m1059) ⟨by decide, by decide, by decide +kernel⟩ ⟨Nat.le_of_ble_eq_true rfl, Nat.le_of_ble_eq_true rfl⟩, hts _ jw_k_pcheck⟩ ⟨js_blind, fun U hU hW => ⟨rfl, hpre U hU hW⟩⟩ rfl rfl hl.1 rfl (lv_room (Nat.le_of_ble_eq_true rfl)) jd_checkIndex_5 ⟨Nat.le_of_ble_eq_true rfl, Nat.le_of_ble_eq_true rfl⟩) hS (fun locs hS => ?_)
    refine lv_pop hx hb jd_checkIndex_8 rfl ?_
    exact W.vret hx hb (hr.trans rfl) (fun t ht _ => ⟨rfl, ht⟩) hS.2.2 jd_checkIndex_9
  · refine va_gets hx hb hF hS hown (hts _ jw_f1053) (fun _ h => h) jd_checkIndex_2 ?_
    refine js_call (va_runS (As := [.int i, .int k, .ref q]) (rest := []) ⟨hx, hb, hml, hown, hts⟩ (jm_pcheckR l b0 aS aV i k q hi) ⟨callB_of 3 hts (js_good jc_pcheck) rfl rfl rfl (hts _ jw_iP) (hts _ jw_m1059) ⟨by decide, by decide, by decide +kernel⟩ ⟨Nat.le_of_ble_eq_true rfl, Nat.le_of_ble_eq_true rfl⟩, hts _ jw_k_pcheck⟩ ⟨js_blind, fun U hU hW => ⟨rfl, hpre U hU hW⟩⟩ rfl rfl hl.1 rfl (lv_room (Nat.le_of_ble_eq_true rfl)) jd_checkIndex_5 ⟨Nat.le_of_ble_eq_true rfl, Nat.le_of_ble_eq_true rfl⟩) hS (fun locs hS => ?_)
    refine lv_pop hx hb jd_checkIndex_8 rfl ?_
    exact W.vret hx hb (hr.trans rfl) (fun t ht _ => ⟨rfl, ht⟩) hS.2.2 jd_checkIndex_9
set_option maxHeartbeats 1000000 in
theorem jm_lcharAt (l : Launch) (b0 aS aV : Nat) (i : Int32) (hi : vp_in i vm_by.length) (hi2 : ¬ i < 0 ∧ i < Int32.ofNat vm_by.length) : Met l jy_lcharAt (.code jy_lcharAt jb_lcharAt 2 (some .char) :: vt) (js_room 2) (js_P b0 aS aV [.ref aV, .int i]) (js_Q (some (.int (vm_by.getD i.toNatClampNeg 0)))) 0 0 (fun q => b0 ≤ q) := by
  refine Met.ofW (cc := jb_lcharAt) (maxL := 2) (ret := (some .char)) (by decide) rfl ?_
  intro p e s m args below meth c s₁ B hml hv
  obtain ⟨rfl, hX⟩ := hv
  have hx := B.exec
  have hb := B.bytes
  have hr := B.returns
  have hlocks := B.notSynchronized
  have hts0 := atoms_spec (ws := Cond.code jy_lcharAt jb_lcharAt 2 (some .char) :: vt) B.pre
  have hts : ∀ w ∈ vt, w.before ([.ref aV, .int i] : List Value).toArray s = true := fun w hw => hts0 w (List.mem_cons_of_mem _ hw)
  have hown : s.vm.findClass jy_lcharAt.cls = some m.cls := findClass_of_methodNamed B.named
  have hS : va_S (fun q => b0 ≤ q) s.heap s.heap [] := va_S.rf
  have hl := lv_entry ([.ref aV, .int i] : List Value) (n := 2) (Nat.le_of_ble_eq_true rfl)
  have hpre : ∀ U : State, U.heap = s.heap → s.WarmedH U.vm → vm_X b0 aS aV U := fun U hU hW => vm_X_warm s U hX hW ⟨by rw [hU]; exact Nat.le_refl _, fun _ _ _ => by rw [hU]⟩
  obtain ⟨hR, hE, hC, hF⟩ := id hX
  obtain ⟨h1, h2, h3, h4⟩ := hE.1 0 (by omega)
  simp only [List.getD_cons_zero] at h4
  rw [lg_entry_eq]
  generalize (lg_sl ([.ref aV, .int i] : List Value) ++ List.replicate (2 - (lg_sl ([.ref aV, .int i] : List Value)).length) Slot.unset).toArray = ls at hl ⊢
  refine lv_iload_n hx hb jd_lcharAt_0 rfl (lv_at hl 1 rfl) ?_
  refine lv_aload_n hx hb jd_lcharAt_1 rfl (lv_at hl 0 rfl) ?_
  refine va_tlen hx hb h4 hS (v := Int32.ofNat vm_by.length) rfl jd_lcharAt_2 ?_
  refine js_call (va_runS (As := [.int i, .int (Int32.ofNat vm_by.length)]) (rest := []) ⟨hx, hb, hml, hown, hts⟩ (jm_checkIndex l b0 aS aV i (Int32.ofNat vm_by.length) hi2) ⟨callB_of 2 hts (js_good jc_checkIndex) rfl rfl rfl (hts _ jw_iS) (hts _ jw_m9) ⟨by decide, by decide, by decide +kernel⟩ ⟨Nat.le_of_ble_eq_true rfl, Nat.le_of_ble_eq_true rfl⟩, hts _ jw_k_checkIndex⟩ ⟨js_blind, fun U hU hW => ⟨rfl, hpre U hU hW⟩⟩ rfl rfl hl.1 rfl (lv_room (Nat.le_of_ble_eq_true rfl)) jd_lcharAt_3 ⟨Nat.le_of_ble_eq_true rfl, Nat.le_of_ble_eq_true rfl⟩) hS (fun locs hS => ?_)
  refine lv_aload_n hx hb jd_lcharAt_6 rfl (lv_at hl 0 rfl) ?_
  refine lv_iload_n hx hb jd_lcharAt_7 rfl (lv_at hl 1 rfl) ?_
  refine va_tb hx hb h4 hS hi (v := .int (vm_by.getD i.toNatClampNeg 0)) rfl jd_lcharAt_8 ?_
  refine lv_sipush (v := 255) hx hb jd_lcharAt_9 (by decide) ?_
  refine lv_iand hx hb jd_lcharAt_12 ?_
  refine lv_i2c (v := vm_by.getD i.toNatClampNeg 0) hx hb jd_lcharAt_13 (vm_by_c (vp_lt hi)).1 ?_
  exact W.zret hx hb (hr.trans rfl) (vm_by_c (vp_lt hi)).2 (fun t ht _ => ⟨rfl, ht⟩) hS.2.2 jd_lcharAt_14
set_option maxHeartbeats 1000000 in
theorem jm_charAt (l : Launch) (b0 aS aV : Nat) (i : Int32) (hi : vp_in i vm_by.length) (hi2 : ¬ i < 0 ∧ i < Int32.ofNat vm_by.length) : Met l jy_charAt (.code jy_charAt jb_charAt 2 (some .char) :: vt) (js_room 3) (js_P b0 aS aV [.ref aS, .int i]) (js_Q (some (.int (vm_by.getD i.toNatClampNeg 0)))) 0 0 (fun q => b0 ≤ q) := by
  refine Met.ofW (cc := jb_charAt) (maxL := 2) (ret := (some .char)) (by decide) rfl ?_
  intro p e s m args below meth c s₁ B hml hv
  obtain ⟨rfl, hX⟩ := hv
  have hx := B.exec
  have hb := B.bytes
  have hr := B.returns
  have hlocks := B.notSynchronized
  have hts0 := atoms_spec (ws := Cond.code jy_charAt jb_charAt 2 (some .char) :: vt) B.pre
  have hts : ∀ w ∈ vt, w.before ([.ref aS, .int i] : List Value).toArray s = true := fun w hw => hts0 w (List.mem_cons_of_mem _ hw)
  have hown : s.vm.findClass jy_charAt.cls = some m.cls := findClass_of_methodNamed B.named
  have hS : va_S (fun q => b0 ≤ q) s.heap s.heap [] := va_S.rf
  have hl := lv_entry ([.ref aS, .int i] : List Value) (n := 2) (Nat.le_of_ble_eq_true rfl)
  have hpre : ∀ U : State, U.heap = s.heap → s.WarmedH U.vm → vm_X b0 aS aV U := fun U hU hW => vm_X_warm s U hX hW ⟨by rw [hU]; exact Nat.le_refl _, fun _ _ _ => by rw [hU]⟩
  obtain ⟨hR, hE, hC, hF⟩ := id hX
  obtain ⟨h1, h2, h3, h4⟩ := hE.1 0 (by omega)
  simp only [List.getD_cons_zero] at h4
  rw [lg_entry_eq]
  generalize (lg_sl ([.ref aS, .int i] : List Value) ++ List.replicate (2 - (lg_sl ([.ref aS, .int i] : List Value)).length) Slot.unset).toArray = ls at hl ⊢
  refine lv_aload_n hx hb jd_charAt_0 rfl (lv_at hl 0 rfl) ?_
  refine js_call (va_runV (As := []) (rest := []) (C := "java/lang/String") (b := aS) ⟨hx, hb, hml, hown, hts⟩ (jm_isLatin1 l b0 aS aV) (cwV 0 hts (js_goodV jc_isLatin1 jw_m492 jw_k_isLatin1 jw_s_isLatin1 jw_iS) rfl rfl rfl ⟨rfl, by decide, by decide, by decide +kernel⟩ ⟨Nat.le_of_ble_eq_true rfl, Nat.le_of_ble_eq_true rfl⟩) ⟨js_blind, vk_recv hE (by omega : 0 < 1) hS, fun U hU hW => ⟨rfl, hpre U hU hW⟩⟩ rfl rfl hl.1 rfl (lv_room (Nat.le_of_ble_eq_true rfl)) jd_charAt_1 ⟨Nat.le_of_ble_eq_true rfl, Nat.le_of_ble_eq_true rfl⟩) hS (fun locs hS => ?_)
  refine lv_if_eq (tgt := 16) hx hb jd_charAt_4 (by decide) (fun h => absurd h (by decide)) (fun _ => ?_)
  refine lv_aload_n hx hb jd_charAt_7 rfl (lv_at hl 0 rfl) ?_
  refine vk_getf hx hb h3 hS hown (hts _ jw_f9) (fun _ h => h) jd_charAt_8 ?_
  refine lv_iload_n hx hb jd_charAt_11 rfl (lv_at hl 1 rfl) ?_
  refine js_call (va_runS (As := [.ref aV, .int i]) (rest := []) ⟨hx, hb, hml, hown, hts⟩ (jm_lcharAt l b0 aS aV i hi hi2) ⟨callB_of 2 hts (js_good jc_lcharAt) rfl rfl rfl (hts _ jw_iL) (hts _ jw_m495) ⟨by decide, by decide, by decide +kernel⟩ ⟨Nat.le_of_ble_eq_true rfl, Nat.le_of_ble_eq_true rfl⟩, hts _ jw_k_lcharAt⟩ ⟨js_blind, fun U hU hW => ⟨rfl, hpre U hU hW⟩⟩ rfl rfl hl.1 rfl (lv_room (Nat.le_of_ble_eq_true rfl)) jd_charAt_12 ⟨Nat.le_of_ble_eq_true rfl, Nat.le_of_ble_eq_true rfl⟩) hS (fun locs hS => ?_)
  exact W.zret hx hb (hr.trans rfl) (vm_by_c (vp_lt hi)).2 (fun t ht _ => ⟨rfl, ht⟩) hS.2.2 jd_charAt_15
theorem vm_in2 {i : Int32} (h : vp_in i vm_by.length) : ¬ i < 0 ∧ i < Int32.ofNat vm_by.length := by
  have h0 : ¬ i < 0 := fun z => h (Or.inl z)
  refine ⟨h0, Int32.lt_iff_toInt_lt.mpr ?_⟩
  have h1 : i.toNatClampNeg < vm_by.length := vp_lt h
  have e : i.toNatClampNeg = i.toInt.toNat := rfl
  have e2 : (Int32.ofNat vm_by.length).toInt = (vm_by.length : Int) := by decide +kernel
  rw [e2]
  omega
theorem vm_gg_str {b0 aS bX : Nat} : vm_gg b0 aS bX vm_str = aS := by
  unfold vm_gg vm_str
  rw [if_neg (Nat.lt_irrefl _), if_pos rfl]
theorem vm_Str_X {b0 aS aV bX : Nat} : vm_Str b0 (vm_gg b0 aS bX) (vm_X b0 aS aV) := by
  refine ⟨vm_X_call, vm_X_warm, ?_, ?_, ?_⟩
  · intro p l e R s m args below meth c H locs cells slots Q cc pc ls rest hx hb hown hX hdg k
    rw [vm_gg_str] at k
    exact va_ldcS hx hb hown hX.1 hdg k
  · intro p l e R s m args below meth c H locs cells slots Q cc pc ls rest nL i hx hb hml hls hown hts hX hS hf hlo hc hs hcat hlink hdg k
    rw [vm_gg_str]
    have hpre : ∀ U : State, U.heap = H → s.WarmedH U.vm → vm_X b0 aS aV U := fun U hU hW => vm_X_warm s U hX hW (hS.F hU)
    exact js_call (va_runV (As := []) (rest := rest) (C := "java/lang/String") (b := aS) ⟨hx, hb, hml, hown, hts⟩ (jm_length l b0 aS aV) (cwV 0 hts (js_goodV jc_length hlink jw_k_length jw_s_length jw_iS) rfl rfl rfl ⟨rfl, by decide, by decide, by decide +kernel⟩ ⟨by show 1 + 1 ≤ _; omega, by show 8 + (1 + 11) + 40 * 1 ≤ _; omega⟩) ⟨js_blind, vk_recv hX.2.1 (by omega : 0 < 1) hS, fun U hU hW => ⟨rfl, hpre U hU hW⟩⟩ rfl rfl hls rfl (lv_room hcat) hdg ⟨hc, hs⟩) hS (fun locs1 hS1 => k locs1 hS1)
  · intro p l e R s m args below meth c H locs cells slots Q cc pc ls rest nL i x hx hb hml hls hown hts hX hS hf hlo hc hs hcat hin hlink hdg k
    rw [vm_gg_str]
    have hpre : ∀ U : State, U.heap = H → s.WarmedH U.vm → vm_X b0 aS aV U := fun U hU hW => vm_X_warm s U hX hW (hS.F hU)
    exact js_call (va_runV (As := [.int x]) (rest := rest) (C := "java/lang/String") (b := aS) ⟨hx, hb, hml, hown, hts⟩ (jm_charAt l b0 aS aV x hin (vm_in2 hin)) (cwV 1 hts (js_goodV jc_charAt hlink jw_k_charAt jw_s_charAt jw_iS) rfl rfl rfl ⟨rfl, by decide, by decide, by decide +kernel⟩ ⟨by show 3 + 1 ≤ _; omega, by show 8 + (2 + 11) + 40 * 3 ≤ _; omega⟩) ⟨js_blind, vk_recv hX.2.1 (by omega : 0 < 1) hS, fun U hU hW => ⟨rfl, hpre U hU hW⟩⟩ rfl rfl hls rfl (lv_room hcat) hdg ⟨hc, hs⟩) hS (fun locs1 hS1 => k locs1 hS1)
