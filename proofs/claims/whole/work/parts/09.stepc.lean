set_option maxHeartbeats 1000000 in
set_option maxRecDepth 20000 in
theorem vm_step_invokevirtual {p : Program} {l : Launch} {e : Env} {R : Room} {s : State} {m : MethodId} {args : Array Value} {below : List Frame} {meth : Method} {c : Code} {Q : State → Prop} {cc : ByteArray} {O : Nat → List Value → vm_M → vm_R → Prop} {L : Nat} {xs : Nat → Int32} {own : Nat} {ini : Bool} {nL n0 s0 b0 d : Nat} {g : Nat → Nat} {cA : Nat → ClassId} {D : va_G} {X : State → Prop} {r : vm_R}
    (hx : p.tables.exec = Jvm.exec) (hb : c.code = cc) (hml : c.maxLocals = nL) (hown : s.vm.findClass (vg_O own) = some m.cls) (hts : ∀ w ∈ vt, w.before args s = true) (hK : va_K D vg_cl (vm_tys cA) s) (hN : vm_Nx s) (hX : X s) (hXs : vm_Str b0 g X)
    (hin : ini = true → meth.name = "<init>") (hscr : own = 12 → va_X (g vm_scr) L xs s s.heap ∧ g vm_scr < s.heap.size ∧ ¬ b0 ≤ g vm_scr) (hg : ∀ q, q < 1099511627776 → g q = b0 + q) (hh0 : s.heap.size = b0 + n0) (hnr : vm_n r.2 ≤ 1099511627776)
    (hRc : vm_n r.2 - n0 ≤ R.cells) (hRs : vm_s r.2 - s0 ≤ R.slots) (hRf : d + 9 ≤ R.frames) (hRl : 100 * (d + 9) ≤ R.locals)
    (hO : ∀ i as M r', O i as M r' → vm_n M ≤ vm_n r'.2 ∧ vm_s M ≤ vm_s r'.2 ∧ (i < 203 → vm_n r'.2 ≤ 1099511627776 → vm_Ok l g cA D b0 X d i as M r')) {E : Nat → vm_L → List Value → vm_M → Prop}
    (ih : ∀ pc lv st M, E pc lv st M → n0 ≤ vm_n M → s0 ≤ vm_s M → ∀ (H : Heap) (locs : List Loc) (ls : Array Slot), lv_has ls nL (vm_trl g lv) → vm_In g cA D M H → va_S (fun q => b0 ≤ q) s.heap H locs → W p l e R s m args below meth c H locs (vm_n M - n0) (vm_s M - s0) Q (F0 m pc ls (st.map (vm_tr g))))
    (hup : ∀ pc lv st M, E pc lv st M → vm_up M r)
    (hret : ∀ pc ins (H : Heap) (locs : List Loc) (ls : Array Slot), decode cc pc = .ok (ins, 1) → vm_isr ins r.1 → vm_In g cA D r.2 H → va_S (fun q => b0 ≤ q) s.heap H locs → W p l e R s m args below meth c H locs (vm_n r.2 - n0) (vm_s r.2 - s0) Q (F0 m pc ls (r.1.toList.map (vm_tr g))))
    {pc : Nat} {lv : vm_L} {st : List Value} {M : vm_M} {i : Nat} {a b : Nat} {v : Int} (hdg : decode cc pc = .ok (.invokevirtual i, vm_len (.invokevirtual i) b)) (hlk : vm_lk own (.invokevirtual i) a b v) (h : vm_do O L xs own ini nL r E pc lv st M (.invokevirtual i) a b v) (hn : n0 ≤ vm_n M) (hsl : s0 ≤ vm_s M) {H : Heap} {locs : List Loc} {ls : Array Slot} (hl : lv_has ls nL (vm_trl g lv)) (hI : vm_In g cA D M H) (hS : va_S (fun q => b0 ≤ q) s.heap H locs) :
    W p l e R s m args below meth c H locs (vm_n M - n0) (vm_s M - s0) Q (F0 m pc ls (st.map (vm_tr g))) := by
  have hupM : vm_up M r := vm_do_up (fun i as M r' ho => ⟨(hO i as M r' ho).1, (hO i as M r' ho).2.1⟩) hup h
  have hnM : vm_n M ≤ 1099511627776 := Nat.le_trans hupM.1 hnr
  have hDd : va_D (fun q => b0 ≤ q) (vm_w g cA M) := vm_Dd hg hnM
  have hA : ∀ q, s.heap.size ≤ q → (fun q => b0 ≤ q) q := fun q hq => by show b0 ≤ q; omega
  have go : ∀ {pc lv st ls}, E pc lv st M → lv_has ls nL (vm_trl g lv) → W p l e R s m args below meth c H locs (vm_n M - n0) (vm_s M - s0) Q (F0 m pc ls (st.map (vm_tr g))) := fun hE hl => ih _ _ _ _ hE hn hsl _ _ _ hl hI hS
  have hcs : vm_n M - n0 ≤ R.cells := Nat.le_trans (Nat.sub_le_sub_right hupM.1 n0) hRc
  have hss : vm_s M - s0 ≤ R.slots := Nat.le_trans (Nat.sub_le_sub_right hupM.2 s0) hRs
  have hml2 : c.maxLocals = ls.size := hml.trans hl.1.symm
  have arr : ∀ {q t n}, q < vm_n M → vm_sh M q = .inr (t, n) → (vm_w g cA M)[q]? = some (g q, .inl (cA t, n, vm_ct g M q t)) := fun hq hs => by rw [vm_w_at hq, vm_e_arr hs]
  have obj : ∀ {q a}, q < vm_n M → vm_sh M q = .inl a → (vm_w g cA M)[q]? = some (g q, .inr (a, (List.range (vg_N a)).map (fun k => vm_tr g (vm_gv M q (vg_y a k) k)))) := fun hq hs => by rw [vm_w_at hq, vm_e_obj hs]
  have hf1 : 1 ≤ R.frames := by omega
  have hl9 : 900 ≤ R.locals := vm_ar4 hRl
  simp only [vm_do] at h
  obtain ⟨l1, l2, l3, l4, l5⟩ := hlk
  rcases h with ⟨ha, as, q, st', rv, M', rfl, hlen, hq, hs, hcat, ho, h⟩ | ⟨ha, q, st', n, rfl, hcat, hq, hs, h⟩ | ⟨ha, st', rfl, hcat, h⟩ | ⟨ha, i', st', rfl, hcat, hik, h⟩
  · obtain ⟨hb2, hk⟩ := l1 (by rw [ha]; decide)
    have hlink := l4 (by rw [ha]; decide) (by rw [ha]; decide)
    have hsz : H.size ≤ b0 + vm_n M → H.size = b0 + vm_n M := fun hz => Nat.le_antisymm hz (vm_low hg hnM hI hS hh0 hn)
    have hup1 := hup _ _ _ _ h
    obtain ⟨u1, u2, hok⟩ := hO _ _ _ _ ho
    dsimp only at u1 u2 hok
    have hM : vm_Ok l g cA D b0 X d b (Value.ref q :: as) M (rv, M') := hok hb2 (Nat.le_trans hup1.1 hnr)
    obtain ⟨s1, s2, s3, s4, s5, s6, s7⟩ := vm_sm_ok b hb2
    have hin0 : (Cond.initialized (vm_y b).cls).before args s = true := hts _ (vt_of (vm_in_ok b hb2).1 (vm_in_ok b hb2).2)
    have hkw := hts _ (vt_of (vm_kw_ok b hb2).1 (vm_kw_ok b hb2).2)
    have hroom : (vm_room d (vm_n M' - vm_n M) (vm_s M' - vm_s M)).frames + 1 ≤ R.frames ∧ 8 + (vm_x b + 11) + (vm_room d (vm_n M' - vm_n M) (vm_s M' - vm_s M)).locals ≤ R.locals := ⟨hRf, vm_ar2 s5 hRl⟩
    refine vm_size (fun hz => ?_)
    have hsz := hsz (vm_ar3 hz hh0 hn)
    have hPc : ∀ U : State, U.heap = H → s.WarmedH U.vm → vm_Pc g cA D b0 X (Value.ref q :: as) M ((Value.ref q :: as).map (vm_tr g)).toArray U := fun U hU hW => ⟨rfl, by rw [hU]; exact hsz, by rw [hU]; exact hI, va_K.moved hW.alike hK, hN.warm hW, hXs.2.1 s U hX hW (hS.F hU)⟩
    have hroom2 : vm_n M - n0 + (vm_n M' - vm_n M) ≤ R.cells ∧ vm_s M - s0 + (vm_s M' - vm_s M) ≤ R.slots := ⟨by rw [vm_ar hn u1]; exact Nat.le_trans (Nat.sub_le_sub_right hup1.1 n0) hRc, by rw [vm_ar hsl u2]; exact Nat.le_trans (Nat.sub_le_sub_right hup1.2 s0) hRs⟩
    have hcat2 := vm_cat_tr g st'
    
    rw [ha] at hlink hk
    unfold vm_kw at hkw
    rw [if_neg (by omega)] at hkw
    have hse := vt_of (vm_se_ok b hb2 hk).1 (vm_se_ok b hb2 hk).2
    rw [vm_map_args]
    refine vm_call (r := (rv, M')) (va_runV (As := as.map (vm_tr g)) (rest := st'.map (vm_tr g)) (C := (vm_y b).cls) (b := g q) ⟨hx, hb, hml, hown, hts⟩ hM (cwV (vm_a b) hts (fun w hw => by
        unfold wsV at hw
        rcases List.mem_append.mp hw with hw | hw
        · simp only [List.mem_cons, List.not_mem_nil, or_false] at hw
          rcases hw with rfl | rfl | rfl | rfl
          · exact vm_good _ hlink
          · have := vt_of (vm_kw_ok b hb2).1 (vm_kw_ok b hb2).2
            unfold vm_kw at this
            rw [if_neg (by omega)] at this
            exact vm_good _ this
          · exact vm_good _ hse
          · exact vm_good _ (vt_of (vm_in_ok b hb2).1 (vm_in_ok b hb2).2)
        · exact vm_goodc hb2 _ hw) rfl rfl rfl ⟨rfl, s2.1, s2.2, s3⟩ hroom) ⟨vm_Pc_blind hXs, ?_, hPc⟩ rfl (by rw [List.length_map]; exact hlen) hl.1 rfl (lv_room (by rw [hcat2]; exact hcat)) hdg hroom2) hS (fun H1 locs1 hI1 hS1 => ?_)
    · have hrc := va_recv hK hI (vg_cl_at (s7 hk)) (obj hq hs)
      dsimp only at hrc
      rw [s4, vg_O_C _ (s7 hk)]
      exact hrc
    ·
      rw [vm_ar hn u1, vm_ar hsl u2, vm_rv]
      exact ih _ _ _ _ h (Nat.le_trans hn u1) (Nat.le_trans hsl u2) _ _ _ hl hI1 hS1
  · have e1 : vm_n M - n0 + 1 = vm_n (vm_mk M (.inr (0, n)) n (vm_i M q)) - n0 := by
      show vm_n M - n0 + 1 = (vm_n M + 1) - n0
      omega
    have e2 : vm_s M - s0 + n = vm_s (vm_mk M (.inr (0, n)) n (vm_i M q)) - s0 := by
      show vm_s M - s0 + n = (vm_s M + n) - s0
      omega
    have up1 := hup _ _ _ _ h
    have hc1 : vm_n M - n0 + 1 ≤ R.cells := by rw [e1]; exact Nat.le_trans (Nat.sub_le_sub_right up1.1 n0) hRc
    have hs1 : vm_s M - s0 + n ≤ R.slots := by rw [e2]; exact Nat.le_trans (Nat.sub_le_sub_right up1.2 s0) hRs
    have hlt : vm_n M < 1099511627776 := by
      have h1 : vm_n M + 1 ≤ vm_n r.2 := up1.1
      omega
    have hlink := l4 (by rw [ha]; decide) (by rw [ha]; decide)
    rw [ha] at hlink
    refine va_clone (own := vg_O own) (ad := "[I") hx hb hml2 hown (hts _ hlink) (hts _ vt_cs) (hts _ vt_cn) (hts _ vt_ci) (hts _ vt_cl) hN.2.1 hK hI hDd hS hA q 0 (arr hq hs) (vm_tys_at (by omega)) (va_nm_int (hK.2 0 _ (vm_tys_at (by omega))).2) (va_fit (F := fun j => .int (vm_i M q j)) (n := n) (fun i _ => rfl)) (by omega) (by rw [vm_cat_tr]; omega) hc1 hs1 hdg (fun q2 H1 hK1 hP1 hD1 hS1 => ?_)
    refine vm_size (fun hz => ?_)
    have hq2 : q2 = g (vm_n M) := vm_nw_cA hg hlt hP1 hD1 (by omega)
    subst hq2
    have he : vm_e g cA (vm_mk M (.inr (0, n)) n (vm_i M q)) (vm_n M) = .inl (cA 0, n, vm_ct g M q 0) := by rw [vm_e_arr vm_mk_sh, vm_ct0 vm_mk_i]; rfl
    rw [← he, vm_w_push (M' := vm_mk M (.inr (0, n)) n (vm_i M q)) rfl rfl (fun a ha => vm_mk_old ha)] at hP1
    try dsimp only
    rw [e1, e2]
    exact ih _ _ _ _ h (Nat.le_succ_of_le hn) (Nat.le_trans hsl (Nat.le_add_right _ _)) _ _ _ hl hP1 hS1
  · have ho := l5 (by rw [ha]; decide) (by rw [ha]; decide)
    subst ho
    have hlink := l4 (by rw [ha]; decide) (by rw [ha]; decide)
    rw [ha] at hlink
    exact hXs.2.2.2.1 p l e R s m args below meth c H locs _ _ Q cc pc ls _ nL i hx hb hml hl.1 hown hts hX hS (by omega) (by omega) hcs hss (by rw [vm_cat_tr]; exact hcat) hlink hdg (fun locs1 hS1 => ih _ _ _ _ h hn hsl _ _ _ hl hI hS1)
  · have ho := l5 (by rw [ha]; decide) (by rw [ha]; decide)
    subst ho
    have hlink := l4 (by rw [ha]; decide) (by rw [ha]; decide)
    rw [ha] at hlink
    exact hXs.2.2.2.2 p l e R s m args below meth c H locs _ _ Q cc pc ls _ nL i i' hx hb hml hl.1 hown hts hX hS (by omega) (by omega) hcs hss (by rw [vm_cat_tr]; exact hcat) hik hlink hdg (fun locs1 hS1 => ih _ _ _ _ h hn hsl _ _ _ hl hI hS1)
set_option maxHeartbeats 1000000 in
set_option maxRecDepth 20000 in
theorem vm_step_invokespecial {p : Program} {l : Launch} {e : Env} {R : Room} {s : State} {m : MethodId} {args : Array Value} {below : List Frame} {meth : Method} {c : Code} {Q : State → Prop} {cc : ByteArray} {O : Nat → List Value → vm_M → vm_R → Prop} {L : Nat} {xs : Nat → Int32} {own : Nat} {ini : Bool} {nL n0 s0 b0 d : Nat} {g : Nat → Nat} {cA : Nat → ClassId} {D : va_G} {X : State → Prop} {r : vm_R}
    (hx : p.tables.exec = Jvm.exec) (hb : c.code = cc) (hml : c.maxLocals = nL) (hown : s.vm.findClass (vg_O own) = some m.cls) (hts : ∀ w ∈ vt, w.before args s = true) (hK : va_K D vg_cl (vm_tys cA) s) (hN : vm_Nx s) (hX : X s) (hXs : vm_Str b0 g X)
    (hin : ini = true → meth.name = "<init>") (hscr : own = 12 → va_X (g vm_scr) L xs s s.heap ∧ g vm_scr < s.heap.size ∧ ¬ b0 ≤ g vm_scr) (hg : ∀ q, q < 1099511627776 → g q = b0 + q) (hh0 : s.heap.size = b0 + n0) (hnr : vm_n r.2 ≤ 1099511627776)
    (hRc : vm_n r.2 - n0 ≤ R.cells) (hRs : vm_s r.2 - s0 ≤ R.slots) (hRf : d + 9 ≤ R.frames) (hRl : 100 * (d + 9) ≤ R.locals)
    (hO : ∀ i as M r', O i as M r' → vm_n M ≤ vm_n r'.2 ∧ vm_s M ≤ vm_s r'.2 ∧ (i < 203 → vm_n r'.2 ≤ 1099511627776 → vm_Ok l g cA D b0 X d i as M r')) {E : Nat → vm_L → List Value → vm_M → Prop}
    (ih : ∀ pc lv st M, E pc lv st M → n0 ≤ vm_n M → s0 ≤ vm_s M → ∀ (H : Heap) (locs : List Loc) (ls : Array Slot), lv_has ls nL (vm_trl g lv) → vm_In g cA D M H → va_S (fun q => b0 ≤ q) s.heap H locs → W p l e R s m args below meth c H locs (vm_n M - n0) (vm_s M - s0) Q (F0 m pc ls (st.map (vm_tr g))))
    (hup : ∀ pc lv st M, E pc lv st M → vm_up M r)
    (hret : ∀ pc ins (H : Heap) (locs : List Loc) (ls : Array Slot), decode cc pc = .ok (ins, 1) → vm_isr ins r.1 → vm_In g cA D r.2 H → va_S (fun q => b0 ≤ q) s.heap H locs → W p l e R s m args below meth c H locs (vm_n r.2 - n0) (vm_s r.2 - s0) Q (F0 m pc ls (r.1.toList.map (vm_tr g))))
    {pc : Nat} {lv : vm_L} {st : List Value} {M : vm_M} {i : Nat} {a b : Nat} {v : Int} (hdg : decode cc pc = .ok (.invokespecial i, vm_len (.invokespecial i) b)) (hlk : vm_lk own (.invokespecial i) a b v) (h : vm_do O L xs own ini nL r E pc lv st M (.invokespecial i) a b v) (hn : n0 ≤ vm_n M) (hsl : s0 ≤ vm_s M) {H : Heap} {locs : List Loc} {ls : Array Slot} (hl : lv_has ls nL (vm_trl g lv)) (hI : vm_In g cA D M H) (hS : va_S (fun q => b0 ≤ q) s.heap H locs) :
    W p l e R s m args below meth c H locs (vm_n M - n0) (vm_s M - s0) Q (F0 m pc ls (st.map (vm_tr g))) := by
  have hupM : vm_up M r := vm_do_up (fun i as M r' ho => ⟨(hO i as M r' ho).1, (hO i as M r' ho).2.1⟩) hup h
  have hnM : vm_n M ≤ 1099511627776 := Nat.le_trans hupM.1 hnr
  have hDd : va_D (fun q => b0 ≤ q) (vm_w g cA M) := vm_Dd hg hnM
  have hA : ∀ q, s.heap.size ≤ q → (fun q => b0 ≤ q) q := fun q hq => by show b0 ≤ q; omega
  have go : ∀ {pc lv st ls}, E pc lv st M → lv_has ls nL (vm_trl g lv) → W p l e R s m args below meth c H locs (vm_n M - n0) (vm_s M - s0) Q (F0 m pc ls (st.map (vm_tr g))) := fun hE hl => ih _ _ _ _ hE hn hsl _ _ _ hl hI hS
  have hcs : vm_n M - n0 ≤ R.cells := Nat.le_trans (Nat.sub_le_sub_right hupM.1 n0) hRc
  have hss : vm_s M - s0 ≤ R.slots := Nat.le_trans (Nat.sub_le_sub_right hupM.2 s0) hRs
  have hml2 : c.maxLocals = ls.size := hml.trans hl.1.symm
  have arr : ∀ {q t n}, q < vm_n M → vm_sh M q = .inr (t, n) → (vm_w g cA M)[q]? = some (g q, .inl (cA t, n, vm_ct g M q t)) := fun hq hs => by rw [vm_w_at hq, vm_e_arr hs]
  have obj : ∀ {q a}, q < vm_n M → vm_sh M q = .inl a → (vm_w g cA M)[q]? = some (g q, .inr (a, (List.range (vg_N a)).map (fun k => vm_tr g (vm_gv M q (vg_y a k) k)))) := fun hq hs => by rw [vm_w_at hq, vm_e_obj hs]
  have hf1 : 1 ≤ R.frames := by omega
  have hl9 : 900 ≤ R.locals := vm_ar4 hRl
  simp only [vm_do] at h
  obtain ⟨l1, l2, l3, l4, l5⟩ := hlk
  rcases h with ⟨ha, q, st', rfl, hcat, h⟩ | ⟨ha, as, q, st', rv, M', rfl, hlen, hcat, ho, h⟩
  · have hlink := l4 (by rw [ha]; decide) (by rw [ha]; decide)
    rw [ha] at hlink
    exact W.objInit hx hb hown (hts _ hlink) (hts _ vt_oi) (hts _ vt_oc) (g := F0 m pc ls (.ref (g q) :: st'.map (vm_tr g))) rfl hml2.symm rfl hdg (by omega) (by show 2 * 0 + _ + 12 ≤ _; rw [vm_cat_tr]; omega) (go h hl)
  · have hb2 : b < 203 := by
      rcases ha with ha | ha
      · exact (l1 (by rw [ha]; decide)).1
      · exact (l2 ha).1
    have hk : vm_k b = 2 := by
      rcases ha with ha | ha
      · have := (l1 (by rw [ha]; decide)).2
        omega
      · exact (l2 ha).2.1
    have hsz : H.size ≤ b0 + vm_n M → H.size = b0 + vm_n M := fun hz => Nat.le_antisymm hz (vm_low hg hnM hI hS hh0 hn)
    have hup1 := hup _ _ _ _ h
    obtain ⟨u1, u2, hok⟩ := hO _ _ _ _ ho
    dsimp only at u1 u2 hok
    have hM : vm_Ok l g cA D b0 X d b (Value.ref q :: as) M (rv, M') := hok hb2 (Nat.le_trans hup1.1 hnr)
    obtain ⟨s1, s2, s3, s4, s5, s6, s7⟩ := vm_sm_ok b hb2
    have hin0 : (Cond.initialized (vm_y b).cls).before args s = true := hts _ (vt_of (vm_in_ok b hb2).1 (vm_in_ok b hb2).2)
    have hkw := hts _ (vt_of (vm_kw_ok b hb2).1 (vm_kw_ok b hb2).2)
    have hroom : (vm_room d (vm_n M' - vm_n M) (vm_s M' - vm_s M)).frames + 1 ≤ R.frames ∧ 8 + (vm_x b + 11) + (vm_room d (vm_n M' - vm_n M) (vm_s M' - vm_s M)).locals ≤ R.locals := ⟨hRf, vm_ar2 s5 hRl⟩
    refine vm_size (fun hz => ?_)
    have hsz := hsz (vm_ar3 hz hh0 hn)
    have hPc : ∀ U : State, U.heap = H → s.WarmedH U.vm → vm_Pc g cA D b0 X (Value.ref q :: as) M ((Value.ref q :: as).map (vm_tr g)).toArray U := fun U hU hW => ⟨rfl, by rw [hU]; exact hsz, by rw [hU]; exact hI, va_K.moved hW.alike hK, hN.warm hW, hXs.2.1 s U hX hW (hS.F hU)⟩
    have hroom2 : vm_n M - n0 + (vm_n M' - vm_n M) ≤ R.cells ∧ vm_s M - s0 + (vm_s M' - vm_s M) ≤ R.slots := ⟨by rw [vm_ar hn u1]; exact Nat.le_trans (Nat.sub_le_sub_right hup1.1 n0) hRc, by rw [vm_ar hsl u2]; exact Nat.le_trans (Nat.sub_le_sub_right hup1.2 s0) hRs⟩
    have hcat2 := vm_cat_tr g st'
    
    unfold vm_kw at hkw
    rw [if_neg (by omega)] at hkw
    rw [vm_map_args]
    have hret0 : vm_r b = none := vm_r2 b hb2 hk
    have hM' := hM
    unfold vm_Ok at hM'
    rw [hret0] at hM'
    have hG := vm_goodc hb2
    rw [hret0] at hG
    rcases ha with ha | ha
    · have hlink := l4 (by rw [ha]; decide) (by rw [ha]; decide)
      rw [ha] at hlink
      refine vm_call (r := (rv, M')) (va_runI (As := as.map (vm_tr g)) (rest := st'.map (vm_tr g)) (b := g q) ⟨hx, hb, hml, hown, hts⟩ hM' (cwI (vm_a b) hts hG rfl rfl rfl hin0 (hts _ hlink) hkw (s6 hk) ⟨s2.1, s2.2, s3⟩ hroom) ⟨vm_Pc_blind hXs, hPc⟩ rfl (by rw [List.length_map]; exact hlen) hl.1 rfl (lv_room (by rw [hcat2]; exact hcat)) hdg hroom2) hS (fun H1 locs1 hI1 hS1 => ?_)
      rw [vm_ar hn u1, vm_ar hsl u2, vm_rv]
      exact ih _ _ _ _ h (Nat.le_trans hn u1) (Nat.le_trans hsl u2) _ _ _ hl hI1 hS1
    · obtain ⟨-, -, hst, hne⟩ := l2 ha
      refine vm_call (r := (rv, M')) (va_runIN (As := as.map (vm_tr g)) (rest := st'.map (vm_tr g)) (b := g q) ⟨hx, hb, hml, hown, hts⟩ hM' ⟨va_cnB (vm_a b) hts hG rfl rfl rfl (hN.1 _ hne) hin0 ⟨s2.1, s2.2, s3⟩ hroom, s6 hk, hkw⟩ ⟨vm_Pc_blind hXs, hPc⟩ rfl (by rw [List.length_map]; exact hlen) hl.1 rfl (lv_room (by rw [hcat2]; exact hcat)) hdg hroom2) hS (fun H1 locs1 hI1 hS1 => ?_)
      rw [vm_ar hn u1, vm_ar hsl u2, vm_rv]
      exact ih _ _ _ _ h (Nat.le_trans hn u1) (Nat.le_trans hsl u2) _ _ _ hl hI1 hS1
set_option maxHeartbeats 1000000 in
set_option maxRecDepth 20000 in
theorem vm_step_invokestatic {p : Program} {l : Launch} {e : Env} {R : Room} {s : State} {m : MethodId} {args : Array Value} {below : List Frame} {meth : Method} {c : Code} {Q : State → Prop} {cc : ByteArray} {O : Nat → List Value → vm_M → vm_R → Prop} {L : Nat} {xs : Nat → Int32} {own : Nat} {ini : Bool} {nL n0 s0 b0 d : Nat} {g : Nat → Nat} {cA : Nat → ClassId} {D : va_G} {X : State → Prop} {r : vm_R}
    (hx : p.tables.exec = Jvm.exec) (hb : c.code = cc) (hml : c.maxLocals = nL) (hown : s.vm.findClass (vg_O own) = some m.cls) (hts : ∀ w ∈ vt, w.before args s = true) (hK : va_K D vg_cl (vm_tys cA) s) (hN : vm_Nx s) (hX : X s) (hXs : vm_Str b0 g X)
    (hin : ini = true → meth.name = "<init>") (hscr : own = 12 → va_X (g vm_scr) L xs s s.heap ∧ g vm_scr < s.heap.size ∧ ¬ b0 ≤ g vm_scr) (hg : ∀ q, q < 1099511627776 → g q = b0 + q) (hh0 : s.heap.size = b0 + n0) (hnr : vm_n r.2 ≤ 1099511627776)
    (hRc : vm_n r.2 - n0 ≤ R.cells) (hRs : vm_s r.2 - s0 ≤ R.slots) (hRf : d + 9 ≤ R.frames) (hRl : 100 * (d + 9) ≤ R.locals)
    (hO : ∀ i as M r', O i as M r' → vm_n M ≤ vm_n r'.2 ∧ vm_s M ≤ vm_s r'.2 ∧ (i < 203 → vm_n r'.2 ≤ 1099511627776 → vm_Ok l g cA D b0 X d i as M r')) {E : Nat → vm_L → List Value → vm_M → Prop}
    (ih : ∀ pc lv st M, E pc lv st M → n0 ≤ vm_n M → s0 ≤ vm_s M → ∀ (H : Heap) (locs : List Loc) (ls : Array Slot), lv_has ls nL (vm_trl g lv) → vm_In g cA D M H → va_S (fun q => b0 ≤ q) s.heap H locs → W p l e R s m args below meth c H locs (vm_n M - n0) (vm_s M - s0) Q (F0 m pc ls (st.map (vm_tr g))))
    (hup : ∀ pc lv st M, E pc lv st M → vm_up M r)
    (hret : ∀ pc ins (H : Heap) (locs : List Loc) (ls : Array Slot), decode cc pc = .ok (ins, 1) → vm_isr ins r.1 → vm_In g cA D r.2 H → va_S (fun q => b0 ≤ q) s.heap H locs → W p l e R s m args below meth c H locs (vm_n r.2 - n0) (vm_s r.2 - s0) Q (F0 m pc ls (r.1.toList.map (vm_tr g))))
    {pc : Nat} {lv : vm_L} {st : List Value} {M : vm_M} {i : Nat} {a b : Nat} {v : Int} (hdg : decode cc pc = .ok (.invokestatic i, vm_len (.invokestatic i) b)) (hlk : vm_lk own (.invokestatic i) a b v) (h : vm_do O L xs own ini nL r E pc lv st M (.invokestatic i) a b v) (hn : n0 ≤ vm_n M) (hsl : s0 ≤ vm_s M) {H : Heap} {locs : List Loc} {ls : Array Slot} (hl : lv_has ls nL (vm_trl g lv)) (hI : vm_In g cA D M H) (hS : va_S (fun q => b0 ≤ q) s.heap H locs) :
    W p l e R s m args below meth c H locs (vm_n M - n0) (vm_s M - s0) Q (F0 m pc ls (st.map (vm_tr g))) := by
  have hupM : vm_up M r := vm_do_up (fun i as M r' ho => ⟨(hO i as M r' ho).1, (hO i as M r' ho).2.1⟩) hup h
  have hnM : vm_n M ≤ 1099511627776 := Nat.le_trans hupM.1 hnr
  have hDd : va_D (fun q => b0 ≤ q) (vm_w g cA M) := vm_Dd hg hnM
  have hA : ∀ q, s.heap.size ≤ q → (fun q => b0 ≤ q) q := fun q hq => by show b0 ≤ q; omega
  have go : ∀ {pc lv st ls}, E pc lv st M → lv_has ls nL (vm_trl g lv) → W p l e R s m args below meth c H locs (vm_n M - n0) (vm_s M - s0) Q (F0 m pc ls (st.map (vm_tr g))) := fun hE hl => ih _ _ _ _ hE hn hsl _ _ _ hl hI hS
  have hcs : vm_n M - n0 ≤ R.cells := Nat.le_trans (Nat.sub_le_sub_right hupM.1 n0) hRc
  have hss : vm_s M - s0 ≤ R.slots := Nat.le_trans (Nat.sub_le_sub_right hupM.2 s0) hRs
  have hml2 : c.maxLocals = ls.size := hml.trans hl.1.symm
  have arr : ∀ {q t n}, q < vm_n M → vm_sh M q = .inr (t, n) → (vm_w g cA M)[q]? = some (g q, .inl (cA t, n, vm_ct g M q t)) := fun hq hs => by rw [vm_w_at hq, vm_e_arr hs]
  have obj : ∀ {q a}, q < vm_n M → vm_sh M q = .inl a → (vm_w g cA M)[q]? = some (g q, .inr (a, (List.range (vg_N a)).map (fun k => vm_tr g (vm_gv M q (vg_y a k) k)))) := fun hq hs => by rw [vm_w_at hq, vm_e_obj hs]
  have hf1 : 1 ≤ R.frames := by omega
  have hl9 : 900 ≤ R.locals := vm_ar4 hRl
  simp only [vm_do] at h
  obtain ⟨l1, l2, l3, l4, l5⟩ := hlk
  rcases h with ⟨ha, as, st', rv, M', rfl, hlen, hcat, ho, h⟩ | ⟨ha, hb1, x, y, st', rfl, hcat, h⟩ | ⟨ha, hb1, x, y, st', rfl, hcat, h⟩ | ⟨ha, hb1, x, st', rfl, hcat, h⟩ | ⟨ha, hb1, x, y, st', rfl, hcat, h⟩ | ⟨ha, hb1, x, y, st', rfl, hcat, h⟩ | ⟨ha, hb1, x, st', rfl, hcat, h⟩ | ⟨ha, n, dp, q, sp, p2, st', t, n0', n1', rfl, hcat, hp, hq, hsp, hsq, h1, h2, h3, h4, h5, h⟩
  · have hb2 : b < 203 := by
      rcases ha with ha | ha
      · exact (l1 (by rw [ha]; decide)).1
      · exact (l3 ha).1
    have hk : vm_k b = 1 := by
      rcases ha with ha | ha
      · have := (l1 (by rw [ha]; decide)).2
        omega
      · exact (l3 ha).2.1
    have hsz : H.size ≤ b0 + vm_n M → H.size = b0 + vm_n M := fun hz => Nat.le_antisymm hz (vm_low hg hnM hI hS hh0 hn)
    have hup1 := hup _ _ _ _ h
    obtain ⟨u1, u2, hok⟩ := hO _ _ _ _ ho
    dsimp only at u1 u2 hok
    have hM : vm_Ok l g cA D b0 X d b as M (rv, M') := hok hb2 (Nat.le_trans hup1.1 hnr)
    obtain ⟨s1, s2, s3, s4, s5, s6, s7⟩ := vm_sm_ok b hb2
    have hin0 : (Cond.initialized (vm_y b).cls).before args s = true := hts _ (vt_of (vm_in_ok b hb2).1 (vm_in_ok b hb2).2)
    have hkw := hts _ (vt_of (vm_kw_ok b hb2).1 (vm_kw_ok b hb2).2)
    have hroom : (vm_room d (vm_n M' - vm_n M) (vm_s M' - vm_s M)).frames + 1 ≤ R.frames ∧ 8 + (vm_x b + 11) + (vm_room d (vm_n M' - vm_n M) (vm_s M' - vm_s M)).locals ≤ R.locals := ⟨hRf, vm_ar2 s5 hRl⟩
    refine vm_size (fun hz => ?_)
    have hsz := hsz (vm_ar3 hz hh0 hn)
    have hPc : ∀ U : State, U.heap = H → s.WarmedH U.vm → vm_Pc g cA D b0 X as M (as.map (vm_tr g)).toArray U := fun U hU hW => ⟨rfl, by rw [hU]; exact hsz, by rw [hU]; exact hI, va_K.moved hW.alike hK, hN.warm hW, hXs.2.1 s U hX hW (hS.F hU)⟩
    have hroom2 : vm_n M - n0 + (vm_n M' - vm_n M) ≤ R.cells ∧ vm_s M - s0 + (vm_s M' - vm_s M) ≤ R.slots := ⟨by rw [vm_ar hn u1]; exact Nat.le_trans (Nat.sub_le_sub_right hup1.1 n0) hRc, by rw [vm_ar hsl u2]; exact Nat.le_trans (Nat.sub_le_sub_right hup1.2 s0) hRs⟩
    have hcat2 := vm_cat_tr g st'
    
    unfold vm_kw at hkw
    rw [if_pos hk] at hkw
    rw [vm_map_args]
    rcases ha with ha | ha
    · have hlink := l4 (by rw [ha]; decide) (by rw [ha]; decide)
      rw [ha] at hlink
      refine vm_call (r := (rv, M')) (va_runS (As := as.map (vm_tr g)) (rest := st'.map (vm_tr g)) ⟨hx, hb, hml, hown, hts⟩ hM ⟨callB_of (vm_a b) hts (vm_goodc hb2) rfl rfl rfl hin0 (hts _ hlink) ⟨s2.1, s2.2, s3⟩ hroom, hkw⟩ ⟨vm_Pc_blind hXs, hPc⟩ rfl (by rw [List.length_map]; exact hlen) hl.1 rfl (lv_room (by rw [hcat2]; exact hcat)) hdg hroom2) hS (fun H1 locs1 hI1 hS1 => ?_)
      rw [vm_ar hn u1, vm_ar hsl u2, vm_rv]
      exact ih _ _ _ _ h (Nat.le_trans hn u1) (Nat.le_trans hsl u2) _ _ _ hl hI1 hS1
    · obtain ⟨-, -, hst, hne⟩ := l3 ha
      refine vm_call (r := (rv, M')) (va_runSN (As := as.map (vm_tr g)) (rest := st'.map (vm_tr g)) ⟨hx, hb, hml, hown, hts⟩ hM ⟨va_cnB (vm_a b) hts (vm_goodc hb2) rfl rfl rfl (hN.1 _ hne) hin0 ⟨s2.1, s2.2, s3⟩ hroom, hkw, trivial⟩ ⟨vm_Pc_blind hXs, hPc⟩ rfl (by rw [List.length_map]; exact hlen) hl.1 rfl (lv_room (by rw [hcat2]; exact hcat)) hdg hroom2) hS (fun H1 locs1 hI1 hS1 => ?_)
      rw [vm_ar hn u1, vm_ar hsl u2, vm_rv]
      exact ih _ _ _ _ h (Nat.le_trans hn u1) (Nat.le_trans hsl u2) _ _ _ hl hI1 hS1
  · have hlink := l4 (by rw [ha]; decide) (by rw [ha]; decide)
    rw [ha, hb1] at hlink
    exact va_mmax hx hb hml2 hown (hts _ hlink) (hts _ vt_ms0) (hts _ vt_mi) (hts _ vt_mc0) hf1 (by rw [vm_cat_tr]; exact Nat.le_trans (Nat.add_le_add_right hcat _) (Nat.le_trans (by decide) hl9)) hcs hss hdg (go h hl)
  · have hlink := l4 (by rw [ha]; decide) (by rw [ha]; decide)
    rw [ha, hb1] at hlink
    exact va_mmin hx hb hml2 hown (hts _ hlink) (hts _ vt_ms1) (hts _ vt_mi) (hts _ vt_mc1) hf1 (by rw [vm_cat_tr]; exact Nat.le_trans (Nat.add_le_add_right hcat _) (Nat.le_trans (by decide) hl9)) hcs hss hdg (go h hl)
  · have hlink := l4 (by rw [ha]; decide) (by rw [ha]; decide)
    rw [ha, hb1] at hlink
    exact va_mabs hx hb hml2 hown (hts _ hlink) (hts _ vt_ms2) (hts _ vt_mi) (hts _ vt_mc2) hf1 (by rw [vm_cat_tr]; exact Nat.le_trans (Nat.add_le_add_right hcat _) (Nat.le_trans (by decide) hl9)) hcs hss hdg (go h hl)
  · have hlink := l4 (by rw [ha]; decide) (by rw [ha]; decide)
    rw [ha, hb1] at hlink
    exact va_mmax_long hx hb hml2 hown (hts _ hlink) (hts _ vt_ms3) (hts _ vt_mi) (hts _ vt_mc3) hf1 (by rw [vm_cat_tr]; exact Nat.le_trans (Nat.add_le_add_right hcat _) (Nat.le_trans (by decide) hl9)) hcs hss hdg (go h hl)
  · have hlink := l4 (by rw [ha]; decide) (by rw [ha]; decide)
    rw [ha, hb1] at hlink
    exact va_mmin_long hx hb hml2 hown (hts _ hlink) (hts _ vt_ms4) (hts _ vt_mi) (hts _ vt_mc4) hf1 (by rw [vm_cat_tr]; exact Nat.le_trans (Nat.add_le_add_right hcat _) (Nat.le_trans (by decide) hl9)) hcs hss hdg (go h hl)
  · have hlink := l4 (by rw [ha]; decide) (by rw [ha]; decide)
    rw [ha, hb1] at hlink
    exact va_mabs_long hx hb hml2 hown (hts _ hlink) (hts _ vt_ms5) (hts _ vt_mi) (hts _ vt_mc5) hf1 (by rw [vm_cat_tr]; exact Nat.le_trans (Nat.add_le_add_right hcat _) (Nat.le_trans (by decide) hl9)) hcs hss hdg (go h hl)
  · have hlink := l4 (by rw [ha]; decide) (by rw [ha]; decide)
    rw [ha] at hlink
    have hnat : nativeFrameWords "java/lang/System" "arraycopy" 5 ≤ 100 := by decide +kernel
    rcases h with ⟨ht, h⟩ | ⟨ht, h⟩
    · subst ht
      refine va_copyi hx hb hml2 hown (hts _ hlink) (hts _ vt_an) (hts _ vt_as) (hts _ vt_ai) hK hI hDd hS p2 q 0 0 (arr hp hsp) (arr hq hsq) (vm_tys_at (by omega)) (vm_tys_at (by omega)) rfl h1 h2 h3 h4 h5 (fun _ _ => rfl) (by omega) (by rw [vm_cat_tr]; omega) hdg (fun H1 locs1 hP1 _ hS1 => ?_)
      refine ih _ _ _ _ h hn hsl _ _ _ hl ?_ hS1
      have hf : vm_i (vm_cp M p2 q sp.toNatClampNeg dp.toNatClampNeg n.toNatClampNeg) q = va_cpy (vm_i M p2) (vm_i M q) sp.toNatClampNeg dp.toNatClampNeg n.toNatClampNeg := by
        funext k
        show (if q = q then _ else _) = _
        rw [if_pos rfl]
        rfl
      have hw := vm_w_set (g := g) (cA := cA) (M := M) (M' := vm_cp M p2 q sp.toNatClampNeg dp.toNatClampNeg n.toNatClampNeg) (q := q) rfl (vm_e_arr (M := vm_cp M p2 q sp.toNatClampNeg dp.toNatClampNeg n.toNatClampNeg) hsq) (fun a ha => vm_e_row rfl (by
        funext k
        show (if a = q then _ else _) = _
        rw [if_neg ha]
        rfl) rfl rfl)
      unfold vm_In
      rw [← hw]
      try dsimp only
      rw [vm_ct0 hf]
      exact hP1
    · subst ht
      refine va_copyl hx hb hml2 hown (hts _ hlink) (hts _ vt_an) (hts _ vt_as) (hts _ vt_ai) hK hI hDd hS p2 q 1 1 (arr hp hsp) (arr hq hsq) (vm_tys_at (by omega)) (vm_tys_at (by omega)) rfl h1 h2 h3 h4 h5 (fun _ _ => rfl) (by omega) (by rw [vm_cat_tr]; omega) hdg (fun H1 locs1 hP1 _ hS1 => ?_)
      refine ih _ _ _ _ h hn hsl _ _ _ hl ?_ hS1
      have hf : vm_l (vm_cl M p2 q sp.toNatClampNeg dp.toNatClampNeg n.toNatClampNeg) q = va_cpy (vm_l M p2) (vm_l M q) sp.toNatClampNeg dp.toNatClampNeg n.toNatClampNeg := by
        funext k
        show (if q = q then _ else _) = _
        rw [if_pos rfl]
        rfl
      have hw := vm_w_set (g := g) (cA := cA) (M := M) (M' := vm_cl M p2 q sp.toNatClampNeg dp.toNatClampNeg n.toNatClampNeg) (q := q) rfl (vm_e_arr (M := vm_cl M p2 q sp.toNatClampNeg dp.toNatClampNeg n.toNatClampNeg) hsq) (fun a ha => vm_e_row rfl rfl (by
        funext k
        show (if a = q then _ else _) = _
        rw [if_neg ha]
        rfl) rfl)
      unfold vm_In
      rw [← hw]
      try dsimp only
      rw [vm_ct1 hf]
      exact hP1
