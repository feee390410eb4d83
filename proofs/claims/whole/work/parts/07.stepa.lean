set_option maxHeartbeats 1000000 in
set_option maxRecDepth 20000 in
theorem vm_step_iconst {p : Program} {l : Launch} {e : Env} {R : Room} {s : State} {m : MethodId} {args : Array Value} {below : List Frame} {meth : Method} {c : Code} {Q : State → Prop} {cc : ByteArray} {O : Nat → List Value → vm_M → vm_R → Prop} {L : Nat} {xs : Nat → Int32} {own : Nat} {ini : Bool} {nL n0 s0 b0 d : Nat} {g : Nat → Nat} {cA : Nat → ClassId} {D : va_G} {X : State → Prop} {r : vm_R}
    (hx : p.tables.exec = Jvm.exec) (hb : c.code = cc) (hml : c.maxLocals = nL) (hown : s.vm.findClass (vg_O own) = some m.cls) (hts : ∀ w ∈ vt, w.before args s = true) (hK : va_K D vg_cl (vm_tys cA) s) (hN : vm_Nx s) (hX : X s) (hXs : vm_Str b0 g X)
    (hin : ini = true → meth.name = "<init>") (hscr : own = 12 → va_X (g vm_scr) L xs s s.heap ∧ g vm_scr < s.heap.size ∧ ¬ b0 ≤ g vm_scr) (hg : ∀ q, q < 1099511627776 → g q = b0 + q) (hh0 : s.heap.size = b0 + n0) (hnr : vm_n r.2 ≤ 1099511627776)
    (hRc : vm_n r.2 - n0 ≤ R.cells) (hRs : vm_s r.2 - s0 ≤ R.slots) (hRf : d + 9 ≤ R.frames) (hRl : 100 * (d + 9) ≤ R.locals)
    (hO : ∀ i as M r', O i as M r' → vm_n M ≤ vm_n r'.2 ∧ vm_s M ≤ vm_s r'.2 ∧ (i < 203 → vm_n r'.2 ≤ 1099511627776 → vm_Ok l g cA D b0 X d i as M r')) {E : Nat → vm_L → List Value → vm_M → Prop}
    (ih : ∀ pc lv st M, E pc lv st M → n0 ≤ vm_n M → s0 ≤ vm_s M → ∀ (H : Heap) (locs : List Loc) (ls : Array Slot), lv_has ls nL (vm_trl g lv) → vm_In g cA D M H → va_S (fun q => b0 ≤ q) s.heap H locs → W p l e R s m args below meth c H locs (vm_n M - n0) (vm_s M - s0) Q (F0 m pc ls (st.map (vm_tr g))))
    (hup : ∀ pc lv st M, E pc lv st M → vm_up M r)
    (hret : ∀ pc ins (H : Heap) (locs : List Loc) (ls : Array Slot), decode cc pc = .ok (ins, 1) → vm_isr ins r.1 → vm_In g cA D r.2 H → va_S (fun q => b0 ≤ q) s.heap H locs → W p l e R s m args below meth c H locs (vm_n r.2 - n0) (vm_s r.2 - s0) Q (F0 m pc ls (r.1.toList.map (vm_tr g))))
    {pc : Nat} {lv : vm_L} {st : List Value} {M : vm_M} {n : Int} {a b : Nat} {v : Int} (hdg : decode cc pc = .ok (.iconst n, vm_len (.iconst n) b)) (hlk : vm_lk own (.iconst n) a b v) (h : vm_do O L xs own ini nL r E pc lv st M (.iconst n) a b v) (hn : n0 ≤ vm_n M) (hsl : s0 ≤ vm_s M) {H : Heap} {locs : List Loc} {ls : Array Slot} (hl : lv_has ls nL (vm_trl g lv)) (hI : vm_In g cA D M H) (hS : va_S (fun q => b0 ≤ q) s.heap H locs) :
    W p l e R s m args below meth c H locs (vm_n M - n0) (vm_s M - s0) Q (F0 m pc ls (st.map (vm_tr g))) := by
  have hupM : vm_up M r := vm_do_up (fun i as M r' ho => ⟨(hO i as M r' ho).1, (hO i as M r' ho).2.1⟩) hup h
  have hnM : vm_n M ≤ 1099511627776 := Nat.le_trans hupM.1 hnr
  have hDd : va_D (fun q => b0 ≤ q) (vm_w g cA M) := vm_Dd hg hnM
  have hA : ∀ q, s.heap.size ≤ q → (fun q => b0 ≤ q) q := fun q hq => by show b0 ≤ q; omega
  have go : ∀ {pc lv st ls}, E pc lv st M → lv_has ls nL (vm_trl g lv) → W p l e R s m args below meth c H locs (vm_n M - n0) (vm_s M - s0) Q (F0 m pc ls (st.map (vm_tr g))) := fun hE hl => ih _ _ _ _ hE hn hsl _ _ _ hl hI hS
  have hcs : vm_n M - n0 ≤ R.cells := Nat.le_trans (Nat.sub_le_sub_right hupM.1 n0) hRc
  have hss : vm_s M - s0 ≤ R.slots := Nat.le_trans (Nat.sub_le_sub_right hupM.2 s0) hRs
  have hml2 : c.maxLocals = ls.size := hml.trans hl.1.symm
  have arr : ∀ {q t n}, q < vm_n M → vm_sh M q = .inr (t, n) → (vm_w g cA M)[q]? = some (g q, .inl (cA t, n, vm_ct g M q t)) := fun hq hs => by rw [vm_w_at hq, vm_e_arr hs]
  have obj : ∀ {q a}, q < vm_n M → vm_sh M q = .inl a → (vm_w g cA M)[q]? = some (g q, .inr (a, (List.range (vg_N a)).map (fun k => vm_tr g (vm_gv M q (vg_y a k) k)))) := fun hq hs => by rw [vm_w_at hq, vm_e_obj hs]
  have hf1 : 1 ≤ R.frames := by omega
  have hl9 : 900 ≤ R.locals := vm_ar4 hRl
  simp only [vm_do] at h
  exact lv_iconst hx hb hdg rfl (go h hl)
set_option maxHeartbeats 1000000 in
set_option maxRecDepth 20000 in
theorem vm_step_bipush {p : Program} {l : Launch} {e : Env} {R : Room} {s : State} {m : MethodId} {args : Array Value} {below : List Frame} {meth : Method} {c : Code} {Q : State → Prop} {cc : ByteArray} {O : Nat → List Value → vm_M → vm_R → Prop} {L : Nat} {xs : Nat → Int32} {own : Nat} {ini : Bool} {nL n0 s0 b0 d : Nat} {g : Nat → Nat} {cA : Nat → ClassId} {D : va_G} {X : State → Prop} {r : vm_R}
    (hx : p.tables.exec = Jvm.exec) (hb : c.code = cc) (hml : c.maxLocals = nL) (hown : s.vm.findClass (vg_O own) = some m.cls) (hts : ∀ w ∈ vt, w.before args s = true) (hK : va_K D vg_cl (vm_tys cA) s) (hN : vm_Nx s) (hX : X s) (hXs : vm_Str b0 g X)
    (hin : ini = true → meth.name = "<init>") (hscr : own = 12 → va_X (g vm_scr) L xs s s.heap ∧ g vm_scr < s.heap.size ∧ ¬ b0 ≤ g vm_scr) (hg : ∀ q, q < 1099511627776 → g q = b0 + q) (hh0 : s.heap.size = b0 + n0) (hnr : vm_n r.2 ≤ 1099511627776)
    (hRc : vm_n r.2 - n0 ≤ R.cells) (hRs : vm_s r.2 - s0 ≤ R.slots) (hRf : d + 9 ≤ R.frames) (hRl : 100 * (d + 9) ≤ R.locals)
    (hO : ∀ i as M r', O i as M r' → vm_n M ≤ vm_n r'.2 ∧ vm_s M ≤ vm_s r'.2 ∧ (i < 203 → vm_n r'.2 ≤ 1099511627776 → vm_Ok l g cA D b0 X d i as M r')) {E : Nat → vm_L → List Value → vm_M → Prop}
    (ih : ∀ pc lv st M, E pc lv st M → n0 ≤ vm_n M → s0 ≤ vm_s M → ∀ (H : Heap) (locs : List Loc) (ls : Array Slot), lv_has ls nL (vm_trl g lv) → vm_In g cA D M H → va_S (fun q => b0 ≤ q) s.heap H locs → W p l e R s m args below meth c H locs (vm_n M - n0) (vm_s M - s0) Q (F0 m pc ls (st.map (vm_tr g))))
    (hup : ∀ pc lv st M, E pc lv st M → vm_up M r)
    (hret : ∀ pc ins (H : Heap) (locs : List Loc) (ls : Array Slot), decode cc pc = .ok (ins, 1) → vm_isr ins r.1 → vm_In g cA D r.2 H → va_S (fun q => b0 ≤ q) s.heap H locs → W p l e R s m args below meth c H locs (vm_n r.2 - n0) (vm_s r.2 - s0) Q (F0 m pc ls (r.1.toList.map (vm_tr g))))
    {pc : Nat} {lv : vm_L} {st : List Value} {M : vm_M} {n : Int} {a b : Nat} {v : Int} (hdg : decode cc pc = .ok (.bipush n, vm_len (.bipush n) b)) (hlk : vm_lk own (.bipush n) a b v) (h : vm_do O L xs own ini nL r E pc lv st M (.bipush n) a b v) (hn : n0 ≤ vm_n M) (hsl : s0 ≤ vm_s M) {H : Heap} {locs : List Loc} {ls : Array Slot} (hl : lv_has ls nL (vm_trl g lv)) (hI : vm_In g cA D M H) (hS : va_S (fun q => b0 ≤ q) s.heap H locs) :
    W p l e R s m args below meth c H locs (vm_n M - n0) (vm_s M - s0) Q (F0 m pc ls (st.map (vm_tr g))) := by
  have hupM : vm_up M r := vm_do_up (fun i as M r' ho => ⟨(hO i as M r' ho).1, (hO i as M r' ho).2.1⟩) hup h
  have hnM : vm_n M ≤ 1099511627776 := Nat.le_trans hupM.1 hnr
  have hDd : va_D (fun q => b0 ≤ q) (vm_w g cA M) := vm_Dd hg hnM
  have hA : ∀ q, s.heap.size ≤ q → (fun q => b0 ≤ q) q := fun q hq => by show b0 ≤ q; omega
  have go : ∀ {pc lv st ls}, E pc lv st M → lv_has ls nL (vm_trl g lv) → W p l e R s m args below meth c H locs (vm_n M - n0) (vm_s M - s0) Q (F0 m pc ls (st.map (vm_tr g))) := fun hE hl => ih _ _ _ _ hE hn hsl _ _ _ hl hI hS
  have hcs : vm_n M - n0 ≤ R.cells := Nat.le_trans (Nat.sub_le_sub_right hupM.1 n0) hRc
  have hss : vm_s M - s0 ≤ R.slots := Nat.le_trans (Nat.sub_le_sub_right hupM.2 s0) hRs
  have hml2 : c.maxLocals = ls.size := hml.trans hl.1.symm
  have arr : ∀ {q t n}, q < vm_n M → vm_sh M q = .inr (t, n) → (vm_w g cA M)[q]? = some (g q, .inl (cA t, n, vm_ct g M q t)) := fun hq hs => by rw [vm_w_at hq, vm_e_arr hs]
  have obj : ∀ {q a}, q < vm_n M → vm_sh M q = .inl a → (vm_w g cA M)[q]? = some (g q, .inr (a, (List.range (vg_N a)).map (fun k => vm_tr g (vm_gv M q (vg_y a k) k)))) := fun hq hs => by rw [vm_w_at hq, vm_e_obj hs]
  have hf1 : 1 ≤ R.frames := by omega
  have hl9 : 900 ≤ R.locals := vm_ar4 hRl
  simp only [vm_do] at h
  exact lv_bipush hx hb hdg rfl (go h hl)
set_option maxHeartbeats 1000000 in
set_option maxRecDepth 20000 in
theorem vm_step_sipush {p : Program} {l : Launch} {e : Env} {R : Room} {s : State} {m : MethodId} {args : Array Value} {below : List Frame} {meth : Method} {c : Code} {Q : State → Prop} {cc : ByteArray} {O : Nat → List Value → vm_M → vm_R → Prop} {L : Nat} {xs : Nat → Int32} {own : Nat} {ini : Bool} {nL n0 s0 b0 d : Nat} {g : Nat → Nat} {cA : Nat → ClassId} {D : va_G} {X : State → Prop} {r : vm_R}
    (hx : p.tables.exec = Jvm.exec) (hb : c.code = cc) (hml : c.maxLocals = nL) (hown : s.vm.findClass (vg_O own) = some m.cls) (hts : ∀ w ∈ vt, w.before args s = true) (hK : va_K D vg_cl (vm_tys cA) s) (hN : vm_Nx s) (hX : X s) (hXs : vm_Str b0 g X)
    (hin : ini = true → meth.name = "<init>") (hscr : own = 12 → va_X (g vm_scr) L xs s s.heap ∧ g vm_scr < s.heap.size ∧ ¬ b0 ≤ g vm_scr) (hg : ∀ q, q < 1099511627776 → g q = b0 + q) (hh0 : s.heap.size = b0 + n0) (hnr : vm_n r.2 ≤ 1099511627776)
    (hRc : vm_n r.2 - n0 ≤ R.cells) (hRs : vm_s r.2 - s0 ≤ R.slots) (hRf : d + 9 ≤ R.frames) (hRl : 100 * (d + 9) ≤ R.locals)
    (hO : ∀ i as M r', O i as M r' → vm_n M ≤ vm_n r'.2 ∧ vm_s M ≤ vm_s r'.2 ∧ (i < 203 → vm_n r'.2 ≤ 1099511627776 → vm_Ok l g cA D b0 X d i as M r')) {E : Nat → vm_L → List Value → vm_M → Prop}
    (ih : ∀ pc lv st M, E pc lv st M → n0 ≤ vm_n M → s0 ≤ vm_s M → ∀ (H : Heap) (locs : List Loc) (ls : Array Slot), lv_has ls nL (vm_trl g lv) → vm_In g cA D M H → va_S (fun q => b0 ≤ q) s.heap H locs → W p l e R s m args below meth c H locs (vm_n M - n0) (vm_s M - s0) Q (F0 m pc ls (st.map (vm_tr g))))
    (hup : ∀ pc lv st M, E pc lv st M → vm_up M r)
    (hret : ∀ pc ins (H : Heap) (locs : List Loc) (ls : Array Slot), decode cc pc = .ok (ins, 1) → vm_isr ins r.1 → vm_In g cA D r.2 H → va_S (fun q => b0 ≤ q) s.heap H locs → W p l e R s m args below meth c H locs (vm_n r.2 - n0) (vm_s r.2 - s0) Q (F0 m pc ls (r.1.toList.map (vm_tr g))))
    {pc : Nat} {lv : vm_L} {st : List Value} {M : vm_M} {n : Int} {a b : Nat} {v : Int} (hdg : decode cc pc = .ok (.sipush n, vm_len (.sipush n) b)) (hlk : vm_lk own (.sipush n) a b v) (h : vm_do O L xs own ini nL r E pc lv st M (.sipush n) a b v) (hn : n0 ≤ vm_n M) (hsl : s0 ≤ vm_s M) {H : Heap} {locs : List Loc} {ls : Array Slot} (hl : lv_has ls nL (vm_trl g lv)) (hI : vm_In g cA D M H) (hS : va_S (fun q => b0 ≤ q) s.heap H locs) :
    W p l e R s m args below meth c H locs (vm_n M - n0) (vm_s M - s0) Q (F0 m pc ls (st.map (vm_tr g))) := by
  have hupM : vm_up M r := vm_do_up (fun i as M r' ho => ⟨(hO i as M r' ho).1, (hO i as M r' ho).2.1⟩) hup h
  have hnM : vm_n M ≤ 1099511627776 := Nat.le_trans hupM.1 hnr
  have hDd : va_D (fun q => b0 ≤ q) (vm_w g cA M) := vm_Dd hg hnM
  have hA : ∀ q, s.heap.size ≤ q → (fun q => b0 ≤ q) q := fun q hq => by show b0 ≤ q; omega
  have go : ∀ {pc lv st ls}, E pc lv st M → lv_has ls nL (vm_trl g lv) → W p l e R s m args below meth c H locs (vm_n M - n0) (vm_s M - s0) Q (F0 m pc ls (st.map (vm_tr g))) := fun hE hl => ih _ _ _ _ hE hn hsl _ _ _ hl hI hS
  have hcs : vm_n M - n0 ≤ R.cells := Nat.le_trans (Nat.sub_le_sub_right hupM.1 n0) hRc
  have hss : vm_s M - s0 ≤ R.slots := Nat.le_trans (Nat.sub_le_sub_right hupM.2 s0) hRs
  have hml2 : c.maxLocals = ls.size := hml.trans hl.1.symm
  have arr : ∀ {q t n}, q < vm_n M → vm_sh M q = .inr (t, n) → (vm_w g cA M)[q]? = some (g q, .inl (cA t, n, vm_ct g M q t)) := fun hq hs => by rw [vm_w_at hq, vm_e_arr hs]
  have obj : ∀ {q a}, q < vm_n M → vm_sh M q = .inl a → (vm_w g cA M)[q]? = some (g q, .inr (a, (List.range (vg_N a)).map (fun k => vm_tr g (vm_gv M q (vg_y a k) k)))) := fun hq hs => by rw [vm_w_at hq, vm_e_obj hs]
  have hf1 : 1 ≤ R.frames := by omega
  have hl9 : 900 ≤ R.locals := vm_ar4 hRl
  simp only [vm_do] at h
  exact lv_sipush hx hb hdg rfl (go h hl)
set_option maxHeartbeats 1000000 in
set_option maxRecDepth 20000 in
theorem vm_step_lconst {p : Program} {l : Launch} {e : Env} {R : Room} {s : State} {m : MethodId} {args : Array Value} {below : List Frame} {meth : Method} {c : Code} {Q : State → Prop} {cc : ByteArray} {O : Nat → List Value → vm_M → vm_R → Prop} {L : Nat} {xs : Nat → Int32} {own : Nat} {ini : Bool} {nL n0 s0 b0 d : Nat} {g : Nat → Nat} {cA : Nat → ClassId} {D : va_G} {X : State → Prop} {r : vm_R}
    (hx : p.tables.exec = Jvm.exec) (hb : c.code = cc) (hml : c.maxLocals = nL) (hown : s.vm.findClass (vg_O own) = some m.cls) (hts : ∀ w ∈ vt, w.before args s = true) (hK : va_K D vg_cl (vm_tys cA) s) (hN : vm_Nx s) (hX : X s) (hXs : vm_Str b0 g X)
    (hin : ini = true → meth.name = "<init>") (hscr : own = 12 → va_X (g vm_scr) L xs s s.heap ∧ g vm_scr < s.heap.size ∧ ¬ b0 ≤ g vm_scr) (hg : ∀ q, q < 1099511627776 → g q = b0 + q) (hh0 : s.heap.size = b0 + n0) (hnr : vm_n r.2 ≤ 1099511627776)
    (hRc : vm_n r.2 - n0 ≤ R.cells) (hRs : vm_s r.2 - s0 ≤ R.slots) (hRf : d + 9 ≤ R.frames) (hRl : 100 * (d + 9) ≤ R.locals)
    (hO : ∀ i as M r', O i as M r' → vm_n M ≤ vm_n r'.2 ∧ vm_s M ≤ vm_s r'.2 ∧ (i < 203 → vm_n r'.2 ≤ 1099511627776 → vm_Ok l g cA D b0 X d i as M r')) {E : Nat → vm_L → List Value → vm_M → Prop}
    (ih : ∀ pc lv st M, E pc lv st M → n0 ≤ vm_n M → s0 ≤ vm_s M → ∀ (H : Heap) (locs : List Loc) (ls : Array Slot), lv_has ls nL (vm_trl g lv) → vm_In g cA D M H → va_S (fun q => b0 ≤ q) s.heap H locs → W p l e R s m args below meth c H locs (vm_n M - n0) (vm_s M - s0) Q (F0 m pc ls (st.map (vm_tr g))))
    (hup : ∀ pc lv st M, E pc lv st M → vm_up M r)
    (hret : ∀ pc ins (H : Heap) (locs : List Loc) (ls : Array Slot), decode cc pc = .ok (ins, 1) → vm_isr ins r.1 → vm_In g cA D r.2 H → va_S (fun q => b0 ≤ q) s.heap H locs → W p l e R s m args below meth c H locs (vm_n r.2 - n0) (vm_s r.2 - s0) Q (F0 m pc ls (r.1.toList.map (vm_tr g))))
    {pc : Nat} {lv : vm_L} {st : List Value} {M : vm_M} {n : Fin 2} {a b : Nat} {v : Int} (hdg : decode cc pc = .ok (.lconst n, vm_len (.lconst n) b)) (hlk : vm_lk own (.lconst n) a b v) (h : vm_do O L xs own ini nL r E pc lv st M (.lconst n) a b v) (hn : n0 ≤ vm_n M) (hsl : s0 ≤ vm_s M) {H : Heap} {locs : List Loc} {ls : Array Slot} (hl : lv_has ls nL (vm_trl g lv)) (hI : vm_In g cA D M H) (hS : va_S (fun q => b0 ≤ q) s.heap H locs) :
    W p l e R s m args below meth c H locs (vm_n M - n0) (vm_s M - s0) Q (F0 m pc ls (st.map (vm_tr g))) := by
  have hupM : vm_up M r := vm_do_up (fun i as M r' ho => ⟨(hO i as M r' ho).1, (hO i as M r' ho).2.1⟩) hup h
  have hnM : vm_n M ≤ 1099511627776 := Nat.le_trans hupM.1 hnr
  have hDd : va_D (fun q => b0 ≤ q) (vm_w g cA M) := vm_Dd hg hnM
  have hA : ∀ q, s.heap.size ≤ q → (fun q => b0 ≤ q) q := fun q hq => by show b0 ≤ q; omega
  have go : ∀ {pc lv st ls}, E pc lv st M → lv_has ls nL (vm_trl g lv) → W p l e R s m args below meth c H locs (vm_n M - n0) (vm_s M - s0) Q (F0 m pc ls (st.map (vm_tr g))) := fun hE hl => ih _ _ _ _ hE hn hsl _ _ _ hl hI hS
  have hcs : vm_n M - n0 ≤ R.cells := Nat.le_trans (Nat.sub_le_sub_right hupM.1 n0) hRc
  have hss : vm_s M - s0 ≤ R.slots := Nat.le_trans (Nat.sub_le_sub_right hupM.2 s0) hRs
  have hml2 : c.maxLocals = ls.size := hml.trans hl.1.symm
  have arr : ∀ {q t n}, q < vm_n M → vm_sh M q = .inr (t, n) → (vm_w g cA M)[q]? = some (g q, .inl (cA t, n, vm_ct g M q t)) := fun hq hs => by rw [vm_w_at hq, vm_e_arr hs]
  have obj : ∀ {q a}, q < vm_n M → vm_sh M q = .inl a → (vm_w g cA M)[q]? = some (g q, .inr (a, (List.range (vg_N a)).map (fun k => vm_tr g (vm_gv M q (vg_y a k) k)))) := fun hq hs => by rw [vm_w_at hq, vm_e_obj hs]
  have hf1 : 1 ≤ R.frames := by omega
  have hl9 : 900 ≤ R.locals := vm_ar4 hRl
  simp only [vm_do] at h
  exact lv_lconst hx hb hdg rfl (go h hl)
set_option maxHeartbeats 1000000 in
set_option maxRecDepth 20000 in
theorem vm_step_aconst_null {p : Program} {l : Launch} {e : Env} {R : Room} {s : State} {m : MethodId} {args : Array Value} {below : List Frame} {meth : Method} {c : Code} {Q : State → Prop} {cc : ByteArray} {O : Nat → List Value → vm_M → vm_R → Prop} {L : Nat} {xs : Nat → Int32} {own : Nat} {ini : Bool} {nL n0 s0 b0 d : Nat} {g : Nat → Nat} {cA : Nat → ClassId} {D : va_G} {X : State → Prop} {r : vm_R}
    (hx : p.tables.exec = Jvm.exec) (hb : c.code = cc) (hml : c.maxLocals = nL) (hown : s.vm.findClass (vg_O own) = some m.cls) (hts : ∀ w ∈ vt, w.before args s = true) (hK : va_K D vg_cl (vm_tys cA) s) (hN : vm_Nx s) (hX : X s) (hXs : vm_Str b0 g X)
    (hin : ini = true → meth.name = "<init>") (hscr : own = 12 → va_X (g vm_scr) L xs s s.heap ∧ g vm_scr < s.heap.size ∧ ¬ b0 ≤ g vm_scr) (hg : ∀ q, q < 1099511627776 → g q = b0 + q) (hh0 : s.heap.size = b0 + n0) (hnr : vm_n r.2 ≤ 1099511627776)
    (hRc : vm_n r.2 - n0 ≤ R.cells) (hRs : vm_s r.2 - s0 ≤ R.slots) (hRf : d + 9 ≤ R.frames) (hRl : 100 * (d + 9) ≤ R.locals)
    (hO : ∀ i as M r', O i as M r' → vm_n M ≤ vm_n r'.2 ∧ vm_s M ≤ vm_s r'.2 ∧ (i < 203 → vm_n r'.2 ≤ 1099511627776 → vm_Ok l g cA D b0 X d i as M r')) {E : Nat → vm_L → List Value → vm_M → Prop}
    (ih : ∀ pc lv st M, E pc lv st M → n0 ≤ vm_n M → s0 ≤ vm_s M → ∀ (H : Heap) (locs : List Loc) (ls : Array Slot), lv_has ls nL (vm_trl g lv) → vm_In g cA D M H → va_S (fun q => b0 ≤ q) s.heap H locs → W p l e R s m args below meth c H locs (vm_n M - n0) (vm_s M - s0) Q (F0 m pc ls (st.map (vm_tr g))))
    (hup : ∀ pc lv st M, E pc lv st M → vm_up M r)
    (hret : ∀ pc ins (H : Heap) (locs : List Loc) (ls : Array Slot), decode cc pc = .ok (ins, 1) → vm_isr ins r.1 → vm_In g cA D r.2 H → va_S (fun q => b0 ≤ q) s.heap H locs → W p l e R s m args below meth c H locs (vm_n r.2 - n0) (vm_s r.2 - s0) Q (F0 m pc ls (r.1.toList.map (vm_tr g))))
    {pc : Nat} {lv : vm_L} {st : List Value} {M : vm_M}  {a b : Nat} {v : Int} (hdg : decode cc pc = .ok (.aconst_null, vm_len (.aconst_null) b)) (hlk : vm_lk own (.aconst_null) a b v) (h : vm_do O L xs own ini nL r E pc lv st M (.aconst_null) a b v) (hn : n0 ≤ vm_n M) (hsl : s0 ≤ vm_s M) {H : Heap} {locs : List Loc} {ls : Array Slot} (hl : lv_has ls nL (vm_trl g lv)) (hI : vm_In g cA D M H) (hS : va_S (fun q => b0 ≤ q) s.heap H locs) :
    W p l e R s m args below meth c H locs (vm_n M - n0) (vm_s M - s0) Q (F0 m pc ls (st.map (vm_tr g))) := by
  have hupM : vm_up M r := vm_do_up (fun i as M r' ho => ⟨(hO i as M r' ho).1, (hO i as M r' ho).2.1⟩) hup h
  have hnM : vm_n M ≤ 1099511627776 := Nat.le_trans hupM.1 hnr
  have hDd : va_D (fun q => b0 ≤ q) (vm_w g cA M) := vm_Dd hg hnM
  have hA : ∀ q, s.heap.size ≤ q → (fun q => b0 ≤ q) q := fun q hq => by show b0 ≤ q; omega
  have go : ∀ {pc lv st ls}, E pc lv st M → lv_has ls nL (vm_trl g lv) → W p l e R s m args below meth c H locs (vm_n M - n0) (vm_s M - s0) Q (F0 m pc ls (st.map (vm_tr g))) := fun hE hl => ih _ _ _ _ hE hn hsl _ _ _ hl hI hS
  have hcs : vm_n M - n0 ≤ R.cells := Nat.le_trans (Nat.sub_le_sub_right hupM.1 n0) hRc
  have hss : vm_s M - s0 ≤ R.slots := Nat.le_trans (Nat.sub_le_sub_right hupM.2 s0) hRs
  have hml2 : c.maxLocals = ls.size := hml.trans hl.1.symm
  have arr : ∀ {q t n}, q < vm_n M → vm_sh M q = .inr (t, n) → (vm_w g cA M)[q]? = some (g q, .inl (cA t, n, vm_ct g M q t)) := fun hq hs => by rw [vm_w_at hq, vm_e_arr hs]
  have obj : ∀ {q a}, q < vm_n M → vm_sh M q = .inl a → (vm_w g cA M)[q]? = some (g q, .inr (a, (List.range (vg_N a)).map (fun k => vm_tr g (vm_gv M q (vg_y a k) k)))) := fun hq hs => by rw [vm_w_at hq, vm_e_obj hs]
  have hf1 : 1 ≤ R.frames := by omega
  have hl9 : 900 ≤ R.locals := vm_ar4 hRl
  simp only [vm_do] at h
  exact lv_null hx hb hdg (go h hl)
set_option maxHeartbeats 1000000 in
set_option maxRecDepth 20000 in
theorem vm_step_ldc {p : Program} {l : Launch} {e : Env} {R : Room} {s : State} {m : MethodId} {args : Array Value} {below : List Frame} {meth : Method} {c : Code} {Q : State → Prop} {cc : ByteArray} {O : Nat → List Value → vm_M → vm_R → Prop} {L : Nat} {xs : Nat → Int32} {own : Nat} {ini : Bool} {nL n0 s0 b0 d : Nat} {g : Nat → Nat} {cA : Nat → ClassId} {D : va_G} {X : State → Prop} {r : vm_R}
    (hx : p.tables.exec = Jvm.exec) (hb : c.code = cc) (hml : c.maxLocals = nL) (hown : s.vm.findClass (vg_O own) = some m.cls) (hts : ∀ w ∈ vt, w.before args s = true) (hK : va_K D vg_cl (vm_tys cA) s) (hN : vm_Nx s) (hX : X s) (hXs : vm_Str b0 g X)
    (hin : ini = true → meth.name = "<init>") (hscr : own = 12 → va_X (g vm_scr) L xs s s.heap ∧ g vm_scr < s.heap.size ∧ ¬ b0 ≤ g vm_scr) (hg : ∀ q, q < 1099511627776 → g q = b0 + q) (hh0 : s.heap.size = b0 + n0) (hnr : vm_n r.2 ≤ 1099511627776)
    (hRc : vm_n r.2 - n0 ≤ R.cells) (hRs : vm_s r.2 - s0 ≤ R.slots) (hRf : d + 9 ≤ R.frames) (hRl : 100 * (d + 9) ≤ R.locals)
    (hO : ∀ i as M r', O i as M r' → vm_n M ≤ vm_n r'.2 ∧ vm_s M ≤ vm_s r'.2 ∧ (i < 203 → vm_n r'.2 ≤ 1099511627776 → vm_Ok l g cA D b0 X d i as M r')) {E : Nat → vm_L → List Value → vm_M → Prop}
    (ih : ∀ pc lv st M, E pc lv st M → n0 ≤ vm_n M → s0 ≤ vm_s M → ∀ (H : Heap) (locs : List Loc) (ls : Array Slot), lv_has ls nL (vm_trl g lv) → vm_In g cA D M H → va_S (fun q => b0 ≤ q) s.heap H locs → W p l e R s m args below meth c H locs (vm_n M - n0) (vm_s M - s0) Q (F0 m pc ls (st.map (vm_tr g))))
    (hup : ∀ pc lv st M, E pc lv st M → vm_up M r)
    (hret : ∀ pc ins (H : Heap) (locs : List Loc) (ls : Array Slot), decode cc pc = .ok (ins, 1) → vm_isr ins r.1 → vm_In g cA D r.2 H → va_S (fun q => b0 ≤ q) s.heap H locs → W p l e R s m args below meth c H locs (vm_n r.2 - n0) (vm_s r.2 - s0) Q (F0 m pc ls (r.1.toList.map (vm_tr g))))
    {pc : Nat} {lv : vm_L} {st : List Value} {M : vm_M} {i : Nat} {a b : Nat} {v : Int} (hdg : decode cc pc = .ok (.ldc i, vm_len (.ldc i) b)) (hlk : vm_lk own (.ldc i) a b v) (h : vm_do O L xs own ini nL r E pc lv st M (.ldc i) a b v) (hn : n0 ≤ vm_n M) (hsl : s0 ≤ vm_s M) {H : Heap} {locs : List Loc} {ls : Array Slot} (hl : lv_has ls nL (vm_trl g lv)) (hI : vm_In g cA D M H) (hS : va_S (fun q => b0 ≤ q) s.heap H locs) :
    W p l e R s m args below meth c H locs (vm_n M - n0) (vm_s M - s0) Q (F0 m pc ls (st.map (vm_tr g))) := by
  have hupM : vm_up M r := vm_do_up (fun i as M r' ho => ⟨(hO i as M r' ho).1, (hO i as M r' ho).2.1⟩) hup h
  have hnM : vm_n M ≤ 1099511627776 := Nat.le_trans hupM.1 hnr
  have hDd : va_D (fun q => b0 ≤ q) (vm_w g cA M) := vm_Dd hg hnM
  have hA : ∀ q, s.heap.size ≤ q → (fun q => b0 ≤ q) q := fun q hq => by show b0 ≤ q; omega
  have go : ∀ {pc lv st ls}, E pc lv st M → lv_has ls nL (vm_trl g lv) → W p l e R s m args below meth c H locs (vm_n M - n0) (vm_s M - s0) Q (F0 m pc ls (st.map (vm_tr g))) := fun hE hl => ih _ _ _ _ hE hn hsl _ _ _ hl hI hS
  have hcs : vm_n M - n0 ≤ R.cells := Nat.le_trans (Nat.sub_le_sub_right hupM.1 n0) hRc
  have hss : vm_s M - s0 ≤ R.slots := Nat.le_trans (Nat.sub_le_sub_right hupM.2 s0) hRs
  have hml2 : c.maxLocals = ls.size := hml.trans hl.1.symm
  have arr : ∀ {q t n}, q < vm_n M → vm_sh M q = .inr (t, n) → (vm_w g cA M)[q]? = some (g q, .inl (cA t, n, vm_ct g M q t)) := fun hq hs => by rw [vm_w_at hq, vm_e_arr hs]
  have obj : ∀ {q a}, q < vm_n M → vm_sh M q = .inl a → (vm_w g cA M)[q]? = some (g q, .inr (a, (List.range (vg_N a)).map (fun k => vm_tr g (vm_gv M q (vg_y a k) k)))) := fun hq hs => by rw [vm_w_at hq, vm_e_obj hs]
  have hf1 : 1 ≤ R.frames := by omega
  have hl9 : 900 ≤ R.locals := vm_ar4 hRl
  simp only [vm_do] at h
  rcases h with ⟨ha, h⟩ | ⟨ha, h⟩
  · exact lv_ldc hx hb hown (hts _ (hlk.1 ha)) hdg (go h hl)
  · obtain ⟨ho, hi⟩ := hlk.2 ha
    subst ho
    subst hi
    exact hXs.2.2.1 p l e R s m args below meth c H locs _ _ Q cc pc ls _ hx hb hown hX hdg (go h hl)
set_option maxHeartbeats 1000000 in
set_option maxRecDepth 20000 in
theorem vm_step_ldc_w {p : Program} {l : Launch} {e : Env} {R : Room} {s : State} {m : MethodId} {args : Array Value} {below : List Frame} {meth : Method} {c : Code} {Q : State → Prop} {cc : ByteArray} {O : Nat → List Value → vm_M → vm_R → Prop} {L : Nat} {xs : Nat → Int32} {own : Nat} {ini : Bool} {nL n0 s0 b0 d : Nat} {g : Nat → Nat} {cA : Nat → ClassId} {D : va_G} {X : State → Prop} {r : vm_R}
    (hx : p.tables.exec = Jvm.exec) (hb : c.code = cc) (hml : c.maxLocals = nL) (hown : s.vm.findClass (vg_O own) = some m.cls) (hts : ∀ w ∈ vt, w.before args s = true) (hK : va_K D vg_cl (vm_tys cA) s) (hN : vm_Nx s) (hX : X s) (hXs : vm_Str b0 g X)
    (hin : ini = true → meth.name = "<init>") (hscr : own = 12 → va_X (g vm_scr) L xs s s.heap ∧ g vm_scr < s.heap.size ∧ ¬ b0 ≤ g vm_scr) (hg : ∀ q, q < 1099511627776 → g q = b0 + q) (hh0 : s.heap.size = b0 + n0) (hnr : vm_n r.2 ≤ 1099511627776)
    (hRc : vm_n r.2 - n0 ≤ R.cells) (hRs : vm_s r.2 - s0 ≤ R.slots) (hRf : d + 9 ≤ R.frames) (hRl : 100 * (d + 9) ≤ R.locals)
    (hO : ∀ i as M r', O i as M r' → vm_n M ≤ vm_n r'.2 ∧ vm_s M ≤ vm_s r'.2 ∧ (i < 203 → vm_n r'.2 ≤ 1099511627776 → vm_Ok l g cA D b0 X d i as M r')) {E : Nat → vm_L → List Value → vm_M → Prop}
    (ih : ∀ pc lv st M, E pc lv st M → n0 ≤ vm_n M → s0 ≤ vm_s M → ∀ (H : Heap) (locs : List Loc) (ls : Array Slot), lv_has ls nL (vm_trl g lv) → vm_In g cA D M H → va_S (fun q => b0 ≤ q) s.heap H locs → W p l e R s m args below meth c H locs (vm_n M - n0) (vm_s M - s0) Q (F0 m pc ls (st.map (vm_tr g))))
    (hup : ∀ pc lv st M, E pc lv st M → vm_up M r)
    (hret : ∀ pc ins (H : Heap) (locs : List Loc) (ls : Array Slot), decode cc pc = .ok (ins, 1) → vm_isr ins r.1 → vm_In g cA D r.2 H → va_S (fun q => b0 ≤ q) s.heap H locs → W p l e R s m args below meth c H locs (vm_n r.2 - n0) (vm_s r.2 - s0) Q (F0 m pc ls (r.1.toList.map (vm_tr g))))
    {pc : Nat} {lv : vm_L} {st : List Value} {M : vm_M} {i : Nat} {a b : Nat} {v : Int} (hdg : decode cc pc = .ok (.ldc_w i, vm_len (.ldc_w i) b)) (hlk : vm_lk own (.ldc_w i) a b v) (h : vm_do O L xs own ini nL r E pc lv st M (.ldc_w i) a b v) (hn : n0 ≤ vm_n M) (hsl : s0 ≤ vm_s M) {H : Heap} {locs : List Loc} {ls : Array Slot} (hl : lv_has ls nL (vm_trl g lv)) (hI : vm_In g cA D M H) (hS : va_S (fun q => b0 ≤ q) s.heap H locs) :
    W p l e R s m args below meth c H locs (vm_n M - n0) (vm_s M - s0) Q (F0 m pc ls (st.map (vm_tr g))) := by
  have hupM : vm_up M r := vm_do_up (fun i as M r' ho => ⟨(hO i as M r' ho).1, (hO i as M r' ho).2.1⟩) hup h
  have hnM : vm_n M ≤ 1099511627776 := Nat.le_trans hupM.1 hnr
  have hDd : va_D (fun q => b0 ≤ q) (vm_w g cA M) := vm_Dd hg hnM
  have hA : ∀ q, s.heap.size ≤ q → (fun q => b0 ≤ q) q := fun q hq => by show b0 ≤ q; omega
  have go : ∀ {pc lv st ls}, E pc lv st M → lv_has ls nL (vm_trl g lv) → W p l e R s m args below meth c H locs (vm_n M - n0) (vm_s M - s0) Q (F0 m pc ls (st.map (vm_tr g))) := fun hE hl => ih _ _ _ _ hE hn hsl _ _ _ hl hI hS
  have hcs : vm_n M - n0 ≤ R.cells := Nat.le_trans (Nat.sub_le_sub_right hupM.1 n0) hRc
  have hss : vm_s M - s0 ≤ R.slots := Nat.le_trans (Nat.sub_le_sub_right hupM.2 s0) hRs
  have hml2 : c.maxLocals = ls.size := hml.trans hl.1.symm
  have arr : ∀ {q t n}, q < vm_n M → vm_sh M q = .inr (t, n) → (vm_w g cA M)[q]? = some (g q, .inl (cA t, n, vm_ct g M q t)) := fun hq hs => by rw [vm_w_at hq, vm_e_arr hs]
  have obj : ∀ {q a}, q < vm_n M → vm_sh M q = .inl a → (vm_w g cA M)[q]? = some (g q, .inr (a, (List.range (vg_N a)).map (fun k => vm_tr g (vm_gv M q (vg_y a k) k)))) := fun hq hs => by rw [vm_w_at hq, vm_e_obj hs]
  have hf1 : 1 ≤ R.frames := by omega
  have hl9 : 900 ≤ R.locals := vm_ar4 hRl
  simp only [vm_do] at h
  exact lv_ldcw hx hb hown (hts _ hlk) hdg (go h hl)
set_option maxHeartbeats 1000000 in
set_option maxRecDepth 20000 in
theorem vm_step_ldc2_w {p : Program} {l : Launch} {e : Env} {R : Room} {s : State} {m : MethodId} {args : Array Value} {below : List Frame} {meth : Method} {c : Code} {Q : State → Prop} {cc : ByteArray} {O : Nat → List Value → vm_M → vm_R → Prop} {L : Nat} {xs : Nat → Int32} {own : Nat} {ini : Bool} {nL n0 s0 b0 d : Nat} {g : Nat → Nat} {cA : Nat → ClassId} {D : va_G} {X : State → Prop} {r : vm_R}
    (hx : p.tables.exec = Jvm.exec) (hb : c.code = cc) (hml : c.maxLocals = nL) (hown : s.vm.findClass (vg_O own) = some m.cls) (hts : ∀ w ∈ vt, w.before args s = true) (hK : va_K D vg_cl (vm_tys cA) s) (hN : vm_Nx s) (hX : X s) (hXs : vm_Str b0 g X)
    (hin : ini = true → meth.name = "<init>") (hscr : own = 12 → va_X (g vm_scr) L xs s s.heap ∧ g vm_scr < s.heap.size ∧ ¬ b0 ≤ g vm_scr) (hg : ∀ q, q < 1099511627776 → g q = b0 + q) (hh0 : s.heap.size = b0 + n0) (hnr : vm_n r.2 ≤ 1099511627776)
    (hRc : vm_n r.2 - n0 ≤ R.cells) (hRs : vm_s r.2 - s0 ≤ R.slots) (hRf : d + 9 ≤ R.frames) (hRl : 100 * (d + 9) ≤ R.locals)
    (hO : ∀ i as M r', O i as M r' → vm_n M ≤ vm_n r'.2 ∧ vm_s M ≤ vm_s r'.2 ∧ (i < 203 → vm_n r'.2 ≤ 1099511627776 → vm_Ok l g cA D b0 X d i as M r')) {E : Nat → vm_L → List Value → vm_M → Prop}
    (ih : ∀ pc lv st M, E pc lv st M → n0 ≤ vm_n M → s0 ≤ vm_s M → ∀ (H : Heap) (locs : List Loc) (ls : Array Slot), lv_has ls nL (vm_trl g lv) → vm_In g cA D M H → va_S (fun q => b0 ≤ q) s.heap H locs → W p l e R s m args below meth c H locs (vm_n M - n0) (vm_s M - s0) Q (F0 m pc ls (st.map (vm_tr g))))
    (hup : ∀ pc lv st M, E pc lv st M → vm_up M r)
    (hret : ∀ pc ins (H : Heap) (locs : List Loc) (ls : Array Slot), decode cc pc = .ok (ins, 1) → vm_isr ins r.1 → vm_In g cA D r.2 H → va_S (fun q => b0 ≤ q) s.heap H locs → W p l e R s m args below meth c H locs (vm_n r.2 - n0) (vm_s r.2 - s0) Q (F0 m pc ls (r.1.toList.map (vm_tr g))))
    {pc : Nat} {lv : vm_L} {st : List Value} {M : vm_M} {i : Nat} {a b : Nat} {v : Int} (hdg : decode cc pc = .ok (.ldc2_w i, vm_len (.ldc2_w i) b)) (hlk : vm_lk own (.ldc2_w i) a b v) (h : vm_do O L xs own ini nL r E pc lv st M (.ldc2_w i) a b v) (hn : n0 ≤ vm_n M) (hsl : s0 ≤ vm_s M) {H : Heap} {locs : List Loc} {ls : Array Slot} (hl : lv_has ls nL (vm_trl g lv)) (hI : vm_In g cA D M H) (hS : va_S (fun q => b0 ≤ q) s.heap H locs) :
    W p l e R s m args below meth c H locs (vm_n M - n0) (vm_s M - s0) Q (F0 m pc ls (st.map (vm_tr g))) := by
  have hupM : vm_up M r := vm_do_up (fun i as M r' ho => ⟨(hO i as M r' ho).1, (hO i as M r' ho).2.1⟩) hup h
  have hnM : vm_n M ≤ 1099511627776 := Nat.le_trans hupM.1 hnr
  have hDd : va_D (fun q => b0 ≤ q) (vm_w g cA M) := vm_Dd hg hnM
  have hA : ∀ q, s.heap.size ≤ q → (fun q => b0 ≤ q) q := fun q hq => by show b0 ≤ q; omega
  have go : ∀ {pc lv st ls}, E pc lv st M → lv_has ls nL (vm_trl g lv) → W p l e R s m args below meth c H locs (vm_n M - n0) (vm_s M - s0) Q (F0 m pc ls (st.map (vm_tr g))) := fun hE hl => ih _ _ _ _ hE hn hsl _ _ _ hl hI hS
  have hcs : vm_n M - n0 ≤ R.cells := Nat.le_trans (Nat.sub_le_sub_right hupM.1 n0) hRc
  have hss : vm_s M - s0 ≤ R.slots := Nat.le_trans (Nat.sub_le_sub_right hupM.2 s0) hRs
  have hml2 : c.maxLocals = ls.size := hml.trans hl.1.symm
  have arr : ∀ {q t n}, q < vm_n M → vm_sh M q = .inr (t, n) → (vm_w g cA M)[q]? = some (g q, .inl (cA t, n, vm_ct g M q t)) := fun hq hs => by rw [vm_w_at hq, vm_e_arr hs]
  have obj : ∀ {q a}, q < vm_n M → vm_sh M q = .inl a → (vm_w g cA M)[q]? = some (g q, .inr (a, (List.range (vg_N a)).map (fun k => vm_tr g (vm_gv M q (vg_y a k) k)))) := fun hq hs => by rw [vm_w_at hq, vm_e_obj hs]
  have hf1 : 1 ≤ R.frames := by omega
  have hl9 : 900 ≤ R.locals := vm_ar4 hRl
  simp only [vm_do] at h
  exact lv_ldc2 hx hb hown (hts _ hlk) hdg (go h hl)
set_option maxHeartbeats 1000000 in
set_option maxRecDepth 20000 in
theorem vm_step_iload {p : Program} {l : Launch} {e : Env} {R : Room} {s : State} {m : MethodId} {args : Array Value} {below : List Frame} {meth : Method} {c : Code} {Q : State → Prop} {cc : ByteArray} {O : Nat → List Value → vm_M → vm_R → Prop} {L : Nat} {xs : Nat → Int32} {own : Nat} {ini : Bool} {nL n0 s0 b0 d : Nat} {g : Nat → Nat} {cA : Nat → ClassId} {D : va_G} {X : State → Prop} {r : vm_R}
    (hx : p.tables.exec = Jvm.exec) (hb : c.code = cc) (hml : c.maxLocals = nL) (hown : s.vm.findClass (vg_O own) = some m.cls) (hts : ∀ w ∈ vt, w.before args s = true) (hK : va_K D vg_cl (vm_tys cA) s) (hN : vm_Nx s) (hX : X s) (hXs : vm_Str b0 g X)
    (hin : ini = true → meth.name = "<init>") (hscr : own = 12 → va_X (g vm_scr) L xs s s.heap ∧ g vm_scr < s.heap.size ∧ ¬ b0 ≤ g vm_scr) (hg : ∀ q, q < 1099511627776 → g q = b0 + q) (hh0 : s.heap.size = b0 + n0) (hnr : vm_n r.2 ≤ 1099511627776)
    (hRc : vm_n r.2 - n0 ≤ R.cells) (hRs : vm_s r.2 - s0 ≤ R.slots) (hRf : d + 9 ≤ R.frames) (hRl : 100 * (d + 9) ≤ R.locals)
    (hO : ∀ i as M r', O i as M r' → vm_n M ≤ vm_n r'.2 ∧ vm_s M ≤ vm_s r'.2 ∧ (i < 203 → vm_n r'.2 ≤ 1099511627776 → vm_Ok l g cA D b0 X d i as M r')) {E : Nat → vm_L → List Value → vm_M → Prop}
    (ih : ∀ pc lv st M, E pc lv st M → n0 ≤ vm_n M → s0 ≤ vm_s M → ∀ (H : Heap) (locs : List Loc) (ls : Array Slot), lv_has ls nL (vm_trl g lv) → vm_In g cA D M H → va_S (fun q => b0 ≤ q) s.heap H locs → W p l e R s m args below meth c H locs (vm_n M - n0) (vm_s M - s0) Q (F0 m pc ls (st.map (vm_tr g))))
    (hup : ∀ pc lv st M, E pc lv st M → vm_up M r)
    (hret : ∀ pc ins (H : Heap) (locs : List Loc) (ls : Array Slot), decode cc pc = .ok (ins, 1) → vm_isr ins r.1 → vm_In g cA D r.2 H → va_S (fun q => b0 ≤ q) s.heap H locs → W p l e R s m args below meth c H locs (vm_n r.2 - n0) (vm_s r.2 - s0) Q (F0 m pc ls (r.1.toList.map (vm_tr g))))
    {pc : Nat} {lv : vm_L} {st : List Value} {M : vm_M} {i : Nat} {a b : Nat} {v : Int} (hdg : decode cc pc = .ok (.iload i, vm_len (.iload i) b)) (hlk : vm_lk own (.iload i) a b v) (h : vm_do O L xs own ini nL r E pc lv st M (.iload i) a b v) (hn : n0 ≤ vm_n M) (hsl : s0 ≤ vm_s M) {H : Heap} {locs : List Loc} {ls : Array Slot} (hl : lv_has ls nL (vm_trl g lv)) (hI : vm_In g cA D M H) (hS : va_S (fun q => b0 ≤ q) s.heap H locs) :
    W p l e R s m args below meth c H locs (vm_n M - n0) (vm_s M - s0) Q (F0 m pc ls (st.map (vm_tr g))) := by
  have hupM : vm_up M r := vm_do_up (fun i as M r' ho => ⟨(hO i as M r' ho).1, (hO i as M r' ho).2.1⟩) hup h
  have hnM : vm_n M ≤ 1099511627776 := Nat.le_trans hupM.1 hnr
  have hDd : va_D (fun q => b0 ≤ q) (vm_w g cA M) := vm_Dd hg hnM
  have hA : ∀ q, s.heap.size ≤ q → (fun q => b0 ≤ q) q := fun q hq => by show b0 ≤ q; omega
  have go : ∀ {pc lv st ls}, E pc lv st M → lv_has ls nL (vm_trl g lv) → W p l e R s m args below meth c H locs (vm_n M - n0) (vm_s M - s0) Q (F0 m pc ls (st.map (vm_tr g))) := fun hE hl => ih _ _ _ _ hE hn hsl _ _ _ hl hI hS
  have hcs : vm_n M - n0 ≤ R.cells := Nat.le_trans (Nat.sub_le_sub_right hupM.1 n0) hRc
  have hss : vm_s M - s0 ≤ R.slots := Nat.le_trans (Nat.sub_le_sub_right hupM.2 s0) hRs
  have hml2 : c.maxLocals = ls.size := hml.trans hl.1.symm
  have arr : ∀ {q t n}, q < vm_n M → vm_sh M q = .inr (t, n) → (vm_w g cA M)[q]? = some (g q, .inl (cA t, n, vm_ct g M q t)) := fun hq hs => by rw [vm_w_at hq, vm_e_arr hs]
  have obj : ∀ {q a}, q < vm_n M → vm_sh M q = .inl a → (vm_w g cA M)[q]? = some (g q, .inr (a, (List.range (vg_N a)).map (fun k => vm_tr g (vm_gv M q (vg_y a k) k)))) := fun hq hs => by rw [vm_w_at hq, vm_e_obj hs]
  have hf1 : 1 ≤ R.frames := by omega
  have hl9 : 900 ≤ R.locals := vm_ar4 hRl
  simp only [vm_do] at h
  obtain ⟨x, hm, h⟩ := h
  exact lv_iload hx hb hdg (hl.2.2 _ (vm_trl_mem hm)) (go h hl)
set_option maxHeartbeats 1000000 in
set_option maxRecDepth 20000 in
theorem vm_step_iload_n {p : Program} {l : Launch} {e : Env} {R : Room} {s : State} {m : MethodId} {args : Array Value} {below : List Frame} {meth : Method} {c : Code} {Q : State → Prop} {cc : ByteArray} {O : Nat → List Value → vm_M → vm_R → Prop} {L : Nat} {xs : Nat → Int32} {own : Nat} {ini : Bool} {nL n0 s0 b0 d : Nat} {g : Nat → Nat} {cA : Nat → ClassId} {D : va_G} {X : State → Prop} {r : vm_R}
    (hx : p.tables.exec = Jvm.exec) (hb : c.code = cc) (hml : c.maxLocals = nL) (hown : s.vm.findClass (vg_O own) = some m.cls) (hts : ∀ w ∈ vt, w.before args s = true) (hK : va_K D vg_cl (vm_tys cA) s) (hN : vm_Nx s) (hX : X s) (hXs : vm_Str b0 g X)
    (hin : ini = true → meth.name = "<init>") (hscr : own = 12 → va_X (g vm_scr) L xs s s.heap ∧ g vm_scr < s.heap.size ∧ ¬ b0 ≤ g vm_scr) (hg : ∀ q, q < 1099511627776 → g q = b0 + q) (hh0 : s.heap.size = b0 + n0) (hnr : vm_n r.2 ≤ 1099511627776)
    (hRc : vm_n r.2 - n0 ≤ R.cells) (hRs : vm_s r.2 - s0 ≤ R.slots) (hRf : d + 9 ≤ R.frames) (hRl : 100 * (d + 9) ≤ R.locals)
    (hO : ∀ i as M r', O i as M r' → vm_n M ≤ vm_n r'.2 ∧ vm_s M ≤ vm_s r'.2 ∧ (i < 203 → vm_n r'.2 ≤ 1099511627776 → vm_Ok l g cA D b0 X d i as M r')) {E : Nat → vm_L → List Value → vm_M → Prop}
    (ih : ∀ pc lv st M, E pc lv st M → n0 ≤ vm_n M → s0 ≤ vm_s M → ∀ (H : Heap) (locs : List Loc) (ls : Array Slot), lv_has ls nL (vm_trl g lv) → vm_In g cA D M H → va_S (fun q => b0 ≤ q) s.heap H locs → W p l e R s m args below meth c H locs (vm_n M - n0) (vm_s M - s0) Q (F0 m pc ls (st.map (vm_tr g))))
    (hup : ∀ pc lv st M, E pc lv st M → vm_up M r)
    (hret : ∀ pc ins (H : Heap) (locs : List Loc) (ls : Array Slot), decode cc pc = .ok (ins, 1) → vm_isr ins r.1 → vm_In g cA D r.2 H → va_S (fun q => b0 ≤ q) s.heap H locs → W p l e R s m args below meth c H locs (vm_n r.2 - n0) (vm_s r.2 - s0) Q (F0 m pc ls (r.1.toList.map (vm_tr g))))
    {pc : Nat} {lv : vm_L} {st : List Value} {M : vm_M} {i : Fin 4} {a b : Nat} {v : Int} (hdg : decode cc pc = .ok (.iload_n i, vm_len (.iload_n i) b)) (hlk : vm_lk own (.iload_n i) a b v) (h : vm_do O L xs own ini nL r E pc lv st M (.iload_n i) a b v) (hn : n0 ≤ vm_n M) (hsl : s0 ≤ vm_s M) {H : Heap} {locs : List Loc} {ls : Array Slot} (hl : lv_has ls nL (vm_trl g lv)) (hI : vm_In g cA D M H) (hS : va_S (fun q => b0 ≤ q) s.heap H locs) :
    W p l e R s m args below meth c H locs (vm_n M - n0) (vm_s M - s0) Q (F0 m pc ls (st.map (vm_tr g))) := by
  have hupM : vm_up M r := vm_do_up (fun i as M r' ho => ⟨(hO i as M r' ho).1, (hO i as M r' ho).2.1⟩) hup h
  have hnM : vm_n M ≤ 1099511627776 := Nat.le_trans hupM.1 hnr
  have hDd : va_D (fun q => b0 ≤ q) (vm_w g cA M) := vm_Dd hg hnM
  have hA : ∀ q, s.heap.size ≤ q → (fun q => b0 ≤ q) q := fun q hq => by show b0 ≤ q; omega
  have go : ∀ {pc lv st ls}, E pc lv st M → lv_has ls nL (vm_trl g lv) → W p l e R s m args below meth c H locs (vm_n M - n0) (vm_s M - s0) Q (F0 m pc ls (st.map (vm_tr g))) := fun hE hl => ih _ _ _ _ hE hn hsl _ _ _ hl hI hS
  have hcs : vm_n M - n0 ≤ R.cells := Nat.le_trans (Nat.sub_le_sub_right hupM.1 n0) hRc
  have hss : vm_s M - s0 ≤ R.slots := Nat.le_trans (Nat.sub_le_sub_right hupM.2 s0) hRs
  have hml2 : c.maxLocals = ls.size := hml.trans hl.1.symm
  have arr : ∀ {q t n}, q < vm_n M → vm_sh M q = .inr (t, n) → (vm_w g cA M)[q]? = some (g q, .inl (cA t, n, vm_ct g M q t)) := fun hq hs => by rw [vm_w_at hq, vm_e_arr hs]
  have obj : ∀ {q a}, q < vm_n M → vm_sh M q = .inl a → (vm_w g cA M)[q]? = some (g q, .inr (a, (List.range (vg_N a)).map (fun k => vm_tr g (vm_gv M q (vg_y a k) k)))) := fun hq hs => by rw [vm_w_at hq, vm_e_obj hs]
  have hf1 : 1 ≤ R.frames := by omega
  have hl9 : 900 ≤ R.locals := vm_ar4 hRl
  simp only [vm_do] at h
  obtain ⟨x, hm, h⟩ := h
  exact lv_iload_n hx hb hdg rfl (hl.2.2 _ (vm_trl_mem hm)) (go h hl)
set_option maxHeartbeats 1000000 in
set_option maxRecDepth 20000 in
theorem vm_step_lload {p : Program} {l : Launch} {e : Env} {R : Room} {s : State} {m : MethodId} {args : Array Value} {below : List Frame} {meth : Method} {c : Code} {Q : State → Prop} {cc : ByteArray} {O : Nat → List Value → vm_M → vm_R → Prop} {L : Nat} {xs : Nat → Int32} {own : Nat} {ini : Bool} {nL n0 s0 b0 d : Nat} {g : Nat → Nat} {cA : Nat → ClassId} {D : va_G} {X : State → Prop} {r : vm_R}
    (hx : p.tables.exec = Jvm.exec) (hb : c.code = cc) (hml : c.maxLocals = nL) (hown : s.vm.findClass (vg_O own) = some m.cls) (hts : ∀ w ∈ vt, w.before args s = true) (hK : va_K D vg_cl (vm_tys cA) s) (hN : vm_Nx s) (hX : X s) (hXs : vm_Str b0 g X)
    (hin : ini = true → meth.name = "<init>") (hscr : own = 12 → va_X (g vm_scr) L xs s s.heap ∧ g vm_scr < s.heap.size ∧ ¬ b0 ≤ g vm_scr) (hg : ∀ q, q < 1099511627776 → g q = b0 + q) (hh0 : s.heap.size = b0 + n0) (hnr : vm_n r.2 ≤ 1099511627776)
    (hRc : vm_n r.2 - n0 ≤ R.cells) (hRs : vm_s r.2 - s0 ≤ R.slots) (hRf : d + 9 ≤ R.frames) (hRl : 100 * (d + 9) ≤ R.locals)
    (hO : ∀ i as M r', O i as M r' → vm_n M ≤ vm_n r'.2 ∧ vm_s M ≤ vm_s r'.2 ∧ (i < 203 → vm_n r'.2 ≤ 1099511627776 → vm_Ok l g cA D b0 X d i as M r')) {E : Nat → vm_L → List Value → vm_M → Prop}
    (ih : ∀ pc lv st M, E pc lv st M → n0 ≤ vm_n M → s0 ≤ vm_s M → ∀ (H : Heap) (locs : List Loc) (ls : Array Slot), lv_has ls nL (vm_trl g lv) → vm_In g cA D M H → va_S (fun q => b0 ≤ q) s.heap H locs → W p l e R s m args below meth c H locs (vm_n M - n0) (vm_s M - s0) Q (F0 m pc ls (st.map (vm_tr g))))
    (hup : ∀ pc lv st M, E pc lv st M → vm_up M r)
    (hret : ∀ pc ins (H : Heap) (locs : List Loc) (ls : Array Slot), decode cc pc = .ok (ins, 1) → vm_isr ins r.1 → vm_In g cA D r.2 H → va_S (fun q => b0 ≤ q) s.heap H locs → W p l e R s m args below meth c H locs (vm_n r.2 - n0) (vm_s r.2 - s0) Q (F0 m pc ls (r.1.toList.map (vm_tr g))))
    {pc : Nat} {lv : vm_L} {st : List Value} {M : vm_M} {i : Nat} {a b : Nat} {v : Int} (hdg : decode cc pc = .ok (.lload i, vm_len (.lload i) b)) (hlk : vm_lk own (.lload i) a b v) (h : vm_do O L xs own ini nL r E pc lv st M (.lload i) a b v) (hn : n0 ≤ vm_n M) (hsl : s0 ≤ vm_s M) {H : Heap} {locs : List Loc} {ls : Array Slot} (hl : lv_has ls nL (vm_trl g lv)) (hI : vm_In g cA D M H) (hS : va_S (fun q => b0 ≤ q) s.heap H locs) :
    W p l e R s m args below meth c H locs (vm_n M - n0) (vm_s M - s0) Q (F0 m pc ls (st.map (vm_tr g))) := by
  have hupM : vm_up M r := vm_do_up (fun i as M r' ho => ⟨(hO i as M r' ho).1, (hO i as M r' ho).2.1⟩) hup h
  have hnM : vm_n M ≤ 1099511627776 := Nat.le_trans hupM.1 hnr
  have hDd : va_D (fun q => b0 ≤ q) (vm_w g cA M) := vm_Dd hg hnM
  have hA : ∀ q, s.heap.size ≤ q → (fun q => b0 ≤ q) q := fun q hq => by show b0 ≤ q; omega
  have go : ∀ {pc lv st ls}, E pc lv st M → lv_has ls nL (vm_trl g lv) → W p l e R s m args below meth c H locs (vm_n M - n0) (vm_s M - s0) Q (F0 m pc ls (st.map (vm_tr g))) := fun hE hl => ih _ _ _ _ hE hn hsl _ _ _ hl hI hS
  have hcs : vm_n M - n0 ≤ R.cells := Nat.le_trans (Nat.sub_le_sub_right hupM.1 n0) hRc
  have hss : vm_s M - s0 ≤ R.slots := Nat.le_trans (Nat.sub_le_sub_right hupM.2 s0) hRs
  have hml2 : c.maxLocals = ls.size := hml.trans hl.1.symm
  have arr : ∀ {q t n}, q < vm_n M → vm_sh M q = .inr (t, n) → (vm_w g cA M)[q]? = some (g q, .inl (cA t, n, vm_ct g M q t)) := fun hq hs => by rw [vm_w_at hq, vm_e_arr hs]
  have obj : ∀ {q a}, q < vm_n M → vm_sh M q = .inl a → (vm_w g cA M)[q]? = some (g q, .inr (a, (List.range (vg_N a)).map (fun k => vm_tr g (vm_gv M q (vg_y a k) k)))) := fun hq hs => by rw [vm_w_at hq, vm_e_obj hs]
  have hf1 : 1 ≤ R.frames := by omega
  have hl9 : 900 ≤ R.locals := vm_ar4 hRl
  simp only [vm_do] at h
  obtain ⟨x, hm, h⟩ := h
  exact lv_lload hx hb hdg (hl.2.2 _ (vm_trl_mem hm)) (go h hl)
set_option maxHeartbeats 1000000 in
set_option maxRecDepth 20000 in
theorem vm_step_lload_n {p : Program} {l : Launch} {e : Env} {R : Room} {s : State} {m : MethodId} {args : Array Value} {below : List Frame} {meth : Method} {c : Code} {Q : State → Prop} {cc : ByteArray} {O : Nat → List Value → vm_M → vm_R → Prop} {L : Nat} {xs : Nat → Int32} {own : Nat} {ini : Bool} {nL n0 s0 b0 d : Nat} {g : Nat → Nat} {cA : Nat → ClassId} {D : va_G} {X : State → Prop} {r : vm_R}
    (hx : p.tables.exec = Jvm.exec) (hb : c.code = cc) (hml : c.maxLocals = nL) (hown : s.vm.findClass (vg_O own) = some m.cls) (hts : ∀ w ∈ vt, w.before args s = true) (hK : va_K D vg_cl (vm_tys cA) s) (hN : vm_Nx s) (hX : X s) (hXs : vm_Str b0 g X)
    (hin : ini = true → meth.name = "<init>") (hscr : own = 12 → va_X (g vm_scr) L xs s s.heap ∧ g vm_scr < s.heap.size ∧ ¬ b0 ≤ g vm_scr) (hg : ∀ q, q < 1099511627776 → g q = b0 + q) (hh0 : s.heap.size = b0 + n0) (hnr : vm_n r.2 ≤ 1099511627776)
    (hRc : vm_n r.2 - n0 ≤ R.cells) (hRs : vm_s r.2 - s0 ≤ R.slots) (hRf : d + 9 ≤ R.frames) (hRl : 100 * (d + 9) ≤ R.locals)
    (hO : ∀ i as M r', O i as M r' → vm_n M ≤ vm_n r'.2 ∧ vm_s M ≤ vm_s r'.2 ∧ (i < 203 → vm_n r'.2 ≤ 1099511627776 → vm_Ok l g cA D b0 X d i as M r')) {E : Nat → vm_L → List Value → vm_M → Prop}
    (ih : ∀ pc lv st M, E pc lv st M → n0 ≤ vm_n M → s0 ≤ vm_s M → ∀ (H : Heap) (locs : List Loc) (ls : Array Slot), lv_has ls nL (vm_trl g lv) → vm_In g cA D M H → va_S (fun q => b0 ≤ q) s.heap H locs → W p l e R s m args below meth c H locs (vm_n M - n0) (vm_s M - s0) Q (F0 m pc ls (st.map (vm_tr g))))
    (hup : ∀ pc lv st M, E pc lv st M → vm_up M r)
    (hret : ∀ pc ins (H : Heap) (locs : List Loc) (ls : Array Slot), decode cc pc = .ok (ins, 1) → vm_isr ins r.1 → vm_In g cA D r.2 H → va_S (fun q => b0 ≤ q) s.heap H locs → W p l e R s m args below meth c H locs (vm_n r.2 - n0) (vm_s r.2 - s0) Q (F0 m pc ls (r.1.toList.map (vm_tr g))))
    {pc : Nat} {lv : vm_L} {st : List Value} {M : vm_M} {i : Fin 4} {a b : Nat} {v : Int} (hdg : decode cc pc = .ok (.lload_n i, vm_len (.lload_n i) b)) (hlk : vm_lk own (.lload_n i) a b v) (h : vm_do O L xs own ini nL r E pc lv st M (.lload_n i) a b v) (hn : n0 ≤ vm_n M) (hsl : s0 ≤ vm_s M) {H : Heap} {locs : List Loc} {ls : Array Slot} (hl : lv_has ls nL (vm_trl g lv)) (hI : vm_In g cA D M H) (hS : va_S (fun q => b0 ≤ q) s.heap H locs) :
    W p l e R s m args below meth c H locs (vm_n M - n0) (vm_s M - s0) Q (F0 m pc ls (st.map (vm_tr g))) := by
  have hupM : vm_up M r := vm_do_up (fun i as M r' ho => ⟨(hO i as M r' ho).1, (hO i as M r' ho).2.1⟩) hup h
  have hnM : vm_n M ≤ 1099511627776 := Nat.le_trans hupM.1 hnr
  have hDd : va_D (fun q => b0 ≤ q) (vm_w g cA M) := vm_Dd hg hnM
  have hA : ∀ q, s.heap.size ≤ q → (fun q => b0 ≤ q) q := fun q hq => by show b0 ≤ q; omega
  have go : ∀ {pc lv st ls}, E pc lv st M → lv_has ls nL (vm_trl g lv) → W p l e R s m args below meth c H locs (vm_n M - n0) (vm_s M - s0) Q (F0 m pc ls (st.map (vm_tr g))) := fun hE hl => ih _ _ _ _ hE hn hsl _ _ _ hl hI hS
  have hcs : vm_n M - n0 ≤ R.cells := Nat.le_trans (Nat.sub_le_sub_right hupM.1 n0) hRc
  have hss : vm_s M - s0 ≤ R.slots := Nat.le_trans (Nat.sub_le_sub_right hupM.2 s0) hRs
  have hml2 : c.maxLocals = ls.size := hml.trans hl.1.symm
  have arr : ∀ {q t n}, q < vm_n M → vm_sh M q = .inr (t, n) → (vm_w g cA M)[q]? = some (g q, .inl (cA t, n, vm_ct g M q t)) := fun hq hs => by rw [vm_w_at hq, vm_e_arr hs]
  have obj : ∀ {q a}, q < vm_n M → vm_sh M q = .inl a → (vm_w g cA M)[q]? = some (g q, .inr (a, (List.range (vg_N a)).map (fun k => vm_tr g (vm_gv M q (vg_y a k) k)))) := fun hq hs => by rw [vm_w_at hq, vm_e_obj hs]
  have hf1 : 1 ≤ R.frames := by omega
  have hl9 : 900 ≤ R.locals := vm_ar4 hRl
  simp only [vm_do] at h
  obtain ⟨x, hm, h⟩ := h
  exact lv_lload_n hx hb hdg rfl (hl.2.2 _ (vm_trl_mem hm)) (go h hl)
set_option maxHeartbeats 1000000 in
set_option maxRecDepth 20000 in
theorem vm_step_aload {p : Program} {l : Launch} {e : Env} {R : Room} {s : State} {m : MethodId} {args : Array Value} {below : List Frame} {meth : Method} {c : Code} {Q : State → Prop} {cc : ByteArray} {O : Nat → List Value → vm_M → vm_R → Prop} {L : Nat} {xs : Nat → Int32} {own : Nat} {ini : Bool} {nL n0 s0 b0 d : Nat} {g : Nat → Nat} {cA : Nat → ClassId} {D : va_G} {X : State → Prop} {r : vm_R}
    (hx : p.tables.exec = Jvm.exec) (hb : c.code = cc) (hml : c.maxLocals = nL) (hown : s.vm.findClass (vg_O own) = some m.cls) (hts : ∀ w ∈ vt, w.before args s = true) (hK : va_K D vg_cl (vm_tys cA) s) (hN : vm_Nx s) (hX : X s) (hXs : vm_Str b0 g X)
    (hin : ini = true → meth.name = "<init>") (hscr : own = 12 → va_X (g vm_scr) L xs s s.heap ∧ g vm_scr < s.heap.size ∧ ¬ b0 ≤ g vm_scr) (hg : ∀ q, q < 1099511627776 → g q = b0 + q) (hh0 : s.heap.size = b0 + n0) (hnr : vm_n r.2 ≤ 1099511627776)
    (hRc : vm_n r.2 - n0 ≤ R.cells) (hRs : vm_s r.2 - s0 ≤ R.slots) (hRf : d + 9 ≤ R.frames) (hRl : 100 * (d + 9) ≤ R.locals)
    (hO : ∀ i as M r', O i as M r' → vm_n M ≤ vm_n r'.2 ∧ vm_s M ≤ vm_s r'.2 ∧ (i < 203 → vm_n r'.2 ≤ 1099511627776 → vm_Ok l g cA D b0 X d i as M r')) {E : Nat → vm_L → List Value → vm_M → Prop}
    (ih : ∀ pc lv st M, E pc lv st M → n0 ≤ vm_n M → s0 ≤ vm_s M → ∀ (H : Heap) (locs : List Loc) (ls : Array Slot), lv_has ls nL (vm_trl g lv) → vm_In g cA D M H → va_S (fun q => b0 ≤ q) s.heap H locs → W p l e R s m args below meth c H locs (vm_n M - n0) (vm_s M - s0) Q (F0 m pc ls (st.map (vm_tr g))))
    (hup : ∀ pc lv st M, E pc lv st M → vm_up M r)
    (hret : ∀ pc ins (H : Heap) (locs : List Loc) (ls : Array Slot), decode cc pc = .ok (ins, 1) → vm_isr ins r.1 → vm_In g cA D r.2 H → va_S (fun q => b0 ≤ q) s.heap H locs → W p l e R s m args below meth c H locs (vm_n r.2 - n0) (vm_s r.2 - s0) Q (F0 m pc ls (r.1.toList.map (vm_tr g))))
    {pc : Nat} {lv : vm_L} {st : List Value} {M : vm_M} {i : Nat} {a b : Nat} {v : Int} (hdg : decode cc pc = .ok (.aload i, vm_len (.aload i) b)) (hlk : vm_lk own (.aload i) a b v) (h : vm_do O L xs own ini nL r E pc lv st M (.aload i) a b v) (hn : n0 ≤ vm_n M) (hsl : s0 ≤ vm_s M) {H : Heap} {locs : List Loc} {ls : Array Slot} (hl : lv_has ls nL (vm_trl g lv)) (hI : vm_In g cA D M H) (hS : va_S (fun q => b0 ≤ q) s.heap H locs) :
    W p l e R s m args below meth c H locs (vm_n M - n0) (vm_s M - s0) Q (F0 m pc ls (st.map (vm_tr g))) := by
  have hupM : vm_up M r := vm_do_up (fun i as M r' ho => ⟨(hO i as M r' ho).1, (hO i as M r' ho).2.1⟩) hup h
  have hnM : vm_n M ≤ 1099511627776 := Nat.le_trans hupM.1 hnr
  have hDd : va_D (fun q => b0 ≤ q) (vm_w g cA M) := vm_Dd hg hnM
  have hA : ∀ q, s.heap.size ≤ q → (fun q => b0 ≤ q) q := fun q hq => by show b0 ≤ q; omega
  have go : ∀ {pc lv st ls}, E pc lv st M → lv_has ls nL (vm_trl g lv) → W p l e R s m args below meth c H locs (vm_n M - n0) (vm_s M - s0) Q (F0 m pc ls (st.map (vm_tr g))) := fun hE hl => ih _ _ _ _ hE hn hsl _ _ _ hl hI hS
  have hcs : vm_n M - n0 ≤ R.cells := Nat.le_trans (Nat.sub_le_sub_right hupM.1 n0) hRc
  have hss : vm_s M - s0 ≤ R.slots := Nat.le_trans (Nat.sub_le_sub_right hupM.2 s0) hRs
  have hml2 : c.maxLocals = ls.size := hml.trans hl.1.symm
  have arr : ∀ {q t n}, q < vm_n M → vm_sh M q = .inr (t, n) → (vm_w g cA M)[q]? = some (g q, .inl (cA t, n, vm_ct g M q t)) := fun hq hs => by rw [vm_w_at hq, vm_e_arr hs]
  have obj : ∀ {q a}, q < vm_n M → vm_sh M q = .inl a → (vm_w g cA M)[q]? = some (g q, .inr (a, (List.range (vg_N a)).map (fun k => vm_tr g (vm_gv M q (vg_y a k) k)))) := fun hq hs => by rw [vm_w_at hq, vm_e_obj hs]
  have hf1 : 1 ≤ R.frames := by omega
  have hl9 : 900 ≤ R.locals := vm_ar4 hRl
  simp only [vm_do] at h
  obtain ⟨x, hm, h⟩ := h
  cases x
  · exact lv_aloadN hx hb hdg (hl.2.2 _ (vm_trl_mem hm)) (go h hl)
  · exact lv_aload hx hb hdg (hl.2.2 _ (vm_trl_mem hm)) (go h hl)
set_option maxHeartbeats 1000000 in
set_option maxRecDepth 20000 in
theorem vm_step_aload_n {p : Program} {l : Launch} {e : Env} {R : Room} {s : State} {m : MethodId} {args : Array Value} {below : List Frame} {meth : Method} {c : Code} {Q : State → Prop} {cc : ByteArray} {O : Nat → List Value → vm_M → vm_R → Prop} {L : Nat} {xs : Nat → Int32} {own : Nat} {ini : Bool} {nL n0 s0 b0 d : Nat} {g : Nat → Nat} {cA : Nat → ClassId} {D : va_G} {X : State → Prop} {r : vm_R}
    (hx : p.tables.exec = Jvm.exec) (hb : c.code = cc) (hml : c.maxLocals = nL) (hown : s.vm.findClass (vg_O own) = some m.cls) (hts : ∀ w ∈ vt, w.before args s = true) (hK : va_K D vg_cl (vm_tys cA) s) (hN : vm_Nx s) (hX : X s) (hXs : vm_Str b0 g X)
    (hin : ini = true → meth.name = "<init>") (hscr : own = 12 → va_X (g vm_scr) L xs s s.heap ∧ g vm_scr < s.heap.size ∧ ¬ b0 ≤ g vm_scr) (hg : ∀ q, q < 1099511627776 → g q = b0 + q) (hh0 : s.heap.size = b0 + n0) (hnr : vm_n r.2 ≤ 1099511627776)
    (hRc : vm_n r.2 - n0 ≤ R.cells) (hRs : vm_s r.2 - s0 ≤ R.slots) (hRf : d + 9 ≤ R.frames) (hRl : 100 * (d + 9) ≤ R.locals)
    (hO : ∀ i as M r', O i as M r' → vm_n M ≤ vm_n r'.2 ∧ vm_s M ≤ vm_s r'.2 ∧ (i < 203 → vm_n r'.2 ≤ 1099511627776 → vm_Ok l g cA D b0 X d i as M r')) {E : Nat → vm_L → List Value → vm_M → Prop}
    (ih : ∀ pc lv st M, E pc lv st M → n0 ≤ vm_n M → s0 ≤ vm_s M → ∀ (H : Heap) (locs : List Loc) (ls : Array Slot), lv_has ls nL (vm_trl g lv) → vm_In g cA D M H → va_S (fun q => b0 ≤ q) s.heap H locs → W p l e R s m args below meth c H locs (vm_n M - n0) (vm_s M - s0) Q (F0 m pc ls (st.map (vm_tr g))))
    (hup : ∀ pc lv st M, E pc lv st M → vm_up M r)
    (hret : ∀ pc ins (H : Heap) (locs : List Loc) (ls : Array Slot), decode cc pc = .ok (ins, 1) → vm_isr ins r.1 → vm_In g cA D r.2 H → va_S (fun q => b0 ≤ q) s.heap H locs → W p l e R s m args below meth c H locs (vm_n r.2 - n0) (vm_s r.2 - s0) Q (F0 m pc ls (r.1.toList.map (vm_tr g))))
    {pc : Nat} {lv : vm_L} {st : List Value} {M : vm_M} {i : Fin 4} {a b : Nat} {v : Int} (hdg : decode cc pc = .ok (.aload_n i, vm_len (.aload_n i) b)) (hlk : vm_lk own (.aload_n i) a b v) (h : vm_do O L xs own ini nL r E pc lv st M (.aload_n i) a b v) (hn : n0 ≤ vm_n M) (hsl : s0 ≤ vm_s M) {H : Heap} {locs : List Loc} {ls : Array Slot} (hl : lv_has ls nL (vm_trl g lv)) (hI : vm_In g cA D M H) (hS : va_S (fun q => b0 ≤ q) s.heap H locs) :
    W p l e R s m args below meth c H locs (vm_n M - n0) (vm_s M - s0) Q (F0 m pc ls (st.map (vm_tr g))) := by
  have hupM : vm_up M r := vm_do_up (fun i as M r' ho => ⟨(hO i as M r' ho).1, (hO i as M r' ho).2.1⟩) hup h
  have hnM : vm_n M ≤ 1099511627776 := Nat.le_trans hupM.1 hnr
  have hDd : va_D (fun q => b0 ≤ q) (vm_w g cA M) := vm_Dd hg hnM
  have hA : ∀ q, s.heap.size ≤ q → (fun q => b0 ≤ q) q := fun q hq => by show b0 ≤ q; omega
  have go : ∀ {pc lv st ls}, E pc lv st M → lv_has ls nL (vm_trl g lv) → W p l e R s m args below meth c H locs (vm_n M - n0) (vm_s M - s0) Q (F0 m pc ls (st.map (vm_tr g))) := fun hE hl => ih _ _ _ _ hE hn hsl _ _ _ hl hI hS
  have hcs : vm_n M - n0 ≤ R.cells := Nat.le_trans (Nat.sub_le_sub_right hupM.1 n0) hRc
  have hss : vm_s M - s0 ≤ R.slots := Nat.le_trans (Nat.sub_le_sub_right hupM.2 s0) hRs
  have hml2 : c.maxLocals = ls.size := hml.trans hl.1.symm
  have arr : ∀ {q t n}, q < vm_n M → vm_sh M q = .inr (t, n) → (vm_w g cA M)[q]? = some (g q, .inl (cA t, n, vm_ct g M q t)) := fun hq hs => by rw [vm_w_at hq, vm_e_arr hs]
  have obj : ∀ {q a}, q < vm_n M → vm_sh M q = .inl a → (vm_w g cA M)[q]? = some (g q, .inr (a, (List.range (vg_N a)).map (fun k => vm_tr g (vm_gv M q (vg_y a k) k)))) := fun hq hs => by rw [vm_w_at hq, vm_e_obj hs]
  have hf1 : 1 ≤ R.frames := by omega
  have hl9 : 900 ≤ R.locals := vm_ar4 hRl
  simp only [vm_do] at h
  obtain ⟨x, hm, h⟩ := h
  cases x
  · exact lv_aload_nN hx hb hdg rfl (hl.2.2 _ (vm_trl_mem hm)) (go h hl)
  · exact lv_aload_n hx hb hdg rfl (hl.2.2 _ (vm_trl_mem hm)) (go h hl)
set_option maxHeartbeats 1000000 in
set_option maxRecDepth 20000 in
theorem vm_step_istore {p : Program} {l : Launch} {e : Env} {R : Room} {s : State} {m : MethodId} {args : Array Value} {below : List Frame} {meth : Method} {c : Code} {Q : State → Prop} {cc : ByteArray} {O : Nat → List Value → vm_M → vm_R → Prop} {L : Nat} {xs : Nat → Int32} {own : Nat} {ini : Bool} {nL n0 s0 b0 d : Nat} {g : Nat → Nat} {cA : Nat → ClassId} {D : va_G} {X : State → Prop} {r : vm_R}
    (hx : p.tables.exec = Jvm.exec) (hb : c.code = cc) (hml : c.maxLocals = nL) (hown : s.vm.findClass (vg_O own) = some m.cls) (hts : ∀ w ∈ vt, w.before args s = true) (hK : va_K D vg_cl (vm_tys cA) s) (hN : vm_Nx s) (hX : X s) (hXs : vm_Str b0 g X)
    (hin : ini = true → meth.name = "<init>") (hscr : own = 12 → va_X (g vm_scr) L xs s s.heap ∧ g vm_scr < s.heap.size ∧ ¬ b0 ≤ g vm_scr) (hg : ∀ q, q < 1099511627776 → g q = b0 + q) (hh0 : s.heap.size = b0 + n0) (hnr : vm_n r.2 ≤ 1099511627776)
    (hRc : vm_n r.2 - n0 ≤ R.cells) (hRs : vm_s r.2 - s0 ≤ R.slots) (hRf : d + 9 ≤ R.frames) (hRl : 100 * (d + 9) ≤ R.locals)
    (hO : ∀ i as M r', O i as M r' → vm_n M ≤ vm_n r'.2 ∧ vm_s M ≤ vm_s r'.2 ∧ (i < 203 → vm_n r'.2 ≤ 1099511627776 → vm_Ok l g cA D b0 X d i as M r')) {E : Nat → vm_L → List Value → vm_M → Prop}
    (ih : ∀ pc lv st M, E pc lv st M → n0 ≤ vm_n M → s0 ≤ vm_s M → ∀ (H : Heap) (locs : List Loc) (ls : Array Slot), lv_has ls nL (vm_trl g lv) → vm_In g cA D M H → va_S (fun q => b0 ≤ q) s.heap H locs → W p l e R s m args below meth c H locs (vm_n M - n0) (vm_s M - s0) Q (F0 m pc ls (st.map (vm_tr g))))
    (hup : ∀ pc lv st M, E pc lv st M → vm_up M r)
    (hret : ∀ pc ins (H : Heap) (locs : List Loc) (ls : Array Slot), decode cc pc = .ok (ins, 1) → vm_isr ins r.1 → vm_In g cA D r.2 H → va_S (fun q => b0 ≤ q) s.heap H locs → W p l e R s m args below meth c H locs (vm_n r.2 - n0) (vm_s r.2 - s0) Q (F0 m pc ls (r.1.toList.map (vm_tr g))))
    {pc : Nat} {lv : vm_L} {st : List Value} {M : vm_M} {i : Nat} {a b : Nat} {v : Int} (hdg : decode cc pc = .ok (.istore i, vm_len (.istore i) b)) (hlk : vm_lk own (.istore i) a b v) (h : vm_do O L xs own ini nL r E pc lv st M (.istore i) a b v) (hn : n0 ≤ vm_n M) (hsl : s0 ≤ vm_s M) {H : Heap} {locs : List Loc} {ls : Array Slot} (hl : lv_has ls nL (vm_trl g lv)) (hI : vm_In g cA D M H) (hS : va_S (fun q => b0 ≤ q) s.heap H locs) :
    W p l e R s m args below meth c H locs (vm_n M - n0) (vm_s M - s0) Q (F0 m pc ls (st.map (vm_tr g))) := by
  have hupM : vm_up M r := vm_do_up (fun i as M r' ho => ⟨(hO i as M r' ho).1, (hO i as M r' ho).2.1⟩) hup h
  have hnM : vm_n M ≤ 1099511627776 := Nat.le_trans hupM.1 hnr
  have hDd : va_D (fun q => b0 ≤ q) (vm_w g cA M) := vm_Dd hg hnM
  have hA : ∀ q, s.heap.size ≤ q → (fun q => b0 ≤ q) q := fun q hq => by show b0 ≤ q; omega
  have go : ∀ {pc lv st ls}, E pc lv st M → lv_has ls nL (vm_trl g lv) → W p l e R s m args below meth c H locs (vm_n M - n0) (vm_s M - s0) Q (F0 m pc ls (st.map (vm_tr g))) := fun hE hl => ih _ _ _ _ hE hn hsl _ _ _ hl hI hS
  have hcs : vm_n M - n0 ≤ R.cells := Nat.le_trans (Nat.sub_le_sub_right hupM.1 n0) hRc
  have hss : vm_s M - s0 ≤ R.slots := Nat.le_trans (Nat.sub_le_sub_right hupM.2 s0) hRs
  have hml2 : c.maxLocals = ls.size := hml.trans hl.1.symm
  have arr : ∀ {q t n}, q < vm_n M → vm_sh M q = .inr (t, n) → (vm_w g cA M)[q]? = some (g q, .inl (cA t, n, vm_ct g M q t)) := fun hq hs => by rw [vm_w_at hq, vm_e_arr hs]
  have obj : ∀ {q a}, q < vm_n M → vm_sh M q = .inl a → (vm_w g cA M)[q]? = some (g q, .inr (a, (List.range (vg_N a)).map (fun k => vm_tr g (vm_gv M q (vg_y a k) k)))) := fun hq hs => by rw [vm_w_at hq, vm_e_obj hs]
  have hf1 : 1 ≤ R.frames := by omega
  have hl9 : 900 ≤ R.locals := vm_ar4 hRl
  simp only [vm_do] at h
  obtain ⟨x, st', rfl, hi, h⟩ := h
  exact lv_istore hx hb hdg hl hi (vm_st1_tr g lv i (.int x)) (fun ls' hl' => go h hl')
set_option maxHeartbeats 1000000 in
set_option maxRecDepth 20000 in
theorem vm_step_istore_n {p : Program} {l : Launch} {e : Env} {R : Room} {s : State} {m : MethodId} {args : Array Value} {below : List Frame} {meth : Method} {c : Code} {Q : State → Prop} {cc : ByteArray} {O : Nat → List Value → vm_M → vm_R → Prop} {L : Nat} {xs : Nat → Int32} {own : Nat} {ini : Bool} {nL n0 s0 b0 d : Nat} {g : Nat → Nat} {cA : Nat → ClassId} {D : va_G} {X : State → Prop} {r : vm_R}
    (hx : p.tables.exec = Jvm.exec) (hb : c.code = cc) (hml : c.maxLocals = nL) (hown : s.vm.findClass (vg_O own) = some m.cls) (hts : ∀ w ∈ vt, w.before args s = true) (hK : va_K D vg_cl (vm_tys cA) s) (hN : vm_Nx s) (hX : X s) (hXs : vm_Str b0 g X)
    (hin : ini = true → meth.name = "<init>") (hscr : own = 12 → va_X (g vm_scr) L xs s s.heap ∧ g vm_scr < s.heap.size ∧ ¬ b0 ≤ g vm_scr) (hg : ∀ q, q < 1099511627776 → g q = b0 + q) (hh0 : s.heap.size = b0 + n0) (hnr : vm_n r.2 ≤ 1099511627776)
    (hRc : vm_n r.2 - n0 ≤ R.cells) (hRs : vm_s r.2 - s0 ≤ R.slots) (hRf : d + 9 ≤ R.frames) (hRl : 100 * (d + 9) ≤ R.locals)
    (hO : ∀ i as M r', O i as M r' → vm_n M ≤ vm_n r'.2 ∧ vm_s M ≤ vm_s r'.2 ∧ (i < 203 → vm_n r'.2 ≤ 1099511627776 → vm_Ok l g cA D b0 X d i as M r')) {E : Nat → vm_L → List Value → vm_M → Prop}
    (ih : ∀ pc lv st M, E pc lv st M → n0 ≤ vm_n M → s0 ≤ vm_s M → ∀ (H : Heap) (locs : List Loc) (ls : Array Slot), lv_has ls nL (vm_trl g lv) → vm_In g cA D M H → va_S (fun q => b0 ≤ q) s.heap H locs → W p l e R s m args below meth c H locs (vm_n M - n0) (vm_s M - s0) Q (F0 m pc ls (st.map (vm_tr g))))
    (hup : ∀ pc lv st M, E pc lv st M → vm_up M r)
    (hret : ∀ pc ins (H : Heap) (locs : List Loc) (ls : Array Slot), decode cc pc = .ok (ins, 1) → vm_isr ins r.1 → vm_In g cA D r.2 H → va_S (fun q => b0 ≤ q) s.heap H locs → W p l e R s m args below meth c H locs (vm_n r.2 - n0) (vm_s r.2 - s0) Q (F0 m pc ls (r.1.toList.map (vm_tr g))))
    {pc : Nat} {lv : vm_L} {st : List Value} {M : vm_M} {i : Fin 4} {a b : Nat} {v : Int} (hdg : decode cc pc = .ok (.istore_n i, vm_len (.istore_n i) b)) (hlk : vm_lk own (.istore_n i) a b v) (h : vm_do O L xs own ini nL r E pc lv st M (.istore_n i) a b v) (hn : n0 ≤ vm_n M) (hsl : s0 ≤ vm_s M) {H : Heap} {locs : List Loc} {ls : Array Slot} (hl : lv_has ls nL (vm_trl g lv)) (hI : vm_In g cA D M H) (hS : va_S (fun q => b0 ≤ q) s.heap H locs) :
    W p l e R s m args below meth c H locs (vm_n M - n0) (vm_s M - s0) Q (F0 m pc ls (st.map (vm_tr g))) := by
  have hupM : vm_up M r := vm_do_up (fun i as M r' ho => ⟨(hO i as M r' ho).1, (hO i as M r' ho).2.1⟩) hup h
  have hnM : vm_n M ≤ 1099511627776 := Nat.le_trans hupM.1 hnr
  have hDd : va_D (fun q => b0 ≤ q) (vm_w g cA M) := vm_Dd hg hnM
  have hA : ∀ q, s.heap.size ≤ q → (fun q => b0 ≤ q) q := fun q hq => by show b0 ≤ q; omega
  have go : ∀ {pc lv st ls}, E pc lv st M → lv_has ls nL (vm_trl g lv) → W p l e R s m args below meth c H locs (vm_n M - n0) (vm_s M - s0) Q (F0 m pc ls (st.map (vm_tr g))) := fun hE hl => ih _ _ _ _ hE hn hsl _ _ _ hl hI hS
  have hcs : vm_n M - n0 ≤ R.cells := Nat.le_trans (Nat.sub_le_sub_right hupM.1 n0) hRc
  have hss : vm_s M - s0 ≤ R.slots := Nat.le_trans (Nat.sub_le_sub_right hupM.2 s0) hRs
  have hml2 : c.maxLocals = ls.size := hml.trans hl.1.symm
  have arr : ∀ {q t n}, q < vm_n M → vm_sh M q = .inr (t, n) → (vm_w g cA M)[q]? = some (g q, .inl (cA t, n, vm_ct g M q t)) := fun hq hs => by rw [vm_w_at hq, vm_e_arr hs]
  have obj : ∀ {q a}, q < vm_n M → vm_sh M q = .inl a → (vm_w g cA M)[q]? = some (g q, .inr (a, (List.range (vg_N a)).map (fun k => vm_tr g (vm_gv M q (vg_y a k) k)))) := fun hq hs => by rw [vm_w_at hq, vm_e_obj hs]
  have hf1 : 1 ≤ R.frames := by omega
  have hl9 : 900 ≤ R.locals := vm_ar4 hRl
  simp only [vm_do] at h
  obtain ⟨x, st', rfl, hi, h⟩ := h
  exact lv_istore_n hx hb hdg rfl hl hi (vm_st1_tr g lv i (.int x)) (fun ls' hl' => go h hl')
set_option maxHeartbeats 1000000 in
set_option maxRecDepth 20000 in
theorem vm_step_lstore {p : Program} {l : Launch} {e : Env} {R : Room} {s : State} {m : MethodId} {args : Array Value} {below : List Frame} {meth : Method} {c : Code} {Q : State → Prop} {cc : ByteArray} {O : Nat → List Value → vm_M → vm_R → Prop} {L : Nat} {xs : Nat → Int32} {own : Nat} {ini : Bool} {nL n0 s0 b0 d : Nat} {g : Nat → Nat} {cA : Nat → ClassId} {D : va_G} {X : State → Prop} {r : vm_R}
    (hx : p.tables.exec = Jvm.exec) (hb : c.code = cc) (hml : c.maxLocals = nL) (hown : s.vm.findClass (vg_O own) = some m.cls) (hts : ∀ w ∈ vt, w.before args s = true) (hK : va_K D vg_cl (vm_tys cA) s) (hN : vm_Nx s) (hX : X s) (hXs : vm_Str b0 g X)
    (hin : ini = true → meth.name = "<init>") (hscr : own = 12 → va_X (g vm_scr) L xs s s.heap ∧ g vm_scr < s.heap.size ∧ ¬ b0 ≤ g vm_scr) (hg : ∀ q, q < 1099511627776 → g q = b0 + q) (hh0 : s.heap.size = b0 + n0) (hnr : vm_n r.2 ≤ 1099511627776)
    (hRc : vm_n r.2 - n0 ≤ R.cells) (hRs : vm_s r.2 - s0 ≤ R.slots) (hRf : d + 9 ≤ R.frames) (hRl : 100 * (d + 9) ≤ R.locals)
    (hO : ∀ i as M r', O i as M r' → vm_n M ≤ vm_n r'.2 ∧ vm_s M ≤ vm_s r'.2 ∧ (i < 203 → vm_n r'.2 ≤ 1099511627776 → vm_Ok l g cA D b0 X d i as M r')) {E : Nat → vm_L → List Value → vm_M → Prop}
    (ih : ∀ pc lv st M, E pc lv st M → n0 ≤ vm_n M → s0 ≤ vm_s M → ∀ (H : Heap) (locs : List Loc) (ls : Array Slot), lv_has ls nL (vm_trl g lv) → vm_In g cA D M H → va_S (fun q => b0 ≤ q) s.heap H locs → W p l e R s m args below meth c H locs (vm_n M - n0) (vm_s M - s0) Q (F0 m pc ls (st.map (vm_tr g))))
    (hup : ∀ pc lv st M, E pc lv st M → vm_up M r)
    (hret : ∀ pc ins (H : Heap) (locs : List Loc) (ls : Array Slot), decode cc pc = .ok (ins, 1) → vm_isr ins r.1 → vm_In g cA D r.2 H → va_S (fun q => b0 ≤ q) s.heap H locs → W p l e R s m args below meth c H locs (vm_n r.2 - n0) (vm_s r.2 - s0) Q (F0 m pc ls (r.1.toList.map (vm_tr g))))
    {pc : Nat} {lv : vm_L} {st : List Value} {M : vm_M} {i : Nat} {a b : Nat} {v : Int} (hdg : decode cc pc = .ok (.lstore i, vm_len (.lstore i) b)) (hlk : vm_lk own (.lstore i) a b v) (h : vm_do O L xs own ini nL r E pc lv st M (.lstore i) a b v) (hn : n0 ≤ vm_n M) (hsl : s0 ≤ vm_s M) {H : Heap} {locs : List Loc} {ls : Array Slot} (hl : lv_has ls nL (vm_trl g lv)) (hI : vm_In g cA D M H) (hS : va_S (fun q => b0 ≤ q) s.heap H locs) :
    W p l e R s m args below meth c H locs (vm_n M - n0) (vm_s M - s0) Q (F0 m pc ls (st.map (vm_tr g))) := by
  have hupM : vm_up M r := vm_do_up (fun i as M r' ho => ⟨(hO i as M r' ho).1, (hO i as M r' ho).2.1⟩) hup h
  have hnM : vm_n M ≤ 1099511627776 := Nat.le_trans hupM.1 hnr
  have hDd : va_D (fun q => b0 ≤ q) (vm_w g cA M) := vm_Dd hg hnM
  have hA : ∀ q, s.heap.size ≤ q → (fun q => b0 ≤ q) q := fun q hq => by show b0 ≤ q; omega
  have go : ∀ {pc lv st ls}, E pc lv st M → lv_has ls nL (vm_trl g lv) → W p l e R s m args below meth c H locs (vm_n M - n0) (vm_s M - s0) Q (F0 m pc ls (st.map (vm_tr g))) := fun hE hl => ih _ _ _ _ hE hn hsl _ _ _ hl hI hS
  have hcs : vm_n M - n0 ≤ R.cells := Nat.le_trans (Nat.sub_le_sub_right hupM.1 n0) hRc
  have hss : vm_s M - s0 ≤ R.slots := Nat.le_trans (Nat.sub_le_sub_right hupM.2 s0) hRs
  have hml2 : c.maxLocals = ls.size := hml.trans hl.1.symm
  have arr : ∀ {q t n}, q < vm_n M → vm_sh M q = .inr (t, n) → (vm_w g cA M)[q]? = some (g q, .inl (cA t, n, vm_ct g M q t)) := fun hq hs => by rw [vm_w_at hq, vm_e_arr hs]
  have obj : ∀ {q a}, q < vm_n M → vm_sh M q = .inl a → (vm_w g cA M)[q]? = some (g q, .inr (a, (List.range (vg_N a)).map (fun k => vm_tr g (vm_gv M q (vg_y a k) k)))) := fun hq hs => by rw [vm_w_at hq, vm_e_obj hs]
  have hf1 : 1 ≤ R.frames := by omega
  have hl9 : 900 ≤ R.locals := vm_ar4 hRl
  simp only [vm_do] at h
  obtain ⟨x, st', rfl, hi, h⟩ := h
  exact lv_lstore hx hb hdg hl hi (vm_st2_tr g lv i (.long x)) (fun ls' hl' => go h hl')
set_option maxHeartbeats 1000000 in
set_option maxRecDepth 20000 in
theorem vm_step_lstore_n {p : Program} {l : Launch} {e : Env} {R : Room} {s : State} {m : MethodId} {args : Array Value} {below : List Frame} {meth : Method} {c : Code} {Q : State → Prop} {cc : ByteArray} {O : Nat → List Value → vm_M → vm_R → Prop} {L : Nat} {xs : Nat → Int32} {own : Nat} {ini : Bool} {nL n0 s0 b0 d : Nat} {g : Nat → Nat} {cA : Nat → ClassId} {D : va_G} {X : State → Prop} {r : vm_R}
    (hx : p.tables.exec = Jvm.exec) (hb : c.code = cc) (hml : c.maxLocals = nL) (hown : s.vm.findClass (vg_O own) = some m.cls) (hts : ∀ w ∈ vt, w.before args s = true) (hK : va_K D vg_cl (vm_tys cA) s) (hN : vm_Nx s) (hX : X s) (hXs : vm_Str b0 g X)
    (hin : ini = true → meth.name = "<init>") (hscr : own = 12 → va_X (g vm_scr) L xs s s.heap ∧ g vm_scr < s.heap.size ∧ ¬ b0 ≤ g vm_scr) (hg : ∀ q, q < 1099511627776 → g q = b0 + q) (hh0 : s.heap.size = b0 + n0) (hnr : vm_n r.2 ≤ 1099511627776)
    (hRc : vm_n r.2 - n0 ≤ R.cells) (hRs : vm_s r.2 - s0 ≤ R.slots) (hRf : d + 9 ≤ R.frames) (hRl : 100 * (d + 9) ≤ R.locals)
    (hO : ∀ i as M r', O i as M r' → vm_n M ≤ vm_n r'.2 ∧ vm_s M ≤ vm_s r'.2 ∧ (i < 203 → vm_n r'.2 ≤ 1099511627776 → vm_Ok l g cA D b0 X d i as M r')) {E : Nat → vm_L → List Value → vm_M → Prop}
    (ih : ∀ pc lv st M, E pc lv st M → n0 ≤ vm_n M → s0 ≤ vm_s M → ∀ (H : Heap) (locs : List Loc) (ls : Array Slot), lv_has ls nL (vm_trl g lv) → vm_In g cA D M H → va_S (fun q => b0 ≤ q) s.heap H locs → W p l e R s m args below meth c H locs (vm_n M - n0) (vm_s M - s0) Q (F0 m pc ls (st.map (vm_tr g))))
    (hup : ∀ pc lv st M, E pc lv st M → vm_up M r)
    (hret : ∀ pc ins (H : Heap) (locs : List Loc) (ls : Array Slot), decode cc pc = .ok (ins, 1) → vm_isr ins r.1 → vm_In g cA D r.2 H → va_S (fun q => b0 ≤ q) s.heap H locs → W p l e R s m args below meth c H locs (vm_n r.2 - n0) (vm_s r.2 - s0) Q (F0 m pc ls (r.1.toList.map (vm_tr g))))
    {pc : Nat} {lv : vm_L} {st : List Value} {M : vm_M} {i : Fin 4} {a b : Nat} {v : Int} (hdg : decode cc pc = .ok (.lstore_n i, vm_len (.lstore_n i) b)) (hlk : vm_lk own (.lstore_n i) a b v) (h : vm_do O L xs own ini nL r E pc lv st M (.lstore_n i) a b v) (hn : n0 ≤ vm_n M) (hsl : s0 ≤ vm_s M) {H : Heap} {locs : List Loc} {ls : Array Slot} (hl : lv_has ls nL (vm_trl g lv)) (hI : vm_In g cA D M H) (hS : va_S (fun q => b0 ≤ q) s.heap H locs) :
    W p l e R s m args below meth c H locs (vm_n M - n0) (vm_s M - s0) Q (F0 m pc ls (st.map (vm_tr g))) := by
  have hupM : vm_up M r := vm_do_up (fun i as M r' ho => ⟨(hO i as M r' ho).1, (hO i as M r' ho).2.1⟩) hup h
  have hnM : vm_n M ≤ 1099511627776 := Nat.le_trans hupM.1 hnr
  have hDd : va_D (fun q => b0 ≤ q) (vm_w g cA M) := vm_Dd hg hnM
  have hA : ∀ q, s.heap.size ≤ q → (fun q => b0 ≤ q) q := fun q hq => by show b0 ≤ q; omega
  have go : ∀ {pc lv st ls}, E pc lv st M → lv_has ls nL (vm_trl g lv) → W p l e R s m args below meth c H locs (vm_n M - n0) (vm_s M - s0) Q (F0 m pc ls (st.map (vm_tr g))) := fun hE hl => ih _ _ _ _ hE hn hsl _ _ _ hl hI hS
  have hcs : vm_n M - n0 ≤ R.cells := Nat.le_trans (Nat.sub_le_sub_right hupM.1 n0) hRc
  have hss : vm_s M - s0 ≤ R.slots := Nat.le_trans (Nat.sub_le_sub_right hupM.2 s0) hRs
  have hml2 : c.maxLocals = ls.size := hml.trans hl.1.symm
  have arr : ∀ {q t n}, q < vm_n M → vm_sh M q = .inr (t, n) → (vm_w g cA M)[q]? = some (g q, .inl (cA t, n, vm_ct g M q t)) := fun hq hs => by rw [vm_w_at hq, vm_e_arr hs]
  have obj : ∀ {q a}, q < vm_n M → vm_sh M q = .inl a → (vm_w g cA M)[q]? = some (g q, .inr (a, (List.range (vg_N a)).map (fun k => vm_tr g (vm_gv M q (vg_y a k) k)))) := fun hq hs => by rw [vm_w_at hq, vm_e_obj hs]
  have hf1 : 1 ≤ R.frames := by omega
  have hl9 : 900 ≤ R.locals := vm_ar4 hRl
  simp only [vm_do] at h
  obtain ⟨x, st', rfl, hi, h⟩ := h
  exact lv_lstore_n hx hb hdg rfl hl hi (vm_st2_tr g lv i (.long x)) (fun ls' hl' => go h hl')
set_option maxHeartbeats 1000000 in
set_option maxRecDepth 20000 in
theorem vm_step_astore {p : Program} {l : Launch} {e : Env} {R : Room} {s : State} {m : MethodId} {args : Array Value} {below : List Frame} {meth : Method} {c : Code} {Q : State → Prop} {cc : ByteArray} {O : Nat → List Value → vm_M → vm_R → Prop} {L : Nat} {xs : Nat → Int32} {own : Nat} {ini : Bool} {nL n0 s0 b0 d : Nat} {g : Nat → Nat} {cA : Nat → ClassId} {D : va_G} {X : State → Prop} {r : vm_R}
    (hx : p.tables.exec = Jvm.exec) (hb : c.code = cc) (hml : c.maxLocals = nL) (hown : s.vm.findClass (vg_O own) = some m.cls) (hts : ∀ w ∈ vt, w.before args s = true) (hK : va_K D vg_cl (vm_tys cA) s) (hN : vm_Nx s) (hX : X s) (hXs : vm_Str b0 g X)
    (hin : ini = true → meth.name = "<init>") (hscr : own = 12 → va_X (g vm_scr) L xs s s.heap ∧ g vm_scr < s.heap.size ∧ ¬ b0 ≤ g vm_scr) (hg : ∀ q, q < 1099511627776 → g q = b0 + q) (hh0 : s.heap.size = b0 + n0) (hnr : vm_n r.2 ≤ 1099511627776)
    (hRc : vm_n r.2 - n0 ≤ R.cells) (hRs : vm_s r.2 - s0 ≤ R.slots) (hRf : d + 9 ≤ R.frames) (hRl : 100 * (d + 9) ≤ R.locals)
    (hO : ∀ i as M r', O i as M r' → vm_n M ≤ vm_n r'.2 ∧ vm_s M ≤ vm_s r'.2 ∧ (i < 203 → vm_n r'.2 ≤ 1099511627776 → vm_Ok l g cA D b0 X d i as M r')) {E : Nat → vm_L → List Value → vm_M → Prop}
    (ih : ∀ pc lv st M, E pc lv st M → n0 ≤ vm_n M → s0 ≤ vm_s M → ∀ (H : Heap) (locs : List Loc) (ls : Array Slot), lv_has ls nL (vm_trl g lv) → vm_In g cA D M H → va_S (fun q => b0 ≤ q) s.heap H locs → W p l e R s m args below meth c H locs (vm_n M - n0) (vm_s M - s0) Q (F0 m pc ls (st.map (vm_tr g))))
    (hup : ∀ pc lv st M, E pc lv st M → vm_up M r)
    (hret : ∀ pc ins (H : Heap) (locs : List Loc) (ls : Array Slot), decode cc pc = .ok (ins, 1) → vm_isr ins r.1 → vm_In g cA D r.2 H → va_S (fun q => b0 ≤ q) s.heap H locs → W p l e R s m args below meth c H locs (vm_n r.2 - n0) (vm_s r.2 - s0) Q (F0 m pc ls (r.1.toList.map (vm_tr g))))
    {pc : Nat} {lv : vm_L} {st : List Value} {M : vm_M} {i : Nat} {a b : Nat} {v : Int} (hdg : decode cc pc = .ok (.astore i, vm_len (.astore i) b)) (hlk : vm_lk own (.astore i) a b v) (h : vm_do O L xs own ini nL r E pc lv st M (.astore i) a b v) (hn : n0 ≤ vm_n M) (hsl : s0 ≤ vm_s M) {H : Heap} {locs : List Loc} {ls : Array Slot} (hl : lv_has ls nL (vm_trl g lv)) (hI : vm_In g cA D M H) (hS : va_S (fun q => b0 ≤ q) s.heap H locs) :
    W p l e R s m args below meth c H locs (vm_n M - n0) (vm_s M - s0) Q (F0 m pc ls (st.map (vm_tr g))) := by
  have hupM : vm_up M r := vm_do_up (fun i as M r' ho => ⟨(hO i as M r' ho).1, (hO i as M r' ho).2.1⟩) hup h
  have hnM : vm_n M ≤ 1099511627776 := Nat.le_trans hupM.1 hnr
  have hDd : va_D (fun q => b0 ≤ q) (vm_w g cA M) := vm_Dd hg hnM
  have hA : ∀ q, s.heap.size ≤ q → (fun q => b0 ≤ q) q := fun q hq => by show b0 ≤ q; omega
  have go : ∀ {pc lv st ls}, E pc lv st M → lv_has ls nL (vm_trl g lv) → W p l e R s m args below meth c H locs (vm_n M - n0) (vm_s M - s0) Q (F0 m pc ls (st.map (vm_tr g))) := fun hE hl => ih _ _ _ _ hE hn hsl _ _ _ hl hI hS
  have hcs : vm_n M - n0 ≤ R.cells := Nat.le_trans (Nat.sub_le_sub_right hupM.1 n0) hRc
  have hss : vm_s M - s0 ≤ R.slots := Nat.le_trans (Nat.sub_le_sub_right hupM.2 s0) hRs
  have hml2 : c.maxLocals = ls.size := hml.trans hl.1.symm
  have arr : ∀ {q t n}, q < vm_n M → vm_sh M q = .inr (t, n) → (vm_w g cA M)[q]? = some (g q, .inl (cA t, n, vm_ct g M q t)) := fun hq hs => by rw [vm_w_at hq, vm_e_arr hs]
  have obj : ∀ {q a}, q < vm_n M → vm_sh M q = .inl a → (vm_w g cA M)[q]? = some (g q, .inr (a, (List.range (vg_N a)).map (fun k => vm_tr g (vm_gv M q (vg_y a k) k)))) := fun hq hs => by rw [vm_w_at hq, vm_e_obj hs]
  have hf1 : 1 ≤ R.frames := by omega
  have hl9 : 900 ≤ R.locals := vm_ar4 hRl
  simp only [vm_do] at h
  obtain ⟨x, st', rfl, hi, h⟩ := h
  cases x
  · exact lv_astoreN hx hb hdg hl hi (vm_st1_tr g lv i .null) (fun ls' hl' => go h hl')
  · exact lv_astore hx hb hdg hl hi (vm_st1_tr g lv i (.ref _)) (fun ls' hl' => go h hl')
set_option maxHeartbeats 1000000 in
set_option maxRecDepth 20000 in
theorem vm_step_astore_n {p : Program} {l : Launch} {e : Env} {R : Room} {s : State} {m : MethodId} {args : Array Value} {below : List Frame} {meth : Method} {c : Code} {Q : State → Prop} {cc : ByteArray} {O : Nat → List Value → vm_M → vm_R → Prop} {L : Nat} {xs : Nat → Int32} {own : Nat} {ini : Bool} {nL n0 s0 b0 d : Nat} {g : Nat → Nat} {cA : Nat → ClassId} {D : va_G} {X : State → Prop} {r : vm_R}
    (hx : p.tables.exec = Jvm.exec) (hb : c.code = cc) (hml : c.maxLocals = nL) (hown : s.vm.findClass (vg_O own) = some m.cls) (hts : ∀ w ∈ vt, w.before args s = true) (hK : va_K D vg_cl (vm_tys cA) s) (hN : vm_Nx s) (hX : X s) (hXs : vm_Str b0 g X)
    (hin : ini = true → meth.name = "<init>") (hscr : own = 12 → va_X (g vm_scr) L xs s s.heap ∧ g vm_scr < s.heap.size ∧ ¬ b0 ≤ g vm_scr) (hg : ∀ q, q < 1099511627776 → g q = b0 + q) (hh0 : s.heap.size = b0 + n0) (hnr : vm_n r.2 ≤ 1099511627776)
    (hRc : vm_n r.2 - n0 ≤ R.cells) (hRs : vm_s r.2 - s0 ≤ R.slots) (hRf : d + 9 ≤ R.frames) (hRl : 100 * (d + 9) ≤ R.locals)
    (hO : ∀ i as M r', O i as M r' → vm_n M ≤ vm_n r'.2 ∧ vm_s M ≤ vm_s r'.2 ∧ (i < 203 → vm_n r'.2 ≤ 1099511627776 → vm_Ok l g cA D b0 X d i as M r')) {E : Nat → vm_L → List Value → vm_M → Prop}
    (ih : ∀ pc lv st M, E pc lv st M → n0 ≤ vm_n M → s0 ≤ vm_s M → ∀ (H : Heap) (locs : List Loc) (ls : Array Slot), lv_has ls nL (vm_trl g lv) → vm_In g cA D M H → va_S (fun q => b0 ≤ q) s.heap H locs → W p l e R s m args below meth c H locs (vm_n M - n0) (vm_s M - s0) Q (F0 m pc ls (st.map (vm_tr g))))
    (hup : ∀ pc lv st M, E pc lv st M → vm_up M r)
    (hret : ∀ pc ins (H : Heap) (locs : List Loc) (ls : Array Slot), decode cc pc = .ok (ins, 1) → vm_isr ins r.1 → vm_In g cA D r.2 H → va_S (fun q => b0 ≤ q) s.heap H locs → W p l e R s m args below meth c H locs (vm_n r.2 - n0) (vm_s r.2 - s0) Q (F0 m pc ls (r.1.toList.map (vm_tr g))))
    {pc : Nat} {lv : vm_L} {st : List Value} {M : vm_M} {i : Fin 4} {a b : Nat} {v : Int} (hdg : decode cc pc = .ok (.astore_n i, vm_len (.astore_n i) b)) (hlk : vm_lk own (.astore_n i) a b v) (h : vm_do O L xs own ini nL r E pc lv st M (.astore_n i) a b v) (hn : n0 ≤ vm_n M) (hsl : s0 ≤ vm_s M) {H : Heap} {locs : List Loc} {ls : Array Slot} (hl : lv_has ls nL (vm_trl g lv)) (hI : vm_In g cA D M H) (hS : va_S (fun q => b0 ≤ q) s.heap H locs) :
    W p l e R s m args below meth c H locs (vm_n M - n0) (vm_s M - s0) Q (F0 m pc ls (st.map (vm_tr g))) := by
  have hupM : vm_up M r := vm_do_up (fun i as M r' ho => ⟨(hO i as M r' ho).1, (hO i as M r' ho).2.1⟩) hup h
  have hnM : vm_n M ≤ 1099511627776 := Nat.le_trans hupM.1 hnr
  have hDd : va_D (fun q => b0 ≤ q) (vm_w g cA M) := vm_Dd hg hnM
  have hA : ∀ q, s.heap.size ≤ q → (fun q => b0 ≤ q) q := fun q hq => by show b0 ≤ q; omega
  have go : ∀ {pc lv st ls}, E pc lv st M → lv_has ls nL (vm_trl g lv) → W p l e R s m args below meth c H locs (vm_n M - n0) (vm_s M - s0) Q (F0 m pc ls (st.map (vm_tr g))) := fun hE hl => ih _ _ _ _ hE hn hsl _ _ _ hl hI hS
  have hcs : vm_n M - n0 ≤ R.cells := Nat.le_trans (Nat.sub_le_sub_right hupM.1 n0) hRc
  have hss : vm_s M - s0 ≤ R.slots := Nat.le_trans (Nat.sub_le_sub_right hupM.2 s0) hRs
  have hml2 : c.maxLocals = ls.size := hml.trans hl.1.symm
  have arr : ∀ {q t n}, q < vm_n M → vm_sh M q = .inr (t, n) → (vm_w g cA M)[q]? = some (g q, .inl (cA t, n, vm_ct g M q t)) := fun hq hs => by rw [vm_w_at hq, vm_e_arr hs]
  have obj : ∀ {q a}, q < vm_n M → vm_sh M q = .inl a → (vm_w g cA M)[q]? = some (g q, .inr (a, (List.range (vg_N a)).map (fun k => vm_tr g (vm_gv M q (vg_y a k) k)))) := fun hq hs => by rw [vm_w_at hq, vm_e_obj hs]
  have hf1 : 1 ≤ R.frames := by omega
  have hl9 : 900 ≤ R.locals := vm_ar4 hRl
  simp only [vm_do] at h
  obtain ⟨x, st', rfl, hi, h⟩ := h
  cases x
  · exact lv_astore_nN hx hb hdg rfl hl hi (vm_st1_tr g lv i .null) (fun ls' hl' => go h hl')
  · exact lv_astore_n hx hb hdg rfl hl hi (vm_st1_tr g lv i (.ref _)) (fun ls' hl' => go h hl')
set_option maxHeartbeats 1000000 in
set_option maxRecDepth 20000 in
theorem vm_step_iinc {p : Program} {l : Launch} {e : Env} {R : Room} {s : State} {m : MethodId} {args : Array Value} {below : List Frame} {meth : Method} {c : Code} {Q : State → Prop} {cc : ByteArray} {O : Nat → List Value → vm_M → vm_R → Prop} {L : Nat} {xs : Nat → Int32} {own : Nat} {ini : Bool} {nL n0 s0 b0 d : Nat} {g : Nat → Nat} {cA : Nat → ClassId} {D : va_G} {X : State → Prop} {r : vm_R}
    (hx : p.tables.exec = Jvm.exec) (hb : c.code = cc) (hml : c.maxLocals = nL) (hown : s.vm.findClass (vg_O own) = some m.cls) (hts : ∀ w ∈ vt, w.before args s = true) (hK : va_K D vg_cl (vm_tys cA) s) (hN : vm_Nx s) (hX : X s) (hXs : vm_Str b0 g X)
    (hin : ini = true → meth.name = "<init>") (hscr : own = 12 → va_X (g vm_scr) L xs s s.heap ∧ g vm_scr < s.heap.size ∧ ¬ b0 ≤ g vm_scr) (hg : ∀ q, q < 1099511627776 → g q = b0 + q) (hh0 : s.heap.size = b0 + n0) (hnr : vm_n r.2 ≤ 1099511627776)
    (hRc : vm_n r.2 - n0 ≤ R.cells) (hRs : vm_s r.2 - s0 ≤ R.slots) (hRf : d + 9 ≤ R.frames) (hRl : 100 * (d + 9) ≤ R.locals)
    (hO : ∀ i as M r', O i as M r' → vm_n M ≤ vm_n r'.2 ∧ vm_s M ≤ vm_s r'.2 ∧ (i < 203 → vm_n r'.2 ≤ 1099511627776 → vm_Ok l g cA D b0 X d i as M r')) {E : Nat → vm_L → List Value → vm_M → Prop}
    (ih : ∀ pc lv st M, E pc lv st M → n0 ≤ vm_n M → s0 ≤ vm_s M → ∀ (H : Heap) (locs : List Loc) (ls : Array Slot), lv_has ls nL (vm_trl g lv) → vm_In g cA D M H → va_S (fun q => b0 ≤ q) s.heap H locs → W p l e R s m args below meth c H locs (vm_n M - n0) (vm_s M - s0) Q (F0 m pc ls (st.map (vm_tr g))))
    (hup : ∀ pc lv st M, E pc lv st M → vm_up M r)
    (hret : ∀ pc ins (H : Heap) (locs : List Loc) (ls : Array Slot), decode cc pc = .ok (ins, 1) → vm_isr ins r.1 → vm_In g cA D r.2 H → va_S (fun q => b0 ≤ q) s.heap H locs → W p l e R s m args below meth c H locs (vm_n r.2 - n0) (vm_s r.2 - s0) Q (F0 m pc ls (r.1.toList.map (vm_tr g))))
    {pc : Nat} {lv : vm_L} {st : List Value} {M : vm_M} {i : Nat} {n : Int} {a b : Nat} {v : Int} (hdg : decode cc pc = .ok (.iinc i n, vm_len (.iinc i n) b)) (hlk : vm_lk own (.iinc i n) a b v) (h : vm_do O L xs own ini nL r E pc lv st M (.iinc i n) a b v) (hn : n0 ≤ vm_n M) (hsl : s0 ≤ vm_s M) {H : Heap} {locs : List Loc} {ls : Array Slot} (hl : lv_has ls nL (vm_trl g lv)) (hI : vm_In g cA D M H) (hS : va_S (fun q => b0 ≤ q) s.heap H locs) :
    W p l e R s m args below meth c H locs (vm_n M - n0) (vm_s M - s0) Q (F0 m pc ls (st.map (vm_tr g))) := by
  have hupM : vm_up M r := vm_do_up (fun i as M r' ho => ⟨(hO i as M r' ho).1, (hO i as M r' ho).2.1⟩) hup h
  have hnM : vm_n M ≤ 1099511627776 := Nat.le_trans hupM.1 hnr
  have hDd : va_D (fun q => b0 ≤ q) (vm_w g cA M) := vm_Dd hg hnM
  have hA : ∀ q, s.heap.size ≤ q → (fun q => b0 ≤ q) q := fun q hq => by show b0 ≤ q; omega
  have go : ∀ {pc lv st ls}, E pc lv st M → lv_has ls nL (vm_trl g lv) → W p l e R s m args below meth c H locs (vm_n M - n0) (vm_s M - s0) Q (F0 m pc ls (st.map (vm_tr g))) := fun hE hl => ih _ _ _ _ hE hn hsl _ _ _ hl hI hS
  have hcs : vm_n M - n0 ≤ R.cells := Nat.le_trans (Nat.sub_le_sub_right hupM.1 n0) hRc
  have hss : vm_s M - s0 ≤ R.slots := Nat.le_trans (Nat.sub_le_sub_right hupM.2 s0) hRs
  have hml2 : c.maxLocals = ls.size := hml.trans hl.1.symm
  have arr : ∀ {q t n}, q < vm_n M → vm_sh M q = .inr (t, n) → (vm_w g cA M)[q]? = some (g q, .inl (cA t, n, vm_ct g M q t)) := fun hq hs => by rw [vm_w_at hq, vm_e_arr hs]
  have obj : ∀ {q a}, q < vm_n M → vm_sh M q = .inl a → (vm_w g cA M)[q]? = some (g q, .inr (a, (List.range (vg_N a)).map (fun k => vm_tr g (vm_gv M q (vg_y a k) k)))) := fun hq hs => by rw [vm_w_at hq, vm_e_obj hs]
  have hf1 : 1 ≤ R.frames := by omega
  have hl9 : 900 ≤ R.locals := vm_ar4 hRl
  simp only [vm_do] at h
  obtain ⟨x, hm, hi, h⟩ := h
  obtain ⟨k, hk⟩ := List.getElem?_of_mem (vm_trl_mem (g := g) hm)
  exact lv_iinc hx hb hdg hl hk rfl hi (vm_st1_tr g lv i (.int (x + Int32.ofInt n))) (fun ls' hl' => go h hl')
set_option maxHeartbeats 1000000 in
set_option maxRecDepth 20000 in
theorem vm_step_iadd {p : Program} {l : Launch} {e : Env} {R : Room} {s : State} {m : MethodId} {args : Array Value} {below : List Frame} {meth : Method} {c : Code} {Q : State → Prop} {cc : ByteArray} {O : Nat → List Value → vm_M → vm_R → Prop} {L : Nat} {xs : Nat → Int32} {own : Nat} {ini : Bool} {nL n0 s0 b0 d : Nat} {g : Nat → Nat} {cA : Nat → ClassId} {D : va_G} {X : State → Prop} {r : vm_R}
    (hx : p.tables.exec = Jvm.exec) (hb : c.code = cc) (hml : c.maxLocals = nL) (hown : s.vm.findClass (vg_O own) = some m.cls) (hts : ∀ w ∈ vt, w.before args s = true) (hK : va_K D vg_cl (vm_tys cA) s) (hN : vm_Nx s) (hX : X s) (hXs : vm_Str b0 g X)
    (hin : ini = true → meth.name = "<init>") (hscr : own = 12 → va_X (g vm_scr) L xs s s.heap ∧ g vm_scr < s.heap.size ∧ ¬ b0 ≤ g vm_scr) (hg : ∀ q, q < 1099511627776 → g q = b0 + q) (hh0 : s.heap.size = b0 + n0) (hnr : vm_n r.2 ≤ 1099511627776)
    (hRc : vm_n r.2 - n0 ≤ R.cells) (hRs : vm_s r.2 - s0 ≤ R.slots) (hRf : d + 9 ≤ R.frames) (hRl : 100 * (d + 9) ≤ R.locals)
    (hO : ∀ i as M r', O i as M r' → vm_n M ≤ vm_n r'.2 ∧ vm_s M ≤ vm_s r'.2 ∧ (i < 203 → vm_n r'.2 ≤ 1099511627776 → vm_Ok l g cA D b0 X d i as M r')) {E : Nat → vm_L → List Value → vm_M → Prop}
    (ih : ∀ pc lv st M, E pc lv st M → n0 ≤ vm_n M → s0 ≤ vm_s M → ∀ (H : Heap) (locs : List Loc) (ls : Array Slot), lv_has ls nL (vm_trl g lv) → vm_In g cA D M H → va_S (fun q => b0 ≤ q) s.heap H locs → W p l e R s m args below meth c H locs (vm_n M - n0) (vm_s M - s0) Q (F0 m pc ls (st.map (vm_tr g))))
    (hup : ∀ pc lv st M, E pc lv st M → vm_up M r)
    (hret : ∀ pc ins (H : Heap) (locs : List Loc) (ls : Array Slot), decode cc pc = .ok (ins, 1) → vm_isr ins r.1 → vm_In g cA D r.2 H → va_S (fun q => b0 ≤ q) s.heap H locs → W p l e R s m args below meth c H locs (vm_n r.2 - n0) (vm_s r.2 - s0) Q (F0 m pc ls (r.1.toList.map (vm_tr g))))
    {pc : Nat} {lv : vm_L} {st : List Value} {M : vm_M}  {a b : Nat} {v : Int} (hdg : decode cc pc = .ok (.iadd, vm_len (.iadd) b)) (hlk : vm_lk own (.iadd) a b v) (h : vm_do O L xs own ini nL r E pc lv st M (.iadd) a b v) (hn : n0 ≤ vm_n M) (hsl : s0 ≤ vm_s M) {H : Heap} {locs : List Loc} {ls : Array Slot} (hl : lv_has ls nL (vm_trl g lv)) (hI : vm_In g cA D M H) (hS : va_S (fun q => b0 ≤ q) s.heap H locs) :
    W p l e R s m args below meth c H locs (vm_n M - n0) (vm_s M - s0) Q (F0 m pc ls (st.map (vm_tr g))) := by
  have hupM : vm_up M r := vm_do_up (fun i as M r' ho => ⟨(hO i as M r' ho).1, (hO i as M r' ho).2.1⟩) hup h
  have hnM : vm_n M ≤ 1099511627776 := Nat.le_trans hupM.1 hnr
  have hDd : va_D (fun q => b0 ≤ q) (vm_w g cA M) := vm_Dd hg hnM
  have hA : ∀ q, s.heap.size ≤ q → (fun q => b0 ≤ q) q := fun q hq => by show b0 ≤ q; omega
  have go : ∀ {pc lv st ls}, E pc lv st M → lv_has ls nL (vm_trl g lv) → W p l e R s m args below meth c H locs (vm_n M - n0) (vm_s M - s0) Q (F0 m pc ls (st.map (vm_tr g))) := fun hE hl => ih _ _ _ _ hE hn hsl _ _ _ hl hI hS
  have hcs : vm_n M - n0 ≤ R.cells := Nat.le_trans (Nat.sub_le_sub_right hupM.1 n0) hRc
  have hss : vm_s M - s0 ≤ R.slots := Nat.le_trans (Nat.sub_le_sub_right hupM.2 s0) hRs
  have hml2 : c.maxLocals = ls.size := hml.trans hl.1.symm
  have arr : ∀ {q t n}, q < vm_n M → vm_sh M q = .inr (t, n) → (vm_w g cA M)[q]? = some (g q, .inl (cA t, n, vm_ct g M q t)) := fun hq hs => by rw [vm_w_at hq, vm_e_arr hs]
  have obj : ∀ {q a}, q < vm_n M → vm_sh M q = .inl a → (vm_w g cA M)[q]? = some (g q, .inr (a, (List.range (vg_N a)).map (fun k => vm_tr g (vm_gv M q (vg_y a k) k)))) := fun hq hs => by rw [vm_w_at hq, vm_e_obj hs]
  have hf1 : 1 ≤ R.frames := by omega
  have hl9 : 900 ≤ R.locals := vm_ar4 hRl
  simp only [vm_do] at h
  obtain ⟨x, y, st', rfl, h⟩ := h
  exact lv_iadd hx hb hdg (go h hl)
set_option maxHeartbeats 1000000 in
set_option maxRecDepth 20000 in
theorem vm_step_isub {p : Program} {l : Launch} {e : Env} {R : Room} {s : State} {m : MethodId} {args : Array Value} {below : List Frame} {meth : Method} {c : Code} {Q : State → Prop} {cc : ByteArray} {O : Nat → List Value → vm_M → vm_R → Prop} {L : Nat} {xs : Nat → Int32} {own : Nat} {ini : Bool} {nL n0 s0 b0 d : Nat} {g : Nat → Nat} {cA : Nat → ClassId} {D : va_G} {X : State → Prop} {r : vm_R}
    (hx : p.tables.exec = Jvm.exec) (hb : c.code = cc) (hml : c.maxLocals = nL) (hown : s.vm.findClass (vg_O own) = some m.cls) (hts : ∀ w ∈ vt, w.before args s = true) (hK : va_K D vg_cl (vm_tys cA) s) (hN : vm_Nx s) (hX : X s) (hXs : vm_Str b0 g X)
    (hin : ini = true → meth.name = "<init>") (hscr : own = 12 → va_X (g vm_scr) L xs s s.heap ∧ g vm_scr < s.heap.size ∧ ¬ b0 ≤ g vm_scr) (hg : ∀ q, q < 1099511627776 → g q = b0 + q) (hh0 : s.heap.size = b0 + n0) (hnr : vm_n r.2 ≤ 1099511627776)
    (hRc : vm_n r.2 - n0 ≤ R.cells) (hRs : vm_s r.2 - s0 ≤ R.slots) (hRf : d + 9 ≤ R.frames) (hRl : 100 * (d + 9) ≤ R.locals)
    (hO : ∀ i as M r', O i as M r' → vm_n M ≤ vm_n r'.2 ∧ vm_s M ≤ vm_s r'.2 ∧ (i < 203 → vm_n r'.2 ≤ 1099511627776 → vm_Ok l g cA D b0 X d i as M r')) {E : Nat → vm_L → List Value → vm_M → Prop}
    (ih : ∀ pc lv st M, E pc lv st M → n0 ≤ vm_n M → s0 ≤ vm_s M → ∀ (H : Heap) (locs : List Loc) (ls : Array Slot), lv_has ls nL (vm_trl g lv) → vm_In g cA D M H → va_S (fun q => b0 ≤ q) s.heap H locs → W p l e R s m args below meth c H locs (vm_n M - n0) (vm_s M - s0) Q (F0 m pc ls (st.map (vm_tr g))))
    (hup : ∀ pc lv st M, E pc lv st M → vm_up M r)
    (hret : ∀ pc ins (H : Heap) (locs : List Loc) (ls : Array Slot), decode cc pc = .ok (ins, 1) → vm_isr ins r.1 → vm_In g cA D r.2 H → va_S (fun q => b0 ≤ q) s.heap H locs → W p l e R s m args below meth c H locs (vm_n r.2 - n0) (vm_s r.2 - s0) Q (F0 m pc ls (r.1.toList.map (vm_tr g))))
    {pc : Nat} {lv : vm_L} {st : List Value} {M : vm_M}  {a b : Nat} {v : Int} (hdg : decode cc pc = .ok (.isub, vm_len (.isub) b)) (hlk : vm_lk own (.isub) a b v) (h : vm_do O L xs own ini nL r E pc lv st M (.isub) a b v) (hn : n0 ≤ vm_n M) (hsl : s0 ≤ vm_s M) {H : Heap} {locs : List Loc} {ls : Array Slot} (hl : lv_has ls nL (vm_trl g lv)) (hI : vm_In g cA D M H) (hS : va_S (fun q => b0 ≤ q) s.heap H locs) :
    W p l e R s m args below meth c H locs (vm_n M - n0) (vm_s M - s0) Q (F0 m pc ls (st.map (vm_tr g))) := by
  have hupM : vm_up M r := vm_do_up (fun i as M r' ho => ⟨(hO i as M r' ho).1, (hO i as M r' ho).2.1⟩) hup h
  have hnM : vm_n M ≤ 1099511627776 := Nat.le_trans hupM.1 hnr
  have hDd : va_D (fun q => b0 ≤ q) (vm_w g cA M) := vm_Dd hg hnM
  have hA : ∀ q, s.heap.size ≤ q → (fun q => b0 ≤ q) q := fun q hq => by show b0 ≤ q; omega
  have go : ∀ {pc lv st ls}, E pc lv st M → lv_has ls nL (vm_trl g lv) → W p l e R s m args below meth c H locs (vm_n M - n0) (vm_s M - s0) Q (F0 m pc ls (st.map (vm_tr g))) := fun hE hl => ih _ _ _ _ hE hn hsl _ _ _ hl hI hS
  have hcs : vm_n M - n0 ≤ R.cells := Nat.le_trans (Nat.sub_le_sub_right hupM.1 n0) hRc
  have hss : vm_s M - s0 ≤ R.slots := Nat.le_trans (Nat.sub_le_sub_right hupM.2 s0) hRs
  have hml2 : c.maxLocals = ls.size := hml.trans hl.1.symm
  have arr : ∀ {q t n}, q < vm_n M → vm_sh M q = .inr (t, n) → (vm_w g cA M)[q]? = some (g q, .inl (cA t, n, vm_ct g M q t)) := fun hq hs => by rw [vm_w_at hq, vm_e_arr hs]
  have obj : ∀ {q a}, q < vm_n M → vm_sh M q = .inl a → (vm_w g cA M)[q]? = some (g q, .inr (a, (List.range (vg_N a)).map (fun k => vm_tr g (vm_gv M q (vg_y a k) k)))) := fun hq hs => by rw [vm_w_at hq, vm_e_obj hs]
  have hf1 : 1 ≤ R.frames := by omega
  have hl9 : 900 ≤ R.locals := vm_ar4 hRl
  simp only [vm_do] at h
  obtain ⟨x, y, st', rfl, h⟩ := h
  exact lv_isub hx hb hdg (go h hl)
set_option maxHeartbeats 1000000 in
set_option maxRecDepth 20000 in
theorem vm_step_imul {p : Program} {l : Launch} {e : Env} {R : Room} {s : State} {m : MethodId} {args : Array Value} {below : List Frame} {meth : Method} {c : Code} {Q : State → Prop} {cc : ByteArray} {O : Nat → List Value → vm_M → vm_R → Prop} {L : Nat} {xs : Nat → Int32} {own : Nat} {ini : Bool} {nL n0 s0 b0 d : Nat} {g : Nat → Nat} {cA : Nat → ClassId} {D : va_G} {X : State → Prop} {r : vm_R}
    (hx : p.tables.exec = Jvm.exec) (hb : c.code = cc) (hml : c.maxLocals = nL) (hown : s.vm.findClass (vg_O own) = some m.cls) (hts : ∀ w ∈ vt, w.before args s = true) (hK : va_K D vg_cl (vm_tys cA) s) (hN : vm_Nx s) (hX : X s) (hXs : vm_Str b0 g X)
    (hin : ini = true → meth.name = "<init>") (hscr : own = 12 → va_X (g vm_scr) L xs s s.heap ∧ g vm_scr < s.heap.size ∧ ¬ b0 ≤ g vm_scr) (hg : ∀ q, q < 1099511627776 → g q = b0 + q) (hh0 : s.heap.size = b0 + n0) (hnr : vm_n r.2 ≤ 1099511627776)
    (hRc : vm_n r.2 - n0 ≤ R.cells) (hRs : vm_s r.2 - s0 ≤ R.slots) (hRf : d + 9 ≤ R.frames) (hRl : 100 * (d + 9) ≤ R.locals)
    (hO : ∀ i as M r', O i as M r' → vm_n M ≤ vm_n r'.2 ∧ vm_s M ≤ vm_s r'.2 ∧ (i < 203 → vm_n r'.2 ≤ 1099511627776 → vm_Ok l g cA D b0 X d i as M r')) {E : Nat → vm_L → List Value → vm_M → Prop}
    (ih : ∀ pc lv st M, E pc lv st M → n0 ≤ vm_n M → s0 ≤ vm_s M → ∀ (H : Heap) (locs : List Loc) (ls : Array Slot), lv_has ls nL (vm_trl g lv) → vm_In g cA D M H → va_S (fun q => b0 ≤ q) s.heap H locs → W p l e R s m args below meth c H locs (vm_n M - n0) (vm_s M - s0) Q (F0 m pc ls (st.map (vm_tr g))))
    (hup : ∀ pc lv st M, E pc lv st M → vm_up M r)
    (hret : ∀ pc ins (H : Heap) (locs : List Loc) (ls : Array Slot), decode cc pc = .ok (ins, 1) → vm_isr ins r.1 → vm_In g cA D r.2 H → va_S (fun q => b0 ≤ q) s.heap H locs → W p l e R s m args below meth c H locs (vm_n r.2 - n0) (vm_s r.2 - s0) Q (F0 m pc ls (r.1.toList.map (vm_tr g))))
    {pc : Nat} {lv : vm_L} {st : List Value} {M : vm_M}  {a b : Nat} {v : Int} (hdg : decode cc pc = .ok (.imul, vm_len (.imul) b)) (hlk : vm_lk own (.imul) a b v) (h : vm_do O L xs own ini nL r E pc lv st M (.imul) a b v) (hn : n0 ≤ vm_n M) (hsl : s0 ≤ vm_s M) {H : Heap} {locs : List Loc} {ls : Array Slot} (hl : lv_has ls nL (vm_trl g lv)) (hI : vm_In g cA D M H) (hS : va_S (fun q => b0 ≤ q) s.heap H locs) :
    W p l e R s m args below meth c H locs (vm_n M - n0) (vm_s M - s0) Q (F0 m pc ls (st.map (vm_tr g))) := by
  have hupM : vm_up M r := vm_do_up (fun i as M r' ho => ⟨(hO i as M r' ho).1, (hO i as M r' ho).2.1⟩) hup h
  have hnM : vm_n M ≤ 1099511627776 := Nat.le_trans hupM.1 hnr
  have hDd : va_D (fun q => b0 ≤ q) (vm_w g cA M) := vm_Dd hg hnM
  have hA : ∀ q, s.heap.size ≤ q → (fun q => b0 ≤ q) q := fun q hq => by show b0 ≤ q; omega
  have go : ∀ {pc lv st ls}, E pc lv st M → lv_has ls nL (vm_trl g lv) → W p l e R s m args below meth c H locs (vm_n M - n0) (vm_s M - s0) Q (F0 m pc ls (st.map (vm_tr g))) := fun hE hl => ih _ _ _ _ hE hn hsl _ _ _ hl hI hS
  have hcs : vm_n M - n0 ≤ R.cells := Nat.le_trans (Nat.sub_le_sub_right hupM.1 n0) hRc
  have hss : vm_s M - s0 ≤ R.slots := Nat.le_trans (Nat.sub_le_sub_right hupM.2 s0) hRs
  have hml2 : c.maxLocals = ls.size := hml.trans hl.1.symm
  have arr : ∀ {q t n}, q < vm_n M → vm_sh M q = .inr (t, n) → (vm_w g cA M)[q]? = some (g q, .inl (cA t, n, vm_ct g M q t)) := fun hq hs => by rw [vm_w_at hq, vm_e_arr hs]
  have obj : ∀ {q a}, q < vm_n M → vm_sh M q = .inl a → (vm_w g cA M)[q]? = some (g q, .inr (a, (List.range (vg_N a)).map (fun k => vm_tr g (vm_gv M q (vg_y a k) k)))) := fun hq hs => by rw [vm_w_at hq, vm_e_obj hs]
  have hf1 : 1 ≤ R.frames := by omega
  have hl9 : 900 ≤ R.locals := vm_ar4 hRl
  simp only [vm_do] at h
  obtain ⟨x, y, st', rfl, h⟩ := h
  exact lv_imul hx hb hdg (go h hl)
set_option maxHeartbeats 1000000 in
set_option maxRecDepth 20000 in
theorem vm_step_iand {p : Program} {l : Launch} {e : Env} {R : Room} {s : State} {m : MethodId} {args : Array Value} {below : List Frame} {meth : Method} {c : Code} {Q : State → Prop} {cc : ByteArray} {O : Nat → List Value → vm_M → vm_R → Prop} {L : Nat} {xs : Nat → Int32} {own : Nat} {ini : Bool} {nL n0 s0 b0 d : Nat} {g : Nat → Nat} {cA : Nat → ClassId} {D : va_G} {X : State → Prop} {r : vm_R}
    (hx : p.tables.exec = Jvm.exec) (hb : c.code = cc) (hml : c.maxLocals = nL) (hown : s.vm.findClass (vg_O own) = some m.cls) (hts : ∀ w ∈ vt, w.before args s = true) (hK : va_K D vg_cl (vm_tys cA) s) (hN : vm_Nx s) (hX : X s) (hXs : vm_Str b0 g X)
    (hin : ini = true → meth.name = "<init>") (hscr : own = 12 → va_X (g vm_scr) L xs s s.heap ∧ g vm_scr < s.heap.size ∧ ¬ b0 ≤ g vm_scr) (hg : ∀ q, q < 1099511627776 → g q = b0 + q) (hh0 : s.heap.size = b0 + n0) (hnr : vm_n r.2 ≤ 1099511627776)
    (hRc : vm_n r.2 - n0 ≤ R.cells) (hRs : vm_s r.2 - s0 ≤ R.slots) (hRf : d + 9 ≤ R.frames) (hRl : 100 * (d + 9) ≤ R.locals)
    (hO : ∀ i as M r', O i as M r' → vm_n M ≤ vm_n r'.2 ∧ vm_s M ≤ vm_s r'.2 ∧ (i < 203 → vm_n r'.2 ≤ 1099511627776 → vm_Ok l g cA D b0 X d i as M r')) {E : Nat → vm_L → List Value → vm_M → Prop}
    (ih : ∀ pc lv st M, E pc lv st M → n0 ≤ vm_n M → s0 ≤ vm_s M → ∀ (H : Heap) (locs : List Loc) (ls : Array Slot), lv_has ls nL (vm_trl g lv) → vm_In g cA D M H → va_S (fun q => b0 ≤ q) s.heap H locs → W p l e R s m args below meth c H locs (vm_n M - n0) (vm_s M - s0) Q (F0 m pc ls (st.map (vm_tr g))))
    (hup : ∀ pc lv st M, E pc lv st M → vm_up M r)
    (hret : ∀ pc ins (H : Heap) (locs : List Loc) (ls : Array Slot), decode cc pc = .ok (ins, 1) → vm_isr ins r.1 → vm_In g cA D r.2 H → va_S (fun q => b0 ≤ q) s.heap H locs → W p l e R s m args below meth c H locs (vm_n r.2 - n0) (vm_s r.2 - s0) Q (F0 m pc ls (r.1.toList.map (vm_tr g))))
    {pc : Nat} {lv : vm_L} {st : List Value} {M : vm_M}  {a b : Nat} {v : Int} (hdg : decode cc pc = .ok (.iand, vm_len (.iand) b)) (hlk : vm_lk own (.iand) a b v) (h : vm_do O L xs own ini nL r E pc lv st M (.iand) a b v) (hn : n0 ≤ vm_n M) (hsl : s0 ≤ vm_s M) {H : Heap} {locs : List Loc} {ls : Array Slot} (hl : lv_has ls nL (vm_trl g lv)) (hI : vm_In g cA D M H) (hS : va_S (fun q => b0 ≤ q) s.heap H locs) :
    W p l e R s m args below meth c H locs (vm_n M - n0) (vm_s M - s0) Q (F0 m pc ls (st.map (vm_tr g))) := by
  have hupM : vm_up M r := vm_do_up (fun i as M r' ho => ⟨(hO i as M r' ho).1, (hO i as M r' ho).2.1⟩) hup h
  have hnM : vm_n M ≤ 1099511627776 := Nat.le_trans hupM.1 hnr
  have hDd : va_D (fun q => b0 ≤ q) (vm_w g cA M) := vm_Dd hg hnM
  have hA : ∀ q, s.heap.size ≤ q → (fun q => b0 ≤ q) q := fun q hq => by show b0 ≤ q; omega
  have go : ∀ {pc lv st ls}, E pc lv st M → lv_has ls nL (vm_trl g lv) → W p l e R s m args below meth c H locs (vm_n M - n0) (vm_s M - s0) Q (F0 m pc ls (st.map (vm_tr g))) := fun hE hl => ih _ _ _ _ hE hn hsl _ _ _ hl hI hS
  have hcs : vm_n M - n0 ≤ R.cells := Nat.le_trans (Nat.sub_le_sub_right hupM.1 n0) hRc
  have hss : vm_s M - s0 ≤ R.slots := Nat.le_trans (Nat.sub_le_sub_right hupM.2 s0) hRs
  have hml2 : c.maxLocals = ls.size := hml.trans hl.1.symm
  have arr : ∀ {q t n}, q < vm_n M → vm_sh M q = .inr (t, n) → (vm_w g cA M)[q]? = some (g q, .inl (cA t, n, vm_ct g M q t)) := fun hq hs => by rw [vm_w_at hq, vm_e_arr hs]
  have obj : ∀ {q a}, q < vm_n M → vm_sh M q = .inl a → (vm_w g cA M)[q]? = some (g q, .inr (a, (List.range (vg_N a)).map (fun k => vm_tr g (vm_gv M q (vg_y a k) k)))) := fun hq hs => by rw [vm_w_at hq, vm_e_obj hs]
  have hf1 : 1 ≤ R.frames := by omega
  have hl9 : 900 ≤ R.locals := vm_ar4 hRl
  simp only [vm_do] at h
  obtain ⟨x, y, st', rfl, h⟩ := h
  exact lv_iand hx hb hdg (go h hl)
set_option maxHeartbeats 1000000 in
set_option maxRecDepth 20000 in
theorem vm_step_ior {p : Program} {l : Launch} {e : Env} {R : Room} {s : State} {m : MethodId} {args : Array Value} {below : List Frame} {meth : Method} {c : Code} {Q : State → Prop} {cc : ByteArray} {O : Nat → List Value → vm_M → vm_R → Prop} {L : Nat} {xs : Nat → Int32} {own : Nat} {ini : Bool} {nL n0 s0 b0 d : Nat} {g : Nat → Nat} {cA : Nat → ClassId} {D : va_G} {X : State → Prop} {r : vm_R}
    (hx : p.tables.exec = Jvm.exec) (hb : c.code = cc) (hml : c.maxLocals = nL) (hown : s.vm.findClass (vg_O own) = some m.cls) (hts : ∀ w ∈ vt, w.before args s = true) (hK : va_K D vg_cl (vm_tys cA) s) (hN : vm_Nx s) (hX : X s) (hXs : vm_Str b0 g X)
    (hin : ini = true → meth.name = "<init>") (hscr : own = 12 → va_X (g vm_scr) L xs s s.heap ∧ g vm_scr < s.heap.size ∧ ¬ b0 ≤ g vm_scr) (hg : ∀ q, q < 1099511627776 → g q = b0 + q) (hh0 : s.heap.size = b0 + n0) (hnr : vm_n r.2 ≤ 1099511627776)
    (hRc : vm_n r.2 - n0 ≤ R.cells) (hRs : vm_s r.2 - s0 ≤ R.slots) (hRf : d + 9 ≤ R.frames) (hRl : 100 * (d + 9) ≤ R.locals)
    (hO : ∀ i as M r', O i as M r' → vm_n M ≤ vm_n r'.2 ∧ vm_s M ≤ vm_s r'.2 ∧ (i < 203 → vm_n r'.2 ≤ 1099511627776 → vm_Ok l g cA D b0 X d i as M r')) {E : Nat → vm_L → List Value → vm_M → Prop}
    (ih : ∀ pc lv st M, E pc lv st M → n0 ≤ vm_n M → s0 ≤ vm_s M → ∀ (H : Heap) (locs : List Loc) (ls : Array Slot), lv_has ls nL (vm_trl g lv) → vm_In g cA D M H → va_S (fun q => b0 ≤ q) s.heap H locs → W p l e R s m args below meth c H locs (vm_n M - n0) (vm_s M - s0) Q (F0 m pc ls (st.map (vm_tr g))))
    (hup : ∀ pc lv st M, E pc lv st M → vm_up M r)
    (hret : ∀ pc ins (H : Heap) (locs : List Loc) (ls : Array Slot), decode cc pc = .ok (ins, 1) → vm_isr ins r.1 → vm_In g cA D r.2 H → va_S (fun q => b0 ≤ q) s.heap H locs → W p l e R s m args below meth c H locs (vm_n r.2 - n0) (vm_s r.2 - s0) Q (F0 m pc ls (r.1.toList.map (vm_tr g))))
    {pc : Nat} {lv : vm_L} {st : List Value} {M : vm_M}  {a b : Nat} {v : Int} (hdg : decode cc pc = .ok (.ior, vm_len (.ior) b)) (hlk : vm_lk own (.ior) a b v) (h : vm_do O L xs own ini nL r E pc lv st M (.ior) a b v) (hn : n0 ≤ vm_n M) (hsl : s0 ≤ vm_s M) {H : Heap} {locs : List Loc} {ls : Array Slot} (hl : lv_has ls nL (vm_trl g lv)) (hI : vm_In g cA D M H) (hS : va_S (fun q => b0 ≤ q) s.heap H locs) :
    W p l e R s m args below meth c H locs (vm_n M - n0) (vm_s M - s0) Q (F0 m pc ls (st.map (vm_tr g))) := by
  have hupM : vm_up M r := vm_do_up (fun i as M r' ho => ⟨(hO i as M r' ho).1, (hO i as M r' ho).2.1⟩) hup h
  have hnM : vm_n M ≤ 1099511627776 := Nat.le_trans hupM.1 hnr
  have hDd : va_D (fun q => b0 ≤ q) (vm_w g cA M) := vm_Dd hg hnM
  have hA : ∀ q, s.heap.size ≤ q → (fun q => b0 ≤ q) q := fun q hq => by show b0 ≤ q; omega
  have go : ∀ {pc lv st ls}, E pc lv st M → lv_has ls nL (vm_trl g lv) → W p l e R s m args below meth c H locs (vm_n M - n0) (vm_s M - s0) Q (F0 m pc ls (st.map (vm_tr g))) := fun hE hl => ih _ _ _ _ hE hn hsl _ _ _ hl hI hS
  have hcs : vm_n M - n0 ≤ R.cells := Nat.le_trans (Nat.sub_le_sub_right hupM.1 n0) hRc
  have hss : vm_s M - s0 ≤ R.slots := Nat.le_trans (Nat.sub_le_sub_right hupM.2 s0) hRs
  have hml2 : c.maxLocals = ls.size := hml.trans hl.1.symm
  have arr : ∀ {q t n}, q < vm_n M → vm_sh M q = .inr (t, n) → (vm_w g cA M)[q]? = some (g q, .inl (cA t, n, vm_ct g M q t)) := fun hq hs => by rw [vm_w_at hq, vm_e_arr hs]
  have obj : ∀ {q a}, q < vm_n M → vm_sh M q = .inl a → (vm_w g cA M)[q]? = some (g q, .inr (a, (List.range (vg_N a)).map (fun k => vm_tr g (vm_gv M q (vg_y a k) k)))) := fun hq hs => by rw [vm_w_at hq, vm_e_obj hs]
  have hf1 : 1 ≤ R.frames := by omega
  have hl9 : 900 ≤ R.locals := vm_ar4 hRl
  simp only [vm_do] at h
  obtain ⟨x, y, st', rfl, h⟩ := h
  exact lv_ior hx hb hdg (go h hl)
set_option maxHeartbeats 1000000 in
set_option maxRecDepth 20000 in
theorem vm_step_ixor {p : Program} {l : Launch} {e : Env} {R : Room} {s : State} {m : MethodId} {args : Array Value} {below : List Frame} {meth : Method} {c : Code} {Q : State → Prop} {cc : ByteArray} {O : Nat → List Value → vm_M → vm_R → Prop} {L : Nat} {xs : Nat → Int32} {own : Nat} {ini : Bool} {nL n0 s0 b0 d : Nat} {g : Nat → Nat} {cA : Nat → ClassId} {D : va_G} {X : State → Prop} {r : vm_R}
    (hx : p.tables.exec = Jvm.exec) (hb : c.code = cc) (hml : c.maxLocals = nL) (hown : s.vm.findClass (vg_O own) = some m.cls) (hts : ∀ w ∈ vt, w.before args s = true) (hK : va_K D vg_cl (vm_tys cA) s) (hN : vm_Nx s) (hX : X s) (hXs : vm_Str b0 g X)
    (hin : ini = true → meth.name = "<init>") (hscr : own = 12 → va_X (g vm_scr) L xs s s.heap ∧ g vm_scr < s.heap.size ∧ ¬ b0 ≤ g vm_scr) (hg : ∀ q, q < 1099511627776 → g q = b0 + q) (hh0 : s.heap.size = b0 + n0) (hnr : vm_n r.2 ≤ 1099511627776)
    (hRc : vm_n r.2 - n0 ≤ R.cells) (hRs : vm_s r.2 - s0 ≤ R.slots) (hRf : d + 9 ≤ R.frames) (hRl : 100 * (d + 9) ≤ R.locals)
    (hO : ∀ i as M r', O i as M r' → vm_n M ≤ vm_n r'.2 ∧ vm_s M ≤ vm_s r'.2 ∧ (i < 203 → vm_n r'.2 ≤ 1099511627776 → vm_Ok l g cA D b0 X d i as M r')) {E : Nat → vm_L → List Value → vm_M → Prop}
    (ih : ∀ pc lv st M, E pc lv st M → n0 ≤ vm_n M → s0 ≤ vm_s M → ∀ (H : Heap) (locs : List Loc) (ls : Array Slot), lv_has ls nL (vm_trl g lv) → vm_In g cA D M H → va_S (fun q => b0 ≤ q) s.heap H locs → W p l e R s m args below meth c H locs (vm_n M - n0) (vm_s M - s0) Q (F0 m pc ls (st.map (vm_tr g))))
    (hup : ∀ pc lv st M, E pc lv st M → vm_up M r)
    (hret : ∀ pc ins (H : Heap) (locs : List Loc) (ls : Array Slot), decode cc pc = .ok (ins, 1) → vm_isr ins r.1 → vm_In g cA D r.2 H → va_S (fun q => b0 ≤ q) s.heap H locs → W p l e R s m args below meth c H locs (vm_n r.2 - n0) (vm_s r.2 - s0) Q (F0 m pc ls (r.1.toList.map (vm_tr g))))
    {pc : Nat} {lv : vm_L} {st : List Value} {M : vm_M}  {a b : Nat} {v : Int} (hdg : decode cc pc = .ok (.ixor, vm_len (.ixor) b)) (hlk : vm_lk own (.ixor) a b v) (h : vm_do O L xs own ini nL r E pc lv st M (.ixor) a b v) (hn : n0 ≤ vm_n M) (hsl : s0 ≤ vm_s M) {H : Heap} {locs : List Loc} {ls : Array Slot} (hl : lv_has ls nL (vm_trl g lv)) (hI : vm_In g cA D M H) (hS : va_S (fun q => b0 ≤ q) s.heap H locs) :
    W p l e R s m args below meth c H locs (vm_n M - n0) (vm_s M - s0) Q (F0 m pc ls (st.map (vm_tr g))) := by
  have hupM : vm_up M r := vm_do_up (fun i as M r' ho => ⟨(hO i as M r' ho).1, (hO i as M r' ho).2.1⟩) hup h
  have hnM : vm_n M ≤ 1099511627776 := Nat.le_trans hupM.1 hnr
  have hDd : va_D (fun q => b0 ≤ q) (vm_w g cA M) := vm_Dd hg hnM
  have hA : ∀ q, s.heap.size ≤ q → (fun q => b0 ≤ q) q := fun q hq => by show b0 ≤ q; omega
  have go : ∀ {pc lv st ls}, E pc lv st M → lv_has ls nL (vm_trl g lv) → W p l e R s m args below meth c H locs (vm_n M - n0) (vm_s M - s0) Q (F0 m pc ls (st.map (vm_tr g))) := fun hE hl => ih _ _ _ _ hE hn hsl _ _ _ hl hI hS
  have hcs : vm_n M - n0 ≤ R.cells := Nat.le_trans (Nat.sub_le_sub_right hupM.1 n0) hRc
  have hss : vm_s M - s0 ≤ R.slots := Nat.le_trans (Nat.sub_le_sub_right hupM.2 s0) hRs
  have hml2 : c.maxLocals = ls.size := hml.trans hl.1.symm
  have arr : ∀ {q t n}, q < vm_n M → vm_sh M q = .inr (t, n) → (vm_w g cA M)[q]? = some (g q, .inl (cA t, n, vm_ct g M q t)) := fun hq hs => by rw [vm_w_at hq, vm_e_arr hs]
  have obj : ∀ {q a}, q < vm_n M → vm_sh M q = .inl a → (vm_w g cA M)[q]? = some (g q, .inr (a, (List.range (vg_N a)).map (fun k => vm_tr g (vm_gv M q (vg_y a k) k)))) := fun hq hs => by rw [vm_w_at hq, vm_e_obj hs]
  have hf1 : 1 ≤ R.frames := by omega
  have hl9 : 900 ≤ R.locals := vm_ar4 hRl
  simp only [vm_do] at h
  obtain ⟨x, y, st', rfl, h⟩ := h
  exact lv_ixor hx hb hdg (go h hl)
set_option maxHeartbeats 1000000 in
set_option maxRecDepth 20000 in
theorem vm_step_ishl {p : Program} {l : Launch} {e : Env} {R : Room} {s : State} {m : MethodId} {args : Array Value} {below : List Frame} {meth : Method} {c : Code} {Q : State → Prop} {cc : ByteArray} {O : Nat → List Value → vm_M → vm_R → Prop} {L : Nat} {xs : Nat → Int32} {own : Nat} {ini : Bool} {nL n0 s0 b0 d : Nat} {g : Nat → Nat} {cA : Nat → ClassId} {D : va_G} {X : State → Prop} {r : vm_R}
    (hx : p.tables.exec = Jvm.exec) (hb : c.code = cc) (hml : c.maxLocals = nL) (hown : s.vm.findClass (vg_O own) = some m.cls) (hts : ∀ w ∈ vt, w.before args s = true) (hK : va_K D vg_cl (vm_tys cA) s) (hN : vm_Nx s) (hX : X s) (hXs : vm_Str b0 g X)
    (hin : ini = true → meth.name = "<init>") (hscr : own = 12 → va_X (g vm_scr) L xs s s.heap ∧ g vm_scr < s.heap.size ∧ ¬ b0 ≤ g vm_scr) (hg : ∀ q, q < 1099511627776 → g q = b0 + q) (hh0 : s.heap.size = b0 + n0) (hnr : vm_n r.2 ≤ 1099511627776)
    (hRc : vm_n r.2 - n0 ≤ R.cells) (hRs : vm_s r.2 - s0 ≤ R.slots) (hRf : d + 9 ≤ R.frames) (hRl : 100 * (d + 9) ≤ R.locals)
    (hO : ∀ i as M r', O i as M r' → vm_n M ≤ vm_n r'.2 ∧ vm_s M ≤ vm_s r'.2 ∧ (i < 203 → vm_n r'.2 ≤ 1099511627776 → vm_Ok l g cA D b0 X d i as M r')) {E : Nat → vm_L → List Value → vm_M → Prop}
    (ih : ∀ pc lv st M, E pc lv st M → n0 ≤ vm_n M → s0 ≤ vm_s M → ∀ (H : Heap) (locs : List Loc) (ls : Array Slot), lv_has ls nL (vm_trl g lv) → vm_In g cA D M H → va_S (fun q => b0 ≤ q) s.heap H locs → W p l e R s m args below meth c H locs (vm_n M - n0) (vm_s M - s0) Q (F0 m pc ls (st.map (vm_tr g))))
    (hup : ∀ pc lv st M, E pc lv st M → vm_up M r)
    (hret : ∀ pc ins (H : Heap) (locs : List Loc) (ls : Array Slot), decode cc pc = .ok (ins, 1) → vm_isr ins r.1 → vm_In g cA D r.2 H → va_S (fun q => b0 ≤ q) s.heap H locs → W p l e R s m args below meth c H locs (vm_n r.2 - n0) (vm_s r.2 - s0) Q (F0 m pc ls (r.1.toList.map (vm_tr g))))
    {pc : Nat} {lv : vm_L} {st : List Value} {M : vm_M}  {a b : Nat} {v : Int} (hdg : decode cc pc = .ok (.ishl, vm_len (.ishl) b)) (hlk : vm_lk own (.ishl) a b v) (h : vm_do O L xs own ini nL r E pc lv st M (.ishl) a b v) (hn : n0 ≤ vm_n M) (hsl : s0 ≤ vm_s M) {H : Heap} {locs : List Loc} {ls : Array Slot} (hl : lv_has ls nL (vm_trl g lv)) (hI : vm_In g cA D M H) (hS : va_S (fun q => b0 ≤ q) s.heap H locs) :
    W p l e R s m args below meth c H locs (vm_n M - n0) (vm_s M - s0) Q (F0 m pc ls (st.map (vm_tr g))) := by
  have hupM : vm_up M r := vm_do_up (fun i as M r' ho => ⟨(hO i as M r' ho).1, (hO i as M r' ho).2.1⟩) hup h
  have hnM : vm_n M ≤ 1099511627776 := Nat.le_trans hupM.1 hnr
  have hDd : va_D (fun q => b0 ≤ q) (vm_w g cA M) := vm_Dd hg hnM
  have hA : ∀ q, s.heap.size ≤ q → (fun q => b0 ≤ q) q := fun q hq => by show b0 ≤ q; omega
  have go : ∀ {pc lv st ls}, E pc lv st M → lv_has ls nL (vm_trl g lv) → W p l e R s m args below meth c H locs (vm_n M - n0) (vm_s M - s0) Q (F0 m pc ls (st.map (vm_tr g))) := fun hE hl => ih _ _ _ _ hE hn hsl _ _ _ hl hI hS
  have hcs : vm_n M - n0 ≤ R.cells := Nat.le_trans (Nat.sub_le_sub_right hupM.1 n0) hRc
  have hss : vm_s M - s0 ≤ R.slots := Nat.le_trans (Nat.sub_le_sub_right hupM.2 s0) hRs
  have hml2 : c.maxLocals = ls.size := hml.trans hl.1.symm
  have arr : ∀ {q t n}, q < vm_n M → vm_sh M q = .inr (t, n) → (vm_w g cA M)[q]? = some (g q, .inl (cA t, n, vm_ct g M q t)) := fun hq hs => by rw [vm_w_at hq, vm_e_arr hs]
  have obj : ∀ {q a}, q < vm_n M → vm_sh M q = .inl a → (vm_w g cA M)[q]? = some (g q, .inr (a, (List.range (vg_N a)).map (fun k => vm_tr g (vm_gv M q (vg_y a k) k)))) := fun hq hs => by rw [vm_w_at hq, vm_e_obj hs]
  have hf1 : 1 ≤ R.frames := by omega
  have hl9 : 900 ≤ R.locals := vm_ar4 hRl
  simp only [vm_do] at h
  obtain ⟨x, y, st', rfl, h⟩ := h
  exact lv_ishl hx hb hdg (go h hl)
set_option maxHeartbeats 1000000 in
set_option maxRecDepth 20000 in
theorem vm_step_ishr {p : Program} {l : Launch} {e : Env} {R : Room} {s : State} {m : MethodId} {args : Array Value} {below : List Frame} {meth : Method} {c : Code} {Q : State → Prop} {cc : ByteArray} {O : Nat → List Value → vm_M → vm_R → Prop} {L : Nat} {xs : Nat → Int32} {own : Nat} {ini : Bool} {nL n0 s0 b0 d : Nat} {g : Nat → Nat} {cA : Nat → ClassId} {D : va_G} {X : State → Prop} {r : vm_R}
    (hx : p.tables.exec = Jvm.exec) (hb : c.code = cc) (hml : c.maxLocals = nL) (hown : s.vm.findClass (vg_O own) = some m.cls) (hts : ∀ w ∈ vt, w.before args s = true) (hK : va_K D vg_cl (vm_tys cA) s) (hN : vm_Nx s) (hX : X s) (hXs : vm_Str b0 g X)
    (hin : ini = true → meth.name = "<init>") (hscr : own = 12 → va_X (g vm_scr) L xs s s.heap ∧ g vm_scr < s.heap.size ∧ ¬ b0 ≤ g vm_scr) (hg : ∀ q, q < 1099511627776 → g q = b0 + q) (hh0 : s.heap.size = b0 + n0) (hnr : vm_n r.2 ≤ 1099511627776)
    (hRc : vm_n r.2 - n0 ≤ R.cells) (hRs : vm_s r.2 - s0 ≤ R.slots) (hRf : d + 9 ≤ R.frames) (hRl : 100 * (d + 9) ≤ R.locals)
    (hO : ∀ i as M r', O i as M r' → vm_n M ≤ vm_n r'.2 ∧ vm_s M ≤ vm_s r'.2 ∧ (i < 203 → vm_n r'.2 ≤ 1099511627776 → vm_Ok l g cA D b0 X d i as M r')) {E : Nat → vm_L → List Value → vm_M → Prop}
    (ih : ∀ pc lv st M, E pc lv st M → n0 ≤ vm_n M → s0 ≤ vm_s M → ∀ (H : Heap) (locs : List Loc) (ls : Array Slot), lv_has ls nL (vm_trl g lv) → vm_In g cA D M H → va_S (fun q => b0 ≤ q) s.heap H locs → W p l e R s m args below meth c H locs (vm_n M - n0) (vm_s M - s0) Q (F0 m pc ls (st.map (vm_tr g))))
    (hup : ∀ pc lv st M, E pc lv st M → vm_up M r)
    (hret : ∀ pc ins (H : Heap) (locs : List Loc) (ls : Array Slot), decode cc pc = .ok (ins, 1) → vm_isr ins r.1 → vm_In g cA D r.2 H → va_S (fun q => b0 ≤ q) s.heap H locs → W p l e R s m args below meth c H locs (vm_n r.2 - n0) (vm_s r.2 - s0) Q (F0 m pc ls (r.1.toList.map (vm_tr g))))
    {pc : Nat} {lv : vm_L} {st : List Value} {M : vm_M}  {a b : Nat} {v : Int} (hdg : decode cc pc = .ok (.ishr, vm_len (.ishr) b)) (hlk : vm_lk own (.ishr) a b v) (h : vm_do O L xs own ini nL r E pc lv st M (.ishr) a b v) (hn : n0 ≤ vm_n M) (hsl : s0 ≤ vm_s M) {H : Heap} {locs : List Loc} {ls : Array Slot} (hl : lv_has ls nL (vm_trl g lv)) (hI : vm_In g cA D M H) (hS : va_S (fun q => b0 ≤ q) s.heap H locs) :
    W p l e R s m args below meth c H locs (vm_n M - n0) (vm_s M - s0) Q (F0 m pc ls (st.map (vm_tr g))) := by
  have hupM : vm_up M r := vm_do_up (fun i as M r' ho => ⟨(hO i as M r' ho).1, (hO i as M r' ho).2.1⟩) hup h
  have hnM : vm_n M ≤ 1099511627776 := Nat.le_trans hupM.1 hnr
  have hDd : va_D (fun q => b0 ≤ q) (vm_w g cA M) := vm_Dd hg hnM
  have hA : ∀ q, s.heap.size ≤ q → (fun q => b0 ≤ q) q := fun q hq => by show b0 ≤ q; omega
  have go : ∀ {pc lv st ls}, E pc lv st M → lv_has ls nL (vm_trl g lv) → W p l e R s m args below meth c H locs (vm_n M - n0) (vm_s M - s0) Q (F0 m pc ls (st.map (vm_tr g))) := fun hE hl => ih _ _ _ _ hE hn hsl _ _ _ hl hI hS
  have hcs : vm_n M - n0 ≤ R.cells := Nat.le_trans (Nat.sub_le_sub_right hupM.1 n0) hRc
  have hss : vm_s M - s0 ≤ R.slots := Nat.le_trans (Nat.sub_le_sub_right hupM.2 s0) hRs
  have hml2 : c.maxLocals = ls.size := hml.trans hl.1.symm
  have arr : ∀ {q t n}, q < vm_n M → vm_sh M q = .inr (t, n) → (vm_w g cA M)[q]? = some (g q, .inl (cA t, n, vm_ct g M q t)) := fun hq hs => by rw [vm_w_at hq, vm_e_arr hs]
  have obj : ∀ {q a}, q < vm_n M → vm_sh M q = .inl a → (vm_w g cA M)[q]? = some (g q, .inr (a, (List.range (vg_N a)).map (fun k => vm_tr g (vm_gv M q (vg_y a k) k)))) := fun hq hs => by rw [vm_w_at hq, vm_e_obj hs]
  have hf1 : 1 ≤ R.frames := by omega
  have hl9 : 900 ≤ R.locals := vm_ar4 hRl
  simp only [vm_do] at h
  obtain ⟨x, y, st', rfl, h⟩ := h
  exact lv_ishr hx hb hdg (go h hl)
set_option maxHeartbeats 1000000 in
set_option maxRecDepth 20000 in
theorem vm_step_ladd {p : Program} {l : Launch} {e : Env} {R : Room} {s : State} {m : MethodId} {args : Array Value} {below : List Frame} {meth : Method} {c : Code} {Q : State → Prop} {cc : ByteArray} {O : Nat → List Value → vm_M → vm_R → Prop} {L : Nat} {xs : Nat → Int32} {own : Nat} {ini : Bool} {nL n0 s0 b0 d : Nat} {g : Nat → Nat} {cA : Nat → ClassId} {D : va_G} {X : State → Prop} {r : vm_R}
    (hx : p.tables.exec = Jvm.exec) (hb : c.code = cc) (hml : c.maxLocals = nL) (hown : s.vm.findClass (vg_O own) = some m.cls) (hts : ∀ w ∈ vt, w.before args s = true) (hK : va_K D vg_cl (vm_tys cA) s) (hN : vm_Nx s) (hX : X s) (hXs : vm_Str b0 g X)
    (hin : ini = true → meth.name = "<init>") (hscr : own = 12 → va_X (g vm_scr) L xs s s.heap ∧ g vm_scr < s.heap.size ∧ ¬ b0 ≤ g vm_scr) (hg : ∀ q, q < 1099511627776 → g q = b0 + q) (hh0 : s.heap.size = b0 + n0) (hnr : vm_n r.2 ≤ 1099511627776)
    (hRc : vm_n r.2 - n0 ≤ R.cells) (hRs : vm_s r.2 - s0 ≤ R.slots) (hRf : d + 9 ≤ R.frames) (hRl : 100 * (d + 9) ≤ R.locals)
    (hO : ∀ i as M r', O i as M r' → vm_n M ≤ vm_n r'.2 ∧ vm_s M ≤ vm_s r'.2 ∧ (i < 203 → vm_n r'.2 ≤ 1099511627776 → vm_Ok l g cA D b0 X d i as M r')) {E : Nat → vm_L → List Value → vm_M → Prop}
    (ih : ∀ pc lv st M, E pc lv st M → n0 ≤ vm_n M → s0 ≤ vm_s M → ∀ (H : Heap) (locs : List Loc) (ls : Array Slot), lv_has ls nL (vm_trl g lv) → vm_In g cA D M H → va_S (fun q => b0 ≤ q) s.heap H locs → W p l e R s m args below meth c H locs (vm_n M - n0) (vm_s M - s0) Q (F0 m pc ls (st.map (vm_tr g))))
    (hup : ∀ pc lv st M, E pc lv st M → vm_up M r)
    (hret : ∀ pc ins (H : Heap) (locs : List Loc) (ls : Array Slot), decode cc pc = .ok (ins, 1) → vm_isr ins r.1 → vm_In g cA D r.2 H → va_S (fun q => b0 ≤ q) s.heap H locs → W p l e R s m args below meth c H locs (vm_n r.2 - n0) (vm_s r.2 - s0) Q (F0 m pc ls (r.1.toList.map (vm_tr g))))
    {pc : Nat} {lv : vm_L} {st : List Value} {M : vm_M}  {a b : Nat} {v : Int} (hdg : decode cc pc = .ok (.ladd, vm_len (.ladd) b)) (hlk : vm_lk own (.ladd) a b v) (h : vm_do O L xs own ini nL r E pc lv st M (.ladd) a b v) (hn : n0 ≤ vm_n M) (hsl : s0 ≤ vm_s M) {H : Heap} {locs : List Loc} {ls : Array Slot} (hl : lv_has ls nL (vm_trl g lv)) (hI : vm_In g cA D M H) (hS : va_S (fun q => b0 ≤ q) s.heap H locs) :
    W p l e R s m args below meth c H locs (vm_n M - n0) (vm_s M - s0) Q (F0 m pc ls (st.map (vm_tr g))) := by
  have hupM : vm_up M r := vm_do_up (fun i as M r' ho => ⟨(hO i as M r' ho).1, (hO i as M r' ho).2.1⟩) hup h
  have hnM : vm_n M ≤ 1099511627776 := Nat.le_trans hupM.1 hnr
  have hDd : va_D (fun q => b0 ≤ q) (vm_w g cA M) := vm_Dd hg hnM
  have hA : ∀ q, s.heap.size ≤ q → (fun q => b0 ≤ q) q := fun q hq => by show b0 ≤ q; omega
  have go : ∀ {pc lv st ls}, E pc lv st M → lv_has ls nL (vm_trl g lv) → W p l e R s m args below meth c H locs (vm_n M - n0) (vm_s M - s0) Q (F0 m pc ls (st.map (vm_tr g))) := fun hE hl => ih _ _ _ _ hE hn hsl _ _ _ hl hI hS
  have hcs : vm_n M - n0 ≤ R.cells := Nat.le_trans (Nat.sub_le_sub_right hupM.1 n0) hRc
  have hss : vm_s M - s0 ≤ R.slots := Nat.le_trans (Nat.sub_le_sub_right hupM.2 s0) hRs
  have hml2 : c.maxLocals = ls.size := hml.trans hl.1.symm
  have arr : ∀ {q t n}, q < vm_n M → vm_sh M q = .inr (t, n) → (vm_w g cA M)[q]? = some (g q, .inl (cA t, n, vm_ct g M q t)) := fun hq hs => by rw [vm_w_at hq, vm_e_arr hs]
  have obj : ∀ {q a}, q < vm_n M → vm_sh M q = .inl a → (vm_w g cA M)[q]? = some (g q, .inr (a, (List.range (vg_N a)).map (fun k => vm_tr g (vm_gv M q (vg_y a k) k)))) := fun hq hs => by rw [vm_w_at hq, vm_e_obj hs]
  have hf1 : 1 ≤ R.frames := by omega
  have hl9 : 900 ≤ R.locals := vm_ar4 hRl
  simp only [vm_do] at h
  obtain ⟨x, y, st', rfl, h⟩ := h
  exact lv_ladd hx hb hdg (go h hl)
set_option maxHeartbeats 1000000 in
set_option maxRecDepth 20000 in
theorem vm_step_lsub {p : Program} {l : Launch} {e : Env} {R : Room} {s : State} {m : MethodId} {args : Array Value} {below : List Frame} {meth : Method} {c : Code} {Q : State → Prop} {cc : ByteArray} {O : Nat → List Value → vm_M → vm_R → Prop} {L : Nat} {xs : Nat → Int32} {own : Nat} {ini : Bool} {nL n0 s0 b0 d : Nat} {g : Nat → Nat} {cA : Nat → ClassId} {D : va_G} {X : State → Prop} {r : vm_R}
    (hx : p.tables.exec = Jvm.exec) (hb : c.code = cc) (hml : c.maxLocals = nL) (hown : s.vm.findClass (vg_O own) = some m.cls) (hts : ∀ w ∈ vt, w.before args s = true) (hK : va_K D vg_cl (vm_tys cA) s) (hN : vm_Nx s) (hX : X s) (hXs : vm_Str b0 g X)
    (hin : ini = true → meth.name = "<init>") (hscr : own = 12 → va_X (g vm_scr) L xs s s.heap ∧ g vm_scr < s.heap.size ∧ ¬ b0 ≤ g vm_scr) (hg : ∀ q, q < 1099511627776 → g q = b0 + q) (hh0 : s.heap.size = b0 + n0) (hnr : vm_n r.2 ≤ 1099511627776)
    (hRc : vm_n r.2 - n0 ≤ R.cells) (hRs : vm_s r.2 - s0 ≤ R.slots) (hRf : d + 9 ≤ R.frames) (hRl : 100 * (d + 9) ≤ R.locals)
    (hO : ∀ i as M r', O i as M r' → vm_n M ≤ vm_n r'.2 ∧ vm_s M ≤ vm_s r'.2 ∧ (i < 203 → vm_n r'.2 ≤ 1099511627776 → vm_Ok l g cA D b0 X d i as M r')) {E : Nat → vm_L → List Value → vm_M → Prop}
    (ih : ∀ pc lv st M, E pc lv st M → n0 ≤ vm_n M → s0 ≤ vm_s M → ∀ (H : Heap) (locs : List Loc) (ls : Array Slot), lv_has ls nL (vm_trl g lv) → vm_In g cA D M H → va_S (fun q => b0 ≤ q) s.heap H locs → W p l e R s m args below meth c H locs (vm_n M - n0) (vm_s M - s0) Q (F0 m pc ls (st.map (vm_tr g))))
    (hup : ∀ pc lv st M, E pc lv st M → vm_up M r)
    (hret : ∀ pc ins (H : Heap) (locs : List Loc) (ls : Array Slot), decode cc pc = .ok (ins, 1) → vm_isr ins r.1 → vm_In g cA D r.2 H → va_S (fun q => b0 ≤ q) s.heap H locs → W p l e R s m args below meth c H locs (vm_n r.2 - n0) (vm_s r.2 - s0) Q (F0 m pc ls (r.1.toList.map (vm_tr g))))
    {pc : Nat} {lv : vm_L} {st : List Value} {M : vm_M}  {a b : Nat} {v : Int} (hdg : decode cc pc = .ok (.lsub, vm_len (.lsub) b)) (hlk : vm_lk own (.lsub) a b v) (h : vm_do O L xs own ini nL r E pc lv st M (.lsub) a b v) (hn : n0 ≤ vm_n M) (hsl : s0 ≤ vm_s M) {H : Heap} {locs : List Loc} {ls : Array Slot} (hl : lv_has ls nL (vm_trl g lv)) (hI : vm_In g cA D M H) (hS : va_S (fun q => b0 ≤ q) s.heap H locs) :
    W p l e R s m args below meth c H locs (vm_n M - n0) (vm_s M - s0) Q (F0 m pc ls (st.map (vm_tr g))) := by
  have hupM : vm_up M r := vm_do_up (fun i as M r' ho => ⟨(hO i as M r' ho).1, (hO i as M r' ho).2.1⟩) hup h
  have hnM : vm_n M ≤ 1099511627776 := Nat.le_trans hupM.1 hnr
  have hDd : va_D (fun q => b0 ≤ q) (vm_w g cA M) := vm_Dd hg hnM
  have hA : ∀ q, s.heap.size ≤ q → (fun q => b0 ≤ q) q := fun q hq => by show b0 ≤ q; omega
  have go : ∀ {pc lv st ls}, E pc lv st M → lv_has ls nL (vm_trl g lv) → W p l e R s m args below meth c H locs (vm_n M - n0) (vm_s M - s0) Q (F0 m pc ls (st.map (vm_tr g))) := fun hE hl => ih _ _ _ _ hE hn hsl _ _ _ hl hI hS
  have hcs : vm_n M - n0 ≤ R.cells := Nat.le_trans (Nat.sub_le_sub_right hupM.1 n0) hRc
  have hss : vm_s M - s0 ≤ R.slots := Nat.le_trans (Nat.sub_le_sub_right hupM.2 s0) hRs
  have hml2 : c.maxLocals = ls.size := hml.trans hl.1.symm
  have arr : ∀ {q t n}, q < vm_n M → vm_sh M q = .inr (t, n) → (vm_w g cA M)[q]? = some (g q, .inl (cA t, n, vm_ct g M q t)) := fun hq hs => by rw [vm_w_at hq, vm_e_arr hs]
  have obj : ∀ {q a}, q < vm_n M → vm_sh M q = .inl a → (vm_w g cA M)[q]? = some (g q, .inr (a, (List.range (vg_N a)).map (fun k => vm_tr g (vm_gv M q (vg_y a k) k)))) := fun hq hs => by rw [vm_w_at hq, vm_e_obj hs]
  have hf1 : 1 ≤ R.frames := by omega
  have hl9 : 900 ≤ R.locals := vm_ar4 hRl
  simp only [vm_do] at h
  obtain ⟨x, y, st', rfl, h⟩ := h
  exact lv_lsub hx hb hdg (go h hl)
set_option maxHeartbeats 1000000 in
set_option maxRecDepth 20000 in
theorem vm_step_lmul {p : Program} {l : Launch} {e : Env} {R : Room} {s : State} {m : MethodId} {args : Array Value} {below : List Frame} {meth : Method} {c : Code} {Q : State → Prop} {cc : ByteArray} {O : Nat → List Value → vm_M → vm_R → Prop} {L : Nat} {xs : Nat → Int32} {own : Nat} {ini : Bool} {nL n0 s0 b0 d : Nat} {g : Nat → Nat} {cA : Nat → ClassId} {D : va_G} {X : State → Prop} {r : vm_R}
    (hx : p.tables.exec = Jvm.exec) (hb : c.code = cc) (hml : c.maxLocals = nL) (hown : s.vm.findClass (vg_O own) = some m.cls) (hts : ∀ w ∈ vt, w.before args s = true) (hK : va_K D vg_cl (vm_tys cA) s) (hN : vm_Nx s) (hX : X s) (hXs : vm_Str b0 g X)
    (hin : ini = true → meth.name = "<init>") (hscr : own = 12 → va_X (g vm_scr) L xs s s.heap ∧ g vm_scr < s.heap.size ∧ ¬ b0 ≤ g vm_scr) (hg : ∀ q, q < 1099511627776 → g q = b0 + q) (hh0 : s.heap.size = b0 + n0) (hnr : vm_n r.2 ≤ 1099511627776)
    (hRc : vm_n r.2 - n0 ≤ R.cells) (hRs : vm_s r.2 - s0 ≤ R.slots) (hRf : d + 9 ≤ R.frames) (hRl : 100 * (d + 9) ≤ R.locals)
    (hO : ∀ i as M r', O i as M r' → vm_n M ≤ vm_n r'.2 ∧ vm_s M ≤ vm_s r'.2 ∧ (i < 203 → vm_n r'.2 ≤ 1099511627776 → vm_Ok l g cA D b0 X d i as M r')) {E : Nat → vm_L → List Value → vm_M → Prop}
    (ih : ∀ pc lv st M, E pc lv st M → n0 ≤ vm_n M → s0 ≤ vm_s M → ∀ (H : Heap) (locs : List Loc) (ls : Array Slot), lv_has ls nL (vm_trl g lv) → vm_In g cA D M H → va_S (fun q => b0 ≤ q) s.heap H locs → W p l e R s m args below meth c H locs (vm_n M - n0) (vm_s M - s0) Q (F0 m pc ls (st.map (vm_tr g))))
    (hup : ∀ pc lv st M, E pc lv st M → vm_up M r)
    (hret : ∀ pc ins (H : Heap) (locs : List Loc) (ls : Array Slot), decode cc pc = .ok (ins, 1) → vm_isr ins r.1 → vm_In g cA D r.2 H → va_S (fun q => b0 ≤ q) s.heap H locs → W p l e R s m args below meth c H locs (vm_n r.2 - n0) (vm_s r.2 - s0) Q (F0 m pc ls (r.1.toList.map (vm_tr g))))
    {pc : Nat} {lv : vm_L} {st : List Value} {M : vm_M}  {a b : Nat} {v : Int} (hdg : decode cc pc = .ok (.lmul, vm_len (.lmul) b)) (hlk : vm_lk own (.lmul) a b v) (h : vm_do O L xs own ini nL r E pc lv st M (.lmul) a b v) (hn : n0 ≤ vm_n M) (hsl : s0 ≤ vm_s M) {H : Heap} {locs : List Loc} {ls : Array Slot} (hl : lv_has ls nL (vm_trl g lv)) (hI : vm_In g cA D M H) (hS : va_S (fun q => b0 ≤ q) s.heap H locs) :
    W p l e R s m args below meth c H locs (vm_n M - n0) (vm_s M - s0) Q (F0 m pc ls (st.map (vm_tr g))) := by
  have hupM : vm_up M r := vm_do_up (fun i as M r' ho => ⟨(hO i as M r' ho).1, (hO i as M r' ho).2.1⟩) hup h
  have hnM : vm_n M ≤ 1099511627776 := Nat.le_trans hupM.1 hnr
  have hDd : va_D (fun q => b0 ≤ q) (vm_w g cA M) := vm_Dd hg hnM
  have hA : ∀ q, s.heap.size ≤ q → (fun q => b0 ≤ q) q := fun q hq => by show b0 ≤ q; omega
  have go : ∀ {pc lv st ls}, E pc lv st M → lv_has ls nL (vm_trl g lv) → W p l e R s m args below meth c H locs (vm_n M - n0) (vm_s M - s0) Q (F0 m pc ls (st.map (vm_tr g))) := fun hE hl => ih _ _ _ _ hE hn hsl _ _ _ hl hI hS
  have hcs : vm_n M - n0 ≤ R.cells := Nat.le_trans (Nat.sub_le_sub_right hupM.1 n0) hRc
  have hss : vm_s M - s0 ≤ R.slots := Nat.le_trans (Nat.sub_le_sub_right hupM.2 s0) hRs
  have hml2 : c.maxLocals = ls.size := hml.trans hl.1.symm
  have arr : ∀ {q t n}, q < vm_n M → vm_sh M q = .inr (t, n) → (vm_w g cA M)[q]? = some (g q, .inl (cA t, n, vm_ct g M q t)) := fun hq hs => by rw [vm_w_at hq, vm_e_arr hs]
  have obj : ∀ {q a}, q < vm_n M → vm_sh M q = .inl a → (vm_w g cA M)[q]? = some (g q, .inr (a, (List.range (vg_N a)).map (fun k => vm_tr g (vm_gv M q (vg_y a k) k)))) := fun hq hs => by rw [vm_w_at hq, vm_e_obj hs]
  have hf1 : 1 ≤ R.frames := by omega
  have hl9 : 900 ≤ R.locals := vm_ar4 hRl
  simp only [vm_do] at h
  obtain ⟨x, y, st', rfl, h⟩ := h
  exact lv_lmul hx hb hdg (go h hl)
set_option maxHeartbeats 1000000 in
set_option maxRecDepth 20000 in
theorem vm_step_land {p : Program} {l : Launch} {e : Env} {R : Room} {s : State} {m : MethodId} {args : Array Value} {below : List Frame} {meth : Method} {c : Code} {Q : State → Prop} {cc : ByteArray} {O : Nat → List Value → vm_M → vm_R → Prop} {L : Nat} {xs : Nat → Int32} {own : Nat} {ini : Bool} {nL n0 s0 b0 d : Nat} {g : Nat → Nat} {cA : Nat → ClassId} {D : va_G} {X : State → Prop} {r : vm_R}
    (hx : p.tables.exec = Jvm.exec) (hb : c.code = cc) (hml : c.maxLocals = nL) (hown : s.vm.findClass (vg_O own) = some m.cls) (hts : ∀ w ∈ vt, w.before args s = true) (hK : va_K D vg_cl (vm_tys cA) s) (hN : vm_Nx s) (hX : X s) (hXs : vm_Str b0 g X)
    (hin : ini = true → meth.name = "<init>") (hscr : own = 12 → va_X (g vm_scr) L xs s s.heap ∧ g vm_scr < s.heap.size ∧ ¬ b0 ≤ g vm_scr) (hg : ∀ q, q < 1099511627776 → g q = b0 + q) (hh0 : s.heap.size = b0 + n0) (hnr : vm_n r.2 ≤ 1099511627776)
    (hRc : vm_n r.2 - n0 ≤ R.cells) (hRs : vm_s r.2 - s0 ≤ R.slots) (hRf : d + 9 ≤ R.frames) (hRl : 100 * (d + 9) ≤ R.locals)
    (hO : ∀ i as M r', O i as M r' → vm_n M ≤ vm_n r'.2 ∧ vm_s M ≤ vm_s r'.2 ∧ (i < 203 → vm_n r'.2 ≤ 1099511627776 → vm_Ok l g cA D b0 X d i as M r')) {E : Nat → vm_L → List Value → vm_M → Prop}
    (ih : ∀ pc lv st M, E pc lv st M → n0 ≤ vm_n M → s0 ≤ vm_s M → ∀ (H : Heap) (locs : List Loc) (ls : Array Slot), lv_has ls nL (vm_trl g lv) → vm_In g cA D M H → va_S (fun q => b0 ≤ q) s.heap H locs → W p l e R s m args below meth c H locs (vm_n M - n0) (vm_s M - s0) Q (F0 m pc ls (st.map (vm_tr g))))
    (hup : ∀ pc lv st M, E pc lv st M → vm_up M r)
    (hret : ∀ pc ins (H : Heap) (locs : List Loc) (ls : Array Slot), decode cc pc = .ok (ins, 1) → vm_isr ins r.1 → vm_In g cA D r.2 H → va_S (fun q => b0 ≤ q) s.heap H locs → W p l e R s m args below meth c H locs (vm_n r.2 - n0) (vm_s r.2 - s0) Q (F0 m pc ls (r.1.toList.map (vm_tr g))))
    {pc : Nat} {lv : vm_L} {st : List Value} {M : vm_M}  {a b : Nat} {v : Int} (hdg : decode cc pc = .ok (.land, vm_len (.land) b)) (hlk : vm_lk own (.land) a b v) (h : vm_do O L xs own ini nL r E pc lv st M (.land) a b v) (hn : n0 ≤ vm_n M) (hsl : s0 ≤ vm_s M) {H : Heap} {locs : List Loc} {ls : Array Slot} (hl : lv_has ls nL (vm_trl g lv)) (hI : vm_In g cA D M H) (hS : va_S (fun q => b0 ≤ q) s.heap H locs) :
    W p l e R s m args below meth c H locs (vm_n M - n0) (vm_s M - s0) Q (F0 m pc ls (st.map (vm_tr g))) := by
  have hupM : vm_up M r := vm_do_up (fun i as M r' ho => ⟨(hO i as M r' ho).1, (hO i as M r' ho).2.1⟩) hup h
  have hnM : vm_n M ≤ 1099511627776 := Nat.le_trans hupM.1 hnr
  have hDd : va_D (fun q => b0 ≤ q) (vm_w g cA M) := vm_Dd hg hnM
  have hA : ∀ q, s.heap.size ≤ q → (fun q => b0 ≤ q) q := fun q hq => by show b0 ≤ q; omega
  have go : ∀ {pc lv st ls}, E pc lv st M → lv_has ls nL (vm_trl g lv) → W p l e R s m args below meth c H locs (vm_n M - n0) (vm_s M - s0) Q (F0 m pc ls (st.map (vm_tr g))) := fun hE hl => ih _ _ _ _ hE hn hsl _ _ _ hl hI hS
  have hcs : vm_n M - n0 ≤ R.cells := Nat.le_trans (Nat.sub_le_sub_right hupM.1 n0) hRc
  have hss : vm_s M - s0 ≤ R.slots := Nat.le_trans (Nat.sub_le_sub_right hupM.2 s0) hRs
  have hml2 : c.maxLocals = ls.size := hml.trans hl.1.symm
  have arr : ∀ {q t n}, q < vm_n M → vm_sh M q = .inr (t, n) → (vm_w g cA M)[q]? = some (g q, .inl (cA t, n, vm_ct g M q t)) := fun hq hs => by rw [vm_w_at hq, vm_e_arr hs]
  have obj : ∀ {q a}, q < vm_n M → vm_sh M q = .inl a → (vm_w g cA M)[q]? = some (g q, .inr (a, (List.range (vg_N a)).map (fun k => vm_tr g (vm_gv M q (vg_y a k) k)))) := fun hq hs => by rw [vm_w_at hq, vm_e_obj hs]
  have hf1 : 1 ≤ R.frames := by omega
  have hl9 : 900 ≤ R.locals := vm_ar4 hRl
  simp only [vm_do] at h
  obtain ⟨x, y, st', rfl, h⟩ := h
  exact lv_land hx hb hdg (go h hl)
set_option maxHeartbeats 1000000 in
set_option maxRecDepth 20000 in
theorem vm_step_lor {p : Program} {l : Launch} {e : Env} {R : Room} {s : State} {m : MethodId} {args : Array Value} {below : List Frame} {meth : Method} {c : Code} {Q : State → Prop} {cc : ByteArray} {O : Nat → List Value → vm_M → vm_R → Prop} {L : Nat} {xs : Nat → Int32} {own : Nat} {ini : Bool} {nL n0 s0 b0 d : Nat} {g : Nat → Nat} {cA : Nat → ClassId} {D : va_G} {X : State → Prop} {r : vm_R}
    (hx : p.tables.exec = Jvm.exec) (hb : c.code = cc) (hml : c.maxLocals = nL) (hown : s.vm.findClass (vg_O own) = some m.cls) (hts : ∀ w ∈ vt, w.before args s = true) (hK : va_K D vg_cl (vm_tys cA) s) (hN : vm_Nx s) (hX : X s) (hXs : vm_Str b0 g X)
    (hin : ini = true → meth.name = "<init>") (hscr : own = 12 → va_X (g vm_scr) L xs s s.heap ∧ g vm_scr < s.heap.size ∧ ¬ b0 ≤ g vm_scr) (hg : ∀ q, q < 1099511627776 → g q = b0 + q) (hh0 : s.heap.size = b0 + n0) (hnr : vm_n r.2 ≤ 1099511627776)
    (hRc : vm_n r.2 - n0 ≤ R.cells) (hRs : vm_s r.2 - s0 ≤ R.slots) (hRf : d + 9 ≤ R.frames) (hRl : 100 * (d + 9) ≤ R.locals)
    (hO : ∀ i as M r', O i as M r' → vm_n M ≤ vm_n r'.2 ∧ vm_s M ≤ vm_s r'.2 ∧ (i < 203 → vm_n r'.2 ≤ 1099511627776 → vm_Ok l g cA D b0 X d i as M r')) {E : Nat → vm_L → List Value → vm_M → Prop}
    (ih : ∀ pc lv st M, E pc lv st M → n0 ≤ vm_n M → s0 ≤ vm_s M → ∀ (H : Heap) (locs : List Loc) (ls : Array Slot), lv_has ls nL (vm_trl g lv) → vm_In g cA D M H → va_S (fun q => b0 ≤ q) s.heap H locs → W p l e R s m args below meth c H locs (vm_n M - n0) (vm_s M - s0) Q (F0 m pc ls (st.map (vm_tr g))))
    (hup : ∀ pc lv st M, E pc lv st M → vm_up M r)
    (hret : ∀ pc ins (H : Heap) (locs : List Loc) (ls : Array Slot), decode cc pc = .ok (ins, 1) → vm_isr ins r.1 → vm_In g cA D r.2 H → va_S (fun q => b0 ≤ q) s.heap H locs → W p l e R s m args below meth c H locs (vm_n r.2 - n0) (vm_s r.2 - s0) Q (F0 m pc ls (r.1.toList.map (vm_tr g))))
    {pc : Nat} {lv : vm_L} {st : List Value} {M : vm_M}  {a b : Nat} {v : Int} (hdg : decode cc pc = .ok (.lor, vm_len (.lor) b)) (hlk : vm_lk own (.lor) a b v) (h : vm_do O L xs own ini nL r E pc lv st M (.lor) a b v) (hn : n0 ≤ vm_n M) (hsl : s0 ≤ vm_s M) {H : Heap} {locs : List Loc} {ls : Array Slot} (hl : lv_has ls nL (vm_trl g lv)) (hI : vm_In g cA D M H) (hS : va_S (fun q => b0 ≤ q) s.heap H locs) :
    W p l e R s m args below meth c H locs (vm_n M - n0) (vm_s M - s0) Q (F0 m pc ls (st.map (vm_tr g))) := by
  have hupM : vm_up M r := vm_do_up (fun i as M r' ho => ⟨(hO i as M r' ho).1, (hO i as M r' ho).2.1⟩) hup h
  have hnM : vm_n M ≤ 1099511627776 := Nat.le_trans hupM.1 hnr
  have hDd : va_D (fun q => b0 ≤ q) (vm_w g cA M) := vm_Dd hg hnM
  have hA : ∀ q, s.heap.size ≤ q → (fun q => b0 ≤ q) q := fun q hq => by show b0 ≤ q; omega
  have go : ∀ {pc lv st ls}, E pc lv st M → lv_has ls nL (vm_trl g lv) → W p l e R s m args below meth c H locs (vm_n M - n0) (vm_s M - s0) Q (F0 m pc ls (st.map (vm_tr g))) := fun hE hl => ih _ _ _ _ hE hn hsl _ _ _ hl hI hS
  have hcs : vm_n M - n0 ≤ R.cells := Nat.le_trans (Nat.sub_le_sub_right hupM.1 n0) hRc
  have hss : vm_s M - s0 ≤ R.slots := Nat.le_trans (Nat.sub_le_sub_right hupM.2 s0) hRs
  have hml2 : c.maxLocals = ls.size := hml.trans hl.1.symm
  have arr : ∀ {q t n}, q < vm_n M → vm_sh M q = .inr (t, n) → (vm_w g cA M)[q]? = some (g q, .inl (cA t, n, vm_ct g M q t)) := fun hq hs => by rw [vm_w_at hq, vm_e_arr hs]
  have obj : ∀ {q a}, q < vm_n M → vm_sh M q = .inl a → (vm_w g cA M)[q]? = some (g q, .inr (a, (List.range (vg_N a)).map (fun k => vm_tr g (vm_gv M q (vg_y a k) k)))) := fun hq hs => by rw [vm_w_at hq, vm_e_obj hs]
  have hf1 : 1 ≤ R.frames := by omega
  have hl9 : 900 ≤ R.locals := vm_ar4 hRl
  simp only [vm_do] at h
  obtain ⟨x, y, st', rfl, h⟩ := h
  exact lv_lor hx hb hdg (go h hl)
set_option maxHeartbeats 1000000 in
set_option maxRecDepth 20000 in
theorem vm_step_iushr {p : Program} {l : Launch} {e : Env} {R : Room} {s : State} {m : MethodId} {args : Array Value} {below : List Frame} {meth : Method} {c : Code} {Q : State → Prop} {cc : ByteArray} {O : Nat → List Value → vm_M → vm_R → Prop} {L : Nat} {xs : Nat → Int32} {own : Nat} {ini : Bool} {nL n0 s0 b0 d : Nat} {g : Nat → Nat} {cA : Nat → ClassId} {D : va_G} {X : State → Prop} {r : vm_R}
    (hx : p.tables.exec = Jvm.exec) (hb : c.code = cc) (hml : c.maxLocals = nL) (hown : s.vm.findClass (vg_O own) = some m.cls) (hts : ∀ w ∈ vt, w.before args s = true) (hK : va_K D vg_cl (vm_tys cA) s) (hN : vm_Nx s) (hX : X s) (hXs : vm_Str b0 g X)
    (hin : ini = true → meth.name = "<init>") (hscr : own = 12 → va_X (g vm_scr) L xs s s.heap ∧ g vm_scr < s.heap.size ∧ ¬ b0 ≤ g vm_scr) (hg : ∀ q, q < 1099511627776 → g q = b0 + q) (hh0 : s.heap.size = b0 + n0) (hnr : vm_n r.2 ≤ 1099511627776)
    (hRc : vm_n r.2 - n0 ≤ R.cells) (hRs : vm_s r.2 - s0 ≤ R.slots) (hRf : d + 9 ≤ R.frames) (hRl : 100 * (d + 9) ≤ R.locals)
    (hO : ∀ i as M r', O i as M r' → vm_n M ≤ vm_n r'.2 ∧ vm_s M ≤ vm_s r'.2 ∧ (i < 203 → vm_n r'.2 ≤ 1099511627776 → vm_Ok l g cA D b0 X d i as M r')) {E : Nat → vm_L → List Value → vm_M → Prop}
    (ih : ∀ pc lv st M, E pc lv st M → n0 ≤ vm_n M → s0 ≤ vm_s M → ∀ (H : Heap) (locs : List Loc) (ls : Array Slot), lv_has ls nL (vm_trl g lv) → vm_In g cA D M H → va_S (fun q => b0 ≤ q) s.heap H locs → W p l e R s m args below meth c H locs (vm_n M - n0) (vm_s M - s0) Q (F0 m pc ls (st.map (vm_tr g))))
    (hup : ∀ pc lv st M, E pc lv st M → vm_up M r)
    (hret : ∀ pc ins (H : Heap) (locs : List Loc) (ls : Array Slot), decode cc pc = .ok (ins, 1) → vm_isr ins r.1 → vm_In g cA D r.2 H → va_S (fun q => b0 ≤ q) s.heap H locs → W p l e R s m args below meth c H locs (vm_n r.2 - n0) (vm_s r.2 - s0) Q (F0 m pc ls (r.1.toList.map (vm_tr g))))
    {pc : Nat} {lv : vm_L} {st : List Value} {M : vm_M}  {a b : Nat} {v : Int} (hdg : decode cc pc = .ok (.iushr, vm_len (.iushr) b)) (hlk : vm_lk own (.iushr) a b v) (h : vm_do O L xs own ini nL r E pc lv st M (.iushr) a b v) (hn : n0 ≤ vm_n M) (hsl : s0 ≤ vm_s M) {H : Heap} {locs : List Loc} {ls : Array Slot} (hl : lv_has ls nL (vm_trl g lv)) (hI : vm_In g cA D M H) (hS : va_S (fun q => b0 ≤ q) s.heap H locs) :
    W p l e R s m args below meth c H locs (vm_n M - n0) (vm_s M - s0) Q (F0 m pc ls (st.map (vm_tr g))) := by
  have hupM : vm_up M r := vm_do_up (fun i as M r' ho => ⟨(hO i as M r' ho).1, (hO i as M r' ho).2.1⟩) hup h
  have hnM : vm_n M ≤ 1099511627776 := Nat.le_trans hupM.1 hnr
  have hDd : va_D (fun q => b0 ≤ q) (vm_w g cA M) := vm_Dd hg hnM
  have hA : ∀ q, s.heap.size ≤ q → (fun q => b0 ≤ q) q := fun q hq => by show b0 ≤ q; omega
  have go : ∀ {pc lv st ls}, E pc lv st M → lv_has ls nL (vm_trl g lv) → W p l e R s m args below meth c H locs (vm_n M - n0) (vm_s M - s0) Q (F0 m pc ls (st.map (vm_tr g))) := fun hE hl => ih _ _ _ _ hE hn hsl _ _ _ hl hI hS
  have hcs : vm_n M - n0 ≤ R.cells := Nat.le_trans (Nat.sub_le_sub_right hupM.1 n0) hRc
  have hss : vm_s M - s0 ≤ R.slots := Nat.le_trans (Nat.sub_le_sub_right hupM.2 s0) hRs
  have hml2 : c.maxLocals = ls.size := hml.trans hl.1.symm
  have arr : ∀ {q t n}, q < vm_n M → vm_sh M q = .inr (t, n) → (vm_w g cA M)[q]? = some (g q, .inl (cA t, n, vm_ct g M q t)) := fun hq hs => by rw [vm_w_at hq, vm_e_arr hs]
  have obj : ∀ {q a}, q < vm_n M → vm_sh M q = .inl a → (vm_w g cA M)[q]? = some (g q, .inr (a, (List.range (vg_N a)).map (fun k => vm_tr g (vm_gv M q (vg_y a k) k)))) := fun hq hs => by rw [vm_w_at hq, vm_e_obj hs]
  have hf1 : 1 ≤ R.frames := by omega
  have hl9 : 900 ≤ R.locals := vm_ar4 hRl
  simp only [vm_do] at h
  obtain ⟨x, y, st', rfl, h⟩ := h
  exact lv_iushr hx hb hdg rfl (go h hl)
set_option maxHeartbeats 1000000 in
set_option maxRecDepth 20000 in
theorem vm_step_lshl {p : Program} {l : Launch} {e : Env} {R : Room} {s : State} {m : MethodId} {args : Array Value} {below : List Frame} {meth : Method} {c : Code} {Q : State → Prop} {cc : ByteArray} {O : Nat → List Value → vm_M → vm_R → Prop} {L : Nat} {xs : Nat → Int32} {own : Nat} {ini : Bool} {nL n0 s0 b0 d : Nat} {g : Nat → Nat} {cA : Nat → ClassId} {D : va_G} {X : State → Prop} {r : vm_R}
    (hx : p.tables.exec = Jvm.exec) (hb : c.code = cc) (hml : c.maxLocals = nL) (hown : s.vm.findClass (vg_O own) = some m.cls) (hts : ∀ w ∈ vt, w.before args s = true) (hK : va_K D vg_cl (vm_tys cA) s) (hN : vm_Nx s) (hX : X s) (hXs : vm_Str b0 g X)
    (hin : ini = true → meth.name = "<init>") (hscr : own = 12 → va_X (g vm_scr) L xs s s.heap ∧ g vm_scr < s.heap.size ∧ ¬ b0 ≤ g vm_scr) (hg : ∀ q, q < 1099511627776 → g q = b0 + q) (hh0 : s.heap.size = b0 + n0) (hnr : vm_n r.2 ≤ 1099511627776)
    (hRc : vm_n r.2 - n0 ≤ R.cells) (hRs : vm_s r.2 - s0 ≤ R.slots) (hRf : d + 9 ≤ R.frames) (hRl : 100 * (d + 9) ≤ R.locals)
    (hO : ∀ i as M r', O i as M r' → vm_n M ≤ vm_n r'.2 ∧ vm_s M ≤ vm_s r'.2 ∧ (i < 203 → vm_n r'.2 ≤ 1099511627776 → vm_Ok l g cA D b0 X d i as M r')) {E : Nat → vm_L → List Value → vm_M → Prop}
    (ih : ∀ pc lv st M, E pc lv st M → n0 ≤ vm_n M → s0 ≤ vm_s M → ∀ (H : Heap) (locs : List Loc) (ls : Array Slot), lv_has ls nL (vm_trl g lv) → vm_In g cA D M H → va_S (fun q => b0 ≤ q) s.heap H locs → W p l e R s m args below meth c H locs (vm_n M - n0) (vm_s M - s0) Q (F0 m pc ls (st.map (vm_tr g))))
    (hup : ∀ pc lv st M, E pc lv st M → vm_up M r)
    (hret : ∀ pc ins (H : Heap) (locs : List Loc) (ls : Array Slot), decode cc pc = .ok (ins, 1) → vm_isr ins r.1 → vm_In g cA D r.2 H → va_S (fun q => b0 ≤ q) s.heap H locs → W p l e R s m args below meth c H locs (vm_n r.2 - n0) (vm_s r.2 - s0) Q (F0 m pc ls (r.1.toList.map (vm_tr g))))
    {pc : Nat} {lv : vm_L} {st : List Value} {M : vm_M}  {a b : Nat} {v : Int} (hdg : decode cc pc = .ok (.lshl, vm_len (.lshl) b)) (hlk : vm_lk own (.lshl) a b v) (h : vm_do O L xs own ini nL r E pc lv st M (.lshl) a b v) (hn : n0 ≤ vm_n M) (hsl : s0 ≤ vm_s M) {H : Heap} {locs : List Loc} {ls : Array Slot} (hl : lv_has ls nL (vm_trl g lv)) (hI : vm_In g cA D M H) (hS : va_S (fun q => b0 ≤ q) s.heap H locs) :
    W p l e R s m args below meth c H locs (vm_n M - n0) (vm_s M - s0) Q (F0 m pc ls (st.map (vm_tr g))) := by
  have hupM : vm_up M r := vm_do_up (fun i as M r' ho => ⟨(hO i as M r' ho).1, (hO i as M r' ho).2.1⟩) hup h
  have hnM : vm_n M ≤ 1099511627776 := Nat.le_trans hupM.1 hnr
  have hDd : va_D (fun q => b0 ≤ q) (vm_w g cA M) := vm_Dd hg hnM
  have hA : ∀ q, s.heap.size ≤ q → (fun q => b0 ≤ q) q := fun q hq => by show b0 ≤ q; omega
  have go : ∀ {pc lv st ls}, E pc lv st M → lv_has ls nL (vm_trl g lv) → W p l e R s m args below meth c H locs (vm_n M - n0) (vm_s M - s0) Q (F0 m pc ls (st.map (vm_tr g))) := fun hE hl => ih _ _ _ _ hE hn hsl _ _ _ hl hI hS
  have hcs : vm_n M - n0 ≤ R.cells := Nat.le_trans (Nat.sub_le_sub_right hupM.1 n0) hRc
  have hss : vm_s M - s0 ≤ R.slots := Nat.le_trans (Nat.sub_le_sub_right hupM.2 s0) hRs
  have hml2 : c.maxLocals = ls.size := hml.trans hl.1.symm
  have arr : ∀ {q t n}, q < vm_n M → vm_sh M q = .inr (t, n) → (vm_w g cA M)[q]? = some (g q, .inl (cA t, n, vm_ct g M q t)) := fun hq hs => by rw [vm_w_at hq, vm_e_arr hs]
  have obj : ∀ {q a}, q < vm_n M → vm_sh M q = .inl a → (vm_w g cA M)[q]? = some (g q, .inr (a, (List.range (vg_N a)).map (fun k => vm_tr g (vm_gv M q (vg_y a k) k)))) := fun hq hs => by rw [vm_w_at hq, vm_e_obj hs]
  have hf1 : 1 ≤ R.frames := by omega
  have hl9 : 900 ≤ R.locals := vm_ar4 hRl
  simp only [vm_do] at h
  obtain ⟨x, y, st', rfl, h⟩ := h
  exact lv_lshl hx hb hdg rfl (go h hl)
set_option maxHeartbeats 1000000 in
set_option maxRecDepth 20000 in
theorem vm_step_lshr {p : Program} {l : Launch} {e : Env} {R : Room} {s : State} {m : MethodId} {args : Array Value} {below : List Frame} {meth : Method} {c : Code} {Q : State → Prop} {cc : ByteArray} {O : Nat → List Value → vm_M → vm_R → Prop} {L : Nat} {xs : Nat → Int32} {own : Nat} {ini : Bool} {nL n0 s0 b0 d : Nat} {g : Nat → Nat} {cA : Nat → ClassId} {D : va_G} {X : State → Prop} {r : vm_R}
    (hx : p.tables.exec = Jvm.exec) (hb : c.code = cc) (hml : c.maxLocals = nL) (hown : s.vm.findClass (vg_O own) = some m.cls) (hts : ∀ w ∈ vt, w.before args s = true) (hK : va_K D vg_cl (vm_tys cA) s) (hN : vm_Nx s) (hX : X s) (hXs : vm_Str b0 g X)
    (hin : ini = true → meth.name = "<init>") (hscr : own = 12 → va_X (g vm_scr) L xs s s.heap ∧ g vm_scr < s.heap.size ∧ ¬ b0 ≤ g vm_scr) (hg : ∀ q, q < 1099511627776 → g q = b0 + q) (hh0 : s.heap.size = b0 + n0) (hnr : vm_n r.2 ≤ 1099511627776)
    (hRc : vm_n r.2 - n0 ≤ R.cells) (hRs : vm_s r.2 - s0 ≤ R.slots) (hRf : d + 9 ≤ R.frames) (hRl : 100 * (d + 9) ≤ R.locals)
    (hO : ∀ i as M r', O i as M r' → vm_n M ≤ vm_n r'.2 ∧ vm_s M ≤ vm_s r'.2 ∧ (i < 203 → vm_n r'.2 ≤ 1099511627776 → vm_Ok l g cA D b0 X d i as M r')) {E : Nat → vm_L → List Value → vm_M → Prop}
    (ih : ∀ pc lv st M, E pc lv st M → n0 ≤ vm_n M → s0 ≤ vm_s M → ∀ (H : Heap) (locs : List Loc) (ls : Array Slot), lv_has ls nL (vm_trl g lv) → vm_In g cA D M H → va_S (fun q => b0 ≤ q) s.heap H locs → W p l e R s m args below meth c H locs (vm_n M - n0) (vm_s M - s0) Q (F0 m pc ls (st.map (vm_tr g))))
    (hup : ∀ pc lv st M, E pc lv st M → vm_up M r)
    (hret : ∀ pc ins (H : Heap) (locs : List Loc) (ls : Array Slot), decode cc pc = .ok (ins, 1) → vm_isr ins r.1 → vm_In g cA D r.2 H → va_S (fun q => b0 ≤ q) s.heap H locs → W p l e R s m args below meth c H locs (vm_n r.2 - n0) (vm_s r.2 - s0) Q (F0 m pc ls (r.1.toList.map (vm_tr g))))
    {pc : Nat} {lv : vm_L} {st : List Value} {M : vm_M}  {a b : Nat} {v : Int} (hdg : decode cc pc = .ok (.lshr, vm_len (.lshr) b)) (hlk : vm_lk own (.lshr) a b v) (h : vm_do O L xs own ini nL r E pc lv st M (.lshr) a b v) (hn : n0 ≤ vm_n M) (hsl : s0 ≤ vm_s M) {H : Heap} {locs : List Loc} {ls : Array Slot} (hl : lv_has ls nL (vm_trl g lv)) (hI : vm_In g cA D M H) (hS : va_S (fun q => b0 ≤ q) s.heap H locs) :
    W p l e R s m args below meth c H locs (vm_n M - n0) (vm_s M - s0) Q (F0 m pc ls (st.map (vm_tr g))) := by
  have hupM : vm_up M r := vm_do_up (fun i as M r' ho => ⟨(hO i as M r' ho).1, (hO i as M r' ho).2.1⟩) hup h
  have hnM : vm_n M ≤ 1099511627776 := Nat.le_trans hupM.1 hnr
  have hDd : va_D (fun q => b0 ≤ q) (vm_w g cA M) := vm_Dd hg hnM
  have hA : ∀ q, s.heap.size ≤ q → (fun q => b0 ≤ q) q := fun q hq => by show b0 ≤ q; omega
  have go : ∀ {pc lv st ls}, E pc lv st M → lv_has ls nL (vm_trl g lv) → W p l e R s m args below meth c H locs (vm_n M - n0) (vm_s M - s0) Q (F0 m pc ls (st.map (vm_tr g))) := fun hE hl => ih _ _ _ _ hE hn hsl _ _ _ hl hI hS
  have hcs : vm_n M - n0 ≤ R.cells := Nat.le_trans (Nat.sub_le_sub_right hupM.1 n0) hRc
  have hss : vm_s M - s0 ≤ R.slots := Nat.le_trans (Nat.sub_le_sub_right hupM.2 s0) hRs
  have hml2 : c.maxLocals = ls.size := hml.trans hl.1.symm
  have arr : ∀ {q t n}, q < vm_n M → vm_sh M q = .inr (t, n) → (vm_w g cA M)[q]? = some (g q, .inl (cA t, n, vm_ct g M q t)) := fun hq hs => by rw [vm_w_at hq, vm_e_arr hs]
  have obj : ∀ {q a}, q < vm_n M → vm_sh M q = .inl a → (vm_w g cA M)[q]? = some (g q, .inr (a, (List.range (vg_N a)).map (fun k => vm_tr g (vm_gv M q (vg_y a k) k)))) := fun hq hs => by rw [vm_w_at hq, vm_e_obj hs]
  have hf1 : 1 ≤ R.frames := by omega
  have hl9 : 900 ≤ R.locals := vm_ar4 hRl
  simp only [vm_do] at h
  obtain ⟨x, y, st', rfl, h⟩ := h
  exact lv_lshr hx hb hdg rfl (go h hl)
set_option maxHeartbeats 1000000 in
set_option maxRecDepth 20000 in
theorem vm_step_idiv {p : Program} {l : Launch} {e : Env} {R : Room} {s : State} {m : MethodId} {args : Array Value} {below : List Frame} {meth : Method} {c : Code} {Q : State → Prop} {cc : ByteArray} {O : Nat → List Value → vm_M → vm_R → Prop} {L : Nat} {xs : Nat → Int32} {own : Nat} {ini : Bool} {nL n0 s0 b0 d : Nat} {g : Nat → Nat} {cA : Nat → ClassId} {D : va_G} {X : State → Prop} {r : vm_R}
    (hx : p.tables.exec = Jvm.exec) (hb : c.code = cc) (hml : c.maxLocals = nL) (hown : s.vm.findClass (vg_O own) = some m.cls) (hts : ∀ w ∈ vt, w.before args s = true) (hK : va_K D vg_cl (vm_tys cA) s) (hN : vm_Nx s) (hX : X s) (hXs : vm_Str b0 g X)
    (hin : ini = true → meth.name = "<init>") (hscr : own = 12 → va_X (g vm_scr) L xs s s.heap ∧ g vm_scr < s.heap.size ∧ ¬ b0 ≤ g vm_scr) (hg : ∀ q, q < 1099511627776 → g q = b0 + q) (hh0 : s.heap.size = b0 + n0) (hnr : vm_n r.2 ≤ 1099511627776)
    (hRc : vm_n r.2 - n0 ≤ R.cells) (hRs : vm_s r.2 - s0 ≤ R.slots) (hRf : d + 9 ≤ R.frames) (hRl : 100 * (d + 9) ≤ R.locals)
    (hO : ∀ i as M r', O i as M r' → vm_n M ≤ vm_n r'.2 ∧ vm_s M ≤ vm_s r'.2 ∧ (i < 203 → vm_n r'.2 ≤ 1099511627776 → vm_Ok l g cA D b0 X d i as M r')) {E : Nat → vm_L → List Value → vm_M → Prop}
    (ih : ∀ pc lv st M, E pc lv st M → n0 ≤ vm_n M → s0 ≤ vm_s M → ∀ (H : Heap) (locs : List Loc) (ls : Array Slot), lv_has ls nL (vm_trl g lv) → vm_In g cA D M H → va_S (fun q => b0 ≤ q) s.heap H locs → W p l e R s m args below meth c H locs (vm_n M - n0) (vm_s M - s0) Q (F0 m pc ls (st.map (vm_tr g))))
    (hup : ∀ pc lv st M, E pc lv st M → vm_up M r)
    (hret : ∀ pc ins (H : Heap) (locs : List Loc) (ls : Array Slot), decode cc pc = .ok (ins, 1) → vm_isr ins r.1 → vm_In g cA D r.2 H → va_S (fun q => b0 ≤ q) s.heap H locs → W p l e R s m args below meth c H locs (vm_n r.2 - n0) (vm_s r.2 - s0) Q (F0 m pc ls (r.1.toList.map (vm_tr g))))
    {pc : Nat} {lv : vm_L} {st : List Value} {M : vm_M}  {a b : Nat} {v : Int} (hdg : decode cc pc = .ok (.idiv, vm_len (.idiv) b)) (hlk : vm_lk own (.idiv) a b v) (h : vm_do O L xs own ini nL r E pc lv st M (.idiv) a b v) (hn : n0 ≤ vm_n M) (hsl : s0 ≤ vm_s M) {H : Heap} {locs : List Loc} {ls : Array Slot} (hl : lv_has ls nL (vm_trl g lv)) (hI : vm_In g cA D M H) (hS : va_S (fun q => b0 ≤ q) s.heap H locs) :
    W p l e R s m args below meth c H locs (vm_n M - n0) (vm_s M - s0) Q (F0 m pc ls (st.map (vm_tr g))) := by
  have hupM : vm_up M r := vm_do_up (fun i as M r' ho => ⟨(hO i as M r' ho).1, (hO i as M r' ho).2.1⟩) hup h
  have hnM : vm_n M ≤ 1099511627776 := Nat.le_trans hupM.1 hnr
  have hDd : va_D (fun q => b0 ≤ q) (vm_w g cA M) := vm_Dd hg hnM
  have hA : ∀ q, s.heap.size ≤ q → (fun q => b0 ≤ q) q := fun q hq => by show b0 ≤ q; omega
  have go : ∀ {pc lv st ls}, E pc lv st M → lv_has ls nL (vm_trl g lv) → W p l e R s m args below meth c H locs (vm_n M - n0) (vm_s M - s0) Q (F0 m pc ls (st.map (vm_tr g))) := fun hE hl => ih _ _ _ _ hE hn hsl _ _ _ hl hI hS
  have hcs : vm_n M - n0 ≤ R.cells := Nat.le_trans (Nat.sub_le_sub_right hupM.1 n0) hRc
  have hss : vm_s M - s0 ≤ R.slots := Nat.le_trans (Nat.sub_le_sub_right hupM.2 s0) hRs
  have hml2 : c.maxLocals = ls.size := hml.trans hl.1.symm
  have arr : ∀ {q t n}, q < vm_n M → vm_sh M q = .inr (t, n) → (vm_w g cA M)[q]? = some (g q, .inl (cA t, n, vm_ct g M q t)) := fun hq hs => by rw [vm_w_at hq, vm_e_arr hs]
  have obj : ∀ {q a}, q < vm_n M → vm_sh M q = .inl a → (vm_w g cA M)[q]? = some (g q, .inr (a, (List.range (vg_N a)).map (fun k => vm_tr g (vm_gv M q (vg_y a k) k)))) := fun hq hs => by rw [vm_w_at hq, vm_e_obj hs]
  have hf1 : 1 ≤ R.frames := by omega
  have hl9 : 900 ≤ R.locals := vm_ar4 hRl
  simp only [vm_do] at h
  obtain ⟨x, y, st', rfl, hy, h⟩ := h
  exact lv_idiv hx hb hdg hy (go h hl)
set_option maxHeartbeats 1000000 in
set_option maxRecDepth 20000 in
theorem vm_step_irem {p : Program} {l : Launch} {e : Env} {R : Room} {s : State} {m : MethodId} {args : Array Value} {below : List Frame} {meth : Method} {c : Code} {Q : State → Prop} {cc : ByteArray} {O : Nat → List Value → vm_M → vm_R → Prop} {L : Nat} {xs : Nat → Int32} {own : Nat} {ini : Bool} {nL n0 s0 b0 d : Nat} {g : Nat → Nat} {cA : Nat → ClassId} {D : va_G} {X : State → Prop} {r : vm_R}
    (hx : p.tables.exec = Jvm.exec) (hb : c.code = cc) (hml : c.maxLocals = nL) (hown : s.vm.findClass (vg_O own) = some m.cls) (hts : ∀ w ∈ vt, w.before args s = true) (hK : va_K D vg_cl (vm_tys cA) s) (hN : vm_Nx s) (hX : X s) (hXs : vm_Str b0 g X)
    (hin : ini = true → meth.name = "<init>") (hscr : own = 12 → va_X (g vm_scr) L xs s s.heap ∧ g vm_scr < s.heap.size ∧ ¬ b0 ≤ g vm_scr) (hg : ∀ q, q < 1099511627776 → g q = b0 + q) (hh0 : s.heap.size = b0 + n0) (hnr : vm_n r.2 ≤ 1099511627776)
    (hRc : vm_n r.2 - n0 ≤ R.cells) (hRs : vm_s r.2 - s0 ≤ R.slots) (hRf : d + 9 ≤ R.frames) (hRl : 100 * (d + 9) ≤ R.locals)
    (hO : ∀ i as M r', O i as M r' → vm_n M ≤ vm_n r'.2 ∧ vm_s M ≤ vm_s r'.2 ∧ (i < 203 → vm_n r'.2 ≤ 1099511627776 → vm_Ok l g cA D b0 X d i as M r')) {E : Nat → vm_L → List Value → vm_M → Prop}
    (ih : ∀ pc lv st M, E pc lv st M → n0 ≤ vm_n M → s0 ≤ vm_s M → ∀ (H : Heap) (locs : List Loc) (ls : Array Slot), lv_has ls nL (vm_trl g lv) → vm_In g cA D M H → va_S (fun q => b0 ≤ q) s.heap H locs → W p l e R s m args below meth c H locs (vm_n M - n0) (vm_s M - s0) Q (F0 m pc ls (st.map (vm_tr g))))
    (hup : ∀ pc lv st M, E pc lv st M → vm_up M r)
    (hret : ∀ pc ins (H : Heap) (locs : List Loc) (ls : Array Slot), decode cc pc = .ok (ins, 1) → vm_isr ins r.1 → vm_In g cA D r.2 H → va_S (fun q => b0 ≤ q) s.heap H locs → W p l e R s m args below meth c H locs (vm_n r.2 - n0) (vm_s r.2 - s0) Q (F0 m pc ls (r.1.toList.map (vm_tr g))))
    {pc : Nat} {lv : vm_L} {st : List Value} {M : vm_M}  {a b : Nat} {v : Int} (hdg : decode cc pc = .ok (.irem, vm_len (.irem) b)) (hlk : vm_lk own (.irem) a b v) (h : vm_do O L xs own ini nL r E pc lv st M (.irem) a b v) (hn : n0 ≤ vm_n M) (hsl : s0 ≤ vm_s M) {H : Heap} {locs : List Loc} {ls : Array Slot} (hl : lv_has ls nL (vm_trl g lv)) (hI : vm_In g cA D M H) (hS : va_S (fun q => b0 ≤ q) s.heap H locs) :
    W p l e R s m args below meth c H locs (vm_n M - n0) (vm_s M - s0) Q (F0 m pc ls (st.map (vm_tr g))) := by
  have hupM : vm_up M r := vm_do_up (fun i as M r' ho => ⟨(hO i as M r' ho).1, (hO i as M r' ho).2.1⟩) hup h
  have hnM : vm_n M ≤ 1099511627776 := Nat.le_trans hupM.1 hnr
  have hDd : va_D (fun q => b0 ≤ q) (vm_w g cA M) := vm_Dd hg hnM
  have hA : ∀ q, s.heap.size ≤ q → (fun q => b0 ≤ q) q := fun q hq => by show b0 ≤ q; omega
  have go : ∀ {pc lv st ls}, E pc lv st M → lv_has ls nL (vm_trl g lv) → W p l e R s m args below meth c H locs (vm_n M - n0) (vm_s M - s0) Q (F0 m pc ls (st.map (vm_tr g))) := fun hE hl => ih _ _ _ _ hE hn hsl _ _ _ hl hI hS
  have hcs : vm_n M - n0 ≤ R.cells := Nat.le_trans (Nat.sub_le_sub_right hupM.1 n0) hRc
  have hss : vm_s M - s0 ≤ R.slots := Nat.le_trans (Nat.sub_le_sub_right hupM.2 s0) hRs
  have hml2 : c.maxLocals = ls.size := hml.trans hl.1.symm
  have arr : ∀ {q t n}, q < vm_n M → vm_sh M q = .inr (t, n) → (vm_w g cA M)[q]? = some (g q, .inl (cA t, n, vm_ct g M q t)) := fun hq hs => by rw [vm_w_at hq, vm_e_arr hs]
  have obj : ∀ {q a}, q < vm_n M → vm_sh M q = .inl a → (vm_w g cA M)[q]? = some (g q, .inr (a, (List.range (vg_N a)).map (fun k => vm_tr g (vm_gv M q (vg_y a k) k)))) := fun hq hs => by rw [vm_w_at hq, vm_e_obj hs]
  have hf1 : 1 ≤ R.frames := by omega
  have hl9 : 900 ≤ R.locals := vm_ar4 hRl
  simp only [vm_do] at h
  obtain ⟨x, y, st', rfl, hy, h⟩ := h
  exact lv_irem hx hb hdg hy (go h hl)
set_option maxHeartbeats 1000000 in
set_option maxRecDepth 20000 in
theorem vm_step_ldiv {p : Program} {l : Launch} {e : Env} {R : Room} {s : State} {m : MethodId} {args : Array Value} {below : List Frame} {meth : Method} {c : Code} {Q : State → Prop} {cc : ByteArray} {O : Nat → List Value → vm_M → vm_R → Prop} {L : Nat} {xs : Nat → Int32} {own : Nat} {ini : Bool} {nL n0 s0 b0 d : Nat} {g : Nat → Nat} {cA : Nat → ClassId} {D : va_G} {X : State → Prop} {r : vm_R}
    (hx : p.tables.exec = Jvm.exec) (hb : c.code = cc) (hml : c.maxLocals = nL) (hown : s.vm.findClass (vg_O own) = some m.cls) (hts : ∀ w ∈ vt, w.before args s = true) (hK : va_K D vg_cl (vm_tys cA) s) (hN : vm_Nx s) (hX : X s) (hXs : vm_Str b0 g X)
    (hin : ini = true → meth.name = "<init>") (hscr : own = 12 → va_X (g vm_scr) L xs s s.heap ∧ g vm_scr < s.heap.size ∧ ¬ b0 ≤ g vm_scr) (hg : ∀ q, q < 1099511627776 → g q = b0 + q) (hh0 : s.heap.size = b0 + n0) (hnr : vm_n r.2 ≤ 1099511627776)
    (hRc : vm_n r.2 - n0 ≤ R.cells) (hRs : vm_s r.2 - s0 ≤ R.slots) (hRf : d + 9 ≤ R.frames) (hRl : 100 * (d + 9) ≤ R.locals)
    (hO : ∀ i as M r', O i as M r' → vm_n M ≤ vm_n r'.2 ∧ vm_s M ≤ vm_s r'.2 ∧ (i < 203 → vm_n r'.2 ≤ 1099511627776 → vm_Ok l g cA D b0 X d i as M r')) {E : Nat → vm_L → List Value → vm_M → Prop}
    (ih : ∀ pc lv st M, E pc lv st M → n0 ≤ vm_n M → s0 ≤ vm_s M → ∀ (H : Heap) (locs : List Loc) (ls : Array Slot), lv_has ls nL (vm_trl g lv) → vm_In g cA D M H → va_S (fun q => b0 ≤ q) s.heap H locs → W p l e R s m args below meth c H locs (vm_n M - n0) (vm_s M - s0) Q (F0 m pc ls (st.map (vm_tr g))))
    (hup : ∀ pc lv st M, E pc lv st M → vm_up M r)
    (hret : ∀ pc ins (H : Heap) (locs : List Loc) (ls : Array Slot), decode cc pc = .ok (ins, 1) → vm_isr ins r.1 → vm_In g cA D r.2 H → va_S (fun q => b0 ≤ q) s.heap H locs → W p l e R s m args below meth c H locs (vm_n r.2 - n0) (vm_s r.2 - s0) Q (F0 m pc ls (r.1.toList.map (vm_tr g))))
    {pc : Nat} {lv : vm_L} {st : List Value} {M : vm_M}  {a b : Nat} {v : Int} (hdg : decode cc pc = .ok (.ldiv, vm_len (.ldiv) b)) (hlk : vm_lk own (.ldiv) a b v) (h : vm_do O L xs own ini nL r E pc lv st M (.ldiv) a b v) (hn : n0 ≤ vm_n M) (hsl : s0 ≤ vm_s M) {H : Heap} {locs : List Loc} {ls : Array Slot} (hl : lv_has ls nL (vm_trl g lv)) (hI : vm_In g cA D M H) (hS : va_S (fun q => b0 ≤ q) s.heap H locs) :
    W p l e R s m args below meth c H locs (vm_n M - n0) (vm_s M - s0) Q (F0 m pc ls (st.map (vm_tr g))) := by
  have hupM : vm_up M r := vm_do_up (fun i as M r' ho => ⟨(hO i as M r' ho).1, (hO i as M r' ho).2.1⟩) hup h
  have hnM : vm_n M ≤ 1099511627776 := Nat.le_trans hupM.1 hnr
  have hDd : va_D (fun q => b0 ≤ q) (vm_w g cA M) := vm_Dd hg hnM
  have hA : ∀ q, s.heap.size ≤ q → (fun q => b0 ≤ q) q := fun q hq => by show b0 ≤ q; omega
  have go : ∀ {pc lv st ls}, E pc lv st M → lv_has ls nL (vm_trl g lv) → W p l e R s m args below meth c H locs (vm_n M - n0) (vm_s M - s0) Q (F0 m pc ls (st.map (vm_tr g))) := fun hE hl => ih _ _ _ _ hE hn hsl _ _ _ hl hI hS
  have hcs : vm_n M - n0 ≤ R.cells := Nat.le_trans (Nat.sub_le_sub_right hupM.1 n0) hRc
  have hss : vm_s M - s0 ≤ R.slots := Nat.le_trans (Nat.sub_le_sub_right hupM.2 s0) hRs
  have hml2 : c.maxLocals = ls.size := hml.trans hl.1.symm
  have arr : ∀ {q t n}, q < vm_n M → vm_sh M q = .inr (t, n) → (vm_w g cA M)[q]? = some (g q, .inl (cA t, n, vm_ct g M q t)) := fun hq hs => by rw [vm_w_at hq, vm_e_arr hs]
  have obj : ∀ {q a}, q < vm_n M → vm_sh M q = .inl a → (vm_w g cA M)[q]? = some (g q, .inr (a, (List.range (vg_N a)).map (fun k => vm_tr g (vm_gv M q (vg_y a k) k)))) := fun hq hs => by rw [vm_w_at hq, vm_e_obj hs]
  have hf1 : 1 ≤ R.frames := by omega
  have hl9 : 900 ≤ R.locals := vm_ar4 hRl
  simp only [vm_do] at h
  obtain ⟨x, y, st', rfl, hy, h⟩ := h
  exact lv_ldiv hx hb hdg hy (go h hl)
set_option maxHeartbeats 1000000 in
set_option maxRecDepth 20000 in
theorem vm_step_lrem {p : Program} {l : Launch} {e : Env} {R : Room} {s : State} {m : MethodId} {args : Array Value} {below : List Frame} {meth : Method} {c : Code} {Q : State → Prop} {cc : ByteArray} {O : Nat → List Value → vm_M → vm_R → Prop} {L : Nat} {xs : Nat → Int32} {own : Nat} {ini : Bool} {nL n0 s0 b0 d : Nat} {g : Nat → Nat} {cA : Nat → ClassId} {D : va_G} {X : State → Prop} {r : vm_R}
    (hx : p.tables.exec = Jvm.exec) (hb : c.code = cc) (hml : c.maxLocals = nL) (hown : s.vm.findClass (vg_O own) = some m.cls) (hts : ∀ w ∈ vt, w.before args s = true) (hK : va_K D vg_cl (vm_tys cA) s) (hN : vm_Nx s) (hX : X s) (hXs : vm_Str b0 g X)
    (hin : ini = true → meth.name = "<init>") (hscr : own = 12 → va_X (g vm_scr) L xs s s.heap ∧ g vm_scr < s.heap.size ∧ ¬ b0 ≤ g vm_scr) (hg : ∀ q, q < 1099511627776 → g q = b0 + q) (hh0 : s.heap.size = b0 + n0) (hnr : vm_n r.2 ≤ 1099511627776)
    (hRc : vm_n r.2 - n0 ≤ R.cells) (hRs : vm_s r.2 - s0 ≤ R.slots) (hRf : d + 9 ≤ R.frames) (hRl : 100 * (d + 9) ≤ R.locals)
    (hO : ∀ i as M r', O i as M r' → vm_n M ≤ vm_n r'.2 ∧ vm_s M ≤ vm_s r'.2 ∧ (i < 203 → vm_n r'.2 ≤ 1099511627776 → vm_Ok l g cA D b0 X d i as M r')) {E : Nat → vm_L → List Value → vm_M → Prop}
    (ih : ∀ pc lv st M, E pc lv st M → n0 ≤ vm_n M → s0 ≤ vm_s M → ∀ (H : Heap) (locs : List Loc) (ls : Array Slot), lv_has ls nL (vm_trl g lv) → vm_In g cA D M H → va_S (fun q => b0 ≤ q) s.heap H locs → W p l e R s m args below meth c H locs (vm_n M - n0) (vm_s M - s0) Q (F0 m pc ls (st.map (vm_tr g))))
    (hup : ∀ pc lv st M, E pc lv st M → vm_up M r)
    (hret : ∀ pc ins (H : Heap) (locs : List Loc) (ls : Array Slot), decode cc pc = .ok (ins, 1) → vm_isr ins r.1 → vm_In g cA D r.2 H → va_S (fun q => b0 ≤ q) s.heap H locs → W p l e R s m args below meth c H locs (vm_n r.2 - n0) (vm_s r.2 - s0) Q (F0 m pc ls (r.1.toList.map (vm_tr g))))
    {pc : Nat} {lv : vm_L} {st : List Value} {M : vm_M}  {a b : Nat} {v : Int} (hdg : decode cc pc = .ok (.lrem, vm_len (.lrem) b)) (hlk : vm_lk own (.lrem) a b v) (h : vm_do O L xs own ini nL r E pc lv st M (.lrem) a b v) (hn : n0 ≤ vm_n M) (hsl : s0 ≤ vm_s M) {H : Heap} {locs : List Loc} {ls : Array Slot} (hl : lv_has ls nL (vm_trl g lv)) (hI : vm_In g cA D M H) (hS : va_S (fun q => b0 ≤ q) s.heap H locs) :
    W p l e R s m args below meth c H locs (vm_n M - n0) (vm_s M - s0) Q (F0 m pc ls (st.map (vm_tr g))) := by
  have hupM : vm_up M r := vm_do_up (fun i as M r' ho => ⟨(hO i as M r' ho).1, (hO i as M r' ho).2.1⟩) hup h
  have hnM : vm_n M ≤ 1099511627776 := Nat.le_trans hupM.1 hnr
  have hDd : va_D (fun q => b0 ≤ q) (vm_w g cA M) := vm_Dd hg hnM
  have hA : ∀ q, s.heap.size ≤ q → (fun q => b0 ≤ q) q := fun q hq => by show b0 ≤ q; omega
  have go : ∀ {pc lv st ls}, E pc lv st M → lv_has ls nL (vm_trl g lv) → W p l e R s m args below meth c H locs (vm_n M - n0) (vm_s M - s0) Q (F0 m pc ls (st.map (vm_tr g))) := fun hE hl => ih _ _ _ _ hE hn hsl _ _ _ hl hI hS
  have hcs : vm_n M - n0 ≤ R.cells := Nat.le_trans (Nat.sub_le_sub_right hupM.1 n0) hRc
  have hss : vm_s M - s0 ≤ R.slots := Nat.le_trans (Nat.sub_le_sub_right hupM.2 s0) hRs
  have hml2 : c.maxLocals = ls.size := hml.trans hl.1.symm
  have arr : ∀ {q t n}, q < vm_n M → vm_sh M q = .inr (t, n) → (vm_w g cA M)[q]? = some (g q, .inl (cA t, n, vm_ct g M q t)) := fun hq hs => by rw [vm_w_at hq, vm_e_arr hs]
  have obj : ∀ {q a}, q < vm_n M → vm_sh M q = .inl a → (vm_w g cA M)[q]? = some (g q, .inr (a, (List.range (vg_N a)).map (fun k => vm_tr g (vm_gv M q (vg_y a k) k)))) := fun hq hs => by rw [vm_w_at hq, vm_e_obj hs]
  have hf1 : 1 ≤ R.frames := by omega
  have hl9 : 900 ≤ R.locals := vm_ar4 hRl
  simp only [vm_do] at h
  obtain ⟨x, y, st', rfl, hy, h⟩ := h
  exact lv_lrem hx hb hdg hy (go h hl)
set_option maxHeartbeats 1000000 in
set_option maxRecDepth 20000 in
theorem vm_step_ineg {p : Program} {l : Launch} {e : Env} {R : Room} {s : State} {m : MethodId} {args : Array Value} {below : List Frame} {meth : Method} {c : Code} {Q : State → Prop} {cc : ByteArray} {O : Nat → List Value → vm_M → vm_R → Prop} {L : Nat} {xs : Nat → Int32} {own : Nat} {ini : Bool} {nL n0 s0 b0 d : Nat} {g : Nat → Nat} {cA : Nat → ClassId} {D : va_G} {X : State → Prop} {r : vm_R}
    (hx : p.tables.exec = Jvm.exec) (hb : c.code = cc) (hml : c.maxLocals = nL) (hown : s.vm.findClass (vg_O own) = some m.cls) (hts : ∀ w ∈ vt, w.before args s = true) (hK : va_K D vg_cl (vm_tys cA) s) (hN : vm_Nx s) (hX : X s) (hXs : vm_Str b0 g X)
    (hin : ini = true → meth.name = "<init>") (hscr : own = 12 → va_X (g vm_scr) L xs s s.heap ∧ g vm_scr < s.heap.size ∧ ¬ b0 ≤ g vm_scr) (hg : ∀ q, q < 1099511627776 → g q = b0 + q) (hh0 : s.heap.size = b0 + n0) (hnr : vm_n r.2 ≤ 1099511627776)
    (hRc : vm_n r.2 - n0 ≤ R.cells) (hRs : vm_s r.2 - s0 ≤ R.slots) (hRf : d + 9 ≤ R.frames) (hRl : 100 * (d + 9) ≤ R.locals)
    (hO : ∀ i as M r', O i as M r' → vm_n M ≤ vm_n r'.2 ∧ vm_s M ≤ vm_s r'.2 ∧ (i < 203 → vm_n r'.2 ≤ 1099511627776 → vm_Ok l g cA D b0 X d i as M r')) {E : Nat → vm_L → List Value → vm_M → Prop}
    (ih : ∀ pc lv st M, E pc lv st M → n0 ≤ vm_n M → s0 ≤ vm_s M → ∀ (H : Heap) (locs : List Loc) (ls : Array Slot), lv_has ls nL (vm_trl g lv) → vm_In g cA D M H → va_S (fun q => b0 ≤ q) s.heap H locs → W p l e R s m args below meth c H locs (vm_n M - n0) (vm_s M - s0) Q (F0 m pc ls (st.map (vm_tr g))))
    (hup : ∀ pc lv st M, E pc lv st M → vm_up M r)
    (hret : ∀ pc ins (H : Heap) (locs : List Loc) (ls : Array Slot), decode cc pc = .ok (ins, 1) → vm_isr ins r.1 → vm_In g cA D r.2 H → va_S (fun q => b0 ≤ q) s.heap H locs → W p l e R s m args below meth c H locs (vm_n r.2 - n0) (vm_s r.2 - s0) Q (F0 m pc ls (r.1.toList.map (vm_tr g))))
    {pc : Nat} {lv : vm_L} {st : List Value} {M : vm_M}  {a b : Nat} {v : Int} (hdg : decode cc pc = .ok (.ineg, vm_len (.ineg) b)) (hlk : vm_lk own (.ineg) a b v) (h : vm_do O L xs own ini nL r E pc lv st M (.ineg) a b v) (hn : n0 ≤ vm_n M) (hsl : s0 ≤ vm_s M) {H : Heap} {locs : List Loc} {ls : Array Slot} (hl : lv_has ls nL (vm_trl g lv)) (hI : vm_In g cA D M H) (hS : va_S (fun q => b0 ≤ q) s.heap H locs) :
    W p l e R s m args below meth c H locs (vm_n M - n0) (vm_s M - s0) Q (F0 m pc ls (st.map (vm_tr g))) := by
  have hupM : vm_up M r := vm_do_up (fun i as M r' ho => ⟨(hO i as M r' ho).1, (hO i as M r' ho).2.1⟩) hup h
  have hnM : vm_n M ≤ 1099511627776 := Nat.le_trans hupM.1 hnr
  have hDd : va_D (fun q => b0 ≤ q) (vm_w g cA M) := vm_Dd hg hnM
  have hA : ∀ q, s.heap.size ≤ q → (fun q => b0 ≤ q) q := fun q hq => by show b0 ≤ q; omega
  have go : ∀ {pc lv st ls}, E pc lv st M → lv_has ls nL (vm_trl g lv) → W p l e R s m args below meth c H locs (vm_n M - n0) (vm_s M - s0) Q (F0 m pc ls (st.map (vm_tr g))) := fun hE hl => ih _ _ _ _ hE hn hsl _ _ _ hl hI hS
  have hcs : vm_n M - n0 ≤ R.cells := Nat.le_trans (Nat.sub_le_sub_right hupM.1 n0) hRc
  have hss : vm_s M - s0 ≤ R.slots := Nat.le_trans (Nat.sub_le_sub_right hupM.2 s0) hRs
  have hml2 : c.maxLocals = ls.size := hml.trans hl.1.symm
  have arr : ∀ {q t n}, q < vm_n M → vm_sh M q = .inr (t, n) → (vm_w g cA M)[q]? = some (g q, .inl (cA t, n, vm_ct g M q t)) := fun hq hs => by rw [vm_w_at hq, vm_e_arr hs]
  have obj : ∀ {q a}, q < vm_n M → vm_sh M q = .inl a → (vm_w g cA M)[q]? = some (g q, .inr (a, (List.range (vg_N a)).map (fun k => vm_tr g (vm_gv M q (vg_y a k) k)))) := fun hq hs => by rw [vm_w_at hq, vm_e_obj hs]
  have hf1 : 1 ≤ R.frames := by omega
  have hl9 : 900 ≤ R.locals := vm_ar4 hRl
  simp only [vm_do] at h
  obtain ⟨x, st', rfl, h⟩ := h
  exact lv_ineg hx hb hdg (go h hl)
set_option maxHeartbeats 1000000 in
set_option maxRecDepth 20000 in
theorem vm_step_lneg {p : Program} {l : Launch} {e : Env} {R : Room} {s : State} {m : MethodId} {args : Array Value} {below : List Frame} {meth : Method} {c : Code} {Q : State → Prop} {cc : ByteArray} {O : Nat → List Value → vm_M → vm_R → Prop} {L : Nat} {xs : Nat → Int32} {own : Nat} {ini : Bool} {nL n0 s0 b0 d : Nat} {g : Nat → Nat} {cA : Nat → ClassId} {D : va_G} {X : State → Prop} {r : vm_R}
    (hx : p.tables.exec = Jvm.exec) (hb : c.code = cc) (hml : c.maxLocals = nL) (hown : s.vm.findClass (vg_O own) = some m.cls) (hts : ∀ w ∈ vt, w.before args s = true) (hK : va_K D vg_cl (vm_tys cA) s) (hN : vm_Nx s) (hX : X s) (hXs : vm_Str b0 g X)
    (hin : ini = true → meth.name = "<init>") (hscr : own = 12 → va_X (g vm_scr) L xs s s.heap ∧ g vm_scr < s.heap.size ∧ ¬ b0 ≤ g vm_scr) (hg : ∀ q, q < 1099511627776 → g q = b0 + q) (hh0 : s.heap.size = b0 + n0) (hnr : vm_n r.2 ≤ 1099511627776)
    (hRc : vm_n r.2 - n0 ≤ R.cells) (hRs : vm_s r.2 - s0 ≤ R.slots) (hRf : d + 9 ≤ R.frames) (hRl : 100 * (d + 9) ≤ R.locals)
    (hO : ∀ i as M r', O i as M r' → vm_n M ≤ vm_n r'.2 ∧ vm_s M ≤ vm_s r'.2 ∧ (i < 203 → vm_n r'.2 ≤ 1099511627776 → vm_Ok l g cA D b0 X d i as M r')) {E : Nat → vm_L → List Value → vm_M → Prop}
    (ih : ∀ pc lv st M, E pc lv st M → n0 ≤ vm_n M → s0 ≤ vm_s M → ∀ (H : Heap) (locs : List Loc) (ls : Array Slot), lv_has ls nL (vm_trl g lv) → vm_In g cA D M H → va_S (fun q => b0 ≤ q) s.heap H locs → W p l e R s m args below meth c H locs (vm_n M - n0) (vm_s M - s0) Q (F0 m pc ls (st.map (vm_tr g))))
    (hup : ∀ pc lv st M, E pc lv st M → vm_up M r)
    (hret : ∀ pc ins (H : Heap) (locs : List Loc) (ls : Array Slot), decode cc pc = .ok (ins, 1) → vm_isr ins r.1 → vm_In g cA D r.2 H → va_S (fun q => b0 ≤ q) s.heap H locs → W p l e R s m args below meth c H locs (vm_n r.2 - n0) (vm_s r.2 - s0) Q (F0 m pc ls (r.1.toList.map (vm_tr g))))
    {pc : Nat} {lv : vm_L} {st : List Value} {M : vm_M}  {a b : Nat} {v : Int} (hdg : decode cc pc = .ok (.lneg, vm_len (.lneg) b)) (hlk : vm_lk own (.lneg) a b v) (h : vm_do O L xs own ini nL r E pc lv st M (.lneg) a b v) (hn : n0 ≤ vm_n M) (hsl : s0 ≤ vm_s M) {H : Heap} {locs : List Loc} {ls : Array Slot} (hl : lv_has ls nL (vm_trl g lv)) (hI : vm_In g cA D M H) (hS : va_S (fun q => b0 ≤ q) s.heap H locs) :
    W p l e R s m args below meth c H locs (vm_n M - n0) (vm_s M - s0) Q (F0 m pc ls (st.map (vm_tr g))) := by
  have hupM : vm_up M r := vm_do_up (fun i as M r' ho => ⟨(hO i as M r' ho).1, (hO i as M r' ho).2.1⟩) hup h
  have hnM : vm_n M ≤ 1099511627776 := Nat.le_trans hupM.1 hnr
  have hDd : va_D (fun q => b0 ≤ q) (vm_w g cA M) := vm_Dd hg hnM
  have hA : ∀ q, s.heap.size ≤ q → (fun q => b0 ≤ q) q := fun q hq => by show b0 ≤ q; omega
  have go : ∀ {pc lv st ls}, E pc lv st M → lv_has ls nL (vm_trl g lv) → W p l e R s m args below meth c H locs (vm_n M - n0) (vm_s M - s0) Q (F0 m pc ls (st.map (vm_tr g))) := fun hE hl => ih _ _ _ _ hE hn hsl _ _ _ hl hI hS
  have hcs : vm_n M - n0 ≤ R.cells := Nat.le_trans (Nat.sub_le_sub_right hupM.1 n0) hRc
  have hss : vm_s M - s0 ≤ R.slots := Nat.le_trans (Nat.sub_le_sub_right hupM.2 s0) hRs
  have hml2 : c.maxLocals = ls.size := hml.trans hl.1.symm
  have arr : ∀ {q t n}, q < vm_n M → vm_sh M q = .inr (t, n) → (vm_w g cA M)[q]? = some (g q, .inl (cA t, n, vm_ct g M q t)) := fun hq hs => by rw [vm_w_at hq, vm_e_arr hs]
  have obj : ∀ {q a}, q < vm_n M → vm_sh M q = .inl a → (vm_w g cA M)[q]? = some (g q, .inr (a, (List.range (vg_N a)).map (fun k => vm_tr g (vm_gv M q (vg_y a k) k)))) := fun hq hs => by rw [vm_w_at hq, vm_e_obj hs]
  have hf1 : 1 ≤ R.frames := by omega
  have hl9 : 900 ≤ R.locals := vm_ar4 hRl
  simp only [vm_do] at h
  obtain ⟨x, st', rfl, h⟩ := h
  exact lv_lneg hx hb hdg (go h hl)
set_option maxHeartbeats 1000000 in
set_option maxRecDepth 20000 in
theorem vm_step_i2l {p : Program} {l : Launch} {e : Env} {R : Room} {s : State} {m : MethodId} {args : Array Value} {below : List Frame} {meth : Method} {c : Code} {Q : State → Prop} {cc : ByteArray} {O : Nat → List Value → vm_M → vm_R → Prop} {L : Nat} {xs : Nat → Int32} {own : Nat} {ini : Bool} {nL n0 s0 b0 d : Nat} {g : Nat → Nat} {cA : Nat → ClassId} {D : va_G} {X : State → Prop} {r : vm_R}
    (hx : p.tables.exec = Jvm.exec) (hb : c.code = cc) (hml : c.maxLocals = nL) (hown : s.vm.findClass (vg_O own) = some m.cls) (hts : ∀ w ∈ vt, w.before args s = true) (hK : va_K D vg_cl (vm_tys cA) s) (hN : vm_Nx s) (hX : X s) (hXs : vm_Str b0 g X)
    (hin : ini = true → meth.name = "<init>") (hscr : own = 12 → va_X (g vm_scr) L xs s s.heap ∧ g vm_scr < s.heap.size ∧ ¬ b0 ≤ g vm_scr) (hg : ∀ q, q < 1099511627776 → g q = b0 + q) (hh0 : s.heap.size = b0 + n0) (hnr : vm_n r.2 ≤ 1099511627776)
    (hRc : vm_n r.2 - n0 ≤ R.cells) (hRs : vm_s r.2 - s0 ≤ R.slots) (hRf : d + 9 ≤ R.frames) (hRl : 100 * (d + 9) ≤ R.locals)
    (hO : ∀ i as M r', O i as M r' → vm_n M ≤ vm_n r'.2 ∧ vm_s M ≤ vm_s r'.2 ∧ (i < 203 → vm_n r'.2 ≤ 1099511627776 → vm_Ok l g cA D b0 X d i as M r')) {E : Nat → vm_L → List Value → vm_M → Prop}
    (ih : ∀ pc lv st M, E pc lv st M → n0 ≤ vm_n M → s0 ≤ vm_s M → ∀ (H : Heap) (locs : List Loc) (ls : Array Slot), lv_has ls nL (vm_trl g lv) → vm_In g cA D M H → va_S (fun q => b0 ≤ q) s.heap H locs → W p l e R s m args below meth c H locs (vm_n M - n0) (vm_s M - s0) Q (F0 m pc ls (st.map (vm_tr g))))
    (hup : ∀ pc lv st M, E pc lv st M → vm_up M r)
    (hret : ∀ pc ins (H : Heap) (locs : List Loc) (ls : Array Slot), decode cc pc = .ok (ins, 1) → vm_isr ins r.1 → vm_In g cA D r.2 H → va_S (fun q => b0 ≤ q) s.heap H locs → W p l e R s m args below meth c H locs (vm_n r.2 - n0) (vm_s r.2 - s0) Q (F0 m pc ls (r.1.toList.map (vm_tr g))))
    {pc : Nat} {lv : vm_L} {st : List Value} {M : vm_M}  {a b : Nat} {v : Int} (hdg : decode cc pc = .ok (.i2l, vm_len (.i2l) b)) (hlk : vm_lk own (.i2l) a b v) (h : vm_do O L xs own ini nL r E pc lv st M (.i2l) a b v) (hn : n0 ≤ vm_n M) (hsl : s0 ≤ vm_s M) {H : Heap} {locs : List Loc} {ls : Array Slot} (hl : lv_has ls nL (vm_trl g lv)) (hI : vm_In g cA D M H) (hS : va_S (fun q => b0 ≤ q) s.heap H locs) :
    W p l e R s m args below meth c H locs (vm_n M - n0) (vm_s M - s0) Q (F0 m pc ls (st.map (vm_tr g))) := by
  have hupM : vm_up M r := vm_do_up (fun i as M r' ho => ⟨(hO i as M r' ho).1, (hO i as M r' ho).2.1⟩) hup h
  have hnM : vm_n M ≤ 1099511627776 := Nat.le_trans hupM.1 hnr
  have hDd : va_D (fun q => b0 ≤ q) (vm_w g cA M) := vm_Dd hg hnM
  have hA : ∀ q, s.heap.size ≤ q → (fun q => b0 ≤ q) q := fun q hq => by show b0 ≤ q; omega
  have go : ∀ {pc lv st ls}, E pc lv st M → lv_has ls nL (vm_trl g lv) → W p l e R s m args below meth c H locs (vm_n M - n0) (vm_s M - s0) Q (F0 m pc ls (st.map (vm_tr g))) := fun hE hl => ih _ _ _ _ hE hn hsl _ _ _ hl hI hS
  have hcs : vm_n M - n0 ≤ R.cells := Nat.le_trans (Nat.sub_le_sub_right hupM.1 n0) hRc
  have hss : vm_s M - s0 ≤ R.slots := Nat.le_trans (Nat.sub_le_sub_right hupM.2 s0) hRs
  have hml2 : c.maxLocals = ls.size := hml.trans hl.1.symm
  have arr : ∀ {q t n}, q < vm_n M → vm_sh M q = .inr (t, n) → (vm_w g cA M)[q]? = some (g q, .inl (cA t, n, vm_ct g M q t)) := fun hq hs => by rw [vm_w_at hq, vm_e_arr hs]
  have obj : ∀ {q a}, q < vm_n M → vm_sh M q = .inl a → (vm_w g cA M)[q]? = some (g q, .inr (a, (List.range (vg_N a)).map (fun k => vm_tr g (vm_gv M q (vg_y a k) k)))) := fun hq hs => by rw [vm_w_at hq, vm_e_obj hs]
  have hf1 : 1 ≤ R.frames := by omega
  have hl9 : 900 ≤ R.locals := vm_ar4 hRl
  simp only [vm_do] at h
  obtain ⟨x, st', rfl, h⟩ := h
  exact lv_i2l hx hb hdg rfl (go h hl)
set_option maxHeartbeats 1000000 in
set_option maxRecDepth 20000 in
theorem vm_step_i2b {p : Program} {l : Launch} {e : Env} {R : Room} {s : State} {m : MethodId} {args : Array Value} {below : List Frame} {meth : Method} {c : Code} {Q : State → Prop} {cc : ByteArray} {O : Nat → List Value → vm_M → vm_R → Prop} {L : Nat} {xs : Nat → Int32} {own : Nat} {ini : Bool} {nL n0 s0 b0 d : Nat} {g : Nat → Nat} {cA : Nat → ClassId} {D : va_G} {X : State → Prop} {r : vm_R}
    (hx : p.tables.exec = Jvm.exec) (hb : c.code = cc) (hml : c.maxLocals = nL) (hown : s.vm.findClass (vg_O own) = some m.cls) (hts : ∀ w ∈ vt, w.before args s = true) (hK : va_K D vg_cl (vm_tys cA) s) (hN : vm_Nx s) (hX : X s) (hXs : vm_Str b0 g X)
    (hin : ini = true → meth.name = "<init>") (hscr : own = 12 → va_X (g vm_scr) L xs s s.heap ∧ g vm_scr < s.heap.size ∧ ¬ b0 ≤ g vm_scr) (hg : ∀ q, q < 1099511627776 → g q = b0 + q) (hh0 : s.heap.size = b0 + n0) (hnr : vm_n r.2 ≤ 1099511627776)
    (hRc : vm_n r.2 - n0 ≤ R.cells) (hRs : vm_s r.2 - s0 ≤ R.slots) (hRf : d + 9 ≤ R.frames) (hRl : 100 * (d + 9) ≤ R.locals)
    (hO : ∀ i as M r', O i as M r' → vm_n M ≤ vm_n r'.2 ∧ vm_s M ≤ vm_s r'.2 ∧ (i < 203 → vm_n r'.2 ≤ 1099511627776 → vm_Ok l g cA D b0 X d i as M r')) {E : Nat → vm_L → List Value → vm_M → Prop}
    (ih : ∀ pc lv st M, E pc lv st M → n0 ≤ vm_n M → s0 ≤ vm_s M → ∀ (H : Heap) (locs : List Loc) (ls : Array Slot), lv_has ls nL (vm_trl g lv) → vm_In g cA D M H → va_S (fun q => b0 ≤ q) s.heap H locs → W p l e R s m args below meth c H locs (vm_n M - n0) (vm_s M - s0) Q (F0 m pc ls (st.map (vm_tr g))))
    (hup : ∀ pc lv st M, E pc lv st M → vm_up M r)
    (hret : ∀ pc ins (H : Heap) (locs : List Loc) (ls : Array Slot), decode cc pc = .ok (ins, 1) → vm_isr ins r.1 → vm_In g cA D r.2 H → va_S (fun q => b0 ≤ q) s.heap H locs → W p l e R s m args below meth c H locs (vm_n r.2 - n0) (vm_s r.2 - s0) Q (F0 m pc ls (r.1.toList.map (vm_tr g))))
    {pc : Nat} {lv : vm_L} {st : List Value} {M : vm_M}  {a b : Nat} {v : Int} (hdg : decode cc pc = .ok (.i2b, vm_len (.i2b) b)) (hlk : vm_lk own (.i2b) a b v) (h : vm_do O L xs own ini nL r E pc lv st M (.i2b) a b v) (hn : n0 ≤ vm_n M) (hsl : s0 ≤ vm_s M) {H : Heap} {locs : List Loc} {ls : Array Slot} (hl : lv_has ls nL (vm_trl g lv)) (hI : vm_In g cA D M H) (hS : va_S (fun q => b0 ≤ q) s.heap H locs) :
    W p l e R s m args below meth c H locs (vm_n M - n0) (vm_s M - s0) Q (F0 m pc ls (st.map (vm_tr g))) := by
  have hupM : vm_up M r := vm_do_up (fun i as M r' ho => ⟨(hO i as M r' ho).1, (hO i as M r' ho).2.1⟩) hup h
  have hnM : vm_n M ≤ 1099511627776 := Nat.le_trans hupM.1 hnr
  have hDd : va_D (fun q => b0 ≤ q) (vm_w g cA M) := vm_Dd hg hnM
  have hA : ∀ q, s.heap.size ≤ q → (fun q => b0 ≤ q) q := fun q hq => by show b0 ≤ q; omega
  have go : ∀ {pc lv st ls}, E pc lv st M → lv_has ls nL (vm_trl g lv) → W p l e R s m args below meth c H locs (vm_n M - n0) (vm_s M - s0) Q (F0 m pc ls (st.map (vm_tr g))) := fun hE hl => ih _ _ _ _ hE hn hsl _ _ _ hl hI hS
  have hcs : vm_n M - n0 ≤ R.cells := Nat.le_trans (Nat.sub_le_sub_right hupM.1 n0) hRc
  have hss : vm_s M - s0 ≤ R.slots := Nat.le_trans (Nat.sub_le_sub_right hupM.2 s0) hRs
  have hml2 : c.maxLocals = ls.size := hml.trans hl.1.symm
  have arr : ∀ {q t n}, q < vm_n M → vm_sh M q = .inr (t, n) → (vm_w g cA M)[q]? = some (g q, .inl (cA t, n, vm_ct g M q t)) := fun hq hs => by rw [vm_w_at hq, vm_e_arr hs]
  have obj : ∀ {q a}, q < vm_n M → vm_sh M q = .inl a → (vm_w g cA M)[q]? = some (g q, .inr (a, (List.range (vg_N a)).map (fun k => vm_tr g (vm_gv M q (vg_y a k) k)))) := fun hq hs => by rw [vm_w_at hq, vm_e_obj hs]
  have hf1 : 1 ≤ R.frames := by omega
  have hl9 : 900 ≤ R.locals := vm_ar4 hRl
  simp only [vm_do] at h
  obtain ⟨x, st', rfl, h⟩ := h
  exact lv_i2b hx hb hdg rfl (go h hl)
set_option maxHeartbeats 1000000 in
set_option maxRecDepth 20000 in
theorem vm_step_lcmp {p : Program} {l : Launch} {e : Env} {R : Room} {s : State} {m : MethodId} {args : Array Value} {below : List Frame} {meth : Method} {c : Code} {Q : State → Prop} {cc : ByteArray} {O : Nat → List Value → vm_M → vm_R → Prop} {L : Nat} {xs : Nat → Int32} {own : Nat} {ini : Bool} {nL n0 s0 b0 d : Nat} {g : Nat → Nat} {cA : Nat → ClassId} {D : va_G} {X : State → Prop} {r : vm_R}
    (hx : p.tables.exec = Jvm.exec) (hb : c.code = cc) (hml : c.maxLocals = nL) (hown : s.vm.findClass (vg_O own) = some m.cls) (hts : ∀ w ∈ vt, w.before args s = true) (hK : va_K D vg_cl (vm_tys cA) s) (hN : vm_Nx s) (hX : X s) (hXs : vm_Str b0 g X)
    (hin : ini = true → meth.name = "<init>") (hscr : own = 12 → va_X (g vm_scr) L xs s s.heap ∧ g vm_scr < s.heap.size ∧ ¬ b0 ≤ g vm_scr) (hg : ∀ q, q < 1099511627776 → g q = b0 + q) (hh0 : s.heap.size = b0 + n0) (hnr : vm_n r.2 ≤ 1099511627776)
    (hRc : vm_n r.2 - n0 ≤ R.cells) (hRs : vm_s r.2 - s0 ≤ R.slots) (hRf : d + 9 ≤ R.frames) (hRl : 100 * (d + 9) ≤ R.locals)
    (hO : ∀ i as M r', O i as M r' → vm_n M ≤ vm_n r'.2 ∧ vm_s M ≤ vm_s r'.2 ∧ (i < 203 → vm_n r'.2 ≤ 1099511627776 → vm_Ok l g cA D b0 X d i as M r')) {E : Nat → vm_L → List Value → vm_M → Prop}
    (ih : ∀ pc lv st M, E pc lv st M → n0 ≤ vm_n M → s0 ≤ vm_s M → ∀ (H : Heap) (locs : List Loc) (ls : Array Slot), lv_has ls nL (vm_trl g lv) → vm_In g cA D M H → va_S (fun q => b0 ≤ q) s.heap H locs → W p l e R s m args below meth c H locs (vm_n M - n0) (vm_s M - s0) Q (F0 m pc ls (st.map (vm_tr g))))
    (hup : ∀ pc lv st M, E pc lv st M → vm_up M r)
    (hret : ∀ pc ins (H : Heap) (locs : List Loc) (ls : Array Slot), decode cc pc = .ok (ins, 1) → vm_isr ins r.1 → vm_In g cA D r.2 H → va_S (fun q => b0 ≤ q) s.heap H locs → W p l e R s m args below meth c H locs (vm_n r.2 - n0) (vm_s r.2 - s0) Q (F0 m pc ls (r.1.toList.map (vm_tr g))))
    {pc : Nat} {lv : vm_L} {st : List Value} {M : vm_M}  {a b : Nat} {v : Int} (hdg : decode cc pc = .ok (.lcmp, vm_len (.lcmp) b)) (hlk : vm_lk own (.lcmp) a b v) (h : vm_do O L xs own ini nL r E pc lv st M (.lcmp) a b v) (hn : n0 ≤ vm_n M) (hsl : s0 ≤ vm_s M) {H : Heap} {locs : List Loc} {ls : Array Slot} (hl : lv_has ls nL (vm_trl g lv)) (hI : vm_In g cA D M H) (hS : va_S (fun q => b0 ≤ q) s.heap H locs) :
    W p l e R s m args below meth c H locs (vm_n M - n0) (vm_s M - s0) Q (F0 m pc ls (st.map (vm_tr g))) := by
  have hupM : vm_up M r := vm_do_up (fun i as M r' ho => ⟨(hO i as M r' ho).1, (hO i as M r' ho).2.1⟩) hup h
  have hnM : vm_n M ≤ 1099511627776 := Nat.le_trans hupM.1 hnr
  have hDd : va_D (fun q => b0 ≤ q) (vm_w g cA M) := vm_Dd hg hnM
  have hA : ∀ q, s.heap.size ≤ q → (fun q => b0 ≤ q) q := fun q hq => by show b0 ≤ q; omega
  have go : ∀ {pc lv st ls}, E pc lv st M → lv_has ls nL (vm_trl g lv) → W p l e R s m args below meth c H locs (vm_n M - n0) (vm_s M - s0) Q (F0 m pc ls (st.map (vm_tr g))) := fun hE hl => ih _ _ _ _ hE hn hsl _ _ _ hl hI hS
  have hcs : vm_n M - n0 ≤ R.cells := Nat.le_trans (Nat.sub_le_sub_right hupM.1 n0) hRc
  have hss : vm_s M - s0 ≤ R.slots := Nat.le_trans (Nat.sub_le_sub_right hupM.2 s0) hRs
  have hml2 : c.maxLocals = ls.size := hml.trans hl.1.symm
  have arr : ∀ {q t n}, q < vm_n M → vm_sh M q = .inr (t, n) → (vm_w g cA M)[q]? = some (g q, .inl (cA t, n, vm_ct g M q t)) := fun hq hs => by rw [vm_w_at hq, vm_e_arr hs]
  have obj : ∀ {q a}, q < vm_n M → vm_sh M q = .inl a → (vm_w g cA M)[q]? = some (g q, .inr (a, (List.range (vg_N a)).map (fun k => vm_tr g (vm_gv M q (vg_y a k) k)))) := fun hq hs => by rw [vm_w_at hq, vm_e_obj hs]
  have hf1 : 1 ≤ R.frames := by omega
  have hl9 : 900 ≤ R.locals := vm_ar4 hRl
  simp only [vm_do] at h
  obtain ⟨x, y, st', rfl, h⟩ := h
  exact W.lcmp hx hb hdg (go h hl)
set_option maxHeartbeats 1000000 in
set_option maxRecDepth 20000 in
theorem vm_step_dup {p : Program} {l : Launch} {e : Env} {R : Room} {s : State} {m : MethodId} {args : Array Value} {below : List Frame} {meth : Method} {c : Code} {Q : State → Prop} {cc : ByteArray} {O : Nat → List Value → vm_M → vm_R → Prop} {L : Nat} {xs : Nat → Int32} {own : Nat} {ini : Bool} {nL n0 s0 b0 d : Nat} {g : Nat → Nat} {cA : Nat → ClassId} {D : va_G} {X : State → Prop} {r : vm_R}
    (hx : p.tables.exec = Jvm.exec) (hb : c.code = cc) (hml : c.maxLocals = nL) (hown : s.vm.findClass (vg_O own) = some m.cls) (hts : ∀ w ∈ vt, w.before args s = true) (hK : va_K D vg_cl (vm_tys cA) s) (hN : vm_Nx s) (hX : X s) (hXs : vm_Str b0 g X)
    (hin : ini = true → meth.name = "<init>") (hscr : own = 12 → va_X (g vm_scr) L xs s s.heap ∧ g vm_scr < s.heap.size ∧ ¬ b0 ≤ g vm_scr) (hg : ∀ q, q < 1099511627776 → g q = b0 + q) (hh0 : s.heap.size = b0 + n0) (hnr : vm_n r.2 ≤ 1099511627776)
    (hRc : vm_n r.2 - n0 ≤ R.cells) (hRs : vm_s r.2 - s0 ≤ R.slots) (hRf : d + 9 ≤ R.frames) (hRl : 100 * (d + 9) ≤ R.locals)
    (hO : ∀ i as M r', O i as M r' → vm_n M ≤ vm_n r'.2 ∧ vm_s M ≤ vm_s r'.2 ∧ (i < 203 → vm_n r'.2 ≤ 1099511627776 → vm_Ok l g cA D b0 X d i as M r')) {E : Nat → vm_L → List Value → vm_M → Prop}
    (ih : ∀ pc lv st M, E pc lv st M → n0 ≤ vm_n M → s0 ≤ vm_s M → ∀ (H : Heap) (locs : List Loc) (ls : Array Slot), lv_has ls nL (vm_trl g lv) → vm_In g cA D M H → va_S (fun q => b0 ≤ q) s.heap H locs → W p l e R s m args below meth c H locs (vm_n M - n0) (vm_s M - s0) Q (F0 m pc ls (st.map (vm_tr g))))
    (hup : ∀ pc lv st M, E pc lv st M → vm_up M r)
    (hret : ∀ pc ins (H : Heap) (locs : List Loc) (ls : Array Slot), decode cc pc = .ok (ins, 1) → vm_isr ins r.1 → vm_In g cA D r.2 H → va_S (fun q => b0 ≤ q) s.heap H locs → W p l e R s m args below meth c H locs (vm_n r.2 - n0) (vm_s r.2 - s0) Q (F0 m pc ls (r.1.toList.map (vm_tr g))))
    {pc : Nat} {lv : vm_L} {st : List Value} {M : vm_M}  {a b : Nat} {v : Int} (hdg : decode cc pc = .ok (.dup, vm_len (.dup) b)) (hlk : vm_lk own (.dup) a b v) (h : vm_do O L xs own ini nL r E pc lv st M (.dup) a b v) (hn : n0 ≤ vm_n M) (hsl : s0 ≤ vm_s M) {H : Heap} {locs : List Loc} {ls : Array Slot} (hl : lv_has ls nL (vm_trl g lv)) (hI : vm_In g cA D M H) (hS : va_S (fun q => b0 ≤ q) s.heap H locs) :
    W p l e R s m args below meth c H locs (vm_n M - n0) (vm_s M - s0) Q (F0 m pc ls (st.map (vm_tr g))) := by
  have hupM : vm_up M r := vm_do_up (fun i as M r' ho => ⟨(hO i as M r' ho).1, (hO i as M r' ho).2.1⟩) hup h
  have hnM : vm_n M ≤ 1099511627776 := Nat.le_trans hupM.1 hnr
  have hDd : va_D (fun q => b0 ≤ q) (vm_w g cA M) := vm_Dd hg hnM
  have hA : ∀ q, s.heap.size ≤ q → (fun q => b0 ≤ q) q := fun q hq => by show b0 ≤ q; omega
  have go : ∀ {pc lv st ls}, E pc lv st M → lv_has ls nL (vm_trl g lv) → W p l e R s m args below meth c H locs (vm_n M - n0) (vm_s M - s0) Q (F0 m pc ls (st.map (vm_tr g))) := fun hE hl => ih _ _ _ _ hE hn hsl _ _ _ hl hI hS
  have hcs : vm_n M - n0 ≤ R.cells := Nat.le_trans (Nat.sub_le_sub_right hupM.1 n0) hRc
  have hss : vm_s M - s0 ≤ R.slots := Nat.le_trans (Nat.sub_le_sub_right hupM.2 s0) hRs
  have hml2 : c.maxLocals = ls.size := hml.trans hl.1.symm
  have arr : ∀ {q t n}, q < vm_n M → vm_sh M q = .inr (t, n) → (vm_w g cA M)[q]? = some (g q, .inl (cA t, n, vm_ct g M q t)) := fun hq hs => by rw [vm_w_at hq, vm_e_arr hs]
  have obj : ∀ {q a}, q < vm_n M → vm_sh M q = .inl a → (vm_w g cA M)[q]? = some (g q, .inr (a, (List.range (vg_N a)).map (fun k => vm_tr g (vm_gv M q (vg_y a k) k)))) := fun hq hs => by rw [vm_w_at hq, vm_e_obj hs]
  have hf1 : 1 ≤ R.frames := by omega
  have hl9 : 900 ≤ R.locals := vm_ar4 hRl
  simp only [vm_do] at h
  obtain ⟨x, st', rfl, hc, h⟩ := h
  exact lv_dup hx hb hdg ((vm_tr_cat g x).trans hc) (go h hl)
set_option maxHeartbeats 1000000 in
set_option maxRecDepth 20000 in
theorem vm_step_dup_x1 {p : Program} {l : Launch} {e : Env} {R : Room} {s : State} {m : MethodId} {args : Array Value} {below : List Frame} {meth : Method} {c : Code} {Q : State → Prop} {cc : ByteArray} {O : Nat → List Value → vm_M → vm_R → Prop} {L : Nat} {xs : Nat → Int32} {own : Nat} {ini : Bool} {nL n0 s0 b0 d : Nat} {g : Nat → Nat} {cA : Nat → ClassId} {D : va_G} {X : State → Prop} {r : vm_R}
    (hx : p.tables.exec = Jvm.exec) (hb : c.code = cc) (hml : c.maxLocals = nL) (hown : s.vm.findClass (vg_O own) = some m.cls) (hts : ∀ w ∈ vt, w.before args s = true) (hK : va_K D vg_cl (vm_tys cA) s) (hN : vm_Nx s) (hX : X s) (hXs : vm_Str b0 g X)
    (hin : ini = true → meth.name = "<init>") (hscr : own = 12 → va_X (g vm_scr) L xs s s.heap ∧ g vm_scr < s.heap.size ∧ ¬ b0 ≤ g vm_scr) (hg : ∀ q, q < 1099511627776 → g q = b0 + q) (hh0 : s.heap.size = b0 + n0) (hnr : vm_n r.2 ≤ 1099511627776)
    (hRc : vm_n r.2 - n0 ≤ R.cells) (hRs : vm_s r.2 - s0 ≤ R.slots) (hRf : d + 9 ≤ R.frames) (hRl : 100 * (d + 9) ≤ R.locals)
    (hO : ∀ i as M r', O i as M r' → vm_n M ≤ vm_n r'.2 ∧ vm_s M ≤ vm_s r'.2 ∧ (i < 203 → vm_n r'.2 ≤ 1099511627776 → vm_Ok l g cA D b0 X d i as M r')) {E : Nat → vm_L → List Value → vm_M → Prop}
    (ih : ∀ pc lv st M, E pc lv st M → n0 ≤ vm_n M → s0 ≤ vm_s M → ∀ (H : Heap) (locs : List Loc) (ls : Array Slot), lv_has ls nL (vm_trl g lv) → vm_In g cA D M H → va_S (fun q => b0 ≤ q) s.heap H locs → W p l e R s m args below meth c H locs (vm_n M - n0) (vm_s M - s0) Q (F0 m pc ls (st.map (vm_tr g))))
    (hup : ∀ pc lv st M, E pc lv st M → vm_up M r)
    (hret : ∀ pc ins (H : Heap) (locs : List Loc) (ls : Array Slot), decode cc pc = .ok (ins, 1) → vm_isr ins r.1 → vm_In g cA D r.2 H → va_S (fun q => b0 ≤ q) s.heap H locs → W p l e R s m args below meth c H locs (vm_n r.2 - n0) (vm_s r.2 - s0) Q (F0 m pc ls (r.1.toList.map (vm_tr g))))
    {pc : Nat} {lv : vm_L} {st : List Value} {M : vm_M}  {a b : Nat} {v : Int} (hdg : decode cc pc = .ok (.dup_x1, vm_len (.dup_x1) b)) (hlk : vm_lk own (.dup_x1) a b v) (h : vm_do O L xs own ini nL r E pc lv st M (.dup_x1) a b v) (hn : n0 ≤ vm_n M) (hsl : s0 ≤ vm_s M) {H : Heap} {locs : List Loc} {ls : Array Slot} (hl : lv_has ls nL (vm_trl g lv)) (hI : vm_In g cA D M H) (hS : va_S (fun q => b0 ≤ q) s.heap H locs) :
    W p l e R s m args below meth c H locs (vm_n M - n0) (vm_s M - s0) Q (F0 m pc ls (st.map (vm_tr g))) := by
  have hupM : vm_up M r := vm_do_up (fun i as M r' ho => ⟨(hO i as M r' ho).1, (hO i as M r' ho).2.1⟩) hup h
  have hnM : vm_n M ≤ 1099511627776 := Nat.le_trans hupM.1 hnr
  have hDd : va_D (fun q => b0 ≤ q) (vm_w g cA M) := vm_Dd hg hnM
  have hA : ∀ q, s.heap.size ≤ q → (fun q => b0 ≤ q) q := fun q hq => by show b0 ≤ q; omega
  have go : ∀ {pc lv st ls}, E pc lv st M → lv_has ls nL (vm_trl g lv) → W p l e R s m args below meth c H locs (vm_n M - n0) (vm_s M - s0) Q (F0 m pc ls (st.map (vm_tr g))) := fun hE hl => ih _ _ _ _ hE hn hsl _ _ _ hl hI hS
  have hcs : vm_n M - n0 ≤ R.cells := Nat.le_trans (Nat.sub_le_sub_right hupM.1 n0) hRc
  have hss : vm_s M - s0 ≤ R.slots := Nat.le_trans (Nat.sub_le_sub_right hupM.2 s0) hRs
  have hml2 : c.maxLocals = ls.size := hml.trans hl.1.symm
  have arr : ∀ {q t n}, q < vm_n M → vm_sh M q = .inr (t, n) → (vm_w g cA M)[q]? = some (g q, .inl (cA t, n, vm_ct g M q t)) := fun hq hs => by rw [vm_w_at hq, vm_e_arr hs]
  have obj : ∀ {q a}, q < vm_n M → vm_sh M q = .inl a → (vm_w g cA M)[q]? = some (g q, .inr (a, (List.range (vg_N a)).map (fun k => vm_tr g (vm_gv M q (vg_y a k) k)))) := fun hq hs => by rw [vm_w_at hq, vm_e_obj hs]
  have hf1 : 1 ≤ R.frames := by omega
  have hl9 : 900 ≤ R.locals := vm_ar4 hRl
  simp only [vm_do] at h
  obtain ⟨x, y, st', rfl, hc, hc2, h⟩ := h
  exact lv_dup_x1 hx hb hdg ((vm_tr_cat g x).trans hc) ((vm_tr_cat g y).trans hc2) (go h hl)
set_option maxHeartbeats 1000000 in
set_option maxRecDepth 20000 in
theorem vm_step_dup2 {p : Program} {l : Launch} {e : Env} {R : Room} {s : State} {m : MethodId} {args : Array Value} {below : List Frame} {meth : Method} {c : Code} {Q : State → Prop} {cc : ByteArray} {O : Nat → List Value → vm_M → vm_R → Prop} {L : Nat} {xs : Nat → Int32} {own : Nat} {ini : Bool} {nL n0 s0 b0 d : Nat} {g : Nat → Nat} {cA : Nat → ClassId} {D : va_G} {X : State → Prop} {r : vm_R}
    (hx : p.tables.exec = Jvm.exec) (hb : c.code = cc) (hml : c.maxLocals = nL) (hown : s.vm.findClass (vg_O own) = some m.cls) (hts : ∀ w ∈ vt, w.before args s = true) (hK : va_K D vg_cl (vm_tys cA) s) (hN : vm_Nx s) (hX : X s) (hXs : vm_Str b0 g X)
    (hin : ini = true → meth.name = "<init>") (hscr : own = 12 → va_X (g vm_scr) L xs s s.heap ∧ g vm_scr < s.heap.size ∧ ¬ b0 ≤ g vm_scr) (hg : ∀ q, q < 1099511627776 → g q = b0 + q) (hh0 : s.heap.size = b0 + n0) (hnr : vm_n r.2 ≤ 1099511627776)
    (hRc : vm_n r.2 - n0 ≤ R.cells) (hRs : vm_s r.2 - s0 ≤ R.slots) (hRf : d + 9 ≤ R.frames) (hRl : 100 * (d + 9) ≤ R.locals)
    (hO : ∀ i as M r', O i as M r' → vm_n M ≤ vm_n r'.2 ∧ vm_s M ≤ vm_s r'.2 ∧ (i < 203 → vm_n r'.2 ≤ 1099511627776 → vm_Ok l g cA D b0 X d i as M r')) {E : Nat → vm_L → List Value → vm_M → Prop}
    (ih : ∀ pc lv st M, E pc lv st M → n0 ≤ vm_n M → s0 ≤ vm_s M → ∀ (H : Heap) (locs : List Loc) (ls : Array Slot), lv_has ls nL (vm_trl g lv) → vm_In g cA D M H → va_S (fun q => b0 ≤ q) s.heap H locs → W p l e R s m args below meth c H locs (vm_n M - n0) (vm_s M - s0) Q (F0 m pc ls (st.map (vm_tr g))))
    (hup : ∀ pc lv st M, E pc lv st M → vm_up M r)
    (hret : ∀ pc ins (H : Heap) (locs : List Loc) (ls : Array Slot), decode cc pc = .ok (ins, 1) → vm_isr ins r.1 → vm_In g cA D r.2 H → va_S (fun q => b0 ≤ q) s.heap H locs → W p l e R s m args below meth c H locs (vm_n r.2 - n0) (vm_s r.2 - s0) Q (F0 m pc ls (r.1.toList.map (vm_tr g))))
    {pc : Nat} {lv : vm_L} {st : List Value} {M : vm_M}  {a b : Nat} {v : Int} (hdg : decode cc pc = .ok (.dup2, vm_len (.dup2) b)) (hlk : vm_lk own (.dup2) a b v) (h : vm_do O L xs own ini nL r E pc lv st M (.dup2) a b v) (hn : n0 ≤ vm_n M) (hsl : s0 ≤ vm_s M) {H : Heap} {locs : List Loc} {ls : Array Slot} (hl : lv_has ls nL (vm_trl g lv)) (hI : vm_In g cA D M H) (hS : va_S (fun q => b0 ≤ q) s.heap H locs) :
    W p l e R s m args below meth c H locs (vm_n M - n0) (vm_s M - s0) Q (F0 m pc ls (st.map (vm_tr g))) := by
  have hupM : vm_up M r := vm_do_up (fun i as M r' ho => ⟨(hO i as M r' ho).1, (hO i as M r' ho).2.1⟩) hup h
  have hnM : vm_n M ≤ 1099511627776 := Nat.le_trans hupM.1 hnr
  have hDd : va_D (fun q => b0 ≤ q) (vm_w g cA M) := vm_Dd hg hnM
  have hA : ∀ q, s.heap.size ≤ q → (fun q => b0 ≤ q) q := fun q hq => by show b0 ≤ q; omega
  have go : ∀ {pc lv st ls}, E pc lv st M → lv_has ls nL (vm_trl g lv) → W p l e R s m args below meth c H locs (vm_n M - n0) (vm_s M - s0) Q (F0 m pc ls (st.map (vm_tr g))) := fun hE hl => ih _ _ _ _ hE hn hsl _ _ _ hl hI hS
  have hcs : vm_n M - n0 ≤ R.cells := Nat.le_trans (Nat.sub_le_sub_right hupM.1 n0) hRc
  have hss : vm_s M - s0 ≤ R.slots := Nat.le_trans (Nat.sub_le_sub_right hupM.2 s0) hRs
  have hml2 : c.maxLocals = ls.size := hml.trans hl.1.symm
  have arr : ∀ {q t n}, q < vm_n M → vm_sh M q = .inr (t, n) → (vm_w g cA M)[q]? = some (g q, .inl (cA t, n, vm_ct g M q t)) := fun hq hs => by rw [vm_w_at hq, vm_e_arr hs]
  have obj : ∀ {q a}, q < vm_n M → vm_sh M q = .inl a → (vm_w g cA M)[q]? = some (g q, .inr (a, (List.range (vg_N a)).map (fun k => vm_tr g (vm_gv M q (vg_y a k) k)))) := fun hq hs => by rw [vm_w_at hq, vm_e_obj hs]
  have hf1 : 1 ≤ R.frames := by omega
  have hl9 : 900 ≤ R.locals := vm_ar4 hRl
  simp only [vm_do] at h
  rcases h with ⟨x, y, st', rfl, hc, hc2, h⟩ | ⟨x, st', rfl, hc, h⟩
  · exact lv_dup2_11 hx hb hdg ((vm_tr_cat g x).trans hc) ((vm_tr_cat g y).trans hc2) (go h hl)
  · exact lv_dup2_2 hx hb hdg ((vm_tr_cat g x).trans hc) (go h hl)
set_option maxHeartbeats 1000000 in
set_option maxRecDepth 20000 in
theorem vm_step_ifCond {p : Program} {l : Launch} {e : Env} {R : Room} {s : State} {m : MethodId} {args : Array Value} {below : List Frame} {meth : Method} {c : Code} {Q : State → Prop} {cc : ByteArray} {O : Nat → List Value → vm_M → vm_R → Prop} {L : Nat} {xs : Nat → Int32} {own : Nat} {ini : Bool} {nL n0 s0 b0 d : Nat} {g : Nat → Nat} {cA : Nat → ClassId} {D : va_G} {X : State → Prop} {r : vm_R}
    (hx : p.tables.exec = Jvm.exec) (hb : c.code = cc) (hml : c.maxLocals = nL) (hown : s.vm.findClass (vg_O own) = some m.cls) (hts : ∀ w ∈ vt, w.before args s = true) (hK : va_K D vg_cl (vm_tys cA) s) (hN : vm_Nx s) (hX : X s) (hXs : vm_Str b0 g X)
    (hin : ini = true → meth.name = "<init>") (hscr : own = 12 → va_X (g vm_scr) L xs s s.heap ∧ g vm_scr < s.heap.size ∧ ¬ b0 ≤ g vm_scr) (hg : ∀ q, q < 1099511627776 → g q = b0 + q) (hh0 : s.heap.size = b0 + n0) (hnr : vm_n r.2 ≤ 1099511627776)
    (hRc : vm_n r.2 - n0 ≤ R.cells) (hRs : vm_s r.2 - s0 ≤ R.slots) (hRf : d + 9 ≤ R.frames) (hRl : 100 * (d + 9) ≤ R.locals)
    (hO : ∀ i as M r', O i as M r' → vm_n M ≤ vm_n r'.2 ∧ vm_s M ≤ vm_s r'.2 ∧ (i < 203 → vm_n r'.2 ≤ 1099511627776 → vm_Ok l g cA D b0 X d i as M r')) {E : Nat → vm_L → List Value → vm_M → Prop}
    (ih : ∀ pc lv st M, E pc lv st M → n0 ≤ vm_n M → s0 ≤ vm_s M → ∀ (H : Heap) (locs : List Loc) (ls : Array Slot), lv_has ls nL (vm_trl g lv) → vm_In g cA D M H → va_S (fun q => b0 ≤ q) s.heap H locs → W p l e R s m args below meth c H locs (vm_n M - n0) (vm_s M - s0) Q (F0 m pc ls (st.map (vm_tr g))))
    (hup : ∀ pc lv st M, E pc lv st M → vm_up M r)
    (hret : ∀ pc ins (H : Heap) (locs : List Loc) (ls : Array Slot), decode cc pc = .ok (ins, 1) → vm_isr ins r.1 → vm_In g cA D r.2 H → va_S (fun q => b0 ≤ q) s.heap H locs → W p l e R s m args below meth c H locs (vm_n r.2 - n0) (vm_s r.2 - s0) Q (F0 m pc ls (r.1.toList.map (vm_tr g))))
    {pc : Nat} {lv : vm_L} {st : List Value} {M : vm_M} {cond : Jvm.ClassFile.Cond} {off : Int} {a b : Nat} {v : Int} (hdg : decode cc pc = .ok (.ifCond cond off, vm_len (.ifCond cond off) b)) (hlk : vm_lk own (.ifCond cond off) a b v) (h : vm_do O L xs own ini nL r E pc lv st M (.ifCond cond off) a b v) (hn : n0 ≤ vm_n M) (hsl : s0 ≤ vm_s M) {H : Heap} {locs : List Loc} {ls : Array Slot} (hl : lv_has ls nL (vm_trl g lv)) (hI : vm_In g cA D M H) (hS : va_S (fun q => b0 ≤ q) s.heap H locs) :
    W p l e R s m args below meth c H locs (vm_n M - n0) (vm_s M - s0) Q (F0 m pc ls (st.map (vm_tr g))) := by
  have hupM : vm_up M r := vm_do_up (fun i as M r' ho => ⟨(hO i as M r' ho).1, (hO i as M r' ho).2.1⟩) hup h
  have hnM : vm_n M ≤ 1099511627776 := Nat.le_trans hupM.1 hnr
  have hDd : va_D (fun q => b0 ≤ q) (vm_w g cA M) := vm_Dd hg hnM
  have hA : ∀ q, s.heap.size ≤ q → (fun q => b0 ≤ q) q := fun q hq => by show b0 ≤ q; omega
  have go : ∀ {pc lv st ls}, E pc lv st M → lv_has ls nL (vm_trl g lv) → W p l e R s m args below meth c H locs (vm_n M - n0) (vm_s M - s0) Q (F0 m pc ls (st.map (vm_tr g))) := fun hE hl => ih _ _ _ _ hE hn hsl _ _ _ hl hI hS
  have hcs : vm_n M - n0 ≤ R.cells := Nat.le_trans (Nat.sub_le_sub_right hupM.1 n0) hRc
  have hss : vm_s M - s0 ≤ R.slots := Nat.le_trans (Nat.sub_le_sub_right hupM.2 s0) hRs
  have hml2 : c.maxLocals = ls.size := hml.trans hl.1.symm
  have arr : ∀ {q t n}, q < vm_n M → vm_sh M q = .inr (t, n) → (vm_w g cA M)[q]? = some (g q, .inl (cA t, n, vm_ct g M q t)) := fun hq hs => by rw [vm_w_at hq, vm_e_arr hs]
  have obj : ∀ {q a}, q < vm_n M → vm_sh M q = .inl a → (vm_w g cA M)[q]? = some (g q, .inr (a, (List.range (vg_N a)).map (fun k => vm_tr g (vm_gv M q (vg_y a k) k)))) := fun hq hs => by rw [vm_w_at hq, vm_e_obj hs]
  have hf1 : 1 ≤ R.frames := by omega
  have hl9 : 900 ≤ R.locals := vm_ar4 hRl
  simp only [vm_do] at h
  obtain ⟨x, st', t, rfl, ht, h1, h2⟩ := h
  cases cond
  · exact lv_if_eq hx hb hdg ht (fun q => go (h1 q) hl) (fun q => go (h2 q) hl)
  · exact lv_if_ne hx hb hdg ht (fun q => go (h1 q) hl) (fun q => go (h2 (fun z => z q)) hl)
  · exact lv_if_lt hx hb hdg ht (fun q => go (h1 q) hl) (fun q => go (h2 q) hl)
  · exact lv_if_ge hx hb hdg ht (fun q => go (h1 q) hl) (fun q => go (h2 q) hl)
  · exact lv_if_gt hx hb hdg ht (fun q => go (h1 q) hl) (fun q => go (h2 q) hl)
  · exact lv_if_le hx hb hdg ht (fun q => go (h1 q) hl) (fun q => go (h2 q) hl)
set_option maxHeartbeats 1000000 in
set_option maxRecDepth 20000 in
theorem vm_step_if_icmp {p : Program} {l : Launch} {e : Env} {R : Room} {s : State} {m : MethodId} {args : Array Value} {below : List Frame} {meth : Method} {c : Code} {Q : State → Prop} {cc : ByteArray} {O : Nat → List Value → vm_M → vm_R → Prop} {L : Nat} {xs : Nat → Int32} {own : Nat} {ini : Bool} {nL n0 s0 b0 d : Nat} {g : Nat → Nat} {cA : Nat → ClassId} {D : va_G} {X : State → Prop} {r : vm_R}
    (hx : p.tables.exec = Jvm.exec) (hb : c.code = cc) (hml : c.maxLocals = nL) (hown : s.vm.findClass (vg_O own) = some m.cls) (hts : ∀ w ∈ vt, w.before args s = true) (hK : va_K D vg_cl (vm_tys cA) s) (hN : vm_Nx s) (hX : X s) (hXs : vm_Str b0 g X)
    (hin : ini = true → meth.name = "<init>") (hscr : own = 12 → va_X (g vm_scr) L xs s s.heap ∧ g vm_scr < s.heap.size ∧ ¬ b0 ≤ g vm_scr) (hg : ∀ q, q < 1099511627776 → g q = b0 + q) (hh0 : s.heap.size = b0 + n0) (hnr : vm_n r.2 ≤ 1099511627776)
    (hRc : vm_n r.2 - n0 ≤ R.cells) (hRs : vm_s r.2 - s0 ≤ R.slots) (hRf : d + 9 ≤ R.frames) (hRl : 100 * (d + 9) ≤ R.locals)
    (hO : ∀ i as M r', O i as M r' → vm_n M ≤ vm_n r'.2 ∧ vm_s M ≤ vm_s r'.2 ∧ (i < 203 → vm_n r'.2 ≤ 1099511627776 → vm_Ok l g cA D b0 X d i as M r')) {E : Nat → vm_L → List Value → vm_M → Prop}
    (ih : ∀ pc lv st M, E pc lv st M → n0 ≤ vm_n M → s0 ≤ vm_s M → ∀ (H : Heap) (locs : List Loc) (ls : Array Slot), lv_has ls nL (vm_trl g lv) → vm_In g cA D M H → va_S (fun q => b0 ≤ q) s.heap H locs → W p l e R s m args below meth c H locs (vm_n M - n0) (vm_s M - s0) Q (F0 m pc ls (st.map (vm_tr g))))
    (hup : ∀ pc lv st M, E pc lv st M → vm_up M r)
    (hret : ∀ pc ins (H : Heap) (locs : List Loc) (ls : Array Slot), decode cc pc = .ok (ins, 1) → vm_isr ins r.1 → vm_In g cA D r.2 H → va_S (fun q => b0 ≤ q) s.heap H locs → W p l e R s m args below meth c H locs (vm_n r.2 - n0) (vm_s r.2 - s0) Q (F0 m pc ls (r.1.toList.map (vm_tr g))))
    {pc : Nat} {lv : vm_L} {st : List Value} {M : vm_M} {cond : Jvm.ClassFile.Cond} {off : Int} {a b : Nat} {v : Int} (hdg : decode cc pc = .ok (.if_icmp cond off, vm_len (.if_icmp cond off) b)) (hlk : vm_lk own (.if_icmp cond off) a b v) (h : vm_do O L xs own ini nL r E pc lv st M (.if_icmp cond off) a b v) (hn : n0 ≤ vm_n M) (hsl : s0 ≤ vm_s M) {H : Heap} {locs : List Loc} {ls : Array Slot} (hl : lv_has ls nL (vm_trl g lv)) (hI : vm_In g cA D M H) (hS : va_S (fun q => b0 ≤ q) s.heap H locs) :
    W p l e R s m args below meth c H locs (vm_n M - n0) (vm_s M - s0) Q (F0 m pc ls (st.map (vm_tr g))) := by
  have hupM : vm_up M r := vm_do_up (fun i as M r' ho => ⟨(hO i as M r' ho).1, (hO i as M r' ho).2.1⟩) hup h
  have hnM : vm_n M ≤ 1099511627776 := Nat.le_trans hupM.1 hnr
  have hDd : va_D (fun q => b0 ≤ q) (vm_w g cA M) := vm_Dd hg hnM
  have hA : ∀ q, s.heap.size ≤ q → (fun q => b0 ≤ q) q := fun q hq => by show b0 ≤ q; omega
  have go : ∀ {pc lv st ls}, E pc lv st M → lv_has ls nL (vm_trl g lv) → W p l e R s m args below meth c H locs (vm_n M - n0) (vm_s M - s0) Q (F0 m pc ls (st.map (vm_tr g))) := fun hE hl => ih _ _ _ _ hE hn hsl _ _ _ hl hI hS
  have hcs : vm_n M - n0 ≤ R.cells := Nat.le_trans (Nat.sub_le_sub_right hupM.1 n0) hRc
  have hss : vm_s M - s0 ≤ R.slots := Nat.le_trans (Nat.sub_le_sub_right hupM.2 s0) hRs
  have hml2 : c.maxLocals = ls.size := hml.trans hl.1.symm
  have arr : ∀ {q t n}, q < vm_n M → vm_sh M q = .inr (t, n) → (vm_w g cA M)[q]? = some (g q, .inl (cA t, n, vm_ct g M q t)) := fun hq hs => by rw [vm_w_at hq, vm_e_arr hs]
  have obj : ∀ {q a}, q < vm_n M → vm_sh M q = .inl a → (vm_w g cA M)[q]? = some (g q, .inr (a, (List.range (vg_N a)).map (fun k => vm_tr g (vm_gv M q (vg_y a k) k)))) := fun hq hs => by rw [vm_w_at hq, vm_e_obj hs]
  have hf1 : 1 ≤ R.frames := by omega
  have hl9 : 900 ≤ R.locals := vm_ar4 hRl
  simp only [vm_do] at h
  obtain ⟨x, y, st', t, rfl, ht, h1, h2⟩ := h
  cases cond
  · exact lv_icmp_eq hx hb hdg ht (fun q => go (h1 q) hl) (fun q => go (h2 q) hl)
  · exact lv_icmp_ne hx hb hdg ht (fun q => go (h1 q) hl) (fun q => go (h2 (fun z => z q)) hl)
  · exact lv_icmp_lt hx hb hdg ht (fun q => go (h1 q) hl) (fun q => go (h2 q) hl)
  · exact lv_icmp_ge hx hb hdg ht (fun q => go (h1 q) hl) (fun q => go (h2 q) hl)
  · exact lv_icmp_gt hx hb hdg ht (fun q => go (h1 q) hl) (fun q => go (h2 q) hl)
  · exact lv_icmp_le hx hb hdg ht (fun q => go (h1 q) hl) (fun q => go (h2 q) hl)
set_option maxHeartbeats 1000000 in
set_option maxRecDepth 20000 in
theorem vm_step_goto {p : Program} {l : Launch} {e : Env} {R : Room} {s : State} {m : MethodId} {args : Array Value} {below : List Frame} {meth : Method} {c : Code} {Q : State → Prop} {cc : ByteArray} {O : Nat → List Value → vm_M → vm_R → Prop} {L : Nat} {xs : Nat → Int32} {own : Nat} {ini : Bool} {nL n0 s0 b0 d : Nat} {g : Nat → Nat} {cA : Nat → ClassId} {D : va_G} {X : State → Prop} {r : vm_R}
    (hx : p.tables.exec = Jvm.exec) (hb : c.code = cc) (hml : c.maxLocals = nL) (hown : s.vm.findClass (vg_O own) = some m.cls) (hts : ∀ w ∈ vt, w.before args s = true) (hK : va_K D vg_cl (vm_tys cA) s) (hN : vm_Nx s) (hX : X s) (hXs : vm_Str b0 g X)
    (hin : ini = true → meth.name = "<init>") (hscr : own = 12 → va_X (g vm_scr) L xs s s.heap ∧ g vm_scr < s.heap.size ∧ ¬ b0 ≤ g vm_scr) (hg : ∀ q, q < 1099511627776 → g q = b0 + q) (hh0 : s.heap.size = b0 + n0) (hnr : vm_n r.2 ≤ 1099511627776)
    (hRc : vm_n r.2 - n0 ≤ R.cells) (hRs : vm_s r.2 - s0 ≤ R.slots) (hRf : d + 9 ≤ R.frames) (hRl : 100 * (d + 9) ≤ R.locals)
    (hO : ∀ i as M r', O i as M r' → vm_n M ≤ vm_n r'.2 ∧ vm_s M ≤ vm_s r'.2 ∧ (i < 203 → vm_n r'.2 ≤ 1099511627776 → vm_Ok l g cA D b0 X d i as M r')) {E : Nat → vm_L → List Value → vm_M → Prop}
    (ih : ∀ pc lv st M, E pc lv st M → n0 ≤ vm_n M → s0 ≤ vm_s M → ∀ (H : Heap) (locs : List Loc) (ls : Array Slot), lv_has ls nL (vm_trl g lv) → vm_In g cA D M H → va_S (fun q => b0 ≤ q) s.heap H locs → W p l e R s m args below meth c H locs (vm_n M - n0) (vm_s M - s0) Q (F0 m pc ls (st.map (vm_tr g))))
    (hup : ∀ pc lv st M, E pc lv st M → vm_up M r)
    (hret : ∀ pc ins (H : Heap) (locs : List Loc) (ls : Array Slot), decode cc pc = .ok (ins, 1) → vm_isr ins r.1 → vm_In g cA D r.2 H → va_S (fun q => b0 ≤ q) s.heap H locs → W p l e R s m args below meth c H locs (vm_n r.2 - n0) (vm_s r.2 - s0) Q (F0 m pc ls (r.1.toList.map (vm_tr g))))
    {pc : Nat} {lv : vm_L} {st : List Value} {M : vm_M} {off : Int} {a b : Nat} {v : Int} (hdg : decode cc pc = .ok (.goto off, vm_len (.goto off) b)) (hlk : vm_lk own (.goto off) a b v) (h : vm_do O L xs own ini nL r E pc lv st M (.goto off) a b v) (hn : n0 ≤ vm_n M) (hsl : s0 ≤ vm_s M) {H : Heap} {locs : List Loc} {ls : Array Slot} (hl : lv_has ls nL (vm_trl g lv)) (hI : vm_In g cA D M H) (hS : va_S (fun q => b0 ≤ q) s.heap H locs) :
    W p l e R s m args below meth c H locs (vm_n M - n0) (vm_s M - s0) Q (F0 m pc ls (st.map (vm_tr g))) := by
  have hupM : vm_up M r := vm_do_up (fun i as M r' ho => ⟨(hO i as M r' ho).1, (hO i as M r' ho).2.1⟩) hup h
  have hnM : vm_n M ≤ 1099511627776 := Nat.le_trans hupM.1 hnr
  have hDd : va_D (fun q => b0 ≤ q) (vm_w g cA M) := vm_Dd hg hnM
  have hA : ∀ q, s.heap.size ≤ q → (fun q => b0 ≤ q) q := fun q hq => by show b0 ≤ q; omega
  have go : ∀ {pc lv st ls}, E pc lv st M → lv_has ls nL (vm_trl g lv) → W p l e R s m args below meth c H locs (vm_n M - n0) (vm_s M - s0) Q (F0 m pc ls (st.map (vm_tr g))) := fun hE hl => ih _ _ _ _ hE hn hsl _ _ _ hl hI hS
  have hcs : vm_n M - n0 ≤ R.cells := Nat.le_trans (Nat.sub_le_sub_right hupM.1 n0) hRc
  have hss : vm_s M - s0 ≤ R.slots := Nat.le_trans (Nat.sub_le_sub_right hupM.2 s0) hRs
  have hml2 : c.maxLocals = ls.size := hml.trans hl.1.symm
  have arr : ∀ {q t n}, q < vm_n M → vm_sh M q = .inr (t, n) → (vm_w g cA M)[q]? = some (g q, .inl (cA t, n, vm_ct g M q t)) := fun hq hs => by rw [vm_w_at hq, vm_e_arr hs]
  have obj : ∀ {q a}, q < vm_n M → vm_sh M q = .inl a → (vm_w g cA M)[q]? = some (g q, .inr (a, (List.range (vg_N a)).map (fun k => vm_tr g (vm_gv M q (vg_y a k) k)))) := fun hq hs => by rw [vm_w_at hq, vm_e_obj hs]
  have hf1 : 1 ≤ R.frames := by omega
  have hl9 : 900 ≤ R.locals := vm_ar4 hRl
  simp only [vm_do] at h
  obtain ⟨t, ht, h⟩ := h
  exact lv_goto hx hb hdg ht (go h hl)
set_option maxHeartbeats 1000000 in
set_option maxRecDepth 20000 in
theorem vm_step_ifnull {p : Program} {l : Launch} {e : Env} {R : Room} {s : State} {m : MethodId} {args : Array Value} {below : List Frame} {meth : Method} {c : Code} {Q : State → Prop} {cc : ByteArray} {O : Nat → List Value → vm_M → vm_R → Prop} {L : Nat} {xs : Nat → Int32} {own : Nat} {ini : Bool} {nL n0 s0 b0 d : Nat} {g : Nat → Nat} {cA : Nat → ClassId} {D : va_G} {X : State → Prop} {r : vm_R}
    (hx : p.tables.exec = Jvm.exec) (hb : c.code = cc) (hml : c.maxLocals = nL) (hown : s.vm.findClass (vg_O own) = some m.cls) (hts : ∀ w ∈ vt, w.before args s = true) (hK : va_K D vg_cl (vm_tys cA) s) (hN : vm_Nx s) (hX : X s) (hXs : vm_Str b0 g X)
    (hin : ini = true → meth.name = "<init>") (hscr : own = 12 → va_X (g vm_scr) L xs s s.heap ∧ g vm_scr < s.heap.size ∧ ¬ b0 ≤ g vm_scr) (hg : ∀ q, q < 1099511627776 → g q = b0 + q) (hh0 : s.heap.size = b0 + n0) (hnr : vm_n r.2 ≤ 1099511627776)
    (hRc : vm_n r.2 - n0 ≤ R.cells) (hRs : vm_s r.2 - s0 ≤ R.slots) (hRf : d + 9 ≤ R.frames) (hRl : 100 * (d + 9) ≤ R.locals)
    (hO : ∀ i as M r', O i as M r' → vm_n M ≤ vm_n r'.2 ∧ vm_s M ≤ vm_s r'.2 ∧ (i < 203 → vm_n r'.2 ≤ 1099511627776 → vm_Ok l g cA D b0 X d i as M r')) {E : Nat → vm_L → List Value → vm_M → Prop}
    (ih : ∀ pc lv st M, E pc lv st M → n0 ≤ vm_n M → s0 ≤ vm_s M → ∀ (H : Heap) (locs : List Loc) (ls : Array Slot), lv_has ls nL (vm_trl g lv) → vm_In g cA D M H → va_S (fun q => b0 ≤ q) s.heap H locs → W p l e R s m args below meth c H locs (vm_n M - n0) (vm_s M - s0) Q (F0 m pc ls (st.map (vm_tr g))))
    (hup : ∀ pc lv st M, E pc lv st M → vm_up M r)
    (hret : ∀ pc ins (H : Heap) (locs : List Loc) (ls : Array Slot), decode cc pc = .ok (ins, 1) → vm_isr ins r.1 → vm_In g cA D r.2 H → va_S (fun q => b0 ≤ q) s.heap H locs → W p l e R s m args below meth c H locs (vm_n r.2 - n0) (vm_s r.2 - s0) Q (F0 m pc ls (r.1.toList.map (vm_tr g))))
    {pc : Nat} {lv : vm_L} {st : List Value} {M : vm_M} {off : Int} {a b : Nat} {v : Int} (hdg : decode cc pc = .ok (.ifnull off, vm_len (.ifnull off) b)) (hlk : vm_lk own (.ifnull off) a b v) (h : vm_do O L xs own ini nL r E pc lv st M (.ifnull off) a b v) (hn : n0 ≤ vm_n M) (hsl : s0 ≤ vm_s M) {H : Heap} {locs : List Loc} {ls : Array Slot} (hl : lv_has ls nL (vm_trl g lv)) (hI : vm_In g cA D M H) (hS : va_S (fun q => b0 ≤ q) s.heap H locs) :
    W p l e R s m args below meth c H locs (vm_n M - n0) (vm_s M - s0) Q (F0 m pc ls (st.map (vm_tr g))) := by
  have hupM : vm_up M r := vm_do_up (fun i as M r' ho => ⟨(hO i as M r' ho).1, (hO i as M r' ho).2.1⟩) hup h
  have hnM : vm_n M ≤ 1099511627776 := Nat.le_trans hupM.1 hnr
  have hDd : va_D (fun q => b0 ≤ q) (vm_w g cA M) := vm_Dd hg hnM
  have hA : ∀ q, s.heap.size ≤ q → (fun q => b0 ≤ q) q := fun q hq => by show b0 ≤ q; omega
  have go : ∀ {pc lv st ls}, E pc lv st M → lv_has ls nL (vm_trl g lv) → W p l e R s m args below meth c H locs (vm_n M - n0) (vm_s M - s0) Q (F0 m pc ls (st.map (vm_tr g))) := fun hE hl => ih _ _ _ _ hE hn hsl _ _ _ hl hI hS
  have hcs : vm_n M - n0 ≤ R.cells := Nat.le_trans (Nat.sub_le_sub_right hupM.1 n0) hRc
  have hss : vm_s M - s0 ≤ R.slots := Nat.le_trans (Nat.sub_le_sub_right hupM.2 s0) hRs
  have hml2 : c.maxLocals = ls.size := hml.trans hl.1.symm
  have arr : ∀ {q t n}, q < vm_n M → vm_sh M q = .inr (t, n) → (vm_w g cA M)[q]? = some (g q, .inl (cA t, n, vm_ct g M q t)) := fun hq hs => by rw [vm_w_at hq, vm_e_arr hs]
  have obj : ∀ {q a}, q < vm_n M → vm_sh M q = .inl a → (vm_w g cA M)[q]? = some (g q, .inr (a, (List.range (vg_N a)).map (fun k => vm_tr g (vm_gv M q (vg_y a k) k)))) := fun hq hs => by rw [vm_w_at hq, vm_e_obj hs]
  have hf1 : 1 ≤ R.frames := by omega
  have hl9 : 900 ≤ R.locals := vm_ar4 hRl
  simp only [vm_do] at h
  rcases h with ⟨x, st', rfl, h⟩ | ⟨st', t, rfl, ht, h⟩
  · exact lv_ifnull hx hb hdg (go h hl)
  · exact lv_ifnullN hx hb hdg ht (go h hl)
set_option maxHeartbeats 1000000 in
set_option maxRecDepth 20000 in
theorem vm_step_ifnonnull {p : Program} {l : Launch} {e : Env} {R : Room} {s : State} {m : MethodId} {args : Array Value} {below : List Frame} {meth : Method} {c : Code} {Q : State → Prop} {cc : ByteArray} {O : Nat → List Value → vm_M → vm_R → Prop} {L : Nat} {xs : Nat → Int32} {own : Nat} {ini : Bool} {nL n0 s0 b0 d : Nat} {g : Nat → Nat} {cA : Nat → ClassId} {D : va_G} {X : State → Prop} {r : vm_R}
    (hx : p.tables.exec = Jvm.exec) (hb : c.code = cc) (hml : c.maxLocals = nL) (hown : s.vm.findClass (vg_O own) = some m.cls) (hts : ∀ w ∈ vt, w.before args s = true) (hK : va_K D vg_cl (vm_tys cA) s) (hN : vm_Nx s) (hX : X s) (hXs : vm_Str b0 g X)
    (hin : ini = true → meth.name = "<init>") (hscr : own = 12 → va_X (g vm_scr) L xs s s.heap ∧ g vm_scr < s.heap.size ∧ ¬ b0 ≤ g vm_scr) (hg : ∀ q, q < 1099511627776 → g q = b0 + q) (hh0 : s.heap.size = b0 + n0) (hnr : vm_n r.2 ≤ 1099511627776)
    (hRc : vm_n r.2 - n0 ≤ R.cells) (hRs : vm_s r.2 - s0 ≤ R.slots) (hRf : d + 9 ≤ R.frames) (hRl : 100 * (d + 9) ≤ R.locals)
    (hO : ∀ i as M r', O i as M r' → vm_n M ≤ vm_n r'.2 ∧ vm_s M ≤ vm_s r'.2 ∧ (i < 203 → vm_n r'.2 ≤ 1099511627776 → vm_Ok l g cA D b0 X d i as M r')) {E : Nat → vm_L → List Value → vm_M → Prop}
    (ih : ∀ pc lv st M, E pc lv st M → n0 ≤ vm_n M → s0 ≤ vm_s M → ∀ (H : Heap) (locs : List Loc) (ls : Array Slot), lv_has ls nL (vm_trl g lv) → vm_In g cA D M H → va_S (fun q => b0 ≤ q) s.heap H locs → W p l e R s m args below meth c H locs (vm_n M - n0) (vm_s M - s0) Q (F0 m pc ls (st.map (vm_tr g))))
    (hup : ∀ pc lv st M, E pc lv st M → vm_up M r)
    (hret : ∀ pc ins (H : Heap) (locs : List Loc) (ls : Array Slot), decode cc pc = .ok (ins, 1) → vm_isr ins r.1 → vm_In g cA D r.2 H → va_S (fun q => b0 ≤ q) s.heap H locs → W p l e R s m args below meth c H locs (vm_n r.2 - n0) (vm_s r.2 - s0) Q (F0 m pc ls (r.1.toList.map (vm_tr g))))
    {pc : Nat} {lv : vm_L} {st : List Value} {M : vm_M} {off : Int} {a b : Nat} {v : Int} (hdg : decode cc pc = .ok (.ifnonnull off, vm_len (.ifnonnull off) b)) (hlk : vm_lk own (.ifnonnull off) a b v) (h : vm_do O L xs own ini nL r E pc lv st M (.ifnonnull off) a b v) (hn : n0 ≤ vm_n M) (hsl : s0 ≤ vm_s M) {H : Heap} {locs : List Loc} {ls : Array Slot} (hl : lv_has ls nL (vm_trl g lv)) (hI : vm_In g cA D M H) (hS : va_S (fun q => b0 ≤ q) s.heap H locs) :
    W p l e R s m args below meth c H locs (vm_n M - n0) (vm_s M - s0) Q (F0 m pc ls (st.map (vm_tr g))) := by
  have hupM : vm_up M r := vm_do_up (fun i as M r' ho => ⟨(hO i as M r' ho).1, (hO i as M r' ho).2.1⟩) hup h
  have hnM : vm_n M ≤ 1099511627776 := Nat.le_trans hupM.1 hnr
  have hDd : va_D (fun q => b0 ≤ q) (vm_w g cA M) := vm_Dd hg hnM
  have hA : ∀ q, s.heap.size ≤ q → (fun q => b0 ≤ q) q := fun q hq => by show b0 ≤ q; omega
  have go : ∀ {pc lv st ls}, E pc lv st M → lv_has ls nL (vm_trl g lv) → W p l e R s m args below meth c H locs (vm_n M - n0) (vm_s M - s0) Q (F0 m pc ls (st.map (vm_tr g))) := fun hE hl => ih _ _ _ _ hE hn hsl _ _ _ hl hI hS
  have hcs : vm_n M - n0 ≤ R.cells := Nat.le_trans (Nat.sub_le_sub_right hupM.1 n0) hRc
  have hss : vm_s M - s0 ≤ R.slots := Nat.le_trans (Nat.sub_le_sub_right hupM.2 s0) hRs
  have hml2 : c.maxLocals = ls.size := hml.trans hl.1.symm
  have arr : ∀ {q t n}, q < vm_n M → vm_sh M q = .inr (t, n) → (vm_w g cA M)[q]? = some (g q, .inl (cA t, n, vm_ct g M q t)) := fun hq hs => by rw [vm_w_at hq, vm_e_arr hs]
  have obj : ∀ {q a}, q < vm_n M → vm_sh M q = .inl a → (vm_w g cA M)[q]? = some (g q, .inr (a, (List.range (vg_N a)).map (fun k => vm_tr g (vm_gv M q (vg_y a k) k)))) := fun hq hs => by rw [vm_w_at hq, vm_e_obj hs]
  have hf1 : 1 ≤ R.frames := by omega
  have hl9 : 900 ≤ R.locals := vm_ar4 hRl
  simp only [vm_do] at h
  rcases h with ⟨x, st', t, rfl, ht, h⟩ | ⟨st', rfl, h⟩
  · exact lv_ifnonnull hx hb hdg ht (go h hl)
  · exact lv_ifnonnullN hx hb hdg (go h hl)
set_option maxHeartbeats 1000000 in
set_option maxRecDepth 20000 in
theorem vm_step_tableswitch {p : Program} {l : Launch} {e : Env} {R : Room} {s : State} {m : MethodId} {args : Array Value} {below : List Frame} {meth : Method} {c : Code} {Q : State → Prop} {cc : ByteArray} {O : Nat → List Value → vm_M → vm_R → Prop} {L : Nat} {xs : Nat → Int32} {own : Nat} {ini : Bool} {nL n0 s0 b0 d : Nat} {g : Nat → Nat} {cA : Nat → ClassId} {D : va_G} {X : State → Prop} {r : vm_R}
    (hx : p.tables.exec = Jvm.exec) (hb : c.code = cc) (hml : c.maxLocals = nL) (hown : s.vm.findClass (vg_O own) = some m.cls) (hts : ∀ w ∈ vt, w.before args s = true) (hK : va_K D vg_cl (vm_tys cA) s) (hN : vm_Nx s) (hX : X s) (hXs : vm_Str b0 g X)
    (hin : ini = true → meth.name = "<init>") (hscr : own = 12 → va_X (g vm_scr) L xs s s.heap ∧ g vm_scr < s.heap.size ∧ ¬ b0 ≤ g vm_scr) (hg : ∀ q, q < 1099511627776 → g q = b0 + q) (hh0 : s.heap.size = b0 + n0) (hnr : vm_n r.2 ≤ 1099511627776)
    (hRc : vm_n r.2 - n0 ≤ R.cells) (hRs : vm_s r.2 - s0 ≤ R.slots) (hRf : d + 9 ≤ R.frames) (hRl : 100 * (d + 9) ≤ R.locals)
    (hO : ∀ i as M r', O i as M r' → vm_n M ≤ vm_n r'.2 ∧ vm_s M ≤ vm_s r'.2 ∧ (i < 203 → vm_n r'.2 ≤ 1099511627776 → vm_Ok l g cA D b0 X d i as M r')) {E : Nat → vm_L → List Value → vm_M → Prop}
    (ih : ∀ pc lv st M, E pc lv st M → n0 ≤ vm_n M → s0 ≤ vm_s M → ∀ (H : Heap) (locs : List Loc) (ls : Array Slot), lv_has ls nL (vm_trl g lv) → vm_In g cA D M H → va_S (fun q => b0 ≤ q) s.heap H locs → W p l e R s m args below meth c H locs (vm_n M - n0) (vm_s M - s0) Q (F0 m pc ls (st.map (vm_tr g))))
    (hup : ∀ pc lv st M, E pc lv st M → vm_up M r)
    (hret : ∀ pc ins (H : Heap) (locs : List Loc) (ls : Array Slot), decode cc pc = .ok (ins, 1) → vm_isr ins r.1 → vm_In g cA D r.2 H → va_S (fun q => b0 ≤ q) s.heap H locs → W p l e R s m args below meth c H locs (vm_n r.2 - n0) (vm_s r.2 - s0) Q (F0 m pc ls (r.1.toList.map (vm_tr g))))
    {pc : Nat} {lv : vm_L} {st : List Value} {M : vm_M} {dflt lo hi : Int} {offs : Array Int} {a b : Nat} {v : Int} (hdg : decode cc pc = .ok (.tableswitch dflt lo hi offs, vm_len (.tableswitch dflt lo hi offs) b)) (hlk : vm_lk own (.tableswitch dflt lo hi offs) a b v) (h : vm_do O L xs own ini nL r E pc lv st M (.tableswitch dflt lo hi offs) a b v) (hn : n0 ≤ vm_n M) (hsl : s0 ≤ vm_s M) {H : Heap} {locs : List Loc} {ls : Array Slot} (hl : lv_has ls nL (vm_trl g lv)) (hI : vm_In g cA D M H) (hS : va_S (fun q => b0 ≤ q) s.heap H locs) :
    W p l e R s m args below meth c H locs (vm_n M - n0) (vm_s M - s0) Q (F0 m pc ls (st.map (vm_tr g))) := by
  have hupM : vm_up M r := vm_do_up (fun i as M r' ho => ⟨(hO i as M r' ho).1, (hO i as M r' ho).2.1⟩) hup h
  have hnM : vm_n M ≤ 1099511627776 := Nat.le_trans hupM.1 hnr
  have hDd : va_D (fun q => b0 ≤ q) (vm_w g cA M) := vm_Dd hg hnM
  have hA : ∀ q, s.heap.size ≤ q → (fun q => b0 ≤ q) q := fun q hq => by show b0 ≤ q; omega
  have go : ∀ {pc lv st ls}, E pc lv st M → lv_has ls nL (vm_trl g lv) → W p l e R s m args below meth c H locs (vm_n M - n0) (vm_s M - s0) Q (F0 m pc ls (st.map (vm_tr g))) := fun hE hl => ih _ _ _ _ hE hn hsl _ _ _ hl hI hS
  have hcs : vm_n M - n0 ≤ R.cells := Nat.le_trans (Nat.sub_le_sub_right hupM.1 n0) hRc
  have hss : vm_s M - s0 ≤ R.slots := Nat.le_trans (Nat.sub_le_sub_right hupM.2 s0) hRs
  have hml2 : c.maxLocals = ls.size := hml.trans hl.1.symm
  have arr : ∀ {q t n}, q < vm_n M → vm_sh M q = .inr (t, n) → (vm_w g cA M)[q]? = some (g q, .inl (cA t, n, vm_ct g M q t)) := fun hq hs => by rw [vm_w_at hq, vm_e_arr hs]
  have obj : ∀ {q a}, q < vm_n M → vm_sh M q = .inl a → (vm_w g cA M)[q]? = some (g q, .inr (a, (List.range (vg_N a)).map (fun k => vm_tr g (vm_gv M q (vg_y a k) k)))) := fun hq hs => by rw [vm_w_at hq, vm_e_obj hs]
  have hf1 : 1 ≤ R.frames := by omega
  have hl9 : 900 ≤ R.locals := vm_ar4 hRl
  simp only [vm_do] at h
  obtain ⟨x, st', rfl, h⟩ := h
  rcases h with ⟨t, h1, ht, h⟩ | ⟨t, off, h1, h2, ho, ht, h⟩
  · exact lv_tableOut hx hb hdg h1 ht (go h hl)
  · exact lv_tableIn hx hb hdg h1 h2 ho ht (go h hl)
set_option maxHeartbeats 1000000 in
set_option maxRecDepth 20000 in
theorem vm_step_lookupswitch {p : Program} {l : Launch} {e : Env} {R : Room} {s : State} {m : MethodId} {args : Array Value} {below : List Frame} {meth : Method} {c : Code} {Q : State → Prop} {cc : ByteArray} {O : Nat → List Value → vm_M → vm_R → Prop} {L : Nat} {xs : Nat → Int32} {own : Nat} {ini : Bool} {nL n0 s0 b0 d : Nat} {g : Nat → Nat} {cA : Nat → ClassId} {D : va_G} {X : State → Prop} {r : vm_R}
    (hx : p.tables.exec = Jvm.exec) (hb : c.code = cc) (hml : c.maxLocals = nL) (hown : s.vm.findClass (vg_O own) = some m.cls) (hts : ∀ w ∈ vt, w.before args s = true) (hK : va_K D vg_cl (vm_tys cA) s) (hN : vm_Nx s) (hX : X s) (hXs : vm_Str b0 g X)
    (hin : ini = true → meth.name = "<init>") (hscr : own = 12 → va_X (g vm_scr) L xs s s.heap ∧ g vm_scr < s.heap.size ∧ ¬ b0 ≤ g vm_scr) (hg : ∀ q, q < 1099511627776 → g q = b0 + q) (hh0 : s.heap.size = b0 + n0) (hnr : vm_n r.2 ≤ 1099511627776)
    (hRc : vm_n r.2 - n0 ≤ R.cells) (hRs : vm_s r.2 - s0 ≤ R.slots) (hRf : d + 9 ≤ R.frames) (hRl : 100 * (d + 9) ≤ R.locals)
    (hO : ∀ i as M r', O i as M r' → vm_n M ≤ vm_n r'.2 ∧ vm_s M ≤ vm_s r'.2 ∧ (i < 203 → vm_n r'.2 ≤ 1099511627776 → vm_Ok l g cA D b0 X d i as M r')) {E : Nat → vm_L → List Value → vm_M → Prop}
    (ih : ∀ pc lv st M, E pc lv st M → n0 ≤ vm_n M → s0 ≤ vm_s M → ∀ (H : Heap) (locs : List Loc) (ls : Array Slot), lv_has ls nL (vm_trl g lv) → vm_In g cA D M H → va_S (fun q => b0 ≤ q) s.heap H locs → W p l e R s m args below meth c H locs (vm_n M - n0) (vm_s M - s0) Q (F0 m pc ls (st.map (vm_tr g))))
    (hup : ∀ pc lv st M, E pc lv st M → vm_up M r)
    (hret : ∀ pc ins (H : Heap) (locs : List Loc) (ls : Array Slot), decode cc pc = .ok (ins, 1) → vm_isr ins r.1 → vm_In g cA D r.2 H → va_S (fun q => b0 ≤ q) s.heap H locs → W p l e R s m args below meth c H locs (vm_n r.2 - n0) (vm_s r.2 - s0) Q (F0 m pc ls (r.1.toList.map (vm_tr g))))
    {pc : Nat} {lv : vm_L} {st : List Value} {M : vm_M} {dflt : Int} {ps : Array (Int × Int)} {a b : Nat} {v : Int} (hdg : decode cc pc = .ok (.lookupswitch dflt ps, vm_len (.lookupswitch dflt ps) b)) (hlk : vm_lk own (.lookupswitch dflt ps) a b v) (h : vm_do O L xs own ini nL r E pc lv st M (.lookupswitch dflt ps) a b v) (hn : n0 ≤ vm_n M) (hsl : s0 ≤ vm_s M) {H : Heap} {locs : List Loc} {ls : Array Slot} (hl : lv_has ls nL (vm_trl g lv)) (hI : vm_In g cA D M H) (hS : va_S (fun q => b0 ≤ q) s.heap H locs) :
    W p l e R s m args below meth c H locs (vm_n M - n0) (vm_s M - s0) Q (F0 m pc ls (st.map (vm_tr g))) := by
  have hupM : vm_up M r := vm_do_up (fun i as M r' ho => ⟨(hO i as M r' ho).1, (hO i as M r' ho).2.1⟩) hup h
  have hnM : vm_n M ≤ 1099511627776 := Nat.le_trans hupM.1 hnr
  have hDd : va_D (fun q => b0 ≤ q) (vm_w g cA M) := vm_Dd hg hnM
  have hA : ∀ q, s.heap.size ≤ q → (fun q => b0 ≤ q) q := fun q hq => by show b0 ≤ q; omega
  have go : ∀ {pc lv st ls}, E pc lv st M → lv_has ls nL (vm_trl g lv) → W p l e R s m args below meth c H locs (vm_n M - n0) (vm_s M - s0) Q (F0 m pc ls (st.map (vm_tr g))) := fun hE hl => ih _ _ _ _ hE hn hsl _ _ _ hl hI hS
  have hcs : vm_n M - n0 ≤ R.cells := Nat.le_trans (Nat.sub_le_sub_right hupM.1 n0) hRc
  have hss : vm_s M - s0 ≤ R.slots := Nat.le_trans (Nat.sub_le_sub_right hupM.2 s0) hRs
  have hml2 : c.maxLocals = ls.size := hml.trans hl.1.symm
  have arr : ∀ {q t n}, q < vm_n M → vm_sh M q = .inr (t, n) → (vm_w g cA M)[q]? = some (g q, .inl (cA t, n, vm_ct g M q t)) := fun hq hs => by rw [vm_w_at hq, vm_e_arr hs]
  have obj : ∀ {q a}, q < vm_n M → vm_sh M q = .inl a → (vm_w g cA M)[q]? = some (g q, .inr (a, (List.range (vg_N a)).map (fun k => vm_tr g (vm_gv M q (vg_y a k) k)))) := fun hq hs => by rw [vm_w_at hq, vm_e_obj hs]
  have hf1 : 1 ≤ R.frames := by omega
  have hl9 : 900 ≤ R.locals := vm_ar4 hRl
  simp only [vm_do] at h
  obtain ⟨x, st', t, off, rfl, hp, ho, ht, h⟩ := h
  exact lv_lookup hx hb hdg hp ho ht (go h hl)
set_option maxHeartbeats 1000000 in
set_option maxRecDepth 20000 in
theorem vm_step_arraylength {p : Program} {l : Launch} {e : Env} {R : Room} {s : State} {m : MethodId} {args : Array Value} {below : List Frame} {meth : Method} {c : Code} {Q : State → Prop} {cc : ByteArray} {O : Nat → List Value → vm_M → vm_R → Prop} {L : Nat} {xs : Nat → Int32} {own : Nat} {ini : Bool} {nL n0 s0 b0 d : Nat} {g : Nat → Nat} {cA : Nat → ClassId} {D : va_G} {X : State → Prop} {r : vm_R}
    (hx : p.tables.exec = Jvm.exec) (hb : c.code = cc) (hml : c.maxLocals = nL) (hown : s.vm.findClass (vg_O own) = some m.cls) (hts : ∀ w ∈ vt, w.before args s = true) (hK : va_K D vg_cl (vm_tys cA) s) (hN : vm_Nx s) (hX : X s) (hXs : vm_Str b0 g X)
    (hin : ini = true → meth.name = "<init>") (hscr : own = 12 → va_X (g vm_scr) L xs s s.heap ∧ g vm_scr < s.heap.size ∧ ¬ b0 ≤ g vm_scr) (hg : ∀ q, q < 1099511627776 → g q = b0 + q) (hh0 : s.heap.size = b0 + n0) (hnr : vm_n r.2 ≤ 1099511627776)
    (hRc : vm_n r.2 - n0 ≤ R.cells) (hRs : vm_s r.2 - s0 ≤ R.slots) (hRf : d + 9 ≤ R.frames) (hRl : 100 * (d + 9) ≤ R.locals)
    (hO : ∀ i as M r', O i as M r' → vm_n M ≤ vm_n r'.2 ∧ vm_s M ≤ vm_s r'.2 ∧ (i < 203 → vm_n r'.2 ≤ 1099511627776 → vm_Ok l g cA D b0 X d i as M r')) {E : Nat → vm_L → List Value → vm_M → Prop}
    (ih : ∀ pc lv st M, E pc lv st M → n0 ≤ vm_n M → s0 ≤ vm_s M → ∀ (H : Heap) (locs : List Loc) (ls : Array Slot), lv_has ls nL (vm_trl g lv) → vm_In g cA D M H → va_S (fun q => b0 ≤ q) s.heap H locs → W p l e R s m args below meth c H locs (vm_n M - n0) (vm_s M - s0) Q (F0 m pc ls (st.map (vm_tr g))))
    (hup : ∀ pc lv st M, E pc lv st M → vm_up M r)
    (hret : ∀ pc ins (H : Heap) (locs : List Loc) (ls : Array Slot), decode cc pc = .ok (ins, 1) → vm_isr ins r.1 → vm_In g cA D r.2 H → va_S (fun q => b0 ≤ q) s.heap H locs → W p l e R s m args below meth c H locs (vm_n r.2 - n0) (vm_s r.2 - s0) Q (F0 m pc ls (r.1.toList.map (vm_tr g))))
    {pc : Nat} {lv : vm_L} {st : List Value} {M : vm_M}  {a b : Nat} {v : Int} (hdg : decode cc pc = .ok (.arraylength, vm_len (.arraylength) b)) (hlk : vm_lk own (.arraylength) a b v) (h : vm_do O L xs own ini nL r E pc lv st M (.arraylength) a b v) (hn : n0 ≤ vm_n M) (hsl : s0 ≤ vm_s M) {H : Heap} {locs : List Loc} {ls : Array Slot} (hl : lv_has ls nL (vm_trl g lv)) (hI : vm_In g cA D M H) (hS : va_S (fun q => b0 ≤ q) s.heap H locs) :
    W p l e R s m args below meth c H locs (vm_n M - n0) (vm_s M - s0) Q (F0 m pc ls (st.map (vm_tr g))) := by
  have hupM : vm_up M r := vm_do_up (fun i as M r' ho => ⟨(hO i as M r' ho).1, (hO i as M r' ho).2.1⟩) hup h
  have hnM : vm_n M ≤ 1099511627776 := Nat.le_trans hupM.1 hnr
  have hDd : va_D (fun q => b0 ≤ q) (vm_w g cA M) := vm_Dd hg hnM
  have hA : ∀ q, s.heap.size ≤ q → (fun q => b0 ≤ q) q := fun q hq => by show b0 ≤ q; omega
  have go : ∀ {pc lv st ls}, E pc lv st M → lv_has ls nL (vm_trl g lv) → W p l e R s m args below meth c H locs (vm_n M - n0) (vm_s M - s0) Q (F0 m pc ls (st.map (vm_tr g))) := fun hE hl => ih _ _ _ _ hE hn hsl _ _ _ hl hI hS
  have hcs : vm_n M - n0 ≤ R.cells := Nat.le_trans (Nat.sub_le_sub_right hupM.1 n0) hRc
  have hss : vm_s M - s0 ≤ R.slots := Nat.le_trans (Nat.sub_le_sub_right hupM.2 s0) hRs
  have hml2 : c.maxLocals = ls.size := hml.trans hl.1.symm
  have arr : ∀ {q t n}, q < vm_n M → vm_sh M q = .inr (t, n) → (vm_w g cA M)[q]? = some (g q, .inl (cA t, n, vm_ct g M q t)) := fun hq hs => by rw [vm_w_at hq, vm_e_arr hs]
  have obj : ∀ {q a}, q < vm_n M → vm_sh M q = .inl a → (vm_w g cA M)[q]? = some (g q, .inr (a, (List.range (vg_N a)).map (fun k => vm_tr g (vm_gv M q (vg_y a k) k)))) := fun hq hs => by rw [vm_w_at hq, vm_e_obj hs]
  have hf1 : 1 ≤ R.frames := by omega
  have hl9 : 900 ≤ R.locals := vm_ar4 hRl
  simp only [vm_do] at h
  obtain ⟨q, st', rfl, h⟩ := h
  rcases h with ⟨t, n, hq, hs, ht, h⟩ | ⟨rfl, ho, h⟩
  · exact va_alen hx hb hK hI q t (arr hq hs) (vm_tys_at ht) rfl hdg (go h hl)
  · obtain ⟨h1, h2, h3⟩ := hscr ho
    exact va_slen hx hb h1 h2 h3 hS hdg (go h hl)
set_option maxHeartbeats 1000000 in
set_option maxRecDepth 20000 in
theorem vm_step_iaload {p : Program} {l : Launch} {e : Env} {R : Room} {s : State} {m : MethodId} {args : Array Value} {below : List Frame} {meth : Method} {c : Code} {Q : State → Prop} {cc : ByteArray} {O : Nat → List Value → vm_M → vm_R → Prop} {L : Nat} {xs : Nat → Int32} {own : Nat} {ini : Bool} {nL n0 s0 b0 d : Nat} {g : Nat → Nat} {cA : Nat → ClassId} {D : va_G} {X : State → Prop} {r : vm_R}
    (hx : p.tables.exec = Jvm.exec) (hb : c.code = cc) (hml : c.maxLocals = nL) (hown : s.vm.findClass (vg_O own) = some m.cls) (hts : ∀ w ∈ vt, w.before args s = true) (hK : va_K D vg_cl (vm_tys cA) s) (hN : vm_Nx s) (hX : X s) (hXs : vm_Str b0 g X)
    (hin : ini = true → meth.name = "<init>") (hscr : own = 12 → va_X (g vm_scr) L xs s s.heap ∧ g vm_scr < s.heap.size ∧ ¬ b0 ≤ g vm_scr) (hg : ∀ q, q < 1099511627776 → g q = b0 + q) (hh0 : s.heap.size = b0 + n0) (hnr : vm_n r.2 ≤ 1099511627776)
    (hRc : vm_n r.2 - n0 ≤ R.cells) (hRs : vm_s r.2 - s0 ≤ R.slots) (hRf : d + 9 ≤ R.frames) (hRl : 100 * (d + 9) ≤ R.locals)
    (hO : ∀ i as M r', O i as M r' → vm_n M ≤ vm_n r'.2 ∧ vm_s M ≤ vm_s r'.2 ∧ (i < 203 → vm_n r'.2 ≤ 1099511627776 → vm_Ok l g cA D b0 X d i as M r')) {E : Nat → vm_L → List Value → vm_M → Prop}
    (ih : ∀ pc lv st M, E pc lv st M → n0 ≤ vm_n M → s0 ≤ vm_s M → ∀ (H : Heap) (locs : List Loc) (ls : Array Slot), lv_has ls nL (vm_trl g lv) → vm_In g cA D M H → va_S (fun q => b0 ≤ q) s.heap H locs → W p l e R s m args below meth c H locs (vm_n M - n0) (vm_s M - s0) Q (F0 m pc ls (st.map (vm_tr g))))
    (hup : ∀ pc lv st M, E pc lv st M → vm_up M r)
    (hret : ∀ pc ins (H : Heap) (locs : List Loc) (ls : Array Slot), decode cc pc = .ok (ins, 1) → vm_isr ins r.1 → vm_In g cA D r.2 H → va_S (fun q => b0 ≤ q) s.heap H locs → W p l e R s m args below meth c H locs (vm_n r.2 - n0) (vm_s r.2 - s0) Q (F0 m pc ls (r.1.toList.map (vm_tr g))))
    {pc : Nat} {lv : vm_L} {st : List Value} {M : vm_M}  {a b : Nat} {v : Int} (hdg : decode cc pc = .ok (.iaload, vm_len (.iaload) b)) (hlk : vm_lk own (.iaload) a b v) (h : vm_do O L xs own ini nL r E pc lv st M (.iaload) a b v) (hn : n0 ≤ vm_n M) (hsl : s0 ≤ vm_s M) {H : Heap} {locs : List Loc} {ls : Array Slot} (hl : lv_has ls nL (vm_trl g lv)) (hI : vm_In g cA D M H) (hS : va_S (fun q => b0 ≤ q) s.heap H locs) :
    W p l e R s m args below meth c H locs (vm_n M - n0) (vm_s M - s0) Q (F0 m pc ls (st.map (vm_tr g))) := by
  have hupM : vm_up M r := vm_do_up (fun i as M r' ho => ⟨(hO i as M r' ho).1, (hO i as M r' ho).2.1⟩) hup h
  have hnM : vm_n M ≤ 1099511627776 := Nat.le_trans hupM.1 hnr
  have hDd : va_D (fun q => b0 ≤ q) (vm_w g cA M) := vm_Dd hg hnM
  have hA : ∀ q, s.heap.size ≤ q → (fun q => b0 ≤ q) q := fun q hq => by show b0 ≤ q; omega
  have go : ∀ {pc lv st ls}, E pc lv st M → lv_has ls nL (vm_trl g lv) → W p l e R s m args below meth c H locs (vm_n M - n0) (vm_s M - s0) Q (F0 m pc ls (st.map (vm_tr g))) := fun hE hl => ih _ _ _ _ hE hn hsl _ _ _ hl hI hS
  have hcs : vm_n M - n0 ≤ R.cells := Nat.le_trans (Nat.sub_le_sub_right hupM.1 n0) hRc
  have hss : vm_s M - s0 ≤ R.slots := Nat.le_trans (Nat.sub_le_sub_right hupM.2 s0) hRs
  have hml2 : c.maxLocals = ls.size := hml.trans hl.1.symm
  have arr : ∀ {q t n}, q < vm_n M → vm_sh M q = .inr (t, n) → (vm_w g cA M)[q]? = some (g q, .inl (cA t, n, vm_ct g M q t)) := fun hq hs => by rw [vm_w_at hq, vm_e_arr hs]
  have obj : ∀ {q a}, q < vm_n M → vm_sh M q = .inl a → (vm_w g cA M)[q]? = some (g q, .inr (a, (List.range (vg_N a)).map (fun k => vm_tr g (vm_gv M q (vg_y a k) k)))) := fun hq hs => by rw [vm_w_at hq, vm_e_obj hs]
  have hf1 : 1 ≤ R.frames := by omega
  have hl9 : 900 ≤ R.locals := vm_ar4 hRl
  simp only [vm_do] at h
  obtain ⟨i, q, st', rfl, h⟩ := h
  rcases h with ⟨n, hq, hs, hin2, h⟩ | ⟨rfl, ho, hin2, h⟩
  · exact va_iald hx hb hK hI q 0 (arr hq hs) (vm_tys_at (by omega)) hin2 hdg (go h hl)
  · obtain ⟨h1, h2, h3⟩ := hscr ho
    exact va_sld hx hb h1 h2 h3 hS hin2 hdg (go h hl)
set_option maxHeartbeats 1000000 in
set_option maxRecDepth 20000 in
theorem vm_step_baload {p : Program} {l : Launch} {e : Env} {R : Room} {s : State} {m : MethodId} {args : Array Value} {below : List Frame} {meth : Method} {c : Code} {Q : State → Prop} {cc : ByteArray} {O : Nat → List Value → vm_M → vm_R → Prop} {L : Nat} {xs : Nat → Int32} {own : Nat} {ini : Bool} {nL n0 s0 b0 d : Nat} {g : Nat → Nat} {cA : Nat → ClassId} {D : va_G} {X : State → Prop} {r : vm_R}
    (hx : p.tables.exec = Jvm.exec) (hb : c.code = cc) (hml : c.maxLocals = nL) (hown : s.vm.findClass (vg_O own) = some m.cls) (hts : ∀ w ∈ vt, w.before args s = true) (hK : va_K D vg_cl (vm_tys cA) s) (hN : vm_Nx s) (hX : X s) (hXs : vm_Str b0 g X)
    (hin : ini = true → meth.name = "<init>") (hscr : own = 12 → va_X (g vm_scr) L xs s s.heap ∧ g vm_scr < s.heap.size ∧ ¬ b0 ≤ g vm_scr) (hg : ∀ q, q < 1099511627776 → g q = b0 + q) (hh0 : s.heap.size = b0 + n0) (hnr : vm_n r.2 ≤ 1099511627776)
    (hRc : vm_n r.2 - n0 ≤ R.cells) (hRs : vm_s r.2 - s0 ≤ R.slots) (hRf : d + 9 ≤ R.frames) (hRl : 100 * (d + 9) ≤ R.locals)
    (hO : ∀ i as M r', O i as M r' → vm_n M ≤ vm_n r'.2 ∧ vm_s M ≤ vm_s r'.2 ∧ (i < 203 → vm_n r'.2 ≤ 1099511627776 → vm_Ok l g cA D b0 X d i as M r')) {E : Nat → vm_L → List Value → vm_M → Prop}
    (ih : ∀ pc lv st M, E pc lv st M → n0 ≤ vm_n M → s0 ≤ vm_s M → ∀ (H : Heap) (locs : List Loc) (ls : Array Slot), lv_has ls nL (vm_trl g lv) → vm_In g cA D M H → va_S (fun q => b0 ≤ q) s.heap H locs → W p l e R s m args below meth c H locs (vm_n M - n0) (vm_s M - s0) Q (F0 m pc ls (st.map (vm_tr g))))
    (hup : ∀ pc lv st M, E pc lv st M → vm_up M r)
    (hret : ∀ pc ins (H : Heap) (locs : List Loc) (ls : Array Slot), decode cc pc = .ok (ins, 1) → vm_isr ins r.1 → vm_In g cA D r.2 H → va_S (fun q => b0 ≤ q) s.heap H locs → W p l e R s m args below meth c H locs (vm_n r.2 - n0) (vm_s r.2 - s0) Q (F0 m pc ls (r.1.toList.map (vm_tr g))))
    {pc : Nat} {lv : vm_L} {st : List Value} {M : vm_M}  {a b : Nat} {v : Int} (hdg : decode cc pc = .ok (.baload, vm_len (.baload) b)) (hlk : vm_lk own (.baload) a b v) (h : vm_do O L xs own ini nL r E pc lv st M (.baload) a b v) (hn : n0 ≤ vm_n M) (hsl : s0 ≤ vm_s M) {H : Heap} {locs : List Loc} {ls : Array Slot} (hl : lv_has ls nL (vm_trl g lv)) (hI : vm_In g cA D M H) (hS : va_S (fun q => b0 ≤ q) s.heap H locs) :
    W p l e R s m args below meth c H locs (vm_n M - n0) (vm_s M - s0) Q (F0 m pc ls (st.map (vm_tr g))) := by
  have hupM : vm_up M r := vm_do_up (fun i as M r' ho => ⟨(hO i as M r' ho).1, (hO i as M r' ho).2.1⟩) hup h
  have hnM : vm_n M ≤ 1099511627776 := Nat.le_trans hupM.1 hnr
  have hDd : va_D (fun q => b0 ≤ q) (vm_w g cA M) := vm_Dd hg hnM
  have hA : ∀ q, s.heap.size ≤ q → (fun q => b0 ≤ q) q := fun q hq => by show b0 ≤ q; omega
  have go : ∀ {pc lv st ls}, E pc lv st M → lv_has ls nL (vm_trl g lv) → W p l e R s m args below meth c H locs (vm_n M - n0) (vm_s M - s0) Q (F0 m pc ls (st.map (vm_tr g))) := fun hE hl => ih _ _ _ _ hE hn hsl _ _ _ hl hI hS
  have hcs : vm_n M - n0 ≤ R.cells := Nat.le_trans (Nat.sub_le_sub_right hupM.1 n0) hRc
  have hss : vm_s M - s0 ≤ R.slots := Nat.le_trans (Nat.sub_le_sub_right hupM.2 s0) hRs
  have hml2 : c.maxLocals = ls.size := hml.trans hl.1.symm
  have arr : ∀ {q t n}, q < vm_n M → vm_sh M q = .inr (t, n) → (vm_w g cA M)[q]? = some (g q, .inl (cA t, n, vm_ct g M q t)) := fun hq hs => by rw [vm_w_at hq, vm_e_arr hs]
  have obj : ∀ {q a}, q < vm_n M → vm_sh M q = .inl a → (vm_w g cA M)[q]? = some (g q, .inr (a, (List.range (vg_N a)).map (fun k => vm_tr g (vm_gv M q (vg_y a k) k)))) := fun hq hs => by rw [vm_w_at hq, vm_e_obj hs]
  have hf1 : 1 ≤ R.frames := by omega
  have hl9 : 900 ≤ R.locals := vm_ar4 hRl
  simp only [vm_do] at h
  obtain ⟨i, q, st', n, t, rfl, hq, hs, ht, hin2, h⟩ := h
  rcases ht with rfl | rfl
  · exact va_zald hx hb hK hI q 2 (arr hq hs) (vm_tys_at (by omega)) hin2 hdg (go h hl)
  · exact va_bald hx hb hK hI q 3 (arr hq hs) (vm_tys_at (by omega)) hin2 hdg (go h hl)
set_option maxHeartbeats 1000000 in
set_option maxRecDepth 20000 in
theorem vm_step_laload {p : Program} {l : Launch} {e : Env} {R : Room} {s : State} {m : MethodId} {args : Array Value} {below : List Frame} {meth : Method} {c : Code} {Q : State → Prop} {cc : ByteArray} {O : Nat → List Value → vm_M → vm_R → Prop} {L : Nat} {xs : Nat → Int32} {own : Nat} {ini : Bool} {nL n0 s0 b0 d : Nat} {g : Nat → Nat} {cA : Nat → ClassId} {D : va_G} {X : State → Prop} {r : vm_R}
    (hx : p.tables.exec = Jvm.exec) (hb : c.code = cc) (hml : c.maxLocals = nL) (hown : s.vm.findClass (vg_O own) = some m.cls) (hts : ∀ w ∈ vt, w.before args s = true) (hK : va_K D vg_cl (vm_tys cA) s) (hN : vm_Nx s) (hX : X s) (hXs : vm_Str b0 g X)
    (hin : ini = true → meth.name = "<init>") (hscr : own = 12 → va_X (g vm_scr) L xs s s.heap ∧ g vm_scr < s.heap.size ∧ ¬ b0 ≤ g vm_scr) (hg : ∀ q, q < 1099511627776 → g q = b0 + q) (hh0 : s.heap.size = b0 + n0) (hnr : vm_n r.2 ≤ 1099511627776)
    (hRc : vm_n r.2 - n0 ≤ R.cells) (hRs : vm_s r.2 - s0 ≤ R.slots) (hRf : d + 9 ≤ R.frames) (hRl : 100 * (d + 9) ≤ R.locals)
    (hO : ∀ i as M r', O i as M r' → vm_n M ≤ vm_n r'.2 ∧ vm_s M ≤ vm_s r'.2 ∧ (i < 203 → vm_n r'.2 ≤ 1099511627776 → vm_Ok l g cA D b0 X d i as M r')) {E : Nat → vm_L → List Value → vm_M → Prop}
    (ih : ∀ pc lv st M, E pc lv st M → n0 ≤ vm_n M → s0 ≤ vm_s M → ∀ (H : Heap) (locs : List Loc) (ls : Array Slot), lv_has ls nL (vm_trl g lv) → vm_In g cA D M H → va_S (fun q => b0 ≤ q) s.heap H locs → W p l e R s m args below meth c H locs (vm_n M - n0) (vm_s M - s0) Q (F0 m pc ls (st.map (vm_tr g))))
    (hup : ∀ pc lv st M, E pc lv st M → vm_up M r)
    (hret : ∀ pc ins (H : Heap) (locs : List Loc) (ls : Array Slot), decode cc pc = .ok (ins, 1) → vm_isr ins r.1 → vm_In g cA D r.2 H → va_S (fun q => b0 ≤ q) s.heap H locs → W p l e R s m args below meth c H locs (vm_n r.2 - n0) (vm_s r.2 - s0) Q (F0 m pc ls (r.1.toList.map (vm_tr g))))
    {pc : Nat} {lv : vm_L} {st : List Value} {M : vm_M}  {a b : Nat} {v : Int} (hdg : decode cc pc = .ok (.laload, vm_len (.laload) b)) (hlk : vm_lk own (.laload) a b v) (h : vm_do O L xs own ini nL r E pc lv st M (.laload) a b v) (hn : n0 ≤ vm_n M) (hsl : s0 ≤ vm_s M) {H : Heap} {locs : List Loc} {ls : Array Slot} (hl : lv_has ls nL (vm_trl g lv)) (hI : vm_In g cA D M H) (hS : va_S (fun q => b0 ≤ q) s.heap H locs) :
    W p l e R s m args below meth c H locs (vm_n M - n0) (vm_s M - s0) Q (F0 m pc ls (st.map (vm_tr g))) := by
  have hupM : vm_up M r := vm_do_up (fun i as M r' ho => ⟨(hO i as M r' ho).1, (hO i as M r' ho).2.1⟩) hup h
  have hnM : vm_n M ≤ 1099511627776 := Nat.le_trans hupM.1 hnr
  have hDd : va_D (fun q => b0 ≤ q) (vm_w g cA M) := vm_Dd hg hnM
  have hA : ∀ q, s.heap.size ≤ q → (fun q => b0 ≤ q) q := fun q hq => by show b0 ≤ q; omega
  have go : ∀ {pc lv st ls}, E pc lv st M → lv_has ls nL (vm_trl g lv) → W p l e R s m args below meth c H locs (vm_n M - n0) (vm_s M - s0) Q (F0 m pc ls (st.map (vm_tr g))) := fun hE hl => ih _ _ _ _ hE hn hsl _ _ _ hl hI hS
  have hcs : vm_n M - n0 ≤ R.cells := Nat.le_trans (Nat.sub_le_sub_right hupM.1 n0) hRc
  have hss : vm_s M - s0 ≤ R.slots := Nat.le_trans (Nat.sub_le_sub_right hupM.2 s0) hRs
  have hml2 : c.maxLocals = ls.size := hml.trans hl.1.symm
  have arr : ∀ {q t n}, q < vm_n M → vm_sh M q = .inr (t, n) → (vm_w g cA M)[q]? = some (g q, .inl (cA t, n, vm_ct g M q t)) := fun hq hs => by rw [vm_w_at hq, vm_e_arr hs]
  have obj : ∀ {q a}, q < vm_n M → vm_sh M q = .inl a → (vm_w g cA M)[q]? = some (g q, .inr (a, (List.range (vg_N a)).map (fun k => vm_tr g (vm_gv M q (vg_y a k) k)))) := fun hq hs => by rw [vm_w_at hq, vm_e_obj hs]
  have hf1 : 1 ≤ R.frames := by omega
  have hl9 : 900 ≤ R.locals := vm_ar4 hRl
  simp only [vm_do] at h
  obtain ⟨i, q, st', n, rfl, hq, hs, hin2, h⟩ := h
  exact va_lald hx hb hK hI q 1 (arr hq hs) (vm_tys_at (by omega)) hin2 hdg (go h hl)
set_option maxHeartbeats 1000000 in
set_option maxRecDepth 20000 in
theorem vm_step_aaload {p : Program} {l : Launch} {e : Env} {R : Room} {s : State} {m : MethodId} {args : Array Value} {below : List Frame} {meth : Method} {c : Code} {Q : State → Prop} {cc : ByteArray} {O : Nat → List Value → vm_M → vm_R → Prop} {L : Nat} {xs : Nat → Int32} {own : Nat} {ini : Bool} {nL n0 s0 b0 d : Nat} {g : Nat → Nat} {cA : Nat → ClassId} {D : va_G} {X : State → Prop} {r : vm_R}
    (hx : p.tables.exec = Jvm.exec) (hb : c.code = cc) (hml : c.maxLocals = nL) (hown : s.vm.findClass (vg_O own) = some m.cls) (hts : ∀ w ∈ vt, w.before args s = true) (hK : va_K D vg_cl (vm_tys cA) s) (hN : vm_Nx s) (hX : X s) (hXs : vm_Str b0 g X)
    (hin : ini = true → meth.name = "<init>") (hscr : own = 12 → va_X (g vm_scr) L xs s s.heap ∧ g vm_scr < s.heap.size ∧ ¬ b0 ≤ g vm_scr) (hg : ∀ q, q < 1099511627776 → g q = b0 + q) (hh0 : s.heap.size = b0 + n0) (hnr : vm_n r.2 ≤ 1099511627776)
    (hRc : vm_n r.2 - n0 ≤ R.cells) (hRs : vm_s r.2 - s0 ≤ R.slots) (hRf : d + 9 ≤ R.frames) (hRl : 100 * (d + 9) ≤ R.locals)
    (hO : ∀ i as M r', O i as M r' → vm_n M ≤ vm_n r'.2 ∧ vm_s M ≤ vm_s r'.2 ∧ (i < 203 → vm_n r'.2 ≤ 1099511627776 → vm_Ok l g cA D b0 X d i as M r')) {E : Nat → vm_L → List Value → vm_M → Prop}
    (ih : ∀ pc lv st M, E pc lv st M → n0 ≤ vm_n M → s0 ≤ vm_s M → ∀ (H : Heap) (locs : List Loc) (ls : Array Slot), lv_has ls nL (vm_trl g lv) → vm_In g cA D M H → va_S (fun q => b0 ≤ q) s.heap H locs → W p l e R s m args below meth c H locs (vm_n M - n0) (vm_s M - s0) Q (F0 m pc ls (st.map (vm_tr g))))
    (hup : ∀ pc lv st M, E pc lv st M → vm_up M r)
    (hret : ∀ pc ins (H : Heap) (locs : List Loc) (ls : Array Slot), decode cc pc = .ok (ins, 1) → vm_isr ins r.1 → vm_In g cA D r.2 H → va_S (fun q => b0 ≤ q) s.heap H locs → W p l e R s m args below meth c H locs (vm_n r.2 - n0) (vm_s r.2 - s0) Q (F0 m pc ls (r.1.toList.map (vm_tr g))))
    {pc : Nat} {lv : vm_L} {st : List Value} {M : vm_M}  {a b : Nat} {v : Int} (hdg : decode cc pc = .ok (.aaload, vm_len (.aaload) b)) (hlk : vm_lk own (.aaload) a b v) (h : vm_do O L xs own ini nL r E pc lv st M (.aaload) a b v) (hn : n0 ≤ vm_n M) (hsl : s0 ≤ vm_s M) {H : Heap} {locs : List Loc} {ls : Array Slot} (hl : lv_has ls nL (vm_trl g lv)) (hI : vm_In g cA D M H) (hS : va_S (fun q => b0 ≤ q) s.heap H locs) :
    W p l e R s m args below meth c H locs (vm_n M - n0) (vm_s M - s0) Q (F0 m pc ls (st.map (vm_tr g))) := by
  have hupM : vm_up M r := vm_do_up (fun i as M r' ho => ⟨(hO i as M r' ho).1, (hO i as M r' ho).2.1⟩) hup h
  have hnM : vm_n M ≤ 1099511627776 := Nat.le_trans hupM.1 hnr
  have hDd : va_D (fun q => b0 ≤ q) (vm_w g cA M) := vm_Dd hg hnM
  have hA : ∀ q, s.heap.size ≤ q → (fun q => b0 ≤ q) q := fun q hq => by show b0 ≤ q; omega
  have go : ∀ {pc lv st ls}, E pc lv st M → lv_has ls nL (vm_trl g lv) → W p l e R s m args below meth c H locs (vm_n M - n0) (vm_s M - s0) Q (F0 m pc ls (st.map (vm_tr g))) := fun hE hl => ih _ _ _ _ hE hn hsl _ _ _ hl hI hS
  have hcs : vm_n M - n0 ≤ R.cells := Nat.le_trans (Nat.sub_le_sub_right hupM.1 n0) hRc
  have hss : vm_s M - s0 ≤ R.slots := Nat.le_trans (Nat.sub_le_sub_right hupM.2 s0) hRs
  have hml2 : c.maxLocals = ls.size := hml.trans hl.1.symm
  have arr : ∀ {q t n}, q < vm_n M → vm_sh M q = .inr (t, n) → (vm_w g cA M)[q]? = some (g q, .inl (cA t, n, vm_ct g M q t)) := fun hq hs => by rw [vm_w_at hq, vm_e_arr hs]
  have obj : ∀ {q a}, q < vm_n M → vm_sh M q = .inl a → (vm_w g cA M)[q]? = some (g q, .inr (a, (List.range (vg_N a)).map (fun k => vm_tr g (vm_gv M q (vg_y a k) k)))) := fun hq hs => by rw [vm_w_at hq, vm_e_obj hs]
  have hf1 : 1 ≤ R.frames := by omega
  have hl9 : 900 ≤ R.locals := vm_ar4 hRl
  simp only [vm_do] at h
  obtain ⟨i, q, st', n, rfl, hq, hs, hin2, h⟩ := h
  refine va_aldq hx hb hK hI q 4 (arr hq hs) (vm_tys_at (by omega)) hin2 hdg ?_
  have h2 := go h hl
  rw [List.map_cons, vm_tr_rf] at h2
  exact h2
set_option maxHeartbeats 1000000 in
set_option maxRecDepth 20000 in
theorem vm_step_checkcast {p : Program} {l : Launch} {e : Env} {R : Room} {s : State} {m : MethodId} {args : Array Value} {below : List Frame} {meth : Method} {c : Code} {Q : State → Prop} {cc : ByteArray} {O : Nat → List Value → vm_M → vm_R → Prop} {L : Nat} {xs : Nat → Int32} {own : Nat} {ini : Bool} {nL n0 s0 b0 d : Nat} {g : Nat → Nat} {cA : Nat → ClassId} {D : va_G} {X : State → Prop} {r : vm_R}
    (hx : p.tables.exec = Jvm.exec) (hb : c.code = cc) (hml : c.maxLocals = nL) (hown : s.vm.findClass (vg_O own) = some m.cls) (hts : ∀ w ∈ vt, w.before args s = true) (hK : va_K D vg_cl (vm_tys cA) s) (hN : vm_Nx s) (hX : X s) (hXs : vm_Str b0 g X)
    (hin : ini = true → meth.name = "<init>") (hscr : own = 12 → va_X (g vm_scr) L xs s s.heap ∧ g vm_scr < s.heap.size ∧ ¬ b0 ≤ g vm_scr) (hg : ∀ q, q < 1099511627776 → g q = b0 + q) (hh0 : s.heap.size = b0 + n0) (hnr : vm_n r.2 ≤ 1099511627776)
    (hRc : vm_n r.2 - n0 ≤ R.cells) (hRs : vm_s r.2 - s0 ≤ R.slots) (hRf : d + 9 ≤ R.frames) (hRl : 100 * (d + 9) ≤ R.locals)
    (hO : ∀ i as M r', O i as M r' → vm_n M ≤ vm_n r'.2 ∧ vm_s M ≤ vm_s r'.2 ∧ (i < 203 → vm_n r'.2 ≤ 1099511627776 → vm_Ok l g cA D b0 X d i as M r')) {E : Nat → vm_L → List Value → vm_M → Prop}
    (ih : ∀ pc lv st M, E pc lv st M → n0 ≤ vm_n M → s0 ≤ vm_s M → ∀ (H : Heap) (locs : List Loc) (ls : Array Slot), lv_has ls nL (vm_trl g lv) → vm_In g cA D M H → va_S (fun q => b0 ≤ q) s.heap H locs → W p l e R s m args below meth c H locs (vm_n M - n0) (vm_s M - s0) Q (F0 m pc ls (st.map (vm_tr g))))
    (hup : ∀ pc lv st M, E pc lv st M → vm_up M r)
    (hret : ∀ pc ins (H : Heap) (locs : List Loc) (ls : Array Slot), decode cc pc = .ok (ins, 1) → vm_isr ins r.1 → vm_In g cA D r.2 H → va_S (fun q => b0 ≤ q) s.heap H locs → W p l e R s m args below meth c H locs (vm_n r.2 - n0) (vm_s r.2 - s0) Q (F0 m pc ls (r.1.toList.map (vm_tr g))))
    {pc : Nat} {lv : vm_L} {st : List Value} {M : vm_M} {i : Nat} {a b : Nat} {v : Int} (hdg : decode cc pc = .ok (.checkcast i, vm_len (.checkcast i) b)) (hlk : vm_lk own (.checkcast i) a b v) (h : vm_do O L xs own ini nL r E pc lv st M (.checkcast i) a b v) (hn : n0 ≤ vm_n M) (hsl : s0 ≤ vm_s M) {H : Heap} {locs : List Loc} {ls : Array Slot} (hl : lv_has ls nL (vm_trl g lv)) (hI : vm_In g cA D M H) (hS : va_S (fun q => b0 ≤ q) s.heap H locs) :
    W p l e R s m args below meth c H locs (vm_n M - n0) (vm_s M - s0) Q (F0 m pc ls (st.map (vm_tr g))) := by
  have hupM : vm_up M r := vm_do_up (fun i as M r' ho => ⟨(hO i as M r' ho).1, (hO i as M r' ho).2.1⟩) hup h
  have hnM : vm_n M ≤ 1099511627776 := Nat.le_trans hupM.1 hnr
  have hDd : va_D (fun q => b0 ≤ q) (vm_w g cA M) := vm_Dd hg hnM
  have hA : ∀ q, s.heap.size ≤ q → (fun q => b0 ≤ q) q := fun q hq => by show b0 ≤ q; omega
  have go : ∀ {pc lv st ls}, E pc lv st M → lv_has ls nL (vm_trl g lv) → W p l e R s m args below meth c H locs (vm_n M - n0) (vm_s M - s0) Q (F0 m pc ls (st.map (vm_tr g))) := fun hE hl => ih _ _ _ _ hE hn hsl _ _ _ hl hI hS
  have hcs : vm_n M - n0 ≤ R.cells := Nat.le_trans (Nat.sub_le_sub_right hupM.1 n0) hRc
  have hss : vm_s M - s0 ≤ R.slots := Nat.le_trans (Nat.sub_le_sub_right hupM.2 s0) hRs
  have hml2 : c.maxLocals = ls.size := hml.trans hl.1.symm
  have arr : ∀ {q t n}, q < vm_n M → vm_sh M q = .inr (t, n) → (vm_w g cA M)[q]? = some (g q, .inl (cA t, n, vm_ct g M q t)) := fun hq hs => by rw [vm_w_at hq, vm_e_arr hs]
  have obj : ∀ {q a}, q < vm_n M → vm_sh M q = .inl a → (vm_w g cA M)[q]? = some (g q, .inr (a, (List.range (vg_N a)).map (fun k => vm_tr g (vm_gv M q (vg_y a k) k)))) := fun hq hs => by rw [vm_w_at hq, vm_e_obj hs]
  have hf1 : 1 ≤ R.frames := by omega
  have hl9 : 900 ≤ R.locals := vm_ar4 hRl
  simp only [vm_do] at h
  obtain ⟨q, st', n, rfl, hq, hs, h⟩ := h
  exact va_castA hx hb hown (hts _ hlk) hI q (arr hq hs) (va_nm_int (hK.2 0 _ (vm_tys_at (by omega))).2) hdg (go h hl)
set_option maxHeartbeats 1000000 in
set_option maxRecDepth 20000 in
theorem vm_step_ireturn {p : Program} {l : Launch} {e : Env} {R : Room} {s : State} {m : MethodId} {args : Array Value} {below : List Frame} {meth : Method} {c : Code} {Q : State → Prop} {cc : ByteArray} {O : Nat → List Value → vm_M → vm_R → Prop} {L : Nat} {xs : Nat → Int32} {own : Nat} {ini : Bool} {nL n0 s0 b0 d : Nat} {g : Nat → Nat} {cA : Nat → ClassId} {D : va_G} {X : State → Prop} {r : vm_R}
    (hx : p.tables.exec = Jvm.exec) (hb : c.code = cc) (hml : c.maxLocals = nL) (hown : s.vm.findClass (vg_O own) = some m.cls) (hts : ∀ w ∈ vt, w.before args s = true) (hK : va_K D vg_cl (vm_tys cA) s) (hN : vm_Nx s) (hX : X s) (hXs : vm_Str b0 g X)
    (hin : ini = true → meth.name = "<init>") (hscr : own = 12 → va_X (g vm_scr) L xs s s.heap ∧ g vm_scr < s.heap.size ∧ ¬ b0 ≤ g vm_scr) (hg : ∀ q, q < 1099511627776 → g q = b0 + q) (hh0 : s.heap.size = b0 + n0) (hnr : vm_n r.2 ≤ 1099511627776)
    (hRc : vm_n r.2 - n0 ≤ R.cells) (hRs : vm_s r.2 - s0 ≤ R.slots) (hRf : d + 9 ≤ R.frames) (hRl : 100 * (d + 9) ≤ R.locals)
    (hO : ∀ i as M r', O i as M r' → vm_n M ≤ vm_n r'.2 ∧ vm_s M ≤ vm_s r'.2 ∧ (i < 203 → vm_n r'.2 ≤ 1099511627776 → vm_Ok l g cA D b0 X d i as M r')) {E : Nat → vm_L → List Value → vm_M → Prop}
    (ih : ∀ pc lv st M, E pc lv st M → n0 ≤ vm_n M → s0 ≤ vm_s M → ∀ (H : Heap) (locs : List Loc) (ls : Array Slot), lv_has ls nL (vm_trl g lv) → vm_In g cA D M H → va_S (fun q => b0 ≤ q) s.heap H locs → W p l e R s m args below meth c H locs (vm_n M - n0) (vm_s M - s0) Q (F0 m pc ls (st.map (vm_tr g))))
    (hup : ∀ pc lv st M, E pc lv st M → vm_up M r)
    (hret : ∀ pc ins (H : Heap) (locs : List Loc) (ls : Array Slot), decode cc pc = .ok (ins, 1) → vm_isr ins r.1 → vm_In g cA D r.2 H → va_S (fun q => b0 ≤ q) s.heap H locs → W p l e R s m args below meth c H locs (vm_n r.2 - n0) (vm_s r.2 - s0) Q (F0 m pc ls (r.1.toList.map (vm_tr g))))
    {pc : Nat} {lv : vm_L} {st : List Value} {M : vm_M}  {a b : Nat} {v : Int} (hdg : decode cc pc = .ok (.ireturn, vm_len (.ireturn) b)) (hlk : vm_lk own (.ireturn) a b v) (h : vm_do O L xs own ini nL r E pc lv st M (.ireturn) a b v) (hn : n0 ≤ vm_n M) (hsl : s0 ≤ vm_s M) {H : Heap} {locs : List Loc} {ls : Array Slot} (hl : lv_has ls nL (vm_trl g lv)) (hI : vm_In g cA D M H) (hS : va_S (fun q => b0 ≤ q) s.heap H locs) :
    W p l e R s m args below meth c H locs (vm_n M - n0) (vm_s M - s0) Q (F0 m pc ls (st.map (vm_tr g))) := by
  have hupM : vm_up M r := vm_do_up (fun i as M r' ho => ⟨(hO i as M r' ho).1, (hO i as M r' ho).2.1⟩) hup h
  have hnM : vm_n M ≤ 1099511627776 := Nat.le_trans hupM.1 hnr
  have hDd : va_D (fun q => b0 ≤ q) (vm_w g cA M) := vm_Dd hg hnM
  have hA : ∀ q, s.heap.size ≤ q → (fun q => b0 ≤ q) q := fun q hq => by show b0 ≤ q; omega
  have go : ∀ {pc lv st ls}, E pc lv st M → lv_has ls nL (vm_trl g lv) → W p l e R s m args below meth c H locs (vm_n M - n0) (vm_s M - s0) Q (F0 m pc ls (st.map (vm_tr g))) := fun hE hl => ih _ _ _ _ hE hn hsl _ _ _ hl hI hS
  have hcs : vm_n M - n0 ≤ R.cells := Nat.le_trans (Nat.sub_le_sub_right hupM.1 n0) hRc
  have hss : vm_s M - s0 ≤ R.slots := Nat.le_trans (Nat.sub_le_sub_right hupM.2 s0) hRs
  have hml2 : c.maxLocals = ls.size := hml.trans hl.1.symm
  have arr : ∀ {q t n}, q < vm_n M → vm_sh M q = .inr (t, n) → (vm_w g cA M)[q]? = some (g q, .inl (cA t, n, vm_ct g M q t)) := fun hq hs => by rw [vm_w_at hq, vm_e_arr hs]
  have obj : ∀ {q a}, q < vm_n M → vm_sh M q = .inl a → (vm_w g cA M)[q]? = some (g q, .inr (a, (List.range (vg_N a)).map (fun k => vm_tr g (vm_gv M q (vg_y a k) k)))) := fun hq hs => by rw [vm_w_at hq, vm_e_obj hs]
  have hf1 : 1 ≤ R.frames := by omega
  have hl9 : 900 ≤ R.locals := vm_ar4 hRl
  simp only [vm_do] at h
  obtain ⟨x, rfl, rfl⟩ := h
  exact hret pc _ H locs ls hdg trivial hI hS
set_option maxHeartbeats 1000000 in
set_option maxRecDepth 20000 in
theorem vm_step_lreturn {p : Program} {l : Launch} {e : Env} {R : Room} {s : State} {m : MethodId} {args : Array Value} {below : List Frame} {meth : Method} {c : Code} {Q : State → Prop} {cc : ByteArray} {O : Nat → List Value → vm_M → vm_R → Prop} {L : Nat} {xs : Nat → Int32} {own : Nat} {ini : Bool} {nL n0 s0 b0 d : Nat} {g : Nat → Nat} {cA : Nat → ClassId} {D : va_G} {X : State → Prop} {r : vm_R}
    (hx : p.tables.exec = Jvm.exec) (hb : c.code = cc) (hml : c.maxLocals = nL) (hown : s.vm.findClass (vg_O own) = some m.cls) (hts : ∀ w ∈ vt, w.before args s = true) (hK : va_K D vg_cl (vm_tys cA) s) (hN : vm_Nx s) (hX : X s) (hXs : vm_Str b0 g X)
    (hin : ini = true → meth.name = "<init>") (hscr : own = 12 → va_X (g vm_scr) L xs s s.heap ∧ g vm_scr < s.heap.size ∧ ¬ b0 ≤ g vm_scr) (hg : ∀ q, q < 1099511627776 → g q = b0 + q) (hh0 : s.heap.size = b0 + n0) (hnr : vm_n r.2 ≤ 1099511627776)
    (hRc : vm_n r.2 - n0 ≤ R.cells) (hRs : vm_s r.2 - s0 ≤ R.slots) (hRf : d + 9 ≤ R.frames) (hRl : 100 * (d + 9) ≤ R.locals)
    (hO : ∀ i as M r', O i as M r' → vm_n M ≤ vm_n r'.2 ∧ vm_s M ≤ vm_s r'.2 ∧ (i < 203 → vm_n r'.2 ≤ 1099511627776 → vm_Ok l g cA D b0 X d i as M r')) {E : Nat → vm_L → List Value → vm_M → Prop}
    (ih : ∀ pc lv st M, E pc lv st M → n0 ≤ vm_n M → s0 ≤ vm_s M → ∀ (H : Heap) (locs : List Loc) (ls : Array Slot), lv_has ls nL (vm_trl g lv) → vm_In g cA D M H → va_S (fun q => b0 ≤ q) s.heap H locs → W p l e R s m args below meth c H locs (vm_n M - n0) (vm_s M - s0) Q (F0 m pc ls (st.map (vm_tr g))))
    (hup : ∀ pc lv st M, E pc lv st M → vm_up M r)
    (hret : ∀ pc ins (H : Heap) (locs : List Loc) (ls : Array Slot), decode cc pc = .ok (ins, 1) → vm_isr ins r.1 → vm_In g cA D r.2 H → va_S (fun q => b0 ≤ q) s.heap H locs → W p l e R s m args below meth c H locs (vm_n r.2 - n0) (vm_s r.2 - s0) Q (F0 m pc ls (r.1.toList.map (vm_tr g))))
    {pc : Nat} {lv : vm_L} {st : List Value} {M : vm_M}  {a b : Nat} {v : Int} (hdg : decode cc pc = .ok (.lreturn, vm_len (.lreturn) b)) (hlk : vm_lk own (.lreturn) a b v) (h : vm_do O L xs own ini nL r E pc lv st M (.lreturn) a b v) (hn : n0 ≤ vm_n M) (hsl : s0 ≤ vm_s M) {H : Heap} {locs : List Loc} {ls : Array Slot} (hl : lv_has ls nL (vm_trl g lv)) (hI : vm_In g cA D M H) (hS : va_S (fun q => b0 ≤ q) s.heap H locs) :
    W p l e R s m args below meth c H locs (vm_n M - n0) (vm_s M - s0) Q (F0 m pc ls (st.map (vm_tr g))) := by
  have hupM : vm_up M r := vm_do_up (fun i as M r' ho => ⟨(hO i as M r' ho).1, (hO i as M r' ho).2.1⟩) hup h
  have hnM : vm_n M ≤ 1099511627776 := Nat.le_trans hupM.1 hnr
  have hDd : va_D (fun q => b0 ≤ q) (vm_w g cA M) := vm_Dd hg hnM
  have hA : ∀ q, s.heap.size ≤ q → (fun q => b0 ≤ q) q := fun q hq => by show b0 ≤ q; omega
  have go : ∀ {pc lv st ls}, E pc lv st M → lv_has ls nL (vm_trl g lv) → W p l e R s m args below meth c H locs (vm_n M - n0) (vm_s M - s0) Q (F0 m pc ls (st.map (vm_tr g))) := fun hE hl => ih _ _ _ _ hE hn hsl _ _ _ hl hI hS
  have hcs : vm_n M - n0 ≤ R.cells := Nat.le_trans (Nat.sub_le_sub_right hupM.1 n0) hRc
  have hss : vm_s M - s0 ≤ R.slots := Nat.le_trans (Nat.sub_le_sub_right hupM.2 s0) hRs
  have hml2 : c.maxLocals = ls.size := hml.trans hl.1.symm
  have arr : ∀ {q t n}, q < vm_n M → vm_sh M q = .inr (t, n) → (vm_w g cA M)[q]? = some (g q, .inl (cA t, n, vm_ct g M q t)) := fun hq hs => by rw [vm_w_at hq, vm_e_arr hs]
  have obj : ∀ {q a}, q < vm_n M → vm_sh M q = .inl a → (vm_w g cA M)[q]? = some (g q, .inr (a, (List.range (vg_N a)).map (fun k => vm_tr g (vm_gv M q (vg_y a k) k)))) := fun hq hs => by rw [vm_w_at hq, vm_e_obj hs]
  have hf1 : 1 ≤ R.frames := by omega
  have hl9 : 900 ≤ R.locals := vm_ar4 hRl
  simp only [vm_do] at h
  obtain ⟨x, rfl, rfl⟩ := h
  exact hret pc _ H locs ls hdg trivial hI hS
set_option maxHeartbeats 1000000 in
set_option maxRecDepth 20000 in
theorem vm_step_areturn {p : Program} {l : Launch} {e : Env} {R : Room} {s : State} {m : MethodId} {args : Array Value} {below : List Frame} {meth : Method} {c : Code} {Q : State → Prop} {cc : ByteArray} {O : Nat → List Value → vm_M → vm_R → Prop} {L : Nat} {xs : Nat → Int32} {own : Nat} {ini : Bool} {nL n0 s0 b0 d : Nat} {g : Nat → Nat} {cA : Nat → ClassId} {D : va_G} {X : State → Prop} {r : vm_R}
    (hx : p.tables.exec = Jvm.exec) (hb : c.code = cc) (hml : c.maxLocals = nL) (hown : s.vm.findClass (vg_O own) = some m.cls) (hts : ∀ w ∈ vt, w.before args s = true) (hK : va_K D vg_cl (vm_tys cA) s) (hN : vm_Nx s) (hX : X s) (hXs : vm_Str b0 g X)
    (hin : ini = true → meth.name = "<init>") (hscr : own = 12 → va_X (g vm_scr) L xs s s.heap ∧ g vm_scr < s.heap.size ∧ ¬ b0 ≤ g vm_scr) (hg : ∀ q, q < 1099511627776 → g q = b0 + q) (hh0 : s.heap.size = b0 + n0) (hnr : vm_n r.2 ≤ 1099511627776)
    (hRc : vm_n r.2 - n0 ≤ R.cells) (hRs : vm_s r.2 - s0 ≤ R.slots) (hRf : d + 9 ≤ R.frames) (hRl : 100 * (d + 9) ≤ R.locals)
    (hO : ∀ i as M r', O i as M r' → vm_n M ≤ vm_n r'.2 ∧ vm_s M ≤ vm_s r'.2 ∧ (i < 203 → vm_n r'.2 ≤ 1099511627776 → vm_Ok l g cA D b0 X d i as M r')) {E : Nat → vm_L → List Value → vm_M → Prop}
    (ih : ∀ pc lv st M, E pc lv st M → n0 ≤ vm_n M → s0 ≤ vm_s M → ∀ (H : Heap) (locs : List Loc) (ls : Array Slot), lv_has ls nL (vm_trl g lv) → vm_In g cA D M H → va_S (fun q => b0 ≤ q) s.heap H locs → W p l e R s m args below meth c H locs (vm_n M - n0) (vm_s M - s0) Q (F0 m pc ls (st.map (vm_tr g))))
    (hup : ∀ pc lv st M, E pc lv st M → vm_up M r)
    (hret : ∀ pc ins (H : Heap) (locs : List Loc) (ls : Array Slot), decode cc pc = .ok (ins, 1) → vm_isr ins r.1 → vm_In g cA D r.2 H → va_S (fun q => b0 ≤ q) s.heap H locs → W p l e R s m args below meth c H locs (vm_n r.2 - n0) (vm_s r.2 - s0) Q (F0 m pc ls (r.1.toList.map (vm_tr g))))
    {pc : Nat} {lv : vm_L} {st : List Value} {M : vm_M}  {a b : Nat} {v : Int} (hdg : decode cc pc = .ok (.areturn, vm_len (.areturn) b)) (hlk : vm_lk own (.areturn) a b v) (h : vm_do O L xs own ini nL r E pc lv st M (.areturn) a b v) (hn : n0 ≤ vm_n M) (hsl : s0 ≤ vm_s M) {H : Heap} {locs : List Loc} {ls : Array Slot} (hl : lv_has ls nL (vm_trl g lv)) (hI : vm_In g cA D M H) (hS : va_S (fun q => b0 ≤ q) s.heap H locs) :
    W p l e R s m args below meth c H locs (vm_n M - n0) (vm_s M - s0) Q (F0 m pc ls (st.map (vm_tr g))) := by
  have hupM : vm_up M r := vm_do_up (fun i as M r' ho => ⟨(hO i as M r' ho).1, (hO i as M r' ho).2.1⟩) hup h
  have hnM : vm_n M ≤ 1099511627776 := Nat.le_trans hupM.1 hnr
  have hDd : va_D (fun q => b0 ≤ q) (vm_w g cA M) := vm_Dd hg hnM
  have hA : ∀ q, s.heap.size ≤ q → (fun q => b0 ≤ q) q := fun q hq => by show b0 ≤ q; omega
  have go : ∀ {pc lv st ls}, E pc lv st M → lv_has ls nL (vm_trl g lv) → W p l e R s m args below meth c H locs (vm_n M - n0) (vm_s M - s0) Q (F0 m pc ls (st.map (vm_tr g))) := fun hE hl => ih _ _ _ _ hE hn hsl _ _ _ hl hI hS
  have hcs : vm_n M - n0 ≤ R.cells := Nat.le_trans (Nat.sub_le_sub_right hupM.1 n0) hRc
  have hss : vm_s M - s0 ≤ R.slots := Nat.le_trans (Nat.sub_le_sub_right hupM.2 s0) hRs
  have hml2 : c.maxLocals = ls.size := hml.trans hl.1.symm
  have arr : ∀ {q t n}, q < vm_n M → vm_sh M q = .inr (t, n) → (vm_w g cA M)[q]? = some (g q, .inl (cA t, n, vm_ct g M q t)) := fun hq hs => by rw [vm_w_at hq, vm_e_arr hs]
  have obj : ∀ {q a}, q < vm_n M → vm_sh M q = .inl a → (vm_w g cA M)[q]? = some (g q, .inr (a, (List.range (vg_N a)).map (fun k => vm_tr g (vm_gv M q (vg_y a k) k)))) := fun hq hs => by rw [vm_w_at hq, vm_e_obj hs]
  have hf1 : 1 ≤ R.frames := by omega
  have hl9 : 900 ≤ R.locals := vm_ar4 hRl
  simp only [vm_do] at h
  obtain ⟨x, rfl, rfl⟩ := h
  cases x
  · exact hret pc _ H locs ls hdg trivial hI hS
  · exact hret pc _ H locs ls hdg trivial hI hS
set_option maxHeartbeats 1000000 in
set_option maxRecDepth 20000 in
theorem vm_step_return_ {p : Program} {l : Launch} {e : Env} {R : Room} {s : State} {m : MethodId} {args : Array Value} {below : List Frame} {meth : Method} {c : Code} {Q : State → Prop} {cc : ByteArray} {O : Nat → List Value → vm_M → vm_R → Prop} {L : Nat} {xs : Nat → Int32} {own : Nat} {ini : Bool} {nL n0 s0 b0 d : Nat} {g : Nat → Nat} {cA : Nat → ClassId} {D : va_G} {X : State → Prop} {r : vm_R}
    (hx : p.tables.exec = Jvm.exec) (hb : c.code = cc) (hml : c.maxLocals = nL) (hown : s.vm.findClass (vg_O own) = some m.cls) (hts : ∀ w ∈ vt, w.before args s = true) (hK : va_K D vg_cl (vm_tys cA) s) (hN : vm_Nx s) (hX : X s) (hXs : vm_Str b0 g X)
    (hin : ini = true → meth.name = "<init>") (hscr : own = 12 → va_X (g vm_scr) L xs s s.heap ∧ g vm_scr < s.heap.size ∧ ¬ b0 ≤ g vm_scr) (hg : ∀ q, q < 1099511627776 → g q = b0 + q) (hh0 : s.heap.size = b0 + n0) (hnr : vm_n r.2 ≤ 1099511627776)
    (hRc : vm_n r.2 - n0 ≤ R.cells) (hRs : vm_s r.2 - s0 ≤ R.slots) (hRf : d + 9 ≤ R.frames) (hRl : 100 * (d + 9) ≤ R.locals)
    (hO : ∀ i as M r', O i as M r' → vm_n M ≤ vm_n r'.2 ∧ vm_s M ≤ vm_s r'.2 ∧ (i < 203 → vm_n r'.2 ≤ 1099511627776 → vm_Ok l g cA D b0 X d i as M r')) {E : Nat → vm_L → List Value → vm_M → Prop}
    (ih : ∀ pc lv st M, E pc lv st M → n0 ≤ vm_n M → s0 ≤ vm_s M → ∀ (H : Heap) (locs : List Loc) (ls : Array Slot), lv_has ls nL (vm_trl g lv) → vm_In g cA D M H → va_S (fun q => b0 ≤ q) s.heap H locs → W p l e R s m args below meth c H locs (vm_n M - n0) (vm_s M - s0) Q (F0 m pc ls (st.map (vm_tr g))))
    (hup : ∀ pc lv st M, E pc lv st M → vm_up M r)
    (hret : ∀ pc ins (H : Heap) (locs : List Loc) (ls : Array Slot), decode cc pc = .ok (ins, 1) → vm_isr ins r.1 → vm_In g cA D r.2 H → va_S (fun q => b0 ≤ q) s.heap H locs → W p l e R s m args below meth c H locs (vm_n r.2 - n0) (vm_s r.2 - s0) Q (F0 m pc ls (r.1.toList.map (vm_tr g))))
    {pc : Nat} {lv : vm_L} {st : List Value} {M : vm_M}  {a b : Nat} {v : Int} (hdg : decode cc pc = .ok (.return_, vm_len (.return_) b)) (hlk : vm_lk own (.return_) a b v) (h : vm_do O L xs own ini nL r E pc lv st M (.return_) a b v) (hn : n0 ≤ vm_n M) (hsl : s0 ≤ vm_s M) {H : Heap} {locs : List Loc} {ls : Array Slot} (hl : lv_has ls nL (vm_trl g lv)) (hI : vm_In g cA D M H) (hS : va_S (fun q => b0 ≤ q) s.heap H locs) :
    W p l e R s m args below meth c H locs (vm_n M - n0) (vm_s M - s0) Q (F0 m pc ls (st.map (vm_tr g))) := by
  have hupM : vm_up M r := vm_do_up (fun i as M r' ho => ⟨(hO i as M r' ho).1, (hO i as M r' ho).2.1⟩) hup h
  have hnM : vm_n M ≤ 1099511627776 := Nat.le_trans hupM.1 hnr
  have hDd : va_D (fun q => b0 ≤ q) (vm_w g cA M) := vm_Dd hg hnM
  have hA : ∀ q, s.heap.size ≤ q → (fun q => b0 ≤ q) q := fun q hq => by show b0 ≤ q; omega
  have go : ∀ {pc lv st ls}, E pc lv st M → lv_has ls nL (vm_trl g lv) → W p l e R s m args below meth c H locs (vm_n M - n0) (vm_s M - s0) Q (F0 m pc ls (st.map (vm_tr g))) := fun hE hl => ih _ _ _ _ hE hn hsl _ _ _ hl hI hS
  have hcs : vm_n M - n0 ≤ R.cells := Nat.le_trans (Nat.sub_le_sub_right hupM.1 n0) hRc
  have hss : vm_s M - s0 ≤ R.slots := Nat.le_trans (Nat.sub_le_sub_right hupM.2 s0) hRs
  have hml2 : c.maxLocals = ls.size := hml.trans hl.1.symm
  have arr : ∀ {q t n}, q < vm_n M → vm_sh M q = .inr (t, n) → (vm_w g cA M)[q]? = some (g q, .inl (cA t, n, vm_ct g M q t)) := fun hq hs => by rw [vm_w_at hq, vm_e_arr hs]
  have obj : ∀ {q a}, q < vm_n M → vm_sh M q = .inl a → (vm_w g cA M)[q]? = some (g q, .inr (a, (List.range (vg_N a)).map (fun k => vm_tr g (vm_gv M q (vg_y a k) k)))) := fun hq hs => by rw [vm_w_at hq, vm_e_obj hs]
  have hf1 : 1 ≤ R.frames := by omega
  have hl9 : 900 ≤ R.locals := vm_ar4 hRl
  simp only [vm_do] at h
  obtain ⟨rfl, rfl⟩ := h
  exact hret pc _ H locs ls hdg trivial hI hS
