set_option maxHeartbeats 1000000 in
set_option maxRecDepth 20000 in
theorem vm_step_getfield {p : Program} {l : Launch} {e : Env} {R : Room} {s : State} {m : MethodId} {args : Array Value} {below : List Frame} {meth : Method} {c : Code} {Q : State → Prop} {cc : ByteArray} {O : Nat → List Value → vm_M → vm_R → Prop} {L : Nat} {xs : Nat → Int32} {own : Nat} {ini : Bool} {nL n0 s0 b0 d : Nat} {g : Nat → Nat} {cA : Nat → ClassId} {D : va_G} {X : State → Prop} {r : vm_R}
    (hx : p.tables.exec = Jvm.exec) (hb : c.code = cc) (hml : c.maxLocals = nL) (hown : s.vm.findClass (vg_O own) = some m.cls) (hts : ∀ w ∈ vt, w.before args s = true) (hK : va_K D vg_cl (vm_tys cA) s) (hN : vm_Nx s) (hX : X s) (hXs : vm_Str b0 g X)
    (hin : ini = true → meth.name = "<init>") (hscr : own = 12 → va_X (g vm_scr) L xs s s.heap ∧ g vm_scr < s.heap.size ∧ ¬ b0 ≤ g vm_scr) (hg : ∀ q, q < 1099511627776 → g q = b0 + q) (hh0 : s.heap.size = b0 + n0) (hnr : vm_n r.2 ≤ 1099511627776)
    (hRc : vm_n r.2 - n0 ≤ R.cells) (hRs : vm_s r.2 - s0 ≤ R.slots) (hRf : d + 9 ≤ R.frames) (hRl : 100 * (d + 9) ≤ R.locals)
    (hO : ∀ i as M r', O i as M r' → vm_n M ≤ vm_n r'.2 ∧ vm_s M ≤ vm_s r'.2 ∧ (i < 203 → vm_n r'.2 ≤ 1099511627776 → vm_Ok l g cA D b0 X d i as M r')) {E : Nat → vm_L → List Value → vm_M → Prop}
    (ih : ∀ pc lv st M, E pc lv st M → n0 ≤ vm_n M → s0 ≤ vm_s M → ∀ (H : Heap) (locs : List Loc) (ls : Array Slot), lv_has ls nL (vm_trl g lv) → vm_In g cA D M H → va_S (fun q => b0 ≤ q) s.heap H locs → W p l e R s m args below meth c H locs (vm_n M - n0) (vm_s M - s0) Q (F0 m pc ls (st.map (vm_tr g))))
    (hup : ∀ pc lv st M, E pc lv st M → vm_up M r)
    (hret : ∀ pc ins (H : Heap) (locs : List Loc) (ls : Array Slot), decode cc pc = .ok (ins, 1) → vm_isr ins r.1 → vm_In g cA D r.2 H → va_S (fun q => b0 ≤ q) s.heap H locs → W p l e R s m args below meth c H locs (vm_n r.2 - n0) (vm_s r.2 - s0) Q (F0 m pc ls (r.1.toList.map (vm_tr g))))
    {pc : Nat} {lv : vm_L} {st : List Value} {M : vm_M} {i : Nat} {a b : Nat} {v : Int} (hdg : decode cc pc = .ok (.getfield i, vm_len (.getfield i) b)) (hlk : vm_lk own (.getfield i) a b v) (h : vm_do O L xs own ini nL r E pc lv st M (.getfield i) a b v) (hn : n0 ≤ vm_n M) (hsl : s0 ≤ vm_s M) {H : Heap} {locs : List Loc} {ls : Array Slot} (hl : lv_has ls nL (vm_trl g lv)) (hI : vm_In g cA D M H) (hS : va_S (fun q => b0 ≤ q) s.heap H locs) :
    W p l e R s m args below meth c H locs (vm_n M - n0) (vm_s M - s0) Q (F0 m pc ls (st.map (vm_tr g))) := by
  have hupM : vm_up M r := vm_do_up (fun i as M r' ho => ⟨(hO i as M r' ho).1, (hO i as M r' ho).2.1⟩) hup h
  have hnM : vm_n M ≤ 1099511627776 := Nat.le_trans hupM.1 hnr
  have hDd : va_D (fun q => b0 ≤ q) (vm_w g cA M) := vm_Dd hg hnM
  have hA : ∀ q, s.heap.size ≤ q → (fun q => b0 ≤ q) q := fun q hq => by show b0 ≤ q; omega
  have go : ∀ {pc lv st ls}, E pc lv st M → lv_has ls nL (vm_trl g lv) → W p l e R s m args below meth c H locs (vm_n M - n0) (vm_s M - s0) Q (F0 m pc ls (st.map (vm_tr g))) := fun hE hl => ih _ _ _ _ hE hn hsl _ _ _ hl hI hS
  have hcs : vm_n M - n0 ≤ R.cells := Nat.le_trans (Nat.sub_le_sub_right hupM.1 n0) hRc
  have hss : vm_s M - s0 ≤ R.slots := Nat.le_trans (Nat.sub_le_sub_right hupM.2 s0) hRs
  have hml2 : c.maxLocals = ls.size := hml.trans hl.1.symm
  have arr : ∀ {q t n}, q < vm_n M → vm_sh M q = .inr (t, n) → (vm_w g cA M)[q]? = some (g q, .inl (cA t, n, vm_ct g M q t)) := fun hq hs => by rw [vm_w_at hq, vm_e_arr hs]
  have obj : ∀ {q a}, q < vm_n M → vm_sh M q = .inl a → (vm_w g cA M)[q]? = some (g q, .inr (a, (List.range (vg_N a)).map (fun k => vm_tr g (vm_gv M q (vg_y a k) k)))) := fun hq hs => by rw [vm_w_at hq, vm_e_obj hs]
  have hf1 : 1 ≤ R.frames := by omega
  have hl9 : 900 ≤ R.locals := vm_ar4 hRl
  simp only [vm_do] at h
  obtain ⟨q, st', rfl, hq, hs, h⟩ := h
  obtain ⟨ha, hb2, hf⟩ := hlk
  exact va_get (own := vg_O own) (ref := (vg_T a b).1) (C := vg_C a) (T := vg_T a) (N := vg_N a) (ci := a) (Ts := vt) hx hb hts (vg_lays a ha) hown hK hI q (obj hq hs) (vg_cl_at ha) b hb2 (hts _ hf) (fun x h => h) (v := vm_tr g (vm_gv M q (vg_y a b) b)) (by rw [List.getElem?_map, List.getElem?_range hb2]; rfl) hdg (go h hl)
set_option maxHeartbeats 1000000 in
set_option maxRecDepth 20000 in
theorem vm_step_putfield {p : Program} {l : Launch} {e : Env} {R : Room} {s : State} {m : MethodId} {args : Array Value} {below : List Frame} {meth : Method} {c : Code} {Q : State → Prop} {cc : ByteArray} {O : Nat → List Value → vm_M → vm_R → Prop} {L : Nat} {xs : Nat → Int32} {own : Nat} {ini : Bool} {nL n0 s0 b0 d : Nat} {g : Nat → Nat} {cA : Nat → ClassId} {D : va_G} {X : State → Prop} {r : vm_R}
    (hx : p.tables.exec = Jvm.exec) (hb : c.code = cc) (hml : c.maxLocals = nL) (hown : s.vm.findClass (vg_O own) = some m.cls) (hts : ∀ w ∈ vt, w.before args s = true) (hK : va_K D vg_cl (vm_tys cA) s) (hN : vm_Nx s) (hX : X s) (hXs : vm_Str b0 g X)
    (hin : ini = true → meth.name = "<init>") (hscr : own = 12 → va_X (g vm_scr) L xs s s.heap ∧ g vm_scr < s.heap.size ∧ ¬ b0 ≤ g vm_scr) (hg : ∀ q, q < 1099511627776 → g q = b0 + q) (hh0 : s.heap.size = b0 + n0) (hnr : vm_n r.2 ≤ 1099511627776)
    (hRc : vm_n r.2 - n0 ≤ R.cells) (hRs : vm_s r.2 - s0 ≤ R.slots) (hRf : d + 9 ≤ R.frames) (hRl : 100 * (d + 9) ≤ R.locals)
    (hO : ∀ i as M r', O i as M r' → vm_n M ≤ vm_n r'.2 ∧ vm_s M ≤ vm_s r'.2 ∧ (i < 203 → vm_n r'.2 ≤ 1099511627776 → vm_Ok l g cA D b0 X d i as M r')) {E : Nat → vm_L → List Value → vm_M → Prop}
    (ih : ∀ pc lv st M, E pc lv st M → n0 ≤ vm_n M → s0 ≤ vm_s M → ∀ (H : Heap) (locs : List Loc) (ls : Array Slot), lv_has ls nL (vm_trl g lv) → vm_In g cA D M H → va_S (fun q => b0 ≤ q) s.heap H locs → W p l e R s m args below meth c H locs (vm_n M - n0) (vm_s M - s0) Q (F0 m pc ls (st.map (vm_tr g))))
    (hup : ∀ pc lv st M, E pc lv st M → vm_up M r)
    (hret : ∀ pc ins (H : Heap) (locs : List Loc) (ls : Array Slot), decode cc pc = .ok (ins, 1) → vm_isr ins r.1 → vm_In g cA D r.2 H → va_S (fun q => b0 ≤ q) s.heap H locs → W p l e R s m args below meth c H locs (vm_n r.2 - n0) (vm_s r.2 - s0) Q (F0 m pc ls (r.1.toList.map (vm_tr g))))
    {pc : Nat} {lv : vm_L} {st : List Value} {M : vm_M} {i : Nat} {a b : Nat} {v : Int} (hdg : decode cc pc = .ok (.putfield i, vm_len (.putfield i) b)) (hlk : vm_lk own (.putfield i) a b v) (h : vm_do O L xs own ini nL r E pc lv st M (.putfield i) a b v) (hn : n0 ≤ vm_n M) (hsl : s0 ≤ vm_s M) {H : Heap} {locs : List Loc} {ls : Array Slot} (hl : lv_has ls nL (vm_trl g lv)) (hI : vm_In g cA D M H) (hS : va_S (fun q => b0 ≤ q) s.heap H locs) :
    W p l e R s m args below meth c H locs (vm_n M - n0) (vm_s M - s0) Q (F0 m pc ls (st.map (vm_tr g))) := by
  have hupM : vm_up M r := vm_do_up (fun i as M r' ho => ⟨(hO i as M r' ho).1, (hO i as M r' ho).2.1⟩) hup h
  have hnM : vm_n M ≤ 1099511627776 := Nat.le_trans hupM.1 hnr
  have hDd : va_D (fun q => b0 ≤ q) (vm_w g cA M) := vm_Dd hg hnM
  have hA : ∀ q, s.heap.size ≤ q → (fun q => b0 ≤ q) q := fun q hq => by show b0 ≤ q; omega
  have go : ∀ {pc lv st ls}, E pc lv st M → lv_has ls nL (vm_trl g lv) → W p l e R s m args below meth c H locs (vm_n M - n0) (vm_s M - s0) Q (F0 m pc ls (st.map (vm_tr g))) := fun hE hl => ih _ _ _ _ hE hn hsl _ _ _ hl hI hS
  have hcs : vm_n M - n0 ≤ R.cells := Nat.le_trans (Nat.sub_le_sub_right hupM.1 n0) hRc
  have hss : vm_s M - s0 ≤ R.slots := Nat.le_trans (Nat.sub_le_sub_right hupM.2 s0) hRs
  have hml2 : c.maxLocals = ls.size := hml.trans hl.1.symm
  have arr : ∀ {q t n}, q < vm_n M → vm_sh M q = .inr (t, n) → (vm_w g cA M)[q]? = some (g q, .inl (cA t, n, vm_ct g M q t)) := fun hq hs => by rw [vm_w_at hq, vm_e_arr hs]
  have obj : ∀ {q a}, q < vm_n M → vm_sh M q = .inl a → (vm_w g cA M)[q]? = some (g q, .inr (a, (List.range (vg_N a)).map (fun k => vm_tr g (vm_gv M q (vg_y a k) k)))) := fun hq hs => by rw [vm_w_at hq, vm_e_obj hs]
  have hf1 : 1 ≤ R.frames := by omega
  have hl9 : 900 ≤ R.locals := vm_ar4 hRl
  simp only [vm_do] at h
  obtain ⟨x, q, st', M', rfl, hq, hs, hfi, hp, h⟩ := h
  obtain ⟨ha, hb2, hf⟩ := hlk
  obtain ⟨hw, hn', hs', hna, hft⟩ := vm_pv_w (g := g) (cA := cA) hs hp
  have hlen : b < ((List.range (vg_N a)).map (fun k => vm_tr g (vm_gv M q (vg_y a k) k))).length := by simpa using hb2
  have kk : ∀ (H1 : Heap) (locs1 : List Loc), va_P D vg_cl ((vm_w g cA M).set q (g q, .inr (a, ((List.range (vg_N a)).map (fun k => vm_tr g (vm_gv M q (vg_y a k) k))).set b (vm_tr g x)))) H1 → va_D (fun q => b0 ≤ q) ((vm_w g cA M).set q (g q, .inr (a, ((List.range (vg_N a)).map (fun k => vm_tr g (vm_gv M q (vg_y a k) k))).set b (vm_tr g x)))) → va_S (fun q => b0 ≤ q) s.heap H1 locs1 → W p l e R s m args below meth c H1 locs1 (vm_n M - n0) (vm_s M - s0) Q (F0 m (pc + 3) ls (st'.map (vm_tr g))) := by
    intro H1 locs1 hP1 _ hS1
    rw [hw] at hP1
    rw [← hn', ← hs']
    exact ih _ _ _ _ h (by rw [hn']; exact hn) (by rw [hs']; exact hsl) _ _ _ hl hP1 hS1
  cases hfin : (vg_T a b).2.2.2 with
  | false => exact va_put (own := vg_O own) (ref := (vg_T a b).1) (C := vg_C a) (T := vg_T a) (N := vg_N a) (ci := a) (Ts := vt) hx hb hts (vg_lays a ha) (vg_y a) (vg_y_ok a ha) (vg_nm_ok a ha) hown hK hI hDd hS q (obj hq hs) (vg_cl_at ha) b hb2 (hts _ hf) (fun x h => h) hfin (vg_y_ok a ha b hb2) hna hft hlen hdg kk
  | true =>
    obtain ⟨hi, ho⟩ := hfi hfin
    subst ho
    exact va_putF (own := vg_O own) (ref := (vg_T own b).1) (C := vg_C own) (T := vg_T own) (N := vg_N own) (ci := own) (Ts := vt) hx hb hts (vg_lays own ha) (vg_y own) (vg_y_ok own ha) (vg_nm_ok own ha) hown hK hI hDd hS q (obj hq hs) (vg_cl_at ha) b hb2 (hts _ hf) (fun x h => h) hfin (hin hi) ((vg_dec_ok own ha b hb2).trans (vg_O_C own ha).symm) (vg_y_ok own ha b hb2) hna hft hlen hdg kk
set_option maxHeartbeats 1000000 in
set_option maxRecDepth 20000 in
theorem vm_step_iastore {p : Program} {l : Launch} {e : Env} {R : Room} {s : State} {m : MethodId} {args : Array Value} {below : List Frame} {meth : Method} {c : Code} {Q : State → Prop} {cc : ByteArray} {O : Nat → List Value → vm_M → vm_R → Prop} {L : Nat} {xs : Nat → Int32} {own : Nat} {ini : Bool} {nL n0 s0 b0 d : Nat} {g : Nat → Nat} {cA : Nat → ClassId} {D : va_G} {X : State → Prop} {r : vm_R}
    (hx : p.tables.exec = Jvm.exec) (hb : c.code = cc) (hml : c.maxLocals = nL) (hown : s.vm.findClass (vg_O own) = some m.cls) (hts : ∀ w ∈ vt, w.before args s = true) (hK : va_K D vg_cl (vm_tys cA) s) (hN : vm_Nx s) (hX : X s) (hXs : vm_Str b0 g X)
    (hin : ini = true → meth.name = "<init>") (hscr : own = 12 → va_X (g vm_scr) L xs s s.heap ∧ g vm_scr < s.heap.size ∧ ¬ b0 ≤ g vm_scr) (hg : ∀ q, q < 1099511627776 → g q = b0 + q) (hh0 : s.heap.size = b0 + n0) (hnr : vm_n r.2 ≤ 1099511627776)
    (hRc : vm_n r.2 - n0 ≤ R.cells) (hRs : vm_s r.2 - s0 ≤ R.slots) (hRf : d + 9 ≤ R.frames) (hRl : 100 * (d + 9) ≤ R.locals)
    (hO : ∀ i as M r', O i as M r' → vm_n M ≤ vm_n r'.2 ∧ vm_s M ≤ vm_s r'.2 ∧ (i < 203 → vm_n r'.2 ≤ 1099511627776 → vm_Ok l g cA D b0 X d i as M r')) {E : Nat → vm_L → List Value → vm_M → Prop}
    (ih : ∀ pc lv st M, E pc lv st M → n0 ≤ vm_n M → s0 ≤ vm_s M → ∀ (H : Heap) (locs : List Loc) (ls : Array Slot), lv_has ls nL (vm_trl g lv) → vm_In g cA D M H → va_S (fun q => b0 ≤ q) s.heap H locs → W p l e R s m args below meth c H locs (vm_n M - n0) (vm_s M - s0) Q (F0 m pc ls (st.map (vm_tr g))))
    (hup : ∀ pc lv st M, E pc lv st M → vm_up M r)
    (hret : ∀ pc ins (H : Heap) (locs : List Loc) (ls : Array Slot), decode cc pc = .ok (ins, 1) → vm_isr ins r.1 → vm_In g cA D r.2 H → va_S (fun q => b0 ≤ q) s.heap H locs → W p l e R s m args below meth c H locs (vm_n r.2 - n0) (vm_s r.2 - s0) Q (F0 m pc ls (r.1.toList.map (vm_tr g))))
    {pc : Nat} {lv : vm_L} {st : List Value} {M : vm_M}  {a b : Nat} {v : Int} (hdg : decode cc pc = .ok (.iastore, vm_len (.iastore) b)) (hlk : vm_lk own (.iastore) a b v) (h : vm_do O L xs own ini nL r E pc lv st M (.iastore) a b v) (hn : n0 ≤ vm_n M) (hsl : s0 ≤ vm_s M) {H : Heap} {locs : List Loc} {ls : Array Slot} (hl : lv_has ls nL (vm_trl g lv)) (hI : vm_In g cA D M H) (hS : va_S (fun q => b0 ≤ q) s.heap H locs) :
    W p l e R s m args below meth c H locs (vm_n M - n0) (vm_s M - s0) Q (F0 m pc ls (st.map (vm_tr g))) := by
  have hupM : vm_up M r := vm_do_up (fun i as M r' ho => ⟨(hO i as M r' ho).1, (hO i as M r' ho).2.1⟩) hup h
  have hnM : vm_n M ≤ 1099511627776 := Nat.le_trans hupM.1 hnr
  have hDd : va_D (fun q => b0 ≤ q) (vm_w g cA M) := vm_Dd hg hnM
  have hA : ∀ q, s.heap.size ≤ q → (fun q => b0 ≤ q) q := fun q hq => by show b0 ≤ q; omega
  have go : ∀ {pc lv st ls}, E pc lv st M → lv_has ls nL (vm_trl g lv) → W p l e R s m args below meth c H locs (vm_n M - n0) (vm_s M - s0) Q (F0 m pc ls (st.map (vm_tr g))) := fun hE hl => ih _ _ _ _ hE hn hsl _ _ _ hl hI hS
  have hcs : vm_n M - n0 ≤ R.cells := Nat.le_trans (Nat.sub_le_sub_right hupM.1 n0) hRc
  have hss : vm_s M - s0 ≤ R.slots := Nat.le_trans (Nat.sub_le_sub_right hupM.2 s0) hRs
  have hml2 : c.maxLocals = ls.size := hml.trans hl.1.symm
  have arr : ∀ {q t n}, q < vm_n M → vm_sh M q = .inr (t, n) → (vm_w g cA M)[q]? = some (g q, .inl (cA t, n, vm_ct g M q t)) := fun hq hs => by rw [vm_w_at hq, vm_e_arr hs]
  have obj : ∀ {q a}, q < vm_n M → vm_sh M q = .inl a → (vm_w g cA M)[q]? = some (g q, .inr (a, (List.range (vg_N a)).map (fun k => vm_tr g (vm_gv M q (vg_y a k) k)))) := fun hq hs => by rw [vm_w_at hq, vm_e_obj hs]
  have hf1 : 1 ≤ R.frames := by omega
  have hl9 : 900 ≤ R.locals := vm_ar4 hRl
  simp only [vm_do] at h
  obtain ⟨x, i, q, st', n, rfl, hq, hs, hin2, h⟩ := h
  refine va_iast hx hb hK hI hDd hS q 0 (arr hq hs) (vm_tys_at (by omega)) hin2 hdg (fun H1 locs1 hP1 _ hS1 => ?_)
  refine ih _ _ _ _ h hn hsl _ _ _ hl ?_ hS1
  have hf : vm_i (vm_pi M q i.toNatClampNeg x) q = upd (vm_i M q) i.toNatClampNeg x := by
    funext k
    show (if q = q ∧ k = i.toNatClampNeg then x else _) = _
    by_cases hk : k = i.toNatClampNeg <;> simp [upd, hk, vm_i]
  have hw := vm_w_set (g := g) (cA := cA) (M := M) (M' := vm_pi M q i.toNatClampNeg x) (q := q) rfl (vm_e_arr (M := vm_pi M q i.toNatClampNeg x) hs) (fun a ha => vm_e_row rfl (vm_pi_ne ha) rfl rfl)
  unfold vm_In
  rw [← hw]
  try dsimp only
  rw [vm_ct0 hf]
  exact hP1
set_option maxHeartbeats 1000000 in
set_option maxRecDepth 20000 in
theorem vm_step_bastore {p : Program} {l : Launch} {e : Env} {R : Room} {s : State} {m : MethodId} {args : Array Value} {below : List Frame} {meth : Method} {c : Code} {Q : State → Prop} {cc : ByteArray} {O : Nat → List Value → vm_M → vm_R → Prop} {L : Nat} {xs : Nat → Int32} {own : Nat} {ini : Bool} {nL n0 s0 b0 d : Nat} {g : Nat → Nat} {cA : Nat → ClassId} {D : va_G} {X : State → Prop} {r : vm_R}
    (hx : p.tables.exec = Jvm.exec) (hb : c.code = cc) (hml : c.maxLocals = nL) (hown : s.vm.findClass (vg_O own) = some m.cls) (hts : ∀ w ∈ vt, w.before args s = true) (hK : va_K D vg_cl (vm_tys cA) s) (hN : vm_Nx s) (hX : X s) (hXs : vm_Str b0 g X)
    (hin : ini = true → meth.name = "<init>") (hscr : own = 12 → va_X (g vm_scr) L xs s s.heap ∧ g vm_scr < s.heap.size ∧ ¬ b0 ≤ g vm_scr) (hg : ∀ q, q < 1099511627776 → g q = b0 + q) (hh0 : s.heap.size = b0 + n0) (hnr : vm_n r.2 ≤ 1099511627776)
    (hRc : vm_n r.2 - n0 ≤ R.cells) (hRs : vm_s r.2 - s0 ≤ R.slots) (hRf : d + 9 ≤ R.frames) (hRl : 100 * (d + 9) ≤ R.locals)
    (hO : ∀ i as M r', O i as M r' → vm_n M ≤ vm_n r'.2 ∧ vm_s M ≤ vm_s r'.2 ∧ (i < 203 → vm_n r'.2 ≤ 1099511627776 → vm_Ok l g cA D b0 X d i as M r')) {E : Nat → vm_L → List Value → vm_M → Prop}
    (ih : ∀ pc lv st M, E pc lv st M → n0 ≤ vm_n M → s0 ≤ vm_s M → ∀ (H : Heap) (locs : List Loc) (ls : Array Slot), lv_has ls nL (vm_trl g lv) → vm_In g cA D M H → va_S (fun q => b0 ≤ q) s.heap H locs → W p l e R s m args below meth c H locs (vm_n M - n0) (vm_s M - s0) Q (F0 m pc ls (st.map (vm_tr g))))
    (hup : ∀ pc lv st M, E pc lv st M → vm_up M r)
    (hret : ∀ pc ins (H : Heap) (locs : List Loc) (ls : Array Slot), decode cc pc = .ok (ins, 1) → vm_isr ins r.1 → vm_In g cA D r.2 H → va_S (fun q => b0 ≤ q) s.heap H locs → W p l e R s m args below meth c H locs (vm_n r.2 - n0) (vm_s r.2 - s0) Q (F0 m pc ls (r.1.toList.map (vm_tr g))))
    {pc : Nat} {lv : vm_L} {st : List Value} {M : vm_M}  {a b : Nat} {v : Int} (hdg : decode cc pc = .ok (.bastore, vm_len (.bastore) b)) (hlk : vm_lk own (.bastore) a b v) (h : vm_do O L xs own ini nL r E pc lv st M (.bastore) a b v) (hn : n0 ≤ vm_n M) (hsl : s0 ≤ vm_s M) {H : Heap} {locs : List Loc} {ls : Array Slot} (hl : lv_has ls nL (vm_trl g lv)) (hI : vm_In g cA D M H) (hS : va_S (fun q => b0 ≤ q) s.heap H locs) :
    W p l e R s m args below meth c H locs (vm_n M - n0) (vm_s M - s0) Q (F0 m pc ls (st.map (vm_tr g))) := by
  have hupM : vm_up M r := vm_do_up (fun i as M r' ho => ⟨(hO i as M r' ho).1, (hO i as M r' ho).2.1⟩) hup h
  have hnM : vm_n M ≤ 1099511627776 := Nat.le_trans hupM.1 hnr
  have hDd : va_D (fun q => b0 ≤ q) (vm_w g cA M) := vm_Dd hg hnM
  have hA : ∀ q, s.heap.size ≤ q → (fun q => b0 ≤ q) q := fun q hq => by show b0 ≤ q; omega
  have go : ∀ {pc lv st ls}, E pc lv st M → lv_has ls nL (vm_trl g lv) → W p l e R s m args below meth c H locs (vm_n M - n0) (vm_s M - s0) Q (F0 m pc ls (st.map (vm_tr g))) := fun hE hl => ih _ _ _ _ hE hn hsl _ _ _ hl hI hS
  have hcs : vm_n M - n0 ≤ R.cells := Nat.le_trans (Nat.sub_le_sub_right hupM.1 n0) hRc
  have hss : vm_s M - s0 ≤ R.slots := Nat.le_trans (Nat.sub_le_sub_right hupM.2 s0) hRs
  have hml2 : c.maxLocals = ls.size := hml.trans hl.1.symm
  have arr : ∀ {q t n}, q < vm_n M → vm_sh M q = .inr (t, n) → (vm_w g cA M)[q]? = some (g q, .inl (cA t, n, vm_ct g M q t)) := fun hq hs => by rw [vm_w_at hq, vm_e_arr hs]
  have obj : ∀ {q a}, q < vm_n M → vm_sh M q = .inl a → (vm_w g cA M)[q]? = some (g q, .inr (a, (List.range (vg_N a)).map (fun k => vm_tr g (vm_gv M q (vg_y a k) k)))) := fun hq hs => by rw [vm_w_at hq, vm_e_obj hs]
  have hf1 : 1 ≤ R.frames := by omega
  have hl9 : 900 ≤ R.locals := vm_ar4 hRl
  simp only [vm_do] at h
  obtain ⟨x, i, q, st', n, t, rfl, hq, hs, ht, hin2, h⟩ := h
  have hf : ∀ z : Int32, vm_i (vm_pi M q i.toNatClampNeg z) q = upd (vm_i M q) i.toNatClampNeg z := fun z => by
    funext k
    show (if q = q ∧ k = i.toNatClampNeg then z else _) = _
    by_cases hk : k = i.toNatClampNeg <;> simp [upd, hk, vm_i]
  rcases ht with rfl | rfl
  · refine va_zast hx hb hK hI hDd hS q 2 (arr hq hs) (vm_tys_at (by omega)) hin2 hdg (fun H1 locs1 hP1 _ hS1 => ?_)
    refine ih _ _ _ _ h hn hsl _ _ _ hl ?_ hS1
    have hw := vm_w_set (g := g) (cA := cA) (M := M) (M' := vm_pi M q i.toNatClampNeg (vp_nar .boolean x)) (q := q) rfl (vm_e_arr (M := vm_pi M q i.toNatClampNeg (vp_nar .boolean x)) hs) (fun a ha => vm_e_row rfl (vm_pi_ne ha) rfl rfl)
    unfold vm_In
    show va_P D vg_cl (vm_w g cA (vm_pi M q i.toNatClampNeg (vp_nar .boolean x))) H1
    rw [← hw]
    try dsimp only
    rw [vm_ct2 (hf _)]
    exact hP1
  · refine va_bast hx hb hK hI hDd hS q 3 (arr hq hs) (vm_tys_at (by omega)) hin2 hdg (fun H1 locs1 hP1 _ hS1 => ?_)
    refine ih _ _ _ _ h hn hsl _ _ _ hl ?_ hS1
    have hw := vm_w_set (g := g) (cA := cA) (M := M) (M' := vm_pi M q i.toNatClampNeg (vp_nar .byte x)) (q := q) rfl (vm_e_arr (M := vm_pi M q i.toNatClampNeg (vp_nar .byte x)) hs) (fun a ha => vm_e_row rfl (vm_pi_ne ha) rfl rfl)
    unfold vm_In
    show va_P D vg_cl (vm_w g cA (vm_pi M q i.toNatClampNeg (vp_nar .byte x))) H1
    rw [← hw]
    try dsimp only
    rw [vm_ct3 (hf _)]
    exact hP1
set_option maxHeartbeats 1000000 in
set_option maxRecDepth 20000 in
theorem vm_step_lastore {p : Program} {l : Launch} {e : Env} {R : Room} {s : State} {m : MethodId} {args : Array Value} {below : List Frame} {meth : Method} {c : Code} {Q : State → Prop} {cc : ByteArray} {O : Nat → List Value → vm_M → vm_R → Prop} {L : Nat} {xs : Nat → Int32} {own : Nat} {ini : Bool} {nL n0 s0 b0 d : Nat} {g : Nat → Nat} {cA : Nat → ClassId} {D : va_G} {X : State → Prop} {r : vm_R}
    (hx : p.tables.exec = Jvm.exec) (hb : c.code = cc) (hml : c.maxLocals = nL) (hown : s.vm.findClass (vg_O own) = some m.cls) (hts : ∀ w ∈ vt, w.before args s = true) (hK : va_K D vg_cl (vm_tys cA) s) (hN : vm_Nx s) (hX : X s) (hXs : vm_Str b0 g X)
    (hin : ini = true → meth.name = "<init>") (hscr : own = 12 → va_X (g vm_scr) L xs s s.heap ∧ g vm_scr < s.heap.size ∧ ¬ b0 ≤ g vm_scr) (hg : ∀ q, q < 1099511627776 → g q = b0 + q) (hh0 : s.heap.size = b0 + n0) (hnr : vm_n r.2 ≤ 1099511627776)
    (hRc : vm_n r.2 - n0 ≤ R.cells) (hRs : vm_s r.2 - s0 ≤ R.slots) (hRf : d + 9 ≤ R.frames) (hRl : 100 * (d + 9) ≤ R.locals)
    (hO : ∀ i as M r', O i as M r' → vm_n M ≤ vm_n r'.2 ∧ vm_s M ≤ vm_s r'.2 ∧ (i < 203 → vm_n r'.2 ≤ 1099511627776 → vm_Ok l g cA D b0 X d i as M r')) {E : Nat → vm_L → List Value → vm_M → Prop}
    (ih : ∀ pc lv st M, E pc lv st M → n0 ≤ vm_n M → s0 ≤ vm_s M → ∀ (H : Heap) (locs : List Loc) (ls : Array Slot), lv_has ls nL (vm_trl g lv) → vm_In g cA D M H → va_S (fun q => b0 ≤ q) s.heap H locs → W p l e R s m args below meth c H locs (vm_n M - n0) (vm_s M - s0) Q (F0 m pc ls (st.map (vm_tr g))))
    (hup : ∀ pc lv st M, E pc lv st M → vm_up M r)
    (hret : ∀ pc ins (H : Heap) (locs : List Loc) (ls : Array Slot), decode cc pc = .ok (ins, 1) → vm_isr ins r.1 → vm_In g cA D r.2 H → va_S (fun q => b0 ≤ q) s.heap H locs → W p l e R s m args below meth c H locs (vm_n r.2 - n0) (vm_s r.2 - s0) Q (F0 m pc ls (r.1.toList.map (vm_tr g))))
    {pc : Nat} {lv : vm_L} {st : List Value} {M : vm_M}  {a b : Nat} {v : Int} (hdg : decode cc pc = .ok (.lastore, vm_len (.lastore) b)) (hlk : vm_lk own (.lastore) a b v) (h : vm_do O L xs own ini nL r E pc lv st M (.lastore) a b v) (hn : n0 ≤ vm_n M) (hsl : s0 ≤ vm_s M) {H : Heap} {locs : List Loc} {ls : Array Slot} (hl : lv_has ls nL (vm_trl g lv)) (hI : vm_In g cA D M H) (hS : va_S (fun q => b0 ≤ q) s.heap H locs) :
    W p l e R s m args below meth c H locs (vm_n M - n0) (vm_s M - s0) Q (F0 m pc ls (st.map (vm_tr g))) := by
  have hupM : vm_up M r := vm_do_up (fun i as M r' ho => ⟨(hO i as M r' ho).1, (hO i as M r' ho).2.1⟩) hup h
  have hnM : vm_n M ≤ 1099511627776 := Nat.le_trans hupM.1 hnr
  have hDd : va_D (fun q => b0 ≤ q) (vm_w g cA M) := vm_Dd hg hnM
  have hA : ∀ q, s.heap.size ≤ q → (fun q => b0 ≤ q) q := fun q hq => by show b0 ≤ q; omega
  have go : ∀ {pc lv st ls}, E pc lv st M → lv_has ls nL (vm_trl g lv) → W p l e R s m args below meth c H locs (vm_n M - n0) (vm_s M - s0) Q (F0 m pc ls (st.map (vm_tr g))) := fun hE hl => ih _ _ _ _ hE hn hsl _ _ _ hl hI hS
  have hcs : vm_n M - n0 ≤ R.cells := Nat.le_trans (Nat.sub_le_sub_right hupM.1 n0) hRc
  have hss : vm_s M - s0 ≤ R.slots := Nat.le_trans (Nat.sub_le_sub_right hupM.2 s0) hRs
  have hml2 : c.maxLocals = ls.size := hml.trans hl.1.symm
  have arr : ∀ {q t n}, q < vm_n M → vm_sh M q = .inr (t, n) → (vm_w g cA M)[q]? = some (g q, .inl (cA t, n, vm_ct g M q t)) := fun hq hs => by rw [vm_w_at hq, vm_e_arr hs]
  have obj : ∀ {q a}, q < vm_n M → vm_sh M q = .inl a → (vm_w g cA M)[q]? = some (g q, .inr (a, (List.range (vg_N a)).map (fun k => vm_tr g (vm_gv M q (vg_y a k) k)))) := fun hq hs => by rw [vm_w_at hq, vm_e_obj hs]
  have hf1 : 1 ≤ R.frames := by omega
  have hl9 : 900 ≤ R.locals := vm_ar4 hRl
  simp only [vm_do] at h
  obtain ⟨x, i, q, st', n, rfl, hq, hs, hin2, h⟩ := h
  refine va_last hx hb hK hI hDd hS q 1 (arr hq hs) (vm_tys_at (by omega)) hin2 hdg (fun H1 locs1 hP1 _ hS1 => ?_)
  refine ih _ _ _ _ h hn hsl _ _ _ hl ?_ hS1
  have hf : vm_l (vm_pl M q i.toNatClampNeg x) q = vp_updL (vm_l M q) i.toNatClampNeg x := by
    funext k
    show (if q = q ∧ k = i.toNatClampNeg then x else _) = _
    by_cases hk : k = i.toNatClampNeg <;> simp [vp_updL, hk, vm_l]
  have hw := vm_w_set (g := g) (cA := cA) (M := M) (M' := vm_pl M q i.toNatClampNeg x) (q := q) rfl (vm_e_arr (M := vm_pl M q i.toNatClampNeg x) hs) (fun a ha => vm_e_row rfl rfl (vm_pl_ne ha) rfl)
  unfold vm_In
  rw [← hw]
  try dsimp only
  rw [vm_ct1 hf]
  exact hP1
set_option maxHeartbeats 1000000 in
set_option maxRecDepth 20000 in
theorem vm_step_aastore {p : Program} {l : Launch} {e : Env} {R : Room} {s : State} {m : MethodId} {args : Array Value} {below : List Frame} {meth : Method} {c : Code} {Q : State → Prop} {cc : ByteArray} {O : Nat → List Value → vm_M → vm_R → Prop} {L : Nat} {xs : Nat → Int32} {own : Nat} {ini : Bool} {nL n0 s0 b0 d : Nat} {g : Nat → Nat} {cA : Nat → ClassId} {D : va_G} {X : State → Prop} {r : vm_R}
    (hx : p.tables.exec = Jvm.exec) (hb : c.code = cc) (hml : c.maxLocals = nL) (hown : s.vm.findClass (vg_O own) = some m.cls) (hts : ∀ w ∈ vt, w.before args s = true) (hK : va_K D vg_cl (vm_tys cA) s) (hN : vm_Nx s) (hX : X s) (hXs : vm_Str b0 g X)
    (hin : ini = true → meth.name = "<init>") (hscr : own = 12 → va_X (g vm_scr) L xs s s.heap ∧ g vm_scr < s.heap.size ∧ ¬ b0 ≤ g vm_scr) (hg : ∀ q, q < 1099511627776 → g q = b0 + q) (hh0 : s.heap.size = b0 + n0) (hnr : vm_n r.2 ≤ 1099511627776)
    (hRc : vm_n r.2 - n0 ≤ R.cells) (hRs : vm_s r.2 - s0 ≤ R.slots) (hRf : d + 9 ≤ R.frames) (hRl : 100 * (d + 9) ≤ R.locals)
    (hO : ∀ i as M r', O i as M r' → vm_n M ≤ vm_n r'.2 ∧ vm_s M ≤ vm_s r'.2 ∧ (i < 203 → vm_n r'.2 ≤ 1099511627776 → vm_Ok l g cA D b0 X d i as M r')) {E : Nat → vm_L → List Value → vm_M → Prop}
    (ih : ∀ pc lv st M, E pc lv st M → n0 ≤ vm_n M → s0 ≤ vm_s M → ∀ (H : Heap) (locs : List Loc) (ls : Array Slot), lv_has ls nL (vm_trl g lv) → vm_In g cA D M H → va_S (fun q => b0 ≤ q) s.heap H locs → W p l e R s m args below meth c H locs (vm_n M - n0) (vm_s M - s0) Q (F0 m pc ls (st.map (vm_tr g))))
    (hup : ∀ pc lv st M, E pc lv st M → vm_up M r)
    (hret : ∀ pc ins (H : Heap) (locs : List Loc) (ls : Array Slot), decode cc pc = .ok (ins, 1) → vm_isr ins r.1 → vm_In g cA D r.2 H → va_S (fun q => b0 ≤ q) s.heap H locs → W p l e R s m args below meth c H locs (vm_n r.2 - n0) (vm_s r.2 - s0) Q (F0 m pc ls (r.1.toList.map (vm_tr g))))
    {pc : Nat} {lv : vm_L} {st : List Value} {M : vm_M}  {a b : Nat} {v : Int} (hdg : decode cc pc = .ok (.aastore, vm_len (.aastore) b)) (hlk : vm_lk own (.aastore) a b v) (h : vm_do O L xs own ini nL r E pc lv st M (.aastore) a b v) (hn : n0 ≤ vm_n M) (hsl : s0 ≤ vm_s M) {H : Heap} {locs : List Loc} {ls : Array Slot} (hl : lv_has ls nL (vm_trl g lv)) (hI : vm_In g cA D M H) (hS : va_S (fun q => b0 ≤ q) s.heap H locs) :
    W p l e R s m args below meth c H locs (vm_n M - n0) (vm_s M - s0) Q (F0 m pc ls (st.map (vm_tr g))) := by
  have hupM : vm_up M r := vm_do_up (fun i as M r' ho => ⟨(hO i as M r' ho).1, (hO i as M r' ho).2.1⟩) hup h
  have hnM : vm_n M ≤ 1099511627776 := Nat.le_trans hupM.1 hnr
  have hDd : va_D (fun q => b0 ≤ q) (vm_w g cA M) := vm_Dd hg hnM
  have hA : ∀ q, s.heap.size ≤ q → (fun q => b0 ≤ q) q := fun q hq => by show b0 ≤ q; omega
  have go : ∀ {pc lv st ls}, E pc lv st M → lv_has ls nL (vm_trl g lv) → W p l e R s m args below meth c H locs (vm_n M - n0) (vm_s M - s0) Q (F0 m pc ls (st.map (vm_tr g))) := fun hE hl => ih _ _ _ _ hE hn hsl _ _ _ hl hI hS
  have hcs : vm_n M - n0 ≤ R.cells := Nat.le_trans (Nat.sub_le_sub_right hupM.1 n0) hRc
  have hss : vm_s M - s0 ≤ R.slots := Nat.le_trans (Nat.sub_le_sub_right hupM.2 s0) hRs
  have hml2 : c.maxLocals = ls.size := hml.trans hl.1.symm
  have arr : ∀ {q t n}, q < vm_n M → vm_sh M q = .inr (t, n) → (vm_w g cA M)[q]? = some (g q, .inl (cA t, n, vm_ct g M q t)) := fun hq hs => by rw [vm_w_at hq, vm_e_arr hs]
  have obj : ∀ {q a}, q < vm_n M → vm_sh M q = .inl a → (vm_w g cA M)[q]? = some (g q, .inr (a, (List.range (vg_N a)).map (fun k => vm_tr g (vm_gv M q (vg_y a k) k)))) := fun hq hs => by rw [vm_w_at hq, vm_e_obj hs]
  have hf1 : 1 ≤ R.frames := by omega
  have hl9 : 900 ≤ R.locals := vm_ar4 hRl
  simp only [vm_do] at h
  obtain ⟨x, i, q, st', n, rfl, hq, hs, hx2, hs2, hin2, h⟩ := h
  refine va_astq (r := (vg_C 1, vg_T 1, vg_N 1)) hx hb hK hI hDd hS q 4 x 1 (arr hq hs) (vm_tys_at (by omega)) (obj hx2 hs2) (vg_cl_at (by omega)) hin2 hdg (fun H1 locs1 hP1 _ hS1 => ?_)
  refine ih _ _ _ _ h hn hsl _ _ _ hl ?_ hS1
  have hf : (fun k => (vm_rr (vm_pr M q i.toNatClampNeg (some x)) q k).map g) = va_up (fun k => (vm_rr M q k).map g) i.toNatClampNeg (some (g x)) := by
    funext k
    show (if q = q ∧ k = i.toNatClampNeg then some x else _).map g = _
    by_cases hk : k = i.toNatClampNeg
    · subst hk
      rw [if_pos ⟨rfl, rfl⟩, va_up_self]
      rfl
    · rw [if_neg (fun z => hk z.2), va_up_ne _ _ hk]
      rfl
  have hw := vm_w_set (g := g) (cA := cA) (M := M) (M' := vm_pr M q i.toNatClampNeg (some x)) (q := q) rfl (vm_e_arr (M := vm_pr M q i.toNatClampNeg (some x)) hs) (fun a ha => vm_e_row rfl rfl rfl (vm_pr_ne ha))
  unfold vm_In
  rw [← hw]
  try dsimp only
  rw [vm_ct4 hf]
  exact hP1
set_option maxHeartbeats 1000000 in
set_option maxRecDepth 20000 in
theorem vm_step_newarray {p : Program} {l : Launch} {e : Env} {R : Room} {s : State} {m : MethodId} {args : Array Value} {below : List Frame} {meth : Method} {c : Code} {Q : State → Prop} {cc : ByteArray} {O : Nat → List Value → vm_M → vm_R → Prop} {L : Nat} {xs : Nat → Int32} {own : Nat} {ini : Bool} {nL n0 s0 b0 d : Nat} {g : Nat → Nat} {cA : Nat → ClassId} {D : va_G} {X : State → Prop} {r : vm_R}
    (hx : p.tables.exec = Jvm.exec) (hb : c.code = cc) (hml : c.maxLocals = nL) (hown : s.vm.findClass (vg_O own) = some m.cls) (hts : ∀ w ∈ vt, w.before args s = true) (hK : va_K D vg_cl (vm_tys cA) s) (hN : vm_Nx s) (hX : X s) (hXs : vm_Str b0 g X)
    (hin : ini = true → meth.name = "<init>") (hscr : own = 12 → va_X (g vm_scr) L xs s s.heap ∧ g vm_scr < s.heap.size ∧ ¬ b0 ≤ g vm_scr) (hg : ∀ q, q < 1099511627776 → g q = b0 + q) (hh0 : s.heap.size = b0 + n0) (hnr : vm_n r.2 ≤ 1099511627776)
    (hRc : vm_n r.2 - n0 ≤ R.cells) (hRs : vm_s r.2 - s0 ≤ R.slots) (hRf : d + 9 ≤ R.frames) (hRl : 100 * (d + 9) ≤ R.locals)
    (hO : ∀ i as M r', O i as M r' → vm_n M ≤ vm_n r'.2 ∧ vm_s M ≤ vm_s r'.2 ∧ (i < 203 → vm_n r'.2 ≤ 1099511627776 → vm_Ok l g cA D b0 X d i as M r')) {E : Nat → vm_L → List Value → vm_M → Prop}
    (ih : ∀ pc lv st M, E pc lv st M → n0 ≤ vm_n M → s0 ≤ vm_s M → ∀ (H : Heap) (locs : List Loc) (ls : Array Slot), lv_has ls nL (vm_trl g lv) → vm_In g cA D M H → va_S (fun q => b0 ≤ q) s.heap H locs → W p l e R s m args below meth c H locs (vm_n M - n0) (vm_s M - s0) Q (F0 m pc ls (st.map (vm_tr g))))
    (hup : ∀ pc lv st M, E pc lv st M → vm_up M r)
    (hret : ∀ pc ins (H : Heap) (locs : List Loc) (ls : Array Slot), decode cc pc = .ok (ins, 1) → vm_isr ins r.1 → vm_In g cA D r.2 H → va_S (fun q => b0 ≤ q) s.heap H locs → W p l e R s m args below meth c H locs (vm_n r.2 - n0) (vm_s r.2 - s0) Q (F0 m pc ls (r.1.toList.map (vm_tr g))))
    {pc : Nat} {lv : vm_L} {st : List Value} {M : vm_M} {ty : ArrayType} {a b : Nat} {v : Int} (hdg : decode cc pc = .ok (.newarray ty, vm_len (.newarray ty) b)) (hlk : vm_lk own (.newarray ty) a b v) (h : vm_do O L xs own ini nL r E pc lv st M (.newarray ty) a b v) (hn : n0 ≤ vm_n M) (hsl : s0 ≤ vm_s M) {H : Heap} {locs : List Loc} {ls : Array Slot} (hl : lv_has ls nL (vm_trl g lv)) (hI : vm_In g cA D M H) (hS : va_S (fun q => b0 ≤ q) s.heap H locs) :
    W p l e R s m args below meth c H locs (vm_n M - n0) (vm_s M - s0) Q (F0 m pc ls (st.map (vm_tr g))) := by
  have hupM : vm_up M r := vm_do_up (fun i as M r' ho => ⟨(hO i as M r' ho).1, (hO i as M r' ho).2.1⟩) hup h
  have hnM : vm_n M ≤ 1099511627776 := Nat.le_trans hupM.1 hnr
  have hDd : va_D (fun q => b0 ≤ q) (vm_w g cA M) := vm_Dd hg hnM
  have hA : ∀ q, s.heap.size ≤ q → (fun q => b0 ≤ q) q := fun q hq => by show b0 ≤ q; omega
  have go : ∀ {pc lv st ls}, E pc lv st M → lv_has ls nL (vm_trl g lv) → W p l e R s m args below meth c H locs (vm_n M - n0) (vm_s M - s0) Q (F0 m pc ls (st.map (vm_tr g))) := fun hE hl => ih _ _ _ _ hE hn hsl _ _ _ hl hI hS
  have hcs : vm_n M - n0 ≤ R.cells := Nat.le_trans (Nat.sub_le_sub_right hupM.1 n0) hRc
  have hss : vm_s M - s0 ≤ R.slots := Nat.le_trans (Nat.sub_le_sub_right hupM.2 s0) hRs
  have hml2 : c.maxLocals = ls.size := hml.trans hl.1.symm
  have arr : ∀ {q t n}, q < vm_n M → vm_sh M q = .inr (t, n) → (vm_w g cA M)[q]? = some (g q, .inl (cA t, n, vm_ct g M q t)) := fun hq hs => by rw [vm_w_at hq, vm_e_arr hs]
  have obj : ∀ {q a}, q < vm_n M → vm_sh M q = .inl a → (vm_w g cA M)[q]? = some (g q, .inr (a, (List.range (vg_N a)).map (fun k => vm_tr g (vm_gv M q (vg_y a k) k)))) := fun hq hs => by rw [vm_w_at hq, vm_e_obj hs]
  have hf1 : 1 ≤ R.frames := by omega
  have hl9 : 900 ≤ R.locals := vm_ar4 hRl
  simp only [vm_do] at h
  obtain ⟨n, st', t, rfl, hn0, ht, hty, hle, h⟩ := h
  have e1 : vm_n M - n0 + 1 = vm_n (vm_mk M (.inr (t, n.toNatClampNeg)) n.toNatClampNeg (fun _ => 0)) - n0 := by
    show vm_n M - n0 + 1 = (vm_n M + 1) - n0
    omega
  have e2 : vm_s M - s0 + n.toNatClampNeg = vm_s (vm_mk M (.inr (t, n.toNatClampNeg)) n.toNatClampNeg (fun _ => 0)) - s0 := by
    show vm_s M - s0 + n.toNatClampNeg = (vm_s M + n.toNatClampNeg) - s0
    omega
  have up1 := hup _ _ _ _ h
  have hc1 : vm_n M - n0 + 1 ≤ R.cells := by rw [e1]; exact Nat.le_trans (Nat.sub_le_sub_right up1.1 n0) hRc
  have hs1 : vm_s M - s0 + n.toNatClampNeg ≤ R.slots := by rw [e2]; exact Nat.le_trans (Nat.sub_le_sub_right up1.2 s0) hRs
  have hlt : vm_n M < 1099511627776 := by
    have h1 : vm_n M + 1 ≤ vm_n r.2 := up1.1
    omega
  have fin : ∀ (a0 : vp_A), vm_e g cA (vm_mk M (.inr (t, n.toNatClampNeg)) n.toNatClampNeg (fun _ => 0)) (vm_n M) = .inl (cA t, a0) → (∀ cA : ClassId, vp_cell cA a0 = arrV cA n.toNatClampNeg (fun _ => defaultValue (vm_at t))) → (∀ cX, va_RA s cX (vm_at t) → cX = cA t) → n.toNatClampNeg * componentBytes (vm_at t) ≤ 536870912 → W p l e R s m args below meth c H locs (vm_n M - n0) (vm_s M - s0) Q (F0 m pc ls (.int n :: st'.map (vm_tr g))) := by
    intro a0 he hcell hRA hby
    refine va_newa hx hb (by rw [hty]; exact hts _ (vt_ac t ht)) hty hK hI hDd hS hA hcell hn0 rfl hby hc1 hs1 hdg (fun q cX H1 hK1 hP1 hD1 hS1 => ?_)
    refine vm_size (fun hz => ?_)
    have hcx : cX = cA t := hRA cX (hK1.2 5 (cX, vm_at t) (by rw [List.getElem?_append_right (by simp [vm_tys])]; simp [vm_tys])).2
    have hq : q = g (vm_n M) := vm_nw_cA hg hlt hP1 hD1 (by omega)
    subst hq
    rw [hcx, ← he, vm_w_push (M' := vm_mk M (.inr (t, n.toNatClampNeg)) n.toNatClampNeg (fun _ => 0)) rfl rfl (fun a ha => vm_mk_old ha)] at hP1
    rw [e1, e2]
    exact ih _ _ _ _ h (Nat.le_succ_of_le hn) (Nat.le_trans hsl (Nat.le_add_right _ _)) _ _ _ hl hP1 hS1
  have hra : ∀ cX, va_RA s cX (vm_at t) → cX = cA t := fun cX hq => vm_ra_eq ht hq (hK.2 t _ (vm_tys_at (by omega))).2
  rcases (by omega : t = 0 ∨ t = 1 ∨ t = 2 ∨ t = 3) with rfl | rfl | rfl | rfl
  · exact fin _ (by rw [vm_e_arr vm_mk_sh, vm_ct0 vm_mk_i]) (fun _ => rfl) hra (by show _ * 4 ≤ _; omega)
  · exact fin _ (by rw [vm_e_arr vm_mk_sh, vm_ct1 vm_mk_l]) (fun _ => rfl) hra (by show _ * 8 ≤ _; omega)
  · exact fin _ (by rw [vm_e_arr vm_mk_sh, vm_ct2 vm_mk_i]) (fun _ => rfl) hra (by show _ * 1 ≤ _; omega)
  · exact fin _ (by rw [vm_e_arr vm_mk_sh, vm_ct3 vm_mk_i]) (fun _ => rfl) hra (by show _ * 1 ≤ _; omega)
set_option maxHeartbeats 1000000 in
set_option maxRecDepth 20000 in
theorem vm_step_anewarray {p : Program} {l : Launch} {e : Env} {R : Room} {s : State} {m : MethodId} {args : Array Value} {below : List Frame} {meth : Method} {c : Code} {Q : State → Prop} {cc : ByteArray} {O : Nat → List Value → vm_M → vm_R → Prop} {L : Nat} {xs : Nat → Int32} {own : Nat} {ini : Bool} {nL n0 s0 b0 d : Nat} {g : Nat → Nat} {cA : Nat → ClassId} {D : va_G} {X : State → Prop} {r : vm_R}
    (hx : p.tables.exec = Jvm.exec) (hb : c.code = cc) (hml : c.maxLocals = nL) (hown : s.vm.findClass (vg_O own) = some m.cls) (hts : ∀ w ∈ vt, w.before args s = true) (hK : va_K D vg_cl (vm_tys cA) s) (hN : vm_Nx s) (hX : X s) (hXs : vm_Str b0 g X)
    (hin : ini = true → meth.name = "<init>") (hscr : own = 12 → va_X (g vm_scr) L xs s s.heap ∧ g vm_scr < s.heap.size ∧ ¬ b0 ≤ g vm_scr) (hg : ∀ q, q < 1099511627776 → g q = b0 + q) (hh0 : s.heap.size = b0 + n0) (hnr : vm_n r.2 ≤ 1099511627776)
    (hRc : vm_n r.2 - n0 ≤ R.cells) (hRs : vm_s r.2 - s0 ≤ R.slots) (hRf : d + 9 ≤ R.frames) (hRl : 100 * (d + 9) ≤ R.locals)
    (hO : ∀ i as M r', O i as M r' → vm_n M ≤ vm_n r'.2 ∧ vm_s M ≤ vm_s r'.2 ∧ (i < 203 → vm_n r'.2 ≤ 1099511627776 → vm_Ok l g cA D b0 X d i as M r')) {E : Nat → vm_L → List Value → vm_M → Prop}
    (ih : ∀ pc lv st M, E pc lv st M → n0 ≤ vm_n M → s0 ≤ vm_s M → ∀ (H : Heap) (locs : List Loc) (ls : Array Slot), lv_has ls nL (vm_trl g lv) → vm_In g cA D M H → va_S (fun q => b0 ≤ q) s.heap H locs → W p l e R s m args below meth c H locs (vm_n M - n0) (vm_s M - s0) Q (F0 m pc ls (st.map (vm_tr g))))
    (hup : ∀ pc lv st M, E pc lv st M → vm_up M r)
    (hret : ∀ pc ins (H : Heap) (locs : List Loc) (ls : Array Slot), decode cc pc = .ok (ins, 1) → vm_isr ins r.1 → vm_In g cA D r.2 H → va_S (fun q => b0 ≤ q) s.heap H locs → W p l e R s m args below meth c H locs (vm_n r.2 - n0) (vm_s r.2 - s0) Q (F0 m pc ls (r.1.toList.map (vm_tr g))))
    {pc : Nat} {lv : vm_L} {st : List Value} {M : vm_M} {i : Nat} {a b : Nat} {v : Int} (hdg : decode cc pc = .ok (.anewarray i, vm_len (.anewarray i) b)) (hlk : vm_lk own (.anewarray i) a b v) (h : vm_do O L xs own ini nL r E pc lv st M (.anewarray i) a b v) (hn : n0 ≤ vm_n M) (hsl : s0 ≤ vm_s M) {H : Heap} {locs : List Loc} {ls : Array Slot} (hl : lv_has ls nL (vm_trl g lv)) (hI : vm_In g cA D M H) (hS : va_S (fun q => b0 ≤ q) s.heap H locs) :
    W p l e R s m args below meth c H locs (vm_n M - n0) (vm_s M - s0) Q (F0 m pc ls (st.map (vm_tr g))) := by
  have hupM : vm_up M r := vm_do_up (fun i as M r' ho => ⟨(hO i as M r' ho).1, (hO i as M r' ho).2.1⟩) hup h
  have hnM : vm_n M ≤ 1099511627776 := Nat.le_trans hupM.1 hnr
  have hDd : va_D (fun q => b0 ≤ q) (vm_w g cA M) := vm_Dd hg hnM
  have hA : ∀ q, s.heap.size ≤ q → (fun q => b0 ≤ q) q := fun q hq => by show b0 ≤ q; omega
  have go : ∀ {pc lv st ls}, E pc lv st M → lv_has ls nL (vm_trl g lv) → W p l e R s m args below meth c H locs (vm_n M - n0) (vm_s M - s0) Q (F0 m pc ls (st.map (vm_tr g))) := fun hE hl => ih _ _ _ _ hE hn hsl _ _ _ hl hI hS
  have hcs : vm_n M - n0 ≤ R.cells := Nat.le_trans (Nat.sub_le_sub_right hupM.1 n0) hRc
  have hss : vm_s M - s0 ≤ R.slots := Nat.le_trans (Nat.sub_le_sub_right hupM.2 s0) hRs
  have hml2 : c.maxLocals = ls.size := hml.trans hl.1.symm
  have arr : ∀ {q t n}, q < vm_n M → vm_sh M q = .inr (t, n) → (vm_w g cA M)[q]? = some (g q, .inl (cA t, n, vm_ct g M q t)) := fun hq hs => by rw [vm_w_at hq, vm_e_arr hs]
  have obj : ∀ {q a}, q < vm_n M → vm_sh M q = .inl a → (vm_w g cA M)[q]? = some (g q, .inr (a, (List.range (vg_N a)).map (fun k => vm_tr g (vm_gv M q (vg_y a k) k)))) := fun hq hs => by rw [vm_w_at hq, vm_e_obj hs]
  have hf1 : 1 ≤ R.frames := by omega
  have hl9 : 900 ≤ R.locals := vm_ar4 hRl
  simp only [vm_do] at h
  obtain ⟨n, st', rfl, hn0, hle, ha, h⟩ := h
  have e1 : vm_n M - n0 + 1 = vm_n (vm_mk M (.inr (4, n.toNatClampNeg)) n.toNatClampNeg (fun _ => 0)) - n0 := by
    show vm_n M - n0 + 1 = (vm_n M + 1) - n0
    omega
  have e2 : vm_s M - s0 + n.toNatClampNeg = vm_s (vm_mk M (.inr (4, n.toNatClampNeg)) n.toNatClampNeg (fun _ => 0)) - s0 := by
    show vm_s M - s0 + n.toNatClampNeg = (vm_s M + n.toNatClampNeg) - s0
    omega
  have up1 := hup _ _ _ _ h
  have hc1 : vm_n M - n0 + 1 ≤ R.cells := by rw [e1]; exact Nat.le_trans (Nat.sub_le_sub_right up1.1 n0) hRc
  have hs1 : vm_s M - s0 + n.toNatClampNeg ≤ R.slots := by rw [e2]; exact Nat.le_trans (Nat.sub_le_sub_right up1.2 s0) hRs
  have hlt : vm_n M < 1099511627776 := by
    have h1 : vm_n M + 1 ≤ vm_n r.2 := up1.1
    omega
  refine va_newq hx hb hown (hts _ hlk) hN.2.2 hK hI hDd hS hA hn0 rfl (by omega) hc1 hs1 hdg (fun q cX H1 hK1 hP1 hD1 hS1 => ?_)
  refine vm_size (fun hz => ?_)
  have hcx : cX = cA 4 := by
    have h1 : va_RA s cX (.object "PupilCoin$Law") := (hK1.2 5 (cX, .object "PupilCoin$Law") (by rw [List.getElem?_append_right (by simp [vm_tys])]; simp [vm_tys])).2
    have h2 : va_RA s (cA 4) (.object "PupilCoin$Law") := (hK.2 4 _ (vm_tys_at (by omega))).2
    obtain ⟨_, _, _, _, _, h1⟩ := h1
    obtain ⟨_, _, _, _, _, h2⟩ := h2
    exact Option.some.inj (h1.symm.trans h2)
  have hq : q = g (vm_n M) := vm_nw_cA hg hlt hP1 hD1 (by omega)
  subst hq
  have he : vm_e g cA (vm_mk M (.inr (4, n.toNatClampNeg)) n.toNatClampNeg (fun _ => 0)) (vm_n M) = .inl (cA 4, n.toNatClampNeg, .inr (.inr (.inr (.inr (fun _ => none))))) := by rw [vm_e_arr vm_mk_sh, vm_ct4 (f := fun _ => none) (by rw [vm_mk_r]; rfl)]
  rw [hcx, ← he, vm_w_push (M' := vm_mk M (.inr (4, n.toNatClampNeg)) n.toNatClampNeg (fun _ => 0)) rfl rfl (fun a ha => vm_mk_old ha)] at hP1
  rw [e1, e2]
  exact ih _ _ _ _ h (Nat.le_succ_of_le hn) (Nat.le_trans hsl (Nat.le_add_right _ _)) _ _ _ hl hP1 hS1
set_option maxHeartbeats 1000000 in
set_option maxRecDepth 20000 in
theorem vm_step_new {p : Program} {l : Launch} {e : Env} {R : Room} {s : State} {m : MethodId} {args : Array Value} {below : List Frame} {meth : Method} {c : Code} {Q : State → Prop} {cc : ByteArray} {O : Nat → List Value → vm_M → vm_R → Prop} {L : Nat} {xs : Nat → Int32} {own : Nat} {ini : Bool} {nL n0 s0 b0 d : Nat} {g : Nat → Nat} {cA : Nat → ClassId} {D : va_G} {X : State → Prop} {r : vm_R}
    (hx : p.tables.exec = Jvm.exec) (hb : c.code = cc) (hml : c.maxLocals = nL) (hown : s.vm.findClass (vg_O own) = some m.cls) (hts : ∀ w ∈ vt, w.before args s = true) (hK : va_K D vg_cl (vm_tys cA) s) (hN : vm_Nx s) (hX : X s) (hXs : vm_Str b0 g X)
    (hin : ini = true → meth.name = "<init>") (hscr : own = 12 → va_X (g vm_scr) L xs s s.heap ∧ g vm_scr < s.heap.size ∧ ¬ b0 ≤ g vm_scr) (hg : ∀ q, q < 1099511627776 → g q = b0 + q) (hh0 : s.heap.size = b0 + n0) (hnr : vm_n r.2 ≤ 1099511627776)
    (hRc : vm_n r.2 - n0 ≤ R.cells) (hRs : vm_s r.2 - s0 ≤ R.slots) (hRf : d + 9 ≤ R.frames) (hRl : 100 * (d + 9) ≤ R.locals)
    (hO : ∀ i as M r', O i as M r' → vm_n M ≤ vm_n r'.2 ∧ vm_s M ≤ vm_s r'.2 ∧ (i < 203 → vm_n r'.2 ≤ 1099511627776 → vm_Ok l g cA D b0 X d i as M r')) {E : Nat → vm_L → List Value → vm_M → Prop}
    (ih : ∀ pc lv st M, E pc lv st M → n0 ≤ vm_n M → s0 ≤ vm_s M → ∀ (H : Heap) (locs : List Loc) (ls : Array Slot), lv_has ls nL (vm_trl g lv) → vm_In g cA D M H → va_S (fun q => b0 ≤ q) s.heap H locs → W p l e R s m args below meth c H locs (vm_n M - n0) (vm_s M - s0) Q (F0 m pc ls (st.map (vm_tr g))))
    (hup : ∀ pc lv st M, E pc lv st M → vm_up M r)
    (hret : ∀ pc ins (H : Heap) (locs : List Loc) (ls : Array Slot), decode cc pc = .ok (ins, 1) → vm_isr ins r.1 → vm_In g cA D r.2 H → va_S (fun q => b0 ≤ q) s.heap H locs → W p l e R s m args below meth c H locs (vm_n r.2 - n0) (vm_s r.2 - s0) Q (F0 m pc ls (r.1.toList.map (vm_tr g))))
    {pc : Nat} {lv : vm_L} {st : List Value} {M : vm_M} {i : Nat} {a b : Nat} {v : Int} (hdg : decode cc pc = .ok (.new i, vm_len (.new i) b)) (hlk : vm_lk own (.new i) a b v) (h : vm_do O L xs own ini nL r E pc lv st M (.new i) a b v) (hn : n0 ≤ vm_n M) (hsl : s0 ≤ vm_s M) {H : Heap} {locs : List Loc} {ls : Array Slot} (hl : lv_has ls nL (vm_trl g lv)) (hI : vm_In g cA D M H) (hS : va_S (fun q => b0 ≤ q) s.heap H locs) :
    W p l e R s m args below meth c H locs (vm_n M - n0) (vm_s M - s0) Q (F0 m pc ls (st.map (vm_tr g))) := by
  have hupM : vm_up M r := vm_do_up (fun i as M r' ho => ⟨(hO i as M r' ho).1, (hO i as M r' ho).2.1⟩) hup h
  have hnM : vm_n M ≤ 1099511627776 := Nat.le_trans hupM.1 hnr
  have hDd : va_D (fun q => b0 ≤ q) (vm_w g cA M) := vm_Dd hg hnM
  have hA : ∀ q, s.heap.size ≤ q → (fun q => b0 ≤ q) q := fun q hq => by show b0 ≤ q; omega
  have go : ∀ {pc lv st ls}, E pc lv st M → lv_has ls nL (vm_trl g lv) → W p l e R s m args below meth c H locs (vm_n M - n0) (vm_s M - s0) Q (F0 m pc ls (st.map (vm_tr g))) := fun hE hl => ih _ _ _ _ hE hn hsl _ _ _ hl hI hS
  have hcs : vm_n M - n0 ≤ R.cells := Nat.le_trans (Nat.sub_le_sub_right hupM.1 n0) hRc
  have hss : vm_s M - s0 ≤ R.slots := Nat.le_trans (Nat.sub_le_sub_right hupM.2 s0) hRs
  have hml2 : c.maxLocals = ls.size := hml.trans hl.1.symm
  have arr : ∀ {q t n}, q < vm_n M → vm_sh M q = .inr (t, n) → (vm_w g cA M)[q]? = some (g q, .inl (cA t, n, vm_ct g M q t)) := fun hq hs => by rw [vm_w_at hq, vm_e_arr hs]
  have obj : ∀ {q a}, q < vm_n M → vm_sh M q = .inl a → (vm_w g cA M)[q]? = some (g q, .inr (a, (List.range (vg_N a)).map (fun k => vm_tr g (vm_gv M q (vg_y a k) k)))) := fun hq hs => by rw [vm_w_at hq, vm_e_obj hs]
  have hf1 : 1 ≤ R.frames := by omega
  have hl9 : 900 ≤ R.locals := vm_ar4 hRl
  simp only [vm_do] at h
  have e1 : vm_n M - n0 + 1 = vm_n (vm_mk M (.inl a) (vg_N a) (fun _ => 0)) - n0 := by
    show vm_n M - n0 + 1 = (vm_n M + 1) - n0
    omega
  have e2 : vm_s M - s0 + vg_N a = vm_s (vm_mk M (.inl a) (vg_N a) (fun _ => 0)) - s0 := by
    show vm_s M - s0 + vg_N a = (vm_s M + vg_N a) - s0
    omega
  have up1 := hup _ _ _ _ h
  have hc1 : vm_n M - n0 + 1 ≤ R.cells := by rw [e1]; exact Nat.le_trans (Nat.sub_le_sub_right up1.1 n0) hRc
  have hs1 : vm_s M - s0 + vg_N a ≤ R.slots := by rw [e2]; exact Nat.le_trans (Nat.sub_le_sub_right up1.2 s0) hRs
  have hlt : vm_n M < 1099511627776 := by
    have h1 : vm_n M + 1 ≤ vm_n r.2 := up1.1
    omega
  obtain ⟨ha, hcl⟩ := hlk
  refine va_new (own := vg_O own) (C := vg_C a) (T := vg_T a) (N := vg_N a) (ci := a) (Ts := vt) hx hb hts (vg_lays a ha) (vg_y a) (vg_y_ok a ha) hown (hts _ hcl) (hts _ (vt_of (vg_inst_ok a ha).1 (vg_inst_ok a ha).2)) (hts _ (vt_of (vg_init_ok a ha).1 (vg_init_ok a ha).2)) hK hI hDd hS hA (vg_cl_at ha) (vm_new_fs (g := g) (M := M) (w := vg_N a) ha) hc1 hs1 hdg (fun q H1 hP1 hD1 hS1 => ?_)
  refine vm_size (fun hz => ?_)
  have hq : q = g (vm_n M) := vm_nw_cA hg hlt hP1 hD1 (by omega)
  subst hq
  rw [← vm_e_obj (g := g) (cA := cA) (M := vm_mk M (.inl a) (vg_N a) (fun _ => 0)) vm_mk_sh, vm_w_push (M' := vm_mk M (.inl a) (vg_N a) (fun _ => 0)) rfl rfl (fun a ha => vm_mk_old ha)] at hP1
  rw [e1, e2]
  exact ih _ _ _ _ h (Nat.le_succ_of_le hn) (Nat.le_trans hsl (Nat.le_add_right _ _)) _ _ _ hl hP1 hS1
