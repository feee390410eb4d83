/-! the small machine's memory as a world of the kit; contracts over it -/
def vm_tr (g : Nat → Nat) (v : Value) : Value := match v with
  | .ref q => .ref (g q)
  | v => v
theorem vm_tr_rf (g : Nat → Nat) (x : Option Nat) : vm_tr g (va_rf x) = va_rf (x.map g) := by cases x <;> rfl
theorem vm_tr_cat (g : Nat → Nat) (v : Value) : (vm_tr g v).category = v.category := by cases v <;> rfl
def vm_trl (g : Nat → Nat) (lv : vm_L) : vm_L := lv.map (fun q => (q.1, vm_tr g q.2))
theorem vm_cat_tr (g : Nat → Nat) (st : List Value) : ((st.map (vm_tr g)).map fun v => v.category).sum = vm_cat st := by
  unfold vm_cat
  rw [List.map_map]
  congr 1
  exact List.map_congr_left (fun v _ => vm_tr_cat g v)
theorem vm_trl_mem {g : Nat → Nat} {lv : vm_L} {i : Nat} {v : Value} (h : (i, v) ∈ lv) : (i, vm_tr g v) ∈ vm_trl g lv := List.mem_map.mpr ⟨(i, v), h, rfl⟩
theorem vm_st1_tr (g : Nat → Nat) (lv : vm_L) (i : Nat) (v : Value) : (i, vm_tr g v) :: (vm_trl g lv).filter (fun q => !(q.1 == i) && !(q.1 + 1 == i && q.2.category == 2)) = vm_trl g (vm_st1 lv i v) := by
  unfold vm_trl vm_st1
  rw [List.map_cons, List.filter_map]
  congr 2
  refine List.filter_congr (fun q _ => ?_)
  simp only [Function.comp, vm_tr_cat]
theorem vm_st2_tr (g : Nat → Nat) (lv : vm_L) (i : Nat) (v : Value) : (i, vm_tr g v) :: (vm_trl g lv).filter (fun q => !(q.1 == i) && (!(q.1 == i + 1) && !(q.1 + 1 == i && q.2.category == 2))) = vm_trl g (vm_st2 lv i v) := by
  unfold vm_trl vm_st2
  rw [List.map_cons, List.filter_map]
  congr 2
  refine List.filter_congr (fun q _ => ?_)
  simp only [Function.comp, vm_tr_cat]
/-- an array's contents, by its kind -/
def vm_ct (g : Nat → Nat) (M : vm_M) (q t : Nat) : (Nat → Int32) ⊕ (Nat → Int64) ⊕ (Nat → UInt32) ⊕ (Nat → UInt64) ⊕ (Nat → Option Nat) := match t with
  | 1 => .inr (.inl (vm_l M q))
  | 4 => .inr (.inr (.inr (.inr (fun k => (vm_rr M q k).map g))))
  | _ => .inl (vm_i M q)
def vm_e (g : Nat → Nat) (cA : Nat → ClassId) (M : vm_M) (q : Nat) : va_E := match vm_sh M q with
  | .inl c => .inr (c, (List.range (vg_N c)).map (fun k => vm_tr g (vm_gv M q (vg_y c k) k)))
  | .inr (t, n) => .inl (cA t, n, vm_ct g M q t)
def vm_w (g : Nat → Nat) (cA : Nat → ClassId) (M : vm_M) : va_W := (List.range (vm_n M)).map (fun q => (g q, vm_e g cA M q))
theorem vm_w_at {g : Nat → Nat} {cA : Nat → ClassId} {M : vm_M} {q : Nat} (h : q < vm_n M) : (vm_w g cA M)[q]? = some (g q, vm_e g cA M q) := by
  unfold vm_w
  rw [List.getElem?_map, List.getElem?_range h]
  rfl
theorem vm_w_len {g : Nat → Nat} {cA : Nat → ClassId} {M : vm_M} : (vm_w g cA M).length = vm_n M := by simp [vm_w]
theorem vm_w_set {g : Nat → Nat} {cA : Nat → ClassId} {M M' : vm_M} {q : Nat} {e : va_E} (hn : vm_n M' = vm_n M) (he : vm_e g cA M' q = e) (ho : ∀ a, a ≠ q → vm_e g cA M' a = vm_e g cA M a) : (vm_w g cA M).set q (g q, e) = vm_w g cA M' := by
  refine List.ext_getElem? (fun i => ?_)
  by_cases hi : i < vm_n M
  · rw [vm_w_at (M := M') (by omega)]
    by_cases hq : i = q
    · subst hq
      rw [List.getElem?_set_self (by rw [vm_w_len]; exact hi), he]
    · rw [List.getElem?_set_ne (Ne.symm hq), vm_w_at hi, ho i hq]
  · rw [List.getElem?_eq_none (by rw [List.length_set, vm_w_len]; omega), List.getElem?_eq_none (by rw [vm_w_len]; omega)]
theorem vm_w_push {g : Nat → Nat} {cA : Nat → ClassId} {M M' : vm_M} {e : va_E} (hn : vm_n M' = vm_n M + 1) (he : vm_e g cA M' (vm_n M) = e) (ho : ∀ a, a < vm_n M → vm_e g cA M' a = vm_e g cA M a) : vm_w g cA M ++ [(g (vm_n M), e)] = vm_w g cA M' := by
  unfold vm_w
  rw [hn, List.range_succ, List.map_append]
  congr 1
  · exact List.map_congr_left (fun a ha => by rw [ho a (List.mem_range.mp ha)])
  · rw [List.map_cons, List.map_nil, he]
theorem vm_e_row {g : Nat → Nat} {cA : Nat → ClassId} {M M' : vm_M} {q : Nat} (h1 : vm_sh M' q = vm_sh M q) (h2 : vm_i M' q = vm_i M q) (h3 : vm_l M' q = vm_l M q) (h4 : vm_rr M' q = vm_rr M q) : vm_e g cA M' q = vm_e g cA M q := by
  unfold vm_e vm_gv vm_ct
  rw [h1, h2, h3, h4]
theorem vm_pi_ne {M : vm_M} {q k a : Nat} {v : Int32} (h : a ≠ q) : vm_i (vm_pi M q k v) a = vm_i M a := by
  funext b
  show (if a = q ∧ b = k then v else _) = _
  rw [if_neg (fun z => h z.1)]
  rfl
theorem vm_pl_ne {M : vm_M} {q k a : Nat} {v : Int64} (h : a ≠ q) : vm_l (vm_pl M q k v) a = vm_l M a := by
  funext b
  show (if a = q ∧ b = k then v else _) = _
  rw [if_neg (fun z => h z.1)]
  rfl
theorem vm_pr_ne {M : vm_M} {q k a : Nat} {v : Option Nat} (h : a ≠ q) : vm_rr (vm_pr M q k v) a = vm_rr M a := by
  funext b
  show (if a = q ∧ b = k then v else _) = _
  rw [if_neg (fun z => h z.1)]
  rfl
theorem vm_mk_old {g : Nat → Nat} {cA : Nat → ClassId} {M : vm_M} {b : vm_B} {w a : Nat} {f : Nat → Int32} (h : a < vm_n M) : vm_e g cA (vm_mk M b w f) a = vm_e g cA M a := by
  have hn : ¬ a = M.1 := Nat.ne_of_lt h
  refine vm_e_row ?_ ?_ ?_ ?_
  · show (if a = M.1 then b else _) = _
    rw [if_neg hn]; rfl
  · funext k
    show (if a = M.1 then f k else _) = _
    rw [if_neg hn]; rfl
  · funext k
    show (if a = M.1 then 0 else _) = _
    rw [if_neg hn]; rfl
  · funext k
    show (if a = M.1 then none else _) = _
    rw [if_neg hn]; rfl
theorem vm_mk_sh {M : vm_M} {b : vm_B} {w : Nat} {f : Nat → Int32} : vm_sh (vm_mk M b w f) (vm_n M) = b := by
  show (if M.1 = M.1 then b else _) = _
  rw [if_pos rfl]
theorem vm_mk_i {M : vm_M} {b : vm_B} {w : Nat} {f : Nat → Int32} : vm_i (vm_mk M b w f) (vm_n M) = f := by
  funext k
  show (if M.1 = M.1 then f k else _) = _
  rw [if_pos rfl]
theorem vm_mk_l {M : vm_M} {b : vm_B} {w : Nat} {f : Nat → Int32} : vm_l (vm_mk M b w f) (vm_n M) = fun _ => 0 := by
  funext k
  show (if M.1 = M.1 then 0 else _) = _
  rw [if_pos rfl]
theorem vm_mk_r {M : vm_M} {b : vm_B} {w : Nat} {f : Nat → Int32} : vm_rr (vm_mk M b w f) (vm_n M) = fun _ => none := by
  funext k
  show (if M.1 = M.1 then none else _) = _
  rw [if_pos rfl]
/-- the kinds of arrays as the tables have them -/
def vm_tys (cA : Nat → ClassId) : List (ClassId × FieldType) := (List.range 5).map (fun t => (cA t, vm_at t))
theorem vm_tys_at {cA : Nat → ClassId} {t : Nat} (h : t < 5) : (vm_tys cA)[t]? = some (cA t, vm_at t) := by
  unfold vm_tys
  rw [List.getElem?_map, List.getElem?_range h]
  rfl
theorem vg_cl_at {c : Nat} (h : c < 12) : vg_cl[c]? = some (vg_C c, vg_T c, vg_N c) := by
  show ((List.range 12).map _)[c]? = _
  rw [List.getElem?_map, List.getElem?_range h]
  rfl
/-- what the tables say beside the words -/
def vm_Nx (U : State) : Prop := (∀ q ∈ vg_ne, va_Nw (.methodLinkNest (vg_O q.1) q.2.1 (vm_y q.2.2.1) q.2.2.2) U) ∧ va_Nw (.castable "[I" "java/lang/Cloneable") U ∧ va_AO "PupilCoin$Law" U
theorem vm_Nx.same {u U : State} (h : u.vm = U.vm) (hN : vm_Nx u) : vm_Nx U :=
  ⟨fun q hq => va_Nw.same rfl h (hN.1 q hq), va_Nw.same rfl h hN.2.1, va_AO.moved (by rw [h]; exact Vm.Alike.refl _) hN.2.2⟩
theorem vm_Nx.warm {s U : State} (hW : s.WarmedH U.vm) (hN : vm_Nx s) : vm_Nx U :=
  ⟨fun q hq => va_Nw.warmM hW (hN.1 q hq), va_Nw.warmC hW hN.2.1, va_AO.moved hW.alike hN.2.2⟩
/-- the memory M in the heap H, from the address b0 on -/
def vm_In (g : Nat → Nat) (cA : Nat → ClassId) (D : va_G) (M : vm_M) (H : Heap) : Prop := va_P D vg_cl (vm_w g cA M) H
def vm_room (d mc ms : Nat) : Room := { frames := d + 8, cells := mc, slots := ms, locals := 100 * (d + 8) }
def vm_Pc (g : Nat → Nat) (cA : Nat → ClassId) (D : va_G) (b0 : Nat) (X : State → Prop) (as : List Value) (M : vm_M) : Array Value → State → Prop :=
  va_Pc (as.map (vm_tr g)) (fun U => U.heap.size = b0 + vm_n M ∧ vm_In g cA D M U.heap ∧ va_K D vg_cl (vm_tys cA) U ∧ vm_Nx U ∧ X U)
def vm_Qc (g : Nat → Nat) (cA : Nat → ClassId) (D : va_G) (b0 : Nat) (r : vm_R) : Array Value → State → Outcome → State → Prop :=
  fun _ st oc t => oc = .returned (r.1.map (vm_tr g)) ∧ vm_In g cA D r.2 t.heap ∧ va_F (fun q => b0 ≤ q) st t
def vm_Ok (l : Launch) (g : Nat → Nat) (cA : Nat → ClassId) (D : va_G) (b0 : Nat) (X : State → Prop) (d i : Nat) (as : List Value) (M : vm_M) (r : vm_R) : Prop :=
  Met l (vm_y i) (.code (vm_y i) (vm_b i) (vm_x i) (vm_r i) :: vt) (vm_room d (vm_n r.2 - vm_n M) (vm_s r.2 - vm_s M)) (vm_Pc g cA D b0 X as M) (vm_Qc g cA D b0 r) (vm_n r.2 - vm_n M) (vm_s r.2 - vm_s M) (fun q => b0 ≤ q)
/-- a link as the instruction says it -/
def vm_lk (own : Nat) (ins : Instr) (a b : Nat) (v : Int) : Prop := match ins with
  | .ldc i => (a = 0 → Cond.constant (vg_O own) i (Int32.ofInt v) ∈ vt) ∧ (a = 1 → own = 6 ∧ i = 31)
  | .ldc_w i => Cond.constant (vg_O own) i (Int32.ofInt v) ∈ vt
  | .ldc2_w i => Cond.constantLong (vg_O own) i (Int64.ofInt v) ∈ vt
  | .getfield i => a < 12 ∧ b < vg_N a ∧ Cond.fieldLink (vg_O own) i (vg_T a b).1 (vg_T a b).2.1 (vg_T a b).2.2.1 ∈ vt
  | .putfield i => a < 12 ∧ b < vg_N a ∧ Cond.fieldLink (vg_O own) i (vg_T a b).1 (vg_T a b).2.1 (vg_T a b).2.2.1 ∈ vt
  | .new i => a < 12 ∧ Cond.classLink (vg_O own) i (vg_C a) ∈ vt
  | .anewarray i => Cond.classLink (vg_O own) i "PupilCoin$Law" ∈ vt
  | .checkcast i => Cond.classLink (vg_O own) i "[I" ∈ vt
  | .invokespecial i | .invokestatic i | .invokevirtual i =>
    (a < 3 → b < 203 ∧ vm_k b = a) ∧ (a = 3 → b < 203 ∧ vm_k b = 2 ∧ ∃ h, (own, i, b, h) ∈ vg_ne) ∧ (a = 10 → b < 203 ∧ vm_k b = 1 ∧ ∃ h, (own, i, b, h) ∈ vg_ne) ∧ (a ≠ 3 → a ≠ 10 → Cond.methodLink (vg_O own) i (vg_mn a b) ∈ vt) ∧ (8 ≤ a → a < 10 → own = 6)
  | _ => True
def vm_lkB (own : Nat) (ins : Instr) (a b : Nat) (v : Int) : Bool := match ins with
  | .ldc i => (a == 0 && vg_ki.any (fun e => e.1 == own && e.2.1 == i && e.2.2.1 == v)) || (a == 1 && own == 6 && i == 31)
  | .ldc_w i => vg_ki.any (fun e => e.1 == own && e.2.1 == i && e.2.2.1 == v)
  | .ldc2_w i => vg_kj.any (fun e => e.1 == own && e.2.1 == i && e.2.2.1 == v)
  | .getfield i => vg_fl.any (fun e => e.1 == own && e.2.1 == i && e.2.2.1 == a && e.2.2.2.1 == b)
  | .putfield i => vg_fl.any (fun e => e.1 == own && e.2.1 == i && e.2.2.1 == a && e.2.2.2.1 == b)
  | .new i => vg_kc.any (fun e => e.1 == own && e.2.1 == i && e.2.2.1 == a)
  | .anewarray i => a == 1 && vg_kc.any (fun e => e.1 == own && e.2.1 == i && e.2.2.1 == 1)
  | .checkcast i => vg_kx.any (fun e => e.1 == own && e.2.1 == i)
  | .invokespecial i | .invokestatic i | .invokevirtual i =>
    ((a != 3 && a != 10) && vg_ml.any (fun e => e.1 == own && e.2.1 == i && e.2.2.1 == a && e.2.2.2.1 == b) && (decide (a < 8) || (decide (a < 10) && own == 6))) || (((a == 3 && vm_k b == 2) || (a == 10 && vm_k b == 1)) && decide (b < 203) && vg_ne.any (fun e => e.1 == own && e.2.1 == i && e.2.2.1 == b))
  | _ => true
theorem vm_lk_c {own i : Nat} {v : Int} (h : vg_ki.any (fun e => e.1 == own && e.2.1 == i && e.2.2.1 == v) = true) : Cond.constant (vg_O own) i (Int32.ofInt v) ∈ vt := by
  obtain ⟨e, he, h⟩ := List.any_eq_true.mp h
  simp only [Bool.and_eq_true, beq_iff_eq] at h
  obtain ⟨⟨rfl, rfl⟩, rfl⟩ := h
  exact vt_of (vg_ki_ok e he).1 (vg_ki_ok e he).2
theorem vm_lk_f {own i a b : Nat} (h : vg_fl.any (fun e => e.1 == own && e.2.1 == i && e.2.2.1 == a && e.2.2.2.1 == b) = true) : a < 12 ∧ b < vg_N a ∧ Cond.fieldLink (vg_O own) i (vg_T a b).1 (vg_T a b).2.1 (vg_T a b).2.2.1 ∈ vt := by
  obtain ⟨e, he, h⟩ := List.any_eq_true.mp h
  simp only [Bool.and_eq_true, beq_iff_eq] at h
  obtain ⟨⟨⟨rfl, rfl⟩, rfl⟩, rfl⟩ := h
  obtain ⟨h1, h2, h3, h4⟩ := vg_fl_ok e he
  exact ⟨h3, h4, vt_of h1 h2⟩
theorem vm_lk_n {own i a : Nat} (h : vg_kc.any (fun e => e.1 == own && e.2.1 == i && e.2.2.1 == a) = true) : a < 12 ∧ Cond.classLink (vg_O own) i (vg_C a) ∈ vt := by
  obtain ⟨e, he, h⟩ := List.any_eq_true.mp h
  simp only [Bool.and_eq_true, beq_iff_eq] at h
  obtain ⟨⟨rfl, rfl⟩, rfl⟩ := h
  obtain ⟨h1, h2, h3⟩ := vg_kc_ok e he
  exact ⟨h3, vt_of h1 h2⟩
theorem vm_lk_m {own i a b : Nat} (h : (((a != 3 && a != 10) && vg_ml.any (fun e => e.1 == own && e.2.1 == i && e.2.2.1 == a && e.2.2.2.1 == b) && (decide (a < 8) || (decide (a < 10) && own == 6))) || (((a == 3 && vm_k b == 2) || (a == 10 && vm_k b == 1)) && decide (b < 203) && vg_ne.any (fun e => e.1 == own && e.2.1 == i && e.2.2.1 == b))) = true) :
    (a < 3 → b < 203 ∧ vm_k b = a) ∧ (a = 3 → b < 203 ∧ vm_k b = 2 ∧ ∃ h, (own, i, b, h) ∈ vg_ne) ∧ (a = 10 → b < 203 ∧ vm_k b = 1 ∧ ∃ h, (own, i, b, h) ∈ vg_ne) ∧ (a ≠ 3 → a ≠ 10 → Cond.methodLink (vg_O own) i (vg_mn a b) ∈ vt) ∧ (8 ≤ a → a < 10 → own = 6) := by
  rcases Bool.or_eq_true_iff.mp h with h | h
  · simp only [Bool.and_eq_true, bne_iff_ne, ne_eq] at h
    obtain ⟨⟨⟨n3, n10⟩, hm⟩, ho⟩ := h
    obtain ⟨e, he, h⟩ := List.any_eq_true.mp hm
    simp only [Bool.and_eq_true, beq_iff_eq] at h
    obtain ⟨⟨⟨rfl, rfl⟩, rfl⟩, rfl⟩ := h
    obtain ⟨h1, h2, h3⟩ := vg_ml_ok e he
    refine ⟨fun q => ⟨(h3 (by omega)).1, (h3 (by omega)).2.1⟩, fun q => absurd q n3, fun q => absurd q n10, fun _ _ => vt_of h1 h2, fun q1 q2 => ?_⟩
    simp only [Bool.or_eq_true, decide_eq_true_eq, Bool.and_eq_true, beq_iff_eq] at ho
    omega
  · simp only [Bool.and_eq_true, Bool.or_eq_true, beq_iff_eq, decide_eq_true_eq] at h
    obtain ⟨⟨ha, hb⟩, hn⟩ := h
    obtain ⟨e, he, h⟩ := List.any_eq_true.mp hn
    simp only [Bool.and_eq_true, beq_iff_eq] at h
    obtain ⟨⟨rfl, rfl⟩, rfl⟩ := h
    have hx : ∃ h, (e.1, e.2.1, e.2.2.1, h) ∈ vg_ne := ⟨e.2.2.2, he⟩
    refine ⟨fun q => by omega, fun q => ⟨hb, by omega, hx⟩, fun q => ⟨hb, by omega, hx⟩, fun q1 q2 => by omega, fun q1 q2 => by omega⟩
theorem vm_lk_of {own : Nat} {ins : Instr} {a b : Nat} {v : Int} (h : vm_lkB own ins a b v = true) : vm_lk own ins a b v := by
  cases ins <;> try trivial
  case ldc i =>
    simp only [vm_lkB, Bool.or_eq_true, Bool.and_eq_true, beq_iff_eq] at h
    refine ⟨fun q => ?_, fun q => ?_⟩
    · rcases h with h | h
      · exact vm_lk_c h.2
      · omega
    · rcases h with h | h
      · omega
      · exact ⟨h.1.2, h.2⟩
  case ldc_w i => exact vm_lk_c h
  case ldc2_w i =>
    obtain ⟨e, he, h⟩ := List.any_eq_true.mp h
    simp only [Bool.and_eq_true, beq_iff_eq] at h
    obtain ⟨⟨rfl, rfl⟩, rfl⟩ := h
    exact vt_of (vg_kj_ok e he).1 (vg_kj_ok e he).2
  case getfield i => exact vm_lk_f h
  case putfield i => exact vm_lk_f h
  case new i => exact vm_lk_n h
  case anewarray i =>
    simp only [vm_lkB, Bool.and_eq_true, beq_iff_eq] at h
    exact (vm_lk_n h.2).2
  case checkcast i =>
    obtain ⟨e, he, h⟩ := List.any_eq_true.mp h
    simp only [Bool.and_eq_true, beq_iff_eq] at h
    obtain ⟨rfl, rfl⟩ := h
    exact vt_of (vg_kx_ok e he).1 (vg_kx_ok e he).2
  case invokespecial i => exact vm_lk_m h
  case invokestatic i => exact vm_lk_m h
  case invokevirtual i => exact vm_lk_m h
