/-! a step of the small machine is a step of the machine (by program: wip/gen_step.py) -/
def vm_isr (ins : Instr) (v : Option Value) : Prop := match ins, v with
  | .ireturn, some (.int _) => True
  | .lreturn, some (.long _) => True
  | .areturn, some (.ref _) => True
  | .areturn, some .null => True
  | .return_, none => True
  | _, _ => False
theorem vg_O_C : ∀ i, i < 12 → vg_O i = vg_C i := by decide +kernel
theorem vg_y_nf : ∀ i, i < 12 → ∀ k, k < vg_N i → vg_y i k ≠ .float ∧ vg_y i k ≠ .double := by decide +kernel
theorem vm_fs_set {f f' : Nat → Value} {N b : Nat} {x : Value} (h1 : f' b = x) (h2 : ∀ k, k ≠ b → f' k = f k) : ((List.range N).map f).set b x = (List.range N).map f' := by
  refine List.ext_getElem? (fun i => ?_)
  by_cases hi : i < N
  · by_cases hq : i = b
    · subst hq
      rw [List.getElem?_set_self (by simpa using hi), List.getElem?_map, List.getElem?_range hi, ← h1]
      rfl
    · rw [List.getElem?_set_ne (Ne.symm hq), List.getElem?_map, List.getElem?_map, List.getElem?_range hi]
      show some (f i) = some (f' i)
      rw [h2 i hq]
  · rw [List.getElem?_eq_none (by simp; omega), List.getElem?_eq_none (by simp; omega)]
theorem vm_e_obj {g : Nat → Nat} {cA : Nat → ClassId} {M : vm_M} {q a : Nat} (h : vm_sh M q = .inl a) : vm_e g cA M q = .inr (a, (List.range (vg_N a)).map (fun k => vm_tr g (vm_gv M q (vg_y a k) k))) := by
  unfold vm_e
  rw [h]
theorem vm_e_arr {g : Nat → Nat} {cA : Nat → ClassId} {M : vm_M} {q t n : Nat} (h : vm_sh M q = .inr (t, n)) : vm_e g cA M q = .inl (cA t, n, vm_ct g M q t) := by
  unfold vm_e
  rw [h]
theorem vm_kd0 {M : vm_M} {q k : Nat} {ty : FieldType} (h : vm_kd ty = 0) : vm_gv M q ty k = .int (vm_i M q k) := by unfold vm_gv; rw [h]; rfl
theorem vm_kd1 {M : vm_M} {q k : Nat} {ty : FieldType} (h : vm_kd ty = 1) : vm_gv M q ty k = .long (vm_l M q k) := by unfold vm_gv; rw [h]; rfl
theorem vm_kd2 {M : vm_M} {q k : Nat} {ty : FieldType} (h : vm_kd ty = 2) : vm_gv M q ty k = va_rf (vm_rr M q k) := by unfold vm_gv; rw [h]; rfl
theorem vm_gv_row {M M' : vm_M} {q k : Nat} {ty : FieldType} (h2 : vm_i M' q k = vm_i M q k) (h3 : vm_l M' q k = vm_l M q k) (h4 : vm_rr M' q k = vm_rr M q k) : vm_gv M' q ty k = vm_gv M q ty k := by
  unfold vm_gv
  rw [h2, h3, h4]
theorem vm_pv_w {g : Nat → Nat} {cA : Nat → ClassId} {M M' : vm_M} {q a b : Nat} {x : Value} (hs : vm_sh M q = .inl a) (h : vm_pv M q (vg_y a b) b x M') :
    (vm_w g cA M).set q (g q, .inr (a, ((List.range (vg_N a)).map (fun k => vm_tr g (vm_gv M q (vg_y a k) k))).set b (vm_tr g x))) = vm_w g cA M' ∧ vm_n M' = vm_n M ∧ vm_s M' = vm_s M ∧ (narrow (vg_y a b) (vm_tr g x) = vm_tr g x ∧ fits (vg_y a b) (vm_tr g x) = true) := by
  cases x <;> simp only [vm_pv] at h
  case int x =>
    obtain ⟨h0, h1, h2, rfl⟩ := h
    refine ⟨vm_w_set rfl ?_ (fun a ha => vm_e_row rfl (vm_pi_ne ha) rfl rfl), rfl, rfl, h1, h2⟩
    rw [vm_e_obj (M := vm_pi M q b x) (a := a) hs]
    congr 2
    refine (vm_fs_set ?_ (fun k hk => ?_)).symm
    · rw [vm_kd0 h0]
      show Value.int (if q = q ∧ b = b then x else _) = _
      rw [if_pos ⟨rfl, rfl⟩]
      rfl
    · rw [vm_gv_row (M := M) (M' := vm_pi M q b x) (by show (if q = q ∧ k = b then x else _) = _; rw [if_neg (fun z => hk z.2)]; rfl) rfl rfl]
  case long x =>
    obtain ⟨h0, rfl⟩ := h
    refine ⟨vm_w_set rfl ?_ (fun a ha => vm_e_row rfl rfl (vm_pl_ne ha) rfl), rfl, rfl, ?_⟩
    · rw [vm_e_obj (M := vm_pl M q b x) (a := a) hs]
      congr 2
      refine (vm_fs_set ?_ (fun k hk => ?_)).symm
      · rw [vm_kd1 h0]
        show Value.long (if q = q ∧ b = b then x else _) = _
        rw [if_pos ⟨rfl, rfl⟩]
        rfl
      · rw [vm_gv_row (M := M) (M' := vm_pl M q b x) rfl (by show (if q = q ∧ k = b then x else _) = _; rw [if_neg (fun z => hk z.2)]; rfl) rfl]
    · generalize vg_y a b = ty at h0
      cases ty <;> simp_all [vm_kd, vm_tr, narrow, fits]
  case ref x =>
    obtain ⟨h0, rfl⟩ := h
    refine ⟨vm_w_set rfl ?_ (fun a ha => vm_e_row rfl rfl rfl (vm_pr_ne ha)), rfl, rfl, ?_⟩
    · rw [vm_e_obj (M := vm_pr M q b (some x)) (a := a) hs]
      congr 2
      refine (vm_fs_set ?_ (fun k hk => ?_)).symm
      · rw [vm_kd2 h0]
        show vm_tr g (va_rf (if q = q ∧ b = b then some x else _)) = _
        rw [if_pos ⟨rfl, rfl⟩]
        rfl
      · rw [vm_gv_row (M := M) (M' := vm_pr M q b (some x)) rfl rfl (by show (if q = q ∧ k = b then some x else _) = _; rw [if_neg (fun z => hk z.2)]; rfl)]
    · generalize vg_y a b = ty at h0
      cases ty <;> simp_all [vm_kd, vm_tr, narrow, fits]
  case null =>
    obtain ⟨h0, rfl⟩ := h
    refine ⟨vm_w_set rfl ?_ (fun a ha => vm_e_row rfl rfl rfl (vm_pr_ne ha)), rfl, rfl, ?_⟩
    · rw [vm_e_obj (M := vm_pr M q b none) (a := a) hs]
      congr 2
      refine (vm_fs_set ?_ (fun k hk => ?_)).symm
      · rw [vm_kd2 h0]
        show vm_tr g (va_rf (if q = q ∧ b = b then none else _)) = _
        rw [if_pos ⟨rfl, rfl⟩]
        rfl
      · rw [vm_gv_row (M := M) (M' := vm_pr M q b none) rfl rfl (by show (if q = q ∧ k = b then none else _) = _; rw [if_neg (fun z => hk z.2)]; rfl)]
    · generalize vg_y a b = ty at h0
      cases ty <;> simp_all [vm_kd, vm_tr, narrow, fits]
theorem vm_ra_eq {s : State} {cX cY : ClassId} {t : Nat} (ht : t < 4) (h1 : va_RA s cX (vm_at t)) (h2 : va_RA s cY (vm_at t)) : cX = cY := by
  rcases (by omega : t = 0 ∨ t = 1 ∨ t = 2 ∨ t = 3) with rfl | rfl | rfl | rfl <;>
  · simp only [vm_at, va_RA] at h1 h2
    rw [h1] at h2
    exact Option.some.inj h2
theorem vm_ct0 {g : Nat → Nat} {M : vm_M} {q : Nat} {f : Nat → Int32} (h : vm_i M q = f) : vm_ct g M q 0 = .inl f := by rw [← h]; rfl
theorem vm_ct1 {g : Nat → Nat} {M : vm_M} {q : Nat} {f : Nat → Int64} (h : vm_l M q = f) : vm_ct g M q 1 = .inr (.inl f) := by rw [← h]; rfl
theorem vm_ct2 {g : Nat → Nat} {M : vm_M} {q : Nat} {f : Nat → Int32} (h : vm_i M q = f) : vm_ct g M q 2 = .inl f := by rw [← h]; rfl
theorem vm_ct3 {g : Nat → Nat} {M : vm_M} {q : Nat} {f : Nat → Int32} (h : vm_i M q = f) : vm_ct g M q 3 = .inl f := by rw [← h]; rfl
theorem vm_ct4 {g : Nat → Nat} {M : vm_M} {q : Nat} {f : Nat → Option Nat} (h : (fun k => (vm_rr M q k).map g) = f) : vm_ct g M q 4 = .inr (.inr (.inr (.inr f))) := by rw [← h]; rfl
theorem vm_ar {a b c : Nat} (h : c ≤ a) (h2 : a ≤ b) : a - c + (b - a) = b - c := by omega
theorem vm_ar2 {x d k : Nat} (h : x ≤ 40) (h2 : 100 * (d + 9) ≤ k) : 8 + (x + 11) + 100 * (d + 8) ≤ k := by
  have e : 100 * (d + 9) = 100 * (d + 8) + 100 := Nat.mul_succ 100 (d + 8)
  rw [e] at h2
  generalize 100 * (d + 8) = z at h2 ⊢
  omega
theorem vm_ar4 {d k : Nat} (h2 : 100 * (d + 9) ≤ k) : 900 ≤ k := Nat.le_trans (show 100 * 9 ≤ 100 * (d + 9) from Nat.mul_le_mul_left 100 (Nat.le_add_left 9 d)) h2
theorem vm_ar3 {x y n n0 b : Nat} (hz : x ≤ y + (n - n0)) (h : y = b + n0) (hn : n0 ≤ n) : x ≤ b + n := by omega
theorem vm_r2 : ∀ i, i < 203 → vm_k i = 2 → vm_r i = none := by decide +kernel
theorem vm_map_args (g : Nat → Nat) (as : List Value) (st : List Value) : (as.reverse ++ st).map (vm_tr g) = (as.map (vm_tr g)).reverse ++ st.map (vm_tr g) := by simp
theorem vm_rv (g : Nat → Nat) (rv : Option Value) (st : List Value) : (rv.map (vm_tr g)).toList ++ st.map (vm_tr g) = (rv.toList ++ st).map (vm_tr g) := by cases rv <;> rfl
theorem vm_new_fs {g : Nat → Nat} {M : vm_M} {a w : Nat} (ha : a < 12) : ∀ j, j < vg_N a → defaultValue (vg_y a j) = vp_V ((List.range (vg_N a)).map (fun k => vm_tr g (vm_gv (vm_mk M (.inl a) w (fun _ => 0)) (vm_n M) (vg_y a k) k))) j := by
  intro j hj
  unfold vp_V
  rw [List.getD_eq_getElem?_getD, List.getElem?_map, List.getElem?_range hj]
  show _ = vm_tr g (vm_gv _ _ _ _)
  have hf := vg_y_nf a ha j hj
  unfold vm_gv
  rw [vm_mk_i, vm_mk_l, vm_mk_r]
  generalize vg_y a j = ty at hf
  cases ty <;> first | rfl | exact absurd rfl hf.1 | exact absurd rfl hf.2
