/-! shallow functions, by program (wip/gen_fun.py) -/
/-- PupilCoin$Sums.forget()V -/
def f58 (x0 : Nat) (M : vm_M) : Option (vm_M) :=
  (sp_i M x0 9 15 0).bind fun M1 =>
  some M1
theorem f58_ok {x0 : Nat} {M : vm_M} {r : vm_M} (h : f58 x0 M = some r) (d : Nat) : vm_Cl (d + 1) 58 [.ref (x0)] M (rV r) := by
  have key : Ev 0 (fun _ => 0) (vm_Cl (d + 0)) vp_58 9 1 false none (rV r) 0 (lv_args 0 [.ref (x0)]) [] M := by
    have l0 : (0, .ref (x0)) ∈ lv_args 0 [.ref (x0)] := List.Mem.head _
    unfold f58 at h
    refine ev_aload_nR (mm 0 rfl) l0 ?_
    refine ev_iconst (mm 1 rfl) cI_0 ?_
    obtain ⟨M1, e2, h⟩ := bind_so h
    refine ev_put_i (mm 2 rfl) (fun z => by cases z) rfl e2 ?_
    exact ev_return (mm 3 rfl) h
  exact ⟨by decide, Nat.le_of_ble_eq_true rfl, key.1, key.2⟩
def f65_l6 (x0 : Nat) (x1 : Int32) (x2 : Int32) (x3 : Int32) (x4 : Int32) : Nat → Int64 → Int32 → vm_M → Option (Int64 × vm_M)
  | 0 => fun _ _ _ => none
  | n + 1 => fun x5 x7 M =>
    (sg_r M x0 9 0).bind fun v5 =>
    (v5).bind fun q7 =>
    (sg_i M q7 0 7).bind fun v9 =>
    if v9 ≤ x7 then
      some (x5, M)
    else
      (sg_r M x0 9 13).bind fun v12 =>
      (v12).bind fun q14 =>
      (sa_i M q14 0 x7).bind fun v16 =>
      if ¬ v16 = x1 then
        f65_l6 x0 x1 x2 x3 x4 n x5 (x7 + 1) M
      else
        (sg_r M x0 9 1).bind fun v21 =>
        (v21).bind fun q23 =>
        (s_ob M q23 2).bind fun _ =>
        (f12 q23 x7 x2 x3 x4 M).bind fun p25 =>
        f65_l6 x0 x1 x2 x3 x4 n (x5 + ((s_mxI 0 p25.1) : Int32).toInt64) (x7 + 1) p25.2
theorem f65_l6_ok {d : Nat} {x0 : Nat} {x1 : Int32} {x2 : Int32} {x3 : Int32} {x4 : Int32} {r : Int64 × vm_M} : ∀ (n : Nat) {x5 : Int64} {x7 : Int32} {M : vm_M} {lv : vm_L}, (0, .ref (x0)) ∈ lv → (1, .int (x1)) ∈ lv → (2, .int (x2)) ∈ lv → (3, .int (x3)) ∈ lv → (4, .int (x4)) ∈ lv → (5, .long (x5)) ∈ lv → (7, .int (x7)) ∈ lv → f65_l6 x0 x1 x2 x3 x4 n x5 x7 M = some r → Ev 0 (fun _ => 0) (vm_Cl (d + 1)) vp_65 9 8 false (some (.long)) (rJ r) 6 lv [] M := by
  intro n
  induction n with
  | zero =>
    intro x5 x7 M lv l0 l1 l2 l3 l4 l5 l7 h
    cases h
  | succ n ih =>
    intro x5 x7 M lv l0 l1 l2 l3 l4 l5 l7 h
    dsimp only [f65_l6] at h
    refine ev_iload (mm 4 rfl) l7 ?_
    refine ev_aload_nR (mm 5 rfl) l0 ?_
    obtain ⟨v5, e6, h⟩ := bind_so h
    refine ev_get_r (mm 6 rfl) rfl e6 ?_
    obtain ⟨q7, e8, h⟩ := bind_so h
    rw [e8]
    obtain ⟨v9, e10, h⟩ := bind_so h
    refine ev_get_i (mm 7 rfl) rfl e10 ?_
    rcases ite_so h with ⟨c11, h⟩ | ⟨c11, h⟩
    · refine ev_ic_t 58 (mm 8 rfl) rfl c11 ?_
      refine ev_lload (mm 30 rfl) l5 ?_
      exact ev_lreturn (mm 31 rfl) h
    · refine ev_ic_f 58 (mm 8 rfl) rfl c11 ?_
      refine ev_aload_nR (mm 9 rfl) l0 ?_
      obtain ⟨v12, e13, h⟩ := bind_so h
      refine ev_get_r (mm 10 rfl) rfl e13 ?_
      refine ev_iload (mm 11 rfl) l7 ?_
      obtain ⟨q14, e15, h⟩ := bind_so h
      rw [e15]
      obtain ⟨v16, e17, h⟩ := bind_so h
      refine ev_iaload (mm 12 rfl) e17 ?_
      refine ev_iload_n (mm 13 rfl) l1 ?_
      rcases ite_so h with ⟨c18, h⟩ | ⟨c18, h⟩
      · refine ev_ic_t 52 (mm 14 rfl) rfl c18 ?_
        refine evs_iinc (mm 28 rfl) cI_1 l7 (by decide) (fun lv19 l7 s20 => ?_)
        have l0 := s20 _ _ l0 rfl
        have l1 := s20 _ _ l1 rfl
        have l2 := s20 _ _ l2 rfl
        have l3 := s20 _ _ l3 rfl
        have l4 := s20 _ _ l4 rfl
        have l5 := s20 _ _ l5 rfl
        refine ev_goto 6 (mm 29 rfl) rfl ?_
        exact ih l0 l1 l2 l3 l4 l5 l7 h
      · refine ev_ic_f 52 (mm 14 rfl) rfl c18 ?_
        refine ev_lload (mm 15 rfl) l5 ?_
        refine ev_iconst (mm 16 rfl) cI_0 ?_
        refine ev_aload_nR (mm 17 rfl) l0 ?_
        obtain ⟨v21, e22, h⟩ := bind_so h
        refine ev_get_r (mm 18 rfl) rfl e22 ?_
        refine ev_iload (mm 19 rfl) l7 ?_
        refine ev_iload_n (mm 20 rfl) l2 ?_
        refine ev_iload_n (mm 21 rfl) l3 ?_
        refine ev_iload (mm 22 rfl) l4 ?_
        obtain ⟨q23, e24, h⟩ := bind_so h
        rw [e24]
        obtain ⟨_, e31, h⟩ := bind_so h
        obtain ⟨p25, e26, h⟩ := bind_so h
        refine ev_callV_I [.int (x7), .int (x2), .int (x3), .int (x4)] (mm 23 rfl) rfl rfl (Nat.le_of_ble_eq_true rfl) (s_ob_of e31) (f12_ok e26 (d + 0)) ?_
        refine ev_mxI (mm 24 rfl) (Nat.le_of_ble_eq_true rfl) ?_
        refine ev_i2l (mm 25 rfl) ?_
        refine ev_ladd (mm 26 rfl) ?_
        refine evs_lstore (mm 27 rfl) (by decide) (fun lv27 l5 s28 => ?_)
        have l0 := s28 _ _ l0 rfl
        have l1 := s28 _ _ l1 rfl
        have l2 := s28 _ _ l2 rfl
        have l3 := s28 _ _ l3 rfl
        have l4 := s28 _ _ l4 rfl
        have l7 := s28 _ _ l7 rfl
        refine evs_iinc (mm 28 rfl) cI_1 l7 (by decide) (fun lv29 l7 s30 => ?_)
        have l0 := s30 _ _ l0 rfl
        have l1 := s30 _ _ l1 rfl
        have l2 := s30 _ _ l2 rfl
        have l3 := s30 _ _ l3 rfl
        have l4 := s30 _ _ l4 rfl
        have l5 := s30 _ _ l5 rfl
        refine ev_goto 6 (mm 29 rfl) rfl ?_
        exact ih l0 l1 l2 l3 l4 l5 l7 h
/-- PupilCoin$Sums.together(IIII)J -/
def f65 (x0 : Nat) (x1 : Int32) (x2 : Int32) (x3 : Int32) (x4 : Int32) (M : vm_M) : Option (Int64 × vm_M) :=
  f65_l6 x0 x1 x2 x3 x4
  
    100000 0 0 M
theorem f65_ok {x0 : Nat} {x1 : Int32} {x2 : Int32} {x3 : Int32} {x4 : Int32} {M : vm_M} {r : Int64 × vm_M} (h : f65 x0 x1 x2 x3 x4 M = some r) (d : Nat) : vm_Cl (d + 2) 65 [.ref (x0), .int (x1), .int (x2), .int (x3), .int (x4)] M (rJ r) := by
  have key : Ev 0 (fun _ => 0) (vm_Cl (d + 1)) vp_65 9 8 false (some (.long)) (rJ r) 0 (lv_args 0 [.ref (x0), .int (x1), .int (x2), .int (x3), .int (x4)]) [] M := by
    have l0 : (0, .ref (x0)) ∈ lv_args 0 [.ref (x0), .int (x1), .int (x2), .int (x3), .int (x4)] := List.Mem.head _
    have l1 : (1, .int (x1)) ∈ lv_args 0 [.ref (x0), .int (x1), .int (x2), .int (x3), .int (x4)] := List.Mem.tail _ (List.Mem.head _)
    have l2 : (2, .int (x2)) ∈ lv_args 0 [.ref (x0), .int (x1), .int (x2), .int (x3), .int (x4)] := List.Mem.tail _ (List.Mem.tail _ (List.Mem.head _))
    have l3 : (3, .int (x3)) ∈ lv_args 0 [.ref (x0), .int (x1), .int (x2), .int (x3), .int (x4)] := List.Mem.tail _ (List.Mem.tail _ (List.Mem.tail _ (List.Mem.head _)))
    have l4 : (4, .int (x4)) ∈ lv_args 0 [.ref (x0), .int (x1), .int (x2), .int (x3), .int (x4)] := List.Mem.tail _ (List.Mem.tail _ (List.Mem.tail _ (List.Mem.tail _ (List.Mem.head _))))
    unfold f65 at h
    refine ev_lconst (mm 0 rfl) cL_0 ?_
    refine evs_lstore (mm 1 rfl) (by decide) (fun lv1 l5 s2 => ?_)
    have l0 := s2 _ _ l0 rfl
    have l1 := s2 _ _ l1 rfl
    have l2 := s2 _ _ l2 rfl
    have l3 := s2 _ _ l3 rfl
    have l4 := s2 _ _ l4 rfl
    refine ev_iconst (mm 2 rfl) cI_0 ?_
    refine evs_istore (mm 3 rfl) (by decide) (fun lv3 l7 s4 => ?_)
    have l0 := s4 _ _ l0 rfl
    have l1 := s4 _ _ l1 rfl
    have l2 := s4 _ _ l2 rfl
    have l3 := s4 _ _ l3 rfl
    have l4 := s4 _ _ l4 rfl
    have l5 := s4 _ _ l5 rfl
    refine f65_l6_ok 100000 l0 l1 l2 l3 l4 l5 l7 h
  exact ⟨by decide, Nat.le_of_ble_eq_true rfl, key.1, key.2⟩
def f66_l18 (x0 : Nat) (x1 : Int32) (x2 : Int32) : Nat → Int64 → Int32 → vm_M → Option (Int64 × vm_M)
  | 0 => fun _ _ _ => none
  | n + 1 => fun x3 x5 M =>
    (sg_r M x0 9 0).bind fun v7 =>
    (v7).bind fun q9 =>
    (sg_i M q9 0 7).bind fun v11 =>
    if v11 ≤ x5 then
      some (x3, M)
    else
      (sg_r M x0 9 13).bind fun v14 =>
      (v14).bind fun q16 =>
      (sa_i M q16 0 x5).bind fun v18 =>
      if ¬ v18 = x1 then
        f66_l18 x0 x1 x2 n x3 (x5 + 1) M
      else
        (sg_r M x0 9 14).bind fun v23 =>
        (v23).bind fun q25 =>
        (sa_l M q25 (((x2 - 1) * 12) + x5)).bind fun v27 =>
        f66_l18 x0 x1 x2 n (x3 + v27) (x5 + 1) M
theorem f66_l18_ok {d : Nat} {x0 : Nat} {x1 : Int32} {x2 : Int32} {r : Int64 × vm_M} : ∀ (n : Nat) {x3 : Int64} {x5 : Int32} {M : vm_M} {lv : vm_L}, (0, .ref (x0)) ∈ lv → (1, .int (x1)) ∈ lv → (2, .int (x2)) ∈ lv → (3, .long (x3)) ∈ lv → (5, .int (x5)) ∈ lv → f66_l18 x0 x1 x2 n x3 x5 M = some r → Ev 0 (fun _ => 0) (vm_Cl (d + 0)) vp_66 9 6 false (some (.long)) (rJ r) 18 lv [] M := by
  intro n
  induction n with
  | zero =>
    intro x3 x5 M lv l0 l1 l2 l3 l5 h
    cases h
  | succ n ih =>
    intro x3 x5 M lv l0 l1 l2 l3 l5 h
    dsimp only [f66_l18] at h
    refine ev_iload (mm 12 rfl) l5 ?_
    refine ev_aload_nR (mm 13 rfl) l0 ?_
    obtain ⟨v7, e8, h⟩ := bind_so h
    refine ev_get_r (mm 14 rfl) rfl e8 ?_
    obtain ⟨q9, e10, h⟩ := bind_so h
    rw [e10]
    obtain ⟨v11, e12, h⟩ := bind_so h
    refine ev_get_i (mm 15 rfl) rfl e12 ?_
    rcases ite_so h with ⟨c13, h⟩ | ⟨c13, h⟩
    · refine ev_ic_t 64 (mm 16 rfl) rfl c13 ?_
      refine ev_lload_n (mm 38 rfl) l3 ?_
      exact ev_lreturn (mm 39 rfl) h
    · refine ev_ic_f 64 (mm 16 rfl) rfl c13 ?_
      refine ev_aload_nR (mm 17 rfl) l0 ?_
      obtain ⟨v14, e15, h⟩ := bind_so h
      refine ev_get_r (mm 18 rfl) rfl e15 ?_
      refine ev_iload (mm 19 rfl) l5 ?_
      obtain ⟨q16, e17, h⟩ := bind_so h
      rw [e17]
      obtain ⟨v18, e19, h⟩ := bind_so h
      refine ev_iaload (mm 20 rfl) e19 ?_
      refine ev_iload_n (mm 21 rfl) l1 ?_
      rcases ite_so h with ⟨c20, h⟩ | ⟨c20, h⟩
      · refine ev_ic_t 58 (mm 22 rfl) rfl c20 ?_
        refine evs_iinc (mm 36 rfl) cI_1 l5 (by decide) (fun lv21 l5 s22 => ?_)
        have l0 := s22 _ _ l0 rfl
        have l1 := s22 _ _ l1 rfl
        have l2 := s22 _ _ l2 rfl
        have l3 := s22 _ _ l3 rfl
        refine ev_goto 18 (mm 37 rfl) rfl ?_
        exact ih l0 l1 l2 l3 l5 h
      · refine ev_ic_f 58 (mm 22 rfl) rfl c20 ?_
        refine ev_lload_n (mm 23 rfl) l3 ?_
        refine ev_aload_nR (mm 24 rfl) l0 ?_
        obtain ⟨v23, e24, h⟩ := bind_so h
        refine ev_get_r (mm 25 rfl) rfl e24 ?_
        refine ev_iload_n (mm 26 rfl) l2 ?_
        refine ev_iconst (mm 27 rfl) cI_1 ?_
        refine ev_isub (mm 28 rfl) ?_
        refine ev_bipush (mm 29 rfl) cB_12 ?_
        refine ev_imul (mm 30 rfl) ?_
        refine ev_iload (mm 31 rfl) l5 ?_
        refine ev_iadd (mm 32 rfl) ?_
        obtain ⟨q25, e26, h⟩ := bind_so h
        rw [e26]
        obtain ⟨v27, e28, h⟩ := bind_so h
        refine ev_laload (mm 33 rfl) e28 ?_
        refine ev_ladd (mm 34 rfl) ?_
        refine evs_lstore_n (mm 35 rfl) (by decide) (fun lv29 l3 s30 => ?_)
        have l0 := s30 _ _ l0 rfl
        have l1 := s30 _ _ l1 rfl
        have l2 := s30 _ _ l2 rfl
        have l5 := s30 _ _ l5 rfl
        refine evs_iinc (mm 36 rfl) cI_1 l5 (by decide) (fun lv31 l5 s32 => ?_)
        have l0 := s32 _ _ l0 rfl
        have l1 := s32 _ _ l1 rfl
        have l2 := s32 _ _ l2 rfl
        have l3 := s32 _ _ l3 rfl
        refine ev_goto 18 (mm 37 rfl) rfl ?_
        exact ih l0 l1 l2 l3 l5 h
/-- PupilCoin$Sums.lastOf(II)J -/
def f66 (x0 : Nat) (x1 : Int32) (x2 : Int32) (M : vm_M) : Option (Int64 × vm_M) :=
  if x2 < 1 then
    some (0, M)
  else
    if x2 ≤ 10 then
      f66_l18 x0 x1 x2
      
        100000 0 0 M
    else
      some (0, M)
theorem f66_ok {x0 : Nat} {x1 : Int32} {x2 : Int32} {M : vm_M} {r : Int64 × vm_M} (h : f66 x0 x1 x2 M = some r) (d : Nat) : vm_Cl (d + 1) 66 [.ref (x0), .int (x1), .int (x2)] M (rJ r) := by
  have key : Ev 0 (fun _ => 0) (vm_Cl (d + 0)) vp_66 9 6 false (some (.long)) (rJ r) 0 (lv_args 0 [.ref (x0), .int (x1), .int (x2)]) [] M := by
    have l0 : (0, .ref (x0)) ∈ lv_args 0 [.ref (x0), .int (x1), .int (x2)] := List.Mem.head _
    have l1 : (1, .int (x1)) ∈ lv_args 0 [.ref (x0), .int (x1), .int (x2)] := List.Mem.tail _ (List.Mem.head _)
    have l2 : (2, .int (x2)) ∈ lv_args 0 [.ref (x0), .int (x1), .int (x2)] := List.Mem.tail _ (List.Mem.tail _ (List.Mem.head _))
    unfold f66 at h
    refine ev_iload_n (mm 0 rfl) l2 ?_
    refine ev_iconst (mm 1 rfl) cI_1 ?_
    rcases ite_so h with ⟨c1, h⟩ | ⟨c1, h⟩
    · refine ev_ic_t 11 (mm 2 rfl) rfl c1 ?_
      refine ev_lconst (mm 6 rfl) cL_0 ?_
      exact ev_lreturn (mm 7 rfl) h
    · refine ev_ic_f 11 (mm 2 rfl) rfl c1 ?_
      refine ev_iload_n (mm 3 rfl) l2 ?_
      refine ev_bipush (mm 4 rfl) cB_10 ?_
      rcases ite_so h with ⟨c2, h⟩ | ⟨c2, h⟩
      · refine ev_ic_t 13 (mm 5 rfl) rfl c2 ?_
        refine ev_lconst (mm 8 rfl) cL_0 ?_
        refine evs_lstore_n (mm 9 rfl) (by decide) (fun lv3 l3 s4 => ?_)
        have l0 := s4 _ _ l0 rfl
        have l1 := s4 _ _ l1 rfl
        have l2 := s4 _ _ l2 rfl
        refine ev_iconst (mm 10 rfl) cI_0 ?_
        refine evs_istore (mm 11 rfl) (by decide) (fun lv5 l5 s6 => ?_)
        have l0 := s6 _ _ l0 rfl
        have l1 := s6 _ _ l1 rfl
        have l2 := s6 _ _ l2 rfl
        have l3 := s6 _ _ l3 rfl
        refine f66_l18_ok 100000 l0 l1 l2 l3 l5 h
      · refine ev_ic_f 13 (mm 5 rfl) rfl c2 ?_
        refine ev_lconst (mm 6 rfl) cL_0 ?_
        exact ev_lreturn (mm 7 rfl) h
  exact ⟨by decide, Nat.le_of_ble_eq_true rfl, key.1, key.2⟩
def f64_j53 (k84 : vm_M → Option (vm_M)) (k12 : Int32 → vm_M → Option (vm_M)) (x0 : Nat) (x1 : Int32) (x2 : Int32) (x3 : Int32) (x4 : Int32) (x5 : Int32) (x6 : Int64) (M : vm_M) : Option (vm_M) :=
  (sg_r M x0 9 3).bind fun v13 =>
  (v13).bind fun q15 =>
  (sg_r M q15 3 0).bind fun v17 =>
  if 3 ≤ x5 then
    (v17).bind fun q20 =>
    (ss_l M q20 (x5 + 1) x6).bind fun M22 =>
    k12 (x5 + 1) M22
  else
    (v17).bind fun q26 =>
    (ss_l M q26 x5 x6).bind fun M28 =>
    k12 (x5 + 1) M28
theorem f64_j53_ok {d : Nat} {x0 : Nat} {x1 : Int32} {x2 : Int32} {x3 : Int32} {x4 : Int32} {x5 : Int32} {x6 : Int64} {M : vm_M} {k84 : vm_M → Option (vm_M)} {k12 : Int32 → vm_M → Option (vm_M)} {r : vm_M} (hk84 : ∀ {M : vm_M} {lv : vm_L}, (0, .ref (x0)) ∈ lv → (1, .int (x1)) ∈ lv → (2, .int (x2)) ∈ lv → k84 M = some r → Ev 0 (fun _ => 0) (vm_Cl (d + 2)) vp_64 9 8 false none (rV r) 84 lv [] M) (hk12 : ∀ {y5 : Int32} {M : vm_M} {lv : vm_L}, (0, .ref (x0)) ∈ lv → (1, .int (x1)) ∈ lv → (2, .int (x2)) ∈ lv → (3, .int (x3)) ∈ lv → (4, .int (x4)) ∈ lv → (5, .int (y5)) ∈ lv → k12 y5 M = some r → Ev 0 (fun _ => 0) (vm_Cl (d + 2)) vp_64 9 8 false none (rV r) 12 lv [] M) {lv : vm_L} (l0 : (0, .ref (x0)) ∈ lv) (l1 : (1, .int (x1)) ∈ lv) (l2 : (2, .int (x2)) ∈ lv) (l3 : (3, .int (x3)) ∈ lv) (l4 : (4, .int (x4)) ∈ lv) (l5 : (5, .int (x5)) ∈ lv) (l6 : (6, .long (x6)) ∈ lv) (h : f64_j53 k84 k12 x0 x1 x2 x3 x4 x5 x6 M = some r) : Ev 0 (fun _ => 0) (vm_Cl (d + 2)) vp_64 9 8 false none (rV r) 53 lv [] M := by
  unfold f64_j53 at h
  refine ev_aload_nR (mm 30 rfl) l0 ?_
  obtain ⟨v13, e14, h⟩ := bind_so h
  refine ev_get_r (mm 31 rfl) rfl e14 ?_
  obtain ⟨q15, e16, h⟩ := bind_so h
  rw [e16]
  obtain ⟨v17, e18, h⟩ := bind_so h
  refine ev_get_r (mm 32 rfl) rfl e18 ?_
  refine ev_iload (mm 33 rfl) l5 ?_
  refine ev_iconst (mm 34 rfl) cI_3 ?_
  rcases ite_so h with ⟨c19, h⟩ | ⟨c19, h⟩
  · refine ev_ic_t 71 (mm 35 rfl) rfl c19 ?_
    refine ev_iload (mm 38 rfl) l5 ?_
    refine ev_iconst (mm 39 rfl) cI_1 ?_
    refine ev_iadd (mm 40 rfl) ?_
    refine ev_lload (mm 41 rfl) l6 ?_
    obtain ⟨q20, e21, h⟩ := bind_so h
    rw [e21]
    obtain ⟨M22, e23, h⟩ := bind_so h
    refine ev_lastore (mm 42 rfl) e23 ?_
    refine evs_iinc (mm 43 rfl) cI_1 l5 (by decide) (fun lv24 l5 s25 => ?_)
    have l0 := s25 _ _ l0 rfl
    have l1 := s25 _ _ l1 rfl
    have l2 := s25 _ _ l2 rfl
    have l3 := s25 _ _ l3 rfl
    have l4 := s25 _ _ l4 rfl
    refine ev_goto 12 (mm 44 rfl) rfl ?_
    exact hk12 l0 l1 l2 l3 l4 l5 h
  · refine ev_ic_f 71 (mm 35 rfl) rfl c19 ?_
    refine ev_iload (mm 36 rfl) l5 ?_
    refine ev_goto 75 (mm 37 rfl) rfl ?_
    refine ev_lload (mm 41 rfl) l6 ?_
    obtain ⟨q26, e27, h⟩ := bind_so h
    rw [e27]
    obtain ⟨M28, e29, h⟩ := bind_so h
    refine ev_lastore (mm 42 rfl) e29 ?_
    refine evs_iinc (mm 43 rfl) cI_1 l5 (by decide) (fun lv30 l5 s31 => ?_)
    have l0 := s31 _ _ l0 rfl
    have l1 := s31 _ _ l1 rfl
    have l2 := s31 _ _ l2 rfl
    have l3 := s31 _ _ l3 rfl
    have l4 := s31 _ _ l4 rfl
    refine ev_goto 12 (mm 44 rfl) rfl ?_
    exact hk12 l0 l1 l2 l3 l4 l5 h
def f64_l12 (x0 : Nat) (x1 : Int32) (x2 : Int32) (x3 : Int32) (x4 : Int32) (k84 : vm_M → Option (vm_M)) : Nat → Int32 → vm_M → Option (vm_M)
  | 0 => fun _ _ => none
  | n + 1 => fun x5 M =>
    if 5 ≤ x5 then
      k84 M
    else
      (s_ob M x0 9).bind fun _ =>
      (f65 x0 x1 x4 x5 x3 M).bind fun p6 =>
      (sg_i p6.2 x0 9 17).bind fun v10 =>
      if ¬ x1 = v10 then
        f64_j53 k84 (f64_l12 x0 x1 x2 x3 x4 k84 n) x0 x1 x2 x3 x4 x5 p6.1 p6.2
      else
        (sg_i p6.2 x0 9 18).bind fun v32 =>
        if ¬ x5 = v32 then
          f64_j53 k84 (f64_l12 x0 x1 x2 x3 x4 k84 n) x0 x1 x2 x3 x4 x5 p6.1 p6.2
        else
          f64_j53 k84 (f64_l12 x0 x1 x2 x3 x4 k84 n) x0 x1 x2 x3 x4 x5 (p6.1 + 1) p6.2
theorem f64_l12_ok {d : Nat} {x0 : Nat} {x1 : Int32} {x2 : Int32} {x3 : Int32} {x4 : Int32} {k84 : vm_M → Option (vm_M)} {r : vm_M} (hk84 : ∀ {M : vm_M} {lv : vm_L}, (0, .ref (x0)) ∈ lv → (1, .int (x1)) ∈ lv → (2, .int (x2)) ∈ lv → k84 M = some r → Ev 0 (fun _ => 0) (vm_Cl (d + 2)) vp_64 9 8 false none (rV r) 84 lv [] M) : ∀ (n : Nat) {x5 : Int32} {M : vm_M} {lv : vm_L}, (0, .ref (x0)) ∈ lv → (1, .int (x1)) ∈ lv → (2, .int (x2)) ∈ lv → (3, .int (x3)) ∈ lv → (4, .int (x4)) ∈ lv → (5, .int (x5)) ∈ lv → f64_l12 x0 x1 x2 x3 x4 k84 n x5 M = some r → Ev 0 (fun _ => 0) (vm_Cl (d + 2)) vp_64 9 8 false none (rV r) 12 lv [] M := by
  intro n
  induction n with
  | zero =>
    intro x5 M lv l0 l1 l2 l3 l4 l5 h
    cases h
  | succ n ih =>
    intro x5 M lv l0 l1 l2 l3 l4 l5 h
    dsimp only [f64_l12] at h
    refine ev_iload (mm 8 rfl) l5 ?_
    refine ev_iconst (mm 9 rfl) cI_5 ?_
    rcases ite_so h with ⟨c5, h⟩ | ⟨c5, h⟩
    · refine ev_ic_t 84 (mm 10 rfl) rfl c5 ?_
      exact hk84 l0 l1 l2 h
    · refine ev_ic_f 84 (mm 10 rfl) rfl c5 ?_
      refine ev_aload_nR (mm 11 rfl) l0 ?_
      refine ev_iload_n (mm 12 rfl) l1 ?_
      refine ev_iload (mm 13 rfl) l4 ?_
      refine ev_iload (mm 14 rfl) l5 ?_
      refine ev_iload_n (mm 15 rfl) l3 ?_
      obtain ⟨_, e37, h⟩ := bind_so h
      obtain ⟨p6, e7, h⟩ := bind_so h
      refine ev_callV_J [.int (x1), .int (x4), .int (x5), .int (x3)] (mm 16 rfl) rfl rfl (Nat.le_of_ble_eq_true rfl) (s_ob_of e37) (f65_ok e7 (d + 0)) ?_
      refine evs_lstore (mm 17 rfl) (by decide) (fun lv8 l6 s9 => ?_)
      have l0 := s9 _ _ l0 rfl
      have l1 := s9 _ _ l1 rfl
      have l2 := s9 _ _ l2 rfl
      have l3 := s9 _ _ l3 rfl
      have l4 := s9 _ _ l4 rfl
      have l5 := s9 _ _ l5 rfl
      refine ev_iload_n (mm 18 rfl) l1 ?_
      refine ev_aload_nR (mm 19 rfl) l0 ?_
      obtain ⟨v10, e11, h⟩ := bind_so h
      refine ev_get_i (mm 20 rfl) rfl e11 ?_
      rcases ite_so h with ⟨c12, h⟩ | ⟨c12, h⟩
      · refine ev_ic_t 53 (mm 21 rfl) rfl c12 ?_
        exact f64_j53_ok hk84 ih l0 l1 l2 l3 l4 l5 l6 h
      · refine ev_ic_f 53 (mm 21 rfl) rfl c12 ?_
        refine ev_iload (mm 22 rfl) l5 ?_
        refine ev_aload_nR (mm 23 rfl) l0 ?_
        obtain ⟨v32, e33, h⟩ := bind_so h
        refine ev_get_i (mm 24 rfl) rfl e33 ?_
        rcases ite_so h with ⟨c34, h⟩ | ⟨c34, h⟩
        · refine ev_ic_t 53 (mm 25 rfl) rfl c34 ?_
          exact f64_j53_ok hk84 ih l0 l1 l2 l3 l4 l5 l6 h
        · refine ev_ic_f 53 (mm 25 rfl) rfl c34 ?_
          refine ev_lload (mm 26 rfl) l6 ?_
          refine ev_lconst (mm 27 rfl) cL_1 ?_
          refine ev_ladd (mm 28 rfl) ?_
          refine evs_lstore (mm 29 rfl) (by decide) (fun lv35 l6 s36 => ?_)
          have l0 := s36 _ _ l0 rfl
          have l1 := s36 _ _ l1 rfl
          have l2 := s36 _ _ l2 rfl
          have l3 := s36 _ _ l3 rfl
          have l4 := s36 _ _ l4 rfl
          have l5 := s36 _ _ l5 rfl
          exact f64_j53_ok hk84 ih l0 l1 l2 l3 l4 l5 l6 h
def f64_l238 (x0 : Nat) (x1 : Int32) (x2 : Int32) : Nat → Int32 → vm_M → Option (vm_M)
  | 0 => fun _ _ => none
  | n + 1 => fun x5 M =>
    if 3 ≤ x5 then
      some M
    else
      if x2 ≤ 0 then
        some M
      else
        (sg_l M x0 9 16).bind fun v175 =>
        (s_ob M x0 9).bind fun _ =>
        (f65 x0 x1 (s_mxI 0 (x2 - 2)) x5 (x2 * 100) M).bind fun p177 =>
        (sp_l p177.2 x0 9 16 (v175 + p177.1)).bind fun M179 =>
        f64_l238 x0 x1 x2 n (x5 + 1) M179
theorem f64_l238_ok {d : Nat} {x0 : Nat} {x1 : Int32} {x2 : Int32} {r : vm_M} : ∀ (n : Nat) {x5 : Int32} {M : vm_M} {lv : vm_L}, (0, .ref (x0)) ∈ lv → (1, .int (x1)) ∈ lv → (2, .int (x2)) ∈ lv → (5, .int (x5)) ∈ lv → f64_l238 x0 x1 x2 n x5 M = some r → Ev 0 (fun _ => 0) (vm_Cl (d + 2)) vp_64 9 8 false none (rV r) 238 lv [] M := by
  intro n
  induction n with
  | zero =>
    intro x5 M lv l0 l1 l2 l5 h
    cases h
  | succ n ih =>
    intro x5 M lv l0 l1 l2 l5 h
    dsimp only [f64_l238] at h
    refine ev_iload (mm 130 rfl) l5 ?_
    refine ev_iconst (mm 131 rfl) cI_3 ?_
    rcases ite_so h with ⟨c173, h⟩ | ⟨c173, h⟩
    · refine ev_ic_t 281 (mm 132 rfl) rfl c173 ?_
      exact ev_return (mm 154 rfl) h
    · refine ev_ic_f 281 (mm 132 rfl) rfl c173 ?_
      refine ev_iload_n (mm 133 rfl) l2 ?_
      rcases ite_so h with ⟨c174, h⟩ | ⟨c174, h⟩
      · refine ev_if_t 281 (mm 134 rfl) rfl c174 ?_
        exact ev_return (mm 154 rfl) h
      · refine ev_if_f 281 (mm 134 rfl) rfl c174 ?_
        refine ev_aload_nR (mm 135 rfl) l0 ?_
        refine ev_dupR (mm 136 rfl) ?_
        obtain ⟨v175, e176, h⟩ := bind_so h
        refine ev_get_l (mm 137 rfl) rfl e176 ?_
        refine ev_aload_nR (mm 138 rfl) l0 ?_
        refine ev_iload_n (mm 139 rfl) l1 ?_
        refine ev_iconst (mm 140 rfl) cI_0 ?_
        refine ev_iload_n (mm 141 rfl) l2 ?_
        refine ev_iconst (mm 142 rfl) cI_2 ?_
        refine ev_isub (mm 143 rfl) ?_
        refine ev_mxI (mm 144 rfl) (Nat.le_of_ble_eq_true rfl) ?_
        refine ev_iload (mm 145 rfl) l5 ?_
        refine ev_iload_n (mm 146 rfl) l2 ?_
        refine ev_bipush (mm 147 rfl) cB_100 ?_
        refine ev_imul (mm 148 rfl) ?_
        obtain ⟨_, e183, h⟩ := bind_so h
        obtain ⟨p177, e178, h⟩ := bind_so h
        refine ev_callV_J [.int (x1), .int ((s_mxI 0 (x2 - 2))), .int (x5), .int ((x2 * 100))] (mm 149 rfl) rfl rfl (Nat.le_of_ble_eq_true rfl) (s_ob_of e183) (f65_ok e178 (d + 0)) ?_
        refine ev_ladd (mm 150 rfl) ?_
        obtain ⟨M179, e180, h⟩ := bind_so h
        refine ev_put_l (mm 151 rfl) (fun z => by cases z) rfl e180 ?_
        refine evs_iinc (mm 152 rfl) cI_1 l5 (by decide) (fun lv181 l5 s182 => ?_)
        have l0 := s182 _ _ l0 rfl
        have l1 := s182 _ _ l1 rfl
        have l2 := s182 _ _ l2 rfl
        refine ev_goto 238 (mm 153 rfl) rfl ?_
        exact ih l0 l1 l2 l5 h
/-- PupilCoin$Sums.gather(III)V -/
def f64 (x0 : Nat) (x1 : Int32) (x2 : Int32) (x3 : Int32) (M : vm_M) : Option (vm_M) :=
  f64_l12 x0 x1 x2 x3 (s_mxI 0 (x2 - 1))
    (fun M38 =>
      (sg_r M38 x0 9 3).bind fun v39 =>
      (v39).bind fun q41 =>
      (sg_r M38 q41 3 0).bind fun v43 =>
      (sg_r M38 x0 9 3).bind fun v45 =>
      (v45).bind fun q47 =>
      (sg_r M38 q47 3 0).bind fun v49 =>
      (v49).bind fun q51 =>
      (sa_l M38 q51 0).bind fun v53 =>
      (sg_r M38 x0 9 3).bind fun v55 =>
      (v55).bind fun q57 =>
      (sg_r M38 q57 3 0).bind fun v59 =>
      (v59).bind fun q61 =>
      (sa_l M38 q61 1).bind fun v63 =>
      (sg_r M38 x0 9 3).bind fun v65 =>
      (v65).bind fun q67 =>
      (sg_r M38 q67 3 0).bind fun v69 =>
      (v69).bind fun q71 =>
      (sa_l M38 q71 2).bind fun v73 =>
      (v43).bind fun q75 =>
      (ss_l M38 q75 3 ((v53 + v63) + v73)).bind fun M77 =>
      (sg_r M77 x0 9 3).bind fun v79 =>
      (v79).bind fun q81 =>
      (sg_r M77 q81 3 0).bind fun v83 =>
      (sg_r M77 x0 9 0).bind fun v85 =>
      (v85).bind fun q87 =>
      (sg_r M77 q87 0 5).bind fun v89 =>
      (sg_r M77 x0 9 0).bind fun v91 =>
      (v91).bind fun q93 =>
      (sg_r M77 q93 0 0).bind fun v95 =>
      (v95).bind fun q97 =>
      (sa_i M77 q97 0 x1).bind fun v99 =>
      (v89).bind fun q101 =>
      (sa_i M77 q101 0 v99).bind fun v103 =>
      (v83).bind fun q105 =>
      (ss_l M77 q105 6 ((v103 : Int32).toInt64)).bind fun M107 =>
      (sg_r M107 x0 9 3).bind fun v109 =>
      (v109).bind fun q111 =>
      (sg_r M107 q111 3 0).bind fun v113 =>
      (sg_r M107 x0 9 0).bind fun v115 =>
      (v115).bind fun q117 =>
      (s_ob M107 q117 0).bind fun _ =>
      (f7 q117 x1 x2 M107).bind fun p119 =>
      (v113).bind fun q121 =>
      (ss_l p119.2 q121 7 ((p119.1 : Int32).toInt64)).bind fun M123 =>
      (sg_r M123 x0 9 10).bind fun v125 =>
      (s_ob M123 x0 9).bind fun _ =>
      (f66 x0 x1 x2 M123).bind fun p127 =>
      (v125).bind fun q129 =>
      (ss_l p127.2 q129 x1 p127.1).bind fun M131 =>
      (sg_r M131 x0 9 3).bind fun v133 =>
      (v133).bind fun q135 =>
      (sg_r M131 q135 3 0).bind fun v137 =>
      (sg_r M131 x0 9 10).bind fun v139 =>
      (v139).bind fun q141 =>
      (sa_l M131 q141 x1).bind fun v143 =>
      (v137).bind fun q145 =>
      (ss_l M131 q145 8 (s_mxJ (-100000000) (s_mnJ 100000000 v143))).bind fun M147 =>
      (sg_r M147 x0 9 3).bind fun v149 =>
      (v149).bind fun q151 =>
      (sg_r M147 q151 3 0).bind fun v153 =>
      (sg_r M147 x0 9 0).bind fun v155 =>
      (v155).bind fun q157 =>
      (sg_r M147 q157 0 0).bind fun v159 =>
      (v159).bind fun q161 =>
      (sa_i M147 q161 0 x1).bind fun v163 =>
      (v153).bind fun q165 =>
      (ss_l M147 q165 9 ((v163 : Int32).toInt64)).bind fun M167 =>
      (sp_l M167 x0 9 16 0).bind fun M169 =>
      f64_l238 x0 x1 x2
      
        100000 0 M169)
    100000 0 M
theorem f64_ok {x0 : Nat} {x1 : Int32} {x2 : Int32} {x3 : Int32} {M : vm_M} {r : vm_M} (h : f64 x0 x1 x2 x3 M = some r) (d : Nat) : vm_Cl (d + 3) 64 [.ref (x0), .int (x1), .int (x2), .int (x3)] M (rV r) := by
  have key : Ev 0 (fun _ => 0) (vm_Cl (d + 2)) vp_64 9 8 false none (rV r) 0 (lv_args 0 [.ref (x0), .int (x1), .int (x2), .int (x3)]) [] M := by
    have l0 : (0, .ref (x0)) ∈ lv_args 0 [.ref (x0), .int (x1), .int (x2), .int (x3)] := List.Mem.head _
    have l1 : (1, .int (x1)) ∈ lv_args 0 [.ref (x0), .int (x1), .int (x2), .int (x3)] := List.Mem.tail _ (List.Mem.head _)
    have l2 : (2, .int (x2)) ∈ lv_args 0 [.ref (x0), .int (x1), .int (x2), .int (x3)] := List.Mem.tail _ (List.Mem.tail _ (List.Mem.head _))
    have l3 : (3, .int (x3)) ∈ lv_args 0 [.ref (x0), .int (x1), .int (x2), .int (x3)] := List.Mem.tail _ (List.Mem.tail _ (List.Mem.tail _ (List.Mem.head _)))
    unfold f64 at h
    refine ev_iconst (mm 0 rfl) cI_0 ?_
    refine ev_iload_n (mm 1 rfl) l2 ?_
    refine ev_iconst (mm 2 rfl) cI_1 ?_
    refine ev_isub (mm 3 rfl) ?_
    refine ev_mxI (mm 4 rfl) (Nat.le_of_ble_eq_true rfl) ?_
    refine evs_istore (mm 5 rfl) (by decide) (fun lv1 l4 s2 => ?_)
    have l0 := s2 _ _ l0 rfl
    have l1 := s2 _ _ l1 rfl
    have l2 := s2 _ _ l2 rfl
    have l3 := s2 _ _ l3 rfl
    refine ev_iconst (mm 6 rfl) cI_0 ?_
    refine evs_istore (mm 7 rfl) (by decide) (fun lv3 l5 s4 => ?_)
    have l0 := s4 _ _ l0 rfl
    have l1 := s4 _ _ l1 rfl
    have l2 := s4 _ _ l2 rfl
    have l3 := s4 _ _ l3 rfl
    have l4 := s4 _ _ l4 rfl
    refine f64_l12_ok ?_ 100000 l0 l1 l2 l3 l4 l5 h
    · intro M38 lv l0 l1 l2
      intro h
      refine ev_aload_nR (mm 45 rfl) l0 ?_
      obtain ⟨v39, e40, h⟩ := bind_so h
      refine ev_get_r (mm 46 rfl) rfl e40 ?_
      obtain ⟨q41, e42, h⟩ := bind_so h
      rw [e42]
      obtain ⟨v43, e44, h⟩ := bind_so h
      refine ev_get_r (mm 47 rfl) rfl e44 ?_
      refine ev_iconst (mm 48 rfl) cI_3 ?_
      refine ev_aload_nR (mm 49 rfl) l0 ?_
      obtain ⟨v45, e46, h⟩ := bind_so h
      refine ev_get_r (mm 50 rfl) rfl e46 ?_
      obtain ⟨q47, e48, h⟩ := bind_so h
      rw [e48]
      obtain ⟨v49, e50, h⟩ := bind_so h
      refine ev_get_r (mm 51 rfl) rfl e50 ?_
      refine ev_iconst (mm 52 rfl) cI_0 ?_
      obtain ⟨q51, e52, h⟩ := bind_so h
      rw [e52]
      obtain ⟨v53, e54, h⟩ := bind_so h
      refine ev_laload (mm 53 rfl) e54 ?_
      refine ev_aload_nR (mm 54 rfl) l0 ?_
      obtain ⟨v55, e56, h⟩ := bind_so h
      refine ev_get_r (mm 55 rfl) rfl e56 ?_
      obtain ⟨q57, e58, h⟩ := bind_so h
      rw [e58]
      obtain ⟨v59, e60, h⟩ := bind_so h
      refine ev_get_r (mm 56 rfl) rfl e60 ?_
      refine ev_iconst (mm 57 rfl) cI_1 ?_
      obtain ⟨q61, e62, h⟩ := bind_so h
      rw [e62]
      obtain ⟨v63, e64, h⟩ := bind_so h
      refine ev_laload (mm 58 rfl) e64 ?_
      refine ev_ladd (mm 59 rfl) ?_
      refine ev_aload_nR (mm 60 rfl) l0 ?_
      obtain ⟨v65, e66, h⟩ := bind_so h
      refine ev_get_r (mm 61 rfl) rfl e66 ?_
      obtain ⟨q67, e68, h⟩ := bind_so h
      rw [e68]
      obtain ⟨v69, e70, h⟩ := bind_so h
      refine ev_get_r (mm 62 rfl) rfl e70 ?_
      refine ev_iconst (mm 63 rfl) cI_2 ?_
      obtain ⟨q71, e72, h⟩ := bind_so h
      rw [e72]
      obtain ⟨v73, e74, h⟩ := bind_so h
      refine ev_laload (mm 64 rfl) e74 ?_
      refine ev_ladd (mm 65 rfl) ?_
      obtain ⟨q75, e76, h⟩ := bind_so h
      rw [e76]
      obtain ⟨M77, e78, h⟩ := bind_so h
      refine ev_lastore (mm 66 rfl) e78 ?_
      refine ev_aload_nR (mm 67 rfl) l0 ?_
      obtain ⟨v79, e80, h⟩ := bind_so h
      refine ev_get_r (mm 68 rfl) rfl e80 ?_
      obtain ⟨q81, e82, h⟩ := bind_so h
      rw [e82]
      obtain ⟨v83, e84, h⟩ := bind_so h
      refine ev_get_r (mm 69 rfl) rfl e84 ?_
      refine ev_bipush (mm 70 rfl) cB_6 ?_
      refine ev_aload_nR (mm 71 rfl) l0 ?_
      obtain ⟨v85, e86, h⟩ := bind_so h
      refine ev_get_r (mm 72 rfl) rfl e86 ?_
      obtain ⟨q87, e88, h⟩ := bind_so h
      rw [e88]
      obtain ⟨v89, e90, h⟩ := bind_so h
      refine ev_get_r (mm 73 rfl) rfl e90 ?_
      refine ev_aload_nR (mm 74 rfl) l0 ?_
      obtain ⟨v91, e92, h⟩ := bind_so h
      refine ev_get_r (mm 75 rfl) rfl e92 ?_
      obtain ⟨q93, e94, h⟩ := bind_so h
      rw [e94]
      obtain ⟨v95, e96, h⟩ := bind_so h
      refine ev_get_r (mm 76 rfl) rfl e96 ?_
      refine ev_iload_n (mm 77 rfl) l1 ?_
      obtain ⟨q97, e98, h⟩ := bind_so h
      rw [e98]
      obtain ⟨v99, e100, h⟩ := bind_so h
      refine ev_iaload (mm 78 rfl) e100 ?_
      obtain ⟨q101, e102, h⟩ := bind_so h
      rw [e102]
      obtain ⟨v103, e104, h⟩ := bind_so h
      refine ev_iaload (mm 79 rfl) e104 ?_
      refine ev_i2l (mm 80 rfl) ?_
      obtain ⟨q105, e106, h⟩ := bind_so h
      rw [e106]
      obtain ⟨M107, e108, h⟩ := bind_so h
      refine ev_lastore (mm 81 rfl) e108 ?_
      refine ev_aload_nR (mm 82 rfl) l0 ?_
      obtain ⟨v109, e110, h⟩ := bind_so h
      refine ev_get_r (mm 83 rfl) rfl e110 ?_
      obtain ⟨q111, e112, h⟩ := bind_so h
      rw [e112]
      obtain ⟨v113, e114, h⟩ := bind_so h
      refine ev_get_r (mm 84 rfl) rfl e114 ?_
      refine ev_bipush (mm 85 rfl) cB_7 ?_
      refine ev_aload_nR (mm 86 rfl) l0 ?_
      obtain ⟨v115, e116, h⟩ := bind_so h
      refine ev_get_r (mm 87 rfl) rfl e116 ?_
      refine ev_iload_n (mm 88 rfl) l1 ?_
      refine ev_iload_n (mm 89 rfl) l2 ?_
      obtain ⟨q117, e118, h⟩ := bind_so h
      rw [e118]
      obtain ⟨_, e185, h⟩ := bind_so h
      obtain ⟨p119, e120, h⟩ := bind_so h
      refine ev_callV_I [.int (x1), .int (x2)] (mm 90 rfl) rfl rfl (by simp [vm_cat_A, vm_cat_I, vm_cat_R, vm_cat_J, vm_cat_0]) (s_ob_of e185) (f7_ok e120 (d + 0)) ?_
      refine ev_i2l (mm 91 rfl) ?_
      obtain ⟨q121, e122, h⟩ := bind_so h
      rw [e122]
      obtain ⟨M123, e124, h⟩ := bind_so h
      refine ev_lastore (mm 92 rfl) e124 ?_
      refine ev_aload_nR (mm 93 rfl) l0 ?_
      obtain ⟨v125, e126, h⟩ := bind_so h
      refine ev_get_r (mm 94 rfl) rfl e126 ?_
      refine ev_iload_n (mm 95 rfl) l1 ?_
      refine ev_aload_nR (mm 96 rfl) l0 ?_
      refine ev_iload_n (mm 97 rfl) l1 ?_
      refine ev_iload_n (mm 98 rfl) l2 ?_
      obtain ⟨_, e184, h⟩ := bind_so h
      obtain ⟨p127, e128, h⟩ := bind_so h
      refine ev_callV_J [.int (x1), .int (x2)] (mm 99 rfl) rfl rfl (by simp [vm_cat_A, vm_cat_I, vm_cat_R, vm_cat_J, vm_cat_0]) (s_ob_of e184) (f66_ok e128 (d + 1)) ?_
      obtain ⟨q129, e130, h⟩ := bind_so h
      rw [e130]
      obtain ⟨M131, e132, h⟩ := bind_so h
      refine ev_lastore (mm 100 rfl) e132 ?_
      refine ev_aload_nR (mm 101 rfl) l0 ?_
      obtain ⟨v133, e134, h⟩ := bind_so h
      refine ev_get_r (mm 102 rfl) rfl e134 ?_
      obtain ⟨q135, e136, h⟩ := bind_so h
      rw [e136]
      obtain ⟨v137, e138, h⟩ := bind_so h
      refine ev_get_r (mm 103 rfl) rfl e138 ?_
      refine ev_bipush (mm 104 rfl) cB_8 ?_
      refine ev_ldc2_w (mm 105 rfl) cJ_m100000000 ?_
      refine ev_ldc2_w (mm 106 rfl) cJ_100000000 ?_
      refine ev_aload_nR (mm 107 rfl) l0 ?_
      obtain ⟨v139, e140, h⟩ := bind_so h
      refine ev_get_r (mm 108 rfl) rfl e140 ?_
      refine ev_iload_n (mm 109 rfl) l1 ?_
      obtain ⟨q141, e142, h⟩ := bind_so h
      rw [e142]
      obtain ⟨v143, e144, h⟩ := bind_so h
      refine ev_laload (mm 110 rfl) e144 ?_
      refine ev_mnJ (mm 111 rfl) (by simp [vm_cat_A, vm_cat_I, vm_cat_R, vm_cat_J, vm_cat_0]) ?_
      refine ev_mxJ (mm 112 rfl) (by simp [vm_cat_A, vm_cat_I, vm_cat_R, vm_cat_J, vm_cat_0]) ?_
      obtain ⟨q145, e146, h⟩ := bind_so h
      rw [e146]
      obtain ⟨M147, e148, h⟩ := bind_so h
      refine ev_lastore (mm 113 rfl) e148 ?_
      refine ev_aload_nR (mm 114 rfl) l0 ?_
      obtain ⟨v149, e150, h⟩ := bind_so h
      refine ev_get_r (mm 115 rfl) rfl e150 ?_
      obtain ⟨q151, e152, h⟩ := bind_so h
      rw [e152]
      obtain ⟨v153, e154, h⟩ := bind_so h
      refine ev_get_r (mm 116 rfl) rfl e154 ?_
      refine ev_bipush (mm 117 rfl) cB_9 ?_
      refine ev_aload_nR (mm 118 rfl) l0 ?_
      obtain ⟨v155, e156, h⟩ := bind_so h
      refine ev_get_r (mm 119 rfl) rfl e156 ?_
      obtain ⟨q157, e158, h⟩ := bind_so h
      rw [e158]
      obtain ⟨v159, e160, h⟩ := bind_so h
      refine ev_get_r (mm 120 rfl) rfl e160 ?_
      refine ev_iload_n (mm 121 rfl) l1 ?_
      obtain ⟨q161, e162, h⟩ := bind_so h
      rw [e162]
      obtain ⟨v163, e164, h⟩ := bind_so h
      refine ev_iaload (mm 122 rfl) e164 ?_
      refine ev_i2l (mm 123 rfl) ?_
      obtain ⟨q165, e166, h⟩ := bind_so h
      rw [e166]
      obtain ⟨M167, e168, h⟩ := bind_so h
      refine ev_lastore (mm 124 rfl) e168 ?_
      refine ev_aload_nR (mm 125 rfl) l0 ?_
      refine ev_lconst (mm 126 rfl) cL_0 ?_
      obtain ⟨M169, e170, h⟩ := bind_so h
      refine ev_put_l (mm 127 rfl) (fun z => by cases z) rfl e170 ?_
      refine ev_iconst (mm 128 rfl) cI_0 ?_
      refine evs_istore (mm 129 rfl) (by decide) (fun lv171 l5 s172 => ?_)
      have l0 := s172 _ _ l0 rfl
      have l1 := s172 _ _ l1 rfl
      have l2 := s172 _ _ l2 rfl
      refine f64_l238_ok 100000 l0 l1 l2 l5 h
  exact ⟨by decide, Nat.le_of_ble_eq_true rfl, key.1, key.2⟩
def f67_j120 (k145 : vm_M → Option (vm_M)) (k8 : Int32 → vm_M → Option (vm_M)) (x0 : Nat) (x1 : Nat) (x2 : Int32) (x3 : Int32) (x4 : Int32) (s0 : Option Nat) (s1 : Int32) (s2 : Int64) (M : vm_M) : Option (vm_M) :=
  (s0).bind fun q30 =>
  (ss_l M q30 s1 s2).bind fun M32 =>
  (sg_r M32 x0 9 5).bind fun v34 =>
  (v34).bind fun q36 =>
  (sa_l M32 q36 x2).bind fun v38 =>
  (sg_r M32 x0 9 4).bind fun v40 =>
  (v40).bind fun q42 =>
  (sa_l M32 q42 (x3 + x4)).bind fun v44 =>
  (ss_l M32 q36 x2 (v38 + v44)).bind fun M46 =>
  k8 (x4 + 1) M46
theorem f67_j120_ok {d : Nat} {x0 : Nat} {x1 : Nat} {x2 : Int32} {x3 : Int32} {x4 : Int32} {s0 : Option Nat} {s1 : Int32} {s2 : Int64} {M : vm_M} {k145 : vm_M → Option (vm_M)} {k8 : Int32 → vm_M → Option (vm_M)} {r : vm_M} (hk145 : ∀ {M : vm_M} {lv : vm_L}, (0, .ref (x0)) ∈ lv → (1, .ref (x1)) ∈ lv → (2, .int (x2)) ∈ lv → (3, .int (x3)) ∈ lv → k145 M = some r → Ev 0 (fun _ => 0) (vm_Cl (d + 2)) vp_67 9 8 false none (rV r) 145 lv [] M) (hk8 : ∀ {y4 : Int32} {M : vm_M} {lv : vm_L}, (0, .ref (x0)) ∈ lv → (1, .ref (x1)) ∈ lv → (2, .int (x2)) ∈ lv → (3, .int (x3)) ∈ lv → (4, .int (y4)) ∈ lv → k8 y4 M = some r → Ev 0 (fun _ => 0) (vm_Cl (d + 2)) vp_67 9 8 false none (rV r) 8 lv [] M) {lv : vm_L} (l0 : (0, .ref (x0)) ∈ lv) (l1 : (1, .ref (x1)) ∈ lv) (l2 : (2, .int (x2)) ∈ lv) (l3 : (3, .int (x3)) ∈ lv) (l4 : (4, .int (x4)) ∈ lv) (h : f67_j120 k145 k8 x0 x1 x2 x3 x4 s0 s1 s2 M = some r) : Ev 0 (fun _ => 0) (vm_Cl (d + 2)) vp_67 9 8 false none (rV r) 120 lv [.long (s2), .int (s1), va_rf (s0)] M := by
  unfold f67_j120 at h
  obtain ⟨q30, e31, h⟩ := bind_so h
  rw [e31]
  obtain ⟨M32, e33, h⟩ := bind_so h
  refine ev_lastore (mm 70 rfl) e33 ?_
  refine ev_aload_nR (mm 71 rfl) l0 ?_
  obtain ⟨v34, e35, h⟩ := bind_so h
  refine ev_get_r (mm 72 rfl) rfl e35 ?_
  refine ev_iload_n (mm 73 rfl) l2 ?_
  refine ev_dup2 (mm 74 rfl) rfl (by cases (v34 : Option Nat) <;> rfl) ?_
  obtain ⟨q36, e37, h⟩ := bind_so h
  rw [e37]
  obtain ⟨v38, e39, h⟩ := bind_so h
  refine ev_laload (mm 75 rfl) e39 ?_
  refine ev_aload_nR (mm 76 rfl) l0 ?_
  obtain ⟨v40, e41, h⟩ := bind_so h
  refine ev_get_r (mm 77 rfl) rfl e41 ?_
  refine ev_iload_n (mm 78 rfl) l3 ?_
  refine ev_iload (mm 79 rfl) l4 ?_
  refine ev_iadd (mm 80 rfl) ?_
  obtain ⟨q42, e43, h⟩ := bind_so h
  rw [e43]
  obtain ⟨v44, e45, h⟩ := bind_so h
  refine ev_laload (mm 81 rfl) e45 ?_
  refine ev_ladd (mm 82 rfl) ?_
  obtain ⟨M46, e47, h⟩ := bind_so h
  refine ev_lastore (mm 83 rfl) e47 ?_
  refine evs_iinc (mm 84 rfl) cI_1 l4 (by decide) (fun lv48 l4 s49 => ?_)
  have l0 := s49 _ _ l0 rfl
  have l1 := s49 _ _ l1 rfl
  have l2 := s49 _ _ l2 rfl
  have l3 := s49 _ _ l3 rfl
  refine ev_goto 8 (mm 85 rfl) rfl ?_
  exact hk8 l0 l1 l2 l3 l4 h
def f67_j77 (k145 : vm_M → Option (vm_M)) (k8 : Int32 → vm_M → Option (vm_M)) (x0 : Nat) (x1 : Nat) (x2 : Int32) (x3 : Int32) (x4 : Int32) (x5 : Int32) (s0 : Int32) (M : vm_M) : Option (vm_M) :=
  (sg_r M x0 9 4).bind fun v27 =>
  if s0 = 0 then
    f67_j120 k145 k8 x0 x1 x2 x3 x4 v27 (x3 + x4) 0 M
  else
    (sg_r M x0 9 3).bind fun v50 =>
    (sg_r M x1 1 7).bind fun v52 =>
    (v52).bind fun q54 =>
    (sa_i M q54 0 (2 * x4)).bind fun v56 =>
    (sg_r M x0 9 4).bind fun v58 =>
    (v50).bind fun q60 =>
    (v58).bind fun q62 =>
    (s_ob M q60 3).bind fun _ =>
    (f17 q60 x1 v56 x5 q62 x3 M).bind fun p64 =>
    f67_j120 k145 k8 x0 x1 x2 x3 x4 v27 (x3 + x4) p64.1 p64.2
theorem f67_j77_ok {d : Nat} {x0 : Nat} {x1 : Nat} {x2 : Int32} {x3 : Int32} {x4 : Int32} {x5 : Int32} {s0 : Int32} {M : vm_M} {k145 : vm_M → Option (vm_M)} {k8 : Int32 → vm_M → Option (vm_M)} {r : vm_M} (hk145 : ∀ {M : vm_M} {lv : vm_L}, (0, .ref (x0)) ∈ lv → (1, .ref (x1)) ∈ lv → (2, .int (x2)) ∈ lv → (3, .int (x3)) ∈ lv → k145 M = some r → Ev 0 (fun _ => 0) (vm_Cl (d + 2)) vp_67 9 8 false none (rV r) 145 lv [] M) (hk8 : ∀ {y4 : Int32} {M : vm_M} {lv : vm_L}, (0, .ref (x0)) ∈ lv → (1, .ref (x1)) ∈ lv → (2, .int (x2)) ∈ lv → (3, .int (x3)) ∈ lv → (4, .int (y4)) ∈ lv → k8 y4 M = some r → Ev 0 (fun _ => 0) (vm_Cl (d + 2)) vp_67 9 8 false none (rV r) 8 lv [] M) {lv : vm_L} (l0 : (0, .ref (x0)) ∈ lv) (l1 : (1, .ref (x1)) ∈ lv) (l2 : (2, .int (x2)) ∈ lv) (l3 : (3, .int (x3)) ∈ lv) (l4 : (4, .int (x4)) ∈ lv) (l5 : (5, .int (x5)) ∈ lv) (h : f67_j77 k145 k8 x0 x1 x2 x3 x4 x5 s0 M = some r) : Ev 0 (fun _ => 0) (vm_Cl (d + 2)) vp_67 9 8 false none (rV r) 77 lv [.int (s0)] M := by
  unfold f67_j77 at h
  refine evs_istore (mm 46 rfl) (by decide) (fun lv25 l7 s26 => ?_)
  have l0 := s26 _ _ l0 rfl
  have l1 := s26 _ _ l1 rfl
  have l2 := s26 _ _ l2 rfl
  have l3 := s26 _ _ l3 rfl
  have l4 := s26 _ _ l4 rfl
  have l5 := s26 _ _ l5 rfl
  refine ev_aload_nR (mm 47 rfl) l0 ?_
  obtain ⟨v27, e28, h⟩ := bind_so h
  refine ev_get_r (mm 48 rfl) rfl e28 ?_
  refine ev_iload_n (mm 49 rfl) l3 ?_
  refine ev_iload (mm 50 rfl) l4 ?_
  refine ev_iadd (mm 51 rfl) ?_
  refine ev_iload (mm 52 rfl) l7 ?_
  rcases ite_so h with ⟨c29, h⟩ | ⟨c29, h⟩
  · refine ev_if_t 119 (mm 53 rfl) rfl c29 ?_
    refine ev_lconst (mm 69 rfl) cL_0 ?_
    exact f67_j120_ok hk145 hk8 l0 l1 l2 l3 l4 h
  · refine ev_if_f 119 (mm 53 rfl) rfl c29 ?_
    refine ev_aload_nR (mm 54 rfl) l0 ?_
    obtain ⟨v50, e51, h⟩ := bind_so h
    refine ev_get_r (mm 55 rfl) rfl e51 ?_
    refine ev_aload_nR (mm 56 rfl) l1 ?_
    refine ev_aload_nR (mm 57 rfl) l1 ?_
    obtain ⟨v52, e53, h⟩ := bind_so h
    refine ev_get_r (mm 58 rfl) rfl e53 ?_
    refine ev_iconst (mm 59 rfl) cI_2 ?_
    refine ev_iload (mm 60 rfl) l4 ?_
    refine ev_imul (mm 61 rfl) ?_
    obtain ⟨q54, e55, h⟩ := bind_so h
    rw [e55]
    obtain ⟨v56, e57, h⟩ := bind_so h
    refine ev_iaload (mm 62 rfl) e57 ?_
    refine ev_iload (mm 63 rfl) l5 ?_
    refine ev_aload_nR (mm 64 rfl) l0 ?_
    obtain ⟨v58, e59, h⟩ := bind_so h
    refine ev_get_r (mm 65 rfl) rfl e59 ?_
    refine ev_iload_n (mm 66 rfl) l3 ?_
    obtain ⟨q60, e61, h⟩ := bind_so h
    rw [e61]
    obtain ⟨q62, e63, h⟩ := bind_so h
    rw [e63]
    obtain ⟨_, e66, h⟩ := bind_so h
    obtain ⟨p64, e65, h⟩ := bind_so h
    refine ev_callV_J [.ref (x1), .int (v56), .int (x5), .ref (q62), .int (x3)] (mm 67 rfl) rfl rfl (by simp [vm_cat_A, vm_cat_I, vm_cat_R, vm_cat_J, vm_cat_0]) (s_ob_of e66) (f17_ok e65 (d + 0)) ?_
    refine ev_goto 120 (mm 68 rfl) rfl ?_
    exact f67_j120_ok hk145 hk8 l0 l1 l2 l3 l4 h
def f67_j72 (k145 : vm_M → Option (vm_M)) (k8 : Int32 → vm_M → Option (vm_M)) (x0 : Nat) (x1 : Nat) (x2 : Int32) (x3 : Int32) (x4 : Int32) (x5 : Int32) (M : vm_M) : Option (vm_M) :=
  f67_j77 k145 k8 x0 x1 x2 x3 x4 x5 1 M
theorem f67_j72_ok {d : Nat} {x0 : Nat} {x1 : Nat} {x2 : Int32} {x3 : Int32} {x4 : Int32} {x5 : Int32} {M : vm_M} {k145 : vm_M → Option (vm_M)} {k8 : Int32 → vm_M → Option (vm_M)} {r : vm_M} (hk145 : ∀ {M : vm_M} {lv : vm_L}, (0, .ref (x0)) ∈ lv → (1, .ref (x1)) ∈ lv → (2, .int (x2)) ∈ lv → (3, .int (x3)) ∈ lv → k145 M = some r → Ev 0 (fun _ => 0) (vm_Cl (d + 2)) vp_67 9 8 false none (rV r) 145 lv [] M) (hk8 : ∀ {y4 : Int32} {M : vm_M} {lv : vm_L}, (0, .ref (x0)) ∈ lv → (1, .ref (x1)) ∈ lv → (2, .int (x2)) ∈ lv → (3, .int (x3)) ∈ lv → (4, .int (y4)) ∈ lv → k8 y4 M = some r → Ev 0 (fun _ => 0) (vm_Cl (d + 2)) vp_67 9 8 false none (rV r) 8 lv [] M) {lv : vm_L} (l0 : (0, .ref (x0)) ∈ lv) (l1 : (1, .ref (x1)) ∈ lv) (l2 : (2, .int (x2)) ∈ lv) (l3 : (3, .int (x3)) ∈ lv) (l4 : (4, .int (x4)) ∈ lv) (l5 : (5, .int (x5)) ∈ lv) (h : f67_j72 k145 k8 x0 x1 x2 x3 x4 x5 M = some r) : Ev 0 (fun _ => 0) (vm_Cl (d + 2)) vp_67 9 8 false none (rV r) 72 lv [] M := by
  unfold f67_j72 at h
  refine ev_iconst (mm 43 rfl) cI_1 ?_
  refine ev_goto 77 (mm 44 rfl) rfl ?_
  exact f67_j77_ok hk145 hk8 l0 l1 l2 l3 l4 l5 h
def f67_l8 (x0 : Nat) (x1 : Nat) (x2 : Int32) (x3 : Int32) (k145 : vm_M → Option (vm_M)) : Nat → Int32 → vm_M → Option (vm_M)
  | 0 => fun _ _ => none
  | n + 1 => fun x4 M =>
    (sg_i M x1 1 4).bind fun v5 =>
    if v5 ≤ x4 then
      k145 M
    else
      (sg_r M x1 1 7).bind fun v8 =>
      (v8).bind fun q10 =>
      (sa_i M q10 0 ((2 * x4) + 1)).bind fun v12 =>
      (sg_r M x1 1 7).bind fun v16 =>
      (v16).bind fun q18 =>
      (sa_i M q18 0 ((2 * x4) + 2)).bind fun v20 =>
      if v12 = v20 then
        f67_j72 k145 (f67_l8 x0 x1 x2 x3 k145 n) x0 x1 x2 x3 x4 v12 M
      else
        (sg_r M x0 9 3).bind fun v67 =>
        (sg_r M x0 9 4).bind fun v69 =>
        (v67).bind fun q71 =>
        (v69).bind fun q73 =>
        (s_ob M q71 3).bind fun _ =>
        (f17 q71 x1 v12 v20 q73 x3 M).bind fun p75 =>
        if (lg_cmp p75.1 0) = 0 then
          f67_j77 k145 (f67_l8 x0 x1 x2 x3 k145 n) x0 x1 x2 x3 x4 v12 0 p75.2
        else
          f67_j72 k145 (f67_l8 x0 x1 x2 x3 k145 n) x0 x1 x2 x3 x4 v12 p75.2
theorem f67_l8_ok {d : Nat} {x0 : Nat} {x1 : Nat} {x2 : Int32} {x3 : Int32} {k145 : vm_M → Option (vm_M)} {r : vm_M} (hk145 : ∀ {M : vm_M} {lv : vm_L}, (0, .ref (x0)) ∈ lv → (1, .ref (x1)) ∈ lv → (2, .int (x2)) ∈ lv → (3, .int (x3)) ∈ lv → k145 M = some r → Ev 0 (fun _ => 0) (vm_Cl (d + 2)) vp_67 9 8 false none (rV r) 145 lv [] M) : ∀ (n : Nat) {x4 : Int32} {M : vm_M} {lv : vm_L}, (0, .ref (x0)) ∈ lv → (1, .ref (x1)) ∈ lv → (2, .int (x2)) ∈ lv → (3, .int (x3)) ∈ lv → (4, .int (x4)) ∈ lv → f67_l8 x0 x1 x2 x3 k145 n x4 M = some r → Ev 0 (fun _ => 0) (vm_Cl (d + 2)) vp_67 9 8 false none (rV r) 8 lv [] M := by
  intro n
  induction n with
  | zero =>
    intro x4 M lv l0 l1 l2 l3 l4 h
    cases h
  | succ n ih =>
    intro x4 M lv l0 l1 l2 l3 l4 h
    dsimp only [f67_l8] at h
    refine ev_iload (mm 6 rfl) l4 ?_
    refine ev_aload_nR (mm 7 rfl) l1 ?_
    obtain ⟨v5, e6, h⟩ := bind_so h
    refine ev_get_i (mm 8 rfl) rfl e6 ?_
    rcases ite_so h with ⟨c7, h⟩ | ⟨c7, h⟩
    · refine ev_ic_t 145 (mm 9 rfl) rfl c7 ?_
      exact hk145 l0 l1 l2 l3 h
    · refine ev_ic_f 145 (mm 9 rfl) rfl c7 ?_
      refine ev_aload_nR (mm 10 rfl) l1 ?_
      obtain ⟨v8, e9, h⟩ := bind_so h
      refine ev_get_r (mm 11 rfl) rfl e9 ?_
      refine ev_iconst (mm 12 rfl) cI_2 ?_
      refine ev_iload (mm 13 rfl) l4 ?_
      refine ev_imul (mm 14 rfl) ?_
      refine ev_iconst (mm 15 rfl) cI_1 ?_
      refine ev_iadd (mm 16 rfl) ?_
      obtain ⟨q10, e11, h⟩ := bind_so h
      rw [e11]
      obtain ⟨v12, e13, h⟩ := bind_so h
      refine ev_iaload (mm 17 rfl) e13 ?_
      refine evs_istore (mm 18 rfl) (by decide) (fun lv14 l5 s15 => ?_)
      have l0 := s15 _ _ l0 rfl
      have l1 := s15 _ _ l1 rfl
      have l2 := s15 _ _ l2 rfl
      have l3 := s15 _ _ l3 rfl
      have l4 := s15 _ _ l4 rfl
      refine ev_aload_nR (mm 19 rfl) l1 ?_
      obtain ⟨v16, e17, h⟩ := bind_so h
      refine ev_get_r (mm 20 rfl) rfl e17 ?_
      refine ev_iconst (mm 21 rfl) cI_2 ?_
      refine ev_iload (mm 22 rfl) l4 ?_
      refine ev_imul (mm 23 rfl) ?_
      refine ev_iconst (mm 24 rfl) cI_2 ?_
      refine ev_iadd (mm 25 rfl) ?_
      obtain ⟨q18, e19, h⟩ := bind_so h
      rw [e19]
      obtain ⟨v20, e21, h⟩ := bind_so h
      refine ev_iaload (mm 26 rfl) e21 ?_
      refine evs_istore (mm 27 rfl) (by decide) (fun lv22 l6 s23 => ?_)
      have l0 := s23 _ _ l0 rfl
      have l1 := s23 _ _ l1 rfl
      have l2 := s23 _ _ l2 rfl
      have l3 := s23 _ _ l3 rfl
      have l4 := s23 _ _ l4 rfl
      have l5 := s23 _ _ l5 rfl
      refine ev_iload (mm 28 rfl) l5 ?_
      refine ev_iload (mm 29 rfl) l6 ?_
      rcases ite_so h with ⟨c24, h⟩ | ⟨c24, h⟩
      · refine ev_ic_t 72 (mm 30 rfl) rfl c24 ?_
        exact f67_j72_ok hk145 ih l0 l1 l2 l3 l4 l5 h
      · refine ev_ic_f 72 (mm 30 rfl) rfl c24 ?_
        refine ev_aload_nR (mm 31 rfl) l0 ?_
        obtain ⟨v67, e68, h⟩ := bind_so h
        refine ev_get_r (mm 32 rfl) rfl e68 ?_
        refine ev_aload_nR (mm 33 rfl) l1 ?_
        refine ev_iload (mm 34 rfl) l5 ?_
        refine ev_iload (mm 35 rfl) l6 ?_
        refine ev_aload_nR (mm 36 rfl) l0 ?_
        obtain ⟨v69, e70, h⟩ := bind_so h
        refine ev_get_r (mm 37 rfl) rfl e70 ?_
        refine ev_iload_n (mm 38 rfl) l3 ?_
        obtain ⟨q71, e72, h⟩ := bind_so h
        rw [e72]
        obtain ⟨q73, e74, h⟩ := bind_so h
        rw [e74]
        obtain ⟨_, e78, h⟩ := bind_so h
        obtain ⟨p75, e76, h⟩ := bind_so h
        refine ev_callV_J [.ref (x1), .int (v12), .int (v20), .ref (q73), .int (x3)] (mm 39 rfl) rfl rfl (Nat.le_of_ble_eq_true rfl) (s_ob_of e78) (f17_ok e76 (d + 0)) ?_
        refine ev_lconst (mm 40 rfl) cL_0 ?_
        refine ev_lcmp (mm 41 rfl) ?_
        rcases ite_so h with ⟨c77, h⟩ | ⟨c77, h⟩
        · refine ev_if_t 76 (mm 42 rfl) rfl c77 ?_
          refine ev_iconst (mm 45 rfl) cI_0 ?_
          exact f67_j77_ok hk145 ih l0 l1 l2 l3 l4 l5 h
        · refine ev_if_f 76 (mm 42 rfl) rfl c77 ?_
          exact f67_j72_ok hk145 ih l0 l1 l2 l3 l4 l5 h
def f67_j191 (x0 : Nat) (x2 : Int32) (s0 : Option Nat) (s1 : Int32) (s2 : Int64) (M : vm_M) : Option (vm_M) :=
  (s0).bind fun q103 =>
  (ss_l M q103 s1 s2).bind fun M105 =>
  (sg_r M105 x0 9 9).bind fun v107 =>
  (sg_r M105 x0 9 9).bind fun v109 =>
  (v109).bind fun q111 =>
  (sa_l M105 q111 x2).bind fun v113 =>
  (v107).bind fun q115 =>
  (ss_l M105 q115 x2 (s_mxJ 0 v113)).bind fun M117 =>
  some M117
theorem f67_j191_ok {d : Nat} {x0 : Nat} {x2 : Int32} {s0 : Option Nat} {s1 : Int32} {s2 : Int64} {M : vm_M} {r : vm_M} {lv : vm_L} (l0 : (0, .ref (x0)) ∈ lv) (l2 : (2, .int (x2)) ∈ lv) (h : f67_j191 x0 x2 s0 s1 s2 M = some r) : Ev 0 (fun _ => 0) (vm_Cl (d + 2)) vp_67 9 8 false none (rV r) 191 lv [.long (s2), .int (s1), va_rf (s0)] M := by
  unfold f67_j191 at h
  obtain ⟨q103, e104, h⟩ := bind_so h
  rw [e104]
  obtain ⟨M105, e106, h⟩ := bind_so h
  refine ev_lastore (mm 112 rfl) e106 ?_
  refine ev_aload_nR (mm 113 rfl) l0 ?_
  obtain ⟨v107, e108, h⟩ := bind_so h
  refine ev_get_r (mm 114 rfl) rfl e108 ?_
  refine ev_iload_n (mm 115 rfl) l2 ?_
  refine ev_lconst (mm 116 rfl) cL_0 ?_
  refine ev_aload_nR (mm 117 rfl) l0 ?_
  obtain ⟨v109, e110, h⟩ := bind_so h
  refine ev_get_r (mm 118 rfl) rfl e110 ?_
  refine ev_iload_n (mm 119 rfl) l2 ?_
  obtain ⟨q111, e112, h⟩ := bind_so h
  rw [e112]
  obtain ⟨v113, e114, h⟩ := bind_so h
  refine ev_laload (mm 120 rfl) e114 ?_
  refine ev_mxJ (mm 121 rfl) (by simp [vm_cat_A, vm_cat_I, vm_cat_R, vm_cat_J, vm_cat_0]) ?_
  obtain ⟨q115, e116, h⟩ := bind_so h
  rw [e116]
  obtain ⟨M117, e118, h⟩ := bind_so h
  refine ev_lastore (mm 122 rfl) e118 ?_
  exact ev_return (mm 123 rfl) h
/-- PupilCoin$Sums.workOut(LPupilCoin$Law;I)V -/
def f67 (x0 : Nat) (x1 : Nat) (x2 : Int32) (M : vm_M) : Option (vm_M) :=
  f67_l8 x0 x1 x2 (x2 * 30)
    (fun M79 =>
      (sg_r M79 x0 9 9).bind fun v80 =>
      (sg_r M79 x1 1 5).bind fun v82 =>
      (v82).bind fun q84 =>
      (sa_i M79 q84 0 5).bind fun v86 =>
      (sg_i M79 x1 1 4).bind fun v88 =>
      (f102 v86 v88 M79).bind fun p90 =>
      if p90.1 = 0 then
        (sg_r p90.2 x0 9 3).bind fun v93 =>
        (v93).bind fun q95 =>
        (sg_r p90.2 q95 3 0).bind fun v97 =>
        (v97).bind fun q99 =>
        (sa_l p90.2 q99 3).bind fun v101 =>
        f67_j191 x0 x2 v80 x2 v101 p90.2
      else
        (sg_r p90.2 x0 9 4).bind fun v119 =>
        (sg_r p90.2 x1 1 5).bind fun v121 =>
        (v121).bind fun q123 =>
        (sa_i p90.2 q123 0 5).bind fun v125 =>
        (v119).bind fun q127 =>
        (sa_l p90.2 q127 ((x2 * 30) + v125)).bind fun v129 =>
        f67_j191 x0 x2 v80 x2 v129 p90.2)
    100000 0 M
theorem f67_ok {x0 : Nat} {x1 : Nat} {x2 : Int32} {M : vm_M} {r : vm_M} (h : f67 x0 x1 x2 M = some r) (d : Nat) : vm_Cl (d + 3) 67 [.ref (x0), .ref (x1), .int (x2)] M (rV r) := by
  have key : Ev 0 (fun _ => 0) (vm_Cl (d + 2)) vp_67 9 8 false none (rV r) 0 (lv_args 0 [.ref (x0), .ref (x1), .int (x2)]) [] M := by
    have l0 : (0, .ref (x0)) ∈ lv_args 0 [.ref (x0), .ref (x1), .int (x2)] := List.Mem.head _
    have l1 : (1, .ref (x1)) ∈ lv_args 0 [.ref (x0), .ref (x1), .int (x2)] := List.Mem.tail _ (List.Mem.head _)
    have l2 : (2, .int (x2)) ∈ lv_args 0 [.ref (x0), .ref (x1), .int (x2)] := List.Mem.tail _ (List.Mem.tail _ (List.Mem.head _))
    unfold f67 at h
    refine ev_iload_n (mm 0 rfl) l2 ?_
    refine ev_bipush (mm 1 rfl) cB_30 ?_
    refine ev_imul (mm 2 rfl) ?_
    refine evs_istore_n (mm 3 rfl) (by decide) (fun lv1 l3 s2 => ?_)
    have l0 := s2 _ _ l0 rfl
    have l1 := s2 _ _ l1 rfl
    have l2 := s2 _ _ l2 rfl
    refine ev_iconst (mm 4 rfl) cI_0 ?_
    refine evs_istore (mm 5 rfl) (by decide) (fun lv3 l4 s4 => ?_)
    have l0 := s4 _ _ l0 rfl
    have l1 := s4 _ _ l1 rfl
    have l2 := s4 _ _ l2 rfl
    have l3 := s4 _ _ l3 rfl
    refine f67_l8_ok ?_ 100000 l0 l1 l2 l3 l4 h
    · intro M79 lv l0 l1 l2 l3
      intro h
      refine ev_aload_nR (mm 86 rfl) l0 ?_
      obtain ⟨v80, e81, h⟩ := bind_so h
      refine ev_get_r (mm 87 rfl) rfl e81 ?_
      refine ev_iload_n (mm 88 rfl) l2 ?_
      refine ev_aload_nR (mm 89 rfl) l1 ?_
      obtain ⟨v82, e83, h⟩ := bind_so h
      refine ev_get_r (mm 90 rfl) rfl e83 ?_
      refine ev_iconst (mm 91 rfl) cI_5 ?_
      obtain ⟨q84, e85, h⟩ := bind_so h
      rw [e85]
      obtain ⟨v86, e87, h⟩ := bind_so h
      refine ev_iaload (mm 92 rfl) e87 ?_
      refine ev_aload_nR (mm 93 rfl) l1 ?_
      obtain ⟨v88, e89, h⟩ := bind_so h
      refine ev_get_i (mm 94 rfl) rfl e89 ?_
      obtain ⟨p90, e91, h⟩ := bind_so h
      refine ev_callS_I [.int (v86), .int (v88)] (mm 95 rfl) (by decide) rfl rfl (by simp [vm_cat_A, vm_cat_I, vm_cat_R, vm_cat_J, vm_cat_0]) (f102_ok e91 (d + 1)) ?_
      rcases ite_so h with ⟨c92, h⟩ | ⟨c92, h⟩
      · refine ev_if_t 182 (mm 96 rfl) rfl c92 ?_
        refine ev_aload_nR (mm 107 rfl) l0 ?_
        obtain ⟨v93, e94, h⟩ := bind_so h
        refine ev_get_r (mm 108 rfl) rfl e94 ?_
        obtain ⟨q95, e96, h⟩ := bind_so h
        rw [e96]
        obtain ⟨v97, e98, h⟩ := bind_so h
        refine ev_get_r (mm 109 rfl) rfl e98 ?_
        refine ev_iconst (mm 110 rfl) cI_3 ?_
        obtain ⟨q99, e100, h⟩ := bind_so h
        rw [e100]
        obtain ⟨v101, e102, h⟩ := bind_so h
        refine ev_laload (mm 111 rfl) e102 ?_
        exact f67_j191_ok l0 l2 h
      · refine ev_if_f 182 (mm 96 rfl) rfl c92 ?_
        refine ev_aload_nR (mm 97 rfl) l0 ?_
        obtain ⟨v119, e120, h⟩ := bind_so h
        refine ev_get_r (mm 98 rfl) rfl e120 ?_
        refine ev_iload_n (mm 99 rfl) l3 ?_
        refine ev_aload_nR (mm 100 rfl) l1 ?_
        obtain ⟨v121, e122, h⟩ := bind_so h
        refine ev_get_r (mm 101 rfl) rfl e122 ?_
        refine ev_iconst (mm 102 rfl) cI_5 ?_
        obtain ⟨q123, e124, h⟩ := bind_so h
        rw [e124]
        obtain ⟨v125, e126, h⟩ := bind_so h
        refine ev_iaload (mm 103 rfl) e126 ?_
        refine ev_iadd (mm 104 rfl) ?_
        obtain ⟨q127, e128, h⟩ := bind_so h
        rw [e128]
        obtain ⟨v129, e130, h⟩ := bind_so h
        refine ev_laload (mm 105 rfl) e130 ?_
        refine ev_goto 191 (mm 106 rfl) rfl ?_
        exact f67_j191_ok l0 l2 h
  exact ⟨by decide, Nat.le_of_ble_eq_true rfl, key.1, key.2⟩
/-- PupilCoin$Sums.lift(LPupilCoin$Law;IJ)V -/
def f69 (x0 : Nat) (x1 : Nat) (x2 : Int32) (x3 : Int64) (M : vm_M) : Option (vm_M) :=
  (sg_r M x1 1 5).bind fun v1 =>
  (v1).bind fun q3 =>
  (sa_i M q3 0 0).bind fun v5 =>
  (s_dl (x3 * (v5 : Int32).toInt64) 100).bind fun v7 =>
  (sg_r M x0 9 5).bind fun v11 =>
  (v11).bind fun q13 =>
  (sa_l M q13 x2).bind fun v15 =>
  (sg_r M x0 9 7).bind fun v17 =>
  (v17).bind fun q19 =>
  (sa_l M q19 x2).bind fun v21 =>
  (sg_r M x1 1 5).bind fun v25 =>
  (v25).bind fun q27 =>
  (sa_i M q27 0 0).bind fun v29 =>
  if v29 < 0 then
    some M
  else
    if (lg_cmp ((v7 - v15) - v21) 0) ≤ 0 then
      some M
    else
      (sg_r M x0 9 6).bind fun v33 =>
      (v33).bind fun q35 =>
      (ss_l M q35 x2 ((v7 - v15) - v21)).bind fun M37 =>
      some M37
theorem f69_ok {x0 : Nat} {x1 : Nat} {x2 : Int32} {x3 : Int64} {M : vm_M} {r : vm_M} (h : f69 x0 x1 x2 x3 M = some r) (d : Nat) : vm_Cl (d + 1) 69 [.ref (x0), .ref (x1), .int (x2), .long (x3)] M (rV r) := by
  have key : Ev 0 (fun _ => 0) (vm_Cl (d + 0)) vp_69 9 9 false none (rV r) 0 (lv_args 0 [.ref (x0), .ref (x1), .int (x2), .long (x3)]) [] M := by
    have l0 : (0, .ref (x0)) ∈ lv_args 0 [.ref (x0), .ref (x1), .int (x2), .long (x3)] := List.Mem.head _
    have l1 : (1, .ref (x1)) ∈ lv_args 0 [.ref (x0), .ref (x1), .int (x2), .long (x3)] := List.Mem.tail _ (List.Mem.head _)
    have l2 : (2, .int (x2)) ∈ lv_args 0 [.ref (x0), .ref (x1), .int (x2), .long (x3)] := List.Mem.tail _ (List.Mem.tail _ (List.Mem.head _))
    have l3 : (3, .long (x3)) ∈ lv_args 0 [.ref (x0), .ref (x1), .int (x2), .long (x3)] := List.Mem.tail _ (List.Mem.tail _ (List.Mem.tail _ (List.Mem.head _)))
    unfold f69 at h
    refine ev_lload_n (mm 0 rfl) l3 ?_
    refine ev_aload_nR (mm 1 rfl) l1 ?_
    obtain ⟨v1, e2, h⟩ := bind_so h
    refine ev_get_r (mm 2 rfl) rfl e2 ?_
    refine ev_iconst (mm 3 rfl) cI_0 ?_
    obtain ⟨q3, e4, h⟩ := bind_so h
    rw [e4]
    obtain ⟨v5, e6, h⟩ := bind_so h
    refine ev_iaload (mm 4 rfl) e6 ?_
    refine ev_i2l (mm 5 rfl) ?_
    refine ev_lmul (mm 6 rfl) ?_
    refine ev_ldc2_w (mm 7 rfl) cJ_100 ?_
    obtain ⟨v7, e8, h⟩ := bind_so h
    refine ev_ldiv (mm 8 rfl) e8 ?_
    refine evs_lstore (mm 9 rfl) (by decide) (fun lv9 l5 s10 => ?_)
    have l0 := s10 _ _ l0 rfl
    have l1 := s10 _ _ l1 rfl
    have l2 := s10 _ _ l2 rfl
    refine ev_lload (mm 10 rfl) l5 ?_
    refine ev_aload_nR (mm 11 rfl) l0 ?_
    obtain ⟨v11, e12, h⟩ := bind_so h
    refine ev_get_r (mm 12 rfl) rfl e12 ?_
    refine ev_iload_n (mm 13 rfl) l2 ?_
    obtain ⟨q13, e14, h⟩ := bind_so h
    rw [e14]
    obtain ⟨v15, e16, h⟩ := bind_so h
    refine ev_laload (mm 14 rfl) e16 ?_
    refine ev_lsub (mm 15 rfl) ?_
    refine ev_aload_nR (mm 16 rfl) l0 ?_
    obtain ⟨v17, e18, h⟩ := bind_so h
    refine ev_get_r (mm 17 rfl) rfl e18 ?_
    refine ev_iload_n (mm 18 rfl) l2 ?_
    obtain ⟨q19, e20, h⟩ := bind_so h
    rw [e20]
    obtain ⟨v21, e22, h⟩ := bind_so h
    refine ev_laload (mm 19 rfl) e22 ?_
    refine ev_lsub (mm 20 rfl) ?_
    refine evs_lstore (mm 21 rfl) (by decide) (fun lv23 l7 s24 => ?_)
    have l0 := s24 _ _ l0 rfl
    have l1 := s24 _ _ l1 rfl
    have l2 := s24 _ _ l2 rfl
    refine ev_aload_nR (mm 22 rfl) l1 ?_
    obtain ⟨v25, e26, h⟩ := bind_so h
    refine ev_get_r (mm 23 rfl) rfl e26 ?_
    refine ev_iconst (mm 24 rfl) cI_0 ?_
    obtain ⟨q27, e28, h⟩ := bind_so h
    rw [e28]
    obtain ⟨v29, e30, h⟩ := bind_so h
    refine ev_iaload (mm 25 rfl) e30 ?_
    rcases ite_so h with ⟨c31, h⟩ | ⟨c31, h⟩
    · refine ev_if_t 57 (mm 26 rfl) rfl c31 ?_
      exact ev_return (mm 36 rfl) h
    · refine ev_if_f 57 (mm 26 rfl) rfl c31 ?_
      refine ev_lload (mm 27 rfl) l7 ?_
      refine ev_lconst (mm 28 rfl) cL_0 ?_
      refine ev_lcmp (mm 29 rfl) ?_
      rcases ite_so h with ⟨c32, h⟩ | ⟨c32, h⟩
      · refine ev_if_t 57 (mm 30 rfl) rfl c32 ?_
        exact ev_return (mm 36 rfl) h
      · refine ev_if_f 57 (mm 30 rfl) rfl c32 ?_
        refine ev_aload_nR (mm 31 rfl) l0 ?_
        obtain ⟨v33, e34, h⟩ := bind_so h
        refine ev_get_r (mm 32 rfl) rfl e34 ?_
        refine ev_iload_n (mm 33 rfl) l2 ?_
        refine ev_lload (mm 34 rfl) l7 ?_
        obtain ⟨q35, e36, h⟩ := bind_so h
        rw [e36]
        obtain ⟨M37, e38, h⟩ := bind_so h
        refine ev_lastore (mm 35 rfl) e38 ?_
        exact ev_return (mm 36 rfl) h
  exact ⟨by decide, Nat.le_of_ble_eq_true rfl, key.1, key.2⟩
/-- PupilCoin$Sums.press(LPupilCoin$Law;IJ)V -/
def f70 (x0 : Nat) (x1 : Nat) (x2 : Int32) (x3 : Int64) (M : vm_M) : Option (vm_M) :=
  (sg_r M x1 1 5).bind fun v1 =>
  (v1).bind fun q3 =>
  (sa_i M q3 0 1).bind fun v5 =>
  (s_dl (x3 * (v5 : Int32).toInt64) 100).bind fun v7 =>
  (sg_r M x0 9 5).bind fun v11 =>
  (v11).bind fun q13 =>
  (sa_l M q13 x2).bind fun v15 =>
  (sg_r M x0 9 6).bind fun v17 =>
  (v17).bind fun q19 =>
  (sa_l M q19 x2).bind fun v21 =>
  (sg_r M x1 1 5).bind fun v25 =>
  (v25).bind fun q27 =>
  (sa_i M q27 0 1).bind fun v29 =>
  if v29 < 0 then
    some M
  else
    if 0 ≤ (lg_cmp ((v7 - v15) - v21) 0) then
      some M
    else
      (sg_r M x0 9 7).bind fun v33 =>
      (v33).bind fun q35 =>
      (ss_l M q35 x2 ((v7 - v15) - v21)).bind fun M37 =>
      some M37
theorem f70_ok {x0 : Nat} {x1 : Nat} {x2 : Int32} {x3 : Int64} {M : vm_M} {r : vm_M} (h : f70 x0 x1 x2 x3 M = some r) (d : Nat) : vm_Cl (d + 1) 70 [.ref (x0), .ref (x1), .int (x2), .long (x3)] M (rV r) := by
  have key : Ev 0 (fun _ => 0) (vm_Cl (d + 0)) vp_70 9 9 false none (rV r) 0 (lv_args 0 [.ref (x0), .ref (x1), .int (x2), .long (x3)]) [] M := by
    have l0 : (0, .ref (x0)) ∈ lv_args 0 [.ref (x0), .ref (x1), .int (x2), .long (x3)] := List.Mem.head _
    have l1 : (1, .ref (x1)) ∈ lv_args 0 [.ref (x0), .ref (x1), .int (x2), .long (x3)] := List.Mem.tail _ (List.Mem.head _)
    have l2 : (2, .int (x2)) ∈ lv_args 0 [.ref (x0), .ref (x1), .int (x2), .long (x3)] := List.Mem.tail _ (List.Mem.tail _ (List.Mem.head _))
    have l3 : (3, .long (x3)) ∈ lv_args 0 [.ref (x0), .ref (x1), .int (x2), .long (x3)] := List.Mem.tail _ (List.Mem.tail _ (List.Mem.tail _ (List.Mem.head _)))
    unfold f70 at h
    refine ev_lload_n (mm 0 rfl) l3 ?_
    refine ev_aload_nR (mm 1 rfl) l1 ?_
    obtain ⟨v1, e2, h⟩ := bind_so h
    refine ev_get_r (mm 2 rfl) rfl e2 ?_
    refine ev_iconst (mm 3 rfl) cI_1 ?_
    obtain ⟨q3, e4, h⟩ := bind_so h
    rw [e4]
    obtain ⟨v5, e6, h⟩ := bind_so h
    refine ev_iaload (mm 4 rfl) e6 ?_
    refine ev_i2l (mm 5 rfl) ?_
    refine ev_lmul (mm 6 rfl) ?_
    refine ev_ldc2_w (mm 7 rfl) cJ_100 ?_
    obtain ⟨v7, e8, h⟩ := bind_so h
    refine ev_ldiv (mm 8 rfl) e8 ?_
    refine evs_lstore (mm 9 rfl) (by decide) (fun lv9 l5 s10 => ?_)
    have l0 := s10 _ _ l0 rfl
    have l1 := s10 _ _ l1 rfl
    have l2 := s10 _ _ l2 rfl
    refine ev_lload (mm 10 rfl) l5 ?_
    refine ev_aload_nR (mm 11 rfl) l0 ?_
    obtain ⟨v11, e12, h⟩ := bind_so h
    refine ev_get_r (mm 12 rfl) rfl e12 ?_
    refine ev_iload_n (mm 13 rfl) l2 ?_
    obtain ⟨q13, e14, h⟩ := bind_so h
    rw [e14]
    obtain ⟨v15, e16, h⟩ := bind_so h
    refine ev_laload (mm 14 rfl) e16 ?_
    refine ev_lsub (mm 15 rfl) ?_
    refine ev_aload_nR (mm 16 rfl) l0 ?_
    obtain ⟨v17, e18, h⟩ := bind_so h
    refine ev_get_r (mm 17 rfl) rfl e18 ?_
    refine ev_iload_n (mm 18 rfl) l2 ?_
    obtain ⟨q19, e20, h⟩ := bind_so h
    rw [e20]
    obtain ⟨v21, e22, h⟩ := bind_so h
    refine ev_laload (mm 19 rfl) e22 ?_
    refine ev_lsub (mm 20 rfl) ?_
    refine evs_lstore (mm 21 rfl) (by decide) (fun lv23 l7 s24 => ?_)
    have l0 := s24 _ _ l0 rfl
    have l1 := s24 _ _ l1 rfl
    have l2 := s24 _ _ l2 rfl
    refine ev_aload_nR (mm 22 rfl) l1 ?_
    obtain ⟨v25, e26, h⟩ := bind_so h
    refine ev_get_r (mm 23 rfl) rfl e26 ?_
    refine ev_iconst (mm 24 rfl) cI_1 ?_
    obtain ⟨q27, e28, h⟩ := bind_so h
    rw [e28]
    obtain ⟨v29, e30, h⟩ := bind_so h
    refine ev_iaload (mm 25 rfl) e30 ?_
    rcases ite_so h with ⟨c31, h⟩ | ⟨c31, h⟩
    · refine ev_if_t 57 (mm 26 rfl) rfl c31 ?_
      exact ev_return (mm 36 rfl) h
    · refine ev_if_f 57 (mm 26 rfl) rfl c31 ?_
      refine ev_lload (mm 27 rfl) l7 ?_
      refine ev_lconst (mm 28 rfl) cL_0 ?_
      refine ev_lcmp (mm 29 rfl) ?_
      rcases ite_so h with ⟨c32, h⟩ | ⟨c32, h⟩
      · refine ev_if_t 57 (mm 30 rfl) rfl c32 ?_
        exact ev_return (mm 36 rfl) h
      · refine ev_if_f 57 (mm 30 rfl) rfl c32 ?_
        refine ev_aload_nR (mm 31 rfl) l0 ?_
        obtain ⟨v33, e34, h⟩ := bind_so h
        refine ev_get_r (mm 32 rfl) rfl e34 ?_
        refine ev_iload_n (mm 33 rfl) l2 ?_
        refine ev_lload (mm 34 rfl) l7 ?_
        obtain ⟨q35, e36, h⟩ := bind_so h
        rw [e36]
        obtain ⟨M37, e38, h⟩ := bind_so h
        refine ev_lastore (mm 35 rfl) e38 ?_
        exact ev_return (mm 36 rfl) h
  exact ⟨by decide, Nat.le_of_ble_eq_true rfl, key.1, key.2⟩
/-- PupilCoin$Sums.bound(LPupilCoin$Law;I)V -/
def f68 (x0 : Nat) (x1 : Nat) (x2 : Int32) (M : vm_M) : Option (vm_M) :=
  (sg_r M x0 9 10).bind fun v1 =>
  (v1).bind fun q3 =>
  (sa_l M q3 x2).bind fun v5 =>
  if (lg_cmp v5 0) = 0 then
    some M
  else
    (sg_l M x0 9 16).bind fun v8 =>
    if ¬ (lg_cmp v8 0) = 0 then
      (sg_r M x0 9 10).bind fun v11 =>
      (v11).bind fun q13 =>
      (sa_l M q13 x2).bind fun v15 =>
      (sg_r M x0 9 3).bind fun v17 =>
      (v17).bind fun q19 =>
      (sg_r M q19 3 0).bind fun v21 =>
      (v21).bind fun q23 =>
      (sa_l M q23 3).bind fun v25 =>
      (sg_l M x0 9 16).bind fun v27 =>
      (s_dl (v15 * v25) v27).bind fun v29 =>
      (sg_r M x1 1 5).bind fun v33 =>
      (v33).bind fun q35 =>
      (sa_i M q35 0 4).bind fun v37 =>
      if ¬ v37 = 0 then
        (s_ob M x0 9).bind fun _ =>
        (f70 x0 x1 x2 (s_mxJ (-10000000000) (s_mnJ 10000000000 v29)) M).bind fun p40 =>
        (s_ob p40 x0 9).bind fun _ =>
        (f69 x0 x1 x2 (s_mxJ (-10000000000) (s_mnJ 10000000000 v29)) p40).bind fun p42 =>
        some p42
      else
        (s_ob M x0 9).bind fun _ =>
        (f69 x0 x1 x2 (s_mxJ (-10000000000) (s_mnJ 10000000000 v29)) M).bind fun p46 =>
        (s_ob p46 x0 9).bind fun _ =>
        (f70 x0 x1 x2 (s_mxJ (-10000000000) (s_mnJ 10000000000 v29)) p46).bind fun p48 =>
        some p48
    else
      some M
theorem f68_ok {x0 : Nat} {x1 : Nat} {x2 : Int32} {M : vm_M} {r : vm_M} (h : f68 x0 x1 x2 M = some r) (d : Nat) : vm_Cl (d + 2) 68 [.ref (x0), .ref (x1), .int (x2)] M (rV r) := by
  have key : Ev 0 (fun _ => 0) (vm_Cl (d + 1)) vp_68 9 5 false none (rV r) 0 (lv_args 0 [.ref (x0), .ref (x1), .int (x2)]) [] M := by
    have l0 : (0, .ref (x0)) ∈ lv_args 0 [.ref (x0), .ref (x1), .int (x2)] := List.Mem.head _
    have l1 : (1, .ref (x1)) ∈ lv_args 0 [.ref (x0), .ref (x1), .int (x2)] := List.Mem.tail _ (List.Mem.head _)
    have l2 : (2, .int (x2)) ∈ lv_args 0 [.ref (x0), .ref (x1), .int (x2)] := List.Mem.tail _ (List.Mem.tail _ (List.Mem.head _))
    unfold f68 at h
    refine ev_aload_nR (mm 0 rfl) l0 ?_
    obtain ⟨v1, e2, h⟩ := bind_so h
    refine ev_get_r (mm 1 rfl) rfl e2 ?_
    refine ev_iload_n (mm 2 rfl) l2 ?_
    obtain ⟨q3, e4, h⟩ := bind_so h
    rw [e4]
    obtain ⟨v5, e6, h⟩ := bind_so h
    refine ev_laload (mm 3 rfl) e6 ?_
    refine ev_lconst (mm 4 rfl) cL_0 ?_
    refine ev_lcmp (mm 5 rfl) ?_
    rcases ite_so h with ⟨c7, h⟩ | ⟨c7, h⟩
    · refine ev_if_t 20 (mm 6 rfl) rfl c7 ?_
      exact ev_return (mm 12 rfl) h
    · refine ev_if_f 20 (mm 6 rfl) rfl c7 ?_
      refine ev_aload_nR (mm 7 rfl) l0 ?_
      obtain ⟨v8, e9, h⟩ := bind_so h
      refine ev_get_l (mm 8 rfl) rfl e9 ?_
      refine ev_lconst (mm 9 rfl) cL_0 ?_
      refine ev_lcmp (mm 10 rfl) ?_
      rcases ite_so h with ⟨c10, h⟩ | ⟨c10, h⟩
      · refine ev_if_t 21 (mm 11 rfl) rfl c10 ?_
        refine ev_ldc2_w (mm 13 rfl) cJ_m10000000000 ?_
        refine ev_ldc2_w (mm 14 rfl) cJ_10000000000 ?_
        refine ev_aload_nR (mm 15 rfl) l0 ?_
        obtain ⟨v11, e12, h⟩ := bind_so h
        refine ev_get_r (mm 16 rfl) rfl e12 ?_
        refine ev_iload_n (mm 17 rfl) l2 ?_
        obtain ⟨q13, e14, h⟩ := bind_so h
        rw [e14]
        obtain ⟨v15, e16, h⟩ := bind_so h
        refine ev_laload (mm 18 rfl) e16 ?_
        refine ev_aload_nR (mm 19 rfl) l0 ?_
        obtain ⟨v17, e18, h⟩ := bind_so h
        refine ev_get_r (mm 20 rfl) rfl e18 ?_
        obtain ⟨q19, e20, h⟩ := bind_so h
        rw [e20]
        obtain ⟨v21, e22, h⟩ := bind_so h
        refine ev_get_r (mm 21 rfl) rfl e22 ?_
        refine ev_iconst (mm 22 rfl) cI_3 ?_
        obtain ⟨q23, e24, h⟩ := bind_so h
        rw [e24]
        obtain ⟨v25, e26, h⟩ := bind_so h
        refine ev_laload (mm 23 rfl) e26 ?_
        refine ev_lmul (mm 24 rfl) ?_
        refine ev_aload_nR (mm 25 rfl) l0 ?_
        obtain ⟨v27, e28, h⟩ := bind_so h
        refine ev_get_l (mm 26 rfl) rfl e28 ?_
        obtain ⟨v29, e30, h⟩ := bind_so h
        refine ev_ldiv (mm 27 rfl) e30 ?_
        refine ev_mnJ (mm 28 rfl) (Nat.le_of_ble_eq_true rfl) ?_
        refine ev_mxJ (mm 29 rfl) (Nat.le_of_ble_eq_true rfl) ?_
        refine evs_lstore_n (mm 30 rfl) (by decide) (fun lv31 l3 s32 => ?_)
        have l0 := s32 _ _ l0 rfl
        have l1 := s32 _ _ l1 rfl
        have l2 := s32 _ _ l2 rfl
        refine ev_aload_nR (mm 31 rfl) l1 ?_
        obtain ⟨v33, e34, h⟩ := bind_so h
        refine ev_get_r (mm 32 rfl) rfl e34 ?_
        refine ev_iconst (mm 33 rfl) cI_4 ?_
        obtain ⟨q35, e36, h⟩ := bind_so h
        rw [e36]
        obtain ⟨v37, e38, h⟩ := bind_so h
        refine ev_iaload (mm 34 rfl) e38 ?_
        rcases ite_so h with ⟨c39, h⟩ | ⟨c39, h⟩
        · refine ev_if_t 81 (mm 35 rfl) rfl c39 ?_
          refine ev_aload_nR (mm 47 rfl) l0 ?_
          refine ev_aload_nR (mm 48 rfl) l1 ?_
          refine ev_iload_n (mm 49 rfl) l2 ?_
          refine ev_lload_n (mm 50 rfl) l3 ?_
          obtain ⟨_, e45, h⟩ := bind_so h
          obtain ⟨p40, e41, h⟩ := bind_so h
          refine ev_callV_V [.ref (x1), .int (x2), .long ((s_mxJ (-10000000000) (s_mnJ 10000000000 v29)))] (mm 51 rfl) rfl rfl (Nat.le_of_ble_eq_true rfl) (s_ob_of e45) (f70_ok e41 (d + 0)) ?_
          refine ev_aload_nR (mm 52 rfl) l0 ?_
          refine ev_aload_nR (mm 53 rfl) l1 ?_
          refine ev_iload_n (mm 54 rfl) l2 ?_
          refine ev_lload_n (mm 55 rfl) l3 ?_
          obtain ⟨_, e44, h⟩ := bind_so h
          obtain ⟨p42, e43, h⟩ := bind_so h
          refine ev_callV_V [.ref (x1), .int (x2), .long ((s_mxJ (-10000000000) (s_mnJ 10000000000 v29)))] (mm 56 rfl) rfl rfl (Nat.le_of_ble_eq_true rfl) (s_ob_of e44) (f69_ok e43 (d + 0)) ?_
          exact ev_return (mm 57 rfl) h
        · refine ev_if_f 81 (mm 35 rfl) rfl c39 ?_
          refine ev_aload_nR (mm 36 rfl) l0 ?_
          refine ev_aload_nR (mm 37 rfl) l1 ?_
          refine ev_iload_n (mm 38 rfl) l2 ?_
          refine ev_lload_n (mm 39 rfl) l3 ?_
          obtain ⟨_, e51, h⟩ := bind_so h
          obtain ⟨p46, e47, h⟩ := bind_so h
          refine ev_callV_V [.ref (x1), .int (x2), .long ((s_mxJ (-10000000000) (s_mnJ 10000000000 v29)))] (mm 40 rfl) rfl rfl (Nat.le_of_ble_eq_true rfl) (s_ob_of e51) (f69_ok e47 (d + 0)) ?_
          refine ev_aload_nR (mm 41 rfl) l0 ?_
          refine ev_aload_nR (mm 42 rfl) l1 ?_
          refine ev_iload_n (mm 43 rfl) l2 ?_
          refine ev_lload_n (mm 44 rfl) l3 ?_
          obtain ⟨_, e50, h⟩ := bind_so h
          obtain ⟨p48, e49, h⟩ := bind_so h
          refine ev_callV_V [.ref (x1), .int (x2), .long ((s_mxJ (-10000000000) (s_mnJ 10000000000 v29)))] (mm 45 rfl) rfl rfl (Nat.le_of_ble_eq_true rfl) (s_ob_of e50) (f70_ok e49 (d + 0)) ?_
          refine ev_goto 95 (mm 46 rfl) rfl ?_
          exact ev_return (mm 57 rfl) h
      · refine ev_if_f 21 (mm 11 rfl) rfl c10 ?_
        exact ev_return (mm 12 rfl) h
  exact ⟨by decide, Nat.le_of_ble_eq_true rfl, key.1, key.2⟩
def f71_l8 (x0 : Nat) (k59 : Int64 → Int64 → vm_M → Option (vm_M)) : Nat → Int64 → Int64 → Int32 → vm_M → Option (vm_M)
  | 0 => fun _ _ _ _ => none
  | n + 1 => fun x3 x5 x7 M =>
    if 12 ≤ x7 then
      k59 x3 x5 M
    else
      (sg_r M x0 9 5).bind fun v8 =>
      (v8).bind fun q10 =>
      (sa_l M q10 x7).bind fun v12 =>
      (sg_r M x0 9 6).bind fun v14 =>
      (v14).bind fun q16 =>
      (sa_l M q16 x7).bind fun v18 =>
      (sg_r M x0 9 7).bind fun v20 =>
      (v20).bind fun q22 =>
      (sa_l M q22 x7).bind fun v24 =>
      (sg_r M x0 9 9).bind fun v28 =>
      (v28).bind fun q30 =>
      (sa_l M q30 x7).bind fun v32 =>
      f71_l8 x0 k59 n (x3 - ((v12 + v18) + v24)) (x5 + v32) (x7 + 1) M
theorem f71_l8_ok {d : Nat} {x0 : Nat} {k59 : Int64 → Int64 → vm_M → Option (vm_M)} {r : vm_M} (hk59 : ∀ {y3 : Int64} {y5 : Int64} {M : vm_M} {lv : vm_L}, (0, .ref (x0)) ∈ lv → (3, .long (y3)) ∈ lv → (5, .long (y5)) ∈ lv → k59 y3 y5 M = some r → Ev 0 (fun _ => 0) (vm_Cl (d + 0)) vp_71 9 13 false none (rV r) 59 lv [] M) : ∀ (n : Nat) {x3 : Int64} {x5 : Int64} {x7 : Int32} {M : vm_M} {lv : vm_L}, (0, .ref (x0)) ∈ lv → (3, .long (x3)) ∈ lv → (5, .long (x5)) ∈ lv → (7, .int (x7)) ∈ lv → f71_l8 x0 k59 n x3 x5 x7 M = some r → Ev 0 (fun _ => 0) (vm_Cl (d + 0)) vp_71 9 13 false none (rV r) 8 lv [] M := by
  intro n
  induction n with
  | zero =>
    intro x3 x5 x7 M lv l0 l3 l5 l7 h
    cases h
  | succ n ih =>
    intro x3 x5 x7 M lv l0 l3 l5 l7 h
    dsimp only [f71_l8] at h
    refine ev_iload (mm 6 rfl) l7 ?_
    refine ev_bipush (mm 7 rfl) cB_12 ?_
    rcases ite_so h with ⟨c7, h⟩ | ⟨c7, h⟩
    · refine ev_ic_t 59 (mm 8 rfl) rfl c7 ?_
      exact hk59 l0 l3 l5 h
    · refine ev_ic_f 59 (mm 8 rfl) rfl c7 ?_
      refine ev_lload_n (mm 9 rfl) l3 ?_
      refine ev_aload_nR (mm 10 rfl) l0 ?_
      obtain ⟨v8, e9, h⟩ := bind_so h
      refine ev_get_r (mm 11 rfl) rfl e9 ?_
      refine ev_iload (mm 12 rfl) l7 ?_
      obtain ⟨q10, e11, h⟩ := bind_so h
      rw [e11]
      obtain ⟨v12, e13, h⟩ := bind_so h
      refine ev_laload (mm 13 rfl) e13 ?_
      refine ev_aload_nR (mm 14 rfl) l0 ?_
      obtain ⟨v14, e15, h⟩ := bind_so h
      refine ev_get_r (mm 15 rfl) rfl e15 ?_
      refine ev_iload (mm 16 rfl) l7 ?_
      obtain ⟨q16, e17, h⟩ := bind_so h
      rw [e17]
      obtain ⟨v18, e19, h⟩ := bind_so h
      refine ev_laload (mm 17 rfl) e19 ?_
      refine ev_ladd (mm 18 rfl) ?_
      refine ev_aload_nR (mm 19 rfl) l0 ?_
      obtain ⟨v20, e21, h⟩ := bind_so h
      refine ev_get_r (mm 20 rfl) rfl e21 ?_
      refine ev_iload (mm 21 rfl) l7 ?_
      obtain ⟨q22, e23, h⟩ := bind_so h
      rw [e23]
      obtain ⟨v24, e25, h⟩ := bind_so h
      refine ev_laload (mm 22 rfl) e25 ?_
      refine ev_ladd (mm 23 rfl) ?_
      refine ev_lsub (mm 24 rfl) ?_
      refine evs_lstore_n (mm 25 rfl) (by decide) (fun lv26 l3 s27 => ?_)
      have l0 := s27 _ _ l0 rfl
      have l5 := s27 _ _ l5 rfl
      have l7 := s27 _ _ l7 rfl
      refine ev_lload (mm 26 rfl) l5 ?_
      refine ev_aload_nR (mm 27 rfl) l0 ?_
      obtain ⟨v28, e29, h⟩ := bind_so h
      refine ev_get_r (mm 28 rfl) rfl e29 ?_
      refine ev_iload (mm 29 rfl) l7 ?_
      obtain ⟨q30, e31, h⟩ := bind_so h
      rw [e31]
      obtain ⟨v32, e33, h⟩ := bind_so h
      refine ev_laload (mm 30 rfl) e33 ?_
      refine ev_ladd (mm 31 rfl) ?_
      refine evs_lstore (mm 32 rfl) (by decide) (fun lv34 l5 s35 => ?_)
      have l0 := s35 _ _ l0 rfl
      have l3 := s35 _ _ l3 rfl
      have l7 := s35 _ _ l7 rfl
      refine evs_iinc (mm 33 rfl) cI_1 l7 (by decide) (fun lv36 l7 s37 => ?_)
      have l0 := s37 _ _ l0 rfl
      have l3 := s37 _ _ l3 rfl
      have l5 := s37 _ _ l5 rfl
      refine ev_goto 8 (mm 34 rfl) rfl ?_
      exact ih l0 l3 l5 l7 h
def f71_l73 (x0 : Nat) (x3 : Int64) (x5 : Int64) (k133 : Int64 → vm_M → Option (vm_M)) : Nat → Int64 → Int32 → vm_M → Option (vm_M)
  | 0 => fun _ _ _ => none
  | n + 1 => fun x7 x9 M =>
    if 12 ≤ x9 then
      k133 x7 M
    else
      (sg_r M x0 9 8).bind fun v47 =>
      (s_dl x3 x5).bind fun v49 =>
      (sg_r M x0 9 9).bind fun v51 =>
      (v51).bind fun q53 =>
      (sa_l M q53 x9).bind fun v55 =>
      (s_rl x3 x5).bind fun v57 =>
      (sg_r M x0 9 9).bind fun v59 =>
      (v59).bind fun q61 =>
      (sa_l M q61 x9).bind fun v63 =>
      (s_dl (v57 * v63) x5).bind fun v65 =>
      (v47).bind fun q67 =>
      (ss_l M q67 x9 ((v49 * v55) + v65)).bind fun M69 =>
      (sg_r M69 x0 9 8).bind fun v71 =>
      (v71).bind fun q73 =>
      (sa_l M69 q73 x9).bind fun v75 =>
      f71_l73 x0 x3 x5 k133 n (x7 - v75) (x9 + 1) M69
theorem f71_l73_ok {d : Nat} {x0 : Nat} {x3 : Int64} {x5 : Int64} {k133 : Int64 → vm_M → Option (vm_M)} {r : vm_M} (hk133 : ∀ {y7 : Int64} {M : vm_M} {lv : vm_L}, (0, .ref (x0)) ∈ lv → (7, .long (y7)) ∈ lv → k133 y7 M = some r → Ev 0 (fun _ => 0) (vm_Cl (d + 0)) vp_71 9 13 false none (rV r) 133 lv [] M) : ∀ (n : Nat) {x7 : Int64} {x9 : Int32} {M : vm_M} {lv : vm_L}, (0, .ref (x0)) ∈ lv → (3, .long (x3)) ∈ lv → (5, .long (x5)) ∈ lv → (7, .long (x7)) ∈ lv → (9, .int (x9)) ∈ lv → f71_l73 x0 x3 x5 k133 n x7 x9 M = some r → Ev 0 (fun _ => 0) (vm_Cl (d + 0)) vp_71 9 13 false none (rV r) 73 lv [] M := by
  intro n
  induction n with
  | zero =>
    intro x7 x9 M lv l0 l3 l5 l7 l9 h
    cases h
  | succ n ih =>
    intro x7 x9 M lv l0 l3 l5 l7 l9 h
    dsimp only [f71_l73] at h
    refine ev_iload (mm 44 rfl) l9 ?_
    refine ev_bipush (mm 45 rfl) cB_12 ?_
    rcases ite_so h with ⟨c46, h⟩ | ⟨c46, h⟩
    · refine ev_ic_t 133 (mm 46 rfl) rfl c46 ?_
      exact hk133 l0 l7 h
    · refine ev_ic_f 133 (mm 46 rfl) rfl c46 ?_
      refine ev_aload_nR (mm 47 rfl) l0 ?_
      obtain ⟨v47, e48, h⟩ := bind_so h
      refine ev_get_r (mm 48 rfl) rfl e48 ?_
      refine ev_iload (mm 49 rfl) l9 ?_
      refine ev_lload_n (mm 50 rfl) l3 ?_
      refine ev_lload (mm 51 rfl) l5 ?_
      obtain ⟨v49, e50, h⟩ := bind_so h
      refine ev_ldiv (mm 52 rfl) e50 ?_
      refine ev_aload_nR (mm 53 rfl) l0 ?_
      obtain ⟨v51, e52, h⟩ := bind_so h
      refine ev_get_r (mm 54 rfl) rfl e52 ?_
      refine ev_iload (mm 55 rfl) l9 ?_
      obtain ⟨q53, e54, h⟩ := bind_so h
      rw [e54]
      obtain ⟨v55, e56, h⟩ := bind_so h
      refine ev_laload (mm 56 rfl) e56 ?_
      refine ev_lmul (mm 57 rfl) ?_
      refine ev_lload_n (mm 58 rfl) l3 ?_
      refine ev_lload (mm 59 rfl) l5 ?_
      obtain ⟨v57, e58, h⟩ := bind_so h
      refine ev_lrem (mm 60 rfl) e58 ?_
      refine ev_aload_nR (mm 61 rfl) l0 ?_
      obtain ⟨v59, e60, h⟩ := bind_so h
      refine ev_get_r (mm 62 rfl) rfl e60 ?_
      refine ev_iload (mm 63 rfl) l9 ?_
      obtain ⟨q61, e62, h⟩ := bind_so h
      rw [e62]
      obtain ⟨v63, e64, h⟩ := bind_so h
      refine ev_laload (mm 64 rfl) e64 ?_
      refine ev_lmul (mm 65 rfl) ?_
      refine ev_lload (mm 66 rfl) l5 ?_
      obtain ⟨v65, e66, h⟩ := bind_so h
      refine ev_ldiv (mm 67 rfl) e66 ?_
      refine ev_ladd (mm 68 rfl) ?_
      obtain ⟨q67, e68, h⟩ := bind_so h
      rw [e68]
      obtain ⟨M69, e70, h⟩ := bind_so h
      refine ev_lastore (mm 69 rfl) e70 ?_
      refine ev_lload (mm 70 rfl) l7 ?_
      refine ev_aload_nR (mm 71 rfl) l0 ?_
      obtain ⟨v71, e72, h⟩ := bind_so h
      refine ev_get_r (mm 72 rfl) rfl e72 ?_
      refine ev_iload (mm 73 rfl) l9 ?_
      obtain ⟨q73, e74, h⟩ := bind_so h
      rw [e74]
      obtain ⟨v75, e76, h⟩ := bind_so h
      refine ev_laload (mm 74 rfl) e76 ?_
      refine ev_lsub (mm 75 rfl) ?_
      refine evs_lstore (mm 76 rfl) (by decide) (fun lv77 l7 s78 => ?_)
      have l0 := s78 _ _ l0 rfl
      have l3 := s78 _ _ l3 rfl
      have l5 := s78 _ _ l5 rfl
      have l9 := s78 _ _ l9 rfl
      refine evs_iinc (mm 77 rfl) cI_1 l9 (by decide) (fun lv79 l9 s80 => ?_)
      have l0 := s80 _ _ l0 rfl
      have l3 := s80 _ _ l3 rfl
      have l5 := s80 _ _ l5 rfl
      have l7 := s80 _ _ l7 rfl
      refine ev_goto 73 (mm 78 rfl) rfl ?_
      exact ih l0 l3 l5 l7 l9 h
def f71_l152 (x0 : Nat) (x9 : Int64) : Nat → Int64 → Int32 → vm_M → Option (vm_M)
  | 0 => fun _ _ _ => none
  | n + 1 => fun x7 x11 M =>
    if 144 ≤ x11 then
      some M
    else
      if (lg_cmp x7 0) = 0 then
        some M
      else
        (s_rm x11 12).bind fun v90 =>
        (sg_r M x0 9 9).bind fun v94 =>
        (v94).bind fun q96 =>
        (sa_l M q96 v90).bind fun v98 =>
        if 0 < (lg_cmp v98 0) then
          (sg_r M x0 9 8).bind fun v101 =>
          (v101).bind fun q103 =>
          (sa_l M q103 v90).bind fun v105 =>
          (ss_l M q103 v90 (v105 + x9)).bind fun M107 =>
          f71_l152 x0 x9 n (x7 - x9) (x11 + 1) M107
        else
          f71_l152 x0 x9 n x7 (x11 + 1) M
theorem f71_l152_ok {d : Nat} {x0 : Nat} {x9 : Int64} {r : vm_M} : ∀ (n : Nat) {x7 : Int64} {x11 : Int32} {M : vm_M} {lv : vm_L}, (0, .ref (x0)) ∈ lv → (7, .long (x7)) ∈ lv → (9, .long (x9)) ∈ lv → (11, .int (x11)) ∈ lv → f71_l152 x0 x9 n x7 x11 M = some r → Ev 0 (fun _ => 0) (vm_Cl (d + 0)) vp_71 9 13 false none (rV r) 152 lv [] M := by
  intro n
  induction n with
  | zero =>
    intro x7 x11 M lv l0 l7 l9 l11 h
    cases h
  | succ n ih =>
    intro x7 x11 M lv l0 l7 l9 l11 h
    dsimp only [f71_l152] at h
    refine ev_iload (mm 89 rfl) l11 ?_
    refine ev_sipush (mm 90 rfl) cS_144 ?_
    rcases ite_so h with ⟨c88, h⟩ | ⟨c88, h⟩
    · refine ev_ic_t 214 (mm 91 rfl) rfl c88 ?_
      exact ev_return (mm 122 rfl) h
    · refine ev_ic_f 214 (mm 91 rfl) rfl c88 ?_
      refine ev_lload (mm 92 rfl) l7 ?_
      refine ev_lconst (mm 93 rfl) cL_0 ?_
      refine ev_lcmp (mm 94 rfl) ?_
      rcases ite_so h with ⟨c89, h⟩ | ⟨c89, h⟩
      · refine ev_if_t 214 (mm 95 rfl) rfl c89 ?_
        exact ev_return (mm 122 rfl) h
      · refine ev_if_f 214 (mm 95 rfl) rfl c89 ?_
        refine ev_iload (mm 96 rfl) l11 ?_
        refine ev_bipush (mm 97 rfl) cB_12 ?_
        obtain ⟨v90, e91, h⟩ := bind_so h
        refine ev_irem (mm 98 rfl) e91 ?_
        refine evs_istore (mm 99 rfl) (by decide) (fun lv92 l12 s93 => ?_)
        have l0 := s93 _ _ l0 rfl
        have l7 := s93 _ _ l7 rfl
        have l9 := s93 _ _ l9 rfl
        have l11 := s93 _ _ l11 rfl
        refine ev_aload_nR (mm 100 rfl) l0 ?_
        obtain ⟨v94, e95, h⟩ := bind_so h
        refine ev_get_r (mm 101 rfl) rfl e95 ?_
        refine ev_iload (mm 102 rfl) l12 ?_
        obtain ⟨q96, e97, h⟩ := bind_so h
        rw [e97]
        obtain ⟨v98, e99, h⟩ := bind_so h
        refine ev_laload (mm 103 rfl) e99 ?_
        refine ev_lconst (mm 104 rfl) cL_0 ?_
        refine ev_lcmp (mm 105 rfl) ?_
        rcases ite_so h with ⟨c100, h⟩ | ⟨c100, h⟩
        · refine ev_if_t 189 (mm 106 rfl) rfl c100 ?_
          refine ev_aload_nR (mm 108 rfl) l0 ?_
          obtain ⟨v101, e102, h⟩ := bind_so h
          refine ev_get_r (mm 109 rfl) rfl e102 ?_
          refine ev_iload (mm 110 rfl) l12 ?_
          refine ev_dup2 (mm 111 rfl) rfl (by cases (v101 : Option Nat) <;> rfl) ?_
          obtain ⟨q103, e104, h⟩ := bind_so h
          rw [e104]
          obtain ⟨v105, e106, h⟩ := bind_so h
          refine ev_laload (mm 112 rfl) e106 ?_
          refine ev_lload (mm 113 rfl) l9 ?_
          refine ev_ladd (mm 114 rfl) ?_
          obtain ⟨M107, e108, h⟩ := bind_so h
          refine ev_lastore (mm 115 rfl) e108 ?_
          refine ev_lload (mm 116 rfl) l7 ?_
          refine ev_lload (mm 117 rfl) l9 ?_
          refine ev_lsub (mm 118 rfl) ?_
          refine evs_lstore (mm 119 rfl) (by decide) (fun lv109 l7 s110 => ?_)
          have l0 := s110 _ _ l0 rfl
          have l9 := s110 _ _ l9 rfl
          have l11 := s110 _ _ l11 rfl
          refine evs_iinc (mm 120 rfl) cI_1 l11 (by decide) (fun lv111 l11 s112 => ?_)
          have l0 := s112 _ _ l0 rfl
          have l7 := s112 _ _ l7 rfl
          have l9 := s112 _ _ l9 rfl
          refine ev_goto 152 (mm 121 rfl) rfl ?_
          exact ih l0 l7 l9 l11 h
        · refine ev_if_f 189 (mm 106 rfl) rfl c100 ?_
          refine ev_goto 208 (mm 107 rfl) rfl ?_
          refine evs_iinc (mm 120 rfl) cI_1 l11 (by decide) (fun lv113 l11 s114 => ?_)
          have l0 := s114 _ _ l0 rfl
          have l7 := s114 _ _ l7 rfl
          have l9 := s114 _ _ l9 rfl
          refine ev_goto 152 (mm 121 rfl) rfl ?_
          exact ih l0 l7 l9 l11 h
/-- PupilCoin$Sums.partOut(J)V -/
def f71 (x0 : Nat) (x1 : Int64) (M : vm_M) : Option (vm_M) :=
  f71_l8 x0
    (fun y38 y39 M40 =>
      if 0 < (lg_cmp y39 0) then
        f71_l73 x0 y38 y39
          (fun y81 M82 =>
            if (lg_cmp y81 0) ≤ 0 then
              f71_l152 x0 (-1)
              
                100000 y81 0 M82
            else
              f71_l152 x0 1
              
                100000 y81 0 M82)
          100000 y38 0 M40
      else
        some M40)
    100000 x1 0 0 M
theorem f71_ok {x0 : Nat} {x1 : Int64} {M : vm_M} {r : vm_M} (h : f71 x0 x1 M = some r) (d : Nat) : vm_Cl (d + 1) 71 [.ref (x0), .long (x1)] M (rV r) := by
  have key : Ev 0 (fun _ => 0) (vm_Cl (d + 0)) vp_71 9 13 false none (rV r) 0 (lv_args 0 [.ref (x0), .long (x1)]) [] M := by
    have l0 : (0, .ref (x0)) ∈ lv_args 0 [.ref (x0), .long (x1)] := List.Mem.head _
    have l1 : (1, .long (x1)) ∈ lv_args 0 [.ref (x0), .long (x1)] := List.Mem.tail _ (List.Mem.head _)
    unfold f71 at h
    refine ev_lload_n (mm 0 rfl) l1 ?_
    refine evs_lstore_n (mm 1 rfl) (by decide) (fun lv1 l3 s2 => ?_)
    have l0 := s2 _ _ l0 rfl
    refine ev_lconst (mm 2 rfl) cL_0 ?_
    refine evs_lstore (mm 3 rfl) (by decide) (fun lv3 l5 s4 => ?_)
    have l0 := s4 _ _ l0 rfl
    have l3 := s4 _ _ l3 rfl
    refine ev_iconst (mm 4 rfl) cI_0 ?_
    refine evs_istore (mm 5 rfl) (by decide) (fun lv5 l7 s6 => ?_)
    have l0 := s6 _ _ l0 rfl
    have l3 := s6 _ _ l3 rfl
    have l5 := s6 _ _ l5 rfl
    refine f71_l8_ok ?_ 100000 l0 l3 l5 l7 h
    · intro y38 y39 M40 lv l0 l3 l5
      intro h
      refine ev_lload (mm 35 rfl) l5 ?_
      refine ev_lconst (mm 36 rfl) cL_0 ?_
      refine ev_lcmp (mm 37 rfl) ?_
      rcases ite_so h with ⟨c41, h⟩ | ⟨c41, h⟩
      · refine ev_if_t 67 (mm 38 rfl) rfl c41 ?_
        refine ev_lload_n (mm 40 rfl) l3 ?_
        refine evs_lstore (mm 41 rfl) (by decide) (fun lv42 l7 s43 => ?_)
        have l0 := s43 _ _ l0 rfl
        have l3 := s43 _ _ l3 rfl
        have l5 := s43 _ _ l5 rfl
        refine ev_iconst (mm 42 rfl) cI_0 ?_
        refine evs_istore (mm 43 rfl) (by decide) (fun lv44 l9 s45 => ?_)
        have l0 := s45 _ _ l0 rfl
        have l3 := s45 _ _ l3 rfl
        have l5 := s45 _ _ l5 rfl
        have l7 := s45 _ _ l7 rfl
        refine f71_l73_ok ?_ 100000 l0 l3 l5 l7 l9 h
        · intro y81 M82 lv l0 l7
          intro h
          refine ev_lload (mm 79 rfl) l7 ?_
          refine ev_lconst (mm 80 rfl) cL_0 ?_
          refine ev_lcmp (mm 81 rfl) ?_
          rcases ite_so h with ⟨c83, h⟩ | ⟨c83, h⟩
          · refine ev_if_t 144 (mm 82 rfl) rfl c83 ?_
            refine ev_ldc2_w (mm 85 rfl) cJ_m1 ?_
            refine evs_lstore (mm 86 rfl) (by decide) (fun lv84 l9 s85 => ?_)
            have l0 := s85 _ _ l0 rfl
            have l7 := s85 _ _ l7 rfl
            refine ev_iconst (mm 87 rfl) cI_0 ?_
            refine evs_istore (mm 88 rfl) (by decide) (fun lv86 l11 s87 => ?_)
            have l0 := s87 _ _ l0 rfl
            have l7 := s87 _ _ l7 rfl
            have l9 := s87 _ _ l9 rfl
            refine f71_l152_ok 100000 l0 l7 l9 l11 h
          · refine ev_if_f 144 (mm 82 rfl) rfl c83 ?_
            refine ev_lconst (mm 83 rfl) cL_1 ?_
            refine ev_goto 147 (mm 84 rfl) rfl ?_
            refine evs_lstore (mm 86 rfl) (by decide) (fun lv115 l9 s116 => ?_)
            have l0 := s116 _ _ l0 rfl
            have l7 := s116 _ _ l7 rfl
            refine ev_iconst (mm 87 rfl) cI_0 ?_
            refine evs_istore (mm 88 rfl) (by decide) (fun lv117 l11 s118 => ?_)
            have l0 := s118 _ _ l0 rfl
            have l7 := s118 _ _ l7 rfl
            have l9 := s118 _ _ l9 rfl
            refine f71_l152_ok 100000 l0 l7 l9 l11 h
      · refine ev_if_f 67 (mm 38 rfl) rfl c41 ?_
        exact ev_return (mm 39 rfl) h
  exact ⟨by decide, Nat.le_of_ble_eq_true rfl, key.1, key.2⟩
def f199_l6 (x0 : Nat) (x1 : Int64) (x4 : Int32) : Nat → Int32 → vm_M → Option (vm_M)
  | 0 => fun _ _ => none
  | n + 1 => fun x3 M =>
    if x4 ≤ x3 then
      some M
    else
      (ss_l M x0 x3 x1).bind fun M8 =>
      f199_l6 x0 x1 x4 n (x3 + 1) M8
theorem f199_l6_ok {d : Nat} {x0 : Nat} {x1 : Int64} {x4 : Int32} {r : vm_M} : ∀ (n : Nat) {x3 : Int32} {M : vm_M} {lv : vm_L}, (0, .ref (x0)) ∈ lv → (1, .long (x1)) ∈ lv → (3, .int (x3)) ∈ lv → (4, .int (x4)) ∈ lv → f199_l6 x0 x1 x4 n x3 M = some r → Ev 0 (fun _ => 0) (vm_Cl (d + 0)) vp_199 14 5 false none (rV r) 6 lv [] M := by
  intro n
  induction n with
  | zero =>
    intro x3 M lv l0 l1 l3 l4 h
    cases h
  | succ n ih =>
    intro x3 M lv l0 l1 l3 l4 h
    dsimp only [f199_l6] at h
    refine ev_iload_n (mm 5 rfl) l3 ?_
    refine ev_iload (mm 6 rfl) l4 ?_
    rcases ite_so h with ⟨c7, h⟩ | ⟨c7, h⟩
    · refine ev_ic_t 22 (mm 7 rfl) rfl c7 ?_
      exact ev_return (mm 14 rfl) h
    · refine ev_ic_f 22 (mm 7 rfl) rfl c7 ?_
      refine ev_aload_nR (mm 8 rfl) l0 ?_
      refine ev_iload_n (mm 9 rfl) l3 ?_
      refine ev_lload_n (mm 10 rfl) l1 ?_
      obtain ⟨M8, e9, h⟩ := bind_so h
      refine ev_lastore (mm 11 rfl) e9 ?_
      refine evs_iinc (mm 12 rfl) cI_1 l3 (by decide) (fun lv10 l3 s11 => ?_)
      have l0 := s11 _ _ l0 rfl
      have l1 := s11 _ _ l1 rfl
      have l4 := s11 _ _ l4 rfl
      refine ev_goto 6 (mm 13 rfl) rfl ?_
      exact ih l0 l1 l3 l4 h
/-- java/util/Arrays.fill([JJ)V -/
def f199 (x0 : Nat) (x1 : Int64) (M : vm_M) : Option (vm_M) :=
  (s_len M x0 1).bind fun v3 =>
  f199_l6 x0 x1 v3
  
    100000 0 M
theorem f199_ok {x0 : Nat} {x1 : Int64} {M : vm_M} {r : vm_M} (h : f199 x0 x1 M = some r) (d : Nat) : vm_Cl (d + 1) 199 [.ref (x0), .long (x1)] M (rV r) := by
  have key : Ev 0 (fun _ => 0) (vm_Cl (d + 0)) vp_199 14 5 false none (rV r) 0 (lv_args 0 [.ref (x0), .long (x1)]) [] M := by
    have l0 : (0, .ref (x0)) ∈ lv_args 0 [.ref (x0), .long (x1)] := List.Mem.head _
    have l1 : (1, .long (x1)) ∈ lv_args 0 [.ref (x0), .long (x1)] := List.Mem.tail _ (List.Mem.head _)
    unfold f199 at h
    refine ev_iconst (mm 0 rfl) cI_0 ?_
    refine evs_istore_n (mm 1 rfl) (by decide) (fun lv1 l3 s2 => ?_)
    have l0 := s2 _ _ l0 rfl
    have l1 := s2 _ _ l1 rfl
    refine ev_aload_nR (mm 2 rfl) l0 ?_
    obtain ⟨v3, e4, h⟩ := bind_so h
    refine ev_len (mm 3 rfl) (by decide) e4 ?_
    refine evs_istore (mm 4 rfl) (by decide) (fun lv5 l4 s6 => ?_)
    have l0 := s6 _ _ l0 rfl
    have l1 := s6 _ _ l1 rfl
    have l3 := s6 _ _ l3 rfl
    refine f199_l6_ok 100000 l0 l1 l3 l4 h
  exact ⟨by decide, Nat.le_of_ble_eq_true rfl, key.1, key.2⟩
def f63_l59 (x0 : Nat) (x1 : Nat) (x2 : Int32) (x3 : Int32) (k94 : vm_M → Option (vm_M)) : Nat → Int32 → vm_M → Option (vm_M)
  | 0 => fun _ _ => none
  | n + 1 => fun x4 M =>
    (sg_r M x0 9 0).bind fun v45 =>
    (v45).bind fun q47 =>
    (sg_i M q47 0 7).bind fun v49 =>
    if v49 ≤ x4 then
      k94 M
    else
      (sg_r M x0 9 13).bind fun v52 =>
      (sg_r M x0 9 0).bind fun v54 =>
      (v54).bind fun q56 =>
      (s_ob M q56 0).bind fun _ =>
      (f5 q56 x4 x2 M).bind fun p58 =>
      (v52).bind fun q60 =>
      (ss_i p58.2 q60 0 x4 p58.1).bind fun M62 =>
      f63_l59 x0 x1 x2 x3 k94 n (x4 + 1) M62
theorem f63_l59_ok {d : Nat} {x0 : Nat} {x1 : Nat} {x2 : Int32} {x3 : Int32} {k94 : vm_M → Option (vm_M)} {r : vm_M} (hk94 : ∀ {M : vm_M} {lv : vm_L}, (0, .ref (x0)) ∈ lv → (1, .ref (x1)) ∈ lv → (2, .int (x2)) ∈ lv → (3, .int (x3)) ∈ lv → k94 M = some r → Ev 0 (fun _ => 0) (vm_Cl (d + 3)) vp_63 9 5 false none (rV r) 94 lv [] M) : ∀ (n : Nat) {x4 : Int32} {M : vm_M} {lv : vm_L}, (0, .ref (x0)) ∈ lv → (1, .ref (x1)) ∈ lv → (2, .int (x2)) ∈ lv → (3, .int (x3)) ∈ lv → (4, .int (x4)) ∈ lv → f63_l59 x0 x1 x2 x3 k94 n x4 M = some r → Ev 0 (fun _ => 0) (vm_Cl (d + 3)) vp_63 9 5 false none (rV r) 59 lv [] M := by
  intro n
  induction n with
  | zero =>
    intro x4 M lv l0 l1 l2 l3 l4 h
    cases h
  | succ n ih =>
    intro x4 M lv l0 l1 l2 l3 l4 h
    dsimp only [f63_l59] at h
    refine ev_iload (mm 30 rfl) l4 ?_
    refine ev_aload_nR (mm 31 rfl) l0 ?_
    obtain ⟨v45, e46, h⟩ := bind_so h
    refine ev_get_r (mm 32 rfl) rfl e46 ?_
    obtain ⟨q47, e48, h⟩ := bind_so h
    rw [e48]
    obtain ⟨v49, e50, h⟩ := bind_so h
    refine ev_get_i (mm 33 rfl) rfl e50 ?_
    rcases ite_so h with ⟨c51, h⟩ | ⟨c51, h⟩
    · refine ev_ic_t 94 (mm 34 rfl) rfl c51 ?_
      exact hk94 l0 l1 l2 l3 h
    · refine ev_ic_f 94 (mm 34 rfl) rfl c51 ?_
      refine ev_aload_nR (mm 35 rfl) l0 ?_
      obtain ⟨v52, e53, h⟩ := bind_so h
      refine ev_get_r (mm 36 rfl) rfl e53 ?_
      refine ev_iload (mm 37 rfl) l4 ?_
      refine ev_aload_nR (mm 38 rfl) l0 ?_
      obtain ⟨v54, e55, h⟩ := bind_so h
      refine ev_get_r (mm 39 rfl) rfl e55 ?_
      refine ev_iload (mm 40 rfl) l4 ?_
      refine ev_iload_n (mm 41 rfl) l2 ?_
      obtain ⟨q56, e57, h⟩ := bind_so h
      rw [e57]
      obtain ⟨_, e66, h⟩ := bind_so h
      obtain ⟨p58, e59, h⟩ := bind_so h
      refine ev_callV_I [.int (x4), .int (x2)] (mm 42 rfl) rfl rfl (by simp [vm_cat_A, vm_cat_I, vm_cat_R, vm_cat_J, vm_cat_0]) (s_ob_of e66) (f5_ok e59 (d + 2)) ?_
      obtain ⟨q60, e61, h⟩ := bind_so h
      rw [e61]
      obtain ⟨M62, e63, h⟩ := bind_so h
      refine ev_iastore (mm 43 rfl) e63 ?_
      refine evs_iinc (mm 44 rfl) cI_1 l4 (by decide) (fun lv64 l4 s65 => ?_)
      have l0 := s65 _ _ l0 rfl
      have l1 := s65 _ _ l1 rfl
      have l2 := s65 _ _ l2 rfl
      have l3 := s65 _ _ l3 rfl
      refine ev_goto 59 (mm 45 rfl) rfl ?_
      exact ih l0 l1 l2 l3 l4 h
def f63_l97 (x0 : Nat) (x1 : Nat) (x2 : Int32) (x3 : Int32) (k153 : vm_M → Option (vm_M)) : Nat → Int32 → vm_M → Option (vm_M)
  | 0 => fun _ _ => none
  | n + 1 => fun x4 M =>
    (sg_r M x0 9 0).bind fun v70 =>
    (v70).bind fun q72 =>
    (sg_i M q72 0 7).bind fun v74 =>
    if v74 ≤ x4 then
      k153 M
    else
      (sg_r M x0 9 0).bind fun v77 =>
      (v77).bind fun q79 =>
      (s_ob M q79 0).bind fun _ =>
      (f2 q79 x4 x2 M).bind fun p81 =>
      if ¬ p81.1 = 0 then
        (s_ob p81.2 x0 9).bind fun _ =>
        (f64 x0 x4 x2 x3 p81.2).bind fun p84 =>
        (s_ob p84 x0 9).bind fun _ =>
        (f67 x0 x1 x4 p84).bind fun p86 =>
        (s_ob p86 x0 9).bind fun _ =>
        (f68 x0 x1 x4 p86).bind fun p88 =>
        f63_l97 x0 x1 x2 x3 k153 n (x4 + 1) p88
      else
        f63_l97 x0 x1 x2 x3 k153 n (x4 + 1) p81.2
theorem f63_l97_ok {d : Nat} {x0 : Nat} {x1 : Nat} {x2 : Int32} {x3 : Int32} {k153 : vm_M → Option (vm_M)} {r : vm_M} (hk153 : ∀ {M : vm_M} {lv : vm_L}, (0, .ref (x0)) ∈ lv → (1, .ref (x1)) ∈ lv → k153 M = some r → Ev 0 (fun _ => 0) (vm_Cl (d + 3)) vp_63 9 5 false none (rV r) 153 lv [] M) : ∀ (n : Nat) {x4 : Int32} {M : vm_M} {lv : vm_L}, (0, .ref (x0)) ∈ lv → (1, .ref (x1)) ∈ lv → (2, .int (x2)) ∈ lv → (3, .int (x3)) ∈ lv → (4, .int (x4)) ∈ lv → f63_l97 x0 x1 x2 x3 k153 n x4 M = some r → Ev 0 (fun _ => 0) (vm_Cl (d + 3)) vp_63 9 5 false none (rV r) 97 lv [] M := by
  intro n
  induction n with
  | zero =>
    intro x4 M lv l0 l1 l2 l3 l4 h
    cases h
  | succ n ih =>
    intro x4 M lv l0 l1 l2 l3 l4 h
    dsimp only [f63_l97] at h
    refine ev_iload (mm 48 rfl) l4 ?_
    refine ev_aload_nR (mm 49 rfl) l0 ?_
    obtain ⟨v70, e71, h⟩ := bind_so h
    refine ev_get_r (mm 50 rfl) rfl e71 ?_
    obtain ⟨q72, e73, h⟩ := bind_so h
    rw [e73]
    obtain ⟨v74, e75, h⟩ := bind_so h
    refine ev_get_i (mm 51 rfl) rfl e75 ?_
    rcases ite_so h with ⟨c76, h⟩ | ⟨c76, h⟩
    · refine ev_ic_t 153 (mm 52 rfl) rfl c76 ?_
      exact hk153 l0 l1 h
    · refine ev_ic_f 153 (mm 52 rfl) rfl c76 ?_
      refine ev_aload_nR (mm 53 rfl) l0 ?_
      obtain ⟨v77, e78, h⟩ := bind_so h
      refine ev_get_r (mm 54 rfl) rfl e78 ?_
      refine ev_iload (mm 55 rfl) l4 ?_
      refine ev_iload_n (mm 56 rfl) l2 ?_
      obtain ⟨q79, e80, h⟩ := bind_so h
      rw [e80]
      obtain ⟨_, e97, h⟩ := bind_so h
      obtain ⟨p81, e82, h⟩ := bind_so h
      refine ev_callV_I [.int (x4), .int (x2)] (mm 57 rfl) rfl rfl (Nat.le_of_ble_eq_true rfl) (s_ob_of e97) (f2_ok e82 (d + 2)) ?_
      rcases ite_so h with ⟨c83, h⟩ | ⟨c83, h⟩
      · refine ev_if_t 125 (mm 58 rfl) rfl c83 ?_
        refine ev_aload_nR (mm 60 rfl) l0 ?_
        refine ev_iload (mm 61 rfl) l4 ?_
        refine ev_iload_n (mm 62 rfl) l2 ?_
        refine ev_iload_n (mm 63 rfl) l3 ?_
        obtain ⟨_, e94, h⟩ := bind_so h
        obtain ⟨p84, e85, h⟩ := bind_so h
        refine ev_callV_V [.int (x4), .int (x2), .int (x3)] (mm 64 rfl) rfl rfl (Nat.le_of_ble_eq_true rfl) (s_ob_of e94) (f64_ok e85 (d + 0)) ?_
        refine ev_aload_nR (mm 65 rfl) l0 ?_
        refine ev_aload_nR (mm 66 rfl) l1 ?_
        refine ev_iload (mm 67 rfl) l4 ?_
        obtain ⟨_, e93, h⟩ := bind_so h
        obtain ⟨p86, e87, h⟩ := bind_so h
        refine ev_callV_V [.ref (x1), .int (x4)] (mm 68 rfl) rfl rfl (Nat.le_of_ble_eq_true rfl) (s_ob_of e93) (f67_ok e87 (d + 0)) ?_
        refine ev_aload_nR (mm 69 rfl) l0 ?_
        refine ev_aload_nR (mm 70 rfl) l1 ?_
        refine ev_iload (mm 71 rfl) l4 ?_
        obtain ⟨_, e92, h⟩ := bind_so h
        obtain ⟨p88, e89, h⟩ := bind_so h
        refine ev_callV_V [.ref (x1), .int (x4)] (mm 72 rfl) rfl rfl (Nat.le_of_ble_eq_true rfl) (s_ob_of e92) (f68_ok e89 (d + 1)) ?_
        refine evs_iinc (mm 73 rfl) cI_1 l4 (by decide) (fun lv90 l4 s91 => ?_)
        have l0 := s91 _ _ l0 rfl
        have l1 := s91 _ _ l1 rfl
        have l2 := s91 _ _ l2 rfl
        have l3 := s91 _ _ l3 rfl
        refine ev_goto 97 (mm 74 rfl) rfl ?_
        exact ih l0 l1 l2 l3 l4 h
      · refine ev_if_f 125 (mm 58 rfl) rfl c83 ?_
        refine ev_goto 147 (mm 59 rfl) rfl ?_
        refine evs_iinc (mm 73 rfl) cI_1 l4 (by decide) (fun lv95 l4 s96 => ?_)
        have l0 := s96 _ _ l0 rfl
        have l1 := s96 _ _ l1 rfl
        have l2 := s96 _ _ l2 rfl
        have l3 := s96 _ _ l3 rfl
        refine ev_goto 97 (mm 74 rfl) rfl ?_
        exact ih l0 l1 l2 l3 l4 h
def f63_l176 (x0 : Nat) : Nat → Int32 → vm_M → Option (vm_M)
  | 0 => fun _ _ => none
  | n + 1 => fun x4 M =>
    if 12 ≤ x4 then
      some M
    else
      (sg_r M x0 9 11).bind fun v109 =>
      (sg_r M x0 9 5).bind fun v111 =>
      (v111).bind fun q113 =>
      (sa_l M q113 x4).bind fun v115 =>
      (sg_r M x0 9 6).bind fun v117 =>
      (v117).bind fun q119 =>
      (sa_l M q119 x4).bind fun v121 =>
      (sg_r M x0 9 7).bind fun v123 =>
      (v123).bind fun q125 =>
      (sa_l M q125 x4).bind fun v127 =>
      (sg_r M x0 9 8).bind fun v129 =>
      (v129).bind fun q131 =>
      (sa_l M q131 x4).bind fun v133 =>
      (v109).bind fun q135 =>
      (ss_l M q135 x4 (((v115 + v121) + v127) + v133)).bind fun M137 =>
      f63_l176 x0 n (x4 + 1) M137
theorem f63_l176_ok {d : Nat} {x0 : Nat} {r : vm_M} : ∀ (n : Nat) {x4 : Int32} {M : vm_M} {lv : vm_L}, (0, .ref (x0)) ∈ lv → (4, .int (x4)) ∈ lv → f63_l176 x0 n x4 M = some r → Ev 0 (fun _ => 0) (vm_Cl (d + 3)) vp_63 9 5 false none (rV r) 176 lv [] M := by
  intro n
  induction n with
  | zero =>
    intro x4 M lv l0 l4 h
    cases h
  | succ n ih =>
    intro x4 M lv l0 l4 h
    dsimp only [f63_l176] at h
    refine ev_iload (mm 89 rfl) l4 ?_
    refine ev_bipush (mm 90 rfl) cB_12 ?_
    rcases ite_so h with ⟨c108, h⟩ | ⟨c108, h⟩
    · refine ev_ic_t 227 (mm 91 rfl) rfl c108 ?_
      exact ev_return (mm 117 rfl) h
    · refine ev_ic_f 227 (mm 91 rfl) rfl c108 ?_
      refine ev_aload_nR (mm 92 rfl) l0 ?_
      obtain ⟨v109, e110, h⟩ := bind_so h
      refine ev_get_r (mm 93 rfl) rfl e110 ?_
      refine ev_iload (mm 94 rfl) l4 ?_
      refine ev_aload_nR (mm 95 rfl) l0 ?_
      obtain ⟨v111, e112, h⟩ := bind_so h
      refine ev_get_r (mm 96 rfl) rfl e112 ?_
      refine ev_iload (mm 97 rfl) l4 ?_
      obtain ⟨q113, e114, h⟩ := bind_so h
      rw [e114]
      obtain ⟨v115, e116, h⟩ := bind_so h
      refine ev_laload (mm 98 rfl) e116 ?_
      refine ev_aload_nR (mm 99 rfl) l0 ?_
      obtain ⟨v117, e118, h⟩ := bind_so h
      refine ev_get_r (mm 100 rfl) rfl e118 ?_
      refine ev_iload (mm 101 rfl) l4 ?_
      obtain ⟨q119, e120, h⟩ := bind_so h
      rw [e120]
      obtain ⟨v121, e122, h⟩ := bind_so h
      refine ev_laload (mm 102 rfl) e122 ?_
      refine ev_ladd (mm 103 rfl) ?_
      refine ev_aload_nR (mm 104 rfl) l0 ?_
      obtain ⟨v123, e124, h⟩ := bind_so h
      refine ev_get_r (mm 105 rfl) rfl e124 ?_
      refine ev_iload (mm 106 rfl) l4 ?_
      obtain ⟨q125, e126, h⟩ := bind_so h
      rw [e126]
      obtain ⟨v127, e128, h⟩ := bind_so h
      refine ev_laload (mm 107 rfl) e128 ?_
      refine ev_ladd (mm 108 rfl) ?_
      refine ev_aload_nR (mm 109 rfl) l0 ?_
      obtain ⟨v129, e130, h⟩ := bind_so h
      refine ev_get_r (mm 110 rfl) rfl e130 ?_
      refine ev_iload (mm 111 rfl) l4 ?_
      obtain ⟨q131, e132, h⟩ := bind_so h
      rw [e132]
      obtain ⟨v133, e134, h⟩ := bind_so h
      refine ev_laload (mm 112 rfl) e134 ?_
      refine ev_ladd (mm 113 rfl) ?_
      obtain ⟨q135, e136, h⟩ := bind_so h
      rw [e136]
      obtain ⟨M137, e138, h⟩ := bind_so h
      refine ev_lastore (mm 114 rfl) e138 ?_
      refine evs_iinc (mm 115 rfl) cI_1 l4 (by decide) (fun lv139 l4 s140 => ?_)
      have l0 := s140 _ _ l0 rfl
      refine ev_goto 176 (mm 116 rfl) rfl ?_
      exact ih l0 l4 h
/-- PupilCoin$Sums.deal(LPupilCoin$Law;II)V -/
def f63 (x0 : Nat) (x1 : Nat) (x2 : Int32) (x3 : Int32) (M : vm_M) : Option (vm_M) :=
  (sg_r M x0 9 4).bind fun v1 =>
  (v1).bind fun q3 =>
  (f199 q3 0 M).bind fun p5 =>
  (sg_r p5 x0 9 5).bind fun v7 =>
  (v7).bind fun q9 =>
  (f199 q9 0 p5).bind fun p11 =>
  (sg_r p11 x0 9 6).bind fun v13 =>
  (v13).bind fun q15 =>
  (f199 q15 0 p11).bind fun p17 =>
  (sg_r p17 x0 9 7).bind fun v19 =>
  (v19).bind fun q21 =>
  (f199 q21 0 p17).bind fun p23 =>
  (sg_r p23 x0 9 8).bind fun v25 =>
  (v25).bind fun q27 =>
  (f199 q27 0 p23).bind fun p29 =>
  (sg_r p29 x0 9 9).bind fun v31 =>
  (v31).bind fun q33 =>
  (f199 q33 0 p29).bind fun p35 =>
  (sg_r p35 x0 9 10).bind fun v37 =>
  (v37).bind fun q39 =>
  (f199 q39 0 p35).bind fun p41 =>
  f63_l59 x0 x1 x2 x3
    (fun M67 =>
      f63_l97 x0 x1 x2 x3
        (fun M98 =>
          (sg_r M98 x1 1 5).bind fun v99 =>
          (v99).bind fun q101 =>
          (sa_i M98 q101 0 2).bind fun v103 =>
          if v103 < 0 then
            f63_l176 x0
            
              100000 0 M98
          else
            (sg_r M98 x1 1 5).bind fun v141 =>
            (v141).bind fun q143 =>
            (sa_i M98 q143 0 2).bind fun v145 =>
            (s_ob M98 x0 9).bind fun _ =>
            (f71 x0 ((v145 : Int32).toInt64) M98).bind fun p147 =>
            f63_l176 x0
            
              100000 0 p147)
        100000 0 M67)
    100000 0 p41
theorem f63_ok {x0 : Nat} {x1 : Nat} {x2 : Int32} {x3 : Int32} {M : vm_M} {r : vm_M} (h : f63 x0 x1 x2 x3 M = some r) (d : Nat) : vm_Cl (d + 4) 63 [.ref (x0), .ref (x1), .int (x2), .int (x3)] M (rV r) := by
  have key : Ev 0 (fun _ => 0) (vm_Cl (d + 3)) vp_63 9 5 false none (rV r) 0 (lv_args 0 [.ref (x0), .ref (x1), .int (x2), .int (x3)]) [] M := by
    have l0 : (0, .ref (x0)) ∈ lv_args 0 [.ref (x0), .ref (x1), .int (x2), .int (x3)] := List.Mem.head _
    have l1 : (1, .ref (x1)) ∈ lv_args 0 [.ref (x0), .ref (x1), .int (x2), .int (x3)] := List.Mem.tail _ (List.Mem.head _)
    have l2 : (2, .int (x2)) ∈ lv_args 0 [.ref (x0), .ref (x1), .int (x2), .int (x3)] := List.Mem.tail _ (List.Mem.tail _ (List.Mem.head _))
    have l3 : (3, .int (x3)) ∈ lv_args 0 [.ref (x0), .ref (x1), .int (x2), .int (x3)] := List.Mem.tail _ (List.Mem.tail _ (List.Mem.tail _ (List.Mem.head _)))
    unfold f63 at h
    refine ev_aload_nR (mm 0 rfl) l0 ?_
    obtain ⟨v1, e2, h⟩ := bind_so h
    refine ev_get_r (mm 1 rfl) rfl e2 ?_
    refine ev_lconst (mm 2 rfl) cL_0 ?_
    obtain ⟨q3, e4, h⟩ := bind_so h
    rw [e4]
    obtain ⟨p5, e6, h⟩ := bind_so h
    refine ev_callS_V [.ref (q3), .long (0)] (mm 3 rfl) (by decide) rfl rfl (Nat.le_of_ble_eq_true rfl) (f199_ok e6 (d + 2)) ?_
    refine ev_aload_nR (mm 4 rfl) l0 ?_
    obtain ⟨v7, e8, h⟩ := bind_so h
    refine ev_get_r (mm 5 rfl) rfl e8 ?_
    refine ev_lconst (mm 6 rfl) cL_0 ?_
    obtain ⟨q9, e10, h⟩ := bind_so h
    rw [e10]
    obtain ⟨p11, e12, h⟩ := bind_so h
    refine ev_callS_V [.ref (q9), .long (0)] (mm 7 rfl) (by decide) rfl rfl (Nat.le_of_ble_eq_true rfl) (f199_ok e12 (d + 2)) ?_
    refine ev_aload_nR (mm 8 rfl) l0 ?_
    obtain ⟨v13, e14, h⟩ := bind_so h
    refine ev_get_r (mm 9 rfl) rfl e14 ?_
    refine ev_lconst (mm 10 rfl) cL_0 ?_
    obtain ⟨q15, e16, h⟩ := bind_so h
    rw [e16]
    obtain ⟨p17, e18, h⟩ := bind_so h
    refine ev_callS_V [.ref (q15), .long (0)] (mm 11 rfl) (by decide) rfl rfl (Nat.le_of_ble_eq_true rfl) (f199_ok e18 (d + 2)) ?_
    refine ev_aload_nR (mm 12 rfl) l0 ?_
    obtain ⟨v19, e20, h⟩ := bind_so h
    refine ev_get_r (mm 13 rfl) rfl e20 ?_
    refine ev_lconst (mm 14 rfl) cL_0 ?_
    obtain ⟨q21, e22, h⟩ := bind_so h
    rw [e22]
    obtain ⟨p23, e24, h⟩ := bind_so h
    refine ev_callS_V [.ref (q21), .long (0)] (mm 15 rfl) (by decide) rfl rfl (Nat.le_of_ble_eq_true rfl) (f199_ok e24 (d + 2)) ?_
    refine ev_aload_nR (mm 16 rfl) l0 ?_
    obtain ⟨v25, e26, h⟩ := bind_so h
    refine ev_get_r (mm 17 rfl) rfl e26 ?_
    refine ev_lconst (mm 18 rfl) cL_0 ?_
    obtain ⟨q27, e28, h⟩ := bind_so h
    rw [e28]
    obtain ⟨p29, e30, h⟩ := bind_so h
    refine ev_callS_V [.ref (q27), .long (0)] (mm 19 rfl) (by decide) rfl rfl (Nat.le_of_ble_eq_true rfl) (f199_ok e30 (d + 2)) ?_
    refine ev_aload_nR (mm 20 rfl) l0 ?_
    obtain ⟨v31, e32, h⟩ := bind_so h
    refine ev_get_r (mm 21 rfl) rfl e32 ?_
    refine ev_lconst (mm 22 rfl) cL_0 ?_
    obtain ⟨q33, e34, h⟩ := bind_so h
    rw [e34]
    obtain ⟨p35, e36, h⟩ := bind_so h
    refine ev_callS_V [.ref (q33), .long (0)] (mm 23 rfl) (by decide) rfl rfl (Nat.le_of_ble_eq_true rfl) (f199_ok e36 (d + 2)) ?_
    refine ev_aload_nR (mm 24 rfl) l0 ?_
    obtain ⟨v37, e38, h⟩ := bind_so h
    refine ev_get_r (mm 25 rfl) rfl e38 ?_
    refine ev_lconst (mm 26 rfl) cL_0 ?_
    obtain ⟨q39, e40, h⟩ := bind_so h
    rw [e40]
    obtain ⟨p41, e42, h⟩ := bind_so h
    refine ev_callS_V [.ref (q39), .long (0)] (mm 27 rfl) (by decide) rfl rfl (Nat.le_of_ble_eq_true rfl) (f199_ok e42 (d + 2)) ?_
    refine ev_iconst (mm 28 rfl) cI_0 ?_
    refine evs_istore (mm 29 rfl) (by decide) (fun lv43 l4 s44 => ?_)
    have l0 := s44 _ _ l0 rfl
    have l1 := s44 _ _ l1 rfl
    have l2 := s44 _ _ l2 rfl
    have l3 := s44 _ _ l3 rfl
    refine f63_l59_ok ?_ 100000 l0 l1 l2 l3 l4 h
    · intro M67 lv l0 l1 l2 l3
      intro h
      refine ev_iconst (mm 46 rfl) cI_0 ?_
      refine evs_istore (mm 47 rfl) (by decide) (fun lv68 l4 s69 => ?_)
      have l0 := s69 _ _ l0 rfl
      have l1 := s69 _ _ l1 rfl
      have l2 := s69 _ _ l2 rfl
      have l3 := s69 _ _ l3 rfl
      refine f63_l97_ok ?_ 100000 l0 l1 l2 l3 l4 h
      · intro M98 lv l0 l1
        intro h
        refine ev_aload_nR (mm 75 rfl) l1 ?_
        obtain ⟨v99, e100, h⟩ := bind_so h
        refine ev_get_r (mm 76 rfl) rfl e100 ?_
        refine ev_iconst (mm 77 rfl) cI_2 ?_
        obtain ⟨q101, e102, h⟩ := bind_so h
        rw [e102]
        obtain ⟨v103, e104, h⟩ := bind_so h
        refine ev_iaload (mm 78 rfl) e104 ?_
        rcases ite_so h with ⟨c105, h⟩ | ⟨c105, h⟩
        · refine ev_if_t 173 (mm 79 rfl) rfl c105 ?_
          refine ev_iconst (mm 87 rfl) cI_0 ?_
          refine evs_istore (mm 88 rfl) (by decide) (fun lv106 l4 s107 => ?_)
          have l0 := s107 _ _ l0 rfl
          refine f63_l176_ok 100000 l0 l4 h
        · refine ev_if_f 173 (mm 79 rfl) rfl c105 ?_
          refine ev_aload_nR (mm 80 rfl) l0 ?_
          refine ev_aload_nR (mm 81 rfl) l1 ?_
          obtain ⟨v141, e142, h⟩ := bind_so h
          refine ev_get_r (mm 82 rfl) rfl e142 ?_
          refine ev_iconst (mm 83 rfl) cI_2 ?_
          obtain ⟨q143, e144, h⟩ := bind_so h
          rw [e144]
          obtain ⟨v145, e146, h⟩ := bind_so h
          refine ev_iaload (mm 84 rfl) e146 ?_
          refine ev_i2l (mm 85 rfl) ?_
          obtain ⟨_, e151, h⟩ := bind_so h
          obtain ⟨p147, e148, h⟩ := bind_so h
          refine ev_callV_V [.long ((v145 : Int32).toInt64)] (mm 86 rfl) rfl rfl (Nat.le_of_ble_eq_true rfl) (s_ob_of e151) (f71_ok e148 (d + 2)) ?_
          refine ev_iconst (mm 87 rfl) cI_0 ?_
          refine evs_istore (mm 88 rfl) (by decide) (fun lv149 l4 s150 => ?_)
          have l0 := s150 _ _ l0 rfl
          refine f63_l176_ok 100000 l0 l4 h
  exact ⟨by decide, Nat.le_of_ble_eq_true rfl, key.1, key.2⟩
def f62_l5 (x0 : Nat) (x1 : Int32) : Nat → Int32 → vm_M → Option (vm_M)
  | 0 => fun _ _ => none
  | n + 1 => fun x2 M =>
    if x1 ≤ x2 then
      some M
    else
      if 10 ≤ x2 then
        some M
      else
        (sg_r M x0 9 2).bind fun v9 =>
        (v9).bind fun q11 =>
        (s_ob M q11 8).bind fun _ =>
        (f56 q11 x2 ((x2 + 1) * 100) M).bind fun p13 =>
        (p13.1).bind fun q15 =>
        (s_ob p13.2 x0 9).bind fun _ =>
        (f63 x0 q15 x2 ((x2 + 1) * 100) p13.2).bind fun p17 =>
        (sg_r p17 x0 9 11).bind fun v19 =>
        (sg_r p17 x0 9 14).bind fun v21 =>
        (v19).bind fun q23 =>
        (v21).bind fun q25 =>
        (s_cp p17 1 q23 0 q25 (x2 * 12) 12).bind fun M27 =>
        (sp_i M27 x0 9 15 (x2 + 1)).bind fun M29 =>
        f62_l5 x0 x1 n (x2 + 1) M29
theorem f62_l5_ok {d : Nat} {x0 : Nat} {x1 : Int32} {r : vm_M} : ∀ (n : Nat) {x2 : Int32} {M : vm_M} {lv : vm_L}, (0, .ref (x0)) ∈ lv → (1, .int (x1)) ∈ lv → (2, .int (x2)) ∈ lv → f62_l5 x0 x1 n x2 M = some r → Ev 0 (fun _ => 0) (vm_Cl (d + 4)) vp_62 9 4 false none (rV r) 5 lv [] M := by
  intro n
  induction n with
  | zero =>
    intro x2 M lv l0 l1 l2 h
    cases h
  | succ n ih =>
    intro x2 M lv l0 l1 l2 h
    dsimp only [f62_l5] at h
    refine ev_iload_n (mm 3 rfl) l2 ?_
    refine ev_iload_n (mm 4 rfl) l1 ?_
    rcases ite_so h with ⟨c5, h⟩ | ⟨c5, h⟩
    · refine ev_ic_t 69 (mm 5 rfl) rfl c5 ?_
      exact ev_return (mm 41 rfl) h
    · refine ev_ic_f 69 (mm 5 rfl) rfl c5 ?_
      refine ev_iload_n (mm 6 rfl) l2 ?_
      refine ev_bipush (mm 7 rfl) cB_10 ?_
      rcases ite_so h with ⟨c6, h⟩ | ⟨c6, h⟩
      · refine ev_ic_t 69 (mm 8 rfl) rfl c6 ?_
        exact ev_return (mm 41 rfl) h
      · refine ev_ic_f 69 (mm 8 rfl) rfl c6 ?_
        refine ev_iload_n (mm 9 rfl) l2 ?_
        refine ev_iconst (mm 10 rfl) cI_1 ?_
        refine ev_iadd (mm 11 rfl) ?_
        refine ev_bipush (mm 12 rfl) cB_100 ?_
        refine ev_imul (mm 13 rfl) ?_
        refine evs_istore_n (mm 14 rfl) (by decide) (fun lv7 l3 s8 => ?_)
        have l0 := s8 _ _ l0 rfl
        have l1 := s8 _ _ l1 rfl
        have l2 := s8 _ _ l2 rfl
        refine ev_aload_nR (mm 15 rfl) l0 ?_
        refine ev_aload_nR (mm 16 rfl) l0 ?_
        obtain ⟨v9, e10, h⟩ := bind_so h
        refine ev_get_r (mm 17 rfl) rfl e10 ?_
        refine ev_iload_n (mm 18 rfl) l2 ?_
        refine ev_iload_n (mm 19 rfl) l3 ?_
        obtain ⟨q11, e12, h⟩ := bind_so h
        rw [e12]
        obtain ⟨_, e34, h⟩ := bind_so h
        obtain ⟨p13, e14, h⟩ := bind_so h
        refine ev_callV_A [.int (x2), .int (((x2 + 1) * 100))] (mm 20 rfl) rfl rfl (Nat.le_of_ble_eq_true rfl) (s_ob_of e34) (f56_ok e14 (d + 3)) ?_
        refine ev_iload_n (mm 21 rfl) l2 ?_
        refine ev_iload_n (mm 22 rfl) l3 ?_
        obtain ⟨q15, e16, h⟩ := bind_so h
        rw [e16]
        obtain ⟨_, e33, h⟩ := bind_so h
        obtain ⟨p17, e18, h⟩ := bind_so h
        refine ev_callV_V [.ref (q15), .int (x2), .int (((x2 + 1) * 100))] (mm 23 rfl) rfl rfl (Nat.le_of_ble_eq_true rfl) (s_ob_of e33) (f63_ok e18 (d + 0)) ?_
        refine ev_aload_nR (mm 24 rfl) l0 ?_
        obtain ⟨v19, e20, h⟩ := bind_so h
        refine ev_get_r (mm 25 rfl) rfl e20 ?_
        refine ev_iconst (mm 26 rfl) cI_0 ?_
        refine ev_aload_nR (mm 27 rfl) l0 ?_
        obtain ⟨v21, e22, h⟩ := bind_so h
        refine ev_get_r (mm 28 rfl) rfl e22 ?_
        refine ev_iload_n (mm 29 rfl) l2 ?_
        refine ev_bipush (mm 30 rfl) cB_12 ?_
        refine ev_imul (mm 31 rfl) ?_
        refine ev_bipush (mm 32 rfl) cB_12 ?_
        obtain ⟨q23, e24, h⟩ := bind_so h
        rw [e24]
        obtain ⟨q25, e26, h⟩ := bind_so h
        rw [e26]
        obtain ⟨M27, e28, h⟩ := bind_so h
        refine ev_copy 1 (mm 33 rfl) (Nat.le_of_ble_eq_true rfl) (by decide) e28 ?_
        refine ev_aload_nR (mm 34 rfl) l0 ?_
        refine ev_iload_n (mm 35 rfl) l2 ?_
        refine ev_iconst (mm 36 rfl) cI_1 ?_
        refine ev_iadd (mm 37 rfl) ?_
        obtain ⟨M29, e30, h⟩ := bind_so h
        refine ev_put_i (mm 38 rfl) (fun z => by cases z) rfl e30 ?_
        refine evs_iinc (mm 39 rfl) cI_1 l2 (by decide) (fun lv31 l2 s32 => ?_)
        have l0 := s32 _ _ l0 rfl
        have l1 := s32 _ _ l1 rfl
        refine ev_goto 5 (mm 40 rfl) rfl ?_
        exact ih l0 l1 l2 h
/-- PupilCoin$Sums.prepare(I)V -/
def f62 (x0 : Nat) (x1 : Int32) (M : vm_M) : Option (vm_M) :=
  (sg_i M x0 9 15).bind fun v1 =>
  f62_l5 x0 x1
  
    100000 v1 M
theorem f62_ok {x0 : Nat} {x1 : Int32} {M : vm_M} {r : vm_M} (h : f62 x0 x1 M = some r) (d : Nat) : vm_Cl (d + 5) 62 [.ref (x0), .int (x1)] M (rV r) := by
  have key : Ev 0 (fun _ => 0) (vm_Cl (d + 4)) vp_62 9 4 false none (rV r) 0 (lv_args 0 [.ref (x0), .int (x1)]) [] M := by
    have l0 : (0, .ref (x0)) ∈ lv_args 0 [.ref (x0), .int (x1)] := List.Mem.head _
    have l1 : (1, .int (x1)) ∈ lv_args 0 [.ref (x0), .int (x1)] := List.Mem.tail _ (List.Mem.head _)
    unfold f62 at h
    refine ev_aload_nR (mm 0 rfl) l0 ?_
    obtain ⟨v1, e2, h⟩ := bind_so h
    refine ev_get_i (mm 1 rfl) rfl e2 ?_
    refine evs_istore_n (mm 2 rfl) (by decide) (fun lv3 l2 s4 => ?_)
    have l0 := s4 _ _ l0 rfl
    have l1 := s4 _ _ l1 rfl
    refine f62_l5_ok 100000 l0 l1 l2 h
  exact ⟨by decide, Nat.le_of_ble_eq_true rfl, key.1, key.2⟩
/-- PupilCoin$Sums.reckon(II)V -/
def f59 (x0 : Nat) (x1 : Int32) (x2 : Int32) (M : vm_M) : Option (vm_M) :=
  (s_ob M x0 9).bind fun _ =>
  (f62 x0 x1 M).bind fun p1 =>
  (sg_r p1 x0 9 2).bind fun v3 =>
  (v3).bind fun q5 =>
  (s_ob p1 q5 8).bind fun _ =>
  (f56 q5 x1 x2 p1).bind fun p7 =>
  (p7.1).bind fun q9 =>
  (s_ob p7.2 x0 9).bind fun _ =>
  (f63 x0 q9 x1 x2 p7.2).bind fun p11 =>
  some p11
theorem f59_ok {x0 : Nat} {x1 : Int32} {x2 : Int32} {M : vm_M} {r : vm_M} (h : f59 x0 x1 x2 M = some r) (d : Nat) : vm_Cl (d + 6) 59 [.ref (x0), .int (x1), .int (x2)] M (rV r) := by
  have key : Ev 0 (fun _ => 0) (vm_Cl (d + 5)) vp_59 9 3 false none (rV r) 0 (lv_args 0 [.ref (x0), .int (x1), .int (x2)]) [] M := by
    have l0 : (0, .ref (x0)) ∈ lv_args 0 [.ref (x0), .int (x1), .int (x2)] := List.Mem.head _
    have l1 : (1, .int (x1)) ∈ lv_args 0 [.ref (x0), .int (x1), .int (x2)] := List.Mem.tail _ (List.Mem.head _)
    have l2 : (2, .int (x2)) ∈ lv_args 0 [.ref (x0), .int (x1), .int (x2)] := List.Mem.tail _ (List.Mem.tail _ (List.Mem.head _))
    unfold f59 at h
    refine ev_aload_nR (mm 0 rfl) l0 ?_
    refine ev_iload_n (mm 1 rfl) l1 ?_
    obtain ⟨_, e15, h⟩ := bind_so h
    obtain ⟨p1, e2, h⟩ := bind_so h
    refine ev_callV_V [.int (x1)] (mm 2 rfl) rfl rfl (Nat.le_of_ble_eq_true rfl) (s_ob_of e15) (f62_ok e2 (d + 0)) ?_
    refine ev_aload_nR (mm 3 rfl) l0 ?_
    refine ev_aload_nR (mm 4 rfl) l0 ?_
    obtain ⟨v3, e4, h⟩ := bind_so h
    refine ev_get_r (mm 5 rfl) rfl e4 ?_
    refine ev_iload_n (mm 6 rfl) l1 ?_
    refine ev_iload_n (mm 7 rfl) l2 ?_
    obtain ⟨q5, e6, h⟩ := bind_so h
    rw [e6]
    obtain ⟨_, e14, h⟩ := bind_so h
    obtain ⟨p7, e8, h⟩ := bind_so h
    refine ev_callV_A [.int (x1), .int (x2)] (mm 8 rfl) rfl rfl (Nat.le_of_ble_eq_true rfl) (s_ob_of e14) (f56_ok e8 (d + 4)) ?_
    refine ev_iload_n (mm 9 rfl) l1 ?_
    refine ev_iload_n (mm 10 rfl) l2 ?_
    obtain ⟨q9, e10, h⟩ := bind_so h
    rw [e10]
    obtain ⟨_, e13, h⟩ := bind_so h
    obtain ⟨p11, e12, h⟩ := bind_so h
    refine ev_callV_V [.ref (q9), .int (x1), .int (x2)] (mm 11 rfl) rfl rfl (Nat.le_of_ble_eq_true rfl) (s_ob_of e13) (f63_ok e12 (d + 1)) ?_
    exact ev_return (mm 12 rfl) h
  exact ⟨by decide, Nat.le_of_ble_eq_true rfl, key.1, key.2⟩
/-- PupilCoin$Sums.reckonBy(LPupilCoin$Law;II)V -/
def f60 (x0 : Nat) (x1 : Nat) (x2 : Int32) (x3 : Int32) (M : vm_M) : Option (vm_M) :=
  (s_ob M x0 9).bind fun _ =>
  (f62 x0 x2 M).bind fun p1 =>
  (s_ob p1 x0 9).bind fun _ =>
  (f63 x0 x1 x2 x3 p1).bind fun p3 =>
  some p3
theorem f60_ok {x0 : Nat} {x1 : Nat} {x2 : Int32} {x3 : Int32} {M : vm_M} {r : vm_M} (h : f60 x0 x1 x2 x3 M = some r) (d : Nat) : vm_Cl (d + 6) 60 [.ref (x0), .ref (x1), .int (x2), .int (x3)] M (rV r) := by
  have key : Ev 0 (fun _ => 0) (vm_Cl (d + 5)) vp_60 9 4 false none (rV r) 0 (lv_args 0 [.ref (x0), .ref (x1), .int (x2), .int (x3)]) [] M := by
    have l0 : (0, .ref (x0)) ∈ lv_args 0 [.ref (x0), .ref (x1), .int (x2), .int (x3)] := List.Mem.head _
    have l1 : (1, .ref (x1)) ∈ lv_args 0 [.ref (x0), .ref (x1), .int (x2), .int (x3)] := List.Mem.tail _ (List.Mem.head _)
    have l2 : (2, .int (x2)) ∈ lv_args 0 [.ref (x0), .ref (x1), .int (x2), .int (x3)] := List.Mem.tail _ (List.Mem.tail _ (List.Mem.head _))
    have l3 : (3, .int (x3)) ∈ lv_args 0 [.ref (x0), .ref (x1), .int (x2), .int (x3)] := List.Mem.tail _ (List.Mem.tail _ (List.Mem.tail _ (List.Mem.head _)))
    unfold f60 at h
    refine ev_aload_nR (mm 0 rfl) l0 ?_
    refine ev_iload_n (mm 1 rfl) l2 ?_
    obtain ⟨_, e6, h⟩ := bind_so h
    obtain ⟨p1, e2, h⟩ := bind_so h
    refine ev_callV_V [.int (x2)] (mm 2 rfl) rfl rfl (Nat.le_of_ble_eq_true rfl) (s_ob_of e6) (f62_ok e2 (d + 0)) ?_
    refine ev_aload_nR (mm 3 rfl) l0 ?_
    refine ev_aload_nR (mm 4 rfl) l1 ?_
    refine ev_iload_n (mm 5 rfl) l2 ?_
    refine ev_iload_n (mm 6 rfl) l3 ?_
    obtain ⟨_, e5, h⟩ := bind_so h
    obtain ⟨p3, e4, h⟩ := bind_so h
    refine ev_callV_V [.ref (x1), .int (x2), .int (x3)] (mm 7 rfl) rfl rfl (Nat.le_of_ble_eq_true rfl) (s_ob_of e5) (f63_ok e4 (d + 1)) ?_
    exact ev_return (mm 8 rfl) h
  exact ⟨by decide, Nat.le_of_ble_eq_true rfl, key.1, key.2⟩
/-- PupilCoin$Sums.reckonWithOneMore(IIII)V -/
def f61 (x0 : Nat) (x1 : Int32) (x2 : Int32) (x3 : Int32) (x4 : Int32) (M : vm_M) : Option (vm_M) :=
  (s_ob M x0 9).bind fun _ =>
  (f62 x0 x3 M).bind fun p1 =>
  (sp_i p1 x0 9 17 x1).bind fun M3 =>
  (sp_i M3 x0 9 18 x2).bind fun M5 =>
  (sg_r M5 x0 9 2).bind fun v7 =>
  (v7).bind fun q9 =>
  (s_ob M5 q9 8).bind fun _ =>
  (f56 q9 x3 x4 M5).bind fun p11 =>
  (p11.1).bind fun q13 =>
  (s_ob p11.2 x0 9).bind fun _ =>
  (f63 x0 q13 x3 x4 p11.2).bind fun p15 =>
  (sp_i p15 x0 9 17 (-1)).bind fun M17 =>
  some M17
theorem f61_ok {x0 : Nat} {x1 : Int32} {x2 : Int32} {x3 : Int32} {x4 : Int32} {M : vm_M} {r : vm_M} (h : f61 x0 x1 x2 x3 x4 M = some r) (d : Nat) : vm_Cl (d + 6) 61 [.ref (x0), .int (x1), .int (x2), .int (x3), .int (x4)] M (rV r) := by
  have key : Ev 0 (fun _ => 0) (vm_Cl (d + 5)) vp_61 9 5 false none (rV r) 0 (lv_args 0 [.ref (x0), .int (x1), .int (x2), .int (x3), .int (x4)]) [] M := by
    have l0 : (0, .ref (x0)) ∈ lv_args 0 [.ref (x0), .int (x1), .int (x2), .int (x3), .int (x4)] := List.Mem.head _
    have l1 : (1, .int (x1)) ∈ lv_args 0 [.ref (x0), .int (x1), .int (x2), .int (x3), .int (x4)] := List.Mem.tail _ (List.Mem.head _)
    have l2 : (2, .int (x2)) ∈ lv_args 0 [.ref (x0), .int (x1), .int (x2), .int (x3), .int (x4)] := List.Mem.tail _ (List.Mem.tail _ (List.Mem.head _))
    have l3 : (3, .int (x3)) ∈ lv_args 0 [.ref (x0), .int (x1), .int (x2), .int (x3), .int (x4)] := List.Mem.tail _ (List.Mem.tail _ (List.Mem.tail _ (List.Mem.head _)))
    have l4 : (4, .int (x4)) ∈ lv_args 0 [.ref (x0), .int (x1), .int (x2), .int (x3), .int (x4)] := List.Mem.tail _ (List.Mem.tail _ (List.Mem.tail _ (List.Mem.tail _ (List.Mem.head _))))
    unfold f61 at h
    refine ev_aload_nR (mm 0 rfl) l0 ?_
    refine ev_iload_n (mm 1 rfl) l3 ?_
    obtain ⟨_, e21, h⟩ := bind_so h
    obtain ⟨p1, e2, h⟩ := bind_so h
    refine ev_callV_V [.int (x3)] (mm 2 rfl) rfl rfl (Nat.le_of_ble_eq_true rfl) (s_ob_of e21) (f62_ok e2 (d + 0)) ?_
    refine ev_aload_nR (mm 3 rfl) l0 ?_
    refine ev_iload_n (mm 4 rfl) l1 ?_
    obtain ⟨M3, e4, h⟩ := bind_so h
    refine ev_put_i (mm 5 rfl) (fun z => by cases z) rfl e4 ?_
    refine ev_aload_nR (mm 6 rfl) l0 ?_
    refine ev_iload_n (mm 7 rfl) l2 ?_
    obtain ⟨M5, e6, h⟩ := bind_so h
    refine ev_put_i (mm 8 rfl) (fun z => by cases z) rfl e6 ?_
    refine ev_aload_nR (mm 9 rfl) l0 ?_
    refine ev_aload_nR (mm 10 rfl) l0 ?_
    obtain ⟨v7, e8, h⟩ := bind_so h
    refine ev_get_r (mm 11 rfl) rfl e8 ?_
    refine ev_iload_n (mm 12 rfl) l3 ?_
    refine ev_iload (mm 13 rfl) l4 ?_
    obtain ⟨q9, e10, h⟩ := bind_so h
    rw [e10]
    obtain ⟨_, e20, h⟩ := bind_so h
    obtain ⟨p11, e12, h⟩ := bind_so h
    refine ev_callV_A [.int (x3), .int (x4)] (mm 14 rfl) rfl rfl (Nat.le_of_ble_eq_true rfl) (s_ob_of e20) (f56_ok e12 (d + 4)) ?_
    refine ev_iload_n (mm 15 rfl) l3 ?_
    refine ev_iload (mm 16 rfl) l4 ?_
    obtain ⟨q13, e14, h⟩ := bind_so h
    rw [e14]
    obtain ⟨_, e19, h⟩ := bind_so h
    obtain ⟨p15, e16, h⟩ := bind_so h
    refine ev_callV_V [.ref (q13), .int (x3), .int (x4)] (mm 17 rfl) rfl rfl (Nat.le_of_ble_eq_true rfl) (s_ob_of e19) (f63_ok e16 (d + 1)) ?_
    refine ev_aload_nR (mm 18 rfl) l0 ?_
    refine ev_iconst (mm 19 rfl) cI_m1 ?_
    obtain ⟨M17, e18, h⟩ := bind_so h
    refine ev_put_i (mm 20 rfl) (fun z => by cases z) rfl e18 ?_
    exact ev_return (mm 21 rfl) h
  exact ⟨by decide, Nat.le_of_ble_eq_true rfl, key.1, key.2⟩
def f72_l44 (x0 : Nat) (x1 : Int32) (x2 : Int32) : Nat → Int64 → Int32 → vm_M → Option (Int64 × vm_M)
  | 0 => fun _ _ _ => none
  | n + 1 => fun x4 x6 M =>
    (sg_r M x0 9 0).bind fun v20 =>
    (v20).bind fun q22 =>
    (sg_i M q22 0 7).bind fun v24 =>
    if v24 ≤ x6 then
      some (x4, M)
    else
      (sg_r M x0 9 0).bind fun v27 =>
      (v27).bind fun q29 =>
      (s_ob M q29 0).bind fun _ =>
      (f5 q29 x6 x2 M).bind fun p31 =>
      if ¬ p31.1 = x1 then
        f72_l44 x0 x1 x2 n x4 (x6 + 1) p31.2
      else
        (sg_r p31.2 x0 9 14).bind fun v36 =>
        (v36).bind fun q38 =>
        (sa_l p31.2 q38 (((x2 - 1) * 12) + x6)).bind fun v40 =>
        (sg_r p31.2 x0 9 11).bind fun v42 =>
        (v42).bind fun q44 =>
        (sa_l p31.2 q44 x6).bind fun v46 =>
        f72_l44 x0 x1 x2 n (x4 + (v40 - v46)) (x6 + 1) p31.2
theorem f72_l44_ok {d : Nat} {x0 : Nat} {x1 : Int32} {x2 : Int32} {r : Int64 × vm_M} : ∀ (n : Nat) {x4 : Int64} {x6 : Int32} {M : vm_M} {lv : vm_L}, (0, .ref (x0)) ∈ lv → (1, .int (x1)) ∈ lv → (2, .int (x2)) ∈ lv → (4, .long (x4)) ∈ lv → (6, .int (x6)) ∈ lv → f72_l44 x0 x1 x2 n x4 x6 M = some r → Ev 0 (fun _ => 0) (vm_Cl (d + 5)) vp_72 9 7 false (some (.long)) (rJ r) 44 lv [] M := by
  intro n
  induction n with
  | zero =>
    intro x4 x6 M lv l0 l1 l2 l4 l6 h
    cases h
  | succ n ih =>
    intro x4 x6 M lv l0 l1 l2 l4 l6 h
    dsimp only [f72_l44] at h
    refine ev_iload (mm 31 rfl) l6 ?_
    refine ev_aload_nR (mm 32 rfl) l0 ?_
    obtain ⟨v20, e21, h⟩ := bind_so h
    refine ev_get_r (mm 33 rfl) rfl e21 ?_
    obtain ⟨q22, e23, h⟩ := bind_so h
    rw [e23]
    obtain ⟨v24, e25, h⟩ := bind_so h
    refine ev_get_i (mm 34 rfl) rfl e25 ?_
    rcases ite_so h with ⟨c26, h⟩ | ⟨c26, h⟩
    · refine ev_ic_t 103 (mm 35 rfl) rfl c26 ?_
      refine ev_lload (mm 63 rfl) l4 ?_
      exact ev_lreturn (mm 64 rfl) h
    · refine ev_ic_f 103 (mm 35 rfl) rfl c26 ?_
      refine ev_aload_nR (mm 36 rfl) l0 ?_
      obtain ⟨v27, e28, h⟩ := bind_so h
      refine ev_get_r (mm 37 rfl) rfl e28 ?_
      refine ev_iload (mm 38 rfl) l6 ?_
      refine ev_iload_n (mm 39 rfl) l2 ?_
      obtain ⟨q29, e30, h⟩ := bind_so h
      rw [e30]
      obtain ⟨_, e52, h⟩ := bind_so h
      obtain ⟨p31, e32, h⟩ := bind_so h
      refine ev_callV_I [.int (x6), .int (x2)] (mm 40 rfl) rfl rfl (Nat.le_of_ble_eq_true rfl) (s_ob_of e52) (f5_ok e32 (d + 4)) ?_
      refine ev_iload_n (mm 41 rfl) l1 ?_
      rcases ite_so h with ⟨c33, h⟩ | ⟨c33, h⟩
      · refine ev_ic_t 97 (mm 42 rfl) rfl c33 ?_
        refine evs_iinc (mm 61 rfl) cI_1 l6 (by decide) (fun lv34 l6 s35 => ?_)
        have l0 := s35 _ _ l0 rfl
        have l1 := s35 _ _ l1 rfl
        have l2 := s35 _ _ l2 rfl
        have l4 := s35 _ _ l4 rfl
        refine ev_goto 44 (mm 62 rfl) rfl ?_
        exact ih l0 l1 l2 l4 l6 h
      · refine ev_ic_f 97 (mm 42 rfl) rfl c33 ?_
        refine ev_lload (mm 43 rfl) l4 ?_
        refine ev_aload_nR (mm 44 rfl) l0 ?_
        obtain ⟨v36, e37, h⟩ := bind_so h
        refine ev_get_r (mm 45 rfl) rfl e37 ?_
        refine ev_iload_n (mm 46 rfl) l2 ?_
        refine ev_iconst (mm 47 rfl) cI_1 ?_
        refine ev_isub (mm 48 rfl) ?_
        refine ev_bipush (mm 49 rfl) cB_12 ?_
        refine ev_imul (mm 50 rfl) ?_
        refine ev_iload (mm 51 rfl) l6 ?_
        refine ev_iadd (mm 52 rfl) ?_
        obtain ⟨q38, e39, h⟩ := bind_so h
        rw [e39]
        obtain ⟨v40, e41, h⟩ := bind_so h
        refine ev_laload (mm 53 rfl) e41 ?_
        refine ev_aload_nR (mm 54 rfl) l0 ?_
        obtain ⟨v42, e43, h⟩ := bind_so h
        refine ev_get_r (mm 55 rfl) rfl e43 ?_
        refine ev_iload (mm 56 rfl) l6 ?_
        obtain ⟨q44, e45, h⟩ := bind_so h
        rw [e45]
        obtain ⟨v46, e47, h⟩ := bind_so h
        refine ev_laload (mm 57 rfl) e47 ?_
        refine ev_lsub (mm 58 rfl) ?_
        refine ev_ladd (mm 59 rfl) ?_
        refine evs_lstore (mm 60 rfl) (by decide) (fun lv48 l4 s49 => ?_)
        have l0 := s49 _ _ l0 rfl
        have l1 := s49 _ _ l1 rfl
        have l2 := s49 _ _ l2 rfl
        have l6 := s49 _ _ l6 rfl
        refine evs_iinc (mm 61 rfl) cI_1 l6 (by decide) (fun lv50 l6 s51 => ?_)
        have l0 := s51 _ _ l0 rfl
        have l1 := s51 _ _ l1 rfl
        have l2 := s51 _ _ l2 rfl
        have l4 := s51 _ _ l4 rfl
        refine ev_goto 44 (mm 62 rfl) rfl ?_
        exact ih l0 l1 l2 l4 l6 h
/-- PupilCoin$Sums.putRight(II)J -/
def f72 (x0 : Nat) (x1 : Int32) (x2 : Int32) (M : vm_M) : Option (Int64 × vm_M) :=
  if 1 ≤ x2 then
    (s_ob M x0 9).bind fun _ =>
    (f62 x0 x2 M).bind fun p4 =>
    (sg_r p4 x0 9 2).bind fun v6 =>
    (v6).bind fun q8 =>
    (s_ob p4 q8 8).bind fun _ =>
    (f56 q8 (x2 - 1) ((x2 - 1) * 100) p4).bind fun p10 =>
    (p10.1).bind fun q12 =>
    (s_ob p10.2 x0 9).bind fun _ =>
    (f63 x0 q12 (x2 - 1) ((x2 - 1) * 100) p10.2).bind fun p14 =>
    f72_l44 x0 x1 x2
    
      100000 0 0 p14
  else
    some (0, M)
theorem f72_ok {x0 : Nat} {x1 : Int32} {x2 : Int32} {M : vm_M} {r : Int64 × vm_M} (h : f72 x0 x1 x2 M = some r) (d : Nat) : vm_Cl (d + 6) 72 [.ref (x0), .int (x1), .int (x2)] M (rJ r) := by
  have key : Ev 0 (fun _ => 0) (vm_Cl (d + 5)) vp_72 9 7 false (some (.long)) (rJ r) 0 (lv_args 0 [.ref (x0), .int (x1), .int (x2)]) [] M := by
    have l0 : (0, .ref (x0)) ∈ lv_args 0 [.ref (x0), .int (x1), .int (x2)] := List.Mem.head _
    have l1 : (1, .int (x1)) ∈ lv_args 0 [.ref (x0), .int (x1), .int (x2)] := List.Mem.tail _ (List.Mem.head _)
    have l2 : (2, .int (x2)) ∈ lv_args 0 [.ref (x0), .int (x1), .int (x2)] := List.Mem.tail _ (List.Mem.tail _ (List.Mem.head _))
    unfold f72 at h
    refine ev_iload_n (mm 0 rfl) l2 ?_
    refine ev_iconst (mm 1 rfl) cI_1 ?_
    rcases ite_so h with ⟨c1, h⟩ | ⟨c1, h⟩
    · refine ev_ic_t 7 (mm 2 rfl) rfl c1 ?_
      refine ev_iload_n (mm 5 rfl) l2 ?_
      refine ev_iconst (mm 6 rfl) cI_1 ?_
      refine ev_isub (mm 7 rfl) ?_
      refine ev_bipush (mm 8 rfl) cB_100 ?_
      refine ev_imul (mm 9 rfl) ?_
      refine evs_istore_n (mm 10 rfl) (by decide) (fun lv2 l3 s3 => ?_)
      have l0 := s3 _ _ l0 rfl
      have l1 := s3 _ _ l1 rfl
      have l2 := s3 _ _ l2 rfl
      refine ev_aload_nR (mm 11 rfl) l0 ?_
      refine ev_iload_n (mm 12 rfl) l2 ?_
      obtain ⟨_, e55, h⟩ := bind_so h
      obtain ⟨p4, e5, h⟩ := bind_so h
      refine ev_callV_V [.int (x2)] (mm 13 rfl) rfl rfl (Nat.le_of_ble_eq_true rfl) (s_ob_of e55) (f62_ok e5 (d + 0)) ?_
      refine ev_aload_nR (mm 14 rfl) l0 ?_
      refine ev_aload_nR (mm 15 rfl) l0 ?_
      obtain ⟨v6, e7, h⟩ := bind_so h
      refine ev_get_r (mm 16 rfl) rfl e7 ?_
      refine ev_iload_n (mm 17 rfl) l2 ?_
      refine ev_iconst (mm 18 rfl) cI_1 ?_
      refine ev_isub (mm 19 rfl) ?_
      refine ev_iload_n (mm 20 rfl) l3 ?_
      obtain ⟨q8, e9, h⟩ := bind_so h
      rw [e9]
      obtain ⟨_, e54, h⟩ := bind_so h
      obtain ⟨p10, e11, h⟩ := bind_so h
      refine ev_callV_A [.int ((x2 - 1)), .int (((x2 - 1) * 100))] (mm 21 rfl) rfl rfl (Nat.le_of_ble_eq_true rfl) (s_ob_of e54) (f56_ok e11 (d + 4)) ?_
      refine ev_iload_n (mm 22 rfl) l2 ?_
      refine ev_iconst (mm 23 rfl) cI_1 ?_
      refine ev_isub (mm 24 rfl) ?_
      refine ev_iload_n (mm 25 rfl) l3 ?_
      obtain ⟨q12, e13, h⟩ := bind_so h
      rw [e13]
      obtain ⟨_, e53, h⟩ := bind_so h
      obtain ⟨p14, e15, h⟩ := bind_so h
      refine ev_callV_V [.ref (q12), .int ((x2 - 1)), .int (((x2 - 1) * 100))] (mm 26 rfl) rfl rfl (Nat.le_of_ble_eq_true rfl) (s_ob_of e53) (f63_ok e15 (d + 1)) ?_
      refine ev_lconst (mm 27 rfl) cL_0 ?_
      refine evs_lstore (mm 28 rfl) (by decide) (fun lv16 l4 s17 => ?_)
      have l0 := s17 _ _ l0 rfl
      have l1 := s17 _ _ l1 rfl
      have l2 := s17 _ _ l2 rfl
      refine ev_iconst (mm 29 rfl) cI_0 ?_
      refine evs_istore (mm 30 rfl) (by decide) (fun lv18 l6 s19 => ?_)
      have l0 := s19 _ _ l0 rfl
      have l1 := s19 _ _ l1 rfl
      have l2 := s19 _ _ l2 rfl
      have l4 := s19 _ _ l4 rfl
      refine f72_l44_ok 100000 l0 l1 l2 l4 l6 h
    · refine ev_ic_f 7 (mm 2 rfl) rfl c1 ?_
      refine ev_lconst (mm 3 rfl) cL_0 ?_
      exact ev_lreturn (mm 4 rfl) h
  exact ⟨by decide, Nat.le_of_ble_eq_true rfl, key.1, key.2⟩
