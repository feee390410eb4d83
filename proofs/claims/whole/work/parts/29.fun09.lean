/-! shallow functions, by program (wip/gen_fun.py) -/
def f171_j165 (x0 : Nat) (x1 : Int32) (x3 : Int32) (x4 : Int64) (x6 : Int32) (M : vm_M) : Option (vm_M) :=
  if ¬ x6 = 0 then
    some M
  else
    (s_ob M x0 11).bind fun _ =>
    (f172 x0 x1 x3 x4 M).bind fun p50 =>
    some p50
theorem f171_j165_ok {d : Nat} {x0 : Nat} {x1 : Int32} {x3 : Int32} {x4 : Int64} {x6 : Int32} {M : vm_M} {r : vm_M} {lv : vm_L} (l0 : (0, .ref (x0)) ∈ lv) (l1 : (1, .int (x1)) ∈ lv) (l3 : (3, .int (x3)) ∈ lv) (l4 : (4, .long (x4)) ∈ lv) (l6 : (6, .int (x6)) ∈ lv) (h : f171_j165 x0 x1 x3 x4 x6 M = some r) : Ev 0 (fun _ => 0) (vm_Cl (d + 3)) vp_171 11 8 false none (rV r) 165 lv [] M := by
  unfold f171_j165 at h
  refine ev_iload (mm 101 rfl) l6 ?_
  rcases ite_so h with ⟨c49, h⟩ | ⟨c49, h⟩
  · refine ev_if_t 178 (mm 102 rfl) rfl c49 ?_
    exact ev_return (mm 108 rfl) h
  · refine ev_if_f 178 (mm 102 rfl) rfl c49 ?_
    refine ev_aload_nR (mm 103 rfl) l0 ?_
    refine ev_iload_n (mm 104 rfl) l1 ?_
    refine ev_iload_n (mm 105 rfl) l3 ?_
    refine ev_lload (mm 106 rfl) l4 ?_
    obtain ⟨_, e52, h⟩ := bind_so h
    obtain ⟨p50, e51, h⟩ := bind_so h
    refine ev_callV_V [.int (x1), .int (x3), .long (x4)] (mm 107 rfl) rfl rfl (Nat.le_of_ble_eq_true rfl) (s_ob_of e52) (f172_ok e51 (d + 0)) ?_
    exact ev_return (mm 108 rfl) h
def f171_j92 (x0 : Nat) (x1 : Int32) (x3 : Int32) (x4 : Int64) (x6 : Int32) (M : vm_M) : Option (vm_M) :=
  (s_ob M x0 11).bind fun _ =>
  (f162 x0 x3 1 (-1) M).bind fun p44 =>
  if p44.1 = (-1) then
    f171_j165 x0 x1 x3 x4 x6 p44.2
  else
    (sg_r p44.2 x0 11 48).bind fun v53 =>
    (v53).bind fun q55 =>
    (sa_l p44.2 q55 x1).bind fun v57 =>
    (s_dl (x4 * (p44.1 : Int32).toInt64) 100).bind fun v59 =>
    if 0 ≤ (lg_cmp v57 v59) then
      f171_j165 x0 x1 x3 x4 x6 p44.2
    else
      (sg_r p44.2 x0 11 45).bind fun v62 =>
      (s_dl (x4 * (p44.1 : Int32).toInt64) 100).bind fun v64 =>
      (sg_r p44.2 x0 11 48).bind fun v66 =>
      (v66).bind fun q68 =>
      (sa_l p44.2 q68 x1).bind fun v70 =>
      (v62).bind fun q72 =>
      (ss_l p44.2 q72 x1 (v64 - v70)).bind fun M74 =>
      (sg_r M74 x0 11 48).bind fun v76 =>
      (v76).bind fun q78 =>
      (sa_l M74 q78 x1).bind fun v80 =>
      (sg_r M74 x0 11 45).bind fun v82 =>
      (v82).bind fun q84 =>
      (sa_l M74 q84 x1).bind fun v86 =>
      (ss_l M74 q78 x1 (v80 + v86)).bind fun M88 =>
      f171_j165 x0 x1 x3 x4 x6 M88
theorem f171_j92_ok {d : Nat} {x0 : Nat} {x1 : Int32} {x3 : Int32} {x4 : Int64} {x6 : Int32} {M : vm_M} {r : vm_M} {lv : vm_L} (l0 : (0, .ref (x0)) ∈ lv) (l1 : (1, .int (x1)) ∈ lv) (l3 : (3, .int (x3)) ∈ lv) (l4 : (4, .long (x4)) ∈ lv) (l6 : (6, .int (x6)) ∈ lv) (h : f171_j92 x0 x1 x3 x4 x6 M = some r) : Ev 0 (fun _ => 0) (vm_Cl (d + 3)) vp_171 11 8 false none (rV r) 92 lv [] M := by
  unfold f171_j92 at h
  refine ev_aload_nR (mm 54 rfl) l0 ?_
  refine ev_iload_n (mm 55 rfl) l3 ?_
  refine ev_iconst (mm 56 rfl) cI_1 ?_
  refine ev_iconst (mm 57 rfl) cI_m1 ?_
  obtain ⟨_, e90, h⟩ := bind_so h
  obtain ⟨p44, e45, h⟩ := bind_so h
  refine ev_callV_I [.int (x3), .int (1), .int ((-1))] (mm 58 rfl) rfl rfl (Nat.le_of_ble_eq_true rfl) (s_ob_of e90) (f162_ok e45 (d + 1)) ?_
  refine evs_istore (mm 59 rfl) (by decide) (fun lv46 l7 s47 => ?_)
  have l0 := s47 _ _ l0 rfl
  have l1 := s47 _ _ l1 rfl
  have l3 := s47 _ _ l3 rfl
  have l4 := s47 _ _ l4 rfl
  have l6 := s47 _ _ l6 rfl
  refine ev_iload (mm 60 rfl) l7 ?_
  refine ev_iconst (mm 61 rfl) cI_m1 ?_
  rcases ite_so h with ⟨c48, h⟩ | ⟨c48, h⟩
  · refine ev_ic_t 165 (mm 62 rfl) rfl c48 ?_
    exact f171_j165_ok l0 l1 l3 l4 l6 h
  · refine ev_ic_f 165 (mm 62 rfl) rfl c48 ?_
    refine ev_aload_nR (mm 63 rfl) l0 ?_
    obtain ⟨v53, e54, h⟩ := bind_so h
    refine ev_get_r (mm 64 rfl) rfl e54 ?_
    refine ev_iload_n (mm 65 rfl) l1 ?_
    obtain ⟨q55, e56, h⟩ := bind_so h
    rw [e56]
    obtain ⟨v57, e58, h⟩ := bind_so h
    refine ev_laload (mm 66 rfl) e58 ?_
    refine ev_lload (mm 67 rfl) l4 ?_
    refine ev_iload (mm 68 rfl) l7 ?_
    refine ev_i2l (mm 69 rfl) ?_
    refine ev_lmul (mm 70 rfl) ?_
    refine ev_ldc2_w (mm 71 rfl) cJ_100 ?_
    obtain ⟨v59, e60, h⟩ := bind_so h
    refine ev_ldiv (mm 72 rfl) e60 ?_
    refine ev_lcmp (mm 73 rfl) ?_
    rcases ite_so h with ⟨c61, h⟩ | ⟨c61, h⟩
    · refine ev_if_t 165 (mm 74 rfl) rfl c61 ?_
      exact f171_j165_ok l0 l1 l3 l4 l6 h
    · refine ev_if_f 165 (mm 74 rfl) rfl c61 ?_
      refine ev_aload_nR (mm 75 rfl) l0 ?_
      obtain ⟨v62, e63, h⟩ := bind_so h
      refine ev_get_r (mm 76 rfl) rfl e63 ?_
      refine ev_iload_n (mm 77 rfl) l1 ?_
      refine ev_lload (mm 78 rfl) l4 ?_
      refine ev_iload (mm 79 rfl) l7 ?_
      refine ev_i2l (mm 80 rfl) ?_
      refine ev_lmul (mm 81 rfl) ?_
      refine ev_ldc2_w (mm 82 rfl) cJ_100 ?_
      obtain ⟨v64, e65, h⟩ := bind_so h
      refine ev_ldiv (mm 83 rfl) e65 ?_
      refine ev_aload_nR (mm 84 rfl) l0 ?_
      obtain ⟨v66, e67, h⟩ := bind_so h
      refine ev_get_r (mm 85 rfl) rfl e67 ?_
      refine ev_iload_n (mm 86 rfl) l1 ?_
      obtain ⟨q68, e69, h⟩ := bind_so h
      rw [e69]
      obtain ⟨v70, e71, h⟩ := bind_so h
      refine ev_laload (mm 87 rfl) e71 ?_
      refine ev_lsub (mm 88 rfl) ?_
      obtain ⟨q72, e73, h⟩ := bind_so h
      rw [e73]
      obtain ⟨M74, e75, h⟩ := bind_so h
      refine ev_lastore (mm 89 rfl) e75 ?_
      refine ev_aload_nR (mm 90 rfl) l0 ?_
      obtain ⟨v76, e77, h⟩ := bind_so h
      refine ev_get_r (mm 91 rfl) rfl e77 ?_
      refine ev_iload_n (mm 92 rfl) l1 ?_
      refine ev_dup2 (mm 93 rfl) rfl (by cases (v76 : Option Nat) <;> rfl) ?_
      obtain ⟨q78, e79, h⟩ := bind_so h
      rw [e79]
      obtain ⟨v80, e81, h⟩ := bind_so h
      refine ev_laload (mm 94 rfl) e81 ?_
      refine ev_aload_nR (mm 95 rfl) l0 ?_
      obtain ⟨v82, e83, h⟩ := bind_so h
      refine ev_get_r (mm 96 rfl) rfl e83 ?_
      refine ev_iload_n (mm 97 rfl) l1 ?_
      obtain ⟨q84, e85, h⟩ := bind_so h
      rw [e85]
      obtain ⟨v86, e87, h⟩ := bind_so h
      refine ev_laload (mm 98 rfl) e87 ?_
      refine ev_ladd (mm 99 rfl) ?_
      obtain ⟨M88, e89, h⟩ := bind_so h
      refine ev_lastore (mm 100 rfl) e89 ?_
      exact f171_j165_ok l0 l1 l3 l4 l6 h
def f171_j77 (x0 : Nat) (x1 : Int32) (x3 : Int32) (x4 : Int64) (s0 : Int32) (M : vm_M) : Option (vm_M) :=
  if s0 = 0 then
    f171_j92 x0 x1 x3 x4 s0 M
  else
    (s_ob M x0 11).bind fun _ =>
    (f172 x0 x1 x3 x4 M).bind fun p91 =>
    f171_j92 x0 x1 x3 x4 s0 p91
theorem f171_j77_ok {d : Nat} {x0 : Nat} {x1 : Int32} {x3 : Int32} {x4 : Int64} {s0 : Int32} {M : vm_M} {r : vm_M} {lv : vm_L} (l0 : (0, .ref (x0)) ∈ lv) (l1 : (1, .int (x1)) ∈ lv) (l3 : (3, .int (x3)) ∈ lv) (l4 : (4, .long (x4)) ∈ lv) (h : f171_j77 x0 x1 x3 x4 s0 M = some r) : Ev 0 (fun _ => 0) (vm_Cl (d + 3)) vp_171 11 8 false none (rV r) 77 lv [.int (s0)] M := by
  unfold f171_j77 at h
  refine evs_istore (mm 46 rfl) (by decide) (fun lv41 l6 s42 => ?_)
  have l0 := s42 _ _ l0 rfl
  have l1 := s42 _ _ l1 rfl
  have l3 := s42 _ _ l3 rfl
  have l4 := s42 _ _ l4 rfl
  refine ev_iload (mm 47 rfl) l6 ?_
  rcases ite_so h with ⟨c43, h⟩ | ⟨c43, h⟩
  · refine ev_if_t 92 (mm 48 rfl) rfl c43 ?_
    exact f171_j92_ok l0 l1 l3 l4 l6 h
  · refine ev_if_f 92 (mm 48 rfl) rfl c43 ?_
    refine ev_aload_nR (mm 49 rfl) l0 ?_
    refine ev_iload_n (mm 50 rfl) l1 ?_
    refine ev_iload_n (mm 51 rfl) l3 ?_
    refine ev_lload (mm 52 rfl) l4 ?_
    obtain ⟨_, e93, h⟩ := bind_so h
    obtain ⟨p91, e92, h⟩ := bind_so h
    refine ev_callV_V [.int (x1), .int (x3), .long (x4)] (mm 53 rfl) rfl rfl (Nat.le_of_ble_eq_true rfl) (s_ob_of e93) (f172_ok e92 (d + 0)) ?_
    exact f171_j92_ok l0 l1 l3 l4 l6 h
/-- PupilCoinModel.bounds(III)V -/
def f171 (x0 : Nat) (x1 : Int32) (x2 : Int32) (x3 : Int32) (M : vm_M) : Option (vm_M) :=
  if x2 = 0 then
    some M
  else
    (sg_r M x0 11 49).bind fun v2 =>
    (v2).bind fun q4 =>
    (sa_l M q4 x1).bind fun v6 =>
    if (lg_cmp v6 0) = 0 then
      some M
    else
      (sg_r M x0 11 50).bind fun v9 =>
      (v9).bind fun q11 =>
      (sa_l M q11 x1).bind fun v13 =>
      if ¬ (lg_cmp v13 0) = 0 then
        (sg_r M x0 11 49).bind fun v16 =>
        (v16).bind fun q18 =>
        (sa_l M q18 x1).bind fun v20 =>
        (sg_r M x0 11 51).bind fun v22 =>
        (v22).bind fun q24 =>
        (sa_l M q24 x1).bind fun v26 =>
        (sg_r M x0 11 50).bind fun v28 =>
        (v28).bind fun q30 =>
        (sa_l M q30 x1).bind fun v32 =>
        (s_dl (v20 * v26) v32).bind fun v34 =>
        (s_ob M x0 11).bind fun _ =>
        (f162 x0 x3 5 0 M).bind fun p38 =>
        if ¬ p38.1 = 1 then
          f171_j77 x0 x1 x3 (s_mxJ (-10000000000) (s_mnJ 10000000000 v34)) 0 p38.2
        else
          f171_j77 x0 x1 x3 (s_mxJ (-10000000000) (s_mnJ 10000000000 v34)) 1 p38.2
      else
        some M
theorem f171_ok {x0 : Nat} {x1 : Int32} {x2 : Int32} {x3 : Int32} {M : vm_M} {r : vm_M} (h : f171 x0 x1 x2 x3 M = some r) (d : Nat) : vm_Cl (d + 4) 171 [.ref (x0), .int (x1), .int (x2), .int (x3)] M (rV r) := by
  have key : Ev 0 (fun _ => 0) (vm_Cl (d + 3)) vp_171 11 8 false none (rV r) 0 (lv_args 0 [.ref (x0), .int (x1), .int (x2), .int (x3)]) [] M := by
    have l0 : (0, .ref (x0)) ∈ lv_args 0 [.ref (x0), .int (x1), .int (x2), .int (x3)] := List.Mem.head _
    have l1 : (1, .int (x1)) ∈ lv_args 0 [.ref (x0), .int (x1), .int (x2), .int (x3)] := List.Mem.tail _ (List.Mem.head _)
    have l2 : (2, .int (x2)) ∈ lv_args 0 [.ref (x0), .int (x1), .int (x2), .int (x3)] := List.Mem.tail _ (List.Mem.tail _ (List.Mem.head _))
    have l3 : (3, .int (x3)) ∈ lv_args 0 [.ref (x0), .int (x1), .int (x2), .int (x3)] := List.Mem.tail _ (List.Mem.tail _ (List.Mem.tail _ (List.Mem.head _)))
    unfold f171 at h
    refine ev_iload_n (mm 0 rfl) l2 ?_
    rcases ite_so h with ⟨c1, h⟩ | ⟨c1, h⟩
    · refine ev_if_t 26 (mm 1 rfl) rfl c1 ?_
      exact ev_return (mm 16 rfl) h
    · refine ev_if_f 26 (mm 1 rfl) rfl c1 ?_
      refine ev_aload_nR (mm 2 rfl) l0 ?_
      obtain ⟨v2, e3, h⟩ := bind_so h
      refine ev_get_r (mm 3 rfl) rfl e3 ?_
      refine ev_iload_n (mm 4 rfl) l1 ?_
      obtain ⟨q4, e5, h⟩ := bind_so h
      rw [e5]
      obtain ⟨v6, e7, h⟩ := bind_so h
      refine ev_laload (mm 5 rfl) e7 ?_
      refine ev_lconst (mm 6 rfl) cL_0 ?_
      refine ev_lcmp (mm 7 rfl) ?_
      rcases ite_so h with ⟨c8, h⟩ | ⟨c8, h⟩
      · refine ev_if_t 26 (mm 8 rfl) rfl c8 ?_
        exact ev_return (mm 16 rfl) h
      · refine ev_if_f 26 (mm 8 rfl) rfl c8 ?_
        refine ev_aload_nR (mm 9 rfl) l0 ?_
        obtain ⟨v9, e10, h⟩ := bind_so h
        refine ev_get_r (mm 10 rfl) rfl e10 ?_
        refine ev_iload_n (mm 11 rfl) l1 ?_
        obtain ⟨q11, e12, h⟩ := bind_so h
        rw [e12]
        obtain ⟨v13, e14, h⟩ := bind_so h
        refine ev_laload (mm 12 rfl) e14 ?_
        refine ev_lconst (mm 13 rfl) cL_0 ?_
        refine ev_lcmp (mm 14 rfl) ?_
        rcases ite_so h with ⟨c15, h⟩ | ⟨c15, h⟩
        · refine ev_if_t 27 (mm 15 rfl) rfl c15 ?_
          refine ev_ldc2_w (mm 17 rfl) cJ_m10000000000 ?_
          refine ev_ldc2_w (mm 18 rfl) cJ_10000000000 ?_
          refine ev_aload_nR (mm 19 rfl) l0 ?_
          obtain ⟨v16, e17, h⟩ := bind_so h
          refine ev_get_r (mm 20 rfl) rfl e17 ?_
          refine ev_iload_n (mm 21 rfl) l1 ?_
          obtain ⟨q18, e19, h⟩ := bind_so h
          rw [e19]
          obtain ⟨v20, e21, h⟩ := bind_so h
          refine ev_laload (mm 22 rfl) e21 ?_
          refine ev_aload_nR (mm 23 rfl) l0 ?_
          obtain ⟨v22, e23, h⟩ := bind_so h
          refine ev_get_r (mm 24 rfl) rfl e23 ?_
          refine ev_iload_n (mm 25 rfl) l1 ?_
          obtain ⟨q24, e25, h⟩ := bind_so h
          rw [e25]
          obtain ⟨v26, e27, h⟩ := bind_so h
          refine ev_laload (mm 26 rfl) e27 ?_
          refine ev_lmul (mm 27 rfl) ?_
          refine ev_aload_nR (mm 28 rfl) l0 ?_
          obtain ⟨v28, e29, h⟩ := bind_so h
          refine ev_get_r (mm 29 rfl) rfl e29 ?_
          refine ev_iload_n (mm 30 rfl) l1 ?_
          obtain ⟨q30, e31, h⟩ := bind_so h
          rw [e31]
          obtain ⟨v32, e33, h⟩ := bind_so h
          refine ev_laload (mm 31 rfl) e33 ?_
          obtain ⟨v34, e35, h⟩ := bind_so h
          refine ev_ldiv (mm 32 rfl) e35 ?_
          refine ev_mnJ (mm 33 rfl) (Nat.le_of_ble_eq_true rfl) ?_
          refine ev_mxJ (mm 34 rfl) (Nat.le_of_ble_eq_true rfl) ?_
          refine evs_lstore (mm 35 rfl) (by decide) (fun lv36 l4 s37 => ?_)
          have l0 := s37 _ _ l0 rfl
          have l1 := s37 _ _ l1 rfl
          have l3 := s37 _ _ l3 rfl
          refine ev_aload_nR (mm 36 rfl) l0 ?_
          refine ev_iload_n (mm 37 rfl) l3 ?_
          refine ev_iconst (mm 38 rfl) cI_5 ?_
          refine ev_iconst (mm 39 rfl) cI_0 ?_
          obtain ⟨_, e94, h⟩ := bind_so h
          obtain ⟨p38, e39, h⟩ := bind_so h
          refine ev_callV_I [.int (x3), .int (5), .int (0)] (mm 40 rfl) rfl rfl (Nat.le_of_ble_eq_true rfl) (s_ob_of e94) (f162_ok e39 (d + 1)) ?_
          refine ev_iconst (mm 41 rfl) cI_1 ?_
          rcases ite_so h with ⟨c40, h⟩ | ⟨c40, h⟩
          · refine ev_ic_t 76 (mm 42 rfl) rfl c40 ?_
            refine ev_iconst (mm 45 rfl) cI_0 ?_
            exact f171_j77_ok l0 l1 l3 l4 h
          · refine ev_ic_f 76 (mm 42 rfl) rfl c40 ?_
            refine ev_iconst (mm 43 rfl) cI_1 ?_
            refine ev_goto 77 (mm 44 rfl) rfl ?_
            exact f171_j77_ok l0 l1 l3 l4 h
        · refine ev_if_f 27 (mm 15 rfl) rfl c15 ?_
          exact ev_return (mm 16 rfl) h
  exact ⟨by decide, Nat.le_of_ble_eq_true rfl, key.1, key.2⟩
/-- PupilCoinModel.partOf(II)J -/
def f173 (x0 : Nat) (x1 : Int32) (x2 : Int32) (M : vm_M) : Option (Int64 × vm_M) :=
  (s_ob M x0 11).bind fun _ =>
  (f162 x0 x2 6 (-1) M).bind fun p1 =>
  if ¬ p1.1 = (-1) then
    (sg_r p1.2 x0 11 44).bind fun v6 =>
    (v6).bind fun q8 =>
    (sa_l p1.2 q8 ((30 * x1) + p1.1)).bind fun v10 =>
    some ((s_mxJ 0 v10), p1.2)
  else
    (sg_r p1.2 x0 11 51).bind fun v12 =>
    (v12).bind fun q14 =>
    (sa_l p1.2 q14 x1).bind fun v16 =>
    some ((s_mxJ 0 v16), p1.2)
theorem f173_ok {x0 : Nat} {x1 : Int32} {x2 : Int32} {M : vm_M} {r : Int64 × vm_M} (h : f173 x0 x1 x2 M = some r) (d : Nat) : vm_Cl (d + 3) 173 [.ref (x0), .int (x1), .int (x2)] M (rJ r) := by
  have key : Ev 0 (fun _ => 0) (vm_Cl (d + 2)) vp_173 11 4 false (some (.long)) (rJ r) 0 (lv_args 0 [.ref (x0), .int (x1), .int (x2)]) [] M := by
    have l0 : (0, .ref (x0)) ∈ lv_args 0 [.ref (x0), .int (x1), .int (x2)] := List.Mem.head _
    have l1 : (1, .int (x1)) ∈ lv_args 0 [.ref (x0), .int (x1), .int (x2)] := List.Mem.tail _ (List.Mem.head _)
    have l2 : (2, .int (x2)) ∈ lv_args 0 [.ref (x0), .int (x1), .int (x2)] := List.Mem.tail _ (List.Mem.tail _ (List.Mem.head _))
    unfold f173 at h
    refine ev_aload_nR (mm 0 rfl) l0 ?_
    refine ev_iload_n (mm 1 rfl) l2 ?_
    refine ev_bipush (mm 2 rfl) cB_6 ?_
    refine ev_iconst (mm 3 rfl) cI_m1 ?_
    obtain ⟨_, e18, h⟩ := bind_so h
    obtain ⟨p1, e2, h⟩ := bind_so h
    refine ev_callV_I [.int (x2), .int (6), .int ((-1))] (mm 4 rfl) rfl rfl (Nat.le_of_ble_eq_true rfl) (s_ob_of e18) (f162_ok e2 (d + 0)) ?_
    refine evs_istore_n (mm 5 rfl) (by decide) (fun lv3 l3 s4 => ?_)
    have l0 := s4 _ _ l0 rfl
    have l1 := s4 _ _ l1 rfl
    refine ev_lconst (mm 6 rfl) cL_0 ?_
    refine ev_iload_n (mm 7 rfl) l3 ?_
    refine ev_iconst (mm 8 rfl) cI_m1 ?_
    rcases ite_so h with ⟨c5, h⟩ | ⟨c5, h⟩
    · refine ev_ic_t 24 (mm 9 rfl) rfl c5 ?_
      refine ev_aload_nR (mm 15 rfl) l0 ?_
      obtain ⟨v6, e7, h⟩ := bind_so h
      refine ev_get_r (mm 16 rfl) rfl e7 ?_
      refine ev_bipush (mm 17 rfl) cB_30 ?_
      refine ev_iload_n (mm 18 rfl) l1 ?_
      refine ev_imul (mm 19 rfl) ?_
      refine ev_iload_n (mm 20 rfl) l3 ?_
      refine ev_iadd (mm 21 rfl) ?_
      obtain ⟨q8, e9, h⟩ := bind_so h
      rw [e9]
      obtain ⟨v10, e11, h⟩ := bind_so h
      refine ev_laload (mm 22 rfl) e11 ?_
      refine ev_mxJ (mm 23 rfl) (Nat.le_of_ble_eq_true rfl) ?_
      exact ev_lreturn (mm 24 rfl) h
    · refine ev_ic_f 24 (mm 9 rfl) rfl c5 ?_
      refine ev_aload_nR (mm 10 rfl) l0 ?_
      obtain ⟨v12, e13, h⟩ := bind_so h
      refine ev_get_r (mm 11 rfl) rfl e13 ?_
      refine ev_iload_n (mm 12 rfl) l1 ?_
      obtain ⟨q14, e15, h⟩ := bind_so h
      rw [e15]
      obtain ⟨v16, e17, h⟩ := bind_so h
      refine ev_laload (mm 13 rfl) e17 ?_
      refine ev_goto 35 (mm 14 rfl) rfl ?_
      refine ev_mxJ (mm 23 rfl) (Nat.le_of_ble_eq_true rfl) ?_
      exact ev_lreturn (mm 24 rfl) h
  exact ⟨by decide, Nat.le_of_ble_eq_true rfl, key.1, key.2⟩
def f175_j51 (k74 : Int64 → vm_M → Option (Int64 × vm_M)) (k16 : Int64 → Int64 → Int32 → vm_M → Option (Int64 × vm_M)) (x0 : Int64) (x2 : Int64) (x4 : Int64) (x6 : Int64) (x8 : Int64) (x10 : Int64) (x12 : Int32) (M : vm_M) : Option (Int64 × vm_M) :=
  (s_dl x10 x4).bind fun v15 =>
  (s_rl x10 x4).bind fun v19 =>
  k16 (x8 + v15) v19 (x12 + (-1)) M
theorem f175_j51_ok {d : Nat} {x0 : Int64} {x2 : Int64} {x4 : Int64} {x6 : Int64} {x8 : Int64} {x10 : Int64} {x12 : Int32} {M : vm_M} {k74 : Int64 → vm_M → Option (Int64 × vm_M)} {k16 : Int64 → Int64 → Int32 → vm_M → Option (Int64 × vm_M)} {r : Int64 × vm_M} (hk74 : ∀ {y8 : Int64} {M : vm_M} {lv : vm_L}, (0, .long (x0)) ∈ lv → (8, .long (y8)) ∈ lv → k74 y8 M = some r → Ev 0 (fun _ => 0) (vm_Cl (d + 0)) vp_175 11 13 false (some (.long)) (rJ r) 74 lv [] M) (hk16 : ∀ {y8 : Int64} {y10 : Int64} {y12 : Int32} {M : vm_M} {lv : vm_L}, (0, .long (x0)) ∈ lv → (2, .long (x2)) ∈ lv → (4, .long (x4)) ∈ lv → (6, .long (x6)) ∈ lv → (8, .long (y8)) ∈ lv → (10, .long (y10)) ∈ lv → (12, .int (y12)) ∈ lv → k16 y8 y10 y12 M = some r → Ev 0 (fun _ => 0) (vm_Cl (d + 0)) vp_175 11 13 false (some (.long)) (rJ r) 16 lv [] M) {lv : vm_L} (l0 : (0, .long (x0)) ∈ lv) (l2 : (2, .long (x2)) ∈ lv) (l4 : (4, .long (x4)) ∈ lv) (l6 : (6, .long (x6)) ∈ lv) (l8 : (8, .long (x8)) ∈ lv) (l10 : (10, .long (x10)) ∈ lv) (l12 : (12, .int (x12)) ∈ lv) (h : f175_j51 k74 k16 x0 x2 x4 x6 x8 x10 x12 M = some r) : Ev 0 (fun _ => 0) (vm_Cl (d + 0)) vp_175 11 13 false (some (.long)) (rJ r) 51 lv [] M := by
  unfold f175_j51 at h
  refine ev_lload (mm 31 rfl) l8 ?_
  refine ev_lload (mm 32 rfl) l10 ?_
  refine ev_lload (mm 33 rfl) l4 ?_
  obtain ⟨v15, e16, h⟩ := bind_so h
  refine ev_ldiv (mm 34 rfl) e16 ?_
  refine ev_ladd (mm 35 rfl) ?_
  refine evs_lstore (mm 36 rfl) (by decide) (fun lv17 l8 s18 => ?_)
  have l0 := s18 _ _ l0 rfl
  have l2 := s18 _ _ l2 rfl
  have l4 := s18 _ _ l4 rfl
  have l6 := s18 _ _ l6 rfl
  have l10 := s18 _ _ l10 rfl
  have l12 := s18 _ _ l12 rfl
  refine ev_lload (mm 37 rfl) l10 ?_
  refine ev_lload (mm 38 rfl) l4 ?_
  obtain ⟨v19, e20, h⟩ := bind_so h
  refine ev_lrem (mm 39 rfl) e20 ?_
  refine evs_lstore (mm 40 rfl) (by decide) (fun lv21 l10 s22 => ?_)
  have l0 := s22 _ _ l0 rfl
  have l2 := s22 _ _ l2 rfl
  have l4 := s22 _ _ l4 rfl
  have l6 := s22 _ _ l6 rfl
  have l8 := s22 _ _ l8 rfl
  have l12 := s22 _ _ l12 rfl
  refine evs_iinc (mm 41 rfl) cI_m1 l12 (by decide) (fun lv23 l12 s24 => ?_)
  have l0 := s24 _ _ l0 rfl
  have l2 := s24 _ _ l2 rfl
  have l4 := s24 _ _ l4 rfl
  have l6 := s24 _ _ l6 rfl
  have l8 := s24 _ _ l8 rfl
  have l10 := s24 _ _ l10 rfl
  refine ev_goto 16 (mm 42 rfl) rfl ?_
  exact hk16 l0 l2 l4 l6 l8 l10 l12 h
def f175_l16 (x0 : Int64) (x2 : Int64) (x4 : Int64) (x6 : Int64) (k74 : Int64 → vm_M → Option (Int64 × vm_M)) : Nat → Int64 → Int64 → Int32 → vm_M → Option (Int64 × vm_M)
  | 0 => fun _ _ _ _ => none
  | n + 1 => fun x8 x10 x12 M =>
    if x12 < 0 then
      k74 x8 M
    else
      if ¬ (lg_cmp ((x6 >>> ((x12).toInt64 &&& 63)) &&& 1) 1) = 0 then
        f175_j51 k74 (f175_l16 x0 x2 x4 x6 k74 n) x0 x2 x4 x6 (x8 <<< ((1).toInt64 &&& 63)) (x10 <<< ((1).toInt64 &&& 63)) x12 M
      else
        f175_j51 k74 (f175_l16 x0 x2 x4 x6 k74 n) x0 x2 x4 x6 (x8 <<< ((1).toInt64 &&& 63)) ((x10 <<< ((1).toInt64 &&& 63)) + x2) x12 M
theorem f175_l16_ok {d : Nat} {x0 : Int64} {x2 : Int64} {x4 : Int64} {x6 : Int64} {k74 : Int64 → vm_M → Option (Int64 × vm_M)} {r : Int64 × vm_M} (hk74 : ∀ {y8 : Int64} {M : vm_M} {lv : vm_L}, (0, .long (x0)) ∈ lv → (8, .long (y8)) ∈ lv → k74 y8 M = some r → Ev 0 (fun _ => 0) (vm_Cl (d + 0)) vp_175 11 13 false (some (.long)) (rJ r) 74 lv [] M) : ∀ (n : Nat) {x8 : Int64} {x10 : Int64} {x12 : Int32} {M : vm_M} {lv : vm_L}, (0, .long (x0)) ∈ lv → (2, .long (x2)) ∈ lv → (4, .long (x4)) ∈ lv → (6, .long (x6)) ∈ lv → (8, .long (x8)) ∈ lv → (10, .long (x10)) ∈ lv → (12, .int (x12)) ∈ lv → f175_l16 x0 x2 x4 x6 k74 n x8 x10 x12 M = some r → Ev 0 (fun _ => 0) (vm_Cl (d + 0)) vp_175 11 13 false (some (.long)) (rJ r) 16 lv [] M := by
  intro n
  induction n with
  | zero =>
    intro x8 x10 x12 M lv l0 l2 l4 l6 l8 l10 l12 h
    cases h
  | succ n ih =>
    intro x8 x10 x12 M lv l0 l2 l4 l6 l8 l10 l12 h
    dsimp only [f175_l16] at h
    refine ev_iload (mm 9 rfl) l12 ?_
    rcases ite_so h with ⟨c9, h⟩ | ⟨c9, h⟩
    · refine ev_if_t 74 (mm 10 rfl) rfl c9 ?_
      exact hk74 l0 l8 h
    · refine ev_if_f 74 (mm 10 rfl) rfl c9 ?_
      refine ev_lload (mm 11 rfl) l8 ?_
      refine ev_iconst (mm 12 rfl) cI_1 ?_
      refine ev_lshl (mm 13 rfl) ?_
      refine evs_lstore (mm 14 rfl) (by decide) (fun lv10 l8 s11 => ?_)
      have l0 := s11 _ _ l0 rfl
      have l2 := s11 _ _ l2 rfl
      have l4 := s11 _ _ l4 rfl
      have l6 := s11 _ _ l6 rfl
      have l10 := s11 _ _ l10 rfl
      have l12 := s11 _ _ l12 rfl
      refine ev_lload (mm 15 rfl) l10 ?_
      refine ev_iconst (mm 16 rfl) cI_1 ?_
      refine ev_lshl (mm 17 rfl) ?_
      refine evs_lstore (mm 18 rfl) (by decide) (fun lv12 l10 s13 => ?_)
      have l0 := s13 _ _ l0 rfl
      have l2 := s13 _ _ l2 rfl
      have l4 := s13 _ _ l4 rfl
      have l6 := s13 _ _ l6 rfl
      have l8 := s13 _ _ l8 rfl
      have l12 := s13 _ _ l12 rfl
      refine ev_lload (mm 19 rfl) l6 ?_
      refine ev_iload (mm 20 rfl) l12 ?_
      refine ev_lshr (mm 21 rfl) ?_
      refine ev_lconst (mm 22 rfl) cL_1 ?_
      refine ev_land (mm 23 rfl) ?_
      refine ev_lconst (mm 24 rfl) cL_1 ?_
      refine ev_lcmp (mm 25 rfl) ?_
      rcases ite_so h with ⟨c14, h⟩ | ⟨c14, h⟩
      · refine ev_if_t 51 (mm 26 rfl) rfl c14 ?_
        exact f175_j51_ok hk74 ih l0 l2 l4 l6 l8 l10 l12 h
      · refine ev_if_f 51 (mm 26 rfl) rfl c14 ?_
        refine ev_lload (mm 27 rfl) l10 ?_
        refine ev_lload_n (mm 28 rfl) l2 ?_
        refine ev_ladd (mm 29 rfl) ?_
        refine evs_lstore (mm 30 rfl) (by decide) (fun lv25 l10 s26 => ?_)
        have l0 := s26 _ _ l0 rfl
        have l2 := s26 _ _ l2 rfl
        have l4 := s26 _ _ l4 rfl
        have l6 := s26 _ _ l6 rfl
        have l8 := s26 _ _ l8 rfl
        have l12 := s26 _ _ l12 rfl
        exact f175_j51_ok hk74 ih l0 l2 l4 l6 l8 l10 l12 h
/-- PupilCoinModel.whole(JJJ)J -/
def f175 (x0 : Int64) (x2 : Int64) (x4 : Int64) (M : vm_M) : Option (Int64 × vm_M) :=
  f175_l16 x0 x2 x4 (s_abJ x0)
    (fun y27 M28 =>
      if 0 ≤ (lg_cmp x0 0) then
        some (y27, M28)
      else
        some ((-y27), M28))
    100000 0 0 62 M
theorem f175_ok {x0 : Int64} {x2 : Int64} {x4 : Int64} {M : vm_M} {r : Int64 × vm_M} (h : f175 x0 x2 x4 M = some r) (d : Nat) : vm_Cl (d + 1) 175 [.long (x0), .long (x2), .long (x4)] M (rJ r) := by
  have key : Ev 0 (fun _ => 0) (vm_Cl (d + 0)) vp_175 11 13 false (some (.long)) (rJ r) 0 (lv_args 0 [.long (x0), .long (x2), .long (x4)]) [] M := by
    have l0 : (0, .long (x0)) ∈ lv_args 0 [.long (x0), .long (x2), .long (x4)] := List.Mem.head _
    have l2 : (2, .long (x2)) ∈ lv_args 0 [.long (x0), .long (x2), .long (x4)] := List.Mem.tail _ (List.Mem.head _)
    have l4 : (4, .long (x4)) ∈ lv_args 0 [.long (x0), .long (x2), .long (x4)] := List.Mem.tail _ (List.Mem.tail _ (List.Mem.head _))
    unfold f175 at h
    refine ev_lload_n (mm 0 rfl) l0 ?_
    refine ev_abJ (mm 1 rfl) (Nat.le_of_ble_eq_true rfl) ?_
    refine evs_lstore (mm 2 rfl) (by decide) (fun lv1 l6 s2 => ?_)
    have l0 := s2 _ _ l0 rfl
    have l2 := s2 _ _ l2 rfl
    have l4 := s2 _ _ l4 rfl
    refine ev_lconst (mm 3 rfl) cL_0 ?_
    refine evs_lstore (mm 4 rfl) (by decide) (fun lv3 l8 s4 => ?_)
    have l0 := s4 _ _ l0 rfl
    have l2 := s4 _ _ l2 rfl
    have l4 := s4 _ _ l4 rfl
    have l6 := s4 _ _ l6 rfl
    refine ev_lconst (mm 5 rfl) cL_0 ?_
    refine evs_lstore (mm 6 rfl) (by decide) (fun lv5 l10 s6 => ?_)
    have l0 := s6 _ _ l0 rfl
    have l2 := s6 _ _ l2 rfl
    have l4 := s6 _ _ l4 rfl
    have l6 := s6 _ _ l6 rfl
    have l8 := s6 _ _ l8 rfl
    refine ev_bipush (mm 7 rfl) cB_62 ?_
    refine evs_istore (mm 8 rfl) (by decide) (fun lv7 l12 s8 => ?_)
    have l0 := s8 _ _ l0 rfl
    have l2 := s8 _ _ l2 rfl
    have l4 := s8 _ _ l4 rfl
    have l6 := s8 _ _ l6 rfl
    have l8 := s8 _ _ l8 rfl
    have l10 := s8 _ _ l10 rfl
    refine f175_l16_ok ?_ 100000 l0 l2 l4 l6 l8 l10 l12 h
    · intro y27 M28 lv l0 l8
      intro h
      refine ev_lload_n (mm 43 rfl) l0 ?_
      refine ev_lconst (mm 44 rfl) cL_0 ?_
      refine ev_lcmp (mm 45 rfl) ?_
      rcases ite_so h with ⟨c29, h⟩ | ⟨c29, h⟩
      · refine ev_if_t 86 (mm 46 rfl) rfl c29 ?_
        refine ev_lload (mm 50 rfl) l8 ?_
        exact ev_lreturn (mm 51 rfl) h
      · refine ev_if_f 86 (mm 46 rfl) rfl c29 ?_
        refine ev_lload (mm 47 rfl) l8 ?_
        refine ev_lneg (mm 48 rfl) ?_
        refine ev_goto 88 (mm 49 rfl) rfl ?_
        exact ev_lreturn (mm 51 rfl) h
  exact ⟨by decide, Nat.le_of_ble_eq_true rfl, key.1, key.2⟩
def f174_l6 (x0 : Nat) (x1 : Int32) (x2 : Int32) (x3 : Int64) (k43 : Int64 → vm_M → Option (vm_M)) : Nat → Int64 → Int32 → vm_M → Option (vm_M)
  | 0 => fun _ _ _ => none
  | n + 1 => fun x5 x7 M =>
    (sg_i M x0 11 1).bind fun v5 =>
    if v5 ≤ x7 then
      k43 x5 M
    else
      (s_ob M x0 11).bind fun _ =>
      (f122 x0 x7 x1 M).bind fun p8 =>
      if p8.1 = 0 then
        f174_l6 x0 x1 x2 x3 k43 n x5 (x7 + 1) p8.2
      else
        (s_ob p8.2 x0 11).bind fun _ =>
        (f173 x0 x7 x2 p8.2).bind fun p13 =>
        f174_l6 x0 x1 x2 x3 k43 n (x5 + p13.1) (x7 + 1) p13.2
theorem f174_l6_ok {d : Nat} {x0 : Nat} {x1 : Int32} {x2 : Int32} {x3 : Int64} {k43 : Int64 → vm_M → Option (vm_M)} {r : vm_M} (hk43 : ∀ {y5 : Int64} {M : vm_M} {lv : vm_L}, (0, .ref (x0)) ∈ lv → (1, .int (x1)) ∈ lv → (2, .int (x2)) ∈ lv → (3, .long (x3)) ∈ lv → (5, .long (y5)) ∈ lv → k43 y5 M = some r → Ev 0 (fun _ => 0) (vm_Cl (d + 3)) vp_174 11 12 false none (rV r) 43 lv [] M) : ∀ (n : Nat) {x5 : Int64} {x7 : Int32} {M : vm_M} {lv : vm_L}, (0, .ref (x0)) ∈ lv → (1, .int (x1)) ∈ lv → (2, .int (x2)) ∈ lv → (3, .long (x3)) ∈ lv → (5, .long (x5)) ∈ lv → (7, .int (x7)) ∈ lv → f174_l6 x0 x1 x2 x3 k43 n x5 x7 M = some r → Ev 0 (fun _ => 0) (vm_Cl (d + 3)) vp_174 11 12 false none (rV r) 6 lv [] M := by
  intro n
  induction n with
  | zero =>
    intro x5 x7 M lv l0 l1 l2 l3 l5 l7 h
    cases h
  | succ n ih =>
    intro x5 x7 M lv l0 l1 l2 l3 l5 l7 h
    dsimp only [f174_l6] at h
    refine ev_iload (mm 4 rfl) l7 ?_
    refine ev_aload_nR (mm 5 rfl) l0 ?_
    obtain ⟨v5, e6, h⟩ := bind_so h
    refine ev_get_i (mm 6 rfl) rfl e6 ?_
    rcases ite_so h with ⟨c7, h⟩ | ⟨c7, h⟩
    · refine ev_ic_t 43 (mm 7 rfl) rfl c7 ?_
      exact hk43 l0 l1 l2 l3 l5 h
    · refine ev_ic_f 43 (mm 7 rfl) rfl c7 ?_
      refine ev_aload_nR (mm 8 rfl) l0 ?_
      refine ev_iload (mm 9 rfl) l7 ?_
      refine ev_iload_n (mm 10 rfl) l1 ?_
      obtain ⟨_, e20, h⟩ := bind_so h
      obtain ⟨p8, e9, h⟩ := bind_so h
      refine ev_callV_I [.int (x7), .int (x1)] (mm 11 rfl) rfl rfl (Nat.le_of_ble_eq_true rfl) (s_ob_of e20) (f122_ok e9 (d + 2)) ?_
      rcases ite_so h with ⟨c10, h⟩ | ⟨c10, h⟩
      · refine ev_if_t 37 (mm 12 rfl) rfl c10 ?_
        refine evs_iinc (mm 20 rfl) cI_1 l7 (by decide) (fun lv11 l7 s12 => ?_)
        have l0 := s12 _ _ l0 rfl
        have l1 := s12 _ _ l1 rfl
        have l2 := s12 _ _ l2 rfl
        have l3 := s12 _ _ l3 rfl
        have l5 := s12 _ _ l5 rfl
        refine ev_goto 6 (mm 21 rfl) rfl ?_
        exact ih l0 l1 l2 l3 l5 l7 h
      · refine ev_if_f 37 (mm 12 rfl) rfl c10 ?_
        refine ev_lload (mm 13 rfl) l5 ?_
        refine ev_aload_nR (mm 14 rfl) l0 ?_
        refine ev_iload (mm 15 rfl) l7 ?_
        refine ev_iload_n (mm 16 rfl) l2 ?_
        obtain ⟨_, e19, h⟩ := bind_so h
        obtain ⟨p13, e14, h⟩ := bind_so h
        refine ev_callV_J [.int (x7), .int (x2)] (mm 17 rfl) rfl rfl (Nat.le_of_ble_eq_true rfl) (s_ob_of e19) (f173_ok e14 (d + 0)) ?_
        refine ev_ladd (mm 18 rfl) ?_
        refine evs_lstore (mm 19 rfl) (by decide) (fun lv15 l5 s16 => ?_)
        have l0 := s16 _ _ l0 rfl
        have l1 := s16 _ _ l1 rfl
        have l2 := s16 _ _ l2 rfl
        have l3 := s16 _ _ l3 rfl
        have l7 := s16 _ _ l7 rfl
        refine evs_iinc (mm 20 rfl) cI_1 l7 (by decide) (fun lv17 l7 s18 => ?_)
        have l0 := s18 _ _ l0 rfl
        have l1 := s18 _ _ l1 rfl
        have l2 := s18 _ _ l2 rfl
        have l3 := s18 _ _ l3 rfl
        have l5 := s18 _ _ l5 rfl
        refine ev_goto 6 (mm 21 rfl) rfl ?_
        exact ih l0 l1 l2 l3 l5 l7 h
def f174_l57 (x0 : Nat) (x1 : Int32) (x2 : Int32) (x3 : Int64) (x5 : Int64) (k117 : Int64 → vm_M → Option (vm_M)) : Nat → Int64 → Int32 → vm_M → Option (vm_M)
  | 0 => fun _ _ _ => none
  | n + 1 => fun x7 x9 M =>
    (sg_i M x0 11 1).bind fun v28 =>
    if v28 ≤ x9 then
      k117 x7 M
    else
      (s_ob M x0 11).bind fun _ =>
      (f122 x0 x9 x1 M).bind fun p31 =>
      if ¬ p31.1 = 0 then
        (sg_r p31.2 x0 11 47).bind fun v34 =>
        (s_ob p31.2 x0 11).bind fun _ =>
        (f173 x0 x9 x2 p31.2).bind fun p36 =>
        (f175 x3 p36.1 x5 p36.2).bind fun p38 =>
        (v34).bind fun q40 =>
        (ss_l p38.2 q40 x9 p38.1).bind fun M42 =>
        (sg_r M42 x0 11 47).bind fun v44 =>
        (v44).bind fun q46 =>
        (sa_l M42 q46 x9).bind fun v48 =>
        f174_l57 x0 x1 x2 x3 x5 k117 n (x7 - v48) (x9 + 1) M42
      else
        f174_l57 x0 x1 x2 x3 x5 k117 n x7 (x9 + 1) p31.2
theorem f174_l57_ok {d : Nat} {x0 : Nat} {x1 : Int32} {x2 : Int32} {x3 : Int64} {x5 : Int64} {k117 : Int64 → vm_M → Option (vm_M)} {r : vm_M} (hk117 : ∀ {y7 : Int64} {M : vm_M} {lv : vm_L}, (0, .ref (x0)) ∈ lv → (1, .int (x1)) ∈ lv → (2, .int (x2)) ∈ lv → (7, .long (y7)) ∈ lv → k117 y7 M = some r → Ev 0 (fun _ => 0) (vm_Cl (d + 3)) vp_174 11 12 false none (rV r) 117 lv [] M) : ∀ (n : Nat) {x7 : Int64} {x9 : Int32} {M : vm_M} {lv : vm_L}, (0, .ref (x0)) ∈ lv → (1, .int (x1)) ∈ lv → (2, .int (x2)) ∈ lv → (3, .long (x3)) ∈ lv → (5, .long (x5)) ∈ lv → (7, .long (x7)) ∈ lv → (9, .int (x9)) ∈ lv → f174_l57 x0 x1 x2 x3 x5 k117 n x7 x9 M = some r → Ev 0 (fun _ => 0) (vm_Cl (d + 3)) vp_174 11 12 false none (rV r) 57 lv [] M := by
  intro n
  induction n with
  | zero =>
    intro x7 x9 M lv l0 l1 l2 l3 l5 l7 l9 h
    cases h
  | succ n ih =>
    intro x7 x9 M lv l0 l1 l2 l3 l5 l7 l9 h
    dsimp only [f174_l57] at h
    refine ev_iload (mm 31 rfl) l9 ?_
    refine ev_aload_nR (mm 32 rfl) l0 ?_
    obtain ⟨v28, e29, h⟩ := bind_so h
    refine ev_get_i (mm 33 rfl) rfl e29 ?_
    rcases ite_so h with ⟨c30, h⟩ | ⟨c30, h⟩
    · refine ev_ic_t 117 (mm 34 rfl) rfl c30 ?_
      exact hk117 l0 l1 l2 l7 h
    · refine ev_ic_f 117 (mm 34 rfl) rfl c30 ?_
      refine ev_aload_nR (mm 35 rfl) l0 ?_
      refine ev_iload (mm 36 rfl) l9 ?_
      refine ev_iload_n (mm 37 rfl) l1 ?_
      obtain ⟨_, e57, h⟩ := bind_so h
      obtain ⟨p31, e32, h⟩ := bind_so h
      refine ev_callV_I [.int (x9), .int (x1)] (mm 38 rfl) rfl rfl (Nat.le_of_ble_eq_true rfl) (s_ob_of e57) (f122_ok e32 (d + 2)) ?_
      rcases ite_so h with ⟨c33, h⟩ | ⟨c33, h⟩
      · refine ev_if_t 79 (mm 39 rfl) rfl c33 ?_
        refine ev_aload_nR (mm 41 rfl) l0 ?_
        obtain ⟨v34, e35, h⟩ := bind_so h
        refine ev_get_r (mm 42 rfl) rfl e35 ?_
        refine ev_iload (mm 43 rfl) l9 ?_
        refine ev_lload_n (mm 44 rfl) l3 ?_
        refine ev_aload_nR (mm 45 rfl) l0 ?_
        refine ev_iload (mm 46 rfl) l9 ?_
        refine ev_iload_n (mm 47 rfl) l2 ?_
        obtain ⟨_, e54, h⟩ := bind_so h
        obtain ⟨p36, e37, h⟩ := bind_so h
        refine ev_callV_J [.int (x9), .int (x2)] (mm 48 rfl) rfl rfl (by simp [vm_cat_A, vm_cat_I, vm_cat_R, vm_cat_J, vm_cat_0]) (s_ob_of e54) (f173_ok e37 (d + 0)) ?_
        refine ev_lload (mm 49 rfl) l5 ?_
        obtain ⟨p38, e39, h⟩ := bind_so h
        refine ev_callS_J [.long (x3), .long (p36.1), .long (x5)] (mm 50 rfl) (by decide) rfl rfl (by simp [vm_cat_A, vm_cat_I, vm_cat_R, vm_cat_J, vm_cat_0]) (f175_ok e39 (d + 2)) ?_
        obtain ⟨q40, e41, h⟩ := bind_so h
        rw [e41]
        obtain ⟨M42, e43, h⟩ := bind_so h
        refine ev_lastore (mm 51 rfl) e43 ?_
        refine ev_lload (mm 52 rfl) l7 ?_
        refine ev_aload_nR (mm 53 rfl) l0 ?_
        obtain ⟨v44, e45, h⟩ := bind_so h
        refine ev_get_r (mm 54 rfl) rfl e45 ?_
        refine ev_iload (mm 55 rfl) l9 ?_
        obtain ⟨q46, e47, h⟩ := bind_so h
        rw [e47]
        obtain ⟨v48, e49, h⟩ := bind_so h
        refine ev_laload (mm 56 rfl) e49 ?_
        refine ev_lsub (mm 57 rfl) ?_
        refine evs_lstore (mm 58 rfl) (by decide) (fun lv50 l7 s51 => ?_)
        have l0 := s51 _ _ l0 rfl
        have l1 := s51 _ _ l1 rfl
        have l2 := s51 _ _ l2 rfl
        have l3 := s51 _ _ l3 rfl
        have l5 := s51 _ _ l5 rfl
        have l9 := s51 _ _ l9 rfl
        refine evs_iinc (mm 59 rfl) cI_1 l9 (by decide) (fun lv52 l9 s53 => ?_)
        have l0 := s53 _ _ l0 rfl
        have l1 := s53 _ _ l1 rfl
        have l2 := s53 _ _ l2 rfl
        have l3 := s53 _ _ l3 rfl
        have l5 := s53 _ _ l5 rfl
        have l7 := s53 _ _ l7 rfl
        refine ev_goto 57 (mm 60 rfl) rfl ?_
        exact ih l0 l1 l2 l3 l5 l7 l9 h
      · refine ev_if_f 79 (mm 39 rfl) rfl c33 ?_
        refine ev_goto 111 (mm 40 rfl) rfl ?_
        refine evs_iinc (mm 59 rfl) cI_1 l9 (by decide) (fun lv55 l9 s56 => ?_)
        have l0 := s56 _ _ l0 rfl
        have l1 := s56 _ _ l1 rfl
        have l2 := s56 _ _ l2 rfl
        have l3 := s56 _ _ l3 rfl
        have l5 := s56 _ _ l5 rfl
        have l7 := s56 _ _ l7 rfl
        refine ev_goto 57 (mm 60 rfl) rfl ?_
        exact ih l0 l1 l2 l3 l5 l7 l9 h
def f174_l143 (x0 : Nat) (x1 : Int32) (x2 : Int32) (x9 : Int64) (k209 : Int64 → vm_M → Option (vm_M)) : Nat → Int64 → Int32 → vm_M → Option (vm_M)
  | 0 => fun _ _ _ => none
  | n + 1 => fun x7 x11 M =>
    (sg_i M x0 11 1).bind fun v66 =>
    if v66 ≤ x11 then
      k209 x7 M
    else
      if (lg_cmp x7 0) = 0 then
        k209 x7 M
      else
        (s_ob M x0 11).bind fun _ =>
        (f122 x0 x11 x1 M).bind fun p70 =>
        if p70.1 = 0 then
          f174_l143 x0 x1 x2 x9 k209 n x7 (x11 + 1) p70.2
        else
          (s_ob p70.2 x0 11).bind fun _ =>
          (f173 x0 x11 x2 p70.2).bind fun p75 =>
          if ¬ (lg_cmp p75.1 0) = 0 then
            (sg_r p75.2 x0 11 47).bind fun v78 =>
            (v78).bind fun q80 =>
            (sa_l p75.2 q80 x11).bind fun v82 =>
            (ss_l p75.2 q80 x11 (v82 + x9)).bind fun M84 =>
            f174_l143 x0 x1 x2 x9 k209 n (x7 - x9) (x11 + 1) M84
          else
            f174_l143 x0 x1 x2 x9 k209 n x7 (x11 + 1) p75.2
theorem f174_l143_ok {d : Nat} {x0 : Nat} {x1 : Int32} {x2 : Int32} {x9 : Int64} {k209 : Int64 → vm_M → Option (vm_M)} {r : vm_M} (hk209 : ∀ {y7 : Int64} {M : vm_M} {lv : vm_L}, (0, .ref (x0)) ∈ lv → (1, .int (x1)) ∈ lv → (2, .int (x2)) ∈ lv → (7, .long (y7)) ∈ lv → (9, .long (x9)) ∈ lv → k209 y7 M = some r → Ev 0 (fun _ => 0) (vm_Cl (d + 3)) vp_174 11 12 false none (rV r) 209 lv [] M) : ∀ (n : Nat) {x7 : Int64} {x11 : Int32} {M : vm_M} {lv : vm_L}, (0, .ref (x0)) ∈ lv → (1, .int (x1)) ∈ lv → (2, .int (x2)) ∈ lv → (7, .long (x7)) ∈ lv → (9, .long (x9)) ∈ lv → (11, .int (x11)) ∈ lv → f174_l143 x0 x1 x2 x9 k209 n x7 x11 M = some r → Ev 0 (fun _ => 0) (vm_Cl (d + 3)) vp_174 11 12 false none (rV r) 143 lv [] M := by
  intro n
  induction n with
  | zero =>
    intro x7 x11 M lv l0 l1 l2 l7 l9 l11 h
    cases h
  | succ n ih =>
    intro x7 x11 M lv l0 l1 l2 l7 l9 l11 h
    dsimp only [f174_l143] at h
    refine ev_iload (mm 75 rfl) l11 ?_
    refine ev_aload_nR (mm 76 rfl) l0 ?_
    obtain ⟨v66, e67, h⟩ := bind_so h
    refine ev_get_i (mm 77 rfl) rfl e67 ?_
    rcases ite_so h with ⟨c68, h⟩ | ⟨c68, h⟩
    · refine ev_ic_t 209 (mm 78 rfl) rfl c68 ?_
      exact hk209 l0 l1 l2 l7 l9 h
    · refine ev_ic_f 209 (mm 78 rfl) rfl c68 ?_
      refine ev_lload (mm 79 rfl) l7 ?_
      refine ev_lconst (mm 80 rfl) cL_0 ?_
      refine ev_lcmp (mm 81 rfl) ?_
      rcases ite_so h with ⟨c69, h⟩ | ⟨c69, h⟩
      · refine ev_if_t 209 (mm 82 rfl) rfl c69 ?_
        exact hk209 l0 l1 l2 l7 l9 h
      · refine ev_if_f 209 (mm 82 rfl) rfl c69 ?_
        refine ev_aload_nR (mm 83 rfl) l0 ?_
        refine ev_iload (mm 84 rfl) l11 ?_
        refine ev_iload_n (mm 85 rfl) l1 ?_
        obtain ⟨_, e93, h⟩ := bind_so h
        obtain ⟨p70, e71, h⟩ := bind_so h
        refine ev_callV_I [.int (x11), .int (x1)] (mm 86 rfl) rfl rfl (Nat.le_of_ble_eq_true rfl) (s_ob_of e93) (f122_ok e71 (d + 2)) ?_
        rcases ite_so h with ⟨c72, h⟩ | ⟨c72, h⟩
        · refine ev_if_t 203 (mm 87 rfl) rfl c72 ?_
          refine evs_iinc (mm 108 rfl) cI_1 l11 (by decide) (fun lv73 l11 s74 => ?_)
          have l0 := s74 _ _ l0 rfl
          have l1 := s74 _ _ l1 rfl
          have l2 := s74 _ _ l2 rfl
          have l7 := s74 _ _ l7 rfl
          have l9 := s74 _ _ l9 rfl
          refine ev_goto 143 (mm 109 rfl) rfl ?_
          exact ih l0 l1 l2 l7 l9 l11 h
        · refine ev_if_f 203 (mm 87 rfl) rfl c72 ?_
          refine ev_aload_nR (mm 88 rfl) l0 ?_
          refine ev_iload (mm 89 rfl) l11 ?_
          refine ev_iload_n (mm 90 rfl) l2 ?_
          obtain ⟨_, e92, h⟩ := bind_so h
          obtain ⟨p75, e76, h⟩ := bind_so h
          refine ev_callV_J [.int (x11), .int (x2)] (mm 91 rfl) rfl rfl (Nat.le_of_ble_eq_true rfl) (s_ob_of e92) (f173_ok e76 (d + 0)) ?_
          refine ev_lconst (mm 92 rfl) cL_0 ?_
          refine ev_lcmp (mm 93 rfl) ?_
          rcases ite_so h with ⟨c77, h⟩ | ⟨c77, h⟩
          · refine ev_if_t 184 (mm 94 rfl) rfl c77 ?_
            refine ev_aload_nR (mm 96 rfl) l0 ?_
            obtain ⟨v78, e79, h⟩ := bind_so h
            refine ev_get_r (mm 97 rfl) rfl e79 ?_
            refine ev_iload (mm 98 rfl) l11 ?_
            refine ev_dup2 (mm 99 rfl) rfl (by cases (v78 : Option Nat) <;> rfl) ?_
            obtain ⟨q80, e81, h⟩ := bind_so h
            rw [e81]
            obtain ⟨v82, e83, h⟩ := bind_so h
            refine ev_laload (mm 100 rfl) e83 ?_
            refine ev_lload (mm 101 rfl) l9 ?_
            refine ev_ladd (mm 102 rfl) ?_
            obtain ⟨M84, e85, h⟩ := bind_so h
            refine ev_lastore (mm 103 rfl) e85 ?_
            refine ev_lload (mm 104 rfl) l7 ?_
            refine ev_lload (mm 105 rfl) l9 ?_
            refine ev_lsub (mm 106 rfl) ?_
            refine evs_lstore (mm 107 rfl) (by decide) (fun lv86 l7 s87 => ?_)
            have l0 := s87 _ _ l0 rfl
            have l1 := s87 _ _ l1 rfl
            have l2 := s87 _ _ l2 rfl
            have l9 := s87 _ _ l9 rfl
            have l11 := s87 _ _ l11 rfl
            refine evs_iinc (mm 108 rfl) cI_1 l11 (by decide) (fun lv88 l11 s89 => ?_)
            have l0 := s89 _ _ l0 rfl
            have l1 := s89 _ _ l1 rfl
            have l2 := s89 _ _ l2 rfl
            have l7 := s89 _ _ l7 rfl
            have l9 := s89 _ _ l9 rfl
            refine ev_goto 143 (mm 109 rfl) rfl ?_
            exact ih l0 l1 l2 l7 l9 l11 h
          · refine ev_if_f 184 (mm 94 rfl) rfl c77 ?_
            refine ev_goto 203 (mm 95 rfl) rfl ?_
            refine evs_iinc (mm 108 rfl) cI_1 l11 (by decide) (fun lv90 l11 s91 => ?_)
            have l0 := s91 _ _ l0 rfl
            have l1 := s91 _ _ l1 rfl
            have l2 := s91 _ _ l2 rfl
            have l7 := s91 _ _ l7 rfl
            have l9 := s91 _ _ l9 rfl
            refine ev_goto 143 (mm 109 rfl) rfl ?_
            exact ih l0 l1 l2 l7 l9 l11 h
def f174_l133 (x0 : Nat) (x1 : Int32) (x2 : Int32) (x9 : Int64) (k212 : vm_M → Option (vm_M)) : Nat → Int64 → vm_M → Option (vm_M)
  | 0 => fun _ _ => none
  | n + 1 => fun x7 M =>
    if (lg_cmp x7 0) = 0 then
      k212 M
    else
      f174_l143 x0 x1 x2 x9
        (fun y94 M95 =>
          f174_l133 x0 x1 x2 x9 k212 n y94 M95)
        100000 x7 0 M
theorem f174_l133_ok {d : Nat} {x0 : Nat} {x1 : Int32} {x2 : Int32} {x9 : Int64} {k212 : vm_M → Option (vm_M)} {r : vm_M} (hk212 : ∀ {M : vm_M} {lv : vm_L}, (0, .ref (x0)) ∈ lv → k212 M = some r → Ev 0 (fun _ => 0) (vm_Cl (d + 3)) vp_174 11 12 false none (rV r) 212 lv [] M) : ∀ (n : Nat) {x7 : Int64} {M : vm_M} {lv : vm_L}, (0, .ref (x0)) ∈ lv → (1, .int (x1)) ∈ lv → (2, .int (x2)) ∈ lv → (7, .long (x7)) ∈ lv → (9, .long (x9)) ∈ lv → f174_l133 x0 x1 x2 x9 k212 n x7 M = some r → Ev 0 (fun _ => 0) (vm_Cl (d + 3)) vp_174 11 12 false none (rV r) 133 lv [] M := by
  intro n
  induction n with
  | zero =>
    intro x7 M lv l0 l1 l2 l7 l9 h
    cases h
  | succ n ih =>
    intro x7 M lv l0 l1 l2 l7 l9 h
    dsimp only [f174_l133] at h
    refine ev_lload (mm 69 rfl) l7 ?_
    refine ev_lconst (mm 70 rfl) cL_0 ?_
    refine ev_lcmp (mm 71 rfl) ?_
    rcases ite_so h with ⟨c63, h⟩ | ⟨c63, h⟩
    · refine ev_if_t 212 (mm 72 rfl) rfl c63 ?_
      exact hk212 l0 h
    · refine ev_if_f 212 (mm 72 rfl) rfl c63 ?_
      refine ev_iconst (mm 73 rfl) cI_0 ?_
      refine evs_istore (mm 74 rfl) (by decide) (fun lv64 l11 s65 => ?_)
      have l0 := s65 _ _ l0 rfl
      have l1 := s65 _ _ l1 rfl
      have l2 := s65 _ _ l2 rfl
      have l7 := s65 _ _ l7 rfl
      have l9 := s65 _ _ l9 rfl
      refine f174_l143_ok ?_ 100000 l0 l1 l2 l7 l9 l11 h
      · intro y94 M95 lv l0 l1 l2 l7 l9
        intro h
        refine ev_goto 133 (mm 110 rfl) rfl ?_
        exact ih l0 l1 l2 l7 l9 h
def f174_l215 (x0 : Nat) : Nat → Int32 → vm_M → Option (vm_M)
  | 0 => fun _ _ => none
  | n + 1 => fun x11 M =>
    (sg_i M x0 11 1).bind fun v99 =>
    if v99 ≤ x11 then
      some M
    else
      (sg_r M x0 11 48).bind fun v102 =>
      (v102).bind fun q104 =>
      (sa_l M q104 x11).bind fun v106 =>
      (sg_r M x0 11 47).bind fun v108 =>
      (v108).bind fun q110 =>
      (sa_l M q110 x11).bind fun v112 =>
      (ss_l M q104 x11 (v106 + v112)).bind fun M114 =>
      f174_l215 x0 n (x11 + 1) M114
theorem f174_l215_ok {d : Nat} {x0 : Nat} {r : vm_M} : ∀ (n : Nat) {x11 : Int32} {M : vm_M} {lv : vm_L}, (0, .ref (x0)) ∈ lv → (11, .int (x11)) ∈ lv → f174_l215 x0 n x11 M = some r → Ev 0 (fun _ => 0) (vm_Cl (d + 3)) vp_174 11 12 false none (rV r) 215 lv [] M := by
  intro n
  induction n with
  | zero =>
    intro x11 M lv l0 l11 h
    cases h
  | succ n ih =>
    intro x11 M lv l0 l11 h
    dsimp only [f174_l215] at h
    refine ev_iload (mm 113 rfl) l11 ?_
    refine ev_aload_nR (mm 114 rfl) l0 ?_
    obtain ⟨v99, e100, h⟩ := bind_so h
    refine ev_get_i (mm 115 rfl) rfl e100 ?_
    rcases ite_so h with ⟨c101, h⟩ | ⟨c101, h⟩
    · refine ev_ic_t 247 (mm 116 rfl) rfl c101 ?_
      exact ev_return (mm 130 rfl) h
    · refine ev_ic_f 247 (mm 116 rfl) rfl c101 ?_
      refine ev_aload_nR (mm 117 rfl) l0 ?_
      obtain ⟨v102, e103, h⟩ := bind_so h
      refine ev_get_r (mm 118 rfl) rfl e103 ?_
      refine ev_iload (mm 119 rfl) l11 ?_
      refine ev_dup2 (mm 120 rfl) rfl (by cases (v102 : Option Nat) <;> rfl) ?_
      obtain ⟨q104, e105, h⟩ := bind_so h
      rw [e105]
      obtain ⟨v106, e107, h⟩ := bind_so h
      refine ev_laload (mm 121 rfl) e107 ?_
      refine ev_aload_nR (mm 122 rfl) l0 ?_
      obtain ⟨v108, e109, h⟩ := bind_so h
      refine ev_get_r (mm 123 rfl) rfl e109 ?_
      refine ev_iload (mm 124 rfl) l11 ?_
      obtain ⟨q110, e111, h⟩ := bind_so h
      rw [e111]
      obtain ⟨v112, e113, h⟩ := bind_so h
      refine ev_laload (mm 125 rfl) e113 ?_
      refine ev_ladd (mm 126 rfl) ?_
      obtain ⟨M114, e115, h⟩ := bind_so h
      refine ev_lastore (mm 127 rfl) e115 ?_
      refine evs_iinc (mm 128 rfl) cI_1 l11 (by decide) (fun lv116 l11 s117 => ?_)
      have l0 := s117 _ _ l0 rfl
      refine ev_goto 215 (mm 129 rfl) rfl ?_
      exact ih l0 l11 h
/-- PupilCoinModel.parts(IIJ)V -/
def f174 (x0 : Nat) (x1 : Int32) (x2 : Int32) (x3 : Int64) (M : vm_M) : Option (vm_M) :=
  f174_l6 x0 x1 x2 x3
    (fun y21 M22 =>
      if ¬ (lg_cmp y21 0) = 0 then
        f174_l57 x0 x1 x2 x3 y21
          (fun y58 M59 =>
            if (lg_cmp y58 0) ≤ 0 then
              f174_l133 x0 x1 x2 (-1)
                (fun M96 =>
                  f174_l215 x0
                  
                    100000 0 M96)
                100000 y58 M59
            else
              f174_l133 x0 x1 x2 1
                (fun M120 =>
                  f174_l215 x0
                  
                    100000 0 M120)
                100000 y58 M59)
          100000 x3 0 M22
      else
        some M22)
    100000 0 0 M
theorem f174_ok {x0 : Nat} {x1 : Int32} {x2 : Int32} {x3 : Int64} {M : vm_M} {r : vm_M} (h : f174 x0 x1 x2 x3 M = some r) (d : Nat) : vm_Cl (d + 4) 174 [.ref (x0), .int (x1), .int (x2), .long (x3)] M (rV r) := by
  have key : Ev 0 (fun _ => 0) (vm_Cl (d + 3)) vp_174 11 12 false none (rV r) 0 (lv_args 0 [.ref (x0), .int (x1), .int (x2), .long (x3)]) [] M := by
    have l0 : (0, .ref (x0)) ∈ lv_args 0 [.ref (x0), .int (x1), .int (x2), .long (x3)] := List.Mem.head _
    have l1 : (1, .int (x1)) ∈ lv_args 0 [.ref (x0), .int (x1), .int (x2), .long (x3)] := List.Mem.tail _ (List.Mem.head _)
    have l2 : (2, .int (x2)) ∈ lv_args 0 [.ref (x0), .int (x1), .int (x2), .long (x3)] := List.Mem.tail _ (List.Mem.tail _ (List.Mem.head _))
    have l3 : (3, .long (x3)) ∈ lv_args 0 [.ref (x0), .int (x1), .int (x2), .long (x3)] := List.Mem.tail _ (List.Mem.tail _ (List.Mem.tail _ (List.Mem.head _)))
    unfold f174 at h
    refine ev_lconst (mm 0 rfl) cL_0 ?_
    refine evs_lstore (mm 1 rfl) (by decide) (fun lv1 l5 s2 => ?_)
    have l0 := s2 _ _ l0 rfl
    have l1 := s2 _ _ l1 rfl
    have l2 := s2 _ _ l2 rfl
    have l3 := s2 _ _ l3 rfl
    refine ev_iconst (mm 2 rfl) cI_0 ?_
    refine evs_istore (mm 3 rfl) (by decide) (fun lv3 l7 s4 => ?_)
    have l0 := s4 _ _ l0 rfl
    have l1 := s4 _ _ l1 rfl
    have l2 := s4 _ _ l2 rfl
    have l3 := s4 _ _ l3 rfl
    have l5 := s4 _ _ l5 rfl
    refine f174_l6_ok ?_ 100000 l0 l1 l2 l3 l5 l7 h
    · intro y21 M22 lv l0 l1 l2 l3 l5
      intro h
      refine ev_lload (mm 22 rfl) l5 ?_
      refine ev_lconst (mm 23 rfl) cL_0 ?_
      refine ev_lcmp (mm 24 rfl) ?_
      rcases ite_so h with ⟨c23, h⟩ | ⟨c23, h⟩
      · refine ev_if_t 51 (mm 25 rfl) rfl c23 ?_
        refine ev_lload_n (mm 27 rfl) l3 ?_
        refine evs_lstore (mm 28 rfl) (by decide) (fun lv24 l7 s25 => ?_)
        have l0 := s25 _ _ l0 rfl
        have l1 := s25 _ _ l1 rfl
        have l2 := s25 _ _ l2 rfl
        have l3 := s25 _ _ l3 rfl
        have l5 := s25 _ _ l5 rfl
        refine ev_iconst (mm 29 rfl) cI_0 ?_
        refine evs_istore (mm 30 rfl) (by decide) (fun lv26 l9 s27 => ?_)
        have l0 := s27 _ _ l0 rfl
        have l1 := s27 _ _ l1 rfl
        have l2 := s27 _ _ l2 rfl
        have l3 := s27 _ _ l3 rfl
        have l5 := s27 _ _ l5 rfl
        have l7 := s27 _ _ l7 rfl
        refine f174_l57_ok ?_ 100000 l0 l1 l2 l3 l5 l7 l9 h
        · intro y58 M59 lv l0 l1 l2 l7
          intro h
          refine ev_lload (mm 61 rfl) l7 ?_
          refine ev_lconst (mm 62 rfl) cL_0 ?_
          refine ev_lcmp (mm 63 rfl) ?_
          rcases ite_so h with ⟨c60, h⟩ | ⟨c60, h⟩
          · refine ev_if_t 128 (mm 64 rfl) rfl c60 ?_
            refine ev_ldc2_w (mm 67 rfl) cJ_m1 ?_
            refine evs_lstore (mm 68 rfl) (by decide) (fun lv61 l9 s62 => ?_)
            have l0 := s62 _ _ l0 rfl
            have l1 := s62 _ _ l1 rfl
            have l2 := s62 _ _ l2 rfl
            have l7 := s62 _ _ l7 rfl
            refine f174_l133_ok ?_ 100000 l0 l1 l2 l7 l9 h
            · intro M96 lv l0
              intro h
              refine ev_iconst (mm 111 rfl) cI_0 ?_
              refine evs_istore (mm 112 rfl) (by decide) (fun lv97 l11 s98 => ?_)
              have l0 := s98 _ _ l0 rfl
              refine f174_l215_ok 100000 l0 l11 h
          · refine ev_if_f 128 (mm 64 rfl) rfl c60 ?_
            refine ev_lconst (mm 65 rfl) cL_1 ?_
            refine ev_goto 131 (mm 66 rfl) rfl ?_
            refine evs_lstore (mm 68 rfl) (by decide) (fun lv118 l9 s119 => ?_)
            have l0 := s119 _ _ l0 rfl
            have l1 := s119 _ _ l1 rfl
            have l2 := s119 _ _ l2 rfl
            have l7 := s119 _ _ l7 rfl
            refine f174_l133_ok ?_ 100000 l0 l1 l2 l7 l9 h
            · intro M120 lv l0
              intro h
              refine ev_iconst (mm 111 rfl) cI_0 ?_
              refine evs_istore (mm 112 rfl) (by decide) (fun lv121 l11 s122 => ?_)
              have l0 := s122 _ _ l0 rfl
              refine f174_l215_ok 100000 l0 l11 h
      · refine ev_if_f 51 (mm 25 rfl) rfl c23 ?_
        exact ev_return (mm 26 rfl) h
  exact ⟨by decide, Nat.le_of_ble_eq_true rfl, key.1, key.2⟩
def f170_l58 (x0 : Nat) (x1 : Int32) (x2 : Int32) (x3 : Int32) (x4 : Int32) (x5 : Int32) (x6 : Int64) (x8 : Int32) (k85 : vm_M → Option (vm_M)) : Nat → Int32 → vm_M → Option (vm_M)
  | 0 => fun _ _ => none
  | n + 1 => fun x9 M =>
    if 30 ≤ x9 then
      k85 M
    else
      (sg_r M x0 11 44).bind fun v41 =>
      (v41).bind fun q43 =>
      (ss_l M q43 ((30 * x8) + x9) 0).bind fun M45 =>
      f170_l58 x0 x1 x2 x3 x4 x5 x6 x8 k85 n (x9 + 1) M45
theorem f170_l58_ok {d : Nat} {x0 : Nat} {x1 : Int32} {x2 : Int32} {x3 : Int32} {x4 : Int32} {x5 : Int32} {x6 : Int64} {x8 : Int32} {k85 : vm_M → Option (vm_M)} {r : vm_M} (hk85 : ∀ {M : vm_M} {lv : vm_L}, (0, .ref (x0)) ∈ lv → (1, .int (x1)) ∈ lv → (2, .int (x2)) ∈ lv → (3, .int (x3)) ∈ lv → (4, .int (x4)) ∈ lv → (5, .int (x5)) ∈ lv → (6, .long (x6)) ∈ lv → (8, .int (x8)) ∈ lv → k85 M = some r → Ev 0 (fun _ => 0) (vm_Cl (d + 4)) vp_170 11 11 false none (rV r) 85 lv [] M) : ∀ (n : Nat) {x9 : Int32} {M : vm_M} {lv : vm_L}, (0, .ref (x0)) ∈ lv → (1, .int (x1)) ∈ lv → (2, .int (x2)) ∈ lv → (3, .int (x3)) ∈ lv → (4, .int (x4)) ∈ lv → (5, .int (x5)) ∈ lv → (6, .long (x6)) ∈ lv → (8, .int (x8)) ∈ lv → (9, .int (x9)) ∈ lv → f170_l58 x0 x1 x2 x3 x4 x5 x6 x8 k85 n x9 M = some r → Ev 0 (fun _ => 0) (vm_Cl (d + 4)) vp_170 11 11 false none (rV r) 58 lv [] M := by
  intro n
  induction n with
  | zero =>
    intro x9 M lv l0 l1 l2 l3 l4 l5 l6 l8 l9 h
    cases h
  | succ n ih =>
    intro x9 M lv l0 l1 l2 l3 l4 l5 l6 l8 l9 h
    dsimp only [f170_l58] at h
    refine ev_iload (mm 35 rfl) l9 ?_
    refine ev_bipush (mm 36 rfl) cB_30 ?_
    rcases ite_so h with ⟨c40, h⟩ | ⟨c40, h⟩
    · refine ev_ic_t 85 (mm 37 rfl) rfl c40 ?_
      exact hk85 l0 l1 l2 l3 l4 l5 l6 l8 h
    · refine ev_ic_f 85 (mm 37 rfl) rfl c40 ?_
      refine ev_aload_nR (mm 38 rfl) l0 ?_
      obtain ⟨v41, e42, h⟩ := bind_so h
      refine ev_get_r (mm 39 rfl) rfl e42 ?_
      refine ev_bipush (mm 40 rfl) cB_30 ?_
      refine ev_iload (mm 41 rfl) l8 ?_
      refine ev_imul (mm 42 rfl) ?_
      refine ev_iload (mm 43 rfl) l9 ?_
      refine ev_iadd (mm 44 rfl) ?_
      refine ev_lconst (mm 45 rfl) cL_0 ?_
      obtain ⟨q43, e44, h⟩ := bind_so h
      rw [e44]
      obtain ⟨M45, e46, h⟩ := bind_so h
      refine ev_lastore (mm 46 rfl) e46 ?_
      refine evs_iinc (mm 47 rfl) cI_1 l9 (by decide) (fun lv47 l9 s48 => ?_)
      have l0 := s48 _ _ l0 rfl
      have l1 := s48 _ _ l1 rfl
      have l2 := s48 _ _ l2 rfl
      have l3 := s48 _ _ l3 rfl
      have l4 := s48 _ _ l4 rfl
      have l5 := s48 _ _ l5 rfl
      have l6 := s48 _ _ l6 rfl
      have l8 := s48 _ _ l8 rfl
      refine ev_goto 58 (mm 48 rfl) rfl ?_
      exact ih l0 l1 l2 l3 l4 l5 l6 l8 l9 h
def f170_l106 (x0 : Nat) (x1 : Int32) (x2 : Int32) (x3 : Int32) (x4 : Int32) (x5 : Int32) (x6 : Int64) (x8 : Int32) (k160 : vm_M → Option (vm_M)) : Nat → Int32 → vm_M → Option (vm_M)
  | 0 => fun _ _ => none
  | n + 1 => fun x9 M =>
    if 5 ≤ x9 then
      k160 M
    else
      (sg_r M x0 11 39).bind fun v59 =>
      (f169 x1 M).bind fun p61 =>
      (s_ob p61.2 x0 11).bind fun _ =>
      (f132 x0 x8 x1 p61.1 x9 x2 p61.2).bind fun p63 =>
      if ¬ x8 = x4 then
        (v59).bind fun q66 =>
        (ss_l p63.2 q66 x9 (((p63.1 + 0) : Int32).toInt64)).bind fun M68 =>
        f170_l106 x0 x1 x2 x3 x4 x5 x6 x8 k160 n (x9 + 1) M68
      else
        if ¬ x9 = x5 then
          (v59).bind fun q73 =>
          (ss_l p63.2 q73 x9 (((p63.1 + 0) : Int32).toInt64)).bind fun M75 =>
          f170_l106 x0 x1 x2 x3 x4 x5 x6 x8 k160 n (x9 + 1) M75
        else
          (v59).bind fun q79 =>
          (ss_l p63.2 q79 x9 (((p63.1 + 1) : Int32).toInt64)).bind fun M81 =>
          f170_l106 x0 x1 x2 x3 x4 x5 x6 x8 k160 n (x9 + 1) M81
theorem f170_l106_ok {d : Nat} {x0 : Nat} {x1 : Int32} {x2 : Int32} {x3 : Int32} {x4 : Int32} {x5 : Int32} {x6 : Int64} {x8 : Int32} {k160 : vm_M → Option (vm_M)} {r : vm_M} (hk160 : ∀ {M : vm_M} {lv : vm_L}, (0, .ref (x0)) ∈ lv → (1, .int (x1)) ∈ lv → (2, .int (x2)) ∈ lv → (3, .int (x3)) ∈ lv → (4, .int (x4)) ∈ lv → (5, .int (x5)) ∈ lv → (6, .long (x6)) ∈ lv → (8, .int (x8)) ∈ lv → k160 M = some r → Ev 0 (fun _ => 0) (vm_Cl (d + 4)) vp_170 11 11 false none (rV r) 160 lv [] M) : ∀ (n : Nat) {x9 : Int32} {M : vm_M} {lv : vm_L}, (0, .ref (x0)) ∈ lv → (1, .int (x1)) ∈ lv → (2, .int (x2)) ∈ lv → (3, .int (x3)) ∈ lv → (4, .int (x4)) ∈ lv → (5, .int (x5)) ∈ lv → (6, .long (x6)) ∈ lv → (8, .int (x8)) ∈ lv → (9, .int (x9)) ∈ lv → f170_l106 x0 x1 x2 x3 x4 x5 x6 x8 k160 n x9 M = some r → Ev 0 (fun _ => 0) (vm_Cl (d + 4)) vp_170 11 11 false none (rV r) 106 lv [] M := by
  intro n
  induction n with
  | zero =>
    intro x9 M lv l0 l1 l2 l3 l4 l5 l6 l8 l9 h
    cases h
  | succ n ih =>
    intro x9 M lv l0 l1 l2 l3 l4 l5 l6 l8 l9 h
    dsimp only [f170_l106] at h
    refine ev_iload (mm 60 rfl) l9 ?_
    refine ev_iconst (mm 61 rfl) cI_5 ?_
    rcases ite_so h with ⟨c58, h⟩ | ⟨c58, h⟩
    · refine ev_ic_t 160 (mm 62 rfl) rfl c58 ?_
      exact hk160 l0 l1 l2 l3 l4 l5 l6 l8 h
    · refine ev_ic_f 160 (mm 62 rfl) rfl c58 ?_
      refine ev_aload_nR (mm 63 rfl) l0 ?_
      obtain ⟨v59, e60, h⟩ := bind_so h
      refine ev_get_r (mm 64 rfl) rfl e60 ?_
      refine ev_iload (mm 65 rfl) l9 ?_
      refine ev_aload_nR (mm 66 rfl) l0 ?_
      refine ev_iload (mm 67 rfl) l8 ?_
      refine ev_iload_n (mm 68 rfl) l1 ?_
      refine ev_iload_n (mm 69 rfl) l1 ?_
      obtain ⟨p61, e62, h⟩ := bind_so h
      refine ev_callS_I [.int (x1)] (mm 70 rfl) (by decide) rfl rfl (by simp [vm_cat_A, vm_cat_I, vm_cat_R, vm_cat_J, vm_cat_0]) (f169_ok e62 (d + 3)) ?_
      refine ev_iload (mm 71 rfl) l9 ?_
      refine ev_iload_n (mm 72 rfl) l2 ?_
      obtain ⟨_, e85, h⟩ := bind_so h
      obtain ⟨p63, e64, h⟩ := bind_so h
      refine ev_callV_I [.int (x8), .int (x1), .int (p61.1), .int (x9), .int (x2)] (mm 73 rfl) rfl rfl (by simp [vm_cat_A, vm_cat_I, vm_cat_R, vm_cat_J, vm_cat_0]) (s_ob_of e85) (f132_ok e64 (d + 2)) ?_
      refine ev_iload (mm 74 rfl) l8 ?_
      refine ev_iload (mm 75 rfl) l4 ?_
      rcases ite_so h with ⟨c65, h⟩ | ⟨c65, h⟩
      · refine ev_ic_t 150 (mm 76 rfl) rfl c65 ?_
        refine ev_iconst (mm 82 rfl) cI_0 ?_
        refine ev_iadd (mm 83 rfl) ?_
        refine ev_i2l (mm 84 rfl) ?_
        obtain ⟨q66, e67, h⟩ := bind_so h
        rw [e67]
        obtain ⟨M68, e69, h⟩ := bind_so h
        refine ev_lastore (mm 85 rfl) e69 ?_
        refine evs_iinc (mm 86 rfl) cI_1 l9 (by decide) (fun lv70 l9 s71 => ?_)
        have l0 := s71 _ _ l0 rfl
        have l1 := s71 _ _ l1 rfl
        have l2 := s71 _ _ l2 rfl
        have l3 := s71 _ _ l3 rfl
        have l4 := s71 _ _ l4 rfl
        have l5 := s71 _ _ l5 rfl
        have l6 := s71 _ _ l6 rfl
        have l8 := s71 _ _ l8 rfl
        refine ev_goto 106 (mm 87 rfl) rfl ?_
        exact ih l0 l1 l2 l3 l4 l5 l6 l8 l9 h
      · refine ev_ic_f 150 (mm 76 rfl) rfl c65 ?_
        refine ev_iload (mm 77 rfl) l9 ?_
        refine ev_iload (mm 78 rfl) l5 ?_
        rcases ite_so h with ⟨c72, h⟩ | ⟨c72, h⟩
        · refine ev_ic_t 150 (mm 79 rfl) rfl c72 ?_
          refine ev_iconst (mm 82 rfl) cI_0 ?_
          refine ev_iadd (mm 83 rfl) ?_
          refine ev_i2l (mm 84 rfl) ?_
          obtain ⟨q73, e74, h⟩ := bind_so h
          rw [e74]
          obtain ⟨M75, e76, h⟩ := bind_so h
          refine ev_lastore (mm 85 rfl) e76 ?_
          refine evs_iinc (mm 86 rfl) cI_1 l9 (by decide) (fun lv77 l9 s78 => ?_)
          have l0 := s78 _ _ l0 rfl
          have l1 := s78 _ _ l1 rfl
          have l2 := s78 _ _ l2 rfl
          have l3 := s78 _ _ l3 rfl
          have l4 := s78 _ _ l4 rfl
          have l5 := s78 _ _ l5 rfl
          have l6 := s78 _ _ l6 rfl
          have l8 := s78 _ _ l8 rfl
          refine ev_goto 106 (mm 87 rfl) rfl ?_
          exact ih l0 l1 l2 l3 l4 l5 l6 l8 l9 h
        · refine ev_ic_f 150 (mm 79 rfl) rfl c72 ?_
          refine ev_iconst (mm 80 rfl) cI_1 ?_
          refine ev_goto 151 (mm 81 rfl) rfl ?_
          refine ev_iadd (mm 83 rfl) ?_
          refine ev_i2l (mm 84 rfl) ?_
          obtain ⟨q79, e80, h⟩ := bind_so h
          rw [e80]
          obtain ⟨M81, e82, h⟩ := bind_so h
          refine ev_lastore (mm 85 rfl) e82 ?_
          refine evs_iinc (mm 86 rfl) cI_1 l9 (by decide) (fun lv83 l9 s84 => ?_)
          have l0 := s84 _ _ l0 rfl
          have l1 := s84 _ _ l1 rfl
          have l2 := s84 _ _ l2 rfl
          have l3 := s84 _ _ l3 rfl
          have l4 := s84 _ _ l4 rfl
          have l5 := s84 _ _ l5 rfl
          have l6 := s84 _ _ l6 rfl
          have l8 := s84 _ _ l8 rfl
          refine ev_goto 106 (mm 87 rfl) rfl ?_
          exact ih l0 l1 l2 l3 l4 l5 l6 l8 l9 h
def f170_j396 (k431 : vm_M → Option (vm_M)) (k272 : Int32 → vm_M → Option (vm_M)) (x0 : Nat) (x1 : Int32) (x2 : Int32) (x3 : Int32) (x4 : Int32) (x5 : Int32) (x6 : Int64) (x8 : Int32) (x9 : Int32) (s0 : Option Nat) (s1 : Int32) (s2 : Int64) (M : vm_M) : Option (vm_M) :=
  (s0).bind fun q215 =>
  (ss_l M q215 s1 s2).bind fun M217 =>
  (sg_r M217 x0 11 48).bind fun v219 =>
  (v219).bind fun q221 =>
  (sa_l M217 q221 x8).bind fun v223 =>
  (sg_r M217 x0 11 44).bind fun v225 =>
  (sg_r M217 x0 11 31).bind fun v227 =>
  (v227).bind fun q229 =>
  (sa_i M217 q229 0 x9).bind fun v231 =>
  (v225).bind fun q233 =>
  (sa_l M217 q233 ((30 * x8) + v231)).bind fun v235 =>
  (ss_l M217 q221 x8 (v223 + v235)).bind fun M237 =>
  k272 (x9 + 1) M237
theorem f170_j396_ok {d : Nat} {x0 : Nat} {x1 : Int32} {x2 : Int32} {x3 : Int32} {x4 : Int32} {x5 : Int32} {x6 : Int64} {x8 : Int32} {x9 : Int32} {s0 : Option Nat} {s1 : Int32} {s2 : Int64} {M : vm_M} {k431 : vm_M → Option (vm_M)} {k272 : Int32 → vm_M → Option (vm_M)} {r : vm_M} (hk431 : ∀ {M : vm_M} {lv : vm_L}, (0, .ref (x0)) ∈ lv → (1, .int (x1)) ∈ lv → (2, .int (x2)) ∈ lv → (3, .int (x3)) ∈ lv → (4, .int (x4)) ∈ lv → (5, .int (x5)) ∈ lv → (6, .long (x6)) ∈ lv → (8, .int (x8)) ∈ lv → k431 M = some r → Ev 0 (fun _ => 0) (vm_Cl (d + 4)) vp_170 11 11 false none (rV r) 431 lv [] M) (hk272 : ∀ {y9 : Int32} {M : vm_M} {lv : vm_L}, (0, .ref (x0)) ∈ lv → (1, .int (x1)) ∈ lv → (2, .int (x2)) ∈ lv → (3, .int (x3)) ∈ lv → (4, .int (x4)) ∈ lv → (5, .int (x5)) ∈ lv → (6, .long (x6)) ∈ lv → (8, .int (x8)) ∈ lv → (9, .int (y9)) ∈ lv → k272 y9 M = some r → Ev 0 (fun _ => 0) (vm_Cl (d + 4)) vp_170 11 11 false none (rV r) 272 lv [] M) {lv : vm_L} (l0 : (0, .ref (x0)) ∈ lv) (l1 : (1, .int (x1)) ∈ lv) (l2 : (2, .int (x2)) ∈ lv) (l3 : (3, .int (x3)) ∈ lv) (l4 : (4, .int (x4)) ∈ lv) (l5 : (5, .int (x5)) ∈ lv) (l6 : (6, .long (x6)) ∈ lv) (l8 : (8, .int (x8)) ∈ lv) (l9 : (9, .int (x9)) ∈ lv) (h : f170_j396 k431 k272 x0 x1 x2 x3 x4 x5 x6 x8 x9 s0 s1 s2 M = some r) : Ev 0 (fun _ => 0) (vm_Cl (d + 4)) vp_170 11 11 false none (rV r) 396 lv [.long (s2), .int (s1), va_rf (s0)] M := by
  unfold f170_j396 at h
  obtain ⟨q215, e216, h⟩ := bind_so h
  rw [e216]
  obtain ⟨M217, e218, h⟩ := bind_so h
  refine ev_lastore (mm 225 rfl) e218 ?_
  refine ev_aload_nR (mm 226 rfl) l0 ?_
  obtain ⟨v219, e220, h⟩ := bind_so h
  refine ev_get_r (mm 227 rfl) rfl e220 ?_
  refine ev_iload (mm 228 rfl) l8 ?_
  refine ev_dup2 (mm 229 rfl) rfl (by cases (v219 : Option Nat) <;> rfl) ?_
  obtain ⟨q221, e222, h⟩ := bind_so h
  rw [e222]
  obtain ⟨v223, e224, h⟩ := bind_so h
  refine ev_laload (mm 230 rfl) e224 ?_
  refine ev_aload_nR (mm 231 rfl) l0 ?_
  obtain ⟨v225, e226, h⟩ := bind_so h
  refine ev_get_r (mm 232 rfl) rfl e226 ?_
  refine ev_bipush (mm 233 rfl) cB_30 ?_
  refine ev_iload (mm 234 rfl) l8 ?_
  refine ev_imul (mm 235 rfl) ?_
  refine ev_aload_nR (mm 236 rfl) l0 ?_
  obtain ⟨v227, e228, h⟩ := bind_so h
  refine ev_get_r (mm 237 rfl) rfl e228 ?_
  refine ev_iload (mm 238 rfl) l9 ?_
  obtain ⟨q229, e230, h⟩ := bind_so h
  rw [e230]
  obtain ⟨v231, e232, h⟩ := bind_so h
  refine ev_iaload (mm 239 rfl) e232 ?_
  refine ev_iadd (mm 240 rfl) ?_
  obtain ⟨q233, e234, h⟩ := bind_so h
  rw [e234]
  obtain ⟨v235, e236, h⟩ := bind_so h
  refine ev_laload (mm 241 rfl) e236 ?_
  refine ev_ladd (mm 242 rfl) ?_
  obtain ⟨M237, e238, h⟩ := bind_so h
  refine ev_lastore (mm 243 rfl) e238 ?_
  refine evs_iinc (mm 244 rfl) cI_1 l9 (by decide) (fun lv239 l9 s240 => ?_)
  have l0 := s240 _ _ l0 rfl
  have l1 := s240 _ _ l1 rfl
  have l2 := s240 _ _ l2 rfl
  have l3 := s240 _ _ l3 rfl
  have l4 := s240 _ _ l4 rfl
  have l5 := s240 _ _ l5 rfl
  have l6 := s240 _ _ l6 rfl
  have l8 := s240 _ _ l8 rfl
  refine ev_goto 272 (mm 245 rfl) rfl ?_
  exact hk272 l0 l1 l2 l3 l4 l5 l6 l8 l9 h
def f170_j348 (k431 : vm_M → Option (vm_M)) (k272 : Int32 → vm_M → Option (vm_M)) (x0 : Nat) (x1 : Int32) (x2 : Int32) (x3 : Int32) (x4 : Int32) (x5 : Int32) (x6 : Int64) (x8 : Int32) (x9 : Int32) (s0 : Int32) (M : vm_M) : Option (vm_M) :=
  (sg_r M x0 11 44).bind fun v206 =>
  (sg_r M x0 11 31).bind fun v208 =>
  (v208).bind fun q210 =>
  (sa_i M q210 0 x9).bind fun v212 =>
  if s0 = 0 then
    f170_j396 k431 k272 x0 x1 x2 x3 x4 x5 x6 x8 x9 v206 ((30 * x8) + v212) 0 M
  else
    (sg_r M x0 11 32).bind fun v241 =>
    (v241).bind fun q243 =>
    (sa_i M q243 0 x9).bind fun v245 =>
    (sg_r M x0 11 33).bind fun v247 =>
    (v247).bind fun q249 =>
    (sa_i M q249 0 x9).bind fun v251 =>
    (s_ob M x0 11).bind fun _ =>
    (f168 x0 v245 v251 x8 M).bind fun p253 =>
    f170_j396 k431 k272 x0 x1 x2 x3 x4 x5 x6 x8 x9 v206 ((30 * x8) + v212) p253.1 p253.2
theorem f170_j348_ok {d : Nat} {x0 : Nat} {x1 : Int32} {x2 : Int32} {x3 : Int32} {x4 : Int32} {x5 : Int32} {x6 : Int64} {x8 : Int32} {x9 : Int32} {s0 : Int32} {M : vm_M} {k431 : vm_M → Option (vm_M)} {k272 : Int32 → vm_M → Option (vm_M)} {r : vm_M} (hk431 : ∀ {M : vm_M} {lv : vm_L}, (0, .ref (x0)) ∈ lv → (1, .int (x1)) ∈ lv → (2, .int (x2)) ∈ lv → (3, .int (x3)) ∈ lv → (4, .int (x4)) ∈ lv → (5, .int (x5)) ∈ lv → (6, .long (x6)) ∈ lv → (8, .int (x8)) ∈ lv → k431 M = some r → Ev 0 (fun _ => 0) (vm_Cl (d + 4)) vp_170 11 11 false none (rV r) 431 lv [] M) (hk272 : ∀ {y9 : Int32} {M : vm_M} {lv : vm_L}, (0, .ref (x0)) ∈ lv → (1, .int (x1)) ∈ lv → (2, .int (x2)) ∈ lv → (3, .int (x3)) ∈ lv → (4, .int (x4)) ∈ lv → (5, .int (x5)) ∈ lv → (6, .long (x6)) ∈ lv → (8, .int (x8)) ∈ lv → (9, .int (y9)) ∈ lv → k272 y9 M = some r → Ev 0 (fun _ => 0) (vm_Cl (d + 4)) vp_170 11 11 false none (rV r) 272 lv [] M) {lv : vm_L} (l0 : (0, .ref (x0)) ∈ lv) (l1 : (1, .int (x1)) ∈ lv) (l2 : (2, .int (x2)) ∈ lv) (l3 : (3, .int (x3)) ∈ lv) (l4 : (4, .int (x4)) ∈ lv) (l5 : (5, .int (x5)) ∈ lv) (l6 : (6, .long (x6)) ∈ lv) (l8 : (8, .int (x8)) ∈ lv) (l9 : (9, .int (x9)) ∈ lv) (h : f170_j348 k431 k272 x0 x1 x2 x3 x4 x5 x6 x8 x9 s0 M = some r) : Ev 0 (fun _ => 0) (vm_Cl (d + 4)) vp_170 11 11 false none (rV r) 348 lv [.int (s0)] M := by
  unfold f170_j348 at h
  refine evs_istore (mm 199 rfl) (by decide) (fun lv204 l10 s205 => ?_)
  have l0 := s205 _ _ l0 rfl
  have l1 := s205 _ _ l1 rfl
  have l2 := s205 _ _ l2 rfl
  have l3 := s205 _ _ l3 rfl
  have l4 := s205 _ _ l4 rfl
  have l5 := s205 _ _ l5 rfl
  have l6 := s205 _ _ l6 rfl
  have l8 := s205 _ _ l8 rfl
  have l9 := s205 _ _ l9 rfl
  refine ev_aload_nR (mm 200 rfl) l0 ?_
  obtain ⟨v206, e207, h⟩ := bind_so h
  refine ev_get_r (mm 201 rfl) rfl e207 ?_
  refine ev_bipush (mm 202 rfl) cB_30 ?_
  refine ev_iload (mm 203 rfl) l8 ?_
  refine ev_imul (mm 204 rfl) ?_
  refine ev_aload_nR (mm 205 rfl) l0 ?_
  obtain ⟨v208, e209, h⟩ := bind_so h
  refine ev_get_r (mm 206 rfl) rfl e209 ?_
  refine ev_iload (mm 207 rfl) l9 ?_
  obtain ⟨q210, e211, h⟩ := bind_so h
  rw [e211]
  obtain ⟨v212, e213, h⟩ := bind_so h
  refine ev_iaload (mm 208 rfl) e213 ?_
  refine ev_iadd (mm 209 rfl) ?_
  refine ev_iload (mm 210 rfl) l10 ?_
  rcases ite_so h with ⟨c214, h⟩ | ⟨c214, h⟩
  · refine ev_if_t 395 (mm 211 rfl) rfl c214 ?_
    refine ev_lconst (mm 224 rfl) cL_0 ?_
    exact f170_j396_ok hk431 hk272 l0 l1 l2 l3 l4 l5 l6 l8 l9 h
  · refine ev_if_f 395 (mm 211 rfl) rfl c214 ?_
    refine ev_aload_nR (mm 212 rfl) l0 ?_
    refine ev_aload_nR (mm 213 rfl) l0 ?_
    obtain ⟨v241, e242, h⟩ := bind_so h
    refine ev_get_r (mm 214 rfl) rfl e242 ?_
    refine ev_iload (mm 215 rfl) l9 ?_
    obtain ⟨q243, e244, h⟩ := bind_so h
    rw [e244]
    obtain ⟨v245, e246, h⟩ := bind_so h
    refine ev_iaload (mm 216 rfl) e246 ?_
    refine ev_aload_nR (mm 217 rfl) l0 ?_
    obtain ⟨v247, e248, h⟩ := bind_so h
    refine ev_get_r (mm 218 rfl) rfl e248 ?_
    refine ev_iload (mm 219 rfl) l9 ?_
    obtain ⟨q249, e250, h⟩ := bind_so h
    rw [e250]
    obtain ⟨v251, e252, h⟩ := bind_so h
    refine ev_iaload (mm 220 rfl) e252 ?_
    refine ev_iload (mm 221 rfl) l8 ?_
    obtain ⟨_, e255, h⟩ := bind_so h
    obtain ⟨p253, e254, h⟩ := bind_so h
    refine ev_callV_J [.int (v245), .int (v251), .int (x8)] (mm 222 rfl) rfl rfl (by simp [vm_cat_A, vm_cat_I, vm_cat_R, vm_cat_J, vm_cat_0]) (s_ob_of e255) (f168_ok e254 (d + 1)) ?_
    refine ev_goto 396 (mm 223 rfl) rfl ?_
    exact f170_j396_ok hk431 hk272 l0 l1 l2 l3 l4 l5 l6 l8 l9 h
def f170_j343 (k431 : vm_M → Option (vm_M)) (k272 : Int32 → vm_M → Option (vm_M)) (x0 : Nat) (x1 : Int32) (x2 : Int32) (x3 : Int32) (x4 : Int32) (x5 : Int32) (x6 : Int64) (x8 : Int32) (x9 : Int32) (M : vm_M) : Option (vm_M) :=
  f170_j348 k431 k272 x0 x1 x2 x3 x4 x5 x6 x8 x9 1 M
theorem f170_j343_ok {d : Nat} {x0 : Nat} {x1 : Int32} {x2 : Int32} {x3 : Int32} {x4 : Int32} {x5 : Int32} {x6 : Int64} {x8 : Int32} {x9 : Int32} {M : vm_M} {k431 : vm_M → Option (vm_M)} {k272 : Int32 → vm_M → Option (vm_M)} {r : vm_M} (hk431 : ∀ {M : vm_M} {lv : vm_L}, (0, .ref (x0)) ∈ lv → (1, .int (x1)) ∈ lv → (2, .int (x2)) ∈ lv → (3, .int (x3)) ∈ lv → (4, .int (x4)) ∈ lv → (5, .int (x5)) ∈ lv → (6, .long (x6)) ∈ lv → (8, .int (x8)) ∈ lv → k431 M = some r → Ev 0 (fun _ => 0) (vm_Cl (d + 4)) vp_170 11 11 false none (rV r) 431 lv [] M) (hk272 : ∀ {y9 : Int32} {M : vm_M} {lv : vm_L}, (0, .ref (x0)) ∈ lv → (1, .int (x1)) ∈ lv → (2, .int (x2)) ∈ lv → (3, .int (x3)) ∈ lv → (4, .int (x4)) ∈ lv → (5, .int (x5)) ∈ lv → (6, .long (x6)) ∈ lv → (8, .int (x8)) ∈ lv → (9, .int (y9)) ∈ lv → k272 y9 M = some r → Ev 0 (fun _ => 0) (vm_Cl (d + 4)) vp_170 11 11 false none (rV r) 272 lv [] M) {lv : vm_L} (l0 : (0, .ref (x0)) ∈ lv) (l1 : (1, .int (x1)) ∈ lv) (l2 : (2, .int (x2)) ∈ lv) (l3 : (3, .int (x3)) ∈ lv) (l4 : (4, .int (x4)) ∈ lv) (l5 : (5, .int (x5)) ∈ lv) (l6 : (6, .long (x6)) ∈ lv) (l8 : (8, .int (x8)) ∈ lv) (l9 : (9, .int (x9)) ∈ lv) (h : f170_j343 k431 k272 x0 x1 x2 x3 x4 x5 x6 x8 x9 M = some r) : Ev 0 (fun _ => 0) (vm_Cl (d + 4)) vp_170 11 11 false none (rV r) 343 lv [] M := by
  unfold f170_j343 at h
  refine ev_iconst (mm 196 rfl) cI_1 ?_
  refine ev_goto 348 (mm 197 rfl) rfl ?_
  exact f170_j348_ok hk431 hk272 l0 l1 l2 l3 l4 l5 l6 l8 l9 h
def f170_l272 (x0 : Nat) (x1 : Int32) (x2 : Int32) (x3 : Int32) (x4 : Int32) (x5 : Int32) (x6 : Int64) (x8 : Int32) (k431 : vm_M → Option (vm_M)) : Nat → Int32 → vm_M → Option (vm_M)
  | 0 => fun _ _ => none
  | n + 1 => fun x9 M =>
    (sg_r M x0 11 27).bind fun v177 =>
    (v177).bind fun q179 =>
    (sa_i M q179 0 x3).bind fun v181 =>
    if ((30 * x3) + v181) ≤ x9 then
      k431 M
    else
      (sg_r M x0 11 30).bind fun v184 =>
      (v184).bind fun q186 =>
      (sa_i M q186 0 x9).bind fun v188 =>
      if v188 = 0 then
        (sg_r M x0 11 33).bind fun v191 =>
        (v191).bind fun q193 =>
        (sa_i M q193 0 x9).bind fun v195 =>
        (sg_r M x0 11 34).bind fun v197 =>
        (v197).bind fun q199 =>
        (sa_i M q199 0 x9).bind fun v201 =>
        if v195 = v201 then
          f170_j343 k431 (f170_l272 x0 x1 x2 x3 x4 x5 x6 x8 k431 n) x0 x1 x2 x3 x4 x5 x6 x8 x9 M
        else
          (sg_r M x0 11 33).bind fun v256 =>
          (v256).bind fun q258 =>
          (sa_i M q258 0 x9).bind fun v260 =>
          (sg_r M x0 11 34).bind fun v262 =>
          (v262).bind fun q264 =>
          (sa_i M q264 0 x9).bind fun v266 =>
          (s_ob M x0 11).bind fun _ =>
          (f168 x0 v260 v266 x8 M).bind fun p268 =>
          if ¬ (lg_cmp p268.1 1) = 0 then
            f170_j348 k431 (f170_l272 x0 x1 x2 x3 x4 x5 x6 x8 k431 n) x0 x1 x2 x3 x4 x5 x6 x8 x9 0 p268.2
          else
            f170_j343 k431 (f170_l272 x0 x1 x2 x3 x4 x5 x6 x8 k431 n) x0 x1 x2 x3 x4 x5 x6 x8 x9 p268.2
      else
        f170_l272 x0 x1 x2 x3 x4 x5 x6 x8 k431 n (x9 + 1) M
theorem f170_l272_ok {d : Nat} {x0 : Nat} {x1 : Int32} {x2 : Int32} {x3 : Int32} {x4 : Int32} {x5 : Int32} {x6 : Int64} {x8 : Int32} {k431 : vm_M → Option (vm_M)} {r : vm_M} (hk431 : ∀ {M : vm_M} {lv : vm_L}, (0, .ref (x0)) ∈ lv → (1, .int (x1)) ∈ lv → (2, .int (x2)) ∈ lv → (3, .int (x3)) ∈ lv → (4, .int (x4)) ∈ lv → (5, .int (x5)) ∈ lv → (6, .long (x6)) ∈ lv → (8, .int (x8)) ∈ lv → k431 M = some r → Ev 0 (fun _ => 0) (vm_Cl (d + 4)) vp_170 11 11 false none (rV r) 431 lv [] M) : ∀ (n : Nat) {x9 : Int32} {M : vm_M} {lv : vm_L}, (0, .ref (x0)) ∈ lv → (1, .int (x1)) ∈ lv → (2, .int (x2)) ∈ lv → (3, .int (x3)) ∈ lv → (4, .int (x4)) ∈ lv → (5, .int (x5)) ∈ lv → (6, .long (x6)) ∈ lv → (8, .int (x8)) ∈ lv → (9, .int (x9)) ∈ lv → f170_l272 x0 x1 x2 x3 x4 x5 x6 x8 k431 n x9 M = some r → Ev 0 (fun _ => 0) (vm_Cl (d + 4)) vp_170 11 11 false none (rV r) 272 lv [] M := by
  intro n
  induction n with
  | zero =>
    intro x9 M lv l0 l1 l2 l3 l4 l5 l6 l8 l9 h
    cases h
  | succ n ih =>
    intro x9 M lv l0 l1 l2 l3 l4 l5 l6 l8 l9 h
    dsimp only [f170_l272] at h
    refine ev_iload (mm 157 rfl) l9 ?_
    refine ev_bipush (mm 158 rfl) cB_30 ?_
    refine ev_iload_n (mm 159 rfl) l3 ?_
    refine ev_imul (mm 160 rfl) ?_
    refine ev_aload_nR (mm 161 rfl) l0 ?_
    obtain ⟨v177, e178, h⟩ := bind_so h
    refine ev_get_r (mm 162 rfl) rfl e178 ?_
    refine ev_iload_n (mm 163 rfl) l3 ?_
    obtain ⟨q179, e180, h⟩ := bind_so h
    rw [e180]
    obtain ⟨v181, e182, h⟩ := bind_so h
    refine ev_iaload (mm 164 rfl) e182 ?_
    refine ev_iadd (mm 165 rfl) ?_
    rcases ite_so h with ⟨c183, h⟩ | ⟨c183, h⟩
    · refine ev_ic_t 431 (mm 166 rfl) rfl c183 ?_
      exact hk431 l0 l1 l2 l3 l4 l5 l6 l8 h
    · refine ev_ic_f 431 (mm 166 rfl) rfl c183 ?_
      refine ev_aload_nR (mm 167 rfl) l0 ?_
      obtain ⟨v184, e185, h⟩ := bind_so h
      refine ev_get_r (mm 168 rfl) rfl e185 ?_
      refine ev_iload (mm 169 rfl) l9 ?_
      obtain ⟨q186, e187, h⟩ := bind_so h
      rw [e187]
      obtain ⟨v188, e189, h⟩ := bind_so h
      refine ev_iaload (mm 170 rfl) e189 ?_
      rcases ite_so h with ⟨c190, h⟩ | ⟨c190, h⟩
      · refine ev_if_t 301 (mm 171 rfl) rfl c190 ?_
        refine ev_aload_nR (mm 173 rfl) l0 ?_
        obtain ⟨v191, e192, h⟩ := bind_so h
        refine ev_get_r (mm 174 rfl) rfl e192 ?_
        refine ev_iload (mm 175 rfl) l9 ?_
        obtain ⟨q193, e194, h⟩ := bind_so h
        rw [e194]
        obtain ⟨v195, e196, h⟩ := bind_so h
        refine ev_iaload (mm 176 rfl) e196 ?_
        refine ev_aload_nR (mm 177 rfl) l0 ?_
        obtain ⟨v197, e198, h⟩ := bind_so h
        refine ev_get_r (mm 178 rfl) rfl e198 ?_
        refine ev_iload (mm 179 rfl) l9 ?_
        obtain ⟨q199, e200, h⟩ := bind_so h
        rw [e200]
        obtain ⟨v201, e202, h⟩ := bind_so h
        refine ev_iaload (mm 180 rfl) e202 ?_
        rcases ite_so h with ⟨c203, h⟩ | ⟨c203, h⟩
        · refine ev_ic_t 343 (mm 181 rfl) rfl c203 ?_
          exact f170_j343_ok hk431 ih l0 l1 l2 l3 l4 l5 l6 l8 l9 h
        · refine ev_ic_f 343 (mm 181 rfl) rfl c203 ?_
          refine ev_aload_nR (mm 182 rfl) l0 ?_
          refine ev_aload_nR (mm 183 rfl) l0 ?_
          obtain ⟨v256, e257, h⟩ := bind_so h
          refine ev_get_r (mm 184 rfl) rfl e257 ?_
          refine ev_iload (mm 185 rfl) l9 ?_
          obtain ⟨q258, e259, h⟩ := bind_so h
          rw [e259]
          obtain ⟨v260, e261, h⟩ := bind_so h
          refine ev_iaload (mm 186 rfl) e261 ?_
          refine ev_aload_nR (mm 187 rfl) l0 ?_
          obtain ⟨v262, e263, h⟩ := bind_so h
          refine ev_get_r (mm 188 rfl) rfl e263 ?_
          refine ev_iload (mm 189 rfl) l9 ?_
          obtain ⟨q264, e265, h⟩ := bind_so h
          rw [e265]
          obtain ⟨v266, e267, h⟩ := bind_so h
          refine ev_iaload (mm 190 rfl) e267 ?_
          refine ev_iload (mm 191 rfl) l8 ?_
          obtain ⟨_, e271, h⟩ := bind_so h
          obtain ⟨p268, e269, h⟩ := bind_so h
          refine ev_callV_J [.int (v260), .int (v266), .int (x8)] (mm 192 rfl) rfl rfl (Nat.le_of_ble_eq_true rfl) (s_ob_of e271) (f168_ok e269 (d + 1)) ?_
          refine ev_lconst (mm 193 rfl) cL_1 ?_
          refine ev_lcmp (mm 194 rfl) ?_
          rcases ite_so h with ⟨c270, h⟩ | ⟨c270, h⟩
          · refine ev_if_t 347 (mm 195 rfl) rfl c270 ?_
            refine ev_iconst (mm 198 rfl) cI_0 ?_
            exact f170_j348_ok hk431 ih l0 l1 l2 l3 l4 l5 l6 l8 l9 h
          · refine ev_if_f 347 (mm 195 rfl) rfl c270 ?_
            exact f170_j343_ok hk431 ih l0 l1 l2 l3 l4 l5 l6 l8 l9 h
      · refine ev_if_f 301 (mm 171 rfl) rfl c190 ?_
        refine ev_goto 425 (mm 172 rfl) rfl ?_
        refine evs_iinc (mm 244 rfl) cI_1 l9 (by decide) (fun lv272 l9 s273 => ?_)
        have l0 := s273 _ _ l0 rfl
        have l1 := s273 _ _ l1 rfl
        have l2 := s273 _ _ l2 rfl
        have l3 := s273 _ _ l3 rfl
        have l4 := s273 _ _ l4 rfl
        have l5 := s273 _ _ l5 rfl
        have l6 := s273 _ _ l6 rfl
        have l8 := s273 _ _ l8 rfl
        refine ev_goto 272 (mm 245 rfl) rfl ?_
        exact ih l0 l1 l2 l3 l4 l5 l6 l8 l9 h
def f170_l6 (x0 : Nat) (x1 : Int32) (x2 : Int32) (x3 : Int32) (x4 : Int32) (x5 : Int32) (k457 : Int64 → vm_M → Option (vm_M)) : Nat → Int64 → Int32 → vm_M → Option (vm_M)
  | 0 => fun _ _ _ => none
  | n + 1 => fun x6 x8 M =>
    (sg_i M x0 11 1).bind fun v5 =>
    if v5 ≤ x8 then
      k457 x6 M
    else
      (sg_r M x0 11 45).bind fun v8 =>
      (v8).bind fun q10 =>
      (ss_l M q10 x8 0).bind fun M12 =>
      (sg_r M12 x0 11 46).bind fun v14 =>
      (v14).bind fun q16 =>
      (ss_l M12 q16 x8 0).bind fun M18 =>
      (sg_r M18 x0 11 47).bind fun v20 =>
      (v20).bind fun q22 =>
      (ss_l M18 q22 x8 0).bind fun M24 =>
      (sg_r M24 x0 11 48).bind fun v26 =>
      (v26).bind fun q28 =>
      (ss_l M24 q28 x8 0).bind fun M30 =>
      (sg_r M30 x0 11 51).bind fun v32 =>
      (v32).bind fun q34 =>
      (ss_l M30 q34 x8 0).bind fun M36 =>
      f170_l58 x0 x1 x2 x3 x4 x5 x6 x8
        (fun M49 =>
          (s_ob M49 x0 11).bind fun _ =>
          (f122 x0 x8 x1 M49).bind fun p50 =>
          if p50.1 = 0 then
            f170_l6 x0 x1 x2 x3 x4 x5 k457 n x6 (x8 + 1) p50.2
          else
            if ¬ x3 = (-1) then
              f170_l106 x0 x1 x2 x3 x4 x5 x6 x8
                (fun M86 =>
                  (sg_r M86 x0 11 39).bind fun v87 =>
                  (sg_r M86 x0 11 39).bind fun v89 =>
                  (v89).bind fun q91 =>
                  (sa_l M86 q91 0).bind fun v93 =>
                  (sg_r M86 x0 11 39).bind fun v95 =>
                  (v95).bind fun q97 =>
                  (sa_l M86 q97 1).bind fun v99 =>
                  (sg_r M86 x0 11 39).bind fun v101 =>
                  (v101).bind fun q103 =>
                  (sa_l M86 q103 2).bind fun v105 =>
                  (v87).bind fun q107 =>
                  (ss_l M86 q107 5 ((v93 + v99) + v105)).bind fun M109 =>
                  (sg_r M109 x0 11 39).bind fun v111 =>
                  (sg_r M109 x0 11 7).bind fun v113 =>
                  (sg_r M109 x0 11 4).bind fun v115 =>
                  (v115).bind fun q117 =>
                  (sa_i M109 q117 0 x8).bind fun v119 =>
                  (v113).bind fun q121 =>
                  (sa_i M109 q121 0 v119).bind fun v123 =>
                  (v111).bind fun q125 =>
                  (ss_l M109 q125 6 ((v123 : Int32).toInt64)).bind fun M127 =>
                  (sg_r M127 x0 11 39).bind fun v129 =>
                  (s_ob M127 x0 11).bind fun _ =>
                  (f123 x0 x8 x1 M127).bind fun p131 =>
                  (v129).bind fun q133 =>
                  (ss_l p131.2 q133 7 ((p131.1 : Int32).toInt64)).bind fun M135 =>
                  (sg_r M135 x0 11 39).bind fun v137 =>
                  (sg_r M135 x0 11 49).bind fun v139 =>
                  (v139).bind fun q141 =>
                  (sa_l M135 q141 x8).bind fun v143 =>
                  (f165 v143 M135).bind fun p145 =>
                  (v137).bind fun q147 =>
                  (ss_l p145.2 q147 8 p145.1).bind fun M149 =>
                  (sg_r M149 x0 11 39).bind fun v151 =>
                  (sg_r M149 x0 11 4).bind fun v153 =>
                  (v153).bind fun q155 =>
                  (sa_i M149 q155 0 x8).bind fun v157 =>
                  (v151).bind fun q159 =>
                  (ss_l M149 q159 9 ((v157 : Int32).toInt64)).bind fun M161 =>
                  (sg_r M161 x0 11 51).bind fun v163 =>
                  (sg_r M161 x0 11 39).bind fun v165 =>
                  (v165).bind fun q167 =>
                  (sa_l M161 q167 5).bind fun v169 =>
                  (v163).bind fun q171 =>
                  (ss_l M161 q171 x8 v169).bind fun M173 =>
                  f170_l272 x0 x1 x2 x3 x4 x5 x6 x8
                    (fun M274 =>
                      (s_ob M274 x0 11).bind fun _ =>
                      (f171 x0 x8 x1 x3 M274).bind fun p275 =>
                      (sg_r p275 x0 11 48).bind fun v277 =>
                      (v277).bind fun q279 =>
                      (sa_l p275 q279 x8).bind fun v281 =>
                      f170_l6 x0 x1 x2 x3 x4 x5 k457 n (x6 + v281) (x8 + 1) p275)
                    100000 (30 * x3) M173)
                100000 0 p50.2
            else
              f170_l6 x0 x1 x2 x3 x4 x5 k457 n x6 (x8 + 1) p50.2)
        100000 0 M36
theorem f170_l6_ok {d : Nat} {x0 : Nat} {x1 : Int32} {x2 : Int32} {x3 : Int32} {x4 : Int32} {x5 : Int32} {k457 : Int64 → vm_M → Option (vm_M)} {r : vm_M} (hk457 : ∀ {y6 : Int64} {M : vm_M} {lv : vm_L}, (0, .ref (x0)) ∈ lv → (1, .int (x1)) ∈ lv → (3, .int (x3)) ∈ lv → (6, .long (y6)) ∈ lv → k457 y6 M = some r → Ev 0 (fun _ => 0) (vm_Cl (d + 4)) vp_170 11 11 false none (rV r) 457 lv [] M) : ∀ (n : Nat) {x6 : Int64} {x8 : Int32} {M : vm_M} {lv : vm_L}, (0, .ref (x0)) ∈ lv → (1, .int (x1)) ∈ lv → (2, .int (x2)) ∈ lv → (3, .int (x3)) ∈ lv → (4, .int (x4)) ∈ lv → (5, .int (x5)) ∈ lv → (6, .long (x6)) ∈ lv → (8, .int (x8)) ∈ lv → f170_l6 x0 x1 x2 x3 x4 x5 k457 n x6 x8 M = some r → Ev 0 (fun _ => 0) (vm_Cl (d + 4)) vp_170 11 11 false none (rV r) 6 lv [] M := by
  intro n
  induction n with
  | zero =>
    intro x6 x8 M lv l0 l1 l2 l3 l4 l5 l6 l8 h
    cases h
  | succ n ih =>
    intro x6 x8 M lv l0 l1 l2 l3 l4 l5 l6 l8 h
    dsimp only [f170_l6] at h
    refine ev_iload (mm 4 rfl) l8 ?_
    refine ev_aload_nR (mm 5 rfl) l0 ?_
    obtain ⟨v5, e6, h⟩ := bind_so h
    refine ev_get_i (mm 6 rfl) rfl e6 ?_
    rcases ite_so h with ⟨c7, h⟩ | ⟨c7, h⟩
    · refine ev_ic_t 457 (mm 7 rfl) rfl c7 ?_
      exact hk457 l0 l1 l3 l6 h
    · refine ev_ic_f 457 (mm 7 rfl) rfl c7 ?_
      refine ev_aload_nR (mm 8 rfl) l0 ?_
      obtain ⟨v8, e9, h⟩ := bind_so h
      refine ev_get_r (mm 9 rfl) rfl e9 ?_
      refine ev_iload (mm 10 rfl) l8 ?_
      refine ev_lconst (mm 11 rfl) cL_0 ?_
      obtain ⟨q10, e11, h⟩ := bind_so h
      rw [e11]
      obtain ⟨M12, e13, h⟩ := bind_so h
      refine ev_lastore (mm 12 rfl) e13 ?_
      refine ev_aload_nR (mm 13 rfl) l0 ?_
      obtain ⟨v14, e15, h⟩ := bind_so h
      refine ev_get_r (mm 14 rfl) rfl e15 ?_
      refine ev_iload (mm 15 rfl) l8 ?_
      refine ev_lconst (mm 16 rfl) cL_0 ?_
      obtain ⟨q16, e17, h⟩ := bind_so h
      rw [e17]
      obtain ⟨M18, e19, h⟩ := bind_so h
      refine ev_lastore (mm 17 rfl) e19 ?_
      refine ev_aload_nR (mm 18 rfl) l0 ?_
      obtain ⟨v20, e21, h⟩ := bind_so h
      refine ev_get_r (mm 19 rfl) rfl e21 ?_
      refine ev_iload (mm 20 rfl) l8 ?_
      refine ev_lconst (mm 21 rfl) cL_0 ?_
      obtain ⟨q22, e23, h⟩ := bind_so h
      rw [e23]
      obtain ⟨M24, e25, h⟩ := bind_so h
      refine ev_lastore (mm 22 rfl) e25 ?_
      refine ev_aload_nR (mm 23 rfl) l0 ?_
      obtain ⟨v26, e27, h⟩ := bind_so h
      refine ev_get_r (mm 24 rfl) rfl e27 ?_
      refine ev_iload (mm 25 rfl) l8 ?_
      refine ev_lconst (mm 26 rfl) cL_0 ?_
      obtain ⟨q28, e29, h⟩ := bind_so h
      rw [e29]
      obtain ⟨M30, e31, h⟩ := bind_so h
      refine ev_lastore (mm 27 rfl) e31 ?_
      refine ev_aload_nR (mm 28 rfl) l0 ?_
      obtain ⟨v32, e33, h⟩ := bind_so h
      refine ev_get_r (mm 29 rfl) rfl e33 ?_
      refine ev_iload (mm 30 rfl) l8 ?_
      refine ev_lconst (mm 31 rfl) cL_0 ?_
      obtain ⟨q34, e35, h⟩ := bind_so h
      rw [e35]
      obtain ⟨M36, e37, h⟩ := bind_so h
      refine ev_lastore (mm 32 rfl) e37 ?_
      refine ev_iconst (mm 33 rfl) cI_0 ?_
      refine evs_istore (mm 34 rfl) (by decide) (fun lv38 l9 s39 => ?_)
      have l0 := s39 _ _ l0 rfl
      have l1 := s39 _ _ l1 rfl
      have l2 := s39 _ _ l2 rfl
      have l3 := s39 _ _ l3 rfl
      have l4 := s39 _ _ l4 rfl
      have l5 := s39 _ _ l5 rfl
      have l6 := s39 _ _ l6 rfl
      have l8 := s39 _ _ l8 rfl
      refine f170_l58_ok ?_ 100000 l0 l1 l2 l3 l4 l5 l6 l8 l9 h
      · intro M49 lv l0 l1 l2 l3 l4 l5 l6 l8
        intro h
        refine ev_aload_nR (mm 49 rfl) l0 ?_
        refine ev_iload (mm 50 rfl) l8 ?_
        refine ev_iload_n (mm 51 rfl) l1 ?_
        obtain ⟨_, e291, h⟩ := bind_so h
        obtain ⟨p50, e51, h⟩ := bind_so h
        refine ev_callV_I [.int (x8), .int (x1)] (mm 52 rfl) rfl rfl (Nat.le_of_ble_eq_true rfl) (s_ob_of e291) (f122_ok e51 (d + 3)) ?_
        rcases ite_so h with ⟨c52, h⟩ | ⟨c52, h⟩
        · refine ev_if_t 451 (mm 53 rfl) rfl c52 ?_
          refine evs_iinc (mm 258 rfl) cI_1 l8 (by decide) (fun lv53 l8 s54 => ?_)
          have l0 := s54 _ _ l0 rfl
          have l1 := s54 _ _ l1 rfl
          have l2 := s54 _ _ l2 rfl
          have l3 := s54 _ _ l3 rfl
          have l4 := s54 _ _ l4 rfl
          have l5 := s54 _ _ l5 rfl
          have l6 := s54 _ _ l6 rfl
          refine ev_goto 6 (mm 259 rfl) rfl ?_
          exact ih l0 l1 l2 l3 l4 l5 l6 l8 h
        · refine ev_if_f 451 (mm 53 rfl) rfl c52 ?_
          refine ev_iload_n (mm 54 rfl) l3 ?_
          refine ev_iconst (mm 55 rfl) cI_m1 ?_
          rcases ite_so h with ⟨c55, h⟩ | ⟨c55, h⟩
          · refine ev_ic_t 103 (mm 56 rfl) rfl c55 ?_
            refine ev_iconst (mm 58 rfl) cI_0 ?_
            refine evs_istore (mm 59 rfl) (by decide) (fun lv56 l9 s57 => ?_)
            have l0 := s57 _ _ l0 rfl
            have l1 := s57 _ _ l1 rfl
            have l2 := s57 _ _ l2 rfl
            have l3 := s57 _ _ l3 rfl
            have l4 := s57 _ _ l4 rfl
            have l5 := s57 _ _ l5 rfl
            have l6 := s57 _ _ l6 rfl
            have l8 := s57 _ _ l8 rfl
            refine f170_l106_ok ?_ 100000 l0 l1 l2 l3 l4 l5 l6 l8 l9 h
            · intro M86 lv l0 l1 l2 l3 l4 l5 l6 l8
              intro h
              refine ev_aload_nR (mm 88 rfl) l0 ?_
              obtain ⟨v87, e88, h⟩ := bind_so h
              refine ev_get_r (mm 89 rfl) rfl e88 ?_
              refine ev_iconst (mm 90 rfl) cI_5 ?_
              refine ev_aload_nR (mm 91 rfl) l0 ?_
              obtain ⟨v89, e90, h⟩ := bind_so h
              refine ev_get_r (mm 92 rfl) rfl e90 ?_
              refine ev_iconst (mm 93 rfl) cI_0 ?_
              obtain ⟨q91, e92, h⟩ := bind_so h
              rw [e92]
              obtain ⟨v93, e94, h⟩ := bind_so h
              refine ev_laload (mm 94 rfl) e94 ?_
              refine ev_aload_nR (mm 95 rfl) l0 ?_
              obtain ⟨v95, e96, h⟩ := bind_so h
              refine ev_get_r (mm 96 rfl) rfl e96 ?_
              refine ev_iconst (mm 97 rfl) cI_1 ?_
              obtain ⟨q97, e98, h⟩ := bind_so h
              rw [e98]
              obtain ⟨v99, e100, h⟩ := bind_so h
              refine ev_laload (mm 98 rfl) e100 ?_
              refine ev_ladd (mm 99 rfl) ?_
              refine ev_aload_nR (mm 100 rfl) l0 ?_
              obtain ⟨v101, e102, h⟩ := bind_so h
              refine ev_get_r (mm 101 rfl) rfl e102 ?_
              refine ev_iconst (mm 102 rfl) cI_2 ?_
              obtain ⟨q103, e104, h⟩ := bind_so h
              rw [e104]
              obtain ⟨v105, e106, h⟩ := bind_so h
              refine ev_laload (mm 103 rfl) e106 ?_
              refine ev_ladd (mm 104 rfl) ?_
              obtain ⟨q107, e108, h⟩ := bind_so h
              rw [e108]
              obtain ⟨M109, e110, h⟩ := bind_so h
              refine ev_lastore (mm 105 rfl) e110 ?_
              refine ev_aload_nR (mm 106 rfl) l0 ?_
              obtain ⟨v111, e112, h⟩ := bind_so h
              refine ev_get_r (mm 107 rfl) rfl e112 ?_
              refine ev_bipush (mm 108 rfl) cB_6 ?_
              refine ev_aload_nR (mm 109 rfl) l0 ?_
              obtain ⟨v113, e114, h⟩ := bind_so h
              refine ev_get_r (mm 110 rfl) rfl e114 ?_
              refine ev_aload_nR (mm 111 rfl) l0 ?_
              obtain ⟨v115, e116, h⟩ := bind_so h
              refine ev_get_r (mm 112 rfl) rfl e116 ?_
              refine ev_iload (mm 113 rfl) l8 ?_
              obtain ⟨q117, e118, h⟩ := bind_so h
              rw [e118]
              obtain ⟨v119, e120, h⟩ := bind_so h
              refine ev_iaload (mm 114 rfl) e120 ?_
              obtain ⟨q121, e122, h⟩ := bind_so h
              rw [e122]
              obtain ⟨v123, e124, h⟩ := bind_so h
              refine ev_iaload (mm 115 rfl) e124 ?_
              refine ev_i2l (mm 116 rfl) ?_
              obtain ⟨q125, e126, h⟩ := bind_so h
              rw [e126]
              obtain ⟨M127, e128, h⟩ := bind_so h
              refine ev_lastore (mm 117 rfl) e128 ?_
              refine ev_aload_nR (mm 118 rfl) l0 ?_
              obtain ⟨v129, e130, h⟩ := bind_so h
              refine ev_get_r (mm 119 rfl) rfl e130 ?_
              refine ev_bipush (mm 120 rfl) cB_7 ?_
              refine ev_aload_nR (mm 121 rfl) l0 ?_
              refine ev_iload (mm 122 rfl) l8 ?_
              refine ev_iload_n (mm 123 rfl) l1 ?_
              obtain ⟨_, e288, h⟩ := bind_so h
              obtain ⟨p131, e132, h⟩ := bind_so h
              refine ev_callV_I [.int (x8), .int (x1)] (mm 124 rfl) rfl rfl (by simp [vm_cat_A, vm_cat_I, vm_cat_R, vm_cat_J, vm_cat_0]) (s_ob_of e288) (f123_ok e132 (d + 2)) ?_
              refine ev_i2l (mm 125 rfl) ?_
              obtain ⟨q133, e134, h⟩ := bind_so h
              rw [e134]
              obtain ⟨M135, e136, h⟩ := bind_so h
              refine ev_lastore (mm 126 rfl) e136 ?_
              refine ev_aload_nR (mm 127 rfl) l0 ?_
              obtain ⟨v137, e138, h⟩ := bind_so h
              refine ev_get_r (mm 128 rfl) rfl e138 ?_
              refine ev_bipush (mm 129 rfl) cB_8 ?_
              refine ev_aload_nR (mm 130 rfl) l0 ?_
              obtain ⟨v139, e140, h⟩ := bind_so h
              refine ev_get_r (mm 131 rfl) rfl e140 ?_
              refine ev_iload (mm 132 rfl) l8 ?_
              obtain ⟨q141, e142, h⟩ := bind_so h
              rw [e142]
              obtain ⟨v143, e144, h⟩ := bind_so h
              refine ev_laload (mm 133 rfl) e144 ?_
              obtain ⟨p145, e146, h⟩ := bind_so h
              refine ev_callS_J [.long (v143)] (mm 134 rfl) (by decide) rfl rfl (by simp [vm_cat_A, vm_cat_I, vm_cat_R, vm_cat_J, vm_cat_0]) (f165_ok e146 (d + 3)) ?_
              obtain ⟨q147, e148, h⟩ := bind_so h
              rw [e148]
              obtain ⟨M149, e150, h⟩ := bind_so h
              refine ev_lastore (mm 135 rfl) e150 ?_
              refine ev_aload_nR (mm 136 rfl) l0 ?_
              obtain ⟨v151, e152, h⟩ := bind_so h
              refine ev_get_r (mm 137 rfl) rfl e152 ?_
              refine ev_bipush (mm 138 rfl) cB_9 ?_
              refine ev_aload_nR (mm 139 rfl) l0 ?_
              obtain ⟨v153, e154, h⟩ := bind_so h
              refine ev_get_r (mm 140 rfl) rfl e154 ?_
              refine ev_iload (mm 141 rfl) l8 ?_
              obtain ⟨q155, e156, h⟩ := bind_so h
              rw [e156]
              obtain ⟨v157, e158, h⟩ := bind_so h
              refine ev_iaload (mm 142 rfl) e158 ?_
              refine ev_i2l (mm 143 rfl) ?_
              obtain ⟨q159, e160, h⟩ := bind_so h
              rw [e160]
              obtain ⟨M161, e162, h⟩ := bind_so h
              refine ev_lastore (mm 144 rfl) e162 ?_
              refine ev_aload_nR (mm 145 rfl) l0 ?_
              obtain ⟨v163, e164, h⟩ := bind_so h
              refine ev_get_r (mm 146 rfl) rfl e164 ?_
              refine ev_iload (mm 147 rfl) l8 ?_
              refine ev_aload_nR (mm 148 rfl) l0 ?_
              obtain ⟨v165, e166, h⟩ := bind_so h
              refine ev_get_r (mm 149 rfl) rfl e166 ?_
              refine ev_iconst (mm 150 rfl) cI_5 ?_
              obtain ⟨q167, e168, h⟩ := bind_so h
              rw [e168]
              obtain ⟨v169, e170, h⟩ := bind_so h
              refine ev_laload (mm 151 rfl) e170 ?_
              obtain ⟨q171, e172, h⟩ := bind_so h
              rw [e172]
              obtain ⟨M173, e174, h⟩ := bind_so h
              refine ev_lastore (mm 152 rfl) e174 ?_
              refine ev_bipush (mm 153 rfl) cB_30 ?_
              refine ev_iload_n (mm 154 rfl) l3 ?_
              refine ev_imul (mm 155 rfl) ?_
              refine evs_istore (mm 156 rfl) (by decide) (fun lv175 l9 s176 => ?_)
              have l0 := s176 _ _ l0 rfl
              have l1 := s176 _ _ l1 rfl
              have l2 := s176 _ _ l2 rfl
              have l3 := s176 _ _ l3 rfl
              have l4 := s176 _ _ l4 rfl
              have l5 := s176 _ _ l5 rfl
              have l6 := s176 _ _ l6 rfl
              have l8 := s176 _ _ l8 rfl
              refine f170_l272_ok ?_ 100000 l0 l1 l2 l3 l4 l5 l6 l8 l9 h
              · intro M274 lv l0 l1 l2 l3 l4 l5 l6 l8
                intro h
                refine ev_aload_nR (mm 246 rfl) l0 ?_
                refine ev_iload (mm 247 rfl) l8 ?_
                refine ev_iload_n (mm 248 rfl) l1 ?_
                refine ev_iload_n (mm 249 rfl) l3 ?_
                obtain ⟨_, e287, h⟩ := bind_so h
                obtain ⟨p275, e276, h⟩ := bind_so h
                refine ev_callV_V [.int (x8), .int (x1), .int (x3)] (mm 250 rfl) rfl rfl (Nat.le_of_ble_eq_true rfl) (s_ob_of e287) (f171_ok e276 (d + 0)) ?_
                refine ev_lload (mm 251 rfl) l6 ?_
                refine ev_aload_nR (mm 252 rfl) l0 ?_
                obtain ⟨v277, e278, h⟩ := bind_so h
                refine ev_get_r (mm 253 rfl) rfl e278 ?_
                refine ev_iload (mm 254 rfl) l8 ?_
                obtain ⟨q279, e280, h⟩ := bind_so h
                rw [e280]
                obtain ⟨v281, e282, h⟩ := bind_so h
                refine ev_laload (mm 255 rfl) e282 ?_
                refine ev_ladd (mm 256 rfl) ?_
                refine evs_lstore (mm 257 rfl) (by decide) (fun lv283 l6 s284 => ?_)
                have l0 := s284 _ _ l0 rfl
                have l1 := s284 _ _ l1 rfl
                have l2 := s284 _ _ l2 rfl
                have l3 := s284 _ _ l3 rfl
                have l4 := s284 _ _ l4 rfl
                have l5 := s284 _ _ l5 rfl
                have l8 := s284 _ _ l8 rfl
                refine evs_iinc (mm 258 rfl) cI_1 l8 (by decide) (fun lv285 l8 s286 => ?_)
                have l0 := s286 _ _ l0 rfl
                have l1 := s286 _ _ l1 rfl
                have l2 := s286 _ _ l2 rfl
                have l3 := s286 _ _ l3 rfl
                have l4 := s286 _ _ l4 rfl
                have l5 := s286 _ _ l5 rfl
                have l6 := s286 _ _ l6 rfl
                refine ev_goto 6 (mm 259 rfl) rfl ?_
                exact ih l0 l1 l2 l3 l4 l5 l6 l8 h
          · refine ev_ic_f 103 (mm 56 rfl) rfl c55 ?_
            refine ev_goto 451 (mm 57 rfl) rfl ?_
            refine evs_iinc (mm 258 rfl) cI_1 l8 (by decide) (fun lv289 l8 s290 => ?_)
            have l0 := s290 _ _ l0 rfl
            have l1 := s290 _ _ l1 rfl
            have l2 := s290 _ _ l2 rfl
            have l3 := s290 _ _ l3 rfl
            have l4 := s290 _ _ l4 rfl
            have l5 := s290 _ _ l5 rfl
            have l6 := s290 _ _ l6 rfl
            refine ev_goto 6 (mm 259 rfl) rfl ?_
            exact ih l0 l1 l2 l3 l4 l5 l6 l8 h
/-- PupilCoinModel.works(IIIII)V -/
def f170 (x0 : Nat) (x1 : Int32) (x2 : Int32) (x3 : Int32) (x4 : Int32) (x5 : Int32) (M : vm_M) : Option (vm_M) :=
  f170_l6 x0 x1 x2 x3 x4 x5
    (fun y292 M293 =>
      (s_ob M293 x0 11).bind fun _ =>
      (f162 x0 x3 3 (-1) M293).bind fun p294 =>
      if p294.1 = (-1) then
        some p294.2
      else
        (s_ob p294.2 x0 11).bind fun _ =>
        (f162 x0 x3 3 (-1) p294.2).bind fun p297 =>
        (s_ob p297.2 x0 11).bind fun _ =>
        (f174 x0 x1 x3 ((p297.1 : Int32).toInt64 - y292) p297.2).bind fun p299 =>
        some p299)
    100000 0 0 M
theorem f170_ok {x0 : Nat} {x1 : Int32} {x2 : Int32} {x3 : Int32} {x4 : Int32} {x5 : Int32} {M : vm_M} {r : vm_M} (h : f170 x0 x1 x2 x3 x4 x5 M = some r) (d : Nat) : vm_Cl (d + 5) 170 [.ref (x0), .int (x1), .int (x2), .int (x3), .int (x4), .int (x5)] M (rV r) := by
  have key : Ev 0 (fun _ => 0) (vm_Cl (d + 4)) vp_170 11 11 false none (rV r) 0 (lv_args 0 [.ref (x0), .int (x1), .int (x2), .int (x3), .int (x4), .int (x5)]) [] M := by
    have l0 : (0, .ref (x0)) ∈ lv_args 0 [.ref (x0), .int (x1), .int (x2), .int (x3), .int (x4), .int (x5)] := List.Mem.head _
    have l1 : (1, .int (x1)) ∈ lv_args 0 [.ref (x0), .int (x1), .int (x2), .int (x3), .int (x4), .int (x5)] := List.Mem.tail _ (List.Mem.head _)
    have l2 : (2, .int (x2)) ∈ lv_args 0 [.ref (x0), .int (x1), .int (x2), .int (x3), .int (x4), .int (x5)] := List.Mem.tail _ (List.Mem.tail _ (List.Mem.head _))
    have l3 : (3, .int (x3)) ∈ lv_args 0 [.ref (x0), .int (x1), .int (x2), .int (x3), .int (x4), .int (x5)] := List.Mem.tail _ (List.Mem.tail _ (List.Mem.tail _ (List.Mem.head _)))
    have l4 : (4, .int (x4)) ∈ lv_args 0 [.ref (x0), .int (x1), .int (x2), .int (x3), .int (x4), .int (x5)] := List.Mem.tail _ (List.Mem.tail _ (List.Mem.tail _ (List.Mem.tail _ (List.Mem.head _))))
    have l5 : (5, .int (x5)) ∈ lv_args 0 [.ref (x0), .int (x1), .int (x2), .int (x3), .int (x4), .int (x5)] := List.Mem.tail _ (List.Mem.tail _ (List.Mem.tail _ (List.Mem.tail _ (List.Mem.tail _ (List.Mem.head _)))))
    unfold f170 at h
    refine ev_lconst (mm 0 rfl) cL_0 ?_
    refine evs_lstore (mm 1 rfl) (by decide) (fun lv1 l6 s2 => ?_)
    have l0 := s2 _ _ l0 rfl
    have l1 := s2 _ _ l1 rfl
    have l2 := s2 _ _ l2 rfl
    have l3 := s2 _ _ l3 rfl
    have l4 := s2 _ _ l4 rfl
    have l5 := s2 _ _ l5 rfl
    refine ev_iconst (mm 2 rfl) cI_0 ?_
    refine evs_istore (mm 3 rfl) (by decide) (fun lv3 l8 s4 => ?_)
    have l0 := s4 _ _ l0 rfl
    have l1 := s4 _ _ l1 rfl
    have l2 := s4 _ _ l2 rfl
    have l3 := s4 _ _ l3 rfl
    have l4 := s4 _ _ l4 rfl
    have l5 := s4 _ _ l5 rfl
    have l6 := s4 _ _ l6 rfl
    refine f170_l6_ok ?_ 100000 l0 l1 l2 l3 l4 l5 l6 l8 h
    · intro y292 M293 lv l0 l1 l3 l6
      intro h
      refine ev_aload_nR (mm 260 rfl) l0 ?_
      refine ev_iload_n (mm 261 rfl) l3 ?_
      refine ev_iconst (mm 262 rfl) cI_3 ?_
      refine ev_iconst (mm 263 rfl) cI_m1 ?_
      obtain ⟨_, e303, h⟩ := bind_so h
      obtain ⟨p294, e295, h⟩ := bind_so h
      refine ev_callV_I [.int (x3), .int (3), .int ((-1))] (mm 264 rfl) rfl rfl (Nat.le_of_ble_eq_true rfl) (s_ob_of e303) (f162_ok e295 (d + 2)) ?_
      refine ev_iconst (mm 265 rfl) cI_m1 ?_
      rcases ite_so h with ⟨c296, h⟩ | ⟨c296, h⟩
      · refine ev_ic_t 485 (mm 266 rfl) rfl c296 ?_
        exact ev_return (mm 279 rfl) h
      · refine ev_ic_f 485 (mm 266 rfl) rfl c296 ?_
        refine ev_aload_nR (mm 267 rfl) l0 ?_
        refine ev_iload_n (mm 268 rfl) l1 ?_
        refine ev_iload_n (mm 269 rfl) l3 ?_
        refine ev_aload_nR (mm 270 rfl) l0 ?_
        refine ev_iload_n (mm 271 rfl) l3 ?_
        refine ev_iconst (mm 272 rfl) cI_3 ?_
        refine ev_iconst (mm 273 rfl) cI_m1 ?_
        obtain ⟨_, e302, h⟩ := bind_so h
        obtain ⟨p297, e298, h⟩ := bind_so h
        refine ev_callV_I [.int (x3), .int (3), .int ((-1))] (mm 274 rfl) rfl rfl (Nat.le_of_ble_eq_true rfl) (s_ob_of e302) (f162_ok e298 (d + 2)) ?_
        refine ev_i2l (mm 275 rfl) ?_
        refine ev_lload (mm 276 rfl) l6 ?_
        refine ev_lsub (mm 277 rfl) ?_
        obtain ⟨_, e301, h⟩ := bind_so h
        obtain ⟨p299, e300, h⟩ := bind_so h
        refine ev_callV_V [.int (x1), .int (x3), .long (((p297.1 : Int32).toInt64 - y292))] (mm 278 rfl) rfl rfl (Nat.le_of_ble_eq_true rfl) (s_ob_of e301) (f174_ok e300 (d + 0)) ?_
        exact ev_return (mm 279 rfl) h
  exact ⟨by decide, Nat.le_of_ble_eq_true rfl, key.1, key.2⟩
def f176_l2 (x0 : Nat) (x1 : Int32) (k28 : vm_M → Option (vm_M)) : Nat → Int32 → vm_M → Option (vm_M)
  | 0 => fun _ _ => none
  | n + 1 => fun x2 M =>
    if 12 ≤ x2 then
      k28 M
    else
      (sg_r M x0 11 49).bind fun v4 =>
      (v4).bind fun q6 =>
      (ss_l M q6 x2 0).bind fun M8 =>
      (sg_r M8 x0 11 50).bind fun v10 =>
      (v10).bind fun q12 =>
      (ss_l M8 q12 x2 0).bind fun M14 =>
      f176_l2 x0 x1 k28 n (x2 + 1) M14
theorem f176_l2_ok {d : Nat} {x0 : Nat} {x1 : Int32} {k28 : vm_M → Option (vm_M)} {r : vm_M} (hk28 : ∀ {M : vm_M} {lv : vm_L}, (0, .ref (x0)) ∈ lv → (1, .int (x1)) ∈ lv → k28 M = some r → Ev 0 (fun _ => 0) (vm_Cl (d + 5)) vp_176 11 6 false none (rV r) 28 lv [] M) : ∀ (n : Nat) {x2 : Int32} {M : vm_M} {lv : vm_L}, (0, .ref (x0)) ∈ lv → (1, .int (x1)) ∈ lv → (2, .int (x2)) ∈ lv → f176_l2 x0 x1 k28 n x2 M = some r → Ev 0 (fun _ => 0) (vm_Cl (d + 5)) vp_176 11 6 false none (rV r) 2 lv [] M := by
  intro n
  induction n with
  | zero =>
    intro x2 M lv l0 l1 l2 h
    cases h
  | succ n ih =>
    intro x2 M lv l0 l1 l2 h
    dsimp only [f176_l2] at h
    refine ev_iload_n (mm 2 rfl) l2 ?_
    refine ev_bipush (mm 3 rfl) cB_12 ?_
    rcases ite_so h with ⟨c3, h⟩ | ⟨c3, h⟩
    · refine ev_ic_t 28 (mm 4 rfl) rfl c3 ?_
      exact hk28 l0 l1 h
    · refine ev_ic_f 28 (mm 4 rfl) rfl c3 ?_
      refine ev_aload_nR (mm 5 rfl) l0 ?_
      obtain ⟨v4, e5, h⟩ := bind_so h
      refine ev_get_r (mm 6 rfl) rfl e5 ?_
      refine ev_iload_n (mm 7 rfl) l2 ?_
      refine ev_lconst (mm 8 rfl) cL_0 ?_
      obtain ⟨q6, e7, h⟩ := bind_so h
      rw [e7]
      obtain ⟨M8, e9, h⟩ := bind_so h
      refine ev_lastore (mm 9 rfl) e9 ?_
      refine ev_aload_nR (mm 10 rfl) l0 ?_
      obtain ⟨v10, e11, h⟩ := bind_so h
      refine ev_get_r (mm 11 rfl) rfl e11 ?_
      refine ev_iload_n (mm 12 rfl) l2 ?_
      refine ev_lconst (mm 13 rfl) cL_0 ?_
      obtain ⟨q12, e13, h⟩ := bind_so h
      rw [e13]
      obtain ⟨M14, e15, h⟩ := bind_so h
      refine ev_lastore (mm 14 rfl) e15 ?_
      refine evs_iinc (mm 15 rfl) cI_1 l2 (by decide) (fun lv16 l2 s17 => ?_)
      have l0 := s17 _ _ l0 rfl
      have l1 := s17 _ _ l1 rfl
      refine ev_goto 2 (mm 16 rfl) rfl ?_
      exact ih l0 l1 l2 h
def f176_l79 (x0 : Nat) (x1 : Int32) (x2 : Int32) (x3 : Int32) (x4 : Int32) (k125 : vm_M → Option (vm_M)) : Nat → Int32 → vm_M → Option (vm_M)
  | 0 => fun _ _ => none
  | n + 1 => fun x5 M =>
    (sg_i M x0 11 1).bind fun v41 =>
    if v41 ≤ x5 then
      k125 M
    else
      (s_ob M x0 11).bind fun _ =>
      (f131 x0 x5 x4 (x2 + 1) M).bind fun p44 =>
      if p44.1 = 0 then
        f176_l79 x0 x1 x2 x3 x4 k125 n (x5 + 1) p44.2
      else
        (sg_r p44.2 x0 11 49).bind fun v49 =>
        (v49).bind fun q51 =>
        (sa_l p44.2 q51 x4).bind fun v53 =>
        (sg_r p44.2 x0 11 48).bind fun v55 =>
        (v55).bind fun q57 =>
        (sa_l p44.2 q57 x5).bind fun v59 =>
        (ss_l p44.2 q51 x4 (v53 + v59)).bind fun M61 =>
        f176_l79 x0 x1 x2 x3 x4 k125 n (x5 + 1) M61
theorem f176_l79_ok {d : Nat} {x0 : Nat} {x1 : Int32} {x2 : Int32} {x3 : Int32} {x4 : Int32} {k125 : vm_M → Option (vm_M)} {r : vm_M} (hk125 : ∀ {M : vm_M} {lv : vm_L}, (0, .ref (x0)) ∈ lv → (1, .int (x1)) ∈ lv → (2, .int (x2)) ∈ lv → (3, .int (x3)) ∈ lv → (4, .int (x4)) ∈ lv → k125 M = some r → Ev 0 (fun _ => 0) (vm_Cl (d + 5)) vp_176 11 6 false none (rV r) 125 lv [] M) : ∀ (n : Nat) {x5 : Int32} {M : vm_M} {lv : vm_L}, (0, .ref (x0)) ∈ lv → (1, .int (x1)) ∈ lv → (2, .int (x2)) ∈ lv → (3, .int (x3)) ∈ lv → (4, .int (x4)) ∈ lv → (5, .int (x5)) ∈ lv → f176_l79 x0 x1 x2 x3 x4 k125 n x5 M = some r → Ev 0 (fun _ => 0) (vm_Cl (d + 5)) vp_176 11 6 false none (rV r) 79 lv [] M := by
  intro n
  induction n with
  | zero =>
    intro x5 M lv l0 l1 l2 l3 l4 l5 h
    cases h
  | succ n ih =>
    intro x5 M lv l0 l1 l2 l3 l4 l5 h
    dsimp only [f176_l79] at h
    refine ev_iload (mm 51 rfl) l5 ?_
    refine ev_aload_nR (mm 52 rfl) l0 ?_
    obtain ⟨v41, e42, h⟩ := bind_so h
    refine ev_get_i (mm 53 rfl) rfl e42 ?_
    rcases ite_so h with ⟨c43, h⟩ | ⟨c43, h⟩
    · refine ev_ic_t 125 (mm 54 rfl) rfl c43 ?_
      exact hk125 l0 l1 l2 l3 l4 h
    · refine ev_ic_f 125 (mm 54 rfl) rfl c43 ?_
      refine ev_aload_nR (mm 55 rfl) l0 ?_
      refine ev_iload (mm 56 rfl) l5 ?_
      refine ev_iload (mm 57 rfl) l4 ?_
      refine ev_iload_n (mm 58 rfl) l2 ?_
      refine ev_iconst (mm 59 rfl) cI_1 ?_
      refine ev_iadd (mm 60 rfl) ?_
      obtain ⟨_, e65, h⟩ := bind_so h
      obtain ⟨p44, e45, h⟩ := bind_so h
      refine ev_callV_I [.int (x5), .int (x4), .int ((x2 + 1))] (mm 61 rfl) rfl rfl (Nat.le_of_ble_eq_true rfl) (s_ob_of e65) (f131_ok e45 (d + 4)) ?_
      rcases ite_so h with ⟨c46, h⟩ | ⟨c46, h⟩
      · refine ev_if_t 119 (mm 62 rfl) rfl c46 ?_
        refine evs_iinc (mm 74 rfl) cI_1 l5 (by decide) (fun lv47 l5 s48 => ?_)
        have l0 := s48 _ _ l0 rfl
        have l1 := s48 _ _ l1 rfl
        have l2 := s48 _ _ l2 rfl
        have l3 := s48 _ _ l3 rfl
        have l4 := s48 _ _ l4 rfl
        refine ev_goto 79 (mm 75 rfl) rfl ?_
        exact ih l0 l1 l2 l3 l4 l5 h
      · refine ev_if_f 119 (mm 62 rfl) rfl c46 ?_
        refine ev_aload_nR (mm 63 rfl) l0 ?_
        obtain ⟨v49, e50, h⟩ := bind_so h
        refine ev_get_r (mm 64 rfl) rfl e50 ?_
        refine ev_iload (mm 65 rfl) l4 ?_
        refine ev_dup2 (mm 66 rfl) rfl (by cases (v49 : Option Nat) <;> rfl) ?_
        obtain ⟨q51, e52, h⟩ := bind_so h
        rw [e52]
        obtain ⟨v53, e54, h⟩ := bind_so h
        refine ev_laload (mm 67 rfl) e54 ?_
        refine ev_aload_nR (mm 68 rfl) l0 ?_
        obtain ⟨v55, e56, h⟩ := bind_so h
        refine ev_get_r (mm 69 rfl) rfl e56 ?_
        refine ev_iload (mm 70 rfl) l5 ?_
        obtain ⟨q57, e58, h⟩ := bind_so h
        rw [e58]
        obtain ⟨v59, e60, h⟩ := bind_so h
        refine ev_laload (mm 71 rfl) e60 ?_
        refine ev_ladd (mm 72 rfl) ?_
        obtain ⟨M61, e62, h⟩ := bind_so h
        refine ev_lastore (mm 73 rfl) e62 ?_
        refine evs_iinc (mm 74 rfl) cI_1 l5 (by decide) (fun lv63 l5 s64 => ?_)
        have l0 := s64 _ _ l0 rfl
        have l1 := s64 _ _ l1 rfl
        have l2 := s64 _ _ l2 rfl
        have l3 := s64 _ _ l3 rfl
        have l4 := s64 _ _ l4 rfl
        refine ev_goto 79 (mm 75 rfl) rfl ?_
        exact ih l0 l1 l2 l3 l4 l5 h
def f176_l59 (x0 : Nat) (x1 : Int32) (x2 : Int32) (x3 : Int32) (k153 : vm_M → Option (vm_M)) : Nat → Int32 → vm_M → Option (vm_M)
  | 0 => fun _ _ => none
  | n + 1 => fun x4 M =>
    (sg_i M x0 11 1).bind fun v30 =>
    if v30 ≤ x4 then
      k153 M
    else
      (sg_r M x0 11 49).bind fun v33 =>
      (v33).bind fun q35 =>
      (ss_l M q35 x4 0).bind fun M37 =>
      f176_l79 x0 x1 x2 x3 x4
        (fun M66 =>
          (sg_r M66 x0 11 50).bind fun v67 =>
          (f169 x2 M66).bind fun p69 =>
          (s_ob p69.2 x0 11).bind fun _ =>
          (f133 x0 x4 (x2 + 1) p69.1 x3 p69.2).bind fun p71 =>
          (v67).bind fun q73 =>
          (ss_l p71.2 q73 x4 ((p71.1 : Int32).toInt64)).bind fun M75 =>
          f176_l59 x0 x1 x2 x3 k153 n (x4 + 1) M75)
        100000 0 M37
theorem f176_l59_ok {d : Nat} {x0 : Nat} {x1 : Int32} {x2 : Int32} {x3 : Int32} {k153 : vm_M → Option (vm_M)} {r : vm_M} (hk153 : ∀ {M : vm_M} {lv : vm_L}, (0, .ref (x0)) ∈ lv → (1, .int (x1)) ∈ lv → (2, .int (x2)) ∈ lv → k153 M = some r → Ev 0 (fun _ => 0) (vm_Cl (d + 5)) vp_176 11 6 false none (rV r) 153 lv [] M) : ∀ (n : Nat) {x4 : Int32} {M : vm_M} {lv : vm_L}, (0, .ref (x0)) ∈ lv → (1, .int (x1)) ∈ lv → (2, .int (x2)) ∈ lv → (3, .int (x3)) ∈ lv → (4, .int (x4)) ∈ lv → f176_l59 x0 x1 x2 x3 k153 n x4 M = some r → Ev 0 (fun _ => 0) (vm_Cl (d + 5)) vp_176 11 6 false none (rV r) 59 lv [] M := by
  intro n
  induction n with
  | zero =>
    intro x4 M lv l0 l1 l2 l3 l4 h
    cases h
  | succ n ih =>
    intro x4 M lv l0 l1 l2 l3 l4 h
    dsimp only [f176_l59] at h
    refine ev_iload (mm 40 rfl) l4 ?_
    refine ev_aload_nR (mm 41 rfl) l0 ?_
    obtain ⟨v30, e31, h⟩ := bind_so h
    refine ev_get_i (mm 42 rfl) rfl e31 ?_
    rcases ite_so h with ⟨c32, h⟩ | ⟨c32, h⟩
    · refine ev_ic_t 153 (mm 43 rfl) rfl c32 ?_
      exact hk153 l0 l1 l2 h
    · refine ev_ic_f 153 (mm 43 rfl) rfl c32 ?_
      refine ev_aload_nR (mm 44 rfl) l0 ?_
      obtain ⟨v33, e34, h⟩ := bind_so h
      refine ev_get_r (mm 45 rfl) rfl e34 ?_
      refine ev_iload (mm 46 rfl) l4 ?_
      refine ev_lconst (mm 47 rfl) cL_0 ?_
      obtain ⟨q35, e36, h⟩ := bind_so h
      rw [e36]
      obtain ⟨M37, e38, h⟩ := bind_so h
      refine ev_lastore (mm 48 rfl) e38 ?_
      refine ev_iconst (mm 49 rfl) cI_0 ?_
      refine evs_istore (mm 50 rfl) (by decide) (fun lv39 l5 s40 => ?_)
      have l0 := s40 _ _ l0 rfl
      have l1 := s40 _ _ l1 rfl
      have l2 := s40 _ _ l2 rfl
      have l3 := s40 _ _ l3 rfl
      have l4 := s40 _ _ l4 rfl
      refine f176_l79_ok ?_ 100000 l0 l1 l2 l3 l4 l5 h
      · intro M66 lv l0 l1 l2 l3 l4
        intro h
        refine ev_aload_nR (mm 76 rfl) l0 ?_
        obtain ⟨v67, e68, h⟩ := bind_so h
        refine ev_get_r (mm 77 rfl) rfl e68 ?_
        refine ev_iload (mm 78 rfl) l4 ?_
        refine ev_aload_nR (mm 79 rfl) l0 ?_
        refine ev_iload (mm 80 rfl) l4 ?_
        refine ev_iload_n (mm 81 rfl) l2 ?_
        refine ev_iconst (mm 82 rfl) cI_1 ?_
        refine ev_iadd (mm 83 rfl) ?_
        refine ev_iload_n (mm 84 rfl) l2 ?_
        obtain ⟨p69, e70, h⟩ := bind_so h
        refine ev_callS_I [.int (x2)] (mm 85 rfl) (by decide) rfl rfl (by simp [vm_cat_A, vm_cat_I, vm_cat_R, vm_cat_J, vm_cat_0]) (f169_ok e70 (d + 4)) ?_
        refine ev_iload_n (mm 86 rfl) l3 ?_
        obtain ⟨_, e79, h⟩ := bind_so h
        obtain ⟨p71, e72, h⟩ := bind_so h
        refine ev_callV_I [.int (x4), .int ((x2 + 1)), .int (p69.1), .int (x3)] (mm 87 rfl) rfl rfl (by simp [vm_cat_A, vm_cat_I, vm_cat_R, vm_cat_J, vm_cat_0]) (s_ob_of e79) (f133_ok e72 (d + 2)) ?_
        refine ev_i2l (mm 88 rfl) ?_
        obtain ⟨q73, e74, h⟩ := bind_so h
        rw [e74]
        obtain ⟨M75, e76, h⟩ := bind_so h
        refine ev_lastore (mm 89 rfl) e76 ?_
        refine evs_iinc (mm 90 rfl) cI_1 l4 (by decide) (fun lv77 l4 s78 => ?_)
        have l0 := s78 _ _ l0 rfl
        have l1 := s78 _ _ l1 rfl
        have l2 := s78 _ _ l2 rfl
        have l3 := s78 _ _ l3 rfl
        refine ev_goto 59 (mm 91 rfl) rfl ?_
        exact ih l0 l1 l2 l3 l4 h
def f176_l30 (x0 : Nat) (x1 : Int32) : Nat → Int32 → vm_M → Option (vm_M)
  | 0 => fun _ _ => none
  | n + 1 => fun x2 M =>
    if x1 ≤ x2 then
      some M
    else
      (s_ob M x0 11).bind fun _ =>
      (f160 x0 x2 (100 * (x2 + 1)) M).bind fun p24 =>
      (s_ob p24.2 x0 11).bind fun _ =>
      (f170 x0 x2 (100 * (x2 + 1)) p24.1 (-1) (-1) p24.2).bind fun p26 =>
      f176_l59 x0 x1 x2 (100 * (x2 + 1))
        (fun M80 =>
          f176_l30 x0 x1 n (x2 + 1) M80)
        100000 0 p26
theorem f176_l30_ok {d : Nat} {x0 : Nat} {x1 : Int32} {r : vm_M} : ∀ (n : Nat) {x2 : Int32} {M : vm_M} {lv : vm_L}, (0, .ref (x0)) ∈ lv → (1, .int (x1)) ∈ lv → (2, .int (x2)) ∈ lv → f176_l30 x0 x1 n x2 M = some r → Ev 0 (fun _ => 0) (vm_Cl (d + 5)) vp_176 11 6 false none (rV r) 30 lv [] M := by
  intro n
  induction n with
  | zero =>
    intro x2 M lv l0 l1 l2 h
    cases h
  | succ n ih =>
    intro x2 M lv l0 l1 l2 h
    dsimp only [f176_l30] at h
    refine ev_iload_n (mm 19 rfl) l2 ?_
    refine ev_iload_n (mm 20 rfl) l1 ?_
    rcases ite_so h with ⟨c21, h⟩ | ⟨c21, h⟩
    · refine ev_ic_t 159 (mm 21 rfl) rfl c21 ?_
      exact ev_return (mm 94 rfl) h
    · refine ev_ic_f 159 (mm 21 rfl) rfl c21 ?_
      refine ev_bipush (mm 22 rfl) cB_100 ?_
      refine ev_iload_n (mm 23 rfl) l2 ?_
      refine ev_iconst (mm 24 rfl) cI_1 ?_
      refine ev_iadd (mm 25 rfl) ?_
      refine ev_imul (mm 26 rfl) ?_
      refine evs_istore_n (mm 27 rfl) (by decide) (fun lv22 l3 s23 => ?_)
      have l0 := s23 _ _ l0 rfl
      have l1 := s23 _ _ l1 rfl
      have l2 := s23 _ _ l2 rfl
      refine ev_aload_nR (mm 28 rfl) l0 ?_
      refine ev_iload_n (mm 29 rfl) l2 ?_
      refine ev_iload_n (mm 30 rfl) l3 ?_
      refine ev_aload_nR (mm 31 rfl) l0 ?_
      refine ev_iload_n (mm 32 rfl) l2 ?_
      refine ev_iload_n (mm 33 rfl) l3 ?_
      obtain ⟨_, e84, h⟩ := bind_so h
      obtain ⟨p24, e25, h⟩ := bind_so h
      refine ev_callV_I [.int (x2), .int ((100 * (x2 + 1)))] (mm 34 rfl) rfl rfl (Nat.le_of_ble_eq_true rfl) (s_ob_of e84) (f160_ok e25 (d + 4)) ?_
      refine ev_iconst (mm 35 rfl) cI_m1 ?_
      refine ev_iconst (mm 36 rfl) cI_m1 ?_
      obtain ⟨_, e83, h⟩ := bind_so h
      obtain ⟨p26, e27, h⟩ := bind_so h
      refine ev_callV_V [.int (x2), .int ((100 * (x2 + 1))), .int (p24.1), .int ((-1)), .int ((-1))] (mm 37 rfl) rfl rfl (Nat.le_of_ble_eq_true rfl) (s_ob_of e83) (f170_ok e27 (d + 0)) ?_
      refine ev_iconst (mm 38 rfl) cI_0 ?_
      refine evs_istore (mm 39 rfl) (by decide) (fun lv28 l4 s29 => ?_)
      have l0 := s29 _ _ l0 rfl
      have l1 := s29 _ _ l1 rfl
      have l2 := s29 _ _ l2 rfl
      have l3 := s29 _ _ l3 rfl
      refine f176_l59_ok ?_ 100000 l0 l1 l2 l3 l4 h
      · intro M80 lv l0 l1 l2
        intro h
        refine evs_iinc (mm 92 rfl) cI_1 l2 (by decide) (fun lv81 l2 s82 => ?_)
        have l0 := s82 _ _ l0 rfl
        have l1 := s82 _ _ l1 rfl
        refine ev_goto 30 (mm 93 rfl) rfl ?_
        exact ih l0 l1 l2 h
/-- PupilCoinModel.begins(I)V -/
def f176 (x0 : Nat) (x1 : Int32) (M : vm_M) : Option (vm_M) :=
  f176_l2 x0 x1
    (fun M18 =>
      f176_l30 x0 x1
      
        100000 0 M18)
    100000 0 M
theorem f176_ok {x0 : Nat} {x1 : Int32} {M : vm_M} {r : vm_M} (h : f176 x0 x1 M = some r) (d : Nat) : vm_Cl (d + 6) 176 [.ref (x0), .int (x1)] M (rV r) := by
  have key : Ev 0 (fun _ => 0) (vm_Cl (d + 5)) vp_176 11 6 false none (rV r) 0 (lv_args 0 [.ref (x0), .int (x1)]) [] M := by
    have l0 : (0, .ref (x0)) ∈ lv_args 0 [.ref (x0), .int (x1)] := List.Mem.head _
    have l1 : (1, .int (x1)) ∈ lv_args 0 [.ref (x0), .int (x1)] := List.Mem.tail _ (List.Mem.head _)
    unfold f176 at h
    refine ev_iconst (mm 0 rfl) cI_0 ?_
    refine evs_istore_n (mm 1 rfl) (by decide) (fun lv1 l2 s2 => ?_)
    have l0 := s2 _ _ l0 rfl
    have l1 := s2 _ _ l1 rfl
    refine f176_l2_ok ?_ 100000 l0 l1 l2 h
    · intro M18 lv l0 l1
      intro h
      refine ev_iconst (mm 17 rfl) cI_0 ?_
      refine evs_istore_n (mm 18 rfl) (by decide) (fun lv19 l2 s20 => ?_)
      have l0 := s20 _ _ l0 rfl
      have l1 := s20 _ _ l1 rfl
      refine f176_l30_ok 100000 l0 l1 l2 h
  exact ⟨by decide, Nat.le_of_ble_eq_true rfl, key.1, key.2⟩
/-- PupilCoinModel.sums(II)V -/
def f177 (x0 : Nat) (x1 : Int32) (x2 : Int32) (M : vm_M) : Option (vm_M) :=
  (s_ob M x0 11).bind fun _ =>
  (f176 x0 x1 M).bind fun p1 =>
  (s_ob p1 x0 11).bind fun _ =>
  (f160 x0 x1 x2 p1).bind fun p3 =>
  (s_ob p3.2 x0 11).bind fun _ =>
  (f170 x0 x1 x2 p3.1 (-1) (-1) p3.2).bind fun p5 =>
  some p5
theorem f177_ok {x0 : Nat} {x1 : Int32} {x2 : Int32} {M : vm_M} {r : vm_M} (h : f177 x0 x1 x2 M = some r) (d : Nat) : vm_Cl (d + 7) 177 [.ref (x0), .int (x1), .int (x2)] M (rV r) := by
  have key : Ev 0 (fun _ => 0) (vm_Cl (d + 6)) vp_177 11 3 false none (rV r) 0 (lv_args 0 [.ref (x0), .int (x1), .int (x2)]) [] M := by
    have l0 : (0, .ref (x0)) ∈ lv_args 0 [.ref (x0), .int (x1), .int (x2)] := List.Mem.head _
    have l1 : (1, .int (x1)) ∈ lv_args 0 [.ref (x0), .int (x1), .int (x2)] := List.Mem.tail _ (List.Mem.head _)
    have l2 : (2, .int (x2)) ∈ lv_args 0 [.ref (x0), .int (x1), .int (x2)] := List.Mem.tail _ (List.Mem.tail _ (List.Mem.head _))
    unfold f177 at h
    refine ev_aload_nR (mm 0 rfl) l0 ?_
    refine ev_iload_n (mm 1 rfl) l1 ?_
    obtain ⟨_, e9, h⟩ := bind_so h
    obtain ⟨p1, e2, h⟩ := bind_so h
    refine ev_callV_V [.int (x1)] (mm 2 rfl) rfl rfl (Nat.le_of_ble_eq_true rfl) (s_ob_of e9) (f176_ok e2 (d + 0)) ?_
    refine ev_aload_nR (mm 3 rfl) l0 ?_
    refine ev_iload_n (mm 4 rfl) l1 ?_
    refine ev_iload_n (mm 5 rfl) l2 ?_
    refine ev_aload_nR (mm 6 rfl) l0 ?_
    refine ev_iload_n (mm 7 rfl) l1 ?_
    refine ev_iload_n (mm 8 rfl) l2 ?_
    obtain ⟨_, e8, h⟩ := bind_so h
    obtain ⟨p3, e4, h⟩ := bind_so h
    refine ev_callV_I [.int (x1), .int (x2)] (mm 9 rfl) rfl rfl (Nat.le_of_ble_eq_true rfl) (s_ob_of e8) (f160_ok e4 (d + 5)) ?_
    refine ev_iconst (mm 10 rfl) cI_m1 ?_
    refine ev_iconst (mm 11 rfl) cI_m1 ?_
    obtain ⟨_, e7, h⟩ := bind_so h
    obtain ⟨p5, e6, h⟩ := bind_so h
    refine ev_callV_V [.int (x1), .int (x2), .int (p3.1), .int ((-1)), .int ((-1))] (mm 12 rfl) rfl rfl (Nat.le_of_ble_eq_true rfl) (s_ob_of e7) (f170_ok e6 (d + 1)) ?_
    exact ev_return (mm 13 rfl) h
  exact ⟨by decide, Nat.le_of_ble_eq_true rfl, key.1, key.2⟩
/-- PupilCoinModel.sum(III)J -/
def f178 (x0 : Nat) (x1 : Int32) (x2 : Int32) (x3 : Int32) (M : vm_M) : Option (Int64 × vm_M) :=
  (s_ob M x0 11).bind fun _ =>
  (f116 x0 x1 M).bind fun p1 =>
  if p1.1 = 0 then
    some ((-2000000000000), p1.2)
  else
    (f115 x2 p1.2).bind fun p4 =>
    if p4.1 = 0 then
      some ((-2000000000000), p4.2)
    else
      (f114 x3 p4.2).bind fun p7 =>
      if ¬ p7.1 = 0 then
        (s_ob p7.2 x0 11).bind fun _ =>
        (f177 x0 x2 x3 p7.2).bind fun p10 =>
        (sg_r p10 x0 11 48).bind fun v12 =>
        (v12).bind fun q14 =>
        (sa_l p10 q14 x1).bind fun v16 =>
        some (v16, p10)
      else
        some ((-2000000000000), p7.2)
theorem f178_ok {x0 : Nat} {x1 : Int32} {x2 : Int32} {x3 : Int32} {M : vm_M} {r : Int64 × vm_M} (h : f178 x0 x1 x2 x3 M = some r) (d : Nat) : vm_Cl (d + 8) 178 [.ref (x0), .int (x1), .int (x2), .int (x3)] M (rJ r) := by
  have key : Ev 0 (fun _ => 0) (vm_Cl (d + 7)) vp_178 11 4 false (some (.long)) (rJ r) 0 (lv_args 0 [.ref (x0), .int (x1), .int (x2), .int (x3)]) [] M := by
    have l0 : (0, .ref (x0)) ∈ lv_args 0 [.ref (x0), .int (x1), .int (x2), .int (x3)] := List.Mem.head _
    have l1 : (1, .int (x1)) ∈ lv_args 0 [.ref (x0), .int (x1), .int (x2), .int (x3)] := List.Mem.tail _ (List.Mem.head _)
    have l2 : (2, .int (x2)) ∈ lv_args 0 [.ref (x0), .int (x1), .int (x2), .int (x3)] := List.Mem.tail _ (List.Mem.tail _ (List.Mem.head _))
    have l3 : (3, .int (x3)) ∈ lv_args 0 [.ref (x0), .int (x1), .int (x2), .int (x3)] := List.Mem.tail _ (List.Mem.tail _ (List.Mem.tail _ (List.Mem.head _)))
    unfold f178 at h
    refine ev_aload_nR (mm 0 rfl) l0 ?_
    refine ev_iload_n (mm 1 rfl) l1 ?_
    obtain ⟨_, e19, h⟩ := bind_so h
    obtain ⟨p1, e2, h⟩ := bind_so h
    refine ev_callV_I [.int (x1)] (mm 2 rfl) rfl rfl (Nat.le_of_ble_eq_true rfl) (s_ob_of e19) (f116_ok e2 (d + 5)) ?_
    rcases ite_so h with ⟨c3, h⟩ | ⟨c3, h⟩
    · refine ev_if_t 22 (mm 3 rfl) rfl c3 ?_
      refine ev_ldc2_w (mm 10 rfl) cJ_m2000000000000 ?_
      exact ev_lreturn (mm 11 rfl) h
    · refine ev_if_f 22 (mm 3 rfl) rfl c3 ?_
      refine ev_iload_n (mm 4 rfl) l2 ?_
      obtain ⟨p4, e5, h⟩ := bind_so h
      refine ev_callS_I [.int (x2)] (mm 5 rfl) (by decide) rfl rfl (Nat.le_of_ble_eq_true rfl) (f115_ok e5 (d + 5)) ?_
      rcases ite_so h with ⟨c6, h⟩ | ⟨c6, h⟩
      · refine ev_if_t 22 (mm 6 rfl) rfl c6 ?_
        refine ev_ldc2_w (mm 10 rfl) cJ_m2000000000000 ?_
        exact ev_lreturn (mm 11 rfl) h
      · refine ev_if_f 22 (mm 6 rfl) rfl c6 ?_
        refine ev_iload_n (mm 7 rfl) l3 ?_
        obtain ⟨p7, e8, h⟩ := bind_so h
        refine ev_callS_I [.int (x3)] (mm 8 rfl) (by decide) rfl rfl (Nat.le_of_ble_eq_true rfl) (f114_ok e8 (d + 5)) ?_
        rcases ite_so h with ⟨c9, h⟩ | ⟨c9, h⟩
        · refine ev_if_t 26 (mm 9 rfl) rfl c9 ?_
          refine ev_aload_nR (mm 12 rfl) l0 ?_
          refine ev_iload_n (mm 13 rfl) l2 ?_
          refine ev_iload_n (mm 14 rfl) l3 ?_
          obtain ⟨_, e18, h⟩ := bind_so h
          obtain ⟨p10, e11, h⟩ := bind_so h
          refine ev_callV_V [.int (x2), .int (x3)] (mm 15 rfl) rfl rfl (Nat.le_of_ble_eq_true rfl) (s_ob_of e18) (f177_ok e11 (d + 0)) ?_
          refine ev_aload_nR (mm 16 rfl) l0 ?_
          obtain ⟨v12, e13, h⟩ := bind_so h
          refine ev_get_r (mm 17 rfl) rfl e13 ?_
          refine ev_iload_n (mm 18 rfl) l1 ?_
          obtain ⟨q14, e15, h⟩ := bind_so h
          rw [e15]
          obtain ⟨v16, e17, h⟩ := bind_so h
          refine ev_laload (mm 19 rfl) e17 ?_
          exact ev_lreturn (mm 20 rfl) h
        · refine ev_if_f 26 (mm 9 rfl) rfl c9 ?_
          refine ev_ldc2_w (mm 10 rfl) cJ_m2000000000000 ?_
          exact ev_lreturn (mm 11 rfl) h
  exact ⟨by decide, Nat.le_of_ble_eq_true rfl, key.1, key.2⟩
def f179_l29 (x0 : Nat) : Nat → Int64 → Int32 → vm_M → Option (Int64 × vm_M)
  | 0 => fun _ _ _ => none
  | n + 1 => fun x3 x5 M =>
    (sg_i M x0 11 1).bind fun v13 =>
    if v13 ≤ x5 then
      some (x3, M)
    else
      (sg_r M x0 11 48).bind fun v16 =>
      (v16).bind fun q18 =>
      (sa_l M q18 x5).bind fun v20 =>
      f179_l29 x0 n (x3 + v20) (x5 + 1) M
theorem f179_l29_ok {d : Nat} {x0 : Nat} {r : Int64 × vm_M} : ∀ (n : Nat) {x3 : Int64} {x5 : Int32} {M : vm_M} {lv : vm_L}, (0, .ref (x0)) ∈ lv → (3, .long (x3)) ∈ lv → (5, .int (x5)) ∈ lv → f179_l29 x0 n x3 x5 M = some r → Ev 0 (fun _ => 0) (vm_Cl (d + 7)) vp_179 11 6 false (some (.long)) (rJ r) 29 lv [] M := by
  intro n
  induction n with
  | zero =>
    intro x3 x5 M lv l0 l3 l5 h
    cases h
  | succ n ih =>
    intro x3 x5 M lv l0 l3 l5 h
    dsimp only [f179_l29] at h
    refine ev_iload (mm 16 rfl) l5 ?_
    refine ev_aload_nR (mm 17 rfl) l0 ?_
    obtain ⟨v13, e14, h⟩ := bind_so h
    refine ev_get_i (mm 18 rfl) rfl e14 ?_
    rcases ite_so h with ⟨c15, h⟩ | ⟨c15, h⟩
    · refine ev_ic_t 54 (mm 19 rfl) rfl c15 ?_
      refine ev_lload_n (mm 29 rfl) l3 ?_
      exact ev_lreturn (mm 30 rfl) h
    · refine ev_ic_f 54 (mm 19 rfl) rfl c15 ?_
      refine ev_lload_n (mm 20 rfl) l3 ?_
      refine ev_aload_nR (mm 21 rfl) l0 ?_
      obtain ⟨v16, e17, h⟩ := bind_so h
      refine ev_get_r (mm 22 rfl) rfl e17 ?_
      refine ev_iload (mm 23 rfl) l5 ?_
      obtain ⟨q18, e19, h⟩ := bind_so h
      rw [e19]
      obtain ⟨v20, e21, h⟩ := bind_so h
      refine ev_laload (mm 24 rfl) e21 ?_
      refine ev_ladd (mm 25 rfl) ?_
      refine evs_lstore_n (mm 26 rfl) (by decide) (fun lv22 l3 s23 => ?_)
      have l0 := s23 _ _ l0 rfl
      have l5 := s23 _ _ l5 rfl
      refine evs_iinc (mm 27 rfl) cI_1 l5 (by decide) (fun lv24 l5 s25 => ?_)
      have l0 := s25 _ _ l0 rfl
      have l3 := s25 _ _ l3 rfl
      refine ev_goto 29 (mm 28 rfl) rfl ?_
      exact ih l0 l3 l5 h
/-- PupilCoinModel.all(II)J -/
def f179 (x0 : Nat) (x1 : Int32) (x2 : Int32) (M : vm_M) : Option (Int64 × vm_M) :=
  (f115 x1 M).bind fun p1 =>
  if p1.1 = 0 then
    some ((-2000000000000), p1.2)
  else
    (f114 x2 p1.2).bind fun p4 =>
    if ¬ p4.1 = 0 then
      (s_ob p4.2 x0 11).bind fun _ =>
      (f177 x0 x1 x2 p4.2).bind fun p7 =>
      f179_l29 x0
      
        100000 0 0 p7
    else
      some ((-2000000000000), p4.2)
theorem f179_ok {x0 : Nat} {x1 : Int32} {x2 : Int32} {M : vm_M} {r : Int64 × vm_M} (h : f179 x0 x1 x2 M = some r) (d : Nat) : vm_Cl (d + 8) 179 [.ref (x0), .int (x1), .int (x2)] M (rJ r) := by
  have key : Ev 0 (fun _ => 0) (vm_Cl (d + 7)) vp_179 11 6 false (some (.long)) (rJ r) 0 (lv_args 0 [.ref (x0), .int (x1), .int (x2)]) [] M := by
    have l0 : (0, .ref (x0)) ∈ lv_args 0 [.ref (x0), .int (x1), .int (x2)] := List.Mem.head _
    have l1 : (1, .int (x1)) ∈ lv_args 0 [.ref (x0), .int (x1), .int (x2)] := List.Mem.tail _ (List.Mem.head _)
    have l2 : (2, .int (x2)) ∈ lv_args 0 [.ref (x0), .int (x1), .int (x2)] := List.Mem.tail _ (List.Mem.tail _ (List.Mem.head _))
    unfold f179 at h
    refine ev_iload_n (mm 0 rfl) l1 ?_
    obtain ⟨p1, e2, h⟩ := bind_so h
    refine ev_callS_I [.int (x1)] (mm 1 rfl) (by decide) rfl rfl (Nat.le_of_ble_eq_true rfl) (f115_ok e2 (d + 5)) ?_
    rcases ite_so h with ⟨c3, h⟩ | ⟨c3, h⟩
    · refine ev_if_t 14 (mm 2 rfl) rfl c3 ?_
      refine ev_ldc2_w (mm 6 rfl) cJ_m2000000000000 ?_
      exact ev_lreturn (mm 7 rfl) h
    · refine ev_if_f 14 (mm 2 rfl) rfl c3 ?_
      refine ev_iload_n (mm 3 rfl) l2 ?_
      obtain ⟨p4, e5, h⟩ := bind_so h
      refine ev_callS_I [.int (x2)] (mm 4 rfl) (by decide) rfl rfl (Nat.le_of_ble_eq_true rfl) (f114_ok e5 (d + 5)) ?_
      rcases ite_so h with ⟨c6, h⟩ | ⟨c6, h⟩
      · refine ev_if_t 18 (mm 5 rfl) rfl c6 ?_
        refine ev_aload_nR (mm 8 rfl) l0 ?_
        refine ev_iload_n (mm 9 rfl) l1 ?_
        refine ev_iload_n (mm 10 rfl) l2 ?_
        obtain ⟨_, e26, h⟩ := bind_so h
        obtain ⟨p7, e8, h⟩ := bind_so h
        refine ev_callV_V [.int (x1), .int (x2)] (mm 11 rfl) rfl rfl (Nat.le_of_ble_eq_true rfl) (s_ob_of e26) (f177_ok e8 (d + 0)) ?_
        refine ev_lconst (mm 12 rfl) cL_0 ?_
        refine evs_lstore_n (mm 13 rfl) (by decide) (fun lv9 l3 s10 => ?_)
        have l0 := s10 _ _ l0 rfl
        refine ev_iconst (mm 14 rfl) cI_0 ?_
        refine evs_istore (mm 15 rfl) (by decide) (fun lv11 l5 s12 => ?_)
        have l0 := s12 _ _ l0 rfl
        have l3 := s12 _ _ l3 rfl
        refine f179_l29_ok 100000 l0 l3 l5 h
      · refine ev_if_f 18 (mm 5 rfl) rfl c6 ?_
        refine ev_ldc2_w (mm 6 rfl) cJ_m2000000000000 ?_
        exact ev_lreturn (mm 7 rfl) h
  exact ⟨by decide, Nat.le_of_ble_eq_true rfl, key.1, key.2⟩
