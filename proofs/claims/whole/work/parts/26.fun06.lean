/-! shallow functions, by program (wip/gen_fun.py) -/
/-- PupilCoinModel.isIn(III)Z -/
def f112 (x0 : Int32) (x1 : Int32) (x2 : Int32) (M : vm_M) : Option (Int32 × vm_M) :=
  if x0 < x1 then
    s_rb 0 M
  else
    if x2 < x0 then
      s_rb 0 M
    else
      s_rb 1 M
theorem f112_ok {x0 : Int32} {x1 : Int32} {x2 : Int32} {M : vm_M} {r : Int32 × vm_M} (h : f112 x0 x1 x2 M = some r) (d : Nat) : vm_Cl (d + 1) 112 [.int (x0), .int (x1), .int (x2)] M (rI r) := by
  have key : Ev 0 (fun _ => 0) (vm_Cl (d + 0)) vp_112 11 3 false (some (.boolean)) (rI r) 0 (lv_args 0 [.int (x0), .int (x1), .int (x2)]) [] M := by
    have l0 : (0, .int (x0)) ∈ lv_args 0 [.int (x0), .int (x1), .int (x2)] := List.Mem.head _
    have l1 : (1, .int (x1)) ∈ lv_args 0 [.int (x0), .int (x1), .int (x2)] := List.Mem.tail _ (List.Mem.head _)
    have l2 : (2, .int (x2)) ∈ lv_args 0 [.int (x0), .int (x1), .int (x2)] := List.Mem.tail _ (List.Mem.tail _ (List.Mem.head _))
    unfold f112 at h
    refine ev_iload_n (mm 0 rfl) l0 ?_
    refine ev_iload_n (mm 1 rfl) l1 ?_
    rcases ite_so h with ⟨c1, h⟩ | ⟨c1, h⟩
    · refine ev_ic_t 14 (mm 2 rfl) rfl c1 ?_
      refine ev_iconst (mm 8 rfl) cI_0 ?_
      exact ev_zreturn (mm 9 rfl) h
    · refine ev_ic_f 14 (mm 2 rfl) rfl c1 ?_
      refine ev_iload_n (mm 3 rfl) l0 ?_
      refine ev_iload_n (mm 4 rfl) l2 ?_
      rcases ite_so h with ⟨c2, h⟩ | ⟨c2, h⟩
      · refine ev_ic_t 14 (mm 5 rfl) rfl c2 ?_
        refine ev_iconst (mm 8 rfl) cI_0 ?_
        exact ev_zreturn (mm 9 rfl) h
      · refine ev_ic_f 14 (mm 5 rfl) rfl c2 ?_
        refine ev_iconst (mm 6 rfl) cI_1 ?_
        refine ev_goto 15 (mm 7 rfl) rfl ?_
        exact ev_zreturn (mm 9 rfl) h
  exact ⟨by decide, Nat.le_of_ble_eq_true rfl, key.1, key.2⟩
/-- PupilCoinModel.one(Z)I -/
def f113 (x0 : Int32) (M : vm_M) : Option (Int32 × vm_M) :=
  if x0 = 0 then
    some (0, M)
  else
    some (1, M)
theorem f113_ok {x0 : Int32} {M : vm_M} {r : Int32 × vm_M} (h : f113 x0 M = some r) (d : Nat) : vm_Cl (d + 1) 113 [.int (x0)] M (rI r) := by
  have key : Ev 0 (fun _ => 0) (vm_Cl (d + 0)) vp_113 11 1 false (some (.int)) (rI r) 0 (lv_args 0 [.int (x0)]) [] M := by
    have l0 : (0, .int (x0)) ∈ lv_args 0 [.int (x0)] := List.Mem.head _
    unfold f113 at h
    refine ev_iload_n (mm 0 rfl) l0 ?_
    rcases ite_so h with ⟨c1, h⟩ | ⟨c1, h⟩
    · refine ev_if_t 8 (mm 1 rfl) rfl c1 ?_
      refine ev_iconst (mm 4 rfl) cI_0 ?_
      exact ev_ireturn (mm 5 rfl) h
    · refine ev_if_f 8 (mm 1 rfl) rfl c1 ?_
      refine ev_iconst (mm 2 rfl) cI_1 ?_
      refine ev_goto 9 (mm 3 rfl) rfl ?_
      exact ev_ireturn (mm 5 rfl) h
  exact ⟨by decide, Nat.le_of_ble_eq_true rfl, key.1, key.2⟩
/-- PupilCoinModel.isDay(I)Z -/
def f114 (x0 : Int32) (M : vm_M) : Option (Int32 × vm_M) :=
  (f112 x0 0 999 M).bind fun p1 =>
  s_rb p1.1 p1.2
theorem f114_ok {x0 : Int32} {M : vm_M} {r : Int32 × vm_M} (h : f114 x0 M = some r) (d : Nat) : vm_Cl (d + 2) 114 [.int (x0)] M (rI r) := by
  have key : Ev 0 (fun _ => 0) (vm_Cl (d + 1)) vp_114 11 1 false (some (.boolean)) (rI r) 0 (lv_args 0 [.int (x0)]) [] M := by
    have l0 : (0, .int (x0)) ∈ lv_args 0 [.int (x0)] := List.Mem.head _
    unfold f114 at h
    refine ev_iload_n (mm 0 rfl) l0 ?_
    refine ev_iconst (mm 1 rfl) cI_0 ?_
    refine ev_sipush (mm 2 rfl) cS_999 ?_
    obtain ⟨p1, e2, h⟩ := bind_so h
    refine ev_callS_I [.int (x0), .int (0), .int (999)] (mm 3 rfl) (by decide) rfl rfl (Nat.le_of_ble_eq_true rfl) (f112_ok e2 (d + 0)) ?_
    exact ev_zreturn (mm 4 rfl) h
  exact ⟨by decide, Nat.le_of_ble_eq_true rfl, key.1, key.2⟩
/-- PupilCoinModel.isYear(I)Z -/
def f115 (x0 : Int32) (M : vm_M) : Option (Int32 × vm_M) :=
  (f112 x0 0 9 M).bind fun p1 =>
  s_rb p1.1 p1.2
theorem f115_ok {x0 : Int32} {M : vm_M} {r : Int32 × vm_M} (h : f115 x0 M = some r) (d : Nat) : vm_Cl (d + 2) 115 [.int (x0)] M (rI r) := by
  have key : Ev 0 (fun _ => 0) (vm_Cl (d + 1)) vp_115 11 1 false (some (.boolean)) (rI r) 0 (lv_args 0 [.int (x0)]) [] M := by
    have l0 : (0, .int (x0)) ∈ lv_args 0 [.int (x0)] := List.Mem.head _
    unfold f115 at h
    refine ev_iload_n (mm 0 rfl) l0 ?_
    refine ev_iconst (mm 1 rfl) cI_0 ?_
    refine ev_bipush (mm 2 rfl) cB_9 ?_
    obtain ⟨p1, e2, h⟩ := bind_so h
    refine ev_callS_I [.int (x0), .int (0), .int (9)] (mm 3 rfl) (by decide) rfl rfl (Nat.le_of_ble_eq_true rfl) (f112_ok e2 (d + 0)) ?_
    exact ev_zreturn (mm 4 rfl) h
  exact ⟨by decide, Nat.le_of_ble_eq_true rfl, key.1, key.2⟩
/-- PupilCoinModel.isSchool(I)Z -/
def f116 (x0 : Nat) (x1 : Int32) (M : vm_M) : Option (Int32 × vm_M) :=
  (sg_i M x0 11 1).bind fun v1 =>
  (f112 x1 0 (v1 - 1) M).bind fun p3 =>
  s_rb p3.1 p3.2
theorem f116_ok {x0 : Nat} {x1 : Int32} {M : vm_M} {r : Int32 × vm_M} (h : f116 x0 x1 M = some r) (d : Nat) : vm_Cl (d + 2) 116 [.ref (x0), .int (x1)] M (rI r) := by
  have key : Ev 0 (fun _ => 0) (vm_Cl (d + 1)) vp_116 11 2 false (some (.boolean)) (rI r) 0 (lv_args 0 [.ref (x0), .int (x1)]) [] M := by
    have l0 : (0, .ref (x0)) ∈ lv_args 0 [.ref (x0), .int (x1)] := List.Mem.head _
    have l1 : (1, .int (x1)) ∈ lv_args 0 [.ref (x0), .int (x1)] := List.Mem.tail _ (List.Mem.head _)
    unfold f116 at h
    refine ev_iload_n (mm 0 rfl) l1 ?_
    refine ev_iconst (mm 1 rfl) cI_0 ?_
    refine ev_aload_nR (mm 2 rfl) l0 ?_
    obtain ⟨v1, e2, h⟩ := bind_so h
    refine ev_get_i (mm 3 rfl) rfl e2 ?_
    refine ev_iconst (mm 4 rfl) cI_1 ?_
    refine ev_isub (mm 5 rfl) ?_
    obtain ⟨p3, e4, h⟩ := bind_so h
    refine ev_callS_I [.int (x1), .int (0), .int ((v1 - 1))] (mm 6 rfl) (by decide) rfl rfl (Nat.le_of_ble_eq_true rfl) (f112_ok e4 (d + 0)) ?_
    exact ev_zreturn (mm 7 rfl) h
  exact ⟨by decide, Nat.le_of_ble_eq_true rfl, key.1, key.2⟩
/-- PupilCoinModel.day(I)Z -/
def f117 (x0 : Nat) (x1 : Int32) (M : vm_M) : Option (Int32 × vm_M) :=
  (sg_i M x0 11 0).bind fun v1 =>
  if x1 ≤ v1 then
    s_rb 0 M
  else
    if x1 ≤ 999 then
      (sp_i M x0 11 0 x1).bind fun M5 =>
      s_rb 1 M5
    else
      s_rb 0 M
theorem f117_ok {x0 : Nat} {x1 : Int32} {M : vm_M} {r : Int32 × vm_M} (h : f117 x0 x1 M = some r) (d : Nat) : vm_Cl (d + 1) 117 [.ref (x0), .int (x1)] M (rI r) := by
  have key : Ev 0 (fun _ => 0) (vm_Cl (d + 0)) vp_117 11 2 false (some (.boolean)) (rI r) 0 (lv_args 0 [.ref (x0), .int (x1)]) [] M := by
    have l0 : (0, .ref (x0)) ∈ lv_args 0 [.ref (x0), .int (x1)] := List.Mem.head _
    have l1 : (1, .int (x1)) ∈ lv_args 0 [.ref (x0), .int (x1)] := List.Mem.tail _ (List.Mem.head _)
    unfold f117 at h
    refine ev_iload_n (mm 0 rfl) l1 ?_
    refine ev_aload_nR (mm 1 rfl) l0 ?_
    obtain ⟨v1, e2, h⟩ := bind_so h
    refine ev_get_i (mm 2 rfl) rfl e2 ?_
    rcases ite_so h with ⟨c3, h⟩ | ⟨c3, h⟩
    · refine ev_ic_t 15 (mm 3 rfl) rfl c3 ?_
      refine ev_iconst (mm 7 rfl) cI_0 ?_
      exact ev_zreturn (mm 8 rfl) h
    · refine ev_ic_f 15 (mm 3 rfl) rfl c3 ?_
      refine ev_iload_n (mm 4 rfl) l1 ?_
      refine ev_sipush (mm 5 rfl) cS_999 ?_
      rcases ite_so h with ⟨c4, h⟩ | ⟨c4, h⟩
      · refine ev_ic_t 17 (mm 6 rfl) rfl c4 ?_
        refine ev_aload_nR (mm 9 rfl) l0 ?_
        refine ev_iload_n (mm 10 rfl) l1 ?_
        obtain ⟨M5, e6, h⟩ := bind_so h
        refine ev_put_i (mm 11 rfl) (fun z => by cases z) rfl e6 ?_
        refine ev_iconst (mm 12 rfl) cI_1 ?_
        exact ev_zreturn (mm 13 rfl) h
      · refine ev_ic_f 17 (mm 6 rfl) rfl c4 ?_
        refine ev_iconst (mm 7 rfl) cI_0 ?_
        exact ev_zreturn (mm 8 rfl) h
  exact ⟨by decide, Nat.le_of_ble_eq_true rfl, key.1, key.2⟩
/-- PupilCoinModel.yearNow()I -/
def f118 (x0 : Nat) (M : vm_M) : Option (Int32 × vm_M) :=
  (sg_i M x0 11 0).bind fun v1 =>
  (s_dv v1 100).bind fun v3 =>
  some (v3, M)
theorem f118_ok {x0 : Nat} {M : vm_M} {r : Int32 × vm_M} (h : f118 x0 M = some r) (d : Nat) : vm_Cl (d + 1) 118 [.ref (x0)] M (rI r) := by
  have key : Ev 0 (fun _ => 0) (vm_Cl (d + 0)) vp_118 11 1 false (some (.int)) (rI r) 0 (lv_args 0 [.ref (x0)]) [] M := by
    have l0 : (0, .ref (x0)) ∈ lv_args 0 [.ref (x0)] := List.Mem.head _
    unfold f118 at h
    refine ev_aload_nR (mm 0 rfl) l0 ?_
    obtain ⟨v1, e2, h⟩ := bind_so h
    refine ev_get_i (mm 1 rfl) rfl e2 ?_
    refine ev_bipush (mm 2 rfl) cB_100 ?_
    obtain ⟨v3, e4, h⟩ := bind_so h
    refine ev_idiv (mm 3 rfl) e4 ?_
    exact ev_ireturn (mm 4 rfl) h
  exact ⟨by decide, Nat.le_of_ble_eq_true rfl, key.1, key.2⟩
/-- PupilCoinModel.school(III)I -/
def f119 (x0 : Nat) (x1 : Int32) (x2 : Int32) (x3 : Int32) (M : vm_M) : Option (Int32 × vm_M) :=
  (f112 x1 0 7 M).bind fun p1 =>
  if p1.1 = 0 then
    some ((-1), p1.2)
  else
    (f112 x2 0 2 p1.2).bind fun p4 =>
    if p4.1 = 0 then
      some ((-1), p4.2)
    else
      (f112 x3 0 15 p4.2).bind fun p7 =>
      if p7.1 = 0 then
        some ((-1), p7.2)
      else
        (sg_i p7.2 x0 11 1).bind fun v10 =>
        if ¬ v10 = 12 then
          (sg_r p7.2 x0 11 4).bind fun v13 =>
          (sg_i p7.2 x0 11 1).bind fun v15 =>
          (v13).bind fun q17 =>
          (ss_i p7.2 q17 0 v15 x1).bind fun M19 =>
          (sg_r M19 x0 11 5).bind fun v21 =>
          (sg_i M19 x0 11 1).bind fun v23 =>
          (v21).bind fun q25 =>
          (ss_i M19 q25 0 v23 x2).bind fun M27 =>
          (sg_r M27 x0 11 6).bind fun v29 =>
          (sg_i M27 x0 11 1).bind fun v31 =>
          (v29).bind fun q33 =>
          (ss_i M27 q33 0 v31 x3).bind fun M35 =>
          (sg_r M35 x0 11 14).bind fun v37 =>
          (sg_i M35 x0 11 1).bind fun v39 =>
          (v37).bind fun q41 =>
          (ss_i M35 q41 0 v39 (-1)).bind fun M43 =>
          (sg_r M43 x0 11 15).bind fun v45 =>
          (sg_i M43 x0 11 1).bind fun v47 =>
          (v45).bind fun q49 =>
          (ss_i M43 q49 0 v47 10).bind fun M51 =>
          (sg_i M51 x0 11 1).bind fun v53 =>
          (sp_i M51 x0 11 1 (v53 + 1)).bind fun M55 =>
          (sg_i M55 x0 11 1).bind fun v57 =>
          some ((v57 - 1), M55)
        else
          some ((-1), p7.2)
theorem f119_ok {x0 : Nat} {x1 : Int32} {x2 : Int32} {x3 : Int32} {M : vm_M} {r : Int32 × vm_M} (h : f119 x0 x1 x2 x3 M = some r) (d : Nat) : vm_Cl (d + 2) 119 [.ref (x0), .int (x1), .int (x2), .int (x3)] M (rI r) := by
  have key : Ev 0 (fun _ => 0) (vm_Cl (d + 1)) vp_119 11 4 false (some (.int)) (rI r) 0 (lv_args 0 [.ref (x0), .int (x1), .int (x2), .int (x3)]) [] M := by
    have l0 : (0, .ref (x0)) ∈ lv_args 0 [.ref (x0), .int (x1), .int (x2), .int (x3)] := List.Mem.head _
    have l1 : (1, .int (x1)) ∈ lv_args 0 [.ref (x0), .int (x1), .int (x2), .int (x3)] := List.Mem.tail _ (List.Mem.head _)
    have l2 : (2, .int (x2)) ∈ lv_args 0 [.ref (x0), .int (x1), .int (x2), .int (x3)] := List.Mem.tail _ (List.Mem.tail _ (List.Mem.head _))
    have l3 : (3, .int (x3)) ∈ lv_args 0 [.ref (x0), .int (x1), .int (x2), .int (x3)] := List.Mem.tail _ (List.Mem.tail _ (List.Mem.tail _ (List.Mem.head _)))
    unfold f119 at h
    refine ev_iload_n (mm 0 rfl) l1 ?_
    refine ev_iconst (mm 1 rfl) cI_0 ?_
    refine ev_bipush (mm 2 rfl) cB_7 ?_
    obtain ⟨p1, e2, h⟩ := bind_so h
    refine ev_callS_I [.int (x1), .int (0), .int (7)] (mm 3 rfl) (by decide) rfl rfl (Nat.le_of_ble_eq_true rfl) (f112_ok e2 (d + 0)) ?_
    rcases ite_so h with ⟨c3, h⟩ | ⟨c3, h⟩
    · refine ev_if_t 38 (mm 4 rfl) rfl c3 ?_
      refine ev_iconst (mm 19 rfl) cI_m1 ?_
      exact ev_ireturn (mm 20 rfl) h
    · refine ev_if_f 38 (mm 4 rfl) rfl c3 ?_
      refine ev_iload_n (mm 5 rfl) l2 ?_
      refine ev_iconst (mm 6 rfl) cI_0 ?_
      refine ev_iconst (mm 7 rfl) cI_2 ?_
      obtain ⟨p4, e5, h⟩ := bind_so h
      refine ev_callS_I [.int (x2), .int (0), .int (2)] (mm 8 rfl) (by decide) rfl rfl (Nat.le_of_ble_eq_true rfl) (f112_ok e5 (d + 0)) ?_
      rcases ite_so h with ⟨c6, h⟩ | ⟨c6, h⟩
      · refine ev_if_t 38 (mm 9 rfl) rfl c6 ?_
        refine ev_iconst (mm 19 rfl) cI_m1 ?_
        exact ev_ireturn (mm 20 rfl) h
      · refine ev_if_f 38 (mm 9 rfl) rfl c6 ?_
        refine ev_iload_n (mm 10 rfl) l3 ?_
        refine ev_iconst (mm 11 rfl) cI_0 ?_
        refine ev_bipush (mm 12 rfl) cB_15 ?_
        obtain ⟨p7, e8, h⟩ := bind_so h
        refine ev_callS_I [.int (x3), .int (0), .int (15)] (mm 13 rfl) (by decide) rfl rfl (Nat.le_of_ble_eq_true rfl) (f112_ok e8 (d + 0)) ?_
        rcases ite_so h with ⟨c9, h⟩ | ⟨c9, h⟩
        · refine ev_if_t 38 (mm 14 rfl) rfl c9 ?_
          refine ev_iconst (mm 19 rfl) cI_m1 ?_
          exact ev_ireturn (mm 20 rfl) h
        · refine ev_if_f 38 (mm 14 rfl) rfl c9 ?_
          refine ev_aload_nR (mm 15 rfl) l0 ?_
          obtain ⟨v10, e11, h⟩ := bind_so h
          refine ev_get_i (mm 16 rfl) rfl e11 ?_
          refine ev_bipush (mm 17 rfl) cB_12 ?_
          rcases ite_so h with ⟨c12, h⟩ | ⟨c12, h⟩
          · refine ev_ic_t 40 (mm 18 rfl) rfl c12 ?_
            refine ev_aload_nR (mm 21 rfl) l0 ?_
            obtain ⟨v13, e14, h⟩ := bind_so h
            refine ev_get_r (mm 22 rfl) rfl e14 ?_
            refine ev_aload_nR (mm 23 rfl) l0 ?_
            obtain ⟨v15, e16, h⟩ := bind_so h
            refine ev_get_i (mm 24 rfl) rfl e16 ?_
            refine ev_iload_n (mm 25 rfl) l1 ?_
            obtain ⟨q17, e18, h⟩ := bind_so h
            rw [e18]
            obtain ⟨M19, e20, h⟩ := bind_so h
            refine ev_iastore (mm 26 rfl) e20 ?_
            refine ev_aload_nR (mm 27 rfl) l0 ?_
            obtain ⟨v21, e22, h⟩ := bind_so h
            refine ev_get_r (mm 28 rfl) rfl e22 ?_
            refine ev_aload_nR (mm 29 rfl) l0 ?_
            obtain ⟨v23, e24, h⟩ := bind_so h
            refine ev_get_i (mm 30 rfl) rfl e24 ?_
            refine ev_iload_n (mm 31 rfl) l2 ?_
            obtain ⟨q25, e26, h⟩ := bind_so h
            rw [e26]
            obtain ⟨M27, e28, h⟩ := bind_so h
            refine ev_iastore (mm 32 rfl) e28 ?_
            refine ev_aload_nR (mm 33 rfl) l0 ?_
            obtain ⟨v29, e30, h⟩ := bind_so h
            refine ev_get_r (mm 34 rfl) rfl e30 ?_
            refine ev_aload_nR (mm 35 rfl) l0 ?_
            obtain ⟨v31, e32, h⟩ := bind_so h
            refine ev_get_i (mm 36 rfl) rfl e32 ?_
            refine ev_iload_n (mm 37 rfl) l3 ?_
            obtain ⟨q33, e34, h⟩ := bind_so h
            rw [e34]
            obtain ⟨M35, e36, h⟩ := bind_so h
            refine ev_iastore (mm 38 rfl) e36 ?_
            refine ev_aload_nR (mm 39 rfl) l0 ?_
            obtain ⟨v37, e38, h⟩ := bind_so h
            refine ev_get_r (mm 40 rfl) rfl e38 ?_
            refine ev_aload_nR (mm 41 rfl) l0 ?_
            obtain ⟨v39, e40, h⟩ := bind_so h
            refine ev_get_i (mm 42 rfl) rfl e40 ?_
            refine ev_iconst (mm 43 rfl) cI_m1 ?_
            obtain ⟨q41, e42, h⟩ := bind_so h
            rw [e42]
            obtain ⟨M43, e44, h⟩ := bind_so h
            refine ev_iastore (mm 44 rfl) e44 ?_
            refine ev_aload_nR (mm 45 rfl) l0 ?_
            obtain ⟨v45, e46, h⟩ := bind_so h
            refine ev_get_r (mm 46 rfl) rfl e46 ?_
            refine ev_aload_nR (mm 47 rfl) l0 ?_
            obtain ⟨v47, e48, h⟩ := bind_so h
            refine ev_get_i (mm 48 rfl) rfl e48 ?_
            refine ev_bipush (mm 49 rfl) cB_10 ?_
            obtain ⟨q49, e50, h⟩ := bind_so h
            rw [e50]
            obtain ⟨M51, e52, h⟩ := bind_so h
            refine ev_iastore (mm 50 rfl) e52 ?_
            refine ev_aload_nR (mm 51 rfl) l0 ?_
            refine ev_dupR (mm 52 rfl) ?_
            obtain ⟨v53, e54, h⟩ := bind_so h
            refine ev_get_i (mm 53 rfl) rfl e54 ?_
            refine ev_iconst (mm 54 rfl) cI_1 ?_
            refine ev_iadd (mm 55 rfl) ?_
            obtain ⟨M55, e56, h⟩ := bind_so h
            refine ev_put_i (mm 56 rfl) (fun z => by cases z) rfl e56 ?_
            refine ev_aload_nR (mm 57 rfl) l0 ?_
            obtain ⟨v57, e58, h⟩ := bind_so h
            refine ev_get_i (mm 58 rfl) rfl e58 ?_
            refine ev_iconst (mm 59 rfl) cI_1 ?_
            refine ev_isub (mm 60 rfl) ?_
            exact ev_ireturn (mm 61 rfl) h
          · refine ev_ic_f 40 (mm 18 rfl) rfl c12 ?_
            refine ev_iconst (mm 19 rfl) cI_m1 ?_
            exact ev_ireturn (mm 20 rfl) h
  exact ⟨by decide, Nat.le_of_ble_eq_true rfl, key.1, key.2⟩
/-- PupilCoinModel.need(II)Z -/
def f120 (x0 : Nat) (x1 : Int32) (x2 : Int32) (M : vm_M) : Option (Int32 × vm_M) :=
  (f112 x1 0 7 M).bind fun p1 =>
  if p1.1 = 0 then
    s_rb 0 p1.2
  else
    (f112 x2 0 100 p1.2).bind fun p4 =>
    if ¬ p4.1 = 0 then
      (sg_r p4.2 x0 11 7).bind fun v7 =>
      (v7).bind fun q9 =>
      (ss_i p4.2 q9 0 x1 x2).bind fun M11 =>
      s_rb 1 M11
    else
      s_rb 0 p4.2
theorem f120_ok {x0 : Nat} {x1 : Int32} {x2 : Int32} {M : vm_M} {r : Int32 × vm_M} (h : f120 x0 x1 x2 M = some r) (d : Nat) : vm_Cl (d + 2) 120 [.ref (x0), .int (x1), .int (x2)] M (rI r) := by
  have key : Ev 0 (fun _ => 0) (vm_Cl (d + 1)) vp_120 11 3 false (some (.boolean)) (rI r) 0 (lv_args 0 [.ref (x0), .int (x1), .int (x2)]) [] M := by
    have l0 : (0, .ref (x0)) ∈ lv_args 0 [.ref (x0), .int (x1), .int (x2)] := List.Mem.head _
    have l1 : (1, .int (x1)) ∈ lv_args 0 [.ref (x0), .int (x1), .int (x2)] := List.Mem.tail _ (List.Mem.head _)
    have l2 : (2, .int (x2)) ∈ lv_args 0 [.ref (x0), .int (x1), .int (x2)] := List.Mem.tail _ (List.Mem.tail _ (List.Mem.head _))
    unfold f120 at h
    refine ev_iload_n (mm 0 rfl) l1 ?_
    refine ev_iconst (mm 1 rfl) cI_0 ?_
    refine ev_bipush (mm 2 rfl) cB_7 ?_
    obtain ⟨p1, e2, h⟩ := bind_so h
    refine ev_callS_I [.int (x1), .int (0), .int (7)] (mm 3 rfl) (by decide) rfl rfl (Nat.le_of_ble_eq_true rfl) (f112_ok e2 (d + 0)) ?_
    rcases ite_so h with ⟨c3, h⟩ | ⟨c3, h⟩
    · refine ev_if_t 20 (mm 4 rfl) rfl c3 ?_
      refine ev_iconst (mm 10 rfl) cI_0 ?_
      exact ev_zreturn (mm 11 rfl) h
    · refine ev_if_f 20 (mm 4 rfl) rfl c3 ?_
      refine ev_iload_n (mm 5 rfl) l2 ?_
      refine ev_iconst (mm 6 rfl) cI_0 ?_
      refine ev_bipush (mm 7 rfl) cB_100 ?_
      obtain ⟨p4, e5, h⟩ := bind_so h
      refine ev_callS_I [.int (x2), .int (0), .int (100)] (mm 8 rfl) (by decide) rfl rfl (Nat.le_of_ble_eq_true rfl) (f112_ok e5 (d + 0)) ?_
      rcases ite_so h with ⟨c6, h⟩ | ⟨c6, h⟩
      · refine ev_if_t 22 (mm 9 rfl) rfl c6 ?_
        refine ev_aload_nR (mm 12 rfl) l0 ?_
        obtain ⟨v7, e8, h⟩ := bind_so h
        refine ev_get_r (mm 13 rfl) rfl e8 ?_
        refine ev_iload_n (mm 14 rfl) l1 ?_
        refine ev_iload_n (mm 15 rfl) l2 ?_
        obtain ⟨q9, e10, h⟩ := bind_so h
        rw [e10]
        obtain ⟨M11, e12, h⟩ := bind_so h
        refine ev_iastore (mm 16 rfl) e12 ?_
        refine ev_iconst (mm 17 rfl) cI_1 ?_
        exact ev_zreturn (mm 18 rfl) h
      · refine ev_if_f 22 (mm 9 rfl) rfl c6 ?_
        refine ev_iconst (mm 10 rfl) cI_0 ?_
        exact ev_zreturn (mm 11 rfl) h
  exact ⟨by decide, Nat.le_of_ble_eq_true rfl, key.1, key.2⟩
/-- PupilCoinModel.road(III)Z -/
def f121 (x0 : Nat) (x1 : Int32) (x2 : Int32) (x3 : Int32) (M : vm_M) : Option (Int32 × vm_M) :=
  (f112 x1 0 15 M).bind fun p1 =>
  if p1.1 = 0 then
    s_rb 0 p1.2
  else
    (f112 x2 0 15 p1.2).bind fun p4 =>
    if p4.1 = 0 then
      s_rb 0 p4.2
    else
      if x1 = x2 then
        s_rb 0 p4.2
      else
        (f112 x3 0 999 p4.2).bind fun p8 =>
        if ¬ p8.1 = 0 then
          (sg_r p8.2 x0 11 8).bind fun v11 =>
          (v11).bind fun q13 =>
          (ss_i p8.2 q13 0 ((16 * x1) + x2) x3).bind fun M15 =>
          (sg_r M15 x0 11 8).bind fun v17 =>
          (v17).bind fun q19 =>
          (ss_i M15 q19 0 ((16 * x2) + x1) x3).bind fun M21 =>
          s_rb 1 M21
        else
          s_rb 0 p8.2
theorem f121_ok {x0 : Nat} {x1 : Int32} {x2 : Int32} {x3 : Int32} {M : vm_M} {r : Int32 × vm_M} (h : f121 x0 x1 x2 x3 M = some r) (d : Nat) : vm_Cl (d + 2) 121 [.ref (x0), .int (x1), .int (x2), .int (x3)] M (rI r) := by
  have key : Ev 0 (fun _ => 0) (vm_Cl (d + 1)) vp_121 11 4 false (some (.boolean)) (rI r) 0 (lv_args 0 [.ref (x0), .int (x1), .int (x2), .int (x3)]) [] M := by
    have l0 : (0, .ref (x0)) ∈ lv_args 0 [.ref (x0), .int (x1), .int (x2), .int (x3)] := List.Mem.head _
    have l1 : (1, .int (x1)) ∈ lv_args 0 [.ref (x0), .int (x1), .int (x2), .int (x3)] := List.Mem.tail _ (List.Mem.head _)
    have l2 : (2, .int (x2)) ∈ lv_args 0 [.ref (x0), .int (x1), .int (x2), .int (x3)] := List.Mem.tail _ (List.Mem.tail _ (List.Mem.head _))
    have l3 : (3, .int (x3)) ∈ lv_args 0 [.ref (x0), .int (x1), .int (x2), .int (x3)] := List.Mem.tail _ (List.Mem.tail _ (List.Mem.tail _ (List.Mem.head _)))
    unfold f121 at h
    refine ev_iload_n (mm 0 rfl) l1 ?_
    refine ev_iconst (mm 1 rfl) cI_0 ?_
    refine ev_bipush (mm 2 rfl) cB_15 ?_
    obtain ⟨p1, e2, h⟩ := bind_so h
    refine ev_callS_I [.int (x1), .int (0), .int (15)] (mm 3 rfl) (by decide) rfl rfl (Nat.le_of_ble_eq_true rfl) (f112_ok e2 (d + 0)) ?_
    rcases ite_so h with ⟨c3, h⟩ | ⟨c3, h⟩
    · refine ev_if_t 36 (mm 4 rfl) rfl c3 ?_
      refine ev_iconst (mm 18 rfl) cI_0 ?_
      exact ev_zreturn (mm 19 rfl) h
    · refine ev_if_f 36 (mm 4 rfl) rfl c3 ?_
      refine ev_iload_n (mm 5 rfl) l2 ?_
      refine ev_iconst (mm 6 rfl) cI_0 ?_
      refine ev_bipush (mm 7 rfl) cB_15 ?_
      obtain ⟨p4, e5, h⟩ := bind_so h
      refine ev_callS_I [.int (x2), .int (0), .int (15)] (mm 8 rfl) (by decide) rfl rfl (Nat.le_of_ble_eq_true rfl) (f112_ok e5 (d + 0)) ?_
      rcases ite_so h with ⟨c6, h⟩ | ⟨c6, h⟩
      · refine ev_if_t 36 (mm 9 rfl) rfl c6 ?_
        refine ev_iconst (mm 18 rfl) cI_0 ?_
        exact ev_zreturn (mm 19 rfl) h
      · refine ev_if_f 36 (mm 9 rfl) rfl c6 ?_
        refine ev_iload_n (mm 10 rfl) l1 ?_
        refine ev_iload_n (mm 11 rfl) l2 ?_
        rcases ite_so h with ⟨c7, h⟩ | ⟨c7, h⟩
        · refine ev_ic_t 36 (mm 12 rfl) rfl c7 ?_
          refine ev_iconst (mm 18 rfl) cI_0 ?_
          exact ev_zreturn (mm 19 rfl) h
        · refine ev_ic_f 36 (mm 12 rfl) rfl c7 ?_
          refine ev_iload_n (mm 13 rfl) l3 ?_
          refine ev_iconst (mm 14 rfl) cI_0 ?_
          refine ev_sipush (mm 15 rfl) cS_999 ?_
          obtain ⟨p8, e9, h⟩ := bind_so h
          refine ev_callS_I [.int (x3), .int (0), .int (999)] (mm 16 rfl) (by decide) rfl rfl (Nat.le_of_ble_eq_true rfl) (f112_ok e9 (d + 0)) ?_
          rcases ite_so h with ⟨c10, h⟩ | ⟨c10, h⟩
          · refine ev_if_t 38 (mm 17 rfl) rfl c10 ?_
            refine ev_aload_nR (mm 20 rfl) l0 ?_
            obtain ⟨v11, e12, h⟩ := bind_so h
            refine ev_get_r (mm 21 rfl) rfl e12 ?_
            refine ev_bipush (mm 22 rfl) cB_16 ?_
            refine ev_iload_n (mm 23 rfl) l1 ?_
            refine ev_imul (mm 24 rfl) ?_
            refine ev_iload_n (mm 25 rfl) l2 ?_
            refine ev_iadd (mm 26 rfl) ?_
            refine ev_iload_n (mm 27 rfl) l3 ?_
            obtain ⟨q13, e14, h⟩ := bind_so h
            rw [e14]
            obtain ⟨M15, e16, h⟩ := bind_so h
            refine ev_iastore (mm 28 rfl) e16 ?_
            refine ev_aload_nR (mm 29 rfl) l0 ?_
            obtain ⟨v17, e18, h⟩ := bind_so h
            refine ev_get_r (mm 30 rfl) rfl e18 ?_
            refine ev_bipush (mm 31 rfl) cB_16 ?_
            refine ev_iload_n (mm 32 rfl) l2 ?_
            refine ev_imul (mm 33 rfl) ?_
            refine ev_iload_n (mm 34 rfl) l1 ?_
            refine ev_iadd (mm 35 rfl) ?_
            refine ev_iload_n (mm 36 rfl) l3 ?_
            obtain ⟨q19, e20, h⟩ := bind_so h
            rw [e20]
            obtain ⟨M21, e22, h⟩ := bind_so h
            refine ev_iastore (mm 37 rfl) e22 ?_
            refine ev_iconst (mm 38 rfl) cI_1 ?_
            exact ev_zreturn (mm 39 rfl) h
          · refine ev_if_f 38 (mm 17 rfl) rfl c10 ?_
            refine ev_iconst (mm 18 rfl) cI_0 ?_
            exact ev_zreturn (mm 19 rfl) h
  exact ⟨by decide, Nat.le_of_ble_eq_true rfl, key.1, key.2⟩
/-- PupilCoinModel.isOpen(II)Z -/
def f122 (x0 : Nat) (x1 : Int32) (x2 : Int32) (M : vm_M) : Option (Int32 × vm_M) :=
  (sg_r M x0 11 15).bind fun v1 =>
  (v1).bind fun q3 =>
  (sa_i M q3 0 x1).bind fun v5 =>
  if v5 ≤ x2 then
    s_rb 0 M
  else
    s_rb 1 M
theorem f122_ok {x0 : Nat} {x1 : Int32} {x2 : Int32} {M : vm_M} {r : Int32 × vm_M} (h : f122 x0 x1 x2 M = some r) (d : Nat) : vm_Cl (d + 1) 122 [.ref (x0), .int (x1), .int (x2)] M (rI r) := by
  have key : Ev 0 (fun _ => 0) (vm_Cl (d + 0)) vp_122 11 3 false (some (.boolean)) (rI r) 0 (lv_args 0 [.ref (x0), .int (x1), .int (x2)]) [] M := by
    have l0 : (0, .ref (x0)) ∈ lv_args 0 [.ref (x0), .int (x1), .int (x2)] := List.Mem.head _
    have l1 : (1, .int (x1)) ∈ lv_args 0 [.ref (x0), .int (x1), .int (x2)] := List.Mem.tail _ (List.Mem.head _)
    have l2 : (2, .int (x2)) ∈ lv_args 0 [.ref (x0), .int (x1), .int (x2)] := List.Mem.tail _ (List.Mem.tail _ (List.Mem.head _))
    unfold f122 at h
    refine ev_aload_nR (mm 0 rfl) l0 ?_
    obtain ⟨v1, e2, h⟩ := bind_so h
    refine ev_get_r (mm 1 rfl) rfl e2 ?_
    refine ev_iload_n (mm 2 rfl) l1 ?_
    obtain ⟨q3, e4, h⟩ := bind_so h
    rw [e4]
    obtain ⟨v5, e6, h⟩ := bind_so h
    refine ev_iaload (mm 3 rfl) e6 ?_
    refine ev_iload_n (mm 4 rfl) l2 ?_
    rcases ite_so h with ⟨c7, h⟩ | ⟨c7, h⟩
    · refine ev_ic_t 14 (mm 5 rfl) rfl c7 ?_
      refine ev_iconst (mm 8 rfl) cI_0 ?_
      exact ev_zreturn (mm 9 rfl) h
    · refine ev_ic_f 14 (mm 5 rfl) rfl c7 ?_
      refine ev_iconst (mm 6 rfl) cI_1 ?_
      refine ev_goto 15 (mm 7 rfl) rfl ?_
      exact ev_zreturn (mm 9 rfl) h
  exact ⟨by decide, Nat.le_of_ble_eq_true rfl, key.1, key.2⟩
def f123_j30 (k44 : vm_M → Option (Int32 × vm_M)) (k2 : Int32 → vm_M → Option (Int32 × vm_M)) (x0 : Nat) (x1 : Int32) (x2 : Int32) (x3 : Int32) (s0 : Option Nat) (s1 : Int32) (s2 : Int32) (M : vm_M) : Option (Int32 × vm_M) :=
  (s0).bind fun q13 =>
  (ss_i M q13 0 s1 s2).bind fun M15 =>
  (sg_r M15 x0 11 17).bind fun v17 =>
  (v17).bind fun q19 =>
  (ss_i M15 q19 2 x3 0).bind fun M21 =>
  k2 (x3 + 1) M21
theorem f123_j30_ok {d : Nat} {x0 : Nat} {x1 : Int32} {x2 : Int32} {x3 : Int32} {s0 : Option Nat} {s1 : Int32} {s2 : Int32} {M : vm_M} {k44 : vm_M → Option (Int32 × vm_M)} {k2 : Int32 → vm_M → Option (Int32 × vm_M)} {r : Int32 × vm_M} (hk44 : ∀ {M : vm_M} {lv : vm_L}, (0, .ref (x0)) ∈ lv → (1, .int (x1)) ∈ lv → (2, .int (x2)) ∈ lv → k44 M = some r → Ev 0 (fun _ => 0) (vm_Cl (d + 1)) vp_123 11 6 false (some (.int)) (rI r) 44 lv [] M) (hk2 : ∀ {y3 : Int32} {M : vm_M} {lv : vm_L}, (0, .ref (x0)) ∈ lv → (1, .int (x1)) ∈ lv → (2, .int (x2)) ∈ lv → (3, .int (y3)) ∈ lv → k2 y3 M = some r → Ev 0 (fun _ => 0) (vm_Cl (d + 1)) vp_123 11 6 false (some (.int)) (rI r) 2 lv [] M) {lv : vm_L} (l0 : (0, .ref (x0)) ∈ lv) (l1 : (1, .int (x1)) ∈ lv) (l2 : (2, .int (x2)) ∈ lv) (l3 : (3, .int (x3)) ∈ lv) (h : f123_j30 k44 k2 x0 x1 x2 x3 s0 s1 s2 M = some r) : Ev 0 (fun _ => 0) (vm_Cl (d + 1)) vp_123 11 6 false (some (.int)) (rI r) 30 lv [.int (s2), .int (s1), va_rf (s0)] M := by
  unfold f123_j30 at h
  obtain ⟨q13, e14, h⟩ := bind_so h
  rw [e14]
  obtain ⟨M15, e16, h⟩ := bind_so h
  refine ev_iastore (mm 17 rfl) e16 ?_
  refine ev_aload_nR (mm 18 rfl) l0 ?_
  obtain ⟨v17, e18, h⟩ := bind_so h
  refine ev_get_r (mm 19 rfl) rfl e18 ?_
  refine ev_iload_n (mm 20 rfl) l3 ?_
  refine ev_iconst (mm 21 rfl) cI_0 ?_
  obtain ⟨q19, e20, h⟩ := bind_so h
  rw [e20]
  obtain ⟨M21, e22, h⟩ := bind_so h
  refine ev_zastore (mm 22 rfl) e22 ?_
  refine evs_iinc (mm 23 rfl) cI_1 l3 (by decide) (fun lv23 l3 s24 => ?_)
  have l0 := s24 _ _ l0 rfl
  have l1 := s24 _ _ l1 rfl
  have l2 := s24 _ _ l2 rfl
  refine ev_goto 2 (mm 24 rfl) rfl ?_
  exact hk2 l0 l1 l2 l3 h
def f123_l2 (x0 : Nat) (x1 : Int32) (x2 : Int32) (k44 : vm_M → Option (Int32 × vm_M)) : Nat → Int32 → vm_M → Option (Int32 × vm_M)
  | 0 => fun _ _ => none
  | n + 1 => fun x3 M =>
    if 16 ≤ x3 then
      k44 M
    else
      (sg_r M x0 11 16).bind fun v4 =>
      (sg_r M x0 11 6).bind fun v6 =>
      (v6).bind fun q8 =>
      (sa_i M q8 0 x1).bind fun v10 =>
      if ¬ x3 = v10 then
        f123_j30 k44 (f123_l2 x0 x1 x2 k44 n) x0 x1 x2 x3 v4 x3 9999 M
      else
        f123_j30 k44 (f123_l2 x0 x1 x2 k44 n) x0 x1 x2 x3 v4 x3 0 M
theorem f123_l2_ok {d : Nat} {x0 : Nat} {x1 : Int32} {x2 : Int32} {k44 : vm_M → Option (Int32 × vm_M)} {r : Int32 × vm_M} (hk44 : ∀ {M : vm_M} {lv : vm_L}, (0, .ref (x0)) ∈ lv → (1, .int (x1)) ∈ lv → (2, .int (x2)) ∈ lv → k44 M = some r → Ev 0 (fun _ => 0) (vm_Cl (d + 1)) vp_123 11 6 false (some (.int)) (rI r) 44 lv [] M) : ∀ (n : Nat) {x3 : Int32} {M : vm_M} {lv : vm_L}, (0, .ref (x0)) ∈ lv → (1, .int (x1)) ∈ lv → (2, .int (x2)) ∈ lv → (3, .int (x3)) ∈ lv → f123_l2 x0 x1 x2 k44 n x3 M = some r → Ev 0 (fun _ => 0) (vm_Cl (d + 1)) vp_123 11 6 false (some (.int)) (rI r) 2 lv [] M := by
  intro n
  induction n with
  | zero =>
    intro x3 M lv l0 l1 l2 l3 h
    cases h
  | succ n ih =>
    intro x3 M lv l0 l1 l2 l3 h
    dsimp only [f123_l2] at h
    refine ev_iload_n (mm 2 rfl) l3 ?_
    refine ev_bipush (mm 3 rfl) cB_16 ?_
    rcases ite_so h with ⟨c3, h⟩ | ⟨c3, h⟩
    · refine ev_ic_t 44 (mm 4 rfl) rfl c3 ?_
      exact hk44 l0 l1 l2 h
    · refine ev_ic_f 44 (mm 4 rfl) rfl c3 ?_
      refine ev_aload_nR (mm 5 rfl) l0 ?_
      obtain ⟨v4, e5, h⟩ := bind_so h
      refine ev_get_r (mm 6 rfl) rfl e5 ?_
      refine ev_iload_n (mm 7 rfl) l3 ?_
      refine ev_iload_n (mm 8 rfl) l3 ?_
      refine ev_aload_nR (mm 9 rfl) l0 ?_
      obtain ⟨v6, e7, h⟩ := bind_so h
      refine ev_get_r (mm 10 rfl) rfl e7 ?_
      refine ev_iload_n (mm 11 rfl) l1 ?_
      obtain ⟨q8, e9, h⟩ := bind_so h
      rw [e9]
      obtain ⟨v10, e11, h⟩ := bind_so h
      refine ev_iaload (mm 12 rfl) e11 ?_
      rcases ite_so h with ⟨c12, h⟩ | ⟨c12, h⟩
      · refine ev_ic_t 27 (mm 13 rfl) rfl c12 ?_
        refine ev_sipush (mm 16 rfl) cS_9999 ?_
        exact f123_j30_ok hk44 ih l0 l1 l2 l3 h
      · refine ev_ic_f 27 (mm 13 rfl) rfl c12 ?_
        refine ev_iconst (mm 14 rfl) cI_0 ?_
        refine ev_goto 30 (mm 15 rfl) rfl ?_
        exact f123_j30_ok hk44 ih l0 l1 l2 l3 h
def f123_l58 (x0 : Nat) (x1 : Int32) (x2 : Int32) (x3 : Int32) (k108 : Int32 → vm_M → Option (Int32 × vm_M)) : Nat → Int32 → Int32 → vm_M → Option (Int32 × vm_M)
  | 0 => fun _ _ _ => none
  | n + 1 => fun x4 x5 M =>
    if 16 ≤ x5 then
      k108 x4 M
    else
      (sg_r M x0 11 17).bind fun v34 =>
      (v34).bind fun q36 =>
      (sa_i M q36 2 x5).bind fun v38 =>
      if ¬ v38 = 0 then
        f123_l58 x0 x1 x2 x3 k108 n x4 (x5 + 1) M
      else
        if x4 = (-1) then
          f123_l58 x0 x1 x2 x3 k108 n x5 (x5 + 1) M
        else
          (sg_r M x0 11 16).bind fun v48 =>
          (v48).bind fun q50 =>
          (sa_i M q50 0 x5).bind fun v52 =>
          (sg_r M x0 11 16).bind fun v54 =>
          (v54).bind fun q56 =>
          (sa_i M q56 0 x4).bind fun v58 =>
          if v58 ≤ v52 then
            f123_l58 x0 x1 x2 x3 k108 n x4 (x5 + 1) M
          else
            f123_l58 x0 x1 x2 x3 k108 n x5 (x5 + 1) M
theorem f123_l58_ok {d : Nat} {x0 : Nat} {x1 : Int32} {x2 : Int32} {x3 : Int32} {k108 : Int32 → vm_M → Option (Int32 × vm_M)} {r : Int32 × vm_M} (hk108 : ∀ {y4 : Int32} {M : vm_M} {lv : vm_L}, (0, .ref (x0)) ∈ lv → (1, .int (x1)) ∈ lv → (2, .int (x2)) ∈ lv → (3, .int (x3)) ∈ lv → (4, .int (y4)) ∈ lv → k108 y4 M = some r → Ev 0 (fun _ => 0) (vm_Cl (d + 1)) vp_123 11 6 false (some (.int)) (rI r) 108 lv [] M) : ∀ (n : Nat) {x4 : Int32} {x5 : Int32} {M : vm_M} {lv : vm_L}, (0, .ref (x0)) ∈ lv → (1, .int (x1)) ∈ lv → (2, .int (x2)) ∈ lv → (3, .int (x3)) ∈ lv → (4, .int (x4)) ∈ lv → (5, .int (x5)) ∈ lv → f123_l58 x0 x1 x2 x3 k108 n x4 x5 M = some r → Ev 0 (fun _ => 0) (vm_Cl (d + 1)) vp_123 11 6 false (some (.int)) (rI r) 58 lv [] M := by
  intro n
  induction n with
  | zero =>
    intro x4 x5 M lv l0 l1 l2 l3 l4 l5 h
    cases h
  | succ n ih =>
    intro x4 x5 M lv l0 l1 l2 l3 l4 l5 h
    dsimp only [f123_l58] at h
    refine ev_iload (mm 34 rfl) l5 ?_
    refine ev_bipush (mm 35 rfl) cB_16 ?_
    rcases ite_so h with ⟨c33, h⟩ | ⟨c33, h⟩
    · refine ev_ic_t 108 (mm 36 rfl) rfl c33 ?_
      exact hk108 l0 l1 l2 l3 l4 h
    · refine ev_ic_f 108 (mm 36 rfl) rfl c33 ?_
      refine ev_aload_nR (mm 37 rfl) l0 ?_
      obtain ⟨v34, e35, h⟩ := bind_so h
      refine ev_get_r (mm 38 rfl) rfl e35 ?_
      refine ev_iload (mm 39 rfl) l5 ?_
      obtain ⟨q36, e37, h⟩ := bind_so h
      rw [e37]
      obtain ⟨v38, e39, h⟩ := bind_so h
      refine ev_zaload (mm 40 rfl) e39 ?_
      rcases ite_so h with ⟨c40, h⟩ | ⟨c40, h⟩
      · refine ev_if_t 102 (mm 41 rfl) rfl c40 ?_
        refine evs_iinc (mm 56 rfl) cI_1 l5 (by decide) (fun lv41 l5 s42 => ?_)
        have l0 := s42 _ _ l0 rfl
        have l1 := s42 _ _ l1 rfl
        have l2 := s42 _ _ l2 rfl
        have l3 := s42 _ _ l3 rfl
        have l4 := s42 _ _ l4 rfl
        refine ev_goto 58 (mm 57 rfl) rfl ?_
        exact ih l0 l1 l2 l3 l4 l5 h
      · refine ev_if_f 102 (mm 41 rfl) rfl c40 ?_
        refine ev_iload (mm 42 rfl) l4 ?_
        refine ev_iconst (mm 43 rfl) cI_m1 ?_
        rcases ite_so h with ⟨c43, h⟩ | ⟨c43, h⟩
        · refine ev_ic_t 98 (mm 44 rfl) rfl c43 ?_
          refine ev_iload (mm 54 rfl) l5 ?_
          refine evs_istore (mm 55 rfl) (by decide) (fun lv44 l4 s45 => ?_)
          have l0 := s45 _ _ l0 rfl
          have l1 := s45 _ _ l1 rfl
          have l2 := s45 _ _ l2 rfl
          have l3 := s45 _ _ l3 rfl
          have l5 := s45 _ _ l5 rfl
          refine evs_iinc (mm 56 rfl) cI_1 l5 (by decide) (fun lv46 l5 s47 => ?_)
          have l0 := s47 _ _ l0 rfl
          have l1 := s47 _ _ l1 rfl
          have l2 := s47 _ _ l2 rfl
          have l3 := s47 _ _ l3 rfl
          have l4 := s47 _ _ l4 rfl
          refine ev_goto 58 (mm 57 rfl) rfl ?_
          exact ih l0 l1 l2 l3 l4 l5 h
        · refine ev_ic_f 98 (mm 44 rfl) rfl c43 ?_
          refine ev_aload_nR (mm 45 rfl) l0 ?_
          obtain ⟨v48, e49, h⟩ := bind_so h
          refine ev_get_r (mm 46 rfl) rfl e49 ?_
          refine ev_iload (mm 47 rfl) l5 ?_
          obtain ⟨q50, e51, h⟩ := bind_so h
          rw [e51]
          obtain ⟨v52, e53, h⟩ := bind_so h
          refine ev_iaload (mm 48 rfl) e53 ?_
          refine ev_aload_nR (mm 49 rfl) l0 ?_
          obtain ⟨v54, e55, h⟩ := bind_so h
          refine ev_get_r (mm 50 rfl) rfl e55 ?_
          refine ev_iload (mm 51 rfl) l4 ?_
          obtain ⟨q56, e57, h⟩ := bind_so h
          rw [e57]
          obtain ⟨v58, e59, h⟩ := bind_so h
          refine ev_iaload (mm 52 rfl) e59 ?_
          rcases ite_so h with ⟨c60, h⟩ | ⟨c60, h⟩
          · refine ev_ic_t 102 (mm 53 rfl) rfl c60 ?_
            refine evs_iinc (mm 56 rfl) cI_1 l5 (by decide) (fun lv61 l5 s62 => ?_)
            have l0 := s62 _ _ l0 rfl
            have l1 := s62 _ _ l1 rfl
            have l2 := s62 _ _ l2 rfl
            have l3 := s62 _ _ l3 rfl
            have l4 := s62 _ _ l4 rfl
            refine ev_goto 58 (mm 57 rfl) rfl ?_
            exact ih l0 l1 l2 l3 l4 l5 h
          · refine ev_ic_f 102 (mm 53 rfl) rfl c60 ?_
            refine ev_iload (mm 54 rfl) l5 ?_
            refine evs_istore (mm 55 rfl) (by decide) (fun lv63 l4 s64 => ?_)
            have l0 := s64 _ _ l0 rfl
            have l1 := s64 _ _ l1 rfl
            have l2 := s64 _ _ l2 rfl
            have l3 := s64 _ _ l3 rfl
            have l5 := s64 _ _ l5 rfl
            refine evs_iinc (mm 56 rfl) cI_1 l5 (by decide) (fun lv65 l5 s66 => ?_)
            have l0 := s66 _ _ l0 rfl
            have l1 := s66 _ _ l1 rfl
            have l2 := s66 _ _ l2 rfl
            have l3 := s66 _ _ l3 rfl
            have l4 := s66 _ _ l4 rfl
            refine ev_goto 58 (mm 57 rfl) rfl ?_
            exact ih l0 l1 l2 l3 l4 l5 h
def f123_l119 (x0 : Nat) (x1 : Int32) (x2 : Int32) (x3 : Int32) (x4 : Int32) (k186 : vm_M → Option (Int32 × vm_M)) : Nat → Int32 → vm_M → Option (Int32 × vm_M)
  | 0 => fun _ _ => none
  | n + 1 => fun x5 M =>
    if 16 ≤ x5 then
      k186 M
    else
      (sg_r M x0 11 8).bind fun v78 =>
      (v78).bind fun q80 =>
      (sa_i M q80 0 ((16 * x4) + x5)).bind fun v82 =>
      if v82 ≤ 0 then
        f123_l119 x0 x1 x2 x3 x4 k186 n (x5 + 1) M
      else
        (sg_r M x0 11 16).bind fun v87 =>
        (sg_r M x0 11 16).bind fun v89 =>
        (v89).bind fun q91 =>
        (sa_i M q91 0 x5).bind fun v93 =>
        (sg_r M x0 11 16).bind fun v95 =>
        (v95).bind fun q97 =>
        (sa_i M q97 0 x4).bind fun v99 =>
        (sg_r M x0 11 8).bind fun v101 =>
        (v101).bind fun q103 =>
        (sa_i M q103 0 ((16 * x4) + x5)).bind fun v105 =>
        (v87).bind fun q107 =>
        (ss_i M q107 0 x5 (s_mnI v93 (v99 + v105))).bind fun M109 =>
        f123_l119 x0 x1 x2 x3 x4 k186 n (x5 + 1) M109
theorem f123_l119_ok {d : Nat} {x0 : Nat} {x1 : Int32} {x2 : Int32} {x3 : Int32} {x4 : Int32} {k186 : vm_M → Option (Int32 × vm_M)} {r : Int32 × vm_M} (hk186 : ∀ {M : vm_M} {lv : vm_L}, (0, .ref (x0)) ∈ lv → (1, .int (x1)) ∈ lv → (2, .int (x2)) ∈ lv → (3, .int (x3)) ∈ lv → k186 M = some r → Ev 0 (fun _ => 0) (vm_Cl (d + 1)) vp_123 11 6 false (some (.int)) (rI r) 186 lv [] M) : ∀ (n : Nat) {x5 : Int32} {M : vm_M} {lv : vm_L}, (0, .ref (x0)) ∈ lv → (1, .int (x1)) ∈ lv → (2, .int (x2)) ∈ lv → (3, .int (x3)) ∈ lv → (4, .int (x4)) ∈ lv → (5, .int (x5)) ∈ lv → f123_l119 x0 x1 x2 x3 x4 k186 n x5 M = some r → Ev 0 (fun _ => 0) (vm_Cl (d + 1)) vp_123 11 6 false (some (.int)) (rI r) 119 lv [] M := by
  intro n
  induction n with
  | zero =>
    intro x5 M lv l0 l1 l2 l3 l4 l5 h
    cases h
  | succ n ih =>
    intro x5 M lv l0 l1 l2 l3 l4 l5 h
    dsimp only [f123_l119] at h
    refine ev_iload (mm 65 rfl) l5 ?_
    refine ev_bipush (mm 66 rfl) cB_16 ?_
    rcases ite_so h with ⟨c77, h⟩ | ⟨c77, h⟩
    · refine ev_ic_t 186 (mm 67 rfl) rfl c77 ?_
      exact hk186 l0 l1 l2 l3 h
    · refine ev_ic_f 186 (mm 67 rfl) rfl c77 ?_
      refine ev_aload_nR (mm 68 rfl) l0 ?_
      obtain ⟨v78, e79, h⟩ := bind_so h
      refine ev_get_r (mm 69 rfl) rfl e79 ?_
      refine ev_bipush (mm 70 rfl) cB_16 ?_
      refine ev_iload (mm 71 rfl) l4 ?_
      refine ev_imul (mm 72 rfl) ?_
      refine ev_iload (mm 73 rfl) l5 ?_
      refine ev_iadd (mm 74 rfl) ?_
      obtain ⟨q80, e81, h⟩ := bind_so h
      rw [e81]
      obtain ⟨v82, e83, h⟩ := bind_so h
      refine ev_iaload (mm 75 rfl) e83 ?_
      rcases ite_so h with ⟨c84, h⟩ | ⟨c84, h⟩
      · refine ev_if_t 180 (mm 76 rfl) rfl c84 ?_
        refine evs_iinc (mm 99 rfl) cI_1 l5 (by decide) (fun lv85 l5 s86 => ?_)
        have l0 := s86 _ _ l0 rfl
        have l1 := s86 _ _ l1 rfl
        have l2 := s86 _ _ l2 rfl
        have l3 := s86 _ _ l3 rfl
        have l4 := s86 _ _ l4 rfl
        refine ev_goto 119 (mm 100 rfl) rfl ?_
        exact ih l0 l1 l2 l3 l4 l5 h
      · refine ev_if_f 180 (mm 76 rfl) rfl c84 ?_
        refine ev_aload_nR (mm 77 rfl) l0 ?_
        obtain ⟨v87, e88, h⟩ := bind_so h
        refine ev_get_r (mm 78 rfl) rfl e88 ?_
        refine ev_iload (mm 79 rfl) l5 ?_
        refine ev_aload_nR (mm 80 rfl) l0 ?_
        obtain ⟨v89, e90, h⟩ := bind_so h
        refine ev_get_r (mm 81 rfl) rfl e90 ?_
        refine ev_iload (mm 82 rfl) l5 ?_
        obtain ⟨q91, e92, h⟩ := bind_so h
        rw [e92]
        obtain ⟨v93, e94, h⟩ := bind_so h
        refine ev_iaload (mm 83 rfl) e94 ?_
        refine ev_aload_nR (mm 84 rfl) l0 ?_
        obtain ⟨v95, e96, h⟩ := bind_so h
        refine ev_get_r (mm 85 rfl) rfl e96 ?_
        refine ev_iload (mm 86 rfl) l4 ?_
        obtain ⟨q97, e98, h⟩ := bind_so h
        rw [e98]
        obtain ⟨v99, e100, h⟩ := bind_so h
        refine ev_iaload (mm 87 rfl) e100 ?_
        refine ev_aload_nR (mm 88 rfl) l0 ?_
        obtain ⟨v101, e102, h⟩ := bind_so h
        refine ev_get_r (mm 89 rfl) rfl e102 ?_
        refine ev_bipush (mm 90 rfl) cB_16 ?_
        refine ev_iload (mm 91 rfl) l4 ?_
        refine ev_imul (mm 92 rfl) ?_
        refine ev_iload (mm 93 rfl) l5 ?_
        refine ev_iadd (mm 94 rfl) ?_
        obtain ⟨q103, e104, h⟩ := bind_so h
        rw [e104]
        obtain ⟨v105, e106, h⟩ := bind_so h
        refine ev_iaload (mm 95 rfl) e106 ?_
        refine ev_iadd (mm 96 rfl) ?_
        refine ev_mnI (mm 97 rfl) (by simp [vm_cat_A, vm_cat_I, vm_cat_R, vm_cat_J, vm_cat_0]) ?_
        obtain ⟨q107, e108, h⟩ := bind_so h
        rw [e108]
        obtain ⟨M109, e110, h⟩ := bind_so h
        refine ev_iastore (mm 98 rfl) e110 ?_
        refine evs_iinc (mm 99 rfl) cI_1 l5 (by decide) (fun lv111 l5 s112 => ?_)
        have l0 := s112 _ _ l0 rfl
        have l1 := s112 _ _ l1 rfl
        have l2 := s112 _ _ l2 rfl
        have l3 := s112 _ _ l3 rfl
        have l4 := s112 _ _ l4 rfl
        refine ev_goto 119 (mm 100 rfl) rfl ?_
        exact ih l0 l1 l2 l3 l4 l5 h
def f123_l46 (x0 : Nat) (x1 : Int32) (x2 : Int32) (k192 : vm_M → Option (Int32 × vm_M)) : Nat → Int32 → vm_M → Option (Int32 × vm_M)
  | 0 => fun _ _ => none
  | n + 1 => fun x3 M =>
    if 16 ≤ x3 then
      k192 M
    else
      f123_l58 x0 x1 x2 x3
        (fun y67 M68 =>
          (sg_r M68 x0 11 17).bind fun v69 =>
          (v69).bind fun q71 =>
          (ss_i M68 q71 2 y67 1).bind fun M73 =>
          f123_l119 x0 x1 x2 x3 y67
            (fun M113 =>
              f123_l46 x0 x1 x2 k192 n (x3 + 1) M113)
            100000 0 M73)
        100000 (-1) 0 M
theorem f123_l46_ok {d : Nat} {x0 : Nat} {x1 : Int32} {x2 : Int32} {k192 : vm_M → Option (Int32 × vm_M)} {r : Int32 × vm_M} (hk192 : ∀ {M : vm_M} {lv : vm_L}, (0, .ref (x0)) ∈ lv → (1, .int (x1)) ∈ lv → (2, .int (x2)) ∈ lv → k192 M = some r → Ev 0 (fun _ => 0) (vm_Cl (d + 1)) vp_123 11 6 false (some (.int)) (rI r) 192 lv [] M) : ∀ (n : Nat) {x3 : Int32} {M : vm_M} {lv : vm_L}, (0, .ref (x0)) ∈ lv → (1, .int (x1)) ∈ lv → (2, .int (x2)) ∈ lv → (3, .int (x3)) ∈ lv → f123_l46 x0 x1 x2 k192 n x3 M = some r → Ev 0 (fun _ => 0) (vm_Cl (d + 1)) vp_123 11 6 false (some (.int)) (rI r) 46 lv [] M := by
  intro n
  induction n with
  | zero =>
    intro x3 M lv l0 l1 l2 l3 h
    cases h
  | succ n ih =>
    intro x3 M lv l0 l1 l2 l3 h
    dsimp only [f123_l46] at h
    refine ev_iload_n (mm 27 rfl) l3 ?_
    refine ev_bipush (mm 28 rfl) cB_16 ?_
    rcases ite_so h with ⟨c28, h⟩ | ⟨c28, h⟩
    · refine ev_ic_t 192 (mm 29 rfl) rfl c28 ?_
      exact hk192 l0 l1 l2 h
    · refine ev_ic_f 192 (mm 29 rfl) rfl c28 ?_
      refine ev_iconst (mm 30 rfl) cI_m1 ?_
      refine evs_istore (mm 31 rfl) (by decide) (fun lv29 l4 s30 => ?_)
      have l0 := s30 _ _ l0 rfl
      have l1 := s30 _ _ l1 rfl
      have l2 := s30 _ _ l2 rfl
      have l3 := s30 _ _ l3 rfl
      refine ev_iconst (mm 32 rfl) cI_0 ?_
      refine evs_istore (mm 33 rfl) (by decide) (fun lv31 l5 s32 => ?_)
      have l0 := s32 _ _ l0 rfl
      have l1 := s32 _ _ l1 rfl
      have l2 := s32 _ _ l2 rfl
      have l3 := s32 _ _ l3 rfl
      have l4 := s32 _ _ l4 rfl
      refine f123_l58_ok ?_ 100000 l0 l1 l2 l3 l4 l5 h
      · intro y67 M68 lv l0 l1 l2 l3 l4
        intro h
        refine ev_aload_nR (mm 58 rfl) l0 ?_
        obtain ⟨v69, e70, h⟩ := bind_so h
        refine ev_get_r (mm 59 rfl) rfl e70 ?_
        refine ev_iload (mm 60 rfl) l4 ?_
        refine ev_iconst (mm 61 rfl) cI_1 ?_
        obtain ⟨q71, e72, h⟩ := bind_so h
        rw [e72]
        obtain ⟨M73, e74, h⟩ := bind_so h
        refine ev_zastore (mm 62 rfl) e74 ?_
        refine ev_iconst (mm 63 rfl) cI_0 ?_
        refine evs_istore (mm 64 rfl) (by decide) (fun lv75 l5 s76 => ?_)
        have l0 := s76 _ _ l0 rfl
        have l1 := s76 _ _ l1 rfl
        have l2 := s76 _ _ l2 rfl
        have l3 := s76 _ _ l3 rfl
        have l4 := s76 _ _ l4 rfl
        refine f123_l119_ok ?_ 100000 l0 l1 l2 l3 l4 l5 h
        · intro M113 lv l0 l1 l2 l3
          intro h
          refine evs_iinc (mm 101 rfl) cI_1 l3 (by decide) (fun lv114 l3 s115 => ?_)
          have l0 := s115 _ _ l0 rfl
          have l1 := s115 _ _ l1 rfl
          have l2 := s115 _ _ l2 rfl
          refine ev_goto 46 (mm 102 rfl) rfl ?_
          exact ih l0 l1 l2 l3 h
def f123_l199 (x0 : Nat) (x1 : Int32) (x2 : Int32) : Nat → Int32 → Int32 → vm_M → Option (Int32 × vm_M)
  | 0 => fun _ _ _ => none
  | n + 1 => fun x3 x4 M =>
    (sg_i M x0 11 1).bind fun v121 =>
    if v121 ≤ x4 then
      some (x3, M)
    else
      if x4 = x1 then
        f123_l199 x0 x1 x2 n x3 (x4 + 1) M
      else
        (s_ob M x0 11).bind fun _ =>
        (f122 x0 x4 x2 M).bind fun p127 =>
        if p127.1 = 0 then
          f123_l199 x0 x1 x2 n x3 (x4 + 1) p127.2
        else
          (sg_r p127.2 x0 11 16).bind fun v132 =>
          (sg_r p127.2 x0 11 6).bind fun v134 =>
          (v134).bind fun q136 =>
          (sa_i p127.2 q136 0 x4).bind fun v138 =>
          (v132).bind fun q140 =>
          (sa_i p127.2 q140 0 v138).bind fun v142 =>
          f123_l199 x0 x1 x2 n (s_mnI x3 v142) (x4 + 1) p127.2
theorem f123_l199_ok {d : Nat} {x0 : Nat} {x1 : Int32} {x2 : Int32} {r : Int32 × vm_M} : ∀ (n : Nat) {x3 : Int32} {x4 : Int32} {M : vm_M} {lv : vm_L}, (0, .ref (x0)) ∈ lv → (1, .int (x1)) ∈ lv → (2, .int (x2)) ∈ lv → (3, .int (x3)) ∈ lv → (4, .int (x4)) ∈ lv → f123_l199 x0 x1 x2 n x3 x4 M = some r → Ev 0 (fun _ => 0) (vm_Cl (d + 1)) vp_123 11 6 false (some (.int)) (rI r) 199 lv [] M := by
  intro n
  induction n with
  | zero =>
    intro x3 x4 M lv l0 l1 l2 l3 l4 h
    cases h
  | succ n ih =>
    intro x3 x4 M lv l0 l1 l2 l3 l4 h
    dsimp only [f123_l199] at h
    refine ev_iload (mm 107 rfl) l4 ?_
    refine ev_aload_nR (mm 108 rfl) l0 ?_
    obtain ⟨v121, e122, h⟩ := bind_so h
    refine ev_get_i (mm 109 rfl) rfl e122 ?_
    rcases ite_so h with ⟨c123, h⟩ | ⟨c123, h⟩
    · refine ev_ic_t 247 (mm 110 rfl) rfl c123 ?_
      refine ev_iload_n (mm 131 rfl) l3 ?_
      exact ev_ireturn (mm 132 rfl) h
    · refine ev_ic_f 247 (mm 110 rfl) rfl c123 ?_
      refine ev_iload (mm 111 rfl) l4 ?_
      refine ev_iload_n (mm 112 rfl) l1 ?_
      rcases ite_so h with ⟨c124, h⟩ | ⟨c124, h⟩
      · refine ev_ic_t 241 (mm 113 rfl) rfl c124 ?_
        refine evs_iinc (mm 129 rfl) cI_1 l4 (by decide) (fun lv125 l4 s126 => ?_)
        have l0 := s126 _ _ l0 rfl
        have l1 := s126 _ _ l1 rfl
        have l2 := s126 _ _ l2 rfl
        have l3 := s126 _ _ l3 rfl
        refine ev_goto 199 (mm 130 rfl) rfl ?_
        exact ih l0 l1 l2 l3 l4 h
      · refine ev_ic_f 241 (mm 113 rfl) rfl c124 ?_
        refine ev_aload_nR (mm 114 rfl) l0 ?_
        refine ev_iload (mm 115 rfl) l4 ?_
        refine ev_iload_n (mm 116 rfl) l2 ?_
        obtain ⟨_, e148, h⟩ := bind_so h
        obtain ⟨p127, e128, h⟩ := bind_so h
        refine ev_callV_I [.int (x4), .int (x2)] (mm 117 rfl) rfl rfl (Nat.le_of_ble_eq_true rfl) (s_ob_of e148) (f122_ok e128 (d + 0)) ?_
        rcases ite_so h with ⟨c129, h⟩ | ⟨c129, h⟩
        · refine ev_if_t 241 (mm 118 rfl) rfl c129 ?_
          refine evs_iinc (mm 129 rfl) cI_1 l4 (by decide) (fun lv130 l4 s131 => ?_)
          have l0 := s131 _ _ l0 rfl
          have l1 := s131 _ _ l1 rfl
          have l2 := s131 _ _ l2 rfl
          have l3 := s131 _ _ l3 rfl
          refine ev_goto 199 (mm 130 rfl) rfl ?_
          exact ih l0 l1 l2 l3 l4 h
        · refine ev_if_f 241 (mm 118 rfl) rfl c129 ?_
          refine ev_iload_n (mm 119 rfl) l3 ?_
          refine ev_aload_nR (mm 120 rfl) l0 ?_
          obtain ⟨v132, e133, h⟩ := bind_so h
          refine ev_get_r (mm 121 rfl) rfl e133 ?_
          refine ev_aload_nR (mm 122 rfl) l0 ?_
          obtain ⟨v134, e135, h⟩ := bind_so h
          refine ev_get_r (mm 123 rfl) rfl e135 ?_
          refine ev_iload (mm 124 rfl) l4 ?_
          obtain ⟨q136, e137, h⟩ := bind_so h
          rw [e137]
          obtain ⟨v138, e139, h⟩ := bind_so h
          refine ev_iaload (mm 125 rfl) e139 ?_
          obtain ⟨q140, e141, h⟩ := bind_so h
          rw [e141]
          obtain ⟨v142, e143, h⟩ := bind_so h
          refine ev_iaload (mm 126 rfl) e143 ?_
          refine ev_mnI (mm 127 rfl) (Nat.le_of_ble_eq_true rfl) ?_
          refine evs_istore_n (mm 128 rfl) (by decide) (fun lv144 l3 s145 => ?_)
          have l0 := s145 _ _ l0 rfl
          have l1 := s145 _ _ l1 rfl
          have l2 := s145 _ _ l2 rfl
          have l4 := s145 _ _ l4 rfl
          refine evs_iinc (mm 129 rfl) cI_1 l4 (by decide) (fun lv146 l4 s147 => ?_)
          have l0 := s147 _ _ l0 rfl
          have l1 := s147 _ _ l1 rfl
          have l2 := s147 _ _ l2 rfl
          have l3 := s147 _ _ l3 rfl
          refine ev_goto 199 (mm 130 rfl) rfl ?_
          exact ih l0 l1 l2 l3 l4 h
/-- PupilCoinModel.farOf(II)I -/
def f123 (x0 : Nat) (x1 : Int32) (x2 : Int32) (M : vm_M) : Option (Int32 × vm_M) :=
  f123_l2 x0 x1 x2
    (fun M25 =>
      f123_l46 x0 x1 x2
        (fun M116 =>
          f123_l199 x0 x1 x2
          
            100000 9999 0 M116)
        100000 0 M25)
    100000 0 M
theorem f123_ok {x0 : Nat} {x1 : Int32} {x2 : Int32} {M : vm_M} {r : Int32 × vm_M} (h : f123 x0 x1 x2 M = some r) (d : Nat) : vm_Cl (d + 2) 123 [.ref (x0), .int (x1), .int (x2)] M (rI r) := by
  have key : Ev 0 (fun _ => 0) (vm_Cl (d + 1)) vp_123 11 6 false (some (.int)) (rI r) 0 (lv_args 0 [.ref (x0), .int (x1), .int (x2)]) [] M := by
    have l0 : (0, .ref (x0)) ∈ lv_args 0 [.ref (x0), .int (x1), .int (x2)] := List.Mem.head _
    have l1 : (1, .int (x1)) ∈ lv_args 0 [.ref (x0), .int (x1), .int (x2)] := List.Mem.tail _ (List.Mem.head _)
    have l2 : (2, .int (x2)) ∈ lv_args 0 [.ref (x0), .int (x1), .int (x2)] := List.Mem.tail _ (List.Mem.tail _ (List.Mem.head _))
    unfold f123 at h
    refine ev_iconst (mm 0 rfl) cI_0 ?_
    refine evs_istore_n (mm 1 rfl) (by decide) (fun lv1 l3 s2 => ?_)
    have l0 := s2 _ _ l0 rfl
    have l1 := s2 _ _ l1 rfl
    have l2 := s2 _ _ l2 rfl
    refine f123_l2_ok ?_ 100000 l0 l1 l2 l3 h
    · intro M25 lv l0 l1 l2
      intro h
      refine ev_iconst (mm 25 rfl) cI_0 ?_
      refine evs_istore_n (mm 26 rfl) (by decide) (fun lv26 l3 s27 => ?_)
      have l0 := s27 _ _ l0 rfl
      have l1 := s27 _ _ l1 rfl
      have l2 := s27 _ _ l2 rfl
      refine f123_l46_ok ?_ 100000 l0 l1 l2 l3 h
      · intro M116 lv l0 l1 l2
        intro h
        refine ev_sipush (mm 103 rfl) cS_9999 ?_
        refine evs_istore_n (mm 104 rfl) (by decide) (fun lv117 l3 s118 => ?_)
        have l0 := s118 _ _ l0 rfl
        have l1 := s118 _ _ l1 rfl
        have l2 := s118 _ _ l2 rfl
        refine ev_iconst (mm 105 rfl) cI_0 ?_
        refine evs_istore (mm 106 rfl) (by decide) (fun lv119 l4 s120 => ?_)
        have l0 := s120 _ _ l0 rfl
        have l1 := s120 _ _ l1 rfl
        have l2 := s120 _ _ l2 rfl
        have l3 := s120 _ _ l3 rfl
        refine f123_l199_ok 100000 l0 l1 l2 l3 l4 h
  exact ⟨by decide, Nat.le_of_ble_eq_true rfl, key.1, key.2⟩
/-- PupilCoinModel.far(II)I -/
def f124 (x0 : Nat) (x1 : Int32) (x2 : Int32) (M : vm_M) : Option (Int32 × vm_M) :=
  (s_ob M x0 11).bind fun _ =>
  (f116 x0 x1 M).bind fun p1 =>
  if p1.1 = 0 then
    some ((-1), p1.2)
  else
    (f115 x2 p1.2).bind fun p4 =>
    if p4.1 = 0 then
      some ((-1), p4.2)
    else
      (s_ob p4.2 x0 11).bind fun _ =>
      (f122 x0 x1 x2 p4.2).bind fun p7 =>
      if p7.1 = 0 then
        some ((-1), p7.2)
      else
        (s_ob p7.2 x0 11).bind fun _ =>
        (f123 x0 x1 x2 p7.2).bind fun p10 =>
        some (p10.1, p10.2)
theorem f124_ok {x0 : Nat} {x1 : Int32} {x2 : Int32} {M : vm_M} {r : Int32 × vm_M} (h : f124 x0 x1 x2 M = some r) (d : Nat) : vm_Cl (d + 3) 124 [.ref (x0), .int (x1), .int (x2)] M (rI r) := by
  have key : Ev 0 (fun _ => 0) (vm_Cl (d + 2)) vp_124 11 3 false (some (.int)) (rI r) 0 (lv_args 0 [.ref (x0), .int (x1), .int (x2)]) [] M := by
    have l0 : (0, .ref (x0)) ∈ lv_args 0 [.ref (x0), .int (x1), .int (x2)] := List.Mem.head _
    have l1 : (1, .int (x1)) ∈ lv_args 0 [.ref (x0), .int (x1), .int (x2)] := List.Mem.tail _ (List.Mem.head _)
    have l2 : (2, .int (x2)) ∈ lv_args 0 [.ref (x0), .int (x1), .int (x2)] := List.Mem.tail _ (List.Mem.tail _ (List.Mem.head _))
    unfold f124 at h
    refine ev_aload_nR (mm 0 rfl) l0 ?_
    refine ev_iload_n (mm 1 rfl) l1 ?_
    obtain ⟨_, e14, h⟩ := bind_so h
    obtain ⟨p1, e2, h⟩ := bind_so h
    refine ev_callV_I [.int (x1)] (mm 2 rfl) rfl rfl (Nat.le_of_ble_eq_true rfl) (s_ob_of e14) (f116_ok e2 (d + 0)) ?_
    rcases ite_so h with ⟨c3, h⟩ | ⟨c3, h⟩
    · refine ev_if_t 33 (mm 3 rfl) rfl c3 ?_
      refine ev_iconst (mm 17 rfl) cI_m1 ?_
      exact ev_ireturn (mm 18 rfl) h
    · refine ev_if_f 33 (mm 3 rfl) rfl c3 ?_
      refine ev_iload_n (mm 4 rfl) l2 ?_
      obtain ⟨p4, e5, h⟩ := bind_so h
      refine ev_callS_I [.int (x2)] (mm 5 rfl) (by decide) rfl rfl (Nat.le_of_ble_eq_true rfl) (f115_ok e5 (d + 0)) ?_
      rcases ite_so h with ⟨c6, h⟩ | ⟨c6, h⟩
      · refine ev_if_t 33 (mm 6 rfl) rfl c6 ?_
        refine ev_iconst (mm 17 rfl) cI_m1 ?_
        exact ev_ireturn (mm 18 rfl) h
      · refine ev_if_f 33 (mm 6 rfl) rfl c6 ?_
        refine ev_aload_nR (mm 7 rfl) l0 ?_
        refine ev_iload_n (mm 8 rfl) l1 ?_
        refine ev_iload_n (mm 9 rfl) l2 ?_
        obtain ⟨_, e13, h⟩ := bind_so h
        obtain ⟨p7, e8, h⟩ := bind_so h
        refine ev_callV_I [.int (x1), .int (x2)] (mm 10 rfl) rfl rfl (Nat.le_of_ble_eq_true rfl) (s_ob_of e13) (f122_ok e8 (d + 1)) ?_
        rcases ite_so h with ⟨c9, h⟩ | ⟨c9, h⟩
        · refine ev_if_t 33 (mm 11 rfl) rfl c9 ?_
          refine ev_iconst (mm 17 rfl) cI_m1 ?_
          exact ev_ireturn (mm 18 rfl) h
        · refine ev_if_f 33 (mm 11 rfl) rfl c9 ?_
          refine ev_aload_nR (mm 12 rfl) l0 ?_
          refine ev_iload_n (mm 13 rfl) l1 ?_
          refine ev_iload_n (mm 14 rfl) l2 ?_
          obtain ⟨_, e12, h⟩ := bind_so h
          obtain ⟨p10, e11, h⟩ := bind_so h
          refine ev_callV_I [.int (x1), .int (x2)] (mm 15 rfl) rfl rfl (Nat.le_of_ble_eq_true rfl) (s_ob_of e12) (f123_ok e11 (d + 0)) ?_
          refine ev_goto 34 (mm 16 rfl) rfl ?_
          exact ev_ireturn (mm 18 rfl) h
  exact ⟨by decide, Nat.le_of_ble_eq_true rfl, key.1, key.2⟩
/-- PupilCoinModel.mark(IIII)I -/
def f125 (x0 : Nat) (x1 : Int32) (x2 : Int32) (x3 : Int32) (x4 : Int32) (M : vm_M) : Option (Int32 × vm_M) :=
  (s_ob M x0 11).bind fun _ =>
  (f116 x0 x1 M).bind fun p1 =>
  if p1.1 = 0 then
    some ((-1), p1.2)
  else
    (f115 x2 p1.2).bind fun p4 =>
    if p4.1 = 0 then
      some ((-1), p4.2)
    else
      (f112 x3 0 5 p4.2).bind fun p7 =>
      if p7.1 = 0 then
        some ((-1), p7.2)
      else
        (f112 x4 0 9999 p7.2).bind fun p10 =>
        if p10.1 = 0 then
          some ((-1), p10.2)
        else
          (sg_i p10.2 x0 11 2).bind fun v13 =>
          if ¬ v13 = 300 then
            (sg_r p10.2 x0 11 9).bind fun v16 =>
            (sg_i p10.2 x0 11 2).bind fun v18 =>
            (v16).bind fun q20 =>
            (ss_i p10.2 q20 0 v18 x1).bind fun M22 =>
            (sg_r M22 x0 11 10).bind fun v24 =>
            (sg_i M22 x0 11 2).bind fun v26 =>
            (v24).bind fun q28 =>
            (ss_i M22 q28 0 v26 x2).bind fun M30 =>
            (sg_r M30 x0 11 11).bind fun v32 =>
            (sg_i M30 x0 11 2).bind fun v34 =>
            (v32).bind fun q36 =>
            (ss_i M30 q36 0 v34 x3).bind fun M38 =>
            (sg_r M38 x0 11 12).bind fun v40 =>
            (sg_i M38 x0 11 2).bind fun v42 =>
            (v40).bind fun q44 =>
            (ss_i M38 q44 0 v42 x4).bind fun M46 =>
            (sg_r M46 x0 11 13).bind fun v48 =>
            (sg_i M46 x0 11 2).bind fun v50 =>
            (sg_i M46 x0 11 0).bind fun v52 =>
            (v48).bind fun q54 =>
            (ss_i M46 q54 0 v50 v52).bind fun M56 =>
            (sg_i M56 x0 11 2).bind fun v58 =>
            (sp_i M56 x0 11 2 (v58 + 1)).bind fun M60 =>
            (sg_i M60 x0 11 2).bind fun v62 =>
            some ((v62 - 1), M60)
          else
            some ((-1), p10.2)
theorem f125_ok {x0 : Nat} {x1 : Int32} {x2 : Int32} {x3 : Int32} {x4 : Int32} {M : vm_M} {r : Int32 × vm_M} (h : f125 x0 x1 x2 x3 x4 M = some r) (d : Nat) : vm_Cl (d + 3) 125 [.ref (x0), .int (x1), .int (x2), .int (x3), .int (x4)] M (rI r) := by
  have key : Ev 0 (fun _ => 0) (vm_Cl (d + 2)) vp_125 11 5 false (some (.int)) (rI r) 0 (lv_args 0 [.ref (x0), .int (x1), .int (x2), .int (x3), .int (x4)]) [] M := by
    have l0 : (0, .ref (x0)) ∈ lv_args 0 [.ref (x0), .int (x1), .int (x2), .int (x3), .int (x4)] := List.Mem.head _
    have l1 : (1, .int (x1)) ∈ lv_args 0 [.ref (x0), .int (x1), .int (x2), .int (x3), .int (x4)] := List.Mem.tail _ (List.Mem.head _)
    have l2 : (2, .int (x2)) ∈ lv_args 0 [.ref (x0), .int (x1), .int (x2), .int (x3), .int (x4)] := List.Mem.tail _ (List.Mem.tail _ (List.Mem.head _))
    have l3 : (3, .int (x3)) ∈ lv_args 0 [.ref (x0), .int (x1), .int (x2), .int (x3), .int (x4)] := List.Mem.tail _ (List.Mem.tail _ (List.Mem.tail _ (List.Mem.head _)))
    have l4 : (4, .int (x4)) ∈ lv_args 0 [.ref (x0), .int (x1), .int (x2), .int (x3), .int (x4)] := List.Mem.tail _ (List.Mem.tail _ (List.Mem.tail _ (List.Mem.tail _ (List.Mem.head _))))
    unfold f125 at h
    refine ev_aload_nR (mm 0 rfl) l0 ?_
    refine ev_iload_n (mm 1 rfl) l1 ?_
    obtain ⟨_, e64, h⟩ := bind_so h
    obtain ⟨p1, e2, h⟩ := bind_so h
    refine ev_callV_I [.int (x1)] (mm 2 rfl) rfl rfl (Nat.le_of_ble_eq_true rfl) (s_ob_of e64) (f116_ok e2 (d + 0)) ?_
    rcases ite_so h with ⟨c3, h⟩ | ⟨c3, h⟩
    · refine ev_if_t 46 (mm 3 rfl) rfl c3 ?_
      refine ev_iconst (mm 21 rfl) cI_m1 ?_
      exact ev_ireturn (mm 22 rfl) h
    · refine ev_if_f 46 (mm 3 rfl) rfl c3 ?_
      refine ev_iload_n (mm 4 rfl) l2 ?_
      obtain ⟨p4, e5, h⟩ := bind_so h
      refine ev_callS_I [.int (x2)] (mm 5 rfl) (by decide) rfl rfl (Nat.le_of_ble_eq_true rfl) (f115_ok e5 (d + 0)) ?_
      rcases ite_so h with ⟨c6, h⟩ | ⟨c6, h⟩
      · refine ev_if_t 46 (mm 6 rfl) rfl c6 ?_
        refine ev_iconst (mm 21 rfl) cI_m1 ?_
        exact ev_ireturn (mm 22 rfl) h
      · refine ev_if_f 46 (mm 6 rfl) rfl c6 ?_
        refine ev_iload_n (mm 7 rfl) l3 ?_
        refine ev_iconst (mm 8 rfl) cI_0 ?_
        refine ev_iconst (mm 9 rfl) cI_5 ?_
        obtain ⟨p7, e8, h⟩ := bind_so h
        refine ev_callS_I [.int (x3), .int (0), .int (5)] (mm 10 rfl) (by decide) rfl rfl (Nat.le_of_ble_eq_true rfl) (f112_ok e8 (d + 1)) ?_
        rcases ite_so h with ⟨c9, h⟩ | ⟨c9, h⟩
        · refine ev_if_t 46 (mm 11 rfl) rfl c9 ?_
          refine ev_iconst (mm 21 rfl) cI_m1 ?_
          exact ev_ireturn (mm 22 rfl) h
        · refine ev_if_f 46 (mm 11 rfl) rfl c9 ?_
          refine ev_iload (mm 12 rfl) l4 ?_
          refine ev_iconst (mm 13 rfl) cI_0 ?_
          refine ev_sipush (mm 14 rfl) cS_9999 ?_
          obtain ⟨p10, e11, h⟩ := bind_so h
          refine ev_callS_I [.int (x4), .int (0), .int (9999)] (mm 15 rfl) (by decide) rfl rfl (Nat.le_of_ble_eq_true rfl) (f112_ok e11 (d + 1)) ?_
          rcases ite_so h with ⟨c12, h⟩ | ⟨c12, h⟩
          · refine ev_if_t 46 (mm 16 rfl) rfl c12 ?_
            refine ev_iconst (mm 21 rfl) cI_m1 ?_
            exact ev_ireturn (mm 22 rfl) h
          · refine ev_if_f 46 (mm 16 rfl) rfl c12 ?_
            refine ev_aload_nR (mm 17 rfl) l0 ?_
            obtain ⟨v13, e14, h⟩ := bind_so h
            refine ev_get_i (mm 18 rfl) rfl e14 ?_
            refine ev_sipush (mm 19 rfl) cS_300 ?_
            rcases ite_so h with ⟨c15, h⟩ | ⟨c15, h⟩
            · refine ev_ic_t 48 (mm 20 rfl) rfl c15 ?_
              refine ev_aload_nR (mm 23 rfl) l0 ?_
              obtain ⟨v16, e17, h⟩ := bind_so h
              refine ev_get_r (mm 24 rfl) rfl e17 ?_
              refine ev_aload_nR (mm 25 rfl) l0 ?_
              obtain ⟨v18, e19, h⟩ := bind_so h
              refine ev_get_i (mm 26 rfl) rfl e19 ?_
              refine ev_iload_n (mm 27 rfl) l1 ?_
              obtain ⟨q20, e21, h⟩ := bind_so h
              rw [e21]
              obtain ⟨M22, e23, h⟩ := bind_so h
              refine ev_iastore (mm 28 rfl) e23 ?_
              refine ev_aload_nR (mm 29 rfl) l0 ?_
              obtain ⟨v24, e25, h⟩ := bind_so h
              refine ev_get_r (mm 30 rfl) rfl e25 ?_
              refine ev_aload_nR (mm 31 rfl) l0 ?_
              obtain ⟨v26, e27, h⟩ := bind_so h
              refine ev_get_i (mm 32 rfl) rfl e27 ?_
              refine ev_iload_n (mm 33 rfl) l2 ?_
              obtain ⟨q28, e29, h⟩ := bind_so h
              rw [e29]
              obtain ⟨M30, e31, h⟩ := bind_so h
              refine ev_iastore (mm 34 rfl) e31 ?_
              refine ev_aload_nR (mm 35 rfl) l0 ?_
              obtain ⟨v32, e33, h⟩ := bind_so h
              refine ev_get_r (mm 36 rfl) rfl e33 ?_
              refine ev_aload_nR (mm 37 rfl) l0 ?_
              obtain ⟨v34, e35, h⟩ := bind_so h
              refine ev_get_i (mm 38 rfl) rfl e35 ?_
              refine ev_iload_n (mm 39 rfl) l3 ?_
              obtain ⟨q36, e37, h⟩ := bind_so h
              rw [e37]
              obtain ⟨M38, e39, h⟩ := bind_so h
              refine ev_iastore (mm 40 rfl) e39 ?_
              refine ev_aload_nR (mm 41 rfl) l0 ?_
              obtain ⟨v40, e41, h⟩ := bind_so h
              refine ev_get_r (mm 42 rfl) rfl e41 ?_
              refine ev_aload_nR (mm 43 rfl) l0 ?_
              obtain ⟨v42, e43, h⟩ := bind_so h
              refine ev_get_i (mm 44 rfl) rfl e43 ?_
              refine ev_iload (mm 45 rfl) l4 ?_
              obtain ⟨q44, e45, h⟩ := bind_so h
              rw [e45]
              obtain ⟨M46, e47, h⟩ := bind_so h
              refine ev_iastore (mm 46 rfl) e47 ?_
              refine ev_aload_nR (mm 47 rfl) l0 ?_
              obtain ⟨v48, e49, h⟩ := bind_so h
              refine ev_get_r (mm 48 rfl) rfl e49 ?_
              refine ev_aload_nR (mm 49 rfl) l0 ?_
              obtain ⟨v50, e51, h⟩ := bind_so h
              refine ev_get_i (mm 50 rfl) rfl e51 ?_
              refine ev_aload_nR (mm 51 rfl) l0 ?_
              obtain ⟨v52, e53, h⟩ := bind_so h
              refine ev_get_i (mm 52 rfl) rfl e53 ?_
              obtain ⟨q54, e55, h⟩ := bind_so h
              rw [e55]
              obtain ⟨M56, e57, h⟩ := bind_so h
              refine ev_iastore (mm 53 rfl) e57 ?_
              refine ev_aload_nR (mm 54 rfl) l0 ?_
              refine ev_dupR (mm 55 rfl) ?_
              obtain ⟨v58, e59, h⟩ := bind_so h
              refine ev_get_i (mm 56 rfl) rfl e59 ?_
              refine ev_iconst (mm 57 rfl) cI_1 ?_
              refine ev_iadd (mm 58 rfl) ?_
              obtain ⟨M60, e61, h⟩ := bind_so h
              refine ev_put_i (mm 59 rfl) (fun z => by cases z) rfl e61 ?_
              refine ev_aload_nR (mm 60 rfl) l0 ?_
              obtain ⟨v62, e63, h⟩ := bind_so h
              refine ev_get_i (mm 61 rfl) rfl e63 ?_
              refine ev_iconst (mm 62 rfl) cI_1 ?_
              refine ev_isub (mm 63 rfl) ?_
              exact ev_ireturn (mm 64 rfl) h
            · refine ev_ic_f 48 (mm 20 rfl) rfl c15 ?_
              refine ev_iconst (mm 21 rfl) cI_m1 ?_
              exact ev_ireturn (mm 22 rfl) h
  exact ⟨by decide, Nat.le_of_ble_eq_true rfl, key.1, key.2⟩
def f126_l6 (x0 : Nat) (x1 : Int32) (x2 : Int32) (x3 : Int32) (x4 : Int32) : Nat → Int32 → Int32 → vm_M → Option (Int32 × vm_M)
  | 0 => fun _ _ _ => none
  | n + 1 => fun x5 x6 M =>
    (sg_i M x0 11 2).bind fun v5 =>
    if v5 ≤ x6 then
      some (x5, M)
    else
      (sg_r M x0 11 9).bind fun v8 =>
      (v8).bind fun q10 =>
      (sa_i M q10 0 x6).bind fun v12 =>
      if ¬ v12 = x1 then
        f126_l6 x0 x1 x2 x3 x4 n x5 (x6 + 1) M
      else
        (sg_r M x0 11 10).bind fun v17 =>
        (v17).bind fun q19 =>
        (sa_i M q19 0 x6).bind fun v21 =>
        if ¬ v21 = x2 then
          f126_l6 x0 x1 x2 x3 x4 n x5 (x6 + 1) M
        else
          (sg_r M x0 11 11).bind fun v26 =>
          (v26).bind fun q28 =>
          (sa_i M q28 0 x6).bind fun v30 =>
          if ¬ v30 = x3 then
            f126_l6 x0 x1 x2 x3 x4 n x5 (x6 + 1) M
          else
            (sg_r M x0 11 13).bind fun v35 =>
            (v35).bind fun q37 =>
            (sa_i M q37 0 x6).bind fun v39 =>
            if x4 < v39 then
              f126_l6 x0 x1 x2 x3 x4 n x5 (x6 + 1) M
            else
              (sg_r M x0 11 12).bind fun v44 =>
              (v44).bind fun q46 =>
              (sa_i M q46 0 x6).bind fun v48 =>
              f126_l6 x0 x1 x2 x3 x4 n v48 (x6 + 1) M
theorem f126_l6_ok {d : Nat} {x0 : Nat} {x1 : Int32} {x2 : Int32} {x3 : Int32} {x4 : Int32} {r : Int32 × vm_M} : ∀ (n : Nat) {x5 : Int32} {x6 : Int32} {M : vm_M} {lv : vm_L}, (0, .ref (x0)) ∈ lv → (1, .int (x1)) ∈ lv → (2, .int (x2)) ∈ lv → (3, .int (x3)) ∈ lv → (4, .int (x4)) ∈ lv → (5, .int (x5)) ∈ lv → (6, .int (x6)) ∈ lv → f126_l6 x0 x1 x2 x3 x4 n x5 x6 M = some r → Ev 0 (fun _ => 0) (vm_Cl (d + 0)) vp_126 11 7 false (some (.int)) (rI r) 6 lv [] M := by
  intro n
  induction n with
  | zero =>
    intro x5 x6 M lv l0 l1 l2 l3 l4 l5 l6 h
    cases h
  | succ n ih =>
    intro x5 x6 M lv l0 l1 l2 l3 l4 l5 l6 h
    dsimp only [f126_l6] at h
    refine ev_iload (mm 4 rfl) l6 ?_
    refine ev_aload_nR (mm 5 rfl) l0 ?_
    obtain ⟨v5, e6, h⟩ := bind_so h
    refine ev_get_i (mm 6 rfl) rfl e6 ?_
    rcases ite_so h with ⟨c7, h⟩ | ⟨c7, h⟩
    · refine ev_ic_t 75 (mm 7 rfl) rfl c7 ?_
      refine ev_iload (mm 39 rfl) l5 ?_
      exact ev_ireturn (mm 40 rfl) h
    · refine ev_ic_f 75 (mm 7 rfl) rfl c7 ?_
      refine ev_aload_nR (mm 8 rfl) l0 ?_
      obtain ⟨v8, e9, h⟩ := bind_so h
      refine ev_get_r (mm 9 rfl) rfl e9 ?_
      refine ev_iload (mm 10 rfl) l6 ?_
      obtain ⟨q10, e11, h⟩ := bind_so h
      rw [e11]
      obtain ⟨v12, e13, h⟩ := bind_so h
      refine ev_iaload (mm 11 rfl) e13 ?_
      refine ev_iload_n (mm 12 rfl) l1 ?_
      rcases ite_so h with ⟨c14, h⟩ | ⟨c14, h⟩
      · refine ev_ic_t 69 (mm 13 rfl) rfl c14 ?_
        refine evs_iinc (mm 37 rfl) cI_1 l6 (by decide) (fun lv15 l6 s16 => ?_)
        have l0 := s16 _ _ l0 rfl
        have l1 := s16 _ _ l1 rfl
        have l2 := s16 _ _ l2 rfl
        have l3 := s16 _ _ l3 rfl
        have l4 := s16 _ _ l4 rfl
        have l5 := s16 _ _ l5 rfl
        refine ev_goto 6 (mm 38 rfl) rfl ?_
        exact ih l0 l1 l2 l3 l4 l5 l6 h
      · refine ev_ic_f 69 (mm 13 rfl) rfl c14 ?_
        refine ev_aload_nR (mm 14 rfl) l0 ?_
        obtain ⟨v17, e18, h⟩ := bind_so h
        refine ev_get_r (mm 15 rfl) rfl e18 ?_
        refine ev_iload (mm 16 rfl) l6 ?_
        obtain ⟨q19, e20, h⟩ := bind_so h
        rw [e20]
        obtain ⟨v21, e22, h⟩ := bind_so h
        refine ev_iaload (mm 17 rfl) e22 ?_
        refine ev_iload_n (mm 18 rfl) l2 ?_
        rcases ite_so h with ⟨c23, h⟩ | ⟨c23, h⟩
        · refine ev_ic_t 69 (mm 19 rfl) rfl c23 ?_
          refine evs_iinc (mm 37 rfl) cI_1 l6 (by decide) (fun lv24 l6 s25 => ?_)
          have l0 := s25 _ _ l0 rfl
          have l1 := s25 _ _ l1 rfl
          have l2 := s25 _ _ l2 rfl
          have l3 := s25 _ _ l3 rfl
          have l4 := s25 _ _ l4 rfl
          have l5 := s25 _ _ l5 rfl
          refine ev_goto 6 (mm 38 rfl) rfl ?_
          exact ih l0 l1 l2 l3 l4 l5 l6 h
        · refine ev_ic_f 69 (mm 19 rfl) rfl c23 ?_
          refine ev_aload_nR (mm 20 rfl) l0 ?_
          obtain ⟨v26, e27, h⟩ := bind_so h
          refine ev_get_r (mm 21 rfl) rfl e27 ?_
          refine ev_iload (mm 22 rfl) l6 ?_
          obtain ⟨q28, e29, h⟩ := bind_so h
          rw [e29]
          obtain ⟨v30, e31, h⟩ := bind_so h
          refine ev_iaload (mm 23 rfl) e31 ?_
          refine ev_iload_n (mm 24 rfl) l3 ?_
          rcases ite_so h with ⟨c32, h⟩ | ⟨c32, h⟩
          · refine ev_ic_t 69 (mm 25 rfl) rfl c32 ?_
            refine evs_iinc (mm 37 rfl) cI_1 l6 (by decide) (fun lv33 l6 s34 => ?_)
            have l0 := s34 _ _ l0 rfl
            have l1 := s34 _ _ l1 rfl
            have l2 := s34 _ _ l2 rfl
            have l3 := s34 _ _ l3 rfl
            have l4 := s34 _ _ l4 rfl
            have l5 := s34 _ _ l5 rfl
            refine ev_goto 6 (mm 38 rfl) rfl ?_
            exact ih l0 l1 l2 l3 l4 l5 l6 h
          · refine ev_ic_f 69 (mm 25 rfl) rfl c32 ?_
            refine ev_aload_nR (mm 26 rfl) l0 ?_
            obtain ⟨v35, e36, h⟩ := bind_so h
            refine ev_get_r (mm 27 rfl) rfl e36 ?_
            refine ev_iload (mm 28 rfl) l6 ?_
            obtain ⟨q37, e38, h⟩ := bind_so h
            rw [e38]
            obtain ⟨v39, e40, h⟩ := bind_so h
            refine ev_iaload (mm 29 rfl) e40 ?_
            refine ev_iload (mm 30 rfl) l4 ?_
            rcases ite_so h with ⟨c41, h⟩ | ⟨c41, h⟩
            · refine ev_ic_t 69 (mm 31 rfl) rfl c41 ?_
              refine evs_iinc (mm 37 rfl) cI_1 l6 (by decide) (fun lv42 l6 s43 => ?_)
              have l0 := s43 _ _ l0 rfl
              have l1 := s43 _ _ l1 rfl
              have l2 := s43 _ _ l2 rfl
              have l3 := s43 _ _ l3 rfl
              have l4 := s43 _ _ l4 rfl
              have l5 := s43 _ _ l5 rfl
              refine ev_goto 6 (mm 38 rfl) rfl ?_
              exact ih l0 l1 l2 l3 l4 l5 l6 h
            · refine ev_ic_f 69 (mm 31 rfl) rfl c41 ?_
              refine ev_aload_nR (mm 32 rfl) l0 ?_
              obtain ⟨v44, e45, h⟩ := bind_so h
              refine ev_get_r (mm 33 rfl) rfl e45 ?_
              refine ev_iload (mm 34 rfl) l6 ?_
              obtain ⟨q46, e47, h⟩ := bind_so h
              rw [e47]
              obtain ⟨v48, e49, h⟩ := bind_so h
              refine ev_iaload (mm 35 rfl) e49 ?_
              refine evs_istore (mm 36 rfl) (by decide) (fun lv50 l5 s51 => ?_)
              have l0 := s51 _ _ l0 rfl
              have l1 := s51 _ _ l1 rfl
              have l2 := s51 _ _ l2 rfl
              have l3 := s51 _ _ l3 rfl
              have l4 := s51 _ _ l4 rfl
              have l6 := s51 _ _ l6 rfl
              refine evs_iinc (mm 37 rfl) cI_1 l6 (by decide) (fun lv52 l6 s53 => ?_)
              have l0 := s53 _ _ l0 rfl
              have l1 := s53 _ _ l1 rfl
              have l2 := s53 _ _ l2 rfl
              have l3 := s53 _ _ l3 rfl
              have l4 := s53 _ _ l4 rfl
              have l5 := s53 _ _ l5 rfl
              refine ev_goto 6 (mm 38 rfl) rfl ?_
              exact ih l0 l1 l2 l3 l4 l5 l6 h
/-- PupilCoinModel.own(IIII)I -/
def f126 (x0 : Nat) (x1 : Int32) (x2 : Int32) (x3 : Int32) (x4 : Int32) (M : vm_M) : Option (Int32 × vm_M) :=
  f126_l6 x0 x1 x2 x3 x4
  
    100000 (-1) 0 M
theorem f126_ok {x0 : Nat} {x1 : Int32} {x2 : Int32} {x3 : Int32} {x4 : Int32} {M : vm_M} {r : Int32 × vm_M} (h : f126 x0 x1 x2 x3 x4 M = some r) (d : Nat) : vm_Cl (d + 1) 126 [.ref (x0), .int (x1), .int (x2), .int (x3), .int (x4)] M (rI r) := by
  have key : Ev 0 (fun _ => 0) (vm_Cl (d + 0)) vp_126 11 7 false (some (.int)) (rI r) 0 (lv_args 0 [.ref (x0), .int (x1), .int (x2), .int (x3), .int (x4)]) [] M := by
    have l0 : (0, .ref (x0)) ∈ lv_args 0 [.ref (x0), .int (x1), .int (x2), .int (x3), .int (x4)] := List.Mem.head _
    have l1 : (1, .int (x1)) ∈ lv_args 0 [.ref (x0), .int (x1), .int (x2), .int (x3), .int (x4)] := List.Mem.tail _ (List.Mem.head _)
    have l2 : (2, .int (x2)) ∈ lv_args 0 [.ref (x0), .int (x1), .int (x2), .int (x3), .int (x4)] := List.Mem.tail _ (List.Mem.tail _ (List.Mem.head _))
    have l3 : (3, .int (x3)) ∈ lv_args 0 [.ref (x0), .int (x1), .int (x2), .int (x3), .int (x4)] := List.Mem.tail _ (List.Mem.tail _ (List.Mem.tail _ (List.Mem.head _)))
    have l4 : (4, .int (x4)) ∈ lv_args 0 [.ref (x0), .int (x1), .int (x2), .int (x3), .int (x4)] := List.Mem.tail _ (List.Mem.tail _ (List.Mem.tail _ (List.Mem.tail _ (List.Mem.head _))))
    unfold f126 at h
    refine ev_iconst (mm 0 rfl) cI_m1 ?_
    refine evs_istore (mm 1 rfl) (by decide) (fun lv1 l5 s2 => ?_)
    have l0 := s2 _ _ l0 rfl
    have l1 := s2 _ _ l1 rfl
    have l2 := s2 _ _ l2 rfl
    have l3 := s2 _ _ l3 rfl
    have l4 := s2 _ _ l4 rfl
    refine ev_iconst (mm 2 rfl) cI_0 ?_
    refine evs_istore (mm 3 rfl) (by decide) (fun lv3 l6 s4 => ?_)
    have l0 := s4 _ _ l0 rfl
    have l1 := s4 _ _ l1 rfl
    have l2 := s4 _ _ l2 rfl
    have l3 := s4 _ _ l3 rfl
    have l4 := s4 _ _ l4 rfl
    have l5 := s4 _ _ l5 rfl
    refine f126_l6_ok 100000 l0 l1 l2 l3 l4 l5 l6 h
  exact ⟨by decide, Nat.le_of_ble_eq_true rfl, key.1, key.2⟩
/-- PupilCoinModel.marked(IIII)I -/
def f127 (x0 : Nat) (x1 : Int32) (x2 : Int32) (x3 : Int32) (x4 : Int32) (M : vm_M) : Option (Int32 × vm_M) :=
  (s_ob M x0 11).bind fun _ =>
  (f116 x0 x1 M).bind fun p1 =>
  if p1.1 = 0 then
    some ((-1), p1.2)
  else
    (f115 x2 p1.2).bind fun p4 =>
    if p4.1 = 0 then
      some ((-1), p4.2)
    else
      (f112 x3 0 5 p4.2).bind fun p7 =>
      if p7.1 = 0 then
        some ((-1), p7.2)
      else
        (f114 x4 p7.2).bind fun p10 =>
        if p10.1 = 0 then
          some ((-1), p10.2)
        else
          (s_ob p10.2 x0 11).bind fun _ =>
          (f126 x0 x1 x2 x3 x4 p10.2).bind fun p13 =>
          some (p13.1, p13.2)
theorem f127_ok {x0 : Nat} {x1 : Int32} {x2 : Int32} {x3 : Int32} {x4 : Int32} {M : vm_M} {r : Int32 × vm_M} (h : f127 x0 x1 x2 x3 x4 M = some r) (d : Nat) : vm_Cl (d + 3) 127 [.ref (x0), .int (x1), .int (x2), .int (x3), .int (x4)] M (rI r) := by
  have key : Ev 0 (fun _ => 0) (vm_Cl (d + 2)) vp_127 11 5 false (some (.int)) (rI r) 0 (lv_args 0 [.ref (x0), .int (x1), .int (x2), .int (x3), .int (x4)]) [] M := by
    have l0 : (0, .ref (x0)) ∈ lv_args 0 [.ref (x0), .int (x1), .int (x2), .int (x3), .int (x4)] := List.Mem.head _
    have l1 : (1, .int (x1)) ∈ lv_args 0 [.ref (x0), .int (x1), .int (x2), .int (x3), .int (x4)] := List.Mem.tail _ (List.Mem.head _)
    have l2 : (2, .int (x2)) ∈ lv_args 0 [.ref (x0), .int (x1), .int (x2), .int (x3), .int (x4)] := List.Mem.tail _ (List.Mem.tail _ (List.Mem.head _))
    have l3 : (3, .int (x3)) ∈ lv_args 0 [.ref (x0), .int (x1), .int (x2), .int (x3), .int (x4)] := List.Mem.tail _ (List.Mem.tail _ (List.Mem.tail _ (List.Mem.head _)))
    have l4 : (4, .int (x4)) ∈ lv_args 0 [.ref (x0), .int (x1), .int (x2), .int (x3), .int (x4)] := List.Mem.tail _ (List.Mem.tail _ (List.Mem.tail _ (List.Mem.tail _ (List.Mem.head _))))
    unfold f127 at h
    refine ev_aload_nR (mm 0 rfl) l0 ?_
    refine ev_iload_n (mm 1 rfl) l1 ?_
    obtain ⟨_, e16, h⟩ := bind_so h
    obtain ⟨p1, e2, h⟩ := bind_so h
    refine ev_callV_I [.int (x1)] (mm 2 rfl) rfl rfl (Nat.le_of_ble_eq_true rfl) (s_ob_of e16) (f116_ok e2 (d + 0)) ?_
    rcases ite_so h with ⟨c3, h⟩ | ⟨c3, h⟩
    · refine ev_if_t 44 (mm 3 rfl) rfl c3 ?_
      refine ev_iconst (mm 22 rfl) cI_m1 ?_
      exact ev_ireturn (mm 23 rfl) h
    · refine ev_if_f 44 (mm 3 rfl) rfl c3 ?_
      refine ev_iload_n (mm 4 rfl) l2 ?_
      obtain ⟨p4, e5, h⟩ := bind_so h
      refine ev_callS_I [.int (x2)] (mm 5 rfl) (by decide) rfl rfl (Nat.le_of_ble_eq_true rfl) (f115_ok e5 (d + 0)) ?_
      rcases ite_so h with ⟨c6, h⟩ | ⟨c6, h⟩
      · refine ev_if_t 44 (mm 6 rfl) rfl c6 ?_
        refine ev_iconst (mm 22 rfl) cI_m1 ?_
        exact ev_ireturn (mm 23 rfl) h
      · refine ev_if_f 44 (mm 6 rfl) rfl c6 ?_
        refine ev_iload_n (mm 7 rfl) l3 ?_
        refine ev_iconst (mm 8 rfl) cI_0 ?_
        refine ev_iconst (mm 9 rfl) cI_5 ?_
        obtain ⟨p7, e8, h⟩ := bind_so h
        refine ev_callS_I [.int (x3), .int (0), .int (5)] (mm 10 rfl) (by decide) rfl rfl (Nat.le_of_ble_eq_true rfl) (f112_ok e8 (d + 1)) ?_
        rcases ite_so h with ⟨c9, h⟩ | ⟨c9, h⟩
        · refine ev_if_t 44 (mm 11 rfl) rfl c9 ?_
          refine ev_iconst (mm 22 rfl) cI_m1 ?_
          exact ev_ireturn (mm 23 rfl) h
        · refine ev_if_f 44 (mm 11 rfl) rfl c9 ?_
          refine ev_iload (mm 12 rfl) l4 ?_
          obtain ⟨p10, e11, h⟩ := bind_so h
          refine ev_callS_I [.int (x4)] (mm 13 rfl) (by decide) rfl rfl (Nat.le_of_ble_eq_true rfl) (f114_ok e11 (d + 0)) ?_
          rcases ite_so h with ⟨c12, h⟩ | ⟨c12, h⟩
          · refine ev_if_t 44 (mm 14 rfl) rfl c12 ?_
            refine ev_iconst (mm 22 rfl) cI_m1 ?_
            exact ev_ireturn (mm 23 rfl) h
          · refine ev_if_f 44 (mm 14 rfl) rfl c12 ?_
            refine ev_aload_nR (mm 15 rfl) l0 ?_
            refine ev_iload_n (mm 16 rfl) l1 ?_
            refine ev_iload_n (mm 17 rfl) l2 ?_
            refine ev_iload_n (mm 18 rfl) l3 ?_
            refine ev_iload (mm 19 rfl) l4 ?_
            obtain ⟨_, e15, h⟩ := bind_so h
            obtain ⟨p13, e14, h⟩ := bind_so h
            refine ev_callV_I [.int (x1), .int (x2), .int (x3), .int (x4)] (mm 20 rfl) rfl rfl (Nat.le_of_ble_eq_true rfl) (s_ob_of e15) (f126_ok e14 (d + 1)) ?_
            refine ev_goto 45 (mm 21 rfl) rfl ?_
            exact ev_ireturn (mm 23 rfl) h
  exact ⟨by decide, Nat.le_of_ble_eq_true rfl, key.1, key.2⟩
/-- PupilCoinModel.isOpenOn(II)Z -/
def f128 (x0 : Nat) (x1 : Int32) (x2 : Int32) (M : vm_M) : Option (Int32 × vm_M) :=
  (s_ob M x0 11).bind fun _ =>
  (f116 x0 x1 M).bind fun p1 =>
  if p1.1 = 0 then
    s_rb 0 p1.2
  else
    (sg_r p1.2 x0 11 15).bind fun v4 =>
    (v4).bind fun q6 =>
    (sa_i p1.2 q6 0 x1).bind fun v8 =>
    if ¬ v8 = 10 then
      s_rb 0 p1.2
    else
      (f115 x2 p1.2).bind fun p11 =>
      if p11.1 = 0 then
        s_rb 0 p11.2
      else
        s_rb 1 p11.2
theorem f128_ok {x0 : Nat} {x1 : Int32} {x2 : Int32} {M : vm_M} {r : Int32 × vm_M} (h : f128 x0 x1 x2 M = some r) (d : Nat) : vm_Cl (d + 3) 128 [.ref (x0), .int (x1), .int (x2)] M (rI r) := by
  have key : Ev 0 (fun _ => 0) (vm_Cl (d + 2)) vp_128 11 3 false (some (.boolean)) (rI r) 0 (lv_args 0 [.ref (x0), .int (x1), .int (x2)]) [] M := by
    have l0 : (0, .ref (x0)) ∈ lv_args 0 [.ref (x0), .int (x1), .int (x2)] := List.Mem.head _
    have l1 : (1, .int (x1)) ∈ lv_args 0 [.ref (x0), .int (x1), .int (x2)] := List.Mem.tail _ (List.Mem.head _)
    have l2 : (2, .int (x2)) ∈ lv_args 0 [.ref (x0), .int (x1), .int (x2)] := List.Mem.tail _ (List.Mem.tail _ (List.Mem.head _))
    unfold f128 at h
    refine ev_aload_nR (mm 0 rfl) l0 ?_
    refine ev_iload_n (mm 1 rfl) l1 ?_
    obtain ⟨_, e14, h⟩ := bind_so h
    obtain ⟨p1, e2, h⟩ := bind_so h
    refine ev_callV_I [.int (x1)] (mm 2 rfl) rfl rfl (Nat.le_of_ble_eq_true rfl) (s_ob_of e14) (f116_ok e2 (d + 0)) ?_
    rcases ite_so h with ⟨c3, h⟩ | ⟨c3, h⟩
    · refine ev_if_t 30 (mm 3 rfl) rfl c3 ?_
      refine ev_iconst (mm 15 rfl) cI_0 ?_
      exact ev_zreturn (mm 16 rfl) h
    · refine ev_if_f 30 (mm 3 rfl) rfl c3 ?_
      refine ev_aload_nR (mm 4 rfl) l0 ?_
      obtain ⟨v4, e5, h⟩ := bind_so h
      refine ev_get_r (mm 5 rfl) rfl e5 ?_
      refine ev_iload_n (mm 6 rfl) l1 ?_
      obtain ⟨q6, e7, h⟩ := bind_so h
      rw [e7]
      obtain ⟨v8, e9, h⟩ := bind_so h
      refine ev_iaload (mm 7 rfl) e9 ?_
      refine ev_bipush (mm 8 rfl) cB_10 ?_
      rcases ite_so h with ⟨c10, h⟩ | ⟨c10, h⟩
      · refine ev_ic_t 30 (mm 9 rfl) rfl c10 ?_
        refine ev_iconst (mm 15 rfl) cI_0 ?_
        exact ev_zreturn (mm 16 rfl) h
      · refine ev_ic_f 30 (mm 9 rfl) rfl c10 ?_
        refine ev_iload_n (mm 10 rfl) l2 ?_
        obtain ⟨p11, e12, h⟩ := bind_so h
        refine ev_callS_I [.int (x2)] (mm 11 rfl) (by decide) rfl rfl (Nat.le_of_ble_eq_true rfl) (f115_ok e12 (d + 0)) ?_
        rcases ite_so h with ⟨c13, h⟩ | ⟨c13, h⟩
        · refine ev_if_t 30 (mm 12 rfl) rfl c13 ?_
          refine ev_iconst (mm 15 rfl) cI_0 ?_
          exact ev_zreturn (mm 16 rfl) h
        · refine ev_if_f 30 (mm 12 rfl) rfl c13 ?_
          refine ev_iconst (mm 13 rfl) cI_1 ?_
          refine ev_goto 31 (mm 14 rfl) rfl ?_
          exact ev_zreturn (mm 16 rfl) h
  exact ⟨by decide, Nat.le_of_ble_eq_true rfl, key.1, key.2⟩
/-- PupilCoinModel.join(III)I -/
def f129 (x0 : Nat) (x1 : Int32) (x2 : Int32) (x3 : Int32) (M : vm_M) : Option (Int32 × vm_M) :=
  (s_ob M x0 11).bind fun _ =>
  (f128 x0 x1 x3 M).bind fun p1 =>
  if p1.1 = 0 then
    some ((-1), p1.2)
  else
    (s_ob p1.2 x0 11).bind fun _ =>
    (f128 x0 x2 x3 p1.2).bind fun p4 =>
    if p4.1 = 0 then
      some ((-1), p4.2)
    else
      if x1 = x2 then
        some ((-1), p4.2)
      else
        (s_ob p4.2 x0 11).bind fun _ =>
        (f118 x0 p4.2).bind fun p8 =>
        if x3 ≤ p8.1 then
          some ((-1), p8.2)
        else
          (sg_i p8.2 x0 11 3).bind fun v11 =>
          if ¬ v11 = 6 then
            (sg_r p8.2 x0 11 14).bind fun v14 =>
            (v14).bind fun q16 =>
            (ss_i p8.2 q16 0 x2 x1).bind fun M18 =>
            (sg_r M18 x0 11 15).bind fun v20 =>
            (v20).bind fun q22 =>
            (ss_i M18 q22 0 x2 x3).bind fun M24 =>
            (sg_i M24 x0 11 3).bind fun v26 =>
            (sp_i M24 x0 11 3 (v26 + 1)).bind fun M28 =>
            (sg_i M28 x0 11 3).bind fun v30 =>
            some (v30, M28)
          else
            some ((-1), p8.2)
theorem f129_ok {x0 : Nat} {x1 : Int32} {x2 : Int32} {x3 : Int32} {M : vm_M} {r : Int32 × vm_M} (h : f129 x0 x1 x2 x3 M = some r) (d : Nat) : vm_Cl (d + 4) 129 [.ref (x0), .int (x1), .int (x2), .int (x3)] M (rI r) := by
  have key : Ev 0 (fun _ => 0) (vm_Cl (d + 3)) vp_129 11 4 false (some (.int)) (rI r) 0 (lv_args 0 [.ref (x0), .int (x1), .int (x2), .int (x3)]) [] M := by
    have l0 : (0, .ref (x0)) ∈ lv_args 0 [.ref (x0), .int (x1), .int (x2), .int (x3)] := List.Mem.head _
    have l1 : (1, .int (x1)) ∈ lv_args 0 [.ref (x0), .int (x1), .int (x2), .int (x3)] := List.Mem.tail _ (List.Mem.head _)
    have l2 : (2, .int (x2)) ∈ lv_args 0 [.ref (x0), .int (x1), .int (x2), .int (x3)] := List.Mem.tail _ (List.Mem.tail _ (List.Mem.head _))
    have l3 : (3, .int (x3)) ∈ lv_args 0 [.ref (x0), .int (x1), .int (x2), .int (x3)] := List.Mem.tail _ (List.Mem.tail _ (List.Mem.tail _ (List.Mem.head _)))
    unfold f129 at h
    refine ev_aload_nR (mm 0 rfl) l0 ?_
    refine ev_iload_n (mm 1 rfl) l1 ?_
    refine ev_iload_n (mm 2 rfl) l3 ?_
    obtain ⟨_, e34, h⟩ := bind_so h
    obtain ⟨p1, e2, h⟩ := bind_so h
    refine ev_callV_I [.int (x1), .int (x3)] (mm 3 rfl) rfl rfl (Nat.le_of_ble_eq_true rfl) (s_ob_of e34) (f128_ok e2 (d + 0)) ?_
    rcases ite_so h with ⟨c3, h⟩ | ⟨c3, h⟩
    · refine ev_if_t 40 (mm 4 rfl) rfl c3 ?_
      refine ev_iconst (mm 21 rfl) cI_m1 ?_
      exact ev_ireturn (mm 22 rfl) h
    · refine ev_if_f 40 (mm 4 rfl) rfl c3 ?_
      refine ev_aload_nR (mm 5 rfl) l0 ?_
      refine ev_iload_n (mm 6 rfl) l2 ?_
      refine ev_iload_n (mm 7 rfl) l3 ?_
      obtain ⟨_, e33, h⟩ := bind_so h
      obtain ⟨p4, e5, h⟩ := bind_so h
      refine ev_callV_I [.int (x2), .int (x3)] (mm 8 rfl) rfl rfl (Nat.le_of_ble_eq_true rfl) (s_ob_of e33) (f128_ok e5 (d + 0)) ?_
      rcases ite_so h with ⟨c6, h⟩ | ⟨c6, h⟩
      · refine ev_if_t 40 (mm 9 rfl) rfl c6 ?_
        refine ev_iconst (mm 21 rfl) cI_m1 ?_
        exact ev_ireturn (mm 22 rfl) h
      · refine ev_if_f 40 (mm 9 rfl) rfl c6 ?_
        refine ev_iload_n (mm 10 rfl) l1 ?_
        refine ev_iload_n (mm 11 rfl) l2 ?_
        rcases ite_so h with ⟨c7, h⟩ | ⟨c7, h⟩
        · refine ev_ic_t 40 (mm 12 rfl) rfl c7 ?_
          refine ev_iconst (mm 21 rfl) cI_m1 ?_
          exact ev_ireturn (mm 22 rfl) h
        · refine ev_ic_f 40 (mm 12 rfl) rfl c7 ?_
          refine ev_iload_n (mm 13 rfl) l3 ?_
          refine ev_aload_nR (mm 14 rfl) l0 ?_
          obtain ⟨_, e32, h⟩ := bind_so h
          obtain ⟨p8, e9, h⟩ := bind_so h
          refine ev_callV_I [] (mm 15 rfl) rfl rfl (Nat.le_of_ble_eq_true rfl) (s_ob_of e32) (f118_ok e9 (d + 2)) ?_
          rcases ite_so h with ⟨c10, h⟩ | ⟨c10, h⟩
          · refine ev_ic_t 40 (mm 16 rfl) rfl c10 ?_
            refine ev_iconst (mm 21 rfl) cI_m1 ?_
            exact ev_ireturn (mm 22 rfl) h
          · refine ev_ic_f 40 (mm 16 rfl) rfl c10 ?_
            refine ev_aload_nR (mm 17 rfl) l0 ?_
            obtain ⟨v11, e12, h⟩ := bind_so h
            refine ev_get_i (mm 18 rfl) rfl e12 ?_
            refine ev_bipush (mm 19 rfl) cB_6 ?_
            rcases ite_so h with ⟨c13, h⟩ | ⟨c13, h⟩
            · refine ev_ic_t 42 (mm 20 rfl) rfl c13 ?_
              refine ev_aload_nR (mm 23 rfl) l0 ?_
              obtain ⟨v14, e15, h⟩ := bind_so h
              refine ev_get_r (mm 24 rfl) rfl e15 ?_
              refine ev_iload_n (mm 25 rfl) l2 ?_
              refine ev_iload_n (mm 26 rfl) l1 ?_
              obtain ⟨q16, e17, h⟩ := bind_so h
              rw [e17]
              obtain ⟨M18, e19, h⟩ := bind_so h
              refine ev_iastore (mm 27 rfl) e19 ?_
              refine ev_aload_nR (mm 28 rfl) l0 ?_
              obtain ⟨v20, e21, h⟩ := bind_so h
              refine ev_get_r (mm 29 rfl) rfl e21 ?_
              refine ev_iload_n (mm 30 rfl) l2 ?_
              refine ev_iload_n (mm 31 rfl) l3 ?_
              obtain ⟨q22, e23, h⟩ := bind_so h
              rw [e23]
              obtain ⟨M24, e25, h⟩ := bind_so h
              refine ev_iastore (mm 32 rfl) e25 ?_
              refine ev_aload_nR (mm 33 rfl) l0 ?_
              refine ev_dupR (mm 34 rfl) ?_
              obtain ⟨v26, e27, h⟩ := bind_so h
              refine ev_get_i (mm 35 rfl) rfl e27 ?_
              refine ev_iconst (mm 36 rfl) cI_1 ?_
              refine ev_iadd (mm 37 rfl) ?_
              obtain ⟨M28, e29, h⟩ := bind_so h
              refine ev_put_i (mm 38 rfl) (fun z => by cases z) rfl e29 ?_
              refine ev_aload_nR (mm 39 rfl) l0 ?_
              obtain ⟨v30, e31, h⟩ := bind_so h
              refine ev_get_i (mm 40 rfl) rfl e31 ?_
              exact ev_ireturn (mm 41 rfl) h
            · refine ev_ic_f 42 (mm 20 rfl) rfl c13 ?_
              refine ev_iconst (mm 21 rfl) cI_m1 ?_
              exact ev_ireturn (mm 22 rfl) h
  exact ⟨by decide, Nat.le_of_ble_eq_true rfl, key.1, key.2⟩
/-- PupilCoinModel.open(II)I -/
def f130 (x0 : Nat) (x1 : Int32) (x2 : Int32) (M : vm_M) : Option (Int32 × vm_M) :=
  (s_ob M x0 11).bind fun _ =>
  (f116 x0 x1 M).bind fun p1 =>
  if p1.1 = 0 then
    some ((-1), p1.2)
  else
    (f115 x2 p1.2).bind fun p4 =>
    if p4.1 = 0 then
      some ((-1), p4.2)
    else
      (s_ob p4.2 x0 11).bind fun _ =>
      (f122 x0 x1 x2 p4.2).bind fun p7 =>
      (f113 p7.1 p7.2).bind fun p9 =>
      some (p9.1, p9.2)
theorem f130_ok {x0 : Nat} {x1 : Int32} {x2 : Int32} {M : vm_M} {r : Int32 × vm_M} (h : f130 x0 x1 x2 M = some r) (d : Nat) : vm_Cl (d + 3) 130 [.ref (x0), .int (x1), .int (x2)] M (rI r) := by
  have key : Ev 0 (fun _ => 0) (vm_Cl (d + 2)) vp_130 11 3 false (some (.int)) (rI r) 0 (lv_args 0 [.ref (x0), .int (x1), .int (x2)]) [] M := by
    have l0 : (0, .ref (x0)) ∈ lv_args 0 [.ref (x0), .int (x1), .int (x2)] := List.Mem.head _
    have l1 : (1, .int (x1)) ∈ lv_args 0 [.ref (x0), .int (x1), .int (x2)] := List.Mem.tail _ (List.Mem.head _)
    have l2 : (2, .int (x2)) ∈ lv_args 0 [.ref (x0), .int (x1), .int (x2)] := List.Mem.tail _ (List.Mem.tail _ (List.Mem.head _))
    unfold f130 at h
    refine ev_aload_nR (mm 0 rfl) l0 ?_
    refine ev_iload_n (mm 1 rfl) l1 ?_
    obtain ⟨_, e12, h⟩ := bind_so h
    obtain ⟨p1, e2, h⟩ := bind_so h
    refine ev_callV_I [.int (x1)] (mm 2 rfl) rfl rfl (Nat.le_of_ble_eq_true rfl) (s_ob_of e12) (f116_ok e2 (d + 0)) ?_
    rcases ite_so h with ⟨c3, h⟩ | ⟨c3, h⟩
    · refine ev_if_t 27 (mm 3 rfl) rfl c3 ?_
      refine ev_iconst (mm 13 rfl) cI_m1 ?_
      exact ev_ireturn (mm 14 rfl) h
    · refine ev_if_f 27 (mm 3 rfl) rfl c3 ?_
      refine ev_iload_n (mm 4 rfl) l2 ?_
      obtain ⟨p4, e5, h⟩ := bind_so h
      refine ev_callS_I [.int (x2)] (mm 5 rfl) (by decide) rfl rfl (Nat.le_of_ble_eq_true rfl) (f115_ok e5 (d + 0)) ?_
      rcases ite_so h with ⟨c6, h⟩ | ⟨c6, h⟩
      · refine ev_if_t 27 (mm 6 rfl) rfl c6 ?_
        refine ev_iconst (mm 13 rfl) cI_m1 ?_
        exact ev_ireturn (mm 14 rfl) h
      · refine ev_if_f 27 (mm 6 rfl) rfl c6 ?_
        refine ev_aload_nR (mm 7 rfl) l0 ?_
        refine ev_iload_n (mm 8 rfl) l1 ?_
        refine ev_iload_n (mm 9 rfl) l2 ?_
        obtain ⟨_, e11, h⟩ := bind_so h
        obtain ⟨p7, e8, h⟩ := bind_so h
        refine ev_callV_I [.int (x1), .int (x2)] (mm 10 rfl) rfl rfl (Nat.le_of_ble_eq_true rfl) (s_ob_of e11) (f122_ok e8 (d + 1)) ?_
        obtain ⟨p9, e10, h⟩ := bind_so h
        refine ev_callS_I [.int (p7.1)] (mm 11 rfl) (by decide) rfl rfl (Nat.le_of_ble_eq_true rfl) (f113_ok e10 (d + 1)) ?_
        refine ev_goto 28 (mm 12 rfl) rfl ?_
        exact ev_ireturn (mm 14 rfl) h
  exact ⟨by decide, Nat.le_of_ble_eq_true rfl, key.1, key.2⟩
def f131_l3 (x0 : Nat) (x2 : Int32) (x3 : Int32) (k32 : Int32 → vm_M → Option (Int32 × vm_M)) : Nat → Int32 → vm_M → Option (Int32 × vm_M)
  | 0 => fun _ _ => none
  | n + 1 => fun x4 M =>
    if x4 = x2 then
      k32 x4 M
    else
      (sg_r M x0 11 15).bind fun v4 =>
      (v4).bind fun q6 =>
      (sa_i M q6 0 x4).bind fun v8 =>
      if x3 < v8 then
        k32 x4 M
      else
        (sg_r M x0 11 14).bind fun v11 =>
        (v11).bind fun q13 =>
        (sa_i M q13 0 x4).bind fun v15 =>
        f131_l3 x0 x2 x3 k32 n v15 M
theorem f131_l3_ok {d : Nat} {x0 : Nat} {x2 : Int32} {x3 : Int32} {k32 : Int32 → vm_M → Option (Int32 × vm_M)} {r : Int32 × vm_M} (hk32 : ∀ {y4 : Int32} {M : vm_M} {lv : vm_L}, (2, .int (x2)) ∈ lv → (4, .int (y4)) ∈ lv → k32 y4 M = some r → Ev 0 (fun _ => 0) (vm_Cl (d + 0)) vp_131 11 5 false (some (.boolean)) (rI r) 32 lv [] M) : ∀ (n : Nat) {x4 : Int32} {M : vm_M} {lv : vm_L}, (0, .ref (x0)) ∈ lv → (2, .int (x2)) ∈ lv → (3, .int (x3)) ∈ lv → (4, .int (x4)) ∈ lv → f131_l3 x0 x2 x3 k32 n x4 M = some r → Ev 0 (fun _ => 0) (vm_Cl (d + 0)) vp_131 11 5 false (some (.boolean)) (rI r) 3 lv [] M := by
  intro n
  induction n with
  | zero =>
    intro x4 M lv l0 l2 l3 l4 h
    cases h
  | succ n ih =>
    intro x4 M lv l0 l2 l3 l4 h
    dsimp only [f131_l3] at h
    refine ev_iload (mm 2 rfl) l4 ?_
    refine ev_iload_n (mm 3 rfl) l2 ?_
    rcases ite_so h with ⟨c3, h⟩ | ⟨c3, h⟩
    · refine ev_ic_t 32 (mm 4 rfl) rfl c3 ?_
      exact hk32 l2 l4 h
    · refine ev_ic_f 32 (mm 4 rfl) rfl c3 ?_
      refine ev_aload_nR (mm 5 rfl) l0 ?_
      obtain ⟨v4, e5, h⟩ := bind_so h
      refine ev_get_r (mm 6 rfl) rfl e5 ?_
      refine ev_iload (mm 7 rfl) l4 ?_
      obtain ⟨q6, e7, h⟩ := bind_so h
      rw [e7]
      obtain ⟨v8, e9, h⟩ := bind_so h
      refine ev_iaload (mm 8 rfl) e9 ?_
      refine ev_iload_n (mm 9 rfl) l3 ?_
      rcases ite_so h with ⟨c10, h⟩ | ⟨c10, h⟩
      · refine ev_ic_t 32 (mm 10 rfl) rfl c10 ?_
        exact hk32 l2 l4 h
      · refine ev_ic_f 32 (mm 10 rfl) rfl c10 ?_
        refine ev_aload_nR (mm 11 rfl) l0 ?_
        obtain ⟨v11, e12, h⟩ := bind_so h
        refine ev_get_r (mm 12 rfl) rfl e12 ?_
        refine ev_iload (mm 13 rfl) l4 ?_
        obtain ⟨q13, e14, h⟩ := bind_so h
        rw [e14]
        obtain ⟨v15, e16, h⟩ := bind_so h
        refine ev_iaload (mm 14 rfl) e16 ?_
        refine evs_istore (mm 15 rfl) (by decide) (fun lv17 l4 s18 => ?_)
        have l0 := s18 _ _ l0 rfl
        have l2 := s18 _ _ l2 rfl
        have l3 := s18 _ _ l3 rfl
        refine ev_goto 3 (mm 16 rfl) rfl ?_
        exact ih l0 l2 l3 l4 h
def f131_j32 (x2 : Int32) (x4 : Int32) (M : vm_M) : Option (Int32 × vm_M) :=
  if ¬ x4 = x2 then
    s_rb 0 M
  else
    s_rb 1 M
theorem f131_j32_ok {d : Nat} {x2 : Int32} {x4 : Int32} {M : vm_M} {r : Int32 × vm_M} {lv : vm_L} (l2 : (2, .int (x2)) ∈ lv) (l4 : (4, .int (x4)) ∈ lv) (h : f131_j32 x2 x4 M = some r) : Ev 0 (fun _ => 0) (vm_Cl (d + 0)) vp_131 11 5 false (some (.boolean)) (rI r) 32 lv [] M := by
  unfold f131_j32 at h
  refine ev_iload (mm 17 rfl) l4 ?_
  refine ev_iload_n (mm 18 rfl) l2 ?_
  rcases ite_so h with ⟨c21, h⟩ | ⟨c21, h⟩
  · refine ev_ic_t 42 (mm 19 rfl) rfl c21 ?_
    refine ev_iconst (mm 22 rfl) cI_0 ?_
    exact ev_zreturn (mm 23 rfl) h
  · refine ev_ic_f 42 (mm 19 rfl) rfl c21 ?_
    refine ev_iconst (mm 20 rfl) cI_1 ?_
    refine ev_goto 43 (mm 21 rfl) rfl ?_
    exact ev_zreturn (mm 23 rfl) h
/-- PupilCoinModel.isOf(III)Z -/
def f131 (x0 : Nat) (x1 : Int32) (x2 : Int32) (x3 : Int32) (M : vm_M) : Option (Int32 × vm_M) :=
  f131_l3 x0 x2 x3
    (fun y19 M20 =>
      f131_j32 x2 y19 M20)
    100000 x1 M
theorem f131_ok {x0 : Nat} {x1 : Int32} {x2 : Int32} {x3 : Int32} {M : vm_M} {r : Int32 × vm_M} (h : f131 x0 x1 x2 x3 M = some r) (d : Nat) : vm_Cl (d + 1) 131 [.ref (x0), .int (x1), .int (x2), .int (x3)] M (rI r) := by
  have key : Ev 0 (fun _ => 0) (vm_Cl (d + 0)) vp_131 11 5 false (some (.boolean)) (rI r) 0 (lv_args 0 [.ref (x0), .int (x1), .int (x2), .int (x3)]) [] M := by
    have l0 : (0, .ref (x0)) ∈ lv_args 0 [.ref (x0), .int (x1), .int (x2), .int (x3)] := List.Mem.head _
    have l1 : (1, .int (x1)) ∈ lv_args 0 [.ref (x0), .int (x1), .int (x2), .int (x3)] := List.Mem.tail _ (List.Mem.head _)
    have l2 : (2, .int (x2)) ∈ lv_args 0 [.ref (x0), .int (x1), .int (x2), .int (x3)] := List.Mem.tail _ (List.Mem.tail _ (List.Mem.head _))
    have l3 : (3, .int (x3)) ∈ lv_args 0 [.ref (x0), .int (x1), .int (x2), .int (x3)] := List.Mem.tail _ (List.Mem.tail _ (List.Mem.tail _ (List.Mem.head _)))
    unfold f131 at h
    refine ev_iload_n (mm 0 rfl) l1 ?_
    refine evs_istore (mm 1 rfl) (by decide) (fun lv1 l4 s2 => ?_)
    have l0 := s2 _ _ l0 rfl
    have l2 := s2 _ _ l2 rfl
    have l3 := s2 _ _ l3 rfl
    refine f131_l3_ok ?_ 100000 l0 l2 l3 l4 h
    · intro y19 M20 lv l2 l4
      intro h
      exact f131_j32_ok l2 l4 h
  exact ⟨by decide, Nat.le_of_ble_eq_true rfl, key.1, key.2⟩
def f132_l6 (x0 : Nat) (x1 : Int32) (x2 : Int32) (x3 : Int32) (x4 : Int32) (x5 : Int32) : Nat → Int32 → Int32 → vm_M → Option (Int32 × vm_M)
  | 0 => fun _ _ _ => none
  | n + 1 => fun x6 x7 M =>
    (sg_i M x0 11 1).bind fun v5 =>
    if v5 ≤ x7 then
      some (x6, M)
    else
      (s_ob M x0 11).bind fun _ =>
      (f131 x0 x7 x1 x2 M).bind fun p8 =>
      if p8.1 = 0 then
        f132_l6 x0 x1 x2 x3 x4 x5 n x6 (x7 + 1) p8.2
      else
        (s_ob p8.2 x0 11).bind fun _ =>
        (f126 x0 x7 x3 x4 x5 p8.2).bind fun p13 =>
        f132_l6 x0 x1 x2 x3 x4 x5 n (x6 + (s_mxI 0 p13.1)) (x7 + 1) p13.2
theorem f132_l6_ok {d : Nat} {x0 : Nat} {x1 : Int32} {x2 : Int32} {x3 : Int32} {x4 : Int32} {x5 : Int32} {r : Int32 × vm_M} : ∀ (n : Nat) {x6 : Int32} {x7 : Int32} {M : vm_M} {lv : vm_L}, (0, .ref (x0)) ∈ lv → (1, .int (x1)) ∈ lv → (2, .int (x2)) ∈ lv → (3, .int (x3)) ∈ lv → (4, .int (x4)) ∈ lv → (5, .int (x5)) ∈ lv → (6, .int (x6)) ∈ lv → (7, .int (x7)) ∈ lv → f132_l6 x0 x1 x2 x3 x4 x5 n x6 x7 M = some r → Ev 0 (fun _ => 0) (vm_Cl (d + 1)) vp_132 11 8 false (some (.int)) (rI r) 6 lv [] M := by
  intro n
  induction n with
  | zero =>
    intro x6 x7 M lv l0 l1 l2 l3 l4 l5 l6 l7 h
    cases h
  | succ n ih =>
    intro x6 x7 M lv l0 l1 l2 l3 l4 l5 l6 l7 h
    dsimp only [f132_l6] at h
    refine ev_iload (mm 4 rfl) l7 ?_
    refine ev_aload_nR (mm 5 rfl) l0 ?_
    obtain ⟨v5, e6, h⟩ := bind_so h
    refine ev_get_i (mm 6 rfl) rfl e6 ?_
    rcases ite_so h with ⟨c7, h⟩ | ⟨c7, h⟩
    · refine ev_ic_t 52 (mm 7 rfl) rfl c7 ?_
      refine ev_iload (mm 27 rfl) l6 ?_
      exact ev_ireturn (mm 28 rfl) h
    · refine ev_ic_f 52 (mm 7 rfl) rfl c7 ?_
      refine ev_aload_nR (mm 8 rfl) l0 ?_
      refine ev_iload (mm 9 rfl) l7 ?_
      refine ev_iload_n (mm 10 rfl) l1 ?_
      refine ev_iload_n (mm 11 rfl) l2 ?_
      obtain ⟨_, e20, h⟩ := bind_so h
      obtain ⟨p8, e9, h⟩ := bind_so h
      refine ev_callV_I [.int (x7), .int (x1), .int (x2)] (mm 12 rfl) rfl rfl (Nat.le_of_ble_eq_true rfl) (s_ob_of e20) (f131_ok e9 (d + 0)) ?_
      rcases ite_so h with ⟨c10, h⟩ | ⟨c10, h⟩
      · refine ev_if_t 46 (mm 13 rfl) rfl c10 ?_
        refine evs_iinc (mm 25 rfl) cI_1 l7 (by decide) (fun lv11 l7 s12 => ?_)
        have l0 := s12 _ _ l0 rfl
        have l1 := s12 _ _ l1 rfl
        have l2 := s12 _ _ l2 rfl
        have l3 := s12 _ _ l3 rfl
        have l4 := s12 _ _ l4 rfl
        have l5 := s12 _ _ l5 rfl
        have l6 := s12 _ _ l6 rfl
        refine ev_goto 6 (mm 26 rfl) rfl ?_
        exact ih l0 l1 l2 l3 l4 l5 l6 l7 h
      · refine ev_if_f 46 (mm 13 rfl) rfl c10 ?_
        refine ev_iload (mm 14 rfl) l6 ?_
        refine ev_iconst (mm 15 rfl) cI_0 ?_
        refine ev_aload_nR (mm 16 rfl) l0 ?_
        refine ev_iload (mm 17 rfl) l7 ?_
        refine ev_iload_n (mm 18 rfl) l3 ?_
        refine ev_iload (mm 19 rfl) l4 ?_
        refine ev_iload (mm 20 rfl) l5 ?_
        obtain ⟨_, e19, h⟩ := bind_so h
        obtain ⟨p13, e14, h⟩ := bind_so h
        refine ev_callV_I [.int (x7), .int (x3), .int (x4), .int (x5)] (mm 21 rfl) rfl rfl (Nat.le_of_ble_eq_true rfl) (s_ob_of e19) (f126_ok e14 (d + 0)) ?_
        refine ev_mxI (mm 22 rfl) (Nat.le_of_ble_eq_true rfl) ?_
        refine ev_iadd (mm 23 rfl) ?_
        refine evs_istore (mm 24 rfl) (by decide) (fun lv15 l6 s16 => ?_)
        have l0 := s16 _ _ l0 rfl
        have l1 := s16 _ _ l1 rfl
        have l2 := s16 _ _ l2 rfl
        have l3 := s16 _ _ l3 rfl
        have l4 := s16 _ _ l4 rfl
        have l5 := s16 _ _ l5 rfl
        have l7 := s16 _ _ l7 rfl
        refine evs_iinc (mm 25 rfl) cI_1 l7 (by decide) (fun lv17 l7 s18 => ?_)
        have l0 := s18 _ _ l0 rfl
        have l1 := s18 _ _ l1 rfl
        have l2 := s18 _ _ l2 rfl
        have l3 := s18 _ _ l3 rfl
        have l4 := s18 _ _ l4 rfl
        have l5 := s18 _ _ l5 rfl
        have l6 := s18 _ _ l6 rfl
        refine ev_goto 6 (mm 26 rfl) rfl ?_
        exact ih l0 l1 l2 l3 l4 l5 l6 l7 h
/-- PupilCoinModel.markBy(IIIII)I -/
def f132 (x0 : Nat) (x1 : Int32) (x2 : Int32) (x3 : Int32) (x4 : Int32) (x5 : Int32) (M : vm_M) : Option (Int32 × vm_M) :=
  f132_l6 x0 x1 x2 x3 x4 x5
  
    100000 0 0 M
theorem f132_ok {x0 : Nat} {x1 : Int32} {x2 : Int32} {x3 : Int32} {x4 : Int32} {x5 : Int32} {M : vm_M} {r : Int32 × vm_M} (h : f132 x0 x1 x2 x3 x4 x5 M = some r) (d : Nat) : vm_Cl (d + 2) 132 [.ref (x0), .int (x1), .int (x2), .int (x3), .int (x4), .int (x5)] M (rI r) := by
  have key : Ev 0 (fun _ => 0) (vm_Cl (d + 1)) vp_132 11 8 false (some (.int)) (rI r) 0 (lv_args 0 [.ref (x0), .int (x1), .int (x2), .int (x3), .int (x4), .int (x5)]) [] M := by
    have l0 : (0, .ref (x0)) ∈ lv_args 0 [.ref (x0), .int (x1), .int (x2), .int (x3), .int (x4), .int (x5)] := List.Mem.head _
    have l1 : (1, .int (x1)) ∈ lv_args 0 [.ref (x0), .int (x1), .int (x2), .int (x3), .int (x4), .int (x5)] := List.Mem.tail _ (List.Mem.head _)
    have l2 : (2, .int (x2)) ∈ lv_args 0 [.ref (x0), .int (x1), .int (x2), .int (x3), .int (x4), .int (x5)] := List.Mem.tail _ (List.Mem.tail _ (List.Mem.head _))
    have l3 : (3, .int (x3)) ∈ lv_args 0 [.ref (x0), .int (x1), .int (x2), .int (x3), .int (x4), .int (x5)] := List.Mem.tail _ (List.Mem.tail _ (List.Mem.tail _ (List.Mem.head _)))
    have l4 : (4, .int (x4)) ∈ lv_args 0 [.ref (x0), .int (x1), .int (x2), .int (x3), .int (x4), .int (x5)] := List.Mem.tail _ (List.Mem.tail _ (List.Mem.tail _ (List.Mem.tail _ (List.Mem.head _))))
    have l5 : (5, .int (x5)) ∈ lv_args 0 [.ref (x0), .int (x1), .int (x2), .int (x3), .int (x4), .int (x5)] := List.Mem.tail _ (List.Mem.tail _ (List.Mem.tail _ (List.Mem.tail _ (List.Mem.tail _ (List.Mem.head _)))))
    unfold f132 at h
    refine ev_iconst (mm 0 rfl) cI_0 ?_
    refine evs_istore (mm 1 rfl) (by decide) (fun lv1 l6 s2 => ?_)
    have l0 := s2 _ _ l0 rfl
    have l1 := s2 _ _ l1 rfl
    have l2 := s2 _ _ l2 rfl
    have l3 := s2 _ _ l3 rfl
    have l4 := s2 _ _ l4 rfl
    have l5 := s2 _ _ l5 rfl
    refine ev_iconst (mm 2 rfl) cI_0 ?_
    refine evs_istore (mm 3 rfl) (by decide) (fun lv3 l7 s4 => ?_)
    have l0 := s4 _ _ l0 rfl
    have l1 := s4 _ _ l1 rfl
    have l2 := s4 _ _ l2 rfl
    have l3 := s4 _ _ l3 rfl
    have l4 := s4 _ _ l4 rfl
    have l5 := s4 _ _ l5 rfl
    have l6 := s4 _ _ l6 rfl
    refine f132_l6_ok 100000 l0 l1 l2 l3 l4 l5 l6 l7 h
  exact ⟨by decide, Nat.le_of_ble_eq_true rfl, key.1, key.2⟩
/-- PupilCoinModel.headsBy(IIII)I -/
def f133 (x0 : Nat) (x1 : Int32) (x2 : Int32) (x3 : Int32) (x4 : Int32) (M : vm_M) : Option (Int32 × vm_M) :=
  (s_ob M x0 11).bind fun _ =>
  (f132 x0 x1 x2 x3 0 x4 M).bind fun p1 =>
  (s_ob p1.2 x0 11).bind fun _ =>
  (f132 x0 x1 x2 x3 1 x4 p1.2).bind fun p3 =>
  (s_ob p3.2 x0 11).bind fun _ =>
  (f132 x0 x1 x2 x3 2 x4 p3.2).bind fun p5 =>
  some (((p1.1 + p3.1) + p5.1), p5.2)
theorem f133_ok {x0 : Nat} {x1 : Int32} {x2 : Int32} {x3 : Int32} {x4 : Int32} {M : vm_M} {r : Int32 × vm_M} (h : f133 x0 x1 x2 x3 x4 M = some r) (d : Nat) : vm_Cl (d + 3) 133 [.ref (x0), .int (x1), .int (x2), .int (x3), .int (x4)] M (rI r) := by
  have key : Ev 0 (fun _ => 0) (vm_Cl (d + 2)) vp_133 11 5 false (some (.int)) (rI r) 0 (lv_args 0 [.ref (x0), .int (x1), .int (x2), .int (x3), .int (x4)]) [] M := by
    have l0 : (0, .ref (x0)) ∈ lv_args 0 [.ref (x0), .int (x1), .int (x2), .int (x3), .int (x4)] := List.Mem.head _
    have l1 : (1, .int (x1)) ∈ lv_args 0 [.ref (x0), .int (x1), .int (x2), .int (x3), .int (x4)] := List.Mem.tail _ (List.Mem.head _)
    have l2 : (2, .int (x2)) ∈ lv_args 0 [.ref (x0), .int (x1), .int (x2), .int (x3), .int (x4)] := List.Mem.tail _ (List.Mem.tail _ (List.Mem.head _))
    have l3 : (3, .int (x3)) ∈ lv_args 0 [.ref (x0), .int (x1), .int (x2), .int (x3), .int (x4)] := List.Mem.tail _ (List.Mem.tail _ (List.Mem.tail _ (List.Mem.head _)))
    have l4 : (4, .int (x4)) ∈ lv_args 0 [.ref (x0), .int (x1), .int (x2), .int (x3), .int (x4)] := List.Mem.tail _ (List.Mem.tail _ (List.Mem.tail _ (List.Mem.tail _ (List.Mem.head _))))
    unfold f133 at h
    refine ev_aload_nR (mm 0 rfl) l0 ?_
    refine ev_iload_n (mm 1 rfl) l1 ?_
    refine ev_iload_n (mm 2 rfl) l2 ?_
    refine ev_iload_n (mm 3 rfl) l3 ?_
    refine ev_iconst (mm 4 rfl) cI_0 ?_
    refine ev_iload (mm 5 rfl) l4 ?_
    obtain ⟨_, e9, h⟩ := bind_so h
    obtain ⟨p1, e2, h⟩ := bind_so h
    refine ev_callV_I [.int (x1), .int (x2), .int (x3), .int (0), .int (x4)] (mm 6 rfl) rfl rfl (Nat.le_of_ble_eq_true rfl) (s_ob_of e9) (f132_ok e2 (d + 0)) ?_
    refine ev_aload_nR (mm 7 rfl) l0 ?_
    refine ev_iload_n (mm 8 rfl) l1 ?_
    refine ev_iload_n (mm 9 rfl) l2 ?_
    refine ev_iload_n (mm 10 rfl) l3 ?_
    refine ev_iconst (mm 11 rfl) cI_1 ?_
    refine ev_iload (mm 12 rfl) l4 ?_
    obtain ⟨_, e8, h⟩ := bind_so h
    obtain ⟨p3, e4, h⟩ := bind_so h
    refine ev_callV_I [.int (x1), .int (x2), .int (x3), .int (1), .int (x4)] (mm 13 rfl) rfl rfl (Nat.le_of_ble_eq_true rfl) (s_ob_of e8) (f132_ok e4 (d + 0)) ?_
    refine ev_iadd (mm 14 rfl) ?_
    refine ev_aload_nR (mm 15 rfl) l0 ?_
    refine ev_iload_n (mm 16 rfl) l1 ?_
    refine ev_iload_n (mm 17 rfl) l2 ?_
    refine ev_iload_n (mm 18 rfl) l3 ?_
    refine ev_iconst (mm 19 rfl) cI_2 ?_
    refine ev_iload (mm 20 rfl) l4 ?_
    obtain ⟨_, e7, h⟩ := bind_so h
    obtain ⟨p5, e6, h⟩ := bind_so h
    refine ev_callV_I [.int (x1), .int (x2), .int (x3), .int (2), .int (x4)] (mm 21 rfl) rfl rfl (Nat.le_of_ble_eq_true rfl) (s_ob_of e7) (f132_ok e6 (d + 0)) ?_
    refine ev_iadd (mm 22 rfl) ?_
    exact ev_ireturn (mm 23 rfl) h
  exact ⟨by decide, Nat.le_of_ble_eq_true rfl, key.1, key.2⟩
def f135_l3 (x0 : Nat) (x1 : Int32) : Nat → Int32 → vm_M → Option (vm_M)
  | 0 => fun _ _ => none
  | n + 1 => fun x2 M =>
    if x2 < 0 then
      some M
    else
      (sg_r M x0 11 40).bind fun v4 =>
      (sg_i M x0 11 19).bind fun v6 =>
      (v4).bind fun q8 =>
      (ss_i M q8 3 v6 (((x1 >>> (x2 &&& 31)) : Int32).toInt8.toInt32)).bind fun M10 =>
      (sg_i M10 x0 11 19).bind fun v12 =>
      (sp_i M10 x0 11 19 (v12 + 1)).bind fun M14 =>
      f135_l3 x0 x1 n (x2 + (-8)) M14
theorem f135_l3_ok {d : Nat} {x0 : Nat} {x1 : Int32} {r : vm_M} : ∀ (n : Nat) {x2 : Int32} {M : vm_M} {lv : vm_L}, (0, .ref (x0)) ∈ lv → (1, .int (x1)) ∈ lv → (2, .int (x2)) ∈ lv → f135_l3 x0 x1 n x2 M = some r → Ev 0 (fun _ => 0) (vm_Cl (d + 0)) vp_135 11 3 false none (rV r) 3 lv [] M := by
  intro n
  induction n with
  | zero =>
    intro x2 M lv l0 l1 l2 h
    cases h
  | succ n ih =>
    intro x2 M lv l0 l1 l2 h
    dsimp only [f135_l3] at h
    refine ev_iload_n (mm 2 rfl) l2 ?_
    rcases ite_so h with ⟨c3, h⟩ | ⟨c3, h⟩
    · refine ev_if_t 36 (mm 3 rfl) rfl c3 ?_
      exact ev_return (mm 21 rfl) h
    · refine ev_if_f 36 (mm 3 rfl) rfl c3 ?_
      refine ev_aload_nR (mm 4 rfl) l0 ?_
      obtain ⟨v4, e5, h⟩ := bind_so h
      refine ev_get_r (mm 5 rfl) rfl e5 ?_
      refine ev_aload_nR (mm 6 rfl) l0 ?_
      obtain ⟨v6, e7, h⟩ := bind_so h
      refine ev_get_i (mm 7 rfl) rfl e7 ?_
      refine ev_iload_n (mm 8 rfl) l1 ?_
      refine ev_iload_n (mm 9 rfl) l2 ?_
      refine ev_ishr (mm 10 rfl) ?_
      refine ev_i2b (mm 11 rfl) ?_
      obtain ⟨q8, e9, h⟩ := bind_so h
      rw [e9]
      obtain ⟨M10, e11, h⟩ := bind_so h
      refine ev_bastore (mm 12 rfl) e11 ?_
      refine ev_aload_nR (mm 13 rfl) l0 ?_
      refine ev_dupR (mm 14 rfl) ?_
      obtain ⟨v12, e13, h⟩ := bind_so h
      refine ev_get_i (mm 15 rfl) rfl e13 ?_
      refine ev_iconst (mm 16 rfl) cI_1 ?_
      refine ev_iadd (mm 17 rfl) ?_
      obtain ⟨M14, e15, h⟩ := bind_so h
      refine ev_put_i (mm 18 rfl) (fun z => by cases z) rfl e15 ?_
      refine evs_iinc (mm 19 rfl) cI_m8 l2 (by decide) (fun lv16 l2 s17 => ?_)
      have l0 := s17 _ _ l0 rfl
      have l1 := s17 _ _ l1 rfl
      refine ev_goto 3 (mm 20 rfl) rfl ?_
      exact ih l0 l1 l2 h
/-- PupilCoinModel.four(I)V -/
def f135 (x0 : Nat) (x1 : Int32) (M : vm_M) : Option (vm_M) :=
  f135_l3 x0 x1
  
    100000 24 M
theorem f135_ok {x0 : Nat} {x1 : Int32} {M : vm_M} {r : vm_M} (h : f135 x0 x1 M = some r) (d : Nat) : vm_Cl (d + 1) 135 [.ref (x0), .int (x1)] M (rV r) := by
  have key : Ev 0 (fun _ => 0) (vm_Cl (d + 0)) vp_135 11 3 false none (rV r) 0 (lv_args 0 [.ref (x0), .int (x1)]) [] M := by
    have l0 : (0, .ref (x0)) ∈ lv_args 0 [.ref (x0), .int (x1)] := List.Mem.head _
    have l1 : (1, .int (x1)) ∈ lv_args 0 [.ref (x0), .int (x1)] := List.Mem.tail _ (List.Mem.head _)
    unfold f135 at h
    refine ev_bipush (mm 0 rfl) cB_24 ?_
    refine evs_istore_n (mm 1 rfl) (by decide) (fun lv1 l2 s2 => ?_)
    have l0 := s2 _ _ l0 rfl
    have l1 := s2 _ _ l1 rfl
    refine f135_l3_ok 100000 l0 l1 l2 h
  exact ⟨by decide, Nat.le_of_ble_eq_true rfl, key.1, key.2⟩
/-- PupilCoinModel.feed(IIIII)I -/
def f134 (x0 : Nat) (x1 : Int32) (x2 : Int32) (x3 : Int32) (x4 : Int32) (x5 : Int32) (M : vm_M) : Option (Int32 × vm_M) :=
  (sg_i M x0 11 19).bind fun v1 =>
  if (v1 + 20) ≤ 700 then
    (s_ob M x0 11).bind fun _ =>
    (f135 x0 x1 M).bind fun p4 =>
    (s_ob p4 x0 11).bind fun _ =>
    (f135 x0 x2 p4).bind fun p6 =>
    (s_ob p6 x0 11).bind fun _ =>
    (f135 x0 x3 p6).bind fun p8 =>
    (s_ob p8 x0 11).bind fun _ =>
    (f135 x0 x4 p8).bind fun p10 =>
    (s_ob p10 x0 11).bind fun _ =>
    (f135 x0 x5 p10).bind fun p12 =>
    (sg_i p12 x0 11 19).bind fun v14 =>
    some (v14, p12)
  else
    some ((-1), M)
theorem f134_ok {x0 : Nat} {x1 : Int32} {x2 : Int32} {x3 : Int32} {x4 : Int32} {x5 : Int32} {M : vm_M} {r : Int32 × vm_M} (h : f134 x0 x1 x2 x3 x4 x5 M = some r) (d : Nat) : vm_Cl (d + 2) 134 [.ref (x0), .int (x1), .int (x2), .int (x3), .int (x4), .int (x5)] M (rI r) := by
  have key : Ev 0 (fun _ => 0) (vm_Cl (d + 1)) vp_134 11 6 false (some (.int)) (rI r) 0 (lv_args 0 [.ref (x0), .int (x1), .int (x2), .int (x3), .int (x4), .int (x5)]) [] M := by
    have l0 : (0, .ref (x0)) ∈ lv_args 0 [.ref (x0), .int (x1), .int (x2), .int (x3), .int (x4), .int (x5)] := List.Mem.head _
    have l1 : (1, .int (x1)) ∈ lv_args 0 [.ref (x0), .int (x1), .int (x2), .int (x3), .int (x4), .int (x5)] := List.Mem.tail _ (List.Mem.head _)
    have l2 : (2, .int (x2)) ∈ lv_args 0 [.ref (x0), .int (x1), .int (x2), .int (x3), .int (x4), .int (x5)] := List.Mem.tail _ (List.Mem.tail _ (List.Mem.head _))
    have l3 : (3, .int (x3)) ∈ lv_args 0 [.ref (x0), .int (x1), .int (x2), .int (x3), .int (x4), .int (x5)] := List.Mem.tail _ (List.Mem.tail _ (List.Mem.tail _ (List.Mem.head _)))
    have l4 : (4, .int (x4)) ∈ lv_args 0 [.ref (x0), .int (x1), .int (x2), .int (x3), .int (x4), .int (x5)] := List.Mem.tail _ (List.Mem.tail _ (List.Mem.tail _ (List.Mem.tail _ (List.Mem.head _))))
    have l5 : (5, .int (x5)) ∈ lv_args 0 [.ref (x0), .int (x1), .int (x2), .int (x3), .int (x4), .int (x5)] := List.Mem.tail _ (List.Mem.tail _ (List.Mem.tail _ (List.Mem.tail _ (List.Mem.tail _ (List.Mem.head _)))))
    unfold f134 at h
    refine ev_aload_nR (mm 0 rfl) l0 ?_
    obtain ⟨v1, e2, h⟩ := bind_so h
    refine ev_get_i (mm 1 rfl) rfl e2 ?_
    refine ev_bipush (mm 2 rfl) cB_20 ?_
    refine ev_iadd (mm 3 rfl) ?_
    refine ev_sipush (mm 4 rfl) cS_700 ?_
    rcases ite_so h with ⟨c3, h⟩ | ⟨c3, h⟩
    · refine ev_ic_t 15 (mm 5 rfl) rfl c3 ?_
      refine ev_aload_nR (mm 8 rfl) l0 ?_
      refine ev_iload_n (mm 9 rfl) l1 ?_
      obtain ⟨_, e20, h⟩ := bind_so h
      obtain ⟨p4, e5, h⟩ := bind_so h
      refine ev_callV_V [.int (x1)] (mm 10 rfl) rfl rfl (Nat.le_of_ble_eq_true rfl) (s_ob_of e20) (f135_ok e5 (d + 0)) ?_
      refine ev_aload_nR (mm 11 rfl) l0 ?_
      refine ev_iload_n (mm 12 rfl) l2 ?_
      obtain ⟨_, e19, h⟩ := bind_so h
      obtain ⟨p6, e7, h⟩ := bind_so h
      refine ev_callV_V [.int (x2)] (mm 13 rfl) rfl rfl (Nat.le_of_ble_eq_true rfl) (s_ob_of e19) (f135_ok e7 (d + 0)) ?_
      refine ev_aload_nR (mm 14 rfl) l0 ?_
      refine ev_iload_n (mm 15 rfl) l3 ?_
      obtain ⟨_, e18, h⟩ := bind_so h
      obtain ⟨p8, e9, h⟩ := bind_so h
      refine ev_callV_V [.int (x3)] (mm 16 rfl) rfl rfl (Nat.le_of_ble_eq_true rfl) (s_ob_of e18) (f135_ok e9 (d + 0)) ?_
      refine ev_aload_nR (mm 17 rfl) l0 ?_
      refine ev_iload (mm 18 rfl) l4 ?_
      obtain ⟨_, e17, h⟩ := bind_so h
      obtain ⟨p10, e11, h⟩ := bind_so h
      refine ev_callV_V [.int (x4)] (mm 19 rfl) rfl rfl (Nat.le_of_ble_eq_true rfl) (s_ob_of e17) (f135_ok e11 (d + 0)) ?_
      refine ev_aload_nR (mm 20 rfl) l0 ?_
      refine ev_iload (mm 21 rfl) l5 ?_
      obtain ⟨_, e16, h⟩ := bind_so h
      obtain ⟨p12, e13, h⟩ := bind_so h
      refine ev_callV_V [.int (x5)] (mm 22 rfl) rfl rfl (Nat.le_of_ble_eq_true rfl) (s_ob_of e16) (f135_ok e13 (d + 0)) ?_
      refine ev_aload_nR (mm 23 rfl) l0 ?_
      obtain ⟨v14, e15, h⟩ := bind_so h
      refine ev_get_i (mm 24 rfl) rfl e15 ?_
      exact ev_ireturn (mm 25 rfl) h
    · refine ev_ic_f 15 (mm 5 rfl) rfl c3 ?_
      refine ev_iconst (mm 6 rfl) cI_m1 ?_
      exact ev_ireturn (mm 7 rfl) h
  exact ⟨by decide, Nat.le_of_ble_eq_true rfl, key.1, key.2⟩
def f136_l0 (x0 : Nat) : Nat → vm_M → Option (vm_M)
  | 0 => fun _ => none
  | n + 1 => fun M =>
    (sg_i M x0 11 21).bind fun v1 =>
    (sg_i M x0 11 20).bind fun v3 =>
    if v3 ≤ v1 then
      some M
    else
      (sg_r M x0 11 41).bind fun v6 =>
      (sg_i M x0 11 21).bind fun v8 =>
      (v6).bind fun q10 =>
      (sa_i M q10 3 v8).bind fun v12 =>
      if v12 = 32 then
        (sg_i M x0 11 21).bind fun v15 =>
        (sp_i M x0 11 21 (v15 + 1)).bind fun M17 =>
        f136_l0 x0 n  M17
      else
        (sg_r M x0 11 41).bind fun v19 =>
        (sg_i M x0 11 21).bind fun v21 =>
        (v19).bind fun q23 =>
        (sa_i M q23 3 v21).bind fun v25 =>
        if ¬ v25 = 10 then
          some M
        else
          (sg_i M x0 11 21).bind fun v28 =>
          (sp_i M x0 11 21 (v28 + 1)).bind fun M30 =>
          f136_l0 x0 n  M30
theorem f136_l0_ok {d : Nat} {x0 : Nat} {r : vm_M} : ∀ (n : Nat) {M : vm_M} {lv : vm_L}, (0, .ref (x0)) ∈ lv → f136_l0 x0 n M = some r → Ev 0 (fun _ => 0) (vm_Cl (d + 0)) vp_136 11 1 false none (rV r) 0 lv [] M := by
  intro n
  induction n with
  | zero =>
    intro M lv l0 h
    cases h
  | succ n ih =>
    intro M lv l0 h
    dsimp only [f136_l0] at h
    refine ev_aload_nR (mm 0 rfl) l0 ?_
    obtain ⟨v1, e2, h⟩ := bind_so h
    refine ev_get_i (mm 1 rfl) rfl e2 ?_
    refine ev_aload_nR (mm 2 rfl) l0 ?_
    obtain ⟨v3, e4, h⟩ := bind_so h
    refine ev_get_i (mm 3 rfl) rfl e4 ?_
    rcases ite_so h with ⟨c5, h⟩ | ⟨c5, h⟩
    · refine ev_ic_t 52 (mm 4 rfl) rfl c5 ?_
      exact ev_return (mm 26 rfl) h
    · refine ev_ic_f 52 (mm 4 rfl) rfl c5 ?_
      refine ev_aload_nR (mm 5 rfl) l0 ?_
      obtain ⟨v6, e7, h⟩ := bind_so h
      refine ev_get_r (mm 6 rfl) rfl e7 ?_
      refine ev_aload_nR (mm 7 rfl) l0 ?_
      obtain ⟨v8, e9, h⟩ := bind_so h
      refine ev_get_i (mm 8 rfl) rfl e9 ?_
      obtain ⟨q10, e11, h⟩ := bind_so h
      rw [e11]
      obtain ⟨v12, e13, h⟩ := bind_so h
      refine ev_baload (mm 9 rfl) e13 ?_
      refine ev_bipush (mm 10 rfl) cB_32 ?_
      rcases ite_so h with ⟨c14, h⟩ | ⟨c14, h⟩
      · refine ev_ic_t 39 (mm 11 rfl) rfl c14 ?_
        refine ev_aload_nR (mm 19 rfl) l0 ?_
        refine ev_dupR (mm 20 rfl) ?_
        obtain ⟨v15, e16, h⟩ := bind_so h
        refine ev_get_i (mm 21 rfl) rfl e16 ?_
        refine ev_iconst (mm 22 rfl) cI_1 ?_
        refine ev_iadd (mm 23 rfl) ?_
        obtain ⟨M17, e18, h⟩ := bind_so h
        refine ev_put_i (mm 24 rfl) (fun z => by cases z) rfl e18 ?_
        refine ev_goto 0 (mm 25 rfl) rfl ?_
        exact ih l0 h
      · refine ev_ic_f 39 (mm 11 rfl) rfl c14 ?_
        refine ev_aload_nR (mm 12 rfl) l0 ?_
        obtain ⟨v19, e20, h⟩ := bind_so h
        refine ev_get_r (mm 13 rfl) rfl e20 ?_
        refine ev_aload_nR (mm 14 rfl) l0 ?_
        obtain ⟨v21, e22, h⟩ := bind_so h
        refine ev_get_i (mm 15 rfl) rfl e22 ?_
        obtain ⟨q23, e24, h⟩ := bind_so h
        rw [e24]
        obtain ⟨v25, e26, h⟩ := bind_so h
        refine ev_baload (mm 16 rfl) e26 ?_
        refine ev_bipush (mm 17 rfl) cB_10 ?_
        rcases ite_so h with ⟨c27, h⟩ | ⟨c27, h⟩
        · refine ev_ic_t 52 (mm 18 rfl) rfl c27 ?_
          exact ev_return (mm 26 rfl) h
        · refine ev_ic_f 52 (mm 18 rfl) rfl c27 ?_
          refine ev_aload_nR (mm 19 rfl) l0 ?_
          refine ev_dupR (mm 20 rfl) ?_
          obtain ⟨v28, e29, h⟩ := bind_so h
          refine ev_get_i (mm 21 rfl) rfl e29 ?_
          refine ev_iconst (mm 22 rfl) cI_1 ?_
          refine ev_iadd (mm 23 rfl) ?_
          obtain ⟨M30, e31, h⟩ := bind_so h
          refine ev_put_i (mm 24 rfl) (fun z => by cases z) rfl e31 ?_
          refine ev_goto 0 (mm 25 rfl) rfl ?_
          exact ih l0 h
/-- PupilCoinModel.blanks()V -/
def f136 (x0 : Nat) (M : vm_M) : Option (vm_M) :=
  f136_l0 x0
  
    100000  M
theorem f136_ok {x0 : Nat} {M : vm_M} {r : vm_M} (h : f136 x0 M = some r) (d : Nat) : vm_Cl (d + 1) 136 [.ref (x0)] M (rV r) := by
  have key : Ev 0 (fun _ => 0) (vm_Cl (d + 0)) vp_136 11 1 false none (rV r) 0 (lv_args 0 [.ref (x0)]) [] M := by
    have l0 : (0, .ref (x0)) ∈ lv_args 0 [.ref (x0)] := List.Mem.head _
    unfold f136 at h
    refine f136_l0_ok 100000 l0 h
  exact ⟨by decide, Nat.le_of_ble_eq_true rfl, key.1, key.2⟩
def f137_j86 (k100 : Int64 → vm_M → Option (Int64 × vm_M)) (k14 : Int64 → vm_M → Option (Int64 × vm_M)) (x0 : Nat) (s0 : Int64) (M : vm_M) : Option (Int64 × vm_M) :=
  (sg_i M x0 11 42).bind fun v39 =>
  (sp_i M x0 11 42 (v39 + 1)).bind fun M41 =>
  k14 s0 M41
theorem f137_j86_ok {d : Nat} {x0 : Nat} {s0 : Int64} {M : vm_M} {k100 : Int64 → vm_M → Option (Int64 × vm_M)} {k14 : Int64 → vm_M → Option (Int64 × vm_M)} {r : Int64 × vm_M} (hk100 : ∀ {y1 : Int64} {M : vm_M} {lv : vm_L}, (0, .ref (x0)) ∈ lv → (1, .long (y1)) ∈ lv → k100 y1 M = some r → Ev 0 (fun _ => 0) (vm_Cl (d + 1)) vp_137 11 3 false (some (.long)) (rJ r) 100 lv [] M) (hk14 : ∀ {y1 : Int64} {M : vm_M} {lv : vm_L}, (0, .ref (x0)) ∈ lv → (1, .long (y1)) ∈ lv → k14 y1 M = some r → Ev 0 (fun _ => 0) (vm_Cl (d + 1)) vp_137 11 3 false (some (.long)) (rJ r) 14 lv [] M) {lv : vm_L} (l0 : (0, .ref (x0)) ∈ lv) (h : f137_j86 k100 k14 x0 s0 M = some r) : Ev 0 (fun _ => 0) (vm_Cl (d + 1)) vp_137 11 3 false (some (.long)) (rJ r) 86 lv [.long (s0)] M := by
  unfold f137_j86 at h
  refine evs_lstore_n (mm 46 rfl) (by decide) (fun lv37 l1 s38 => ?_)
  have l0 := s38 _ _ l0 rfl
  refine ev_aload_nR (mm 47 rfl) l0 ?_
  refine ev_dupR (mm 48 rfl) ?_
  obtain ⟨v39, e40, h⟩ := bind_so h
  refine ev_get_i (mm 49 rfl) rfl e40 ?_
  refine ev_iconst (mm 50 rfl) cI_1 ?_
  refine ev_iadd (mm 51 rfl) ?_
  obtain ⟨M41, e42, h⟩ := bind_so h
  refine ev_put_i (mm 52 rfl) (fun z => by cases z) rfl e42 ?_
  refine ev_goto 14 (mm 53 rfl) rfl ?_
  exact hk14 l0 l1 h
def f137_l14 (x0 : Nat) (k100 : Int64 → vm_M → Option (Int64 × vm_M)) : Nat → Int64 → vm_M → Option (Int64 × vm_M)
  | 0 => fun _ _ => none
  | n + 1 => fun x1 M =>
    (sg_i M x0 11 42).bind fun v9 =>
    (sg_i M x0 11 20).bind fun v11 =>
    if v11 ≤ v9 then
      k100 x1 M
    else
      (sg_r M x0 11 41).bind fun v14 =>
      (sg_i M x0 11 42).bind fun v16 =>
      (v14).bind fun q18 =>
      (sa_i M q18 3 v16).bind fun v20 =>
      if v20 < 97 then
        k100 x1 M
      else
        (sg_r M x0 11 41).bind fun v23 =>
        (sg_i M x0 11 42).bind fun v25 =>
        (v23).bind fun q27 =>
        (sa_i M q27 3 v25).bind fun v29 =>
        if 122 < v29 then
          k100 x1 M
        else
          (sg_i M x0 11 42).bind fun v32 =>
          (sg_i M x0 11 21).bind fun v34 =>
          if 8 ≤ (v32 - v34) then
            f137_j86 k100 (f137_l14 x0 k100 n) x0 0 M
          else
            (sg_r M x0 11 41).bind fun v43 =>
            (sg_i M x0 11 42).bind fun v45 =>
            (v43).bind fun q47 =>
            (sa_i M q47 3 v45).bind fun v49 =>
            f137_j86 k100 (f137_l14 x0 k100 n) x0 ((x1 <<< ((8).toInt64 &&& 63)) ||| (v49 : Int32).toInt64) M
theorem f137_l14_ok {d : Nat} {x0 : Nat} {k100 : Int64 → vm_M → Option (Int64 × vm_M)} {r : Int64 × vm_M} (hk100 : ∀ {y1 : Int64} {M : vm_M} {lv : vm_L}, (0, .ref (x0)) ∈ lv → (1, .long (y1)) ∈ lv → k100 y1 M = some r → Ev 0 (fun _ => 0) (vm_Cl (d + 1)) vp_137 11 3 false (some (.long)) (rJ r) 100 lv [] M) : ∀ (n : Nat) {x1 : Int64} {M : vm_M} {lv : vm_L}, (0, .ref (x0)) ∈ lv → (1, .long (x1)) ∈ lv → f137_l14 x0 k100 n x1 M = some r → Ev 0 (fun _ => 0) (vm_Cl (d + 1)) vp_137 11 3 false (some (.long)) (rJ r) 14 lv [] M := by
  intro n
  induction n with
  | zero =>
    intro x1 M lv l0 l1 h
    cases h
  | succ n ih =>
    intro x1 M lv l0 l1 h
    dsimp only [f137_l14] at h
    refine ev_aload_nR (mm 8 rfl) l0 ?_
    obtain ⟨v9, e10, h⟩ := bind_so h
    refine ev_get_i (mm 9 rfl) rfl e10 ?_
    refine ev_aload_nR (mm 10 rfl) l0 ?_
    obtain ⟨v11, e12, h⟩ := bind_so h
    refine ev_get_i (mm 11 rfl) rfl e12 ?_
    rcases ite_so h with ⟨c13, h⟩ | ⟨c13, h⟩
    · refine ev_ic_t 100 (mm 12 rfl) rfl c13 ?_
      exact hk100 l0 l1 h
    · refine ev_ic_f 100 (mm 12 rfl) rfl c13 ?_
      refine ev_aload_nR (mm 13 rfl) l0 ?_
      obtain ⟨v14, e15, h⟩ := bind_so h
      refine ev_get_r (mm 14 rfl) rfl e15 ?_
      refine ev_aload_nR (mm 15 rfl) l0 ?_
      obtain ⟨v16, e17, h⟩ := bind_so h
      refine ev_get_i (mm 16 rfl) rfl e17 ?_
      obtain ⟨q18, e19, h⟩ := bind_so h
      rw [e19]
      obtain ⟨v20, e21, h⟩ := bind_so h
      refine ev_baload (mm 17 rfl) e21 ?_
      refine ev_bipush (mm 18 rfl) cB_97 ?_
      rcases ite_so h with ⟨c22, h⟩ | ⟨c22, h⟩
      · refine ev_ic_t 100 (mm 19 rfl) rfl c22 ?_
        exact hk100 l0 l1 h
      · refine ev_ic_f 100 (mm 19 rfl) rfl c22 ?_
        refine ev_aload_nR (mm 20 rfl) l0 ?_
        obtain ⟨v23, e24, h⟩ := bind_so h
        refine ev_get_r (mm 21 rfl) rfl e24 ?_
        refine ev_aload_nR (mm 22 rfl) l0 ?_
        obtain ⟨v25, e26, h⟩ := bind_so h
        refine ev_get_i (mm 23 rfl) rfl e26 ?_
        obtain ⟨q27, e28, h⟩ := bind_so h
        rw [e28]
        obtain ⟨v29, e30, h⟩ := bind_so h
        refine ev_baload (mm 24 rfl) e30 ?_
        refine ev_bipush (mm 25 rfl) cB_122 ?_
        rcases ite_so h with ⟨c31, h⟩ | ⟨c31, h⟩
        · refine ev_ic_t 100 (mm 26 rfl) rfl c31 ?_
          exact hk100 l0 l1 h
        · refine ev_ic_f 100 (mm 26 rfl) rfl c31 ?_
          refine ev_aload_nR (mm 27 rfl) l0 ?_
          obtain ⟨v32, e33, h⟩ := bind_so h
          refine ev_get_i (mm 28 rfl) rfl e33 ?_
          refine ev_aload_nR (mm 29 rfl) l0 ?_
          obtain ⟨v34, e35, h⟩ := bind_so h
          refine ev_get_i (mm 30 rfl) rfl e35 ?_
          refine ev_isub (mm 31 rfl) ?_
          refine ev_bipush (mm 32 rfl) cB_8 ?_
          rcases ite_so h with ⟨c36, h⟩ | ⟨c36, h⟩
          · refine ev_ic_t 85 (mm 33 rfl) rfl c36 ?_
            refine ev_lconst (mm 45 rfl) cL_0 ?_
            exact f137_j86_ok hk100 ih l0 h
          · refine ev_ic_f 85 (mm 33 rfl) rfl c36 ?_
            refine ev_lload_n (mm 34 rfl) l1 ?_
            refine ev_bipush (mm 35 rfl) cB_8 ?_
            refine ev_lshl (mm 36 rfl) ?_
            refine ev_aload_nR (mm 37 rfl) l0 ?_
            obtain ⟨v43, e44, h⟩ := bind_so h
            refine ev_get_r (mm 38 rfl) rfl e44 ?_
            refine ev_aload_nR (mm 39 rfl) l0 ?_
            obtain ⟨v45, e46, h⟩ := bind_so h
            refine ev_get_i (mm 40 rfl) rfl e46 ?_
            obtain ⟨q47, e48, h⟩ := bind_so h
            rw [e48]
            obtain ⟨v49, e50, h⟩ := bind_so h
            refine ev_baload (mm 41 rfl) e50 ?_
            refine ev_i2l (mm 42 rfl) ?_
            refine ev_lor (mm 43 rfl) ?_
            refine ev_goto 86 (mm 44 rfl) rfl ?_
            exact f137_j86_ok hk100 ih l0 h
def f137_j100 (x0 : Nat) (x1 : Int64) (M : vm_M) : Option (Int64 × vm_M) :=
  (sg_i M x0 11 42).bind fun v53 =>
  (sg_i M x0 11 21).bind fun v55 =>
  if (v53 - v55) ≤ 8 then
    some (x1, M)
  else
    some (0, M)
theorem f137_j100_ok {d : Nat} {x0 : Nat} {x1 : Int64} {M : vm_M} {r : Int64 × vm_M} {lv : vm_L} (l0 : (0, .ref (x0)) ∈ lv) (l1 : (1, .long (x1)) ∈ lv) (h : f137_j100 x0 x1 M = some r) : Ev 0 (fun _ => 0) (vm_Cl (d + 1)) vp_137 11 3 false (some (.long)) (rJ r) 100 lv [] M := by
  unfold f137_j100 at h
  refine ev_aload_nR (mm 54 rfl) l0 ?_
  obtain ⟨v53, e54, h⟩ := bind_so h
  refine ev_get_i (mm 55 rfl) rfl e54 ?_
  refine ev_aload_nR (mm 56 rfl) l0 ?_
  obtain ⟨v55, e56, h⟩ := bind_so h
  refine ev_get_i (mm 57 rfl) rfl e56 ?_
  refine ev_isub (mm 58 rfl) ?_
  refine ev_bipush (mm 59 rfl) cB_8 ?_
  rcases ite_so h with ⟨c57, h⟩ | ⟨c57, h⟩
  · refine ev_ic_t 118 (mm 60 rfl) rfl c57 ?_
    refine ev_lload_n (mm 63 rfl) l1 ?_
    exact ev_lreturn (mm 64 rfl) h
  · refine ev_ic_f 118 (mm 60 rfl) rfl c57 ?_
    refine ev_lconst (mm 61 rfl) cL_0 ?_
    refine ev_goto 119 (mm 62 rfl) rfl ?_
    exact ev_lreturn (mm 64 rfl) h
/-- PupilCoinModel.word()J -/
def f137 (x0 : Nat) (M : vm_M) : Option (Int64 × vm_M) :=
  (s_ob M x0 11).bind fun _ =>
  (f136 x0 M).bind fun p1 =>
  (sg_i p1 x0 11 21).bind fun v3 =>
  (sp_i p1 x0 11 42 v3).bind fun M5 =>
  f137_l14 x0
    (fun y51 M52 =>
      f137_j100 x0 y51 M52)
    100000 0 M5
theorem f137_ok {x0 : Nat} {M : vm_M} {r : Int64 × vm_M} (h : f137 x0 M = some r) (d : Nat) : vm_Cl (d + 2) 137 [.ref (x0)] M (rJ r) := by
  have key : Ev 0 (fun _ => 0) (vm_Cl (d + 1)) vp_137 11 3 false (some (.long)) (rJ r) 0 (lv_args 0 [.ref (x0)]) [] M := by
    have l0 : (0, .ref (x0)) ∈ lv_args 0 [.ref (x0)] := List.Mem.head _
    unfold f137 at h
    refine ev_aload_nR (mm 0 rfl) l0 ?_
    obtain ⟨_, e58, h⟩ := bind_so h
    obtain ⟨p1, e2, h⟩ := bind_so h
    refine ev_callV_V [] (mm 1 rfl) rfl rfl (Nat.le_of_ble_eq_true rfl) (s_ob_of e58) (f136_ok e2 (d + 0)) ?_
    refine ev_aload_nR (mm 2 rfl) l0 ?_
    refine ev_aload_nR (mm 3 rfl) l0 ?_
    obtain ⟨v3, e4, h⟩ := bind_so h
    refine ev_get_i (mm 4 rfl) rfl e4 ?_
    obtain ⟨M5, e6, h⟩ := bind_so h
    refine ev_put_i (mm 5 rfl) (fun z => by cases z) rfl e6 ?_
    refine ev_lconst (mm 6 rfl) cL_0 ?_
    refine evs_lstore_n (mm 7 rfl) (by decide) (fun lv7 l1 s8 => ?_)
    have l0 := s8 _ _ l0 rfl
    refine f137_l14_ok ?_ 100000 l0 l1 h
    · intro y51 M52 lv l0 l1
      intro h
      exact f137_j100_ok l0 l1 h
  exact ⟨by decide, Nat.le_of_ble_eq_true rfl, key.1, key.2⟩
