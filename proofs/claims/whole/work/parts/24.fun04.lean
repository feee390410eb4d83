/-! shallow functions, by program (wip/gen_fun.py) -/
/-- PupilCoin.<init>()V -/
def f73 (x0 : Nat) (M : vm_M) : Option (vm_M) :=
  (s_no M 0).bind fun M1 =>
  (f0 (vm_n M) M1).bind fun p3 =>
  (sp_r p3 x0 10 0 (some (vm_n M))).bind fun M5 =>
  (s_no M5 2).bind fun M7 =>
  (f10 (vm_n M5) M7).bind fun p9 =>
  (sp_r p9 x0 10 1 (some (vm_n M5))).bind fun M11 =>
  (s_no M11 6).bind fun M13 =>
  (f29 (vm_n M11) M13).bind fun p15 =>
  (sp_r p15 x0 10 2 (some (vm_n M11))).bind fun M17 =>
  (s_no M17 8).bind fun M19 =>
  (s_no M19 1).bind fun M21 =>
  (sg_r M21 x0 10 2).bind fun v23 =>
  (v23).bind fun q25 =>
  (f8 (vm_n M19) q25 (-1) 0 0 M21).bind fun p27 =>
  (f54 (vm_n M17) (vm_n M19) p27).bind fun p29 =>
  (sp_r p29 x0 10 3 (some (vm_n M17))).bind fun M31 =>
  (s_no M31 9).bind fun M33 =>
  (sg_r M33 x0 10 0).bind fun v35 =>
  (sg_r M33 x0 10 1).bind fun v37 =>
  (sg_r M33 x0 10 3).bind fun v39 =>
  (v35).bind fun q41 =>
  (v37).bind fun q43 =>
  (v39).bind fun q45 =>
  (f57 (vm_n M31) q41 q43 q45 M33).bind fun p47 =>
  (sp_r p47 x0 10 4 (some (vm_n M31))).bind fun M49 =>
  (s_no M49 4).bind fun M51 =>
  (f20 (vm_n M49) M51).bind fun p53 =>
  (sp_r p53 x0 10 5 (some (vm_n M49))).bind fun M55 =>
  (s_na M55 0 700).bind fun M57 =>
  (sp_r M57 x0 10 6 (some (vm_n M55))).bind fun M59 =>
  (sp_i M59 x0 10 9 (-1)).bind fun M61 =>
  some M61
theorem f73_ok {x0 : Nat} {M : vm_M} {r : vm_M} (h : f73 x0 M = some r) (d : Nat) : vm_Cl (d + 4) 73 [.ref (x0)] M (rV r) := by
  have key : Ev 0 (fun _ => 0) (vm_Cl (d + 3)) vp_73 10 1 true none (rV r) 0 (lv_args 0 [.ref (x0)]) [] M := by
    have l0 : (0, .ref (x0)) ∈ lv_args 0 [.ref (x0)] := List.Mem.head _
    unfold f73 at h
    refine ev_aload_nR (mm 0 rfl) l0 ?_
    refine ev_obj (mm 1 rfl) (Nat.le_of_ble_eq_true rfl) ?_
    refine ev_aload_nR (mm 2 rfl) l0 ?_
    obtain ⟨M1, e2, h⟩ := bind_so h
    refine ev_new (mm 3 rfl) e2 ?_
    refine ev_dupR (mm 4 rfl) ?_
    obtain ⟨p3, e4, h⟩ := bind_so h
    refine ev_callI_V [] (mm 5 rfl) (by decide) rfl rfl (Nat.le_of_ble_eq_true rfl) (f0_ok e4 (d + 1)) ?_
    obtain ⟨M5, e6, h⟩ := bind_so h
    refine ev_put_R (mm 6 rfl) (fun _ => ⟨rfl, rfl⟩) rfl e6 ?_
    refine ev_aload_nR (mm 7 rfl) l0 ?_
    obtain ⟨M7, e8, h⟩ := bind_so h
    refine ev_new (mm 8 rfl) e8 ?_
    refine ev_dupR (mm 9 rfl) ?_
    obtain ⟨p9, e10, h⟩ := bind_so h
    refine ev_callI_V [] (mm 10 rfl) (by decide) rfl rfl (Nat.le_of_ble_eq_true rfl) (f10_ok e10 (d + 1)) ?_
    obtain ⟨M11, e12, h⟩ := bind_so h
    refine ev_put_R (mm 11 rfl) (fun _ => ⟨rfl, rfl⟩) rfl e12 ?_
    refine ev_aload_nR (mm 12 rfl) l0 ?_
    obtain ⟨M13, e14, h⟩ := bind_so h
    refine ev_new (mm 13 rfl) e14 ?_
    refine ev_dupR (mm 14 rfl) ?_
    obtain ⟨p15, e16, h⟩ := bind_so h
    refine ev_callI_V [] (mm 15 rfl) (by decide) rfl rfl (Nat.le_of_ble_eq_true rfl) (f29_ok e16 (d + 0)) ?_
    obtain ⟨M17, e18, h⟩ := bind_so h
    refine ev_put_R (mm 16 rfl) (fun _ => ⟨rfl, rfl⟩) rfl e18 ?_
    refine ev_aload_nR (mm 17 rfl) l0 ?_
    obtain ⟨M19, e20, h⟩ := bind_so h
    refine ev_new (mm 18 rfl) e20 ?_
    refine ev_dupR (mm 19 rfl) ?_
    obtain ⟨M21, e22, h⟩ := bind_so h
    refine ev_new (mm 20 rfl) e22 ?_
    refine ev_dupR (mm 21 rfl) ?_
    refine ev_aload_nR (mm 22 rfl) l0 ?_
    obtain ⟨v23, e24, h⟩ := bind_so h
    refine ev_get_r (mm 23 rfl) rfl e24 ?_
    refine ev_iconst (mm 24 rfl) cI_m1 ?_
    refine ev_iconst (mm 25 rfl) cI_0 ?_
    refine ev_iconst (mm 26 rfl) cI_0 ?_
    obtain ⟨q25, e26, h⟩ := bind_so h
    rw [e26]
    obtain ⟨p27, e28, h⟩ := bind_so h
    refine ev_callI_V [.ref (q25), .int ((-1)), .int (0), .int (0)] (mm 27 rfl) (by decide) rfl rfl (Nat.le_of_ble_eq_true rfl) (f8_ok e28 (d + 1)) ?_
    obtain ⟨p29, e30, h⟩ := bind_so h
    refine ev_callI_V [.ref ((vm_n M19))] (mm 28 rfl) (by decide) rfl rfl (Nat.le_of_ble_eq_true rfl) (f54_ok e30 (d + 2)) ?_
    obtain ⟨M31, e32, h⟩ := bind_so h
    refine ev_put_R (mm 29 rfl) (fun _ => ⟨rfl, rfl⟩) rfl e32 ?_
    refine ev_aload_nR (mm 30 rfl) l0 ?_
    obtain ⟨M33, e34, h⟩ := bind_so h
    refine ev_new (mm 31 rfl) e34 ?_
    refine ev_dupR (mm 32 rfl) ?_
    refine ev_aload_nR (mm 33 rfl) l0 ?_
    obtain ⟨v35, e36, h⟩ := bind_so h
    refine ev_get_r (mm 34 rfl) rfl e36 ?_
    refine ev_aload_nR (mm 35 rfl) l0 ?_
    obtain ⟨v37, e38, h⟩ := bind_so h
    refine ev_get_r (mm 36 rfl) rfl e38 ?_
    refine ev_aload_nR (mm 37 rfl) l0 ?_
    obtain ⟨v39, e40, h⟩ := bind_so h
    refine ev_get_r (mm 38 rfl) rfl e40 ?_
    obtain ⟨q41, e42, h⟩ := bind_so h
    rw [e42]
    obtain ⟨q43, e44, h⟩ := bind_so h
    rw [e44]
    obtain ⟨q45, e46, h⟩ := bind_so h
    rw [e46]
    obtain ⟨p47, e48, h⟩ := bind_so h
    refine ev_callI_V [.ref (q41), .ref (q43), .ref (q45)] (mm 39 rfl) (by decide) rfl rfl (Nat.le_of_ble_eq_true rfl) (f57_ok e48 (d + 1)) ?_
    obtain ⟨M49, e50, h⟩ := bind_so h
    refine ev_put_R (mm 40 rfl) (fun _ => ⟨rfl, rfl⟩) rfl e50 ?_
    refine ev_aload_nR (mm 41 rfl) l0 ?_
    obtain ⟨M51, e52, h⟩ := bind_so h
    refine ev_new (mm 42 rfl) e52 ?_
    refine ev_dupR (mm 43 rfl) ?_
    obtain ⟨p53, e54, h⟩ := bind_so h
    refine ev_callI_V [] (mm 44 rfl) (by decide) rfl rfl (Nat.le_of_ble_eq_true rfl) (f20_ok e54 (d + 2)) ?_
    obtain ⟨M55, e56, h⟩ := bind_so h
    refine ev_put_R (mm 45 rfl) (fun _ => ⟨rfl, rfl⟩) rfl e56 ?_
    refine ev_aload_nR (mm 46 rfl) l0 ?_
    refine ev_sipush (mm 47 rfl) cS_700 ?_
    obtain ⟨M57, e58, h⟩ := bind_so h
    refine ev_newarray 0 (mm 48 rfl) (by decide) rfl e58 ?_
    obtain ⟨M59, e60, h⟩ := bind_so h
    refine ev_put_R (mm 49 rfl) (fun _ => ⟨rfl, rfl⟩) rfl e60 ?_
    refine ev_aload_nR (mm 50 rfl) l0 ?_
    refine ev_iconst (mm 51 rfl) cI_m1 ?_
    obtain ⟨M61, e62, h⟩ := bind_so h
    refine ev_put_i (mm 52 rfl) (fun z => by cases z) rfl e62 ?_
    exact ev_return (mm 53 rfl) h
  exact ⟨by decide, Nat.le_of_ble_eq_true rfl, key.1, key.2⟩
/-- PupilCoin.day(I)Z -/
def f74 (x0 : Nat) (x1 : Int32) (M : vm_M) : Option (Int32 × vm_M) :=
  (sg_i M x0 10 10).bind fun v1 =>
  if x1 ≤ v1 then
    s_rb 0 M
  else
    if x1 ≤ 999 then
      (sp_i M x0 10 10 x1).bind fun M5 =>
      s_rb 1 M5
    else
      s_rb 0 M
theorem f74_ok {x0 : Nat} {x1 : Int32} {M : vm_M} {r : Int32 × vm_M} (h : f74 x0 x1 M = some r) (d : Nat) : vm_Cl (d + 1) 74 [.ref (x0), .int (x1)] M (rI r) := by
  have key : Ev 0 (fun _ => 0) (vm_Cl (d + 0)) vp_74 10 2 false (some (.boolean)) (rI r) 0 (lv_args 0 [.ref (x0), .int (x1)]) [] M := by
    have l0 : (0, .ref (x0)) ∈ lv_args 0 [.ref (x0), .int (x1)] := List.Mem.head _
    have l1 : (1, .int (x1)) ∈ lv_args 0 [.ref (x0), .int (x1)] := List.Mem.tail _ (List.Mem.head _)
    unfold f74 at h
    refine ev_iload_n (mm 0 rfl) l1 ?_
    refine ev_aload_nR (mm 1 rfl) l0 ?_
    obtain ⟨v1, e2, h⟩ := bind_so h
    refine ev_get_i (mm 2 rfl) rfl e2 ?_
    rcases ite_so h with ⟨c3, h⟩ | ⟨c3, h⟩
    · refine ev_ic_t 15 (mm 3 rfl) rfl c3 ?_
      refine ev_iconst (mm 7 rfl) cI_0 ?_
      exact ev_zreturn (mm 8 rfl) h
    · refine ev_ic_f 15 (mm 3 rfl) rfl c3 ?_
      refine ev_iload_n (mm 4 rfl) l1 ?_
      refine ev_sipush (mm 5 rfl) cS_999 ?_
      rcases ite_so h with ⟨c4, h⟩ | ⟨c4, h⟩
      · refine ev_ic_t 17 (mm 6 rfl) rfl c4 ?_
        refine ev_aload_nR (mm 9 rfl) l0 ?_
        refine ev_iload_n (mm 10 rfl) l1 ?_
        obtain ⟨M5, e6, h⟩ := bind_so h
        refine ev_put_i (mm 11 rfl) (fun z => by cases z) rfl e6 ?_
        refine ev_iconst (mm 12 rfl) cI_1 ?_
        exact ev_zreturn (mm 13 rfl) h
      · refine ev_ic_f 17 (mm 6 rfl) rfl c4 ?_
        refine ev_iconst (mm 7 rfl) cI_0 ?_
        exact ev_zreturn (mm 8 rfl) h
  exact ⟨by decide, Nat.le_of_ble_eq_true rfl, key.1, key.2⟩
/-- PupilCoin.school(III)I -/
def f75 (x0 : Nat) (x1 : Int32) (x2 : Int32) (x3 : Int32) (M : vm_M) : Option (Int32 × vm_M) :=
  (f102 x1 8 M).bind fun p1 =>
  if p1.1 = 0 then
    some ((-1), p1.2)
  else
    (f102 x2 3 p1.2).bind fun p4 =>
    if p4.1 = 0 then
      some ((-1), p4.2)
    else
      (f102 x3 16 p4.2).bind fun p7 =>
      if ¬ p7.1 = 0 then
        (sg_r p7.2 x0 10 0).bind fun v10 =>
        (v10).bind fun q12 =>
        (sg_i p7.2 q12 0 7).bind fun v14 =>
        if v14 < 12 then
          (sg_r p7.2 x0 10 4).bind fun v17 =>
          (v17).bind fun q19 =>
          (s_ob p7.2 q19 9).bind fun _ =>
          (f58 q19 p7.2).bind fun p21 =>
          (sg_r p21 x0 10 0).bind fun v23 =>
          (v23).bind fun q25 =>
          (s_ob p21 q25 0).bind fun _ =>
          (f1 q25 x1 x2 x3 p21).bind fun p27 =>
          some (p27.1, p27.2)
        else
          some ((-1), p7.2)
      else
        some ((-1), p7.2)
theorem f75_ok {x0 : Nat} {x1 : Int32} {x2 : Int32} {x3 : Int32} {M : vm_M} {r : Int32 × vm_M} (h : f75 x0 x1 x2 x3 M = some r) (d : Nat) : vm_Cl (d + 2) 75 [.ref (x0), .int (x1), .int (x2), .int (x3)] M (rI r) := by
  have key : Ev 0 (fun _ => 0) (vm_Cl (d + 1)) vp_75 10 4 false (some (.int)) (rI r) 0 (lv_args 0 [.ref (x0), .int (x1), .int (x2), .int (x3)]) [] M := by
    have l0 : (0, .ref (x0)) ∈ lv_args 0 [.ref (x0), .int (x1), .int (x2), .int (x3)] := List.Mem.head _
    have l1 : (1, .int (x1)) ∈ lv_args 0 [.ref (x0), .int (x1), .int (x2), .int (x3)] := List.Mem.tail _ (List.Mem.head _)
    have l2 : (2, .int (x2)) ∈ lv_args 0 [.ref (x0), .int (x1), .int (x2), .int (x3)] := List.Mem.tail _ (List.Mem.tail _ (List.Mem.head _))
    have l3 : (3, .int (x3)) ∈ lv_args 0 [.ref (x0), .int (x1), .int (x2), .int (x3)] := List.Mem.tail _ (List.Mem.tail _ (List.Mem.tail _ (List.Mem.head _)))
    unfold f75 at h
    refine ev_iload_n (mm 0 rfl) l1 ?_
    refine ev_bipush (mm 1 rfl) cB_8 ?_
    obtain ⟨p1, e2, h⟩ := bind_so h
    refine ev_callS_I [.int (x1), .int (8)] (mm 2 rfl) (by decide) rfl rfl (Nat.le_of_ble_eq_true rfl) (f102_ok e2 (d + 0)) ?_
    rcases ite_so h with ⟨c3, h⟩ | ⟨c3, h⟩
    · refine ev_if_t 26 (mm 3 rfl) rfl c3 ?_
      refine ev_iconst (mm 12 rfl) cI_m1 ?_
      exact ev_ireturn (mm 13 rfl) h
    · refine ev_if_f 26 (mm 3 rfl) rfl c3 ?_
      refine ev_iload_n (mm 4 rfl) l2 ?_
      refine ev_iconst (mm 5 rfl) cI_3 ?_
      obtain ⟨p4, e5, h⟩ := bind_so h
      refine ev_callS_I [.int (x2), .int (3)] (mm 6 rfl) (by decide) rfl rfl (Nat.le_of_ble_eq_true rfl) (f102_ok e5 (d + 0)) ?_
      rcases ite_so h with ⟨c6, h⟩ | ⟨c6, h⟩
      · refine ev_if_t 26 (mm 7 rfl) rfl c6 ?_
        refine ev_iconst (mm 12 rfl) cI_m1 ?_
        exact ev_ireturn (mm 13 rfl) h
      · refine ev_if_f 26 (mm 7 rfl) rfl c6 ?_
        refine ev_iload_n (mm 8 rfl) l3 ?_
        refine ev_bipush (mm 9 rfl) cB_16 ?_
        obtain ⟨p7, e8, h⟩ := bind_so h
        refine ev_callS_I [.int (x3), .int (16)] (mm 10 rfl) (by decide) rfl rfl (Nat.le_of_ble_eq_true rfl) (f102_ok e8 (d + 0)) ?_
        rcases ite_so h with ⟨c9, h⟩ | ⟨c9, h⟩
        · refine ev_if_t 28 (mm 11 rfl) rfl c9 ?_
          refine ev_aload_nR (mm 14 rfl) l0 ?_
          obtain ⟨v10, e11, h⟩ := bind_so h
          refine ev_get_r (mm 15 rfl) rfl e11 ?_
          obtain ⟨q12, e13, h⟩ := bind_so h
          rw [e13]
          obtain ⟨v14, e15, h⟩ := bind_so h
          refine ev_get_i (mm 16 rfl) rfl e15 ?_
          refine ev_bipush (mm 17 rfl) cB_12 ?_
          rcases ite_so h with ⟨c16, h⟩ | ⟨c16, h⟩
          · refine ev_ic_t 42 (mm 18 rfl) rfl c16 ?_
            refine ev_aload_nR (mm 21 rfl) l0 ?_
            obtain ⟨v17, e18, h⟩ := bind_so h
            refine ev_get_r (mm 22 rfl) rfl e18 ?_
            obtain ⟨q19, e20, h⟩ := bind_so h
            rw [e20]
            obtain ⟨_, e30, h⟩ := bind_so h
            obtain ⟨p21, e22, h⟩ := bind_so h
            refine ev_callV_V [] (mm 23 rfl) rfl rfl (Nat.le_of_ble_eq_true rfl) (s_ob_of e30) (f58_ok e22 (d + 0)) ?_
            refine ev_aload_nR (mm 24 rfl) l0 ?_
            obtain ⟨v23, e24, h⟩ := bind_so h
            refine ev_get_r (mm 25 rfl) rfl e24 ?_
            refine ev_iload_n (mm 26 rfl) l1 ?_
            refine ev_iload_n (mm 27 rfl) l2 ?_
            refine ev_iload_n (mm 28 rfl) l3 ?_
            obtain ⟨q25, e26, h⟩ := bind_so h
            rw [e26]
            obtain ⟨_, e29, h⟩ := bind_so h
            obtain ⟨p27, e28, h⟩ := bind_so h
            refine ev_callV_I [.int (x1), .int (x2), .int (x3)] (mm 29 rfl) rfl rfl (Nat.le_of_ble_eq_true rfl) (s_ob_of e29) (f1_ok e28 (d + 0)) ?_
            exact ev_ireturn (mm 30 rfl) h
          · refine ev_ic_f 42 (mm 18 rfl) rfl c16 ?_
            refine ev_iconst (mm 19 rfl) cI_m1 ?_
            exact ev_ireturn (mm 20 rfl) h
        · refine ev_if_f 28 (mm 11 rfl) rfl c9 ?_
          refine ev_iconst (mm 12 rfl) cI_m1 ?_
          exact ev_ireturn (mm 13 rfl) h
  exact ⟨by decide, Nat.le_of_ble_eq_true rfl, key.1, key.2⟩
/-- PupilCoin.need(II)Z -/
def f76 (x0 : Nat) (x1 : Int32) (x2 : Int32) (M : vm_M) : Option (Int32 × vm_M) :=
  (f102 x1 8 M).bind fun p1 =>
  if p1.1 = 0 then
    s_rb 0 p1.2
  else
    if x2 < 0 then
      s_rb 0 p1.2
    else
      if x2 ≤ 100 then
        (sg_r p1.2 x0 10 0).bind fun v6 =>
        (v6).bind fun q8 =>
        (sg_r p1.2 q8 0 5).bind fun v10 =>
        (v10).bind fun q12 =>
        (ss_i p1.2 q12 0 x1 x2).bind fun M14 =>
        (sg_r M14 x0 10 4).bind fun v16 =>
        (v16).bind fun q18 =>
        (s_ob M14 q18 9).bind fun _ =>
        (f58 q18 M14).bind fun p20 =>
        s_rb 1 p20
      else
        s_rb 0 p1.2
theorem f76_ok {x0 : Nat} {x1 : Int32} {x2 : Int32} {M : vm_M} {r : Int32 × vm_M} (h : f76 x0 x1 x2 M = some r) (d : Nat) : vm_Cl (d + 2) 76 [.ref (x0), .int (x1), .int (x2)] M (rI r) := by
  have key : Ev 0 (fun _ => 0) (vm_Cl (d + 1)) vp_76 10 3 false (some (.boolean)) (rI r) 0 (lv_args 0 [.ref (x0), .int (x1), .int (x2)]) [] M := by
    have l0 : (0, .ref (x0)) ∈ lv_args 0 [.ref (x0), .int (x1), .int (x2)] := List.Mem.head _
    have l1 : (1, .int (x1)) ∈ lv_args 0 [.ref (x0), .int (x1), .int (x2)] := List.Mem.tail _ (List.Mem.head _)
    have l2 : (2, .int (x2)) ∈ lv_args 0 [.ref (x0), .int (x1), .int (x2)] := List.Mem.tail _ (List.Mem.tail _ (List.Mem.head _))
    unfold f76 at h
    refine ev_iload_n (mm 0 rfl) l1 ?_
    refine ev_bipush (mm 1 rfl) cB_8 ?_
    obtain ⟨p1, e2, h⟩ := bind_so h
    refine ev_callS_I [.int (x1), .int (8)] (mm 2 rfl) (by decide) rfl rfl (Nat.le_of_ble_eq_true rfl) (f102_ok e2 (d + 0)) ?_
    rcases ite_so h with ⟨c3, h⟩ | ⟨c3, h⟩
    · refine ev_if_t 19 (mm 3 rfl) rfl c3 ?_
      refine ev_iconst (mm 9 rfl) cI_0 ?_
      exact ev_zreturn (mm 10 rfl) h
    · refine ev_if_f 19 (mm 3 rfl) rfl c3 ?_
      refine ev_iload_n (mm 4 rfl) l2 ?_
      rcases ite_so h with ⟨c4, h⟩ | ⟨c4, h⟩
      · refine ev_if_t 19 (mm 5 rfl) rfl c4 ?_
        refine ev_iconst (mm 9 rfl) cI_0 ?_
        exact ev_zreturn (mm 10 rfl) h
      · refine ev_if_f 19 (mm 5 rfl) rfl c4 ?_
        refine ev_iload_n (mm 6 rfl) l2 ?_
        refine ev_bipush (mm 7 rfl) cB_100 ?_
        rcases ite_so h with ⟨c5, h⟩ | ⟨c5, h⟩
        · refine ev_ic_t 21 (mm 8 rfl) rfl c5 ?_
          refine ev_aload_nR (mm 11 rfl) l0 ?_
          obtain ⟨v6, e7, h⟩ := bind_so h
          refine ev_get_r (mm 12 rfl) rfl e7 ?_
          obtain ⟨q8, e9, h⟩ := bind_so h
          rw [e9]
          obtain ⟨v10, e11, h⟩ := bind_so h
          refine ev_get_r (mm 13 rfl) rfl e11 ?_
          refine ev_iload_n (mm 14 rfl) l1 ?_
          refine ev_iload_n (mm 15 rfl) l2 ?_
          obtain ⟨q12, e13, h⟩ := bind_so h
          rw [e13]
          obtain ⟨M14, e15, h⟩ := bind_so h
          refine ev_iastore (mm 16 rfl) e15 ?_
          refine ev_aload_nR (mm 17 rfl) l0 ?_
          obtain ⟨v16, e17, h⟩ := bind_so h
          refine ev_get_r (mm 18 rfl) rfl e17 ?_
          obtain ⟨q18, e19, h⟩ := bind_so h
          rw [e19]
          obtain ⟨_, e22, h⟩ := bind_so h
          obtain ⟨p20, e21, h⟩ := bind_so h
          refine ev_callV_V [] (mm 19 rfl) rfl rfl (Nat.le_of_ble_eq_true rfl) (s_ob_of e22) (f58_ok e21 (d + 0)) ?_
          refine ev_iconst (mm 20 rfl) cI_1 ?_
          exact ev_zreturn (mm 21 rfl) h
        · refine ev_ic_f 21 (mm 8 rfl) rfl c5 ?_
          refine ev_iconst (mm 9 rfl) cI_0 ?_
          exact ev_zreturn (mm 10 rfl) h
  exact ⟨by decide, Nat.le_of_ble_eq_true rfl, key.1, key.2⟩
/-- PupilCoin.road(III)Z -/
def f77 (x0 : Nat) (x1 : Int32) (x2 : Int32) (x3 : Int32) (M : vm_M) : Option (Int32 × vm_M) :=
  (f102 x1 16 M).bind fun p1 =>
  if p1.1 = 0 then
    s_rb 0 p1.2
  else
    (f102 x2 16 p1.2).bind fun p4 =>
    if p4.1 = 0 then
      s_rb 0 p4.2
    else
      if ¬ x1 = x2 then
        if x3 < 0 then
          s_rb 0 p4.2
        else
          if x3 ≤ 999 then
            (sg_r p4.2 x0 10 0).bind fun v10 =>
            (v10).bind fun q12 =>
            (sg_r p4.2 q12 0 6).bind fun v14 =>
            (v14).bind fun q16 =>
            (s_ob p4.2 q16 7).bind fun _ =>
            (f52 q16 x1 x2 x3 p4.2).bind fun p18 =>
            (sg_r p18 x0 10 4).bind fun v20 =>
            (v20).bind fun q22 =>
            (s_ob p18 q22 9).bind fun _ =>
            (f58 q22 p18).bind fun p24 =>
            s_rb 1 p24
          else
            s_rb 0 p4.2
      else
        s_rb 0 p4.2
theorem f77_ok {x0 : Nat} {x1 : Int32} {x2 : Int32} {x3 : Int32} {M : vm_M} {r : Int32 × vm_M} (h : f77 x0 x1 x2 x3 M = some r) (d : Nat) : vm_Cl (d + 2) 77 [.ref (x0), .int (x1), .int (x2), .int (x3)] M (rI r) := by
  have key : Ev 0 (fun _ => 0) (vm_Cl (d + 1)) vp_77 10 4 false (some (.boolean)) (rI r) 0 (lv_args 0 [.ref (x0), .int (x1), .int (x2), .int (x3)]) [] M := by
    have l0 : (0, .ref (x0)) ∈ lv_args 0 [.ref (x0), .int (x1), .int (x2), .int (x3)] := List.Mem.head _
    have l1 : (1, .int (x1)) ∈ lv_args 0 [.ref (x0), .int (x1), .int (x2), .int (x3)] := List.Mem.tail _ (List.Mem.head _)
    have l2 : (2, .int (x2)) ∈ lv_args 0 [.ref (x0), .int (x1), .int (x2), .int (x3)] := List.Mem.tail _ (List.Mem.tail _ (List.Mem.head _))
    have l3 : (3, .int (x3)) ∈ lv_args 0 [.ref (x0), .int (x1), .int (x2), .int (x3)] := List.Mem.tail _ (List.Mem.tail _ (List.Mem.tail _ (List.Mem.head _)))
    unfold f77 at h
    refine ev_iload_n (mm 0 rfl) l1 ?_
    refine ev_bipush (mm 1 rfl) cB_16 ?_
    obtain ⟨p1, e2, h⟩ := bind_so h
    refine ev_callS_I [.int (x1), .int (16)] (mm 2 rfl) (by decide) rfl rfl (Nat.le_of_ble_eq_true rfl) (f102_ok e2 (d + 0)) ?_
    rcases ite_so h with ⟨c3, h⟩ | ⟨c3, h⟩
    · refine ev_if_t 23 (mm 3 rfl) rfl c3 ?_
      refine ev_iconst (mm 11 rfl) cI_0 ?_
      exact ev_zreturn (mm 12 rfl) h
    · refine ev_if_f 23 (mm 3 rfl) rfl c3 ?_
      refine ev_iload_n (mm 4 rfl) l2 ?_
      refine ev_bipush (mm 5 rfl) cB_16 ?_
      obtain ⟨p4, e5, h⟩ := bind_so h
      refine ev_callS_I [.int (x2), .int (16)] (mm 6 rfl) (by decide) rfl rfl (Nat.le_of_ble_eq_true rfl) (f102_ok e5 (d + 0)) ?_
      rcases ite_so h with ⟨c6, h⟩ | ⟨c6, h⟩
      · refine ev_if_t 23 (mm 7 rfl) rfl c6 ?_
        refine ev_iconst (mm 11 rfl) cI_0 ?_
        exact ev_zreturn (mm 12 rfl) h
      · refine ev_if_f 23 (mm 7 rfl) rfl c6 ?_
        refine ev_iload_n (mm 8 rfl) l1 ?_
        refine ev_iload_n (mm 9 rfl) l2 ?_
        rcases ite_so h with ⟨c7, h⟩ | ⟨c7, h⟩
        · refine ev_ic_t 25 (mm 10 rfl) rfl c7 ?_
          refine ev_iload_n (mm 13 rfl) l3 ?_
          rcases ite_so h with ⟨c8, h⟩ | ⟨c8, h⟩
          · refine ev_if_t 36 (mm 14 rfl) rfl c8 ?_
            refine ev_iconst (mm 18 rfl) cI_0 ?_
            exact ev_zreturn (mm 19 rfl) h
          · refine ev_if_f 36 (mm 14 rfl) rfl c8 ?_
            refine ev_iload_n (mm 15 rfl) l3 ?_
            refine ev_sipush (mm 16 rfl) cS_999 ?_
            rcases ite_so h with ⟨c9, h⟩ | ⟨c9, h⟩
            · refine ev_ic_t 38 (mm 17 rfl) rfl c9 ?_
              refine ev_aload_nR (mm 20 rfl) l0 ?_
              obtain ⟨v10, e11, h⟩ := bind_so h
              refine ev_get_r (mm 21 rfl) rfl e11 ?_
              obtain ⟨q12, e13, h⟩ := bind_so h
              rw [e13]
              obtain ⟨v14, e15, h⟩ := bind_so h
              refine ev_get_r (mm 22 rfl) rfl e15 ?_
              refine ev_iload_n (mm 23 rfl) l1 ?_
              refine ev_iload_n (mm 24 rfl) l2 ?_
              refine ev_iload_n (mm 25 rfl) l3 ?_
              obtain ⟨q16, e17, h⟩ := bind_so h
              rw [e17]
              obtain ⟨_, e27, h⟩ := bind_so h
              obtain ⟨p18, e19, h⟩ := bind_so h
              refine ev_callV_V [.int (x1), .int (x2), .int (x3)] (mm 26 rfl) rfl rfl (Nat.le_of_ble_eq_true rfl) (s_ob_of e27) (f52_ok e19 (d + 0)) ?_
              refine ev_aload_nR (mm 27 rfl) l0 ?_
              obtain ⟨v20, e21, h⟩ := bind_so h
              refine ev_get_r (mm 28 rfl) rfl e21 ?_
              obtain ⟨q22, e23, h⟩ := bind_so h
              rw [e23]
              obtain ⟨_, e26, h⟩ := bind_so h
              obtain ⟨p24, e25, h⟩ := bind_so h
              refine ev_callV_V [] (mm 29 rfl) rfl rfl (Nat.le_of_ble_eq_true rfl) (s_ob_of e26) (f58_ok e25 (d + 0)) ?_
              refine ev_iconst (mm 30 rfl) cI_1 ?_
              exact ev_zreturn (mm 31 rfl) h
            · refine ev_ic_f 38 (mm 17 rfl) rfl c9 ?_
              refine ev_iconst (mm 18 rfl) cI_0 ?_
              exact ev_zreturn (mm 19 rfl) h
        · refine ev_ic_f 25 (mm 10 rfl) rfl c7 ?_
          refine ev_iconst (mm 11 rfl) cI_0 ?_
          exact ev_zreturn (mm 12 rfl) h
  exact ⟨by decide, Nat.le_of_ble_eq_true rfl, key.1, key.2⟩
/-- PupilCoin.isYear(I)Z -/
def f103 (x0 : Int32) (M : vm_M) : Option (Int32 × vm_M) :=
  (f102 x0 10 M).bind fun p1 =>
  s_rb p1.1 p1.2
theorem f103_ok {x0 : Int32} {M : vm_M} {r : Int32 × vm_M} (h : f103 x0 M = some r) (d : Nat) : vm_Cl (d + 2) 103 [.int (x0)] M (rI r) := by
  have key : Ev 0 (fun _ => 0) (vm_Cl (d + 1)) vp_103 10 1 false (some (.boolean)) (rI r) 0 (lv_args 0 [.int (x0)]) [] M := by
    have l0 : (0, .int (x0)) ∈ lv_args 0 [.int (x0)] := List.Mem.head _
    unfold f103 at h
    refine ev_iload_n (mm 0 rfl) l0 ?_
    refine ev_bipush (mm 1 rfl) cB_10 ?_
    obtain ⟨p1, e2, h⟩ := bind_so h
    refine ev_callS_I [.int (x0), .int (10)] (mm 2 rfl) (by decide) rfl rfl (Nat.le_of_ble_eq_true rfl) (f102_ok e2 (d + 0)) ?_
    exact ev_zreturn (mm 3 rfl) h
  exact ⟨by decide, Nat.le_of_ble_eq_true rfl, key.1, key.2⟩
/-- PupilCoin.isSchool(I)Z -/
def f105 (x0 : Nat) (x1 : Int32) (M : vm_M) : Option (Int32 × vm_M) :=
  (sg_r M x0 10 0).bind fun v1 =>
  (v1).bind fun q3 =>
  (sg_i M q3 0 7).bind fun v5 =>
  (f102 x1 v5 M).bind fun p7 =>
  s_rb p7.1 p7.2
theorem f105_ok {x0 : Nat} {x1 : Int32} {M : vm_M} {r : Int32 × vm_M} (h : f105 x0 x1 M = some r) (d : Nat) : vm_Cl (d + 2) 105 [.ref (x0), .int (x1)] M (rI r) := by
  have key : Ev 0 (fun _ => 0) (vm_Cl (d + 1)) vp_105 10 2 false (some (.boolean)) (rI r) 0 (lv_args 0 [.ref (x0), .int (x1)]) [] M := by
    have l0 : (0, .ref (x0)) ∈ lv_args 0 [.ref (x0), .int (x1)] := List.Mem.head _
    have l1 : (1, .int (x1)) ∈ lv_args 0 [.ref (x0), .int (x1)] := List.Mem.tail _ (List.Mem.head _)
    unfold f105 at h
    refine ev_iload_n (mm 0 rfl) l1 ?_
    refine ev_aload_nR (mm 1 rfl) l0 ?_
    obtain ⟨v1, e2, h⟩ := bind_so h
    refine ev_get_r (mm 2 rfl) rfl e2 ?_
    obtain ⟨q3, e4, h⟩ := bind_so h
    rw [e4]
    obtain ⟨v5, e6, h⟩ := bind_so h
    refine ev_get_i (mm 3 rfl) rfl e6 ?_
    obtain ⟨p7, e8, h⟩ := bind_so h
    refine ev_callS_I [.int (x1), .int (v5)] (mm 4 rfl) (by decide) rfl rfl (Nat.le_of_ble_eq_true rfl) (f102_ok e8 (d + 0)) ?_
    exact ev_zreturn (mm 5 rfl) h
  exact ⟨by decide, Nat.le_of_ble_eq_true rfl, key.1, key.2⟩
/-- PupilCoin.far(II)I -/
def f78 (x0 : Nat) (x1 : Int32) (x2 : Int32) (M : vm_M) : Option (Int32 × vm_M) :=
  (s_ob M x0 10).bind fun _ =>
  (f105 x0 x1 M).bind fun p1 =>
  if p1.1 = 0 then
    some ((-1), p1.2)
  else
    (f103 x2 p1.2).bind fun p4 =>
    if p4.1 = 0 then
      some ((-1), p4.2)
    else
      (sg_r p4.2 x0 10 0).bind fun v7 =>
      (v7).bind fun q9 =>
      (s_ob p4.2 q9 0).bind fun _ =>
      (f2 q9 x1 x2 p4.2).bind fun p11 =>
      if ¬ p11.1 = 0 then
        (sg_r p11.2 x0 10 0).bind fun v14 =>
        (v14).bind fun q16 =>
        (s_ob p11.2 q16 0).bind fun _ =>
        (f7 q16 x1 x2 p11.2).bind fun p18 =>
        some (p18.1, p18.2)
      else
        some ((-1), p11.2)
theorem f78_ok {x0 : Nat} {x1 : Int32} {x2 : Int32} {M : vm_M} {r : Int32 × vm_M} (h : f78 x0 x1 x2 M = some r) (d : Nat) : vm_Cl (d + 3) 78 [.ref (x0), .int (x1), .int (x2)] M (rI r) := by
  have key : Ev 0 (fun _ => 0) (vm_Cl (d + 2)) vp_78 10 3 false (some (.int)) (rI r) 0 (lv_args 0 [.ref (x0), .int (x1), .int (x2)]) [] M := by
    have l0 : (0, .ref (x0)) ∈ lv_args 0 [.ref (x0), .int (x1), .int (x2)] := List.Mem.head _
    have l1 : (1, .int (x1)) ∈ lv_args 0 [.ref (x0), .int (x1), .int (x2)] := List.Mem.tail _ (List.Mem.head _)
    have l2 : (2, .int (x2)) ∈ lv_args 0 [.ref (x0), .int (x1), .int (x2)] := List.Mem.tail _ (List.Mem.tail _ (List.Mem.head _))
    unfold f78 at h
    refine ev_aload_nR (mm 0 rfl) l0 ?_
    refine ev_iload_n (mm 1 rfl) l1 ?_
    obtain ⟨_, e22, h⟩ := bind_so h
    obtain ⟨p1, e2, h⟩ := bind_so h
    refine ev_callV_I [.int (x1)] (mm 2 rfl) rfl rfl (Nat.le_of_ble_eq_true rfl) (s_ob_of e22) (f105_ok e2 (d + 0)) ?_
    rcases ite_so h with ⟨c3, h⟩ | ⟨c3, h⟩
    · refine ev_if_t 27 (mm 3 rfl) rfl c3 ?_
      refine ev_iconst (mm 13 rfl) cI_m1 ?_
      exact ev_ireturn (mm 14 rfl) h
    · refine ev_if_f 27 (mm 3 rfl) rfl c3 ?_
      refine ev_iload_n (mm 4 rfl) l2 ?_
      obtain ⟨p4, e5, h⟩ := bind_so h
      refine ev_callS_I [.int (x2)] (mm 5 rfl) (by decide) rfl rfl (Nat.le_of_ble_eq_true rfl) (f103_ok e5 (d + 0)) ?_
      rcases ite_so h with ⟨c6, h⟩ | ⟨c6, h⟩
      · refine ev_if_t 27 (mm 6 rfl) rfl c6 ?_
        refine ev_iconst (mm 13 rfl) cI_m1 ?_
        exact ev_ireturn (mm 14 rfl) h
      · refine ev_if_f 27 (mm 6 rfl) rfl c6 ?_
        refine ev_aload_nR (mm 7 rfl) l0 ?_
        obtain ⟨v7, e8, h⟩ := bind_so h
        refine ev_get_r (mm 8 rfl) rfl e8 ?_
        refine ev_iload_n (mm 9 rfl) l1 ?_
        refine ev_iload_n (mm 10 rfl) l2 ?_
        obtain ⟨q9, e10, h⟩ := bind_so h
        rw [e10]
        obtain ⟨_, e21, h⟩ := bind_so h
        obtain ⟨p11, e12, h⟩ := bind_so h
        refine ev_callV_I [.int (x1), .int (x2)] (mm 11 rfl) rfl rfl (Nat.le_of_ble_eq_true rfl) (s_ob_of e21) (f2_ok e12 (d + 1)) ?_
        rcases ite_so h with ⟨c13, h⟩ | ⟨c13, h⟩
        · refine ev_if_t 29 (mm 12 rfl) rfl c13 ?_
          refine ev_aload_nR (mm 15 rfl) l0 ?_
          obtain ⟨v14, e15, h⟩ := bind_so h
          refine ev_get_r (mm 16 rfl) rfl e15 ?_
          refine ev_iload_n (mm 17 rfl) l1 ?_
          refine ev_iload_n (mm 18 rfl) l2 ?_
          obtain ⟨q16, e17, h⟩ := bind_so h
          rw [e17]
          obtain ⟨_, e20, h⟩ := bind_so h
          obtain ⟨p18, e19, h⟩ := bind_so h
          refine ev_callV_I [.int (x1), .int (x2)] (mm 19 rfl) rfl rfl (Nat.le_of_ble_eq_true rfl) (s_ob_of e20) (f7_ok e19 (d + 0)) ?_
          exact ev_ireturn (mm 20 rfl) h
        · refine ev_if_f 29 (mm 12 rfl) rfl c13 ?_
          refine ev_iconst (mm 13 rfl) cI_m1 ?_
          exact ev_ireturn (mm 14 rfl) h
  exact ⟨by decide, Nat.le_of_ble_eq_true rfl, key.1, key.2⟩
/-- PupilCoin.mark(IIII)I -/
def f79 (x0 : Nat) (x1 : Int32) (x2 : Int32) (x3 : Int32) (x4 : Int32) (M : vm_M) : Option (Int32 × vm_M) :=
  (s_ob M x0 10).bind fun _ =>
  (f105 x0 x1 M).bind fun p1 =>
  if p1.1 = 0 then
    some ((-1), p1.2)
  else
    (f103 x2 p1.2).bind fun p4 =>
    if p4.1 = 0 then
      some ((-1), p4.2)
    else
      (f102 x3 6 p4.2).bind fun p7 =>
      if ¬ p7.1 = 0 then
        if x4 < 0 then
          some ((-1), p7.2)
        else
          if 9999 < x4 then
            some ((-1), p7.2)
          else
            (sg_r p7.2 x0 10 1).bind fun v12 =>
            (v12).bind fun q14 =>
            (sg_i p7.2 q14 2 4).bind fun v16 =>
            if v16 < 300 then
              (sg_r p7.2 x0 10 4).bind fun v19 =>
              (v19).bind fun q21 =>
              (s_ob p7.2 q21 9).bind fun _ =>
              (f58 q21 p7.2).bind fun p23 =>
              (sg_r p23 x0 10 1).bind fun v25 =>
              (sg_i p23 x0 10 10).bind fun v27 =>
              (v25).bind fun q29 =>
              (s_ob p23 q29 2).bind fun _ =>
              (f11 q29 x1 x2 x3 x4 v27 p23).bind fun p31 =>
              some (p31.1, p31.2)
            else
              some ((-1), p7.2)
      else
        some ((-1), p7.2)
theorem f79_ok {x0 : Nat} {x1 : Int32} {x2 : Int32} {x3 : Int32} {x4 : Int32} {M : vm_M} {r : Int32 × vm_M} (h : f79 x0 x1 x2 x3 x4 M = some r) (d : Nat) : vm_Cl (d + 3) 79 [.ref (x0), .int (x1), .int (x2), .int (x3), .int (x4)] M (rI r) := by
  have key : Ev 0 (fun _ => 0) (vm_Cl (d + 2)) vp_79 10 5 false (some (.int)) (rI r) 0 (lv_args 0 [.ref (x0), .int (x1), .int (x2), .int (x3), .int (x4)]) [] M := by
    have l0 : (0, .ref (x0)) ∈ lv_args 0 [.ref (x0), .int (x1), .int (x2), .int (x3), .int (x4)] := List.Mem.head _
    have l1 : (1, .int (x1)) ∈ lv_args 0 [.ref (x0), .int (x1), .int (x2), .int (x3), .int (x4)] := List.Mem.tail _ (List.Mem.head _)
    have l2 : (2, .int (x2)) ∈ lv_args 0 [.ref (x0), .int (x1), .int (x2), .int (x3), .int (x4)] := List.Mem.tail _ (List.Mem.tail _ (List.Mem.head _))
    have l3 : (3, .int (x3)) ∈ lv_args 0 [.ref (x0), .int (x1), .int (x2), .int (x3), .int (x4)] := List.Mem.tail _ (List.Mem.tail _ (List.Mem.tail _ (List.Mem.head _)))
    have l4 : (4, .int (x4)) ∈ lv_args 0 [.ref (x0), .int (x1), .int (x2), .int (x3), .int (x4)] := List.Mem.tail _ (List.Mem.tail _ (List.Mem.tail _ (List.Mem.tail _ (List.Mem.head _))))
    unfold f79 at h
    refine ev_aload_nR (mm 0 rfl) l0 ?_
    refine ev_iload_n (mm 1 rfl) l1 ?_
    obtain ⟨_, e35, h⟩ := bind_so h
    obtain ⟨p1, e2, h⟩ := bind_so h
    refine ev_callV_I [.int (x1)] (mm 2 rfl) rfl rfl (Nat.le_of_ble_eq_true rfl) (s_ob_of e35) (f105_ok e2 (d + 0)) ?_
    rcases ite_so h with ⟨c3, h⟩ | ⟨c3, h⟩
    · refine ev_if_t 24 (mm 3 rfl) rfl c3 ?_
      refine ev_iconst (mm 11 rfl) cI_m1 ?_
      exact ev_ireturn (mm 12 rfl) h
    · refine ev_if_f 24 (mm 3 rfl) rfl c3 ?_
      refine ev_iload_n (mm 4 rfl) l2 ?_
      obtain ⟨p4, e5, h⟩ := bind_so h
      refine ev_callS_I [.int (x2)] (mm 5 rfl) (by decide) rfl rfl (Nat.le_of_ble_eq_true rfl) (f103_ok e5 (d + 0)) ?_
      rcases ite_so h with ⟨c6, h⟩ | ⟨c6, h⟩
      · refine ev_if_t 24 (mm 6 rfl) rfl c6 ?_
        refine ev_iconst (mm 11 rfl) cI_m1 ?_
        exact ev_ireturn (mm 12 rfl) h
      · refine ev_if_f 24 (mm 6 rfl) rfl c6 ?_
        refine ev_iload_n (mm 7 rfl) l3 ?_
        refine ev_bipush (mm 8 rfl) cB_6 ?_
        obtain ⟨p7, e8, h⟩ := bind_so h
        refine ev_callS_I [.int (x3), .int (6)] (mm 9 rfl) (by decide) rfl rfl (Nat.le_of_ble_eq_true rfl) (f102_ok e8 (d + 1)) ?_
        rcases ite_so h with ⟨c9, h⟩ | ⟨c9, h⟩
        · refine ev_if_t 26 (mm 10 rfl) rfl c9 ?_
          refine ev_iload (mm 13 rfl) l4 ?_
          rcases ite_so h with ⟨c10, h⟩ | ⟨c10, h⟩
          · refine ev_if_t 52 (mm 14 rfl) rfl c10 ?_
            refine ev_iconst (mm 23 rfl) cI_m1 ?_
            exact ev_ireturn (mm 24 rfl) h
          · refine ev_if_f 52 (mm 14 rfl) rfl c10 ?_
            refine ev_iload (mm 15 rfl) l4 ?_
            refine ev_sipush (mm 16 rfl) cS_9999 ?_
            rcases ite_so h with ⟨c11, h⟩ | ⟨c11, h⟩
            · refine ev_ic_t 52 (mm 17 rfl) rfl c11 ?_
              refine ev_iconst (mm 23 rfl) cI_m1 ?_
              exact ev_ireturn (mm 24 rfl) h
            · refine ev_ic_f 52 (mm 17 rfl) rfl c11 ?_
              refine ev_aload_nR (mm 18 rfl) l0 ?_
              obtain ⟨v12, e13, h⟩ := bind_so h
              refine ev_get_r (mm 19 rfl) rfl e13 ?_
              obtain ⟨q14, e15, h⟩ := bind_so h
              rw [e15]
              obtain ⟨v16, e17, h⟩ := bind_so h
              refine ev_get_i (mm 20 rfl) rfl e17 ?_
              refine ev_sipush (mm 21 rfl) cS_300 ?_
              rcases ite_so h with ⟨c18, h⟩ | ⟨c18, h⟩
              · refine ev_ic_t 54 (mm 22 rfl) rfl c18 ?_
                refine ev_aload_nR (mm 25 rfl) l0 ?_
                obtain ⟨v19, e20, h⟩ := bind_so h
                refine ev_get_r (mm 26 rfl) rfl e20 ?_
                obtain ⟨q21, e22, h⟩ := bind_so h
                rw [e22]
                obtain ⟨_, e34, h⟩ := bind_so h
                obtain ⟨p23, e24, h⟩ := bind_so h
                refine ev_callV_V [] (mm 27 rfl) rfl rfl (Nat.le_of_ble_eq_true rfl) (s_ob_of e34) (f58_ok e24 (d + 1)) ?_
                refine ev_aload_nR (mm 28 rfl) l0 ?_
                obtain ⟨v25, e26, h⟩ := bind_so h
                refine ev_get_r (mm 29 rfl) rfl e26 ?_
                refine ev_iload_n (mm 30 rfl) l1 ?_
                refine ev_iload_n (mm 31 rfl) l2 ?_
                refine ev_iload_n (mm 32 rfl) l3 ?_
                refine ev_iload (mm 33 rfl) l4 ?_
                refine ev_aload_nR (mm 34 rfl) l0 ?_
                obtain ⟨v27, e28, h⟩ := bind_so h
                refine ev_get_i (mm 35 rfl) rfl e28 ?_
                obtain ⟨q29, e30, h⟩ := bind_so h
                rw [e30]
                obtain ⟨_, e33, h⟩ := bind_so h
                obtain ⟨p31, e32, h⟩ := bind_so h
                refine ev_callV_I [.int (x1), .int (x2), .int (x3), .int (x4), .int (v27)] (mm 36 rfl) rfl rfl (Nat.le_of_ble_eq_true rfl) (s_ob_of e33) (f11_ok e32 (d + 1)) ?_
                exact ev_ireturn (mm 37 rfl) h
              · refine ev_ic_f 54 (mm 22 rfl) rfl c18 ?_
                refine ev_iconst (mm 23 rfl) cI_m1 ?_
                exact ev_ireturn (mm 24 rfl) h
        · refine ev_if_f 26 (mm 10 rfl) rfl c9 ?_
          refine ev_iconst (mm 11 rfl) cI_m1 ?_
          exact ev_ireturn (mm 12 rfl) h
  exact ⟨by decide, Nat.le_of_ble_eq_true rfl, key.1, key.2⟩
/-- PupilCoin.isDay(I)Z -/
def f104 (x0 : Int32) (M : vm_M) : Option (Int32 × vm_M) :=
  if x0 < 0 then
    s_rb 0 M
  else
    if 999 < x0 then
      s_rb 0 M
    else
      s_rb 1 M
theorem f104_ok {x0 : Int32} {M : vm_M} {r : Int32 × vm_M} (h : f104 x0 M = some r) (d : Nat) : vm_Cl (d + 1) 104 [.int (x0)] M (rI r) := by
  have key : Ev 0 (fun _ => 0) (vm_Cl (d + 0)) vp_104 10 1 false (some (.boolean)) (rI r) 0 (lv_args 0 [.int (x0)]) [] M := by
    have l0 : (0, .int (x0)) ∈ lv_args 0 [.int (x0)] := List.Mem.head _
    unfold f104 at h
    refine ev_iload_n (mm 0 rfl) l0 ?_
    rcases ite_so h with ⟨c1, h⟩ | ⟨c1, h⟩
    · refine ev_if_t 15 (mm 1 rfl) rfl c1 ?_
      refine ev_iconst (mm 7 rfl) cI_0 ?_
      exact ev_zreturn (mm 8 rfl) h
    · refine ev_if_f 15 (mm 1 rfl) rfl c1 ?_
      refine ev_iload_n (mm 2 rfl) l0 ?_
      refine ev_sipush (mm 3 rfl) cS_999 ?_
      rcases ite_so h with ⟨c2, h⟩ | ⟨c2, h⟩
      · refine ev_ic_t 15 (mm 4 rfl) rfl c2 ?_
        refine ev_iconst (mm 7 rfl) cI_0 ?_
        exact ev_zreturn (mm 8 rfl) h
      · refine ev_ic_f 15 (mm 4 rfl) rfl c2 ?_
        refine ev_iconst (mm 5 rfl) cI_1 ?_
        refine ev_goto 16 (mm 6 rfl) rfl ?_
        exact ev_zreturn (mm 8 rfl) h
  exact ⟨by decide, Nat.le_of_ble_eq_true rfl, key.1, key.2⟩
/-- PupilCoin.marked(IIII)I -/
def f80 (x0 : Nat) (x1 : Int32) (x2 : Int32) (x3 : Int32) (x4 : Int32) (M : vm_M) : Option (Int32 × vm_M) :=
  (s_ob M x0 10).bind fun _ =>
  (f105 x0 x1 M).bind fun p1 =>
  if p1.1 = 0 then
    some ((-1), p1.2)
  else
    (f103 x2 p1.2).bind fun p4 =>
    if p4.1 = 0 then
      some ((-1), p4.2)
    else
      (f102 x3 6 p4.2).bind fun p7 =>
      if p7.1 = 0 then
        some ((-1), p7.2)
      else
        (f104 x4 p7.2).bind fun p10 =>
        if ¬ p10.1 = 0 then
          (sg_r p10.2 x0 10 1).bind fun v13 =>
          (v13).bind fun q15 =>
          (s_ob p10.2 q15 2).bind fun _ =>
          (f12 q15 x1 x2 x3 x4 p10.2).bind fun p17 =>
          some (p17.1, p17.2)
        else
          some ((-1), p10.2)
theorem f80_ok {x0 : Nat} {x1 : Int32} {x2 : Int32} {x3 : Int32} {x4 : Int32} {M : vm_M} {r : Int32 × vm_M} (h : f80 x0 x1 x2 x3 x4 M = some r) (d : Nat) : vm_Cl (d + 3) 80 [.ref (x0), .int (x1), .int (x2), .int (x3), .int (x4)] M (rI r) := by
  have key : Ev 0 (fun _ => 0) (vm_Cl (d + 2)) vp_80 10 5 false (some (.int)) (rI r) 0 (lv_args 0 [.ref (x0), .int (x1), .int (x2), .int (x3), .int (x4)]) [] M := by
    have l0 : (0, .ref (x0)) ∈ lv_args 0 [.ref (x0), .int (x1), .int (x2), .int (x3), .int (x4)] := List.Mem.head _
    have l1 : (1, .int (x1)) ∈ lv_args 0 [.ref (x0), .int (x1), .int (x2), .int (x3), .int (x4)] := List.Mem.tail _ (List.Mem.head _)
    have l2 : (2, .int (x2)) ∈ lv_args 0 [.ref (x0), .int (x1), .int (x2), .int (x3), .int (x4)] := List.Mem.tail _ (List.Mem.tail _ (List.Mem.head _))
    have l3 : (3, .int (x3)) ∈ lv_args 0 [.ref (x0), .int (x1), .int (x2), .int (x3), .int (x4)] := List.Mem.tail _ (List.Mem.tail _ (List.Mem.tail _ (List.Mem.head _)))
    have l4 : (4, .int (x4)) ∈ lv_args 0 [.ref (x0), .int (x1), .int (x2), .int (x3), .int (x4)] := List.Mem.tail _ (List.Mem.tail _ (List.Mem.tail _ (List.Mem.tail _ (List.Mem.head _))))
    unfold f80 at h
    refine ev_aload_nR (mm 0 rfl) l0 ?_
    refine ev_iload_n (mm 1 rfl) l1 ?_
    obtain ⟨_, e20, h⟩ := bind_so h
    obtain ⟨p1, e2, h⟩ := bind_so h
    refine ev_callV_I [.int (x1)] (mm 2 rfl) rfl rfl (Nat.le_of_ble_eq_true rfl) (s_ob_of e20) (f105_ok e2 (d + 0)) ?_
    rcases ite_so h with ⟨c3, h⟩ | ⟨c3, h⟩
    · refine ev_if_t 32 (mm 3 rfl) rfl c3 ?_
      refine ev_iconst (mm 14 rfl) cI_m1 ?_
      exact ev_ireturn (mm 15 rfl) h
    · refine ev_if_f 32 (mm 3 rfl) rfl c3 ?_
      refine ev_iload_n (mm 4 rfl) l2 ?_
      obtain ⟨p4, e5, h⟩ := bind_so h
      refine ev_callS_I [.int (x2)] (mm 5 rfl) (by decide) rfl rfl (Nat.le_of_ble_eq_true rfl) (f103_ok e5 (d + 0)) ?_
      rcases ite_so h with ⟨c6, h⟩ | ⟨c6, h⟩
      · refine ev_if_t 32 (mm 6 rfl) rfl c6 ?_
        refine ev_iconst (mm 14 rfl) cI_m1 ?_
        exact ev_ireturn (mm 15 rfl) h
      · refine ev_if_f 32 (mm 6 rfl) rfl c6 ?_
        refine ev_iload_n (mm 7 rfl) l3 ?_
        refine ev_bipush (mm 8 rfl) cB_6 ?_
        obtain ⟨p7, e8, h⟩ := bind_so h
        refine ev_callS_I [.int (x3), .int (6)] (mm 9 rfl) (by decide) rfl rfl (Nat.le_of_ble_eq_true rfl) (f102_ok e8 (d + 1)) ?_
        rcases ite_so h with ⟨c9, h⟩ | ⟨c9, h⟩
        · refine ev_if_t 32 (mm 10 rfl) rfl c9 ?_
          refine ev_iconst (mm 14 rfl) cI_m1 ?_
          exact ev_ireturn (mm 15 rfl) h
        · refine ev_if_f 32 (mm 10 rfl) rfl c9 ?_
          refine ev_iload (mm 11 rfl) l4 ?_
          obtain ⟨p10, e11, h⟩ := bind_so h
          refine ev_callS_I [.int (x4)] (mm 12 rfl) (by decide) rfl rfl (Nat.le_of_ble_eq_true rfl) (f104_ok e11 (d + 1)) ?_
          rcases ite_so h with ⟨c12, h⟩ | ⟨c12, h⟩
          · refine ev_if_t 34 (mm 13 rfl) rfl c12 ?_
            refine ev_aload_nR (mm 16 rfl) l0 ?_
            obtain ⟨v13, e14, h⟩ := bind_so h
            refine ev_get_r (mm 17 rfl) rfl e14 ?_
            refine ev_iload_n (mm 18 rfl) l1 ?_
            refine ev_iload_n (mm 19 rfl) l2 ?_
            refine ev_iload_n (mm 20 rfl) l3 ?_
            refine ev_iload (mm 21 rfl) l4 ?_
            obtain ⟨q15, e16, h⟩ := bind_so h
            rw [e16]
            obtain ⟨_, e19, h⟩ := bind_so h
            obtain ⟨p17, e18, h⟩ := bind_so h
            refine ev_callV_I [.int (x1), .int (x2), .int (x3), .int (x4)] (mm 22 rfl) rfl rfl (Nat.le_of_ble_eq_true rfl) (s_ob_of e19) (f12_ok e18 (d + 1)) ?_
            exact ev_ireturn (mm 23 rfl) h
          · refine ev_if_f 34 (mm 13 rfl) rfl c12 ?_
            refine ev_iconst (mm 14 rfl) cI_m1 ?_
            exact ev_ireturn (mm 15 rfl) h
  exact ⟨by decide, Nat.le_of_ble_eq_true rfl, key.1, key.2⟩
/-- PupilCoin.isLaterYear(I)Z -/
def f106 (x0 : Nat) (x1 : Int32) (M : vm_M) : Option (Int32 × vm_M) :=
  (f103 x1 M).bind fun p1 =>
  if p1.1 = 0 then
    s_rb 0 p1.2
  else
    (sg_i p1.2 x0 10 10).bind fun v4 =>
    (s_dv v4 100).bind fun v6 =>
    if x1 ≤ v6 then
      s_rb 0 p1.2
    else
      s_rb 1 p1.2
theorem f106_ok {x0 : Nat} {x1 : Int32} {M : vm_M} {r : Int32 × vm_M} (h : f106 x0 x1 M = some r) (d : Nat) : vm_Cl (d + 3) 106 [.ref (x0), .int (x1)] M (rI r) := by
  have key : Ev 0 (fun _ => 0) (vm_Cl (d + 2)) vp_106 10 2 false (some (.boolean)) (rI r) 0 (lv_args 0 [.ref (x0), .int (x1)]) [] M := by
    have l0 : (0, .ref (x0)) ∈ lv_args 0 [.ref (x0), .int (x1)] := List.Mem.head _
    have l1 : (1, .int (x1)) ∈ lv_args 0 [.ref (x0), .int (x1)] := List.Mem.tail _ (List.Mem.head _)
    unfold f106 at h
    refine ev_iload_n (mm 0 rfl) l1 ?_
    obtain ⟨p1, e2, h⟩ := bind_so h
    refine ev_callS_I [.int (x1)] (mm 1 rfl) (by decide) rfl rfl (Nat.le_of_ble_eq_true rfl) (f103_ok e2 (d + 0)) ?_
    rcases ite_so h with ⟨c3, h⟩ | ⟨c3, h⟩
    · refine ev_if_t 22 (mm 2 rfl) rfl c3 ?_
      refine ev_iconst (mm 11 rfl) cI_0 ?_
      exact ev_zreturn (mm 12 rfl) h
    · refine ev_if_f 22 (mm 2 rfl) rfl c3 ?_
      refine ev_iload_n (mm 3 rfl) l1 ?_
      refine ev_aload_nR (mm 4 rfl) l0 ?_
      obtain ⟨v4, e5, h⟩ := bind_so h
      refine ev_get_i (mm 5 rfl) rfl e5 ?_
      refine ev_bipush (mm 6 rfl) cB_100 ?_
      obtain ⟨v6, e7, h⟩ := bind_so h
      refine ev_idiv (mm 7 rfl) e7 ?_
      rcases ite_so h with ⟨c8, h⟩ | ⟨c8, h⟩
      · refine ev_ic_t 22 (mm 8 rfl) rfl c8 ?_
        refine ev_iconst (mm 11 rfl) cI_0 ?_
        exact ev_zreturn (mm 12 rfl) h
      · refine ev_ic_f 22 (mm 8 rfl) rfl c8 ?_
        refine ev_iconst (mm 9 rfl) cI_1 ?_
        refine ev_goto 23 (mm 10 rfl) rfl ?_
        exact ev_zreturn (mm 12 rfl) h
  exact ⟨by decide, Nat.le_of_ble_eq_true rfl, key.1, key.2⟩
/-- PupilCoin.join(III)I -/
def f81 (x0 : Nat) (x1 : Int32) (x2 : Int32) (x3 : Int32) (M : vm_M) : Option (Int32 × vm_M) :=
  (s_ob M x0 10).bind fun _ =>
  (f105 x0 x1 M).bind fun p1 =>
  if p1.1 = 0 then
    some ((-1), p1.2)
  else
    (s_ob p1.2 x0 10).bind fun _ =>
    (f105 x0 x2 p1.2).bind fun p4 =>
    if p4.1 = 0 then
      some ((-1), p4.2)
    else
      if ¬ x1 = x2 then
        (s_ob p4.2 x0 10).bind fun _ =>
        (f106 x0 x3 p4.2).bind fun p8 =>
        if p8.1 = 0 then
          some ((-1), p8.2)
        else
          (sg_r p8.2 x0 10 0).bind fun v11 =>
          (v11).bind fun q13 =>
          (sg_i p8.2 q13 0 8).bind fun v15 =>
          if v15 < 6 then
            (sg_r p8.2 x0 10 0).bind fun v18 =>
            (v18).bind fun q20 =>
            (s_ob p8.2 q20 0).bind fun _ =>
            (f3 q20 x1 p8.2).bind fun p22 =>
            if ¬ p22.1 = 0 then
              some ((-1), p22.2)
            else
              (sg_r p22.2 x0 10 0).bind fun v25 =>
              (v25).bind fun q27 =>
              (s_ob p22.2 q27 0).bind fun _ =>
              (f3 q27 x2 p22.2).bind fun p29 =>
              if p29.1 = 0 then
                (sg_r p29.2 x0 10 4).bind fun v32 =>
                (v32).bind fun q34 =>
                (s_ob p29.2 q34 9).bind fun _ =>
                (f58 q34 p29.2).bind fun p36 =>
                (sg_r p36 x0 10 0).bind fun v38 =>
                (v38).bind fun q40 =>
                (s_ob p36 q40 0).bind fun _ =>
                (f4 q40 x1 x2 x3 p36).bind fun p42 =>
                some (p42.1, p42.2)
              else
                some ((-1), p29.2)
          else
            some ((-1), p8.2)
      else
        some ((-1), p4.2)
theorem f81_ok {x0 : Nat} {x1 : Int32} {x2 : Int32} {x3 : Int32} {M : vm_M} {r : Int32 × vm_M} (h : f81 x0 x1 x2 x3 M = some r) (d : Nat) : vm_Cl (d + 4) 81 [.ref (x0), .int (x1), .int (x2), .int (x3)] M (rI r) := by
  have key : Ev 0 (fun _ => 0) (vm_Cl (d + 3)) vp_81 10 4 false (some (.int)) (rI r) 0 (lv_args 0 [.ref (x0), .int (x1), .int (x2), .int (x3)]) [] M := by
    have l0 : (0, .ref (x0)) ∈ lv_args 0 [.ref (x0), .int (x1), .int (x2), .int (x3)] := List.Mem.head _
    have l1 : (1, .int (x1)) ∈ lv_args 0 [.ref (x0), .int (x1), .int (x2), .int (x3)] := List.Mem.tail _ (List.Mem.head _)
    have l2 : (2, .int (x2)) ∈ lv_args 0 [.ref (x0), .int (x1), .int (x2), .int (x3)] := List.Mem.tail _ (List.Mem.tail _ (List.Mem.head _))
    have l3 : (3, .int (x3)) ∈ lv_args 0 [.ref (x0), .int (x1), .int (x2), .int (x3)] := List.Mem.tail _ (List.Mem.tail _ (List.Mem.tail _ (List.Mem.head _)))
    unfold f81 at h
    refine ev_aload_nR (mm 0 rfl) l0 ?_
    refine ev_iload_n (mm 1 rfl) l1 ?_
    obtain ⟨_, e50, h⟩ := bind_so h
    obtain ⟨p1, e2, h⟩ := bind_so h
    refine ev_callV_I [.int (x1)] (mm 2 rfl) rfl rfl (Nat.le_of_ble_eq_true rfl) (s_ob_of e50) (f105_ok e2 (d + 1)) ?_
    rcases ite_so h with ⟨c3, h⟩ | ⟨c3, h⟩
    · refine ev_if_t 21 (mm 3 rfl) rfl c3 ?_
      refine ev_iconst (mm 11 rfl) cI_m1 ?_
      exact ev_ireturn (mm 12 rfl) h
    · refine ev_if_f 21 (mm 3 rfl) rfl c3 ?_
      refine ev_aload_nR (mm 4 rfl) l0 ?_
      refine ev_iload_n (mm 5 rfl) l2 ?_
      obtain ⟨_, e49, h⟩ := bind_so h
      obtain ⟨p4, e5, h⟩ := bind_so h
      refine ev_callV_I [.int (x2)] (mm 6 rfl) rfl rfl (Nat.le_of_ble_eq_true rfl) (s_ob_of e49) (f105_ok e5 (d + 1)) ?_
      rcases ite_so h with ⟨c6, h⟩ | ⟨c6, h⟩
      · refine ev_if_t 21 (mm 7 rfl) rfl c6 ?_
        refine ev_iconst (mm 11 rfl) cI_m1 ?_
        exact ev_ireturn (mm 12 rfl) h
      · refine ev_if_f 21 (mm 7 rfl) rfl c6 ?_
        refine ev_iload_n (mm 8 rfl) l1 ?_
        refine ev_iload_n (mm 9 rfl) l2 ?_
        rcases ite_so h with ⟨c7, h⟩ | ⟨c7, h⟩
        · refine ev_ic_t 23 (mm 10 rfl) rfl c7 ?_
          refine ev_aload_nR (mm 13 rfl) l0 ?_
          refine ev_iload_n (mm 14 rfl) l3 ?_
          obtain ⟨_, e48, h⟩ := bind_so h
          obtain ⟨p8, e9, h⟩ := bind_so h
          refine ev_callV_I [.int (x3)] (mm 15 rfl) rfl rfl (Nat.le_of_ble_eq_true rfl) (s_ob_of e48) (f106_ok e9 (d + 0)) ?_
          rcases ite_so h with ⟨c10, h⟩ | ⟨c10, h⟩
          · refine ev_if_t 43 (mm 16 rfl) rfl c10 ?_
            refine ev_iconst (mm 22 rfl) cI_m1 ?_
            exact ev_ireturn (mm 23 rfl) h
          · refine ev_if_f 43 (mm 16 rfl) rfl c10 ?_
            refine ev_aload_nR (mm 17 rfl) l0 ?_
            obtain ⟨v11, e12, h⟩ := bind_so h
            refine ev_get_r (mm 18 rfl) rfl e12 ?_
            obtain ⟨q13, e14, h⟩ := bind_so h
            rw [e14]
            obtain ⟨v15, e16, h⟩ := bind_so h
            refine ev_get_i (mm 19 rfl) rfl e16 ?_
            refine ev_bipush (mm 20 rfl) cB_6 ?_
            rcases ite_so h with ⟨c17, h⟩ | ⟨c17, h⟩
            · refine ev_ic_t 45 (mm 21 rfl) rfl c17 ?_
              refine ev_aload_nR (mm 24 rfl) l0 ?_
              obtain ⟨v18, e19, h⟩ := bind_so h
              refine ev_get_r (mm 25 rfl) rfl e19 ?_
              refine ev_iload_n (mm 26 rfl) l1 ?_
              obtain ⟨q20, e21, h⟩ := bind_so h
              rw [e21]
              obtain ⟨_, e47, h⟩ := bind_so h
              obtain ⟨p22, e23, h⟩ := bind_so h
              refine ev_callV_I [.int (x1)] (mm 27 rfl) rfl rfl (Nat.le_of_ble_eq_true rfl) (s_ob_of e47) (f3_ok e23 (d + 2)) ?_
              rcases ite_so h with ⟨c24, h⟩ | ⟨c24, h⟩
              · refine ev_if_t 67 (mm 28 rfl) rfl c24 ?_
                refine ev_iconst (mm 34 rfl) cI_m1 ?_
                exact ev_ireturn (mm 35 rfl) h
              · refine ev_if_f 67 (mm 28 rfl) rfl c24 ?_
                refine ev_aload_nR (mm 29 rfl) l0 ?_
                obtain ⟨v25, e26, h⟩ := bind_so h
                refine ev_get_r (mm 30 rfl) rfl e26 ?_
                refine ev_iload_n (mm 31 rfl) l2 ?_
                obtain ⟨q27, e28, h⟩ := bind_so h
                rw [e28]
                obtain ⟨_, e46, h⟩ := bind_so h
                obtain ⟨p29, e30, h⟩ := bind_so h
                refine ev_callV_I [.int (x2)] (mm 32 rfl) rfl rfl (Nat.le_of_ble_eq_true rfl) (s_ob_of e46) (f3_ok e30 (d + 2)) ?_
                rcases ite_so h with ⟨c31, h⟩ | ⟨c31, h⟩
                · refine ev_if_t 69 (mm 33 rfl) rfl c31 ?_
                  refine ev_aload_nR (mm 36 rfl) l0 ?_
                  obtain ⟨v32, e33, h⟩ := bind_so h
                  refine ev_get_r (mm 37 rfl) rfl e33 ?_
                  obtain ⟨q34, e35, h⟩ := bind_so h
                  rw [e35]
                  obtain ⟨_, e45, h⟩ := bind_so h
                  obtain ⟨p36, e37, h⟩ := bind_so h
                  refine ev_callV_V [] (mm 38 rfl) rfl rfl (Nat.le_of_ble_eq_true rfl) (s_ob_of e45) (f58_ok e37 (d + 2)) ?_
                  refine ev_aload_nR (mm 39 rfl) l0 ?_
                  obtain ⟨v38, e39, h⟩ := bind_so h
                  refine ev_get_r (mm 40 rfl) rfl e39 ?_
                  refine ev_iload_n (mm 41 rfl) l1 ?_
                  refine ev_iload_n (mm 42 rfl) l2 ?_
                  refine ev_iload_n (mm 43 rfl) l3 ?_
                  obtain ⟨q40, e41, h⟩ := bind_so h
                  rw [e41]
                  obtain ⟨_, e44, h⟩ := bind_so h
                  obtain ⟨p42, e43, h⟩ := bind_so h
                  refine ev_callV_I [.int (x1), .int (x2), .int (x3)] (mm 44 rfl) rfl rfl (Nat.le_of_ble_eq_true rfl) (s_ob_of e44) (f4_ok e43 (d + 2)) ?_
                  exact ev_ireturn (mm 45 rfl) h
                · refine ev_if_f 69 (mm 33 rfl) rfl c31 ?_
                  refine ev_iconst (mm 34 rfl) cI_m1 ?_
                  exact ev_ireturn (mm 35 rfl) h
            · refine ev_ic_f 45 (mm 21 rfl) rfl c17 ?_
              refine ev_iconst (mm 22 rfl) cI_m1 ?_
              exact ev_ireturn (mm 23 rfl) h
        · refine ev_ic_f 23 (mm 10 rfl) rfl c7 ?_
          refine ev_iconst (mm 11 rfl) cI_m1 ?_
          exact ev_ireturn (mm 12 rfl) h
  exact ⟨by decide, Nat.le_of_ble_eq_true rfl, key.1, key.2⟩
/-- PupilCoin.open(II)I -/
def f82 (x0 : Nat) (x1 : Int32) (x2 : Int32) (M : vm_M) : Option (Int32 × vm_M) :=
  (s_ob M x0 10).bind fun _ =>
  (f105 x0 x1 M).bind fun p1 =>
  if p1.1 = 0 then
    some ((-1), p1.2)
  else
    (f103 x2 p1.2).bind fun p4 =>
    if ¬ p4.1 = 0 then
      (sg_r p4.2 x0 10 0).bind fun v7 =>
      (v7).bind fun q9 =>
      (s_ob p4.2 q9 0).bind fun _ =>
      (f2 q9 x1 x2 p4.2).bind fun p11 =>
      if p11.1 = 0 then
        some (0, p11.2)
      else
        some (1, p11.2)
    else
      some ((-1), p4.2)
theorem f82_ok {x0 : Nat} {x1 : Int32} {x2 : Int32} {M : vm_M} {r : Int32 × vm_M} (h : f82 x0 x1 x2 M = some r) (d : Nat) : vm_Cl (d + 3) 82 [.ref (x0), .int (x1), .int (x2)] M (rI r) := by
  have key : Ev 0 (fun _ => 0) (vm_Cl (d + 2)) vp_82 10 3 false (some (.int)) (rI r) 0 (lv_args 0 [.ref (x0), .int (x1), .int (x2)]) [] M := by
    have l0 : (0, .ref (x0)) ∈ lv_args 0 [.ref (x0), .int (x1), .int (x2)] := List.Mem.head _
    have l1 : (1, .int (x1)) ∈ lv_args 0 [.ref (x0), .int (x1), .int (x2)] := List.Mem.tail _ (List.Mem.head _)
    have l2 : (2, .int (x2)) ∈ lv_args 0 [.ref (x0), .int (x1), .int (x2)] := List.Mem.tail _ (List.Mem.tail _ (List.Mem.head _))
    unfold f82 at h
    refine ev_aload_nR (mm 0 rfl) l0 ?_
    refine ev_iload_n (mm 1 rfl) l1 ?_
    obtain ⟨_, e15, h⟩ := bind_so h
    obtain ⟨p1, e2, h⟩ := bind_so h
    refine ev_callV_I [.int (x1)] (mm 2 rfl) rfl rfl (Nat.le_of_ble_eq_true rfl) (s_ob_of e15) (f105_ok e2 (d + 0)) ?_
    rcases ite_so h with ⟨c3, h⟩ | ⟨c3, h⟩
    · refine ev_if_t 15 (mm 3 rfl) rfl c3 ?_
      refine ev_iconst (mm 7 rfl) cI_m1 ?_
      exact ev_ireturn (mm 8 rfl) h
    · refine ev_if_f 15 (mm 3 rfl) rfl c3 ?_
      refine ev_iload_n (mm 4 rfl) l2 ?_
      obtain ⟨p4, e5, h⟩ := bind_so h
      refine ev_callS_I [.int (x2)] (mm 5 rfl) (by decide) rfl rfl (Nat.le_of_ble_eq_true rfl) (f103_ok e5 (d + 0)) ?_
      rcases ite_so h with ⟨c6, h⟩ | ⟨c6, h⟩
      · refine ev_if_t 17 (mm 6 rfl) rfl c6 ?_
        refine ev_aload_nR (mm 9 rfl) l0 ?_
        obtain ⟨v7, e8, h⟩ := bind_so h
        refine ev_get_r (mm 10 rfl) rfl e8 ?_
        refine ev_iload_n (mm 11 rfl) l1 ?_
        refine ev_iload_n (mm 12 rfl) l2 ?_
        obtain ⟨q9, e10, h⟩ := bind_so h
        rw [e10]
        obtain ⟨_, e14, h⟩ := bind_so h
        obtain ⟨p11, e12, h⟩ := bind_so h
        refine ev_callV_I [.int (x1), .int (x2)] (mm 13 rfl) rfl rfl (Nat.le_of_ble_eq_true rfl) (s_ob_of e14) (f2_ok e12 (d + 1)) ?_
        rcases ite_so h with ⟨c13, h⟩ | ⟨c13, h⟩
        · refine ev_if_t 33 (mm 14 rfl) rfl c13 ?_
          refine ev_iconst (mm 17 rfl) cI_0 ?_
          exact ev_ireturn (mm 18 rfl) h
        · refine ev_if_f 33 (mm 14 rfl) rfl c13 ?_
          refine ev_iconst (mm 15 rfl) cI_1 ?_
          refine ev_goto 34 (mm 16 rfl) rfl ?_
          exact ev_ireturn (mm 18 rfl) h
      · refine ev_if_f 17 (mm 6 rfl) rfl c6 ?_
        refine ev_iconst (mm 7 rfl) cI_m1 ?_
        exact ev_ireturn (mm 8 rfl) h
  exact ⟨by decide, Nat.le_of_ble_eq_true rfl, key.1, key.2⟩
def f107_l3 (x0 : Nat) (x1 : Int32) : Nat → Int32 → vm_M → Option (vm_M)
  | 0 => fun _ _ => none
  | n + 1 => fun x2 M =>
    if x2 < 0 then
      some M
    else
      (sg_i M x0 10 7).bind fun v4 =>
      if 700 ≤ v4 then
        f107_l3 x0 x1 n (x2 + (-8)) M
      else
        (sg_r M x0 10 6).bind fun v9 =>
        (sg_i M x0 10 7).bind fun v11 =>
        (sp_i M x0 10 7 (v11 + 1)).bind fun M13 =>
        (v9).bind fun q15 =>
        (ss_i M13 q15 0 v11 (((x1).toUInt32 >>> ((x2).toUInt32 &&& Int32.toUInt32 31)).toInt32 &&& 255)).bind fun M17 =>
        f107_l3 x0 x1 n (x2 + (-8)) M17
theorem f107_l3_ok {d : Nat} {x0 : Nat} {x1 : Int32} {r : vm_M} : ∀ (n : Nat) {x2 : Int32} {M : vm_M} {lv : vm_L}, (0, .ref (x0)) ∈ lv → (1, .int (x1)) ∈ lv → (2, .int (x2)) ∈ lv → f107_l3 x0 x1 n x2 M = some r → Ev 0 (fun _ => 0) (vm_Cl (d + 0)) vp_107 10 3 false none (rV r) 3 lv [] M := by
  intro n
  induction n with
  | zero =>
    intro x2 M lv l0 l1 l2 h
    cases h
  | succ n ih =>
    intro x2 M lv l0 l1 l2 h
    dsimp only [f107_l3] at h
    refine ev_iload_n (mm 2 rfl) l2 ?_
    rcases ite_so h with ⟨c3, h⟩ | ⟨c3, h⟩
    · refine ev_if_t 46 (mm 3 rfl) rfl c3 ?_
      exact ev_return (mm 25 rfl) h
    · refine ev_if_f 46 (mm 3 rfl) rfl c3 ?_
      refine ev_aload_nR (mm 4 rfl) l0 ?_
      obtain ⟨v4, e5, h⟩ := bind_so h
      refine ev_get_i (mm 5 rfl) rfl e5 ?_
      refine ev_sipush (mm 6 rfl) cS_700 ?_
      rcases ite_so h with ⟨c6, h⟩ | ⟨c6, h⟩
      · refine ev_ic_t 40 (mm 7 rfl) rfl c6 ?_
        refine evs_iinc (mm 23 rfl) cI_m8 l2 (by decide) (fun lv7 l2 s8 => ?_)
        have l0 := s8 _ _ l0 rfl
        have l1 := s8 _ _ l1 rfl
        refine ev_goto 3 (mm 24 rfl) rfl ?_
        exact ih l0 l1 l2 h
      · refine ev_ic_f 40 (mm 7 rfl) rfl c6 ?_
        refine ev_aload_nR (mm 8 rfl) l0 ?_
        obtain ⟨v9, e10, h⟩ := bind_so h
        refine ev_get_r (mm 9 rfl) rfl e10 ?_
        refine ev_aload_nR (mm 10 rfl) l0 ?_
        refine ev_dupR (mm 11 rfl) ?_
        obtain ⟨v11, e12, h⟩ := bind_so h
        refine ev_get_i (mm 12 rfl) rfl e12 ?_
        refine ev_dup_x1 (mm 13 rfl) rfl rfl ?_
        refine ev_iconst (mm 14 rfl) cI_1 ?_
        refine ev_iadd (mm 15 rfl) ?_
        obtain ⟨M13, e14, h⟩ := bind_so h
        refine ev_put_i (mm 16 rfl) (fun z => by cases z) rfl e14 ?_
        refine ev_iload_n (mm 17 rfl) l1 ?_
        refine ev_iload_n (mm 18 rfl) l2 ?_
        refine ev_iushr (mm 19 rfl) ?_
        refine ev_sipush (mm 20 rfl) cS_255 ?_
        refine ev_iand (mm 21 rfl) ?_
        obtain ⟨q15, e16, h⟩ := bind_so h
        rw [e16]
        obtain ⟨M17, e18, h⟩ := bind_so h
        refine ev_iastore (mm 22 rfl) e18 ?_
        refine evs_iinc (mm 23 rfl) cI_m8 l2 (by decide) (fun lv19 l2 s20 => ?_)
        have l0 := s20 _ _ l0 rfl
        have l1 := s20 _ _ l1 rfl
        refine ev_goto 3 (mm 24 rfl) rfl ?_
        exact ih l0 l1 l2 h
/-- PupilCoin.tapeNumber(I)V -/
def f107 (x0 : Nat) (x1 : Int32) (M : vm_M) : Option (vm_M) :=
  f107_l3 x0 x1
  
    100000 24 M
theorem f107_ok {x0 : Nat} {x1 : Int32} {M : vm_M} {r : vm_M} (h : f107 x0 x1 M = some r) (d : Nat) : vm_Cl (d + 1) 107 [.ref (x0), .int (x1)] M (rV r) := by
  have key : Ev 0 (fun _ => 0) (vm_Cl (d + 0)) vp_107 10 3 false none (rV r) 0 (lv_args 0 [.ref (x0), .int (x1)]) [] M := by
    have l0 : (0, .ref (x0)) ∈ lv_args 0 [.ref (x0), .int (x1)] := List.Mem.head _
    have l1 : (1, .int (x1)) ∈ lv_args 0 [.ref (x0), .int (x1)] := List.Mem.tail _ (List.Mem.head _)
    unfold f107 at h
    refine ev_bipush (mm 0 rfl) cB_24 ?_
    refine evs_istore_n (mm 1 rfl) (by decide) (fun lv1 l2 s2 => ?_)
    have l0 := s2 _ _ l0 rfl
    have l1 := s2 _ _ l1 rfl
    refine f107_l3_ok 100000 l0 l1 l2 h
  exact ⟨by decide, Nat.le_of_ble_eq_true rfl, key.1, key.2⟩
/-- PupilCoin.feed(IIIII)I -/
def f83 (x0 : Nat) (x1 : Int32) (x2 : Int32) (x3 : Int32) (x4 : Int32) (x5 : Int32) (M : vm_M) : Option (Int32 × vm_M) :=
  (sg_i M x0 10 7).bind fun v1 =>
  if v1 ≤ 680 then
    (s_ob M x0 10).bind fun _ =>
    (f107 x0 x1 M).bind fun p4 =>
    (s_ob p4 x0 10).bind fun _ =>
    (f107 x0 x2 p4).bind fun p6 =>
    (s_ob p6 x0 10).bind fun _ =>
    (f107 x0 x3 p6).bind fun p8 =>
    (s_ob p8 x0 10).bind fun _ =>
    (f107 x0 x4 p8).bind fun p10 =>
    (s_ob p10 x0 10).bind fun _ =>
    (f107 x0 x5 p10).bind fun p12 =>
    (sg_i p12 x0 10 7).bind fun v14 =>
    some (v14, p12)
  else
    some ((-1), M)
theorem f83_ok {x0 : Nat} {x1 : Int32} {x2 : Int32} {x3 : Int32} {x4 : Int32} {x5 : Int32} {M : vm_M} {r : Int32 × vm_M} (h : f83 x0 x1 x2 x3 x4 x5 M = some r) (d : Nat) : vm_Cl (d + 2) 83 [.ref (x0), .int (x1), .int (x2), .int (x3), .int (x4), .int (x5)] M (rI r) := by
  have key : Ev 0 (fun _ => 0) (vm_Cl (d + 1)) vp_83 10 6 false (some (.int)) (rI r) 0 (lv_args 0 [.ref (x0), .int (x1), .int (x2), .int (x3), .int (x4), .int (x5)]) [] M := by
    have l0 : (0, .ref (x0)) ∈ lv_args 0 [.ref (x0), .int (x1), .int (x2), .int (x3), .int (x4), .int (x5)] := List.Mem.head _
    have l1 : (1, .int (x1)) ∈ lv_args 0 [.ref (x0), .int (x1), .int (x2), .int (x3), .int (x4), .int (x5)] := List.Mem.tail _ (List.Mem.head _)
    have l2 : (2, .int (x2)) ∈ lv_args 0 [.ref (x0), .int (x1), .int (x2), .int (x3), .int (x4), .int (x5)] := List.Mem.tail _ (List.Mem.tail _ (List.Mem.head _))
    have l3 : (3, .int (x3)) ∈ lv_args 0 [.ref (x0), .int (x1), .int (x2), .int (x3), .int (x4), .int (x5)] := List.Mem.tail _ (List.Mem.tail _ (List.Mem.tail _ (List.Mem.head _)))
    have l4 : (4, .int (x4)) ∈ lv_args 0 [.ref (x0), .int (x1), .int (x2), .int (x3), .int (x4), .int (x5)] := List.Mem.tail _ (List.Mem.tail _ (List.Mem.tail _ (List.Mem.tail _ (List.Mem.head _))))
    have l5 : (5, .int (x5)) ∈ lv_args 0 [.ref (x0), .int (x1), .int (x2), .int (x3), .int (x4), .int (x5)] := List.Mem.tail _ (List.Mem.tail _ (List.Mem.tail _ (List.Mem.tail _ (List.Mem.tail _ (List.Mem.head _)))))
    unfold f83 at h
    refine ev_aload_nR (mm 0 rfl) l0 ?_
    obtain ⟨v1, e2, h⟩ := bind_so h
    refine ev_get_i (mm 1 rfl) rfl e2 ?_
    refine ev_sipush (mm 2 rfl) cS_680 ?_
    rcases ite_so h with ⟨c3, h⟩ | ⟨c3, h⟩
    · refine ev_ic_t 12 (mm 3 rfl) rfl c3 ?_
      refine ev_aload_nR (mm 6 rfl) l0 ?_
      refine ev_iload_n (mm 7 rfl) l1 ?_
      obtain ⟨_, e20, h⟩ := bind_so h
      obtain ⟨p4, e5, h⟩ := bind_so h
      refine ev_callV_V [.int (x1)] (mm 8 rfl) rfl rfl (Nat.le_of_ble_eq_true rfl) (s_ob_of e20) (f107_ok e5 (d + 0)) ?_
      refine ev_aload_nR (mm 9 rfl) l0 ?_
      refine ev_iload_n (mm 10 rfl) l2 ?_
      obtain ⟨_, e19, h⟩ := bind_so h
      obtain ⟨p6, e7, h⟩ := bind_so h
      refine ev_callV_V [.int (x2)] (mm 11 rfl) rfl rfl (Nat.le_of_ble_eq_true rfl) (s_ob_of e19) (f107_ok e7 (d + 0)) ?_
      refine ev_aload_nR (mm 12 rfl) l0 ?_
      refine ev_iload_n (mm 13 rfl) l3 ?_
      obtain ⟨_, e18, h⟩ := bind_so h
      obtain ⟨p8, e9, h⟩ := bind_so h
      refine ev_callV_V [.int (x3)] (mm 14 rfl) rfl rfl (Nat.le_of_ble_eq_true rfl) (s_ob_of e18) (f107_ok e9 (d + 0)) ?_
      refine ev_aload_nR (mm 15 rfl) l0 ?_
      refine ev_iload (mm 16 rfl) l4 ?_
      obtain ⟨_, e17, h⟩ := bind_so h
      obtain ⟨p10, e11, h⟩ := bind_so h
      refine ev_callV_V [.int (x4)] (mm 17 rfl) rfl rfl (Nat.le_of_ble_eq_true rfl) (s_ob_of e17) (f107_ok e11 (d + 0)) ?_
      refine ev_aload_nR (mm 18 rfl) l0 ?_
      refine ev_iload (mm 19 rfl) l5 ?_
      obtain ⟨_, e16, h⟩ := bind_so h
      obtain ⟨p12, e13, h⟩ := bind_so h
      refine ev_callV_V [.int (x5)] (mm 20 rfl) rfl rfl (Nat.le_of_ble_eq_true rfl) (s_ob_of e16) (f107_ok e13 (d + 0)) ?_
      refine ev_aload_nR (mm 21 rfl) l0 ?_
      obtain ⟨v14, e15, h⟩ := bind_so h
      refine ev_get_i (mm 22 rfl) rfl e15 ?_
      exact ev_ireturn (mm 23 rfl) h
    · refine ev_ic_f 12 (mm 3 rfl) rfl c3 ?_
      refine ev_iconst (mm 4 rfl) cI_m1 ?_
      exact ev_ireturn (mm 5 rfl) h
  exact ⟨by decide, Nat.le_of_ble_eq_true rfl, key.1, key.2⟩
/-- PupilCoin.formula(II)I -/
def f84 (x0 : Nat) (x1 : Int32) (x2 : Int32) (M : vm_M) : Option (Int32 × vm_M) :=
  if x1 < 0 then
    some ((-2), M)
  else
    (sg_i M x0 10 7).bind fun v2 =>
    if v2 < x1 then
      some ((-2), M)
    else
      (f103 x2 M).bind fun p5 =>
      if p5.1 = 0 then
        some ((-2), p5.2)
      else
        (sg_i p5.2 x0 10 10).bind fun v8 =>
        (s_dv v8 100).bind fun v10 =>
        if v10 ≤ x2 then
          (sg_r p5.2 x0 10 3).bind fun v13 =>
          (v13).bind fun q15 =>
          (sg_i p5.2 q15 8 2).bind fun v17 =>
          if v17 < 8 then
            (sg_r p5.2 x0 10 2).bind fun v20 =>
            (sg_r p5.2 x0 10 6).bind fun v22 =>
            (v20).bind fun q24 =>
            (v22).bind fun q26 =>
            (s_ob p5.2 q24 6).bind fun _ =>
            (f31 q24 q26 x1 p5.2).bind fun p28 =>
            (sp_i p28.2 x0 10 9 p28.1).bind fun M30 =>
            (sp_i M30 x0 10 7 0).bind fun M32 =>
            (sg_i M32 x0 10 9).bind fun v34 =>
            if v34 = (-1) then
              (sg_r M32 x0 10 4).bind fun v37 =>
              (v37).bind fun q39 =>
              (s_ob M32 q39 9).bind fun _ =>
              (f58 q39 M32).bind fun p41 =>
              (sg_r p41 x0 10 3).bind fun v43 =>
              (s_no p41 1).bind fun M45 =>
              (sg_r M45 x0 10 2).bind fun v47 =>
              (sg_r M45 x0 10 3).bind fun v49 =>
              (v49).bind fun q51 =>
              (sg_i M45 q51 8 2).bind fun v53 =>
              (sg_i M45 x0 10 10).bind fun v55 =>
              (v47).bind fun q57 =>
              (f8 (vm_n p41) q57 v53 x2 v55 M45).bind fun p59 =>
              (v43).bind fun q61 =>
              (s_ob p59 q61 8).bind fun _ =>
              (f55 q61 (vm_n p41) p59).bind fun p63 =>
              some (p63.1, p63.2)
            else
              some ((-1), M32)
          else
            some ((-3), p5.2)
        else
          some ((-2), p5.2)
theorem f84_ok {x0 : Nat} {x1 : Int32} {x2 : Int32} {M : vm_M} {r : Int32 × vm_M} (h : f84 x0 x1 x2 M = some r) (d : Nat) : vm_Cl (d + 129) 84 [.ref (x0), .int (x1), .int (x2)] M (rI r) := by
  have key : Ev 0 (fun _ => 0) (vm_Cl (d + 128)) vp_84 10 3 false (some (.int)) (rI r) 0 (lv_args 0 [.ref (x0), .int (x1), .int (x2)]) [] M := by
    have l0 : (0, .ref (x0)) ∈ lv_args 0 [.ref (x0), .int (x1), .int (x2)] := List.Mem.head _
    have l1 : (1, .int (x1)) ∈ lv_args 0 [.ref (x0), .int (x1), .int (x2)] := List.Mem.tail _ (List.Mem.head _)
    have l2 : (2, .int (x2)) ∈ lv_args 0 [.ref (x0), .int (x1), .int (x2)] := List.Mem.tail _ (List.Mem.tail _ (List.Mem.head _))
    unfold f84 at h
    refine ev_iload_n (mm 0 rfl) l1 ?_
    rcases ite_so h with ⟨c1, h⟩ | ⟨c1, h⟩
    · refine ev_if_t 30 (mm 1 rfl) rfl c1 ?_
      refine ev_bipush (mm 15 rfl) cB_m2 ?_
      exact ev_ireturn (mm 16 rfl) h
    · refine ev_if_f 30 (mm 1 rfl) rfl c1 ?_
      refine ev_iload_n (mm 2 rfl) l1 ?_
      refine ev_aload_nR (mm 3 rfl) l0 ?_
      obtain ⟨v2, e3, h⟩ := bind_so h
      refine ev_get_i (mm 4 rfl) rfl e3 ?_
      rcases ite_so h with ⟨c4, h⟩ | ⟨c4, h⟩
      · refine ev_ic_t 30 (mm 5 rfl) rfl c4 ?_
        refine ev_bipush (mm 15 rfl) cB_m2 ?_
        exact ev_ireturn (mm 16 rfl) h
      · refine ev_ic_f 30 (mm 5 rfl) rfl c4 ?_
        refine ev_iload_n (mm 6 rfl) l2 ?_
        obtain ⟨p5, e6, h⟩ := bind_so h
        refine ev_callS_I [.int (x2)] (mm 7 rfl) (by decide) rfl rfl (Nat.le_of_ble_eq_true rfl) (f103_ok e6 (d + 126)) ?_
        rcases ite_so h with ⟨c7, h⟩ | ⟨c7, h⟩
        · refine ev_if_t 30 (mm 8 rfl) rfl c7 ?_
          refine ev_bipush (mm 15 rfl) cB_m2 ?_
          exact ev_ireturn (mm 16 rfl) h
        · refine ev_if_f 30 (mm 8 rfl) rfl c7 ?_
          refine ev_iload_n (mm 9 rfl) l2 ?_
          refine ev_aload_nR (mm 10 rfl) l0 ?_
          obtain ⟨v8, e9, h⟩ := bind_so h
          refine ev_get_i (mm 11 rfl) rfl e9 ?_
          refine ev_bipush (mm 12 rfl) cB_100 ?_
          obtain ⟨v10, e11, h⟩ := bind_so h
          refine ev_idiv (mm 13 rfl) e11 ?_
          rcases ite_so h with ⟨c12, h⟩ | ⟨c12, h⟩
          · refine ev_ic_t 33 (mm 14 rfl) rfl c12 ?_
            refine ev_aload_nR (mm 17 rfl) l0 ?_
            obtain ⟨v13, e14, h⟩ := bind_so h
            refine ev_get_r (mm 18 rfl) rfl e14 ?_
            obtain ⟨q15, e16, h⟩ := bind_so h
            rw [e16]
            obtain ⟨v17, e18, h⟩ := bind_so h
            refine ev_get_i (mm 19 rfl) rfl e18 ?_
            refine ev_bipush (mm 20 rfl) cB_8 ?_
            rcases ite_so h with ⟨c19, h⟩ | ⟨c19, h⟩
            · refine ev_ic_t 48 (mm 21 rfl) rfl c19 ?_
              refine ev_aload_nR (mm 24 rfl) l0 ?_
              refine ev_aload_nR (mm 25 rfl) l0 ?_
              obtain ⟨v20, e21, h⟩ := bind_so h
              refine ev_get_r (mm 26 rfl) rfl e21 ?_
              refine ev_aload_nR (mm 27 rfl) l0 ?_
              obtain ⟨v22, e23, h⟩ := bind_so h
              refine ev_get_r (mm 28 rfl) rfl e23 ?_
              refine ev_iload_n (mm 29 rfl) l1 ?_
              obtain ⟨q24, e25, h⟩ := bind_so h
              rw [e25]
              obtain ⟨q26, e27, h⟩ := bind_so h
              rw [e27]
              obtain ⟨_, e67, h⟩ := bind_so h
              obtain ⟨p28, e29, h⟩ := bind_so h
              refine ev_callV_I [.ref (q26), .int (x1)] (mm 30 rfl) rfl rfl (Nat.le_of_ble_eq_true rfl) (s_ob_of e67) (f31_ok e29 (d + 0)) ?_
              obtain ⟨M30, e31, h⟩ := bind_so h
              refine ev_put_i (mm 31 rfl) (fun z => by cases z) rfl e31 ?_
              refine ev_aload_nR (mm 32 rfl) l0 ?_
              refine ev_iconst (mm 33 rfl) cI_0 ?_
              obtain ⟨M32, e33, h⟩ := bind_so h
              refine ev_put_i (mm 34 rfl) (fun z => by cases z) rfl e33 ?_
              refine ev_aload_nR (mm 35 rfl) l0 ?_
              obtain ⟨v34, e35, h⟩ := bind_so h
              refine ev_get_i (mm 36 rfl) rfl e35 ?_
              refine ev_iconst (mm 37 rfl) cI_m1 ?_
              rcases ite_so h with ⟨c36, h⟩ | ⟨c36, h⟩
              · refine ev_ic_t 79 (mm 38 rfl) rfl c36 ?_
                refine ev_aload_nR (mm 41 rfl) l0 ?_
                obtain ⟨v37, e38, h⟩ := bind_so h
                refine ev_get_r (mm 42 rfl) rfl e38 ?_
                obtain ⟨q39, e40, h⟩ := bind_so h
                rw [e40]
                obtain ⟨_, e66, h⟩ := bind_so h
                obtain ⟨p41, e42, h⟩ := bind_so h
                refine ev_callV_V [] (mm 43 rfl) rfl rfl (Nat.le_of_ble_eq_true rfl) (s_ob_of e66) (f58_ok e42 (d + 127)) ?_
                refine ev_aload_nR (mm 44 rfl) l0 ?_
                obtain ⟨v43, e44, h⟩ := bind_so h
                refine ev_get_r (mm 45 rfl) rfl e44 ?_
                obtain ⟨M45, e46, h⟩ := bind_so h
                refine ev_new (mm 46 rfl) e46 ?_
                refine ev_dupR (mm 47 rfl) ?_
                refine ev_aload_nR (mm 48 rfl) l0 ?_
                obtain ⟨v47, e48, h⟩ := bind_so h
                refine ev_get_r (mm 49 rfl) rfl e48 ?_
                refine ev_aload_nR (mm 50 rfl) l0 ?_
                obtain ⟨v49, e50, h⟩ := bind_so h
                refine ev_get_r (mm 51 rfl) rfl e50 ?_
                obtain ⟨q51, e52, h⟩ := bind_so h
                rw [e52]
                obtain ⟨v53, e54, h⟩ := bind_so h
                refine ev_get_i (mm 52 rfl) rfl e54 ?_
                refine ev_iload_n (mm 53 rfl) l2 ?_
                refine ev_aload_nR (mm 54 rfl) l0 ?_
                obtain ⟨v55, e56, h⟩ := bind_so h
                refine ev_get_i (mm 55 rfl) rfl e56 ?_
                obtain ⟨q57, e58, h⟩ := bind_so h
                rw [e58]
                obtain ⟨p59, e60, h⟩ := bind_so h
                refine ev_callI_V [.ref (q57), .int (v53), .int (x2), .int (v55)] (mm 56 rfl) (by decide) rfl rfl (by simp [vm_cat_A, vm_cat_I, vm_cat_R, vm_cat_J, vm_cat_0]) (f8_ok e60 (d + 126)) ?_
                obtain ⟨q61, e62, h⟩ := bind_so h
                rw [e62]
                obtain ⟨_, e65, h⟩ := bind_so h
                obtain ⟨p63, e64, h⟩ := bind_so h
                refine ev_callV_I [.ref ((vm_n p41))] (mm 57 rfl) rfl rfl (Nat.le_of_ble_eq_true rfl) (s_ob_of e65) (f55_ok e64 (d + 127)) ?_
                exact ev_ireturn (mm 58 rfl) h
              · refine ev_ic_f 79 (mm 38 rfl) rfl c36 ?_
                refine ev_iconst (mm 39 rfl) cI_m1 ?_
                exact ev_ireturn (mm 40 rfl) h
            · refine ev_ic_f 48 (mm 21 rfl) rfl c19 ?_
              refine ev_bipush (mm 22 rfl) cB_m3 ?_
              exact ev_ireturn (mm 23 rfl) h
          · refine ev_ic_f 33 (mm 14 rfl) rfl c12 ?_
            refine ev_bipush (mm 15 rfl) cB_m2 ?_
            exact ev_ireturn (mm 16 rfl) h
  exact ⟨by decide, Nat.le_of_ble_eq_true rfl, key.1, key.2⟩
def f85_j63 (x0 : Nat) (s0 : Nat) (s1 : Option Nat) (M : vm_M) : Option (Int32 × vm_M) :=
  (sp_r M s0 10 8 s1).bind fun M22 =>
  (sg_i M22 x0 10 9).bind fun v24 =>
  if ¬ v24 = (-1) then
    some ((-1), M22)
  else
    some (0, M22)
theorem f85_j63_ok {d : Nat} {x0 : Nat} {s0 : Nat} {s1 : Option Nat} {M : vm_M} {r : Int32 × vm_M} {lv : vm_L} (l0 : (0, .ref (x0)) ∈ lv) (h : f85_j63 x0 s0 s1 M = some r) : Ev 0 (fun _ => 0) (vm_Cl (d + 128)) vp_85 10 2 false (some (.int)) (rI r) 63 lv [va_rf (s1), .ref (s0)] M := by
  unfold f85_j63 at h
  obtain ⟨M22, e23, h⟩ := bind_so h
  refine ev_put_r (mm 34 rfl) (fun z => by cases z) rfl e23 ?_
  refine ev_aload_nR (mm 35 rfl) l0 ?_
  obtain ⟨v24, e25, h⟩ := bind_so h
  refine ev_get_i (mm 36 rfl) rfl e25 ?_
  refine ev_iconst (mm 37 rfl) cI_m1 ?_
  rcases ite_so h with ⟨c26, h⟩ | ⟨c26, h⟩
  · refine ev_ic_t 78 (mm 38 rfl) rfl c26 ?_
    refine ev_iconst (mm 41 rfl) cI_m1 ?_
    exact ev_ireturn (mm 42 rfl) h
  · refine ev_ic_f 78 (mm 38 rfl) rfl c26 ?_
    refine ev_iconst (mm 39 rfl) cI_0 ?_
    refine ev_goto 79 (mm 40 rfl) rfl ?_
    exact ev_ireturn (mm 42 rfl) h
/-- PupilCoin.beside(I)I -/
def f85 (x0 : Nat) (x1 : Int32) (M : vm_M) : Option (Int32 × vm_M) :=
  if x1 < 0 then
    some ((-2), M)
  else
    (sg_i M x0 10 7).bind fun v2 =>
    if x1 ≤ v2 then
      (sg_r M x0 10 2).bind fun v5 =>
      (sg_r M x0 10 6).bind fun v7 =>
      (v5).bind fun q9 =>
      (v7).bind fun q11 =>
      (s_ob M q9 6).bind fun _ =>
      (f31 q9 q11 x1 M).bind fun p13 =>
      (sp_i p13.2 x0 10 9 p13.1).bind fun M15 =>
      (sp_i M15 x0 10 7 0).bind fun M17 =>
      (sg_i M17 x0 10 9).bind fun v19 =>
      if ¬ v19 = (-1) then
        f85_j63 x0 x0 none M17
      else
        (s_no M17 1).bind fun M27 =>
        (sg_r M27 x0 10 2).bind fun v29 =>
        (v29).bind fun q31 =>
        (f8 (vm_n M17) q31 (-1) 0 0 M27).bind fun p33 =>
        f85_j63 x0 x0 (some (vm_n M17)) p33
    else
      some ((-2), M)
theorem f85_ok {x0 : Nat} {x1 : Int32} {M : vm_M} {r : Int32 × vm_M} (h : f85 x0 x1 M = some r) (d : Nat) : vm_Cl (d + 129) 85 [.ref (x0), .int (x1)] M (rI r) := by
  have key : Ev 0 (fun _ => 0) (vm_Cl (d + 128)) vp_85 10 2 false (some (.int)) (rI r) 0 (lv_args 0 [.ref (x0), .int (x1)]) [] M := by
    have l0 : (0, .ref (x0)) ∈ lv_args 0 [.ref (x0), .int (x1)] := List.Mem.head _
    have l1 : (1, .int (x1)) ∈ lv_args 0 [.ref (x0), .int (x1)] := List.Mem.tail _ (List.Mem.head _)
    unfold f85 at h
    refine ev_iload_n (mm 0 rfl) l1 ?_
    rcases ite_so h with ⟨c1, h⟩ | ⟨c1, h⟩
    · refine ev_if_t 12 (mm 1 rfl) rfl c1 ?_
      refine ev_bipush (mm 6 rfl) cB_m2 ?_
      exact ev_ireturn (mm 7 rfl) h
    · refine ev_if_f 12 (mm 1 rfl) rfl c1 ?_
      refine ev_iload_n (mm 2 rfl) l1 ?_
      refine ev_aload_nR (mm 3 rfl) l0 ?_
      obtain ⟨v2, e3, h⟩ := bind_so h
      refine ev_get_i (mm 4 rfl) rfl e3 ?_
      rcases ite_so h with ⟨c4, h⟩ | ⟨c4, h⟩
      · refine ev_ic_t 15 (mm 5 rfl) rfl c4 ?_
        refine ev_aload_nR (mm 8 rfl) l0 ?_
        refine ev_aload_nR (mm 9 rfl) l0 ?_
        obtain ⟨v5, e6, h⟩ := bind_so h
        refine ev_get_r (mm 10 rfl) rfl e6 ?_
        refine ev_aload_nR (mm 11 rfl) l0 ?_
        obtain ⟨v7, e8, h⟩ := bind_so h
        refine ev_get_r (mm 12 rfl) rfl e8 ?_
        refine ev_iload_n (mm 13 rfl) l1 ?_
        obtain ⟨q9, e10, h⟩ := bind_so h
        rw [e10]
        obtain ⟨q11, e12, h⟩ := bind_so h
        rw [e12]
        obtain ⟨_, e35, h⟩ := bind_so h
        obtain ⟨p13, e14, h⟩ := bind_so h
        refine ev_callV_I [.ref (q11), .int (x1)] (mm 14 rfl) rfl rfl (Nat.le_of_ble_eq_true rfl) (s_ob_of e35) (f31_ok e14 (d + 0)) ?_
        obtain ⟨M15, e16, h⟩ := bind_so h
        refine ev_put_i (mm 15 rfl) (fun z => by cases z) rfl e16 ?_
        refine ev_aload_nR (mm 16 rfl) l0 ?_
        refine ev_iconst (mm 17 rfl) cI_0 ?_
        obtain ⟨M17, e18, h⟩ := bind_so h
        refine ev_put_i (mm 18 rfl) (fun z => by cases z) rfl e18 ?_
        refine ev_aload_nR (mm 19 rfl) l0 ?_
        refine ev_aload_nR (mm 20 rfl) l0 ?_
        obtain ⟨v19, e20, h⟩ := bind_so h
        refine ev_get_i (mm 21 rfl) rfl e20 ?_
        refine ev_iconst (mm 22 rfl) cI_m1 ?_
        rcases ite_so h with ⟨c21, h⟩ | ⟨c21, h⟩
        · refine ev_ic_t 62 (mm 23 rfl) rfl c21 ?_
          refine ev_aconst_null (mm 33 rfl) ?_
          exact f85_j63_ok l0 h
        · refine ev_ic_f 62 (mm 23 rfl) rfl c21 ?_
          obtain ⟨M27, e28, h⟩ := bind_so h
          refine ev_new (mm 24 rfl) e28 ?_
          refine ev_dupR (mm 25 rfl) ?_
          refine ev_aload_nR (mm 26 rfl) l0 ?_
          obtain ⟨v29, e30, h⟩ := bind_so h
          refine ev_get_r (mm 27 rfl) rfl e30 ?_
          refine ev_iconst (mm 28 rfl) cI_m1 ?_
          refine ev_iconst (mm 29 rfl) cI_0 ?_
          refine ev_iconst (mm 30 rfl) cI_0 ?_
          obtain ⟨q31, e32, h⟩ := bind_so h
          rw [e32]
          obtain ⟨p33, e34, h⟩ := bind_so h
          refine ev_callI_V [.ref (q31), .int ((-1)), .int (0), .int (0)] (mm 31 rfl) (by decide) rfl rfl (Nat.le_of_ble_eq_true rfl) (f8_ok e34 (d + 126)) ?_
          refine ev_goto 63 (mm 32 rfl) rfl ?_
          exact f85_j63_ok l0 h
      · refine ev_ic_f 15 (mm 5 rfl) rfl c4 ?_
        refine ev_bipush (mm 6 rfl) cB_m2 ?_
        exact ev_ireturn (mm 7 rfl) h
  exact ⟨by decide, Nat.le_of_ble_eq_true rfl, key.1, key.2⟩
/-- PupilCoin.fault()I -/
def f86 (x0 : Nat) (M : vm_M) : Option (Int32 × vm_M) :=
  (sg_i M x0 10 9).bind fun v1 =>
  some (v1, M)
theorem f86_ok {x0 : Nat} {M : vm_M} {r : Int32 × vm_M} (h : f86 x0 M = some r) (d : Nat) : vm_Cl (d + 1) 86 [.ref (x0)] M (rI r) := by
  have key : Ev 0 (fun _ => 0) (vm_Cl (d + 0)) vp_86 10 1 false (some (.int)) (rI r) 0 (lv_args 0 [.ref (x0)]) [] M := by
    have l0 : (0, .ref (x0)) ∈ lv_args 0 [.ref (x0)] := List.Mem.head _
    unfold f86 at h
    refine ev_aload_nR (mm 0 rfl) l0 ?_
    obtain ⟨v1, e2, h⟩ := bind_so h
    refine ev_get_i (mm 1 rfl) rfl e2 ?_
    exact ev_ireturn (mm 2 rfl) h
  exact ⟨by decide, Nat.le_of_ble_eq_true rfl, key.1, key.2⟩
/-- PupilCoin.law(III)I -/
def f87 (x0 : Nat) (x1 : Int32) (x2 : Int32) (x3 : Int32) (M : vm_M) : Option (Int32 × vm_M) :=
  (f103 x1 M).bind fun p1 =>
  if p1.1 = 0 then
    some ((-1), p1.2)
  else
    (f104 x2 p1.2).bind fun p4 =>
    if ¬ p4.1 = 0 then
      (sg_r p4.2 x0 10 3).bind fun v7 =>
      (v7).bind fun q9 =>
      (s_ob p4.2 q9 8).bind fun _ =>
      (f56 q9 x1 x2 p4.2).bind fun p11 =>
      (p11.1).bind fun q13 =>
      (s_ob p11.2 q13 1).bind fun _ =>
      (f9 q13 x3 p11.2).bind fun p15 =>
      some (p15.1, p15.2)
    else
      some ((-1), p4.2)
theorem f87_ok {x0 : Nat} {x1 : Int32} {x2 : Int32} {x3 : Int32} {M : vm_M} {r : Int32 × vm_M} (h : f87 x0 x1 x2 x3 M = some r) (d : Nat) : vm_Cl (d + 3) 87 [.ref (x0), .int (x1), .int (x2), .int (x3)] M (rI r) := by
  have key : Ev 0 (fun _ => 0) (vm_Cl (d + 2)) vp_87 10 4 false (some (.int)) (rI r) 0 (lv_args 0 [.ref (x0), .int (x1), .int (x2), .int (x3)]) [] M := by
    have l0 : (0, .ref (x0)) ∈ lv_args 0 [.ref (x0), .int (x1), .int (x2), .int (x3)] := List.Mem.head _
    have l1 : (1, .int (x1)) ∈ lv_args 0 [.ref (x0), .int (x1), .int (x2), .int (x3)] := List.Mem.tail _ (List.Mem.head _)
    have l2 : (2, .int (x2)) ∈ lv_args 0 [.ref (x0), .int (x1), .int (x2), .int (x3)] := List.Mem.tail _ (List.Mem.tail _ (List.Mem.head _))
    have l3 : (3, .int (x3)) ∈ lv_args 0 [.ref (x0), .int (x1), .int (x2), .int (x3)] := List.Mem.tail _ (List.Mem.tail _ (List.Mem.tail _ (List.Mem.head _)))
    unfold f87 at h
    refine ev_iload_n (mm 0 rfl) l1 ?_
    obtain ⟨p1, e2, h⟩ := bind_so h
    refine ev_callS_I [.int (x1)] (mm 1 rfl) (by decide) rfl rfl (Nat.le_of_ble_eq_true rfl) (f103_ok e2 (d + 0)) ?_
    rcases ite_so h with ⟨c3, h⟩ | ⟨c3, h⟩
    · refine ev_if_t 14 (mm 2 rfl) rfl c3 ?_
      refine ev_iconst (mm 6 rfl) cI_m1 ?_
      exact ev_ireturn (mm 7 rfl) h
    · refine ev_if_f 14 (mm 2 rfl) rfl c3 ?_
      refine ev_iload_n (mm 3 rfl) l2 ?_
      obtain ⟨p4, e5, h⟩ := bind_so h
      refine ev_callS_I [.int (x2)] (mm 4 rfl) (by decide) rfl rfl (Nat.le_of_ble_eq_true rfl) (f104_ok e5 (d + 1)) ?_
      rcases ite_so h with ⟨c6, h⟩ | ⟨c6, h⟩
      · refine ev_if_t 16 (mm 5 rfl) rfl c6 ?_
        refine ev_aload_nR (mm 8 rfl) l0 ?_
        obtain ⟨v7, e8, h⟩ := bind_so h
        refine ev_get_r (mm 9 rfl) rfl e8 ?_
        refine ev_iload_n (mm 10 rfl) l1 ?_
        refine ev_iload_n (mm 11 rfl) l2 ?_
        obtain ⟨q9, e10, h⟩ := bind_so h
        rw [e10]
        obtain ⟨_, e18, h⟩ := bind_so h
        obtain ⟨p11, e12, h⟩ := bind_so h
        refine ev_callV_A [.int (x1), .int (x2)] (mm 12 rfl) rfl rfl (Nat.le_of_ble_eq_true rfl) (s_ob_of e18) (f56_ok e12 (d + 1)) ?_
        refine ev_iload_n (mm 13 rfl) l3 ?_
        obtain ⟨q13, e14, h⟩ := bind_so h
        rw [e14]
        obtain ⟨_, e17, h⟩ := bind_so h
        obtain ⟨p15, e16, h⟩ := bind_so h
        refine ev_callV_I [.int (x3)] (mm 14 rfl) rfl rfl (Nat.le_of_ble_eq_true rfl) (s_ob_of e17) (f9_ok e16 (d + 0)) ?_
        exact ev_ireturn (mm 15 rfl) h
      · refine ev_if_f 16 (mm 5 rfl) rfl c6 ?_
        refine ev_iconst (mm 6 rfl) cI_m1 ?_
        exact ev_ireturn (mm 7 rfl) h
  exact ⟨by decide, Nat.le_of_ble_eq_true rfl, key.1, key.2⟩
/-- PupilCoin.sum(III)J -/
def f88 (x0 : Nat) (x1 : Int32) (x2 : Int32) (x3 : Int32) (M : vm_M) : Option (Int64 × vm_M) :=
  (s_ob M x0 10).bind fun _ =>
  (f105 x0 x1 M).bind fun p1 =>
  if p1.1 = 0 then
    some ((-2000000000000), p1.2)
  else
    (f103 x2 p1.2).bind fun p4 =>
    if p4.1 = 0 then
      some ((-2000000000000), p4.2)
    else
      (f104 x3 p4.2).bind fun p7 =>
      if ¬ p7.1 = 0 then
        (sg_r p7.2 x0 10 4).bind fun v10 =>
        (v10).bind fun q12 =>
        (s_ob p7.2 q12 9).bind fun _ =>
        (f59 q12 x2 x3 p7.2).bind fun p14 =>
        (sg_r p14 x0 10 4).bind fun v16 =>
        (v16).bind fun q18 =>
        (sg_r p14 q18 9 11).bind fun v20 =>
        (v20).bind fun q22 =>
        (sa_l p14 q22 x1).bind fun v24 =>
        some (v24, p14)
      else
        some ((-2000000000000), p7.2)
theorem f88_ok {x0 : Nat} {x1 : Int32} {x2 : Int32} {x3 : Int32} {M : vm_M} {r : Int64 × vm_M} (h : f88 x0 x1 x2 x3 M = some r) (d : Nat) : vm_Cl (d + 7) 88 [.ref (x0), .int (x1), .int (x2), .int (x3)] M (rJ r) := by
  have key : Ev 0 (fun _ => 0) (vm_Cl (d + 6)) vp_88 10 4 false (some (.long)) (rJ r) 0 (lv_args 0 [.ref (x0), .int (x1), .int (x2), .int (x3)]) [] M := by
    have l0 : (0, .ref (x0)) ∈ lv_args 0 [.ref (x0), .int (x1), .int (x2), .int (x3)] := List.Mem.head _
    have l1 : (1, .int (x1)) ∈ lv_args 0 [.ref (x0), .int (x1), .int (x2), .int (x3)] := List.Mem.tail _ (List.Mem.head _)
    have l2 : (2, .int (x2)) ∈ lv_args 0 [.ref (x0), .int (x1), .int (x2), .int (x3)] := List.Mem.tail _ (List.Mem.tail _ (List.Mem.head _))
    have l3 : (3, .int (x3)) ∈ lv_args 0 [.ref (x0), .int (x1), .int (x2), .int (x3)] := List.Mem.tail _ (List.Mem.tail _ (List.Mem.tail _ (List.Mem.head _)))
    unfold f88 at h
    refine ev_aload_nR (mm 0 rfl) l0 ?_
    refine ev_iload_n (mm 1 rfl) l1 ?_
    obtain ⟨_, e27, h⟩ := bind_so h
    obtain ⟨p1, e2, h⟩ := bind_so h
    refine ev_callV_I [.int (x1)] (mm 2 rfl) rfl rfl (Nat.le_of_ble_eq_true rfl) (s_ob_of e27) (f105_ok e2 (d + 4)) ?_
    rcases ite_so h with ⟨c3, h⟩ | ⟨c3, h⟩
    · refine ev_if_t 22 (mm 3 rfl) rfl c3 ?_
      refine ev_ldc2_w (mm 10 rfl) cJ_m2000000000000 ?_
      exact ev_lreturn (mm 11 rfl) h
    · refine ev_if_f 22 (mm 3 rfl) rfl c3 ?_
      refine ev_iload_n (mm 4 rfl) l2 ?_
      obtain ⟨p4, e5, h⟩ := bind_so h
      refine ev_callS_I [.int (x2)] (mm 5 rfl) (by decide) rfl rfl (Nat.le_of_ble_eq_true rfl) (f103_ok e5 (d + 4)) ?_
      rcases ite_so h with ⟨c6, h⟩ | ⟨c6, h⟩
      · refine ev_if_t 22 (mm 6 rfl) rfl c6 ?_
        refine ev_ldc2_w (mm 10 rfl) cJ_m2000000000000 ?_
        exact ev_lreturn (mm 11 rfl) h
      · refine ev_if_f 22 (mm 6 rfl) rfl c6 ?_
        refine ev_iload_n (mm 7 rfl) l3 ?_
        obtain ⟨p7, e8, h⟩ := bind_so h
        refine ev_callS_I [.int (x3)] (mm 8 rfl) (by decide) rfl rfl (Nat.le_of_ble_eq_true rfl) (f104_ok e8 (d + 5)) ?_
        rcases ite_so h with ⟨c9, h⟩ | ⟨c9, h⟩
        · refine ev_if_t 26 (mm 9 rfl) rfl c9 ?_
          refine ev_aload_nR (mm 12 rfl) l0 ?_
          obtain ⟨v10, e11, h⟩ := bind_so h
          refine ev_get_r (mm 13 rfl) rfl e11 ?_
          refine ev_iload_n (mm 14 rfl) l2 ?_
          refine ev_iload_n (mm 15 rfl) l3 ?_
          obtain ⟨q12, e13, h⟩ := bind_so h
          rw [e13]
          obtain ⟨_, e26, h⟩ := bind_so h
          obtain ⟨p14, e15, h⟩ := bind_so h
          refine ev_callV_V [.int (x2), .int (x3)] (mm 16 rfl) rfl rfl (Nat.le_of_ble_eq_true rfl) (s_ob_of e26) (f59_ok e15 (d + 0)) ?_
          refine ev_aload_nR (mm 17 rfl) l0 ?_
          obtain ⟨v16, e17, h⟩ := bind_so h
          refine ev_get_r (mm 18 rfl) rfl e17 ?_
          obtain ⟨q18, e19, h⟩ := bind_so h
          rw [e19]
          obtain ⟨v20, e21, h⟩ := bind_so h
          refine ev_get_r (mm 19 rfl) rfl e21 ?_
          refine ev_iload_n (mm 20 rfl) l1 ?_
          obtain ⟨q22, e23, h⟩ := bind_so h
          rw [e23]
          obtain ⟨v24, e25, h⟩ := bind_so h
          refine ev_laload (mm 21 rfl) e25 ?_
          exact ev_lreturn (mm 22 rfl) h
        · refine ev_if_f 26 (mm 9 rfl) rfl c9 ?_
          refine ev_ldc2_w (mm 10 rfl) cJ_m2000000000000 ?_
          exact ev_lreturn (mm 11 rfl) h
  exact ⟨by decide, Nat.le_of_ble_eq_true rfl, key.1, key.2⟩
def f202_l2 (x0 : Nat) (x1 : Int32) : Nat → Int32 → vm_M → Option (Int32 × vm_M)
  | 0 => fun _ _ => none
  | n + 1 => fun x2 M =>
    (sg_i M x0 1 4).bind fun v3 =>
    if v3 ≤ x2 then
      some ((-1), M)
    else
      (sg_r M x0 1 6).bind fun v6 =>
      (v6).bind fun q8 =>
      (s_len M q8 0).bind fun v10 =>
      if v10 ≤ x2 then
        some ((-1), M)
      else
        (sg_r M x0 1 6).bind fun v13 =>
        (v13).bind fun q15 =>
        (sa_i M q15 0 x2).bind fun v17 =>
        if ¬ v17 = x1 then
          f202_l2 x0 x1 n (x2 + 1) M
        else
          some (x2, M)
theorem f202_l2_ok {d : Nat} {x0 : Nat} {x1 : Int32} {r : Int32 × vm_M} : ∀ (n : Nat) {x2 : Int32} {M : vm_M} {lv : vm_L}, (0, .ref (x0)) ∈ lv → (1, .int (x1)) ∈ lv → (2, .int (x2)) ∈ lv → f202_l2 x0 x1 n x2 M = some r → Ev 0 (fun _ => 0) (vm_Cl (d + 0)) vp_202 1 3 false (some (.int)) (rI r) 2 lv [] M := by
  intro n
  induction n with
  | zero =>
    intro x2 M lv l0 l1 l2 h
    cases h
  | succ n ih =>
    intro x2 M lv l0 l1 l2 h
    dsimp only [f202_l2] at h
    refine ev_iload_n (mm 2 rfl) l2 ?_
    refine ev_aload_nR (mm 3 rfl) l0 ?_
    obtain ⟨v3, e4, h⟩ := bind_so h
    refine ev_get_i (mm 4 rfl) rfl e4 ?_
    rcases ite_so h with ⟨c5, h⟩ | ⟨c5, h⟩
    · refine ev_ic_t 37 (mm 5 rfl) rfl c5 ?_
      refine ev_iconst (mm 21 rfl) cI_m1 ?_
      exact ev_ireturn (mm 22 rfl) h
    · refine ev_ic_f 37 (mm 5 rfl) rfl c5 ?_
      refine ev_iload_n (mm 6 rfl) l2 ?_
      refine ev_aload_nR (mm 7 rfl) l0 ?_
      obtain ⟨v6, e7, h⟩ := bind_so h
      refine ev_get_r (mm 8 rfl) rfl e7 ?_
      obtain ⟨q8, e9, h⟩ := bind_so h
      rw [e9]
      obtain ⟨v10, e11, h⟩ := bind_so h
      refine ev_len (mm 9 rfl) (by decide) e11 ?_
      rcases ite_so h with ⟨c12, h⟩ | ⟨c12, h⟩
      · refine ev_ic_t 37 (mm 10 rfl) rfl c12 ?_
        refine ev_iconst (mm 21 rfl) cI_m1 ?_
        exact ev_ireturn (mm 22 rfl) h
      · refine ev_ic_f 37 (mm 10 rfl) rfl c12 ?_
        refine ev_aload_nR (mm 11 rfl) l0 ?_
        obtain ⟨v13, e14, h⟩ := bind_so h
        refine ev_get_r (mm 12 rfl) rfl e14 ?_
        refine ev_iload_n (mm 13 rfl) l2 ?_
        obtain ⟨q15, e16, h⟩ := bind_so h
        rw [e16]
        obtain ⟨v17, e18, h⟩ := bind_so h
        refine ev_iaload (mm 14 rfl) e18 ?_
        refine ev_iload_n (mm 15 rfl) l1 ?_
        rcases ite_so h with ⟨c19, h⟩ | ⟨c19, h⟩
        · refine ev_ic_t 31 (mm 16 rfl) rfl c19 ?_
          refine evs_iinc (mm 19 rfl) cI_1 l2 (by decide) (fun lv20 l2 s21 => ?_)
          have l0 := s21 _ _ l0 rfl
          have l1 := s21 _ _ l1 rfl
          refine ev_goto 2 (mm 20 rfl) rfl ?_
          exact ih l0 l1 l2 h
        · refine ev_ic_f 31 (mm 16 rfl) rfl c19 ?_
          refine ev_iload_n (mm 17 rfl) l2 ?_
          exact ev_ireturn (mm 18 rfl) h
/-- PupilCoin$Law.lineAt(I)I -/
def f202 (x0 : Nat) (x1 : Int32) (M : vm_M) : Option (Int32 × vm_M) :=
  f202_l2 x0 x1
  
    100000 0 M
theorem f202_ok {x0 : Nat} {x1 : Int32} {M : vm_M} {r : Int32 × vm_M} (h : f202 x0 x1 M = some r) (d : Nat) : vm_Cl (d + 1) 202 [.ref (x0), .int (x1)] M (rI r) := by
  have key : Ev 0 (fun _ => 0) (vm_Cl (d + 0)) vp_202 1 3 false (some (.int)) (rI r) 0 (lv_args 0 [.ref (x0), .int (x1)]) [] M := by
    have l0 : (0, .ref (x0)) ∈ lv_args 0 [.ref (x0), .int (x1)] := List.Mem.head _
    have l1 : (1, .int (x1)) ∈ lv_args 0 [.ref (x0), .int (x1)] := List.Mem.tail _ (List.Mem.head _)
    unfold f202 at h
    refine ev_iconst (mm 0 rfl) cI_0 ?_
    refine evs_istore_n (mm 1 rfl) (by decide) (fun lv1 l2 s2 => ?_)
    have l0 := s2 _ _ l0 rfl
    have l1 := s2 _ _ l1 rfl
    refine f202_l2_ok 100000 l0 l1 l2 h
  exact ⟨by decide, Nat.le_of_ble_eq_true rfl, key.1, key.2⟩
/-- PupilCoin.led(III)J -/
def f89 (x0 : Nat) (x1 : Int32) (x2 : Int32) (x3 : Int32) (M : vm_M) : Option (Int64 × vm_M) :=
  (s_ob M x0 10).bind fun _ =>
  (f105 x0 x1 M).bind fun p1 =>
  if p1.1 = 0 then
    some ((-2000000000000), p1.2)
  else
    (f103 x2 p1.2).bind fun p4 =>
    if p4.1 = 0 then
      some ((-2000000000000), p4.2)
    else
      if x3 < 0 then
        some ((-2000000000000), p4.2)
      else
        if x3 ≤ 34 then
          (sg_r p4.2 x0 10 0).bind fun v9 =>
          (v9).bind fun q11 =>
          (s_ob p4.2 q11 0).bind fun _ =>
          (f2 q11 x1 x2 p4.2).bind fun p13 =>
          if ¬ p13.1 = 0 then
            if ¬ x3 = 33 then
              if ¬ x3 = 34 then
                (sg_r p13.2 x0 10 4).bind fun v18 =>
                (v18).bind fun q20 =>
                (s_ob p13.2 q20 9).bind fun _ =>
                (f59 q20 x2 (x2 * 100) p13.2).bind fun p22 =>
                if ¬ x3 = 30 then
                  if ¬ x3 = 31 then
                    if ¬ x3 = 32 then
                      (sg_r p22 x0 10 3).bind fun v27 =>
                      (v27).bind fun q29 =>
                      (s_ob p22 q29 8).bind fun _ =>
                      (f56 q29 x2 (x2 * 100) p22).bind fun p31 =>
                      (p31.1).bind fun q33 =>
                      (s_ob p31.2 q33 1).bind fun _ =>
                      (f202 q33 x3 p31.2).bind fun p35 =>
                      (f102 p35.1 30 p35.2).bind fun p39 =>
                      if p39.1 = 0 then
                        some (0, p39.2)
                      else
                        (sg_r p39.2 x0 10 4).bind fun v42 =>
                        (v42).bind fun q44 =>
                        (sg_r p39.2 q44 9 4).bind fun v46 =>
                        (v46).bind fun q48 =>
                        (sa_l p39.2 q48 ((x1 * 30) + p35.1)).bind fun v50 =>
                        some (v50, p39.2)
                    else
                      (sg_r p22 x0 10 4).bind fun v54 =>
                      (v54).bind fun q56 =>
                      (sg_r p22 q56 9 8).bind fun v58 =>
                      (v58).bind fun q60 =>
                      (sa_l p22 q60 x1).bind fun v62 =>
                      some (v62, p22)
                  else
                    (sg_r p22 x0 10 4).bind fun v64 =>
                    (v64).bind fun q66 =>
                    (sg_r p22 q66 9 7).bind fun v68 =>
                    (v68).bind fun q70 =>
                    (sa_l p22 q70 x1).bind fun v72 =>
                    some (v72, p22)
                else
                  (sg_r p22 x0 10 4).bind fun v74 =>
                  (v74).bind fun q76 =>
                  (sg_r p22 q76 9 6).bind fun v78 =>
                  (v78).bind fun q80 =>
                  (sa_l p22 q80 x1).bind fun v82 =>
                  some (v82, p22)
              else
                (sg_r p13.2 x0 10 5).bind fun v85 =>
                (v85).bind fun q87 =>
                (s_ob p13.2 q87 4).bind fun _ =>
                (f24 q87 x1 x2 p13.2).bind fun p89 =>
                some (p89.1, p89.2)
            else
              (sg_r p13.2 x0 10 4).bind fun v92 =>
              (v92).bind fun q94 =>
              (s_ob p13.2 q94 9).bind fun _ =>
              (f72 q94 x1 x2 p13.2).bind fun p96 =>
              some (p96.1, p96.2)
          else
            some (0, p13.2)
        else
          some ((-2000000000000), p4.2)
theorem f89_ok {x0 : Nat} {x1 : Int32} {x2 : Int32} {x3 : Int32} {M : vm_M} {r : Int64 × vm_M} (h : f89 x0 x1 x2 x3 M = some r) (d : Nat) : vm_Cl (d + 7) 89 [.ref (x0), .int (x1), .int (x2), .int (x3)] M (rJ r) := by
  have key : Ev 0 (fun _ => 0) (vm_Cl (d + 6)) vp_89 10 5 false (some (.long)) (rJ r) 0 (lv_args 0 [.ref (x0), .int (x1), .int (x2), .int (x3)]) [] M := by
    have l0 : (0, .ref (x0)) ∈ lv_args 0 [.ref (x0), .int (x1), .int (x2), .int (x3)] := List.Mem.head _
    have l1 : (1, .int (x1)) ∈ lv_args 0 [.ref (x0), .int (x1), .int (x2), .int (x3)] := List.Mem.tail _ (List.Mem.head _)
    have l2 : (2, .int (x2)) ∈ lv_args 0 [.ref (x0), .int (x1), .int (x2), .int (x3)] := List.Mem.tail _ (List.Mem.tail _ (List.Mem.head _))
    have l3 : (3, .int (x3)) ∈ lv_args 0 [.ref (x0), .int (x1), .int (x2), .int (x3)] := List.Mem.tail _ (List.Mem.tail _ (List.Mem.tail _ (List.Mem.head _)))
    unfold f89 at h
    refine ev_aload_nR (mm 0 rfl) l0 ?_
    refine ev_iload_n (mm 1 rfl) l1 ?_
    obtain ⟨_, e100, h⟩ := bind_so h
    obtain ⟨p1, e2, h⟩ := bind_so h
    refine ev_callV_I [.int (x1)] (mm 2 rfl) rfl rfl (Nat.le_of_ble_eq_true rfl) (s_ob_of e100) (f105_ok e2 (d + 4)) ?_
    rcases ite_so h with ⟨c3, h⟩ | ⟨c3, h⟩
    · refine ev_if_t 25 (mm 3 rfl) rfl c3 ?_
      refine ev_ldc2_w (mm 12 rfl) cJ_m2000000000000 ?_
      exact ev_lreturn (mm 13 rfl) h
    · refine ev_if_f 25 (mm 3 rfl) rfl c3 ?_
      refine ev_iload_n (mm 4 rfl) l2 ?_
      obtain ⟨p4, e5, h⟩ := bind_so h
      refine ev_callS_I [.int (x2)] (mm 5 rfl) (by decide) rfl rfl (Nat.le_of_ble_eq_true rfl) (f103_ok e5 (d + 4)) ?_
      rcases ite_so h with ⟨c6, h⟩ | ⟨c6, h⟩
      · refine ev_if_t 25 (mm 6 rfl) rfl c6 ?_
        refine ev_ldc2_w (mm 12 rfl) cJ_m2000000000000 ?_
        exact ev_lreturn (mm 13 rfl) h
      · refine ev_if_f 25 (mm 6 rfl) rfl c6 ?_
        refine ev_iload_n (mm 7 rfl) l3 ?_
        rcases ite_so h with ⟨c7, h⟩ | ⟨c7, h⟩
        · refine ev_if_t 25 (mm 8 rfl) rfl c7 ?_
          refine ev_ldc2_w (mm 12 rfl) cJ_m2000000000000 ?_
          exact ev_lreturn (mm 13 rfl) h
        · refine ev_if_f 25 (mm 8 rfl) rfl c7 ?_
          refine ev_iload_n (mm 9 rfl) l3 ?_
          refine ev_bipush (mm 10 rfl) cB_34 ?_
          rcases ite_so h with ⟨c8, h⟩ | ⟨c8, h⟩
          · refine ev_ic_t 29 (mm 11 rfl) rfl c8 ?_
            refine ev_aload_nR (mm 14 rfl) l0 ?_
            obtain ⟨v9, e10, h⟩ := bind_so h
            refine ev_get_r (mm 15 rfl) rfl e10 ?_
            refine ev_iload_n (mm 16 rfl) l1 ?_
            refine ev_iload_n (mm 17 rfl) l2 ?_
            obtain ⟨q11, e12, h⟩ := bind_so h
            rw [e12]
            obtain ⟨_, e99, h⟩ := bind_so h
            obtain ⟨p13, e14, h⟩ := bind_so h
            refine ev_callV_I [.int (x1), .int (x2)] (mm 18 rfl) rfl rfl (Nat.le_of_ble_eq_true rfl) (s_ob_of e99) (f2_ok e14 (d + 5)) ?_
            rcases ite_so h with ⟨c15, h⟩ | ⟨c15, h⟩
            · refine ev_if_t 43 (mm 19 rfl) rfl c15 ?_
              refine ev_iload_n (mm 22 rfl) l3 ?_
              refine ev_bipush (mm 23 rfl) cB_33 ?_
              rcases ite_so h with ⟨c16, h⟩ | ⟨c16, h⟩
              · refine ev_ic_t 59 (mm 24 rfl) rfl c16 ?_
                refine ev_iload_n (mm 31 rfl) l3 ?_
                refine ev_bipush (mm 32 rfl) cB_34 ?_
                rcases ite_so h with ⟨c17, h⟩ | ⟨c17, h⟩
                · refine ev_ic_t 75 (mm 33 rfl) rfl c17 ?_
                  refine ev_aload_nR (mm 40 rfl) l0 ?_
                  obtain ⟨v18, e19, h⟩ := bind_so h
                  refine ev_get_r (mm 41 rfl) rfl e19 ?_
                  refine ev_iload_n (mm 42 rfl) l2 ?_
                  refine ev_iload_n (mm 43 rfl) l2 ?_
                  refine ev_bipush (mm 44 rfl) cB_100 ?_
                  refine ev_imul (mm 45 rfl) ?_
                  obtain ⟨q20, e21, h⟩ := bind_so h
                  rw [e21]
                  obtain ⟨_, e84, h⟩ := bind_so h
                  obtain ⟨p22, e23, h⟩ := bind_so h
                  refine ev_callV_V [.int (x2), .int ((x2 * 100))] (mm 46 rfl) rfl rfl (Nat.le_of_ble_eq_true rfl) (s_ob_of e84) (f59_ok e23 (d + 0)) ?_
                  refine ev_iload_n (mm 47 rfl) l3 ?_
                  refine ev_bipush (mm 48 rfl) cB_30 ?_
                  rcases ite_so h with ⟨c24, h⟩ | ⟨c24, h⟩
                  · refine ev_ic_t 103 (mm 49 rfl) rfl c24 ?_
                    refine ev_iload_n (mm 56 rfl) l3 ?_
                    refine ev_bipush (mm 57 rfl) cB_31 ?_
                    rcases ite_so h with ⟨c25, h⟩ | ⟨c25, h⟩
                    · refine ev_ic_t 119 (mm 58 rfl) rfl c25 ?_
                      refine ev_iload_n (mm 65 rfl) l3 ?_
                      refine ev_bipush (mm 66 rfl) cB_32 ?_
                      rcases ite_so h with ⟨c26, h⟩ | ⟨c26, h⟩
                      · refine ev_ic_t 135 (mm 67 rfl) rfl c26 ?_
                        refine ev_aload_nR (mm 74 rfl) l0 ?_
                        obtain ⟨v27, e28, h⟩ := bind_so h
                        refine ev_get_r (mm 75 rfl) rfl e28 ?_
                        refine ev_iload_n (mm 76 rfl) l2 ?_
                        refine ev_iload_n (mm 77 rfl) l2 ?_
                        refine ev_bipush (mm 78 rfl) cB_100 ?_
                        refine ev_imul (mm 79 rfl) ?_
                        obtain ⟨q29, e30, h⟩ := bind_so h
                        rw [e30]
                        obtain ⟨_, e53, h⟩ := bind_so h
                        obtain ⟨p31, e32, h⟩ := bind_so h
                        refine ev_callV_A [.int (x2), .int ((x2 * 100))] (mm 80 rfl) rfl rfl (Nat.le_of_ble_eq_true rfl) (s_ob_of e53) (f56_ok e32 (d + 5)) ?_
                        refine ev_iload_n (mm 81 rfl) l3 ?_
                        obtain ⟨q33, e34, h⟩ := bind_so h
                        rw [e34]
                        obtain ⟨_, e52, h⟩ := bind_so h
                        obtain ⟨p35, e36, h⟩ := bind_so h
                        refine ev_callV_I [.int (x3)] (mm 82 rfl) rfl rfl (Nat.le_of_ble_eq_true rfl) (s_ob_of e52) (f202_ok e36 (d + 5)) ?_
                        refine evs_istore (mm 83 rfl) (by decide) (fun lv37 l4 s38 => ?_)
                        have l0 := s38 _ _ l0 rfl
                        have l1 := s38 _ _ l1 rfl
                        refine ev_iload (mm 84 rfl) l4 ?_
                        refine ev_bipush (mm 85 rfl) cB_30 ?_
                        obtain ⟨p39, e40, h⟩ := bind_so h
                        refine ev_callS_I [.int (p35.1), .int (30)] (mm 86 rfl) (by decide) rfl rfl (Nat.le_of_ble_eq_true rfl) (f102_ok e40 (d + 5)) ?_
                        rcases ite_so h with ⟨c41, h⟩ | ⟨c41, h⟩
                        · refine ev_if_t 181 (mm 87 rfl) rfl c41 ?_
                          refine ev_lconst (mm 98 rfl) cL_0 ?_
                          exact ev_lreturn (mm 99 rfl) h
                        · refine ev_if_f 181 (mm 87 rfl) rfl c41 ?_
                          refine ev_aload_nR (mm 88 rfl) l0 ?_
                          obtain ⟨v42, e43, h⟩ := bind_so h
                          refine ev_get_r (mm 89 rfl) rfl e43 ?_
                          obtain ⟨q44, e45, h⟩ := bind_so h
                          rw [e45]
                          obtain ⟨v46, e47, h⟩ := bind_so h
                          refine ev_get_r (mm 90 rfl) rfl e47 ?_
                          refine ev_iload_n (mm 91 rfl) l1 ?_
                          refine ev_bipush (mm 92 rfl) cB_30 ?_
                          refine ev_imul (mm 93 rfl) ?_
                          refine ev_iload (mm 94 rfl) l4 ?_
                          refine ev_iadd (mm 95 rfl) ?_
                          obtain ⟨q48, e49, h⟩ := bind_so h
                          rw [e49]
                          obtain ⟨v50, e51, h⟩ := bind_so h
                          refine ev_laload (mm 96 rfl) e51 ?_
                          refine ev_goto 182 (mm 97 rfl) rfl ?_
                          exact ev_lreturn (mm 99 rfl) h
                      · refine ev_ic_f 135 (mm 67 rfl) rfl c26 ?_
                        refine ev_aload_nR (mm 68 rfl) l0 ?_
                        obtain ⟨v54, e55, h⟩ := bind_so h
                        refine ev_get_r (mm 69 rfl) rfl e55 ?_
                        obtain ⟨q56, e57, h⟩ := bind_so h
                        rw [e57]
                        obtain ⟨v58, e59, h⟩ := bind_so h
                        refine ev_get_r (mm 70 rfl) rfl e59 ?_
                        refine ev_iload_n (mm 71 rfl) l1 ?_
                        obtain ⟨q60, e61, h⟩ := bind_so h
                        rw [e61]
                        obtain ⟨v62, e63, h⟩ := bind_so h
                        refine ev_laload (mm 72 rfl) e63 ?_
                        exact ev_lreturn (mm 73 rfl) h
                    · refine ev_ic_f 119 (mm 58 rfl) rfl c25 ?_
                      refine ev_aload_nR (mm 59 rfl) l0 ?_
                      obtain ⟨v64, e65, h⟩ := bind_so h
                      refine ev_get_r (mm 60 rfl) rfl e65 ?_
                      obtain ⟨q66, e67, h⟩ := bind_so h
                      rw [e67]
                      obtain ⟨v68, e69, h⟩ := bind_so h
                      refine ev_get_r (mm 61 rfl) rfl e69 ?_
                      refine ev_iload_n (mm 62 rfl) l1 ?_
                      obtain ⟨q70, e71, h⟩ := bind_so h
                      rw [e71]
                      obtain ⟨v72, e73, h⟩ := bind_so h
                      refine ev_laload (mm 63 rfl) e73 ?_
                      exact ev_lreturn (mm 64 rfl) h
                  · refine ev_ic_f 103 (mm 49 rfl) rfl c24 ?_
                    refine ev_aload_nR (mm 50 rfl) l0 ?_
                    obtain ⟨v74, e75, h⟩ := bind_so h
                    refine ev_get_r (mm 51 rfl) rfl e75 ?_
                    obtain ⟨q76, e77, h⟩ := bind_so h
                    rw [e77]
                    obtain ⟨v78, e79, h⟩ := bind_so h
                    refine ev_get_r (mm 52 rfl) rfl e79 ?_
                    refine ev_iload_n (mm 53 rfl) l1 ?_
                    obtain ⟨q80, e81, h⟩ := bind_so h
                    rw [e81]
                    obtain ⟨v82, e83, h⟩ := bind_so h
                    refine ev_laload (mm 54 rfl) e83 ?_
                    exact ev_lreturn (mm 55 rfl) h
                · refine ev_ic_f 75 (mm 33 rfl) rfl c17 ?_
                  refine ev_aload_nR (mm 34 rfl) l0 ?_
                  obtain ⟨v85, e86, h⟩ := bind_so h
                  refine ev_get_r (mm 35 rfl) rfl e86 ?_
                  refine ev_iload_n (mm 36 rfl) l1 ?_
                  refine ev_iload_n (mm 37 rfl) l2 ?_
                  obtain ⟨q87, e88, h⟩ := bind_so h
                  rw [e88]
                  obtain ⟨_, e91, h⟩ := bind_so h
                  obtain ⟨p89, e90, h⟩ := bind_so h
                  refine ev_callV_J [.int (x1), .int (x2)] (mm 38 rfl) rfl rfl (Nat.le_of_ble_eq_true rfl) (s_ob_of e91) (f24_ok e90 (d + 5)) ?_
                  exact ev_lreturn (mm 39 rfl) h
              · refine ev_ic_f 59 (mm 24 rfl) rfl c16 ?_
                refine ev_aload_nR (mm 25 rfl) l0 ?_
                obtain ⟨v92, e93, h⟩ := bind_so h
                refine ev_get_r (mm 26 rfl) rfl e93 ?_
                refine ev_iload_n (mm 27 rfl) l1 ?_
                refine ev_iload_n (mm 28 rfl) l2 ?_
                obtain ⟨q94, e95, h⟩ := bind_so h
                rw [e95]
                obtain ⟨_, e98, h⟩ := bind_so h
                obtain ⟨p96, e97, h⟩ := bind_so h
                refine ev_callV_J [.int (x1), .int (x2)] (mm 29 rfl) rfl rfl (Nat.le_of_ble_eq_true rfl) (s_ob_of e98) (f72_ok e97 (d + 0)) ?_
                exact ev_lreturn (mm 30 rfl) h
            · refine ev_if_f 43 (mm 19 rfl) rfl c15 ?_
              refine ev_lconst (mm 20 rfl) cL_0 ?_
              exact ev_lreturn (mm 21 rfl) h
          · refine ev_ic_f 29 (mm 11 rfl) rfl c8 ?_
            refine ev_ldc2_w (mm 12 rfl) cJ_m2000000000000 ?_
            exact ev_lreturn (mm 13 rfl) h
  exact ⟨by decide, Nat.le_of_ble_eq_true rfl, key.1, key.2⟩
/-- PupilCoin.due(II)J -/
def f90 (x0 : Nat) (x1 : Int32) (x2 : Int32) (M : vm_M) : Option (Int64 × vm_M) :=
  (s_ob M x0 10).bind fun _ =>
  (f105 x0 x1 M).bind fun p1 =>
  if p1.1 = 0 then
    some ((-2000000000000), p1.2)
  else
    (f103 x2 p1.2).bind fun p4 =>
    if ¬ p4.1 = 0 then
      (sg_r p4.2 x0 10 0).bind fun v7 =>
      (v7).bind fun q9 =>
      (s_ob p4.2 q9 0).bind fun _ =>
      (f2 q9 x1 x2 p4.2).bind fun p11 =>
      if ¬ p11.1 = 0 then
        (sg_r p11.2 x0 10 4).bind fun v14 =>
        (v14).bind fun q16 =>
        (s_ob p11.2 q16 9).bind fun _ =>
        (f72 q16 x1 x2 p11.2).bind fun p18 =>
        (sg_r p18.2 x0 10 4).bind fun v22 =>
        (v22).bind fun q24 =>
        (s_ob p18.2 q24 9).bind fun _ =>
        (f59 q24 x2 (x2 * 100) p18.2).bind fun p26 =>
        (sg_r p26 x0 10 4).bind fun v28 =>
        (v28).bind fun q30 =>
        (sg_r p26 q30 9 11).bind fun v32 =>
        (v32).bind fun q34 =>
        (sa_l p26 q34 x1).bind fun v36 =>
        (sg_r p26 x0 10 5).bind fun v38 =>
        (v38).bind fun q40 =>
        (s_ob p26 q40 4).bind fun _ =>
        (f24 q40 x1 x2 p26).bind fun p42 =>
        some (((v36 + p18.1) + p42.1), p42.2)
      else
        some (0, p11.2)
    else
      some ((-2000000000000), p4.2)
theorem f90_ok {x0 : Nat} {x1 : Int32} {x2 : Int32} {M : vm_M} {r : Int64 × vm_M} (h : f90 x0 x1 x2 M = some r) (d : Nat) : vm_Cl (d + 7) 90 [.ref (x0), .int (x1), .int (x2)] M (rJ r) := by
  have key : Ev 0 (fun _ => 0) (vm_Cl (d + 6)) vp_90 10 5 false (some (.long)) (rJ r) 0 (lv_args 0 [.ref (x0), .int (x1), .int (x2)]) [] M := by
    have l0 : (0, .ref (x0)) ∈ lv_args 0 [.ref (x0), .int (x1), .int (x2)] := List.Mem.head _
    have l1 : (1, .int (x1)) ∈ lv_args 0 [.ref (x0), .int (x1), .int (x2)] := List.Mem.tail _ (List.Mem.head _)
    have l2 : (2, .int (x2)) ∈ lv_args 0 [.ref (x0), .int (x1), .int (x2)] := List.Mem.tail _ (List.Mem.tail _ (List.Mem.head _))
    unfold f90 at h
    refine ev_aload_nR (mm 0 rfl) l0 ?_
    refine ev_iload_n (mm 1 rfl) l1 ?_
    obtain ⟨_, e48, h⟩ := bind_so h
    obtain ⟨p1, e2, h⟩ := bind_so h
    refine ev_callV_I [.int (x1)] (mm 2 rfl) rfl rfl (Nat.le_of_ble_eq_true rfl) (s_ob_of e48) (f105_ok e2 (d + 4)) ?_
    rcases ite_so h with ⟨c3, h⟩ | ⟨c3, h⟩
    · refine ev_if_t 15 (mm 3 rfl) rfl c3 ?_
      refine ev_ldc2_w (mm 7 rfl) cJ_m2000000000000 ?_
      exact ev_lreturn (mm 8 rfl) h
    · refine ev_if_f 15 (mm 3 rfl) rfl c3 ?_
      refine ev_iload_n (mm 4 rfl) l2 ?_
      obtain ⟨p4, e5, h⟩ := bind_so h
      refine ev_callS_I [.int (x2)] (mm 5 rfl) (by decide) rfl rfl (Nat.le_of_ble_eq_true rfl) (f103_ok e5 (d + 4)) ?_
      rcases ite_so h with ⟨c6, h⟩ | ⟨c6, h⟩
      · refine ev_if_t 19 (mm 6 rfl) rfl c6 ?_
        refine ev_aload_nR (mm 9 rfl) l0 ?_
        obtain ⟨v7, e8, h⟩ := bind_so h
        refine ev_get_r (mm 10 rfl) rfl e8 ?_
        refine ev_iload_n (mm 11 rfl) l1 ?_
        refine ev_iload_n (mm 12 rfl) l2 ?_
        obtain ⟨q9, e10, h⟩ := bind_so h
        rw [e10]
        obtain ⟨_, e47, h⟩ := bind_so h
        obtain ⟨p11, e12, h⟩ := bind_so h
        refine ev_callV_I [.int (x1), .int (x2)] (mm 13 rfl) rfl rfl (Nat.le_of_ble_eq_true rfl) (s_ob_of e47) (f2_ok e12 (d + 5)) ?_
        rcases ite_so h with ⟨c13, h⟩ | ⟨c13, h⟩
        · refine ev_if_t 33 (mm 14 rfl) rfl c13 ?_
          refine ev_aload_nR (mm 17 rfl) l0 ?_
          obtain ⟨v14, e15, h⟩ := bind_so h
          refine ev_get_r (mm 18 rfl) rfl e15 ?_
          refine ev_iload_n (mm 19 rfl) l1 ?_
          refine ev_iload_n (mm 20 rfl) l2 ?_
          obtain ⟨q16, e17, h⟩ := bind_so h
          rw [e17]
          obtain ⟨_, e46, h⟩ := bind_so h
          obtain ⟨p18, e19, h⟩ := bind_so h
          refine ev_callV_J [.int (x1), .int (x2)] (mm 21 rfl) rfl rfl (Nat.le_of_ble_eq_true rfl) (s_ob_of e46) (f72_ok e19 (d + 0)) ?_
          refine evs_lstore_n (mm 22 rfl) (by decide) (fun lv20 l3 s21 => ?_)
          have l0 := s21 _ _ l0 rfl
          have l1 := s21 _ _ l1 rfl
          have l2 := s21 _ _ l2 rfl
          refine ev_aload_nR (mm 23 rfl) l0 ?_
          obtain ⟨v22, e23, h⟩ := bind_so h
          refine ev_get_r (mm 24 rfl) rfl e23 ?_
          refine ev_iload_n (mm 25 rfl) l2 ?_
          refine ev_iload_n (mm 26 rfl) l2 ?_
          refine ev_bipush (mm 27 rfl) cB_100 ?_
          refine ev_imul (mm 28 rfl) ?_
          obtain ⟨q24, e25, h⟩ := bind_so h
          rw [e25]
          obtain ⟨_, e45, h⟩ := bind_so h
          obtain ⟨p26, e27, h⟩ := bind_so h
          refine ev_callV_V [.int (x2), .int ((x2 * 100))] (mm 29 rfl) rfl rfl (Nat.le_of_ble_eq_true rfl) (s_ob_of e45) (f59_ok e27 (d + 0)) ?_
          refine ev_aload_nR (mm 30 rfl) l0 ?_
          obtain ⟨v28, e29, h⟩ := bind_so h
          refine ev_get_r (mm 31 rfl) rfl e29 ?_
          obtain ⟨q30, e31, h⟩ := bind_so h
          rw [e31]
          obtain ⟨v32, e33, h⟩ := bind_so h
          refine ev_get_r (mm 32 rfl) rfl e33 ?_
          refine ev_iload_n (mm 33 rfl) l1 ?_
          obtain ⟨q34, e35, h⟩ := bind_so h
          rw [e35]
          obtain ⟨v36, e37, h⟩ := bind_so h
          refine ev_laload (mm 34 rfl) e37 ?_
          refine ev_lload_n (mm 35 rfl) l3 ?_
          refine ev_ladd (mm 36 rfl) ?_
          refine ev_aload_nR (mm 37 rfl) l0 ?_
          obtain ⟨v38, e39, h⟩ := bind_so h
          refine ev_get_r (mm 38 rfl) rfl e39 ?_
          refine ev_iload_n (mm 39 rfl) l1 ?_
          refine ev_iload_n (mm 40 rfl) l2 ?_
          obtain ⟨q40, e41, h⟩ := bind_so h
          rw [e41]
          obtain ⟨_, e44, h⟩ := bind_so h
          obtain ⟨p42, e43, h⟩ := bind_so h
          refine ev_callV_J [.int (x1), .int (x2)] (mm 41 rfl) rfl rfl (Nat.le_of_ble_eq_true rfl) (s_ob_of e44) (f24_ok e43 (d + 5)) ?_
          refine ev_ladd (mm 42 rfl) ?_
          exact ev_lreturn (mm 43 rfl) h
        · refine ev_if_f 33 (mm 14 rfl) rfl c13 ?_
          refine ev_lconst (mm 15 rfl) cL_0 ?_
          exact ev_lreturn (mm 16 rfl) h
      · refine ev_if_f 19 (mm 6 rfl) rfl c6 ?_
        refine ev_ldc2_w (mm 7 rfl) cJ_m2000000000000 ?_
        exact ev_lreturn (mm 8 rfl) h
  exact ⟨by decide, Nat.le_of_ble_eq_true rfl, key.1, key.2⟩
def f91_l32 (x0 : Nat) : Nat → Int64 → Int32 → vm_M → Option (Int64 × vm_M)
  | 0 => fun _ _ _ => none
  | n + 1 => fun x3 x5 M =>
    if 12 ≤ x5 then
      some (x3, M)
    else
      (sg_r M x0 10 4).bind fun v18 =>
      (v18).bind fun q20 =>
      (sg_r M q20 9 11).bind fun v22 =>
      (v22).bind fun q24 =>
      (sa_l M q24 x5).bind fun v26 =>
      f91_l32 x0 n (x3 + v26) (x5 + 1) M
theorem f91_l32_ok {d : Nat} {x0 : Nat} {r : Int64 × vm_M} : ∀ (n : Nat) {x3 : Int64} {x5 : Int32} {M : vm_M} {lv : vm_L}, (0, .ref (x0)) ∈ lv → (3, .long (x3)) ∈ lv → (5, .int (x5)) ∈ lv → f91_l32 x0 n x3 x5 M = some r → Ev 0 (fun _ => 0) (vm_Cl (d + 6)) vp_91 10 6 false (some (.long)) (rJ r) 32 lv [] M := by
  intro n
  induction n with
  | zero =>
    intro x3 x5 M lv l0 l3 l5 h
    cases h
  | succ n ih =>
    intro x3 x5 M lv l0 l3 l5 h
    dsimp only [f91_l32] at h
    refine ev_iload (mm 17 rfl) l5 ?_
    refine ev_bipush (mm 18 rfl) cB_12 ?_
    rcases ite_so h with ⟨c17, h⟩ | ⟨c17, h⟩
    · refine ev_ic_t 58 (mm 19 rfl) rfl c17 ?_
      refine ev_lload_n (mm 30 rfl) l3 ?_
      exact ev_lreturn (mm 31 rfl) h
    · refine ev_ic_f 58 (mm 19 rfl) rfl c17 ?_
      refine ev_lload_n (mm 20 rfl) l3 ?_
      refine ev_aload_nR (mm 21 rfl) l0 ?_
      obtain ⟨v18, e19, h⟩ := bind_so h
      refine ev_get_r (mm 22 rfl) rfl e19 ?_
      obtain ⟨q20, e21, h⟩ := bind_so h
      rw [e21]
      obtain ⟨v22, e23, h⟩ := bind_so h
      refine ev_get_r (mm 23 rfl) rfl e23 ?_
      refine ev_iload (mm 24 rfl) l5 ?_
      obtain ⟨q24, e25, h⟩ := bind_so h
      rw [e25]
      obtain ⟨v26, e27, h⟩ := bind_so h
      refine ev_laload (mm 25 rfl) e27 ?_
      refine ev_ladd (mm 26 rfl) ?_
      refine evs_lstore_n (mm 27 rfl) (by decide) (fun lv28 l3 s29 => ?_)
      have l0 := s29 _ _ l0 rfl
      have l5 := s29 _ _ l5 rfl
      refine evs_iinc (mm 28 rfl) cI_1 l5 (by decide) (fun lv30 l5 s31 => ?_)
      have l0 := s31 _ _ l0 rfl
      have l3 := s31 _ _ l3 rfl
      refine ev_goto 32 (mm 29 rfl) rfl ?_
      exact ih l0 l3 l5 h
/-- PupilCoin.all(II)J -/
def f91 (x0 : Nat) (x1 : Int32) (x2 : Int32) (M : vm_M) : Option (Int64 × vm_M) :=
  (f103 x1 M).bind fun p1 =>
  if p1.1 = 0 then
    some ((-2000000000000), p1.2)
  else
    (f104 x2 p1.2).bind fun p4 =>
    if ¬ p4.1 = 0 then
      (sg_r p4.2 x0 10 4).bind fun v7 =>
      (v7).bind fun q9 =>
      (s_ob p4.2 q9 9).bind fun _ =>
      (f59 q9 x1 x2 p4.2).bind fun p11 =>
      f91_l32 x0
      
        100000 0 0 p11
    else
      some ((-2000000000000), p4.2)
theorem f91_ok {x0 : Nat} {x1 : Int32} {x2 : Int32} {M : vm_M} {r : Int64 × vm_M} (h : f91 x0 x1 x2 M = some r) (d : Nat) : vm_Cl (d + 7) 91 [.ref (x0), .int (x1), .int (x2)] M (rJ r) := by
  have key : Ev 0 (fun _ => 0) (vm_Cl (d + 6)) vp_91 10 6 false (some (.long)) (rJ r) 0 (lv_args 0 [.ref (x0), .int (x1), .int (x2)]) [] M := by
    have l0 : (0, .ref (x0)) ∈ lv_args 0 [.ref (x0), .int (x1), .int (x2)] := List.Mem.head _
    have l1 : (1, .int (x1)) ∈ lv_args 0 [.ref (x0), .int (x1), .int (x2)] := List.Mem.tail _ (List.Mem.head _)
    have l2 : (2, .int (x2)) ∈ lv_args 0 [.ref (x0), .int (x1), .int (x2)] := List.Mem.tail _ (List.Mem.tail _ (List.Mem.head _))
    unfold f91 at h
    refine ev_iload_n (mm 0 rfl) l1 ?_
    obtain ⟨p1, e2, h⟩ := bind_so h
    refine ev_callS_I [.int (x1)] (mm 1 rfl) (by decide) rfl rfl (Nat.le_of_ble_eq_true rfl) (f103_ok e2 (d + 4)) ?_
    rcases ite_so h with ⟨c3, h⟩ | ⟨c3, h⟩
    · refine ev_if_t 14 (mm 2 rfl) rfl c3 ?_
      refine ev_ldc2_w (mm 6 rfl) cJ_m2000000000000 ?_
      exact ev_lreturn (mm 7 rfl) h
    · refine ev_if_f 14 (mm 2 rfl) rfl c3 ?_
      refine ev_iload_n (mm 3 rfl) l2 ?_
      obtain ⟨p4, e5, h⟩ := bind_so h
      refine ev_callS_I [.int (x2)] (mm 4 rfl) (by decide) rfl rfl (Nat.le_of_ble_eq_true rfl) (f104_ok e5 (d + 5)) ?_
      rcases ite_so h with ⟨c6, h⟩ | ⟨c6, h⟩
      · refine ev_if_t 18 (mm 5 rfl) rfl c6 ?_
        refine ev_aload_nR (mm 8 rfl) l0 ?_
        obtain ⟨v7, e8, h⟩ := bind_so h
        refine ev_get_r (mm 9 rfl) rfl e8 ?_
        refine ev_iload_n (mm 10 rfl) l1 ?_
        refine ev_iload_n (mm 11 rfl) l2 ?_
        obtain ⟨q9, e10, h⟩ := bind_so h
        rw [e10]
        obtain ⟨_, e32, h⟩ := bind_so h
        obtain ⟨p11, e12, h⟩ := bind_so h
        refine ev_callV_V [.int (x1), .int (x2)] (mm 12 rfl) rfl rfl (Nat.le_of_ble_eq_true rfl) (s_ob_of e32) (f59_ok e12 (d + 0)) ?_
        refine ev_lconst (mm 13 rfl) cL_0 ?_
        refine evs_lstore_n (mm 14 rfl) (by decide) (fun lv13 l3 s14 => ?_)
        have l0 := s14 _ _ l0 rfl
        refine ev_iconst (mm 15 rfl) cI_0 ?_
        refine evs_istore (mm 16 rfl) (by decide) (fun lv15 l5 s16 => ?_)
        have l0 := s16 _ _ l0 rfl
        have l3 := s16 _ _ l3 rfl
        refine f91_l32_ok 100000 l0 l3 l5 h
      · refine ev_if_f 18 (mm 5 rfl) rfl c6 ?_
        refine ev_ldc2_w (mm 6 rfl) cJ_m2000000000000 ?_
        exact ev_lreturn (mm 7 rfl) h
  exact ⟨by decide, Nat.le_of_ble_eq_true rfl, key.1, key.2⟩
/-- PupilCoin.propose(IIIII)I -/
def f92 (x0 : Nat) (x1 : Int32) (x2 : Int32) (x3 : Int32) (x4 : Int32) (x5 : Int32) (M : vm_M) : Option (Int32 × vm_M) :=
  (f102 x1 3 M).bind fun p1 =>
  if p1.1 = 0 then
    some ((-1), p1.2)
  else
    (s_ob p1.2 x0 10).bind fun _ =>
    (f105 x0 x2 p1.2).bind fun p4 =>
    if p4.1 = 0 then
      some ((-1), p4.2)
    else
      (s_ob p4.2 x0 10).bind fun _ =>
      (f105 x0 x3 p4.2).bind fun p7 =>
      if p7.1 = 0 then
        some ((-1), p7.2)
      else
        if ¬ x2 = x3 then
          (sg_r p7.2 x0 10 0).bind fun v11 =>
          (v11).bind fun q13 =>
          (sg_r p7.2 q13 0 1).bind fun v15 =>
          (v15).bind fun q17 =>
          (sa_i p7.2 q17 0 x2).bind fun v19 =>
          if ¬ v19 = x1 then
            some ((-1), p7.2)
          else
            (sg_r p7.2 x0 10 0).bind fun v22 =>
            (v22).bind fun q24 =>
            (sg_r p7.2 q24 0 1).bind fun v26 =>
            (v26).bind fun q28 =>
            (sa_i p7.2 q28 0 x3).bind fun v30 =>
            if v30 = x1 then
              if x4 < 1 then
                some ((-1), p7.2)
              else
                if 9999999 < x4 then
                  some ((-1), p7.2)
                else
                  (s_ob p7.2 x0 10).bind fun _ =>
                  (f106 x0 x5 p7.2).bind fun p35 =>
                  if p35.1 = 0 then
                    some ((-1), p35.2)
                  else
                    (sg_r p35.2 x0 10 5).bind fun v38 =>
                    (v38).bind fun q40 =>
                    (sg_i p35.2 q40 4 8).bind fun v42 =>
                    if v42 < 20 then
                      (sg_r p35.2 x0 10 5).bind fun v45 =>
                      (sg_i p35.2 x0 10 10).bind fun v47 =>
                      (v45).bind fun q49 =>
                      (s_ob p35.2 q49 4).bind fun _ =>
                      (f21 q49 x1 x5 v47 p35.2).bind fun p51 =>
                      (sg_r p51.2 x0 10 5).bind fun v55 =>
                      (v55).bind fun q57 =>
                      (sg_r p51.2 q57 4 1).bind fun v59 =>
                      (v59).bind fun q61 =>
                      (ss_i p51.2 q61 0 p51.1 x2).bind fun M63 =>
                      (sg_r M63 x0 10 5).bind fun v65 =>
                      (v65).bind fun q67 =>
                      (sg_r M63 q67 4 2).bind fun v69 =>
                      (v69).bind fun q71 =>
                      (ss_i M63 q71 0 p51.1 x3).bind fun M73 =>
                      (sg_r M73 x0 10 5).bind fun v75 =>
                      (v75).bind fun q77 =>
                      (sg_r M73 q77 4 3).bind fun v79 =>
                      (v79).bind fun q81 =>
                      (ss_i M73 q81 0 p51.1 x4).bind fun M83 =>
                      some (p51.1, M83)
                    else
                      some ((-1), p35.2)
            else
              some ((-1), p7.2)
        else
          some ((-1), p7.2)
theorem f92_ok {x0 : Nat} {x1 : Int32} {x2 : Int32} {x3 : Int32} {x4 : Int32} {x5 : Int32} {M : vm_M} {r : Int32 × vm_M} (h : f92 x0 x1 x2 x3 x4 x5 M = some r) (d : Nat) : vm_Cl (d + 4) 92 [.ref (x0), .int (x1), .int (x2), .int (x3), .int (x4), .int (x5)] M (rI r) := by
  have key : Ev 0 (fun _ => 0) (vm_Cl (d + 3)) vp_92 10 7 false (some (.int)) (rI r) 0 (lv_args 0 [.ref (x0), .int (x1), .int (x2), .int (x3), .int (x4), .int (x5)]) [] M := by
    have l0 : (0, .ref (x0)) ∈ lv_args 0 [.ref (x0), .int (x1), .int (x2), .int (x3), .int (x4), .int (x5)] := List.Mem.head _
    have l1 : (1, .int (x1)) ∈ lv_args 0 [.ref (x0), .int (x1), .int (x2), .int (x3), .int (x4), .int (x5)] := List.Mem.tail _ (List.Mem.head _)
    have l2 : (2, .int (x2)) ∈ lv_args 0 [.ref (x0), .int (x1), .int (x2), .int (x3), .int (x4), .int (x5)] := List.Mem.tail _ (List.Mem.tail _ (List.Mem.head _))
    have l3 : (3, .int (x3)) ∈ lv_args 0 [.ref (x0), .int (x1), .int (x2), .int (x3), .int (x4), .int (x5)] := List.Mem.tail _ (List.Mem.tail _ (List.Mem.tail _ (List.Mem.head _)))
    have l4 : (4, .int (x4)) ∈ lv_args 0 [.ref (x0), .int (x1), .int (x2), .int (x3), .int (x4), .int (x5)] := List.Mem.tail _ (List.Mem.tail _ (List.Mem.tail _ (List.Mem.tail _ (List.Mem.head _))))
    have l5 : (5, .int (x5)) ∈ lv_args 0 [.ref (x0), .int (x1), .int (x2), .int (x3), .int (x4), .int (x5)] := List.Mem.tail _ (List.Mem.tail _ (List.Mem.tail _ (List.Mem.tail _ (List.Mem.tail _ (List.Mem.head _)))))
    unfold f92 at h
    refine ev_iload_n (mm 0 rfl) l1 ?_
    refine ev_iconst (mm 1 rfl) cI_3 ?_
    obtain ⟨p1, e2, h⟩ := bind_so h
    refine ev_callS_I [.int (x1), .int (3)] (mm 2 rfl) (by decide) rfl rfl (Nat.le_of_ble_eq_true rfl) (f102_ok e2 (d + 2)) ?_
    rcases ite_so h with ⟨c3, h⟩ | ⟨c3, h⟩
    · refine ev_if_t 29 (mm 3 rfl) rfl c3 ?_
      refine ev_iconst (mm 15 rfl) cI_m1 ?_
      exact ev_ireturn (mm 16 rfl) h
    · refine ev_if_f 29 (mm 3 rfl) rfl c3 ?_
      refine ev_aload_nR (mm 4 rfl) l0 ?_
      refine ev_iload_n (mm 5 rfl) l2 ?_
      obtain ⟨_, e88, h⟩ := bind_so h
      obtain ⟨p4, e5, h⟩ := bind_so h
      refine ev_callV_I [.int (x2)] (mm 6 rfl) rfl rfl (Nat.le_of_ble_eq_true rfl) (s_ob_of e88) (f105_ok e5 (d + 1)) ?_
      rcases ite_so h with ⟨c6, h⟩ | ⟨c6, h⟩
      · refine ev_if_t 29 (mm 7 rfl) rfl c6 ?_
        refine ev_iconst (mm 15 rfl) cI_m1 ?_
        exact ev_ireturn (mm 16 rfl) h
      · refine ev_if_f 29 (mm 7 rfl) rfl c6 ?_
        refine ev_aload_nR (mm 8 rfl) l0 ?_
        refine ev_iload_n (mm 9 rfl) l3 ?_
        obtain ⟨_, e87, h⟩ := bind_so h
        obtain ⟨p7, e8, h⟩ := bind_so h
        refine ev_callV_I [.int (x3)] (mm 10 rfl) rfl rfl (Nat.le_of_ble_eq_true rfl) (s_ob_of e87) (f105_ok e8 (d + 1)) ?_
        rcases ite_so h with ⟨c9, h⟩ | ⟨c9, h⟩
        · refine ev_if_t 29 (mm 11 rfl) rfl c9 ?_
          refine ev_iconst (mm 15 rfl) cI_m1 ?_
          exact ev_ireturn (mm 16 rfl) h
        · refine ev_if_f 29 (mm 11 rfl) rfl c9 ?_
          refine ev_iload_n (mm 12 rfl) l2 ?_
          refine ev_iload_n (mm 13 rfl) l3 ?_
          rcases ite_so h with ⟨c10, h⟩ | ⟨c10, h⟩
          · refine ev_ic_t 31 (mm 14 rfl) rfl c10 ?_
            refine ev_aload_nR (mm 17 rfl) l0 ?_
            obtain ⟨v11, e12, h⟩ := bind_so h
            refine ev_get_r (mm 18 rfl) rfl e12 ?_
            obtain ⟨q13, e14, h⟩ := bind_so h
            rw [e14]
            obtain ⟨v15, e16, h⟩ := bind_so h
            refine ev_get_r (mm 19 rfl) rfl e16 ?_
            refine ev_iload_n (mm 20 rfl) l2 ?_
            obtain ⟨q17, e18, h⟩ := bind_so h
            rw [e18]
            obtain ⟨v19, e20, h⟩ := bind_so h
            refine ev_iaload (mm 21 rfl) e20 ?_
            refine ev_iload_n (mm 22 rfl) l1 ?_
            rcases ite_so h with ⟨c21, h⟩ | ⟨c21, h⟩
            · refine ev_ic_t 57 (mm 23 rfl) rfl c21 ?_
              refine ev_iconst (mm 31 rfl) cI_m1 ?_
              exact ev_ireturn (mm 32 rfl) h
            · refine ev_ic_f 57 (mm 23 rfl) rfl c21 ?_
              refine ev_aload_nR (mm 24 rfl) l0 ?_
              obtain ⟨v22, e23, h⟩ := bind_so h
              refine ev_get_r (mm 25 rfl) rfl e23 ?_
              obtain ⟨q24, e25, h⟩ := bind_so h
              rw [e25]
              obtain ⟨v26, e27, h⟩ := bind_so h
              refine ev_get_r (mm 26 rfl) rfl e27 ?_
              refine ev_iload_n (mm 27 rfl) l3 ?_
              obtain ⟨q28, e29, h⟩ := bind_so h
              rw [e29]
              obtain ⟨v30, e31, h⟩ := bind_so h
              refine ev_iaload (mm 28 rfl) e31 ?_
              refine ev_iload_n (mm 29 rfl) l1 ?_
              rcases ite_so h with ⟨c32, h⟩ | ⟨c32, h⟩
              · refine ev_ic_t 59 (mm 30 rfl) rfl c32 ?_
                refine ev_iload (mm 33 rfl) l4 ?_
                refine ev_iconst (mm 34 rfl) cI_1 ?_
                rcases ite_so h with ⟨c33, h⟩ | ⟨c33, h⟩
                · refine ev_ic_t 93 (mm 35 rfl) rfl c33 ?_
                  refine ev_iconst (mm 48 rfl) cI_m1 ?_
                  exact ev_ireturn (mm 49 rfl) h
                · refine ev_ic_f 93 (mm 35 rfl) rfl c33 ?_
                  refine ev_iload (mm 36 rfl) l4 ?_
                  refine ev_ldc (mm 37 rfl) cI_9999999 ?_
                  rcases ite_so h with ⟨c34, h⟩ | ⟨c34, h⟩
                  · refine ev_ic_t 93 (mm 38 rfl) rfl c34 ?_
                    refine ev_iconst (mm 48 rfl) cI_m1 ?_
                    exact ev_ireturn (mm 49 rfl) h
                  · refine ev_ic_f 93 (mm 38 rfl) rfl c34 ?_
                    refine ev_aload_nR (mm 39 rfl) l0 ?_
                    refine ev_iload (mm 40 rfl) l5 ?_
                    obtain ⟨_, e86, h⟩ := bind_so h
                    obtain ⟨p35, e36, h⟩ := bind_so h
                    refine ev_callV_I [.int (x5)] (mm 41 rfl) rfl rfl (Nat.le_of_ble_eq_true rfl) (s_ob_of e86) (f106_ok e36 (d + 0)) ?_
                    rcases ite_so h with ⟨c37, h⟩ | ⟨c37, h⟩
                    · refine ev_if_t 93 (mm 42 rfl) rfl c37 ?_
                      refine ev_iconst (mm 48 rfl) cI_m1 ?_
                      exact ev_ireturn (mm 49 rfl) h
                    · refine ev_if_f 93 (mm 42 rfl) rfl c37 ?_
                      refine ev_aload_nR (mm 43 rfl) l0 ?_
                      obtain ⟨v38, e39, h⟩ := bind_so h
                      refine ev_get_r (mm 44 rfl) rfl e39 ?_
                      obtain ⟨q40, e41, h⟩ := bind_so h
                      rw [e41]
                      obtain ⟨v42, e43, h⟩ := bind_so h
                      refine ev_get_i (mm 45 rfl) rfl e43 ?_
                      refine ev_bipush (mm 46 rfl) cB_20 ?_
                      rcases ite_so h with ⟨c44, h⟩ | ⟨c44, h⟩
                      · refine ev_ic_t 95 (mm 47 rfl) rfl c44 ?_
                        refine ev_aload_nR (mm 50 rfl) l0 ?_
                        obtain ⟨v45, e46, h⟩ := bind_so h
                        refine ev_get_r (mm 51 rfl) rfl e46 ?_
                        refine ev_iload_n (mm 52 rfl) l1 ?_
                        refine ev_iload (mm 53 rfl) l5 ?_
                        refine ev_aload_nR (mm 54 rfl) l0 ?_
                        obtain ⟨v47, e48, h⟩ := bind_so h
                        refine ev_get_i (mm 55 rfl) rfl e48 ?_
                        obtain ⟨q49, e50, h⟩ := bind_so h
                        rw [e50]
                        obtain ⟨_, e85, h⟩ := bind_so h
                        obtain ⟨p51, e52, h⟩ := bind_so h
                        refine ev_callV_I [.int (x1), .int (x5), .int (v47)] (mm 56 rfl) rfl rfl (Nat.le_of_ble_eq_true rfl) (s_ob_of e85) (f21_ok e52 (d + 2)) ?_
                        refine evs_istore (mm 57 rfl) (by decide) (fun lv53 l6 s54 => ?_)
                        have l0 := s54 _ _ l0 rfl
                        have l2 := s54 _ _ l2 rfl
                        have l3 := s54 _ _ l3 rfl
                        have l4 := s54 _ _ l4 rfl
                        refine ev_aload_nR (mm 58 rfl) l0 ?_
                        obtain ⟨v55, e56, h⟩ := bind_so h
                        refine ev_get_r (mm 59 rfl) rfl e56 ?_
                        obtain ⟨q57, e58, h⟩ := bind_so h
                        rw [e58]
                        obtain ⟨v59, e60, h⟩ := bind_so h
                        refine ev_get_r (mm 60 rfl) rfl e60 ?_
                        refine ev_iload (mm 61 rfl) l6 ?_
                        refine ev_iload_n (mm 62 rfl) l2 ?_
                        obtain ⟨q61, e62, h⟩ := bind_so h
                        rw [e62]
                        obtain ⟨M63, e64, h⟩ := bind_so h
                        refine ev_iastore (mm 63 rfl) e64 ?_
                        refine ev_aload_nR (mm 64 rfl) l0 ?_
                        obtain ⟨v65, e66, h⟩ := bind_so h
                        refine ev_get_r (mm 65 rfl) rfl e66 ?_
                        obtain ⟨q67, e68, h⟩ := bind_so h
                        rw [e68]
                        obtain ⟨v69, e70, h⟩ := bind_so h
                        refine ev_get_r (mm 66 rfl) rfl e70 ?_
                        refine ev_iload (mm 67 rfl) l6 ?_
                        refine ev_iload_n (mm 68 rfl) l3 ?_
                        obtain ⟨q71, e72, h⟩ := bind_so h
                        rw [e72]
                        obtain ⟨M73, e74, h⟩ := bind_so h
                        refine ev_iastore (mm 69 rfl) e74 ?_
                        refine ev_aload_nR (mm 70 rfl) l0 ?_
                        obtain ⟨v75, e76, h⟩ := bind_so h
                        refine ev_get_r (mm 71 rfl) rfl e76 ?_
                        obtain ⟨q77, e78, h⟩ := bind_so h
                        rw [e78]
                        obtain ⟨v79, e80, h⟩ := bind_so h
                        refine ev_get_r (mm 72 rfl) rfl e80 ?_
                        refine ev_iload (mm 73 rfl) l6 ?_
                        refine ev_iload (mm 74 rfl) l4 ?_
                        obtain ⟨q81, e82, h⟩ := bind_so h
                        rw [e82]
                        obtain ⟨M83, e84, h⟩ := bind_so h
                        refine ev_iastore (mm 75 rfl) e84 ?_
                        refine ev_iload (mm 76 rfl) l6 ?_
                        exact ev_ireturn (mm 77 rfl) h
                      · refine ev_ic_f 95 (mm 47 rfl) rfl c44 ?_
                        refine ev_iconst (mm 48 rfl) cI_m1 ?_
                        exact ev_ireturn (mm 49 rfl) h
              · refine ev_ic_f 59 (mm 30 rfl) rfl c32 ?_
                refine ev_iconst (mm 31 rfl) cI_m1 ?_
                exact ev_ireturn (mm 32 rfl) h
          · refine ev_ic_f 31 (mm 14 rfl) rfl c10 ?_
            refine ev_iconst (mm 15 rfl) cI_m1 ?_
            exact ev_ireturn (mm 16 rfl) h
  exact ⟨by decide, Nat.le_of_ble_eq_true rfl, key.1, key.2⟩
