/-! shallow functions, by program (wip/gen_fun.py) -/
/-- PupilCoin$Roads.<init>()V -/
def f51 (x0 : Nat) (M : vm_M) : Option (vm_M) :=
  (s_na M 0 256).bind fun M1 =>
  (sp_r M1 x0 7 0 (some (vm_n M))).bind fun M3 =>
  (s_na M3 0 256).bind fun M5 =>
  (sp_r M5 x0 7 1 (some (vm_n M3))).bind fun M7 =>
  some M7
theorem f51_ok {x0 : Nat} {M : vm_M} {r : vm_M} (h : f51 x0 M = some r) (d : Nat) : vm_Cl (d + 1) 51 [.ref (x0)] M (rV r) := by
  have key : Ev 0 (fun _ => 0) (vm_Cl (d + 0)) vp_51 7 1 true none (rV r) 0 (lv_args 0 [.ref (x0)]) [] M := by
    have l0 : (0, .ref (x0)) ∈ lv_args 0 [.ref (x0)] := List.Mem.head _
    unfold f51 at h
    refine ev_aload_nR (mm 0 rfl) l0 ?_
    refine ev_obj (mm 1 rfl) (Nat.le_of_ble_eq_true rfl) ?_
    refine ev_aload_nR (mm 2 rfl) l0 ?_
    refine ev_sipush (mm 3 rfl) cS_256 ?_
    obtain ⟨M1, e2, h⟩ := bind_so h
    refine ev_newarray 0 (mm 4 rfl) (by decide) rfl e2 ?_
    obtain ⟨M3, e4, h⟩ := bind_so h
    refine ev_put_R (mm 5 rfl) (fun _ => ⟨rfl, rfl⟩) rfl e4 ?_
    refine ev_aload_nR (mm 6 rfl) l0 ?_
    refine ev_sipush (mm 7 rfl) cS_256 ?_
    obtain ⟨M5, e6, h⟩ := bind_so h
    refine ev_newarray 0 (mm 8 rfl) (by decide) rfl e6 ?_
    obtain ⟨M7, e8, h⟩ := bind_so h
    refine ev_put_R (mm 9 rfl) (fun _ => ⟨rfl, rfl⟩) rfl e8 ?_
    exact ev_return (mm 10 rfl) h
  exact ⟨by decide, Nat.le_of_ble_eq_true rfl, key.1, key.2⟩
/-- PupilCoin$Land.<init>()V -/
def f0 (x0 : Nat) (M : vm_M) : Option (vm_M) :=
  (s_na M 0 12).bind fun M1 =>
  (sp_r M1 x0 0 0 (some (vm_n M))).bind fun M3 =>
  (s_na M3 0 12).bind fun M5 =>
  (sp_r M5 x0 0 1 (some (vm_n M3))).bind fun M7 =>
  (s_na M7 0 12).bind fun M9 =>
  (sp_r M9 x0 0 2 (some (vm_n M7))).bind fun M11 =>
  (s_na M11 0 12).bind fun M13 =>
  (sp_r M13 x0 0 3 (some (vm_n M11))).bind fun M15 =>
  (s_na M15 0 12).bind fun M17 =>
  (sp_r M17 x0 0 4 (some (vm_n M15))).bind fun M19 =>
  (s_na M19 0 8).bind fun M21 =>
  (sp_r M21 x0 0 5 (some (vm_n M19))).bind fun M23 =>
  (s_no M23 7).bind fun M25 =>
  (f51 (vm_n M23) M25).bind fun p27 =>
  (sp_r p27 x0 0 6 (some (vm_n M23))).bind fun M29 =>
  some M29
theorem f0_ok {x0 : Nat} {M : vm_M} {r : vm_M} (h : f0 x0 M = some r) (d : Nat) : vm_Cl (d + 2) 0 [.ref (x0)] M (rV r) := by
  have key : Ev 0 (fun _ => 0) (vm_Cl (d + 1)) vp_0 0 1 true none (rV r) 0 (lv_args 0 [.ref (x0)]) [] M := by
    have l0 : (0, .ref (x0)) ∈ lv_args 0 [.ref (x0)] := List.Mem.head _
    unfold f0 at h
    refine ev_aload_nR (mm 0 rfl) l0 ?_
    refine ev_obj (mm 1 rfl) (Nat.le_of_ble_eq_true rfl) ?_
    refine ev_aload_nR (mm 2 rfl) l0 ?_
    refine ev_bipush (mm 3 rfl) cB_12 ?_
    obtain ⟨M1, e2, h⟩ := bind_so h
    refine ev_newarray 0 (mm 4 rfl) (by decide) rfl e2 ?_
    obtain ⟨M3, e4, h⟩ := bind_so h
    refine ev_put_R (mm 5 rfl) (fun _ => ⟨rfl, rfl⟩) rfl e4 ?_
    refine ev_aload_nR (mm 6 rfl) l0 ?_
    refine ev_bipush (mm 7 rfl) cB_12 ?_
    obtain ⟨M5, e6, h⟩ := bind_so h
    refine ev_newarray 0 (mm 8 rfl) (by decide) rfl e6 ?_
    obtain ⟨M7, e8, h⟩ := bind_so h
    refine ev_put_R (mm 9 rfl) (fun _ => ⟨rfl, rfl⟩) rfl e8 ?_
    refine ev_aload_nR (mm 10 rfl) l0 ?_
    refine ev_bipush (mm 11 rfl) cB_12 ?_
    obtain ⟨M9, e10, h⟩ := bind_so h
    refine ev_newarray 0 (mm 12 rfl) (by decide) rfl e10 ?_
    obtain ⟨M11, e12, h⟩ := bind_so h
    refine ev_put_R (mm 13 rfl) (fun _ => ⟨rfl, rfl⟩) rfl e12 ?_
    refine ev_aload_nR (mm 14 rfl) l0 ?_
    refine ev_bipush (mm 15 rfl) cB_12 ?_
    obtain ⟨M13, e14, h⟩ := bind_so h
    refine ev_newarray 0 (mm 16 rfl) (by decide) rfl e14 ?_
    obtain ⟨M15, e16, h⟩ := bind_so h
    refine ev_put_R (mm 17 rfl) (fun _ => ⟨rfl, rfl⟩) rfl e16 ?_
    refine ev_aload_nR (mm 18 rfl) l0 ?_
    refine ev_bipush (mm 19 rfl) cB_12 ?_
    obtain ⟨M17, e18, h⟩ := bind_so h
    refine ev_newarray 0 (mm 20 rfl) (by decide) rfl e18 ?_
    obtain ⟨M19, e20, h⟩ := bind_so h
    refine ev_put_R (mm 21 rfl) (fun _ => ⟨rfl, rfl⟩) rfl e20 ?_
    refine ev_aload_nR (mm 22 rfl) l0 ?_
    refine ev_bipush (mm 23 rfl) cB_8 ?_
    obtain ⟨M21, e22, h⟩ := bind_so h
    refine ev_newarray 0 (mm 24 rfl) (by decide) rfl e22 ?_
    obtain ⟨M23, e24, h⟩ := bind_so h
    refine ev_put_R (mm 25 rfl) (fun _ => ⟨rfl, rfl⟩) rfl e24 ?_
    refine ev_aload_nR (mm 26 rfl) l0 ?_
    obtain ⟨M25, e26, h⟩ := bind_so h
    refine ev_new (mm 27 rfl) e26 ?_
    refine ev_dupR (mm 28 rfl) ?_
    obtain ⟨p27, e28, h⟩ := bind_so h
    refine ev_callI_V [] (mm 29 rfl) (by decide) rfl rfl (Nat.le_of_ble_eq_true rfl) (f51_ok e28 (d + 0)) ?_
    obtain ⟨M29, e30, h⟩ := bind_so h
    refine ev_put_R (mm 30 rfl) (fun _ => ⟨rfl, rfl⟩) rfl e30 ?_
    exact ev_return (mm 31 rfl) h
  exact ⟨by decide, Nat.le_of_ble_eq_true rfl, key.1, key.2⟩
/-- PupilCoin$Land.found(III)I -/
def f1 (x0 : Nat) (x1 : Int32) (x2 : Int32) (x3 : Int32) (M : vm_M) : Option (Int32 × vm_M) :=
  (sg_i M x0 0 7).bind fun v1 =>
  if v1 < 12 then
    (sg_r M x0 0 0).bind fun v4 =>
    (sg_i M x0 0 7).bind fun v6 =>
    (v4).bind fun q8 =>
    (ss_i M q8 0 v6 x1).bind fun M10 =>
    (sg_r M10 x0 0 1).bind fun v12 =>
    (sg_i M10 x0 0 7).bind fun v14 =>
    (v12).bind fun q16 =>
    (ss_i M10 q16 0 v14 x2).bind fun M18 =>
    (sg_r M18 x0 0 2).bind fun v20 =>
    (sg_i M18 x0 0 7).bind fun v22 =>
    (v20).bind fun q24 =>
    (ss_i M18 q24 0 v22 x3).bind fun M26 =>
    (sg_r M26 x0 0 3).bind fun v28 =>
    (sg_i M26 x0 0 7).bind fun v30 =>
    (sg_i M26 x0 0 7).bind fun v32 =>
    (v28).bind fun q34 =>
    (ss_i M26 q34 0 v30 v32).bind fun M36 =>
    (sg_r M36 x0 0 4).bind fun v38 =>
    (sg_i M36 x0 0 7).bind fun v40 =>
    (v38).bind fun q42 =>
    (ss_i M36 q42 0 v40 10).bind fun M44 =>
    (sg_i M44 x0 0 7).bind fun v46 =>
    (sp_i M44 x0 0 7 (v46 + 1)).bind fun M48 =>
    some (v46, M48)
  else
    some ((-1), M)
theorem f1_ok {x0 : Nat} {x1 : Int32} {x2 : Int32} {x3 : Int32} {M : vm_M} {r : Int32 × vm_M} (h : f1 x0 x1 x2 x3 M = some r) (d : Nat) : vm_Cl (d + 1) 1 [.ref (x0), .int (x1), .int (x2), .int (x3)] M (rI r) := by
  have key : Ev 0 (fun _ => 0) (vm_Cl (d + 0)) vp_1 0 4 false (some (.int)) (rI r) 0 (lv_args 0 [.ref (x0), .int (x1), .int (x2), .int (x3)]) [] M := by
    have l0 : (0, .ref (x0)) ∈ lv_args 0 [.ref (x0), .int (x1), .int (x2), .int (x3)] := List.Mem.head _
    have l1 : (1, .int (x1)) ∈ lv_args 0 [.ref (x0), .int (x1), .int (x2), .int (x3)] := List.Mem.tail _ (List.Mem.head _)
    have l2 : (2, .int (x2)) ∈ lv_args 0 [.ref (x0), .int (x1), .int (x2), .int (x3)] := List.Mem.tail _ (List.Mem.tail _ (List.Mem.head _))
    have l3 : (3, .int (x3)) ∈ lv_args 0 [.ref (x0), .int (x1), .int (x2), .int (x3)] := List.Mem.tail _ (List.Mem.tail _ (List.Mem.tail _ (List.Mem.head _)))
    unfold f1 at h
    refine ev_aload_nR (mm 0 rfl) l0 ?_
    obtain ⟨v1, e2, h⟩ := bind_so h
    refine ev_get_i (mm 1 rfl) rfl e2 ?_
    refine ev_bipush (mm 2 rfl) cB_12 ?_
    rcases ite_so h with ⟨c3, h⟩ | ⟨c3, h⟩
    · refine ev_ic_t 11 (mm 3 rfl) rfl c3 ?_
      refine ev_aload_nR (mm 6 rfl) l0 ?_
      obtain ⟨v4, e5, h⟩ := bind_so h
      refine ev_get_r (mm 7 rfl) rfl e5 ?_
      refine ev_aload_nR (mm 8 rfl) l0 ?_
      obtain ⟨v6, e7, h⟩ := bind_so h
      refine ev_get_i (mm 9 rfl) rfl e7 ?_
      refine ev_iload_n (mm 10 rfl) l1 ?_
      obtain ⟨q8, e9, h⟩ := bind_so h
      rw [e9]
      obtain ⟨M10, e11, h⟩ := bind_so h
      refine ev_iastore (mm 11 rfl) e11 ?_
      refine ev_aload_nR (mm 12 rfl) l0 ?_
      obtain ⟨v12, e13, h⟩ := bind_so h
      refine ev_get_r (mm 13 rfl) rfl e13 ?_
      refine ev_aload_nR (mm 14 rfl) l0 ?_
      obtain ⟨v14, e15, h⟩ := bind_so h
      refine ev_get_i (mm 15 rfl) rfl e15 ?_
      refine ev_iload_n (mm 16 rfl) l2 ?_
      obtain ⟨q16, e17, h⟩ := bind_so h
      rw [e17]
      obtain ⟨M18, e19, h⟩ := bind_so h
      refine ev_iastore (mm 17 rfl) e19 ?_
      refine ev_aload_nR (mm 18 rfl) l0 ?_
      obtain ⟨v20, e21, h⟩ := bind_so h
      refine ev_get_r (mm 19 rfl) rfl e21 ?_
      refine ev_aload_nR (mm 20 rfl) l0 ?_
      obtain ⟨v22, e23, h⟩ := bind_so h
      refine ev_get_i (mm 21 rfl) rfl e23 ?_
      refine ev_iload_n (mm 22 rfl) l3 ?_
      obtain ⟨q24, e25, h⟩ := bind_so h
      rw [e25]
      obtain ⟨M26, e27, h⟩ := bind_so h
      refine ev_iastore (mm 23 rfl) e27 ?_
      refine ev_aload_nR (mm 24 rfl) l0 ?_
      obtain ⟨v28, e29, h⟩ := bind_so h
      refine ev_get_r (mm 25 rfl) rfl e29 ?_
      refine ev_aload_nR (mm 26 rfl) l0 ?_
      obtain ⟨v30, e31, h⟩ := bind_so h
      refine ev_get_i (mm 27 rfl) rfl e31 ?_
      refine ev_aload_nR (mm 28 rfl) l0 ?_
      obtain ⟨v32, e33, h⟩ := bind_so h
      refine ev_get_i (mm 29 rfl) rfl e33 ?_
      obtain ⟨q34, e35, h⟩ := bind_so h
      rw [e35]
      obtain ⟨M36, e37, h⟩ := bind_so h
      refine ev_iastore (mm 30 rfl) e37 ?_
      refine ev_aload_nR (mm 31 rfl) l0 ?_
      obtain ⟨v38, e39, h⟩ := bind_so h
      refine ev_get_r (mm 32 rfl) rfl e39 ?_
      refine ev_aload_nR (mm 33 rfl) l0 ?_
      obtain ⟨v40, e41, h⟩ := bind_so h
      refine ev_get_i (mm 34 rfl) rfl e41 ?_
      refine ev_bipush (mm 35 rfl) cB_10 ?_
      obtain ⟨q42, e43, h⟩ := bind_so h
      rw [e43]
      obtain ⟨M44, e45, h⟩ := bind_so h
      refine ev_iastore (mm 36 rfl) e45 ?_
      refine ev_aload_nR (mm 37 rfl) l0 ?_
      refine ev_dupR (mm 38 rfl) ?_
      obtain ⟨v46, e47, h⟩ := bind_so h
      refine ev_get_i (mm 39 rfl) rfl e47 ?_
      refine ev_dup_x1 (mm 40 rfl) rfl rfl ?_
      refine ev_iconst (mm 41 rfl) cI_1 ?_
      refine ev_iadd (mm 42 rfl) ?_
      obtain ⟨M48, e49, h⟩ := bind_so h
      refine ev_put_i (mm 43 rfl) (fun z => by cases z) rfl e49 ?_
      exact ev_ireturn (mm 44 rfl) h
    · refine ev_ic_f 11 (mm 3 rfl) rfl c3 ?_
      refine ev_iconst (mm 4 rfl) cI_m1 ?_
      exact ev_ireturn (mm 5 rfl) h
  exact ⟨by decide, Nat.le_of_ble_eq_true rfl, key.1, key.2⟩
/-- PupilCoin$Land.isOpen(II)Z -/
def f2 (x0 : Nat) (x1 : Int32) (x2 : Int32) (M : vm_M) : Option (Int32 × vm_M) :=
  (sg_i M x0 0 7).bind fun v1 =>
  if v1 ≤ x1 then
    s_rb 0 M
  else
    (sg_r M x0 0 4).bind fun v4 =>
    (v4).bind fun q6 =>
    (sa_i M q6 0 x1).bind fun v8 =>
    if v8 ≤ x2 then
      s_rb 0 M
    else
      s_rb 1 M
theorem f2_ok {x0 : Nat} {x1 : Int32} {x2 : Int32} {M : vm_M} {r : Int32 × vm_M} (h : f2 x0 x1 x2 M = some r) (d : Nat) : vm_Cl (d + 1) 2 [.ref (x0), .int (x1), .int (x2)] M (rI r) := by
  have key : Ev 0 (fun _ => 0) (vm_Cl (d + 0)) vp_2 0 3 false (some (.boolean)) (rI r) 0 (lv_args 0 [.ref (x0), .int (x1), .int (x2)]) [] M := by
    have l0 : (0, .ref (x0)) ∈ lv_args 0 [.ref (x0), .int (x1), .int (x2)] := List.Mem.head _
    have l1 : (1, .int (x1)) ∈ lv_args 0 [.ref (x0), .int (x1), .int (x2)] := List.Mem.tail _ (List.Mem.head _)
    have l2 : (2, .int (x2)) ∈ lv_args 0 [.ref (x0), .int (x1), .int (x2)] := List.Mem.tail _ (List.Mem.tail _ (List.Mem.head _))
    unfold f2 at h
    refine ev_iload_n (mm 0 rfl) l1 ?_
    refine ev_aload_nR (mm 1 rfl) l0 ?_
    obtain ⟨v1, e2, h⟩ := bind_so h
    refine ev_get_i (mm 2 rfl) rfl e2 ?_
    rcases ite_so h with ⟨c3, h⟩ | ⟨c3, h⟩
    · refine ev_ic_t 22 (mm 3 rfl) rfl c3 ?_
      refine ev_iconst (mm 12 rfl) cI_0 ?_
      exact ev_zreturn (mm 13 rfl) h
    · refine ev_ic_f 22 (mm 3 rfl) rfl c3 ?_
      refine ev_iload_n (mm 4 rfl) l2 ?_
      refine ev_aload_nR (mm 5 rfl) l0 ?_
      obtain ⟨v4, e5, h⟩ := bind_so h
      refine ev_get_r (mm 6 rfl) rfl e5 ?_
      refine ev_iload_n (mm 7 rfl) l1 ?_
      obtain ⟨q6, e7, h⟩ := bind_so h
      rw [e7]
      obtain ⟨v8, e9, h⟩ := bind_so h
      refine ev_iaload (mm 8 rfl) e9 ?_
      rcases ite_so h with ⟨c10, h⟩ | ⟨c10, h⟩
      · refine ev_ic_t 22 (mm 9 rfl) rfl c10 ?_
        refine ev_iconst (mm 12 rfl) cI_0 ?_
        exact ev_zreturn (mm 13 rfl) h
      · refine ev_ic_f 22 (mm 9 rfl) rfl c10 ?_
        refine ev_iconst (mm 10 rfl) cI_1 ?_
        refine ev_goto 23 (mm 11 rfl) rfl ?_
        exact ev_zreturn (mm 13 rfl) h
  exact ⟨by decide, Nat.le_of_ble_eq_true rfl, key.1, key.2⟩
/-- PupilCoin$Land.isTaken(I)Z -/
def f3 (x0 : Nat) (x1 : Int32) (M : vm_M) : Option (Int32 × vm_M) :=
  (sg_r M x0 0 4).bind fun v1 =>
  (v1).bind fun q3 =>
  (sa_i M q3 0 x1).bind fun v5 =>
  if 10 ≤ v5 then
    s_rb 0 M
  else
    s_rb 1 M
theorem f3_ok {x0 : Nat} {x1 : Int32} {M : vm_M} {r : Int32 × vm_M} (h : f3 x0 x1 M = some r) (d : Nat) : vm_Cl (d + 1) 3 [.ref (x0), .int (x1)] M (rI r) := by
  have key : Ev 0 (fun _ => 0) (vm_Cl (d + 0)) vp_3 0 2 false (some (.boolean)) (rI r) 0 (lv_args 0 [.ref (x0), .int (x1)]) [] M := by
    have l0 : (0, .ref (x0)) ∈ lv_args 0 [.ref (x0), .int (x1)] := List.Mem.head _
    have l1 : (1, .int (x1)) ∈ lv_args 0 [.ref (x0), .int (x1)] := List.Mem.tail _ (List.Mem.head _)
    unfold f3 at h
    refine ev_aload_nR (mm 0 rfl) l0 ?_
    obtain ⟨v1, e2, h⟩ := bind_so h
    refine ev_get_r (mm 1 rfl) rfl e2 ?_
    refine ev_iload_n (mm 2 rfl) l1 ?_
    obtain ⟨q3, e4, h⟩ := bind_so h
    rw [e4]
    obtain ⟨v5, e6, h⟩ := bind_so h
    refine ev_iaload (mm 3 rfl) e6 ?_
    refine ev_bipush (mm 4 rfl) cB_10 ?_
    rcases ite_so h with ⟨c7, h⟩ | ⟨c7, h⟩
    · refine ev_ic_t 15 (mm 5 rfl) rfl c7 ?_
      refine ev_iconst (mm 8 rfl) cI_0 ?_
      exact ev_zreturn (mm 9 rfl) h
    · refine ev_ic_f 15 (mm 5 rfl) rfl c7 ?_
      refine ev_iconst (mm 6 rfl) cI_1 ?_
      refine ev_goto 16 (mm 7 rfl) rfl ?_
      exact ev_zreturn (mm 9 rfl) h
  exact ⟨by decide, Nat.le_of_ble_eq_true rfl, key.1, key.2⟩
/-- PupilCoin$Land.take(III)I -/
def f4 (x0 : Nat) (x1 : Int32) (x2 : Int32) (x3 : Int32) (M : vm_M) : Option (Int32 × vm_M) :=
  (sg_r M x0 0 3).bind fun v1 =>
  (v1).bind fun q3 =>
  (ss_i M q3 0 x2 x1).bind fun M5 =>
  (sg_r M5 x0 0 4).bind fun v7 =>
  (v7).bind fun q9 =>
  (ss_i M5 q9 0 x2 x3).bind fun M11 =>
  (sg_i M11 x0 0 8).bind fun v13 =>
  (sp_i M11 x0 0 8 (v13 + 1)).bind fun M15 =>
  (sg_i M15 x0 0 8).bind fun v17 =>
  some (v17, M15)
theorem f4_ok {x0 : Nat} {x1 : Int32} {x2 : Int32} {x3 : Int32} {M : vm_M} {r : Int32 × vm_M} (h : f4 x0 x1 x2 x3 M = some r) (d : Nat) : vm_Cl (d + 1) 4 [.ref (x0), .int (x1), .int (x2), .int (x3)] M (rI r) := by
  have key : Ev 0 (fun _ => 0) (vm_Cl (d + 0)) vp_4 0 4 false (some (.int)) (rI r) 0 (lv_args 0 [.ref (x0), .int (x1), .int (x2), .int (x3)]) [] M := by
    have l0 : (0, .ref (x0)) ∈ lv_args 0 [.ref (x0), .int (x1), .int (x2), .int (x3)] := List.Mem.head _
    have l1 : (1, .int (x1)) ∈ lv_args 0 [.ref (x0), .int (x1), .int (x2), .int (x3)] := List.Mem.tail _ (List.Mem.head _)
    have l2 : (2, .int (x2)) ∈ lv_args 0 [.ref (x0), .int (x1), .int (x2), .int (x3)] := List.Mem.tail _ (List.Mem.tail _ (List.Mem.head _))
    have l3 : (3, .int (x3)) ∈ lv_args 0 [.ref (x0), .int (x1), .int (x2), .int (x3)] := List.Mem.tail _ (List.Mem.tail _ (List.Mem.tail _ (List.Mem.head _)))
    unfold f4 at h
    refine ev_aload_nR (mm 0 rfl) l0 ?_
    obtain ⟨v1, e2, h⟩ := bind_so h
    refine ev_get_r (mm 1 rfl) rfl e2 ?_
    refine ev_iload_n (mm 2 rfl) l2 ?_
    refine ev_iload_n (mm 3 rfl) l1 ?_
    obtain ⟨q3, e4, h⟩ := bind_so h
    rw [e4]
    obtain ⟨M5, e6, h⟩ := bind_so h
    refine ev_iastore (mm 4 rfl) e6 ?_
    refine ev_aload_nR (mm 5 rfl) l0 ?_
    obtain ⟨v7, e8, h⟩ := bind_so h
    refine ev_get_r (mm 6 rfl) rfl e8 ?_
    refine ev_iload_n (mm 7 rfl) l2 ?_
    refine ev_iload_n (mm 8 rfl) l3 ?_
    obtain ⟨q9, e10, h⟩ := bind_so h
    rw [e10]
    obtain ⟨M11, e12, h⟩ := bind_so h
    refine ev_iastore (mm 9 rfl) e12 ?_
    refine ev_aload_nR (mm 10 rfl) l0 ?_
    refine ev_dupR (mm 11 rfl) ?_
    obtain ⟨v13, e14, h⟩ := bind_so h
    refine ev_get_i (mm 12 rfl) rfl e14 ?_
    refine ev_iconst (mm 13 rfl) cI_1 ?_
    refine ev_iadd (mm 14 rfl) ?_
    obtain ⟨M15, e16, h⟩ := bind_so h
    refine ev_put_i (mm 15 rfl) (fun z => by cases z) rfl e16 ?_
    refine ev_aload_nR (mm 16 rfl) l0 ?_
    obtain ⟨v17, e18, h⟩ := bind_so h
    refine ev_get_i (mm 17 rfl) rfl e18 ?_
    exact ev_ireturn (mm 18 rfl) h
  exact ⟨by decide, Nat.le_of_ble_eq_true rfl, key.1, key.2⟩
def f5_l5 (x0 : Nat) (x2 : Int32) : Nat → Int32 → Int32 → vm_M → Option (Int32 × vm_M)
  | 0 => fun _ _ _ => none
  | n + 1 => fun x3 x4 M =>
    if 12 ≤ x4 then
      some (x3, M)
    else
      (sg_r M x0 0 4).bind fun v6 =>
      (v6).bind fun q8 =>
      (sa_i M q8 0 x3).bind fun v10 =>
      if x2 < v10 then
        some (x3, M)
      else
        (sg_r M x0 0 3).bind fun v13 =>
        (v13).bind fun q15 =>
        (sa_i M q15 0 x3).bind fun v17 =>
        f5_l5 x0 x2 n v17 (x4 + 1) M
theorem f5_l5_ok {d : Nat} {x0 : Nat} {x2 : Int32} {r : Int32 × vm_M} : ∀ (n : Nat) {x3 : Int32} {x4 : Int32} {M : vm_M} {lv : vm_L}, (0, .ref (x0)) ∈ lv → (2, .int (x2)) ∈ lv → (3, .int (x3)) ∈ lv → (4, .int (x4)) ∈ lv → f5_l5 x0 x2 n x3 x4 M = some r → Ev 0 (fun _ => 0) (vm_Cl (d + 0)) vp_5 0 5 false (some (.int)) (rI r) 5 lv [] M := by
  intro n
  induction n with
  | zero =>
    intro x3 x4 M lv l0 l2 l3 l4 h
    cases h
  | succ n ih =>
    intro x3 x4 M lv l0 l2 l3 l4 h
    dsimp only [f5_l5] at h
    refine ev_iload (mm 4 rfl) l4 ?_
    refine ev_bipush (mm 5 rfl) cB_12 ?_
    rcases ite_so h with ⟨c5, h⟩ | ⟨c5, h⟩
    · refine ev_ic_t 35 (mm 6 rfl) rfl c5 ?_
      refine ev_iload_n (mm 20 rfl) l3 ?_
      exact ev_ireturn (mm 21 rfl) h
    · refine ev_ic_f 35 (mm 6 rfl) rfl c5 ?_
      refine ev_iload_n (mm 7 rfl) l2 ?_
      refine ev_aload_nR (mm 8 rfl) l0 ?_
      obtain ⟨v6, e7, h⟩ := bind_so h
      refine ev_get_r (mm 9 rfl) rfl e7 ?_
      refine ev_iload_n (mm 10 rfl) l3 ?_
      obtain ⟨q8, e9, h⟩ := bind_so h
      rw [e9]
      obtain ⟨v10, e11, h⟩ := bind_so h
      refine ev_iaload (mm 11 rfl) e11 ?_
      rcases ite_so h with ⟨c12, h⟩ | ⟨c12, h⟩
      · refine ev_ic_t 35 (mm 12 rfl) rfl c12 ?_
        refine ev_iload_n (mm 20 rfl) l3 ?_
        exact ev_ireturn (mm 21 rfl) h
      · refine ev_ic_f 35 (mm 12 rfl) rfl c12 ?_
        refine ev_aload_nR (mm 13 rfl) l0 ?_
        obtain ⟨v13, e14, h⟩ := bind_so h
        refine ev_get_r (mm 14 rfl) rfl e14 ?_
        refine ev_iload_n (mm 15 rfl) l3 ?_
        obtain ⟨q15, e16, h⟩ := bind_so h
        rw [e16]
        obtain ⟨v17, e18, h⟩ := bind_so h
        refine ev_iaload (mm 16 rfl) e18 ?_
        refine evs_istore_n (mm 17 rfl) (by decide) (fun lv19 l3 s20 => ?_)
        have l0 := s20 _ _ l0 rfl
        have l2 := s20 _ _ l2 rfl
        have l4 := s20 _ _ l4 rfl
        refine evs_iinc (mm 18 rfl) cI_1 l4 (by decide) (fun lv21 l4 s22 => ?_)
        have l0 := s22 _ _ l0 rfl
        have l2 := s22 _ _ l2 rfl
        have l3 := s22 _ _ l3 rfl
        refine ev_goto 5 (mm 19 rfl) rfl ?_
        exact ih l0 l2 l3 l4 h
/-- PupilCoin$Land.holder(II)I -/
def f5 (x0 : Nat) (x1 : Int32) (x2 : Int32) (M : vm_M) : Option (Int32 × vm_M) :=
  f5_l5 x0 x2
  
    100000 x1 0 M
theorem f5_ok {x0 : Nat} {x1 : Int32} {x2 : Int32} {M : vm_M} {r : Int32 × vm_M} (h : f5 x0 x1 x2 M = some r) (d : Nat) : vm_Cl (d + 1) 5 [.ref (x0), .int (x1), .int (x2)] M (rI r) := by
  have key : Ev 0 (fun _ => 0) (vm_Cl (d + 0)) vp_5 0 5 false (some (.int)) (rI r) 0 (lv_args 0 [.ref (x0), .int (x1), .int (x2)]) [] M := by
    have l0 : (0, .ref (x0)) ∈ lv_args 0 [.ref (x0), .int (x1), .int (x2)] := List.Mem.head _
    have l1 : (1, .int (x1)) ∈ lv_args 0 [.ref (x0), .int (x1), .int (x2)] := List.Mem.tail _ (List.Mem.head _)
    have l2 : (2, .int (x2)) ∈ lv_args 0 [.ref (x0), .int (x1), .int (x2)] := List.Mem.tail _ (List.Mem.tail _ (List.Mem.head _))
    unfold f5 at h
    refine ev_iload_n (mm 0 rfl) l1 ?_
    refine evs_istore_n (mm 1 rfl) (by decide) (fun lv1 l3 s2 => ?_)
    have l0 := s2 _ _ l0 rfl
    have l2 := s2 _ _ l2 rfl
    refine ev_iconst (mm 2 rfl) cI_0 ?_
    refine evs_istore (mm 3 rfl) (by decide) (fun lv3 l4 s4 => ?_)
    have l0 := s4 _ _ l0 rfl
    have l2 := s4 _ _ l2 rfl
    have l3 := s4 _ _ l3 rfl
    refine f5_l5_ok 100000 l0 l2 l3 l4 h
  exact ⟨by decide, Nat.le_of_ble_eq_true rfl, key.1, key.2⟩
def f6_l4 (x0 : Nat) (x1 : Int32) : Nat → Int32 → Int32 → vm_M → Option (Int32 × vm_M)
  | 0 => fun _ _ _ => none
  | n + 1 => fun x2 x3 M =>
    (sg_i M x0 0 7).bind fun v5 =>
    if v5 ≤ x3 then
      some (x2, M)
    else
      (s_ob M x0 0).bind fun _ =>
      (f2 x0 x3 x1 M).bind fun p8 =>
      if p8.1 = 0 then
        f6_l4 x0 x1 n x2 (x3 + 1) p8.2
      else
        f6_l4 x0 x1 n (x2 + 1) (x3 + 1) p8.2
theorem f6_l4_ok {d : Nat} {x0 : Nat} {x1 : Int32} {r : Int32 × vm_M} : ∀ (n : Nat) {x2 : Int32} {x3 : Int32} {M : vm_M} {lv : vm_L}, (0, .ref (x0)) ∈ lv → (1, .int (x1)) ∈ lv → (2, .int (x2)) ∈ lv → (3, .int (x3)) ∈ lv → f6_l4 x0 x1 n x2 x3 M = some r → Ev 0 (fun _ => 0) (vm_Cl (d + 1)) vp_6 0 4 false (some (.int)) (rI r) 4 lv [] M := by
  intro n
  induction n with
  | zero =>
    intro x2 x3 M lv l0 l1 l2 l3 h
    cases h
  | succ n ih =>
    intro x2 x3 M lv l0 l1 l2 l3 h
    dsimp only [f6_l4] at h
    refine ev_iload_n (mm 4 rfl) l3 ?_
    refine ev_aload_nR (mm 5 rfl) l0 ?_
    obtain ⟨v5, e6, h⟩ := bind_so h
    refine ev_get_i (mm 6 rfl) rfl e6 ?_
    rcases ite_so h with ⟨c7, h⟩ | ⟨c7, h⟩
    · refine ev_ic_t 30 (mm 7 rfl) rfl c7 ?_
      refine ev_iload_n (mm 16 rfl) l2 ?_
      exact ev_ireturn (mm 17 rfl) h
    · refine ev_ic_f 30 (mm 7 rfl) rfl c7 ?_
      refine ev_aload_nR (mm 8 rfl) l0 ?_
      refine ev_iload_n (mm 9 rfl) l3 ?_
      refine ev_iload_n (mm 10 rfl) l1 ?_
      obtain ⟨_, e17, h⟩ := bind_so h
      obtain ⟨p8, e9, h⟩ := bind_so h
      refine ev_callV_I [.int (x3), .int (x1)] (mm 11 rfl) rfl rfl (Nat.le_of_ble_eq_true rfl) (s_ob_of e17) (f2_ok e9 (d + 0)) ?_
      rcases ite_so h with ⟨c10, h⟩ | ⟨c10, h⟩
      · refine ev_if_t 24 (mm 12 rfl) rfl c10 ?_
        refine evs_iinc (mm 14 rfl) cI_1 l3 (by decide) (fun lv11 l3 s12 => ?_)
        have l0 := s12 _ _ l0 rfl
        have l1 := s12 _ _ l1 rfl
        have l2 := s12 _ _ l2 rfl
        refine ev_goto 4 (mm 15 rfl) rfl ?_
        exact ih l0 l1 l2 l3 h
      · refine ev_if_f 24 (mm 12 rfl) rfl c10 ?_
        refine evs_iinc (mm 13 rfl) cI_1 l2 (by decide) (fun lv13 l2 s14 => ?_)
        have l0 := s14 _ _ l0 rfl
        have l1 := s14 _ _ l1 rfl
        have l3 := s14 _ _ l3 rfl
        refine evs_iinc (mm 14 rfl) cI_1 l3 (by decide) (fun lv15 l3 s16 => ?_)
        have l0 := s16 _ _ l0 rfl
        have l1 := s16 _ _ l1 rfl
        have l2 := s16 _ _ l2 rfl
        refine ev_goto 4 (mm 15 rfl) rfl ?_
        exact ih l0 l1 l2 l3 h
/-- PupilCoin$Land.openCount(I)I -/
def f6 (x0 : Nat) (x1 : Int32) (M : vm_M) : Option (Int32 × vm_M) :=
  f6_l4 x0 x1
  
    100000 0 0 M
theorem f6_ok {x0 : Nat} {x1 : Int32} {M : vm_M} {r : Int32 × vm_M} (h : f6 x0 x1 M = some r) (d : Nat) : vm_Cl (d + 2) 6 [.ref (x0), .int (x1)] M (rI r) := by
  have key : Ev 0 (fun _ => 0) (vm_Cl (d + 1)) vp_6 0 4 false (some (.int)) (rI r) 0 (lv_args 0 [.ref (x0), .int (x1)]) [] M := by
    have l0 : (0, .ref (x0)) ∈ lv_args 0 [.ref (x0), .int (x1)] := List.Mem.head _
    have l1 : (1, .int (x1)) ∈ lv_args 0 [.ref (x0), .int (x1)] := List.Mem.tail _ (List.Mem.head _)
    unfold f6 at h
    refine ev_iconst (mm 0 rfl) cI_0 ?_
    refine evs_istore_n (mm 1 rfl) (by decide) (fun lv1 l2 s2 => ?_)
    have l0 := s2 _ _ l0 rfl
    have l1 := s2 _ _ l1 rfl
    refine ev_iconst (mm 2 rfl) cI_0 ?_
    refine evs_istore_n (mm 3 rfl) (by decide) (fun lv3 l3 s4 => ?_)
    have l0 := s4 _ _ l0 rfl
    have l1 := s4 _ _ l1 rfl
    have l2 := s4 _ _ l2 rfl
    refine f6_l4_ok 100000 l0 l1 l2 l3 h
  exact ⟨by decide, Nat.le_of_ble_eq_true rfl, key.1, key.2⟩
def f53_l2 (x0 : Nat) (k41 : vm_M → Option (vm_M)) : Nat → Int32 → vm_M → Option (vm_M)
  | 0 => fun _ _ => none
  | n + 1 => fun x1 M =>
    if 256 ≤ x1 then
      k41 M
    else
      (sg_r M x0 7 1).bind fun v4 =>
      (sg_r M x0 7 0).bind fun v6 =>
      (v6).bind fun q8 =>
      (sa_i M q8 0 x1).bind fun v10 =>
      if v10 ≤ 0 then
        (v4).bind fun q13 =>
        (ss_i M q13 0 x1 1000000).bind fun M15 =>
        f53_l2 x0 k41 n (x1 + 1) M15
      else
        (sg_r M x0 7 0).bind fun v19 =>
        (v19).bind fun q21 =>
        (sa_i M q21 0 x1).bind fun v23 =>
        (v4).bind fun q25 =>
        (ss_i M q25 0 x1 v23).bind fun M27 =>
        f53_l2 x0 k41 n (x1 + 1) M27
theorem f53_l2_ok {d : Nat} {x0 : Nat} {k41 : vm_M → Option (vm_M)} {r : vm_M} (hk41 : ∀ {M : vm_M} {lv : vm_L}, (0, .ref (x0)) ∈ lv → k41 M = some r → Ev 0 (fun _ => 0) (vm_Cl (d + 0)) vp_53 7 5 false none (rV r) 41 lv [] M) : ∀ (n : Nat) {x1 : Int32} {M : vm_M} {lv : vm_L}, (0, .ref (x0)) ∈ lv → (1, .int (x1)) ∈ lv → f53_l2 x0 k41 n x1 M = some r → Ev 0 (fun _ => 0) (vm_Cl (d + 0)) vp_53 7 5 false none (rV r) 2 lv [] M := by
  intro n
  induction n with
  | zero =>
    intro x1 M lv l0 l1 h
    cases h
  | succ n ih =>
    intro x1 M lv l0 l1 h
    dsimp only [f53_l2] at h
    refine ev_iload_n (mm 2 rfl) l1 ?_
    refine ev_sipush (mm 3 rfl) cS_256 ?_
    rcases ite_so h with ⟨c3, h⟩ | ⟨c3, h⟩
    · refine ev_ic_t 41 (mm 4 rfl) rfl c3 ?_
      exact hk41 l0 h
    · refine ev_ic_f 41 (mm 4 rfl) rfl c3 ?_
      refine ev_aload_nR (mm 5 rfl) l0 ?_
      obtain ⟨v4, e5, h⟩ := bind_so h
      refine ev_get_r (mm 6 rfl) rfl e5 ?_
      refine ev_iload_n (mm 7 rfl) l1 ?_
      refine ev_aload_nR (mm 8 rfl) l0 ?_
      obtain ⟨v6, e7, h⟩ := bind_so h
      refine ev_get_r (mm 9 rfl) rfl e7 ?_
      refine ev_iload_n (mm 10 rfl) l1 ?_
      obtain ⟨q8, e9, h⟩ := bind_so h
      rw [e9]
      obtain ⟨v10, e11, h⟩ := bind_so h
      refine ev_iaload (mm 11 rfl) e11 ?_
      rcases ite_so h with ⟨c12, h⟩ | ⟨c12, h⟩
      · refine ev_if_t 32 (mm 12 rfl) rfl c12 ?_
        refine ev_ldc (mm 18 rfl) cI_1000000 ?_
        obtain ⟨q13, e14, h⟩ := bind_so h
        rw [e14]
        obtain ⟨M15, e16, h⟩ := bind_so h
        refine ev_iastore (mm 19 rfl) e16 ?_
        refine evs_iinc (mm 20 rfl) cI_1 l1 (by decide) (fun lv17 l1 s18 => ?_)
        have l0 := s18 _ _ l0 rfl
        refine ev_goto 2 (mm 21 rfl) rfl ?_
        exact ih l0 l1 h
      · refine ev_if_f 32 (mm 12 rfl) rfl c12 ?_
        refine ev_aload_nR (mm 13 rfl) l0 ?_
        obtain ⟨v19, e20, h⟩ := bind_so h
        refine ev_get_r (mm 14 rfl) rfl e20 ?_
        refine ev_iload_n (mm 15 rfl) l1 ?_
        obtain ⟨q21, e22, h⟩ := bind_so h
        rw [e22]
        obtain ⟨v23, e24, h⟩ := bind_so h
        refine ev_iaload (mm 16 rfl) e24 ?_
        refine ev_goto 34 (mm 17 rfl) rfl ?_
        obtain ⟨q25, e26, h⟩ := bind_so h
        rw [e26]
        obtain ⟨M27, e28, h⟩ := bind_so h
        refine ev_iastore (mm 19 rfl) e28 ?_
        refine evs_iinc (mm 20 rfl) cI_1 l1 (by decide) (fun lv29 l1 s30 => ?_)
        have l0 := s30 _ _ l0 rfl
        refine ev_goto 2 (mm 21 rfl) rfl ?_
        exact ih l0 l1 h
def f53_l43 (x0 : Nat) (k67 : vm_M → Option (vm_M)) : Nat → Int32 → vm_M → Option (vm_M)
  | 0 => fun _ _ => none
  | n + 1 => fun x1 M =>
    if 16 ≤ x1 then
      k67 M
    else
      (sg_r M x0 7 1).bind fun v35 =>
      (v35).bind fun q37 =>
      (ss_i M q37 0 ((x1 * 16) + x1) 0).bind fun M39 =>
      f53_l43 x0 k67 n (x1 + 1) M39
theorem f53_l43_ok {d : Nat} {x0 : Nat} {k67 : vm_M → Option (vm_M)} {r : vm_M} (hk67 : ∀ {M : vm_M} {lv : vm_L}, (0, .ref (x0)) ∈ lv → k67 M = some r → Ev 0 (fun _ => 0) (vm_Cl (d + 0)) vp_53 7 5 false none (rV r) 67 lv [] M) : ∀ (n : Nat) {x1 : Int32} {M : vm_M} {lv : vm_L}, (0, .ref (x0)) ∈ lv → (1, .int (x1)) ∈ lv → f53_l43 x0 k67 n x1 M = some r → Ev 0 (fun _ => 0) (vm_Cl (d + 0)) vp_53 7 5 false none (rV r) 43 lv [] M := by
  intro n
  induction n with
  | zero =>
    intro x1 M lv l0 l1 h
    cases h
  | succ n ih =>
    intro x1 M lv l0 l1 h
    dsimp only [f53_l43] at h
    refine ev_iload_n (mm 24 rfl) l1 ?_
    refine ev_bipush (mm 25 rfl) cB_16 ?_
    rcases ite_so h with ⟨c34, h⟩ | ⟨c34, h⟩
    · refine ev_ic_t 67 (mm 26 rfl) rfl c34 ?_
      exact hk67 l0 h
    · refine ev_ic_f 67 (mm 26 rfl) rfl c34 ?_
      refine ev_aload_nR (mm 27 rfl) l0 ?_
      obtain ⟨v35, e36, h⟩ := bind_so h
      refine ev_get_r (mm 28 rfl) rfl e36 ?_
      refine ev_iload_n (mm 29 rfl) l1 ?_
      refine ev_bipush (mm 30 rfl) cB_16 ?_
      refine ev_imul (mm 31 rfl) ?_
      refine ev_iload_n (mm 32 rfl) l1 ?_
      refine ev_iadd (mm 33 rfl) ?_
      refine ev_iconst (mm 34 rfl) cI_0 ?_
      obtain ⟨q37, e38, h⟩ := bind_so h
      rw [e38]
      obtain ⟨M39, e40, h⟩ := bind_so h
      refine ev_iastore (mm 35 rfl) e40 ?_
      refine evs_iinc (mm 36 rfl) cI_1 l1 (by decide) (fun lv41 l1 s42 => ?_)
      have l0 := s42 _ _ l0 rfl
      refine ev_goto 43 (mm 37 rfl) rfl ?_
      exact ih l0 l1 h
def f53_l85 (x0 : Nat) (x1 : Int32) (x2 : Int32) (k149 : vm_M → Option (vm_M)) : Nat → Int32 → vm_M → Option (vm_M)
  | 0 => fun _ _ => none
  | n + 1 => fun x3 M =>
    if 16 ≤ x3 then
      k149 M
    else
      (sg_r M x0 7 1).bind fun v55 =>
      (v55).bind fun q57 =>
      (sa_i M q57 0 ((x2 * 16) + x1)).bind fun v59 =>
      (sg_r M x0 7 1).bind fun v61 =>
      (v61).bind fun q63 =>
      (sa_i M q63 0 ((x1 * 16) + x3)).bind fun v65 =>
      (sg_r M x0 7 1).bind fun v69 =>
      (sg_r M x0 7 1).bind fun v71 =>
      (v71).bind fun q73 =>
      (sa_i M q73 0 ((x2 * 16) + x3)).bind fun v75 =>
      (v69).bind fun q77 =>
      (ss_i M q77 0 ((x2 * 16) + x3) (s_mnI v75 (v59 + v65))).bind fun M79 =>
      f53_l85 x0 x1 x2 k149 n (x3 + 1) M79
theorem f53_l85_ok {d : Nat} {x0 : Nat} {x1 : Int32} {x2 : Int32} {k149 : vm_M → Option (vm_M)} {r : vm_M} (hk149 : ∀ {M : vm_M} {lv : vm_L}, (0, .ref (x0)) ∈ lv → (1, .int (x1)) ∈ lv → (2, .int (x2)) ∈ lv → k149 M = some r → Ev 0 (fun _ => 0) (vm_Cl (d + 0)) vp_53 7 5 false none (rV r) 149 lv [] M) : ∀ (n : Nat) {x3 : Int32} {M : vm_M} {lv : vm_L}, (0, .ref (x0)) ∈ lv → (1, .int (x1)) ∈ lv → (2, .int (x2)) ∈ lv → (3, .int (x3)) ∈ lv → f53_l85 x0 x1 x2 k149 n x3 M = some r → Ev 0 (fun _ => 0) (vm_Cl (d + 0)) vp_53 7 5 false none (rV r) 85 lv [] M := by
  intro n
  induction n with
  | zero =>
    intro x3 M lv l0 l1 l2 l3 h
    cases h
  | succ n ih =>
    intro x3 M lv l0 l1 l2 l3 h
    dsimp only [f53_l85] at h
    refine ev_iload_n (mm 50 rfl) l3 ?_
    refine ev_bipush (mm 51 rfl) cB_16 ?_
    rcases ite_so h with ⟨c54, h⟩ | ⟨c54, h⟩
    · refine ev_ic_t 149 (mm 52 rfl) rfl c54 ?_
      exact hk149 l0 l1 l2 h
    · refine ev_ic_f 149 (mm 52 rfl) rfl c54 ?_
      refine ev_aload_nR (mm 53 rfl) l0 ?_
      obtain ⟨v55, e56, h⟩ := bind_so h
      refine ev_get_r (mm 54 rfl) rfl e56 ?_
      refine ev_iload_n (mm 55 rfl) l2 ?_
      refine ev_bipush (mm 56 rfl) cB_16 ?_
      refine ev_imul (mm 57 rfl) ?_
      refine ev_iload_n (mm 58 rfl) l1 ?_
      refine ev_iadd (mm 59 rfl) ?_
      obtain ⟨q57, e58, h⟩ := bind_so h
      rw [e58]
      obtain ⟨v59, e60, h⟩ := bind_so h
      refine ev_iaload (mm 60 rfl) e60 ?_
      refine ev_aload_nR (mm 61 rfl) l0 ?_
      obtain ⟨v61, e62, h⟩ := bind_so h
      refine ev_get_r (mm 62 rfl) rfl e62 ?_
      refine ev_iload_n (mm 63 rfl) l1 ?_
      refine ev_bipush (mm 64 rfl) cB_16 ?_
      refine ev_imul (mm 65 rfl) ?_
      refine ev_iload_n (mm 66 rfl) l3 ?_
      refine ev_iadd (mm 67 rfl) ?_
      obtain ⟨q63, e64, h⟩ := bind_so h
      rw [e64]
      obtain ⟨v65, e66, h⟩ := bind_so h
      refine ev_iaload (mm 68 rfl) e66 ?_
      refine ev_iadd (mm 69 rfl) ?_
      refine evs_istore (mm 70 rfl) (by decide) (fun lv67 l4 s68 => ?_)
      have l0 := s68 _ _ l0 rfl
      have l1 := s68 _ _ l1 rfl
      have l2 := s68 _ _ l2 rfl
      have l3 := s68 _ _ l3 rfl
      refine ev_aload_nR (mm 71 rfl) l0 ?_
      obtain ⟨v69, e70, h⟩ := bind_so h
      refine ev_get_r (mm 72 rfl) rfl e70 ?_
      refine ev_iload_n (mm 73 rfl) l2 ?_
      refine ev_bipush (mm 74 rfl) cB_16 ?_
      refine ev_imul (mm 75 rfl) ?_
      refine ev_iload_n (mm 76 rfl) l3 ?_
      refine ev_iadd (mm 77 rfl) ?_
      refine ev_aload_nR (mm 78 rfl) l0 ?_
      obtain ⟨v71, e72, h⟩ := bind_so h
      refine ev_get_r (mm 79 rfl) rfl e72 ?_
      refine ev_iload_n (mm 80 rfl) l2 ?_
      refine ev_bipush (mm 81 rfl) cB_16 ?_
      refine ev_imul (mm 82 rfl) ?_
      refine ev_iload_n (mm 83 rfl) l3 ?_
      refine ev_iadd (mm 84 rfl) ?_
      obtain ⟨q73, e74, h⟩ := bind_so h
      rw [e74]
      obtain ⟨v75, e76, h⟩ := bind_so h
      refine ev_iaload (mm 85 rfl) e76 ?_
      refine ev_iload (mm 86 rfl) l4 ?_
      refine ev_mnI (mm 87 rfl) (by simp [vm_cat_A, vm_cat_I, vm_cat_R, vm_cat_J, vm_cat_0]) ?_
      obtain ⟨q77, e78, h⟩ := bind_so h
      rw [e78]
      obtain ⟨M79, e80, h⟩ := bind_so h
      refine ev_iastore (mm 88 rfl) e80 ?_
      refine evs_iinc (mm 89 rfl) cI_1 l3 (by decide) (fun lv81 l3 s82 => ?_)
      have l0 := s82 _ _ l0 rfl
      have l1 := s82 _ _ l1 rfl
      have l2 := s82 _ _ l2 rfl
      refine ev_goto 85 (mm 90 rfl) rfl ?_
      exact ih l0 l1 l2 l3 h
def f53_l77 (x0 : Nat) (x1 : Int32) (k155 : vm_M → Option (vm_M)) : Nat → Int32 → vm_M → Option (vm_M)
  | 0 => fun _ _ => none
  | n + 1 => fun x2 M =>
    if 16 ≤ x2 then
      k155 M
    else
      f53_l85 x0 x1 x2
        (fun M83 =>
          f53_l77 x0 x1 k155 n (x2 + 1) M83)
        100000 0 M
theorem f53_l77_ok {d : Nat} {x0 : Nat} {x1 : Int32} {k155 : vm_M → Option (vm_M)} {r : vm_M} (hk155 : ∀ {M : vm_M} {lv : vm_L}, (0, .ref (x0)) ∈ lv → (1, .int (x1)) ∈ lv → k155 M = some r → Ev 0 (fun _ => 0) (vm_Cl (d + 0)) vp_53 7 5 false none (rV r) 155 lv [] M) : ∀ (n : Nat) {x2 : Int32} {M : vm_M} {lv : vm_L}, (0, .ref (x0)) ∈ lv → (1, .int (x1)) ∈ lv → (2, .int (x2)) ∈ lv → f53_l77 x0 x1 k155 n x2 M = some r → Ev 0 (fun _ => 0) (vm_Cl (d + 0)) vp_53 7 5 false none (rV r) 77 lv [] M := by
  intro n
  induction n with
  | zero =>
    intro x2 M lv l0 l1 l2 h
    cases h
  | succ n ih =>
    intro x2 M lv l0 l1 l2 h
    dsimp only [f53_l77] at h
    refine ev_iload_n (mm 45 rfl) l2 ?_
    refine ev_bipush (mm 46 rfl) cB_16 ?_
    rcases ite_so h with ⟨c51, h⟩ | ⟨c51, h⟩
    · refine ev_ic_t 155 (mm 47 rfl) rfl c51 ?_
      exact hk155 l0 l1 h
    · refine ev_ic_f 155 (mm 47 rfl) rfl c51 ?_
      refine ev_iconst (mm 48 rfl) cI_0 ?_
      refine evs_istore_n (mm 49 rfl) (by decide) (fun lv52 l3 s53 => ?_)
      have l0 := s53 _ _ l0 rfl
      have l1 := s53 _ _ l1 rfl
      have l2 := s53 _ _ l2 rfl
      refine f53_l85_ok ?_ 100000 l0 l1 l2 l3 h
      · intro M83 lv l0 l1 l2
        intro h
        refine evs_iinc (mm 91 rfl) cI_1 l2 (by decide) (fun lv84 l2 s85 => ?_)
        have l0 := s85 _ _ l0 rfl
        have l1 := s85 _ _ l1 rfl
        refine ev_goto 77 (mm 92 rfl) rfl ?_
        exact ih l0 l1 l2 h
def f53_l69 (x0 : Nat) : Nat → Int32 → vm_M → Option (vm_M)
  | 0 => fun _ _ => none
  | n + 1 => fun x1 M =>
    if 16 ≤ x1 then
      (sp_z M x0 7 2 1).bind fun M47 =>
      some M47
    else
      f53_l77 x0 x1
        (fun M86 =>
          f53_l69 x0 n (x1 + 1) M86)
        100000 0 M
theorem f53_l69_ok {d : Nat} {x0 : Nat} {r : vm_M} : ∀ (n : Nat) {x1 : Int32} {M : vm_M} {lv : vm_L}, (0, .ref (x0)) ∈ lv → (1, .int (x1)) ∈ lv → f53_l69 x0 n x1 M = some r → Ev 0 (fun _ => 0) (vm_Cl (d + 0)) vp_53 7 5 false none (rV r) 69 lv [] M := by
  intro n
  induction n with
  | zero =>
    intro x1 M lv l0 l1 h
    cases h
  | succ n ih =>
    intro x1 M lv l0 l1 h
    dsimp only [f53_l69] at h
    refine ev_iload_n (mm 40 rfl) l1 ?_
    refine ev_bipush (mm 41 rfl) cB_16 ?_
    rcases ite_so h with ⟨c46, h⟩ | ⟨c46, h⟩
    · refine ev_ic_t 161 (mm 42 rfl) rfl c46 ?_
      refine ev_aload_nR (mm 95 rfl) l0 ?_
      refine ev_iconst (mm 96 rfl) cI_1 ?_
      obtain ⟨M47, e48, h⟩ := bind_so h
      refine ev_put_z (mm 97 rfl) (fun z => by cases z) rfl e48 ?_
      exact ev_return (mm 98 rfl) h
    · refine ev_ic_f 161 (mm 42 rfl) rfl c46 ?_
      refine ev_iconst (mm 43 rfl) cI_0 ?_
      refine evs_istore_n (mm 44 rfl) (by decide) (fun lv49 l2 s50 => ?_)
      have l0 := s50 _ _ l0 rfl
      have l1 := s50 _ _ l1 rfl
      refine f53_l77_ok ?_ 100000 l0 l1 l2 h
      · intro M86 lv l0 l1
        intro h
        refine evs_iinc (mm 93 rfl) cI_1 l1 (by decide) (fun lv87 l1 s88 => ?_)
        have l0 := s88 _ _ l0 rfl
        refine ev_goto 69 (mm 94 rfl) rfl ?_
        exact ih l0 l1 h
/-- PupilCoin$Roads.measure()V -/
def f53 (x0 : Nat) (M : vm_M) : Option (vm_M) :=
  f53_l2 x0
    (fun M31 =>
      f53_l43 x0
        (fun M43 =>
          f53_l69 x0
          
            100000 0 M43)
        100000 0 M31)
    100000 0 M
theorem f53_ok {x0 : Nat} {M : vm_M} {r : vm_M} (h : f53 x0 M = some r) (d : Nat) : vm_Cl (d + 1) 53 [.ref (x0)] M (rV r) := by
  have key : Ev 0 (fun _ => 0) (vm_Cl (d + 0)) vp_53 7 5 false none (rV r) 0 (lv_args 0 [.ref (x0)]) [] M := by
    have l0 : (0, .ref (x0)) ∈ lv_args 0 [.ref (x0)] := List.Mem.head _
    unfold f53 at h
    refine ev_iconst (mm 0 rfl) cI_0 ?_
    refine evs_istore_n (mm 1 rfl) (by decide) (fun lv1 l1 s2 => ?_)
    have l0 := s2 _ _ l0 rfl
    refine f53_l2_ok ?_ 100000 l0 l1 h
    · intro M31 lv l0
      intro h
      refine ev_iconst (mm 22 rfl) cI_0 ?_
      refine evs_istore_n (mm 23 rfl) (by decide) (fun lv32 l1 s33 => ?_)
      have l0 := s33 _ _ l0 rfl
      refine f53_l43_ok ?_ 100000 l0 l1 h
      · intro M43 lv l0
        intro h
        refine ev_iconst (mm 38 rfl) cI_0 ?_
        refine evs_istore_n (mm 39 rfl) (by decide) (fun lv44 l1 s45 => ?_)
        have l0 := s45 _ _ l0 rfl
        refine f53_l69_ok 100000 l0 l1 h
  exact ⟨by decide, Nat.le_of_ble_eq_true rfl, key.1, key.2⟩
def f7_l24 (x0 : Nat) (x1 : Int32) (x2 : Int32) : Nat → Int32 → Int32 → vm_M → Option (Int32 × vm_M)
  | 0 => fun _ _ _ => none
  | n + 1 => fun x3 x4 M =>
    (sg_i M x0 0 7).bind fun v12 =>
    if v12 ≤ x4 then
      some (x3, M)
    else
      if x4 = x1 then
        f7_l24 x0 x1 x2 n x3 (x4 + 1) M
      else
        (s_ob M x0 0).bind fun _ =>
        (f2 x0 x4 x2 M).bind fun p18 =>
        if p18.1 = 0 then
          f7_l24 x0 x1 x2 n x3 (x4 + 1) p18.2
        else
          (sg_r p18.2 x0 0 6).bind fun v23 =>
          (v23).bind fun q25 =>
          (sg_r p18.2 q25 7 1).bind fun v27 =>
          (sg_r p18.2 x0 0 2).bind fun v29 =>
          (v29).bind fun q31 =>
          (sa_i p18.2 q31 0 x1).bind fun v33 =>
          (sg_r p18.2 x0 0 2).bind fun v35 =>
          (v35).bind fun q37 =>
          (sa_i p18.2 q37 0 x4).bind fun v39 =>
          (v27).bind fun q41 =>
          (sa_i p18.2 q41 0 ((v33 * 16) + v39)).bind fun v43 =>
          f7_l24 x0 x1 x2 n (s_mnI x3 v43) (x4 + 1) p18.2
theorem f7_l24_ok {d : Nat} {x0 : Nat} {x1 : Int32} {x2 : Int32} {r : Int32 × vm_M} : ∀ (n : Nat) {x3 : Int32} {x4 : Int32} {M : vm_M} {lv : vm_L}, (0, .ref (x0)) ∈ lv → (1, .int (x1)) ∈ lv → (2, .int (x2)) ∈ lv → (3, .int (x3)) ∈ lv → (4, .int (x4)) ∈ lv → f7_l24 x0 x1 x2 n x3 x4 M = some r → Ev 0 (fun _ => 0) (vm_Cl (d + 1)) vp_7 0 5 false (some (.int)) (rI r) 24 lv [] M := by
  intro n
  induction n with
  | zero =>
    intro x3 x4 M lv l0 l1 l2 l3 l4 h
    cases h
  | succ n ih =>
    intro x3 x4 M lv l0 l1 l2 l3 l4 h
    dsimp only [f7_l24] at h
    refine ev_iload (mm 11 rfl) l4 ?_
    refine ev_aload_nR (mm 12 rfl) l0 ?_
    obtain ⟨v12, e13, h⟩ := bind_so h
    refine ev_get_i (mm 13 rfl) rfl e13 ?_
    rcases ite_so h with ⟨c14, h⟩ | ⟨c14, h⟩
    · refine ev_ic_t 85 (mm 14 rfl) rfl c14 ?_
      refine ev_iload_n (mm 43 rfl) l3 ?_
      exact ev_ireturn (mm 44 rfl) h
    · refine ev_ic_f 85 (mm 14 rfl) rfl c14 ?_
      refine ev_iload (mm 15 rfl) l4 ?_
      refine ev_iload_n (mm 16 rfl) l1 ?_
      rcases ite_so h with ⟨c15, h⟩ | ⟨c15, h⟩
      · refine ev_ic_t 79 (mm 17 rfl) rfl c15 ?_
        refine evs_iinc (mm 41 rfl) cI_1 l4 (by decide) (fun lv16 l4 s17 => ?_)
        have l0 := s17 _ _ l0 rfl
        have l1 := s17 _ _ l1 rfl
        have l2 := s17 _ _ l2 rfl
        have l3 := s17 _ _ l3 rfl
        refine ev_goto 24 (mm 42 rfl) rfl ?_
        exact ih l0 l1 l2 l3 l4 h
      · refine ev_ic_f 79 (mm 17 rfl) rfl c15 ?_
        refine ev_aload_nR (mm 18 rfl) l0 ?_
        refine ev_iload (mm 19 rfl) l4 ?_
        refine ev_iload_n (mm 20 rfl) l2 ?_
        obtain ⟨_, e49, h⟩ := bind_so h
        obtain ⟨p18, e19, h⟩ := bind_so h
        refine ev_callV_I [.int (x4), .int (x2)] (mm 21 rfl) rfl rfl (Nat.le_of_ble_eq_true rfl) (s_ob_of e49) (f2_ok e19 (d + 0)) ?_
        rcases ite_so h with ⟨c20, h⟩ | ⟨c20, h⟩
        · refine ev_if_t 79 (mm 22 rfl) rfl c20 ?_
          refine evs_iinc (mm 41 rfl) cI_1 l4 (by decide) (fun lv21 l4 s22 => ?_)
          have l0 := s22 _ _ l0 rfl
          have l1 := s22 _ _ l1 rfl
          have l2 := s22 _ _ l2 rfl
          have l3 := s22 _ _ l3 rfl
          refine ev_goto 24 (mm 42 rfl) rfl ?_
          exact ih l0 l1 l2 l3 l4 h
        · refine ev_if_f 79 (mm 22 rfl) rfl c20 ?_
          refine ev_iload_n (mm 23 rfl) l3 ?_
          refine ev_aload_nR (mm 24 rfl) l0 ?_
          obtain ⟨v23, e24, h⟩ := bind_so h
          refine ev_get_r (mm 25 rfl) rfl e24 ?_
          obtain ⟨q25, e26, h⟩ := bind_so h
          rw [e26]
          obtain ⟨v27, e28, h⟩ := bind_so h
          refine ev_get_r (mm 26 rfl) rfl e28 ?_
          refine ev_aload_nR (mm 27 rfl) l0 ?_
          obtain ⟨v29, e30, h⟩ := bind_so h
          refine ev_get_r (mm 28 rfl) rfl e30 ?_
          refine ev_iload_n (mm 29 rfl) l1 ?_
          obtain ⟨q31, e32, h⟩ := bind_so h
          rw [e32]
          obtain ⟨v33, e34, h⟩ := bind_so h
          refine ev_iaload (mm 30 rfl) e34 ?_
          refine ev_bipush (mm 31 rfl) cB_16 ?_
          refine ev_imul (mm 32 rfl) ?_
          refine ev_aload_nR (mm 33 rfl) l0 ?_
          obtain ⟨v35, e36, h⟩ := bind_so h
          refine ev_get_r (mm 34 rfl) rfl e36 ?_
          refine ev_iload (mm 35 rfl) l4 ?_
          obtain ⟨q37, e38, h⟩ := bind_so h
          rw [e38]
          obtain ⟨v39, e40, h⟩ := bind_so h
          refine ev_iaload (mm 36 rfl) e40 ?_
          refine ev_iadd (mm 37 rfl) ?_
          obtain ⟨q41, e42, h⟩ := bind_so h
          rw [e42]
          obtain ⟨v43, e44, h⟩ := bind_so h
          refine ev_iaload (mm 38 rfl) e44 ?_
          refine ev_mnI (mm 39 rfl) (Nat.le_of_ble_eq_true rfl) ?_
          refine evs_istore_n (mm 40 rfl) (by decide) (fun lv45 l3 s46 => ?_)
          have l0 := s46 _ _ l0 rfl
          have l1 := s46 _ _ l1 rfl
          have l2 := s46 _ _ l2 rfl
          have l4 := s46 _ _ l4 rfl
          refine evs_iinc (mm 41 rfl) cI_1 l4 (by decide) (fun lv47 l4 s48 => ?_)
          have l0 := s48 _ _ l0 rfl
          have l1 := s48 _ _ l1 rfl
          have l2 := s48 _ _ l2 rfl
          have l3 := s48 _ _ l3 rfl
          refine ev_goto 24 (mm 42 rfl) rfl ?_
          exact ih l0 l1 l2 l3 l4 h
/-- PupilCoin$Land.reach(II)I -/
def f7 (x0 : Nat) (x1 : Int32) (x2 : Int32) (M : vm_M) : Option (Int32 × vm_M) :=
  (sg_r M x0 0 6).bind fun v1 =>
  (v1).bind fun q3 =>
  (sg_i M q3 7 2).bind fun v5 =>
  if ¬ v5 = 0 then
    f7_l24 x0 x1 x2
    
      100000 9999 0 M
  else
    (sg_r M x0 0 6).bind fun v50 =>
    (v50).bind fun q52 =>
    (s_ob M q52 7).bind fun _ =>
    (f53 q52 M).bind fun p54 =>
    f7_l24 x0 x1 x2
    
      100000 9999 0 p54
theorem f7_ok {x0 : Nat} {x1 : Int32} {x2 : Int32} {M : vm_M} {r : Int32 × vm_M} (h : f7 x0 x1 x2 M = some r) (d : Nat) : vm_Cl (d + 2) 7 [.ref (x0), .int (x1), .int (x2)] M (rI r) := by
  have key : Ev 0 (fun _ => 0) (vm_Cl (d + 1)) vp_7 0 5 false (some (.int)) (rI r) 0 (lv_args 0 [.ref (x0), .int (x1), .int (x2)]) [] M := by
    have l0 : (0, .ref (x0)) ∈ lv_args 0 [.ref (x0), .int (x1), .int (x2)] := List.Mem.head _
    have l1 : (1, .int (x1)) ∈ lv_args 0 [.ref (x0), .int (x1), .int (x2)] := List.Mem.tail _ (List.Mem.head _)
    have l2 : (2, .int (x2)) ∈ lv_args 0 [.ref (x0), .int (x1), .int (x2)] := List.Mem.tail _ (List.Mem.tail _ (List.Mem.head _))
    unfold f7 at h
    refine ev_aload_nR (mm 0 rfl) l0 ?_
    obtain ⟨v1, e2, h⟩ := bind_so h
    refine ev_get_r (mm 1 rfl) rfl e2 ?_
    obtain ⟨q3, e4, h⟩ := bind_so h
    rw [e4]
    obtain ⟨v5, e6, h⟩ := bind_so h
    refine ev_get_i (mm 2 rfl) rfl e6 ?_
    rcases ite_so h with ⟨c7, h⟩ | ⟨c7, h⟩
    · refine ev_if_t 17 (mm 3 rfl) rfl c7 ?_
      refine ev_sipush (mm 7 rfl) cS_9999 ?_
      refine evs_istore_n (mm 8 rfl) (by decide) (fun lv8 l3 s9 => ?_)
      have l0 := s9 _ _ l0 rfl
      have l1 := s9 _ _ l1 rfl
      have l2 := s9 _ _ l2 rfl
      refine ev_iconst (mm 9 rfl) cI_0 ?_
      refine evs_istore (mm 10 rfl) (by decide) (fun lv10 l4 s11 => ?_)
      have l0 := s11 _ _ l0 rfl
      have l1 := s11 _ _ l1 rfl
      have l2 := s11 _ _ l2 rfl
      have l3 := s11 _ _ l3 rfl
      refine f7_l24_ok 100000 l0 l1 l2 l3 l4 h
    · refine ev_if_f 17 (mm 3 rfl) rfl c7 ?_
      refine ev_aload_nR (mm 4 rfl) l0 ?_
      obtain ⟨v50, e51, h⟩ := bind_so h
      refine ev_get_r (mm 5 rfl) rfl e51 ?_
      obtain ⟨q52, e53, h⟩ := bind_so h
      rw [e53]
      obtain ⟨_, e60, h⟩ := bind_so h
      obtain ⟨p54, e55, h⟩ := bind_so h
      refine ev_callV_V [] (mm 6 rfl) rfl rfl (Nat.le_of_ble_eq_true rfl) (s_ob_of e60) (f53_ok e55 (d + 0)) ?_
      refine ev_sipush (mm 7 rfl) cS_9999 ?_
      refine evs_istore_n (mm 8 rfl) (by decide) (fun lv56 l3 s57 => ?_)
      have l0 := s57 _ _ l0 rfl
      have l1 := s57 _ _ l1 rfl
      have l2 := s57 _ _ l2 rfl
      refine ev_iconst (mm 9 rfl) cI_0 ?_
      refine evs_istore (mm 10 rfl) (by decide) (fun lv58 l4 s59 => ?_)
      have l0 := s59 _ _ l0 rfl
      have l1 := s59 _ _ l1 rfl
      have l2 := s59 _ _ l2 rfl
      have l3 := s59 _ _ l3 rfl
      refine f7_l24_ok 100000 l0 l1 l2 l3 l4 h
  exact ⟨by decide, Nat.le_of_ble_eq_true rfl, key.1, key.2⟩
/-- java/util/Arrays.copyOf([II)[I -/
def f201 (x0 : Nat) (x1 : Int32) (M : vm_M) : Option (Option Nat × vm_M) :=
  (s_len M x0 0).bind fun v1 =>
  if ¬ x1 = v1 then
    (s_na M 0 x1).bind fun M4 =>
    (s_len M4 x0 0).bind fun v8 =>
    (s_cp M4 0 x0 0 (vm_n M) 0 (s_mnI v8 x1)).bind fun M10 =>
    some (some (vm_n M), M10)
  else
    (s_cl M x0).bind fun M12 =>
    (s_ln M12 (vm_n M) 0).bind fun _ =>
    some (some (vm_n M), M12)
theorem f201_ok {x0 : Nat} {x1 : Int32} {M : vm_M} {r : Option Nat × vm_M} (h : f201 x0 x1 M = some r) (d : Nat) : vm_Cl (d + 1) 201 [.ref (x0), .int (x1)] M (rA r) := by
  have key : Ev 0 (fun _ => 0) (vm_Cl (d + 0)) vp_201 14 3 false (some (.array (.int))) (rA r) 0 (lv_args 0 [.ref (x0), .int (x1)]) [] M := by
    have l0 : (0, .ref (x0)) ∈ lv_args 0 [.ref (x0), .int (x1)] := List.Mem.head _
    have l1 : (1, .int (x1)) ∈ lv_args 0 [.ref (x0), .int (x1)] := List.Mem.tail _ (List.Mem.head _)
    unfold f201 at h
    refine ev_iload_n (mm 0 rfl) l1 ?_
    refine ev_aload_nR (mm 1 rfl) l0 ?_
    obtain ⟨v1, e2, h⟩ := bind_so h
    refine ev_len (mm 2 rfl) (by decide) e2 ?_
    rcases ite_so h with ⟨c3, h⟩ | ⟨c3, h⟩
    · refine ev_ic_t 14 (mm 3 rfl) rfl c3 ?_
      refine ev_iload_n (mm 8 rfl) l1 ?_
      obtain ⟨M4, e5, h⟩ := bind_so h
      refine ev_newarray 0 (mm 9 rfl) (by decide) rfl e5 ?_
      refine evs_astore_nR (mm 10 rfl) (by decide) (fun lv6 l2 s7 => ?_)
      have l0 := s7 _ _ l0 rfl
      have l1 := s7 _ _ l1 rfl
      refine ev_aload_nR (mm 11 rfl) l0 ?_
      refine ev_iconst (mm 12 rfl) cI_0 ?_
      refine ev_aload_nR (mm 13 rfl) l2 ?_
      refine ev_iconst (mm 14 rfl) cI_0 ?_
      refine ev_aload_nR (mm 15 rfl) l0 ?_
      obtain ⟨v8, e9, h⟩ := bind_so h
      refine ev_len (mm 16 rfl) (by decide) e9 ?_
      refine ev_iload_n (mm 17 rfl) l1 ?_
      refine ev_mnI (mm 18 rfl) (Nat.le_of_ble_eq_true rfl) ?_
      obtain ⟨M10, e11, h⟩ := bind_so h
      refine ev_copy 0 (mm 19 rfl) (Nat.le_of_ble_eq_true rfl) (by decide) e11 ?_
      refine ev_aload_nR (mm 20 rfl) l2 ?_
      exact ev_areturn (x := (some (vm_n M))) (Or.inr ⟨_, rfl⟩) (mm 21 rfl) h
    · refine ev_ic_f 14 (mm 3 rfl) rfl c3 ?_
      refine ev_aload_nR (mm 4 rfl) l0 ?_
      obtain ⟨M12, e13, h⟩ := bind_so h
      refine ev_clone (mm 5 rfl) (Nat.le_of_ble_eq_true rfl) e13 ?_
      obtain ⟨v14, e15, h⟩ := bind_so h
      refine ev_checkcast (mm 6 rfl) e15 ?_
      exact ev_areturn (x := (some (vm_n M))) (Or.inr ⟨_, rfl⟩) (mm 7 rfl) h
  exact ⟨by decide, Nat.le_of_ble_eq_true rfl, key.1, key.2⟩
/-- PupilCoin$Law.<init>(LPupilCoin$Reader;III)V -/
def f8 (x0 : Nat) (x1 : Nat) (x2 : Int32) (x3 : Int32) (x4 : Int32) (M : vm_M) : Option (vm_M) :=
  (sp_i M x0 1 0 x2).bind fun M1 =>
  (sp_i M1 x0 1 1 x3).bind fun M3 =>
  (sp_i M3 x0 1 2 x4).bind fun M5 =>
  (sg_i M5 x1 6 8).bind fun v7 =>
  (sp_i M5 x0 1 3 v7).bind fun M9 =>
  (sg_i M9 x1 6 7).bind fun v11 =>
  (sp_i M9 x0 1 4 v11).bind fun M13 =>
  (sg_r M13 x1 6 5).bind fun v15 =>
  (v15).bind fun q17 =>
  (s_cl M13 q17).bind fun M19 =>
  (s_ln M19 (vm_n M13) 0).bind fun _ =>
  (sp_r M19 x0 1 5 (some (vm_n M13))).bind fun M23 =>
  (sg_r M23 x1 6 3).bind fun v25 =>
  (sg_i M23 x1 6 7).bind fun v27 =>
  (v25).bind fun q29 =>
  (f201 q29 (s_mxI 0 v27) M23).bind fun p31 =>
  (sp_r p31.2 x0 1 6 p31.1).bind fun M33 =>
  (sg_r M33 x1 6 2).bind fun v35 =>
  (sg_i M33 x1 6 7).bind fun v37 =>
  (v35).bind fun q39 =>
  (f201 q39 (s_mxI 0 ((2 * v37) + 1)) M33).bind fun p41 =>
  (sp_r p41.2 x0 1 7 p41.1).bind fun M43 =>
  (sg_r M43 x1 6 1).bind fun v45 =>
  (sg_i M43 x1 6 6).bind fun v47 =>
  (v45).bind fun q49 =>
  (f201 q49 (s_mxI 0 v47) M43).bind fun p51 =>
  (sp_r p51.2 x0 1 8 p51.1).bind fun M53 =>
  some M53
theorem f8_ok {x0 : Nat} {x1 : Nat} {x2 : Int32} {x3 : Int32} {x4 : Int32} {M : vm_M} {r : vm_M} (h : f8 x0 x1 x2 x3 x4 M = some r) (d : Nat) : vm_Cl (d + 2) 8 [.ref (x0), .ref (x1), .int (x2), .int (x3), .int (x4)] M (rV r) := by
  have key : Ev 0 (fun _ => 0) (vm_Cl (d + 1)) vp_8 1 5 true none (rV r) 0 (lv_args 0 [.ref (x0), .ref (x1), .int (x2), .int (x3), .int (x4)]) [] M := by
    have l0 : (0, .ref (x0)) ∈ lv_args 0 [.ref (x0), .ref (x1), .int (x2), .int (x3), .int (x4)] := List.Mem.head _
    have l1 : (1, .ref (x1)) ∈ lv_args 0 [.ref (x0), .ref (x1), .int (x2), .int (x3), .int (x4)] := List.Mem.tail _ (List.Mem.head _)
    have l2 : (2, .int (x2)) ∈ lv_args 0 [.ref (x0), .ref (x1), .int (x2), .int (x3), .int (x4)] := List.Mem.tail _ (List.Mem.tail _ (List.Mem.head _))
    have l3 : (3, .int (x3)) ∈ lv_args 0 [.ref (x0), .ref (x1), .int (x2), .int (x3), .int (x4)] := List.Mem.tail _ (List.Mem.tail _ (List.Mem.tail _ (List.Mem.head _)))
    have l4 : (4, .int (x4)) ∈ lv_args 0 [.ref (x0), .ref (x1), .int (x2), .int (x3), .int (x4)] := List.Mem.tail _ (List.Mem.tail _ (List.Mem.tail _ (List.Mem.tail _ (List.Mem.head _))))
    unfold f8 at h
    refine ev_aload_nR (mm 0 rfl) l0 ?_
    refine ev_obj (mm 1 rfl) (Nat.le_of_ble_eq_true rfl) ?_
    refine ev_aload_nR (mm 2 rfl) l0 ?_
    refine ev_iload_n (mm 3 rfl) l2 ?_
    obtain ⟨M1, e2, h⟩ := bind_so h
    refine ev_put_i (mm 4 rfl) (fun _ => ⟨rfl, rfl⟩) rfl e2 ?_
    refine ev_aload_nR (mm 5 rfl) l0 ?_
    refine ev_iload_n (mm 6 rfl) l3 ?_
    obtain ⟨M3, e4, h⟩ := bind_so h
    refine ev_put_i (mm 7 rfl) (fun _ => ⟨rfl, rfl⟩) rfl e4 ?_
    refine ev_aload_nR (mm 8 rfl) l0 ?_
    refine ev_iload (mm 9 rfl) l4 ?_
    obtain ⟨M5, e6, h⟩ := bind_so h
    refine ev_put_i (mm 10 rfl) (fun _ => ⟨rfl, rfl⟩) rfl e6 ?_
    refine ev_aload_nR (mm 11 rfl) l0 ?_
    refine ev_aload_nR (mm 12 rfl) l1 ?_
    obtain ⟨v7, e8, h⟩ := bind_so h
    refine ev_get_i (mm 13 rfl) rfl e8 ?_
    obtain ⟨M9, e10, h⟩ := bind_so h
    refine ev_put_i (mm 14 rfl) (fun _ => ⟨rfl, rfl⟩) rfl e10 ?_
    refine ev_aload_nR (mm 15 rfl) l0 ?_
    refine ev_aload_nR (mm 16 rfl) l1 ?_
    obtain ⟨v11, e12, h⟩ := bind_so h
    refine ev_get_i (mm 17 rfl) rfl e12 ?_
    obtain ⟨M13, e14, h⟩ := bind_so h
    refine ev_put_i (mm 18 rfl) (fun _ => ⟨rfl, rfl⟩) rfl e14 ?_
    refine ev_aload_nR (mm 19 rfl) l0 ?_
    refine ev_aload_nR (mm 20 rfl) l1 ?_
    obtain ⟨v15, e16, h⟩ := bind_so h
    refine ev_get_r (mm 21 rfl) rfl e16 ?_
    obtain ⟨q17, e18, h⟩ := bind_so h
    rw [e18]
    obtain ⟨M19, e20, h⟩ := bind_so h
    refine ev_clone (mm 22 rfl) (Nat.le_of_ble_eq_true rfl) e20 ?_
    obtain ⟨v21, e22, h⟩ := bind_so h
    refine ev_checkcast (mm 23 rfl) e22 ?_
    obtain ⟨M23, e24, h⟩ := bind_so h
    refine ev_put_R (mm 24 rfl) (fun _ => ⟨rfl, rfl⟩) rfl e24 ?_
    refine ev_aload_nR (mm 25 rfl) l0 ?_
    refine ev_aload_nR (mm 26 rfl) l1 ?_
    obtain ⟨v25, e26, h⟩ := bind_so h
    refine ev_get_r (mm 27 rfl) rfl e26 ?_
    refine ev_iconst (mm 28 rfl) cI_0 ?_
    refine ev_aload_nR (mm 29 rfl) l1 ?_
    obtain ⟨v27, e28, h⟩ := bind_so h
    refine ev_get_i (mm 30 rfl) rfl e28 ?_
    refine ev_mxI (mm 31 rfl) (by simp [vm_cat_A, vm_cat_I, vm_cat_R, vm_cat_J, vm_cat_0]) ?_
    obtain ⟨q29, e30, h⟩ := bind_so h
    rw [e30]
    obtain ⟨p31, e32, h⟩ := bind_so h
    refine ev_callS_A [.ref (q29), .int ((s_mxI 0 v27))] (mm 32 rfl) (by decide) rfl rfl (Nat.le_of_ble_eq_true rfl) (f201_ok e32 (d + 0)) ?_
    obtain ⟨M33, e34, h⟩ := bind_so h
    refine ev_put_r (mm 33 rfl) (fun _ => ⟨rfl, rfl⟩) rfl e34 ?_
    refine ev_aload_nR (mm 34 rfl) l0 ?_
    refine ev_aload_nR (mm 35 rfl) l1 ?_
    obtain ⟨v35, e36, h⟩ := bind_so h
    refine ev_get_r (mm 36 rfl) rfl e36 ?_
    refine ev_iconst (mm 37 rfl) cI_0 ?_
    refine ev_iconst (mm 38 rfl) cI_2 ?_
    refine ev_aload_nR (mm 39 rfl) l1 ?_
    obtain ⟨v37, e38, h⟩ := bind_so h
    refine ev_get_i (mm 40 rfl) rfl e38 ?_
    refine ev_imul (mm 41 rfl) ?_
    refine ev_iconst (mm 42 rfl) cI_1 ?_
    refine ev_iadd (mm 43 rfl) ?_
    refine ev_mxI (mm 44 rfl) (by simp [vm_cat_A, vm_cat_I, vm_cat_R, vm_cat_J, vm_cat_0]) ?_
    obtain ⟨q39, e40, h⟩ := bind_so h
    rw [e40]
    obtain ⟨p41, e42, h⟩ := bind_so h
    refine ev_callS_A [.ref (q39), .int ((s_mxI 0 ((2 * v37) + 1)))] (mm 45 rfl) (by decide) rfl rfl (Nat.le_of_ble_eq_true rfl) (f201_ok e42 (d + 0)) ?_
    obtain ⟨M43, e44, h⟩ := bind_so h
    refine ev_put_r (mm 46 rfl) (fun _ => ⟨rfl, rfl⟩) rfl e44 ?_
    refine ev_aload_nR (mm 47 rfl) l0 ?_
    refine ev_aload_nR (mm 48 rfl) l1 ?_
    obtain ⟨v45, e46, h⟩ := bind_so h
    refine ev_get_r (mm 49 rfl) rfl e46 ?_
    refine ev_iconst (mm 50 rfl) cI_0 ?_
    refine ev_aload_nR (mm 51 rfl) l1 ?_
    obtain ⟨v47, e48, h⟩ := bind_so h
    refine ev_get_i (mm 52 rfl) rfl e48 ?_
    refine ev_mxI (mm 53 rfl) (by simp [vm_cat_A, vm_cat_I, vm_cat_R, vm_cat_J, vm_cat_0]) ?_
    obtain ⟨q49, e50, h⟩ := bind_so h
    rw [e50]
    obtain ⟨p51, e52, h⟩ := bind_so h
    refine ev_callS_A [.ref (q49), .int ((s_mxI 0 v47))] (mm 54 rfl) (by decide) rfl rfl (Nat.le_of_ble_eq_true rfl) (f201_ok e52 (d + 0)) ?_
    obtain ⟨M53, e54, h⟩ := bind_so h
    refine ev_put_r (mm 55 rfl) (fun _ => ⟨rfl, rfl⟩) rfl e54 ?_
    exact ev_return (mm 56 rfl) h
  exact ⟨by decide, Nat.le_of_ble_eq_true rfl, key.1, key.2⟩
/-- PupilCoin.within(II)Z -/
def f102 (x0 : Int32) (x1 : Int32) (M : vm_M) : Option (Int32 × vm_M) :=
  if x0 < 0 then
    s_rb 0 M
  else
    if x1 ≤ x0 then
      s_rb 0 M
    else
      s_rb 1 M
theorem f102_ok {x0 : Int32} {x1 : Int32} {M : vm_M} {r : Int32 × vm_M} (h : f102 x0 x1 M = some r) (d : Nat) : vm_Cl (d + 1) 102 [.int (x0), .int (x1)] M (rI r) := by
  have key : Ev 0 (fun _ => 0) (vm_Cl (d + 0)) vp_102 10 2 false (some (.boolean)) (rI r) 0 (lv_args 0 [.int (x0), .int (x1)]) [] M := by
    have l0 : (0, .int (x0)) ∈ lv_args 0 [.int (x0), .int (x1)] := List.Mem.head _
    have l1 : (1, .int (x1)) ∈ lv_args 0 [.int (x0), .int (x1)] := List.Mem.tail _ (List.Mem.head _)
    unfold f102 at h
    refine ev_iload_n (mm 0 rfl) l0 ?_
    rcases ite_so h with ⟨c1, h⟩ | ⟨c1, h⟩
    · refine ev_if_t 13 (mm 1 rfl) rfl c1 ?_
      refine ev_iconst (mm 7 rfl) cI_0 ?_
      exact ev_zreturn (mm 8 rfl) h
    · refine ev_if_f 13 (mm 1 rfl) rfl c1 ?_
      refine ev_iload_n (mm 2 rfl) l0 ?_
      refine ev_iload_n (mm 3 rfl) l1 ?_
      rcases ite_so h with ⟨c2, h⟩ | ⟨c2, h⟩
      · refine ev_ic_t 13 (mm 4 rfl) rfl c2 ?_
        refine ev_iconst (mm 7 rfl) cI_0 ?_
        exact ev_zreturn (mm 8 rfl) h
      · refine ev_ic_f 13 (mm 4 rfl) rfl c2 ?_
        refine ev_iconst (mm 5 rfl) cI_1 ?_
        refine ev_goto 14 (mm 6 rfl) rfl ?_
        exact ev_zreturn (mm 8 rfl) h
  exact ⟨by decide, Nat.le_of_ble_eq_true rfl, key.1, key.2⟩
def f9_j16 (x0 : Nat) (x1 : Int32) (M : vm_M) : Option (Int32 × vm_M) :=
  if ¬ x1 = 5 then
    if ¬ x1 = 6 then
      if ¬ x1 = 7 then
        some ((-1), M)
      else
        (sg_i M x0 1 0).bind fun v5 =>
        some (v5, M)
    else
      (sg_i M x0 1 3).bind fun v7 =>
      some (v7, M)
  else
    (sg_r M x0 1 5).bind fun v9 =>
    (v9).bind fun q11 =>
    (sa_i M q11 0 5).bind fun v13 =>
    (sg_i M x0 1 4).bind fun v15 =>
    (f102 v13 v15 M).bind fun p17 =>
    if p17.1 = 0 then
      some ((-1), p17.2)
    else
      (sg_r p17.2 x0 1 6).bind fun v20 =>
      (sg_r p17.2 x0 1 5).bind fun v22 =>
      (v22).bind fun q24 =>
      (sa_i p17.2 q24 0 5).bind fun v26 =>
      (v20).bind fun q28 =>
      (sa_i p17.2 q28 0 v26).bind fun v30 =>
      some (v30, p17.2)
theorem f9_j16_ok {d : Nat} {x0 : Nat} {x1 : Int32} {M : vm_M} {r : Int32 × vm_M} {lv : vm_L} (l0 : (0, .ref (x0)) ∈ lv) (l1 : (1, .int (x1)) ∈ lv) (h : f9_j16 x0 x1 M = some r) : Ev 0 (fun _ => 0) (vm_Cl (d + 1)) vp_9 1 2 false (some (.int)) (rI r) 16 lv [] M := by
  unfold f9_j16 at h
  refine ev_iload_n (mm 10 rfl) l1 ?_
  refine ev_iconst (mm 11 rfl) cI_5 ?_
  rcases ite_so h with ⟨c2, h⟩ | ⟨c2, h⟩
  · refine ev_ic_t 53 (mm 12 rfl) rfl c2 ?_
    refine ev_iload_n (mm 31 rfl) l1 ?_
    refine ev_bipush (mm 32 rfl) cB_6 ?_
    rcases ite_so h with ⟨c3, h⟩ | ⟨c3, h⟩
    · refine ev_ic_t 64 (mm 33 rfl) rfl c3 ?_
      refine ev_iload_n (mm 37 rfl) l1 ?_
      refine ev_bipush (mm 38 rfl) cB_7 ?_
      rcases ite_so h with ⟨c4, h⟩ | ⟨c4, h⟩
      · refine ev_ic_t 77 (mm 39 rfl) rfl c4 ?_
        refine ev_iconst (mm 43 rfl) cI_m1 ?_
        exact ev_ireturn (mm 44 rfl) h
      · refine ev_ic_f 77 (mm 39 rfl) rfl c4 ?_
        refine ev_aload_nR (mm 40 rfl) l0 ?_
        obtain ⟨v5, e6, h⟩ := bind_so h
        refine ev_get_i (mm 41 rfl) rfl e6 ?_
        refine ev_goto 78 (mm 42 rfl) rfl ?_
        exact ev_ireturn (mm 44 rfl) h
    · refine ev_ic_f 64 (mm 33 rfl) rfl c3 ?_
      refine ev_aload_nR (mm 34 rfl) l0 ?_
      obtain ⟨v7, e8, h⟩ := bind_so h
      refine ev_get_i (mm 35 rfl) rfl e8 ?_
      exact ev_ireturn (mm 36 rfl) h
  · refine ev_ic_f 53 (mm 12 rfl) rfl c2 ?_
    refine ev_aload_nR (mm 13 rfl) l0 ?_
    obtain ⟨v9, e10, h⟩ := bind_so h
    refine ev_get_r (mm 14 rfl) rfl e10 ?_
    refine ev_iconst (mm 15 rfl) cI_5 ?_
    obtain ⟨q11, e12, h⟩ := bind_so h
    rw [e12]
    obtain ⟨v13, e14, h⟩ := bind_so h
    refine ev_iaload (mm 16 rfl) e14 ?_
    refine ev_aload_nR (mm 17 rfl) l0 ?_
    obtain ⟨v15, e16, h⟩ := bind_so h
    refine ev_get_i (mm 18 rfl) rfl e16 ?_
    obtain ⟨p17, e18, h⟩ := bind_so h
    refine ev_callS_I [.int (v13), .int (v15)] (mm 19 rfl) (by decide) rfl rfl (Nat.le_of_ble_eq_true rfl) (f102_ok e18 (d + 0)) ?_
    rcases ite_so h with ⟨c19, h⟩ | ⟨c19, h⟩
    · refine ev_if_t 51 (mm 20 rfl) rfl c19 ?_
      refine ev_iconst (mm 29 rfl) cI_m1 ?_
      exact ev_ireturn (mm 30 rfl) h
    · refine ev_if_f 51 (mm 20 rfl) rfl c19 ?_
      refine ev_aload_nR (mm 21 rfl) l0 ?_
      obtain ⟨v20, e21, h⟩ := bind_so h
      refine ev_get_r (mm 22 rfl) rfl e21 ?_
      refine ev_aload_nR (mm 23 rfl) l0 ?_
      obtain ⟨v22, e23, h⟩ := bind_so h
      refine ev_get_r (mm 24 rfl) rfl e23 ?_
      refine ev_iconst (mm 25 rfl) cI_5 ?_
      obtain ⟨q24, e25, h⟩ := bind_so h
      rw [e25]
      obtain ⟨v26, e27, h⟩ := bind_so h
      refine ev_iaload (mm 26 rfl) e27 ?_
      obtain ⟨q28, e29, h⟩ := bind_so h
      rw [e29]
      obtain ⟨v30, e31, h⟩ := bind_so h
      refine ev_iaload (mm 27 rfl) e31 ?_
      refine ev_goto 52 (mm 28 rfl) rfl ?_
      exact ev_ireturn (mm 30 rfl) h
/-- PupilCoin$Law.tells(I)I -/
def f9 (x0 : Nat) (x1 : Int32) (M : vm_M) : Option (Int32 × vm_M) :=
  if x1 < 0 then
    f9_j16 x0 x1 M
  else
    if 5 ≤ x1 then
      f9_j16 x0 x1 M
    else
      (sg_r M x0 1 5).bind fun v33 =>
      (v33).bind fun q35 =>
      (sa_i M q35 0 x1).bind fun v37 =>
      some (v37, M)
theorem f9_ok {x0 : Nat} {x1 : Int32} {M : vm_M} {r : Int32 × vm_M} (h : f9 x0 x1 M = some r) (d : Nat) : vm_Cl (d + 2) 9 [.ref (x0), .int (x1)] M (rI r) := by
  have key : Ev 0 (fun _ => 0) (vm_Cl (d + 1)) vp_9 1 2 false (some (.int)) (rI r) 0 (lv_args 0 [.ref (x0), .int (x1)]) [] M := by
    have l0 : (0, .ref (x0)) ∈ lv_args 0 [.ref (x0), .int (x1)] := List.Mem.head _
    have l1 : (1, .int (x1)) ∈ lv_args 0 [.ref (x0), .int (x1)] := List.Mem.tail _ (List.Mem.head _)
    unfold f9 at h
    refine ev_iload_n (mm 0 rfl) l1 ?_
    rcases ite_so h with ⟨c1, h⟩ | ⟨c1, h⟩
    · refine ev_if_t 16 (mm 1 rfl) rfl c1 ?_
      exact f9_j16_ok l0 l1 h
    · refine ev_if_f 16 (mm 1 rfl) rfl c1 ?_
      refine ev_iload_n (mm 2 rfl) l1 ?_
      refine ev_iconst (mm 3 rfl) cI_5 ?_
      rcases ite_so h with ⟨c32, h⟩ | ⟨c32, h⟩
      · refine ev_ic_t 16 (mm 4 rfl) rfl c32 ?_
        exact f9_j16_ok l0 l1 h
      · refine ev_ic_f 16 (mm 4 rfl) rfl c32 ?_
        refine ev_aload_nR (mm 5 rfl) l0 ?_
        obtain ⟨v33, e34, h⟩ := bind_so h
        refine ev_get_r (mm 6 rfl) rfl e34 ?_
        refine ev_iload_n (mm 7 rfl) l1 ?_
        obtain ⟨q35, e36, h⟩ := bind_so h
        rw [e36]
        obtain ⟨v37, e38, h⟩ := bind_so h
        refine ev_iaload (mm 8 rfl) e38 ?_
        exact ev_ireturn (mm 9 rfl) h
  exact ⟨by decide, Nat.le_of_ble_eq_true rfl, key.1, key.2⟩
def f200_l5 (x0 : Nat) (x1 : Int32) (x3 : Int32) : Nat → Int32 → vm_M → Option (vm_M)
  | 0 => fun _ _ => none
  | n + 1 => fun x2 M =>
    if x3 ≤ x2 then
      some M
    else
      (ss_i M x0 0 x2 x1).bind fun M8 =>
      f200_l5 x0 x1 x3 n (x2 + 1) M8
theorem f200_l5_ok {d : Nat} {x0 : Nat} {x1 : Int32} {x3 : Int32} {r : vm_M} : ∀ (n : Nat) {x2 : Int32} {M : vm_M} {lv : vm_L}, (0, .ref (x0)) ∈ lv → (1, .int (x1)) ∈ lv → (2, .int (x2)) ∈ lv → (3, .int (x3)) ∈ lv → f200_l5 x0 x1 x3 n x2 M = some r → Ev 0 (fun _ => 0) (vm_Cl (d + 0)) vp_200 14 4 false none (rV r) 5 lv [] M := by
  intro n
  induction n with
  | zero =>
    intro x2 M lv l0 l1 l2 l3 h
    cases h
  | succ n ih =>
    intro x2 M lv l0 l1 l2 l3 h
    dsimp only [f200_l5] at h
    refine ev_iload_n (mm 5 rfl) l2 ?_
    refine ev_iload_n (mm 6 rfl) l3 ?_
    rcases ite_so h with ⟨c7, h⟩ | ⟨c7, h⟩
    · refine ev_ic_t 20 (mm 7 rfl) rfl c7 ?_
      exact ev_return (mm 14 rfl) h
    · refine ev_ic_f 20 (mm 7 rfl) rfl c7 ?_
      refine ev_aload_nR (mm 8 rfl) l0 ?_
      refine ev_iload_n (mm 9 rfl) l2 ?_
      refine ev_iload_n (mm 10 rfl) l1 ?_
      obtain ⟨M8, e9, h⟩ := bind_so h
      refine ev_iastore (mm 11 rfl) e9 ?_
      refine evs_iinc (mm 12 rfl) cI_1 l2 (by decide) (fun lv10 l2 s11 => ?_)
      have l0 := s11 _ _ l0 rfl
      have l1 := s11 _ _ l1 rfl
      have l3 := s11 _ _ l3 rfl
      refine ev_goto 5 (mm 13 rfl) rfl ?_
      exact ih l0 l1 l2 l3 h
/-- java/util/Arrays.fill([II)V -/
def f200 (x0 : Nat) (x1 : Int32) (M : vm_M) : Option (vm_M) :=
  (s_len M x0 0).bind fun v3 =>
  f200_l5 x0 x1 v3
  
    100000 0 M
theorem f200_ok {x0 : Nat} {x1 : Int32} {M : vm_M} {r : vm_M} (h : f200 x0 x1 M = some r) (d : Nat) : vm_Cl (d + 1) 200 [.ref (x0), .int (x1)] M (rV r) := by
  have key : Ev 0 (fun _ => 0) (vm_Cl (d + 0)) vp_200 14 4 false none (rV r) 0 (lv_args 0 [.ref (x0), .int (x1)]) [] M := by
    have l0 : (0, .ref (x0)) ∈ lv_args 0 [.ref (x0), .int (x1)] := List.Mem.head _
    have l1 : (1, .int (x1)) ∈ lv_args 0 [.ref (x0), .int (x1)] := List.Mem.tail _ (List.Mem.head _)
    unfold f200 at h
    refine ev_iconst (mm 0 rfl) cI_0 ?_
    refine evs_istore_n (mm 1 rfl) (by decide) (fun lv1 l2 s2 => ?_)
    have l0 := s2 _ _ l0 rfl
    have l1 := s2 _ _ l1 rfl
    refine ev_aload_nR (mm 2 rfl) l0 ?_
    obtain ⟨v3, e4, h⟩ := bind_so h
    refine ev_len (mm 3 rfl) (by decide) e4 ?_
    refine evs_istore_n (mm 4 rfl) (by decide) (fun lv5 l3 s6 => ?_)
    have l0 := s6 _ _ l0 rfl
    have l1 := s6 _ _ l1 rfl
    have l2 := s6 _ _ l2 rfl
    refine f200_l5_ok 100000 l0 l1 l2 l3 h
  exact ⟨by decide, Nat.le_of_ble_eq_true rfl, key.1, key.2⟩
/-- PupilCoin$Marks.<init>()V -/
def f10 (x0 : Nat) (M : vm_M) : Option (vm_M) :=
  (s_na M 0 300).bind fun M1 =>
  (sp_r M1 x0 2 0 (some (vm_n M))).bind fun M3 =>
  (s_na M3 0 300).bind fun M5 =>
  (sp_r M5 x0 2 1 (some (vm_n M3))).bind fun M7 =>
  (s_na M7 0 300).bind fun M9 =>
  (sp_r M9 x0 2 2 (some (vm_n M7))).bind fun M11 =>
  (s_na M11 0 720).bind fun M13 =>
  (sp_r M13 x0 2 3 (some (vm_n M11))).bind fun M15 =>
  (sg_r M15 x0 2 3).bind fun v17 =>
  (v17).bind fun q19 =>
  (f200 q19 (-1) M15).bind fun p21 =>
  some p21
theorem f10_ok {x0 : Nat} {M : vm_M} {r : vm_M} (h : f10 x0 M = some r) (d : Nat) : vm_Cl (d + 2) 10 [.ref (x0)] M (rV r) := by
  have key : Ev 0 (fun _ => 0) (vm_Cl (d + 1)) vp_10 2 1 true none (rV r) 0 (lv_args 0 [.ref (x0)]) [] M := by
    have l0 : (0, .ref (x0)) ∈ lv_args 0 [.ref (x0)] := List.Mem.head _
    unfold f10 at h
    refine ev_aload_nR (mm 0 rfl) l0 ?_
    refine ev_obj (mm 1 rfl) (Nat.le_of_ble_eq_true rfl) ?_
    refine ev_aload_nR (mm 2 rfl) l0 ?_
    refine ev_sipush (mm 3 rfl) cS_300 ?_
    obtain ⟨M1, e2, h⟩ := bind_so h
    refine ev_newarray 0 (mm 4 rfl) (by decide) rfl e2 ?_
    obtain ⟨M3, e4, h⟩ := bind_so h
    refine ev_put_R (mm 5 rfl) (fun _ => ⟨rfl, rfl⟩) rfl e4 ?_
    refine ev_aload_nR (mm 6 rfl) l0 ?_
    refine ev_sipush (mm 7 rfl) cS_300 ?_
    obtain ⟨M5, e6, h⟩ := bind_so h
    refine ev_newarray 0 (mm 8 rfl) (by decide) rfl e6 ?_
    obtain ⟨M7, e8, h⟩ := bind_so h
    refine ev_put_R (mm 9 rfl) (fun _ => ⟨rfl, rfl⟩) rfl e8 ?_
    refine ev_aload_nR (mm 10 rfl) l0 ?_
    refine ev_sipush (mm 11 rfl) cS_300 ?_
    obtain ⟨M9, e10, h⟩ := bind_so h
    refine ev_newarray 0 (mm 12 rfl) (by decide) rfl e10 ?_
    obtain ⟨M11, e12, h⟩ := bind_so h
    refine ev_put_R (mm 13 rfl) (fun _ => ⟨rfl, rfl⟩) rfl e12 ?_
    refine ev_aload_nR (mm 14 rfl) l0 ?_
    refine ev_sipush (mm 15 rfl) cS_720 ?_
    obtain ⟨M13, e14, h⟩ := bind_so h
    refine ev_newarray 0 (mm 16 rfl) (by decide) rfl e14 ?_
    obtain ⟨M15, e16, h⟩ := bind_so h
    refine ev_put_R (mm 17 rfl) (fun _ => ⟨rfl, rfl⟩) rfl e16 ?_
    refine ev_aload_nR (mm 18 rfl) l0 ?_
    obtain ⟨v17, e18, h⟩ := bind_so h
    refine ev_get_r (mm 19 rfl) rfl e18 ?_
    refine ev_iconst (mm 20 rfl) cI_m1 ?_
    obtain ⟨q19, e20, h⟩ := bind_so h
    rw [e20]
    obtain ⟨p21, e22, h⟩ := bind_so h
    refine ev_callS_V [.ref (q19), .int ((-1))] (mm 21 rfl) (by decide) rfl rfl (Nat.le_of_ble_eq_true rfl) (f200_ok e22 (d + 0)) ?_
    exact ev_return (mm 22 rfl) h
  exact ⟨by decide, Nat.le_of_ble_eq_true rfl, key.1, key.2⟩
/-- PupilCoin$Marks.tell(IIIII)I -/
def f11 (x0 : Nat) (x1 : Int32) (x2 : Int32) (x3 : Int32) (x4 : Int32) (x5 : Int32) (M : vm_M) : Option (Int32 × vm_M) :=
  (sg_i M x0 2 4).bind fun v1 =>
  if v1 < 300 then
    (sg_r M x0 2 0).bind fun v6 =>
    (sg_i M x0 2 4).bind fun v8 =>
    (v6).bind fun q10 =>
    (ss_i M q10 0 v8 x4).bind fun M12 =>
    (sg_r M12 x0 2 1).bind fun v14 =>
    (sg_i M12 x0 2 4).bind fun v16 =>
    (v14).bind fun q18 =>
    (ss_i M12 q18 0 v16 x5).bind fun M20 =>
    (sg_r M20 x0 2 2).bind fun v22 =>
    (sg_i M20 x0 2 4).bind fun v24 =>
    (sg_r M20 x0 2 3).bind fun v26 =>
    (v26).bind fun q28 =>
    (sa_i M20 q28 0 ((((x1 * 10) + x2) * 6) + x3)).bind fun v30 =>
    (v22).bind fun q32 =>
    (ss_i M20 q32 0 v24 v30).bind fun M34 =>
    (sg_r M34 x0 2 3).bind fun v36 =>
    (sg_i M34 x0 2 4).bind fun v38 =>
    (v36).bind fun q40 =>
    (ss_i M34 q40 0 ((((x1 * 10) + x2) * 6) + x3) v38).bind fun M42 =>
    (sg_i M42 x0 2 4).bind fun v44 =>
    (sp_i M42 x0 2 4 (v44 + 1)).bind fun M46 =>
    some (v44, M46)
  else
    some ((-1), M)
theorem f11_ok {x0 : Nat} {x1 : Int32} {x2 : Int32} {x3 : Int32} {x4 : Int32} {x5 : Int32} {M : vm_M} {r : Int32 × vm_M} (h : f11 x0 x1 x2 x3 x4 x5 M = some r) (d : Nat) : vm_Cl (d + 1) 11 [.ref (x0), .int (x1), .int (x2), .int (x3), .int (x4), .int (x5)] M (rI r) := by
  have key : Ev 0 (fun _ => 0) (vm_Cl (d + 0)) vp_11 2 7 false (some (.int)) (rI r) 0 (lv_args 0 [.ref (x0), .int (x1), .int (x2), .int (x3), .int (x4), .int (x5)]) [] M := by
    have l0 : (0, .ref (x0)) ∈ lv_args 0 [.ref (x0), .int (x1), .int (x2), .int (x3), .int (x4), .int (x5)] := List.Mem.head _
    have l1 : (1, .int (x1)) ∈ lv_args 0 [.ref (x0), .int (x1), .int (x2), .int (x3), .int (x4), .int (x5)] := List.Mem.tail _ (List.Mem.head _)
    have l2 : (2, .int (x2)) ∈ lv_args 0 [.ref (x0), .int (x1), .int (x2), .int (x3), .int (x4), .int (x5)] := List.Mem.tail _ (List.Mem.tail _ (List.Mem.head _))
    have l3 : (3, .int (x3)) ∈ lv_args 0 [.ref (x0), .int (x1), .int (x2), .int (x3), .int (x4), .int (x5)] := List.Mem.tail _ (List.Mem.tail _ (List.Mem.tail _ (List.Mem.head _)))
    have l4 : (4, .int (x4)) ∈ lv_args 0 [.ref (x0), .int (x1), .int (x2), .int (x3), .int (x4), .int (x5)] := List.Mem.tail _ (List.Mem.tail _ (List.Mem.tail _ (List.Mem.tail _ (List.Mem.head _))))
    have l5 : (5, .int (x5)) ∈ lv_args 0 [.ref (x0), .int (x1), .int (x2), .int (x3), .int (x4), .int (x5)] := List.Mem.tail _ (List.Mem.tail _ (List.Mem.tail _ (List.Mem.tail _ (List.Mem.tail _ (List.Mem.head _)))))
    unfold f11 at h
    refine ev_aload_nR (mm 0 rfl) l0 ?_
    obtain ⟨v1, e2, h⟩ := bind_so h
    refine ev_get_i (mm 1 rfl) rfl e2 ?_
    refine ev_sipush (mm 2 rfl) cS_300 ?_
    rcases ite_so h with ⟨c3, h⟩ | ⟨c3, h⟩
    · refine ev_ic_t 12 (mm 3 rfl) rfl c3 ?_
      refine ev_iload_n (mm 6 rfl) l1 ?_
      refine ev_bipush (mm 7 rfl) cB_10 ?_
      refine ev_imul (mm 8 rfl) ?_
      refine ev_iload_n (mm 9 rfl) l2 ?_
      refine ev_iadd (mm 10 rfl) ?_
      refine ev_bipush (mm 11 rfl) cB_6 ?_
      refine ev_imul (mm 12 rfl) ?_
      refine ev_iload_n (mm 13 rfl) l3 ?_
      refine ev_iadd (mm 14 rfl) ?_
      refine evs_istore (mm 15 rfl) (by decide) (fun lv4 l6 s5 => ?_)
      have l0 := s5 _ _ l0 rfl
      have l4 := s5 _ _ l4 rfl
      have l5 := s5 _ _ l5 rfl
      refine ev_aload_nR (mm 16 rfl) l0 ?_
      obtain ⟨v6, e7, h⟩ := bind_so h
      refine ev_get_r (mm 17 rfl) rfl e7 ?_
      refine ev_aload_nR (mm 18 rfl) l0 ?_
      obtain ⟨v8, e9, h⟩ := bind_so h
      refine ev_get_i (mm 19 rfl) rfl e9 ?_
      refine ev_iload (mm 20 rfl) l4 ?_
      obtain ⟨q10, e11, h⟩ := bind_so h
      rw [e11]
      obtain ⟨M12, e13, h⟩ := bind_so h
      refine ev_iastore (mm 21 rfl) e13 ?_
      refine ev_aload_nR (mm 22 rfl) l0 ?_
      obtain ⟨v14, e15, h⟩ := bind_so h
      refine ev_get_r (mm 23 rfl) rfl e15 ?_
      refine ev_aload_nR (mm 24 rfl) l0 ?_
      obtain ⟨v16, e17, h⟩ := bind_so h
      refine ev_get_i (mm 25 rfl) rfl e17 ?_
      refine ev_iload (mm 26 rfl) l5 ?_
      obtain ⟨q18, e19, h⟩ := bind_so h
      rw [e19]
      obtain ⟨M20, e21, h⟩ := bind_so h
      refine ev_iastore (mm 27 rfl) e21 ?_
      refine ev_aload_nR (mm 28 rfl) l0 ?_
      obtain ⟨v22, e23, h⟩ := bind_so h
      refine ev_get_r (mm 29 rfl) rfl e23 ?_
      refine ev_aload_nR (mm 30 rfl) l0 ?_
      obtain ⟨v24, e25, h⟩ := bind_so h
      refine ev_get_i (mm 31 rfl) rfl e25 ?_
      refine ev_aload_nR (mm 32 rfl) l0 ?_
      obtain ⟨v26, e27, h⟩ := bind_so h
      refine ev_get_r (mm 33 rfl) rfl e27 ?_
      refine ev_iload (mm 34 rfl) l6 ?_
      obtain ⟨q28, e29, h⟩ := bind_so h
      rw [e29]
      obtain ⟨v30, e31, h⟩ := bind_so h
      refine ev_iaload (mm 35 rfl) e31 ?_
      obtain ⟨q32, e33, h⟩ := bind_so h
      rw [e33]
      obtain ⟨M34, e35, h⟩ := bind_so h
      refine ev_iastore (mm 36 rfl) e35 ?_
      refine ev_aload_nR (mm 37 rfl) l0 ?_
      obtain ⟨v36, e37, h⟩ := bind_so h
      refine ev_get_r (mm 38 rfl) rfl e37 ?_
      refine ev_iload (mm 39 rfl) l6 ?_
      refine ev_aload_nR (mm 40 rfl) l0 ?_
      obtain ⟨v38, e39, h⟩ := bind_so h
      refine ev_get_i (mm 41 rfl) rfl e39 ?_
      obtain ⟨q40, e41, h⟩ := bind_so h
      rw [e41]
      obtain ⟨M42, e43, h⟩ := bind_so h
      refine ev_iastore (mm 42 rfl) e43 ?_
      refine ev_aload_nR (mm 43 rfl) l0 ?_
      refine ev_dupR (mm 44 rfl) ?_
      obtain ⟨v44, e45, h⟩ := bind_so h
      refine ev_get_i (mm 45 rfl) rfl e45 ?_
      refine ev_dup_x1 (mm 46 rfl) rfl rfl ?_
      refine ev_iconst (mm 47 rfl) cI_1 ?_
      refine ev_iadd (mm 48 rfl) ?_
      obtain ⟨M46, e47, h⟩ := bind_so h
      refine ev_put_i (mm 49 rfl) (fun z => by cases z) rfl e47 ?_
      exact ev_ireturn (mm 50 rfl) h
    · refine ev_ic_f 12 (mm 3 rfl) rfl c3 ?_
      refine ev_iconst (mm 4 rfl) cI_m1 ?_
      exact ev_ireturn (mm 5 rfl) h
  exact ⟨by decide, Nat.le_of_ble_eq_true rfl, key.1, key.2⟩
def f12_l21 (x0 : Nat) (x4 : Int32) : Nat → Int32 → Int32 → vm_M → Option (Int32 × vm_M)
  | 0 => fun _ _ _ => none
  | n + 1 => fun x5 x6 M =>
    if 300 ≤ x6 then
      some ((-1), M)
    else
      if x5 < 0 then
        some ((-1), M)
      else
        (sg_r M x0 2 1).bind fun v13 =>
        (v13).bind fun q15 =>
        (sa_i M q15 0 x5).bind fun v17 =>
        if x4 < v17 then
          (sg_r M x0 2 2).bind fun v20 =>
          (v20).bind fun q22 =>
          (sa_i M q22 0 x5).bind fun v24 =>
          f12_l21 x0 x4 n v24 (x6 + 1) M
        else
          (sg_r M x0 2 0).bind fun v30 =>
          (v30).bind fun q32 =>
          (sa_i M q32 0 x5).bind fun v34 =>
          some (v34, M)
theorem f12_l21_ok {d : Nat} {x0 : Nat} {x4 : Int32} {r : Int32 × vm_M} : ∀ (n : Nat) {x5 : Int32} {x6 : Int32} {M : vm_M} {lv : vm_L}, (0, .ref (x0)) ∈ lv → (4, .int (x4)) ∈ lv → (5, .int (x5)) ∈ lv → (6, .int (x6)) ∈ lv → f12_l21 x0 x4 n x5 x6 M = some r → Ev 0 (fun _ => 0) (vm_Cl (d + 0)) vp_12 2 7 false (some (.int)) (rI r) 21 lv [] M := by
  intro n
  induction n with
  | zero =>
    intro x5 x6 M lv l0 l4 l5 l6 h
    cases h
  | succ n ih =>
    intro x5 x6 M lv l0 l4 l5 l6 h
    dsimp only [f12_l21] at h
    refine ev_iload (mm 15 rfl) l6 ?_
    refine ev_sipush (mm 16 rfl) cS_300 ?_
    rcases ite_so h with ⟨c11, h⟩ | ⟨c11, h⟩
    · refine ev_ic_t 69 (mm 17 rfl) rfl c11 ?_
      refine ev_iconst (mm 38 rfl) cI_m1 ?_
      exact ev_ireturn (mm 39 rfl) h
    · refine ev_ic_f 69 (mm 17 rfl) rfl c11 ?_
      refine ev_iload (mm 18 rfl) l5 ?_
      rcases ite_so h with ⟨c12, h⟩ | ⟨c12, h⟩
      · refine ev_if_t 69 (mm 19 rfl) rfl c12 ?_
        refine ev_iconst (mm 38 rfl) cI_m1 ?_
        exact ev_ireturn (mm 39 rfl) h
      · refine ev_if_f 69 (mm 19 rfl) rfl c12 ?_
        refine ev_aload_nR (mm 20 rfl) l0 ?_
        obtain ⟨v13, e14, h⟩ := bind_so h
        refine ev_get_r (mm 21 rfl) rfl e14 ?_
        refine ev_iload (mm 22 rfl) l5 ?_
        obtain ⟨q15, e16, h⟩ := bind_so h
        rw [e16]
        obtain ⟨v17, e18, h⟩ := bind_so h
        refine ev_iaload (mm 23 rfl) e18 ?_
        refine ev_iload (mm 24 rfl) l4 ?_
        rcases ite_so h with ⟨c19, h⟩ | ⟨c19, h⟩
        · refine ev_ic_t 54 (mm 25 rfl) rfl c19 ?_
          refine ev_aload_nR (mm 31 rfl) l0 ?_
          obtain ⟨v20, e21, h⟩ := bind_so h
          refine ev_get_r (mm 32 rfl) rfl e21 ?_
          refine ev_iload (mm 33 rfl) l5 ?_
          obtain ⟨q22, e23, h⟩ := bind_so h
          rw [e23]
          obtain ⟨v24, e25, h⟩ := bind_so h
          refine ev_iaload (mm 34 rfl) e25 ?_
          refine evs_istore (mm 35 rfl) (by decide) (fun lv26 l5 s27 => ?_)
          have l0 := s27 _ _ l0 rfl
          have l4 := s27 _ _ l4 rfl
          have l6 := s27 _ _ l6 rfl
          refine evs_iinc (mm 36 rfl) cI_1 l6 (by decide) (fun lv28 l6 s29 => ?_)
          have l0 := s29 _ _ l0 rfl
          have l4 := s29 _ _ l4 rfl
          have l5 := s29 _ _ l5 rfl
          refine ev_goto 21 (mm 37 rfl) rfl ?_
          exact ih l0 l4 l5 l6 h
        · refine ev_ic_f 54 (mm 25 rfl) rfl c19 ?_
          refine ev_aload_nR (mm 26 rfl) l0 ?_
          obtain ⟨v30, e31, h⟩ := bind_so h
          refine ev_get_r (mm 27 rfl) rfl e31 ?_
          refine ev_iload (mm 28 rfl) l5 ?_
          obtain ⟨q32, e33, h⟩ := bind_so h
          rw [e33]
          obtain ⟨v34, e35, h⟩ := bind_so h
          refine ev_iaload (mm 29 rfl) e35 ?_
          exact ev_ireturn (mm 30 rfl) h
/-- PupilCoin$Marks.held(IIII)I -/
def f12 (x0 : Nat) (x1 : Int32) (x2 : Int32) (x3 : Int32) (x4 : Int32) (M : vm_M) : Option (Int32 × vm_M) :=
  (sg_r M x0 2 3).bind fun v1 =>
  (v1).bind fun q3 =>
  (sa_i M q3 0 ((((x1 * 10) + x2) * 6) + x3)).bind fun v5 =>
  f12_l21 x0 x4
  
    100000 v5 0 M
theorem f12_ok {x0 : Nat} {x1 : Int32} {x2 : Int32} {x3 : Int32} {x4 : Int32} {M : vm_M} {r : Int32 × vm_M} (h : f12 x0 x1 x2 x3 x4 M = some r) (d : Nat) : vm_Cl (d + 1) 12 [.ref (x0), .int (x1), .int (x2), .int (x3), .int (x4)] M (rI r) := by
  have key : Ev 0 (fun _ => 0) (vm_Cl (d + 0)) vp_12 2 7 false (some (.int)) (rI r) 0 (lv_args 0 [.ref (x0), .int (x1), .int (x2), .int (x3), .int (x4)]) [] M := by
    have l0 : (0, .ref (x0)) ∈ lv_args 0 [.ref (x0), .int (x1), .int (x2), .int (x3), .int (x4)] := List.Mem.head _
    have l1 : (1, .int (x1)) ∈ lv_args 0 [.ref (x0), .int (x1), .int (x2), .int (x3), .int (x4)] := List.Mem.tail _ (List.Mem.head _)
    have l2 : (2, .int (x2)) ∈ lv_args 0 [.ref (x0), .int (x1), .int (x2), .int (x3), .int (x4)] := List.Mem.tail _ (List.Mem.tail _ (List.Mem.head _))
    have l3 : (3, .int (x3)) ∈ lv_args 0 [.ref (x0), .int (x1), .int (x2), .int (x3), .int (x4)] := List.Mem.tail _ (List.Mem.tail _ (List.Mem.tail _ (List.Mem.head _)))
    have l4 : (4, .int (x4)) ∈ lv_args 0 [.ref (x0), .int (x1), .int (x2), .int (x3), .int (x4)] := List.Mem.tail _ (List.Mem.tail _ (List.Mem.tail _ (List.Mem.tail _ (List.Mem.head _))))
    unfold f12 at h
    refine ev_aload_nR (mm 0 rfl) l0 ?_
    obtain ⟨v1, e2, h⟩ := bind_so h
    refine ev_get_r (mm 1 rfl) rfl e2 ?_
    refine ev_iload_n (mm 2 rfl) l1 ?_
    refine ev_bipush (mm 3 rfl) cB_10 ?_
    refine ev_imul (mm 4 rfl) ?_
    refine ev_iload_n (mm 5 rfl) l2 ?_
    refine ev_iadd (mm 6 rfl) ?_
    refine ev_bipush (mm 7 rfl) cB_6 ?_
    refine ev_imul (mm 8 rfl) ?_
    refine ev_iload_n (mm 9 rfl) l3 ?_
    refine ev_iadd (mm 10 rfl) ?_
    obtain ⟨q3, e4, h⟩ := bind_so h
    rw [e4]
    obtain ⟨v5, e6, h⟩ := bind_so h
    refine ev_iaload (mm 11 rfl) e6 ?_
    refine evs_istore (mm 12 rfl) (by decide) (fun lv7 l5 s8 => ?_)
    have l0 := s8 _ _ l0 rfl
    have l4 := s8 _ _ l4 rfl
    refine ev_iconst (mm 13 rfl) cI_0 ?_
    refine evs_istore (mm 14 rfl) (by decide) (fun lv9 l6 s10 => ?_)
    have l0 := s10 _ _ l0 rfl
    have l4 := s10 _ _ l4 rfl
    have l5 := s10 _ _ l5 rfl
    refine f12_l21_ok 100000 l0 l4 l5 l6 h
  exact ⟨by decide, Nat.le_of_ble_eq_true rfl, key.1, key.2⟩
def f13_l3 (x0 : Nat) (x1 : Int32) (x2 : Int32) (x4 : Int32) : Nat → Int32 → vm_M → Option (Int32 × vm_M)
  | 0 => fun _ _ => none
  | n + 1 => fun x5 M =>
    if x5 < 0 then
      some ((-1), M)
    else
      (s_ob M x0 2).bind fun _ =>
      (f12 x0 x1 x5 x2 x4 M).bind fun p4 =>
      if p4.1 = (-1) then
        f13_l3 x0 x1 x2 x4 n (x5 + (-1)) p4.2
      else
        some (x5, p4.2)
theorem f13_l3_ok {d : Nat} {x0 : Nat} {x1 : Int32} {x2 : Int32} {x4 : Int32} {r : Int32 × vm_M} : ∀ (n : Nat) {x5 : Int32} {M : vm_M} {lv : vm_L}, (0, .ref (x0)) ∈ lv → (1, .int (x1)) ∈ lv → (2, .int (x2)) ∈ lv → (4, .int (x4)) ∈ lv → (5, .int (x5)) ∈ lv → f13_l3 x0 x1 x2 x4 n x5 M = some r → Ev 0 (fun _ => 0) (vm_Cl (d + 1)) vp_13 2 6 false (some (.int)) (rI r) 3 lv [] M := by
  intro n
  induction n with
  | zero =>
    intro x5 M lv l0 l1 l2 l4 l5 h
    cases h
  | succ n ih =>
    intro x5 M lv l0 l1 l2 l4 l5 h
    dsimp only [f13_l3] at h
    refine ev_iload (mm 2 rfl) l5 ?_
    rcases ite_so h with ⟨c3, h⟩ | ⟨c3, h⟩
    · refine ev_if_t 31 (mm 3 rfl) rfl c3 ?_
      refine ev_iconst (mm 16 rfl) cI_m1 ?_
      exact ev_ireturn (mm 17 rfl) h
    · refine ev_if_f 31 (mm 3 rfl) rfl c3 ?_
      refine ev_aload_nR (mm 4 rfl) l0 ?_
      refine ev_iload_n (mm 5 rfl) l1 ?_
      refine ev_iload (mm 6 rfl) l5 ?_
      refine ev_iload_n (mm 7 rfl) l2 ?_
      refine ev_iload (mm 8 rfl) l4 ?_
      obtain ⟨_, e9, h⟩ := bind_so h
      obtain ⟨p4, e5, h⟩ := bind_so h
      refine ev_callV_I [.int (x1), .int (x5), .int (x2), .int (x4)] (mm 9 rfl) rfl rfl (Nat.le_of_ble_eq_true rfl) (s_ob_of e9) (f12_ok e5 (d + 0)) ?_
      refine ev_iconst (mm 10 rfl) cI_m1 ?_
      rcases ite_so h with ⟨c6, h⟩ | ⟨c6, h⟩
      · refine ev_ic_t 25 (mm 11 rfl) rfl c6 ?_
        refine evs_iinc (mm 14 rfl) cI_m1 l5 (by decide) (fun lv7 l5 s8 => ?_)
        have l0 := s8 _ _ l0 rfl
        have l1 := s8 _ _ l1 rfl
        have l2 := s8 _ _ l2 rfl
        have l4 := s8 _ _ l4 rfl
        refine ev_goto 3 (mm 15 rfl) rfl ?_
        exact ih l0 l1 l2 l4 l5 h
      · refine ev_ic_f 25 (mm 11 rfl) rfl c6 ?_
        refine ev_iload (mm 12 rfl) l5 ?_
        exact ev_ireturn (mm 13 rfl) h
/-- PupilCoin$Marks.latestYear(IIII)I -/
def f13 (x0 : Nat) (x1 : Int32) (x2 : Int32) (x3 : Int32) (x4 : Int32) (M : vm_M) : Option (Int32 × vm_M) :=
  f13_l3 x0 x1 x2 x4
  
    100000 x3 M
theorem f13_ok {x0 : Nat} {x1 : Int32} {x2 : Int32} {x3 : Int32} {x4 : Int32} {M : vm_M} {r : Int32 × vm_M} (h : f13 x0 x1 x2 x3 x4 M = some r) (d : Nat) : vm_Cl (d + 2) 13 [.ref (x0), .int (x1), .int (x2), .int (x3), .int (x4)] M (rI r) := by
  have key : Ev 0 (fun _ => 0) (vm_Cl (d + 1)) vp_13 2 6 false (some (.int)) (rI r) 0 (lv_args 0 [.ref (x0), .int (x1), .int (x2), .int (x3), .int (x4)]) [] M := by
    have l0 : (0, .ref (x0)) ∈ lv_args 0 [.ref (x0), .int (x1), .int (x2), .int (x3), .int (x4)] := List.Mem.head _
    have l1 : (1, .int (x1)) ∈ lv_args 0 [.ref (x0), .int (x1), .int (x2), .int (x3), .int (x4)] := List.Mem.tail _ (List.Mem.head _)
    have l2 : (2, .int (x2)) ∈ lv_args 0 [.ref (x0), .int (x1), .int (x2), .int (x3), .int (x4)] := List.Mem.tail _ (List.Mem.tail _ (List.Mem.head _))
    have l3 : (3, .int (x3)) ∈ lv_args 0 [.ref (x0), .int (x1), .int (x2), .int (x3), .int (x4)] := List.Mem.tail _ (List.Mem.tail _ (List.Mem.tail _ (List.Mem.head _)))
    have l4 : (4, .int (x4)) ∈ lv_args 0 [.ref (x0), .int (x1), .int (x2), .int (x3), .int (x4)] := List.Mem.tail _ (List.Mem.tail _ (List.Mem.tail _ (List.Mem.tail _ (List.Mem.head _))))
    unfold f13 at h
    refine ev_iload_n (mm 0 rfl) l3 ?_
    refine evs_istore (mm 1 rfl) (by decide) (fun lv1 l5 s2 => ?_)
    have l0 := s2 _ _ l0 rfl
    have l1 := s2 _ _ l1 rfl
    have l2 := s2 _ _ l2 rfl
    have l4 := s2 _ _ l4 rfl
    refine f13_l3_ok 100000 l0 l1 l2 l4 l5 h
  exact ⟨by decide, Nat.le_of_ble_eq_true rfl, key.1, key.2⟩
def f14_l6 (x0 : Nat) (x1 : Int32) (x2 : Int32) (x3 : Int32) : Nat → Int32 → Int32 → vm_M → Option (Int32 × vm_M)
  | 0 => fun _ _ _ => none
  | n + 1 => fun x4 x5 M =>
    if 6 ≤ x5 then
      some (x4, M)
    else
      (s_ob M x0 2).bind fun _ =>
      (f12 x0 x1 x2 x5 x3 M).bind fun p6 =>
      if p6.1 = (-1) then
        f14_l6 x0 x1 x2 x3 n x4 (x5 + 1) p6.2
      else
        f14_l6 x0 x1 x2 x3 n (x4 ||| (1 <<< (x5 &&& 31))) (x5 + 1) p6.2
theorem f14_l6_ok {d : Nat} {x0 : Nat} {x1 : Int32} {x2 : Int32} {x3 : Int32} {r : Int32 × vm_M} : ∀ (n : Nat) {x4 : Int32} {x5 : Int32} {M : vm_M} {lv : vm_L}, (0, .ref (x0)) ∈ lv → (1, .int (x1)) ∈ lv → (2, .int (x2)) ∈ lv → (3, .int (x3)) ∈ lv → (4, .int (x4)) ∈ lv → (5, .int (x5)) ∈ lv → f14_l6 x0 x1 x2 x3 n x4 x5 M = some r → Ev 0 (fun _ => 0) (vm_Cl (d + 1)) vp_14 2 6 false (some (.int)) (rI r) 6 lv [] M := by
  intro n
  induction n with
  | zero =>
    intro x4 x5 M lv l0 l1 l2 l3 l4 l5 h
    cases h
  | succ n ih =>
    intro x4 x5 M lv l0 l1 l2 l3 l4 l5 h
    dsimp only [f14_l6] at h
    refine ev_iload (mm 4 rfl) l5 ?_
    refine ev_bipush (mm 5 rfl) cB_6 ?_
    rcases ite_so h with ⟨c5, h⟩ | ⟨c5, h⟩
    · refine ev_ic_t 41 (mm 6 rfl) rfl c5 ?_
      refine ev_iload (mm 23 rfl) l4 ?_
      exact ev_ireturn (mm 24 rfl) h
    · refine ev_ic_f 41 (mm 6 rfl) rfl c5 ?_
      refine ev_aload_nR (mm 7 rfl) l0 ?_
      refine ev_iload_n (mm 8 rfl) l1 ?_
      refine ev_iload_n (mm 9 rfl) l2 ?_
      refine ev_iload (mm 10 rfl) l5 ?_
      refine ev_iload_n (mm 11 rfl) l3 ?_
      obtain ⟨_, e15, h⟩ := bind_so h
      obtain ⟨p6, e7, h⟩ := bind_so h
      refine ev_callV_I [.int (x1), .int (x2), .int (x5), .int (x3)] (mm 12 rfl) rfl rfl (Nat.le_of_ble_eq_true rfl) (s_ob_of e15) (f12_ok e7 (d + 0)) ?_
      refine ev_iconst (mm 13 rfl) cI_m1 ?_
      rcases ite_so h with ⟨c8, h⟩ | ⟨c8, h⟩
      · refine ev_ic_t 35 (mm 14 rfl) rfl c8 ?_
        refine evs_iinc (mm 21 rfl) cI_1 l5 (by decide) (fun lv9 l5 s10 => ?_)
        have l0 := s10 _ _ l0 rfl
        have l1 := s10 _ _ l1 rfl
        have l2 := s10 _ _ l2 rfl
        have l3 := s10 _ _ l3 rfl
        have l4 := s10 _ _ l4 rfl
        refine ev_goto 6 (mm 22 rfl) rfl ?_
        exact ih l0 l1 l2 l3 l4 l5 h
      · refine ev_ic_f 35 (mm 14 rfl) rfl c8 ?_
        refine ev_iload (mm 15 rfl) l4 ?_
        refine ev_iconst (mm 16 rfl) cI_1 ?_
        refine ev_iload (mm 17 rfl) l5 ?_
        refine ev_ishl (mm 18 rfl) ?_
        refine ev_ior (mm 19 rfl) ?_
        refine evs_istore (mm 20 rfl) (by decide) (fun lv11 l4 s12 => ?_)
        have l0 := s12 _ _ l0 rfl
        have l1 := s12 _ _ l1 rfl
        have l2 := s12 _ _ l2 rfl
        have l3 := s12 _ _ l3 rfl
        have l5 := s12 _ _ l5 rfl
        refine evs_iinc (mm 21 rfl) cI_1 l5 (by decide) (fun lv13 l5 s14 => ?_)
        have l0 := s14 _ _ l0 rfl
        have l1 := s14 _ _ l1 rfl
        have l2 := s14 _ _ l2 rfl
        have l3 := s14 _ _ l3 rfl
        have l4 := s14 _ _ l4 rfl
        refine ev_goto 6 (mm 22 rfl) rfl ?_
        exact ih l0 l1 l2 l3 l4 l5 h
/-- PupilCoin$Marks.toldBits(III)I -/
def f14 (x0 : Nat) (x1 : Int32) (x2 : Int32) (x3 : Int32) (M : vm_M) : Option (Int32 × vm_M) :=
  f14_l6 x0 x1 x2 x3
  
    100000 0 0 M
theorem f14_ok {x0 : Nat} {x1 : Int32} {x2 : Int32} {x3 : Int32} {M : vm_M} {r : Int32 × vm_M} (h : f14 x0 x1 x2 x3 M = some r) (d : Nat) : vm_Cl (d + 2) 14 [.ref (x0), .int (x1), .int (x2), .int (x3)] M (rI r) := by
  have key : Ev 0 (fun _ => 0) (vm_Cl (d + 1)) vp_14 2 6 false (some (.int)) (rI r) 0 (lv_args 0 [.ref (x0), .int (x1), .int (x2), .int (x3)]) [] M := by
    have l0 : (0, .ref (x0)) ∈ lv_args 0 [.ref (x0), .int (x1), .int (x2), .int (x3)] := List.Mem.head _
    have l1 : (1, .int (x1)) ∈ lv_args 0 [.ref (x0), .int (x1), .int (x2), .int (x3)] := List.Mem.tail _ (List.Mem.head _)
    have l2 : (2, .int (x2)) ∈ lv_args 0 [.ref (x0), .int (x1), .int (x2), .int (x3)] := List.Mem.tail _ (List.Mem.tail _ (List.Mem.head _))
    have l3 : (3, .int (x3)) ∈ lv_args 0 [.ref (x0), .int (x1), .int (x2), .int (x3)] := List.Mem.tail _ (List.Mem.tail _ (List.Mem.tail _ (List.Mem.head _)))
    unfold f14 at h
    refine ev_iconst (mm 0 rfl) cI_0 ?_
    refine evs_istore (mm 1 rfl) (by decide) (fun lv1 l4 s2 => ?_)
    have l0 := s2 _ _ l0 rfl
    have l1 := s2 _ _ l1 rfl
    have l2 := s2 _ _ l2 rfl
    have l3 := s2 _ _ l3 rfl
    refine ev_iconst (mm 2 rfl) cI_0 ?_
    refine evs_istore (mm 3 rfl) (by decide) (fun lv3 l5 s4 => ?_)
    have l0 := s4 _ _ l0 rfl
    have l1 := s4 _ _ l1 rfl
    have l2 := s4 _ _ l2 rfl
    have l3 := s4 _ _ l3 rfl
    have l4 := s4 _ _ l4 rfl
    refine f14_l6_ok 100000 l0 l1 l2 l3 l4 l5 h
  exact ⟨by decide, Nat.le_of_ble_eq_true rfl, key.1, key.2⟩
def f15_l6 (x0 : Nat) (x1 : Int32) (x2 : Int32) (x3 : Int32) (x4 : Int32) (k42 : Int32 → vm_M → Option (Int32 × vm_M)) : Nat → Int32 → Int32 → vm_M → Option (Int32 × vm_M)
  | 0 => fun _ _ _ => none
  | n + 1 => fun x5 x6 M =>
    if 3 ≤ x6 then
      k42 x5 M
    else
      if (x4 &&& (1 <<< (x6 &&& 31))) = 0 then
        f15_l6 x0 x1 x2 x3 x4 k42 n x5 (x6 + 1) M
      else
        (s_ob M x0 2).bind fun _ =>
        (f12 x0 x1 x2 x6 x3 M).bind fun p9 =>
        f15_l6 x0 x1 x2 x3 x4 k42 n (x5 + p9.1) (x6 + 1) p9.2
theorem f15_l6_ok {d : Nat} {x0 : Nat} {x1 : Int32} {x2 : Int32} {x3 : Int32} {x4 : Int32} {k42 : Int32 → vm_M → Option (Int32 × vm_M)} {r : Int32 × vm_M} (hk42 : ∀ {y5 : Int32} {M : vm_M} {lv : vm_L}, (0, .ref (x0)) ∈ lv → (1, .int (x1)) ∈ lv → (2, .int (x2)) ∈ lv → (3, .int (x3)) ∈ lv → (4, .int (x4)) ∈ lv → (5, .int (y5)) ∈ lv → k42 y5 M = some r → Ev 0 (fun _ => 0) (vm_Cl (d + 1)) vp_15 2 9 false (some (.boolean)) (rI r) 42 lv [] M) : ∀ (n : Nat) {x5 : Int32} {x6 : Int32} {M : vm_M} {lv : vm_L}, (0, .ref (x0)) ∈ lv → (1, .int (x1)) ∈ lv → (2, .int (x2)) ∈ lv → (3, .int (x3)) ∈ lv → (4, .int (x4)) ∈ lv → (5, .int (x5)) ∈ lv → (6, .int (x6)) ∈ lv → f15_l6 x0 x1 x2 x3 x4 k42 n x5 x6 M = some r → Ev 0 (fun _ => 0) (vm_Cl (d + 1)) vp_15 2 9 false (some (.boolean)) (rI r) 6 lv [] M := by
  intro n
  induction n with
  | zero =>
    intro x5 x6 M lv l0 l1 l2 l3 l4 l5 l6 h
    cases h
  | succ n ih =>
    intro x5 x6 M lv l0 l1 l2 l3 l4 l5 l6 h
    dsimp only [f15_l6] at h
    refine ev_iload (mm 4 rfl) l6 ?_
    refine ev_iconst (mm 5 rfl) cI_3 ?_
    rcases ite_so h with ⟨c5, h⟩ | ⟨c5, h⟩
    · refine ev_ic_t 42 (mm 6 rfl) rfl c5 ?_
      exact hk42 l0 l1 l2 l3 l4 l5 h
    · refine ev_ic_f 42 (mm 6 rfl) rfl c5 ?_
      refine ev_iload (mm 7 rfl) l4 ?_
      refine ev_iconst (mm 8 rfl) cI_1 ?_
      refine ev_iload (mm 9 rfl) l6 ?_
      refine ev_ishl (mm 10 rfl) ?_
      refine ev_iand (mm 11 rfl) ?_
      rcases ite_so h with ⟨c6, h⟩ | ⟨c6, h⟩
      · refine ev_if_t 36 (mm 12 rfl) rfl c6 ?_
        refine evs_iinc (mm 22 rfl) cI_1 l6 (by decide) (fun lv7 l6 s8 => ?_)
        have l0 := s8 _ _ l0 rfl
        have l1 := s8 _ _ l1 rfl
        have l2 := s8 _ _ l2 rfl
        have l3 := s8 _ _ l3 rfl
        have l4 := s8 _ _ l4 rfl
        have l5 := s8 _ _ l5 rfl
        refine ev_goto 6 (mm 23 rfl) rfl ?_
        exact ih l0 l1 l2 l3 l4 l5 l6 h
      · refine ev_if_f 36 (mm 12 rfl) rfl c6 ?_
        refine ev_iload (mm 13 rfl) l5 ?_
        refine ev_aload_nR (mm 14 rfl) l0 ?_
        refine ev_iload_n (mm 15 rfl) l1 ?_
        refine ev_iload_n (mm 16 rfl) l2 ?_
        refine ev_iload (mm 17 rfl) l6 ?_
        refine ev_iload_n (mm 18 rfl) l3 ?_
        obtain ⟨_, e15, h⟩ := bind_so h
        obtain ⟨p9, e10, h⟩ := bind_so h
        refine ev_callV_I [.int (x1), .int (x2), .int (x6), .int (x3)] (mm 19 rfl) rfl rfl (Nat.le_of_ble_eq_true rfl) (s_ob_of e15) (f12_ok e10 (d + 0)) ?_
        refine ev_iadd (mm 20 rfl) ?_
        refine evs_istore (mm 21 rfl) (by decide) (fun lv11 l5 s12 => ?_)
        have l0 := s12 _ _ l0 rfl
        have l1 := s12 _ _ l1 rfl
        have l2 := s12 _ _ l2 rfl
        have l3 := s12 _ _ l3 rfl
        have l4 := s12 _ _ l4 rfl
        have l6 := s12 _ _ l6 rfl
        refine evs_iinc (mm 22 rfl) cI_1 l6 (by decide) (fun lv13 l6 s14 => ?_)
        have l0 := s14 _ _ l0 rfl
        have l1 := s14 _ _ l1 rfl
        have l2 := s14 _ _ l2 rfl
        have l3 := s14 _ _ l3 rfl
        have l4 := s14 _ _ l4 rfl
        have l5 := s14 _ _ l5 rfl
        refine ev_goto 6 (mm 23 rfl) rfl ?_
        exact ih l0 l1 l2 l3 l4 l5 l6 h
def f15_j153 (x0 : Nat) (x1 : Int32) (x2 : Int32) (x3 : Int32) (x4 : Int32) (x8 : Int32) (M : vm_M) : Option (Int32 × vm_M) :=
  if (x4 &&& 16) = 0 then
    s_rb 1 M
  else
    (s_ob M x0 2).bind fun _ =>
    (f12 x0 x1 x2 4 x3 M).bind fun p32 =>
    if x8 < p32.1 then
      s_rb 0 p32.2
    else
      s_rb 1 p32.2
theorem f15_j153_ok {d : Nat} {x0 : Nat} {x1 : Int32} {x2 : Int32} {x3 : Int32} {x4 : Int32} {x8 : Int32} {M : vm_M} {r : Int32 × vm_M} {lv : vm_L} (l0 : (0, .ref (x0)) ∈ lv) (l1 : (1, .int (x1)) ∈ lv) (l2 : (2, .int (x2)) ∈ lv) (l3 : (3, .int (x3)) ∈ lv) (l4 : (4, .int (x4)) ∈ lv) (l8 : (8, .int (x8)) ∈ lv) (h : f15_j153 x0 x1 x2 x3 x4 x8 M = some r) : Ev 0 (fun _ => 0) (vm_Cl (d + 1)) vp_15 2 9 false (some (.boolean)) (rI r) 153 lv [] M := by
  unfold f15_j153 at h
  refine ev_iload (mm 83 rfl) l4 ?_
  refine ev_bipush (mm 84 rfl) cB_16 ?_
  refine ev_iand (mm 85 rfl) ?_
  rcases ite_so h with ⟨c31, h⟩ | ⟨c31, h⟩
  · refine ev_if_t 174 (mm 86 rfl) rfl c31 ?_
    refine ev_iconst (mm 95 rfl) cI_1 ?_
    refine ev_goto 179 (mm 96 rfl) rfl ?_
    exact ev_zreturn (mm 98 rfl) h
  · refine ev_if_f 174 (mm 86 rfl) rfl c31 ?_
    refine ev_aload_nR (mm 87 rfl) l0 ?_
    refine ev_iload_n (mm 88 rfl) l1 ?_
    refine ev_iload_n (mm 89 rfl) l2 ?_
    refine ev_iconst (mm 90 rfl) cI_4 ?_
    refine ev_iload_n (mm 91 rfl) l3 ?_
    obtain ⟨_, e35, h⟩ := bind_so h
    obtain ⟨p32, e33, h⟩ := bind_so h
    refine ev_callV_I [.int (x1), .int (x2), .int (4), .int (x3)] (mm 92 rfl) rfl rfl (Nat.le_of_ble_eq_true rfl) (s_ob_of e35) (f12_ok e33 (d + 0)) ?_
    refine ev_iload (mm 93 rfl) l8 ?_
    rcases ite_so h with ⟨c34, h⟩ | ⟨c34, h⟩
    · refine ev_ic_t 178 (mm 94 rfl) rfl c34 ?_
      refine ev_iconst (mm 97 rfl) cI_0 ?_
      exact ev_zreturn (mm 98 rfl) h
    · refine ev_ic_f 178 (mm 94 rfl) rfl c34 ?_
      refine ev_iconst (mm 95 rfl) cI_1 ?_
      refine ev_goto 179 (mm 96 rfl) rfl ?_
      exact ev_zreturn (mm 98 rfl) h
def f15_j130 (x0 : Nat) (x1 : Int32) (x2 : Int32) (x3 : Int32) (x4 : Int32) (x8 : Int32) (M : vm_M) : Option (Int32 × vm_M) :=
  if (x4 &&& 8) = 0 then
    f15_j153 x0 x1 x2 x3 x4 x8 M
  else
    (s_ob M x0 2).bind fun _ =>
    (f12 x0 x1 x2 3 x3 M).bind fun p36 =>
    if p36.1 ≤ x8 then
      f15_j153 x0 x1 x2 x3 x4 x8 p36.2
    else
      s_rb 0 p36.2
theorem f15_j130_ok {d : Nat} {x0 : Nat} {x1 : Int32} {x2 : Int32} {x3 : Int32} {x4 : Int32} {x8 : Int32} {M : vm_M} {r : Int32 × vm_M} {lv : vm_L} (l0 : (0, .ref (x0)) ∈ lv) (l1 : (1, .int (x1)) ∈ lv) (l2 : (2, .int (x2)) ∈ lv) (l3 : (3, .int (x3)) ∈ lv) (l4 : (4, .int (x4)) ∈ lv) (l8 : (8, .int (x8)) ∈ lv) (h : f15_j130 x0 x1 x2 x3 x4 x8 M = some r) : Ev 0 (fun _ => 0) (vm_Cl (d + 1)) vp_15 2 9 false (some (.boolean)) (rI r) 130 lv [] M := by
  unfold f15_j130 at h
  refine ev_iload (mm 69 rfl) l4 ?_
  refine ev_bipush (mm 70 rfl) cB_8 ?_
  refine ev_iand (mm 71 rfl) ?_
  rcases ite_so h with ⟨c30, h⟩ | ⟨c30, h⟩
  · refine ev_if_t 153 (mm 72 rfl) rfl c30 ?_
    exact f15_j153_ok l0 l1 l2 l3 l4 l8 h
  · refine ev_if_f 153 (mm 72 rfl) rfl c30 ?_
    refine ev_aload_nR (mm 73 rfl) l0 ?_
    refine ev_iload_n (mm 74 rfl) l1 ?_
    refine ev_iload_n (mm 75 rfl) l2 ?_
    refine ev_iconst (mm 76 rfl) cI_3 ?_
    refine ev_iload_n (mm 77 rfl) l3 ?_
    obtain ⟨_, e39, h⟩ := bind_so h
    obtain ⟨p36, e37, h⟩ := bind_so h
    refine ev_callV_I [.int (x1), .int (x2), .int (3), .int (x3)] (mm 78 rfl) rfl rfl (Nat.le_of_ble_eq_true rfl) (s_ob_of e39) (f12_ok e37 (d + 0)) ?_
    refine ev_iload (mm 79 rfl) l8 ?_
    rcases ite_so h with ⟨c38, h⟩ | ⟨c38, h⟩
    · refine ev_ic_t 153 (mm 80 rfl) rfl c38 ?_
      exact f15_j153_ok l0 l1 l2 l3 l4 l8 h
    · refine ev_ic_f 153 (mm 80 rfl) rfl c38 ?_
      refine ev_iconst (mm 81 rfl) cI_0 ?_
      exact ev_zreturn (mm 82 rfl) h
def f15_j104 (x0 : Nat) (x1 : Int32) (x2 : Int32) (x3 : Int32) (x4 : Int32) (x5 : Int32) (x6 : Int32) (s0 : Int32) (M : vm_M) : Option (Int32 × vm_M) :=
  if x6 = 0 then
    if x5 ≤ s0 then
      f15_j130 x0 x1 x2 x3 x4 s0 M
    else
      s_rb 0 M
  else
    if x5 = s0 then
      f15_j130 x0 x1 x2 x3 x4 s0 M
    else
      s_rb 0 M
theorem f15_j104_ok {d : Nat} {x0 : Nat} {x1 : Int32} {x2 : Int32} {x3 : Int32} {x4 : Int32} {x5 : Int32} {x6 : Int32} {s0 : Int32} {M : vm_M} {r : Int32 × vm_M} {lv : vm_L} (l0 : (0, .ref (x0)) ∈ lv) (l1 : (1, .int (x1)) ∈ lv) (l2 : (2, .int (x2)) ∈ lv) (l3 : (3, .int (x3)) ∈ lv) (l4 : (4, .int (x4)) ∈ lv) (l5 : (5, .int (x5)) ∈ lv) (l6 : (6, .int (x6)) ∈ lv) (h : f15_j104 x0 x1 x2 x3 x4 x5 x6 s0 M = some r) : Ev 0 (fun _ => 0) (vm_Cl (d + 1)) vp_15 2 9 false (some (.boolean)) (rI r) 104 lv [.int (s0)] M := by
  unfold f15_j104 at h
  refine evs_istore (mm 57 rfl) (by decide) (fun lv26 l8 s27 => ?_)
  have l0 := s27 _ _ l0 rfl
  have l1 := s27 _ _ l1 rfl
  have l2 := s27 _ _ l2 rfl
  have l3 := s27 _ _ l3 rfl
  have l4 := s27 _ _ l4 rfl
  have l5 := s27 _ _ l5 rfl
  have l6 := s27 _ _ l6 rfl
  refine ev_iload (mm 58 rfl) l6 ?_
  rcases ite_so h with ⟨c28, h⟩ | ⟨c28, h⟩
  · refine ev_if_t 121 (mm 59 rfl) rfl c28 ?_
    refine ev_iload (mm 64 rfl) l5 ?_
    refine ev_iload (mm 65 rfl) l8 ?_
    rcases ite_so h with ⟨c29, h⟩ | ⟨c29, h⟩
    · refine ev_ic_t 130 (mm 66 rfl) rfl c29 ?_
      exact f15_j130_ok l0 l1 l2 l3 l4 l8 h
    · refine ev_ic_f 130 (mm 66 rfl) rfl c29 ?_
      refine ev_iconst (mm 67 rfl) cI_0 ?_
      exact ev_zreturn (mm 68 rfl) h
  · refine ev_if_f 121 (mm 59 rfl) rfl c28 ?_
    refine ev_iload (mm 60 rfl) l5 ?_
    refine ev_iload (mm 61 rfl) l8 ?_
    rcases ite_so h with ⟨c40, h⟩ | ⟨c40, h⟩
    · refine ev_ic_t 130 (mm 62 rfl) rfl c40 ?_
      exact f15_j130_ok l0 l1 l2 l3 l4 l8 h
    · refine ev_ic_f 130 (mm 62 rfl) rfl c40 ?_
      refine ev_goto 128 (mm 63 rfl) rfl ?_
      refine ev_iconst (mm 67 rfl) cI_0 ?_
      exact ev_zreturn (mm 68 rfl) h
def f15_j86 (x0 : Nat) (x1 : Int32) (x2 : Int32) (x3 : Int32) (x4 : Int32) (x5 : Int32) (x6 : Int32) (x7 : Int32) (M : vm_M) : Option (Int32 × vm_M) :=
  if x7 = 0 then
    f15_j104 x0 x1 x2 x3 x4 x5 x6 x5 M
  else
    (s_ob M x0 2).bind fun _ =>
    (f12 x0 x1 x2 5 x3 M).bind fun p41 =>
    f15_j104 x0 x1 x2 x3 x4 x5 x6 p41.1 p41.2
theorem f15_j86_ok {d : Nat} {x0 : Nat} {x1 : Int32} {x2 : Int32} {x3 : Int32} {x4 : Int32} {x5 : Int32} {x6 : Int32} {x7 : Int32} {M : vm_M} {r : Int32 × vm_M} {lv : vm_L} (l0 : (0, .ref (x0)) ∈ lv) (l1 : (1, .int (x1)) ∈ lv) (l2 : (2, .int (x2)) ∈ lv) (l3 : (3, .int (x3)) ∈ lv) (l4 : (4, .int (x4)) ∈ lv) (l5 : (5, .int (x5)) ∈ lv) (l6 : (6, .int (x6)) ∈ lv) (l7 : (7, .int (x7)) ∈ lv) (h : f15_j86 x0 x1 x2 x3 x4 x5 x6 x7 M = some r) : Ev 0 (fun _ => 0) (vm_Cl (d + 1)) vp_15 2 9 false (some (.boolean)) (rI r) 86 lv [] M := by
  unfold f15_j86 at h
  refine ev_iload (mm 47 rfl) l7 ?_
  rcases ite_so h with ⟨c25, h⟩ | ⟨c25, h⟩
  · refine ev_if_t 102 (mm 48 rfl) rfl c25 ?_
    refine ev_iload (mm 56 rfl) l5 ?_
    exact f15_j104_ok l0 l1 l2 l3 l4 l5 l6 h
  · refine ev_if_f 102 (mm 48 rfl) rfl c25 ?_
    refine ev_aload_nR (mm 49 rfl) l0 ?_
    refine ev_iload_n (mm 50 rfl) l1 ?_
    refine ev_iload_n (mm 51 rfl) l2 ?_
    refine ev_iconst (mm 52 rfl) cI_5 ?_
    refine ev_iload_n (mm 53 rfl) l3 ?_
    obtain ⟨_, e43, h⟩ := bind_so h
    obtain ⟨p41, e42, h⟩ := bind_so h
    refine ev_callV_I [.int (x1), .int (x2), .int (5), .int (x3)] (mm 54 rfl) rfl rfl (Nat.le_of_ble_eq_true rfl) (s_ob_of e43) (f12_ok e42 (d + 0)) ?_
    refine ev_goto 104 (mm 55 rfl) rfl ?_
    exact f15_j104_ok l0 l1 l2 l3 l4 l5 l6 h
def f15_j72 (x0 : Nat) (x1 : Int32) (x2 : Int32) (x3 : Int32) (x4 : Int32) (x5 : Int32) (x6 : Int32) (s0 : Int32) (M : vm_M) : Option (Int32 × vm_M) :=
  if ¬ s0 = 0 then
    f15_j86 x0 x1 x2 x3 x4 x5 x6 s0 M
  else
    if ¬ x6 = 0 then
      f15_j86 x0 x1 x2 x3 x4 x5 x6 s0 M
    else
      s_rb 1 M
theorem f15_j72_ok {d : Nat} {x0 : Nat} {x1 : Int32} {x2 : Int32} {x3 : Int32} {x4 : Int32} {x5 : Int32} {x6 : Int32} {s0 : Int32} {M : vm_M} {r : Int32 × vm_M} {lv : vm_L} (l0 : (0, .ref (x0)) ∈ lv) (l1 : (1, .int (x1)) ∈ lv) (l2 : (2, .int (x2)) ∈ lv) (l3 : (3, .int (x3)) ∈ lv) (l4 : (4, .int (x4)) ∈ lv) (l5 : (5, .int (x5)) ∈ lv) (l6 : (6, .int (x6)) ∈ lv) (h : f15_j72 x0 x1 x2 x3 x4 x5 x6 s0 M = some r) : Ev 0 (fun _ => 0) (vm_Cl (d + 1)) vp_15 2 9 false (some (.boolean)) (rI r) 72 lv [.int (s0)] M := by
  unfold f15_j72 at h
  refine evs_istore (mm 40 rfl) (by decide) (fun lv22 l7 s23 => ?_)
  have l0 := s23 _ _ l0 rfl
  have l1 := s23 _ _ l1 rfl
  have l2 := s23 _ _ l2 rfl
  have l3 := s23 _ _ l3 rfl
  have l4 := s23 _ _ l4 rfl
  have l5 := s23 _ _ l5 rfl
  have l6 := s23 _ _ l6 rfl
  refine ev_iload (mm 41 rfl) l7 ?_
  rcases ite_so h with ⟨c24, h⟩ | ⟨c24, h⟩
  · refine ev_if_t 86 (mm 42 rfl) rfl c24 ?_
    exact f15_j86_ok l0 l1 l2 l3 l4 l5 l6 l7 h
  · refine ev_if_f 86 (mm 42 rfl) rfl c24 ?_
    refine ev_iload (mm 43 rfl) l6 ?_
    rcases ite_so h with ⟨c44, h⟩ | ⟨c44, h⟩
    · refine ev_if_t 86 (mm 44 rfl) rfl c44 ?_
      exact f15_j86_ok l0 l1 l2 l3 l4 l5 l6 l7 h
    · refine ev_if_f 86 (mm 44 rfl) rfl c44 ?_
      refine ev_iconst (mm 45 rfl) cI_1 ?_
      exact ev_zreturn (mm 46 rfl) h
def f15_j57 (x0 : Nat) (x1 : Int32) (x2 : Int32) (x3 : Int32) (x4 : Int32) (x5 : Int32) (s0 : Int32) (M : vm_M) : Option (Int32 × vm_M) :=
  if (x4 &&& 32) = 0 then
    f15_j72 x0 x1 x2 x3 x4 x5 s0 0 M
  else
    f15_j72 x0 x1 x2 x3 x4 x5 s0 1 M
theorem f15_j57_ok {d : Nat} {x0 : Nat} {x1 : Int32} {x2 : Int32} {x3 : Int32} {x4 : Int32} {x5 : Int32} {s0 : Int32} {M : vm_M} {r : Int32 × vm_M} {lv : vm_L} (l0 : (0, .ref (x0)) ∈ lv) (l1 : (1, .int (x1)) ∈ lv) (l2 : (2, .int (x2)) ∈ lv) (l3 : (3, .int (x3)) ∈ lv) (l4 : (4, .int (x4)) ∈ lv) (l5 : (5, .int (x5)) ∈ lv) (h : f15_j57 x0 x1 x2 x3 x4 x5 s0 M = some r) : Ev 0 (fun _ => 0) (vm_Cl (d + 1)) vp_15 2 9 false (some (.boolean)) (rI r) 57 lv [.int (s0)] M := by
  unfold f15_j57 at h
  refine evs_istore (mm 32 rfl) (by decide) (fun lv19 l6 s20 => ?_)
  have l0 := s20 _ _ l0 rfl
  have l1 := s20 _ _ l1 rfl
  have l2 := s20 _ _ l2 rfl
  have l3 := s20 _ _ l3 rfl
  have l4 := s20 _ _ l4 rfl
  have l5 := s20 _ _ l5 rfl
  refine ev_iload (mm 33 rfl) l4 ?_
  refine ev_bipush (mm 34 rfl) cB_32 ?_
  refine ev_iand (mm 35 rfl) ?_
  rcases ite_so h with ⟨c21, h⟩ | ⟨c21, h⟩
  · refine ev_if_t 71 (mm 36 rfl) rfl c21 ?_
    refine ev_iconst (mm 39 rfl) cI_0 ?_
    exact f15_j72_ok l0 l1 l2 l3 l4 l5 l6 h
  · refine ev_if_f 71 (mm 36 rfl) rfl c21 ?_
    refine ev_iconst (mm 37 rfl) cI_1 ?_
    refine ev_goto 72 (mm 38 rfl) rfl ?_
    exact f15_j72_ok l0 l1 l2 l3 l4 l5 l6 h
/-- PupilCoin$Marks.canBe(IIII)Z -/
def f15 (x0 : Nat) (x1 : Int32) (x2 : Int32) (x3 : Int32) (x4 : Int32) (M : vm_M) : Option (Int32 × vm_M) :=
  f15_l6 x0 x1 x2 x3 x4
    (fun y16 M17 =>
      if ¬ (x4 &&& 7) = 7 then
        f15_j57 x0 x1 x2 x3 x4 y16 0 M17
      else
        f15_j57 x0 x1 x2 x3 x4 y16 1 M17)
    100000 0 0 M
theorem f15_ok {x0 : Nat} {x1 : Int32} {x2 : Int32} {x3 : Int32} {x4 : Int32} {M : vm_M} {r : Int32 × vm_M} (h : f15 x0 x1 x2 x3 x4 M = some r) (d : Nat) : vm_Cl (d + 2) 15 [.ref (x0), .int (x1), .int (x2), .int (x3), .int (x4)] M (rI r) := by
  have key : Ev 0 (fun _ => 0) (vm_Cl (d + 1)) vp_15 2 9 false (some (.boolean)) (rI r) 0 (lv_args 0 [.ref (x0), .int (x1), .int (x2), .int (x3), .int (x4)]) [] M := by
    have l0 : (0, .ref (x0)) ∈ lv_args 0 [.ref (x0), .int (x1), .int (x2), .int (x3), .int (x4)] := List.Mem.head _
    have l1 : (1, .int (x1)) ∈ lv_args 0 [.ref (x0), .int (x1), .int (x2), .int (x3), .int (x4)] := List.Mem.tail _ (List.Mem.head _)
    have l2 : (2, .int (x2)) ∈ lv_args 0 [.ref (x0), .int (x1), .int (x2), .int (x3), .int (x4)] := List.Mem.tail _ (List.Mem.tail _ (List.Mem.head _))
    have l3 : (3, .int (x3)) ∈ lv_args 0 [.ref (x0), .int (x1), .int (x2), .int (x3), .int (x4)] := List.Mem.tail _ (List.Mem.tail _ (List.Mem.tail _ (List.Mem.head _)))
    have l4 : (4, .int (x4)) ∈ lv_args 0 [.ref (x0), .int (x1), .int (x2), .int (x3), .int (x4)] := List.Mem.tail _ (List.Mem.tail _ (List.Mem.tail _ (List.Mem.tail _ (List.Mem.head _))))
    unfold f15 at h
    refine ev_iconst (mm 0 rfl) cI_0 ?_
    refine evs_istore (mm 1 rfl) (by decide) (fun lv1 l5 s2 => ?_)
    have l0 := s2 _ _ l0 rfl
    have l1 := s2 _ _ l1 rfl
    have l2 := s2 _ _ l2 rfl
    have l3 := s2 _ _ l3 rfl
    have l4 := s2 _ _ l4 rfl
    refine ev_iconst (mm 2 rfl) cI_0 ?_
    refine evs_istore (mm 3 rfl) (by decide) (fun lv3 l6 s4 => ?_)
    have l0 := s4 _ _ l0 rfl
    have l1 := s4 _ _ l1 rfl
    have l2 := s4 _ _ l2 rfl
    have l3 := s4 _ _ l3 rfl
    have l4 := s4 _ _ l4 rfl
    have l5 := s4 _ _ l5 rfl
    refine f15_l6_ok ?_ 100000 l0 l1 l2 l3 l4 l5 l6 h
    · intro y16 M17 lv l0 l1 l2 l3 l4 l5
      intro h
      refine ev_iload (mm 24 rfl) l4 ?_
      refine ev_bipush (mm 25 rfl) cB_7 ?_
      refine ev_iand (mm 26 rfl) ?_
      refine ev_bipush (mm 27 rfl) cB_7 ?_
      rcases ite_so h with ⟨c18, h⟩ | ⟨c18, h⟩
      · refine ev_ic_t 56 (mm 28 rfl) rfl c18 ?_
        refine ev_iconst (mm 31 rfl) cI_0 ?_
        exact f15_j57_ok l0 l1 l2 l3 l4 l5 h
      · refine ev_ic_f 56 (mm 28 rfl) rfl c18 ?_
        refine ev_iconst (mm 29 rfl) cI_1 ?_
        refine ev_goto 57 (mm 30 rfl) rfl ?_
        exact f15_j57_ok l0 l1 l2 l3 l4 l5 h
  exact ⟨by decide, Nat.le_of_ble_eq_true rfl, key.1, key.2⟩
/-- PupilCoin$Mill.<init>()V -/
def f16 (x0 : Nat) (M : vm_M) : Option (vm_M) :=
  (s_na M 1 10).bind fun M1 =>
  (sp_r M1 x0 3 0 (some (vm_n M))).bind fun M3 =>
  (s_na M3 1 64).bind fun M5 =>
  (sp_r M5 x0 3 1 (some (vm_n M3))).bind fun M7 =>
  some M7
theorem f16_ok {x0 : Nat} {M : vm_M} {r : vm_M} (h : f16 x0 M = some r) (d : Nat) : vm_Cl (d + 1) 16 [.ref (x0)] M (rV r) := by
  have key : Ev 0 (fun _ => 0) (vm_Cl (d + 0)) vp_16 3 1 true none (rV r) 0 (lv_args 0 [.ref (x0)]) [] M := by
    have l0 : (0, .ref (x0)) ∈ lv_args 0 [.ref (x0)] := List.Mem.head _
    unfold f16 at h
    refine ev_aload_nR (mm 0 rfl) l0 ?_
    refine ev_obj (mm 1 rfl) (Nat.le_of_ble_eq_true rfl) ?_
    refine ev_aload_nR (mm 2 rfl) l0 ?_
    refine ev_bipush (mm 3 rfl) cB_10 ?_
    obtain ⟨M1, e2, h⟩ := bind_so h
    refine ev_newarray 1 (mm 4 rfl) (by decide) rfl e2 ?_
    obtain ⟨M3, e4, h⟩ := bind_so h
    refine ev_put_R (mm 5 rfl) (fun _ => ⟨rfl, rfl⟩) rfl e4 ?_
    refine ev_aload_nR (mm 6 rfl) l0 ?_
    refine ev_bipush (mm 7 rfl) cB_64 ?_
    obtain ⟨M5, e6, h⟩ := bind_so h
    refine ev_newarray 1 (mm 8 rfl) (by decide) rfl e6 ?_
    obtain ⟨M7, e8, h⟩ := bind_so h
    refine ev_put_R (mm 9 rfl) (fun _ => ⟨rfl, rfl⟩) rfl e8 ?_
    exact ev_return (mm 10 rfl) h
  exact ⟨by decide, Nat.le_of_ble_eq_true rfl, key.1, key.2⟩
/-- PupilCoin$Mill.pushed(II[JI)J -/
def f18 (x0 : Nat) (x1 : Int32) (x2 : Int32) (x3 : Nat) (x4 : Int32) (M : vm_M) : Option (Int64 × vm_M) :=
  if ¬ x1 = 0 then
    if ¬ x1 = 1 then
      (s_len M x3 1).bind fun v3 =>
      if v3 ≤ (x4 + x2) then
        some (0, M)
      else
        (sa_l M x3 (x4 + x2)).bind fun v6 =>
        some (v6, M)
    else
      if 10 ≤ x2 then
        some (0, M)
      else
        (sg_r M x0 3 0).bind fun v9 =>
        (v9).bind fun q11 =>
        (sa_l M q11 x2).bind fun v13 =>
        some (v13, M)
  else
    some ((x2 : Int32).toInt64, M)
theorem f18_ok {x0 : Nat} {x1 : Int32} {x2 : Int32} {x3 : Nat} {x4 : Int32} {M : vm_M} {r : Int64 × vm_M} (h : f18 x0 x1 x2 x3 x4 M = some r) (d : Nat) : vm_Cl (d + 1) 18 [.ref (x0), .int (x1), .int (x2), .ref (x3), .int (x4)] M (rJ r) := by
  have key : Ev 0 (fun _ => 0) (vm_Cl (d + 0)) vp_18 3 5 false (some (.long)) (rJ r) 0 (lv_args 0 [.ref (x0), .int (x1), .int (x2), .ref (x3), .int (x4)]) [] M := by
    have l0 : (0, .ref (x0)) ∈ lv_args 0 [.ref (x0), .int (x1), .int (x2), .ref (x3), .int (x4)] := List.Mem.head _
    have l1 : (1, .int (x1)) ∈ lv_args 0 [.ref (x0), .int (x1), .int (x2), .ref (x3), .int (x4)] := List.Mem.tail _ (List.Mem.head _)
    have l2 : (2, .int (x2)) ∈ lv_args 0 [.ref (x0), .int (x1), .int (x2), .ref (x3), .int (x4)] := List.Mem.tail _ (List.Mem.tail _ (List.Mem.head _))
    have l3 : (3, .ref (x3)) ∈ lv_args 0 [.ref (x0), .int (x1), .int (x2), .ref (x3), .int (x4)] := List.Mem.tail _ (List.Mem.tail _ (List.Mem.tail _ (List.Mem.head _)))
    have l4 : (4, .int (x4)) ∈ lv_args 0 [.ref (x0), .int (x1), .int (x2), .ref (x3), .int (x4)] := List.Mem.tail _ (List.Mem.tail _ (List.Mem.tail _ (List.Mem.tail _ (List.Mem.head _))))
    unfold f18 at h
    refine ev_iload_n (mm 0 rfl) l1 ?_
    rcases ite_so h with ⟨c1, h⟩ | ⟨c1, h⟩
    · refine ev_if_t 7 (mm 1 rfl) rfl c1 ?_
      refine ev_iload_n (mm 5 rfl) l1 ?_
      refine ev_iconst (mm 6 rfl) cI_1 ?_
      rcases ite_so h with ⟨c2, h⟩ | ⟨c2, h⟩
      · refine ev_ic_t 29 (mm 7 rfl) rfl c2 ?_
        refine ev_iload (mm 18 rfl) l4 ?_
        refine ev_iload_n (mm 19 rfl) l2 ?_
        refine ev_iadd (mm 20 rfl) ?_
        refine ev_aload_nR (mm 21 rfl) l3 ?_
        obtain ⟨v3, e4, h⟩ := bind_so h
        refine ev_len (mm 22 rfl) (by decide) e4 ?_
        rcases ite_so h with ⟨c5, h⟩ | ⟨c5, h⟩
        · refine ev_ic_t 47 (mm 23 rfl) rfl c5 ?_
          refine ev_lconst (mm 30 rfl) cL_0 ?_
          exact ev_lreturn (mm 31 rfl) h
        · refine ev_ic_f 47 (mm 23 rfl) rfl c5 ?_
          refine ev_aload_nR (mm 24 rfl) l3 ?_
          refine ev_iload (mm 25 rfl) l4 ?_
          refine ev_iload_n (mm 26 rfl) l2 ?_
          refine ev_iadd (mm 27 rfl) ?_
          obtain ⟨v6, e7, h⟩ := bind_so h
          refine ev_laload (mm 28 rfl) e7 ?_
          refine ev_goto 48 (mm 29 rfl) rfl ?_
          exact ev_lreturn (mm 31 rfl) h
      · refine ev_ic_f 29 (mm 7 rfl) rfl c2 ?_
        refine ev_iload_n (mm 8 rfl) l2 ?_
        refine ev_bipush (mm 9 rfl) cB_10 ?_
        rcases ite_so h with ⟨c8, h⟩ | ⟨c8, h⟩
        · refine ev_ic_t 27 (mm 10 rfl) rfl c8 ?_
          refine ev_lconst (mm 16 rfl) cL_0 ?_
          exact ev_lreturn (mm 17 rfl) h
        · refine ev_ic_f 27 (mm 10 rfl) rfl c8 ?_
          refine ev_aload_nR (mm 11 rfl) l0 ?_
          obtain ⟨v9, e10, h⟩ := bind_so h
          refine ev_get_r (mm 12 rfl) rfl e10 ?_
          refine ev_iload_n (mm 13 rfl) l2 ?_
          obtain ⟨q11, e12, h⟩ := bind_so h
          rw [e12]
          obtain ⟨v13, e14, h⟩ := bind_so h
          refine ev_laload (mm 14 rfl) e14 ?_
          refine ev_goto 28 (mm 15 rfl) rfl ?_
          exact ev_lreturn (mm 17 rfl) h
    · refine ev_if_f 7 (mm 1 rfl) rfl c1 ?_
      refine ev_iload_n (mm 2 rfl) l2 ?_
      refine ev_i2l (mm 3 rfl) ?_
      exact ev_lreturn (mm 4 rfl) h
  exact ⟨by decide, Nat.le_of_ble_eq_true rfl, key.1, key.2⟩
/-- PupilCoin$Mill.both(IJJ)J -/
def f19 (x0 : Int32) (x1 : Int64) (x3 : Int64) (M : vm_M) : Option (Int64 × vm_M) :=
  if x0 = 3 then
    some ((s_mxJ (-100000000) (s_mnJ 100000000 (x1 + x3))), M)
  else if x0 = 4 then
    some ((s_mxJ (-100000000) (s_mnJ 100000000 (x1 - x3))), M)
  else if x0 = 5 then
    some ((s_mxJ (-100000000) (s_mnJ 100000000 (x1 * x3))), M)
  else if x0 = 6 then
    if ¬ (lg_cmp x3 0) = 0 then
      (s_dl x1 x3).bind fun v6 =>
      some (v6, M)
    else
      some (0, M)
  else if x0 = 7 then
    some ((s_mnJ x1 x3), M)
  else if x0 = 8 then
    some ((s_mxJ x1 x3), M)
  else if x0 = 9 then
    if 0 ≤ (lg_cmp x1 x3) then
      some (0, M)
    else
      some (1, M)
  else if x0 = 10 then
    if (lg_cmp x1 x3) ≤ 0 then
      some (0, M)
    else
      some (1, M)
  else if x0 = 11 then
    if ¬ (lg_cmp x1 x3) = 0 then
      some (0, M)
    else
      some (1, M)
  else if x0 = 12 then
    some ((x1 &&& x3), M)
  else if x0 = 13 then
    some ((x1 ||| x3), M)
  else 
    some (0, M)
theorem f19_ok {x0 : Int32} {x1 : Int64} {x3 : Int64} {M : vm_M} {r : Int64 × vm_M} (h : f19 x0 x1 x3 M = some r) (d : Nat) : vm_Cl (d + 1) 19 [.int (x0), .long (x1), .long (x3)] M (rJ r) := by
  have key : Ev 0 (fun _ => 0) (vm_Cl (d + 0)) vp_19 3 5 false (some (.long)) (rJ r) 0 (lv_args 0 [.int (x0), .long (x1), .long (x3)]) [] M := by
    have l0 : (0, .int (x0)) ∈ lv_args 0 [.int (x0), .long (x1), .long (x3)] := List.Mem.head _
    have l1 : (1, .long (x1)) ∈ lv_args 0 [.int (x0), .long (x1), .long (x3)] := List.Mem.tail _ (List.Mem.head _)
    have l3 : (3, .long (x3)) ∈ lv_args 0 [.int (x0), .long (x1), .long (x3)] := List.Mem.tail _ (List.Mem.tail _ (List.Mem.head _))
    unfold f19 at h
    refine ev_iload_n (mm 0 rfl) l0 ?_
    rcases ite_so h with ⟨c1, h⟩ | ⟨c1, h⟩
    · refine ev_tsw (off := 59) 60 0 (mm 1 rfl) c1 rfl rfl ?_
      refine ev_ldc2_w (mm 2 rfl) cJ_m100000000 ?_
      refine ev_ldc2_w (mm 3 rfl) cJ_100000000 ?_
      refine ev_lload_n (mm 4 rfl) l1 ?_
      refine ev_lload_n (mm 5 rfl) l3 ?_
      refine ev_ladd (mm 6 rfl) ?_
      refine ev_mnJ (mm 7 rfl) (Nat.le_of_ble_eq_true rfl) ?_
      refine ev_mxJ (mm 8 rfl) (Nat.le_of_ble_eq_true rfl) ?_
      exact ev_lreturn (mm 9 rfl) h
    rcases ite_so h with ⟨c2, h⟩ | ⟨c2, h⟩
    · refine ev_tsw (off := 75) 76 1 (mm 1 rfl) c2 rfl rfl ?_
      refine ev_ldc2_w (mm 10 rfl) cJ_m100000000 ?_
      refine ev_ldc2_w (mm 11 rfl) cJ_100000000 ?_
      refine ev_lload_n (mm 12 rfl) l1 ?_
      refine ev_lload_n (mm 13 rfl) l3 ?_
      refine ev_lsub (mm 14 rfl) ?_
      refine ev_mnJ (mm 15 rfl) (Nat.le_of_ble_eq_true rfl) ?_
      refine ev_mxJ (mm 16 rfl) (Nat.le_of_ble_eq_true rfl) ?_
      exact ev_lreturn (mm 17 rfl) h
    rcases ite_so h with ⟨c3, h⟩ | ⟨c3, h⟩
    · refine ev_tsw (off := 91) 92 2 (mm 1 rfl) c3 rfl rfl ?_
      refine ev_ldc2_w (mm 18 rfl) cJ_m100000000 ?_
      refine ev_ldc2_w (mm 19 rfl) cJ_100000000 ?_
      refine ev_lload_n (mm 20 rfl) l1 ?_
      refine ev_lload_n (mm 21 rfl) l3 ?_
      refine ev_lmul (mm 22 rfl) ?_
      refine ev_mnJ (mm 23 rfl) (Nat.le_of_ble_eq_true rfl) ?_
      refine ev_mxJ (mm 24 rfl) (Nat.le_of_ble_eq_true rfl) ?_
      exact ev_lreturn (mm 25 rfl) h
    rcases ite_so h with ⟨c4, h⟩ | ⟨c4, h⟩
    · refine ev_tsw (off := 107) 108 3 (mm 1 rfl) c4 rfl rfl ?_
      refine ev_lload_n (mm 26 rfl) l3 ?_
      refine ev_lconst (mm 27 rfl) cL_0 ?_
      refine ev_lcmp (mm 28 rfl) ?_
      rcases ite_so h with ⟨c5, h⟩ | ⟨c5, h⟩
      · refine ev_if_t 118 (mm 29 rfl) rfl c5 ?_
        refine ev_lload_n (mm 32 rfl) l1 ?_
        refine ev_lload_n (mm 33 rfl) l3 ?_
        obtain ⟨v6, e7, h⟩ := bind_so h
        refine ev_ldiv (mm 34 rfl) e7 ?_
        exact ev_lreturn (mm 35 rfl) h
      · refine ev_if_f 118 (mm 29 rfl) rfl c5 ?_
        refine ev_lconst (mm 30 rfl) cL_0 ?_
        refine ev_goto 121 (mm 31 rfl) rfl ?_
        exact ev_lreturn (mm 35 rfl) h
    rcases ite_so h with ⟨c8, h⟩ | ⟨c8, h⟩
    · refine ev_tsw (off := 121) 122 4 (mm 1 rfl) c8 rfl rfl ?_
      refine ev_lload_n (mm 36 rfl) l1 ?_
      refine ev_lload_n (mm 37 rfl) l3 ?_
      refine ev_mnJ (mm 38 rfl) (Nat.le_of_ble_eq_true rfl) ?_
      exact ev_lreturn (mm 39 rfl) h
    rcases ite_so h with ⟨c9, h⟩ | ⟨c9, h⟩
    · refine ev_tsw (off := 127) 128 5 (mm 1 rfl) c9 rfl rfl ?_
      refine ev_lload_n (mm 40 rfl) l1 ?_
      refine ev_lload_n (mm 41 rfl) l3 ?_
      refine ev_mxJ (mm 42 rfl) (Nat.le_of_ble_eq_true rfl) ?_
      exact ev_lreturn (mm 43 rfl) h
    rcases ite_so h with ⟨c10, h⟩ | ⟨c10, h⟩
    · refine ev_tsw (off := 133) 134 6 (mm 1 rfl) c10 rfl rfl ?_
      refine ev_lload_n (mm 44 rfl) l1 ?_
      refine ev_lload_n (mm 45 rfl) l3 ?_
      refine ev_lcmp (mm 46 rfl) ?_
      rcases ite_so h with ⟨c11, h⟩ | ⟨c11, h⟩
      · refine ev_if_t 144 (mm 47 rfl) rfl c11 ?_
        refine ev_lconst (mm 50 rfl) cL_0 ?_
        exact ev_lreturn (mm 51 rfl) h
      · refine ev_if_f 144 (mm 47 rfl) rfl c11 ?_
        refine ev_lconst (mm 48 rfl) cL_1 ?_
        refine ev_goto 145 (mm 49 rfl) rfl ?_
        exact ev_lreturn (mm 51 rfl) h
    rcases ite_so h with ⟨c12, h⟩ | ⟨c12, h⟩
    · refine ev_tsw (off := 145) 146 7 (mm 1 rfl) c12 rfl rfl ?_
      refine ev_lload_n (mm 52 rfl) l1 ?_
      refine ev_lload_n (mm 53 rfl) l3 ?_
      refine ev_lcmp (mm 54 rfl) ?_
      rcases ite_so h with ⟨c13, h⟩ | ⟨c13, h⟩
      · refine ev_if_t 156 (mm 55 rfl) rfl c13 ?_
        refine ev_lconst (mm 58 rfl) cL_0 ?_
        exact ev_lreturn (mm 59 rfl) h
      · refine ev_if_f 156 (mm 55 rfl) rfl c13 ?_
        refine ev_lconst (mm 56 rfl) cL_1 ?_
        refine ev_goto 157 (mm 57 rfl) rfl ?_
        exact ev_lreturn (mm 59 rfl) h
    rcases ite_so h with ⟨c14, h⟩ | ⟨c14, h⟩
    · refine ev_tsw (off := 157) 158 8 (mm 1 rfl) c14 rfl rfl ?_
      refine ev_lload_n (mm 60 rfl) l1 ?_
      refine ev_lload_n (mm 61 rfl) l3 ?_
      refine ev_lcmp (mm 62 rfl) ?_
      rcases ite_so h with ⟨c15, h⟩ | ⟨c15, h⟩
      · refine ev_if_t 168 (mm 63 rfl) rfl c15 ?_
        refine ev_lconst (mm 66 rfl) cL_0 ?_
        exact ev_lreturn (mm 67 rfl) h
      · refine ev_if_f 168 (mm 63 rfl) rfl c15 ?_
        refine ev_lconst (mm 64 rfl) cL_1 ?_
        refine ev_goto 169 (mm 65 rfl) rfl ?_
        exact ev_lreturn (mm 67 rfl) h
    rcases ite_so h with ⟨c16, h⟩ | ⟨c16, h⟩
    · refine ev_tsw (off := 169) 170 9 (mm 1 rfl) c16 rfl rfl ?_
      refine ev_lload_n (mm 68 rfl) l1 ?_
      refine ev_lload_n (mm 69 rfl) l3 ?_
      refine ev_land (mm 70 rfl) ?_
      exact ev_lreturn (mm 71 rfl) h
    rcases ite_so h with ⟨c17, h⟩ | ⟨c17, h⟩
    · refine ev_tsw (off := 173) 174 10 (mm 1 rfl) c17 rfl rfl ?_
      refine ev_lload_n (mm 72 rfl) l1 ?_
      refine ev_lload_n (mm 73 rfl) l3 ?_
      refine ev_lor (mm 74 rfl) ?_
      exact ev_lreturn (mm 75 rfl) h
    refine ev_tswD 178 (mm 1 rfl) rfl (tsw_out [3, 4, 5, 6, 7, 8, 9, 10, 11, 12, 13] rfl rfl (by simp [c1, c2, c3, c4, c8, c9, c10, c12, c14, c16, c17])) ?_
    refine ev_lconst (mm 76 rfl) cL_0 ?_
    exact ev_lreturn (mm 77 rfl) h
  exact ⟨by decide, Nat.le_of_ble_eq_true rfl, key.1, key.2⟩
def f17_l10 (x0 : Nat) (x1 : Nat) (x3 : Int32) (x4 : Nat) (x5 : Int32) (k175 : Int32 → vm_M → Option (Int64 × vm_M)) : Nat → Int32 → Int32 → vm_M → Option (Int64 × vm_M)
  | 0 => fun _ _ _ => none
  | n + 1 => fun x6 x7 M =>
    if x3 ≤ x7 then
      k175 x6 M
    else
      (sg_r M x1 1 8).bind fun v6 =>
      (v6).bind fun q8 =>
      (s_len M q8 0).bind fun v10 =>
      if v10 ≤ x7 then
        k175 x6 M
      else
        (sg_r M x1 1 8).bind fun v13 =>
        (v13).bind fun q15 =>
        (sa_i M q15 0 x7).bind fun v17 =>
        (s_rm v17 16).bind fun v19 =>
        (sg_r M x1 1 8).bind fun v23 =>
        (v23).bind fun q25 =>
        (sa_i M q25 0 x7).bind fun v27 =>
        (s_dv v27 16).bind fun v29 =>
        if 2 < v19 then
          if ¬ v19 = 14 then
            if 2 ≤ x6 then
              (sg_r M x0 3 1).bind fun v38 =>
              (sg_r M x0 3 1).bind fun v40 =>
              (v40).bind fun q42 =>
              (sa_l M q42 ((x6 + (-1)) - 1)).bind fun v44 =>
              (sg_r M x0 3 1).bind fun v46 =>
              (v46).bind fun q48 =>
              (sa_l M q48 (x6 + (-1))).bind fun v50 =>
              (f19 v19 v44 v50 M).bind fun p52 =>
              (v38).bind fun q54 =>
              (ss_l p52.2 q54 ((x6 + (-1)) - 1) p52.1).bind fun M56 =>
              f17_l10 x0 x1 x3 x4 x5 k175 n (x6 + (-1)) (x7 + 1) M56
            else
              some (0, M)
          else
            if 1 ≤ x6 then
              (sg_r M x0 3 1).bind fun v61 =>
              (sg_r M x0 3 1).bind fun v63 =>
              (v63).bind fun q65 =>
              (sa_l M q65 (x6 - 1)).bind fun v67 =>
              (v61).bind fun q69 =>
              (ss_l M q69 (x6 - 1) (1 - v67)).bind fun M71 =>
              f17_l10 x0 x1 x3 x4 x5 k175 n x6 (x7 + 1) M71
            else
              some (0, M)
        else
          if x6 < 64 then
            (sg_r M x0 3 1).bind fun v76 =>
            (s_ob M x0 3).bind fun _ =>
            (f18 x0 v19 v29 x4 x5 M).bind fun p80 =>
            (v76).bind fun q82 =>
            (ss_l p80.2 q82 x6 p80.1).bind fun M84 =>
            f17_l10 x0 x1 x3 x4 x5 k175 n (x6 + 1) (x7 + 1) M84
          else
            some (0, M)
theorem f17_l10_ok {d : Nat} {x0 : Nat} {x1 : Nat} {x3 : Int32} {x4 : Nat} {x5 : Int32} {k175 : Int32 → vm_M → Option (Int64 × vm_M)} {r : Int64 × vm_M} (hk175 : ∀ {y6 : Int32} {M : vm_M} {lv : vm_L}, (0, .ref (x0)) ∈ lv → (6, .int (y6)) ∈ lv → k175 y6 M = some r → Ev 0 (fun _ => 0) (vm_Cl (d + 1)) vp_17 3 10 false (some (.long)) (rJ r) 175 lv [] M) : ∀ (n : Nat) {x6 : Int32} {x7 : Int32} {M : vm_M} {lv : vm_L}, (0, .ref (x0)) ∈ lv → (1, .ref (x1)) ∈ lv → (3, .int (x3)) ∈ lv → (4, .ref (x4)) ∈ lv → (5, .int (x5)) ∈ lv → (6, .int (x6)) ∈ lv → (7, .int (x7)) ∈ lv → f17_l10 x0 x1 x3 x4 x5 k175 n x6 x7 M = some r → Ev 0 (fun _ => 0) (vm_Cl (d + 1)) vp_17 3 10 false (some (.long)) (rJ r) 10 lv [] M := by
  intro n
  induction n with
  | zero =>
    intro x6 x7 M lv l0 l1 l3 l4 l5 l6 l7 h
    cases h
  | succ n ih =>
    intro x6 x7 M lv l0 l1 l3 l4 l5 l6 l7 h
    dsimp only [f17_l10] at h
    refine ev_iload (mm 6 rfl) l7 ?_
    refine ev_iload_n (mm 7 rfl) l3 ?_
    rcases ite_so h with ⟨c5, h⟩ | ⟨c5, h⟩
    · refine ev_ic_t 175 (mm 8 rfl) rfl c5 ?_
      exact hk175 l0 l6 h
    · refine ev_ic_f 175 (mm 8 rfl) rfl c5 ?_
      refine ev_iload (mm 9 rfl) l7 ?_
      refine ev_aload_nR (mm 10 rfl) l1 ?_
      obtain ⟨v6, e7, h⟩ := bind_so h
      refine ev_get_r (mm 11 rfl) rfl e7 ?_
      obtain ⟨q8, e9, h⟩ := bind_so h
      rw [e9]
      obtain ⟨v10, e11, h⟩ := bind_so h
      refine ev_len (mm 12 rfl) (by decide) e11 ?_
      rcases ite_so h with ⟨c12, h⟩ | ⟨c12, h⟩
      · refine ev_ic_t 175 (mm 13 rfl) rfl c12 ?_
        exact hk175 l0 l6 h
      · refine ev_ic_f 175 (mm 13 rfl) rfl c12 ?_
        refine ev_aload_nR (mm 14 rfl) l1 ?_
        obtain ⟨v13, e14, h⟩ := bind_so h
        refine ev_get_r (mm 15 rfl) rfl e14 ?_
        refine ev_iload (mm 16 rfl) l7 ?_
        obtain ⟨q15, e16, h⟩ := bind_so h
        rw [e16]
        obtain ⟨v17, e18, h⟩ := bind_so h
        refine ev_iaload (mm 17 rfl) e18 ?_
        refine ev_bipush (mm 18 rfl) cB_16 ?_
        obtain ⟨v19, e20, h⟩ := bind_so h
        refine ev_irem (mm 19 rfl) e20 ?_
        refine evs_istore (mm 20 rfl) (by decide) (fun lv21 l8 s22 => ?_)
        have l0 := s22 _ _ l0 rfl
        have l1 := s22 _ _ l1 rfl
        have l3 := s22 _ _ l3 rfl
        have l4 := s22 _ _ l4 rfl
        have l5 := s22 _ _ l5 rfl
        have l6 := s22 _ _ l6 rfl
        have l7 := s22 _ _ l7 rfl
        refine ev_aload_nR (mm 21 rfl) l1 ?_
        obtain ⟨v23, e24, h⟩ := bind_so h
        refine ev_get_r (mm 22 rfl) rfl e24 ?_
        refine ev_iload (mm 23 rfl) l7 ?_
        obtain ⟨q25, e26, h⟩ := bind_so h
        rw [e26]
        obtain ⟨v27, e28, h⟩ := bind_so h
        refine ev_iaload (mm 24 rfl) e28 ?_
        refine ev_bipush (mm 25 rfl) cB_16 ?_
        obtain ⟨v29, e30, h⟩ := bind_so h
        refine ev_idiv (mm 26 rfl) e30 ?_
        refine evs_istore (mm 27 rfl) (by decide) (fun lv31 l9 s32 => ?_)
        have l0 := s32 _ _ l0 rfl
        have l1 := s32 _ _ l1 rfl
        have l3 := s32 _ _ l3 rfl
        have l4 := s32 _ _ l4 rfl
        have l5 := s32 _ _ l5 rfl
        have l6 := s32 _ _ l6 rfl
        have l7 := s32 _ _ l7 rfl
        have l8 := s32 _ _ l8 rfl
        refine ev_iload (mm 28 rfl) l8 ?_
        refine ev_iconst (mm 29 rfl) cI_2 ?_
        rcases ite_so h with ⟨c33, h⟩ | ⟨c33, h⟩
        · refine ev_ic_t 90 (mm 30 rfl) rfl c33 ?_
          refine ev_iload (mm 48 rfl) l8 ?_
          refine ev_bipush (mm 49 rfl) cB_14 ?_
          rcases ite_so h with ⟨c34, h⟩ | ⟨c34, h⟩
          · refine ev_ic_t 128 (mm 50 rfl) rfl c34 ?_
            refine ev_iload (mm 71 rfl) l6 ?_
            refine ev_iconst (mm 72 rfl) cI_2 ?_
            rcases ite_so h with ⟨c35, h⟩ | ⟨c35, h⟩
            · refine ev_ic_t 136 (mm 73 rfl) rfl c35 ?_
              refine evs_iinc (mm 76 rfl) cI_m1 l6 (by decide) (fun lv36 l6 s37 => ?_)
              have l0 := s37 _ _ l0 rfl
              have l1 := s37 _ _ l1 rfl
              have l3 := s37 _ _ l3 rfl
              have l4 := s37 _ _ l4 rfl
              have l5 := s37 _ _ l5 rfl
              have l7 := s37 _ _ l7 rfl
              have l8 := s37 _ _ l8 rfl
              refine ev_aload_nR (mm 77 rfl) l0 ?_
              obtain ⟨v38, e39, h⟩ := bind_so h
              refine ev_get_r (mm 78 rfl) rfl e39 ?_
              refine ev_iload (mm 79 rfl) l6 ?_
              refine ev_iconst (mm 80 rfl) cI_1 ?_
              refine ev_isub (mm 81 rfl) ?_
              refine ev_iload (mm 82 rfl) l8 ?_
              refine ev_aload_nR (mm 83 rfl) l0 ?_
              obtain ⟨v40, e41, h⟩ := bind_so h
              refine ev_get_r (mm 84 rfl) rfl e41 ?_
              refine ev_iload (mm 85 rfl) l6 ?_
              refine ev_iconst (mm 86 rfl) cI_1 ?_
              refine ev_isub (mm 87 rfl) ?_
              obtain ⟨q42, e43, h⟩ := bind_so h
              rw [e43]
              obtain ⟨v44, e45, h⟩ := bind_so h
              refine ev_laload (mm 88 rfl) e45 ?_
              refine ev_aload_nR (mm 89 rfl) l0 ?_
              obtain ⟨v46, e47, h⟩ := bind_so h
              refine ev_get_r (mm 90 rfl) rfl e47 ?_
              refine ev_iload (mm 91 rfl) l6 ?_
              obtain ⟨q48, e49, h⟩ := bind_so h
              rw [e49]
              obtain ⟨v50, e51, h⟩ := bind_so h
              refine ev_laload (mm 92 rfl) e51 ?_
              obtain ⟨p52, e53, h⟩ := bind_so h
              refine ev_callS_J [.int (v19), .long (v44), .long (v50)] (mm 93 rfl) (by decide) rfl rfl (by simp [vm_cat_A, vm_cat_I, vm_cat_R, vm_cat_J, vm_cat_0]) (f19_ok e53 (d + 0)) ?_
              obtain ⟨q54, e55, h⟩ := bind_so h
              rw [e55]
              obtain ⟨M56, e57, h⟩ := bind_so h
              refine ev_lastore (mm 94 rfl) e57 ?_
              refine evs_iinc (mm 95 rfl) cI_1 l7 (by decide) (fun lv58 l7 s59 => ?_)
              have l0 := s59 _ _ l0 rfl
              have l1 := s59 _ _ l1 rfl
              have l3 := s59 _ _ l3 rfl
              have l4 := s59 _ _ l4 rfl
              have l5 := s59 _ _ l5 rfl
              have l6 := s59 _ _ l6 rfl
              refine ev_goto 10 (mm 96 rfl) rfl ?_
              exact ih l0 l1 l3 l4 l5 l6 l7 h
            · refine ev_ic_f 136 (mm 73 rfl) rfl c35 ?_
              refine ev_lconst (mm 74 rfl) cL_0 ?_
              exact ev_lreturn (mm 75 rfl) h
          · refine ev_ic_f 128 (mm 50 rfl) rfl c34 ?_
            refine ev_iload (mm 51 rfl) l6 ?_
            refine ev_iconst (mm 52 rfl) cI_1 ?_
            rcases ite_so h with ⟨c60, h⟩ | ⟨c60, h⟩
            · refine ev_ic_t 105 (mm 53 rfl) rfl c60 ?_
              refine ev_aload_nR (mm 56 rfl) l0 ?_
              obtain ⟨v61, e62, h⟩ := bind_so h
              refine ev_get_r (mm 57 rfl) rfl e62 ?_
              refine ev_iload (mm 58 rfl) l6 ?_
              refine ev_iconst (mm 59 rfl) cI_1 ?_
              refine ev_isub (mm 60 rfl) ?_
              refine ev_lconst (mm 61 rfl) cL_1 ?_
              refine ev_aload_nR (mm 62 rfl) l0 ?_
              obtain ⟨v63, e64, h⟩ := bind_so h
              refine ev_get_r (mm 63 rfl) rfl e64 ?_
              refine ev_iload (mm 64 rfl) l6 ?_
              refine ev_iconst (mm 65 rfl) cI_1 ?_
              refine ev_isub (mm 66 rfl) ?_
              obtain ⟨q65, e66, h⟩ := bind_so h
              rw [e66]
              obtain ⟨v67, e68, h⟩ := bind_so h
              refine ev_laload (mm 67 rfl) e68 ?_
              refine ev_lsub (mm 68 rfl) ?_
              obtain ⟨q69, e70, h⟩ := bind_so h
              rw [e70]
              obtain ⟨M71, e72, h⟩ := bind_so h
              refine ev_lastore (mm 69 rfl) e72 ?_
              refine ev_goto 169 (mm 70 rfl) rfl ?_
              refine evs_iinc (mm 95 rfl) cI_1 l7 (by decide) (fun lv73 l7 s74 => ?_)
              have l0 := s74 _ _ l0 rfl
              have l1 := s74 _ _ l1 rfl
              have l3 := s74 _ _ l3 rfl
              have l4 := s74 _ _ l4 rfl
              have l5 := s74 _ _ l5 rfl
              have l6 := s74 _ _ l6 rfl
              refine ev_goto 10 (mm 96 rfl) rfl ?_
              exact ih l0 l1 l3 l4 l5 l6 l7 h
            · refine ev_ic_f 105 (mm 53 rfl) rfl c60 ?_
              refine ev_lconst (mm 54 rfl) cL_0 ?_
              exact ev_lreturn (mm 55 rfl) h
        · refine ev_ic_f 90 (mm 30 rfl) rfl c33 ?_
          refine ev_iload (mm 31 rfl) l6 ?_
          refine ev_bipush (mm 32 rfl) cB_64 ?_
          rcases ite_so h with ⟨c75, h⟩ | ⟨c75, h⟩
          · refine ev_ic_t 65 (mm 33 rfl) rfl c75 ?_
            refine ev_aload_nR (mm 36 rfl) l0 ?_
            obtain ⟨v76, e77, h⟩ := bind_so h
            refine ev_get_r (mm 37 rfl) rfl e77 ?_
            refine ev_iload (mm 38 rfl) l6 ?_
            refine evs_iinc (mm 39 rfl) cI_1 l6 (by decide) (fun lv78 l6 s79 => ?_)
            have l0 := s79 _ _ l0 rfl
            have l1 := s79 _ _ l1 rfl
            have l3 := s79 _ _ l3 rfl
            have l4 := s79 _ _ l4 rfl
            have l5 := s79 _ _ l5 rfl
            have l7 := s79 _ _ l7 rfl
            have l8 := s79 _ _ l8 rfl
            have l9 := s79 _ _ l9 rfl
            refine ev_aload_nR (mm 40 rfl) l0 ?_
            refine ev_iload (mm 41 rfl) l8 ?_
            refine ev_iload (mm 42 rfl) l9 ?_
            refine ev_aloadR (mm 43 rfl) l4 ?_
            refine ev_iload (mm 44 rfl) l5 ?_
            obtain ⟨_, e88, h⟩ := bind_so h
            obtain ⟨p80, e81, h⟩ := bind_so h
            refine ev_callV_J [.int (v19), .int (v29), .ref (x4), .int (x5)] (mm 45 rfl) rfl rfl (by simp [vm_cat_A, vm_cat_I, vm_cat_R, vm_cat_J, vm_cat_0]) (s_ob_of e88) (f18_ok e81 (d + 0)) ?_
            obtain ⟨q82, e83, h⟩ := bind_so h
            rw [e83]
            obtain ⟨M84, e85, h⟩ := bind_so h
            refine ev_lastore (mm 46 rfl) e85 ?_
            refine ev_goto 169 (mm 47 rfl) rfl ?_
            refine evs_iinc (mm 95 rfl) cI_1 l7 (by decide) (fun lv86 l7 s87 => ?_)
            have l0 := s87 _ _ l0 rfl
            have l1 := s87 _ _ l1 rfl
            have l3 := s87 _ _ l3 rfl
            have l4 := s87 _ _ l4 rfl
            have l5 := s87 _ _ l5 rfl
            have l6 := s87 _ _ l6 rfl
            refine ev_goto 10 (mm 96 rfl) rfl ?_
            exact ih l0 l1 l3 l4 l5 l6 l7 h
          · refine ev_ic_f 65 (mm 33 rfl) rfl c75 ?_
            refine ev_lconst (mm 34 rfl) cL_0 ?_
            exact ev_lreturn (mm 35 rfl) h
def f17_j175 (x0 : Nat) (x6 : Int32) (M : vm_M) : Option (Int64 × vm_M) :=
  if ¬ x6 = 1 then
    some (0, M)
  else
    (sg_r M x0 3 1).bind fun v92 =>
    (v92).bind fun q94 =>
    (sa_l M q94 0).bind fun v96 =>
    some (v96, M)
theorem f17_j175_ok {d : Nat} {x0 : Nat} {x6 : Int32} {M : vm_M} {r : Int64 × vm_M} {lv : vm_L} (l0 : (0, .ref (x0)) ∈ lv) (l6 : (6, .int (x6)) ∈ lv) (h : f17_j175 x0 x6 M = some r) : Ev 0 (fun _ => 0) (vm_Cl (d + 1)) vp_17 3 10 false (some (.long)) (rJ r) 175 lv [] M := by
  unfold f17_j175 at h
  refine ev_iload (mm 97 rfl) l6 ?_
  refine ev_iconst (mm 98 rfl) cI_1 ?_
  rcases ite_so h with ⟨c91, h⟩ | ⟨c91, h⟩
  · refine ev_ic_t 190 (mm 99 rfl) rfl c91 ?_
    refine ev_lconst (mm 105 rfl) cL_0 ?_
    exact ev_lreturn (mm 106 rfl) h
  · refine ev_ic_f 190 (mm 99 rfl) rfl c91 ?_
    refine ev_aload_nR (mm 100 rfl) l0 ?_
    obtain ⟨v92, e93, h⟩ := bind_so h
    refine ev_get_r (mm 101 rfl) rfl e93 ?_
    refine ev_iconst (mm 102 rfl) cI_0 ?_
    obtain ⟨q94, e95, h⟩ := bind_so h
    rw [e95]
    obtain ⟨v96, e97, h⟩ := bind_so h
    refine ev_laload (mm 103 rfl) e97 ?_
    refine ev_goto 191 (mm 104 rfl) rfl ?_
    exact ev_lreturn (mm 106 rfl) h
/-- PupilCoin$Mill.run(LPupilCoin$Law;II[JI)J -/
def f17 (x0 : Nat) (x1 : Nat) (x2 : Int32) (x3 : Int32) (x4 : Nat) (x5 : Int32) (M : vm_M) : Option (Int64 × vm_M) :=
  f17_l10 x0 x1 x3 x4 x5
    (fun y89 M90 =>
      f17_j175 x0 y89 M90)
    100000 0 (s_mxI 0 x2) M
theorem f17_ok {x0 : Nat} {x1 : Nat} {x2 : Int32} {x3 : Int32} {x4 : Nat} {x5 : Int32} {M : vm_M} {r : Int64 × vm_M} (h : f17 x0 x1 x2 x3 x4 x5 M = some r) (d : Nat) : vm_Cl (d + 2) 17 [.ref (x0), .ref (x1), .int (x2), .int (x3), .ref (x4), .int (x5)] M (rJ r) := by
  have key : Ev 0 (fun _ => 0) (vm_Cl (d + 1)) vp_17 3 10 false (some (.long)) (rJ r) 0 (lv_args 0 [.ref (x0), .ref (x1), .int (x2), .int (x3), .ref (x4), .int (x5)]) [] M := by
    have l0 : (0, .ref (x0)) ∈ lv_args 0 [.ref (x0), .ref (x1), .int (x2), .int (x3), .ref (x4), .int (x5)] := List.Mem.head _
    have l1 : (1, .ref (x1)) ∈ lv_args 0 [.ref (x0), .ref (x1), .int (x2), .int (x3), .ref (x4), .int (x5)] := List.Mem.tail _ (List.Mem.head _)
    have l2 : (2, .int (x2)) ∈ lv_args 0 [.ref (x0), .ref (x1), .int (x2), .int (x3), .ref (x4), .int (x5)] := List.Mem.tail _ (List.Mem.tail _ (List.Mem.head _))
    have l3 : (3, .int (x3)) ∈ lv_args 0 [.ref (x0), .ref (x1), .int (x2), .int (x3), .ref (x4), .int (x5)] := List.Mem.tail _ (List.Mem.tail _ (List.Mem.tail _ (List.Mem.head _)))
    have l4 : (4, .ref (x4)) ∈ lv_args 0 [.ref (x0), .ref (x1), .int (x2), .int (x3), .ref (x4), .int (x5)] := List.Mem.tail _ (List.Mem.tail _ (List.Mem.tail _ (List.Mem.tail _ (List.Mem.head _))))
    have l5 : (5, .int (x5)) ∈ lv_args 0 [.ref (x0), .ref (x1), .int (x2), .int (x3), .ref (x4), .int (x5)] := List.Mem.tail _ (List.Mem.tail _ (List.Mem.tail _ (List.Mem.tail _ (List.Mem.tail _ (List.Mem.head _)))))
    unfold f17 at h
    refine ev_iconst (mm 0 rfl) cI_0 ?_
    refine evs_istore (mm 1 rfl) (by decide) (fun lv1 l6 s2 => ?_)
    have l0 := s2 _ _ l0 rfl
    have l1 := s2 _ _ l1 rfl
    have l2 := s2 _ _ l2 rfl
    have l3 := s2 _ _ l3 rfl
    have l4 := s2 _ _ l4 rfl
    have l5 := s2 _ _ l5 rfl
    refine ev_iconst (mm 2 rfl) cI_0 ?_
    refine ev_iload_n (mm 3 rfl) l2 ?_
    refine ev_mxI (mm 4 rfl) (Nat.le_of_ble_eq_true rfl) ?_
    refine evs_istore (mm 5 rfl) (by decide) (fun lv3 l7 s4 => ?_)
    have l0 := s4 _ _ l0 rfl
    have l1 := s4 _ _ l1 rfl
    have l3 := s4 _ _ l3 rfl
    have l4 := s4 _ _ l4 rfl
    have l5 := s4 _ _ l5 rfl
    have l6 := s4 _ _ l6 rfl
    refine f17_l10_ok ?_ 100000 l0 l1 l3 l4 l5 l6 l7 h
    · intro y89 M90 lv l0 l6
      intro h
      exact f17_j175_ok l0 l6 h
  exact ⟨by decide, Nat.le_of_ble_eq_true rfl, key.1, key.2⟩
