/-! shallow functions, by program (wip/gen_fun.py) -/
/-- PupilCoinModel.plain(III)Z -/
def f153 (x0 : Nat) (x1 : Int32) (x2 : Int32) (x3 : Int32) (M : vm_M) : Option (Int32 × vm_M) :=
  (sg_r M x0 11 30).bind fun v1 =>
  (v1).bind fun q3 =>
  (ss_i M q3 0 x1 x2).bind fun M5 =>
  (s_ob M5 x0 11).bind fun _ =>
  (f140 x0 x3 M5).bind fun p7 =>
  if ¬ p7.1 = 0 then
    (sg_r p7.2 x0 11 31).bind fun v10 =>
    (sg_i p7.2 x0 11 43).bind fun v12 =>
    (v10).bind fun q14 =>
    (ss_i p7.2 q14 0 x1 v12).bind fun M16 =>
    s_rb 1 M16
  else
    s_rb 0 p7.2
theorem f153_ok {x0 : Nat} {x1 : Int32} {x2 : Int32} {x3 : Int32} {M : vm_M} {r : Int32 × vm_M} (h : f153 x0 x1 x2 x3 M = some r) (d : Nat) : vm_Cl (d + 3) 153 [.ref (x0), .int (x1), .int (x2), .int (x3)] M (rI r) := by
  have key : Ev 0 (fun _ => 0) (vm_Cl (d + 2)) vp_153 11 4 false (some (.boolean)) (rI r) 0 (lv_args 0 [.ref (x0), .int (x1), .int (x2), .int (x3)]) [] M := by
    have l0 : (0, .ref (x0)) ∈ lv_args 0 [.ref (x0), .int (x1), .int (x2), .int (x3)] := List.Mem.head _
    have l1 : (1, .int (x1)) ∈ lv_args 0 [.ref (x0), .int (x1), .int (x2), .int (x3)] := List.Mem.tail _ (List.Mem.head _)
    have l2 : (2, .int (x2)) ∈ lv_args 0 [.ref (x0), .int (x1), .int (x2), .int (x3)] := List.Mem.tail _ (List.Mem.tail _ (List.Mem.head _))
    have l3 : (3, .int (x3)) ∈ lv_args 0 [.ref (x0), .int (x1), .int (x2), .int (x3)] := List.Mem.tail _ (List.Mem.tail _ (List.Mem.tail _ (List.Mem.head _)))
    unfold f153 at h
    refine ev_aload_nR (mm 0 rfl) l0 ?_
    obtain ⟨v1, e2, h⟩ := bind_so h
    refine ev_get_r (mm 1 rfl) rfl e2 ?_
    refine ev_iload_n (mm 2 rfl) l1 ?_
    refine ev_iload_n (mm 3 rfl) l2 ?_
    obtain ⟨q3, e4, h⟩ := bind_so h
    rw [e4]
    obtain ⟨M5, e6, h⟩ := bind_so h
    refine ev_iastore (mm 4 rfl) e6 ?_
    refine ev_aload_nR (mm 5 rfl) l0 ?_
    refine ev_iload_n (mm 6 rfl) l3 ?_
    obtain ⟨_, e18, h⟩ := bind_so h
    obtain ⟨p7, e8, h⟩ := bind_so h
    refine ev_callV_I [.int (x3)] (mm 7 rfl) rfl rfl (Nat.le_of_ble_eq_true rfl) (s_ob_of e18) (f140_ok e8 (d + 0)) ?_
    rcases ite_so h with ⟨c9, h⟩ | ⟨c9, h⟩
    · refine ev_if_t 17 (mm 8 rfl) rfl c9 ?_
      refine ev_aload_nR (mm 11 rfl) l0 ?_
      obtain ⟨v10, e11, h⟩ := bind_so h
      refine ev_get_r (mm 12 rfl) rfl e11 ?_
      refine ev_iload_n (mm 13 rfl) l1 ?_
      refine ev_aload_nR (mm 14 rfl) l0 ?_
      obtain ⟨v12, e13, h⟩ := bind_so h
      refine ev_get_i (mm 15 rfl) rfl e13 ?_
      obtain ⟨q14, e15, h⟩ := bind_so h
      rw [e15]
      obtain ⟨M16, e17, h⟩ := bind_so h
      refine ev_iastore (mm 16 rfl) e17 ?_
      refine ev_iconst (mm 17 rfl) cI_1 ?_
      exact ev_zreturn (mm 18 rfl) h
    · refine ev_if_f 17 (mm 8 rfl) rfl c9 ?_
      refine ev_iconst (mm 9 rfl) cI_0 ?_
      exact ev_zreturn (mm 10 rfl) h
  exact ⟨by decide, Nat.le_of_ble_eq_true rfl, key.1, key.2⟩
def f154_j243 (x0 : Nat) (x2 : Int32) (M : vm_M) : Option (Int32 × vm_M) :=
  if x2 = 0 then
    s_rb 0 M
  else
    (s_ob M x0 11).bind fun _ =>
    (f139 x0 59 M).bind fun p32 =>
    if p32.1 = 0 then
      s_rb 0 p32.2
    else
      s_rb 1 p32.2
theorem f154_j243_ok {d : Nat} {x0 : Nat} {x2 : Int32} {M : vm_M} {r : Int32 × vm_M} {lv : vm_L} (l0 : (0, .ref (x0)) ∈ lv) (l2 : (2, .int (x2)) ∈ lv) (h : f154_j243 x0 x2 M = some r) : Ev 0 (fun _ => 0) (vm_Cl (d + 125)) vp_154 11 3 false (some (.boolean)) (rI r) 243 lv [] M := by
  unfold f154_j243 at h
  refine ev_iload_n (mm 123 rfl) l2 ?_
  rcases ite_so h with ⟨c31, h⟩ | ⟨c31, h⟩
  · refine ev_if_t 260 (mm 124 rfl) rfl c31 ?_
    refine ev_iconst (mm 131 rfl) cI_0 ?_
    exact ev_zreturn (mm 132 rfl) h
  · refine ev_if_f 260 (mm 124 rfl) rfl c31 ?_
    refine ev_aload_nR (mm 125 rfl) l0 ?_
    refine ev_bipush (mm 126 rfl) cB_59 ?_
    obtain ⟨_, e35, h⟩ := bind_so h
    obtain ⟨p32, e33, h⟩ := bind_so h
    refine ev_callV_I [.int (59)] (mm 127 rfl) rfl rfl (Nat.le_of_ble_eq_true rfl) (s_ob_of e35) (f139_ok e33 (d + 123)) ?_
    rcases ite_so h with ⟨c34, h⟩ | ⟨c34, h⟩
    · refine ev_if_t 260 (mm 128 rfl) rfl c34 ?_
      refine ev_iconst (mm 131 rfl) cI_0 ?_
      exact ev_zreturn (mm 132 rfl) h
    · refine ev_if_f 260 (mm 128 rfl) rfl c34 ?_
      refine ev_iconst (mm 129 rfl) cI_1 ?_
      refine ev_goto 261 (mm 130 rfl) rfl ?_
      exact ev_zreturn (mm 132 rfl) h
def f154_j216 (x0 : Nat) (x1 : Int32) (s0 : Int32) (M : vm_M) : Option (Int32 × vm_M) :=
  if s0 = 0 then
    f154_j243 x0 s0 M
  else
    (sg_r M x0 11 31).bind fun v36 =>
    (s_ob M x0 11).bind fun _ =>
    (f137 x0 M).bind fun p38 =>
    (s_ob p38.2 x0 11).bind fun _ =>
    (f143 x0 p38.1 p38.2).bind fun p40 =>
    (v36).bind fun q42 =>
    (ss_i p40.2 q42 0 x1 p40.1).bind fun M44 =>
    (sg_i M44 x0 11 42).bind fun v46 =>
    (sp_i M44 x0 11 21 v46).bind fun M48 =>
    f154_j243 x0 s0 M48
theorem f154_j216_ok {d : Nat} {x0 : Nat} {x1 : Int32} {s0 : Int32} {M : vm_M} {r : Int32 × vm_M} {lv : vm_L} (l0 : (0, .ref (x0)) ∈ lv) (l1 : (1, .int (x1)) ∈ lv) (h : f154_j216 x0 x1 s0 M = some r) : Ev 0 (fun _ => 0) (vm_Cl (d + 125)) vp_154 11 3 false (some (.boolean)) (rI r) 216 lv [.int (s0)] M := by
  unfold f154_j216 at h
  refine evs_istore_n (mm 108 rfl) (by decide) (fun lv28 l2 s29 => ?_)
  have l0 := s29 _ _ l0 rfl
  have l1 := s29 _ _ l1 rfl
  refine ev_iload_n (mm 109 rfl) l2 ?_
  rcases ite_so h with ⟨c30, h⟩ | ⟨c30, h⟩
  · refine ev_if_t 243 (mm 110 rfl) rfl c30 ?_
    exact f154_j243_ok l0 l2 h
  · refine ev_if_f 243 (mm 110 rfl) rfl c30 ?_
    refine ev_aload_nR (mm 111 rfl) l0 ?_
    obtain ⟨v36, e37, h⟩ := bind_so h
    refine ev_get_r (mm 112 rfl) rfl e37 ?_
    refine ev_iload_n (mm 113 rfl) l1 ?_
    refine ev_aload_nR (mm 114 rfl) l0 ?_
    refine ev_aload_nR (mm 115 rfl) l0 ?_
    obtain ⟨_, e51, h⟩ := bind_so h
    obtain ⟨p38, e39, h⟩ := bind_so h
    refine ev_callV_J [] (mm 116 rfl) rfl rfl (by simp [vm_cat_A, vm_cat_I, vm_cat_R, vm_cat_J, vm_cat_0]) (s_ob_of e51) (f137_ok e39 (d + 123)) ?_
    obtain ⟨_, e50, h⟩ := bind_so h
    obtain ⟨p40, e41, h⟩ := bind_so h
    refine ev_callV_I [.long (p38.1)] (mm 117 rfl) rfl rfl (by simp [vm_cat_A, vm_cat_I, vm_cat_R, vm_cat_J, vm_cat_0]) (s_ob_of e50) (f143_ok e41 (d + 124)) ?_
    obtain ⟨q42, e43, h⟩ := bind_so h
    rw [e43]
    obtain ⟨M44, e45, h⟩ := bind_so h
    refine ev_iastore (mm 118 rfl) e45 ?_
    refine ev_aload_nR (mm 119 rfl) l0 ?_
    refine ev_aload_nR (mm 120 rfl) l0 ?_
    obtain ⟨v46, e47, h⟩ := bind_so h
    refine ev_get_i (mm 121 rfl) rfl e47 ?_
    obtain ⟨M48, e49, h⟩ := bind_so h
    refine ev_put_i (mm 122 rfl) (fun z => by cases z) rfl e49 ?_
    exact f154_j243_ok l0 l2 h
def f154_j215 (x0 : Nat) (x1 : Int32) (M : vm_M) : Option (Int32 × vm_M) :=
  f154_j216 x0 x1 0 M
theorem f154_j215_ok {d : Nat} {x0 : Nat} {x1 : Int32} {M : vm_M} {r : Int32 × vm_M} {lv : vm_L} (l0 : (0, .ref (x0)) ∈ lv) (l1 : (1, .int (x1)) ∈ lv) (h : f154_j215 x0 x1 M = some r) : Ev 0 (fun _ => 0) (vm_Cl (d + 125)) vp_154 11 3 false (some (.boolean)) (rI r) 215 lv [] M := by
  unfold f154_j215 at h
  refine ev_iconst (mm 107 rfl) cI_0 ?_
  exact f154_j216_ok l0 l1 h
def f154_j177 (x0 : Nat) (s0 : Int32) (M : vm_M) : Option (Int32 × vm_M) :=
  f154_j243 x0 s0 M
theorem f154_j177_ok {d : Nat} {x0 : Nat} {s0 : Int32} {M : vm_M} {r : Int32 × vm_M} {lv : vm_L} (l0 : (0, .ref (x0)) ∈ lv) (h : f154_j177 x0 s0 M = some r) : Ev 0 (fun _ => 0) (vm_Cl (d + 125)) vp_154 11 3 false (some (.boolean)) (rI r) 177 lv [.int (s0)] M := by
  unfold f154_j177 at h
  refine evs_istore_n (mm 88 rfl) (by decide) (fun lv85 l2 s86 => ?_)
  have l0 := s86 _ _ l0 rfl
  refine ev_goto 243 (mm 89 rfl) rfl ?_
  exact f154_j243_ok l0 l2 h
def f154_j161 (x0 : Nat) (x1 : Int32) (s0 : Option Nat) (s1 : Int32) (s2 : Int32) (M : vm_M) : Option (Int32 × vm_M) :=
  (s0).bind fun q74 =>
  (ss_i M q74 0 s1 s2).bind fun M76 =>
  (sg_r M76 x0 11 31).bind fun v78 =>
  (v78).bind fun q80 =>
  (sa_i M76 q80 0 x1).bind fun v82 =>
  if v82 = (-1) then
    f154_j177 x0 0 M76
  else
    f154_j177 x0 1 M76
theorem f154_j161_ok {d : Nat} {x0 : Nat} {x1 : Int32} {s0 : Option Nat} {s1 : Int32} {s2 : Int32} {M : vm_M} {r : Int32 × vm_M} {lv : vm_L} (l0 : (0, .ref (x0)) ∈ lv) (l1 : (1, .int (x1)) ∈ lv) (h : f154_j161 x0 x1 s0 s1 s2 M = some r) : Ev 0 (fun _ => 0) (vm_Cl (d + 125)) vp_154 11 3 false (some (.boolean)) (rI r) 161 lv [.int (s2), .int (s1), va_rf (s0)] M := by
  unfold f154_j161 at h
  obtain ⟨q74, e75, h⟩ := bind_so h
  rw [e75]
  obtain ⟨M76, e77, h⟩ := bind_so h
  refine ev_iastore (mm 78 rfl) e77 ?_
  refine ev_aload_nR (mm 79 rfl) l0 ?_
  obtain ⟨v78, e79, h⟩ := bind_so h
  refine ev_get_r (mm 80 rfl) rfl e79 ?_
  refine ev_iload_n (mm 81 rfl) l1 ?_
  obtain ⟨q80, e81, h⟩ := bind_so h
  rw [e81]
  obtain ⟨v82, e83, h⟩ := bind_so h
  refine ev_iaload (mm 82 rfl) e83 ?_
  refine ev_iconst (mm 83 rfl) cI_m1 ?_
  rcases ite_so h with ⟨c84, h⟩ | ⟨c84, h⟩
  · refine ev_ic_t 176 (mm 84 rfl) rfl c84 ?_
    refine ev_iconst (mm 87 rfl) cI_0 ?_
    exact f154_j177_ok l0 h
  · refine ev_ic_f 176 (mm 84 rfl) rfl c84 ?_
    refine ev_iconst (mm 85 rfl) cI_1 ?_
    refine ev_goto 177 (mm 86 rfl) rfl ?_
    exact f154_j177_ok l0 h
/-- PupilCoinModel.statement(I)Z -/
def f154 (x0 : Nat) (x1 : Int32) (M : vm_M) : Option (Int32 × vm_M) :=
  (s_ob M x0 11).bind fun _ =>
  (f138 x0 1818848869 M).bind fun p1 =>
  if p1.1 = 0 then
    (s_ob p1.2 x0 11).bind fun _ =>
    (f138 x0 439905906546 p1.2).bind fun p4 =>
    if p4.1 = 0 then
      (s_ob p4.2 x0 11).bind fun _ =>
      (f138 x0 6513008 p4.2).bind fun p7 =>
      if p7.1 = 0 then
        (s_ob p7.2 x0 11).bind fun _ =>
        (f138 x0 500086104428 p7.2).bind fun p10 =>
        if p10.1 = 0 then
          (s_ob p10.2 x0 11).bind fun _ =>
          (f138 x0 1836021349 p10.2).bind fun p13 =>
          if p13.1 = 0 then
            (s_ob p13.2 x0 11).bind fun _ =>
            (f138 x0 478660552050 p13.2).bind fun p16 =>
            if p16.1 = 0 then
              (sg_r p16.2 x0 11 30).bind fun v19 =>
              (v19).bind fun q21 =>
              (ss_i p16.2 q21 0 x1 6).bind fun M23 =>
              (s_ob M23 x0 11).bind fun _ =>
              (f138 x0 495672455781 M23).bind fun p25 =>
              if p25.1 = 0 then
                f154_j215 x0 x1 p25.2
              else
                (s_ob p25.2 x0 11).bind fun _ =>
                (f137 x0 p25.2).bind fun p52 =>
                (s_ob p52.2 x0 11).bind fun _ =>
                (f143 x0 p52.1 p52.2).bind fun p54 =>
                if p54.1 = (-1) then
                  f154_j215 x0 x1 p54.2
                else
                  f154_j216 x0 x1 1 p54.2
            else
              (sg_r p16.2 x0 11 30).bind fun v60 =>
              (v60).bind fun q62 =>
              (ss_i p16.2 q62 0 x1 5).bind fun M64 =>
              (sg_r M64 x0 11 31).bind fun v66 =>
              (s_ob M64 x0 11).bind fun _ =>
              (f138 x0 439905906546 M64).bind fun p68 =>
              if p68.1 = 0 then
                (s_ob p68.2 x0 11).bind fun _ =>
                (f138 x0 6513008 p68.2).bind fun p71 =>
                if p71.1 = 0 then
                  f154_j161 x0 x1 v66 x1 (-1) p71.2
                else
                  f154_j161 x0 x1 v66 x1 1 p71.2
              else
                f154_j161 x0 x1 v66 x1 0 p68.2
          else
            (s_ob p13.2 x0 11).bind fun _ =>
            (f153 x0 x1 4 100 p13.2).bind fun p90 =>
            f154_j243 x0 p90.1 p90.2
        else
          (s_ob p10.2 x0 11).bind fun _ =>
          (f153 x0 x1 3 9999999 p10.2).bind fun p96 =>
          f154_j243 x0 p96.1 p96.2
      else
        (s_ob p7.2 x0 11).bind fun _ =>
        (f153 x0 x1 2 1000 p7.2).bind fun p102 =>
        f154_j243 x0 p102.1 p102.2
    else
      (s_ob p4.2 x0 11).bind fun _ =>
      (f153 x0 x1 1 1000 p4.2).bind fun p108 =>
      f154_j243 x0 p108.1 p108.2
  else
    (s_ob p1.2 x0 11).bind fun _ =>
    (f152 x0 x1 p1.2).bind fun p114 =>
    f154_j243 x0 p114.1 p114.2
theorem f154_ok {x0 : Nat} {x1 : Int32} {M : vm_M} {r : Int32 × vm_M} (h : f154 x0 x1 M = some r) (d : Nat) : vm_Cl (d + 126) 154 [.ref (x0), .int (x1)] M (rI r) := by
  have key : Ev 0 (fun _ => 0) (vm_Cl (d + 125)) vp_154 11 3 false (some (.boolean)) (rI r) 0 (lv_args 0 [.ref (x0), .int (x1)]) [] M := by
    have l0 : (0, .ref (x0)) ∈ lv_args 0 [.ref (x0), .int (x1)] := List.Mem.head _
    have l1 : (1, .int (x1)) ∈ lv_args 0 [.ref (x0), .int (x1)] := List.Mem.tail _ (List.Mem.head _)
    unfold f154 at h
    refine ev_aload_nR (mm 0 rfl) l0 ?_
    refine ev_ldc2_w (mm 1 rfl) cJ_1818848869 ?_
    obtain ⟨_, e119, h⟩ := bind_so h
    obtain ⟨p1, e2, h⟩ := bind_so h
    refine ev_callV_I [.long (1818848869)] (mm 2 rfl) rfl rfl (Nat.le_of_ble_eq_true rfl) (s_ob_of e119) (f138_ok e2 (d + 122)) ?_
    rcases ite_so h with ⟨c3, h⟩ | ⟨c3, h⟩
    · refine ev_if_t 19 (mm 3 rfl) rfl c3 ?_
      refine ev_aload_nR (mm 9 rfl) l0 ?_
      refine ev_ldc2_w (mm 10 rfl) cJ_439905906546 ?_
      obtain ⟨_, e113, h⟩ := bind_so h
      obtain ⟨p4, e5, h⟩ := bind_so h
      refine ev_callV_I [.long (439905906546)] (mm 11 rfl) rfl rfl (Nat.le_of_ble_eq_true rfl) (s_ob_of e113) (f138_ok e5 (d + 122)) ?_
      rcases ite_so h with ⟨c6, h⟩ | ⟨c6, h⟩
      · refine ev_if_t 42 (mm 12 rfl) rfl c6 ?_
        refine ev_aload_nR (mm 20 rfl) l0 ?_
        refine ev_ldc2_w (mm 21 rfl) cJ_6513008 ?_
        obtain ⟨_, e107, h⟩ := bind_so h
        obtain ⟨p7, e8, h⟩ := bind_so h
        refine ev_callV_I [.long (6513008)] (mm 22 rfl) rfl rfl (Nat.le_of_ble_eq_true rfl) (s_ob_of e107) (f138_ok e8 (d + 122)) ?_
        rcases ite_so h with ⟨c9, h⟩ | ⟨c9, h⟩
        · refine ev_if_t 65 (mm 23 rfl) rfl c9 ?_
          refine ev_aload_nR (mm 31 rfl) l0 ?_
          refine ev_ldc2_w (mm 32 rfl) cJ_500086104428 ?_
          obtain ⟨_, e101, h⟩ := bind_so h
          obtain ⟨p10, e11, h⟩ := bind_so h
          refine ev_callV_I [.long (500086104428)] (mm 33 rfl) rfl rfl (Nat.le_of_ble_eq_true rfl) (s_ob_of e101) (f138_ok e11 (d + 122)) ?_
          rcases ite_so h with ⟨c12, h⟩ | ⟨c12, h⟩
          · refine ev_if_t 88 (mm 34 rfl) rfl c12 ?_
            refine ev_aload_nR (mm 42 rfl) l0 ?_
            refine ev_ldc2_w (mm 43 rfl) cJ_1836021349 ?_
            obtain ⟨_, e95, h⟩ := bind_so h
            obtain ⟨p13, e14, h⟩ := bind_so h
            refine ev_callV_I [.long (1836021349)] (mm 44 rfl) rfl rfl (Nat.le_of_ble_eq_true rfl) (s_ob_of e95) (f138_ok e14 (d + 122)) ?_
            rcases ite_so h with ⟨c15, h⟩ | ⟨c15, h⟩
            · refine ev_if_t 110 (mm 45 rfl) rfl c15 ?_
              refine ev_aload_nR (mm 53 rfl) l0 ?_
              refine ev_ldc2_w (mm 54 rfl) cJ_478660552050 ?_
              obtain ⟨_, e89, h⟩ := bind_so h
              obtain ⟨p16, e17, h⟩ := bind_so h
              refine ev_callV_I [.long (478660552050)] (mm 55 rfl) rfl rfl (Nat.le_of_ble_eq_true rfl) (s_ob_of e89) (f138_ok e17 (d + 122)) ?_
              rcases ite_so h with ⟨c18, h⟩ | ⟨c18, h⟩
              · refine ev_if_t 181 (mm 56 rfl) rfl c18 ?_
                refine ev_aload_nR (mm 90 rfl) l0 ?_
                obtain ⟨v19, e20, h⟩ := bind_so h
                refine ev_get_r (mm 91 rfl) rfl e20 ?_
                refine ev_iload_n (mm 92 rfl) l1 ?_
                refine ev_bipush (mm 93 rfl) cB_6 ?_
                obtain ⟨q21, e22, h⟩ := bind_so h
                rw [e22]
                obtain ⟨M23, e24, h⟩ := bind_so h
                refine ev_iastore (mm 94 rfl) e24 ?_
                refine ev_aload_nR (mm 95 rfl) l0 ?_
                refine ev_ldc2_w (mm 96 rfl) cJ_495672455781 ?_
                obtain ⟨_, e59, h⟩ := bind_so h
                obtain ⟨p25, e26, h⟩ := bind_so h
                refine ev_callV_I [.long (495672455781)] (mm 97 rfl) rfl rfl (Nat.le_of_ble_eq_true rfl) (s_ob_of e59) (f138_ok e26 (d + 122)) ?_
                rcases ite_so h with ⟨c27, h⟩ | ⟨c27, h⟩
                · refine ev_if_t 215 (mm 98 rfl) rfl c27 ?_
                  exact f154_j215_ok l0 l1 h
                · refine ev_if_f 215 (mm 98 rfl) rfl c27 ?_
                  refine ev_aload_nR (mm 99 rfl) l0 ?_
                  refine ev_aload_nR (mm 100 rfl) l0 ?_
                  obtain ⟨_, e58, h⟩ := bind_so h
                  obtain ⟨p52, e53, h⟩ := bind_so h
                  refine ev_callV_J [] (mm 101 rfl) rfl rfl (Nat.le_of_ble_eq_true rfl) (s_ob_of e58) (f137_ok e53 (d + 123)) ?_
                  obtain ⟨_, e57, h⟩ := bind_so h
                  obtain ⟨p54, e55, h⟩ := bind_so h
                  refine ev_callV_I [.long (p52.1)] (mm 102 rfl) rfl rfl (Nat.le_of_ble_eq_true rfl) (s_ob_of e57) (f143_ok e55 (d + 124)) ?_
                  refine ev_iconst (mm 103 rfl) cI_m1 ?_
                  rcases ite_so h with ⟨c56, h⟩ | ⟨c56, h⟩
                  · refine ev_ic_t 215 (mm 104 rfl) rfl c56 ?_
                    exact f154_j215_ok l0 l1 h
                  · refine ev_ic_f 215 (mm 104 rfl) rfl c56 ?_
                    refine ev_iconst (mm 105 rfl) cI_1 ?_
                    refine ev_goto 216 (mm 106 rfl) rfl ?_
                    exact f154_j216_ok l0 l1 h
              · refine ev_if_f 181 (mm 56 rfl) rfl c18 ?_
                refine ev_aload_nR (mm 57 rfl) l0 ?_
                obtain ⟨v60, e61, h⟩ := bind_so h
                refine ev_get_r (mm 58 rfl) rfl e61 ?_
                refine ev_iload_n (mm 59 rfl) l1 ?_
                refine ev_iconst (mm 60 rfl) cI_5 ?_
                obtain ⟨q62, e63, h⟩ := bind_so h
                rw [e63]
                obtain ⟨M64, e65, h⟩ := bind_so h
                refine ev_iastore (mm 61 rfl) e65 ?_
                refine ev_aload_nR (mm 62 rfl) l0 ?_
                obtain ⟨v66, e67, h⟩ := bind_so h
                refine ev_get_r (mm 63 rfl) rfl e67 ?_
                refine ev_iload_n (mm 64 rfl) l1 ?_
                refine ev_aload_nR (mm 65 rfl) l0 ?_
                refine ev_ldc2_w (mm 66 rfl) cJ_439905906546 ?_
                obtain ⟨_, e88, h⟩ := bind_so h
                obtain ⟨p68, e69, h⟩ := bind_so h
                refine ev_callV_I [.long (439905906546)] (mm 67 rfl) rfl rfl (by simp [vm_cat_A, vm_cat_I, vm_cat_R, vm_cat_J, vm_cat_0]) (s_ob_of e88) (f138_ok e69 (d + 122)) ?_
                rcases ite_so h with ⟨c70, h⟩ | ⟨c70, h⟩
                · refine ev_if_t 146 (mm 68 rfl) rfl c70 ?_
                  refine ev_aload_nR (mm 71 rfl) l0 ?_
                  refine ev_ldc2_w (mm 72 rfl) cJ_6513008 ?_
                  obtain ⟨_, e87, h⟩ := bind_so h
                  obtain ⟨p71, e72, h⟩ := bind_so h
                  refine ev_callV_I [.long (6513008)] (mm 73 rfl) rfl rfl (by simp [vm_cat_A, vm_cat_I, vm_cat_R, vm_cat_J, vm_cat_0]) (s_ob_of e87) (f138_ok e72 (d + 122)) ?_
                  rcases ite_so h with ⟨c73, h⟩ | ⟨c73, h⟩
                  · refine ev_if_t 160 (mm 74 rfl) rfl c73 ?_
                    refine ev_iconst (mm 77 rfl) cI_m1 ?_
                    exact f154_j161_ok l0 l1 h
                  · refine ev_if_f 160 (mm 74 rfl) rfl c73 ?_
                    refine ev_iconst (mm 75 rfl) cI_1 ?_
                    refine ev_goto 161 (mm 76 rfl) rfl ?_
                    exact f154_j161_ok l0 l1 h
                · refine ev_if_f 146 (mm 68 rfl) rfl c70 ?_
                  refine ev_iconst (mm 69 rfl) cI_0 ?_
                  refine ev_goto 161 (mm 70 rfl) rfl ?_
                  exact f154_j161_ok l0 l1 h
            · refine ev_if_f 110 (mm 45 rfl) rfl c15 ?_
              refine ev_aload_nR (mm 46 rfl) l0 ?_
              refine ev_iload_n (mm 47 rfl) l1 ?_
              refine ev_iconst (mm 48 rfl) cI_4 ?_
              refine ev_bipush (mm 49 rfl) cB_100 ?_
              obtain ⟨_, e94, h⟩ := bind_so h
              obtain ⟨p90, e91, h⟩ := bind_so h
              refine ev_callV_I [.int (x1), .int (4), .int (100)] (mm 50 rfl) rfl rfl (Nat.le_of_ble_eq_true rfl) (s_ob_of e94) (f153_ok e91 (d + 122)) ?_
              refine evs_istore_n (mm 51 rfl) (by decide) (fun lv92 l2 s93 => ?_)
              have l0 := s93 _ _ l0 rfl
              refine ev_goto 243 (mm 52 rfl) rfl ?_
              exact f154_j243_ok l0 l2 h
          · refine ev_if_f 88 (mm 34 rfl) rfl c12 ?_
            refine ev_aload_nR (mm 35 rfl) l0 ?_
            refine ev_iload_n (mm 36 rfl) l1 ?_
            refine ev_iconst (mm 37 rfl) cI_3 ?_
            refine ev_ldc_w (mm 38 rfl) cI_9999999 ?_
            obtain ⟨_, e100, h⟩ := bind_so h
            obtain ⟨p96, e97, h⟩ := bind_so h
            refine ev_callV_I [.int (x1), .int (3), .int (9999999)] (mm 39 rfl) rfl rfl (Nat.le_of_ble_eq_true rfl) (s_ob_of e100) (f153_ok e97 (d + 122)) ?_
            refine evs_istore_n (mm 40 rfl) (by decide) (fun lv98 l2 s99 => ?_)
            have l0 := s99 _ _ l0 rfl
            refine ev_goto 243 (mm 41 rfl) rfl ?_
            exact f154_j243_ok l0 l2 h
        · refine ev_if_f 65 (mm 23 rfl) rfl c9 ?_
          refine ev_aload_nR (mm 24 rfl) l0 ?_
          refine ev_iload_n (mm 25 rfl) l1 ?_
          refine ev_iconst (mm 26 rfl) cI_2 ?_
          refine ev_sipush (mm 27 rfl) cS_1000 ?_
          obtain ⟨_, e106, h⟩ := bind_so h
          obtain ⟨p102, e103, h⟩ := bind_so h
          refine ev_callV_I [.int (x1), .int (2), .int (1000)] (mm 28 rfl) rfl rfl (Nat.le_of_ble_eq_true rfl) (s_ob_of e106) (f153_ok e103 (d + 122)) ?_
          refine evs_istore_n (mm 29 rfl) (by decide) (fun lv104 l2 s105 => ?_)
          have l0 := s105 _ _ l0 rfl
          refine ev_goto 243 (mm 30 rfl) rfl ?_
          exact f154_j243_ok l0 l2 h
      · refine ev_if_f 42 (mm 12 rfl) rfl c6 ?_
        refine ev_aload_nR (mm 13 rfl) l0 ?_
        refine ev_iload_n (mm 14 rfl) l1 ?_
        refine ev_iconst (mm 15 rfl) cI_1 ?_
        refine ev_sipush (mm 16 rfl) cS_1000 ?_
        obtain ⟨_, e112, h⟩ := bind_so h
        obtain ⟨p108, e109, h⟩ := bind_so h
        refine ev_callV_I [.int (x1), .int (1), .int (1000)] (mm 17 rfl) rfl rfl (Nat.le_of_ble_eq_true rfl) (s_ob_of e112) (f153_ok e109 (d + 122)) ?_
        refine evs_istore_n (mm 18 rfl) (by decide) (fun lv110 l2 s111 => ?_)
        have l0 := s111 _ _ l0 rfl
        refine ev_goto 243 (mm 19 rfl) rfl ?_
        exact f154_j243_ok l0 l2 h
    · refine ev_if_f 19 (mm 3 rfl) rfl c3 ?_
      refine ev_aload_nR (mm 4 rfl) l0 ?_
      refine ev_iload_n (mm 5 rfl) l1 ?_
      obtain ⟨_, e118, h⟩ := bind_so h
      obtain ⟨p114, e115, h⟩ := bind_so h
      refine ev_callV_I [.int (x1)] (mm 6 rfl) rfl rfl (Nat.le_of_ble_eq_true rfl) (s_ob_of e118) (f152_ok e115 (d + 0)) ?_
      refine evs_istore_n (mm 7 rfl) (by decide) (fun lv116 l2 s117 => ?_)
      have l0 := s117 _ _ l0 rfl
      refine ev_goto 243 (mm 8 rfl) rfl ?_
      exact f154_j243_ok l0 l2 h
  exact ⟨by decide, Nat.le_of_ble_eq_true rfl, key.1, key.2⟩
def f155_l2 (x0 : Nat) (x1 : Int32) (k25 : vm_M → Option (Int32 × vm_M)) : Nat → Int32 → vm_M → Option (Int32 × vm_M)
  | 0 => fun _ _ => none
  | n + 1 => fun x2 M =>
    if x1 ≤ x2 then
      k25 M
    else
      (sg_r M x0 11 41).bind fun v4 =>
      (sg_r M x0 11 40).bind fun v6 =>
      (v6).bind fun q8 =>
      (sa_i M q8 3 x2).bind fun v10 =>
      (v4).bind fun q12 =>
      (ss_i M q12 3 x2 v10).bind fun M14 =>
      f155_l2 x0 x1 k25 n (x2 + 1) M14
theorem f155_l2_ok {d : Nat} {x0 : Nat} {x1 : Int32} {k25 : vm_M → Option (Int32 × vm_M)} {r : Int32 × vm_M} (hk25 : ∀ {M : vm_M} {lv : vm_L}, (0, .ref (x0)) ∈ lv → (1, .int (x1)) ∈ lv → k25 M = some r → Ev 0 (fun _ => 0) (vm_Cl (d + 126)) vp_155 11 3 false (some (.boolean)) (rI r) 25 lv [] M) : ∀ (n : Nat) {x2 : Int32} {M : vm_M} {lv : vm_L}, (0, .ref (x0)) ∈ lv → (1, .int (x1)) ∈ lv → (2, .int (x2)) ∈ lv → f155_l2 x0 x1 k25 n x2 M = some r → Ev 0 (fun _ => 0) (vm_Cl (d + 126)) vp_155 11 3 false (some (.boolean)) (rI r) 2 lv [] M := by
  intro n
  induction n with
  | zero =>
    intro x2 M lv l0 l1 l2 h
    cases h
  | succ n ih =>
    intro x2 M lv l0 l1 l2 h
    dsimp only [f155_l2] at h
    refine ev_iload_n (mm 2 rfl) l2 ?_
    refine ev_iload_n (mm 3 rfl) l1 ?_
    rcases ite_so h with ⟨c3, h⟩ | ⟨c3, h⟩
    · refine ev_ic_t 25 (mm 4 rfl) rfl c3 ?_
      exact hk25 l0 l1 h
    · refine ev_ic_f 25 (mm 4 rfl) rfl c3 ?_
      refine ev_aload_nR (mm 5 rfl) l0 ?_
      obtain ⟨v4, e5, h⟩ := bind_so h
      refine ev_get_r (mm 6 rfl) rfl e5 ?_
      refine ev_iload_n (mm 7 rfl) l2 ?_
      refine ev_aload_nR (mm 8 rfl) l0 ?_
      obtain ⟨v6, e7, h⟩ := bind_so h
      refine ev_get_r (mm 9 rfl) rfl e7 ?_
      refine ev_iload_n (mm 10 rfl) l2 ?_
      obtain ⟨q8, e9, h⟩ := bind_so h
      rw [e9]
      obtain ⟨v10, e11, h⟩ := bind_so h
      refine ev_baload (mm 11 rfl) e11 ?_
      obtain ⟨q12, e13, h⟩ := bind_so h
      rw [e13]
      obtain ⟨M14, e15, h⟩ := bind_so h
      refine ev_bastore (mm 12 rfl) e15 ?_
      refine evs_iinc (mm 13 rfl) cI_1 l2 (by decide) (fun lv16 l2 s17 => ?_)
      have l0 := s17 _ _ l0 rfl
      have l1 := s17 _ _ l1 rfl
      refine ev_goto 2 (mm 14 rfl) rfl ?_
      exact ih l0 l1 l2 h
def f155_j116 (k142 : Int32 → vm_M → Option (Int32 × vm_M)) (k66 : Int32 → vm_M → Option (Int32 × vm_M)) (x0 : Nat) (s0 : Int32) (M : vm_M) : Option (Int32 × vm_M) :=
  if ¬ s0 = 0 then
    (sg_r M x0 11 27).bind fun v55 =>
    (v55).bind fun q57 =>
    (sa_i M q57 0 9).bind fun v59 =>
    (ss_i M q57 0 9 (v59 + 1)).bind fun M61 =>
    (s_ob M61 x0 11).bind fun _ =>
    (f136 x0 M61).bind fun p63 =>
    k66 s0 p63
  else
    k66 s0 M
theorem f155_j116_ok {d : Nat} {x0 : Nat} {s0 : Int32} {M : vm_M} {k142 : Int32 → vm_M → Option (Int32 × vm_M)} {k66 : Int32 → vm_M → Option (Int32 × vm_M)} {r : Int32 × vm_M} (hk142 : ∀ {y2 : Int32} {M : vm_M} {lv : vm_L}, (0, .ref (x0)) ∈ lv → (2, .int (y2)) ∈ lv → k142 y2 M = some r → Ev 0 (fun _ => 0) (vm_Cl (d + 126)) vp_155 11 3 false (some (.boolean)) (rI r) 142 lv [] M) (hk66 : ∀ {y2 : Int32} {M : vm_M} {lv : vm_L}, (0, .ref (x0)) ∈ lv → (2, .int (y2)) ∈ lv → k66 y2 M = some r → Ev 0 (fun _ => 0) (vm_Cl (d + 126)) vp_155 11 3 false (some (.boolean)) (rI r) 66 lv [] M) {lv : vm_L} (l0 : (0, .ref (x0)) ∈ lv) (h : f155_j116 k142 k66 x0 s0 M = some r) : Ev 0 (fun _ => 0) (vm_Cl (d + 126)) vp_155 11 3 false (some (.boolean)) (rI r) 116 lv [.int (s0)] M := by
  unfold f155_j116 at h
  refine evs_istore_n (mm 64 rfl) (by decide) (fun lv52 l2 s53 => ?_)
  have l0 := s53 _ _ l0 rfl
  refine ev_iload_n (mm 65 rfl) l2 ?_
  rcases ite_so h with ⟨c54, h⟩ | ⟨c54, h⟩
  · refine ev_if_t 124 (mm 66 rfl) rfl c54 ?_
    refine ev_aload_nR (mm 68 rfl) l0 ?_
    obtain ⟨v55, e56, h⟩ := bind_so h
    refine ev_get_r (mm 69 rfl) rfl e56 ?_
    refine ev_bipush (mm 70 rfl) cB_9 ?_
    refine ev_dup2 (mm 71 rfl) rfl (by cases (v55 : Option Nat) <;> rfl) ?_
    obtain ⟨q57, e58, h⟩ := bind_so h
    rw [e58]
    obtain ⟨v59, e60, h⟩ := bind_so h
    refine ev_iaload (mm 72 rfl) e60 ?_
    refine ev_iconst (mm 73 rfl) cI_1 ?_
    refine ev_iadd (mm 74 rfl) ?_
    obtain ⟨M61, e62, h⟩ := bind_so h
    refine ev_iastore (mm 75 rfl) e62 ?_
    refine ev_aload_nR (mm 76 rfl) l0 ?_
    obtain ⟨_, e65, h⟩ := bind_so h
    obtain ⟨p63, e64, h⟩ := bind_so h
    refine ev_callV_V [] (mm 77 rfl) rfl rfl (Nat.le_of_ble_eq_true rfl) (s_ob_of e65) (f136_ok e64 (d + 125)) ?_
    refine ev_goto 66 (mm 78 rfl) rfl ?_
    exact hk66 l0 l2 h
  · refine ev_if_f 124 (mm 66 rfl) rfl c54 ?_
    refine ev_goto 66 (mm 67 rfl) rfl ?_
    exact hk66 l0 l2 h
def f155_j115 (k142 : Int32 → vm_M → Option (Int32 × vm_M)) (k66 : Int32 → vm_M → Option (Int32 × vm_M)) (x0 : Nat) (M : vm_M) : Option (Int32 × vm_M) :=
  f155_j116 k142 k66 x0 0 M
theorem f155_j115_ok {d : Nat} {x0 : Nat} {M : vm_M} {k142 : Int32 → vm_M → Option (Int32 × vm_M)} {k66 : Int32 → vm_M → Option (Int32 × vm_M)} {r : Int32 × vm_M} (hk142 : ∀ {y2 : Int32} {M : vm_M} {lv : vm_L}, (0, .ref (x0)) ∈ lv → (2, .int (y2)) ∈ lv → k142 y2 M = some r → Ev 0 (fun _ => 0) (vm_Cl (d + 126)) vp_155 11 3 false (some (.boolean)) (rI r) 142 lv [] M) (hk66 : ∀ {y2 : Int32} {M : vm_M} {lv : vm_L}, (0, .ref (x0)) ∈ lv → (2, .int (y2)) ∈ lv → k66 y2 M = some r → Ev 0 (fun _ => 0) (vm_Cl (d + 126)) vp_155 11 3 false (some (.boolean)) (rI r) 66 lv [] M) {lv : vm_L} (l0 : (0, .ref (x0)) ∈ lv) (h : f155_j115 k142 k66 x0 M = some r) : Ev 0 (fun _ => 0) (vm_Cl (d + 126)) vp_155 11 3 false (some (.boolean)) (rI r) 115 lv [] M := by
  unfold f155_j115 at h
  refine ev_iconst (mm 63 rfl) cI_0 ?_
  exact f155_j116_ok hk142 hk66 l0 h
def f155_l66 (x0 : Nat) (k142 : Int32 → vm_M → Option (Int32 × vm_M)) : Nat → Int32 → vm_M → Option (Int32 × vm_M)
  | 0 => fun _ _ => none
  | n + 1 => fun x2 M =>
    if x2 = 0 then
      k142 x2 M
    else
      (sg_i M x0 11 21).bind fun v40 =>
      (sg_i M x0 11 20).bind fun v42 =>
      if v42 ≤ v40 then
        k142 x2 M
      else
        (sg_r M x0 11 27).bind fun v45 =>
        (v45).bind fun q47 =>
        (sa_i M q47 0 9).bind fun v49 =>
        if 30 ≤ v49 then
          f155_j115 k142 (f155_l66 x0 k142 n) x0 M
        else
          (sg_r M x0 11 27).bind fun v66 =>
          (v66).bind fun q68 =>
          (sa_i M q68 0 9).bind fun v70 =>
          (s_ob M x0 11).bind fun _ =>
          (f154 x0 (270 + v70) M).bind fun p72 =>
          if p72.1 = 0 then
            f155_j115 k142 (f155_l66 x0 k142 n) x0 p72.2
          else
            f155_j116 k142 (f155_l66 x0 k142 n) x0 1 p72.2
theorem f155_l66_ok {d : Nat} {x0 : Nat} {k142 : Int32 → vm_M → Option (Int32 × vm_M)} {r : Int32 × vm_M} (hk142 : ∀ {y2 : Int32} {M : vm_M} {lv : vm_L}, (0, .ref (x0)) ∈ lv → (2, .int (y2)) ∈ lv → k142 y2 M = some r → Ev 0 (fun _ => 0) (vm_Cl (d + 126)) vp_155 11 3 false (some (.boolean)) (rI r) 142 lv [] M) : ∀ (n : Nat) {x2 : Int32} {M : vm_M} {lv : vm_L}, (0, .ref (x0)) ∈ lv → (2, .int (x2)) ∈ lv → f155_l66 x0 k142 n x2 M = some r → Ev 0 (fun _ => 0) (vm_Cl (d + 126)) vp_155 11 3 false (some (.boolean)) (rI r) 66 lv [] M := by
  intro n
  induction n with
  | zero =>
    intro x2 M lv l0 l2 h
    cases h
  | succ n ih =>
    intro x2 M lv l0 l2 h
    dsimp only [f155_l66] at h
    refine ev_iload_n (mm 39 rfl) l2 ?_
    rcases ite_so h with ⟨c39, h⟩ | ⟨c39, h⟩
    · refine ev_if_t 142 (mm 40 rfl) rfl c39 ?_
      exact hk142 l0 l2 h
    · refine ev_if_f 142 (mm 40 rfl) rfl c39 ?_
      refine ev_aload_nR (mm 41 rfl) l0 ?_
      obtain ⟨v40, e41, h⟩ := bind_so h
      refine ev_get_i (mm 42 rfl) rfl e41 ?_
      refine ev_aload_nR (mm 43 rfl) l0 ?_
      obtain ⟨v42, e43, h⟩ := bind_so h
      refine ev_get_i (mm 44 rfl) rfl e43 ?_
      rcases ite_so h with ⟨c44, h⟩ | ⟨c44, h⟩
      · refine ev_ic_t 142 (mm 45 rfl) rfl c44 ?_
        exact hk142 l0 l2 h
      · refine ev_ic_f 142 (mm 45 rfl) rfl c44 ?_
        refine ev_aload_nR (mm 46 rfl) l0 ?_
        obtain ⟨v45, e46, h⟩ := bind_so h
        refine ev_get_r (mm 47 rfl) rfl e46 ?_
        refine ev_bipush (mm 48 rfl) cB_9 ?_
        obtain ⟨q47, e48, h⟩ := bind_so h
        rw [e48]
        obtain ⟨v49, e50, h⟩ := bind_so h
        refine ev_iaload (mm 49 rfl) e50 ?_
        refine ev_bipush (mm 50 rfl) cB_30 ?_
        rcases ite_so h with ⟨c51, h⟩ | ⟨c51, h⟩
        · refine ev_ic_t 115 (mm 51 rfl) rfl c51 ?_
          exact f155_j115_ok hk142 ih l0 h
        · refine ev_ic_f 115 (mm 51 rfl) rfl c51 ?_
          refine ev_aload_nR (mm 52 rfl) l0 ?_
          refine ev_sipush (mm 53 rfl) cS_270 ?_
          refine ev_aload_nR (mm 54 rfl) l0 ?_
          obtain ⟨v66, e67, h⟩ := bind_so h
          refine ev_get_r (mm 55 rfl) rfl e67 ?_
          refine ev_bipush (mm 56 rfl) cB_9 ?_
          obtain ⟨q68, e69, h⟩ := bind_so h
          rw [e69]
          obtain ⟨v70, e71, h⟩ := bind_so h
          refine ev_iaload (mm 57 rfl) e71 ?_
          refine ev_iadd (mm 58 rfl) ?_
          obtain ⟨_, e75, h⟩ := bind_so h
          obtain ⟨p72, e73, h⟩ := bind_so h
          refine ev_callV_I [.int ((270 + v70))] (mm 59 rfl) rfl rfl (Nat.le_of_ble_eq_true rfl) (s_ob_of e75) (f154_ok e73 (d + 0)) ?_
          rcases ite_so h with ⟨c74, h⟩ | ⟨c74, h⟩
          · refine ev_if_t 115 (mm 60 rfl) rfl c74 ?_
            exact f155_j115_ok hk142 ih l0 h
          · refine ev_if_f 115 (mm 60 rfl) rfl c74 ?_
            refine ev_iconst (mm 61 rfl) cI_1 ?_
            refine ev_goto 116 (mm 62 rfl) rfl ?_
            exact f155_j116_ok hk142 ih l0 h
def f155_j142 (x0 : Nat) (x2 : Int32) (M : vm_M) : Option (Int32 × vm_M) :=
  if x2 = 0 then
    (sg_i M x0 11 21).bind fun v79 =>
    (sp_i M x0 11 25 v79).bind fun M81 =>
    s_rb x2 M81
  else
    (sp_i M x0 11 25 (-1)).bind fun M83 =>
    s_rb x2 M83
theorem f155_j142_ok {d : Nat} {x0 : Nat} {x2 : Int32} {M : vm_M} {r : Int32 × vm_M} {lv : vm_L} (l0 : (0, .ref (x0)) ∈ lv) (l2 : (2, .int (x2)) ∈ lv) (h : f155_j142 x0 x2 M = some r) : Ev 0 (fun _ => 0) (vm_Cl (d + 126)) vp_155 11 3 false (some (.boolean)) (rI r) 142 lv [] M := by
  unfold f155_j142 at h
  refine ev_aload_nR (mm 79 rfl) l0 ?_
  refine ev_iload_n (mm 80 rfl) l2 ?_
  rcases ite_so h with ⟨c78, h⟩ | ⟨c78, h⟩
  · refine ev_if_t 151 (mm 81 rfl) rfl c78 ?_
    refine ev_aload_nR (mm 84 rfl) l0 ?_
    obtain ⟨v79, e80, h⟩ := bind_so h
    refine ev_get_i (mm 85 rfl) rfl e80 ?_
    obtain ⟨M81, e82, h⟩ := bind_so h
    refine ev_put_i (mm 86 rfl) (fun z => by cases z) rfl e82 ?_
    refine ev_iload_n (mm 87 rfl) l2 ?_
    exact ev_zreturn (mm 88 rfl) h
  · refine ev_if_f 151 (mm 81 rfl) rfl c78 ?_
    refine ev_iconst (mm 82 rfl) cI_m1 ?_
    refine ev_goto 155 (mm 83 rfl) rfl ?_
    obtain ⟨M83, e84, h⟩ := bind_so h
    refine ev_put_i (mm 86 rfl) (fun z => by cases z) rfl e84 ?_
    refine ev_iload_n (mm 87 rfl) l2 ?_
    exact ev_zreturn (mm 88 rfl) h
/-- PupilCoinModel.reads(I)Z -/
def f155 (x0 : Nat) (x1 : Int32) (M : vm_M) : Option (Int32 × vm_M) :=
  f155_l2 x0 x1
    (fun M18 =>
      (sp_i M18 x0 11 20 x1).bind fun M19 =>
      (sp_i M19 x0 11 19 0).bind fun M21 =>
      (sp_i M21 x0 11 21 0).bind fun M23 =>
      (sp_i M23 x0 11 23 0).bind fun M25 =>
      (sp_i M25 x0 11 24 13500).bind fun M27 =>
      (sg_r M27 x0 11 27).bind fun v29 =>
      (v29).bind fun q31 =>
      (ss_i M27 q31 0 9 0).bind fun M33 =>
      (s_ob M33 x0 11).bind fun _ =>
      (f136 x0 M33).bind fun p37 =>
      f155_l66 x0
        (fun y76 M77 =>
          f155_j142 x0 y76 M77)
        100000 1 p37)
    100000 0 M
theorem f155_ok {x0 : Nat} {x1 : Int32} {M : vm_M} {r : Int32 × vm_M} (h : f155 x0 x1 M = some r) (d : Nat) : vm_Cl (d + 127) 155 [.ref (x0), .int (x1)] M (rI r) := by
  have key : Ev 0 (fun _ => 0) (vm_Cl (d + 126)) vp_155 11 3 false (some (.boolean)) (rI r) 0 (lv_args 0 [.ref (x0), .int (x1)]) [] M := by
    have l0 : (0, .ref (x0)) ∈ lv_args 0 [.ref (x0), .int (x1)] := List.Mem.head _
    have l1 : (1, .int (x1)) ∈ lv_args 0 [.ref (x0), .int (x1)] := List.Mem.tail _ (List.Mem.head _)
    unfold f155 at h
    refine ev_iconst (mm 0 rfl) cI_0 ?_
    refine evs_istore_n (mm 1 rfl) (by decide) (fun lv1 l2 s2 => ?_)
    have l0 := s2 _ _ l0 rfl
    have l1 := s2 _ _ l1 rfl
    refine f155_l2_ok ?_ 100000 l0 l1 l2 h
    · intro M18 lv l0 l1
      intro h
      refine ev_aload_nR (mm 15 rfl) l0 ?_
      refine ev_iload_n (mm 16 rfl) l1 ?_
      obtain ⟨M19, e20, h⟩ := bind_so h
      refine ev_put_i (mm 17 rfl) (fun z => by cases z) rfl e20 ?_
      refine ev_aload_nR (mm 18 rfl) l0 ?_
      refine ev_iconst (mm 19 rfl) cI_0 ?_
      obtain ⟨M21, e22, h⟩ := bind_so h
      refine ev_put_i (mm 20 rfl) (fun z => by cases z) rfl e22 ?_
      refine ev_aload_nR (mm 21 rfl) l0 ?_
      refine ev_iconst (mm 22 rfl) cI_0 ?_
      obtain ⟨M23, e24, h⟩ := bind_so h
      refine ev_put_i (mm 23 rfl) (fun z => by cases z) rfl e24 ?_
      refine ev_aload_nR (mm 24 rfl) l0 ?_
      refine ev_iconst (mm 25 rfl) cI_0 ?_
      obtain ⟨M25, e26, h⟩ := bind_so h
      refine ev_put_i (mm 26 rfl) (fun z => by cases z) rfl e26 ?_
      refine ev_aload_nR (mm 27 rfl) l0 ?_
      refine ev_sipush (mm 28 rfl) cS_13500 ?_
      obtain ⟨M27, e28, h⟩ := bind_so h
      refine ev_put_i (mm 29 rfl) (fun z => by cases z) rfl e28 ?_
      refine ev_aload_nR (mm 30 rfl) l0 ?_
      obtain ⟨v29, e30, h⟩ := bind_so h
      refine ev_get_r (mm 31 rfl) rfl e30 ?_
      refine ev_bipush (mm 32 rfl) cB_9 ?_
      refine ev_iconst (mm 33 rfl) cI_0 ?_
      obtain ⟨q31, e32, h⟩ := bind_so h
      rw [e32]
      obtain ⟨M33, e34, h⟩ := bind_so h
      refine ev_iastore (mm 34 rfl) e34 ?_
      refine ev_iconst (mm 35 rfl) cI_1 ?_
      refine evs_istore_n (mm 36 rfl) (by decide) (fun lv35 l2 s36 => ?_)
      have l0 := s36 _ _ l0 rfl
      refine ev_aload_nR (mm 37 rfl) l0 ?_
      obtain ⟨_, e85, h⟩ := bind_so h
      obtain ⟨p37, e38, h⟩ := bind_so h
      refine ev_callV_V [] (mm 38 rfl) rfl rfl (Nat.le_of_ble_eq_true rfl) (s_ob_of e85) (f136_ok e38 (d + 125)) ?_
      refine f155_l66_ok ?_ 100000 l0 l2 h
      · intro y76 M77 lv l0 l2
        intro h
        exact f155_j142_ok l0 l2 h
  exact ⟨by decide, Nat.le_of_ble_eq_true rfl, key.1, key.2⟩
def f156_l42 (x0 : Nat) (x1 : Int32) (x3 : Int32) (k152 : vm_M → Option (vm_M)) : Nat → Int32 → vm_M → Option (vm_M)
  | 0 => fun _ _ => none
  | n + 1 => fun x4 M =>
    (sg_r M x0 11 27).bind fun v31 =>
    (v31).bind fun q33 =>
    (sa_i M q33 0 x1).bind fun v35 =>
    if v35 ≤ x4 then
      k152 M
    else
      (sg_r M x0 11 30).bind fun v42 =>
      (sg_r M x0 11 30).bind fun v44 =>
      (v44).bind fun q46 =>
      (sa_i M q46 0 (270 + x4)).bind fun v48 =>
      (v42).bind fun q50 =>
      (ss_i M q50 0 ((30 * x1) + x4) v48).bind fun M52 =>
      (sg_r M52 x0 11 31).bind fun v54 =>
      (sg_r M52 x0 11 31).bind fun v56 =>
      (v56).bind fun q58 =>
      (sa_i M52 q58 0 (270 + x4)).bind fun v60 =>
      (v54).bind fun q62 =>
      (ss_i M52 q62 0 ((30 * x1) + x4) v60).bind fun M64 =>
      (sg_r M64 x0 11 32).bind fun v66 =>
      (sg_r M64 x0 11 32).bind fun v68 =>
      (v68).bind fun q70 =>
      (sa_i M64 q70 0 (270 + x4)).bind fun v72 =>
      (v66).bind fun q74 =>
      (ss_i M64 q74 0 ((30 * x1) + x4) (v72 + x3)).bind fun M76 =>
      (sg_r M76 x0 11 33).bind fun v78 =>
      (sg_r M76 x0 11 33).bind fun v80 =>
      (v80).bind fun q82 =>
      (sa_i M76 q82 0 (270 + x4)).bind fun v84 =>
      (v78).bind fun q86 =>
      (ss_i M76 q86 0 ((30 * x1) + x4) (v84 + x3)).bind fun M88 =>
      (sg_r M88 x0 11 34).bind fun v90 =>
      (sg_r M88 x0 11 34).bind fun v92 =>
      (v92).bind fun q94 =>
      (sa_i M88 q94 0 (270 + x4)).bind fun v96 =>
      (v90).bind fun q98 =>
      (ss_i M88 q98 0 ((30 * x1) + x4) (v96 + x3)).bind fun M100 =>
      f156_l42 x0 x1 x3 k152 n (x4 + 1) M100
theorem f156_l42_ok {d : Nat} {x0 : Nat} {x1 : Int32} {x3 : Int32} {k152 : vm_M → Option (vm_M)} {r : vm_M} (hk152 : ∀ {M : vm_M} {lv : vm_L}, (0, .ref (x0)) ∈ lv → (3, .int (x3)) ∈ lv → k152 M = some r → Ev 0 (fun _ => 0) (vm_Cl (d + 0)) vp_156 11 7 false none (rV r) 152 lv [] M) : ∀ (n : Nat) {x4 : Int32} {M : vm_M} {lv : vm_L}, (0, .ref (x0)) ∈ lv → (1, .int (x1)) ∈ lv → (3, .int (x3)) ∈ lv → (4, .int (x4)) ∈ lv → f156_l42 x0 x1 x3 k152 n x4 M = some r → Ev 0 (fun _ => 0) (vm_Cl (d + 0)) vp_156 11 7 false none (rV r) 42 lv [] M := by
  intro n
  induction n with
  | zero =>
    intro x4 M lv l0 l1 l3 l4 h
    cases h
  | succ n ih =>
    intro x4 M lv l0 l1 l3 l4 h
    dsimp only [f156_l42] at h
    refine ev_iload (mm 27 rfl) l4 ?_
    refine ev_aload_nR (mm 28 rfl) l0 ?_
    obtain ⟨v31, e32, h⟩ := bind_so h
    refine ev_get_r (mm 29 rfl) rfl e32 ?_
    refine ev_iload_n (mm 30 rfl) l1 ?_
    obtain ⟨q33, e34, h⟩ := bind_so h
    rw [e34]
    obtain ⟨v35, e36, h⟩ := bind_so h
    refine ev_iaload (mm 31 rfl) e36 ?_
    rcases ite_so h with ⟨c37, h⟩ | ⟨c37, h⟩
    · refine ev_ic_t 152 (mm 32 rfl) rfl c37 ?_
      exact hk152 l0 l3 h
    · refine ev_ic_f 152 (mm 32 rfl) rfl c37 ?_
      refine ev_bipush (mm 33 rfl) cB_30 ?_
      refine ev_iload_n (mm 34 rfl) l1 ?_
      refine ev_imul (mm 35 rfl) ?_
      refine ev_iload (mm 36 rfl) l4 ?_
      refine ev_iadd (mm 37 rfl) ?_
      refine evs_istore (mm 38 rfl) (by decide) (fun lv38 l5 s39 => ?_)
      have l0 := s39 _ _ l0 rfl
      have l1 := s39 _ _ l1 rfl
      have l3 := s39 _ _ l3 rfl
      have l4 := s39 _ _ l4 rfl
      refine ev_sipush (mm 39 rfl) cS_270 ?_
      refine ev_iload (mm 40 rfl) l4 ?_
      refine ev_iadd (mm 41 rfl) ?_
      refine evs_istore (mm 42 rfl) (by decide) (fun lv40 l6 s41 => ?_)
      have l0 := s41 _ _ l0 rfl
      have l1 := s41 _ _ l1 rfl
      have l3 := s41 _ _ l3 rfl
      have l4 := s41 _ _ l4 rfl
      have l5 := s41 _ _ l5 rfl
      refine ev_aload_nR (mm 43 rfl) l0 ?_
      obtain ⟨v42, e43, h⟩ := bind_so h
      refine ev_get_r (mm 44 rfl) rfl e43 ?_
      refine ev_iload (mm 45 rfl) l5 ?_
      refine ev_aload_nR (mm 46 rfl) l0 ?_
      obtain ⟨v44, e45, h⟩ := bind_so h
      refine ev_get_r (mm 47 rfl) rfl e45 ?_
      refine ev_iload (mm 48 rfl) l6 ?_
      obtain ⟨q46, e47, h⟩ := bind_so h
      rw [e47]
      obtain ⟨v48, e49, h⟩ := bind_so h
      refine ev_iaload (mm 49 rfl) e49 ?_
      obtain ⟨q50, e51, h⟩ := bind_so h
      rw [e51]
      obtain ⟨M52, e53, h⟩ := bind_so h
      refine ev_iastore (mm 50 rfl) e53 ?_
      refine ev_aload_nR (mm 51 rfl) l0 ?_
      obtain ⟨v54, e55, h⟩ := bind_so h
      refine ev_get_r (mm 52 rfl) rfl e55 ?_
      refine ev_iload (mm 53 rfl) l5 ?_
      refine ev_aload_nR (mm 54 rfl) l0 ?_
      obtain ⟨v56, e57, h⟩ := bind_so h
      refine ev_get_r (mm 55 rfl) rfl e57 ?_
      refine ev_iload (mm 56 rfl) l6 ?_
      obtain ⟨q58, e59, h⟩ := bind_so h
      rw [e59]
      obtain ⟨v60, e61, h⟩ := bind_so h
      refine ev_iaload (mm 57 rfl) e61 ?_
      obtain ⟨q62, e63, h⟩ := bind_so h
      rw [e63]
      obtain ⟨M64, e65, h⟩ := bind_so h
      refine ev_iastore (mm 58 rfl) e65 ?_
      refine ev_aload_nR (mm 59 rfl) l0 ?_
      obtain ⟨v66, e67, h⟩ := bind_so h
      refine ev_get_r (mm 60 rfl) rfl e67 ?_
      refine ev_iload (mm 61 rfl) l5 ?_
      refine ev_aload_nR (mm 62 rfl) l0 ?_
      obtain ⟨v68, e69, h⟩ := bind_so h
      refine ev_get_r (mm 63 rfl) rfl e69 ?_
      refine ev_iload (mm 64 rfl) l6 ?_
      obtain ⟨q70, e71, h⟩ := bind_so h
      rw [e71]
      obtain ⟨v72, e73, h⟩ := bind_so h
      refine ev_iaload (mm 65 rfl) e73 ?_
      refine ev_iload_n (mm 66 rfl) l3 ?_
      refine ev_iadd (mm 67 rfl) ?_
      obtain ⟨q74, e75, h⟩ := bind_so h
      rw [e75]
      obtain ⟨M76, e77, h⟩ := bind_so h
      refine ev_iastore (mm 68 rfl) e77 ?_
      refine ev_aload_nR (mm 69 rfl) l0 ?_
      obtain ⟨v78, e79, h⟩ := bind_so h
      refine ev_get_r (mm 70 rfl) rfl e79 ?_
      refine ev_iload (mm 71 rfl) l5 ?_
      refine ev_aload_nR (mm 72 rfl) l0 ?_
      obtain ⟨v80, e81, h⟩ := bind_so h
      refine ev_get_r (mm 73 rfl) rfl e81 ?_
      refine ev_iload (mm 74 rfl) l6 ?_
      obtain ⟨q82, e83, h⟩ := bind_so h
      rw [e83]
      obtain ⟨v84, e85, h⟩ := bind_so h
      refine ev_iaload (mm 75 rfl) e85 ?_
      refine ev_iload_n (mm 76 rfl) l3 ?_
      refine ev_iadd (mm 77 rfl) ?_
      obtain ⟨q86, e87, h⟩ := bind_so h
      rw [e87]
      obtain ⟨M88, e89, h⟩ := bind_so h
      refine ev_iastore (mm 78 rfl) e89 ?_
      refine ev_aload_nR (mm 79 rfl) l0 ?_
      obtain ⟨v90, e91, h⟩ := bind_so h
      refine ev_get_r (mm 80 rfl) rfl e91 ?_
      refine ev_iload (mm 81 rfl) l5 ?_
      refine ev_aload_nR (mm 82 rfl) l0 ?_
      obtain ⟨v92, e93, h⟩ := bind_so h
      refine ev_get_r (mm 83 rfl) rfl e93 ?_
      refine ev_iload (mm 84 rfl) l6 ?_
      obtain ⟨q94, e95, h⟩ := bind_so h
      rw [e95]
      obtain ⟨v96, e97, h⟩ := bind_so h
      refine ev_iaload (mm 85 rfl) e97 ?_
      refine ev_iload_n (mm 86 rfl) l3 ?_
      refine ev_iadd (mm 87 rfl) ?_
      obtain ⟨q98, e99, h⟩ := bind_so h
      rw [e99]
      obtain ⟨M100, e101, h⟩ := bind_so h
      refine ev_iastore (mm 88 rfl) e101 ?_
      refine evs_iinc (mm 89 rfl) cI_1 l4 (by decide) (fun lv102 l4 s103 => ?_)
      have l0 := s103 _ _ l0 rfl
      have l1 := s103 _ _ l1 rfl
      have l3 := s103 _ _ l3 rfl
      refine ev_goto 42 (mm 90 rfl) rfl ?_
      exact ih l0 l1 l3 l4 h
def f156_l157 (x0 : Nat) (x3 : Int32) : Nat → Int32 → vm_M → Option (vm_M)
  | 0 => fun _ _ => none
  | n + 1 => fun x4 M =>
    (sg_i M x0 11 24).bind fun v107 =>
    if v107 ≤ x4 then
      some M
    else
      (sg_r M x0 11 35).bind fun v110 =>
      (sg_r M x0 11 35).bind fun v112 =>
      (v112).bind fun q114 =>
      (sa_i M q114 0 x4).bind fun v116 =>
      (v110).bind fun q118 =>
      (ss_i M q118 0 (x4 + x3) v116).bind fun M120 =>
      (sg_r M120 x0 11 36).bind fun v122 =>
      (sg_r M120 x0 11 36).bind fun v124 =>
      (v124).bind fun q126 =>
      (sa_i M120 q126 0 x4).bind fun v128 =>
      (v122).bind fun q130 =>
      (ss_i M120 q130 0 (x4 + x3) v128).bind fun M132 =>
      f156_l157 x0 x3 n (x4 + 1) M132
theorem f156_l157_ok {d : Nat} {x0 : Nat} {x3 : Int32} {r : vm_M} : ∀ (n : Nat) {x4 : Int32} {M : vm_M} {lv : vm_L}, (0, .ref (x0)) ∈ lv → (3, .int (x3)) ∈ lv → (4, .int (x4)) ∈ lv → f156_l157 x0 x3 n x4 M = some r → Ev 0 (fun _ => 0) (vm_Cl (d + 0)) vp_156 11 7 false none (rV r) 157 lv [] M := by
  intro n
  induction n with
  | zero =>
    intro x4 M lv l0 l3 l4 h
    cases h
  | succ n ih =>
    intro x4 M lv l0 l3 l4 h
    dsimp only [f156_l157] at h
    refine ev_iload (mm 93 rfl) l4 ?_
    refine ev_aload_nR (mm 94 rfl) l0 ?_
    obtain ⟨v107, e108, h⟩ := bind_so h
    refine ev_get_i (mm 95 rfl) rfl e108 ?_
    rcases ite_so h with ⟨c109, h⟩ | ⟨c109, h⟩
    · refine ev_ic_t 204 (mm 96 rfl) rfl c109 ?_
      exact ev_return (mm 119 rfl) h
    · refine ev_ic_f 204 (mm 96 rfl) rfl c109 ?_
      refine ev_aload_nR (mm 97 rfl) l0 ?_
      obtain ⟨v110, e111, h⟩ := bind_so h
      refine ev_get_r (mm 98 rfl) rfl e111 ?_
      refine ev_iload (mm 99 rfl) l4 ?_
      refine ev_iload_n (mm 100 rfl) l3 ?_
      refine ev_iadd (mm 101 rfl) ?_
      refine ev_aload_nR (mm 102 rfl) l0 ?_
      obtain ⟨v112, e113, h⟩ := bind_so h
      refine ev_get_r (mm 103 rfl) rfl e113 ?_
      refine ev_iload (mm 104 rfl) l4 ?_
      obtain ⟨q114, e115, h⟩ := bind_so h
      rw [e115]
      obtain ⟨v116, e117, h⟩ := bind_so h
      refine ev_iaload (mm 105 rfl) e117 ?_
      obtain ⟨q118, e119, h⟩ := bind_so h
      rw [e119]
      obtain ⟨M120, e121, h⟩ := bind_so h
      refine ev_iastore (mm 106 rfl) e121 ?_
      refine ev_aload_nR (mm 107 rfl) l0 ?_
      obtain ⟨v122, e123, h⟩ := bind_so h
      refine ev_get_r (mm 108 rfl) rfl e123 ?_
      refine ev_iload (mm 109 rfl) l4 ?_
      refine ev_iload_n (mm 110 rfl) l3 ?_
      refine ev_iadd (mm 111 rfl) ?_
      refine ev_aload_nR (mm 112 rfl) l0 ?_
      obtain ⟨v124, e125, h⟩ := bind_so h
      refine ev_get_r (mm 113 rfl) rfl e125 ?_
      refine ev_iload (mm 114 rfl) l4 ?_
      obtain ⟨q126, e127, h⟩ := bind_so h
      rw [e127]
      obtain ⟨v128, e129, h⟩ := bind_so h
      refine ev_iaload (mm 115 rfl) e129 ?_
      obtain ⟨q130, e131, h⟩ := bind_so h
      rw [e131]
      obtain ⟨M132, e133, h⟩ := bind_so h
      refine ev_iastore (mm 116 rfl) e133 ?_
      refine evs_iinc (mm 117 rfl) cI_1 l4 (by decide) (fun lv134 l4 s135 => ?_)
      have l0 := s135 _ _ l0 rfl
      have l3 := s135 _ _ l3 rfl
      refine ev_goto 157 (mm 118 rfl) rfl ?_
      exact ih l0 l3 l4 h
/-- PupilCoinModel.becomes(II)V -/
def f156 (x0 : Nat) (x1 : Int32) (x2 : Int32) (M : vm_M) : Option (vm_M) :=
  (sg_r M x0 11 27).bind fun v1 =>
  (sg_r M x0 11 27).bind fun v3 =>
  (v3).bind fun q5 =>
  (sa_i M q5 0 9).bind fun v7 =>
  (v1).bind fun q9 =>
  (ss_i M q9 0 x1 v7).bind fun M11 =>
  (sg_r M11 x0 11 28).bind fun v13 =>
  (v13).bind fun q15 =>
  (ss_i M11 q15 0 x1 x2).bind fun M17 =>
  (sg_r M17 x0 11 29).bind fun v19 =>
  (sg_i M17 x0 11 0).bind fun v21 =>
  (v19).bind fun q23 =>
  (ss_i M17 q23 0 x1 v21).bind fun M25 =>
  f156_l42 x0 x1 (1500 * (x1 - 9))
    (fun M104 =>
      f156_l157 x0 (1500 * (x1 - 9))
      
        100000 13500 M104)
    100000 0 M25
theorem f156_ok {x0 : Nat} {x1 : Int32} {x2 : Int32} {M : vm_M} {r : vm_M} (h : f156 x0 x1 x2 M = some r) (d : Nat) : vm_Cl (d + 1) 156 [.ref (x0), .int (x1), .int (x2)] M (rV r) := by
  have key : Ev 0 (fun _ => 0) (vm_Cl (d + 0)) vp_156 11 7 false none (rV r) 0 (lv_args 0 [.ref (x0), .int (x1), .int (x2)]) [] M := by
    have l0 : (0, .ref (x0)) ∈ lv_args 0 [.ref (x0), .int (x1), .int (x2)] := List.Mem.head _
    have l1 : (1, .int (x1)) ∈ lv_args 0 [.ref (x0), .int (x1), .int (x2)] := List.Mem.tail _ (List.Mem.head _)
    have l2 : (2, .int (x2)) ∈ lv_args 0 [.ref (x0), .int (x1), .int (x2)] := List.Mem.tail _ (List.Mem.tail _ (List.Mem.head _))
    unfold f156 at h
    refine ev_aload_nR (mm 0 rfl) l0 ?_
    obtain ⟨v1, e2, h⟩ := bind_so h
    refine ev_get_r (mm 1 rfl) rfl e2 ?_
    refine ev_iload_n (mm 2 rfl) l1 ?_
    refine ev_aload_nR (mm 3 rfl) l0 ?_
    obtain ⟨v3, e4, h⟩ := bind_so h
    refine ev_get_r (mm 4 rfl) rfl e4 ?_
    refine ev_bipush (mm 5 rfl) cB_9 ?_
    obtain ⟨q5, e6, h⟩ := bind_so h
    rw [e6]
    obtain ⟨v7, e8, h⟩ := bind_so h
    refine ev_iaload (mm 6 rfl) e8 ?_
    obtain ⟨q9, e10, h⟩ := bind_so h
    rw [e10]
    obtain ⟨M11, e12, h⟩ := bind_so h
    refine ev_iastore (mm 7 rfl) e12 ?_
    refine ev_aload_nR (mm 8 rfl) l0 ?_
    obtain ⟨v13, e14, h⟩ := bind_so h
    refine ev_get_r (mm 9 rfl) rfl e14 ?_
    refine ev_iload_n (mm 10 rfl) l1 ?_
    refine ev_iload_n (mm 11 rfl) l2 ?_
    obtain ⟨q15, e16, h⟩ := bind_so h
    rw [e16]
    obtain ⟨M17, e18, h⟩ := bind_so h
    refine ev_iastore (mm 12 rfl) e18 ?_
    refine ev_aload_nR (mm 13 rfl) l0 ?_
    obtain ⟨v19, e20, h⟩ := bind_so h
    refine ev_get_r (mm 14 rfl) rfl e20 ?_
    refine ev_iload_n (mm 15 rfl) l1 ?_
    refine ev_aload_nR (mm 16 rfl) l0 ?_
    obtain ⟨v21, e22, h⟩ := bind_so h
    refine ev_get_i (mm 17 rfl) rfl e22 ?_
    obtain ⟨q23, e24, h⟩ := bind_so h
    rw [e24]
    obtain ⟨M25, e26, h⟩ := bind_so h
    refine ev_iastore (mm 18 rfl) e26 ?_
    refine ev_sipush (mm 19 rfl) cS_1500 ?_
    refine ev_iload_n (mm 20 rfl) l1 ?_
    refine ev_bipush (mm 21 rfl) cB_9 ?_
    refine ev_isub (mm 22 rfl) ?_
    refine ev_imul (mm 23 rfl) ?_
    refine evs_istore_n (mm 24 rfl) (by decide) (fun lv27 l3 s28 => ?_)
    have l0 := s28 _ _ l0 rfl
    have l1 := s28 _ _ l1 rfl
    refine ev_iconst (mm 25 rfl) cI_0 ?_
    refine evs_istore (mm 26 rfl) (by decide) (fun lv29 l4 s30 => ?_)
    have l0 := s30 _ _ l0 rfl
    have l1 := s30 _ _ l1 rfl
    have l3 := s30 _ _ l3 rfl
    refine f156_l42_ok ?_ 100000 l0 l1 l3 l4 h
    · intro M104 lv l0 l3
      intro h
      refine ev_sipush (mm 91 rfl) cS_13500 ?_
      refine evs_istore (mm 92 rfl) (by decide) (fun lv105 l4 s106 => ?_)
      have l0 := s106 _ _ l0 rfl
      have l3 := s106 _ _ l3 rfl
      refine f156_l157_ok 100000 l0 l3 l4 h
  exact ⟨by decide, Nat.le_of_ble_eq_true rfl, key.1, key.2⟩
/-- PupilCoinModel.formula(II)I -/
def f157 (x0 : Nat) (x1 : Int32) (x2 : Int32) (M : vm_M) : Option (Int32 × vm_M) :=
  (sg_i M x0 11 19).bind fun v1 =>
  (f112 x1 0 v1 M).bind fun p3 =>
  if p3.1 = 0 then
    some ((-2), p3.2)
  else
    (s_ob p3.2 x0 11).bind fun _ =>
    (f118 x0 p3.2).bind fun p6 =>
    (f112 x2 p6.1 9 p6.2).bind fun p8 =>
    if ¬ p8.1 = 0 then
      (sg_i p8.2 x0 11 18).bind fun v11 =>
      if ¬ v11 = 8 then
        (s_ob p8.2 x0 11).bind fun _ =>
        (f155 x0 x1 p8.2).bind fun p14 =>
        if ¬ p14.1 = 0 then
          (sg_i p14.2 x0 11 18).bind fun v17 =>
          (s_ob p14.2 x0 11).bind fun _ =>
          (f156 x0 v17 x2 p14.2).bind fun p19 =>
          (sg_i p19 x0 11 18).bind fun v21 =>
          (sp_i p19 x0 11 18 (v21 + 1)).bind fun M23 =>
          (sg_i M23 x0 11 18).bind fun v25 =>
          some ((v25 - 1), M23)
        else
          some ((-1), p14.2)
      else
        some ((-3), p8.2)
    else
      some ((-2), p8.2)
theorem f157_ok {x0 : Nat} {x1 : Int32} {x2 : Int32} {M : vm_M} {r : Int32 × vm_M} (h : f157 x0 x1 x2 M = some r) (d : Nat) : vm_Cl (d + 128) 157 [.ref (x0), .int (x1), .int (x2)] M (rI r) := by
  have key : Ev 0 (fun _ => 0) (vm_Cl (d + 127)) vp_157 11 3 false (some (.int)) (rI r) 0 (lv_args 0 [.ref (x0), .int (x1), .int (x2)]) [] M := by
    have l0 : (0, .ref (x0)) ∈ lv_args 0 [.ref (x0), .int (x1), .int (x2)] := List.Mem.head _
    have l1 : (1, .int (x1)) ∈ lv_args 0 [.ref (x0), .int (x1), .int (x2)] := List.Mem.tail _ (List.Mem.head _)
    have l2 : (2, .int (x2)) ∈ lv_args 0 [.ref (x0), .int (x1), .int (x2)] := List.Mem.tail _ (List.Mem.tail _ (List.Mem.head _))
    unfold f157 at h
    refine ev_iload_n (mm 0 rfl) l1 ?_
    refine ev_iconst (mm 1 rfl) cI_0 ?_
    refine ev_aload_nR (mm 2 rfl) l0 ?_
    obtain ⟨v1, e2, h⟩ := bind_so h
    refine ev_get_i (mm 3 rfl) rfl e2 ?_
    obtain ⟨p3, e4, h⟩ := bind_so h
    refine ev_callS_I [.int (x1), .int (0), .int (v1)] (mm 4 rfl) (by decide) rfl rfl (Nat.le_of_ble_eq_true rfl) (f112_ok e4 (d + 126)) ?_
    rcases ite_so h with ⟨c5, h⟩ | ⟨c5, h⟩
    · refine ev_if_t 25 (mm 5 rfl) rfl c5 ?_
      refine ev_bipush (mm 12 rfl) cB_m2 ?_
      exact ev_ireturn (mm 13 rfl) h
    · refine ev_if_f 25 (mm 5 rfl) rfl c5 ?_
      refine ev_iload_n (mm 6 rfl) l2 ?_
      refine ev_aload_nR (mm 7 rfl) l0 ?_
      obtain ⟨_, e29, h⟩ := bind_so h
      obtain ⟨p6, e7, h⟩ := bind_so h
      refine ev_callV_I [] (mm 8 rfl) rfl rfl (Nat.le_of_ble_eq_true rfl) (s_ob_of e29) (f118_ok e7 (d + 126)) ?_
      refine ev_bipush (mm 9 rfl) cB_9 ?_
      obtain ⟨p8, e9, h⟩ := bind_so h
      refine ev_callS_I [.int (x2), .int (p6.1), .int (9)] (mm 10 rfl) (by decide) rfl rfl (Nat.le_of_ble_eq_true rfl) (f112_ok e9 (d + 126)) ?_
      rcases ite_so h with ⟨c10, h⟩ | ⟨c10, h⟩
      · refine ev_if_t 28 (mm 11 rfl) rfl c10 ?_
        refine ev_aload_nR (mm 14 rfl) l0 ?_
        obtain ⟨v11, e12, h⟩ := bind_so h
        refine ev_get_i (mm 15 rfl) rfl e12 ?_
        refine ev_bipush (mm 16 rfl) cB_8 ?_
        rcases ite_so h with ⟨c13, h⟩ | ⟨c13, h⟩
        · refine ev_ic_t 40 (mm 17 rfl) rfl c13 ?_
          refine ev_aload_nR (mm 20 rfl) l0 ?_
          refine ev_iload_n (mm 21 rfl) l1 ?_
          obtain ⟨_, e28, h⟩ := bind_so h
          obtain ⟨p14, e15, h⟩ := bind_so h
          refine ev_callV_I [.int (x1)] (mm 22 rfl) rfl rfl (Nat.le_of_ble_eq_true rfl) (s_ob_of e28) (f155_ok e15 (d + 0)) ?_
          rcases ite_so h with ⟨c16, h⟩ | ⟨c16, h⟩
          · refine ev_if_t 50 (mm 23 rfl) rfl c16 ?_
            refine ev_aload_nR (mm 26 rfl) l0 ?_
            refine ev_aload_nR (mm 27 rfl) l0 ?_
            obtain ⟨v17, e18, h⟩ := bind_so h
            refine ev_get_i (mm 28 rfl) rfl e18 ?_
            refine ev_iload_n (mm 29 rfl) l2 ?_
            obtain ⟨_, e27, h⟩ := bind_so h
            obtain ⟨p19, e20, h⟩ := bind_so h
            refine ev_callV_V [.int (v17), .int (x2)] (mm 30 rfl) rfl rfl (Nat.le_of_ble_eq_true rfl) (s_ob_of e27) (f156_ok e20 (d + 126)) ?_
            refine ev_aload_nR (mm 31 rfl) l0 ?_
            refine ev_dupR (mm 32 rfl) ?_
            obtain ⟨v21, e22, h⟩ := bind_so h
            refine ev_get_i (mm 33 rfl) rfl e22 ?_
            refine ev_iconst (mm 34 rfl) cI_1 ?_
            refine ev_iadd (mm 35 rfl) ?_
            obtain ⟨M23, e24, h⟩ := bind_so h
            refine ev_put_i (mm 36 rfl) (fun z => by cases z) rfl e24 ?_
            refine ev_aload_nR (mm 37 rfl) l0 ?_
            obtain ⟨v25, e26, h⟩ := bind_so h
            refine ev_get_i (mm 38 rfl) rfl e26 ?_
            refine ev_iconst (mm 39 rfl) cI_1 ?_
            refine ev_isub (mm 40 rfl) ?_
            exact ev_ireturn (mm 41 rfl) h
          · refine ev_if_f 50 (mm 23 rfl) rfl c16 ?_
            refine ev_iconst (mm 24 rfl) cI_m1 ?_
            exact ev_ireturn (mm 25 rfl) h
        · refine ev_ic_f 40 (mm 17 rfl) rfl c13 ?_
          refine ev_bipush (mm 18 rfl) cB_m3 ?_
          exact ev_ireturn (mm 19 rfl) h
      · refine ev_if_f 28 (mm 11 rfl) rfl c10 ?_
        refine ev_bipush (mm 12 rfl) cB_m2 ?_
        exact ev_ireturn (mm 13 rfl) h
  exact ⟨by decide, Nat.le_of_ble_eq_true rfl, key.1, key.2⟩
/-- PupilCoinModel.beside(I)I -/
def f158 (x0 : Nat) (x1 : Int32) (M : vm_M) : Option (Int32 × vm_M) :=
  (sg_i M x0 11 19).bind fun v1 =>
  (f112 x1 0 v1 M).bind fun p3 =>
  if ¬ p3.1 = 0 then
    (s_ob p3.2 x0 11).bind fun _ =>
    (f155 x0 x1 p3.2).bind fun p6 =>
    (sp_z p6.2 x0 11 26 p6.1).bind fun M8 =>
    (sg_i M8 x0 11 26).bind fun v10 =>
    if ¬ v10 = 0 then
      (s_ob M8 x0 11).bind fun _ =>
      (f156 x0 8 0 M8).bind fun p13 =>
      some (0, p13)
    else
      some ((-1), M8)
  else
    some ((-2), p3.2)
theorem f158_ok {x0 : Nat} {x1 : Int32} {M : vm_M} {r : Int32 × vm_M} (h : f158 x0 x1 M = some r) (d : Nat) : vm_Cl (d + 128) 158 [.ref (x0), .int (x1)] M (rI r) := by
  have key : Ev 0 (fun _ => 0) (vm_Cl (d + 127)) vp_158 11 2 false (some (.int)) (rI r) 0 (lv_args 0 [.ref (x0), .int (x1)]) [] M := by
    have l0 : (0, .ref (x0)) ∈ lv_args 0 [.ref (x0), .int (x1)] := List.Mem.head _
    have l1 : (1, .int (x1)) ∈ lv_args 0 [.ref (x0), .int (x1)] := List.Mem.tail _ (List.Mem.head _)
    unfold f158 at h
    refine ev_iload_n (mm 0 rfl) l1 ?_
    refine ev_iconst (mm 1 rfl) cI_0 ?_
    refine ev_aload_nR (mm 2 rfl) l0 ?_
    obtain ⟨v1, e2, h⟩ := bind_so h
    refine ev_get_i (mm 3 rfl) rfl e2 ?_
    obtain ⟨p3, e4, h⟩ := bind_so h
    refine ev_callS_I [.int (x1), .int (0), .int (v1)] (mm 4 rfl) (by decide) rfl rfl (Nat.le_of_ble_eq_true rfl) (f112_ok e4 (d + 126)) ?_
    rcases ite_so h with ⟨c5, h⟩ | ⟨c5, h⟩
    · refine ev_if_t 15 (mm 5 rfl) rfl c5 ?_
      refine ev_aload_nR (mm 8 rfl) l0 ?_
      refine ev_aload_nR (mm 9 rfl) l0 ?_
      refine ev_iload_n (mm 10 rfl) l1 ?_
      obtain ⟨_, e16, h⟩ := bind_so h
      obtain ⟨p6, e7, h⟩ := bind_so h
      refine ev_callV_I [.int (x1)] (mm 11 rfl) rfl rfl (Nat.le_of_ble_eq_true rfl) (s_ob_of e16) (f155_ok e7 (d + 0)) ?_
      obtain ⟨M8, e9, h⟩ := bind_so h
      refine ev_put_z (mm 12 rfl) (fun z => by cases z) rfl e9 ?_
      refine ev_aload_nR (mm 13 rfl) l0 ?_
      obtain ⟨v10, e11, h⟩ := bind_so h
      refine ev_get_i (mm 14 rfl) rfl e11 ?_
      rcases ite_so h with ⟨c12, h⟩ | ⟨c12, h⟩
      · refine ev_if_t 33 (mm 15 rfl) rfl c12 ?_
        refine ev_aload_nR (mm 18 rfl) l0 ?_
        refine ev_bipush (mm 19 rfl) cB_8 ?_
        refine ev_iconst (mm 20 rfl) cI_0 ?_
        obtain ⟨_, e15, h⟩ := bind_so h
        obtain ⟨p13, e14, h⟩ := bind_so h
        refine ev_callV_V [.int (8), .int (0)] (mm 21 rfl) rfl rfl (Nat.le_of_ble_eq_true rfl) (s_ob_of e15) (f156_ok e14 (d + 126)) ?_
        refine ev_iconst (mm 22 rfl) cI_0 ?_
        exact ev_ireturn (mm 23 rfl) h
      · refine ev_if_f 33 (mm 15 rfl) rfl c12 ?_
        refine ev_iconst (mm 16 rfl) cI_m1 ?_
        exact ev_ireturn (mm 17 rfl) h
    · refine ev_if_f 15 (mm 5 rfl) rfl c5 ?_
      refine ev_bipush (mm 6 rfl) cB_m2 ?_
      exact ev_ireturn (mm 7 rfl) h
  exact ⟨by decide, Nat.le_of_ble_eq_true rfl, key.1, key.2⟩
/-- PupilCoinModel.fault()I -/
def f159 (x0 : Nat) (M : vm_M) : Option (Int32 × vm_M) :=
  (sg_i M x0 11 25).bind fun v1 =>
  some (v1, M)
theorem f159_ok {x0 : Nat} {M : vm_M} {r : Int32 × vm_M} (h : f159 x0 M = some r) (d : Nat) : vm_Cl (d + 1) 159 [.ref (x0)] M (rI r) := by
  have key : Ev 0 (fun _ => 0) (vm_Cl (d + 0)) vp_159 11 1 false (some (.int)) (rI r) 0 (lv_args 0 [.ref (x0)]) [] M := by
    have l0 : (0, .ref (x0)) ∈ lv_args 0 [.ref (x0)] := List.Mem.head _
    unfold f159 at h
    refine ev_aload_nR (mm 0 rfl) l0 ?_
    obtain ⟨v1, e2, h⟩ := bind_so h
    refine ev_get_i (mm 1 rfl) rfl e2 ?_
    exact ev_ireturn (mm 2 rfl) h
  exact ⟨by decide, Nat.le_of_ble_eq_true rfl, key.1, key.2⟩
def f160_l5 (x0 : Nat) (x1 : Int32) (x2 : Int32) : Nat → Int32 → Int32 → vm_M → Option (Int32 × vm_M)
  | 0 => fun _ _ _ => none
  | n + 1 => fun x3 x4 M =>
    (sg_i M x0 11 18).bind fun v5 =>
    if v5 ≤ x4 then
      some (x3, M)
    else
      (sg_r M x0 11 29).bind fun v8 =>
      (v8).bind fun q10 =>
      (sa_i M q10 0 x4).bind fun v12 =>
      if x2 < v12 then
        f160_l5 x0 x1 x2 n x3 (x4 + 1) M
      else
        (sg_r M x0 11 28).bind fun v17 =>
        (v17).bind fun q19 =>
        (sa_i M q19 0 x4).bind fun v21 =>
        if x1 < v21 then
          f160_l5 x0 x1 x2 n x3 (x4 + 1) M
        else
          if x3 = (-1) then
            f160_l5 x0 x1 x2 n x4 (x4 + 1) M
          else
            (sg_r M x0 11 28).bind fun v31 =>
            (v31).bind fun q33 =>
            (sa_i M q33 0 x4).bind fun v35 =>
            (sg_r M x0 11 28).bind fun v37 =>
            (v37).bind fun q39 =>
            (sa_i M q39 0 x3).bind fun v41 =>
            if v35 < v41 then
              f160_l5 x0 x1 x2 n x3 (x4 + 1) M
            else
              f160_l5 x0 x1 x2 n x4 (x4 + 1) M
theorem f160_l5_ok {d : Nat} {x0 : Nat} {x1 : Int32} {x2 : Int32} {r : Int32 × vm_M} : ∀ (n : Nat) {x3 : Int32} {x4 : Int32} {M : vm_M} {lv : vm_L}, (0, .ref (x0)) ∈ lv → (1, .int (x1)) ∈ lv → (2, .int (x2)) ∈ lv → (3, .int (x3)) ∈ lv → (4, .int (x4)) ∈ lv → f160_l5 x0 x1 x2 n x3 x4 M = some r → Ev 0 (fun _ => 0) (vm_Cl (d + 0)) vp_160 11 5 false (some (.int)) (rI r) 5 lv [] M := by
  intro n
  induction n with
  | zero =>
    intro x3 x4 M lv l0 l1 l2 l3 l4 h
    cases h
  | succ n ih =>
    intro x3 x4 M lv l0 l1 l2 l3 l4 h
    dsimp only [f160_l5] at h
    refine ev_iload (mm 4 rfl) l4 ?_
    refine ev_aload_nR (mm 5 rfl) l0 ?_
    obtain ⟨v5, e6, h⟩ := bind_so h
    refine ev_get_i (mm 6 rfl) rfl e6 ?_
    rcases ite_so h with ⟨c7, h⟩ | ⟨c7, h⟩
    · refine ev_ic_t 66 (mm 7 rfl) rfl c7 ?_
      refine ev_iload_n (mm 36 rfl) l3 ?_
      exact ev_ireturn (mm 37 rfl) h
    · refine ev_ic_f 66 (mm 7 rfl) rfl c7 ?_
      refine ev_aload_nR (mm 8 rfl) l0 ?_
      obtain ⟨v8, e9, h⟩ := bind_so h
      refine ev_get_r (mm 9 rfl) rfl e9 ?_
      refine ev_iload (mm 10 rfl) l4 ?_
      obtain ⟨q10, e11, h⟩ := bind_so h
      rw [e11]
      obtain ⟨v12, e13, h⟩ := bind_so h
      refine ev_iaload (mm 11 rfl) e13 ?_
      refine ev_iload_n (mm 12 rfl) l2 ?_
      rcases ite_so h with ⟨c14, h⟩ | ⟨c14, h⟩
      · refine ev_ic_t 60 (mm 13 rfl) rfl c14 ?_
        refine evs_iinc (mm 34 rfl) cI_1 l4 (by decide) (fun lv15 l4 s16 => ?_)
        have l0 := s16 _ _ l0 rfl
        have l1 := s16 _ _ l1 rfl
        have l2 := s16 _ _ l2 rfl
        have l3 := s16 _ _ l3 rfl
        refine ev_goto 5 (mm 35 rfl) rfl ?_
        exact ih l0 l1 l2 l3 l4 h
      · refine ev_ic_f 60 (mm 13 rfl) rfl c14 ?_
        refine ev_aload_nR (mm 14 rfl) l0 ?_
        obtain ⟨v17, e18, h⟩ := bind_so h
        refine ev_get_r (mm 15 rfl) rfl e18 ?_
        refine ev_iload (mm 16 rfl) l4 ?_
        obtain ⟨q19, e20, h⟩ := bind_so h
        rw [e20]
        obtain ⟨v21, e22, h⟩ := bind_so h
        refine ev_iaload (mm 17 rfl) e22 ?_
        refine ev_iload_n (mm 18 rfl) l1 ?_
        rcases ite_so h with ⟨c23, h⟩ | ⟨c23, h⟩
        · refine ev_ic_t 60 (mm 19 rfl) rfl c23 ?_
          refine evs_iinc (mm 34 rfl) cI_1 l4 (by decide) (fun lv24 l4 s25 => ?_)
          have l0 := s25 _ _ l0 rfl
          have l1 := s25 _ _ l1 rfl
          have l2 := s25 _ _ l2 rfl
          have l3 := s25 _ _ l3 rfl
          refine ev_goto 5 (mm 35 rfl) rfl ?_
          exact ih l0 l1 l2 l3 l4 h
        · refine ev_ic_f 60 (mm 19 rfl) rfl c23 ?_
          refine ev_iload_n (mm 20 rfl) l3 ?_
          refine ev_iconst (mm 21 rfl) cI_m1 ?_
          rcases ite_so h with ⟨c26, h⟩ | ⟨c26, h⟩
          · refine ev_ic_t 57 (mm 22 rfl) rfl c26 ?_
            refine ev_iload (mm 32 rfl) l4 ?_
            refine evs_istore_n (mm 33 rfl) (by decide) (fun lv27 l3 s28 => ?_)
            have l0 := s28 _ _ l0 rfl
            have l1 := s28 _ _ l1 rfl
            have l2 := s28 _ _ l2 rfl
            have l4 := s28 _ _ l4 rfl
            refine evs_iinc (mm 34 rfl) cI_1 l4 (by decide) (fun lv29 l4 s30 => ?_)
            have l0 := s30 _ _ l0 rfl
            have l1 := s30 _ _ l1 rfl
            have l2 := s30 _ _ l2 rfl
            have l3 := s30 _ _ l3 rfl
            refine ev_goto 5 (mm 35 rfl) rfl ?_
            exact ih l0 l1 l2 l3 l4 h
          · refine ev_ic_f 57 (mm 22 rfl) rfl c26 ?_
            refine ev_aload_nR (mm 23 rfl) l0 ?_
            obtain ⟨v31, e32, h⟩ := bind_so h
            refine ev_get_r (mm 24 rfl) rfl e32 ?_
            refine ev_iload (mm 25 rfl) l4 ?_
            obtain ⟨q33, e34, h⟩ := bind_so h
            rw [e34]
            obtain ⟨v35, e36, h⟩ := bind_so h
            refine ev_iaload (mm 26 rfl) e36 ?_
            refine ev_aload_nR (mm 27 rfl) l0 ?_
            obtain ⟨v37, e38, h⟩ := bind_so h
            refine ev_get_r (mm 28 rfl) rfl e38 ?_
            refine ev_iload_n (mm 29 rfl) l3 ?_
            obtain ⟨q39, e40, h⟩ := bind_so h
            rw [e40]
            obtain ⟨v41, e42, h⟩ := bind_so h
            refine ev_iaload (mm 30 rfl) e42 ?_
            rcases ite_so h with ⟨c43, h⟩ | ⟨c43, h⟩
            · refine ev_ic_t 60 (mm 31 rfl) rfl c43 ?_
              refine evs_iinc (mm 34 rfl) cI_1 l4 (by decide) (fun lv44 l4 s45 => ?_)
              have l0 := s45 _ _ l0 rfl
              have l1 := s45 _ _ l1 rfl
              have l2 := s45 _ _ l2 rfl
              have l3 := s45 _ _ l3 rfl
              refine ev_goto 5 (mm 35 rfl) rfl ?_
              exact ih l0 l1 l2 l3 l4 h
            · refine ev_ic_f 60 (mm 31 rfl) rfl c43 ?_
              refine ev_iload (mm 32 rfl) l4 ?_
              refine evs_istore_n (mm 33 rfl) (by decide) (fun lv46 l3 s47 => ?_)
              have l0 := s47 _ _ l0 rfl
              have l1 := s47 _ _ l1 rfl
              have l2 := s47 _ _ l2 rfl
              have l4 := s47 _ _ l4 rfl
              refine evs_iinc (mm 34 rfl) cI_1 l4 (by decide) (fun lv48 l4 s49 => ?_)
              have l0 := s49 _ _ l0 rfl
              have l1 := s49 _ _ l1 rfl
              have l2 := s49 _ _ l2 rfl
              have l3 := s49 _ _ l3 rfl
              refine ev_goto 5 (mm 35 rfl) rfl ?_
              exact ih l0 l1 l2 l3 l4 h
/-- PupilCoinModel.inForce(II)I -/
def f160 (x0 : Nat) (x1 : Int32) (x2 : Int32) (M : vm_M) : Option (Int32 × vm_M) :=
  f160_l5 x0 x1 x2
  
    100000 (-1) 0 M
theorem f160_ok {x0 : Nat} {x1 : Int32} {x2 : Int32} {M : vm_M} {r : Int32 × vm_M} (h : f160 x0 x1 x2 M = some r) (d : Nat) : vm_Cl (d + 1) 160 [.ref (x0), .int (x1), .int (x2)] M (rI r) := by
  have key : Ev 0 (fun _ => 0) (vm_Cl (d + 0)) vp_160 11 5 false (some (.int)) (rI r) 0 (lv_args 0 [.ref (x0), .int (x1), .int (x2)]) [] M := by
    have l0 : (0, .ref (x0)) ∈ lv_args 0 [.ref (x0), .int (x1), .int (x2)] := List.Mem.head _
    have l1 : (1, .int (x1)) ∈ lv_args 0 [.ref (x0), .int (x1), .int (x2)] := List.Mem.tail _ (List.Mem.head _)
    have l2 : (2, .int (x2)) ∈ lv_args 0 [.ref (x0), .int (x1), .int (x2)] := List.Mem.tail _ (List.Mem.tail _ (List.Mem.head _))
    unfold f160 at h
    refine ev_iconst (mm 0 rfl) cI_m1 ?_
    refine evs_istore_n (mm 1 rfl) (by decide) (fun lv1 l3 s2 => ?_)
    have l0 := s2 _ _ l0 rfl
    have l1 := s2 _ _ l1 rfl
    have l2 := s2 _ _ l2 rfl
    refine ev_iconst (mm 2 rfl) cI_0 ?_
    refine evs_istore (mm 3 rfl) (by decide) (fun lv3 l4 s4 => ?_)
    have l0 := s4 _ _ l0 rfl
    have l1 := s4 _ _ l1 rfl
    have l2 := s4 _ _ l2 rfl
    have l3 := s4 _ _ l3 rfl
    refine f160_l5_ok 100000 l0 l1 l2 l3 l4 h
  exact ⟨by decide, Nat.le_of_ble_eq_true rfl, key.1, key.2⟩
def f161_l8 (x0 : Nat) (x1 : Int32) (x2 : Int32) : Nat → Int32 → Int32 → vm_M → Option (Int32 × vm_M)
  | 0 => fun _ _ _ => none
  | n + 1 => fun x3 x4 M =>
    if x1 = (-1) then
      some (x3, M)
    else
      (sg_r M x0 11 27).bind fun v6 =>
      (v6).bind fun q8 =>
      (sa_i M q8 0 x1).bind fun v10 =>
      if ((30 * x1) + v10) ≤ x4 then
        some (x3, M)
      else
        (sg_r M x0 11 30).bind fun v13 =>
        (v13).bind fun q15 =>
        (sa_i M q15 0 x4).bind fun v17 =>
        if ¬ v17 = x2 then
          f161_l8 x0 x1 x2 n x3 (x4 + 1) M
        else
          f161_l8 x0 x1 x2 n x4 (x4 + 1) M
theorem f161_l8_ok {d : Nat} {x0 : Nat} {x1 : Int32} {x2 : Int32} {r : Int32 × vm_M} : ∀ (n : Nat) {x3 : Int32} {x4 : Int32} {M : vm_M} {lv : vm_L}, (0, .ref (x0)) ∈ lv → (1, .int (x1)) ∈ lv → (2, .int (x2)) ∈ lv → (3, .int (x3)) ∈ lv → (4, .int (x4)) ∈ lv → f161_l8 x0 x1 x2 n x3 x4 M = some r → Ev 0 (fun _ => 0) (vm_Cl (d + 0)) vp_161 11 5 false (some (.int)) (rI r) 8 lv [] M := by
  intro n
  induction n with
  | zero =>
    intro x3 x4 M lv l0 l1 l2 l3 l4 h
    cases h
  | succ n ih =>
    intro x3 x4 M lv l0 l1 l2 l3 l4 h
    dsimp only [f161_l8] at h
    refine ev_iload_n (mm 6 rfl) l1 ?_
    refine ev_iconst (mm 7 rfl) cI_m1 ?_
    rcases ite_so h with ⟨c5, h⟩ | ⟨c5, h⟩
    · refine ev_ic_t 49 (mm 8 rfl) rfl c5 ?_
      refine ev_iload_n (mm 29 rfl) l3 ?_
      exact ev_ireturn (mm 30 rfl) h
    · refine ev_ic_f 49 (mm 8 rfl) rfl c5 ?_
      refine ev_iload (mm 9 rfl) l4 ?_
      refine ev_bipush (mm 10 rfl) cB_30 ?_
      refine ev_iload_n (mm 11 rfl) l1 ?_
      refine ev_imul (mm 12 rfl) ?_
      refine ev_aload_nR (mm 13 rfl) l0 ?_
      obtain ⟨v6, e7, h⟩ := bind_so h
      refine ev_get_r (mm 14 rfl) rfl e7 ?_
      refine ev_iload_n (mm 15 rfl) l1 ?_
      obtain ⟨q8, e9, h⟩ := bind_so h
      rw [e9]
      obtain ⟨v10, e11, h⟩ := bind_so h
      refine ev_iaload (mm 16 rfl) e11 ?_
      refine ev_iadd (mm 17 rfl) ?_
      rcases ite_so h with ⟨c12, h⟩ | ⟨c12, h⟩
      · refine ev_ic_t 49 (mm 18 rfl) rfl c12 ?_
        refine ev_iload_n (mm 29 rfl) l3 ?_
        exact ev_ireturn (mm 30 rfl) h
      · refine ev_ic_f 49 (mm 18 rfl) rfl c12 ?_
        refine ev_aload_nR (mm 19 rfl) l0 ?_
        obtain ⟨v13, e14, h⟩ := bind_so h
        refine ev_get_r (mm 20 rfl) rfl e14 ?_
        refine ev_iload (mm 21 rfl) l4 ?_
        obtain ⟨q15, e16, h⟩ := bind_so h
        rw [e16]
        obtain ⟨v17, e18, h⟩ := bind_so h
        refine ev_iaload (mm 22 rfl) e18 ?_
        refine ev_iload_n (mm 23 rfl) l2 ?_
        rcases ite_so h with ⟨c19, h⟩ | ⟨c19, h⟩
        · refine ev_ic_t 43 (mm 24 rfl) rfl c19 ?_
          refine evs_iinc (mm 27 rfl) cI_1 l4 (by decide) (fun lv20 l4 s21 => ?_)
          have l0 := s21 _ _ l0 rfl
          have l1 := s21 _ _ l1 rfl
          have l2 := s21 _ _ l2 rfl
          have l3 := s21 _ _ l3 rfl
          refine ev_goto 8 (mm 28 rfl) rfl ?_
          exact ih l0 l1 l2 l3 l4 h
        · refine ev_ic_f 43 (mm 24 rfl) rfl c19 ?_
          refine ev_iload (mm 25 rfl) l4 ?_
          refine evs_istore_n (mm 26 rfl) (by decide) (fun lv22 l3 s23 => ?_)
          have l0 := s23 _ _ l0 rfl
          have l1 := s23 _ _ l1 rfl
          have l2 := s23 _ _ l2 rfl
          have l4 := s23 _ _ l4 rfl
          refine evs_iinc (mm 27 rfl) cI_1 l4 (by decide) (fun lv24 l4 s25 => ?_)
          have l0 := s25 _ _ l0 rfl
          have l1 := s25 _ _ l1 rfl
          have l2 := s25 _ _ l2 rfl
          have l3 := s25 _ _ l3 rfl
          refine ev_goto 8 (mm 28 rfl) rfl ?_
          exact ih l0 l1 l2 l3 l4 h
/-- PupilCoinModel.last(II)I -/
def f161 (x0 : Nat) (x1 : Int32) (x2 : Int32) (M : vm_M) : Option (Int32 × vm_M) :=
  f161_l8 x0 x1 x2
  
    100000 (-1) (30 * x1) M
theorem f161_ok {x0 : Nat} {x1 : Int32} {x2 : Int32} {M : vm_M} {r : Int32 × vm_M} (h : f161 x0 x1 x2 M = some r) (d : Nat) : vm_Cl (d + 1) 161 [.ref (x0), .int (x1), .int (x2)] M (rI r) := by
  have key : Ev 0 (fun _ => 0) (vm_Cl (d + 0)) vp_161 11 5 false (some (.int)) (rI r) 0 (lv_args 0 [.ref (x0), .int (x1), .int (x2)]) [] M := by
    have l0 : (0, .ref (x0)) ∈ lv_args 0 [.ref (x0), .int (x1), .int (x2)] := List.Mem.head _
    have l1 : (1, .int (x1)) ∈ lv_args 0 [.ref (x0), .int (x1), .int (x2)] := List.Mem.tail _ (List.Mem.head _)
    have l2 : (2, .int (x2)) ∈ lv_args 0 [.ref (x0), .int (x1), .int (x2)] := List.Mem.tail _ (List.Mem.tail _ (List.Mem.head _))
    unfold f161 at h
    refine ev_iconst (mm 0 rfl) cI_m1 ?_
    refine evs_istore_n (mm 1 rfl) (by decide) (fun lv1 l3 s2 => ?_)
    have l0 := s2 _ _ l0 rfl
    have l1 := s2 _ _ l1 rfl
    have l2 := s2 _ _ l2 rfl
    refine ev_bipush (mm 2 rfl) cB_30 ?_
    refine ev_iload_n (mm 3 rfl) l1 ?_
    refine ev_imul (mm 4 rfl) ?_
    refine evs_istore (mm 5 rfl) (by decide) (fun lv3 l4 s4 => ?_)
    have l0 := s4 _ _ l0 rfl
    have l1 := s4 _ _ l1 rfl
    have l2 := s4 _ _ l2 rfl
    have l3 := s4 _ _ l3 rfl
    refine f161_l8_ok 100000 l0 l1 l2 l3 l4 h
  exact ⟨by decide, Nat.le_of_ble_eq_true rfl, key.1, key.2⟩
/-- PupilCoinModel.tells(III)I -/
def f162 (x0 : Nat) (x1 : Int32) (x2 : Int32) (x3 : Int32) (M : vm_M) : Option (Int32 × vm_M) :=
  (s_ob M x0 11).bind fun _ =>
  (f161 x0 x1 x2 M).bind fun p1 =>
  if ¬ p1.1 = (-1) then
    (sg_r p1.2 x0 11 31).bind fun v4 =>
    (s_ob p1.2 x0 11).bind fun _ =>
    (f161 x0 x1 x2 p1.2).bind fun p6 =>
    (v4).bind fun q8 =>
    (sa_i p6.2 q8 0 p6.1).bind fun v10 =>
    some (v10, p6.2)
  else
    some (x3, p1.2)
theorem f162_ok {x0 : Nat} {x1 : Int32} {x2 : Int32} {x3 : Int32} {M : vm_M} {r : Int32 × vm_M} (h : f162 x0 x1 x2 x3 M = some r) (d : Nat) : vm_Cl (d + 2) 162 [.ref (x0), .int (x1), .int (x2), .int (x3)] M (rI r) := by
  have key : Ev 0 (fun _ => 0) (vm_Cl (d + 1)) vp_162 11 4 false (some (.int)) (rI r) 0 (lv_args 0 [.ref (x0), .int (x1), .int (x2), .int (x3)]) [] M := by
    have l0 : (0, .ref (x0)) ∈ lv_args 0 [.ref (x0), .int (x1), .int (x2), .int (x3)] := List.Mem.head _
    have l1 : (1, .int (x1)) ∈ lv_args 0 [.ref (x0), .int (x1), .int (x2), .int (x3)] := List.Mem.tail _ (List.Mem.head _)
    have l2 : (2, .int (x2)) ∈ lv_args 0 [.ref (x0), .int (x1), .int (x2), .int (x3)] := List.Mem.tail _ (List.Mem.tail _ (List.Mem.head _))
    have l3 : (3, .int (x3)) ∈ lv_args 0 [.ref (x0), .int (x1), .int (x2), .int (x3)] := List.Mem.tail _ (List.Mem.tail _ (List.Mem.tail _ (List.Mem.head _)))
    unfold f162 at h
    refine ev_aload_nR (mm 0 rfl) l0 ?_
    refine ev_iload_n (mm 1 rfl) l1 ?_
    refine ev_iload_n (mm 2 rfl) l2 ?_
    obtain ⟨_, e13, h⟩ := bind_so h
    obtain ⟨p1, e2, h⟩ := bind_so h
    refine ev_callV_I [.int (x1), .int (x2)] (mm 3 rfl) rfl rfl (Nat.le_of_ble_eq_true rfl) (s_ob_of e13) (f161_ok e2 (d + 0)) ?_
    refine ev_iconst (mm 4 rfl) cI_m1 ?_
    rcases ite_so h with ⟨c3, h⟩ | ⟨c3, h⟩
    · refine ev_ic_t 14 (mm 5 rfl) rfl c3 ?_
      refine ev_aload_nR (mm 8 rfl) l0 ?_
      obtain ⟨v4, e5, h⟩ := bind_so h
      refine ev_get_r (mm 9 rfl) rfl e5 ?_
      refine ev_aload_nR (mm 10 rfl) l0 ?_
      refine ev_iload_n (mm 11 rfl) l1 ?_
      refine ev_iload_n (mm 12 rfl) l2 ?_
      obtain ⟨_, e12, h⟩ := bind_so h
      obtain ⟨p6, e7, h⟩ := bind_so h
      refine ev_callV_I [.int (x1), .int (x2)] (mm 13 rfl) rfl rfl (by simp [vm_cat_A, vm_cat_I, vm_cat_R, vm_cat_J, vm_cat_0]) (s_ob_of e12) (f161_ok e7 (d + 0)) ?_
      obtain ⟨q8, e9, h⟩ := bind_so h
      rw [e9]
      obtain ⟨v10, e11, h⟩ := bind_so h
      refine ev_iaload (mm 14 rfl) e11 ?_
      exact ev_ireturn (mm 15 rfl) h
    · refine ev_ic_f 14 (mm 5 rfl) rfl c3 ?_
      refine ev_iload_n (mm 6 rfl) l3 ?_
      refine ev_goto 25 (mm 7 rfl) rfl ?_
      exact ev_ireturn (mm 15 rfl) h
  exact ⟨by decide, Nat.le_of_ble_eq_true rfl, key.1, key.2⟩
def f163_l5 (x0 : Nat) (x2 : Int32) : Nat → Int32 → vm_M → Option (Int32 × vm_M)
  | 0 => fun _ _ => none
  | n + 1 => fun x3 M =>
    (sg_r M x0 11 30).bind fun v3 =>
    (v3).bind fun q5 =>
    (sa_i M q5 0 x3).bind fun v7 =>
    if ¬ v7 = 0 then
      f163_l5 x0 x2 n (x3 + 1) M
    else
      (sg_r M x0 11 31).bind fun v12 =>
      (v12).bind fun q14 =>
      (sa_i M q14 0 x3).bind fun v16 =>
      if v16 = x2 then
        (s_rm x3 30).bind fun v19 =>
        some (v19, M)
      else
        f163_l5 x0 x2 n (x3 + 1) M
theorem f163_l5_ok {d : Nat} {x0 : Nat} {x2 : Int32} {r : Int32 × vm_M} : ∀ (n : Nat) {x3 : Int32} {M : vm_M} {lv : vm_L}, (0, .ref (x0)) ∈ lv → (2, .int (x2)) ∈ lv → (3, .int (x3)) ∈ lv → f163_l5 x0 x2 n x3 M = some r → Ev 0 (fun _ => 0) (vm_Cl (d + 0)) vp_163 11 4 false (some (.int)) (rI r) 5 lv [] M := by
  intro n
  induction n with
  | zero =>
    intro x3 M lv l0 l2 l3 h
    cases h
  | succ n ih =>
    intro x3 M lv l0 l2 l3 h
    dsimp only [f163_l5] at h
    refine ev_aload_nR (mm 4 rfl) l0 ?_
    obtain ⟨v3, e4, h⟩ := bind_so h
    refine ev_get_r (mm 5 rfl) rfl e4 ?_
    refine ev_iload_n (mm 6 rfl) l3 ?_
    obtain ⟨q5, e6, h⟩ := bind_so h
    rw [e6]
    obtain ⟨v7, e8, h⟩ := bind_so h
    refine ev_iaload (mm 7 rfl) e8 ?_
    rcases ite_so h with ⟨c9, h⟩ | ⟨c9, h⟩
    · refine ev_if_t 24 (mm 8 rfl) rfl c9 ?_
      refine evs_iinc (mm 15 rfl) cI_1 l3 (by decide) (fun lv10 l3 s11 => ?_)
      have l0 := s11 _ _ l0 rfl
      have l2 := s11 _ _ l2 rfl
      refine ev_goto 5 (mm 16 rfl) rfl ?_
      exact ih l0 l2 l3 h
    · refine ev_if_f 24 (mm 8 rfl) rfl c9 ?_
      refine ev_aload_nR (mm 9 rfl) l0 ?_
      obtain ⟨v12, e13, h⟩ := bind_so h
      refine ev_get_r (mm 10 rfl) rfl e13 ?_
      refine ev_iload_n (mm 11 rfl) l3 ?_
      obtain ⟨q14, e15, h⟩ := bind_so h
      rw [e15]
      obtain ⟨v16, e17, h⟩ := bind_so h
      refine ev_iaload (mm 12 rfl) e17 ?_
      refine ev_iload_n (mm 13 rfl) l2 ?_
      rcases ite_so h with ⟨c18, h⟩ | ⟨c18, h⟩
      · refine ev_ic_t 30 (mm 14 rfl) rfl c18 ?_
        refine ev_iload_n (mm 17 rfl) l3 ?_
        refine ev_bipush (mm 18 rfl) cB_30 ?_
        obtain ⟨v19, e20, h⟩ := bind_so h
        refine ev_irem (mm 19 rfl) e20 ?_
        exact ev_ireturn (mm 20 rfl) h
      · refine ev_ic_f 30 (mm 14 rfl) rfl c18 ?_
        refine evs_iinc (mm 15 rfl) cI_1 l3 (by decide) (fun lv21 l3 s22 => ?_)
        have l0 := s22 _ _ l0 rfl
        have l2 := s22 _ _ l2 rfl
        refine ev_goto 5 (mm 16 rfl) rfl ?_
        exact ih l0 l2 l3 h
/-- PupilCoinModel.lineAt(II)I -/
def f163 (x0 : Nat) (x1 : Int32) (x2 : Int32) (M : vm_M) : Option (Int32 × vm_M) :=
  f163_l5 x0 x2
  
    100000 (30 * x1) M
theorem f163_ok {x0 : Nat} {x1 : Int32} {x2 : Int32} {M : vm_M} {r : Int32 × vm_M} (h : f163 x0 x1 x2 M = some r) (d : Nat) : vm_Cl (d + 1) 163 [.ref (x0), .int (x1), .int (x2)] M (rI r) := by
  have key : Ev 0 (fun _ => 0) (vm_Cl (d + 0)) vp_163 11 4 false (some (.int)) (rI r) 0 (lv_args 0 [.ref (x0), .int (x1), .int (x2)]) [] M := by
    have l0 : (0, .ref (x0)) ∈ lv_args 0 [.ref (x0), .int (x1), .int (x2)] := List.Mem.head _
    have l1 : (1, .int (x1)) ∈ lv_args 0 [.ref (x0), .int (x1), .int (x2)] := List.Mem.tail _ (List.Mem.head _)
    have l2 : (2, .int (x2)) ∈ lv_args 0 [.ref (x0), .int (x1), .int (x2)] := List.Mem.tail _ (List.Mem.tail _ (List.Mem.head _))
    unfold f163 at h
    refine ev_bipush (mm 0 rfl) cB_30 ?_
    refine ev_iload_n (mm 1 rfl) l1 ?_
    refine ev_imul (mm 2 rfl) ?_
    refine evs_istore_n (mm 3 rfl) (by decide) (fun lv1 l3 s2 => ?_)
    have l0 := s2 _ _ l0 rfl
    have l2 := s2 _ _ l2 rfl
    refine f163_l5_ok 100000 l0 l2 l3 h
  exact ⟨by decide, Nat.le_of_ble_eq_true rfl, key.1, key.2⟩
/-- PupilCoinModel.law(III)I -/
def f164 (x0 : Nat) (x1 : Int32) (x2 : Int32) (x3 : Int32) (M : vm_M) : Option (Int32 × vm_M) :=
  (f115 x1 M).bind fun p1 =>
  if p1.1 = 0 then
    some ((-1), p1.2)
  else
    (f114 x2 p1.2).bind fun p4 =>
    if ¬ p4.1 = 0 then
      (s_ob p4.2 x0 11).bind fun _ =>
      (f160 x0 x1 x2 p4.2).bind fun p7 =>
      if x3 = 0 then
        (s_ob p7.2 x0 11).bind fun _ =>
        (f162 x0 p7.1 1 (-1) p7.2).bind fun p12 =>
        some (p12.1, p12.2)
      else if x3 = 1 then
        (s_ob p7.2 x0 11).bind fun _ =>
        (f162 x0 p7.1 2 (-1) p7.2).bind fun p16 =>
        some (p16.1, p16.2)
      else if x3 = 2 then
        (s_ob p7.2 x0 11).bind fun _ =>
        (f162 x0 p7.1 3 (-1) p7.2).bind fun p20 =>
        some (p20.1, p20.2)
      else if x3 = 3 then
        (s_ob p7.2 x0 11).bind fun _ =>
        (f162 x0 p7.1 4 0 p7.2).bind fun p24 =>
        some (p24.1, p24.2)
      else if x3 = 4 then
        (s_ob p7.2 x0 11).bind fun _ =>
        (f162 x0 p7.1 5 0 p7.2).bind fun p28 =>
        some (p28.1, p28.2)
      else if x3 = 5 then
        (s_ob p7.2 x0 11).bind fun _ =>
        (f161 x0 p7.1 6 p7.2).bind fun p32 =>
        if ¬ p32.1 = (-1) then
          (sg_r p32.2 x0 11 31).bind fun v35 =>
          (s_ob p32.2 x0 11).bind fun _ =>
          (f161 x0 p7.1 6 p32.2).bind fun p37 =>
          (v35).bind fun q39 =>
          (sa_i p37.2 q39 0 p37.1).bind fun v41 =>
          (s_ob p37.2 x0 11).bind fun _ =>
          (f163 x0 p7.1 v41 p37.2).bind fun p43 =>
          some (p43.1, p43.2)
        else
          some ((-1), p32.2)
      else if x3 = 6 then
        if ¬ p7.1 = (-1) then
          (sg_r p7.2 x0 11 27).bind fun v50 =>
          (v50).bind fun q52 =>
          (sa_i p7.2 q52 0 p7.1).bind fun v54 =>
          some (v54, p7.2)
        else
          some (0, p7.2)
      else if x3 = 7 then
        some (p7.1, p7.2)
      else 
        some ((-1), p7.2)
    else
      some ((-1), p4.2)
theorem f164_ok {x0 : Nat} {x1 : Int32} {x2 : Int32} {x3 : Int32} {M : vm_M} {r : Int32 × vm_M} (h : f164 x0 x1 x2 x3 M = some r) (d : Nat) : vm_Cl (d + 3) 164 [.ref (x0), .int (x1), .int (x2), .int (x3)] M (rI r) := by
  have key : Ev 0 (fun _ => 0) (vm_Cl (d + 2)) vp_164 11 5 false (some (.int)) (rI r) 0 (lv_args 0 [.ref (x0), .int (x1), .int (x2), .int (x3)]) [] M := by
    have l0 : (0, .ref (x0)) ∈ lv_args 0 [.ref (x0), .int (x1), .int (x2), .int (x3)] := List.Mem.head _
    have l1 : (1, .int (x1)) ∈ lv_args 0 [.ref (x0), .int (x1), .int (x2), .int (x3)] := List.Mem.tail _ (List.Mem.head _)
    have l2 : (2, .int (x2)) ∈ lv_args 0 [.ref (x0), .int (x1), .int (x2), .int (x3)] := List.Mem.tail _ (List.Mem.tail _ (List.Mem.head _))
    have l3 : (3, .int (x3)) ∈ lv_args 0 [.ref (x0), .int (x1), .int (x2), .int (x3)] := List.Mem.tail _ (List.Mem.tail _ (List.Mem.tail _ (List.Mem.head _)))
    unfold f164 at h
    refine ev_iload_n (mm 0 rfl) l1 ?_
    obtain ⟨p1, e2, h⟩ := bind_so h
    refine ev_callS_I [.int (x1)] (mm 1 rfl) (by decide) rfl rfl (Nat.le_of_ble_eq_true rfl) (f115_ok e2 (d + 0)) ?_
    rcases ite_so h with ⟨c3, h⟩ | ⟨c3, h⟩
    · refine ev_if_t 14 (mm 2 rfl) rfl c3 ?_
      refine ev_iconst (mm 6 rfl) cI_m1 ?_
      exact ev_ireturn (mm 7 rfl) h
    · refine ev_if_f 14 (mm 2 rfl) rfl c3 ?_
      refine ev_iload_n (mm 3 rfl) l2 ?_
      obtain ⟨p4, e5, h⟩ := bind_so h
      refine ev_callS_I [.int (x2)] (mm 4 rfl) (by decide) rfl rfl (Nat.le_of_ble_eq_true rfl) (f114_ok e5 (d + 0)) ?_
      rcases ite_so h with ⟨c6, h⟩ | ⟨c6, h⟩
      · refine ev_if_t 16 (mm 5 rfl) rfl c6 ?_
        refine ev_aload_nR (mm 8 rfl) l0 ?_
        refine ev_iload_n (mm 9 rfl) l1 ?_
        refine ev_iload_n (mm 10 rfl) l2 ?_
        obtain ⟨_, e57, h⟩ := bind_so h
        obtain ⟨p7, e8, h⟩ := bind_so h
        refine ev_callV_I [.int (x1), .int (x2)] (mm 11 rfl) rfl rfl (Nat.le_of_ble_eq_true rfl) (s_ob_of e57) (f160_ok e8 (d + 1)) ?_
        refine evs_istore (mm 12 rfl) (by decide) (fun lv9 l4 s10 => ?_)
        have l0 := s10 _ _ l0 rfl
        have l3 := s10 _ _ l3 rfl
        refine ev_iload_n (mm 13 rfl) l3 ?_
        rcases ite_so h with ⟨c11, h⟩ | ⟨c11, h⟩
        · refine ev_tsw (off := 47) 72 0 (mm 14 rfl) c11 rfl rfl ?_
          refine ev_aload_nR (mm 15 rfl) l0 ?_
          refine ev_iload (mm 16 rfl) l4 ?_
          refine ev_iconst (mm 17 rfl) cI_1 ?_
          refine ev_iconst (mm 18 rfl) cI_m1 ?_
          obtain ⟨_, e14, h⟩ := bind_so h
          obtain ⟨p12, e13, h⟩ := bind_so h
          refine ev_callV_I [.int (p7.1), .int (1), .int ((-1))] (mm 19 rfl) rfl rfl (Nat.le_of_ble_eq_true rfl) (s_ob_of e14) (f162_ok e13 (d + 0)) ?_
          exact ev_ireturn (mm 20 rfl) h
        rcases ite_so h with ⟨c15, h⟩ | ⟨c15, h⟩
        · refine ev_tsw (off := 56) 81 1 (mm 14 rfl) c15 rfl rfl ?_
          refine ev_aload_nR (mm 21 rfl) l0 ?_
          refine ev_iload (mm 22 rfl) l4 ?_
          refine ev_iconst (mm 23 rfl) cI_2 ?_
          refine ev_iconst (mm 24 rfl) cI_m1 ?_
          obtain ⟨_, e18, h⟩ := bind_so h
          obtain ⟨p16, e17, h⟩ := bind_so h
          refine ev_callV_I [.int (p7.1), .int (2), .int ((-1))] (mm 25 rfl) rfl rfl (Nat.le_of_ble_eq_true rfl) (s_ob_of e18) (f162_ok e17 (d + 0)) ?_
          exact ev_ireturn (mm 26 rfl) h
        rcases ite_so h with ⟨c19, h⟩ | ⟨c19, h⟩
        · refine ev_tsw (off := 65) 90 2 (mm 14 rfl) c19 rfl rfl ?_
          refine ev_aload_nR (mm 27 rfl) l0 ?_
          refine ev_iload (mm 28 rfl) l4 ?_
          refine ev_iconst (mm 29 rfl) cI_3 ?_
          refine ev_iconst (mm 30 rfl) cI_m1 ?_
          obtain ⟨_, e22, h⟩ := bind_so h
          obtain ⟨p20, e21, h⟩ := bind_so h
          refine ev_callV_I [.int (p7.1), .int (3), .int ((-1))] (mm 31 rfl) rfl rfl (Nat.le_of_ble_eq_true rfl) (s_ob_of e22) (f162_ok e21 (d + 0)) ?_
          exact ev_ireturn (mm 32 rfl) h
        rcases ite_so h with ⟨c23, h⟩ | ⟨c23, h⟩
        · refine ev_tsw (off := 74) 99 3 (mm 14 rfl) c23 rfl rfl ?_
          refine ev_aload_nR (mm 33 rfl) l0 ?_
          refine ev_iload (mm 34 rfl) l4 ?_
          refine ev_iconst (mm 35 rfl) cI_4 ?_
          refine ev_iconst (mm 36 rfl) cI_0 ?_
          obtain ⟨_, e26, h⟩ := bind_so h
          obtain ⟨p24, e25, h⟩ := bind_so h
          refine ev_callV_I [.int (p7.1), .int (4), .int (0)] (mm 37 rfl) rfl rfl (Nat.le_of_ble_eq_true rfl) (s_ob_of e26) (f162_ok e25 (d + 0)) ?_
          exact ev_ireturn (mm 38 rfl) h
        rcases ite_so h with ⟨c27, h⟩ | ⟨c27, h⟩
        · refine ev_tsw (off := 83) 108 4 (mm 14 rfl) c27 rfl rfl ?_
          refine ev_aload_nR (mm 39 rfl) l0 ?_
          refine ev_iload (mm 40 rfl) l4 ?_
          refine ev_iconst (mm 41 rfl) cI_5 ?_
          refine ev_iconst (mm 42 rfl) cI_0 ?_
          obtain ⟨_, e30, h⟩ := bind_so h
          obtain ⟨p28, e29, h⟩ := bind_so h
          refine ev_callV_I [.int (p7.1), .int (5), .int (0)] (mm 43 rfl) rfl rfl (Nat.le_of_ble_eq_true rfl) (s_ob_of e30) (f162_ok e29 (d + 0)) ?_
          exact ev_ireturn (mm 44 rfl) h
        rcases ite_so h with ⟨c31, h⟩ | ⟨c31, h⟩
        · refine ev_tsw (off := 92) 117 5 (mm 14 rfl) c31 rfl rfl ?_
          refine ev_aload_nR (mm 45 rfl) l0 ?_
          refine ev_iload (mm 46 rfl) l4 ?_
          refine ev_bipush (mm 47 rfl) cB_6 ?_
          obtain ⟨_, e47, h⟩ := bind_so h
          obtain ⟨p32, e33, h⟩ := bind_so h
          refine ev_callV_I [.int (p7.1), .int (6)] (mm 48 rfl) rfl rfl (Nat.le_of_ble_eq_true rfl) (s_ob_of e47) (f161_ok e33 (d + 1)) ?_
          refine ev_iconst (mm 49 rfl) cI_m1 ?_
          rcases ite_so h with ⟨c34, h⟩ | ⟨c34, h⟩
          · refine ev_ic_t 133 (mm 50 rfl) rfl c34 ?_
            refine ev_aload_nR (mm 53 rfl) l0 ?_
            refine ev_iload (mm 54 rfl) l4 ?_
            refine ev_aload_nR (mm 55 rfl) l0 ?_
            obtain ⟨v35, e36, h⟩ := bind_so h
            refine ev_get_r (mm 56 rfl) rfl e36 ?_
            refine ev_aload_nR (mm 57 rfl) l0 ?_
            refine ev_iload (mm 58 rfl) l4 ?_
            refine ev_bipush (mm 59 rfl) cB_6 ?_
            obtain ⟨_, e46, h⟩ := bind_so h
            obtain ⟨p37, e38, h⟩ := bind_so h
            refine ev_callV_I [.int (p7.1), .int (6)] (mm 60 rfl) rfl rfl (by simp [vm_cat_A, vm_cat_I, vm_cat_R, vm_cat_J, vm_cat_0]) (s_ob_of e46) (f161_ok e38 (d + 1)) ?_
            obtain ⟨q39, e40, h⟩ := bind_so h
            rw [e40]
            obtain ⟨v41, e42, h⟩ := bind_so h
            refine ev_iaload (mm 61 rfl) e42 ?_
            obtain ⟨_, e45, h⟩ := bind_so h
            obtain ⟨p43, e44, h⟩ := bind_so h
            refine ev_callV_I [.int (p7.1), .int (v41)] (mm 62 rfl) rfl rfl (Nat.le_of_ble_eq_true rfl) (s_ob_of e45) (f163_ok e44 (d + 1)) ?_
            exact ev_ireturn (mm 63 rfl) h
          · refine ev_ic_f 133 (mm 50 rfl) rfl c34 ?_
            refine ev_iconst (mm 51 rfl) cI_m1 ?_
            refine ev_goto 152 (mm 52 rfl) rfl ?_
            exact ev_ireturn (mm 63 rfl) h
        rcases ite_so h with ⟨c48, h⟩ | ⟨c48, h⟩
        · refine ev_tsw (off := 128) 153 6 (mm 14 rfl) c48 rfl rfl ?_
          refine ev_iload (mm 64 rfl) l4 ?_
          refine ev_iconst (mm 65 rfl) cI_m1 ?_
          rcases ite_so h with ⟨c49, h⟩ | ⟨c49, h⟩
          · refine ev_ic_t 163 (mm 66 rfl) rfl c49 ?_
            refine ev_aload_nR (mm 69 rfl) l0 ?_
            obtain ⟨v50, e51, h⟩ := bind_so h
            refine ev_get_r (mm 70 rfl) rfl e51 ?_
            refine ev_iload (mm 71 rfl) l4 ?_
            obtain ⟨q52, e53, h⟩ := bind_so h
            rw [e53]
            obtain ⟨v54, e55, h⟩ := bind_so h
            refine ev_iaload (mm 72 rfl) e55 ?_
            exact ev_ireturn (mm 73 rfl) h
          · refine ev_ic_f 163 (mm 66 rfl) rfl c49 ?_
            refine ev_iconst (mm 67 rfl) cI_0 ?_
            refine ev_goto 170 (mm 68 rfl) rfl ?_
            exact ev_ireturn (mm 73 rfl) h
        rcases ite_so h with ⟨c56, h⟩ | ⟨c56, h⟩
        · refine ev_tsw (off := 146) 171 7 (mm 14 rfl) c56 rfl rfl ?_
          refine ev_iload (mm 74 rfl) l4 ?_
          exact ev_ireturn (mm 75 rfl) h
        refine ev_tswD 174 (mm 14 rfl) rfl (tsw_out [0, 1, 2, 3, 4, 5, 6, 7] rfl rfl (by simp [c11, c15, c19, c23, c27, c31, c48, c56])) ?_
        refine ev_iconst (mm 76 rfl) cI_m1 ?_
        exact ev_ireturn (mm 77 rfl) h
      · refine ev_if_f 16 (mm 5 rfl) rfl c6 ?_
        refine ev_iconst (mm 6 rfl) cI_m1 ?_
        exact ev_ireturn (mm 7 rfl) h
  exact ⟨by decide, Nat.le_of_ble_eq_true rfl, key.1, key.2⟩
/-- PupilCoinModel.held(J)J -/
def f165 (x0 : Int64) (M : vm_M) : Option (Int64 × vm_M) :=
  some ((s_mxJ (-100000000) (s_mnJ 100000000 x0)), M)
theorem f165_ok {x0 : Int64} {M : vm_M} {r : Int64 × vm_M} (h : f165 x0 M = some r) (d : Nat) : vm_Cl (d + 1) 165 [.long (x0)] M (rJ r) := by
  have key : Ev 0 (fun _ => 0) (vm_Cl (d + 0)) vp_165 11 2 false (some (.long)) (rJ r) 0 (lv_args 0 [.long (x0)]) [] M := by
    have l0 : (0, .long (x0)) ∈ lv_args 0 [.long (x0)] := List.Mem.head _
    unfold f165 at h
    refine ev_ldc2_w (mm 0 rfl) cJ_m100000000 ?_
    refine ev_ldc2_w (mm 1 rfl) cJ_100000000 ?_
    refine ev_lload_n (mm 2 rfl) l0 ?_
    refine ev_mnJ (mm 3 rfl) (Nat.le_of_ble_eq_true rfl) ?_
    refine ev_mxJ (mm 4 rfl) (Nat.le_of_ble_eq_true rfl) ?_
    exact ev_lreturn (mm 5 rfl) h
  exact ⟨by decide, Nat.le_of_ble_eq_true rfl, key.1, key.2⟩
/-- PupilCoinModel.bit(Z)J -/
def f166 (x0 : Int32) (M : vm_M) : Option (Int64 × vm_M) :=
  if x0 = 0 then
    some (0, M)
  else
    some (1, M)
theorem f166_ok {x0 : Int32} {M : vm_M} {r : Int64 × vm_M} (h : f166 x0 M = some r) (d : Nat) : vm_Cl (d + 1) 166 [.int (x0)] M (rJ r) := by
  have key : Ev 0 (fun _ => 0) (vm_Cl (d + 0)) vp_166 11 1 false (some (.long)) (rJ r) 0 (lv_args 0 [.int (x0)]) [] M := by
    have l0 : (0, .int (x0)) ∈ lv_args 0 [.int (x0)] := List.Mem.head _
    unfold f166 at h
    refine ev_iload_n (mm 0 rfl) l0 ?_
    rcases ite_so h with ⟨c1, h⟩ | ⟨c1, h⟩
    · refine ev_if_t 8 (mm 1 rfl) rfl c1 ?_
      refine ev_lconst (mm 4 rfl) cL_0 ?_
      exact ev_lreturn (mm 5 rfl) h
    · refine ev_if_f 8 (mm 1 rfl) rfl c1 ?_
      refine ev_lconst (mm 2 rfl) cL_1 ?_
      refine ev_goto 9 (mm 3 rfl) rfl ?_
      exact ev_lreturn (mm 5 rfl) h
  exact ⟨by decide, Nat.le_of_ble_eq_true rfl, key.1, key.2⟩
/-- PupilCoinModel.both(IJJ)J -/
def f167 (x0 : Int32) (x1 : Int64) (x3 : Int64) (M : vm_M) : Option (Int64 × vm_M) :=
  if x0 = 3 then
    (f165 (x1 + x3) M).bind fun p2 =>
    some (p2.1, p2.2)
  else if x0 = 4 then
    (f165 (x1 - x3) M).bind fun p5 =>
    some (p5.1, p5.2)
  else if x0 = 5 then
    (f165 (x1 * x3) M).bind fun p8 =>
    some (p8.1, p8.2)
  else if x0 = 6 then
    if ¬ (lg_cmp x3 0) = 0 then
      (s_dl x1 x3).bind fun v12 =>
      some (v12, M)
    else
      some (0, M)
  else if x0 = 7 then
    some ((s_mnJ x1 x3), M)
  else if x0 = 8 then
    some ((s_mxJ x1 x3), M)
  else if x0 = 9 then
    if 0 ≤ (lg_cmp x1 x3) then
      (f166 0 M).bind fun p18 =>
      some (p18.1, p18.2)
    else
      (f166 1 M).bind fun p20 =>
      some (p20.1, p20.2)
  else if x0 = 10 then
    if (lg_cmp x1 x3) ≤ 0 then
      (f166 0 M).bind fun p24 =>
      some (p24.1, p24.2)
    else
      (f166 1 M).bind fun p26 =>
      some (p26.1, p26.2)
  else if x0 = 11 then
    if ¬ (lg_cmp x1 x3) = 0 then
      (f166 0 M).bind fun p30 =>
      some (p30.1, p30.2)
    else
      (f166 1 M).bind fun p32 =>
      some (p32.1, p32.2)
  else if x0 = 12 then
    if (lg_cmp (x1 + x3) 0) ≤ 0 then
      (f166 0 M).bind fun p36 =>
      some (p36.1, p36.2)
    else
      (f166 1 M).bind fun p38 =>
      some (p38.1, p38.2)
  else 
    if ¬ (lg_cmp (x1 + x3) 2) = 0 then
      (f166 0 M).bind fun p41 =>
      some (p41.1, p41.2)
    else
      (f166 1 M).bind fun p43 =>
      some (p43.1, p43.2)
theorem f167_ok {x0 : Int32} {x1 : Int64} {x3 : Int64} {M : vm_M} {r : Int64 × vm_M} (h : f167 x0 x1 x3 M = some r) (d : Nat) : vm_Cl (d + 2) 167 [.int (x0), .long (x1), .long (x3)] M (rJ r) := by
  have key : Ev 0 (fun _ => 0) (vm_Cl (d + 1)) vp_167 11 5 false (some (.long)) (rJ r) 0 (lv_args 0 [.int (x0), .long (x1), .long (x3)]) [] M := by
    have l0 : (0, .int (x0)) ∈ lv_args 0 [.int (x0), .long (x1), .long (x3)] := List.Mem.head _
    have l1 : (1, .long (x1)) ∈ lv_args 0 [.int (x0), .long (x1), .long (x3)] := List.Mem.tail _ (List.Mem.head _)
    have l3 : (3, .long (x3)) ∈ lv_args 0 [.int (x0), .long (x1), .long (x3)] := List.Mem.tail _ (List.Mem.tail _ (List.Mem.head _))
    unfold f167 at h
    refine ev_iload_n (mm 0 rfl) l0 ?_
    rcases ite_so h with ⟨c1, h⟩ | ⟨c1, h⟩
    · refine ev_tsw (off := 55) 56 0 (mm 1 rfl) c1 rfl rfl ?_
      refine ev_lload_n (mm 2 rfl) l1 ?_
      refine ev_lload_n (mm 3 rfl) l3 ?_
      refine ev_ladd (mm 4 rfl) ?_
      obtain ⟨p2, e3, h⟩ := bind_so h
      refine ev_callS_J [.long ((x1 + x3))] (mm 5 rfl) (by decide) rfl rfl (Nat.le_of_ble_eq_true rfl) (f165_ok e3 (d + 0)) ?_
      exact ev_lreturn (mm 6 rfl) h
    rcases ite_so h with ⟨c4, h⟩ | ⟨c4, h⟩
    · refine ev_tsw (off := 62) 63 1 (mm 1 rfl) c4 rfl rfl ?_
      refine ev_lload_n (mm 7 rfl) l1 ?_
      refine ev_lload_n (mm 8 rfl) l3 ?_
      refine ev_lsub (mm 9 rfl) ?_
      obtain ⟨p5, e6, h⟩ := bind_so h
      refine ev_callS_J [.long ((x1 - x3))] (mm 10 rfl) (by decide) rfl rfl (Nat.le_of_ble_eq_true rfl) (f165_ok e6 (d + 0)) ?_
      exact ev_lreturn (mm 11 rfl) h
    rcases ite_so h with ⟨c7, h⟩ | ⟨c7, h⟩
    · refine ev_tsw (off := 69) 70 2 (mm 1 rfl) c7 rfl rfl ?_
      refine ev_lload_n (mm 12 rfl) l1 ?_
      refine ev_lload_n (mm 13 rfl) l3 ?_
      refine ev_lmul (mm 14 rfl) ?_
      obtain ⟨p8, e9, h⟩ := bind_so h
      refine ev_callS_J [.long ((x1 * x3))] (mm 15 rfl) (by decide) rfl rfl (Nat.le_of_ble_eq_true rfl) (f165_ok e9 (d + 0)) ?_
      exact ev_lreturn (mm 16 rfl) h
    rcases ite_so h with ⟨c10, h⟩ | ⟨c10, h⟩
    · refine ev_tsw (off := 76) 77 3 (mm 1 rfl) c10 rfl rfl ?_
      refine ev_lload_n (mm 17 rfl) l3 ?_
      refine ev_lconst (mm 18 rfl) cL_0 ?_
      refine ev_lcmp (mm 19 rfl) ?_
      rcases ite_so h with ⟨c11, h⟩ | ⟨c11, h⟩
      · refine ev_if_t 87 (mm 20 rfl) rfl c11 ?_
        refine ev_lload_n (mm 23 rfl) l1 ?_
        refine ev_lload_n (mm 24 rfl) l3 ?_
        obtain ⟨v12, e13, h⟩ := bind_so h
        refine ev_ldiv (mm 25 rfl) e13 ?_
        exact ev_lreturn (mm 26 rfl) h
      · refine ev_if_f 87 (mm 20 rfl) rfl c11 ?_
        refine ev_lconst (mm 21 rfl) cL_0 ?_
        refine ev_goto 90 (mm 22 rfl) rfl ?_
        exact ev_lreturn (mm 26 rfl) h
    rcases ite_so h with ⟨c14, h⟩ | ⟨c14, h⟩
    · refine ev_tsw (off := 90) 91 4 (mm 1 rfl) c14 rfl rfl ?_
      refine ev_lload_n (mm 27 rfl) l1 ?_
      refine ev_lload_n (mm 28 rfl) l3 ?_
      refine ev_mnJ (mm 29 rfl) (Nat.le_of_ble_eq_true rfl) ?_
      exact ev_lreturn (mm 30 rfl) h
    rcases ite_so h with ⟨c15, h⟩ | ⟨c15, h⟩
    · refine ev_tsw (off := 96) 97 5 (mm 1 rfl) c15 rfl rfl ?_
      refine ev_lload_n (mm 31 rfl) l1 ?_
      refine ev_lload_n (mm 32 rfl) l3 ?_
      refine ev_mxJ (mm 33 rfl) (Nat.le_of_ble_eq_true rfl) ?_
      exact ev_lreturn (mm 34 rfl) h
    rcases ite_so h with ⟨c16, h⟩ | ⟨c16, h⟩
    · refine ev_tsw (off := 102) 103 6 (mm 1 rfl) c16 rfl rfl ?_
      refine ev_lload_n (mm 35 rfl) l1 ?_
      refine ev_lload_n (mm 36 rfl) l3 ?_
      refine ev_lcmp (mm 37 rfl) ?_
      rcases ite_so h with ⟨c17, h⟩ | ⟨c17, h⟩
      · refine ev_if_t 113 (mm 38 rfl) rfl c17 ?_
        refine ev_iconst (mm 41 rfl) cI_0 ?_
        obtain ⟨p18, e19, h⟩ := bind_so h
        refine ev_callS_J [.int (0)] (mm 42 rfl) (by decide) rfl rfl (Nat.le_of_ble_eq_true rfl) (f166_ok e19 (d + 0)) ?_
        exact ev_lreturn (mm 43 rfl) h
      · refine ev_if_f 113 (mm 38 rfl) rfl c17 ?_
        refine ev_iconst (mm 39 rfl) cI_1 ?_
        refine ev_goto 114 (mm 40 rfl) rfl ?_
        obtain ⟨p20, e21, h⟩ := bind_so h
        refine ev_callS_J [.int (1)] (mm 42 rfl) (by decide) rfl rfl (Nat.le_of_ble_eq_true rfl) (f166_ok e21 (d + 0)) ?_
        exact ev_lreturn (mm 43 rfl) h
    rcases ite_so h with ⟨c22, h⟩ | ⟨c22, h⟩
    · refine ev_tsw (off := 117) 118 7 (mm 1 rfl) c22 rfl rfl ?_
      refine ev_lload_n (mm 44 rfl) l1 ?_
      refine ev_lload_n (mm 45 rfl) l3 ?_
      refine ev_lcmp (mm 46 rfl) ?_
      rcases ite_so h with ⟨c23, h⟩ | ⟨c23, h⟩
      · refine ev_if_t 128 (mm 47 rfl) rfl c23 ?_
        refine ev_iconst (mm 50 rfl) cI_0 ?_
        obtain ⟨p24, e25, h⟩ := bind_so h
        refine ev_callS_J [.int (0)] (mm 51 rfl) (by decide) rfl rfl (Nat.le_of_ble_eq_true rfl) (f166_ok e25 (d + 0)) ?_
        exact ev_lreturn (mm 52 rfl) h
      · refine ev_if_f 128 (mm 47 rfl) rfl c23 ?_
        refine ev_iconst (mm 48 rfl) cI_1 ?_
        refine ev_goto 129 (mm 49 rfl) rfl ?_
        obtain ⟨p26, e27, h⟩ := bind_so h
        refine ev_callS_J [.int (1)] (mm 51 rfl) (by decide) rfl rfl (Nat.le_of_ble_eq_true rfl) (f166_ok e27 (d + 0)) ?_
        exact ev_lreturn (mm 52 rfl) h
    rcases ite_so h with ⟨c28, h⟩ | ⟨c28, h⟩
    · refine ev_tsw (off := 132) 133 8 (mm 1 rfl) c28 rfl rfl ?_
      refine ev_lload_n (mm 53 rfl) l1 ?_
      refine ev_lload_n (mm 54 rfl) l3 ?_
      refine ev_lcmp (mm 55 rfl) ?_
      rcases ite_so h with ⟨c29, h⟩ | ⟨c29, h⟩
      · refine ev_if_t 143 (mm 56 rfl) rfl c29 ?_
        refine ev_iconst (mm 59 rfl) cI_0 ?_
        obtain ⟨p30, e31, h⟩ := bind_so h
        refine ev_callS_J [.int (0)] (mm 60 rfl) (by decide) rfl rfl (Nat.le_of_ble_eq_true rfl) (f166_ok e31 (d + 0)) ?_
        exact ev_lreturn (mm 61 rfl) h
      · refine ev_if_f 143 (mm 56 rfl) rfl c29 ?_
        refine ev_iconst (mm 57 rfl) cI_1 ?_
        refine ev_goto 144 (mm 58 rfl) rfl ?_
        obtain ⟨p32, e33, h⟩ := bind_so h
        refine ev_callS_J [.int (1)] (mm 60 rfl) (by decide) rfl rfl (Nat.le_of_ble_eq_true rfl) (f166_ok e33 (d + 0)) ?_
        exact ev_lreturn (mm 61 rfl) h
    rcases ite_so h with ⟨c34, h⟩ | ⟨c34, h⟩
    · refine ev_tsw (off := 147) 148 9 (mm 1 rfl) c34 rfl rfl ?_
      refine ev_lload_n (mm 62 rfl) l1 ?_
      refine ev_lload_n (mm 63 rfl) l3 ?_
      refine ev_ladd (mm 64 rfl) ?_
      refine ev_lconst (mm 65 rfl) cL_0 ?_
      refine ev_lcmp (mm 66 rfl) ?_
      rcases ite_so h with ⟨c35, h⟩ | ⟨c35, h⟩
      · refine ev_if_t 160 (mm 67 rfl) rfl c35 ?_
        refine ev_iconst (mm 70 rfl) cI_0 ?_
        obtain ⟨p36, e37, h⟩ := bind_so h
        refine ev_callS_J [.int (0)] (mm 71 rfl) (by decide) rfl rfl (Nat.le_of_ble_eq_true rfl) (f166_ok e37 (d + 0)) ?_
        exact ev_lreturn (mm 72 rfl) h
      · refine ev_if_f 160 (mm 67 rfl) rfl c35 ?_
        refine ev_iconst (mm 68 rfl) cI_1 ?_
        refine ev_goto 161 (mm 69 rfl) rfl ?_
        obtain ⟨p38, e39, h⟩ := bind_so h
        refine ev_callS_J [.int (1)] (mm 71 rfl) (by decide) rfl rfl (Nat.le_of_ble_eq_true rfl) (f166_ok e39 (d + 0)) ?_
        exact ev_lreturn (mm 72 rfl) h
    refine ev_tswD 165 (mm 1 rfl) rfl (tsw_out [3, 4, 5, 6, 7, 8, 9, 10, 11, 12] rfl rfl (by simp [c1, c4, c7, c10, c14, c15, c16, c22, c28, c34])) ?_
    refine ev_lload_n (mm 73 rfl) l1 ?_
    refine ev_lload_n (mm 74 rfl) l3 ?_
    refine ev_ladd (mm 75 rfl) ?_
    refine ev_ldc2_w (mm 76 rfl) cJ_2 ?_
    refine ev_lcmp (mm 77 rfl) ?_
    rcases ite_so h with ⟨c40, h⟩ | ⟨c40, h⟩
    · refine ev_if_t 179 (mm 78 rfl) rfl c40 ?_
      refine ev_iconst (mm 81 rfl) cI_0 ?_
      obtain ⟨p41, e42, h⟩ := bind_so h
      refine ev_callS_J [.int (0)] (mm 82 rfl) (by decide) rfl rfl (Nat.le_of_ble_eq_true rfl) (f166_ok e42 (d + 0)) ?_
      exact ev_lreturn (mm 83 rfl) h
    · refine ev_if_f 179 (mm 78 rfl) rfl c40 ?_
      refine ev_iconst (mm 79 rfl) cI_1 ?_
      refine ev_goto 180 (mm 80 rfl) rfl ?_
      obtain ⟨p43, e44, h⟩ := bind_so h
      refine ev_callS_J [.int (1)] (mm 82 rfl) (by decide) rfl rfl (Nat.le_of_ble_eq_true rfl) (f166_ok e44 (d + 0)) ?_
      exact ev_lreturn (mm 83 rfl) h
  exact ⟨by decide, Nat.le_of_ble_eq_true rfl, key.1, key.2⟩
def f168_l6 (x0 : Nat) (x2 : Int32) (x3 : Int32) : Nat → Int32 → Int32 → vm_M → Option (Int64 × vm_M)
  | 0 => fun _ _ _ => none
  | n + 1 => fun x4 x5 M =>
    if x2 ≤ x5 then
      (sg_r M x0 11 38).bind fun v6 =>
      (v6).bind fun q8 =>
      (sa_l M q8 0).bind fun v10 =>
      some (v10, M)
    else
      (sg_r M x0 11 35).bind fun v12 =>
      (v12).bind fun q14 =>
      (sa_i M q14 0 x5).bind fun v16 =>
      if 2 < v16 then
        if ¬ v16 = 14 then
          (sg_r M x0 11 38).bind fun v24 =>
          (sg_r M x0 11 38).bind fun v26 =>
          (v26).bind fun q28 =>
          (sa_l M q28 ((x4 + (-1)) - 1)).bind fun v30 =>
          (sg_r M x0 11 38).bind fun v32 =>
          (v32).bind fun q34 =>
          (sa_l M q34 (x4 + (-1))).bind fun v36 =>
          (f167 v16 v30 v36 M).bind fun p38 =>
          (v24).bind fun q40 =>
          (ss_l p38.2 q40 ((x4 + (-1)) - 1) p38.1).bind fun M42 =>
          f168_l6 x0 x2 x3 n (x4 + (-1)) (x5 + 1) M42
        else
          (sg_r M x0 11 38).bind fun v46 =>
          (sg_r M x0 11 38).bind fun v48 =>
          (v48).bind fun q50 =>
          (sa_l M q50 (x4 - 1)).bind fun v52 =>
          (v46).bind fun q54 =>
          (ss_l M q54 (x4 - 1) (1 - v52)).bind fun M56 =>
          f168_l6 x0 x2 x3 n x4 (x5 + 1) M56
      else
        (sg_r M x0 11 38).bind fun v60 =>
        if ¬ v16 = 0 then
          if ¬ v16 = 1 then
            (sg_r M x0 11 44).bind fun v64 =>
            (sg_r M x0 11 36).bind fun v66 =>
            (v66).bind fun q68 =>
            (sa_i M q68 0 x5).bind fun v70 =>
            (v64).bind fun q72 =>
            (sa_l M q72 ((30 * x3) + v70)).bind fun v74 =>
            (v60).bind fun q76 =>
            (ss_l M q76 x4 v74).bind fun M78 =>
            f168_l6 x0 x2 x3 n (x4 + 1) (x5 + 1) M78
          else
            (sg_r M x0 11 39).bind fun v84 =>
            (sg_r M x0 11 36).bind fun v86 =>
            (v86).bind fun q88 =>
            (sa_i M q88 0 x5).bind fun v90 =>
            (v84).bind fun q92 =>
            (sa_l M q92 v90).bind fun v94 =>
            (v60).bind fun q96 =>
            (ss_l M q96 x4 v94).bind fun M98 =>
            f168_l6 x0 x2 x3 n (x4 + 1) (x5 + 1) M98
        else
          (sg_r M x0 11 36).bind fun v104 =>
          (v104).bind fun q106 =>
          (sa_i M q106 0 x5).bind fun v108 =>
          (v60).bind fun q110 =>
          (ss_l M q110 x4 ((v108 : Int32).toInt64)).bind fun M112 =>
          f168_l6 x0 x2 x3 n (x4 + 1) (x5 + 1) M112
theorem f168_l6_ok {d : Nat} {x0 : Nat} {x2 : Int32} {x3 : Int32} {r : Int64 × vm_M} : ∀ (n : Nat) {x4 : Int32} {x5 : Int32} {M : vm_M} {lv : vm_L}, (0, .ref (x0)) ∈ lv → (2, .int (x2)) ∈ lv → (3, .int (x3)) ∈ lv → (4, .int (x4)) ∈ lv → (5, .int (x5)) ∈ lv → f168_l6 x0 x2 x3 n x4 x5 M = some r → Ev 0 (fun _ => 0) (vm_Cl (d + 2)) vp_168 11 7 false (some (.long)) (rJ r) 6 lv [] M := by
  intro n
  induction n with
  | zero =>
    intro x4 x5 M lv l0 l2 l3 l4 l5 h
    cases h
  | succ n ih =>
    intro x4 x5 M lv l0 l2 l3 l4 l5 h
    dsimp only [f168_l6] at h
    refine ev_iload (mm 4 rfl) l5 ?_
    refine ev_iload_n (mm 5 rfl) l2 ?_
    rcases ite_so h with ⟨c5, h⟩ | ⟨c5, h⟩
    · refine ev_ic_t 163 (mm 6 rfl) rfl c5 ?_
      refine ev_aload_nR (mm 90 rfl) l0 ?_
      obtain ⟨v6, e7, h⟩ := bind_so h
      refine ev_get_r (mm 91 rfl) rfl e7 ?_
      refine ev_iconst (mm 92 rfl) cI_0 ?_
      obtain ⟨q8, e9, h⟩ := bind_so h
      rw [e9]
      obtain ⟨v10, e11, h⟩ := bind_so h
      refine ev_laload (mm 93 rfl) e11 ?_
      exact ev_lreturn (mm 94 rfl) h
    · refine ev_ic_f 163 (mm 6 rfl) rfl c5 ?_
      refine ev_aload_nR (mm 7 rfl) l0 ?_
      obtain ⟨v12, e13, h⟩ := bind_so h
      refine ev_get_r (mm 8 rfl) rfl e13 ?_
      refine ev_iload (mm 9 rfl) l5 ?_
      obtain ⟨q14, e15, h⟩ := bind_so h
      rw [e15]
      obtain ⟨v16, e17, h⟩ := bind_so h
      refine ev_iaload (mm 10 rfl) e17 ?_
      refine evs_istore (mm 11 rfl) (by decide) (fun lv18 l6 s19 => ?_)
      have l0 := s19 _ _ l0 rfl
      have l2 := s19 _ _ l2 rfl
      have l3 := s19 _ _ l3 rfl
      have l4 := s19 _ _ l4 rfl
      have l5 := s19 _ _ l5 rfl
      refine ev_iload (mm 12 rfl) l6 ?_
      refine ev_iconst (mm 13 rfl) cI_2 ?_
      rcases ite_so h with ⟨c20, h⟩ | ⟨c20, h⟩
      · refine ev_ic_t 94 (mm 14 rfl) rfl c20 ?_
        refine ev_iload (mm 51 rfl) l6 ?_
        refine ev_bipush (mm 52 rfl) cB_14 ?_
        rcases ite_so h with ⟨c21, h⟩ | ⟨c21, h⟩
        · refine ev_ic_t 124 (mm 53 rfl) rfl c21 ?_
          refine evs_iinc (mm 69 rfl) cI_m1 l4 (by decide) (fun lv22 l4 s23 => ?_)
          have l0 := s23 _ _ l0 rfl
          have l2 := s23 _ _ l2 rfl
          have l3 := s23 _ _ l3 rfl
          have l5 := s23 _ _ l5 rfl
          have l6 := s23 _ _ l6 rfl
          refine ev_aload_nR (mm 70 rfl) l0 ?_
          obtain ⟨v24, e25, h⟩ := bind_so h
          refine ev_get_r (mm 71 rfl) rfl e25 ?_
          refine ev_iload (mm 72 rfl) l4 ?_
          refine ev_iconst (mm 73 rfl) cI_1 ?_
          refine ev_isub (mm 74 rfl) ?_
          refine ev_iload (mm 75 rfl) l6 ?_
          refine ev_aload_nR (mm 76 rfl) l0 ?_
          obtain ⟨v26, e27, h⟩ := bind_so h
          refine ev_get_r (mm 77 rfl) rfl e27 ?_
          refine ev_iload (mm 78 rfl) l4 ?_
          refine ev_iconst (mm 79 rfl) cI_1 ?_
          refine ev_isub (mm 80 rfl) ?_
          obtain ⟨q28, e29, h⟩ := bind_so h
          rw [e29]
          obtain ⟨v30, e31, h⟩ := bind_so h
          refine ev_laload (mm 81 rfl) e31 ?_
          refine ev_aload_nR (mm 82 rfl) l0 ?_
          obtain ⟨v32, e33, h⟩ := bind_so h
          refine ev_get_r (mm 83 rfl) rfl e33 ?_
          refine ev_iload (mm 84 rfl) l4 ?_
          obtain ⟨q34, e35, h⟩ := bind_so h
          rw [e35]
          obtain ⟨v36, e37, h⟩ := bind_so h
          refine ev_laload (mm 85 rfl) e37 ?_
          obtain ⟨p38, e39, h⟩ := bind_so h
          refine ev_callS_J [.int (v16), .long (v30), .long (v36)] (mm 86 rfl) (by decide) rfl rfl (by simp [vm_cat_A, vm_cat_I, vm_cat_R, vm_cat_J, vm_cat_0]) (f167_ok e39 (d + 0)) ?_
          obtain ⟨q40, e41, h⟩ := bind_so h
          rw [e41]
          obtain ⟨M42, e43, h⟩ := bind_so h
          refine ev_lastore (mm 87 rfl) e43 ?_
          refine evs_iinc (mm 88 rfl) cI_1 l5 (by decide) (fun lv44 l5 s45 => ?_)
          have l0 := s45 _ _ l0 rfl
          have l2 := s45 _ _ l2 rfl
          have l3 := s45 _ _ l3 rfl
          have l4 := s45 _ _ l4 rfl
          refine ev_goto 6 (mm 89 rfl) rfl ?_
          exact ih l0 l2 l3 l4 l5 h
        · refine ev_ic_f 124 (mm 53 rfl) rfl c21 ?_
          refine ev_aload_nR (mm 54 rfl) l0 ?_
          obtain ⟨v46, e47, h⟩ := bind_so h
          refine ev_get_r (mm 55 rfl) rfl e47 ?_
          refine ev_iload (mm 56 rfl) l4 ?_
          refine ev_iconst (mm 57 rfl) cI_1 ?_
          refine ev_isub (mm 58 rfl) ?_
          refine ev_lconst (mm 59 rfl) cL_1 ?_
          refine ev_aload_nR (mm 60 rfl) l0 ?_
          obtain ⟨v48, e49, h⟩ := bind_so h
          refine ev_get_r (mm 61 rfl) rfl e49 ?_
          refine ev_iload (mm 62 rfl) l4 ?_
          refine ev_iconst (mm 63 rfl) cI_1 ?_
          refine ev_isub (mm 64 rfl) ?_
          obtain ⟨q50, e51, h⟩ := bind_so h
          rw [e51]
          obtain ⟨v52, e53, h⟩ := bind_so h
          refine ev_laload (mm 65 rfl) e53 ?_
          refine ev_lsub (mm 66 rfl) ?_
          obtain ⟨q54, e55, h⟩ := bind_so h
          rw [e55]
          obtain ⟨M56, e57, h⟩ := bind_so h
          refine ev_lastore (mm 67 rfl) e57 ?_
          refine ev_goto 157 (mm 68 rfl) rfl ?_
          refine evs_iinc (mm 88 rfl) cI_1 l5 (by decide) (fun lv58 l5 s59 => ?_)
          have l0 := s59 _ _ l0 rfl
          have l2 := s59 _ _ l2 rfl
          have l3 := s59 _ _ l3 rfl
          have l4 := s59 _ _ l4 rfl
          refine ev_goto 6 (mm 89 rfl) rfl ?_
          exact ih l0 l2 l3 l4 l5 h
      · refine ev_ic_f 94 (mm 14 rfl) rfl c20 ?_
        refine ev_aload_nR (mm 15 rfl) l0 ?_
        obtain ⟨v60, e61, h⟩ := bind_so h
        refine ev_get_r (mm 16 rfl) rfl e61 ?_
        refine ev_iload (mm 17 rfl) l4 ?_
        refine ev_iload (mm 18 rfl) l6 ?_
        rcases ite_so h with ⟨c62, h⟩ | ⟨c62, h⟩
        · refine ev_if_t 49 (mm 19 rfl) rfl c62 ?_
          refine ev_iload (mm 26 rfl) l6 ?_
          refine ev_iconst (mm 27 rfl) cI_1 ?_
          rcases ite_so h with ⟨c63, h⟩ | ⟨c63, h⟩
          · refine ev_ic_t 70 (mm 28 rfl) rfl c63 ?_
            refine ev_aload_nR (mm 37 rfl) l0 ?_
            obtain ⟨v64, e65, h⟩ := bind_so h
            refine ev_get_r (mm 38 rfl) rfl e65 ?_
            refine ev_bipush (mm 39 rfl) cB_30 ?_
            refine ev_iload_n (mm 40 rfl) l3 ?_
            refine ev_imul (mm 41 rfl) ?_
            refine ev_aload_nR (mm 42 rfl) l0 ?_
            obtain ⟨v66, e67, h⟩ := bind_so h
            refine ev_get_r (mm 43 rfl) rfl e67 ?_
            refine ev_iload (mm 44 rfl) l5 ?_
            obtain ⟨q68, e69, h⟩ := bind_so h
            rw [e69]
            obtain ⟨v70, e71, h⟩ := bind_so h
            refine ev_iaload (mm 45 rfl) e71 ?_
            refine ev_iadd (mm 46 rfl) ?_
            obtain ⟨q72, e73, h⟩ := bind_so h
            rw [e73]
            obtain ⟨v74, e75, h⟩ := bind_so h
            refine ev_laload (mm 47 rfl) e75 ?_
            obtain ⟨q76, e77, h⟩ := bind_so h
            rw [e77]
            obtain ⟨M78, e79, h⟩ := bind_so h
            refine ev_lastore (mm 48 rfl) e79 ?_
            refine evs_iinc (mm 49 rfl) cI_1 l4 (by decide) (fun lv80 l4 s81 => ?_)
            have l0 := s81 _ _ l0 rfl
            have l2 := s81 _ _ l2 rfl
            have l3 := s81 _ _ l3 rfl
            have l5 := s81 _ _ l5 rfl
            refine ev_goto 157 (mm 50 rfl) rfl ?_
            refine evs_iinc (mm 88 rfl) cI_1 l5 (by decide) (fun lv82 l5 s83 => ?_)
            have l0 := s83 _ _ l0 rfl
            have l2 := s83 _ _ l2 rfl
            have l3 := s83 _ _ l3 rfl
            have l4 := s83 _ _ l4 rfl
            refine ev_goto 6 (mm 89 rfl) rfl ?_
            exact ih l0 l2 l3 l4 l5 h
          · refine ev_ic_f 70 (mm 28 rfl) rfl c63 ?_
            refine ev_aload_nR (mm 29 rfl) l0 ?_
            obtain ⟨v84, e85, h⟩ := bind_so h
            refine ev_get_r (mm 30 rfl) rfl e85 ?_
            refine ev_aload_nR (mm 31 rfl) l0 ?_
            obtain ⟨v86, e87, h⟩ := bind_so h
            refine ev_get_r (mm 32 rfl) rfl e87 ?_
            refine ev_iload (mm 33 rfl) l5 ?_
            obtain ⟨q88, e89, h⟩ := bind_so h
            rw [e89]
            obtain ⟨v90, e91, h⟩ := bind_so h
            refine ev_iaload (mm 34 rfl) e91 ?_
            obtain ⟨q92, e93, h⟩ := bind_so h
            rw [e93]
            obtain ⟨v94, e95, h⟩ := bind_so h
            refine ev_laload (mm 35 rfl) e95 ?_
            refine ev_goto 87 (mm 36 rfl) rfl ?_
            obtain ⟨q96, e97, h⟩ := bind_so h
            rw [e97]
            obtain ⟨M98, e99, h⟩ := bind_so h
            refine ev_lastore (mm 48 rfl) e99 ?_
            refine evs_iinc (mm 49 rfl) cI_1 l4 (by decide) (fun lv100 l4 s101 => ?_)
            have l0 := s101 _ _ l0 rfl
            have l2 := s101 _ _ l2 rfl
            have l3 := s101 _ _ l3 rfl
            have l5 := s101 _ _ l5 rfl
            refine ev_goto 157 (mm 50 rfl) rfl ?_
            refine evs_iinc (mm 88 rfl) cI_1 l5 (by decide) (fun lv102 l5 s103 => ?_)
            have l0 := s103 _ _ l0 rfl
            have l2 := s103 _ _ l2 rfl
            have l3 := s103 _ _ l3 rfl
            have l4 := s103 _ _ l4 rfl
            refine ev_goto 6 (mm 89 rfl) rfl ?_
            exact ih l0 l2 l3 l4 l5 h
        · refine ev_if_f 49 (mm 19 rfl) rfl c62 ?_
          refine ev_aload_nR (mm 20 rfl) l0 ?_
          obtain ⟨v104, e105, h⟩ := bind_so h
          refine ev_get_r (mm 21 rfl) rfl e105 ?_
          refine ev_iload (mm 22 rfl) l5 ?_
          obtain ⟨q106, e107, h⟩ := bind_so h
          rw [e107]
          obtain ⟨v108, e109, h⟩ := bind_so h
          refine ev_iaload (mm 23 rfl) e109 ?_
          refine ev_i2l (mm 24 rfl) ?_
          refine ev_goto 87 (mm 25 rfl) rfl ?_
          obtain ⟨q110, e111, h⟩ := bind_so h
          rw [e111]
          obtain ⟨M112, e113, h⟩ := bind_so h
          refine ev_lastore (mm 48 rfl) e113 ?_
          refine evs_iinc (mm 49 rfl) cI_1 l4 (by decide) (fun lv114 l4 s115 => ?_)
          have l0 := s115 _ _ l0 rfl
          have l2 := s115 _ _ l2 rfl
          have l3 := s115 _ _ l3 rfl
          have l5 := s115 _ _ l5 rfl
          refine ev_goto 157 (mm 50 rfl) rfl ?_
          refine evs_iinc (mm 88 rfl) cI_1 l5 (by decide) (fun lv116 l5 s117 => ?_)
          have l0 := s117 _ _ l0 rfl
          have l2 := s117 _ _ l2 rfl
          have l3 := s117 _ _ l3 rfl
          have l4 := s117 _ _ l4 rfl
          refine ev_goto 6 (mm 89 rfl) rfl ?_
          exact ih l0 l2 l3 l4 l5 h
/-- PupilCoinModel.runs(III)J -/
def f168 (x0 : Nat) (x1 : Int32) (x2 : Int32) (x3 : Int32) (M : vm_M) : Option (Int64 × vm_M) :=
  f168_l6 x0 x2 x3
  
    100000 0 x1 M
theorem f168_ok {x0 : Nat} {x1 : Int32} {x2 : Int32} {x3 : Int32} {M : vm_M} {r : Int64 × vm_M} (h : f168 x0 x1 x2 x3 M = some r) (d : Nat) : vm_Cl (d + 3) 168 [.ref (x0), .int (x1), .int (x2), .int (x3)] M (rJ r) := by
  have key : Ev 0 (fun _ => 0) (vm_Cl (d + 2)) vp_168 11 7 false (some (.long)) (rJ r) 0 (lv_args 0 [.ref (x0), .int (x1), .int (x2), .int (x3)]) [] M := by
    have l0 : (0, .ref (x0)) ∈ lv_args 0 [.ref (x0), .int (x1), .int (x2), .int (x3)] := List.Mem.head _
    have l1 : (1, .int (x1)) ∈ lv_args 0 [.ref (x0), .int (x1), .int (x2), .int (x3)] := List.Mem.tail _ (List.Mem.head _)
    have l2 : (2, .int (x2)) ∈ lv_args 0 [.ref (x0), .int (x1), .int (x2), .int (x3)] := List.Mem.tail _ (List.Mem.tail _ (List.Mem.head _))
    have l3 : (3, .int (x3)) ∈ lv_args 0 [.ref (x0), .int (x1), .int (x2), .int (x3)] := List.Mem.tail _ (List.Mem.tail _ (List.Mem.tail _ (List.Mem.head _)))
    unfold f168 at h
    refine ev_iconst (mm 0 rfl) cI_0 ?_
    refine evs_istore (mm 1 rfl) (by decide) (fun lv1 l4 s2 => ?_)
    have l0 := s2 _ _ l0 rfl
    have l1 := s2 _ _ l1 rfl
    have l2 := s2 _ _ l2 rfl
    have l3 := s2 _ _ l3 rfl
    refine ev_iload_n (mm 2 rfl) l1 ?_
    refine evs_istore (mm 3 rfl) (by decide) (fun lv3 l5 s4 => ?_)
    have l0 := s4 _ _ l0 rfl
    have l2 := s4 _ _ l2 rfl
    have l3 := s4 _ _ l3 rfl
    have l4 := s4 _ _ l4 rfl
    refine f168_l6_ok 100000 l0 l2 l3 l4 l5 h
  exact ⟨by decide, Nat.le_of_ble_eq_true rfl, key.1, key.2⟩
/-- PupilCoinModel.look(I)I -/
def f169 (x0 : Int32) (M : vm_M) : Option (Int32 × vm_M) :=
  some ((s_mxI 0 (x0 - 1)), M)
theorem f169_ok {x0 : Int32} {M : vm_M} {r : Int32 × vm_M} (h : f169 x0 M = some r) (d : Nat) : vm_Cl (d + 1) 169 [.int (x0)] M (rI r) := by
  have key : Ev 0 (fun _ => 0) (vm_Cl (d + 0)) vp_169 11 1 false (some (.int)) (rI r) 0 (lv_args 0 [.int (x0)]) [] M := by
    have l0 : (0, .int (x0)) ∈ lv_args 0 [.int (x0)] := List.Mem.head _
    unfold f169 at h
    refine ev_iconst (mm 0 rfl) cI_0 ?_
    refine ev_iload_n (mm 1 rfl) l0 ?_
    refine ev_iconst (mm 2 rfl) cI_1 ?_
    refine ev_isub (mm 3 rfl) ?_
    refine ev_mxI (mm 4 rfl) (Nat.le_of_ble_eq_true rfl) ?_
    exact ev_ireturn (mm 5 rfl) h
  exact ⟨by decide, Nat.le_of_ble_eq_true rfl, key.1, key.2⟩
/-- PupilCoinModel.caps(IIJ)V -/
def f172 (x0 : Nat) (x1 : Int32) (x2 : Int32) (x3 : Int64) (M : vm_M) : Option (vm_M) :=
  (s_ob M x0 11).bind fun _ =>
  (f162 x0 x2 2 (-1) M).bind fun p1 =>
  if p1.1 = (-1) then
    some p1.2
  else
    (sg_r p1.2 x0 11 48).bind fun v6 =>
    (v6).bind fun q8 =>
    (sa_l p1.2 q8 x1).bind fun v10 =>
    (s_dl (x3 * (p1.1 : Int32).toInt64) 100).bind fun v12 =>
    if 0 < (lg_cmp v10 v12) then
      (sg_r p1.2 x0 11 46).bind fun v15 =>
      (s_dl (x3 * (p1.1 : Int32).toInt64) 100).bind fun v17 =>
      (sg_r p1.2 x0 11 48).bind fun v19 =>
      (v19).bind fun q21 =>
      (sa_l p1.2 q21 x1).bind fun v23 =>
      (v15).bind fun q25 =>
      (ss_l p1.2 q25 x1 (v17 - v23)).bind fun M27 =>
      (sg_r M27 x0 11 48).bind fun v29 =>
      (v29).bind fun q31 =>
      (sa_l M27 q31 x1).bind fun v33 =>
      (sg_r M27 x0 11 46).bind fun v35 =>
      (v35).bind fun q37 =>
      (sa_l M27 q37 x1).bind fun v39 =>
      (ss_l M27 q31 x1 (v33 + v39)).bind fun M41 =>
      some M41
    else
      some p1.2
theorem f172_ok {x0 : Nat} {x1 : Int32} {x2 : Int32} {x3 : Int64} {M : vm_M} {r : vm_M} (h : f172 x0 x1 x2 x3 M = some r) (d : Nat) : vm_Cl (d + 3) 172 [.ref (x0), .int (x1), .int (x2), .long (x3)] M (rV r) := by
  have key : Ev 0 (fun _ => 0) (vm_Cl (d + 2)) vp_172 11 6 false none (rV r) 0 (lv_args 0 [.ref (x0), .int (x1), .int (x2), .long (x3)]) [] M := by
    have l0 : (0, .ref (x0)) ∈ lv_args 0 [.ref (x0), .int (x1), .int (x2), .long (x3)] := List.Mem.head _
    have l1 : (1, .int (x1)) ∈ lv_args 0 [.ref (x0), .int (x1), .int (x2), .long (x3)] := List.Mem.tail _ (List.Mem.head _)
    have l2 : (2, .int (x2)) ∈ lv_args 0 [.ref (x0), .int (x1), .int (x2), .long (x3)] := List.Mem.tail _ (List.Mem.tail _ (List.Mem.head _))
    have l3 : (3, .long (x3)) ∈ lv_args 0 [.ref (x0), .int (x1), .int (x2), .long (x3)] := List.Mem.tail _ (List.Mem.tail _ (List.Mem.tail _ (List.Mem.head _)))
    unfold f172 at h
    refine ev_aload_nR (mm 0 rfl) l0 ?_
    refine ev_iload_n (mm 1 rfl) l2 ?_
    refine ev_iconst (mm 2 rfl) cI_2 ?_
    refine ev_iconst (mm 3 rfl) cI_m1 ?_
    obtain ⟨_, e43, h⟩ := bind_so h
    obtain ⟨p1, e2, h⟩ := bind_so h
    refine ev_callV_I [.int (x2), .int (2), .int ((-1))] (mm 4 rfl) rfl rfl (Nat.le_of_ble_eq_true rfl) (s_ob_of e43) (f162_ok e2 (d + 0)) ?_
    refine evs_istore (mm 5 rfl) (by decide) (fun lv3 l5 s4 => ?_)
    have l0 := s4 _ _ l0 rfl
    have l1 := s4 _ _ l1 rfl
    have l3 := s4 _ _ l3 rfl
    refine ev_iload (mm 6 rfl) l5 ?_
    refine ev_iconst (mm 7 rfl) cI_m1 ?_
    rcases ite_so h with ⟨c5, h⟩ | ⟨c5, h⟩
    · refine ev_ic_t 34 (mm 8 rfl) rfl c5 ?_
      exact ev_return (mm 21 rfl) h
    · refine ev_ic_f 34 (mm 8 rfl) rfl c5 ?_
      refine ev_aload_nR (mm 9 rfl) l0 ?_
      obtain ⟨v6, e7, h⟩ := bind_so h
      refine ev_get_r (mm 10 rfl) rfl e7 ?_
      refine ev_iload_n (mm 11 rfl) l1 ?_
      obtain ⟨q8, e9, h⟩ := bind_so h
      rw [e9]
      obtain ⟨v10, e11, h⟩ := bind_so h
      refine ev_laload (mm 12 rfl) e11 ?_
      refine ev_lload_n (mm 13 rfl) l3 ?_
      refine ev_iload (mm 14 rfl) l5 ?_
      refine ev_i2l (mm 15 rfl) ?_
      refine ev_lmul (mm 16 rfl) ?_
      refine ev_ldc2_w (mm 17 rfl) cJ_100 ?_
      obtain ⟨v12, e13, h⟩ := bind_so h
      refine ev_ldiv (mm 18 rfl) e13 ?_
      refine ev_lcmp (mm 19 rfl) ?_
      rcases ite_so h with ⟨c14, h⟩ | ⟨c14, h⟩
      · refine ev_if_t 35 (mm 20 rfl) rfl c14 ?_
        refine ev_aload_nR (mm 22 rfl) l0 ?_
        obtain ⟨v15, e16, h⟩ := bind_so h
        refine ev_get_r (mm 23 rfl) rfl e16 ?_
        refine ev_iload_n (mm 24 rfl) l1 ?_
        refine ev_lload_n (mm 25 rfl) l3 ?_
        refine ev_iload (mm 26 rfl) l5 ?_
        refine ev_i2l (mm 27 rfl) ?_
        refine ev_lmul (mm 28 rfl) ?_
        refine ev_ldc2_w (mm 29 rfl) cJ_100 ?_
        obtain ⟨v17, e18, h⟩ := bind_so h
        refine ev_ldiv (mm 30 rfl) e18 ?_
        refine ev_aload_nR (mm 31 rfl) l0 ?_
        obtain ⟨v19, e20, h⟩ := bind_so h
        refine ev_get_r (mm 32 rfl) rfl e20 ?_
        refine ev_iload_n (mm 33 rfl) l1 ?_
        obtain ⟨q21, e22, h⟩ := bind_so h
        rw [e22]
        obtain ⟨v23, e24, h⟩ := bind_so h
        refine ev_laload (mm 34 rfl) e24 ?_
        refine ev_lsub (mm 35 rfl) ?_
        obtain ⟨q25, e26, h⟩ := bind_so h
        rw [e26]
        obtain ⟨M27, e28, h⟩ := bind_so h
        refine ev_lastore (mm 36 rfl) e28 ?_
        refine ev_aload_nR (mm 37 rfl) l0 ?_
        obtain ⟨v29, e30, h⟩ := bind_so h
        refine ev_get_r (mm 38 rfl) rfl e30 ?_
        refine ev_iload_n (mm 39 rfl) l1 ?_
        refine ev_dup2 (mm 40 rfl) rfl (by cases (v29 : Option Nat) <;> rfl) ?_
        obtain ⟨q31, e32, h⟩ := bind_so h
        rw [e32]
        obtain ⟨v33, e34, h⟩ := bind_so h
        refine ev_laload (mm 41 rfl) e34 ?_
        refine ev_aload_nR (mm 42 rfl) l0 ?_
        obtain ⟨v35, e36, h⟩ := bind_so h
        refine ev_get_r (mm 43 rfl) rfl e36 ?_
        refine ev_iload_n (mm 44 rfl) l1 ?_
        obtain ⟨q37, e38, h⟩ := bind_so h
        rw [e38]
        obtain ⟨v39, e40, h⟩ := bind_so h
        refine ev_laload (mm 45 rfl) e40 ?_
        refine ev_ladd (mm 46 rfl) ?_
        obtain ⟨M41, e42, h⟩ := bind_so h
        refine ev_lastore (mm 47 rfl) e42 ?_
        exact ev_return (mm 48 rfl) h
      · refine ev_if_f 35 (mm 20 rfl) rfl c14 ?_
        exact ev_return (mm 21 rfl) h
  exact ⟨by decide, Nat.le_of_ble_eq_true rfl, key.1, key.2⟩
