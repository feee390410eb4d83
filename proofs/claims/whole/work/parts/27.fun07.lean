/-! shallow functions, by program (wip/gen_fun.py) -/
/-- PupilCoinModel.takes(J)Z -/
def f138 (x0 : Nat) (x1 : Int64) (M : vm_M) : Option (Int32 × vm_M) :=
  (s_ob M x0 11).bind fun _ =>
  (f137 x0 M).bind fun p1 =>
  if (lg_cmp p1.1 x1) = 0 then
    (sg_i p1.2 x0 11 42).bind fun v4 =>
    (sp_i p1.2 x0 11 21 v4).bind fun M6 =>
    s_rb 1 M6
  else
    s_rb 0 p1.2
theorem f138_ok {x0 : Nat} {x1 : Int64} {M : vm_M} {r : Int32 × vm_M} (h : f138 x0 x1 M = some r) (d : Nat) : vm_Cl (d + 3) 138 [.ref (x0), .long (x1)] M (rI r) := by
  have key : Ev 0 (fun _ => 0) (vm_Cl (d + 2)) vp_138 11 3 false (some (.boolean)) (rI r) 0 (lv_args 0 [.ref (x0), .long (x1)]) [] M := by
    have l0 : (0, .ref (x0)) ∈ lv_args 0 [.ref (x0), .long (x1)] := List.Mem.head _
    have l1 : (1, .long (x1)) ∈ lv_args 0 [.ref (x0), .long (x1)] := List.Mem.tail _ (List.Mem.head _)
    unfold f138 at h
    refine ev_aload_nR (mm 0 rfl) l0 ?_
    obtain ⟨_, e8, h⟩ := bind_so h
    obtain ⟨p1, e2, h⟩ := bind_so h
    refine ev_callV_J [] (mm 1 rfl) rfl rfl (Nat.le_of_ble_eq_true rfl) (s_ob_of e8) (f137_ok e2 (d + 0)) ?_
    refine ev_lload_n (mm 2 rfl) l1 ?_
    refine ev_lcmp (mm 3 rfl) ?_
    rcases ite_so h with ⟨c3, h⟩ | ⟨c3, h⟩
    · refine ev_if_t 11 (mm 4 rfl) rfl c3 ?_
      refine ev_aload_nR (mm 7 rfl) l0 ?_
      refine ev_aload_nR (mm 8 rfl) l0 ?_
      obtain ⟨v4, e5, h⟩ := bind_so h
      refine ev_get_i (mm 9 rfl) rfl e5 ?_
      obtain ⟨M6, e7, h⟩ := bind_so h
      refine ev_put_i (mm 10 rfl) (fun z => by cases z) rfl e7 ?_
      refine ev_iconst (mm 11 rfl) cI_1 ?_
      exact ev_zreturn (mm 12 rfl) h
    · refine ev_if_f 11 (mm 4 rfl) rfl c3 ?_
      refine ev_iconst (mm 5 rfl) cI_0 ?_
      exact ev_zreturn (mm 6 rfl) h
  exact ⟨by decide, Nat.le_of_ble_eq_true rfl, key.1, key.2⟩
/-- PupilCoinModel.takesSign(I)Z -/
def f139 (x0 : Nat) (x1 : Int32) (M : vm_M) : Option (Int32 × vm_M) :=
  (s_ob M x0 11).bind fun _ =>
  (f136 x0 M).bind fun p1 =>
  (sg_i p1 x0 11 21).bind fun v3 =>
  (sg_i p1 x0 11 20).bind fun v5 =>
  if v3 = v5 then
    s_rb 0 p1
  else
    (sg_r p1 x0 11 41).bind fun v8 =>
    (sg_i p1 x0 11 21).bind fun v10 =>
    (v8).bind fun q12 =>
    (sa_i p1 q12 3 v10).bind fun v14 =>
    if v14 = x1 then
      (sg_i p1 x0 11 21).bind fun v17 =>
      (sp_i p1 x0 11 21 (v17 + 1)).bind fun M19 =>
      s_rb 1 M19
    else
      s_rb 0 p1
theorem f139_ok {x0 : Nat} {x1 : Int32} {M : vm_M} {r : Int32 × vm_M} (h : f139 x0 x1 M = some r) (d : Nat) : vm_Cl (d + 2) 139 [.ref (x0), .int (x1)] M (rI r) := by
  have key : Ev 0 (fun _ => 0) (vm_Cl (d + 1)) vp_139 11 2 false (some (.boolean)) (rI r) 0 (lv_args 0 [.ref (x0), .int (x1)]) [] M := by
    have l0 : (0, .ref (x0)) ∈ lv_args 0 [.ref (x0), .int (x1)] := List.Mem.head _
    have l1 : (1, .int (x1)) ∈ lv_args 0 [.ref (x0), .int (x1)] := List.Mem.tail _ (List.Mem.head _)
    unfold f139 at h
    refine ev_aload_nR (mm 0 rfl) l0 ?_
    obtain ⟨_, e21, h⟩ := bind_so h
    obtain ⟨p1, e2, h⟩ := bind_so h
    refine ev_callV_V [] (mm 1 rfl) rfl rfl (Nat.le_of_ble_eq_true rfl) (s_ob_of e21) (f136_ok e2 (d + 0)) ?_
    refine ev_aload_nR (mm 2 rfl) l0 ?_
    obtain ⟨v3, e4, h⟩ := bind_so h
    refine ev_get_i (mm 3 rfl) rfl e4 ?_
    refine ev_aload_nR (mm 4 rfl) l0 ?_
    obtain ⟨v5, e6, h⟩ := bind_so h
    refine ev_get_i (mm 5 rfl) rfl e6 ?_
    rcases ite_so h with ⟨c7, h⟩ | ⟨c7, h⟩
    · refine ev_ic_t 28 (mm 6 rfl) rfl c7 ?_
      refine ev_iconst (mm 14 rfl) cI_0 ?_
      exact ev_zreturn (mm 15 rfl) h
    · refine ev_ic_f 28 (mm 6 rfl) rfl c7 ?_
      refine ev_aload_nR (mm 7 rfl) l0 ?_
      obtain ⟨v8, e9, h⟩ := bind_so h
      refine ev_get_r (mm 8 rfl) rfl e9 ?_
      refine ev_aload_nR (mm 9 rfl) l0 ?_
      obtain ⟨v10, e11, h⟩ := bind_so h
      refine ev_get_i (mm 10 rfl) rfl e11 ?_
      obtain ⟨q12, e13, h⟩ := bind_so h
      rw [e13]
      obtain ⟨v14, e15, h⟩ := bind_so h
      refine ev_baload (mm 11 rfl) e15 ?_
      refine ev_iload_n (mm 12 rfl) l1 ?_
      rcases ite_so h with ⟨c16, h⟩ | ⟨c16, h⟩
      · refine ev_ic_t 30 (mm 13 rfl) rfl c16 ?_
        refine ev_aload_nR (mm 16 rfl) l0 ?_
        refine ev_dupR (mm 17 rfl) ?_
        obtain ⟨v17, e18, h⟩ := bind_so h
        refine ev_get_i (mm 18 rfl) rfl e18 ?_
        refine ev_iconst (mm 19 rfl) cI_1 ?_
        refine ev_iadd (mm 20 rfl) ?_
        obtain ⟨M19, e20, h⟩ := bind_so h
        refine ev_put_i (mm 21 rfl) (fun z => by cases z) rfl e20 ?_
        refine ev_iconst (mm 22 rfl) cI_1 ?_
        exact ev_zreturn (mm 23 rfl) h
      · refine ev_ic_f 30 (mm 13 rfl) rfl c16 ?_
        refine ev_iconst (mm 14 rfl) cI_0 ?_
        exact ev_zreturn (mm 15 rfl) h
  exact ⟨by decide, Nat.le_of_ble_eq_true rfl, key.1, key.2⟩
def f140_l14 (x0 : Nat) (x1 : Int32) (k82 : Int32 → vm_M → Option (Int32 × vm_M)) : Nat → Int32 → vm_M → Option (Int32 × vm_M)
  | 0 => fun _ _ => none
  | n + 1 => fun x2 M =>
    (sg_i M x0 11 20).bind fun v9 =>
    if v9 ≤ x2 then
      k82 x2 M
    else
      (sg_r M x0 11 41).bind fun v12 =>
      (v12).bind fun q14 =>
      (sa_i M q14 3 x2).bind fun v16 =>
      if v16 < 48 then
        k82 x2 M
      else
        (sg_r M x0 11 41).bind fun v19 =>
        (v19).bind fun q21 =>
        (sa_i M q21 3 x2).bind fun v23 =>
        if 57 < v23 then
          k82 x2 M
        else
          (sg_i M x0 11 21).bind fun v26 =>
          if 7 ≤ (x2 - v26) then
            f140_l14 x0 x1 k82 n (x2 + 1) M
          else
            (sg_i M x0 11 43).bind fun v31 =>
            (sg_r M x0 11 41).bind fun v33 =>
            (v33).bind fun q35 =>
            (sa_i M q35 3 x2).bind fun v37 =>
            (sp_i M x0 11 43 (((10 * v31) + v37) - 48)).bind fun M39 =>
            f140_l14 x0 x1 k82 n (x2 + 1) M39
theorem f140_l14_ok {d : Nat} {x0 : Nat} {x1 : Int32} {k82 : Int32 → vm_M → Option (Int32 × vm_M)} {r : Int32 × vm_M} (hk82 : ∀ {y2 : Int32} {M : vm_M} {lv : vm_L}, (0, .ref (x0)) ∈ lv → (1, .int (x1)) ∈ lv → (2, .int (y2)) ∈ lv → k82 y2 M = some r → Ev 0 (fun _ => 0) (vm_Cl (d + 1)) vp_140 11 3 false (some (.boolean)) (rI r) 82 lv [] M) : ∀ (n : Nat) {x2 : Int32} {M : vm_M} {lv : vm_L}, (0, .ref (x0)) ∈ lv → (1, .int (x1)) ∈ lv → (2, .int (x2)) ∈ lv → f140_l14 x0 x1 k82 n x2 M = some r → Ev 0 (fun _ => 0) (vm_Cl (d + 1)) vp_140 11 3 false (some (.boolean)) (rI r) 14 lv [] M := by
  intro n
  induction n with
  | zero =>
    intro x2 M lv l0 l1 l2 h
    cases h
  | succ n ih =>
    intro x2 M lv l0 l1 l2 h
    dsimp only [f140_l14] at h
    refine ev_iload_n (mm 8 rfl) l2 ?_
    refine ev_aload_nR (mm 9 rfl) l0 ?_
    obtain ⟨v9, e10, h⟩ := bind_so h
    refine ev_get_i (mm 10 rfl) rfl e10 ?_
    rcases ite_so h with ⟨c11, h⟩ | ⟨c11, h⟩
    · refine ev_ic_t 82 (mm 11 rfl) rfl c11 ?_
      exact hk82 l0 l1 l2 h
    · refine ev_ic_f 82 (mm 11 rfl) rfl c11 ?_
      refine ev_aload_nR (mm 12 rfl) l0 ?_
      obtain ⟨v12, e13, h⟩ := bind_so h
      refine ev_get_r (mm 13 rfl) rfl e13 ?_
      refine ev_iload_n (mm 14 rfl) l2 ?_
      obtain ⟨q14, e15, h⟩ := bind_so h
      rw [e15]
      obtain ⟨v16, e17, h⟩ := bind_so h
      refine ev_baload (mm 15 rfl) e17 ?_
      refine ev_bipush (mm 16 rfl) cB_48 ?_
      rcases ite_so h with ⟨c18, h⟩ | ⟨c18, h⟩
      · refine ev_ic_t 82 (mm 17 rfl) rfl c18 ?_
        exact hk82 l0 l1 l2 h
      · refine ev_ic_f 82 (mm 17 rfl) rfl c18 ?_
        refine ev_aload_nR (mm 18 rfl) l0 ?_
        obtain ⟨v19, e20, h⟩ := bind_so h
        refine ev_get_r (mm 19 rfl) rfl e20 ?_
        refine ev_iload_n (mm 20 rfl) l2 ?_
        obtain ⟨q21, e22, h⟩ := bind_so h
        rw [e22]
        obtain ⟨v23, e24, h⟩ := bind_so h
        refine ev_baload (mm 21 rfl) e24 ?_
        refine ev_bipush (mm 22 rfl) cB_57 ?_
        rcases ite_so h with ⟨c25, h⟩ | ⟨c25, h⟩
        · refine ev_ic_t 82 (mm 23 rfl) rfl c25 ?_
          exact hk82 l0 l1 l2 h
        · refine ev_ic_f 82 (mm 23 rfl) rfl c25 ?_
          refine ev_iload_n (mm 24 rfl) l2 ?_
          refine ev_aload_nR (mm 25 rfl) l0 ?_
          obtain ⟨v26, e27, h⟩ := bind_so h
          refine ev_get_i (mm 26 rfl) rfl e27 ?_
          refine ev_isub (mm 27 rfl) ?_
          refine ev_bipush (mm 28 rfl) cB_7 ?_
          rcases ite_so h with ⟨c28, h⟩ | ⟨c28, h⟩
          · refine ev_ic_t 76 (mm 29 rfl) rfl c28 ?_
            refine evs_iinc (mm 43 rfl) cI_1 l2 (by decide) (fun lv29 l2 s30 => ?_)
            have l0 := s30 _ _ l0 rfl
            have l1 := s30 _ _ l1 rfl
            refine ev_goto 14 (mm 44 rfl) rfl ?_
            exact ih l0 l1 l2 h
          · refine ev_ic_f 76 (mm 29 rfl) rfl c28 ?_
            refine ev_aload_nR (mm 30 rfl) l0 ?_
            refine ev_bipush (mm 31 rfl) cB_10 ?_
            refine ev_aload_nR (mm 32 rfl) l0 ?_
            obtain ⟨v31, e32, h⟩ := bind_so h
            refine ev_get_i (mm 33 rfl) rfl e32 ?_
            refine ev_imul (mm 34 rfl) ?_
            refine ev_aload_nR (mm 35 rfl) l0 ?_
            obtain ⟨v33, e34, h⟩ := bind_so h
            refine ev_get_r (mm 36 rfl) rfl e34 ?_
            refine ev_iload_n (mm 37 rfl) l2 ?_
            obtain ⟨q35, e36, h⟩ := bind_so h
            rw [e36]
            obtain ⟨v37, e38, h⟩ := bind_so h
            refine ev_baload (mm 38 rfl) e38 ?_
            refine ev_iadd (mm 39 rfl) ?_
            refine ev_bipush (mm 40 rfl) cB_48 ?_
            refine ev_isub (mm 41 rfl) ?_
            obtain ⟨M39, e40, h⟩ := bind_so h
            refine ev_put_i (mm 42 rfl) (fun z => by cases z) rfl e40 ?_
            refine evs_iinc (mm 43 rfl) cI_1 l2 (by decide) (fun lv41 l2 s42 => ?_)
            have l0 := s42 _ _ l0 rfl
            have l1 := s42 _ _ l1 rfl
            refine ev_goto 14 (mm 44 rfl) rfl ?_
            exact ih l0 l1 l2 h
def f140_j82 (x0 : Nat) (x1 : Int32) (x2 : Int32) (M : vm_M) : Option (Int32 × vm_M) :=
  (sg_i M x0 11 21).bind fun v45 =>
  if x2 = v45 then
    s_rb 0 M
  else
    (sg_i M x0 11 21).bind fun v48 =>
    if 7 < (x2 - v48) then
      s_rb 0 M
    else
      (sg_i M x0 11 43).bind fun v51 =>
      if v51 ≤ x1 then
        (sp_i M x0 11 21 x2).bind fun M54 =>
        s_rb 1 M54
      else
        s_rb 0 M
theorem f140_j82_ok {d : Nat} {x0 : Nat} {x1 : Int32} {x2 : Int32} {M : vm_M} {r : Int32 × vm_M} {lv : vm_L} (l0 : (0, .ref (x0)) ∈ lv) (l1 : (1, .int (x1)) ∈ lv) (l2 : (2, .int (x2)) ∈ lv) (h : f140_j82 x0 x1 x2 M = some r) : Ev 0 (fun _ => 0) (vm_Cl (d + 1)) vp_140 11 3 false (some (.boolean)) (rI r) 82 lv [] M := by
  unfold f140_j82 at h
  refine ev_iload_n (mm 45 rfl) l2 ?_
  refine ev_aload_nR (mm 46 rfl) l0 ?_
  obtain ⟨v45, e46, h⟩ := bind_so h
  refine ev_get_i (mm 47 rfl) rfl e46 ?_
  rcases ite_so h with ⟨c47, h⟩ | ⟨c47, h⟩
  · refine ev_ic_t 109 (mm 48 rfl) rfl c47 ?_
    refine ev_iconst (mm 59 rfl) cI_0 ?_
    exact ev_zreturn (mm 60 rfl) h
  · refine ev_ic_f 109 (mm 48 rfl) rfl c47 ?_
    refine ev_iload_n (mm 49 rfl) l2 ?_
    refine ev_aload_nR (mm 50 rfl) l0 ?_
    obtain ⟨v48, e49, h⟩ := bind_so h
    refine ev_get_i (mm 51 rfl) rfl e49 ?_
    refine ev_isub (mm 52 rfl) ?_
    refine ev_bipush (mm 53 rfl) cB_7 ?_
    rcases ite_so h with ⟨c50, h⟩ | ⟨c50, h⟩
    · refine ev_ic_t 109 (mm 54 rfl) rfl c50 ?_
      refine ev_iconst (mm 59 rfl) cI_0 ?_
      exact ev_zreturn (mm 60 rfl) h
    · refine ev_ic_f 109 (mm 54 rfl) rfl c50 ?_
      refine ev_aload_nR (mm 55 rfl) l0 ?_
      obtain ⟨v51, e52, h⟩ := bind_so h
      refine ev_get_i (mm 56 rfl) rfl e52 ?_
      refine ev_iload_n (mm 57 rfl) l1 ?_
      rcases ite_so h with ⟨c53, h⟩ | ⟨c53, h⟩
      · refine ev_ic_t 111 (mm 58 rfl) rfl c53 ?_
        refine ev_aload_nR (mm 61 rfl) l0 ?_
        refine ev_iload_n (mm 62 rfl) l2 ?_
        obtain ⟨M54, e55, h⟩ := bind_so h
        refine ev_put_i (mm 63 rfl) (fun z => by cases z) rfl e55 ?_
        refine ev_iconst (mm 64 rfl) cI_1 ?_
        exact ev_zreturn (mm 65 rfl) h
      · refine ev_ic_f 111 (mm 58 rfl) rfl c53 ?_
        refine ev_iconst (mm 59 rfl) cI_0 ?_
        exact ev_zreturn (mm 60 rfl) h
/-- PupilCoinModel.takesNumber(I)Z -/
def f140 (x0 : Nat) (x1 : Int32) (M : vm_M) : Option (Int32 × vm_M) :=
  (s_ob M x0 11).bind fun _ =>
  (f136 x0 M).bind fun p1 =>
  (sg_i p1 x0 11 21).bind fun v3 =>
  (sp_i p1 x0 11 43 0).bind fun M7 =>
  f140_l14 x0 x1
    (fun y43 M44 =>
      f140_j82 x0 x1 y43 M44)
    100000 v3 M7
theorem f140_ok {x0 : Nat} {x1 : Int32} {M : vm_M} {r : Int32 × vm_M} (h : f140 x0 x1 M = some r) (d : Nat) : vm_Cl (d + 2) 140 [.ref (x0), .int (x1)] M (rI r) := by
  have key : Ev 0 (fun _ => 0) (vm_Cl (d + 1)) vp_140 11 3 false (some (.boolean)) (rI r) 0 (lv_args 0 [.ref (x0), .int (x1)]) [] M := by
    have l0 : (0, .ref (x0)) ∈ lv_args 0 [.ref (x0), .int (x1)] := List.Mem.head _
    have l1 : (1, .int (x1)) ∈ lv_args 0 [.ref (x0), .int (x1)] := List.Mem.tail _ (List.Mem.head _)
    unfold f140 at h
    refine ev_aload_nR (mm 0 rfl) l0 ?_
    obtain ⟨_, e56, h⟩ := bind_so h
    obtain ⟨p1, e2, h⟩ := bind_so h
    refine ev_callV_V [] (mm 1 rfl) rfl rfl (Nat.le_of_ble_eq_true rfl) (s_ob_of e56) (f136_ok e2 (d + 0)) ?_
    refine ev_aload_nR (mm 2 rfl) l0 ?_
    obtain ⟨v3, e4, h⟩ := bind_so h
    refine ev_get_i (mm 3 rfl) rfl e4 ?_
    refine evs_istore_n (mm 4 rfl) (by decide) (fun lv5 l2 s6 => ?_)
    have l0 := s6 _ _ l0 rfl
    have l1 := s6 _ _ l1 rfl
    refine ev_aload_nR (mm 5 rfl) l0 ?_
    refine ev_iconst (mm 6 rfl) cI_0 ?_
    obtain ⟨M7, e8, h⟩ := bind_so h
    refine ev_put_i (mm 7 rfl) (fun z => by cases z) rfl e8 ?_
    refine f140_l14_ok ?_ 100000 l0 l1 l2 h
    · intro y43 M44 lv l0 l1 l2
      intro h
      exact f140_j82_ok l0 l1 l2 h
  exact ⟨by decide, Nat.le_of_ble_eq_true rfl, key.1, key.2⟩
/-- PupilCoinModel.asked(J)I -/
def f141 (x0 : Int64) (M : vm_M) : Option (Int32 × vm_M) :=
  if ¬ (lg_cmp x0 439855772532) = 0 then
    if ¬ (lg_cmp x0 465726563698) = 0 then
      if ¬ (lg_cmp x0 504397587826) = 0 then
        if ¬ (lg_cmp x0 469852318835) = 0 then
          if ¬ (lg_cmp x0 32493203083583852) = 0 then
            if ¬ (lg_cmp x0 448377480307) = 0 then
              if ¬ (lg_cmp x0 1852138852) = 0 then
                if ¬ (lg_cmp x0 6709618) = 0 then
                  if ¬ (lg_cmp x0 1818325876) = 0 then
                    if ¬ (lg_cmp x0 2002874980) = 0 then
                      some ((-1), M)
                    else
                      some (9, M)
                  else
                    some (8, M)
                else
                  some (7, M)
              else
                some (6, M)
            else
              some (5, M)
          else
            some (4, M)
        else
          some (3, M)
      else
        some (2, M)
    else
      some (1, M)
  else
    some (0, M)
theorem f141_ok {x0 : Int64} {M : vm_M} {r : Int32 × vm_M} (h : f141 x0 M = some r) (d : Nat) : vm_Cl (d + 1) 141 [.long (x0)] M (rI r) := by
  have key : Ev 0 (fun _ => 0) (vm_Cl (d + 0)) vp_141 11 2 false (some (.int)) (rI r) 0 (lv_args 0 [.long (x0)]) [] M := by
    have l0 : (0, .long (x0)) ∈ lv_args 0 [.long (x0)] := List.Mem.head _
    unfold f141 at h
    refine ev_lload_n (mm 0 rfl) l0 ?_
    refine ev_ldc2_w (mm 1 rfl) cJ_439855772532 ?_
    refine ev_lcmp (mm 2 rfl) ?_
    rcases ite_so h with ⟨c1, h⟩ | ⟨c1, h⟩
    · refine ev_if_t 12 (mm 3 rfl) rfl c1 ?_
      refine ev_lload_n (mm 6 rfl) l0 ?_
      refine ev_ldc2_w (mm 7 rfl) cJ_465726563698 ?_
      refine ev_lcmp (mm 8 rfl) ?_
      rcases ite_so h with ⟨c2, h⟩ | ⟨c2, h⟩
      · refine ev_if_t 24 (mm 9 rfl) rfl c2 ?_
        refine ev_lload_n (mm 12 rfl) l0 ?_
        refine ev_ldc2_w (mm 13 rfl) cJ_504397587826 ?_
        refine ev_lcmp (mm 14 rfl) ?_
        rcases ite_so h with ⟨c3, h⟩ | ⟨c3, h⟩
        · refine ev_if_t 36 (mm 15 rfl) rfl c3 ?_
          refine ev_lload_n (mm 18 rfl) l0 ?_
          refine ev_ldc2_w (mm 19 rfl) cJ_469852318835 ?_
          refine ev_lcmp (mm 20 rfl) ?_
          rcases ite_so h with ⟨c4, h⟩ | ⟨c4, h⟩
          · refine ev_if_t 48 (mm 21 rfl) rfl c4 ?_
            refine ev_lload_n (mm 24 rfl) l0 ?_
            refine ev_ldc2_w (mm 25 rfl) cJ_32493203083583852 ?_
            refine ev_lcmp (mm 26 rfl) ?_
            rcases ite_so h with ⟨c5, h⟩ | ⟨c5, h⟩
            · refine ev_if_t 60 (mm 27 rfl) rfl c5 ?_
              refine ev_lload_n (mm 30 rfl) l0 ?_
              refine ev_ldc2_w (mm 31 rfl) cJ_448377480307 ?_
              refine ev_lcmp (mm 32 rfl) ?_
              rcases ite_so h with ⟨c6, h⟩ | ⟨c6, h⟩
              · refine ev_if_t 72 (mm 33 rfl) rfl c6 ?_
                refine ev_lload_n (mm 36 rfl) l0 ?_
                refine ev_ldc2_w (mm 37 rfl) cJ_1852138852 ?_
                refine ev_lcmp (mm 38 rfl) ?_
                rcases ite_so h with ⟨c7, h⟩ | ⟨c7, h⟩
                · refine ev_if_t 85 (mm 39 rfl) rfl c7 ?_
                  refine ev_lload_n (mm 42 rfl) l0 ?_
                  refine ev_ldc2_w (mm 43 rfl) cJ_6709618 ?_
                  refine ev_lcmp (mm 44 rfl) ?_
                  rcases ite_so h with ⟨c8, h⟩ | ⟨c8, h⟩
                  · refine ev_if_t 98 (mm 45 rfl) rfl c8 ?_
                    refine ev_lload_n (mm 48 rfl) l0 ?_
                    refine ev_ldc2_w (mm 49 rfl) cJ_1818325876 ?_
                    refine ev_lcmp (mm 50 rfl) ?_
                    rcases ite_so h with ⟨c9, h⟩ | ⟨c9, h⟩
                    · refine ev_if_t 111 (mm 51 rfl) rfl c9 ?_
                      refine ev_lload_n (mm 54 rfl) l0 ?_
                      refine ev_ldc2_w (mm 55 rfl) cJ_2002874980 ?_
                      refine ev_lcmp (mm 56 rfl) ?_
                      rcases ite_so h with ⟨c10, h⟩ | ⟨c10, h⟩
                      · refine ev_if_t 124 (mm 57 rfl) rfl c10 ?_
                        refine ev_iconst (mm 60 rfl) cI_m1 ?_
                        exact ev_ireturn (mm 61 rfl) h
                      · refine ev_if_f 124 (mm 57 rfl) rfl c10 ?_
                        refine ev_bipush (mm 58 rfl) cB_9 ?_
                        refine ev_goto 125 (mm 59 rfl) rfl ?_
                        exact ev_ireturn (mm 61 rfl) h
                    · refine ev_if_f 111 (mm 51 rfl) rfl c9 ?_
                      refine ev_bipush (mm 52 rfl) cB_8 ?_
                      refine ev_goto 125 (mm 53 rfl) rfl ?_
                      exact ev_ireturn (mm 61 rfl) h
                  · refine ev_if_f 98 (mm 45 rfl) rfl c8 ?_
                    refine ev_bipush (mm 46 rfl) cB_7 ?_
                    refine ev_goto 125 (mm 47 rfl) rfl ?_
                    exact ev_ireturn (mm 61 rfl) h
                · refine ev_if_f 85 (mm 39 rfl) rfl c7 ?_
                  refine ev_bipush (mm 40 rfl) cB_6 ?_
                  refine ev_goto 125 (mm 41 rfl) rfl ?_
                  exact ev_ireturn (mm 61 rfl) h
              · refine ev_if_f 72 (mm 33 rfl) rfl c6 ?_
                refine ev_iconst (mm 34 rfl) cI_5 ?_
                refine ev_goto 125 (mm 35 rfl) rfl ?_
                exact ev_ireturn (mm 61 rfl) h
            · refine ev_if_f 60 (mm 27 rfl) rfl c5 ?_
              refine ev_iconst (mm 28 rfl) cI_4 ?_
              refine ev_goto 125 (mm 29 rfl) rfl ?_
              exact ev_ireturn (mm 61 rfl) h
          · refine ev_if_f 48 (mm 21 rfl) rfl c4 ?_
            refine ev_iconst (mm 22 rfl) cI_3 ?_
            refine ev_goto 125 (mm 23 rfl) rfl ?_
            exact ev_ireturn (mm 61 rfl) h
        · refine ev_if_f 36 (mm 15 rfl) rfl c3 ?_
          refine ev_iconst (mm 16 rfl) cI_2 ?_
          refine ev_goto 125 (mm 17 rfl) rfl ?_
          exact ev_ireturn (mm 61 rfl) h
      · refine ev_if_f 24 (mm 9 rfl) rfl c2 ?_
        refine ev_iconst (mm 10 rfl) cI_1 ?_
        refine ev_goto 125 (mm 11 rfl) rfl ?_
        exact ev_ireturn (mm 61 rfl) h
    · refine ev_if_f 12 (mm 3 rfl) rfl c1 ?_
      refine ev_iconst (mm 4 rfl) cI_0 ?_
      refine ev_goto 125 (mm 5 rfl) rfl ?_
      exact ev_ireturn (mm 61 rfl) h
  exact ⟨by decide, Nat.le_of_ble_eq_true rfl, key.1, key.2⟩
/-- PupilCoinModel.isKept(J)Z -/
def f142 (x0 : Int64) (M : vm_M) : Option (Int32 × vm_M) :=
  if (lg_cmp x0 1818848869) = 0 then
    s_rb 1 M
  else
    if (lg_cmp x0 26982) = 0 then
      s_rb 1 M
    else
      if (lg_cmp x0 439905906546) = 0 then
        s_rb 1 M
      else
        if (lg_cmp x0 6513008) = 0 then
          s_rb 1 M
        else
          if (lg_cmp x0 500086104428) = 0 then
            s_rb 1 M
          else
            if (lg_cmp x0 1836021349) = 0 then
              s_rb 1 M
            else
              if (lg_cmp x0 478660552050) = 0 then
                s_rb 1 M
              else
                if (lg_cmp x0 495672455781) = 0 then
                  s_rb 1 M
                else
                  if (lg_cmp x0 7170414) = 0 then
                    s_rb 1 M
                  else
                    if (lg_cmp x0 7168376) = 0 then
                      s_rb 1 M
                    else
                      if (lg_cmp x0 28530) = 0 then
                        s_rb 1 M
                      else
                        if (lg_cmp x0 6385252) = 0 then
                          s_rb 1 M
                        else
                          if (lg_cmp x0 7237492) = 0 then
                            s_rb 1 M
                          else
                            (f141 x0 M).bind fun p14 =>
                            if p14.1 = (-1) then
                              s_rb 0 p14.2
                            else
                              s_rb 1 p14.2
theorem f142_ok {x0 : Int64} {M : vm_M} {r : Int32 × vm_M} (h : f142 x0 M = some r) (d : Nat) : vm_Cl (d + 2) 142 [.long (x0)] M (rI r) := by
  have key : Ev 0 (fun _ => 0) (vm_Cl (d + 1)) vp_142 11 2 false (some (.boolean)) (rI r) 0 (lv_args 0 [.long (x0)]) [] M := by
    have l0 : (0, .long (x0)) ∈ lv_args 0 [.long (x0)] := List.Mem.head _
    unfold f142 at h
    refine ev_lload_n (mm 0 rfl) l0 ?_
    refine ev_ldc2_w (mm 1 rfl) cJ_1818848869 ?_
    refine ev_lcmp (mm 2 rfl) ?_
    rcases ite_so h with ⟨c1, h⟩ | ⟨c1, h⟩
    · refine ev_if_t 112 (mm 3 rfl) rfl c1 ?_
      refine ev_iconst (mm 56 rfl) cI_1 ?_
      refine ev_goto 117 (mm 57 rfl) rfl ?_
      exact ev_zreturn (mm 59 rfl) h
    · refine ev_if_f 112 (mm 3 rfl) rfl c1 ?_
      refine ev_lload_n (mm 4 rfl) l0 ?_
      refine ev_ldc2_w (mm 5 rfl) cJ_26982 ?_
      refine ev_lcmp (mm 6 rfl) ?_
      rcases ite_so h with ⟨c2, h⟩ | ⟨c2, h⟩
      · refine ev_if_t 112 (mm 7 rfl) rfl c2 ?_
        refine ev_iconst (mm 56 rfl) cI_1 ?_
        refine ev_goto 117 (mm 57 rfl) rfl ?_
        exact ev_zreturn (mm 59 rfl) h
      · refine ev_if_f 112 (mm 7 rfl) rfl c2 ?_
        refine ev_lload_n (mm 8 rfl) l0 ?_
        refine ev_ldc2_w (mm 9 rfl) cJ_439905906546 ?_
        refine ev_lcmp (mm 10 rfl) ?_
        rcases ite_so h with ⟨c3, h⟩ | ⟨c3, h⟩
        · refine ev_if_t 112 (mm 11 rfl) rfl c3 ?_
          refine ev_iconst (mm 56 rfl) cI_1 ?_
          refine ev_goto 117 (mm 57 rfl) rfl ?_
          exact ev_zreturn (mm 59 rfl) h
        · refine ev_if_f 112 (mm 11 rfl) rfl c3 ?_
          refine ev_lload_n (mm 12 rfl) l0 ?_
          refine ev_ldc2_w (mm 13 rfl) cJ_6513008 ?_
          refine ev_lcmp (mm 14 rfl) ?_
          rcases ite_so h with ⟨c4, h⟩ | ⟨c4, h⟩
          · refine ev_if_t 112 (mm 15 rfl) rfl c4 ?_
            refine ev_iconst (mm 56 rfl) cI_1 ?_
            refine ev_goto 117 (mm 57 rfl) rfl ?_
            exact ev_zreturn (mm 59 rfl) h
          · refine ev_if_f 112 (mm 15 rfl) rfl c4 ?_
            refine ev_lload_n (mm 16 rfl) l0 ?_
            refine ev_ldc2_w (mm 17 rfl) cJ_500086104428 ?_
            refine ev_lcmp (mm 18 rfl) ?_
            rcases ite_so h with ⟨c5, h⟩ | ⟨c5, h⟩
            · refine ev_if_t 112 (mm 19 rfl) rfl c5 ?_
              refine ev_iconst (mm 56 rfl) cI_1 ?_
              refine ev_goto 117 (mm 57 rfl) rfl ?_
              exact ev_zreturn (mm 59 rfl) h
            · refine ev_if_f 112 (mm 19 rfl) rfl c5 ?_
              refine ev_lload_n (mm 20 rfl) l0 ?_
              refine ev_ldc2_w (mm 21 rfl) cJ_1836021349 ?_
              refine ev_lcmp (mm 22 rfl) ?_
              rcases ite_so h with ⟨c6, h⟩ | ⟨c6, h⟩
              · refine ev_if_t 112 (mm 23 rfl) rfl c6 ?_
                refine ev_iconst (mm 56 rfl) cI_1 ?_
                refine ev_goto 117 (mm 57 rfl) rfl ?_
                exact ev_zreturn (mm 59 rfl) h
              · refine ev_if_f 112 (mm 23 rfl) rfl c6 ?_
                refine ev_lload_n (mm 24 rfl) l0 ?_
                refine ev_ldc2_w (mm 25 rfl) cJ_478660552050 ?_
                refine ev_lcmp (mm 26 rfl) ?_
                rcases ite_so h with ⟨c7, h⟩ | ⟨c7, h⟩
                · refine ev_if_t 112 (mm 27 rfl) rfl c7 ?_
                  refine ev_iconst (mm 56 rfl) cI_1 ?_
                  refine ev_goto 117 (mm 57 rfl) rfl ?_
                  exact ev_zreturn (mm 59 rfl) h
                · refine ev_if_f 112 (mm 27 rfl) rfl c7 ?_
                  refine ev_lload_n (mm 28 rfl) l0 ?_
                  refine ev_ldc2_w (mm 29 rfl) cJ_495672455781 ?_
                  refine ev_lcmp (mm 30 rfl) ?_
                  rcases ite_so h with ⟨c8, h⟩ | ⟨c8, h⟩
                  · refine ev_if_t 112 (mm 31 rfl) rfl c8 ?_
                    refine ev_iconst (mm 56 rfl) cI_1 ?_
                    refine ev_goto 117 (mm 57 rfl) rfl ?_
                    exact ev_zreturn (mm 59 rfl) h
                  · refine ev_if_f 112 (mm 31 rfl) rfl c8 ?_
                    refine ev_lload_n (mm 32 rfl) l0 ?_
                    refine ev_ldc2_w (mm 33 rfl) cJ_7170414 ?_
                    refine ev_lcmp (mm 34 rfl) ?_
                    rcases ite_so h with ⟨c9, h⟩ | ⟨c9, h⟩
                    · refine ev_if_t 112 (mm 35 rfl) rfl c9 ?_
                      refine ev_iconst (mm 56 rfl) cI_1 ?_
                      refine ev_goto 117 (mm 57 rfl) rfl ?_
                      exact ev_zreturn (mm 59 rfl) h
                    · refine ev_if_f 112 (mm 35 rfl) rfl c9 ?_
                      refine ev_lload_n (mm 36 rfl) l0 ?_
                      refine ev_ldc2_w (mm 37 rfl) cJ_7168376 ?_
                      refine ev_lcmp (mm 38 rfl) ?_
                      rcases ite_so h with ⟨c10, h⟩ | ⟨c10, h⟩
                      · refine ev_if_t 112 (mm 39 rfl) rfl c10 ?_
                        refine ev_iconst (mm 56 rfl) cI_1 ?_
                        refine ev_goto 117 (mm 57 rfl) rfl ?_
                        exact ev_zreturn (mm 59 rfl) h
                      · refine ev_if_f 112 (mm 39 rfl) rfl c10 ?_
                        refine ev_lload_n (mm 40 rfl) l0 ?_
                        refine ev_ldc2_w (mm 41 rfl) cJ_28530 ?_
                        refine ev_lcmp (mm 42 rfl) ?_
                        rcases ite_so h with ⟨c11, h⟩ | ⟨c11, h⟩
                        · refine ev_if_t 112 (mm 43 rfl) rfl c11 ?_
                          refine ev_iconst (mm 56 rfl) cI_1 ?_
                          refine ev_goto 117 (mm 57 rfl) rfl ?_
                          exact ev_zreturn (mm 59 rfl) h
                        · refine ev_if_f 112 (mm 43 rfl) rfl c11 ?_
                          refine ev_lload_n (mm 44 rfl) l0 ?_
                          refine ev_ldc2_w (mm 45 rfl) cJ_6385252 ?_
                          refine ev_lcmp (mm 46 rfl) ?_
                          rcases ite_so h with ⟨c12, h⟩ | ⟨c12, h⟩
                          · refine ev_if_t 112 (mm 47 rfl) rfl c12 ?_
                            refine ev_iconst (mm 56 rfl) cI_1 ?_
                            refine ev_goto 117 (mm 57 rfl) rfl ?_
                            exact ev_zreturn (mm 59 rfl) h
                          · refine ev_if_f 112 (mm 47 rfl) rfl c12 ?_
                            refine ev_lload_n (mm 48 rfl) l0 ?_
                            refine ev_ldc2_w (mm 49 rfl) cJ_7237492 ?_
                            refine ev_lcmp (mm 50 rfl) ?_
                            rcases ite_so h with ⟨c13, h⟩ | ⟨c13, h⟩
                            · refine ev_if_t 112 (mm 51 rfl) rfl c13 ?_
                              refine ev_iconst (mm 56 rfl) cI_1 ?_
                              refine ev_goto 117 (mm 57 rfl) rfl ?_
                              exact ev_zreturn (mm 59 rfl) h
                            · refine ev_if_f 112 (mm 51 rfl) rfl c13 ?_
                              refine ev_lload_n (mm 52 rfl) l0 ?_
                              obtain ⟨p14, e15, h⟩ := bind_so h
                              refine ev_callS_I [.long (x0)] (mm 53 rfl) (by decide) rfl rfl (Nat.le_of_ble_eq_true rfl) (f141_ok e15 (d + 0)) ?_
                              refine ev_iconst (mm 54 rfl) cI_m1 ?_
                              rcases ite_so h with ⟨c16, h⟩ | ⟨c16, h⟩
                              · refine ev_ic_t 116 (mm 55 rfl) rfl c16 ?_
                                refine ev_iconst (mm 58 rfl) cI_0 ?_
                                exact ev_zreturn (mm 59 rfl) h
                              · refine ev_ic_f 116 (mm 55 rfl) rfl c16 ?_
                                refine ev_iconst (mm 56 rfl) cI_1 ?_
                                refine ev_goto 117 (mm 57 rfl) rfl ?_
                                exact ev_zreturn (mm 59 rfl) h
  exact ⟨by decide, Nat.le_of_ble_eq_true rfl, key.1, key.2⟩
def f143_l2 (x0 : Nat) (x1 : Int64) : Nat → Int32 → vm_M → Option (Int32 × vm_M)
  | 0 => fun _ _ => none
  | n + 1 => fun x3 M =>
    (sg_i M x0 11 23).bind fun v3 =>
    if v3 ≤ x3 then
      some ((-1), M)
    else
      if (lg_cmp x1 0) = 0 then
        f143_l2 x0 x1 n (x3 + 1) M
      else
        (sg_r M x0 11 37).bind fun v9 =>
        (v9).bind fun q11 =>
        (sa_l M q11 x3).bind fun v13 =>
        if ¬ (lg_cmp v13 x1) = 0 then
          f143_l2 x0 x1 n (x3 + 1) M
        else
          some (x3, M)
theorem f143_l2_ok {d : Nat} {x0 : Nat} {x1 : Int64} {r : Int32 × vm_M} : ∀ (n : Nat) {x3 : Int32} {M : vm_M} {lv : vm_L}, (0, .ref (x0)) ∈ lv → (1, .long (x1)) ∈ lv → (3, .int (x3)) ∈ lv → f143_l2 x0 x1 n x3 M = some r → Ev 0 (fun _ => 0) (vm_Cl (d + 0)) vp_143 11 4 false (some (.int)) (rI r) 2 lv [] M := by
  intro n
  induction n with
  | zero =>
    intro x3 M lv l0 l1 l3 h
    cases h
  | succ n ih =>
    intro x3 M lv l0 l1 l3 h
    dsimp only [f143_l2] at h
    refine ev_iload_n (mm 2 rfl) l3 ?_
    refine ev_aload_nR (mm 3 rfl) l0 ?_
    obtain ⟨v3, e4, h⟩ := bind_so h
    refine ev_get_i (mm 4 rfl) rfl e4 ?_
    rcases ite_so h with ⟨c5, h⟩ | ⟨c5, h⟩
    · refine ev_ic_t 35 (mm 5 rfl) rfl c5 ?_
      refine ev_iconst (mm 21 rfl) cI_m1 ?_
      exact ev_ireturn (mm 22 rfl) h
    · refine ev_ic_f 35 (mm 5 rfl) rfl c5 ?_
      refine ev_lload_n (mm 6 rfl) l1 ?_
      refine ev_lconst (mm 7 rfl) cL_0 ?_
      refine ev_lcmp (mm 8 rfl) ?_
      rcases ite_so h with ⟨c6, h⟩ | ⟨c6, h⟩
      · refine ev_if_t 29 (mm 9 rfl) rfl c6 ?_
        refine evs_iinc (mm 19 rfl) cI_1 l3 (by decide) (fun lv7 l3 s8 => ?_)
        have l0 := s8 _ _ l0 rfl
        have l1 := s8 _ _ l1 rfl
        refine ev_goto 2 (mm 20 rfl) rfl ?_
        exact ih l0 l1 l3 h
      · refine ev_if_f 29 (mm 9 rfl) rfl c6 ?_
        refine ev_aload_nR (mm 10 rfl) l0 ?_
        obtain ⟨v9, e10, h⟩ := bind_so h
        refine ev_get_r (mm 11 rfl) rfl e10 ?_
        refine ev_iload_n (mm 12 rfl) l3 ?_
        obtain ⟨q11, e12, h⟩ := bind_so h
        rw [e12]
        obtain ⟨v13, e14, h⟩ := bind_so h
        refine ev_laload (mm 13 rfl) e14 ?_
        refine ev_lload_n (mm 14 rfl) l1 ?_
        refine ev_lcmp (mm 15 rfl) ?_
        rcases ite_so h with ⟨c15, h⟩ | ⟨c15, h⟩
        · refine ev_if_t 29 (mm 16 rfl) rfl c15 ?_
          refine evs_iinc (mm 19 rfl) cI_1 l3 (by decide) (fun lv16 l3 s17 => ?_)
          have l0 := s17 _ _ l0 rfl
          have l1 := s17 _ _ l1 rfl
          refine ev_goto 2 (mm 20 rfl) rfl ?_
          exact ih l0 l1 l3 h
        · refine ev_if_f 29 (mm 16 rfl) rfl c15 ?_
          refine ev_iload_n (mm 17 rfl) l3 ?_
          exact ev_ireturn (mm 18 rfl) h
/-- PupilCoinModel.named(J)I -/
def f143 (x0 : Nat) (x1 : Int64) (M : vm_M) : Option (Int32 × vm_M) :=
  f143_l2 x0 x1
  
    100000 0 M
theorem f143_ok {x0 : Nat} {x1 : Int64} {M : vm_M} {r : Int32 × vm_M} (h : f143 x0 x1 M = some r) (d : Nat) : vm_Cl (d + 1) 143 [.ref (x0), .long (x1)] M (rI r) := by
  have key : Ev 0 (fun _ => 0) (vm_Cl (d + 0)) vp_143 11 4 false (some (.int)) (rI r) 0 (lv_args 0 [.ref (x0), .long (x1)]) [] M := by
    have l0 : (0, .ref (x0)) ∈ lv_args 0 [.ref (x0), .long (x1)] := List.Mem.head _
    have l1 : (1, .long (x1)) ∈ lv_args 0 [.ref (x0), .long (x1)] := List.Mem.tail _ (List.Mem.head _)
    unfold f143 at h
    refine ev_iconst (mm 0 rfl) cI_0 ?_
    refine evs_istore_n (mm 1 rfl) (by decide) (fun lv1 l3 s2 => ?_)
    have l0 := s2 _ _ l0 rfl
    have l1 := s2 _ _ l1 rfl
    refine f143_l2_ok 100000 l0 l1 l3 h
  exact ⟨by decide, Nat.le_of_ble_eq_true rfl, key.1, key.2⟩
/-- PupilCoinModel.puts(II)V -/
def f144 (x0 : Nat) (x1 : Int32) (x2 : Int32) (M : vm_M) : Option (vm_M) :=
  (sg_r M x0 11 35).bind fun v1 =>
  (sg_i M x0 11 24).bind fun v3 =>
  (v1).bind fun q5 =>
  (ss_i M q5 0 v3 x1).bind fun M7 =>
  (sg_r M7 x0 11 36).bind fun v9 =>
  (sg_i M7 x0 11 24).bind fun v11 =>
  (v9).bind fun q13 =>
  (ss_i M7 q13 0 v11 x2).bind fun M15 =>
  (sg_i M15 x0 11 24).bind fun v17 =>
  (sp_i M15 x0 11 24 (v17 + 1)).bind fun M19 =>
  some M19
theorem f144_ok {x0 : Nat} {x1 : Int32} {x2 : Int32} {M : vm_M} {r : vm_M} (h : f144 x0 x1 x2 M = some r) (d : Nat) : vm_Cl (d + 1) 144 [.ref (x0), .int (x1), .int (x2)] M (rV r) := by
  have key : Ev 0 (fun _ => 0) (vm_Cl (d + 0)) vp_144 11 3 false none (rV r) 0 (lv_args 0 [.ref (x0), .int (x1), .int (x2)]) [] M := by
    have l0 : (0, .ref (x0)) ∈ lv_args 0 [.ref (x0), .int (x1), .int (x2)] := List.Mem.head _
    have l1 : (1, .int (x1)) ∈ lv_args 0 [.ref (x0), .int (x1), .int (x2)] := List.Mem.tail _ (List.Mem.head _)
    have l2 : (2, .int (x2)) ∈ lv_args 0 [.ref (x0), .int (x1), .int (x2)] := List.Mem.tail _ (List.Mem.tail _ (List.Mem.head _))
    unfold f144 at h
    refine ev_aload_nR (mm 0 rfl) l0 ?_
    obtain ⟨v1, e2, h⟩ := bind_so h
    refine ev_get_r (mm 1 rfl) rfl e2 ?_
    refine ev_aload_nR (mm 2 rfl) l0 ?_
    obtain ⟨v3, e4, h⟩ := bind_so h
    refine ev_get_i (mm 3 rfl) rfl e4 ?_
    refine ev_iload_n (mm 4 rfl) l1 ?_
    obtain ⟨q5, e6, h⟩ := bind_so h
    rw [e6]
    obtain ⟨M7, e8, h⟩ := bind_so h
    refine ev_iastore (mm 5 rfl) e8 ?_
    refine ev_aload_nR (mm 6 rfl) l0 ?_
    obtain ⟨v9, e10, h⟩ := bind_so h
    refine ev_get_r (mm 7 rfl) rfl e10 ?_
    refine ev_aload_nR (mm 8 rfl) l0 ?_
    obtain ⟨v11, e12, h⟩ := bind_so h
    refine ev_get_i (mm 9 rfl) rfl e12 ?_
    refine ev_iload_n (mm 10 rfl) l2 ?_
    obtain ⟨q13, e14, h⟩ := bind_so h
    rw [e14]
    obtain ⟨M15, e16, h⟩ := bind_so h
    refine ev_iastore (mm 11 rfl) e16 ?_
    refine ev_aload_nR (mm 12 rfl) l0 ?_
    refine ev_dupR (mm 13 rfl) ?_
    obtain ⟨v17, e18, h⟩ := bind_so h
    refine ev_get_i (mm 14 rfl) rfl e18 ?_
    refine ev_iconst (mm 15 rfl) cI_1 ?_
    refine ev_iadd (mm 16 rfl) ?_
    obtain ⟨M19, e20, h⟩ := bind_so h
    refine ev_put_i (mm 17 rfl) (fun z => by cases z) rfl e20 ?_
    exact ev_return (mm 18 rfl) h
  exact ⟨by decide, Nat.le_of_ble_eq_true rfl, key.1, key.2⟩
/-- PupilCoinModel.opens()Z -/
def f145 (x0 : Nat) (M : vm_M) : Option (Int32 × vm_M) :=
  (sg_i M x0 11 22).bind fun v1 =>
  if ¬ v1 = 8 then
    (sg_i M x0 11 22).bind fun v4 =>
    (sp_i M x0 11 22 (v4 + 1)).bind fun M6 =>
    s_rb 1 M6
  else
    s_rb 0 M
theorem f145_ok {x0 : Nat} {M : vm_M} {r : Int32 × vm_M} (h : f145 x0 M = some r) (d : Nat) : vm_Cl (d + 1) 145 [.ref (x0)] M (rI r) := by
  have key : Ev 0 (fun _ => 0) (vm_Cl (d + 0)) vp_145 11 1 false (some (.boolean)) (rI r) 0 (lv_args 0 [.ref (x0)]) [] M := by
    have l0 : (0, .ref (x0)) ∈ lv_args 0 [.ref (x0)] := List.Mem.head _
    unfold f145 at h
    refine ev_aload_nR (mm 0 rfl) l0 ?_
    obtain ⟨v1, e2, h⟩ := bind_so h
    refine ev_get_i (mm 1 rfl) rfl e2 ?_
    refine ev_bipush (mm 2 rfl) cB_8 ?_
    rcases ite_so h with ⟨c3, h⟩ | ⟨c3, h⟩
    · refine ev_ic_t 11 (mm 3 rfl) rfl c3 ?_
      refine ev_aload_nR (mm 6 rfl) l0 ?_
      refine ev_dupR (mm 7 rfl) ?_
      obtain ⟨v4, e5, h⟩ := bind_so h
      refine ev_get_i (mm 8 rfl) rfl e5 ?_
      refine ev_iconst (mm 9 rfl) cI_1 ?_
      refine ev_iadd (mm 10 rfl) ?_
      obtain ⟨M6, e7, h⟩ := bind_so h
      refine ev_put_i (mm 11 rfl) (fun z => by cases z) rfl e7 ?_
      refine ev_iconst (mm 12 rfl) cI_1 ?_
      exact ev_zreturn (mm 13 rfl) h
    · refine ev_ic_f 11 (mm 3 rfl) rfl c3 ?_
      refine ev_iconst (mm 4 rfl) cI_0 ?_
      exact ev_zreturn (mm 5 rfl) h
  exact ⟨by decide, Nat.le_of_ble_eq_true rfl, key.1, key.2⟩
def f146_j120 (F146 : Nat → vm_M → Option (Int32 × vm_M)) (F147 : Nat → vm_M → Option (Int32 × vm_M)) (F148 : Nat → vm_M → Option (Int32 × vm_M)) (x0 : Nat) (x1 : Int64) (M : vm_M) : Option (Int32 × vm_M) :=
  (s_ob M x0 11).bind fun _ =>
  (f145 x0 M).bind fun p16 =>
  if ¬ p16.1 = 0 then
    (sg_i p16.2 x0 11 42).bind fun v19 =>
    (sp_i p16.2 x0 11 21 v19).bind fun M21 =>
    (s_ob M21 x0 11).bind fun _ =>
    (f139 x0 40 M21).bind fun p23 =>
    if p23.1 = 0 then
      s_rb 0 p23.2
    else
      (s_ob p23.2 x0 11).bind fun _ =>
      (F148 x0 p23.2).bind fun p26 =>
      if p26.1 = 0 then
        s_rb 0 p26.2
      else
        (s_ob p26.2 x0 11).bind fun _ =>
        (f139 x0 44 p26.2).bind fun p29 =>
        if p29.1 = 0 then
          s_rb 0 p29.2
        else
          (s_ob p29.2 x0 11).bind fun _ =>
          (F148 x0 p29.2).bind fun p32 =>
          if p32.1 = 0 then
            s_rb 0 p32.2
          else
            (s_ob p32.2 x0 11).bind fun _ =>
            (f139 x0 41 p32.2).bind fun p35 =>
            if ¬ p35.1 = 0 then
              (sg_i p35.2 x0 11 22).bind fun v38 =>
              (sp_i p35.2 x0 11 22 (v38 - 1)).bind fun M40 =>
              if ¬ (lg_cmp x1 7170414) = 0 then
                (s_ob M40 x0 11).bind fun _ =>
                (f144 x0 8 0 M40).bind fun p43 =>
                s_rb 1 p43
              else
                (s_ob M40 x0 11).bind fun _ =>
                (f144 x0 7 0 M40).bind fun p46 =>
                s_rb 1 p46
            else
              s_rb 0 p35.2
  else
    s_rb 0 p16.2
theorem f146_j120_ok {O : Nat → List Value → vm_M → vm_R → Prop} {x0 : Nat} {x1 : Int64} {M : vm_M} {F146 : Nat → vm_M → Option (Int32 × vm_M)} {F147 : Nat → vm_M → Option (Int32 × vm_M)} {F148 : Nat → vm_M → Option (Int32 × vm_M)} {r : Int32 × vm_M} (hF146 : ∀ {a0 : Nat} {M : vm_M} {r : Int32 × vm_M}, F146 a0 M = some r → O 146 [.ref (a0)] M (rI r)) (hF147 : ∀ {a0 : Nat} {M : vm_M} {r : Int32 × vm_M}, F147 a0 M = some r → O 147 [.ref (a0)] M (rI r)) (hF148 : ∀ {a0 : Nat} {M : vm_M} {r : Int32 × vm_M}, F148 a0 M = some r → O 148 [.ref (a0)] M (rI r)) (hO136 : ∀ {a0 : Nat} {M : vm_M} {r : vm_M}, f136 a0 M = some r → O 136 [.ref (a0)] M (rV r)) (hO137 : ∀ {a0 : Nat} {M : vm_M} {r : Int64 × vm_M}, f137 a0 M = some r → O 137 [.ref (a0)] M (rJ r)) (hO139 : ∀ {a0 : Nat} {a1 : Int32} {M : vm_M} {r : Int32 × vm_M}, f139 a0 a1 M = some r → O 139 [.ref (a0), .int (a1)] M (rI r)) (hO140 : ∀ {a0 : Nat} {a1 : Int32} {M : vm_M} {r : Int32 × vm_M}, f140 a0 a1 M = some r → O 140 [.ref (a0), .int (a1)] M (rI r)) (hO141 : ∀ {a0 : Int64} {M : vm_M} {r : Int32 × vm_M}, f141 a0 M = some r → O 141 [.long (a0)] M (rI r)) (hO143 : ∀ {a0 : Nat} {a1 : Int64} {M : vm_M} {r : Int32 × vm_M}, f143 a0 a1 M = some r → O 143 [.ref (a0), .long (a1)] M (rI r)) (hO144 : ∀ {a0 : Nat} {a1 : Int32} {a2 : Int32} {M : vm_M} {r : vm_M}, f144 a0 a1 a2 M = some r → O 144 [.ref (a0), .int (a1), .int (a2)] M (rV r)) (hO145 : ∀ {a0 : Nat} {M : vm_M} {r : Int32 × vm_M}, f145 a0 M = some r → O 145 [.ref (a0)] M (rI r)) {lv : vm_L} (l0 : (0, .ref (x0)) ∈ lv) (l1 : (1, .long (x1)) ∈ lv) (h : f146_j120 F146 F147 F148 x0 x1 M = some r) : Ev 0 (fun _ => 0) O vp_146 11 5 false (some (.boolean)) (rI r) 120 lv [] M := by
  unfold f146_j120 at h
  refine ev_aload_nR (mm 64 rfl) l0 ?_
  obtain ⟨_, e54, h⟩ := bind_so h
  obtain ⟨p16, e17, h⟩ := bind_so h
  refine ev_callV_I [] (mm 65 rfl) rfl rfl (Nat.le_of_ble_eq_true rfl) (s_ob_of e54) (hO145 e17) ?_
  rcases ite_so h with ⟨c18, h⟩ | ⟨c18, h⟩
  · refine ev_if_t 129 (mm 66 rfl) rfl c18 ?_
    refine ev_aload_nR (mm 69 rfl) l0 ?_
    refine ev_aload_nR (mm 70 rfl) l0 ?_
    obtain ⟨v19, e20, h⟩ := bind_so h
    refine ev_get_i (mm 71 rfl) rfl e20 ?_
    obtain ⟨M21, e22, h⟩ := bind_so h
    refine ev_put_i (mm 72 rfl) (fun z => by cases z) rfl e22 ?_
    refine ev_aload_nR (mm 73 rfl) l0 ?_
    refine ev_bipush (mm 74 rfl) cB_40 ?_
    obtain ⟨_, e53, h⟩ := bind_so h
    obtain ⟨p23, e24, h⟩ := bind_so h
    refine ev_callV_I [.int (40)] (mm 75 rfl) rfl rfl (Nat.le_of_ble_eq_true rfl) (s_ob_of e53) (hO139 e24) ?_
    rcases ite_so h with ⟨c25, h⟩ | ⟨c25, h⟩
    · refine ev_if_t 178 (mm 76 rfl) rfl c25 ?_
      refine ev_iconst (mm 91 rfl) cI_0 ?_
      exact ev_zreturn (mm 92 rfl) h
    · refine ev_if_f 178 (mm 76 rfl) rfl c25 ?_
      refine ev_aload_nR (mm 77 rfl) l0 ?_
      obtain ⟨_, e52, h⟩ := bind_so h
      obtain ⟨p26, e27, h⟩ := bind_so h
      refine ev_callV_I [] (mm 78 rfl) rfl rfl (Nat.le_of_ble_eq_true rfl) (s_ob_of e52) (hF148 e27) ?_
      rcases ite_so h with ⟨c28, h⟩ | ⟨c28, h⟩
      · refine ev_if_t 178 (mm 79 rfl) rfl c28 ?_
        refine ev_iconst (mm 91 rfl) cI_0 ?_
        exact ev_zreturn (mm 92 rfl) h
      · refine ev_if_f 178 (mm 79 rfl) rfl c28 ?_
        refine ev_aload_nR (mm 80 rfl) l0 ?_
        refine ev_bipush (mm 81 rfl) cB_44 ?_
        obtain ⟨_, e51, h⟩ := bind_so h
        obtain ⟨p29, e30, h⟩ := bind_so h
        refine ev_callV_I [.int (44)] (mm 82 rfl) rfl rfl (Nat.le_of_ble_eq_true rfl) (s_ob_of e51) (hO139 e30) ?_
        rcases ite_so h with ⟨c31, h⟩ | ⟨c31, h⟩
        · refine ev_if_t 178 (mm 83 rfl) rfl c31 ?_
          refine ev_iconst (mm 91 rfl) cI_0 ?_
          exact ev_zreturn (mm 92 rfl) h
        · refine ev_if_f 178 (mm 83 rfl) rfl c31 ?_
          refine ev_aload_nR (mm 84 rfl) l0 ?_
          obtain ⟨_, e50, h⟩ := bind_so h
          obtain ⟨p32, e33, h⟩ := bind_so h
          refine ev_callV_I [] (mm 85 rfl) rfl rfl (Nat.le_of_ble_eq_true rfl) (s_ob_of e50) (hF148 e33) ?_
          rcases ite_so h with ⟨c34, h⟩ | ⟨c34, h⟩
          · refine ev_if_t 178 (mm 86 rfl) rfl c34 ?_
            refine ev_iconst (mm 91 rfl) cI_0 ?_
            exact ev_zreturn (mm 92 rfl) h
          · refine ev_if_f 178 (mm 86 rfl) rfl c34 ?_
            refine ev_aload_nR (mm 87 rfl) l0 ?_
            refine ev_bipush (mm 88 rfl) cB_41 ?_
            obtain ⟨_, e49, h⟩ := bind_so h
            obtain ⟨p35, e36, h⟩ := bind_so h
            refine ev_callV_I [.int (41)] (mm 89 rfl) rfl rfl (Nat.le_of_ble_eq_true rfl) (s_ob_of e49) (hO139 e36) ?_
            rcases ite_so h with ⟨c37, h⟩ | ⟨c37, h⟩
            · refine ev_if_t 180 (mm 90 rfl) rfl c37 ?_
              refine ev_aload_nR (mm 93 rfl) l0 ?_
              refine ev_dupR (mm 94 rfl) ?_
              obtain ⟨v38, e39, h⟩ := bind_so h
              refine ev_get_i (mm 95 rfl) rfl e39 ?_
              refine ev_iconst (mm 96 rfl) cI_1 ?_
              refine ev_isub (mm 97 rfl) ?_
              obtain ⟨M40, e41, h⟩ := bind_so h
              refine ev_put_i (mm 98 rfl) (fun z => by cases z) rfl e41 ?_
              refine ev_aload_nR (mm 99 rfl) l0 ?_
              refine ev_lload_n (mm 100 rfl) l1 ?_
              refine ev_ldc2_w (mm 101 rfl) cJ_7170414 ?_
              refine ev_lcmp (mm 102 rfl) ?_
              rcases ite_so h with ⟨c42, h⟩ | ⟨c42, h⟩
              · refine ev_if_t 204 (mm 103 rfl) rfl c42 ?_
                refine ev_bipush (mm 106 rfl) cB_8 ?_
                refine ev_iconst (mm 107 rfl) cI_0 ?_
                obtain ⟨_, e45, h⟩ := bind_so h
                obtain ⟨p43, e44, h⟩ := bind_so h
                refine ev_callV_V [.int (8), .int (0)] (mm 108 rfl) rfl rfl (Nat.le_of_ble_eq_true rfl) (s_ob_of e45) (hO144 e44) ?_
                refine ev_iconst (mm 109 rfl) cI_1 ?_
                exact ev_zreturn (mm 110 rfl) h
              · refine ev_if_f 204 (mm 103 rfl) rfl c42 ?_
                refine ev_bipush (mm 104 rfl) cB_7 ?_
                refine ev_goto 206 (mm 105 rfl) rfl ?_
                refine ev_iconst (mm 107 rfl) cI_0 ?_
                obtain ⟨_, e48, h⟩ := bind_so h
                obtain ⟨p46, e47, h⟩ := bind_so h
                refine ev_callV_V [.int (7), .int (0)] (mm 108 rfl) rfl rfl (Nat.le_of_ble_eq_true rfl) (s_ob_of e48) (hO144 e47) ?_
                refine ev_iconst (mm 109 rfl) cI_1 ?_
                exact ev_zreturn (mm 110 rfl) h
            · refine ev_if_f 180 (mm 90 rfl) rfl c37 ?_
              refine ev_iconst (mm 91 rfl) cI_0 ?_
              exact ev_zreturn (mm 92 rfl) h
  · refine ev_if_f 129 (mm 66 rfl) rfl c18 ?_
    refine ev_iconst (mm 67 rfl) cI_0 ?_
    exact ev_zreturn (mm 68 rfl) h
def f146_j256 (F146 : Nat → vm_M → Option (Int32 × vm_M)) (F147 : Nat → vm_M → Option (Int32 × vm_M)) (F148 : Nat → vm_M → Option (Int32 × vm_M)) (x3 : Int32) (x4 : Int32) (s0 : Nat) (s1 : Int32) (M : vm_M) : Option (Int32 × vm_M) :=
  if ¬ x3 = (-1) then
    (s_ob M s0 11).bind fun _ =>
    (f144 s0 s1 x3 M).bind fun p71 =>
    s_rb 1 p71
  else
    (s_ob M s0 11).bind fun _ =>
    (f144 s0 s1 x4 M).bind fun p74 =>
    s_rb 1 p74
theorem f146_j256_ok {O : Nat → List Value → vm_M → vm_R → Prop} {x3 : Int32} {x4 : Int32} {s0 : Nat} {s1 : Int32} {M : vm_M} {F146 : Nat → vm_M → Option (Int32 × vm_M)} {F147 : Nat → vm_M → Option (Int32 × vm_M)} {F148 : Nat → vm_M → Option (Int32 × vm_M)} {r : Int32 × vm_M} (hF146 : ∀ {a0 : Nat} {M : vm_M} {r : Int32 × vm_M}, F146 a0 M = some r → O 146 [.ref (a0)] M (rI r)) (hF147 : ∀ {a0 : Nat} {M : vm_M} {r : Int32 × vm_M}, F147 a0 M = some r → O 147 [.ref (a0)] M (rI r)) (hF148 : ∀ {a0 : Nat} {M : vm_M} {r : Int32 × vm_M}, F148 a0 M = some r → O 148 [.ref (a0)] M (rI r)) (hO136 : ∀ {a0 : Nat} {M : vm_M} {r : vm_M}, f136 a0 M = some r → O 136 [.ref (a0)] M (rV r)) (hO137 : ∀ {a0 : Nat} {M : vm_M} {r : Int64 × vm_M}, f137 a0 M = some r → O 137 [.ref (a0)] M (rJ r)) (hO139 : ∀ {a0 : Nat} {a1 : Int32} {M : vm_M} {r : Int32 × vm_M}, f139 a0 a1 M = some r → O 139 [.ref (a0), .int (a1)] M (rI r)) (hO140 : ∀ {a0 : Nat} {a1 : Int32} {M : vm_M} {r : Int32 × vm_M}, f140 a0 a1 M = some r → O 140 [.ref (a0), .int (a1)] M (rI r)) (hO141 : ∀ {a0 : Int64} {M : vm_M} {r : Int32 × vm_M}, f141 a0 M = some r → O 141 [.long (a0)] M (rI r)) (hO143 : ∀ {a0 : Nat} {a1 : Int64} {M : vm_M} {r : Int32 × vm_M}, f143 a0 a1 M = some r → O 143 [.ref (a0), .long (a1)] M (rI r)) (hO144 : ∀ {a0 : Nat} {a1 : Int32} {a2 : Int32} {M : vm_M} {r : vm_M}, f144 a0 a1 a2 M = some r → O 144 [.ref (a0), .int (a1), .int (a2)] M (rV r)) (hO145 : ∀ {a0 : Nat} {M : vm_M} {r : Int32 × vm_M}, f145 a0 M = some r → O 145 [.ref (a0)] M (rI r)) {lv : vm_L} (l3 : (3, .int (x3)) ∈ lv) (l4 : (4, .int (x4)) ∈ lv) (h : f146_j256 F146 F147 F148 x3 x4 s0 s1 M = some r) : Ev 0 (fun _ => 0) O vp_146 11 5 false (some (.boolean)) (rI r) 256 lv [.int (s1), .ref (s0)] M := by
  unfold f146_j256 at h
  refine ev_iload_n (mm 137 rfl) l3 ?_
  refine ev_iconst (mm 138 rfl) cI_m1 ?_
  rcases ite_so h with ⟨c70, h⟩ | ⟨c70, h⟩
  · refine ev_ic_t 266 (mm 139 rfl) rfl c70 ?_
    refine ev_iload_n (mm 142 rfl) l3 ?_
    obtain ⟨_, e73, h⟩ := bind_so h
    obtain ⟨p71, e72, h⟩ := bind_so h
    refine ev_callV_V [.int (s1), .int (x3)] (mm 143 rfl) rfl rfl (Nat.le_of_ble_eq_true rfl) (s_ob_of e73) (hO144 e72) ?_
    refine ev_iconst (mm 144 rfl) cI_1 ?_
    exact ev_zreturn (mm 145 rfl) h
  · refine ev_ic_f 266 (mm 139 rfl) rfl c70 ?_
    refine ev_iload (mm 140 rfl) l4 ?_
    refine ev_goto 267 (mm 141 rfl) rfl ?_
    obtain ⟨_, e76, h⟩ := bind_so h
    obtain ⟨p74, e75, h⟩ := bind_so h
    refine ev_callV_V [.int (s1), .int (x4)] (mm 143 rfl) rfl rfl (Nat.le_of_ble_eq_true rfl) (s_ob_of e76) (hO144 e75) ?_
    refine ev_iconst (mm 144 rfl) cI_1 ?_
    exact ev_zreturn (mm 145 rfl) h
def f146_j237 (F146 : Nat → vm_M → Option (Int32 × vm_M)) (F147 : Nat → vm_M → Option (Int32 × vm_M)) (F148 : Nat → vm_M → Option (Int32 × vm_M)) (x0 : Nat) (x3 : Int32) (x4 : Int32) (M : vm_M) : Option (Int32 × vm_M) :=
  (sg_i M x0 11 42).bind fun v65 =>
  (sp_i M x0 11 21 v65).bind fun M67 =>
  if ¬ x3 = (-1) then
    f146_j256 F146 F147 F148 x3 x4 x0 1 M67
  else
    f146_j256 F146 F147 F148 x3 x4 x0 2 M67
theorem f146_j237_ok {O : Nat → List Value → vm_M → vm_R → Prop} {x0 : Nat} {x3 : Int32} {x4 : Int32} {M : vm_M} {F146 : Nat → vm_M → Option (Int32 × vm_M)} {F147 : Nat → vm_M → Option (Int32 × vm_M)} {F148 : Nat → vm_M → Option (Int32 × vm_M)} {r : Int32 × vm_M} (hF146 : ∀ {a0 : Nat} {M : vm_M} {r : Int32 × vm_M}, F146 a0 M = some r → O 146 [.ref (a0)] M (rI r)) (hF147 : ∀ {a0 : Nat} {M : vm_M} {r : Int32 × vm_M}, F147 a0 M = some r → O 147 [.ref (a0)] M (rI r)) (hF148 : ∀ {a0 : Nat} {M : vm_M} {r : Int32 × vm_M}, F148 a0 M = some r → O 148 [.ref (a0)] M (rI r)) (hO136 : ∀ {a0 : Nat} {M : vm_M} {r : vm_M}, f136 a0 M = some r → O 136 [.ref (a0)] M (rV r)) (hO137 : ∀ {a0 : Nat} {M : vm_M} {r : Int64 × vm_M}, f137 a0 M = some r → O 137 [.ref (a0)] M (rJ r)) (hO139 : ∀ {a0 : Nat} {a1 : Int32} {M : vm_M} {r : Int32 × vm_M}, f139 a0 a1 M = some r → O 139 [.ref (a0), .int (a1)] M (rI r)) (hO140 : ∀ {a0 : Nat} {a1 : Int32} {M : vm_M} {r : Int32 × vm_M}, f140 a0 a1 M = some r → O 140 [.ref (a0), .int (a1)] M (rI r)) (hO141 : ∀ {a0 : Int64} {M : vm_M} {r : Int32 × vm_M}, f141 a0 M = some r → O 141 [.long (a0)] M (rI r)) (hO143 : ∀ {a0 : Nat} {a1 : Int64} {M : vm_M} {r : Int32 × vm_M}, f143 a0 a1 M = some r → O 143 [.ref (a0), .long (a1)] M (rI r)) (hO144 : ∀ {a0 : Nat} {a1 : Int32} {a2 : Int32} {M : vm_M} {r : vm_M}, f144 a0 a1 a2 M = some r → O 144 [.ref (a0), .int (a1), .int (a2)] M (rV r)) (hO145 : ∀ {a0 : Nat} {M : vm_M} {r : Int32 × vm_M}, f145 a0 M = some r → O 145 [.ref (a0)] M (rI r)) {lv : vm_L} (l0 : (0, .ref (x0)) ∈ lv) (l3 : (3, .int (x3)) ∈ lv) (l4 : (4, .int (x4)) ∈ lv) (h : f146_j237 F146 F147 F148 x0 x3 x4 M = some r) : Ev 0 (fun _ => 0) O vp_146 11 5 false (some (.boolean)) (rI r) 237 lv [] M := by
  unfold f146_j237 at h
  refine ev_aload_nR (mm 126 rfl) l0 ?_
  refine ev_aload_nR (mm 127 rfl) l0 ?_
  obtain ⟨v65, e66, h⟩ := bind_so h
  refine ev_get_i (mm 128 rfl) rfl e66 ?_
  obtain ⟨M67, e68, h⟩ := bind_so h
  refine ev_put_i (mm 129 rfl) (fun z => by cases z) rfl e68 ?_
  refine ev_aload_nR (mm 130 rfl) l0 ?_
  refine ev_iload_n (mm 131 rfl) l3 ?_
  refine ev_iconst (mm 132 rfl) cI_m1 ?_
  rcases ite_so h with ⟨c69, h⟩ | ⟨c69, h⟩
  · refine ev_ic_t 255 (mm 133 rfl) rfl c69 ?_
    refine ev_iconst (mm 136 rfl) cI_1 ?_
    exact f146_j256_ok hF146 hF147 hF148 hO136 hO137 hO139 hO140 hO141 hO143 hO144 hO145 l3 l4 h
  · refine ev_ic_f 255 (mm 133 rfl) rfl c69 ?_
    refine ev_iconst (mm 134 rfl) cI_2 ?_
    refine ev_goto 256 (mm 135 rfl) rfl ?_
    exact f146_j256_ok hF146 hF147 hF148 hO136 hO137 hO139 hO140 hO141 hO143 hO144 hO145 l3 l4 h
def f146_j99 (F146 : Nat → vm_M → Option (Int32 × vm_M)) (F147 : Nat → vm_M → Option (Int32 × vm_M)) (F148 : Nat → vm_M → Option (Int32 × vm_M)) (x0 : Nat) (M : vm_M) : Option (Int32 × vm_M) :=
  (s_ob M x0 11).bind fun _ =>
  (f137 x0 M).bind fun p11 =>
  if (lg_cmp p11.1 7170414) = 0 then
    f146_j120 F146 F147 F148 x0 p11.1 p11.2
  else
    if ¬ (lg_cmp p11.1 7168376) = 0 then
      (f141 p11.1 p11.2).bind fun p56 =>
      (s_ob p56.2 x0 11).bind fun _ =>
      (f143 x0 p11.1 p56.2).bind fun p60 =>
      if ¬ p56.1 = (-1) then
        f146_j237 F146 F147 F148 x0 p56.1 p60.1 p60.2
      else
        if ¬ p60.1 = (-1) then
          f146_j237 F146 F147 F148 x0 p56.1 p60.1 p60.2
        else
          s_rb 0 p60.2
    else
      f146_j120 F146 F147 F148 x0 p11.1 p11.2
theorem f146_j99_ok {O : Nat → List Value → vm_M → vm_R → Prop} {x0 : Nat} {M : vm_M} {F146 : Nat → vm_M → Option (Int32 × vm_M)} {F147 : Nat → vm_M → Option (Int32 × vm_M)} {F148 : Nat → vm_M → Option (Int32 × vm_M)} {r : Int32 × vm_M} (hF146 : ∀ {a0 : Nat} {M : vm_M} {r : Int32 × vm_M}, F146 a0 M = some r → O 146 [.ref (a0)] M (rI r)) (hF147 : ∀ {a0 : Nat} {M : vm_M} {r : Int32 × vm_M}, F147 a0 M = some r → O 147 [.ref (a0)] M (rI r)) (hF148 : ∀ {a0 : Nat} {M : vm_M} {r : Int32 × vm_M}, F148 a0 M = some r → O 148 [.ref (a0)] M (rI r)) (hO136 : ∀ {a0 : Nat} {M : vm_M} {r : vm_M}, f136 a0 M = some r → O 136 [.ref (a0)] M (rV r)) (hO137 : ∀ {a0 : Nat} {M : vm_M} {r : Int64 × vm_M}, f137 a0 M = some r → O 137 [.ref (a0)] M (rJ r)) (hO139 : ∀ {a0 : Nat} {a1 : Int32} {M : vm_M} {r : Int32 × vm_M}, f139 a0 a1 M = some r → O 139 [.ref (a0), .int (a1)] M (rI r)) (hO140 : ∀ {a0 : Nat} {a1 : Int32} {M : vm_M} {r : Int32 × vm_M}, f140 a0 a1 M = some r → O 140 [.ref (a0), .int (a1)] M (rI r)) (hO141 : ∀ {a0 : Int64} {M : vm_M} {r : Int32 × vm_M}, f141 a0 M = some r → O 141 [.long (a0)] M (rI r)) (hO143 : ∀ {a0 : Nat} {a1 : Int64} {M : vm_M} {r : Int32 × vm_M}, f143 a0 a1 M = some r → O 143 [.ref (a0), .long (a1)] M (rI r)) (hO144 : ∀ {a0 : Nat} {a1 : Int32} {a2 : Int32} {M : vm_M} {r : vm_M}, f144 a0 a1 a2 M = some r → O 144 [.ref (a0), .int (a1), .int (a2)] M (rV r)) (hO145 : ∀ {a0 : Nat} {M : vm_M} {r : Int32 × vm_M}, f145 a0 M = some r → O 145 [.ref (a0)] M (rI r)) {lv : vm_L} (l0 : (0, .ref (x0)) ∈ lv) (h : f146_j99 F146 F147 F148 x0 M = some r) : Ev 0 (fun _ => 0) O vp_146 11 5 false (some (.boolean)) (rI r) 99 lv [] M := by
  unfold f146_j99 at h
  refine ev_aload_nR (mm 53 rfl) l0 ?_
  obtain ⟨_, e79, h⟩ := bind_so h
  obtain ⟨p11, e12, h⟩ := bind_so h
  refine ev_callV_J [] (mm 54 rfl) rfl rfl (Nat.le_of_ble_eq_true rfl) (s_ob_of e79) (hO137 e12) ?_
  refine evs_lstore_n (mm 55 rfl) (by decide) (fun lv13 l1 s14 => ?_)
  have l0 := s14 _ _ l0 rfl
  refine ev_lload_n (mm 56 rfl) l1 ?_
  refine ev_ldc2_w (mm 57 rfl) cJ_7170414 ?_
  refine ev_lcmp (mm 58 rfl) ?_
  rcases ite_so h with ⟨c15, h⟩ | ⟨c15, h⟩
  · refine ev_if_t 120 (mm 59 rfl) rfl c15 ?_
    exact f146_j120_ok hF146 hF147 hF148 hO136 hO137 hO139 hO140 hO141 hO143 hO144 hO145 l0 l1 h
  · refine ev_if_f 120 (mm 59 rfl) rfl c15 ?_
    refine ev_lload_n (mm 60 rfl) l1 ?_
    refine ev_ldc2_w (mm 61 rfl) cJ_7168376 ?_
    refine ev_lcmp (mm 62 rfl) ?_
    rcases ite_so h with ⟨c55, h⟩ | ⟨c55, h⟩
    · refine ev_if_t 212 (mm 63 rfl) rfl c55 ?_
      refine ev_lload_n (mm 111 rfl) l1 ?_
      obtain ⟨p56, e57, h⟩ := bind_so h
      refine ev_callS_I [.long (p11.1)] (mm 112 rfl) (by decide) rfl rfl (Nat.le_of_ble_eq_true rfl) (hO141 e57) ?_
      refine evs_istore_n (mm 113 rfl) (by decide) (fun lv58 l3 s59 => ?_)
      have l0 := s59 _ _ l0 rfl
      have l1 := s59 _ _ l1 rfl
      refine ev_aload_nR (mm 114 rfl) l0 ?_
      refine ev_lload_n (mm 115 rfl) l1 ?_
      obtain ⟨_, e78, h⟩ := bind_so h
      obtain ⟨p60, e61, h⟩ := bind_so h
      refine ev_callV_I [.long (p11.1)] (mm 116 rfl) rfl rfl (Nat.le_of_ble_eq_true rfl) (s_ob_of e78) (hO143 e61) ?_
      refine evs_istore (mm 117 rfl) (by decide) (fun lv62 l4 s63 => ?_)
      have l0 := s63 _ _ l0 rfl
      have l3 := s63 _ _ l3 rfl
      refine ev_iload_n (mm 118 rfl) l3 ?_
      refine ev_iconst (mm 119 rfl) cI_m1 ?_
      rcases ite_so h with ⟨c64, h⟩ | ⟨c64, h⟩
      · refine ev_ic_t 237 (mm 120 rfl) rfl c64 ?_
        exact f146_j237_ok hF146 hF147 hF148 hO136 hO137 hO139 hO140 hO141 hO143 hO144 hO145 l0 l3 l4 h
      · refine ev_ic_f 237 (mm 120 rfl) rfl c64 ?_
        refine ev_iload (mm 121 rfl) l4 ?_
        refine ev_iconst (mm 122 rfl) cI_m1 ?_
        rcases ite_so h with ⟨c77, h⟩ | ⟨c77, h⟩
        · refine ev_ic_t 237 (mm 123 rfl) rfl c77 ?_
          exact f146_j237_ok hF146 hF147 hF148 hO136 hO137 hO139 hO140 hO141 hO143 hO144 hO145 l0 l3 l4 h
        · refine ev_ic_f 237 (mm 123 rfl) rfl c77 ?_
          refine ev_iconst (mm 124 rfl) cI_0 ?_
          exact ev_zreturn (mm 125 rfl) h
    · refine ev_if_f 212 (mm 63 rfl) rfl c55 ?_
      exact f146_j120_ok hF146 hF147 hF148 hO136 hO137 hO139 hO140 hO141 hO143 hO144 hO145 l0 l1 h
/-- PupilCoinModel.atom()Z -/
def f146g (F146 : Nat → vm_M → Option (Int32 × vm_M)) (F147 : Nat → vm_M → Option (Int32 × vm_M)) (F148 : Nat → vm_M → Option (Int32 × vm_M)) (x0 : Nat) (M : vm_M) : Option (Int32 × vm_M) :=
  (s_ob M x0 11).bind fun _ =>
  (f140 x0 9999999 M).bind fun p1 =>
  if p1.1 = 0 then
    (s_ob p1.2 x0 11).bind fun _ =>
    (f136 x0 p1.2).bind fun p4 =>
    (sg_i p4 x0 11 21).bind fun v6 =>
    (sg_i p4 x0 11 20).bind fun v8 =>
    if v8 ≤ v6 then
      f146_j99 F146 F147 F148 x0 p4
    else
      (sg_r p4 x0 11 41).bind fun v80 =>
      (sg_i p4 x0 11 21).bind fun v82 =>
      (v80).bind fun q84 =>
      (sa_i p4 q84 3 v82).bind fun v86 =>
      if ¬ v86 = 40 then
        f146_j99 F146 F147 F148 x0 p4
      else
        (s_ob p4 x0 11).bind fun _ =>
        (f145 x0 p4).bind fun p89 =>
        if ¬ p89.1 = 0 then
          (sg_i p89.2 x0 11 21).bind fun v92 =>
          (sp_i p89.2 x0 11 21 (v92 + 1)).bind fun M94 =>
          (s_ob M94 x0 11).bind fun _ =>
          (F148 x0 M94).bind fun p96 =>
          if p96.1 = 0 then
            s_rb 0 p96.2
          else
            (s_ob p96.2 x0 11).bind fun _ =>
            (f139 x0 41 p96.2).bind fun p99 =>
            if ¬ p99.1 = 0 then
              (sg_i p99.2 x0 11 22).bind fun v102 =>
              (sp_i p99.2 x0 11 22 (v102 - 1)).bind fun M104 =>
              s_rb 1 M104
            else
              s_rb 0 p99.2
        else
          s_rb 0 p89.2
  else
    (sg_i p1.2 x0 11 43).bind fun v110 =>
    (s_ob p1.2 x0 11).bind fun _ =>
    (f144 x0 0 v110 p1.2).bind fun p112 =>
    s_rb 1 p112
theorem f146g_ok {O : Nat → List Value → vm_M → vm_R → Prop} {x0 : Nat} {M : vm_M} {F146 : Nat → vm_M → Option (Int32 × vm_M)} {F147 : Nat → vm_M → Option (Int32 × vm_M)} {F148 : Nat → vm_M → Option (Int32 × vm_M)} {r : Int32 × vm_M} (hF146 : ∀ {a0 : Nat} {M : vm_M} {r : Int32 × vm_M}, F146 a0 M = some r → O 146 [.ref (a0)] M (rI r)) (hF147 : ∀ {a0 : Nat} {M : vm_M} {r : Int32 × vm_M}, F147 a0 M = some r → O 147 [.ref (a0)] M (rI r)) (hF148 : ∀ {a0 : Nat} {M : vm_M} {r : Int32 × vm_M}, F148 a0 M = some r → O 148 [.ref (a0)] M (rI r)) (hO136 : ∀ {a0 : Nat} {M : vm_M} {r : vm_M}, f136 a0 M = some r → O 136 [.ref (a0)] M (rV r)) (hO137 : ∀ {a0 : Nat} {M : vm_M} {r : Int64 × vm_M}, f137 a0 M = some r → O 137 [.ref (a0)] M (rJ r)) (hO139 : ∀ {a0 : Nat} {a1 : Int32} {M : vm_M} {r : Int32 × vm_M}, f139 a0 a1 M = some r → O 139 [.ref (a0), .int (a1)] M (rI r)) (hO140 : ∀ {a0 : Nat} {a1 : Int32} {M : vm_M} {r : Int32 × vm_M}, f140 a0 a1 M = some r → O 140 [.ref (a0), .int (a1)] M (rI r)) (hO141 : ∀ {a0 : Int64} {M : vm_M} {r : Int32 × vm_M}, f141 a0 M = some r → O 141 [.long (a0)] M (rI r)) (hO143 : ∀ {a0 : Nat} {a1 : Int64} {M : vm_M} {r : Int32 × vm_M}, f143 a0 a1 M = some r → O 143 [.ref (a0), .long (a1)] M (rI r)) (hO144 : ∀ {a0 : Nat} {a1 : Int32} {a2 : Int32} {M : vm_M} {r : vm_M}, f144 a0 a1 a2 M = some r → O 144 [.ref (a0), .int (a1), .int (a2)] M (rV r)) (hO145 : ∀ {a0 : Nat} {M : vm_M} {r : Int32 × vm_M}, f145 a0 M = some r → O 145 [.ref (a0)] M (rI r)) (h : f146g F146 F147 F148 x0 M = some r) : Ev 0 (fun _ => 0) O vp_146 11 5 false (some (.boolean)) (rI r) 0 (lv_args 0 [.ref (x0)]) [] M := by
  have l0 : (0, .ref (x0)) ∈ lv_args 0 [.ref (x0)] := List.Mem.head _
  unfold f146g at h
  refine ev_aload_nR (mm 0 rfl) l0 ?_
  refine ev_ldc_w (mm 1 rfl) cI_9999999 ?_
  obtain ⟨_, e115, h⟩ := bind_so h
  obtain ⟨p1, e2, h⟩ := bind_so h
  refine ev_callV_I [.int (9999999)] (mm 2 rfl) rfl rfl (Nat.le_of_ble_eq_true rfl) (s_ob_of e115) (hO140 e2) ?_
  rcases ite_so h with ⟨c3, h⟩ | ⟨c3, h⟩
  · refine ev_if_t 21 (mm 3 rfl) rfl c3 ?_
    refine ev_aload_nR (mm 11 rfl) l0 ?_
    obtain ⟨_, e109, h⟩ := bind_so h
    obtain ⟨p4, e5, h⟩ := bind_so h
    refine ev_callV_V [] (mm 12 rfl) rfl rfl (Nat.le_of_ble_eq_true rfl) (s_ob_of e109) (hO136 e5) ?_
    refine ev_aload_nR (mm 13 rfl) l0 ?_
    obtain ⟨v6, e7, h⟩ := bind_so h
    refine ev_get_i (mm 14 rfl) rfl e7 ?_
    refine ev_aload_nR (mm 15 rfl) l0 ?_
    obtain ⟨v8, e9, h⟩ := bind_so h
    refine ev_get_i (mm 16 rfl) rfl e9 ?_
    rcases ite_so h with ⟨c10, h⟩ | ⟨c10, h⟩
    · refine ev_ic_t 99 (mm 17 rfl) rfl c10 ?_
      exact f146_j99_ok hF146 hF147 hF148 hO136 hO137 hO139 hO140 hO141 hO143 hO144 hO145 l0 h
    · refine ev_ic_f 99 (mm 17 rfl) rfl c10 ?_
      refine ev_aload_nR (mm 18 rfl) l0 ?_
      obtain ⟨v80, e81, h⟩ := bind_so h
      refine ev_get_r (mm 19 rfl) rfl e81 ?_
      refine ev_aload_nR (mm 20 rfl) l0 ?_
      obtain ⟨v82, e83, h⟩ := bind_so h
      refine ev_get_i (mm 21 rfl) rfl e83 ?_
      obtain ⟨q84, e85, h⟩ := bind_so h
      rw [e85]
      obtain ⟨v86, e87, h⟩ := bind_so h
      refine ev_baload (mm 22 rfl) e87 ?_
      refine ev_bipush (mm 23 rfl) cB_40 ?_
      rcases ite_so h with ⟨c88, h⟩ | ⟨c88, h⟩
      · refine ev_ic_t 99 (mm 24 rfl) rfl c88 ?_
        exact f146_j99_ok hF146 hF147 hF148 hO136 hO137 hO139 hO140 hO141 hO143 hO144 hO145 l0 h
      · refine ev_ic_f 99 (mm 24 rfl) rfl c88 ?_
        refine ev_aload_nR (mm 25 rfl) l0 ?_
        obtain ⟨_, e108, h⟩ := bind_so h
        obtain ⟨p89, e90, h⟩ := bind_so h
        refine ev_callV_I [] (mm 26 rfl) rfl rfl (Nat.le_of_ble_eq_true rfl) (s_ob_of e108) (hO145 e90) ?_
        rcases ite_so h with ⟨c91, h⟩ | ⟨c91, h⟩
        · refine ev_if_t 59 (mm 27 rfl) rfl c91 ?_
          refine ev_aload_nR (mm 30 rfl) l0 ?_
          refine ev_dupR (mm 31 rfl) ?_
          obtain ⟨v92, e93, h⟩ := bind_so h
          refine ev_get_i (mm 32 rfl) rfl e93 ?_
          refine ev_iconst (mm 33 rfl) cI_1 ?_
          refine ev_iadd (mm 34 rfl) ?_
          obtain ⟨M94, e95, h⟩ := bind_so h
          refine ev_put_i (mm 35 rfl) (fun z => by cases z) rfl e95 ?_
          refine ev_aload_nR (mm 36 rfl) l0 ?_
          obtain ⟨_, e107, h⟩ := bind_so h
          obtain ⟨p96, e97, h⟩ := bind_so h
          refine ev_callV_I [] (mm 37 rfl) rfl rfl (Nat.le_of_ble_eq_true rfl) (s_ob_of e107) (hF148 e97) ?_
          rcases ite_so h with ⟨c98, h⟩ | ⟨c98, h⟩
          · refine ev_if_t 85 (mm 38 rfl) rfl c98 ?_
            refine ev_iconst (mm 43 rfl) cI_0 ?_
            exact ev_zreturn (mm 44 rfl) h
          · refine ev_if_f 85 (mm 38 rfl) rfl c98 ?_
            refine ev_aload_nR (mm 39 rfl) l0 ?_
            refine ev_bipush (mm 40 rfl) cB_41 ?_
            obtain ⟨_, e106, h⟩ := bind_so h
            obtain ⟨p99, e100, h⟩ := bind_so h
            refine ev_callV_I [.int (41)] (mm 41 rfl) rfl rfl (Nat.le_of_ble_eq_true rfl) (s_ob_of e106) (hO139 e100) ?_
            rcases ite_so h with ⟨c101, h⟩ | ⟨c101, h⟩
            · refine ev_if_t 87 (mm 42 rfl) rfl c101 ?_
              refine ev_aload_nR (mm 45 rfl) l0 ?_
              refine ev_dupR (mm 46 rfl) ?_
              obtain ⟨v102, e103, h⟩ := bind_so h
              refine ev_get_i (mm 47 rfl) rfl e103 ?_
              refine ev_iconst (mm 48 rfl) cI_1 ?_
              refine ev_isub (mm 49 rfl) ?_
              obtain ⟨M104, e105, h⟩ := bind_so h
              refine ev_put_i (mm 50 rfl) (fun z => by cases z) rfl e105 ?_
              refine ev_iconst (mm 51 rfl) cI_1 ?_
              exact ev_zreturn (mm 52 rfl) h
            · refine ev_if_f 87 (mm 42 rfl) rfl c101 ?_
              refine ev_iconst (mm 43 rfl) cI_0 ?_
              exact ev_zreturn (mm 44 rfl) h
        · refine ev_if_f 59 (mm 27 rfl) rfl c91 ?_
          refine ev_iconst (mm 28 rfl) cI_0 ?_
          exact ev_zreturn (mm 29 rfl) h
  · refine ev_if_f 21 (mm 3 rfl) rfl c3 ?_
    refine ev_aload_nR (mm 4 rfl) l0 ?_
    refine ev_iconst (mm 5 rfl) cI_0 ?_
    refine ev_aload_nR (mm 6 rfl) l0 ?_
    obtain ⟨v110, e111, h⟩ := bind_so h
    refine ev_get_i (mm 7 rfl) rfl e111 ?_
    obtain ⟨_, e114, h⟩ := bind_so h
    obtain ⟨p112, e113, h⟩ := bind_so h
    refine ev_callV_V [.int (0), .int (v110)] (mm 8 rfl) rfl rfl (Nat.le_of_ble_eq_true rfl) (s_ob_of e114) (hO144 e113) ?_
    refine ev_iconst (mm 9 rfl) cI_1 ?_
    exact ev_zreturn (mm 10 rfl) h
def f147_j37 (F146 : Nat → vm_M → Option (Int32 × vm_M)) (F147 : Nat → vm_M → Option (Int32 × vm_M)) (F148 : Nat → vm_M → Option (Int32 × vm_M)) (k9 : vm_M → Option (Int32 × vm_M)) (x0 : Nat) (s0 : Int32) (M : vm_M) : Option (Int32 × vm_M) :=
  if ¬ s0 = (-1) then
    (s_ob M x0 11).bind fun _ =>
    (F146 x0 M).bind fun p13 =>
    if ¬ p13.1 = 0 then
      (s_ob p13.2 x0 11).bind fun _ =>
      (f144 x0 s0 0 p13.2).bind fun p16 =>
      k9 p16
    else
      s_rb 0 p13.2
  else
    s_rb 1 M
theorem f147_j37_ok {O : Nat → List Value → vm_M → vm_R → Prop} {x0 : Nat} {s0 : Int32} {M : vm_M} {k9 : vm_M → Option (Int32 × vm_M)} {F146 : Nat → vm_M → Option (Int32 × vm_M)} {F147 : Nat → vm_M → Option (Int32 × vm_M)} {F148 : Nat → vm_M → Option (Int32 × vm_M)} {r : Int32 × vm_M} (hF146 : ∀ {a0 : Nat} {M : vm_M} {r : Int32 × vm_M}, F146 a0 M = some r → O 146 [.ref (a0)] M (rI r)) (hF147 : ∀ {a0 : Nat} {M : vm_M} {r : Int32 × vm_M}, F147 a0 M = some r → O 147 [.ref (a0)] M (rI r)) (hF148 : ∀ {a0 : Nat} {M : vm_M} {r : Int32 × vm_M}, F148 a0 M = some r → O 148 [.ref (a0)] M (rI r)) (hO136 : ∀ {a0 : Nat} {M : vm_M} {r : vm_M}, f136 a0 M = some r → O 136 [.ref (a0)] M (rV r)) (hO137 : ∀ {a0 : Nat} {M : vm_M} {r : Int64 × vm_M}, f137 a0 M = some r → O 137 [.ref (a0)] M (rJ r)) (hO139 : ∀ {a0 : Nat} {a1 : Int32} {M : vm_M} {r : Int32 × vm_M}, f139 a0 a1 M = some r → O 139 [.ref (a0), .int (a1)] M (rI r)) (hO140 : ∀ {a0 : Nat} {a1 : Int32} {M : vm_M} {r : Int32 × vm_M}, f140 a0 a1 M = some r → O 140 [.ref (a0), .int (a1)] M (rI r)) (hO141 : ∀ {a0 : Int64} {M : vm_M} {r : Int32 × vm_M}, f141 a0 M = some r → O 141 [.long (a0)] M (rI r)) (hO143 : ∀ {a0 : Nat} {a1 : Int64} {M : vm_M} {r : Int32 × vm_M}, f143 a0 a1 M = some r → O 143 [.ref (a0), .long (a1)] M (rI r)) (hO144 : ∀ {a0 : Nat} {a1 : Int32} {a2 : Int32} {M : vm_M} {r : vm_M}, f144 a0 a1 a2 M = some r → O 144 [.ref (a0), .int (a1), .int (a2)] M (rV r)) (hO145 : ∀ {a0 : Nat} {M : vm_M} {r : Int32 × vm_M}, f145 a0 M = some r → O 145 [.ref (a0)] M (rI r)) (hk9 : ∀ {M : vm_M} {lv : vm_L}, (0, .ref (x0)) ∈ lv → k9 M = some r → Ev 0 (fun _ => 0) O vp_147 11 2 false (some (.boolean)) (rI r) 9 lv [] M) {lv : vm_L} (l0 : (0, .ref (x0)) ∈ lv) (h : f147_j37 F146 F147 F148 k9 x0 s0 M = some r) : Ev 0 (fun _ => 0) O vp_147 11 2 false (some (.boolean)) (rI r) 37 lv [.int (s0)] M := by
  unfold f147_j37 at h
  refine evs_istore_n (mm 18 rfl) (by decide) (fun lv10 l1 s11 => ?_)
  have l0 := s11 _ _ l0 rfl
  refine ev_iload_n (mm 19 rfl) l1 ?_
  refine ev_iconst (mm 20 rfl) cI_m1 ?_
  rcases ite_so h with ⟨c12, h⟩ | ⟨c12, h⟩
  · refine ev_ic_t 45 (mm 21 rfl) rfl c12 ?_
    refine ev_aload_nR (mm 24 rfl) l0 ?_
    obtain ⟨_, e19, h⟩ := bind_so h
    obtain ⟨p13, e14, h⟩ := bind_so h
    refine ev_callV_I [] (mm 25 rfl) rfl rfl (Nat.le_of_ble_eq_true rfl) (s_ob_of e19) (hF146 e14) ?_
    rcases ite_so h with ⟨c15, h⟩ | ⟨c15, h⟩
    · refine ev_if_t 54 (mm 26 rfl) rfl c15 ?_
      refine ev_aload_nR (mm 29 rfl) l0 ?_
      refine ev_iload_n (mm 30 rfl) l1 ?_
      refine ev_iconst (mm 31 rfl) cI_0 ?_
      obtain ⟨_, e18, h⟩ := bind_so h
      obtain ⟨p16, e17, h⟩ := bind_so h
      refine ev_callV_V [.int (s0), .int (0)] (mm 32 rfl) rfl rfl (Nat.le_of_ble_eq_true rfl) (s_ob_of e18) (hO144 e17) ?_
      refine ev_goto 9 (mm 33 rfl) rfl ?_
      exact hk9 l0 h
    · refine ev_if_f 54 (mm 26 rfl) rfl c15 ?_
      refine ev_iconst (mm 27 rfl) cI_0 ?_
      exact ev_zreturn (mm 28 rfl) h
  · refine ev_ic_f 45 (mm 21 rfl) rfl c12 ?_
    refine ev_iconst (mm 22 rfl) cI_1 ?_
    exact ev_zreturn (mm 23 rfl) h
def f147_l9 (F146 : Nat → vm_M → Option (Int32 × vm_M)) (F147 : Nat → vm_M → Option (Int32 × vm_M)) (F148 : Nat → vm_M → Option (Int32 × vm_M)) (x0 : Nat) : Nat → vm_M → Option (Int32 × vm_M)
  | 0 => fun _ => none
  | n + 1 => fun M =>
    (s_ob M x0 11).bind fun _ =>
    (f139 x0 42 M).bind fun p4 =>
    if p4.1 = 0 then
      (s_ob p4.2 x0 11).bind fun _ =>
      (f139 x0 47 p4.2).bind fun p7 =>
      if p7.1 = 0 then
        f147_j37 F146 F147 F148 (f147_l9 F146 F147 F148 x0 n) x0 (-1) p7.2
      else
        f147_j37 F146 F147 F148 (f147_l9 F146 F147 F148 x0 n) x0 6 p7.2
    else
      f147_j37 F146 F147 F148 (f147_l9 F146 F147 F148 x0 n) x0 5 p4.2
theorem f147_l9_ok {O : Nat → List Value → vm_M → vm_R → Prop} {x0 : Nat} {F146 : Nat → vm_M → Option (Int32 × vm_M)} {F147 : Nat → vm_M → Option (Int32 × vm_M)} {F148 : Nat → vm_M → Option (Int32 × vm_M)} {r : Int32 × vm_M} (hF146 : ∀ {a0 : Nat} {M : vm_M} {r : Int32 × vm_M}, F146 a0 M = some r → O 146 [.ref (a0)] M (rI r)) (hF147 : ∀ {a0 : Nat} {M : vm_M} {r : Int32 × vm_M}, F147 a0 M = some r → O 147 [.ref (a0)] M (rI r)) (hF148 : ∀ {a0 : Nat} {M : vm_M} {r : Int32 × vm_M}, F148 a0 M = some r → O 148 [.ref (a0)] M (rI r)) (hO136 : ∀ {a0 : Nat} {M : vm_M} {r : vm_M}, f136 a0 M = some r → O 136 [.ref (a0)] M (rV r)) (hO137 : ∀ {a0 : Nat} {M : vm_M} {r : Int64 × vm_M}, f137 a0 M = some r → O 137 [.ref (a0)] M (rJ r)) (hO139 : ∀ {a0 : Nat} {a1 : Int32} {M : vm_M} {r : Int32 × vm_M}, f139 a0 a1 M = some r → O 139 [.ref (a0), .int (a1)] M (rI r)) (hO140 : ∀ {a0 : Nat} {a1 : Int32} {M : vm_M} {r : Int32 × vm_M}, f140 a0 a1 M = some r → O 140 [.ref (a0), .int (a1)] M (rI r)) (hO141 : ∀ {a0 : Int64} {M : vm_M} {r : Int32 × vm_M}, f141 a0 M = some r → O 141 [.long (a0)] M (rI r)) (hO143 : ∀ {a0 : Nat} {a1 : Int64} {M : vm_M} {r : Int32 × vm_M}, f143 a0 a1 M = some r → O 143 [.ref (a0), .long (a1)] M (rI r)) (hO144 : ∀ {a0 : Nat} {a1 : Int32} {a2 : Int32} {M : vm_M} {r : vm_M}, f144 a0 a1 a2 M = some r → O 144 [.ref (a0), .int (a1), .int (a2)] M (rV r)) (hO145 : ∀ {a0 : Nat} {M : vm_M} {r : Int32 × vm_M}, f145 a0 M = some r → O 145 [.ref (a0)] M (rI r)) : ∀ (n : Nat) {M : vm_M} {lv : vm_L}, (0, .ref (x0)) ∈ lv → f147_l9 F146 F147 F148 x0 n M = some r → Ev 0 (fun _ => 0) O vp_147 11 2 false (some (.boolean)) (rI r) 9 lv [] M := by
  intro n
  induction n with
  | zero =>
    intro M lv l0 h
    cases h
  | succ n ih =>
    intro M lv l0 h
    dsimp only [f147_l9] at h
    refine ev_aload_nR (mm 5 rfl) l0 ?_
    refine ev_bipush (mm 6 rfl) cB_42 ?_
    obtain ⟨_, e21, h⟩ := bind_so h
    obtain ⟨p4, e5, h⟩ := bind_so h
    refine ev_callV_I [.int (42)] (mm 7 rfl) rfl rfl (Nat.le_of_ble_eq_true rfl) (s_ob_of e21) (hO139 e5) ?_
    rcases ite_so h with ⟨c6, h⟩ | ⟨c6, h⟩
    · refine ev_if_t 22 (mm 8 rfl) rfl c6 ?_
      refine ev_aload_nR (mm 11 rfl) l0 ?_
      refine ev_bipush (mm 12 rfl) cB_47 ?_
      obtain ⟨_, e20, h⟩ := bind_so h
      obtain ⟨p7, e8, h⟩ := bind_so h
      refine ev_callV_I [.int (47)] (mm 13 rfl) rfl rfl (Nat.le_of_ble_eq_true rfl) (s_ob_of e20) (hO139 e8) ?_
      rcases ite_so h with ⟨c9, h⟩ | ⟨c9, h⟩
      · refine ev_if_t 36 (mm 14 rfl) rfl c9 ?_
        refine ev_iconst (mm 17 rfl) cI_m1 ?_
        exact f147_j37_ok hF146 hF147 hF148 hO136 hO137 hO139 hO140 hO141 hO143 hO144 hO145 ih l0 h
      · refine ev_if_f 36 (mm 14 rfl) rfl c9 ?_
        refine ev_bipush (mm 15 rfl) cB_6 ?_
        refine ev_goto 37 (mm 16 rfl) rfl ?_
        exact f147_j37_ok hF146 hF147 hF148 hO136 hO137 hO139 hO140 hO141 hO143 hO144 hO145 ih l0 h
    · refine ev_if_f 22 (mm 8 rfl) rfl c6 ?_
      refine ev_iconst (mm 9 rfl) cI_5 ?_
      refine ev_goto 37 (mm 10 rfl) rfl ?_
      exact f147_j37_ok hF146 hF147 hF148 hO136 hO137 hO139 hO140 hO141 hO143 hO144 hO145 ih l0 h
/-- PupilCoinModel.product()Z -/
def f147g (F146 : Nat → vm_M → Option (Int32 × vm_M)) (F147 : Nat → vm_M → Option (Int32 × vm_M)) (F148 : Nat → vm_M → Option (Int32 × vm_M)) (x0 : Nat) (M : vm_M) : Option (Int32 × vm_M) :=
  (s_ob M x0 11).bind fun _ =>
  (F146 x0 M).bind fun p1 =>
  if ¬ p1.1 = 0 then
    f147_l9 F146 F147 F148 x0
    
      100000  p1.2
  else
    s_rb 0 p1.2
theorem f147g_ok {O : Nat → List Value → vm_M → vm_R → Prop} {x0 : Nat} {M : vm_M} {F146 : Nat → vm_M → Option (Int32 × vm_M)} {F147 : Nat → vm_M → Option (Int32 × vm_M)} {F148 : Nat → vm_M → Option (Int32 × vm_M)} {r : Int32 × vm_M} (hF146 : ∀ {a0 : Nat} {M : vm_M} {r : Int32 × vm_M}, F146 a0 M = some r → O 146 [.ref (a0)] M (rI r)) (hF147 : ∀ {a0 : Nat} {M : vm_M} {r : Int32 × vm_M}, F147 a0 M = some r → O 147 [.ref (a0)] M (rI r)) (hF148 : ∀ {a0 : Nat} {M : vm_M} {r : Int32 × vm_M}, F148 a0 M = some r → O 148 [.ref (a0)] M (rI r)) (hO136 : ∀ {a0 : Nat} {M : vm_M} {r : vm_M}, f136 a0 M = some r → O 136 [.ref (a0)] M (rV r)) (hO137 : ∀ {a0 : Nat} {M : vm_M} {r : Int64 × vm_M}, f137 a0 M = some r → O 137 [.ref (a0)] M (rJ r)) (hO139 : ∀ {a0 : Nat} {a1 : Int32} {M : vm_M} {r : Int32 × vm_M}, f139 a0 a1 M = some r → O 139 [.ref (a0), .int (a1)] M (rI r)) (hO140 : ∀ {a0 : Nat} {a1 : Int32} {M : vm_M} {r : Int32 × vm_M}, f140 a0 a1 M = some r → O 140 [.ref (a0), .int (a1)] M (rI r)) (hO141 : ∀ {a0 : Int64} {M : vm_M} {r : Int32 × vm_M}, f141 a0 M = some r → O 141 [.long (a0)] M (rI r)) (hO143 : ∀ {a0 : Nat} {a1 : Int64} {M : vm_M} {r : Int32 × vm_M}, f143 a0 a1 M = some r → O 143 [.ref (a0), .long (a1)] M (rI r)) (hO144 : ∀ {a0 : Nat} {a1 : Int32} {a2 : Int32} {M : vm_M} {r : vm_M}, f144 a0 a1 a2 M = some r → O 144 [.ref (a0), .int (a1), .int (a2)] M (rV r)) (hO145 : ∀ {a0 : Nat} {M : vm_M} {r : Int32 × vm_M}, f145 a0 M = some r → O 145 [.ref (a0)] M (rI r)) (h : f147g F146 F147 F148 x0 M = some r) : Ev 0 (fun _ => 0) O vp_147 11 2 false (some (.boolean)) (rI r) 0 (lv_args 0 [.ref (x0)]) [] M := by
  have l0 : (0, .ref (x0)) ∈ lv_args 0 [.ref (x0)] := List.Mem.head _
  unfold f147g at h
  refine ev_aload_nR (mm 0 rfl) l0 ?_
  obtain ⟨_, e22, h⟩ := bind_so h
  obtain ⟨p1, e2, h⟩ := bind_so h
  refine ev_callV_I [] (mm 1 rfl) rfl rfl (Nat.le_of_ble_eq_true rfl) (s_ob_of e22) (hF146 e2) ?_
  rcases ite_so h with ⟨c3, h⟩ | ⟨c3, h⟩
  · refine ev_if_t 9 (mm 2 rfl) rfl c3 ?_
    refine f147_l9_ok hF146 hF147 hF148 hO136 hO137 hO139 hO140 hO141 hO143 hO144 hO145 100000 l0 h
  · refine ev_if_f 9 (mm 2 rfl) rfl c3 ?_
    refine ev_iconst (mm 3 rfl) cI_0 ?_
    exact ev_zreturn (mm 4 rfl) h
def f148_j36 (F146 : Nat → vm_M → Option (Int32 × vm_M)) (F147 : Nat → vm_M → Option (Int32 × vm_M)) (F148 : Nat → vm_M → Option (Int32 × vm_M)) (k9 : vm_M → Option (Int32 × vm_M)) (x0 : Nat) (s0 : Int32) (M : vm_M) : Option (Int32 × vm_M) :=
  if ¬ s0 = (-1) then
    (s_ob M x0 11).bind fun _ =>
    (F147 x0 M).bind fun p13 =>
    if ¬ p13.1 = 0 then
      (s_ob p13.2 x0 11).bind fun _ =>
      (f144 x0 s0 0 p13.2).bind fun p16 =>
      k9 p16
    else
      s_rb 0 p13.2
  else
    s_rb 1 M
theorem f148_j36_ok {O : Nat → List Value → vm_M → vm_R → Prop} {x0 : Nat} {s0 : Int32} {M : vm_M} {k9 : vm_M → Option (Int32 × vm_M)} {F146 : Nat → vm_M → Option (Int32 × vm_M)} {F147 : Nat → vm_M → Option (Int32 × vm_M)} {F148 : Nat → vm_M → Option (Int32 × vm_M)} {r : Int32 × vm_M} (hF146 : ∀ {a0 : Nat} {M : vm_M} {r : Int32 × vm_M}, F146 a0 M = some r → O 146 [.ref (a0)] M (rI r)) (hF147 : ∀ {a0 : Nat} {M : vm_M} {r : Int32 × vm_M}, F147 a0 M = some r → O 147 [.ref (a0)] M (rI r)) (hF148 : ∀ {a0 : Nat} {M : vm_M} {r : Int32 × vm_M}, F148 a0 M = some r → O 148 [.ref (a0)] M (rI r)) (hO136 : ∀ {a0 : Nat} {M : vm_M} {r : vm_M}, f136 a0 M = some r → O 136 [.ref (a0)] M (rV r)) (hO137 : ∀ {a0 : Nat} {M : vm_M} {r : Int64 × vm_M}, f137 a0 M = some r → O 137 [.ref (a0)] M (rJ r)) (hO139 : ∀ {a0 : Nat} {a1 : Int32} {M : vm_M} {r : Int32 × vm_M}, f139 a0 a1 M = some r → O 139 [.ref (a0), .int (a1)] M (rI r)) (hO140 : ∀ {a0 : Nat} {a1 : Int32} {M : vm_M} {r : Int32 × vm_M}, f140 a0 a1 M = some r → O 140 [.ref (a0), .int (a1)] M (rI r)) (hO141 : ∀ {a0 : Int64} {M : vm_M} {r : Int32 × vm_M}, f141 a0 M = some r → O 141 [.long (a0)] M (rI r)) (hO143 : ∀ {a0 : Nat} {a1 : Int64} {M : vm_M} {r : Int32 × vm_M}, f143 a0 a1 M = some r → O 143 [.ref (a0), .long (a1)] M (rI r)) (hO144 : ∀ {a0 : Nat} {a1 : Int32} {a2 : Int32} {M : vm_M} {r : vm_M}, f144 a0 a1 a2 M = some r → O 144 [.ref (a0), .int (a1), .int (a2)] M (rV r)) (hO145 : ∀ {a0 : Nat} {M : vm_M} {r : Int32 × vm_M}, f145 a0 M = some r → O 145 [.ref (a0)] M (rI r)) (hk9 : ∀ {M : vm_M} {lv : vm_L}, (0, .ref (x0)) ∈ lv → k9 M = some r → Ev 0 (fun _ => 0) O vp_148 11 2 false (some (.boolean)) (rI r) 9 lv [] M) {lv : vm_L} (l0 : (0, .ref (x0)) ∈ lv) (h : f148_j36 F146 F147 F148 k9 x0 s0 M = some r) : Ev 0 (fun _ => 0) O vp_148 11 2 false (some (.boolean)) (rI r) 36 lv [.int (s0)] M := by
  unfold f148_j36 at h
  refine evs_istore_n (mm 18 rfl) (by decide) (fun lv10 l1 s11 => ?_)
  have l0 := s11 _ _ l0 rfl
  refine ev_iload_n (mm 19 rfl) l1 ?_
  refine ev_iconst (mm 20 rfl) cI_m1 ?_
  rcases ite_so h with ⟨c12, h⟩ | ⟨c12, h⟩
  · refine ev_ic_t 44 (mm 21 rfl) rfl c12 ?_
    refine ev_aload_nR (mm 24 rfl) l0 ?_
    obtain ⟨_, e19, h⟩ := bind_so h
    obtain ⟨p13, e14, h⟩ := bind_so h
    refine ev_callV_I [] (mm 25 rfl) rfl rfl (Nat.le_of_ble_eq_true rfl) (s_ob_of e19) (hF147 e14) ?_
    rcases ite_so h with ⟨c15, h⟩ | ⟨c15, h⟩
    · refine ev_if_t 53 (mm 26 rfl) rfl c15 ?_
      refine ev_aload_nR (mm 29 rfl) l0 ?_
      refine ev_iload_n (mm 30 rfl) l1 ?_
      refine ev_iconst (mm 31 rfl) cI_0 ?_
      obtain ⟨_, e18, h⟩ := bind_so h
      obtain ⟨p16, e17, h⟩ := bind_so h
      refine ev_callV_V [.int (s0), .int (0)] (mm 32 rfl) rfl rfl (Nat.le_of_ble_eq_true rfl) (s_ob_of e18) (hO144 e17) ?_
      refine ev_goto 9 (mm 33 rfl) rfl ?_
      exact hk9 l0 h
    · refine ev_if_f 53 (mm 26 rfl) rfl c15 ?_
      refine ev_iconst (mm 27 rfl) cI_0 ?_
      exact ev_zreturn (mm 28 rfl) h
  · refine ev_ic_f 44 (mm 21 rfl) rfl c12 ?_
    refine ev_iconst (mm 22 rfl) cI_1 ?_
    exact ev_zreturn (mm 23 rfl) h
def f148_l9 (F146 : Nat → vm_M → Option (Int32 × vm_M)) (F147 : Nat → vm_M → Option (Int32 × vm_M)) (F148 : Nat → vm_M → Option (Int32 × vm_M)) (x0 : Nat) : Nat → vm_M → Option (Int32 × vm_M)
  | 0 => fun _ => none
  | n + 1 => fun M =>
    (s_ob M x0 11).bind fun _ =>
    (f139 x0 43 M).bind fun p4 =>
    if p4.1 = 0 then
      (s_ob p4.2 x0 11).bind fun _ =>
      (f139 x0 45 p4.2).bind fun p7 =>
      if p7.1 = 0 then
        f148_j36 F146 F147 F148 (f148_l9 F146 F147 F148 x0 n) x0 (-1) p7.2
      else
        f148_j36 F146 F147 F148 (f148_l9 F146 F147 F148 x0 n) x0 4 p7.2
    else
      f148_j36 F146 F147 F148 (f148_l9 F146 F147 F148 x0 n) x0 3 p4.2
theorem f148_l9_ok {O : Nat → List Value → vm_M → vm_R → Prop} {x0 : Nat} {F146 : Nat → vm_M → Option (Int32 × vm_M)} {F147 : Nat → vm_M → Option (Int32 × vm_M)} {F148 : Nat → vm_M → Option (Int32 × vm_M)} {r : Int32 × vm_M} (hF146 : ∀ {a0 : Nat} {M : vm_M} {r : Int32 × vm_M}, F146 a0 M = some r → O 146 [.ref (a0)] M (rI r)) (hF147 : ∀ {a0 : Nat} {M : vm_M} {r : Int32 × vm_M}, F147 a0 M = some r → O 147 [.ref (a0)] M (rI r)) (hF148 : ∀ {a0 : Nat} {M : vm_M} {r : Int32 × vm_M}, F148 a0 M = some r → O 148 [.ref (a0)] M (rI r)) (hO136 : ∀ {a0 : Nat} {M : vm_M} {r : vm_M}, f136 a0 M = some r → O 136 [.ref (a0)] M (rV r)) (hO137 : ∀ {a0 : Nat} {M : vm_M} {r : Int64 × vm_M}, f137 a0 M = some r → O 137 [.ref (a0)] M (rJ r)) (hO139 : ∀ {a0 : Nat} {a1 : Int32} {M : vm_M} {r : Int32 × vm_M}, f139 a0 a1 M = some r → O 139 [.ref (a0), .int (a1)] M (rI r)) (hO140 : ∀ {a0 : Nat} {a1 : Int32} {M : vm_M} {r : Int32 × vm_M}, f140 a0 a1 M = some r → O 140 [.ref (a0), .int (a1)] M (rI r)) (hO141 : ∀ {a0 : Int64} {M : vm_M} {r : Int32 × vm_M}, f141 a0 M = some r → O 141 [.long (a0)] M (rI r)) (hO143 : ∀ {a0 : Nat} {a1 : Int64} {M : vm_M} {r : Int32 × vm_M}, f143 a0 a1 M = some r → O 143 [.ref (a0), .long (a1)] M (rI r)) (hO144 : ∀ {a0 : Nat} {a1 : Int32} {a2 : Int32} {M : vm_M} {r : vm_M}, f144 a0 a1 a2 M = some r → O 144 [.ref (a0), .int (a1), .int (a2)] M (rV r)) (hO145 : ∀ {a0 : Nat} {M : vm_M} {r : Int32 × vm_M}, f145 a0 M = some r → O 145 [.ref (a0)] M (rI r)) : ∀ (n : Nat) {M : vm_M} {lv : vm_L}, (0, .ref (x0)) ∈ lv → f148_l9 F146 F147 F148 x0 n M = some r → Ev 0 (fun _ => 0) O vp_148 11 2 false (some (.boolean)) (rI r) 9 lv [] M := by
  intro n
  induction n with
  | zero =>
    intro M lv l0 h
    cases h
  | succ n ih =>
    intro M lv l0 h
    dsimp only [f148_l9] at h
    refine ev_aload_nR (mm 5 rfl) l0 ?_
    refine ev_bipush (mm 6 rfl) cB_43 ?_
    obtain ⟨_, e21, h⟩ := bind_so h
    obtain ⟨p4, e5, h⟩ := bind_so h
    refine ev_callV_I [.int (43)] (mm 7 rfl) rfl rfl (Nat.le_of_ble_eq_true rfl) (s_ob_of e21) (hO139 e5) ?_
    rcases ite_so h with ⟨c6, h⟩ | ⟨c6, h⟩
    · refine ev_if_t 22 (mm 8 rfl) rfl c6 ?_
      refine ev_aload_nR (mm 11 rfl) l0 ?_
      refine ev_bipush (mm 12 rfl) cB_45 ?_
      obtain ⟨_, e20, h⟩ := bind_so h
      obtain ⟨p7, e8, h⟩ := bind_so h
      refine ev_callV_I [.int (45)] (mm 13 rfl) rfl rfl (Nat.le_of_ble_eq_true rfl) (s_ob_of e20) (hO139 e8) ?_
      rcases ite_so h with ⟨c9, h⟩ | ⟨c9, h⟩
      · refine ev_if_t 35 (mm 14 rfl) rfl c9 ?_
        refine ev_iconst (mm 17 rfl) cI_m1 ?_
        exact f148_j36_ok hF146 hF147 hF148 hO136 hO137 hO139 hO140 hO141 hO143 hO144 hO145 ih l0 h
      · refine ev_if_f 35 (mm 14 rfl) rfl c9 ?_
        refine ev_iconst (mm 15 rfl) cI_4 ?_
        refine ev_goto 36 (mm 16 rfl) rfl ?_
        exact f148_j36_ok hF146 hF147 hF148 hO136 hO137 hO139 hO140 hO141 hO143 hO144 hO145 ih l0 h
    · refine ev_if_f 22 (mm 8 rfl) rfl c6 ?_
      refine ev_iconst (mm 9 rfl) cI_3 ?_
      refine ev_goto 36 (mm 10 rfl) rfl ?_
      exact f148_j36_ok hF146 hF147 hF148 hO136 hO137 hO139 hO140 hO141 hO143 hO144 hO145 ih l0 h
/-- PupilCoinModel.ex()Z -/
def f148g (F146 : Nat → vm_M → Option (Int32 × vm_M)) (F147 : Nat → vm_M → Option (Int32 × vm_M)) (F148 : Nat → vm_M → Option (Int32 × vm_M)) (x0 : Nat) (M : vm_M) : Option (Int32 × vm_M) :=
  (s_ob M x0 11).bind fun _ =>
  (F147 x0 M).bind fun p1 =>
  if ¬ p1.1 = 0 then
    f148_l9 F146 F147 F148 x0
    
      100000  p1.2
  else
    s_rb 0 p1.2
theorem f148g_ok {O : Nat → List Value → vm_M → vm_R → Prop} {x0 : Nat} {M : vm_M} {F146 : Nat → vm_M → Option (Int32 × vm_M)} {F147 : Nat → vm_M → Option (Int32 × vm_M)} {F148 : Nat → vm_M → Option (Int32 × vm_M)} {r : Int32 × vm_M} (hF146 : ∀ {a0 : Nat} {M : vm_M} {r : Int32 × vm_M}, F146 a0 M = some r → O 146 [.ref (a0)] M (rI r)) (hF147 : ∀ {a0 : Nat} {M : vm_M} {r : Int32 × vm_M}, F147 a0 M = some r → O 147 [.ref (a0)] M (rI r)) (hF148 : ∀ {a0 : Nat} {M : vm_M} {r : Int32 × vm_M}, F148 a0 M = some r → O 148 [.ref (a0)] M (rI r)) (hO136 : ∀ {a0 : Nat} {M : vm_M} {r : vm_M}, f136 a0 M = some r → O 136 [.ref (a0)] M (rV r)) (hO137 : ∀ {a0 : Nat} {M : vm_M} {r : Int64 × vm_M}, f137 a0 M = some r → O 137 [.ref (a0)] M (rJ r)) (hO139 : ∀ {a0 : Nat} {a1 : Int32} {M : vm_M} {r : Int32 × vm_M}, f139 a0 a1 M = some r → O 139 [.ref (a0), .int (a1)] M (rI r)) (hO140 : ∀ {a0 : Nat} {a1 : Int32} {M : vm_M} {r : Int32 × vm_M}, f140 a0 a1 M = some r → O 140 [.ref (a0), .int (a1)] M (rI r)) (hO141 : ∀ {a0 : Int64} {M : vm_M} {r : Int32 × vm_M}, f141 a0 M = some r → O 141 [.long (a0)] M (rI r)) (hO143 : ∀ {a0 : Nat} {a1 : Int64} {M : vm_M} {r : Int32 × vm_M}, f143 a0 a1 M = some r → O 143 [.ref (a0), .long (a1)] M (rI r)) (hO144 : ∀ {a0 : Nat} {a1 : Int32} {a2 : Int32} {M : vm_M} {r : vm_M}, f144 a0 a1 a2 M = some r → O 144 [.ref (a0), .int (a1), .int (a2)] M (rV r)) (hO145 : ∀ {a0 : Nat} {M : vm_M} {r : Int32 × vm_M}, f145 a0 M = some r → O 145 [.ref (a0)] M (rI r)) (h : f148g F146 F147 F148 x0 M = some r) : Ev 0 (fun _ => 0) O vp_148 11 2 false (some (.boolean)) (rI r) 0 (lv_args 0 [.ref (x0)]) [] M := by
  have l0 : (0, .ref (x0)) ∈ lv_args 0 [.ref (x0)] := List.Mem.head _
  unfold f148g at h
  refine ev_aload_nR (mm 0 rfl) l0 ?_
  obtain ⟨_, e22, h⟩ := bind_so h
  obtain ⟨p1, e2, h⟩ := bind_so h
  refine ev_callV_I [] (mm 1 rfl) rfl rfl (Nat.le_of_ble_eq_true rfl) (s_ob_of e22) (hF147 e2) ?_
  rcases ite_so h with ⟨c3, h⟩ | ⟨c3, h⟩
  · refine ev_if_t 9 (mm 2 rfl) rfl c3 ?_
    refine f148_l9_ok hF146 hF147 hF148 hO136 hO137 hO139 hO140 hO141 hO143 hO144 hO145 100000 l0 h
  · refine ev_if_f 9 (mm 2 rfl) rfl c3 ?_
    refine ev_iconst (mm 3 rfl) cI_0 ?_
    exact ev_zreturn (mm 4 rfl) h
/-- the methods that call each other, to a depth -/
def sc146 : Nat → (Nat → vm_M → Option (Int32 × vm_M)) × (Nat → vm_M → Option (Int32 × vm_M)) × (Nat → vm_M → Option (Int32 × vm_M))
  | 0 => (fun _ _ => none, fun _ _ => none, fun _ _ => none)
  | n + 1 => (f146g (sc146 n).1 (sc146 n).2.1 (sc146 n).2.2, f147g (sc146 n).1 (sc146 n).2.1 (sc146 n).2.2, f148g (sc146 n).1 (sc146 n).2.1 (sc146 n).2.2)
def f146 : Nat → vm_M → Option (Int32 × vm_M) := (sc146 60).1
def f147 : Nat → vm_M → Option (Int32 × vm_M) := (sc146 60).2.1
def f148 : Nat → vm_M → Option (Int32 × vm_M) := (sc146 60).2.2
theorem sc146_ok : ∀ (n d : Nat), (∀ {a0 : Nat} {M : vm_M} {r : Int32 × vm_M}, (sc146 n).1 a0 M = some r → (vm_Cl (d + n + 3)) 146 [.ref (a0)] M (rI r)) ∧ (∀ {a0 : Nat} {M : vm_M} {r : Int32 × vm_M}, (sc146 n).2.1 a0 M = some r → (vm_Cl (d + n + 3)) 147 [.ref (a0)] M (rI r)) ∧ (∀ {a0 : Nat} {M : vm_M} {r : Int32 × vm_M}, (sc146 n).2.2 a0 M = some r → (vm_Cl (d + n + 3)) 148 [.ref (a0)] M (rI r)) := by
  intro n
  induction n with
  | zero =>
    intro d
    refine ⟨?_, ?_, ?_⟩ <;> (intros; rename_i h; cases h)
  | succ n ih =>
    intro d
    obtain ⟨h146, h147, h148⟩ := ih d
    have r146 : ∀ {a0 : Nat} {M : vm_M} {r : Int32 × vm_M}, (sc146 (n + 1)).1 a0 M = some r → (vm_Cl (d + (n + 1) + 3)) 146 [.ref (a0)] M (rI r) := by
      intros
      rename_i h
      have key := f146g_ok h146 h147 h148 (fun e => f136_ok e (d + n + 2)) (fun e => f137_ok e (d + n + 1)) (fun e => f139_ok e (d + n + 1)) (fun e => f140_ok e (d + n + 1)) (fun e => f141_ok e (d + n + 2)) (fun e => f143_ok e (d + n + 2)) (fun e => f144_ok e (d + n + 2)) (fun e => f145_ok e (d + n + 2)) h
      exact ⟨by decide, Nat.le_of_ble_eq_true rfl, key.1, key.2⟩
    have r147 : ∀ {a0 : Nat} {M : vm_M} {r : Int32 × vm_M}, (sc146 (n + 1)).2.1 a0 M = some r → (vm_Cl (d + (n + 1) + 3)) 147 [.ref (a0)] M (rI r) := by
      intros
      rename_i h
      have key := f147g_ok h146 h147 h148 (fun e => f136_ok e (d + n + 2)) (fun e => f137_ok e (d + n + 1)) (fun e => f139_ok e (d + n + 1)) (fun e => f140_ok e (d + n + 1)) (fun e => f141_ok e (d + n + 2)) (fun e => f143_ok e (d + n + 2)) (fun e => f144_ok e (d + n + 2)) (fun e => f145_ok e (d + n + 2)) h
      exact ⟨by decide, Nat.le_of_ble_eq_true rfl, key.1, key.2⟩
    have r148 : ∀ {a0 : Nat} {M : vm_M} {r : Int32 × vm_M}, (sc146 (n + 1)).2.2 a0 M = some r → (vm_Cl (d + (n + 1) + 3)) 148 [.ref (a0)] M (rI r) := by
      intros
      rename_i h
      have key := f148g_ok h146 h147 h148 (fun e => f136_ok e (d + n + 2)) (fun e => f137_ok e (d + n + 1)) (fun e => f139_ok e (d + n + 1)) (fun e => f140_ok e (d + n + 1)) (fun e => f141_ok e (d + n + 2)) (fun e => f143_ok e (d + n + 2)) (fun e => f144_ok e (d + n + 2)) (fun e => f145_ok e (d + n + 2)) h
      exact ⟨by decide, Nat.le_of_ble_eq_true rfl, key.1, key.2⟩
    exact ⟨r146, r147, r148⟩
theorem f146_ok {x0 : Nat} {M : vm_M} {r : Int32 × vm_M} (h : f146 x0 M = some r) (d : Nat) : vm_Cl (d + 63) 146 [.ref (x0)] M (rI r) := (sc146_ok 60 d).1 h
theorem f147_ok {x0 : Nat} {M : vm_M} {r : Int32 × vm_M} (h : f147 x0 M = some r) (d : Nat) : vm_Cl (d + 63) 147 [.ref (x0)] M (rI r) := (sc146_ok 60 d).2.1 h
theorem f148_ok {x0 : Nat} {M : vm_M} {r : Int32 × vm_M} (h : f148 x0 M = some r) (d : Nat) : vm_Cl (d + 63) 148 [.ref (x0)] M (rI r) := (sc146_ok 60 d).2.2 h
def f149_j182 (F149 : Nat → vm_M → Option (Int32 × vm_M)) (F150 : Nat → vm_M → Option (Int32 × vm_M)) (F151 : Nat → vm_M → Option (Int32 × vm_M)) (x0 : Nat) (s0 : Int32) (M : vm_M) : Option (Int32 × vm_M) :=
  if s0 = (-1) then
    s_rb 0 M
  else
    (s_ob M x0 11).bind fun _ =>
    (f148 x0 M).bind fun p24 =>
    if ¬ p24.1 = 0 then
      (s_ob p24.2 x0 11).bind fun _ =>
      (f144 x0 s0 0 p24.2).bind fun p27 =>
      s_rb 1 p27
    else
      s_rb 0 p24.2
theorem f149_j182_ok {O : Nat → List Value → vm_M → vm_R → Prop} {x0 : Nat} {s0 : Int32} {M : vm_M} {F149 : Nat → vm_M → Option (Int32 × vm_M)} {F150 : Nat → vm_M → Option (Int32 × vm_M)} {F151 : Nat → vm_M → Option (Int32 × vm_M)} {r : Int32 × vm_M} (hF149 : ∀ {a0 : Nat} {M : vm_M} {r : Int32 × vm_M}, F149 a0 M = some r → O 149 [.ref (a0)] M (rI r)) (hF150 : ∀ {a0 : Nat} {M : vm_M} {r : Int32 × vm_M}, F150 a0 M = some r → O 150 [.ref (a0)] M (rI r)) (hF151 : ∀ {a0 : Nat} {M : vm_M} {r : Int32 × vm_M}, F151 a0 M = some r → O 151 [.ref (a0)] M (rI r)) (hO137 : ∀ {a0 : Nat} {M : vm_M} {r : Int64 × vm_M}, f137 a0 M = some r → O 137 [.ref (a0)] M (rJ r)) (hO138 : ∀ {a0 : Nat} {a1 : Int64} {M : vm_M} {r : Int32 × vm_M}, f138 a0 a1 M = some r → O 138 [.ref (a0), .long (a1)] M (rI r)) (hO139 : ∀ {a0 : Nat} {a1 : Int32} {M : vm_M} {r : Int32 × vm_M}, f139 a0 a1 M = some r → O 139 [.ref (a0), .int (a1)] M (rI r)) (hO144 : ∀ {a0 : Nat} {a1 : Int32} {a2 : Int32} {M : vm_M} {r : vm_M}, f144 a0 a1 a2 M = some r → O 144 [.ref (a0), .int (a1), .int (a2)] M (rV r)) (hO145 : ∀ {a0 : Nat} {M : vm_M} {r : Int32 × vm_M}, f145 a0 M = some r → O 145 [.ref (a0)] M (rI r)) (hO148 : ∀ {a0 : Nat} {M : vm_M} {r : Int32 × vm_M}, f148 a0 M = some r → O 148 [.ref (a0)] M (rI r)) {lv : vm_L} (l0 : (0, .ref (x0)) ∈ lv) (h : f149_j182 F149 F150 F151 x0 s0 M = some r) : Ev 0 (fun _ => 0) O vp_149 11 2 false (some (.boolean)) (rI r) 182 lv [.int (s0)] M := by
  unfold f149_j182 at h
  refine evs_istore_n (mm 95 rfl) (by decide) (fun lv21 l1 s22 => ?_)
  have l0 := s22 _ _ l0 rfl
  refine ev_iload_n (mm 96 rfl) l1 ?_
  refine ev_iconst (mm 97 rfl) cI_m1 ?_
  rcases ite_so h with ⟨c23, h⟩ | ⟨c23, h⟩
  · refine ev_ic_t 195 (mm 98 rfl) rfl c23 ?_
    refine ev_iconst (mm 102 rfl) cI_0 ?_
    exact ev_zreturn (mm 103 rfl) h
  · refine ev_ic_f 195 (mm 98 rfl) rfl c23 ?_
    refine ev_aload_nR (mm 99 rfl) l0 ?_
    obtain ⟨_, e30, h⟩ := bind_so h
    obtain ⟨p24, e25, h⟩ := bind_so h
    refine ev_callV_I [] (mm 100 rfl) rfl rfl (Nat.le_of_ble_eq_true rfl) (s_ob_of e30) (hO148 e25) ?_
    rcases ite_so h with ⟨c26, h⟩ | ⟨c26, h⟩
    · refine ev_if_t 197 (mm 101 rfl) rfl c26 ?_
      refine ev_aload_nR (mm 104 rfl) l0 ?_
      refine ev_iload_n (mm 105 rfl) l1 ?_
      refine ev_iconst (mm 106 rfl) cI_0 ?_
      obtain ⟨_, e29, h⟩ := bind_so h
      obtain ⟨p27, e28, h⟩ := bind_so h
      refine ev_callV_V [.int (s0), .int (0)] (mm 107 rfl) rfl rfl (Nat.le_of_ble_eq_true rfl) (s_ob_of e29) (hO144 e28) ?_
      refine ev_iconst (mm 108 rfl) cI_1 ?_
      exact ev_zreturn (mm 109 rfl) h
    · refine ev_if_f 197 (mm 101 rfl) rfl c26 ?_
      refine ev_iconst (mm 102 rfl) cI_0 ?_
      exact ev_zreturn (mm 103 rfl) h
def f149_j130 (F149 : Nat → vm_M → Option (Int32 × vm_M)) (F150 : Nat → vm_M → Option (Int32 × vm_M)) (F151 : Nat → vm_M → Option (Int32 × vm_M)) (x0 : Nat) (M : vm_M) : Option (Int32 × vm_M) :=
  (s_ob M x0 11).bind fun _ =>
  (f148 x0 M).bind fun p9 =>
  if ¬ p9.1 = 0 then
    (s_ob p9.2 x0 11).bind fun _ =>
    (f139 x0 60 p9.2).bind fun p12 =>
    if p12.1 = 0 then
      (s_ob p12.2 x0 11).bind fun _ =>
      (f139 x0 62 p12.2).bind fun p15 =>
      if p15.1 = 0 then
        (s_ob p15.2 x0 11).bind fun _ =>
        (f139 x0 61 p15.2).bind fun p18 =>
        if p18.1 = 0 then
          f149_j182 F149 F150 F151 x0 (-1) p18.2
        else
          f149_j182 F149 F150 F151 x0 11 p18.2
      else
        f149_j182 F149 F150 F151 x0 10 p15.2
    else
      f149_j182 F149 F150 F151 x0 9 p12.2
  else
    s_rb 0 p9.2
theorem f149_j130_ok {O : Nat → List Value → vm_M → vm_R → Prop} {x0 : Nat} {M : vm_M} {F149 : Nat → vm_M → Option (Int32 × vm_M)} {F150 : Nat → vm_M → Option (Int32 × vm_M)} {F151 : Nat → vm_M → Option (Int32 × vm_M)} {r : Int32 × vm_M} (hF149 : ∀ {a0 : Nat} {M : vm_M} {r : Int32 × vm_M}, F149 a0 M = some r → O 149 [.ref (a0)] M (rI r)) (hF150 : ∀ {a0 : Nat} {M : vm_M} {r : Int32 × vm_M}, F150 a0 M = some r → O 150 [.ref (a0)] M (rI r)) (hF151 : ∀ {a0 : Nat} {M : vm_M} {r : Int32 × vm_M}, F151 a0 M = some r → O 151 [.ref (a0)] M (rI r)) (hO137 : ∀ {a0 : Nat} {M : vm_M} {r : Int64 × vm_M}, f137 a0 M = some r → O 137 [.ref (a0)] M (rJ r)) (hO138 : ∀ {a0 : Nat} {a1 : Int64} {M : vm_M} {r : Int32 × vm_M}, f138 a0 a1 M = some r → O 138 [.ref (a0), .long (a1)] M (rI r)) (hO139 : ∀ {a0 : Nat} {a1 : Int32} {M : vm_M} {r : Int32 × vm_M}, f139 a0 a1 M = some r → O 139 [.ref (a0), .int (a1)] M (rI r)) (hO144 : ∀ {a0 : Nat} {a1 : Int32} {a2 : Int32} {M : vm_M} {r : vm_M}, f144 a0 a1 a2 M = some r → O 144 [.ref (a0), .int (a1), .int (a2)] M (rV r)) (hO145 : ∀ {a0 : Nat} {M : vm_M} {r : Int32 × vm_M}, f145 a0 M = some r → O 145 [.ref (a0)] M (rI r)) (hO148 : ∀ {a0 : Nat} {M : vm_M} {r : Int32 × vm_M}, f148 a0 M = some r → O 148 [.ref (a0)] M (rI r)) {lv : vm_L} (l0 : (0, .ref (x0)) ∈ lv) (h : f149_j130 F149 F150 F151 x0 M = some r) : Ev 0 (fun _ => 0) O vp_149 11 2 false (some (.boolean)) (rI r) 130 lv [] M := by
  unfold f149_j130 at h
  refine ev_aload_nR (mm 71 rfl) l0 ?_
  obtain ⟨_, e34, h⟩ := bind_so h
  obtain ⟨p9, e10, h⟩ := bind_so h
  refine ev_callV_I [] (mm 72 rfl) rfl rfl (Nat.le_of_ble_eq_true rfl) (s_ob_of e34) (hO148 e10) ?_
  rcases ite_so h with ⟨c11, h⟩ | ⟨c11, h⟩
  · refine ev_if_t 139 (mm 73 rfl) rfl c11 ?_
    refine ev_aload_nR (mm 76 rfl) l0 ?_
    refine ev_bipush (mm 77 rfl) cB_60 ?_
    obtain ⟨_, e33, h⟩ := bind_so h
    obtain ⟨p12, e13, h⟩ := bind_so h
    refine ev_callV_I [.int (60)] (mm 78 rfl) rfl rfl (Nat.le_of_ble_eq_true rfl) (s_ob_of e33) (hO139 e13) ?_
    rcases ite_so h with ⟨c14, h⟩ | ⟨c14, h⟩
    · refine ev_if_t 153 (mm 79 rfl) rfl c14 ?_
      refine ev_aload_nR (mm 82 rfl) l0 ?_
      refine ev_bipush (mm 83 rfl) cB_62 ?_
      obtain ⟨_, e32, h⟩ := bind_so h
      obtain ⟨p15, e16, h⟩ := bind_so h
      refine ev_callV_I [.int (62)] (mm 84 rfl) rfl rfl (Nat.le_of_ble_eq_true rfl) (s_ob_of e32) (hO139 e16) ?_
      rcases ite_so h with ⟨c17, h⟩ | ⟨c17, h⟩
      · refine ev_if_t 167 (mm 85 rfl) rfl c17 ?_
        refine ev_aload_nR (mm 88 rfl) l0 ?_
        refine ev_bipush (mm 89 rfl) cB_61 ?_
        obtain ⟨_, e31, h⟩ := bind_so h
        obtain ⟨p18, e19, h⟩ := bind_so h
        refine ev_callV_I [.int (61)] (mm 90 rfl) rfl rfl (Nat.le_of_ble_eq_true rfl) (s_ob_of e31) (hO139 e19) ?_
        rcases ite_so h with ⟨c20, h⟩ | ⟨c20, h⟩
        · refine ev_if_t 181 (mm 91 rfl) rfl c20 ?_
          refine ev_iconst (mm 94 rfl) cI_m1 ?_
          exact f149_j182_ok hF149 hF150 hF151 hO137 hO138 hO139 hO144 hO145 hO148 l0 h
        · refine ev_if_f 181 (mm 91 rfl) rfl c20 ?_
          refine ev_bipush (mm 92 rfl) cB_11 ?_
          refine ev_goto 182 (mm 93 rfl) rfl ?_
          exact f149_j182_ok hF149 hF150 hF151 hO137 hO138 hO139 hO144 hO145 hO148 l0 h
      · refine ev_if_f 167 (mm 85 rfl) rfl c17 ?_
        refine ev_bipush (mm 86 rfl) cB_10 ?_
        refine ev_goto 182 (mm 87 rfl) rfl ?_
        exact f149_j182_ok hF149 hF150 hF151 hO137 hO138 hO139 hO144 hO145 hO148 l0 h
    · refine ev_if_f 153 (mm 79 rfl) rfl c14 ?_
      refine ev_bipush (mm 80 rfl) cB_9 ?_
      refine ev_goto 182 (mm 81 rfl) rfl ?_
      exact f149_j182_ok hF149 hF150 hF151 hO137 hO138 hO139 hO144 hO145 hO148 l0 h
  · refine ev_if_f 139 (mm 73 rfl) rfl c11 ?_
    refine ev_iconst (mm 74 rfl) cI_0 ?_
    exact ev_zreturn (mm 75 rfl) h
/-- PupilCoinModel.single()Z -/
def f149g (F149 : Nat → vm_M → Option (Int32 × vm_M)) (F150 : Nat → vm_M → Option (Int32 × vm_M)) (F151 : Nat → vm_M → Option (Int32 × vm_M)) (x0 : Nat) (M : vm_M) : Option (Int32 × vm_M) :=
  (s_ob M x0 11).bind fun _ =>
  (f137 x0 M).bind fun p1 =>
  if ¬ (lg_cmp p1.1 7237492) = 0 then
    (sg_i p1.2 x0 11 21).bind fun v4 =>
    (sg_i p1.2 x0 11 20).bind fun v6 =>
    if v6 ≤ v4 then
      f149_j130 F149 F150 F151 x0 p1.2
    else
      (sg_r p1.2 x0 11 41).bind fun v35 =>
      (sg_i p1.2 x0 11 21).bind fun v37 =>
      (v35).bind fun q39 =>
      (sa_i p1.2 q39 3 v37).bind fun v41 =>
      if ¬ v41 = 123 then
        f149_j130 F149 F150 F151 x0 p1.2
      else
        (s_ob p1.2 x0 11).bind fun _ =>
        (f145 x0 p1.2).bind fun p44 =>
        if ¬ p44.1 = 0 then
          (sg_i p44.2 x0 11 21).bind fun v47 =>
          (sp_i p44.2 x0 11 21 (v47 + 1)).bind fun M49 =>
          (s_ob M49 x0 11).bind fun _ =>
          (F151 x0 M49).bind fun p51 =>
          if p51.1 = 0 then
            s_rb 0 p51.2
          else
            (s_ob p51.2 x0 11).bind fun _ =>
            (f139 x0 125 p51.2).bind fun p54 =>
            if ¬ p54.1 = 0 then
              (sg_i p54.2 x0 11 22).bind fun v57 =>
              (sp_i p54.2 x0 11 22 (v57 - 1)).bind fun M59 =>
              s_rb 1 M59
            else
              s_rb 0 p54.2
        else
          s_rb 0 p44.2
  else
    (s_ob p1.2 x0 11).bind fun _ =>
    (f145 x0 p1.2).bind fun p64 =>
    if ¬ p64.1 = 0 then
      (sg_i p64.2 x0 11 42).bind fun v67 =>
      (sp_i p64.2 x0 11 21 v67).bind fun M69 =>
      (s_ob M69 x0 11).bind fun _ =>
      (F149 x0 M69).bind fun p71 =>
      if ¬ p71.1 = 0 then
        (sg_i p71.2 x0 11 22).bind fun v74 =>
        (sp_i p71.2 x0 11 22 (v74 - 1)).bind fun M76 =>
        (s_ob M76 x0 11).bind fun _ =>
        (f144 x0 14 0 M76).bind fun p78 =>
        s_rb 1 p78
      else
        s_rb 0 p71.2
    else
      s_rb 0 p64.2
theorem f149g_ok {O : Nat → List Value → vm_M → vm_R → Prop} {x0 : Nat} {M : vm_M} {F149 : Nat → vm_M → Option (Int32 × vm_M)} {F150 : Nat → vm_M → Option (Int32 × vm_M)} {F151 : Nat → vm_M → Option (Int32 × vm_M)} {r : Int32 × vm_M} (hF149 : ∀ {a0 : Nat} {M : vm_M} {r : Int32 × vm_M}, F149 a0 M = some r → O 149 [.ref (a0)] M (rI r)) (hF150 : ∀ {a0 : Nat} {M : vm_M} {r : Int32 × vm_M}, F150 a0 M = some r → O 150 [.ref (a0)] M (rI r)) (hF151 : ∀ {a0 : Nat} {M : vm_M} {r : Int32 × vm_M}, F151 a0 M = some r → O 151 [.ref (a0)] M (rI r)) (hO137 : ∀ {a0 : Nat} {M : vm_M} {r : Int64 × vm_M}, f137 a0 M = some r → O 137 [.ref (a0)] M (rJ r)) (hO138 : ∀ {a0 : Nat} {a1 : Int64} {M : vm_M} {r : Int32 × vm_M}, f138 a0 a1 M = some r → O 138 [.ref (a0), .long (a1)] M (rI r)) (hO139 : ∀ {a0 : Nat} {a1 : Int32} {M : vm_M} {r : Int32 × vm_M}, f139 a0 a1 M = some r → O 139 [.ref (a0), .int (a1)] M (rI r)) (hO144 : ∀ {a0 : Nat} {a1 : Int32} {a2 : Int32} {M : vm_M} {r : vm_M}, f144 a0 a1 a2 M = some r → O 144 [.ref (a0), .int (a1), .int (a2)] M (rV r)) (hO145 : ∀ {a0 : Nat} {M : vm_M} {r : Int32 × vm_M}, f145 a0 M = some r → O 145 [.ref (a0)] M (rI r)) (hO148 : ∀ {a0 : Nat} {M : vm_M} {r : Int32 × vm_M}, f148 a0 M = some r → O 148 [.ref (a0)] M (rI r)) (h : f149g F149 F150 F151 x0 M = some r) : Ev 0 (fun _ => 0) O vp_149 11 2 false (some (.boolean)) (rI r) 0 (lv_args 0 [.ref (x0)]) [] M := by
  have l0 : (0, .ref (x0)) ∈ lv_args 0 [.ref (x0)] := List.Mem.head _
  unfold f149g at h
  refine ev_aload_nR (mm 0 rfl) l0 ?_
  obtain ⟨_, e83, h⟩ := bind_so h
  obtain ⟨p1, e2, h⟩ := bind_so h
  refine ev_callV_J [] (mm 1 rfl) rfl rfl (Nat.le_of_ble_eq_true rfl) (s_ob_of e83) (hO137 e2) ?_
  refine ev_ldc2_w (mm 2 rfl) cJ_7237492 ?_
  refine ev_lcmp (mm 3 rfl) ?_
  rcases ite_so h with ⟨c3, h⟩ | ⟨c3, h⟩
  · refine ev_if_t 56 (mm 4 rfl) rfl c3 ?_
    refine ev_aload_nR (mm 31 rfl) l0 ?_
    obtain ⟨v4, e5, h⟩ := bind_so h
    refine ev_get_i (mm 32 rfl) rfl e5 ?_
    refine ev_aload_nR (mm 33 rfl) l0 ?_
    obtain ⟨v6, e7, h⟩ := bind_so h
    refine ev_get_i (mm 34 rfl) rfl e7 ?_
    rcases ite_so h with ⟨c8, h⟩ | ⟨c8, h⟩
    · refine ev_ic_t 130 (mm 35 rfl) rfl c8 ?_
      exact f149_j130_ok hF149 hF150 hF151 hO137 hO138 hO139 hO144 hO145 hO148 l0 h
    · refine ev_ic_f 130 (mm 35 rfl) rfl c8 ?_
      refine ev_aload_nR (mm 36 rfl) l0 ?_
      obtain ⟨v35, e36, h⟩ := bind_so h
      refine ev_get_r (mm 37 rfl) rfl e36 ?_
      refine ev_aload_nR (mm 38 rfl) l0 ?_
      obtain ⟨v37, e38, h⟩ := bind_so h
      refine ev_get_i (mm 39 rfl) rfl e38 ?_
      obtain ⟨q39, e40, h⟩ := bind_so h
      rw [e40]
      obtain ⟨v41, e42, h⟩ := bind_so h
      refine ev_baload (mm 40 rfl) e42 ?_
      refine ev_bipush (mm 41 rfl) cB_123 ?_
      rcases ite_so h with ⟨c43, h⟩ | ⟨c43, h⟩
      · refine ev_ic_t 130 (mm 42 rfl) rfl c43 ?_
        exact f149_j130_ok hF149 hF150 hF151 hO137 hO138 hO139 hO144 hO145 hO148 l0 h
      · refine ev_ic_f 130 (mm 42 rfl) rfl c43 ?_
        refine ev_aload_nR (mm 43 rfl) l0 ?_
        obtain ⟨_, e63, h⟩ := bind_so h
        obtain ⟨p44, e45, h⟩ := bind_so h
        refine ev_callV_I [] (mm 44 rfl) rfl rfl (Nat.le_of_ble_eq_true rfl) (s_ob_of e63) (hO145 e45) ?_
        rcases ite_so h with ⟨c46, h⟩ | ⟨c46, h⟩
        · refine ev_if_t 90 (mm 45 rfl) rfl c46 ?_
          refine ev_aload_nR (mm 48 rfl) l0 ?_
          refine ev_dupR (mm 49 rfl) ?_
          obtain ⟨v47, e48, h⟩ := bind_so h
          refine ev_get_i (mm 50 rfl) rfl e48 ?_
          refine ev_iconst (mm 51 rfl) cI_1 ?_
          refine ev_iadd (mm 52 rfl) ?_
          obtain ⟨M49, e50, h⟩ := bind_so h
          refine ev_put_i (mm 53 rfl) (fun z => by cases z) rfl e50 ?_
          refine ev_aload_nR (mm 54 rfl) l0 ?_
          obtain ⟨_, e62, h⟩ := bind_so h
          obtain ⟨p51, e52, h⟩ := bind_so h
          refine ev_callV_I [] (mm 55 rfl) rfl rfl (Nat.le_of_ble_eq_true rfl) (s_ob_of e62) (hF151 e52) ?_
          rcases ite_so h with ⟨c53, h⟩ | ⟨c53, h⟩
          · refine ev_if_t 116 (mm 56 rfl) rfl c53 ?_
            refine ev_iconst (mm 61 rfl) cI_0 ?_
            exact ev_zreturn (mm 62 rfl) h
          · refine ev_if_f 116 (mm 56 rfl) rfl c53 ?_
            refine ev_aload_nR (mm 57 rfl) l0 ?_
            refine ev_bipush (mm 58 rfl) cB_125 ?_
            obtain ⟨_, e61, h⟩ := bind_so h
            obtain ⟨p54, e55, h⟩ := bind_so h
            refine ev_callV_I [.int (125)] (mm 59 rfl) rfl rfl (Nat.le_of_ble_eq_true rfl) (s_ob_of e61) (hO139 e55) ?_
            rcases ite_so h with ⟨c56, h⟩ | ⟨c56, h⟩
            · refine ev_if_t 118 (mm 60 rfl) rfl c56 ?_
              refine ev_aload_nR (mm 63 rfl) l0 ?_
              refine ev_dupR (mm 64 rfl) ?_
              obtain ⟨v57, e58, h⟩ := bind_so h
              refine ev_get_i (mm 65 rfl) rfl e58 ?_
              refine ev_iconst (mm 66 rfl) cI_1 ?_
              refine ev_isub (mm 67 rfl) ?_
              obtain ⟨M59, e60, h⟩ := bind_so h
              refine ev_put_i (mm 68 rfl) (fun z => by cases z) rfl e60 ?_
              refine ev_iconst (mm 69 rfl) cI_1 ?_
              exact ev_zreturn (mm 70 rfl) h
            · refine ev_if_f 118 (mm 60 rfl) rfl c56 ?_
              refine ev_iconst (mm 61 rfl) cI_0 ?_
              exact ev_zreturn (mm 62 rfl) h
        · refine ev_if_f 90 (mm 45 rfl) rfl c46 ?_
          refine ev_iconst (mm 46 rfl) cI_0 ?_
          exact ev_zreturn (mm 47 rfl) h
  · refine ev_if_f 56 (mm 4 rfl) rfl c3 ?_
    refine ev_aload_nR (mm 5 rfl) l0 ?_
    obtain ⟨_, e82, h⟩ := bind_so h
    obtain ⟨p64, e65, h⟩ := bind_so h
    refine ev_callV_I [] (mm 6 rfl) rfl rfl (Nat.le_of_ble_eq_true rfl) (s_ob_of e82) (hO145 e65) ?_
    rcases ite_so h with ⟨c66, h⟩ | ⟨c66, h⟩
    · refine ev_if_t 20 (mm 7 rfl) rfl c66 ?_
      refine ev_aload_nR (mm 10 rfl) l0 ?_
      refine ev_aload_nR (mm 11 rfl) l0 ?_
      obtain ⟨v67, e68, h⟩ := bind_so h
      refine ev_get_i (mm 12 rfl) rfl e68 ?_
      obtain ⟨M69, e70, h⟩ := bind_so h
      refine ev_put_i (mm 13 rfl) (fun z => by cases z) rfl e70 ?_
      refine ev_aload_nR (mm 14 rfl) l0 ?_
      obtain ⟨_, e81, h⟩ := bind_so h
      obtain ⟨p71, e72, h⟩ := bind_so h
      refine ev_callV_I [] (mm 15 rfl) rfl rfl (Nat.le_of_ble_eq_true rfl) (s_ob_of e81) (hF149 e72) ?_
      rcases ite_so h with ⟨c73, h⟩ | ⟨c73, h⟩
      · refine ev_if_t 37 (mm 16 rfl) rfl c73 ?_
        refine ev_aload_nR (mm 19 rfl) l0 ?_
        refine ev_dupR (mm 20 rfl) ?_
        obtain ⟨v74, e75, h⟩ := bind_so h
        refine ev_get_i (mm 21 rfl) rfl e75 ?_
        refine ev_iconst (mm 22 rfl) cI_1 ?_
        refine ev_isub (mm 23 rfl) ?_
        obtain ⟨M76, e77, h⟩ := bind_so h
        refine ev_put_i (mm 24 rfl) (fun z => by cases z) rfl e77 ?_
        refine ev_aload_nR (mm 25 rfl) l0 ?_
        refine ev_bipush (mm 26 rfl) cB_14 ?_
        refine ev_iconst (mm 27 rfl) cI_0 ?_
        obtain ⟨_, e80, h⟩ := bind_so h
        obtain ⟨p78, e79, h⟩ := bind_so h
        refine ev_callV_V [.int (14), .int (0)] (mm 28 rfl) rfl rfl (Nat.le_of_ble_eq_true rfl) (s_ob_of e80) (hO144 e79) ?_
        refine ev_iconst (mm 29 rfl) cI_1 ?_
        exact ev_zreturn (mm 30 rfl) h
      · refine ev_if_f 37 (mm 16 rfl) rfl c73 ?_
        refine ev_iconst (mm 17 rfl) cI_0 ?_
        exact ev_zreturn (mm 18 rfl) h
    · refine ev_if_f 20 (mm 7 rfl) rfl c66 ?_
      refine ev_iconst (mm 8 rfl) cI_0 ?_
      exact ev_zreturn (mm 9 rfl) h
def f150_l9 (F149 : Nat → vm_M → Option (Int32 × vm_M)) (F150 : Nat → vm_M → Option (Int32 × vm_M)) (F151 : Nat → vm_M → Option (Int32 × vm_M)) (x0 : Nat) : Nat → vm_M → Option (Int32 × vm_M)
  | 0 => fun _ => none
  | n + 1 => fun M =>
    (s_ob M x0 11).bind fun _ =>
    (f138 x0 6385252 M).bind fun p4 =>
    if p4.1 = 0 then
      s_rb 1 p4.2
    else
      (s_ob p4.2 x0 11).bind fun _ =>
      (F149 x0 p4.2).bind fun p7 =>
      if ¬ p7.1 = 0 then
        (s_ob p7.2 x0 11).bind fun _ =>
        (f144 x0 13 0 p7.2).bind fun p10 =>
        f150_l9 F149 F150 F151 x0 n  p10
      else
        s_rb 0 p7.2
theorem f150_l9_ok {O : Nat → List Value → vm_M → vm_R → Prop} {x0 : Nat} {F149 : Nat → vm_M → Option (Int32 × vm_M)} {F150 : Nat → vm_M → Option (Int32 × vm_M)} {F151 : Nat → vm_M → Option (Int32 × vm_M)} {r : Int32 × vm_M} (hF149 : ∀ {a0 : Nat} {M : vm_M} {r : Int32 × vm_M}, F149 a0 M = some r → O 149 [.ref (a0)] M (rI r)) (hF150 : ∀ {a0 : Nat} {M : vm_M} {r : Int32 × vm_M}, F150 a0 M = some r → O 150 [.ref (a0)] M (rI r)) (hF151 : ∀ {a0 : Nat} {M : vm_M} {r : Int32 × vm_M}, F151 a0 M = some r → O 151 [.ref (a0)] M (rI r)) (hO137 : ∀ {a0 : Nat} {M : vm_M} {r : Int64 × vm_M}, f137 a0 M = some r → O 137 [.ref (a0)] M (rJ r)) (hO138 : ∀ {a0 : Nat} {a1 : Int64} {M : vm_M} {r : Int32 × vm_M}, f138 a0 a1 M = some r → O 138 [.ref (a0), .long (a1)] M (rI r)) (hO139 : ∀ {a0 : Nat} {a1 : Int32} {M : vm_M} {r : Int32 × vm_M}, f139 a0 a1 M = some r → O 139 [.ref (a0), .int (a1)] M (rI r)) (hO144 : ∀ {a0 : Nat} {a1 : Int32} {a2 : Int32} {M : vm_M} {r : vm_M}, f144 a0 a1 a2 M = some r → O 144 [.ref (a0), .int (a1), .int (a2)] M (rV r)) (hO145 : ∀ {a0 : Nat} {M : vm_M} {r : Int32 × vm_M}, f145 a0 M = some r → O 145 [.ref (a0)] M (rI r)) (hO148 : ∀ {a0 : Nat} {M : vm_M} {r : Int32 × vm_M}, f148 a0 M = some r → O 148 [.ref (a0)] M (rI r)) : ∀ (n : Nat) {M : vm_M} {lv : vm_L}, (0, .ref (x0)) ∈ lv → f150_l9 F149 F150 F151 x0 n M = some r → Ev 0 (fun _ => 0) O vp_150 11 1 false (some (.boolean)) (rI r) 9 lv [] M := by
  intro n
  induction n with
  | zero =>
    intro M lv l0 h
    cases h
  | succ n ih =>
    intro M lv l0 h
    dsimp only [f150_l9] at h
    refine ev_aload_nR (mm 5 rfl) l0 ?_
    refine ev_ldc2_w (mm 6 rfl) cJ_6385252 ?_
    obtain ⟨_, e14, h⟩ := bind_so h
    obtain ⟨p4, e5, h⟩ := bind_so h
    refine ev_callV_I [.long (6385252)] (mm 7 rfl) rfl rfl (Nat.le_of_ble_eq_true rfl) (s_ob_of e14) (hO138 e5) ?_
    rcases ite_so h with ⟨c6, h⟩ | ⟨c6, h⟩
    · refine ev_if_t 38 (mm 8 rfl) rfl c6 ?_
      refine ev_iconst (mm 19 rfl) cI_1 ?_
      exact ev_zreturn (mm 20 rfl) h
    · refine ev_if_f 38 (mm 8 rfl) rfl c6 ?_
      refine ev_aload_nR (mm 9 rfl) l0 ?_
      obtain ⟨_, e13, h⟩ := bind_so h
      obtain ⟨p7, e8, h⟩ := bind_so h
      refine ev_callV_I [] (mm 10 rfl) rfl rfl (Nat.le_of_ble_eq_true rfl) (s_ob_of e13) (hF149 e8) ?_
      rcases ite_so h with ⟨c9, h⟩ | ⟨c9, h⟩
      · refine ev_if_t 28 (mm 11 rfl) rfl c9 ?_
        refine ev_aload_nR (mm 14 rfl) l0 ?_
        refine ev_bipush (mm 15 rfl) cB_13 ?_
        refine ev_iconst (mm 16 rfl) cI_0 ?_
        obtain ⟨_, e12, h⟩ := bind_so h
        obtain ⟨p10, e11, h⟩ := bind_so h
        refine ev_callV_V [.int (13), .int (0)] (mm 17 rfl) rfl rfl (Nat.le_of_ble_eq_true rfl) (s_ob_of e12) (hO144 e11) ?_
        refine ev_goto 9 (mm 18 rfl) rfl ?_
        exact ih l0 h
      · refine ev_if_f 28 (mm 11 rfl) rfl c9 ?_
        refine ev_iconst (mm 12 rfl) cI_0 ?_
        exact ev_zreturn (mm 13 rfl) h
/-- PupilCoinModel.all()Z -/
def f150g (F149 : Nat → vm_M → Option (Int32 × vm_M)) (F150 : Nat → vm_M → Option (Int32 × vm_M)) (F151 : Nat → vm_M → Option (Int32 × vm_M)) (x0 : Nat) (M : vm_M) : Option (Int32 × vm_M) :=
  (s_ob M x0 11).bind fun _ =>
  (F149 x0 M).bind fun p1 =>
  if ¬ p1.1 = 0 then
    f150_l9 F149 F150 F151 x0
    
      100000  p1.2
  else
    s_rb 0 p1.2
theorem f150g_ok {O : Nat → List Value → vm_M → vm_R → Prop} {x0 : Nat} {M : vm_M} {F149 : Nat → vm_M → Option (Int32 × vm_M)} {F150 : Nat → vm_M → Option (Int32 × vm_M)} {F151 : Nat → vm_M → Option (Int32 × vm_M)} {r : Int32 × vm_M} (hF149 : ∀ {a0 : Nat} {M : vm_M} {r : Int32 × vm_M}, F149 a0 M = some r → O 149 [.ref (a0)] M (rI r)) (hF150 : ∀ {a0 : Nat} {M : vm_M} {r : Int32 × vm_M}, F150 a0 M = some r → O 150 [.ref (a0)] M (rI r)) (hF151 : ∀ {a0 : Nat} {M : vm_M} {r : Int32 × vm_M}, F151 a0 M = some r → O 151 [.ref (a0)] M (rI r)) (hO137 : ∀ {a0 : Nat} {M : vm_M} {r : Int64 × vm_M}, f137 a0 M = some r → O 137 [.ref (a0)] M (rJ r)) (hO138 : ∀ {a0 : Nat} {a1 : Int64} {M : vm_M} {r : Int32 × vm_M}, f138 a0 a1 M = some r → O 138 [.ref (a0), .long (a1)] M (rI r)) (hO139 : ∀ {a0 : Nat} {a1 : Int32} {M : vm_M} {r : Int32 × vm_M}, f139 a0 a1 M = some r → O 139 [.ref (a0), .int (a1)] M (rI r)) (hO144 : ∀ {a0 : Nat} {a1 : Int32} {a2 : Int32} {M : vm_M} {r : vm_M}, f144 a0 a1 a2 M = some r → O 144 [.ref (a0), .int (a1), .int (a2)] M (rV r)) (hO145 : ∀ {a0 : Nat} {M : vm_M} {r : Int32 × vm_M}, f145 a0 M = some r → O 145 [.ref (a0)] M (rI r)) (hO148 : ∀ {a0 : Nat} {M : vm_M} {r : Int32 × vm_M}, f148 a0 M = some r → O 148 [.ref (a0)] M (rI r)) (h : f150g F149 F150 F151 x0 M = some r) : Ev 0 (fun _ => 0) O vp_150 11 1 false (some (.boolean)) (rI r) 0 (lv_args 0 [.ref (x0)]) [] M := by
  have l0 : (0, .ref (x0)) ∈ lv_args 0 [.ref (x0)] := List.Mem.head _
  unfold f150g at h
  refine ev_aload_nR (mm 0 rfl) l0 ?_
  obtain ⟨_, e15, h⟩ := bind_so h
  obtain ⟨p1, e2, h⟩ := bind_so h
  refine ev_callV_I [] (mm 1 rfl) rfl rfl (Nat.le_of_ble_eq_true rfl) (s_ob_of e15) (hF149 e2) ?_
  rcases ite_so h with ⟨c3, h⟩ | ⟨c3, h⟩
  · refine ev_if_t 9 (mm 2 rfl) rfl c3 ?_
    refine f150_l9_ok hF149 hF150 hF151 hO137 hO138 hO139 hO144 hO145 hO148 100000 l0 h
  · refine ev_if_f 9 (mm 2 rfl) rfl c3 ?_
    refine ev_iconst (mm 3 rfl) cI_0 ?_
    exact ev_zreturn (mm 4 rfl) h
def f151_l9 (F149 : Nat → vm_M → Option (Int32 × vm_M)) (F150 : Nat → vm_M → Option (Int32 × vm_M)) (F151 : Nat → vm_M → Option (Int32 × vm_M)) (x0 : Nat) : Nat → vm_M → Option (Int32 × vm_M)
  | 0 => fun _ => none
  | n + 1 => fun M =>
    (s_ob M x0 11).bind fun _ =>
    (f138 x0 28530 M).bind fun p4 =>
    if p4.1 = 0 then
      s_rb 1 p4.2
    else
      (s_ob p4.2 x0 11).bind fun _ =>
      (F150 x0 p4.2).bind fun p7 =>
      if ¬ p7.1 = 0 then
        (s_ob p7.2 x0 11).bind fun _ =>
        (f144 x0 12 0 p7.2).bind fun p10 =>
        f151_l9 F149 F150 F151 x0 n  p10
      else
        s_rb 0 p7.2
theorem f151_l9_ok {O : Nat → List Value → vm_M → vm_R → Prop} {x0 : Nat} {F149 : Nat → vm_M → Option (Int32 × vm_M)} {F150 : Nat → vm_M → Option (Int32 × vm_M)} {F151 : Nat → vm_M → Option (Int32 × vm_M)} {r : Int32 × vm_M} (hF149 : ∀ {a0 : Nat} {M : vm_M} {r : Int32 × vm_M}, F149 a0 M = some r → O 149 [.ref (a0)] M (rI r)) (hF150 : ∀ {a0 : Nat} {M : vm_M} {r : Int32 × vm_M}, F150 a0 M = some r → O 150 [.ref (a0)] M (rI r)) (hF151 : ∀ {a0 : Nat} {M : vm_M} {r : Int32 × vm_M}, F151 a0 M = some r → O 151 [.ref (a0)] M (rI r)) (hO137 : ∀ {a0 : Nat} {M : vm_M} {r : Int64 × vm_M}, f137 a0 M = some r → O 137 [.ref (a0)] M (rJ r)) (hO138 : ∀ {a0 : Nat} {a1 : Int64} {M : vm_M} {r : Int32 × vm_M}, f138 a0 a1 M = some r → O 138 [.ref (a0), .long (a1)] M (rI r)) (hO139 : ∀ {a0 : Nat} {a1 : Int32} {M : vm_M} {r : Int32 × vm_M}, f139 a0 a1 M = some r → O 139 [.ref (a0), .int (a1)] M (rI r)) (hO144 : ∀ {a0 : Nat} {a1 : Int32} {a2 : Int32} {M : vm_M} {r : vm_M}, f144 a0 a1 a2 M = some r → O 144 [.ref (a0), .int (a1), .int (a2)] M (rV r)) (hO145 : ∀ {a0 : Nat} {M : vm_M} {r : Int32 × vm_M}, f145 a0 M = some r → O 145 [.ref (a0)] M (rI r)) (hO148 : ∀ {a0 : Nat} {M : vm_M} {r : Int32 × vm_M}, f148 a0 M = some r → O 148 [.ref (a0)] M (rI r)) : ∀ (n : Nat) {M : vm_M} {lv : vm_L}, (0, .ref (x0)) ∈ lv → f151_l9 F149 F150 F151 x0 n M = some r → Ev 0 (fun _ => 0) O vp_151 11 1 false (some (.boolean)) (rI r) 9 lv [] M := by
  intro n
  induction n with
  | zero =>
    intro M lv l0 h
    cases h
  | succ n ih =>
    intro M lv l0 h
    dsimp only [f151_l9] at h
    refine ev_aload_nR (mm 5 rfl) l0 ?_
    refine ev_ldc2_w (mm 6 rfl) cJ_28530 ?_
    obtain ⟨_, e14, h⟩ := bind_so h
    obtain ⟨p4, e5, h⟩ := bind_so h
    refine ev_callV_I [.long (28530)] (mm 7 rfl) rfl rfl (Nat.le_of_ble_eq_true rfl) (s_ob_of e14) (hO138 e5) ?_
    rcases ite_so h with ⟨c6, h⟩ | ⟨c6, h⟩
    · refine ev_if_t 38 (mm 8 rfl) rfl c6 ?_
      refine ev_iconst (mm 19 rfl) cI_1 ?_
      exact ev_zreturn (mm 20 rfl) h
    · refine ev_if_f 38 (mm 8 rfl) rfl c6 ?_
      refine ev_aload_nR (mm 9 rfl) l0 ?_
      obtain ⟨_, e13, h⟩ := bind_so h
      obtain ⟨p7, e8, h⟩ := bind_so h
      refine ev_callV_I [] (mm 10 rfl) rfl rfl (Nat.le_of_ble_eq_true rfl) (s_ob_of e13) (hF150 e8) ?_
      rcases ite_so h with ⟨c9, h⟩ | ⟨c9, h⟩
      · refine ev_if_t 28 (mm 11 rfl) rfl c9 ?_
        refine ev_aload_nR (mm 14 rfl) l0 ?_
        refine ev_bipush (mm 15 rfl) cB_12 ?_
        refine ev_iconst (mm 16 rfl) cI_0 ?_
        obtain ⟨_, e12, h⟩ := bind_so h
        obtain ⟨p10, e11, h⟩ := bind_so h
        refine ev_callV_V [.int (12), .int (0)] (mm 17 rfl) rfl rfl (Nat.le_of_ble_eq_true rfl) (s_ob_of e12) (hO144 e11) ?_
        refine ev_goto 9 (mm 18 rfl) rfl ?_
        exact ih l0 h
      · refine ev_if_f 28 (mm 11 rfl) rfl c9 ?_
        refine ev_iconst (mm 12 rfl) cI_0 ?_
        exact ev_zreturn (mm 13 rfl) h
/-- PupilCoinModel.any()Z -/
def f151g (F149 : Nat → vm_M → Option (Int32 × vm_M)) (F150 : Nat → vm_M → Option (Int32 × vm_M)) (F151 : Nat → vm_M → Option (Int32 × vm_M)) (x0 : Nat) (M : vm_M) : Option (Int32 × vm_M) :=
  (s_ob M x0 11).bind fun _ =>
  (F150 x0 M).bind fun p1 =>
  if ¬ p1.1 = 0 then
    f151_l9 F149 F150 F151 x0
    
      100000  p1.2
  else
    s_rb 0 p1.2
theorem f151g_ok {O : Nat → List Value → vm_M → vm_R → Prop} {x0 : Nat} {M : vm_M} {F149 : Nat → vm_M → Option (Int32 × vm_M)} {F150 : Nat → vm_M → Option (Int32 × vm_M)} {F151 : Nat → vm_M → Option (Int32 × vm_M)} {r : Int32 × vm_M} (hF149 : ∀ {a0 : Nat} {M : vm_M} {r : Int32 × vm_M}, F149 a0 M = some r → O 149 [.ref (a0)] M (rI r)) (hF150 : ∀ {a0 : Nat} {M : vm_M} {r : Int32 × vm_M}, F150 a0 M = some r → O 150 [.ref (a0)] M (rI r)) (hF151 : ∀ {a0 : Nat} {M : vm_M} {r : Int32 × vm_M}, F151 a0 M = some r → O 151 [.ref (a0)] M (rI r)) (hO137 : ∀ {a0 : Nat} {M : vm_M} {r : Int64 × vm_M}, f137 a0 M = some r → O 137 [.ref (a0)] M (rJ r)) (hO138 : ∀ {a0 : Nat} {a1 : Int64} {M : vm_M} {r : Int32 × vm_M}, f138 a0 a1 M = some r → O 138 [.ref (a0), .long (a1)] M (rI r)) (hO139 : ∀ {a0 : Nat} {a1 : Int32} {M : vm_M} {r : Int32 × vm_M}, f139 a0 a1 M = some r → O 139 [.ref (a0), .int (a1)] M (rI r)) (hO144 : ∀ {a0 : Nat} {a1 : Int32} {a2 : Int32} {M : vm_M} {r : vm_M}, f144 a0 a1 a2 M = some r → O 144 [.ref (a0), .int (a1), .int (a2)] M (rV r)) (hO145 : ∀ {a0 : Nat} {M : vm_M} {r : Int32 × vm_M}, f145 a0 M = some r → O 145 [.ref (a0)] M (rI r)) (hO148 : ∀ {a0 : Nat} {M : vm_M} {r : Int32 × vm_M}, f148 a0 M = some r → O 148 [.ref (a0)] M (rI r)) (h : f151g F149 F150 F151 x0 M = some r) : Ev 0 (fun _ => 0) O vp_151 11 1 false (some (.boolean)) (rI r) 0 (lv_args 0 [.ref (x0)]) [] M := by
  have l0 : (0, .ref (x0)) ∈ lv_args 0 [.ref (x0)] := List.Mem.head _
  unfold f151g at h
  refine ev_aload_nR (mm 0 rfl) l0 ?_
  obtain ⟨_, e15, h⟩ := bind_so h
  obtain ⟨p1, e2, h⟩ := bind_so h
  refine ev_callV_I [] (mm 1 rfl) rfl rfl (Nat.le_of_ble_eq_true rfl) (s_ob_of e15) (hF150 e2) ?_
  rcases ite_so h with ⟨c3, h⟩ | ⟨c3, h⟩
  · refine ev_if_t 9 (mm 2 rfl) rfl c3 ?_
    refine f151_l9_ok hF149 hF150 hF151 hO137 hO138 hO139 hO144 hO145 hO148 100000 l0 h
  · refine ev_if_f 9 (mm 2 rfl) rfl c3 ?_
    refine ev_iconst (mm 3 rfl) cI_0 ?_
    exact ev_zreturn (mm 4 rfl) h
/-- the methods that call each other, to a depth -/
def sc149 : Nat → (Nat → vm_M → Option (Int32 × vm_M)) × (Nat → vm_M → Option (Int32 × vm_M)) × (Nat → vm_M → Option (Int32 × vm_M))
  | 0 => (fun _ _ => none, fun _ _ => none, fun _ _ => none)
  | n + 1 => (f149g (sc149 n).1 (sc149 n).2.1 (sc149 n).2.2, f150g (sc149 n).1 (sc149 n).2.1 (sc149 n).2.2, f151g (sc149 n).1 (sc149 n).2.1 (sc149 n).2.2)
def f149 : Nat → vm_M → Option (Int32 × vm_M) := (sc149 60).1
def f150 : Nat → vm_M → Option (Int32 × vm_M) := (sc149 60).2.1
def f151 : Nat → vm_M → Option (Int32 × vm_M) := (sc149 60).2.2
theorem sc149_ok : ∀ (n d : Nat), (∀ {a0 : Nat} {M : vm_M} {r : Int32 × vm_M}, (sc149 n).1 a0 M = some r → (vm_Cl (d + n + 64)) 149 [.ref (a0)] M (rI r)) ∧ (∀ {a0 : Nat} {M : vm_M} {r : Int32 × vm_M}, (sc149 n).2.1 a0 M = some r → (vm_Cl (d + n + 64)) 150 [.ref (a0)] M (rI r)) ∧ (∀ {a0 : Nat} {M : vm_M} {r : Int32 × vm_M}, (sc149 n).2.2 a0 M = some r → (vm_Cl (d + n + 64)) 151 [.ref (a0)] M (rI r)) := by
  intro n
  induction n with
  | zero =>
    intro d
    refine ⟨?_, ?_, ?_⟩ <;> (intros; rename_i h; cases h)
  | succ n ih =>
    intro d
    obtain ⟨h149, h150, h151⟩ := ih d
    have r149 : ∀ {a0 : Nat} {M : vm_M} {r : Int32 × vm_M}, (sc149 (n + 1)).1 a0 M = some r → (vm_Cl (d + (n + 1) + 64)) 149 [.ref (a0)] M (rI r) := by
      intros
      rename_i h
      have key := f149g_ok h149 h150 h151 (fun e => f137_ok e (d + n + 62)) (fun e => f138_ok e (d + n + 61)) (fun e => f139_ok e (d + n + 62)) (fun e => f144_ok e (d + n + 63)) (fun e => f145_ok e (d + n + 63)) (fun e => f148_ok e (d + n + 1)) h
      exact ⟨by decide, Nat.le_of_ble_eq_true rfl, key.1, key.2⟩
    have r150 : ∀ {a0 : Nat} {M : vm_M} {r : Int32 × vm_M}, (sc149 (n + 1)).2.1 a0 M = some r → (vm_Cl (d + (n + 1) + 64)) 150 [.ref (a0)] M (rI r) := by
      intros
      rename_i h
      have key := f150g_ok h149 h150 h151 (fun e => f137_ok e (d + n + 62)) (fun e => f138_ok e (d + n + 61)) (fun e => f139_ok e (d + n + 62)) (fun e => f144_ok e (d + n + 63)) (fun e => f145_ok e (d + n + 63)) (fun e => f148_ok e (d + n + 1)) h
      exact ⟨by decide, Nat.le_of_ble_eq_true rfl, key.1, key.2⟩
    have r151 : ∀ {a0 : Nat} {M : vm_M} {r : Int32 × vm_M}, (sc149 (n + 1)).2.2 a0 M = some r → (vm_Cl (d + (n + 1) + 64)) 151 [.ref (a0)] M (rI r) := by
      intros
      rename_i h
      have key := f151g_ok h149 h150 h151 (fun e => f137_ok e (d + n + 62)) (fun e => f138_ok e (d + n + 61)) (fun e => f139_ok e (d + n + 62)) (fun e => f144_ok e (d + n + 63)) (fun e => f145_ok e (d + n + 63)) (fun e => f148_ok e (d + n + 1)) h
      exact ⟨by decide, Nat.le_of_ble_eq_true rfl, key.1, key.2⟩
    exact ⟨r149, r150, r151⟩
theorem f149_ok {x0 : Nat} {M : vm_M} {r : Int32 × vm_M} (h : f149 x0 M = some r) (d : Nat) : vm_Cl (d + 124) 149 [.ref (x0)] M (rI r) := (sc149_ok 60 d).1 h
theorem f150_ok {x0 : Nat} {M : vm_M} {r : Int32 × vm_M} (h : f150 x0 M = some r) (d : Nat) : vm_Cl (d + 124) 150 [.ref (x0)] M (rI r) := (sc149_ok 60 d).2.1 h
theorem f151_ok {x0 : Nat} {M : vm_M} {r : Int32 × vm_M} (h : f151 x0 M = some r) (d : Nat) : vm_Cl (d + 124) 151 [.ref (x0)] M (rI r) := (sc149_ok 60 d).2.2 h
def f152_j116 (x0 : Nat) (x1 : Int32) (x2 : Int64) (M : vm_M) : Option (Int32 × vm_M) :=
  (sg_r M x0 11 34).bind fun v57 =>
  (sg_i M x0 11 24).bind fun v59 =>
  (v57).bind fun q61 =>
  (ss_i M q61 0 x1 v59).bind fun M63 =>
  (sg_r M63 x0 11 37).bind fun v65 =>
  (sg_i M63 x0 11 23).bind fun v67 =>
  (v65).bind fun q69 =>
  (ss_l M63 q69 v67 x2).bind fun M71 =>
  (sg_i M71 x0 11 23).bind fun v73 =>
  (sp_i M71 x0 11 23 (v73 + 1)).bind fun M75 =>
  s_rb 1 M75
theorem f152_j116_ok {d : Nat} {x0 : Nat} {x1 : Int32} {x2 : Int64} {M : vm_M} {r : Int32 × vm_M} {lv : vm_L} (l0 : (0, .ref (x0)) ∈ lv) (l1 : (1, .int (x1)) ∈ lv) (l2 : (2, .long (x2)) ∈ lv) (h : f152_j116 x0 x1 x2 M = some r) : Ev 0 (fun _ => 0) (vm_Cl (d + 124)) vp_152 11 4 false (some (.boolean)) (rI r) 116 lv [] M := by
  unfold f152_j116 at h
  refine ev_aload_nR (mm 65 rfl) l0 ?_
  obtain ⟨v57, e58, h⟩ := bind_so h
  refine ev_get_r (mm 66 rfl) rfl e58 ?_
  refine ev_iload_n (mm 67 rfl) l1 ?_
  refine ev_aload_nR (mm 68 rfl) l0 ?_
  obtain ⟨v59, e60, h⟩ := bind_so h
  refine ev_get_i (mm 69 rfl) rfl e60 ?_
  obtain ⟨q61, e62, h⟩ := bind_so h
  rw [e62]
  obtain ⟨M63, e64, h⟩ := bind_so h
  refine ev_iastore (mm 70 rfl) e64 ?_
  refine ev_aload_nR (mm 71 rfl) l0 ?_
  obtain ⟨v65, e66, h⟩ := bind_so h
  refine ev_get_r (mm 72 rfl) rfl e66 ?_
  refine ev_aload_nR (mm 73 rfl) l0 ?_
  obtain ⟨v67, e68, h⟩ := bind_so h
  refine ev_get_i (mm 74 rfl) rfl e68 ?_
  refine ev_lload_n (mm 75 rfl) l2 ?_
  obtain ⟨q69, e70, h⟩ := bind_so h
  rw [e70]
  obtain ⟨M71, e72, h⟩ := bind_so h
  refine ev_lastore (mm 76 rfl) e72 ?_
  refine ev_aload_nR (mm 77 rfl) l0 ?_
  refine ev_dupR (mm 78 rfl) ?_
  obtain ⟨v73, e74, h⟩ := bind_so h
  refine ev_get_i (mm 79 rfl) rfl e74 ?_
  refine ev_iconst (mm 80 rfl) cI_1 ?_
  refine ev_iadd (mm 81 rfl) ?_
  obtain ⟨M75, e76, h⟩ := bind_so h
  refine ev_put_i (mm 82 rfl) (fun z => by cases z) rfl e76 ?_
  refine ev_iconst (mm 83 rfl) cI_1 ?_
  exact ev_zreturn (mm 84 rfl) h
/-- PupilCoinModel.line(I)Z -/
def f152 (x0 : Nat) (x1 : Int32) (M : vm_M) : Option (Int32 × vm_M) :=
  (sg_r M x0 11 30).bind fun v1 =>
  (v1).bind fun q3 =>
  (ss_i M q3 0 x1 0).bind fun M5 =>
  (s_ob M5 x0 11).bind fun _ =>
  (f137 x0 M5).bind fun p7 =>
  if (lg_cmp p7.1 0) = 0 then
    s_rb 0 p7.2
  else
    (f142 p7.1 p7.2).bind fun p12 =>
    if ¬ p12.1 = 0 then
      s_rb 0 p12.2
    else
      (s_ob p12.2 x0 11).bind fun _ =>
      (f143 x0 p7.1 p12.2).bind fun p15 =>
      if p15.1 = (-1) then
        (sg_i p15.2 x0 11 42).bind fun v18 =>
        (sp_i p15.2 x0 11 21 v18).bind fun M20 =>
        (sg_r M20 x0 11 31).bind fun v22 =>
        (sg_i M20 x0 11 23).bind fun v24 =>
        (v22).bind fun q26 =>
        (ss_i M20 q26 0 x1 v24).bind fun M28 =>
        (sg_r M28 x0 11 32).bind fun v30 =>
        (sg_i M28 x0 11 24).bind fun v32 =>
        (v30).bind fun q34 =>
        (ss_i M28 q34 0 x1 v32).bind fun M36 =>
        (sp_i M36 x0 11 22 0).bind fun M38 =>
        (s_ob M38 x0 11).bind fun _ =>
        (f139 x0 61 M38).bind fun p40 =>
        if p40.1 = 0 then
          s_rb 0 p40.2
        else
          (s_ob p40.2 x0 11).bind fun _ =>
          (f148 x0 p40.2).bind fun p43 =>
          if ¬ p43.1 = 0 then
            (sg_r p43.2 x0 11 33).bind fun v46 =>
            (sg_i p43.2 x0 11 24).bind fun v48 =>
            (v46).bind fun q50 =>
            (ss_i p43.2 q50 0 x1 v48).bind fun M52 =>
            (s_ob M52 x0 11).bind fun _ =>
            (f138 x0 26982 M52).bind fun p54 =>
            if p54.1 = 0 then
              f152_j116 x0 x1 p7.1 p54.2
            else
              (s_ob p54.2 x0 11).bind fun _ =>
              (f151 x0 p54.2).bind fun p77 =>
              if ¬ p77.1 = 0 then
                f152_j116 x0 x1 p7.1 p77.2
              else
                s_rb 0 p77.2
          else
            s_rb 0 p43.2
      else
        s_rb 0 p15.2
theorem f152_ok {x0 : Nat} {x1 : Int32} {M : vm_M} {r : Int32 × vm_M} (h : f152 x0 x1 M = some r) (d : Nat) : vm_Cl (d + 125) 152 [.ref (x0), .int (x1)] M (rI r) := by
  have key : Ev 0 (fun _ => 0) (vm_Cl (d + 124)) vp_152 11 4 false (some (.boolean)) (rI r) 0 (lv_args 0 [.ref (x0), .int (x1)]) [] M := by
    have l0 : (0, .ref (x0)) ∈ lv_args 0 [.ref (x0), .int (x1)] := List.Mem.head _
    have l1 : (1, .int (x1)) ∈ lv_args 0 [.ref (x0), .int (x1)] := List.Mem.tail _ (List.Mem.head _)
    unfold f152 at h
    refine ev_aload_nR (mm 0 rfl) l0 ?_
    obtain ⟨v1, e2, h⟩ := bind_so h
    refine ev_get_r (mm 1 rfl) rfl e2 ?_
    refine ev_iload_n (mm 2 rfl) l1 ?_
    refine ev_iconst (mm 3 rfl) cI_0 ?_
    obtain ⟨q3, e4, h⟩ := bind_so h
    rw [e4]
    obtain ⟨M5, e6, h⟩ := bind_so h
    refine ev_iastore (mm 4 rfl) e6 ?_
    refine ev_aload_nR (mm 5 rfl) l0 ?_
    obtain ⟨_, e85, h⟩ := bind_so h
    obtain ⟨p7, e8, h⟩ := bind_so h
    refine ev_callV_J [] (mm 6 rfl) rfl rfl (Nat.le_of_ble_eq_true rfl) (s_ob_of e85) (f137_ok e8 (d + 122)) ?_
    refine evs_lstore_n (mm 7 rfl) (by decide) (fun lv9 l2 s10 => ?_)
    have l0 := s10 _ _ l0 rfl
    have l1 := s10 _ _ l1 rfl
    refine ev_lload_n (mm 8 rfl) l2 ?_
    refine ev_lconst (mm 9 rfl) cL_0 ?_
    refine ev_lcmp (mm 10 rfl) ?_
    rcases ite_so h with ⟨c11, h⟩ | ⟨c11, h⟩
    · refine ev_if_t 34 (mm 11 rfl) rfl c11 ?_
      refine ev_iconst (mm 20 rfl) cI_0 ?_
      exact ev_zreturn (mm 21 rfl) h
    · refine ev_if_f 34 (mm 11 rfl) rfl c11 ?_
      refine ev_lload_n (mm 12 rfl) l2 ?_
      obtain ⟨p12, e13, h⟩ := bind_so h
      refine ev_callS_I [.long (p7.1)] (mm 13 rfl) (by decide) rfl rfl (Nat.le_of_ble_eq_true rfl) (f142_ok e13 (d + 122)) ?_
      rcases ite_so h with ⟨c14, h⟩ | ⟨c14, h⟩
      · refine ev_if_t 34 (mm 14 rfl) rfl c14 ?_
        refine ev_iconst (mm 20 rfl) cI_0 ?_
        exact ev_zreturn (mm 21 rfl) h
      · refine ev_if_f 34 (mm 14 rfl) rfl c14 ?_
        refine ev_aload_nR (mm 15 rfl) l0 ?_
        refine ev_lload_n (mm 16 rfl) l2 ?_
        obtain ⟨_, e84, h⟩ := bind_so h
        obtain ⟨p15, e16, h⟩ := bind_so h
        refine ev_callV_I [.long (p7.1)] (mm 17 rfl) rfl rfl (Nat.le_of_ble_eq_true rfl) (s_ob_of e84) (f143_ok e16 (d + 123)) ?_
        refine ev_iconst (mm 18 rfl) cI_m1 ?_
        rcases ite_so h with ⟨c17, h⟩ | ⟨c17, h⟩
        · refine ev_ic_t 36 (mm 19 rfl) rfl c17 ?_
          refine ev_aload_nR (mm 22 rfl) l0 ?_
          refine ev_aload_nR (mm 23 rfl) l0 ?_
          obtain ⟨v18, e19, h⟩ := bind_so h
          refine ev_get_i (mm 24 rfl) rfl e19 ?_
          obtain ⟨M20, e21, h⟩ := bind_so h
          refine ev_put_i (mm 25 rfl) (fun z => by cases z) rfl e21 ?_
          refine ev_aload_nR (mm 26 rfl) l0 ?_
          obtain ⟨v22, e23, h⟩ := bind_so h
          refine ev_get_r (mm 27 rfl) rfl e23 ?_
          refine ev_iload_n (mm 28 rfl) l1 ?_
          refine ev_aload_nR (mm 29 rfl) l0 ?_
          obtain ⟨v24, e25, h⟩ := bind_so h
          refine ev_get_i (mm 30 rfl) rfl e25 ?_
          obtain ⟨q26, e27, h⟩ := bind_so h
          rw [e27]
          obtain ⟨M28, e29, h⟩ := bind_so h
          refine ev_iastore (mm 31 rfl) e29 ?_
          refine ev_aload_nR (mm 32 rfl) l0 ?_
          obtain ⟨v30, e31, h⟩ := bind_so h
          refine ev_get_r (mm 33 rfl) rfl e31 ?_
          refine ev_iload_n (mm 34 rfl) l1 ?_
          refine ev_aload_nR (mm 35 rfl) l0 ?_
          obtain ⟨v32, e33, h⟩ := bind_so h
          refine ev_get_i (mm 36 rfl) rfl e33 ?_
          obtain ⟨q34, e35, h⟩ := bind_so h
          rw [e35]
          obtain ⟨M36, e37, h⟩ := bind_so h
          refine ev_iastore (mm 37 rfl) e37 ?_
          refine ev_aload_nR (mm 38 rfl) l0 ?_
          refine ev_iconst (mm 39 rfl) cI_0 ?_
          obtain ⟨M38, e39, h⟩ := bind_so h
          refine ev_put_i (mm 40 rfl) (fun z => by cases z) rfl e39 ?_
          refine ev_aload_nR (mm 41 rfl) l0 ?_
          refine ev_bipush (mm 42 rfl) cB_61 ?_
          obtain ⟨_, e83, h⟩ := bind_so h
          obtain ⟨p40, e41, h⟩ := bind_so h
          refine ev_callV_I [.int (61)] (mm 43 rfl) rfl rfl (Nat.le_of_ble_eq_true rfl) (s_ob_of e83) (f139_ok e41 (d + 122)) ?_
          rcases ite_so h with ⟨c42, h⟩ | ⟨c42, h⟩
          · refine ev_if_t 85 (mm 44 rfl) rfl c42 ?_
            refine ev_iconst (mm 48 rfl) cI_0 ?_
            exact ev_zreturn (mm 49 rfl) h
          · refine ev_if_f 85 (mm 44 rfl) rfl c42 ?_
            refine ev_aload_nR (mm 45 rfl) l0 ?_
            obtain ⟨_, e82, h⟩ := bind_so h
            obtain ⟨p43, e44, h⟩ := bind_so h
            refine ev_callV_I [] (mm 46 rfl) rfl rfl (Nat.le_of_ble_eq_true rfl) (s_ob_of e82) (f148_ok e44 (d + 61)) ?_
            rcases ite_so h with ⟨c45, h⟩ | ⟨c45, h⟩
            · refine ev_if_t 87 (mm 47 rfl) rfl c45 ?_
              refine ev_aload_nR (mm 50 rfl) l0 ?_
              obtain ⟨v46, e47, h⟩ := bind_so h
              refine ev_get_r (mm 51 rfl) rfl e47 ?_
              refine ev_iload_n (mm 52 rfl) l1 ?_
              refine ev_aload_nR (mm 53 rfl) l0 ?_
              obtain ⟨v48, e49, h⟩ := bind_so h
              refine ev_get_i (mm 54 rfl) rfl e49 ?_
              obtain ⟨q50, e51, h⟩ := bind_so h
              rw [e51]
              obtain ⟨M52, e53, h⟩ := bind_so h
              refine ev_iastore (mm 55 rfl) e53 ?_
              refine ev_aload_nR (mm 56 rfl) l0 ?_
              refine ev_ldc2_w (mm 57 rfl) cJ_26982 ?_
              obtain ⟨_, e81, h⟩ := bind_so h
              obtain ⟨p54, e55, h⟩ := bind_so h
              refine ev_callV_I [.long (26982)] (mm 58 rfl) rfl rfl (Nat.le_of_ble_eq_true rfl) (s_ob_of e81) (f138_ok e55 (d + 121)) ?_
              rcases ite_so h with ⟨c56, h⟩ | ⟨c56, h⟩
              · refine ev_if_t 116 (mm 59 rfl) rfl c56 ?_
                exact f152_j116_ok l0 l1 l2 h
              · refine ev_if_f 116 (mm 59 rfl) rfl c56 ?_
                refine ev_aload_nR (mm 60 rfl) l0 ?_
                obtain ⟨_, e80, h⟩ := bind_so h
                obtain ⟨p77, e78, h⟩ := bind_so h
                refine ev_callV_I [] (mm 61 rfl) rfl rfl (Nat.le_of_ble_eq_true rfl) (s_ob_of e80) (f151_ok e78 (d + 0)) ?_
                rcases ite_so h with ⟨c79, h⟩ | ⟨c79, h⟩
                · refine ev_if_t 116 (mm 62 rfl) rfl c79 ?_
                  exact f152_j116_ok l0 l1 l2 h
                · refine ev_if_f 116 (mm 62 rfl) rfl c79 ?_
                  refine ev_iconst (mm 63 rfl) cI_0 ?_
                  exact ev_zreturn (mm 64 rfl) h
            · refine ev_if_f 87 (mm 47 rfl) rfl c45 ?_
              refine ev_iconst (mm 48 rfl) cI_0 ?_
              exact ev_zreturn (mm 49 rfl) h
        · refine ev_ic_f 36 (mm 19 rfl) rfl c17 ?_
          refine ev_iconst (mm 20 rfl) cI_0 ?_
          exact ev_zreturn (mm 21 rfl) h
  exact ⟨by decide, Nat.le_of_ble_eq_true rfl, key.1, key.2⟩
