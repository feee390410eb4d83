/-! shallow functions, by program (wip/gen_fun.py) -/
/-- PupilCoin.mayObject(II)Z -/
def f108 (x0 : Nat) (x1 : Int32) (x2 : Int32) (M : vm_M) : Option (Int32 × vm_M) :=
  (sg_r M x0 10 0).bind fun v1 =>
  (v1).bind fun q3 =>
  (sg_r M q3 0 1).bind fun v5 =>
  (v5).bind fun q7 =>
  (sa_i M q7 0 x2).bind fun v9 =>
  (sg_r M x0 10 5).bind fun v11 =>
  (v11).bind fun q13 =>
  (sg_r M q13 4 0).bind fun v15 =>
  (v15).bind fun q17 =>
  (sa_i M q17 0 x1).bind fun v19 =>
  if ¬ v9 = v19 then
    s_rb 0 M
  else
    (sg_r M x0 10 0).bind fun v22 =>
    (sg_i M x0 10 10).bind fun v24 =>
    (s_dv v24 100).bind fun v26 =>
    (v22).bind fun q28 =>
    (s_ob M q28 0).bind fun _ =>
    (f2 q28 x2 v26 M).bind fun p30 =>
    if p30.1 = 0 then
      s_rb 0 p30.2
    else
      s_rb 1 p30.2
theorem f108_ok {x0 : Nat} {x1 : Int32} {x2 : Int32} {M : vm_M} {r : Int32 × vm_M} (h : f108 x0 x1 x2 M = some r) (d : Nat) : vm_Cl (d + 2) 108 [.ref (x0), .int (x1), .int (x2)] M (rI r) := by
  have key : Ev 0 (fun _ => 0) (vm_Cl (d + 1)) vp_108 10 3 false (some (.boolean)) (rI r) 0 (lv_args 0 [.ref (x0), .int (x1), .int (x2)]) [] M := by
    have l0 : (0, .ref (x0)) ∈ lv_args 0 [.ref (x0), .int (x1), .int (x2)] := List.Mem.head _
    have l1 : (1, .int (x1)) ∈ lv_args 0 [.ref (x0), .int (x1), .int (x2)] := List.Mem.tail _ (List.Mem.head _)
    have l2 : (2, .int (x2)) ∈ lv_args 0 [.ref (x0), .int (x1), .int (x2)] := List.Mem.tail _ (List.Mem.tail _ (List.Mem.head _))
    unfold f108 at h
    refine ev_aload_nR (mm 0 rfl) l0 ?_
    obtain ⟨v1, e2, h⟩ := bind_so h
    refine ev_get_r (mm 1 rfl) rfl e2 ?_
    obtain ⟨q3, e4, h⟩ := bind_so h
    rw [e4]
    obtain ⟨v5, e6, h⟩ := bind_so h
    refine ev_get_r (mm 2 rfl) rfl e6 ?_
    refine ev_iload_n (mm 3 rfl) l2 ?_
    obtain ⟨q7, e8, h⟩ := bind_so h
    rw [e8]
    obtain ⟨v9, e10, h⟩ := bind_so h
    refine ev_iaload (mm 4 rfl) e10 ?_
    refine ev_aload_nR (mm 5 rfl) l0 ?_
    obtain ⟨v11, e12, h⟩ := bind_so h
    refine ev_get_r (mm 6 rfl) rfl e12 ?_
    obtain ⟨q13, e14, h⟩ := bind_so h
    rw [e14]
    obtain ⟨v15, e16, h⟩ := bind_so h
    refine ev_get_r (mm 7 rfl) rfl e16 ?_
    refine ev_iload_n (mm 8 rfl) l1 ?_
    obtain ⟨q17, e18, h⟩ := bind_so h
    rw [e18]
    obtain ⟨v19, e20, h⟩ := bind_so h
    refine ev_iaload (mm 9 rfl) e20 ?_
    rcases ite_so h with ⟨c21, h⟩ | ⟨c21, h⟩
    · refine ev_ic_t 43 (mm 10 rfl) rfl c21 ?_
      refine ev_iconst (mm 22 rfl) cI_0 ?_
      exact ev_zreturn (mm 23 rfl) h
    · refine ev_ic_f 43 (mm 10 rfl) rfl c21 ?_
      refine ev_aload_nR (mm 11 rfl) l0 ?_
      obtain ⟨v22, e23, h⟩ := bind_so h
      refine ev_get_r (mm 12 rfl) rfl e23 ?_
      refine ev_iload_n (mm 13 rfl) l2 ?_
      refine ev_aload_nR (mm 14 rfl) l0 ?_
      obtain ⟨v24, e25, h⟩ := bind_so h
      refine ev_get_i (mm 15 rfl) rfl e25 ?_
      refine ev_bipush (mm 16 rfl) cB_100 ?_
      obtain ⟨v26, e27, h⟩ := bind_so h
      refine ev_idiv (mm 17 rfl) e27 ?_
      obtain ⟨q28, e29, h⟩ := bind_so h
      rw [e29]
      obtain ⟨_, e33, h⟩ := bind_so h
      obtain ⟨p30, e31, h⟩ := bind_so h
      refine ev_callV_I [.int (x2), .int (v26)] (mm 18 rfl) rfl rfl (Nat.le_of_ble_eq_true rfl) (s_ob_of e33) (f2_ok e31 (d + 0)) ?_
      rcases ite_so h with ⟨c32, h⟩ | ⟨c32, h⟩
      · refine ev_if_t 43 (mm 19 rfl) rfl c32 ?_
        refine ev_iconst (mm 22 rfl) cI_0 ?_
        exact ev_zreturn (mm 23 rfl) h
      · refine ev_if_f 43 (mm 19 rfl) rfl c32 ?_
        refine ev_iconst (mm 20 rfl) cI_1 ?_
        refine ev_goto 44 (mm 21 rfl) rfl ?_
        exact ev_zreturn (mm 23 rfl) h
  exact ⟨by decide, Nat.le_of_ble_eq_true rfl, key.1, key.2⟩
/-- PupilCoin.object(II)Z -/
def f93 (x0 : Nat) (x1 : Int32) (x2 : Int32) (M : vm_M) : Option (Int32 × vm_M) :=
  (sg_r M x0 10 5).bind fun v1 =>
  (v1).bind fun q3 =>
  (sg_i M q3 4 8).bind fun v5 =>
  (f102 x1 v5 M).bind fun p7 =>
  if p7.1 = 0 then
    s_rb 0 p7.2
  else
    (s_ob p7.2 x0 10).bind fun _ =>
    (f105 x0 x2 p7.2).bind fun p10 =>
    if ¬ p10.1 = 0 then
      (sg_r p10.2 x0 10 5).bind fun v13 =>
      (v13).bind fun q15 =>
      (sg_r p10.2 q15 4 7).bind fun v17 =>
      (v17).bind fun q19 =>
      (sa_i p10.2 q19 2 x1).bind fun v21 =>
      if ¬ v21 = 0 then
        s_rb 0 p10.2
      else
        (sg_r p10.2 x0 10 5).bind fun v24 =>
        (v24).bind fun q26 =>
        (s_ob p10.2 q26 4).bind fun _ =>
        (f22 q26 x1 x2 p10.2).bind fun p28 =>
        if p28.1 = 0 then
          (s_ob p28.2 x0 10).bind fun _ =>
          (f108 x0 x1 x2 p28.2).bind fun p31 =>
          if ¬ p31.1 = 0 then
            (sg_r p31.2 x0 10 5).bind fun v34 =>
            (v34).bind fun q36 =>
            (sg_r p31.2 q36 4 6).bind fun v38 =>
            (v38).bind fun q40 =>
            (sa_i p31.2 q40 0 x1).bind fun v42 =>
            (ss_i p31.2 q40 0 x1 (v42 ||| (1 <<< (x2 &&& 31)))).bind fun M44 =>
            s_rb 1 M44
          else
            s_rb 0 p31.2
        else
          s_rb 0 p28.2
    else
      s_rb 0 p10.2
theorem f93_ok {x0 : Nat} {x1 : Int32} {x2 : Int32} {M : vm_M} {r : Int32 × vm_M} (h : f93 x0 x1 x2 M = some r) (d : Nat) : vm_Cl (d + 3) 93 [.ref (x0), .int (x1), .int (x2)] M (rI r) := by
  have key : Ev 0 (fun _ => 0) (vm_Cl (d + 2)) vp_93 10 3 false (some (.boolean)) (rI r) 0 (lv_args 0 [.ref (x0), .int (x1), .int (x2)]) [] M := by
    have l0 : (0, .ref (x0)) ∈ lv_args 0 [.ref (x0), .int (x1), .int (x2)] := List.Mem.head _
    have l1 : (1, .int (x1)) ∈ lv_args 0 [.ref (x0), .int (x1), .int (x2)] := List.Mem.tail _ (List.Mem.head _)
    have l2 : (2, .int (x2)) ∈ lv_args 0 [.ref (x0), .int (x1), .int (x2)] := List.Mem.tail _ (List.Mem.tail _ (List.Mem.head _))
    unfold f93 at h
    refine ev_iload_n (mm 0 rfl) l1 ?_
    refine ev_aload_nR (mm 1 rfl) l0 ?_
    obtain ⟨v1, e2, h⟩ := bind_so h
    refine ev_get_r (mm 2 rfl) rfl e2 ?_
    obtain ⟨q3, e4, h⟩ := bind_so h
    rw [e4]
    obtain ⟨v5, e6, h⟩ := bind_so h
    refine ev_get_i (mm 3 rfl) rfl e6 ?_
    obtain ⟨p7, e8, h⟩ := bind_so h
    refine ev_callS_I [.int (x1), .int (v5)] (mm 4 rfl) (by decide) rfl rfl (Nat.le_of_ble_eq_true rfl) (f102_ok e8 (d + 1)) ?_
    rcases ite_so h with ⟨c9, h⟩ | ⟨c9, h⟩
    · refine ev_if_t 22 (mm 5 rfl) rfl c9 ?_
      refine ev_iconst (mm 10 rfl) cI_0 ?_
      exact ev_zreturn (mm 11 rfl) h
    · refine ev_if_f 22 (mm 5 rfl) rfl c9 ?_
      refine ev_aload_nR (mm 6 rfl) l0 ?_
      refine ev_iload_n (mm 7 rfl) l2 ?_
      obtain ⟨_, e48, h⟩ := bind_so h
      obtain ⟨p10, e11, h⟩ := bind_so h
      refine ev_callV_I [.int (x2)] (mm 8 rfl) rfl rfl (Nat.le_of_ble_eq_true rfl) (s_ob_of e48) (f105_ok e11 (d + 0)) ?_
      rcases ite_so h with ⟨c12, h⟩ | ⟨c12, h⟩
      · refine ev_if_t 24 (mm 9 rfl) rfl c12 ?_
        refine ev_aload_nR (mm 12 rfl) l0 ?_
        obtain ⟨v13, e14, h⟩ := bind_so h
        refine ev_get_r (mm 13 rfl) rfl e14 ?_
        obtain ⟨q15, e16, h⟩ := bind_so h
        rw [e16]
        obtain ⟨v17, e18, h⟩ := bind_so h
        refine ev_get_r (mm 14 rfl) rfl e18 ?_
        refine ev_iload_n (mm 15 rfl) l1 ?_
        obtain ⟨q19, e20, h⟩ := bind_so h
        rw [e20]
        obtain ⟨v21, e22, h⟩ := bind_so h
        refine ev_zaload (mm 16 rfl) e22 ?_
        rcases ite_so h with ⟨c23, h⟩ | ⟨c23, h⟩
        · refine ev_if_t 48 (mm 17 rfl) rfl c23 ?_
          refine ev_iconst (mm 24 rfl) cI_0 ?_
          exact ev_zreturn (mm 25 rfl) h
        · refine ev_if_f 48 (mm 17 rfl) rfl c23 ?_
          refine ev_aload_nR (mm 18 rfl) l0 ?_
          obtain ⟨v24, e25, h⟩ := bind_so h
          refine ev_get_r (mm 19 rfl) rfl e25 ?_
          refine ev_iload_n (mm 20 rfl) l1 ?_
          refine ev_iload_n (mm 21 rfl) l2 ?_
          obtain ⟨q26, e27, h⟩ := bind_so h
          rw [e27]
          obtain ⟨_, e47, h⟩ := bind_so h
          obtain ⟨p28, e29, h⟩ := bind_so h
          refine ev_callV_I [.int (x1), .int (x2)] (mm 22 rfl) rfl rfl (Nat.le_of_ble_eq_true rfl) (s_ob_of e47) (f22_ok e29 (d + 1)) ?_
          rcases ite_so h with ⟨c30, h⟩ | ⟨c30, h⟩
          · refine ev_if_t 50 (mm 23 rfl) rfl c30 ?_
            refine ev_aload_nR (mm 26 rfl) l0 ?_
            refine ev_iload_n (mm 27 rfl) l1 ?_
            refine ev_iload_n (mm 28 rfl) l2 ?_
            obtain ⟨_, e46, h⟩ := bind_so h
            obtain ⟨p31, e32, h⟩ := bind_so h
            refine ev_callV_I [.int (x1), .int (x2)] (mm 29 rfl) rfl rfl (Nat.le_of_ble_eq_true rfl) (s_ob_of e46) (f108_ok e32 (d + 0)) ?_
            rcases ite_so h with ⟨c33, h⟩ | ⟨c33, h⟩
            · refine ev_if_t 61 (mm 30 rfl) rfl c33 ?_
              refine ev_aload_nR (mm 33 rfl) l0 ?_
              obtain ⟨v34, e35, h⟩ := bind_so h
              refine ev_get_r (mm 34 rfl) rfl e35 ?_
              obtain ⟨q36, e37, h⟩ := bind_so h
              rw [e37]
              obtain ⟨v38, e39, h⟩ := bind_so h
              refine ev_get_r (mm 35 rfl) rfl e39 ?_
              refine ev_iload_n (mm 36 rfl) l1 ?_
              refine ev_dup2 (mm 37 rfl) rfl (by cases (v38 : Option Nat) <;> rfl) ?_
              obtain ⟨q40, e41, h⟩ := bind_so h
              rw [e41]
              obtain ⟨v42, e43, h⟩ := bind_so h
              refine ev_iaload (mm 38 rfl) e43 ?_
              refine ev_iconst (mm 39 rfl) cI_1 ?_
              refine ev_iload_n (mm 40 rfl) l2 ?_
              refine ev_ishl (mm 41 rfl) ?_
              refine ev_ior (mm 42 rfl) ?_
              obtain ⟨M44, e45, h⟩ := bind_so h
              refine ev_iastore (mm 43 rfl) e45 ?_
              refine ev_iconst (mm 44 rfl) cI_1 ?_
              exact ev_zreturn (mm 45 rfl) h
            · refine ev_if_f 61 (mm 30 rfl) rfl c33 ?_
              refine ev_iconst (mm 31 rfl) cI_0 ?_
              exact ev_zreturn (mm 32 rfl) h
          · refine ev_if_f 50 (mm 23 rfl) rfl c30 ?_
            refine ev_iconst (mm 24 rfl) cI_0 ?_
            exact ev_zreturn (mm 25 rfl) h
      · refine ev_if_f 24 (mm 9 rfl) rfl c12 ?_
        refine ev_iconst (mm 10 rfl) cI_0 ?_
        exact ev_zreturn (mm 11 rfl) h
  exact ⟨by decide, Nat.le_of_ble_eq_true rfl, key.1, key.2⟩
def f109_l7 (x0 : Nat) (x1 : Int32) (k57 : Int32 → Int32 → vm_M → Option (Int32 × vm_M)) : Nat → Int32 → Int32 → Int32 → vm_M → Option (Int32 × vm_M)
  | 0 => fun _ _ _ _ => none
  | n + 1 => fun x2 x3 x4 M =>
    (sg_r M x0 10 0).bind fun v7 =>
    (v7).bind fun q9 =>
    (sg_i M q9 0 7).bind fun v11 =>
    if v11 ≤ x4 then
      k57 x2 x3 M
    else
      (s_ob M x0 10).bind fun _ =>
      (f108 x0 x1 x4 M).bind fun p14 =>
      if ¬ p14.1 = 0 then
        (sg_r p14.2 x0 10 5).bind fun v19 =>
        (v19).bind fun q21 =>
        (s_ob p14.2 q21 4).bind fun _ =>
        (f22 q21 x1 x4 p14.2).bind fun p23 =>
        if p23.1 = 0 then
          f109_l7 x0 x1 k57 n (x2 + 1) x3 (x4 + 1) p23.2
        else
          f109_l7 x0 x1 k57 n (x2 + 1) (x3 + 1) (x4 + 1) p23.2
      else
        f109_l7 x0 x1 k57 n x2 x3 (x4 + 1) p14.2
theorem f109_l7_ok {d : Nat} {x0 : Nat} {x1 : Int32} {k57 : Int32 → Int32 → vm_M → Option (Int32 × vm_M)} {r : Int32 × vm_M} (hk57 : ∀ {y2 : Int32} {y3 : Int32} {M : vm_M} {lv : vm_L}, (2, .int (y2)) ∈ lv → (3, .int (y3)) ∈ lv → k57 y2 y3 M = some r → Ev 0 (fun _ => 0) (vm_Cl (d + 2)) vp_109 10 5 false (some (.boolean)) (rI r) 57 lv [] M) : ∀ (n : Nat) {x2 : Int32} {x3 : Int32} {x4 : Int32} {M : vm_M} {lv : vm_L}, (0, .ref (x0)) ∈ lv → (1, .int (x1)) ∈ lv → (2, .int (x2)) ∈ lv → (3, .int (x3)) ∈ lv → (4, .int (x4)) ∈ lv → f109_l7 x0 x1 k57 n x2 x3 x4 M = some r → Ev 0 (fun _ => 0) (vm_Cl (d + 2)) vp_109 10 5 false (some (.boolean)) (rI r) 7 lv [] M := by
  intro n
  induction n with
  | zero =>
    intro x2 x3 x4 M lv l0 l1 l2 l3 l4 h
    cases h
  | succ n ih =>
    intro x2 x3 x4 M lv l0 l1 l2 l3 l4 h
    dsimp only [f109_l7] at h
    refine ev_iload (mm 6 rfl) l4 ?_
    refine ev_aload_nR (mm 7 rfl) l0 ?_
    obtain ⟨v7, e8, h⟩ := bind_so h
    refine ev_get_r (mm 8 rfl) rfl e8 ?_
    obtain ⟨q9, e10, h⟩ := bind_so h
    rw [e10]
    obtain ⟨v11, e12, h⟩ := bind_so h
    refine ev_get_i (mm 9 rfl) rfl e12 ?_
    rcases ite_so h with ⟨c13, h⟩ | ⟨c13, h⟩
    · refine ev_ic_t 57 (mm 10 rfl) rfl c13 ?_
      exact hk57 l2 l3 h
    · refine ev_ic_f 57 (mm 10 rfl) rfl c13 ?_
      refine ev_aload_nR (mm 11 rfl) l0 ?_
      refine ev_iload_n (mm 12 rfl) l1 ?_
      refine ev_iload (mm 13 rfl) l4 ?_
      obtain ⟨_, e35, h⟩ := bind_so h
      obtain ⟨p14, e15, h⟩ := bind_so h
      refine ev_callV_I [.int (x1), .int (x4)] (mm 14 rfl) rfl rfl (Nat.le_of_ble_eq_true rfl) (s_ob_of e35) (f108_ok e15 (d + 0)) ?_
      rcases ite_so h with ⟨c16, h⟩ | ⟨c16, h⟩
      · refine ev_if_t 32 (mm 15 rfl) rfl c16 ?_
        refine evs_iinc (mm 17 rfl) cI_1 l2 (by decide) (fun lv17 l2 s18 => ?_)
        have l0 := s18 _ _ l0 rfl
        have l1 := s18 _ _ l1 rfl
        have l3 := s18 _ _ l3 rfl
        have l4 := s18 _ _ l4 rfl
        refine ev_aload_nR (mm 18 rfl) l0 ?_
        obtain ⟨v19, e20, h⟩ := bind_so h
        refine ev_get_r (mm 19 rfl) rfl e20 ?_
        refine ev_iload_n (mm 20 rfl) l1 ?_
        refine ev_iload (mm 21 rfl) l4 ?_
        obtain ⟨q21, e22, h⟩ := bind_so h
        rw [e22]
        obtain ⟨_, e32, h⟩ := bind_so h
        obtain ⟨p23, e24, h⟩ := bind_so h
        refine ev_callV_I [.int (x1), .int (x4)] (mm 22 rfl) rfl rfl (Nat.le_of_ble_eq_true rfl) (s_ob_of e32) (f22_ok e24 (d + 1)) ?_
        rcases ite_so h with ⟨c25, h⟩ | ⟨c25, h⟩
        · refine ev_if_t 51 (mm 23 rfl) rfl c25 ?_
          refine evs_iinc (mm 25 rfl) cI_1 l4 (by decide) (fun lv26 l4 s27 => ?_)
          have l0 := s27 _ _ l0 rfl
          have l1 := s27 _ _ l1 rfl
          have l2 := s27 _ _ l2 rfl
          have l3 := s27 _ _ l3 rfl
          refine ev_goto 7 (mm 26 rfl) rfl ?_
          exact ih l0 l1 l2 l3 l4 h
        · refine ev_if_f 51 (mm 23 rfl) rfl c25 ?_
          refine evs_iinc (mm 24 rfl) cI_1 l3 (by decide) (fun lv28 l3 s29 => ?_)
          have l0 := s29 _ _ l0 rfl
          have l1 := s29 _ _ l1 rfl
          have l2 := s29 _ _ l2 rfl
          have l4 := s29 _ _ l4 rfl
          refine evs_iinc (mm 25 rfl) cI_1 l4 (by decide) (fun lv30 l4 s31 => ?_)
          have l0 := s31 _ _ l0 rfl
          have l1 := s31 _ _ l1 rfl
          have l2 := s31 _ _ l2 rfl
          have l3 := s31 _ _ l3 rfl
          refine ev_goto 7 (mm 26 rfl) rfl ?_
          exact ih l0 l1 l2 l3 l4 h
      · refine ev_if_f 32 (mm 15 rfl) rfl c16 ?_
        refine ev_goto 51 (mm 16 rfl) rfl ?_
        refine evs_iinc (mm 25 rfl) cI_1 l4 (by decide) (fun lv33 l4 s34 => ?_)
        have l0 := s34 _ _ l0 rfl
        have l1 := s34 _ _ l1 rfl
        have l2 := s34 _ _ l2 rfl
        have l3 := s34 _ _ l3 rfl
        refine ev_goto 7 (mm 26 rfl) rfl ?_
        exact ih l0 l1 l2 l3 l4 h
/-- PupilCoin.isObjected(I)Z -/
def f109 (x0 : Nat) (x1 : Int32) (M : vm_M) : Option (Int32 × vm_M) :=
  f109_l7 x0 x1
    (fun y36 y37 M38 =>
      if (2 * y37) ≤ y36 then
        s_rb 0 M38
      else
        s_rb 1 M38)
    100000 0 0 0 M
theorem f109_ok {x0 : Nat} {x1 : Int32} {M : vm_M} {r : Int32 × vm_M} (h : f109 x0 x1 M = some r) (d : Nat) : vm_Cl (d + 3) 109 [.ref (x0), .int (x1)] M (rI r) := by
  have key : Ev 0 (fun _ => 0) (vm_Cl (d + 2)) vp_109 10 5 false (some (.boolean)) (rI r) 0 (lv_args 0 [.ref (x0), .int (x1)]) [] M := by
    have l0 : (0, .ref (x0)) ∈ lv_args 0 [.ref (x0), .int (x1)] := List.Mem.head _
    have l1 : (1, .int (x1)) ∈ lv_args 0 [.ref (x0), .int (x1)] := List.Mem.tail _ (List.Mem.head _)
    unfold f109 at h
    refine ev_iconst (mm 0 rfl) cI_0 ?_
    refine evs_istore_n (mm 1 rfl) (by decide) (fun lv1 l2 s2 => ?_)
    have l0 := s2 _ _ l0 rfl
    have l1 := s2 _ _ l1 rfl
    refine ev_iconst (mm 2 rfl) cI_0 ?_
    refine evs_istore_n (mm 3 rfl) (by decide) (fun lv3 l3 s4 => ?_)
    have l0 := s4 _ _ l0 rfl
    have l1 := s4 _ _ l1 rfl
    have l2 := s4 _ _ l2 rfl
    refine ev_iconst (mm 4 rfl) cI_0 ?_
    refine evs_istore (mm 5 rfl) (by decide) (fun lv5 l4 s6 => ?_)
    have l0 := s6 _ _ l0 rfl
    have l1 := s6 _ _ l1 rfl
    have l2 := s6 _ _ l2 rfl
    have l3 := s6 _ _ l3 rfl
    refine f109_l7_ok ?_ 100000 l0 l1 l2 l3 l4 h
    · intro y36 y37 M38 lv l2 l3
      intro h
      refine ev_iconst (mm 27 rfl) cI_2 ?_
      refine ev_iload_n (mm 28 rfl) l3 ?_
      refine ev_imul (mm 29 rfl) ?_
      refine ev_iload_n (mm 30 rfl) l2 ?_
      rcases ite_so h with ⟨c39, h⟩ | ⟨c39, h⟩
      · refine ev_ic_t 68 (mm 31 rfl) rfl c39 ?_
        refine ev_iconst (mm 34 rfl) cI_0 ?_
        exact ev_zreturn (mm 35 rfl) h
      · refine ev_ic_f 68 (mm 31 rfl) rfl c39 ?_
        refine ev_iconst (mm 32 rfl) cI_1 ?_
        refine ev_goto 69 (mm 33 rfl) rfl ?_
        exact ev_zreturn (mm 35 rfl) h
  exact ⟨by decide, Nat.le_of_ble_eq_true rfl, key.1, key.2⟩
def f110_l52 (x0 : Nat) (x1 : Int32) (x2 : Int32) (x3 : Int32) (x4 : Option Nat) (k99 : Int64 → vm_M → Option (Int32 × vm_M)) : Nat → Int64 → Int32 → vm_M → Option (Int32 × vm_M)
  | 0 => fun _ _ _ => none
  | n + 1 => fun x5 x7 M =>
    (sg_r M x0 10 0).bind fun v47 =>
    (v47).bind fun q49 =>
    (sg_i M q49 0 7).bind fun v51 =>
    if v51 ≤ x7 then
      k99 x5 M
    else
      (sg_r M x0 10 0).bind fun v54 =>
      (v54).bind fun q56 =>
      (sg_r M q56 0 1).bind fun v58 =>
      (v58).bind fun q60 =>
      (sa_i M q60 0 x7).bind fun v62 =>
      if ¬ v62 = x3 then
        f110_l52 x0 x1 x2 x3 x4 k99 n x5 (x7 + 1) M
      else
        (sg_r M x0 10 4).bind fun v67 =>
        (v67).bind fun q69 =>
        (sg_r M q69 9 11).bind fun v71 =>
        (v71).bind fun q73 =>
        (sa_l M q73 x7).bind fun v75 =>
        f110_l52 x0 x1 x2 x3 x4 k99 n (x5 + v75) (x7 + 1) M
theorem f110_l52_ok {d : Nat} {x0 : Nat} {x1 : Int32} {x2 : Int32} {x3 : Int32} {x4 : Option Nat} {k99 : Int64 → vm_M → Option (Int32 × vm_M)} {r : Int32 × vm_M} (hk99 : ∀ {y5 : Int64} {M : vm_M} {lv : vm_L}, (0, .ref (x0)) ∈ lv → (1, .int (x1)) ∈ lv → (2, .int (x2)) ∈ lv → (3, .int (x3)) ∈ lv → (4, va_rf (x4)) ∈ lv → (5, .long (y5)) ∈ lv → k99 y5 M = some r → Ev 0 (fun _ => 0) (vm_Cl (d + 6)) vp_110 10 9 false (some (.boolean)) (rI r) 99 lv [] M) : ∀ (n : Nat) {x5 : Int64} {x7 : Int32} {M : vm_M} {lv : vm_L}, (0, .ref (x0)) ∈ lv → (1, .int (x1)) ∈ lv → (2, .int (x2)) ∈ lv → (3, .int (x3)) ∈ lv → (4, va_rf (x4)) ∈ lv → (5, .long (x5)) ∈ lv → (7, .int (x7)) ∈ lv → f110_l52 x0 x1 x2 x3 x4 k99 n x5 x7 M = some r → Ev 0 (fun _ => 0) (vm_Cl (d + 6)) vp_110 10 9 false (some (.boolean)) (rI r) 52 lv [] M := by
  intro n
  induction n with
  | zero =>
    intro x5 x7 M lv l0 l1 l2 l3 l4 l5 l7 h
    cases h
  | succ n ih =>
    intro x5 x7 M lv l0 l1 l2 l3 l4 l5 l7 h
    dsimp only [f110_l52] at h
    refine ev_iload (mm 29 rfl) l7 ?_
    refine ev_aload_nR (mm 30 rfl) l0 ?_
    obtain ⟨v47, e48, h⟩ := bind_so h
    refine ev_get_r (mm 31 rfl) rfl e48 ?_
    obtain ⟨q49, e50, h⟩ := bind_so h
    rw [e50]
    obtain ⟨v51, e52, h⟩ := bind_so h
    refine ev_get_i (mm 32 rfl) rfl e52 ?_
    rcases ite_so h with ⟨c53, h⟩ | ⟨c53, h⟩
    · refine ev_ic_t 99 (mm 33 rfl) rfl c53 ?_
      exact hk99 l0 l1 l2 l3 l4 l5 h
    · refine ev_ic_f 99 (mm 33 rfl) rfl c53 ?_
      refine ev_aload_nR (mm 34 rfl) l0 ?_
      obtain ⟨v54, e55, h⟩ := bind_so h
      refine ev_get_r (mm 35 rfl) rfl e55 ?_
      obtain ⟨q56, e57, h⟩ := bind_so h
      rw [e57]
      obtain ⟨v58, e59, h⟩ := bind_so h
      refine ev_get_r (mm 36 rfl) rfl e59 ?_
      refine ev_iload (mm 37 rfl) l7 ?_
      obtain ⟨q60, e61, h⟩ := bind_so h
      rw [e61]
      obtain ⟨v62, e63, h⟩ := bind_so h
      refine ev_iaload (mm 38 rfl) e63 ?_
      refine ev_iload_n (mm 39 rfl) l3 ?_
      rcases ite_so h with ⟨c64, h⟩ | ⟨c64, h⟩
      · refine ev_ic_t 93 (mm 40 rfl) rfl c64 ?_
        refine evs_iinc (mm 49 rfl) cI_1 l7 (by decide) (fun lv65 l7 s66 => ?_)
        have l0 := s66 _ _ l0 rfl
        have l1 := s66 _ _ l1 rfl
        have l2 := s66 _ _ l2 rfl
        have l3 := s66 _ _ l3 rfl
        have l4 := s66 _ _ l4 rfl
        have l5 := s66 _ _ l5 rfl
        refine ev_goto 52 (mm 50 rfl) rfl ?_
        exact ih l0 l1 l2 l3 l4 l5 l7 h
      · refine ev_ic_f 93 (mm 40 rfl) rfl c64 ?_
        refine ev_lload (mm 41 rfl) l5 ?_
        refine ev_aload_nR (mm 42 rfl) l0 ?_
        obtain ⟨v67, e68, h⟩ := bind_so h
        refine ev_get_r (mm 43 rfl) rfl e68 ?_
        obtain ⟨q69, e70, h⟩ := bind_so h
        rw [e70]
        obtain ⟨v71, e72, h⟩ := bind_so h
        refine ev_get_r (mm 44 rfl) rfl e72 ?_
        refine ev_iload (mm 45 rfl) l7 ?_
        obtain ⟨q73, e74, h⟩ := bind_so h
        rw [e74]
        obtain ⟨v75, e76, h⟩ := bind_so h
        refine ev_laload (mm 46 rfl) e76 ?_
        refine ev_ladd (mm 47 rfl) ?_
        refine evs_lstore (mm 48 rfl) (by decide) (fun lv77 l5 s78 => ?_)
        have l0 := s78 _ _ l0 rfl
        have l1 := s78 _ _ l1 rfl
        have l2 := s78 _ _ l2 rfl
        have l3 := s78 _ _ l3 rfl
        have l4 := s78 _ _ l4 (by rw [va_rf_cat]; rfl)
        have l7 := s78 _ _ l7 rfl
        refine evs_iinc (mm 49 rfl) cI_1 l7 (by decide) (fun lv79 l7 s80 => ?_)
        have l0 := s80 _ _ l0 rfl
        have l1 := s80 _ _ l1 rfl
        have l2 := s80 _ _ l2 rfl
        have l3 := s80 _ _ l3 rfl
        have l4 := s80 _ _ l4 rfl
        have l5 := s80 _ _ l5 rfl
        refine ev_goto 52 (mm 50 rfl) rfl ?_
        exact ih l0 l1 l2 l3 l4 l5 l7 h
/-- PupilCoin.isTooMuch(I)Z -/
def f110 (x0 : Nat) (x1 : Int32) (M : vm_M) : Option (Int32 × vm_M) :=
  (sg_r M x0 10 5).bind fun v1 =>
  (v1).bind fun q3 =>
  (sg_r M q3 4 4).bind fun v5 =>
  (v5).bind fun q7 =>
  (sa_i M q7 0 x1).bind fun v9 =>
  (sg_r M x0 10 5).bind fun v13 =>
  (v13).bind fun q15 =>
  (sg_r M q15 4 0).bind fun v17 =>
  (v17).bind fun q19 =>
  (sa_i M q19 0 x1).bind fun v21 =>
  (sg_r M x0 10 3).bind fun v25 =>
  (sg_i M x0 10 10).bind fun v27 =>
  (v25).bind fun q29 =>
  (s_ob M q29 8).bind fun _ =>
  (f56 q29 v9 v27 M).bind fun p31 =>
  (sg_r p31.2 x0 10 4).bind fun v35 =>
  (sg_i p31.2 x0 10 10).bind fun v37 =>
  (v35).bind fun q39 =>
  (s_ob p31.2 q39 9).bind fun _ =>
  (f59 q39 v9 v37 p31.2).bind fun p41 =>
  f110_l52 x0 x1 v9 v21 p31.1
    (fun y81 M82 =>
      (sg_r M82 x0 10 5).bind fun v83 =>
      (v83).bind fun q85 =>
      (s_ob M82 q85 4).bind fun _ =>
      (f23 q85 v21 v9 M82).bind fun p87 =>
      (sg_r p87.2 x0 10 5).bind fun v89 =>
      (v89).bind fun q91 =>
      (sg_r p87.2 q91 4 3).bind fun v93 =>
      (v93).bind fun q95 =>
      (sa_i p87.2 q95 0 x1).bind fun v97 =>
      (p31.1).bind fun q101 =>
      (sg_r p87.2 q101 1 5).bind fun v103 =>
      (v103).bind fun q105 =>
      (sa_i p87.2 q105 0 3).bind fun v107 =>
      (s_dl (y81 * (v107 : Int32).toInt64) 100).bind fun v109 =>
      if (lg_cmp (p87.1 + (v97 : Int32).toInt64) v109) ≤ 0 then
        s_rb 0 p87.2
      else
        s_rb 1 p87.2)
    100000 0 0 p41
theorem f110_ok {x0 : Nat} {x1 : Int32} {M : vm_M} {r : Int32 × vm_M} (h : f110 x0 x1 M = some r) (d : Nat) : vm_Cl (d + 7) 110 [.ref (x0), .int (x1)] M (rI r) := by
  have key : Ev 0 (fun _ => 0) (vm_Cl (d + 6)) vp_110 10 9 false (some (.boolean)) (rI r) 0 (lv_args 0 [.ref (x0), .int (x1)]) [] M := by
    have l0 : (0, .ref (x0)) ∈ lv_args 0 [.ref (x0), .int (x1)] := List.Mem.head _
    have l1 : (1, .int (x1)) ∈ lv_args 0 [.ref (x0), .int (x1)] := List.Mem.tail _ (List.Mem.head _)
    unfold f110 at h
    refine ev_aload_nR (mm 0 rfl) l0 ?_
    obtain ⟨v1, e2, h⟩ := bind_so h
    refine ev_get_r (mm 1 rfl) rfl e2 ?_
    obtain ⟨q3, e4, h⟩ := bind_so h
    rw [e4]
    obtain ⟨v5, e6, h⟩ := bind_so h
    refine ev_get_r (mm 2 rfl) rfl e6 ?_
    refine ev_iload_n (mm 3 rfl) l1 ?_
    obtain ⟨q7, e8, h⟩ := bind_so h
    rw [e8]
    obtain ⟨v9, e10, h⟩ := bind_so h
    refine ev_iaload (mm 4 rfl) e10 ?_
    refine evs_istore_n (mm 5 rfl) (by decide) (fun lv11 l2 s12 => ?_)
    have l0 := s12 _ _ l0 rfl
    have l1 := s12 _ _ l1 rfl
    refine ev_aload_nR (mm 6 rfl) l0 ?_
    obtain ⟨v13, e14, h⟩ := bind_so h
    refine ev_get_r (mm 7 rfl) rfl e14 ?_
    obtain ⟨q15, e16, h⟩ := bind_so h
    rw [e16]
    obtain ⟨v17, e18, h⟩ := bind_so h
    refine ev_get_r (mm 8 rfl) rfl e18 ?_
    refine ev_iload_n (mm 9 rfl) l1 ?_
    obtain ⟨q19, e20, h⟩ := bind_so h
    rw [e20]
    obtain ⟨v21, e22, h⟩ := bind_so h
    refine ev_iaload (mm 10 rfl) e22 ?_
    refine evs_istore_n (mm 11 rfl) (by decide) (fun lv23 l3 s24 => ?_)
    have l0 := s24 _ _ l0 rfl
    have l1 := s24 _ _ l1 rfl
    have l2 := s24 _ _ l2 rfl
    refine ev_aload_nR (mm 12 rfl) l0 ?_
    obtain ⟨v25, e26, h⟩ := bind_so h
    refine ev_get_r (mm 13 rfl) rfl e26 ?_
    refine ev_iload_n (mm 14 rfl) l2 ?_
    refine ev_aload_nR (mm 15 rfl) l0 ?_
    obtain ⟨v27, e28, h⟩ := bind_so h
    refine ev_get_i (mm 16 rfl) rfl e28 ?_
    obtain ⟨q29, e30, h⟩ := bind_so h
    rw [e30]
    obtain ⟨_, e114, h⟩ := bind_so h
    obtain ⟨p31, e32, h⟩ := bind_so h
    refine ev_callV_A [.int (v9), .int (v27)] (mm 17 rfl) rfl rfl (Nat.le_of_ble_eq_true rfl) (s_ob_of e114) (f56_ok e32 (d + 5)) ?_
    refine evs_astore (mm 18 rfl) (by decide) (fun lv33 l4 s34 => ?_)
    have l0 := s34 _ _ l0 rfl
    have l1 := s34 _ _ l1 rfl
    have l2 := s34 _ _ l2 rfl
    have l3 := s34 _ _ l3 rfl
    refine ev_aload_nR (mm 19 rfl) l0 ?_
    obtain ⟨v35, e36, h⟩ := bind_so h
    refine ev_get_r (mm 20 rfl) rfl e36 ?_
    refine ev_iload_n (mm 21 rfl) l2 ?_
    refine ev_aload_nR (mm 22 rfl) l0 ?_
    obtain ⟨v37, e38, h⟩ := bind_so h
    refine ev_get_i (mm 23 rfl) rfl e38 ?_
    obtain ⟨q39, e40, h⟩ := bind_so h
    rw [e40]
    obtain ⟨_, e113, h⟩ := bind_so h
    obtain ⟨p41, e42, h⟩ := bind_so h
    refine ev_callV_V [.int (v9), .int (v37)] (mm 24 rfl) rfl rfl (Nat.le_of_ble_eq_true rfl) (s_ob_of e113) (f59_ok e42 (d + 0)) ?_
    refine ev_lconst (mm 25 rfl) cL_0 ?_
    refine evs_lstore (mm 26 rfl) (by decide) (fun lv43 l5 s44 => ?_)
    have l0 := s44 _ _ l0 rfl
    have l1 := s44 _ _ l1 rfl
    have l2 := s44 _ _ l2 rfl
    have l3 := s44 _ _ l3 rfl
    have l4 := s44 _ _ l4 (by rw [va_rf_cat]; rfl)
    refine ev_iconst (mm 27 rfl) cI_0 ?_
    refine evs_istore (mm 28 rfl) (by decide) (fun lv45 l7 s46 => ?_)
    have l0 := s46 _ _ l0 rfl
    have l1 := s46 _ _ l1 rfl
    have l2 := s46 _ _ l2 rfl
    have l3 := s46 _ _ l3 rfl
    have l4 := s46 _ _ l4 rfl
    have l5 := s46 _ _ l5 rfl
    refine f110_l52_ok ?_ 100000 l0 l1 l2 l3 l4 l5 l7 h
    · intro y81 M82 lv l0 l1 l2 l3 l4 l5
      intro h
      refine ev_aload_nR (mm 51 rfl) l0 ?_
      obtain ⟨v83, e84, h⟩ := bind_so h
      refine ev_get_r (mm 52 rfl) rfl e84 ?_
      refine ev_iload_n (mm 53 rfl) l3 ?_
      refine ev_iload_n (mm 54 rfl) l2 ?_
      obtain ⟨q85, e86, h⟩ := bind_so h
      rw [e86]
      obtain ⟨_, e112, h⟩ := bind_so h
      obtain ⟨p87, e88, h⟩ := bind_so h
      refine ev_callV_J [.int (v21), .int (v9)] (mm 55 rfl) rfl rfl (Nat.le_of_ble_eq_true rfl) (s_ob_of e112) (f23_ok e88 (d + 5)) ?_
      refine ev_aload_nR (mm 56 rfl) l0 ?_
      obtain ⟨v89, e90, h⟩ := bind_so h
      refine ev_get_r (mm 57 rfl) rfl e90 ?_
      obtain ⟨q91, e92, h⟩ := bind_so h
      rw [e92]
      obtain ⟨v93, e94, h⟩ := bind_so h
      refine ev_get_r (mm 58 rfl) rfl e94 ?_
      refine ev_iload_n (mm 59 rfl) l1 ?_
      obtain ⟨q95, e96, h⟩ := bind_so h
      rw [e96]
      obtain ⟨v97, e98, h⟩ := bind_so h
      refine ev_iaload (mm 60 rfl) e98 ?_
      refine ev_i2l (mm 61 rfl) ?_
      refine ev_ladd (mm 62 rfl) ?_
      refine evs_lstore (mm 63 rfl) (by decide) (fun lv99 l7 s100 => ?_)
      have l4 := s100 _ _ l4 rfl
      have l5 := s100 _ _ l5 rfl
      refine ev_lload (mm 64 rfl) l7 ?_
      refine ev_lload (mm 65 rfl) l5 ?_
      refine ev_aload (mm 66 rfl) l4 ?_
      obtain ⟨q101, e102, h⟩ := bind_so h
      rw [e102]
      rw [e102] at l4
      obtain ⟨v103, e104, h⟩ := bind_so h
      refine ev_get_r (mm 67 rfl) rfl e104 ?_
      refine ev_iconst (mm 68 rfl) cI_3 ?_
      obtain ⟨q105, e106, h⟩ := bind_so h
      rw [e106]
      obtain ⟨v107, e108, h⟩ := bind_so h
      refine ev_iaload (mm 69 rfl) e108 ?_
      refine ev_i2l (mm 70 rfl) ?_
      refine ev_lmul (mm 71 rfl) ?_
      refine ev_ldc2_w (mm 72 rfl) cJ_100 ?_
      obtain ⟨v109, e110, h⟩ := bind_so h
      refine ev_ldiv (mm 73 rfl) e110 ?_
      refine ev_lcmp (mm 74 rfl) ?_
      rcases ite_so h with ⟨c111, h⟩ | ⟨c111, h⟩
      · refine ev_if_t 146 (mm 75 rfl) rfl c111 ?_
        refine ev_iconst (mm 78 rfl) cI_0 ?_
        exact ev_zreturn (mm 79 rfl) h
      · refine ev_if_f 146 (mm 75 rfl) rfl c111 ?_
        refine ev_iconst (mm 76 rfl) cI_1 ?_
        refine ev_goto 147 (mm 77 rfl) rfl ?_
        exact ev_zreturn (mm 79 rfl) h
  exact ⟨by decide, Nat.le_of_ble_eq_true rfl, key.1, key.2⟩
/-- PupilCoin.adopt(I)I -/
def f94 (x0 : Nat) (x1 : Int32) (M : vm_M) : Option (Int32 × vm_M) :=
  (sg_r M x0 10 5).bind fun v1 =>
  (v1).bind fun q3 =>
  (sg_i M q3 4 8).bind fun v5 =>
  (f102 x1 v5 M).bind fun p7 =>
  if p7.1 = 0 then
    some (1, p7.2)
  else
    (sg_r p7.2 x0 10 5).bind fun v10 =>
    (v10).bind fun q12 =>
    (sg_r p7.2 q12 4 7).bind fun v14 =>
    (v14).bind fun q16 =>
    (sa_i p7.2 q16 2 x1).bind fun v18 =>
    if v18 = 0 then
      (sg_i p7.2 x0 10 10).bind fun v21 =>
      (sg_r p7.2 x0 10 5).bind fun v23 =>
      (v23).bind fun q25 =>
      (sg_r p7.2 q25 4 5).bind fun v27 =>
      (v27).bind fun q29 =>
      (sa_i p7.2 q29 0 x1).bind fun v31 =>
      if (v31 + 10) ≤ v21 then
        (sg_i p7.2 x0 10 10).bind fun v34 =>
        (sg_r p7.2 x0 10 5).bind fun v36 =>
        (v36).bind fun q38 =>
        (sg_r p7.2 q38 4 4).bind fun v40 =>
        (v40).bind fun q42 =>
        (sa_i p7.2 q42 0 x1).bind fun v44 =>
        if v34 < (v44 * 100) then
          (s_ob p7.2 x0 10).bind fun _ =>
          (f109 x0 x1 p7.2).bind fun p47 =>
          if p47.1 = 0 then
            (s_ob p47.2 x0 10).bind fun _ =>
            (f110 x0 x1 p47.2).bind fun p50 =>
            if p50.1 = 0 then
              (sg_r p50.2 x0 10 5).bind fun v53 =>
              (v53).bind fun q55 =>
              (sg_r p50.2 q55 4 7).bind fun v57 =>
              (v57).bind fun q59 =>
              (ss_i p50.2 q59 2 x1 1).bind fun M61 =>
              (sg_r M61 x0 10 5).bind fun v63 =>
              (v63).bind fun q65 =>
              (sg_i M61 q65 4 9).bind fun v67 =>
              (sp_i M61 q65 4 9 (v67 + 1)).bind fun M69 =>
              some (0, M69)
            else
              some (5, p50.2)
          else
            some (4, p47.2)
        else
          some (3, p7.2)
      else
        some (2, p7.2)
    else
      some (1, p7.2)
theorem f94_ok {x0 : Nat} {x1 : Int32} {M : vm_M} {r : Int32 × vm_M} (h : f94 x0 x1 M = some r) (d : Nat) : vm_Cl (d + 8) 94 [.ref (x0), .int (x1)] M (rI r) := by
  have key : Ev 0 (fun _ => 0) (vm_Cl (d + 7)) vp_94 10 2 false (some (.int)) (rI r) 0 (lv_args 0 [.ref (x0), .int (x1)]) [] M := by
    have l0 : (0, .ref (x0)) ∈ lv_args 0 [.ref (x0), .int (x1)] := List.Mem.head _
    have l1 : (1, .int (x1)) ∈ lv_args 0 [.ref (x0), .int (x1)] := List.Mem.tail _ (List.Mem.head _)
    unfold f94 at h
    refine ev_iload_n (mm 0 rfl) l1 ?_
    refine ev_aload_nR (mm 1 rfl) l0 ?_
    obtain ⟨v1, e2, h⟩ := bind_so h
    refine ev_get_r (mm 2 rfl) rfl e2 ?_
    obtain ⟨q3, e4, h⟩ := bind_so h
    rw [e4]
    obtain ⟨v5, e6, h⟩ := bind_so h
    refine ev_get_i (mm 3 rfl) rfl e6 ?_
    obtain ⟨p7, e8, h⟩ := bind_so h
    refine ev_callS_I [.int (x1), .int (v5)] (mm 4 rfl) (by decide) rfl rfl (Nat.le_of_ble_eq_true rfl) (f102_ok e8 (d + 6)) ?_
    rcases ite_so h with ⟨c9, h⟩ | ⟨c9, h⟩
    · refine ev_if_t 26 (mm 5 rfl) rfl c9 ?_
      refine ev_iconst (mm 12 rfl) cI_1 ?_
      exact ev_ireturn (mm 13 rfl) h
    · refine ev_if_f 26 (mm 5 rfl) rfl c9 ?_
      refine ev_aload_nR (mm 6 rfl) l0 ?_
      obtain ⟨v10, e11, h⟩ := bind_so h
      refine ev_get_r (mm 7 rfl) rfl e11 ?_
      obtain ⟨q12, e13, h⟩ := bind_so h
      rw [e13]
      obtain ⟨v14, e15, h⟩ := bind_so h
      refine ev_get_r (mm 8 rfl) rfl e15 ?_
      refine ev_iload_n (mm 9 rfl) l1 ?_
      obtain ⟨q16, e17, h⟩ := bind_so h
      rw [e17]
      obtain ⟨v18, e19, h⟩ := bind_so h
      refine ev_zaload (mm 10 rfl) e19 ?_
      rcases ite_so h with ⟨c20, h⟩ | ⟨c20, h⟩
      · refine ev_if_t 28 (mm 11 rfl) rfl c20 ?_
        refine ev_aload_nR (mm 14 rfl) l0 ?_
        obtain ⟨v21, e22, h⟩ := bind_so h
        refine ev_get_i (mm 15 rfl) rfl e22 ?_
        refine ev_aload_nR (mm 16 rfl) l0 ?_
        obtain ⟨v23, e24, h⟩ := bind_so h
        refine ev_get_r (mm 17 rfl) rfl e24 ?_
        obtain ⟨q25, e26, h⟩ := bind_so h
        rw [e26]
        obtain ⟨v27, e28, h⟩ := bind_so h
        refine ev_get_r (mm 18 rfl) rfl e28 ?_
        refine ev_iload_n (mm 19 rfl) l1 ?_
        obtain ⟨q29, e30, h⟩ := bind_so h
        rw [e30]
        obtain ⟨v31, e32, h⟩ := bind_so h
        refine ev_iaload (mm 20 rfl) e32 ?_
        refine ev_bipush (mm 21 rfl) cB_10 ?_
        refine ev_iadd (mm 22 rfl) ?_
        rcases ite_so h with ⟨c33, h⟩ | ⟨c33, h⟩
        · refine ev_ic_t 49 (mm 23 rfl) rfl c33 ?_
          refine ev_aload_nR (mm 26 rfl) l0 ?_
          obtain ⟨v34, e35, h⟩ := bind_so h
          refine ev_get_i (mm 27 rfl) rfl e35 ?_
          refine ev_aload_nR (mm 28 rfl) l0 ?_
          obtain ⟨v36, e37, h⟩ := bind_so h
          refine ev_get_r (mm 29 rfl) rfl e37 ?_
          obtain ⟨q38, e39, h⟩ := bind_so h
          rw [e39]
          obtain ⟨v40, e41, h⟩ := bind_so h
          refine ev_get_r (mm 30 rfl) rfl e41 ?_
          refine ev_iload_n (mm 31 rfl) l1 ?_
          obtain ⟨q42, e43, h⟩ := bind_so h
          rw [e43]
          obtain ⟨v44, e45, h⟩ := bind_so h
          refine ev_iaload (mm 32 rfl) e45 ?_
          refine ev_bipush (mm 33 rfl) cB_100 ?_
          refine ev_imul (mm 34 rfl) ?_
          rcases ite_so h with ⟨c46, h⟩ | ⟨c46, h⟩
          · refine ev_ic_t 70 (mm 35 rfl) rfl c46 ?_
            refine ev_aload_nR (mm 38 rfl) l0 ?_
            refine ev_iload_n (mm 39 rfl) l1 ?_
            obtain ⟨_, e72, h⟩ := bind_so h
            obtain ⟨p47, e48, h⟩ := bind_so h
            refine ev_callV_I [.int (x1)] (mm 40 rfl) rfl rfl (Nat.le_of_ble_eq_true rfl) (s_ob_of e72) (f109_ok e48 (d + 4)) ?_
            rcases ite_so h with ⟨c49, h⟩ | ⟨c49, h⟩
            · refine ev_if_t 80 (mm 41 rfl) rfl c49 ?_
              refine ev_aload_nR (mm 44 rfl) l0 ?_
              refine ev_iload_n (mm 45 rfl) l1 ?_
              obtain ⟨_, e71, h⟩ := bind_so h
              obtain ⟨p50, e51, h⟩ := bind_so h
              refine ev_callV_I [.int (x1)] (mm 46 rfl) rfl rfl (Nat.le_of_ble_eq_true rfl) (s_ob_of e71) (f110_ok e51 (d + 0)) ?_
              rcases ite_so h with ⟨c52, h⟩ | ⟨c52, h⟩
              · refine ev_if_t 90 (mm 47 rfl) rfl c52 ?_
                refine ev_aload_nR (mm 50 rfl) l0 ?_
                obtain ⟨v53, e54, h⟩ := bind_so h
                refine ev_get_r (mm 51 rfl) rfl e54 ?_
                obtain ⟨q55, e56, h⟩ := bind_so h
                rw [e56]
                obtain ⟨v57, e58, h⟩ := bind_so h
                refine ev_get_r (mm 52 rfl) rfl e58 ?_
                refine ev_iload_n (mm 53 rfl) l1 ?_
                refine ev_iconst (mm 54 rfl) cI_1 ?_
                obtain ⟨q59, e60, h⟩ := bind_so h
                rw [e60]
                obtain ⟨M61, e62, h⟩ := bind_so h
                refine ev_zastore (mm 55 rfl) e62 ?_
                refine ev_aload_nR (mm 56 rfl) l0 ?_
                obtain ⟨v63, e64, h⟩ := bind_so h
                refine ev_get_r (mm 57 rfl) rfl e64 ?_
                refine ev_dup (mm 58 rfl) ?_
                obtain ⟨q65, e66, h⟩ := bind_so h
                rw [e66]
                obtain ⟨v67, e68, h⟩ := bind_so h
                refine ev_get_i (mm 59 rfl) rfl e68 ?_
                refine ev_iconst (mm 60 rfl) cI_1 ?_
                refine ev_iadd (mm 61 rfl) ?_
                obtain ⟨M69, e70, h⟩ := bind_so h
                refine ev_put_i (mm 62 rfl) (fun z => by cases z) rfl e70 ?_
                refine ev_iconst (mm 63 rfl) cI_0 ?_
                exact ev_ireturn (mm 64 rfl) h
              · refine ev_if_f 90 (mm 47 rfl) rfl c52 ?_
                refine ev_iconst (mm 48 rfl) cI_5 ?_
                exact ev_ireturn (mm 49 rfl) h
            · refine ev_if_f 80 (mm 41 rfl) rfl c49 ?_
              refine ev_iconst (mm 42 rfl) cI_4 ?_
              exact ev_ireturn (mm 43 rfl) h
          · refine ev_ic_f 70 (mm 35 rfl) rfl c46 ?_
            refine ev_iconst (mm 36 rfl) cI_3 ?_
            exact ev_ireturn (mm 37 rfl) h
        · refine ev_ic_f 49 (mm 23 rfl) rfl c33 ?_
          refine ev_iconst (mm 24 rfl) cI_2 ?_
          exact ev_ireturn (mm 25 rfl) h
      · refine ev_if_f 28 (mm 11 rfl) rfl c20 ?_
        refine ev_iconst (mm 12 rfl) cI_1 ?_
        exact ev_ireturn (mm 13 rfl) h
  exact ⟨by decide, Nat.le_of_ble_eq_true rfl, key.1, key.2⟩
/-- PupilCoin.other(II)J -/
def f95 (x0 : Nat) (x1 : Int32) (x2 : Int32) (M : vm_M) : Option (Int64 × vm_M) :=
  (sg_r M x0 10 8).bind fun v1 =>
  match v1 with
  | none =>
    some ((-2000000000000), M)
  | some q3 =>
    (s_ob M x0 10).bind fun _ =>
    (f105 x0 x1 M).bind fun p4 =>
    if p4.1 = 0 then
      some ((-2000000000000), p4.2)
    else
      (f103 x2 p4.2).bind fun p7 =>
      if ¬ p7.1 = 0 then
        (sg_r p7.2 x0 10 4).bind fun v10 =>
        (sg_r p7.2 x0 10 8).bind fun v12 =>
        (sg_i p7.2 x0 10 10).bind fun v14 =>
        (v10).bind fun q16 =>
        (v12).bind fun q18 =>
        (s_ob p7.2 q16 9).bind fun _ =>
        (f60 q16 q18 x2 v14 p7.2).bind fun p20 =>
        (sg_r p20 x0 10 4).bind fun v22 =>
        (v22).bind fun q24 =>
        (sg_r p20 q24 9 11).bind fun v26 =>
        (v26).bind fun q28 =>
        (sa_l p20 q28 x1).bind fun v30 =>
        some (v30, p20)
      else
        some ((-2000000000000), p7.2)
theorem f95_ok {x0 : Nat} {x1 : Int32} {x2 : Int32} {M : vm_M} {r : Int64 × vm_M} (h : f95 x0 x1 x2 M = some r) (d : Nat) : vm_Cl (d + 7) 95 [.ref (x0), .int (x1), .int (x2)] M (rJ r) := by
  have key : Ev 0 (fun _ => 0) (vm_Cl (d + 6)) vp_95 10 3 false (some (.long)) (rJ r) 0 (lv_args 0 [.ref (x0), .int (x1), .int (x2)]) [] M := by
    have l0 : (0, .ref (x0)) ∈ lv_args 0 [.ref (x0), .int (x1), .int (x2)] := List.Mem.head _
    have l1 : (1, .int (x1)) ∈ lv_args 0 [.ref (x0), .int (x1), .int (x2)] := List.Mem.tail _ (List.Mem.head _)
    have l2 : (2, .int (x2)) ∈ lv_args 0 [.ref (x0), .int (x1), .int (x2)] := List.Mem.tail _ (List.Mem.tail _ (List.Mem.head _))
    unfold f95 at h
    refine ev_aload_nR (mm 0 rfl) l0 ?_
    obtain ⟨v1, e2, h⟩ := bind_so h
    refine ev_get_r (mm 1 rfl) rfl e2 ?_
    cases v1 with
    | none =>
      refine ev_null_t 22 (mm 2 rfl) rfl ?_
      refine ev_ldc2_w (mm 10 rfl) cJ_m2000000000000 ?_
      exact ev_lreturn (mm 11 rfl) h
    | some q3 =>
      refine ev_null_f (mm 2 rfl) ?_
      refine ev_aload_nR (mm 3 rfl) l0 ?_
      refine ev_iload_n (mm 4 rfl) l1 ?_
      obtain ⟨_, e33, h⟩ := bind_so h
      obtain ⟨p4, e5, h⟩ := bind_so h
      refine ev_callV_I [.int (x1)] (mm 5 rfl) rfl rfl (Nat.le_of_ble_eq_true rfl) (s_ob_of e33) (f105_ok e5 (d + 4)) ?_
      rcases ite_so h with ⟨c6, h⟩ | ⟨c6, h⟩
      · refine ev_if_t 22 (mm 6 rfl) rfl c6 ?_
        refine ev_ldc2_w (mm 10 rfl) cJ_m2000000000000 ?_
        exact ev_lreturn (mm 11 rfl) h
      · refine ev_if_f 22 (mm 6 rfl) rfl c6 ?_
        refine ev_iload_n (mm 7 rfl) l2 ?_
        obtain ⟨p7, e8, h⟩ := bind_so h
        refine ev_callS_I [.int (x2)] (mm 8 rfl) (by decide) rfl rfl (Nat.le_of_ble_eq_true rfl) (f103_ok e8 (d + 4)) ?_
        rcases ite_so h with ⟨c9, h⟩ | ⟨c9, h⟩
        · refine ev_if_t 26 (mm 9 rfl) rfl c9 ?_
          refine ev_aload_nR (mm 12 rfl) l0 ?_
          obtain ⟨v10, e11, h⟩ := bind_so h
          refine ev_get_r (mm 13 rfl) rfl e11 ?_
          refine ev_aload_nR (mm 14 rfl) l0 ?_
          obtain ⟨v12, e13, h⟩ := bind_so h
          refine ev_get_r (mm 15 rfl) rfl e13 ?_
          refine ev_iload_n (mm 16 rfl) l2 ?_
          refine ev_aload_nR (mm 17 rfl) l0 ?_
          obtain ⟨v14, e15, h⟩ := bind_so h
          refine ev_get_i (mm 18 rfl) rfl e15 ?_
          obtain ⟨q16, e17, h⟩ := bind_so h
          rw [e17]
          obtain ⟨q18, e19, h⟩ := bind_so h
          rw [e19]
          obtain ⟨_, e32, h⟩ := bind_so h
          obtain ⟨p20, e21, h⟩ := bind_so h
          refine ev_callV_V [.ref (q18), .int (x2), .int (v14)] (mm 19 rfl) rfl rfl (Nat.le_of_ble_eq_true rfl) (s_ob_of e32) (f60_ok e21 (d + 0)) ?_
          refine ev_aload_nR (mm 20 rfl) l0 ?_
          obtain ⟨v22, e23, h⟩ := bind_so h
          refine ev_get_r (mm 21 rfl) rfl e23 ?_
          obtain ⟨q24, e25, h⟩ := bind_so h
          rw [e25]
          obtain ⟨v26, e27, h⟩ := bind_so h
          refine ev_get_r (mm 22 rfl) rfl e27 ?_
          refine ev_iload_n (mm 23 rfl) l1 ?_
          obtain ⟨q28, e29, h⟩ := bind_so h
          rw [e29]
          obtain ⟨v30, e31, h⟩ := bind_so h
          refine ev_laload (mm 24 rfl) e31 ?_
          exact ev_lreturn (mm 25 rfl) h
        · refine ev_if_f 26 (mm 9 rfl) rfl c9 ?_
          refine ev_ldc2_w (mm 10 rfl) cJ_m2000000000000 ?_
          exact ev_lreturn (mm 11 rfl) h
  exact ⟨by decide, Nat.le_of_ble_eq_true rfl, key.1, key.2⟩
def f96_l69 (x0 : Nat) : Nat → Int32 → Int32 → vm_M → Option (Int32 × vm_M)
  | 0 => fun _ _ _ => none
  | n + 1 => fun x2 x3 M =>
    if 12 ≤ x3 then
      some (x2, M)
    else
      (sg_r M x0 10 4).bind fun v50 =>
      (v50).bind fun q52 =>
      (sg_r M q52 9 11).bind fun v54 =>
      (v54).bind fun q56 =>
      (sa_l M q56 x3).bind fun v58 =>
      (sg_r M x0 10 4).bind fun v60 =>
      (v60).bind fun q62 =>
      (sg_r M q62 9 12).bind fun v64 =>
      (v64).bind fun q66 =>
      (sa_l M q66 x3).bind fun v68 =>
      if 0 ≤ (lg_cmp v58 v68) then
        f96_l69 x0 n x2 (x3 + 1) M
      else
        f96_l69 x0 n (x2 + 1) (x3 + 1) M
theorem f96_l69_ok {d : Nat} {x0 : Nat} {r : Int32 × vm_M} : ∀ (n : Nat) {x2 : Int32} {x3 : Int32} {M : vm_M} {lv : vm_L}, (0, .ref (x0)) ∈ lv → (2, .int (x2)) ∈ lv → (3, .int (x3)) ∈ lv → f96_l69 x0 n x2 x3 M = some r → Ev 0 (fun _ => 0) (vm_Cl (d + 6)) vp_96 10 4 false (some (.int)) (rI r) 69 lv [] M := by
  intro n
  induction n with
  | zero =>
    intro x2 x3 M lv l0 l2 l3 h
    cases h
  | succ n ih =>
    intro x2 x3 M lv l0 l2 l3 h
    dsimp only [f96_l69] at h
    refine ev_iload_n (mm 36 rfl) l3 ?_
    refine ev_bipush (mm 37 rfl) cB_12 ?_
    rcases ite_so h with ⟨c49, h⟩ | ⟨c49, h⟩
    · refine ev_ic_t 106 (mm 38 rfl) rfl c49 ?_
      refine ev_iload_n (mm 54 rfl) l2 ?_
      exact ev_ireturn (mm 55 rfl) h
    · refine ev_ic_f 106 (mm 38 rfl) rfl c49 ?_
      refine ev_aload_nR (mm 39 rfl) l0 ?_
      obtain ⟨v50, e51, h⟩ := bind_so h
      refine ev_get_r (mm 40 rfl) rfl e51 ?_
      obtain ⟨q52, e53, h⟩ := bind_so h
      rw [e53]
      obtain ⟨v54, e55, h⟩ := bind_so h
      refine ev_get_r (mm 41 rfl) rfl e55 ?_
      refine ev_iload_n (mm 42 rfl) l3 ?_
      obtain ⟨q56, e57, h⟩ := bind_so h
      rw [e57]
      obtain ⟨v58, e59, h⟩ := bind_so h
      refine ev_laload (mm 43 rfl) e59 ?_
      refine ev_aload_nR (mm 44 rfl) l0 ?_
      obtain ⟨v60, e61, h⟩ := bind_so h
      refine ev_get_r (mm 45 rfl) rfl e61 ?_
      obtain ⟨q62, e63, h⟩ := bind_so h
      rw [e63]
      obtain ⟨v64, e65, h⟩ := bind_so h
      refine ev_get_r (mm 46 rfl) rfl e65 ?_
      refine ev_iload_n (mm 47 rfl) l3 ?_
      obtain ⟨q66, e67, h⟩ := bind_so h
      rw [e67]
      obtain ⟨v68, e69, h⟩ := bind_so h
      refine ev_laload (mm 48 rfl) e69 ?_
      refine ev_lcmp (mm 49 rfl) ?_
      rcases ite_so h with ⟨c70, h⟩ | ⟨c70, h⟩
      · refine ev_if_t 100 (mm 50 rfl) rfl c70 ?_
        refine evs_iinc (mm 52 rfl) cI_1 l3 (by decide) (fun lv71 l3 s72 => ?_)
        have l0 := s72 _ _ l0 rfl
        have l2 := s72 _ _ l2 rfl
        refine ev_goto 69 (mm 53 rfl) rfl ?_
        exact ih l0 l2 l3 h
      · refine ev_if_f 100 (mm 50 rfl) rfl c70 ?_
        refine evs_iinc (mm 51 rfl) cI_1 l2 (by decide) (fun lv73 l2 s74 => ?_)
        have l0 := s74 _ _ l0 rfl
        have l3 := s74 _ _ l3 rfl
        refine evs_iinc (mm 52 rfl) cI_1 l3 (by decide) (fun lv75 l3 s76 => ?_)
        have l0 := s76 _ _ l0 rfl
        have l2 := s76 _ _ l2 rfl
        refine ev_goto 69 (mm 53 rfl) rfl ?_
        exact ih l0 l2 l3 h
/-- PupilCoin.losers(I)I -/
def f96 (x0 : Nat) (x1 : Int32) (M : vm_M) : Option (Int32 × vm_M) :=
  (sg_r M x0 10 8).bind fun v1 =>
  match v1 with
  | none =>
    some ((-1), M)
  | some q3 =>
    (f103 x1 M).bind fun p4 =>
    if ¬ p4.1 = 0 then
      (sg_r p4.2 x0 10 4).bind fun v7 =>
      (sg_i p4.2 x0 10 10).bind fun v9 =>
      (v7).bind fun q11 =>
      (s_ob p4.2 q11 9).bind fun _ =>
      (f59 q11 x1 v9 p4.2).bind fun p13 =>
      (sg_r p13 x0 10 4).bind fun v15 =>
      (v15).bind fun q17 =>
      (sg_r p13 q17 9 11).bind fun v19 =>
      (sg_r p13 x0 10 4).bind fun v21 =>
      (v21).bind fun q23 =>
      (sg_r p13 q23 9 12).bind fun v25 =>
      (v19).bind fun q27 =>
      (v25).bind fun q29 =>
      (s_cp p13 1 q27 0 q29 0 12).bind fun M31 =>
      (sg_r M31 x0 10 4).bind fun v33 =>
      (sg_r M31 x0 10 8).bind fun v35 =>
      (sg_i M31 x0 10 10).bind fun v37 =>
      (v33).bind fun q39 =>
      (v35).bind fun q41 =>
      (s_ob M31 q39 9).bind fun _ =>
      (f60 q39 q41 x1 v37 M31).bind fun p43 =>
      f96_l69 x0
      
        100000 0 0 p43
    else
      some ((-1), p4.2)
theorem f96_ok {x0 : Nat} {x1 : Int32} {M : vm_M} {r : Int32 × vm_M} (h : f96 x0 x1 M = some r) (d : Nat) : vm_Cl (d + 7) 96 [.ref (x0), .int (x1)] M (rI r) := by
  have key : Ev 0 (fun _ => 0) (vm_Cl (d + 6)) vp_96 10 4 false (some (.int)) (rI r) 0 (lv_args 0 [.ref (x0), .int (x1)]) [] M := by
    have l0 : (0, .ref (x0)) ∈ lv_args 0 [.ref (x0), .int (x1)] := List.Mem.head _
    have l1 : (1, .int (x1)) ∈ lv_args 0 [.ref (x0), .int (x1)] := List.Mem.tail _ (List.Mem.head _)
    unfold f96 at h
    refine ev_aload_nR (mm 0 rfl) l0 ?_
    obtain ⟨v1, e2, h⟩ := bind_so h
    refine ev_get_r (mm 1 rfl) rfl e2 ?_
    cases v1 with
    | none =>
      refine ev_null_t 14 (mm 2 rfl) rfl ?_
      refine ev_iconst (mm 6 rfl) cI_m1 ?_
      exact ev_ireturn (mm 7 rfl) h
    | some q3 =>
      refine ev_null_f (mm 2 rfl) ?_
      refine ev_iload_n (mm 3 rfl) l1 ?_
      obtain ⟨p4, e5, h⟩ := bind_so h
      refine ev_callS_I [.int (x1)] (mm 4 rfl) (by decide) rfl rfl (Nat.le_of_ble_eq_true rfl) (f103_ok e5 (d + 4)) ?_
      rcases ite_so h with ⟨c6, h⟩ | ⟨c6, h⟩
      · refine ev_if_t 16 (mm 5 rfl) rfl c6 ?_
        refine ev_aload_nR (mm 8 rfl) l0 ?_
        obtain ⟨v7, e8, h⟩ := bind_so h
        refine ev_get_r (mm 9 rfl) rfl e8 ?_
        refine ev_iload_n (mm 10 rfl) l1 ?_
        refine ev_aload_nR (mm 11 rfl) l0 ?_
        obtain ⟨v9, e10, h⟩ := bind_so h
        refine ev_get_i (mm 12 rfl) rfl e10 ?_
        obtain ⟨q11, e12, h⟩ := bind_so h
        rw [e12]
        obtain ⟨_, e78, h⟩ := bind_so h
        obtain ⟨p13, e14, h⟩ := bind_so h
        refine ev_callV_V [.int (x1), .int (v9)] (mm 13 rfl) rfl rfl (Nat.le_of_ble_eq_true rfl) (s_ob_of e78) (f59_ok e14 (d + 0)) ?_
        refine ev_aload_nR (mm 14 rfl) l0 ?_
        obtain ⟨v15, e16, h⟩ := bind_so h
        refine ev_get_r (mm 15 rfl) rfl e16 ?_
        obtain ⟨q17, e18, h⟩ := bind_so h
        rw [e18]
        obtain ⟨v19, e20, h⟩ := bind_so h
        refine ev_get_r (mm 16 rfl) rfl e20 ?_
        refine ev_iconst (mm 17 rfl) cI_0 ?_
        refine ev_aload_nR (mm 18 rfl) l0 ?_
        obtain ⟨v21, e22, h⟩ := bind_so h
        refine ev_get_r (mm 19 rfl) rfl e22 ?_
        obtain ⟨q23, e24, h⟩ := bind_so h
        rw [e24]
        obtain ⟨v25, e26, h⟩ := bind_so h
        refine ev_get_r (mm 20 rfl) rfl e26 ?_
        refine ev_iconst (mm 21 rfl) cI_0 ?_
        refine ev_bipush (mm 22 rfl) cB_12 ?_
        obtain ⟨q27, e28, h⟩ := bind_so h
        rw [e28]
        obtain ⟨q29, e30, h⟩ := bind_so h
        rw [e30]
        obtain ⟨M31, e32, h⟩ := bind_so h
        refine ev_copy 1 (mm 23 rfl) (Nat.le_of_ble_eq_true rfl) (by decide) e32 ?_
        refine ev_aload_nR (mm 24 rfl) l0 ?_
        obtain ⟨v33, e34, h⟩ := bind_so h
        refine ev_get_r (mm 25 rfl) rfl e34 ?_
        refine ev_aload_nR (mm 26 rfl) l0 ?_
        obtain ⟨v35, e36, h⟩ := bind_so h
        refine ev_get_r (mm 27 rfl) rfl e36 ?_
        refine ev_iload_n (mm 28 rfl) l1 ?_
        refine ev_aload_nR (mm 29 rfl) l0 ?_
        obtain ⟨v37, e38, h⟩ := bind_so h
        refine ev_get_i (mm 30 rfl) rfl e38 ?_
        obtain ⟨q39, e40, h⟩ := bind_so h
        rw [e40]
        obtain ⟨q41, e42, h⟩ := bind_so h
        rw [e42]
        obtain ⟨_, e77, h⟩ := bind_so h
        obtain ⟨p43, e44, h⟩ := bind_so h
        refine ev_callV_V [.ref (q41), .int (x1), .int (v37)] (mm 31 rfl) rfl rfl (Nat.le_of_ble_eq_true rfl) (s_ob_of e77) (f60_ok e44 (d + 0)) ?_
        refine ev_iconst (mm 32 rfl) cI_0 ?_
        refine evs_istore_n (mm 33 rfl) (by decide) (fun lv45 l2 s46 => ?_)
        have l0 := s46 _ _ l0 rfl
        refine ev_iconst (mm 34 rfl) cI_0 ?_
        refine evs_istore_n (mm 35 rfl) (by decide) (fun lv47 l3 s48 => ?_)
        have l0 := s48 _ _ l0 rfl
        have l2 := s48 _ _ l2 rfl
        refine f96_l69_ok 100000 l0 l2 l3 h
      · refine ev_if_f 16 (mm 5 rfl) rfl c6 ?_
        refine ev_iconst (mm 6 rfl) cI_m1 ?_
        exact ev_ireturn (mm 7 rfl) h
  exact ⟨by decide, Nat.le_of_ble_eq_true rfl, key.1, key.2⟩
/-- PupilCoin.edge(III)J -/
def f97 (x0 : Nat) (x1 : Int32) (x2 : Int32) (x3 : Int32) (M : vm_M) : Option (Int64 × vm_M) :=
  (s_ob M x0 10).bind fun _ =>
  (f105 x0 x1 M).bind fun p1 =>
  if p1.1 = 0 then
    some ((-2000000000000), p1.2)
  else
    (f103 x2 p1.2).bind fun p4 =>
    if p4.1 = 0 then
      some ((-2000000000000), p4.2)
    else
      (f102 x3 5 p4.2).bind fun p7 =>
      if ¬ p7.1 = 0 then
        (sg_r p7.2 x0 10 0).bind fun v10 =>
        (v10).bind fun q12 =>
        (s_ob p7.2 q12 0).bind fun _ =>
        (f2 q12 x1 x2 p7.2).bind fun p14 =>
        if ¬ p14.1 = 0 then
          (sg_r p14.2 x0 10 4).bind fun v17 =>
          (sg_i p14.2 x0 10 10).bind fun v19 =>
          (v17).bind fun q21 =>
          (s_ob p14.2 q21 9).bind fun _ =>
          (f59 q21 x2 v19 p14.2).bind fun p23 =>
          (sg_r p23 x0 10 4).bind fun v25 =>
          (v25).bind fun q27 =>
          (sg_r p23 q27 9 11).bind fun v29 =>
          (v29).bind fun q31 =>
          (sa_l p23 q31 x1).bind fun v33 =>
          (sg_r p23 x0 10 4).bind fun v37 =>
          (sg_i p23 x0 10 10).bind fun v39 =>
          (v37).bind fun q41 =>
          (s_ob p23 q41 9).bind fun _ =>
          (f61 q41 x1 x3 x2 v39 p23).bind fun p43 =>
          (sg_r p43 x0 10 4).bind fun v45 =>
          (v45).bind fun q47 =>
          (sg_r p43 q47 9 11).bind fun v49 =>
          (v49).bind fun q51 =>
          (sa_l p43 q51 x1).bind fun v53 =>
          some ((v53 - v33), p43)
        else
          some ((-2000000000000), p14.2)
      else
        some ((-2000000000000), p7.2)
theorem f97_ok {x0 : Nat} {x1 : Int32} {x2 : Int32} {x3 : Int32} {M : vm_M} {r : Int64 × vm_M} (h : f97 x0 x1 x2 x3 M = some r) (d : Nat) : vm_Cl (d + 7) 97 [.ref (x0), .int (x1), .int (x2), .int (x3)] M (rJ r) := by
  have key : Ev 0 (fun _ => 0) (vm_Cl (d + 6)) vp_97 10 6 false (some (.long)) (rJ r) 0 (lv_args 0 [.ref (x0), .int (x1), .int (x2), .int (x3)]) [] M := by
    have l0 : (0, .ref (x0)) ∈ lv_args 0 [.ref (x0), .int (x1), .int (x2), .int (x3)] := List.Mem.head _
    have l1 : (1, .int (x1)) ∈ lv_args 0 [.ref (x0), .int (x1), .int (x2), .int (x3)] := List.Mem.tail _ (List.Mem.head _)
    have l2 : (2, .int (x2)) ∈ lv_args 0 [.ref (x0), .int (x1), .int (x2), .int (x3)] := List.Mem.tail _ (List.Mem.tail _ (List.Mem.head _))
    have l3 : (3, .int (x3)) ∈ lv_args 0 [.ref (x0), .int (x1), .int (x2), .int (x3)] := List.Mem.tail _ (List.Mem.tail _ (List.Mem.tail _ (List.Mem.head _)))
    unfold f97 at h
    refine ev_aload_nR (mm 0 rfl) l0 ?_
    refine ev_iload_n (mm 1 rfl) l1 ?_
    obtain ⟨_, e58, h⟩ := bind_so h
    obtain ⟨p1, e2, h⟩ := bind_so h
    refine ev_callV_I [.int (x1)] (mm 2 rfl) rfl rfl (Nat.le_of_ble_eq_true rfl) (s_ob_of e58) (f105_ok e2 (d + 4)) ?_
    rcases ite_so h with ⟨c3, h⟩ | ⟨c3, h⟩
    · refine ev_if_t 23 (mm 3 rfl) rfl c3 ?_
      refine ev_ldc2_w (mm 11 rfl) cJ_m2000000000000 ?_
      exact ev_lreturn (mm 12 rfl) h
    · refine ev_if_f 23 (mm 3 rfl) rfl c3 ?_
      refine ev_iload_n (mm 4 rfl) l2 ?_
      obtain ⟨p4, e5, h⟩ := bind_so h
      refine ev_callS_I [.int (x2)] (mm 5 rfl) (by decide) rfl rfl (Nat.le_of_ble_eq_true rfl) (f103_ok e5 (d + 4)) ?_
      rcases ite_so h with ⟨c6, h⟩ | ⟨c6, h⟩
      · refine ev_if_t 23 (mm 6 rfl) rfl c6 ?_
        refine ev_ldc2_w (mm 11 rfl) cJ_m2000000000000 ?_
        exact ev_lreturn (mm 12 rfl) h
      · refine ev_if_f 23 (mm 6 rfl) rfl c6 ?_
        refine ev_iload_n (mm 7 rfl) l3 ?_
        refine ev_iconst (mm 8 rfl) cI_5 ?_
        obtain ⟨p7, e8, h⟩ := bind_so h
        refine ev_callS_I [.int (x3), .int (5)] (mm 9 rfl) (by decide) rfl rfl (Nat.le_of_ble_eq_true rfl) (f102_ok e8 (d + 5)) ?_
        rcases ite_so h with ⟨c9, h⟩ | ⟨c9, h⟩
        · refine ev_if_t 27 (mm 10 rfl) rfl c9 ?_
          refine ev_aload_nR (mm 13 rfl) l0 ?_
          obtain ⟨v10, e11, h⟩ := bind_so h
          refine ev_get_r (mm 14 rfl) rfl e11 ?_
          refine ev_iload_n (mm 15 rfl) l1 ?_
          refine ev_iload_n (mm 16 rfl) l2 ?_
          obtain ⟨q12, e13, h⟩ := bind_so h
          rw [e13]
          obtain ⟨_, e57, h⟩ := bind_so h
          obtain ⟨p14, e15, h⟩ := bind_so h
          refine ev_callV_I [.int (x1), .int (x2)] (mm 17 rfl) rfl rfl (Nat.le_of_ble_eq_true rfl) (s_ob_of e57) (f2_ok e15 (d + 5)) ?_
          rcases ite_so h with ⟨c16, h⟩ | ⟨c16, h⟩
          · refine ev_if_t 43 (mm 18 rfl) rfl c16 ?_
            refine ev_aload_nR (mm 21 rfl) l0 ?_
            obtain ⟨v17, e18, h⟩ := bind_so h
            refine ev_get_r (mm 22 rfl) rfl e18 ?_
            refine ev_iload_n (mm 23 rfl) l2 ?_
            refine ev_aload_nR (mm 24 rfl) l0 ?_
            obtain ⟨v19, e20, h⟩ := bind_so h
            refine ev_get_i (mm 25 rfl) rfl e20 ?_
            obtain ⟨q21, e22, h⟩ := bind_so h
            rw [e22]
            obtain ⟨_, e56, h⟩ := bind_so h
            obtain ⟨p23, e24, h⟩ := bind_so h
            refine ev_callV_V [.int (x2), .int (v19)] (mm 26 rfl) rfl rfl (Nat.le_of_ble_eq_true rfl) (s_ob_of e56) (f59_ok e24 (d + 0)) ?_
            refine ev_aload_nR (mm 27 rfl) l0 ?_
            obtain ⟨v25, e26, h⟩ := bind_so h
            refine ev_get_r (mm 28 rfl) rfl e26 ?_
            obtain ⟨q27, e28, h⟩ := bind_so h
            rw [e28]
            obtain ⟨v29, e30, h⟩ := bind_so h
            refine ev_get_r (mm 29 rfl) rfl e30 ?_
            refine ev_iload_n (mm 30 rfl) l1 ?_
            obtain ⟨q31, e32, h⟩ := bind_so h
            rw [e32]
            obtain ⟨v33, e34, h⟩ := bind_so h
            refine ev_laload (mm 31 rfl) e34 ?_
            refine evs_lstore (mm 32 rfl) (by decide) (fun lv35 l4 s36 => ?_)
            have l0 := s36 _ _ l0 rfl
            have l1 := s36 _ _ l1 rfl
            have l2 := s36 _ _ l2 rfl
            have l3 := s36 _ _ l3 rfl
            refine ev_aload_nR (mm 33 rfl) l0 ?_
            obtain ⟨v37, e38, h⟩ := bind_so h
            refine ev_get_r (mm 34 rfl) rfl e38 ?_
            refine ev_iload_n (mm 35 rfl) l1 ?_
            refine ev_iload_n (mm 36 rfl) l3 ?_
            refine ev_iload_n (mm 37 rfl) l2 ?_
            refine ev_aload_nR (mm 38 rfl) l0 ?_
            obtain ⟨v39, e40, h⟩ := bind_so h
            refine ev_get_i (mm 39 rfl) rfl e40 ?_
            obtain ⟨q41, e42, h⟩ := bind_so h
            rw [e42]
            obtain ⟨_, e55, h⟩ := bind_so h
            obtain ⟨p43, e44, h⟩ := bind_so h
            refine ev_callV_V [.int (x1), .int (x3), .int (x2), .int (v39)] (mm 40 rfl) rfl rfl (Nat.le_of_ble_eq_true rfl) (s_ob_of e55) (f61_ok e44 (d + 0)) ?_
            refine ev_aload_nR (mm 41 rfl) l0 ?_
            obtain ⟨v45, e46, h⟩ := bind_so h
            refine ev_get_r (mm 42 rfl) rfl e46 ?_
            obtain ⟨q47, e48, h⟩ := bind_so h
            rw [e48]
            obtain ⟨v49, e50, h⟩ := bind_so h
            refine ev_get_r (mm 43 rfl) rfl e50 ?_
            refine ev_iload_n (mm 44 rfl) l1 ?_
            obtain ⟨q51, e52, h⟩ := bind_so h
            rw [e52]
            obtain ⟨v53, e54, h⟩ := bind_so h
            refine ev_laload (mm 45 rfl) e54 ?_
            refine ev_lload (mm 46 rfl) l4 ?_
            refine ev_lsub (mm 47 rfl) ?_
            exact ev_lreturn (mm 48 rfl) h
          · refine ev_if_f 43 (mm 18 rfl) rfl c16 ?_
            refine ev_ldc2_w (mm 19 rfl) cJ_m2000000000000 ?_
            exact ev_lreturn (mm 20 rfl) h
        · refine ev_if_f 27 (mm 10 rfl) rfl c9 ?_
          refine ev_ldc2_w (mm 11 rfl) cJ_m2000000000000 ?_
          exact ev_lreturn (mm 12 rfl) h
  exact ⟨by decide, Nat.le_of_ble_eq_true rfl, key.1, key.2⟩
/-- PupilCoin.rates(IIIII)J -/
def f98 (x0 : Nat) (x1 : Int32) (x2 : Int32) (x3 : Int32) (x4 : Int32) (x5 : Int32) (M : vm_M) : Option (Int64 × vm_M) :=
  (f103 x1 M).bind fun p1 =>
  if p1.1 = 0 then
    some ((-2000000000000), p1.2)
  else
    if x4 < 0 then
      some ((-2000000000000), p1.2)
    else
      if 999999999 < x4 then
        some ((-2000000000000), p1.2)
      else
        if x2 = x3 then
          some ((-2000000000000), p1.2)
        else
          (f102 x5 4 p1.2).bind fun p7 =>
          if ¬ p7.1 = 0 then
            (sg_r p7.2 x0 10 3).bind fun v10 =>
            (sg_i p7.2 x0 10 10).bind fun v12 =>
            (v10).bind fun q14 =>
            (s_ob p7.2 q14 8).bind fun _ =>
            (f56 q14 x1 v12 p7.2).bind fun p16 =>
            (p16.1).bind fun q20 =>
            (sg_i p16.2 q20 1 4).bind fun v22 =>
            (f102 x2 v22 p16.2).bind fun p24 =>
            if p24.1 = 0 then
              some ((-2000000000000), p24.2)
            else
              (sg_i p24.2 q20 1 4).bind fun v27 =>
              (f102 x3 v27 p24.2).bind fun p29 =>
              if ¬ p29.1 = 0 then
                (sg_r p29.2 x0 10 4).bind fun v32 =>
                (sg_i p29.2 x0 10 10).bind fun v34 =>
                (v32).bind fun q36 =>
                (s_ob p29.2 q36 9).bind fun _ =>
                (f59 q36 x1 v34 p29.2).bind fun p38 =>
                (s_no p38 5).bind fun M40 =>
                (sg_r M40 x0 10 0).bind fun v42 =>
                (sg_r M40 x0 10 4).bind fun v44 =>
                (v42).bind fun q46 =>
                (v44).bind fun q48 =>
                (f25 (vm_n p38) q46 q48 x1 M40).bind fun p50 =>
                (s_ob p50 (vm_n p38) 5).bind fun _ =>
                (f26 (vm_n p38) x2 x3 ((x4 : Int32).toInt64) p50).bind fun p54 =>
                (sg_i p54 (vm_n p38) 5 3).bind fun v56 =>
                if v56 = 0 then
                  some ((-2000000000000), p54)
                else
                  (s_ob p54 (vm_n p38) 5).bind fun _ =>
                  (f28 (vm_n p38) x5 p54).bind fun p59 =>
                  some (p59.1, p59.2)
              else
                some ((-2000000000000), p29.2)
          else
            some ((-2000000000000), p7.2)
theorem f98_ok {x0 : Nat} {x1 : Int32} {x2 : Int32} {x3 : Int32} {x4 : Int32} {x5 : Int32} {M : vm_M} {r : Int64 × vm_M} (h : f98 x0 x1 x2 x3 x4 x5 M = some r) (d : Nat) : vm_Cl (d + 7) 98 [.ref (x0), .int (x1), .int (x2), .int (x3), .int (x4), .int (x5)] M (rJ r) := by
  have key : Ev 0 (fun _ => 0) (vm_Cl (d + 6)) vp_98 10 8 false (some (.long)) (rJ r) 0 (lv_args 0 [.ref (x0), .int (x1), .int (x2), .int (x3), .int (x4), .int (x5)]) [] M := by
    have l0 : (0, .ref (x0)) ∈ lv_args 0 [.ref (x0), .int (x1), .int (x2), .int (x3), .int (x4), .int (x5)] := List.Mem.head _
    have l1 : (1, .int (x1)) ∈ lv_args 0 [.ref (x0), .int (x1), .int (x2), .int (x3), .int (x4), .int (x5)] := List.Mem.tail _ (List.Mem.head _)
    have l2 : (2, .int (x2)) ∈ lv_args 0 [.ref (x0), .int (x1), .int (x2), .int (x3), .int (x4), .int (x5)] := List.Mem.tail _ (List.Mem.tail _ (List.Mem.head _))
    have l3 : (3, .int (x3)) ∈ lv_args 0 [.ref (x0), .int (x1), .int (x2), .int (x3), .int (x4), .int (x5)] := List.Mem.tail _ (List.Mem.tail _ (List.Mem.tail _ (List.Mem.head _)))
    have l4 : (4, .int (x4)) ∈ lv_args 0 [.ref (x0), .int (x1), .int (x2), .int (x3), .int (x4), .int (x5)] := List.Mem.tail _ (List.Mem.tail _ (List.Mem.tail _ (List.Mem.tail _ (List.Mem.head _))))
    have l5 : (5, .int (x5)) ∈ lv_args 0 [.ref (x0), .int (x1), .int (x2), .int (x3), .int (x4), .int (x5)] := List.Mem.tail _ (List.Mem.tail _ (List.Mem.tail _ (List.Mem.tail _ (List.Mem.tail _ (List.Mem.head _)))))
    unfold f98 at h
    refine ev_iload_n (mm 0 rfl) l1 ?_
    obtain ⟨p1, e2, h⟩ := bind_so h
    refine ev_callS_I [.int (x1)] (mm 1 rfl) (by decide) rfl rfl (Nat.le_of_ble_eq_true rfl) (f103_ok e2 (d + 4)) ?_
    rcases ite_so h with ⟨c3, h⟩ | ⟨c3, h⟩
    · refine ev_if_t 34 (mm 2 rfl) rfl c3 ?_
      refine ev_ldc2_w (mm 15 rfl) cJ_m2000000000000 ?_
      exact ev_lreturn (mm 16 rfl) h
    · refine ev_if_f 34 (mm 2 rfl) rfl c3 ?_
      refine ev_iload (mm 3 rfl) l4 ?_
      rcases ite_so h with ⟨c4, h⟩ | ⟨c4, h⟩
      · refine ev_if_t 34 (mm 4 rfl) rfl c4 ?_
        refine ev_ldc2_w (mm 15 rfl) cJ_m2000000000000 ?_
        exact ev_lreturn (mm 16 rfl) h
      · refine ev_if_f 34 (mm 4 rfl) rfl c4 ?_
        refine ev_iload (mm 5 rfl) l4 ?_
        refine ev_ldc_w (mm 6 rfl) cI_999999999 ?_
        rcases ite_so h with ⟨c5, h⟩ | ⟨c5, h⟩
        · refine ev_ic_t 34 (mm 7 rfl) rfl c5 ?_
          refine ev_ldc2_w (mm 15 rfl) cJ_m2000000000000 ?_
          exact ev_lreturn (mm 16 rfl) h
        · refine ev_ic_f 34 (mm 7 rfl) rfl c5 ?_
          refine ev_iload_n (mm 8 rfl) l2 ?_
          refine ev_iload_n (mm 9 rfl) l3 ?_
          rcases ite_so h with ⟨c6, h⟩ | ⟨c6, h⟩
          · refine ev_ic_t 34 (mm 10 rfl) rfl c6 ?_
            refine ev_ldc2_w (mm 15 rfl) cJ_m2000000000000 ?_
            exact ev_lreturn (mm 16 rfl) h
          · refine ev_ic_f 34 (mm 10 rfl) rfl c6 ?_
            refine ev_iload (mm 11 rfl) l5 ?_
            refine ev_iconst (mm 12 rfl) cI_4 ?_
            obtain ⟨p7, e8, h⟩ := bind_so h
            refine ev_callS_I [.int (x5), .int (4)] (mm 13 rfl) (by decide) rfl rfl (Nat.le_of_ble_eq_true rfl) (f102_ok e8 (d + 5)) ?_
            rcases ite_so h with ⟨c9, h⟩ | ⟨c9, h⟩
            · refine ev_if_t 38 (mm 14 rfl) rfl c9 ?_
              refine ev_aload_nR (mm 17 rfl) l0 ?_
              obtain ⟨v10, e11, h⟩ := bind_so h
              refine ev_get_r (mm 18 rfl) rfl e11 ?_
              refine ev_iload_n (mm 19 rfl) l1 ?_
              refine ev_aload_nR (mm 20 rfl) l0 ?_
              obtain ⟨v12, e13, h⟩ := bind_so h
              refine ev_get_i (mm 21 rfl) rfl e13 ?_
              obtain ⟨q14, e15, h⟩ := bind_so h
              rw [e15]
              obtain ⟨_, e64, h⟩ := bind_so h
              obtain ⟨p16, e17, h⟩ := bind_so h
              refine ev_callV_A [.int (x1), .int (v12)] (mm 22 rfl) rfl rfl (Nat.le_of_ble_eq_true rfl) (s_ob_of e64) (f56_ok e17 (d + 5)) ?_
              refine evs_astore (mm 23 rfl) (by decide) (fun lv18 l6 s19 => ?_)
              have l0 := s19 _ _ l0 rfl
              have l1 := s19 _ _ l1 rfl
              have l2 := s19 _ _ l2 rfl
              have l3 := s19 _ _ l3 rfl
              have l4 := s19 _ _ l4 rfl
              have l5 := s19 _ _ l5 rfl
              refine ev_iload_n (mm 24 rfl) l2 ?_
              refine ev_aload (mm 25 rfl) l6 ?_
              obtain ⟨q20, e21, h⟩ := bind_so h
              rw [e21]
              rw [e21] at l6
              obtain ⟨v22, e23, h⟩ := bind_so h
              refine ev_get_i (mm 26 rfl) rfl e23 ?_
              obtain ⟨p24, e25, h⟩ := bind_so h
              refine ev_callS_I [.int (x2), .int (v22)] (mm 27 rfl) (by decide) rfl rfl (Nat.le_of_ble_eq_true rfl) (f102_ok e25 (d + 5)) ?_
              rcases ite_so h with ⟨c26, h⟩ | ⟨c26, h⟩
              · refine ev_if_t 76 (mm 28 rfl) rfl c26 ?_
                refine ev_ldc2_w (mm 34 rfl) cJ_m2000000000000 ?_
                exact ev_lreturn (mm 35 rfl) h
              · refine ev_if_f 76 (mm 28 rfl) rfl c26 ?_
                refine ev_iload_n (mm 29 rfl) l3 ?_
                refine ev_aloadR (mm 30 rfl) l6 ?_
                obtain ⟨v27, e28, h⟩ := bind_so h
                refine ev_get_i (mm 31 rfl) rfl e28 ?_
                obtain ⟨p29, e30, h⟩ := bind_so h
                refine ev_callS_I [.int (x3), .int (v27)] (mm 32 rfl) (by decide) rfl rfl (Nat.le_of_ble_eq_true rfl) (f102_ok e30 (d + 5)) ?_
                rcases ite_so h with ⟨c31, h⟩ | ⟨c31, h⟩
                · refine ev_if_t 80 (mm 33 rfl) rfl c31 ?_
                  refine ev_aload_nR (mm 36 rfl) l0 ?_
                  obtain ⟨v32, e33, h⟩ := bind_so h
                  refine ev_get_r (mm 37 rfl) rfl e33 ?_
                  refine ev_iload_n (mm 38 rfl) l1 ?_
                  refine ev_aload_nR (mm 39 rfl) l0 ?_
                  obtain ⟨v34, e35, h⟩ := bind_so h
                  refine ev_get_i (mm 40 rfl) rfl e35 ?_
                  obtain ⟨q36, e37, h⟩ := bind_so h
                  rw [e37]
                  obtain ⟨_, e63, h⟩ := bind_so h
                  obtain ⟨p38, e39, h⟩ := bind_so h
                  refine ev_callV_V [.int (x1), .int (v34)] (mm 41 rfl) rfl rfl (Nat.le_of_ble_eq_true rfl) (s_ob_of e63) (f59_ok e39 (d + 0)) ?_
                  obtain ⟨M40, e41, h⟩ := bind_so h
                  refine ev_new (mm 42 rfl) e41 ?_
                  refine ev_dupR (mm 43 rfl) ?_
                  refine ev_aload_nR (mm 44 rfl) l0 ?_
                  obtain ⟨v42, e43, h⟩ := bind_so h
                  refine ev_get_r (mm 45 rfl) rfl e43 ?_
                  refine ev_aload_nR (mm 46 rfl) l0 ?_
                  obtain ⟨v44, e45, h⟩ := bind_so h
                  refine ev_get_r (mm 47 rfl) rfl e45 ?_
                  refine ev_iload_n (mm 48 rfl) l1 ?_
                  obtain ⟨q46, e47, h⟩ := bind_so h
                  rw [e47]
                  obtain ⟨q48, e49, h⟩ := bind_so h
                  rw [e49]
                  obtain ⟨p50, e51, h⟩ := bind_so h
                  refine ev_callI_V [.ref (q46), .ref (q48), .int (x1)] (mm 49 rfl) (by decide) rfl rfl (Nat.le_of_ble_eq_true rfl) (f25_ok e51 (d + 5)) ?_
                  refine evs_astoreR (mm 50 rfl) (by decide) (fun lv52 l7 s53 => ?_)
                  have l2 := s53 _ _ l2 rfl
                  have l3 := s53 _ _ l3 rfl
                  have l4 := s53 _ _ l4 rfl
                  have l5 := s53 _ _ l5 rfl
                  refine ev_aloadR (mm 51 rfl) l7 ?_
                  refine ev_iload_n (mm 52 rfl) l2 ?_
                  refine ev_iload_n (mm 53 rfl) l3 ?_
                  refine ev_iload (mm 54 rfl) l4 ?_
                  refine ev_i2l (mm 55 rfl) ?_
                  obtain ⟨_, e62, h⟩ := bind_so h
                  obtain ⟨p54, e55, h⟩ := bind_so h
                  refine ev_callV_V [.int (x2), .int (x3), .long ((x4 : Int32).toInt64)] (mm 56 rfl) rfl rfl (Nat.le_of_ble_eq_true rfl) (s_ob_of e62) (f26_ok e55 (d + 3)) ?_
                  refine ev_aloadR (mm 57 rfl) l7 ?_
                  obtain ⟨v56, e57, h⟩ := bind_so h
                  refine ev_get_i (mm 58 rfl) rfl e57 ?_
                  rcases ite_so h with ⟨c58, h⟩ | ⟨c58, h⟩
                  · refine ev_if_t 138 (mm 59 rfl) rfl c58 ?_
                    refine ev_ldc2_w (mm 64 rfl) cJ_m2000000000000 ?_
                    exact ev_lreturn (mm 65 rfl) h
                  · refine ev_if_f 138 (mm 59 rfl) rfl c58 ?_
                    refine ev_aloadR (mm 60 rfl) l7 ?_
                    refine ev_iload (mm 61 rfl) l5 ?_
                    obtain ⟨_, e61, h⟩ := bind_so h
                    obtain ⟨p59, e60, h⟩ := bind_so h
                    refine ev_callV_J [.int (x5)] (mm 62 rfl) rfl rfl (Nat.le_of_ble_eq_true rfl) (s_ob_of e61) (f28_ok e60 (d + 5)) ?_
                    refine ev_goto 141 (mm 63 rfl) rfl ?_
                    exact ev_lreturn (mm 65 rfl) h
                · refine ev_if_f 80 (mm 33 rfl) rfl c31 ?_
                  refine ev_ldc2_w (mm 34 rfl) cJ_m2000000000000 ?_
                  exact ev_lreturn (mm 35 rfl) h
            · refine ev_if_f 38 (mm 14 rfl) rfl c9 ?_
              refine ev_ldc2_w (mm 15 rfl) cJ_m2000000000000 ?_
              exact ev_lreturn (mm 16 rfl) h
  exact ⟨by decide, Nat.le_of_ble_eq_true rfl, key.1, key.2⟩
def f99_j154 (x3 : Int32) (x4 : Int32) (x8 : Int32) (x9 : Int32) (M : vm_M) : Option (Int32 × vm_M) :=
  if ¬ x4 = 2 then
    some ((s_mxI 0 x9), M)
  else
    some ((s_mxI 0 (x9 + (x3 * (s_abI x8)))), M)
theorem f99_j154_ok {d : Nat} {x3 : Int32} {x4 : Int32} {x8 : Int32} {x9 : Int32} {M : vm_M} {r : Int32 × vm_M} {lv : vm_L} (l3 : (3, .int (x3)) ∈ lv) (l4 : (4, .int (x4)) ∈ lv) (l8 : (8, .int (x8)) ∈ lv) (l9 : (9, .int (x9)) ∈ lv) (h : f99_j154 x3 x4 x8 x9 M = some r) : Ev 0 (fun _ => 0) (vm_Cl (d + 2)) vp_99 10 10 false (some (.int)) (rI r) 154 lv [] M := by
  unfold f99_j154 at h
  refine ev_iload (mm 85 rfl) l4 ?_
  refine ev_iconst (mm 86 rfl) cI_2 ?_
  rcases ite_so h with ⟨c61, h⟩ | ⟨c61, h⟩
  · refine ev_ic_t 172 (mm 87 rfl) rfl c61 ?_
    refine ev_iconst (mm 95 rfl) cI_0 ?_
    refine ev_iload (mm 96 rfl) l9 ?_
    refine ev_mxI (mm 97 rfl) (Nat.le_of_ble_eq_true rfl) ?_
    exact ev_ireturn (mm 98 rfl) h
  · refine ev_ic_f 172 (mm 87 rfl) rfl c61 ?_
    refine ev_iload (mm 88 rfl) l9 ?_
    refine ev_iload_n (mm 89 rfl) l3 ?_
    refine ev_iload (mm 90 rfl) l8 ?_
    refine ev_abI (mm 91 rfl) (Nat.le_of_ble_eq_true rfl) ?_
    refine ev_imul (mm 92 rfl) ?_
    refine ev_iadd (mm 93 rfl) ?_
    refine evs_istore (mm 94 rfl) (by decide) (fun lv62 l9 s63 => ?_)
    refine ev_iconst (mm 95 rfl) cI_0 ?_
    refine ev_iload (mm 96 rfl) l9 ?_
    refine ev_mxI (mm 97 rfl) (Nat.le_of_ble_eq_true rfl) ?_
    exact ev_ireturn (mm 98 rfl) h
/-- PupilCoin.foretold(IIII)I -/
def f99 (x0 : Nat) (x1 : Int32) (x2 : Int32) (x3 : Int32) (x4 : Int32) (M : vm_M) : Option (Int32 × vm_M) :=
  (s_ob M x0 10).bind fun _ =>
  (f105 x0 x1 M).bind fun p1 =>
  if p1.1 = 0 then
    some ((-1), p1.2)
  else
    (f102 x2 3 p1.2).bind fun p4 =>
    if p4.1 = 0 then
      some ((-1), p4.2)
    else
      if x3 < 1 then
        some ((-1), p4.2)
      else
        if 5 < x3 then
          some ((-1), p4.2)
        else
          (f102 x4 3 p4.2).bind fun p9 =>
          if ¬ p9.1 = 0 then
            (sg_r p9.2 x0 10 1).bind fun v12 =>
            (sg_i p9.2 x0 10 10).bind fun v14 =>
            (s_dv v14 100).bind fun v16 =>
            (sg_i p9.2 x0 10 10).bind fun v18 =>
            (v12).bind fun q20 =>
            (s_ob p9.2 q20 2).bind fun _ =>
            (f13 q20 x1 x2 v16 v18 p9.2).bind fun p22 =>
            (sg_r p22.2 x0 10 1).bind fun v26 =>
            (sg_i p22.2 x0 10 10).bind fun v28 =>
            (v26).bind fun q30 =>
            (s_ob p22.2 q30 2).bind fun _ =>
            (f13 q30 x1 x2 (p22.1 - 1) v28 p22.2).bind fun p32 =>
            if p22.1 < 0 then
              some ((-1), p32.2)
            else
              if 0 ≤ p32.1 then
                (sg_r p32.2 x0 10 1).bind fun v38 =>
                (sg_i p32.2 x0 10 10).bind fun v40 =>
                (v38).bind fun q42 =>
                (s_ob p32.2 q42 2).bind fun _ =>
                (f12 q42 x1 p22.1 x2 v40 p32.2).bind fun p44 =>
                (sg_r p44.2 x0 10 1).bind fun v48 =>
                (sg_i p44.2 x0 10 10).bind fun v50 =>
                (v48).bind fun q52 =>
                (s_ob p44.2 q52 2).bind fun _ =>
                (f12 q52 x1 p32.1 x2 v50 p44.2).bind fun p54 =>
                if ¬ x4 = 1 then
                  f99_j154 x3 x4 (p44.1 - p54.1) (p44.1 + (x3 * (p44.1 - p54.1))) p54.2
                else
                  f99_j154 x3 x4 (p44.1 - p54.1) ((p44.1 + (x3 * (p44.1 - p54.1))) - (x3 * (s_abI (p44.1 - p54.1)))) p54.2
              else
                some ((-1), p32.2)
          else
            some ((-1), p9.2)
theorem f99_ok {x0 : Nat} {x1 : Int32} {x2 : Int32} {x3 : Int32} {x4 : Int32} {M : vm_M} {r : Int32 × vm_M} (h : f99 x0 x1 x2 x3 x4 M = some r) (d : Nat) : vm_Cl (d + 3) 99 [.ref (x0), .int (x1), .int (x2), .int (x3), .int (x4)] M (rI r) := by
  have key : Ev 0 (fun _ => 0) (vm_Cl (d + 2)) vp_99 10 10 false (some (.int)) (rI r) 0 (lv_args 0 [.ref (x0), .int (x1), .int (x2), .int (x3), .int (x4)]) [] M := by
    have l0 : (0, .ref (x0)) ∈ lv_args 0 [.ref (x0), .int (x1), .int (x2), .int (x3), .int (x4)] := List.Mem.head _
    have l1 : (1, .int (x1)) ∈ lv_args 0 [.ref (x0), .int (x1), .int (x2), .int (x3), .int (x4)] := List.Mem.tail _ (List.Mem.head _)
    have l2 : (2, .int (x2)) ∈ lv_args 0 [.ref (x0), .int (x1), .int (x2), .int (x3), .int (x4)] := List.Mem.tail _ (List.Mem.tail _ (List.Mem.head _))
    have l3 : (3, .int (x3)) ∈ lv_args 0 [.ref (x0), .int (x1), .int (x2), .int (x3), .int (x4)] := List.Mem.tail _ (List.Mem.tail _ (List.Mem.tail _ (List.Mem.head _)))
    have l4 : (4, .int (x4)) ∈ lv_args 0 [.ref (x0), .int (x1), .int (x2), .int (x3), .int (x4)] := List.Mem.tail _ (List.Mem.tail _ (List.Mem.tail _ (List.Mem.tail _ (List.Mem.head _))))
    unfold f99 at h
    refine ev_aload_nR (mm 0 rfl) l0 ?_
    refine ev_iload_n (mm 1 rfl) l1 ?_
    obtain ⟨_, e70, h⟩ := bind_so h
    obtain ⟨p1, e2, h⟩ := bind_so h
    refine ev_callV_I [.int (x1)] (mm 2 rfl) rfl rfl (Nat.le_of_ble_eq_true rfl) (s_ob_of e70) (f105_ok e2 (d + 0)) ?_
    rcases ite_so h with ⟨c3, h⟩ | ⟨c3, h⟩
    · refine ev_if_t 35 (mm 3 rfl) rfl c3 ?_
      refine ev_iconst (mm 18 rfl) cI_m1 ?_
      exact ev_ireturn (mm 19 rfl) h
    · refine ev_if_f 35 (mm 3 rfl) rfl c3 ?_
      refine ev_iload_n (mm 4 rfl) l2 ?_
      refine ev_iconst (mm 5 rfl) cI_3 ?_
      obtain ⟨p4, e5, h⟩ := bind_so h
      refine ev_callS_I [.int (x2), .int (3)] (mm 6 rfl) (by decide) rfl rfl (Nat.le_of_ble_eq_true rfl) (f102_ok e5 (d + 1)) ?_
      rcases ite_so h with ⟨c6, h⟩ | ⟨c6, h⟩
      · refine ev_if_t 35 (mm 7 rfl) rfl c6 ?_
        refine ev_iconst (mm 18 rfl) cI_m1 ?_
        exact ev_ireturn (mm 19 rfl) h
      · refine ev_if_f 35 (mm 7 rfl) rfl c6 ?_
        refine ev_iload_n (mm 8 rfl) l3 ?_
        refine ev_iconst (mm 9 rfl) cI_1 ?_
        rcases ite_so h with ⟨c7, h⟩ | ⟨c7, h⟩
        · refine ev_ic_t 35 (mm 10 rfl) rfl c7 ?_
          refine ev_iconst (mm 18 rfl) cI_m1 ?_
          exact ev_ireturn (mm 19 rfl) h
        · refine ev_ic_f 35 (mm 10 rfl) rfl c7 ?_
          refine ev_iload_n (mm 11 rfl) l3 ?_
          refine ev_iconst (mm 12 rfl) cI_5 ?_
          rcases ite_so h with ⟨c8, h⟩ | ⟨c8, h⟩
          · refine ev_ic_t 35 (mm 13 rfl) rfl c8 ?_
            refine ev_iconst (mm 18 rfl) cI_m1 ?_
            exact ev_ireturn (mm 19 rfl) h
          · refine ev_ic_f 35 (mm 13 rfl) rfl c8 ?_
            refine ev_iload (mm 14 rfl) l4 ?_
            refine ev_iconst (mm 15 rfl) cI_3 ?_
            obtain ⟨p9, e10, h⟩ := bind_so h
            refine ev_callS_I [.int (x4), .int (3)] (mm 16 rfl) (by decide) rfl rfl (Nat.le_of_ble_eq_true rfl) (f102_ok e10 (d + 1)) ?_
            rcases ite_so h with ⟨c11, h⟩ | ⟨c11, h⟩
            · refine ev_if_t 37 (mm 17 rfl) rfl c11 ?_
              refine ev_aload_nR (mm 20 rfl) l0 ?_
              obtain ⟨v12, e13, h⟩ := bind_so h
              refine ev_get_r (mm 21 rfl) rfl e13 ?_
              refine ev_iload_n (mm 22 rfl) l1 ?_
              refine ev_iload_n (mm 23 rfl) l2 ?_
              refine ev_aload_nR (mm 24 rfl) l0 ?_
              obtain ⟨v14, e15, h⟩ := bind_so h
              refine ev_get_i (mm 25 rfl) rfl e15 ?_
              refine ev_bipush (mm 26 rfl) cB_100 ?_
              obtain ⟨v16, e17, h⟩ := bind_so h
              refine ev_idiv (mm 27 rfl) e17 ?_
              refine ev_aload_nR (mm 28 rfl) l0 ?_
              obtain ⟨v18, e19, h⟩ := bind_so h
              refine ev_get_i (mm 29 rfl) rfl e19 ?_
              obtain ⟨q20, e21, h⟩ := bind_so h
              rw [e21]
              obtain ⟨_, e69, h⟩ := bind_so h
              obtain ⟨p22, e23, h⟩ := bind_so h
              refine ev_callV_I [.int (x1), .int (x2), .int (v16), .int (v18)] (mm 30 rfl) rfl rfl (Nat.le_of_ble_eq_true rfl) (s_ob_of e69) (f13_ok e23 (d + 0)) ?_
              refine evs_istore (mm 31 rfl) (by decide) (fun lv24 l5 s25 => ?_)
              have l0 := s25 _ _ l0 rfl
              have l1 := s25 _ _ l1 rfl
              have l2 := s25 _ _ l2 rfl
              have l3 := s25 _ _ l3 rfl
              have l4 := s25 _ _ l4 rfl
              refine ev_aload_nR (mm 32 rfl) l0 ?_
              obtain ⟨v26, e27, h⟩ := bind_so h
              refine ev_get_r (mm 33 rfl) rfl e27 ?_
              refine ev_iload_n (mm 34 rfl) l1 ?_
              refine ev_iload_n (mm 35 rfl) l2 ?_
              refine ev_iload (mm 36 rfl) l5 ?_
              refine ev_iconst (mm 37 rfl) cI_1 ?_
              refine ev_isub (mm 38 rfl) ?_
              refine ev_aload_nR (mm 39 rfl) l0 ?_
              obtain ⟨v28, e29, h⟩ := bind_so h
              refine ev_get_i (mm 40 rfl) rfl e29 ?_
              obtain ⟨q30, e31, h⟩ := bind_so h
              rw [e31]
              obtain ⟨_, e68, h⟩ := bind_so h
              obtain ⟨p32, e33, h⟩ := bind_so h
              refine ev_callV_I [.int (x1), .int (x2), .int ((p22.1 - 1)), .int (v28)] (mm 41 rfl) rfl rfl (Nat.le_of_ble_eq_true rfl) (s_ob_of e68) (f13_ok e33 (d + 0)) ?_
              refine evs_istore (mm 42 rfl) (by decide) (fun lv34 l6 s35 => ?_)
              have l0 := s35 _ _ l0 rfl
              have l1 := s35 _ _ l1 rfl
              have l2 := s35 _ _ l2 rfl
              have l3 := s35 _ _ l3 rfl
              have l4 := s35 _ _ l4 rfl
              have l5 := s35 _ _ l5 rfl
              refine ev_iload (mm 43 rfl) l5 ?_
              rcases ite_so h with ⟨c36, h⟩ | ⟨c36, h⟩
              · refine ev_if_t 88 (mm 44 rfl) rfl c36 ?_
                refine ev_iconst (mm 47 rfl) cI_m1 ?_
                exact ev_ireturn (mm 48 rfl) h
              · refine ev_if_f 88 (mm 44 rfl) rfl c36 ?_
                refine ev_iload (mm 45 rfl) l6 ?_
                rcases ite_so h with ⟨c37, h⟩ | ⟨c37, h⟩
                · refine ev_if_t 90 (mm 46 rfl) rfl c37 ?_
                  refine ev_aload_nR (mm 49 rfl) l0 ?_
                  obtain ⟨v38, e39, h⟩ := bind_so h
                  refine ev_get_r (mm 50 rfl) rfl e39 ?_
                  refine ev_iload_n (mm 51 rfl) l1 ?_
                  refine ev_iload (mm 52 rfl) l5 ?_
                  refine ev_iload_n (mm 53 rfl) l2 ?_
                  refine ev_aload_nR (mm 54 rfl) l0 ?_
                  obtain ⟨v40, e41, h⟩ := bind_so h
                  refine ev_get_i (mm 55 rfl) rfl e41 ?_
                  obtain ⟨q42, e43, h⟩ := bind_so h
                  rw [e43]
                  obtain ⟨_, e67, h⟩ := bind_so h
                  obtain ⟨p44, e45, h⟩ := bind_so h
                  refine ev_callV_I [.int (x1), .int (p22.1), .int (x2), .int (v40)] (mm 56 rfl) rfl rfl (Nat.le_of_ble_eq_true rfl) (s_ob_of e67) (f12_ok e45 (d + 1)) ?_
                  refine evs_istore (mm 57 rfl) (by decide) (fun lv46 l7 s47 => ?_)
                  have l0 := s47 _ _ l0 rfl
                  have l1 := s47 _ _ l1 rfl
                  have l2 := s47 _ _ l2 rfl
                  have l3 := s47 _ _ l3 rfl
                  have l4 := s47 _ _ l4 rfl
                  have l6 := s47 _ _ l6 rfl
                  refine ev_iload (mm 58 rfl) l7 ?_
                  refine ev_aload_nR (mm 59 rfl) l0 ?_
                  obtain ⟨v48, e49, h⟩ := bind_so h
                  refine ev_get_r (mm 60 rfl) rfl e49 ?_
                  refine ev_iload_n (mm 61 rfl) l1 ?_
                  refine ev_iload (mm 62 rfl) l6 ?_
                  refine ev_iload_n (mm 63 rfl) l2 ?_
                  refine ev_aload_nR (mm 64 rfl) l0 ?_
                  obtain ⟨v50, e51, h⟩ := bind_so h
                  refine ev_get_i (mm 65 rfl) rfl e51 ?_
                  obtain ⟨q52, e53, h⟩ := bind_so h
                  rw [e53]
                  obtain ⟨_, e66, h⟩ := bind_so h
                  obtain ⟨p54, e55, h⟩ := bind_so h
                  refine ev_callV_I [.int (x1), .int (p32.1), .int (x2), .int (v50)] (mm 66 rfl) rfl rfl (Nat.le_of_ble_eq_true rfl) (s_ob_of e66) (f12_ok e55 (d + 1)) ?_
                  refine ev_isub (mm 67 rfl) ?_
                  refine evs_istore (mm 68 rfl) (by decide) (fun lv56 l8 s57 => ?_)
                  have l3 := s57 _ _ l3 rfl
                  have l4 := s57 _ _ l4 rfl
                  have l7 := s57 _ _ l7 rfl
                  refine ev_iload (mm 69 rfl) l7 ?_
                  refine ev_iload_n (mm 70 rfl) l3 ?_
                  refine ev_iload (mm 71 rfl) l8 ?_
                  refine ev_imul (mm 72 rfl) ?_
                  refine ev_iadd (mm 73 rfl) ?_
                  refine evs_istore (mm 74 rfl) (by decide) (fun lv58 l9 s59 => ?_)
                  have l3 := s59 _ _ l3 rfl
                  have l4 := s59 _ _ l4 rfl
                  have l8 := s59 _ _ l8 rfl
                  refine ev_iload (mm 75 rfl) l4 ?_
                  refine ev_iconst (mm 76 rfl) cI_1 ?_
                  rcases ite_so h with ⟨c60, h⟩ | ⟨c60, h⟩
                  · refine ev_ic_t 154 (mm 77 rfl) rfl c60 ?_
                    exact f99_j154_ok l3 l4 l8 l9 h
                  · refine ev_ic_f 154 (mm 77 rfl) rfl c60 ?_
                    refine ev_iload (mm 78 rfl) l9 ?_
                    refine ev_iload_n (mm 79 rfl) l3 ?_
                    refine ev_iload (mm 80 rfl) l8 ?_
                    refine ev_abI (mm 81 rfl) (Nat.le_of_ble_eq_true rfl) ?_
                    refine ev_imul (mm 82 rfl) ?_
                    refine ev_isub (mm 83 rfl) ?_
                    refine evs_istore (mm 84 rfl) (by decide) (fun lv64 l9 s65 => ?_)
                    have l3 := s65 _ _ l3 rfl
                    have l4 := s65 _ _ l4 rfl
                    have l8 := s65 _ _ l8 rfl
                    exact f99_j154_ok l3 l4 l8 l9 h
                · refine ev_if_f 90 (mm 46 rfl) rfl c37 ?_
                  refine ev_iconst (mm 47 rfl) cI_m1 ?_
                  exact ev_ireturn (mm 48 rfl) h
            · refine ev_if_f 37 (mm 17 rfl) rfl c11 ?_
              refine ev_iconst (mm 18 rfl) cI_m1 ?_
              exact ev_ireturn (mm 19 rfl) h
  exact ⟨by decide, Nat.le_of_ble_eq_true rfl, key.1, key.2⟩
/-- java/lang/Integer.bitCount(I)I -/
def f198 (x0 : Int32) (M : vm_M) : Option (Int32 × vm_M) :=
  some (((((((((x0 - (((x0).toUInt32 >>> ((1).toUInt32 &&& Int32.toUInt32 31)).toInt32 &&& 1431655765)) &&& 858993459) + ((((x0 - (((x0).toUInt32 >>> ((1).toUInt32 &&& Int32.toUInt32 31)).toInt32 &&& 1431655765))).toUInt32 >>> ((2).toUInt32 &&& Int32.toUInt32 31)).toInt32 &&& 858993459)) + (((((x0 - (((x0).toUInt32 >>> ((1).toUInt32 &&& Int32.toUInt32 31)).toInt32 &&& 1431655765)) &&& 858993459) + ((((x0 - (((x0).toUInt32 >>> ((1).toUInt32 &&& Int32.toUInt32 31)).toInt32 &&& 1431655765))).toUInt32 >>> ((2).toUInt32 &&& Int32.toUInt32 31)).toInt32 &&& 858993459))).toUInt32 >>> ((4).toUInt32 &&& Int32.toUInt32 31)).toInt32) &&& 252645135) + (((((((x0 - (((x0).toUInt32 >>> ((1).toUInt32 &&& Int32.toUInt32 31)).toInt32 &&& 1431655765)) &&& 858993459) + ((((x0 - (((x0).toUInt32 >>> ((1).toUInt32 &&& Int32.toUInt32 31)).toInt32 &&& 1431655765))).toUInt32 >>> ((2).toUInt32 &&& Int32.toUInt32 31)).toInt32 &&& 858993459)) + (((((x0 - (((x0).toUInt32 >>> ((1).toUInt32 &&& Int32.toUInt32 31)).toInt32 &&& 1431655765)) &&& 858993459) + ((((x0 - (((x0).toUInt32 >>> ((1).toUInt32 &&& Int32.toUInt32 31)).toInt32 &&& 1431655765))).toUInt32 >>> ((2).toUInt32 &&& Int32.toUInt32 31)).toInt32 &&& 858993459))).toUInt32 >>> ((4).toUInt32 &&& Int32.toUInt32 31)).toInt32) &&& 252645135)).toUInt32 >>> ((8).toUInt32 &&& Int32.toUInt32 31)).toInt32) + ((((((((x0 - (((x0).toUInt32 >>> ((1).toUInt32 &&& Int32.toUInt32 31)).toInt32 &&& 1431655765)) &&& 858993459) + ((((x0 - (((x0).toUInt32 >>> ((1).toUInt32 &&& Int32.toUInt32 31)).toInt32 &&& 1431655765))).toUInt32 >>> ((2).toUInt32 &&& Int32.toUInt32 31)).toInt32 &&& 858993459)) + (((((x0 - (((x0).toUInt32 >>> ((1).toUInt32 &&& Int32.toUInt32 31)).toInt32 &&& 1431655765)) &&& 858993459) + ((((x0 - (((x0).toUInt32 >>> ((1).toUInt32 &&& Int32.toUInt32 31)).toInt32 &&& 1431655765))).toUInt32 >>> ((2).toUInt32 &&& Int32.toUInt32 31)).toInt32 &&& 858993459))).toUInt32 >>> ((4).toUInt32 &&& Int32.toUInt32 31)).toInt32) &&& 252645135) + (((((((x0 - (((x0).toUInt32 >>> ((1).toUInt32 &&& Int32.toUInt32 31)).toInt32 &&& 1431655765)) &&& 858993459) + ((((x0 - (((x0).toUInt32 >>> ((1).toUInt32 &&& Int32.toUInt32 31)).toInt32 &&& 1431655765))).toUInt32 >>> ((2).toUInt32 &&& Int32.toUInt32 31)).toInt32 &&& 858993459)) + (((((x0 - (((x0).toUInt32 >>> ((1).toUInt32 &&& Int32.toUInt32 31)).toInt32 &&& 1431655765)) &&& 858993459) + ((((x0 - (((x0).toUInt32 >>> ((1).toUInt32 &&& Int32.toUInt32 31)).toInt32 &&& 1431655765))).toUInt32 >>> ((2).toUInt32 &&& Int32.toUInt32 31)).toInt32 &&& 858993459))).toUInt32 >>> ((4).toUInt32 &&& Int32.toUInt32 31)).toInt32) &&& 252645135)).toUInt32 >>> ((8).toUInt32 &&& Int32.toUInt32 31)).toInt32)).toUInt32 >>> ((16).toUInt32 &&& Int32.toUInt32 31)).toInt32) &&& 63), M)
theorem f198_ok {x0 : Int32} {M : vm_M} {r : Int32 × vm_M} (h : f198 x0 M = some r) (d : Nat) : vm_Cl (d + 1) 198 [.int (x0)] M (rI r) := by
  have key : Ev 0 (fun _ => 0) (vm_Cl (d + 0)) vp_198 13 1 false (some (.int)) (rI r) 0 (lv_args 0 [.int (x0)]) [] M := by
    have l0 : (0, .int (x0)) ∈ lv_args 0 [.int (x0)] := List.Mem.head _
    unfold f198 at h
    refine ev_iload_n (mm 0 rfl) l0 ?_
    refine ev_iload_n (mm 1 rfl) l0 ?_
    refine ev_iconst (mm 2 rfl) cI_1 ?_
    refine ev_iushr (mm 3 rfl) ?_
    refine ev_ldc_w (mm 4 rfl) cI_1431655765 ?_
    refine ev_iand (mm 5 rfl) ?_
    refine ev_isub (mm 6 rfl) ?_
    refine evs_istore_n (mm 7 rfl) (by decide) (fun lv1 l0 s2 => ?_)
    refine ev_iload_n (mm 8 rfl) l0 ?_
    refine ev_ldc_w (mm 9 rfl) cI_858993459 ?_
    refine ev_iand (mm 10 rfl) ?_
    refine ev_iload_n (mm 11 rfl) l0 ?_
    refine ev_iconst (mm 12 rfl) cI_2 ?_
    refine ev_iushr (mm 13 rfl) ?_
    refine ev_ldc_w (mm 14 rfl) cI_858993459 ?_
    refine ev_iand (mm 15 rfl) ?_
    refine ev_iadd (mm 16 rfl) ?_
    refine evs_istore_n (mm 17 rfl) (by decide) (fun lv3 l0 s4 => ?_)
    refine ev_iload_n (mm 18 rfl) l0 ?_
    refine ev_iload_n (mm 19 rfl) l0 ?_
    refine ev_iconst (mm 20 rfl) cI_4 ?_
    refine ev_iushr (mm 21 rfl) ?_
    refine ev_iadd (mm 22 rfl) ?_
    refine ev_ldc_w (mm 23 rfl) cI_252645135 ?_
    refine ev_iand (mm 24 rfl) ?_
    refine evs_istore_n (mm 25 rfl) (by decide) (fun lv5 l0 s6 => ?_)
    refine ev_iload_n (mm 26 rfl) l0 ?_
    refine ev_iload_n (mm 27 rfl) l0 ?_
    refine ev_bipush (mm 28 rfl) cB_8 ?_
    refine ev_iushr (mm 29 rfl) ?_
    refine ev_iadd (mm 30 rfl) ?_
    refine evs_istore_n (mm 31 rfl) (by decide) (fun lv7 l0 s8 => ?_)
    refine ev_iload_n (mm 32 rfl) l0 ?_
    refine ev_iload_n (mm 33 rfl) l0 ?_
    refine ev_bipush (mm 34 rfl) cB_16 ?_
    refine ev_iushr (mm 35 rfl) ?_
    refine ev_iadd (mm 36 rfl) ?_
    refine evs_istore_n (mm 37 rfl) (by decide) (fun lv9 l0 s10 => ?_)
    refine ev_iload_n (mm 38 rfl) l0 ?_
    refine ev_bipush (mm 39 rfl) cB_63 ?_
    refine ev_iand (mm 40 rfl) ?_
    exact ev_ireturn (mm 41 rfl) h
  exact ⟨by decide, Nat.le_of_ble_eq_true rfl, key.1, key.2⟩
def f100_j62 (k37 : Int32 → Int32 → vm_M → Option (Int32 × vm_M)) (x0 : Nat) (x1 : Int32) (x2 : Int32) (x3 : Int32) (x4 : Int32) (x5 : Int32) (s0 : Int32) (M : vm_M) : Option (Int32 × vm_M) :=
  if ¬ (x5 &&& (x3 ^^^ (-1))) = 0 then
    k37 x4 (x5 + 1) M
  else
    if s0 = 0 then
      k37 x4 (x5 + 1) M
    else
      (sg_r M x0 10 1).bind fun v35 =>
      (sg_i M x0 10 10).bind fun v37 =>
      (v35).bind fun q39 =>
      (s_ob M q39 2).bind fun _ =>
      (f15 q39 x1 x2 v37 (x3 &&& (x5 ^^^ (-1))) M).bind fun p41 =>
      if p41.1 = 0 then
        k37 x4 (x5 + 1) p41.2
      else
        k37 x5 (x5 + 1) p41.2
theorem f100_j62_ok {d : Nat} {x0 : Nat} {x1 : Int32} {x2 : Int32} {x3 : Int32} {x4 : Int32} {x5 : Int32} {s0 : Int32} {M : vm_M} {k37 : Int32 → Int32 → vm_M → Option (Int32 × vm_M)} {r : Int32 × vm_M} (hk37 : ∀ {y4 : Int32} {y5 : Int32} {M : vm_M} {lv : vm_L}, (0, .ref (x0)) ∈ lv → (1, .int (x1)) ∈ lv → (2, .int (x2)) ∈ lv → (3, .int (x3)) ∈ lv → (4, .int (y4)) ∈ lv → (5, .int (y5)) ∈ lv → k37 y4 y5 M = some r → Ev 0 (fun _ => 0) (vm_Cl (d + 2)) vp_100 10 7 false (some (.int)) (rI r) 37 lv [] M) {lv : vm_L} (l0 : (0, .ref (x0)) ∈ lv) (l1 : (1, .int (x1)) ∈ lv) (l2 : (2, .int (x2)) ∈ lv) (l3 : (3, .int (x3)) ∈ lv) (l4 : (4, .int (x4)) ∈ lv) (l5 : (5, .int (x5)) ∈ lv) (h : f100_j62 k37 x0 x1 x2 x3 x4 x5 s0 M = some r) : Ev 0 (fun _ => 0) (vm_Cl (d + 2)) vp_100 10 7 false (some (.int)) (rI r) 62 lv [.int (s0)] M := by
  unfold f100_j62 at h
  refine evs_istore (mm 32 rfl) (by decide) (fun lv27 l6 s28 => ?_)
  have l0 := s28 _ _ l0 rfl
  have l1 := s28 _ _ l1 rfl
  have l2 := s28 _ _ l2 rfl
  have l3 := s28 _ _ l3 rfl
  have l4 := s28 _ _ l4 rfl
  have l5 := s28 _ _ l5 rfl
  refine ev_iload (mm 33 rfl) l5 ?_
  refine ev_iload_n (mm 34 rfl) l3 ?_
  refine ev_iconst (mm 35 rfl) cI_m1 ?_
  refine ev_ixor (mm 36 rfl) ?_
  refine ev_iand (mm 37 rfl) ?_
  rcases ite_so h with ⟨c29, h⟩ | ⟨c29, h⟩
  · refine ev_if_t 104 (mm 38 rfl) rfl c29 ?_
    refine evs_iinc (mm 56 rfl) cI_1 l5 (by decide) (fun lv30 l5 s31 => ?_)
    have l0 := s31 _ _ l0 rfl
    have l1 := s31 _ _ l1 rfl
    have l2 := s31 _ _ l2 rfl
    have l3 := s31 _ _ l3 rfl
    have l4 := s31 _ _ l4 rfl
    refine ev_goto 37 (mm 57 rfl) rfl ?_
    exact hk37 l0 l1 l2 l3 l4 l5 h
  · refine ev_if_f 104 (mm 38 rfl) rfl c29 ?_
    refine ev_iload (mm 39 rfl) l6 ?_
    rcases ite_so h with ⟨c32, h⟩ | ⟨c32, h⟩
    · refine ev_if_t 104 (mm 40 rfl) rfl c32 ?_
      refine evs_iinc (mm 56 rfl) cI_1 l5 (by decide) (fun lv33 l5 s34 => ?_)
      have l0 := s34 _ _ l0 rfl
      have l1 := s34 _ _ l1 rfl
      have l2 := s34 _ _ l2 rfl
      have l3 := s34 _ _ l3 rfl
      have l4 := s34 _ _ l4 rfl
      refine ev_goto 37 (mm 57 rfl) rfl ?_
      exact hk37 l0 l1 l2 l3 l4 l5 h
    · refine ev_if_f 104 (mm 40 rfl) rfl c32 ?_
      refine ev_aload_nR (mm 41 rfl) l0 ?_
      obtain ⟨v35, e36, h⟩ := bind_so h
      refine ev_get_r (mm 42 rfl) rfl e36 ?_
      refine ev_iload_n (mm 43 rfl) l1 ?_
      refine ev_iload_n (mm 44 rfl) l2 ?_
      refine ev_aload_nR (mm 45 rfl) l0 ?_
      obtain ⟨v37, e38, h⟩ := bind_so h
      refine ev_get_i (mm 46 rfl) rfl e38 ?_
      refine ev_iload_n (mm 47 rfl) l3 ?_
      refine ev_iload (mm 48 rfl) l5 ?_
      refine ev_iconst (mm 49 rfl) cI_m1 ?_
      refine ev_ixor (mm 50 rfl) ?_
      refine ev_iand (mm 51 rfl) ?_
      obtain ⟨q39, e40, h⟩ := bind_so h
      rw [e40]
      obtain ⟨_, e50, h⟩ := bind_so h
      obtain ⟨p41, e42, h⟩ := bind_so h
      refine ev_callV_I [.int (x1), .int (x2), .int (v37), .int ((x3 &&& (x5 ^^^ (-1))))] (mm 52 rfl) rfl rfl (Nat.le_of_ble_eq_true rfl) (s_ob_of e50) (f15_ok e42 (d + 0)) ?_
      rcases ite_so h with ⟨c43, h⟩ | ⟨c43, h⟩
      · refine ev_if_t 104 (mm 53 rfl) rfl c43 ?_
        refine evs_iinc (mm 56 rfl) cI_1 l5 (by decide) (fun lv44 l5 s45 => ?_)
        have l0 := s45 _ _ l0 rfl
        have l1 := s45 _ _ l1 rfl
        have l2 := s45 _ _ l2 rfl
        have l3 := s45 _ _ l3 rfl
        have l4 := s45 _ _ l4 rfl
        refine ev_goto 37 (mm 57 rfl) rfl ?_
        exact hk37 l0 l1 l2 l3 l4 l5 h
      · refine ev_if_f 104 (mm 53 rfl) rfl c43 ?_
        refine ev_iload (mm 54 rfl) l5 ?_
        refine evs_istore (mm 55 rfl) (by decide) (fun lv46 l4 s47 => ?_)
        have l0 := s47 _ _ l0 rfl
        have l1 := s47 _ _ l1 rfl
        have l2 := s47 _ _ l2 rfl
        have l3 := s47 _ _ l3 rfl
        have l5 := s47 _ _ l5 rfl
        refine evs_iinc (mm 56 rfl) cI_1 l5 (by decide) (fun lv48 l5 s49 => ?_)
        have l0 := s49 _ _ l0 rfl
        have l1 := s49 _ _ l1 rfl
        have l2 := s49 _ _ l2 rfl
        have l3 := s49 _ _ l3 rfl
        have l4 := s49 _ _ l4 rfl
        refine ev_goto 37 (mm 57 rfl) rfl ?_
        exact hk37 l0 l1 l2 l3 l4 l5 h
def f100_l37 (x0 : Nat) (x1 : Int32) (x2 : Int32) (x3 : Int32) : Nat → Int32 → Int32 → vm_M → Option (Int32 × vm_M)
  | 0 => fun _ _ _ => none
  | n + 1 => fun x4 x5 M =>
    if 64 ≤ x5 then
      some (x4, M)
    else
      (f198 x5 M).bind fun p22 =>
      (f198 x4 p22.2).bind fun p24 =>
      if p24.1 ≤ p22.1 then
        f100_j62 (f100_l37 x0 x1 x2 x3 n) x0 x1 x2 x3 x4 x5 0 p24.2
      else
        f100_j62 (f100_l37 x0 x1 x2 x3 n) x0 x1 x2 x3 x4 x5 1 p24.2
theorem f100_l37_ok {d : Nat} {x0 : Nat} {x1 : Int32} {x2 : Int32} {x3 : Int32} {r : Int32 × vm_M} : ∀ (n : Nat) {x4 : Int32} {x5 : Int32} {M : vm_M} {lv : vm_L}, (0, .ref (x0)) ∈ lv → (1, .int (x1)) ∈ lv → (2, .int (x2)) ∈ lv → (3, .int (x3)) ∈ lv → (4, .int (x4)) ∈ lv → (5, .int (x5)) ∈ lv → f100_l37 x0 x1 x2 x3 n x4 x5 M = some r → Ev 0 (fun _ => 0) (vm_Cl (d + 2)) vp_100 10 7 false (some (.int)) (rI r) 37 lv [] M := by
  intro n
  induction n with
  | zero =>
    intro x4 x5 M lv l0 l1 l2 l3 l4 l5 h
    cases h
  | succ n ih =>
    intro x4 x5 M lv l0 l1 l2 l3 l4 l5 h
    dsimp only [f100_l37] at h
    refine ev_iload (mm 21 rfl) l5 ?_
    refine ev_bipush (mm 22 rfl) cB_64 ?_
    rcases ite_so h with ⟨c21, h⟩ | ⟨c21, h⟩
    · refine ev_ic_t 110 (mm 23 rfl) rfl c21 ?_
      refine ev_iload (mm 58 rfl) l4 ?_
      exact ev_ireturn (mm 59 rfl) h
    · refine ev_ic_f 110 (mm 23 rfl) rfl c21 ?_
      refine ev_iload (mm 24 rfl) l5 ?_
      obtain ⟨p22, e23, h⟩ := bind_so h
      refine ev_callS_I [.int (x5)] (mm 25 rfl) (by decide) rfl rfl (Nat.le_of_ble_eq_true rfl) (f198_ok e23 (d + 1)) ?_
      refine ev_iload (mm 26 rfl) l4 ?_
      obtain ⟨p24, e25, h⟩ := bind_so h
      refine ev_callS_I [.int (x4)] (mm 27 rfl) (by decide) rfl rfl (Nat.le_of_ble_eq_true rfl) (f198_ok e25 (d + 1)) ?_
      rcases ite_so h with ⟨c26, h⟩ | ⟨c26, h⟩
      · refine ev_ic_t 61 (mm 28 rfl) rfl c26 ?_
        refine ev_iconst (mm 31 rfl) cI_0 ?_
        exact f100_j62_ok ih l0 l1 l2 l3 l4 l5 h
      · refine ev_ic_f 61 (mm 28 rfl) rfl c26 ?_
        refine ev_iconst (mm 29 rfl) cI_1 ?_
        refine ev_goto 62 (mm 30 rfl) rfl ?_
        exact f100_j62_ok ih l0 l1 l2 l3 l4 l5 h
/-- PupilCoin.doubt(II)I -/
def f100 (x0 : Nat) (x1 : Int32) (x2 : Int32) (M : vm_M) : Option (Int32 × vm_M) :=
  (s_ob M x0 10).bind fun _ =>
  (f105 x0 x1 M).bind fun p1 =>
  if p1.1 = 0 then
    some ((-1), p1.2)
  else
    (f103 x2 p1.2).bind fun p4 =>
    if ¬ p4.1 = 0 then
      (sg_r p4.2 x0 10 1).bind fun v7 =>
      (sg_i p4.2 x0 10 10).bind fun v9 =>
      (v7).bind fun q11 =>
      (s_ob p4.2 q11 2).bind fun _ =>
      (f14 q11 x1 x2 v9 p4.2).bind fun p13 =>
      f100_l37 x0 x1 x2 p13.1
      
        100000 p13.1 0 p13.2
    else
      some ((-1), p4.2)
theorem f100_ok {x0 : Nat} {x1 : Int32} {x2 : Int32} {M : vm_M} {r : Int32 × vm_M} (h : f100 x0 x1 x2 M = some r) (d : Nat) : vm_Cl (d + 3) 100 [.ref (x0), .int (x1), .int (x2)] M (rI r) := by
  have key : Ev 0 (fun _ => 0) (vm_Cl (d + 2)) vp_100 10 7 false (some (.int)) (rI r) 0 (lv_args 0 [.ref (x0), .int (x1), .int (x2)]) [] M := by
    have l0 : (0, .ref (x0)) ∈ lv_args 0 [.ref (x0), .int (x1), .int (x2)] := List.Mem.head _
    have l1 : (1, .int (x1)) ∈ lv_args 0 [.ref (x0), .int (x1), .int (x2)] := List.Mem.tail _ (List.Mem.head _)
    have l2 : (2, .int (x2)) ∈ lv_args 0 [.ref (x0), .int (x1), .int (x2)] := List.Mem.tail _ (List.Mem.tail _ (List.Mem.head _))
    unfold f100 at h
    refine ev_aload_nR (mm 0 rfl) l0 ?_
    refine ev_iload_n (mm 1 rfl) l1 ?_
    obtain ⟨_, e52, h⟩ := bind_so h
    obtain ⟨p1, e2, h⟩ := bind_so h
    refine ev_callV_I [.int (x1)] (mm 2 rfl) rfl rfl (Nat.le_of_ble_eq_true rfl) (s_ob_of e52) (f105_ok e2 (d + 0)) ?_
    rcases ite_so h with ⟨c3, h⟩ | ⟨c3, h⟩
    · refine ev_if_t 15 (mm 3 rfl) rfl c3 ?_
      refine ev_iconst (mm 7 rfl) cI_m1 ?_
      exact ev_ireturn (mm 8 rfl) h
    · refine ev_if_f 15 (mm 3 rfl) rfl c3 ?_
      refine ev_iload_n (mm 4 rfl) l2 ?_
      obtain ⟨p4, e5, h⟩ := bind_so h
      refine ev_callS_I [.int (x2)] (mm 5 rfl) (by decide) rfl rfl (Nat.le_of_ble_eq_true rfl) (f103_ok e5 (d + 0)) ?_
      rcases ite_so h with ⟨c6, h⟩ | ⟨c6, h⟩
      · refine ev_if_t 17 (mm 6 rfl) rfl c6 ?_
        refine ev_aload_nR (mm 9 rfl) l0 ?_
        obtain ⟨v7, e8, h⟩ := bind_so h
        refine ev_get_r (mm 10 rfl) rfl e8 ?_
        refine ev_iload_n (mm 11 rfl) l1 ?_
        refine ev_iload_n (mm 12 rfl) l2 ?_
        refine ev_aload_nR (mm 13 rfl) l0 ?_
        obtain ⟨v9, e10, h⟩ := bind_so h
        refine ev_get_i (mm 14 rfl) rfl e10 ?_
        obtain ⟨q11, e12, h⟩ := bind_so h
        rw [e12]
        obtain ⟨_, e51, h⟩ := bind_so h
        obtain ⟨p13, e14, h⟩ := bind_so h
        refine ev_callV_I [.int (x1), .int (x2), .int (v9)] (mm 15 rfl) rfl rfl (Nat.le_of_ble_eq_true rfl) (s_ob_of e51) (f14_ok e14 (d + 0)) ?_
        refine evs_istore_n (mm 16 rfl) (by decide) (fun lv15 l3 s16 => ?_)
        have l0 := s16 _ _ l0 rfl
        have l1 := s16 _ _ l1 rfl
        have l2 := s16 _ _ l2 rfl
        refine ev_iload_n (mm 17 rfl) l3 ?_
        refine evs_istore (mm 18 rfl) (by decide) (fun lv17 l4 s18 => ?_)
        have l0 := s18 _ _ l0 rfl
        have l1 := s18 _ _ l1 rfl
        have l2 := s18 _ _ l2 rfl
        have l3 := s18 _ _ l3 rfl
        refine ev_iconst (mm 19 rfl) cI_0 ?_
        refine evs_istore (mm 20 rfl) (by decide) (fun lv19 l5 s20 => ?_)
        have l0 := s20 _ _ l0 rfl
        have l1 := s20 _ _ l1 rfl
        have l2 := s20 _ _ l2 rfl
        have l3 := s20 _ _ l3 rfl
        have l4 := s20 _ _ l4 rfl
        refine f100_l37_ok 100000 l0 l1 l2 l3 l4 l5 h
      · refine ev_if_f 17 (mm 6 rfl) rfl c6 ?_
        refine ev_iconst (mm 7 rfl) cI_m1 ?_
        exact ev_ireturn (mm 8 rfl) h
  exact ⟨by decide, Nat.le_of_ble_eq_true rfl, key.1, key.2⟩
/-- PupilCoin.count(I)I -/
def f101 (x0 : Nat) (x1 : Int32) (M : vm_M) : Option (Int32 × vm_M) :=
  if x1 = 0 then
    (sg_i M x0 10 10).bind fun v2 =>
    some (v2, M)
  else if x1 = 1 then
    (sg_r M x0 10 0).bind fun v5 =>
    (v5).bind fun q7 =>
    (sg_i M q7 0 7).bind fun v9 =>
    some (v9, M)
  else if x1 = 2 then
    (sg_r M x0 10 0).bind fun v12 =>
    (sg_i M x0 10 10).bind fun v14 =>
    (s_dv v14 100).bind fun v16 =>
    (v12).bind fun q18 =>
    (s_ob M q18 0).bind fun _ =>
    (f6 q18 v16 M).bind fun p20 =>
    some (p20.1, p20.2)
  else if x1 = 3 then
    (sg_r M x0 10 1).bind fun v24 =>
    (v24).bind fun q26 =>
    (sg_i M q26 2 4).bind fun v28 =>
    some (v28, M)
  else if x1 = 4 then
    (sg_r M x0 10 0).bind fun v31 =>
    (v31).bind fun q33 =>
    (sg_i M q33 0 8).bind fun v35 =>
    some (v35, M)
  else if x1 = 5 then
    (sg_r M x0 10 3).bind fun v38 =>
    (v38).bind fun q40 =>
    (sg_i M q40 8 2).bind fun v42 =>
    some (v42, M)
  else if x1 = 6 then
    (sg_r M x0 10 5).bind fun v45 =>
    (v45).bind fun q47 =>
    (sg_i M q47 4 8).bind fun v49 =>
    some (v49, M)
  else if x1 = 7 then
    (sg_r M x0 10 5).bind fun v52 =>
    (v52).bind fun q54 =>
    (sg_i M q54 4 9).bind fun v56 =>
    some (v56, M)
  else if x1 = 8 then
    (sg_i M x0 10 7).bind fun v59 =>
    some (v59, M)
  else if x1 = 9 then
    (sg_r M x0 10 8).bind fun v62 =>
    match v62 with
    | none =>
      some (0, M)
    | some q64 =>
      some (1, M)
  else 
    some ((-1), M)
theorem f101_ok {x0 : Nat} {x1 : Int32} {M : vm_M} {r : Int32 × vm_M} (h : f101 x0 x1 M = some r) (d : Nat) : vm_Cl (d + 3) 101 [.ref (x0), .int (x1)] M (rI r) := by
  have key : Ev 0 (fun _ => 0) (vm_Cl (d + 2)) vp_101 10 2 false (some (.int)) (rI r) 0 (lv_args 0 [.ref (x0), .int (x1)]) [] M := by
    have l0 : (0, .ref (x0)) ∈ lv_args 0 [.ref (x0), .int (x1)] := List.Mem.head _
    have l1 : (1, .int (x1)) ∈ lv_args 0 [.ref (x0), .int (x1)] := List.Mem.tail _ (List.Mem.head _)
    unfold f101 at h
    refine ev_iload_n (mm 0 rfl) l1 ?_
    rcases ite_so h with ⟨c1, h⟩ | ⟨c1, h⟩
    · refine ev_tsw (off := 55) 56 0 (mm 1 rfl) c1 rfl rfl ?_
      refine ev_aload_nR (mm 2 rfl) l0 ?_
      obtain ⟨v2, e3, h⟩ := bind_so h
      refine ev_get_i (mm 3 rfl) rfl e3 ?_
      exact ev_ireturn (mm 4 rfl) h
    rcases ite_so h with ⟨c4, h⟩ | ⟨c4, h⟩
    · refine ev_tsw (off := 60) 61 1 (mm 1 rfl) c4 rfl rfl ?_
      refine ev_aload_nR (mm 5 rfl) l0 ?_
      obtain ⟨v5, e6, h⟩ := bind_so h
      refine ev_get_r (mm 6 rfl) rfl e6 ?_
      obtain ⟨q7, e8, h⟩ := bind_so h
      rw [e8]
      obtain ⟨v9, e10, h⟩ := bind_so h
      refine ev_get_i (mm 7 rfl) rfl e10 ?_
      exact ev_ireturn (mm 8 rfl) h
    rcases ite_so h with ⟨c11, h⟩ | ⟨c11, h⟩
    · refine ev_tsw (off := 68) 69 2 (mm 1 rfl) c11 rfl rfl ?_
      refine ev_aload_nR (mm 9 rfl) l0 ?_
      obtain ⟨v12, e13, h⟩ := bind_so h
      refine ev_get_r (mm 10 rfl) rfl e13 ?_
      refine ev_aload_nR (mm 11 rfl) l0 ?_
      obtain ⟨v14, e15, h⟩ := bind_so h
      refine ev_get_i (mm 12 rfl) rfl e15 ?_
      refine ev_bipush (mm 13 rfl) cB_100 ?_
      obtain ⟨v16, e17, h⟩ := bind_so h
      refine ev_idiv (mm 14 rfl) e17 ?_
      obtain ⟨q18, e19, h⟩ := bind_so h
      rw [e19]
      obtain ⟨_, e22, h⟩ := bind_so h
      obtain ⟨p20, e21, h⟩ := bind_so h
      refine ev_callV_I [.int (v16)] (mm 15 rfl) rfl rfl (Nat.le_of_ble_eq_true rfl) (s_ob_of e22) (f6_ok e21 (d + 0)) ?_
      exact ev_ireturn (mm 16 rfl) h
    rcases ite_so h with ⟨c23, h⟩ | ⟨c23, h⟩
    · refine ev_tsw (off := 83) 84 3 (mm 1 rfl) c23 rfl rfl ?_
      refine ev_aload_nR (mm 17 rfl) l0 ?_
      obtain ⟨v24, e25, h⟩ := bind_so h
      refine ev_get_r (mm 18 rfl) rfl e25 ?_
      obtain ⟨q26, e27, h⟩ := bind_so h
      rw [e27]
      obtain ⟨v28, e29, h⟩ := bind_so h
      refine ev_get_i (mm 19 rfl) rfl e29 ?_
      exact ev_ireturn (mm 20 rfl) h
    rcases ite_so h with ⟨c30, h⟩ | ⟨c30, h⟩
    · refine ev_tsw (off := 91) 92 4 (mm 1 rfl) c30 rfl rfl ?_
      refine ev_aload_nR (mm 21 rfl) l0 ?_
      obtain ⟨v31, e32, h⟩ := bind_so h
      refine ev_get_r (mm 22 rfl) rfl e32 ?_
      obtain ⟨q33, e34, h⟩ := bind_so h
      rw [e34]
      obtain ⟨v35, e36, h⟩ := bind_so h
      refine ev_get_i (mm 23 rfl) rfl e36 ?_
      exact ev_ireturn (mm 24 rfl) h
    rcases ite_so h with ⟨c37, h⟩ | ⟨c37, h⟩
    · refine ev_tsw (off := 99) 100 5 (mm 1 rfl) c37 rfl rfl ?_
      refine ev_aload_nR (mm 25 rfl) l0 ?_
      obtain ⟨v38, e39, h⟩ := bind_so h
      refine ev_get_r (mm 26 rfl) rfl e39 ?_
      obtain ⟨q40, e41, h⟩ := bind_so h
      rw [e41]
      obtain ⟨v42, e43, h⟩ := bind_so h
      refine ev_get_i (mm 27 rfl) rfl e43 ?_
      exact ev_ireturn (mm 28 rfl) h
    rcases ite_so h with ⟨c44, h⟩ | ⟨c44, h⟩
    · refine ev_tsw (off := 107) 108 6 (mm 1 rfl) c44 rfl rfl ?_
      refine ev_aload_nR (mm 29 rfl) l0 ?_
      obtain ⟨v45, e46, h⟩ := bind_so h
      refine ev_get_r (mm 30 rfl) rfl e46 ?_
      obtain ⟨q47, e48, h⟩ := bind_so h
      rw [e48]
      obtain ⟨v49, e50, h⟩ := bind_so h
      refine ev_get_i (mm 31 rfl) rfl e50 ?_
      exact ev_ireturn (mm 32 rfl) h
    rcases ite_so h with ⟨c51, h⟩ | ⟨c51, h⟩
    · refine ev_tsw (off := 115) 116 7 (mm 1 rfl) c51 rfl rfl ?_
      refine ev_aload_nR (mm 33 rfl) l0 ?_
      obtain ⟨v52, e53, h⟩ := bind_so h
      refine ev_get_r (mm 34 rfl) rfl e53 ?_
      obtain ⟨q54, e55, h⟩ := bind_so h
      rw [e55]
      obtain ⟨v56, e57, h⟩ := bind_so h
      refine ev_get_i (mm 35 rfl) rfl e57 ?_
      exact ev_ireturn (mm 36 rfl) h
    rcases ite_so h with ⟨c58, h⟩ | ⟨c58, h⟩
    · refine ev_tsw (off := 123) 124 8 (mm 1 rfl) c58 rfl rfl ?_
      refine ev_aload_nR (mm 37 rfl) l0 ?_
      obtain ⟨v59, e60, h⟩ := bind_so h
      refine ev_get_i (mm 38 rfl) rfl e60 ?_
      exact ev_ireturn (mm 39 rfl) h
    rcases ite_so h with ⟨c61, h⟩ | ⟨c61, h⟩
    · refine ev_tsw (off := 128) 129 9 (mm 1 rfl) c61 rfl rfl ?_
      refine ev_aload_nR (mm 40 rfl) l0 ?_
      obtain ⟨v62, e63, h⟩ := bind_so h
      refine ev_get_r (mm 41 rfl) rfl e63 ?_
      cases v62 with
      | none =>
        refine ev_nonnull_f (mm 42 rfl) ?_
        refine ev_iconst (mm 43 rfl) cI_0 ?_
        refine ev_goto 141 (mm 44 rfl) rfl ?_
        exact ev_ireturn (mm 46 rfl) h
      | some q64 =>
        refine ev_nonnull_t 140 (mm 42 rfl) rfl ?_
        refine ev_iconst (mm 45 rfl) cI_1 ?_
        exact ev_ireturn (mm 46 rfl) h
    refine ev_tswD 142 (mm 1 rfl) rfl (tsw_out [0, 1, 2, 3, 4, 5, 6, 7, 8, 9] rfl rfl (by simp [c1, c4, c11, c23, c30, c37, c44, c51, c58, c61])) ?_
    refine ev_iconst (mm 47 rfl) cI_m1 ?_
    exact ev_ireturn (mm 48 rfl) h
  exact ⟨by decide, Nat.le_of_ble_eq_true rfl, key.1, key.2⟩
/-- PupilCoinModel.<init>()V -/
def f111 (x0 : Nat) (M : vm_M) : Option (vm_M) :=
  (s_na M 0 12).bind fun M1 =>
  (sp_r M1 x0 11 4 (some (vm_n M))).bind fun M3 =>
  (s_na M3 0 12).bind fun M5 =>
  (sp_r M5 x0 11 5 (some (vm_n M3))).bind fun M7 =>
  (s_na M7 0 12).bind fun M9 =>
  (sp_r M9 x0 11 6 (some (vm_n M7))).bind fun M11 =>
  (s_na M11 0 8).bind fun M13 =>
  (sp_r M13 x0 11 7 (some (vm_n M11))).bind fun M15 =>
  (s_na M15 0 256).bind fun M17 =>
  (sp_r M17 x0 11 8 (some (vm_n M15))).bind fun M19 =>
  (s_na M19 0 300).bind fun M21 =>
  (sp_r M21 x0 11 9 (some (vm_n M19))).bind fun M23 =>
  (s_na M23 0 300).bind fun M25 =>
  (sp_r M25 x0 11 10 (some (vm_n M23))).bind fun M27 =>
  (s_na M27 0 300).bind fun M29 =>
  (sp_r M29 x0 11 11 (some (vm_n M27))).bind fun M31 =>
  (s_na M31 0 300).bind fun M33 =>
  (sp_r M33 x0 11 12 (some (vm_n M31))).bind fun M35 =>
  (s_na M35 0 300).bind fun M37 =>
  (sp_r M37 x0 11 13 (some (vm_n M35))).bind fun M39 =>
  (s_na M39 0 12).bind fun M41 =>
  (sp_r M41 x0 11 14 (some (vm_n M39))).bind fun M43 =>
  (s_na M43 0 12).bind fun M45 =>
  (sp_r M45 x0 11 15 (some (vm_n M43))).bind fun M47 =>
  (s_na M47 0 16).bind fun M49 =>
  (sp_r M49 x0 11 16 (some (vm_n M47))).bind fun M51 =>
  (s_na M51 2 16).bind fun M53 =>
  (sp_r M53 x0 11 17 (some (vm_n M51))).bind fun M55 =>
  (sp_i M55 x0 11 25 (-1)).bind fun M57 =>
  (s_na M57 0 10).bind fun M59 =>
  (sp_r M59 x0 11 27 (some (vm_n M57))).bind fun M61 =>
  (s_na M61 0 10).bind fun M63 =>
  (sp_r M63 x0 11 28 (some (vm_n M61))).bind fun M65 =>
  (s_na M65 0 10).bind fun M67 =>
  (sp_r M67 x0 11 29 (some (vm_n M65))).bind fun M69 =>
  (s_na M69 0 300).bind fun M71 =>
  (sp_r M71 x0 11 30 (some (vm_n M69))).bind fun M73 =>
  (s_na M73 0 300).bind fun M75 =>
  (sp_r M75 x0 11 31 (some (vm_n M73))).bind fun M77 =>
  (s_na M77 0 300).bind fun M79 =>
  (sp_r M79 x0 11 32 (some (vm_n M77))).bind fun M81 =>
  (s_na M81 0 300).bind fun M83 =>
  (sp_r M83 x0 11 33 (some (vm_n M81))).bind fun M85 =>
  (s_na M85 0 300).bind fun M87 =>
  (sp_r M87 x0 11 34 (some (vm_n M85))).bind fun M89 =>
  (s_na M89 0 15000).bind fun M91 =>
  (sp_r M91 x0 11 35 (some (vm_n M89))).bind fun M93 =>
  (s_na M93 0 15000).bind fun M95 =>
  (sp_r M95 x0 11 36 (some (vm_n M93))).bind fun M97 =>
  (s_na M97 1 30).bind fun M99 =>
  (sp_r M99 x0 11 37 (some (vm_n M97))).bind fun M101 =>
  (s_na M101 1 64).bind fun M103 =>
  (sp_r M103 x0 11 38 (some (vm_n M101))).bind fun M105 =>
  (s_na M105 1 10).bind fun M107 =>
  (sp_r M107 x0 11 39 (some (vm_n M105))).bind fun M109 =>
  (s_na M109 3 700).bind fun M111 =>
  (sp_r M111 x0 11 40 (some (vm_n M109))).bind fun M113 =>
  (s_na M113 3 700).bind fun M115 =>
  (sp_r M115 x0 11 41 (some (vm_n M113))).bind fun M117 =>
  (s_na M117 1 360).bind fun M119 =>
  (sp_r M119 x0 11 44 (some (vm_n M117))).bind fun M121 =>
  (s_na M121 1 12).bind fun M123 =>
  (sp_r M123 x0 11 45 (some (vm_n M121))).bind fun M125 =>
  (s_na M125 1 12).bind fun M127 =>
  (sp_r M127 x0 11 46 (some (vm_n M125))).bind fun M129 =>
  (s_na M129 1 12).bind fun M131 =>
  (sp_r M131 x0 11 47 (some (vm_n M129))).bind fun M133 =>
  (s_na M133 1 12).bind fun M135 =>
  (sp_r M135 x0 11 48 (some (vm_n M133))).bind fun M137 =>
  (s_na M137 1 12).bind fun M139 =>
  (sp_r M139 x0 11 49 (some (vm_n M137))).bind fun M141 =>
  (s_na M141 1 12).bind fun M143 =>
  (sp_r M143 x0 11 50 (some (vm_n M141))).bind fun M145 =>
  (s_na M145 1 12).bind fun M147 =>
  (sp_r M147 x0 11 51 (some (vm_n M145))).bind fun M149 =>
  (s_na M149 1 12).bind fun M151 =>
  (sp_r M151 x0 11 52 (some (vm_n M149))).bind fun M153 =>
  (s_na M153 0 20).bind fun M155 =>
  (sp_r M155 x0 11 54 (some (vm_n M153))).bind fun M157 =>
  (s_na M157 0 20).bind fun M159 =>
  (sp_r M159 x0 11 55 (some (vm_n M157))).bind fun M161 =>
  (s_na M161 0 20).bind fun M163 =>
  (sp_r M163 x0 11 56 (some (vm_n M161))).bind fun M165 =>
  (s_na M165 0 20).bind fun M167 =>
  (sp_r M167 x0 11 57 (some (vm_n M165))).bind fun M169 =>
  (s_na M169 0 20).bind fun M171 =>
  (sp_r M171 x0 11 58 (some (vm_n M169))).bind fun M173 =>
  (s_na M173 0 20).bind fun M175 =>
  (sp_r M175 x0 11 59 (some (vm_n M173))).bind fun M177 =>
  (s_na M177 0 20).bind fun M179 =>
  (sp_r M179 x0 11 60 (some (vm_n M177))).bind fun M181 =>
  (s_na M181 2 20).bind fun M183 =>
  (sp_r M183 x0 11 61 (some (vm_n M181))).bind fun M185 =>
  (s_na M185 0 6).bind fun M187 =>
  (sp_r M187 x0 11 62 (some (vm_n M185))).bind fun M189 =>
  some M189
theorem f111_ok {x0 : Nat} {M : vm_M} {r : vm_M} (h : f111 x0 M = some r) (d : Nat) : vm_Cl (d + 1) 111 [.ref (x0)] M (rV r) := by
  have key : Ev 0 (fun _ => 0) (vm_Cl (d + 0)) vp_111 11 1 true none (rV r) 0 (lv_args 0 [.ref (x0)]) [] M := by
    have l0 : (0, .ref (x0)) ∈ lv_args 0 [.ref (x0)] := List.Mem.head _
    unfold f111 at h
    refine ev_aload_nR (mm 0 rfl) l0 ?_
    refine ev_obj (mm 1 rfl) (Nat.le_of_ble_eq_true rfl) ?_
    refine ev_aload_nR (mm 2 rfl) l0 ?_
    refine ev_bipush (mm 3 rfl) cB_12 ?_
    obtain ⟨M1, e2, h⟩ := bind_so h
    refine ev_newarray 0 (mm 4 rfl) (by decide) rfl e2 ?_
    obtain ⟨M3, e4, h⟩ := bind_so h
    refine ev_put_R (mm 5 rfl) (fun _ => ⟨rfl, rfl⟩) rfl e4 ?_
    refine ev_aload_nR (mm 6 rfl) l0 ?_
    refine ev_bipush (mm 7 rfl) cB_12 ?_
    obtain ⟨M5, e6, h⟩ := bind_so h
    refine ev_newarray 0 (mm 8 rfl) (by decide) rfl e6 ?_
    obtain ⟨M7, e8, h⟩ := bind_so h
    refine ev_put_R (mm 9 rfl) (fun _ => ⟨rfl, rfl⟩) rfl e8 ?_
    refine ev_aload_nR (mm 10 rfl) l0 ?_
    refine ev_bipush (mm 11 rfl) cB_12 ?_
    obtain ⟨M9, e10, h⟩ := bind_so h
    refine ev_newarray 0 (mm 12 rfl) (by decide) rfl e10 ?_
    obtain ⟨M11, e12, h⟩ := bind_so h
    refine ev_put_R (mm 13 rfl) (fun _ => ⟨rfl, rfl⟩) rfl e12 ?_
    refine ev_aload_nR (mm 14 rfl) l0 ?_
    refine ev_bipush (mm 15 rfl) cB_8 ?_
    obtain ⟨M13, e14, h⟩ := bind_so h
    refine ev_newarray 0 (mm 16 rfl) (by decide) rfl e14 ?_
    obtain ⟨M15, e16, h⟩ := bind_so h
    refine ev_put_R (mm 17 rfl) (fun _ => ⟨rfl, rfl⟩) rfl e16 ?_
    refine ev_aload_nR (mm 18 rfl) l0 ?_
    refine ev_sipush (mm 19 rfl) cS_256 ?_
    obtain ⟨M17, e18, h⟩ := bind_so h
    refine ev_newarray 0 (mm 20 rfl) (by decide) rfl e18 ?_
    obtain ⟨M19, e20, h⟩ := bind_so h
    refine ev_put_R (mm 21 rfl) (fun _ => ⟨rfl, rfl⟩) rfl e20 ?_
    refine ev_aload_nR (mm 22 rfl) l0 ?_
    refine ev_sipush (mm 23 rfl) cS_300 ?_
    obtain ⟨M21, e22, h⟩ := bind_so h
    refine ev_newarray 0 (mm 24 rfl) (by decide) rfl e22 ?_
    obtain ⟨M23, e24, h⟩ := bind_so h
    refine ev_put_R (mm 25 rfl) (fun _ => ⟨rfl, rfl⟩) rfl e24 ?_
    refine ev_aload_nR (mm 26 rfl) l0 ?_
    refine ev_sipush (mm 27 rfl) cS_300 ?_
    obtain ⟨M25, e26, h⟩ := bind_so h
    refine ev_newarray 0 (mm 28 rfl) (by decide) rfl e26 ?_
    obtain ⟨M27, e28, h⟩ := bind_so h
    refine ev_put_R (mm 29 rfl) (fun _ => ⟨rfl, rfl⟩) rfl e28 ?_
    refine ev_aload_nR (mm 30 rfl) l0 ?_
    refine ev_sipush (mm 31 rfl) cS_300 ?_
    obtain ⟨M29, e30, h⟩ := bind_so h
    refine ev_newarray 0 (mm 32 rfl) (by decide) rfl e30 ?_
    obtain ⟨M31, e32, h⟩ := bind_so h
    refine ev_put_R (mm 33 rfl) (fun _ => ⟨rfl, rfl⟩) rfl e32 ?_
    refine ev_aload_nR (mm 34 rfl) l0 ?_
    refine ev_sipush (mm 35 rfl) cS_300 ?_
    obtain ⟨M33, e34, h⟩ := bind_so h
    refine ev_newarray 0 (mm 36 rfl) (by decide) rfl e34 ?_
    obtain ⟨M35, e36, h⟩ := bind_so h
    refine ev_put_R (mm 37 rfl) (fun _ => ⟨rfl, rfl⟩) rfl e36 ?_
    refine ev_aload_nR (mm 38 rfl) l0 ?_
    refine ev_sipush (mm 39 rfl) cS_300 ?_
    obtain ⟨M37, e38, h⟩ := bind_so h
    refine ev_newarray 0 (mm 40 rfl) (by decide) rfl e38 ?_
    obtain ⟨M39, e40, h⟩ := bind_so h
    refine ev_put_R (mm 41 rfl) (fun _ => ⟨rfl, rfl⟩) rfl e40 ?_
    refine ev_aload_nR (mm 42 rfl) l0 ?_
    refine ev_bipush (mm 43 rfl) cB_12 ?_
    obtain ⟨M41, e42, h⟩ := bind_so h
    refine ev_newarray 0 (mm 44 rfl) (by decide) rfl e42 ?_
    obtain ⟨M43, e44, h⟩ := bind_so h
    refine ev_put_R (mm 45 rfl) (fun _ => ⟨rfl, rfl⟩) rfl e44 ?_
    refine ev_aload_nR (mm 46 rfl) l0 ?_
    refine ev_bipush (mm 47 rfl) cB_12 ?_
    obtain ⟨M45, e46, h⟩ := bind_so h
    refine ev_newarray 0 (mm 48 rfl) (by decide) rfl e46 ?_
    obtain ⟨M47, e48, h⟩ := bind_so h
    refine ev_put_R (mm 49 rfl) (fun _ => ⟨rfl, rfl⟩) rfl e48 ?_
    refine ev_aload_nR (mm 50 rfl) l0 ?_
    refine ev_bipush (mm 51 rfl) cB_16 ?_
    obtain ⟨M49, e50, h⟩ := bind_so h
    refine ev_newarray 0 (mm 52 rfl) (by decide) rfl e50 ?_
    obtain ⟨M51, e52, h⟩ := bind_so h
    refine ev_put_R (mm 53 rfl) (fun _ => ⟨rfl, rfl⟩) rfl e52 ?_
    refine ev_aload_nR (mm 54 rfl) l0 ?_
    refine ev_bipush (mm 55 rfl) cB_16 ?_
    obtain ⟨M53, e54, h⟩ := bind_so h
    refine ev_newarray 2 (mm 56 rfl) (by decide) rfl e54 ?_
    obtain ⟨M55, e56, h⟩ := bind_so h
    refine ev_put_R (mm 57 rfl) (fun _ => ⟨rfl, rfl⟩) rfl e56 ?_
    refine ev_aload_nR (mm 58 rfl) l0 ?_
    refine ev_iconst (mm 59 rfl) cI_m1 ?_
    obtain ⟨M57, e58, h⟩ := bind_so h
    refine ev_put_i (mm 60 rfl) (fun z => by cases z) rfl e58 ?_
    refine ev_aload_nR (mm 61 rfl) l0 ?_
    refine ev_bipush (mm 62 rfl) cB_10 ?_
    obtain ⟨M59, e60, h⟩ := bind_so h
    refine ev_newarray 0 (mm 63 rfl) (by decide) rfl e60 ?_
    obtain ⟨M61, e62, h⟩ := bind_so h
    refine ev_put_R (mm 64 rfl) (fun _ => ⟨rfl, rfl⟩) rfl e62 ?_
    refine ev_aload_nR (mm 65 rfl) l0 ?_
    refine ev_bipush (mm 66 rfl) cB_10 ?_
    obtain ⟨M63, e64, h⟩ := bind_so h
    refine ev_newarray 0 (mm 67 rfl) (by decide) rfl e64 ?_
    obtain ⟨M65, e66, h⟩ := bind_so h
    refine ev_put_R (mm 68 rfl) (fun _ => ⟨rfl, rfl⟩) rfl e66 ?_
    refine ev_aload_nR (mm 69 rfl) l0 ?_
    refine ev_bipush (mm 70 rfl) cB_10 ?_
    obtain ⟨M67, e68, h⟩ := bind_so h
    refine ev_newarray 0 (mm 71 rfl) (by decide) rfl e68 ?_
    obtain ⟨M69, e70, h⟩ := bind_so h
    refine ev_put_R (mm 72 rfl) (fun _ => ⟨rfl, rfl⟩) rfl e70 ?_
    refine ev_aload_nR (mm 73 rfl) l0 ?_
    refine ev_sipush (mm 74 rfl) cS_300 ?_
    obtain ⟨M71, e72, h⟩ := bind_so h
    refine ev_newarray 0 (mm 75 rfl) (by decide) rfl e72 ?_
    obtain ⟨M73, e74, h⟩ := bind_so h
    refine ev_put_R (mm 76 rfl) (fun _ => ⟨rfl, rfl⟩) rfl e74 ?_
    refine ev_aload_nR (mm 77 rfl) l0 ?_
    refine ev_sipush (mm 78 rfl) cS_300 ?_
    obtain ⟨M75, e76, h⟩ := bind_so h
    refine ev_newarray 0 (mm 79 rfl) (by decide) rfl e76 ?_
    obtain ⟨M77, e78, h⟩ := bind_so h
    refine ev_put_R (mm 80 rfl) (fun _ => ⟨rfl, rfl⟩) rfl e78 ?_
    refine ev_aload_nR (mm 81 rfl) l0 ?_
    refine ev_sipush (mm 82 rfl) cS_300 ?_
    obtain ⟨M79, e80, h⟩ := bind_so h
    refine ev_newarray 0 (mm 83 rfl) (by decide) rfl e80 ?_
    obtain ⟨M81, e82, h⟩ := bind_so h
    refine ev_put_R (mm 84 rfl) (fun _ => ⟨rfl, rfl⟩) rfl e82 ?_
    refine ev_aload_nR (mm 85 rfl) l0 ?_
    refine ev_sipush (mm 86 rfl) cS_300 ?_
    obtain ⟨M83, e84, h⟩ := bind_so h
    refine ev_newarray 0 (mm 87 rfl) (by decide) rfl e84 ?_
    obtain ⟨M85, e86, h⟩ := bind_so h
    refine ev_put_R (mm 88 rfl) (fun _ => ⟨rfl, rfl⟩) rfl e86 ?_
    refine ev_aload_nR (mm 89 rfl) l0 ?_
    refine ev_sipush (mm 90 rfl) cS_300 ?_
    obtain ⟨M87, e88, h⟩ := bind_so h
    refine ev_newarray 0 (mm 91 rfl) (by decide) rfl e88 ?_
    obtain ⟨M89, e90, h⟩ := bind_so h
    refine ev_put_R (mm 92 rfl) (fun _ => ⟨rfl, rfl⟩) rfl e90 ?_
    refine ev_aload_nR (mm 93 rfl) l0 ?_
    refine ev_sipush (mm 94 rfl) cS_15000 ?_
    obtain ⟨M91, e92, h⟩ := bind_so h
    refine ev_newarray 0 (mm 95 rfl) (by decide) rfl e92 ?_
    obtain ⟨M93, e94, h⟩ := bind_so h
    refine ev_put_R (mm 96 rfl) (fun _ => ⟨rfl, rfl⟩) rfl e94 ?_
    refine ev_aload_nR (mm 97 rfl) l0 ?_
    refine ev_sipush (mm 98 rfl) cS_15000 ?_
    obtain ⟨M95, e96, h⟩ := bind_so h
    refine ev_newarray 0 (mm 99 rfl) (by decide) rfl e96 ?_
    obtain ⟨M97, e98, h⟩ := bind_so h
    refine ev_put_R (mm 100 rfl) (fun _ => ⟨rfl, rfl⟩) rfl e98 ?_
    refine ev_aload_nR (mm 101 rfl) l0 ?_
    refine ev_bipush (mm 102 rfl) cB_30 ?_
    obtain ⟨M99, e100, h⟩ := bind_so h
    refine ev_newarray 1 (mm 103 rfl) (by decide) rfl e100 ?_
    obtain ⟨M101, e102, h⟩ := bind_so h
    refine ev_put_R (mm 104 rfl) (fun _ => ⟨rfl, rfl⟩) rfl e102 ?_
    refine ev_aload_nR (mm 105 rfl) l0 ?_
    refine ev_bipush (mm 106 rfl) cB_64 ?_
    obtain ⟨M103, e104, h⟩ := bind_so h
    refine ev_newarray 1 (mm 107 rfl) (by decide) rfl e104 ?_
    obtain ⟨M105, e106, h⟩ := bind_so h
    refine ev_put_R (mm 108 rfl) (fun _ => ⟨rfl, rfl⟩) rfl e106 ?_
    refine ev_aload_nR (mm 109 rfl) l0 ?_
    refine ev_bipush (mm 110 rfl) cB_10 ?_
    obtain ⟨M107, e108, h⟩ := bind_so h
    refine ev_newarray 1 (mm 111 rfl) (by decide) rfl e108 ?_
    obtain ⟨M109, e110, h⟩ := bind_so h
    refine ev_put_R (mm 112 rfl) (fun _ => ⟨rfl, rfl⟩) rfl e110 ?_
    refine ev_aload_nR (mm 113 rfl) l0 ?_
    refine ev_sipush (mm 114 rfl) cS_700 ?_
    obtain ⟨M111, e112, h⟩ := bind_so h
    refine ev_newarray 3 (mm 115 rfl) (by decide) rfl e112 ?_
    obtain ⟨M113, e114, h⟩ := bind_so h
    refine ev_put_R (mm 116 rfl) (fun _ => ⟨rfl, rfl⟩) rfl e114 ?_
    refine ev_aload_nR (mm 117 rfl) l0 ?_
    refine ev_sipush (mm 118 rfl) cS_700 ?_
    obtain ⟨M115, e116, h⟩ := bind_so h
    refine ev_newarray 3 (mm 119 rfl) (by decide) rfl e116 ?_
    obtain ⟨M117, e118, h⟩ := bind_so h
    refine ev_put_R (mm 120 rfl) (fun _ => ⟨rfl, rfl⟩) rfl e118 ?_
    refine ev_aload_nR (mm 121 rfl) l0 ?_
    refine ev_sipush (mm 122 rfl) cS_360 ?_
    obtain ⟨M119, e120, h⟩ := bind_so h
    refine ev_newarray 1 (mm 123 rfl) (by decide) rfl e120 ?_
    obtain ⟨M121, e122, h⟩ := bind_so h
    refine ev_put_R (mm 124 rfl) (fun _ => ⟨rfl, rfl⟩) rfl e122 ?_
    refine ev_aload_nR (mm 125 rfl) l0 ?_
    refine ev_bipush (mm 126 rfl) cB_12 ?_
    obtain ⟨M123, e124, h⟩ := bind_so h
    refine ev_newarray 1 (mm 127 rfl) (by decide) rfl e124 ?_
    obtain ⟨M125, e126, h⟩ := bind_so h
    refine ev_put_R (mm 128 rfl) (fun _ => ⟨rfl, rfl⟩) rfl e126 ?_
    refine ev_aload_nR (mm 129 rfl) l0 ?_
    refine ev_bipush (mm 130 rfl) cB_12 ?_
    obtain ⟨M127, e128, h⟩ := bind_so h
    refine ev_newarray 1 (mm 131 rfl) (by decide) rfl e128 ?_
    obtain ⟨M129, e130, h⟩ := bind_so h
    refine ev_put_R (mm 132 rfl) (fun _ => ⟨rfl, rfl⟩) rfl e130 ?_
    refine ev_aload_nR (mm 133 rfl) l0 ?_
    refine ev_bipush (mm 134 rfl) cB_12 ?_
    obtain ⟨M131, e132, h⟩ := bind_so h
    refine ev_newarray 1 (mm 135 rfl) (by decide) rfl e132 ?_
    obtain ⟨M133, e134, h⟩ := bind_so h
    refine ev_put_R (mm 136 rfl) (fun _ => ⟨rfl, rfl⟩) rfl e134 ?_
    refine ev_aload_nR (mm 137 rfl) l0 ?_
    refine ev_bipush (mm 138 rfl) cB_12 ?_
    obtain ⟨M135, e136, h⟩ := bind_so h
    refine ev_newarray 1 (mm 139 rfl) (by decide) rfl e136 ?_
    obtain ⟨M137, e138, h⟩ := bind_so h
    refine ev_put_R (mm 140 rfl) (fun _ => ⟨rfl, rfl⟩) rfl e138 ?_
    refine ev_aload_nR (mm 141 rfl) l0 ?_
    refine ev_bipush (mm 142 rfl) cB_12 ?_
    obtain ⟨M139, e140, h⟩ := bind_so h
    refine ev_newarray 1 (mm 143 rfl) (by decide) rfl e140 ?_
    obtain ⟨M141, e142, h⟩ := bind_so h
    refine ev_put_R (mm 144 rfl) (fun _ => ⟨rfl, rfl⟩) rfl e142 ?_
    refine ev_aload_nR (mm 145 rfl) l0 ?_
    refine ev_bipush (mm 146 rfl) cB_12 ?_
    obtain ⟨M143, e144, h⟩ := bind_so h
    refine ev_newarray 1 (mm 147 rfl) (by decide) rfl e144 ?_
    obtain ⟨M145, e146, h⟩ := bind_so h
    refine ev_put_R (mm 148 rfl) (fun _ => ⟨rfl, rfl⟩) rfl e146 ?_
    refine ev_aload_nR (mm 149 rfl) l0 ?_
    refine ev_bipush (mm 150 rfl) cB_12 ?_
    obtain ⟨M147, e148, h⟩ := bind_so h
    refine ev_newarray 1 (mm 151 rfl) (by decide) rfl e148 ?_
    obtain ⟨M149, e150, h⟩ := bind_so h
    refine ev_put_R (mm 152 rfl) (fun _ => ⟨rfl, rfl⟩) rfl e150 ?_
    refine ev_aload_nR (mm 153 rfl) l0 ?_
    refine ev_bipush (mm 154 rfl) cB_12 ?_
    obtain ⟨M151, e152, h⟩ := bind_so h
    refine ev_newarray 1 (mm 155 rfl) (by decide) rfl e152 ?_
    obtain ⟨M153, e154, h⟩ := bind_so h
    refine ev_put_R (mm 156 rfl) (fun _ => ⟨rfl, rfl⟩) rfl e154 ?_
    refine ev_aload_nR (mm 157 rfl) l0 ?_
    refine ev_bipush (mm 158 rfl) cB_20 ?_
    obtain ⟨M155, e156, h⟩ := bind_so h
    refine ev_newarray 0 (mm 159 rfl) (by decide) rfl e156 ?_
    obtain ⟨M157, e158, h⟩ := bind_so h
    refine ev_put_R (mm 160 rfl) (fun _ => ⟨rfl, rfl⟩) rfl e158 ?_
    refine ev_aload_nR (mm 161 rfl) l0 ?_
    refine ev_bipush (mm 162 rfl) cB_20 ?_
    obtain ⟨M159, e160, h⟩ := bind_so h
    refine ev_newarray 0 (mm 163 rfl) (by decide) rfl e160 ?_
    obtain ⟨M161, e162, h⟩ := bind_so h
    refine ev_put_R (mm 164 rfl) (fun _ => ⟨rfl, rfl⟩) rfl e162 ?_
    refine ev_aload_nR (mm 165 rfl) l0 ?_
    refine ev_bipush (mm 166 rfl) cB_20 ?_
    obtain ⟨M163, e164, h⟩ := bind_so h
    refine ev_newarray 0 (mm 167 rfl) (by decide) rfl e164 ?_
    obtain ⟨M165, e166, h⟩ := bind_so h
    refine ev_put_R (mm 168 rfl) (fun _ => ⟨rfl, rfl⟩) rfl e166 ?_
    refine ev_aload_nR (mm 169 rfl) l0 ?_
    refine ev_bipush (mm 170 rfl) cB_20 ?_
    obtain ⟨M167, e168, h⟩ := bind_so h
    refine ev_newarray 0 (mm 171 rfl) (by decide) rfl e168 ?_
    obtain ⟨M169, e170, h⟩ := bind_so h
    refine ev_put_R (mm 172 rfl) (fun _ => ⟨rfl, rfl⟩) rfl e170 ?_
    refine ev_aload_nR (mm 173 rfl) l0 ?_
    refine ev_bipush (mm 174 rfl) cB_20 ?_
    obtain ⟨M171, e172, h⟩ := bind_so h
    refine ev_newarray 0 (mm 175 rfl) (by decide) rfl e172 ?_
    obtain ⟨M173, e174, h⟩ := bind_so h
    refine ev_put_R (mm 176 rfl) (fun _ => ⟨rfl, rfl⟩) rfl e174 ?_
    refine ev_aload_nR (mm 177 rfl) l0 ?_
    refine ev_bipush (mm 178 rfl) cB_20 ?_
    obtain ⟨M175, e176, h⟩ := bind_so h
    refine ev_newarray 0 (mm 179 rfl) (by decide) rfl e176 ?_
    obtain ⟨M177, e178, h⟩ := bind_so h
    refine ev_put_R (mm 180 rfl) (fun _ => ⟨rfl, rfl⟩) rfl e178 ?_
    refine ev_aload_nR (mm 181 rfl) l0 ?_
    refine ev_bipush (mm 182 rfl) cB_20 ?_
    obtain ⟨M179, e180, h⟩ := bind_so h
    refine ev_newarray 0 (mm 183 rfl) (by decide) rfl e180 ?_
    obtain ⟨M181, e182, h⟩ := bind_so h
    refine ev_put_R (mm 184 rfl) (fun _ => ⟨rfl, rfl⟩) rfl e182 ?_
    refine ev_aload_nR (mm 185 rfl) l0 ?_
    refine ev_bipush (mm 186 rfl) cB_20 ?_
    obtain ⟨M183, e184, h⟩ := bind_so h
    refine ev_newarray 2 (mm 187 rfl) (by decide) rfl e184 ?_
    obtain ⟨M185, e186, h⟩ := bind_so h
    refine ev_put_R (mm 188 rfl) (fun _ => ⟨rfl, rfl⟩) rfl e186 ?_
    refine ev_aload_nR (mm 189 rfl) l0 ?_
    refine ev_bipush (mm 190 rfl) cB_6 ?_
    obtain ⟨M187, e188, h⟩ := bind_so h
    refine ev_newarray 0 (mm 191 rfl) (by decide) rfl e188 ?_
    obtain ⟨M189, e190, h⟩ := bind_so h
    refine ev_put_R (mm 192 rfl) (fun _ => ⟨rfl, rfl⟩) rfl e190 ?_
    exact ev_return (mm 193 rfl) h
  exact ⟨by decide, Nat.le_of_ble_eq_true rfl, key.1, key.2⟩
