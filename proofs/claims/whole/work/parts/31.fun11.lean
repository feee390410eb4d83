/-! shallow functions, by program (wip/gen_fun.py) -/
def f192_l50 (x0 : Nat) (x1 : Int32) (x2 : Int32) (x3 : Int32) (x4 : Int32) (k107 : Int32 → Int32 → vm_M → Option (Int32 × vm_M)) : Nat → Int32 → Int32 → Int32 → vm_M → Option (Int32 × vm_M)
  | 0 => fun _ _ _ _ => none
  | n + 1 => fun x5 x6 x7 M =>
    if x7 < 0 then
      k107 x5 x6 M
    else
      if ¬ x6 = (-1) then
        k107 x5 x6 M
      else
        (sg_i M x0 11 0).bind fun v23 =>
        (s_ob M x0 11).bind fun _ =>
        (f126 x0 x1 x7 x2 v23 M).bind fun p25 =>
        if ¬ p25.1 = (-1) then
          if ¬ x5 = (-1) then
            f192_l50 x0 x1 x2 x3 x4 k107 n x5 p25.1 (x7 + (-1)) p25.2
          else
            f192_l50 x0 x1 x2 x3 x4 k107 n p25.1 x6 (x7 + (-1)) p25.2
        else
          f192_l50 x0 x1 x2 x3 x4 k107 n x5 x6 (x7 + (-1)) p25.2
theorem f192_l50_ok {d : Nat} {x0 : Nat} {x1 : Int32} {x2 : Int32} {x3 : Int32} {x4 : Int32} {k107 : Int32 → Int32 → vm_M → Option (Int32 × vm_M)} {r : Int32 × vm_M} (hk107 : ∀ {y5 : Int32} {y6 : Int32} {M : vm_M} {lv : vm_L}, (3, .int (x3)) ∈ lv → (4, .int (x4)) ∈ lv → (5, .int (y5)) ∈ lv → (6, .int (y6)) ∈ lv → k107 y5 y6 M = some r → Ev 0 (fun _ => 0) (vm_Cl (d + 2)) vp_192 11 9 false (some (.int)) (rI r) 107 lv [] M) : ∀ (n : Nat) {x5 : Int32} {x6 : Int32} {x7 : Int32} {M : vm_M} {lv : vm_L}, (0, .ref (x0)) ∈ lv → (1, .int (x1)) ∈ lv → (2, .int (x2)) ∈ lv → (3, .int (x3)) ∈ lv → (4, .int (x4)) ∈ lv → (5, .int (x5)) ∈ lv → (6, .int (x6)) ∈ lv → (7, .int (x7)) ∈ lv → f192_l50 x0 x1 x2 x3 x4 k107 n x5 x6 x7 M = some r → Ev 0 (fun _ => 0) (vm_Cl (d + 2)) vp_192 11 9 false (some (.int)) (rI r) 50 lv [] M := by
  intro n
  induction n with
  | zero =>
    intro x5 x6 x7 M lv l0 l1 l2 l3 l4 l5 l6 l7 h
    cases h
  | succ n ih =>
    intro x5 x6 x7 M lv l0 l1 l2 l3 l4 l5 l6 l7 h
    dsimp only [f192_l50] at h
    refine ev_iload (mm 28 rfl) l7 ?_
    rcases ite_so h with ⟨c21, h⟩ | ⟨c21, h⟩
    · refine ev_if_t 107 (mm 29 rfl) rfl c21 ?_
      exact hk107 l3 l4 l5 l6 h
    · refine ev_if_f 107 (mm 29 rfl) rfl c21 ?_
      refine ev_iload (mm 30 rfl) l6 ?_
      refine ev_iconst (mm 31 rfl) cI_m1 ?_
      rcases ite_so h with ⟨c22, h⟩ | ⟨c22, h⟩
      · refine ev_ic_t 107 (mm 32 rfl) rfl c22 ?_
        exact hk107 l3 l4 l5 l6 h
      · refine ev_ic_f 107 (mm 32 rfl) rfl c22 ?_
        refine ev_aload_nR (mm 33 rfl) l0 ?_
        refine ev_iload_n (mm 34 rfl) l1 ?_
        refine ev_iload (mm 35 rfl) l7 ?_
        refine ev_iload_n (mm 36 rfl) l2 ?_
        refine ev_aload_nR (mm 37 rfl) l0 ?_
        obtain ⟨v23, e24, h⟩ := bind_so h
        refine ev_get_i (mm 38 rfl) rfl e24 ?_
        obtain ⟨_, e41, h⟩ := bind_so h
        obtain ⟨p25, e26, h⟩ := bind_so h
        refine ev_callV_I [.int (x1), .int (x7), .int (x2), .int (v23)] (mm 39 rfl) rfl rfl (Nat.le_of_ble_eq_true rfl) (s_ob_of e41) (f126_ok e26 (d + 1)) ?_
        refine evs_istore (mm 40 rfl) (by decide) (fun lv27 l8 s28 => ?_)
        have l0 := s28 _ _ l0 rfl
        have l1 := s28 _ _ l1 rfl
        have l2 := s28 _ _ l2 rfl
        have l3 := s28 _ _ l3 rfl
        have l4 := s28 _ _ l4 rfl
        have l5 := s28 _ _ l5 rfl
        have l6 := s28 _ _ l6 rfl
        have l7 := s28 _ _ l7 rfl
        refine ev_iload (mm 41 rfl) l8 ?_
        refine ev_iconst (mm 42 rfl) cI_m1 ?_
        rcases ite_so h with ⟨c29, h⟩ | ⟨c29, h⟩
        · refine ev_ic_t 84 (mm 43 rfl) rfl c29 ?_
          refine ev_iload (mm 45 rfl) l5 ?_
          refine ev_iconst (mm 46 rfl) cI_m1 ?_
          rcases ite_so h with ⟨c30, h⟩ | ⟨c30, h⟩
          · refine ev_ic_t 97 (mm 47 rfl) rfl c30 ?_
            refine ev_iload (mm 51 rfl) l8 ?_
            refine evs_istore (mm 52 rfl) (by decide) (fun lv31 l6 s32 => ?_)
            have l0 := s32 _ _ l0 rfl
            have l1 := s32 _ _ l1 rfl
            have l2 := s32 _ _ l2 rfl
            have l3 := s32 _ _ l3 rfl
            have l4 := s32 _ _ l4 rfl
            have l5 := s32 _ _ l5 rfl
            have l7 := s32 _ _ l7 rfl
            refine evs_iinc (mm 53 rfl) cI_m1 l7 (by decide) (fun lv33 l7 s34 => ?_)
            have l0 := s34 _ _ l0 rfl
            have l1 := s34 _ _ l1 rfl
            have l2 := s34 _ _ l2 rfl
            have l3 := s34 _ _ l3 rfl
            have l4 := s34 _ _ l4 rfl
            have l5 := s34 _ _ l5 rfl
            have l6 := s34 _ _ l6 rfl
            refine ev_goto 50 (mm 54 rfl) rfl ?_
            exact ih l0 l1 l2 l3 l4 l5 l6 l7 h
          · refine ev_ic_f 97 (mm 47 rfl) rfl c30 ?_
            refine ev_iload (mm 48 rfl) l8 ?_
            refine evs_istore (mm 49 rfl) (by decide) (fun lv35 l5 s36 => ?_)
            have l0 := s36 _ _ l0 rfl
            have l1 := s36 _ _ l1 rfl
            have l2 := s36 _ _ l2 rfl
            have l3 := s36 _ _ l3 rfl
            have l4 := s36 _ _ l4 rfl
            have l6 := s36 _ _ l6 rfl
            have l7 := s36 _ _ l7 rfl
            refine ev_goto 101 (mm 50 rfl) rfl ?_
            refine evs_iinc (mm 53 rfl) cI_m1 l7 (by decide) (fun lv37 l7 s38 => ?_)
            have l0 := s38 _ _ l0 rfl
            have l1 := s38 _ _ l1 rfl
            have l2 := s38 _ _ l2 rfl
            have l3 := s38 _ _ l3 rfl
            have l4 := s38 _ _ l4 rfl
            have l5 := s38 _ _ l5 rfl
            have l6 := s38 _ _ l6 rfl
            refine ev_goto 50 (mm 54 rfl) rfl ?_
            exact ih l0 l1 l2 l3 l4 l5 l6 l7 h
        · refine ev_ic_f 84 (mm 43 rfl) rfl c29 ?_
          refine ev_goto 101 (mm 44 rfl) rfl ?_
          refine evs_iinc (mm 53 rfl) cI_m1 l7 (by decide) (fun lv39 l7 s40 => ?_)
          have l0 := s40 _ _ l0 rfl
          have l1 := s40 _ _ l1 rfl
          have l2 := s40 _ _ l2 rfl
          have l3 := s40 _ _ l3 rfl
          have l4 := s40 _ _ l4 rfl
          have l5 := s40 _ _ l5 rfl
          have l6 := s40 _ _ l6 rfl
          refine ev_goto 50 (mm 54 rfl) rfl ?_
          exact ih l0 l1 l2 l3 l4 l5 l6 l7 h
def f192_j107 (x3 : Int32) (x4 : Int32) (x5 : Int32) (x6 : Int32) (M : vm_M) : Option (Int32 × vm_M) :=
  if ¬ x6 = (-1) then
    if ¬ x4 = 0 then
      if ¬ x4 = 1 then
        some ((s_mxI 0 ((x5 + (x3 * (x5 - x6))) + (x3 * (s_abI (x5 - x6))))), M)
      else
        some ((s_mxI 0 ((x5 + (x3 * (x5 - x6))) - (x3 * (s_abI (x5 - x6))))), M)
    else
      some ((s_mxI 0 (x5 + (x3 * (x5 - x6)))), M)
  else
    some ((-1), M)
theorem f192_j107_ok {d : Nat} {x3 : Int32} {x4 : Int32} {x5 : Int32} {x6 : Int32} {M : vm_M} {r : Int32 × vm_M} {lv : vm_L} (l3 : (3, .int (x3)) ∈ lv) (l4 : (4, .int (x4)) ∈ lv) (l5 : (5, .int (x5)) ∈ lv) (l6 : (6, .int (x6)) ∈ lv) (h : f192_j107 x3 x4 x5 x6 M = some r) : Ev 0 (fun _ => 0) (vm_Cl (d + 2)) vp_192 11 9 false (some (.int)) (rI r) 107 lv [] M := by
  unfold f192_j107 at h
  refine ev_iload (mm 55 rfl) l6 ?_
  refine ev_iconst (mm 56 rfl) cI_m1 ?_
  rcases ite_so h with ⟨c45, h⟩ | ⟨c45, h⟩
  · refine ev_ic_t 115 (mm 57 rfl) rfl c45 ?_
    refine ev_iload (mm 60 rfl) l5 ?_
    refine ev_iload_n (mm 61 rfl) l3 ?_
    refine ev_iload (mm 62 rfl) l5 ?_
    refine ev_iload (mm 63 rfl) l6 ?_
    refine ev_isub (mm 64 rfl) ?_
    refine ev_imul (mm 65 rfl) ?_
    refine ev_iadd (mm 66 rfl) ?_
    refine evs_istore (mm 67 rfl) (by decide) (fun lv46 l7 s47 => ?_)
    have l3 := s47 _ _ l3 rfl
    have l4 := s47 _ _ l4 rfl
    have l5 := s47 _ _ l5 rfl
    have l6 := s47 _ _ l6 rfl
    refine ev_iload_n (mm 68 rfl) l3 ?_
    refine ev_iload (mm 69 rfl) l5 ?_
    refine ev_iload (mm 70 rfl) l6 ?_
    refine ev_isub (mm 71 rfl) ?_
    refine ev_abI (mm 72 rfl) (Nat.le_of_ble_eq_true rfl) ?_
    refine ev_imul (mm 73 rfl) ?_
    refine evs_istore (mm 74 rfl) (by decide) (fun lv48 l8 s49 => ?_)
    have l4 := s49 _ _ l4 rfl
    have l7 := s49 _ _ l7 rfl
    refine ev_iconst (mm 75 rfl) cI_0 ?_
    refine ev_iload (mm 76 rfl) l4 ?_
    rcases ite_so h with ⟨c50, h⟩ | ⟨c50, h⟩
    · refine ev_if_t 150 (mm 77 rfl) rfl c50 ?_
      refine ev_iload (mm 80 rfl) l4 ?_
      refine ev_iconst (mm 81 rfl) cI_1 ?_
      rcases ite_so h with ⟨c51, h⟩ | ⟨c51, h⟩
      · refine ev_ic_t 164 (mm 82 rfl) rfl c51 ?_
        refine ev_iload (mm 87 rfl) l7 ?_
        refine ev_iload (mm 88 rfl) l8 ?_
        refine ev_iadd (mm 89 rfl) ?_
        refine ev_mxI (mm 90 rfl) (Nat.le_of_ble_eq_true rfl) ?_
        exact ev_ireturn (mm 91 rfl) h
      · refine ev_ic_f 164 (mm 82 rfl) rfl c51 ?_
        refine ev_iload (mm 83 rfl) l7 ?_
        refine ev_iload (mm 84 rfl) l8 ?_
        refine ev_isub (mm 85 rfl) ?_
        refine ev_goto 169 (mm 86 rfl) rfl ?_
        refine ev_mxI (mm 90 rfl) (Nat.le_of_ble_eq_true rfl) ?_
        exact ev_ireturn (mm 91 rfl) h
    · refine ev_if_f 150 (mm 77 rfl) rfl c50 ?_
      refine ev_iload (mm 78 rfl) l7 ?_
      refine ev_goto 169 (mm 79 rfl) rfl ?_
      refine ev_mxI (mm 90 rfl) (Nat.le_of_ble_eq_true rfl) ?_
      exact ev_ireturn (mm 91 rfl) h
  · refine ev_ic_f 115 (mm 57 rfl) rfl c45 ?_
    refine ev_iconst (mm 58 rfl) cI_m1 ?_
    exact ev_ireturn (mm 59 rfl) h
/-- PupilCoinModel.foretold(IIII)I -/
def f192 (x0 : Nat) (x1 : Int32) (x2 : Int32) (x3 : Int32) (x4 : Int32) (M : vm_M) : Option (Int32 × vm_M) :=
  (s_ob M x0 11).bind fun _ =>
  (f116 x0 x1 M).bind fun p1 =>
  if p1.1 = 0 then
    some ((-1), p1.2)
  else
    (f112 x2 0 2 p1.2).bind fun p4 =>
    if p4.1 = 0 then
      some ((-1), p4.2)
    else
      (f112 x3 1 5 p4.2).bind fun p7 =>
      if p7.1 = 0 then
        some ((-1), p7.2)
      else
        (f112 x4 0 2 p7.2).bind fun p10 =>
        if ¬ p10.1 = 0 then
          (s_ob p10.2 x0 11).bind fun _ =>
          (f118 x0 p10.2).bind fun p17 =>
          f192_l50 x0 x1 x2 x3 x4
            (fun y42 y43 M44 =>
              f192_j107 x3 x4 y42 y43 M44)
            100000 (-1) (-1) p17.1 p17.2
        else
          some ((-1), p10.2)
theorem f192_ok {x0 : Nat} {x1 : Int32} {x2 : Int32} {x3 : Int32} {x4 : Int32} {M : vm_M} {r : Int32 × vm_M} (h : f192 x0 x1 x2 x3 x4 M = some r) (d : Nat) : vm_Cl (d + 3) 192 [.ref (x0), .int (x1), .int (x2), .int (x3), .int (x4)] M (rI r) := by
  have key : Ev 0 (fun _ => 0) (vm_Cl (d + 2)) vp_192 11 9 false (some (.int)) (rI r) 0 (lv_args 0 [.ref (x0), .int (x1), .int (x2), .int (x3), .int (x4)]) [] M := by
    have l0 : (0, .ref (x0)) ∈ lv_args 0 [.ref (x0), .int (x1), .int (x2), .int (x3), .int (x4)] := List.Mem.head _
    have l1 : (1, .int (x1)) ∈ lv_args 0 [.ref (x0), .int (x1), .int (x2), .int (x3), .int (x4)] := List.Mem.tail _ (List.Mem.head _)
    have l2 : (2, .int (x2)) ∈ lv_args 0 [.ref (x0), .int (x1), .int (x2), .int (x3), .int (x4)] := List.Mem.tail _ (List.Mem.tail _ (List.Mem.head _))
    have l3 : (3, .int (x3)) ∈ lv_args 0 [.ref (x0), .int (x1), .int (x2), .int (x3), .int (x4)] := List.Mem.tail _ (List.Mem.tail _ (List.Mem.tail _ (List.Mem.head _)))
    have l4 : (4, .int (x4)) ∈ lv_args 0 [.ref (x0), .int (x1), .int (x2), .int (x3), .int (x4)] := List.Mem.tail _ (List.Mem.tail _ (List.Mem.tail _ (List.Mem.tail _ (List.Mem.head _))))
    unfold f192 at h
    refine ev_aload_nR (mm 0 rfl) l0 ?_
    refine ev_iload_n (mm 1 rfl) l1 ?_
    obtain ⟨_, e53, h⟩ := bind_so h
    obtain ⟨p1, e2, h⟩ := bind_so h
    refine ev_callV_I [.int (x1)] (mm 2 rfl) rfl rfl (Nat.le_of_ble_eq_true rfl) (s_ob_of e53) (f116_ok e2 (d + 0)) ?_
    rcases ite_so h with ⟨c3, h⟩ | ⟨c3, h⟩
    · refine ev_if_t 36 (mm 3 rfl) rfl c3 ?_
      refine ev_iconst (mm 19 rfl) cI_m1 ?_
      exact ev_ireturn (mm 20 rfl) h
    · refine ev_if_f 36 (mm 3 rfl) rfl c3 ?_
      refine ev_iload_n (mm 4 rfl) l2 ?_
      refine ev_iconst (mm 5 rfl) cI_0 ?_
      refine ev_iconst (mm 6 rfl) cI_2 ?_
      obtain ⟨p4, e5, h⟩ := bind_so h
      refine ev_callS_I [.int (x2), .int (0), .int (2)] (mm 7 rfl) (by decide) rfl rfl (Nat.le_of_ble_eq_true rfl) (f112_ok e5 (d + 1)) ?_
      rcases ite_so h with ⟨c6, h⟩ | ⟨c6, h⟩
      · refine ev_if_t 36 (mm 8 rfl) rfl c6 ?_
        refine ev_iconst (mm 19 rfl) cI_m1 ?_
        exact ev_ireturn (mm 20 rfl) h
      · refine ev_if_f 36 (mm 8 rfl) rfl c6 ?_
        refine ev_iload_n (mm 9 rfl) l3 ?_
        refine ev_iconst (mm 10 rfl) cI_1 ?_
        refine ev_iconst (mm 11 rfl) cI_5 ?_
        obtain ⟨p7, e8, h⟩ := bind_so h
        refine ev_callS_I [.int (x3), .int (1), .int (5)] (mm 12 rfl) (by decide) rfl rfl (Nat.le_of_ble_eq_true rfl) (f112_ok e8 (d + 1)) ?_
        rcases ite_so h with ⟨c9, h⟩ | ⟨c9, h⟩
        · refine ev_if_t 36 (mm 13 rfl) rfl c9 ?_
          refine ev_iconst (mm 19 rfl) cI_m1 ?_
          exact ev_ireturn (mm 20 rfl) h
        · refine ev_if_f 36 (mm 13 rfl) rfl c9 ?_
          refine ev_iload (mm 14 rfl) l4 ?_
          refine ev_iconst (mm 15 rfl) cI_0 ?_
          refine ev_iconst (mm 16 rfl) cI_2 ?_
          obtain ⟨p10, e11, h⟩ := bind_so h
          refine ev_callS_I [.int (x4), .int (0), .int (2)] (mm 17 rfl) (by decide) rfl rfl (Nat.le_of_ble_eq_true rfl) (f112_ok e11 (d + 1)) ?_
          rcases ite_so h with ⟨c12, h⟩ | ⟨c12, h⟩
          · refine ev_if_t 38 (mm 18 rfl) rfl c12 ?_
            refine ev_iconst (mm 21 rfl) cI_m1 ?_
            refine evs_istore (mm 22 rfl) (by decide) (fun lv13 l5 s14 => ?_)
            have l0 := s14 _ _ l0 rfl
            have l1 := s14 _ _ l1 rfl
            have l2 := s14 _ _ l2 rfl
            have l3 := s14 _ _ l3 rfl
            have l4 := s14 _ _ l4 rfl
            refine ev_iconst (mm 23 rfl) cI_m1 ?_
            refine evs_istore (mm 24 rfl) (by decide) (fun lv15 l6 s16 => ?_)
            have l0 := s16 _ _ l0 rfl
            have l1 := s16 _ _ l1 rfl
            have l2 := s16 _ _ l2 rfl
            have l3 := s16 _ _ l3 rfl
            have l4 := s16 _ _ l4 rfl
            have l5 := s16 _ _ l5 rfl
            refine ev_aload_nR (mm 25 rfl) l0 ?_
            obtain ⟨_, e52, h⟩ := bind_so h
            obtain ⟨p17, e18, h⟩ := bind_so h
            refine ev_callV_I [] (mm 26 rfl) rfl rfl (Nat.le_of_ble_eq_true rfl) (s_ob_of e52) (f118_ok e18 (d + 1)) ?_
            refine evs_istore (mm 27 rfl) (by decide) (fun lv19 l7 s20 => ?_)
            have l0 := s20 _ _ l0 rfl
            have l1 := s20 _ _ l1 rfl
            have l2 := s20 _ _ l2 rfl
            have l3 := s20 _ _ l3 rfl
            have l4 := s20 _ _ l4 rfl
            have l5 := s20 _ _ l5 rfl
            have l6 := s20 _ _ l6 rfl
            refine f192_l50_ok ?_ 100000 l0 l1 l2 l3 l4 l5 l6 l7 h
            · intro y42 y43 M44 lv l3 l4 l5 l6
              intro h
              exact f192_j107_ok l3 l4 l5 l6 h
          · refine ev_if_f 38 (mm 18 rfl) rfl c12 ?_
            refine ev_iconst (mm 19 rfl) cI_m1 ?_
            exact ev_ireturn (mm 20 rfl) h
  exact ⟨by decide, Nat.le_of_ble_eq_true rfl, key.1, key.2⟩
def f193_j57 (k80 : Int32 → Int32 → vm_M → Option (Int32 × vm_M)) (k7 : Int32 → Int32 → Int32 → vm_M → Option (Int32 × vm_M)) (x0 : Nat) (x1 : Int32) (x3 : Int32) (x4 : Int32) (x5 : Int32) (s0 : Int32) (s1 : Int32) (M : vm_M) : Option (Int32 × vm_M) :=
  if ¬ x3 = 0 then
    k7 (s0 + s1) 1 (x4 + 1) M
  else
    if ¬ x5 = 0 then
      k7 (s0 + s1) 0 (x4 + 1) M
    else
      k7 (s0 + s1) 1 (x4 + 1) M
theorem f193_j57_ok {d : Nat} {x0 : Nat} {x1 : Int32} {x3 : Int32} {x4 : Int32} {x5 : Int32} {s0 : Int32} {s1 : Int32} {M : vm_M} {k80 : Int32 → Int32 → vm_M → Option (Int32 × vm_M)} {k7 : Int32 → Int32 → Int32 → vm_M → Option (Int32 × vm_M)} {r : Int32 × vm_M} (hk80 : ∀ {y2 : Int32} {y3 : Int32} {M : vm_M} {lv : vm_L}, (0, .ref (x0)) ∈ lv → (1, .int (x1)) ∈ lv → (2, .int (y2)) ∈ lv → (3, .int (y3)) ∈ lv → k80 y2 y3 M = some r → Ev 0 (fun _ => 0) (vm_Cl (d + 0)) vp_193 11 7 false (some (.boolean)) (rI r) 80 lv [] M) (hk7 : ∀ {y2 : Int32} {y3 : Int32} {y4 : Int32} {M : vm_M} {lv : vm_L}, (0, .ref (x0)) ∈ lv → (1, .int (x1)) ∈ lv → (2, .int (y2)) ∈ lv → (3, .int (y3)) ∈ lv → (4, .int (y4)) ∈ lv → k7 y2 y3 y4 M = some r → Ev 0 (fun _ => 0) (vm_Cl (d + 0)) vp_193 11 7 false (some (.boolean)) (rI r) 7 lv [] M) {lv : vm_L} (l0 : (0, .ref (x0)) ∈ lv) (l1 : (1, .int (x1)) ∈ lv) (l3 : (3, .int (x3)) ∈ lv) (l4 : (4, .int (x4)) ∈ lv) (l5 : (5, .int (x5)) ∈ lv) (h : f193_j57 k80 k7 x0 x1 x3 x4 x5 s0 s1 M = some r) : Ev 0 (fun _ => 0) (vm_Cl (d + 0)) vp_193 11 7 false (some (.boolean)) (rI r) 57 lv [.int (s1), .int (s0)] M := by
  unfold f193_j57 at h
  refine ev_iadd (mm 34 rfl) ?_
  refine evs_istore_n (mm 35 rfl) (by decide) (fun lv12 l2 s13 => ?_)
  have l0 := s13 _ _ l0 rfl
  have l1 := s13 _ _ l1 rfl
  have l3 := s13 _ _ l3 rfl
  have l4 := s13 _ _ l4 rfl
  have l5 := s13 _ _ l5 rfl
  refine ev_iload_n (mm 36 rfl) l3 ?_
  rcases ite_so h with ⟨c14, h⟩ | ⟨c14, h⟩
  · refine ev_if_t 68 (mm 37 rfl) rfl c14 ?_
    refine ev_iconst (mm 40 rfl) cI_1 ?_
    refine ev_goto 73 (mm 41 rfl) rfl ?_
    refine evs_istore_n (mm 43 rfl) (by decide) (fun lv15 l3 s16 => ?_)
    have l0 := s16 _ _ l0 rfl
    have l1 := s16 _ _ l1 rfl
    have l2 := s16 _ _ l2 rfl
    have l4 := s16 _ _ l4 rfl
    refine evs_iinc (mm 44 rfl) cI_1 l4 (by decide) (fun lv17 l4 s18 => ?_)
    have l0 := s18 _ _ l0 rfl
    have l1 := s18 _ _ l1 rfl
    have l2 := s18 _ _ l2 rfl
    have l3 := s18 _ _ l3 rfl
    refine ev_goto 7 (mm 45 rfl) rfl ?_
    exact hk7 l0 l1 l2 l3 l4 h
  · refine ev_if_f 68 (mm 37 rfl) rfl c14 ?_
    refine ev_iload (mm 38 rfl) l5 ?_
    rcases ite_so h with ⟨c19, h⟩ | ⟨c19, h⟩
    · refine ev_if_t 72 (mm 39 rfl) rfl c19 ?_
      refine ev_iconst (mm 42 rfl) cI_0 ?_
      refine evs_istore_n (mm 43 rfl) (by decide) (fun lv20 l3 s21 => ?_)
      have l0 := s21 _ _ l0 rfl
      have l1 := s21 _ _ l1 rfl
      have l2 := s21 _ _ l2 rfl
      have l4 := s21 _ _ l4 rfl
      refine evs_iinc (mm 44 rfl) cI_1 l4 (by decide) (fun lv22 l4 s23 => ?_)
      have l0 := s23 _ _ l0 rfl
      have l1 := s23 _ _ l1 rfl
      have l2 := s23 _ _ l2 rfl
      have l3 := s23 _ _ l3 rfl
      refine ev_goto 7 (mm 45 rfl) rfl ?_
      exact hk7 l0 l1 l2 l3 l4 h
    · refine ev_if_f 72 (mm 39 rfl) rfl c19 ?_
      refine ev_iconst (mm 40 rfl) cI_1 ?_
      refine ev_goto 73 (mm 41 rfl) rfl ?_
      refine evs_istore_n (mm 43 rfl) (by decide) (fun lv24 l3 s25 => ?_)
      have l0 := s25 _ _ l0 rfl
      have l1 := s25 _ _ l1 rfl
      have l2 := s25 _ _ l2 rfl
      have l4 := s25 _ _ l4 rfl
      refine evs_iinc (mm 44 rfl) cI_1 l4 (by decide) (fun lv26 l4 s27 => ?_)
      have l0 := s27 _ _ l0 rfl
      have l1 := s27 _ _ l1 rfl
      have l2 := s27 _ _ l2 rfl
      have l3 := s27 _ _ l3 rfl
      refine ev_goto 7 (mm 45 rfl) rfl ?_
      exact hk7 l0 l1 l2 l3 l4 h
def f193_j38 (k80 : Int32 → Int32 → vm_M → Option (Int32 × vm_M)) (k7 : Int32 → Int32 → Int32 → vm_M → Option (Int32 × vm_M)) (x0 : Nat) (x1 : Int32) (x2 : Int32) (x3 : Int32) (x4 : Int32) (s0 : Int32) (M : vm_M) : Option (Int32 × vm_M) :=
  if s0 = 0 then
    f193_j57 k80 k7 x0 x1 x3 x4 s0 x2 0 M
  else
    (sg_r M x0 11 62).bind fun v28 =>
    (v28).bind fun q30 =>
    (sa_i M q30 0 x4).bind fun v32 =>
    f193_j57 k80 k7 x0 x1 x3 x4 s0 x2 v32 M
theorem f193_j38_ok {d : Nat} {x0 : Nat} {x1 : Int32} {x2 : Int32} {x3 : Int32} {x4 : Int32} {s0 : Int32} {M : vm_M} {k80 : Int32 → Int32 → vm_M → Option (Int32 × vm_M)} {k7 : Int32 → Int32 → Int32 → vm_M → Option (Int32 × vm_M)} {r : Int32 × vm_M} (hk80 : ∀ {y2 : Int32} {y3 : Int32} {M : vm_M} {lv : vm_L}, (0, .ref (x0)) ∈ lv → (1, .int (x1)) ∈ lv → (2, .int (y2)) ∈ lv → (3, .int (y3)) ∈ lv → k80 y2 y3 M = some r → Ev 0 (fun _ => 0) (vm_Cl (d + 0)) vp_193 11 7 false (some (.boolean)) (rI r) 80 lv [] M) (hk7 : ∀ {y2 : Int32} {y3 : Int32} {y4 : Int32} {M : vm_M} {lv : vm_L}, (0, .ref (x0)) ∈ lv → (1, .int (x1)) ∈ lv → (2, .int (y2)) ∈ lv → (3, .int (y3)) ∈ lv → (4, .int (y4)) ∈ lv → k7 y2 y3 y4 M = some r → Ev 0 (fun _ => 0) (vm_Cl (d + 0)) vp_193 11 7 false (some (.boolean)) (rI r) 7 lv [] M) {lv : vm_L} (l0 : (0, .ref (x0)) ∈ lv) (l1 : (1, .int (x1)) ∈ lv) (l2 : (2, .int (x2)) ∈ lv) (l3 : (3, .int (x3)) ∈ lv) (l4 : (4, .int (x4)) ∈ lv) (h : f193_j38 k80 k7 x0 x1 x2 x3 x4 s0 M = some r) : Ev 0 (fun _ => 0) (vm_Cl (d + 0)) vp_193 11 7 false (some (.boolean)) (rI r) 38 lv [.int (s0)] M := by
  unfold f193_j38 at h
  refine evs_istore (mm 24 rfl) (by decide) (fun lv9 l5 s10 => ?_)
  have l0 := s10 _ _ l0 rfl
  have l1 := s10 _ _ l1 rfl
  have l2 := s10 _ _ l2 rfl
  have l3 := s10 _ _ l3 rfl
  have l4 := s10 _ _ l4 rfl
  refine ev_iload_n (mm 25 rfl) l2 ?_
  refine ev_iload (mm 26 rfl) l5 ?_
  rcases ite_so h with ⟨c11, h⟩ | ⟨c11, h⟩
  · refine ev_if_t 56 (mm 27 rfl) rfl c11 ?_
    refine ev_iconst (mm 33 rfl) cI_0 ?_
    exact f193_j57_ok hk80 hk7 l0 l1 l3 l4 l5 h
  · refine ev_if_f 56 (mm 27 rfl) rfl c11 ?_
    refine ev_aload_nR (mm 28 rfl) l0 ?_
    obtain ⟨v28, e29, h⟩ := bind_so h
    refine ev_get_r (mm 29 rfl) rfl e29 ?_
    refine ev_iload (mm 30 rfl) l4 ?_
    obtain ⟨q30, e31, h⟩ := bind_so h
    rw [e31]
    obtain ⟨v32, e33, h⟩ := bind_so h
    refine ev_iaload (mm 31 rfl) e33 ?_
    refine ev_goto 57 (mm 32 rfl) rfl ?_
    exact f193_j57_ok hk80 hk7 l0 l1 l3 l4 l5 h
def f193_j37 (k80 : Int32 → Int32 → vm_M → Option (Int32 × vm_M)) (k7 : Int32 → Int32 → Int32 → vm_M → Option (Int32 × vm_M)) (x0 : Nat) (x1 : Int32) (x2 : Int32) (x3 : Int32) (x4 : Int32) (M : vm_M) : Option (Int32 × vm_M) :=
  f193_j38 k80 k7 x0 x1 x2 x3 x4 0 M
theorem f193_j37_ok {d : Nat} {x0 : Nat} {x1 : Int32} {x2 : Int32} {x3 : Int32} {x4 : Int32} {M : vm_M} {k80 : Int32 → Int32 → vm_M → Option (Int32 × vm_M)} {k7 : Int32 → Int32 → Int32 → vm_M → Option (Int32 × vm_M)} {r : Int32 × vm_M} (hk80 : ∀ {y2 : Int32} {y3 : Int32} {M : vm_M} {lv : vm_L}, (0, .ref (x0)) ∈ lv → (1, .int (x1)) ∈ lv → (2, .int (y2)) ∈ lv → (3, .int (y3)) ∈ lv → k80 y2 y3 M = some r → Ev 0 (fun _ => 0) (vm_Cl (d + 0)) vp_193 11 7 false (some (.boolean)) (rI r) 80 lv [] M) (hk7 : ∀ {y2 : Int32} {y3 : Int32} {y4 : Int32} {M : vm_M} {lv : vm_L}, (0, .ref (x0)) ∈ lv → (1, .int (x1)) ∈ lv → (2, .int (y2)) ∈ lv → (3, .int (y3)) ∈ lv → (4, .int (y4)) ∈ lv → k7 y2 y3 y4 M = some r → Ev 0 (fun _ => 0) (vm_Cl (d + 0)) vp_193 11 7 false (some (.boolean)) (rI r) 7 lv [] M) {lv : vm_L} (l0 : (0, .ref (x0)) ∈ lv) (l1 : (1, .int (x1)) ∈ lv) (l2 : (2, .int (x2)) ∈ lv) (l3 : (3, .int (x3)) ∈ lv) (l4 : (4, .int (x4)) ∈ lv) (h : f193_j37 k80 k7 x0 x1 x2 x3 x4 M = some r) : Ev 0 (fun _ => 0) (vm_Cl (d + 0)) vp_193 11 7 false (some (.boolean)) (rI r) 37 lv [] M := by
  unfold f193_j37 at h
  refine ev_iconst (mm 23 rfl) cI_0 ?_
  exact f193_j38_ok hk80 hk7 l0 l1 l2 l3 l4 h
def f193_l7 (x0 : Nat) (x1 : Int32) (k80 : Int32 → Int32 → vm_M → Option (Int32 × vm_M)) : Nat → Int32 → Int32 → Int32 → vm_M → Option (Int32 × vm_M)
  | 0 => fun _ _ _ _ => none
  | n + 1 => fun x2 x3 x4 M =>
    if 3 ≤ x4 then
      k80 x2 x3 M
    else
      if ¬ ((x1 >>> (x4 &&& 31)) &&& 1) = 0 then
        f193_j37 k80 (f193_l7 x0 x1 k80 n) x0 x1 x2 x3 x4 M
      else
        (sg_r M x0 11 62).bind fun v34 =>
        (v34).bind fun q36 =>
        (sa_i M q36 0 x4).bind fun v38 =>
        if v38 = (-1) then
          f193_j37 k80 (f193_l7 x0 x1 k80 n) x0 x1 x2 x3 x4 M
        else
          f193_j38 k80 (f193_l7 x0 x1 k80 n) x0 x1 x2 x3 x4 1 M
theorem f193_l7_ok {d : Nat} {x0 : Nat} {x1 : Int32} {k80 : Int32 → Int32 → vm_M → Option (Int32 × vm_M)} {r : Int32 × vm_M} (hk80 : ∀ {y2 : Int32} {y3 : Int32} {M : vm_M} {lv : vm_L}, (0, .ref (x0)) ∈ lv → (1, .int (x1)) ∈ lv → (2, .int (y2)) ∈ lv → (3, .int (y3)) ∈ lv → k80 y2 y3 M = some r → Ev 0 (fun _ => 0) (vm_Cl (d + 0)) vp_193 11 7 false (some (.boolean)) (rI r) 80 lv [] M) : ∀ (n : Nat) {x2 : Int32} {x3 : Int32} {x4 : Int32} {M : vm_M} {lv : vm_L}, (0, .ref (x0)) ∈ lv → (1, .int (x1)) ∈ lv → (2, .int (x2)) ∈ lv → (3, .int (x3)) ∈ lv → (4, .int (x4)) ∈ lv → f193_l7 x0 x1 k80 n x2 x3 x4 M = some r → Ev 0 (fun _ => 0) (vm_Cl (d + 0)) vp_193 11 7 false (some (.boolean)) (rI r) 7 lv [] M := by
  intro n
  induction n with
  | zero =>
    intro x2 x3 x4 M lv l0 l1 l2 l3 l4 h
    cases h
  | succ n ih =>
    intro x2 x3 x4 M lv l0 l1 l2 l3 l4 h
    dsimp only [f193_l7] at h
    refine ev_iload (mm 6 rfl) l4 ?_
    refine ev_iconst (mm 7 rfl) cI_3 ?_
    rcases ite_so h with ⟨c7, h⟩ | ⟨c7, h⟩
    · refine ev_ic_t 80 (mm 8 rfl) rfl c7 ?_
      exact hk80 l0 l1 l2 l3 h
    · refine ev_ic_f 80 (mm 8 rfl) rfl c7 ?_
      refine ev_iload_n (mm 9 rfl) l1 ?_
      refine ev_iload (mm 10 rfl) l4 ?_
      refine ev_ishr (mm 11 rfl) ?_
      refine ev_iconst (mm 12 rfl) cI_1 ?_
      refine ev_iand (mm 13 rfl) ?_
      rcases ite_so h with ⟨c8, h⟩ | ⟨c8, h⟩
      · refine ev_if_t 37 (mm 14 rfl) rfl c8 ?_
        exact f193_j37_ok hk80 ih l0 l1 l2 l3 l4 h
      · refine ev_if_f 37 (mm 14 rfl) rfl c8 ?_
        refine ev_aload_nR (mm 15 rfl) l0 ?_
        obtain ⟨v34, e35, h⟩ := bind_so h
        refine ev_get_r (mm 16 rfl) rfl e35 ?_
        refine ev_iload (mm 17 rfl) l4 ?_
        obtain ⟨q36, e37, h⟩ := bind_so h
        rw [e37]
        obtain ⟨v38, e39, h⟩ := bind_so h
        refine ev_iaload (mm 18 rfl) e39 ?_
        refine ev_iconst (mm 19 rfl) cI_m1 ?_
        rcases ite_so h with ⟨c40, h⟩ | ⟨c40, h⟩
        · refine ev_ic_t 37 (mm 20 rfl) rfl c40 ?_
          exact f193_j37_ok hk80 ih l0 l1 l2 l3 l4 h
        · refine ev_ic_f 37 (mm 20 rfl) rfl c40 ?_
          refine ev_iconst (mm 21 rfl) cI_1 ?_
          refine ev_goto 38 (mm 22 rfl) rfl ?_
          exact f193_j38_ok hk80 ih l0 l1 l2 l3 l4 h
def f193_j187 (x4 : Int32) (x5 : Int32) (x6 : Int32) (M : vm_M) : Option (Int32 × vm_M) :=
  if x6 < x4 then
    s_rb 0 M
  else
    if x6 < x5 then
      s_rb 0 M
    else
      s_rb 1 M
theorem f193_j187_ok {d : Nat} {x4 : Int32} {x5 : Int32} {x6 : Int32} {M : vm_M} {r : Int32 × vm_M} {lv : vm_L} (l4 : (4, .int (x4)) ∈ lv) (l5 : (5, .int (x5)) ∈ lv) (l6 : (6, .int (x6)) ∈ lv) (h : f193_j187 x4 x5 x6 M = some r) : Ev 0 (fun _ => 0) (vm_Cl (d + 0)) vp_193 11 7 false (some (.boolean)) (rI r) 187 lv [] M := by
  unfold f193_j187 at h
  refine ev_iload (mm 109 rfl) l4 ?_
  refine ev_iload (mm 110 rfl) l6 ?_
  rcases ite_so h with ⟨c56, h⟩ | ⟨c56, h⟩
  · refine ev_ic_t 205 (mm 111 rfl) rfl c56 ?_
    refine ev_iconst (mm 117 rfl) cI_0 ?_
    exact ev_zreturn (mm 118 rfl) h
  · refine ev_ic_f 205 (mm 111 rfl) rfl c56 ?_
    refine ev_iload (mm 112 rfl) l5 ?_
    refine ev_iload (mm 113 rfl) l6 ?_
    rcases ite_so h with ⟨c57, h⟩ | ⟨c57, h⟩
    · refine ev_ic_t 205 (mm 114 rfl) rfl c57 ?_
      refine ev_iconst (mm 117 rfl) cI_0 ?_
      exact ev_zreturn (mm 118 rfl) h
    · refine ev_ic_f 205 (mm 114 rfl) rfl c57 ?_
      refine ev_iconst (mm 115 rfl) cI_1 ?_
      refine ev_goto 206 (mm 116 rfl) rfl ?_
      exact ev_zreturn (mm 118 rfl) h
def f193_j138 (x2 : Int32) (x3 : Int32) (x4 : Int32) (x5 : Int32) (s0 : Int32) (M : vm_M) : Option (Int32 × vm_M) :=
  if ¬ s0 = (-1) then
    if x3 = 0 then
      if ¬ x2 = s0 then
        s_rb 0 M
      else
        f193_j187 x4 x5 s0 M
    else
      if s0 < x2 then
        s_rb 0 M
      else
        f193_j187 x4 x5 s0 M
  else
    if ¬ x3 = 0 then
      s_rb 1 M
    else
      if x2 < x4 then
        s_rb 0 M
      else
        if x2 < x5 then
          s_rb 0 M
        else
          s_rb 1 M
theorem f193_j138_ok {d : Nat} {x2 : Int32} {x3 : Int32} {x4 : Int32} {x5 : Int32} {s0 : Int32} {M : vm_M} {r : Int32 × vm_M} {lv : vm_L} (l2 : (2, .int (x2)) ∈ lv) (l3 : (3, .int (x3)) ∈ lv) (l4 : (4, .int (x4)) ∈ lv) (l5 : (5, .int (x5)) ∈ lv) (h : f193_j138 x2 x3 x4 x5 s0 M = some r) : Ev 0 (fun _ => 0) (vm_Cl (d + 0)) vp_193 11 7 false (some (.boolean)) (rI r) 138 lv [.int (s0)] M := by
  unfold f193_j138 at h
  refine evs_istore (mm 84 rfl) (by decide) (fun lv51 l6 s52 => ?_)
  have l2 := s52 _ _ l2 rfl
  have l3 := s52 _ _ l3 rfl
  have l4 := s52 _ _ l4 rfl
  have l5 := s52 _ _ l5 rfl
  refine ev_iload (mm 85 rfl) l6 ?_
  refine ev_iconst (mm 86 rfl) cI_m1 ?_
  rcases ite_so h with ⟨c53, h⟩ | ⟨c53, h⟩
  · refine ev_ic_t 168 (mm 87 rfl) rfl c53 ?_
    refine ev_iload_n (mm 100 rfl) l3 ?_
    rcases ite_so h with ⟨c54, h⟩ | ⟨c54, h⟩
    · refine ev_if_t 181 (mm 101 rfl) rfl c54 ?_
      refine ev_iload_n (mm 106 rfl) l2 ?_
      refine ev_iload (mm 107 rfl) l6 ?_
      rcases ite_so h with ⟨c55, h⟩ | ⟨c55, h⟩
      · refine ev_ic_t 205 (mm 108 rfl) rfl c55 ?_
        refine ev_iconst (mm 117 rfl) cI_0 ?_
        exact ev_zreturn (mm 118 rfl) h
      · refine ev_ic_f 205 (mm 108 rfl) rfl c55 ?_
        exact f193_j187_ok l4 l5 l6 h
    · refine ev_if_f 181 (mm 101 rfl) rfl c54 ?_
      refine ev_iload_n (mm 102 rfl) l2 ?_
      refine ev_iload (mm 103 rfl) l6 ?_
      rcases ite_so h with ⟨c58, h⟩ | ⟨c58, h⟩
      · refine ev_ic_t 205 (mm 104 rfl) rfl c58 ?_
        refine ev_iconst (mm 117 rfl) cI_0 ?_
        exact ev_zreturn (mm 118 rfl) h
      · refine ev_ic_f 205 (mm 104 rfl) rfl c58 ?_
        refine ev_goto 187 (mm 105 rfl) rfl ?_
        exact f193_j187_ok l4 l5 l6 h
  · refine ev_ic_f 168 (mm 87 rfl) rfl c53 ?_
    refine ev_iload_n (mm 88 rfl) l3 ?_
    rcases ite_so h with ⟨c59, h⟩ | ⟨c59, h⟩
    · refine ev_if_t 162 (mm 89 rfl) rfl c59 ?_
      refine ev_iconst (mm 96 rfl) cI_1 ?_
      refine ev_goto 167 (mm 97 rfl) rfl ?_
      exact ev_zreturn (mm 99 rfl) h
    · refine ev_if_f 162 (mm 89 rfl) rfl c59 ?_
      refine ev_iload (mm 90 rfl) l4 ?_
      refine ev_iload_n (mm 91 rfl) l2 ?_
      rcases ite_so h with ⟨c60, h⟩ | ⟨c60, h⟩
      · refine ev_ic_t 166 (mm 92 rfl) rfl c60 ?_
        refine ev_iconst (mm 98 rfl) cI_0 ?_
        exact ev_zreturn (mm 99 rfl) h
      · refine ev_ic_f 166 (mm 92 rfl) rfl c60 ?_
        refine ev_iload (mm 93 rfl) l5 ?_
        refine ev_iload_n (mm 94 rfl) l2 ?_
        rcases ite_so h with ⟨c61, h⟩ | ⟨c61, h⟩
        · refine ev_ic_t 166 (mm 95 rfl) rfl c61 ?_
          refine ev_iconst (mm 98 rfl) cI_0 ?_
          exact ev_zreturn (mm 99 rfl) h
        · refine ev_ic_f 166 (mm 95 rfl) rfl c61 ?_
          refine ev_iconst (mm 96 rfl) cI_1 ?_
          refine ev_goto 167 (mm 97 rfl) rfl ?_
          exact ev_zreturn (mm 99 rfl) h
def f193_j118 (x0 : Nat) (x1 : Int32) (x2 : Int32) (x3 : Int32) (x4 : Int32) (s0 : Int32) (M : vm_M) : Option (Int32 × vm_M) :=
  if ¬ ((x1 >>> (5 &&& 31)) &&& 1) = 0 then
    f193_j138 x2 x3 x4 s0 (-1) M
  else
    (sg_r M x0 11 62).bind fun v62 =>
    (v62).bind fun q64 =>
    (sa_i M q64 0 5).bind fun v66 =>
    f193_j138 x2 x3 x4 s0 v66 M
theorem f193_j118_ok {d : Nat} {x0 : Nat} {x1 : Int32} {x2 : Int32} {x3 : Int32} {x4 : Int32} {s0 : Int32} {M : vm_M} {r : Int32 × vm_M} {lv : vm_L} (l0 : (0, .ref (x0)) ∈ lv) (l1 : (1, .int (x1)) ∈ lv) (l2 : (2, .int (x2)) ∈ lv) (l3 : (3, .int (x3)) ∈ lv) (l4 : (4, .int (x4)) ∈ lv) (h : f193_j118 x0 x1 x2 x3 x4 s0 M = some r) : Ev 0 (fun _ => 0) (vm_Cl (d + 0)) vp_193 11 7 false (some (.boolean)) (rI r) 118 lv [.int (s0)] M := by
  unfold f193_j118 at h
  refine evs_istore (mm 71 rfl) (by decide) (fun lv48 l5 s49 => ?_)
  have l0 := s49 _ _ l0 rfl
  have l1 := s49 _ _ l1 rfl
  have l2 := s49 _ _ l2 rfl
  have l3 := s49 _ _ l3 rfl
  have l4 := s49 _ _ l4 rfl
  refine ev_iload_n (mm 72 rfl) l1 ?_
  refine ev_iconst (mm 73 rfl) cI_5 ?_
  refine ev_ishr (mm 74 rfl) ?_
  refine ev_iconst (mm 75 rfl) cI_1 ?_
  refine ev_iand (mm 76 rfl) ?_
  rcases ite_so h with ⟨c50, h⟩ | ⟨c50, h⟩
  · refine ev_if_t 137 (mm 77 rfl) rfl c50 ?_
    refine ev_iconst (mm 83 rfl) cI_m1 ?_
    exact f193_j138_ok l2 l3 l4 l5 h
  · refine ev_if_f 137 (mm 77 rfl) rfl c50 ?_
    refine ev_aload_nR (mm 78 rfl) l0 ?_
    obtain ⟨v62, e63, h⟩ := bind_so h
    refine ev_get_r (mm 79 rfl) rfl e63 ?_
    refine ev_iconst (mm 80 rfl) cI_5 ?_
    obtain ⟨q64, e65, h⟩ := bind_so h
    rw [e65]
    obtain ⟨v66, e67, h⟩ := bind_so h
    refine ev_iaload (mm 81 rfl) e67 ?_
    refine ev_goto 138 (mm 82 rfl) rfl ?_
    exact f193_j138_ok l2 l3 l4 l5 h
def f193_j98 (x0 : Nat) (x1 : Int32) (x2 : Int32) (x3 : Int32) (s0 : Int32) (M : vm_M) : Option (Int32 × vm_M) :=
  if ¬ ((x1 >>> (4 &&& 31)) &&& 1) = 0 then
    f193_j118 x0 x1 x2 x3 s0 (-1) M
  else
    (sg_r M x0 11 62).bind fun v68 =>
    (v68).bind fun q70 =>
    (sa_i M q70 0 4).bind fun v72 =>
    f193_j118 x0 x1 x2 x3 s0 v72 M
theorem f193_j98_ok {d : Nat} {x0 : Nat} {x1 : Int32} {x2 : Int32} {x3 : Int32} {s0 : Int32} {M : vm_M} {r : Int32 × vm_M} {lv : vm_L} (l0 : (0, .ref (x0)) ∈ lv) (l1 : (1, .int (x1)) ∈ lv) (l2 : (2, .int (x2)) ∈ lv) (l3 : (3, .int (x3)) ∈ lv) (h : f193_j98 x0 x1 x2 x3 s0 M = some r) : Ev 0 (fun _ => 0) (vm_Cl (d + 0)) vp_193 11 7 false (some (.boolean)) (rI r) 98 lv [.int (s0)] M := by
  unfold f193_j98 at h
  refine evs_istore (mm 58 rfl) (by decide) (fun lv45 l4 s46 => ?_)
  have l0 := s46 _ _ l0 rfl
  have l1 := s46 _ _ l1 rfl
  have l2 := s46 _ _ l2 rfl
  have l3 := s46 _ _ l3 rfl
  refine ev_iload_n (mm 59 rfl) l1 ?_
  refine ev_iconst (mm 60 rfl) cI_4 ?_
  refine ev_ishr (mm 61 rfl) ?_
  refine ev_iconst (mm 62 rfl) cI_1 ?_
  refine ev_iand (mm 63 rfl) ?_
  rcases ite_so h with ⟨c47, h⟩ | ⟨c47, h⟩
  · refine ev_if_t 117 (mm 64 rfl) rfl c47 ?_
    refine ev_iconst (mm 70 rfl) cI_m1 ?_
    exact f193_j118_ok l0 l1 l2 l3 l4 h
  · refine ev_if_f 117 (mm 64 rfl) rfl c47 ?_
    refine ev_aload_nR (mm 65 rfl) l0 ?_
    obtain ⟨v68, e69, h⟩ := bind_so h
    refine ev_get_r (mm 66 rfl) rfl e69 ?_
    refine ev_iconst (mm 67 rfl) cI_4 ?_
    obtain ⟨q70, e71, h⟩ := bind_so h
    rw [e71]
    obtain ⟨v72, e73, h⟩ := bind_so h
    refine ev_iaload (mm 68 rfl) e73 ?_
    refine ev_goto 118 (mm 69 rfl) rfl ?_
    exact f193_j118_ok l0 l1 l2 l3 l4 h
/-- PupilCoinModel.canBe(I)Z -/
def f193 (x0 : Nat) (x1 : Int32) (M : vm_M) : Option (Int32 × vm_M) :=
  f193_l7 x0 x1
    (fun y41 y42 M43 =>
      if ¬ ((x1 >>> (3 &&& 31)) &&& 1) = 0 then
        f193_j98 x0 x1 y41 y42 (-1) M43
      else
        (sg_r M43 x0 11 62).bind fun v74 =>
        (v74).bind fun q76 =>
        (sa_i M43 q76 0 3).bind fun v78 =>
        f193_j98 x0 x1 y41 y42 v78 M43)
    100000 0 0 0 M
theorem f193_ok {x0 : Nat} {x1 : Int32} {M : vm_M} {r : Int32 × vm_M} (h : f193 x0 x1 M = some r) (d : Nat) : vm_Cl (d + 1) 193 [.ref (x0), .int (x1)] M (rI r) := by
  have key : Ev 0 (fun _ => 0) (vm_Cl (d + 0)) vp_193 11 7 false (some (.boolean)) (rI r) 0 (lv_args 0 [.ref (x0), .int (x1)]) [] M := by
    have l0 : (0, .ref (x0)) ∈ lv_args 0 [.ref (x0), .int (x1)] := List.Mem.head _
    have l1 : (1, .int (x1)) ∈ lv_args 0 [.ref (x0), .int (x1)] := List.Mem.tail _ (List.Mem.head _)
    unfold f193 at h
    refine ev_iconst (mm 0 rfl) cI_0 ?_
    refine evs_istore_n (mm 1 rfl) (by decide) (fun lv1 l2 s2 => ?_)
    have l0 := s2 _ _ l0 rfl
    have l1 := s2 _ _ l1 rfl
    refine ev_iconst (mm 2 rfl) cI_0 ?_
    refine evs_istore_n (mm 3 rfl) (by decide) (fun lv3 l3 s4 => ?_)
    have l0 := s4 _ _ l0 rfl
    have l1 := s4 _ _ l1 rfl
    have l2 := s4 _ _ l2 rfl
    refine ev_iconst (mm 4 rfl) cI_0 ?_
    refine evs_istore (mm 5 rfl) (by decide) (fun lv5 l4 s6 => ?_)
    have l0 := s6 _ _ l0 rfl
    have l1 := s6 _ _ l1 rfl
    have l2 := s6 _ _ l2 rfl
    have l3 := s6 _ _ l3 rfl
    refine f193_l7_ok ?_ 100000 l0 l1 l2 l3 l4 h
    · intro y41 y42 M43 lv l0 l1 l2 l3
      intro h
      refine ev_iload_n (mm 46 rfl) l1 ?_
      refine ev_iconst (mm 47 rfl) cI_3 ?_
      refine ev_ishr (mm 48 rfl) ?_
      refine ev_iconst (mm 49 rfl) cI_1 ?_
      refine ev_iand (mm 50 rfl) ?_
      rcases ite_so h with ⟨c44, h⟩ | ⟨c44, h⟩
      · refine ev_if_t 97 (mm 51 rfl) rfl c44 ?_
        refine ev_iconst (mm 57 rfl) cI_m1 ?_
        exact f193_j98_ok l0 l1 l2 l3 h
      · refine ev_if_f 97 (mm 51 rfl) rfl c44 ?_
        refine ev_aload_nR (mm 52 rfl) l0 ?_
        obtain ⟨v74, e75, h⟩ := bind_so h
        refine ev_get_r (mm 53 rfl) rfl e75 ?_
        refine ev_iconst (mm 54 rfl) cI_3 ?_
        obtain ⟨q76, e77, h⟩ := bind_so h
        rw [e77]
        obtain ⟨v78, e79, h⟩ := bind_so h
        refine ev_iaload (mm 55 rfl) e79 ?_
        refine ev_goto 98 (mm 56 rfl) rfl ?_
        exact f193_j98_ok l0 l1 l2 l3 h
  exact ⟨by decide, Nat.le_of_ble_eq_true rfl, key.1, key.2⟩
def f194_l4 : Nat → Int32 → Int32 → vm_M → Option (Int32 × vm_M)
  | 0 => fun _ _ _ => none
  | n + 1 => fun x1 x2 M =>
    if x2 ≤ 0 then
      some (x1, M)
    else
      f194_l4 n (x1 + (x2 &&& 1)) (x2 >>> (1 &&& 31)) M
theorem f194_l4_ok {d : Nat} {r : Int32 × vm_M} : ∀ (n : Nat) {x1 : Int32} {x2 : Int32} {M : vm_M} {lv : vm_L}, (1, .int (x1)) ∈ lv → (2, .int (x2)) ∈ lv → f194_l4 n x1 x2 M = some r → Ev 0 (fun _ => 0) (vm_Cl (d + 0)) vp_194 11 3 false (some (.int)) (rI r) 4 lv [] M := by
  intro n
  induction n with
  | zero =>
    intro x1 x2 M lv l1 l2 h
    cases h
  | succ n ih =>
    intro x1 x2 M lv l1 l2 h
    dsimp only [f194_l4] at h
    refine ev_iload_n (mm 4 rfl) l2 ?_
    rcases ite_so h with ⟨c5, h⟩ | ⟨c5, h⟩
    · refine ev_if_t 21 (mm 5 rfl) rfl c5 ?_
      refine ev_iload_n (mm 17 rfl) l1 ?_
      exact ev_ireturn (mm 18 rfl) h
    · refine ev_if_f 21 (mm 5 rfl) rfl c5 ?_
      refine ev_iload_n (mm 6 rfl) l1 ?_
      refine ev_iload_n (mm 7 rfl) l2 ?_
      refine ev_iconst (mm 8 rfl) cI_1 ?_
      refine ev_iand (mm 9 rfl) ?_
      refine ev_iadd (mm 10 rfl) ?_
      refine evs_istore_n (mm 11 rfl) (by decide) (fun lv6 l1 s7 => ?_)
      have l2 := s7 _ _ l2 rfl
      refine ev_iload_n (mm 12 rfl) l2 ?_
      refine ev_iconst (mm 13 rfl) cI_1 ?_
      refine ev_ishr (mm 14 rfl) ?_
      refine evs_istore_n (mm 15 rfl) (by decide) (fun lv8 l2 s9 => ?_)
      have l1 := s9 _ _ l1 rfl
      refine ev_goto 4 (mm 16 rfl) rfl ?_
      exact ih l1 l2 h
/-- PupilCoinModel.bits(I)I -/
def f194 (x0 : Int32) (M : vm_M) : Option (Int32 × vm_M) :=
  f194_l4
  
    100000 0 x0 M
theorem f194_ok {x0 : Int32} {M : vm_M} {r : Int32 × vm_M} (h : f194 x0 M = some r) (d : Nat) : vm_Cl (d + 1) 194 [.int (x0)] M (rI r) := by
  have key : Ev 0 (fun _ => 0) (vm_Cl (d + 0)) vp_194 11 3 false (some (.int)) (rI r) 0 (lv_args 0 [.int (x0)]) [] M := by
    have l0 : (0, .int (x0)) ∈ lv_args 0 [.int (x0)] := List.Mem.head _
    unfold f194 at h
    refine ev_iconst (mm 0 rfl) cI_0 ?_
    refine evs_istore_n (mm 1 rfl) (by decide) (fun lv1 l1 s2 => ?_)
    have l0 := s2 _ _ l0 rfl
    refine ev_iload_n (mm 2 rfl) l0 ?_
    refine evs_istore_n (mm 3 rfl) (by decide) (fun lv3 l2 s4 => ?_)
    have l1 := s4 _ _ l1 rfl
    refine f194_l4_ok 100000 l1 l2 h
  exact ⟨by decide, Nat.le_of_ble_eq_true rfl, key.1, key.2⟩
def f195_l22 (x0 : Nat) (x1 : Int32) (x2 : Int32) (k76 : Int32 → vm_M → Option (Int32 × vm_M)) : Nat → Int32 → Int32 → vm_M → Option (Int32 × vm_M)
  | 0 => fun _ _ _ => none
  | n + 1 => fun x3 x4 M =>
    if 6 ≤ x4 then
      k76 x3 M
    else
      (sg_r M x0 11 62).bind fun v12 =>
      (sg_i M x0 11 0).bind fun v14 =>
      (s_ob M x0 11).bind fun _ =>
      (f126 x0 x1 x2 x4 v14 M).bind fun p16 =>
      (v12).bind fun q18 =>
      (ss_i p16.2 q18 0 x4 p16.1).bind fun M20 =>
      (sg_r M20 x0 11 62).bind fun v22 =>
      (v22).bind fun q24 =>
      (sa_i M20 q24 0 x4).bind fun v26 =>
      if ¬ v26 = (-1) then
        f195_l22 x0 x1 x2 k76 n (x3 ||| (1 <<< (x4 &&& 31))) (x4 + 1) M20
      else
        f195_l22 x0 x1 x2 k76 n (x3 ||| 0) (x4 + 1) M20
theorem f195_l22_ok {d : Nat} {x0 : Nat} {x1 : Int32} {x2 : Int32} {k76 : Int32 → vm_M → Option (Int32 × vm_M)} {r : Int32 × vm_M} (hk76 : ∀ {y3 : Int32} {M : vm_M} {lv : vm_L}, (0, .ref (x0)) ∈ lv → (3, .int (y3)) ∈ lv → k76 y3 M = some r → Ev 0 (fun _ => 0) (vm_Cl (d + 2)) vp_195 11 6 false (some (.int)) (rI r) 76 lv [] M) : ∀ (n : Nat) {x3 : Int32} {x4 : Int32} {M : vm_M} {lv : vm_L}, (0, .ref (x0)) ∈ lv → (1, .int (x1)) ∈ lv → (2, .int (x2)) ∈ lv → (3, .int (x3)) ∈ lv → (4, .int (x4)) ∈ lv → f195_l22 x0 x1 x2 k76 n x3 x4 M = some r → Ev 0 (fun _ => 0) (vm_Cl (d + 2)) vp_195 11 6 false (some (.int)) (rI r) 22 lv [] M := by
  intro n
  induction n with
  | zero =>
    intro x3 x4 M lv l0 l1 l2 l3 l4 h
    cases h
  | succ n ih =>
    intro x3 x4 M lv l0 l1 l2 l3 l4 h
    dsimp only [f195_l22] at h
    refine ev_iload (mm 13 rfl) l4 ?_
    refine ev_bipush (mm 14 rfl) cB_6 ?_
    rcases ite_so h with ⟨c11, h⟩ | ⟨c11, h⟩
    · refine ev_ic_t 76 (mm 15 rfl) rfl c11 ?_
      exact hk76 l0 l3 h
    · refine ev_ic_f 76 (mm 15 rfl) rfl c11 ?_
      refine ev_aload_nR (mm 16 rfl) l0 ?_
      obtain ⟨v12, e13, h⟩ := bind_so h
      refine ev_get_r (mm 17 rfl) rfl e13 ?_
      refine ev_iload (mm 18 rfl) l4 ?_
      refine ev_aload_nR (mm 19 rfl) l0 ?_
      refine ev_iload_n (mm 20 rfl) l1 ?_
      refine ev_iload_n (mm 21 rfl) l2 ?_
      refine ev_iload (mm 22 rfl) l4 ?_
      refine ev_aload_nR (mm 23 rfl) l0 ?_
      obtain ⟨v14, e15, h⟩ := bind_so h
      refine ev_get_i (mm 24 rfl) rfl e15 ?_
      obtain ⟨_, e37, h⟩ := bind_so h
      obtain ⟨p16, e17, h⟩ := bind_so h
      refine ev_callV_I [.int (x1), .int (x2), .int (x4), .int (v14)] (mm 25 rfl) rfl rfl (by simp [vm_cat_A, vm_cat_I, vm_cat_R, vm_cat_J, vm_cat_0]) (s_ob_of e37) (f126_ok e17 (d + 1)) ?_
      obtain ⟨q18, e19, h⟩ := bind_so h
      rw [e19]
      obtain ⟨M20, e21, h⟩ := bind_so h
      refine ev_iastore (mm 26 rfl) e21 ?_
      refine ev_iload_n (mm 27 rfl) l3 ?_
      refine ev_aload_nR (mm 28 rfl) l0 ?_
      obtain ⟨v22, e23, h⟩ := bind_so h
      refine ev_get_r (mm 29 rfl) rfl e23 ?_
      refine ev_iload (mm 30 rfl) l4 ?_
      obtain ⟨q24, e25, h⟩ := bind_so h
      rw [e25]
      obtain ⟨v26, e27, h⟩ := bind_so h
      refine ev_iaload (mm 31 rfl) e27 ?_
      refine ev_iconst (mm 32 rfl) cI_m1 ?_
      rcases ite_so h with ⟨c28, h⟩ | ⟨c28, h⟩
      · refine ev_ic_t 64 (mm 33 rfl) rfl c28 ?_
        refine ev_iconst (mm 36 rfl) cI_1 ?_
        refine ev_iload (mm 37 rfl) l4 ?_
        refine ev_ishl (mm 38 rfl) ?_
        refine ev_ior (mm 39 rfl) ?_
        refine evs_istore_n (mm 40 rfl) (by decide) (fun lv29 l3 s30 => ?_)
        have l0 := s30 _ _ l0 rfl
        have l1 := s30 _ _ l1 rfl
        have l2 := s30 _ _ l2 rfl
        have l4 := s30 _ _ l4 rfl
        refine evs_iinc (mm 41 rfl) cI_1 l4 (by decide) (fun lv31 l4 s32 => ?_)
        have l0 := s32 _ _ l0 rfl
        have l1 := s32 _ _ l1 rfl
        have l2 := s32 _ _ l2 rfl
        have l3 := s32 _ _ l3 rfl
        refine ev_goto 22 (mm 42 rfl) rfl ?_
        exact ih l0 l1 l2 l3 l4 h
      · refine ev_ic_f 64 (mm 33 rfl) rfl c28 ?_
        refine ev_iconst (mm 34 rfl) cI_0 ?_
        refine ev_goto 68 (mm 35 rfl) rfl ?_
        refine ev_ior (mm 39 rfl) ?_
        refine evs_istore_n (mm 40 rfl) (by decide) (fun lv33 l3 s34 => ?_)
        have l0 := s34 _ _ l0 rfl
        have l1 := s34 _ _ l1 rfl
        have l2 := s34 _ _ l2 rfl
        have l4 := s34 _ _ l4 rfl
        refine evs_iinc (mm 41 rfl) cI_1 l4 (by decide) (fun lv35 l4 s36 => ?_)
        have l0 := s36 _ _ l0 rfl
        have l1 := s36 _ _ l1 rfl
        have l2 := s36 _ _ l2 rfl
        have l3 := s36 _ _ l3 rfl
        refine ev_goto 22 (mm 42 rfl) rfl ?_
        exact ih l0 l1 l2 l3 l4 h
def f195_j117 (k82 : Int32 → Int32 → vm_M → Option (Int32 × vm_M)) (x0 : Nat) (x3 : Int32) (x4 : Int32) (x5 : Int32) (M : vm_M) : Option (Int32 × vm_M) :=
  (s_ob M x0 11).bind fun _ =>
  (f193 x0 x5 M).bind fun p49 =>
  if p49.1 = 0 then
    k82 x4 (x5 + 1) p49.2
  else
    k82 x5 (x5 + 1) p49.2
theorem f195_j117_ok {d : Nat} {x0 : Nat} {x3 : Int32} {x4 : Int32} {x5 : Int32} {M : vm_M} {k82 : Int32 → Int32 → vm_M → Option (Int32 × vm_M)} {r : Int32 × vm_M} (hk82 : ∀ {y4 : Int32} {y5 : Int32} {M : vm_M} {lv : vm_L}, (0, .ref (x0)) ∈ lv → (3, .int (x3)) ∈ lv → (4, .int (y4)) ∈ lv → (5, .int (y5)) ∈ lv → k82 y4 y5 M = some r → Ev 0 (fun _ => 0) (vm_Cl (d + 2)) vp_195 11 6 false (some (.int)) (rI r) 82 lv [] M) {lv : vm_L} (l0 : (0, .ref (x0)) ∈ lv) (l3 : (3, .int (x3)) ∈ lv) (l4 : (4, .int (x4)) ∈ lv) (l5 : (5, .int (x5)) ∈ lv) (h : f195_j117 k82 x0 x3 x4 x5 M = some r) : Ev 0 (fun _ => 0) (vm_Cl (d + 2)) vp_195 11 6 false (some (.int)) (rI r) 117 lv [] M := by
  unfold f195_j117 at h
  refine ev_aload_nR (mm 64 rfl) l0 ?_
  refine ev_iload (mm 65 rfl) l5 ?_
  obtain ⟨_, e58, h⟩ := bind_so h
  obtain ⟨p49, e50, h⟩ := bind_so h
  refine ev_callV_I [.int (x5)] (mm 66 rfl) rfl rfl (Nat.le_of_ble_eq_true rfl) (s_ob_of e58) (f193_ok e50 (d + 1)) ?_
  rcases ite_so h with ⟨c51, h⟩ | ⟨c51, h⟩
  · refine ev_if_t 130 (mm 67 rfl) rfl c51 ?_
    refine evs_iinc (mm 70 rfl) cI_1 l5 (by decide) (fun lv52 l5 s53 => ?_)
    have l0 := s53 _ _ l0 rfl
    have l3 := s53 _ _ l3 rfl
    have l4 := s53 _ _ l4 rfl
    refine ev_goto 82 (mm 71 rfl) rfl ?_
    exact hk82 l0 l3 l4 l5 h
  · refine ev_if_f 130 (mm 67 rfl) rfl c51 ?_
    refine ev_iload (mm 68 rfl) l5 ?_
    refine evs_istore (mm 69 rfl) (by decide) (fun lv54 l4 s55 => ?_)
    have l0 := s55 _ _ l0 rfl
    have l3 := s55 _ _ l3 rfl
    have l5 := s55 _ _ l5 rfl
    refine evs_iinc (mm 70 rfl) cI_1 l5 (by decide) (fun lv56 l5 s57 => ?_)
    have l0 := s57 _ _ l0 rfl
    have l3 := s57 _ _ l3 rfl
    have l4 := s57 _ _ l4 rfl
    refine ev_goto 82 (mm 71 rfl) rfl ?_
    exact hk82 l0 l3 l4 l5 h
def f195_l82 (x0 : Nat) (x3 : Int32) : Nat → Int32 → Int32 → vm_M → Option (Int32 × vm_M)
  | 0 => fun _ _ _ => none
  | n + 1 => fun x4 x5 M =>
    if 64 ≤ x5 then
      some (x4, M)
    else
      if ¬ (x5 &&& (x3 ^^^ (-1))) = 0 then
        f195_l82 x0 x3 n x4 (x5 + 1) M
      else
        if x4 = (-1) then
          f195_j117 (f195_l82 x0 x3 n) x0 x3 x4 x5 M
        else
          (f194 x5 M).bind fun p59 =>
          (f194 x4 p59.2).bind fun p61 =>
          if p61.1 ≤ p59.1 then
            f195_l82 x0 x3 n x4 (x5 + 1) p61.2
          else
            f195_j117 (f195_l82 x0 x3 n) x0 x3 x4 x5 p61.2
theorem f195_l82_ok {d : Nat} {x0 : Nat} {x3 : Int32} {r : Int32 × vm_M} : ∀ (n : Nat) {x4 : Int32} {x5 : Int32} {M : vm_M} {lv : vm_L}, (0, .ref (x0)) ∈ lv → (3, .int (x3)) ∈ lv → (4, .int (x4)) ∈ lv → (5, .int (x5)) ∈ lv → f195_l82 x0 x3 n x4 x5 M = some r → Ev 0 (fun _ => 0) (vm_Cl (d + 2)) vp_195 11 6 false (some (.int)) (rI r) 82 lv [] M := by
  intro n
  induction n with
  | zero =>
    intro x4 x5 M lv l0 l3 l4 l5 h
    cases h
  | succ n ih =>
    intro x4 x5 M lv l0 l3 l4 l5 h
    dsimp only [f195_l82] at h
    refine ev_iload (mm 47 rfl) l5 ?_
    refine ev_bipush (mm 48 rfl) cB_64 ?_
    rcases ite_so h with ⟨c44, h⟩ | ⟨c44, h⟩
    · refine ev_ic_t 136 (mm 49 rfl) rfl c44 ?_
      refine ev_iload (mm 72 rfl) l4 ?_
      exact ev_ireturn (mm 73 rfl) h
    · refine ev_ic_f 136 (mm 49 rfl) rfl c44 ?_
      refine ev_iload (mm 50 rfl) l5 ?_
      refine ev_iload_n (mm 51 rfl) l3 ?_
      refine ev_iconst (mm 52 rfl) cI_m1 ?_
      refine ev_ixor (mm 53 rfl) ?_
      refine ev_iand (mm 54 rfl) ?_
      rcases ite_so h with ⟨c45, h⟩ | ⟨c45, h⟩
      · refine ev_if_t 130 (mm 55 rfl) rfl c45 ?_
        refine evs_iinc (mm 70 rfl) cI_1 l5 (by decide) (fun lv46 l5 s47 => ?_)
        have l0 := s47 _ _ l0 rfl
        have l3 := s47 _ _ l3 rfl
        have l4 := s47 _ _ l4 rfl
        refine ev_goto 82 (mm 71 rfl) rfl ?_
        exact ih l0 l3 l4 l5 h
      · refine ev_if_f 130 (mm 55 rfl) rfl c45 ?_
        refine ev_iload (mm 56 rfl) l4 ?_
        refine ev_iconst (mm 57 rfl) cI_m1 ?_
        rcases ite_so h with ⟨c48, h⟩ | ⟨c48, h⟩
        · refine ev_ic_t 117 (mm 58 rfl) rfl c48 ?_
          exact f195_j117_ok ih l0 l3 l4 l5 h
        · refine ev_ic_f 117 (mm 58 rfl) rfl c48 ?_
          refine ev_iload (mm 59 rfl) l5 ?_
          obtain ⟨p59, e60, h⟩ := bind_so h
          refine ev_callS_I [.int (x5)] (mm 60 rfl) (by decide) rfl rfl (Nat.le_of_ble_eq_true rfl) (f194_ok e60 (d + 1)) ?_
          refine ev_iload (mm 61 rfl) l4 ?_
          obtain ⟨p61, e62, h⟩ := bind_so h
          refine ev_callS_I [.int (x4)] (mm 62 rfl) (by decide) rfl rfl (Nat.le_of_ble_eq_true rfl) (f194_ok e62 (d + 1)) ?_
          rcases ite_so h with ⟨c63, h⟩ | ⟨c63, h⟩
          · refine ev_ic_t 130 (mm 63 rfl) rfl c63 ?_
            refine evs_iinc (mm 70 rfl) cI_1 l5 (by decide) (fun lv64 l5 s65 => ?_)
            have l0 := s65 _ _ l0 rfl
            have l3 := s65 _ _ l3 rfl
            have l4 := s65 _ _ l4 rfl
            refine ev_goto 82 (mm 71 rfl) rfl ?_
            exact ih l0 l3 l4 l5 h
          · refine ev_ic_f 130 (mm 63 rfl) rfl c63 ?_
            exact f195_j117_ok ih l0 l3 l4 l5 h
/-- PupilCoinModel.doubt(II)I -/
def f195 (x0 : Nat) (x1 : Int32) (x2 : Int32) (M : vm_M) : Option (Int32 × vm_M) :=
  (s_ob M x0 11).bind fun _ =>
  (f116 x0 x1 M).bind fun p1 =>
  if p1.1 = 0 then
    some ((-1), p1.2)
  else
    (f115 x2 p1.2).bind fun p4 =>
    if ¬ p4.1 = 0 then
      f195_l22 x0 x1 x2
        (fun y38 M39 =>
          f195_l82 x0 y38
          
            100000 (-1) 0 M39)
        100000 0 0 p4.2
    else
      some ((-1), p4.2)
theorem f195_ok {x0 : Nat} {x1 : Int32} {x2 : Int32} {M : vm_M} {r : Int32 × vm_M} (h : f195 x0 x1 x2 M = some r) (d : Nat) : vm_Cl (d + 3) 195 [.ref (x0), .int (x1), .int (x2)] M (rI r) := by
  have key : Ev 0 (fun _ => 0) (vm_Cl (d + 2)) vp_195 11 6 false (some (.int)) (rI r) 0 (lv_args 0 [.ref (x0), .int (x1), .int (x2)]) [] M := by
    have l0 : (0, .ref (x0)) ∈ lv_args 0 [.ref (x0), .int (x1), .int (x2)] := List.Mem.head _
    have l1 : (1, .int (x1)) ∈ lv_args 0 [.ref (x0), .int (x1), .int (x2)] := List.Mem.tail _ (List.Mem.head _)
    have l2 : (2, .int (x2)) ∈ lv_args 0 [.ref (x0), .int (x1), .int (x2)] := List.Mem.tail _ (List.Mem.tail _ (List.Mem.head _))
    unfold f195 at h
    refine ev_aload_nR (mm 0 rfl) l0 ?_
    refine ev_iload_n (mm 1 rfl) l1 ?_
    obtain ⟨_, e66, h⟩ := bind_so h
    obtain ⟨p1, e2, h⟩ := bind_so h
    refine ev_callV_I [.int (x1)] (mm 2 rfl) rfl rfl (Nat.le_of_ble_eq_true rfl) (s_ob_of e66) (f116_ok e2 (d + 0)) ?_
    rcases ite_so h with ⟨c3, h⟩ | ⟨c3, h⟩
    · refine ev_if_t 15 (mm 3 rfl) rfl c3 ?_
      refine ev_iconst (mm 7 rfl) cI_m1 ?_
      exact ev_ireturn (mm 8 rfl) h
    · refine ev_if_f 15 (mm 3 rfl) rfl c3 ?_
      refine ev_iload_n (mm 4 rfl) l2 ?_
      obtain ⟨p4, e5, h⟩ := bind_so h
      refine ev_callS_I [.int (x2)] (mm 5 rfl) (by decide) rfl rfl (Nat.le_of_ble_eq_true rfl) (f115_ok e5 (d + 0)) ?_
      rcases ite_so h with ⟨c6, h⟩ | ⟨c6, h⟩
      · refine ev_if_t 17 (mm 6 rfl) rfl c6 ?_
        refine ev_iconst (mm 9 rfl) cI_0 ?_
        refine evs_istore_n (mm 10 rfl) (by decide) (fun lv7 l3 s8 => ?_)
        have l0 := s8 _ _ l0 rfl
        have l1 := s8 _ _ l1 rfl
        have l2 := s8 _ _ l2 rfl
        refine ev_iconst (mm 11 rfl) cI_0 ?_
        refine evs_istore (mm 12 rfl) (by decide) (fun lv9 l4 s10 => ?_)
        have l0 := s10 _ _ l0 rfl
        have l1 := s10 _ _ l1 rfl
        have l2 := s10 _ _ l2 rfl
        have l3 := s10 _ _ l3 rfl
        refine f195_l22_ok ?_ 100000 l0 l1 l2 l3 l4 h
        · intro y38 M39 lv l0 l3
          intro h
          refine ev_iconst (mm 43 rfl) cI_m1 ?_
          refine evs_istore (mm 44 rfl) (by decide) (fun lv40 l4 s41 => ?_)
          have l0 := s41 _ _ l0 rfl
          have l3 := s41 _ _ l3 rfl
          refine ev_iconst (mm 45 rfl) cI_0 ?_
          refine evs_istore (mm 46 rfl) (by decide) (fun lv42 l5 s43 => ?_)
          have l0 := s43 _ _ l0 rfl
          have l3 := s43 _ _ l3 rfl
          have l4 := s43 _ _ l4 rfl
          refine f195_l82_ok 100000 l0 l3 l4 l5 h
      · refine ev_if_f 17 (mm 6 rfl) rfl c6 ?_
        refine ev_iconst (mm 7 rfl) cI_m1 ?_
        exact ev_ireturn (mm 8 rfl) h
  exact ⟨by decide, Nat.le_of_ble_eq_true rfl, key.1, key.2⟩
def f196_l4 (x0 : Nat) : Nat → Int32 → Int32 → vm_M → Option (Int32 × vm_M)
  | 0 => fun _ _ _ => none
  | n + 1 => fun x1 x2 M =>
    (sg_i M x0 11 53).bind fun v5 =>
    if v5 ≤ x2 then
      some (x1, M)
    else
      (sg_r M x0 11 61).bind fun v8 =>
      (v8).bind fun q10 =>
      (sa_i M q10 2 x2).bind fun v12 =>
      (f113 v12 M).bind fun p14 =>
      f196_l4 x0 n (x1 + p14.1) (x2 + 1) p14.2
theorem f196_l4_ok {d : Nat} {x0 : Nat} {r : Int32 × vm_M} : ∀ (n : Nat) {x1 : Int32} {x2 : Int32} {M : vm_M} {lv : vm_L}, (0, .ref (x0)) ∈ lv → (1, .int (x1)) ∈ lv → (2, .int (x2)) ∈ lv → f196_l4 x0 n x1 x2 M = some r → Ev 0 (fun _ => 0) (vm_Cl (d + 1)) vp_196 11 3 false (some (.int)) (rI r) 4 lv [] M := by
  intro n
  induction n with
  | zero =>
    intro x1 x2 M lv l0 l1 l2 h
    cases h
  | succ n ih =>
    intro x1 x2 M lv l0 l1 l2 h
    dsimp only [f196_l4] at h
    refine ev_iload_n (mm 4 rfl) l2 ?_
    refine ev_aload_nR (mm 5 rfl) l0 ?_
    obtain ⟨v5, e6, h⟩ := bind_so h
    refine ev_get_i (mm 6 rfl) rfl e6 ?_
    rcases ite_so h with ⟨c7, h⟩ | ⟨c7, h⟩
    · refine ev_ic_t 30 (mm 7 rfl) rfl c7 ?_
      refine ev_iload_n (mm 18 rfl) l1 ?_
      exact ev_ireturn (mm 19 rfl) h
    · refine ev_ic_f 30 (mm 7 rfl) rfl c7 ?_
      refine ev_iload_n (mm 8 rfl) l1 ?_
      refine ev_aload_nR (mm 9 rfl) l0 ?_
      obtain ⟨v8, e9, h⟩ := bind_so h
      refine ev_get_r (mm 10 rfl) rfl e9 ?_
      refine ev_iload_n (mm 11 rfl) l2 ?_
      obtain ⟨q10, e11, h⟩ := bind_so h
      rw [e11]
      obtain ⟨v12, e13, h⟩ := bind_so h
      refine ev_zaload (mm 12 rfl) e13 ?_
      obtain ⟨p14, e15, h⟩ := bind_so h
      refine ev_callS_I [.int (v12)] (mm 13 rfl) (by decide) rfl rfl (Nat.le_of_ble_eq_true rfl) (f113_ok e15 (d + 0)) ?_
      refine ev_iadd (mm 14 rfl) ?_
      refine evs_istore_n (mm 15 rfl) (by decide) (fun lv16 l1 s17 => ?_)
      have l0 := s17 _ _ l0 rfl
      have l2 := s17 _ _ l2 rfl
      refine evs_iinc (mm 16 rfl) cI_1 l2 (by decide) (fun lv18 l2 s19 => ?_)
      have l0 := s19 _ _ l0 rfl
      have l1 := s19 _ _ l1 rfl
      refine ev_goto 4 (mm 17 rfl) rfl ?_
      exact ih l0 l1 l2 h
/-- PupilCoinModel.adopted()I -/
def f196 (x0 : Nat) (M : vm_M) : Option (Int32 × vm_M) :=
  f196_l4 x0
  
    100000 0 0 M
theorem f196_ok {x0 : Nat} {M : vm_M} {r : Int32 × vm_M} (h : f196 x0 M = some r) (d : Nat) : vm_Cl (d + 2) 196 [.ref (x0)] M (rI r) := by
  have key : Ev 0 (fun _ => 0) (vm_Cl (d + 1)) vp_196 11 3 false (some (.int)) (rI r) 0 (lv_args 0 [.ref (x0)]) [] M := by
    have l0 : (0, .ref (x0)) ∈ lv_args 0 [.ref (x0)] := List.Mem.head _
    unfold f196 at h
    refine ev_iconst (mm 0 rfl) cI_0 ?_
    refine evs_istore_n (mm 1 rfl) (by decide) (fun lv1 l1 s2 => ?_)
    have l0 := s2 _ _ l0 rfl
    refine ev_iconst (mm 2 rfl) cI_0 ?_
    refine evs_istore_n (mm 3 rfl) (by decide) (fun lv3 l2 s4 => ?_)
    have l0 := s4 _ _ l0 rfl
    have l1 := s4 _ _ l1 rfl
    refine f196_l4_ok 100000 l0 l1 l2 h
  exact ⟨by decide, Nat.le_of_ble_eq_true rfl, key.1, key.2⟩
def f197_l68 (x0 : Nat) : Nat → Int32 → Int32 → vm_M → Option (Int32 × vm_M)
  | 0 => fun _ _ _ => none
  | n + 1 => fun x2 x3 M =>
    (sg_i M x0 11 1).bind fun v12 =>
    if v12 ≤ x3 then
      some (x2, M)
    else
      (s_ob M x0 11).bind fun _ =>
      (f118 x0 M).bind fun p15 =>
      (s_ob p15.2 x0 11).bind fun _ =>
      (f122 x0 x3 p15.1 p15.2).bind fun p17 =>
      (f113 p17.1 p17.2).bind fun p19 =>
      f197_l68 x0 n (x2 + p19.1) (x3 + 1) p19.2
theorem f197_l68_ok {d : Nat} {x0 : Nat} {r : Int32 × vm_M} : ∀ (n : Nat) {x2 : Int32} {x3 : Int32} {M : vm_M} {lv : vm_L}, (0, .ref (x0)) ∈ lv → (2, .int (x2)) ∈ lv → (3, .int (x3)) ∈ lv → f197_l68 x0 n x2 x3 M = some r → Ev 0 (fun _ => 0) (vm_Cl (d + 2)) vp_197 11 4 false (some (.int)) (rI r) 68 lv [] M := by
  intro n
  induction n with
  | zero =>
    intro x2 x3 M lv l0 l2 l3 h
    cases h
  | succ n ih =>
    intro x2 x3 M lv l0 l2 l3 h
    dsimp only [f197_l68] at h
    refine ev_iload_n (mm 12 rfl) l3 ?_
    refine ev_aload_nR (mm 13 rfl) l0 ?_
    obtain ⟨v12, e13, h⟩ := bind_so h
    refine ev_get_i (mm 14 rfl) rfl e13 ?_
    rcases ite_so h with ⟨c14, h⟩ | ⟨c14, h⟩
    · refine ev_ic_t 97 (mm 15 rfl) rfl c14 ?_
      refine ev_iload_n (mm 27 rfl) l2 ?_
      exact ev_ireturn (mm 28 rfl) h
    · refine ev_ic_f 97 (mm 15 rfl) rfl c14 ?_
      refine ev_iload_n (mm 16 rfl) l2 ?_
      refine ev_aload_nR (mm 17 rfl) l0 ?_
      refine ev_iload_n (mm 18 rfl) l3 ?_
      refine ev_aload_nR (mm 19 rfl) l0 ?_
      obtain ⟨_, e26, h⟩ := bind_so h
      obtain ⟨p15, e16, h⟩ := bind_so h
      refine ev_callV_I [] (mm 20 rfl) rfl rfl (Nat.le_of_ble_eq_true rfl) (s_ob_of e26) (f118_ok e16 (d + 1)) ?_
      obtain ⟨_, e25, h⟩ := bind_so h
      obtain ⟨p17, e18, h⟩ := bind_so h
      refine ev_callV_I [.int (x3), .int (p15.1)] (mm 21 rfl) rfl rfl (Nat.le_of_ble_eq_true rfl) (s_ob_of e25) (f122_ok e18 (d + 1)) ?_
      obtain ⟨p19, e20, h⟩ := bind_so h
      refine ev_callS_I [.int (p17.1)] (mm 22 rfl) (by decide) rfl rfl (Nat.le_of_ble_eq_true rfl) (f113_ok e20 (d + 1)) ?_
      refine ev_iadd (mm 23 rfl) ?_
      refine evs_istore_n (mm 24 rfl) (by decide) (fun lv21 l2 s22 => ?_)
      have l0 := s22 _ _ l0 rfl
      have l3 := s22 _ _ l3 rfl
      refine evs_iinc (mm 25 rfl) cI_1 l3 (by decide) (fun lv23 l3 s24 => ?_)
      have l0 := s24 _ _ l0 rfl
      have l2 := s24 _ _ l2 rfl
      refine ev_goto 68 (mm 26 rfl) rfl ?_
      exact ih l0 l2 l3 h
/-- PupilCoinModel.count(I)I -/
def f197 (x0 : Nat) (x1 : Int32) (M : vm_M) : Option (Int32 × vm_M) :=
  if x1 = 0 then
    (sg_i M x0 11 0).bind fun v4 =>
    some (v4, M)
  else if x1 = 1 then
    (sg_i M x0 11 1).bind fun v7 =>
    some (v7, M)
  else if x1 = 2 then
    f197_l68 x0
    
      100000 0 0 M
  else if x1 = 3 then
    (sg_i M x0 11 2).bind fun v28 =>
    some (v28, M)
  else if x1 = 4 then
    (sg_i M x0 11 3).bind fun v31 =>
    some (v31, M)
  else if x1 = 5 then
    (sg_i M x0 11 18).bind fun v34 =>
    some (v34, M)
  else if x1 = 6 then
    (sg_i M x0 11 53).bind fun v37 =>
    some (v37, M)
  else if x1 = 7 then
    (s_ob M x0 11).bind fun _ =>
    (f196 x0 M).bind fun p40 =>
    some (p40.1, p40.2)
  else if x1 = 8 then
    (sg_i M x0 11 19).bind fun v44 =>
    some (v44, M)
  else if x1 = 9 then
    (sg_i M x0 11 26).bind fun v47 =>
    (f113 v47 M).bind fun p49 =>
    some (p49.1, p49.2)
  else 
    some ((-1), M)
theorem f197_ok {x0 : Nat} {x1 : Int32} {M : vm_M} {r : Int32 × vm_M} (h : f197 x0 x1 M = some r) (d : Nat) : vm_Cl (d + 3) 197 [.ref (x0), .int (x1)] M (rI r) := by
  have key : Ev 0 (fun _ => 0) (vm_Cl (d + 2)) vp_197 11 4 false (some (.int)) (rI r) 0 (lv_args 0 [.ref (x0), .int (x1)]) [] M := by
    have l0 : (0, .ref (x0)) ∈ lv_args 0 [.ref (x0), .int (x1)] := List.Mem.head _
    have l1 : (1, .int (x1)) ∈ lv_args 0 [.ref (x0), .int (x1)] := List.Mem.tail _ (List.Mem.head _)
    unfold f197 at h
    refine ev_iconst (mm 0 rfl) cI_0 ?_
    refine evs_istore_n (mm 1 rfl) (by decide) (fun lv1 l2 s2 => ?_)
    have l0 := s2 _ _ l0 rfl
    have l1 := s2 _ _ l1 rfl
    refine ev_iload_n (mm 2 rfl) l1 ?_
    rcases ite_so h with ⟨c3, h⟩ | ⟨c3, h⟩
    · refine ev_tsw (off := 53) 56 0 (mm 3 rfl) c3 rfl rfl ?_
      refine ev_aload_nR (mm 4 rfl) l0 ?_
      obtain ⟨v4, e5, h⟩ := bind_so h
      refine ev_get_i (mm 5 rfl) rfl e5 ?_
      exact ev_ireturn (mm 6 rfl) h
    rcases ite_so h with ⟨c6, h⟩ | ⟨c6, h⟩
    · refine ev_tsw (off := 58) 61 1 (mm 3 rfl) c6 rfl rfl ?_
      refine ev_aload_nR (mm 7 rfl) l0 ?_
      obtain ⟨v7, e8, h⟩ := bind_so h
      refine ev_get_i (mm 8 rfl) rfl e8 ?_
      exact ev_ireturn (mm 9 rfl) h
    rcases ite_so h with ⟨c9, h⟩ | ⟨c9, h⟩
    · refine ev_tsw (off := 63) 66 2 (mm 3 rfl) c9 rfl rfl ?_
      refine ev_iconst (mm 10 rfl) cI_0 ?_
      refine evs_istore_n (mm 11 rfl) (by decide) (fun lv10 l3 s11 => ?_)
      have l0 := s11 _ _ l0 rfl
      have l2 := s11 _ _ l2 rfl
      refine f197_l68_ok 100000 l0 l2 l3 h
    rcases ite_so h with ⟨c27, h⟩ | ⟨c27, h⟩
    · refine ev_tsw (off := 96) 99 3 (mm 3 rfl) c27 rfl rfl ?_
      refine ev_aload_nR (mm 29 rfl) l0 ?_
      obtain ⟨v28, e29, h⟩ := bind_so h
      refine ev_get_i (mm 30 rfl) rfl e29 ?_
      exact ev_ireturn (mm 31 rfl) h
    rcases ite_so h with ⟨c30, h⟩ | ⟨c30, h⟩
    · refine ev_tsw (off := 101) 104 4 (mm 3 rfl) c30 rfl rfl ?_
      refine ev_aload_nR (mm 32 rfl) l0 ?_
      obtain ⟨v31, e32, h⟩ := bind_so h
      refine ev_get_i (mm 33 rfl) rfl e32 ?_
      exact ev_ireturn (mm 34 rfl) h
    rcases ite_so h with ⟨c33, h⟩ | ⟨c33, h⟩
    · refine ev_tsw (off := 106) 109 5 (mm 3 rfl) c33 rfl rfl ?_
      refine ev_aload_nR (mm 35 rfl) l0 ?_
      obtain ⟨v34, e35, h⟩ := bind_so h
      refine ev_get_i (mm 36 rfl) rfl e35 ?_
      exact ev_ireturn (mm 37 rfl) h
    rcases ite_so h with ⟨c36, h⟩ | ⟨c36, h⟩
    · refine ev_tsw (off := 111) 114 6 (mm 3 rfl) c36 rfl rfl ?_
      refine ev_aload_nR (mm 38 rfl) l0 ?_
      obtain ⟨v37, e38, h⟩ := bind_so h
      refine ev_get_i (mm 39 rfl) rfl e38 ?_
      exact ev_ireturn (mm 40 rfl) h
    rcases ite_so h with ⟨c39, h⟩ | ⟨c39, h⟩
    · refine ev_tsw (off := 116) 119 7 (mm 3 rfl) c39 rfl rfl ?_
      refine ev_aload_nR (mm 41 rfl) l0 ?_
      obtain ⟨_, e42, h⟩ := bind_so h
      obtain ⟨p40, e41, h⟩ := bind_so h
      refine ev_callV_I [] (mm 42 rfl) rfl rfl (Nat.le_of_ble_eq_true rfl) (s_ob_of e42) (f196_ok e41 (d + 0)) ?_
      exact ev_ireturn (mm 43 rfl) h
    rcases ite_so h with ⟨c43, h⟩ | ⟨c43, h⟩
    · refine ev_tsw (off := 121) 124 8 (mm 3 rfl) c43 rfl rfl ?_
      refine ev_aload_nR (mm 44 rfl) l0 ?_
      obtain ⟨v44, e45, h⟩ := bind_so h
      refine ev_get_i (mm 45 rfl) rfl e45 ?_
      exact ev_ireturn (mm 46 rfl) h
    rcases ite_so h with ⟨c46, h⟩ | ⟨c46, h⟩
    · refine ev_tsw (off := 126) 129 9 (mm 3 rfl) c46 rfl rfl ?_
      refine ev_aload_nR (mm 47 rfl) l0 ?_
      obtain ⟨v47, e48, h⟩ := bind_so h
      refine ev_get_i (mm 48 rfl) rfl e48 ?_
      obtain ⟨p49, e50, h⟩ := bind_so h
      refine ev_callS_I [.int (v47)] (mm 49 rfl) (by decide) rfl rfl (Nat.le_of_ble_eq_true rfl) (f113_ok e50 (d + 1)) ?_
      exact ev_ireturn (mm 50 rfl) h
    refine ev_tswD 137 (mm 3 rfl) rfl (tsw_out [0, 1, 2, 3, 4, 5, 6, 7, 8, 9] rfl rfl (by simp [c3, c6, c9, c27, c30, c33, c36, c39, c43, c46])) ?_
    refine ev_iconst (mm 51 rfl) cI_m1 ?_
    exact ev_ireturn (mm 52 rfl) h
  exact ⟨by decide, Nat.le_of_ble_eq_true rfl, key.1, key.2⟩
def f202_l18 (L : Nat) (xs : Nat → Int32) (x0 : Unit) (x1 : Nat) (x2 : Nat) : Nat → Int32 → vm_M → Option (Int32 × vm_M)
  | 0 => fun _ _ => none
  | n + 1 => fun x3 M =>
    if ((Int32.ofNat L) - 6) < x3 then
      s_rb 1 M
    else
      (s_sc L xs x3).bind fun v16 =>
      if (v16 &&& 31) = 0 then
        (s_sc L xs (x3 + 1)).bind fun v19 =>
        (s_ob M x1 10).bind fun _ =>
        (f74 x1 v19 M).bind fun p21 =>
        (s_sc L xs (x3 + 1)).bind fun v23 =>
        (s_ob p21.2 x2 11).bind fun _ =>
        (f117 x2 v23 p21.2).bind fun p25 =>
        if p21.1 = p25.1 then
          f202_l18 L xs x0 x1 x2 n (x3 + 6) p25.2
        else
          s_rb 0 p25.2
      else if (v16 &&& 31) = 1 then
        (s_sc L xs (x3 + 1)).bind fun v33 =>
        (s_sc L xs (x3 + 2)).bind fun v35 =>
        (s_sc L xs (x3 + 3)).bind fun v37 =>
        (s_ob M x1 10).bind fun _ =>
        (f75 x1 v33 v35 v37 M).bind fun p39 =>
        (s_sc L xs (x3 + 1)).bind fun v41 =>
        (s_sc L xs (x3 + 2)).bind fun v43 =>
        (s_sc L xs (x3 + 3)).bind fun v45 =>
        (s_ob p39.2 x2 11).bind fun _ =>
        (f119 x2 v41 v43 v45 p39.2).bind fun p47 =>
        if p39.1 = p47.1 then
          f202_l18 L xs x0 x1 x2 n (x3 + 6) p47.2
        else
          s_rb 0 p47.2
      else if (v16 &&& 31) = 2 then
        (s_sc L xs (x3 + 1)).bind fun v55 =>
        (s_sc L xs (x3 + 2)).bind fun v57 =>
        (s_ob M x1 10).bind fun _ =>
        (f76 x1 v55 v57 M).bind fun p59 =>
        (s_sc L xs (x3 + 1)).bind fun v61 =>
        (s_sc L xs (x3 + 2)).bind fun v63 =>
        (s_ob p59.2 x2 11).bind fun _ =>
        (f120 x2 v61 v63 p59.2).bind fun p65 =>
        if p59.1 = p65.1 then
          f202_l18 L xs x0 x1 x2 n (x3 + 6) p65.2
        else
          s_rb 0 p65.2
      else if (v16 &&& 31) = 3 then
        (s_sc L xs (x3 + 1)).bind fun v73 =>
        (s_sc L xs (x3 + 2)).bind fun v75 =>
        (s_sc L xs (x3 + 3)).bind fun v77 =>
        (s_ob M x1 10).bind fun _ =>
        (f77 x1 v73 v75 v77 M).bind fun p79 =>
        (s_sc L xs (x3 + 1)).bind fun v81 =>
        (s_sc L xs (x3 + 2)).bind fun v83 =>
        (s_sc L xs (x3 + 3)).bind fun v85 =>
        (s_ob p79.2 x2 11).bind fun _ =>
        (f121 x2 v81 v83 v85 p79.2).bind fun p87 =>
        if p79.1 = p87.1 then
          f202_l18 L xs x0 x1 x2 n (x3 + 6) p87.2
        else
          s_rb 0 p87.2
      else if (v16 &&& 31) = 4 then
        (s_sc L xs (x3 + 1)).bind fun v95 =>
        (s_sc L xs (x3 + 2)).bind fun v97 =>
        (s_ob M x1 10).bind fun _ =>
        (f78 x1 v95 v97 M).bind fun p99 =>
        (s_sc L xs (x3 + 1)).bind fun v101 =>
        (s_sc L xs (x3 + 2)).bind fun v103 =>
        (s_ob p99.2 x2 11).bind fun _ =>
        (f124 x2 v101 v103 p99.2).bind fun p105 =>
        if p99.1 = p105.1 then
          f202_l18 L xs x0 x1 x2 n (x3 + 6) p105.2
        else
          s_rb 0 p105.2
      else if (v16 &&& 31) = 5 then
        (s_sc L xs (x3 + 1)).bind fun v113 =>
        (s_sc L xs (x3 + 2)).bind fun v115 =>
        (s_sc L xs (x3 + 3)).bind fun v117 =>
        (s_sc L xs (x3 + 4)).bind fun v119 =>
        (s_ob M x1 10).bind fun _ =>
        (f79 x1 v113 v115 v117 v119 M).bind fun p121 =>
        (s_sc L xs (x3 + 1)).bind fun v123 =>
        (s_sc L xs (x3 + 2)).bind fun v125 =>
        (s_sc L xs (x3 + 3)).bind fun v127 =>
        (s_sc L xs (x3 + 4)).bind fun v129 =>
        (s_ob p121.2 x2 11).bind fun _ =>
        (f125 x2 v123 v125 v127 v129 p121.2).bind fun p131 =>
        if p121.1 = p131.1 then
          f202_l18 L xs x0 x1 x2 n (x3 + 6) p131.2
        else
          s_rb 0 p131.2
      else if (v16 &&& 31) = 6 then
        (s_sc L xs (x3 + 1)).bind fun v139 =>
        (s_sc L xs (x3 + 2)).bind fun v141 =>
        (s_sc L xs (x3 + 3)).bind fun v143 =>
        (s_sc L xs (x3 + 4)).bind fun v145 =>
        (s_ob M x1 10).bind fun _ =>
        (f80 x1 v139 v141 v143 v145 M).bind fun p147 =>
        (s_sc L xs (x3 + 1)).bind fun v149 =>
        (s_sc L xs (x3 + 2)).bind fun v151 =>
        (s_sc L xs (x3 + 3)).bind fun v153 =>
        (s_sc L xs (x3 + 4)).bind fun v155 =>
        (s_ob p147.2 x2 11).bind fun _ =>
        (f127 x2 v149 v151 v153 v155 p147.2).bind fun p157 =>
        if p147.1 = p157.1 then
          f202_l18 L xs x0 x1 x2 n (x3 + 6) p157.2
        else
          s_rb 0 p157.2
      else if (v16 &&& 31) = 7 then
        (s_sc L xs (x3 + 1)).bind fun v165 =>
        (s_sc L xs (x3 + 2)).bind fun v167 =>
        (s_sc L xs (x3 + 3)).bind fun v169 =>
        (s_ob M x1 10).bind fun _ =>
        (f81 x1 v165 v167 v169 M).bind fun p171 =>
        (s_sc L xs (x3 + 1)).bind fun v173 =>
        (s_sc L xs (x3 + 2)).bind fun v175 =>
        (s_sc L xs (x3 + 3)).bind fun v177 =>
        (s_ob p171.2 x2 11).bind fun _ =>
        (f129 x2 v173 v175 v177 p171.2).bind fun p179 =>
        if p171.1 = p179.1 then
          f202_l18 L xs x0 x1 x2 n (x3 + 6) p179.2
        else
          s_rb 0 p179.2
      else if (v16 &&& 31) = 8 then
        (s_sc L xs (x3 + 1)).bind fun v187 =>
        (s_sc L xs (x3 + 2)).bind fun v189 =>
        (s_ob M x1 10).bind fun _ =>
        (f82 x1 v187 v189 M).bind fun p191 =>
        (s_sc L xs (x3 + 1)).bind fun v193 =>
        (s_sc L xs (x3 + 2)).bind fun v195 =>
        (s_ob p191.2 x2 11).bind fun _ =>
        (f130 x2 v193 v195 p191.2).bind fun p197 =>
        if p191.1 = p197.1 then
          f202_l18 L xs x0 x1 x2 n (x3 + 6) p197.2
        else
          s_rb 0 p197.2
      else if (v16 &&& 31) = 9 then
        (s_sc L xs (x3 + 1)).bind fun v205 =>
        (s_sc L xs (x3 + 2)).bind fun v207 =>
        (s_sc L xs (x3 + 3)).bind fun v209 =>
        (s_sc L xs (x3 + 4)).bind fun v211 =>
        (s_sc L xs (x3 + 5)).bind fun v213 =>
        (s_ob M x1 10).bind fun _ =>
        (f83 x1 v205 v207 v209 v211 v213 M).bind fun p215 =>
        (s_sc L xs (x3 + 1)).bind fun v217 =>
        (s_sc L xs (x3 + 2)).bind fun v219 =>
        (s_sc L xs (x3 + 3)).bind fun v221 =>
        (s_sc L xs (x3 + 4)).bind fun v223 =>
        (s_sc L xs (x3 + 5)).bind fun v225 =>
        (s_ob p215.2 x2 11).bind fun _ =>
        (f134 x2 v217 v219 v221 v223 v225 p215.2).bind fun p227 =>
        if p215.1 = p227.1 then
          f202_l18 L xs x0 x1 x2 n (x3 + 6) p227.2
        else
          s_rb 0 p227.2
      else if (v16 &&& 31) = 10 then
        (s_sc L xs (x3 + 1)).bind fun v235 =>
        (s_sc L xs (x3 + 2)).bind fun v237 =>
        (s_ob M x1 10).bind fun _ =>
        (f84 x1 v235 v237 M).bind fun p239 =>
        (s_sc L xs (x3 + 1)).bind fun v241 =>
        (s_sc L xs (x3 + 2)).bind fun v243 =>
        (s_ob p239.2 x2 11).bind fun _ =>
        (f157 x2 v241 v243 p239.2).bind fun p245 =>
        if p239.1 = p245.1 then
          f202_l18 L xs x0 x1 x2 n (x3 + 6) p245.2
        else
          s_rb 0 p245.2
      else if (v16 &&& 31) = 11 then
        (s_sc L xs (x3 + 1)).bind fun v253 =>
        (s_ob M x1 10).bind fun _ =>
        (f85 x1 v253 M).bind fun p255 =>
        (s_sc L xs (x3 + 1)).bind fun v257 =>
        (s_ob p255.2 x2 11).bind fun _ =>
        (f158 x2 v257 p255.2).bind fun p259 =>
        if p255.1 = p259.1 then
          f202_l18 L xs x0 x1 x2 n (x3 + 6) p259.2
        else
          s_rb 0 p259.2
      else if (v16 &&& 31) = 12 then
        (s_ob M x1 10).bind fun _ =>
        (f86 x1 M).bind fun p267 =>
        (s_ob p267.2 x2 11).bind fun _ =>
        (f159 x2 p267.2).bind fun p269 =>
        if p267.1 = p269.1 then
          f202_l18 L xs x0 x1 x2 n (x3 + 6) p269.2
        else
          s_rb 0 p269.2
      else if (v16 &&& 31) = 13 then
        (s_sc L xs (x3 + 1)).bind fun v277 =>
        (s_sc L xs (x3 + 2)).bind fun v279 =>
        (s_sc L xs (x3 + 3)).bind fun v281 =>
        (s_ob M x1 10).bind fun _ =>
        (f87 x1 v277 v279 v281 M).bind fun p283 =>
        (s_sc L xs (x3 + 1)).bind fun v285 =>
        (s_sc L xs (x3 + 2)).bind fun v287 =>
        (s_sc L xs (x3 + 3)).bind fun v289 =>
        (s_ob p283.2 x2 11).bind fun _ =>
        (f164 x2 v285 v287 v289 p283.2).bind fun p291 =>
        if p283.1 = p291.1 then
          f202_l18 L xs x0 x1 x2 n (x3 + 6) p291.2
        else
          s_rb 0 p291.2
      else if (v16 &&& 31) = 14 then
        (s_sc L xs (x3 + 1)).bind fun v299 =>
        (s_sc L xs (x3 + 2)).bind fun v301 =>
        (s_sc L xs (x3 + 3)).bind fun v303 =>
        (s_ob M x1 10).bind fun _ =>
        (f88 x1 v299 v301 v303 M).bind fun p305 =>
        (s_sc L xs (x3 + 1)).bind fun v307 =>
        (s_sc L xs (x3 + 2)).bind fun v309 =>
        (s_sc L xs (x3 + 3)).bind fun v311 =>
        (s_ob p305.2 x2 11).bind fun _ =>
        (f178 x2 v307 v309 v311 p305.2).bind fun p313 =>
        if (lg_cmp p305.1 p313.1) = 0 then
          f202_l18 L xs x0 x1 x2 n (x3 + 6) p313.2
        else
          s_rb 0 p313.2
      else if (v16 &&& 31) = 15 then
        (s_sc L xs (x3 + 1)).bind fun v321 =>
        (s_sc L xs (x3 + 2)).bind fun v323 =>
        (s_sc L xs (x3 + 3)).bind fun v325 =>
        (s_ob M x1 10).bind fun _ =>
        (f89 x1 v321 v323 v325 M).bind fun p327 =>
        (s_sc L xs (x3 + 1)).bind fun v329 =>
        (s_sc L xs (x3 + 2)).bind fun v331 =>
        (s_sc L xs (x3 + 3)).bind fun v333 =>
        (s_ob p327.2 x2 11).bind fun _ =>
        (f183 x2 v329 v331 v333 p327.2).bind fun p335 =>
        if (lg_cmp p327.1 p335.1) = 0 then
          f202_l18 L xs x0 x1 x2 n (x3 + 6) p335.2
        else
          s_rb 0 p335.2
      else if (v16 &&& 31) = 16 then
        (s_sc L xs (x3 + 1)).bind fun v343 =>
        (s_sc L xs (x3 + 2)).bind fun v345 =>
        (s_ob M x1 10).bind fun _ =>
        (f90 x1 v343 v345 M).bind fun p347 =>
        (s_sc L xs (x3 + 1)).bind fun v349 =>
        (s_sc L xs (x3 + 2)).bind fun v351 =>
        (s_ob p347.2 x2 11).bind fun _ =>
        (f182 x2 v349 v351 p347.2).bind fun p353 =>
        if (lg_cmp p347.1 p353.1) = 0 then
          f202_l18 L xs x0 x1 x2 n (x3 + 6) p353.2
        else
          s_rb 0 p353.2
      else if (v16 &&& 31) = 17 then
        (s_sc L xs (x3 + 1)).bind fun v361 =>
        (s_sc L xs (x3 + 2)).bind fun v363 =>
        (s_ob M x1 10).bind fun _ =>
        (f91 x1 v361 v363 M).bind fun p365 =>
        (s_sc L xs (x3 + 1)).bind fun v367 =>
        (s_sc L xs (x3 + 2)).bind fun v369 =>
        (s_ob p365.2 x2 11).bind fun _ =>
        (f179 x2 v367 v369 p365.2).bind fun p371 =>
        if (lg_cmp p365.1 p371.1) = 0 then
          f202_l18 L xs x0 x1 x2 n (x3 + 6) p371.2
        else
          s_rb 0 p371.2
      else if (v16 &&& 31) = 18 then
        (s_sc L xs (x3 + 1)).bind fun v379 =>
        (s_sc L xs (x3 + 2)).bind fun v381 =>
        (s_sc L xs (x3 + 3)).bind fun v383 =>
        (s_sc L xs (x3 + 4)).bind fun v385 =>
        (s_sc L xs (x3 + 5)).bind fun v387 =>
        (s_ob M x1 10).bind fun _ =>
        (f92 x1 v379 v381 v383 v385 v387 M).bind fun p389 =>
        (s_sc L xs (x3 + 1)).bind fun v391 =>
        (s_sc L xs (x3 + 2)).bind fun v393 =>
        (s_sc L xs (x3 + 3)).bind fun v395 =>
        (s_sc L xs (x3 + 4)).bind fun v397 =>
        (s_sc L xs (x3 + 5)).bind fun v399 =>
        (s_ob p389.2 x2 11).bind fun _ =>
        (f184 x2 v391 v393 v395 v397 v399 p389.2).bind fun p401 =>
        if p389.1 = p401.1 then
          f202_l18 L xs x0 x1 x2 n (x3 + 6) p401.2
        else
          s_rb 0 p401.2
      else if (v16 &&& 31) = 19 then
        (s_sc L xs (x3 + 1)).bind fun v409 =>
        (s_sc L xs (x3 + 2)).bind fun v411 =>
        (s_ob M x1 10).bind fun _ =>
        (f93 x1 v409 v411 M).bind fun p413 =>
        (s_sc L xs (x3 + 1)).bind fun v415 =>
        (s_sc L xs (x3 + 2)).bind fun v417 =>
        (s_ob p413.2 x2 11).bind fun _ =>
        (f185 x2 v415 v417 p413.2).bind fun p419 =>
        if p413.1 = p419.1 then
          f202_l18 L xs x0 x1 x2 n (x3 + 6) p419.2
        else
          s_rb 0 p419.2
      else if (v16 &&& 31) = 20 then
        (s_sc L xs (x3 + 1)).bind fun v427 =>
        (s_ob M x1 10).bind fun _ =>
        (f94 x1 v427 M).bind fun p429 =>
        (s_sc L xs (x3 + 1)).bind fun v431 =>
        (s_ob p429.2 x2 11).bind fun _ =>
        (f186 x2 v431 p429.2).bind fun p433 =>
        if p429.1 = p433.1 then
          f202_l18 L xs x0 x1 x2 n (x3 + 6) p433.2
        else
          s_rb 0 p433.2
      else if (v16 &&& 31) = 21 then
        (s_sc L xs (x3 + 1)).bind fun v441 =>
        (s_sc L xs (x3 + 2)).bind fun v443 =>
        (s_ob M x1 10).bind fun _ =>
        (f95 x1 v441 v443 M).bind fun p445 =>
        (s_sc L xs (x3 + 1)).bind fun v447 =>
        (s_sc L xs (x3 + 2)).bind fun v449 =>
        (s_ob p445.2 x2 11).bind fun _ =>
        (f188 x2 v447 v449 p445.2).bind fun p451 =>
        if (lg_cmp p445.1 p451.1) = 0 then
          f202_l18 L xs x0 x1 x2 n (x3 + 6) p451.2
        else
          s_rb 0 p451.2
      else if (v16 &&& 31) = 22 then
        (s_sc L xs (x3 + 1)).bind fun v459 =>
        (s_ob M x1 10).bind fun _ =>
        (f96 x1 v459 M).bind fun p461 =>
        (s_sc L xs (x3 + 1)).bind fun v463 =>
        (s_ob p461.2 x2 11).bind fun _ =>
        (f189 x2 v463 p461.2).bind fun p465 =>
        if p461.1 = p465.1 then
          f202_l18 L xs x0 x1 x2 n (x3 + 6) p465.2
        else
          s_rb 0 p465.2
      else if (v16 &&& 31) = 23 then
        (s_sc L xs (x3 + 1)).bind fun v473 =>
        (s_sc L xs (x3 + 2)).bind fun v475 =>
        (s_sc L xs (x3 + 3)).bind fun v477 =>
        (s_ob M x1 10).bind fun _ =>
        (f97 x1 v473 v475 v477 M).bind fun p479 =>
        (s_sc L xs (x3 + 1)).bind fun v481 =>
        (s_sc L xs (x3 + 2)).bind fun v483 =>
        (s_sc L xs (x3 + 3)).bind fun v485 =>
        (s_ob p479.2 x2 11).bind fun _ =>
        (f190 x2 v481 v483 v485 p479.2).bind fun p487 =>
        if (lg_cmp p479.1 p487.1) = 0 then
          f202_l18 L xs x0 x1 x2 n (x3 + 6) p487.2
        else
          s_rb 0 p487.2
      else if (v16 &&& 31) = 24 then
        (s_sc L xs (x3 + 1)).bind fun v495 =>
        (s_sc L xs (x3 + 2)).bind fun v497 =>
        (s_sc L xs (x3 + 3)).bind fun v499 =>
        (s_sc L xs (x3 + 4)).bind fun v501 =>
        (s_sc L xs (x3 + 5)).bind fun v503 =>
        (s_ob M x1 10).bind fun _ =>
        (f98 x1 v495 v497 v499 v501 v503 M).bind fun p505 =>
        (s_sc L xs (x3 + 1)).bind fun v507 =>
        (s_sc L xs (x3 + 2)).bind fun v509 =>
        (s_sc L xs (x3 + 3)).bind fun v511 =>
        (s_sc L xs (x3 + 4)).bind fun v513 =>
        (s_sc L xs (x3 + 5)).bind fun v515 =>
        (s_ob p505.2 x2 11).bind fun _ =>
        (f191 x2 v507 v509 v511 v513 v515 p505.2).bind fun p517 =>
        if (lg_cmp p505.1 p517.1) = 0 then
          f202_l18 L xs x0 x1 x2 n (x3 + 6) p517.2
        else
          s_rb 0 p517.2
      else if (v16 &&& 31) = 25 then
        (s_sc L xs (x3 + 1)).bind fun v525 =>
        (s_sc L xs (x3 + 2)).bind fun v527 =>
        (s_sc L xs (x3 + 3)).bind fun v529 =>
        (s_sc L xs (x3 + 4)).bind fun v531 =>
        (s_ob M x1 10).bind fun _ =>
        (f99 x1 v525 v527 v529 v531 M).bind fun p533 =>
        (s_sc L xs (x3 + 1)).bind fun v535 =>
        (s_sc L xs (x3 + 2)).bind fun v537 =>
        (s_sc L xs (x3 + 3)).bind fun v539 =>
        (s_sc L xs (x3 + 4)).bind fun v541 =>
        (s_ob p533.2 x2 11).bind fun _ =>
        (f192 x2 v535 v537 v539 v541 p533.2).bind fun p543 =>
        if p533.1 = p543.1 then
          f202_l18 L xs x0 x1 x2 n (x3 + 6) p543.2
        else
          s_rb 0 p543.2
      else if (v16 &&& 31) = 26 then
        (s_sc L xs (x3 + 1)).bind fun v551 =>
        (s_sc L xs (x3 + 2)).bind fun v553 =>
        (s_ob M x1 10).bind fun _ =>
        (f100 x1 v551 v553 M).bind fun p555 =>
        (s_sc L xs (x3 + 1)).bind fun v557 =>
        (s_sc L xs (x3 + 2)).bind fun v559 =>
        (s_ob p555.2 x2 11).bind fun _ =>
        (f195 x2 v557 v559 p555.2).bind fun p561 =>
        if p555.1 = p561.1 then
          f202_l18 L xs x0 x1 x2 n (x3 + 6) p561.2
        else
          s_rb 0 p561.2
      else if (v16 &&& 31) = 27 then
        (s_sc L xs (x3 + 1)).bind fun v569 =>
        (s_ob M x1 10).bind fun _ =>
        (f101 x1 v569 M).bind fun p571 =>
        (s_sc L xs (x3 + 1)).bind fun v573 =>
        (s_ob p571.2 x2 11).bind fun _ =>
        (f197 x2 v573 p571.2).bind fun p575 =>
        if p571.1 = p575.1 then
          f202_l18 L xs x0 x1 x2 n (x3 + 6) p575.2
        else
          s_rb 0 p575.2
      else 
        f202_l18 L xs x0 x1 x2 n (x3 + 6) M
theorem f202_l18_ok {L : Nat} {xs : Nat → Int32} {d : Nat} {x0 : Unit} {x1 : Nat} {x2 : Nat} {r : Int32 × vm_M} : ∀ (n : Nat) {x3 : Int32} {M : vm_M} {lv : vm_L}, (0, .ref vm_scr) ∈ lv → (1, .ref (x1)) ∈ lv → (2, .ref (x2)) ∈ lv → (3, .int (x3)) ∈ lv → f202_l18 L xs x0 x1 x2 n x3 M = some r → Ev L xs (vm_Cl (d + 129)) vp_202 12 4 false (some (.boolean)) (rI r) 18 lv [] M := by
  intro n
  induction n with
  | zero =>
    intro x3 M lv l0 l1 l2 l3 h
    cases h
  | succ n ih =>
    intro x3 M lv l0 l1 l2 l3 h
    dsimp only [f202_l18] at h
    refine ev_iload_n (mm 10 rfl) l3 ?_
    refine ev_aload_nX (mm 11 rfl) l0 ?_
    refine ev_xlen rfl (mm 12 rfl) ?_
    refine ev_bipush (mm 13 rfl) cB_6 ?_
    refine ev_isub (mm 14 rfl) ?_
    rcases ite_so h with ⟨c15, h⟩ | ⟨c15, h⟩
    · refine ev_ic_t 1247 (mm 15 rfl) rfl c15 ?_
      refine ev_iconst (mm 937 rfl) cI_1 ?_
      exact ev_zreturn (mm 938 rfl) h
    · refine ev_ic_f 1247 (mm 15 rfl) rfl c15 ?_
      refine ev_aload_nX (mm 16 rfl) l0 ?_
      refine ev_iload_n (mm 17 rfl) l3 ?_
      obtain ⟨v16, e17, h⟩ := bind_so h
      refine ev_xload rfl (mm 18 rfl) e17 ?_
      refine ev_bipush (mm 19 rfl) cB_31 ?_
      refine ev_iand (mm 20 rfl) ?_
      rcases ite_so h with ⟨c18, h⟩ | ⟨c18, h⟩
      · refine ev_tsw (off := 127) 160 0 (mm 21 rfl) c18 rfl rfl ?_
        refine ev_aload_nR (mm 22 rfl) l1 ?_
        refine ev_aload_nX (mm 23 rfl) l0 ?_
        refine ev_iload_n (mm 24 rfl) l3 ?_
        refine ev_iconst (mm 25 rfl) cI_1 ?_
        refine ev_iadd (mm 26 rfl) ?_
        obtain ⟨v19, e20, h⟩ := bind_so h
        refine ev_xload rfl (mm 27 rfl) e20 ?_
        obtain ⟨_, e31, h⟩ := bind_so h
        obtain ⟨p21, e22, h⟩ := bind_so h
        refine ev_callV_I [.int (v19)] (mm 28 rfl) rfl rfl (Nat.le_of_ble_eq_true rfl) (s_ob_of e31) (f74_ok e22 (d + 128)) ?_
        refine ev_aload_nR (mm 29 rfl) l2 ?_
        refine ev_aload_nX (mm 30 rfl) l0 ?_
        refine ev_iload_n (mm 31 rfl) l3 ?_
        refine ev_iconst (mm 32 rfl) cI_1 ?_
        refine ev_iadd (mm 33 rfl) ?_
        obtain ⟨v23, e24, h⟩ := bind_so h
        refine ev_xload rfl (mm 34 rfl) e24 ?_
        obtain ⟨_, e30, h⟩ := bind_so h
        obtain ⟨p25, e26, h⟩ := bind_so h
        refine ev_callV_I [.int (v23)] (mm 35 rfl) rfl rfl (Nat.le_of_ble_eq_true rfl) (s_ob_of e30) (f117_ok e26 (d + 128)) ?_
        rcases ite_so h with ⟨c27, h⟩ | ⟨c27, h⟩
        · refine ev_ic_t 1241 (mm 36 rfl) rfl c27 ?_
          refine evs_iinc (mm 935 rfl) cI_6 l3 (by decide) (fun lv28 l3 s29 => ?_)
          have l0 := s29 _ _ l0 rfl
          have l1 := s29 _ _ l1 rfl
          have l2 := s29 _ _ l2 rfl
          refine ev_goto 18 (mm 936 rfl) rfl ?_
          exact ih l0 l1 l2 l3 h
        · refine ev_ic_f 1241 (mm 36 rfl) rfl c27 ?_
          refine ev_iconst (mm 37 rfl) cI_0 ?_
          exact ev_zreturn (mm 38 rfl) h
      rcases ite_so h with ⟨c32, h⟩ | ⟨c32, h⟩
      · refine ev_tsw (off := 150) 183 1 (mm 21 rfl) c32 rfl rfl ?_
        refine ev_aload_nR (mm 39 rfl) l1 ?_
        refine ev_aload_nX (mm 40 rfl) l0 ?_
        refine ev_iload_n (mm 41 rfl) l3 ?_
        refine ev_iconst (mm 42 rfl) cI_1 ?_
        refine ev_iadd (mm 43 rfl) ?_
        obtain ⟨v33, e34, h⟩ := bind_so h
        refine ev_xload rfl (mm 44 rfl) e34 ?_
        refine ev_aload_nX (mm 45 rfl) l0 ?_
        refine ev_iload_n (mm 46 rfl) l3 ?_
        refine ev_iconst (mm 47 rfl) cI_2 ?_
        refine ev_iadd (mm 48 rfl) ?_
        obtain ⟨v35, e36, h⟩ := bind_so h
        refine ev_xload rfl (mm 49 rfl) e36 ?_
        refine ev_aload_nX (mm 50 rfl) l0 ?_
        refine ev_iload_n (mm 51 rfl) l3 ?_
        refine ev_iconst (mm 52 rfl) cI_3 ?_
        refine ev_iadd (mm 53 rfl) ?_
        obtain ⟨v37, e38, h⟩ := bind_so h
        refine ev_xload rfl (mm 54 rfl) e38 ?_
        obtain ⟨_, e53, h⟩ := bind_so h
        obtain ⟨p39, e40, h⟩ := bind_so h
        refine ev_callV_I [.int (v33), .int (v35), .int (v37)] (mm 55 rfl) rfl rfl (Nat.le_of_ble_eq_true rfl) (s_ob_of e53) (f75_ok e40 (d + 127)) ?_
        refine ev_aload_nR (mm 56 rfl) l2 ?_
        refine ev_aload_nX (mm 57 rfl) l0 ?_
        refine ev_iload_n (mm 58 rfl) l3 ?_
        refine ev_iconst (mm 59 rfl) cI_1 ?_
        refine ev_iadd (mm 60 rfl) ?_
        obtain ⟨v41, e42, h⟩ := bind_so h
        refine ev_xload rfl (mm 61 rfl) e42 ?_
        refine ev_aload_nX (mm 62 rfl) l0 ?_
        refine ev_iload_n (mm 63 rfl) l3 ?_
        refine ev_iconst (mm 64 rfl) cI_2 ?_
        refine ev_iadd (mm 65 rfl) ?_
        obtain ⟨v43, e44, h⟩ := bind_so h
        refine ev_xload rfl (mm 66 rfl) e44 ?_
        refine ev_aload_nX (mm 67 rfl) l0 ?_
        refine ev_iload_n (mm 68 rfl) l3 ?_
        refine ev_iconst (mm 69 rfl) cI_3 ?_
        refine ev_iadd (mm 70 rfl) ?_
        obtain ⟨v45, e46, h⟩ := bind_so h
        refine ev_xload rfl (mm 71 rfl) e46 ?_
        obtain ⟨_, e52, h⟩ := bind_so h
        obtain ⟨p47, e48, h⟩ := bind_so h
        refine ev_callV_I [.int (v41), .int (v43), .int (v45)] (mm 72 rfl) rfl rfl (Nat.le_of_ble_eq_true rfl) (s_ob_of e52) (f119_ok e48 (d + 127)) ?_
        rcases ite_so h with ⟨c49, h⟩ | ⟨c49, h⟩
        · refine ev_ic_t 1241 (mm 73 rfl) rfl c49 ?_
          refine evs_iinc (mm 935 rfl) cI_6 l3 (by decide) (fun lv50 l3 s51 => ?_)
          have l0 := s51 _ _ l0 rfl
          have l1 := s51 _ _ l1 rfl
          have l2 := s51 _ _ l2 rfl
          refine ev_goto 18 (mm 936 rfl) rfl ?_
          exact ih l0 l1 l2 l3 h
        · refine ev_ic_f 1241 (mm 73 rfl) rfl c49 ?_
          refine ev_iconst (mm 74 rfl) cI_0 ?_
          exact ev_zreturn (mm 75 rfl) h
      rcases ite_so h with ⟨c54, h⟩ | ⟨c54, h⟩
      · refine ev_tsw (off := 193) 226 2 (mm 21 rfl) c54 rfl rfl ?_
        refine ev_aload_nR (mm 76 rfl) l1 ?_
        refine ev_aload_nX (mm 77 rfl) l0 ?_
        refine ev_iload_n (mm 78 rfl) l3 ?_
        refine ev_iconst (mm 79 rfl) cI_1 ?_
        refine ev_iadd (mm 80 rfl) ?_
        obtain ⟨v55, e56, h⟩ := bind_so h
        refine ev_xload rfl (mm 81 rfl) e56 ?_
        refine ev_aload_nX (mm 82 rfl) l0 ?_
        refine ev_iload_n (mm 83 rfl) l3 ?_
        refine ev_iconst (mm 84 rfl) cI_2 ?_
        refine ev_iadd (mm 85 rfl) ?_
        obtain ⟨v57, e58, h⟩ := bind_so h
        refine ev_xload rfl (mm 86 rfl) e58 ?_
        obtain ⟨_, e71, h⟩ := bind_so h
        obtain ⟨p59, e60, h⟩ := bind_so h
        refine ev_callV_I [.int (v55), .int (v57)] (mm 87 rfl) rfl rfl (Nat.le_of_ble_eq_true rfl) (s_ob_of e71) (f76_ok e60 (d + 127)) ?_
        refine ev_aload_nR (mm 88 rfl) l2 ?_
        refine ev_aload_nX (mm 89 rfl) l0 ?_
        refine ev_iload_n (mm 90 rfl) l3 ?_
        refine ev_iconst (mm 91 rfl) cI_1 ?_
        refine ev_iadd (mm 92 rfl) ?_
        obtain ⟨v61, e62, h⟩ := bind_so h
        refine ev_xload rfl (mm 93 rfl) e62 ?_
        refine ev_aload_nX (mm 94 rfl) l0 ?_
        refine ev_iload_n (mm 95 rfl) l3 ?_
        refine ev_iconst (mm 96 rfl) cI_2 ?_
        refine ev_iadd (mm 97 rfl) ?_
        obtain ⟨v63, e64, h⟩ := bind_so h
        refine ev_xload rfl (mm 98 rfl) e64 ?_
        obtain ⟨_, e70, h⟩ := bind_so h
        obtain ⟨p65, e66, h⟩ := bind_so h
        refine ev_callV_I [.int (v61), .int (v63)] (mm 99 rfl) rfl rfl (Nat.le_of_ble_eq_true rfl) (s_ob_of e70) (f120_ok e66 (d + 127)) ?_
        rcases ite_so h with ⟨c67, h⟩ | ⟨c67, h⟩
        · refine ev_ic_t 1241 (mm 100 rfl) rfl c67 ?_
          refine evs_iinc (mm 935 rfl) cI_6 l3 (by decide) (fun lv68 l3 s69 => ?_)
          have l0 := s69 _ _ l0 rfl
          have l1 := s69 _ _ l1 rfl
          have l2 := s69 _ _ l2 rfl
          refine ev_goto 18 (mm 936 rfl) rfl ?_
          exact ih l0 l1 l2 l3 h
        · refine ev_ic_f 1241 (mm 100 rfl) rfl c67 ?_
          refine ev_iconst (mm 101 rfl) cI_0 ?_
          exact ev_zreturn (mm 102 rfl) h
      rcases ite_so h with ⟨c72, h⟩ | ⟨c72, h⟩
      · refine ev_tsw (off := 226) 259 3 (mm 21 rfl) c72 rfl rfl ?_
        refine ev_aload_nR (mm 103 rfl) l1 ?_
        refine ev_aload_nX (mm 104 rfl) l0 ?_
        refine ev_iload_n (mm 105 rfl) l3 ?_
        refine ev_iconst (mm 106 rfl) cI_1 ?_
        refine ev_iadd (mm 107 rfl) ?_
        obtain ⟨v73, e74, h⟩ := bind_so h
        refine ev_xload rfl (mm 108 rfl) e74 ?_
        refine ev_aload_nX (mm 109 rfl) l0 ?_
        refine ev_iload_n (mm 110 rfl) l3 ?_
        refine ev_iconst (mm 111 rfl) cI_2 ?_
        refine ev_iadd (mm 112 rfl) ?_
        obtain ⟨v75, e76, h⟩ := bind_so h
        refine ev_xload rfl (mm 113 rfl) e76 ?_
        refine ev_aload_nX (mm 114 rfl) l0 ?_
        refine ev_iload_n (mm 115 rfl) l3 ?_
        refine ev_iconst (mm 116 rfl) cI_3 ?_
        refine ev_iadd (mm 117 rfl) ?_
        obtain ⟨v77, e78, h⟩ := bind_so h
        refine ev_xload rfl (mm 118 rfl) e78 ?_
        obtain ⟨_, e93, h⟩ := bind_so h
        obtain ⟨p79, e80, h⟩ := bind_so h
        refine ev_callV_I [.int (v73), .int (v75), .int (v77)] (mm 119 rfl) rfl rfl (Nat.le_of_ble_eq_true rfl) (s_ob_of e93) (f77_ok e80 (d + 127)) ?_
        refine ev_aload_nR (mm 120 rfl) l2 ?_
        refine ev_aload_nX (mm 121 rfl) l0 ?_
        refine ev_iload_n (mm 122 rfl) l3 ?_
        refine ev_iconst (mm 123 rfl) cI_1 ?_
        refine ev_iadd (mm 124 rfl) ?_
        obtain ⟨v81, e82, h⟩ := bind_so h
        refine ev_xload rfl (mm 125 rfl) e82 ?_
        refine ev_aload_nX (mm 126 rfl) l0 ?_
        refine ev_iload_n (mm 127 rfl) l3 ?_
        refine ev_iconst (mm 128 rfl) cI_2 ?_
        refine ev_iadd (mm 129 rfl) ?_
        obtain ⟨v83, e84, h⟩ := bind_so h
        refine ev_xload rfl (mm 130 rfl) e84 ?_
        refine ev_aload_nX (mm 131 rfl) l0 ?_
        refine ev_iload_n (mm 132 rfl) l3 ?_
        refine ev_iconst (mm 133 rfl) cI_3 ?_
        refine ev_iadd (mm 134 rfl) ?_
        obtain ⟨v85, e86, h⟩ := bind_so h
        refine ev_xload rfl (mm 135 rfl) e86 ?_
        obtain ⟨_, e92, h⟩ := bind_so h
        obtain ⟨p87, e88, h⟩ := bind_so h
        refine ev_callV_I [.int (v81), .int (v83), .int (v85)] (mm 136 rfl) rfl rfl (Nat.le_of_ble_eq_true rfl) (s_ob_of e92) (f121_ok e88 (d + 127)) ?_
        rcases ite_so h with ⟨c89, h⟩ | ⟨c89, h⟩
        · refine ev_ic_t 1241 (mm 137 rfl) rfl c89 ?_
          refine evs_iinc (mm 935 rfl) cI_6 l3 (by decide) (fun lv90 l3 s91 => ?_)
          have l0 := s91 _ _ l0 rfl
          have l1 := s91 _ _ l1 rfl
          have l2 := s91 _ _ l2 rfl
          refine ev_goto 18 (mm 936 rfl) rfl ?_
          exact ih l0 l1 l2 l3 h
        · refine ev_ic_f 1241 (mm 137 rfl) rfl c89 ?_
          refine ev_iconst (mm 138 rfl) cI_0 ?_
          exact ev_zreturn (mm 139 rfl) h
      rcases ite_so h with ⟨c94, h⟩ | ⟨c94, h⟩
      · refine ev_tsw (off := 269) 302 4 (mm 21 rfl) c94 rfl rfl ?_
        refine ev_aload_nR (mm 140 rfl) l1 ?_
        refine ev_aload_nX (mm 141 rfl) l0 ?_
        refine ev_iload_n (mm 142 rfl) l3 ?_
        refine ev_iconst (mm 143 rfl) cI_1 ?_
        refine ev_iadd (mm 144 rfl) ?_
        obtain ⟨v95, e96, h⟩ := bind_so h
        refine ev_xload rfl (mm 145 rfl) e96 ?_
        refine ev_aload_nX (mm 146 rfl) l0 ?_
        refine ev_iload_n (mm 147 rfl) l3 ?_
        refine ev_iconst (mm 148 rfl) cI_2 ?_
        refine ev_iadd (mm 149 rfl) ?_
        obtain ⟨v97, e98, h⟩ := bind_so h
        refine ev_xload rfl (mm 150 rfl) e98 ?_
        obtain ⟨_, e111, h⟩ := bind_so h
        obtain ⟨p99, e100, h⟩ := bind_so h
        refine ev_callV_I [.int (v95), .int (v97)] (mm 151 rfl) rfl rfl (Nat.le_of_ble_eq_true rfl) (s_ob_of e111) (f78_ok e100 (d + 126)) ?_
        refine ev_aload_nR (mm 152 rfl) l2 ?_
        refine ev_aload_nX (mm 153 rfl) l0 ?_
        refine ev_iload_n (mm 154 rfl) l3 ?_
        refine ev_iconst (mm 155 rfl) cI_1 ?_
        refine ev_iadd (mm 156 rfl) ?_
        obtain ⟨v101, e102, h⟩ := bind_so h
        refine ev_xload rfl (mm 157 rfl) e102 ?_
        refine ev_aload_nX (mm 158 rfl) l0 ?_
        refine ev_iload_n (mm 159 rfl) l3 ?_
        refine ev_iconst (mm 160 rfl) cI_2 ?_
        refine ev_iadd (mm 161 rfl) ?_
        obtain ⟨v103, e104, h⟩ := bind_so h
        refine ev_xload rfl (mm 162 rfl) e104 ?_
        obtain ⟨_, e110, h⟩ := bind_so h
        obtain ⟨p105, e106, h⟩ := bind_so h
        refine ev_callV_I [.int (v101), .int (v103)] (mm 163 rfl) rfl rfl (Nat.le_of_ble_eq_true rfl) (s_ob_of e110) (f124_ok e106 (d + 126)) ?_
        rcases ite_so h with ⟨c107, h⟩ | ⟨c107, h⟩
        · refine ev_ic_t 1241 (mm 164 rfl) rfl c107 ?_
          refine evs_iinc (mm 935 rfl) cI_6 l3 (by decide) (fun lv108 l3 s109 => ?_)
          have l0 := s109 _ _ l0 rfl
          have l1 := s109 _ _ l1 rfl
          have l2 := s109 _ _ l2 rfl
          refine ev_goto 18 (mm 936 rfl) rfl ?_
          exact ih l0 l1 l2 l3 h
        · refine ev_ic_f 1241 (mm 164 rfl) rfl c107 ?_
          refine ev_iconst (mm 165 rfl) cI_0 ?_
          exact ev_zreturn (mm 166 rfl) h
      rcases ite_so h with ⟨c112, h⟩ | ⟨c112, h⟩
      · refine ev_tsw (off := 302) 335 5 (mm 21 rfl) c112 rfl rfl ?_
        refine ev_aload_nR (mm 167 rfl) l1 ?_
        refine ev_aload_nX (mm 168 rfl) l0 ?_
        refine ev_iload_n (mm 169 rfl) l3 ?_
        refine ev_iconst (mm 170 rfl) cI_1 ?_
        refine ev_iadd (mm 171 rfl) ?_
        obtain ⟨v113, e114, h⟩ := bind_so h
        refine ev_xload rfl (mm 172 rfl) e114 ?_
        refine ev_aload_nX (mm 173 rfl) l0 ?_
        refine ev_iload_n (mm 174 rfl) l3 ?_
        refine ev_iconst (mm 175 rfl) cI_2 ?_
        refine ev_iadd (mm 176 rfl) ?_
        obtain ⟨v115, e116, h⟩ := bind_so h
        refine ev_xload rfl (mm 177 rfl) e116 ?_
        refine ev_aload_nX (mm 178 rfl) l0 ?_
        refine ev_iload_n (mm 179 rfl) l3 ?_
        refine ev_iconst (mm 180 rfl) cI_3 ?_
        refine ev_iadd (mm 181 rfl) ?_
        obtain ⟨v117, e118, h⟩ := bind_so h
        refine ev_xload rfl (mm 182 rfl) e118 ?_
        refine ev_aload_nX (mm 183 rfl) l0 ?_
        refine ev_iload_n (mm 184 rfl) l3 ?_
        refine ev_iconst (mm 185 rfl) cI_4 ?_
        refine ev_iadd (mm 186 rfl) ?_
        obtain ⟨v119, e120, h⟩ := bind_so h
        refine ev_xload rfl (mm 187 rfl) e120 ?_
        obtain ⟨_, e137, h⟩ := bind_so h
        obtain ⟨p121, e122, h⟩ := bind_so h
        refine ev_callV_I [.int (v113), .int (v115), .int (v117), .int (v119)] (mm 188 rfl) rfl rfl (Nat.le_of_ble_eq_true rfl) (s_ob_of e137) (f79_ok e122 (d + 126)) ?_
        refine ev_aload_nR (mm 189 rfl) l2 ?_
        refine ev_aload_nX (mm 190 rfl) l0 ?_
        refine ev_iload_n (mm 191 rfl) l3 ?_
        refine ev_iconst (mm 192 rfl) cI_1 ?_
        refine ev_iadd (mm 193 rfl) ?_
        obtain ⟨v123, e124, h⟩ := bind_so h
        refine ev_xload rfl (mm 194 rfl) e124 ?_
        refine ev_aload_nX (mm 195 rfl) l0 ?_
        refine ev_iload_n (mm 196 rfl) l3 ?_
        refine ev_iconst (mm 197 rfl) cI_2 ?_
        refine ev_iadd (mm 198 rfl) ?_
        obtain ⟨v125, e126, h⟩ := bind_so h
        refine ev_xload rfl (mm 199 rfl) e126 ?_
        refine ev_aload_nX (mm 200 rfl) l0 ?_
        refine ev_iload_n (mm 201 rfl) l3 ?_
        refine ev_iconst (mm 202 rfl) cI_3 ?_
        refine ev_iadd (mm 203 rfl) ?_
        obtain ⟨v127, e128, h⟩ := bind_so h
        refine ev_xload rfl (mm 204 rfl) e128 ?_
        refine ev_aload_nX (mm 205 rfl) l0 ?_
        refine ev_iload_n (mm 206 rfl) l3 ?_
        refine ev_iconst (mm 207 rfl) cI_4 ?_
        refine ev_iadd (mm 208 rfl) ?_
        obtain ⟨v129, e130, h⟩ := bind_so h
        refine ev_xload rfl (mm 209 rfl) e130 ?_
        obtain ⟨_, e136, h⟩ := bind_so h
        obtain ⟨p131, e132, h⟩ := bind_so h
        refine ev_callV_I [.int (v123), .int (v125), .int (v127), .int (v129)] (mm 210 rfl) rfl rfl (Nat.le_of_ble_eq_true rfl) (s_ob_of e136) (f125_ok e132 (d + 126)) ?_
        rcases ite_so h with ⟨c133, h⟩ | ⟨c133, h⟩
        · refine ev_ic_t 1241 (mm 211 rfl) rfl c133 ?_
          refine evs_iinc (mm 935 rfl) cI_6 l3 (by decide) (fun lv134 l3 s135 => ?_)
          have l0 := s135 _ _ l0 rfl
          have l1 := s135 _ _ l1 rfl
          have l2 := s135 _ _ l2 rfl
          refine ev_goto 18 (mm 936 rfl) rfl ?_
          exact ih l0 l1 l2 l3 h
        · refine ev_ic_f 1241 (mm 211 rfl) rfl c133 ?_
          refine ev_iconst (mm 212 rfl) cI_0 ?_
          exact ev_zreturn (mm 213 rfl) h
      rcases ite_so h with ⟨c138, h⟩ | ⟨c138, h⟩
      · refine ev_tsw (off := 355) 388 6 (mm 21 rfl) c138 rfl rfl ?_
        refine ev_aload_nR (mm 214 rfl) l1 ?_
        refine ev_aload_nX (mm 215 rfl) l0 ?_
        refine ev_iload_n (mm 216 rfl) l3 ?_
        refine ev_iconst (mm 217 rfl) cI_1 ?_
        refine ev_iadd (mm 218 rfl) ?_
        obtain ⟨v139, e140, h⟩ := bind_so h
        refine ev_xload rfl (mm 219 rfl) e140 ?_
        refine ev_aload_nX (mm 220 rfl) l0 ?_
        refine ev_iload_n (mm 221 rfl) l3 ?_
        refine ev_iconst (mm 222 rfl) cI_2 ?_
        refine ev_iadd (mm 223 rfl) ?_
        obtain ⟨v141, e142, h⟩ := bind_so h
        refine ev_xload rfl (mm 224 rfl) e142 ?_
        refine ev_aload_nX (mm 225 rfl) l0 ?_
        refine ev_iload_n (mm 226 rfl) l3 ?_
        refine ev_iconst (mm 227 rfl) cI_3 ?_
        refine ev_iadd (mm 228 rfl) ?_
        obtain ⟨v143, e144, h⟩ := bind_so h
        refine ev_xload rfl (mm 229 rfl) e144 ?_
        refine ev_aload_nX (mm 230 rfl) l0 ?_
        refine ev_iload_n (mm 231 rfl) l3 ?_
        refine ev_iconst (mm 232 rfl) cI_4 ?_
        refine ev_iadd (mm 233 rfl) ?_
        obtain ⟨v145, e146, h⟩ := bind_so h
        refine ev_xload rfl (mm 234 rfl) e146 ?_
        obtain ⟨_, e163, h⟩ := bind_so h
        obtain ⟨p147, e148, h⟩ := bind_so h
        refine ev_callV_I [.int (v139), .int (v141), .int (v143), .int (v145)] (mm 235 rfl) rfl rfl (Nat.le_of_ble_eq_true rfl) (s_ob_of e163) (f80_ok e148 (d + 126)) ?_
        refine ev_aload_nR (mm 236 rfl) l2 ?_
        refine ev_aload_nX (mm 237 rfl) l0 ?_
        refine ev_iload_n (mm 238 rfl) l3 ?_
        refine ev_iconst (mm 239 rfl) cI_1 ?_
        refine ev_iadd (mm 240 rfl) ?_
        obtain ⟨v149, e150, h⟩ := bind_so h
        refine ev_xload rfl (mm 241 rfl) e150 ?_
        refine ev_aload_nX (mm 242 rfl) l0 ?_
        refine ev_iload_n (mm 243 rfl) l3 ?_
        refine ev_iconst (mm 244 rfl) cI_2 ?_
        refine ev_iadd (mm 245 rfl) ?_
        obtain ⟨v151, e152, h⟩ := bind_so h
        refine ev_xload rfl (mm 246 rfl) e152 ?_
        refine ev_aload_nX (mm 247 rfl) l0 ?_
        refine ev_iload_n (mm 248 rfl) l3 ?_
        refine ev_iconst (mm 249 rfl) cI_3 ?_
        refine ev_iadd (mm 250 rfl) ?_
        obtain ⟨v153, e154, h⟩ := bind_so h
        refine ev_xload rfl (mm 251 rfl) e154 ?_
        refine ev_aload_nX (mm 252 rfl) l0 ?_
        refine ev_iload_n (mm 253 rfl) l3 ?_
        refine ev_iconst (mm 254 rfl) cI_4 ?_
        refine ev_iadd (mm 255 rfl) ?_
        obtain ⟨v155, e156, h⟩ := bind_so h
        refine ev_xload rfl (mm 256 rfl) e156 ?_
        obtain ⟨_, e162, h⟩ := bind_so h
        obtain ⟨p157, e158, h⟩ := bind_so h
        refine ev_callV_I [.int (v149), .int (v151), .int (v153), .int (v155)] (mm 257 rfl) rfl rfl (Nat.le_of_ble_eq_true rfl) (s_ob_of e162) (f127_ok e158 (d + 126)) ?_
        rcases ite_so h with ⟨c159, h⟩ | ⟨c159, h⟩
        · refine ev_ic_t 1241 (mm 258 rfl) rfl c159 ?_
          refine evs_iinc (mm 935 rfl) cI_6 l3 (by decide) (fun lv160 l3 s161 => ?_)
          have l0 := s161 _ _ l0 rfl
          have l1 := s161 _ _ l1 rfl
          have l2 := s161 _ _ l2 rfl
          refine ev_goto 18 (mm 936 rfl) rfl ?_
          exact ih l0 l1 l2 l3 h
        · refine ev_ic_f 1241 (mm 258 rfl) rfl c159 ?_
          refine ev_iconst (mm 259 rfl) cI_0 ?_
          exact ev_zreturn (mm 260 rfl) h
      rcases ite_so h with ⟨c164, h⟩ | ⟨c164, h⟩
      · refine ev_tsw (off := 408) 441 7 (mm 21 rfl) c164 rfl rfl ?_
        refine ev_aload_nR (mm 261 rfl) l1 ?_
        refine ev_aload_nX (mm 262 rfl) l0 ?_
        refine ev_iload_n (mm 263 rfl) l3 ?_
        refine ev_iconst (mm 264 rfl) cI_1 ?_
        refine ev_iadd (mm 265 rfl) ?_
        obtain ⟨v165, e166, h⟩ := bind_so h
        refine ev_xload rfl (mm 266 rfl) e166 ?_
        refine ev_aload_nX (mm 267 rfl) l0 ?_
        refine ev_iload_n (mm 268 rfl) l3 ?_
        refine ev_iconst (mm 269 rfl) cI_2 ?_
        refine ev_iadd (mm 270 rfl) ?_
        obtain ⟨v167, e168, h⟩ := bind_so h
        refine ev_xload rfl (mm 271 rfl) e168 ?_
        refine ev_aload_nX (mm 272 rfl) l0 ?_
        refine ev_iload_n (mm 273 rfl) l3 ?_
        refine ev_iconst (mm 274 rfl) cI_3 ?_
        refine ev_iadd (mm 275 rfl) ?_
        obtain ⟨v169, e170, h⟩ := bind_so h
        refine ev_xload rfl (mm 276 rfl) e170 ?_
        obtain ⟨_, e185, h⟩ := bind_so h
        obtain ⟨p171, e172, h⟩ := bind_so h
        refine ev_callV_I [.int (v165), .int (v167), .int (v169)] (mm 277 rfl) rfl rfl (Nat.le_of_ble_eq_true rfl) (s_ob_of e185) (f81_ok e172 (d + 125)) ?_
        refine ev_aload_nR (mm 278 rfl) l2 ?_
        refine ev_aload_nX (mm 279 rfl) l0 ?_
        refine ev_iload_n (mm 280 rfl) l3 ?_
        refine ev_iconst (mm 281 rfl) cI_1 ?_
        refine ev_iadd (mm 282 rfl) ?_
        obtain ⟨v173, e174, h⟩ := bind_so h
        refine ev_xload rfl (mm 283 rfl) e174 ?_
        refine ev_aload_nX (mm 284 rfl) l0 ?_
        refine ev_iload_n (mm 285 rfl) l3 ?_
        refine ev_iconst (mm 286 rfl) cI_2 ?_
        refine ev_iadd (mm 287 rfl) ?_
        obtain ⟨v175, e176, h⟩ := bind_so h
        refine ev_xload rfl (mm 288 rfl) e176 ?_
        refine ev_aload_nX (mm 289 rfl) l0 ?_
        refine ev_iload_n (mm 290 rfl) l3 ?_
        refine ev_iconst (mm 291 rfl) cI_3 ?_
        refine ev_iadd (mm 292 rfl) ?_
        obtain ⟨v177, e178, h⟩ := bind_so h
        refine ev_xload rfl (mm 293 rfl) e178 ?_
        obtain ⟨_, e184, h⟩ := bind_so h
        obtain ⟨p179, e180, h⟩ := bind_so h
        refine ev_callV_I [.int (v173), .int (v175), .int (v177)] (mm 294 rfl) rfl rfl (Nat.le_of_ble_eq_true rfl) (s_ob_of e184) (f129_ok e180 (d + 125)) ?_
        rcases ite_so h with ⟨c181, h⟩ | ⟨c181, h⟩
        · refine ev_ic_t 1241 (mm 295 rfl) rfl c181 ?_
          refine evs_iinc (mm 935 rfl) cI_6 l3 (by decide) (fun lv182 l3 s183 => ?_)
          have l0 := s183 _ _ l0 rfl
          have l1 := s183 _ _ l1 rfl
          have l2 := s183 _ _ l2 rfl
          refine ev_goto 18 (mm 936 rfl) rfl ?_
          exact ih l0 l1 l2 l3 h
        · refine ev_ic_f 1241 (mm 295 rfl) rfl c181 ?_
          refine ev_iconst (mm 296 rfl) cI_0 ?_
          exact ev_zreturn (mm 297 rfl) h
      rcases ite_so h with ⟨c186, h⟩ | ⟨c186, h⟩
      · refine ev_tsw (off := 451) 484 8 (mm 21 rfl) c186 rfl rfl ?_
        refine ev_aload_nR (mm 298 rfl) l1 ?_
        refine ev_aload_nX (mm 299 rfl) l0 ?_
        refine ev_iload_n (mm 300 rfl) l3 ?_
        refine ev_iconst (mm 301 rfl) cI_1 ?_
        refine ev_iadd (mm 302 rfl) ?_
        obtain ⟨v187, e188, h⟩ := bind_so h
        refine ev_xload rfl (mm 303 rfl) e188 ?_
        refine ev_aload_nX (mm 304 rfl) l0 ?_
        refine ev_iload_n (mm 305 rfl) l3 ?_
        refine ev_iconst (mm 306 rfl) cI_2 ?_
        refine ev_iadd (mm 307 rfl) ?_
        obtain ⟨v189, e190, h⟩ := bind_so h
        refine ev_xload rfl (mm 308 rfl) e190 ?_
        obtain ⟨_, e203, h⟩ := bind_so h
        obtain ⟨p191, e192, h⟩ := bind_so h
        refine ev_callV_I [.int (v187), .int (v189)] (mm 309 rfl) rfl rfl (Nat.le_of_ble_eq_true rfl) (s_ob_of e203) (f82_ok e192 (d + 126)) ?_
        refine ev_aload_nR (mm 310 rfl) l2 ?_
        refine ev_aload_nX (mm 311 rfl) l0 ?_
        refine ev_iload_n (mm 312 rfl) l3 ?_
        refine ev_iconst (mm 313 rfl) cI_1 ?_
        refine ev_iadd (mm 314 rfl) ?_
        obtain ⟨v193, e194, h⟩ := bind_so h
        refine ev_xload rfl (mm 315 rfl) e194 ?_
        refine ev_aload_nX (mm 316 rfl) l0 ?_
        refine ev_iload_n (mm 317 rfl) l3 ?_
        refine ev_iconst (mm 318 rfl) cI_2 ?_
        refine ev_iadd (mm 319 rfl) ?_
        obtain ⟨v195, e196, h⟩ := bind_so h
        refine ev_xload rfl (mm 320 rfl) e196 ?_
        obtain ⟨_, e202, h⟩ := bind_so h
        obtain ⟨p197, e198, h⟩ := bind_so h
        refine ev_callV_I [.int (v193), .int (v195)] (mm 321 rfl) rfl rfl (Nat.le_of_ble_eq_true rfl) (s_ob_of e202) (f130_ok e198 (d + 126)) ?_
        rcases ite_so h with ⟨c199, h⟩ | ⟨c199, h⟩
        · refine ev_ic_t 1241 (mm 322 rfl) rfl c199 ?_
          refine evs_iinc (mm 935 rfl) cI_6 l3 (by decide) (fun lv200 l3 s201 => ?_)
          have l0 := s201 _ _ l0 rfl
          have l1 := s201 _ _ l1 rfl
          have l2 := s201 _ _ l2 rfl
          refine ev_goto 18 (mm 936 rfl) rfl ?_
          exact ih l0 l1 l2 l3 h
        · refine ev_ic_f 1241 (mm 322 rfl) rfl c199 ?_
          refine ev_iconst (mm 323 rfl) cI_0 ?_
          exact ev_zreturn (mm 324 rfl) h
      rcases ite_so h with ⟨c204, h⟩ | ⟨c204, h⟩
      · refine ev_tsw (off := 484) 517 9 (mm 21 rfl) c204 rfl rfl ?_
        refine ev_aload_nR (mm 325 rfl) l1 ?_
        refine ev_aload_nX (mm 326 rfl) l0 ?_
        refine ev_iload_n (mm 327 rfl) l3 ?_
        refine ev_iconst (mm 328 rfl) cI_1 ?_
        refine ev_iadd (mm 329 rfl) ?_
        obtain ⟨v205, e206, h⟩ := bind_so h
        refine ev_xload rfl (mm 330 rfl) e206 ?_
        refine ev_aload_nX (mm 331 rfl) l0 ?_
        refine ev_iload_n (mm 332 rfl) l3 ?_
        refine ev_iconst (mm 333 rfl) cI_2 ?_
        refine ev_iadd (mm 334 rfl) ?_
        obtain ⟨v207, e208, h⟩ := bind_so h
        refine ev_xload rfl (mm 335 rfl) e208 ?_
        refine ev_aload_nX (mm 336 rfl) l0 ?_
        refine ev_iload_n (mm 337 rfl) l3 ?_
        refine ev_iconst (mm 338 rfl) cI_3 ?_
        refine ev_iadd (mm 339 rfl) ?_
        obtain ⟨v209, e210, h⟩ := bind_so h
        refine ev_xload rfl (mm 340 rfl) e210 ?_
        refine ev_aload_nX (mm 341 rfl) l0 ?_
        refine ev_iload_n (mm 342 rfl) l3 ?_
        refine ev_iconst (mm 343 rfl) cI_4 ?_
        refine ev_iadd (mm 344 rfl) ?_
        obtain ⟨v211, e212, h⟩ := bind_so h
        refine ev_xload rfl (mm 345 rfl) e212 ?_
        refine ev_aload_nX (mm 346 rfl) l0 ?_
        refine ev_iload_n (mm 347 rfl) l3 ?_
        refine ev_iconst (mm 348 rfl) cI_5 ?_
        refine ev_iadd (mm 349 rfl) ?_
        obtain ⟨v213, e214, h⟩ := bind_so h
        refine ev_xload rfl (mm 350 rfl) e214 ?_
        obtain ⟨_, e233, h⟩ := bind_so h
        obtain ⟨p215, e216, h⟩ := bind_so h
        refine ev_callV_I [.int (v205), .int (v207), .int (v209), .int (v211), .int (v213)] (mm 351 rfl) rfl rfl (Nat.le_of_ble_eq_true rfl) (s_ob_of e233) (f83_ok e216 (d + 127)) ?_
        refine ev_aload_nR (mm 352 rfl) l2 ?_
        refine ev_aload_nX (mm 353 rfl) l0 ?_
        refine ev_iload_n (mm 354 rfl) l3 ?_
        refine ev_iconst (mm 355 rfl) cI_1 ?_
        refine ev_iadd (mm 356 rfl) ?_
        obtain ⟨v217, e218, h⟩ := bind_so h
        refine ev_xload rfl (mm 357 rfl) e218 ?_
        refine ev_aload_nX (mm 358 rfl) l0 ?_
        refine ev_iload_n (mm 359 rfl) l3 ?_
        refine ev_iconst (mm 360 rfl) cI_2 ?_
        refine ev_iadd (mm 361 rfl) ?_
        obtain ⟨v219, e220, h⟩ := bind_so h
        refine ev_xload rfl (mm 362 rfl) e220 ?_
        refine ev_aload_nX (mm 363 rfl) l0 ?_
        refine ev_iload_n (mm 364 rfl) l3 ?_
        refine ev_iconst (mm 365 rfl) cI_3 ?_
        refine ev_iadd (mm 366 rfl) ?_
        obtain ⟨v221, e222, h⟩ := bind_so h
        refine ev_xload rfl (mm 367 rfl) e222 ?_
        refine ev_aload_nX (mm 368 rfl) l0 ?_
        refine ev_iload_n (mm 369 rfl) l3 ?_
        refine ev_iconst (mm 370 rfl) cI_4 ?_
        refine ev_iadd (mm 371 rfl) ?_
        obtain ⟨v223, e224, h⟩ := bind_so h
        refine ev_xload rfl (mm 372 rfl) e224 ?_
        refine ev_aload_nX (mm 373 rfl) l0 ?_
        refine ev_iload_n (mm 374 rfl) l3 ?_
        refine ev_iconst (mm 375 rfl) cI_5 ?_
        refine ev_iadd (mm 376 rfl) ?_
        obtain ⟨v225, e226, h⟩ := bind_so h
        refine ev_xload rfl (mm 377 rfl) e226 ?_
        obtain ⟨_, e232, h⟩ := bind_so h
        obtain ⟨p227, e228, h⟩ := bind_so h
        refine ev_callV_I [.int (v217), .int (v219), .int (v221), .int (v223), .int (v225)] (mm 378 rfl) rfl rfl (Nat.le_of_ble_eq_true rfl) (s_ob_of e232) (f134_ok e228 (d + 127)) ?_
        rcases ite_so h with ⟨c229, h⟩ | ⟨c229, h⟩
        · refine ev_ic_t 1241 (mm 379 rfl) rfl c229 ?_
          refine evs_iinc (mm 935 rfl) cI_6 l3 (by decide) (fun lv230 l3 s231 => ?_)
          have l0 := s231 _ _ l0 rfl
          have l1 := s231 _ _ l1 rfl
          have l2 := s231 _ _ l2 rfl
          refine ev_goto 18 (mm 936 rfl) rfl ?_
          exact ih l0 l1 l2 l3 h
        · refine ev_ic_f 1241 (mm 379 rfl) rfl c229 ?_
          refine ev_iconst (mm 380 rfl) cI_0 ?_
          exact ev_zreturn (mm 381 rfl) h
      rcases ite_so h with ⟨c234, h⟩ | ⟨c234, h⟩
      · refine ev_tsw (off := 547) 580 10 (mm 21 rfl) c234 rfl rfl ?_
        refine ev_aload_nR (mm 382 rfl) l1 ?_
        refine ev_aload_nX (mm 383 rfl) l0 ?_
        refine ev_iload_n (mm 384 rfl) l3 ?_
        refine ev_iconst (mm 385 rfl) cI_1 ?_
        refine ev_iadd (mm 386 rfl) ?_
        obtain ⟨v235, e236, h⟩ := bind_so h
        refine ev_xload rfl (mm 387 rfl) e236 ?_
        refine ev_aload_nX (mm 388 rfl) l0 ?_
        refine ev_iload_n (mm 389 rfl) l3 ?_
        refine ev_iconst (mm 390 rfl) cI_2 ?_
        refine ev_iadd (mm 391 rfl) ?_
        obtain ⟨v237, e238, h⟩ := bind_so h
        refine ev_xload rfl (mm 392 rfl) e238 ?_
        obtain ⟨_, e251, h⟩ := bind_so h
        obtain ⟨p239, e240, h⟩ := bind_so h
        refine ev_callV_I [.int (v235), .int (v237)] (mm 393 rfl) rfl rfl (Nat.le_of_ble_eq_true rfl) (s_ob_of e251) (f84_ok e240 (d + 0)) ?_
        refine ev_aload_nR (mm 394 rfl) l2 ?_
        refine ev_aload_nX (mm 395 rfl) l0 ?_
        refine ev_iload_n (mm 396 rfl) l3 ?_
        refine ev_iconst (mm 397 rfl) cI_1 ?_
        refine ev_iadd (mm 398 rfl) ?_
        obtain ⟨v241, e242, h⟩ := bind_so h
        refine ev_xload rfl (mm 399 rfl) e242 ?_
        refine ev_aload_nX (mm 400 rfl) l0 ?_
        refine ev_iload_n (mm 401 rfl) l3 ?_
        refine ev_iconst (mm 402 rfl) cI_2 ?_
        refine ev_iadd (mm 403 rfl) ?_
        obtain ⟨v243, e244, h⟩ := bind_so h
        refine ev_xload rfl (mm 404 rfl) e244 ?_
        obtain ⟨_, e250, h⟩ := bind_so h
        obtain ⟨p245, e246, h⟩ := bind_so h
        refine ev_callV_I [.int (v241), .int (v243)] (mm 405 rfl) rfl rfl (Nat.le_of_ble_eq_true rfl) (s_ob_of e250) (f157_ok e246 (d + 1)) ?_
        rcases ite_so h with ⟨c247, h⟩ | ⟨c247, h⟩
        · refine ev_ic_t 1241 (mm 406 rfl) rfl c247 ?_
          refine evs_iinc (mm 935 rfl) cI_6 l3 (by decide) (fun lv248 l3 s249 => ?_)
          have l0 := s249 _ _ l0 rfl
          have l1 := s249 _ _ l1 rfl
          have l2 := s249 _ _ l2 rfl
          refine ev_goto 18 (mm 936 rfl) rfl ?_
          exact ih l0 l1 l2 l3 h
        · refine ev_ic_f 1241 (mm 406 rfl) rfl c247 ?_
          refine ev_iconst (mm 407 rfl) cI_0 ?_
          exact ev_zreturn (mm 408 rfl) h
      rcases ite_so h with ⟨c252, h⟩ | ⟨c252, h⟩
      · refine ev_tsw (off := 580) 613 11 (mm 21 rfl) c252 rfl rfl ?_
        refine ev_aload_nR (mm 409 rfl) l1 ?_
        refine ev_aload_nX (mm 410 rfl) l0 ?_
        refine ev_iload_n (mm 411 rfl) l3 ?_
        refine ev_iconst (mm 412 rfl) cI_1 ?_
        refine ev_iadd (mm 413 rfl) ?_
        obtain ⟨v253, e254, h⟩ := bind_so h
        refine ev_xload rfl (mm 414 rfl) e254 ?_
        obtain ⟨_, e265, h⟩ := bind_so h
        obtain ⟨p255, e256, h⟩ := bind_so h
        refine ev_callV_I [.int (v253)] (mm 415 rfl) rfl rfl (Nat.le_of_ble_eq_true rfl) (s_ob_of e265) (f85_ok e256 (d + 0)) ?_
        refine ev_aload_nR (mm 416 rfl) l2 ?_
        refine ev_aload_nX (mm 417 rfl) l0 ?_
        refine ev_iload_n (mm 418 rfl) l3 ?_
        refine ev_iconst (mm 419 rfl) cI_1 ?_
        refine ev_iadd (mm 420 rfl) ?_
        obtain ⟨v257, e258, h⟩ := bind_so h
        refine ev_xload rfl (mm 421 rfl) e258 ?_
        obtain ⟨_, e264, h⟩ := bind_so h
        obtain ⟨p259, e260, h⟩ := bind_so h
        refine ev_callV_I [.int (v257)] (mm 422 rfl) rfl rfl (Nat.le_of_ble_eq_true rfl) (s_ob_of e264) (f158_ok e260 (d + 1)) ?_
        rcases ite_so h with ⟨c261, h⟩ | ⟨c261, h⟩
        · refine ev_ic_t 1241 (mm 423 rfl) rfl c261 ?_
          refine evs_iinc (mm 935 rfl) cI_6 l3 (by decide) (fun lv262 l3 s263 => ?_)
          have l0 := s263 _ _ l0 rfl
          have l1 := s263 _ _ l1 rfl
          have l2 := s263 _ _ l2 rfl
          refine ev_goto 18 (mm 936 rfl) rfl ?_
          exact ih l0 l1 l2 l3 h
        · refine ev_ic_f 1241 (mm 423 rfl) rfl c261 ?_
          refine ev_iconst (mm 424 rfl) cI_0 ?_
          exact ev_zreturn (mm 425 rfl) h
      rcases ite_so h with ⟨c266, h⟩ | ⟨c266, h⟩
      · refine ev_tsw (off := 603) 636 12 (mm 21 rfl) c266 rfl rfl ?_
        refine ev_aload_nR (mm 426 rfl) l1 ?_
        obtain ⟨_, e275, h⟩ := bind_so h
        obtain ⟨p267, e268, h⟩ := bind_so h
        refine ev_callV_I [] (mm 427 rfl) rfl rfl (Nat.le_of_ble_eq_true rfl) (s_ob_of e275) (f86_ok e268 (d + 128)) ?_
        refine ev_aload_nR (mm 428 rfl) l2 ?_
        obtain ⟨_, e274, h⟩ := bind_so h
        obtain ⟨p269, e270, h⟩ := bind_so h
        refine ev_callV_I [] (mm 429 rfl) rfl rfl (Nat.le_of_ble_eq_true rfl) (s_ob_of e274) (f159_ok e270 (d + 128)) ?_
        rcases ite_so h with ⟨c271, h⟩ | ⟨c271, h⟩
        · refine ev_ic_t 1241 (mm 430 rfl) rfl c271 ?_
          refine evs_iinc (mm 935 rfl) cI_6 l3 (by decide) (fun lv272 l3 s273 => ?_)
          have l0 := s273 _ _ l0 rfl
          have l1 := s273 _ _ l1 rfl
          have l2 := s273 _ _ l2 rfl
          refine ev_goto 18 (mm 936 rfl) rfl ?_
          exact ih l0 l1 l2 l3 h
        · refine ev_ic_f 1241 (mm 430 rfl) rfl c271 ?_
          refine ev_iconst (mm 431 rfl) cI_0 ?_
          exact ev_zreturn (mm 432 rfl) h
      rcases ite_so h with ⟨c276, h⟩ | ⟨c276, h⟩
      · refine ev_tsw (off := 616) 649 13 (mm 21 rfl) c276 rfl rfl ?_
        refine ev_aload_nR (mm 433 rfl) l1 ?_
        refine ev_aload_nX (mm 434 rfl) l0 ?_
        refine ev_iload_n (mm 435 rfl) l3 ?_
        refine ev_iconst (mm 436 rfl) cI_1 ?_
        refine ev_iadd (mm 437 rfl) ?_
        obtain ⟨v277, e278, h⟩ := bind_so h
        refine ev_xload rfl (mm 438 rfl) e278 ?_
        refine ev_aload_nX (mm 439 rfl) l0 ?_
        refine ev_iload_n (mm 440 rfl) l3 ?_
        refine ev_iconst (mm 441 rfl) cI_2 ?_
        refine ev_iadd (mm 442 rfl) ?_
        obtain ⟨v279, e280, h⟩ := bind_so h
        refine ev_xload rfl (mm 443 rfl) e280 ?_
        refine ev_aload_nX (mm 444 rfl) l0 ?_
        refine ev_iload_n (mm 445 rfl) l3 ?_
        refine ev_iconst (mm 446 rfl) cI_3 ?_
        refine ev_iadd (mm 447 rfl) ?_
        obtain ⟨v281, e282, h⟩ := bind_so h
        refine ev_xload rfl (mm 448 rfl) e282 ?_
        obtain ⟨_, e297, h⟩ := bind_so h
        obtain ⟨p283, e284, h⟩ := bind_so h
        refine ev_callV_I [.int (v277), .int (v279), .int (v281)] (mm 449 rfl) rfl rfl (Nat.le_of_ble_eq_true rfl) (s_ob_of e297) (f87_ok e284 (d + 126)) ?_
        refine ev_aload_nR (mm 450 rfl) l2 ?_
        refine ev_aload_nX (mm 451 rfl) l0 ?_
        refine ev_iload_n (mm 452 rfl) l3 ?_
        refine ev_iconst (mm 453 rfl) cI_1 ?_
        refine ev_iadd (mm 454 rfl) ?_
        obtain ⟨v285, e286, h⟩ := bind_so h
        refine ev_xload rfl (mm 455 rfl) e286 ?_
        refine ev_aload_nX (mm 456 rfl) l0 ?_
        refine ev_iload_n (mm 457 rfl) l3 ?_
        refine ev_iconst (mm 458 rfl) cI_2 ?_
        refine ev_iadd (mm 459 rfl) ?_
        obtain ⟨v287, e288, h⟩ := bind_so h
        refine ev_xload rfl (mm 460 rfl) e288 ?_
        refine ev_aload_nX (mm 461 rfl) l0 ?_
        refine ev_iload_n (mm 462 rfl) l3 ?_
        refine ev_iconst (mm 463 rfl) cI_3 ?_
        refine ev_iadd (mm 464 rfl) ?_
        obtain ⟨v289, e290, h⟩ := bind_so h
        refine ev_xload rfl (mm 465 rfl) e290 ?_
        obtain ⟨_, e296, h⟩ := bind_so h
        obtain ⟨p291, e292, h⟩ := bind_so h
        refine ev_callV_I [.int (v285), .int (v287), .int (v289)] (mm 466 rfl) rfl rfl (Nat.le_of_ble_eq_true rfl) (s_ob_of e296) (f164_ok e292 (d + 126)) ?_
        rcases ite_so h with ⟨c293, h⟩ | ⟨c293, h⟩
        · refine ev_ic_t 1241 (mm 467 rfl) rfl c293 ?_
          refine evs_iinc (mm 935 rfl) cI_6 l3 (by decide) (fun lv294 l3 s295 => ?_)
          have l0 := s295 _ _ l0 rfl
          have l1 := s295 _ _ l1 rfl
          have l2 := s295 _ _ l2 rfl
          refine ev_goto 18 (mm 936 rfl) rfl ?_
          exact ih l0 l1 l2 l3 h
        · refine ev_ic_f 1241 (mm 467 rfl) rfl c293 ?_
          refine ev_iconst (mm 468 rfl) cI_0 ?_
          exact ev_zreturn (mm 469 rfl) h
      rcases ite_so h with ⟨c298, h⟩ | ⟨c298, h⟩
      · refine ev_tsw (off := 659) 692 14 (mm 21 rfl) c298 rfl rfl ?_
        refine ev_aload_nR (mm 470 rfl) l1 ?_
        refine ev_aload_nX (mm 471 rfl) l0 ?_
        refine ev_iload_n (mm 472 rfl) l3 ?_
        refine ev_iconst (mm 473 rfl) cI_1 ?_
        refine ev_iadd (mm 474 rfl) ?_
        obtain ⟨v299, e300, h⟩ := bind_so h
        refine ev_xload rfl (mm 475 rfl) e300 ?_
        refine ev_aload_nX (mm 476 rfl) l0 ?_
        refine ev_iload_n (mm 477 rfl) l3 ?_
        refine ev_iconst (mm 478 rfl) cI_2 ?_
        refine ev_iadd (mm 479 rfl) ?_
        obtain ⟨v301, e302, h⟩ := bind_so h
        refine ev_xload rfl (mm 480 rfl) e302 ?_
        refine ev_aload_nX (mm 481 rfl) l0 ?_
        refine ev_iload_n (mm 482 rfl) l3 ?_
        refine ev_iconst (mm 483 rfl) cI_3 ?_
        refine ev_iadd (mm 484 rfl) ?_
        obtain ⟨v303, e304, h⟩ := bind_so h
        refine ev_xload rfl (mm 485 rfl) e304 ?_
        obtain ⟨_, e319, h⟩ := bind_so h
        obtain ⟨p305, e306, h⟩ := bind_so h
        refine ev_callV_J [.int (v299), .int (v301), .int (v303)] (mm 486 rfl) rfl rfl (Nat.le_of_ble_eq_true rfl) (s_ob_of e319) (f88_ok e306 (d + 122)) ?_
        refine ev_aload_nR (mm 487 rfl) l2 ?_
        refine ev_aload_nX (mm 488 rfl) l0 ?_
        refine ev_iload_n (mm 489 rfl) l3 ?_
        refine ev_iconst (mm 490 rfl) cI_1 ?_
        refine ev_iadd (mm 491 rfl) ?_
        obtain ⟨v307, e308, h⟩ := bind_so h
        refine ev_xload rfl (mm 492 rfl) e308 ?_
        refine ev_aload_nX (mm 493 rfl) l0 ?_
        refine ev_iload_n (mm 494 rfl) l3 ?_
        refine ev_iconst (mm 495 rfl) cI_2 ?_
        refine ev_iadd (mm 496 rfl) ?_
        obtain ⟨v309, e310, h⟩ := bind_so h
        refine ev_xload rfl (mm 497 rfl) e310 ?_
        refine ev_aload_nX (mm 498 rfl) l0 ?_
        refine ev_iload_n (mm 499 rfl) l3 ?_
        refine ev_iconst (mm 500 rfl) cI_3 ?_
        refine ev_iadd (mm 501 rfl) ?_
        obtain ⟨v311, e312, h⟩ := bind_so h
        refine ev_xload rfl (mm 502 rfl) e312 ?_
        obtain ⟨_, e318, h⟩ := bind_so h
        obtain ⟨p313, e314, h⟩ := bind_so h
        refine ev_callV_J [.int (v307), .int (v309), .int (v311)] (mm 503 rfl) rfl rfl (Nat.le_of_ble_eq_true rfl) (s_ob_of e318) (f178_ok e314 (d + 121)) ?_
        refine ev_lcmp (mm 504 rfl) ?_
        rcases ite_so h with ⟨c315, h⟩ | ⟨c315, h⟩
        · refine ev_if_t 1241 (mm 505 rfl) rfl c315 ?_
          refine evs_iinc (mm 935 rfl) cI_6 l3 (by decide) (fun lv316 l3 s317 => ?_)
          have l0 := s317 _ _ l0 rfl
          have l1 := s317 _ _ l1 rfl
          have l2 := s317 _ _ l2 rfl
          refine ev_goto 18 (mm 936 rfl) rfl ?_
          exact ih l0 l1 l2 l3 h
        · refine ev_if_f 1241 (mm 505 rfl) rfl c315 ?_
          refine ev_iconst (mm 506 rfl) cI_0 ?_
          exact ev_zreturn (mm 507 rfl) h
      rcases ite_so h with ⟨c320, h⟩ | ⟨c320, h⟩
      · refine ev_tsw (off := 703) 736 15 (mm 21 rfl) c320 rfl rfl ?_
        refine ev_aload_nR (mm 508 rfl) l1 ?_
        refine ev_aload_nX (mm 509 rfl) l0 ?_
        refine ev_iload_n (mm 510 rfl) l3 ?_
        refine ev_iconst (mm 511 rfl) cI_1 ?_
        refine ev_iadd (mm 512 rfl) ?_
        obtain ⟨v321, e322, h⟩ := bind_so h
        refine ev_xload rfl (mm 513 rfl) e322 ?_
        refine ev_aload_nX (mm 514 rfl) l0 ?_
        refine ev_iload_n (mm 515 rfl) l3 ?_
        refine ev_iconst (mm 516 rfl) cI_2 ?_
        refine ev_iadd (mm 517 rfl) ?_
        obtain ⟨v323, e324, h⟩ := bind_so h
        refine ev_xload rfl (mm 518 rfl) e324 ?_
        refine ev_aload_nX (mm 519 rfl) l0 ?_
        refine ev_iload_n (mm 520 rfl) l3 ?_
        refine ev_iconst (mm 521 rfl) cI_3 ?_
        refine ev_iadd (mm 522 rfl) ?_
        obtain ⟨v325, e326, h⟩ := bind_so h
        refine ev_xload rfl (mm 523 rfl) e326 ?_
        obtain ⟨_, e341, h⟩ := bind_so h
        obtain ⟨p327, e328, h⟩ := bind_so h
        refine ev_callV_J [.int (v321), .int (v323), .int (v325)] (mm 524 rfl) rfl rfl (Nat.le_of_ble_eq_true rfl) (s_ob_of e341) (f89_ok e328 (d + 122)) ?_
        refine ev_aload_nR (mm 525 rfl) l2 ?_
        refine ev_aload_nX (mm 526 rfl) l0 ?_
        refine ev_iload_n (mm 527 rfl) l3 ?_
        refine ev_iconst (mm 528 rfl) cI_1 ?_
        refine ev_iadd (mm 529 rfl) ?_
        obtain ⟨v329, e330, h⟩ := bind_so h
        refine ev_xload rfl (mm 530 rfl) e330 ?_
        refine ev_aload_nX (mm 531 rfl) l0 ?_
        refine ev_iload_n (mm 532 rfl) l3 ?_
        refine ev_iconst (mm 533 rfl) cI_2 ?_
        refine ev_iadd (mm 534 rfl) ?_
        obtain ⟨v331, e332, h⟩ := bind_so h
        refine ev_xload rfl (mm 535 rfl) e332 ?_
        refine ev_aload_nX (mm 536 rfl) l0 ?_
        refine ev_iload_n (mm 537 rfl) l3 ?_
        refine ev_iconst (mm 538 rfl) cI_3 ?_
        refine ev_iadd (mm 539 rfl) ?_
        obtain ⟨v333, e334, h⟩ := bind_so h
        refine ev_xload rfl (mm 540 rfl) e334 ?_
        obtain ⟨_, e340, h⟩ := bind_so h
        obtain ⟨p335, e336, h⟩ := bind_so h
        refine ev_callV_J [.int (v329), .int (v331), .int (v333)] (mm 541 rfl) rfl rfl (Nat.le_of_ble_eq_true rfl) (s_ob_of e340) (f183_ok e336 (d + 120)) ?_
        refine ev_lcmp (mm 542 rfl) ?_
        rcases ite_so h with ⟨c337, h⟩ | ⟨c337, h⟩
        · refine ev_if_t 1241 (mm 543 rfl) rfl c337 ?_
          refine evs_iinc (mm 935 rfl) cI_6 l3 (by decide) (fun lv338 l3 s339 => ?_)
          have l0 := s339 _ _ l0 rfl
          have l1 := s339 _ _ l1 rfl
          have l2 := s339 _ _ l2 rfl
          refine ev_goto 18 (mm 936 rfl) rfl ?_
          exact ih l0 l1 l2 l3 h
        · refine ev_if_f 1241 (mm 543 rfl) rfl c337 ?_
          refine ev_iconst (mm 544 rfl) cI_0 ?_
          exact ev_zreturn (mm 545 rfl) h
      rcases ite_so h with ⟨c342, h⟩ | ⟨c342, h⟩
      · refine ev_tsw (off := 747) 780 16 (mm 21 rfl) c342 rfl rfl ?_
        refine ev_aload_nR (mm 546 rfl) l1 ?_
        refine ev_aload_nX (mm 547 rfl) l0 ?_
        refine ev_iload_n (mm 548 rfl) l3 ?_
        refine ev_iconst (mm 549 rfl) cI_1 ?_
        refine ev_iadd (mm 550 rfl) ?_
        obtain ⟨v343, e344, h⟩ := bind_so h
        refine ev_xload rfl (mm 551 rfl) e344 ?_
        refine ev_aload_nX (mm 552 rfl) l0 ?_
        refine ev_iload_n (mm 553 rfl) l3 ?_
        refine ev_iconst (mm 554 rfl) cI_2 ?_
        refine ev_iadd (mm 555 rfl) ?_
        obtain ⟨v345, e346, h⟩ := bind_so h
        refine ev_xload rfl (mm 556 rfl) e346 ?_
        obtain ⟨_, e359, h⟩ := bind_so h
        obtain ⟨p347, e348, h⟩ := bind_so h
        refine ev_callV_J [.int (v343), .int (v345)] (mm 557 rfl) rfl rfl (Nat.le_of_ble_eq_true rfl) (s_ob_of e359) (f90_ok e348 (d + 122)) ?_
        refine ev_aload_nR (mm 558 rfl) l2 ?_
        refine ev_aload_nX (mm 559 rfl) l0 ?_
        refine ev_iload_n (mm 560 rfl) l3 ?_
        refine ev_iconst (mm 561 rfl) cI_1 ?_
        refine ev_iadd (mm 562 rfl) ?_
        obtain ⟨v349, e350, h⟩ := bind_so h
        refine ev_xload rfl (mm 563 rfl) e350 ?_
        refine ev_aload_nX (mm 564 rfl) l0 ?_
        refine ev_iload_n (mm 565 rfl) l3 ?_
        refine ev_iconst (mm 566 rfl) cI_2 ?_
        refine ev_iadd (mm 567 rfl) ?_
        obtain ⟨v351, e352, h⟩ := bind_so h
        refine ev_xload rfl (mm 568 rfl) e352 ?_
        obtain ⟨_, e358, h⟩ := bind_so h
        obtain ⟨p353, e354, h⟩ := bind_so h
        refine ev_callV_J [.int (v349), .int (v351)] (mm 569 rfl) rfl rfl (Nat.le_of_ble_eq_true rfl) (s_ob_of e358) (f182_ok e354 (d + 120)) ?_
        refine ev_lcmp (mm 570 rfl) ?_
        rcases ite_so h with ⟨c355, h⟩ | ⟨c355, h⟩
        · refine ev_if_t 1241 (mm 571 rfl) rfl c355 ?_
          refine evs_iinc (mm 935 rfl) cI_6 l3 (by decide) (fun lv356 l3 s357 => ?_)
          have l0 := s357 _ _ l0 rfl
          have l1 := s357 _ _ l1 rfl
          have l2 := s357 _ _ l2 rfl
          refine ev_goto 18 (mm 936 rfl) rfl ?_
          exact ih l0 l1 l2 l3 h
        · refine ev_if_f 1241 (mm 571 rfl) rfl c355 ?_
          refine ev_iconst (mm 572 rfl) cI_0 ?_
          exact ev_zreturn (mm 573 rfl) h
      rcases ite_so h with ⟨c360, h⟩ | ⟨c360, h⟩
      · refine ev_tsw (off := 781) 814 17 (mm 21 rfl) c360 rfl rfl ?_
        refine ev_aload_nR (mm 574 rfl) l1 ?_
        refine ev_aload_nX (mm 575 rfl) l0 ?_
        refine ev_iload_n (mm 576 rfl) l3 ?_
        refine ev_iconst (mm 577 rfl) cI_1 ?_
        refine ev_iadd (mm 578 rfl) ?_
        obtain ⟨v361, e362, h⟩ := bind_so h
        refine ev_xload rfl (mm 579 rfl) e362 ?_
        refine ev_aload_nX (mm 580 rfl) l0 ?_
        refine ev_iload_n (mm 581 rfl) l3 ?_
        refine ev_iconst (mm 582 rfl) cI_2 ?_
        refine ev_iadd (mm 583 rfl) ?_
        obtain ⟨v363, e364, h⟩ := bind_so h
        refine ev_xload rfl (mm 584 rfl) e364 ?_
        obtain ⟨_, e377, h⟩ := bind_so h
        obtain ⟨p365, e366, h⟩ := bind_so h
        refine ev_callV_J [.int (v361), .int (v363)] (mm 585 rfl) rfl rfl (Nat.le_of_ble_eq_true rfl) (s_ob_of e377) (f91_ok e366 (d + 122)) ?_
        refine ev_aload_nR (mm 586 rfl) l2 ?_
        refine ev_aload_nX (mm 587 rfl) l0 ?_
        refine ev_iload_n (mm 588 rfl) l3 ?_
        refine ev_iconst (mm 589 rfl) cI_1 ?_
        refine ev_iadd (mm 590 rfl) ?_
        obtain ⟨v367, e368, h⟩ := bind_so h
        refine ev_xload rfl (mm 591 rfl) e368 ?_
        refine ev_aload_nX (mm 592 rfl) l0 ?_
        refine ev_iload_n (mm 593 rfl) l3 ?_
        refine ev_iconst (mm 594 rfl) cI_2 ?_
        refine ev_iadd (mm 595 rfl) ?_
        obtain ⟨v369, e370, h⟩ := bind_so h
        refine ev_xload rfl (mm 596 rfl) e370 ?_
        obtain ⟨_, e376, h⟩ := bind_so h
        obtain ⟨p371, e372, h⟩ := bind_so h
        refine ev_callV_J [.int (v367), .int (v369)] (mm 597 rfl) rfl rfl (Nat.le_of_ble_eq_true rfl) (s_ob_of e376) (f179_ok e372 (d + 121)) ?_
        refine ev_lcmp (mm 598 rfl) ?_
        rcases ite_so h with ⟨c373, h⟩ | ⟨c373, h⟩
        · refine ev_if_t 1241 (mm 599 rfl) rfl c373 ?_
          refine evs_iinc (mm 935 rfl) cI_6 l3 (by decide) (fun lv374 l3 s375 => ?_)
          have l0 := s375 _ _ l0 rfl
          have l1 := s375 _ _ l1 rfl
          have l2 := s375 _ _ l2 rfl
          refine ev_goto 18 (mm 936 rfl) rfl ?_
          exact ih l0 l1 l2 l3 h
        · refine ev_if_f 1241 (mm 599 rfl) rfl c373 ?_
          refine ev_iconst (mm 600 rfl) cI_0 ?_
          exact ev_zreturn (mm 601 rfl) h
      rcases ite_so h with ⟨c378, h⟩ | ⟨c378, h⟩
      · refine ev_tsw (off := 815) 848 18 (mm 21 rfl) c378 rfl rfl ?_
        refine ev_aload_nR (mm 602 rfl) l1 ?_
        refine ev_aload_nX (mm 603 rfl) l0 ?_
        refine ev_iload_n (mm 604 rfl) l3 ?_
        refine ev_iconst (mm 605 rfl) cI_1 ?_
        refine ev_iadd (mm 606 rfl) ?_
        obtain ⟨v379, e380, h⟩ := bind_so h
        refine ev_xload rfl (mm 607 rfl) e380 ?_
        refine ev_aload_nX (mm 608 rfl) l0 ?_
        refine ev_iload_n (mm 609 rfl) l3 ?_
        refine ev_iconst (mm 610 rfl) cI_2 ?_
        refine ev_iadd (mm 611 rfl) ?_
        obtain ⟨v381, e382, h⟩ := bind_so h
        refine ev_xload rfl (mm 612 rfl) e382 ?_
        refine ev_aload_nX (mm 613 rfl) l0 ?_
        refine ev_iload_n (mm 614 rfl) l3 ?_
        refine ev_iconst (mm 615 rfl) cI_3 ?_
        refine ev_iadd (mm 616 rfl) ?_
        obtain ⟨v383, e384, h⟩ := bind_so h
        refine ev_xload rfl (mm 617 rfl) e384 ?_
        refine ev_aload_nX (mm 618 rfl) l0 ?_
        refine ev_iload_n (mm 619 rfl) l3 ?_
        refine ev_iconst (mm 620 rfl) cI_4 ?_
        refine ev_iadd (mm 621 rfl) ?_
        obtain ⟨v385, e386, h⟩ := bind_so h
        refine ev_xload rfl (mm 622 rfl) e386 ?_
        refine ev_aload_nX (mm 623 rfl) l0 ?_
        refine ev_iload_n (mm 624 rfl) l3 ?_
        refine ev_iconst (mm 625 rfl) cI_5 ?_
        refine ev_iadd (mm 626 rfl) ?_
        obtain ⟨v387, e388, h⟩ := bind_so h
        refine ev_xload rfl (mm 627 rfl) e388 ?_
        obtain ⟨_, e407, h⟩ := bind_so h
        obtain ⟨p389, e390, h⟩ := bind_so h
        refine ev_callV_I [.int (v379), .int (v381), .int (v383), .int (v385), .int (v387)] (mm 628 rfl) rfl rfl (Nat.le_of_ble_eq_true rfl) (s_ob_of e407) (f92_ok e390 (d + 125)) ?_
        refine ev_aload_nR (mm 629 rfl) l2 ?_
        refine ev_aload_nX (mm 630 rfl) l0 ?_
        refine ev_iload_n (mm 631 rfl) l3 ?_
        refine ev_iconst (mm 632 rfl) cI_1 ?_
        refine ev_iadd (mm 633 rfl) ?_
        obtain ⟨v391, e392, h⟩ := bind_so h
        refine ev_xload rfl (mm 634 rfl) e392 ?_
        refine ev_aload_nX (mm 635 rfl) l0 ?_
        refine ev_iload_n (mm 636 rfl) l3 ?_
        refine ev_iconst (mm 637 rfl) cI_2 ?_
        refine ev_iadd (mm 638 rfl) ?_
        obtain ⟨v393, e394, h⟩ := bind_so h
        refine ev_xload rfl (mm 639 rfl) e394 ?_
        refine ev_aload_nX (mm 640 rfl) l0 ?_
        refine ev_iload_n (mm 641 rfl) l3 ?_
        refine ev_iconst (mm 642 rfl) cI_3 ?_
        refine ev_iadd (mm 643 rfl) ?_
        obtain ⟨v395, e396, h⟩ := bind_so h
        refine ev_xload rfl (mm 644 rfl) e396 ?_
        refine ev_aload_nX (mm 645 rfl) l0 ?_
        refine ev_iload_n (mm 646 rfl) l3 ?_
        refine ev_iconst (mm 647 rfl) cI_4 ?_
        refine ev_iadd (mm 648 rfl) ?_
        obtain ⟨v397, e398, h⟩ := bind_so h
        refine ev_xload rfl (mm 649 rfl) e398 ?_
        refine ev_aload_nX (mm 650 rfl) l0 ?_
        refine ev_iload_n (mm 651 rfl) l3 ?_
        refine ev_iconst (mm 652 rfl) cI_5 ?_
        refine ev_iadd (mm 653 rfl) ?_
        obtain ⟨v399, e400, h⟩ := bind_so h
        refine ev_xload rfl (mm 654 rfl) e400 ?_
        obtain ⟨_, e406, h⟩ := bind_so h
        obtain ⟨p401, e402, h⟩ := bind_so h
        refine ev_callV_I [.int (v391), .int (v393), .int (v395), .int (v397), .int (v399)] (mm 655 rfl) rfl rfl (Nat.le_of_ble_eq_true rfl) (s_ob_of e406) (f184_ok e402 (d + 126)) ?_
        rcases ite_so h with ⟨c403, h⟩ | ⟨c403, h⟩
        · refine ev_ic_t 1241 (mm 656 rfl) rfl c403 ?_
          refine evs_iinc (mm 935 rfl) cI_6 l3 (by decide) (fun lv404 l3 s405 => ?_)
          have l0 := s405 _ _ l0 rfl
          have l1 := s405 _ _ l1 rfl
          have l2 := s405 _ _ l2 rfl
          refine ev_goto 18 (mm 936 rfl) rfl ?_
          exact ih l0 l1 l2 l3 h
        · refine ev_ic_f 1241 (mm 656 rfl) rfl c403 ?_
          refine ev_iconst (mm 657 rfl) cI_0 ?_
          exact ev_zreturn (mm 658 rfl) h
      rcases ite_so h with ⟨c408, h⟩ | ⟨c408, h⟩
      · refine ev_tsw (off := 878) 911 19 (mm 21 rfl) c408 rfl rfl ?_
        refine ev_aload_nR (mm 659 rfl) l1 ?_
        refine ev_aload_nX (mm 660 rfl) l0 ?_
        refine ev_iload_n (mm 661 rfl) l3 ?_
        refine ev_iconst (mm 662 rfl) cI_1 ?_
        refine ev_iadd (mm 663 rfl) ?_
        obtain ⟨v409, e410, h⟩ := bind_so h
        refine ev_xload rfl (mm 664 rfl) e410 ?_
        refine ev_aload_nX (mm 665 rfl) l0 ?_
        refine ev_iload_n (mm 666 rfl) l3 ?_
        refine ev_iconst (mm 667 rfl) cI_2 ?_
        refine ev_iadd (mm 668 rfl) ?_
        obtain ⟨v411, e412, h⟩ := bind_so h
        refine ev_xload rfl (mm 669 rfl) e412 ?_
        obtain ⟨_, e425, h⟩ := bind_so h
        obtain ⟨p413, e414, h⟩ := bind_so h
        refine ev_callV_I [.int (v409), .int (v411)] (mm 670 rfl) rfl rfl (Nat.le_of_ble_eq_true rfl) (s_ob_of e425) (f93_ok e414 (d + 126)) ?_
        refine ev_aload_nR (mm 671 rfl) l2 ?_
        refine ev_aload_nX (mm 672 rfl) l0 ?_
        refine ev_iload_n (mm 673 rfl) l3 ?_
        refine ev_iconst (mm 674 rfl) cI_1 ?_
        refine ev_iadd (mm 675 rfl) ?_
        obtain ⟨v415, e416, h⟩ := bind_so h
        refine ev_xload rfl (mm 676 rfl) e416 ?_
        refine ev_aload_nX (mm 677 rfl) l0 ?_
        refine ev_iload_n (mm 678 rfl) l3 ?_
        refine ev_iconst (mm 679 rfl) cI_2 ?_
        refine ev_iadd (mm 680 rfl) ?_
        obtain ⟨v417, e418, h⟩ := bind_so h
        refine ev_xload rfl (mm 681 rfl) e418 ?_
        obtain ⟨_, e424, h⟩ := bind_so h
        obtain ⟨p419, e420, h⟩ := bind_so h
        refine ev_callV_I [.int (v415), .int (v417)] (mm 682 rfl) rfl rfl (Nat.le_of_ble_eq_true rfl) (s_ob_of e424) (f185_ok e420 (d + 126)) ?_
        rcases ite_so h with ⟨c421, h⟩ | ⟨c421, h⟩
        · refine ev_ic_t 1241 (mm 683 rfl) rfl c421 ?_
          refine evs_iinc (mm 935 rfl) cI_6 l3 (by decide) (fun lv422 l3 s423 => ?_)
          have l0 := s423 _ _ l0 rfl
          have l1 := s423 _ _ l1 rfl
          have l2 := s423 _ _ l2 rfl
          refine ev_goto 18 (mm 936 rfl) rfl ?_
          exact ih l0 l1 l2 l3 h
        · refine ev_ic_f 1241 (mm 683 rfl) rfl c421 ?_
          refine ev_iconst (mm 684 rfl) cI_0 ?_
          exact ev_zreturn (mm 685 rfl) h
      rcases ite_so h with ⟨c426, h⟩ | ⟨c426, h⟩
      · refine ev_tsw (off := 911) 944 20 (mm 21 rfl) c426 rfl rfl ?_
        refine ev_aload_nR (mm 686 rfl) l1 ?_
        refine ev_aload_nX (mm 687 rfl) l0 ?_
        refine ev_iload_n (mm 688 rfl) l3 ?_
        refine ev_iconst (mm 689 rfl) cI_1 ?_
        refine ev_iadd (mm 690 rfl) ?_
        obtain ⟨v427, e428, h⟩ := bind_so h
        refine ev_xload rfl (mm 691 rfl) e428 ?_
        obtain ⟨_, e439, h⟩ := bind_so h
        obtain ⟨p429, e430, h⟩ := bind_so h
        refine ev_callV_I [.int (v427)] (mm 692 rfl) rfl rfl (Nat.le_of_ble_eq_true rfl) (s_ob_of e439) (f94_ok e430 (d + 121)) ?_
        refine ev_aload_nR (mm 693 rfl) l2 ?_
        refine ev_aload_nX (mm 694 rfl) l0 ?_
        refine ev_iload_n (mm 695 rfl) l3 ?_
        refine ev_iconst (mm 696 rfl) cI_1 ?_
        refine ev_iadd (mm 697 rfl) ?_
        obtain ⟨v431, e432, h⟩ := bind_so h
        refine ev_xload rfl (mm 698 rfl) e432 ?_
        obtain ⟨_, e438, h⟩ := bind_so h
        obtain ⟨p433, e434, h⟩ := bind_so h
        refine ev_callV_I [.int (v431)] (mm 699 rfl) rfl rfl (Nat.le_of_ble_eq_true rfl) (s_ob_of e438) (f186_ok e434 (d + 121)) ?_
        rcases ite_so h with ⟨c435, h⟩ | ⟨c435, h⟩
        · refine ev_ic_t 1241 (mm 700 rfl) rfl c435 ?_
          refine evs_iinc (mm 935 rfl) cI_6 l3 (by decide) (fun lv436 l3 s437 => ?_)
          have l0 := s437 _ _ l0 rfl
          have l1 := s437 _ _ l1 rfl
          have l2 := s437 _ _ l2 rfl
          refine ev_goto 18 (mm 936 rfl) rfl ?_
          exact ih l0 l1 l2 l3 h
        · refine ev_ic_f 1241 (mm 700 rfl) rfl c435 ?_
          refine ev_iconst (mm 701 rfl) cI_0 ?_
          exact ev_zreturn (mm 702 rfl) h
      rcases ite_so h with ⟨c440, h⟩ | ⟨c440, h⟩
      · refine ev_tsw (off := 934) 967 21 (mm 21 rfl) c440 rfl rfl ?_
        refine ev_aload_nR (mm 703 rfl) l1 ?_
        refine ev_aload_nX (mm 704 rfl) l0 ?_
        refine ev_iload_n (mm 705 rfl) l3 ?_
        refine ev_iconst (mm 706 rfl) cI_1 ?_
        refine ev_iadd (mm 707 rfl) ?_
        obtain ⟨v441, e442, h⟩ := bind_so h
        refine ev_xload rfl (mm 708 rfl) e442 ?_
        refine ev_aload_nX (mm 709 rfl) l0 ?_
        refine ev_iload_n (mm 710 rfl) l3 ?_
        refine ev_iconst (mm 711 rfl) cI_2 ?_
        refine ev_iadd (mm 712 rfl) ?_
        obtain ⟨v443, e444, h⟩ := bind_so h
        refine ev_xload rfl (mm 713 rfl) e444 ?_
        obtain ⟨_, e457, h⟩ := bind_so h
        obtain ⟨p445, e446, h⟩ := bind_so h
        refine ev_callV_J [.int (v441), .int (v443)] (mm 714 rfl) rfl rfl (Nat.le_of_ble_eq_true rfl) (s_ob_of e457) (f95_ok e446 (d + 122)) ?_
        refine ev_aload_nR (mm 715 rfl) l2 ?_
        refine ev_aload_nX (mm 716 rfl) l0 ?_
        refine ev_iload_n (mm 717 rfl) l3 ?_
        refine ev_iconst (mm 718 rfl) cI_1 ?_
        refine ev_iadd (mm 719 rfl) ?_
        obtain ⟨v447, e448, h⟩ := bind_so h
        refine ev_xload rfl (mm 720 rfl) e448 ?_
        refine ev_aload_nX (mm 721 rfl) l0 ?_
        refine ev_iload_n (mm 722 rfl) l3 ?_
        refine ev_iconst (mm 723 rfl) cI_2 ?_
        refine ev_iadd (mm 724 rfl) ?_
        obtain ⟨v449, e450, h⟩ := bind_so h
        refine ev_xload rfl (mm 725 rfl) e450 ?_
        obtain ⟨_, e456, h⟩ := bind_so h
        obtain ⟨p451, e452, h⟩ := bind_so h
        refine ev_callV_J [.int (v447), .int (v449)] (mm 726 rfl) rfl rfl (Nat.le_of_ble_eq_true rfl) (s_ob_of e456) (f188_ok e452 (d + 121)) ?_
        refine ev_lcmp (mm 727 rfl) ?_
        rcases ite_so h with ⟨c453, h⟩ | ⟨c453, h⟩
        · refine ev_if_t 1241 (mm 728 rfl) rfl c453 ?_
          refine evs_iinc (mm 935 rfl) cI_6 l3 (by decide) (fun lv454 l3 s455 => ?_)
          have l0 := s455 _ _ l0 rfl
          have l1 := s455 _ _ l1 rfl
          have l2 := s455 _ _ l2 rfl
          refine ev_goto 18 (mm 936 rfl) rfl ?_
          exact ih l0 l1 l2 l3 h
        · refine ev_if_f 1241 (mm 728 rfl) rfl c453 ?_
          refine ev_iconst (mm 729 rfl) cI_0 ?_
          exact ev_zreturn (mm 730 rfl) h
      rcases ite_so h with ⟨c458, h⟩ | ⟨c458, h⟩
      · refine ev_tsw (off := 968) 1001 22 (mm 21 rfl) c458 rfl rfl ?_
        refine ev_aload_nR (mm 731 rfl) l1 ?_
        refine ev_aload_nX (mm 732 rfl) l0 ?_
        refine ev_iload_n (mm 733 rfl) l3 ?_
        refine ev_iconst (mm 734 rfl) cI_1 ?_
        refine ev_iadd (mm 735 rfl) ?_
        obtain ⟨v459, e460, h⟩ := bind_so h
        refine ev_xload rfl (mm 736 rfl) e460 ?_
        obtain ⟨_, e471, h⟩ := bind_so h
        obtain ⟨p461, e462, h⟩ := bind_so h
        refine ev_callV_I [.int (v459)] (mm 737 rfl) rfl rfl (Nat.le_of_ble_eq_true rfl) (s_ob_of e471) (f96_ok e462 (d + 122)) ?_
        refine ev_aload_nR (mm 738 rfl) l2 ?_
        refine ev_aload_nX (mm 739 rfl) l0 ?_
        refine ev_iload_n (mm 740 rfl) l3 ?_
        refine ev_iconst (mm 741 rfl) cI_1 ?_
        refine ev_iadd (mm 742 rfl) ?_
        obtain ⟨v463, e464, h⟩ := bind_so h
        refine ev_xload rfl (mm 743 rfl) e464 ?_
        obtain ⟨_, e470, h⟩ := bind_so h
        obtain ⟨p465, e466, h⟩ := bind_so h
        refine ev_callV_I [.int (v463)] (mm 744 rfl) rfl rfl (Nat.le_of_ble_eq_true rfl) (s_ob_of e470) (f189_ok e466 (d + 121)) ?_
        rcases ite_so h with ⟨c467, h⟩ | ⟨c467, h⟩
        · refine ev_ic_t 1241 (mm 745 rfl) rfl c467 ?_
          refine evs_iinc (mm 935 rfl) cI_6 l3 (by decide) (fun lv468 l3 s469 => ?_)
          have l0 := s469 _ _ l0 rfl
          have l1 := s469 _ _ l1 rfl
          have l2 := s469 _ _ l2 rfl
          refine ev_goto 18 (mm 936 rfl) rfl ?_
          exact ih l0 l1 l2 l3 h
        · refine ev_ic_f 1241 (mm 745 rfl) rfl c467 ?_
          refine ev_iconst (mm 746 rfl) cI_0 ?_
          exact ev_zreturn (mm 747 rfl) h
      rcases ite_so h with ⟨c472, h⟩ | ⟨c472, h⟩
      · refine ev_tsw (off := 991) 1024 23 (mm 21 rfl) c472 rfl rfl ?_
        refine ev_aload_nR (mm 748 rfl) l1 ?_
        refine ev_aload_nX (mm 749 rfl) l0 ?_
        refine ev_iload_n (mm 750 rfl) l3 ?_
        refine ev_iconst (mm 751 rfl) cI_1 ?_
        refine ev_iadd (mm 752 rfl) ?_
        obtain ⟨v473, e474, h⟩ := bind_so h
        refine ev_xload rfl (mm 753 rfl) e474 ?_
        refine ev_aload_nX (mm 754 rfl) l0 ?_
        refine ev_iload_n (mm 755 rfl) l3 ?_
        refine ev_iconst (mm 756 rfl) cI_2 ?_
        refine ev_iadd (mm 757 rfl) ?_
        obtain ⟨v475, e476, h⟩ := bind_so h
        refine ev_xload rfl (mm 758 rfl) e476 ?_
        refine ev_aload_nX (mm 759 rfl) l0 ?_
        refine ev_iload_n (mm 760 rfl) l3 ?_
        refine ev_iconst (mm 761 rfl) cI_3 ?_
        refine ev_iadd (mm 762 rfl) ?_
        obtain ⟨v477, e478, h⟩ := bind_so h
        refine ev_xload rfl (mm 763 rfl) e478 ?_
        obtain ⟨_, e493, h⟩ := bind_so h
        obtain ⟨p479, e480, h⟩ := bind_so h
        refine ev_callV_J [.int (v473), .int (v475), .int (v477)] (mm 764 rfl) rfl rfl (Nat.le_of_ble_eq_true rfl) (s_ob_of e493) (f97_ok e480 (d + 122)) ?_
        refine ev_aload_nR (mm 765 rfl) l2 ?_
        refine ev_aload_nX (mm 766 rfl) l0 ?_
        refine ev_iload_n (mm 767 rfl) l3 ?_
        refine ev_iconst (mm 768 rfl) cI_1 ?_
        refine ev_iadd (mm 769 rfl) ?_
        obtain ⟨v481, e482, h⟩ := bind_so h
        refine ev_xload rfl (mm 770 rfl) e482 ?_
        refine ev_aload_nX (mm 771 rfl) l0 ?_
        refine ev_iload_n (mm 772 rfl) l3 ?_
        refine ev_iconst (mm 773 rfl) cI_2 ?_
        refine ev_iadd (mm 774 rfl) ?_
        obtain ⟨v483, e484, h⟩ := bind_so h
        refine ev_xload rfl (mm 775 rfl) e484 ?_
        refine ev_aload_nX (mm 776 rfl) l0 ?_
        refine ev_iload_n (mm 777 rfl) l3 ?_
        refine ev_iconst (mm 778 rfl) cI_3 ?_
        refine ev_iadd (mm 779 rfl) ?_
        obtain ⟨v485, e486, h⟩ := bind_so h
        refine ev_xload rfl (mm 780 rfl) e486 ?_
        obtain ⟨_, e492, h⟩ := bind_so h
        obtain ⟨p487, e488, h⟩ := bind_so h
        refine ev_callV_J [.int (v481), .int (v483), .int (v485)] (mm 781 rfl) rfl rfl (Nat.le_of_ble_eq_true rfl) (s_ob_of e492) (f190_ok e488 (d + 121)) ?_
        refine ev_lcmp (mm 782 rfl) ?_
        rcases ite_so h with ⟨c489, h⟩ | ⟨c489, h⟩
        · refine ev_if_t 1241 (mm 783 rfl) rfl c489 ?_
          refine evs_iinc (mm 935 rfl) cI_6 l3 (by decide) (fun lv490 l3 s491 => ?_)
          have l0 := s491 _ _ l0 rfl
          have l1 := s491 _ _ l1 rfl
          have l2 := s491 _ _ l2 rfl
          refine ev_goto 18 (mm 936 rfl) rfl ?_
          exact ih l0 l1 l2 l3 h
        · refine ev_if_f 1241 (mm 783 rfl) rfl c489 ?_
          refine ev_iconst (mm 784 rfl) cI_0 ?_
          exact ev_zreturn (mm 785 rfl) h
      rcases ite_so h with ⟨c494, h⟩ | ⟨c494, h⟩
      · refine ev_tsw (off := 1035) 1068 24 (mm 21 rfl) c494 rfl rfl ?_
        refine ev_aload_nR (mm 786 rfl) l1 ?_
        refine ev_aload_nX (mm 787 rfl) l0 ?_
        refine ev_iload_n (mm 788 rfl) l3 ?_
        refine ev_iconst (mm 789 rfl) cI_1 ?_
        refine ev_iadd (mm 790 rfl) ?_
        obtain ⟨v495, e496, h⟩ := bind_so h
        refine ev_xload rfl (mm 791 rfl) e496 ?_
        refine ev_aload_nX (mm 792 rfl) l0 ?_
        refine ev_iload_n (mm 793 rfl) l3 ?_
        refine ev_iconst (mm 794 rfl) cI_2 ?_
        refine ev_iadd (mm 795 rfl) ?_
        obtain ⟨v497, e498, h⟩ := bind_so h
        refine ev_xload rfl (mm 796 rfl) e498 ?_
        refine ev_aload_nX (mm 797 rfl) l0 ?_
        refine ev_iload_n (mm 798 rfl) l3 ?_
        refine ev_iconst (mm 799 rfl) cI_3 ?_
        refine ev_iadd (mm 800 rfl) ?_
        obtain ⟨v499, e500, h⟩ := bind_so h
        refine ev_xload rfl (mm 801 rfl) e500 ?_
        refine ev_aload_nX (mm 802 rfl) l0 ?_
        refine ev_iload_n (mm 803 rfl) l3 ?_
        refine ev_iconst (mm 804 rfl) cI_4 ?_
        refine ev_iadd (mm 805 rfl) ?_
        obtain ⟨v501, e502, h⟩ := bind_so h
        refine ev_xload rfl (mm 806 rfl) e502 ?_
        refine ev_aload_nX (mm 807 rfl) l0 ?_
        refine ev_iload_n (mm 808 rfl) l3 ?_
        refine ev_iconst (mm 809 rfl) cI_5 ?_
        refine ev_iadd (mm 810 rfl) ?_
        obtain ⟨v503, e504, h⟩ := bind_so h
        refine ev_xload rfl (mm 811 rfl) e504 ?_
        obtain ⟨_, e523, h⟩ := bind_so h
        obtain ⟨p505, e506, h⟩ := bind_so h
        refine ev_callV_J [.int (v495), .int (v497), .int (v499), .int (v501), .int (v503)] (mm 812 rfl) rfl rfl (Nat.le_of_ble_eq_true rfl) (s_ob_of e523) (f98_ok e506 (d + 122)) ?_
        refine ev_aload_nR (mm 813 rfl) l2 ?_
        refine ev_aload_nX (mm 814 rfl) l0 ?_
        refine ev_iload_n (mm 815 rfl) l3 ?_
        refine ev_iconst (mm 816 rfl) cI_1 ?_
        refine ev_iadd (mm 817 rfl) ?_
        obtain ⟨v507, e508, h⟩ := bind_so h
        refine ev_xload rfl (mm 818 rfl) e508 ?_
        refine ev_aload_nX (mm 819 rfl) l0 ?_
        refine ev_iload_n (mm 820 rfl) l3 ?_
        refine ev_iconst (mm 821 rfl) cI_2 ?_
        refine ev_iadd (mm 822 rfl) ?_
        obtain ⟨v509, e510, h⟩ := bind_so h
        refine ev_xload rfl (mm 823 rfl) e510 ?_
        refine ev_aload_nX (mm 824 rfl) l0 ?_
        refine ev_iload_n (mm 825 rfl) l3 ?_
        refine ev_iconst (mm 826 rfl) cI_3 ?_
        refine ev_iadd (mm 827 rfl) ?_
        obtain ⟨v511, e512, h⟩ := bind_so h
        refine ev_xload rfl (mm 828 rfl) e512 ?_
        refine ev_aload_nX (mm 829 rfl) l0 ?_
        refine ev_iload_n (mm 830 rfl) l3 ?_
        refine ev_iconst (mm 831 rfl) cI_4 ?_
        refine ev_iadd (mm 832 rfl) ?_
        obtain ⟨v513, e514, h⟩ := bind_so h
        refine ev_xload rfl (mm 833 rfl) e514 ?_
        refine ev_aload_nX (mm 834 rfl) l0 ?_
        refine ev_iload_n (mm 835 rfl) l3 ?_
        refine ev_iconst (mm 836 rfl) cI_5 ?_
        refine ev_iadd (mm 837 rfl) ?_
        obtain ⟨v515, e516, h⟩ := bind_so h
        refine ev_xload rfl (mm 838 rfl) e516 ?_
        obtain ⟨_, e522, h⟩ := bind_so h
        obtain ⟨p517, e518, h⟩ := bind_so h
        refine ev_callV_J [.int (v507), .int (v509), .int (v511), .int (v513), .int (v515)] (mm 839 rfl) rfl rfl (Nat.le_of_ble_eq_true rfl) (s_ob_of e522) (f191_ok e518 (d + 121)) ?_
        refine ev_lcmp (mm 840 rfl) ?_
        rcases ite_so h with ⟨c519, h⟩ | ⟨c519, h⟩
        · refine ev_if_t 1241 (mm 841 rfl) rfl c519 ?_
          refine evs_iinc (mm 935 rfl) cI_6 l3 (by decide) (fun lv520 l3 s521 => ?_)
          have l0 := s521 _ _ l0 rfl
          have l1 := s521 _ _ l1 rfl
          have l2 := s521 _ _ l2 rfl
          refine ev_goto 18 (mm 936 rfl) rfl ?_
          exact ih l0 l1 l2 l3 h
        · refine ev_if_f 1241 (mm 841 rfl) rfl c519 ?_
          refine ev_iconst (mm 842 rfl) cI_0 ?_
          exact ev_zreturn (mm 843 rfl) h
      rcases ite_so h with ⟨c524, h⟩ | ⟨c524, h⟩
      · refine ev_tsw (off := 1099) 1132 25 (mm 21 rfl) c524 rfl rfl ?_
        refine ev_aload_nR (mm 844 rfl) l1 ?_
        refine ev_aload_nX (mm 845 rfl) l0 ?_
        refine ev_iload_n (mm 846 rfl) l3 ?_
        refine ev_iconst (mm 847 rfl) cI_1 ?_
        refine ev_iadd (mm 848 rfl) ?_
        obtain ⟨v525, e526, h⟩ := bind_so h
        refine ev_xload rfl (mm 849 rfl) e526 ?_
        refine ev_aload_nX (mm 850 rfl) l0 ?_
        refine ev_iload_n (mm 851 rfl) l3 ?_
        refine ev_iconst (mm 852 rfl) cI_2 ?_
        refine ev_iadd (mm 853 rfl) ?_
        obtain ⟨v527, e528, h⟩ := bind_so h
        refine ev_xload rfl (mm 854 rfl) e528 ?_
        refine ev_aload_nX (mm 855 rfl) l0 ?_
        refine ev_iload_n (mm 856 rfl) l3 ?_
        refine ev_iconst (mm 857 rfl) cI_3 ?_
        refine ev_iadd (mm 858 rfl) ?_
        obtain ⟨v529, e530, h⟩ := bind_so h
        refine ev_xload rfl (mm 859 rfl) e530 ?_
        refine ev_aload_nX (mm 860 rfl) l0 ?_
        refine ev_iload_n (mm 861 rfl) l3 ?_
        refine ev_iconst (mm 862 rfl) cI_4 ?_
        refine ev_iadd (mm 863 rfl) ?_
        obtain ⟨v531, e532, h⟩ := bind_so h
        refine ev_xload rfl (mm 864 rfl) e532 ?_
        obtain ⟨_, e549, h⟩ := bind_so h
        obtain ⟨p533, e534, h⟩ := bind_so h
        refine ev_callV_I [.int (v525), .int (v527), .int (v529), .int (v531)] (mm 865 rfl) rfl rfl (Nat.le_of_ble_eq_true rfl) (s_ob_of e549) (f99_ok e534 (d + 126)) ?_
        refine ev_aload_nR (mm 866 rfl) l2 ?_
        refine ev_aload_nX (mm 867 rfl) l0 ?_
        refine ev_iload_n (mm 868 rfl) l3 ?_
        refine ev_iconst (mm 869 rfl) cI_1 ?_
        refine ev_iadd (mm 870 rfl) ?_
        obtain ⟨v535, e536, h⟩ := bind_so h
        refine ev_xload rfl (mm 871 rfl) e536 ?_
        refine ev_aload_nX (mm 872 rfl) l0 ?_
        refine ev_iload_n (mm 873 rfl) l3 ?_
        refine ev_iconst (mm 874 rfl) cI_2 ?_
        refine ev_iadd (mm 875 rfl) ?_
        obtain ⟨v537, e538, h⟩ := bind_so h
        refine ev_xload rfl (mm 876 rfl) e538 ?_
        refine ev_aload_nX (mm 877 rfl) l0 ?_
        refine ev_iload_n (mm 878 rfl) l3 ?_
        refine ev_iconst (mm 879 rfl) cI_3 ?_
        refine ev_iadd (mm 880 rfl) ?_
        obtain ⟨v539, e540, h⟩ := bind_so h
        refine ev_xload rfl (mm 881 rfl) e540 ?_
        refine ev_aload_nX (mm 882 rfl) l0 ?_
        refine ev_iload_n (mm 883 rfl) l3 ?_
        refine ev_iconst (mm 884 rfl) cI_4 ?_
        refine ev_iadd (mm 885 rfl) ?_
        obtain ⟨v541, e542, h⟩ := bind_so h
        refine ev_xload rfl (mm 886 rfl) e542 ?_
        obtain ⟨_, e548, h⟩ := bind_so h
        obtain ⟨p543, e544, h⟩ := bind_so h
        refine ev_callV_I [.int (v535), .int (v537), .int (v539), .int (v541)] (mm 887 rfl) rfl rfl (Nat.le_of_ble_eq_true rfl) (s_ob_of e548) (f192_ok e544 (d + 126)) ?_
        rcases ite_so h with ⟨c545, h⟩ | ⟨c545, h⟩
        · refine ev_ic_t 1241 (mm 888 rfl) rfl c545 ?_
          refine evs_iinc (mm 935 rfl) cI_6 l3 (by decide) (fun lv546 l3 s547 => ?_)
          have l0 := s547 _ _ l0 rfl
          have l1 := s547 _ _ l1 rfl
          have l2 := s547 _ _ l2 rfl
          refine ev_goto 18 (mm 936 rfl) rfl ?_
          exact ih l0 l1 l2 l3 h
        · refine ev_ic_f 1241 (mm 888 rfl) rfl c545 ?_
          refine ev_iconst (mm 889 rfl) cI_0 ?_
          exact ev_zreturn (mm 890 rfl) h
      rcases ite_so h with ⟨c550, h⟩ | ⟨c550, h⟩
      · refine ev_tsw (off := 1152) 1185 26 (mm 21 rfl) c550 rfl rfl ?_
        refine ev_aload_nR (mm 891 rfl) l1 ?_
        refine ev_aload_nX (mm 892 rfl) l0 ?_
        refine ev_iload_n (mm 893 rfl) l3 ?_
        refine ev_iconst (mm 894 rfl) cI_1 ?_
        refine ev_iadd (mm 895 rfl) ?_
        obtain ⟨v551, e552, h⟩ := bind_so h
        refine ev_xload rfl (mm 896 rfl) e552 ?_
        refine ev_aload_nX (mm 897 rfl) l0 ?_
        refine ev_iload_n (mm 898 rfl) l3 ?_
        refine ev_iconst (mm 899 rfl) cI_2 ?_
        refine ev_iadd (mm 900 rfl) ?_
        obtain ⟨v553, e554, h⟩ := bind_so h
        refine ev_xload rfl (mm 901 rfl) e554 ?_
        obtain ⟨_, e567, h⟩ := bind_so h
        obtain ⟨p555, e556, h⟩ := bind_so h
        refine ev_callV_I [.int (v551), .int (v553)] (mm 902 rfl) rfl rfl (Nat.le_of_ble_eq_true rfl) (s_ob_of e567) (f100_ok e556 (d + 126)) ?_
        refine ev_aload_nR (mm 903 rfl) l2 ?_
        refine ev_aload_nX (mm 904 rfl) l0 ?_
        refine ev_iload_n (mm 905 rfl) l3 ?_
        refine ev_iconst (mm 906 rfl) cI_1 ?_
        refine ev_iadd (mm 907 rfl) ?_
        obtain ⟨v557, e558, h⟩ := bind_so h
        refine ev_xload rfl (mm 908 rfl) e558 ?_
        refine ev_aload_nX (mm 909 rfl) l0 ?_
        refine ev_iload_n (mm 910 rfl) l3 ?_
        refine ev_iconst (mm 911 rfl) cI_2 ?_
        refine ev_iadd (mm 912 rfl) ?_
        obtain ⟨v559, e560, h⟩ := bind_so h
        refine ev_xload rfl (mm 913 rfl) e560 ?_
        obtain ⟨_, e566, h⟩ := bind_so h
        obtain ⟨p561, e562, h⟩ := bind_so h
        refine ev_callV_I [.int (v557), .int (v559)] (mm 914 rfl) rfl rfl (Nat.le_of_ble_eq_true rfl) (s_ob_of e566) (f195_ok e562 (d + 126)) ?_
        rcases ite_so h with ⟨c563, h⟩ | ⟨c563, h⟩
        · refine ev_ic_t 1241 (mm 915 rfl) rfl c563 ?_
          refine evs_iinc (mm 935 rfl) cI_6 l3 (by decide) (fun lv564 l3 s565 => ?_)
          have l0 := s565 _ _ l0 rfl
          have l1 := s565 _ _ l1 rfl
          have l2 := s565 _ _ l2 rfl
          refine ev_goto 18 (mm 936 rfl) rfl ?_
          exact ih l0 l1 l2 l3 h
        · refine ev_ic_f 1241 (mm 915 rfl) rfl c563 ?_
          refine ev_iconst (mm 916 rfl) cI_0 ?_
          exact ev_zreturn (mm 917 rfl) h
      rcases ite_so h with ⟨c568, h⟩ | ⟨c568, h⟩
      · refine ev_tsw (off := 1185) 1218 27 (mm 21 rfl) c568 rfl rfl ?_
        refine ev_aload_nR (mm 918 rfl) l1 ?_
        refine ev_aload_nX (mm 919 rfl) l0 ?_
        refine ev_iload_n (mm 920 rfl) l3 ?_
        refine ev_iconst (mm 921 rfl) cI_1 ?_
        refine ev_iadd (mm 922 rfl) ?_
        obtain ⟨v569, e570, h⟩ := bind_so h
        refine ev_xload rfl (mm 923 rfl) e570 ?_
        obtain ⟨_, e581, h⟩ := bind_so h
        obtain ⟨p571, e572, h⟩ := bind_so h
        refine ev_callV_I [.int (v569)] (mm 924 rfl) rfl rfl (Nat.le_of_ble_eq_true rfl) (s_ob_of e581) (f101_ok e572 (d + 126)) ?_
        refine ev_aload_nR (mm 925 rfl) l2 ?_
        refine ev_aload_nX (mm 926 rfl) l0 ?_
        refine ev_iload_n (mm 927 rfl) l3 ?_
        refine ev_iconst (mm 928 rfl) cI_1 ?_
        refine ev_iadd (mm 929 rfl) ?_
        obtain ⟨v573, e574, h⟩ := bind_so h
        refine ev_xload rfl (mm 930 rfl) e574 ?_
        obtain ⟨_, e580, h⟩ := bind_so h
        obtain ⟨p575, e576, h⟩ := bind_so h
        refine ev_callV_I [.int (v573)] (mm 931 rfl) rfl rfl (Nat.le_of_ble_eq_true rfl) (s_ob_of e580) (f197_ok e576 (d + 126)) ?_
        rcases ite_so h with ⟨c577, h⟩ | ⟨c577, h⟩
        · refine ev_ic_t 1241 (mm 932 rfl) rfl c577 ?_
          refine evs_iinc (mm 935 rfl) cI_6 l3 (by decide) (fun lv578 l3 s579 => ?_)
          have l0 := s579 _ _ l0 rfl
          have l1 := s579 _ _ l1 rfl
          have l2 := s579 _ _ l2 rfl
          refine ev_goto 18 (mm 936 rfl) rfl ?_
          exact ih l0 l1 l2 l3 h
        · refine ev_ic_f 1241 (mm 932 rfl) rfl c577 ?_
          refine ev_iconst (mm 933 rfl) cI_0 ?_
          exact ev_zreturn (mm 934 rfl) h
      refine ev_tswD 1241 (mm 21 rfl) rfl (tsw_out [0, 1, 2, 3, 4, 5, 6, 7, 8, 9, 10, 11, 12, 13, 14, 15, 16, 17, 18, 19, 20, 21, 22, 23, 24, 25, 26, 27] rfl rfl (by simp [c18, c32, c54, c72, c94, c112, c138, c164, c186, c204, c234, c252, c266, c276, c298, c320, c342, c360, c378, c408, c426, c440, c458, c472, c494, c524, c550, c568])) ?_
      refine evs_iinc (mm 935 rfl) cI_6 l3 (by decide) (fun lv582 l3 s583 => ?_)
      have l0 := s583 _ _ l0 rfl
      have l1 := s583 _ _ l1 rfl
      have l2 := s583 _ _ l2 rfl
      refine ev_goto 18 (mm 936 rfl) rfl ?_
      exact ih l0 l1 l2 l3 h
/-- PupilCoinLaw.law([I)Z -/
def f202 (L : Nat) (xs : Nat → Int32) (x0 : Unit) (M : vm_M) : Option (Int32 × vm_M) :=
  (s_no M 10).bind fun M1 =>
  (f73 (vm_n M) M1).bind fun p3 =>
  (s_no p3 11).bind fun M7 =>
  (f111 (vm_n p3) M7).bind fun p9 =>
  f202_l18 L xs x0 (vm_n M) (vm_n p3)
  
    100000 0 p9
theorem f202_ok {L : Nat} {xs : Nat → Int32} {d : Nat} {x0 : Unit} {M : vm_M} {r : Int32 × vm_M} (h : f202 L xs x0 M = some r) : Ev L xs (vm_Cl (d + 129)) vp_202 12 4 false (some (.boolean)) (rI r) 0 (lv_args 0 [.ref vm_scr]) [] M := by
  have l0 : (0, .ref vm_scr) ∈ lv_args 0 [.ref vm_scr] := List.Mem.head _
  unfold f202 at h
  obtain ⟨M1, e2, h⟩ := bind_so h
  refine ev_new (mm 0 rfl) e2 ?_
  refine ev_dupR (mm 1 rfl) ?_
  obtain ⟨p3, e4, h⟩ := bind_so h
  refine ev_callI_V [] (mm 2 rfl) (by decide) rfl rfl (Nat.le_of_ble_eq_true rfl) (f73_ok e4 (d + 125)) ?_
  refine evs_astore_nR (mm 3 rfl) (by decide) (fun lv5 l1 s6 => ?_)
  have l0 := s6 _ _ l0 rfl
  obtain ⟨M7, e8, h⟩ := bind_so h
  refine ev_new (mm 4 rfl) e8 ?_
  refine ev_dupR (mm 5 rfl) ?_
  obtain ⟨p9, e10, h⟩ := bind_so h
  refine ev_callI_V [] (mm 6 rfl) (by decide) rfl rfl (Nat.le_of_ble_eq_true rfl) (f111_ok e10 (d + 128)) ?_
  refine evs_astore_nR (mm 7 rfl) (by decide) (fun lv11 l2 s12 => ?_)
  have l0 := s12 _ _ l0 rfl
  have l1 := s12 _ _ l1 rfl
  refine ev_iconst (mm 8 rfl) cI_0 ?_
  refine evs_istore_n (mm 9 rfl) (by decide) (fun lv13 l3 s14 => ?_)
  have l0 := s14 _ _ l0 rfl
  have l1 := s14 _ _ l1 rfl
  have l2 := s14 _ _ l2 rfl
  refine f202_l18_ok 100000 l0 l1 l2 l3 h
