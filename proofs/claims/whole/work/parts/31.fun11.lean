/-! shallow functions, by program (wip/gen_fun.py) -/
def f192_l50 (x0 : Nat) (x1 : Int32) (x2 : Int32) (x3 : Int32) (x4 : Int32) (k107 : Int32 → Int32 → vm_M → Option (Int32 × vm_M)) : Nat → Int32 → Int32 → Int32 → vm_M → Option (Int32 × vm_M)
  | 0 => fun _ _ _ _ => none
  | n + 1 => fun x5 x6 x7 M =>
    if x7 < 0 then
      k107 x5 x6 M
    else
      if ¬ x6 = (-1) then
        k107 x5 x6 M
      else
        (sg_i M x0 11 0).bind fun v23 =>
        (s_ob M x0 11).bind fun _ =>
        (f126 x0 x1 x7 x2 v23 M).bind fun p25 =>
        if ¬ p25.1 = (-1) then
          if ¬ x5 = (-1) then
            f192_l50 x0 x1 x2 x3 x4 k107 n x5 p25.1 (x7 + (-1)) p25.2
          else
            f192_l50 x0 x1 x2 x3 x4 k107 n p25.1 x6 (x7 + (-1)) p25.2
        else
          f192_l50 x0 x1 x2 x3 x4 k107 n x5 x6 (x7 + (-1)) p25.2
theorem f192_l50_ok {d : Nat} {x0 : Nat} {x1 : Int32} {x2 : Int32} {x3 : Int32} {x4 : Int32} {k107 : Int32 → Int32 → vm_M → Option (Int32 × vm_M)} {r : Int32 × vm_M} (hk107 : ∀ {y5 : Int32} {y6 : Int32} {M : vm_M} {lv : vm_L}, (3, .int (x3)) ∈ lv → (4, .int (x4)) ∈ lv → (5, .int (y5)) ∈ lv → (6, .int (y6)) ∈ lv → k107 y5 y6 M = some r → Ev 0 (fun _ => 0) (vm_Cl (d + 2)) vp_192 11 9 false (some (.int)) (rI r) 107 lv [] M) : ∀ (n : Nat) {x5 : Int32} {x6 : Int32} {x7 : Int32} {M : vm_M} {lv : vm_L}, (0, .ref (x0)) ∈ lv → (1, .int (x1)) ∈ lv → (2, .int (x2)) ∈ lv → (3, .int (x3)) ∈ lv → (4, .int (x4)) ∈ lv → (5, .int (x5)) ∈ lv → (6, .int (x6)) ∈ lv → (7, .int (x7)) ∈ lv → f192_l50 x0 x1 x2 x3 x4 k107 n x5 x6 x7 M = some r → Ev 0 (fun _ => 0) (vm_Cl (d + 2)) vp_192 11 9 false (some (.int)) (rI r) 50 lv [] M := by
  intro n
  induction n with
  | zero =>
    intro x5 x6 x7 M lv l0 l1 l2 l3 l4 l5 l6 l7 h
    cases h
  | succ n ih =>
    intro x5 x6 x7 M lv l0 l1 l2 l3 l4 l5 l6 l7 h
    dsimp only [f192_l50] at h
    refine ev_iload (mm 28 rfl) l7 ?_
    rcases ite_so h with ⟨c21, h⟩ | ⟨c21, h⟩
    · refine ev_if_t 107 (mm 29 rfl) rfl c21 ?_
      exact hk107 l3 l4 l5 l6 h
    · refine ev_if_f 107 (mm 29 rfl) rfl c21 ?_
      refine ev_iload (mm 30 rfl) l6 ?_
      refine ev_iconst (mm 31 rfl) cI_m1 ?_
      rcases ite_so h with ⟨c22, h⟩ | ⟨c22, h⟩
      · refine ev_ic_t 107 (mm 32 rfl) rfl c22 ?_
        exact hk107 l3 l4 l5 l6 h
      · refine ev_ic_f 107 (mm 32 rfl) rfl c22 ?_
        refine ev_aload_nR (mm 33 rfl) l0 ?_
        refine ev_iload_n (mm 34 rfl) l1 ?_
        refine ev_iload (mm 35 rfl) l7 ?_
        refine ev_iload_n (mm 36 rfl) l2 ?_
        refine ev_aload_nR (mm 37 rfl) l0 ?_
        obtain ⟨v23, e24, h⟩ := bind_so h
        refine ev_get_i (mm 38 rfl) rfl e24 ?_
        obtain ⟨_, e41, h⟩ := bind_so h
        obtain ⟨p25, e26, h⟩ := bind_so h
        refine ev_callV_I [.int (x1), .int (x7), .int (x2), .int (v23)] (mm 39 rfl) rfl rfl (Nat.le_of_ble_eq_true rfl) (s_ob_of e41) (f126_ok e26 (d + 1)) ?_
        refine evs_istore (mm 40 rfl) (by decide) (fun lv27 l8 s28 => ?_)
        have l0 := s28 _ _ l0 rfl
        have l1 := s28 _ _ l1 rfl
        have l2 := s28 _ _ l2 rfl
        have l3 := s28 _ _ l3 rfl
        have l4 := s28 _ _ l4 rfl
        have l5 := s28 _ _ l5 rfl
        have l6 := s28 _ _ l6 rfl
        have l7 := s28 _ _ l7 rfl
        refine ev_iload (mm 41 rfl) l8 ?_
        refine ev_iconst (mm 42 rfl) cI_m1 ?_
        rcases ite_so h with ⟨c29, h⟩ | ⟨c29, h⟩
        · refine ev_ic_t 84 (mm 43 rfl) rfl c29 ?_
          refine ev_iload (mm 45 rfl) l5 ?_
          refine ev_iconst (mm 46 rfl) cI_m1 ?_
          rcases ite_so h with ⟨c30, h⟩ | ⟨c30, h⟩
          · refine ev_ic_t 97 (mm 47 rfl) rfl c30 ?_
            refine ev_iload (mm 51 rfl) l8 ?_
            refine evs_istore (mm 52 rfl) (by decide) (fun lv31 l6 s32 => ?_)
            have l0 := s32 _ _ l0 rfl
            have l1 := s32 _ _ l1 rfl
            have l2 := s32 _ _ l2 rfl
            have l3 := s32 _ _ l3 rfl
            have l4 := s32 _ _ l4 rfl
            have l5 := s32 _ _ l5 rfl
            have l7 := s32 _ _ l7 rfl
            refine evs_iinc (mm 53 rfl) cI_m1 l7 (by decide) (fun lv33 l7 s34 => ?_)
            have l0 := s34 _ _ l0 rfl
            have l1 := s34 _ _ l1 rfl
            have l2 := s34 _ _ l2 rfl
            have l3 := s34 _ _ l3 rfl
            have l4 := s34 _ _ l4 rfl
            have l5 := s34 _ _ l5 rfl
            have l6 := s34 _ _ l6 rfl
            refine ev_goto 50 (mm 54 rfl) rfl ?_
            exact ih l0 l1 l2 l3 l4 l5 l6 l7 h
          · refine ev_ic_f 97 (mm 47 rfl) rfl c30 ?_
            refine ev_iload (mm 48 rfl) l8 ?_
            refine evs_istore (mm 49 rfl) (by decide) (fun lv35 l5 s36 => ?_)
            have l0 := s36 _ _ l0 rfl
            have l1 := s36 _ _ l1 rfl
            have l2 := s36 _ _ l2 rfl
            have l3 := s36 _ _ l3 rfl
            have l4 := s36 _ _ l4 rfl
            have l6 := s36 _ _ l6 rfl
            have l7 := s36 _ _ l7 rfl
            refine ev_goto 101 (mm 50 rfl) rfl ?_
            refine evs_iinc (mm 53 rfl) cI_m1 l7 (by decide) (fun lv37 l7 s38 => ?_)
            have l0 := s38 _ _ l0 rfl
            have l1 := s38 _ _ l1 rfl
            have l2 := s38 _ _ l2 rfl
            have l3 := s38 _ _ l3 rfl
            have l4 := s38 _ _ l4 rfl
            have l5 := s38 _ _ l5 rfl
            have l6 := s38 _ _ l6 rfl
            refine ev_goto 50 (mm 54 rfl) rfl ?_
            exact ih l0 l1 l2 l3 l4 l5 l6 l7 h
        · refine ev_ic_f 84 (mm 43 rfl) rfl c29 ?_
          refine ev_goto 101 (mm 44 rfl) rfl ?_
          refine evs_iinc (mm 53 rfl) cI_m1 l7 (by decide) (fun lv39 l7 s40 => ?_)
          have l0 := s40 _ _ l0 rfl
          have l1 := s40 _ _ l1 rfl
          have l2 := s40 _ _ l2 rfl
          have l3 := s40 _ _ l3 rfl
          have l4 := s40 _ _ l4 rfl
          have l5 := s40 _ _ l5 rfl
          have l6 := s40 _ _ l6 rfl
          refine ev_goto 50 (mm 54 rfl) rfl ?_
          exact ih l0 l1 l2 l3 l4 l5 l6 l7 h
def f192_j107 (x3 : Int32) (x4 : Int32) (x5 : Int32) (x6 : Int32) (M : vm_M) : Option (Int32 × vm_M) :=
  if ¬ x6 = (-1) then
    if ¬ x4 = 0 then
      if ¬ x4 = 1 then
        some ((s_mxI 0 ((x5 + (x3 * (x5 - x6))) + (x3 * (s_abI (x5 - x6))))), M)
      else
        some ((s_mxI 0 ((x5 + (x3 * (x5 - x6))) - (x3 * (s_abI (x5 - x6))))), M)
    else
      some ((s_mxI 0 (x5 + (x3 * (x5 - x6)))), M)
  else
    some ((-1), M)
theorem f192_j107_ok {d : Nat} {x3 : Int32} {x4 : Int32} {x5 : Int32} {x6 : Int32} {M : vm_M} {r : Int32 × vm_M} {lv : vm_L} (l3 : (3, .int (x3)) ∈ lv) (l4 : (4, .int (x4)) ∈ lv) (l5 : (5, .int (x5)) ∈ lv) (l6 : (6, .int (x6)) ∈ lv) (h : f192_j107 x3 x4 x5 x6 M = some r) : Ev 0 (fun _ => 0) (vm_Cl (d + 2)) vp_192 11 9 false (some (.int)) (rI r) 107 lv [] M := by
  unfold f192_j107 at h
  refine ev_iload (mm 55 rfl) l6 ?_
  refine ev_iconst (mm 56 rfl) cI_m1 ?_
  rcases ite_so h with ⟨c45, h⟩ | ⟨c45, h⟩
  · refine ev_ic_t 115 (mm 57 rfl) rfl c45 ?_
    refine ev_iload (mm 60 rfl) l5 ?_
    refine ev_iload_n (mm 61 rfl) l3 ?_
    refine ev_iload (mm 62 rfl) l5 ?_
    refine ev_iload (mm 63 rfl) l6 ?_
    refine ev_isub (mm 64 rfl) ?_
    refine ev_imul (mm 65 rfl) ?_
    refine ev_iadd (mm 66 rfl) ?_
    refine evs_istore (mm 67 rfl) (by decide) (fun lv46 l7 s47 => ?_)
    have l3 := s47 _ _ l3 rfl
    have l4 := s47 _ _ l4 rfl
    have l5 := s47 _ _ l5 rfl
    have l6 := s47 _ _ l6 rfl
    refine ev_iload_n (mm 68 rfl) l3 ?_
    refine ev_iload (mm 69 rfl) l5 ?_
    refine ev_iload (mm 70 rfl) l6 ?_
    refine ev_isub (mm 71 rfl) ?_
    refine ev_abI (mm 72 rfl) (Nat.le_of_ble_eq_true rfl) ?_
    refine ev_imul (mm 73 rfl) ?_
    refine evs_istore (mm 74 rfl) (by decide) (fun lv48 l8 s49 => ?_)
    have l4 := s49 _ _ l4 rfl
    have l7 := s49 _ _ l7 rfl
    refine ev_iconst (mm 75 rfl) cI_0 ?_
    refine ev_iload (mm 76 rfl) l4 ?_
    rcases ite_so h with ⟨c50, h⟩ | ⟨c50, h⟩
    · refine ev_if_t 150 (mm 77 rfl) rfl c50 ?_
      refine ev_iload (mm 80 rfl) l4 ?_
      refine ev_iconst (mm 81 rfl) cI_1 ?_
      rcases ite_so h with ⟨c51, h⟩ | ⟨c51, h⟩
      · refine ev_ic_t 164 (mm 82 rfl) rfl c51 ?_
        refine ev_iload (mm 87 rfl) l7 ?_
        refine ev_iload (mm 88 rfl) l8 ?_
        refine ev_iadd (mm 89 rfl) ?_
        refine ev_mxI (mm 90 rfl) (Nat.le_of_ble_eq_true rfl) ?_
        exact ev_ireturn (mm 91 rfl) h
      · refine ev_ic_f 164 (mm 82 rfl) rfl c51 ?_
        refine ev_iload (mm 83 rfl) l7 ?_
        refine ev_iload (mm 84 rfl) l8 ?_
        refine ev_isub (mm 85 rfl) ?_
        refine ev_goto 169 (mm 86 rfl) rfl ?_
        refine ev_mxI (mm 90 rfl) (Nat.le_of_ble_eq_true rfl) ?_
        exact ev_ireturn (mm 91 rfl) h
    · refine ev_if_f 150 (mm 77 rfl) rfl c50 ?_
      refine ev_iload (mm 78 rfl) l7 ?_
      refine ev_goto 169 (mm 79 rfl) rfl ?_
      refine ev_mxI (mm 90 rfl) (Nat.le_of_ble_eq_true rfl) ?_
      exact ev_ireturn (mm 91 rfl) h
  · refine ev_ic_f 115 (mm 57 rfl) rfl c45 ?_
    refine ev_iconst (mm 58 rfl) cI_m1 ?_
    exact ev_ireturn (mm 59 rfl) h
/-- PupilCoinModel.foretold(IIII)I -/
def f192 (x0 : Nat) (x1 : Int32) (x2 : Int32) (x3 : Int32) (x4 : Int32) (M : vm_M) : Option (Int32 × vm_M) :=
  (s_ob M x0 11).bind fun _ =>
  (f116 x0 x1 M).bind fun p1 =>
  if p1.1 = 0 then
    some ((-1), p1.2)
  else
    (f112 x2 0 2 p1.2).bind fun p4 =>
    if p4.1 = 0 then
      some ((-1), p4.2)
    else
      (f112 x3 1 5 p4.2).bind fun p7 =>
      if p7.1 = 0 then
        some ((-1), p7.2)
      else
        (f112 x4 0 2 p7.2).bind fun p10 =>
        if ¬ p10.1 = 0 then
          (s_ob p10.2 x0 11).bind fun _ =>
          (f118 x0 p10.2).bind fun p17 =>
          f192_l50 x0 x1 x2 x3 x4
            (fun y42 y43 M44 =>
              f192_j107 x3 x4 y42 y43 M44)
            100000 (-1) (-1) p17.1 p17.2
        else
          some ((-1), p10.2)
theorem f192_ok {x0 : Nat} {x1 : Int32} {x2 : Int32} {x3 : Int32} {x4 : Int32} {M : vm_M} {r : Int32 × vm_M} (h : f192 x0 x1 x2 x3 x4 M = some r) (d : Nat) : vm_Cl (d + 3) 192 [.ref (x0), .int (x1), .int (x2), .int (x3), .int (x4)] M (rI r) := by
  have key : Ev 0 (fun _ => 0) (vm_Cl (d + 2)) vp_192 11 9 false (some (.int)) (rI r) 0 (lv_args 0 [.ref (x0), .int (x1), .int (x2), .int (x3), .int (x4)]) [] M := by
    have l0 : (0, .ref (x0)) ∈ lv_args 0 [.ref (x0), .int (x1), .int (x2), .int (x3), .int (x4)] := List.Mem.head _
    have l1 : (1, .int (x1)) ∈ lv_args 0 [.ref (x0), .int (x1), .int (x2), .int (x3), .int (x4)] := List.Mem.tail _ (List.Mem.head _)
    have l2 : (2, .int (x2)) ∈ lv_args 0 [.ref (x0), .int (x1), .int (x2), .int (x3), .int (x4)] := List.Mem.tail _ (List.Mem.tail _ (List.Mem.head _))
    have l3 : (3, .int (x3)) ∈ lv_args 0 [.ref (x0), .int (x1), .int (x2), .int (x3), .int (x4)] := List.Mem.tail _ (List.Mem.tail _ (List.Mem.tail _ (List.Mem.head _)))
    have l4 : (4, .int (x4)) ∈ lv_args 0 [.ref (x0), .int (x1), .int (x2), .int (x3), .int (x4)] := List.Mem.tail _ (List.Mem.tail _ (List.Mem.tail _ (List.Mem.tail _ (List.Mem.head _))))
    unfold f192 at h
    refine ev_aload_nR (mm 0 rfl) l0 ?_
    refine ev_iload_n (mm 1 rfl) l1 ?_
    obtain ⟨_, e53, h⟩ := bind_so h
    obtain ⟨p1, e2, h⟩ := bind_so h
    refine ev_callV_I [.int (x1)] (mm 2 rfl) rfl rfl (Nat.le_of_ble_eq_true rfl) (s_ob_of e53) (f116_ok e2 (d + 0)) ?_
    rcases ite_so h with ⟨c3, h⟩ | ⟨c3, h⟩
    · refine ev_if_t 36 (mm 3 rfl) rfl c3 ?_
      refine ev_iconst (mm 19 rfl) cI_m1 ?_
      exact ev_ireturn (mm 20 rfl) h
    · refine ev_if_f 36 (mm 3 rfl) rfl c3 ?_
      refine ev_iload_n (mm 4 rfl) l2 ?_
      refine ev_iconst (mm 5 rfl) cI_0 ?_
      refine ev_iconst (mm 6 rfl) cI_2 ?_
      obtain ⟨p4, e5, h⟩ := bind_so h
      refine ev_callS_I [.int (x2), .int (0), .int (2)] (mm 7 rfl) (by decide) rfl rfl (Nat.le_of_ble_eq_true rfl) (f112_ok e5 (d + 1)) ?_
      rcases ite_so h with ⟨c6, h⟩ | ⟨c6, h⟩
      · refine ev_if_t 36 (mm 8 rfl) rfl c6 ?_
        refine ev_iconst (mm 19 rfl) cI_m1 ?_
        exact ev_ireturn (mm 20 rfl) h
      · refine ev_if_f 36 (mm 8 rfl) rfl c6 ?_
        refine ev_iload_n (mm 9 rfl) l3 ?_
        refine ev_iconst (mm 10 rfl) cI_1 ?_
        refine ev_iconst (mm 11 rfl) cI_5 ?_
        obtain ⟨p7, e8, h⟩ := bind_so h
        refine ev_callS_I [.int (x3), .int (1), .int (5)] (mm 12 rfl) (by decide) rfl rfl (Nat.le_of_ble_eq_true rfl) (f112_ok e8 (d + 1)) ?_
        rcases ite_so h with ⟨c9, h⟩ | ⟨c9, h⟩
        · refine ev_if_t 36 (mm 13 rfl) rfl c9 ?_
          refine ev_iconst (mm 19 rfl) cI_m1 ?_
          exact ev_ireturn (mm 20 rfl) h
        · refine ev_if_f 36 (mm 13 rfl) rfl c9 ?_
          refine ev_iload (mm 14 rfl) l4 ?_
          refine ev_iconst (mm 15 rfl) cI_0 ?_
          refine ev_iconst (mm 16 rfl) cI_2 ?_
          obtain ⟨p10, e11, h⟩ := bind_so h
          refine ev_callS_I [.int (x4), .int (0), .int (2)] (mm 17 rfl) (by decide) rfl rfl (Nat.le_of_ble_eq_true rfl) (f112_ok e11 (d + 1)) ?_
          rcases ite_so h with ⟨c12, h⟩ | ⟨c12, h⟩
          · refine ev_if_t 38 (mm 18 rfl) rfl c12 ?_
            refine ev_iconst (mm 21 rfl) cI_m1 ?_
            refine evs_istore (mm 22 rfl) (by decide) (fun lv13 l5 s14 => ?_)
            have l0 := s14 _ _ l0 rfl
            have l1 := s14 _ _ l1 rfl
            have l2 := s14 _ _ l2 rfl
            have l3 := s14 _ _ l3 rfl
            have l4 := s14 _ _ l4 rfl
            refine ev_iconst (mm 23 rfl) cI_m1 ?_
            refine evs_istore (mm 24 rfl) (by decide) (fun lv15 l6 s16 => ?_)
            have l0 := s16 _ _ l0 rfl
            have l1 := s16 _ _ l1 rfl
            have l2 := s16 _ _ l2 rfl
            have l3 := s16 _ _ l3 rfl
            have l4 := s16 _ _ l4 rfl
            have l5 := s16 _ _ l5 rfl
            refine ev_aload_nR (mm 25 rfl) l0 ?_
            obtain ⟨_, e52, h⟩ := bind_so h
            obtain ⟨p17, e18, h⟩ := bind_so h
            refine ev_callV_I [] (mm 26 rfl) rfl rfl (Nat.le_of_ble_eq_true rfl) (s_ob_of e52) (f118_ok e18 (d + 1)) ?_
            refine evs_istore (mm 27 rfl) (by decide) (fun lv19 l7 s20 => ?_)
            have l0 := s20 _ _ l0 rfl
            have l1 := s20 _ _ l1 rfl
            have l2 := s20 _ _ l2 rfl
            have l3 := s20 _ _ l3 rfl
            have l4 := s20 _ _ l4 rfl
            have l5 := s20 _ _ l5 rfl
            have l6 := s20 _ _ l6 rfl
            refine f192_l50_ok ?_ 100000 l0 l1 l2 l3 l4 l5 l6 l7 h
            · intro y42 y43 M44 lv l3 l4 l5 l6
              intro h
              exact f192_j107_ok l3 l4 l5 l6 h
          · refine ev_if_f 38 (mm 18 rfl) rfl c12 ?_
            refine ev_iconst (mm 19 rfl) cI_m1 ?_
            exact ev_ireturn (mm 20 rfl) h
  exact ⟨by decide, Nat.le_of_ble_eq_true rfl, key.1, key.2⟩
def f193_j57 (k80 : Int32 → Int32 → vm_M → Option (Int32 × vm_M)) (k7 : Int32 → Int32 → Int32 → vm_M → Option (Int32 × vm_M)) (x0 : Nat) (x1 : Int32) (x3 : Int32) (x4 : Int32) (x5 : Int32) (s0 : Int32) (s1 : Int32) (M : vm_M) : Option (Int32 × vm_M) :=
  if ¬ x3 = 0 then
    k7 (s0 + s1) 1 (x4 + 1) M
  else
    if ¬ x5 = 0 then
      k7 (s0 + s1) 0 (x4 + 1) M
    else
      k7 (s0 + s1) 1 (x4 + 1) M
theorem f193_j57_ok {d : Nat} {x0 : Nat} {x1 : Int32} {x3 : Int32} {x4 : Int32} {x5 : Int32} {s0 : Int32} {s1 : Int32} {M : vm_M} {k80 : Int32 → Int32 → vm_M → Option (Int32 × vm_M)} {k7 : Int32 → Int32 → Int32 → vm_M → Option (Int32 × vm_M)} {r : Int32 × vm_M} (hk80 : ∀ {y2 : Int32} {y3 : Int32} {M : vm_M} {lv : vm_L}, (0, .ref (x0)) ∈ lv → (1, .int (x1)) ∈ lv → (2, .int (y2)) ∈ lv → (3, .int (y3)) ∈ lv → k80 y2 y3 M = some r → Ev 0 (fun _ => 0) (vm_Cl (d + 0)) vp_193 11 7 false (some (.boolean)) (rI r) 80 lv [] M) (hk7 : ∀ {y2 : Int32} {y3 : Int32} {y4 : Int32} {M : vm_M} {lv : vm_L}, (0, .ref (x0)) ∈ lv → (1, .int (x1)) ∈ lv → (2, .int (y2)) ∈ lv → (3, .int (y3)) ∈ lv → (4, .int (y4)) ∈ lv → k7 y2 y3 y4 M = some r → Ev 0 (fun _ => 0) (vm_Cl (d + 0)) vp_193 11 7 false (some (.boolean)) (rI r) 7 lv [] M) {lv : vm_L} (l0 : (0, .ref (x0)) ∈ lv) (l1 : (1, .int (x1)) ∈ lv) (l3 : (3, .int (x3)) ∈ lv) (l4 : (4, .int (x4)) ∈ lv) (l5 : (5, .int (x5)) ∈ lv) (h : f193_j57 k80 k7 x0 x1 x3 x4 x5 s0 s1 M = some r) : Ev 0 (fun _ => 0) (vm_Cl (d + 0)) vp_193 11 7 false (some (.boolean)) (rI r) 57 lv [.int (s1), .int (s0)] M := by
  unfold f193_j57 at h
  refine ev_iadd (mm 34 rfl) ?_
  refine evs_istore_n (mm 35 rfl) (by decide) (fun lv12 l2 s13 => ?_)
  have l0 := s13 _ _ l0 rfl
  have l1 := s13 _ _ l1 rfl
  have l3 := s13 _ _ l3 rfl
  have l4 := s13 _ _ l4 rfl
  have l5 := s13 _ _ l5 rfl
  refine ev_iload_n (mm 36 rfl) l3 ?_
  rcases ite_so h with ⟨c14, h⟩ | ⟨c14, h⟩
  · refine ev_if_t 68 (mm 37 rfl) rfl c14 ?_
    refine ev_iconst (mm 40 rfl) cI_1 ?_
    refine ev_goto 73 (mm 41 rfl) rfl ?_
    refine evs_istore_n (mm 43 rfl) (by decide) (fun lv15 l3 s16 => ?_)
    have l0 := s16 _ _ l0 rfl
    have l1 := s16 _ _ l1 rfl
    have l2 := s16 _ _ l2 rfl
    have l4 := s16 _ _ l4 rfl
    refine evs_iinc (mm 44 rfl) cI_1 l4 (by decide) (fun lv17 l4 s18 => ?_)
    have l0 := s18 _ _ l0 rfl
    have l1 := s18 _ _ l1 rfl
    have l2 := s18 _ _ l2 rfl
    have l3 := s18 _ _ l3 rfl
    refine ev_goto 7 (mm 45 rfl) rfl ?_
    exact hk7 l0 l1 l2 l3 l4 h
  · refine ev_if_f 68 (mm 37 rfl) rfl c14 ?_
    refine ev_iload (mm 38 rfl) l5 ?_
    rcases ite_so h with ⟨c19, h⟩ | ⟨c19, h⟩
    · refine ev_if_t 72 (mm 39 rfl) rfl c19 ?_
      refine ev_iconst (mm 42 rfl) cI_0 ?_
      refine evs_istore_n (mm 43 rfl) (by decide) (fun lv20 l3 s21 => ?_)
      have l0 := s21 _ _ l0 rfl
      have l1 := s21 _ _ l1 rfl
      have l2 := s21 _ _ l2 rfl
      have l4 := s21 _ _ l4 rfl
      refine evs_iinc (mm 44 rfl) cI_1 l4 (by decide) (fun lv22 l4 s23 => ?_)
      have l0 := s23 _ _ l0 rfl
      have l1 := s23 _ _ l1 rfl
      have l2 := s23 _ _ l2 rfl
      have l3 := s23 _ _ l3 rfl
      refine ev_goto 7 (mm 45 rfl) rfl ?_
      exact hk7 l0 l1 l2 l3 l4 h
    · refine ev_if_f 72 (mm 39 rfl) rfl c19 ?_
      refine ev_iconst (mm 40 rfl) cI_1 ?_
      refine ev_goto 73 (mm 41 rfl) rfl ?_
      refine evs_istore_n (mm 43 rfl) (by decide) (fun lv24 l3 s25 => ?_)
      have l0 := s25 _ _ l0 rfl
      have l1 := s25 _ _ l1 rfl
      have l2 := s25 _ _ l2 rfl
      have l4 := s25 _ _ l4 rfl
      refine evs_iinc (mm 44 rfl) cI_1 l4 (by decide) (fun lv26 l4 s27 => ?_)
      have l0 := s27 _ _ l0 rfl
      have l1 := s27 _ _ l1 rfl
      have l2 := s27 _ _ l2 rfl
      have l3 := s27 _ _ l3 rfl
      refine ev_goto 7 (mm 45 rfl) rfl ?_
      exact hk7 l0 l1 l2 l3 l4 h
def f193_j38 (k80 : Int32 → Int32 → vm_M → Option (Int32 × vm_M)) (k7 : Int32 → Int32 → Int32 → vm_M → Option (Int32 × vm_M)) (x0 : Nat) (x1 : Int32) (x2 : Int32) (x3 : Int32) (x4 : Int32) (s0 : Int32) (M : vm_M) : Option (Int32 × vm_M) :=
  if s0 = 0 then
    f193_j57 k80 k7 x0 x1 x3 x4 s0 x2 0 M
  else
    (sg_r M x0 11 62).bind fun v28 =>
    (v28).bind fun q30 =>
    (sa_i M q30 0 x4).bind fun v32 =>
    f193_j57 k80 k7 x0 x1 x3 x4 s0 x2 v32 M
theorem f193_j38_ok {d : Nat} {x0 : Nat} {x1 : Int32} {x2 : Int32} {x3 : Int32} {x4 : Int32} {s0 : Int32} {M : vm_M} {k80 : Int32 → Int32 → vm_M → Option (Int32 × vm_M)} {k7 : Int32 → Int32 → Int32 → vm_M → Option (Int32 × vm_M)} {r : Int32 × vm_M} (hk80 : ∀ {y2 : Int32} {y3 : Int32} {M : vm_M} {lv : vm_L}, (0, .ref (x0)) ∈ lv → (1, .int (x1)) ∈ lv → (2, .int (y2)) ∈ lv → (3, .int (y3)) ∈ lv → k80 y2 y3 M = some r → Ev 0 (fun _ => 0) (vm_Cl (d + 0)) vp_193 11 7 false (some (.boolean)) (rI r) 80 lv [] M) (hk7 : ∀ {y2 : Int32} {y3 : Int32} {y4 : Int32} {M : vm_M} {lv : vm_L}, (0, .ref (x0)) ∈ lv → (1, .int (x1)) ∈ lv → (2, .int (y2)) ∈ lv → (3, .int (y3)) ∈ lv → (4, .int (y4)) ∈ lv → k7 y2 y3 y4 M = some r → Ev 0 (fun _ => 0) (vm_Cl (d + 0)) vp_193 11 7 false (some (.boolean)) (rI r) 7 lv [] M) {lv : vm_L} (l0 : (0, .ref (x0)) ∈ lv) (l1 : (1, .int (x1)) ∈ lv) (l2 : (2, .int (x2)) ∈ lv) (l3 : (3, .int (x3)) ∈ lv) (l4 : (4, .int (x4)) ∈ lv) (h : f193_j38 k80 k7 x0 x1 x2 x3 x4 s0 M = some r) : Ev 0 (fun _ => 0) (vm_Cl (d + 0)) vp_193 11 7 false (some (.boolean)) (rI r) 38 lv [.int (s0)] M := by
  unfold f193_j38 at h
  refine evs_istore (mm 24 rfl) (by decide) (fun lv9 l5 s10 => ?_)
  have l0 := s10 _ _ l0 rfl
  have l1 := s10 _ _ l1 rfl
  have l2 := s10 _ _ l2 rfl
  have l3 := s10 _ _ l3 rfl
  have l4 := s10 _ _ l4 rfl
  refine ev_iload_n (mm 25 rfl) l2 ?_
  refine ev_iload (mm 26 rfl) l5 ?_
  rcases ite_so h with ⟨c11, h⟩ | ⟨c11, h⟩
  · refine ev_if_t 56 (mm 27 rfl) rfl c11 ?_
    refine ev_iconst (mm 33 rfl) cI_0 ?_
    exact f193_j57_ok hk80 hk7 l0 l1 l3 l4 l5 h
  · refine ev_if_f 56 (mm 27 rfl) rfl c11 ?_
    refine ev_aload_nR (mm 28 rfl) l0 ?_
    obtain ⟨v28, e29, h⟩ := bind_so h
    refine ev_get_r (mm 29 rfl) rfl e29 ?_
    refine ev_iload (mm 30 rfl) l4 ?_
    obtain ⟨q30, e31, h⟩ := bind_so h
    rw [e31]
    obtain ⟨v32, e33, h⟩ := bind_so h
    refine ev_iaload (mm 31 rfl) e33 ?_
    refine ev_goto 57 (mm 32 rfl) rfl ?_
    exact f193_j57_ok hk80 hk7 l0 l1 l3 l4 l5 h
def f193_j37 (k80 : Int32 → Int32 → vm_M → Option (Int32 × vm_M)) (k7 : Int32 → Int32 → Int32 → vm_M → Option (Int32 × vm_M)) (x0 : Nat) (x1 : Int32) (x2 : Int32) (x3 : Int32) (x4 : Int32) (M : vm_M) : Option (Int32 × vm_M) :=
  f193_j38 k80 k7 x0 x1 x2 x3 x4 0 M
theorem f193_j37_ok {d : Nat} {x0 : Nat} {x1 : Int32} {x2 : Int32} {x3 : Int32} {x4 : Int32} {M : vm_M} {k80 : Int32 → Int32 → vm_M → Option (Int32 × vm_M)} {k7 : Int32 → Int32 → Int32 → vm_M → Option (Int32 × vm_M)} {r : Int32 × vm_M} (hk80 : ∀ {y2 : Int32} {y3 : Int32} {M : vm_M} {lv : vm_L}, (0, .ref (x0)) ∈ lv → (1, .int (x1)) ∈ lv → (2, .int (y2)) ∈ lv → (3, .int (y3)) ∈ lv → k80 y2 y3 M = some r → Ev 0 (fun _ => 0) (vm_Cl (d + 0)) vp_193 11 7 false (some (.boolean)) (rI r) 80 lv [] M) (hk7 : ∀ {y2 : Int32} {y3 : Int32} {y4 : Int32} {M : vm_M} {lv : vm_L}, (0, .ref (x0)) ∈ lv → (1, .int (x1)) ∈ lv → (2, .int (y2)) ∈ lv → (3, .int (y3)) ∈ lv → (4, .int (y4)) ∈ lv → k7 y2 y3 y4 M = some r → Ev 0 (fun _ => 0) (vm_Cl (d + 0)) vp_193 11 7 false (some (.boolean)) (rI r) 7 lv [] M) {lv : vm_L} (l0 : (0, .ref (x0)) ∈ lv) (l1 : (1, .int (x1)) ∈ lv) (l2 : (2, .int (x2)) ∈ lv) (l3 : (3, .int (x3)) ∈ lv) (l4 : (4, .int (x4)) ∈ lv) (h : f193_j37 k80 k7 x0 x1 x2 x3 x4 M = some r) : Ev 0 (fun _ => 0) (vm_Cl (d + 0)) vp_193 11 7 false (some (.boolean)) (rI r) 37 lv [] M := by
  unfold f193_j37 at h
  refine ev_iconst (mm 23 rfl) cI_0 ?_
  exact f193_j38_ok hk80 hk7 l0 l1 l2 l3 l4 h
def f193_l7 (x0 : Nat) (x1 : Int32) (k80 : Int32 → Int32 → vm_M → Option (Int32 × vm_M)) : Nat → Int32 → Int32 → Int32 → vm_M → Option (Int32 × vm_M)
  | 0 => fun _ _ _ _ => none
  | n + 1 => fun x2 x3 x4 M =>
    if 3 ≤ x4 then
      k80 x2 x3 M
    else
      if ¬ ((x1 >>> (x4 &&& 31)) &&& 1) = 0 then
        f193_j37 k80 (f193_l7 x0 x1 k80 n) x0 x1 x2 x3 x4 M
      else
        (sg_r M x0 11 62).bind fun v34 =>
        (v34).bind fun q36 =>
        (sa_i M q36 0 x4).bind fun v38 =>
        if v38 = (-1) then
          f193_j37 k80 (f193_l7 x0 x1 k80 n) x0 x1 x2 x3 x4 M
        else
          f193_j38 k80 (f193_l7 x0 x1 k80 n) x0 x1 x2 x3 x4 1 M
theorem f193_l7_ok {d : Nat} {x0 : Nat} {x1 : Int32} {k80 : Int32 → Int32 → vm_M → Option (Int32 × vm_M)} {r : Int32 × vm_M} (hk80 : ∀ {y2 : Int32} {y3 : Int32} {M : vm_M} {lv : vm_L}, (0, .ref (x0)) ∈ lv → (1, .int (x1)) ∈ lv → (2, .int (y2)) ∈ lv → (3, .int (y3)) ∈ lv → k80 y2 y3 M = some r → Ev 0 (fun _ => 0) (vm_Cl (d + 0)) vp_193 11 7 false (some (.boolean)) (rI r) 80 lv [] M) : ∀ (n : Nat) {x2 : Int32} {x3 : Int32} {x4 : Int32} {M : vm_M} {lv : vm_L}, (0, .ref (x0)) ∈ lv → (1, .int (x1)) ∈ lv → (2, .int (x2)) ∈ lv → (3, .int (x3)) ∈ lv → (4, .int (x4)) ∈ lv → f193_l7 x0 x1 k80 n x2 x3 x4 M = some r → Ev 0 (fun _ => 0) (vm_Cl (d + 0)) vp_193 11 7 false (some (.boolean)) (rI r) 7 lv [] M := by
  intro n
  induction n with
  | zero =>
    intro x2 x3 x4 M lv l0 l1 l2 l3 l4 h
    cases h
  | succ n ih =>
    intro x2 x3 x4 M lv l0 l1 l2 l3 l4 h
    dsimp only [f193_l7] at h
    refine ev_iload (mm 6 rfl) l4 ?_
    refine ev_iconst (mm 7 rfl) cI_3 ?_
    rcases ite_so h with ⟨c7, h⟩ | ⟨c7, h⟩
    · refine ev_ic_t 80 (mm 8 rfl) rfl c7 ?_
      exact hk80 l0 l1 l2 l3 h
    · refine ev_ic_f 80 (mm 8 rfl) rfl c7 ?_
      refine ev_iload_n (mm 9 rfl) l1 ?_
      refine ev_iload (mm 10 rfl) l4 ?_
      refine ev_ishr (mm 11 rfl) ?_
      refine ev_iconst (mm 12 rfl) cI_1 ?_
      refine ev_iand (mm 13 rfl) ?_
      rcases ite_so h with ⟨c8, h⟩ | ⟨c8, h⟩
      · refine ev_if_t 37 (mm 14 rfl) rfl c8 ?_
        exact f193_j37_ok hk80 ih l0 l1 l2 l3 l4 h
      · refine ev_if_f 37 (mm 14 rfl) rfl c8 ?_
        refine ev_aload_nR (mm 15 rfl) l0 ?_
        obtain ⟨v34, e35, h⟩ := bind_so h
        refine ev_get_r (mm 16 rfl) rfl e35 ?_
        refine ev_iload (mm 17 rfl) l4 ?_
        obtain ⟨q36, e37, h⟩ := bind_so h
        rw [e37]
        obtain ⟨v38, e39, h⟩ := bind_so h
        refine ev_iaload (mm 18 rfl) e39 ?_
        refine ev_iconst (mm 19 rfl) cI_m1 ?_
        rcases ite_so h with ⟨c40, h⟩ | ⟨c40, h⟩
        · refine ev_ic_t 37 (mm 20 rfl) rfl c40 ?_
          exact f193_j37_ok hk80 ih l0 l1 l2 l3 l4 h
        · refine ev_ic_f 37 (mm 20 rfl) rfl c40 ?_
          refine ev_iconst (mm 21 rfl) cI_1 ?_
          refine ev_goto 38 (mm 22 rfl) rfl ?_
          exact f193_j38_ok hk80 ih l0 l1 l2 l3 l4 h
def f193_j187 (x4 : Int32) (x5 : Int32) (x6 : Int32) (M : vm_M) : Option (Int32 × vm_M) :=
  if x6 < x4 then
    s_rb 0 M
  else
    if x6 < x5 then
      s_rb 0 M
    else
      s_rb 1 M
theorem f193_j187_ok {d : Nat} {x4 : Int32} {x5 : Int32} {x6 : Int32} {M : vm_M} {r : Int32 × vm_M} {lv : vm_L} (l4 : (4, .int (x4)) ∈ lv) (l5 : (5, .int (x5)) ∈ lv) (l6 : (6, .int (x6)) ∈ lv) (h : f193_j187 x4 x5 x6 M = some r) : Ev 0 (fun _ => 0) (vm_Cl (d + 0)) vp_193 11 7 false (some (.boolean)) (rI r) 187 lv [] M := by
  unfold f193_j187 at h
  refine ev_iload (mm 109 rfl) l4 ?_
  refine ev_iload (mm 110 rfl) l6 ?_
  rcases ite_so h with ⟨c56, h⟩ | ⟨c56, h⟩
  · refine ev_ic_t 205 (mm 111 rfl) rfl c56 ?_
    refine ev_iconst (mm 117 rfl) cI_0 ?_
    exact ev_zreturn (mm 118 rfl) h
  · refine ev_ic_f 205 (mm 111 rfl) rfl c56 ?_
    refine ev_iload (mm 112 rfl) l5 ?_
    refine ev_iload (mm 113 rfl) l6 ?_
    rcases ite_so h with ⟨c57, h⟩ | ⟨c57, h⟩
    · refine ev_ic_t 205 (mm 114 rfl) rfl c57 ?_
      refine ev_iconst (mm 117 rfl) cI_0 ?_
      exact ev_zreturn (mm 118 rfl) h
    · refine ev_ic_f 205 (mm 114 rfl) rfl c57 ?_
      refine ev_iconst (mm 115 rfl) cI_1 ?_
      refine ev_goto 206 (mm 116 rfl) rfl ?_
      exact ev_zreturn (mm 118 rfl) h
def f193_j138 (x2 : Int32) (x3 : Int32) (x4 : Int32) (x5 : Int32) (s0 : Int32) (M : vm_M) : Option (Int32 × vm_M) :=
  if ¬ s0 = (-1) then
    if x3 = 0 then
      if ¬ x2 = s0 then
        s_rb 0 M
      else
        f193_j187 x4 x5 s0 M
    else
      if s0 < x2 then
        s_rb 0 M
      else
        f193_j187 x4 x5 s0 M
  else
    if ¬ x3 = 0 then
      s_rb 1 M
    else
      if x2 < x4 then
        s_rb 0 M
      else
        if x2 < x5 then
          s_rb 0 M
        else
          s_rb 1 M
theorem f193_j138_ok {d : Nat} {x2 : Int32} {x3 : Int32} {x4 : Int32} {x5 : Int32} {s0 : Int32} {M : vm_M} {r : Int32 × vm_M} {lv : vm_L} (l2 : (2, .int (x2)) ∈ lv) (l3 : (3, .int (x3)) ∈ lv) (l4 : (4, .int (x4)) ∈ lv) (l5 : (5, .int (x5)) ∈ lv) (h : f193_j138 x2 x3 x4 x5 s0 M = some r) : Ev 0 (fun _ => 0) (vm_Cl (d + 0)) vp_193 11 7 false (some (.boolean)) (rI r) 138 lv [.int (s0)] M := by
  unfold f193_j138 at h
  refine evs_istore (mm 84 rfl) (by decide) (fun lv51 l6 s52 => ?_)
  have l2 := s52 _ _ l2 rfl
  have l3 := s52 _ _ l3 rfl
  have l4 := s52 _ _ l4 rfl
  have l5 := s52 _ _ l5 rfl
  refine ev_iload (mm 85 rfl) l6 ?_
  refine ev_iconst (mm 86 rfl) cI_m1 ?_
  rcases ite_so h with ⟨c53, h⟩ | ⟨c53, h⟩
  · refine ev_ic_t 168 (mm 87 rfl) rfl c53 ?_
    refine ev_iload_n (mm 100 rfl) l3 ?_
    rcases ite_so h with ⟨c54, h⟩ | ⟨c54, h⟩
    · refine ev_if_t 181 (mm 101 rfl) rfl c54 ?_
      refine ev_iload_n (mm 106 rfl) l2 ?_
      refine ev_iload (mm 107 rfl) l6 ?_
      rcases ite_so h with ⟨c55, h⟩ | ⟨c55, h⟩
      · refine ev_ic_t 205 (mm 108 rfl) rfl c55 ?_
        refine ev_iconst (mm 117 rfl) cI_0 ?_
        exact ev_zreturn (mm 118 rfl) h
      · refine ev_ic_f 205 (mm 108 rfl) rfl c55 ?_
        exact f193_j187_ok l4 l5 l6 h
    · refine ev_if_f 181 (mm 101 rfl) rfl c54 ?_
      refine ev_iload_n (mm 102 rfl) l2 ?_
      refine ev_iload (mm 103 rfl) l6 ?_
      rcases ite_so h with ⟨c58, h⟩ | ⟨c58, h⟩
      · refine ev_ic_t 205 (mm 104 rfl) rfl c58 ?_
        refine ev_iconst (mm 117 rfl) cI_0 ?_
        exact ev_zreturn (mm 118 rfl) h
      · refine ev_ic_f 205 (mm 104 rfl) rfl c58 ?_
        refine ev_goto 187 (mm 105 rfl) rfl ?_
        exact f193_j187_ok l4 l5 l6 h
  · refine ev_ic_f 168 (mm 87 rfl) rfl c53 ?_
    refine ev_iload_n (mm 88 rfl) l3 ?_
    rcases ite_so h with ⟨c59, h⟩ | ⟨c59, h⟩
    · refine ev_if_t 162 (mm 89 rfl) rfl c59 ?_
      refine ev_iconst (mm 96 rfl) cI_1 ?_
      refine ev_goto 167 (mm 97 rfl) rfl ?_
      exact ev_zreturn (mm 99 rfl) h
    · refine ev_if_f 162 (mm 89 rfl) rfl c59 ?_
      refine ev_iload (mm 90 rfl) l4 ?_
      refine ev_iload_n (mm 91 rfl) l2 ?_
      rcases ite_so h with ⟨c60, h⟩ | ⟨c60, h⟩
      · refine ev_ic_t 166 (mm 92 rfl) rfl c60 ?_
        refine ev_iconst (mm 98 rfl) cI_0 ?_
        exact ev_zreturn (mm 99 rfl) h
      · refine ev_ic_f 166 (mm 92 rfl) rfl c60 ?_
        refine ev_iload (mm 93 rfl) l5 ?_
        refine ev_iload_n (mm 94 rfl) l2 ?_
        rcases ite_so h with ⟨c61, h⟩ | ⟨c61, h⟩
        · refine ev_ic_t 166 (mm 95 rfl) rfl c61 ?_
          refine ev_iconst (mm 98 rfl) cI_0 ?_
          exact ev_zreturn (mm 99 rfl) h
        · refine ev_ic_f 166 (mm 95 rfl) rfl c61 ?_
          refine ev_iconst (mm 96 rfl) cI_1 ?_
          refine ev_goto 167 (mm 97 rfl) rfl ?_
          exact ev_zreturn (mm 99 rfl) h
def f193_j118 (x0 : Nat) (x1 : Int32) (x2 : Int32) (x3 : Int32) (x4 : Int32) (s0 : Int32) (M : vm_M) : Option (Int32 × vm_M) :=
  if ¬ ((x1 >>> (5 &&& 31)) &&& 1) = 0 then
    f193_j138 x2 x3 x4 s0 (-1) M
  else
    (sg_r M x0 11 62).bind fun v62 =>
    (v62).bind fun q64 =>
    (sa_i M q64 0 5).bind fun v66 =>
    f193_j138 x2 x3 x4 s0 v66 M
theorem f193_j118_ok {d : Nat} {x0 : Nat} {x1 : Int32} {x2 : Int32} {x3 : Int32} {x4 : Int32} {s0 : Int32} {M : vm_M} {r : Int32 × vm_M} {lv : vm_L} (l0 : (0, .ref (x0)) ∈ lv) (l1 : (1, .int (x1)) ∈ lv) (l2 : (2, .int (x2)) ∈ lv) (l3 : (3, .int (x3)) ∈ lv) (l4 : (4, .int (x4)) ∈ lv) (h : f193_j118 x0 x1 x2 x3 x4 s0 M = some r) : Ev 0 (fun _ => 0) (vm_Cl (d + 0)) vp_193 11 7 false (some (.boolean)) (rI r) 118 lv [.int (s0)] M := by
  unfold f193_j118 at h
  refine evs_istore (mm 71 rfl) (by decide) (fun lv48 l5 s49 => ?_)
  have l0 := s49 _ _ l0 rfl
  have l1 := s49 _ _ l1 rfl
  have l2 := s49 _ _ l2 rfl
  have l3 := s49 _ _ l3 rfl
  have l4 := s49 _ _ l4 rfl
  refine ev_iload_n (mm 72 rfl) l1 ?_
  refine ev_iconst (mm 73 rfl) cI_5 ?_
  refine ev_ishr (mm 74 rfl) ?_
  refine ev_iconst (mm 75 rfl) cI_1 ?_
  refine ev_iand (mm 76 rfl) ?_
  rcases ite_so h with ⟨c50, h⟩ | ⟨c50, h⟩
  · refine ev_if_t 137 (mm 77 rfl) rfl c50 ?_
    refine ev_iconst (mm 83 rfl) cI_m1 ?_
    exact f193_j138_ok l2 l3 l4 l5 h
  · refine ev_if_f 137 (mm 77 rfl) rfl c50 ?_
    refine ev_aload_nR (mm 78 rfl) l0 ?_
    obtain ⟨v62, e63, h⟩ := bind_so h
    refine ev_get_r (mm 79 rfl) rfl e63 ?_
    refine ev_iconst (mm 80 rfl) cI_5 ?_
    obtain ⟨q64, e65, h⟩ := bind_so h
    rw [e65]
    obtain ⟨v66, e67, h⟩ := bind_so h
    refine ev_iaload (mm 81 rfl) e67 ?_
    refine ev_goto 138 (mm 82 rfl) rfl ?_
    exact f193_j138_ok l2 l3 l4 l5 h
def f193_j98 (x0 : Nat) (x1 : Int32) (x2 : Int32) (x3 : Int32) (s0 : Int32) (M : vm_M) : Option (Int32 × vm_M) :=
  if ¬ ((x1 >>> (4 &&& 31)) &&& 1) = 0 then
    f193_j118 x0 x1 x2 x3 s0 (-1) M
  else
    (sg_r M x0 11 62).bind fun v68 =>
    (v68).bind fun q70 =>
    (sa_i M q70 0 4).bind fun v72 =>
    f193_j118 x0 x1 x2 x3 s0 v72 M
theorem f193_j98_ok {d : Nat} {x0 : Nat} {x1 : Int32} {x2 : Int32} {x3 : Int32} {s0 : Int32} {M : vm_M} {r : Int32 × vm_M} {lv : vm_L} (l0 : (0, .ref (x0)) ∈ lv) (l1 : (1, .int (x1)) ∈ lv) (l2 : (2, .int (x2)) ∈ lv) (l3 : (3, .int (x3)) ∈ lv) (h : f193_j98 x0 x1 x2 x3 s0 M = some r) : Ev 0 (fun _ => 0) (vm_Cl (d + 0)) vp_193 11 7 false (some (.boolean)) (rI r) 98 lv [.int (s0)] M := by
  unfold f193_j98 at h
  refine evs_istore (mm 58 rfl) (by decide) (fun lv45 l4 s46 => ?_)
  have l0 := s46 _ _ l0 rfl
  have l1 := s46 _ _ l1 rfl
  have l2 := s46 _ _ l2 rfl
  have l3 := s46 _ _ l3 rfl
  refine ev_iload_n (mm 59 rfl) l1 ?_
  refine ev_iconst (mm 60 rfl) cI_4 ?_
  refine ev_ishr (mm 61 rfl) ?_
  refine ev_iconst (mm 62 rfl) cI_1 ?_
  refine ev_iand (mm 63 rfl) ?_
  rcases ite_so h with ⟨c47, h⟩ | ⟨c47, h⟩
  · refine ev_if_t 117 (mm 64 rfl) rfl c47 ?_
    refine ev_iconst (mm 70 rfl) cI_m1 ?_
    exact f193_j118_ok l0 l1 l2 l3 l4 h
  · refine ev_if_f 117 (mm 64 rfl) rfl c47 ?_
    refine ev_aload_nR (mm 65 rfl) l0 ?_
    obtain ⟨v68, e69, h⟩ := bind_so h
    refine ev_get_r (mm 66 rfl) rfl e69 ?_
    refine ev_iconst (mm 67 rfl) cI_4 ?_
    obtain ⟨q70, e71, h⟩ := bind_so h
    rw [e71]
    obtain ⟨v72, e73, h⟩ := bind_so h
    refine ev_iaload (mm 68 rfl) e73 ?_
    refine ev_goto 118 (mm 69 rfl) rfl ?_
    exact f193_j118_ok l0 l1 l2 l3 l4 h
/-- PupilCoinModel.canBe(I)Z -/
def f193 (x0 : Nat) (x1 : Int32) (M : vm_M) : Option (Int32 × vm_M) :=
  f193_l7 x0 x1
    (fun y41 y42 M43 =>
      if ¬ ((x1 >>> (3 &&& 31)) &&& 1) = 0 then
        f193_j98 x0 x1 y41 y42 (-1) M43
      else
        (sg_r M43 x0 11 62).bind fun v74 =>
        (v74).bind fun q76 =>
        (sa_i M43 q76 0 3).bind fun v78 =>
        f193_j98 x0 x1 y41 y42 v78 M43)
    100000 0 0 0 M
theorem f193_ok {x0 : Nat} {x1 : Int32} {M : vm_M} {r : Int32 × vm_M} (h : f193 x0 x1 M = some r) (d : Nat) : vm_Cl (d + 1) 193 [.ref (x0), .int (x1)] M (rI r) := by
  have key : Ev 0 (fun _ => 0) (vm_Cl (d + 0)) vp_193 11 7 false (some (.boolean)) (rI r) 0 (lv_args 0 [.ref (x0), .int (x1)]) [] M := by
    have l0 : (0, .ref (x0)) ∈ lv_args 0 [.ref (x0), .int (x1)] := List.Mem.head _
    have l1 : (1, .int (x1)) ∈ lv_args 0 [.ref (x0), .int (x1)] := List.Mem.tail _ (List.Mem.head _)
    unfold f193 at h
    refine ev_iconst (mm 0 rfl) cI_0 ?_
    refine evs_istore_n (mm 1 rfl) (by decide) (fun lv1 l2 s2 => ?_)
    have l0 := s2 _ _ l0 rfl
    have l1 := s2 _ _ l1 rfl
    refine ev_iconst (mm 2 rfl) cI_0 ?_
    refine evs_istore_n (mm 3 rfl) (by decide) (fun lv3 l3 s4 => ?_)
    have l0 := s4 _ _ l0 rfl
    have l1 := s4 _ _ l1 rfl
    have l2 := s4 _ _ l2 rfl
    refine ev_iconst (mm 4 rfl) cI_0 ?_
    refine evs_istore (mm 5 rfl) (by decide) (fun lv5 l4 s6 => ?_)
    have l0 := s6 _ _ l0 rfl
    have l1 := s6 _ _ l1 rfl
    have l2 := s6 _ _ l2 rfl
    have l3 := s6 _ _ l3 rfl
    refine f193_l7_ok ?_ 100000 l0 l1 l2 l3 l4 h
    · intro y41 y42 M43 lv l0 l1 l2 l3
      intro h
      refine ev_iload_n (mm 46 rfl) l1 ?_
      refine ev_iconst (mm 47 rfl) cI_3 ?_
      refine ev_ishr (mm 48 rfl) ?_
      refine ev_iconst (mm 49 rfl) cI_1 ?_
      refine ev_iand (mm 50 rfl) ?_
      rcases ite_so h with ⟨c44, h⟩ | ⟨c44, h⟩
      · refine ev_if_t 97 (mm 51 rfl) rfl c44 ?_
        refine ev_iconst (mm 57 rfl) cI_m1 ?_
        exact f193_j98_ok l0 l1 l2 l3 h
      · refine ev_if_f 97 (mm 51 rfl) rfl c44 ?_
        refine ev_aload_nR (mm 52 rfl) l0 ?_
        obtain ⟨v74, e75, h⟩ := bind_so h
        refine ev_get_r (mm 53 rfl) rfl e75 ?_
        refine ev_iconst (mm 54 rfl) cI_3 ?_
        obtain ⟨q76, e77, h⟩ := bind_so h
        rw [e77]
        obtain ⟨v78, e79, h⟩ := bind_so h
        refine ev_iaload (mm 55 rfl) e79 ?_
        refine ev_goto 98 (mm 56 rfl) rfl ?_
        exact f193_j98_ok l0 l1 l2 l3 h
  exact ⟨by decide, Nat.le_of_ble_eq_true rfl, key.1, key.2⟩
def f194_l4 : Nat → Int32 → Int32 → vm_M → Option (Int32 × vm_M)
  | 0 => fun _ _ _ => none
  | n + 1 => fun x1 x2 M =>
    if x2 ≤ 0 then
      some (x1, M)
    else
      f194_l4 n (x1 + (x2 &&& 1)) (x2 >>> (1 &&& 31)) M
theorem f194_l4_ok {d : Nat} {r : Int32 × vm_M} : ∀ (n : Nat) {x1 : Int32} {x2 : Int32} {M : vm_M} {lv : vm_L}, (1, .int (x1)) ∈ lv → (2, .int (x2)) ∈ lv → f194_l4 n x1 x2 M = some r → Ev 0 (fun _ => 0) (vm_Cl (d + 0)) vp_194 11 3 false (some (.int)) (rI r) 4 lv [] M := by
  intro n
  induction n with
  | zero =>
    intro x1 x2 M lv l1 l2 h
    cases h
  | succ n ih =>
    intro x1 x2 M lv l1 l2 h
    dsimp only [f194_l4] at h
    refine ev_iload_n (mm 4 rfl) l2 ?_
    rcases ite_so h with ⟨c5, h⟩ | ⟨c5, h⟩
    · refine ev_if_t 21 (mm 5 rfl) rfl c5 ?_
      refine ev_iload_n (mm 17 rfl) l1 ?_
      exact ev_ireturn (mm 18 rfl) h
    · refine ev_if_f 21 (mm 5 rfl) rfl c5 ?_
      refine ev_iload_n (mm 6 rfl) l1 ?_
      refine ev_iload_n (mm 7 rfl) l2 ?_
      refine ev_iconst (mm 8 rfl) cI_1 ?_
      refine ev_iand (mm 9 rfl) ?_
      refine ev_iadd (mm 10 rfl) ?_
      refine evs_istore_n (mm 11 rfl) (by decide) (fun lv6 l1 s7 => ?_)
      have l2 := s7 _ _ l2 rfl
      refine ev_iload_n (mm 12 rfl) l2 ?_
      refine ev_iconst (mm 13 rfl) cI_1 ?_
      refine ev_ishr (mm 14 rfl) ?_
      refine evs_istore_n (mm 15 rfl) (by decide) (fun lv8 l2 s9 => ?_)
      have l1 := s9 _ _ l1 rfl
      refine ev_goto 4 (mm 16 rfl) rfl ?_
      exact ih l1 l2 h
/-- PupilCoinModel.bits(I)I -/
def f194 (x0 : Int32) (M : vm_M) : Option (Int32 × vm_M) :=
  f194_l4
  
    100000 0 x0 M
theorem f194_ok {x0 : Int32} {M : vm_M} {r : Int32 × vm_M} (h : f194 x0 M = some r) (d : Nat) : vm_Cl (d + 1) 194 [.int (x0)] M (rI r) := by
  have key : Ev 0 (fun _ => 0) (vm_Cl (d + 0)) vp_194 11 3 false (some (.int)) (rI r) 0 (lv_args 0 [.int (x0)]) [] M := by
    have l0 : (0, .int (x0)) ∈ lv_args 0 [.int (x0)] := List.Mem.head _
    unfold f194 at h
    refine ev_iconst (mm 0 rfl) cI_0 ?_
    refine evs_istore_n (mm 1 rfl) (by decide) (fun lv1 l1 s2 => ?_)
    have l0 := s2 _ _ l0 rfl
    refine ev_iload_n (mm 2 rfl) l0 ?_
    refine evs_istore_n (mm 3 rfl) (by decide) (fun lv3 l2 s4 => ?_)
    have l1 := s4 _ _ l1 rfl
    refine f194_l4_ok 100000 l1 l2 h
  exact ⟨by decide, Nat.le_of_ble_eq_true rfl, key.1, key.2⟩
def f195_l22 (x0 : Nat) (x1 : Int32) (x2 : Int32) (k76 : Int32 → vm_M → Option (Int32 × vm_M)) : Nat → Int32 → Int32 → vm_M → Option (Int32 × vm_M)
  | 0 => fun _ _ _ => none
  | n + 1 => fun x3 x4 M =>
    if 6 ≤ x4 then
      k76 x3 M
    else
      (sg_r M x0 11 62).bind fun v12 =>
      (sg_i M x0 11 0).bind fun v14 =>
      (s_ob M x0 11).bind fun _ =>
      (f126 x0 x1 x2 x4 v14 M).bind fun p16 =>
      (v12).bind fun q18 =>
      (ss_i p16.2 q18 0 x4 p16.1).bind fun M20 =>
      (sg_r M20 x0 11 62).bind fun v22 =>
      (v22).bind fun q24 =>
      (sa_i M20 q24 0 x4).bind fun v26 =>
      if ¬ v26 = (-1) then
        f195_l22 x0 x1 x2 k76 n (x3 ||| (1 <<< (x4 &&& 31))) (x4 + 1) M20
      else
        f195_l22 x0 x1 x2 k76 n (x3 ||| 0) (x4 + 1) M20
theorem f195_l22_ok {d : Nat} {x0 : Nat} {x1 : Int32} {x2 : Int32} {k76 : Int32 → vm_M → Option (Int32 × vm_M)} {r : Int32 × vm_M} (hk76 : ∀ {y3 : Int32} {M : vm_M} {lv : vm_L}, (0, .ref (x0)) ∈ lv → (3, .int (y3)) ∈ lv → k76 y3 M = some r → Ev 0 (fun _ => 0) (vm_Cl (d + 2)) vp_195 11 6 false (some (.int)) (rI r) 76 lv [] M) : ∀ (n : Nat) {x3 : Int32} {x4 : Int32} {M : vm_M} {lv : vm_L}, (0, .ref (x0)) ∈ lv → (1, .int (x1)) ∈ lv → (2, .int (x2)) ∈ lv → (3, .int (x3)) ∈ lv → (4, .int (x4)) ∈ lv → f195_l22 x0 x1 x2 k76 n x3 x4 M = some r → Ev 0 (fun _ => 0) (vm_Cl (d + 2)) vp_195 11 6 false (some (.int)) (rI r) 22 lv [] M := by
  intro n
  induction n with
  | zero =>
    intro x3 x4 M lv l0 l1 l2 l3 l4 h
    cases h
  | succ n ih =>
    intro x3 x4 M lv l0 l1 l2 l3 l4 h
    dsimp only [f195_l22] at h
    refine ev_iload (mm 13 rfl) l4 ?_
    refine ev_bipush (mm 14 rfl) cB_6 ?_
    rcases ite_so h with ⟨c11, h⟩ | ⟨c11, h⟩
    · refine ev_ic_t 76 (mm 15 rfl) rfl c11 ?_
      exact hk76 l0 l3 h
    · refine ev_ic_f 76 (mm 15 rfl) rfl c11 ?_
      refine ev_aload_nR (mm 16 rfl) l0 ?_
      obtain ⟨v12, e13, h⟩ := bind_so h
      refine ev_get_r (mm 17 rfl) rfl e13 ?_
      refine ev_iload (mm 18 rfl) l4 ?_
      refine ev_aload_nR (mm 19 rfl) l0 ?_
      refine ev_iload_n (mm 20 rfl) l1 ?_
      refine ev_iload_n (mm 21 rfl) l2 ?_
      refine ev_iload (mm 22 rfl) l4 ?_
      refine ev_aload_nR (mm 23 rfl) l0 ?_
      obtain ⟨v14, e15, h⟩ := bind_so h
      refine ev_get_i (mm 24 rfl) rfl e15 ?_
      obtain ⟨_, e37, h⟩ := bind_so h
      obtain ⟨p16, e17, h⟩ := bind_so h
      refine ev_callV_I [.int (x1), .int (x2), .int (x4), .int (v14)] (mm 25 rfl) rfl rfl (by simp [vm_cat_A, vm_cat_I, vm_cat_R, vm_cat_J, vm_cat_0]) (s_ob_of e37) (f126_ok e17 (d + 1)) ?_
      obtain ⟨q18, e19, h⟩ := bind_so h
      rw [e19]
      obtain ⟨M20, e21, h⟩ := bind_so h
      refine ev_iastore (mm 26 rfl) e21 ?_
      refine ev_iload_n (mm 27 rfl) l3 ?_
      refine ev_aload_nR (mm 28 rfl) l0 ?_
      obtain ⟨v22, e23, h⟩ := bind_so h
      refine ev_get_r (mm 29 rfl) rfl e23 ?_
      refine ev_iload (mm 30 rfl) l4 ?_
      obtain ⟨q24, e25, h⟩ := bind_so h
      rw [e25]
      obtain ⟨v26, e27, h⟩ := bind_so h
      refine ev_iaload (mm 31 rfl) e27 ?_
      refine ev_iconst (mm 32 rfl) cI_m1 ?_
      rcases ite_so h with ⟨c28, h⟩ | ⟨c28, h⟩
      · refine ev_ic_t 64 (mm 33 rfl) rfl c28 ?_
        refine ev_iconst (mm 36 rfl) cI_1 ?_
        refine ev_iload (mm 37 rfl) l4 ?_
        refine ev_ishl (mm 38 rfl) ?_
        refine ev_ior (mm 39 rfl) ?_
        refine evs_istore_n (mm 40 rfl) (by decide) (fun lv29 l3 s30 => ?_)
        have l0 := s30 _ _ l0 rfl
        have l1 := s30 _ _ l1 rfl
        have l2 := s30 _ _ l2 rfl
        have l4 := s30 _ _ l4 rfl
        refine evs_iinc (mm 41 rfl) cI_1 l4 (by decide) (fun lv31 l4 s32 => ?_)
        have l0 := s32 _ _ l0 rfl
        have l1 := s32 _ _ l1 rfl
        have l2 := s32 _ _ l2 rfl
        have l3 := s32 _ _ l3 rfl
        refine ev_goto 22 (mm 42 rfl) rfl ?_
        exact ih l0 l1 l2 l3 l4 h
      · refine ev_ic_f 64 (mm 33 rfl) rfl c28 ?_
        refine ev_iconst (mm 34 rfl) cI_0 ?_
        refine ev_goto 68 (mm 35 rfl) rfl ?_
        refine ev_ior (mm 39 rfl) ?_
        refine evs_istore_n (mm 40 rfl) (by decide) (fun lv33 l3 s34 => ?_)
        have l0 := s34 _ _ l0 rfl
        have l1 := s34 _ _ l1 rfl
        have l2 := s34 _ _ l2 rfl
        have l4 := s34 _ _ l4 rfl
        refine evs_iinc (mm 41 rfl) cI_1 l4 (by decide) (fun lv35 l4 s36 => ?_)
        have l0 := s36 _ _ l0 rfl
        have l1 := s36 _ _ l1 rfl
        have l2 := s36 _ _ l2 rfl
        have l3 := s36 _ _ l3 rfl
        refine ev_goto 22 (mm 42 rfl) rfl ?_
        exact ih l0 l1 l2 l3 l4 h
def f195_j117 (k82 : Int32 → Int32 → vm_M → Option (Int32 × vm_M)) (x0 : Nat) (x3 : Int32) (x4 : Int32) (x5 : Int32) (M : vm_M) : Option (Int32 × vm_M) :=
  (s_ob M x0 11).bind fun _ =>
  (f193 x0 x5 M).bind fun p49 =>
  if p49.1 = 0 then
    k82 x4 (x5 + 1) p49.2
  else
    k82 x5 (x5 + 1) p49.2
theorem f195_j117_ok {d : Nat} {x0 : Nat} {x3 : Int32} {x4 : Int32} {x5 : Int32} {M : vm_M} {k82 : Int32 → Int32 → vm_M → Option (Int32 × vm_M)} {r : Int32 × vm_M} (hk82 : ∀ {y4 : Int32} {y5 : Int32} {M : vm_M} {lv : vm_L}, (0, .ref (x0)) ∈ lv → (3, .int (x3)) ∈ lv → (4, .int (y4)) ∈ lv → (5, .int (y5)) ∈ lv → k82 y4 y5 M = some r → Ev 0 (fun _ => 0) (vm_Cl (d + 2)) vp_195 11 6 false (some (.int)) (rI r) 82 lv [] M) {lv : vm_L} (l0 : (0, .ref (x0)) ∈ lv) (l3 : (3, .int (x3)) ∈ lv) (l4 : (4, .int (x4)) ∈ lv) (l5 : (5, .int (x5)) ∈ lv) (h : f195_j117 k82 x0 x3 x4 x5 M = some r) : Ev 0 (fun _ => 0) (vm_Cl (d + 2)) vp_195 11 6 false (some (.int)) (rI r) 117 lv [] M := by
  unfold f195_j117 at h
  refine ev_aload_nR (mm 64 rfl) l0 ?_
  refine ev_iload (mm 65 rfl) l5 ?_
  obtain ⟨_, e58, h⟩ := bind_so h
  obtain ⟨p49, e50, h⟩ := bind_so h
  refine ev_callV_I [.int (x5)] (mm 66 rfl) rfl rfl (Nat.le_of_ble_eq_true rfl) (s_ob_of e58) (f193_ok e50 (d + 1)) ?_
  rcases ite_so h with ⟨c51, h⟩ | ⟨c51, h⟩
  · refine ev_if_t 130 (mm 67 rfl) rfl c51 ?_
    refine evs_iinc (mm 70 rfl) cI_1 l5 (by decide) (fun lv52 l5 s53 => ?_)
    have l0 := s53 _ _ l0 rfl
    have l3 := s53 _ _ l3 rfl
    have l4 := s53 _ _ l4 rfl
    refine ev_goto 82 (mm 71 rfl) rfl ?_
    exact hk82 l0 l3 l4 l5 h
  · refine ev_if_f 130 (mm 67 rfl) rfl c51 ?_
    refine ev_iload (mm 68 rfl) l5 ?_
    refine evs_istore (mm 69 rfl) (by decide) (fun lv54 l4 s55 => ?_)
    have l0 := s55 _ _ l0 rfl
    have l3 := s55 _ _ l3 rfl
    have l5 := s55 _ _ l5 rfl
    refine evs_iinc (mm 70 rfl) cI_1 l5 (by decide) (fun lv56 l5 s57 => ?_)
    have l0 := s57 _ _ l0 rfl
    have l3 := s57 _ _ l3 rfl
    have l4 := s57 _ _ l4 rfl
    refine ev_goto 82 (mm 71 rfl) rfl ?_
    exact hk82 l0 l3 l4 l5 h
def f195_l82 (x0 : Nat) (x3 : Int32) : Nat → Int32 → Int32 → vm_M → Option (Int32 × vm_M)
  | 0 => fun _ _ _ => none
  | n + 1 => fun x4 x5 M =>
    if 64 ≤ x5 then
      some (x4, M)
    else
      if ¬ (x5 &&& (x3 ^^^ (-1))) = 0 then
        f195_l82 x0 x3 n x4 (x5 + 1) M
      else
        if x4 = (-1) then
          f195_j117 (f195_l82 x0 x3 n) x0 x3 x4 x5 M
        else
          (f194 x5 M).bind fun p59 =>
          (f194 x4 p59.2).bind fun p61 =>
          if p61.1 ≤ p59.1 then
            f195_l82 x0 x3 n x4 (x5 + 1) p61.2
          else
            f195_j117 (f195_l82 x0 x3 n) x0 x3 x4 x5 p61.2
theorem f195_l82_ok {d : Nat} {x0 : Nat} {x3 : Int32} {r : Int32 × vm_M} : ∀ (n : Nat) {x4 : Int32} {x5 : Int32} {M : vm_M} {lv : vm_L}, (0, .ref (x0)) ∈ lv → (3, .int (x3)) ∈ lv → (4, .int (x4)) ∈ lv → (5, .int (x5)) ∈ lv → f195_l82 x0 x3 n x4 x5 M = some r → Ev 0 (fun _ => 0) (vm_Cl (d + 2)) vp_195 11 6 false (some (.int)) (rI r) 82 lv [] M := by
  intro n
  induction n with
  | zero =>
    intro x4 x5 M lv l0 l3 l4 l5 h
    cases h
  | succ n ih =>
    intro x4 x5 M lv l0 l3 l4 l5 h
    dsimp only [f195_l82] at h
    refine ev_iload (mm 47 rfl) l5 ?_
    refine ev_bipush (mm 48 rfl) cB_64 ?_
    rcases ite_so h with ⟨c44, h⟩ | ⟨c44, h⟩
    · refine ev_ic_t 136 (mm 49 rfl) rfl c44 ?_
      refine ev_iload (mm 72 rfl) l4 ?_
      exact ev_ireturn (mm 73 rfl) h
    · refine ev_ic_f 136 (mm 49 rfl) rfl c44 ?_
      refine ev_iload (mm 50 rfl) l5 ?_
      refine ev_iload_n (mm 51 rfl) l3 ?_
      refine ev_iconst (mm 52 rfl) cI_m1 ?_
      refine ev_ixor (mm 53 rfl) ?_
      refine ev_iand (mm 54 rfl) ?_
      rcases ite_so h with ⟨c45, h⟩ | ⟨c45, h⟩
      · refine ev_if_t 130 (mm 55 rfl) rfl c45 ?_
        refine evs_iinc (mm 70 rfl) cI_1 l5 (by decide) (fun lv46 l5 s47 => ?_)
        have l0 := s47 _ _ l0 rfl
        have l3 := s47 _ _ l3 rfl
        have l4 := s47 _ _ l4 rfl
        refine ev_goto 82 (mm 71 rfl) rfl ?_
        exact ih l0 l3 l4 l5 h
      · refine ev_if_f 130 (mm 55 rfl) rfl c45 ?_
        refine ev_iload (mm 56 rfl) l4 ?_
        refine ev_iconst (mm 57 rfl) cI_m1 ?_
        rcases ite_so h with ⟨c48, h⟩ | ⟨c48, h⟩
        · refine ev_ic_t 117 (mm 58 rfl) rfl c48 ?_
          exact f195_j117_ok ih l0 l3 l4 l5 h
        · refine ev_ic_f 117 (mm 58 rfl) rfl c48 ?_
          refine ev_iload (mm 59 rfl) l5 ?_
          obtain ⟨p59, e60, h⟩ := bind_so h
          refine ev_callS_I [.int (x5)] (mm 60 rfl) (by decide) rfl rfl (Nat.le_of_ble_eq_true rfl) (f194_ok e60 (d + 1)) ?_
          refine ev_iload (mm 61 rfl) l4 ?_
          obtain ⟨p61, e62, h⟩ := bind_so h
          refine ev_callS_I [.int (x4)] (mm 62 rfl) (by decide) rfl rfl (Nat.le_of_ble_eq_true rfl) (f194_ok e62 (d + 1)) ?_
          rcases ite_so h with ⟨c63, h⟩ | ⟨c63, h⟩
          · refine ev_ic_t 130 (mm 63 rfl) rfl c63 ?_
            refine evs_iinc (mm 70 rfl) cI_1 l5 (by decide) (fun lv64 l5 s65 => ?_)
            have l0 := s65 _ _ l0 rfl
            have l3 := s65 _ _ l3 rfl
            have l4 := s65 _ _ l4 rfl
            refine ev_goto 82 (mm 71 rfl) rfl ?_
            exact ih l0 l3 l4 l5 h
          · refine ev_ic_f 130 (mm 63 rfl) rfl c63 ?_
            exact f195_j117_ok ih l0 l3 l4 l5 h
/-- PupilCoinModel.doubt(II)I -/
def f195 (x0 : Nat) (x1 : Int32) (x2 : Int32) (M : vm_M) : Option (Int32 × vm_M) :=
  (s_ob M x0 11).bind fun _ =>
  (f116 x0 x1 M).bind fun p1 =>
  if p1.1 = 0 then
    some ((-1), p1.2)
  else
    (f115 x2 p1.2).bind fun p4 =>
    if ¬ p4.1 = 0 then
      f195_l22 x0 x1 x2
        (fun y38 M39 =>
          f195_l82 x0 y38
          
            100000 (-1) 0 M39)
        100000 0 0 p4.2
    else
      some ((-1), p4.2)
theorem f195_ok {x0 : Nat} {x1 : Int32} {x2 : Int32} {M : vm_M} {r : Int32 × vm_M} (h : f195 x0 x1 x2 M = some r) (d : Nat) : vm_Cl (d + 3) 195 [.ref (x0), .int (x1), .int (x2)] M (rI r) := by
  have key : Ev 0 (fun _ => 0) (vm_Cl (d + 2)) vp_195 11 6 false (some (.int)) (rI r) 0 (lv_args 0 [.ref (x0), .int (x1), .int (x2)]) [] M := by
    have l0 : (0, .ref (x0)) ∈ lv_args 0 [.ref (x0), .int (x1), .int (x2)] := List.Mem.head _
    have l1 : (1, .int (x1)) ∈ lv_args 0 [.ref (x0), .int (x1), .int (x2)] := List.Mem.tail _ (List.Mem.head _)
    have l2 : (2, .int (x2)) ∈ lv_args 0 [.ref (x0), .int (x1), .int (x2)] := List.Mem.tail _ (List.Mem.tail _ (List.Mem.head _))
    unfold f195 at h
    refine ev_aload_nR (mm 0 rfl) l0 ?_
    refine ev_iload_n (mm 1 rfl) l1 ?_
    obtain ⟨_, e66, h⟩ := bind_so h
    obtain ⟨p1, e2, h⟩ := bind_so h
    refine ev_callV_I [.int (x1)] (mm 2 rfl) rfl rfl (Nat.le_of_ble_eq_true rfl) (s_ob_of e66) (f116_ok e2 (d + 0)) ?_
    rcases ite_so h with ⟨c3, h⟩ | ⟨c3, h⟩
    · refine ev_if_t 15 (mm 3 rfl) rfl c3 ?_
      refine ev_iconst (mm 7 rfl) cI_m1 ?_
      exact ev_ireturn (mm 8 rfl) h
    · refine ev_if_f 15 (mm 3 rfl) rfl c3 ?_
      refine ev_iload_n (mm 4 rfl) l2 ?_
      obtain ⟨p4, e5, h⟩ := bind_so h
      refine ev_callS_I [.int (x2)] (mm 5 rfl) (by decide) rfl rfl (Nat.le_of_ble_eq_true rfl) (f115_ok e5 (d + 0)) ?_
      rcases ite_so h with ⟨c6, h⟩ | ⟨c6, h⟩
      · refine ev_if_t 17 (mm 6 rfl) rfl c6 ?_
        refine ev_iconst (mm 9 rfl) cI_0 ?_
        refine evs_istore_n (mm 10 rfl) (by decide) (fun lv7 l3 s8 => ?_)
        have l0 := s8 _ _ l0 rfl
        have l1 := s8 _ _ l1 rfl
        have l2 := s8 _ _ l2 rfl
        refine ev_iconst (mm 11 rfl) cI_0 ?_
        refine evs_istore (mm 12 rfl) (by decide) (fun lv9 l4 s10 => ?_)
        have l0 := s10 _ _ l0 rfl
        have l1 := s10 _ _ l1 rfl
        have l2 := s10 _ _ l2 rfl
        have l3 := s10 _ _ l3 rfl
        refine f195_l22_ok ?_ 100000 l0 l1 l2 l3 l4 h
        · intro y38 M39 lv l0 l3
          intro h
          refine ev_iconst (mm 43 rfl) cI_m1 ?_
          refine evs_istore (mm 44 rfl) (by decide) (fun lv40 l4 s41 => ?_)
          have l0 := s41 _ _ l0 rfl
          have l3 := s41 _ _ l3 rfl
          refine ev_iconst (mm 45 rfl) cI_0 ?_
          refine evs_istore (mm 46 rfl) (by decide) (fun lv42 l5 s43 => ?_)
          have l0 := s43 _ _ l0 rfl
          have l3 := s43 _ _ l3 rfl
          have l4 := s43 _ _ l4 rfl
          refine f195_l82_ok 100000 l0 l3 l4 l5 h
      · refine ev_if_f 17 (mm 6 rfl) rfl c6 ?_
        refine ev_iconst (mm 7 rfl) cI_m1 ?_
        exact ev_ireturn (mm 8 rfl) h
  exact ⟨by decide, Nat.le_of_ble_eq_true rfl, key.1, key.2⟩
def f196_l4 (x0 : Nat) : Nat → Int32 → Int32 → vm_M → Option (Int32 × vm_M)
  | 0 => fun _ _ _ => none
  | n + 1 => fun x1 x2 M =>
    (sg_i M x0 11 53).bind fun v5 =>
    if v5 ≤ x2 then
      some (x1, M)
    else
      (sg_r M x0 11 61).bind fun v8 =>
      (v8).bind fun q10 =>
      (sa_i M q10 2 x2).bind fun v12 =>
      (f113 v12 M).bind fun p14 =>
      f196_l4 x0 n (x1 + p14.1) (x2 + 1) p14.2
theorem f196_l4_ok {d : Nat} {x0 : Nat} {r : Int32 × vm_M} : ∀ (n : Nat) {x1 : Int32} {x2 : Int32} {M : vm_M} {lv : vm_L}, (0, .ref (x0)) ∈ lv → (1, .int (x1)) ∈ lv → (2, .int (x2)) ∈ lv → f196_l4 x0 n x1 x2 M = some r → Ev 0 (fun _ => 0) (vm_Cl (d + 1)) vp_196 11 3 false (some (.int)) (rI r) 4 lv [] M := by
  intro n
  induction n with
  | zero =>
    intro x1 x2 M lv l0 l1 l2 h
    cases h
  | succ n ih =>
    intro x1 x2 M lv l0 l1 l2 h
    dsimp only [f196_l4] at h
    refine ev_iload_n (mm 4 rfl) l2 ?_
    refine ev_aload_nR (mm 5 rfl) l0 ?_
    obtain ⟨v5, e6, h⟩ := bind_so h
    refine ev_get_i (mm 6 rfl) rfl e6 ?_
    rcases ite_so h with ⟨c7, h⟩ | ⟨c7, h⟩
    · refine ev_ic_t 30 (mm 7 rfl) rfl c7 ?_
      refine ev_iload_n (mm 18 rfl) l1 ?_
      exact ev_ireturn (mm 19 rfl) h
    · refine ev_ic_f 30 (mm 7 rfl) rfl c7 ?_
      refine ev_iload_n (mm 8 rfl) l1 ?_
      refine ev_aload_nR (mm 9 rfl) l0 ?_
      obtain ⟨v8, e9, h⟩ := bind_so h
      refine ev_get_r (mm 10 rfl) rfl e9 ?_
      refine ev_iload_n (mm 11 rfl) l2 ?_
      obtain ⟨q10, e11, h⟩ := bind_so h
      rw [e11]
      obtain ⟨v12, e13, h⟩ := bind_so h
      refine ev_zaload (mm 12 rfl) e13 ?_
      obtain ⟨p14, e15, h⟩ := bind_so h
      refine ev_callS_I [.int (v12)] (mm 13 rfl) (by decide) rfl rfl (Nat.le_of_ble_eq_true rfl) (f113_ok e15 (d + 0)) ?_
      refine ev_iadd (mm 14 rfl) ?_
      refine evs_istore_n (mm 15 rfl) (by decide) (fun lv16 l1 s17 => ?_)
      have l0 := s17 _ _ l0 rfl
      have l2 := s17 _ _ l2 rfl
      refine evs_iinc (mm 16 rfl) cI_1 l2 (by decide) (fun lv18 l2 s19 => ?_)
      have l0 := s19 _ _ l0 rfl
      have l1 := s19 _ _ l1 rfl
      refine ev_goto 4 (mm 17 rfl) rfl ?_
      exact ih l0 l1 l2 h
/-- PupilCoinModel.adopted()I -/
def f196 (x0 : Nat) (M : vm_M) : Option (Int32 × vm_M) :=
  f196_l4 x0
  
    100000 0 0 M
theorem f196_ok {x0 : Nat} {M : vm_M} {r : Int32 × vm_M} (h : f196 x0 M = some r) (d : Nat) : vm_Cl (d + 2) 196 [.ref (x0)] M (rI r) := by
  have key : Ev 0 (fun _ => 0) (vm_Cl (d + 1)) vp_196 11 3 false (some (.int)) (rI r) 0 (lv_args 0 [.ref (x0)]) [] M := by
    have l0 : (0, .ref (x0)) ∈ lv_args 0 [.ref (x0)] := List.Mem.head _
    unfold f196 at h
    refine ev_iconst (mm 0 rfl) cI_0 ?_
    refine evs_istore_n (mm 1 rfl) (by decide) (fun lv1 l1 s2 => ?_)
    have l0 := s2 _ _ l0 rfl
    refine ev_iconst (mm 2 rfl) cI_0 ?_
    refine evs_istore_n (mm 3 rfl) (by decide) (fun lv3 l2 s4 => ?_)
    have l0 := s4 _ _ l0 rfl
    have l1 := s4 _ _ l1 rfl
    refine f196_l4_ok 100000 l0 l1 l2 h
  exact ⟨by decide, Nat.le_of_ble_eq_true rfl, key.1, key.2⟩
def f197_l68 (x0 : Nat) : Nat → Int32 → Int32 → vm_M → Option (Int32 × vm_M)
  | 0 => fun _ _ _ => none
  | n + 1 => fun x2 x3 M =>
    (sg_i M x0 11 1).bind fun v12 =>
    if v12 ≤ x3 then
      some (x2, M)
    else
      (s_ob M x0 11).bind fun _ =>
      (f118 x0 M).bind fun p15 =>
      (s_ob p15.2 x0 11).bind fun _ =>
      (f122 x0 x3 p15.1 p15.2).bind fun p17 =>
      (f113 p17.1 p17.2).bind fun p19 =>
      f197_l68 x0 n (x2 + p19.1) (x3 + 1) p19.2
theorem f197_l68_ok {d : Nat} {x0 : Nat} {r : Int32 × vm_M} : ∀ (n : Nat) {x2 : Int32} {x3 : Int32} {M : vm_M} {lv : vm_L}, (0, .ref (x0)) ∈ lv → (2, .int (x2)) ∈ lv → (3, .int (x3)) ∈ lv → f197_l68 x0 n x2 x3 M = some r → Ev 0 (fun _ => 0) (vm_Cl (d + 2)) vp_197 11 4 false (some (.int)) (rI r) 68 lv [] M := by
  intro n
  induction n with
  | zero =>
    intro x2 x3 M lv l0 l2 l3 h
    cases h
  | succ n ih =>
    intro x2 x3 M lv l0 l2 l3 h
    dsimp only [f197_l68] at h
    refine ev_iload_n (mm 12 rfl) l3 ?_
    refine ev_aload_nR (mm 13 rfl) l0 ?_
    obtain ⟨v12, e13, h⟩ := bind_so h
    refine ev_get_i (mm 14 rfl) rfl e13 ?_
    rcases ite_so h with ⟨c14, h⟩ | ⟨c14, h⟩
    · refine ev_ic_t 97 (mm 15 rfl) rfl c14 ?_
      refine ev_iload_n (mm 27 rfl) l2 ?_
      exact ev_ireturn (mm 28 rfl) h
    · refine ev_ic_f 97 (mm 15 rfl) rfl c14 ?_
      refine ev_iload_n (mm 16 rfl) l2 ?_
      refine ev_aload_nR (mm 17 rfl) l0 ?_
      refine ev_iload_n (mm 18 rfl) l3 ?_
      refine ev_aload_nR (mm 19 rfl) l0 ?_
      obtain ⟨_, e26, h⟩ := bind_so h
      obtain ⟨p15, e16, h⟩ := bind_so h
      refine ev_callV_I [] (mm 20 rfl) rfl rfl (Nat.le_of_ble_eq_true rfl) (s_ob_of e26) (f118_ok e16 (d + 1)) ?_
      obtain ⟨_, e25, h⟩ := bind_so h
      obtain ⟨p17, e18, h⟩ := bind_so h
      refine ev_callV_I [.int (x3), .int (p15.1)] (mm 21 rfl) rfl rfl (Nat.le_of_ble_eq_true rfl) (s_ob_of e25) (f122_ok e18 (d + 1)) ?_
      obtain ⟨p19, e20, h⟩ := bind_so h
      refine ev_callS_I [.int (p17.1)] (mm 22 rfl) (by decide) rfl rfl (Nat.le_of_ble_eq_true rfl) (f113_ok e20 (d + 1)) ?_
      refine ev_iadd (mm 23 rfl) ?_
      refine evs_istore_n (mm 24 rfl) (by decide) (fun lv21 l2 s22 => ?_)
      have l0 := s22 _ _ l0 rfl
      have l3 := s22 _ _ l3 rfl
      refine evs_iinc (mm 25 rfl) cI_1 l3 (by decide) (fun lv23 l3 s24 => ?_)
      have l0 := s24 _ _ l0 rfl
      have l2 := s24 _ _ l2 rfl
      refine ev_goto 68 (mm 26 rfl) rfl ?_
      exact ih l0 l2 l3 h
/-- PupilCoinModel.count(I)I -/
def f197 (x0 : Nat) (x1 : Int32) (M : vm_M) : Option (Int32 × vm_M) :=
  if x1 = 0 then
    (sg_i M x0 11 0).bind fun v4 =>
    some (v4, M)
  else if x1 = 1 then
    (sg_i M x0 11 1).bind fun v7 =>
    some (v7, M)
  else if x1 = 2 then
    f197_l68 x0
    
      100000 0 0 M
  else if x1 = 3 then
    (sg_i M x0 11 2).bind fun v28 =>
    some (v28, M)
  else if x1 = 4 then
    (sg_i M x0 11 3).bind fun v31 =>
    some (v31, M)
  else if x1 = 5 then
    (sg_i M x0 11 18).bind fun v34 =>
    some (v34, M)
  else if x1 = 6 then
    (sg_i M x0 11 53).bind fun v37 =>
    some (v37, M)
  else if x1 = 7 then
    (s_ob M x0 11).bind fun _ =>
    (f196 x0 M).bind fun p40 =>
    some (p40.1, p40.2)
  else if x1 = 8 then
    (sg_i M x0 11 19).bind fun v44 =>
    some (v44, M)
  else if x1 = 9 then
    (sg_i M x0 11 26).bind fun v47 =>
    (f113 v47 M).bind fun p49 =>
    some (p49.1, p49.2)
  else 
    some ((-1), M)
theorem f197_ok {x0 : Nat} {x1 : Int32} {M : vm_M} {r : Int32 × vm_M} (h : f197 x0 x1 M = some r) (d : Nat) : vm_Cl (d + 3) 197 [.ref (x0), .int (x1)] M (rI r) := by
  have key : Ev 0 (fun _ => 0) (vm_Cl (d + 2)) vp_197 11 4 false (some (.int)) (rI r) 0 (lv_args 0 [.ref (x0), .int (x1)]) [] M := by
    have l0 : (0, .ref (x0)) ∈ lv_args 0 [.ref (x0), .int (x1)] := List.Mem.head _
    have l1 : (1, .int (x1)) ∈ lv_args 0 [.ref (x0), .int (x1)] := List.Mem.tail _ (List.Mem.head _)
    unfold f197 at h
    refine ev_iconst (mm 0 rfl) cI_0 ?_
    refine evs_istore_n (mm 1 rfl) (by decide) (fun lv1 l2 s2 => ?_)
    have l0 := s2 _ _ l0 rfl
    have l1 := s2 _ _ l1 rfl
    refine ev_iload_n (mm 2 rfl) l1 ?_
    rcases ite_so h with ⟨c3, h⟩ | ⟨c3, h⟩
    · refine ev_tsw (off := 53) 56 0 (mm 3 rfl) c3 rfl rfl ?_
      refine ev_aload_nR (mm 4 rfl) l0 ?_
      obtain ⟨v4, e5, h⟩ := bind_so h
      refine ev_get_i (mm 5 rfl) rfl e5 ?_
      exact ev_ireturn (mm 6 rfl) h
    rcases ite_so h with ⟨c6, h⟩ | ⟨c6, h⟩
    · refine ev_tsw (off := 58) 61 1 (mm 3 rfl) c6 rfl rfl ?_
      refine ev_aload_nR (mm 7 rfl) l0 ?_
      obtain ⟨v7, e8, h⟩ := bind_so h
      refine ev_get_i (mm 8 rfl) rfl e8 ?_
      exact ev_ireturn (mm 9 rfl) h
    rcases ite_so h with ⟨c9, h⟩ | ⟨c9, h⟩
    · refine ev_tsw (off := 63) 66 2 (mm 3 rfl) c9 rfl rfl ?_
      refine ev_iconst (mm 10 rfl) cI_0 ?_
      refine evs_istore_n (mm 11 rfl) (by decide) (fun lv10 l3 s11 => ?_)
      have l0 := s11 _ _ l0 rfl
      have l2 := s11 _ _ l2 rfl
      refine f197_l68_ok 100000 l0 l2 l3 h
    rcases ite_so h with ⟨c27, h⟩ | ⟨c27, h⟩
    · refine ev_tsw (off := 96) 99 3 (mm 3 rfl) c27 rfl rfl ?_
      refine ev_aload_nR (mm 29 rfl) l0 ?_
      obtain ⟨v28, e29, h⟩ := bind_so h
      refine ev_get_i (mm 30 rfl) rfl e29 ?_
      exact ev_ireturn (mm 31 rfl) h
    rcases ite_so h with ⟨c30, h⟩ | ⟨c30, h⟩
    · refine ev_tsw (off := 101) 104 4 (mm 3 rfl) c30 rfl rfl ?_
      refine ev_aload_nR (mm 32 rfl) l0 ?_
      obtain ⟨v31, e32, h⟩ := bind_so h
      refine ev_get_i (mm 33 rfl) rfl e32 ?_
      exact ev_ireturn (mm 34 rfl) h
    rcases ite_so h with ⟨c33, h⟩ | ⟨c33, h⟩
    · refine ev_tsw (off := 106) 109 5 (mm 3 rfl) c33 rfl rfl ?_
      refine ev_aload_nR (mm 35 rfl) l0 ?_
      obtain ⟨v34, e35, h⟩ := bind_so h
      refine ev_get_i (mm 36 rfl) rfl e35 ?_
      exact ev_ireturn (mm 37 rfl) h
    rcases ite_so h with ⟨c36, h⟩ | ⟨c36, h⟩
    · refine ev_tsw (off := 111) 114 6 (mm 3 rfl) c36 rfl rfl ?_
      refine ev_aload_nR (mm 38 rfl) l0 ?_
      obtain ⟨v37, e38, h⟩ := bind_so h
      refine ev_get_i (mm 39 rfl) rfl e38 ?_
      exact ev_ireturn (mm 40 rfl) h
    rcases ite_so h with ⟨c39, h⟩ | ⟨c39, h⟩
    · refine ev_tsw (off := 116) 119 7 (mm 3 rfl) c39 rfl rfl ?_
      refine ev_aload_nR (mm 41 rfl) l0 ?_
      obtain ⟨_, e42, h⟩ := bind_so h
      obtain ⟨p40, e41, h⟩ := bind_so h
      refine ev_callV_I [] (mm 42 rfl) rfl rfl (Nat.le_of_ble_eq_true rfl) (s_ob_of e42) (f196_ok e41 (d + 0)) ?_
      exact ev_ireturn (mm 43 rfl) h
    rcases ite_so h with ⟨c43, h⟩ | ⟨c43, h⟩
    · refine ev_tsw (off := 121) 124 8 (mm 3 rfl) c43 rfl rfl ?_
      refine ev_aload_nR (mm 44 rfl) l0 ?_
      obtain ⟨v44, e45, h⟩ := bind_so h
      refine ev_get_i (mm 45 rfl) rfl e45 ?_
      exact ev_ireturn (mm 46 rfl) h
    rcases ite_so h with ⟨c46, h⟩ | ⟨c46, h⟩
    · refine ev_tsw (off := 126) 129 9 (mm 3 rfl) c46 rfl rfl ?_
      refine ev_aload_nR (mm 47 rfl) l0 ?_
      obtain ⟨v47, e48, h⟩ := bind_so h
      refine ev_get_i (mm 48 rfl) rfl e48 ?_
      obtain ⟨p49, e50, h⟩ := bind_so h
      refine ev_callS_I [.int (v47)] (mm 49 rfl) (by decide) rfl rfl (Nat.le_of_ble_eq_true rfl) (f113_ok e50 (d + 1)) ?_
      exact ev_ireturn (mm 50 rfl) h
    refine ev_tswD 137 (mm 3 rfl) rfl (tsw_out [0, 1, 2, 3, 4, 5, 6, 7, 8, 9] rfl rfl (by simp [c3, c6, c9, c27, c30, c33, c36, c39, c43, c46])) ?_
    refine ev_iconst (mm 51 rfl) cI_m1 ?_
    exact ev_ireturn (mm 52 rfl) h
  exact ⟨by decide, Nat.le_of_ble_eq_true rfl, key.1, key.2⟩
