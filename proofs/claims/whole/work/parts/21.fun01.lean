/-! shallow functions, by program (wip/gen_fun.py) -/
/-- PupilCoin$Moves.<init>()V -/
def f20 (x0 : Nat) (M : vm_M) : Option (vm_M) :=
  (s_na M 0 20).bind fun M1 =>
  (sp_r M1 x0 4 0 (some (vm_n M))).bind fun M3 =>
  (s_na M3 0 20).bind fun M5 =>
  (sp_r M5 x0 4 1 (some (vm_n M3))).bind fun M7 =>
  (s_na M7 0 20).bind fun M9 =>
  (sp_r M9 x0 4 2 (some (vm_n M7))).bind fun M11 =>
  (s_na M11 0 20).bind fun M13 =>
  (sp_r M13 x0 4 3 (some (vm_n M11))).bind fun M15 =>
  (s_na M15 0 20).bind fun M17 =>
  (sp_r M17 x0 4 4 (some (vm_n M15))).bind fun M19 =>
  (s_na M19 0 20).bind fun M21 =>
  (sp_r M21 x0 4 5 (some (vm_n M19))).bind fun M23 =>
  (s_na M23 0 20).bind fun M25 =>
  (sp_r M25 x0 4 6 (some (vm_n M23))).bind fun M27 =>
  (s_na M27 2 20).bind fun M29 =>
  (sp_r M29 x0 4 7 (some (vm_n M27))).bind fun M31 =>
  some M31
theorem f20_ok {x0 : Nat} {M : vm_M} {r : vm_M} (h : f20 x0 M = some r) (d : Nat) : vm_Cl (d + 1) 20 [.ref (x0)] M (rV r) := by
  have key : Ev 0 (fun _ => 0) (vm_Cl (d + 0)) vp_20 4 1 true none (rV r) 0 (lv_args 0 [.ref (x0)]) [] M := by
    have l0 : (0, .ref (x0)) ∈ lv_args 0 [.ref (x0)] := List.Mem.head _
    unfold f20 at h
    refine ev_aload_nR (mm 0 rfl) l0 ?_
    refine ev_obj (mm 1 rfl) (Nat.le_of_ble_eq_true rfl) ?_
    refine ev_aload_nR (mm 2 rfl) l0 ?_
    refine ev_bipush (mm 3 rfl) cB_20 ?_
    obtain ⟨M1, e2, h⟩ := bind_so h
    refine ev_newarray 0 (mm 4 rfl) (by decide) rfl e2 ?_
    obtain ⟨M3, e4, h⟩ := bind_so h
    refine ev_put_R (mm 5 rfl) (fun _ => ⟨rfl, rfl⟩) rfl e4 ?_
    refine ev_aload_nR (mm 6 rfl) l0 ?_
    refine ev_bipush (mm 7 rfl) cB_20 ?_
    obtain ⟨M5, e6, h⟩ := bind_so h
    refine ev_newarray 0 (mm 8 rfl) (by decide) rfl e6 ?_
    obtain ⟨M7, e8, h⟩ := bind_so h
    refine ev_put_R (mm 9 rfl) (fun _ => ⟨rfl, rfl⟩) rfl e8 ?_
    refine ev_aload_nR (mm 10 rfl) l0 ?_
    refine ev_bipush (mm 11 rfl) cB_20 ?_
    obtain ⟨M9, e10, h⟩ := bind_so h
    refine ev_newarray 0 (mm 12 rfl) (by decide) rfl e10 ?_
    obtain ⟨M11, e12, h⟩ := bind_so h
    refine ev_put_R (mm 13 rfl) (fun _ => ⟨rfl, rfl⟩) rfl e12 ?_
    refine ev_aload_nR (mm 14 rfl) l0 ?_
    refine ev_bipush (mm 15 rfl) cB_20 ?_
    obtain ⟨M13, e14, h⟩ := bind_so h
    refine ev_newarray 0 (mm 16 rfl) (by decide) rfl e14 ?_
    obtain ⟨M15, e16, h⟩ := bind_so h
    refine ev_put_R (mm 17 rfl) (fun _ => ⟨rfl, rfl⟩) rfl e16 ?_
    refine ev_aload_nR (mm 18 rfl) l0 ?_
    refine ev_bipush (mm 19 rfl) cB_20 ?_
    obtain ⟨M17, e18, h⟩ := bind_so h
    refine ev_newarray 0 (mm 20 rfl) (by decide) rfl e18 ?_
    obtain ⟨M19, e20, h⟩ := bind_so h
    refine ev_put_R (mm 21 rfl) (fun _ => ⟨rfl, rfl⟩) rfl e20 ?_
    refine ev_aload_nR (mm 22 rfl) l0 ?_
    refine ev_bipush (mm 23 rfl) cB_20 ?_
    obtain ⟨M21, e22, h⟩ := bind_so h
    refine ev_newarray 0 (mm 24 rfl) (by decide) rfl e22 ?_
    obtain ⟨M23, e24, h⟩ := bind_so h
    refine ev_put_R (mm 25 rfl) (fun _ => ⟨rfl, rfl⟩) rfl e24 ?_
    refine ev_aload_nR (mm 26 rfl) l0 ?_
    refine ev_bipush (mm 27 rfl) cB_20 ?_
    obtain ⟨M25, e26, h⟩ := bind_so h
    refine ev_newarray 0 (mm 28 rfl) (by decide) rfl e26 ?_
    obtain ⟨M27, e28, h⟩ := bind_so h
    refine ev_put_R (mm 29 rfl) (fun _ => ⟨rfl, rfl⟩) rfl e28 ?_
    refine ev_aload_nR (mm 30 rfl) l0 ?_
    refine ev_bipush (mm 31 rfl) cB_20 ?_
    obtain ⟨M29, e30, h⟩ := bind_so h
    refine ev_newarray 2 (mm 32 rfl) (by decide) rfl e30 ?_
    obtain ⟨M31, e32, h⟩ := bind_so h
    refine ev_put_R (mm 33 rfl) (fun _ => ⟨rfl, rfl⟩) rfl e32 ?_
    exact ev_return (mm 34 rfl) h
  exact ⟨by decide, Nat.le_of_ble_eq_true rfl, key.1, key.2⟩
/-- PupilCoin$Moves.begin(III)I -/
def f21 (x0 : Nat) (x1 : Int32) (x2 : Int32) (x3 : Int32) (M : vm_M) : Option (Int32 × vm_M) :=
  (sg_i M x0 4 8).bind fun v1 =>
  if v1 < 20 then
    (sg_r M x0 4 0).bind fun v4 =>
    (sg_i M x0 4 8).bind fun v6 =>
    (v4).bind fun q8 =>
    (ss_i M q8 0 v6 x1).bind fun M10 =>
    (sg_r M10 x0 4 4).bind fun v12 =>
    (sg_i M10 x0 4 8).bind fun v14 =>
    (v12).bind fun q16 =>
    (ss_i M10 q16 0 v14 x2).bind fun M18 =>
    (sg_r M18 x0 4 5).bind fun v20 =>
    (sg_i M18 x0 4 8).bind fun v22 =>
    (v20).bind fun q24 =>
    (ss_i M18 q24 0 v22 x3).bind fun M26 =>
    (sg_i M26 x0 4 8).bind fun v28 =>
    (sp_i M26 x0 4 8 (v28 + 1)).bind fun M30 =>
    some (v28, M30)
  else
    some ((-1), M)
theorem f21_ok {x0 : Nat} {x1 : Int32} {x2 : Int32} {x3 : Int32} {M : vm_M} {r : Int32 × vm_M} (h : f21 x0 x1 x2 x3 M = some r) (d : Nat) : vm_Cl (d + 1) 21 [.ref (x0), .int (x1), .int (x2), .int (x3)] M (rI r) := by
  have key : Ev 0 (fun _ => 0) (vm_Cl (d + 0)) vp_21 4 4 false (some (.int)) (rI r) 0 (lv_args 0 [.ref (x0), .int (x1), .int (x2), .int (x3)]) [] M := by
    have l0 : (0, .ref (x0)) ∈ lv_args 0 [.ref (x0), .int (x1), .int (x2), .int (x3)] := List.Mem.head _
    have l1 : (1, .int (x1)) ∈ lv_args 0 [.ref (x0), .int (x1), .int (x2), .int (x3)] := List.Mem.tail _ (List.Mem.head _)
    have l2 : (2, .int (x2)) ∈ lv_args 0 [.ref (x0), .int (x1), .int (x2), .int (x3)] := List.Mem.tail _ (List.Mem.tail _ (List.Mem.head _))
    have l3 : (3, .int (x3)) ∈ lv_args 0 [.ref (x0), .int (x1), .int (x2), .int (x3)] := List.Mem.tail _ (List.Mem.tail _ (List.Mem.tail _ (List.Mem.head _)))
    unfold f21 at h
    refine ev_aload_nR (mm 0 rfl) l0 ?_
    obtain ⟨v1, e2, h⟩ := bind_so h
    refine ev_get_i (mm 1 rfl) rfl e2 ?_
    refine ev_bipush (mm 2 rfl) cB_20 ?_
    rcases ite_so h with ⟨c3, h⟩ | ⟨c3, h⟩
    · refine ev_ic_t 11 (mm 3 rfl) rfl c3 ?_
      refine ev_aload_nR (mm 6 rfl) l0 ?_
      obtain ⟨v4, e5, h⟩ := bind_so h
      refine ev_get_r (mm 7 rfl) rfl e5 ?_
      refine ev_aload_nR (mm 8 rfl) l0 ?_
      obtain ⟨v6, e7, h⟩ := bind_so h
      refine ev_get_i (mm 9 rfl) rfl e7 ?_
      refine ev_iload_n (mm 10 rfl) l1 ?_
      obtain ⟨q8, e9, h⟩ := bind_so h
      rw [e9]
      obtain ⟨M10, e11, h⟩ := bind_so h
      refine ev_iastore (mm 11 rfl) e11 ?_
      refine ev_aload_nR (mm 12 rfl) l0 ?_
      obtain ⟨v12, e13, h⟩ := bind_so h
      refine ev_get_r (mm 13 rfl) rfl e13 ?_
      refine ev_aload_nR (mm 14 rfl) l0 ?_
      obtain ⟨v14, e15, h⟩ := bind_so h
      refine ev_get_i (mm 15 rfl) rfl e15 ?_
      refine ev_iload_n (mm 16 rfl) l2 ?_
      obtain ⟨q16, e17, h⟩ := bind_so h
      rw [e17]
      obtain ⟨M18, e19, h⟩ := bind_so h
      refine ev_iastore (mm 17 rfl) e19 ?_
      refine ev_aload_nR (mm 18 rfl) l0 ?_
      obtain ⟨v20, e21, h⟩ := bind_so h
      refine ev_get_r (mm 19 rfl) rfl e21 ?_
      refine ev_aload_nR (mm 20 rfl) l0 ?_
      obtain ⟨v22, e23, h⟩ := bind_so h
      refine ev_get_i (mm 21 rfl) rfl e23 ?_
      refine ev_iload_n (mm 22 rfl) l3 ?_
      obtain ⟨q24, e25, h⟩ := bind_so h
      rw [e25]
      obtain ⟨M26, e27, h⟩ := bind_so h
      refine ev_iastore (mm 23 rfl) e27 ?_
      refine ev_aload_nR (mm 24 rfl) l0 ?_
      refine ev_dupR (mm 25 rfl) ?_
      obtain ⟨v28, e29, h⟩ := bind_so h
      refine ev_get_i (mm 26 rfl) rfl e29 ?_
      refine ev_dup_x1 (mm 27 rfl) rfl rfl ?_
      refine ev_iconst (mm 28 rfl) cI_1 ?_
      refine ev_iadd (mm 29 rfl) ?_
      obtain ⟨M30, e31, h⟩ := bind_so h
      refine ev_put_i (mm 30 rfl) (fun z => by cases z) rfl e31 ?_
      exact ev_ireturn (mm 31 rfl) h
    · refine ev_ic_f 11 (mm 3 rfl) rfl c3 ?_
      refine ev_iconst (mm 4 rfl) cI_m1 ?_
      exact ev_ireturn (mm 5 rfl) h
  exact ⟨by decide, Nat.le_of_ble_eq_true rfl, key.1, key.2⟩
/-- PupilCoin$Moves.objects(II)Z -/
def f22 (x0 : Nat) (x1 : Int32) (x2 : Int32) (M : vm_M) : Option (Int32 × vm_M) :=
  (sg_r M x0 4 6).bind fun v1 =>
  (v1).bind fun q3 =>
  (sa_i M q3 0 x1).bind fun v5 =>
  if (v5 &&& (1 <<< (x2 &&& 31))) = 0 then
    s_rb 0 M
  else
    s_rb 1 M
theorem f22_ok {x0 : Nat} {x1 : Int32} {x2 : Int32} {M : vm_M} {r : Int32 × vm_M} (h : f22 x0 x1 x2 M = some r) (d : Nat) : vm_Cl (d + 1) 22 [.ref (x0), .int (x1), .int (x2)] M (rI r) := by
  have key : Ev 0 (fun _ => 0) (vm_Cl (d + 0)) vp_22 4 3 false (some (.boolean)) (rI r) 0 (lv_args 0 [.ref (x0), .int (x1), .int (x2)]) [] M := by
    have l0 : (0, .ref (x0)) ∈ lv_args 0 [.ref (x0), .int (x1), .int (x2)] := List.Mem.head _
    have l1 : (1, .int (x1)) ∈ lv_args 0 [.ref (x0), .int (x1), .int (x2)] := List.Mem.tail _ (List.Mem.head _)
    have l2 : (2, .int (x2)) ∈ lv_args 0 [.ref (x0), .int (x1), .int (x2)] := List.Mem.tail _ (List.Mem.tail _ (List.Mem.head _))
    unfold f22 at h
    refine ev_aload_nR (mm 0 rfl) l0 ?_
    obtain ⟨v1, e2, h⟩ := bind_so h
    refine ev_get_r (mm 1 rfl) rfl e2 ?_
    refine ev_iload_n (mm 2 rfl) l1 ?_
    obtain ⟨q3, e4, h⟩ := bind_so h
    rw [e4]
    obtain ⟨v5, e6, h⟩ := bind_so h
    refine ev_iaload (mm 3 rfl) e6 ?_
    refine ev_iconst (mm 4 rfl) cI_1 ?_
    refine ev_iload_n (mm 5 rfl) l2 ?_
    refine ev_ishl (mm 6 rfl) ?_
    refine ev_iand (mm 7 rfl) ?_
    rcases ite_so h with ⟨c7, h⟩ | ⟨c7, h⟩
    · refine ev_if_t 17 (mm 8 rfl) rfl c7 ?_
      refine ev_iconst (mm 11 rfl) cI_0 ?_
      exact ev_zreturn (mm 12 rfl) h
    · refine ev_if_f 17 (mm 8 rfl) rfl c7 ?_
      refine ev_iconst (mm 9 rfl) cI_1 ?_
      refine ev_goto 18 (mm 10 rfl) rfl ?_
      exact ev_zreturn (mm 12 rfl) h
  exact ⟨by decide, Nat.le_of_ble_eq_true rfl, key.1, key.2⟩
def f23_l5 (x0 : Nat) (x1 : Int32) (x2 : Int32) : Nat → Int64 → Int32 → vm_M → Option (Int64 × vm_M)
  | 0 => fun _ _ _ => none
  | n + 1 => fun x3 x5 M =>
    (sg_i M x0 4 8).bind fun v5 =>
    if v5 ≤ x5 then
      some (x3, M)
    else
      (sg_r M x0 4 7).bind fun v8 =>
      (v8).bind fun q10 =>
      (sa_i M q10 2 x5).bind fun v12 =>
      if v12 = 0 then
        f23_l5 x0 x1 x2 n x3 (x5 + 1) M
      else
        (sg_r M x0 4 0).bind fun v17 =>
        (v17).bind fun q19 =>
        (sa_i M q19 0 x5).bind fun v21 =>
        if ¬ v21 = x1 then
          f23_l5 x0 x1 x2 n x3 (x5 + 1) M
        else
          (sg_r M x0 4 4).bind fun v26 =>
          (v26).bind fun q28 =>
          (sa_i M q28 0 x5).bind fun v30 =>
          if ¬ v30 = x2 then
            f23_l5 x0 x1 x2 n x3 (x5 + 1) M
          else
            (sg_r M x0 4 3).bind fun v35 =>
            (v35).bind fun q37 =>
            (sa_i M q37 0 x5).bind fun v39 =>
            f23_l5 x0 x1 x2 n (x3 + (v39 : Int32).toInt64) (x5 + 1) M
theorem f23_l5_ok {d : Nat} {x0 : Nat} {x1 : Int32} {x2 : Int32} {r : Int64 × vm_M} : ∀ (n : Nat) {x3 : Int64} {x5 : Int32} {M : vm_M} {lv : vm_L}, (0, .ref (x0)) ∈ lv → (1, .int (x1)) ∈ lv → (2, .int (x2)) ∈ lv → (3, .long (x3)) ∈ lv → (5, .int (x5)) ∈ lv → f23_l5 x0 x1 x2 n x3 x5 M = some r → Ev 0 (fun _ => 0) (vm_Cl (d + 0)) vp_23 4 6 false (some (.long)) (rJ r) 5 lv [] M := by
  intro n
  induction n with
  | zero =>
    intro x3 x5 M lv l0 l1 l2 l3 l5 h
    cases h
  | succ n ih =>
    intro x3 x5 M lv l0 l1 l2 l3 l5 h
    dsimp only [f23_l5] at h
    refine ev_iload (mm 4 rfl) l5 ?_
    refine ev_aload_nR (mm 5 rfl) l0 ?_
    obtain ⟨v5, e6, h⟩ := bind_so h
    refine ev_get_i (mm 6 rfl) rfl e6 ?_
    rcases ite_so h with ⟨c7, h⟩ | ⟨c7, h⟩
    · refine ev_ic_t 63 (mm 7 rfl) rfl c7 ?_
      refine ev_lload_n (mm 35 rfl) l3 ?_
      exact ev_lreturn (mm 36 rfl) h
    · refine ev_ic_f 63 (mm 7 rfl) rfl c7 ?_
      refine ev_aload_nR (mm 8 rfl) l0 ?_
      obtain ⟨v8, e9, h⟩ := bind_so h
      refine ev_get_r (mm 9 rfl) rfl e9 ?_
      refine ev_iload (mm 10 rfl) l5 ?_
      obtain ⟨q10, e11, h⟩ := bind_so h
      rw [e11]
      obtain ⟨v12, e13, h⟩ := bind_so h
      refine ev_zaload (mm 11 rfl) e13 ?_
      rcases ite_so h with ⟨c14, h⟩ | ⟨c14, h⟩
      · refine ev_if_t 57 (mm 12 rfl) rfl c14 ?_
        refine evs_iinc (mm 33 rfl) cI_1 l5 (by decide) (fun lv15 l5 s16 => ?_)
        have l0 := s16 _ _ l0 rfl
        have l1 := s16 _ _ l1 rfl
        have l2 := s16 _ _ l2 rfl
        have l3 := s16 _ _ l3 rfl
        refine ev_goto 5 (mm 34 rfl) rfl ?_
        exact ih l0 l1 l2 l3 l5 h
      · refine ev_if_f 57 (mm 12 rfl) rfl c14 ?_
        refine ev_aload_nR (mm 13 rfl) l0 ?_
        obtain ⟨v17, e18, h⟩ := bind_so h
        refine ev_get_r (mm 14 rfl) rfl e18 ?_
        refine ev_iload (mm 15 rfl) l5 ?_
        obtain ⟨q19, e20, h⟩ := bind_so h
        rw [e20]
        obtain ⟨v21, e22, h⟩ := bind_so h
        refine ev_iaload (mm 16 rfl) e22 ?_
        refine ev_iload_n (mm 17 rfl) l1 ?_
        rcases ite_so h with ⟨c23, h⟩ | ⟨c23, h⟩
        · refine ev_ic_t 57 (mm 18 rfl) rfl c23 ?_
          refine evs_iinc (mm 33 rfl) cI_1 l5 (by decide) (fun lv24 l5 s25 => ?_)
          have l0 := s25 _ _ l0 rfl
          have l1 := s25 _ _ l1 rfl
          have l2 := s25 _ _ l2 rfl
          have l3 := s25 _ _ l3 rfl
          refine ev_goto 5 (mm 34 rfl) rfl ?_
          exact ih l0 l1 l2 l3 l5 h
        · refine ev_ic_f 57 (mm 18 rfl) rfl c23 ?_
          refine ev_aload_nR (mm 19 rfl) l0 ?_
          obtain ⟨v26, e27, h⟩ := bind_so h
          refine ev_get_r (mm 20 rfl) rfl e27 ?_
          refine ev_iload (mm 21 rfl) l5 ?_
          obtain ⟨q28, e29, h⟩ := bind_so h
          rw [e29]
          obtain ⟨v30, e31, h⟩ := bind_so h
          refine ev_iaload (mm 22 rfl) e31 ?_
          refine ev_iload_n (mm 23 rfl) l2 ?_
          rcases ite_so h with ⟨c32, h⟩ | ⟨c32, h⟩
          · refine ev_ic_t 57 (mm 24 rfl) rfl c32 ?_
            refine evs_iinc (mm 33 rfl) cI_1 l5 (by decide) (fun lv33 l5 s34 => ?_)
            have l0 := s34 _ _ l0 rfl
            have l1 := s34 _ _ l1 rfl
            have l2 := s34 _ _ l2 rfl
            have l3 := s34 _ _ l3 rfl
            refine ev_goto 5 (mm 34 rfl) rfl ?_
            exact ih l0 l1 l2 l3 l5 h
          · refine ev_ic_f 57 (mm 24 rfl) rfl c32 ?_
            refine ev_lload_n (mm 25 rfl) l3 ?_
            refine ev_aload_nR (mm 26 rfl) l0 ?_
            obtain ⟨v35, e36, h⟩ := bind_so h
            refine ev_get_r (mm 27 rfl) rfl e36 ?_
            refine ev_iload (mm 28 rfl) l5 ?_
            obtain ⟨q37, e38, h⟩ := bind_so h
            rw [e38]
            obtain ⟨v39, e40, h⟩ := bind_so h
            refine ev_iaload (mm 29 rfl) e40 ?_
            refine ev_i2l (mm 30 rfl) ?_
            refine ev_ladd (mm 31 rfl) ?_
            refine evs_lstore_n (mm 32 rfl) (by decide) (fun lv41 l3 s42 => ?_)
            have l0 := s42 _ _ l0 rfl
            have l1 := s42 _ _ l1 rfl
            have l2 := s42 _ _ l2 rfl
            have l5 := s42 _ _ l5 rfl
            refine evs_iinc (mm 33 rfl) cI_1 l5 (by decide) (fun lv43 l5 s44 => ?_)
            have l0 := s44 _ _ l0 rfl
            have l1 := s44 _ _ l1 rfl
            have l2 := s44 _ _ l2 rfl
            have l3 := s44 _ _ l3 rfl
            refine ev_goto 5 (mm 34 rfl) rfl ?_
            exact ih l0 l1 l2 l3 l5 h
/-- PupilCoin$Moves.adoptedCoins(II)J -/
def f23 (x0 : Nat) (x1 : Int32) (x2 : Int32) (M : vm_M) : Option (Int64 × vm_M) :=
  f23_l5 x0 x1 x2
  
    100000 0 0 M
theorem f23_ok {x0 : Nat} {x1 : Int32} {x2 : Int32} {M : vm_M} {r : Int64 × vm_M} (h : f23 x0 x1 x2 M = some r) (d : Nat) : vm_Cl (d + 1) 23 [.ref (x0), .int (x1), .int (x2)] M (rJ r) := by
  have key : Ev 0 (fun _ => 0) (vm_Cl (d + 0)) vp_23 4 6 false (some (.long)) (rJ r) 0 (lv_args 0 [.ref (x0), .int (x1), .int (x2)]) [] M := by
    have l0 : (0, .ref (x0)) ∈ lv_args 0 [.ref (x0), .int (x1), .int (x2)] := List.Mem.head _
    have l1 : (1, .int (x1)) ∈ lv_args 0 [.ref (x0), .int (x1), .int (x2)] := List.Mem.tail _ (List.Mem.head _)
    have l2 : (2, .int (x2)) ∈ lv_args 0 [.ref (x0), .int (x1), .int (x2)] := List.Mem.tail _ (List.Mem.tail _ (List.Mem.head _))
    unfold f23 at h
    refine ev_lconst (mm 0 rfl) cL_0 ?_
    refine evs_lstore_n (mm 1 rfl) (by decide) (fun lv1 l3 s2 => ?_)
    have l0 := s2 _ _ l0 rfl
    have l1 := s2 _ _ l1 rfl
    have l2 := s2 _ _ l2 rfl
    refine ev_iconst (mm 2 rfl) cI_0 ?_
    refine evs_istore (mm 3 rfl) (by decide) (fun lv3 l5 s4 => ?_)
    have l0 := s4 _ _ l0 rfl
    have l1 := s4 _ _ l1 rfl
    have l2 := s4 _ _ l2 rfl
    have l3 := s4 _ _ l3 rfl
    refine f23_l5_ok 100000 l0 l1 l2 l3 l5 h
  exact ⟨by decide, Nat.le_of_ble_eq_true rfl, key.1, key.2⟩
def f24_j60 (k5 : Int64 → Int32 → vm_M → Option (Int64 × vm_M)) (x0 : Nat) (x1 : Int32) (x2 : Int32) (x3 : Int64) (x5 : Int32) (M : vm_M) : Option (Int64 × vm_M) :=
  (sg_r M x0 4 1).bind fun v31 =>
  (v31).bind fun q33 =>
  (sa_i M q33 0 x5).bind fun v35 =>
  if ¬ v35 = x1 then
    k5 x3 (x5 + 1) M
  else
    (sg_r M x0 4 3).bind fun v40 =>
    (v40).bind fun q42 =>
    (sa_i M q42 0 x5).bind fun v44 =>
    k5 (x3 - (v44 : Int32).toInt64) (x5 + 1) M
theorem f24_j60_ok {d : Nat} {x0 : Nat} {x1 : Int32} {x2 : Int32} {x3 : Int64} {x5 : Int32} {M : vm_M} {k5 : Int64 → Int32 → vm_M → Option (Int64 × vm_M)} {r : Int64 × vm_M} (hk5 : ∀ {y3 : Int64} {y5 : Int32} {M : vm_M} {lv : vm_L}, (0, .ref (x0)) ∈ lv → (1, .int (x1)) ∈ lv → (2, .int (x2)) ∈ lv → (3, .long (y3)) ∈ lv → (5, .int (y5)) ∈ lv → k5 y3 y5 M = some r → Ev 0 (fun _ => 0) (vm_Cl (d + 0)) vp_24 4 6 false (some (.long)) (rJ r) 5 lv [] M) {lv : vm_L} (l0 : (0, .ref (x0)) ∈ lv) (l1 : (1, .int (x1)) ∈ lv) (l2 : (2, .int (x2)) ∈ lv) (l3 : (3, .long (x3)) ∈ lv) (l5 : (5, .int (x5)) ∈ lv) (h : f24_j60 k5 x0 x1 x2 x3 x5 M = some r) : Ev 0 (fun _ => 0) (vm_Cl (d + 0)) vp_24 4 6 false (some (.long)) (rJ r) 60 lv [] M := by
  unfold f24_j60 at h
  refine ev_aload_nR (mm 34 rfl) l0 ?_
  obtain ⟨v31, e32, h⟩ := bind_so h
  refine ev_get_r (mm 35 rfl) rfl e32 ?_
  refine ev_iload (mm 36 rfl) l5 ?_
  obtain ⟨q33, e34, h⟩ := bind_so h
  rw [e34]
  obtain ⟨v35, e36, h⟩ := bind_so h
  refine ev_iaload (mm 37 rfl) e36 ?_
  refine ev_iload_n (mm 38 rfl) l1 ?_
  rcases ite_so h with ⟨c37, h⟩ | ⟨c37, h⟩
  · refine ev_ic_t 82 (mm 39 rfl) rfl c37 ?_
    refine evs_iinc (mm 48 rfl) cI_1 l5 (by decide) (fun lv38 l5 s39 => ?_)
    have l0 := s39 _ _ l0 rfl
    have l1 := s39 _ _ l1 rfl
    have l2 := s39 _ _ l2 rfl
    have l3 := s39 _ _ l3 rfl
    refine ev_goto 5 (mm 49 rfl) rfl ?_
    exact hk5 l0 l1 l2 l3 l5 h
  · refine ev_ic_f 82 (mm 39 rfl) rfl c37 ?_
    refine ev_lload_n (mm 40 rfl) l3 ?_
    refine ev_aload_nR (mm 41 rfl) l0 ?_
    obtain ⟨v40, e41, h⟩ := bind_so h
    refine ev_get_r (mm 42 rfl) rfl e41 ?_
    refine ev_iload (mm 43 rfl) l5 ?_
    obtain ⟨q42, e43, h⟩ := bind_so h
    rw [e43]
    obtain ⟨v44, e45, h⟩ := bind_so h
    refine ev_iaload (mm 44 rfl) e45 ?_
    refine ev_i2l (mm 45 rfl) ?_
    refine ev_lsub (mm 46 rfl) ?_
    refine evs_lstore_n (mm 47 rfl) (by decide) (fun lv46 l3 s47 => ?_)
    have l0 := s47 _ _ l0 rfl
    have l1 := s47 _ _ l1 rfl
    have l2 := s47 _ _ l2 rfl
    have l5 := s47 _ _ l5 rfl
    refine evs_iinc (mm 48 rfl) cI_1 l5 (by decide) (fun lv48 l5 s49 => ?_)
    have l0 := s49 _ _ l0 rfl
    have l1 := s49 _ _ l1 rfl
    have l2 := s49 _ _ l2 rfl
    have l3 := s49 _ _ l3 rfl
    refine ev_goto 5 (mm 49 rfl) rfl ?_
    exact hk5 l0 l1 l2 l3 l5 h
def f24_l5 (x0 : Nat) (x1 : Int32) (x2 : Int32) : Nat → Int64 → Int32 → vm_M → Option (Int64 × vm_M)
  | 0 => fun _ _ _ => none
  | n + 1 => fun x3 x5 M =>
    (sg_i M x0 4 8).bind fun v5 =>
    if v5 ≤ x5 then
      some (x3, M)
    else
      (sg_r M x0 4 7).bind fun v8 =>
      (v8).bind fun q10 =>
      (sa_i M q10 2 x5).bind fun v12 =>
      if v12 = 0 then
        f24_l5 x0 x1 x2 n x3 (x5 + 1) M
      else
        (sg_r M x0 4 4).bind fun v17 =>
        (v17).bind fun q19 =>
        (sa_i M q19 0 x5).bind fun v21 =>
        if v21 = x2 then
          (sg_r M x0 4 2).bind fun v24 =>
          (v24).bind fun q26 =>
          (sa_i M q26 0 x5).bind fun v28 =>
          if ¬ v28 = x1 then
            f24_j60 (f24_l5 x0 x1 x2 n) x0 x1 x2 x3 x5 M
          else
            (sg_r M x0 4 3).bind fun v50 =>
            (v50).bind fun q52 =>
            (sa_i M q52 0 x5).bind fun v54 =>
            f24_j60 (f24_l5 x0 x1 x2 n) x0 x1 x2 (x3 + (v54 : Int32).toInt64) x5 M
        else
          f24_l5 x0 x1 x2 n x3 (x5 + 1) M
theorem f24_l5_ok {d : Nat} {x0 : Nat} {x1 : Int32} {x2 : Int32} {r : Int64 × vm_M} : ∀ (n : Nat) {x3 : Int64} {x5 : Int32} {M : vm_M} {lv : vm_L}, (0, .ref (x0)) ∈ lv → (1, .int (x1)) ∈ lv → (2, .int (x2)) ∈ lv → (3, .long (x3)) ∈ lv → (5, .int (x5)) ∈ lv → f24_l5 x0 x1 x2 n x3 x5 M = some r → Ev 0 (fun _ => 0) (vm_Cl (d + 0)) vp_24 4 6 false (some (.long)) (rJ r) 5 lv [] M := by
  intro n
  induction n with
  | zero =>
    intro x3 x5 M lv l0 l1 l2 l3 l5 h
    cases h
  | succ n ih =>
    intro x3 x5 M lv l0 l1 l2 l3 l5 h
    dsimp only [f24_l5] at h
    refine ev_iload (mm 4 rfl) l5 ?_
    refine ev_aload_nR (mm 5 rfl) l0 ?_
    obtain ⟨v5, e6, h⟩ := bind_so h
    refine ev_get_i (mm 6 rfl) rfl e6 ?_
    rcases ite_so h with ⟨c7, h⟩ | ⟨c7, h⟩
    · refine ev_ic_t 88 (mm 7 rfl) rfl c7 ?_
      refine ev_lload_n (mm 50 rfl) l3 ?_
      exact ev_lreturn (mm 51 rfl) h
    · refine ev_ic_f 88 (mm 7 rfl) rfl c7 ?_
      refine ev_aload_nR (mm 8 rfl) l0 ?_
      obtain ⟨v8, e9, h⟩ := bind_so h
      refine ev_get_r (mm 9 rfl) rfl e9 ?_
      refine ev_iload (mm 10 rfl) l5 ?_
      obtain ⟨q10, e11, h⟩ := bind_so h
      rw [e11]
      obtain ⟨v12, e13, h⟩ := bind_so h
      refine ev_zaload (mm 11 rfl) e13 ?_
      rcases ite_so h with ⟨c14, h⟩ | ⟨c14, h⟩
      · refine ev_if_t 82 (mm 12 rfl) rfl c14 ?_
        refine evs_iinc (mm 48 rfl) cI_1 l5 (by decide) (fun lv15 l5 s16 => ?_)
        have l0 := s16 _ _ l0 rfl
        have l1 := s16 _ _ l1 rfl
        have l2 := s16 _ _ l2 rfl
        have l3 := s16 _ _ l3 rfl
        refine ev_goto 5 (mm 49 rfl) rfl ?_
        exact ih l0 l1 l2 l3 l5 h
      · refine ev_if_f 82 (mm 12 rfl) rfl c14 ?_
        refine ev_aload_nR (mm 13 rfl) l0 ?_
        obtain ⟨v17, e18, h⟩ := bind_so h
        refine ev_get_r (mm 14 rfl) rfl e18 ?_
        refine ev_iload (mm 15 rfl) l5 ?_
        obtain ⟨q19, e20, h⟩ := bind_so h
        rw [e20]
        obtain ⟨v21, e22, h⟩ := bind_so h
        refine ev_iaload (mm 16 rfl) e22 ?_
        refine ev_iload_n (mm 17 rfl) l2 ?_
        rcases ite_so h with ⟨c23, h⟩ | ⟨c23, h⟩
        · refine ev_ic_t 38 (mm 18 rfl) rfl c23 ?_
          refine ev_aload_nR (mm 20 rfl) l0 ?_
          obtain ⟨v24, e25, h⟩ := bind_so h
          refine ev_get_r (mm 21 rfl) rfl e25 ?_
          refine ev_iload (mm 22 rfl) l5 ?_
          obtain ⟨q26, e27, h⟩ := bind_so h
          rw [e27]
          obtain ⟨v28, e29, h⟩ := bind_so h
          refine ev_iaload (mm 23 rfl) e29 ?_
          refine ev_iload_n (mm 24 rfl) l1 ?_
          rcases ite_so h with ⟨c30, h⟩ | ⟨c30, h⟩
          · refine ev_ic_t 60 (mm 25 rfl) rfl c30 ?_
            exact f24_j60_ok ih l0 l1 l2 l3 l5 h
          · refine ev_ic_f 60 (mm 25 rfl) rfl c30 ?_
            refine ev_lload_n (mm 26 rfl) l3 ?_
            refine ev_aload_nR (mm 27 rfl) l0 ?_
            obtain ⟨v50, e51, h⟩ := bind_so h
            refine ev_get_r (mm 28 rfl) rfl e51 ?_
            refine ev_iload (mm 29 rfl) l5 ?_
            obtain ⟨q52, e53, h⟩ := bind_so h
            rw [e53]
            obtain ⟨v54, e55, h⟩ := bind_so h
            refine ev_iaload (mm 30 rfl) e55 ?_
            refine ev_i2l (mm 31 rfl) ?_
            refine ev_ladd (mm 32 rfl) ?_
            refine evs_lstore_n (mm 33 rfl) (by decide) (fun lv56 l3 s57 => ?_)
            have l0 := s57 _ _ l0 rfl
            have l1 := s57 _ _ l1 rfl
            have l2 := s57 _ _ l2 rfl
            have l5 := s57 _ _ l5 rfl
            exact f24_j60_ok ih l0 l1 l2 l3 l5 h
        · refine ev_ic_f 38 (mm 18 rfl) rfl c23 ?_
          refine ev_goto 82 (mm 19 rfl) rfl ?_
          refine evs_iinc (mm 48 rfl) cI_1 l5 (by decide) (fun lv58 l5 s59 => ?_)
          have l0 := s59 _ _ l0 rfl
          have l1 := s59 _ _ l1 rfl
          have l2 := s59 _ _ l2 rfl
          have l3 := s59 _ _ l3 rfl
          refine ev_goto 5 (mm 49 rfl) rfl ?_
          exact ih l0 l1 l2 l3 l5 h
/-- PupilCoin$Moves.moved(II)J -/
def f24 (x0 : Nat) (x1 : Int32) (x2 : Int32) (M : vm_M) : Option (Int64 × vm_M) :=
  f24_l5 x0 x1 x2
  
    100000 0 0 M
theorem f24_ok {x0 : Nat} {x1 : Int32} {x2 : Int32} {M : vm_M} {r : Int64 × vm_M} (h : f24 x0 x1 x2 M = some r) (d : Nat) : vm_Cl (d + 1) 24 [.ref (x0), .int (x1), .int (x2)] M (rJ r) := by
  have key : Ev 0 (fun _ => 0) (vm_Cl (d + 0)) vp_24 4 6 false (some (.long)) (rJ r) 0 (lv_args 0 [.ref (x0), .int (x1), .int (x2)]) [] M := by
    have l0 : (0, .ref (x0)) ∈ lv_args 0 [.ref (x0), .int (x1), .int (x2)] := List.Mem.head _
    have l1 : (1, .int (x1)) ∈ lv_args 0 [.ref (x0), .int (x1), .int (x2)] := List.Mem.tail _ (List.Mem.head _)
    have l2 : (2, .int (x2)) ∈ lv_args 0 [.ref (x0), .int (x1), .int (x2)] := List.Mem.tail _ (List.Mem.tail _ (List.Mem.head _))
    unfold f24 at h
    refine ev_lconst (mm 0 rfl) cL_0 ?_
    refine evs_lstore_n (mm 1 rfl) (by decide) (fun lv1 l3 s2 => ?_)
    have l0 := s2 _ _ l0 rfl
    have l1 := s2 _ _ l1 rfl
    have l2 := s2 _ _ l2 rfl
    refine ev_iconst (mm 2 rfl) cI_0 ?_
    refine evs_istore (mm 3 rfl) (by decide) (fun lv3 l5 s4 => ?_)
    have l0 := s4 _ _ l0 rfl
    have l1 := s4 _ _ l1 rfl
    have l2 := s4 _ _ l2 rfl
    have l3 := s4 _ _ l3 rfl
    refine f24_l5_ok 100000 l0 l1 l2 l3 l5 h
  exact ⟨by decide, Nat.le_of_ble_eq_true rfl, key.1, key.2⟩
/-- PupilCoin$Rates.<init>(LPupilCoin$Land;LPupilCoin$Sums;I)V -/
def f25 (x0 : Nat) (x1 : Nat) (x2 : Nat) (x3 : Int32) (M : vm_M) : Option (vm_M) :=
  (sp_r M x0 5 0 (some x1)).bind fun M1 =>
  (sp_r M1 x0 5 1 (some x2)).bind fun M3 =>
  (sp_i M3 x0 5 2 x3).bind fun M5 =>
  some M5
theorem f25_ok {x0 : Nat} {x1 : Nat} {x2 : Nat} {x3 : Int32} {M : vm_M} {r : vm_M} (h : f25 x0 x1 x2 x3 M = some r) (d : Nat) : vm_Cl (d + 1) 25 [.ref (x0), .ref (x1), .ref (x2), .int (x3)] M (rV r) := by
  have key : Ev 0 (fun _ => 0) (vm_Cl (d + 0)) vp_25 5 4 true none (rV r) 0 (lv_args 0 [.ref (x0), .ref (x1), .ref (x2), .int (x3)]) [] M := by
    have l0 : (0, .ref (x0)) ∈ lv_args 0 [.ref (x0), .ref (x1), .ref (x2), .int (x3)] := List.Mem.head _
    have l1 : (1, .ref (x1)) ∈ lv_args 0 [.ref (x0), .ref (x1), .ref (x2), .int (x3)] := List.Mem.tail _ (List.Mem.head _)
    have l2 : (2, .ref (x2)) ∈ lv_args 0 [.ref (x0), .ref (x1), .ref (x2), .int (x3)] := List.Mem.tail _ (List.Mem.tail _ (List.Mem.head _))
    have l3 : (3, .int (x3)) ∈ lv_args 0 [.ref (x0), .ref (x1), .ref (x2), .int (x3)] := List.Mem.tail _ (List.Mem.tail _ (List.Mem.tail _ (List.Mem.head _)))
    unfold f25 at h
    refine ev_aload_nR (mm 0 rfl) l0 ?_
    refine ev_obj (mm 1 rfl) (Nat.le_of_ble_eq_true rfl) ?_
    refine ev_aload_nR (mm 2 rfl) l0 ?_
    refine ev_aload_nR (mm 3 rfl) l1 ?_
    obtain ⟨M1, e2, h⟩ := bind_so h
    refine ev_put_R (mm 4 rfl) (fun _ => ⟨rfl, rfl⟩) rfl e2 ?_
    refine ev_aload_nR (mm 5 rfl) l0 ?_
    refine ev_aload_nR (mm 6 rfl) l2 ?_
    obtain ⟨M3, e4, h⟩ := bind_so h
    refine ev_put_R (mm 7 rfl) (fun _ => ⟨rfl, rfl⟩) rfl e4 ?_
    refine ev_aload_nR (mm 8 rfl) l0 ?_
    refine ev_iload_n (mm 9 rfl) l3 ?_
    obtain ⟨M5, e6, h⟩ := bind_so h
    refine ev_put_i (mm 10 rfl) (fun _ => ⟨rfl, rfl⟩) rfl e6 ?_
    exact ev_return (mm 11 rfl) h
  exact ⟨by decide, Nat.le_of_ble_eq_true rfl, key.1, key.2⟩
def f27_l9 (x0 : Nat) (x1 : Int32) (x2 : Int32) (x3 : Int32) (x4 : Int32) (x5 : Int64) (k145 : Int64 → Int32 → vm_M → Option (vm_M)) : Nat → Int64 → Int32 → Int32 → vm_M → Option (vm_M)
  | 0 => fun _ _ _ _ => none
  | n + 1 => fun x7 x9 x10 M =>
    (sg_r M x0 5 0).bind fun v7 =>
    (v7).bind fun q9 =>
    (sg_i M q9 0 7).bind fun v11 =>
    if v11 ≤ x10 then
      k145 x7 x9 M
    else
      (sg_r M x0 5 0).bind fun v14 =>
      (sg_i M x0 5 2).bind fun v16 =>
      (v14).bind fun q18 =>
      (s_ob M q18 0).bind fun _ =>
      (f2 q18 x10 v16 M).bind fun p20 =>
      if ¬ p20.1 = 0 then
        (sg_r p20.2 x0 5 1).bind fun v23 =>
        (v23).bind fun q25 =>
        (sg_r p20.2 q25 9 4).bind fun v27 =>
        (v27).bind fun q29 =>
        (sa_l p20.2 q29 ((x10 * 30) + x1)).bind fun v31 =>
        (sg_r p20.2 x0 5 1).bind fun v35 =>
        (v35).bind fun q37 =>
        (sg_r p20.2 q37 9 4).bind fun v39 =>
        (v39).bind fun q41 =>
        (sa_l p20.2 q41 ((x10 * 30) + x2)).bind fun v43 =>
        (sg_r p20.2 x0 5 1).bind fun v47 =>
        (v47).bind fun q49 =>
        (sg_r p20.2 q49 9 5).bind fun v51 =>
        (v51).bind fun q53 =>
        (sa_l p20.2 q53 x10).bind fun v55 =>
        (s_dl (v31 * (x3 : Int32).toInt64) 10).bind fun v57 =>
        (s_dl (v43 * (x4 : Int32).toInt64) 10).bind fun v59 =>
        (sg_r p20.2 x0 5 1).bind fun v65 =>
        (v65).bind fun q67 =>
        (sg_r p20.2 q67 9 10).bind fun v69 =>
        (v69).bind fun q71 =>
        (sa_l p20.2 q71 x10).bind fun v73 =>
        if 0 ≤ (lg_cmp ((((v55 - v31) - v43) + v57) + v59) v73) then
          f27_l9 x0 x1 x2 x3 x4 x5 k145 n (x7 + ((((v55 - v31) - v43) + v57) + v59)) x9 (x10 + 1) p20.2
        else
          f27_l9 x0 x1 x2 x3 x4 x5 k145 n (x7 + ((((v55 - v31) - v43) + v57) + v59)) (x9 + 1) (x10 + 1) p20.2
      else
        f27_l9 x0 x1 x2 x3 x4 x5 k145 n x7 x9 (x10 + 1) p20.2
theorem f27_l9_ok {d : Nat} {x0 : Nat} {x1 : Int32} {x2 : Int32} {x3 : Int32} {x4 : Int32} {x5 : Int64} {k145 : Int64 → Int32 → vm_M → Option (vm_M)} {r : vm_M} (hk145 : ∀ {y7 : Int64} {y9 : Int32} {M : vm_M} {lv : vm_L}, (0, .ref (x0)) ∈ lv → (3, .int (x3)) ∈ lv → (4, .int (x4)) ∈ lv → (5, .long (x5)) ∈ lv → (7, .long (y7)) ∈ lv → (9, .int (y9)) ∈ lv → k145 y7 y9 M = some r → Ev 0 (fun _ => 0) (vm_Cl (d + 1)) vp_27 5 17 false none (rV r) 145 lv [] M) : ∀ (n : Nat) {x7 : Int64} {x9 : Int32} {x10 : Int32} {M : vm_M} {lv : vm_L}, (0, .ref (x0)) ∈ lv → (1, .int (x1)) ∈ lv → (2, .int (x2)) ∈ lv → (3, .int (x3)) ∈ lv → (4, .int (x4)) ∈ lv → (5, .long (x5)) ∈ lv → (7, .long (x7)) ∈ lv → (9, .int (x9)) ∈ lv → (10, .int (x10)) ∈ lv → f27_l9 x0 x1 x2 x3 x4 x5 k145 n x7 x9 x10 M = some r → Ev 0 (fun _ => 0) (vm_Cl (d + 1)) vp_27 5 17 false none (rV r) 9 lv [] M := by
  intro n
  induction n with
  | zero =>
    intro x7 x9 x10 M lv l0 l1 l2 l3 l4 l5 l7 l9 l10 h
    cases h
  | succ n ih =>
    intro x7 x9 x10 M lv l0 l1 l2 l3 l4 l5 l7 l9 l10 h
    dsimp only [f27_l9] at h
    refine ev_iload (mm 6 rfl) l10 ?_
    refine ev_aload_nR (mm 7 rfl) l0 ?_
    obtain ⟨v7, e8, h⟩ := bind_so h
    refine ev_get_r (mm 8 rfl) rfl e8 ?_
    obtain ⟨q9, e10, h⟩ := bind_so h
    rw [e10]
    obtain ⟨v11, e12, h⟩ := bind_so h
    refine ev_get_i (mm 9 rfl) rfl e12 ?_
    rcases ite_so h with ⟨c13, h⟩ | ⟨c13, h⟩
    · refine ev_ic_t 145 (mm 10 rfl) rfl c13 ?_
      exact hk145 l0 l3 l4 l5 l7 l9 h
    · refine ev_ic_f 145 (mm 10 rfl) rfl c13 ?_
      refine ev_aload_nR (mm 11 rfl) l0 ?_
      obtain ⟨v14, e15, h⟩ := bind_so h
      refine ev_get_r (mm 12 rfl) rfl e15 ?_
      refine ev_iload (mm 13 rfl) l10 ?_
      refine ev_aload_nR (mm 14 rfl) l0 ?_
      obtain ⟨v16, e17, h⟩ := bind_so h
      refine ev_get_i (mm 15 rfl) rfl e17 ?_
      obtain ⟨q18, e19, h⟩ := bind_so h
      rw [e19]
      obtain ⟨_, e84, h⟩ := bind_so h
      obtain ⟨p20, e21, h⟩ := bind_so h
      refine ev_callV_I [.int (x10), .int (v16)] (mm 16 rfl) rfl rfl (Nat.le_of_ble_eq_true rfl) (s_ob_of e84) (f2_ok e21 (d + 0)) ?_
      rcases ite_so h with ⟨c22, h⟩ | ⟨c22, h⟩
      · refine ev_if_t 40 (mm 17 rfl) rfl c22 ?_
        refine ev_aload_nR (mm 19 rfl) l0 ?_
        obtain ⟨v23, e24, h⟩ := bind_so h
        refine ev_get_r (mm 20 rfl) rfl e24 ?_
        obtain ⟨q25, e26, h⟩ := bind_so h
        rw [e26]
        obtain ⟨v27, e28, h⟩ := bind_so h
        refine ev_get_r (mm 21 rfl) rfl e28 ?_
        refine ev_iload (mm 22 rfl) l10 ?_
        refine ev_bipush (mm 23 rfl) cB_30 ?_
        refine ev_imul (mm 24 rfl) ?_
        refine ev_iload_n (mm 25 rfl) l1 ?_
        refine ev_iadd (mm 26 rfl) ?_
        obtain ⟨q29, e30, h⟩ := bind_so h
        rw [e30]
        obtain ⟨v31, e32, h⟩ := bind_so h
        refine ev_laload (mm 27 rfl) e32 ?_
        refine evs_lstore (mm 28 rfl) (by decide) (fun lv33 l11 s34 => ?_)
        have l0 := s34 _ _ l0 rfl
        have l1 := s34 _ _ l1 rfl
        have l2 := s34 _ _ l2 rfl
        have l3 := s34 _ _ l3 rfl
        have l4 := s34 _ _ l4 rfl
        have l5 := s34 _ _ l5 rfl
        have l7 := s34 _ _ l7 rfl
        have l9 := s34 _ _ l9 rfl
        have l10 := s34 _ _ l10 rfl
        refine ev_aload_nR (mm 29 rfl) l0 ?_
        obtain ⟨v35, e36, h⟩ := bind_so h
        refine ev_get_r (mm 30 rfl) rfl e36 ?_
        obtain ⟨q37, e38, h⟩ := bind_so h
        rw [e38]
        obtain ⟨v39, e40, h⟩ := bind_so h
        refine ev_get_r (mm 31 rfl) rfl e40 ?_
        refine ev_iload (mm 32 rfl) l10 ?_
        refine ev_bipush (mm 33 rfl) cB_30 ?_
        refine ev_imul (mm 34 rfl) ?_
        refine ev_iload_n (mm 35 rfl) l2 ?_
        refine ev_iadd (mm 36 rfl) ?_
        obtain ⟨q41, e42, h⟩ := bind_so h
        rw [e42]
        obtain ⟨v43, e44, h⟩ := bind_so h
        refine ev_laload (mm 37 rfl) e44 ?_
        refine evs_lstore (mm 38 rfl) (by decide) (fun lv45 l13 s46 => ?_)
        have l0 := s46 _ _ l0 rfl
        have l1 := s46 _ _ l1 rfl
        have l2 := s46 _ _ l2 rfl
        have l3 := s46 _ _ l3 rfl
        have l4 := s46 _ _ l4 rfl
        have l5 := s46 _ _ l5 rfl
        have l7 := s46 _ _ l7 rfl
        have l9 := s46 _ _ l9 rfl
        have l10 := s46 _ _ l10 rfl
        have l11 := s46 _ _ l11 rfl
        refine ev_aload_nR (mm 39 rfl) l0 ?_
        obtain ⟨v47, e48, h⟩ := bind_so h
        refine ev_get_r (mm 40 rfl) rfl e48 ?_
        obtain ⟨q49, e50, h⟩ := bind_so h
        rw [e50]
        obtain ⟨v51, e52, h⟩ := bind_so h
        refine ev_get_r (mm 41 rfl) rfl e52 ?_
        refine ev_iload (mm 42 rfl) l10 ?_
        obtain ⟨q53, e54, h⟩ := bind_so h
        rw [e54]
        obtain ⟨v55, e56, h⟩ := bind_so h
        refine ev_laload (mm 43 rfl) e56 ?_
        refine ev_lload (mm 44 rfl) l11 ?_
        refine ev_lsub (mm 45 rfl) ?_
        refine ev_lload (mm 46 rfl) l13 ?_
        refine ev_lsub (mm 47 rfl) ?_
        refine ev_lload (mm 48 rfl) l11 ?_
        refine ev_iload_n (mm 49 rfl) l3 ?_
        refine ev_i2l (mm 50 rfl) ?_
        refine ev_lmul (mm 51 rfl) ?_
        refine ev_ldc2_w (mm 52 rfl) cJ_10 ?_
        obtain ⟨v57, e58, h⟩ := bind_so h
        refine ev_ldiv (mm 53 rfl) e58 ?_
        refine ev_ladd (mm 54 rfl) ?_
        refine ev_lload (mm 55 rfl) l13 ?_
        refine ev_iload (mm 56 rfl) l4 ?_
        refine ev_i2l (mm 57 rfl) ?_
        refine ev_lmul (mm 58 rfl) ?_
        refine ev_ldc2_w (mm 59 rfl) cJ_10 ?_
        obtain ⟨v59, e60, h⟩ := bind_so h
        refine ev_ldiv (mm 60 rfl) e60 ?_
        refine ev_ladd (mm 61 rfl) ?_
        refine evs_lstore (mm 62 rfl) (by decide) (fun lv61 l15 s62 => ?_)
        have l0 := s62 _ _ l0 rfl
        have l1 := s62 _ _ l1 rfl
        have l2 := s62 _ _ l2 rfl
        have l3 := s62 _ _ l3 rfl
        have l4 := s62 _ _ l4 rfl
        have l5 := s62 _ _ l5 rfl
        have l7 := s62 _ _ l7 rfl
        have l9 := s62 _ _ l9 rfl
        have l10 := s62 _ _ l10 rfl
        refine ev_lload (mm 63 rfl) l7 ?_
        refine ev_lload (mm 64 rfl) l15 ?_
        refine ev_ladd (mm 65 rfl) ?_
        refine evs_lstore (mm 66 rfl) (by decide) (fun lv63 l7 s64 => ?_)
        have l0 := s64 _ _ l0 rfl
        have l1 := s64 _ _ l1 rfl
        have l2 := s64 _ _ l2 rfl
        have l3 := s64 _ _ l3 rfl
        have l4 := s64 _ _ l4 rfl
        have l5 := s64 _ _ l5 rfl
        have l9 := s64 _ _ l9 rfl
        have l10 := s64 _ _ l10 rfl
        have l15 := s64 _ _ l15 rfl
        refine ev_lload (mm 67 rfl) l15 ?_
        refine ev_aload_nR (mm 68 rfl) l0 ?_
        obtain ⟨v65, e66, h⟩ := bind_so h
        refine ev_get_r (mm 69 rfl) rfl e66 ?_
        obtain ⟨q67, e68, h⟩ := bind_so h
        rw [e68]
        obtain ⟨v69, e70, h⟩ := bind_so h
        refine ev_get_r (mm 70 rfl) rfl e70 ?_
        refine ev_iload (mm 71 rfl) l10 ?_
        obtain ⟨q71, e72, h⟩ := bind_so h
        rw [e72]
        obtain ⟨v73, e74, h⟩ := bind_so h
        refine ev_laload (mm 72 rfl) e74 ?_
        refine ev_lcmp (mm 73 rfl) ?_
        rcases ite_so h with ⟨c75, h⟩ | ⟨c75, h⟩
        · refine ev_if_t 139 (mm 74 rfl) rfl c75 ?_
          refine evs_iinc (mm 76 rfl) cI_1 l10 (by decide) (fun lv76 l10 s77 => ?_)
          have l0 := s77 _ _ l0 rfl
          have l1 := s77 _ _ l1 rfl
          have l2 := s77 _ _ l2 rfl
          have l3 := s77 _ _ l3 rfl
          have l4 := s77 _ _ l4 rfl
          have l5 := s77 _ _ l5 rfl
          have l7 := s77 _ _ l7 rfl
          have l9 := s77 _ _ l9 rfl
          refine ev_goto 9 (mm 77 rfl) rfl ?_
          exact ih l0 l1 l2 l3 l4 l5 l7 l9 l10 h
        · refine ev_if_f 139 (mm 74 rfl) rfl c75 ?_
          refine evs_iinc (mm 75 rfl) cI_1 l9 (by decide) (fun lv78 l9 s79 => ?_)
          have l0 := s79 _ _ l0 rfl
          have l1 := s79 _ _ l1 rfl
          have l2 := s79 _ _ l2 rfl
          have l3 := s79 _ _ l3 rfl
          have l4 := s79 _ _ l4 rfl
          have l5 := s79 _ _ l5 rfl
          have l7 := s79 _ _ l7 rfl
          have l10 := s79 _ _ l10 rfl
          refine evs_iinc (mm 76 rfl) cI_1 l10 (by decide) (fun lv80 l10 s81 => ?_)
          have l0 := s81 _ _ l0 rfl
          have l1 := s81 _ _ l1 rfl
          have l2 := s81 _ _ l2 rfl
          have l3 := s81 _ _ l3 rfl
          have l4 := s81 _ _ l4 rfl
          have l5 := s81 _ _ l5 rfl
          have l7 := s81 _ _ l7 rfl
          have l9 := s81 _ _ l9 rfl
          refine ev_goto 9 (mm 77 rfl) rfl ?_
          exact ih l0 l1 l2 l3 l4 l5 l7 l9 l10 h
      · refine ev_if_f 40 (mm 17 rfl) rfl c22 ?_
        refine ev_goto 139 (mm 18 rfl) rfl ?_
        refine evs_iinc (mm 76 rfl) cI_1 l10 (by decide) (fun lv82 l10 s83 => ?_)
        have l0 := s83 _ _ l0 rfl
        have l1 := s83 _ _ l1 rfl
        have l2 := s83 _ _ l2 rfl
        have l3 := s83 _ _ l3 rfl
        have l4 := s83 _ _ l4 rfl
        have l5 := s83 _ _ l5 rfl
        have l7 := s83 _ _ l7 rfl
        have l9 := s83 _ _ l9 rfl
        refine ev_goto 9 (mm 77 rfl) rfl ?_
        exact ih l0 l1 l2 l3 l4 l5 l7 l9 l10 h
def f27_j194 (x0 : Nat) (x3 : Int32) (x4 : Int32) (x7 : Int64) (x9 : Int32) (M : vm_M) : Option (vm_M) :=
  (sp_z M x0 5 3 1).bind fun M92 =>
  (sp_l M92 x0 5 4 ((x9 : Int32).toInt64)).bind fun M94 =>
  (sp_l M94 x0 5 5 x7).bind fun M96 =>
  (sp_i M96 x0 5 6 x3).bind fun M98 =>
  (sp_i M98 x0 5 7 x4).bind fun M100 =>
  some M100
theorem f27_j194_ok {d : Nat} {x0 : Nat} {x3 : Int32} {x4 : Int32} {x7 : Int64} {x9 : Int32} {M : vm_M} {r : vm_M} {lv : vm_L} (l0 : (0, .ref (x0)) ∈ lv) (l3 : (3, .int (x3)) ∈ lv) (l4 : (4, .int (x4)) ∈ lv) (l7 : (7, .long (x7)) ∈ lv) (l9 : (9, .int (x9)) ∈ lv) (h : f27_j194 x0 x3 x4 x7 x9 M = some r) : Ev 0 (fun _ => 0) (vm_Cl (d + 1)) vp_27 5 17 false none (rV r) 194 lv [] M := by
  unfold f27_j194 at h
  refine ev_aload_nR (mm 104 rfl) l0 ?_
  refine ev_iconst (mm 105 rfl) cI_1 ?_
  obtain ⟨M92, e93, h⟩ := bind_so h
  refine ev_put_z (mm 106 rfl) (fun z => by cases z) rfl e93 ?_
  refine ev_aload_nR (mm 107 rfl) l0 ?_
  refine ev_iload (mm 108 rfl) l9 ?_
  refine ev_i2l (mm 109 rfl) ?_
  obtain ⟨M94, e95, h⟩ := bind_so h
  refine ev_put_l (mm 110 rfl) (fun z => by cases z) rfl e95 ?_
  refine ev_aload_nR (mm 111 rfl) l0 ?_
  refine ev_lload (mm 112 rfl) l7 ?_
  obtain ⟨M96, e97, h⟩ := bind_so h
  refine ev_put_l (mm 113 rfl) (fun z => by cases z) rfl e97 ?_
  refine ev_aload_nR (mm 114 rfl) l0 ?_
  refine ev_iload_n (mm 115 rfl) l3 ?_
  obtain ⟨M98, e99, h⟩ := bind_so h
  refine ev_put_i (mm 116 rfl) (fun z => by cases z) rfl e99 ?_
  refine ev_aload_nR (mm 117 rfl) l0 ?_
  refine ev_iload (mm 118 rfl) l4 ?_
  obtain ⟨M100, e101, h⟩ := bind_so h
  refine ev_put_i (mm 119 rfl) (fun z => by cases z) rfl e101 ?_
  exact ev_return (mm 120 rfl) h
/-- PupilCoin$Rates.weigh(IIIIJ)V -/
def f27 (x0 : Nat) (x1 : Int32) (x2 : Int32) (x3 : Int32) (x4 : Int32) (x5 : Int64) (M : vm_M) : Option (vm_M) :=
  f27_l9 x0 x1 x2 x3 x4 x5
    (fun y85 y86 M87 =>
      if (lg_cmp y85 x5) ≤ 0 then
        (sg_i M87 x0 5 3).bind fun v89 =>
        if v89 = 0 then
          f27_j194 x0 x3 x4 y85 y86 M87
        else
          (sg_l M87 x0 5 4).bind fun v102 =>
          if 0 < (lg_cmp ((y86 : Int32).toInt64) v102) then
            some M87
          else
            (sg_l M87 x0 5 4).bind fun v105 =>
            if ¬ (lg_cmp ((y86 : Int32).toInt64) v105) = 0 then
              f27_j194 x0 x3 x4 y85 y86 M87
            else
              (sg_l M87 x0 5 5).bind fun v108 =>
              if 0 < (lg_cmp y85 v108) then
                f27_j194 x0 x3 x4 y85 y86 M87
              else
                some M87
      else
        some M87)
    100000 0 0 0 M
theorem f27_ok {x0 : Nat} {x1 : Int32} {x2 : Int32} {x3 : Int32} {x4 : Int32} {x5 : Int64} {M : vm_M} {r : vm_M} (h : f27 x0 x1 x2 x3 x4 x5 M = some r) (d : Nat) : vm_Cl (d + 2) 27 [.ref (x0), .int (x1), .int (x2), .int (x3), .int (x4), .long (x5)] M (rV r) := by
  have key : Ev 0 (fun _ => 0) (vm_Cl (d + 1)) vp_27 5 17 false none (rV r) 0 (lv_args 0 [.ref (x0), .int (x1), .int (x2), .int (x3), .int (x4), .long (x5)]) [] M := by
    have l0 : (0, .ref (x0)) ∈ lv_args 0 [.ref (x0), .int (x1), .int (x2), .int (x3), .int (x4), .long (x5)] := List.Mem.head _
    have l1 : (1, .int (x1)) ∈ lv_args 0 [.ref (x0), .int (x1), .int (x2), .int (x3), .int (x4), .long (x5)] := List.Mem.tail _ (List.Mem.head _)
    have l2 : (2, .int (x2)) ∈ lv_args 0 [.ref (x0), .int (x1), .int (x2), .int (x3), .int (x4), .long (x5)] := List.Mem.tail _ (List.Mem.tail _ (List.Mem.head _))
    have l3 : (3, .int (x3)) ∈ lv_args 0 [.ref (x0), .int (x1), .int (x2), .int (x3), .int (x4), .long (x5)] := List.Mem.tail _ (List.Mem.tail _ (List.Mem.tail _ (List.Mem.head _)))
    have l4 : (4, .int (x4)) ∈ lv_args 0 [.ref (x0), .int (x1), .int (x2), .int (x3), .int (x4), .long (x5)] := List.Mem.tail _ (List.Mem.tail _ (List.Mem.tail _ (List.Mem.tail _ (List.Mem.head _))))
    have l5 : (5, .long (x5)) ∈ lv_args 0 [.ref (x0), .int (x1), .int (x2), .int (x3), .int (x4), .long (x5)] := List.Mem.tail _ (List.Mem.tail _ (List.Mem.tail _ (List.Mem.tail _ (List.Mem.tail _ (List.Mem.head _)))))
    unfold f27 at h
    refine ev_lconst (mm 0 rfl) cL_0 ?_
    refine evs_lstore (mm 1 rfl) (by decide) (fun lv1 l7 s2 => ?_)
    have l0 := s2 _ _ l0 rfl
    have l1 := s2 _ _ l1 rfl
    have l2 := s2 _ _ l2 rfl
    have l3 := s2 _ _ l3 rfl
    have l4 := s2 _ _ l4 rfl
    have l5 := s2 _ _ l5 rfl
    refine ev_iconst (mm 2 rfl) cI_0 ?_
    refine evs_istore (mm 3 rfl) (by decide) (fun lv3 l9 s4 => ?_)
    have l0 := s4 _ _ l0 rfl
    have l1 := s4 _ _ l1 rfl
    have l2 := s4 _ _ l2 rfl
    have l3 := s4 _ _ l3 rfl
    have l4 := s4 _ _ l4 rfl
    have l5 := s4 _ _ l5 rfl
    have l7 := s4 _ _ l7 rfl
    refine ev_iconst (mm 4 rfl) cI_0 ?_
    refine evs_istore (mm 5 rfl) (by decide) (fun lv5 l10 s6 => ?_)
    have l0 := s6 _ _ l0 rfl
    have l1 := s6 _ _ l1 rfl
    have l2 := s6 _ _ l2 rfl
    have l3 := s6 _ _ l3 rfl
    have l4 := s6 _ _ l4 rfl
    have l5 := s6 _ _ l5 rfl
    have l7 := s6 _ _ l7 rfl
    have l9 := s6 _ _ l9 rfl
    refine f27_l9_ok ?_ 100000 l0 l1 l2 l3 l4 l5 l7 l9 l10 h
    · intro y85 y86 M87 lv l0 l3 l4 l5 l7 l9
      intro h
      refine ev_lload (mm 78 rfl) l7 ?_
      refine ev_lload (mm 79 rfl) l5 ?_
      refine ev_lcmp (mm 80 rfl) ?_
      rcases ite_so h with ⟨c88, h⟩ | ⟨c88, h⟩
      · refine ev_if_t 154 (mm 81 rfl) rfl c88 ?_
        refine ev_aload_nR (mm 83 rfl) l0 ?_
        obtain ⟨v89, e90, h⟩ := bind_so h
        refine ev_get_i (mm 84 rfl) rfl e90 ?_
        rcases ite_so h with ⟨c91, h⟩ | ⟨c91, h⟩
        · refine ev_if_t 194 (mm 85 rfl) rfl c91 ?_
          exact f27_j194_ok l0 l3 l4 l7 l9 h
        · refine ev_if_f 194 (mm 85 rfl) rfl c91 ?_
          refine ev_iload (mm 86 rfl) l9 ?_
          refine ev_i2l (mm 87 rfl) ?_
          refine ev_aload_nR (mm 88 rfl) l0 ?_
          obtain ⟨v102, e103, h⟩ := bind_so h
          refine ev_get_l (mm 89 rfl) rfl e103 ?_
          refine ev_lcmp (mm 90 rfl) ?_
          rcases ite_so h with ⟨c104, h⟩ | ⟨c104, h⟩
          · refine ev_if_t 193 (mm 91 rfl) rfl c104 ?_
            exact ev_return (mm 103 rfl) h
          · refine ev_if_f 193 (mm 91 rfl) rfl c104 ?_
            refine ev_iload (mm 92 rfl) l9 ?_
            refine ev_i2l (mm 93 rfl) ?_
            refine ev_aload_nR (mm 94 rfl) l0 ?_
            obtain ⟨v105, e106, h⟩ := bind_so h
            refine ev_get_l (mm 95 rfl) rfl e106 ?_
            refine ev_lcmp (mm 96 rfl) ?_
            rcases ite_so h with ⟨c107, h⟩ | ⟨c107, h⟩
            · refine ev_if_t 194 (mm 97 rfl) rfl c107 ?_
              exact f27_j194_ok l0 l3 l4 l7 l9 h
            · refine ev_if_f 194 (mm 97 rfl) rfl c107 ?_
              refine ev_lload (mm 98 rfl) l7 ?_
              refine ev_aload_nR (mm 99 rfl) l0 ?_
              obtain ⟨v108, e109, h⟩ := bind_so h
              refine ev_get_l (mm 100 rfl) rfl e109 ?_
              refine ev_lcmp (mm 101 rfl) ?_
              rcases ite_so h with ⟨c110, h⟩ | ⟨c110, h⟩
              · refine ev_if_t 194 (mm 102 rfl) rfl c110 ?_
                exact f27_j194_ok l0 l3 l4 l7 l9 h
              · refine ev_if_f 194 (mm 102 rfl) rfl c110 ?_
                exact ev_return (mm 103 rfl) h
      · refine ev_if_f 154 (mm 81 rfl) rfl c88 ?_
        exact ev_return (mm 82 rfl) h
  exact ⟨by decide, Nat.le_of_ble_eq_true rfl, key.1, key.2⟩
def f26_l13 (x0 : Nat) (x1 : Int32) (x2 : Int32) (x3 : Int64) (x5 : Int32) (k37 : vm_M → Option (vm_M)) : Nat → Int32 → vm_M → Option (vm_M)
  | 0 => fun _ _ => none
  | n + 1 => fun x6 M =>
    if 20 < x6 then
      k37 M
    else
      (s_ob M x0 5).bind fun _ =>
      (f27 x0 x1 x2 x5 x6 x3 M).bind fun p7 =>
      f26_l13 x0 x1 x2 x3 x5 k37 n (x6 + 1) p7
theorem f26_l13_ok {d : Nat} {x0 : Nat} {x1 : Int32} {x2 : Int32} {x3 : Int64} {x5 : Int32} {k37 : vm_M → Option (vm_M)} {r : vm_M} (hk37 : ∀ {M : vm_M} {lv : vm_L}, (0, .ref (x0)) ∈ lv → (1, .int (x1)) ∈ lv → (2, .int (x2)) ∈ lv → (3, .long (x3)) ∈ lv → (5, .int (x5)) ∈ lv → k37 M = some r → Ev 0 (fun _ => 0) (vm_Cl (d + 2)) vp_26 5 7 false none (rV r) 37 lv [] M) : ∀ (n : Nat) {x6 : Int32} {M : vm_M} {lv : vm_L}, (0, .ref (x0)) ∈ lv → (1, .int (x1)) ∈ lv → (2, .int (x2)) ∈ lv → (3, .long (x3)) ∈ lv → (5, .int (x5)) ∈ lv → (6, .int (x6)) ∈ lv → f26_l13 x0 x1 x2 x3 x5 k37 n x6 M = some r → Ev 0 (fun _ => 0) (vm_Cl (d + 2)) vp_26 5 7 false none (rV r) 13 lv [] M := by
  intro n
  induction n with
  | zero =>
    intro x6 M lv l0 l1 l2 l3 l5 l6 h
    cases h
  | succ n ih =>
    intro x6 M lv l0 l1 l2 l3 l5 l6 h
    dsimp only [f26_l13] at h
    refine ev_iload (mm 7 rfl) l6 ?_
    refine ev_bipush (mm 8 rfl) cB_20 ?_
    rcases ite_so h with ⟨c6, h⟩ | ⟨c6, h⟩
    · refine ev_ic_t 37 (mm 9 rfl) rfl c6 ?_
      exact hk37 l0 l1 l2 l3 l5 h
    · refine ev_ic_f 37 (mm 9 rfl) rfl c6 ?_
      refine ev_aload_nR (mm 10 rfl) l0 ?_
      refine ev_iload_n (mm 11 rfl) l1 ?_
      refine ev_iload_n (mm 12 rfl) l2 ?_
      refine ev_iload (mm 13 rfl) l5 ?_
      refine ev_iload (mm 14 rfl) l6 ?_
      refine ev_lload_n (mm 15 rfl) l3 ?_
      obtain ⟨_, e11, h⟩ := bind_so h
      obtain ⟨p7, e8, h⟩ := bind_so h
      refine ev_callV_V [.int (x1), .int (x2), .int (x5), .int (x6), .long (x3)] (mm 16 rfl) rfl rfl (Nat.le_of_ble_eq_true rfl) (s_ob_of e11) (f27_ok e8 (d + 0)) ?_
      refine evs_iinc (mm 17 rfl) cI_1 l6 (by decide) (fun lv9 l6 s10 => ?_)
      have l0 := s10 _ _ l0 rfl
      have l1 := s10 _ _ l1 rfl
      have l2 := s10 _ _ l2 rfl
      have l3 := s10 _ _ l3 rfl
      have l5 := s10 _ _ l5 rfl
      refine ev_goto 13 (mm 18 rfl) rfl ?_
      exact ih l0 l1 l2 l3 l5 l6 h
def f26_l3 (x0 : Nat) (x1 : Int32) (x2 : Int32) (x3 : Int64) : Nat → Int32 → vm_M → Option (vm_M)
  | 0 => fun _ _ => none
  | n + 1 => fun x5 M =>
    if 20 < x5 then
      some M
    else
      f26_l13 x0 x1 x2 x3 x5
        (fun M12 =>
          f26_l3 x0 x1 x2 x3 n (x5 + 1) M12)
        100000 0 M
theorem f26_l3_ok {d : Nat} {x0 : Nat} {x1 : Int32} {x2 : Int32} {x3 : Int64} {r : vm_M} : ∀ (n : Nat) {x5 : Int32} {M : vm_M} {lv : vm_L}, (0, .ref (x0)) ∈ lv → (1, .int (x1)) ∈ lv → (2, .int (x2)) ∈ lv → (3, .long (x3)) ∈ lv → (5, .int (x5)) ∈ lv → f26_l3 x0 x1 x2 x3 n x5 M = some r → Ev 0 (fun _ => 0) (vm_Cl (d + 2)) vp_26 5 7 false none (rV r) 3 lv [] M := by
  intro n
  induction n with
  | zero =>
    intro x5 M lv l0 l1 l2 l3 l5 h
    cases h
  | succ n ih =>
    intro x5 M lv l0 l1 l2 l3 l5 h
    dsimp only [f26_l3] at h
    refine ev_iload (mm 2 rfl) l5 ?_
    refine ev_bipush (mm 3 rfl) cB_20 ?_
    rcases ite_so h with ⟨c3, h⟩ | ⟨c3, h⟩
    · refine ev_ic_t 43 (mm 4 rfl) rfl c3 ?_
      exact ev_return (mm 21 rfl) h
    · refine ev_ic_f 43 (mm 4 rfl) rfl c3 ?_
      refine ev_iconst (mm 5 rfl) cI_0 ?_
      refine evs_istore (mm 6 rfl) (by decide) (fun lv4 l6 s5 => ?_)
      have l0 := s5 _ _ l0 rfl
      have l1 := s5 _ _ l1 rfl
      have l2 := s5 _ _ l2 rfl
      have l3 := s5 _ _ l3 rfl
      have l5 := s5 _ _ l5 rfl
      refine f26_l13_ok ?_ 100000 l0 l1 l2 l3 l5 l6 h
      · intro M12 lv l0 l1 l2 l3 l5
        intro h
        refine evs_iinc (mm 19 rfl) cI_1 l5 (by decide) (fun lv13 l5 s14 => ?_)
        have l0 := s14 _ _ l0 rfl
        have l1 := s14 _ _ l1 rfl
        have l2 := s14 _ _ l2 rfl
        have l3 := s14 _ _ l3 rfl
        refine ev_goto 3 (mm 20 rfl) rfl ?_
        exact ih l0 l1 l2 l3 l5 h
/-- PupilCoin$Rates.search(IIJ)V -/
def f26 (x0 : Nat) (x1 : Int32) (x2 : Int32) (x3 : Int64) (M : vm_M) : Option (vm_M) :=
  f26_l3 x0 x1 x2 x3
  
    100000 0 M
theorem f26_ok {x0 : Nat} {x1 : Int32} {x2 : Int32} {x3 : Int64} {M : vm_M} {r : vm_M} (h : f26 x0 x1 x2 x3 M = some r) (d : Nat) : vm_Cl (d + 3) 26 [.ref (x0), .int (x1), .int (x2), .long (x3)] M (rV r) := by
  have key : Ev 0 (fun _ => 0) (vm_Cl (d + 2)) vp_26 5 7 false none (rV r) 0 (lv_args 0 [.ref (x0), .int (x1), .int (x2), .long (x3)]) [] M := by
    have l0 : (0, .ref (x0)) ∈ lv_args 0 [.ref (x0), .int (x1), .int (x2), .long (x3)] := List.Mem.head _
    have l1 : (1, .int (x1)) ∈ lv_args 0 [.ref (x0), .int (x1), .int (x2), .long (x3)] := List.Mem.tail _ (List.Mem.head _)
    have l2 : (2, .int (x2)) ∈ lv_args 0 [.ref (x0), .int (x1), .int (x2), .long (x3)] := List.Mem.tail _ (List.Mem.tail _ (List.Mem.head _))
    have l3 : (3, .long (x3)) ∈ lv_args 0 [.ref (x0), .int (x1), .int (x2), .long (x3)] := List.Mem.tail _ (List.Mem.tail _ (List.Mem.tail _ (List.Mem.head _)))
    unfold f26 at h
    refine ev_iconst (mm 0 rfl) cI_0 ?_
    refine evs_istore (mm 1 rfl) (by decide) (fun lv1 l5 s2 => ?_)
    have l0 := s2 _ _ l0 rfl
    have l1 := s2 _ _ l1 rfl
    have l2 := s2 _ _ l2 rfl
    have l3 := s2 _ _ l3 rfl
    refine f26_l3_ok 100000 l0 l1 l2 l3 l5 h
  exact ⟨by decide, Nat.le_of_ble_eq_true rfl, key.1, key.2⟩
/-- PupilCoin$Rates.tells(I)J -/
def f28 (x0 : Nat) (x1 : Int32) (M : vm_M) : Option (Int64 × vm_M) :=
  if x1 = 0 then
    (sg_l M x0 5 4).bind fun v2 =>
    some (v2, M)
  else if x1 = 1 then
    (sg_l M x0 5 5).bind fun v5 =>
    some (v5, M)
  else if x1 = 2 then
    (sg_i M x0 5 6).bind fun v8 =>
    some ((v8 : Int32).toInt64, M)
  else 
    (sg_i M x0 5 7).bind fun v10 =>
    some ((v10 : Int32).toInt64, M)
theorem f28_ok {x0 : Nat} {x1 : Int32} {M : vm_M} {r : Int64 × vm_M} (h : f28 x0 x1 M = some r) (d : Nat) : vm_Cl (d + 1) 28 [.ref (x0), .int (x1)] M (rJ r) := by
  have key : Ev 0 (fun _ => 0) (vm_Cl (d + 0)) vp_28 5 2 false (some (.long)) (rJ r) 0 (lv_args 0 [.ref (x0), .int (x1)]) [] M := by
    have l0 : (0, .ref (x0)) ∈ lv_args 0 [.ref (x0), .int (x1)] := List.Mem.head _
    have l1 : (1, .int (x1)) ∈ lv_args 0 [.ref (x0), .int (x1)] := List.Mem.tail _ (List.Mem.head _)
    unfold f28 at h
    refine ev_iload_n (mm 0 rfl) l1 ?_
    rcases ite_so h with ⟨c1, h⟩ | ⟨c1, h⟩
    · refine ev_tsw (off := 27) 28 0 (mm 1 rfl) c1 rfl rfl ?_
      refine ev_aload_nR (mm 2 rfl) l0 ?_
      obtain ⟨v2, e3, h⟩ := bind_so h
      refine ev_get_l (mm 3 rfl) rfl e3 ?_
      exact ev_lreturn (mm 4 rfl) h
    rcases ite_so h with ⟨c4, h⟩ | ⟨c4, h⟩
    · refine ev_tsw (off := 32) 33 1 (mm 1 rfl) c4 rfl rfl ?_
      refine ev_aload_nR (mm 5 rfl) l0 ?_
      obtain ⟨v5, e6, h⟩ := bind_so h
      refine ev_get_l (mm 6 rfl) rfl e6 ?_
      exact ev_lreturn (mm 7 rfl) h
    rcases ite_so h with ⟨c7, h⟩ | ⟨c7, h⟩
    · refine ev_tsw (off := 37) 38 2 (mm 1 rfl) c7 rfl rfl ?_
      refine ev_aload_nR (mm 8 rfl) l0 ?_
      obtain ⟨v8, e9, h⟩ := bind_so h
      refine ev_get_i (mm 9 rfl) rfl e9 ?_
      refine ev_i2l (mm 10 rfl) ?_
      exact ev_lreturn (mm 11 rfl) h
    refine ev_tswD 44 (mm 1 rfl) rfl (tsw_out [0, 1, 2] rfl rfl (by simp [c1, c4, c7])) ?_
    refine ev_aload_nR (mm 12 rfl) l0 ?_
    obtain ⟨v10, e11, h⟩ := bind_so h
    refine ev_get_i (mm 13 rfl) rfl e11 ?_
    refine ev_i2l (mm 14 rfl) ?_
    exact ev_lreturn (mm 15 rfl) h
  exact ⟨by decide, Nat.le_of_ble_eq_true rfl, key.1, key.2⟩
/-- PupilCoin$Reader.clear()V -/
def f30 (x0 : Nat) (M : vm_M) : Option (vm_M) :=
  (sp_i M x0 6 11 0).bind fun M1 =>
  (sp_i M1 x0 6 6 0).bind fun M3 =>
  (sp_i M3 x0 6 7 0).bind fun M5 =>
  (sp_i M5 x0 6 8 0).bind fun M7 =>
  (sp_i M7 x0 6 16 (-1)).bind fun M9 =>
  (sg_r M9 x0 6 5).bind fun v11 =>
  (v11).bind fun q13 =>
  (f200 q13 (-1) M9).bind fun p15 =>
  (sg_r p15 x0 6 5).bind fun v17 =>
  (v17).bind fun q19 =>
  (ss_i p15 q19 0 3 0).bind fun M21 =>
  (sg_r M21 x0 6 5).bind fun v23 =>
  (v23).bind fun q25 =>
  (ss_i M21 q25 0 4 0).bind fun M27 =>
  some M27
theorem f30_ok {x0 : Nat} {M : vm_M} {r : vm_M} (h : f30 x0 M = some r) (d : Nat) : vm_Cl (d + 2) 30 [.ref (x0)] M (rV r) := by
  have key : Ev 0 (fun _ => 0) (vm_Cl (d + 1)) vp_30 6 1 false none (rV r) 0 (lv_args 0 [.ref (x0)]) [] M := by
    have l0 : (0, .ref (x0)) ∈ lv_args 0 [.ref (x0)] := List.Mem.head _
    unfold f30 at h
    refine ev_aload_nR (mm 0 rfl) l0 ?_
    refine ev_iconst (mm 1 rfl) cI_0 ?_
    obtain ⟨M1, e2, h⟩ := bind_so h
    refine ev_put_i (mm 2 rfl) (fun z => by cases z) rfl e2 ?_
    refine ev_aload_nR (mm 3 rfl) l0 ?_
    refine ev_iconst (mm 4 rfl) cI_0 ?_
    obtain ⟨M3, e4, h⟩ := bind_so h
    refine ev_put_i (mm 5 rfl) (fun z => by cases z) rfl e4 ?_
    refine ev_aload_nR (mm 6 rfl) l0 ?_
    refine ev_iconst (mm 7 rfl) cI_0 ?_
    obtain ⟨M5, e6, h⟩ := bind_so h
    refine ev_put_i (mm 8 rfl) (fun z => by cases z) rfl e6 ?_
    refine ev_aload_nR (mm 9 rfl) l0 ?_
    refine ev_iconst (mm 10 rfl) cI_0 ?_
    obtain ⟨M7, e8, h⟩ := bind_so h
    refine ev_put_i (mm 11 rfl) (fun z => by cases z) rfl e8 ?_
    refine ev_aload_nR (mm 12 rfl) l0 ?_
    refine ev_iconst (mm 13 rfl) cI_m1 ?_
    obtain ⟨M9, e10, h⟩ := bind_so h
    refine ev_put_i (mm 14 rfl) (fun z => by cases z) rfl e10 ?_
    refine ev_aload_nR (mm 15 rfl) l0 ?_
    obtain ⟨v11, e12, h⟩ := bind_so h
    refine ev_get_r (mm 16 rfl) rfl e12 ?_
    refine ev_iconst (mm 17 rfl) cI_m1 ?_
    obtain ⟨q13, e14, h⟩ := bind_so h
    rw [e14]
    obtain ⟨p15, e16, h⟩ := bind_so h
    refine ev_callS_V [.ref (q13), .int ((-1))] (mm 18 rfl) (by decide) rfl rfl (Nat.le_of_ble_eq_true rfl) (f200_ok e16 (d + 0)) ?_
    refine ev_aload_nR (mm 19 rfl) l0 ?_
    obtain ⟨v17, e18, h⟩ := bind_so h
    refine ev_get_r (mm 20 rfl) rfl e18 ?_
    refine ev_iconst (mm 21 rfl) cI_3 ?_
    refine ev_iconst (mm 22 rfl) cI_0 ?_
    obtain ⟨q19, e20, h⟩ := bind_so h
    rw [e20]
    obtain ⟨M21, e22, h⟩ := bind_so h
    refine ev_iastore (mm 23 rfl) e22 ?_
    refine ev_aload_nR (mm 24 rfl) l0 ?_
    obtain ⟨v23, e24, h⟩ := bind_so h
    refine ev_get_r (mm 25 rfl) rfl e24 ?_
    refine ev_iconst (mm 26 rfl) cI_4 ?_
    refine ev_iconst (mm 27 rfl) cI_0 ?_
    obtain ⟨q25, e26, h⟩ := bind_so h
    rw [e26]
    obtain ⟨M27, e28, h⟩ := bind_so h
    refine ev_iastore (mm 28 rfl) e28 ?_
    exact ev_return (mm 29 rfl) h
  exact ⟨by decide, Nat.le_of_ble_eq_true rfl, key.1, key.2⟩
def f29_l66 (x0 : Nat) (x1 : Int32) (k135 : vm_M → Option (vm_M)) : Nat → Int32 → vm_M → Option (vm_M)
  | 0 => fun _ _ => none
  | n + 1 => fun x2 M =>
    if 8 ≤ x2 then
      k135 M
    else
      if (Int32.ofNat vm_by.length) ≤ ((x1 * 8) + x2) then
        k135 M
      else
        (s_ch ((x1 * 8) + x2)).bind fun v38 =>
        if v38 = 32 then
          f29_l66 x0 x1 k135 n (x2 + 1) M
        else
          (sg_r M x0 6 0).bind fun v45 =>
          (sg_r M x0 6 0).bind fun v47 =>
          (v47).bind fun q49 =>
          (sa_l M q49 x1).bind fun v51 =>
          (v45).bind fun q53 =>
          (ss_l M q53 x1 ((((v51 * 32) + (v38 : Int32).toInt64) - 97) + 1)).bind fun M55 =>
          f29_l66 x0 x1 k135 n (x2 + 1) M55
theorem f29_l66_ok {d : Nat} {x0 : Nat} {x1 : Int32} {k135 : vm_M → Option (vm_M)} {r : vm_M} (hk135 : ∀ {M : vm_M} {lv : vm_L}, (0, .ref (x0)) ∈ lv → (1, .int (x1)) ∈ lv → k135 M = some r → Ev 0 (fun _ => 0) (vm_Cl (d + 2)) vp_29 6 4 true none (rV r) 135 lv [] M) : ∀ (n : Nat) {x2 : Int32} {M : vm_M} {lv : vm_L}, (0, .ref (x0)) ∈ lv → (1, .int (x1)) ∈ lv → (2, .int (x2)) ∈ lv → f29_l66 x0 x1 k135 n x2 M = some r → Ev 0 (fun _ => 0) (vm_Cl (d + 2)) vp_29 6 4 true none (rV r) 66 lv [] M := by
  intro n
  induction n with
  | zero =>
    intro x2 M lv l0 l1 l2 h
    cases h
  | succ n ih =>
    intro x2 M lv l0 l1 l2 h
    dsimp only [f29_l66] at h
    refine ev_iload_n (mm 35 rfl) l2 ?_
    refine ev_bipush (mm 36 rfl) cB_8 ?_
    rcases ite_so h with ⟨c36, h⟩ | ⟨c36, h⟩
    · refine ev_ic_t 135 (mm 37 rfl) rfl c36 ?_
      exact hk135 l0 l1 h
    · refine ev_ic_f 135 (mm 37 rfl) rfl c36 ?_
      refine ev_iload_n (mm 38 rfl) l1 ?_
      refine ev_bipush (mm 39 rfl) cB_8 ?_
      refine ev_imul (mm 40 rfl) ?_
      refine ev_iload_n (mm 41 rfl) l2 ?_
      refine ev_iadd (mm 42 rfl) ?_
      refine ev_ldcS (mm 43 rfl) ?_
      refine ev_slen (mm 44 rfl) (Nat.le_of_ble_eq_true rfl) ?_
      rcases ite_so h with ⟨c37, h⟩ | ⟨c37, h⟩
      · refine ev_ic_t 135 (mm 45 rfl) rfl c37 ?_
        exact hk135 l0 l1 h
      · refine ev_ic_f 135 (mm 45 rfl) rfl c37 ?_
        refine ev_ldcS (mm 46 rfl) ?_
        refine ev_iload_n (mm 47 rfl) l1 ?_
        refine ev_bipush (mm 48 rfl) cB_8 ?_
        refine ev_imul (mm 49 rfl) ?_
        refine ev_iload_n (mm 50 rfl) l2 ?_
        refine ev_iadd (mm 51 rfl) ?_
        obtain ⟨v38, e39, h⟩ := bind_so h
        refine ev_schar (mm 52 rfl) (Nat.le_of_ble_eq_true rfl) e39 ?_
        refine evs_istore_n (mm 53 rfl) (by decide) (fun lv40 l3 s41 => ?_)
        have l0 := s41 _ _ l0 rfl
        have l1 := s41 _ _ l1 rfl
        have l2 := s41 _ _ l2 rfl
        refine ev_iload_n (mm 54 rfl) l3 ?_
        refine ev_bipush (mm 55 rfl) cB_32 ?_
        rcases ite_so h with ⟨c42, h⟩ | ⟨c42, h⟩
        · refine ev_ic_t 129 (mm 56 rfl) rfl c42 ?_
          refine evs_iinc (mm 74 rfl) cI_1 l2 (by decide) (fun lv43 l2 s44 => ?_)
          have l0 := s44 _ _ l0 rfl
          have l1 := s44 _ _ l1 rfl
          refine ev_goto 66 (mm 75 rfl) rfl ?_
          exact ih l0 l1 l2 h
        · refine ev_ic_f 129 (mm 56 rfl) rfl c42 ?_
          refine ev_aload_nR (mm 57 rfl) l0 ?_
          obtain ⟨v45, e46, h⟩ := bind_so h
          refine ev_get_r (mm 58 rfl) rfl e46 ?_
          refine ev_iload_n (mm 59 rfl) l1 ?_
          refine ev_aload_nR (mm 60 rfl) l0 ?_
          obtain ⟨v47, e48, h⟩ := bind_so h
          refine ev_get_r (mm 61 rfl) rfl e48 ?_
          refine ev_iload_n (mm 62 rfl) l1 ?_
          obtain ⟨q49, e50, h⟩ := bind_so h
          rw [e50]
          obtain ⟨v51, e52, h⟩ := bind_so h
          refine ev_laload (mm 63 rfl) e52 ?_
          refine ev_ldc2_w (mm 64 rfl) cJ_32 ?_
          refine ev_lmul (mm 65 rfl) ?_
          refine ev_iload_n (mm 66 rfl) l3 ?_
          refine ev_i2l (mm 67 rfl) ?_
          refine ev_ladd (mm 68 rfl) ?_
          refine ev_ldc2_w (mm 69 rfl) cJ_97 ?_
          refine ev_lsub (mm 70 rfl) ?_
          refine ev_lconst (mm 71 rfl) cL_1 ?_
          refine ev_ladd (mm 72 rfl) ?_
          obtain ⟨q53, e54, h⟩ := bind_so h
          rw [e54]
          obtain ⟨M55, e56, h⟩ := bind_so h
          refine ev_lastore (mm 73 rfl) e56 ?_
          refine evs_iinc (mm 74 rfl) cI_1 l2 (by decide) (fun lv57 l2 s58 => ?_)
          have l0 := s58 _ _ l0 rfl
          have l1 := s58 _ _ l1 rfl
          refine ev_goto 66 (mm 75 rfl) rfl ?_
          exact ih l0 l1 l2 h
def f29_l55 (x0 : Nat) (k141 : vm_M → Option (vm_M)) : Nat → Int32 → vm_M → Option (vm_M)
  | 0 => fun _ _ => none
  | n + 1 => fun x1 M =>
    (sg_r M x0 6 0).bind fun v27 =>
    (v27).bind fun q29 =>
    (s_len M q29 1).bind fun v31 =>
    if v31 ≤ x1 then
      k141 M
    else
      f29_l66 x0 x1
        (fun M59 =>
          f29_l55 x0 k141 n (x1 + 1) M59)
        100000 0 M
theorem f29_l55_ok {d : Nat} {x0 : Nat} {k141 : vm_M → Option (vm_M)} {r : vm_M} (hk141 : ∀ {M : vm_M} {lv : vm_L}, (0, .ref (x0)) ∈ lv → k141 M = some r → Ev 0 (fun _ => 0) (vm_Cl (d + 2)) vp_29 6 4 true none (rV r) 141 lv [] M) : ∀ (n : Nat) {x1 : Int32} {M : vm_M} {lv : vm_L}, (0, .ref (x0)) ∈ lv → (1, .int (x1)) ∈ lv → f29_l55 x0 k141 n x1 M = some r → Ev 0 (fun _ => 0) (vm_Cl (d + 2)) vp_29 6 4 true none (rV r) 55 lv [] M := by
  intro n
  induction n with
  | zero =>
    intro x1 M lv l0 l1 h
    cases h
  | succ n ih =>
    intro x1 M lv l0 l1 h
    dsimp only [f29_l55] at h
    refine ev_iload_n (mm 28 rfl) l1 ?_
    refine ev_aload_nR (mm 29 rfl) l0 ?_
    obtain ⟨v27, e28, h⟩ := bind_so h
    refine ev_get_r (mm 30 rfl) rfl e28 ?_
    obtain ⟨q29, e30, h⟩ := bind_so h
    rw [e30]
    obtain ⟨v31, e32, h⟩ := bind_so h
    refine ev_len (mm 31 rfl) (by decide) e32 ?_
    rcases ite_so h with ⟨c33, h⟩ | ⟨c33, h⟩
    · refine ev_ic_t 141 (mm 32 rfl) rfl c33 ?_
      exact hk141 l0 h
    · refine ev_ic_f 141 (mm 32 rfl) rfl c33 ?_
      refine ev_iconst (mm 33 rfl) cI_0 ?_
      refine evs_istore_n (mm 34 rfl) (by decide) (fun lv34 l2 s35 => ?_)
      have l0 := s35 _ _ l0 rfl
      have l1 := s35 _ _ l1 rfl
      refine f29_l66_ok ?_ 100000 l0 l1 l2 h
      · intro M59 lv l0 l1
        intro h
        refine evs_iinc (mm 76 rfl) cI_1 l1 (by decide) (fun lv60 l1 s61 => ?_)
        have l0 := s61 _ _ l0 rfl
        refine ev_goto 55 (mm 77 rfl) rfl ?_
        exact ih l0 l1 h
/-- PupilCoin$Reader.<init>()V -/
def f29 (x0 : Nat) (M : vm_M) : Option (vm_M) :=
  (s_na M 1 23).bind fun M1 =>
  (sp_r M1 x0 6 0 (some (vm_n M))).bind fun M3 =>
  (s_na M3 0 700).bind fun M5 =>
  (sp_r M5 x0 6 1 (some (vm_n M3))).bind fun M7 =>
  (s_na M7 0 61).bind fun M9 =>
  (sp_r M9 x0 6 2 (some (vm_n M7))).bind fun M11 =>
  (s_na M11 0 30).bind fun M13 =>
  (sp_r M13 x0 6 3 (some (vm_n M11))).bind fun M15 =>
  (s_na M15 1 30).bind fun M17 =>
  (sp_r M17 x0 6 4 (some (vm_n M15))).bind fun M19 =>
  (s_na M19 0 6).bind fun M21 =>
  (sp_r M21 x0 6 5 (some (vm_n M19))).bind fun M23 =>
  f29_l55 x0
    (fun M62 =>
      (s_ob M62 x0 6).bind fun _ =>
      (f30 x0 M62).bind fun p63 =>
      some p63)
    100000 0 M23
theorem f29_ok {x0 : Nat} {M : vm_M} {r : vm_M} (h : f29 x0 M = some r) (d : Nat) : vm_Cl (d + 3) 29 [.ref (x0)] M (rV r) := by
  have key : Ev 0 (fun _ => 0) (vm_Cl (d + 2)) vp_29 6 4 true none (rV r) 0 (lv_args 0 [.ref (x0)]) [] M := by
    have l0 : (0, .ref (x0)) ∈ lv_args 0 [.ref (x0)] := List.Mem.head _
    unfold f29 at h
    refine ev_aload_nR (mm 0 rfl) l0 ?_
    refine ev_obj (mm 1 rfl) (Nat.le_of_ble_eq_true rfl) ?_
    refine ev_aload_nR (mm 2 rfl) l0 ?_
    refine ev_bipush (mm 3 rfl) cB_23 ?_
    obtain ⟨M1, e2, h⟩ := bind_so h
    refine ev_newarray 1 (mm 4 rfl) (by decide) rfl e2 ?_
    obtain ⟨M3, e4, h⟩ := bind_so h
    refine ev_put_R (mm 5 rfl) (fun _ => ⟨rfl, rfl⟩) rfl e4 ?_
    refine ev_aload_nR (mm 6 rfl) l0 ?_
    refine ev_sipush (mm 7 rfl) cS_700 ?_
    obtain ⟨M5, e6, h⟩ := bind_so h
    refine ev_newarray 0 (mm 8 rfl) (by decide) rfl e6 ?_
    obtain ⟨M7, e8, h⟩ := bind_so h
    refine ev_put_R (mm 9 rfl) (fun _ => ⟨rfl, rfl⟩) rfl e8 ?_
    refine ev_aload_nR (mm 10 rfl) l0 ?_
    refine ev_bipush (mm 11 rfl) cB_61 ?_
    obtain ⟨M9, e10, h⟩ := bind_so h
    refine ev_newarray 0 (mm 12 rfl) (by decide) rfl e10 ?_
    obtain ⟨M11, e12, h⟩ := bind_so h
    refine ev_put_R (mm 13 rfl) (fun _ => ⟨rfl, rfl⟩) rfl e12 ?_
    refine ev_aload_nR (mm 14 rfl) l0 ?_
    refine ev_bipush (mm 15 rfl) cB_30 ?_
    obtain ⟨M13, e14, h⟩ := bind_so h
    refine ev_newarray 0 (mm 16 rfl) (by decide) rfl e14 ?_
    obtain ⟨M15, e16, h⟩ := bind_so h
    refine ev_put_R (mm 17 rfl) (fun _ => ⟨rfl, rfl⟩) rfl e16 ?_
    refine ev_aload_nR (mm 18 rfl) l0 ?_
    refine ev_bipush (mm 19 rfl) cB_30 ?_
    obtain ⟨M17, e18, h⟩ := bind_so h
    refine ev_newarray 1 (mm 20 rfl) (by decide) rfl e18 ?_
    obtain ⟨M19, e20, h⟩ := bind_so h
    refine ev_put_R (mm 21 rfl) (fun _ => ⟨rfl, rfl⟩) rfl e20 ?_
    refine ev_aload_nR (mm 22 rfl) l0 ?_
    refine ev_bipush (mm 23 rfl) cB_6 ?_
    obtain ⟨M21, e22, h⟩ := bind_so h
    refine ev_newarray 0 (mm 24 rfl) (by decide) rfl e22 ?_
    obtain ⟨M23, e24, h⟩ := bind_so h
    refine ev_put_R (mm 25 rfl) (fun _ => ⟨rfl, rfl⟩) rfl e24 ?_
    refine ev_iconst (mm 26 rfl) cI_0 ?_
    refine evs_istore_n (mm 27 rfl) (by decide) (fun lv25 l1 s26 => ?_)
    have l0 := s26 _ _ l0 rfl
    refine f29_l55_ok ?_ 100000 l0 l1 h
    · intro M62 lv l0
      intro h
      refine ev_aload_nR (mm 78 rfl) l0 ?_
      obtain ⟨_, e65, h⟩ := bind_so h
      obtain ⟨p63, e64, h⟩ := bind_so h
      refine ev_callV_V [] (mm 79 rfl) rfl rfl (Nat.le_of_ble_eq_true rfl) (s_ob_of e65) (f30_ok e64 (d + 0)) ?_
      exact ev_return (mm 80 rfl) h
  exact ⟨by decide, Nat.le_of_ble_eq_true rfl, key.1, key.2⟩
/-- PupilCoin$Reader.fail()V -/
def f32 (x0 : Nat) (M : vm_M) : Option (vm_M) :=
  (sg_i M x0 6 16).bind fun v1 =>
  if ¬ v1 = (-1) then
    (sp_i M x0 6 13 283).bind fun M4 =>
    some M4
  else
    (sg_i M x0 6 12).bind fun v6 =>
    (sp_i M x0 6 16 v6).bind fun M8 =>
    (sp_i M8 x0 6 13 283).bind fun M10 =>
    some M10
theorem f32_ok {x0 : Nat} {M : vm_M} {r : vm_M} (h : f32 x0 M = some r) (d : Nat) : vm_Cl (d + 1) 32 [.ref (x0)] M (rV r) := by
  have key : Ev 0 (fun _ => 0) (vm_Cl (d + 0)) vp_32 6 1 false none (rV r) 0 (lv_args 0 [.ref (x0)]) [] M := by
    have l0 : (0, .ref (x0)) ∈ lv_args 0 [.ref (x0)] := List.Mem.head _
    unfold f32 at h
    refine ev_aload_nR (mm 0 rfl) l0 ?_
    obtain ⟨v1, e2, h⟩ := bind_so h
    refine ev_get_i (mm 1 rfl) rfl e2 ?_
    refine ev_iconst (mm 2 rfl) cI_m1 ?_
    rcases ite_so h with ⟨c3, h⟩ | ⟨c3, h⟩
    · refine ev_ic_t 16 (mm 3 rfl) rfl c3 ?_
      refine ev_aload_nR (mm 8 rfl) l0 ?_
      refine ev_sipush (mm 9 rfl) cS_283 ?_
      obtain ⟨M4, e5, h⟩ := bind_so h
      refine ev_put_i (mm 10 rfl) (fun z => by cases z) rfl e5 ?_
      exact ev_return (mm 11 rfl) h
    · refine ev_ic_f 16 (mm 3 rfl) rfl c3 ?_
      refine ev_aload_nR (mm 4 rfl) l0 ?_
      refine ev_aload_nR (mm 5 rfl) l0 ?_
      obtain ⟨v6, e7, h⟩ := bind_so h
      refine ev_get_i (mm 6 rfl) rfl e7 ?_
      obtain ⟨M8, e9, h⟩ := bind_so h
      refine ev_put_i (mm 7 rfl) (fun z => by cases z) rfl e9 ?_
      refine ev_aload_nR (mm 8 rfl) l0 ?_
      refine ev_sipush (mm 9 rfl) cS_283 ?_
      obtain ⟨M10, e11, h⟩ := bind_so h
      refine ev_put_i (mm 10 rfl) (fun z => by cases z) rfl e11 ?_
      exact ev_return (mm 11 rfl) h
  exact ⟨by decide, Nat.le_of_ble_eq_true rfl, key.1, key.2⟩
def f34_j88 (k104 : vm_M → Option (vm_M)) (k7 : Int32 → vm_M → Option (vm_M)) (x0 : Nat) (x1 : Int32) (M : vm_M) : Option (vm_M) :=
  (sg_i M x0 6 11).bind fun v30 =>
  (sp_i M x0 6 11 (v30 + 1)).bind fun M32 =>
  k7 (x1 + 1) M32
theorem f34_j88_ok {d : Nat} {x0 : Nat} {x1 : Int32} {M : vm_M} {k104 : vm_M → Option (vm_M)} {k7 : Int32 → vm_M → Option (vm_M)} {r : vm_M} (hk104 : ∀ {M : vm_M} {lv : vm_L}, (0, .ref (x0)) ∈ lv → k104 M = some r → Ev 0 (fun _ => 0) (vm_Cl (d + 0)) vp_34 6 2 false none (rV r) 104 lv [] M) (hk7 : ∀ {y1 : Int32} {M : vm_M} {lv : vm_L}, (0, .ref (x0)) ∈ lv → (1, .int (y1)) ∈ lv → k7 y1 M = some r → Ev 0 (fun _ => 0) (vm_Cl (d + 0)) vp_34 6 2 false none (rV r) 7 lv [] M) {lv : vm_L} (l0 : (0, .ref (x0)) ∈ lv) (l1 : (1, .int (x1)) ∈ lv) (h : f34_j88 k104 k7 x0 x1 M = some r) : Ev 0 (fun _ => 0) (vm_Cl (d + 0)) vp_34 6 2 false none (rV r) 88 lv [] M := by
  unfold f34_j88 at h
  refine ev_aload_nR (mm 47 rfl) l0 ?_
  refine ev_dupR (mm 48 rfl) ?_
  obtain ⟨v30, e31, h⟩ := bind_so h
  refine ev_get_i (mm 49 rfl) rfl e31 ?_
  refine ev_iconst (mm 50 rfl) cI_1 ?_
  refine ev_iadd (mm 51 rfl) ?_
  obtain ⟨M32, e33, h⟩ := bind_so h
  refine ev_put_i (mm 52 rfl) (fun z => by cases z) rfl e33 ?_
  refine evs_iinc (mm 53 rfl) cI_1 l1 (by decide) (fun lv34 l1 s35 => ?_)
  have l0 := s35 _ _ l0 rfl
  refine ev_goto 7 (mm 54 rfl) rfl ?_
  exact hk7 l0 l1 h
def f34_l7 (x0 : Nat) (k104 : vm_M → Option (vm_M)) : Nat → Int32 → vm_M → Option (vm_M)
  | 0 => fun _ _ => none
  | n + 1 => fun x1 M =>
    if 700 ≤ x1 then
      k104 M
    else
      (sg_i M x0 6 11).bind fun v6 =>
      (sg_i M x0 6 10).bind fun v8 =>
      if v8 ≤ v6 then
        k104 M
      else
        (sg_r M x0 6 9).bind fun v11 =>
        (sg_i M x0 6 11).bind fun v13 =>
        (v11).bind fun q15 =>
        (sa_i M q15 0 v13).bind fun v17 =>
        if v17 < 97 then
          k104 M
        else
          (sg_r M x0 6 9).bind fun v20 =>
          (sg_i M x0 6 11).bind fun v22 =>
          (v20).bind fun q24 =>
          (sa_i M q24 0 v22).bind fun v26 =>
          if 122 < v26 then
            k104 M
          else
            if 8 ≤ x1 then
              f34_j88 k104 (f34_l7 x0 k104 n) x0 x1 M
            else
              (sg_l M x0 6 15).bind fun v36 =>
              (sg_r M x0 6 9).bind fun v38 =>
              (sg_i M x0 6 11).bind fun v40 =>
              (v38).bind fun q42 =>
              (sa_i M q42 0 v40).bind fun v44 =>
              (sp_l M x0 6 15 ((((v36 * 32) + (v44 : Int32).toInt64) - 97) + 1)).bind fun M46 =>
              f34_j88 k104 (f34_l7 x0 k104 n) x0 x1 M46
theorem f34_l7_ok {d : Nat} {x0 : Nat} {k104 : vm_M → Option (vm_M)} {r : vm_M} (hk104 : ∀ {M : vm_M} {lv : vm_L}, (0, .ref (x0)) ∈ lv → k104 M = some r → Ev 0 (fun _ => 0) (vm_Cl (d + 0)) vp_34 6 2 false none (rV r) 104 lv [] M) : ∀ (n : Nat) {x1 : Int32} {M : vm_M} {lv : vm_L}, (0, .ref (x0)) ∈ lv → (1, .int (x1)) ∈ lv → f34_l7 x0 k104 n x1 M = some r → Ev 0 (fun _ => 0) (vm_Cl (d + 0)) vp_34 6 2 false none (rV r) 7 lv [] M := by
  intro n
  induction n with
  | zero =>
    intro x1 M lv l0 l1 h
    cases h
  | succ n ih =>
    intro x1 M lv l0 l1 h
    dsimp only [f34_l7] at h
    refine ev_iload_n (mm 5 rfl) l1 ?_
    refine ev_sipush (mm 6 rfl) cS_700 ?_
    rcases ite_so h with ⟨c5, h⟩ | ⟨c5, h⟩
    · refine ev_ic_t 104 (mm 7 rfl) rfl c5 ?_
      exact hk104 l0 h
    · refine ev_ic_f 104 (mm 7 rfl) rfl c5 ?_
      refine ev_aload_nR (mm 8 rfl) l0 ?_
      obtain ⟨v6, e7, h⟩ := bind_so h
      refine ev_get_i (mm 9 rfl) rfl e7 ?_
      refine ev_aload_nR (mm 10 rfl) l0 ?_
      obtain ⟨v8, e9, h⟩ := bind_so h
      refine ev_get_i (mm 11 rfl) rfl e9 ?_
      rcases ite_so h with ⟨c10, h⟩ | ⟨c10, h⟩
      · refine ev_ic_t 104 (mm 12 rfl) rfl c10 ?_
        exact hk104 l0 h
      · refine ev_ic_f 104 (mm 12 rfl) rfl c10 ?_
        refine ev_aload_nR (mm 13 rfl) l0 ?_
        obtain ⟨v11, e12, h⟩ := bind_so h
        refine ev_get_r (mm 14 rfl) rfl e12 ?_
        refine ev_aload_nR (mm 15 rfl) l0 ?_
        obtain ⟨v13, e14, h⟩ := bind_so h
        refine ev_get_i (mm 16 rfl) rfl e14 ?_
        obtain ⟨q15, e16, h⟩ := bind_so h
        rw [e16]
        obtain ⟨v17, e18, h⟩ := bind_so h
        refine ev_iaload (mm 17 rfl) e18 ?_
        refine ev_bipush (mm 18 rfl) cB_97 ?_
        rcases ite_so h with ⟨c19, h⟩ | ⟨c19, h⟩
        · refine ev_ic_t 104 (mm 19 rfl) rfl c19 ?_
          exact hk104 l0 h
        · refine ev_ic_f 104 (mm 19 rfl) rfl c19 ?_
          refine ev_aload_nR (mm 20 rfl) l0 ?_
          obtain ⟨v20, e21, h⟩ := bind_so h
          refine ev_get_r (mm 21 rfl) rfl e21 ?_
          refine ev_aload_nR (mm 22 rfl) l0 ?_
          obtain ⟨v22, e23, h⟩ := bind_so h
          refine ev_get_i (mm 23 rfl) rfl e23 ?_
          obtain ⟨q24, e25, h⟩ := bind_so h
          rw [e25]
          obtain ⟨v26, e27, h⟩ := bind_so h
          refine ev_iaload (mm 24 rfl) e27 ?_
          refine ev_bipush (mm 25 rfl) cB_122 ?_
          rcases ite_so h with ⟨c28, h⟩ | ⟨c28, h⟩
          · refine ev_ic_t 104 (mm 26 rfl) rfl c28 ?_
            exact hk104 l0 h
          · refine ev_ic_f 104 (mm 26 rfl) rfl c28 ?_
            refine ev_iload_n (mm 27 rfl) l1 ?_
            refine ev_bipush (mm 28 rfl) cB_8 ?_
            rcases ite_so h with ⟨c29, h⟩ | ⟨c29, h⟩
            · refine ev_ic_t 88 (mm 29 rfl) rfl c29 ?_
              exact f34_j88_ok hk104 ih l0 l1 h
            · refine ev_ic_f 88 (mm 29 rfl) rfl c29 ?_
              refine ev_aload_nR (mm 30 rfl) l0 ?_
              refine ev_aload_nR (mm 31 rfl) l0 ?_
              obtain ⟨v36, e37, h⟩ := bind_so h
              refine ev_get_l (mm 32 rfl) rfl e37 ?_
              refine ev_ldc2_w (mm 33 rfl) cJ_32 ?_
              refine ev_lmul (mm 34 rfl) ?_
              refine ev_aload_nR (mm 35 rfl) l0 ?_
              obtain ⟨v38, e39, h⟩ := bind_so h
              refine ev_get_r (mm 36 rfl) rfl e39 ?_
              refine ev_aload_nR (mm 37 rfl) l0 ?_
              obtain ⟨v40, e41, h⟩ := bind_so h
              refine ev_get_i (mm 38 rfl) rfl e41 ?_
              obtain ⟨q42, e43, h⟩ := bind_so h
              rw [e43]
              obtain ⟨v44, e45, h⟩ := bind_so h
              refine ev_iaload (mm 39 rfl) e45 ?_
              refine ev_i2l (mm 40 rfl) ?_
              refine ev_ladd (mm 41 rfl) ?_
              refine ev_ldc2_w (mm 42 rfl) cJ_97 ?_
              refine ev_lsub (mm 43 rfl) ?_
              refine ev_lconst (mm 44 rfl) cL_1 ?_
              refine ev_ladd (mm 45 rfl) ?_
              obtain ⟨M46, e47, h⟩ := bind_so h
              refine ev_put_l (mm 46 rfl) (fun z => by cases z) rfl e47 ?_
              exact f34_j88_ok hk104 ih l0 l1 h
def f34_l133 (x0 : Nat) : Nat → Int32 → vm_M → Option (vm_M)
  | 0 => fun _ _ => none
  | n + 1 => fun x1 M =>
    (sg_r M x0 6 0).bind fun v58 =>
    (v58).bind fun q60 =>
    (s_len M q60 1).bind fun v62 =>
    if v62 ≤ x1 then
      some M
    else
      (sg_i M x0 6 13).bind fun v65 =>
      if ¬ v65 = 280 then
        some M
      else
        (sg_r M x0 6 0).bind fun v68 =>
        (v68).bind fun q70 =>
        (sa_l M q70 x1).bind fun v72 =>
        (sg_l M x0 6 15).bind fun v74 =>
        if ¬ (lg_cmp v72 v74) = 0 then
          f34_l133 x0 n (x1 + 1) M
        else
          (sp_i M x0 6 13 (256 + x1)).bind fun M79 =>
          f34_l133 x0 n (x1 + 1) M79
theorem f34_l133_ok {d : Nat} {x0 : Nat} {r : vm_M} : ∀ (n : Nat) {x1 : Int32} {M : vm_M} {lv : vm_L}, (0, .ref (x0)) ∈ lv → (1, .int (x1)) ∈ lv → f34_l133 x0 n x1 M = some r → Ev 0 (fun _ => 0) (vm_Cl (d + 0)) vp_34 6 2 false none (rV r) 133 lv [] M := by
  intro n
  induction n with
  | zero =>
    intro x1 M lv l0 l1 h
    cases h
  | succ n ih =>
    intro x1 M lv l0 l1 h
    dsimp only [f34_l133] at h
    refine ev_iload_n (mm 69 rfl) l1 ?_
    refine ev_aload_nR (mm 70 rfl) l0 ?_
    obtain ⟨v58, e59, h⟩ := bind_so h
    refine ev_get_r (mm 71 rfl) rfl e59 ?_
    obtain ⟨q60, e61, h⟩ := bind_so h
    rw [e61]
    obtain ⟨v62, e63, h⟩ := bind_so h
    refine ev_len (mm 72 rfl) (by decide) e63 ?_
    rcases ite_so h with ⟨c64, h⟩ | ⟨c64, h⟩
    · refine ev_ic_t 181 (mm 73 rfl) rfl c64 ?_
      exact ev_return (mm 93 rfl) h
    · refine ev_ic_f 181 (mm 73 rfl) rfl c64 ?_
      refine ev_aload_nR (mm 74 rfl) l0 ?_
      obtain ⟨v65, e66, h⟩ := bind_so h
      refine ev_get_i (mm 75 rfl) rfl e66 ?_
      refine ev_sipush (mm 76 rfl) cS_280 ?_
      rcases ite_so h with ⟨c67, h⟩ | ⟨c67, h⟩
      · refine ev_ic_t 181 (mm 77 rfl) rfl c67 ?_
        exact ev_return (mm 93 rfl) h
      · refine ev_ic_f 181 (mm 77 rfl) rfl c67 ?_
        refine ev_aload_nR (mm 78 rfl) l0 ?_
        obtain ⟨v68, e69, h⟩ := bind_so h
        refine ev_get_r (mm 79 rfl) rfl e69 ?_
        refine ev_iload_n (mm 80 rfl) l1 ?_
        obtain ⟨q70, e71, h⟩ := bind_so h
        rw [e71]
        obtain ⟨v72, e73, h⟩ := bind_so h
        refine ev_laload (mm 81 rfl) e73 ?_
        refine ev_aload_nR (mm 82 rfl) l0 ?_
        obtain ⟨v74, e75, h⟩ := bind_so h
        refine ev_get_l (mm 83 rfl) rfl e75 ?_
        refine ev_lcmp (mm 84 rfl) ?_
        rcases ite_so h with ⟨c76, h⟩ | ⟨c76, h⟩
        · refine ev_if_t 175 (mm 85 rfl) rfl c76 ?_
          refine evs_iinc (mm 91 rfl) cI_1 l1 (by decide) (fun lv77 l1 s78 => ?_)
          have l0 := s78 _ _ l0 rfl
          refine ev_goto 133 (mm 92 rfl) rfl ?_
          exact ih l0 l1 h
        · refine ev_if_f 175 (mm 85 rfl) rfl c76 ?_
          refine ev_aload_nR (mm 86 rfl) l0 ?_
          refine ev_sipush (mm 87 rfl) cS_256 ?_
          refine ev_iload_n (mm 88 rfl) l1 ?_
          refine ev_iadd (mm 89 rfl) ?_
          obtain ⟨M79, e80, h⟩ := bind_so h
          refine ev_put_i (mm 90 rfl) (fun z => by cases z) rfl e80 ?_
          refine evs_iinc (mm 91 rfl) cI_1 l1 (by decide) (fun lv81 l1 s82 => ?_)
          have l0 := s82 _ _ l0 rfl
          refine ev_goto 133 (mm 92 rfl) rfl ?_
          exact ih l0 l1 h
def f34_j104 (x0 : Nat) (M : vm_M) : Option (vm_M) :=
  (sg_i M x0 6 11).bind fun v49 =>
  (sg_i M x0 6 12).bind fun v51 =>
  if (v49 - v51) ≤ 8 then
    (sp_i M x0 6 13 280).bind fun M54 =>
    f34_l133 x0
    
      100000 0 M54
  else
    (sp_i M x0 6 13 283).bind fun M83 =>
    f34_l133 x0
    
      100000 0 M83
theorem f34_j104_ok {d : Nat} {x0 : Nat} {M : vm_M} {r : vm_M} {lv : vm_L} (l0 : (0, .ref (x0)) ∈ lv) (h : f34_j104 x0 M = some r) : Ev 0 (fun _ => 0) (vm_Cl (d + 0)) vp_34 6 2 false none (rV r) 104 lv [] M := by
  unfold f34_j104 at h
  refine ev_aload_nR (mm 55 rfl) l0 ?_
  refine ev_aload_nR (mm 56 rfl) l0 ?_
  obtain ⟨v49, e50, h⟩ := bind_so h
  refine ev_get_i (mm 57 rfl) rfl e50 ?_
  refine ev_aload_nR (mm 58 rfl) l0 ?_
  obtain ⟨v51, e52, h⟩ := bind_so h
  refine ev_get_i (mm 59 rfl) rfl e52 ?_
  refine ev_isub (mm 60 rfl) ?_
  refine ev_bipush (mm 61 rfl) cB_8 ?_
  rcases ite_so h with ⟨c53, h⟩ | ⟨c53, h⟩
  · refine ev_ic_t 125 (mm 62 rfl) rfl c53 ?_
    refine ev_sipush (mm 65 rfl) cS_280 ?_
    obtain ⟨M54, e55, h⟩ := bind_so h
    refine ev_put_i (mm 66 rfl) (fun z => by cases z) rfl e55 ?_
    refine ev_iconst (mm 67 rfl) cI_0 ?_
    refine evs_istore_n (mm 68 rfl) (by decide) (fun lv56 l1 s57 => ?_)
    have l0 := s57 _ _ l0 rfl
    refine f34_l133_ok 100000 l0 l1 h
  · refine ev_ic_f 125 (mm 62 rfl) rfl c53 ?_
    refine ev_sipush (mm 63 rfl) cS_283 ?_
    refine ev_goto 128 (mm 64 rfl) rfl ?_
    obtain ⟨M83, e84, h⟩ := bind_so h
    refine ev_put_i (mm 66 rfl) (fun z => by cases z) rfl e84 ?_
    refine ev_iconst (mm 67 rfl) cI_0 ?_
    refine evs_istore_n (mm 68 rfl) (by decide) (fun lv85 l1 s86 => ?_)
    have l0 := s86 _ _ l0 rfl
    refine f34_l133_ok 100000 l0 l1 h
/-- PupilCoin$Reader.nextWord()V -/
def f34 (x0 : Nat) (M : vm_M) : Option (vm_M) :=
  (sp_l M x0 6 15 0).bind fun M1 =>
  f34_l7 x0
    (fun M48 =>
      f34_j104 x0 M48)
    100000 0 M1
theorem f34_ok {x0 : Nat} {M : vm_M} {r : vm_M} (h : f34 x0 M = some r) (d : Nat) : vm_Cl (d + 1) 34 [.ref (x0)] M (rV r) := by
  have key : Ev 0 (fun _ => 0) (vm_Cl (d + 0)) vp_34 6 2 false none (rV r) 0 (lv_args 0 [.ref (x0)]) [] M := by
    have l0 : (0, .ref (x0)) ∈ lv_args 0 [.ref (x0)] := List.Mem.head _
    unfold f34 at h
    refine ev_aload_nR (mm 0 rfl) l0 ?_
    refine ev_lconst (mm 1 rfl) cL_0 ?_
    obtain ⟨M1, e2, h⟩ := bind_so h
    refine ev_put_l (mm 2 rfl) (fun z => by cases z) rfl e2 ?_
    refine ev_iconst (mm 3 rfl) cI_0 ?_
    refine evs_istore_n (mm 4 rfl) (by decide) (fun lv3 l1 s4 => ?_)
    have l0 := s4 _ _ l0 rfl
    refine f34_l7_ok ?_ 100000 l0 l1 h
    · intro M48 lv l0
      intro h
      exact f34_j104_ok l0 h
  exact ⟨by decide, Nat.le_of_ble_eq_true rfl, key.1, key.2⟩
def f35_j83 (k99 : vm_M → Option (vm_M)) (k7 : Int32 → vm_M → Option (vm_M)) (x0 : Nat) (x1 : Int32) (M : vm_M) : Option (vm_M) :=
  (sg_i M x0 6 11).bind fun v30 =>
  (sp_i M x0 6 11 (v30 + 1)).bind fun M32 =>
  k7 (x1 + 1) M32
theorem f35_j83_ok {d : Nat} {x0 : Nat} {x1 : Int32} {M : vm_M} {k99 : vm_M → Option (vm_M)} {k7 : Int32 → vm_M → Option (vm_M)} {r : vm_M} (hk99 : ∀ {M : vm_M} {lv : vm_L}, (0, .ref (x0)) ∈ lv → k99 M = some r → Ev 0 (fun _ => 0) (vm_Cl (d + 0)) vp_35 6 2 false none (rV r) 99 lv [] M) (hk7 : ∀ {y1 : Int32} {M : vm_M} {lv : vm_L}, (0, .ref (x0)) ∈ lv → (1, .int (y1)) ∈ lv → k7 y1 M = some r → Ev 0 (fun _ => 0) (vm_Cl (d + 0)) vp_35 6 2 false none (rV r) 7 lv [] M) {lv : vm_L} (l0 : (0, .ref (x0)) ∈ lv) (l1 : (1, .int (x1)) ∈ lv) (h : f35_j83 k99 k7 x0 x1 M = some r) : Ev 0 (fun _ => 0) (vm_Cl (d + 0)) vp_35 6 2 false none (rV r) 83 lv [] M := by
  unfold f35_j83 at h
  refine ev_aload_nR (mm 44 rfl) l0 ?_
  refine ev_dupR (mm 45 rfl) ?_
  obtain ⟨v30, e31, h⟩ := bind_so h
  refine ev_get_i (mm 46 rfl) rfl e31 ?_
  refine ev_iconst (mm 47 rfl) cI_1 ?_
  refine ev_iadd (mm 48 rfl) ?_
  obtain ⟨M32, e33, h⟩ := bind_so h
  refine ev_put_i (mm 49 rfl) (fun z => by cases z) rfl e33 ?_
  refine evs_iinc (mm 50 rfl) cI_1 l1 (by decide) (fun lv34 l1 s35 => ?_)
  have l0 := s35 _ _ l0 rfl
  refine ev_goto 7 (mm 51 rfl) rfl ?_
  exact hk7 l0 l1 h
def f35_l7 (x0 : Nat) (k99 : vm_M → Option (vm_M)) : Nat → Int32 → vm_M → Option (vm_M)
  | 0 => fun _ _ => none
  | n + 1 => fun x1 M =>
    if 700 ≤ x1 then
      k99 M
    else
      (sg_i M x0 6 11).bind fun v6 =>
      (sg_i M x0 6 10).bind fun v8 =>
      if v8 ≤ v6 then
        k99 M
      else
        (sg_r M x0 6 9).bind fun v11 =>
        (sg_i M x0 6 11).bind fun v13 =>
        (v11).bind fun q15 =>
        (sa_i M q15 0 v13).bind fun v17 =>
        if v17 < 48 then
          k99 M
        else
          (sg_r M x0 6 9).bind fun v20 =>
          (sg_i M x0 6 11).bind fun v22 =>
          (v20).bind fun q24 =>
          (sa_i M q24 0 v22).bind fun v26 =>
          if 57 < v26 then
            k99 M
          else
            if 7 ≤ x1 then
              f35_j83 k99 (f35_l7 x0 k99 n) x0 x1 M
            else
              (sg_i M x0 6 14).bind fun v36 =>
              (sg_r M x0 6 9).bind fun v38 =>
              (sg_i M x0 6 11).bind fun v40 =>
              (v38).bind fun q42 =>
              (sa_i M q42 0 v40).bind fun v44 =>
              (sp_i M x0 6 14 (((v36 * 10) + v44) - 48)).bind fun M46 =>
              f35_j83 k99 (f35_l7 x0 k99 n) x0 x1 M46
theorem f35_l7_ok {d : Nat} {x0 : Nat} {k99 : vm_M → Option (vm_M)} {r : vm_M} (hk99 : ∀ {M : vm_M} {lv : vm_L}, (0, .ref (x0)) ∈ lv → k99 M = some r → Ev 0 (fun _ => 0) (vm_Cl (d + 0)) vp_35 6 2 false none (rV r) 99 lv [] M) : ∀ (n : Nat) {x1 : Int32} {M : vm_M} {lv : vm_L}, (0, .ref (x0)) ∈ lv → (1, .int (x1)) ∈ lv → f35_l7 x0 k99 n x1 M = some r → Ev 0 (fun _ => 0) (vm_Cl (d + 0)) vp_35 6 2 false none (rV r) 7 lv [] M := by
  intro n
  induction n with
  | zero =>
    intro x1 M lv l0 l1 h
    cases h
  | succ n ih =>
    intro x1 M lv l0 l1 h
    dsimp only [f35_l7] at h
    refine ev_iload_n (mm 5 rfl) l1 ?_
    refine ev_sipush (mm 6 rfl) cS_700 ?_
    rcases ite_so h with ⟨c5, h⟩ | ⟨c5, h⟩
    · refine ev_ic_t 99 (mm 7 rfl) rfl c5 ?_
      exact hk99 l0 h
    · refine ev_ic_f 99 (mm 7 rfl) rfl c5 ?_
      refine ev_aload_nR (mm 8 rfl) l0 ?_
      obtain ⟨v6, e7, h⟩ := bind_so h
      refine ev_get_i (mm 9 rfl) rfl e7 ?_
      refine ev_aload_nR (mm 10 rfl) l0 ?_
      obtain ⟨v8, e9, h⟩ := bind_so h
      refine ev_get_i (mm 11 rfl) rfl e9 ?_
      rcases ite_so h with ⟨c10, h⟩ | ⟨c10, h⟩
      · refine ev_ic_t 99 (mm 12 rfl) rfl c10 ?_
        exact hk99 l0 h
      · refine ev_ic_f 99 (mm 12 rfl) rfl c10 ?_
        refine ev_aload_nR (mm 13 rfl) l0 ?_
        obtain ⟨v11, e12, h⟩ := bind_so h
        refine ev_get_r (mm 14 rfl) rfl e12 ?_
        refine ev_aload_nR (mm 15 rfl) l0 ?_
        obtain ⟨v13, e14, h⟩ := bind_so h
        refine ev_get_i (mm 16 rfl) rfl e14 ?_
        obtain ⟨q15, e16, h⟩ := bind_so h
        rw [e16]
        obtain ⟨v17, e18, h⟩ := bind_so h
        refine ev_iaload (mm 17 rfl) e18 ?_
        refine ev_bipush (mm 18 rfl) cB_48 ?_
        rcases ite_so h with ⟨c19, h⟩ | ⟨c19, h⟩
        · refine ev_ic_t 99 (mm 19 rfl) rfl c19 ?_
          exact hk99 l0 h
        · refine ev_ic_f 99 (mm 19 rfl) rfl c19 ?_
          refine ev_aload_nR (mm 20 rfl) l0 ?_
          obtain ⟨v20, e21, h⟩ := bind_so h
          refine ev_get_r (mm 21 rfl) rfl e21 ?_
          refine ev_aload_nR (mm 22 rfl) l0 ?_
          obtain ⟨v22, e23, h⟩ := bind_so h
          refine ev_get_i (mm 23 rfl) rfl e23 ?_
          obtain ⟨q24, e25, h⟩ := bind_so h
          rw [e25]
          obtain ⟨v26, e27, h⟩ := bind_so h
          refine ev_iaload (mm 24 rfl) e27 ?_
          refine ev_bipush (mm 25 rfl) cB_57 ?_
          rcases ite_so h with ⟨c28, h⟩ | ⟨c28, h⟩
          · refine ev_ic_t 99 (mm 26 rfl) rfl c28 ?_
            exact hk99 l0 h
          · refine ev_ic_f 99 (mm 26 rfl) rfl c28 ?_
            refine ev_iload_n (mm 27 rfl) l1 ?_
            refine ev_bipush (mm 28 rfl) cB_7 ?_
            rcases ite_so h with ⟨c29, h⟩ | ⟨c29, h⟩
            · refine ev_ic_t 83 (mm 29 rfl) rfl c29 ?_
              exact f35_j83_ok hk99 ih l0 l1 h
            · refine ev_ic_f 83 (mm 29 rfl) rfl c29 ?_
              refine ev_aload_nR (mm 30 rfl) l0 ?_
              refine ev_aload_nR (mm 31 rfl) l0 ?_
              obtain ⟨v36, e37, h⟩ := bind_so h
              refine ev_get_i (mm 32 rfl) rfl e37 ?_
              refine ev_bipush (mm 33 rfl) cB_10 ?_
              refine ev_imul (mm 34 rfl) ?_
              refine ev_aload_nR (mm 35 rfl) l0 ?_
              obtain ⟨v38, e39, h⟩ := bind_so h
              refine ev_get_r (mm 36 rfl) rfl e39 ?_
              refine ev_aload_nR (mm 37 rfl) l0 ?_
              obtain ⟨v40, e41, h⟩ := bind_so h
              refine ev_get_i (mm 38 rfl) rfl e41 ?_
              obtain ⟨q42, e43, h⟩ := bind_so h
              rw [e43]
              obtain ⟨v44, e45, h⟩ := bind_so h
              refine ev_iaload (mm 39 rfl) e45 ?_
              refine ev_iadd (mm 40 rfl) ?_
              refine ev_bipush (mm 41 rfl) cB_48 ?_
              refine ev_isub (mm 42 rfl) ?_
              obtain ⟨M46, e47, h⟩ := bind_so h
              refine ev_put_i (mm 43 rfl) (fun z => by cases z) rfl e47 ?_
              exact f35_j83_ok hk99 ih l0 l1 h
def f35_j99 (x0 : Nat) (M : vm_M) : Option (vm_M) :=
  (sg_i M x0 6 11).bind fun v49 =>
  (sg_i M x0 6 12).bind fun v51 =>
  if (v49 - v51) ≤ 7 then
    (sp_i M x0 6 13 281).bind fun M54 =>
    some M54
  else
    (sp_i M x0 6 13 283).bind fun M56 =>
    some M56
theorem f35_j99_ok {d : Nat} {x0 : Nat} {M : vm_M} {r : vm_M} {lv : vm_L} (l0 : (0, .ref (x0)) ∈ lv) (h : f35_j99 x0 M = some r) : Ev 0 (fun _ => 0) (vm_Cl (d + 0)) vp_35 6 2 false none (rV r) 99 lv [] M := by
  unfold f35_j99 at h
  refine ev_aload_nR (mm 52 rfl) l0 ?_
  refine ev_aload_nR (mm 53 rfl) l0 ?_
  obtain ⟨v49, e50, h⟩ := bind_so h
  refine ev_get_i (mm 54 rfl) rfl e50 ?_
  refine ev_aload_nR (mm 55 rfl) l0 ?_
  obtain ⟨v51, e52, h⟩ := bind_so h
  refine ev_get_i (mm 56 rfl) rfl e52 ?_
  refine ev_isub (mm 57 rfl) ?_
  refine ev_bipush (mm 58 rfl) cB_7 ?_
  rcases ite_so h with ⟨c53, h⟩ | ⟨c53, h⟩
  · refine ev_ic_t 120 (mm 59 rfl) rfl c53 ?_
    refine ev_sipush (mm 62 rfl) cS_281 ?_
    obtain ⟨M54, e55, h⟩ := bind_so h
    refine ev_put_i (mm 63 rfl) (fun z => by cases z) rfl e55 ?_
    exact ev_return (mm 64 rfl) h
  · refine ev_ic_f 120 (mm 59 rfl) rfl c53 ?_
    refine ev_sipush (mm 60 rfl) cS_283 ?_
    refine ev_goto 123 (mm 61 rfl) rfl ?_
    obtain ⟨M56, e57, h⟩ := bind_so h
    refine ev_put_i (mm 63 rfl) (fun z => by cases z) rfl e57 ?_
    exact ev_return (mm 64 rfl) h
/-- PupilCoin$Reader.nextNumber()V -/
def f35 (x0 : Nat) (M : vm_M) : Option (vm_M) :=
  (sp_i M x0 6 14 0).bind fun M1 =>
  f35_l7 x0
    (fun M48 =>
      f35_j99 x0 M48)
    100000 0 M1
theorem f35_ok {x0 : Nat} {M : vm_M} {r : vm_M} (h : f35 x0 M = some r) (d : Nat) : vm_Cl (d + 1) 35 [.ref (x0)] M (rV r) := by
  have key : Ev 0 (fun _ => 0) (vm_Cl (d + 0)) vp_35 6 2 false none (rV r) 0 (lv_args 0 [.ref (x0)]) [] M := by
    have l0 : (0, .ref (x0)) ∈ lv_args 0 [.ref (x0)] := List.Mem.head _
    unfold f35 at h
    refine ev_aload_nR (mm 0 rfl) l0 ?_
    refine ev_iconst (mm 1 rfl) cI_0 ?_
    obtain ⟨M1, e2, h⟩ := bind_so h
    refine ev_put_i (mm 2 rfl) (fun z => by cases z) rfl e2 ?_
    refine ev_iconst (mm 3 rfl) cI_0 ?_
    refine evs_istore_n (mm 4 rfl) (by decide) (fun lv3 l1 s4 => ?_)
    have l0 := s4 _ _ l0 rfl
    refine f35_l7_ok ?_ 100000 l0 l1 h
    · intro M48 lv l0
      intro h
      exact f35_j99_ok l0 h
  exact ⟨by decide, Nat.le_of_ble_eq_true rfl, key.1, key.2⟩
/-- PupilCoin$Reader.isSign(I)Z -/
def f36 (x0 : Int32) (M : vm_M) : Option (Int32 × vm_M) :=
  if x0 = 40 then
    s_rb 1 M
  else if x0 = 41 then
    s_rb 1 M
  else if x0 = 42 then
    s_rb 1 M
  else if x0 = 43 then
    s_rb 1 M
  else if x0 = 44 then
    s_rb 1 M
  else if x0 = 45 then
    s_rb 1 M
  else if x0 = 47 then
    s_rb 1 M
  else if x0 = 59 then
    s_rb 1 M
  else if x0 = 60 then
    s_rb 1 M
  else if x0 = 61 then
    s_rb 1 M
  else if x0 = 62 then
    s_rb 1 M
  else if x0 = 123 then
    s_rb 1 M
  else if x0 = 125 then
    s_rb 1 M
  else 
    s_rb 0 M
theorem f36_ok {x0 : Int32} {M : vm_M} {r : Int32 × vm_M} (h : f36 x0 M = some r) (d : Nat) : vm_Cl (d + 1) 36 [.int (x0)] M (rI r) := by
  have key : Ev 0 (fun _ => 0) (vm_Cl (d + 0)) vp_36 6 1 false (some (.boolean)) (rI r) 0 (lv_args 0 [.int (x0)]) [] M := by
    have l0 : (0, .int (x0)) ∈ lv_args 0 [.int (x0)] := List.Mem.head _
    unfold f36 at h
    refine ev_iload_n (mm 0 rfl) l0 ?_
    rcases ite_so h with ⟨c1, h⟩ | ⟨c1, h⟩
    · refine ev_lsw (off := 115) 116 (mm 1 rfl) rfl (by rw [c1]; rfl) rfl ?_
      refine ev_iconst (mm 2 rfl) cI_1 ?_
      exact ev_zreturn (mm 3 rfl) h
    rcases ite_so h with ⟨c2, h⟩ | ⟨c2, h⟩
    · refine ev_lsw (off := 115) 116 (mm 1 rfl) rfl (by rw [c2]; rfl) rfl ?_
      refine ev_iconst (mm 2 rfl) cI_1 ?_
      exact ev_zreturn (mm 3 rfl) h
    rcases ite_so h with ⟨c3, h⟩ | ⟨c3, h⟩
    · refine ev_lsw (off := 115) 116 (mm 1 rfl) rfl (by rw [c3]; rfl) rfl ?_
      refine ev_iconst (mm 2 rfl) cI_1 ?_
      exact ev_zreturn (mm 3 rfl) h
    rcases ite_so h with ⟨c4, h⟩ | ⟨c4, h⟩
    · refine ev_lsw (off := 115) 116 (mm 1 rfl) rfl (by rw [c4]; rfl) rfl ?_
      refine ev_iconst (mm 2 rfl) cI_1 ?_
      exact ev_zreturn (mm 3 rfl) h
    rcases ite_so h with ⟨c5, h⟩ | ⟨c5, h⟩
    · refine ev_lsw (off := 115) 116 (mm 1 rfl) rfl (by rw [c5]; rfl) rfl ?_
      refine ev_iconst (mm 2 rfl) cI_1 ?_
      exact ev_zreturn (mm 3 rfl) h
    rcases ite_so h with ⟨c6, h⟩ | ⟨c6, h⟩
    · refine ev_lsw (off := 115) 116 (mm 1 rfl) rfl (by rw [c6]; rfl) rfl ?_
      refine ev_iconst (mm 2 rfl) cI_1 ?_
      exact ev_zreturn (mm 3 rfl) h
    rcases ite_so h with ⟨c7, h⟩ | ⟨c7, h⟩
    · refine ev_lsw (off := 115) 116 (mm 1 rfl) rfl (by rw [c7]; rfl) rfl ?_
      refine ev_iconst (mm 2 rfl) cI_1 ?_
      exact ev_zreturn (mm 3 rfl) h
    rcases ite_so h with ⟨c8, h⟩ | ⟨c8, h⟩
    · refine ev_lsw (off := 115) 116 (mm 1 rfl) rfl (by rw [c8]; rfl) rfl ?_
      refine ev_iconst (mm 2 rfl) cI_1 ?_
      exact ev_zreturn (mm 3 rfl) h
    rcases ite_so h with ⟨c9, h⟩ | ⟨c9, h⟩
    · refine ev_lsw (off := 115) 116 (mm 1 rfl) rfl (by rw [c9]; rfl) rfl ?_
      refine ev_iconst (mm 2 rfl) cI_1 ?_
      exact ev_zreturn (mm 3 rfl) h
    rcases ite_so h with ⟨c10, h⟩ | ⟨c10, h⟩
    · refine ev_lsw (off := 115) 116 (mm 1 rfl) rfl (by rw [c10]; rfl) rfl ?_
      refine ev_iconst (mm 2 rfl) cI_1 ?_
      exact ev_zreturn (mm 3 rfl) h
    rcases ite_so h with ⟨c11, h⟩ | ⟨c11, h⟩
    · refine ev_lsw (off := 115) 116 (mm 1 rfl) rfl (by rw [c11]; rfl) rfl ?_
      refine ev_iconst (mm 2 rfl) cI_1 ?_
      exact ev_zreturn (mm 3 rfl) h
    rcases ite_so h with ⟨c12, h⟩ | ⟨c12, h⟩
    · refine ev_lsw (off := 115) 116 (mm 1 rfl) rfl (by rw [c12]; rfl) rfl ?_
      refine ev_iconst (mm 2 rfl) cI_1 ?_
      exact ev_zreturn (mm 3 rfl) h
    rcases ite_so h with ⟨c13, h⟩ | ⟨c13, h⟩
    · refine ev_lsw (off := 115) 116 (mm 1 rfl) rfl (by rw [c13]; rfl) rfl ?_
      refine ev_iconst (mm 2 rfl) cI_1 ?_
      exact ev_zreturn (mm 3 rfl) h
    refine ev_lsw (off := 117) 118 (mm 1 rfl) rfl ((lv_osw c1 rfl).trans ((lv_osw c2 rfl).trans ((lv_osw c3 rfl).trans ((lv_osw c4 rfl).trans ((lv_osw c5 rfl).trans ((lv_osw c6 rfl).trans ((lv_osw c7 rfl).trans ((lv_osw c8 rfl).trans ((lv_osw c9 rfl).trans ((lv_osw c10 rfl).trans ((lv_osw c11 rfl).trans ((lv_osw c12 rfl).trans ((lv_osw c13 rfl).trans (rfl)))))))))))))) rfl ?_
    refine ev_iconst (mm 4 rfl) cI_0 ?_
    exact ev_zreturn (mm 5 rfl) h
  exact ⟨by decide, Nat.le_of_ble_eq_true rfl, key.1, key.2⟩
def f33_j67 (k83 : vm_M → Option (vm_M)) (k21 : Int32 → vm_M → Option (vm_M)) (x0 : Nat) (x1 : Int32) (M : vm_M) : Option (vm_M) :=
  (sg_i M x0 6 11).bind fun v21 =>
  (sp_i M x0 6 11 (v21 + 1)).bind fun M23 =>
  k21 (x1 + 1) M23
theorem f33_j67_ok {d : Nat} {x0 : Nat} {x1 : Int32} {M : vm_M} {k83 : vm_M → Option (vm_M)} {k21 : Int32 → vm_M → Option (vm_M)} {r : vm_M} (hk83 : ∀ {M : vm_M} {lv : vm_L}, (0, .ref (x0)) ∈ lv → k83 M = some r → Ev 0 (fun _ => 0) (vm_Cl (d + 1)) vp_33 6 2 false none (rV r) 83 lv [] M) (hk21 : ∀ {y1 : Int32} {M : vm_M} {lv : vm_L}, (0, .ref (x0)) ∈ lv → (1, .int (y1)) ∈ lv → k21 y1 M = some r → Ev 0 (fun _ => 0) (vm_Cl (d + 1)) vp_33 6 2 false none (rV r) 21 lv [] M) {lv : vm_L} (l0 : (0, .ref (x0)) ∈ lv) (l1 : (1, .int (x1)) ∈ lv) (h : f33_j67 k83 k21 x0 x1 M = some r) : Ev 0 (fun _ => 0) (vm_Cl (d + 1)) vp_33 6 2 false none (rV r) 67 lv [] M := by
  unfold f33_j67 at h
  refine ev_aload_nR (mm 33 rfl) l0 ?_
  refine ev_dupR (mm 34 rfl) ?_
  obtain ⟨v21, e22, h⟩ := bind_so h
  refine ev_get_i (mm 35 rfl) rfl e22 ?_
  refine ev_iconst (mm 36 rfl) cI_1 ?_
  refine ev_iadd (mm 37 rfl) ?_
  obtain ⟨M23, e24, h⟩ := bind_so h
  refine ev_put_i (mm 38 rfl) (fun z => by cases z) rfl e24 ?_
  refine evs_iinc (mm 39 rfl) cI_1 l1 (by decide) (fun lv25 l1 s26 => ?_)
  have l0 := s26 _ _ l0 rfl
  refine ev_goto 21 (mm 40 rfl) rfl ?_
  exact hk21 l0 l1 h
def f33_l21 (x0 : Nat) (k83 : vm_M → Option (vm_M)) : Nat → Int32 → vm_M → Option (vm_M)
  | 0 => fun _ _ => none
  | n + 1 => fun x1 M =>
    if 700 ≤ x1 then
      k83 M
    else
      (sg_i M x0 6 11).bind fun v7 =>
      (sg_i M x0 6 10).bind fun v9 =>
      if v9 ≤ v7 then
        k83 M
      else
        (sg_r M x0 6 9).bind fun v12 =>
        (sg_i M x0 6 11).bind fun v14 =>
        (v12).bind fun q16 =>
        (sa_i M q16 0 v14).bind fun v18 =>
        if v18 = 32 then
          f33_j67 k83 (f33_l21 x0 k83 n) x0 x1 M
        else
          (sg_r M x0 6 9).bind fun v27 =>
          (sg_i M x0 6 11).bind fun v29 =>
          (v27).bind fun q31 =>
          (sa_i M q31 0 v29).bind fun v33 =>
          if ¬ v33 = 10 then
            k83 M
          else
            f33_j67 k83 (f33_l21 x0 k83 n) x0 x1 M
theorem f33_l21_ok {d : Nat} {x0 : Nat} {k83 : vm_M → Option (vm_M)} {r : vm_M} (hk83 : ∀ {M : vm_M} {lv : vm_L}, (0, .ref (x0)) ∈ lv → k83 M = some r → Ev 0 (fun _ => 0) (vm_Cl (d + 1)) vp_33 6 2 false none (rV r) 83 lv [] M) : ∀ (n : Nat) {x1 : Int32} {M : vm_M} {lv : vm_L}, (0, .ref (x0)) ∈ lv → (1, .int (x1)) ∈ lv → f33_l21 x0 k83 n x1 M = some r → Ev 0 (fun _ => 0) (vm_Cl (d + 1)) vp_33 6 2 false none (rV r) 21 lv [] M := by
  intro n
  induction n with
  | zero =>
    intro x1 M lv l0 l1 h
    cases h
  | succ n ih =>
    intro x1 M lv l0 l1 h
    dsimp only [f33_l21] at h
    refine ev_iload_n (mm 11 rfl) l1 ?_
    refine ev_sipush (mm 12 rfl) cS_700 ?_
    rcases ite_so h with ⟨c6, h⟩ | ⟨c6, h⟩
    · refine ev_ic_t 83 (mm 13 rfl) rfl c6 ?_
      exact hk83 l0 h
    · refine ev_ic_f 83 (mm 13 rfl) rfl c6 ?_
      refine ev_aload_nR (mm 14 rfl) l0 ?_
      obtain ⟨v7, e8, h⟩ := bind_so h
      refine ev_get_i (mm 15 rfl) rfl e8 ?_
      refine ev_aload_nR (mm 16 rfl) l0 ?_
      obtain ⟨v9, e10, h⟩ := bind_so h
      refine ev_get_i (mm 17 rfl) rfl e10 ?_
      rcases ite_so h with ⟨c11, h⟩ | ⟨c11, h⟩
      · refine ev_ic_t 83 (mm 18 rfl) rfl c11 ?_
        exact hk83 l0 h
      · refine ev_ic_f 83 (mm 18 rfl) rfl c11 ?_
        refine ev_aload_nR (mm 19 rfl) l0 ?_
        obtain ⟨v12, e13, h⟩ := bind_so h
        refine ev_get_r (mm 20 rfl) rfl e13 ?_
        refine ev_aload_nR (mm 21 rfl) l0 ?_
        obtain ⟨v14, e15, h⟩ := bind_so h
        refine ev_get_i (mm 22 rfl) rfl e15 ?_
        obtain ⟨q16, e17, h⟩ := bind_so h
        rw [e17]
        obtain ⟨v18, e19, h⟩ := bind_so h
        refine ev_iaload (mm 23 rfl) e19 ?_
        refine ev_bipush (mm 24 rfl) cB_32 ?_
        rcases ite_so h with ⟨c20, h⟩ | ⟨c20, h⟩
        · refine ev_ic_t 67 (mm 25 rfl) rfl c20 ?_
          exact f33_j67_ok hk83 ih l0 l1 h
        · refine ev_ic_f 67 (mm 25 rfl) rfl c20 ?_
          refine ev_aload_nR (mm 26 rfl) l0 ?_
          obtain ⟨v27, e28, h⟩ := bind_so h
          refine ev_get_r (mm 27 rfl) rfl e28 ?_
          refine ev_aload_nR (mm 28 rfl) l0 ?_
          obtain ⟨v29, e30, h⟩ := bind_so h
          refine ev_get_i (mm 29 rfl) rfl e30 ?_
          obtain ⟨q31, e32, h⟩ := bind_so h
          rw [e32]
          obtain ⟨v33, e34, h⟩ := bind_so h
          refine ev_iaload (mm 30 rfl) e34 ?_
          refine ev_bipush (mm 31 rfl) cB_10 ?_
          rcases ite_so h with ⟨c35, h⟩ | ⟨c35, h⟩
          · refine ev_ic_t 83 (mm 32 rfl) rfl c35 ?_
            exact hk83 l0 h
          · refine ev_ic_f 83 (mm 32 rfl) rfl c35 ?_
            exact f33_j67_ok hk83 ih l0 l1 h
def f33_j158 (x0 : Nat) (x1 : Int32) (M : vm_M) : Option (vm_M) :=
  (sg_i M x0 6 11).bind fun v58 =>
  (sp_i M x0 6 11 (v58 + 1)).bind fun M60 =>
  (f36 x1 M60).bind fun p62 =>
  if p62.1 = 0 then
    (sp_i p62.2 x0 6 13 283).bind fun M65 =>
    some M65
  else
    (sp_i p62.2 x0 6 13 x1).bind fun M67 =>
    some M67
theorem f33_j158_ok {d : Nat} {x0 : Nat} {x1 : Int32} {M : vm_M} {r : vm_M} {lv : vm_L} (l0 : (0, .ref (x0)) ∈ lv) (l1 : (1, .int (x1)) ∈ lv) (h : f33_j158 x0 x1 M = some r) : Ev 0 (fun _ => 0) (vm_Cl (d + 1)) vp_33 6 2 false none (rV r) 158 lv [] M := by
  unfold f33_j158 at h
  refine ev_aload_nR (mm 78 rfl) l0 ?_
  refine ev_dupR (mm 79 rfl) ?_
  obtain ⟨v58, e59, h⟩ := bind_so h
  refine ev_get_i (mm 80 rfl) rfl e59 ?_
  refine ev_iconst (mm 81 rfl) cI_1 ?_
  refine ev_iadd (mm 82 rfl) ?_
  obtain ⟨M60, e61, h⟩ := bind_so h
  refine ev_put_i (mm 83 rfl) (fun z => by cases z) rfl e61 ?_
  refine ev_aload_nR (mm 84 rfl) l0 ?_
  refine ev_iload_n (mm 85 rfl) l1 ?_
  obtain ⟨p62, e63, h⟩ := bind_so h
  refine ev_callS_I [.int (x1)] (mm 86 rfl) (by decide) rfl rfl (Nat.le_of_ble_eq_true rfl) (f36_ok e63 (d + 0)) ?_
  rcases ite_so h with ⟨c64, h⟩ | ⟨c64, h⟩
  · refine ev_if_t 180 (mm 87 rfl) rfl c64 ?_
    refine ev_sipush (mm 90 rfl) cS_283 ?_
    obtain ⟨M65, e66, h⟩ := bind_so h
    refine ev_put_i (mm 91 rfl) (fun z => by cases z) rfl e66 ?_
    exact ev_return (mm 92 rfl) h
  · refine ev_if_f 180 (mm 87 rfl) rfl c64 ?_
    refine ev_iload_n (mm 88 rfl) l1 ?_
    refine ev_goto 183 (mm 89 rfl) rfl ?_
    obtain ⟨M67, e68, h⟩ := bind_so h
    refine ev_put_i (mm 91 rfl) (fun z => by cases z) rfl e68 ?_
    exact ev_return (mm 92 rfl) h
def f33_j139 (x0 : Nat) (x1 : Int32) (M : vm_M) : Option (vm_M) :=
  if x1 < 48 then
    f33_j158 x0 x1 M
  else
    if 57 < x1 then
      f33_j158 x0 x1 M
    else
      (s_ob M x0 6).bind fun _ =>
      (f35 x0 M).bind fun p70 =>
      some p70
theorem f33_j139_ok {d : Nat} {x0 : Nat} {x1 : Int32} {M : vm_M} {r : vm_M} {lv : vm_L} (l0 : (0, .ref (x0)) ∈ lv) (l1 : (1, .int (x1)) ∈ lv) (h : f33_j139 x0 x1 M = some r) : Ev 0 (fun _ => 0) (vm_Cl (d + 1)) vp_33 6 2 false none (rV r) 139 lv [] M := by
  unfold f33_j139 at h
  refine ev_iload_n (mm 69 rfl) l1 ?_
  refine ev_bipush (mm 70 rfl) cB_48 ?_
  rcases ite_so h with ⟨c57, h⟩ | ⟨c57, h⟩
  · refine ev_ic_t 158 (mm 71 rfl) rfl c57 ?_
    exact f33_j158_ok l0 l1 h
  · refine ev_ic_f 158 (mm 71 rfl) rfl c57 ?_
    refine ev_iload_n (mm 72 rfl) l1 ?_
    refine ev_bipush (mm 73 rfl) cB_57 ?_
    rcases ite_so h with ⟨c69, h⟩ | ⟨c69, h⟩
    · refine ev_ic_t 158 (mm 74 rfl) rfl c69 ?_
      exact f33_j158_ok l0 l1 h
    · refine ev_ic_f 158 (mm 74 rfl) rfl c69 ?_
      refine ev_aload_nR (mm 75 rfl) l0 ?_
      obtain ⟨_, e72, h⟩ := bind_so h
      obtain ⟨p70, e71, h⟩ := bind_so h
      refine ev_callV_V [] (mm 76 rfl) rfl rfl (Nat.le_of_ble_eq_true rfl) (s_ob_of e72) (f35_ok e71 (d + 0)) ?_
      refine ev_goto 186 (mm 77 rfl) rfl ?_
      exact ev_return (mm 92 rfl) h
def f33_j83 (x0 : Nat) (M : vm_M) : Option (vm_M) :=
  (sg_i M x0 6 11).bind fun v37 =>
  (sp_i M x0 6 12 v37).bind fun M39 =>
  (sg_i M39 x0 6 11).bind fun v41 =>
  (sg_i M39 x0 6 10).bind fun v43 =>
  if v41 < v43 then
    (sg_r M39 x0 6 9).bind fun v46 =>
    (sg_i M39 x0 6 11).bind fun v48 =>
    (v46).bind fun q50 =>
    (sa_i M39 q50 0 v48).bind fun v52 =>
    if v52 < 97 then
      f33_j139 x0 v52 M39
    else
      if 122 < v52 then
        f33_j139 x0 v52 M39
      else
        (s_ob M39 x0 6).bind fun _ =>
        (f34 x0 M39).bind fun p74 =>
        some p74
  else
    (sp_i M39 x0 6 13 282).bind fun M77 =>
    some M77
theorem f33_j83_ok {d : Nat} {x0 : Nat} {M : vm_M} {r : vm_M} {lv : vm_L} (l0 : (0, .ref (x0)) ∈ lv) (h : f33_j83 x0 M = some r) : Ev 0 (fun _ => 0) (vm_Cl (d + 1)) vp_33 6 2 false none (rV r) 83 lv [] M := by
  unfold f33_j83 at h
  refine ev_aload_nR (mm 41 rfl) l0 ?_
  refine ev_aload_nR (mm 42 rfl) l0 ?_
  obtain ⟨v37, e38, h⟩ := bind_so h
  refine ev_get_i (mm 43 rfl) rfl e38 ?_
  obtain ⟨M39, e40, h⟩ := bind_so h
  refine ev_put_i (mm 44 rfl) (fun z => by cases z) rfl e40 ?_
  refine ev_aload_nR (mm 45 rfl) l0 ?_
  obtain ⟨v41, e42, h⟩ := bind_so h
  refine ev_get_i (mm 46 rfl) rfl e42 ?_
  refine ev_aload_nR (mm 47 rfl) l0 ?_
  obtain ⟨v43, e44, h⟩ := bind_so h
  refine ev_get_i (mm 48 rfl) rfl e44 ?_
  rcases ite_so h with ⟨c45, h⟩ | ⟨c45, h⟩
  · refine ev_ic_t 110 (mm 49 rfl) rfl c45 ?_
    refine ev_aload_nR (mm 54 rfl) l0 ?_
    obtain ⟨v46, e47, h⟩ := bind_so h
    refine ev_get_r (mm 55 rfl) rfl e47 ?_
    refine ev_aload_nR (mm 56 rfl) l0 ?_
    obtain ⟨v48, e49, h⟩ := bind_so h
    refine ev_get_i (mm 57 rfl) rfl e49 ?_
    obtain ⟨q50, e51, h⟩ := bind_so h
    rw [e51]
    obtain ⟨v52, e53, h⟩ := bind_so h
    refine ev_iaload (mm 58 rfl) e53 ?_
    refine evs_istore_n (mm 59 rfl) (by decide) (fun lv54 l1 s55 => ?_)
    have l0 := s55 _ _ l0 rfl
    refine ev_iload_n (mm 60 rfl) l1 ?_
    refine ev_bipush (mm 61 rfl) cB_97 ?_
    rcases ite_so h with ⟨c56, h⟩ | ⟨c56, h⟩
    · refine ev_ic_t 139 (mm 62 rfl) rfl c56 ?_
      exact f33_j139_ok l0 l1 h
    · refine ev_ic_f 139 (mm 62 rfl) rfl c56 ?_
      refine ev_iload_n (mm 63 rfl) l1 ?_
      refine ev_bipush (mm 64 rfl) cB_122 ?_
      rcases ite_so h with ⟨c73, h⟩ | ⟨c73, h⟩
      · refine ev_ic_t 139 (mm 65 rfl) rfl c73 ?_
        exact f33_j139_ok l0 l1 h
      · refine ev_ic_f 139 (mm 65 rfl) rfl c73 ?_
        refine ev_aload_nR (mm 66 rfl) l0 ?_
        obtain ⟨_, e76, h⟩ := bind_so h
        obtain ⟨p74, e75, h⟩ := bind_so h
        refine ev_callV_V [] (mm 67 rfl) rfl rfl (Nat.le_of_ble_eq_true rfl) (s_ob_of e76) (f34_ok e75 (d + 0)) ?_
        refine ev_goto 186 (mm 68 rfl) rfl ?_
        exact ev_return (mm 92 rfl) h
  · refine ev_ic_f 110 (mm 49 rfl) rfl c45 ?_
    refine ev_aload_nR (mm 50 rfl) l0 ?_
    refine ev_sipush (mm 51 rfl) cS_282 ?_
    obtain ⟨M77, e78, h⟩ := bind_so h
    refine ev_put_i (mm 52 rfl) (fun z => by cases z) rfl e78 ?_
    exact ev_return (mm 53 rfl) h
/-- PupilCoin$Reader.next()V -/
def f33 (x0 : Nat) (M : vm_M) : Option (vm_M) :=
  (sg_i M x0 6 13).bind fun v1 =>
  if ¬ v1 = 283 then
    f33_l21 x0
      (fun M36 =>
        f33_j83 x0 M36)
      100000 0 M
  else
    (sg_i M x0 6 16).bind fun v79 =>
    if v79 = (-1) then
      f33_l21 x0
        (fun M84 =>
          f33_j83 x0 M84)
        100000 0 M
    else
      some M
theorem f33_ok {x0 : Nat} {M : vm_M} {r : vm_M} (h : f33 x0 M = some r) (d : Nat) : vm_Cl (d + 2) 33 [.ref (x0)] M (rV r) := by
  have key : Ev 0 (fun _ => 0) (vm_Cl (d + 1)) vp_33 6 2 false none (rV r) 0 (lv_args 0 [.ref (x0)]) [] M := by
    have l0 : (0, .ref (x0)) ∈ lv_args 0 [.ref (x0)] := List.Mem.head _
    unfold f33 at h
    refine ev_aload_nR (mm 0 rfl) l0 ?_
    obtain ⟨v1, e2, h⟩ := bind_so h
    refine ev_get_i (mm 1 rfl) rfl e2 ?_
    refine ev_sipush (mm 2 rfl) cS_283 ?_
    rcases ite_so h with ⟨c3, h⟩ | ⟨c3, h⟩
    · refine ev_ic_t 19 (mm 3 rfl) rfl c3 ?_
      refine ev_iconst (mm 9 rfl) cI_0 ?_
      refine evs_istore_n (mm 10 rfl) (by decide) (fun lv4 l1 s5 => ?_)
      have l0 := s5 _ _ l0 rfl
      refine f33_l21_ok ?_ 100000 l0 l1 h
      · intro M36 lv l0
        intro h
        exact f33_j83_ok l0 h
    · refine ev_ic_f 19 (mm 3 rfl) rfl c3 ?_
      refine ev_aload_nR (mm 4 rfl) l0 ?_
      obtain ⟨v79, e80, h⟩ := bind_so h
      refine ev_get_i (mm 5 rfl) rfl e80 ?_
      refine ev_iconst (mm 6 rfl) cI_m1 ?_
      rcases ite_so h with ⟨c81, h⟩ | ⟨c81, h⟩
      · refine ev_ic_t 19 (mm 7 rfl) rfl c81 ?_
        refine ev_iconst (mm 9 rfl) cI_0 ?_
        refine evs_istore_n (mm 10 rfl) (by decide) (fun lv82 l1 s83 => ?_)
        have l0 := s83 _ _ l0 rfl
        refine f33_l21_ok ?_ 100000 l0 l1 h
        · intro M84 lv l0
          intro h
          exact f33_j83_ok l0 h
      · refine ev_ic_f 19 (mm 7 rfl) rfl c81 ?_
        exact ev_return (mm 8 rfl) h
  exact ⟨by decide, Nat.le_of_ble_eq_true rfl, key.1, key.2⟩
/-- PupilCoin$Reader.expect(I)V -/
def f37 (x0 : Nat) (x1 : Int32) (M : vm_M) : Option (vm_M) :=
  (sg_i M x0 6 13).bind fun v1 =>
  if ¬ v1 = x1 then
    (s_ob M x0 6).bind fun _ =>
    (f32 x0 M).bind fun p4 =>
    some p4
  else
    (s_ob M x0 6).bind fun _ =>
    (f33 x0 M).bind fun p7 =>
    some p7
theorem f37_ok {x0 : Nat} {x1 : Int32} {M : vm_M} {r : vm_M} (h : f37 x0 x1 M = some r) (d : Nat) : vm_Cl (d + 3) 37 [.ref (x0), .int (x1)] M (rV r) := by
  have key : Ev 0 (fun _ => 0) (vm_Cl (d + 2)) vp_37 6 2 false none (rV r) 0 (lv_args 0 [.ref (x0), .int (x1)]) [] M := by
    have l0 : (0, .ref (x0)) ∈ lv_args 0 [.ref (x0), .int (x1)] := List.Mem.head _
    have l1 : (1, .int (x1)) ∈ lv_args 0 [.ref (x0), .int (x1)] := List.Mem.tail _ (List.Mem.head _)
    unfold f37 at h
    refine ev_aload_nR (mm 0 rfl) l0 ?_
    obtain ⟨v1, e2, h⟩ := bind_so h
    refine ev_get_i (mm 1 rfl) rfl e2 ?_
    refine ev_iload_n (mm 2 rfl) l1 ?_
    rcases ite_so h with ⟨c3, h⟩ | ⟨c3, h⟩
    · refine ev_ic_t 15 (mm 3 rfl) rfl c3 ?_
      refine ev_aload_nR (mm 7 rfl) l0 ?_
      obtain ⟨_, e6, h⟩ := bind_so h
      obtain ⟨p4, e5, h⟩ := bind_so h
      refine ev_callV_V [] (mm 8 rfl) rfl rfl (Nat.le_of_ble_eq_true rfl) (s_ob_of e6) (f32_ok e5 (d + 1)) ?_
      exact ev_return (mm 9 rfl) h
    · refine ev_ic_f 15 (mm 3 rfl) rfl c3 ?_
      refine ev_aload_nR (mm 4 rfl) l0 ?_
      obtain ⟨_, e9, h⟩ := bind_so h
      obtain ⟨p7, e8, h⟩ := bind_so h
      refine ev_callV_V [] (mm 5 rfl) rfl rfl (Nat.le_of_ble_eq_true rfl) (s_ob_of e9) (f33_ok e8 (d + 0)) ?_
      refine ev_goto 19 (mm 6 rfl) rfl ?_
      exact ev_return (mm 9 rfl) h
  exact ⟨by decide, Nat.le_of_ble_eq_true rfl, key.1, key.2⟩
/-- PupilCoin$Reader.setting(II)V -/
def f39 (x0 : Nat) (x1 : Int32) (x2 : Int32) (M : vm_M) : Option (vm_M) :=
  (s_ob M x0 6).bind fun _ =>
  (f33 x0 M).bind fun p1 =>
  (sg_i p1 x0 6 13).bind fun v3 =>
  if ¬ v3 = 281 then
    (s_ob p1 x0 6).bind fun _ =>
    (f32 x0 p1).bind fun p6 =>
    some p6
  else
    (sg_i p1 x0 6 14).bind fun v9 =>
    if x2 < v9 then
      (s_ob p1 x0 6).bind fun _ =>
      (f32 x0 p1).bind fun p12 =>
      some p12
    else
      (sg_r p1 x0 6 5).bind fun v15 =>
      (sg_i p1 x0 6 14).bind fun v17 =>
      (v15).bind fun q19 =>
      (ss_i p1 q19 0 x1 v17).bind fun M21 =>
      (s_ob M21 x0 6).bind fun _ =>
      (f33 x0 M21).bind fun p23 =>
      some p23
theorem f39_ok {x0 : Nat} {x1 : Int32} {x2 : Int32} {M : vm_M} {r : vm_M} (h : f39 x0 x1 x2 M = some r) (d : Nat) : vm_Cl (d + 3) 39 [.ref (x0), .int (x1), .int (x2)] M (rV r) := by
  have key : Ev 0 (fun _ => 0) (vm_Cl (d + 2)) vp_39 6 3 false none (rV r) 0 (lv_args 0 [.ref (x0), .int (x1), .int (x2)]) [] M := by
    have l0 : (0, .ref (x0)) ∈ lv_args 0 [.ref (x0), .int (x1), .int (x2)] := List.Mem.head _
    have l1 : (1, .int (x1)) ∈ lv_args 0 [.ref (x0), .int (x1), .int (x2)] := List.Mem.tail _ (List.Mem.head _)
    have l2 : (2, .int (x2)) ∈ lv_args 0 [.ref (x0), .int (x1), .int (x2)] := List.Mem.tail _ (List.Mem.tail _ (List.Mem.head _))
    unfold f39 at h
    refine ev_aload_nR (mm 0 rfl) l0 ?_
    obtain ⟨_, e26, h⟩ := bind_so h
    obtain ⟨p1, e2, h⟩ := bind_so h
    refine ev_callV_V [] (mm 1 rfl) rfl rfl (Nat.le_of_ble_eq_true rfl) (s_ob_of e26) (f33_ok e2 (d + 0)) ?_
    refine ev_aload_nR (mm 2 rfl) l0 ?_
    obtain ⟨v3, e4, h⟩ := bind_so h
    refine ev_get_i (mm 3 rfl) rfl e4 ?_
    refine ev_sipush (mm 4 rfl) cS_281 ?_
    rcases ite_so h with ⟨c5, h⟩ | ⟨c5, h⟩
    · refine ev_ic_t 39 (mm 5 rfl) rfl c5 ?_
      refine ev_aload_nR (mm 19 rfl) l0 ?_
      obtain ⟨_, e8, h⟩ := bind_so h
      obtain ⟨p6, e7, h⟩ := bind_so h
      refine ev_callV_V [] (mm 20 rfl) rfl rfl (Nat.le_of_ble_eq_true rfl) (s_ob_of e8) (f32_ok e7 (d + 1)) ?_
      exact ev_return (mm 21 rfl) h
    · refine ev_ic_f 39 (mm 5 rfl) rfl c5 ?_
      refine ev_aload_nR (mm 6 rfl) l0 ?_
      obtain ⟨v9, e10, h⟩ := bind_so h
      refine ev_get_i (mm 7 rfl) rfl e10 ?_
      refine ev_iload_n (mm 8 rfl) l2 ?_
      rcases ite_so h with ⟨c11, h⟩ | ⟨c11, h⟩
      · refine ev_ic_t 39 (mm 9 rfl) rfl c11 ?_
        refine ev_aload_nR (mm 19 rfl) l0 ?_
        obtain ⟨_, e14, h⟩ := bind_so h
        obtain ⟨p12, e13, h⟩ := bind_so h
        refine ev_callV_V [] (mm 20 rfl) rfl rfl (Nat.le_of_ble_eq_true rfl) (s_ob_of e14) (f32_ok e13 (d + 1)) ?_
        exact ev_return (mm 21 rfl) h
      · refine ev_ic_f 39 (mm 9 rfl) rfl c11 ?_
        refine ev_aload_nR (mm 10 rfl) l0 ?_
        obtain ⟨v15, e16, h⟩ := bind_so h
        refine ev_get_r (mm 11 rfl) rfl e16 ?_
        refine ev_iload_n (mm 12 rfl) l1 ?_
        refine ev_aload_nR (mm 13 rfl) l0 ?_
        obtain ⟨v17, e18, h⟩ := bind_so h
        refine ev_get_i (mm 14 rfl) rfl e18 ?_
        obtain ⟨q19, e20, h⟩ := bind_so h
        rw [e20]
        obtain ⟨M21, e22, h⟩ := bind_so h
        refine ev_iastore (mm 15 rfl) e22 ?_
        refine ev_aload_nR (mm 16 rfl) l0 ?_
        obtain ⟨_, e25, h⟩ := bind_so h
        obtain ⟨p23, e24, h⟩ := bind_so h
        refine ev_callV_V [] (mm 17 rfl) rfl rfl (Nat.le_of_ble_eq_true rfl) (s_ob_of e25) (f33_ok e24 (d + 0)) ?_
        refine ev_goto 43 (mm 18 rfl) rfl ?_
        exact ev_return (mm 21 rfl) h
  exact ⟨by decide, Nat.le_of_ble_eq_true rfl, key.1, key.2⟩
def f40_j24 (x0 : Nat) (M : vm_M) : Option (vm_M) :=
  (sg_r M x0 6 5).bind fun v6 =>
  (sg_i M x0 6 13).bind fun v8 =>
  if ¬ v8 = 257 then
    (v6).bind fun q11 =>
    (ss_i M q11 0 4 1).bind fun M13 =>
    (s_ob M13 x0 6).bind fun _ =>
    (f33 x0 M13).bind fun p15 =>
    some p15
  else
    (v6).bind fun q18 =>
    (ss_i M q18 0 4 0).bind fun M20 =>
    (s_ob M20 x0 6).bind fun _ =>
    (f33 x0 M20).bind fun p22 =>
    some p22
theorem f40_j24_ok {d : Nat} {x0 : Nat} {M : vm_M} {r : vm_M} {lv : vm_L} (l0 : (0, .ref (x0)) ∈ lv) (h : f40_j24 x0 M = some r) : Ev 0 (fun _ => 0) (vm_Cl (d + 2)) vp_40 6 1 false none (rV r) 24 lv [] M := by
  unfold f40_j24 at h
  refine ev_aload_nR (mm 10 rfl) l0 ?_
  obtain ⟨v6, e7, h⟩ := bind_so h
  refine ev_get_r (mm 11 rfl) rfl e7 ?_
  refine ev_iconst (mm 12 rfl) cI_4 ?_
  refine ev_aload_nR (mm 13 rfl) l0 ?_
  obtain ⟨v8, e9, h⟩ := bind_so h
  refine ev_get_i (mm 14 rfl) rfl e9 ?_
  refine ev_sipush (mm 15 rfl) cS_257 ?_
  rcases ite_so h with ⟨c10, h⟩ | ⟨c10, h⟩
  · refine ev_ic_t 43 (mm 16 rfl) rfl c10 ?_
    refine ev_iconst (mm 19 rfl) cI_1 ?_
    obtain ⟨q11, e12, h⟩ := bind_so h
    rw [e12]
    obtain ⟨M13, e14, h⟩ := bind_so h
    refine ev_iastore (mm 20 rfl) e14 ?_
    refine ev_aload_nR (mm 21 rfl) l0 ?_
    obtain ⟨_, e17, h⟩ := bind_so h
    obtain ⟨p15, e16, h⟩ := bind_so h
    refine ev_callV_V [] (mm 22 rfl) rfl rfl (Nat.le_of_ble_eq_true rfl) (s_ob_of e17) (f33_ok e16 (d + 0)) ?_
    refine ev_goto 56 (mm 23 rfl) rfl ?_
    exact ev_return (mm 26 rfl) h
  · refine ev_ic_f 43 (mm 16 rfl) rfl c10 ?_
    refine ev_iconst (mm 17 rfl) cI_0 ?_
    refine ev_goto 44 (mm 18 rfl) rfl ?_
    obtain ⟨q18, e19, h⟩ := bind_so h
    rw [e19]
    obtain ⟨M20, e21, h⟩ := bind_so h
    refine ev_iastore (mm 20 rfl) e21 ?_
    refine ev_aload_nR (mm 21 rfl) l0 ?_
    obtain ⟨_, e24, h⟩ := bind_so h
    obtain ⟨p22, e23, h⟩ := bind_so h
    refine ev_callV_V [] (mm 22 rfl) rfl rfl (Nat.le_of_ble_eq_true rfl) (s_ob_of e24) (f33_ok e23 (d + 0)) ?_
    refine ev_goto 56 (mm 23 rfl) rfl ?_
    exact ev_return (mm 26 rfl) h
/-- PupilCoin$Reader.order()V -/
def f40 (x0 : Nat) (M : vm_M) : Option (vm_M) :=
  (s_ob M x0 6).bind fun _ =>
  (f33 x0 M).bind fun p1 =>
  (sg_i p1 x0 6 13).bind fun v3 =>
  if v3 = 257 then
    f40_j24 x0 p1
  else
    (sg_i p1 x0 6 13).bind fun v25 =>
    if ¬ v25 = 258 then
      (s_ob p1 x0 6).bind fun _ =>
      (f32 x0 p1).bind fun p28 =>
      some p28
    else
      f40_j24 x0 p1
theorem f40_ok {x0 : Nat} {M : vm_M} {r : vm_M} (h : f40 x0 M = some r) (d : Nat) : vm_Cl (d + 3) 40 [.ref (x0)] M (rV r) := by
  have key : Ev 0 (fun _ => 0) (vm_Cl (d + 2)) vp_40 6 1 false none (rV r) 0 (lv_args 0 [.ref (x0)]) [] M := by
    have l0 : (0, .ref (x0)) ∈ lv_args 0 [.ref (x0)] := List.Mem.head _
    unfold f40 at h
    refine ev_aload_nR (mm 0 rfl) l0 ?_
    obtain ⟨_, e31, h⟩ := bind_so h
    obtain ⟨p1, e2, h⟩ := bind_so h
    refine ev_callV_V [] (mm 1 rfl) rfl rfl (Nat.le_of_ble_eq_true rfl) (s_ob_of e31) (f33_ok e2 (d + 0)) ?_
    refine ev_aload_nR (mm 2 rfl) l0 ?_
    obtain ⟨v3, e4, h⟩ := bind_so h
    refine ev_get_i (mm 3 rfl) rfl e4 ?_
    refine ev_sipush (mm 4 rfl) cS_257 ?_
    rcases ite_so h with ⟨c5, h⟩ | ⟨c5, h⟩
    · refine ev_ic_t 24 (mm 5 rfl) rfl c5 ?_
      exact f40_j24_ok l0 h
    · refine ev_ic_f 24 (mm 5 rfl) rfl c5 ?_
      refine ev_aload_nR (mm 6 rfl) l0 ?_
      obtain ⟨v25, e26, h⟩ := bind_so h
      refine ev_get_i (mm 7 rfl) rfl e26 ?_
      refine ev_sipush (mm 8 rfl) cS_258 ?_
      rcases ite_so h with ⟨c27, h⟩ | ⟨c27, h⟩
      · refine ev_ic_t 52 (mm 9 rfl) rfl c27 ?_
        refine ev_aload_nR (mm 24 rfl) l0 ?_
        obtain ⟨_, e30, h⟩ := bind_so h
        obtain ⟨p28, e29, h⟩ := bind_so h
        refine ev_callV_V [] (mm 25 rfl) rfl rfl (Nat.le_of_ble_eq_true rfl) (s_ob_of e30) (f32_ok e29 (d + 1)) ?_
        exact ev_return (mm 26 rfl) h
      · refine ev_ic_f 52 (mm 9 rfl) rfl c27 ?_
        exact f40_j24_ok l0 h
  exact ⟨by decide, Nat.le_of_ble_eq_true rfl, key.1, key.2⟩
def f42_l14 (x0 : Nat) : Nat → Int32 → vm_M → Option (Int32 × vm_M)
  | 0 => fun _ _ => none
  | n + 1 => fun x1 M =>
    (sg_i M x0 6 7).bind fun v6 =>
    if v6 ≤ x1 then
      some ((-1), M)
    else
      if 30 ≤ x1 then
        some ((-1), M)
      else
        (sg_r M x0 6 4).bind fun v10 =>
        (v10).bind fun q12 =>
        (sa_l M q12 x1).bind fun v14 =>
        (sg_l M x0 6 15).bind fun v16 =>
        if ¬ (lg_cmp v14 v16) = 0 then
          f42_l14 x0 n (x1 + 1) M
        else
          some (x1, M)
theorem f42_l14_ok {d : Nat} {x0 : Nat} {r : Int32 × vm_M} : ∀ (n : Nat) {x1 : Int32} {M : vm_M} {lv : vm_L}, (0, .ref (x0)) ∈ lv → (1, .int (x1)) ∈ lv → f42_l14 x0 n x1 M = some r → Ev 0 (fun _ => 0) (vm_Cl (d + 0)) vp_42 6 2 false (some (.int)) (rI r) 14 lv [] M := by
  intro n
  induction n with
  | zero =>
    intro x1 M lv l0 l1 h
    cases h
  | succ n ih =>
    intro x1 M lv l0 l1 h
    dsimp only [f42_l14] at h
    refine ev_iload_n (mm 8 rfl) l1 ?_
    refine ev_aload_nR (mm 9 rfl) l0 ?_
    obtain ⟨v6, e7, h⟩ := bind_so h
    refine ev_get_i (mm 10 rfl) rfl e7 ?_
    rcases ite_so h with ⟨c8, h⟩ | ⟨c8, h⟩
    · refine ev_ic_t 50 (mm 11 rfl) rfl c8 ?_
      refine ev_iconst (mm 27 rfl) cI_m1 ?_
      exact ev_ireturn (mm 28 rfl) h
    · refine ev_ic_f 50 (mm 11 rfl) rfl c8 ?_
      refine ev_iload_n (mm 12 rfl) l1 ?_
      refine ev_bipush (mm 13 rfl) cB_30 ?_
      rcases ite_so h with ⟨c9, h⟩ | ⟨c9, h⟩
      · refine ev_ic_t 50 (mm 14 rfl) rfl c9 ?_
        refine ev_iconst (mm 27 rfl) cI_m1 ?_
        exact ev_ireturn (mm 28 rfl) h
      · refine ev_ic_f 50 (mm 14 rfl) rfl c9 ?_
        refine ev_aload_nR (mm 15 rfl) l0 ?_
        obtain ⟨v10, e11, h⟩ := bind_so h
        refine ev_get_r (mm 16 rfl) rfl e11 ?_
        refine ev_iload_n (mm 17 rfl) l1 ?_
        obtain ⟨q12, e13, h⟩ := bind_so h
        rw [e13]
        obtain ⟨v14, e15, h⟩ := bind_so h
        refine ev_laload (mm 18 rfl) e15 ?_
        refine ev_aload_nR (mm 19 rfl) l0 ?_
        obtain ⟨v16, e17, h⟩ := bind_so h
        refine ev_get_l (mm 20 rfl) rfl e17 ?_
        refine ev_lcmp (mm 21 rfl) ?_
        rcases ite_so h with ⟨c18, h⟩ | ⟨c18, h⟩
        · refine ev_if_t 44 (mm 22 rfl) rfl c18 ?_
          refine evs_iinc (mm 25 rfl) cI_1 l1 (by decide) (fun lv19 l1 s20 => ?_)
          have l0 := s20 _ _ l0 rfl
          refine ev_goto 14 (mm 26 rfl) rfl ?_
          exact ih l0 l1 h
        · refine ev_if_f 44 (mm 22 rfl) rfl c18 ?_
          refine ev_iload_n (mm 23 rfl) l1 ?_
          exact ev_ireturn (mm 24 rfl) h
/-- PupilCoin$Reader.lineNamed()I -/
def f42 (x0 : Nat) (M : vm_M) : Option (Int32 × vm_M) :=
  (sg_i M x0 6 13).bind fun v1 =>
  if v1 = 280 then
    f42_l14 x0
    
      100000 0 M
  else
    some ((-1), M)
theorem f42_ok {x0 : Nat} {M : vm_M} {r : Int32 × vm_M} (h : f42 x0 M = some r) (d : Nat) : vm_Cl (d + 1) 42 [.ref (x0)] M (rI r) := by
  have key : Ev 0 (fun _ => 0) (vm_Cl (d + 0)) vp_42 6 2 false (some (.int)) (rI r) 0 (lv_args 0 [.ref (x0)]) [] M := by
    have l0 : (0, .ref (x0)) ∈ lv_args 0 [.ref (x0)] := List.Mem.head _
    unfold f42 at h
    refine ev_aload_nR (mm 0 rfl) l0 ?_
    obtain ⟨v1, e2, h⟩ := bind_so h
    refine ev_get_i (mm 1 rfl) rfl e2 ?_
    refine ev_sipush (mm 2 rfl) cS_280 ?_
    rcases ite_so h with ⟨c3, h⟩ | ⟨c3, h⟩
    · refine ev_ic_t 12 (mm 3 rfl) rfl c3 ?_
      refine ev_iconst (mm 6 rfl) cI_0 ?_
      refine evs_istore_n (mm 7 rfl) (by decide) (fun lv4 l1 s5 => ?_)
      have l0 := s5 _ _ l0 rfl
      refine f42_l14_ok 100000 l0 l1 h
    · refine ev_ic_f 12 (mm 3 rfl) rfl c3 ?_
      refine ev_iconst (mm 4 rfl) cI_m1 ?_
      exact ev_ireturn (mm 5 rfl) h
  exact ⟨by decide, Nat.le_of_ble_eq_true rfl, key.1, key.2⟩
/-- PupilCoin$Reader.share()V -/
def f41 (x0 : Nat) (M : vm_M) : Option (vm_M) :=
  (s_ob M x0 6).bind fun _ =>
  (f33 x0 M).bind fun p1 =>
  (s_ob p1 x0 6).bind fun _ =>
  (f42 x0 p1).bind fun p3 =>
  if ¬ p3.1 = (-1) then
    (sg_r p3.2 x0 6 5).bind fun v8 =>
    (v8).bind fun q10 =>
    (ss_i p3.2 q10 0 5 p3.1).bind fun M12 =>
    (s_ob M12 x0 6).bind fun _ =>
    (f33 x0 M12).bind fun p14 =>
    some p14
  else
    (s_ob p3.2 x0 6).bind fun _ =>
    (f32 x0 p3.2).bind fun p17 =>
    some p17
theorem f41_ok {x0 : Nat} {M : vm_M} {r : vm_M} (h : f41 x0 M = some r) (d : Nat) : vm_Cl (d + 3) 41 [.ref (x0)] M (rV r) := by
  have key : Ev 0 (fun _ => 0) (vm_Cl (d + 2)) vp_41 6 2 false none (rV r) 0 (lv_args 0 [.ref (x0)]) [] M := by
    have l0 : (0, .ref (x0)) ∈ lv_args 0 [.ref (x0)] := List.Mem.head _
    unfold f41 at h
    refine ev_aload_nR (mm 0 rfl) l0 ?_
    obtain ⟨_, e21, h⟩ := bind_so h
    obtain ⟨p1, e2, h⟩ := bind_so h
    refine ev_callV_V [] (mm 1 rfl) rfl rfl (Nat.le_of_ble_eq_true rfl) (s_ob_of e21) (f33_ok e2 (d + 0)) ?_
    refine ev_aload_nR (mm 2 rfl) l0 ?_
    obtain ⟨_, e20, h⟩ := bind_so h
    obtain ⟨p3, e4, h⟩ := bind_so h
    refine ev_callV_I [] (mm 3 rfl) rfl rfl (Nat.le_of_ble_eq_true rfl) (s_ob_of e20) (f42_ok e4 (d + 1)) ?_
    refine evs_istore_n (mm 4 rfl) (by decide) (fun lv5 l1 s6 => ?_)
    have l0 := s6 _ _ l0 rfl
    refine ev_iload_n (mm 5 rfl) l1 ?_
    refine ev_iconst (mm 6 rfl) cI_m1 ?_
    rcases ite_so h with ⟨c7, h⟩ | ⟨c7, h⟩
    · refine ev_ic_t 19 (mm 7 rfl) rfl c7 ?_
      refine ev_aload_nR (mm 11 rfl) l0 ?_
      obtain ⟨v8, e9, h⟩ := bind_so h
      refine ev_get_r (mm 12 rfl) rfl e9 ?_
      refine ev_iconst (mm 13 rfl) cI_5 ?_
      refine ev_iload_n (mm 14 rfl) l1 ?_
      obtain ⟨q10, e11, h⟩ := bind_so h
      rw [e11]
      obtain ⟨M12, e13, h⟩ := bind_so h
      refine ev_iastore (mm 15 rfl) e13 ?_
      refine ev_aload_nR (mm 16 rfl) l0 ?_
      obtain ⟨_, e16, h⟩ := bind_so h
      obtain ⟨p14, e15, h⟩ := bind_so h
      refine ev_callV_V [] (mm 17 rfl) rfl rfl (Nat.le_of_ble_eq_true rfl) (s_ob_of e16) (f33_ok e15 (d + 0)) ?_
      exact ev_return (mm 18 rfl) h
    · refine ev_ic_f 19 (mm 7 rfl) rfl c7 ?_
      refine ev_aload_nR (mm 8 rfl) l0 ?_
      obtain ⟨_, e19, h⟩ := bind_so h
      obtain ⟨p17, e18, h⟩ := bind_so h
      refine ev_callV_V [] (mm 9 rfl) rfl rfl (Nat.le_of_ble_eq_true rfl) (s_ob_of e19) (f32_ok e18 (d + 1)) ?_
      exact ev_return (mm 10 rfl) h
  exact ⟨by decide, Nat.le_of_ble_eq_true rfl, key.1, key.2⟩
