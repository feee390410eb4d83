/-! shallow functions, by program (wip/gen_fun.py) -/
def f180_l19 (x0 : Nat) (x1 : Int32) (x2 : Int32) (k45 : vm_M → Option (Int64 × vm_M)) : Nat → Int32 → vm_M → Option (Int64 × vm_M)
  | 0 => fun _ _ => none
  | n + 1 => fun x3 M =>
    (sg_i M x0 11 1).bind fun v6 =>
    if v6 ≤ x3 then
      k45 M
    else
      (sg_r M x0 11 52).bind fun v9 =>
      (sg_r M x0 11 48).bind fun v11 =>
      (v11).bind fun q13 =>
      (sa_l M q13 x3).bind fun v15 =>
      (v9).bind fun q17 =>
      (ss_l M q17 x3 v15).bind fun M19 =>
      f180_l19 x0 x1 x2 k45 n (x3 + 1) M19
theorem f180_l19_ok {d : Nat} {x0 : Nat} {x1 : Int32} {x2 : Int32} {k45 : vm_M → Option (Int64 × vm_M)} {r : Int64 × vm_M} (hk45 : ∀ {M : vm_M} {lv : vm_L}, (0, .ref (x0)) ∈ lv → (1, .int (x1)) ∈ lv → (2, .int (x2)) ∈ lv → k45 M = some r → Ev 0 (fun _ => 0) (vm_Cl (d + 7)) vp_180 11 6 false (some (.long)) (rJ r) 45 lv [] M) : ∀ (n : Nat) {x3 : Int32} {M : vm_M} {lv : vm_L}, (0, .ref (x0)) ∈ lv → (1, .int (x1)) ∈ lv → (2, .int (x2)) ∈ lv → (3, .int (x3)) ∈ lv → f180_l19 x0 x1 x2 k45 n x3 M = some r → Ev 0 (fun _ => 0) (vm_Cl (d + 7)) vp_180 11 6 false (some (.long)) (rJ r) 19 lv [] M := by
  intro n
  induction n with
  | zero =>
    intro x3 M lv l0 l1 l2 l3 h
    cases h
  | succ n ih =>
    intro x3 M lv l0 l1 l2 l3 h
    dsimp only [f180_l19] at h
    refine ev_iload_n (mm 14 rfl) l3 ?_
    refine ev_aload_nR (mm 15 rfl) l0 ?_
    obtain ⟨v6, e7, h⟩ := bind_so h
    refine ev_get_i (mm 16 rfl) rfl e7 ?_
    rcases ite_so h with ⟨c8, h⟩ | ⟨c8, h⟩
    · refine ev_ic_t 45 (mm 17 rfl) rfl c8 ?_
      exact hk45 l0 l1 l2 h
    · refine ev_ic_f 45 (mm 17 rfl) rfl c8 ?_
      refine ev_aload_nR (mm 18 rfl) l0 ?_
      obtain ⟨v9, e10, h⟩ := bind_so h
      refine ev_get_r (mm 19 rfl) rfl e10 ?_
      refine ev_iload_n (mm 20 rfl) l3 ?_
      refine ev_aload_nR (mm 21 rfl) l0 ?_
      obtain ⟨v11, e12, h⟩ := bind_so h
      refine ev_get_r (mm 22 rfl) rfl e12 ?_
      refine ev_iload_n (mm 23 rfl) l3 ?_
      obtain ⟨q13, e14, h⟩ := bind_so h
      rw [e14]
      obtain ⟨v15, e16, h⟩ := bind_so h
      refine ev_laload (mm 24 rfl) e16 ?_
      obtain ⟨q17, e18, h⟩ := bind_so h
      rw [e18]
      obtain ⟨M19, e20, h⟩ := bind_so h
      refine ev_lastore (mm 25 rfl) e20 ?_
      refine evs_iinc (mm 26 rfl) cI_1 l3 (by decide) (fun lv21 l3 s22 => ?_)
      have l0 := s22 _ _ l0 rfl
      have l1 := s22 _ _ l1 rfl
      have l2 := s22 _ _ l2 rfl
      refine ev_goto 19 (mm 27 rfl) rfl ?_
      exact ih l0 l1 l2 l3 h
def f180_l63 (x0 : Nat) (x1 : Int32) (x2 : Int32) : Nat → Int64 → Int32 → vm_M → Option (Int64 × vm_M)
  | 0 => fun _ _ _ => none
  | n + 1 => fun x3 x5 M =>
    (sg_i M x0 11 1).bind fun v30 =>
    if v30 ≤ x5 then
      some (x3, M)
    else
      (s_ob M x0 11).bind fun _ =>
      (f131 x0 x5 x1 x2 M).bind fun p33 =>
      if p33.1 = 0 then
        f180_l63 x0 x1 x2 n x3 (x5 + 1) p33.2
      else
        (sg_r p33.2 x0 11 52).bind fun v38 =>
        (v38).bind fun q40 =>
        (sa_l p33.2 q40 x5).bind fun v42 =>
        (sg_r p33.2 x0 11 48).bind fun v44 =>
        (v44).bind fun q46 =>
        (sa_l p33.2 q46 x5).bind fun v48 =>
        f180_l63 x0 x1 x2 n (x3 + (v42 - v48)) (x5 + 1) p33.2
theorem f180_l63_ok {d : Nat} {x0 : Nat} {x1 : Int32} {x2 : Int32} {r : Int64 × vm_M} : ∀ (n : Nat) {x3 : Int64} {x5 : Int32} {M : vm_M} {lv : vm_L}, (0, .ref (x0)) ∈ lv → (1, .int (x1)) ∈ lv → (2, .int (x2)) ∈ lv → (3, .long (x3)) ∈ lv → (5, .int (x5)) ∈ lv → f180_l63 x0 x1 x2 n x3 x5 M = some r → Ev 0 (fun _ => 0) (vm_Cl (d + 7)) vp_180 11 6 false (some (.long)) (rJ r) 63 lv [] M := by
  intro n
  induction n with
  | zero =>
    intro x3 x5 M lv l0 l1 l2 l3 l5 h
    cases h
  | succ n ih =>
    intro x3 x5 M lv l0 l1 l2 l3 l5 h
    dsimp only [f180_l63] at h
    refine ev_iload (mm 42 rfl) l5 ?_
    refine ev_aload_nR (mm 43 rfl) l0 ?_
    obtain ⟨v30, e31, h⟩ := bind_so h
    refine ev_get_i (mm 44 rfl) rfl e31 ?_
    rcases ite_so h with ⟨c32, h⟩ | ⟨c32, h⟩
    · refine ev_ic_t 107 (mm 45 rfl) rfl c32 ?_
      refine ev_lload_n (mm 66 rfl) l3 ?_
      exact ev_lreturn (mm 67 rfl) h
    · refine ev_ic_f 107 (mm 45 rfl) rfl c32 ?_
      refine ev_aload_nR (mm 46 rfl) l0 ?_
      refine ev_iload (mm 47 rfl) l5 ?_
      refine ev_iload_n (mm 48 rfl) l1 ?_
      refine ev_iload_n (mm 49 rfl) l2 ?_
      obtain ⟨_, e54, h⟩ := bind_so h
      obtain ⟨p33, e34, h⟩ := bind_so h
      refine ev_callV_I [.int (x5), .int (x1), .int (x2)] (mm 50 rfl) rfl rfl (Nat.le_of_ble_eq_true rfl) (s_ob_of e54) (f131_ok e34 (d + 6)) ?_
      rcases ite_so h with ⟨c35, h⟩ | ⟨c35, h⟩
      · refine ev_if_t 101 (mm 51 rfl) rfl c35 ?_
        refine evs_iinc (mm 64 rfl) cI_1 l5 (by decide) (fun lv36 l5 s37 => ?_)
        have l0 := s37 _ _ l0 rfl
        have l1 := s37 _ _ l1 rfl
        have l2 := s37 _ _ l2 rfl
        have l3 := s37 _ _ l3 rfl
        refine ev_goto 63 (mm 65 rfl) rfl ?_
        exact ih l0 l1 l2 l3 l5 h
      · refine ev_if_f 101 (mm 51 rfl) rfl c35 ?_
        refine ev_lload_n (mm 52 rfl) l3 ?_
        refine ev_aload_nR (mm 53 rfl) l0 ?_
        obtain ⟨v38, e39, h⟩ := bind_so h
        refine ev_get_r (mm 54 rfl) rfl e39 ?_
        refine ev_iload (mm 55 rfl) l5 ?_
        obtain ⟨q40, e41, h⟩ := bind_so h
        rw [e41]
        obtain ⟨v42, e43, h⟩ := bind_so h
        refine ev_laload (mm 56 rfl) e43 ?_
        refine ev_aload_nR (mm 57 rfl) l0 ?_
        obtain ⟨v44, e45, h⟩ := bind_so h
        refine ev_get_r (mm 58 rfl) rfl e45 ?_
        refine ev_iload (mm 59 rfl) l5 ?_
        obtain ⟨q46, e47, h⟩ := bind_so h
        rw [e47]
        obtain ⟨v48, e49, h⟩ := bind_so h
        refine ev_laload (mm 60 rfl) e49 ?_
        refine ev_lsub (mm 61 rfl) ?_
        refine ev_ladd (mm 62 rfl) ?_
        refine evs_lstore_n (mm 63 rfl) (by decide) (fun lv50 l3 s51 => ?_)
        have l0 := s51 _ _ l0 rfl
        have l1 := s51 _ _ l1 rfl
        have l2 := s51 _ _ l2 rfl
        have l5 := s51 _ _ l5 rfl
        refine evs_iinc (mm 64 rfl) cI_1 l5 (by decide) (fun lv52 l5 s53 => ?_)
        have l0 := s53 _ _ l0 rfl
        have l1 := s53 _ _ l1 rfl
        have l2 := s53 _ _ l2 rfl
        have l3 := s53 _ _ l3 rfl
        refine ev_goto 63 (mm 65 rfl) rfl ?_
        exact ih l0 l1 l2 l3 l5 h
/-- PupilCoinModel.putRight(II)J -/
def f180 (x0 : Nat) (x1 : Int32) (x2 : Int32) (M : vm_M) : Option (Int64 × vm_M) :=
  if ¬ x2 = 0 then
    (s_ob M x0 11).bind fun _ =>
    (f177 x0 (x2 - 1) (100 * x2) M).bind fun p2 =>
    f180_l19 x0 x1 x2
      (fun M23 =>
        (s_ob M23 x0 11).bind fun _ =>
        (f177 x0 (x2 - 1) (100 * (x2 - 1)) M23).bind fun p24 =>
        f180_l63 x0 x1 x2
        
          100000 0 0 p24)
      100000 0 p2
  else
    some (0, M)
theorem f180_ok {x0 : Nat} {x1 : Int32} {x2 : Int32} {M : vm_M} {r : Int64 × vm_M} (h : f180 x0 x1 x2 M = some r) (d : Nat) : vm_Cl (d + 8) 180 [.ref (x0), .int (x1), .int (x2)] M (rJ r) := by
  have key : Ev 0 (fun _ => 0) (vm_Cl (d + 7)) vp_180 11 6 false (some (.long)) (rJ r) 0 (lv_args 0 [.ref (x0), .int (x1), .int (x2)]) [] M := by
    have l0 : (0, .ref (x0)) ∈ lv_args 0 [.ref (x0), .int (x1), .int (x2)] := List.Mem.head _
    have l1 : (1, .int (x1)) ∈ lv_args 0 [.ref (x0), .int (x1), .int (x2)] := List.Mem.tail _ (List.Mem.head _)
    have l2 : (2, .int (x2)) ∈ lv_args 0 [.ref (x0), .int (x1), .int (x2)] := List.Mem.tail _ (List.Mem.tail _ (List.Mem.head _))
    unfold f180 at h
    refine ev_iload_n (mm 0 rfl) l2 ?_
    rcases ite_so h with ⟨c1, h⟩ | ⟨c1, h⟩
    · refine ev_if_t 6 (mm 1 rfl) rfl c1 ?_
      refine ev_aload_nR (mm 4 rfl) l0 ?_
      refine ev_iload_n (mm 5 rfl) l2 ?_
      refine ev_iconst (mm 6 rfl) cI_1 ?_
      refine ev_isub (mm 7 rfl) ?_
      refine ev_bipush (mm 8 rfl) cB_100 ?_
      refine ev_iload_n (mm 9 rfl) l2 ?_
      refine ev_imul (mm 10 rfl) ?_
      obtain ⟨_, e56, h⟩ := bind_so h
      obtain ⟨p2, e3, h⟩ := bind_so h
      refine ev_callV_V [.int ((x2 - 1)), .int ((100 * x2))] (mm 11 rfl) rfl rfl (Nat.le_of_ble_eq_true rfl) (s_ob_of e56) (f177_ok e3 (d + 0)) ?_
      refine ev_iconst (mm 12 rfl) cI_0 ?_
      refine evs_istore_n (mm 13 rfl) (by decide) (fun lv4 l3 s5 => ?_)
      have l0 := s5 _ _ l0 rfl
      have l1 := s5 _ _ l1 rfl
      have l2 := s5 _ _ l2 rfl
      refine f180_l19_ok ?_ 100000 l0 l1 l2 l3 h
      · intro M23 lv l0 l1 l2
        intro h
        refine ev_aload_nR (mm 28 rfl) l0 ?_
        refine ev_iload_n (mm 29 rfl) l2 ?_
        refine ev_iconst (mm 30 rfl) cI_1 ?_
        refine ev_isub (mm 31 rfl) ?_
        refine ev_bipush (mm 32 rfl) cB_100 ?_
        refine ev_iload_n (mm 33 rfl) l2 ?_
        refine ev_iconst (mm 34 rfl) cI_1 ?_
        refine ev_isub (mm 35 rfl) ?_
        refine ev_imul (mm 36 rfl) ?_
        obtain ⟨_, e55, h⟩ := bind_so h
        obtain ⟨p24, e25, h⟩ := bind_so h
        refine ev_callV_V [.int ((x2 - 1)), .int ((100 * (x2 - 1)))] (mm 37 rfl) rfl rfl (Nat.le_of_ble_eq_true rfl) (s_ob_of e55) (f177_ok e25 (d + 0)) ?_
        refine ev_lconst (mm 38 rfl) cL_0 ?_
        refine evs_lstore_n (mm 39 rfl) (by decide) (fun lv26 l3 s27 => ?_)
        have l0 := s27 _ _ l0 rfl
        have l1 := s27 _ _ l1 rfl
        have l2 := s27 _ _ l2 rfl
        refine ev_iconst (mm 40 rfl) cI_0 ?_
        refine evs_istore (mm 41 rfl) (by decide) (fun lv28 l5 s29 => ?_)
        have l0 := s29 _ _ l0 rfl
        have l1 := s29 _ _ l1 rfl
        have l2 := s29 _ _ l2 rfl
        have l3 := s29 _ _ l3 rfl
        refine f180_l63_ok 100000 l0 l1 l2 l3 l5 h
    · refine ev_if_f 6 (mm 1 rfl) rfl c1 ?_
      refine ev_lconst (mm 2 rfl) cL_0 ?_
      exact ev_lreturn (mm 3 rfl) h
  exact ⟨by decide, Nat.le_of_ble_eq_true rfl, key.1, key.2⟩
def f181_l5 (x0 : Nat) (x1 : Int32) (x2 : Int32) : Nat → Int64 → Int32 → vm_M → Option (Int64 × vm_M)
  | 0 => fun _ _ _ => none
  | n + 1 => fun x3 x5 M =>
    (sg_i M x0 11 53).bind fun v5 =>
    if v5 ≤ x5 then
      some (x3, M)
    else
      (sg_r M x0 11 61).bind fun v8 =>
      (v8).bind fun q10 =>
      (sa_i M q10 2 x5).bind fun v12 =>
      if v12 = 0 then
        f181_l5 x0 x1 x2 n x3 (x5 + 1) M
      else
        (sg_r M x0 11 57).bind fun v17 =>
        (v17).bind fun q19 =>
        (sa_i M q19 0 x5).bind fun v21 =>
        if ¬ v21 = x2 then
          f181_l5 x0 x1 x2 n x3 (x5 + 1) M
        else
          (sg_r M x0 11 55).bind fun v26 =>
          (v26).bind fun q28 =>
          (sa_i M q28 0 x5).bind fun v30 =>
          if ¬ v30 = x1 then
            (sg_r M x0 11 54).bind fun v33 =>
            (v33).bind fun q35 =>
            (sa_i M q35 0 x5).bind fun v37 =>
            if ¬ v37 = x1 then
              f181_l5 x0 x1 x2 n (x3 + 0) (x5 + 1) M
            else
              (sg_r M x0 11 56).bind fun v44 =>
              (v44).bind fun q46 =>
              (sa_i M q46 0 x5).bind fun v48 =>
              f181_l5 x0 x1 x2 n (x3 + ((-v48) : Int32).toInt64) (x5 + 1) M
          else
            (sg_r M x0 11 56).bind fun v54 =>
            (v54).bind fun q56 =>
            (sa_i M q56 0 x5).bind fun v58 =>
            f181_l5 x0 x1 x2 n (x3 + (v58 : Int32).toInt64) (x5 + 1) M
theorem f181_l5_ok {d : Nat} {x0 : Nat} {x1 : Int32} {x2 : Int32} {r : Int64 × vm_M} : ∀ (n : Nat) {x3 : Int64} {x5 : Int32} {M : vm_M} {lv : vm_L}, (0, .ref (x0)) ∈ lv → (1, .int (x1)) ∈ lv → (2, .int (x2)) ∈ lv → (3, .long (x3)) ∈ lv → (5, .int (x5)) ∈ lv → f181_l5 x0 x1 x2 n x3 x5 M = some r → Ev 0 (fun _ => 0) (vm_Cl (d + 0)) vp_181 11 6 false (some (.long)) (rJ r) 5 lv [] M := by
  intro n
  induction n with
  | zero =>
    intro x3 x5 M lv l0 l1 l2 l3 l5 h
    cases h
  | succ n ih =>
    intro x3 x5 M lv l0 l1 l2 l3 l5 h
    dsimp only [f181_l5] at h
    refine ev_iload (mm 4 rfl) l5 ?_
    refine ev_aload_nR (mm 5 rfl) l0 ?_
    obtain ⟨v5, e6, h⟩ := bind_so h
    refine ev_get_i (mm 6 rfl) rfl e6 ?_
    rcases ite_so h with ⟨c7, h⟩ | ⟨c7, h⟩
    · refine ev_ic_t 90 (mm 7 rfl) rfl c7 ?_
      refine ev_lload_n (mm 50 rfl) l3 ?_
      exact ev_lreturn (mm 51 rfl) h
    · refine ev_ic_f 90 (mm 7 rfl) rfl c7 ?_
      refine ev_aload_nR (mm 8 rfl) l0 ?_
      obtain ⟨v8, e9, h⟩ := bind_so h
      refine ev_get_r (mm 9 rfl) rfl e9 ?_
      refine ev_iload (mm 10 rfl) l5 ?_
      obtain ⟨q10, e11, h⟩ := bind_so h
      rw [e11]
      obtain ⟨v12, e13, h⟩ := bind_so h
      refine ev_zaload (mm 11 rfl) e13 ?_
      rcases ite_so h with ⟨c14, h⟩ | ⟨c14, h⟩
      · refine ev_if_t 84 (mm 12 rfl) rfl c14 ?_
        refine evs_iinc (mm 48 rfl) cI_1 l5 (by decide) (fun lv15 l5 s16 => ?_)
        have l0 := s16 _ _ l0 rfl
        have l1 := s16 _ _ l1 rfl
        have l2 := s16 _ _ l2 rfl
        have l3 := s16 _ _ l3 rfl
        refine ev_goto 5 (mm 49 rfl) rfl ?_
        exact ih l0 l1 l2 l3 l5 h
      · refine ev_if_f 84 (mm 12 rfl) rfl c14 ?_
        refine ev_aload_nR (mm 13 rfl) l0 ?_
        obtain ⟨v17, e18, h⟩ := bind_so h
        refine ev_get_r (mm 14 rfl) rfl e18 ?_
        refine ev_iload (mm 15 rfl) l5 ?_
        obtain ⟨q19, e20, h⟩ := bind_so h
        rw [e20]
        obtain ⟨v21, e22, h⟩ := bind_so h
        refine ev_iaload (mm 16 rfl) e22 ?_
        refine ev_iload_n (mm 17 rfl) l2 ?_
        rcases ite_so h with ⟨c23, h⟩ | ⟨c23, h⟩
        · refine ev_ic_t 84 (mm 18 rfl) rfl c23 ?_
          refine evs_iinc (mm 48 rfl) cI_1 l5 (by decide) (fun lv24 l5 s25 => ?_)
          have l0 := s25 _ _ l0 rfl
          have l1 := s25 _ _ l1 rfl
          have l2 := s25 _ _ l2 rfl
          have l3 := s25 _ _ l3 rfl
          refine ev_goto 5 (mm 49 rfl) rfl ?_
          exact ih l0 l1 l2 l3 l5 h
        · refine ev_ic_f 84 (mm 18 rfl) rfl c23 ?_
          refine ev_lload_n (mm 19 rfl) l3 ?_
          refine ev_aload_nR (mm 20 rfl) l0 ?_
          obtain ⟨v26, e27, h⟩ := bind_so h
          refine ev_get_r (mm 21 rfl) rfl e27 ?_
          refine ev_iload (mm 22 rfl) l5 ?_
          obtain ⟨q28, e29, h⟩ := bind_so h
          rw [e29]
          obtain ⟨v30, e31, h⟩ := bind_so h
          refine ev_iaload (mm 23 rfl) e31 ?_
          refine ev_iload_n (mm 24 rfl) l1 ?_
          rcases ite_so h with ⟨c32, h⟩ | ⟨c32, h⟩
          · refine ev_ic_t 58 (mm 25 rfl) rfl c32 ?_
            refine ev_aload_nR (mm 32 rfl) l0 ?_
            obtain ⟨v33, e34, h⟩ := bind_so h
            refine ev_get_r (mm 33 rfl) rfl e34 ?_
            refine ev_iload (mm 34 rfl) l5 ?_
            obtain ⟨q35, e36, h⟩ := bind_so h
            rw [e36]
            obtain ⟨v37, e38, h⟩ := bind_so h
            refine ev_iaload (mm 35 rfl) e38 ?_
            refine ev_iload_n (mm 36 rfl) l1 ?_
            rcases ite_so h with ⟨c39, h⟩ | ⟨c39, h⟩
            · refine ev_ic_t 81 (mm 37 rfl) rfl c39 ?_
              refine ev_lconst (mm 45 rfl) cL_0 ?_
              refine ev_ladd (mm 46 rfl) ?_
              refine evs_lstore_n (mm 47 rfl) (by decide) (fun lv40 l3 s41 => ?_)
              have l0 := s41 _ _ l0 rfl
              have l1 := s41 _ _ l1 rfl
              have l2 := s41 _ _ l2 rfl
              have l5 := s41 _ _ l5 rfl
              refine evs_iinc (mm 48 rfl) cI_1 l5 (by decide) (fun lv42 l5 s43 => ?_)
              have l0 := s43 _ _ l0 rfl
              have l1 := s43 _ _ l1 rfl
              have l2 := s43 _ _ l2 rfl
              have l3 := s43 _ _ l3 rfl
              refine ev_goto 5 (mm 49 rfl) rfl ?_
              exact ih l0 l1 l2 l3 l5 h
            · refine ev_ic_f 81 (mm 37 rfl) rfl c39 ?_
              refine ev_aload_nR (mm 38 rfl) l0 ?_
              obtain ⟨v44, e45, h⟩ := bind_so h
              refine ev_get_r (mm 39 rfl) rfl e45 ?_
              refine ev_iload (mm 40 rfl) l5 ?_
              obtain ⟨q46, e47, h⟩ := bind_so h
              rw [e47]
              obtain ⟨v48, e49, h⟩ := bind_so h
              refine ev_iaload (mm 41 rfl) e49 ?_
              refine ev_ineg (mm 42 rfl) ?_
              refine ev_i2l (mm 43 rfl) ?_
              refine ev_goto 82 (mm 44 rfl) rfl ?_
              refine ev_ladd (mm 46 rfl) ?_
              refine evs_lstore_n (mm 47 rfl) (by decide) (fun lv50 l3 s51 => ?_)
              have l0 := s51 _ _ l0 rfl
              have l1 := s51 _ _ l1 rfl
              have l2 := s51 _ _ l2 rfl
              have l5 := s51 _ _ l5 rfl
              refine evs_iinc (mm 48 rfl) cI_1 l5 (by decide) (fun lv52 l5 s53 => ?_)
              have l0 := s53 _ _ l0 rfl
              have l1 := s53 _ _ l1 rfl
              have l2 := s53 _ _ l2 rfl
              have l3 := s53 _ _ l3 rfl
              refine ev_goto 5 (mm 49 rfl) rfl ?_
              exact ih l0 l1 l2 l3 l5 h
          · refine ev_ic_f 58 (mm 25 rfl) rfl c32 ?_
            refine ev_aload_nR (mm 26 rfl) l0 ?_
            obtain ⟨v54, e55, h⟩ := bind_so h
            refine ev_get_r (mm 27 rfl) rfl e55 ?_
            refine ev_iload (mm 28 rfl) l5 ?_
            obtain ⟨q56, e57, h⟩ := bind_so h
            rw [e57]
            obtain ⟨v58, e59, h⟩ := bind_so h
            refine ev_iaload (mm 29 rfl) e59 ?_
            refine ev_i2l (mm 30 rfl) ?_
            refine ev_goto 82 (mm 31 rfl) rfl ?_
            refine ev_ladd (mm 46 rfl) ?_
            refine evs_lstore_n (mm 47 rfl) (by decide) (fun lv60 l3 s61 => ?_)
            have l0 := s61 _ _ l0 rfl
            have l1 := s61 _ _ l1 rfl
            have l2 := s61 _ _ l2 rfl
            have l5 := s61 _ _ l5 rfl
            refine evs_iinc (mm 48 rfl) cI_1 l5 (by decide) (fun lv62 l5 s63 => ?_)
            have l0 := s63 _ _ l0 rfl
            have l1 := s63 _ _ l1 rfl
            have l2 := s63 _ _ l2 rfl
            have l3 := s63 _ _ l3 rfl
            refine ev_goto 5 (mm 49 rfl) rfl ?_
            exact ih l0 l1 l2 l3 l5 h
/-- PupilCoinModel.moved(II)J -/
def f181 (x0 : Nat) (x1 : Int32) (x2 : Int32) (M : vm_M) : Option (Int64 × vm_M) :=
  f181_l5 x0 x1 x2
  
    100000 0 0 M
theorem f181_ok {x0 : Nat} {x1 : Int32} {x2 : Int32} {M : vm_M} {r : Int64 × vm_M} (h : f181 x0 x1 x2 M = some r) (d : Nat) : vm_Cl (d + 1) 181 [.ref (x0), .int (x1), .int (x2)] M (rJ r) := by
  have key : Ev 0 (fun _ => 0) (vm_Cl (d + 0)) vp_181 11 6 false (some (.long)) (rJ r) 0 (lv_args 0 [.ref (x0), .int (x1), .int (x2)]) [] M := by
    have l0 : (0, .ref (x0)) ∈ lv_args 0 [.ref (x0), .int (x1), .int (x2)] := List.Mem.head _
    have l1 : (1, .int (x1)) ∈ lv_args 0 [.ref (x0), .int (x1), .int (x2)] := List.Mem.tail _ (List.Mem.head _)
    have l2 : (2, .int (x2)) ∈ lv_args 0 [.ref (x0), .int (x1), .int (x2)] := List.Mem.tail _ (List.Mem.tail _ (List.Mem.head _))
    unfold f181 at h
    refine ev_lconst (mm 0 rfl) cL_0 ?_
    refine evs_lstore_n (mm 1 rfl) (by decide) (fun lv1 l3 s2 => ?_)
    have l0 := s2 _ _ l0 rfl
    have l1 := s2 _ _ l1 rfl
    have l2 := s2 _ _ l2 rfl
    refine ev_iconst (mm 2 rfl) cI_0 ?_
    refine evs_istore (mm 3 rfl) (by decide) (fun lv3 l5 s4 => ?_)
    have l0 := s4 _ _ l0 rfl
    have l1 := s4 _ _ l1 rfl
    have l2 := s4 _ _ l2 rfl
    have l3 := s4 _ _ l3 rfl
    refine f181_l5_ok 100000 l0 l1 l2 l3 l5 h
  exact ⟨by decide, Nat.le_of_ble_eq_true rfl, key.1, key.2⟩
/-- PupilCoinModel.due(II)J -/
def f182 (x0 : Nat) (x1 : Int32) (x2 : Int32) (M : vm_M) : Option (Int64 × vm_M) :=
  (s_ob M x0 11).bind fun _ =>
  (f116 x0 x1 M).bind fun p1 =>
  if p1.1 = 0 then
    some ((-2000000000000), p1.2)
  else
    (f115 x2 p1.2).bind fun p4 =>
    if ¬ p4.1 = 0 then
      (s_ob p4.2 x0 11).bind fun _ =>
      (f122 x0 x1 x2 p4.2).bind fun p7 =>
      if ¬ p7.1 = 0 then
        (s_ob p7.2 x0 11).bind fun _ =>
        (f180 x0 x1 x2 p7.2).bind fun p10 =>
        (s_ob p10.2 x0 11).bind fun _ =>
        (f177 x0 x2 (100 * x2) p10.2).bind fun p14 =>
        (sg_r p14 x0 11 48).bind fun v16 =>
        (v16).bind fun q18 =>
        (sa_l p14 q18 x1).bind fun v20 =>
        (s_ob p14 x0 11).bind fun _ =>
        (f181 x0 x1 x2 p14).bind fun p22 =>
        some (((v20 + p10.1) + p22.1), p22.2)
      else
        some (0, p7.2)
    else
      some ((-2000000000000), p4.2)
theorem f182_ok {x0 : Nat} {x1 : Int32} {x2 : Int32} {M : vm_M} {r : Int64 × vm_M} (h : f182 x0 x1 x2 M = some r) (d : Nat) : vm_Cl (d + 9) 182 [.ref (x0), .int (x1), .int (x2)] M (rJ r) := by
  have key : Ev 0 (fun _ => 0) (vm_Cl (d + 8)) vp_182 11 5 false (some (.long)) (rJ r) 0 (lv_args 0 [.ref (x0), .int (x1), .int (x2)]) [] M := by
    have l0 : (0, .ref (x0)) ∈ lv_args 0 [.ref (x0), .int (x1), .int (x2)] := List.Mem.head _
    have l1 : (1, .int (x1)) ∈ lv_args 0 [.ref (x0), .int (x1), .int (x2)] := List.Mem.tail _ (List.Mem.head _)
    have l2 : (2, .int (x2)) ∈ lv_args 0 [.ref (x0), .int (x1), .int (x2)] := List.Mem.tail _ (List.Mem.tail _ (List.Mem.head _))
    unfold f182 at h
    refine ev_aload_nR (mm 0 rfl) l0 ?_
    refine ev_iload_n (mm 1 rfl) l1 ?_
    obtain ⟨_, e28, h⟩ := bind_so h
    obtain ⟨p1, e2, h⟩ := bind_so h
    refine ev_callV_I [.int (x1)] (mm 2 rfl) rfl rfl (Nat.le_of_ble_eq_true rfl) (s_ob_of e28) (f116_ok e2 (d + 6)) ?_
    rcases ite_so h with ⟨c3, h⟩ | ⟨c3, h⟩
    · refine ev_if_t 15 (mm 3 rfl) rfl c3 ?_
      refine ev_ldc2_w (mm 7 rfl) cJ_m2000000000000 ?_
      exact ev_lreturn (mm 8 rfl) h
    · refine ev_if_f 15 (mm 3 rfl) rfl c3 ?_
      refine ev_iload_n (mm 4 rfl) l2 ?_
      obtain ⟨p4, e5, h⟩ := bind_so h
      refine ev_callS_I [.int (x2)] (mm 5 rfl) (by decide) rfl rfl (Nat.le_of_ble_eq_true rfl) (f115_ok e5 (d + 6)) ?_
      rcases ite_so h with ⟨c6, h⟩ | ⟨c6, h⟩
      · refine ev_if_t 19 (mm 6 rfl) rfl c6 ?_
        refine ev_aload_nR (mm 9 rfl) l0 ?_
        refine ev_iload_n (mm 10 rfl) l1 ?_
        refine ev_iload_n (mm 11 rfl) l2 ?_
        obtain ⟨_, e27, h⟩ := bind_so h
        obtain ⟨p7, e8, h⟩ := bind_so h
        refine ev_callV_I [.int (x1), .int (x2)] (mm 12 rfl) rfl rfl (Nat.le_of_ble_eq_true rfl) (s_ob_of e27) (f122_ok e8 (d + 7)) ?_
        rcases ite_so h with ⟨c9, h⟩ | ⟨c9, h⟩
        · refine ev_if_t 30 (mm 13 rfl) rfl c9 ?_
          refine ev_aload_nR (mm 16 rfl) l0 ?_
          refine ev_iload_n (mm 17 rfl) l1 ?_
          refine ev_iload_n (mm 18 rfl) l2 ?_
          obtain ⟨_, e26, h⟩ := bind_so h
          obtain ⟨p10, e11, h⟩ := bind_so h
          refine ev_callV_J [.int (x1), .int (x2)] (mm 19 rfl) rfl rfl (Nat.le_of_ble_eq_true rfl) (s_ob_of e26) (f180_ok e11 (d + 0)) ?_
          refine evs_lstore_n (mm 20 rfl) (by decide) (fun lv12 l3 s13 => ?_)
          have l0 := s13 _ _ l0 rfl
          have l1 := s13 _ _ l1 rfl
          have l2 := s13 _ _ l2 rfl
          refine ev_aload_nR (mm 21 rfl) l0 ?_
          refine ev_iload_n (mm 22 rfl) l2 ?_
          refine ev_bipush (mm 23 rfl) cB_100 ?_
          refine ev_iload_n (mm 24 rfl) l2 ?_
          refine ev_imul (mm 25 rfl) ?_
          obtain ⟨_, e25, h⟩ := bind_so h
          obtain ⟨p14, e15, h⟩ := bind_so h
          refine ev_callV_V [.int (x2), .int ((100 * x2))] (mm 26 rfl) rfl rfl (Nat.le_of_ble_eq_true rfl) (s_ob_of e25) (f177_ok e15 (d + 1)) ?_
          refine ev_aload_nR (mm 27 rfl) l0 ?_
          obtain ⟨v16, e17, h⟩ := bind_so h
          refine ev_get_r (mm 28 rfl) rfl e17 ?_
          refine ev_iload_n (mm 29 rfl) l1 ?_
          obtain ⟨q18, e19, h⟩ := bind_so h
          rw [e19]
          obtain ⟨v20, e21, h⟩ := bind_so h
          refine ev_laload (mm 30 rfl) e21 ?_
          refine ev_lload_n (mm 31 rfl) l3 ?_
          refine ev_ladd (mm 32 rfl) ?_
          refine ev_aload_nR (mm 33 rfl) l0 ?_
          refine ev_iload_n (mm 34 rfl) l1 ?_
          refine ev_iload_n (mm 35 rfl) l2 ?_
          obtain ⟨_, e24, h⟩ := bind_so h
          obtain ⟨p22, e23, h⟩ := bind_so h
          refine ev_callV_J [.int (x1), .int (x2)] (mm 36 rfl) rfl rfl (Nat.le_of_ble_eq_true rfl) (s_ob_of e24) (f181_ok e23 (d + 7)) ?_
          refine ev_ladd (mm 37 rfl) ?_
          exact ev_lreturn (mm 38 rfl) h
        · refine ev_if_f 30 (mm 13 rfl) rfl c9 ?_
          refine ev_lconst (mm 14 rfl) cL_0 ?_
          exact ev_lreturn (mm 15 rfl) h
      · refine ev_if_f 19 (mm 6 rfl) rfl c6 ?_
        refine ev_ldc2_w (mm 7 rfl) cJ_m2000000000000 ?_
        exact ev_lreturn (mm 8 rfl) h
  exact ⟨by decide, Nat.le_of_ble_eq_true rfl, key.1, key.2⟩
/-- PupilCoinModel.led(III)J -/
def f183 (x0 : Nat) (x1 : Int32) (x2 : Int32) (x3 : Int32) (M : vm_M) : Option (Int64 × vm_M) :=
  (s_ob M x0 11).bind fun _ =>
  (f116 x0 x1 M).bind fun p1 =>
  if p1.1 = 0 then
    some ((-2000000000000), p1.2)
  else
    (f115 x2 p1.2).bind fun p4 =>
    if p4.1 = 0 then
      some ((-2000000000000), p4.2)
    else
      (f112 x3 0 34 p4.2).bind fun p7 =>
      if ¬ p7.1 = 0 then
        (s_ob p7.2 x0 11).bind fun _ =>
        (f122 x0 x1 x2 p7.2).bind fun p10 =>
        if ¬ p10.1 = 0 then
          if ¬ x3 = 33 then
            if ¬ x3 = 34 then
              (s_ob p10.2 x0 11).bind fun _ =>
              (f177 x0 x2 (100 * x2) p10.2).bind fun p15 =>
              (s_ob p15 x0 11).bind fun _ =>
              (f160 x0 x2 (100 * x2) p15).bind fun p17 =>
              if 30 ≤ x3 then
                if ¬ x3 = 30 then
                  if ¬ x3 = 31 then
                    (sg_r p17.2 x0 11 47).bind fun v24 =>
                    (v24).bind fun q26 =>
                    (sa_l p17.2 q26 x1).bind fun v28 =>
                    some (v28, p17.2)
                  else
                    (sg_r p17.2 x0 11 46).bind fun v30 =>
                    (v30).bind fun q32 =>
                    (sa_l p17.2 q32 x1).bind fun v34 =>
                    some (v34, p17.2)
                else
                  (sg_r p17.2 x0 11 45).bind fun v36 =>
                  (v36).bind fun q38 =>
                  (sa_l p17.2 q38 x1).bind fun v40 =>
                  some (v40, p17.2)
              else
                if p17.1 = (-1) then
                  some (0, p17.2)
                else
                  (sg_r p17.2 x0 11 27).bind fun v43 =>
                  (v43).bind fun q45 =>
                  (sa_i p17.2 q45 0 p17.1).bind fun v47 =>
                  if v47 ≤ x3 then
                    some (0, p17.2)
                  else
                    (sg_r p17.2 x0 11 30).bind fun v50 =>
                    (v50).bind fun q52 =>
                    (sa_i p17.2 q52 0 ((30 * p17.1) + x3)).bind fun v54 =>
                    if ¬ v54 = 0 then
                      some (0, p17.2)
                    else
                      (sg_r p17.2 x0 11 44).bind fun v57 =>
                      (sg_r p17.2 x0 11 31).bind fun v59 =>
                      (v59).bind fun q61 =>
                      (sa_i p17.2 q61 0 ((30 * p17.1) + x3)).bind fun v63 =>
                      (v57).bind fun q65 =>
                      (sa_l p17.2 q65 ((30 * x1) + v63)).bind fun v67 =>
                      some (v67, p17.2)
            else
              (s_ob p10.2 x0 11).bind fun _ =>
              (f181 x0 x1 x2 p10.2).bind fun p71 =>
              some (p71.1, p71.2)
          else
            (s_ob p10.2 x0 11).bind fun _ =>
            (f180 x0 x1 x2 p10.2).bind fun p74 =>
            some (p74.1, p74.2)
        else
          some (0, p10.2)
      else
        some ((-2000000000000), p7.2)
theorem f183_ok {x0 : Nat} {x1 : Int32} {x2 : Int32} {x3 : Int32} {M : vm_M} {r : Int64 × vm_M} (h : f183 x0 x1 x2 x3 M = some r) (d : Nat) : vm_Cl (d + 9) 183 [.ref (x0), .int (x1), .int (x2), .int (x3)] M (rJ r) := by
  have key : Ev 0 (fun _ => 0) (vm_Cl (d + 8)) vp_183 11 5 false (some (.long)) (rJ r) 0 (lv_args 0 [.ref (x0), .int (x1), .int (x2), .int (x3)]) [] M := by
    have l0 : (0, .ref (x0)) ∈ lv_args 0 [.ref (x0), .int (x1), .int (x2), .int (x3)] := List.Mem.head _
    have l1 : (1, .int (x1)) ∈ lv_args 0 [.ref (x0), .int (x1), .int (x2), .int (x3)] := List.Mem.tail _ (List.Mem.head _)
    have l2 : (2, .int (x2)) ∈ lv_args 0 [.ref (x0), .int (x1), .int (x2), .int (x3)] := List.Mem.tail _ (List.Mem.tail _ (List.Mem.head _))
    have l3 : (3, .int (x3)) ∈ lv_args 0 [.ref (x0), .int (x1), .int (x2), .int (x3)] := List.Mem.tail _ (List.Mem.tail _ (List.Mem.tail _ (List.Mem.head _)))
    unfold f183 at h
    refine ev_aload_nR (mm 0 rfl) l0 ?_
    refine ev_iload_n (mm 1 rfl) l1 ?_
    obtain ⟨_, e78, h⟩ := bind_so h
    obtain ⟨p1, e2, h⟩ := bind_so h
    refine ev_callV_I [.int (x1)] (mm 2 rfl) rfl rfl (Nat.le_of_ble_eq_true rfl) (s_ob_of e78) (f116_ok e2 (d + 6)) ?_
    rcases ite_so h with ⟨c3, h⟩ | ⟨c3, h⟩
    · refine ev_if_t 25 (mm 3 rfl) rfl c3 ?_
      refine ev_ldc2_w (mm 12 rfl) cJ_m2000000000000 ?_
      exact ev_lreturn (mm 13 rfl) h
    · refine ev_if_f 25 (mm 3 rfl) rfl c3 ?_
      refine ev_iload_n (mm 4 rfl) l2 ?_
      obtain ⟨p4, e5, h⟩ := bind_so h
      refine ev_callS_I [.int (x2)] (mm 5 rfl) (by decide) rfl rfl (Nat.le_of_ble_eq_true rfl) (f115_ok e5 (d + 6)) ?_
      rcases ite_so h with ⟨c6, h⟩ | ⟨c6, h⟩
      · refine ev_if_t 25 (mm 6 rfl) rfl c6 ?_
        refine ev_ldc2_w (mm 12 rfl) cJ_m2000000000000 ?_
        exact ev_lreturn (mm 13 rfl) h
      · refine ev_if_f 25 (mm 6 rfl) rfl c6 ?_
        refine ev_iload_n (mm 7 rfl) l3 ?_
        refine ev_iconst (mm 8 rfl) cI_0 ?_
        refine ev_bipush (mm 9 rfl) cB_34 ?_
        obtain ⟨p7, e8, h⟩ := bind_so h
        refine ev_callS_I [.int (x3), .int (0), .int (34)] (mm 10 rfl) (by decide) rfl rfl (Nat.le_of_ble_eq_true rfl) (f112_ok e8 (d + 7)) ?_
        rcases ite_so h with ⟨c9, h⟩ | ⟨c9, h⟩
        · refine ev_if_t 29 (mm 11 rfl) rfl c9 ?_
          refine ev_aload_nR (mm 14 rfl) l0 ?_
          refine ev_iload_n (mm 15 rfl) l1 ?_
          refine ev_iload_n (mm 16 rfl) l2 ?_
          obtain ⟨_, e77, h⟩ := bind_so h
          obtain ⟨p10, e11, h⟩ := bind_so h
          refine ev_callV_I [.int (x1), .int (x2)] (mm 17 rfl) rfl rfl (Nat.le_of_ble_eq_true rfl) (s_ob_of e77) (f122_ok e11 (d + 7)) ?_
          rcases ite_so h with ⟨c12, h⟩ | ⟨c12, h⟩
          · refine ev_if_t 40 (mm 18 rfl) rfl c12 ?_
            refine ev_iload_n (mm 21 rfl) l3 ?_
            refine ev_bipush (mm 22 rfl) cB_33 ?_
            rcases ite_so h with ⟨c13, h⟩ | ⟨c13, h⟩
            · refine ev_ic_t 53 (mm 23 rfl) rfl c13 ?_
              refine ev_iload_n (mm 29 rfl) l3 ?_
              refine ev_bipush (mm 30 rfl) cB_34 ?_
              rcases ite_so h with ⟨c14, h⟩ | ⟨c14, h⟩
              · refine ev_ic_t 66 (mm 31 rfl) rfl c14 ?_
                refine ev_aload_nR (mm 37 rfl) l0 ?_
                refine ev_iload_n (mm 38 rfl) l2 ?_
                refine ev_bipush (mm 39 rfl) cB_100 ?_
                refine ev_iload_n (mm 40 rfl) l2 ?_
                refine ev_imul (mm 41 rfl) ?_
                obtain ⟨_, e70, h⟩ := bind_so h
                obtain ⟨p15, e16, h⟩ := bind_so h
                refine ev_callV_V [.int (x2), .int ((100 * x2))] (mm 42 rfl) rfl rfl (Nat.le_of_ble_eq_true rfl) (s_ob_of e70) (f177_ok e16 (d + 1)) ?_
                refine ev_aload_nR (mm 43 rfl) l0 ?_
                refine ev_iload_n (mm 44 rfl) l2 ?_
                refine ev_bipush (mm 45 rfl) cB_100 ?_
                refine ev_iload_n (mm 46 rfl) l2 ?_
                refine ev_imul (mm 47 rfl) ?_
                obtain ⟨_, e69, h⟩ := bind_so h
                obtain ⟨p17, e18, h⟩ := bind_so h
                refine ev_callV_I [.int (x2), .int ((100 * x2))] (mm 48 rfl) rfl rfl (Nat.le_of_ble_eq_true rfl) (s_ob_of e69) (f160_ok e18 (d + 7)) ?_
                refine evs_istore (mm 49 rfl) (by decide) (fun lv19 l4 s20 => ?_)
                have l0 := s20 _ _ l0 rfl
                have l1 := s20 _ _ l1 rfl
                have l3 := s20 _ _ l3 rfl
                refine ev_iload_n (mm 50 rfl) l3 ?_
                refine ev_bipush (mm 51 rfl) cB_30 ?_
                rcases ite_so h with ⟨c21, h⟩ | ⟨c21, h⟩
                · refine ev_ic_t 151 (mm 52 rfl) rfl c21 ?_
                  refine ev_iload_n (mm 89 rfl) l3 ?_
                  refine ev_bipush (mm 90 rfl) cB_30 ?_
                  rcases ite_so h with ⟨c22, h⟩ | ⟨c22, h⟩
                  · refine ev_ic_t 166 (mm 91 rfl) rfl c22 ?_
                    refine ev_iload_n (mm 97 rfl) l3 ?_
                    refine ev_bipush (mm 98 rfl) cB_31 ?_
                    rcases ite_so h with ⟨c23, h⟩ | ⟨c23, h⟩
                    · refine ev_ic_t 181 (mm 99 rfl) rfl c23 ?_
                      refine ev_aload_nR (mm 105 rfl) l0 ?_
                      obtain ⟨v24, e25, h⟩ := bind_so h
                      refine ev_get_r (mm 106 rfl) rfl e25 ?_
                      refine ev_iload_n (mm 107 rfl) l1 ?_
                      obtain ⟨q26, e27, h⟩ := bind_so h
                      rw [e27]
                      obtain ⟨v28, e29, h⟩ := bind_so h
                      refine ev_laload (mm 108 rfl) e29 ?_
                      exact ev_lreturn (mm 109 rfl) h
                    · refine ev_ic_f 181 (mm 99 rfl) rfl c23 ?_
                      refine ev_aload_nR (mm 100 rfl) l0 ?_
                      obtain ⟨v30, e31, h⟩ := bind_so h
                      refine ev_get_r (mm 101 rfl) rfl e31 ?_
                      refine ev_iload_n (mm 102 rfl) l1 ?_
                      obtain ⟨q32, e33, h⟩ := bind_so h
                      rw [e33]
                      obtain ⟨v34, e35, h⟩ := bind_so h
                      refine ev_laload (mm 103 rfl) e35 ?_
                      refine ev_goto 187 (mm 104 rfl) rfl ?_
                      exact ev_lreturn (mm 109 rfl) h
                  · refine ev_ic_f 166 (mm 91 rfl) rfl c22 ?_
                    refine ev_aload_nR (mm 92 rfl) l0 ?_
                    obtain ⟨v36, e37, h⟩ := bind_so h
                    refine ev_get_r (mm 93 rfl) rfl e37 ?_
                    refine ev_iload_n (mm 94 rfl) l1 ?_
                    obtain ⟨q38, e39, h⟩ := bind_so h
                    rw [e39]
                    obtain ⟨v40, e41, h⟩ := bind_so h
                    refine ev_laload (mm 95 rfl) e41 ?_
                    refine ev_goto 187 (mm 96 rfl) rfl ?_
                    exact ev_lreturn (mm 109 rfl) h
                · refine ev_ic_f 151 (mm 52 rfl) rfl c21 ?_
                  refine ev_iload (mm 53 rfl) l4 ?_
                  refine ev_iconst (mm 54 rfl) cI_m1 ?_
                  rcases ite_so h with ⟨c42, h⟩ | ⟨c42, h⟩
                  · refine ev_ic_t 149 (mm 55 rfl) rfl c42 ?_
                    refine ev_lconst (mm 87 rfl) cL_0 ?_
                    exact ev_lreturn (mm 88 rfl) h
                  · refine ev_ic_f 149 (mm 55 rfl) rfl c42 ?_
                    refine ev_iload_n (mm 56 rfl) l3 ?_
                    refine ev_aload_nR (mm 57 rfl) l0 ?_
                    obtain ⟨v43, e44, h⟩ := bind_so h
                    refine ev_get_r (mm 58 rfl) rfl e44 ?_
                    refine ev_iload (mm 59 rfl) l4 ?_
                    obtain ⟨q45, e46, h⟩ := bind_so h
                    rw [e46]
                    obtain ⟨v47, e48, h⟩ := bind_so h
                    refine ev_iaload (mm 60 rfl) e48 ?_
                    rcases ite_so h with ⟨c49, h⟩ | ⟨c49, h⟩
                    · refine ev_ic_t 149 (mm 61 rfl) rfl c49 ?_
                      refine ev_lconst (mm 87 rfl) cL_0 ?_
                      exact ev_lreturn (mm 88 rfl) h
                    · refine ev_ic_f 149 (mm 61 rfl) rfl c49 ?_
                      refine ev_aload_nR (mm 62 rfl) l0 ?_
                      obtain ⟨v50, e51, h⟩ := bind_so h
                      refine ev_get_r (mm 63 rfl) rfl e51 ?_
                      refine ev_bipush (mm 64 rfl) cB_30 ?_
                      refine ev_iload (mm 65 rfl) l4 ?_
                      refine ev_imul (mm 66 rfl) ?_
                      refine ev_iload_n (mm 67 rfl) l3 ?_
                      refine ev_iadd (mm 68 rfl) ?_
                      obtain ⟨q52, e53, h⟩ := bind_so h
                      rw [e53]
                      obtain ⟨v54, e55, h⟩ := bind_so h
                      refine ev_iaload (mm 69 rfl) e55 ?_
                      rcases ite_so h with ⟨c56, h⟩ | ⟨c56, h⟩
                      · refine ev_if_t 149 (mm 70 rfl) rfl c56 ?_
                        refine ev_lconst (mm 87 rfl) cL_0 ?_
                        exact ev_lreturn (mm 88 rfl) h
                      · refine ev_if_f 149 (mm 70 rfl) rfl c56 ?_
                        refine ev_aload_nR (mm 71 rfl) l0 ?_
                        obtain ⟨v57, e58, h⟩ := bind_so h
                        refine ev_get_r (mm 72 rfl) rfl e58 ?_
                        refine ev_bipush (mm 73 rfl) cB_30 ?_
                        refine ev_iload_n (mm 74 rfl) l1 ?_
                        refine ev_imul (mm 75 rfl) ?_
                        refine ev_aload_nR (mm 76 rfl) l0 ?_
                        obtain ⟨v59, e60, h⟩ := bind_so h
                        refine ev_get_r (mm 77 rfl) rfl e60 ?_
                        refine ev_bipush (mm 78 rfl) cB_30 ?_
                        refine ev_iload (mm 79 rfl) l4 ?_
                        refine ev_imul (mm 80 rfl) ?_
                        refine ev_iload_n (mm 81 rfl) l3 ?_
                        refine ev_iadd (mm 82 rfl) ?_
                        obtain ⟨q61, e62, h⟩ := bind_so h
                        rw [e62]
                        obtain ⟨v63, e64, h⟩ := bind_so h
                        refine ev_iaload (mm 83 rfl) e64 ?_
                        refine ev_iadd (mm 84 rfl) ?_
                        obtain ⟨q65, e66, h⟩ := bind_so h
                        rw [e66]
                        obtain ⟨v67, e68, h⟩ := bind_so h
                        refine ev_laload (mm 85 rfl) e68 ?_
                        refine ev_goto 150 (mm 86 rfl) rfl ?_
                        exact ev_lreturn (mm 88 rfl) h
              · refine ev_ic_f 66 (mm 31 rfl) rfl c14 ?_
                refine ev_aload_nR (mm 32 rfl) l0 ?_
                refine ev_iload_n (mm 33 rfl) l1 ?_
                refine ev_iload_n (mm 34 rfl) l2 ?_
                obtain ⟨_, e73, h⟩ := bind_so h
                obtain ⟨p71, e72, h⟩ := bind_so h
                refine ev_callV_J [.int (x1), .int (x2)] (mm 35 rfl) rfl rfl (Nat.le_of_ble_eq_true rfl) (s_ob_of e73) (f181_ok e72 (d + 7)) ?_
                exact ev_lreturn (mm 36 rfl) h
            · refine ev_ic_f 53 (mm 23 rfl) rfl c13 ?_
              refine ev_aload_nR (mm 24 rfl) l0 ?_
              refine ev_iload_n (mm 25 rfl) l1 ?_
              refine ev_iload_n (mm 26 rfl) l2 ?_
              obtain ⟨_, e76, h⟩ := bind_so h
              obtain ⟨p74, e75, h⟩ := bind_so h
              refine ev_callV_J [.int (x1), .int (x2)] (mm 27 rfl) rfl rfl (Nat.le_of_ble_eq_true rfl) (s_ob_of e76) (f180_ok e75 (d + 0)) ?_
              exact ev_lreturn (mm 28 rfl) h
          · refine ev_if_f 40 (mm 18 rfl) rfl c12 ?_
            refine ev_lconst (mm 19 rfl) cL_0 ?_
            exact ev_lreturn (mm 20 rfl) h
        · refine ev_if_f 29 (mm 11 rfl) rfl c9 ?_
          refine ev_ldc2_w (mm 12 rfl) cJ_m2000000000000 ?_
          exact ev_lreturn (mm 13 rfl) h
  exact ⟨by decide, Nat.le_of_ble_eq_true rfl, key.1, key.2⟩
/-- PupilCoinModel.propose(IIIII)I -/
def f184 (x0 : Nat) (x1 : Int32) (x2 : Int32) (x3 : Int32) (x4 : Int32) (x5 : Int32) (M : vm_M) : Option (Int32 × vm_M) :=
  (f112 x1 0 2 M).bind fun p1 =>
  if p1.1 = 0 then
    some ((-1), p1.2)
  else
    (s_ob p1.2 x0 11).bind fun _ =>
    (f116 x0 x2 p1.2).bind fun p4 =>
    if p4.1 = 0 then
      some ((-1), p4.2)
    else
      (s_ob p4.2 x0 11).bind fun _ =>
      (f116 x0 x3 p4.2).bind fun p7 =>
      if p7.1 = 0 then
        some ((-1), p7.2)
      else
        if x2 = x3 then
          some ((-1), p7.2)
        else
          (sg_r p7.2 x0 11 5).bind fun v11 =>
          (v11).bind fun q13 =>
          (sa_i p7.2 q13 0 x2).bind fun v15 =>
          if ¬ v15 = x1 then
            some ((-1), p7.2)
          else
            (sg_r p7.2 x0 11 5).bind fun v18 =>
            (v18).bind fun q20 =>
            (sa_i p7.2 q20 0 x3).bind fun v22 =>
            if v22 = x1 then
              (f112 x4 1 9999999 p7.2).bind fun p25 =>
              if p25.1 = 0 then
                some ((-1), p25.2)
              else
                (s_ob p25.2 x0 11).bind fun _ =>
                (f118 x0 p25.2).bind fun p28 =>
                (f112 x5 (p28.1 + 1) 9 p28.2).bind fun p30 =>
                if p30.1 = 0 then
                  some ((-1), p30.2)
                else
                  (sg_i p30.2 x0 11 53).bind fun v33 =>
                  if ¬ v33 = 20 then
                    (sg_r p30.2 x0 11 54).bind fun v36 =>
                    (sg_i p30.2 x0 11 53).bind fun v38 =>
                    (v36).bind fun q40 =>
                    (ss_i p30.2 q40 0 v38 x2).bind fun M42 =>
                    (sg_r M42 x0 11 55).bind fun v44 =>
                    (sg_i M42 x0 11 53).bind fun v46 =>
                    (v44).bind fun q48 =>
                    (ss_i M42 q48 0 v46 x3).bind fun M50 =>
                    (sg_r M50 x0 11 56).bind fun v52 =>
                    (sg_i M50 x0 11 53).bind fun v54 =>
                    (v52).bind fun q56 =>
                    (ss_i M50 q56 0 v54 x4).bind fun M58 =>
                    (sg_r M58 x0 11 57).bind fun v60 =>
                    (sg_i M58 x0 11 53).bind fun v62 =>
                    (v60).bind fun q64 =>
                    (ss_i M58 q64 0 v62 x5).bind fun M66 =>
                    (sg_r M66 x0 11 58).bind fun v68 =>
                    (sg_i M66 x0 11 53).bind fun v70 =>
                    (sg_i M66 x0 11 0).bind fun v72 =>
                    (v68).bind fun q74 =>
                    (ss_i M66 q74 0 v70 v72).bind fun M76 =>
                    (sg_r M76 x0 11 59).bind fun v78 =>
                    (sg_i M76 x0 11 53).bind fun v80 =>
                    (v78).bind fun q82 =>
                    (ss_i M76 q82 0 v80 x1).bind fun M84 =>
                    (sg_i M84 x0 11 53).bind fun v86 =>
                    (sp_i M84 x0 11 53 (v86 + 1)).bind fun M88 =>
                    (sg_i M88 x0 11 53).bind fun v90 =>
                    some ((v90 - 1), M88)
                  else
                    some ((-1), p30.2)
            else
              some ((-1), p7.2)
theorem f184_ok {x0 : Nat} {x1 : Int32} {x2 : Int32} {x3 : Int32} {x4 : Int32} {x5 : Int32} {M : vm_M} {r : Int32 × vm_M} (h : f184 x0 x1 x2 x3 x4 x5 M = some r) (d : Nat) : vm_Cl (d + 3) 184 [.ref (x0), .int (x1), .int (x2), .int (x3), .int (x4), .int (x5)] M (rI r) := by
  have key : Ev 0 (fun _ => 0) (vm_Cl (d + 2)) vp_184 11 6 false (some (.int)) (rI r) 0 (lv_args 0 [.ref (x0), .int (x1), .int (x2), .int (x3), .int (x4), .int (x5)]) [] M := by
    have l0 : (0, .ref (x0)) ∈ lv_args 0 [.ref (x0), .int (x1), .int (x2), .int (x3), .int (x4), .int (x5)] := List.Mem.head _
    have l1 : (1, .int (x1)) ∈ lv_args 0 [.ref (x0), .int (x1), .int (x2), .int (x3), .int (x4), .int (x5)] := List.Mem.tail _ (List.Mem.head _)
    have l2 : (2, .int (x2)) ∈ lv_args 0 [.ref (x0), .int (x1), .int (x2), .int (x3), .int (x4), .int (x5)] := List.Mem.tail _ (List.Mem.tail _ (List.Mem.head _))
    have l3 : (3, .int (x3)) ∈ lv_args 0 [.ref (x0), .int (x1), .int (x2), .int (x3), .int (x4), .int (x5)] := List.Mem.tail _ (List.Mem.tail _ (List.Mem.tail _ (List.Mem.head _)))
    have l4 : (4, .int (x4)) ∈ lv_args 0 [.ref (x0), .int (x1), .int (x2), .int (x3), .int (x4), .int (x5)] := List.Mem.tail _ (List.Mem.tail _ (List.Mem.tail _ (List.Mem.tail _ (List.Mem.head _))))
    have l5 : (5, .int (x5)) ∈ lv_args 0 [.ref (x0), .int (x1), .int (x2), .int (x3), .int (x4), .int (x5)] := List.Mem.tail _ (List.Mem.tail _ (List.Mem.tail _ (List.Mem.tail _ (List.Mem.tail _ (List.Mem.head _)))))
    unfold f184 at h
    refine ev_iload_n (mm 0 rfl) l1 ?_
    refine ev_iconst (mm 1 rfl) cI_0 ?_
    refine ev_iconst (mm 2 rfl) cI_2 ?_
    obtain ⟨p1, e2, h⟩ := bind_so h
    refine ev_callS_I [.int (x1), .int (0), .int (2)] (mm 3 rfl) (by decide) rfl rfl (Nat.le_of_ble_eq_true rfl) (f112_ok e2 (d + 1)) ?_
    rcases ite_so h with ⟨c3, h⟩ | ⟨c3, h⟩
    · refine ev_if_t 50 (mm 4 rfl) rfl c3 ?_
      refine ev_iconst (mm 28 rfl) cI_m1 ?_
      exact ev_ireturn (mm 29 rfl) h
    · refine ev_if_f 50 (mm 4 rfl) rfl c3 ?_
      refine ev_aload_nR (mm 5 rfl) l0 ?_
      refine ev_iload_n (mm 6 rfl) l2 ?_
      obtain ⟨_, e94, h⟩ := bind_so h
      obtain ⟨p4, e5, h⟩ := bind_so h
      refine ev_callV_I [.int (x2)] (mm 7 rfl) rfl rfl (Nat.le_of_ble_eq_true rfl) (s_ob_of e94) (f116_ok e5 (d + 0)) ?_
      rcases ite_so h with ⟨c6, h⟩ | ⟨c6, h⟩
      · refine ev_if_t 50 (mm 8 rfl) rfl c6 ?_
        refine ev_iconst (mm 28 rfl) cI_m1 ?_
        exact ev_ireturn (mm 29 rfl) h
      · refine ev_if_f 50 (mm 8 rfl) rfl c6 ?_
        refine ev_aload_nR (mm 9 rfl) l0 ?_
        refine ev_iload_n (mm 10 rfl) l3 ?_
        obtain ⟨_, e93, h⟩ := bind_so h
        obtain ⟨p7, e8, h⟩ := bind_so h
        refine ev_callV_I [.int (x3)] (mm 11 rfl) rfl rfl (Nat.le_of_ble_eq_true rfl) (s_ob_of e93) (f116_ok e8 (d + 0)) ?_
        rcases ite_so h with ⟨c9, h⟩ | ⟨c9, h⟩
        · refine ev_if_t 50 (mm 12 rfl) rfl c9 ?_
          refine ev_iconst (mm 28 rfl) cI_m1 ?_
          exact ev_ireturn (mm 29 rfl) h
        · refine ev_if_f 50 (mm 12 rfl) rfl c9 ?_
          refine ev_iload_n (mm 13 rfl) l2 ?_
          refine ev_iload_n (mm 14 rfl) l3 ?_
          rcases ite_so h with ⟨c10, h⟩ | ⟨c10, h⟩
          · refine ev_ic_t 50 (mm 15 rfl) rfl c10 ?_
            refine ev_iconst (mm 28 rfl) cI_m1 ?_
            exact ev_ireturn (mm 29 rfl) h
          · refine ev_ic_f 50 (mm 15 rfl) rfl c10 ?_
            refine ev_aload_nR (mm 16 rfl) l0 ?_
            obtain ⟨v11, e12, h⟩ := bind_so h
            refine ev_get_r (mm 17 rfl) rfl e12 ?_
            refine ev_iload_n (mm 18 rfl) l2 ?_
            obtain ⟨q13, e14, h⟩ := bind_so h
            rw [e14]
            obtain ⟨v15, e16, h⟩ := bind_so h
            refine ev_iaload (mm 19 rfl) e16 ?_
            refine ev_iload_n (mm 20 rfl) l1 ?_
            rcases ite_so h with ⟨c17, h⟩ | ⟨c17, h⟩
            · refine ev_ic_t 50 (mm 21 rfl) rfl c17 ?_
              refine ev_iconst (mm 28 rfl) cI_m1 ?_
              exact ev_ireturn (mm 29 rfl) h
            · refine ev_ic_f 50 (mm 21 rfl) rfl c17 ?_
              refine ev_aload_nR (mm 22 rfl) l0 ?_
              obtain ⟨v18, e19, h⟩ := bind_so h
              refine ev_get_r (mm 23 rfl) rfl e19 ?_
              refine ev_iload_n (mm 24 rfl) l3 ?_
              obtain ⟨q20, e21, h⟩ := bind_so h
              rw [e21]
              obtain ⟨v22, e23, h⟩ := bind_so h
              refine ev_iaload (mm 25 rfl) e23 ?_
              refine ev_iload_n (mm 26 rfl) l1 ?_
              rcases ite_so h with ⟨c24, h⟩ | ⟨c24, h⟩
              · refine ev_ic_t 52 (mm 27 rfl) rfl c24 ?_
                refine ev_iload (mm 30 rfl) l4 ?_
                refine ev_iconst (mm 31 rfl) cI_1 ?_
                refine ev_ldc_w (mm 32 rfl) cI_9999999 ?_
                obtain ⟨p25, e26, h⟩ := bind_so h
                refine ev_callS_I [.int (x4), .int (1), .int (9999999)] (mm 33 rfl) (by decide) rfl rfl (Nat.le_of_ble_eq_true rfl) (f112_ok e26 (d + 1)) ?_
                rcases ite_so h with ⟨c27, h⟩ | ⟨c27, h⟩
                · refine ev_if_t 89 (mm 34 rfl) rfl c27 ?_
                  refine ev_iconst (mm 47 rfl) cI_m1 ?_
                  exact ev_ireturn (mm 48 rfl) h
                · refine ev_if_f 89 (mm 34 rfl) rfl c27 ?_
                  refine ev_iload (mm 35 rfl) l5 ?_
                  refine ev_aload_nR (mm 36 rfl) l0 ?_
                  obtain ⟨_, e92, h⟩ := bind_so h
                  obtain ⟨p28, e29, h⟩ := bind_so h
                  refine ev_callV_I [] (mm 37 rfl) rfl rfl (Nat.le_of_ble_eq_true rfl) (s_ob_of e92) (f118_ok e29 (d + 1)) ?_
                  refine ev_iconst (mm 38 rfl) cI_1 ?_
                  refine ev_iadd (mm 39 rfl) ?_
                  refine ev_bipush (mm 40 rfl) cB_9 ?_
                  obtain ⟨p30, e31, h⟩ := bind_so h
                  refine ev_callS_I [.int (x5), .int ((p28.1 + 1)), .int (9)] (mm 41 rfl) (by decide) rfl rfl (Nat.le_of_ble_eq_true rfl) (f112_ok e31 (d + 1)) ?_
                  rcases ite_so h with ⟨c32, h⟩ | ⟨c32, h⟩
                  · refine ev_if_t 89 (mm 42 rfl) rfl c32 ?_
                    refine ev_iconst (mm 47 rfl) cI_m1 ?_
                    exact ev_ireturn (mm 48 rfl) h
                  · refine ev_if_f 89 (mm 42 rfl) rfl c32 ?_
                    refine ev_aload_nR (mm 43 rfl) l0 ?_
                    obtain ⟨v33, e34, h⟩ := bind_so h
                    refine ev_get_i (mm 44 rfl) rfl e34 ?_
                    refine ev_bipush (mm 45 rfl) cB_20 ?_
                    rcases ite_so h with ⟨c35, h⟩ | ⟨c35, h⟩
                    · refine ev_ic_t 91 (mm 46 rfl) rfl c35 ?_
                      refine ev_aload_nR (mm 49 rfl) l0 ?_
                      obtain ⟨v36, e37, h⟩ := bind_so h
                      refine ev_get_r (mm 50 rfl) rfl e37 ?_
                      refine ev_aload_nR (mm 51 rfl) l0 ?_
                      obtain ⟨v38, e39, h⟩ := bind_so h
                      refine ev_get_i (mm 52 rfl) rfl e39 ?_
                      refine ev_iload_n (mm 53 rfl) l2 ?_
                      obtain ⟨q40, e41, h⟩ := bind_so h
                      rw [e41]
                      obtain ⟨M42, e43, h⟩ := bind_so h
                      refine ev_iastore (mm 54 rfl) e43 ?_
                      refine ev_aload_nR (mm 55 rfl) l0 ?_
                      obtain ⟨v44, e45, h⟩ := bind_so h
                      refine ev_get_r (mm 56 rfl) rfl e45 ?_
                      refine ev_aload_nR (mm 57 rfl) l0 ?_
                      obtain ⟨v46, e47, h⟩ := bind_so h
                      refine ev_get_i (mm 58 rfl) rfl e47 ?_
                      refine ev_iload_n (mm 59 rfl) l3 ?_
                      obtain ⟨q48, e49, h⟩ := bind_so h
                      rw [e49]
                      obtain ⟨M50, e51, h⟩ := bind_so h
                      refine ev_iastore (mm 60 rfl) e51 ?_
                      refine ev_aload_nR (mm 61 rfl) l0 ?_
                      obtain ⟨v52, e53, h⟩ := bind_so h
                      refine ev_get_r (mm 62 rfl) rfl e53 ?_
                      refine ev_aload_nR (mm 63 rfl) l0 ?_
                      obtain ⟨v54, e55, h⟩ := bind_so h
                      refine ev_get_i (mm 64 rfl) rfl e55 ?_
                      refine ev_iload (mm 65 rfl) l4 ?_
                      obtain ⟨q56, e57, h⟩ := bind_so h
                      rw [e57]
                      obtain ⟨M58, e59, h⟩ := bind_so h
                      refine ev_iastore (mm 66 rfl) e59 ?_
                      refine ev_aload_nR (mm 67 rfl) l0 ?_
                      obtain ⟨v60, e61, h⟩ := bind_so h
                      refine ev_get_r (mm 68 rfl) rfl e61 ?_
                      refine ev_aload_nR (mm 69 rfl) l0 ?_
                      obtain ⟨v62, e63, h⟩ := bind_so h
                      refine ev_get_i (mm 70 rfl) rfl e63 ?_
                      refine ev_iload (mm 71 rfl) l5 ?_
                      obtain ⟨q64, e65, h⟩ := bind_so h
                      rw [e65]
                      obtain ⟨M66, e67, h⟩ := bind_so h
                      refine ev_iastore (mm 72 rfl) e67 ?_
                      refine ev_aload_nR (mm 73 rfl) l0 ?_
                      obtain ⟨v68, e69, h⟩ := bind_so h
                      refine ev_get_r (mm 74 rfl) rfl e69 ?_
                      refine ev_aload_nR (mm 75 rfl) l0 ?_
                      obtain ⟨v70, e71, h⟩ := bind_so h
                      refine ev_get_i (mm 76 rfl) rfl e71 ?_
                      refine ev_aload_nR (mm 77 rfl) l0 ?_
                      obtain ⟨v72, e73, h⟩ := bind_so h
                      refine ev_get_i (mm 78 rfl) rfl e73 ?_
                      obtain ⟨q74, e75, h⟩ := bind_so h
                      rw [e75]
                      obtain ⟨M76, e77, h⟩ := bind_so h
                      refine ev_iastore (mm 79 rfl) e77 ?_
                      refine ev_aload_nR (mm 80 rfl) l0 ?_
                      obtain ⟨v78, e79, h⟩ := bind_so h
                      refine ev_get_r (mm 81 rfl) rfl e79 ?_
                      refine ev_aload_nR (mm 82 rfl) l0 ?_
                      obtain ⟨v80, e81, h⟩ := bind_so h
                      refine ev_get_i (mm 83 rfl) rfl e81 ?_
                      refine ev_iload_n (mm 84 rfl) l1 ?_
                      obtain ⟨q82, e83, h⟩ := bind_so h
                      rw [e83]
                      obtain ⟨M84, e85, h⟩ := bind_so h
                      refine ev_iastore (mm 85 rfl) e85 ?_
                      refine ev_aload_nR (mm 86 rfl) l0 ?_
                      refine ev_dupR (mm 87 rfl) ?_
                      obtain ⟨v86, e87, h⟩ := bind_so h
                      refine ev_get_i (mm 88 rfl) rfl e87 ?_
                      refine ev_iconst (mm 89 rfl) cI_1 ?_
                      refine ev_iadd (mm 90 rfl) ?_
                      obtain ⟨M88, e89, h⟩ := bind_so h
                      refine ev_put_i (mm 91 rfl) (fun z => by cases z) rfl e89 ?_
                      refine ev_aload_nR (mm 92 rfl) l0 ?_
                      obtain ⟨v90, e91, h⟩ := bind_so h
                      refine ev_get_i (mm 93 rfl) rfl e91 ?_
                      refine ev_iconst (mm 94 rfl) cI_1 ?_
                      refine ev_isub (mm 95 rfl) ?_
                      exact ev_ireturn (mm 96 rfl) h
                    · refine ev_ic_f 91 (mm 46 rfl) rfl c35 ?_
                      refine ev_iconst (mm 47 rfl) cI_m1 ?_
                      exact ev_ireturn (mm 48 rfl) h
              · refine ev_ic_f 52 (mm 27 rfl) rfl c24 ?_
                refine ev_iconst (mm 28 rfl) cI_m1 ?_
                exact ev_ireturn (mm 29 rfl) h
  exact ⟨by decide, Nat.le_of_ble_eq_true rfl, key.1, key.2⟩
/-- PupilCoinModel.object(II)Z -/
def f185 (x0 : Nat) (x1 : Int32) (x2 : Int32) (M : vm_M) : Option (Int32 × vm_M) :=
  (sg_i M x0 11 53).bind fun v1 =>
  (f112 x1 0 (v1 - 1) M).bind fun p3 =>
  if p3.1 = 0 then
    s_rb 0 p3.2
  else
    (s_ob p3.2 x0 11).bind fun _ =>
    (f116 x0 x2 p3.2).bind fun p6 =>
    if p6.1 = 0 then
      s_rb 0 p6.2
    else
      (sg_r p6.2 x0 11 61).bind fun v9 =>
      (v9).bind fun q11 =>
      (sa_i p6.2 q11 2 x1).bind fun v13 =>
      if ¬ v13 = 0 then
        s_rb 0 p6.2
      else
        (sg_r p6.2 x0 11 5).bind fun v16 =>
        (v16).bind fun q18 =>
        (sa_i p6.2 q18 0 x2).bind fun v20 =>
        (sg_r p6.2 x0 11 59).bind fun v22 =>
        (v22).bind fun q24 =>
        (sa_i p6.2 q24 0 x1).bind fun v26 =>
        if ¬ v20 = v26 then
          s_rb 0 p6.2
        else
          (s_ob p6.2 x0 11).bind fun _ =>
          (f118 x0 p6.2).bind fun p29 =>
          (s_ob p29.2 x0 11).bind fun _ =>
          (f122 x0 x2 p29.1 p29.2).bind fun p31 =>
          if p31.1 = 0 then
            s_rb 0 p31.2
          else
            (sg_r p31.2 x0 11 60).bind fun v34 =>
            (v34).bind fun q36 =>
            (sa_i p31.2 q36 0 x1).bind fun v38 =>
            if ¬ ((v38 >>> (x2 &&& 31)) &&& 1) = 1 then
              (sg_r p31.2 x0 11 60).bind fun v41 =>
              (v41).bind fun q43 =>
              (sa_i p31.2 q43 0 x1).bind fun v45 =>
              (ss_i p31.2 q43 0 x1 (v45 ||| (1 <<< (x2 &&& 31)))).bind fun M47 =>
              s_rb 1 M47
            else
              s_rb 0 p31.2
theorem f185_ok {x0 : Nat} {x1 : Int32} {x2 : Int32} {M : vm_M} {r : Int32 × vm_M} (h : f185 x0 x1 x2 M = some r) (d : Nat) : vm_Cl (d + 3) 185 [.ref (x0), .int (x1), .int (x2)] M (rI r) := by
  have key : Ev 0 (fun _ => 0) (vm_Cl (d + 2)) vp_185 11 3 false (some (.boolean)) (rI r) 0 (lv_args 0 [.ref (x0), .int (x1), .int (x2)]) [] M := by
    have l0 : (0, .ref (x0)) ∈ lv_args 0 [.ref (x0), .int (x1), .int (x2)] := List.Mem.head _
    have l1 : (1, .int (x1)) ∈ lv_args 0 [.ref (x0), .int (x1), .int (x2)] := List.Mem.tail _ (List.Mem.head _)
    have l2 : (2, .int (x2)) ∈ lv_args 0 [.ref (x0), .int (x1), .int (x2)] := List.Mem.tail _ (List.Mem.tail _ (List.Mem.head _))
    unfold f185 at h
    refine ev_iload_n (mm 0 rfl) l1 ?_
    refine ev_iconst (mm 1 rfl) cI_0 ?_
    refine ev_aload_nR (mm 2 rfl) l0 ?_
    obtain ⟨v1, e2, h⟩ := bind_so h
    refine ev_get_i (mm 3 rfl) rfl e2 ?_
    refine ev_iconst (mm 4 rfl) cI_1 ?_
    refine ev_isub (mm 5 rfl) ?_
    obtain ⟨p3, e4, h⟩ := bind_so h
    refine ev_callS_I [.int (x1), .int (0), .int ((v1 - 1))] (mm 6 rfl) (by decide) rfl rfl (Nat.le_of_ble_eq_true rfl) (f112_ok e4 (d + 1)) ?_
    rcases ite_so h with ⟨c5, h⟩ | ⟨c5, h⟩
    · refine ev_if_t 72 (mm 7 rfl) rfl c5 ?_
      refine ev_iconst (mm 42 rfl) cI_0 ?_
      exact ev_zreturn (mm 43 rfl) h
    · refine ev_if_f 72 (mm 7 rfl) rfl c5 ?_
      refine ev_aload_nR (mm 8 rfl) l0 ?_
      refine ev_iload_n (mm 9 rfl) l2 ?_
      obtain ⟨_, e51, h⟩ := bind_so h
      obtain ⟨p6, e7, h⟩ := bind_so h
      refine ev_callV_I [.int (x2)] (mm 10 rfl) rfl rfl (Nat.le_of_ble_eq_true rfl) (s_ob_of e51) (f116_ok e7 (d + 0)) ?_
      rcases ite_so h with ⟨c8, h⟩ | ⟨c8, h⟩
      · refine ev_if_t 72 (mm 11 rfl) rfl c8 ?_
        refine ev_iconst (mm 42 rfl) cI_0 ?_
        exact ev_zreturn (mm 43 rfl) h
      · refine ev_if_f 72 (mm 11 rfl) rfl c8 ?_
        refine ev_aload_nR (mm 12 rfl) l0 ?_
        obtain ⟨v9, e10, h⟩ := bind_so h
        refine ev_get_r (mm 13 rfl) rfl e10 ?_
        refine ev_iload_n (mm 14 rfl) l1 ?_
        obtain ⟨q11, e12, h⟩ := bind_so h
        rw [e12]
        obtain ⟨v13, e14, h⟩ := bind_so h
        refine ev_zaload (mm 15 rfl) e14 ?_
        rcases ite_so h with ⟨c15, h⟩ | ⟨c15, h⟩
        · refine ev_if_t 72 (mm 16 rfl) rfl c15 ?_
          refine ev_iconst (mm 42 rfl) cI_0 ?_
          exact ev_zreturn (mm 43 rfl) h
        · refine ev_if_f 72 (mm 16 rfl) rfl c15 ?_
          refine ev_aload_nR (mm 17 rfl) l0 ?_
          obtain ⟨v16, e17, h⟩ := bind_so h
          refine ev_get_r (mm 18 rfl) rfl e17 ?_
          refine ev_iload_n (mm 19 rfl) l2 ?_
          obtain ⟨q18, e19, h⟩ := bind_so h
          rw [e19]
          obtain ⟨v20, e21, h⟩ := bind_so h
          refine ev_iaload (mm 20 rfl) e21 ?_
          refine ev_aload_nR (mm 21 rfl) l0 ?_
          obtain ⟨v22, e23, h⟩ := bind_so h
          refine ev_get_r (mm 22 rfl) rfl e23 ?_
          refine ev_iload_n (mm 23 rfl) l1 ?_
          obtain ⟨q24, e25, h⟩ := bind_so h
          rw [e25]
          obtain ⟨v26, e27, h⟩ := bind_so h
          refine ev_iaload (mm 24 rfl) e27 ?_
          rcases ite_so h with ⟨c28, h⟩ | ⟨c28, h⟩
          · refine ev_ic_t 72 (mm 25 rfl) rfl c28 ?_
            refine ev_iconst (mm 42 rfl) cI_0 ?_
            exact ev_zreturn (mm 43 rfl) h
          · refine ev_ic_f 72 (mm 25 rfl) rfl c28 ?_
            refine ev_aload_nR (mm 26 rfl) l0 ?_
            refine ev_iload_n (mm 27 rfl) l2 ?_
            refine ev_aload_nR (mm 28 rfl) l0 ?_
            obtain ⟨_, e50, h⟩ := bind_so h
            obtain ⟨p29, e30, h⟩ := bind_so h
            refine ev_callV_I [] (mm 29 rfl) rfl rfl (Nat.le_of_ble_eq_true rfl) (s_ob_of e50) (f118_ok e30 (d + 1)) ?_
            obtain ⟨_, e49, h⟩ := bind_so h
            obtain ⟨p31, e32, h⟩ := bind_so h
            refine ev_callV_I [.int (x2), .int (p29.1)] (mm 30 rfl) rfl rfl (Nat.le_of_ble_eq_true rfl) (s_ob_of e49) (f122_ok e32 (d + 1)) ?_
            rcases ite_so h with ⟨c33, h⟩ | ⟨c33, h⟩
            · refine ev_if_t 72 (mm 31 rfl) rfl c33 ?_
              refine ev_iconst (mm 42 rfl) cI_0 ?_
              exact ev_zreturn (mm 43 rfl) h
            · refine ev_if_f 72 (mm 31 rfl) rfl c33 ?_
              refine ev_aload_nR (mm 32 rfl) l0 ?_
              obtain ⟨v34, e35, h⟩ := bind_so h
              refine ev_get_r (mm 33 rfl) rfl e35 ?_
              refine ev_iload_n (mm 34 rfl) l1 ?_
              obtain ⟨q36, e37, h⟩ := bind_so h
              rw [e37]
              obtain ⟨v38, e39, h⟩ := bind_so h
              refine ev_iaload (mm 35 rfl) e39 ?_
              refine ev_iload_n (mm 36 rfl) l2 ?_
              refine ev_ishr (mm 37 rfl) ?_
              refine ev_iconst (mm 38 rfl) cI_1 ?_
              refine ev_iand (mm 39 rfl) ?_
              refine ev_iconst (mm 40 rfl) cI_1 ?_
              rcases ite_so h with ⟨c40, h⟩ | ⟨c40, h⟩
              · refine ev_ic_t 74 (mm 41 rfl) rfl c40 ?_
                refine ev_aload_nR (mm 44 rfl) l0 ?_
                obtain ⟨v41, e42, h⟩ := bind_so h
                refine ev_get_r (mm 45 rfl) rfl e42 ?_
                refine ev_iload_n (mm 46 rfl) l1 ?_
                refine ev_dup2 (mm 47 rfl) rfl (by cases (v41 : Option Nat) <;> rfl) ?_
                obtain ⟨q43, e44, h⟩ := bind_so h
                rw [e44]
                obtain ⟨v45, e46, h⟩ := bind_so h
                refine ev_iaload (mm 48 rfl) e46 ?_
                refine ev_iconst (mm 49 rfl) cI_1 ?_
                refine ev_iload_n (mm 50 rfl) l2 ?_
                refine ev_ishl (mm 51 rfl) ?_
                refine ev_ior (mm 52 rfl) ?_
                obtain ⟨M47, e48, h⟩ := bind_so h
                refine ev_iastore (mm 53 rfl) e48 ?_
                refine ev_iconst (mm 54 rfl) cI_1 ?_
                exact ev_zreturn (mm 55 rfl) h
              · refine ev_ic_f 74 (mm 41 rfl) rfl c40 ?_
                refine ev_iconst (mm 42 rfl) cI_0 ?_
                exact ev_zreturn (mm 43 rfl) h
  exact ⟨by decide, Nat.le_of_ble_eq_true rfl, key.1, key.2⟩
def f186_l79 (x0 : Nat) (x1 : Int32) (x2 : Int32) (x3 : Int32) (k140 : Int32 → Int32 → vm_M → Option (Int32 × vm_M)) : Nat → Int32 → Int32 → Int32 → vm_M → Option (Int32 × vm_M)
  | 0 => fun _ _ _ _ => none
  | n + 1 => fun x4 x5 x6 M =>
    (sg_i M x0 11 1).bind fun v47 =>
    if v47 ≤ x6 then
      k140 x4 x5 M
    else
      (sg_r M x0 11 5).bind fun v50 =>
      (v50).bind fun q52 =>
      (sa_i M q52 0 x6).bind fun v54 =>
      if ¬ v54 = x3 then
        f186_l79 x0 x1 x2 x3 k140 n x4 x5 (x6 + 1) M
      else
        (s_ob M x0 11).bind fun _ =>
        (f118 x0 M).bind fun p59 =>
        (s_ob p59.2 x0 11).bind fun _ =>
        (f122 x0 x6 p59.1 p59.2).bind fun p61 =>
        if ¬ p61.1 = 0 then
          (sg_r p61.2 x0 11 60).bind fun v66 =>
          (v66).bind fun q68 =>
          (sa_i p61.2 q68 0 x1).bind fun v70 =>
          f186_l79 x0 x1 x2 x3 k140 n (x4 + 1) (x5 + ((v70 >>> (x6 &&& 31)) &&& 1)) (x6 + 1) p61.2
        else
          f186_l79 x0 x1 x2 x3 k140 n x4 x5 (x6 + 1) p61.2
theorem f186_l79_ok {d : Nat} {x0 : Nat} {x1 : Int32} {x2 : Int32} {x3 : Int32} {k140 : Int32 → Int32 → vm_M → Option (Int32 × vm_M)} {r : Int32 × vm_M} (hk140 : ∀ {y4 : Int32} {y5 : Int32} {M : vm_M} {lv : vm_L}, (0, .ref (x0)) ∈ lv → (1, .int (x1)) ∈ lv → (2, .int (x2)) ∈ lv → (3, .int (x3)) ∈ lv → (4, .int (y4)) ∈ lv → (5, .int (y5)) ∈ lv → k140 y4 y5 M = some r → Ev 0 (fun _ => 0) (vm_Cl (d + 7)) vp_186 11 11 false (some (.int)) (rI r) 140 lv [] M) : ∀ (n : Nat) {x4 : Int32} {x5 : Int32} {x6 : Int32} {M : vm_M} {lv : vm_L}, (0, .ref (x0)) ∈ lv → (1, .int (x1)) ∈ lv → (2, .int (x2)) ∈ lv → (3, .int (x3)) ∈ lv → (4, .int (x4)) ∈ lv → (5, .int (x5)) ∈ lv → (6, .int (x6)) ∈ lv → f186_l79 x0 x1 x2 x3 k140 n x4 x5 x6 M = some r → Ev 0 (fun _ => 0) (vm_Cl (d + 7)) vp_186 11 11 false (some (.int)) (rI r) 79 lv [] M := by
  intro n
  induction n with
  | zero =>
    intro x4 x5 x6 M lv l0 l1 l2 l3 l4 l5 l6 h
    cases h
  | succ n ih =>
    intro x4 x5 x6 M lv l0 l1 l2 l3 l4 l5 l6 h
    dsimp only [f186_l79] at h
    refine ev_iload (mm 50 rfl) l6 ?_
    refine ev_aload_nR (mm 51 rfl) l0 ?_
    obtain ⟨v47, e48, h⟩ := bind_so h
    refine ev_get_i (mm 52 rfl) rfl e48 ?_
    rcases ite_so h with ⟨c49, h⟩ | ⟨c49, h⟩
    · refine ev_ic_t 140 (mm 53 rfl) rfl c49 ?_
      exact hk140 l0 l1 l2 l3 l4 l5 h
    · refine ev_ic_f 140 (mm 53 rfl) rfl c49 ?_
      refine ev_aload_nR (mm 54 rfl) l0 ?_
      obtain ⟨v50, e51, h⟩ := bind_so h
      refine ev_get_r (mm 55 rfl) rfl e51 ?_
      refine ev_iload (mm 56 rfl) l6 ?_
      obtain ⟨q52, e53, h⟩ := bind_so h
      rw [e53]
      obtain ⟨v54, e55, h⟩ := bind_so h
      refine ev_iaload (mm 57 rfl) e55 ?_
      refine ev_iload_n (mm 58 rfl) l3 ?_
      rcases ite_so h with ⟨c56, h⟩ | ⟨c56, h⟩
      · refine ev_ic_t 134 (mm 59 rfl) rfl c56 ?_
        refine evs_iinc (mm 79 rfl) cI_1 l6 (by decide) (fun lv57 l6 s58 => ?_)
        have l0 := s58 _ _ l0 rfl
        have l1 := s58 _ _ l1 rfl
        have l2 := s58 _ _ l2 rfl
        have l3 := s58 _ _ l3 rfl
        have l4 := s58 _ _ l4 rfl
        have l5 := s58 _ _ l5 rfl
        refine ev_goto 79 (mm 80 rfl) rfl ?_
        exact ih l0 l1 l2 l3 l4 l5 l6 h
      · refine ev_ic_f 134 (mm 59 rfl) rfl c56 ?_
        refine ev_aload_nR (mm 60 rfl) l0 ?_
        refine ev_iload (mm 61 rfl) l6 ?_
        refine ev_aload_nR (mm 62 rfl) l0 ?_
        obtain ⟨_, e79, h⟩ := bind_so h
        obtain ⟨p59, e60, h⟩ := bind_so h
        refine ev_callV_I [] (mm 63 rfl) rfl rfl (Nat.le_of_ble_eq_true rfl) (s_ob_of e79) (f118_ok e60 (d + 6)) ?_
        obtain ⟨_, e78, h⟩ := bind_so h
        obtain ⟨p61, e62, h⟩ := bind_so h
        refine ev_callV_I [.int (x6), .int (p59.1)] (mm 64 rfl) rfl rfl (Nat.le_of_ble_eq_true rfl) (s_ob_of e78) (f122_ok e62 (d + 6)) ?_
        rcases ite_so h with ⟨c63, h⟩ | ⟨c63, h⟩
        · refine ev_if_t 115 (mm 65 rfl) rfl c63 ?_
          refine evs_iinc (mm 67 rfl) cI_1 l4 (by decide) (fun lv64 l4 s65 => ?_)
          have l0 := s65 _ _ l0 rfl
          have l1 := s65 _ _ l1 rfl
          have l2 := s65 _ _ l2 rfl
          have l3 := s65 _ _ l3 rfl
          have l5 := s65 _ _ l5 rfl
          have l6 := s65 _ _ l6 rfl
          refine ev_iload (mm 68 rfl) l5 ?_
          refine ev_aload_nR (mm 69 rfl) l0 ?_
          obtain ⟨v66, e67, h⟩ := bind_so h
          refine ev_get_r (mm 70 rfl) rfl e67 ?_
          refine ev_iload_n (mm 71 rfl) l1 ?_
          obtain ⟨q68, e69, h⟩ := bind_so h
          rw [e69]
          obtain ⟨v70, e71, h⟩ := bind_so h
          refine ev_iaload (mm 72 rfl) e71 ?_
          refine ev_iload (mm 73 rfl) l6 ?_
          refine ev_ishr (mm 74 rfl) ?_
          refine ev_iconst (mm 75 rfl) cI_1 ?_
          refine ev_iand (mm 76 rfl) ?_
          refine ev_iadd (mm 77 rfl) ?_
          refine evs_istore (mm 78 rfl) (by decide) (fun lv72 l5 s73 => ?_)
          have l0 := s73 _ _ l0 rfl
          have l1 := s73 _ _ l1 rfl
          have l2 := s73 _ _ l2 rfl
          have l3 := s73 _ _ l3 rfl
          have l4 := s73 _ _ l4 rfl
          have l6 := s73 _ _ l6 rfl
          refine evs_iinc (mm 79 rfl) cI_1 l6 (by decide) (fun lv74 l6 s75 => ?_)
          have l0 := s75 _ _ l0 rfl
          have l1 := s75 _ _ l1 rfl
          have l2 := s75 _ _ l2 rfl
          have l3 := s75 _ _ l3 rfl
          have l4 := s75 _ _ l4 rfl
          have l5 := s75 _ _ l5 rfl
          refine ev_goto 79 (mm 80 rfl) rfl ?_
          exact ih l0 l1 l2 l3 l4 l5 l6 h
        · refine ev_if_f 115 (mm 65 rfl) rfl c63 ?_
          refine ev_goto 134 (mm 66 rfl) rfl ?_
          refine evs_iinc (mm 79 rfl) cI_1 l6 (by decide) (fun lv76 l6 s77 => ?_)
          have l0 := s77 _ _ l0 rfl
          have l1 := s77 _ _ l1 rfl
          have l2 := s77 _ _ l2 rfl
          have l3 := s77 _ _ l3 rfl
          have l4 := s77 _ _ l4 rfl
          have l5 := s77 _ _ l5 rfl
          refine ev_goto 79 (mm 80 rfl) rfl ?_
          exact ih l0 l1 l2 l3 l4 l5 l6 h
def f186_l163 (x0 : Nat) (x1 : Int32) (x2 : Int32) (x3 : Int32) (k227 : Int64 → vm_M → Option (Int32 × vm_M)) : Nat → Int64 → Int32 → vm_M → Option (Int32 × vm_M)
  | 0 => fun _ _ _ => none
  | n + 1 => fun x6 x8 M =>
    (sg_i M x0 11 53).bind fun v94 =>
    if v94 ≤ x8 then
      k227 x6 M
    else
      (sg_r M x0 11 61).bind fun v97 =>
      (v97).bind fun q99 =>
      (sa_i M q99 2 x8).bind fun v101 =>
      if v101 = 0 then
        f186_l163 x0 x1 x2 x3 k227 n (x6 + 0) (x8 + 1) M
      else
        (sg_r M x0 11 59).bind fun v108 =>
        (v108).bind fun q110 =>
        (sa_i M q110 0 x8).bind fun v112 =>
        if ¬ v112 = x3 then
          f186_l163 x0 x1 x2 x3 k227 n (x6 + 0) (x8 + 1) M
        else
          (sg_r M x0 11 57).bind fun v119 =>
          (v119).bind fun q121 =>
          (sa_i M q121 0 x8).bind fun v123 =>
          if ¬ v123 = x2 then
            f186_l163 x0 x1 x2 x3 k227 n (x6 + 0) (x8 + 1) M
          else
            (sg_r M x0 11 56).bind fun v130 =>
            (v130).bind fun q132 =>
            (sa_i M q132 0 x8).bind fun v134 =>
            f186_l163 x0 x1 x2 x3 k227 n (x6 + (v134 : Int32).toInt64) (x8 + 1) M
theorem f186_l163_ok {d : Nat} {x0 : Nat} {x1 : Int32} {x2 : Int32} {x3 : Int32} {k227 : Int64 → vm_M → Option (Int32 × vm_M)} {r : Int32 × vm_M} (hk227 : ∀ {y6 : Int64} {M : vm_M} {lv : vm_L}, (0, .ref (x0)) ∈ lv → (1, .int (x1)) ∈ lv → (2, .int (x2)) ∈ lv → (3, .int (x3)) ∈ lv → (6, .long (y6)) ∈ lv → k227 y6 M = some r → Ev 0 (fun _ => 0) (vm_Cl (d + 7)) vp_186 11 11 false (some (.int)) (rI r) 227 lv [] M) : ∀ (n : Nat) {x6 : Int64} {x8 : Int32} {M : vm_M} {lv : vm_L}, (0, .ref (x0)) ∈ lv → (1, .int (x1)) ∈ lv → (2, .int (x2)) ∈ lv → (3, .int (x3)) ∈ lv → (6, .long (x6)) ∈ lv → (8, .int (x8)) ∈ lv → f186_l163 x0 x1 x2 x3 k227 n x6 x8 M = some r → Ev 0 (fun _ => 0) (vm_Cl (d + 7)) vp_186 11 11 false (some (.int)) (rI r) 163 lv [] M := by
  intro n
  induction n with
  | zero =>
    intro x6 x8 M lv l0 l1 l2 l3 l6 l8 h
    cases h
  | succ n ih =>
    intro x6 x8 M lv l0 l1 l2 l3 l6 l8 h
    dsimp only [f186_l163] at h
    refine ev_iload (mm 96 rfl) l8 ?_
    refine ev_aload_nR (mm 97 rfl) l0 ?_
    obtain ⟨v94, e95, h⟩ := bind_so h
    refine ev_get_i (mm 98 rfl) rfl e95 ?_
    rcases ite_so h with ⟨c96, h⟩ | ⟨c96, h⟩
    · refine ev_ic_t 227 (mm 99 rfl) rfl c96 ?_
      exact hk227 l0 l1 l2 l3 l6 h
    · refine ev_ic_f 227 (mm 99 rfl) rfl c96 ?_
      refine ev_lload (mm 100 rfl) l6 ?_
      refine ev_aload_nR (mm 101 rfl) l0 ?_
      obtain ⟨v97, e98, h⟩ := bind_so h
      refine ev_get_r (mm 102 rfl) rfl e98 ?_
      refine ev_iload (mm 103 rfl) l8 ?_
      obtain ⟨q99, e100, h⟩ := bind_so h
      rw [e100]
      obtain ⟨v101, e102, h⟩ := bind_so h
      refine ev_zaload (mm 104 rfl) e102 ?_
      rcases ite_so h with ⟨c103, h⟩ | ⟨c103, h⟩
      · refine ev_if_t 217 (mm 105 rfl) rfl c103 ?_
        refine ev_lconst (mm 124 rfl) cL_0 ?_
        refine ev_ladd (mm 125 rfl) ?_
        refine evs_lstore (mm 126 rfl) (by decide) (fun lv104 l6 s105 => ?_)
        have l0 := s105 _ _ l0 rfl
        have l1 := s105 _ _ l1 rfl
        have l2 := s105 _ _ l2 rfl
        have l3 := s105 _ _ l3 rfl
        have l8 := s105 _ _ l8 rfl
        refine evs_iinc (mm 127 rfl) cI_1 l8 (by decide) (fun lv106 l8 s107 => ?_)
        have l0 := s107 _ _ l0 rfl
        have l1 := s107 _ _ l1 rfl
        have l2 := s107 _ _ l2 rfl
        have l3 := s107 _ _ l3 rfl
        have l6 := s107 _ _ l6 rfl
        refine ev_goto 163 (mm 128 rfl) rfl ?_
        exact ih l0 l1 l2 l3 l6 l8 h
      · refine ev_if_f 217 (mm 105 rfl) rfl c103 ?_
        refine ev_aload_nR (mm 106 rfl) l0 ?_
        obtain ⟨v108, e109, h⟩ := bind_so h
        refine ev_get_r (mm 107 rfl) rfl e109 ?_
        refine ev_iload (mm 108 rfl) l8 ?_
        obtain ⟨q110, e111, h⟩ := bind_so h
        rw [e111]
        obtain ⟨v112, e113, h⟩ := bind_so h
        refine ev_iaload (mm 109 rfl) e113 ?_
        refine ev_iload_n (mm 110 rfl) l3 ?_
        rcases ite_so h with ⟨c114, h⟩ | ⟨c114, h⟩
        · refine ev_ic_t 217 (mm 111 rfl) rfl c114 ?_
          refine ev_lconst (mm 124 rfl) cL_0 ?_
          refine ev_ladd (mm 125 rfl) ?_
          refine evs_lstore (mm 126 rfl) (by decide) (fun lv115 l6 s116 => ?_)
          have l0 := s116 _ _ l0 rfl
          have l1 := s116 _ _ l1 rfl
          have l2 := s116 _ _ l2 rfl
          have l3 := s116 _ _ l3 rfl
          have l8 := s116 _ _ l8 rfl
          refine evs_iinc (mm 127 rfl) cI_1 l8 (by decide) (fun lv117 l8 s118 => ?_)
          have l0 := s118 _ _ l0 rfl
          have l1 := s118 _ _ l1 rfl
          have l2 := s118 _ _ l2 rfl
          have l3 := s118 _ _ l3 rfl
          have l6 := s118 _ _ l6 rfl
          refine ev_goto 163 (mm 128 rfl) rfl ?_
          exact ih l0 l1 l2 l3 l6 l8 h
        · refine ev_ic_f 217 (mm 111 rfl) rfl c114 ?_
          refine ev_aload_nR (mm 112 rfl) l0 ?_
          obtain ⟨v119, e120, h⟩ := bind_so h
          refine ev_get_r (mm 113 rfl) rfl e120 ?_
          refine ev_iload (mm 114 rfl) l8 ?_
          obtain ⟨q121, e122, h⟩ := bind_so h
          rw [e122]
          obtain ⟨v123, e124, h⟩ := bind_so h
          refine ev_iaload (mm 115 rfl) e124 ?_
          refine ev_iload_n (mm 116 rfl) l2 ?_
          rcases ite_so h with ⟨c125, h⟩ | ⟨c125, h⟩
          · refine ev_ic_t 217 (mm 117 rfl) rfl c125 ?_
            refine ev_lconst (mm 124 rfl) cL_0 ?_
            refine ev_ladd (mm 125 rfl) ?_
            refine evs_lstore (mm 126 rfl) (by decide) (fun lv126 l6 s127 => ?_)
            have l0 := s127 _ _ l0 rfl
            have l1 := s127 _ _ l1 rfl
            have l2 := s127 _ _ l2 rfl
            have l3 := s127 _ _ l3 rfl
            have l8 := s127 _ _ l8 rfl
            refine evs_iinc (mm 127 rfl) cI_1 l8 (by decide) (fun lv128 l8 s129 => ?_)
            have l0 := s129 _ _ l0 rfl
            have l1 := s129 _ _ l1 rfl
            have l2 := s129 _ _ l2 rfl
            have l3 := s129 _ _ l3 rfl
            have l6 := s129 _ _ l6 rfl
            refine ev_goto 163 (mm 128 rfl) rfl ?_
            exact ih l0 l1 l2 l3 l6 l8 h
          · refine ev_ic_f 217 (mm 117 rfl) rfl c125 ?_
            refine ev_aload_nR (mm 118 rfl) l0 ?_
            obtain ⟨v130, e131, h⟩ := bind_so h
            refine ev_get_r (mm 119 rfl) rfl e131 ?_
            refine ev_iload (mm 120 rfl) l8 ?_
            obtain ⟨q132, e133, h⟩ := bind_so h
            rw [e133]
            obtain ⟨v134, e135, h⟩ := bind_so h
            refine ev_iaload (mm 121 rfl) e135 ?_
            refine ev_i2l (mm 122 rfl) ?_
            refine ev_goto 218 (mm 123 rfl) rfl ?_
            refine ev_ladd (mm 125 rfl) ?_
            refine evs_lstore (mm 126 rfl) (by decide) (fun lv136 l6 s137 => ?_)
            have l0 := s137 _ _ l0 rfl
            have l1 := s137 _ _ l1 rfl
            have l2 := s137 _ _ l2 rfl
            have l3 := s137 _ _ l3 rfl
            have l8 := s137 _ _ l8 rfl
            refine evs_iinc (mm 127 rfl) cI_1 l8 (by decide) (fun lv138 l8 s139 => ?_)
            have l0 := s139 _ _ l0 rfl
            have l1 := s139 _ _ l1 rfl
            have l2 := s139 _ _ l2 rfl
            have l3 := s139 _ _ l3 rfl
            have l6 := s139 _ _ l6 rfl
            refine ev_goto 163 (mm 128 rfl) rfl ?_
            exact ih l0 l1 l2 l3 l6 l8 h
def f186_l242 (x0 : Nat) (x1 : Int32) (x2 : Int32) (x3 : Int32) (x6 : Int64) (k284 : Int64 → vm_M → Option (Int32 × vm_M)) : Nat → Int64 → Int32 → vm_M → Option (Int32 × vm_M)
  | 0 => fun _ _ _ => none
  | n + 1 => fun x8 x10 M =>
    (sg_i M x0 11 1).bind fun v150 =>
    if v150 ≤ x10 then
      k284 x8 M
    else
      (sg_r M x0 11 5).bind fun v153 =>
      (v153).bind fun q155 =>
      (sa_i M q155 0 x10).bind fun v157 =>
      if ¬ v157 = x3 then
        f186_l242 x0 x1 x2 x3 x6 k284 n (x8 + 0) (x10 + 1) M
      else
        (sg_r M x0 11 48).bind fun v164 =>
        (v164).bind fun q166 =>
        (sa_l M q166 x10).bind fun v168 =>
        f186_l242 x0 x1 x2 x3 x6 k284 n (x8 + v168) (x10 + 1) M
theorem f186_l242_ok {d : Nat} {x0 : Nat} {x1 : Int32} {x2 : Int32} {x3 : Int32} {x6 : Int64} {k284 : Int64 → vm_M → Option (Int32 × vm_M)} {r : Int32 × vm_M} (hk284 : ∀ {y8 : Int64} {M : vm_M} {lv : vm_L}, (0, .ref (x0)) ∈ lv → (1, .int (x1)) ∈ lv → (2, .int (x2)) ∈ lv → (6, .long (x6)) ∈ lv → (8, .long (y8)) ∈ lv → k284 y8 M = some r → Ev 0 (fun _ => 0) (vm_Cl (d + 7)) vp_186 11 11 false (some (.int)) (rI r) 284 lv [] M) : ∀ (n : Nat) {x8 : Int64} {x10 : Int32} {M : vm_M} {lv : vm_L}, (0, .ref (x0)) ∈ lv → (1, .int (x1)) ∈ lv → (2, .int (x2)) ∈ lv → (3, .int (x3)) ∈ lv → (6, .long (x6)) ∈ lv → (8, .long (x8)) ∈ lv → (10, .int (x10)) ∈ lv → f186_l242 x0 x1 x2 x3 x6 k284 n x8 x10 M = some r → Ev 0 (fun _ => 0) (vm_Cl (d + 7)) vp_186 11 11 false (some (.int)) (rI r) 242 lv [] M := by
  intro n
  induction n with
  | zero =>
    intro x8 x10 M lv l0 l1 l2 l3 l6 l8 l10 h
    cases h
  | succ n ih =>
    intro x8 x10 M lv l0 l1 l2 l3 l6 l8 l10 h
    dsimp only [f186_l242] at h
    refine ev_iload (mm 138 rfl) l10 ?_
    refine ev_aload_nR (mm 139 rfl) l0 ?_
    obtain ⟨v150, e151, h⟩ := bind_so h
    refine ev_get_i (mm 140 rfl) rfl e151 ?_
    rcases ite_so h with ⟨c152, h⟩ | ⟨c152, h⟩
    · refine ev_ic_t 284 (mm 141 rfl) rfl c152 ?_
      exact hk284 l0 l1 l2 l6 l8 h
    · refine ev_ic_f 284 (mm 141 rfl) rfl c152 ?_
      refine ev_lload (mm 142 rfl) l8 ?_
      refine ev_aload_nR (mm 143 rfl) l0 ?_
      obtain ⟨v153, e154, h⟩ := bind_so h
      refine ev_get_r (mm 144 rfl) rfl e154 ?_
      refine ev_iload (mm 145 rfl) l10 ?_
      obtain ⟨q155, e156, h⟩ := bind_so h
      rw [e156]
      obtain ⟨v157, e158, h⟩ := bind_so h
      refine ev_iaload (mm 146 rfl) e158 ?_
      refine ev_iload_n (mm 147 rfl) l3 ?_
      rcases ite_so h with ⟨c159, h⟩ | ⟨c159, h⟩
      · refine ev_ic_t 274 (mm 148 rfl) rfl c159 ?_
        refine ev_lconst (mm 154 rfl) cL_0 ?_
        refine ev_ladd (mm 155 rfl) ?_
        refine evs_lstore (mm 156 rfl) (by decide) (fun lv160 l8 s161 => ?_)
        have l0 := s161 _ _ l0 rfl
        have l1 := s161 _ _ l1 rfl
        have l2 := s161 _ _ l2 rfl
        have l3 := s161 _ _ l3 rfl
        have l6 := s161 _ _ l6 rfl
        have l10 := s161 _ _ l10 rfl
        refine evs_iinc (mm 157 rfl) cI_1 l10 (by decide) (fun lv162 l10 s163 => ?_)
        have l0 := s163 _ _ l0 rfl
        have l1 := s163 _ _ l1 rfl
        have l2 := s163 _ _ l2 rfl
        have l3 := s163 _ _ l3 rfl
        have l6 := s163 _ _ l6 rfl
        have l8 := s163 _ _ l8 rfl
        refine ev_goto 242 (mm 158 rfl) rfl ?_
        exact ih l0 l1 l2 l3 l6 l8 l10 h
      · refine ev_ic_f 274 (mm 148 rfl) rfl c159 ?_
        refine ev_aload_nR (mm 149 rfl) l0 ?_
        obtain ⟨v164, e165, h⟩ := bind_so h
        refine ev_get_r (mm 150 rfl) rfl e165 ?_
        refine ev_iload (mm 151 rfl) l10 ?_
        obtain ⟨q166, e167, h⟩ := bind_so h
        rw [e167]
        obtain ⟨v168, e169, h⟩ := bind_so h
        refine ev_laload (mm 152 rfl) e169 ?_
        refine ev_goto 275 (mm 153 rfl) rfl ?_
        refine ev_ladd (mm 155 rfl) ?_
        refine evs_lstore (mm 156 rfl) (by decide) (fun lv170 l8 s171 => ?_)
        have l0 := s171 _ _ l0 rfl
        have l1 := s171 _ _ l1 rfl
        have l2 := s171 _ _ l2 rfl
        have l3 := s171 _ _ l3 rfl
        have l6 := s171 _ _ l6 rfl
        have l10 := s171 _ _ l10 rfl
        refine evs_iinc (mm 157 rfl) cI_1 l10 (by decide) (fun lv172 l10 s173 => ?_)
        have l0 := s173 _ _ l0 rfl
        have l1 := s173 _ _ l1 rfl
        have l2 := s173 _ _ l2 rfl
        have l3 := s173 _ _ l3 rfl
        have l6 := s173 _ _ l6 rfl
        have l8 := s173 _ _ l8 rfl
        refine ev_goto 242 (mm 158 rfl) rfl ?_
        exact ih l0 l1 l2 l3 l6 l8 l10 h
/-- PupilCoinModel.adopt(I)I -/
def f186 (x0 : Nat) (x1 : Int32) (M : vm_M) : Option (Int32 × vm_M) :=
  (sg_i M x0 11 53).bind fun v1 =>
  (f112 x1 0 (v1 - 1) M).bind fun p3 =>
  if p3.1 = 0 then
    some (1, p3.2)
  else
    (sg_r p3.2 x0 11 61).bind fun v6 =>
    (v6).bind fun q8 =>
    (sa_i p3.2 q8 2 x1).bind fun v10 =>
    if v10 = 0 then
      (sg_r p3.2 x0 11 57).bind fun v13 =>
      (v13).bind fun q15 =>
      (sa_i p3.2 q15 0 x1).bind fun v17 =>
      (sg_r p3.2 x0 11 59).bind fun v21 =>
      (v21).bind fun q23 =>
      (sa_i p3.2 q23 0 x1).bind fun v25 =>
      (sg_i p3.2 x0 11 0).bind fun v29 =>
      (sg_r p3.2 x0 11 58).bind fun v31 =>
      (v31).bind fun q33 =>
      (sa_i p3.2 q33 0 x1).bind fun v35 =>
      if (v35 + 10) ≤ v29 then
        (sg_i p3.2 x0 11 0).bind fun v38 =>
        if v38 < (100 * v17) then
          f186_l79 x0 x1 v17 v25
            (fun y80 y81 M82 =>
              if (2 * y81) ≤ y80 then
                (sg_r M82 x0 11 56).bind fun v84 =>
                (v84).bind fun q86 =>
                (sa_i M82 q86 0 x1).bind fun v88 =>
                f186_l163 x0 x1 v17 v25
                  (fun y140 M141 =>
                    (sg_i M141 x0 11 0).bind fun v142 =>
                    (s_ob M141 x0 11).bind fun _ =>
                    (f177 x0 v17 v142 M141).bind fun p144 =>
                    f186_l242 x0 x1 v17 v25 y140
                      (fun y174 M175 =>
                        (sg_i M175 x0 11 0).bind fun v176 =>
                        (s_ob M175 x0 11).bind fun _ =>
                        (f160 x0 v17 v176 M175).bind fun p178 =>
                        (s_ob p178.2 x0 11).bind fun _ =>
                        (f162 x0 p178.1 4 0 p178.2).bind fun p180 =>
                        (s_dl (y174 * (p180.1 : Int32).toInt64) 100).bind fun v182 =>
                        if (lg_cmp y140 v182) ≤ 0 then
                          (sg_r p180.2 x0 11 61).bind fun v185 =>
                          (v185).bind fun q187 =>
                          (ss_i p180.2 q187 2 x1 1).bind fun M189 =>
                          some (0, M189)
                        else
                          some (5, p180.2))
                      100000 0 0 p144)
                  100000 ((v88 : Int32).toInt64) 0 M82
              else
                some (4, M82))
            100000 0 0 0 p3.2
        else
          some (3, p3.2)
      else
        some (2, p3.2)
    else
      some (1, p3.2)
theorem f186_ok {x0 : Nat} {x1 : Int32} {M : vm_M} {r : Int32 × vm_M} (h : f186 x0 x1 M = some r) (d : Nat) : vm_Cl (d + 8) 186 [.ref (x0), .int (x1)] M (rI r) := by
  have key : Ev 0 (fun _ => 0) (vm_Cl (d + 7)) vp_186 11 11 false (some (.int)) (rI r) 0 (lv_args 0 [.ref (x0), .int (x1)]) [] M := by
    have l0 : (0, .ref (x0)) ∈ lv_args 0 [.ref (x0), .int (x1)] := List.Mem.head _
    have l1 : (1, .int (x1)) ∈ lv_args 0 [.ref (x0), .int (x1)] := List.Mem.tail _ (List.Mem.head _)
    unfold f186 at h
    refine ev_iload_n (mm 0 rfl) l1 ?_
    refine ev_iconst (mm 1 rfl) cI_0 ?_
    refine ev_aload_nR (mm 2 rfl) l0 ?_
    obtain ⟨v1, e2, h⟩ := bind_so h
    refine ev_get_i (mm 3 rfl) rfl e2 ?_
    refine ev_iconst (mm 4 rfl) cI_1 ?_
    refine ev_isub (mm 5 rfl) ?_
    obtain ⟨p3, e4, h⟩ := bind_so h
    refine ev_callS_I [.int (x1), .int (0), .int ((v1 - 1))] (mm 6 rfl) (by decide) rfl rfl (Nat.le_of_ble_eq_true rfl) (f112_ok e4 (d + 6)) ?_
    rcases ite_so h with ⟨c5, h⟩ | ⟨c5, h⟩
    · refine ev_if_t 23 (mm 7 rfl) rfl c5 ?_
      refine ev_iconst (mm 13 rfl) cI_1 ?_
      exact ev_ireturn (mm 14 rfl) h
    · refine ev_if_f 23 (mm 7 rfl) rfl c5 ?_
      refine ev_aload_nR (mm 8 rfl) l0 ?_
      obtain ⟨v6, e7, h⟩ := bind_so h
      refine ev_get_r (mm 9 rfl) rfl e7 ?_
      refine ev_iload_n (mm 10 rfl) l1 ?_
      obtain ⟨q8, e9, h⟩ := bind_so h
      rw [e9]
      obtain ⟨v10, e11, h⟩ := bind_so h
      refine ev_zaload (mm 11 rfl) e11 ?_
      rcases ite_so h with ⟨c12, h⟩ | ⟨c12, h⟩
      · refine ev_if_t 25 (mm 12 rfl) rfl c12 ?_
        refine ev_aload_nR (mm 15 rfl) l0 ?_
        obtain ⟨v13, e14, h⟩ := bind_so h
        refine ev_get_r (mm 16 rfl) rfl e14 ?_
        refine ev_iload_n (mm 17 rfl) l1 ?_
        obtain ⟨q15, e16, h⟩ := bind_so h
        rw [e16]
        obtain ⟨v17, e18, h⟩ := bind_so h
        refine ev_iaload (mm 18 rfl) e18 ?_
        refine evs_istore_n (mm 19 rfl) (by decide) (fun lv19 l2 s20 => ?_)
        have l0 := s20 _ _ l0 rfl
        have l1 := s20 _ _ l1 rfl
        refine ev_aload_nR (mm 20 rfl) l0 ?_
        obtain ⟨v21, e22, h⟩ := bind_so h
        refine ev_get_r (mm 21 rfl) rfl e22 ?_
        refine ev_iload_n (mm 22 rfl) l1 ?_
        obtain ⟨q23, e24, h⟩ := bind_so h
        rw [e24]
        obtain ⟨v25, e26, h⟩ := bind_so h
        refine ev_iaload (mm 23 rfl) e26 ?_
        refine evs_istore_n (mm 24 rfl) (by decide) (fun lv27 l3 s28 => ?_)
        have l0 := s28 _ _ l0 rfl
        have l1 := s28 _ _ l1 rfl
        have l2 := s28 _ _ l2 rfl
        refine ev_aload_nR (mm 25 rfl) l0 ?_
        obtain ⟨v29, e30, h⟩ := bind_so h
        refine ev_get_i (mm 26 rfl) rfl e30 ?_
        refine ev_aload_nR (mm 27 rfl) l0 ?_
        obtain ⟨v31, e32, h⟩ := bind_so h
        refine ev_get_r (mm 28 rfl) rfl e32 ?_
        refine ev_iload_n (mm 29 rfl) l1 ?_
        obtain ⟨q33, e34, h⟩ := bind_so h
        rw [e34]
        obtain ⟨v35, e36, h⟩ := bind_so h
        refine ev_iaload (mm 30 rfl) e36 ?_
        refine ev_bipush (mm 31 rfl) cB_10 ?_
        refine ev_iadd (mm 32 rfl) ?_
        rcases ite_so h with ⟨c37, h⟩ | ⟨c37, h⟩
        · refine ev_ic_t 57 (mm 33 rfl) rfl c37 ?_
          refine ev_aload_nR (mm 36 rfl) l0 ?_
          obtain ⟨v38, e39, h⟩ := bind_so h
          refine ev_get_i (mm 37 rfl) rfl e39 ?_
          refine ev_bipush (mm 38 rfl) cB_100 ?_
          refine ev_iload_n (mm 39 rfl) l2 ?_
          refine ev_imul (mm 40 rfl) ?_
          rcases ite_so h with ⟨c40, h⟩ | ⟨c40, h⟩
          · refine ev_ic_t 70 (mm 41 rfl) rfl c40 ?_
            refine ev_iconst (mm 44 rfl) cI_0 ?_
            refine evs_istore (mm 45 rfl) (by decide) (fun lv41 l4 s42 => ?_)
            have l0 := s42 _ _ l0 rfl
            have l1 := s42 _ _ l1 rfl
            have l2 := s42 _ _ l2 rfl
            have l3 := s42 _ _ l3 rfl
            refine ev_iconst (mm 46 rfl) cI_0 ?_
            refine evs_istore (mm 47 rfl) (by decide) (fun lv43 l5 s44 => ?_)
            have l0 := s44 _ _ l0 rfl
            have l1 := s44 _ _ l1 rfl
            have l2 := s44 _ _ l2 rfl
            have l3 := s44 _ _ l3 rfl
            have l4 := s44 _ _ l4 rfl
            refine ev_iconst (mm 48 rfl) cI_0 ?_
            refine evs_istore (mm 49 rfl) (by decide) (fun lv45 l6 s46 => ?_)
            have l0 := s46 _ _ l0 rfl
            have l1 := s46 _ _ l1 rfl
            have l2 := s46 _ _ l2 rfl
            have l3 := s46 _ _ l3 rfl
            have l4 := s46 _ _ l4 rfl
            have l5 := s46 _ _ l5 rfl
            refine f186_l79_ok ?_ 100000 l0 l1 l2 l3 l4 l5 l6 h
            · intro y80 y81 M82 lv l0 l1 l2 l3 l4 l5
              intro h
              refine ev_iconst (mm 81 rfl) cI_2 ?_
              refine ev_iload (mm 82 rfl) l5 ?_
              refine ev_imul (mm 83 rfl) ?_
              refine ev_iload (mm 84 rfl) l4 ?_
              rcases ite_so h with ⟨c83, h⟩ | ⟨c83, h⟩
              · refine ev_ic_t 151 (mm 85 rfl) rfl c83 ?_
                refine ev_aload_nR (mm 88 rfl) l0 ?_
                obtain ⟨v84, e85, h⟩ := bind_so h
                refine ev_get_r (mm 89 rfl) rfl e85 ?_
                refine ev_iload_n (mm 90 rfl) l1 ?_
                obtain ⟨q86, e87, h⟩ := bind_so h
                rw [e87]
                obtain ⟨v88, e89, h⟩ := bind_so h
                refine ev_iaload (mm 91 rfl) e89 ?_
                refine ev_i2l (mm 92 rfl) ?_
                refine evs_lstore (mm 93 rfl) (by decide) (fun lv90 l6 s91 => ?_)
                have l0 := s91 _ _ l0 rfl
                have l1 := s91 _ _ l1 rfl
                have l2 := s91 _ _ l2 rfl
                have l3 := s91 _ _ l3 rfl
                refine ev_iconst (mm 94 rfl) cI_0 ?_
                refine evs_istore (mm 95 rfl) (by decide) (fun lv92 l8 s93 => ?_)
                have l0 := s93 _ _ l0 rfl
                have l1 := s93 _ _ l1 rfl
                have l2 := s93 _ _ l2 rfl
                have l3 := s93 _ _ l3 rfl
                have l6 := s93 _ _ l6 rfl
                refine f186_l163_ok ?_ 100000 l0 l1 l2 l3 l6 l8 h
                · intro y140 M141 lv l0 l1 l2 l3 l6
                  intro h
                  refine ev_aload_nR (mm 129 rfl) l0 ?_
                  refine ev_iload_n (mm 130 rfl) l2 ?_
                  refine ev_aload_nR (mm 131 rfl) l0 ?_
                  obtain ⟨v142, e143, h⟩ := bind_so h
                  refine ev_get_i (mm 132 rfl) rfl e143 ?_
                  obtain ⟨_, e193, h⟩ := bind_so h
                  obtain ⟨p144, e145, h⟩ := bind_so h
                  refine ev_callV_V [.int (v17), .int (v142)] (mm 133 rfl) rfl rfl (Nat.le_of_ble_eq_true rfl) (s_ob_of e193) (f177_ok e145 (d + 0)) ?_
                  refine ev_lconst (mm 134 rfl) cL_0 ?_
                  refine evs_lstore (mm 135 rfl) (by decide) (fun lv146 l8 s147 => ?_)
                  have l0 := s147 _ _ l0 rfl
                  have l1 := s147 _ _ l1 rfl
                  have l2 := s147 _ _ l2 rfl
                  have l3 := s147 _ _ l3 rfl
                  have l6 := s147 _ _ l6 rfl
                  refine ev_iconst (mm 136 rfl) cI_0 ?_
                  refine evs_istore (mm 137 rfl) (by decide) (fun lv148 l10 s149 => ?_)
                  have l0 := s149 _ _ l0 rfl
                  have l1 := s149 _ _ l1 rfl
                  have l2 := s149 _ _ l2 rfl
                  have l3 := s149 _ _ l3 rfl
                  have l6 := s149 _ _ l6 rfl
                  have l8 := s149 _ _ l8 rfl
                  refine f186_l242_ok ?_ 100000 l0 l1 l2 l3 l6 l8 l10 h
                  · intro y174 M175 lv l0 l1 l2 l6 l8
                    intro h
                    refine ev_lload (mm 159 rfl) l6 ?_
                    refine ev_lload (mm 160 rfl) l8 ?_
                    refine ev_aload_nR (mm 161 rfl) l0 ?_
                    refine ev_aload_nR (mm 162 rfl) l0 ?_
                    refine ev_iload_n (mm 163 rfl) l2 ?_
                    refine ev_aload_nR (mm 164 rfl) l0 ?_
                    obtain ⟨v176, e177, h⟩ := bind_so h
                    refine ev_get_i (mm 165 rfl) rfl e177 ?_
                    obtain ⟨_, e192, h⟩ := bind_so h
                    obtain ⟨p178, e179, h⟩ := bind_so h
                    refine ev_callV_I [.int (v17), .int (v176)] (mm 166 rfl) rfl rfl (Nat.le_of_ble_eq_true rfl) (s_ob_of e192) (f160_ok e179 (d + 6)) ?_
                    refine ev_iconst (mm 167 rfl) cI_4 ?_
                    refine ev_iconst (mm 168 rfl) cI_0 ?_
                    obtain ⟨_, e191, h⟩ := bind_so h
                    obtain ⟨p180, e181, h⟩ := bind_so h
                    refine ev_callV_I [.int (p178.1), .int (4), .int (0)] (mm 169 rfl) rfl rfl (Nat.le_of_ble_eq_true rfl) (s_ob_of e191) (f162_ok e181 (d + 5)) ?_
                    refine ev_i2l (mm 170 rfl) ?_
                    refine ev_lmul (mm 171 rfl) ?_
                    refine ev_ldc2_w (mm 172 rfl) cJ_100 ?_
                    obtain ⟨v182, e183, h⟩ := bind_so h
                    refine ev_ldiv (mm 173 rfl) e183 ?_
                    refine ev_lcmp (mm 174 rfl) ?_
                    rcases ite_so h with ⟨c184, h⟩ | ⟨c184, h⟩
                    · refine ev_if_t 315 (mm 175 rfl) rfl c184 ?_
                      refine ev_aload_nR (mm 178 rfl) l0 ?_
                      obtain ⟨v185, e186, h⟩ := bind_so h
                      refine ev_get_r (mm 179 rfl) rfl e186 ?_
                      refine ev_iload_n (mm 180 rfl) l1 ?_
                      refine ev_iconst (mm 181 rfl) cI_1 ?_
                      obtain ⟨q187, e188, h⟩ := bind_so h
                      rw [e188]
                      obtain ⟨M189, e190, h⟩ := bind_so h
                      refine ev_zastore (mm 182 rfl) e190 ?_
                      refine ev_iconst (mm 183 rfl) cI_0 ?_
                      exact ev_ireturn (mm 184 rfl) h
                    · refine ev_if_f 315 (mm 175 rfl) rfl c184 ?_
                      refine ev_iconst (mm 176 rfl) cI_5 ?_
                      exact ev_ireturn (mm 177 rfl) h
              · refine ev_ic_f 151 (mm 85 rfl) rfl c83 ?_
                refine ev_iconst (mm 86 rfl) cI_4 ?_
                exact ev_ireturn (mm 87 rfl) h
          · refine ev_ic_f 70 (mm 41 rfl) rfl c40 ?_
            refine ev_iconst (mm 42 rfl) cI_3 ?_
            exact ev_ireturn (mm 43 rfl) h
        · refine ev_ic_f 57 (mm 33 rfl) rfl c37 ?_
          refine ev_iconst (mm 34 rfl) cI_2 ?_
          exact ev_ireturn (mm 35 rfl) h
      · refine ev_if_f 25 (mm 12 rfl) rfl c12 ?_
        refine ev_iconst (mm 13 rfl) cI_1 ?_
        exact ev_ireturn (mm 14 rfl) h
  exact ⟨by decide, Nat.le_of_ble_eq_true rfl, key.1, key.2⟩
/-- PupilCoinModel.sumsBeside(I)V -/
def f187 (x0 : Nat) (x1 : Int32) (M : vm_M) : Option (vm_M) :=
  (s_ob M x0 11).bind fun _ =>
  (f176 x0 x1 M).bind fun p1 =>
  (sg_i p1 x0 11 0).bind fun v3 =>
  (s_ob p1 x0 11).bind fun _ =>
  (f170 x0 x1 v3 8 (-1) (-1) p1).bind fun p5 =>
  some p5
theorem f187_ok {x0 : Nat} {x1 : Int32} {M : vm_M} {r : vm_M} (h : f187 x0 x1 M = some r) (d : Nat) : vm_Cl (d + 7) 187 [.ref (x0), .int (x1)] M (rV r) := by
  have key : Ev 0 (fun _ => 0) (vm_Cl (d + 6)) vp_187 11 2 false none (rV r) 0 (lv_args 0 [.ref (x0), .int (x1)]) [] M := by
    have l0 : (0, .ref (x0)) ∈ lv_args 0 [.ref (x0), .int (x1)] := List.Mem.head _
    have l1 : (1, .int (x1)) ∈ lv_args 0 [.ref (x0), .int (x1)] := List.Mem.tail _ (List.Mem.head _)
    unfold f187 at h
    refine ev_aload_nR (mm 0 rfl) l0 ?_
    refine ev_iload_n (mm 1 rfl) l1 ?_
    obtain ⟨_, e8, h⟩ := bind_so h
    obtain ⟨p1, e2, h⟩ := bind_so h
    refine ev_callV_V [.int (x1)] (mm 2 rfl) rfl rfl (Nat.le_of_ble_eq_true rfl) (s_ob_of e8) (f176_ok e2 (d + 0)) ?_
    refine ev_aload_nR (mm 3 rfl) l0 ?_
    refine ev_iload_n (mm 4 rfl) l1 ?_
    refine ev_aload_nR (mm 5 rfl) l0 ?_
    obtain ⟨v3, e4, h⟩ := bind_so h
    refine ev_get_i (mm 6 rfl) rfl e4 ?_
    refine ev_bipush (mm 7 rfl) cB_8 ?_
    refine ev_iconst (mm 8 rfl) cI_m1 ?_
    refine ev_iconst (mm 9 rfl) cI_m1 ?_
    obtain ⟨_, e7, h⟩ := bind_so h
    obtain ⟨p5, e6, h⟩ := bind_so h
    refine ev_callV_V [.int (x1), .int (v3), .int (8), .int ((-1)), .int ((-1))] (mm 10 rfl) rfl rfl (Nat.le_of_ble_eq_true rfl) (s_ob_of e7) (f170_ok e6 (d + 1)) ?_
    exact ev_return (mm 11 rfl) h
  exact ⟨by decide, Nat.le_of_ble_eq_true rfl, key.1, key.2⟩
/-- PupilCoinModel.other(II)J -/
def f188 (x0 : Nat) (x1 : Int32) (x2 : Int32) (M : vm_M) : Option (Int64 × vm_M) :=
  (sg_i M x0 11 26).bind fun v1 =>
  if v1 = 0 then
    some ((-2000000000000), M)
  else
    (s_ob M x0 11).bind fun _ =>
    (f116 x0 x1 M).bind fun p4 =>
    if p4.1 = 0 then
      some ((-2000000000000), p4.2)
    else
      (f115 x2 p4.2).bind fun p7 =>
      if ¬ p7.1 = 0 then
        (s_ob p7.2 x0 11).bind fun _ =>
        (f187 x0 x2 p7.2).bind fun p10 =>
        (sg_r p10 x0 11 48).bind fun v12 =>
        (v12).bind fun q14 =>
        (sa_l p10 q14 x1).bind fun v16 =>
        some (v16, p10)
      else
        some ((-2000000000000), p7.2)
theorem f188_ok {x0 : Nat} {x1 : Int32} {x2 : Int32} {M : vm_M} {r : Int64 × vm_M} (h : f188 x0 x1 x2 M = some r) (d : Nat) : vm_Cl (d + 8) 188 [.ref (x0), .int (x1), .int (x2)] M (rJ r) := by
  have key : Ev 0 (fun _ => 0) (vm_Cl (d + 7)) vp_188 11 3 false (some (.long)) (rJ r) 0 (lv_args 0 [.ref (x0), .int (x1), .int (x2)]) [] M := by
    have l0 : (0, .ref (x0)) ∈ lv_args 0 [.ref (x0), .int (x1), .int (x2)] := List.Mem.head _
    have l1 : (1, .int (x1)) ∈ lv_args 0 [.ref (x0), .int (x1), .int (x2)] := List.Mem.tail _ (List.Mem.head _)
    have l2 : (2, .int (x2)) ∈ lv_args 0 [.ref (x0), .int (x1), .int (x2)] := List.Mem.tail _ (List.Mem.tail _ (List.Mem.head _))
    unfold f188 at h
    refine ev_aload_nR (mm 0 rfl) l0 ?_
    obtain ⟨v1, e2, h⟩ := bind_so h
    refine ev_get_i (mm 1 rfl) rfl e2 ?_
    rcases ite_so h with ⟨c3, h⟩ | ⟨c3, h⟩
    · refine ev_if_t 22 (mm 2 rfl) rfl c3 ?_
      refine ev_ldc2_w (mm 10 rfl) cJ_m2000000000000 ?_
      exact ev_lreturn (mm 11 rfl) h
    · refine ev_if_f 22 (mm 2 rfl) rfl c3 ?_
      refine ev_aload_nR (mm 3 rfl) l0 ?_
      refine ev_iload_n (mm 4 rfl) l1 ?_
      obtain ⟨_, e19, h⟩ := bind_so h
      obtain ⟨p4, e5, h⟩ := bind_so h
      refine ev_callV_I [.int (x1)] (mm 5 rfl) rfl rfl (Nat.le_of_ble_eq_true rfl) (s_ob_of e19) (f116_ok e5 (d + 5)) ?_
      rcases ite_so h with ⟨c6, h⟩ | ⟨c6, h⟩
      · refine ev_if_t 22 (mm 6 rfl) rfl c6 ?_
        refine ev_ldc2_w (mm 10 rfl) cJ_m2000000000000 ?_
        exact ev_lreturn (mm 11 rfl) h
      · refine ev_if_f 22 (mm 6 rfl) rfl c6 ?_
        refine ev_iload_n (mm 7 rfl) l2 ?_
        obtain ⟨p7, e8, h⟩ := bind_so h
        refine ev_callS_I [.int (x2)] (mm 8 rfl) (by decide) rfl rfl (Nat.le_of_ble_eq_true rfl) (f115_ok e8 (d + 5)) ?_
        rcases ite_so h with ⟨c9, h⟩ | ⟨c9, h⟩
        · refine ev_if_t 26 (mm 9 rfl) rfl c9 ?_
          refine ev_aload_nR (mm 12 rfl) l0 ?_
          refine ev_iload_n (mm 13 rfl) l2 ?_
          obtain ⟨_, e18, h⟩ := bind_so h
          obtain ⟨p10, e11, h⟩ := bind_so h
          refine ev_callV_V [.int (x2)] (mm 14 rfl) rfl rfl (Nat.le_of_ble_eq_true rfl) (s_ob_of e18) (f187_ok e11 (d + 0)) ?_
          refine ev_aload_nR (mm 15 rfl) l0 ?_
          obtain ⟨v12, e13, h⟩ := bind_so h
          refine ev_get_r (mm 16 rfl) rfl e13 ?_
          refine ev_iload_n (mm 17 rfl) l1 ?_
          obtain ⟨q14, e15, h⟩ := bind_so h
          rw [e15]
          obtain ⟨v16, e17, h⟩ := bind_so h
          refine ev_laload (mm 18 rfl) e17 ?_
          exact ev_lreturn (mm 19 rfl) h
        · refine ev_if_f 26 (mm 9 rfl) rfl c9 ?_
          refine ev_ldc2_w (mm 10 rfl) cJ_m2000000000000 ?_
          exact ev_lreturn (mm 11 rfl) h
  exact ⟨by decide, Nat.le_of_ble_eq_true rfl, key.1, key.2⟩
def f189_l27 (x0 : Nat) (x1 : Int32) (k53 : vm_M → Option (Int32 × vm_M)) : Nat → Int32 → vm_M → Option (Int32 × vm_M)
  | 0 => fun _ _ => none
  | n + 1 => fun x2 M =>
    (sg_i M x0 11 1).bind fun v13 =>
    if v13 ≤ x2 then
      k53 M
    else
      (sg_r M x0 11 52).bind fun v16 =>
      (sg_r M x0 11 48).bind fun v18 =>
      (v18).bind fun q20 =>
      (sa_l M q20 x2).bind fun v22 =>
      (v16).bind fun q24 =>
      (ss_l M q24 x2 v22).bind fun M26 =>
      f189_l27 x0 x1 k53 n (x2 + 1) M26
theorem f189_l27_ok {d : Nat} {x0 : Nat} {x1 : Int32} {k53 : vm_M → Option (Int32 × vm_M)} {r : Int32 × vm_M} (hk53 : ∀ {M : vm_M} {lv : vm_L}, (0, .ref (x0)) ∈ lv → (1, .int (x1)) ∈ lv → k53 M = some r → Ev 0 (fun _ => 0) (vm_Cl (d + 7)) vp_189 11 4 false (some (.int)) (rI r) 53 lv [] M) : ∀ (n : Nat) {x2 : Int32} {M : vm_M} {lv : vm_L}, (0, .ref (x0)) ∈ lv → (1, .int (x1)) ∈ lv → (2, .int (x2)) ∈ lv → f189_l27 x0 x1 k53 n x2 M = some r → Ev 0 (fun _ => 0) (vm_Cl (d + 7)) vp_189 11 4 false (some (.int)) (rI r) 27 lv [] M := by
  intro n
  induction n with
  | zero =>
    intro x2 M lv l0 l1 l2 h
    cases h
  | succ n ih =>
    intro x2 M lv l0 l1 l2 h
    dsimp only [f189_l27] at h
    refine ev_iload_n (mm 15 rfl) l2 ?_
    refine ev_aload_nR (mm 16 rfl) l0 ?_
    obtain ⟨v13, e14, h⟩ := bind_so h
    refine ev_get_i (mm 17 rfl) rfl e14 ?_
    rcases ite_so h with ⟨c15, h⟩ | ⟨c15, h⟩
    · refine ev_ic_t 53 (mm 18 rfl) rfl c15 ?_
      exact hk53 l0 l1 h
    · refine ev_ic_f 53 (mm 18 rfl) rfl c15 ?_
      refine ev_aload_nR (mm 19 rfl) l0 ?_
      obtain ⟨v16, e17, h⟩ := bind_so h
      refine ev_get_r (mm 20 rfl) rfl e17 ?_
      refine ev_iload_n (mm 21 rfl) l2 ?_
      refine ev_aload_nR (mm 22 rfl) l0 ?_
      obtain ⟨v18, e19, h⟩ := bind_so h
      refine ev_get_r (mm 23 rfl) rfl e19 ?_
      refine ev_iload_n (mm 24 rfl) l2 ?_
      obtain ⟨q20, e21, h⟩ := bind_so h
      rw [e21]
      obtain ⟨v22, e23, h⟩ := bind_so h
      refine ev_laload (mm 25 rfl) e23 ?_
      obtain ⟨q24, e25, h⟩ := bind_so h
      rw [e25]
      obtain ⟨M26, e27, h⟩ := bind_so h
      refine ev_lastore (mm 26 rfl) e27 ?_
      refine evs_iinc (mm 27 rfl) cI_1 l2 (by decide) (fun lv28 l2 s29 => ?_)
      have l0 := s29 _ _ l0 rfl
      have l1 := s29 _ _ l1 rfl
      refine ev_goto 27 (mm 28 rfl) rfl ?_
      exact ih l0 l1 l2 h
def f189_l62 (x0 : Nat) (x1 : Int32) : Nat → Int32 → Int32 → vm_M → Option (Int32 × vm_M)
  | 0 => fun _ _ _ => none
  | n + 1 => fun x2 x3 M =>
    (sg_i M x0 11 1).bind fun v37 =>
    if v37 ≤ x3 then
      some (x2, M)
    else
      (s_ob M x0 11).bind fun _ =>
      (f122 x0 x3 x1 M).bind fun p40 =>
      if p40.1 = 0 then
        (f113 0 p40.2).bind fun p43 =>
        f189_l62 x0 x1 n (x2 + p43.1) (x3 + 1) p43.2
      else
        (sg_r p40.2 x0 11 48).bind fun v49 =>
        (v49).bind fun q51 =>
        (sa_l p40.2 q51 x3).bind fun v53 =>
        (sg_r p40.2 x0 11 52).bind fun v55 =>
        (v55).bind fun q57 =>
        (sa_l p40.2 q57 x3).bind fun v59 =>
        if 0 ≤ (lg_cmp v53 v59) then
          (f113 0 p40.2).bind fun p62 =>
          f189_l62 x0 x1 n (x2 + p62.1) (x3 + 1) p62.2
        else
          (f113 1 p40.2).bind fun p68 =>
          f189_l62 x0 x1 n (x2 + p68.1) (x3 + 1) p68.2
theorem f189_l62_ok {d : Nat} {x0 : Nat} {x1 : Int32} {r : Int32 × vm_M} : ∀ (n : Nat) {x2 : Int32} {x3 : Int32} {M : vm_M} {lv : vm_L}, (0, .ref (x0)) ∈ lv → (1, .int (x1)) ∈ lv → (2, .int (x2)) ∈ lv → (3, .int (x3)) ∈ lv → f189_l62 x0 x1 n x2 x3 M = some r → Ev 0 (fun _ => 0) (vm_Cl (d + 7)) vp_189 11 4 false (some (.int)) (rI r) 62 lv [] M := by
  intro n
  induction n with
  | zero =>
    intro x2 x3 M lv l0 l1 l2 l3 h
    cases h
  | succ n ih =>
    intro x2 x3 M lv l0 l1 l2 l3 h
    dsimp only [f189_l62] at h
    refine ev_iload_n (mm 36 rfl) l3 ?_
    refine ev_aload_nR (mm 37 rfl) l0 ?_
    obtain ⟨v37, e38, h⟩ := bind_so h
    refine ev_get_i (mm 38 rfl) rfl e38 ?_
    rcases ite_so h with ⟨c39, h⟩ | ⟨c39, h⟩
    · refine ev_ic_t 112 (mm 39 rfl) rfl c39 ?_
      refine ev_iload_n (mm 64 rfl) l2 ?_
      exact ev_ireturn (mm 65 rfl) h
    · refine ev_ic_f 112 (mm 39 rfl) rfl c39 ?_
      refine ev_iload_n (mm 40 rfl) l2 ?_
      refine ev_aload_nR (mm 41 rfl) l0 ?_
      refine ev_iload_n (mm 42 rfl) l3 ?_
      refine ev_iload_n (mm 43 rfl) l1 ?_
      obtain ⟨_, e74, h⟩ := bind_so h
      obtain ⟨p40, e41, h⟩ := bind_so h
      refine ev_callV_I [.int (x3), .int (x1)] (mm 44 rfl) rfl rfl (Nat.le_of_ble_eq_true rfl) (s_ob_of e74) (f122_ok e41 (d + 6)) ?_
      rcases ite_so h with ⟨c42, h⟩ | ⟨c42, h⟩
      · refine ev_if_t 100 (mm 45 rfl) rfl c42 ?_
        refine ev_iconst (mm 58 rfl) cI_0 ?_
        obtain ⟨p43, e44, h⟩ := bind_so h
        refine ev_callS_I [.int (0)] (mm 59 rfl) (by decide) rfl rfl (Nat.le_of_ble_eq_true rfl) (f113_ok e44 (d + 6)) ?_
        refine ev_iadd (mm 60 rfl) ?_
        refine evs_istore_n (mm 61 rfl) (by decide) (fun lv45 l2 s46 => ?_)
        have l0 := s46 _ _ l0 rfl
        have l1 := s46 _ _ l1 rfl
        have l3 := s46 _ _ l3 rfl
        refine evs_iinc (mm 62 rfl) cI_1 l3 (by decide) (fun lv47 l3 s48 => ?_)
        have l0 := s48 _ _ l0 rfl
        have l1 := s48 _ _ l1 rfl
        have l2 := s48 _ _ l2 rfl
        refine ev_goto 62 (mm 63 rfl) rfl ?_
        exact ih l0 l1 l2 l3 h
      · refine ev_if_f 100 (mm 45 rfl) rfl c42 ?_
        refine ev_aload_nR (mm 46 rfl) l0 ?_
        obtain ⟨v49, e50, h⟩ := bind_so h
        refine ev_get_r (mm 47 rfl) rfl e50 ?_
        refine ev_iload_n (mm 48 rfl) l3 ?_
        obtain ⟨q51, e52, h⟩ := bind_so h
        rw [e52]
        obtain ⟨v53, e54, h⟩ := bind_so h
        refine ev_laload (mm 49 rfl) e54 ?_
        refine ev_aload_nR (mm 50 rfl) l0 ?_
        obtain ⟨v55, e56, h⟩ := bind_so h
        refine ev_get_r (mm 51 rfl) rfl e56 ?_
        refine ev_iload_n (mm 52 rfl) l3 ?_
        obtain ⟨q57, e58, h⟩ := bind_so h
        rw [e58]
        obtain ⟨v59, e60, h⟩ := bind_so h
        refine ev_laload (mm 53 rfl) e60 ?_
        refine ev_lcmp (mm 54 rfl) ?_
        rcases ite_so h with ⟨c61, h⟩ | ⟨c61, h⟩
        · refine ev_if_t 100 (mm 55 rfl) rfl c61 ?_
          refine ev_iconst (mm 58 rfl) cI_0 ?_
          obtain ⟨p62, e63, h⟩ := bind_so h
          refine ev_callS_I [.int (0)] (mm 59 rfl) (by decide) rfl rfl (Nat.le_of_ble_eq_true rfl) (f113_ok e63 (d + 6)) ?_
          refine ev_iadd (mm 60 rfl) ?_
          refine evs_istore_n (mm 61 rfl) (by decide) (fun lv64 l2 s65 => ?_)
          have l0 := s65 _ _ l0 rfl
          have l1 := s65 _ _ l1 rfl
          have l3 := s65 _ _ l3 rfl
          refine evs_iinc (mm 62 rfl) cI_1 l3 (by decide) (fun lv66 l3 s67 => ?_)
          have l0 := s67 _ _ l0 rfl
          have l1 := s67 _ _ l1 rfl
          have l2 := s67 _ _ l2 rfl
          refine ev_goto 62 (mm 63 rfl) rfl ?_
          exact ih l0 l1 l2 l3 h
        · refine ev_if_f 100 (mm 55 rfl) rfl c61 ?_
          refine ev_iconst (mm 56 rfl) cI_1 ?_
          refine ev_goto 101 (mm 57 rfl) rfl ?_
          obtain ⟨p68, e69, h⟩ := bind_so h
          refine ev_callS_I [.int (1)] (mm 59 rfl) (by decide) rfl rfl (Nat.le_of_ble_eq_true rfl) (f113_ok e69 (d + 6)) ?_
          refine ev_iadd (mm 60 rfl) ?_
          refine evs_istore_n (mm 61 rfl) (by decide) (fun lv70 l2 s71 => ?_)
          have l0 := s71 _ _ l0 rfl
          have l1 := s71 _ _ l1 rfl
          have l3 := s71 _ _ l3 rfl
          refine evs_iinc (mm 62 rfl) cI_1 l3 (by decide) (fun lv72 l3 s73 => ?_)
          have l0 := s73 _ _ l0 rfl
          have l1 := s73 _ _ l1 rfl
          have l2 := s73 _ _ l2 rfl
          refine ev_goto 62 (mm 63 rfl) rfl ?_
          exact ih l0 l1 l2 l3 h
/-- PupilCoinModel.losers(I)I -/
def f189 (x0 : Nat) (x1 : Int32) (M : vm_M) : Option (Int32 × vm_M) :=
  (sg_i M x0 11 26).bind fun v1 =>
  if v1 = 0 then
    some ((-1), M)
  else
    (f115 x1 M).bind fun p4 =>
    if ¬ p4.1 = 0 then
      (sg_i p4.2 x0 11 0).bind fun v7 =>
      (s_ob p4.2 x0 11).bind fun _ =>
      (f177 x0 x1 v7 p4.2).bind fun p9 =>
      f189_l27 x0 x1
        (fun M30 =>
          (s_ob M30 x0 11).bind fun _ =>
          (f187 x0 x1 M30).bind fun p31 =>
          f189_l62 x0 x1
          
            100000 0 0 p31)
        100000 0 p9
    else
      some ((-1), p4.2)
theorem f189_ok {x0 : Nat} {x1 : Int32} {M : vm_M} {r : Int32 × vm_M} (h : f189 x0 x1 M = some r) (d : Nat) : vm_Cl (d + 8) 189 [.ref (x0), .int (x1)] M (rI r) := by
  have key : Ev 0 (fun _ => 0) (vm_Cl (d + 7)) vp_189 11 4 false (some (.int)) (rI r) 0 (lv_args 0 [.ref (x0), .int (x1)]) [] M := by
    have l0 : (0, .ref (x0)) ∈ lv_args 0 [.ref (x0), .int (x1)] := List.Mem.head _
    have l1 : (1, .int (x1)) ∈ lv_args 0 [.ref (x0), .int (x1)] := List.Mem.tail _ (List.Mem.head _)
    unfold f189 at h
    refine ev_aload_nR (mm 0 rfl) l0 ?_
    obtain ⟨v1, e2, h⟩ := bind_so h
    refine ev_get_i (mm 1 rfl) rfl e2 ?_
    rcases ite_so h with ⟨c3, h⟩ | ⟨c3, h⟩
    · refine ev_if_t 14 (mm 2 rfl) rfl c3 ?_
      refine ev_iconst (mm 6 rfl) cI_m1 ?_
      exact ev_ireturn (mm 7 rfl) h
    · refine ev_if_f 14 (mm 2 rfl) rfl c3 ?_
      refine ev_iload_n (mm 3 rfl) l1 ?_
      obtain ⟨p4, e5, h⟩ := bind_so h
      refine ev_callS_I [.int (x1)] (mm 4 rfl) (by decide) rfl rfl (Nat.le_of_ble_eq_true rfl) (f115_ok e5 (d + 5)) ?_
      rcases ite_so h with ⟨c6, h⟩ | ⟨c6, h⟩
      · refine ev_if_t 16 (mm 5 rfl) rfl c6 ?_
        refine ev_aload_nR (mm 8 rfl) l0 ?_
        refine ev_iload_n (mm 9 rfl) l1 ?_
        refine ev_aload_nR (mm 10 rfl) l0 ?_
        obtain ⟨v7, e8, h⟩ := bind_so h
        refine ev_get_i (mm 11 rfl) rfl e8 ?_
        obtain ⟨_, e76, h⟩ := bind_so h
        obtain ⟨p9, e10, h⟩ := bind_so h
        refine ev_callV_V [.int (x1), .int (v7)] (mm 12 rfl) rfl rfl (Nat.le_of_ble_eq_true rfl) (s_ob_of e76) (f177_ok e10 (d + 0)) ?_
        refine ev_iconst (mm 13 rfl) cI_0 ?_
        refine evs_istore_n (mm 14 rfl) (by decide) (fun lv11 l2 s12 => ?_)
        have l0 := s12 _ _ l0 rfl
        have l1 := s12 _ _ l1 rfl
        refine f189_l27_ok ?_ 100000 l0 l1 l2 h
        · intro M30 lv l0 l1
          intro h
          refine ev_aload_nR (mm 29 rfl) l0 ?_
          refine ev_iload_n (mm 30 rfl) l1 ?_
          obtain ⟨_, e75, h⟩ := bind_so h
          obtain ⟨p31, e32, h⟩ := bind_so h
          refine ev_callV_V [.int (x1)] (mm 31 rfl) rfl rfl (Nat.le_of_ble_eq_true rfl) (s_ob_of e75) (f187_ok e32 (d + 0)) ?_
          refine ev_iconst (mm 32 rfl) cI_0 ?_
          refine evs_istore_n (mm 33 rfl) (by decide) (fun lv33 l2 s34 => ?_)
          have l0 := s34 _ _ l0 rfl
          have l1 := s34 _ _ l1 rfl
          refine ev_iconst (mm 34 rfl) cI_0 ?_
          refine evs_istore_n (mm 35 rfl) (by decide) (fun lv35 l3 s36 => ?_)
          have l0 := s36 _ _ l0 rfl
          have l1 := s36 _ _ l1 rfl
          have l2 := s36 _ _ l2 rfl
          refine f189_l62_ok 100000 l0 l1 l2 l3 h
      · refine ev_if_f 16 (mm 5 rfl) rfl c6 ?_
        refine ev_iconst (mm 6 rfl) cI_m1 ?_
        exact ev_ireturn (mm 7 rfl) h
  exact ⟨by decide, Nat.le_of_ble_eq_true rfl, key.1, key.2⟩
/-- PupilCoinModel.edge(III)J -/
def f190 (x0 : Nat) (x1 : Int32) (x2 : Int32) (x3 : Int32) (M : vm_M) : Option (Int64 × vm_M) :=
  (s_ob M x0 11).bind fun _ =>
  (f116 x0 x1 M).bind fun p1 =>
  if p1.1 = 0 then
    some ((-2000000000000), p1.2)
  else
    (f115 x2 p1.2).bind fun p4 =>
    if p4.1 = 0 then
      some ((-2000000000000), p4.2)
    else
      (f112 x3 0 4 p4.2).bind fun p7 =>
      if p7.1 = 0 then
        some ((-2000000000000), p7.2)
      else
        (s_ob p7.2 x0 11).bind fun _ =>
        (f122 x0 x1 x2 p7.2).bind fun p10 =>
        if ¬ p10.1 = 0 then
          (sg_i p10.2 x0 11 0).bind fun v13 =>
          (s_ob p10.2 x0 11).bind fun _ =>
          (f177 x0 x2 v13 p10.2).bind fun p15 =>
          (sg_r p15 x0 11 48).bind fun v17 =>
          (v17).bind fun q19 =>
          (sa_l p15 q19 x1).bind fun v21 =>
          (sg_i p15 x0 11 0).bind fun v25 =>
          (sg_i p15 x0 11 0).bind fun v27 =>
          (s_ob p15 x0 11).bind fun _ =>
          (f160 x0 x2 v27 p15).bind fun p29 =>
          (s_ob p29.2 x0 11).bind fun _ =>
          (f170 x0 x2 v25 p29.1 x1 x3 p29.2).bind fun p31 =>
          (sg_r p31 x0 11 48).bind fun v33 =>
          (v33).bind fun q35 =>
          (sa_l p31 q35 x1).bind fun v37 =>
          some ((v37 - v21), p31)
        else
          some ((-2000000000000), p10.2)
theorem f190_ok {x0 : Nat} {x1 : Int32} {x2 : Int32} {x3 : Int32} {M : vm_M} {r : Int64 × vm_M} (h : f190 x0 x1 x2 x3 M = some r) (d : Nat) : vm_Cl (d + 8) 190 [.ref (x0), .int (x1), .int (x2), .int (x3)] M (rJ r) := by
  have key : Ev 0 (fun _ => 0) (vm_Cl (d + 7)) vp_190 11 6 false (some (.long)) (rJ r) 0 (lv_args 0 [.ref (x0), .int (x1), .int (x2), .int (x3)]) [] M := by
    have l0 : (0, .ref (x0)) ∈ lv_args 0 [.ref (x0), .int (x1), .int (x2), .int (x3)] := List.Mem.head _
    have l1 : (1, .int (x1)) ∈ lv_args 0 [.ref (x0), .int (x1), .int (x2), .int (x3)] := List.Mem.tail _ (List.Mem.head _)
    have l2 : (2, .int (x2)) ∈ lv_args 0 [.ref (x0), .int (x1), .int (x2), .int (x3)] := List.Mem.tail _ (List.Mem.tail _ (List.Mem.head _))
    have l3 : (3, .int (x3)) ∈ lv_args 0 [.ref (x0), .int (x1), .int (x2), .int (x3)] := List.Mem.tail _ (List.Mem.tail _ (List.Mem.tail _ (List.Mem.head _)))
    unfold f190 at h
    refine ev_aload_nR (mm 0 rfl) l0 ?_
    refine ev_iload_n (mm 1 rfl) l1 ?_
    obtain ⟨_, e43, h⟩ := bind_so h
    obtain ⟨p1, e2, h⟩ := bind_so h
    refine ev_callV_I [.int (x1)] (mm 2 rfl) rfl rfl (Nat.le_of_ble_eq_true rfl) (s_ob_of e43) (f116_ok e2 (d + 5)) ?_
    rcases ite_so h with ⟨c3, h⟩ | ⟨c3, h⟩
    · refine ev_if_t 33 (mm 3 rfl) rfl c3 ?_
      refine ev_ldc2_w (mm 17 rfl) cJ_m2000000000000 ?_
      exact ev_lreturn (mm 18 rfl) h
    · refine ev_if_f 33 (mm 3 rfl) rfl c3 ?_
      refine ev_iload_n (mm 4 rfl) l2 ?_
      obtain ⟨p4, e5, h⟩ := bind_so h
      refine ev_callS_I [.int (x2)] (mm 5 rfl) (by decide) rfl rfl (Nat.le_of_ble_eq_true rfl) (f115_ok e5 (d + 5)) ?_
      rcases ite_so h with ⟨c6, h⟩ | ⟨c6, h⟩
      · refine ev_if_t 33 (mm 6 rfl) rfl c6 ?_
        refine ev_ldc2_w (mm 17 rfl) cJ_m2000000000000 ?_
        exact ev_lreturn (mm 18 rfl) h
      · refine ev_if_f 33 (mm 6 rfl) rfl c6 ?_
        refine ev_iload_n (mm 7 rfl) l3 ?_
        refine ev_iconst (mm 8 rfl) cI_0 ?_
        refine ev_iconst (mm 9 rfl) cI_4 ?_
        obtain ⟨p7, e8, h⟩ := bind_so h
        refine ev_callS_I [.int (x3), .int (0), .int (4)] (mm 10 rfl) (by decide) rfl rfl (Nat.le_of_ble_eq_true rfl) (f112_ok e8 (d + 6)) ?_
        rcases ite_so h with ⟨c9, h⟩ | ⟨c9, h⟩
        · refine ev_if_t 33 (mm 11 rfl) rfl c9 ?_
          refine ev_ldc2_w (mm 17 rfl) cJ_m2000000000000 ?_
          exact ev_lreturn (mm 18 rfl) h
        · refine ev_if_f 33 (mm 11 rfl) rfl c9 ?_
          refine ev_aload_nR (mm 12 rfl) l0 ?_
          refine ev_iload_n (mm 13 rfl) l1 ?_
          refine ev_iload_n (mm 14 rfl) l2 ?_
          obtain ⟨_, e42, h⟩ := bind_so h
          obtain ⟨p10, e11, h⟩ := bind_so h
          refine ev_callV_I [.int (x1), .int (x2)] (mm 15 rfl) rfl rfl (Nat.le_of_ble_eq_true rfl) (s_ob_of e42) (f122_ok e11 (d + 6)) ?_
          rcases ite_so h with ⟨c12, h⟩ | ⟨c12, h⟩
          · refine ev_if_t 37 (mm 16 rfl) rfl c12 ?_
            refine ev_aload_nR (mm 19 rfl) l0 ?_
            refine ev_iload_n (mm 20 rfl) l2 ?_
            refine ev_aload_nR (mm 21 rfl) l0 ?_
            obtain ⟨v13, e14, h⟩ := bind_so h
            refine ev_get_i (mm 22 rfl) rfl e14 ?_
            obtain ⟨_, e41, h⟩ := bind_so h
            obtain ⟨p15, e16, h⟩ := bind_so h
            refine ev_callV_V [.int (x2), .int (v13)] (mm 23 rfl) rfl rfl (Nat.le_of_ble_eq_true rfl) (s_ob_of e41) (f177_ok e16 (d + 0)) ?_
            refine ev_aload_nR (mm 24 rfl) l0 ?_
            obtain ⟨v17, e18, h⟩ := bind_so h
            refine ev_get_r (mm 25 rfl) rfl e18 ?_
            refine ev_iload_n (mm 26 rfl) l1 ?_
            obtain ⟨q19, e20, h⟩ := bind_so h
            rw [e20]
            obtain ⟨v21, e22, h⟩ := bind_so h
            refine ev_laload (mm 27 rfl) e22 ?_
            refine evs_lstore (mm 28 rfl) (by decide) (fun lv23 l4 s24 => ?_)
            have l0 := s24 _ _ l0 rfl
            have l1 := s24 _ _ l1 rfl
            have l2 := s24 _ _ l2 rfl
            have l3 := s24 _ _ l3 rfl
            refine ev_aload_nR (mm 29 rfl) l0 ?_
            refine ev_iload_n (mm 30 rfl) l2 ?_
            refine ev_aload_nR (mm 31 rfl) l0 ?_
            obtain ⟨v25, e26, h⟩ := bind_so h
            refine ev_get_i (mm 32 rfl) rfl e26 ?_
            refine ev_aload_nR (mm 33 rfl) l0 ?_
            refine ev_iload_n (mm 34 rfl) l2 ?_
            refine ev_aload_nR (mm 35 rfl) l0 ?_
            obtain ⟨v27, e28, h⟩ := bind_so h
            refine ev_get_i (mm 36 rfl) rfl e28 ?_
            obtain ⟨_, e40, h⟩ := bind_so h
            obtain ⟨p29, e30, h⟩ := bind_so h
            refine ev_callV_I [.int (x2), .int (v27)] (mm 37 rfl) rfl rfl (Nat.le_of_ble_eq_true rfl) (s_ob_of e40) (f160_ok e30 (d + 6)) ?_
            refine ev_iload_n (mm 38 rfl) l1 ?_
            refine ev_iload_n (mm 39 rfl) l3 ?_
            obtain ⟨_, e39, h⟩ := bind_so h
            obtain ⟨p31, e32, h⟩ := bind_so h
            refine ev_callV_V [.int (x2), .int (v25), .int (p29.1), .int (x1), .int (x3)] (mm 40 rfl) rfl rfl (Nat.le_of_ble_eq_true rfl) (s_ob_of e39) (f170_ok e32 (d + 2)) ?_
            refine ev_aload_nR (mm 41 rfl) l0 ?_
            obtain ⟨v33, e34, h⟩ := bind_so h
            refine ev_get_r (mm 42 rfl) rfl e34 ?_
            refine ev_iload_n (mm 43 rfl) l1 ?_
            obtain ⟨q35, e36, h⟩ := bind_so h
            rw [e36]
            obtain ⟨v37, e38, h⟩ := bind_so h
            refine ev_laload (mm 44 rfl) e38 ?_
            refine ev_lload (mm 45 rfl) l4 ?_
            refine ev_lsub (mm 46 rfl) ?_
            exact ev_lreturn (mm 47 rfl) h
          · refine ev_if_f 37 (mm 16 rfl) rfl c12 ?_
            refine ev_ldc2_w (mm 17 rfl) cJ_m2000000000000 ?_
            exact ev_lreturn (mm 18 rfl) h
  exact ⟨by decide, Nat.le_of_ble_eq_true rfl, key.1, key.2⟩
def f191_l32 (x0 : Nat) (x1 : Int32) (x2 : Int32) (x3 : Int32) (x4 : Int32) (x5 : Int32) (x6 : Int32) (k85 : Int32 → vm_M → Option (Int64 × vm_M)) : Nat → Int32 → Int32 → vm_M → Option (Int64 × vm_M)
  | 0 => fun _ _ _ => none
  | n + 1 => fun x7 x8 M =>
    if x6 = (-1) then
      k85 x7 M
    else
      (sg_r M x0 11 27).bind fun v11 =>
      (v11).bind fun q13 =>
      (sa_i M q13 0 x6).bind fun v15 =>
      if ((30 * x6) + v15) ≤ x8 then
        k85 x7 M
      else
        (sg_r M x0 11 30).bind fun v18 =>
        (v18).bind fun q20 =>
        (sa_i M q20 0 x8).bind fun v22 =>
        if ¬ v22 = 0 then
          (f113 0 M).bind fun p25 =>
          f191_l32 x0 x1 x2 x3 x4 x5 x6 k85 n (x7 + p25.1) (x8 + 1) p25.2
        else
          (f113 1 M).bind fun p31 =>
          f191_l32 x0 x1 x2 x3 x4 x5 x6 k85 n (x7 + p31.1) (x8 + 1) p31.2
theorem f191_l32_ok {d : Nat} {x0 : Nat} {x1 : Int32} {x2 : Int32} {x3 : Int32} {x4 : Int32} {x5 : Int32} {x6 : Int32} {k85 : Int32 → vm_M → Option (Int64 × vm_M)} {r : Int64 × vm_M} (hk85 : ∀ {y7 : Int32} {M : vm_M} {lv : vm_L}, (0, .ref (x0)) ∈ lv → (1, .int (x1)) ∈ lv → (2, .int (x2)) ∈ lv → (3, .int (x3)) ∈ lv → (4, .int (x4)) ∈ lv → (5, .int (x5)) ∈ lv → (7, .int (y7)) ∈ lv → k85 y7 M = some r → Ev 0 (fun _ => 0) (vm_Cl (d + 7)) vp_191 11 20 false (some (.long)) (rJ r) 85 lv [] M) : ∀ (n : Nat) {x7 : Int32} {x8 : Int32} {M : vm_M} {lv : vm_L}, (0, .ref (x0)) ∈ lv → (1, .int (x1)) ∈ lv → (2, .int (x2)) ∈ lv → (3, .int (x3)) ∈ lv → (4, .int (x4)) ∈ lv → (5, .int (x5)) ∈ lv → (6, .int (x6)) ∈ lv → (7, .int (x7)) ∈ lv → (8, .int (x8)) ∈ lv → f191_l32 x0 x1 x2 x3 x4 x5 x6 k85 n x7 x8 M = some r → Ev 0 (fun _ => 0) (vm_Cl (d + 7)) vp_191 11 20 false (some (.long)) (rJ r) 32 lv [] M := by
  intro n
  induction n with
  | zero =>
    intro x7 x8 M lv l0 l1 l2 l3 l4 l5 l6 l7 l8 h
    cases h
  | succ n ih =>
    intro x7 x8 M lv l0 l1 l2 l3 l4 l5 l6 l7 l8 h
    dsimp only [f191_l32] at h
    refine ev_iload (mm 17 rfl) l6 ?_
    refine ev_iconst (mm 18 rfl) cI_m1 ?_
    rcases ite_so h with ⟨c10, h⟩ | ⟨c10, h⟩
    · refine ev_ic_t 85 (mm 19 rfl) rfl c10 ?_
      exact hk85 l0 l1 l2 l3 l4 l5 l7 h
    · refine ev_ic_f 85 (mm 19 rfl) rfl c10 ?_
      refine ev_iload (mm 20 rfl) l8 ?_
      refine ev_bipush (mm 21 rfl) cB_30 ?_
      refine ev_iload (mm 22 rfl) l6 ?_
      refine ev_imul (mm 23 rfl) ?_
      refine ev_aload_nR (mm 24 rfl) l0 ?_
      obtain ⟨v11, e12, h⟩ := bind_so h
      refine ev_get_r (mm 25 rfl) rfl e12 ?_
      refine ev_iload (mm 26 rfl) l6 ?_
      obtain ⟨q13, e14, h⟩ := bind_so h
      rw [e14]
      obtain ⟨v15, e16, h⟩ := bind_so h
      refine ev_iaload (mm 27 rfl) e16 ?_
      refine ev_iadd (mm 28 rfl) ?_
      rcases ite_so h with ⟨c17, h⟩ | ⟨c17, h⟩
      · refine ev_ic_t 85 (mm 29 rfl) rfl c17 ?_
        exact hk85 l0 l1 l2 l3 l4 l5 l7 h
      · refine ev_ic_f 85 (mm 29 rfl) rfl c17 ?_
        refine ev_iload (mm 30 rfl) l7 ?_
        refine ev_aload_nR (mm 31 rfl) l0 ?_
        obtain ⟨v18, e19, h⟩ := bind_so h
        refine ev_get_r (mm 32 rfl) rfl e19 ?_
        refine ev_iload (mm 33 rfl) l8 ?_
        obtain ⟨q20, e21, h⟩ := bind_so h
        rw [e21]
        obtain ⟨v22, e23, h⟩ := bind_so h
        refine ev_iaload (mm 34 rfl) e23 ?_
        rcases ite_so h with ⟨c24, h⟩ | ⟨c24, h⟩
        · refine ev_if_t 72 (mm 35 rfl) rfl c24 ?_
          refine ev_iconst (mm 38 rfl) cI_0 ?_
          obtain ⟨p25, e26, h⟩ := bind_so h
          refine ev_callS_I [.int (0)] (mm 39 rfl) (by decide) rfl rfl (Nat.le_of_ble_eq_true rfl) (f113_ok e26 (d + 6)) ?_
          refine ev_iadd (mm 40 rfl) ?_
          refine evs_istore (mm 41 rfl) (by decide) (fun lv27 l7 s28 => ?_)
          have l0 := s28 _ _ l0 rfl
          have l1 := s28 _ _ l1 rfl
          have l2 := s28 _ _ l2 rfl
          have l3 := s28 _ _ l3 rfl
          have l4 := s28 _ _ l4 rfl
          have l5 := s28 _ _ l5 rfl
          have l6 := s28 _ _ l6 rfl
          have l8 := s28 _ _ l8 rfl
          refine evs_iinc (mm 42 rfl) cI_1 l8 (by decide) (fun lv29 l8 s30 => ?_)
          have l0 := s30 _ _ l0 rfl
          have l1 := s30 _ _ l1 rfl
          have l2 := s30 _ _ l2 rfl
          have l3 := s30 _ _ l3 rfl
          have l4 := s30 _ _ l4 rfl
          have l5 := s30 _ _ l5 rfl
          have l6 := s30 _ _ l6 rfl
          have l7 := s30 _ _ l7 rfl
          refine ev_goto 32 (mm 43 rfl) rfl ?_
          exact ih l0 l1 l2 l3 l4 l5 l6 l7 l8 h
        · refine ev_if_f 72 (mm 35 rfl) rfl c24 ?_
          refine ev_iconst (mm 36 rfl) cI_1 ?_
          refine ev_goto 73 (mm 37 rfl) rfl ?_
          obtain ⟨p31, e32, h⟩ := bind_so h
          refine ev_callS_I [.int (1)] (mm 39 rfl) (by decide) rfl rfl (Nat.le_of_ble_eq_true rfl) (f113_ok e32 (d + 6)) ?_
          refine ev_iadd (mm 40 rfl) ?_
          refine evs_istore (mm 41 rfl) (by decide) (fun lv33 l7 s34 => ?_)
          have l0 := s34 _ _ l0 rfl
          have l1 := s34 _ _ l1 rfl
          have l2 := s34 _ _ l2 rfl
          have l3 := s34 _ _ l3 rfl
          have l4 := s34 _ _ l4 rfl
          have l5 := s34 _ _ l5 rfl
          have l6 := s34 _ _ l6 rfl
          have l8 := s34 _ _ l8 rfl
          refine evs_iinc (mm 42 rfl) cI_1 l8 (by decide) (fun lv35 l8 s36 => ?_)
          have l0 := s36 _ _ l0 rfl
          have l1 := s36 _ _ l1 rfl
          have l2 := s36 _ _ l2 rfl
          have l3 := s36 _ _ l3 rfl
          have l4 := s36 _ _ l4 rfl
          have l5 := s36 _ _ l5 rfl
          have l6 := s36 _ _ l6 rfl
          have l7 := s36 _ _ l7 rfl
          refine ev_goto 32 (mm 43 rfl) rfl ?_
          exact ih l0 l1 l2 l3 l4 l5 l6 l7 l8 h
def f191_l206 (x0 : Nat) (x1 : Int32) (x2 : Int32) (x3 : Int32) (x4 : Int32) (x5 : Int32) (x7 : Int32) (x8 : Int32) (x9 : Int32) (x10 : Int64) (x12 : Int32) (x13 : Int64) (x15 : Int32) (x16 : Int32) (k303 : Int64 → vm_M → Option (Int64 × vm_M)) : Nat → Int64 → Int32 → vm_M → Option (Int64 × vm_M)
  | 0 => fun _ _ _ => none
  | n + 1 => fun x17 x19 M =>
    if x7 ≤ x19 then
      k303 x17 M
    else
      if ¬ x19 = x2 then
        if ¬ x19 = x3 then
          (sg_r M x0 11 44).bind fun v84 =>
          (v84).bind fun q86 =>
          (sa_l M q86 ((30 * x16) + x19)).bind fun v88 =>
          f191_l206 x0 x1 x2 x3 x4 x5 x7 x8 x9 x10 x12 x13 x15 x16 k303 n (x17 + v88) (x19 + 1) M
        else
          (sg_r M x0 11 44).bind fun v94 =>
          (v94).bind fun q96 =>
          (sa_l M q96 ((30 * x16) + x19)).bind fun v98 =>
          (s_rm x12 21).bind fun v100 =>
          (s_dl (v98 * (v100 : Int32).toInt64) 10).bind fun v102 =>
          f191_l206 x0 x1 x2 x3 x4 x5 x7 x8 x9 x10 x12 x13 x15 x16 k303 n (x17 + v102) (x19 + 1) M
      else
        (sg_r M x0 11 44).bind fun v108 =>
        (v108).bind fun q110 =>
        (sa_l M q110 ((30 * x16) + x19)).bind fun v112 =>
        (s_dv x12 21).bind fun v114 =>
        (s_dl (v112 * (v114 : Int32).toInt64) 10).bind fun v116 =>
        f191_l206 x0 x1 x2 x3 x4 x5 x7 x8 x9 x10 x12 x13 x15 x16 k303 n (x17 + v116) (x19 + 1) M
theorem f191_l206_ok {d : Nat} {x0 : Nat} {x1 : Int32} {x2 : Int32} {x3 : Int32} {x4 : Int32} {x5 : Int32} {x7 : Int32} {x8 : Int32} {x9 : Int32} {x10 : Int64} {x12 : Int32} {x13 : Int64} {x15 : Int32} {x16 : Int32} {k303 : Int64 → vm_M → Option (Int64 × vm_M)} {r : Int64 × vm_M} (hk303 : ∀ {y17 : Int64} {M : vm_M} {lv : vm_L}, (0, .ref (x0)) ∈ lv → (1, .int (x1)) ∈ lv → (2, .int (x2)) ∈ lv → (3, .int (x3)) ∈ lv → (4, .int (x4)) ∈ lv → (5, .int (x5)) ∈ lv → (7, .int (x7)) ∈ lv → (8, .int (x8)) ∈ lv → (9, .int (x9)) ∈ lv → (10, .long (x10)) ∈ lv → (12, .int (x12)) ∈ lv → (13, .long (x13)) ∈ lv → (15, .int (x15)) ∈ lv → (16, .int (x16)) ∈ lv → (17, .long (y17)) ∈ lv → k303 y17 M = some r → Ev 0 (fun _ => 0) (vm_Cl (d + 7)) vp_191 11 20 false (some (.long)) (rJ r) 303 lv [] M) : ∀ (n : Nat) {x17 : Int64} {x19 : Int32} {M : vm_M} {lv : vm_L}, (0, .ref (x0)) ∈ lv → (1, .int (x1)) ∈ lv → (2, .int (x2)) ∈ lv → (3, .int (x3)) ∈ lv → (4, .int (x4)) ∈ lv → (5, .int (x5)) ∈ lv → (7, .int (x7)) ∈ lv → (8, .int (x8)) ∈ lv → (9, .int (x9)) ∈ lv → (10, .long (x10)) ∈ lv → (12, .int (x12)) ∈ lv → (13, .long (x13)) ∈ lv → (15, .int (x15)) ∈ lv → (16, .int (x16)) ∈ lv → (17, .long (x17)) ∈ lv → (19, .int (x19)) ∈ lv → f191_l206 x0 x1 x2 x3 x4 x5 x7 x8 x9 x10 x12 x13 x15 x16 k303 n x17 x19 M = some r → Ev 0 (fun _ => 0) (vm_Cl (d + 7)) vp_191 11 20 false (some (.long)) (rJ r) 206 lv [] M := by
  intro n
  induction n with
  | zero =>
    intro x17 x19 M lv l0 l1 l2 l3 l4 l5 l7 l8 l9 l10 l12 l13 l15 l16 l17 l19 h
    cases h
  | succ n ih =>
    intro x17 x19 M lv l0 l1 l2 l3 l4 l5 l7 l8 l9 l10 l12 l13 l15 l16 l17 l19 h
    dsimp only [f191_l206] at h
    refine ev_iload (mm 109 rfl) l19 ?_
    refine ev_iload (mm 110 rfl) l7 ?_
    rcases ite_so h with ⟨c81, h⟩ | ⟨c81, h⟩
    · refine ev_ic_t 303 (mm 111 rfl) rfl c81 ?_
      exact hk303 l0 l1 l2 l3 l4 l5 l7 l8 l9 l10 l12 l13 l15 l16 l17 h
    · refine ev_ic_f 303 (mm 111 rfl) rfl c81 ?_
      refine ev_lload (mm 112 rfl) l17 ?_
      refine ev_iload (mm 113 rfl) l19 ?_
      refine ev_iload_n (mm 114 rfl) l2 ?_
      rcases ite_so h with ⟨c82, h⟩ | ⟨c82, h⟩
      · refine ev_ic_t 248 (mm 115 rfl) rfl c82 ?_
        refine ev_iload (mm 132 rfl) l19 ?_
        refine ev_iload_n (mm 133 rfl) l3 ?_
        rcases ite_so h with ⟨c83, h⟩ | ⟨c83, h⟩
        · refine ev_ic_t 281 (mm 134 rfl) rfl c83 ?_
          refine ev_aload_nR (mm 151 rfl) l0 ?_
          obtain ⟨v84, e85, h⟩ := bind_so h
          refine ev_get_r (mm 152 rfl) rfl e85 ?_
          refine ev_bipush (mm 153 rfl) cB_30 ?_
          refine ev_iload (mm 154 rfl) l16 ?_
          refine ev_imul (mm 155 rfl) ?_
          refine ev_iload (mm 156 rfl) l19 ?_
          refine ev_iadd (mm 157 rfl) ?_
          obtain ⟨q86, e87, h⟩ := bind_so h
          rw [e87]
          obtain ⟨v88, e89, h⟩ := bind_so h
          refine ev_laload (mm 158 rfl) e89 ?_
          refine ev_ladd (mm 159 rfl) ?_
          refine evs_lstore (mm 160 rfl) (by decide) (fun lv90 l17 s91 => ?_)
          have l0 := s91 _ _ l0 rfl
          have l1 := s91 _ _ l1 rfl
          have l2 := s91 _ _ l2 rfl
          have l3 := s91 _ _ l3 rfl
          have l4 := s91 _ _ l4 rfl
          have l5 := s91 _ _ l5 rfl
          have l7 := s91 _ _ l7 rfl
          have l8 := s91 _ _ l8 rfl
          have l9 := s91 _ _ l9 rfl
          have l10 := s91 _ _ l10 rfl
          have l12 := s91 _ _ l12 rfl
          have l13 := s91 _ _ l13 rfl
          have l15 := s91 _ _ l15 rfl
          have l16 := s91 _ _ l16 rfl
          have l19 := s91 _ _ l19 rfl
          refine evs_iinc (mm 161 rfl) cI_1 l19 (by decide) (fun lv92 l19 s93 => ?_)
          have l0 := s93 _ _ l0 rfl
          have l1 := s93 _ _ l1 rfl
          have l2 := s93 _ _ l2 rfl
          have l3 := s93 _ _ l3 rfl
          have l4 := s93 _ _ l4 rfl
          have l5 := s93 _ _ l5 rfl
          have l7 := s93 _ _ l7 rfl
          have l8 := s93 _ _ l8 rfl
          have l9 := s93 _ _ l9 rfl
          have l10 := s93 _ _ l10 rfl
          have l12 := s93 _ _ l12 rfl
          have l13 := s93 _ _ l13 rfl
          have l15 := s93 _ _ l15 rfl
          have l16 := s93 _ _ l16 rfl
          have l17 := s93 _ _ l17 rfl
          refine ev_goto 206 (mm 162 rfl) rfl ?_
          exact ih l0 l1 l2 l3 l4 l5 l7 l8 l9 l10 l12 l13 l15 l16 l17 l19 h
        · refine ev_ic_f 281 (mm 134 rfl) rfl c83 ?_
          refine ev_aload_nR (mm 135 rfl) l0 ?_
          obtain ⟨v94, e95, h⟩ := bind_so h
          refine ev_get_r (mm 136 rfl) rfl e95 ?_
          refine ev_bipush (mm 137 rfl) cB_30 ?_
          refine ev_iload (mm 138 rfl) l16 ?_
          refine ev_imul (mm 139 rfl) ?_
          refine ev_iload (mm 140 rfl) l19 ?_
          refine ev_iadd (mm 141 rfl) ?_
          obtain ⟨q96, e97, h⟩ := bind_so h
          rw [e97]
          obtain ⟨v98, e99, h⟩ := bind_so h
          refine ev_laload (mm 142 rfl) e99 ?_
          refine ev_iload (mm 143 rfl) l12 ?_
          refine ev_bipush (mm 144 rfl) cB_21 ?_
          obtain ⟨v100, e101, h⟩ := bind_so h
          refine ev_irem (mm 145 rfl) e101 ?_
          refine ev_i2l (mm 146 rfl) ?_
          refine ev_lmul (mm 147 rfl) ?_
          refine ev_ldc2_w (mm 148 rfl) cJ_10 ?_
          obtain ⟨v102, e103, h⟩ := bind_so h
          refine ev_ldiv (mm 149 rfl) e103 ?_
          refine ev_goto 294 (mm 150 rfl) rfl ?_
          refine ev_ladd (mm 159 rfl) ?_
          refine evs_lstore (mm 160 rfl) (by decide) (fun lv104 l17 s105 => ?_)
          have l0 := s105 _ _ l0 rfl
          have l1 := s105 _ _ l1 rfl
          have l2 := s105 _ _ l2 rfl
          have l3 := s105 _ _ l3 rfl
          have l4 := s105 _ _ l4 rfl
          have l5 := s105 _ _ l5 rfl
          have l7 := s105 _ _ l7 rfl
          have l8 := s105 _ _ l8 rfl
          have l9 := s105 _ _ l9 rfl
          have l10 := s105 _ _ l10 rfl
          have l12 := s105 _ _ l12 rfl
          have l13 := s105 _ _ l13 rfl
          have l15 := s105 _ _ l15 rfl
          have l16 := s105 _ _ l16 rfl
          have l19 := s105 _ _ l19 rfl
          refine evs_iinc (mm 161 rfl) cI_1 l19 (by decide) (fun lv106 l19 s107 => ?_)
          have l0 := s107 _ _ l0 rfl
          have l1 := s107 _ _ l1 rfl
          have l2 := s107 _ _ l2 rfl
          have l3 := s107 _ _ l3 rfl
          have l4 := s107 _ _ l4 rfl
          have l5 := s107 _ _ l5 rfl
          have l7 := s107 _ _ l7 rfl
          have l8 := s107 _ _ l8 rfl
          have l9 := s107 _ _ l9 rfl
          have l10 := s107 _ _ l10 rfl
          have l12 := s107 _ _ l12 rfl
          have l13 := s107 _ _ l13 rfl
          have l15 := s107 _ _ l15 rfl
          have l16 := s107 _ _ l16 rfl
          have l17 := s107 _ _ l17 rfl
          refine ev_goto 206 (mm 162 rfl) rfl ?_
          exact ih l0 l1 l2 l3 l4 l5 l7 l8 l9 l10 l12 l13 l15 l16 l17 l19 h
      · refine ev_ic_f 248 (mm 115 rfl) rfl c82 ?_
        refine ev_aload_nR (mm 116 rfl) l0 ?_
        obtain ⟨v108, e109, h⟩ := bind_so h
        refine ev_get_r (mm 117 rfl) rfl e109 ?_
        refine ev_bipush (mm 118 rfl) cB_30 ?_
        refine ev_iload (mm 119 rfl) l16 ?_
        refine ev_imul (mm 120 rfl) ?_
        refine ev_iload (mm 121 rfl) l19 ?_
        refine ev_iadd (mm 122 rfl) ?_
        obtain ⟨q110, e111, h⟩ := bind_so h
        rw [e111]
        obtain ⟨v112, e113, h⟩ := bind_so h
        refine ev_laload (mm 123 rfl) e113 ?_
        refine ev_iload (mm 124 rfl) l12 ?_
        refine ev_bipush (mm 125 rfl) cB_21 ?_
        obtain ⟨v114, e115, h⟩ := bind_so h
        refine ev_idiv (mm 126 rfl) e115 ?_
        refine ev_i2l (mm 127 rfl) ?_
        refine ev_lmul (mm 128 rfl) ?_
        refine ev_ldc2_w (mm 129 rfl) cJ_10 ?_
        obtain ⟨v116, e117, h⟩ := bind_so h
        refine ev_ldiv (mm 130 rfl) e117 ?_
        refine ev_goto 294 (mm 131 rfl) rfl ?_
        refine ev_ladd (mm 159 rfl) ?_
        refine evs_lstore (mm 160 rfl) (by decide) (fun lv118 l17 s119 => ?_)
        have l0 := s119 _ _ l0 rfl
        have l1 := s119 _ _ l1 rfl
        have l2 := s119 _ _ l2 rfl
        have l3 := s119 _ _ l3 rfl
        have l4 := s119 _ _ l4 rfl
        have l5 := s119 _ _ l5 rfl
        have l7 := s119 _ _ l7 rfl
        have l8 := s119 _ _ l8 rfl
        have l9 := s119 _ _ l9 rfl
        have l10 := s119 _ _ l10 rfl
        have l12 := s119 _ _ l12 rfl
        have l13 := s119 _ _ l13 rfl
        have l15 := s119 _ _ l15 rfl
        have l16 := s119 _ _ l16 rfl
        have l19 := s119 _ _ l19 rfl
        refine evs_iinc (mm 161 rfl) cI_1 l19 (by decide) (fun lv120 l19 s121 => ?_)
        have l0 := s121 _ _ l0 rfl
        have l1 := s121 _ _ l1 rfl
        have l2 := s121 _ _ l2 rfl
        have l3 := s121 _ _ l3 rfl
        have l4 := s121 _ _ l4 rfl
        have l5 := s121 _ _ l5 rfl
        have l7 := s121 _ _ l7 rfl
        have l8 := s121 _ _ l8 rfl
        have l9 := s121 _ _ l9 rfl
        have l10 := s121 _ _ l10 rfl
        have l12 := s121 _ _ l12 rfl
        have l13 := s121 _ _ l13 rfl
        have l15 := s121 _ _ l15 rfl
        have l16 := s121 _ _ l16 rfl
        have l17 := s121 _ _ l17 rfl
        refine ev_goto 206 (mm 162 rfl) rfl ?_
        exact ih l0 l1 l2 l3 l4 l5 l7 l8 l9 l10 l12 l13 l15 l16 l17 l19 h
def f191_l178 (x0 : Nat) (x1 : Int32) (x2 : Int32) (x3 : Int32) (x4 : Int32) (x5 : Int32) (x7 : Int32) (x8 : Int32) (x9 : Int32) (x10 : Int64) (x12 : Int32) (k342 : Int64 → Int32 → vm_M → Option (Int64 × vm_M)) : Nat → Int64 → Int32 → Int32 → vm_M → Option (Int64 × vm_M)
  | 0 => fun _ _ _ _ => none
  | n + 1 => fun x13 x15 x16 M =>
    (sg_i M x0 11 1).bind fun v71 =>
    if v71 ≤ x16 then
      k342 x13 x15 M
    else
      (s_ob M x0 11).bind fun _ =>
      (f122 x0 x16 x1 M).bind fun p74 =>
      if ¬ p74.1 = 0 then
        f191_l206 x0 x1 x2 x3 x4 x5 x7 x8 x9 x10 x12 x13 x15 x16
          (fun y122 M123 =>
            (sg_r M123 x0 11 49).bind fun v126 =>
            (v126).bind fun q128 =>
            (sa_l M123 q128 x16).bind fun v130 =>
            if 0 ≤ (lg_cmp y122 v130) then
              (f113 0 M123).bind fun p133 =>
              f191_l178 x0 x1 x2 x3 x4 x5 x7 x8 x9 x10 x12 k342 n (x13 + y122) (x15 + p133.1) (x16 + 1) p133.2
            else
              (f113 1 M123).bind fun p139 =>
              f191_l178 x0 x1 x2 x3 x4 x5 x7 x8 x9 x10 x12 k342 n (x13 + y122) (x15 + p139.1) (x16 + 1) p139.2)
          100000 0 0 p74.2
      else
        f191_l178 x0 x1 x2 x3 x4 x5 x7 x8 x9 x10 x12 k342 n x13 x15 (x16 + 1) p74.2
theorem f191_l178_ok {d : Nat} {x0 : Nat} {x1 : Int32} {x2 : Int32} {x3 : Int32} {x4 : Int32} {x5 : Int32} {x7 : Int32} {x8 : Int32} {x9 : Int32} {x10 : Int64} {x12 : Int32} {k342 : Int64 → Int32 → vm_M → Option (Int64 × vm_M)} {r : Int64 × vm_M} (hk342 : ∀ {y13 : Int64} {y15 : Int32} {M : vm_M} {lv : vm_L}, (0, .ref (x0)) ∈ lv → (1, .int (x1)) ∈ lv → (2, .int (x2)) ∈ lv → (3, .int (x3)) ∈ lv → (4, .int (x4)) ∈ lv → (5, .int (x5)) ∈ lv → (7, .int (x7)) ∈ lv → (8, .int (x8)) ∈ lv → (9, .int (x9)) ∈ lv → (10, .long (x10)) ∈ lv → (12, .int (x12)) ∈ lv → (13, .long (y13)) ∈ lv → (15, .int (y15)) ∈ lv → k342 y13 y15 M = some r → Ev 0 (fun _ => 0) (vm_Cl (d + 7)) vp_191 11 20 false (some (.long)) (rJ r) 342 lv [] M) : ∀ (n : Nat) {x13 : Int64} {x15 : Int32} {x16 : Int32} {M : vm_M} {lv : vm_L}, (0, .ref (x0)) ∈ lv → (1, .int (x1)) ∈ lv → (2, .int (x2)) ∈ lv → (3, .int (x3)) ∈ lv → (4, .int (x4)) ∈ lv → (5, .int (x5)) ∈ lv → (7, .int (x7)) ∈ lv → (8, .int (x8)) ∈ lv → (9, .int (x9)) ∈ lv → (10, .long (x10)) ∈ lv → (12, .int (x12)) ∈ lv → (13, .long (x13)) ∈ lv → (15, .int (x15)) ∈ lv → (16, .int (x16)) ∈ lv → f191_l178 x0 x1 x2 x3 x4 x5 x7 x8 x9 x10 x12 k342 n x13 x15 x16 M = some r → Ev 0 (fun _ => 0) (vm_Cl (d + 7)) vp_191 11 20 false (some (.long)) (rJ r) 178 lv [] M := by
  intro n
  induction n with
  | zero =>
    intro x13 x15 x16 M lv l0 l1 l2 l3 l4 l5 l7 l8 l9 l10 l12 l13 l15 l16 h
    cases h
  | succ n ih =>
    intro x13 x15 x16 M lv l0 l1 l2 l3 l4 l5 l7 l8 l9 l10 l12 l13 l15 l16 h
    dsimp only [f191_l178] at h
    refine ev_iload (mm 95 rfl) l16 ?_
    refine ev_aload_nR (mm 96 rfl) l0 ?_
    obtain ⟨v71, e72, h⟩ := bind_so h
    refine ev_get_i (mm 97 rfl) rfl e72 ?_
    rcases ite_so h with ⟨c73, h⟩ | ⟨c73, h⟩
    · refine ev_ic_t 342 (mm 98 rfl) rfl c73 ?_
      exact hk342 l0 l1 l2 l3 l4 l5 l7 l8 l9 l10 l12 l13 l15 h
    · refine ev_ic_f 342 (mm 98 rfl) rfl c73 ?_
      refine ev_aload_nR (mm 99 rfl) l0 ?_
      refine ev_iload (mm 100 rfl) l16 ?_
      refine ev_iload_n (mm 101 rfl) l1 ?_
      obtain ⟨_, e147, h⟩ := bind_so h
      obtain ⟨p74, e75, h⟩ := bind_so h
      refine ev_callV_I [.int (x16), .int (x1)] (mm 102 rfl) rfl rfl (Nat.le_of_ble_eq_true rfl) (s_ob_of e147) (f122_ok e75 (d + 6)) ?_
      rcases ite_so h with ⟨c76, h⟩ | ⟨c76, h⟩
      · refine ev_if_t 200 (mm 103 rfl) rfl c76 ?_
        refine ev_lconst (mm 105 rfl) cL_0 ?_
        refine evs_lstore (mm 106 rfl) (by decide) (fun lv77 l17 s78 => ?_)
        have l0 := s78 _ _ l0 rfl
        have l1 := s78 _ _ l1 rfl
        have l2 := s78 _ _ l2 rfl
        have l3 := s78 _ _ l3 rfl
        have l4 := s78 _ _ l4 rfl
        have l5 := s78 _ _ l5 rfl
        have l7 := s78 _ _ l7 rfl
        have l8 := s78 _ _ l8 rfl
        have l9 := s78 _ _ l9 rfl
        have l10 := s78 _ _ l10 rfl
        have l12 := s78 _ _ l12 rfl
        have l13 := s78 _ _ l13 rfl
        have l15 := s78 _ _ l15 rfl
        have l16 := s78 _ _ l16 rfl
        refine ev_iconst (mm 107 rfl) cI_0 ?_
        refine evs_istore (mm 108 rfl) (by decide) (fun lv79 l19 s80 => ?_)
        have l0 := s80 _ _ l0 rfl
        have l1 := s80 _ _ l1 rfl
        have l2 := s80 _ _ l2 rfl
        have l3 := s80 _ _ l3 rfl
        have l4 := s80 _ _ l4 rfl
        have l5 := s80 _ _ l5 rfl
        have l7 := s80 _ _ l7 rfl
        have l8 := s80 _ _ l8 rfl
        have l9 := s80 _ _ l9 rfl
        have l10 := s80 _ _ l10 rfl
        have l12 := s80 _ _ l12 rfl
        have l13 := s80 _ _ l13 rfl
        have l15 := s80 _ _ l15 rfl
        have l16 := s80 _ _ l16 rfl
        have l17 := s80 _ _ l17 rfl
        refine f191_l206_ok ?_ 100000 l0 l1 l2 l3 l4 l5 l7 l8 l9 l10 l12 l13 l15 l16 l17 l19 h
        · intro y122 M123 lv l0 l1 l2 l3 l4 l5 l7 l8 l9 l10 l12 l13 l15 l16 l17
          intro h
          refine ev_lload (mm 163 rfl) l13 ?_
          refine ev_lload (mm 164 rfl) l17 ?_
          refine ev_ladd (mm 165 rfl) ?_
          refine evs_lstore (mm 166 rfl) (by decide) (fun lv124 l13 s125 => ?_)
          have l0 := s125 _ _ l0 rfl
          have l1 := s125 _ _ l1 rfl
          have l2 := s125 _ _ l2 rfl
          have l3 := s125 _ _ l3 rfl
          have l4 := s125 _ _ l4 rfl
          have l5 := s125 _ _ l5 rfl
          have l7 := s125 _ _ l7 rfl
          have l8 := s125 _ _ l8 rfl
          have l9 := s125 _ _ l9 rfl
          have l10 := s125 _ _ l10 rfl
          have l12 := s125 _ _ l12 rfl
          have l15 := s125 _ _ l15 rfl
          have l16 := s125 _ _ l16 rfl
          have l17 := s125 _ _ l17 rfl
          refine ev_iload (mm 167 rfl) l15 ?_
          refine ev_lload (mm 168 rfl) l17 ?_
          refine ev_aload_nR (mm 169 rfl) l0 ?_
          obtain ⟨v126, e127, h⟩ := bind_so h
          refine ev_get_r (mm 170 rfl) rfl e127 ?_
          refine ev_iload (mm 171 rfl) l16 ?_
          obtain ⟨q128, e129, h⟩ := bind_so h
          rw [e129]
          obtain ⟨v130, e131, h⟩ := bind_so h
          refine ev_laload (mm 172 rfl) e131 ?_
          refine ev_lcmp (mm 173 rfl) ?_
          rcases ite_so h with ⟨c132, h⟩ | ⟨c132, h⟩
          · refine ev_if_t 329 (mm 174 rfl) rfl c132 ?_
            refine ev_iconst (mm 177 rfl) cI_0 ?_
            obtain ⟨p133, e134, h⟩ := bind_so h
            refine ev_callS_I [.int (0)] (mm 178 rfl) (by decide) rfl rfl (Nat.le_of_ble_eq_true rfl) (f113_ok e134 (d + 6)) ?_
            refine ev_iadd (mm 179 rfl) ?_
            refine evs_istore (mm 180 rfl) (by decide) (fun lv135 l15 s136 => ?_)
            have l0 := s136 _ _ l0 rfl
            have l1 := s136 _ _ l1 rfl
            have l2 := s136 _ _ l2 rfl
            have l3 := s136 _ _ l3 rfl
            have l4 := s136 _ _ l4 rfl
            have l5 := s136 _ _ l5 rfl
            have l7 := s136 _ _ l7 rfl
            have l8 := s136 _ _ l8 rfl
            have l9 := s136 _ _ l9 rfl
            have l10 := s136 _ _ l10 rfl
            have l12 := s136 _ _ l12 rfl
            have l13 := s136 _ _ l13 rfl
            have l16 := s136 _ _ l16 rfl
            refine evs_iinc (mm 181 rfl) cI_1 l16 (by decide) (fun lv137 l16 s138 => ?_)
            have l0 := s138 _ _ l0 rfl
            have l1 := s138 _ _ l1 rfl
            have l2 := s138 _ _ l2 rfl
            have l3 := s138 _ _ l3 rfl
            have l4 := s138 _ _ l4 rfl
            have l5 := s138 _ _ l5 rfl
            have l7 := s138 _ _ l7 rfl
            have l8 := s138 _ _ l8 rfl
            have l9 := s138 _ _ l9 rfl
            have l10 := s138 _ _ l10 rfl
            have l12 := s138 _ _ l12 rfl
            have l13 := s138 _ _ l13 rfl
            have l15 := s138 _ _ l15 rfl
            refine ev_goto 178 (mm 182 rfl) rfl ?_
            exact ih l0 l1 l2 l3 l4 l5 l7 l8 l9 l10 l12 l13 l15 l16 h
          · refine ev_if_f 329 (mm 174 rfl) rfl c132 ?_
            refine ev_iconst (mm 175 rfl) cI_1 ?_
            refine ev_goto 330 (mm 176 rfl) rfl ?_
            obtain ⟨p139, e140, h⟩ := bind_so h
            refine ev_callS_I [.int (1)] (mm 178 rfl) (by decide) rfl rfl (Nat.le_of_ble_eq_true rfl) (f113_ok e140 (d + 6)) ?_
            refine ev_iadd (mm 179 rfl) ?_
            refine evs_istore (mm 180 rfl) (by decide) (fun lv141 l15 s142 => ?_)
            have l0 := s142 _ _ l0 rfl
            have l1 := s142 _ _ l1 rfl
            have l2 := s142 _ _ l2 rfl
            have l3 := s142 _ _ l3 rfl
            have l4 := s142 _ _ l4 rfl
            have l5 := s142 _ _ l5 rfl
            have l7 := s142 _ _ l7 rfl
            have l8 := s142 _ _ l8 rfl
            have l9 := s142 _ _ l9 rfl
            have l10 := s142 _ _ l10 rfl
            have l12 := s142 _ _ l12 rfl
            have l13 := s142 _ _ l13 rfl
            have l16 := s142 _ _ l16 rfl
            refine evs_iinc (mm 181 rfl) cI_1 l16 (by decide) (fun lv143 l16 s144 => ?_)
            have l0 := s144 _ _ l0 rfl
            have l1 := s144 _ _ l1 rfl
            have l2 := s144 _ _ l2 rfl
            have l3 := s144 _ _ l3 rfl
            have l4 := s144 _ _ l4 rfl
            have l5 := s144 _ _ l5 rfl
            have l7 := s144 _ _ l7 rfl
            have l8 := s144 _ _ l8 rfl
            have l9 := s144 _ _ l9 rfl
            have l10 := s144 _ _ l10 rfl
            have l12 := s144 _ _ l12 rfl
            have l13 := s144 _ _ l13 rfl
            have l15 := s144 _ _ l15 rfl
            refine ev_goto 178 (mm 182 rfl) rfl ?_
            exact ih l0 l1 l2 l3 l4 l5 l7 l8 l9 l10 l12 l13 l15 l16 h
      · refine ev_if_f 200 (mm 103 rfl) rfl c76 ?_
        refine ev_goto 336 (mm 104 rfl) rfl ?_
        refine evs_iinc (mm 181 rfl) cI_1 l16 (by decide) (fun lv145 l16 s146 => ?_)
        have l0 := s146 _ _ l0 rfl
        have l1 := s146 _ _ l1 rfl
        have l2 := s146 _ _ l2 rfl
        have l3 := s146 _ _ l3 rfl
        have l4 := s146 _ _ l4 rfl
        have l5 := s146 _ _ l5 rfl
        have l7 := s146 _ _ l7 rfl
        have l8 := s146 _ _ l8 rfl
        have l9 := s146 _ _ l9 rfl
        have l10 := s146 _ _ l10 rfl
        have l12 := s146 _ _ l12 rfl
        have l13 := s146 _ _ l13 rfl
        have l15 := s146 _ _ l15 rfl
        refine ev_goto 178 (mm 182 rfl) rfl ?_
        exact ih l0 l1 l2 l3 l4 l5 l7 l8 l9 l10 l12 l13 l15 l16 h
def f191_j382 (k400 : Int32 → Int32 → Int64 → vm_M → Option (Int64 × vm_M)) (k161 : Int32 → Int32 → Int64 → Int32 → vm_M → Option (Int64 × vm_M)) (x0 : Nat) (x1 : Int32) (x2 : Int32) (x3 : Int32) (x4 : Int32) (x5 : Int32) (x7 : Int32) (x12 : Int32) (x13 : Int64) (x15 : Int32) (M : vm_M) : Option (Int64 × vm_M) :=
  k161 x12 x15 x13 (x12 + 1) M
theorem f191_j382_ok {d : Nat} {x0 : Nat} {x1 : Int32} {x2 : Int32} {x3 : Int32} {x4 : Int32} {x5 : Int32} {x7 : Int32} {x12 : Int32} {x13 : Int64} {x15 : Int32} {M : vm_M} {k400 : Int32 → Int32 → Int64 → vm_M → Option (Int64 × vm_M)} {k161 : Int32 → Int32 → Int64 → Int32 → vm_M → Option (Int64 × vm_M)} {r : Int64 × vm_M} (hk400 : ∀ {y8 : Int32} {y9 : Int32} {y10 : Int64} {M : vm_M} {lv : vm_L}, (5, .int (x5)) ∈ lv → (8, .int (y8)) ∈ lv → (9, .int (y9)) ∈ lv → (10, .long (y10)) ∈ lv → k400 y8 y9 y10 M = some r → Ev 0 (fun _ => 0) (vm_Cl (d + 7)) vp_191 11 20 false (some (.long)) (rJ r) 400 lv [] M) (hk161 : ∀ {y8 : Int32} {y9 : Int32} {y10 : Int64} {y12 : Int32} {M : vm_M} {lv : vm_L}, (0, .ref (x0)) ∈ lv → (1, .int (x1)) ∈ lv → (2, .int (x2)) ∈ lv → (3, .int (x3)) ∈ lv → (4, .int (x4)) ∈ lv → (5, .int (x5)) ∈ lv → (7, .int (x7)) ∈ lv → (8, .int (y8)) ∈ lv → (9, .int (y9)) ∈ lv → (10, .long (y10)) ∈ lv → (12, .int (y12)) ∈ lv → k161 y8 y9 y10 y12 M = some r → Ev 0 (fun _ => 0) (vm_Cl (d + 7)) vp_191 11 20 false (some (.long)) (rJ r) 161 lv [] M) {lv : vm_L} (l0 : (0, .ref (x0)) ∈ lv) (l1 : (1, .int (x1)) ∈ lv) (l2 : (2, .int (x2)) ∈ lv) (l3 : (3, .int (x3)) ∈ lv) (l4 : (4, .int (x4)) ∈ lv) (l5 : (5, .int (x5)) ∈ lv) (l7 : (7, .int (x7)) ∈ lv) (l12 : (12, .int (x12)) ∈ lv) (l13 : (13, .long (x13)) ∈ lv) (l15 : (15, .int (x15)) ∈ lv) (h : f191_j382 k400 k161 x0 x1 x2 x3 x4 x5 x7 x12 x13 x15 M = some r) : Ev 0 (fun _ => 0) (vm_Cl (d + 7)) vp_191 11 20 false (some (.long)) (rJ r) 382 lv [] M := by
  unfold f191_j382 at h
  refine ev_iload (mm 202 rfl) l12 ?_
  refine evs_istore (mm 203 rfl) (by decide) (fun lv155 l8 s156 => ?_)
  have l0 := s156 _ _ l0 rfl
  have l1 := s156 _ _ l1 rfl
  have l2 := s156 _ _ l2 rfl
  have l3 := s156 _ _ l3 rfl
  have l4 := s156 _ _ l4 rfl
  have l5 := s156 _ _ l5 rfl
  have l7 := s156 _ _ l7 rfl
  have l12 := s156 _ _ l12 rfl
  have l13 := s156 _ _ l13 rfl
  have l15 := s156 _ _ l15 rfl
  refine ev_iload (mm 204 rfl) l15 ?_
  refine evs_istore (mm 205 rfl) (by decide) (fun lv157 l9 s158 => ?_)
  have l0 := s158 _ _ l0 rfl
  have l1 := s158 _ _ l1 rfl
  have l2 := s158 _ _ l2 rfl
  have l3 := s158 _ _ l3 rfl
  have l4 := s158 _ _ l4 rfl
  have l5 := s158 _ _ l5 rfl
  have l7 := s158 _ _ l7 rfl
  have l8 := s158 _ _ l8 rfl
  have l12 := s158 _ _ l12 rfl
  have l13 := s158 _ _ l13 rfl
  refine ev_lload (mm 206 rfl) l13 ?_
  refine evs_lstore (mm 207 rfl) (by decide) (fun lv159 l10 s160 => ?_)
  have l0 := s160 _ _ l0 rfl
  have l1 := s160 _ _ l1 rfl
  have l2 := s160 _ _ l2 rfl
  have l3 := s160 _ _ l3 rfl
  have l4 := s160 _ _ l4 rfl
  have l5 := s160 _ _ l5 rfl
  have l7 := s160 _ _ l7 rfl
  have l8 := s160 _ _ l8 rfl
  have l9 := s160 _ _ l9 rfl
  have l12 := s160 _ _ l12 rfl
  refine evs_iinc (mm 208 rfl) cI_1 l12 (by decide) (fun lv161 l12 s162 => ?_)
  have l0 := s162 _ _ l0 rfl
  have l1 := s162 _ _ l1 rfl
  have l2 := s162 _ _ l2 rfl
  have l3 := s162 _ _ l3 rfl
  have l4 := s162 _ _ l4 rfl
  have l5 := s162 _ _ l5 rfl
  have l7 := s162 _ _ l7 rfl
  have l8 := s162 _ _ l8 rfl
  have l9 := s162 _ _ l9 rfl
  have l10 := s162 _ _ l10 rfl
  refine ev_goto 161 (mm 209 rfl) rfl ?_
  exact hk161 l0 l1 l2 l3 l4 l5 l7 l8 l9 l10 l12 h
def f191_l161 (x0 : Nat) (x1 : Int32) (x2 : Int32) (x3 : Int32) (x4 : Int32) (x5 : Int32) (x7 : Int32) (k400 : Int32 → Int32 → Int64 → vm_M → Option (Int64 × vm_M)) : Nat → Int32 → Int32 → Int64 → Int32 → vm_M → Option (Int64 × vm_M)
  | 0 => fun _ _ _ _ _ => none
  | n + 1 => fun x8 x9 x10 x12 M =>
    if 441 ≤ x12 then
      k400 x8 x9 x10 M
    else
      f191_l178 x0 x1 x2 x3 x4 x5 x7 x8 x9 x10 x12
        (fun y148 y149 M150 =>
          if 0 < (lg_cmp y148 ((x4 : Int32).toInt64)) then
            f191_l161 x0 x1 x2 x3 x4 x5 x7 k400 n x8 x9 x10 (x12 + 1) M150
          else
            if x8 = (-1) then
              f191_j382 k400 (f191_l161 x0 x1 x2 x3 x4 x5 x7 k400 n) x0 x1 x2 x3 x4 x5 x7 x12 y148 y149 M150
            else
              if x9 < y149 then
                f191_l161 x0 x1 x2 x3 x4 x5 x7 k400 n x8 x9 x10 (x12 + 1) M150
              else
                if ¬ y149 = x9 then
                  f191_j382 k400 (f191_l161 x0 x1 x2 x3 x4 x5 x7 k400 n) x0 x1 x2 x3 x4 x5 x7 x12 y148 y149 M150
                else
                  if 0 < (lg_cmp y148 x10) then
                    f191_j382 k400 (f191_l161 x0 x1 x2 x3 x4 x5 x7 k400 n) x0 x1 x2 x3 x4 x5 x7 x12 y148 y149 M150
                  else
                    f191_l161 x0 x1 x2 x3 x4 x5 x7 k400 n x8 x9 x10 (x12 + 1) M150)
        100000 0 0 0 M
theorem f191_l161_ok {d : Nat} {x0 : Nat} {x1 : Int32} {x2 : Int32} {x3 : Int32} {x4 : Int32} {x5 : Int32} {x7 : Int32} {k400 : Int32 → Int32 → Int64 → vm_M → Option (Int64 × vm_M)} {r : Int64 × vm_M} (hk400 : ∀ {y8 : Int32} {y9 : Int32} {y10 : Int64} {M : vm_M} {lv : vm_L}, (5, .int (x5)) ∈ lv → (8, .int (y8)) ∈ lv → (9, .int (y9)) ∈ lv → (10, .long (y10)) ∈ lv → k400 y8 y9 y10 M = some r → Ev 0 (fun _ => 0) (vm_Cl (d + 7)) vp_191 11 20 false (some (.long)) (rJ r) 400 lv [] M) : ∀ (n : Nat) {x8 : Int32} {x9 : Int32} {x10 : Int64} {x12 : Int32} {M : vm_M} {lv : vm_L}, (0, .ref (x0)) ∈ lv → (1, .int (x1)) ∈ lv → (2, .int (x2)) ∈ lv → (3, .int (x3)) ∈ lv → (4, .int (x4)) ∈ lv → (5, .int (x5)) ∈ lv → (7, .int (x7)) ∈ lv → (8, .int (x8)) ∈ lv → (9, .int (x9)) ∈ lv → (10, .long (x10)) ∈ lv → (12, .int (x12)) ∈ lv → f191_l161 x0 x1 x2 x3 x4 x5 x7 k400 n x8 x9 x10 x12 M = some r → Ev 0 (fun _ => 0) (vm_Cl (d + 7)) vp_191 11 20 false (some (.long)) (rJ r) 161 lv [] M := by
  intro n
  induction n with
  | zero =>
    intro x8 x9 x10 x12 M lv l0 l1 l2 l3 l4 l5 l7 l8 l9 l10 l12 h
    cases h
  | succ n ih =>
    intro x8 x9 x10 x12 M lv l0 l1 l2 l3 l4 l5 l7 l8 l9 l10 l12 h
    dsimp only [f191_l161] at h
    refine ev_iload (mm 86 rfl) l12 ?_
    refine ev_sipush (mm 87 rfl) cS_441 ?_
    rcases ite_so h with ⟨c64, h⟩ | ⟨c64, h⟩
    · refine ev_ic_t 400 (mm 88 rfl) rfl c64 ?_
      exact hk400 l5 l8 l9 l10 h
    · refine ev_ic_f 400 (mm 88 rfl) rfl c64 ?_
      refine ev_lconst (mm 89 rfl) cL_0 ?_
      refine evs_lstore (mm 90 rfl) (by decide) (fun lv65 l13 s66 => ?_)
      have l0 := s66 _ _ l0 rfl
      have l1 := s66 _ _ l1 rfl
      have l2 := s66 _ _ l2 rfl
      have l3 := s66 _ _ l3 rfl
      have l4 := s66 _ _ l4 rfl
      have l5 := s66 _ _ l5 rfl
      have l7 := s66 _ _ l7 rfl
      have l8 := s66 _ _ l8 rfl
      have l9 := s66 _ _ l9 rfl
      have l10 := s66 _ _ l10 rfl
      have l12 := s66 _ _ l12 rfl
      refine ev_iconst (mm 91 rfl) cI_0 ?_
      refine evs_istore (mm 92 rfl) (by decide) (fun lv67 l15 s68 => ?_)
      have l0 := s68 _ _ l0 rfl
      have l1 := s68 _ _ l1 rfl
      have l2 := s68 _ _ l2 rfl
      have l3 := s68 _ _ l3 rfl
      have l4 := s68 _ _ l4 rfl
      have l5 := s68 _ _ l5 rfl
      have l7 := s68 _ _ l7 rfl
      have l8 := s68 _ _ l8 rfl
      have l9 := s68 _ _ l9 rfl
      have l10 := s68 _ _ l10 rfl
      have l12 := s68 _ _ l12 rfl
      have l13 := s68 _ _ l13 rfl
      refine ev_iconst (mm 93 rfl) cI_0 ?_
      refine evs_istore (mm 94 rfl) (by decide) (fun lv69 l16 s70 => ?_)
      have l0 := s70 _ _ l0 rfl
      have l1 := s70 _ _ l1 rfl
      have l2 := s70 _ _ l2 rfl
      have l3 := s70 _ _ l3 rfl
      have l4 := s70 _ _ l4 rfl
      have l5 := s70 _ _ l5 rfl
      have l7 := s70 _ _ l7 rfl
      have l8 := s70 _ _ l8 rfl
      have l9 := s70 _ _ l9 rfl
      have l10 := s70 _ _ l10 rfl
      have l12 := s70 _ _ l12 rfl
      have l13 := s70 _ _ l13 rfl
      have l15 := s70 _ _ l15 rfl
      refine f191_l178_ok ?_ 100000 l0 l1 l2 l3 l4 l5 l7 l8 l9 l10 l12 l13 l15 l16 h
      · intro y148 y149 M150 lv l0 l1 l2 l3 l4 l5 l7 l8 l9 l10 l12 l13 l15
        intro h
        refine ev_lload (mm 183 rfl) l13 ?_
        refine ev_iload (mm 184 rfl) l4 ?_
        refine ev_i2l (mm 185 rfl) ?_
        refine ev_lcmp (mm 186 rfl) ?_
        rcases ite_so h with ⟨c151, h⟩ | ⟨c151, h⟩
        · refine ev_if_t 394 (mm 187 rfl) rfl c151 ?_
          refine evs_iinc (mm 208 rfl) cI_1 l12 (by decide) (fun lv152 l12 s153 => ?_)
          have l0 := s153 _ _ l0 rfl
          have l1 := s153 _ _ l1 rfl
          have l2 := s153 _ _ l2 rfl
          have l3 := s153 _ _ l3 rfl
          have l4 := s153 _ _ l4 rfl
          have l5 := s153 _ _ l5 rfl
          have l7 := s153 _ _ l7 rfl
          have l8 := s153 _ _ l8 rfl
          have l9 := s153 _ _ l9 rfl
          have l10 := s153 _ _ l10 rfl
          refine ev_goto 161 (mm 209 rfl) rfl ?_
          exact ih l0 l1 l2 l3 l4 l5 l7 l8 l9 l10 l12 h
        · refine ev_if_f 394 (mm 187 rfl) rfl c151 ?_
          refine ev_iload (mm 188 rfl) l8 ?_
          refine ev_iconst (mm 189 rfl) cI_m1 ?_
          rcases ite_so h with ⟨c154, h⟩ | ⟨c154, h⟩
          · refine ev_ic_t 382 (mm 190 rfl) rfl c154 ?_
            exact f191_j382_ok hk400 ih l0 l1 l2 l3 l4 l5 l7 l12 l13 l15 h
          · refine ev_ic_f 382 (mm 190 rfl) rfl c154 ?_
            refine ev_iload (mm 191 rfl) l15 ?_
            refine ev_iload (mm 192 rfl) l9 ?_
            rcases ite_so h with ⟨c163, h⟩ | ⟨c163, h⟩
            · refine ev_ic_t 394 (mm 193 rfl) rfl c163 ?_
              refine evs_iinc (mm 208 rfl) cI_1 l12 (by decide) (fun lv164 l12 s165 => ?_)
              have l0 := s165 _ _ l0 rfl
              have l1 := s165 _ _ l1 rfl
              have l2 := s165 _ _ l2 rfl
              have l3 := s165 _ _ l3 rfl
              have l4 := s165 _ _ l4 rfl
              have l5 := s165 _ _ l5 rfl
              have l7 := s165 _ _ l7 rfl
              have l8 := s165 _ _ l8 rfl
              have l9 := s165 _ _ l9 rfl
              have l10 := s165 _ _ l10 rfl
              refine ev_goto 161 (mm 209 rfl) rfl ?_
              exact ih l0 l1 l2 l3 l4 l5 l7 l8 l9 l10 l12 h
            · refine ev_ic_f 394 (mm 193 rfl) rfl c163 ?_
              refine ev_iload (mm 194 rfl) l15 ?_
              refine ev_iload (mm 195 rfl) l9 ?_
              rcases ite_so h with ⟨c166, h⟩ | ⟨c166, h⟩
              · refine ev_ic_t 382 (mm 196 rfl) rfl c166 ?_
                exact f191_j382_ok hk400 ih l0 l1 l2 l3 l4 l5 l7 l12 l13 l15 h
              · refine ev_ic_f 382 (mm 196 rfl) rfl c166 ?_
                refine ev_lload (mm 197 rfl) l13 ?_
                refine ev_lload (mm 198 rfl) l10 ?_
                refine ev_lcmp (mm 199 rfl) ?_
                rcases ite_so h with ⟨c167, h⟩ | ⟨c167, h⟩
                · refine ev_if_t 382 (mm 200 rfl) rfl c167 ?_
                  exact f191_j382_ok hk400 ih l0 l1 l2 l3 l4 l5 l7 l12 l13 l15 h
                · refine ev_if_f 382 (mm 200 rfl) rfl c167 ?_
                  refine ev_goto 394 (mm 201 rfl) rfl ?_
                  refine evs_iinc (mm 208 rfl) cI_1 l12 (by decide) (fun lv168 l12 s169 => ?_)
                  have l0 := s169 _ _ l0 rfl
                  have l1 := s169 _ _ l1 rfl
                  have l2 := s169 _ _ l2 rfl
                  have l3 := s169 _ _ l3 rfl
                  have l4 := s169 _ _ l4 rfl
                  have l5 := s169 _ _ l5 rfl
                  have l7 := s169 _ _ l7 rfl
                  have l8 := s169 _ _ l8 rfl
                  have l9 := s169 _ _ l9 rfl
                  have l10 := s169 _ _ l10 rfl
                  refine ev_goto 161 (mm 209 rfl) rfl ?_
                  exact ih l0 l1 l2 l3 l4 l5 l7 l8 l9 l10 l12 h
def f191_j85 (x0 : Nat) (x1 : Int32) (x2 : Int32) (x3 : Int32) (x4 : Int32) (x5 : Int32) (x7 : Int32) (M : vm_M) : Option (Int64 × vm_M) :=
  (f112 x2 0 (x7 - 1) M).bind fun p39 =>
  if p39.1 = 0 then
    some ((-2000000000000), p39.2)
  else
    (f112 x3 0 (x7 - 1) p39.2).bind fun p42 =>
    if p42.1 = 0 then
      some ((-2000000000000), p42.2)
    else
      if x2 = x3 then
        some ((-2000000000000), p42.2)
      else
        (f112 x4 0 999999999 p42.2).bind fun p46 =>
        if p46.1 = 0 then
          some ((-2000000000000), p46.2)
        else
          (f112 x5 0 3 p46.2).bind fun p49 =>
          if ¬ p49.1 = 0 then
            (sg_i p49.2 x0 11 0).bind fun v52 =>
            (s_ob p49.2 x0 11).bind fun _ =>
            (f177 x0 x1 v52 p49.2).bind fun p54 =>
            f191_l161 x0 x1 x2 x3 x4 x5 x7
              (fun y170 y171 y172 M173 =>
                if ¬ y170 = (-1) then
                  if ¬ x5 = 0 then
                    if ¬ x5 = 1 then
                      if ¬ x5 = 2 then
                        (s_rm y170 21).bind fun v178 =>
                        some ((v178 : Int32).toInt64, M173)
                      else
                        (s_dv y170 21).bind fun v180 =>
                        some ((v180 : Int32).toInt64, M173)
                    else
                      some (y172, M173)
                  else
                    some ((y171 : Int32).toInt64, M173)
                else
                  some ((-2000000000000), M173))
              100000 (-1) 0 0 0 p54
          else
            some ((-2000000000000), p49.2)
theorem f191_j85_ok {d : Nat} {x0 : Nat} {x1 : Int32} {x2 : Int32} {x3 : Int32} {x4 : Int32} {x5 : Int32} {x7 : Int32} {M : vm_M} {r : Int64 × vm_M} {lv : vm_L} (l0 : (0, .ref (x0)) ∈ lv) (l1 : (1, .int (x1)) ∈ lv) (l2 : (2, .int (x2)) ∈ lv) (l3 : (3, .int (x3)) ∈ lv) (l4 : (4, .int (x4)) ∈ lv) (l5 : (5, .int (x5)) ∈ lv) (l7 : (7, .int (x7)) ∈ lv) (h : f191_j85 x0 x1 x2 x3 x4 x5 x7 M = some r) : Ev 0 (fun _ => 0) (vm_Cl (d + 7)) vp_191 11 20 false (some (.long)) (rJ r) 85 lv [] M := by
  unfold f191_j85 at h
  refine ev_iload_n (mm 44 rfl) l2 ?_
  refine ev_iconst (mm 45 rfl) cI_0 ?_
  refine ev_iload (mm 46 rfl) l7 ?_
  refine ev_iconst (mm 47 rfl) cI_1 ?_
  refine ev_isub (mm 48 rfl) ?_
  obtain ⟨p39, e40, h⟩ := bind_so h
  refine ev_callS_I [.int (x2), .int (0), .int ((x7 - 1))] (mm 49 rfl) (by decide) rfl rfl (Nat.le_of_ble_eq_true rfl) (f112_ok e40 (d + 6)) ?_
  rcases ite_so h with ⟨c41, h⟩ | ⟨c41, h⟩
  · refine ev_if_t 136 (mm 50 rfl) rfl c41 ?_
    refine ev_ldc2_w (mm 71 rfl) cJ_m2000000000000 ?_
    exact ev_lreturn (mm 72 rfl) h
  · refine ev_if_f 136 (mm 50 rfl) rfl c41 ?_
    refine ev_iload_n (mm 51 rfl) l3 ?_
    refine ev_iconst (mm 52 rfl) cI_0 ?_
    refine ev_iload (mm 53 rfl) l7 ?_
    refine ev_iconst (mm 54 rfl) cI_1 ?_
    refine ev_isub (mm 55 rfl) ?_
    obtain ⟨p42, e43, h⟩ := bind_so h
    refine ev_callS_I [.int (x3), .int (0), .int ((x7 - 1))] (mm 56 rfl) (by decide) rfl rfl (Nat.le_of_ble_eq_true rfl) (f112_ok e43 (d + 6)) ?_
    rcases ite_so h with ⟨c44, h⟩ | ⟨c44, h⟩
    · refine ev_if_t 136 (mm 57 rfl) rfl c44 ?_
      refine ev_ldc2_w (mm 71 rfl) cJ_m2000000000000 ?_
      exact ev_lreturn (mm 72 rfl) h
    · refine ev_if_f 136 (mm 57 rfl) rfl c44 ?_
      refine ev_iload_n (mm 58 rfl) l2 ?_
      refine ev_iload_n (mm 59 rfl) l3 ?_
      rcases ite_so h with ⟨c45, h⟩ | ⟨c45, h⟩
      · refine ev_ic_t 136 (mm 60 rfl) rfl c45 ?_
        refine ev_ldc2_w (mm 71 rfl) cJ_m2000000000000 ?_
        exact ev_lreturn (mm 72 rfl) h
      · refine ev_ic_f 136 (mm 60 rfl) rfl c45 ?_
        refine ev_iload (mm 61 rfl) l4 ?_
        refine ev_iconst (mm 62 rfl) cI_0 ?_
        refine ev_ldc_w (mm 63 rfl) cI_999999999 ?_
        obtain ⟨p46, e47, h⟩ := bind_so h
        refine ev_callS_I [.int (x4), .int (0), .int (999999999)] (mm 64 rfl) (by decide) rfl rfl (Nat.le_of_ble_eq_true rfl) (f112_ok e47 (d + 6)) ?_
        rcases ite_so h with ⟨c48, h⟩ | ⟨c48, h⟩
        · refine ev_if_t 136 (mm 65 rfl) rfl c48 ?_
          refine ev_ldc2_w (mm 71 rfl) cJ_m2000000000000 ?_
          exact ev_lreturn (mm 72 rfl) h
        · refine ev_if_f 136 (mm 65 rfl) rfl c48 ?_
          refine ev_iload (mm 66 rfl) l5 ?_
          refine ev_iconst (mm 67 rfl) cI_0 ?_
          refine ev_iconst (mm 68 rfl) cI_3 ?_
          obtain ⟨p49, e50, h⟩ := bind_so h
          refine ev_callS_I [.int (x5), .int (0), .int (3)] (mm 69 rfl) (by decide) rfl rfl (Nat.le_of_ble_eq_true rfl) (f112_ok e50 (d + 6)) ?_
          rcases ite_so h with ⟨c51, h⟩ | ⟨c51, h⟩
          · refine ev_if_t 140 (mm 70 rfl) rfl c51 ?_
            refine ev_aload_nR (mm 73 rfl) l0 ?_
            refine ev_iload_n (mm 74 rfl) l1 ?_
            refine ev_aload_nR (mm 75 rfl) l0 ?_
            obtain ⟨v52, e53, h⟩ := bind_so h
            refine ev_get_i (mm 76 rfl) rfl e53 ?_
            obtain ⟨_, e182, h⟩ := bind_so h
            obtain ⟨p54, e55, h⟩ := bind_so h
            refine ev_callV_V [.int (x1), .int (v52)] (mm 77 rfl) rfl rfl (Nat.le_of_ble_eq_true rfl) (s_ob_of e182) (f177_ok e55 (d + 0)) ?_
            refine ev_iconst (mm 78 rfl) cI_m1 ?_
            refine evs_istore (mm 79 rfl) (by decide) (fun lv56 l8 s57 => ?_)
            have l0 := s57 _ _ l0 rfl
            have l1 := s57 _ _ l1 rfl
            have l2 := s57 _ _ l2 rfl
            have l3 := s57 _ _ l3 rfl
            have l4 := s57 _ _ l4 rfl
            have l5 := s57 _ _ l5 rfl
            have l7 := s57 _ _ l7 rfl
            refine ev_iconst (mm 80 rfl) cI_0 ?_
            refine evs_istore (mm 81 rfl) (by decide) (fun lv58 l9 s59 => ?_)
            have l0 := s59 _ _ l0 rfl
            have l1 := s59 _ _ l1 rfl
            have l2 := s59 _ _ l2 rfl
            have l3 := s59 _ _ l3 rfl
            have l4 := s59 _ _ l4 rfl
            have l5 := s59 _ _ l5 rfl
            have l7 := s59 _ _ l7 rfl
            have l8 := s59 _ _ l8 rfl
            refine ev_lconst (mm 82 rfl) cL_0 ?_
            refine evs_lstore (mm 83 rfl) (by decide) (fun lv60 l10 s61 => ?_)
            have l0 := s61 _ _ l0 rfl
            have l1 := s61 _ _ l1 rfl
            have l2 := s61 _ _ l2 rfl
            have l3 := s61 _ _ l3 rfl
            have l4 := s61 _ _ l4 rfl
            have l5 := s61 _ _ l5 rfl
            have l7 := s61 _ _ l7 rfl
            have l8 := s61 _ _ l8 rfl
            have l9 := s61 _ _ l9 rfl
            refine ev_iconst (mm 84 rfl) cI_0 ?_
            refine evs_istore (mm 85 rfl) (by decide) (fun lv62 l12 s63 => ?_)
            have l0 := s63 _ _ l0 rfl
            have l1 := s63 _ _ l1 rfl
            have l2 := s63 _ _ l2 rfl
            have l3 := s63 _ _ l3 rfl
            have l4 := s63 _ _ l4 rfl
            have l5 := s63 _ _ l5 rfl
            have l7 := s63 _ _ l7 rfl
            have l8 := s63 _ _ l8 rfl
            have l9 := s63 _ _ l9 rfl
            have l10 := s63 _ _ l10 rfl
            refine f191_l161_ok ?_ 100000 l0 l1 l2 l3 l4 l5 l7 l8 l9 l10 l12 h
            · intro y170 y171 y172 M173 lv l5 l8 l9 l10
              intro h
              refine ev_iload (mm 210 rfl) l8 ?_
              refine ev_iconst (mm 211 rfl) cI_m1 ?_
              rcases ite_so h with ⟨c174, h⟩ | ⟨c174, h⟩
              · refine ev_ic_t 410 (mm 212 rfl) rfl c174 ?_
                refine ev_iload (mm 215 rfl) l5 ?_
                rcases ite_so h with ⟨c175, h⟩ | ⟨c175, h⟩
                · refine ev_if_t 421 (mm 216 rfl) rfl c175 ?_
                  refine ev_iload (mm 220 rfl) l5 ?_
                  refine ev_iconst (mm 221 rfl) cI_1 ?_
                  rcases ite_so h with ⟨c176, h⟩ | ⟨c176, h⟩
                  · refine ev_ic_t 432 (mm 222 rfl) rfl c176 ?_
                    refine ev_iload (mm 225 rfl) l5 ?_
                    refine ev_iconst (mm 226 rfl) cI_2 ?_
                    rcases ite_so h with ⟨c177, h⟩ | ⟨c177, h⟩
                    · refine ev_ic_t 447 (mm 227 rfl) rfl c177 ?_
                      refine ev_iload (mm 233 rfl) l8 ?_
                      refine ev_bipush (mm 234 rfl) cB_21 ?_
                      obtain ⟨v178, e179, h⟩ := bind_so h
                      refine ev_irem (mm 235 rfl) e179 ?_
                      refine ev_i2l (mm 236 rfl) ?_
                      exact ev_lreturn (mm 237 rfl) h
                    · refine ev_ic_f 447 (mm 227 rfl) rfl c177 ?_
                      refine ev_iload (mm 228 rfl) l8 ?_
                      refine ev_bipush (mm 229 rfl) cB_21 ?_
                      obtain ⟨v180, e181, h⟩ := bind_so h
                      refine ev_idiv (mm 230 rfl) e181 ?_
                      refine ev_i2l (mm 231 rfl) ?_
                      refine ev_goto 453 (mm 232 rfl) rfl ?_
                      exact ev_lreturn (mm 237 rfl) h
                  · refine ev_ic_f 432 (mm 222 rfl) rfl c176 ?_
                    refine ev_lload (mm 223 rfl) l10 ?_
                    refine ev_goto 453 (mm 224 rfl) rfl ?_
                    exact ev_lreturn (mm 237 rfl) h
                · refine ev_if_f 421 (mm 216 rfl) rfl c175 ?_
                  refine ev_iload (mm 217 rfl) l9 ?_
                  refine ev_i2l (mm 218 rfl) ?_
                  refine ev_goto 453 (mm 219 rfl) rfl ?_
                  exact ev_lreturn (mm 237 rfl) h
              · refine ev_ic_f 410 (mm 212 rfl) rfl c174 ?_
                refine ev_ldc2_w (mm 213 rfl) cJ_m2000000000000 ?_
                exact ev_lreturn (mm 214 rfl) h
          · refine ev_if_f 140 (mm 70 rfl) rfl c51 ?_
            refine ev_ldc2_w (mm 71 rfl) cJ_m2000000000000 ?_
            exact ev_lreturn (mm 72 rfl) h
/-- PupilCoinModel.rates(IIIII)J -/
def f191 (x0 : Nat) (x1 : Int32) (x2 : Int32) (x3 : Int32) (x4 : Int32) (x5 : Int32) (M : vm_M) : Option (Int64 × vm_M) :=
  (f115 x1 M).bind fun p1 =>
  if p1.1 = 0 then
    f191_l32 x0 x1 x2 x3 x4 x5 (-1)
      (fun y37 M38 =>
        f191_j85 x0 x1 x2 x3 x4 x5 y37 M38)
      100000 0 (30 * (-1)) p1.2
  else
    (sg_i p1.2 x0 11 0).bind fun v183 =>
    (s_ob p1.2 x0 11).bind fun _ =>
    (f160 x0 x1 v183 p1.2).bind fun p185 =>
    f191_l32 x0 x1 x2 x3 x4 x5 p185.1
      (fun y193 M194 =>
        f191_j85 x0 x1 x2 x3 x4 x5 y193 M194)
      100000 0 (30 * p185.1) p185.2
theorem f191_ok {x0 : Nat} {x1 : Int32} {x2 : Int32} {x3 : Int32} {x4 : Int32} {x5 : Int32} {M : vm_M} {r : Int64 × vm_M} (h : f191 x0 x1 x2 x3 x4 x5 M = some r) (d : Nat) : vm_Cl (d + 8) 191 [.ref (x0), .int (x1), .int (x2), .int (x3), .int (x4), .int (x5)] M (rJ r) := by
  have key : Ev 0 (fun _ => 0) (vm_Cl (d + 7)) vp_191 11 20 false (some (.long)) (rJ r) 0 (lv_args 0 [.ref (x0), .int (x1), .int (x2), .int (x3), .int (x4), .int (x5)]) [] M := by
    have l0 : (0, .ref (x0)) ∈ lv_args 0 [.ref (x0), .int (x1), .int (x2), .int (x3), .int (x4), .int (x5)] := List.Mem.head _
    have l1 : (1, .int (x1)) ∈ lv_args 0 [.ref (x0), .int (x1), .int (x2), .int (x3), .int (x4), .int (x5)] := List.Mem.tail _ (List.Mem.head _)
    have l2 : (2, .int (x2)) ∈ lv_args 0 [.ref (x0), .int (x1), .int (x2), .int (x3), .int (x4), .int (x5)] := List.Mem.tail _ (List.Mem.tail _ (List.Mem.head _))
    have l3 : (3, .int (x3)) ∈ lv_args 0 [.ref (x0), .int (x1), .int (x2), .int (x3), .int (x4), .int (x5)] := List.Mem.tail _ (List.Mem.tail _ (List.Mem.tail _ (List.Mem.head _)))
    have l4 : (4, .int (x4)) ∈ lv_args 0 [.ref (x0), .int (x1), .int (x2), .int (x3), .int (x4), .int (x5)] := List.Mem.tail _ (List.Mem.tail _ (List.Mem.tail _ (List.Mem.tail _ (List.Mem.head _))))
    have l5 : (5, .int (x5)) ∈ lv_args 0 [.ref (x0), .int (x1), .int (x2), .int (x3), .int (x4), .int (x5)] := List.Mem.tail _ (List.Mem.tail _ (List.Mem.tail _ (List.Mem.tail _ (List.Mem.tail _ (List.Mem.head _)))))
    unfold f191 at h
    refine ev_iload_n (mm 0 rfl) l1 ?_
    obtain ⟨p1, e2, h⟩ := bind_so h
    refine ev_callS_I [.int (x1)] (mm 1 rfl) (by decide) rfl rfl (Nat.le_of_ble_eq_true rfl) (f115_ok e2 (d + 5)) ?_
    rcases ite_so h with ⟨c3, h⟩ | ⟨c3, h⟩
    · refine ev_if_t 19 (mm 2 rfl) rfl c3 ?_
      refine ev_iconst (mm 9 rfl) cI_m1 ?_
      refine evs_istore (mm 10 rfl) (by decide) (fun lv4 l6 s5 => ?_)
      have l0 := s5 _ _ l0 rfl
      have l1 := s5 _ _ l1 rfl
      have l2 := s5 _ _ l2 rfl
      have l3 := s5 _ _ l3 rfl
      have l4 := s5 _ _ l4 rfl
      have l5 := s5 _ _ l5 rfl
      refine ev_iconst (mm 11 rfl) cI_0 ?_
      refine evs_istore (mm 12 rfl) (by decide) (fun lv6 l7 s7 => ?_)
      have l0 := s7 _ _ l0 rfl
      have l1 := s7 _ _ l1 rfl
      have l2 := s7 _ _ l2 rfl
      have l3 := s7 _ _ l3 rfl
      have l4 := s7 _ _ l4 rfl
      have l5 := s7 _ _ l5 rfl
      have l6 := s7 _ _ l6 rfl
      refine ev_bipush (mm 13 rfl) cB_30 ?_
      refine ev_iload (mm 14 rfl) l6 ?_
      refine ev_imul (mm 15 rfl) ?_
      refine evs_istore (mm 16 rfl) (by decide) (fun lv8 l8 s9 => ?_)
      have l0 := s9 _ _ l0 rfl
      have l1 := s9 _ _ l1 rfl
      have l2 := s9 _ _ l2 rfl
      have l3 := s9 _ _ l3 rfl
      have l4 := s9 _ _ l4 rfl
      have l5 := s9 _ _ l5 rfl
      have l6 := s9 _ _ l6 rfl
      have l7 := s9 _ _ l7 rfl
      refine f191_l32_ok ?_ 100000 l0 l1 l2 l3 l4 l5 l6 l7 l8 h
      · intro y37 M38 lv l0 l1 l2 l3 l4 l5 l7
        intro h
        exact f191_j85_ok l0 l1 l2 l3 l4 l5 l7 h
    · refine ev_if_f 19 (mm 2 rfl) rfl c3 ?_
      refine ev_aload_nR (mm 3 rfl) l0 ?_
      refine ev_iload_n (mm 4 rfl) l1 ?_
      refine ev_aload_nR (mm 5 rfl) l0 ?_
      obtain ⟨v183, e184, h⟩ := bind_so h
      refine ev_get_i (mm 6 rfl) rfl e184 ?_
      obtain ⟨_, e195, h⟩ := bind_so h
      obtain ⟨p185, e186, h⟩ := bind_so h
      refine ev_callV_I [.int (x1), .int (v183)] (mm 7 rfl) rfl rfl (Nat.le_of_ble_eq_true rfl) (s_ob_of e195) (f160_ok e186 (d + 6)) ?_
      refine ev_goto 20 (mm 8 rfl) rfl ?_
      refine evs_istore (mm 10 rfl) (by decide) (fun lv187 l6 s188 => ?_)
      have l0 := s188 _ _ l0 rfl
      have l1 := s188 _ _ l1 rfl
      have l2 := s188 _ _ l2 rfl
      have l3 := s188 _ _ l3 rfl
      have l4 := s188 _ _ l4 rfl
      have l5 := s188 _ _ l5 rfl
      refine ev_iconst (mm 11 rfl) cI_0 ?_
      refine evs_istore (mm 12 rfl) (by decide) (fun lv189 l7 s190 => ?_)
      have l0 := s190 _ _ l0 rfl
      have l1 := s190 _ _ l1 rfl
      have l2 := s190 _ _ l2 rfl
      have l3 := s190 _ _ l3 rfl
      have l4 := s190 _ _ l4 rfl
      have l5 := s190 _ _ l5 rfl
      have l6 := s190 _ _ l6 rfl
      refine ev_bipush (mm 13 rfl) cB_30 ?_
      refine ev_iload (mm 14 rfl) l6 ?_
      refine ev_imul (mm 15 rfl) ?_
      refine evs_istore (mm 16 rfl) (by decide) (fun lv191 l8 s192 => ?_)
      have l0 := s192 _ _ l0 rfl
      have l1 := s192 _ _ l1 rfl
      have l2 := s192 _ _ l2 rfl
      have l3 := s192 _ _ l3 rfl
      have l4 := s192 _ _ l4 rfl
      have l5 := s192 _ _ l5 rfl
      have l6 := s192 _ _ l6 rfl
      have l7 := s192 _ _ l7 rfl
      refine f191_l32_ok ?_ 100000 l0 l1 l2 l3 l4 l5 l6 l7 l8 h
      · intro y193 M194 lv l0 l1 l2 l3 l4 l5 l7
        intro h
        exact f191_j85_ok l0 l1 l2 l3 l4 l5 l7 h
  exact ⟨by decide, Nat.le_of_ble_eq_true rfl, key.1, key.2⟩
