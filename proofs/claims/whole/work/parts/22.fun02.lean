/-! shallow functions, by program (wip/gen_fun.py) -/
/-- PupilCoin$Reader.step(II)V -/
def f44 (x0 : Nat) (x1 : Int32) (x2 : Int32) (M : vm_M) : Option (vm_M) :=
  (sg_i M x0 6 6).bind fun v1 =>
  if 700 ≤ v1 then
    some M
  else
    (sg_r M x0 6 1).bind fun v4 =>
    (sg_i M x0 6 6).bind fun v6 =>
    (sp_i M x0 6 6 (v6 + 1)).bind fun M8 =>
    (v4).bind fun q10 =>
    (ss_i M8 q10 0 v6 ((x2 * 16) + x1)).bind fun M12 =>
    some M12
theorem f44_ok {x0 : Nat} {x1 : Int32} {x2 : Int32} {M : vm_M} {r : vm_M} (h : f44 x0 x1 x2 M = some r) (d : Nat) : vm_Cl (d + 1) 44 [.ref (x0), .int (x1), .int (x2)] M (rV r) := by
  have key : Ev 0 (fun _ => 0) (vm_Cl (d + 0)) vp_44 6 3 false none (rV r) 0 (lv_args 0 [.ref (x0), .int (x1), .int (x2)]) [] M := by
    have l0 : (0, .ref (x0)) ∈ lv_args 0 [.ref (x0), .int (x1), .int (x2)] := List.Mem.head _
    have l1 : (1, .int (x1)) ∈ lv_args 0 [.ref (x0), .int (x1), .int (x2)] := List.Mem.tail _ (List.Mem.head _)
    have l2 : (2, .int (x2)) ∈ lv_args 0 [.ref (x0), .int (x1), .int (x2)] := List.Mem.tail _ (List.Mem.tail _ (List.Mem.head _))
    unfold f44 at h
    refine ev_aload_nR (mm 0 rfl) l0 ?_
    obtain ⟨v1, e2, h⟩ := bind_so h
    refine ev_get_i (mm 1 rfl) rfl e2 ?_
    refine ev_sipush (mm 2 rfl) cS_700 ?_
    rcases ite_so h with ⟨c3, h⟩ | ⟨c3, h⟩
    · refine ev_ic_t 32 (mm 3 rfl) rfl c3 ?_
      exact ev_return (mm 19 rfl) h
    · refine ev_ic_f 32 (mm 3 rfl) rfl c3 ?_
      refine ev_aload_nR (mm 4 rfl) l0 ?_
      obtain ⟨v4, e5, h⟩ := bind_so h
      refine ev_get_r (mm 5 rfl) rfl e5 ?_
      refine ev_aload_nR (mm 6 rfl) l0 ?_
      refine ev_dupR (mm 7 rfl) ?_
      obtain ⟨v6, e7, h⟩ := bind_so h
      refine ev_get_i (mm 8 rfl) rfl e7 ?_
      refine ev_dup_x1 (mm 9 rfl) rfl rfl ?_
      refine ev_iconst (mm 10 rfl) cI_1 ?_
      refine ev_iadd (mm 11 rfl) ?_
      obtain ⟨M8, e9, h⟩ := bind_so h
      refine ev_put_i (mm 12 rfl) (fun z => by cases z) rfl e9 ?_
      refine ev_iload_n (mm 13 rfl) l2 ?_
      refine ev_bipush (mm 14 rfl) cB_16 ?_
      refine ev_imul (mm 15 rfl) ?_
      refine ev_iload_n (mm 16 rfl) l1 ?_
      refine ev_iadd (mm 17 rfl) ?_
      obtain ⟨q10, e11, h⟩ := bind_so h
      rw [e11]
      obtain ⟨M12, e13, h⟩ := bind_so h
      refine ev_iastore (mm 18 rfl) e13 ?_
      exact ev_return (mm 19 rfl) h
  exact ⟨by decide, Nat.le_of_ble_eq_true rfl, key.1, key.2⟩
def f45_j46 (F45 : Nat → Int32 → vm_M → Option (vm_M)) (F46 : Nat → Int32 → vm_M → Option (vm_M)) (F47 : Nat → Int32 → vm_M → Option (vm_M)) (k7 : Int32 → vm_M → Option (vm_M)) (x0 : Nat) (x1 : Int32) (x2 : Int32) (s0 : Int32) (M : vm_M) : Option (vm_M) :=
  (s_ob M x0 6).bind fun _ =>
  (f33 x0 M).bind fun p14 =>
  (s_ob p14 x0 6).bind fun _ =>
  (F46 x0 x1 p14).bind fun p16 =>
  (s_ob p16 x0 6).bind fun _ =>
  (f44 x0 s0 0 p16).bind fun p18 =>
  k7 (x2 + 1) p18
theorem f45_j46_ok {O : Nat → List Value → vm_M → vm_R → Prop} {x0 : Nat} {x1 : Int32} {x2 : Int32} {s0 : Int32} {M : vm_M} {k7 : Int32 → vm_M → Option (vm_M)} {F45 : Nat → Int32 → vm_M → Option (vm_M)} {F46 : Nat → Int32 → vm_M → Option (vm_M)} {F47 : Nat → Int32 → vm_M → Option (vm_M)} {r : vm_M} (hF45 : ∀ {a0 : Nat} {a1 : Int32} {M : vm_M} {r : vm_M}, F45 a0 a1 M = some r → O 45 [.ref (a0), .int (a1)] M (rV r)) (hF46 : ∀ {a0 : Nat} {a1 : Int32} {M : vm_M} {r : vm_M}, F46 a0 a1 M = some r → O 46 [.ref (a0), .int (a1)] M (rV r)) (hF47 : ∀ {a0 : Nat} {a1 : Int32} {M : vm_M} {r : vm_M}, F47 a0 a1 M = some r → O 47 [.ref (a0), .int (a1)] M (rV r)) (hO32 : ∀ {a0 : Nat} {M : vm_M} {r : vm_M}, f32 a0 M = some r → O 32 [.ref (a0)] M (rV r)) (hO33 : ∀ {a0 : Nat} {M : vm_M} {r : vm_M}, f33 a0 M = some r → O 33 [.ref (a0)] M (rV r)) (hO37 : ∀ {a0 : Nat} {a1 : Int32} {M : vm_M} {r : vm_M}, f37 a0 a1 M = some r → O 37 [.ref (a0), .int (a1)] M (rV r)) (hO42 : ∀ {a0 : Nat} {M : vm_M} {r : Int32 × vm_M}, f42 a0 M = some r → O 42 [.ref (a0)] M (rI r)) (hO44 : ∀ {a0 : Nat} {a1 : Int32} {a2 : Int32} {M : vm_M} {r : vm_M}, f44 a0 a1 a2 M = some r → O 44 [.ref (a0), .int (a1), .int (a2)] M (rV r)) (hk7 : ∀ {y2 : Int32} {M : vm_M} {lv : vm_L}, (0, .ref (x0)) ∈ lv → (1, .int (x1)) ∈ lv → (2, .int (y2)) ∈ lv → k7 y2 M = some r → Ev 0 (fun _ => 0) O vp_45 6 4 false none (rV r) 7 lv [] M) {lv : vm_L} (l0 : (0, .ref (x0)) ∈ lv) (l1 : (1, .int (x1)) ∈ lv) (l2 : (2, .int (x2)) ∈ lv) (h : f45_j46 F45 F46 F47 k7 x0 x1 x2 s0 M = some r) : Ev 0 (fun _ => 0) O vp_45 6 4 false none (rV r) 46 lv [.int (s0)] M := by
  unfold f45_j46 at h
  refine evs_istore_n (mm 23 rfl) (by decide) (fun lv12 l3 s13 => ?_)
  have l0 := s13 _ _ l0 rfl
  have l1 := s13 _ _ l1 rfl
  have l2 := s13 _ _ l2 rfl
  refine ev_aload_nR (mm 24 rfl) l0 ?_
  obtain ⟨_, e24, h⟩ := bind_so h
  obtain ⟨p14, e15, h⟩ := bind_so h
  refine ev_callV_V [] (mm 25 rfl) rfl rfl (Nat.le_of_ble_eq_true rfl) (s_ob_of e24) (hO33 e15) ?_
  refine ev_aload_nR (mm 26 rfl) l0 ?_
  refine ev_iload_n (mm 27 rfl) l1 ?_
  obtain ⟨_, e23, h⟩ := bind_so h
  obtain ⟨p16, e17, h⟩ := bind_so h
  refine ev_callV_V [.int (x1)] (mm 28 rfl) rfl rfl (Nat.le_of_ble_eq_true rfl) (s_ob_of e23) (hF46 e17) ?_
  refine ev_aload_nR (mm 29 rfl) l0 ?_
  refine ev_iload_n (mm 30 rfl) l3 ?_
  refine ev_iconst (mm 31 rfl) cI_0 ?_
  obtain ⟨_, e22, h⟩ := bind_so h
  obtain ⟨p18, e19, h⟩ := bind_so h
  refine ev_callV_V [.int (s0), .int (0)] (mm 32 rfl) rfl rfl (Nat.le_of_ble_eq_true rfl) (s_ob_of e22) (hO44 e19) ?_
  refine evs_iinc (mm 33 rfl) cI_1 l2 (by decide) (fun lv20 l2 s21 => ?_)
  have l0 := s21 _ _ l0 rfl
  have l1 := s21 _ _ l1 rfl
  refine ev_goto 7 (mm 34 rfl) rfl ?_
  exact hk7 l0 l1 l2 h
def f45_j32 (F45 : Nat → Int32 → vm_M → Option (vm_M)) (F46 : Nat → Int32 → vm_M → Option (vm_M)) (F47 : Nat → Int32 → vm_M → Option (vm_M)) (k7 : Int32 → vm_M → Option (vm_M)) (x0 : Nat) (x1 : Int32) (x2 : Int32) (M : vm_M) : Option (vm_M) :=
  (sg_i M x0 6 13).bind fun v9 =>
  if ¬ v9 = 43 then
    f45_j46 F45 F46 F47 k7 x0 x1 x2 4 M
  else
    f45_j46 F45 F46 F47 k7 x0 x1 x2 3 M
theorem f45_j32_ok {O : Nat → List Value → vm_M → vm_R → Prop} {x0 : Nat} {x1 : Int32} {x2 : Int32} {M : vm_M} {k7 : Int32 → vm_M → Option (vm_M)} {F45 : Nat → Int32 → vm_M → Option (vm_M)} {F46 : Nat → Int32 → vm_M → Option (vm_M)} {F47 : Nat → Int32 → vm_M → Option (vm_M)} {r : vm_M} (hF45 : ∀ {a0 : Nat} {a1 : Int32} {M : vm_M} {r : vm_M}, F45 a0 a1 M = some r → O 45 [.ref (a0), .int (a1)] M (rV r)) (hF46 : ∀ {a0 : Nat} {a1 : Int32} {M : vm_M} {r : vm_M}, F46 a0 a1 M = some r → O 46 [.ref (a0), .int (a1)] M (rV r)) (hF47 : ∀ {a0 : Nat} {a1 : Int32} {M : vm_M} {r : vm_M}, F47 a0 a1 M = some r → O 47 [.ref (a0), .int (a1)] M (rV r)) (hO32 : ∀ {a0 : Nat} {M : vm_M} {r : vm_M}, f32 a0 M = some r → O 32 [.ref (a0)] M (rV r)) (hO33 : ∀ {a0 : Nat} {M : vm_M} {r : vm_M}, f33 a0 M = some r → O 33 [.ref (a0)] M (rV r)) (hO37 : ∀ {a0 : Nat} {a1 : Int32} {M : vm_M} {r : vm_M}, f37 a0 a1 M = some r → O 37 [.ref (a0), .int (a1)] M (rV r)) (hO42 : ∀ {a0 : Nat} {M : vm_M} {r : Int32 × vm_M}, f42 a0 M = some r → O 42 [.ref (a0)] M (rI r)) (hO44 : ∀ {a0 : Nat} {a1 : Int32} {a2 : Int32} {M : vm_M} {r : vm_M}, f44 a0 a1 a2 M = some r → O 44 [.ref (a0), .int (a1), .int (a2)] M (rV r)) (hk7 : ∀ {y2 : Int32} {M : vm_M} {lv : vm_L}, (0, .ref (x0)) ∈ lv → (1, .int (x1)) ∈ lv → (2, .int (y2)) ∈ lv → k7 y2 M = some r → Ev 0 (fun _ => 0) O vp_45 6 4 false none (rV r) 7 lv [] M) {lv : vm_L} (l0 : (0, .ref (x0)) ∈ lv) (l1 : (1, .int (x1)) ∈ lv) (l2 : (2, .int (x2)) ∈ lv) (h : f45_j32 F45 F46 F47 k7 x0 x1 x2 M = some r) : Ev 0 (fun _ => 0) O vp_45 6 4 false none (rV r) 32 lv [] M := by
  unfold f45_j32 at h
  refine ev_aload_nR (mm 16 rfl) l0 ?_
  obtain ⟨v9, e10, h⟩ := bind_so h
  refine ev_get_i (mm 17 rfl) rfl e10 ?_
  refine ev_bipush (mm 18 rfl) cB_43 ?_
  rcases ite_so h with ⟨c11, h⟩ | ⟨c11, h⟩
  · refine ev_ic_t 45 (mm 19 rfl) rfl c11 ?_
    refine ev_iconst (mm 22 rfl) cI_4 ?_
    exact f45_j46_ok hF45 hF46 hF47 hO32 hO33 hO37 hO42 hO44 hk7 l0 l1 l2 h
  · refine ev_ic_f 45 (mm 19 rfl) rfl c11 ?_
    refine ev_iconst (mm 20 rfl) cI_3 ?_
    refine ev_goto 46 (mm 21 rfl) rfl ?_
    exact f45_j46_ok hF45 hF46 hF47 hO32 hO33 hO37 hO42 hO44 hk7 l0 l1 l2 h
def f45_l7 (F45 : Nat → Int32 → vm_M → Option (vm_M)) (F46 : Nat → Int32 → vm_M → Option (vm_M)) (F47 : Nat → Int32 → vm_M → Option (vm_M)) (x0 : Nat) (x1 : Int32) : Nat → Int32 → vm_M → Option (vm_M)
  | 0 => fun _ _ => none
  | n + 1 => fun x2 M =>
    if 700 ≤ x2 then
      some M
    else
      (sg_i M x0 6 13).bind fun v6 =>
      if v6 = 43 then
        f45_j32 F45 F46 F47 (f45_l7 F45 F46 F47 x0 x1 n) x0 x1 x2 M
      else
        (sg_i M x0 6 13).bind fun v25 =>
        if ¬ v25 = 45 then
          some M
        else
          f45_j32 F45 F46 F47 (f45_l7 F45 F46 F47 x0 x1 n) x0 x1 x2 M
theorem f45_l7_ok {O : Nat → List Value → vm_M → vm_R → Prop} {x0 : Nat} {x1 : Int32} {F45 : Nat → Int32 → vm_M → Option (vm_M)} {F46 : Nat → Int32 → vm_M → Option (vm_M)} {F47 : Nat → Int32 → vm_M → Option (vm_M)} {r : vm_M} (hF45 : ∀ {a0 : Nat} {a1 : Int32} {M : vm_M} {r : vm_M}, F45 a0 a1 M = some r → O 45 [.ref (a0), .int (a1)] M (rV r)) (hF46 : ∀ {a0 : Nat} {a1 : Int32} {M : vm_M} {r : vm_M}, F46 a0 a1 M = some r → O 46 [.ref (a0), .int (a1)] M (rV r)) (hF47 : ∀ {a0 : Nat} {a1 : Int32} {M : vm_M} {r : vm_M}, F47 a0 a1 M = some r → O 47 [.ref (a0), .int (a1)] M (rV r)) (hO32 : ∀ {a0 : Nat} {M : vm_M} {r : vm_M}, f32 a0 M = some r → O 32 [.ref (a0)] M (rV r)) (hO33 : ∀ {a0 : Nat} {M : vm_M} {r : vm_M}, f33 a0 M = some r → O 33 [.ref (a0)] M (rV r)) (hO37 : ∀ {a0 : Nat} {a1 : Int32} {M : vm_M} {r : vm_M}, f37 a0 a1 M = some r → O 37 [.ref (a0), .int (a1)] M (rV r)) (hO42 : ∀ {a0 : Nat} {M : vm_M} {r : Int32 × vm_M}, f42 a0 M = some r → O 42 [.ref (a0)] M (rI r)) (hO44 : ∀ {a0 : Nat} {a1 : Int32} {a2 : Int32} {M : vm_M} {r : vm_M}, f44 a0 a1 a2 M = some r → O 44 [.ref (a0), .int (a1), .int (a2)] M (rV r)) : ∀ (n : Nat) {x2 : Int32} {M : vm_M} {lv : vm_L}, (0, .ref (x0)) ∈ lv → (1, .int (x1)) ∈ lv → (2, .int (x2)) ∈ lv → f45_l7 F45 F46 F47 x0 x1 n x2 M = some r → Ev 0 (fun _ => 0) O vp_45 6 4 false none (rV r) 7 lv [] M := by
  intro n
  induction n with
  | zero =>
    intro x2 M lv l0 l1 l2 h
    cases h
  | succ n ih =>
    intro x2 M lv l0 l1 l2 h
    dsimp only [f45_l7] at h
    refine ev_iload_n (mm 5 rfl) l2 ?_
    refine ev_sipush (mm 6 rfl) cS_700 ?_
    rcases ite_so h with ⟨c5, h⟩ | ⟨c5, h⟩
    · refine ev_ic_t 68 (mm 7 rfl) rfl c5 ?_
      exact ev_return (mm 35 rfl) h
    · refine ev_ic_f 68 (mm 7 rfl) rfl c5 ?_
      refine ev_aload_nR (mm 8 rfl) l0 ?_
      obtain ⟨v6, e7, h⟩ := bind_so h
      refine ev_get_i (mm 9 rfl) rfl e7 ?_
      refine ev_bipush (mm 10 rfl) cB_43 ?_
      rcases ite_so h with ⟨c8, h⟩ | ⟨c8, h⟩
      · refine ev_ic_t 32 (mm 11 rfl) rfl c8 ?_
        exact f45_j32_ok hF45 hF46 hF47 hO32 hO33 hO37 hO42 hO44 ih l0 l1 l2 h
      · refine ev_ic_f 32 (mm 11 rfl) rfl c8 ?_
        refine ev_aload_nR (mm 12 rfl) l0 ?_
        obtain ⟨v25, e26, h⟩ := bind_so h
        refine ev_get_i (mm 13 rfl) rfl e26 ?_
        refine ev_bipush (mm 14 rfl) cB_45 ?_
        rcases ite_so h with ⟨c27, h⟩ | ⟨c27, h⟩
        · refine ev_ic_t 68 (mm 15 rfl) rfl c27 ?_
          exact ev_return (mm 35 rfl) h
        · refine ev_ic_f 68 (mm 15 rfl) rfl c27 ?_
          exact f45_j32_ok hF45 hF46 hF47 hO32 hO33 hO37 hO42 hO44 ih l0 l1 l2 h
/-- PupilCoin$Reader.ex(I)V -/
def f45g (F45 : Nat → Int32 → vm_M → Option (vm_M)) (F46 : Nat → Int32 → vm_M → Option (vm_M)) (F47 : Nat → Int32 → vm_M → Option (vm_M)) (x0 : Nat) (x1 : Int32) (M : vm_M) : Option (vm_M) :=
  (s_ob M x0 6).bind fun _ =>
  (F46 x0 x1 M).bind fun p1 =>
  f45_l7 F45 F46 F47 x0 x1
  
    100000 0 p1
theorem f45g_ok {O : Nat → List Value → vm_M → vm_R → Prop} {x0 : Nat} {x1 : Int32} {M : vm_M} {F45 : Nat → Int32 → vm_M → Option (vm_M)} {F46 : Nat → Int32 → vm_M → Option (vm_M)} {F47 : Nat → Int32 → vm_M → Option (vm_M)} {r : vm_M} (hF45 : ∀ {a0 : Nat} {a1 : Int32} {M : vm_M} {r : vm_M}, F45 a0 a1 M = some r → O 45 [.ref (a0), .int (a1)] M (rV r)) (hF46 : ∀ {a0 : Nat} {a1 : Int32} {M : vm_M} {r : vm_M}, F46 a0 a1 M = some r → O 46 [.ref (a0), .int (a1)] M (rV r)) (hF47 : ∀ {a0 : Nat} {a1 : Int32} {M : vm_M} {r : vm_M}, F47 a0 a1 M = some r → O 47 [.ref (a0), .int (a1)] M (rV r)) (hO32 : ∀ {a0 : Nat} {M : vm_M} {r : vm_M}, f32 a0 M = some r → O 32 [.ref (a0)] M (rV r)) (hO33 : ∀ {a0 : Nat} {M : vm_M} {r : vm_M}, f33 a0 M = some r → O 33 [.ref (a0)] M (rV r)) (hO37 : ∀ {a0 : Nat} {a1 : Int32} {M : vm_M} {r : vm_M}, f37 a0 a1 M = some r → O 37 [.ref (a0), .int (a1)] M (rV r)) (hO42 : ∀ {a0 : Nat} {M : vm_M} {r : Int32 × vm_M}, f42 a0 M = some r → O 42 [.ref (a0)] M (rI r)) (hO44 : ∀ {a0 : Nat} {a1 : Int32} {a2 : Int32} {M : vm_M} {r : vm_M}, f44 a0 a1 a2 M = some r → O 44 [.ref (a0), .int (a1), .int (a2)] M (rV r)) (h : f45g F45 F46 F47 x0 x1 M = some r) : Ev 0 (fun _ => 0) O vp_45 6 4 false none (rV r) 0 (lv_args 0 [.ref (x0), .int (x1)]) [] M := by
  have l0 : (0, .ref (x0)) ∈ lv_args 0 [.ref (x0), .int (x1)] := List.Mem.head _
  have l1 : (1, .int (x1)) ∈ lv_args 0 [.ref (x0), .int (x1)] := List.Mem.tail _ (List.Mem.head _)
  unfold f45g at h
  refine ev_aload_nR (mm 0 rfl) l0 ?_
  refine ev_iload_n (mm 1 rfl) l1 ?_
  obtain ⟨_, e28, h⟩ := bind_so h
  obtain ⟨p1, e2, h⟩ := bind_so h
  refine ev_callV_V [.int (x1)] (mm 2 rfl) rfl rfl (Nat.le_of_ble_eq_true rfl) (s_ob_of e28) (hF46 e2) ?_
  refine ev_iconst (mm 3 rfl) cI_0 ?_
  refine evs_istore_n (mm 4 rfl) (by decide) (fun lv3 l2 s4 => ?_)
  have l0 := s4 _ _ l0 rfl
  have l1 := s4 _ _ l1 rfl
  refine f45_l7_ok hF45 hF46 hF47 hO32 hO33 hO37 hO42 hO44 100000 l0 l1 l2 h
def f46_j47 (F45 : Nat → Int32 → vm_M → Option (vm_M)) (F46 : Nat → Int32 → vm_M → Option (vm_M)) (F47 : Nat → Int32 → vm_M → Option (vm_M)) (k7 : Int32 → vm_M → Option (vm_M)) (x0 : Nat) (x1 : Int32) (x2 : Int32) (s0 : Int32) (M : vm_M) : Option (vm_M) :=
  (s_ob M x0 6).bind fun _ =>
  (f33 x0 M).bind fun p14 =>
  (s_ob p14 x0 6).bind fun _ =>
  (F47 x0 x1 p14).bind fun p16 =>
  (s_ob p16 x0 6).bind fun _ =>
  (f44 x0 s0 0 p16).bind fun p18 =>
  k7 (x2 + 1) p18
theorem f46_j47_ok {O : Nat → List Value → vm_M → vm_R → Prop} {x0 : Nat} {x1 : Int32} {x2 : Int32} {s0 : Int32} {M : vm_M} {k7 : Int32 → vm_M → Option (vm_M)} {F45 : Nat → Int32 → vm_M → Option (vm_M)} {F46 : Nat → Int32 → vm_M → Option (vm_M)} {F47 : Nat → Int32 → vm_M → Option (vm_M)} {r : vm_M} (hF45 : ∀ {a0 : Nat} {a1 : Int32} {M : vm_M} {r : vm_M}, F45 a0 a1 M = some r → O 45 [.ref (a0), .int (a1)] M (rV r)) (hF46 : ∀ {a0 : Nat} {a1 : Int32} {M : vm_M} {r : vm_M}, F46 a0 a1 M = some r → O 46 [.ref (a0), .int (a1)] M (rV r)) (hF47 : ∀ {a0 : Nat} {a1 : Int32} {M : vm_M} {r : vm_M}, F47 a0 a1 M = some r → O 47 [.ref (a0), .int (a1)] M (rV r)) (hO32 : ∀ {a0 : Nat} {M : vm_M} {r : vm_M}, f32 a0 M = some r → O 32 [.ref (a0)] M (rV r)) (hO33 : ∀ {a0 : Nat} {M : vm_M} {r : vm_M}, f33 a0 M = some r → O 33 [.ref (a0)] M (rV r)) (hO37 : ∀ {a0 : Nat} {a1 : Int32} {M : vm_M} {r : vm_M}, f37 a0 a1 M = some r → O 37 [.ref (a0), .int (a1)] M (rV r)) (hO42 : ∀ {a0 : Nat} {M : vm_M} {r : Int32 × vm_M}, f42 a0 M = some r → O 42 [.ref (a0)] M (rI r)) (hO44 : ∀ {a0 : Nat} {a1 : Int32} {a2 : Int32} {M : vm_M} {r : vm_M}, f44 a0 a1 a2 M = some r → O 44 [.ref (a0), .int (a1), .int (a2)] M (rV r)) (hk7 : ∀ {y2 : Int32} {M : vm_M} {lv : vm_L}, (0, .ref (x0)) ∈ lv → (1, .int (x1)) ∈ lv → (2, .int (y2)) ∈ lv → k7 y2 M = some r → Ev 0 (fun _ => 0) O vp_46 6 4 false none (rV r) 7 lv [] M) {lv : vm_L} (l0 : (0, .ref (x0)) ∈ lv) (l1 : (1, .int (x1)) ∈ lv) (l2 : (2, .int (x2)) ∈ lv) (h : f46_j47 F45 F46 F47 k7 x0 x1 x2 s0 M = some r) : Ev 0 (fun _ => 0) O vp_46 6 4 false none (rV r) 47 lv [.int (s0)] M := by
  unfold f46_j47 at h
  refine evs_istore_n (mm 23 rfl) (by decide) (fun lv12 l3 s13 => ?_)
  have l0 := s13 _ _ l0 rfl
  have l1 := s13 _ _ l1 rfl
  have l2 := s13 _ _ l2 rfl
  refine ev_aload_nR (mm 24 rfl) l0 ?_
  obtain ⟨_, e24, h⟩ := bind_so h
  obtain ⟨p14, e15, h⟩ := bind_so h
  refine ev_callV_V [] (mm 25 rfl) rfl rfl (Nat.le_of_ble_eq_true rfl) (s_ob_of e24) (hO33 e15) ?_
  refine ev_aload_nR (mm 26 rfl) l0 ?_
  refine ev_iload_n (mm 27 rfl) l1 ?_
  obtain ⟨_, e23, h⟩ := bind_so h
  obtain ⟨p16, e17, h⟩ := bind_so h
  refine ev_callV_V [.int (x1)] (mm 28 rfl) rfl rfl (Nat.le_of_ble_eq_true rfl) (s_ob_of e23) (hF47 e17) ?_
  refine ev_aload_nR (mm 29 rfl) l0 ?_
  refine ev_iload_n (mm 30 rfl) l3 ?_
  refine ev_iconst (mm 31 rfl) cI_0 ?_
  obtain ⟨_, e22, h⟩ := bind_so h
  obtain ⟨p18, e19, h⟩ := bind_so h
  refine ev_callV_V [.int (s0), .int (0)] (mm 32 rfl) rfl rfl (Nat.le_of_ble_eq_true rfl) (s_ob_of e22) (hO44 e19) ?_
  refine evs_iinc (mm 33 rfl) cI_1 l2 (by decide) (fun lv20 l2 s21 => ?_)
  have l0 := s21 _ _ l0 rfl
  have l1 := s21 _ _ l1 rfl
  refine ev_goto 7 (mm 34 rfl) rfl ?_
  exact hk7 l0 l1 l2 h
def f46_j32 (F45 : Nat → Int32 → vm_M → Option (vm_M)) (F46 : Nat → Int32 → vm_M → Option (vm_M)) (F47 : Nat → Int32 → vm_M → Option (vm_M)) (k7 : Int32 → vm_M → Option (vm_M)) (x0 : Nat) (x1 : Int32) (x2 : Int32) (M : vm_M) : Option (vm_M) :=
  (sg_i M x0 6 13).bind fun v9 =>
  if ¬ v9 = 42 then
    f46_j47 F45 F46 F47 k7 x0 x1 x2 6 M
  else
    f46_j47 F45 F46 F47 k7 x0 x1 x2 5 M
theorem f46_j32_ok {O : Nat → List Value → vm_M → vm_R → Prop} {x0 : Nat} {x1 : Int32} {x2 : Int32} {M : vm_M} {k7 : Int32 → vm_M → Option (vm_M)} {F45 : Nat → Int32 → vm_M → Option (vm_M)} {F46 : Nat → Int32 → vm_M → Option (vm_M)} {F47 : Nat → Int32 → vm_M → Option (vm_M)} {r : vm_M} (hF45 : ∀ {a0 : Nat} {a1 : Int32} {M : vm_M} {r : vm_M}, F45 a0 a1 M = some r → O 45 [.ref (a0), .int (a1)] M (rV r)) (hF46 : ∀ {a0 : Nat} {a1 : Int32} {M : vm_M} {r : vm_M}, F46 a0 a1 M = some r → O 46 [.ref (a0), .int (a1)] M (rV r)) (hF47 : ∀ {a0 : Nat} {a1 : Int32} {M : vm_M} {r : vm_M}, F47 a0 a1 M = some r → O 47 [.ref (a0), .int (a1)] M (rV r)) (hO32 : ∀ {a0 : Nat} {M : vm_M} {r : vm_M}, f32 a0 M = some r → O 32 [.ref (a0)] M (rV r)) (hO33 : ∀ {a0 : Nat} {M : vm_M} {r : vm_M}, f33 a0 M = some r → O 33 [.ref (a0)] M (rV r)) (hO37 : ∀ {a0 : Nat} {a1 : Int32} {M : vm_M} {r : vm_M}, f37 a0 a1 M = some r → O 37 [.ref (a0), .int (a1)] M (rV r)) (hO42 : ∀ {a0 : Nat} {M : vm_M} {r : Int32 × vm_M}, f42 a0 M = some r → O 42 [.ref (a0)] M (rI r)) (hO44 : ∀ {a0 : Nat} {a1 : Int32} {a2 : Int32} {M : vm_M} {r : vm_M}, f44 a0 a1 a2 M = some r → O 44 [.ref (a0), .int (a1), .int (a2)] M (rV r)) (hk7 : ∀ {y2 : Int32} {M : vm_M} {lv : vm_L}, (0, .ref (x0)) ∈ lv → (1, .int (x1)) ∈ lv → (2, .int (y2)) ∈ lv → k7 y2 M = some r → Ev 0 (fun _ => 0) O vp_46 6 4 false none (rV r) 7 lv [] M) {lv : vm_L} (l0 : (0, .ref (x0)) ∈ lv) (l1 : (1, .int (x1)) ∈ lv) (l2 : (2, .int (x2)) ∈ lv) (h : f46_j32 F45 F46 F47 k7 x0 x1 x2 M = some r) : Ev 0 (fun _ => 0) O vp_46 6 4 false none (rV r) 32 lv [] M := by
  unfold f46_j32 at h
  refine ev_aload_nR (mm 16 rfl) l0 ?_
  obtain ⟨v9, e10, h⟩ := bind_so h
  refine ev_get_i (mm 17 rfl) rfl e10 ?_
  refine ev_bipush (mm 18 rfl) cB_42 ?_
  rcases ite_so h with ⟨c11, h⟩ | ⟨c11, h⟩
  · refine ev_ic_t 45 (mm 19 rfl) rfl c11 ?_
    refine ev_bipush (mm 22 rfl) cB_6 ?_
    exact f46_j47_ok hF45 hF46 hF47 hO32 hO33 hO37 hO42 hO44 hk7 l0 l1 l2 h
  · refine ev_ic_f 45 (mm 19 rfl) rfl c11 ?_
    refine ev_iconst (mm 20 rfl) cI_5 ?_
    refine ev_goto 47 (mm 21 rfl) rfl ?_
    exact f46_j47_ok hF45 hF46 hF47 hO32 hO33 hO37 hO42 hO44 hk7 l0 l1 l2 h
def f46_l7 (F45 : Nat → Int32 → vm_M → Option (vm_M)) (F46 : Nat → Int32 → vm_M → Option (vm_M)) (F47 : Nat → Int32 → vm_M → Option (vm_M)) (x0 : Nat) (x1 : Int32) : Nat → Int32 → vm_M → Option (vm_M)
  | 0 => fun _ _ => none
  | n + 1 => fun x2 M =>
    if 700 ≤ x2 then
      some M
    else
      (sg_i M x0 6 13).bind fun v6 =>
      if v6 = 42 then
        f46_j32 F45 F46 F47 (f46_l7 F45 F46 F47 x0 x1 n) x0 x1 x2 M
      else
        (sg_i M x0 6 13).bind fun v25 =>
        if ¬ v25 = 47 then
          some M
        else
          f46_j32 F45 F46 F47 (f46_l7 F45 F46 F47 x0 x1 n) x0 x1 x2 M
theorem f46_l7_ok {O : Nat → List Value → vm_M → vm_R → Prop} {x0 : Nat} {x1 : Int32} {F45 : Nat → Int32 → vm_M → Option (vm_M)} {F46 : Nat → Int32 → vm_M → Option (vm_M)} {F47 : Nat → Int32 → vm_M → Option (vm_M)} {r : vm_M} (hF45 : ∀ {a0 : Nat} {a1 : Int32} {M : vm_M} {r : vm_M}, F45 a0 a1 M = some r → O 45 [.ref (a0), .int (a1)] M (rV r)) (hF46 : ∀ {a0 : Nat} {a1 : Int32} {M : vm_M} {r : vm_M}, F46 a0 a1 M = some r → O 46 [.ref (a0), .int (a1)] M (rV r)) (hF47 : ∀ {a0 : Nat} {a1 : Int32} {M : vm_M} {r : vm_M}, F47 a0 a1 M = some r → O 47 [.ref (a0), .int (a1)] M (rV r)) (hO32 : ∀ {a0 : Nat} {M : vm_M} {r : vm_M}, f32 a0 M = some r → O 32 [.ref (a0)] M (rV r)) (hO33 : ∀ {a0 : Nat} {M : vm_M} {r : vm_M}, f33 a0 M = some r → O 33 [.ref (a0)] M (rV r)) (hO37 : ∀ {a0 : Nat} {a1 : Int32} {M : vm_M} {r : vm_M}, f37 a0 a1 M = some r → O 37 [.ref (a0), .int (a1)] M (rV r)) (hO42 : ∀ {a0 : Nat} {M : vm_M} {r : Int32 × vm_M}, f42 a0 M = some r → O 42 [.ref (a0)] M (rI r)) (hO44 : ∀ {a0 : Nat} {a1 : Int32} {a2 : Int32} {M : vm_M} {r : vm_M}, f44 a0 a1 a2 M = some r → O 44 [.ref (a0), .int (a1), .int (a2)] M (rV r)) : ∀ (n : Nat) {x2 : Int32} {M : vm_M} {lv : vm_L}, (0, .ref (x0)) ∈ lv → (1, .int (x1)) ∈ lv → (2, .int (x2)) ∈ lv → f46_l7 F45 F46 F47 x0 x1 n x2 M = some r → Ev 0 (fun _ => 0) O vp_46 6 4 false none (rV r) 7 lv [] M := by
  intro n
  induction n with
  | zero =>
    intro x2 M lv l0 l1 l2 h
    cases h
  | succ n ih =>
    intro x2 M lv l0 l1 l2 h
    dsimp only [f46_l7] at h
    refine ev_iload_n (mm 5 rfl) l2 ?_
    refine ev_sipush (mm 6 rfl) cS_700 ?_
    rcases ite_so h with ⟨c5, h⟩ | ⟨c5, h⟩
    · refine ev_ic_t 69 (mm 7 rfl) rfl c5 ?_
      exact ev_return (mm 35 rfl) h
    · refine ev_ic_f 69 (mm 7 rfl) rfl c5 ?_
      refine ev_aload_nR (mm 8 rfl) l0 ?_
      obtain ⟨v6, e7, h⟩ := bind_so h
      refine ev_get_i (mm 9 rfl) rfl e7 ?_
      refine ev_bipush (mm 10 rfl) cB_42 ?_
      rcases ite_so h with ⟨c8, h⟩ | ⟨c8, h⟩
      · refine ev_ic_t 32 (mm 11 rfl) rfl c8 ?_
        exact f46_j32_ok hF45 hF46 hF47 hO32 hO33 hO37 hO42 hO44 ih l0 l1 l2 h
      · refine ev_ic_f 32 (mm 11 rfl) rfl c8 ?_
        refine ev_aload_nR (mm 12 rfl) l0 ?_
        obtain ⟨v25, e26, h⟩ := bind_so h
        refine ev_get_i (mm 13 rfl) rfl e26 ?_
        refine ev_bipush (mm 14 rfl) cB_47 ?_
        rcases ite_so h with ⟨c27, h⟩ | ⟨c27, h⟩
        · refine ev_ic_t 69 (mm 15 rfl) rfl c27 ?_
          exact ev_return (mm 35 rfl) h
        · refine ev_ic_f 69 (mm 15 rfl) rfl c27 ?_
          exact f46_j32_ok hF45 hF46 hF47 hO32 hO33 hO37 hO42 hO44 ih l0 l1 l2 h
/-- PupilCoin$Reader.prod(I)V -/
def f46g (F45 : Nat → Int32 → vm_M → Option (vm_M)) (F46 : Nat → Int32 → vm_M → Option (vm_M)) (F47 : Nat → Int32 → vm_M → Option (vm_M)) (x0 : Nat) (x1 : Int32) (M : vm_M) : Option (vm_M) :=
  (s_ob M x0 6).bind fun _ =>
  (F47 x0 x1 M).bind fun p1 =>
  f46_l7 F45 F46 F47 x0 x1
  
    100000 0 p1
theorem f46g_ok {O : Nat → List Value → vm_M → vm_R → Prop} {x0 : Nat} {x1 : Int32} {M : vm_M} {F45 : Nat → Int32 → vm_M → Option (vm_M)} {F46 : Nat → Int32 → vm_M → Option (vm_M)} {F47 : Nat → Int32 → vm_M → Option (vm_M)} {r : vm_M} (hF45 : ∀ {a0 : Nat} {a1 : Int32} {M : vm_M} {r : vm_M}, F45 a0 a1 M = some r → O 45 [.ref (a0), .int (a1)] M (rV r)) (hF46 : ∀ {a0 : Nat} {a1 : Int32} {M : vm_M} {r : vm_M}, F46 a0 a1 M = some r → O 46 [.ref (a0), .int (a1)] M (rV r)) (hF47 : ∀ {a0 : Nat} {a1 : Int32} {M : vm_M} {r : vm_M}, F47 a0 a1 M = some r → O 47 [.ref (a0), .int (a1)] M (rV r)) (hO32 : ∀ {a0 : Nat} {M : vm_M} {r : vm_M}, f32 a0 M = some r → O 32 [.ref (a0)] M (rV r)) (hO33 : ∀ {a0 : Nat} {M : vm_M} {r : vm_M}, f33 a0 M = some r → O 33 [.ref (a0)] M (rV r)) (hO37 : ∀ {a0 : Nat} {a1 : Int32} {M : vm_M} {r : vm_M}, f37 a0 a1 M = some r → O 37 [.ref (a0), .int (a1)] M (rV r)) (hO42 : ∀ {a0 : Nat} {M : vm_M} {r : Int32 × vm_M}, f42 a0 M = some r → O 42 [.ref (a0)] M (rI r)) (hO44 : ∀ {a0 : Nat} {a1 : Int32} {a2 : Int32} {M : vm_M} {r : vm_M}, f44 a0 a1 a2 M = some r → O 44 [.ref (a0), .int (a1), .int (a2)] M (rV r)) (h : f46g F45 F46 F47 x0 x1 M = some r) : Ev 0 (fun _ => 0) O vp_46 6 4 false none (rV r) 0 (lv_args 0 [.ref (x0), .int (x1)]) [] M := by
  have l0 : (0, .ref (x0)) ∈ lv_args 0 [.ref (x0), .int (x1)] := List.Mem.head _
  have l1 : (1, .int (x1)) ∈ lv_args 0 [.ref (x0), .int (x1)] := List.Mem.tail _ (List.Mem.head _)
  unfold f46g at h
  refine ev_aload_nR (mm 0 rfl) l0 ?_
  refine ev_iload_n (mm 1 rfl) l1 ?_
  obtain ⟨_, e28, h⟩ := bind_so h
  obtain ⟨p1, e2, h⟩ := bind_so h
  refine ev_callV_V [.int (x1)] (mm 2 rfl) rfl rfl (Nat.le_of_ble_eq_true rfl) (s_ob_of e28) (hF47 e2) ?_
  refine ev_iconst (mm 3 rfl) cI_0 ?_
  refine evs_istore_n (mm 4 rfl) (by decide) (fun lv3 l2 s4 => ?_)
  have l0 := s4 _ _ l0 rfl
  have l1 := s4 _ _ l1 rfl
  refine f46_l7_ok hF45 hF46 hF47 hO32 hO33 hO37 hO42 hO44 100000 l0 l1 l2 h
def f47_j167 (F45 : Nat → Int32 → vm_M → Option (vm_M)) (F46 : Nat → Int32 → vm_M → Option (vm_M)) (F47 : Nat → Int32 → vm_M → Option (vm_M)) (x0 : Nat) (x1 : Int32) (s0 : Int32) (M : vm_M) : Option (vm_M) :=
  (s_ob M x0 6).bind fun _ =>
  (f33 x0 M).bind fun p27 =>
  (s_ob p27 x0 6).bind fun _ =>
  (f37 x0 40 p27).bind fun p29 =>
  (s_ob p29 x0 6).bind fun _ =>
  (F45 x0 (x1 + 1) p29).bind fun p31 =>
  (s_ob p31 x0 6).bind fun _ =>
  (f37 x0 44 p31).bind fun p33 =>
  (s_ob p33 x0 6).bind fun _ =>
  (F45 x0 (x1 + 1) p33).bind fun p35 =>
  (s_ob p35 x0 6).bind fun _ =>
  (f37 x0 41 p35).bind fun p37 =>
  (s_ob p37 x0 6).bind fun _ =>
  (f44 x0 s0 0 p37).bind fun p39 =>
  some p39
theorem f47_j167_ok {O : Nat → List Value → vm_M → vm_R → Prop} {x0 : Nat} {x1 : Int32} {s0 : Int32} {M : vm_M} {F45 : Nat → Int32 → vm_M → Option (vm_M)} {F46 : Nat → Int32 → vm_M → Option (vm_M)} {F47 : Nat → Int32 → vm_M → Option (vm_M)} {r : vm_M} (hF45 : ∀ {a0 : Nat} {a1 : Int32} {M : vm_M} {r : vm_M}, F45 a0 a1 M = some r → O 45 [.ref (a0), .int (a1)] M (rV r)) (hF46 : ∀ {a0 : Nat} {a1 : Int32} {M : vm_M} {r : vm_M}, F46 a0 a1 M = some r → O 46 [.ref (a0), .int (a1)] M (rV r)) (hF47 : ∀ {a0 : Nat} {a1 : Int32} {M : vm_M} {r : vm_M}, F47 a0 a1 M = some r → O 47 [.ref (a0), .int (a1)] M (rV r)) (hO32 : ∀ {a0 : Nat} {M : vm_M} {r : vm_M}, f32 a0 M = some r → O 32 [.ref (a0)] M (rV r)) (hO33 : ∀ {a0 : Nat} {M : vm_M} {r : vm_M}, f33 a0 M = some r → O 33 [.ref (a0)] M (rV r)) (hO37 : ∀ {a0 : Nat} {a1 : Int32} {M : vm_M} {r : vm_M}, f37 a0 a1 M = some r → O 37 [.ref (a0), .int (a1)] M (rV r)) (hO42 : ∀ {a0 : Nat} {M : vm_M} {r : Int32 × vm_M}, f42 a0 M = some r → O 42 [.ref (a0)] M (rI r)) (hO44 : ∀ {a0 : Nat} {a1 : Int32} {a2 : Int32} {M : vm_M} {r : vm_M}, f44 a0 a1 a2 M = some r → O 44 [.ref (a0), .int (a1), .int (a2)] M (rV r)) {lv : vm_L} (l0 : (0, .ref (x0)) ∈ lv) (l1 : (1, .int (x1)) ∈ lv) (h : f47_j167 F45 F46 F47 x0 x1 s0 M = some r) : Ev 0 (fun _ => 0) O vp_47 6 4 false none (rV r) 167 lv [.int (s0)] M := by
  unfold f47_j167 at h
  refine evs_istore_n (mm 79 rfl) (by decide) (fun lv25 l3 s26 => ?_)
  have l0 := s26 _ _ l0 rfl
  have l1 := s26 _ _ l1 rfl
  refine ev_aload_nR (mm 80 rfl) l0 ?_
  obtain ⟨_, e47, h⟩ := bind_so h
  obtain ⟨p27, e28, h⟩ := bind_so h
  refine ev_callV_V [] (mm 81 rfl) rfl rfl (Nat.le_of_ble_eq_true rfl) (s_ob_of e47) (hO33 e28) ?_
  refine ev_aload_nR (mm 82 rfl) l0 ?_
  refine ev_bipush (mm 83 rfl) cB_40 ?_
  obtain ⟨_, e46, h⟩ := bind_so h
  obtain ⟨p29, e30, h⟩ := bind_so h
  refine ev_callV_V [.int (40)] (mm 84 rfl) rfl rfl (Nat.le_of_ble_eq_true rfl) (s_ob_of e46) (hO37 e30) ?_
  refine ev_aload_nR (mm 85 rfl) l0 ?_
  refine ev_iload_n (mm 86 rfl) l1 ?_
  refine ev_iconst (mm 87 rfl) cI_1 ?_
  refine ev_iadd (mm 88 rfl) ?_
  obtain ⟨_, e45, h⟩ := bind_so h
  obtain ⟨p31, e32, h⟩ := bind_so h
  refine ev_callV_V [.int ((x1 + 1))] (mm 89 rfl) rfl rfl (Nat.le_of_ble_eq_true rfl) (s_ob_of e45) (hF45 e32) ?_
  refine ev_aload_nR (mm 90 rfl) l0 ?_
  refine ev_bipush (mm 91 rfl) cB_44 ?_
  obtain ⟨_, e44, h⟩ := bind_so h
  obtain ⟨p33, e34, h⟩ := bind_so h
  refine ev_callV_V [.int (44)] (mm 92 rfl) rfl rfl (Nat.le_of_ble_eq_true rfl) (s_ob_of e44) (hO37 e34) ?_
  refine ev_aload_nR (mm 93 rfl) l0 ?_
  refine ev_iload_n (mm 94 rfl) l1 ?_
  refine ev_iconst (mm 95 rfl) cI_1 ?_
  refine ev_iadd (mm 96 rfl) ?_
  obtain ⟨_, e43, h⟩ := bind_so h
  obtain ⟨p35, e36, h⟩ := bind_so h
  refine ev_callV_V [.int ((x1 + 1))] (mm 97 rfl) rfl rfl (Nat.le_of_ble_eq_true rfl) (s_ob_of e43) (hF45 e36) ?_
  refine ev_aload_nR (mm 98 rfl) l0 ?_
  refine ev_bipush (mm 99 rfl) cB_41 ?_
  obtain ⟨_, e42, h⟩ := bind_so h
  obtain ⟨p37, e38, h⟩ := bind_so h
  refine ev_callV_V [.int (41)] (mm 100 rfl) rfl rfl (Nat.le_of_ble_eq_true rfl) (s_ob_of e42) (hO37 e38) ?_
  refine ev_aload_nR (mm 101 rfl) l0 ?_
  refine ev_iload_n (mm 102 rfl) l3 ?_
  refine ev_iconst (mm 103 rfl) cI_0 ?_
  obtain ⟨_, e41, h⟩ := bind_so h
  obtain ⟨p39, e40, h⟩ := bind_so h
  refine ev_callV_V [.int (s0), .int (0)] (mm 104 rfl) rfl rfl (Nat.le_of_ble_eq_true rfl) (s_ob_of e41) (hO44 e40) ?_
  refine ev_goto 217 (mm 105 rfl) rfl ?_
  exact ev_return (mm 108 rfl) h
def f47_j144 (F45 : Nat → Int32 → vm_M → Option (vm_M)) (F46 : Nat → Int32 → vm_M → Option (vm_M)) (F47 : Nat → Int32 → vm_M → Option (vm_M)) (x0 : Nat) (x1 : Int32) (M : vm_M) : Option (vm_M) :=
  if 8 ≤ x1 then
    (s_ob M x0 6).bind fun _ =>
    (f32 x0 M).bind fun p19 =>
    some p19
  else
    (sg_i M x0 6 13).bind fun v22 =>
    if ¬ v22 = 264 then
      f47_j167 F45 F46 F47 x0 x1 8 M
    else
      f47_j167 F45 F46 F47 x0 x1 7 M
theorem f47_j144_ok {O : Nat → List Value → vm_M → vm_R → Prop} {x0 : Nat} {x1 : Int32} {M : vm_M} {F45 : Nat → Int32 → vm_M → Option (vm_M)} {F46 : Nat → Int32 → vm_M → Option (vm_M)} {F47 : Nat → Int32 → vm_M → Option (vm_M)} {r : vm_M} (hF45 : ∀ {a0 : Nat} {a1 : Int32} {M : vm_M} {r : vm_M}, F45 a0 a1 M = some r → O 45 [.ref (a0), .int (a1)] M (rV r)) (hF46 : ∀ {a0 : Nat} {a1 : Int32} {M : vm_M} {r : vm_M}, F46 a0 a1 M = some r → O 46 [.ref (a0), .int (a1)] M (rV r)) (hF47 : ∀ {a0 : Nat} {a1 : Int32} {M : vm_M} {r : vm_M}, F47 a0 a1 M = some r → O 47 [.ref (a0), .int (a1)] M (rV r)) (hO32 : ∀ {a0 : Nat} {M : vm_M} {r : vm_M}, f32 a0 M = some r → O 32 [.ref (a0)] M (rV r)) (hO33 : ∀ {a0 : Nat} {M : vm_M} {r : vm_M}, f33 a0 M = some r → O 33 [.ref (a0)] M (rV r)) (hO37 : ∀ {a0 : Nat} {a1 : Int32} {M : vm_M} {r : vm_M}, f37 a0 a1 M = some r → O 37 [.ref (a0), .int (a1)] M (rV r)) (hO42 : ∀ {a0 : Nat} {M : vm_M} {r : Int32 × vm_M}, f42 a0 M = some r → O 42 [.ref (a0)] M (rI r)) (hO44 : ∀ {a0 : Nat} {a1 : Int32} {a2 : Int32} {M : vm_M} {r : vm_M}, f44 a0 a1 a2 M = some r → O 44 [.ref (a0), .int (a1), .int (a2)] M (rV r)) {lv : vm_L} (l0 : (0, .ref (x0)) ∈ lv) (l1 : (1, .int (x1)) ∈ lv) (h : f47_j144 F45 F46 F47 x0 x1 M = some r) : Ev 0 (fun _ => 0) O vp_47 6 4 false none (rV r) 144 lv [] M := by
  unfold f47_j144 at h
  refine ev_iload_n (mm 69 rfl) l1 ?_
  refine ev_bipush (mm 70 rfl) cB_8 ?_
  rcases ite_so h with ⟨c18, h⟩ | ⟨c18, h⟩
  · refine ev_ic_t 213 (mm 71 rfl) rfl c18 ?_
    refine ev_aload_nR (mm 106 rfl) l0 ?_
    obtain ⟨_, e21, h⟩ := bind_so h
    obtain ⟨p19, e20, h⟩ := bind_so h
    refine ev_callV_V [] (mm 107 rfl) rfl rfl (Nat.le_of_ble_eq_true rfl) (s_ob_of e21) (hO32 e20) ?_
    exact ev_return (mm 108 rfl) h
  · refine ev_ic_f 213 (mm 71 rfl) rfl c18 ?_
    refine ev_aload_nR (mm 72 rfl) l0 ?_
    obtain ⟨v22, e23, h⟩ := bind_so h
    refine ev_get_i (mm 73 rfl) rfl e23 ?_
    refine ev_sipush (mm 74 rfl) cS_264 ?_
    rcases ite_so h with ⟨c24, h⟩ | ⟨c24, h⟩
    · refine ev_ic_t 165 (mm 75 rfl) rfl c24 ?_
      refine ev_bipush (mm 78 rfl) cB_8 ?_
      exact f47_j167_ok hF45 hF46 hF47 hO32 hO33 hO37 hO42 hO44 l0 l1 h
    · refine ev_ic_f 165 (mm 75 rfl) rfl c24 ?_
      refine ev_bipush (mm 76 rfl) cB_7 ?_
      refine ev_goto 167 (mm 77 rfl) rfl ?_
      exact f47_j167_ok hF45 hF46 hF47 hO32 hO33 hO37 hO42 hO44 l0 l1 h
def f47_j124 (F45 : Nat → Int32 → vm_M → Option (vm_M)) (F46 : Nat → Int32 → vm_M → Option (vm_M)) (F47 : Nat → Int32 → vm_M → Option (vm_M)) (x0 : Nat) (x1 : Int32) (M : vm_M) : Option (vm_M) :=
  (sg_i M x0 6 13).bind fun v15 =>
  if v15 = 264 then
    f47_j144 F45 F46 F47 x0 x1 M
  else
    (sg_i M x0 6 13).bind fun v48 =>
    if ¬ v48 = 265 then
      (s_ob M x0 6).bind fun _ =>
      (f32 x0 M).bind fun p51 =>
      some p51
    else
      f47_j144 F45 F46 F47 x0 x1 M
theorem f47_j124_ok {O : Nat → List Value → vm_M → vm_R → Prop} {x0 : Nat} {x1 : Int32} {M : vm_M} {F45 : Nat → Int32 → vm_M → Option (vm_M)} {F46 : Nat → Int32 → vm_M → Option (vm_M)} {F47 : Nat → Int32 → vm_M → Option (vm_M)} {r : vm_M} (hF45 : ∀ {a0 : Nat} {a1 : Int32} {M : vm_M} {r : vm_M}, F45 a0 a1 M = some r → O 45 [.ref (a0), .int (a1)] M (rV r)) (hF46 : ∀ {a0 : Nat} {a1 : Int32} {M : vm_M} {r : vm_M}, F46 a0 a1 M = some r → O 46 [.ref (a0), .int (a1)] M (rV r)) (hF47 : ∀ {a0 : Nat} {a1 : Int32} {M : vm_M} {r : vm_M}, F47 a0 a1 M = some r → O 47 [.ref (a0), .int (a1)] M (rV r)) (hO32 : ∀ {a0 : Nat} {M : vm_M} {r : vm_M}, f32 a0 M = some r → O 32 [.ref (a0)] M (rV r)) (hO33 : ∀ {a0 : Nat} {M : vm_M} {r : vm_M}, f33 a0 M = some r → O 33 [.ref (a0)] M (rV r)) (hO37 : ∀ {a0 : Nat} {a1 : Int32} {M : vm_M} {r : vm_M}, f37 a0 a1 M = some r → O 37 [.ref (a0), .int (a1)] M (rV r)) (hO42 : ∀ {a0 : Nat} {M : vm_M} {r : Int32 × vm_M}, f42 a0 M = some r → O 42 [.ref (a0)] M (rI r)) (hO44 : ∀ {a0 : Nat} {a1 : Int32} {a2 : Int32} {M : vm_M} {r : vm_M}, f44 a0 a1 a2 M = some r → O 44 [.ref (a0), .int (a1), .int (a2)] M (rV r)) {lv : vm_L} (l0 : (0, .ref (x0)) ∈ lv) (l1 : (1, .int (x1)) ∈ lv) (h : f47_j124 F45 F46 F47 x0 x1 M = some r) : Ev 0 (fun _ => 0) O vp_47 6 4 false none (rV r) 124 lv [] M := by
  unfold f47_j124 at h
  refine ev_aload_nR (mm 61 rfl) l0 ?_
  obtain ⟨v15, e16, h⟩ := bind_so h
  refine ev_get_i (mm 62 rfl) rfl e16 ?_
  refine ev_sipush (mm 63 rfl) cS_264 ?_
  rcases ite_so h with ⟨c17, h⟩ | ⟨c17, h⟩
  · refine ev_ic_t 144 (mm 64 rfl) rfl c17 ?_
    exact f47_j144_ok hF45 hF46 hF47 hO32 hO33 hO37 hO42 hO44 l0 l1 h
  · refine ev_ic_f 144 (mm 64 rfl) rfl c17 ?_
    refine ev_aload_nR (mm 65 rfl) l0 ?_
    obtain ⟨v48, e49, h⟩ := bind_so h
    refine ev_get_i (mm 66 rfl) rfl e49 ?_
    refine ev_sipush (mm 67 rfl) cS_265 ?_
    rcases ite_so h with ⟨c50, h⟩ | ⟨c50, h⟩
    · refine ev_ic_t 213 (mm 68 rfl) rfl c50 ?_
      refine ev_aload_nR (mm 106 rfl) l0 ?_
      obtain ⟨_, e53, h⟩ := bind_so h
      obtain ⟨p51, e52, h⟩ := bind_so h
      refine ev_callV_V [] (mm 107 rfl) rfl rfl (Nat.le_of_ble_eq_true rfl) (s_ob_of e53) (hO32 e52) ?_
      exact ev_return (mm 108 rfl) h
    · refine ev_ic_f 213 (mm 68 rfl) rfl c50 ?_
      exact f47_j144_ok hF45 hF46 hF47 hO32 hO33 hO37 hO42 hO44 l0 l1 h
def f47_j71 (F45 : Nat → Int32 → vm_M → Option (vm_M)) (F46 : Nat → Int32 → vm_M → Option (vm_M)) (F47 : Nat → Int32 → vm_M → Option (vm_M)) (x0 : Nat) (x1 : Int32) (x2 : Int32) (M : vm_M) : Option (vm_M) :=
  if x2 = (-1) then
    (sg_i M x0 6 13).bind fun v12 =>
    if ¬ v12 = 40 then
      f47_j124 F45 F46 F47 x0 x1 M
    else
      if 8 ≤ x1 then
        f47_j124 F45 F46 F47 x0 x1 M
      else
        (s_ob M x0 6).bind fun _ =>
        (f33 x0 M).bind fun p55 =>
        (s_ob p55 x0 6).bind fun _ =>
        (F45 x0 (x1 + 1) p55).bind fun p57 =>
        (s_ob p57 x0 6).bind fun _ =>
        (f37 x0 41 p57).bind fun p59 =>
        some p59
  else
    (s_ob M x0 6).bind fun _ =>
    (f44 x0 2 x2 M).bind fun p64 =>
    (s_ob p64 x0 6).bind fun _ =>
    (f33 x0 p64).bind fun p66 =>
    some p66
theorem f47_j71_ok {O : Nat → List Value → vm_M → vm_R → Prop} {x0 : Nat} {x1 : Int32} {x2 : Int32} {M : vm_M} {F45 : Nat → Int32 → vm_M → Option (vm_M)} {F46 : Nat → Int32 → vm_M → Option (vm_M)} {F47 : Nat → Int32 → vm_M → Option (vm_M)} {r : vm_M} (hF45 : ∀ {a0 : Nat} {a1 : Int32} {M : vm_M} {r : vm_M}, F45 a0 a1 M = some r → O 45 [.ref (a0), .int (a1)] M (rV r)) (hF46 : ∀ {a0 : Nat} {a1 : Int32} {M : vm_M} {r : vm_M}, F46 a0 a1 M = some r → O 46 [.ref (a0), .int (a1)] M (rV r)) (hF47 : ∀ {a0 : Nat} {a1 : Int32} {M : vm_M} {r : vm_M}, F47 a0 a1 M = some r → O 47 [.ref (a0), .int (a1)] M (rV r)) (hO32 : ∀ {a0 : Nat} {M : vm_M} {r : vm_M}, f32 a0 M = some r → O 32 [.ref (a0)] M (rV r)) (hO33 : ∀ {a0 : Nat} {M : vm_M} {r : vm_M}, f33 a0 M = some r → O 33 [.ref (a0)] M (rV r)) (hO37 : ∀ {a0 : Nat} {a1 : Int32} {M : vm_M} {r : vm_M}, f37 a0 a1 M = some r → O 37 [.ref (a0), .int (a1)] M (rV r)) (hO42 : ∀ {a0 : Nat} {M : vm_M} {r : Int32 × vm_M}, f42 a0 M = some r → O 42 [.ref (a0)] M (rI r)) (hO44 : ∀ {a0 : Nat} {a1 : Int32} {a2 : Int32} {M : vm_M} {r : vm_M}, f44 a0 a1 a2 M = some r → O 44 [.ref (a0), .int (a1), .int (a2)] M (rV r)) {lv : vm_L} (l0 : (0, .ref (x0)) ∈ lv) (l1 : (1, .int (x1)) ∈ lv) (l2 : (2, .int (x2)) ∈ lv) (h : f47_j71 F45 F46 F47 x0 x1 x2 M = some r) : Ev 0 (fun _ => 0) O vp_47 6 4 false none (rV r) 71 lv [] M := by
  unfold f47_j71 at h
  refine ev_iload_n (mm 33 rfl) l2 ?_
  refine ev_iconst (mm 34 rfl) cI_m1 ?_
  rcases ite_so h with ⟨c11, h⟩ | ⟨c11, h⟩
  · refine ev_ic_t 89 (mm 35 rfl) rfl c11 ?_
    refine ev_aload_nR (mm 43 rfl) l0 ?_
    obtain ⟨v12, e13, h⟩ := bind_so h
    refine ev_get_i (mm 44 rfl) rfl e13 ?_
    refine ev_bipush (mm 45 rfl) cB_40 ?_
    rcases ite_so h with ⟨c14, h⟩ | ⟨c14, h⟩
    · refine ev_ic_t 124 (mm 46 rfl) rfl c14 ?_
      exact f47_j124_ok hF45 hF46 hF47 hO32 hO33 hO37 hO42 hO44 l0 l1 h
    · refine ev_ic_f 124 (mm 46 rfl) rfl c14 ?_
      refine ev_iload_n (mm 47 rfl) l1 ?_
      refine ev_bipush (mm 48 rfl) cB_8 ?_
      rcases ite_so h with ⟨c54, h⟩ | ⟨c54, h⟩
      · refine ev_ic_t 124 (mm 49 rfl) rfl c54 ?_
        exact f47_j124_ok hF45 hF46 hF47 hO32 hO33 hO37 hO42 hO44 l0 l1 h
      · refine ev_ic_f 124 (mm 49 rfl) rfl c54 ?_
        refine ev_aload_nR (mm 50 rfl) l0 ?_
        obtain ⟨_, e63, h⟩ := bind_so h
        obtain ⟨p55, e56, h⟩ := bind_so h
        refine ev_callV_V [] (mm 51 rfl) rfl rfl (Nat.le_of_ble_eq_true rfl) (s_ob_of e63) (hO33 e56) ?_
        refine ev_aload_nR (mm 52 rfl) l0 ?_
        refine ev_iload_n (mm 53 rfl) l1 ?_
        refine ev_iconst (mm 54 rfl) cI_1 ?_
        refine ev_iadd (mm 55 rfl) ?_
        obtain ⟨_, e62, h⟩ := bind_so h
        obtain ⟨p57, e58, h⟩ := bind_so h
        refine ev_callV_V [.int ((x1 + 1))] (mm 56 rfl) rfl rfl (Nat.le_of_ble_eq_true rfl) (s_ob_of e62) (hF45 e58) ?_
        refine ev_aload_nR (mm 57 rfl) l0 ?_
        refine ev_bipush (mm 58 rfl) cB_41 ?_
        obtain ⟨_, e61, h⟩ := bind_so h
        obtain ⟨p59, e60, h⟩ := bind_so h
        refine ev_callV_V [.int (41)] (mm 59 rfl) rfl rfl (Nat.le_of_ble_eq_true rfl) (s_ob_of e61) (hO37 e60) ?_
        refine ev_goto 217 (mm 60 rfl) rfl ?_
        exact ev_return (mm 108 rfl) h
  · refine ev_ic_f 89 (mm 35 rfl) rfl c11 ?_
    refine ev_aload_nR (mm 36 rfl) l0 ?_
    refine ev_iconst (mm 37 rfl) cI_2 ?_
    refine ev_iload_n (mm 38 rfl) l2 ?_
    obtain ⟨_, e69, h⟩ := bind_so h
    obtain ⟨p64, e65, h⟩ := bind_so h
    refine ev_callV_V [.int (2), .int (x2)] (mm 39 rfl) rfl rfl (Nat.le_of_ble_eq_true rfl) (s_ob_of e69) (hO44 e65) ?_
    refine ev_aload_nR (mm 40 rfl) l0 ?_
    obtain ⟨_, e68, h⟩ := bind_so h
    obtain ⟨p66, e67, h⟩ := bind_so h
    refine ev_callV_V [] (mm 41 rfl) rfl rfl (Nat.le_of_ble_eq_true rfl) (s_ob_of e68) (hO33 e67) ?_
    refine ev_goto 217 (mm 42 rfl) rfl ?_
    exact ev_return (mm 108 rfl) h
/-- PupilCoin$Reader.atom(I)V -/
def f47g (F45 : Nat → Int32 → vm_M → Option (vm_M)) (F46 : Nat → Int32 → vm_M → Option (vm_M)) (F47 : Nat → Int32 → vm_M → Option (vm_M)) (x0 : Nat) (x1 : Int32) (M : vm_M) : Option (vm_M) :=
  (s_ob M x0 6).bind fun _ =>
  (f42 x0 M).bind fun p1 =>
  (sg_i p1.2 x0 6 13).bind fun v5 =>
  if ¬ v5 = 281 then
    (sg_i p1.2 x0 6 13).bind fun v8 =>
    if v8 < 269 then
      f47_j71 F45 F46 F47 x0 x1 p1.1 p1.2
    else
      (sg_i p1.2 x0 6 13).bind fun v70 =>
      if 279 ≤ v70 then
        f47_j71 F45 F46 F47 x0 x1 p1.1 p1.2
      else
        (sg_i p1.2 x0 6 13).bind fun v73 =>
        (s_ob p1.2 x0 6).bind fun _ =>
        (f44 x0 1 (v73 - 269) p1.2).bind fun p75 =>
        (s_ob p75 x0 6).bind fun _ =>
        (f33 x0 p75).bind fun p77 =>
        some p77
  else
    (sg_i p1.2 x0 6 14).bind fun v81 =>
    (s_ob p1.2 x0 6).bind fun _ =>
    (f44 x0 0 v81 p1.2).bind fun p83 =>
    (s_ob p83 x0 6).bind fun _ =>
    (f33 x0 p83).bind fun p85 =>
    some p85
theorem f47g_ok {O : Nat → List Value → vm_M → vm_R → Prop} {x0 : Nat} {x1 : Int32} {M : vm_M} {F45 : Nat → Int32 → vm_M → Option (vm_M)} {F46 : Nat → Int32 → vm_M → Option (vm_M)} {F47 : Nat → Int32 → vm_M → Option (vm_M)} {r : vm_M} (hF45 : ∀ {a0 : Nat} {a1 : Int32} {M : vm_M} {r : vm_M}, F45 a0 a1 M = some r → O 45 [.ref (a0), .int (a1)] M (rV r)) (hF46 : ∀ {a0 : Nat} {a1 : Int32} {M : vm_M} {r : vm_M}, F46 a0 a1 M = some r → O 46 [.ref (a0), .int (a1)] M (rV r)) (hF47 : ∀ {a0 : Nat} {a1 : Int32} {M : vm_M} {r : vm_M}, F47 a0 a1 M = some r → O 47 [.ref (a0), .int (a1)] M (rV r)) (hO32 : ∀ {a0 : Nat} {M : vm_M} {r : vm_M}, f32 a0 M = some r → O 32 [.ref (a0)] M (rV r)) (hO33 : ∀ {a0 : Nat} {M : vm_M} {r : vm_M}, f33 a0 M = some r → O 33 [.ref (a0)] M (rV r)) (hO37 : ∀ {a0 : Nat} {a1 : Int32} {M : vm_M} {r : vm_M}, f37 a0 a1 M = some r → O 37 [.ref (a0), .int (a1)] M (rV r)) (hO42 : ∀ {a0 : Nat} {M : vm_M} {r : Int32 × vm_M}, f42 a0 M = some r → O 42 [.ref (a0)] M (rI r)) (hO44 : ∀ {a0 : Nat} {a1 : Int32} {a2 : Int32} {M : vm_M} {r : vm_M}, f44 a0 a1 a2 M = some r → O 44 [.ref (a0), .int (a1), .int (a2)] M (rV r)) (h : f47g F45 F46 F47 x0 x1 M = some r) : Ev 0 (fun _ => 0) O vp_47 6 4 false none (rV r) 0 (lv_args 0 [.ref (x0), .int (x1)]) [] M := by
  have l0 : (0, .ref (x0)) ∈ lv_args 0 [.ref (x0), .int (x1)] := List.Mem.head _
  have l1 : (1, .int (x1)) ∈ lv_args 0 [.ref (x0), .int (x1)] := List.Mem.tail _ (List.Mem.head _)
  unfold f47g at h
  refine ev_aload_nR (mm 0 rfl) l0 ?_
  obtain ⟨_, e89, h⟩ := bind_so h
  obtain ⟨p1, e2, h⟩ := bind_so h
  refine ev_callV_I [] (mm 1 rfl) rfl rfl (Nat.le_of_ble_eq_true rfl) (s_ob_of e89) (hO42 e2) ?_
  refine evs_istore_n (mm 2 rfl) (by decide) (fun lv3 l2 s4 => ?_)
  have l0 := s4 _ _ l0 rfl
  have l1 := s4 _ _ l1 rfl
  refine ev_aload_nR (mm 3 rfl) l0 ?_
  obtain ⟨v5, e6, h⟩ := bind_so h
  refine ev_get_i (mm 4 rfl) rfl e6 ?_
  refine ev_sipush (mm 5 rfl) cS_281 ?_
  rcases ite_so h with ⟨c7, h⟩ | ⟨c7, h⟩
  · refine ev_ic_t 31 (mm 6 rfl) rfl c7 ?_
    refine ev_aload_nR (mm 15 rfl) l0 ?_
    obtain ⟨v8, e9, h⟩ := bind_so h
    refine ev_get_i (mm 16 rfl) rfl e9 ?_
    refine ev_sipush (mm 17 rfl) cS_269 ?_
    rcases ite_so h with ⟨c10, h⟩ | ⟨c10, h⟩
    · refine ev_ic_t 71 (mm 18 rfl) rfl c10 ?_
      exact f47_j71_ok hF45 hF46 hF47 hO32 hO33 hO37 hO42 hO44 l0 l1 l2 h
    · refine ev_ic_f 71 (mm 18 rfl) rfl c10 ?_
      refine ev_aload_nR (mm 19 rfl) l0 ?_
      obtain ⟨v70, e71, h⟩ := bind_so h
      refine ev_get_i (mm 20 rfl) rfl e71 ?_
      refine ev_sipush (mm 21 rfl) cS_279 ?_
      rcases ite_so h with ⟨c72, h⟩ | ⟨c72, h⟩
      · refine ev_ic_t 71 (mm 22 rfl) rfl c72 ?_
        exact f47_j71_ok hF45 hF46 hF47 hO32 hO33 hO37 hO42 hO44 l0 l1 l2 h
      · refine ev_ic_f 71 (mm 22 rfl) rfl c72 ?_
        refine ev_aload_nR (mm 23 rfl) l0 ?_
        refine ev_iconst (mm 24 rfl) cI_1 ?_
        refine ev_aload_nR (mm 25 rfl) l0 ?_
        obtain ⟨v73, e74, h⟩ := bind_so h
        refine ev_get_i (mm 26 rfl) rfl e74 ?_
        refine ev_sipush (mm 27 rfl) cS_269 ?_
        refine ev_isub (mm 28 rfl) ?_
        obtain ⟨_, e80, h⟩ := bind_so h
        obtain ⟨p75, e76, h⟩ := bind_so h
        refine ev_callV_V [.int (1), .int ((v73 - 269))] (mm 29 rfl) rfl rfl (Nat.le_of_ble_eq_true rfl) (s_ob_of e80) (hO44 e76) ?_
        refine ev_aload_nR (mm 30 rfl) l0 ?_
        obtain ⟨_, e79, h⟩ := bind_so h
        obtain ⟨p77, e78, h⟩ := bind_so h
        refine ev_callV_V [] (mm 31 rfl) rfl rfl (Nat.le_of_ble_eq_true rfl) (s_ob_of e79) (hO33 e78) ?_
        refine ev_goto 217 (mm 32 rfl) rfl ?_
        exact ev_return (mm 108 rfl) h
  · refine ev_ic_f 31 (mm 6 rfl) rfl c7 ?_
    refine ev_aload_nR (mm 7 rfl) l0 ?_
    refine ev_iconst (mm 8 rfl) cI_0 ?_
    refine ev_aload_nR (mm 9 rfl) l0 ?_
    obtain ⟨v81, e82, h⟩ := bind_so h
    refine ev_get_i (mm 10 rfl) rfl e82 ?_
    obtain ⟨_, e88, h⟩ := bind_so h
    obtain ⟨p83, e84, h⟩ := bind_so h
    refine ev_callV_V [.int (0), .int (v81)] (mm 11 rfl) rfl rfl (Nat.le_of_ble_eq_true rfl) (s_ob_of e88) (hO44 e84) ?_
    refine ev_aload_nR (mm 12 rfl) l0 ?_
    obtain ⟨_, e87, h⟩ := bind_so h
    obtain ⟨p85, e86, h⟩ := bind_so h
    refine ev_callV_V [] (mm 13 rfl) rfl rfl (Nat.le_of_ble_eq_true rfl) (s_ob_of e87) (hO33 e86) ?_
    refine ev_goto 217 (mm 14 rfl) rfl ?_
    exact ev_return (mm 108 rfl) h
/-- the methods that call each other, to a depth -/
def sc45 : Nat → (Nat → Int32 → vm_M → Option (vm_M)) × (Nat → Int32 → vm_M → Option (vm_M)) × (Nat → Int32 → vm_M → Option (vm_M))
  | 0 => (fun _ _ _ => none, fun _ _ _ => none, fun _ _ _ => none)
  | n + 1 => (f45g (sc45 n).1 (sc45 n).2.1 (sc45 n).2.2, f46g (sc45 n).1 (sc45 n).2.1 (sc45 n).2.2, f47g (sc45 n).1 (sc45 n).2.1 (sc45 n).2.2)
def f45 : Nat → Int32 → vm_M → Option (vm_M) := (sc45 60).1
def f46 : Nat → Int32 → vm_M → Option (vm_M) := (sc45 60).2.1
def f47 : Nat → Int32 → vm_M → Option (vm_M) := (sc45 60).2.2
theorem sc45_ok : ∀ (n d : Nat), (∀ {a0 : Nat} {a1 : Int32} {M : vm_M} {r : vm_M}, (sc45 n).1 a0 a1 M = some r → (vm_Cl (d + n + 4)) 45 [.ref (a0), .int (a1)] M (rV r)) ∧ (∀ {a0 : Nat} {a1 : Int32} {M : vm_M} {r : vm_M}, (sc45 n).2.1 a0 a1 M = some r → (vm_Cl (d + n + 4)) 46 [.ref (a0), .int (a1)] M (rV r)) ∧ (∀ {a0 : Nat} {a1 : Int32} {M : vm_M} {r : vm_M}, (sc45 n).2.2 a0 a1 M = some r → (vm_Cl (d + n + 4)) 47 [.ref (a0), .int (a1)] M (rV r)) := by
  intro n
  induction n with
  | zero =>
    intro d
    refine ⟨?_, ?_, ?_⟩ <;> (intros; rename_i h; cases h)
  | succ n ih =>
    intro d
    obtain ⟨h45, h46, h47⟩ := ih d
    have r45 : ∀ {a0 : Nat} {a1 : Int32} {M : vm_M} {r : vm_M}, (sc45 (n + 1)).1 a0 a1 M = some r → (vm_Cl (d + (n + 1) + 4)) 45 [.ref (a0), .int (a1)] M (rV r) := by
      intros
      rename_i h
      have key := f45g_ok h45 h46 h47 (fun e => f32_ok e (d + n + 3)) (fun e => f33_ok e (d + n + 2)) (fun e => f37_ok e (d + n + 1)) (fun e => f42_ok e (d + n + 3)) (fun e => f44_ok e (d + n + 3)) h
      exact ⟨by decide, Nat.le_of_ble_eq_true rfl, key.1, key.2⟩
    have r46 : ∀ {a0 : Nat} {a1 : Int32} {M : vm_M} {r : vm_M}, (sc45 (n + 1)).2.1 a0 a1 M = some r → (vm_Cl (d + (n + 1) + 4)) 46 [.ref (a0), .int (a1)] M (rV r) := by
      intros
      rename_i h
      have key := f46g_ok h45 h46 h47 (fun e => f32_ok e (d + n + 3)) (fun e => f33_ok e (d + n + 2)) (fun e => f37_ok e (d + n + 1)) (fun e => f42_ok e (d + n + 3)) (fun e => f44_ok e (d + n + 3)) h
      exact ⟨by decide, Nat.le_of_ble_eq_true rfl, key.1, key.2⟩
    have r47 : ∀ {a0 : Nat} {a1 : Int32} {M : vm_M} {r : vm_M}, (sc45 (n + 1)).2.2 a0 a1 M = some r → (vm_Cl (d + (n + 1) + 4)) 47 [.ref (a0), .int (a1)] M (rV r) := by
      intros
      rename_i h
      have key := f47g_ok h45 h46 h47 (fun e => f32_ok e (d + n + 3)) (fun e => f33_ok e (d + n + 2)) (fun e => f37_ok e (d + n + 1)) (fun e => f42_ok e (d + n + 3)) (fun e => f44_ok e (d + n + 3)) h
      exact ⟨by decide, Nat.le_of_ble_eq_true rfl, key.1, key.2⟩
    exact ⟨r45, r46, r47⟩
theorem f45_ok {x0 : Nat} {x1 : Int32} {M : vm_M} {r : vm_M} (h : f45 x0 x1 M = some r) (d : Nat) : vm_Cl (d + 64) 45 [.ref (x0), .int (x1)] M (rV r) := (sc45_ok 60 d).1 h
theorem f46_ok {x0 : Nat} {x1 : Int32} {M : vm_M} {r : vm_M} (h : f46 x0 x1 M = some r) (d : Nat) : vm_Cl (d + 64) 46 [.ref (x0), .int (x1)] M (rV r) := (sc45_ok 60 d).2.1 h
theorem f47_ok {x0 : Nat} {x1 : Int32} {M : vm_M} {r : vm_M} (h : f47 x0 x1 M = some r) (d : Nat) : vm_Cl (d + 64) 47 [.ref (x0), .int (x1)] M (rV r) := (sc45_ok 60 d).2.2 h
def f48_l7 (F48 : Nat → Int32 → vm_M → Option (vm_M)) (F49 : Nat → Int32 → vm_M → Option (vm_M)) (F50 : Nat → Int32 → vm_M → Option (vm_M)) (x0 : Nat) (x1 : Int32) : Nat → Int32 → vm_M → Option (vm_M)
  | 0 => fun _ _ => none
  | n + 1 => fun x2 M =>
    if 700 ≤ x2 then
      some M
    else
      (sg_i M x0 6 13).bind fun v6 =>
      if ¬ v6 = 266 then
        some M
      else
        (s_ob M x0 6).bind fun _ =>
        (f33 x0 M).bind fun p9 =>
        (s_ob p9 x0 6).bind fun _ =>
        (F49 x0 x1 p9).bind fun p11 =>
        (s_ob p11 x0 6).bind fun _ =>
        (f44 x0 13 0 p11).bind fun p13 =>
        f48_l7 F48 F49 F50 x0 x1 n (x2 + 1) p13
theorem f48_l7_ok {O : Nat → List Value → vm_M → vm_R → Prop} {x0 : Nat} {x1 : Int32} {F48 : Nat → Int32 → vm_M → Option (vm_M)} {F49 : Nat → Int32 → vm_M → Option (vm_M)} {F50 : Nat → Int32 → vm_M → Option (vm_M)} {r : vm_M} (hF48 : ∀ {a0 : Nat} {a1 : Int32} {M : vm_M} {r : vm_M}, F48 a0 a1 M = some r → O 48 [.ref (a0), .int (a1)] M (rV r)) (hF49 : ∀ {a0 : Nat} {a1 : Int32} {M : vm_M} {r : vm_M}, F49 a0 a1 M = some r → O 49 [.ref (a0), .int (a1)] M (rV r)) (hF50 : ∀ {a0 : Nat} {a1 : Int32} {M : vm_M} {r : vm_M}, F50 a0 a1 M = some r → O 50 [.ref (a0), .int (a1)] M (rV r)) (hO32 : ∀ {a0 : Nat} {M : vm_M} {r : vm_M}, f32 a0 M = some r → O 32 [.ref (a0)] M (rV r)) (hO33 : ∀ {a0 : Nat} {M : vm_M} {r : vm_M}, f33 a0 M = some r → O 33 [.ref (a0)] M (rV r)) (hO37 : ∀ {a0 : Nat} {a1 : Int32} {M : vm_M} {r : vm_M}, f37 a0 a1 M = some r → O 37 [.ref (a0), .int (a1)] M (rV r)) (hO44 : ∀ {a0 : Nat} {a1 : Int32} {a2 : Int32} {M : vm_M} {r : vm_M}, f44 a0 a1 a2 M = some r → O 44 [.ref (a0), .int (a1), .int (a2)] M (rV r)) (hO45 : ∀ {a0 : Nat} {a1 : Int32} {M : vm_M} {r : vm_M}, f45 a0 a1 M = some r → O 45 [.ref (a0), .int (a1)] M (rV r)) : ∀ (n : Nat) {x2 : Int32} {M : vm_M} {lv : vm_L}, (0, .ref (x0)) ∈ lv → (1, .int (x1)) ∈ lv → (2, .int (x2)) ∈ lv → f48_l7 F48 F49 F50 x0 x1 n x2 M = some r → Ev 0 (fun _ => 0) O vp_48 6 3 false none (rV r) 7 lv [] M := by
  intro n
  induction n with
  | zero =>
    intro x2 M lv l0 l1 l2 h
    cases h
  | succ n ih =>
    intro x2 M lv l0 l1 l2 h
    dsimp only [f48_l7] at h
    refine ev_iload_n (mm 5 rfl) l2 ?_
    refine ev_sipush (mm 6 rfl) cS_700 ?_
    rcases ite_so h with ⟨c5, h⟩ | ⟨c5, h⟩
    · refine ev_ic_t 46 (mm 7 rfl) rfl c5 ?_
      exact ev_return (mm 23 rfl) h
    · refine ev_ic_f 46 (mm 7 rfl) rfl c5 ?_
      refine ev_aload_nR (mm 8 rfl) l0 ?_
      obtain ⟨v6, e7, h⟩ := bind_so h
      refine ev_get_i (mm 9 rfl) rfl e7 ?_
      refine ev_sipush (mm 10 rfl) cS_266 ?_
      rcases ite_so h with ⟨c8, h⟩ | ⟨c8, h⟩
      · refine ev_ic_t 46 (mm 11 rfl) rfl c8 ?_
        exact ev_return (mm 23 rfl) h
      · refine ev_ic_f 46 (mm 11 rfl) rfl c8 ?_
        refine ev_aload_nR (mm 12 rfl) l0 ?_
        obtain ⟨_, e19, h⟩ := bind_so h
        obtain ⟨p9, e10, h⟩ := bind_so h
        refine ev_callV_V [] (mm 13 rfl) rfl rfl (Nat.le_of_ble_eq_true rfl) (s_ob_of e19) (hO33 e10) ?_
        refine ev_aload_nR (mm 14 rfl) l0 ?_
        refine ev_iload_n (mm 15 rfl) l1 ?_
        obtain ⟨_, e18, h⟩ := bind_so h
        obtain ⟨p11, e12, h⟩ := bind_so h
        refine ev_callV_V [.int (x1)] (mm 16 rfl) rfl rfl (Nat.le_of_ble_eq_true rfl) (s_ob_of e18) (hF49 e12) ?_
        refine ev_aload_nR (mm 17 rfl) l0 ?_
        refine ev_bipush (mm 18 rfl) cB_13 ?_
        refine ev_iconst (mm 19 rfl) cI_0 ?_
        obtain ⟨_, e17, h⟩ := bind_so h
        obtain ⟨p13, e14, h⟩ := bind_so h
        refine ev_callV_V [.int (13), .int (0)] (mm 20 rfl) rfl rfl (Nat.le_of_ble_eq_true rfl) (s_ob_of e17) (hO44 e14) ?_
        refine evs_iinc (mm 21 rfl) cI_1 l2 (by decide) (fun lv15 l2 s16 => ?_)
        have l0 := s16 _ _ l0 rfl
        have l1 := s16 _ _ l1 rfl
        refine ev_goto 7 (mm 22 rfl) rfl ?_
        exact ih l0 l1 l2 h
/-- PupilCoin$Reader.cond(I)V -/
def f48g (F48 : Nat → Int32 → vm_M → Option (vm_M)) (F49 : Nat → Int32 → vm_M → Option (vm_M)) (F50 : Nat → Int32 → vm_M → Option (vm_M)) (x0 : Nat) (x1 : Int32) (M : vm_M) : Option (vm_M) :=
  (s_ob M x0 6).bind fun _ =>
  (F49 x0 x1 M).bind fun p1 =>
  f48_l7 F48 F49 F50 x0 x1
  
    100000 0 p1
theorem f48g_ok {O : Nat → List Value → vm_M → vm_R → Prop} {x0 : Nat} {x1 : Int32} {M : vm_M} {F48 : Nat → Int32 → vm_M → Option (vm_M)} {F49 : Nat → Int32 → vm_M → Option (vm_M)} {F50 : Nat → Int32 → vm_M → Option (vm_M)} {r : vm_M} (hF48 : ∀ {a0 : Nat} {a1 : Int32} {M : vm_M} {r : vm_M}, F48 a0 a1 M = some r → O 48 [.ref (a0), .int (a1)] M (rV r)) (hF49 : ∀ {a0 : Nat} {a1 : Int32} {M : vm_M} {r : vm_M}, F49 a0 a1 M = some r → O 49 [.ref (a0), .int (a1)] M (rV r)) (hF50 : ∀ {a0 : Nat} {a1 : Int32} {M : vm_M} {r : vm_M}, F50 a0 a1 M = some r → O 50 [.ref (a0), .int (a1)] M (rV r)) (hO32 : ∀ {a0 : Nat} {M : vm_M} {r : vm_M}, f32 a0 M = some r → O 32 [.ref (a0)] M (rV r)) (hO33 : ∀ {a0 : Nat} {M : vm_M} {r : vm_M}, f33 a0 M = some r → O 33 [.ref (a0)] M (rV r)) (hO37 : ∀ {a0 : Nat} {a1 : Int32} {M : vm_M} {r : vm_M}, f37 a0 a1 M = some r → O 37 [.ref (a0), .int (a1)] M (rV r)) (hO44 : ∀ {a0 : Nat} {a1 : Int32} {a2 : Int32} {M : vm_M} {r : vm_M}, f44 a0 a1 a2 M = some r → O 44 [.ref (a0), .int (a1), .int (a2)] M (rV r)) (hO45 : ∀ {a0 : Nat} {a1 : Int32} {M : vm_M} {r : vm_M}, f45 a0 a1 M = some r → O 45 [.ref (a0), .int (a1)] M (rV r)) (h : f48g F48 F49 F50 x0 x1 M = some r) : Ev 0 (fun _ => 0) O vp_48 6 3 false none (rV r) 0 (lv_args 0 [.ref (x0), .int (x1)]) [] M := by
  have l0 : (0, .ref (x0)) ∈ lv_args 0 [.ref (x0), .int (x1)] := List.Mem.head _
  have l1 : (1, .int (x1)) ∈ lv_args 0 [.ref (x0), .int (x1)] := List.Mem.tail _ (List.Mem.head _)
  unfold f48g at h
  refine ev_aload_nR (mm 0 rfl) l0 ?_
  refine ev_iload_n (mm 1 rfl) l1 ?_
  obtain ⟨_, e20, h⟩ := bind_so h
  obtain ⟨p1, e2, h⟩ := bind_so h
  refine ev_callV_V [.int (x1)] (mm 2 rfl) rfl rfl (Nat.le_of_ble_eq_true rfl) (s_ob_of e20) (hF49 e2) ?_
  refine ev_iconst (mm 3 rfl) cI_0 ?_
  refine evs_istore_n (mm 4 rfl) (by decide) (fun lv3 l2 s4 => ?_)
  have l0 := s4 _ _ l0 rfl
  have l1 := s4 _ _ l1 rfl
  refine f48_l7_ok hF48 hF49 hF50 hO32 hO33 hO37 hO44 hO45 100000 l0 l1 l2 h
def f49_l7 (F48 : Nat → Int32 → vm_M → Option (vm_M)) (F49 : Nat → Int32 → vm_M → Option (vm_M)) (F50 : Nat → Int32 → vm_M → Option (vm_M)) (x0 : Nat) (x1 : Int32) : Nat → Int32 → vm_M → Option (vm_M)
  | 0 => fun _ _ => none
  | n + 1 => fun x2 M =>
    if 700 ≤ x2 then
      some M
    else
      (sg_i M x0 6 13).bind fun v6 =>
      if ¬ v6 = 267 then
        some M
      else
        (s_ob M x0 6).bind fun _ =>
        (f33 x0 M).bind fun p9 =>
        (s_ob p9 x0 6).bind fun _ =>
        (F50 x0 x1 p9).bind fun p11 =>
        (s_ob p11 x0 6).bind fun _ =>
        (f44 x0 12 0 p11).bind fun p13 =>
        f49_l7 F48 F49 F50 x0 x1 n (x2 + 1) p13
theorem f49_l7_ok {O : Nat → List Value → vm_M → vm_R → Prop} {x0 : Nat} {x1 : Int32} {F48 : Nat → Int32 → vm_M → Option (vm_M)} {F49 : Nat → Int32 → vm_M → Option (vm_M)} {F50 : Nat → Int32 → vm_M → Option (vm_M)} {r : vm_M} (hF48 : ∀ {a0 : Nat} {a1 : Int32} {M : vm_M} {r : vm_M}, F48 a0 a1 M = some r → O 48 [.ref (a0), .int (a1)] M (rV r)) (hF49 : ∀ {a0 : Nat} {a1 : Int32} {M : vm_M} {r : vm_M}, F49 a0 a1 M = some r → O 49 [.ref (a0), .int (a1)] M (rV r)) (hF50 : ∀ {a0 : Nat} {a1 : Int32} {M : vm_M} {r : vm_M}, F50 a0 a1 M = some r → O 50 [.ref (a0), .int (a1)] M (rV r)) (hO32 : ∀ {a0 : Nat} {M : vm_M} {r : vm_M}, f32 a0 M = some r → O 32 [.ref (a0)] M (rV r)) (hO33 : ∀ {a0 : Nat} {M : vm_M} {r : vm_M}, f33 a0 M = some r → O 33 [.ref (a0)] M (rV r)) (hO37 : ∀ {a0 : Nat} {a1 : Int32} {M : vm_M} {r : vm_M}, f37 a0 a1 M = some r → O 37 [.ref (a0), .int (a1)] M (rV r)) (hO44 : ∀ {a0 : Nat} {a1 : Int32} {a2 : Int32} {M : vm_M} {r : vm_M}, f44 a0 a1 a2 M = some r → O 44 [.ref (a0), .int (a1), .int (a2)] M (rV r)) (hO45 : ∀ {a0 : Nat} {a1 : Int32} {M : vm_M} {r : vm_M}, f45 a0 a1 M = some r → O 45 [.ref (a0), .int (a1)] M (rV r)) : ∀ (n : Nat) {x2 : Int32} {M : vm_M} {lv : vm_L}, (0, .ref (x0)) ∈ lv → (1, .int (x1)) ∈ lv → (2, .int (x2)) ∈ lv → f49_l7 F48 F49 F50 x0 x1 n x2 M = some r → Ev 0 (fun _ => 0) O vp_49 6 3 false none (rV r) 7 lv [] M := by
  intro n
  induction n with
  | zero =>
    intro x2 M lv l0 l1 l2 h
    cases h
  | succ n ih =>
    intro x2 M lv l0 l1 l2 h
    dsimp only [f49_l7] at h
    refine ev_iload_n (mm 5 rfl) l2 ?_
    refine ev_sipush (mm 6 rfl) cS_700 ?_
    rcases ite_so h with ⟨c5, h⟩ | ⟨c5, h⟩
    · refine ev_ic_t 46 (mm 7 rfl) rfl c5 ?_
      exact ev_return (mm 23 rfl) h
    · refine ev_ic_f 46 (mm 7 rfl) rfl c5 ?_
      refine ev_aload_nR (mm 8 rfl) l0 ?_
      obtain ⟨v6, e7, h⟩ := bind_so h
      refine ev_get_i (mm 9 rfl) rfl e7 ?_
      refine ev_sipush (mm 10 rfl) cS_267 ?_
      rcases ite_so h with ⟨c8, h⟩ | ⟨c8, h⟩
      · refine ev_ic_t 46 (mm 11 rfl) rfl c8 ?_
        exact ev_return (mm 23 rfl) h
      · refine ev_ic_f 46 (mm 11 rfl) rfl c8 ?_
        refine ev_aload_nR (mm 12 rfl) l0 ?_
        obtain ⟨_, e19, h⟩ := bind_so h
        obtain ⟨p9, e10, h⟩ := bind_so h
        refine ev_callV_V [] (mm 13 rfl) rfl rfl (Nat.le_of_ble_eq_true rfl) (s_ob_of e19) (hO33 e10) ?_
        refine ev_aload_nR (mm 14 rfl) l0 ?_
        refine ev_iload_n (mm 15 rfl) l1 ?_
        obtain ⟨_, e18, h⟩ := bind_so h
        obtain ⟨p11, e12, h⟩ := bind_so h
        refine ev_callV_V [.int (x1)] (mm 16 rfl) rfl rfl (Nat.le_of_ble_eq_true rfl) (s_ob_of e18) (hF50 e12) ?_
        refine ev_aload_nR (mm 17 rfl) l0 ?_
        refine ev_bipush (mm 18 rfl) cB_12 ?_
        refine ev_iconst (mm 19 rfl) cI_0 ?_
        obtain ⟨_, e17, h⟩ := bind_so h
        obtain ⟨p13, e14, h⟩ := bind_so h
        refine ev_callV_V [.int (12), .int (0)] (mm 20 rfl) rfl rfl (Nat.le_of_ble_eq_true rfl) (s_ob_of e17) (hO44 e14) ?_
        refine evs_iinc (mm 21 rfl) cI_1 l2 (by decide) (fun lv15 l2 s16 => ?_)
        have l0 := s16 _ _ l0 rfl
        have l1 := s16 _ _ l1 rfl
        refine ev_goto 7 (mm 22 rfl) rfl ?_
        exact ih l0 l1 l2 h
/-- PupilCoin$Reader.every(I)V -/
def f49g (F48 : Nat → Int32 → vm_M → Option (vm_M)) (F49 : Nat → Int32 → vm_M → Option (vm_M)) (F50 : Nat → Int32 → vm_M → Option (vm_M)) (x0 : Nat) (x1 : Int32) (M : vm_M) : Option (vm_M) :=
  (s_ob M x0 6).bind fun _ =>
  (F50 x0 x1 M).bind fun p1 =>
  f49_l7 F48 F49 F50 x0 x1
  
    100000 0 p1
theorem f49g_ok {O : Nat → List Value → vm_M → vm_R → Prop} {x0 : Nat} {x1 : Int32} {M : vm_M} {F48 : Nat → Int32 → vm_M → Option (vm_M)} {F49 : Nat → Int32 → vm_M → Option (vm_M)} {F50 : Nat → Int32 → vm_M → Option (vm_M)} {r : vm_M} (hF48 : ∀ {a0 : Nat} {a1 : Int32} {M : vm_M} {r : vm_M}, F48 a0 a1 M = some r → O 48 [.ref (a0), .int (a1)] M (rV r)) (hF49 : ∀ {a0 : Nat} {a1 : Int32} {M : vm_M} {r : vm_M}, F49 a0 a1 M = some r → O 49 [.ref (a0), .int (a1)] M (rV r)) (hF50 : ∀ {a0 : Nat} {a1 : Int32} {M : vm_M} {r : vm_M}, F50 a0 a1 M = some r → O 50 [.ref (a0), .int (a1)] M (rV r)) (hO32 : ∀ {a0 : Nat} {M : vm_M} {r : vm_M}, f32 a0 M = some r → O 32 [.ref (a0)] M (rV r)) (hO33 : ∀ {a0 : Nat} {M : vm_M} {r : vm_M}, f33 a0 M = some r → O 33 [.ref (a0)] M (rV r)) (hO37 : ∀ {a0 : Nat} {a1 : Int32} {M : vm_M} {r : vm_M}, f37 a0 a1 M = some r → O 37 [.ref (a0), .int (a1)] M (rV r)) (hO44 : ∀ {a0 : Nat} {a1 : Int32} {a2 : Int32} {M : vm_M} {r : vm_M}, f44 a0 a1 a2 M = some r → O 44 [.ref (a0), .int (a1), .int (a2)] M (rV r)) (hO45 : ∀ {a0 : Nat} {a1 : Int32} {M : vm_M} {r : vm_M}, f45 a0 a1 M = some r → O 45 [.ref (a0), .int (a1)] M (rV r)) (h : f49g F48 F49 F50 x0 x1 M = some r) : Ev 0 (fun _ => 0) O vp_49 6 3 false none (rV r) 0 (lv_args 0 [.ref (x0), .int (x1)]) [] M := by
  have l0 : (0, .ref (x0)) ∈ lv_args 0 [.ref (x0), .int (x1)] := List.Mem.head _
  have l1 : (1, .int (x1)) ∈ lv_args 0 [.ref (x0), .int (x1)] := List.Mem.tail _ (List.Mem.head _)
  unfold f49g at h
  refine ev_aload_nR (mm 0 rfl) l0 ?_
  refine ev_iload_n (mm 1 rfl) l1 ?_
  obtain ⟨_, e20, h⟩ := bind_so h
  obtain ⟨p1, e2, h⟩ := bind_so h
  refine ev_callV_V [.int (x1)] (mm 2 rfl) rfl rfl (Nat.le_of_ble_eq_true rfl) (s_ob_of e20) (hF50 e2) ?_
  refine ev_iconst (mm 3 rfl) cI_0 ?_
  refine evs_istore_n (mm 4 rfl) (by decide) (fun lv3 l2 s4 => ?_)
  have l0 := s4 _ _ l0 rfl
  have l1 := s4 _ _ l1 rfl
  refine f49_l7_ok hF48 hF49 hF50 hO32 hO33 hO37 hO44 hO45 100000 l0 l1 l2 h
def f50_j34 (F48 : Nat → Int32 → vm_M → Option (vm_M)) (F49 : Nat → Int32 → vm_M → Option (vm_M)) (F50 : Nat → Int32 → vm_M → Option (vm_M)) (x0 : Nat) (x1 : Int32) (s0 : Int32) (M : vm_M) : Option (vm_M) :=
  if x1 < 8 then
    (s_ob M x0 6).bind fun _ =>
    (f33 x0 M).bind fun p10 =>
    if s0 = 0 then
      (s_ob p10 x0 6).bind fun _ =>
      (F48 x0 (x1 + 1) p10).bind fun p13 =>
      (s_ob p13 x0 6).bind fun _ =>
      (f37 x0 125 p13).bind fun p15 =>
      some p15
    else
      (s_ob p10 x0 6).bind fun _ =>
      (F50 x0 (x1 + 1) p10).bind fun p19 =>
      (s_ob p19 x0 6).bind fun _ =>
      (f44 x0 14 0 p19).bind fun p21 =>
      some p21
  else
    (s_ob M x0 6).bind fun _ =>
    (f32 x0 M).bind fun p26 =>
    some p26
theorem f50_j34_ok {O : Nat → List Value → vm_M → vm_R → Prop} {x0 : Nat} {x1 : Int32} {s0 : Int32} {M : vm_M} {F48 : Nat → Int32 → vm_M → Option (vm_M)} {F49 : Nat → Int32 → vm_M → Option (vm_M)} {F50 : Nat → Int32 → vm_M → Option (vm_M)} {r : vm_M} (hF48 : ∀ {a0 : Nat} {a1 : Int32} {M : vm_M} {r : vm_M}, F48 a0 a1 M = some r → O 48 [.ref (a0), .int (a1)] M (rV r)) (hF49 : ∀ {a0 : Nat} {a1 : Int32} {M : vm_M} {r : vm_M}, F49 a0 a1 M = some r → O 49 [.ref (a0), .int (a1)] M (rV r)) (hF50 : ∀ {a0 : Nat} {a1 : Int32} {M : vm_M} {r : vm_M}, F50 a0 a1 M = some r → O 50 [.ref (a0), .int (a1)] M (rV r)) (hO32 : ∀ {a0 : Nat} {M : vm_M} {r : vm_M}, f32 a0 M = some r → O 32 [.ref (a0)] M (rV r)) (hO33 : ∀ {a0 : Nat} {M : vm_M} {r : vm_M}, f33 a0 M = some r → O 33 [.ref (a0)] M (rV r)) (hO37 : ∀ {a0 : Nat} {a1 : Int32} {M : vm_M} {r : vm_M}, f37 a0 a1 M = some r → O 37 [.ref (a0), .int (a1)] M (rV r)) (hO44 : ∀ {a0 : Nat} {a1 : Int32} {a2 : Int32} {M : vm_M} {r : vm_M}, f44 a0 a1 a2 M = some r → O 44 [.ref (a0), .int (a1), .int (a2)] M (rV r)) (hO45 : ∀ {a0 : Nat} {a1 : Int32} {M : vm_M} {r : vm_M}, f45 a0 a1 M = some r → O 45 [.ref (a0), .int (a1)] M (rV r)) {lv : vm_L} (l0 : (0, .ref (x0)) ∈ lv) (l1 : (1, .int (x1)) ∈ lv) (h : f50_j34 F48 F49 F50 x0 x1 s0 M = some r) : Ev 0 (fun _ => 0) O vp_50 6 3 false none (rV r) 34 lv [.int (s0)] M := by
  unfold f50_j34 at h
  refine evs_istore_n (mm 15 rfl) (by decide) (fun lv7 l2 s8 => ?_)
  have l0 := s8 _ _ l0 rfl
  have l1 := s8 _ _ l1 rfl
  refine ev_iload_n (mm 16 rfl) l1 ?_
  refine ev_bipush (mm 17 rfl) cB_8 ?_
  rcases ite_so h with ⟨c9, h⟩ | ⟨c9, h⟩
  · refine ev_ic_t 46 (mm 18 rfl) rfl c9 ?_
    refine ev_aload_nR (mm 22 rfl) l0 ?_
    obtain ⟨_, e25, h⟩ := bind_so h
    obtain ⟨p10, e11, h⟩ := bind_so h
    refine ev_callV_V [] (mm 23 rfl) rfl rfl (Nat.le_of_ble_eq_true rfl) (s_ob_of e25) (hO33 e11) ?_
    refine ev_iload_n (mm 24 rfl) l2 ?_
    rcases ite_so h with ⟨c12, h⟩ | ⟨c12, h⟩
    · refine ev_if_t 71 (mm 25 rfl) rfl c12 ?_
      refine ev_aload_nR (mm 36 rfl) l0 ?_
      refine ev_iload_n (mm 37 rfl) l1 ?_
      refine ev_iconst (mm 38 rfl) cI_1 ?_
      refine ev_iadd (mm 39 rfl) ?_
      obtain ⟨_, e18, h⟩ := bind_so h
      obtain ⟨p13, e14, h⟩ := bind_so h
      refine ev_callV_V [.int ((x1 + 1))] (mm 40 rfl) rfl rfl (Nat.le_of_ble_eq_true rfl) (s_ob_of e18) (hF48 e14) ?_
      refine ev_aload_nR (mm 41 rfl) l0 ?_
      refine ev_bipush (mm 42 rfl) cB_125 ?_
      obtain ⟨_, e17, h⟩ := bind_so h
      obtain ⟨p15, e16, h⟩ := bind_so h
      refine ev_callV_V [.int (125)] (mm 43 rfl) rfl rfl (Nat.le_of_ble_eq_true rfl) (s_ob_of e17) (hO37 e16) ?_
      exact ev_return (mm 44 rfl) h
    · refine ev_if_f 71 (mm 25 rfl) rfl c12 ?_
      refine ev_aload_nR (mm 26 rfl) l0 ?_
      refine ev_iload_n (mm 27 rfl) l1 ?_
      refine ev_iconst (mm 28 rfl) cI_1 ?_
      refine ev_iadd (mm 29 rfl) ?_
      obtain ⟨_, e24, h⟩ := bind_so h
      obtain ⟨p19, e20, h⟩ := bind_so h
      refine ev_callV_V [.int ((x1 + 1))] (mm 30 rfl) rfl rfl (Nat.le_of_ble_eq_true rfl) (s_ob_of e24) (hF50 e20) ?_
      refine ev_aload_nR (mm 31 rfl) l0 ?_
      refine ev_bipush (mm 32 rfl) cB_14 ?_
      refine ev_iconst (mm 33 rfl) cI_0 ?_
      obtain ⟨_, e23, h⟩ := bind_so h
      obtain ⟨p21, e22, h⟩ := bind_so h
      refine ev_callV_V [.int (14), .int (0)] (mm 34 rfl) rfl rfl (Nat.le_of_ble_eq_true rfl) (s_ob_of e23) (hO44 e22) ?_
      refine ev_goto 84 (mm 35 rfl) rfl ?_
      exact ev_return (mm 44 rfl) h
  · refine ev_ic_f 46 (mm 18 rfl) rfl c9 ?_
    refine ev_aload_nR (mm 19 rfl) l0 ?_
    obtain ⟨_, e28, h⟩ := bind_so h
    obtain ⟨p26, e27, h⟩ := bind_so h
    refine ev_callV_V [] (mm 20 rfl) rfl rfl (Nat.le_of_ble_eq_true rfl) (s_ob_of e28) (hO32 e27) ?_
    exact ev_return (mm 21 rfl) h
def f50_j19 (F48 : Nat → Int32 → vm_M → Option (vm_M)) (F49 : Nat → Int32 → vm_M → Option (vm_M)) (F50 : Nat → Int32 → vm_M → Option (vm_M)) (x0 : Nat) (x1 : Int32) (M : vm_M) : Option (vm_M) :=
  (sg_i M x0 6 13).bind fun v4 =>
  if ¬ v4 = 268 then
    f50_j34 F48 F49 F50 x0 x1 0 M
  else
    f50_j34 F48 F49 F50 x0 x1 1 M
theorem f50_j19_ok {O : Nat → List Value → vm_M → vm_R → Prop} {x0 : Nat} {x1 : Int32} {M : vm_M} {F48 : Nat → Int32 → vm_M → Option (vm_M)} {F49 : Nat → Int32 → vm_M → Option (vm_M)} {F50 : Nat → Int32 → vm_M → Option (vm_M)} {r : vm_M} (hF48 : ∀ {a0 : Nat} {a1 : Int32} {M : vm_M} {r : vm_M}, F48 a0 a1 M = some r → O 48 [.ref (a0), .int (a1)] M (rV r)) (hF49 : ∀ {a0 : Nat} {a1 : Int32} {M : vm_M} {r : vm_M}, F49 a0 a1 M = some r → O 49 [.ref (a0), .int (a1)] M (rV r)) (hF50 : ∀ {a0 : Nat} {a1 : Int32} {M : vm_M} {r : vm_M}, F50 a0 a1 M = some r → O 50 [.ref (a0), .int (a1)] M (rV r)) (hO32 : ∀ {a0 : Nat} {M : vm_M} {r : vm_M}, f32 a0 M = some r → O 32 [.ref (a0)] M (rV r)) (hO33 : ∀ {a0 : Nat} {M : vm_M} {r : vm_M}, f33 a0 M = some r → O 33 [.ref (a0)] M (rV r)) (hO37 : ∀ {a0 : Nat} {a1 : Int32} {M : vm_M} {r : vm_M}, f37 a0 a1 M = some r → O 37 [.ref (a0), .int (a1)] M (rV r)) (hO44 : ∀ {a0 : Nat} {a1 : Int32} {a2 : Int32} {M : vm_M} {r : vm_M}, f44 a0 a1 a2 M = some r → O 44 [.ref (a0), .int (a1), .int (a2)] M (rV r)) (hO45 : ∀ {a0 : Nat} {a1 : Int32} {M : vm_M} {r : vm_M}, f45 a0 a1 M = some r → O 45 [.ref (a0), .int (a1)] M (rV r)) {lv : vm_L} (l0 : (0, .ref (x0)) ∈ lv) (l1 : (1, .int (x1)) ∈ lv) (h : f50_j19 F48 F49 F50 x0 x1 M = some r) : Ev 0 (fun _ => 0) O vp_50 6 3 false none (rV r) 19 lv [] M := by
  unfold f50_j19 at h
  refine ev_aload_nR (mm 8 rfl) l0 ?_
  obtain ⟨v4, e5, h⟩ := bind_so h
  refine ev_get_i (mm 9 rfl) rfl e5 ?_
  refine ev_sipush (mm 10 rfl) cS_268 ?_
  rcases ite_so h with ⟨c6, h⟩ | ⟨c6, h⟩
  · refine ev_ic_t 33 (mm 11 rfl) rfl c6 ?_
    refine ev_iconst (mm 14 rfl) cI_0 ?_
    exact f50_j34_ok hF48 hF49 hF50 hO32 hO33 hO37 hO44 hO45 l0 l1 h
  · refine ev_ic_f 33 (mm 11 rfl) rfl c6 ?_
    refine ev_iconst (mm 12 rfl) cI_1 ?_
    refine ev_goto 34 (mm 13 rfl) rfl ?_
    exact f50_j34_ok hF48 hF49 hF50 hO32 hO33 hO37 hO44 hO45 l0 l1 h
def f50_j140 (F48 : Nat → Int32 → vm_M → Option (vm_M)) (F49 : Nat → Int32 → vm_M → Option (vm_M)) (F50 : Nat → Int32 → vm_M → Option (vm_M)) (x0 : Nat) (x1 : Int32) (x2 : Int32) (M : vm_M) : Option (vm_M) :=
  (s_ob M x0 6).bind fun _ =>
  (f45 x0 x1 M).bind fun p45 =>
  (s_ob p45 x0 6).bind fun _ =>
  (f44 x0 x2 0 p45).bind fun p47 =>
  some p47
theorem f50_j140_ok {O : Nat → List Value → vm_M → vm_R → Prop} {x0 : Nat} {x1 : Int32} {x2 : Int32} {M : vm_M} {F48 : Nat → Int32 → vm_M → Option (vm_M)} {F49 : Nat → Int32 → vm_M → Option (vm_M)} {F50 : Nat → Int32 → vm_M → Option (vm_M)} {r : vm_M} (hF48 : ∀ {a0 : Nat} {a1 : Int32} {M : vm_M} {r : vm_M}, F48 a0 a1 M = some r → O 48 [.ref (a0), .int (a1)] M (rV r)) (hF49 : ∀ {a0 : Nat} {a1 : Int32} {M : vm_M} {r : vm_M}, F49 a0 a1 M = some r → O 49 [.ref (a0), .int (a1)] M (rV r)) (hF50 : ∀ {a0 : Nat} {a1 : Int32} {M : vm_M} {r : vm_M}, F50 a0 a1 M = some r → O 50 [.ref (a0), .int (a1)] M (rV r)) (hO32 : ∀ {a0 : Nat} {M : vm_M} {r : vm_M}, f32 a0 M = some r → O 32 [.ref (a0)] M (rV r)) (hO33 : ∀ {a0 : Nat} {M : vm_M} {r : vm_M}, f33 a0 M = some r → O 33 [.ref (a0)] M (rV r)) (hO37 : ∀ {a0 : Nat} {a1 : Int32} {M : vm_M} {r : vm_M}, f37 a0 a1 M = some r → O 37 [.ref (a0), .int (a1)] M (rV r)) (hO44 : ∀ {a0 : Nat} {a1 : Int32} {a2 : Int32} {M : vm_M} {r : vm_M}, f44 a0 a1 a2 M = some r → O 44 [.ref (a0), .int (a1), .int (a2)] M (rV r)) (hO45 : ∀ {a0 : Nat} {a1 : Int32} {M : vm_M} {r : vm_M}, f45 a0 a1 M = some r → O 45 [.ref (a0), .int (a1)] M (rV r)) {lv : vm_L} (l0 : (0, .ref (x0)) ∈ lv) (l1 : (1, .int (x1)) ∈ lv) (l2 : (2, .int (x2)) ∈ lv) (h : f50_j140 F48 F49 F50 x0 x1 x2 M = some r) : Ev 0 (fun _ => 0) O vp_50 6 3 false none (rV r) 140 lv [] M := by
  unfold f50_j140 at h
  refine ev_aload_nR (mm 71 rfl) l0 ?_
  refine ev_iload_n (mm 72 rfl) l1 ?_
  obtain ⟨_, e50, h⟩ := bind_so h
  obtain ⟨p45, e46, h⟩ := bind_so h
  refine ev_callV_V [.int (x1)] (mm 73 rfl) rfl rfl (Nat.le_of_ble_eq_true rfl) (s_ob_of e50) (hO45 e46) ?_
  refine ev_aload_nR (mm 74 rfl) l0 ?_
  refine ev_iload_n (mm 75 rfl) l2 ?_
  refine ev_iconst (mm 76 rfl) cI_0 ?_
  obtain ⟨_, e49, h⟩ := bind_so h
  obtain ⟨p47, e48, h⟩ := bind_so h
  refine ev_callV_V [.int (x2), .int (0)] (mm 77 rfl) rfl rfl (Nat.le_of_ble_eq_true rfl) (s_ob_of e49) (hO44 e48) ?_
  exact ev_return (mm 78 rfl) h
def f50_j120 (F48 : Nat → Int32 → vm_M → Option (vm_M)) (F49 : Nat → Int32 → vm_M → Option (vm_M)) (F50 : Nat → Int32 → vm_M → Option (vm_M)) (x0 : Nat) (x1 : Int32) (s0 : Int32) (M : vm_M) : Option (vm_M) :=
  if ¬ s0 = 11 then
    (s_ob M x0 6).bind fun _ =>
    (f33 x0 M).bind fun p43 =>
    f50_j140 F48 F49 F50 x0 x1 s0 p43
  else
    (s_ob M x0 6).bind fun _ =>
    (f37 x0 61 M).bind fun p52 =>
    f50_j140 F48 F49 F50 x0 x1 s0 p52
theorem f50_j120_ok {O : Nat → List Value → vm_M → vm_R → Prop} {x0 : Nat} {x1 : Int32} {s0 : Int32} {M : vm_M} {F48 : Nat → Int32 → vm_M → Option (vm_M)} {F49 : Nat → Int32 → vm_M → Option (vm_M)} {F50 : Nat → Int32 → vm_M → Option (vm_M)} {r : vm_M} (hF48 : ∀ {a0 : Nat} {a1 : Int32} {M : vm_M} {r : vm_M}, F48 a0 a1 M = some r → O 48 [.ref (a0), .int (a1)] M (rV r)) (hF49 : ∀ {a0 : Nat} {a1 : Int32} {M : vm_M} {r : vm_M}, F49 a0 a1 M = some r → O 49 [.ref (a0), .int (a1)] M (rV r)) (hF50 : ∀ {a0 : Nat} {a1 : Int32} {M : vm_M} {r : vm_M}, F50 a0 a1 M = some r → O 50 [.ref (a0), .int (a1)] M (rV r)) (hO32 : ∀ {a0 : Nat} {M : vm_M} {r : vm_M}, f32 a0 M = some r → O 32 [.ref (a0)] M (rV r)) (hO33 : ∀ {a0 : Nat} {M : vm_M} {r : vm_M}, f33 a0 M = some r → O 33 [.ref (a0)] M (rV r)) (hO37 : ∀ {a0 : Nat} {a1 : Int32} {M : vm_M} {r : vm_M}, f37 a0 a1 M = some r → O 37 [.ref (a0), .int (a1)] M (rV r)) (hO44 : ∀ {a0 : Nat} {a1 : Int32} {a2 : Int32} {M : vm_M} {r : vm_M}, f44 a0 a1 a2 M = some r → O 44 [.ref (a0), .int (a1), .int (a2)] M (rV r)) (hO45 : ∀ {a0 : Nat} {a1 : Int32} {M : vm_M} {r : vm_M}, f45 a0 a1 M = some r → O 45 [.ref (a0), .int (a1)] M (rV r)) {lv : vm_L} (l0 : (0, .ref (x0)) ∈ lv) (l1 : (1, .int (x1)) ∈ lv) (h : f50_j120 F48 F49 F50 x0 x1 s0 M = some r) : Ev 0 (fun _ => 0) O vp_50 6 3 false none (rV r) 120 lv [.int (s0)] M := by
  unfold f50_j120 at h
  refine evs_istore_n (mm 61 rfl) (by decide) (fun lv40 l2 s41 => ?_)
  have l0 := s41 _ _ l0 rfl
  have l1 := s41 _ _ l1 rfl
  refine ev_iload_n (mm 62 rfl) l2 ?_
  refine ev_bipush (mm 63 rfl) cB_11 ?_
  rcases ite_so h with ⟨c42, h⟩ | ⟨c42, h⟩
  · refine ev_ic_t 136 (mm 64 rfl) rfl c42 ?_
    refine ev_aload_nR (mm 69 rfl) l0 ?_
    obtain ⟨_, e51, h⟩ := bind_so h
    obtain ⟨p43, e44, h⟩ := bind_so h
    refine ev_callV_V [] (mm 70 rfl) rfl rfl (Nat.le_of_ble_eq_true rfl) (s_ob_of e51) (hO33 e44) ?_
    exact f50_j140_ok hF48 hF49 hF50 hO32 hO33 hO37 hO44 hO45 l0 l1 l2 h
  · refine ev_ic_f 136 (mm 64 rfl) rfl c42 ?_
    refine ev_aload_nR (mm 65 rfl) l0 ?_
    refine ev_bipush (mm 66 rfl) cB_61 ?_
    obtain ⟨_, e54, h⟩ := bind_so h
    obtain ⟨p52, e53, h⟩ := bind_so h
    refine ev_callV_V [.int (61)] (mm 67 rfl) rfl rfl (Nat.le_of_ble_eq_true rfl) (s_ob_of e54) (hO37 e53) ?_
    refine ev_goto 140 (mm 68 rfl) rfl ?_
    exact f50_j140_ok hF48 hF49 hF50 hO32 hO33 hO37 hO44 hO45 l0 l1 l2 h
/-- PupilCoin$Reader.one(I)V -/
def f50g (F48 : Nat → Int32 → vm_M → Option (vm_M)) (F49 : Nat → Int32 → vm_M → Option (vm_M)) (F50 : Nat → Int32 → vm_M → Option (vm_M)) (x0 : Nat) (x1 : Int32) (M : vm_M) : Option (vm_M) :=
  (sg_i M x0 6 13).bind fun v1 =>
  if v1 = 268 then
    f50_j19 F48 F49 F50 x0 x1 M
  else
    (sg_i M x0 6 13).bind fun v29 =>
    if ¬ v29 = 123 then
      (s_ob M x0 6).bind fun _ =>
      (f45 x0 x1 M).bind fun p32 =>
      (sg_i p32 x0 6 13).bind fun v34 =>
      if ¬ v34 = 60 then
        (sg_i p32 x0 6 13).bind fun v37 =>
        if ¬ v37 = 62 then
          f50_j120 F48 F49 F50 x0 x1 11 p32
        else
          f50_j120 F48 F49 F50 x0 x1 10 p32
      else
        f50_j120 F48 F49 F50 x0 x1 9 p32
    else
      f50_j19 F48 F49 F50 x0 x1 M
theorem f50g_ok {O : Nat → List Value → vm_M → vm_R → Prop} {x0 : Nat} {x1 : Int32} {M : vm_M} {F48 : Nat → Int32 → vm_M → Option (vm_M)} {F49 : Nat → Int32 → vm_M → Option (vm_M)} {F50 : Nat → Int32 → vm_M → Option (vm_M)} {r : vm_M} (hF48 : ∀ {a0 : Nat} {a1 : Int32} {M : vm_M} {r : vm_M}, F48 a0 a1 M = some r → O 48 [.ref (a0), .int (a1)] M (rV r)) (hF49 : ∀ {a0 : Nat} {a1 : Int32} {M : vm_M} {r : vm_M}, F49 a0 a1 M = some r → O 49 [.ref (a0), .int (a1)] M (rV r)) (hF50 : ∀ {a0 : Nat} {a1 : Int32} {M : vm_M} {r : vm_M}, F50 a0 a1 M = some r → O 50 [.ref (a0), .int (a1)] M (rV r)) (hO32 : ∀ {a0 : Nat} {M : vm_M} {r : vm_M}, f32 a0 M = some r → O 32 [.ref (a0)] M (rV r)) (hO33 : ∀ {a0 : Nat} {M : vm_M} {r : vm_M}, f33 a0 M = some r → O 33 [.ref (a0)] M (rV r)) (hO37 : ∀ {a0 : Nat} {a1 : Int32} {M : vm_M} {r : vm_M}, f37 a0 a1 M = some r → O 37 [.ref (a0), .int (a1)] M (rV r)) (hO44 : ∀ {a0 : Nat} {a1 : Int32} {a2 : Int32} {M : vm_M} {r : vm_M}, f44 a0 a1 a2 M = some r → O 44 [.ref (a0), .int (a1), .int (a2)] M (rV r)) (hO45 : ∀ {a0 : Nat} {a1 : Int32} {M : vm_M} {r : vm_M}, f45 a0 a1 M = some r → O 45 [.ref (a0), .int (a1)] M (rV r)) (h : f50g F48 F49 F50 x0 x1 M = some r) : Ev 0 (fun _ => 0) O vp_50 6 3 false none (rV r) 0 (lv_args 0 [.ref (x0), .int (x1)]) [] M := by
  have l0 : (0, .ref (x0)) ∈ lv_args 0 [.ref (x0), .int (x1)] := List.Mem.head _
  have l1 : (1, .int (x1)) ∈ lv_args 0 [.ref (x0), .int (x1)] := List.Mem.tail _ (List.Mem.head _)
  unfold f50g at h
  refine ev_aload_nR (mm 0 rfl) l0 ?_
  obtain ⟨v1, e2, h⟩ := bind_so h
  refine ev_get_i (mm 1 rfl) rfl e2 ?_
  refine ev_sipush (mm 2 rfl) cS_268 ?_
  rcases ite_so h with ⟨c3, h⟩ | ⟨c3, h⟩
  · refine ev_ic_t 19 (mm 3 rfl) rfl c3 ?_
    exact f50_j19_ok hF48 hF49 hF50 hO32 hO33 hO37 hO44 hO45 l0 l1 h
  · refine ev_ic_f 19 (mm 3 rfl) rfl c3 ?_
    refine ev_aload_nR (mm 4 rfl) l0 ?_
    obtain ⟨v29, e30, h⟩ := bind_so h
    refine ev_get_i (mm 5 rfl) rfl e30 ?_
    refine ev_bipush (mm 6 rfl) cB_123 ?_
    rcases ite_so h with ⟨c31, h⟩ | ⟨c31, h⟩
    · refine ev_ic_t 85 (mm 7 rfl) rfl c31 ?_
      refine ev_aload_nR (mm 45 rfl) l0 ?_
      refine ev_iload_n (mm 46 rfl) l1 ?_
      obtain ⟨_, e55, h⟩ := bind_so h
      obtain ⟨p32, e33, h⟩ := bind_so h
      refine ev_callV_V [.int (x1)] (mm 47 rfl) rfl rfl (Nat.le_of_ble_eq_true rfl) (s_ob_of e55) (hO45 e33) ?_
      refine ev_aload_nR (mm 48 rfl) l0 ?_
      obtain ⟨v34, e35, h⟩ := bind_so h
      refine ev_get_i (mm 49 rfl) rfl e35 ?_
      refine ev_bipush (mm 50 rfl) cB_60 ?_
      rcases ite_so h with ⟨c36, h⟩ | ⟨c36, h⟩
      · refine ev_ic_t 104 (mm 51 rfl) rfl c36 ?_
        refine ev_aload_nR (mm 54 rfl) l0 ?_
        obtain ⟨v37, e38, h⟩ := bind_so h
        refine ev_get_i (mm 55 rfl) rfl e38 ?_
        refine ev_bipush (mm 56 rfl) cB_62 ?_
        rcases ite_so h with ⟨c39, h⟩ | ⟨c39, h⟩
        · refine ev_ic_t 118 (mm 57 rfl) rfl c39 ?_
          refine ev_bipush (mm 60 rfl) cB_11 ?_
          exact f50_j120_ok hF48 hF49 hF50 hO32 hO33 hO37 hO44 hO45 l0 l1 h
        · refine ev_ic_f 118 (mm 57 rfl) rfl c39 ?_
          refine ev_bipush (mm 58 rfl) cB_10 ?_
          refine ev_goto 120 (mm 59 rfl) rfl ?_
          exact f50_j120_ok hF48 hF49 hF50 hO32 hO33 hO37 hO44 hO45 l0 l1 h
      · refine ev_ic_f 104 (mm 51 rfl) rfl c36 ?_
        refine ev_bipush (mm 52 rfl) cB_9 ?_
        refine ev_goto 120 (mm 53 rfl) rfl ?_
        exact f50_j120_ok hF48 hF49 hF50 hO32 hO33 hO37 hO44 hO45 l0 l1 h
    · refine ev_ic_f 85 (mm 7 rfl) rfl c31 ?_
      exact f50_j19_ok hF48 hF49 hF50 hO32 hO33 hO37 hO44 hO45 l0 l1 h
/-- the methods that call each other, to a depth -/
def sc48 : Nat → (Nat → Int32 → vm_M → Option (vm_M)) × (Nat → Int32 → vm_M → Option (vm_M)) × (Nat → Int32 → vm_M → Option (vm_M))
  | 0 => (fun _ _ _ => none, fun _ _ _ => none, fun _ _ _ => none)
  | n + 1 => (f48g (sc48 n).1 (sc48 n).2.1 (sc48 n).2.2, f49g (sc48 n).1 (sc48 n).2.1 (sc48 n).2.2, f50g (sc48 n).1 (sc48 n).2.1 (sc48 n).2.2)
def f48 : Nat → Int32 → vm_M → Option (vm_M) := (sc48 60).1
def f49 : Nat → Int32 → vm_M → Option (vm_M) := (sc48 60).2.1
def f50 : Nat → Int32 → vm_M → Option (vm_M) := (sc48 60).2.2
theorem sc48_ok : ∀ (n d : Nat), (∀ {a0 : Nat} {a1 : Int32} {M : vm_M} {r : vm_M}, (sc48 n).1 a0 a1 M = some r → (vm_Cl (d + n + 65)) 48 [.ref (a0), .int (a1)] M (rV r)) ∧ (∀ {a0 : Nat} {a1 : Int32} {M : vm_M} {r : vm_M}, (sc48 n).2.1 a0 a1 M = some r → (vm_Cl (d + n + 65)) 49 [.ref (a0), .int (a1)] M (rV r)) ∧ (∀ {a0 : Nat} {a1 : Int32} {M : vm_M} {r : vm_M}, (sc48 n).2.2 a0 a1 M = some r → (vm_Cl (d + n + 65)) 50 [.ref (a0), .int (a1)] M (rV r)) := by
  intro n
  induction n with
  | zero =>
    intro d
    refine ⟨?_, ?_, ?_⟩ <;> (intros; rename_i h; cases h)
  | succ n ih =>
    intro d
    obtain ⟨h48, h49, h50⟩ := ih d
    have r48 : ∀ {a0 : Nat} {a1 : Int32} {M : vm_M} {r : vm_M}, (sc48 (n + 1)).1 a0 a1 M = some r → (vm_Cl (d + (n + 1) + 65)) 48 [.ref (a0), .int (a1)] M (rV r) := by
      intros
      rename_i h
      have key := f48g_ok h48 h49 h50 (fun e => f32_ok e (d + n + 64)) (fun e => f33_ok e (d + n + 63)) (fun e => f37_ok e (d + n + 62)) (fun e => f44_ok e (d + n + 64)) (fun e => f45_ok e (d + n + 1)) h
      exact ⟨by decide, Nat.le_of_ble_eq_true rfl, key.1, key.2⟩
    have r49 : ∀ {a0 : Nat} {a1 : Int32} {M : vm_M} {r : vm_M}, (sc48 (n + 1)).2.1 a0 a1 M = some r → (vm_Cl (d + (n + 1) + 65)) 49 [.ref (a0), .int (a1)] M (rV r) := by
      intros
      rename_i h
      have key := f49g_ok h48 h49 h50 (fun e => f32_ok e (d + n + 64)) (fun e => f33_ok e (d + n + 63)) (fun e => f37_ok e (d + n + 62)) (fun e => f44_ok e (d + n + 64)) (fun e => f45_ok e (d + n + 1)) h
      exact ⟨by decide, Nat.le_of_ble_eq_true rfl, key.1, key.2⟩
    have r50 : ∀ {a0 : Nat} {a1 : Int32} {M : vm_M} {r : vm_M}, (sc48 (n + 1)).2.2 a0 a1 M = some r → (vm_Cl (d + (n + 1) + 65)) 50 [.ref (a0), .int (a1)] M (rV r) := by
      intros
      rename_i h
      have key := f50g_ok h48 h49 h50 (fun e => f32_ok e (d + n + 64)) (fun e => f33_ok e (d + n + 63)) (fun e => f37_ok e (d + n + 62)) (fun e => f44_ok e (d + n + 64)) (fun e => f45_ok e (d + n + 1)) h
      exact ⟨by decide, Nat.le_of_ble_eq_true rfl, key.1, key.2⟩
    exact ⟨r48, r49, r50⟩
theorem f48_ok {x0 : Nat} {x1 : Int32} {M : vm_M} {r : vm_M} (h : f48 x0 x1 M = some r) (d : Nat) : vm_Cl (d + 125) 48 [.ref (x0), .int (x1)] M (rV r) := (sc48_ok 60 d).1 h
theorem f49_ok {x0 : Nat} {x1 : Int32} {M : vm_M} {r : vm_M} (h : f49 x0 x1 M = some r) (d : Nat) : vm_Cl (d + 125) 49 [.ref (x0), .int (x1)] M (rV r) := (sc48_ok 60 d).2.1 h
theorem f50_ok {x0 : Nat} {x1 : Int32} {M : vm_M} {r : vm_M} (h : f50 x0 x1 M = some r) (d : Nat) : vm_Cl (d + 125) 50 [.ref (x0), .int (x1)] M (rV r) := (sc48_ok 60 d).2.2 h
def f43_j128 (x0 : Nat) (M : vm_M) : Option (vm_M) :=
  (sg_r M x0 6 2).bind fun v67 =>
  (sg_i M x0 6 7).bind fun v69 =>
  (sg_i M x0 6 6).bind fun v71 =>
  (v67).bind fun q73 =>
  (ss_i M q73 0 ((2 * v69) + 2) v71).bind fun M75 =>
  (sg_i M75 x0 6 7).bind fun v77 =>
  (sp_i M75 x0 6 7 (v77 + 1)).bind fun M79 =>
  some M79
theorem f43_j128_ok {d : Nat} {x0 : Nat} {M : vm_M} {r : vm_M} {lv : vm_L} (l0 : (0, .ref (x0)) ∈ lv) (h : f43_j128 x0 M = some r) : Ev 0 (fun _ => 0) (vm_Cl (d + 125)) vp_43 6 1 false none (rV r) 128 lv [] M := by
  unfold f43_j128 at h
  refine ev_aload_nR (mm 68 rfl) l0 ?_
  obtain ⟨v67, e68, h⟩ := bind_so h
  refine ev_get_r (mm 69 rfl) rfl e68 ?_
  refine ev_iconst (mm 70 rfl) cI_2 ?_
  refine ev_aload_nR (mm 71 rfl) l0 ?_
  obtain ⟨v69, e70, h⟩ := bind_so h
  refine ev_get_i (mm 72 rfl) rfl e70 ?_
  refine ev_imul (mm 73 rfl) ?_
  refine ev_iconst (mm 74 rfl) cI_2 ?_
  refine ev_iadd (mm 75 rfl) ?_
  refine ev_aload_nR (mm 76 rfl) l0 ?_
  obtain ⟨v71, e72, h⟩ := bind_so h
  refine ev_get_i (mm 77 rfl) rfl e72 ?_
  obtain ⟨q73, e74, h⟩ := bind_so h
  rw [e74]
  obtain ⟨M75, e76, h⟩ := bind_so h
  refine ev_iastore (mm 78 rfl) e76 ?_
  refine ev_aload_nR (mm 79 rfl) l0 ?_
  refine ev_dupR (mm 80 rfl) ?_
  obtain ⟨v77, e78, h⟩ := bind_so h
  refine ev_get_i (mm 81 rfl) rfl e78 ?_
  refine ev_iconst (mm 82 rfl) cI_1 ?_
  refine ev_iadd (mm 83 rfl) ?_
  obtain ⟨M79, e80, h⟩ := bind_so h
  refine ev_put_i (mm 84 rfl) (fun z => by cases z) rfl e80 ?_
  exact ev_return (mm 85 rfl) h
/-- PupilCoin$Reader.line()V -/
def f43 (x0 : Nat) (M : vm_M) : Option (vm_M) :=
  (s_ob M x0 6).bind fun _ =>
  (f33 x0 M).bind fun p1 =>
  (sg_i p1 x0 6 13).bind fun v3 =>
  if ¬ v3 = 280 then
    (s_ob p1 x0 6).bind fun _ =>
    (f32 x0 p1).bind fun p6 =>
    some p6
  else
    (s_ob p1 x0 6).bind fun _ =>
    (f42 x0 p1).bind fun p9 =>
    if ¬ p9.1 = (-1) then
      (s_ob p9.2 x0 6).bind fun _ =>
      (f32 x0 p9.2).bind fun p12 =>
      some p12
    else
      (sg_i p9.2 x0 6 7).bind fun v15 =>
      if v15 < 30 then
        (sg_r p9.2 x0 6 4).bind fun v18 =>
        (sg_i p9.2 x0 6 7).bind fun v20 =>
        (sg_l p9.2 x0 6 15).bind fun v22 =>
        (v18).bind fun q24 =>
        (ss_l p9.2 q24 v20 v22).bind fun M26 =>
        (sg_r M26 x0 6 3).bind fun v28 =>
        (sg_i M26 x0 6 7).bind fun v30 =>
        (sg_i M26 x0 6 8).bind fun v32 =>
        (v28).bind fun q34 =>
        (ss_i M26 q34 0 v30 v32).bind fun M36 =>
        (sg_r M36 x0 6 2).bind fun v38 =>
        (sg_i M36 x0 6 7).bind fun v40 =>
        (sg_i M36 x0 6 6).bind fun v42 =>
        (v38).bind fun q44 =>
        (ss_i M36 q44 0 (2 * v40) v42).bind fun M46 =>
        (s_ob M46 x0 6).bind fun _ =>
        (f33 x0 M46).bind fun p48 =>
        (s_ob p48 x0 6).bind fun _ =>
        (f37 x0 61 p48).bind fun p50 =>
        (s_ob p50 x0 6).bind fun _ =>
        (f45 x0 0 p50).bind fun p52 =>
        (sg_r p52 x0 6 2).bind fun v54 =>
        (sg_i p52 x0 6 7).bind fun v56 =>
        (sg_i p52 x0 6 6).bind fun v58 =>
        (v54).bind fun q60 =>
        (ss_i p52 q60 0 ((2 * v56) + 1) v58).bind fun M62 =>
        (sg_i M62 x0 6 13).bind fun v64 =>
        if ¬ v64 = 263 then
          f43_j128 x0 M62
        else
          (s_ob M62 x0 6).bind fun _ =>
          (f33 x0 M62).bind fun p81 =>
          (s_ob p81 x0 6).bind fun _ =>
          (f48 x0 0 p81).bind fun p83 =>
          f43_j128 x0 p83
      else
        (s_ob p9.2 x0 6).bind fun _ =>
        (f32 x0 p9.2).bind fun p90 =>
        some p90
theorem f43_ok {x0 : Nat} {M : vm_M} {r : vm_M} (h : f43 x0 M = some r) (d : Nat) : vm_Cl (d + 126) 43 [.ref (x0)] M (rV r) := by
  have key : Ev 0 (fun _ => 0) (vm_Cl (d + 125)) vp_43 6 1 false none (rV r) 0 (lv_args 0 [.ref (x0)]) [] M := by
    have l0 : (0, .ref (x0)) ∈ lv_args 0 [.ref (x0)] := List.Mem.head _
    unfold f43 at h
    refine ev_aload_nR (mm 0 rfl) l0 ?_
    obtain ⟨_, e94, h⟩ := bind_so h
    obtain ⟨p1, e2, h⟩ := bind_so h
    refine ev_callV_V [] (mm 1 rfl) rfl rfl (Nat.le_of_ble_eq_true rfl) (s_ob_of e94) (f33_ok e2 (d + 123)) ?_
    refine ev_aload_nR (mm 2 rfl) l0 ?_
    obtain ⟨v3, e4, h⟩ := bind_so h
    refine ev_get_i (mm 3 rfl) rfl e4 ?_
    refine ev_sipush (mm 4 rfl) cS_280 ?_
    rcases ite_so h with ⟨c5, h⟩ | ⟨c5, h⟩
    · refine ev_ic_t 31 (mm 5 rfl) rfl c5 ?_
      refine ev_aload_nR (mm 14 rfl) l0 ?_
      obtain ⟨_, e8, h⟩ := bind_so h
      obtain ⟨p6, e7, h⟩ := bind_so h
      refine ev_callV_V [] (mm 15 rfl) rfl rfl (Nat.le_of_ble_eq_true rfl) (s_ob_of e8) (f32_ok e7 (d + 124)) ?_
      exact ev_return (mm 16 rfl) h
    · refine ev_ic_f 31 (mm 5 rfl) rfl c5 ?_
      refine ev_aload_nR (mm 6 rfl) l0 ?_
      obtain ⟨_, e93, h⟩ := bind_so h
      obtain ⟨p9, e10, h⟩ := bind_so h
      refine ev_callV_I [] (mm 7 rfl) rfl rfl (Nat.le_of_ble_eq_true rfl) (s_ob_of e93) (f42_ok e10 (d + 124)) ?_
      refine ev_iconst (mm 8 rfl) cI_m1 ?_
      rcases ite_so h with ⟨c11, h⟩ | ⟨c11, h⟩
      · refine ev_ic_t 31 (mm 9 rfl) rfl c11 ?_
        refine ev_aload_nR (mm 14 rfl) l0 ?_
        obtain ⟨_, e14, h⟩ := bind_so h
        obtain ⟨p12, e13, h⟩ := bind_so h
        refine ev_callV_V [] (mm 15 rfl) rfl rfl (Nat.le_of_ble_eq_true rfl) (s_ob_of e14) (f32_ok e13 (d + 124)) ?_
        exact ev_return (mm 16 rfl) h
      · refine ev_ic_f 31 (mm 9 rfl) rfl c11 ?_
        refine ev_aload_nR (mm 10 rfl) l0 ?_
        obtain ⟨v15, e16, h⟩ := bind_so h
        refine ev_get_i (mm 11 rfl) rfl e16 ?_
        refine ev_bipush (mm 12 rfl) cB_30 ?_
        rcases ite_so h with ⟨c17, h⟩ | ⟨c17, h⟩
        · refine ev_ic_t 36 (mm 13 rfl) rfl c17 ?_
          refine ev_aload_nR (mm 17 rfl) l0 ?_
          obtain ⟨v18, e19, h⟩ := bind_so h
          refine ev_get_r (mm 18 rfl) rfl e19 ?_
          refine ev_aload_nR (mm 19 rfl) l0 ?_
          obtain ⟨v20, e21, h⟩ := bind_so h
          refine ev_get_i (mm 20 rfl) rfl e21 ?_
          refine ev_aload_nR (mm 21 rfl) l0 ?_
          obtain ⟨v22, e23, h⟩ := bind_so h
          refine ev_get_l (mm 22 rfl) rfl e23 ?_
          obtain ⟨q24, e25, h⟩ := bind_so h
          rw [e25]
          obtain ⟨M26, e27, h⟩ := bind_so h
          refine ev_lastore (mm 23 rfl) e27 ?_
          refine ev_aload_nR (mm 24 rfl) l0 ?_
          obtain ⟨v28, e29, h⟩ := bind_so h
          refine ev_get_r (mm 25 rfl) rfl e29 ?_
          refine ev_aload_nR (mm 26 rfl) l0 ?_
          obtain ⟨v30, e31, h⟩ := bind_so h
          refine ev_get_i (mm 27 rfl) rfl e31 ?_
          refine ev_aload_nR (mm 28 rfl) l0 ?_
          obtain ⟨v32, e33, h⟩ := bind_so h
          refine ev_get_i (mm 29 rfl) rfl e33 ?_
          obtain ⟨q34, e35, h⟩ := bind_so h
          rw [e35]
          obtain ⟨M36, e37, h⟩ := bind_so h
          refine ev_iastore (mm 30 rfl) e37 ?_
          refine ev_aload_nR (mm 31 rfl) l0 ?_
          obtain ⟨v38, e39, h⟩ := bind_so h
          refine ev_get_r (mm 32 rfl) rfl e39 ?_
          refine ev_iconst (mm 33 rfl) cI_2 ?_
          refine ev_aload_nR (mm 34 rfl) l0 ?_
          obtain ⟨v40, e41, h⟩ := bind_so h
          refine ev_get_i (mm 35 rfl) rfl e41 ?_
          refine ev_imul (mm 36 rfl) ?_
          refine ev_aload_nR (mm 37 rfl) l0 ?_
          obtain ⟨v42, e43, h⟩ := bind_so h
          refine ev_get_i (mm 38 rfl) rfl e43 ?_
          obtain ⟨q44, e45, h⟩ := bind_so h
          rw [e45]
          obtain ⟨M46, e47, h⟩ := bind_so h
          refine ev_iastore (mm 39 rfl) e47 ?_
          refine ev_aload_nR (mm 40 rfl) l0 ?_
          obtain ⟨_, e89, h⟩ := bind_so h
          obtain ⟨p48, e49, h⟩ := bind_so h
          refine ev_callV_V [] (mm 41 rfl) rfl rfl (Nat.le_of_ble_eq_true rfl) (s_ob_of e89) (f33_ok e49 (d + 123)) ?_
          refine ev_aload_nR (mm 42 rfl) l0 ?_
          refine ev_bipush (mm 43 rfl) cB_61 ?_
          obtain ⟨_, e88, h⟩ := bind_so h
          obtain ⟨p50, e51, h⟩ := bind_so h
          refine ev_callV_V [.int (61)] (mm 44 rfl) rfl rfl (Nat.le_of_ble_eq_true rfl) (s_ob_of e88) (f37_ok e51 (d + 122)) ?_
          refine ev_aload_nR (mm 45 rfl) l0 ?_
          refine ev_iconst (mm 46 rfl) cI_0 ?_
          obtain ⟨_, e87, h⟩ := bind_so h
          obtain ⟨p52, e53, h⟩ := bind_so h
          refine ev_callV_V [.int (0)] (mm 47 rfl) rfl rfl (Nat.le_of_ble_eq_true rfl) (s_ob_of e87) (f45_ok e53 (d + 61)) ?_
          refine ev_aload_nR (mm 48 rfl) l0 ?_
          obtain ⟨v54, e55, h⟩ := bind_so h
          refine ev_get_r (mm 49 rfl) rfl e55 ?_
          refine ev_iconst (mm 50 rfl) cI_2 ?_
          refine ev_aload_nR (mm 51 rfl) l0 ?_
          obtain ⟨v56, e57, h⟩ := bind_so h
          refine ev_get_i (mm 52 rfl) rfl e57 ?_
          refine ev_imul (mm 53 rfl) ?_
          refine ev_iconst (mm 54 rfl) cI_1 ?_
          refine ev_iadd (mm 55 rfl) ?_
          refine ev_aload_nR (mm 56 rfl) l0 ?_
          obtain ⟨v58, e59, h⟩ := bind_so h
          refine ev_get_i (mm 57 rfl) rfl e59 ?_
          obtain ⟨q60, e61, h⟩ := bind_so h
          rw [e61]
          obtain ⟨M62, e63, h⟩ := bind_so h
          refine ev_iastore (mm 58 rfl) e63 ?_
          refine ev_aload_nR (mm 59 rfl) l0 ?_
          obtain ⟨v64, e65, h⟩ := bind_so h
          refine ev_get_i (mm 60 rfl) rfl e65 ?_
          refine ev_sipush (mm 61 rfl) cS_263 ?_
          rcases ite_so h with ⟨c66, h⟩ | ⟨c66, h⟩
          · refine ev_ic_t 128 (mm 62 rfl) rfl c66 ?_
            exact f43_j128_ok l0 h
          · refine ev_ic_f 128 (mm 62 rfl) rfl c66 ?_
            refine ev_aload_nR (mm 63 rfl) l0 ?_
            obtain ⟨_, e86, h⟩ := bind_so h
            obtain ⟨p81, e82, h⟩ := bind_so h
            refine ev_callV_V [] (mm 64 rfl) rfl rfl (Nat.le_of_ble_eq_true rfl) (s_ob_of e86) (f33_ok e82 (d + 123)) ?_
            refine ev_aload_nR (mm 65 rfl) l0 ?_
            refine ev_iconst (mm 66 rfl) cI_0 ?_
            obtain ⟨_, e85, h⟩ := bind_so h
            obtain ⟨p83, e84, h⟩ := bind_so h
            refine ev_callV_V [.int (0)] (mm 67 rfl) rfl rfl (Nat.le_of_ble_eq_true rfl) (s_ob_of e85) (f48_ok e84 (d + 0)) ?_
            exact f43_j128_ok l0 h
        · refine ev_ic_f 36 (mm 13 rfl) rfl c17 ?_
          refine ev_aload_nR (mm 14 rfl) l0 ?_
          obtain ⟨_, e92, h⟩ := bind_so h
          obtain ⟨p90, e91, h⟩ := bind_so h
          refine ev_callV_V [] (mm 15 rfl) rfl rfl (Nat.le_of_ble_eq_true rfl) (s_ob_of e92) (f32_ok e91 (d + 124)) ?_
          exact ev_return (mm 16 rfl) h
  exact ⟨by decide, Nat.le_of_ble_eq_true rfl, key.1, key.2⟩
/-- PupilCoin$Reader.statement()V -/
def f38 (x0 : Nat) (M : vm_M) : Option (vm_M) :=
  (sg_i M x0 6 13).bind fun v1 =>
  if v1 = 256 then
    (s_ob M x0 6).bind fun _ =>
    (f43 x0 M).bind fun p4 =>
    (s_ob p4 x0 6).bind fun _ =>
    (f37 x0 59 p4).bind fun p6 =>
    some p6
  else if v1 = 257 then
    (s_ob M x0 6).bind fun _ =>
    (f39 x0 0 1000 M).bind fun p11 =>
    (s_ob p11 x0 6).bind fun _ =>
    (f37 x0 59 p11).bind fun p13 =>
    some p13
  else if v1 = 258 then
    (s_ob M x0 6).bind fun _ =>
    (f39 x0 1 1000 M).bind fun p18 =>
    (s_ob p18 x0 6).bind fun _ =>
    (f37 x0 59 p18).bind fun p20 =>
    some p20
  else if v1 = 259 then
    (s_ob M x0 6).bind fun _ =>
    (f39 x0 2 9999999 M).bind fun p25 =>
    (s_ob p25 x0 6).bind fun _ =>
    (f37 x0 59 p25).bind fun p27 =>
    some p27
  else if v1 = 260 then
    (s_ob M x0 6).bind fun _ =>
    (f39 x0 3 100 M).bind fun p32 =>
    (s_ob p32 x0 6).bind fun _ =>
    (f37 x0 59 p32).bind fun p34 =>
    some p34
  else if v1 = 261 then
    (s_ob M x0 6).bind fun _ =>
    (f40 x0 M).bind fun p39 =>
    (s_ob p39 x0 6).bind fun _ =>
    (f37 x0 59 p39).bind fun p41 =>
    some p41
  else if v1 = 262 then
    (s_ob M x0 6).bind fun _ =>
    (f41 x0 M).bind fun p46 =>
    (s_ob p46 x0 6).bind fun _ =>
    (f37 x0 59 p46).bind fun p48 =>
    some p48
  else 
    (s_ob M x0 6).bind fun _ =>
    (f32 x0 M).bind fun p52 =>
    (s_ob p52 x0 6).bind fun _ =>
    (f37 x0 59 p52).bind fun p54 =>
    some p54
theorem f38_ok {x0 : Nat} {M : vm_M} {r : vm_M} (h : f38 x0 M = some r) (d : Nat) : vm_Cl (d + 127) 38 [.ref (x0)] M (rV r) := by
  have key : Ev 0 (fun _ => 0) (vm_Cl (d + 126)) vp_38 6 1 false none (rV r) 0 (lv_args 0 [.ref (x0)]) [] M := by
    have l0 : (0, .ref (x0)) ∈ lv_args 0 [.ref (x0)] := List.Mem.head _
    unfold f38 at h
    refine ev_aload_nR (mm 0 rfl) l0 ?_
    obtain ⟨v1, e2, h⟩ := bind_so h
    refine ev_get_i (mm 1 rfl) rfl e2 ?_
    rcases ite_so h with ⟨c3, h⟩ | ⟨c3, h⟩
    · refine ev_tsw (off := 44) 48 0 (mm 2 rfl) c3 rfl rfl ?_
      refine ev_aload_nR (mm 3 rfl) l0 ?_
      obtain ⟨_, e9, h⟩ := bind_so h
      obtain ⟨p4, e5, h⟩ := bind_so h
      refine ev_callV_V [] (mm 4 rfl) rfl rfl (Nat.le_of_ble_eq_true rfl) (s_ob_of e9) (f43_ok e5 (d + 0)) ?_
      refine ev_goto 115 (mm 5 rfl) rfl ?_
      refine ev_aload_nR (mm 34 rfl) l0 ?_
      refine ev_bipush (mm 35 rfl) cB_59 ?_
      obtain ⟨_, e8, h⟩ := bind_so h
      obtain ⟨p6, e7, h⟩ := bind_so h
      refine ev_callV_V [.int (59)] (mm 36 rfl) rfl rfl (Nat.le_of_ble_eq_true rfl) (s_ob_of e8) (f37_ok e7 (d + 123)) ?_
      exact ev_return (mm 37 rfl) h
    rcases ite_so h with ⟨c10, h⟩ | ⟨c10, h⟩
    · refine ev_tsw (off := 51) 55 1 (mm 2 rfl) c10 rfl rfl ?_
      refine ev_aload_nR (mm 6 rfl) l0 ?_
      refine ev_iconst (mm 7 rfl) cI_0 ?_
      refine ev_sipush (mm 8 rfl) cS_1000 ?_
      obtain ⟨_, e16, h⟩ := bind_so h
      obtain ⟨p11, e12, h⟩ := bind_so h
      refine ev_callV_V [.int (0), .int (1000)] (mm 9 rfl) rfl rfl (Nat.le_of_ble_eq_true rfl) (s_ob_of e16) (f39_ok e12 (d + 123)) ?_
      refine ev_goto 115 (mm 10 rfl) rfl ?_
      refine ev_aload_nR (mm 34 rfl) l0 ?_
      refine ev_bipush (mm 35 rfl) cB_59 ?_
      obtain ⟨_, e15, h⟩ := bind_so h
      obtain ⟨p13, e14, h⟩ := bind_so h
      refine ev_callV_V [.int (59)] (mm 36 rfl) rfl rfl (Nat.le_of_ble_eq_true rfl) (s_ob_of e15) (f37_ok e14 (d + 123)) ?_
      exact ev_return (mm 37 rfl) h
    rcases ite_so h with ⟨c17, h⟩ | ⟨c17, h⟩
    · refine ev_tsw (off := 62) 66 2 (mm 2 rfl) c17 rfl rfl ?_
      refine ev_aload_nR (mm 11 rfl) l0 ?_
      refine ev_iconst (mm 12 rfl) cI_1 ?_
      refine ev_sipush (mm 13 rfl) cS_1000 ?_
      obtain ⟨_, e23, h⟩ := bind_so h
      obtain ⟨p18, e19, h⟩ := bind_so h
      refine ev_callV_V [.int (1), .int (1000)] (mm 14 rfl) rfl rfl (Nat.le_of_ble_eq_true rfl) (s_ob_of e23) (f39_ok e19 (d + 123)) ?_
      refine ev_goto 115 (mm 15 rfl) rfl ?_
      refine ev_aload_nR (mm 34 rfl) l0 ?_
      refine ev_bipush (mm 35 rfl) cB_59 ?_
      obtain ⟨_, e22, h⟩ := bind_so h
      obtain ⟨p20, e21, h⟩ := bind_so h
      refine ev_callV_V [.int (59)] (mm 36 rfl) rfl rfl (Nat.le_of_ble_eq_true rfl) (s_ob_of e22) (f37_ok e21 (d + 123)) ?_
      exact ev_return (mm 37 rfl) h
    rcases ite_so h with ⟨c24, h⟩ | ⟨c24, h⟩
    · refine ev_tsw (off := 73) 77 3 (mm 2 rfl) c24 rfl rfl ?_
      refine ev_aload_nR (mm 16 rfl) l0 ?_
      refine ev_iconst (mm 17 rfl) cI_2 ?_
      refine ev_ldc (mm 18 rfl) cI_9999999 ?_
      obtain ⟨_, e30, h⟩ := bind_so h
      obtain ⟨p25, e26, h⟩ := bind_so h
      refine ev_callV_V [.int (2), .int (9999999)] (mm 19 rfl) rfl rfl (Nat.le_of_ble_eq_true rfl) (s_ob_of e30) (f39_ok e26 (d + 123)) ?_
      refine ev_goto 115 (mm 20 rfl) rfl ?_
      refine ev_aload_nR (mm 34 rfl) l0 ?_
      refine ev_bipush (mm 35 rfl) cB_59 ?_
      obtain ⟨_, e29, h⟩ := bind_so h
      obtain ⟨p27, e28, h⟩ := bind_so h
      refine ev_callV_V [.int (59)] (mm 36 rfl) rfl rfl (Nat.le_of_ble_eq_true rfl) (s_ob_of e29) (f37_ok e28 (d + 123)) ?_
      exact ev_return (mm 37 rfl) h
    rcases ite_so h with ⟨c31, h⟩ | ⟨c31, h⟩
    · refine ev_tsw (off := 83) 87 4 (mm 2 rfl) c31 rfl rfl ?_
      refine ev_aload_nR (mm 21 rfl) l0 ?_
      refine ev_iconst (mm 22 rfl) cI_3 ?_
      refine ev_bipush (mm 23 rfl) cB_100 ?_
      obtain ⟨_, e37, h⟩ := bind_so h
      obtain ⟨p32, e33, h⟩ := bind_so h
      refine ev_callV_V [.int (3), .int (100)] (mm 24 rfl) rfl rfl (Nat.le_of_ble_eq_true rfl) (s_ob_of e37) (f39_ok e33 (d + 123)) ?_
      refine ev_goto 115 (mm 25 rfl) rfl ?_
      refine ev_aload_nR (mm 34 rfl) l0 ?_
      refine ev_bipush (mm 35 rfl) cB_59 ?_
      obtain ⟨_, e36, h⟩ := bind_so h
      obtain ⟨p34, e35, h⟩ := bind_so h
      refine ev_callV_V [.int (59)] (mm 36 rfl) rfl rfl (Nat.le_of_ble_eq_true rfl) (s_ob_of e36) (f37_ok e35 (d + 123)) ?_
      exact ev_return (mm 37 rfl) h
    rcases ite_so h with ⟨c38, h⟩ | ⟨c38, h⟩
    · refine ev_tsw (off := 93) 97 5 (mm 2 rfl) c38 rfl rfl ?_
      refine ev_aload_nR (mm 26 rfl) l0 ?_
      obtain ⟨_, e44, h⟩ := bind_so h
      obtain ⟨p39, e40, h⟩ := bind_so h
      refine ev_callV_V [] (mm 27 rfl) rfl rfl (Nat.le_of_ble_eq_true rfl) (s_ob_of e44) (f40_ok e40 (d + 123)) ?_
      refine ev_goto 115 (mm 28 rfl) rfl ?_
      refine ev_aload_nR (mm 34 rfl) l0 ?_
      refine ev_bipush (mm 35 rfl) cB_59 ?_
      obtain ⟨_, e43, h⟩ := bind_so h
      obtain ⟨p41, e42, h⟩ := bind_so h
      refine ev_callV_V [.int (59)] (mm 36 rfl) rfl rfl (Nat.le_of_ble_eq_true rfl) (s_ob_of e43) (f37_ok e42 (d + 123)) ?_
      exact ev_return (mm 37 rfl) h
    rcases ite_so h with ⟨c45, h⟩ | ⟨c45, h⟩
    · refine ev_tsw (off := 100) 104 6 (mm 2 rfl) c45 rfl rfl ?_
      refine ev_aload_nR (mm 29 rfl) l0 ?_
      obtain ⟨_, e51, h⟩ := bind_so h
      obtain ⟨p46, e47, h⟩ := bind_so h
      refine ev_callV_V [] (mm 30 rfl) rfl rfl (Nat.le_of_ble_eq_true rfl) (s_ob_of e51) (f41_ok e47 (d + 123)) ?_
      refine ev_goto 115 (mm 31 rfl) rfl ?_
      refine ev_aload_nR (mm 34 rfl) l0 ?_
      refine ev_bipush (mm 35 rfl) cB_59 ?_
      obtain ⟨_, e50, h⟩ := bind_so h
      obtain ⟨p48, e49, h⟩ := bind_so h
      refine ev_callV_V [.int (59)] (mm 36 rfl) rfl rfl (Nat.le_of_ble_eq_true rfl) (s_ob_of e50) (f37_ok e49 (d + 123)) ?_
      exact ev_return (mm 37 rfl) h
    refine ev_tswD 111 (mm 2 rfl) rfl (tsw_out [256, 257, 258, 259, 260, 261, 262] rfl rfl (by simp [c3, c10, c17, c24, c31, c38, c45])) ?_
    refine ev_aload_nR (mm 32 rfl) l0 ?_
    obtain ⟨_, e57, h⟩ := bind_so h
    obtain ⟨p52, e53, h⟩ := bind_so h
    refine ev_callV_V [] (mm 33 rfl) rfl rfl (Nat.le_of_ble_eq_true rfl) (s_ob_of e57) (f32_ok e53 (d + 125)) ?_
    refine ev_aload_nR (mm 34 rfl) l0 ?_
    refine ev_bipush (mm 35 rfl) cB_59 ?_
    obtain ⟨_, e56, h⟩ := bind_so h
    obtain ⟨p54, e55, h⟩ := bind_so h
    refine ev_callV_V [.int (59)] (mm 36 rfl) rfl rfl (Nat.le_of_ble_eq_true rfl) (s_ob_of e56) (f37_ok e55 (d + 123)) ?_
    exact ev_return (mm 37 rfl) h
  exact ⟨by decide, Nat.le_of_ble_eq_true rfl, key.1, key.2⟩
def f31_l25 (x0 : Nat) (k69 : vm_M → Option (Int32 × vm_M)) : Nat → Int32 → vm_M → Option (Int32 × vm_M)
  | 0 => fun _ _ => none
  | n + 1 => fun x3 M =>
    if 30 ≤ x3 then
      k69 M
    else
      (sg_i M x0 6 13).bind fun v14 =>
      if v14 = 282 then
        k69 M
      else
        (sg_i M x0 6 16).bind fun v17 =>
        if ¬ v17 = (-1) then
          k69 M
        else
          (s_ob M x0 6).bind fun _ =>
          (f38 x0 M).bind fun p20 =>
          (sg_i p20 x0 6 8).bind fun v22 =>
          (sp_i p20 x0 6 8 (v22 + 1)).bind fun M24 =>
          f31_l25 x0 k69 n (x3 + 1) M24
theorem f31_l25_ok {d : Nat} {x0 : Nat} {k69 : vm_M → Option (Int32 × vm_M)} {r : Int32 × vm_M} (hk69 : ∀ {M : vm_M} {lv : vm_L}, (0, .ref (x0)) ∈ lv → k69 M = some r → Ev 0 (fun _ => 0) (vm_Cl (d + 127)) vp_31 6 4 false (some (.int)) (rI r) 69 lv [] M) : ∀ (n : Nat) {x3 : Int32} {M : vm_M} {lv : vm_L}, (0, .ref (x0)) ∈ lv → (3, .int (x3)) ∈ lv → f31_l25 x0 k69 n x3 M = some r → Ev 0 (fun _ => 0) (vm_Cl (d + 127)) vp_31 6 4 false (some (.int)) (rI r) 25 lv [] M := by
  intro n
  induction n with
  | zero =>
    intro x3 M lv l0 l3 h
    cases h
  | succ n ih =>
    intro x3 M lv l0 l3 h
    dsimp only [f31_l25] at h
    refine ev_iload_n (mm 15 rfl) l3 ?_
    refine ev_bipush (mm 16 rfl) cB_30 ?_
    rcases ite_so h with ⟨c13, h⟩ | ⟨c13, h⟩
    · refine ev_ic_t 69 (mm 17 rfl) rfl c13 ?_
      exact hk69 l0 h
    · refine ev_ic_f 69 (mm 17 rfl) rfl c13 ?_
      refine ev_aload_nR (mm 18 rfl) l0 ?_
      obtain ⟨v14, e15, h⟩ := bind_so h
      refine ev_get_i (mm 19 rfl) rfl e15 ?_
      refine ev_sipush (mm 20 rfl) cS_282 ?_
      rcases ite_so h with ⟨c16, h⟩ | ⟨c16, h⟩
      · refine ev_ic_t 69 (mm 21 rfl) rfl c16 ?_
        exact hk69 l0 h
      · refine ev_ic_f 69 (mm 21 rfl) rfl c16 ?_
        refine ev_aload_nR (mm 22 rfl) l0 ?_
        obtain ⟨v17, e18, h⟩ := bind_so h
        refine ev_get_i (mm 23 rfl) rfl e18 ?_
        refine ev_iconst (mm 24 rfl) cI_m1 ?_
        rcases ite_so h with ⟨c19, h⟩ | ⟨c19, h⟩
        · refine ev_ic_t 69 (mm 25 rfl) rfl c19 ?_
          exact hk69 l0 h
        · refine ev_ic_f 69 (mm 25 rfl) rfl c19 ?_
          refine ev_aload_nR (mm 26 rfl) l0 ?_
          obtain ⟨_, e28, h⟩ := bind_so h
          obtain ⟨p20, e21, h⟩ := bind_so h
          refine ev_callV_V [] (mm 27 rfl) rfl rfl (Nat.le_of_ble_eq_true rfl) (s_ob_of e28) (f38_ok e21 (d + 0)) ?_
          refine ev_aload_nR (mm 28 rfl) l0 ?_
          refine ev_dupR (mm 29 rfl) ?_
          obtain ⟨v22, e23, h⟩ := bind_so h
          refine ev_get_i (mm 30 rfl) rfl e23 ?_
          refine ev_iconst (mm 31 rfl) cI_1 ?_
          refine ev_iadd (mm 32 rfl) ?_
          obtain ⟨M24, e25, h⟩ := bind_so h
          refine ev_put_i (mm 33 rfl) (fun z => by cases z) rfl e25 ?_
          refine evs_iinc (mm 34 rfl) cI_1 l3 (by decide) (fun lv26 l3 s27 => ?_)
          have l0 := s27 _ _ l0 rfl
          refine ev_goto 25 (mm 35 rfl) rfl ?_
          exact ih l0 l3 h
def f31_j69 (x0 : Nat) (M : vm_M) : Option (Int32 × vm_M) :=
  (sg_i M x0 6 13).bind fun v30 =>
  if v30 = 282 then
    (sg_i M x0 6 16).bind fun v33 =>
    some (v33, M)
  else
    (s_ob M x0 6).bind fun _ =>
    (f32 x0 M).bind fun p35 =>
    (sg_i p35 x0 6 16).bind fun v37 =>
    some (v37, p35)
theorem f31_j69_ok {d : Nat} {x0 : Nat} {M : vm_M} {r : Int32 × vm_M} {lv : vm_L} (l0 : (0, .ref (x0)) ∈ lv) (h : f31_j69 x0 M = some r) : Ev 0 (fun _ => 0) (vm_Cl (d + 127)) vp_31 6 4 false (some (.int)) (rI r) 69 lv [] M := by
  unfold f31_j69 at h
  refine ev_aload_nR (mm 36 rfl) l0 ?_
  obtain ⟨v30, e31, h⟩ := bind_so h
  refine ev_get_i (mm 37 rfl) rfl e31 ?_
  refine ev_sipush (mm 38 rfl) cS_282 ?_
  rcases ite_so h with ⟨c32, h⟩ | ⟨c32, h⟩
  · refine ev_ic_t 83 (mm 39 rfl) rfl c32 ?_
    refine ev_aload_nR (mm 42 rfl) l0 ?_
    obtain ⟨v33, e34, h⟩ := bind_so h
    refine ev_get_i (mm 43 rfl) rfl e34 ?_
    exact ev_ireturn (mm 44 rfl) h
  · refine ev_ic_f 83 (mm 39 rfl) rfl c32 ?_
    refine ev_aload_nR (mm 40 rfl) l0 ?_
    obtain ⟨_, e39, h⟩ := bind_so h
    obtain ⟨p35, e36, h⟩ := bind_so h
    refine ev_callV_V [] (mm 41 rfl) rfl rfl (Nat.le_of_ble_eq_true rfl) (s_ob_of e39) (f32_ok e36 (d + 126)) ?_
    refine ev_aload_nR (mm 42 rfl) l0 ?_
    obtain ⟨v37, e38, h⟩ := bind_so h
    refine ev_get_i (mm 43 rfl) rfl e38 ?_
    exact ev_ireturn (mm 44 rfl) h
/-- PupilCoin$Reader.read([II)I -/
def f31 (x0 : Nat) (x1 : Nat) (x2 : Int32) (M : vm_M) : Option (Int32 × vm_M) :=
  (sp_r M x0 6 9 (some x1)).bind fun M1 =>
  (s_len M1 x1 0).bind fun v3 =>
  (sp_i M1 x0 6 10 (s_mnI x2 v3)).bind fun M5 =>
  (s_ob M5 x0 6).bind fun _ =>
  (f30 x0 M5).bind fun p7 =>
  (s_ob p7 x0 6).bind fun _ =>
  (f33 x0 p7).bind fun p9 =>
  f31_l25 x0
    (fun M29 =>
      f31_j69 x0 M29)
    100000 0 p9
theorem f31_ok {x0 : Nat} {x1 : Nat} {x2 : Int32} {M : vm_M} {r : Int32 × vm_M} (h : f31 x0 x1 x2 M = some r) (d : Nat) : vm_Cl (d + 128) 31 [.ref (x0), .ref (x1), .int (x2)] M (rI r) := by
  have key : Ev 0 (fun _ => 0) (vm_Cl (d + 127)) vp_31 6 4 false (some (.int)) (rI r) 0 (lv_args 0 [.ref (x0), .ref (x1), .int (x2)]) [] M := by
    have l0 : (0, .ref (x0)) ∈ lv_args 0 [.ref (x0), .ref (x1), .int (x2)] := List.Mem.head _
    have l1 : (1, .ref (x1)) ∈ lv_args 0 [.ref (x0), .ref (x1), .int (x2)] := List.Mem.tail _ (List.Mem.head _)
    have l2 : (2, .int (x2)) ∈ lv_args 0 [.ref (x0), .ref (x1), .int (x2)] := List.Mem.tail _ (List.Mem.tail _ (List.Mem.head _))
    unfold f31 at h
    refine ev_aload_nR (mm 0 rfl) l0 ?_
    refine ev_aload_nR (mm 1 rfl) l1 ?_
    obtain ⟨M1, e2, h⟩ := bind_so h
    refine ev_put_R (mm 2 rfl) (fun z => by cases z) rfl e2 ?_
    refine ev_aload_nR (mm 3 rfl) l0 ?_
    refine ev_iload_n (mm 4 rfl) l2 ?_
    refine ev_aload_nR (mm 5 rfl) l1 ?_
    obtain ⟨v3, e4, h⟩ := bind_so h
    refine ev_len (mm 6 rfl) (by decide) e4 ?_
    refine ev_mnI (mm 7 rfl) (Nat.le_of_ble_eq_true rfl) ?_
    obtain ⟨M5, e6, h⟩ := bind_so h
    refine ev_put_i (mm 8 rfl) (fun z => by cases z) rfl e6 ?_
    refine ev_aload_nR (mm 9 rfl) l0 ?_
    obtain ⟨_, e41, h⟩ := bind_so h
    obtain ⟨p7, e8, h⟩ := bind_so h
    refine ev_callV_V [] (mm 10 rfl) rfl rfl (Nat.le_of_ble_eq_true rfl) (s_ob_of e41) (f30_ok e8 (d + 125)) ?_
    refine ev_aload_nR (mm 11 rfl) l0 ?_
    obtain ⟨_, e40, h⟩ := bind_so h
    obtain ⟨p9, e10, h⟩ := bind_so h
    refine ev_callV_V [] (mm 12 rfl) rfl rfl (Nat.le_of_ble_eq_true rfl) (s_ob_of e40) (f33_ok e10 (d + 125)) ?_
    refine ev_iconst (mm 13 rfl) cI_0 ?_
    refine evs_istore_n (mm 14 rfl) (by decide) (fun lv11 l3 s12 => ?_)
    have l0 := s12 _ _ l0 rfl
    refine f31_l25_ok ?_ 100000 l0 l3 h
    · intro M29 lv l0
      intro h
      exact f31_j69_ok l0 h
  exact ⟨by decide, Nat.le_of_ble_eq_true rfl, key.1, key.2⟩
/-- PupilCoin$Roads.lay(III)V -/
def f52 (x0 : Nat) (x1 : Int32) (x2 : Int32) (x3 : Int32) (M : vm_M) : Option (vm_M) :=
  (sg_r M x0 7 0).bind fun v1 =>
  (v1).bind fun q3 =>
  (ss_i M q3 0 ((x1 * 16) + x2) x3).bind fun M5 =>
  (sg_r M5 x0 7 0).bind fun v7 =>
  (v7).bind fun q9 =>
  (ss_i M5 q9 0 ((x2 * 16) + x1) x3).bind fun M11 =>
  (sp_z M11 x0 7 2 0).bind fun M13 =>
  some M13
theorem f52_ok {x0 : Nat} {x1 : Int32} {x2 : Int32} {x3 : Int32} {M : vm_M} {r : vm_M} (h : f52 x0 x1 x2 x3 M = some r) (d : Nat) : vm_Cl (d + 1) 52 [.ref (x0), .int (x1), .int (x2), .int (x3)] M (rV r) := by
  have key : Ev 0 (fun _ => 0) (vm_Cl (d + 0)) vp_52 7 4 false none (rV r) 0 (lv_args 0 [.ref (x0), .int (x1), .int (x2), .int (x3)]) [] M := by
    have l0 : (0, .ref (x0)) ∈ lv_args 0 [.ref (x0), .int (x1), .int (x2), .int (x3)] := List.Mem.head _
    have l1 : (1, .int (x1)) ∈ lv_args 0 [.ref (x0), .int (x1), .int (x2), .int (x3)] := List.Mem.tail _ (List.Mem.head _)
    have l2 : (2, .int (x2)) ∈ lv_args 0 [.ref (x0), .int (x1), .int (x2), .int (x3)] := List.Mem.tail _ (List.Mem.tail _ (List.Mem.head _))
    have l3 : (3, .int (x3)) ∈ lv_args 0 [.ref (x0), .int (x1), .int (x2), .int (x3)] := List.Mem.tail _ (List.Mem.tail _ (List.Mem.tail _ (List.Mem.head _)))
    unfold f52 at h
    refine ev_aload_nR (mm 0 rfl) l0 ?_
    obtain ⟨v1, e2, h⟩ := bind_so h
    refine ev_get_r (mm 1 rfl) rfl e2 ?_
    refine ev_iload_n (mm 2 rfl) l1 ?_
    refine ev_bipush (mm 3 rfl) cB_16 ?_
    refine ev_imul (mm 4 rfl) ?_
    refine ev_iload_n (mm 5 rfl) l2 ?_
    refine ev_iadd (mm 6 rfl) ?_
    refine ev_iload_n (mm 7 rfl) l3 ?_
    obtain ⟨q3, e4, h⟩ := bind_so h
    rw [e4]
    obtain ⟨M5, e6, h⟩ := bind_so h
    refine ev_iastore (mm 8 rfl) e6 ?_
    refine ev_aload_nR (mm 9 rfl) l0 ?_
    obtain ⟨v7, e8, h⟩ := bind_so h
    refine ev_get_r (mm 10 rfl) rfl e8 ?_
    refine ev_iload_n (mm 11 rfl) l2 ?_
    refine ev_bipush (mm 12 rfl) cB_16 ?_
    refine ev_imul (mm 13 rfl) ?_
    refine ev_iload_n (mm 14 rfl) l1 ?_
    refine ev_iadd (mm 15 rfl) ?_
    refine ev_iload_n (mm 16 rfl) l3 ?_
    obtain ⟨q9, e10, h⟩ := bind_so h
    rw [e10]
    obtain ⟨M11, e12, h⟩ := bind_so h
    refine ev_iastore (mm 17 rfl) e12 ?_
    refine ev_aload_nR (mm 18 rfl) l0 ?_
    refine ev_iconst (mm 19 rfl) cI_0 ?_
    obtain ⟨M13, e14, h⟩ := bind_so h
    refine ev_put_z (mm 20 rfl) (fun z => by cases z) rfl e14 ?_
    exact ev_return (mm 21 rfl) h
  exact ⟨by decide, Nat.le_of_ble_eq_true rfl, key.1, key.2⟩
/-- PupilCoin$Rules.<init>(LPupilCoin$Law;)V -/
def f54 (x0 : Nat) (x1 : Nat) (M : vm_M) : Option (vm_M) :=
  (s_na M 4 8).bind fun M1 =>
  (sp_r M1 x0 8 0 (some (vm_n M))).bind fun M3 =>
  (sp_r M3 x0 8 1 (some x1)).bind fun M5 =>
  some M5
theorem f54_ok {x0 : Nat} {x1 : Nat} {M : vm_M} {r : vm_M} (h : f54 x0 x1 M = some r) (d : Nat) : vm_Cl (d + 1) 54 [.ref (x0), .ref (x1)] M (rV r) := by
  have key : Ev 0 (fun _ => 0) (vm_Cl (d + 0)) vp_54 8 2 true none (rV r) 0 (lv_args 0 [.ref (x0), .ref (x1)]) [] M := by
    have l0 : (0, .ref (x0)) ∈ lv_args 0 [.ref (x0), .ref (x1)] := List.Mem.head _
    have l1 : (1, .ref (x1)) ∈ lv_args 0 [.ref (x0), .ref (x1)] := List.Mem.tail _ (List.Mem.head _)
    unfold f54 at h
    refine ev_aload_nR (mm 0 rfl) l0 ?_
    refine ev_obj (mm 1 rfl) (Nat.le_of_ble_eq_true rfl) ?_
    refine ev_aload_nR (mm 2 rfl) l0 ?_
    refine ev_bipush (mm 3 rfl) cB_8 ?_
    obtain ⟨M1, e2, h⟩ := bind_so h
    refine ev_anewarray (mm 4 rfl) e2 ?_
    obtain ⟨M3, e4, h⟩ := bind_so h
    refine ev_put_R (mm 5 rfl) (fun _ => ⟨rfl, rfl⟩) rfl e4 ?_
    refine ev_aload_nR (mm 6 rfl) l0 ?_
    refine ev_aload_nR (mm 7 rfl) l1 ?_
    obtain ⟨M5, e6, h⟩ := bind_so h
    refine ev_put_R (mm 8 rfl) (fun _ => ⟨rfl, rfl⟩) rfl e6 ?_
    exact ev_return (mm 9 rfl) h
  exact ⟨by decide, Nat.le_of_ble_eq_true rfl, key.1, key.2⟩
/-- PupilCoin$Rules.take(LPupilCoin$Law;)I -/
def f55 (x0 : Nat) (x1 : Nat) (M : vm_M) : Option (Int32 × vm_M) :=
  (sg_i M x0 8 2).bind fun v1 =>
  if v1 < 8 then
    (sg_r M x0 8 0).bind fun v4 =>
    (sg_i M x0 8 2).bind fun v6 =>
    (v4).bind fun q8 =>
    (ss_r M q8 v6 x1).bind fun M10 =>
    (sg_i M10 x0 8 2).bind fun v12 =>
    (sp_i M10 x0 8 2 (v12 + 1)).bind fun M14 =>
    some (v12, M14)
  else
    some ((-1), M)
theorem f55_ok {x0 : Nat} {x1 : Nat} {M : vm_M} {r : Int32 × vm_M} (h : f55 x0 x1 M = some r) (d : Nat) : vm_Cl (d + 1) 55 [.ref (x0), .ref (x1)] M (rI r) := by
  have key : Ev 0 (fun _ => 0) (vm_Cl (d + 0)) vp_55 8 2 false (some (.int)) (rI r) 0 (lv_args 0 [.ref (x0), .ref (x1)]) [] M := by
    have l0 : (0, .ref (x0)) ∈ lv_args 0 [.ref (x0), .ref (x1)] := List.Mem.head _
    have l1 : (1, .ref (x1)) ∈ lv_args 0 [.ref (x0), .ref (x1)] := List.Mem.tail _ (List.Mem.head _)
    unfold f55 at h
    refine ev_aload_nR (mm 0 rfl) l0 ?_
    obtain ⟨v1, e2, h⟩ := bind_so h
    refine ev_get_i (mm 1 rfl) rfl e2 ?_
    refine ev_bipush (mm 2 rfl) cB_8 ?_
    rcases ite_so h with ⟨c3, h⟩ | ⟨c3, h⟩
    · refine ev_ic_t 11 (mm 3 rfl) rfl c3 ?_
      refine ev_aload_nR (mm 6 rfl) l0 ?_
      obtain ⟨v4, e5, h⟩ := bind_so h
      refine ev_get_r (mm 7 rfl) rfl e5 ?_
      refine ev_aload_nR (mm 8 rfl) l0 ?_
      obtain ⟨v6, e7, h⟩ := bind_so h
      refine ev_get_i (mm 9 rfl) rfl e7 ?_
      refine ev_aload_nR (mm 10 rfl) l1 ?_
      obtain ⟨q8, e9, h⟩ := bind_so h
      rw [e9]
      obtain ⟨M10, e11, h⟩ := bind_so h
      refine ev_aastore (mm 11 rfl) e11 ?_
      refine ev_aload_nR (mm 12 rfl) l0 ?_
      refine ev_dupR (mm 13 rfl) ?_
      obtain ⟨v12, e13, h⟩ := bind_so h
      refine ev_get_i (mm 14 rfl) rfl e13 ?_
      refine ev_dup_x1 (mm 15 rfl) rfl rfl ?_
      refine ev_iconst (mm 16 rfl) cI_1 ?_
      refine ev_iadd (mm 17 rfl) ?_
      obtain ⟨M14, e15, h⟩ := bind_so h
      refine ev_put_i (mm 18 rfl) (fun z => by cases z) rfl e15 ?_
      exact ev_ireturn (mm 19 rfl) h
    · refine ev_ic_f 11 (mm 3 rfl) rfl c3 ?_
      refine ev_iconst (mm 4 rfl) cI_m1 ?_
      exact ev_ireturn (mm 5 rfl) h
  exact ⟨by decide, Nat.le_of_ble_eq_true rfl, key.1, key.2⟩
def f56_l8 (x0 : Nat) (x1 : Int32) (x2 : Int32) : Nat → Option Nat → Int32 → vm_M → Option (Option Nat × vm_M)
  | 0 => fun _ _ _ => none
  | n + 1 => fun x3 x4 M =>
    (sg_i M x0 8 2).bind fun v7 =>
    if v7 ≤ x4 then
      some (x3, M)
    else
      (sg_r M x0 8 0).bind fun v10 =>
      (v10).bind fun q12 =>
      (sa_r M q12 x4).bind fun v14 =>
      match v14 with
      | none =>
        f56_l8 x0 x1 x2 n x3 (x4 + 1) M
      | some q18 =>
        (sg_i M q18 1 2).bind fun v21 =>
        if x2 < v21 then
          f56_l8 x0 x1 x2 n x3 (x4 + 1) M
        else
          (sg_i M q18 1 1).bind fun v26 =>
          if v26 ≤ x1 then
            (sg_i M q18 1 1).bind fun v29 =>
            (x3).bind fun q31 =>
            (sg_i M q31 1 1).bind fun v33 =>
            if v29 < v33 then
              f56_l8 x0 x1 x2 n (some q31) (x4 + 1) M
            else
              f56_l8 x0 x1 x2 n (some q18) (x4 + 1) M
          else
            f56_l8 x0 x1 x2 n x3 (x4 + 1) M
theorem f56_l8_ok {d : Nat} {x0 : Nat} {x1 : Int32} {x2 : Int32} {r : Option Nat × vm_M} : ∀ (n : Nat) {x3 : Option Nat} {x4 : Int32} {M : vm_M} {lv : vm_L}, (0, .ref (x0)) ∈ lv → (1, .int (x1)) ∈ lv → (2, .int (x2)) ∈ lv → (3, va_rf (x3)) ∈ lv → (4, .int (x4)) ∈ lv → f56_l8 x0 x1 x2 n x3 x4 M = some r → Ev 0 (fun _ => 0) (vm_Cl (d + 0)) vp_56 8 6 false (some (.object "PupilCoin$Law")) (rA r) 8 lv [] M := by
  intro n
  induction n with
  | zero =>
    intro x3 x4 M lv l0 l1 l2 l3 l4 h
    cases h
  | succ n ih =>
    intro x3 x4 M lv l0 l1 l2 l3 l4 h
    dsimp only [f56_l8] at h
    refine ev_iload (mm 5 rfl) l4 ?_
    refine ev_aload_nR (mm 6 rfl) l0 ?_
    obtain ⟨v7, e8, h⟩ := bind_so h
    refine ev_get_i (mm 7 rfl) rfl e8 ?_
    rcases ite_so h with ⟨c9, h⟩ | ⟨c9, h⟩
    · refine ev_ic_t 73 (mm 8 rfl) rfl c9 ?_
      refine ev_aload_n (mm 34 rfl) l3 ?_
      exact ev_areturn (x := x3) (Or.inl ⟨_, rfl⟩) (mm 35 rfl) h
    · refine ev_ic_f 73 (mm 8 rfl) rfl c9 ?_
      refine ev_aload_nR (mm 9 rfl) l0 ?_
      obtain ⟨v10, e11, h⟩ := bind_so h
      refine ev_get_r (mm 10 rfl) rfl e11 ?_
      refine ev_iload (mm 11 rfl) l4 ?_
      obtain ⟨q12, e13, h⟩ := bind_so h
      rw [e13]
      obtain ⟨v14, e15, h⟩ := bind_so h
      refine ev_aaload (mm 12 rfl) e15 ?_
      refine evs_astore (mm 13 rfl) (by decide) (fun lv16 l5 s17 => ?_)
      have l0 := s17 _ _ l0 rfl
      have l1 := s17 _ _ l1 rfl
      have l2 := s17 _ _ l2 rfl
      have l3 := s17 _ _ l3 rfl
      have l4 := s17 _ _ l4 rfl
      refine ev_aload (mm 14 rfl) l5 ?_
      cases v14 with
      | none =>
        refine ev_null_t 67 (mm 15 rfl) rfl ?_
        refine evs_iinc (mm 32 rfl) cI_1 l4 (by decide) (fun lv19 l4 s20 => ?_)
        have l0 := s20 _ _ l0 rfl
        have l1 := s20 _ _ l1 rfl
        have l2 := s20 _ _ l2 rfl
        have l3 := s20 _ _ l3 (by rw [va_rf_cat]; rfl)
        refine ev_goto 8 (mm 33 rfl) rfl ?_
        exact ih l0 l1 l2 l3 l4 h
      | some q18 =>
        refine ev_null_f (mm 15 rfl) ?_
        refine ev_aloadR (mm 16 rfl) l5 ?_
        obtain ⟨v21, e22, h⟩ := bind_so h
        refine ev_get_i (mm 17 rfl) rfl e22 ?_
        refine ev_iload_n (mm 18 rfl) l2 ?_
        rcases ite_so h with ⟨c23, h⟩ | ⟨c23, h⟩
        · refine ev_ic_t 67 (mm 19 rfl) rfl c23 ?_
          refine evs_iinc (mm 32 rfl) cI_1 l4 (by decide) (fun lv24 l4 s25 => ?_)
          have l0 := s25 _ _ l0 rfl
          have l1 := s25 _ _ l1 rfl
          have l2 := s25 _ _ l2 rfl
          have l3 := s25 _ _ l3 (by rw [va_rf_cat]; rfl)
          refine ev_goto 8 (mm 33 rfl) rfl ?_
          exact ih l0 l1 l2 l3 l4 h
        · refine ev_ic_f 67 (mm 19 rfl) rfl c23 ?_
          refine ev_aloadR (mm 20 rfl) l5 ?_
          obtain ⟨v26, e27, h⟩ := bind_so h
          refine ev_get_i (mm 21 rfl) rfl e27 ?_
          refine ev_iload_n (mm 22 rfl) l1 ?_
          rcases ite_so h with ⟨c28, h⟩ | ⟨c28, h⟩
          · refine ev_ic_t 52 (mm 23 rfl) rfl c28 ?_
            refine ev_aloadR (mm 25 rfl) l5 ?_
            obtain ⟨v29, e30, h⟩ := bind_so h
            refine ev_get_i (mm 26 rfl) rfl e30 ?_
            refine ev_aload_n (mm 27 rfl) l3 ?_
            obtain ⟨q31, e32, h⟩ := bind_so h
            rw [e32]
            rw [e32] at l3
            obtain ⟨v33, e34, h⟩ := bind_so h
            refine ev_get_i (mm 28 rfl) rfl e34 ?_
            rcases ite_so h with ⟨c35, h⟩ | ⟨c35, h⟩
            · refine ev_ic_t 67 (mm 29 rfl) rfl c35 ?_
              refine evs_iinc (mm 32 rfl) cI_1 l4 (by decide) (fun lv36 l4 s37 => ?_)
              have l0 := s37 _ _ l0 rfl
              have l1 := s37 _ _ l1 rfl
              have l2 := s37 _ _ l2 rfl
              have l3 := s37 _ _ l3 rfl
              refine ev_goto 8 (mm 33 rfl) rfl ?_
              exact ih l0 l1 l2 (show (3, va_rf (some q31)) ∈ _ from l3) l4 h
            · refine ev_ic_f 67 (mm 29 rfl) rfl c35 ?_
              refine ev_aloadR (mm 30 rfl) l5 ?_
              refine evs_astore_nR (mm 31 rfl) (by decide) (fun lv38 l3 s39 => ?_)
              have l0 := s39 _ _ l0 rfl
              have l1 := s39 _ _ l1 rfl
              have l2 := s39 _ _ l2 rfl
              have l4 := s39 _ _ l4 rfl
              refine evs_iinc (mm 32 rfl) cI_1 l4 (by decide) (fun lv40 l4 s41 => ?_)
              have l0 := s41 _ _ l0 rfl
              have l1 := s41 _ _ l1 rfl
              have l2 := s41 _ _ l2 rfl
              have l3 := s41 _ _ l3 rfl
              refine ev_goto 8 (mm 33 rfl) rfl ?_
              exact ih l0 l1 l2 (show (3, va_rf (some q18)) ∈ _ from l3) l4 h
          · refine ev_ic_f 52 (mm 23 rfl) rfl c28 ?_
            refine ev_goto 67 (mm 24 rfl) rfl ?_
            refine evs_iinc (mm 32 rfl) cI_1 l4 (by decide) (fun lv42 l4 s43 => ?_)
            have l0 := s43 _ _ l0 rfl
            have l1 := s43 _ _ l1 rfl
            have l2 := s43 _ _ l2 rfl
            have l3 := s43 _ _ l3 (by rw [va_rf_cat]; rfl)
            refine ev_goto 8 (mm 33 rfl) rfl ?_
            exact ih l0 l1 l2 l3 l4 h
/-- PupilCoin$Rules.inForce(II)LPupilCoin$Law; -/
def f56 (x0 : Nat) (x1 : Int32) (x2 : Int32) (M : vm_M) : Option (Option Nat × vm_M) :=
  (sg_r M x0 8 1).bind fun v1 =>
  f56_l8 x0 x1 x2
  
    100000 v1 0 M
theorem f56_ok {x0 : Nat} {x1 : Int32} {x2 : Int32} {M : vm_M} {r : Option Nat × vm_M} (h : f56 x0 x1 x2 M = some r) (d : Nat) : vm_Cl (d + 1) 56 [.ref (x0), .int (x1), .int (x2)] M (rA r) := by
  have key : Ev 0 (fun _ => 0) (vm_Cl (d + 0)) vp_56 8 6 false (some (.object "PupilCoin$Law")) (rA r) 0 (lv_args 0 [.ref (x0), .int (x1), .int (x2)]) [] M := by
    have l0 : (0, .ref (x0)) ∈ lv_args 0 [.ref (x0), .int (x1), .int (x2)] := List.Mem.head _
    have l1 : (1, .int (x1)) ∈ lv_args 0 [.ref (x0), .int (x1), .int (x2)] := List.Mem.tail _ (List.Mem.head _)
    have l2 : (2, .int (x2)) ∈ lv_args 0 [.ref (x0), .int (x1), .int (x2)] := List.Mem.tail _ (List.Mem.tail _ (List.Mem.head _))
    unfold f56 at h
    refine ev_aload_nR (mm 0 rfl) l0 ?_
    obtain ⟨v1, e2, h⟩ := bind_so h
    refine ev_get_r (mm 1 rfl) rfl e2 ?_
    refine evs_astore_n (mm 2 rfl) (by decide) (fun lv3 l3 s4 => ?_)
    have l0 := s4 _ _ l0 rfl
    have l1 := s4 _ _ l1 rfl
    have l2 := s4 _ _ l2 rfl
    refine ev_iconst (mm 3 rfl) cI_0 ?_
    refine evs_istore (mm 4 rfl) (by decide) (fun lv5 l4 s6 => ?_)
    have l0 := s6 _ _ l0 rfl
    have l1 := s6 _ _ l1 rfl
    have l2 := s6 _ _ l2 rfl
    have l3 := s6 _ _ l3 (by rw [va_rf_cat]; rfl)
    refine f56_l8_ok 100000 l0 l1 l2 l3 l4 h
  exact ⟨by decide, Nat.le_of_ble_eq_true rfl, key.1, key.2⟩
/-- PupilCoin$Sums.<init>(LPupilCoin$Land;LPupilCoin$Marks;LPupilCoin$Rules;)V -/
def f57 (x0 : Nat) (x1 : Nat) (x2 : Nat) (x3 : Nat) (M : vm_M) : Option (vm_M) :=
  (s_no M 3).bind fun M1 =>
  (f16 (vm_n M) M1).bind fun p3 =>
  (sp_r p3 x0 9 3 (some (vm_n M))).bind fun M5 =>
  (s_na M5 1 360).bind fun M7 =>
  (sp_r M7 x0 9 4 (some (vm_n M5))).bind fun M9 =>
  (s_na M9 1 12).bind fun M11 =>
  (sp_r M11 x0 9 5 (some (vm_n M9))).bind fun M13 =>
  (s_na M13 1 12).bind fun M15 =>
  (sp_r M15 x0 9 6 (some (vm_n M13))).bind fun M17 =>
  (s_na M17 1 12).bind fun M19 =>
  (sp_r M19 x0 9 7 (some (vm_n M17))).bind fun M21 =>
  (s_na M21 1 12).bind fun M23 =>
  (sp_r M23 x0 9 8 (some (vm_n M21))).bind fun M25 =>
  (s_na M25 1 12).bind fun M27 =>
  (sp_r M27 x0 9 9 (some (vm_n M25))).bind fun M29 =>
  (s_na M29 1 12).bind fun M31 =>
  (sp_r M31 x0 9 10 (some (vm_n M29))).bind fun M33 =>
  (s_na M33 1 12).bind fun M35 =>
  (sp_r M35 x0 9 11 (some (vm_n M33))).bind fun M37 =>
  (s_na M37 1 12).bind fun M39 =>
  (sp_r M39 x0 9 12 (some (vm_n M37))).bind fun M41 =>
  (s_na M41 0 12).bind fun M43 =>
  (sp_r M43 x0 9 13 (some (vm_n M41))).bind fun M45 =>
  (s_na M45 1 120).bind fun M47 =>
  (sp_r M47 x0 9 14 (some (vm_n M45))).bind fun M49 =>
  (sp_i M49 x0 9 17 (-1)).bind fun M51 =>
  (sp_i M51 x0 9 18 (-1)).bind fun M53 =>
  (sp_r M53 x0 9 0 (some x1)).bind fun M55 =>
  (sp_r M55 x0 9 1 (some x2)).bind fun M57 =>
  (sp_r M57 x0 9 2 (some x3)).bind fun M59 =>
  some M59
theorem f57_ok {x0 : Nat} {x1 : Nat} {x2 : Nat} {x3 : Nat} {M : vm_M} {r : vm_M} (h : f57 x0 x1 x2 x3 M = some r) (d : Nat) : vm_Cl (d + 2) 57 [.ref (x0), .ref (x1), .ref (x2), .ref (x3)] M (rV r) := by
  have key : Ev 0 (fun _ => 0) (vm_Cl (d + 1)) vp_57 9 4 true none (rV r) 0 (lv_args 0 [.ref (x0), .ref (x1), .ref (x2), .ref (x3)]) [] M := by
    have l0 : (0, .ref (x0)) ∈ lv_args 0 [.ref (x0), .ref (x1), .ref (x2), .ref (x3)] := List.Mem.head _
    have l1 : (1, .ref (x1)) ∈ lv_args 0 [.ref (x0), .ref (x1), .ref (x2), .ref (x3)] := List.Mem.tail _ (List.Mem.head _)
    have l2 : (2, .ref (x2)) ∈ lv_args 0 [.ref (x0), .ref (x1), .ref (x2), .ref (x3)] := List.Mem.tail _ (List.Mem.tail _ (List.Mem.head _))
    have l3 : (3, .ref (x3)) ∈ lv_args 0 [.ref (x0), .ref (x1), .ref (x2), .ref (x3)] := List.Mem.tail _ (List.Mem.tail _ (List.Mem.tail _ (List.Mem.head _)))
    unfold f57 at h
    refine ev_aload_nR (mm 0 rfl) l0 ?_
    refine ev_obj (mm 1 rfl) (Nat.le_of_ble_eq_true rfl) ?_
    refine ev_aload_nR (mm 2 rfl) l0 ?_
    obtain ⟨M1, e2, h⟩ := bind_so h
    refine ev_new (mm 3 rfl) e2 ?_
    refine ev_dupR (mm 4 rfl) ?_
    obtain ⟨p3, e4, h⟩ := bind_so h
    refine ev_callI_V [] (mm 5 rfl) (by decide) rfl rfl (Nat.le_of_ble_eq_true rfl) (f16_ok e4 (d + 0)) ?_
    obtain ⟨M5, e6, h⟩ := bind_so h
    refine ev_put_R (mm 6 rfl) (fun _ => ⟨rfl, rfl⟩) rfl e6 ?_
    refine ev_aload_nR (mm 7 rfl) l0 ?_
    refine ev_sipush (mm 8 rfl) cS_360 ?_
    obtain ⟨M7, e8, h⟩ := bind_so h
    refine ev_newarray 1 (mm 9 rfl) (by decide) rfl e8 ?_
    obtain ⟨M9, e10, h⟩ := bind_so h
    refine ev_put_R (mm 10 rfl) (fun _ => ⟨rfl, rfl⟩) rfl e10 ?_
    refine ev_aload_nR (mm 11 rfl) l0 ?_
    refine ev_bipush (mm 12 rfl) cB_12 ?_
    obtain ⟨M11, e12, h⟩ := bind_so h
    refine ev_newarray 1 (mm 13 rfl) (by decide) rfl e12 ?_
    obtain ⟨M13, e14, h⟩ := bind_so h
    refine ev_put_R (mm 14 rfl) (fun _ => ⟨rfl, rfl⟩) rfl e14 ?_
    refine ev_aload_nR (mm 15 rfl) l0 ?_
    refine ev_bipush (mm 16 rfl) cB_12 ?_
    obtain ⟨M15, e16, h⟩ := bind_so h
    refine ev_newarray 1 (mm 17 rfl) (by decide) rfl e16 ?_
    obtain ⟨M17, e18, h⟩ := bind_so h
    refine ev_put_R (mm 18 rfl) (fun _ => ⟨rfl, rfl⟩) rfl e18 ?_
    refine ev_aload_nR (mm 19 rfl) l0 ?_
    refine ev_bipush (mm 20 rfl) cB_12 ?_
    obtain ⟨M19, e20, h⟩ := bind_so h
    refine ev_newarray 1 (mm 21 rfl) (by decide) rfl e20 ?_
    obtain ⟨M21, e22, h⟩ := bind_so h
    refine ev_put_R (mm 22 rfl) (fun _ => ⟨rfl, rfl⟩) rfl e22 ?_
    refine ev_aload_nR (mm 23 rfl) l0 ?_
    refine ev_bipush (mm 24 rfl) cB_12 ?_
    obtain ⟨M23, e24, h⟩ := bind_so h
    refine ev_newarray 1 (mm 25 rfl) (by decide) rfl e24 ?_
    obtain ⟨M25, e26, h⟩ := bind_so h
    refine ev_put_R (mm 26 rfl) (fun _ => ⟨rfl, rfl⟩) rfl e26 ?_
    refine ev_aload_nR (mm 27 rfl) l0 ?_
    refine ev_bipush (mm 28 rfl) cB_12 ?_
    obtain ⟨M27, e28, h⟩ := bind_so h
    refine ev_newarray 1 (mm 29 rfl) (by decide) rfl e28 ?_
    obtain ⟨M29, e30, h⟩ := bind_so h
    refine ev_put_R (mm 30 rfl) (fun _ => ⟨rfl, rfl⟩) rfl e30 ?_
    refine ev_aload_nR (mm 31 rfl) l0 ?_
    refine ev_bipush (mm 32 rfl) cB_12 ?_
    obtain ⟨M31, e32, h⟩ := bind_so h
    refine ev_newarray 1 (mm 33 rfl) (by decide) rfl e32 ?_
    obtain ⟨M33, e34, h⟩ := bind_so h
    refine ev_put_R (mm 34 rfl) (fun _ => ⟨rfl, rfl⟩) rfl e34 ?_
    refine ev_aload_nR (mm 35 rfl) l0 ?_
    refine ev_bipush (mm 36 rfl) cB_12 ?_
    obtain ⟨M35, e36, h⟩ := bind_so h
    refine ev_newarray 1 (mm 37 rfl) (by decide) rfl e36 ?_
    obtain ⟨M37, e38, h⟩ := bind_so h
    refine ev_put_R (mm 38 rfl) (fun _ => ⟨rfl, rfl⟩) rfl e38 ?_
    refine ev_aload_nR (mm 39 rfl) l0 ?_
    refine ev_bipush (mm 40 rfl) cB_12 ?_
    obtain ⟨M39, e40, h⟩ := bind_so h
    refine ev_newarray 1 (mm 41 rfl) (by decide) rfl e40 ?_
    obtain ⟨M41, e42, h⟩ := bind_so h
    refine ev_put_R (mm 42 rfl) (fun _ => ⟨rfl, rfl⟩) rfl e42 ?_
    refine ev_aload_nR (mm 43 rfl) l0 ?_
    refine ev_bipush (mm 44 rfl) cB_12 ?_
    obtain ⟨M43, e44, h⟩ := bind_so h
    refine ev_newarray 0 (mm 45 rfl) (by decide) rfl e44 ?_
    obtain ⟨M45, e46, h⟩ := bind_so h
    refine ev_put_R (mm 46 rfl) (fun _ => ⟨rfl, rfl⟩) rfl e46 ?_
    refine ev_aload_nR (mm 47 rfl) l0 ?_
    refine ev_bipush (mm 48 rfl) cB_120 ?_
    obtain ⟨M47, e48, h⟩ := bind_so h
    refine ev_newarray 1 (mm 49 rfl) (by decide) rfl e48 ?_
    obtain ⟨M49, e50, h⟩ := bind_so h
    refine ev_put_R (mm 50 rfl) (fun _ => ⟨rfl, rfl⟩) rfl e50 ?_
    refine ev_aload_nR (mm 51 rfl) l0 ?_
    refine ev_iconst (mm 52 rfl) cI_m1 ?_
    obtain ⟨M51, e52, h⟩ := bind_so h
    refine ev_put_i (mm 53 rfl) (fun z => by cases z) rfl e52 ?_
    refine ev_aload_nR (mm 54 rfl) l0 ?_
    refine ev_iconst (mm 55 rfl) cI_m1 ?_
    obtain ⟨M53, e54, h⟩ := bind_so h
    refine ev_put_i (mm 56 rfl) (fun z => by cases z) rfl e54 ?_
    refine ev_aload_nR (mm 57 rfl) l0 ?_
    refine ev_aload_nR (mm 58 rfl) l1 ?_
    obtain ⟨M55, e56, h⟩ := bind_so h
    refine ev_put_R (mm 59 rfl) (fun _ => ⟨rfl, rfl⟩) rfl e56 ?_
    refine ev_aload_nR (mm 60 rfl) l0 ?_
    refine ev_aload_nR (mm 61 rfl) l2 ?_
    obtain ⟨M57, e58, h⟩ := bind_so h
    refine ev_put_R (mm 62 rfl) (fun _ => ⟨rfl, rfl⟩) rfl e58 ?_
    refine ev_aload_nR (mm 63 rfl) l0 ?_
    refine ev_aload_nR (mm 64 rfl) l3 ?_
    obtain ⟨M59, e60, h⟩ := bind_so h
    refine ev_put_R (mm 65 rfl) (fun _ => ⟨rfl, rfl⟩) rfl e60 ?_
    exact ev_return (mm 66 rfl) h
  exact ⟨by decide, Nat.le_of_ble_eq_true rfl, key.1, key.2⟩
