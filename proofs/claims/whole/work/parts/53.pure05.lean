/-! the methods over Ints, by program (wip/gen_pure.py) -/
def g192_l50 (X1 : Int) (X2 : Int) (X3 : Int) (X4 : Int) (K107 : Int → Int → gM → Option (Int × gM)) : Nat → Int → Int → Int → gM → Option (Int × gM)
  | 0 => fun _ _ _ _ => none
  | n + 1 => fun X5 X6 X7 S =>
    if X7 < 0 then
      K107 X5 X6 S
    else
      if ¬ X6 = (-1) then
        K107 X5 X6 S
      else
        w_lt (gi S 55 0) fun V12 =>
        (g126 X1 X7 X2 V12 S).bind fun p13 =>
        if ¬ p13.1 = (-1) then
          if ¬ X5 = (-1) then
            w_ckI (X7 + (-1)) fun V16 =>
            g192_l50 X1 X2 X3 X4 K107 n X5 p13.1 V16 p13.2
          else
            w_ckI (X7 + (-1)) fun V17 =>
            g192_l50 X1 X2 X3 X4 K107 n p13.1 X6 V17 p13.2
        else
          w_ckI (X7 + (-1)) fun V18 =>
          g192_l50 X1 X2 X3 X4 K107 n X5 X6 V18 p13.2
theorem g192_l50_ok {x1 : Int32} {X1 : Int} {x2 : Int32} {X2 : Int} {x3 : Int32} {X3 : Int} {x4 : Int32} {X4 : Int} {k107 : Int32 → Int32 → vm_M → Option (Int32 × vm_M)} {K107 : Int → Int → gM → Option (Int × gM)} {r : Int × gM} (hk107 : ∀ (y5 : Int32) (Y5 : Int) (y6 : Int32) (Y6 : Int) (S : gM) (M : vm_M), Rel S M → y5.toInt = Y5 → y6.toInt = Y6 → K107 Y5 Y6 S = some r → Mp gRI (k107 y5 y6 M) r) (t1 : x1.toInt = X1) (t2 : x2.toInt = X2) (t3 : x3.toInt = X3) (t4 : x4.toInt = X4) : ∀ (n : Nat) (x5 : Int32) (X5 : Int) (x6 : Int32) (X6 : Int) (x7 : Int32) (X7 : Int) (S : gM) (M : vm_M), Rel S M → x5.toInt = X5 → x6.toInt = X6 → x7.toInt = X7 → g192_l50 X1 X2 X3 X4 K107 n X5 X6 X7 S = some r → Mp gRI (f192_l50 55 x1 x2 x3 x4 k107 n x5 x6 x7 M) r := by
  intro n
  induction n with
  | zero =>
    intro x5 X5 x6 X6 x7 X7 S M hR t5 t6 t7 h
    cases h
  | succ n ih =>
    intro x5 X5 x6 X6 x7 X7 S M hR t5 t6 t7 h
    dsimp only [g192_l50] at h
    dsimp only [f192_l50]
    refine k_ite (c_lt t7 tI_0) h (fun c10 h => ?_) (fun c10 h => ?_)
    · exact hk107 _ _ _ _ _ _ hR t5 t6 h
    · refine k_ite (c_ne t6 tI_m1) h (fun c11 h => ?_) (fun c11 h => ?_)
      · exact hk107 _ _ _ _ _ _ hR t5 t6 h
      · obtain ⟨V12, e12, h⟩ := lt_so h
        refine k_gi hR (hR.obF (by decide) rfl) rfl e12 (fun v12 z12 => ?_)
        refine k_ob (hR.obF (by decide) rfl) ?_
        obtain ⟨p13, e13, h⟩ := bind_so h
        refine k_call (g126_ok hR t1 t7 t2 z12 e13) (fun b13 R13 => ?_)
        refine k_ite (c_ne R13.1 tI_m1) h (fun c14 h => ?_) (fun c14 h => ?_)
        · refine k_ite (c_ne t5 tI_m1) h (fun c15 h => ?_) (fun c15 h => ?_)
          · obtain ⟨V16, e16, c16, h⟩ := ckI_so h
            exact ih _ _ _ _ _ _ _ _ R13.2 t5 R13.1 (t_add t7 tI_m1 c16 e16) h
          · obtain ⟨V17, e17, c17, h⟩ := ckI_so h
            exact ih _ _ _ _ _ _ _ _ R13.2 R13.1 t6 (t_add t7 tI_m1 c17 e17) h
        · obtain ⟨V18, e18, c18, h⟩ := ckI_so h
          exact ih _ _ _ _ _ _ _ _ R13.2 t5 t6 (t_add t7 tI_m1 c18 e18) h
def g192_j107 (X3 : Int) (X4 : Int) (X5 : Int) (X6 : Int) (S : gM) : Option (Int × gM) :=
  if ¬ X6 = (-1) then
    w_ckI (X5 - X6) fun V23 =>
    w_ckI (X3 * V23) fun V24 =>
    w_ckI (X5 + V24) fun V25 =>
    w_ckI (X5 - X6) fun V26 =>
    w_ckI (V26.natAbs : Int) fun V27 =>
    w_ckI (X3 * V27) fun V28 =>
    if ¬ X4 = 0 then
      if ¬ X4 = 1 then
        w_ckI (V25 + V28) fun V31 =>
        w_lt (max 0 V31) fun V32 =>
        some (V32, S)
      else
        w_ckI (V25 - V28) fun V33 =>
        w_lt (max 0 V33) fun V34 =>
        some (V34, S)
    else
      w_lt (max 0 V25) fun V35 =>
      some (V35, S)
  else
    some ((-1), S)
theorem g192_j107_ok {x3 : Int32} {X3 : Int} {x4 : Int32} {X4 : Int} {x5 : Int32} {X5 : Int} {x6 : Int32} {X6 : Int} {S : gM} {M : vm_M} {r : Int × gM} (hR : Rel S M) (t3 : x3.toInt = X3) (t4 : x4.toInt = X4) (t5 : x5.toInt = X5) (t6 : x6.toInt = X6) (h : g192_j107 X3 X4 X5 X6 S = some r) : Mp gRI (f192_j107 x3 x4 x5 x6 M) r := by
  unfold g192_j107 at h
  unfold f192_j107
  refine k_ite (c_ne t6 tI_m1) h (fun c22 h => ?_) (fun c22 h => ?_)
  · obtain ⟨V23, e23, c23, h⟩ := ckI_so h
    obtain ⟨V24, e24, c24, h⟩ := ckI_so h
    obtain ⟨V25, e25, c25, h⟩ := ckI_so h
    obtain ⟨V26, e26, c26, h⟩ := ckI_so h
    obtain ⟨V27, e27, c27, h⟩ := ckI_so h
    obtain ⟨V28, e28, c28, h⟩ := ckI_so h
    refine k_ite (c_ne t4 tI_0) h (fun c29 h => ?_) (fun c29 h => ?_)
    · refine k_ite (c_ne t4 tI_1) h (fun c30 h => ?_) (fun c30 h => ?_)
      · obtain ⟨V31, e31, c31, h⟩ := ckI_so h
        obtain ⟨V32, e32, h⟩ := lt_so h
        exact k_retI hR (t_mxI tI_0 (t_add (t_add t5 (t_mul t3 (t_sub t5 t6 c23 e23) c24 e24) c25 e25) (t_mul t3 (t_abI (t_sub t5 t6 c26 e26) c27 e27) c28 e28) c31 e31) e32) h
      · obtain ⟨V33, e33, c33, h⟩ := ckI_so h
        obtain ⟨V34, e34, h⟩ := lt_so h
        exact k_retI hR (t_mxI tI_0 (t_sub (t_add t5 (t_mul t3 (t_sub t5 t6 c23 e23) c24 e24) c25 e25) (t_mul t3 (t_abI (t_sub t5 t6 c26 e26) c27 e27) c28 e28) c33 e33) e34) h
    · obtain ⟨V35, e35, h⟩ := lt_so h
      exact k_retI hR (t_mxI tI_0 (t_add t5 (t_mul t3 (t_sub t5 t6 c23 e23) c24 e24) c25 e25) e35) h
  · exact k_retI hR tI_m1 h
/-- PupilCoinModel.foretold(IIII)I -/
def g192 (X1 : Int) (X2 : Int) (X3 : Int) (X4 : Int) (S : gM) : Option (Int × gM) :=
  (g116 X1 S).bind fun p1 =>
  if p1.1 = 0 then
    some ((-1), p1.2)
  else
    (g112 X2 0 2 p1.2).bind fun p3 =>
    if p3.1 = 0 then
      some ((-1), p3.2)
    else
      (g112 X3 1 5 p3.2).bind fun p5 =>
      if p5.1 = 0 then
        some ((-1), p5.2)
      else
        (g112 X4 0 2 p5.2).bind fun p7 =>
        if ¬ p7.1 = 0 then
          (g118 p7.2).bind fun p9 =>
          g192_l50 X1 X2 X3 X4
            (fun Y19 Y20 S21 =>
              g192_j107 X3 X4 Y19 Y20 S21)
            100000 (-1) (-1) p9.1 p9.2
        else
          some ((-1), p7.2)
theorem g192_ok {x1 : Int32} {X1 : Int} {x2 : Int32} {X2 : Int} {x3 : Int32} {X3 : Int} {x4 : Int32} {X4 : Int} {S : gM} {M : vm_M} {r : Int × gM} (hR : Rel S M) (t1 : x1.toInt = X1) (t2 : x2.toInt = X2) (t3 : x3.toInt = X3) (t4 : x4.toInt = X4) (h : g192 X1 X2 X3 X4 S = some r) : Mp gRI (f192 55 x1 x2 x3 x4 M) r := by
  unfold g192 at h
  unfold f192
  refine k_ob (hR.obF (by decide) rfl) ?_
  obtain ⟨p1, e1, h⟩ := bind_so h
  refine k_call (g116_ok hR t1 e1) (fun b1 R1 => ?_)
  refine k_ite (c_eq R1.1 tI_0) h (fun c2 h => ?_) (fun c2 h => ?_)
  · exact k_retI R1.2 tI_m1 h
  · obtain ⟨p3, e3, h⟩ := bind_so h
    refine k_call (g112_ok R1.2 t2 tI_0 tI_2 e3) (fun b3 R3 => ?_)
    refine k_ite (c_eq R3.1 tI_0) h (fun c4 h => ?_) (fun c4 h => ?_)
    · exact k_retI R3.2 tI_m1 h
    · obtain ⟨p5, e5, h⟩ := bind_so h
      refine k_call (g112_ok R3.2 t3 tI_1 tI_5 e5) (fun b5 R5 => ?_)
      refine k_ite (c_eq R5.1 tI_0) h (fun c6 h => ?_) (fun c6 h => ?_)
      · exact k_retI R5.2 tI_m1 h
      · obtain ⟨p7, e7, h⟩ := bind_so h
        refine k_call (g112_ok R5.2 t4 tI_0 tI_2 e7) (fun b7 R7 => ?_)
        refine k_ite (c_ne R7.1 tI_0) h (fun c8 h => ?_) (fun c8 h => ?_)
        · refine k_ob (R7.2.obF (by decide) rfl) ?_
          obtain ⟨p9, e9, h⟩ := bind_so h
          refine k_call (g118_ok R7.2 e9) (fun b9 R9 => ?_)
          refine g192_l50_ok ?_ t1 t2 t3 t4 100000 _ _ _ _ _ _ _ _ R9.2 tI_m1 tI_m1 R9.1 h
          · intro y19 Y19 y20 Y20 S21 M21 R21 u19 u20
            intro h
            exact g192_j107_ok R21 t3 t4 u19 u20 h
        · exact k_retI R7.2 tI_m1 h
def g193_j57 (K80 : Int → Int → gM → Option (Int × gM)) (K7 : Int → Int → Int → gM → Option (Int × gM)) (X1 : Int) (X3 : Int) (X4 : Int) (X5 : Int) (Xs0 : Int) (Xs1 : Int) (S : gM) : Option (Int × gM) :=
  w_ckI (Xs0 + Xs1) fun V6 =>
  if ¬ X3 = 0 then
    w_ckI (X4 + 1) fun V8 =>
    K7 V6 1 V8 S
  else
    if ¬ X5 = 0 then
      w_ckI (X4 + 1) fun V10 =>
      K7 V6 0 V10 S
    else
      w_ckI (X4 + 1) fun V11 =>
      K7 V6 1 V11 S
theorem g193_j57_ok {k80 : Int32 → Int32 → vm_M → Option (Int32 × vm_M)} {K80 : Int → Int → gM → Option (Int × gM)} {k7 : Int32 → Int32 → Int32 → vm_M → Option (Int32 × vm_M)} {K7 : Int → Int → Int → gM → Option (Int × gM)} {x1 : Int32} {X1 : Int} {x3 : Int32} {X3 : Int} {x4 : Int32} {X4 : Int} {x5 : Int32} {X5 : Int} {xs0 : Int32} {Xs0 : Int} {xs1 : Int32} {Xs1 : Int} {S : gM} {M : vm_M} {r : Int × gM} (hk80 : ∀ (y2 : Int32) (Y2 : Int) (y3 : Int32) (Y3 : Int) (S : gM) (M : vm_M), Rel S M → y2.toInt = Y2 → y3.toInt = Y3 → K80 Y2 Y3 S = some r → Mp gRI (k80 y2 y3 M) r) (hk7 : ∀ (y2 : Int32) (Y2 : Int) (y3 : Int32) (Y3 : Int) (y4 : Int32) (Y4 : Int) (S : gM) (M : vm_M), Rel S M → y2.toInt = Y2 → y3.toInt = Y3 → y4.toInt = Y4 → K7 Y2 Y3 Y4 S = some r → Mp gRI (k7 y2 y3 y4 M) r) (hR : Rel S M) (t1 : x1.toInt = X1) (t3 : x3.toInt = X3) (t4 : x4.toInt = X4) (t5 : x5.toInt = X5) (ts0 : xs0.toInt = Xs0) (ts1 : xs1.toInt = Xs1) (h : g193_j57 K80 K7 X1 X3 X4 X5 Xs0 Xs1 S = some r) : Mp gRI (f193_j57 k80 k7 55 x1 x3 x4 x5 xs0 xs1 M) r := by
  unfold g193_j57 at h
  unfold f193_j57
  obtain ⟨V6, e6, c6, h⟩ := ckI_so h
  refine k_ite (c_ne t3 tI_0) h (fun c7 h => ?_) (fun c7 h => ?_)
  · obtain ⟨V8, e8, c8, h⟩ := ckI_so h
    exact hk7 _ _ _ _ _ _ _ _ hR (t_add ts0 ts1 c6 e6) tI_1 (t_add t4 tI_1 c8 e8) h
  · refine k_ite (c_ne t5 tI_0) h (fun c9 h => ?_) (fun c9 h => ?_)
    · obtain ⟨V10, e10, c10, h⟩ := ckI_so h
      exact hk7 _ _ _ _ _ _ _ _ hR (t_add ts0 ts1 c6 e6) tI_0 (t_add t4 tI_1 c10 e10) h
    · obtain ⟨V11, e11, c11, h⟩ := ckI_so h
      exact hk7 _ _ _ _ _ _ _ _ hR (t_add ts0 ts1 c6 e6) tI_1 (t_add t4 tI_1 c11 e11) h
def g193_j38 (K80 : Int → Int → gM → Option (Int × gM)) (K7 : Int → Int → Int → gM → Option (Int × gM)) (X1 : Int) (X2 : Int) (X3 : Int) (X4 : Int) (Xs0 : Int) (S : gM) : Option (Int × gM) :=
  if Xs0 = 0 then
    g193_j57 K80 K7 X1 X3 X4 Xs0 X2 0 S
  else
    w_chk ((0 : Int) ≤ X4 ∧ X4 < 6) <|
    w_lt (gi S 102 X4) fun V13 =>
    g193_j57 K80 K7 X1 X3 X4 Xs0 X2 V13 S
theorem g193_j38_ok {k80 : Int32 → Int32 → vm_M → Option (Int32 × vm_M)} {K80 : Int → Int → gM → Option (Int × gM)} {k7 : Int32 → Int32 → Int32 → vm_M → Option (Int32 × vm_M)} {K7 : Int → Int → Int → gM → Option (Int × gM)} {x1 : Int32} {X1 : Int} {x2 : Int32} {X2 : Int} {x3 : Int32} {X3 : Int} {x4 : Int32} {X4 : Int} {xs0 : Int32} {Xs0 : Int} {S : gM} {M : vm_M} {r : Int × gM} (hk80 : ∀ (y2 : Int32) (Y2 : Int) (y3 : Int32) (Y3 : Int) (S : gM) (M : vm_M), Rel S M → y2.toInt = Y2 → y3.toInt = Y3 → K80 Y2 Y3 S = some r → Mp gRI (k80 y2 y3 M) r) (hk7 : ∀ (y2 : Int32) (Y2 : Int) (y3 : Int32) (Y3 : Int) (y4 : Int32) (Y4 : Int) (S : gM) (M : vm_M), Rel S M → y2.toInt = Y2 → y3.toInt = Y3 → y4.toInt = Y4 → K7 Y2 Y3 Y4 S = some r → Mp gRI (k7 y2 y3 y4 M) r) (hR : Rel S M) (t1 : x1.toInt = X1) (t2 : x2.toInt = X2) (t3 : x3.toInt = X3) (t4 : x4.toInt = X4) (ts0 : xs0.toInt = Xs0) (h : g193_j38 K80 K7 X1 X2 X3 X4 Xs0 S = some r) : Mp gRI (f193_j38 k80 k7 55 x1 x2 x3 x4 xs0 M) r := by
  unfold g193_j38 at h
  unfold f193_j38
  refine k_ite (c_eq ts0 tI_0) h (fun c5 h => ?_) (fun c5 h => ?_)
  · exact g193_j57_ok hk80 hk7 hR t1 t3 t4 ts0 t2 tI_0 h
  · refine k_grF 103 hR (hR.obF (by decide) rfl) rfl ?_
    refine k_some ?_
    obtain ⟨c12, h⟩ := chk_so h
    obtain ⟨V13, e13, h⟩ := lt_so h
    refine k_ai hR (hR.lnF (by decide) rfl) rfl t4 c12 e13 (fun v13 z13 => ?_)
    exact g193_j57_ok hk80 hk7 hR t1 t3 t4 ts0 t2 z13 h
def g193_j37 (K80 : Int → Int → gM → Option (Int × gM)) (K7 : Int → Int → Int → gM → Option (Int × gM)) (X1 : Int) (X2 : Int) (X3 : Int) (X4 : Int) (S : gM) : Option (Int × gM) :=
  g193_j38 K80 K7 X1 X2 X3 X4 0 S
theorem g193_j37_ok {k80 : Int32 → Int32 → vm_M → Option (Int32 × vm_M)} {K80 : Int → Int → gM → Option (Int × gM)} {k7 : Int32 → Int32 → Int32 → vm_M → Option (Int32 × vm_M)} {K7 : Int → Int → Int → gM → Option (Int × gM)} {x1 : Int32} {X1 : Int} {x2 : Int32} {X2 : Int} {x3 : Int32} {X3 : Int} {x4 : Int32} {X4 : Int} {S : gM} {M : vm_M} {r : Int × gM} (hk80 : ∀ (y2 : Int32) (Y2 : Int) (y3 : Int32) (Y3 : Int) (S : gM) (M : vm_M), Rel S M → y2.toInt = Y2 → y3.toInt = Y3 → K80 Y2 Y3 S = some r → Mp gRI (k80 y2 y3 M) r) (hk7 : ∀ (y2 : Int32) (Y2 : Int) (y3 : Int32) (Y3 : Int) (y4 : Int32) (Y4 : Int) (S : gM) (M : vm_M), Rel S M → y2.toInt = Y2 → y3.toInt = Y3 → y4.toInt = Y4 → K7 Y2 Y3 Y4 S = some r → Mp gRI (k7 y2 y3 y4 M) r) (hR : Rel S M) (t1 : x1.toInt = X1) (t2 : x2.toInt = X2) (t3 : x3.toInt = X3) (t4 : x4.toInt = X4) (h : g193_j37 K80 K7 X1 X2 X3 X4 S = some r) : Mp gRI (f193_j37 k80 k7 55 x1 x2 x3 x4 M) r := by
  unfold g193_j37 at h
  unfold f193_j37
  exact g193_j38_ok hk80 hk7 hR t1 t2 t3 t4 tI_0 h
def g193_l7 (X1 : Int) (K80 : Int → Int → gM → Option (Int × gM)) : Nat → Int → Int → Int → gM → Option (Int × gM)
  | 0 => fun _ _ _ _ => none
  | n + 1 => fun X2 X3 X4 S =>
    if 3 ≤ X4 then
      K80 X2 X3 S
    else
      w_lt (b_shr X1 X4) fun V2 =>
      w_lt (b_and V2 1) fun V3 =>
      if ¬ V3 = 0 then
        g193_j37 K80 (g193_l7 X1 K80 n) X1 X2 X3 X4 S
      else
        w_chk ((0 : Int) ≤ X4 ∧ X4 < 6) <|
        w_lt (gi S 102 X4) fun V15 =>
        if V15 = (-1) then
          g193_j37 K80 (g193_l7 X1 K80 n) X1 X2 X3 X4 S
        else
          g193_j38 K80 (g193_l7 X1 K80 n) X1 X2 X3 X4 1 S
theorem g193_l7_ok {x1 : Int32} {X1 : Int} {k80 : Int32 → Int32 → vm_M → Option (Int32 × vm_M)} {K80 : Int → Int → gM → Option (Int × gM)} {r : Int × gM} (hk80 : ∀ (y2 : Int32) (Y2 : Int) (y3 : Int32) (Y3 : Int) (S : gM) (M : vm_M), Rel S M → y2.toInt = Y2 → y3.toInt = Y3 → K80 Y2 Y3 S = some r → Mp gRI (k80 y2 y3 M) r) (t1 : x1.toInt = X1) : ∀ (n : Nat) (x2 : Int32) (X2 : Int) (x3 : Int32) (X3 : Int) (x4 : Int32) (X4 : Int) (S : gM) (M : vm_M), Rel S M → x2.toInt = X2 → x3.toInt = X3 → x4.toInt = X4 → g193_l7 X1 K80 n X2 X3 X4 S = some r → Mp gRI (f193_l7 55 x1 k80 n x2 x3 x4 M) r := by
  intro n
  induction n with
  | zero =>
    intro x2 X2 x3 X3 x4 X4 S M hR t2 t3 t4 h
    cases h
  | succ n ih =>
    intro x2 X2 x3 X3 x4 X4 S M hR t2 t3 t4 h
    dsimp only [g193_l7] at h
    dsimp only [f193_l7]
    refine k_ite (c_le tI_3 t4) h (fun c1 h => ?_) (fun c1 h => ?_)
    · exact hk80 _ _ _ _ _ _ hR t2 t3 h
    · obtain ⟨V2, e2, h⟩ := lt_so h
      obtain ⟨V3, e3, h⟩ := lt_so h
      refine k_ite (c_ne (t_and (t_shr t1 t4 e2) tI_1 e3) tI_0) h (fun c4 h => ?_) (fun c4 h => ?_)
      · exact g193_j37_ok hk80 ih hR t1 t2 t3 t4 h
      · refine k_grF 103 hR (hR.obF (by decide) rfl) rfl ?_
        refine k_some ?_
        obtain ⟨c14, h⟩ := chk_so h
        obtain ⟨V15, e15, h⟩ := lt_so h
        refine k_ai hR (hR.lnF (by decide) rfl) rfl t4 c14 e15 (fun v15 z15 => ?_)
        refine k_ite (c_eq z15 tI_m1) h (fun c16 h => ?_) (fun c16 h => ?_)
        · exact g193_j37_ok hk80 ih hR t1 t2 t3 t4 h
        · exact g193_j38_ok hk80 ih hR t1 t2 t3 t4 tI_1 h
def g193_j187 (X4 : Int) (X5 : Int) (X6 : Int) (S : gM) : Option (Int × gM) :=
  if X6 < X4 then
    some (0, S)
  else
    if X6 < X5 then
      some (0, S)
    else
      some (1, S)
theorem g193_j187_ok {x4 : Int32} {X4 : Int} {x5 : Int32} {X5 : Int} {x6 : Int32} {X6 : Int} {S : gM} {M : vm_M} {r : Int × gM} (hR : Rel S M) (t4 : x4.toInt = X4) (t5 : x5.toInt = X5) (t6 : x6.toInt = X6) (h : g193_j187 X4 X5 X6 S = some r) : Mp gRI (f193_j187 x4 x5 x6 M) r := by
  unfold g193_j187 at h
  unfold f193_j187
  refine k_ite (c_lt t6 t4) h (fun c32 h => ?_) (fun c32 h => ?_)
  · exact k_retZ hR tI_0 (by decide) h
  · refine k_ite (c_lt t6 t5) h (fun c33 h => ?_) (fun c33 h => ?_)
    · exact k_retZ hR tI_0 (by decide) h
    · exact k_retZ hR tI_1 (by decide) h
def g193_j138 (X2 : Int) (X3 : Int) (X4 : Int) (X5 : Int) (Xs0 : Int) (S : gM) : Option (Int × gM) :=
  if ¬ Xs0 = (-1) then
    if X3 = 0 then
      if ¬ X2 = Xs0 then
        some (0, S)
      else
        g193_j187 X4 X5 Xs0 S
    else
      if Xs0 < X2 then
        some (0, S)
      else
        g193_j187 X4 X5 Xs0 S
  else
    if ¬ X3 = 0 then
      some (1, S)
    else
      if X2 < X4 then
        some (0, S)
      else
        if X2 < X5 then
          some (0, S)
        else
          some (1, S)
theorem g193_j138_ok {x2 : Int32} {X2 : Int} {x3 : Int32} {X3 : Int} {x4 : Int32} {X4 : Int} {x5 : Int32} {X5 : Int} {xs0 : Int32} {Xs0 : Int} {S : gM} {M : vm_M} {r : Int × gM} (hR : Rel S M) (t2 : x2.toInt = X2) (t3 : x3.toInt = X3) (t4 : x4.toInt = X4) (t5 : x5.toInt = X5) (ts0 : xs0.toInt = Xs0) (h : g193_j138 X2 X3 X4 X5 Xs0 S = some r) : Mp gRI (f193_j138 x2 x3 x4 x5 xs0 M) r := by
  unfold g193_j138 at h
  unfold f193_j138
  refine k_ite (c_ne ts0 tI_m1) h (fun c29 h => ?_) (fun c29 h => ?_)
  · refine k_ite (c_eq t3 tI_0) h (fun c30 h => ?_) (fun c30 h => ?_)
    · refine k_ite (c_ne t2 ts0) h (fun c31 h => ?_) (fun c31 h => ?_)
      · exact k_retZ hR tI_0 (by decide) h
      · exact g193_j187_ok hR t4 t5 ts0 h
    · refine k_ite (c_lt ts0 t2) h (fun c34 h => ?_) (fun c34 h => ?_)
      · exact k_retZ hR tI_0 (by decide) h
      · exact g193_j187_ok hR t4 t5 ts0 h
  · refine k_ite (c_ne t3 tI_0) h (fun c35 h => ?_) (fun c35 h => ?_)
    · exact k_retZ hR tI_1 (by decide) h
    · refine k_ite (c_lt t2 t4) h (fun c36 h => ?_) (fun c36 h => ?_)
      · exact k_retZ hR tI_0 (by decide) h
      · refine k_ite (c_lt t2 t5) h (fun c37 h => ?_) (fun c37 h => ?_)
        · exact k_retZ hR tI_0 (by decide) h
        · exact k_retZ hR tI_1 (by decide) h
def g193_j118 (X1 : Int) (X2 : Int) (X3 : Int) (X4 : Int) (Xs0 : Int) (S : gM) : Option (Int × gM) :=
  w_lt (b_shr X1 5) fun V26 =>
  w_lt (b_and V26 1) fun V27 =>
  if ¬ V27 = 0 then
    g193_j138 X2 X3 X4 Xs0 (-1) S
  else
    w_lt (gi S 102 5) fun V38 =>
    g193_j138 X2 X3 X4 Xs0 V38 S
theorem g193_j118_ok {x1 : Int32} {X1 : Int} {x2 : Int32} {X2 : Int} {x3 : Int32} {X3 : Int} {x4 : Int32} {X4 : Int} {xs0 : Int32} {Xs0 : Int} {S : gM} {M : vm_M} {r : Int × gM} (hR : Rel S M) (t1 : x1.toInt = X1) (t2 : x2.toInt = X2) (t3 : x3.toInt = X3) (t4 : x4.toInt = X4) (ts0 : xs0.toInt = Xs0) (h : g193_j118 X1 X2 X3 X4 Xs0 S = some r) : Mp gRI (f193_j118 55 x1 x2 x3 x4 xs0 M) r := by
  unfold g193_j118 at h
  unfold f193_j118
  obtain ⟨V26, e26, h⟩ := lt_so h
  obtain ⟨V27, e27, h⟩ := lt_so h
  refine k_ite (c_ne (t_and (t_shr t1 tI_5 e26) tI_1 e27) tI_0) h (fun c28 h => ?_) (fun c28 h => ?_)
  · exact g193_j138_ok hR t2 t3 t4 ts0 tI_m1 h
  · refine k_grF 103 hR (hR.obF (by decide) rfl) rfl ?_
    refine k_some ?_
    obtain ⟨V38, e38, h⟩ := lt_so h
    refine k_ai hR (hR.lnF (by decide) rfl) rfl tI_5 (by decide) e38 (fun v38 z38 => ?_)
    exact g193_j138_ok hR t2 t3 t4 ts0 z38 h
def g193_j98 (X1 : Int) (X2 : Int) (X3 : Int) (Xs0 : Int) (S : gM) : Option (Int × gM) :=
  w_lt (b_shr X1 4) fun V23 =>
  w_lt (b_and V23 1) fun V24 =>
  if ¬ V24 = 0 then
    g193_j118 X1 X2 X3 Xs0 (-1) S
  else
    w_lt (gi S 102 4) fun V39 =>
    g193_j118 X1 X2 X3 Xs0 V39 S
theorem g193_j98_ok {x1 : Int32} {X1 : Int} {x2 : Int32} {X2 : Int} {x3 : Int32} {X3 : Int} {xs0 : Int32} {Xs0 : Int} {S : gM} {M : vm_M} {r : Int × gM} (hR : Rel S M) (t1 : x1.toInt = X1) (t2 : x2.toInt = X2) (t3 : x3.toInt = X3) (ts0 : xs0.toInt = Xs0) (h : g193_j98 X1 X2 X3 Xs0 S = some r) : Mp gRI (f193_j98 55 x1 x2 x3 xs0 M) r := by
  unfold g193_j98 at h
  unfold f193_j98
  obtain ⟨V23, e23, h⟩ := lt_so h
  obtain ⟨V24, e24, h⟩ := lt_so h
  refine k_ite (c_ne (t_and (t_shr t1 tI_4 e23) tI_1 e24) tI_0) h (fun c25 h => ?_) (fun c25 h => ?_)
  · exact g193_j118_ok hR t1 t2 t3 ts0 tI_m1 h
  · refine k_grF 103 hR (hR.obF (by decide) rfl) rfl ?_
    refine k_some ?_
    obtain ⟨V39, e39, h⟩ := lt_so h
    refine k_ai hR (hR.lnF (by decide) rfl) rfl tI_4 (by decide) e39 (fun v39 z39 => ?_)
    exact g193_j118_ok hR t1 t2 t3 ts0 z39 h
/-- PupilCoinModel.canBe(I)Z -/
def g193 (X1 : Int) (S : gM) : Option (Int × gM) :=
  g193_l7 X1
    (fun Y17 Y18 S19 =>
      w_lt (b_shr X1 3) fun V20 =>
      w_lt (b_and V20 1) fun V21 =>
      if ¬ V21 = 0 then
        g193_j98 X1 Y17 Y18 (-1) S19
      else
        w_lt (gi S19 102 3) fun V40 =>
        g193_j98 X1 Y17 Y18 V40 S19)
    100000 0 0 0 S
theorem g193_ok {x1 : Int32} {X1 : Int} {S : gM} {M : vm_M} {r : Int × gM} (hR : Rel S M) (t1 : x1.toInt = X1) (h : g193 X1 S = some r) : Mp gRI (f193 55 x1 M) r := by
  unfold g193 at h
  unfold f193
  refine g193_l7_ok ?_ t1 100000 _ _ _ _ _ _ _ _ hR tI_0 tI_0 tI_0 h
  · intro y17 Y17 y18 Y18 S19 M19 R19 u17 u18
    intro h
    obtain ⟨V20, e20, h⟩ := lt_so h
    obtain ⟨V21, e21, h⟩ := lt_so h
    refine k_ite (c_ne (t_and (t_shr t1 tI_3 e20) tI_1 e21) tI_0) h (fun c22 h => ?_) (fun c22 h => ?_)
    · exact g193_j98_ok R19 t1 u17 u18 tI_m1 h
    · refine k_grF 103 R19 (R19.obF (by decide) rfl) rfl ?_
      refine k_some ?_
      obtain ⟨V40, e40, h⟩ := lt_so h
      refine k_ai R19 (R19.lnF (by decide) rfl) rfl tI_3 (by decide) e40 (fun v40 z40 => ?_)
      exact g193_j98_ok R19 t1 u17 u18 z40 h
def g194_l4 : Nat → Int → Int → gM → Option (Int × gM)
  | 0 => fun _ _ _ => none
  | n + 1 => fun X1 X2 S =>
    if X2 ≤ 0 then
      some (X1, S)
    else
      w_lt (b_and X2 1) fun V2 =>
      w_ckI (X1 + V2) fun V3 =>
      w_lt (b_shr X2 1) fun V4 =>
      g194_l4 n V3 V4 S
theorem g194_l4_ok {r : Int × gM} : ∀ (n : Nat) (x1 : Int32) (X1 : Int) (x2 : Int32) (X2 : Int) (S : gM) (M : vm_M), Rel S M → x1.toInt = X1 → x2.toInt = X2 → g194_l4 n X1 X2 S = some r → Mp gRI (f194_l4 n x1 x2 M) r := by
  intro n
  induction n with
  | zero =>
    intro x1 X1 x2 X2 S M hR t1 t2 h
    cases h
  | succ n ih =>
    intro x1 X1 x2 X2 S M hR t1 t2 h
    dsimp only [g194_l4] at h
    dsimp only [f194_l4]
    refine k_ite (c_le t2 tI_0) h (fun c1 h => ?_) (fun c1 h => ?_)
    · exact k_retI hR t1 h
    · obtain ⟨V2, e2, h⟩ := lt_so h
      obtain ⟨V3, e3, c3, h⟩ := ckI_so h
      obtain ⟨V4, e4, h⟩ := lt_so h
      exact ih _ _ _ _ _ _ hR (t_add t1 (t_and t2 tI_1 e2) c3 e3) (t_shr t2 tI_1 e4) h
/-- PupilCoinModel.bits(I)I -/
def g194 (X0 : Int) (S : gM) : Option (Int × gM) :=
  g194_l4
  
    100000 0 X0 S
theorem g194_ok {x0 : Int32} {X0 : Int} {S : gM} {M : vm_M} {r : Int × gM} (hR : Rel S M) (t0 : x0.toInt = X0) (h : g194 X0 S = some r) : Mp gRI (f194 x0 M) r := by
  unfold g194 at h
  unfold f194
  refine g194_l4_ok 100000 _ _ _ _ _ _ hR tI_0 t0 h
def g195_l22 (X1 : Int) (X2 : Int) (K76 : Int → gM → Option (Int × gM)) : Nat → Int → Int → gM → Option (Int × gM)
  | 0 => fun _ _ _ => none
  | n + 1 => fun X3 X4 S =>
    if 6 ≤ X4 then
      K76 X3 S
    else
      w_lt (gi S 55 0) fun V6 =>
      (g126 X1 X2 X4 V6 S).bind fun p7 =>
      w_chk ((0 : Int) ≤ X4 ∧ X4 < 6) <|
      w_lt (wi p7.2 102 X4 p7.1) fun S9 =>
      w_chk ((0 : Int) ≤ X4 ∧ X4 < 6) <|
      w_lt (gi S9 102 X4) fun V11 =>
      if ¬ V11 = (-1) then
        w_lt (b_shl 1 X4) fun V13 =>
        w_lt (b_or X3 V13) fun V14 =>
        w_ckI (X4 + 1) fun V15 =>
        g195_l22 X1 X2 K76 n V14 V15 S9
      else
        w_lt (b_or X3 0) fun V16 =>
        w_ckI (X4 + 1) fun V17 =>
        g195_l22 X1 X2 K76 n V16 V17 S9
theorem g195_l22_ok {x1 : Int32} {X1 : Int} {x2 : Int32} {X2 : Int} {k76 : Int32 → vm_M → Option (Int32 × vm_M)} {K76 : Int → gM → Option (Int × gM)} {r : Int × gM} (hk76 : ∀ (y3 : Int32) (Y3 : Int) (S : gM) (M : vm_M), Rel S M → y3.toInt = Y3 → K76 Y3 S = some r → Mp gRI (k76 y3 M) r) (t1 : x1.toInt = X1) (t2 : x2.toInt = X2) : ∀ (n : Nat) (x3 : Int32) (X3 : Int) (x4 : Int32) (X4 : Int) (S : gM) (M : vm_M), Rel S M → x3.toInt = X3 → x4.toInt = X4 → g195_l22 X1 X2 K76 n X3 X4 S = some r → Mp gRI (f195_l22 55 x1 x2 k76 n x3 x4 M) r := by
  intro n
  induction n with
  | zero =>
    intro x3 X3 x4 X4 S M hR t3 t4 h
    cases h
  | succ n ih =>
    intro x3 X3 x4 X4 S M hR t3 t4 h
    dsimp only [g195_l22] at h
    dsimp only [f195_l22]
    refine k_ite (c_le tI_6 t4) h (fun c5 h => ?_) (fun c5 h => ?_)
    · exact hk76 _ _ _ _ hR t3 h
    · refine k_grF 103 hR (hR.obF (by decide) rfl) rfl ?_
      obtain ⟨V6, e6, h⟩ := lt_so h
      refine k_gi hR (hR.obF (by decide) rfl) rfl e6 (fun v6 z6 => ?_)
      refine k_ob (hR.obF (by decide) rfl) ?_
      obtain ⟨p7, e7, h⟩ := bind_so h
      refine k_call (g126_ok hR t1 t2 t4 z6 e7) (fun b7 R7 => ?_)
      refine k_some ?_
      obtain ⟨c8, h⟩ := chk_so h
      obtain ⟨S9, e9, h⟩ := lt_so h
      refine k_si R7.2 (R7.2.lnF (by decide) rfl) rfl t4 c8 R7.1 e9 (fun M9 R9 => ?_)
      refine k_grF 103 R9 (R9.obF (by decide) rfl) rfl ?_
      refine k_some ?_
      obtain ⟨c10, h⟩ := chk_so h
      obtain ⟨V11, e11, h⟩ := lt_so h
      refine k_ai R9 (R9.lnF (by decide) rfl) rfl t4 c10 e11 (fun v11 z11 => ?_)
      refine k_ite (c_ne z11 tI_m1) h (fun c12 h => ?_) (fun c12 h => ?_)
      · obtain ⟨V13, e13, h⟩ := lt_so h
        obtain ⟨V14, e14, h⟩ := lt_so h
        obtain ⟨V15, e15, c15, h⟩ := ckI_so h
        exact ih _ _ _ _ _ _ R9 (t_or t3 (t_shl tI_1 t4 e13) e14) (t_add t4 tI_1 c15 e15) h
      · obtain ⟨V16, e16, h⟩ := lt_so h
        obtain ⟨V17, e17, c17, h⟩ := ckI_so h
        exact ih _ _ _ _ _ _ R9 (t_or t3 tI_0 e16) (t_add t4 tI_1 c17 e17) h
def g195_j117 (K82 : Int → Int → gM → Option (Int × gM)) (X3 : Int) (X4 : Int) (X5 : Int) (S : gM) : Option (Int × gM) :=
  (g193 X5 S).bind fun p26 =>
  if p26.1 = 0 then
    w_ckI (X5 + 1) fun V28 =>
    K82 X4 V28 p26.2
  else
    w_ckI (X5 + 1) fun V29 =>
    K82 X5 V29 p26.2
theorem g195_j117_ok {k82 : Int32 → Int32 → vm_M → Option (Int32 × vm_M)} {K82 : Int → Int → gM → Option (Int × gM)} {x3 : Int32} {X3 : Int} {x4 : Int32} {X4 : Int} {x5 : Int32} {X5 : Int} {S : gM} {M : vm_M} {r : Int × gM} (hk82 : ∀ (y4 : Int32) (Y4 : Int) (y5 : Int32) (Y5 : Int) (S : gM) (M : vm_M), Rel S M → y4.toInt = Y4 → y5.toInt = Y5 → K82 Y4 Y5 S = some r → Mp gRI (k82 y4 y5 M) r) (hR : Rel S M) (t3 : x3.toInt = X3) (t4 : x4.toInt = X4) (t5 : x5.toInt = X5) (h : g195_j117 K82 X3 X4 X5 S = some r) : Mp gRI (f195_j117 k82 55 x3 x4 x5 M) r := by
  unfold g195_j117 at h
  unfold f195_j117
  refine k_ob (hR.obF (by decide) rfl) ?_
  obtain ⟨p26, e26, h⟩ := bind_so h
  refine k_call (g193_ok hR t5 e26) (fun b26 R26 => ?_)
  refine k_ite (c_eq R26.1 tI_0) h (fun c27 h => ?_) (fun c27 h => ?_)
  · obtain ⟨V28, e28, c28, h⟩ := ckI_so h
    exact hk82 _ _ _ _ _ _ R26.2 t4 (t_add t5 tI_1 c28 e28) h
  · obtain ⟨V29, e29, c29, h⟩ := ckI_so h
    exact hk82 _ _ _ _ _ _ R26.2 t5 (t_add t5 tI_1 c29 e29) h
def g195_l82 (X3 : Int) : Nat → Int → Int → gM → Option (Int × gM)
  | 0 => fun _ _ _ => none
  | n + 1 => fun X4 X5 S =>
    if 64 ≤ X5 then
      some (X4, S)
    else
      w_lt (b_xor X3 (-1)) fun V21 =>
      w_lt (b_and X5 V21) fun V22 =>
      if ¬ V22 = 0 then
        w_ckI (X5 + 1) fun V24 =>
        g195_l82 X3 n X4 V24 S
      else
        if X4 = (-1) then
          g195_j117 (g195_l82 X3 n) X3 X4 X5 S
        else
          (g194 X5 S).bind fun p30 =>
          (g194 X4 p30.2).bind fun p31 =>
          if p31.1 ≤ p30.1 then
            w_ckI (X5 + 1) fun V33 =>
            g195_l82 X3 n X4 V33 p31.2
          else
            g195_j117 (g195_l82 X3 n) X3 X4 X5 p31.2
theorem g195_l82_ok {x3 : Int32} {X3 : Int} {r : Int × gM} (t3 : x3.toInt = X3) : ∀ (n : Nat) (x4 : Int32) (X4 : Int) (x5 : Int32) (X5 : Int) (S : gM) (M : vm_M), Rel S M → x4.toInt = X4 → x5.toInt = X5 → g195_l82 X3 n X4 X5 S = some r → Mp gRI (f195_l82 55 x3 n x4 x5 M) r := by
  intro n
  induction n with
  | zero =>
    intro x4 X4 x5 X5 S M hR t4 t5 h
    cases h
  | succ n ih =>
    intro x4 X4 x5 X5 S M hR t4 t5 h
    dsimp only [g195_l82] at h
    dsimp only [f195_l82]
    refine k_ite (c_le tI_64 t5) h (fun c20 h => ?_) (fun c20 h => ?_)
    · exact k_retI hR t4 h
    · obtain ⟨V21, e21, h⟩ := lt_so h
      obtain ⟨V22, e22, h⟩ := lt_so h
      refine k_ite (c_ne (t_and t5 (t_xor t3 tI_m1 e21) e22) tI_0) h (fun c23 h => ?_) (fun c23 h => ?_)
      · obtain ⟨V24, e24, c24, h⟩ := ckI_so h
        exact ih _ _ _ _ _ _ hR t4 (t_add t5 tI_1 c24 e24) h
      · refine k_ite (c_eq t4 tI_m1) h (fun c25 h => ?_) (fun c25 h => ?_)
        · exact g195_j117_ok ih hR t3 t4 t5 h
        · obtain ⟨p30, e30, h⟩ := bind_so h
          refine k_call (g194_ok hR t5 e30) (fun b30 R30 => ?_)
          obtain ⟨p31, e31, h⟩ := bind_so h
          refine k_call (g194_ok R30.2 t4 e31) (fun b31 R31 => ?_)
          refine k_ite (c_le R31.1 R30.1) h (fun c32 h => ?_) (fun c32 h => ?_)
          · obtain ⟨V33, e33, c33, h⟩ := ckI_so h
            exact ih _ _ _ _ _ _ R31.2 t4 (t_add t5 tI_1 c33 e33) h
          · exact g195_j117_ok ih R31.2 t3 t4 t5 h
/-- PupilCoinModel.doubt(II)I -/
def g195 (X1 : Int) (X2 : Int) (S : gM) : Option (Int × gM) :=
  (g116 X1 S).bind fun p1 =>
  if p1.1 = 0 then
    some ((-1), p1.2)
  else
    (g115 X2 p1.2).bind fun p3 =>
    if ¬ p3.1 = 0 then
      g195_l22 X1 X2
        (fun Y18 S19 =>
          g195_l82 Y18
          
            100000 (-1) 0 S19)
        100000 0 0 p3.2
    else
      some ((-1), p3.2)
theorem g195_ok {x1 : Int32} {X1 : Int} {x2 : Int32} {X2 : Int} {S : gM} {M : vm_M} {r : Int × gM} (hR : Rel S M) (t1 : x1.toInt = X1) (t2 : x2.toInt = X2) (h : g195 X1 X2 S = some r) : Mp gRI (f195 55 x1 x2 M) r := by
  unfold g195 at h
  unfold f195
  refine k_ob (hR.obF (by decide) rfl) ?_
  obtain ⟨p1, e1, h⟩ := bind_so h
  refine k_call (g116_ok hR t1 e1) (fun b1 R1 => ?_)
  refine k_ite (c_eq R1.1 tI_0) h (fun c2 h => ?_) (fun c2 h => ?_)
  · exact k_retI R1.2 tI_m1 h
  · obtain ⟨p3, e3, h⟩ := bind_so h
    refine k_call (g115_ok R1.2 t2 e3) (fun b3 R3 => ?_)
    refine k_ite (c_ne R3.1 tI_0) h (fun c4 h => ?_) (fun c4 h => ?_)
    · refine g195_l22_ok ?_ t1 t2 100000 _ _ _ _ _ _ R3.2 tI_0 tI_0 h
      · intro y18 Y18 S19 M19 R19 u18
        intro h
        refine g195_l82_ok u18 100000 _ _ _ _ _ _ R19 tI_m1 tI_0 h
    · exact k_retI R3.2 tI_m1 h
def g196_l4 : Nat → Int → Int → gM → Option (Int × gM)
  | 0 => fun _ _ _ => none
  | n + 1 => fun X1 X2 S =>
    w_lt (gi S 55 53) fun V1 =>
    if V1 ≤ X2 then
      some (X1, S)
    else
      w_chk ((0 : Int) ≤ X2 ∧ X2 < 20) <|
      w_lt (gi S 101 X2) fun V4 =>
      (g113 V4 S).bind fun p5 =>
      w_ckI (X1 + p5.1) fun V6 =>
      w_ckI (X2 + 1) fun V7 =>
      g196_l4 n V6 V7 p5.2
theorem g196_l4_ok {r : Int × gM} : ∀ (n : Nat) (x1 : Int32) (X1 : Int) (x2 : Int32) (X2 : Int) (S : gM) (M : vm_M), Rel S M → x1.toInt = X1 → x2.toInt = X2 → g196_l4 n X1 X2 S = some r → Mp gRI (f196_l4 55 n x1 x2 M) r := by
  intro n
  induction n with
  | zero =>
    intro x1 X1 x2 X2 S M hR t1 t2 h
    cases h
  | succ n ih =>
    intro x1 X1 x2 X2 S M hR t1 t2 h
    dsimp only [g196_l4] at h
    dsimp only [f196_l4]
    obtain ⟨V1, e1, h⟩ := lt_so h
    refine k_gi hR (hR.obF (by decide) rfl) rfl e1 (fun v1 z1 => ?_)
    refine k_ite (c_le z1 t2) h (fun c2 h => ?_) (fun c2 h => ?_)
    · exact k_retI hR t1 h
    · refine k_grF 102 hR (hR.obF (by decide) rfl) rfl ?_
      refine k_some ?_
      obtain ⟨c3, h⟩ := chk_so h
      obtain ⟨V4, e4, h⟩ := lt_so h
      refine k_ai hR (hR.lnF (by decide) rfl) rfl t2 c3 e4 (fun v4 z4 => ?_)
      obtain ⟨p5, e5, h⟩ := bind_so h
      refine k_call (g113_ok hR z4 e5) (fun b5 R5 => ?_)
      obtain ⟨V6, e6, c6, h⟩ := ckI_so h
      obtain ⟨V7, e7, c7, h⟩ := ckI_so h
      exact ih _ _ _ _ _ _ R5.2 (t_add t1 R5.1 c6 e6) (t_add t2 tI_1 c7 e7) h
/-- PupilCoinModel.adopted()I -/
def g196 (S : gM) : Option (Int × gM) :=
  g196_l4
  
    100000 0 0 S
theorem g196_ok {S : gM} {M : vm_M} {r : Int × gM} (hR : Rel S M) (h : g196 S = some r) : Mp gRI (f196 55 M) r := by
  unfold g196 at h
  unfold f196
  refine g196_l4_ok 100000 _ _ _ _ _ _ hR tI_0 tI_0 h
def g197_l68 : Nat → Int → Int → gM → Option (Int × gM)
  | 0 => fun _ _ _ => none
  | n + 1 => fun X2 X3 S =>
    w_lt (gi S 55 1) fun V6 =>
    if V6 ≤ X3 then
      some (X2, S)
    else
      (g118 S).bind fun p8 =>
      (g122 X3 p8.1 p8.2).bind fun p9 =>
      (g113 p9.1 p9.2).bind fun p10 =>
      w_ckI (X2 + p10.1) fun V11 =>
      w_ckI (X3 + 1) fun V12 =>
      g197_l68 n V11 V12 p10.2
theorem g197_l68_ok {r : Int × gM} : ∀ (n : Nat) (x2 : Int32) (X2 : Int) (x3 : Int32) (X3 : Int) (S : gM) (M : vm_M), Rel S M → x2.toInt = X2 → x3.toInt = X3 → g197_l68 n X2 X3 S = some r → Mp gRI (f197_l68 55 n x2 x3 M) r := by
  intro n
  induction n with
  | zero =>
    intro x2 X2 x3 X3 S M hR t2 t3 h
    cases h
  | succ n ih =>
    intro x2 X2 x3 X3 S M hR t2 t3 h
    dsimp only [g197_l68] at h
    dsimp only [f197_l68]
    obtain ⟨V6, e6, h⟩ := lt_so h
    refine k_gi hR (hR.obF (by decide) rfl) rfl e6 (fun v6 z6 => ?_)
    refine k_ite (c_le z6 t3) h (fun c7 h => ?_) (fun c7 h => ?_)
    · exact k_retI hR t2 h
    · refine k_ob (hR.obF (by decide) rfl) ?_
      obtain ⟨p8, e8, h⟩ := bind_so h
      refine k_call (g118_ok hR e8) (fun b8 R8 => ?_)
      refine k_ob (R8.2.obF (by decide) rfl) ?_
      obtain ⟨p9, e9, h⟩ := bind_so h
      refine k_call (g122_ok R8.2 t3 R8.1 e9) (fun b9 R9 => ?_)
      obtain ⟨p10, e10, h⟩ := bind_so h
      refine k_call (g113_ok R9.2 R9.1 e10) (fun b10 R10 => ?_)
      obtain ⟨V11, e11, c11, h⟩ := ckI_so h
      obtain ⟨V12, e12, c12, h⟩ := ckI_so h
      exact ih _ _ _ _ _ _ R10.2 (t_add t2 R10.1 c11 e11) (t_add t3 tI_1 c12 e12) h
/-- PupilCoinModel.count(I)I -/
def g197 (X1 : Int) (S : gM) : Option (Int × gM) :=
  if X1 = 0 then
    w_lt (gi S 55 0) fun V2 =>
    some (V2, S)
  else if X1 = 1 then
    w_lt (gi S 55 1) fun V4 =>
    some (V4, S)
  else if X1 = 2 then
    g197_l68
    
      100000 0 0 S
  else if X1 = 3 then
    w_lt (gi S 55 2) fun V14 =>
    some (V14, S)
  else if X1 = 4 then
    w_lt (gi S 55 3) fun V16 =>
    some (V16, S)
  else if X1 = 5 then
    w_lt (gi S 55 18) fun V18 =>
    some (V18, S)
  else if X1 = 6 then
    w_lt (gi S 55 53) fun V20 =>
    some (V20, S)
  else if X1 = 7 then
    (g196 S).bind fun p22 =>
    some (p22.1, p22.2)
  else if X1 = 8 then
    w_lt (gi S 55 19) fun V24 =>
    some (V24, S)
  else if X1 = 9 then
    w_lt (gi S 55 26) fun V26 =>
    (g113 V26 S).bind fun p27 =>
    some (p27.1, p27.2)
  else 
    some ((-1), S)
theorem g197_ok {x1 : Int32} {X1 : Int} {S : gM} {M : vm_M} {r : Int × gM} (hR : Rel S M) (t1 : x1.toInt = X1) (h : g197 X1 S = some r) : Mp gRI (f197 55 x1 M) r := by
  unfold g197 at h
  unfold f197
  refine k_ite (c_eq t1 tI_0) h (fun c1 h => ?_) (fun c1 h => ?_)
  · obtain ⟨V2, e2, h⟩ := lt_so h
    refine k_gi hR (hR.obF (by decide) rfl) rfl e2 (fun v2 z2 => ?_)
    exact k_retI hR z2 h
  refine k_ite (c_eq t1 tI_1) h (fun c3 h => ?_) (fun c3 h => ?_)
  · obtain ⟨V4, e4, h⟩ := lt_so h
    refine k_gi hR (hR.obF (by decide) rfl) rfl e4 (fun v4 z4 => ?_)
    exact k_retI hR z4 h
  refine k_ite (c_eq t1 tI_2) h (fun c5 h => ?_) (fun c5 h => ?_)
  · refine g197_l68_ok 100000 _ _ _ _ _ _ hR tI_0 tI_0 h
  refine k_ite (c_eq t1 tI_3) h (fun c13 h => ?_) (fun c13 h => ?_)
  · obtain ⟨V14, e14, h⟩ := lt_so h
    refine k_gi hR (hR.obF (by decide) rfl) rfl e14 (fun v14 z14 => ?_)
    exact k_retI hR z14 h
  refine k_ite (c_eq t1 tI_4) h (fun c15 h => ?_) (fun c15 h => ?_)
  · obtain ⟨V16, e16, h⟩ := lt_so h
    refine k_gi hR (hR.obF (by decide) rfl) rfl e16 (fun v16 z16 => ?_)
    exact k_retI hR z16 h
  refine k_ite (c_eq t1 tI_5) h (fun c17 h => ?_) (fun c17 h => ?_)
  · obtain ⟨V18, e18, h⟩ := lt_so h
    refine k_gi hR (hR.obF (by decide) rfl) rfl e18 (fun v18 z18 => ?_)
    exact k_retI hR z18 h
  refine k_ite (c_eq t1 tI_6) h (fun c19 h => ?_) (fun c19 h => ?_)
  · obtain ⟨V20, e20, h⟩ := lt_so h
    refine k_gi hR (hR.obF (by decide) rfl) rfl e20 (fun v20 z20 => ?_)
    exact k_retI hR z20 h
  refine k_ite (c_eq t1 tI_7) h (fun c21 h => ?_) (fun c21 h => ?_)
  · refine k_ob (hR.obF (by decide) rfl) ?_
    obtain ⟨p22, e22, h⟩ := bind_so h
    refine k_call (g196_ok hR e22) (fun b22 R22 => ?_)
    exact k_retI R22.2 R22.1 h
  refine k_ite (c_eq t1 tI_8) h (fun c23 h => ?_) (fun c23 h => ?_)
  · obtain ⟨V24, e24, h⟩ := lt_so h
    refine k_gi hR (hR.obF (by decide) rfl) rfl e24 (fun v24 z24 => ?_)
    exact k_retI hR z24 h
  refine k_ite (c_eq t1 tI_9) h (fun c25 h => ?_) (fun c25 h => ?_)
  · obtain ⟨V26, e26, h⟩ := lt_so h
    refine k_gi hR (hR.obF (by decide) rfl) rfl e26 (fun v26 z26 => ?_)
    obtain ⟨p27, e27, h⟩ := bind_so h
    refine k_call (g113_ok hR z26 e27) (fun b27 R27 => ?_)
    exact k_retI R27.2 R27.1 h
  exact k_retI hR tI_m1 h
