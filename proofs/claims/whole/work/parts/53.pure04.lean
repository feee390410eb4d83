/-! the methods over Ints, by program (wip/gen_pure.py) -/
/-- PupilCoinModel.partOf(II)J -/
def g173 (X1 : Int) (X2 : Int) (S : gM) : Option (Int × gM) :=
  (g162 X2 6 (-1) S).bind fun p1 =>
  if ¬ p1.1 = (-1) then
    w_ckI (30 * X1) fun V3 =>
    w_ckI (V3 + p1.1) fun V4 =>
    w_chk ((0 : Int) ≤ V4 ∧ V4 < 360) <|
    w_lt (gl p1.2 85 V4) fun V6 =>
    w_lt (max 0 V6) fun V7 =>
    some (V7, p1.2)
  else
    w_chk ((0 : Int) ≤ X1 ∧ X1 < 12) <|
    w_lt (gl p1.2 92 X1) fun V9 =>
    w_lt (max 0 V9) fun V10 =>
    some (V10, p1.2)
theorem g173_ok {x1 : Int32} {X1 : Int} {x2 : Int32} {X2 : Int} {S : gM} {M : vm_M} {r : Int × gM} (hR : Rel S M) (t1 : x1.toInt = X1) (t2 : x2.toInt = X2) (h : g173 X1 X2 S = some r) : Mp gRJ (f173 55 x1 x2 M) r := by
  unfold g173 at h
  unfold f173
  refine k_ob (hR.obF (by decide) rfl) ?_
  obtain ⟨p1, e1, h⟩ := bind_so h
  refine k_call (g162_ok hR t2 tI_6 tI_m1 e1) (fun b1 R1 => ?_)
  refine k_ite (c_ne R1.1 tI_m1) h (fun c2 h => ?_) (fun c2 h => ?_)
  · refine k_grF 86 R1.2 (R1.2.obF (by decide) rfl) rfl ?_
    obtain ⟨V3, e3, c3, h⟩ := ckI_so h
    obtain ⟨V4, e4, c4, h⟩ := ckI_so h
    refine k_some ?_
    obtain ⟨c5, h⟩ := chk_so h
    obtain ⟨V6, e6, h⟩ := lt_so h
    refine k_al R1.2 (R1.2.lnF (by decide) rfl) rfl (t_add (t_mul tI_30 t1 c3 e3) R1.1 c4 e4) c5 e6 (fun v6 z6 => ?_)
    obtain ⟨V7, e7, h⟩ := lt_so h
    exact k_retJ R1.2 (t_mxJ tJ_0 z6 e7) h
  · refine k_grF 93 R1.2 (R1.2.obF (by decide) rfl) rfl ?_
    refine k_some ?_
    obtain ⟨c8, h⟩ := chk_so h
    obtain ⟨V9, e9, h⟩ := lt_so h
    refine k_al R1.2 (R1.2.lnF (by decide) rfl) rfl t1 c8 e9 (fun v9 z9 => ?_)
    obtain ⟨V10, e10, h⟩ := lt_so h
    exact k_retJ R1.2 (t_mxJ tJ_0 z9 e10) h
def g175_j51 (K74 : Int → gM → Option (Int × gM)) (K16 : Int → Int → Int → gM → Option (Int × gM)) (X0 : Int) (X2 : Int) (X4 : Int) (X6 : Int) (X8 : Int) (X10 : Int) (X12 : Int) (S : gM) : Option (Int × gM) :=
  w_chk (¬ X4 = 0) <|
  w_ckJ (X10.tdiv X4) fun V8 =>
  w_ckJ (X8 + V8) fun V10 =>
  w_chk (¬ X4 = 0) <|
  w_ckJ (X10.tdiv X4) fun _ =>
  w_lt (X10.tmod X4) fun V11 =>
  w_ckI (X12 + (-1)) fun V13 =>
  K16 V10 V11 V13 S
theorem g175_j51_ok {k74 : Int64 → vm_M → Option (Int64 × vm_M)} {K74 : Int → gM → Option (Int × gM)} {k16 : Int64 → Int64 → Int32 → vm_M → Option (Int64 × vm_M)} {K16 : Int → Int → Int → gM → Option (Int × gM)} {x0 : Int64} {X0 : Int} {x2 : Int64} {X2 : Int} {x4 : Int64} {X4 : Int} {x6 : Int64} {X6 : Int} {x8 : Int64} {X8 : Int} {x10 : Int64} {X10 : Int} {x12 : Int32} {X12 : Int} {S : gM} {M : vm_M} {r : Int × gM} (hk74 : ∀ (y8 : Int64) (Y8 : Int) (S : gM) (M : vm_M), Rel S M → y8.toInt = Y8 → K74 Y8 S = some r → Mp gRJ (k74 y8 M) r) (hk16 : ∀ (y8 : Int64) (Y8 : Int) (y10 : Int64) (Y10 : Int) (y12 : Int32) (Y12 : Int) (S : gM) (M : vm_M), Rel S M → y8.toInt = Y8 → y10.toInt = Y10 → y12.toInt = Y12 → K16 Y8 Y10 Y12 S = some r → Mp gRJ (k16 y8 y10 y12 M) r) (hR : Rel S M) (t0 : x0.toInt = X0) (t2 : x2.toInt = X2) (t4 : x4.toInt = X4) (t6 : x6.toInt = X6) (t8 : x8.toInt = X8) (t10 : x10.toInt = X10) (t12 : x12.toInt = X12) (h : g175_j51 K74 K16 X0 X2 X4 X6 X8 X10 X12 S = some r) : Mp gRJ (f175_j51 k74 k16 x0 x2 x4 x6 x8 x10 x12 M) r := by
  unfold g175_j51 at h
  unfold f175_j51
  obtain ⟨c9, h⟩ := chk_so h
  obtain ⟨V8, e8, c8, h⟩ := ckJ_so h
  refine k_dvJ t10 t4 c9 c8 e8 (fun v8 z8 => ?_)
  obtain ⟨V10, e10, c10, h⟩ := ckJ_so h
  obtain ⟨c12, h⟩ := chk_so h
  obtain ⟨_, _, c11, h⟩ := ckJ_so h
  obtain ⟨V11, e11, h⟩ := lt_so h
  refine k_rmJ t10 t4 c12 c11 e11 (fun v11 z11 => ?_)
  obtain ⟨V13, e13, c13, h⟩ := ckI_so h
  exact hk16 _ _ _ _ _ _ _ _ hR (tJ_add t8 z8 c10 e10) z11 (t_add t12 tI_m1 c13 e13) h
def g175_l16 (X0 : Int) (X2 : Int) (X4 : Int) (X6 : Int) (K74 : Int → gM → Option (Int × gM)) : Nat → Int → Int → Int → gM → Option (Int × gM)
  | 0 => fun _ _ _ _ => none
  | n + 1 => fun X8 X10 X12 S =>
    if X12 < 0 then
      K74 X8 S
    else
      w_lt (B_shl X8 1) fun V3 =>
      w_lt (B_shl X10 1) fun V4 =>
      w_lt (B_shr X6 X12) fun V5 =>
      w_lt (B_and V5 1) fun V6 =>
      if ¬ V6 = 1 then
        g175_j51 K74 (g175_l16 X0 X2 X4 X6 K74 n) X0 X2 X4 X6 V3 V4 X12 S
      else
        w_ckJ (V4 + X2) fun V14 =>
        g175_j51 K74 (g175_l16 X0 X2 X4 X6 K74 n) X0 X2 X4 X6 V3 V14 X12 S
theorem g175_l16_ok {x0 : Int64} {X0 : Int} {x2 : Int64} {X2 : Int} {x4 : Int64} {X4 : Int} {x6 : Int64} {X6 : Int} {k74 : Int64 → vm_M → Option (Int64 × vm_M)} {K74 : Int → gM → Option (Int × gM)} {r : Int × gM} (hk74 : ∀ (y8 : Int64) (Y8 : Int) (S : gM) (M : vm_M), Rel S M → y8.toInt = Y8 → K74 Y8 S = some r → Mp gRJ (k74 y8 M) r) (t0 : x0.toInt = X0) (t2 : x2.toInt = X2) (t4 : x4.toInt = X4) (t6 : x6.toInt = X6) : ∀ (n : Nat) (x8 : Int64) (X8 : Int) (x10 : Int64) (X10 : Int) (x12 : Int32) (X12 : Int) (S : gM) (M : vm_M), Rel S M → x8.toInt = X8 → x10.toInt = X10 → x12.toInt = X12 → g175_l16 X0 X2 X4 X6 K74 n X8 X10 X12 S = some r → Mp gRJ (f175_l16 x0 x2 x4 x6 k74 n x8 x10 x12 M) r := by
  intro n
  induction n with
  | zero =>
    intro x8 X8 x10 X10 x12 X12 S M hR t8 t10 t12 h
    cases h
  | succ n ih =>
    intro x8 X8 x10 X10 x12 X12 S M hR t8 t10 t12 h
    dsimp only [g175_l16] at h
    dsimp only [f175_l16]
    refine k_ite (c_lt t12 tI_0) h (fun c2 h => ?_) (fun c2 h => ?_)
    · exact hk74 _ _ _ _ hR t8 h
    · obtain ⟨V3, e3, h⟩ := lt_so h
      obtain ⟨V4, e4, h⟩ := lt_so h
      obtain ⟨V5, e5, h⟩ := lt_so h
      obtain ⟨V6, e6, h⟩ := lt_so h
      refine k_ite (cJ_ne (tJ_and (tJ_shr t6 t12 e5) tJ_1 e6) tJ_1) h (fun c7 h => ?_) (fun c7 h => ?_)
      · exact g175_j51_ok hk74 ih hR t0 t2 t4 t6 (tJ_shlN_1 t8 e3) (tJ_shlN_1 t10 e4) t12 h
      · obtain ⟨V14, e14, c14, h⟩ := ckJ_so h
        exact g175_j51_ok hk74 ih hR t0 t2 t4 t6 (tJ_shlN_1 t8 e3) (tJ_add (tJ_shlN_1 t10 e4) t2 c14 e14) t12 h
/-- PupilCoinModel.whole(JJJ)J -/
def g175 (X0 : Int) (X2 : Int) (X4 : Int) (S : gM) : Option (Int × gM) :=
  w_ckJ (X0.natAbs : Int) fun V1 =>
  g175_l16 X0 X2 X4 V1
    (fun Y15 S16 =>
      if 0 ≤ X0 then
        some (Y15, S16)
      else
        w_ckJ (-Y15) fun V18 =>
        some (V18, S16))
    100000 0 0 62 S
theorem g175_ok {x0 : Int64} {X0 : Int} {x2 : Int64} {X2 : Int} {x4 : Int64} {X4 : Int} {S : gM} {M : vm_M} {r : Int × gM} (hR : Rel S M) (t0 : x0.toInt = X0) (t2 : x2.toInt = X2) (t4 : x4.toInt = X4) (h : g175 X0 X2 X4 S = some r) : Mp gRJ (f175 x0 x2 x4 M) r := by
  unfold g175 at h
  unfold f175
  obtain ⟨V1, e1, c1, h⟩ := ckJ_so h
  refine g175_l16_ok ?_ t0 t2 t4 (t_abJ t0 c1 e1) 100000 _ _ _ _ _ _ _ _ hR tJ_0 tJ_0 tI_62 h
  · intro y15 Y15 S16 M16 R16 u15
    intro h
    refine k_ite (cJ_ge t0 tJ_0) h (fun c17 h => ?_) (fun c17 h => ?_)
    · exact k_retJ R16 u15 h
    · obtain ⟨V18, e18, c18, h⟩ := ckJ_so h
      exact k_retJ R16 (tJ_neg u15 c18 e18) h
def g174_l6 (X1 : Int) (X2 : Int) (X3 : Int) (K43 : Int → gM → Option (gM)) : Nat → Int → Int → gM → Option (gM)
  | 0 => fun _ _ _ => none
  | n + 1 => fun X5 X7 S =>
    w_lt (gi S 55 1) fun V1 =>
    if V1 ≤ X7 then
      K43 X5 S
    else
      (g122 X7 X1 S).bind fun p3 =>
      if p3.1 = 0 then
        w_ckI (X7 + 1) fun V5 =>
        g174_l6 X1 X2 X3 K43 n X5 V5 p3.2
      else
        (g173 X7 X2 p3.2).bind fun p6 =>
        w_ckJ (X5 + p6.1) fun V7 =>
        w_ckI (X7 + 1) fun V8 =>
        g174_l6 X1 X2 X3 K43 n V7 V8 p6.2
theorem g174_l6_ok {x1 : Int32} {X1 : Int} {x2 : Int32} {X2 : Int} {x3 : Int64} {X3 : Int} {k43 : Int64 → vm_M → Option (vm_M)} {K43 : Int → gM → Option (gM)} {r : gM} (hk43 : ∀ (y5 : Int64) (Y5 : Int) (S : gM) (M : vm_M), Rel S M → y5.toInt = Y5 → K43 Y5 S = some r → Mp gRV (k43 y5 M) r) (t1 : x1.toInt = X1) (t2 : x2.toInt = X2) (t3 : x3.toInt = X3) : ∀ (n : Nat) (x5 : Int64) (X5 : Int) (x7 : Int32) (X7 : Int) (S : gM) (M : vm_M), Rel S M → x5.toInt = X5 → x7.toInt = X7 → g174_l6 X1 X2 X3 K43 n X5 X7 S = some r → Mp gRV (f174_l6 55 x1 x2 x3 k43 n x5 x7 M) r := by
  intro n
  induction n with
  | zero =>
    intro x5 X5 x7 X7 S M hR t5 t7 h
    cases h
  | succ n ih =>
    intro x5 X5 x7 X7 S M hR t5 t7 h
    dsimp only [g174_l6] at h
    dsimp only [f174_l6]
    obtain ⟨V1, e1, h⟩ := lt_so h
    refine k_gi hR (hR.obF (by decide) rfl) rfl e1 (fun v1 z1 => ?_)
    refine k_ite (c_le z1 t7) h (fun c2 h => ?_) (fun c2 h => ?_)
    · exact hk43 _ _ _ _ hR t5 h
    · refine k_ob (hR.obF (by decide) rfl) ?_
      obtain ⟨p3, e3, h⟩ := bind_so h
      refine k_call (g122_ok hR t7 t1 e3) (fun b3 R3 => ?_)
      refine k_ite (c_eq R3.1 tI_0) h (fun c4 h => ?_) (fun c4 h => ?_)
      · obtain ⟨V5, e5, c5, h⟩ := ckI_so h
        exact ih _ _ _ _ _ _ R3.2 t5 (t_add t7 tI_1 c5 e5) h
      · refine k_ob (R3.2.obF (by decide) rfl) ?_
        obtain ⟨p6, e6, h⟩ := bind_so h
        refine k_call (g173_ok R3.2 t7 t2 e6) (fun b6 R6 => ?_)
        obtain ⟨V7, e7, c7, h⟩ := ckJ_so h
        obtain ⟨V8, e8, c8, h⟩ := ckI_so h
        exact ih _ _ _ _ _ _ R6.2 (tJ_add t5 R6.1 c7 e7) (t_add t7 tI_1 c8 e8) h
def g174_l57 (X1 : Int) (X2 : Int) (X3 : Int) (X5 : Int) (K117 : Int → gM → Option (gM)) : Nat → Int → Int → gM → Option (gM)
  | 0 => fun _ _ _ => none
  | n + 1 => fun X7 X9 S =>
    w_lt (gi S 55 1) fun V12 =>
    if V12 ≤ X9 then
      K117 X7 S
    else
      (g122 X9 X1 S).bind fun p14 =>
      if ¬ p14.1 = 0 then
        (g173 X9 X2 p14.2).bind fun p16 =>
        (g175 X3 p16.1 X5 p16.2).bind fun p17 =>
        w_chk ((0 : Int) ≤ X9 ∧ X9 < 12) <|
        w_lt (wl p17.2 88 X9 p17.1) fun S19 =>
        w_chk ((0 : Int) ≤ X9 ∧ X9 < 12) <|
        w_lt (gl S19 88 X9) fun V21 =>
        w_ckJ (X7 - V21) fun V22 =>
        w_ckI (X9 + 1) fun V23 =>
        g174_l57 X1 X2 X3 X5 K117 n V22 V23 S19
      else
        w_ckI (X9 + 1) fun V24 =>
        g174_l57 X1 X2 X3 X5 K117 n X7 V24 p14.2
theorem g174_l57_ok {x1 : Int32} {X1 : Int} {x2 : Int32} {X2 : Int} {x3 : Int64} {X3 : Int} {x5 : Int64} {X5 : Int} {k117 : Int64 → vm_M → Option (vm_M)} {K117 : Int → gM → Option (gM)} {r : gM} (hk117 : ∀ (y7 : Int64) (Y7 : Int) (S : gM) (M : vm_M), Rel S M → y7.toInt = Y7 → K117 Y7 S = some r → Mp gRV (k117 y7 M) r) (t1 : x1.toInt = X1) (t2 : x2.toInt = X2) (t3 : x3.toInt = X3) (t5 : x5.toInt = X5) : ∀ (n : Nat) (x7 : Int64) (X7 : Int) (x9 : Int32) (X9 : Int) (S : gM) (M : vm_M), Rel S M → x7.toInt = X7 → x9.toInt = X9 → g174_l57 X1 X2 X3 X5 K117 n X7 X9 S = some r → Mp gRV (f174_l57 55 x1 x2 x3 x5 k117 n x7 x9 M) r := by
  intro n
  induction n with
  | zero =>
    intro x7 X7 x9 X9 S M hR t7 t9 h
    cases h
  | succ n ih =>
    intro x7 X7 x9 X9 S M hR t7 t9 h
    dsimp only [g174_l57] at h
    dsimp only [f174_l57]
    obtain ⟨V12, e12, h⟩ := lt_so h
    refine k_gi hR (hR.obF (by decide) rfl) rfl e12 (fun v12 z12 => ?_)
    refine k_ite (c_le z12 t9) h (fun c13 h => ?_) (fun c13 h => ?_)
    · exact hk117 _ _ _ _ hR t7 h
    · refine k_ob (hR.obF (by decide) rfl) ?_
      obtain ⟨p14, e14, h⟩ := bind_so h
      refine k_call (g122_ok hR t9 t1 e14) (fun b14 R14 => ?_)
      refine k_ite (c_ne R14.1 tI_0) h (fun c15 h => ?_) (fun c15 h => ?_)
      · refine k_grF 89 R14.2 (R14.2.obF (by decide) rfl) rfl ?_
        refine k_ob (R14.2.obF (by decide) rfl) ?_
        obtain ⟨p16, e16, h⟩ := bind_so h
        refine k_call (g173_ok R14.2 t9 t2 e16) (fun b16 R16 => ?_)
        obtain ⟨p17, e17, h⟩ := bind_so h
        refine k_call (g175_ok R16.2 t3 R16.1 t5 e17) (fun b17 R17 => ?_)
        refine k_some ?_
        obtain ⟨c18, h⟩ := chk_so h
        obtain ⟨S19, e19, h⟩ := lt_so h
        refine k_sl R17.2 (R17.2.lnF (by decide) rfl) rfl t9 c18 R17.1 e19 (fun M19 R19 => ?_)
        refine k_grF 89 R19 (R19.obF (by decide) rfl) rfl ?_
        refine k_some ?_
        obtain ⟨c20, h⟩ := chk_so h
        obtain ⟨V21, e21, h⟩ := lt_so h
        refine k_al R19 (R19.lnF (by decide) rfl) rfl t9 c20 e21 (fun v21 z21 => ?_)
        obtain ⟨V22, e22, c22, h⟩ := ckJ_so h
        obtain ⟨V23, e23, c23, h⟩ := ckI_so h
        exact ih _ _ _ _ _ _ R19 (tJ_sub t7 z21 c22 e22) (t_add t9 tI_1 c23 e23) h
      · obtain ⟨V24, e24, c24, h⟩ := ckI_so h
        exact ih _ _ _ _ _ _ R14.2 t7 (t_add t9 tI_1 c24 e24) h
def g174_l143 (X1 : Int) (X2 : Int) (X9 : Int) (K209 : Int → gM → Option (gM)) : Nat → Int → Int → gM → Option (gM)
  | 0 => fun _ _ _ => none
  | n + 1 => fun X7 X11 S =>
    w_lt (gi S 55 1) fun V29 =>
    if V29 ≤ X11 then
      K209 X7 S
    else
      if X7 = 0 then
        K209 X7 S
      else
        (g122 X11 X1 S).bind fun p32 =>
        if p32.1 = 0 then
          w_ckI (X11 + 1) fun V34 =>
          g174_l143 X1 X2 X9 K209 n X7 V34 p32.2
        else
          (g173 X11 X2 p32.2).bind fun p35 =>
          if ¬ p35.1 = 0 then
            w_chk ((0 : Int) ≤ X11 ∧ X11 < 12) <|
            w_lt (gl p35.2 88 X11) fun V38 =>
            w_ckJ (V38 + X9) fun V39 =>
            w_chk ((0 : Int) ≤ X11 ∧ X11 < 12) <|
            w_lt (wl p35.2 88 X11 V39) fun S41 =>
            w_ckJ (X7 - X9) fun V42 =>
            w_ckI (X11 + 1) fun V43 =>
            g174_l143 X1 X2 X9 K209 n V42 V43 S41
          else
            w_ckI (X11 + 1) fun V44 =>
            g174_l143 X1 X2 X9 K209 n X7 V44 p35.2
theorem g174_l143_ok {x1 : Int32} {X1 : Int} {x2 : Int32} {X2 : Int} {x9 : Int64} {X9 : Int} {k209 : Int64 → vm_M → Option (vm_M)} {K209 : Int → gM → Option (gM)} {r : gM} (hk209 : ∀ (y7 : Int64) (Y7 : Int) (S : gM) (M : vm_M), Rel S M → y7.toInt = Y7 → K209 Y7 S = some r → Mp gRV (k209 y7 M) r) (t1 : x1.toInt = X1) (t2 : x2.toInt = X2) (t9 : x9.toInt = X9) : ∀ (n : Nat) (x7 : Int64) (X7 : Int) (x11 : Int32) (X11 : Int) (S : gM) (M : vm_M), Rel S M → x7.toInt = X7 → x11.toInt = X11 → g174_l143 X1 X2 X9 K209 n X7 X11 S = some r → Mp gRV (f174_l143 55 x1 x2 x9 k209 n x7 x11 M) r := by
  intro n
  induction n with
  | zero =>
    intro x7 X7 x11 X11 S M hR t7 t11 h
    cases h
  | succ n ih =>
    intro x7 X7 x11 X11 S M hR t7 t11 h
    dsimp only [g174_l143] at h
    dsimp only [f174_l143]
    obtain ⟨V29, e29, h⟩ := lt_so h
    refine k_gi hR (hR.obF (by decide) rfl) rfl e29 (fun v29 z29 => ?_)
    refine k_ite (c_le z29 t11) h (fun c30 h => ?_) (fun c30 h => ?_)
    · exact hk209 _ _ _ _ hR t7 h
    · refine k_ite (cJ_eq t7 tJ_0) h (fun c31 h => ?_) (fun c31 h => ?_)
      · exact hk209 _ _ _ _ hR t7 h
      · refine k_ob (hR.obF (by decide) rfl) ?_
        obtain ⟨p32, e32, h⟩ := bind_so h
        refine k_call (g122_ok hR t11 t1 e32) (fun b32 R32 => ?_)
        refine k_ite (c_eq R32.1 tI_0) h (fun c33 h => ?_) (fun c33 h => ?_)
        · obtain ⟨V34, e34, c34, h⟩ := ckI_so h
          exact ih _ _ _ _ _ _ R32.2 t7 (t_add t11 tI_1 c34 e34) h
        · refine k_ob (R32.2.obF (by decide) rfl) ?_
          obtain ⟨p35, e35, h⟩ := bind_so h
          refine k_call (g173_ok R32.2 t11 t2 e35) (fun b35 R35 => ?_)
          refine k_ite (cJ_ne R35.1 tJ_0) h (fun c36 h => ?_) (fun c36 h => ?_)
          · refine k_grF 89 R35.2 (R35.2.obF (by decide) rfl) rfl ?_
            refine k_some ?_
            obtain ⟨c37, h⟩ := chk_so h
            obtain ⟨V38, e38, h⟩ := lt_so h
            refine k_al R35.2 (R35.2.lnF (by decide) rfl) rfl t11 c37 e38 (fun v38 z38 => ?_)
            obtain ⟨V39, e39, c39, h⟩ := ckJ_so h
            obtain ⟨c40, h⟩ := chk_so h
            obtain ⟨S41, e41, h⟩ := lt_so h
            refine k_sl R35.2 (R35.2.lnF (by decide) rfl) rfl t11 c40 (tJ_add z38 t9 c39 e39) e41 (fun M41 R41 => ?_)
            obtain ⟨V42, e42, c42, h⟩ := ckJ_so h
            obtain ⟨V43, e43, c43, h⟩ := ckI_so h
            exact ih _ _ _ _ _ _ R41 (tJ_sub t7 t9 c42 e42) (t_add t11 tI_1 c43 e43) h
          · obtain ⟨V44, e44, c44, h⟩ := ckI_so h
            exact ih _ _ _ _ _ _ R35.2 t7 (t_add t11 tI_1 c44 e44) h
def g174_l133 (X1 : Int) (X2 : Int) (X9 : Int) (K212 : gM → Option (gM)) : Nat → Int → gM → Option (gM)
  | 0 => fun _ _ => none
  | n + 1 => fun X7 S =>
    if X7 = 0 then
      K212 S
    else
      g174_l143 X1 X2 X9
        (fun Y45 S46 =>
          g174_l133 X1 X2 X9 K212 n Y45 S46)
        100000 X7 0 S
theorem g174_l133_ok {x1 : Int32} {X1 : Int} {x2 : Int32} {X2 : Int} {x9 : Int64} {X9 : Int} {k212 : vm_M → Option (vm_M)} {K212 : gM → Option (gM)} {r : gM} (hk212 : ∀ (S : gM) (M : vm_M), Rel S M → K212 S = some r → Mp gRV (k212 M) r) (t1 : x1.toInt = X1) (t2 : x2.toInt = X2) (t9 : x9.toInt = X9) : ∀ (n : Nat) (x7 : Int64) (X7 : Int) (S : gM) (M : vm_M), Rel S M → x7.toInt = X7 → g174_l133 X1 X2 X9 K212 n X7 S = some r → Mp gRV (f174_l133 55 x1 x2 x9 k212 n x7 M) r := by
  intro n
  induction n with
  | zero =>
    intro x7 X7 S M hR t7 h
    cases h
  | succ n ih =>
    intro x7 X7 S M hR t7 h
    dsimp only [g174_l133] at h
    dsimp only [f174_l133]
    refine k_ite (cJ_eq t7 tJ_0) h (fun c28 h => ?_) (fun c28 h => ?_)
    · exact hk212 _ _ hR h
    · refine g174_l143_ok ?_ t1 t2 t9 100000 _ _ _ _ _ _ hR t7 tI_0 h
      · intro y45 Y45 S46 M46 R46 u45
        intro h
        exact ih _ _ _ _ R46 u45 h
def g174_l215 : Nat → Int → gM → Option (gM)
  | 0 => fun _ _ => none
  | n + 1 => fun X11 S =>
    w_lt (gi S 55 1) fun V48 =>
    if V48 ≤ X11 then
      some S
    else
      w_chk ((0 : Int) ≤ X11 ∧ X11 < 12) <|
      w_lt (gl S 89 X11) fun V51 =>
      w_chk ((0 : Int) ≤ X11 ∧ X11 < 12) <|
      w_lt (gl S 88 X11) fun V53 =>
      w_ckJ (V51 + V53) fun V54 =>
      w_chk ((0 : Int) ≤ X11 ∧ X11 < 12) <|
      w_lt (wl S 89 X11 V54) fun S56 =>
      w_ckI (X11 + 1) fun V57 =>
      g174_l215 n V57 S56
theorem g174_l215_ok {r : gM} : ∀ (n : Nat) (x11 : Int32) (X11 : Int) (S : gM) (M : vm_M), Rel S M → x11.toInt = X11 → g174_l215 n X11 S = some r → Mp gRV (f174_l215 55 n x11 M) r := by
  intro n
  induction n with
  | zero =>
    intro x11 X11 S M hR t11 h
    cases h
  | succ n ih =>
    intro x11 X11 S M hR t11 h
    dsimp only [g174_l215] at h
    dsimp only [f174_l215]
    obtain ⟨V48, e48, h⟩ := lt_so h
    refine k_gi hR (hR.obF (by decide) rfl) rfl e48 (fun v48 z48 => ?_)
    refine k_ite (c_le z48 t11) h (fun c49 h => ?_) (fun c49 h => ?_)
    · exact k_retV hR h
    · refine k_grF 90 hR (hR.obF (by decide) rfl) rfl ?_
      refine k_some ?_
      obtain ⟨c50, h⟩ := chk_so h
      obtain ⟨V51, e51, h⟩ := lt_so h
      refine k_al hR (hR.lnF (by decide) rfl) rfl t11 c50 e51 (fun v51 z51 => ?_)
      refine k_grF 89 hR (hR.obF (by decide) rfl) rfl ?_
      refine k_some ?_
      obtain ⟨c52, h⟩ := chk_so h
      obtain ⟨V53, e53, h⟩ := lt_so h
      refine k_al hR (hR.lnF (by decide) rfl) rfl t11 c52 e53 (fun v53 z53 => ?_)
      obtain ⟨V54, e54, c54, h⟩ := ckJ_so h
      obtain ⟨c55, h⟩ := chk_so h
      obtain ⟨S56, e56, h⟩ := lt_so h
      refine k_sl hR (hR.lnF (by decide) rfl) rfl t11 c55 (tJ_add z51 z53 c54 e54) e56 (fun M56 R56 => ?_)
      obtain ⟨V57, e57, c57, h⟩ := ckI_so h
      exact ih _ _ _ _ R56 (t_add t11 tI_1 c57 e57) h
/-- PupilCoinModel.parts(IIJ)V -/
def g174 (X1 : Int) (X2 : Int) (X3 : Int) (S : gM) : Option (gM) :=
  g174_l6 X1 X2 X3
    (fun Y9 S10 =>
      if ¬ Y9 = 0 then
        g174_l57 X1 X2 X3 Y9
          (fun Y25 S26 =>
            if Y25 ≤ 0 then
              g174_l133 X1 X2 (-1)
                (fun S47 =>
                  g174_l215
                  
                    100000 0 S47)
                100000 Y25 S26
            else
              g174_l133 X1 X2 1
                (fun S58 =>
                  g174_l215
                  
                    100000 0 S58)
                100000 Y25 S26)
          100000 X3 0 S10
      else
        some S10)
    100000 0 0 S
theorem g174_ok {x1 : Int32} {X1 : Int} {x2 : Int32} {X2 : Int} {x3 : Int64} {X3 : Int} {S : gM} {M : vm_M} {r : gM} (hR : Rel S M) (t1 : x1.toInt = X1) (t2 : x2.toInt = X2) (t3 : x3.toInt = X3) (h : g174 X1 X2 X3 S = some r) : Mp gRV (f174 55 x1 x2 x3 M) r := by
  unfold g174 at h
  unfold f174
  refine g174_l6_ok ?_ t1 t2 t3 100000 _ _ _ _ _ _ hR tJ_0 tI_0 h
  · intro y9 Y9 S10 M10 R10 u9
    intro h
    refine k_ite (cJ_ne u9 tJ_0) h (fun c11 h => ?_) (fun c11 h => ?_)
    · refine g174_l57_ok ?_ t1 t2 t3 u9 100000 _ _ _ _ _ _ R10 t3 tI_0 h
      · intro y25 Y25 S26 M26 R26 u25
        intro h
        refine k_ite (cJ_le u25 tJ_0) h (fun c27 h => ?_) (fun c27 h => ?_)
        · refine g174_l133_ok ?_ t1 t2 tJ_m1 100000 _ _ _ _ R26 u25 h
          · intro S47 M47 R47
            intro h
            refine g174_l215_ok 100000 _ _ _ _ R47 tI_0 h
        · refine g174_l133_ok ?_ t1 t2 tJ_1 100000 _ _ _ _ R26 u25 h
          · intro S58 M58 R58
            intro h
            refine g174_l215_ok 100000 _ _ _ _ R58 tI_0 h
    · exact k_retV R10 h
def g170_l58 (X1 : Int) (X2 : Int) (X3 : Int) (X4 : Int) (X5 : Int) (X6 : Int) (X8 : Int) (K85 : gM → Option (gM)) : Nat → Int → gM → Option (gM)
  | 0 => fun _ _ => none
  | n + 1 => fun X9 S =>
    if 30 ≤ X9 then
      K85 S
    else
      w_ckI (30 * X8) fun V14 =>
      w_ckI (V14 + X9) fun V15 =>
      w_chk ((0 : Int) ≤ V15 ∧ V15 < 360) <|
      w_lt (wl S 85 V15 0) fun S17 =>
      w_ckI (X9 + 1) fun V18 =>
      g170_l58 X1 X2 X3 X4 X5 X6 X8 K85 n V18 S17
theorem g170_l58_ok {x1 : Int32} {X1 : Int} {x2 : Int32} {X2 : Int} {x3 : Int32} {X3 : Int} {x4 : Int32} {X4 : Int} {x5 : Int32} {X5 : Int} {x6 : Int64} {X6 : Int} {x8 : Int32} {X8 : Int} {k85 : vm_M → Option (vm_M)} {K85 : gM → Option (gM)} {r : gM} (hk85 : ∀ (S : gM) (M : vm_M), Rel S M → K85 S = some r → Mp gRV (k85 M) r) (t1 : x1.toInt = X1) (t2 : x2.toInt = X2) (t3 : x3.toInt = X3) (t4 : x4.toInt = X4) (t5 : x5.toInt = X5) (t6 : x6.toInt = X6) (t8 : x8.toInt = X8) : ∀ (n : Nat) (x9 : Int32) (X9 : Int) (S : gM) (M : vm_M), Rel S M → x9.toInt = X9 → g170_l58 X1 X2 X3 X4 X5 X6 X8 K85 n X9 S = some r → Mp gRV (f170_l58 55 x1 x2 x3 x4 x5 x6 x8 k85 n x9 M) r := by
  intro n
  induction n with
  | zero =>
    intro x9 X9 S M hR t9 h
    cases h
  | succ n ih =>
    intro x9 X9 S M hR t9 h
    dsimp only [g170_l58] at h
    dsimp only [f170_l58]
    refine k_ite (c_le tI_30 t9) h (fun c13 h => ?_) (fun c13 h => ?_)
    · exact hk85 _ _ hR h
    · refine k_grF 86 hR (hR.obF (by decide) rfl) rfl ?_
      obtain ⟨V14, e14, c14, h⟩ := ckI_so h
      obtain ⟨V15, e15, c15, h⟩ := ckI_so h
      refine k_some ?_
      obtain ⟨c16, h⟩ := chk_so h
      obtain ⟨S17, e17, h⟩ := lt_so h
      refine k_sl hR (hR.lnF (by decide) rfl) rfl (t_add (t_mul tI_30 t8 c14 e14) t9 c15 e15) c16 tJ_0 e17 (fun M17 R17 => ?_)
      obtain ⟨V18, e18, c18, h⟩ := ckI_so h
      exact ih _ _ _ _ R17 (t_add t9 tI_1 c18 e18) h
def g170_l106 (X1 : Int) (X2 : Int) (X3 : Int) (X4 : Int) (X5 : Int) (X6 : Int) (X8 : Int) (K160 : gM → Option (gM)) : Nat → Int → gM → Option (gM)
  | 0 => fun _ _ => none
  | n + 1 => fun X9 S =>
    if 5 ≤ X9 then
      K160 S
    else
      (g169 X1 S).bind fun p25 =>
      (g132 X8 X1 p25.1 X9 X2 p25.2).bind fun p26 =>
      if ¬ X8 = X4 then
        w_ckI (p26.1 + 0) fun V28 =>
        w_chk ((0 : Int) ≤ X9 ∧ X9 < 10) <|
        w_lt (wl p26.2 82 X9 V28) fun S30 =>
        w_ckI (X9 + 1) fun V31 =>
        g170_l106 X1 X2 X3 X4 X5 X6 X8 K160 n V31 S30
      else
        if ¬ X9 = X5 then
          w_ckI (p26.1 + 0) fun V33 =>
          w_chk ((0 : Int) ≤ X9 ∧ X9 < 10) <|
          w_lt (wl p26.2 82 X9 V33) fun S35 =>
          w_ckI (X9 + 1) fun V36 =>
          g170_l106 X1 X2 X3 X4 X5 X6 X8 K160 n V36 S35
        else
          w_ckI (p26.1 + 1) fun V37 =>
          w_chk ((0 : Int) ≤ X9 ∧ X9 < 10) <|
          w_lt (wl p26.2 82 X9 V37) fun S39 =>
          w_ckI (X9 + 1) fun V40 =>
          g170_l106 X1 X2 X3 X4 X5 X6 X8 K160 n V40 S39
theorem g170_l106_ok {x1 : Int32} {X1 : Int} {x2 : Int32} {X2 : Int} {x3 : Int32} {X3 : Int} {x4 : Int32} {X4 : Int} {x5 : Int32} {X5 : Int} {x6 : Int64} {X6 : Int} {x8 : Int32} {X8 : Int} {k160 : vm_M → Option (vm_M)} {K160 : gM → Option (gM)} {r : gM} (hk160 : ∀ (S : gM) (M : vm_M), Rel S M → K160 S = some r → Mp gRV (k160 M) r) (t1 : x1.toInt = X1) (t2 : x2.toInt = X2) (t3 : x3.toInt = X3) (t4 : x4.toInt = X4) (t5 : x5.toInt = X5) (t6 : x6.toInt = X6) (t8 : x8.toInt = X8) : ∀ (n : Nat) (x9 : Int32) (X9 : Int) (S : gM) (M : vm_M), Rel S M → x9.toInt = X9 → g170_l106 X1 X2 X3 X4 X5 X6 X8 K160 n X9 S = some r → Mp gRV (f170_l106 55 x1 x2 x3 x4 x5 x6 x8 k160 n x9 M) r := by
  intro n
  induction n with
  | zero =>
    intro x9 X9 S M hR t9 h
    cases h
  | succ n ih =>
    intro x9 X9 S M hR t9 h
    dsimp only [g170_l106] at h
    dsimp only [f170_l106]
    refine k_ite (c_le tI_5 t9) h (fun c24 h => ?_) (fun c24 h => ?_)
    · exact hk160 _ _ hR h
    · refine k_grF 83 hR (hR.obF (by decide) rfl) rfl ?_
      obtain ⟨p25, e25, h⟩ := bind_so h
      refine k_call (g169_ok hR t1 e25) (fun b25 R25 => ?_)
      refine k_ob (R25.2.obF (by decide) rfl) ?_
      obtain ⟨p26, e26, h⟩ := bind_so h
      refine k_call (g132_ok R25.2 t8 t1 R25.1 t9 t2 e26) (fun b26 R26 => ?_)
      refine k_ite (c_ne t8 t4) h (fun c27 h => ?_) (fun c27 h => ?_)
      · obtain ⟨V28, e28, c28, h⟩ := ckI_so h
        refine k_some ?_
        obtain ⟨c29, h⟩ := chk_so h
        obtain ⟨S30, e30, h⟩ := lt_so h
        refine k_sl R26.2 (R26.2.lnF (by decide) rfl) rfl t9 c29 (t_itol (t_add R26.1 tI_0 c28 e28)) e30 (fun M30 R30 => ?_)
        obtain ⟨V31, e31, c31, h⟩ := ckI_so h
        exact ih _ _ _ _ R30 (t_add t9 tI_1 c31 e31) h
      · refine k_ite (c_ne t9 t5) h (fun c32 h => ?_) (fun c32 h => ?_)
        · obtain ⟨V33, e33, c33, h⟩ := ckI_so h
          refine k_some ?_
          obtain ⟨c34, h⟩ := chk_so h
          obtain ⟨S35, e35, h⟩ := lt_so h
          refine k_sl R26.2 (R26.2.lnF (by decide) rfl) rfl t9 c34 (t_itol (t_add R26.1 tI_0 c33 e33)) e35 (fun M35 R35 => ?_)
          obtain ⟨V36, e36, c36, h⟩ := ckI_so h
          exact ih _ _ _ _ R35 (t_add t9 tI_1 c36 e36) h
        · obtain ⟨V37, e37, c37, h⟩ := ckI_so h
          refine k_some ?_
          obtain ⟨c38, h⟩ := chk_so h
          obtain ⟨S39, e39, h⟩ := lt_so h
          refine k_sl R26.2 (R26.2.lnF (by decide) rfl) rfl t9 c38 (t_itol (t_add R26.1 tI_1 c37 e37)) e39 (fun M39 R39 => ?_)
          obtain ⟨V40, e40, c40, h⟩ := ckI_so h
          exact ih _ _ _ _ R39 (t_add t9 tI_1 c40 e40) h
def g170_j396 (K431 : gM → Option (gM)) (K272 : Int → gM → Option (gM)) (X1 : Int) (X2 : Int) (X3 : Int) (X4 : Int) (X5 : Int) (X6 : Int) (X8 : Int) (X9 : Int) (Xs1 : Int) (Xs2 : Int) (S : gM) : Option (gM) :=
  w_chk ((0 : Int) ≤ Xs1 ∧ Xs1 < 360) <|
  w_lt (wl S 85 Xs1 Xs2) fun S85 =>
  w_chk ((0 : Int) ≤ X8 ∧ X8 < 12) <|
  w_lt (gl S85 89 X8) fun V87 =>
  w_ckI (30 * X8) fun V88 =>
  w_chk ((0 : Int) ≤ X9 ∧ X9 < 300) <|
  w_lt (gi S85 74 X9) fun V90 =>
  w_ckI (V88 + V90) fun V91 =>
  w_chk ((0 : Int) ≤ V91 ∧ V91 < 360) <|
  w_lt (gl S85 85 V91) fun V93 =>
  w_ckJ (V87 + V93) fun V94 =>
  w_chk ((0 : Int) ≤ X8 ∧ X8 < 12) <|
  w_lt (wl S85 89 X8 V94) fun S96 =>
  w_ckI (X9 + 1) fun V97 =>
  K272 V97 S96
theorem g170_j396_ok {k431 : vm_M → Option (vm_M)} {K431 : gM → Option (gM)} {k272 : Int32 → vm_M → Option (vm_M)} {K272 : Int → gM → Option (gM)} {x1 : Int32} {X1 : Int} {x2 : Int32} {X2 : Int} {x3 : Int32} {X3 : Int} {x4 : Int32} {X4 : Int} {x5 : Int32} {X5 : Int} {x6 : Int64} {X6 : Int} {x8 : Int32} {X8 : Int} {x9 : Int32} {X9 : Int} {xs1 : Int32} {Xs1 : Int} {xs2 : Int64} {Xs2 : Int} {S : gM} {M : vm_M} {r : gM} (hk431 : ∀ (S : gM) (M : vm_M), Rel S M → K431 S = some r → Mp gRV (k431 M) r) (hk272 : ∀ (y9 : Int32) (Y9 : Int) (S : gM) (M : vm_M), Rel S M → y9.toInt = Y9 → K272 Y9 S = some r → Mp gRV (k272 y9 M) r) (hR : Rel S M) (t1 : x1.toInt = X1) (t2 : x2.toInt = X2) (t3 : x3.toInt = X3) (t4 : x4.toInt = X4) (t5 : x5.toInt = X5) (t6 : x6.toInt = X6) (t8 : x8.toInt = X8) (t9 : x9.toInt = X9) (ts1 : xs1.toInt = Xs1) (ts2 : xs2.toInt = Xs2) (h : g170_j396 K431 K272 X1 X2 X3 X4 X5 X6 X8 X9 Xs1 Xs2 S = some r) : Mp gRV (f170_j396 k431 k272 55 x1 x2 x3 x4 x5 x6 x8 x9 (some 85) xs1 xs2 M) r := by
  unfold g170_j396 at h
  unfold f170_j396
  refine k_some ?_
  obtain ⟨c84, h⟩ := chk_so h
  obtain ⟨S85, e85, h⟩ := lt_so h
  refine k_sl hR (hR.lnF (by decide) rfl) rfl ts1 c84 ts2 e85 (fun M85 R85 => ?_)
  refine k_grF 90 R85 (R85.obF (by decide) rfl) rfl ?_
  refine k_some ?_
  obtain ⟨c86, h⟩ := chk_so h
  obtain ⟨V87, e87, h⟩ := lt_so h
  refine k_al R85 (R85.lnF (by decide) rfl) rfl t8 c86 e87 (fun v87 z87 => ?_)
  refine k_grF 86 R85 (R85.obF (by decide) rfl) rfl ?_
  obtain ⟨V88, e88, c88, h⟩ := ckI_so h
  refine k_grF 75 R85 (R85.obF (by decide) rfl) rfl ?_
  refine k_some ?_
  obtain ⟨c89, h⟩ := chk_so h
  obtain ⟨V90, e90, h⟩ := lt_so h
  refine k_ai R85 (R85.lnF (by decide) rfl) rfl t9 c89 e90 (fun v90 z90 => ?_)
  obtain ⟨V91, e91, c91, h⟩ := ckI_so h
  refine k_some ?_
  obtain ⟨c92, h⟩ := chk_so h
  obtain ⟨V93, e93, h⟩ := lt_so h
  refine k_al R85 (R85.lnF (by decide) rfl) rfl (t_add (t_mul tI_30 t8 c88 e88) z90 c91 e91) c92 e93 (fun v93 z93 => ?_)
  obtain ⟨V94, e94, c94, h⟩ := ckJ_so h
  obtain ⟨c95, h⟩ := chk_so h
  obtain ⟨S96, e96, h⟩ := lt_so h
  refine k_sl R85 (R85.lnF (by decide) rfl) rfl t8 c95 (tJ_add z87 z93 c94 e94) e96 (fun M96 R96 => ?_)
  obtain ⟨V97, e97, c97, h⟩ := ckI_so h
  exact hk272 _ _ _ _ R96 (t_add t9 tI_1 c97 e97) h
def g170_j348 (K431 : gM → Option (gM)) (K272 : Int → gM → Option (gM)) (X1 : Int) (X2 : Int) (X3 : Int) (X4 : Int) (X5 : Int) (X6 : Int) (X8 : Int) (X9 : Int) (Xs0 : Int) (S : gM) : Option (gM) :=
  w_ckI (30 * X8) fun V79 =>
  w_chk ((0 : Int) ≤ X9 ∧ X9 < 300) <|
  w_lt (gi S 74 X9) fun V81 =>
  w_ckI (V79 + V81) fun V82 =>
  if Xs0 = 0 then
    g170_j396 K431 K272 X1 X2 X3 X4 X5 X6 X8 X9 V82 0 S
  else
    w_chk ((0 : Int) ≤ X9 ∧ X9 < 300) <|
    w_lt (gi S 75 X9) fun V99 =>
    w_chk ((0 : Int) ≤ X9 ∧ X9 < 300) <|
    w_lt (gi S 76 X9) fun V101 =>
    (g168 V99 V101 X8 S).bind fun p102 =>
    g170_j396 K431 K272 X1 X2 X3 X4 X5 X6 X8 X9 V82 p102.1 p102.2
theorem g170_j348_ok {k431 : vm_M → Option (vm_M)} {K431 : gM → Option (gM)} {k272 : Int32 → vm_M → Option (vm_M)} {K272 : Int → gM → Option (gM)} {x1 : Int32} {X1 : Int} {x2 : Int32} {X2 : Int} {x3 : Int32} {X3 : Int} {x4 : Int32} {X4 : Int} {x5 : Int32} {X5 : Int} {x6 : Int64} {X6 : Int} {x8 : Int32} {X8 : Int} {x9 : Int32} {X9 : Int} {xs0 : Int32} {Xs0 : Int} {S : gM} {M : vm_M} {r : gM} (hk431 : ∀ (S : gM) (M : vm_M), Rel S M → K431 S = some r → Mp gRV (k431 M) r) (hk272 : ∀ (y9 : Int32) (Y9 : Int) (S : gM) (M : vm_M), Rel S M → y9.toInt = Y9 → K272 Y9 S = some r → Mp gRV (k272 y9 M) r) (hR : Rel S M) (t1 : x1.toInt = X1) (t2 : x2.toInt = X2) (t3 : x3.toInt = X3) (t4 : x4.toInt = X4) (t5 : x5.toInt = X5) (t6 : x6.toInt = X6) (t8 : x8.toInt = X8) (t9 : x9.toInt = X9) (ts0 : xs0.toInt = Xs0) (h : g170_j348 K431 K272 X1 X2 X3 X4 X5 X6 X8 X9 Xs0 S = some r) : Mp gRV (f170_j348 k431 k272 55 x1 x2 x3 x4 x5 x6 x8 x9 xs0 M) r := by
  unfold g170_j348 at h
  unfold f170_j348
  refine k_grF 86 hR (hR.obF (by decide) rfl) rfl ?_
  obtain ⟨V79, e79, c79, h⟩ := ckI_so h
  refine k_grF 75 hR (hR.obF (by decide) rfl) rfl ?_
  refine k_some ?_
  obtain ⟨c80, h⟩ := chk_so h
  obtain ⟨V81, e81, h⟩ := lt_so h
  refine k_ai hR (hR.lnF (by decide) rfl) rfl t9 c80 e81 (fun v81 z81 => ?_)
  obtain ⟨V82, e82, c82, h⟩ := ckI_so h
  refine k_ite (c_eq ts0 tI_0) h (fun c83 h => ?_) (fun c83 h => ?_)
  · exact g170_j396_ok hk431 hk272 hR t1 t2 t3 t4 t5 t6 t8 t9 (t_add (t_mul tI_30 t8 c79 e79) z81 c82 e82) tJ_0 h
  · refine k_grF 76 hR (hR.obF (by decide) rfl) rfl ?_
    refine k_some ?_
    obtain ⟨c98, h⟩ := chk_so h
    obtain ⟨V99, e99, h⟩ := lt_so h
    refine k_ai hR (hR.lnF (by decide) rfl) rfl t9 c98 e99 (fun v99 z99 => ?_)
    refine k_grF 77 hR (hR.obF (by decide) rfl) rfl ?_
    refine k_some ?_
    obtain ⟨c100, h⟩ := chk_so h
    obtain ⟨V101, e101, h⟩ := lt_so h
    refine k_ai hR (hR.lnF (by decide) rfl) rfl t9 c100 e101 (fun v101 z101 => ?_)
    refine k_ob (hR.obF (by decide) rfl) ?_
    obtain ⟨p102, e102, h⟩ := bind_so h
    refine k_call (g168_ok hR z99 z101 t8 e102) (fun b102 R102 => ?_)
    exact g170_j396_ok hk431 hk272 R102.2 t1 t2 t3 t4 t5 t6 t8 t9 (t_add (t_mul tI_30 t8 c79 e79) z81 c82 e82) R102.1 h
def g170_j343 (K431 : gM → Option (gM)) (K272 : Int → gM → Option (gM)) (X1 : Int) (X2 : Int) (X3 : Int) (X4 : Int) (X5 : Int) (X6 : Int) (X8 : Int) (X9 : Int) (S : gM) : Option (gM) :=
  g170_j348 K431 K272 X1 X2 X3 X4 X5 X6 X8 X9 1 S
theorem g170_j343_ok {k431 : vm_M → Option (vm_M)} {K431 : gM → Option (gM)} {k272 : Int32 → vm_M → Option (vm_M)} {K272 : Int → gM → Option (gM)} {x1 : Int32} {X1 : Int} {x2 : Int32} {X2 : Int} {x3 : Int32} {X3 : Int} {x4 : Int32} {X4 : Int} {x5 : Int32} {X5 : Int} {x6 : Int64} {X6 : Int} {x8 : Int32} {X8 : Int} {x9 : Int32} {X9 : Int} {S : gM} {M : vm_M} {r : gM} (hk431 : ∀ (S : gM) (M : vm_M), Rel S M → K431 S = some r → Mp gRV (k431 M) r) (hk272 : ∀ (y9 : Int32) (Y9 : Int) (S : gM) (M : vm_M), Rel S M → y9.toInt = Y9 → K272 Y9 S = some r → Mp gRV (k272 y9 M) r) (hR : Rel S M) (t1 : x1.toInt = X1) (t2 : x2.toInt = X2) (t3 : x3.toInt = X3) (t4 : x4.toInt = X4) (t5 : x5.toInt = X5) (t6 : x6.toInt = X6) (t8 : x8.toInt = X8) (t9 : x9.toInt = X9) (h : g170_j343 K431 K272 X1 X2 X3 X4 X5 X6 X8 X9 S = some r) : Mp gRV (f170_j343 k431 k272 55 x1 x2 x3 x4 x5 x6 x8 x9 M) r := by
  unfold g170_j343 at h
  unfold f170_j343
  exact g170_j348_ok hk431 hk272 hR t1 t2 t3 t4 t5 t6 t8 t9 tI_1 h
def g170_l272 (X1 : Int) (X2 : Int) (X3 : Int) (X4 : Int) (X5 : Int) (X6 : Int) (X8 : Int) (K431 : gM → Option (gM)) : Nat → Int → gM → Option (gM)
  | 0 => fun _ _ => none
  | n + 1 => fun X9 S =>
    w_ckI (30 * X3) fun V66 =>
    w_chk ((0 : Int) ≤ X3 ∧ X3 < 10) <|
    w_lt (gi S 70 X3) fun V68 =>
    w_ckI (V66 + V68) fun V69 =>
    if V69 ≤ X9 then
      K431 S
    else
      w_chk ((0 : Int) ≤ X9 ∧ X9 < 300) <|
      w_lt (gi S 73 X9) fun V72 =>
      if V72 = 0 then
        w_chk ((0 : Int) ≤ X9 ∧ X9 < 300) <|
        w_lt (gi S 76 X9) fun V75 =>
        w_chk ((0 : Int) ≤ X9 ∧ X9 < 300) <|
        w_lt (gi S 77 X9) fun V77 =>
        if V75 = V77 then
          g170_j343 K431 (g170_l272 X1 X2 X3 X4 X5 X6 X8 K431 n) X1 X2 X3 X4 X5 X6 X8 X9 S
        else
          w_chk ((0 : Int) ≤ X9 ∧ X9 < 300) <|
          w_lt (gi S 76 X9) fun V104 =>
          w_chk ((0 : Int) ≤ X9 ∧ X9 < 300) <|
          w_lt (gi S 77 X9) fun V106 =>
          (g168 V104 V106 X8 S).bind fun p107 =>
          if ¬ p107.1 = 1 then
            g170_j348 K431 (g170_l272 X1 X2 X3 X4 X5 X6 X8 K431 n) X1 X2 X3 X4 X5 X6 X8 X9 0 p107.2
          else
            g170_j343 K431 (g170_l272 X1 X2 X3 X4 X5 X6 X8 K431 n) X1 X2 X3 X4 X5 X6 X8 X9 p107.2
      else
        w_ckI (X9 + 1) fun V109 =>
        g170_l272 X1 X2 X3 X4 X5 X6 X8 K431 n V109 S
theorem g170_l272_ok {x1 : Int32} {X1 : Int} {x2 : Int32} {X2 : Int} {x3 : Int32} {X3 : Int} {x4 : Int32} {X4 : Int} {x5 : Int32} {X5 : Int} {x6 : Int64} {X6 : Int} {x8 : Int32} {X8 : Int} {k431 : vm_M → Option (vm_M)} {K431 : gM → Option (gM)} {r : gM} (hk431 : ∀ (S : gM) (M : vm_M), Rel S M → K431 S = some r → Mp gRV (k431 M) r) (t1 : x1.toInt = X1) (t2 : x2.toInt = X2) (t3 : x3.toInt = X3) (t4 : x4.toInt = X4) (t5 : x5.toInt = X5) (t6 : x6.toInt = X6) (t8 : x8.toInt = X8) : ∀ (n : Nat) (x9 : Int32) (X9 : Int) (S : gM) (M : vm_M), Rel S M → x9.toInt = X9 → g170_l272 X1 X2 X3 X4 X5 X6 X8 K431 n X9 S = some r → Mp gRV (f170_l272 55 x1 x2 x3 x4 x5 x6 x8 k431 n x9 M) r := by
  intro n
  induction n with
  | zero =>
    intro x9 X9 S M hR t9 h
    cases h
  | succ n ih =>
    intro x9 X9 S M hR t9 h
    dsimp only [g170_l272] at h
    dsimp only [f170_l272]
    obtain ⟨V66, e66, c66, h⟩ := ckI_so h
    refine k_grF 71 hR (hR.obF (by decide) rfl) rfl ?_
    refine k_some ?_
    obtain ⟨c67, h⟩ := chk_so h
    obtain ⟨V68, e68, h⟩ := lt_so h
    refine k_ai hR (hR.lnF (by decide) rfl) rfl t3 c67 e68 (fun v68 z68 => ?_)
    obtain ⟨V69, e69, c69, h⟩ := ckI_so h
    refine k_ite (c_le (t_add (t_mul tI_30 t3 c66 e66) z68 c69 e69) t9) h (fun c70 h => ?_) (fun c70 h => ?_)
    · exact hk431 _ _ hR h
    · refine k_grF 74 hR (hR.obF (by decide) rfl) rfl ?_
      refine k_some ?_
      obtain ⟨c71, h⟩ := chk_so h
      obtain ⟨V72, e72, h⟩ := lt_so h
      refine k_ai hR (hR.lnF (by decide) rfl) rfl t9 c71 e72 (fun v72 z72 => ?_)
      refine k_ite (c_eq z72 tI_0) h (fun c73 h => ?_) (fun c73 h => ?_)
      · refine k_grF 77 hR (hR.obF (by decide) rfl) rfl ?_
        refine k_some ?_
        obtain ⟨c74, h⟩ := chk_so h
        obtain ⟨V75, e75, h⟩ := lt_so h
        refine k_ai hR (hR.lnF (by decide) rfl) rfl t9 c74 e75 (fun v75 z75 => ?_)
        refine k_grF 78 hR (hR.obF (by decide) rfl) rfl ?_
        refine k_some ?_
        obtain ⟨c76, h⟩ := chk_so h
        obtain ⟨V77, e77, h⟩ := lt_so h
        refine k_ai hR (hR.lnF (by decide) rfl) rfl t9 c76 e77 (fun v77 z77 => ?_)
        refine k_ite (c_eq z75 z77) h (fun c78 h => ?_) (fun c78 h => ?_)
        · exact g170_j343_ok hk431 ih hR t1 t2 t3 t4 t5 t6 t8 t9 h
        · refine k_grF 77 hR (hR.obF (by decide) rfl) rfl ?_
          refine k_some ?_
          obtain ⟨c103, h⟩ := chk_so h
          obtain ⟨V104, e104, h⟩ := lt_so h
          refine k_ai hR (hR.lnF (by decide) rfl) rfl t9 c103 e104 (fun v104 z104 => ?_)
          refine k_grF 78 hR (hR.obF (by decide) rfl) rfl ?_
          refine k_some ?_
          obtain ⟨c105, h⟩ := chk_so h
          obtain ⟨V106, e106, h⟩ := lt_so h
          refine k_ai hR (hR.lnF (by decide) rfl) rfl t9 c105 e106 (fun v106 z106 => ?_)
          refine k_ob (hR.obF (by decide) rfl) ?_
          obtain ⟨p107, e107, h⟩ := bind_so h
          refine k_call (g168_ok hR z104 z106 t8 e107) (fun b107 R107 => ?_)
          refine k_ite (cJ_ne R107.1 tJ_1) h (fun c108 h => ?_) (fun c108 h => ?_)
          · exact g170_j348_ok hk431 ih R107.2 t1 t2 t3 t4 t5 t6 t8 t9 tI_0 h
          · exact g170_j343_ok hk431 ih R107.2 t1 t2 t3 t4 t5 t6 t8 t9 h
      · obtain ⟨V109, e109, c109, h⟩ := ckI_so h
        exact ih _ _ _ _ hR (t_add t9 tI_1 c109 e109) h
def g170_l6 (X1 : Int) (X2 : Int) (X3 : Int) (X4 : Int) (X5 : Int) (K457 : Int → gM → Option (gM)) : Nat → Int → Int → gM → Option (gM)
  | 0 => fun _ _ _ => none
  | n + 1 => fun X6 X8 S =>
    w_lt (gi S 55 1) fun V1 =>
    if V1 ≤ X8 then
      K457 X6 S
    else
      w_chk ((0 : Int) ≤ X8 ∧ X8 < 12) <|
      w_lt (wl S 86 X8 0) fun S4 =>
      w_chk ((0 : Int) ≤ X8 ∧ X8 < 12) <|
      w_lt (wl S4 87 X8 0) fun S6 =>
      w_chk ((0 : Int) ≤ X8 ∧ X8 < 12) <|
      w_lt (wl S6 88 X8 0) fun S8 =>
      w_chk ((0 : Int) ≤ X8 ∧ X8 < 12) <|
      w_lt (wl S8 89 X8 0) fun S10 =>
      w_chk ((0 : Int) ≤ X8 ∧ X8 < 12) <|
      w_lt (wl S10 92 X8 0) fun S12 =>
      g170_l58 X1 X2 X3 X4 X5 X6 X8
        (fun S19 =>
          (g122 X8 X1 S19).bind fun p20 =>
          if p20.1 = 0 then
            w_ckI (X8 + 1) fun V22 =>
            g170_l6 X1 X2 X3 X4 X5 K457 n X6 V22 p20.2
          else
            if ¬ X3 = (-1) then
              g170_l106 X1 X2 X3 X4 X5 X6 X8
                (fun S41 =>
                  w_lt (gl S41 82 0) fun V42 =>
                  w_lt (gl S41 82 1) fun V43 =>
                  w_ckJ (V42 + V43) fun V44 =>
                  w_lt (gl S41 82 2) fun V45 =>
                  w_ckJ (V44 + V45) fun V46 =>
                  w_lt (wl S41 82 5 V46) fun S47 =>
                  w_chk ((0 : Int) ≤ X8 ∧ X8 < 12) <|
                  w_lt (gi S47 56 X8) fun V49 =>
                  w_chk ((0 : Int) ≤ V49 ∧ V49 < 8) <|
                  w_lt (gi S47 59 V49) fun V51 =>
                  w_lt (wl S47 82 6 V51) fun S52 =>
                  (g123 X8 X1 S52).bind fun p53 =>
                  w_lt (wl p53.2 82 7 p53.1) fun S54 =>
                  w_chk ((0 : Int) ≤ X8 ∧ X8 < 12) <|
                  w_lt (gl S54 90 X8) fun V56 =>
                  (g165 V56 S54).bind fun p57 =>
                  w_lt (wl p57.2 82 8 p57.1) fun S58 =>
                  w_chk ((0 : Int) ≤ X8 ∧ X8 < 12) <|
                  w_lt (gi S58 56 X8) fun V60 =>
                  w_lt (wl S58 82 9 V60) fun S61 =>
                  w_lt (gl S61 82 5) fun V62 =>
                  w_chk ((0 : Int) ≤ X8 ∧ X8 < 12) <|
                  w_lt (wl S61 92 X8 V62) fun S64 =>
                  w_ckI (30 * X3) fun V65 =>
                  g170_l272 X1 X2 X3 X4 X5 X6 X8
                    (fun S110 =>
                      (g171 X8 X1 X3 S110).bind fun p111 =>
                      w_chk ((0 : Int) ≤ X8 ∧ X8 < 12) <|
                      w_lt (gl p111 89 X8) fun V113 =>
                      w_ckJ (X6 + V113) fun V114 =>
                      w_ckI (X8 + 1) fun V115 =>
                      g170_l6 X1 X2 X3 X4 X5 K457 n V114 V115 p111)
                    100000 V65 S64)
                100000 0 p20.2
            else
              w_ckI (X8 + 1) fun V116 =>
              g170_l6 X1 X2 X3 X4 X5 K457 n X6 V116 p20.2)
        100000 0 S12
theorem g170_l6_ok {x1 : Int32} {X1 : Int} {x2 : Int32} {X2 : Int} {x3 : Int32} {X3 : Int} {x4 : Int32} {X4 : Int} {x5 : Int32} {X5 : Int} {k457 : Int64 → vm_M → Option (vm_M)} {K457 : Int → gM → Option (gM)} {r : gM} (hk457 : ∀ (y6 : Int64) (Y6 : Int) (S : gM) (M : vm_M), Rel S M → y6.toInt = Y6 → K457 Y6 S = some r → Mp gRV (k457 y6 M) r) (t1 : x1.toInt = X1) (t2 : x2.toInt = X2) (t3 : x3.toInt = X3) (t4 : x4.toInt = X4) (t5 : x5.toInt = X5) : ∀ (n : Nat) (x6 : Int64) (X6 : Int) (x8 : Int32) (X8 : Int) (S : gM) (M : vm_M), Rel S M → x6.toInt = X6 → x8.toInt = X8 → g170_l6 X1 X2 X3 X4 X5 K457 n X6 X8 S = some r → Mp gRV (f170_l6 55 x1 x2 x3 x4 x5 k457 n x6 x8 M) r := by
  intro n
  induction n with
  | zero =>
    intro x6 X6 x8 X8 S M hR t6 t8 h
    cases h
  | succ n ih =>
    intro x6 X6 x8 X8 S M hR t6 t8 h
    dsimp only [g170_l6] at h
    dsimp only [f170_l6]
    obtain ⟨V1, e1, h⟩ := lt_so h
    refine k_gi hR (hR.obF (by decide) rfl) rfl e1 (fun v1 z1 => ?_)
    refine k_ite (c_le z1 t8) h (fun c2 h => ?_) (fun c2 h => ?_)
    · exact hk457 _ _ _ _ hR t6 h
    · refine k_grF 87 hR (hR.obF (by decide) rfl) rfl ?_
      refine k_some ?_
      obtain ⟨c3, h⟩ := chk_so h
      obtain ⟨S4, e4, h⟩ := lt_so h
      refine k_sl hR (hR.lnF (by decide) rfl) rfl t8 c3 tJ_0 e4 (fun M4 R4 => ?_)
      refine k_grF 88 R4 (R4.obF (by decide) rfl) rfl ?_
      refine k_some ?_
      obtain ⟨c5, h⟩ := chk_so h
      obtain ⟨S6, e6, h⟩ := lt_so h
      refine k_sl R4 (R4.lnF (by decide) rfl) rfl t8 c5 tJ_0 e6 (fun M6 R6 => ?_)
      refine k_grF 89 R6 (R6.obF (by decide) rfl) rfl ?_
      refine k_some ?_
      obtain ⟨c7, h⟩ := chk_so h
      obtain ⟨S8, e8, h⟩ := lt_so h
      refine k_sl R6 (R6.lnF (by decide) rfl) rfl t8 c7 tJ_0 e8 (fun M8 R8 => ?_)
      refine k_grF 90 R8 (R8.obF (by decide) rfl) rfl ?_
      refine k_some ?_
      obtain ⟨c9, h⟩ := chk_so h
      obtain ⟨S10, e10, h⟩ := lt_so h
      refine k_sl R8 (R8.lnF (by decide) rfl) rfl t8 c9 tJ_0 e10 (fun M10 R10 => ?_)
      refine k_grF 93 R10 (R10.obF (by decide) rfl) rfl ?_
      refine k_some ?_
      obtain ⟨c11, h⟩ := chk_so h
      obtain ⟨S12, e12, h⟩ := lt_so h
      refine k_sl R10 (R10.lnF (by decide) rfl) rfl t8 c11 tJ_0 e12 (fun M12 R12 => ?_)
      refine g170_l58_ok ?_ t1 t2 t3 t4 t5 t6 t8 100000 _ _ _ _ R12 tI_0 h
      · intro S19 M19 R19
        intro h
        refine k_ob (R19.obF (by decide) rfl) ?_
        obtain ⟨p20, e20, h⟩ := bind_so h
        refine k_call (g122_ok R19 t8 t1 e20) (fun b20 R20 => ?_)
        refine k_ite (c_eq R20.1 tI_0) h (fun c21 h => ?_) (fun c21 h => ?_)
        · obtain ⟨V22, e22, c22, h⟩ := ckI_so h
          exact ih _ _ _ _ _ _ R20.2 t6 (t_add t8 tI_1 c22 e22) h
        · refine k_ite (c_ne t3 tI_m1) h (fun c23 h => ?_) (fun c23 h => ?_)
          · refine g170_l106_ok ?_ t1 t2 t3 t4 t5 t6 t8 100000 _ _ _ _ R20.2 tI_0 h
            · intro S41 M41 R41
              intro h
              refine k_grF 83 R41 (R41.obF (by decide) rfl) rfl ?_
              refine k_grF 83 R41 (R41.obF (by decide) rfl) rfl ?_
              refine k_some ?_
              obtain ⟨V42, e42, h⟩ := lt_so h
              refine k_al R41 (R41.lnF (by decide) rfl) rfl tI_0 (by decide) e42 (fun v42 z42 => ?_)
              refine k_grF 83 R41 (R41.obF (by decide) rfl) rfl ?_
              refine k_some ?_
              obtain ⟨V43, e43, h⟩ := lt_so h
              refine k_al R41 (R41.lnF (by decide) rfl) rfl tI_1 (by decide) e43 (fun v43 z43 => ?_)
              obtain ⟨V44, e44, c44, h⟩ := ckJ_so h
              refine k_grF 83 R41 (R41.obF (by decide) rfl) rfl ?_
              refine k_some ?_
              obtain ⟨V45, e45, h⟩ := lt_so h
              refine k_al R41 (R41.lnF (by decide) rfl) rfl tI_2 (by decide) e45 (fun v45 z45 => ?_)
              obtain ⟨V46, e46, c46, h⟩ := ckJ_so h
              obtain ⟨S47, e47, h⟩ := lt_so h
              refine k_sl R41 (R41.lnF (by decide) rfl) rfl tI_5 (by decide) (tJ_add (tJ_add z42 z43 c44 e44) z45 c46 e46) e47 (fun M47 R47 => ?_)
              refine k_grF 83 R47 (R47.obF (by decide) rfl) rfl ?_
              refine k_grF 60 R47 (R47.obF (by decide) rfl) rfl ?_
              refine k_grF 57 R47 (R47.obF (by decide) rfl) rfl ?_
              refine k_some ?_
              obtain ⟨c48, h⟩ := chk_so h
              obtain ⟨V49, e49, h⟩ := lt_so h
              refine k_ai R47 (R47.lnF (by decide) rfl) rfl t8 c48 e49 (fun v49 z49 => ?_)
              refine k_some ?_
              obtain ⟨c50, h⟩ := chk_so h
              obtain ⟨V51, e51, h⟩ := lt_so h
              refine k_ai R47 (R47.lnF (by decide) rfl) rfl z49 c50 e51 (fun v51 z51 => ?_)
              refine k_some ?_
              obtain ⟨S52, e52, h⟩ := lt_so h
              refine k_sl R47 (R47.lnF (by decide) rfl) rfl tI_6 (by decide) (t_itol z51) e52 (fun M52 R52 => ?_)
              refine k_grF 83 R52 (R52.obF (by decide) rfl) rfl ?_
              refine k_ob (R52.obF (by decide) rfl) ?_
              obtain ⟨p53, e53, h⟩ := bind_so h
              refine k_call (g123_ok R52 t8 t1 e53) (fun b53 R53 => ?_)
              refine k_some ?_
              obtain ⟨S54, e54, h⟩ := lt_so h
              refine k_sl R53.2 (R53.2.lnF (by decide) rfl) rfl tI_7 (by decide) (t_itol R53.1) e54 (fun M54 R54 => ?_)
              refine k_grF 83 R54 (R54.obF (by decide) rfl) rfl ?_
              refine k_grF 91 R54 (R54.obF (by decide) rfl) rfl ?_
              refine k_some ?_
              obtain ⟨c55, h⟩ := chk_so h
              obtain ⟨V56, e56, h⟩ := lt_so h
              refine k_al R54 (R54.lnF (by decide) rfl) rfl t8 c55 e56 (fun v56 z56 => ?_)
              obtain ⟨p57, e57, h⟩ := bind_so h
              refine k_call (g165_ok R54 z56 e57) (fun b57 R57 => ?_)
              refine k_some ?_
              obtain ⟨S58, e58, h⟩ := lt_so h
              refine k_sl R57.2 (R57.2.lnF (by decide) rfl) rfl tI_8 (by decide) R57.1 e58 (fun M58 R58 => ?_)
              refine k_grF 83 R58 (R58.obF (by decide) rfl) rfl ?_
              refine k_grF 57 R58 (R58.obF (by decide) rfl) rfl ?_
              refine k_some ?_
              obtain ⟨c59, h⟩ := chk_so h
              obtain ⟨V60, e60, h⟩ := lt_so h
              refine k_ai R58 (R58.lnF (by decide) rfl) rfl t8 c59 e60 (fun v60 z60 => ?_)
              refine k_some ?_
              obtain ⟨S61, e61, h⟩ := lt_so h
              refine k_sl R58 (R58.lnF (by decide) rfl) rfl tI_9 (by decide) (t_itol z60) e61 (fun M61 R61 => ?_)
              refine k_grF 93 R61 (R61.obF (by decide) rfl) rfl ?_
              refine k_grF 83 R61 (R61.obF (by decide) rfl) rfl ?_
              refine k_some ?_
              obtain ⟨V62, e62, h⟩ := lt_so h
              refine k_al R61 (R61.lnF (by decide) rfl) rfl tI_5 (by decide) e62 (fun v62 z62 => ?_)
              refine k_some ?_
              obtain ⟨c63, h⟩ := chk_so h
              obtain ⟨S64, e64, h⟩ := lt_so h
              refine k_sl R61 (R61.lnF (by decide) rfl) rfl t8 c63 z62 e64 (fun M64 R64 => ?_)
              obtain ⟨V65, e65, c65, h⟩ := ckI_so h
              refine g170_l272_ok ?_ t1 t2 t3 t4 t5 t6 t8 100000 _ _ _ _ R64 (t_mul tI_30 t3 c65 e65) h
              · intro S110 M110 R110
                intro h
                refine k_ob (R110.obF (by decide) rfl) ?_
                obtain ⟨p111, e111, h⟩ := bind_so h
                refine k_call (g171_ok R110 t8 t1 t3 e111) (fun M111 R111 => ?_)
                refine k_grF 90 R111 (R111.obF (by decide) rfl) rfl ?_
                refine k_some ?_
                obtain ⟨c112, h⟩ := chk_so h
                obtain ⟨V113, e113, h⟩ := lt_so h
                refine k_al R111 (R111.lnF (by decide) rfl) rfl t8 c112 e113 (fun v113 z113 => ?_)
                obtain ⟨V114, e114, c114, h⟩ := ckJ_so h
                obtain ⟨V115, e115, c115, h⟩ := ckI_so h
                exact ih _ _ _ _ _ _ R111 (tJ_add t6 z113 c114 e114) (t_add t8 tI_1 c115 e115) h
          · obtain ⟨V116, e116, c116, h⟩ := ckI_so h
            exact ih _ _ _ _ _ _ R20.2 t6 (t_add t8 tI_1 c116 e116) h
/-- PupilCoinModel.works(IIIII)V -/
def g170 (X1 : Int) (X2 : Int) (X3 : Int) (X4 : Int) (X5 : Int) (S : gM) : Option (gM) :=
  g170_l6 X1 X2 X3 X4 X5
    (fun Y117 S118 =>
      (g162 X3 3 (-1) S118).bind fun p119 =>
      if p119.1 = (-1) then
        some p119.2
      else
        (g162 X3 3 (-1) p119.2).bind fun p121 =>
        w_ckJ (p121.1 - Y117) fun V122 =>
        (g174 X1 X3 V122 p121.2).bind fun p123 =>
        some p123)
    100000 0 0 S
theorem g170_ok {x1 : Int32} {X1 : Int} {x2 : Int32} {X2 : Int} {x3 : Int32} {X3 : Int} {x4 : Int32} {X4 : Int} {x5 : Int32} {X5 : Int} {S : gM} {M : vm_M} {r : gM} (hR : Rel S M) (t1 : x1.toInt = X1) (t2 : x2.toInt = X2) (t3 : x3.toInt = X3) (t4 : x4.toInt = X4) (t5 : x5.toInt = X5) (h : g170 X1 X2 X3 X4 X5 S = some r) : Mp gRV (f170 55 x1 x2 x3 x4 x5 M) r := by
  unfold g170 at h
  unfold f170
  refine g170_l6_ok ?_ t1 t2 t3 t4 t5 100000 _ _ _ _ _ _ hR tJ_0 tI_0 h
  · intro y117 Y117 S118 M118 R118 u117
    intro h
    refine k_ob (R118.obF (by decide) rfl) ?_
    obtain ⟨p119, e119, h⟩ := bind_so h
    refine k_call (g162_ok R118 t3 tI_3 tI_m1 e119) (fun b119 R119 => ?_)
    refine k_ite (c_eq R119.1 tI_m1) h (fun c120 h => ?_) (fun c120 h => ?_)
    · exact k_retV R119.2 h
    · refine k_ob (R119.2.obF (by decide) rfl) ?_
      obtain ⟨p121, e121, h⟩ := bind_so h
      refine k_call (g162_ok R119.2 t3 tI_3 tI_m1 e121) (fun b121 R121 => ?_)
      obtain ⟨V122, e122, c122, h⟩ := ckJ_so h
      refine k_ob (R121.2.obF (by decide) rfl) ?_
      obtain ⟨p123, e123, h⟩ := bind_so h
      refine k_call (g174_ok R121.2 t1 t3 (tJ_sub (t_itol R121.1) u117 c122 e122) e123) (fun M123 R123 => ?_)
      exact k_retV R123 h
def g176_l2 (X1 : Int) (K28 : gM → Option (gM)) : Nat → Int → gM → Option (gM)
  | 0 => fun _ _ => none
  | n + 1 => fun X2 S =>
    if 12 ≤ X2 then
      K28 S
    else
      w_chk ((0 : Int) ≤ X2 ∧ X2 < 12) <|
      w_lt (wl S 90 X2 0) fun S3 =>
      w_chk ((0 : Int) ≤ X2 ∧ X2 < 12) <|
      w_lt (wl S3 91 X2 0) fun S5 =>
      w_ckI (X2 + 1) fun V6 =>
      g176_l2 X1 K28 n V6 S5
theorem g176_l2_ok {x1 : Int32} {X1 : Int} {k28 : vm_M → Option (vm_M)} {K28 : gM → Option (gM)} {r : gM} (hk28 : ∀ (S : gM) (M : vm_M), Rel S M → K28 S = some r → Mp gRV (k28 M) r) (t1 : x1.toInt = X1) : ∀ (n : Nat) (x2 : Int32) (X2 : Int) (S : gM) (M : vm_M), Rel S M → x2.toInt = X2 → g176_l2 X1 K28 n X2 S = some r → Mp gRV (f176_l2 55 x1 k28 n x2 M) r := by
  intro n
  induction n with
  | zero =>
    intro x2 X2 S M hR t2 h
    cases h
  | succ n ih =>
    intro x2 X2 S M hR t2 h
    dsimp only [g176_l2] at h
    dsimp only [f176_l2]
    refine k_ite (c_le tI_12 t2) h (fun c1 h => ?_) (fun c1 h => ?_)
    · exact hk28 _ _ hR h
    · refine k_grF 91 hR (hR.obF (by decide) rfl) rfl ?_
      refine k_some ?_
      obtain ⟨c2, h⟩ := chk_so h
      obtain ⟨S3, e3, h⟩ := lt_so h
      refine k_sl hR (hR.lnF (by decide) rfl) rfl t2 c2 tJ_0 e3 (fun M3 R3 => ?_)
      refine k_grF 92 R3 (R3.obF (by decide) rfl) rfl ?_
      refine k_some ?_
      obtain ⟨c4, h⟩ := chk_so h
      obtain ⟨S5, e5, h⟩ := lt_so h
      refine k_sl R3 (R3.lnF (by decide) rfl) rfl t2 c4 tJ_0 e5 (fun M5 R5 => ?_)
      obtain ⟨V6, e6, c6, h⟩ := ckI_so h
      exact ih _ _ _ _ R5 (t_add t2 tI_1 c6 e6) h
def g176_l79 (X1 : Int) (X2 : Int) (X3 : Int) (X4 : Int) (K125 : gM → Option (gM)) : Nat → Int → gM → Option (gM)
  | 0 => fun _ _ => none
  | n + 1 => fun X5 S =>
    w_lt (gi S 55 1) fun V17 =>
    if V17 ≤ X5 then
      K125 S
    else
      w_ckI (X2 + 1) fun V19 =>
      (g131 X5 X4 V19 S).bind fun p20 =>
      if p20.1 = 0 then
        w_ckI (X5 + 1) fun V22 =>
        g176_l79 X1 X2 X3 X4 K125 n V22 p20.2
      else
        w_chk ((0 : Int) ≤ X4 ∧ X4 < 12) <|
        w_lt (gl p20.2 90 X4) fun V24 =>
        w_chk ((0 : Int) ≤ X5 ∧ X5 < 12) <|
        w_lt (gl p20.2 89 X5) fun V26 =>
        w_ckJ (V24 + V26) fun V27 =>
        w_chk ((0 : Int) ≤ X4 ∧ X4 < 12) <|
        w_lt (wl p20.2 90 X4 V27) fun S29 =>
        w_ckI (X5 + 1) fun V30 =>
        g176_l79 X1 X2 X3 X4 K125 n V30 S29
theorem g176_l79_ok {x1 : Int32} {X1 : Int} {x2 : Int32} {X2 : Int} {x3 : Int32} {X3 : Int} {x4 : Int32} {X4 : Int} {k125 : vm_M → Option (vm_M)} {K125 : gM → Option (gM)} {r : gM} (hk125 : ∀ (S : gM) (M : vm_M), Rel S M → K125 S = some r → Mp gRV (k125 M) r) (t1 : x1.toInt = X1) (t2 : x2.toInt = X2) (t3 : x3.toInt = X3) (t4 : x4.toInt = X4) : ∀ (n : Nat) (x5 : Int32) (X5 : Int) (S : gM) (M : vm_M), Rel S M → x5.toInt = X5 → g176_l79 X1 X2 X3 X4 K125 n X5 S = some r → Mp gRV (f176_l79 55 x1 x2 x3 x4 k125 n x5 M) r := by
  intro n
  induction n with
  | zero =>
    intro x5 X5 S M hR t5 h
    cases h
  | succ n ih =>
    intro x5 X5 S M hR t5 h
    dsimp only [g176_l79] at h
    dsimp only [f176_l79]
    obtain ⟨V17, e17, h⟩ := lt_so h
    refine k_gi hR (hR.obF (by decide) rfl) rfl e17 (fun v17 z17 => ?_)
    refine k_ite (c_le z17 t5) h (fun c18 h => ?_) (fun c18 h => ?_)
    · exact hk125 _ _ hR h
    · obtain ⟨V19, e19, c19, h⟩ := ckI_so h
      refine k_ob (hR.obF (by decide) rfl) ?_
      obtain ⟨p20, e20, h⟩ := bind_so h
      refine k_call (g131_ok hR t5 t4 (t_add t2 tI_1 c19 e19) e20) (fun b20 R20 => ?_)
      refine k_ite (c_eq R20.1 tI_0) h (fun c21 h => ?_) (fun c21 h => ?_)
      · obtain ⟨V22, e22, c22, h⟩ := ckI_so h
        exact ih _ _ _ _ R20.2 (t_add t5 tI_1 c22 e22) h
      · refine k_grF 91 R20.2 (R20.2.obF (by decide) rfl) rfl ?_
        refine k_some ?_
        obtain ⟨c23, h⟩ := chk_so h
        obtain ⟨V24, e24, h⟩ := lt_so h
        refine k_al R20.2 (R20.2.lnF (by decide) rfl) rfl t4 c23 e24 (fun v24 z24 => ?_)
        refine k_grF 90 R20.2 (R20.2.obF (by decide) rfl) rfl ?_
        refine k_some ?_
        obtain ⟨c25, h⟩ := chk_so h
        obtain ⟨V26, e26, h⟩ := lt_so h
        refine k_al R20.2 (R20.2.lnF (by decide) rfl) rfl t5 c25 e26 (fun v26 z26 => ?_)
        obtain ⟨V27, e27, c27, h⟩ := ckJ_so h
        obtain ⟨c28, h⟩ := chk_so h
        obtain ⟨S29, e29, h⟩ := lt_so h
        refine k_sl R20.2 (R20.2.lnF (by decide) rfl) rfl t4 c28 (tJ_add z24 z26 c27 e27) e29 (fun M29 R29 => ?_)
        obtain ⟨V30, e30, c30, h⟩ := ckI_so h
        exact ih _ _ _ _ R29 (t_add t5 tI_1 c30 e30) h
def g176_l59 (X1 : Int) (X2 : Int) (X3 : Int) (K153 : gM → Option (gM)) : Nat → Int → gM → Option (gM)
  | 0 => fun _ _ => none
  | n + 1 => fun X4 S =>
    w_lt (gi S 55 1) fun V13 =>
    if V13 ≤ X4 then
      K153 S
    else
      w_chk ((0 : Int) ≤ X4 ∧ X4 < 12) <|
      w_lt (wl S 90 X4 0) fun S16 =>
      g176_l79 X1 X2 X3 X4
        (fun S31 =>
          w_ckI (X2 + 1) fun V32 =>
          (g169 X2 S31).bind fun p33 =>
          (g133 X4 V32 p33.1 X3 p33.2).bind fun p34 =>
          w_chk ((0 : Int) ≤ X4 ∧ X4 < 12) <|
          w_lt (wl p34.2 91 X4 p34.1) fun S36 =>
          w_ckI (X4 + 1) fun V37 =>
          g176_l59 X1 X2 X3 K153 n V37 S36)
        100000 0 S16
theorem g176_l59_ok {x1 : Int32} {X1 : Int} {x2 : Int32} {X2 : Int} {x3 : Int32} {X3 : Int} {k153 : vm_M → Option (vm_M)} {K153 : gM → Option (gM)} {r : gM} (hk153 : ∀ (S : gM) (M : vm_M), Rel S M → K153 S = some r → Mp gRV (k153 M) r) (t1 : x1.toInt = X1) (t2 : x2.toInt = X2) (t3 : x3.toInt = X3) : ∀ (n : Nat) (x4 : Int32) (X4 : Int) (S : gM) (M : vm_M), Rel S M → x4.toInt = X4 → g176_l59 X1 X2 X3 K153 n X4 S = some r → Mp gRV (f176_l59 55 x1 x2 x3 k153 n x4 M) r := by
  intro n
  induction n with
  | zero =>
    intro x4 X4 S M hR t4 h
    cases h
  | succ n ih =>
    intro x4 X4 S M hR t4 h
    dsimp only [g176_l59] at h
    dsimp only [f176_l59]
    obtain ⟨V13, e13, h⟩ := lt_so h
    refine k_gi hR (hR.obF (by decide) rfl) rfl e13 (fun v13 z13 => ?_)
    refine k_ite (c_le z13 t4) h (fun c14 h => ?_) (fun c14 h => ?_)
    · exact hk153 _ _ hR h
    · refine k_grF 91 hR (hR.obF (by decide) rfl) rfl ?_
      refine k_some ?_
      obtain ⟨c15, h⟩ := chk_so h
      obtain ⟨S16, e16, h⟩ := lt_so h
      refine k_sl hR (hR.lnF (by decide) rfl) rfl t4 c15 tJ_0 e16 (fun M16 R16 => ?_)
      refine g176_l79_ok ?_ t1 t2 t3 t4 100000 _ _ _ _ R16 tI_0 h
      · intro S31 M31 R31
        intro h
        refine k_grF 92 R31 (R31.obF (by decide) rfl) rfl ?_
        obtain ⟨V32, e32, c32, h⟩ := ckI_so h
        obtain ⟨p33, e33, h⟩ := bind_so h
        refine k_call (g169_ok R31 t2 e33) (fun b33 R33 => ?_)
        refine k_ob (R33.2.obF (by decide) rfl) ?_
        obtain ⟨p34, e34, h⟩ := bind_so h
        refine k_call (g133_ok R33.2 t4 (t_add t2 tI_1 c32 e32) R33.1 t3 e34) (fun b34 R34 => ?_)
        refine k_some ?_
        obtain ⟨c35, h⟩ := chk_so h
        obtain ⟨S36, e36, h⟩ := lt_so h
        refine k_sl R34.2 (R34.2.lnF (by decide) rfl) rfl t4 c35 (t_itol R34.1) e36 (fun M36 R36 => ?_)
        obtain ⟨V37, e37, c37, h⟩ := ckI_so h
        exact ih _ _ _ _ R36 (t_add t4 tI_1 c37 e37) h
def g176_l30 (X1 : Int) : Nat → Int → gM → Option (gM)
  | 0 => fun _ _ => none
  | n + 1 => fun X2 S =>
    if X1 ≤ X2 then
      some S
    else
      w_ckI (X2 + 1) fun V9 =>
      w_ckI (100 * V9) fun V10 =>
      (g160 X2 V10 S).bind fun p11 =>
      (g170 X2 V10 p11.1 (-1) (-1) p11.2).bind fun p12 =>
      g176_l59 X1 X2 V10
        (fun S38 =>
          w_ckI (X2 + 1) fun V39 =>
          g176_l30 X1 n V39 S38)
        100000 0 p12
theorem g176_l30_ok {x1 : Int32} {X1 : Int} {r : gM} (t1 : x1.toInt = X1) : ∀ (n : Nat) (x2 : Int32) (X2 : Int) (S : gM) (M : vm_M), Rel S M → x2.toInt = X2 → g176_l30 X1 n X2 S = some r → Mp gRV (f176_l30 55 x1 n x2 M) r := by
  intro n
  induction n with
  | zero =>
    intro x2 X2 S M hR t2 h
    cases h
  | succ n ih =>
    intro x2 X2 S M hR t2 h
    dsimp only [g176_l30] at h
    dsimp only [f176_l30]
    refine k_ite (c_le t1 t2) h (fun c8 h => ?_) (fun c8 h => ?_)
    · exact k_retV hR h
    · obtain ⟨V9, e9, c9, h⟩ := ckI_so h
      obtain ⟨V10, e10, c10, h⟩ := ckI_so h
      refine k_ob (hR.obF (by decide) rfl) ?_
      obtain ⟨p11, e11, h⟩ := bind_so h
      refine k_call (g160_ok hR t2 (t_mul tI_100 (t_add t2 tI_1 c9 e9) c10 e10) e11) (fun b11 R11 => ?_)
      refine k_ob (R11.2.obF (by decide) rfl) ?_
      obtain ⟨p12, e12, h⟩ := bind_so h
      refine k_call (g170_ok R11.2 t2 (t_mul tI_100 (t_add t2 tI_1 c9 e9) c10 e10) R11.1 tI_m1 tI_m1 e12) (fun M12 R12 => ?_)
      refine g176_l59_ok ?_ t1 t2 (t_mul tI_100 (t_add t2 tI_1 c9 e9) c10 e10) 100000 _ _ _ _ R12 tI_0 h
      · intro S38 M38 R38
        intro h
        obtain ⟨V39, e39, c39, h⟩ := ckI_so h
        exact ih _ _ _ _ R38 (t_add t2 tI_1 c39 e39) h
/-- PupilCoinModel.begins(I)V -/
def g176 (X1 : Int) (S : gM) : Option (gM) :=
  g176_l2 X1
    (fun S7 =>
      g176_l30 X1
      
        100000 0 S7)
    100000 0 S
theorem g176_ok {x1 : Int32} {X1 : Int} {S : gM} {M : vm_M} {r : gM} (hR : Rel S M) (t1 : x1.toInt = X1) (h : g176 X1 S = some r) : Mp gRV (f176 55 x1 M) r := by
  unfold g176 at h
  unfold f176
  refine g176_l2_ok ?_ t1 100000 _ _ _ _ hR tI_0 h
  · intro S7 M7 R7
    intro h
    refine g176_l30_ok t1 100000 _ _ _ _ R7 tI_0 h
/-- PupilCoinModel.sums(II)V -/
def g177 (X1 : Int) (X2 : Int) (S : gM) : Option (gM) :=
  (g176 X1 S).bind fun p1 =>
  (g160 X1 X2 p1).bind fun p2 =>
  (g170 X1 X2 p2.1 (-1) (-1) p2.2).bind fun p3 =>
  some p3
theorem g177_ok {x1 : Int32} {X1 : Int} {x2 : Int32} {X2 : Int} {S : gM} {M : vm_M} {r : gM} (hR : Rel S M) (t1 : x1.toInt = X1) (t2 : x2.toInt = X2) (h : g177 X1 X2 S = some r) : Mp gRV (f177 55 x1 x2 M) r := by
  unfold g177 at h
  unfold f177
  refine k_ob (hR.obF (by decide) rfl) ?_
  obtain ⟨p1, e1, h⟩ := bind_so h
  refine k_call (g176_ok hR t1 e1) (fun M1 R1 => ?_)
  refine k_ob (R1.obF (by decide) rfl) ?_
  obtain ⟨p2, e2, h⟩ := bind_so h
  refine k_call (g160_ok R1 t1 t2 e2) (fun b2 R2 => ?_)
  refine k_ob (R2.2.obF (by decide) rfl) ?_
  obtain ⟨p3, e3, h⟩ := bind_so h
  refine k_call (g170_ok R2.2 t1 t2 R2.1 tI_m1 tI_m1 e3) (fun M3 R3 => ?_)
  exact k_retV R3 h
/-- PupilCoinModel.sum(III)J -/
def g178 (X1 : Int) (X2 : Int) (X3 : Int) (S : gM) : Option (Int × gM) :=
  (g116 X1 S).bind fun p1 =>
  if p1.1 = 0 then
    some ((-2000000000000), p1.2)
  else
    (g115 X2 p1.2).bind fun p3 =>
    if p3.1 = 0 then
      some ((-2000000000000), p3.2)
    else
      (g114 X3 p3.2).bind fun p5 =>
      if ¬ p5.1 = 0 then
        (g177 X2 X3 p5.2).bind fun p7 =>
        w_chk ((0 : Int) ≤ X1 ∧ X1 < 12) <|
        w_lt (gl p7 89 X1) fun V9 =>
        some (V9, p7)
      else
        some ((-2000000000000), p5.2)
theorem g178_ok {x1 : Int32} {X1 : Int} {x2 : Int32} {X2 : Int} {x3 : Int32} {X3 : Int} {S : gM} {M : vm_M} {r : Int × gM} (hR : Rel S M) (t1 : x1.toInt = X1) (t2 : x2.toInt = X2) (t3 : x3.toInt = X3) (h : g178 X1 X2 X3 S = some r) : Mp gRJ (f178 55 x1 x2 x3 M) r := by
  unfold g178 at h
  unfold f178
  refine k_ob (hR.obF (by decide) rfl) ?_
  obtain ⟨p1, e1, h⟩ := bind_so h
  refine k_call (g116_ok hR t1 e1) (fun b1 R1 => ?_)
  refine k_ite (c_eq R1.1 tI_0) h (fun c2 h => ?_) (fun c2 h => ?_)
  · exact k_retJ R1.2 tJ_m2000000000000 h
  · obtain ⟨p3, e3, h⟩ := bind_so h
    refine k_call (g115_ok R1.2 t2 e3) (fun b3 R3 => ?_)
    refine k_ite (c_eq R3.1 tI_0) h (fun c4 h => ?_) (fun c4 h => ?_)
    · exact k_retJ R3.2 tJ_m2000000000000 h
    · obtain ⟨p5, e5, h⟩ := bind_so h
      refine k_call (g114_ok R3.2 t3 e5) (fun b5 R5 => ?_)
      refine k_ite (c_ne R5.1 tI_0) h (fun c6 h => ?_) (fun c6 h => ?_)
      · refine k_ob (R5.2.obF (by decide) rfl) ?_
        obtain ⟨p7, e7, h⟩ := bind_so h
        refine k_call (g177_ok R5.2 t2 t3 e7) (fun M7 R7 => ?_)
        refine k_grF 90 R7 (R7.obF (by decide) rfl) rfl ?_
        refine k_some ?_
        obtain ⟨c8, h⟩ := chk_so h
        obtain ⟨V9, e9, h⟩ := lt_so h
        refine k_al R7 (R7.lnF (by decide) rfl) rfl t1 c8 e9 (fun v9 z9 => ?_)
        exact k_retJ R7 z9 h
      · exact k_retJ R5.2 tJ_m2000000000000 h
def g179_l29 : Nat → Int → Int → gM → Option (Int × gM)
  | 0 => fun _ _ _ => none
  | n + 1 => fun X3 X5 S =>
    w_lt (gi S 55 1) fun V6 =>
    if V6 ≤ X5 then
      some (X3, S)
    else
      w_chk ((0 : Int) ≤ X5 ∧ X5 < 12) <|
      w_lt (gl S 89 X5) fun V9 =>
      w_ckJ (X3 + V9) fun V10 =>
      w_ckI (X5 + 1) fun V11 =>
      g179_l29 n V10 V11 S
theorem g179_l29_ok {r : Int × gM} : ∀ (n : Nat) (x3 : Int64) (X3 : Int) (x5 : Int32) (X5 : Int) (S : gM) (M : vm_M), Rel S M → x3.toInt = X3 → x5.toInt = X5 → g179_l29 n X3 X5 S = some r → Mp gRJ (f179_l29 55 n x3 x5 M) r := by
  intro n
  induction n with
  | zero =>
    intro x3 X3 x5 X5 S M hR t3 t5 h
    cases h
  | succ n ih =>
    intro x3 X3 x5 X5 S M hR t3 t5 h
    dsimp only [g179_l29] at h
    dsimp only [f179_l29]
    obtain ⟨V6, e6, h⟩ := lt_so h
    refine k_gi hR (hR.obF (by decide) rfl) rfl e6 (fun v6 z6 => ?_)
    refine k_ite (c_le z6 t5) h (fun c7 h => ?_) (fun c7 h => ?_)
    · exact k_retJ hR t3 h
    · refine k_grF 90 hR (hR.obF (by decide) rfl) rfl ?_
      refine k_some ?_
      obtain ⟨c8, h⟩ := chk_so h
      obtain ⟨V9, e9, h⟩ := lt_so h
      refine k_al hR (hR.lnF (by decide) rfl) rfl t5 c8 e9 (fun v9 z9 => ?_)
      obtain ⟨V10, e10, c10, h⟩ := ckJ_so h
      obtain ⟨V11, e11, c11, h⟩ := ckI_so h
      exact ih _ _ _ _ _ _ hR (tJ_add t3 z9 c10 e10) (t_add t5 tI_1 c11 e11) h
/-- PupilCoinModel.all(II)J -/
def g179 (X1 : Int) (X2 : Int) (S : gM) : Option (Int × gM) :=
  (g115 X1 S).bind fun p1 =>
  if p1.1 = 0 then
    some ((-2000000000000), p1.2)
  else
    (g114 X2 p1.2).bind fun p3 =>
    if ¬ p3.1 = 0 then
      (g177 X1 X2 p3.2).bind fun p5 =>
      g179_l29
      
        100000 0 0 p5
    else
      some ((-2000000000000), p3.2)
theorem g179_ok {x1 : Int32} {X1 : Int} {x2 : Int32} {X2 : Int} {S : gM} {M : vm_M} {r : Int × gM} (hR : Rel S M) (t1 : x1.toInt = X1) (t2 : x2.toInt = X2) (h : g179 X1 X2 S = some r) : Mp gRJ (f179 55 x1 x2 M) r := by
  unfold g179 at h
  unfold f179
  obtain ⟨p1, e1, h⟩ := bind_so h
  refine k_call (g115_ok hR t1 e1) (fun b1 R1 => ?_)
  refine k_ite (c_eq R1.1 tI_0) h (fun c2 h => ?_) (fun c2 h => ?_)
  · exact k_retJ R1.2 tJ_m2000000000000 h
  · obtain ⟨p3, e3, h⟩ := bind_so h
    refine k_call (g114_ok R1.2 t2 e3) (fun b3 R3 => ?_)
    refine k_ite (c_ne R3.1 tI_0) h (fun c4 h => ?_) (fun c4 h => ?_)
    · refine k_ob (R3.2.obF (by decide) rfl) ?_
      obtain ⟨p5, e5, h⟩ := bind_so h
      refine k_call (g177_ok R3.2 t1 t2 e5) (fun M5 R5 => ?_)
      refine g179_l29_ok 100000 _ _ _ _ _ _ R5 tJ_0 tI_0 h
    · exact k_retJ R3.2 tJ_m2000000000000 h
def g180_l19 (X1 : Int) (X2 : Int) (K45 : gM → Option (Int × gM)) : Nat → Int → gM → Option (Int × gM)
  | 0 => fun _ _ => none
  | n + 1 => fun X3 S =>
    w_lt (gi S 55 1) fun V5 =>
    if V5 ≤ X3 then
      K45 S
    else
      w_chk ((0 : Int) ≤ X3 ∧ X3 < 12) <|
      w_lt (gl S 89 X3) fun V8 =>
      w_chk ((0 : Int) ≤ X3 ∧ X3 < 12) <|
      w_lt (wl S 93 X3 V8) fun S10 =>
      w_ckI (X3 + 1) fun V11 =>
      g180_l19 X1 X2 K45 n V11 S10
theorem g180_l19_ok {x1 : Int32} {X1 : Int} {x2 : Int32} {X2 : Int} {k45 : vm_M → Option (Int64 × vm_M)} {K45 : gM → Option (Int × gM)} {r : Int × gM} (hk45 : ∀ (S : gM) (M : vm_M), Rel S M → K45 S = some r → Mp gRJ (k45 M) r) (t1 : x1.toInt = X1) (t2 : x2.toInt = X2) : ∀ (n : Nat) (x3 : Int32) (X3 : Int) (S : gM) (M : vm_M), Rel S M → x3.toInt = X3 → g180_l19 X1 X2 K45 n X3 S = some r → Mp gRJ (f180_l19 55 x1 x2 k45 n x3 M) r := by
  intro n
  induction n with
  | zero =>
    intro x3 X3 S M hR t3 h
    cases h
  | succ n ih =>
    intro x3 X3 S M hR t3 h
    dsimp only [g180_l19] at h
    dsimp only [f180_l19]
    obtain ⟨V5, e5, h⟩ := lt_so h
    refine k_gi hR (hR.obF (by decide) rfl) rfl e5 (fun v5 z5 => ?_)
    refine k_ite (c_le z5 t3) h (fun c6 h => ?_) (fun c6 h => ?_)
    · exact hk45 _ _ hR h
    · refine k_grF 94 hR (hR.obF (by decide) rfl) rfl ?_
      refine k_grF 90 hR (hR.obF (by decide) rfl) rfl ?_
      refine k_some ?_
      obtain ⟨c7, h⟩ := chk_so h
      obtain ⟨V8, e8, h⟩ := lt_so h
      refine k_al hR (hR.lnF (by decide) rfl) rfl t3 c7 e8 (fun v8 z8 => ?_)
      refine k_some ?_
      obtain ⟨c9, h⟩ := chk_so h
      obtain ⟨S10, e10, h⟩ := lt_so h
      refine k_sl hR (hR.lnF (by decide) rfl) rfl t3 c9 z8 e10 (fun M10 R10 => ?_)
      obtain ⟨V11, e11, c11, h⟩ := ckI_so h
      exact ih _ _ _ _ R10 (t_add t3 tI_1 c11 e11) h
def g180_l63 (X1 : Int) (X2 : Int) : Nat → Int → Int → gM → Option (Int × gM)
  | 0 => fun _ _ _ => none
  | n + 1 => fun X3 X5 S =>
    w_lt (gi S 55 1) fun V17 =>
    if V17 ≤ X5 then
      some (X3, S)
    else
      (g131 X5 X1 X2 S).bind fun p19 =>
      if p19.1 = 0 then
        w_ckI (X5 + 1) fun V21 =>
        g180_l63 X1 X2 n X3 V21 p19.2
      else
        w_chk ((0 : Int) ≤ X5 ∧ X5 < 12) <|
        w_lt (gl p19.2 93 X5) fun V23 =>
        w_chk ((0 : Int) ≤ X5 ∧ X5 < 12) <|
        w_lt (gl p19.2 89 X5) fun V25 =>
        w_ckJ (V23 - V25) fun V26 =>
        w_ckJ (X3 + V26) fun V27 =>
        w_ckI (X5 + 1) fun V28 =>
        g180_l63 X1 X2 n V27 V28 p19.2
theorem g180_l63_ok {x1 : Int32} {X1 : Int} {x2 : Int32} {X2 : Int} {r : Int × gM} (t1 : x1.toInt = X1) (t2 : x2.toInt = X2) : ∀ (n : Nat) (x3 : Int64) (X3 : Int) (x5 : Int32) (X5 : Int) (S : gM) (M : vm_M), Rel S M → x3.toInt = X3 → x5.toInt = X5 → g180_l63 X1 X2 n X3 X5 S = some r → Mp gRJ (f180_l63 55 x1 x2 n x3 x5 M) r := by
  intro n
  induction n with
  | zero =>
    intro x3 X3 x5 X5 S M hR t3 t5 h
    cases h
  | succ n ih =>
    intro x3 X3 x5 X5 S M hR t3 t5 h
    dsimp only [g180_l63] at h
    dsimp only [f180_l63]
    obtain ⟨V17, e17, h⟩ := lt_so h
    refine k_gi hR (hR.obF (by decide) rfl) rfl e17 (fun v17 z17 => ?_)
    refine k_ite (c_le z17 t5) h (fun c18 h => ?_) (fun c18 h => ?_)
    · exact k_retJ hR t3 h
    · refine k_ob (hR.obF (by decide) rfl) ?_
      obtain ⟨p19, e19, h⟩ := bind_so h
      refine k_call (g131_ok hR t5 t1 t2 e19) (fun b19 R19 => ?_)
      refine k_ite (c_eq R19.1 tI_0) h (fun c20 h => ?_) (fun c20 h => ?_)
      · obtain ⟨V21, e21, c21, h⟩ := ckI_so h
        exact ih _ _ _ _ _ _ R19.2 t3 (t_add t5 tI_1 c21 e21) h
      · refine k_grF 94 R19.2 (R19.2.obF (by decide) rfl) rfl ?_
        refine k_some ?_
        obtain ⟨c22, h⟩ := chk_so h
        obtain ⟨V23, e23, h⟩ := lt_so h
        refine k_al R19.2 (R19.2.lnF (by decide) rfl) rfl t5 c22 e23 (fun v23 z23 => ?_)
        refine k_grF 90 R19.2 (R19.2.obF (by decide) rfl) rfl ?_
        refine k_some ?_
        obtain ⟨c24, h⟩ := chk_so h
        obtain ⟨V25, e25, h⟩ := lt_so h
        refine k_al R19.2 (R19.2.lnF (by decide) rfl) rfl t5 c24 e25 (fun v25 z25 => ?_)
        obtain ⟨V26, e26, c26, h⟩ := ckJ_so h
        obtain ⟨V27, e27, c27, h⟩ := ckJ_so h
        obtain ⟨V28, e28, c28, h⟩ := ckI_so h
        exact ih _ _ _ _ _ _ R19.2 (tJ_add t3 (tJ_sub z23 z25 c26 e26) c27 e27) (t_add t5 tI_1 c28 e28) h
/-- PupilCoinModel.putRight(II)J -/
def g180 (X1 : Int) (X2 : Int) (S : gM) : Option (Int × gM) :=
  if ¬ X2 = 0 then
    w_ckI (X2 - 1) fun V2 =>
    w_ckI (100 * X2) fun V3 =>
    (g177 V2 V3 S).bind fun p4 =>
    g180_l19 X1 X2
      (fun S12 =>
        w_ckI (X2 - 1) fun V13 =>
        w_ckI (X2 - 1) fun V14 =>
        w_ckI (100 * V14) fun V15 =>
        (g177 V13 V15 S12).bind fun p16 =>
        g180_l63 X1 X2
        
          100000 0 0 p16)
      100000 0 p4
  else
    some (0, S)
theorem g180_ok {x1 : Int32} {X1 : Int} {x2 : Int32} {X2 : Int} {S : gM} {M : vm_M} {r : Int × gM} (hR : Rel S M) (t1 : x1.toInt = X1) (t2 : x2.toInt = X2) (h : g180 X1 X2 S = some r) : Mp gRJ (f180 55 x1 x2 M) r := by
  unfold g180 at h
  unfold f180
  refine k_ite (c_ne t2 tI_0) h (fun c1 h => ?_) (fun c1 h => ?_)
  · obtain ⟨V2, e2, c2, h⟩ := ckI_so h
    obtain ⟨V3, e3, c3, h⟩ := ckI_so h
    refine k_ob (hR.obF (by decide) rfl) ?_
    obtain ⟨p4, e4, h⟩ := bind_so h
    refine k_call (g177_ok hR (t_sub t2 tI_1 c2 e2) (t_mul tI_100 t2 c3 e3) e4) (fun M4 R4 => ?_)
    refine g180_l19_ok ?_ t1 t2 100000 _ _ _ _ R4 tI_0 h
    · intro S12 M12 R12
      intro h
      obtain ⟨V13, e13, c13, h⟩ := ckI_so h
      obtain ⟨V14, e14, c14, h⟩ := ckI_so h
      obtain ⟨V15, e15, c15, h⟩ := ckI_so h
      refine k_ob (R12.obF (by decide) rfl) ?_
      obtain ⟨p16, e16, h⟩ := bind_so h
      refine k_call (g177_ok R12 (t_sub t2 tI_1 c13 e13) (t_mul tI_100 (t_sub t2 tI_1 c14 e14) c15 e15) e16) (fun M16 R16 => ?_)
      refine g180_l63_ok t1 t2 100000 _ _ _ _ _ _ R16 tJ_0 tI_0 h
  · exact k_retJ hR tJ_0 h
def g181_l5 (X1 : Int) (X2 : Int) : Nat → Int → Int → gM → Option (Int × gM)
  | 0 => fun _ _ _ => none
  | n + 1 => fun X3 X5 S =>
    w_lt (gi S 55 53) fun V1 =>
    if V1 ≤ X5 then
      some (X3, S)
    else
      w_chk ((0 : Int) ≤ X5 ∧ X5 < 20) <|
      w_lt (gi S 101 X5) fun V4 =>
      if V4 = 0 then
        w_ckI (X5 + 1) fun V6 =>
        g181_l5 X1 X2 n X3 V6 S
      else
        w_chk ((0 : Int) ≤ X5 ∧ X5 < 20) <|
        w_lt (gi S 97 X5) fun V8 =>
        if ¬ V8 = X2 then
          w_ckI (X5 + 1) fun V10 =>
          g181_l5 X1 X2 n X3 V10 S
        else
          w_chk ((0 : Int) ≤ X5 ∧ X5 < 20) <|
          w_lt (gi S 95 X5) fun V12 =>
          if ¬ V12 = X1 then
            w_chk ((0 : Int) ≤ X5 ∧ X5 < 20) <|
            w_lt (gi S 94 X5) fun V15 =>
            if ¬ V15 = X1 then
              w_ckJ (X3 + 0) fun V17 =>
              w_ckI (X5 + 1) fun V18 =>
              g181_l5 X1 X2 n V17 V18 S
            else
              w_chk ((0 : Int) ≤ X5 ∧ X5 < 20) <|
              w_lt (gi S 96 X5) fun V20 =>
              w_ckI (-V20) fun V21 =>
              w_ckJ (X3 + V21) fun V22 =>
              w_ckI (X5 + 1) fun V23 =>
              g181_l5 X1 X2 n V22 V23 S
          else
            w_chk ((0 : Int) ≤ X5 ∧ X5 < 20) <|
            w_lt (gi S 96 X5) fun V25 =>
            w_ckJ (X3 + V25) fun V26 =>
            w_ckI (X5 + 1) fun V27 =>
            g181_l5 X1 X2 n V26 V27 S
theorem g181_l5_ok {x1 : Int32} {X1 : Int} {x2 : Int32} {X2 : Int} {r : Int × gM} (t1 : x1.toInt = X1) (t2 : x2.toInt = X2) : ∀ (n : Nat) (x3 : Int64) (X3 : Int) (x5 : Int32) (X5 : Int) (S : gM) (M : vm_M), Rel S M → x3.toInt = X3 → x5.toInt = X5 → g181_l5 X1 X2 n X3 X5 S = some r → Mp gRJ (f181_l5 55 x1 x2 n x3 x5 M) r := by
  intro n
  induction n with
  | zero =>
    intro x3 X3 x5 X5 S M hR t3 t5 h
    cases h
  | succ n ih =>
    intro x3 X3 x5 X5 S M hR t3 t5 h
    dsimp only [g181_l5] at h
    dsimp only [f181_l5]
    obtain ⟨V1, e1, h⟩ := lt_so h
    refine k_gi hR (hR.obF (by decide) rfl) rfl e1 (fun v1 z1 => ?_)
    refine k_ite (c_le z1 t5) h (fun c2 h => ?_) (fun c2 h => ?_)
    · exact k_retJ hR t3 h
    · refine k_grF 102 hR (hR.obF (by decide) rfl) rfl ?_
      refine k_some ?_
      obtain ⟨c3, h⟩ := chk_so h
      obtain ⟨V4, e4, h⟩ := lt_so h
      refine k_ai hR (hR.lnF (by decide) rfl) rfl t5 c3 e4 (fun v4 z4 => ?_)
      refine k_ite (c_eq z4 tI_0) h (fun c5 h => ?_) (fun c5 h => ?_)
      · obtain ⟨V6, e6, c6, h⟩ := ckI_so h
        exact ih _ _ _ _ _ _ hR t3 (t_add t5 tI_1 c6 e6) h
      · refine k_grF 98 hR (hR.obF (by decide) rfl) rfl ?_
        refine k_some ?_
        obtain ⟨c7, h⟩ := chk_so h
        obtain ⟨V8, e8, h⟩ := lt_so h
        refine k_ai hR (hR.lnF (by decide) rfl) rfl t5 c7 e8 (fun v8 z8 => ?_)
        refine k_ite (c_ne z8 t2) h (fun c9 h => ?_) (fun c9 h => ?_)
        · obtain ⟨V10, e10, c10, h⟩ := ckI_so h
          exact ih _ _ _ _ _ _ hR t3 (t_add t5 tI_1 c10 e10) h
        · refine k_grF 96 hR (hR.obF (by decide) rfl) rfl ?_
          refine k_some ?_
          obtain ⟨c11, h⟩ := chk_so h
          obtain ⟨V12, e12, h⟩ := lt_so h
          refine k_ai hR (hR.lnF (by decide) rfl) rfl t5 c11 e12 (fun v12 z12 => ?_)
          refine k_ite (c_ne z12 t1) h (fun c13 h => ?_) (fun c13 h => ?_)
          · refine k_grF 95 hR (hR.obF (by decide) rfl) rfl ?_
            refine k_some ?_
            obtain ⟨c14, h⟩ := chk_so h
            obtain ⟨V15, e15, h⟩ := lt_so h
            refine k_ai hR (hR.lnF (by decide) rfl) rfl t5 c14 e15 (fun v15 z15 => ?_)
            refine k_ite (c_ne z15 t1) h (fun c16 h => ?_) (fun c16 h => ?_)
            · obtain ⟨V17, e17, c17, h⟩ := ckJ_so h
              obtain ⟨V18, e18, c18, h⟩ := ckI_so h
              exact ih _ _ _ _ _ _ hR (tJ_add t3 tJ_0 c17 e17) (t_add t5 tI_1 c18 e18) h
            · refine k_grF 97 hR (hR.obF (by decide) rfl) rfl ?_
              refine k_some ?_
              obtain ⟨c19, h⟩ := chk_so h
              obtain ⟨V20, e20, h⟩ := lt_so h
              refine k_ai hR (hR.lnF (by decide) rfl) rfl t5 c19 e20 (fun v20 z20 => ?_)
              obtain ⟨V21, e21, c21, h⟩ := ckI_so h
              obtain ⟨V22, e22, c22, h⟩ := ckJ_so h
              obtain ⟨V23, e23, c23, h⟩ := ckI_so h
              exact ih _ _ _ _ _ _ hR (tJ_add t3 (t_itol (t_neg z20 c21 e21)) c22 e22) (t_add t5 tI_1 c23 e23) h
          · refine k_grF 97 hR (hR.obF (by decide) rfl) rfl ?_
            refine k_some ?_
            obtain ⟨c24, h⟩ := chk_so h
            obtain ⟨V25, e25, h⟩ := lt_so h
            refine k_ai hR (hR.lnF (by decide) rfl) rfl t5 c24 e25 (fun v25 z25 => ?_)
            obtain ⟨V26, e26, c26, h⟩ := ckJ_so h
            obtain ⟨V27, e27, c27, h⟩ := ckI_so h
            exact ih _ _ _ _ _ _ hR (tJ_add t3 (t_itol z25) c26 e26) (t_add t5 tI_1 c27 e27) h
/-- PupilCoinModel.moved(II)J -/
def g181 (X1 : Int) (X2 : Int) (S : gM) : Option (Int × gM) :=
  g181_l5 X1 X2
  
    100000 0 0 S
theorem g181_ok {x1 : Int32} {X1 : Int} {x2 : Int32} {X2 : Int} {S : gM} {M : vm_M} {r : Int × gM} (hR : Rel S M) (t1 : x1.toInt = X1) (t2 : x2.toInt = X2) (h : g181 X1 X2 S = some r) : Mp gRJ (f181 55 x1 x2 M) r := by
  unfold g181 at h
  unfold f181
  refine g181_l5_ok t1 t2 100000 _ _ _ _ _ _ hR tJ_0 tI_0 h
/-- PupilCoinModel.due(II)J -/
def g182 (X1 : Int) (X2 : Int) (S : gM) : Option (Int × gM) :=
  (g116 X1 S).bind fun p1 =>
  if p1.1 = 0 then
    some ((-2000000000000), p1.2)
  else
    (g115 X2 p1.2).bind fun p3 =>
    if ¬ p3.1 = 0 then
      (g122 X1 X2 p3.2).bind fun p5 =>
      if ¬ p5.1 = 0 then
        (g180 X1 X2 p5.2).bind fun p7 =>
        w_ckI (100 * X2) fun V8 =>
        (g177 X2 V8 p7.2).bind fun p9 =>
        w_chk ((0 : Int) ≤ X1 ∧ X1 < 12) <|
        w_lt (gl p9 89 X1) fun V11 =>
        w_ckJ (V11 + p7.1) fun V12 =>
        (g181 X1 X2 p9).bind fun p13 =>
        w_ckJ (V12 + p13.1) fun V14 =>
        some (V14, p13.2)
      else
        some (0, p5.2)
    else
      some ((-2000000000000), p3.2)
theorem g182_ok {x1 : Int32} {X1 : Int} {x2 : Int32} {X2 : Int} {S : gM} {M : vm_M} {r : Int × gM} (hR : Rel S M) (t1 : x1.toInt = X1) (t2 : x2.toInt = X2) (h : g182 X1 X2 S = some r) : Mp gRJ (f182 55 x1 x2 M) r := by
  unfold g182 at h
  unfold f182
  refine k_ob (hR.obF (by decide) rfl) ?_
  obtain ⟨p1, e1, h⟩ := bind_so h
  refine k_call (g116_ok hR t1 e1) (fun b1 R1 => ?_)
  refine k_ite (c_eq R1.1 tI_0) h (fun c2 h => ?_) (fun c2 h => ?_)
  · exact k_retJ R1.2 tJ_m2000000000000 h
  · obtain ⟨p3, e3, h⟩ := bind_so h
    refine k_call (g115_ok R1.2 t2 e3) (fun b3 R3 => ?_)
    refine k_ite (c_ne R3.1 tI_0) h (fun c4 h => ?_) (fun c4 h => ?_)
    · refine k_ob (R3.2.obF (by decide) rfl) ?_
      obtain ⟨p5, e5, h⟩ := bind_so h
      refine k_call (g122_ok R3.2 t1 t2 e5) (fun b5 R5 => ?_)
      refine k_ite (c_ne R5.1 tI_0) h (fun c6 h => ?_) (fun c6 h => ?_)
      · refine k_ob (R5.2.obF (by decide) rfl) ?_
        obtain ⟨p7, e7, h⟩ := bind_so h
        refine k_call (g180_ok R5.2 t1 t2 e7) (fun b7 R7 => ?_)
        obtain ⟨V8, e8, c8, h⟩ := ckI_so h
        refine k_ob (R7.2.obF (by decide) rfl) ?_
        obtain ⟨p9, e9, h⟩ := bind_so h
        refine k_call (g177_ok R7.2 t2 (t_mul tI_100 t2 c8 e8) e9) (fun M9 R9 => ?_)
        refine k_grF 90 R9 (R9.obF (by decide) rfl) rfl ?_
        refine k_some ?_
        obtain ⟨c10, h⟩ := chk_so h
        obtain ⟨V11, e11, h⟩ := lt_so h
        refine k_al R9 (R9.lnF (by decide) rfl) rfl t1 c10 e11 (fun v11 z11 => ?_)
        obtain ⟨V12, e12, c12, h⟩ := ckJ_so h
        refine k_ob (R9.obF (by decide) rfl) ?_
        obtain ⟨p13, e13, h⟩ := bind_so h
        refine k_call (g181_ok R9 t1 t2 e13) (fun b13 R13 => ?_)
        obtain ⟨V14, e14, c14, h⟩ := ckJ_so h
        exact k_retJ R13.2 (tJ_add (tJ_add z11 R7.1 c12 e12) R13.1 c14 e14) h
      · exact k_retJ R5.2 tJ_0 h
    · exact k_retJ R3.2 tJ_m2000000000000 h
/-- PupilCoinModel.led(III)J -/
def g183 (X1 : Int) (X2 : Int) (X3 : Int) (S : gM) : Option (Int × gM) :=
  (g116 X1 S).bind fun p1 =>
  if p1.1 = 0 then
    some ((-2000000000000), p1.2)
  else
    (g115 X2 p1.2).bind fun p3 =>
    if p3.1 = 0 then
      some ((-2000000000000), p3.2)
    else
      (g112 X3 0 34 p3.2).bind fun p5 =>
      if ¬ p5.1 = 0 then
        (g122 X1 X2 p5.2).bind fun p7 =>
        if ¬ p7.1 = 0 then
          if ¬ X3 = 33 then
            if ¬ X3 = 34 then
              w_ckI (100 * X2) fun V11 =>
              (g177 X2 V11 p7.2).bind fun p12 =>
              w_ckI (100 * X2) fun V13 =>
              (g160 X2 V13 p12).bind fun p14 =>
              if 30 ≤ X3 then
                if ¬ X3 = 30 then
                  if ¬ X3 = 31 then
                    w_chk ((0 : Int) ≤ X1 ∧ X1 < 12) <|
                    w_lt (gl p14.2 88 X1) fun V19 =>
                    some (V19, p14.2)
                  else
                    w_chk ((0 : Int) ≤ X1 ∧ X1 < 12) <|
                    w_lt (gl p14.2 87 X1) fun V21 =>
                    some (V21, p14.2)
                else
                  w_chk ((0 : Int) ≤ X1 ∧ X1 < 12) <|
                  w_lt (gl p14.2 86 X1) fun V23 =>
                  some (V23, p14.2)
              else
                if p14.1 = (-1) then
                  some (0, p14.2)
                else
                  w_chk ((0 : Int) ≤ p14.1 ∧ p14.1 < 10) <|
                  w_lt (gi p14.2 70 p14.1) fun V26 =>
                  if V26 ≤ X3 then
                    some (0, p14.2)
                  else
                    w_ckI (30 * p14.1) fun V28 =>
                    w_ckI (V28 + X3) fun V29 =>
                    w_chk ((0 : Int) ≤ V29 ∧ V29 < 300) <|
                    w_lt (gi p14.2 73 V29) fun V31 =>
                    if ¬ V31 = 0 then
                      some (0, p14.2)
                    else
                      w_ckI (30 * X1) fun V33 =>
                      w_ckI (30 * p14.1) fun V34 =>
                      w_ckI (V34 + X3) fun V35 =>
                      w_chk ((0 : Int) ≤ V35 ∧ V35 < 300) <|
                      w_lt (gi p14.2 74 V35) fun V37 =>
                      w_ckI (V33 + V37) fun V38 =>
                      w_chk ((0 : Int) ≤ V38 ∧ V38 < 360) <|
                      w_lt (gl p14.2 85 V38) fun V40 =>
                      some (V40, p14.2)
            else
              (g181 X1 X2 p7.2).bind fun p41 =>
              some (p41.1, p41.2)
          else
            (g180 X1 X2 p7.2).bind fun p42 =>
            some (p42.1, p42.2)
        else
          some (0, p7.2)
      else
        some ((-2000000000000), p5.2)
theorem g183_ok {x1 : Int32} {X1 : Int} {x2 : Int32} {X2 : Int} {x3 : Int32} {X3 : Int} {S : gM} {M : vm_M} {r : Int × gM} (hR : Rel S M) (t1 : x1.toInt = X1) (t2 : x2.toInt = X2) (t3 : x3.toInt = X3) (h : g183 X1 X2 X3 S = some r) : Mp gRJ (f183 55 x1 x2 x3 M) r := by
  unfold g183 at h
  unfold f183
  refine k_ob (hR.obF (by decide) rfl) ?_
  obtain ⟨p1, e1, h⟩ := bind_so h
  refine k_call (g116_ok hR t1 e1) (fun b1 R1 => ?_)
  refine k_ite (c_eq R1.1 tI_0) h (fun c2 h => ?_) (fun c2 h => ?_)
  · exact k_retJ R1.2 tJ_m2000000000000 h
  · obtain ⟨p3, e3, h⟩ := bind_so h
    refine k_call (g115_ok R1.2 t2 e3) (fun b3 R3 => ?_)
    refine k_ite (c_eq R3.1 tI_0) h (fun c4 h => ?_) (fun c4 h => ?_)
    · exact k_retJ R3.2 tJ_m2000000000000 h
    · obtain ⟨p5, e5, h⟩ := bind_so h
      refine k_call (g112_ok R3.2 t3 tI_0 tI_34 e5) (fun b5 R5 => ?_)
      refine k_ite (c_ne R5.1 tI_0) h (fun c6 h => ?_) (fun c6 h => ?_)
      · refine k_ob (R5.2.obF (by decide) rfl) ?_
        obtain ⟨p7, e7, h⟩ := bind_so h
        refine k_call (g122_ok R5.2 t1 t2 e7) (fun b7 R7 => ?_)
        refine k_ite (c_ne R7.1 tI_0) h (fun c8 h => ?_) (fun c8 h => ?_)
        · refine k_ite (c_ne t3 tI_33) h (fun c9 h => ?_) (fun c9 h => ?_)
          · refine k_ite (c_ne t3 tI_34) h (fun c10 h => ?_) (fun c10 h => ?_)
            · obtain ⟨V11, e11, c11, h⟩ := ckI_so h
              refine k_ob (R7.2.obF (by decide) rfl) ?_
              obtain ⟨p12, e12, h⟩ := bind_so h
              refine k_call (g177_ok R7.2 t2 (t_mul tI_100 t2 c11 e11) e12) (fun M12 R12 => ?_)
              obtain ⟨V13, e13, c13, h⟩ := ckI_so h
              refine k_ob (R12.obF (by decide) rfl) ?_
              obtain ⟨p14, e14, h⟩ := bind_so h
              refine k_call (g160_ok R12 t2 (t_mul tI_100 t2 c13 e13) e14) (fun b14 R14 => ?_)
              refine k_ite (c_le tI_30 t3) h (fun c15 h => ?_) (fun c15 h => ?_)
              · refine k_ite (c_ne t3 tI_30) h (fun c16 h => ?_) (fun c16 h => ?_)
                · refine k_ite (c_ne t3 tI_31) h (fun c17 h => ?_) (fun c17 h => ?_)
                  · refine k_grF 89 R14.2 (R14.2.obF (by decide) rfl) rfl ?_
                    refine k_some ?_
                    obtain ⟨c18, h⟩ := chk_so h
                    obtain ⟨V19, e19, h⟩ := lt_so h
                    refine k_al R14.2 (R14.2.lnF (by decide) rfl) rfl t1 c18 e19 (fun v19 z19 => ?_)
                    exact k_retJ R14.2 z19 h
                  · refine k_grF 88 R14.2 (R14.2.obF (by decide) rfl) rfl ?_
                    refine k_some ?_
                    obtain ⟨c20, h⟩ := chk_so h
                    obtain ⟨V21, e21, h⟩ := lt_so h
                    refine k_al R14.2 (R14.2.lnF (by decide) rfl) rfl t1 c20 e21 (fun v21 z21 => ?_)
                    exact k_retJ R14.2 z21 h
                · refine k_grF 87 R14.2 (R14.2.obF (by decide) rfl) rfl ?_
                  refine k_some ?_
                  obtain ⟨c22, h⟩ := chk_so h
                  obtain ⟨V23, e23, h⟩ := lt_so h
                  refine k_al R14.2 (R14.2.lnF (by decide) rfl) rfl t1 c22 e23 (fun v23 z23 => ?_)
                  exact k_retJ R14.2 z23 h
              · refine k_ite (c_eq R14.1 tI_m1) h (fun c24 h => ?_) (fun c24 h => ?_)
                · exact k_retJ R14.2 tJ_0 h
                · refine k_grF 71 R14.2 (R14.2.obF (by decide) rfl) rfl ?_
                  refine k_some ?_
                  obtain ⟨c25, h⟩ := chk_so h
                  obtain ⟨V26, e26, h⟩ := lt_so h
                  refine k_ai R14.2 (R14.2.lnF (by decide) rfl) rfl R14.1 c25 e26 (fun v26 z26 => ?_)
                  refine k_ite (c_le z26 t3) h (fun c27 h => ?_) (fun c27 h => ?_)
                  · exact k_retJ R14.2 tJ_0 h
                  · refine k_grF 74 R14.2 (R14.2.obF (by decide) rfl) rfl ?_
                    obtain ⟨V28, e28, c28, h⟩ := ckI_so h
                    obtain ⟨V29, e29, c29, h⟩ := ckI_so h
                    refine k_some ?_
                    obtain ⟨c30, h⟩ := chk_so h
                    obtain ⟨V31, e31, h⟩ := lt_so h
                    refine k_ai R14.2 (R14.2.lnF (by decide) rfl) rfl (t_add (t_mul tI_30 R14.1 c28 e28) t3 c29 e29) c30 e31 (fun v31 z31 => ?_)
                    refine k_ite (c_ne z31 tI_0) h (fun c32 h => ?_) (fun c32 h => ?_)
                    · exact k_retJ R14.2 tJ_0 h
                    · refine k_grF 86 R14.2 (R14.2.obF (by decide) rfl) rfl ?_
                      obtain ⟨V33, e33, c33, h⟩ := ckI_so h
                      refine k_grF 75 R14.2 (R14.2.obF (by decide) rfl) rfl ?_
                      obtain ⟨V34, e34, c34, h⟩ := ckI_so h
                      obtain ⟨V35, e35, c35, h⟩ := ckI_so h
                      refine k_some ?_
                      obtain ⟨c36, h⟩ := chk_so h
                      obtain ⟨V37, e37, h⟩ := lt_so h
                      refine k_ai R14.2 (R14.2.lnF (by decide) rfl) rfl (t_add (t_mul tI_30 R14.1 c34 e34) t3 c35 e35) c36 e37 (fun v37 z37 => ?_)
                      obtain ⟨V38, e38, c38, h⟩ := ckI_so h
                      refine k_some ?_
                      obtain ⟨c39, h⟩ := chk_so h
                      obtain ⟨V40, e40, h⟩ := lt_so h
                      refine k_al R14.2 (R14.2.lnF (by decide) rfl) rfl (t_add (t_mul tI_30 t1 c33 e33) z37 c38 e38) c39 e40 (fun v40 z40 => ?_)
                      exact k_retJ R14.2 z40 h
            · refine k_ob (R7.2.obF (by decide) rfl) ?_
              obtain ⟨p41, e41, h⟩ := bind_so h
              refine k_call (g181_ok R7.2 t1 t2 e41) (fun b41 R41 => ?_)
              exact k_retJ R41.2 R41.1 h
          · refine k_ob (R7.2.obF (by decide) rfl) ?_
            obtain ⟨p42, e42, h⟩ := bind_so h
            refine k_call (g180_ok R7.2 t1 t2 e42) (fun b42 R42 => ?_)
            exact k_retJ R42.2 R42.1 h
        · exact k_retJ R7.2 tJ_0 h
      · exact k_retJ R5.2 tJ_m2000000000000 h
/-- PupilCoinModel.propose(IIIII)I -/
def g184 (X1 : Int) (X2 : Int) (X3 : Int) (X4 : Int) (X5 : Int) (S : gM) : Option (Int × gM) :=
  (g112 X1 0 2 S).bind fun p1 =>
  if p1.1 = 0 then
    some ((-1), p1.2)
  else
    (g116 X2 p1.2).bind fun p3 =>
    if p3.1 = 0 then
      some ((-1), p3.2)
    else
      (g116 X3 p3.2).bind fun p5 =>
      if p5.1 = 0 then
        some ((-1), p5.2)
      else
        if X2 = X3 then
          some ((-1), p5.2)
        else
          w_chk ((0 : Int) ≤ X2 ∧ X2 < 12) <|
          w_lt (gi p5.2 57 X2) fun V9 =>
          if ¬ V9 = X1 then
            some ((-1), p5.2)
          else
            w_chk ((0 : Int) ≤ X3 ∧ X3 < 12) <|
            w_lt (gi p5.2 57 X3) fun V12 =>
            if V12 = X1 then
              (g112 X4 1 9999999 p5.2).bind fun p14 =>
              if p14.1 = 0 then
                some ((-1), p14.2)
              else
                (g118 p14.2).bind fun p16 =>
                w_ckI (p16.1 + 1) fun V17 =>
                (g112 X5 V17 9 p16.2).bind fun p18 =>
                if p18.1 = 0 then
                  some ((-1), p18.2)
                else
                  w_lt (gi p18.2 55 53) fun V20 =>
                  if ¬ V20 = 20 then
                    w_lt (gi p18.2 55 53) fun V22 =>
                    w_chk ((0 : Int) ≤ V22 ∧ V22 < 20) <|
                    w_lt (wi p18.2 94 V22 X2) fun S24 =>
                    w_lt (gi S24 55 53) fun V25 =>
                    w_chk ((0 : Int) ≤ V25 ∧ V25 < 20) <|
                    w_lt (wi S24 95 V25 X3) fun S27 =>
                    w_lt (gi S27 55 53) fun V28 =>
                    w_chk ((0 : Int) ≤ V28 ∧ V28 < 20) <|
                    w_lt (wi S27 96 V28 X4) fun S30 =>
                    w_lt (gi S30 55 53) fun V31 =>
                    w_chk ((0 : Int) ≤ V31 ∧ V31 < 20) <|
                    w_lt (wi S30 97 V31 X5) fun S33 =>
                    w_lt (gi S33 55 53) fun V34 =>
                    w_lt (gi S33 55 0) fun V35 =>
                    w_chk ((0 : Int) ≤ V34 ∧ V34 < 20) <|
                    w_lt (wi S33 98 V34 V35) fun S37 =>
                    w_lt (gi S37 55 53) fun V38 =>
                    w_chk ((0 : Int) ≤ V38 ∧ V38 < 20) <|
                    w_lt (wi S37 99 V38 X1) fun S40 =>
                    w_lt (gi S40 55 53) fun V41 =>
                    w_ckI (V41 + 1) fun V42 =>
                    w_lt (wi S40 55 53 V42) fun S43 =>
                    w_lt (gi S43 55 53) fun V44 =>
                    w_ckI (V44 - 1) fun V45 =>
                    some (V45, S43)
                  else
                    some ((-1), p18.2)
            else
              some ((-1), p5.2)
theorem g184_ok {x1 : Int32} {X1 : Int} {x2 : Int32} {X2 : Int} {x3 : Int32} {X3 : Int} {x4 : Int32} {X4 : Int} {x5 : Int32} {X5 : Int} {S : gM} {M : vm_M} {r : Int × gM} (hR : Rel S M) (t1 : x1.toInt = X1) (t2 : x2.toInt = X2) (t3 : x3.toInt = X3) (t4 : x4.toInt = X4) (t5 : x5.toInt = X5) (h : g184 X1 X2 X3 X4 X5 S = some r) : Mp gRI (f184 55 x1 x2 x3 x4 x5 M) r := by
  unfold g184 at h
  unfold f184
  obtain ⟨p1, e1, h⟩ := bind_so h
  refine k_call (g112_ok hR t1 tI_0 tI_2 e1) (fun b1 R1 => ?_)
  refine k_ite (c_eq R1.1 tI_0) h (fun c2 h => ?_) (fun c2 h => ?_)
  · exact k_retI R1.2 tI_m1 h
  · refine k_ob (R1.2.obF (by decide) rfl) ?_
    obtain ⟨p3, e3, h⟩ := bind_so h
    refine k_call (g116_ok R1.2 t2 e3) (fun b3 R3 => ?_)
    refine k_ite (c_eq R3.1 tI_0) h (fun c4 h => ?_) (fun c4 h => ?_)
    · exact k_retI R3.2 tI_m1 h
    · refine k_ob (R3.2.obF (by decide) rfl) ?_
      obtain ⟨p5, e5, h⟩ := bind_so h
      refine k_call (g116_ok R3.2 t3 e5) (fun b5 R5 => ?_)
      refine k_ite (c_eq R5.1 tI_0) h (fun c6 h => ?_) (fun c6 h => ?_)
      · exact k_retI R5.2 tI_m1 h
      · refine k_ite (c_eq t2 t3) h (fun c7 h => ?_) (fun c7 h => ?_)
        · exact k_retI R5.2 tI_m1 h
        · refine k_grF 58 R5.2 (R5.2.obF (by decide) rfl) rfl ?_
          refine k_some ?_
          obtain ⟨c8, h⟩ := chk_so h
          obtain ⟨V9, e9, h⟩ := lt_so h
          refine k_ai R5.2 (R5.2.lnF (by decide) rfl) rfl t2 c8 e9 (fun v9 z9 => ?_)
          refine k_ite (c_ne z9 t1) h (fun c10 h => ?_) (fun c10 h => ?_)
          · exact k_retI R5.2 tI_m1 h
          · refine k_grF 58 R5.2 (R5.2.obF (by decide) rfl) rfl ?_
            refine k_some ?_
            obtain ⟨c11, h⟩ := chk_so h
            obtain ⟨V12, e12, h⟩ := lt_so h
            refine k_ai R5.2 (R5.2.lnF (by decide) rfl) rfl t3 c11 e12 (fun v12 z12 => ?_)
            refine k_ite (c_eq z12 t1) h (fun c13 h => ?_) (fun c13 h => ?_)
            · obtain ⟨p14, e14, h⟩ := bind_so h
              refine k_call (g112_ok R5.2 t4 tI_1 tI_9999999 e14) (fun b14 R14 => ?_)
              refine k_ite (c_eq R14.1 tI_0) h (fun c15 h => ?_) (fun c15 h => ?_)
              · exact k_retI R14.2 tI_m1 h
              · refine k_ob (R14.2.obF (by decide) rfl) ?_
                obtain ⟨p16, e16, h⟩ := bind_so h
                refine k_call (g118_ok R14.2 e16) (fun b16 R16 => ?_)
                obtain ⟨V17, e17, c17, h⟩ := ckI_so h
                obtain ⟨p18, e18, h⟩ := bind_so h
                refine k_call (g112_ok R16.2 t5 (t_add R16.1 tI_1 c17 e17) tI_9 e18) (fun b18 R18 => ?_)
                refine k_ite (c_eq R18.1 tI_0) h (fun c19 h => ?_) (fun c19 h => ?_)
                · exact k_retI R18.2 tI_m1 h
                · obtain ⟨V20, e20, h⟩ := lt_so h
                  refine k_gi R18.2 (R18.2.obF (by decide) rfl) rfl e20 (fun v20 z20 => ?_)
                  refine k_ite (c_ne z20 tI_20) h (fun c21 h => ?_) (fun c21 h => ?_)
                  · refine k_grF 95 R18.2 (R18.2.obF (by decide) rfl) rfl ?_
                    obtain ⟨V22, e22, h⟩ := lt_so h
                    refine k_gi R18.2 (R18.2.obF (by decide) rfl) rfl e22 (fun v22 z22 => ?_)
                    refine k_some ?_
                    obtain ⟨c23, h⟩ := chk_so h
                    obtain ⟨S24, e24, h⟩ := lt_so h
                    refine k_si R18.2 (R18.2.lnF (by decide) rfl) rfl z22 c23 t2 e24 (fun M24 R24 => ?_)
                    refine k_grF 96 R24 (R24.obF (by decide) rfl) rfl ?_
                    obtain ⟨V25, e25, h⟩ := lt_so h
                    refine k_gi R24 (R24.obF (by decide) rfl) rfl e25 (fun v25 z25 => ?_)
                    refine k_some ?_
                    obtain ⟨c26, h⟩ := chk_so h
                    obtain ⟨S27, e27, h⟩ := lt_so h
                    refine k_si R24 (R24.lnF (by decide) rfl) rfl z25 c26 t3 e27 (fun M27 R27 => ?_)
                    refine k_grF 97 R27 (R27.obF (by decide) rfl) rfl ?_
                    obtain ⟨V28, e28, h⟩ := lt_so h
                    refine k_gi R27 (R27.obF (by decide) rfl) rfl e28 (fun v28 z28 => ?_)
                    refine k_some ?_
                    obtain ⟨c29, h⟩ := chk_so h
                    obtain ⟨S30, e30, h⟩ := lt_so h
                    refine k_si R27 (R27.lnF (by decide) rfl) rfl z28 c29 t4 e30 (fun M30 R30 => ?_)
                    refine k_grF 98 R30 (R30.obF (by decide) rfl) rfl ?_
                    obtain ⟨V31, e31, h⟩ := lt_so h
                    refine k_gi R30 (R30.obF (by decide) rfl) rfl e31 (fun v31 z31 => ?_)
                    refine k_some ?_
                    obtain ⟨c32, h⟩ := chk_so h
                    obtain ⟨S33, e33, h⟩ := lt_so h
                    refine k_si R30 (R30.lnF (by decide) rfl) rfl z31 c32 t5 e33 (fun M33 R33 => ?_)
                    refine k_grF 99 R33 (R33.obF (by decide) rfl) rfl ?_
                    obtain ⟨V34, e34, h⟩ := lt_so h
                    refine k_gi R33 (R33.obF (by decide) rfl) rfl e34 (fun v34 z34 => ?_)
                    obtain ⟨V35, e35, h⟩ := lt_so h
                    refine k_gi R33 (R33.obF (by decide) rfl) rfl e35 (fun v35 z35 => ?_)
                    refine k_some ?_
                    obtain ⟨c36, h⟩ := chk_so h
                    obtain ⟨S37, e37, h⟩ := lt_so h
                    refine k_si R33 (R33.lnF (by decide) rfl) rfl z34 c36 z35 e37 (fun M37 R37 => ?_)
                    refine k_grF 100 R37 (R37.obF (by decide) rfl) rfl ?_
                    obtain ⟨V38, e38, h⟩ := lt_so h
                    refine k_gi R37 (R37.obF (by decide) rfl) rfl e38 (fun v38 z38 => ?_)
                    refine k_some ?_
                    obtain ⟨c39, h⟩ := chk_so h
                    obtain ⟨S40, e40, h⟩ := lt_so h
                    refine k_si R37 (R37.lnF (by decide) rfl) rfl z38 c39 t1 e40 (fun M40 R40 => ?_)
                    obtain ⟨V41, e41, h⟩ := lt_so h
                    refine k_gi R40 (R40.obF (by decide) rfl) rfl e41 (fun v41 z41 => ?_)
                    obtain ⟨V42, e42, c42, h⟩ := ckI_so h
                    obtain ⟨S43, e43, h⟩ := lt_so h
                    refine k_pi R40 (R40.obF (by decide) rfl) rfl (t_add z41 tI_1 c42 e42) e43 (fun M43 R43 => ?_)
                    obtain ⟨V44, e44, h⟩ := lt_so h
                    refine k_gi R43 (R43.obF (by decide) rfl) rfl e44 (fun v44 z44 => ?_)
                    obtain ⟨V45, e45, c45, h⟩ := ckI_so h
                    exact k_retI R43 (t_sub z44 tI_1 c45 e45) h
                  · exact k_retI R18.2 tI_m1 h
            · exact k_retI R5.2 tI_m1 h
/-- PupilCoinModel.object(II)Z -/
def g185 (X1 : Int) (X2 : Int) (S : gM) : Option (Int × gM) :=
  w_lt (gi S 55 53) fun V1 =>
  w_ckI (V1 - 1) fun V2 =>
  (g112 X1 0 V2 S).bind fun p3 =>
  if p3.1 = 0 then
    some (0, p3.2)
  else
    (g116 X2 p3.2).bind fun p5 =>
    if p5.1 = 0 then
      some (0, p5.2)
    else
      w_chk ((0 : Int) ≤ X1 ∧ X1 < 20) <|
      w_lt (gi p5.2 101 X1) fun V8 =>
      if ¬ V8 = 0 then
        some (0, p5.2)
      else
        w_chk ((0 : Int) ≤ X2 ∧ X2 < 12) <|
        w_lt (gi p5.2 57 X2) fun V11 =>
        w_chk ((0 : Int) ≤ X1 ∧ X1 < 20) <|
        w_lt (gi p5.2 99 X1) fun V13 =>
        if ¬ V11 = V13 then
          some (0, p5.2)
        else
          (g118 p5.2).bind fun p15 =>
          (g122 X2 p15.1 p15.2).bind fun p16 =>
          if p16.1 = 0 then
            some (0, p16.2)
          else
            w_chk ((0 : Int) ≤ X1 ∧ X1 < 20) <|
            w_lt (gi p16.2 100 X1) fun V19 =>
            w_lt (b_shr V19 X2) fun V20 =>
            w_lt (b_and V20 1) fun V21 =>
            if ¬ V21 = 1 then
              w_chk ((0 : Int) ≤ X1 ∧ X1 < 20) <|
              w_lt (gi p16.2 100 X1) fun V24 =>
              w_lt (b_shl 1 X2) fun V25 =>
              w_lt (b_or V24 V25) fun V26 =>
              w_chk ((0 : Int) ≤ X1 ∧ X1 < 20) <|
              w_lt (wi p16.2 100 X1 V26) fun S28 =>
              some (1, S28)
            else
              some (0, p16.2)
theorem g185_ok {x1 : Int32} {X1 : Int} {x2 : Int32} {X2 : Int} {S : gM} {M : vm_M} {r : Int × gM} (hR : Rel S M) (t1 : x1.toInt = X1) (t2 : x2.toInt = X2) (h : g185 X1 X2 S = some r) : Mp gRI (f185 55 x1 x2 M) r := by
  unfold g185 at h
  unfold f185
  obtain ⟨V1, e1, h⟩ := lt_so h
  refine k_gi hR (hR.obF (by decide) rfl) rfl e1 (fun v1 z1 => ?_)
  obtain ⟨V2, e2, c2, h⟩ := ckI_so h
  obtain ⟨p3, e3, h⟩ := bind_so h
  refine k_call (g112_ok hR t1 tI_0 (t_sub z1 tI_1 c2 e2) e3) (fun b3 R3 => ?_)
  refine k_ite (c_eq R3.1 tI_0) h (fun c4 h => ?_) (fun c4 h => ?_)
  · exact k_retZ R3.2 tI_0 (by decide) h
  · refine k_ob (R3.2.obF (by decide) rfl) ?_
    obtain ⟨p5, e5, h⟩ := bind_so h
    refine k_call (g116_ok R3.2 t2 e5) (fun b5 R5 => ?_)
    refine k_ite (c_eq R5.1 tI_0) h (fun c6 h => ?_) (fun c6 h => ?_)
    · exact k_retZ R5.2 tI_0 (by decide) h
    · refine k_grF 102 R5.2 (R5.2.obF (by decide) rfl) rfl ?_
      refine k_some ?_
      obtain ⟨c7, h⟩ := chk_so h
      obtain ⟨V8, e8, h⟩ := lt_so h
      refine k_ai R5.2 (R5.2.lnF (by decide) rfl) rfl t1 c7 e8 (fun v8 z8 => ?_)
      refine k_ite (c_ne z8 tI_0) h (fun c9 h => ?_) (fun c9 h => ?_)
      · exact k_retZ R5.2 tI_0 (by decide) h
      · refine k_grF 58 R5.2 (R5.2.obF (by decide) rfl) rfl ?_
        refine k_some ?_
        obtain ⟨c10, h⟩ := chk_so h
        obtain ⟨V11, e11, h⟩ := lt_so h
        refine k_ai R5.2 (R5.2.lnF (by decide) rfl) rfl t2 c10 e11 (fun v11 z11 => ?_)
        refine k_grF 100 R5.2 (R5.2.obF (by decide) rfl) rfl ?_
        refine k_some ?_
        obtain ⟨c12, h⟩ := chk_so h
        obtain ⟨V13, e13, h⟩ := lt_so h
        refine k_ai R5.2 (R5.2.lnF (by decide) rfl) rfl t1 c12 e13 (fun v13 z13 => ?_)
        refine k_ite (c_ne z11 z13) h (fun c14 h => ?_) (fun c14 h => ?_)
        · exact k_retZ R5.2 tI_0 (by decide) h
        · refine k_ob (R5.2.obF (by decide) rfl) ?_
          obtain ⟨p15, e15, h⟩ := bind_so h
          refine k_call (g118_ok R5.2 e15) (fun b15 R15 => ?_)
          refine k_ob (R15.2.obF (by decide) rfl) ?_
          obtain ⟨p16, e16, h⟩ := bind_so h
          refine k_call (g122_ok R15.2 t2 R15.1 e16) (fun b16 R16 => ?_)
          refine k_ite (c_eq R16.1 tI_0) h (fun c17 h => ?_) (fun c17 h => ?_)
          · exact k_retZ R16.2 tI_0 (by decide) h
          · refine k_grF 101 R16.2 (R16.2.obF (by decide) rfl) rfl ?_
            refine k_some ?_
            obtain ⟨c18, h⟩ := chk_so h
            obtain ⟨V19, e19, h⟩ := lt_so h
            refine k_ai R16.2 (R16.2.lnF (by decide) rfl) rfl t1 c18 e19 (fun v19 z19 => ?_)
            obtain ⟨V20, e20, h⟩ := lt_so h
            obtain ⟨V21, e21, h⟩ := lt_so h
            refine k_ite (c_ne (t_and (t_shr z19 t2 e20) tI_1 e21) tI_1) h (fun c22 h => ?_) (fun c22 h => ?_)
            · refine k_grF 101 R16.2 (R16.2.obF (by decide) rfl) rfl ?_
              refine k_some ?_
              obtain ⟨c23, h⟩ := chk_so h
              obtain ⟨V24, e24, h⟩ := lt_so h
              refine k_ai R16.2 (R16.2.lnF (by decide) rfl) rfl t1 c23 e24 (fun v24 z24 => ?_)
              obtain ⟨V25, e25, h⟩ := lt_so h
              obtain ⟨V26, e26, h⟩ := lt_so h
              obtain ⟨c27, h⟩ := chk_so h
              obtain ⟨S28, e28, h⟩ := lt_so h
              refine k_si R16.2 (R16.2.lnF (by decide) rfl) rfl t1 c27 (t_or z24 (t_shl tI_1 t2 e25) e26) e28 (fun M28 R28 => ?_)
              exact k_retZ R28 tI_1 (by decide) h
            · exact k_retZ R16.2 tI_0 (by decide) h
def g186_l79 (X1 : Int) (X2 : Int) (X3 : Int) (K140 : Int → Int → gM → Option (Int × gM)) : Nat → Int → Int → Int → gM → Option (Int × gM)
  | 0 => fun _ _ _ _ => none
  | n + 1 => fun X4 X5 X6 S =>
    w_lt (gi S 55 1) fun V20 =>
    if V20 ≤ X6 then
      K140 X4 X5 S
    else
      w_chk ((0 : Int) ≤ X6 ∧ X6 < 12) <|
      w_lt (gi S 57 X6) fun V23 =>
      if ¬ V23 = X3 then
        w_ckI (X6 + 1) fun V25 =>
        g186_l79 X1 X2 X3 K140 n X4 X5 V25 S
      else
        (g118 S).bind fun p26 =>
        (g122 X6 p26.1 p26.2).bind fun p27 =>
        if ¬ p27.1 = 0 then
          w_ckI (X4 + 1) fun V29 =>
          w_chk ((0 : Int) ≤ X1 ∧ X1 < 20) <|
          w_lt (gi p27.2 100 X1) fun V31 =>
          w_lt (b_shr V31 X6) fun V32 =>
          w_lt (b_and V32 1) fun V33 =>
          w_ckI (X5 + V33) fun V34 =>
          w_ckI (X6 + 1) fun V35 =>
          g186_l79 X1 X2 X3 K140 n V29 V34 V35 p27.2
        else
          w_ckI (X6 + 1) fun V36 =>
          g186_l79 X1 X2 X3 K140 n X4 X5 V36 p27.2
theorem g186_l79_ok {x1 : Int32} {X1 : Int} {x2 : Int32} {X2 : Int} {x3 : Int32} {X3 : Int} {k140 : Int32 → Int32 → vm_M → Option (Int32 × vm_M)} {K140 : Int → Int → gM → Option (Int × gM)} {r : Int × gM} (hk140 : ∀ (y4 : Int32) (Y4 : Int) (y5 : Int32) (Y5 : Int) (S : gM) (M : vm_M), Rel S M → y4.toInt = Y4 → y5.toInt = Y5 → K140 Y4 Y5 S = some r → Mp gRI (k140 y4 y5 M) r) (t1 : x1.toInt = X1) (t2 : x2.toInt = X2) (t3 : x3.toInt = X3) : ∀ (n : Nat) (x4 : Int32) (X4 : Int) (x5 : Int32) (X5 : Int) (x6 : Int32) (X6 : Int) (S : gM) (M : vm_M), Rel S M → x4.toInt = X4 → x5.toInt = X5 → x6.toInt = X6 → g186_l79 X1 X2 X3 K140 n X4 X5 X6 S = some r → Mp gRI (f186_l79 55 x1 x2 x3 k140 n x4 x5 x6 M) r := by
  intro n
  induction n with
  | zero =>
    intro x4 X4 x5 X5 x6 X6 S M hR t4 t5 t6 h
    cases h
  | succ n ih =>
    intro x4 X4 x5 X5 x6 X6 S M hR t4 t5 t6 h
    dsimp only [g186_l79] at h
    dsimp only [f186_l79]
    obtain ⟨V20, e20, h⟩ := lt_so h
    refine k_gi hR (hR.obF (by decide) rfl) rfl e20 (fun v20 z20 => ?_)
    refine k_ite (c_le z20 t6) h (fun c21 h => ?_) (fun c21 h => ?_)
    · exact hk140 _ _ _ _ _ _ hR t4 t5 h
    · refine k_grF 58 hR (hR.obF (by decide) rfl) rfl ?_
      refine k_some ?_
      obtain ⟨c22, h⟩ := chk_so h
      obtain ⟨V23, e23, h⟩ := lt_so h
      refine k_ai hR (hR.lnF (by decide) rfl) rfl t6 c22 e23 (fun v23 z23 => ?_)
      refine k_ite (c_ne z23 t3) h (fun c24 h => ?_) (fun c24 h => ?_)
      · obtain ⟨V25, e25, c25, h⟩ := ckI_so h
        exact ih _ _ _ _ _ _ _ _ hR t4 t5 (t_add t6 tI_1 c25 e25) h
      · refine k_ob (hR.obF (by decide) rfl) ?_
        obtain ⟨p26, e26, h⟩ := bind_so h
        refine k_call (g118_ok hR e26) (fun b26 R26 => ?_)
        refine k_ob (R26.2.obF (by decide) rfl) ?_
        obtain ⟨p27, e27, h⟩ := bind_so h
        refine k_call (g122_ok R26.2 t6 R26.1 e27) (fun b27 R27 => ?_)
        refine k_ite (c_ne R27.1 tI_0) h (fun c28 h => ?_) (fun c28 h => ?_)
        · obtain ⟨V29, e29, c29, h⟩ := ckI_so h
          refine k_grF 101 R27.2 (R27.2.obF (by decide) rfl) rfl ?_
          refine k_some ?_
          obtain ⟨c30, h⟩ := chk_so h
          obtain ⟨V31, e31, h⟩ := lt_so h
          refine k_ai R27.2 (R27.2.lnF (by decide) rfl) rfl t1 c30 e31 (fun v31 z31 => ?_)
          obtain ⟨V32, e32, h⟩ := lt_so h
          obtain ⟨V33, e33, h⟩ := lt_so h
          obtain ⟨V34, e34, c34, h⟩ := ckI_so h
          obtain ⟨V35, e35, c35, h⟩ := ckI_so h
          exact ih _ _ _ _ _ _ _ _ R27.2 (t_add t4 tI_1 c29 e29) (t_add t5 (t_and (t_shr z31 t6 e32) tI_1 e33) c34 e34) (t_add t6 tI_1 c35 e35) h
        · obtain ⟨V36, e36, c36, h⟩ := ckI_so h
          exact ih _ _ _ _ _ _ _ _ R27.2 t4 t5 (t_add t6 tI_1 c36 e36) h
def g186_l163 (X1 : Int) (X2 : Int) (X3 : Int) (K227 : Int → gM → Option (Int × gM)) : Nat → Int → Int → gM → Option (Int × gM)
  | 0 => fun _ _ _ => none
  | n + 1 => fun X6 X8 S =>
    w_lt (gi S 55 53) fun V44 =>
    if V44 ≤ X8 then
      K227 X6 S
    else
      w_chk ((0 : Int) ≤ X8 ∧ X8 < 20) <|
      w_lt (gi S 101 X8) fun V47 =>
      if V47 = 0 then
        w_ckJ (X6 + 0) fun V49 =>
        w_ckI (X8 + 1) fun V50 =>
        g186_l163 X1 X2 X3 K227 n V49 V50 S
      else
        w_chk ((0 : Int) ≤ X8 ∧ X8 < 20) <|
        w_lt (gi S 99 X8) fun V52 =>
        if ¬ V52 = X3 then
          w_ckJ (X6 + 0) fun V54 =>
          w_ckI (X8 + 1) fun V55 =>
          g186_l163 X1 X2 X3 K227 n V54 V55 S
        else
          w_chk ((0 : Int) ≤ X8 ∧ X8 < 20) <|
          w_lt (gi S 97 X8) fun V57 =>
          if ¬ V57 = X2 then
            w_ckJ (X6 + 0) fun V59 =>
            w_ckI (X8 + 1) fun V60 =>
            g186_l163 X1 X2 X3 K227 n V59 V60 S
          else
            w_chk ((0 : Int) ≤ X8 ∧ X8 < 20) <|
            w_lt (gi S 96 X8) fun V62 =>
            w_ckJ (X6 + V62) fun V63 =>
            w_ckI (X8 + 1) fun V64 =>
            g186_l163 X1 X2 X3 K227 n V63 V64 S
theorem g186_l163_ok {x1 : Int32} {X1 : Int} {x2 : Int32} {X2 : Int} {x3 : Int32} {X3 : Int} {k227 : Int64 → vm_M → Option (Int32 × vm_M)} {K227 : Int → gM → Option (Int × gM)} {r : Int × gM} (hk227 : ∀ (y6 : Int64) (Y6 : Int) (S : gM) (M : vm_M), Rel S M → y6.toInt = Y6 → K227 Y6 S = some r → Mp gRI (k227 y6 M) r) (t1 : x1.toInt = X1) (t2 : x2.toInt = X2) (t3 : x3.toInt = X3) : ∀ (n : Nat) (x6 : Int64) (X6 : Int) (x8 : Int32) (X8 : Int) (S : gM) (M : vm_M), Rel S M → x6.toInt = X6 → x8.toInt = X8 → g186_l163 X1 X2 X3 K227 n X6 X8 S = some r → Mp gRI (f186_l163 55 x1 x2 x3 k227 n x6 x8 M) r := by
  intro n
  induction n with
  | zero =>
    intro x6 X6 x8 X8 S M hR t6 t8 h
    cases h
  | succ n ih =>
    intro x6 X6 x8 X8 S M hR t6 t8 h
    dsimp only [g186_l163] at h
    dsimp only [f186_l163]
    obtain ⟨V44, e44, h⟩ := lt_so h
    refine k_gi hR (hR.obF (by decide) rfl) rfl e44 (fun v44 z44 => ?_)
    refine k_ite (c_le z44 t8) h (fun c45 h => ?_) (fun c45 h => ?_)
    · exact hk227 _ _ _ _ hR t6 h
    · refine k_grF 102 hR (hR.obF (by decide) rfl) rfl ?_
      refine k_some ?_
      obtain ⟨c46, h⟩ := chk_so h
      obtain ⟨V47, e47, h⟩ := lt_so h
      refine k_ai hR (hR.lnF (by decide) rfl) rfl t8 c46 e47 (fun v47 z47 => ?_)
      refine k_ite (c_eq z47 tI_0) h (fun c48 h => ?_) (fun c48 h => ?_)
      · obtain ⟨V49, e49, c49, h⟩ := ckJ_so h
        obtain ⟨V50, e50, c50, h⟩ := ckI_so h
        exact ih _ _ _ _ _ _ hR (tJ_add t6 tJ_0 c49 e49) (t_add t8 tI_1 c50 e50) h
      · refine k_grF 100 hR (hR.obF (by decide) rfl) rfl ?_
        refine k_some ?_
        obtain ⟨c51, h⟩ := chk_so h
        obtain ⟨V52, e52, h⟩ := lt_so h
        refine k_ai hR (hR.lnF (by decide) rfl) rfl t8 c51 e52 (fun v52 z52 => ?_)
        refine k_ite (c_ne z52 t3) h (fun c53 h => ?_) (fun c53 h => ?_)
        · obtain ⟨V54, e54, c54, h⟩ := ckJ_so h
          obtain ⟨V55, e55, c55, h⟩ := ckI_so h
          exact ih _ _ _ _ _ _ hR (tJ_add t6 tJ_0 c54 e54) (t_add t8 tI_1 c55 e55) h
        · refine k_grF 98 hR (hR.obF (by decide) rfl) rfl ?_
          refine k_some ?_
          obtain ⟨c56, h⟩ := chk_so h
          obtain ⟨V57, e57, h⟩ := lt_so h
          refine k_ai hR (hR.lnF (by decide) rfl) rfl t8 c56 e57 (fun v57 z57 => ?_)
          refine k_ite (c_ne z57 t2) h (fun c58 h => ?_) (fun c58 h => ?_)
          · obtain ⟨V59, e59, c59, h⟩ := ckJ_so h
            obtain ⟨V60, e60, c60, h⟩ := ckI_so h
            exact ih _ _ _ _ _ _ hR (tJ_add t6 tJ_0 c59 e59) (t_add t8 tI_1 c60 e60) h
          · refine k_grF 97 hR (hR.obF (by decide) rfl) rfl ?_
            refine k_some ?_
            obtain ⟨c61, h⟩ := chk_so h
            obtain ⟨V62, e62, h⟩ := lt_so h
            refine k_ai hR (hR.lnF (by decide) rfl) rfl t8 c61 e62 (fun v62 z62 => ?_)
            obtain ⟨V63, e63, c63, h⟩ := ckJ_so h
            obtain ⟨V64, e64, c64, h⟩ := ckI_so h
            exact ih _ _ _ _ _ _ hR (tJ_add t6 (t_itol z62) c63 e63) (t_add t8 tI_1 c64 e64) h
def g186_l242 (X1 : Int) (X2 : Int) (X3 : Int) (X6 : Int) (K284 : Int → gM → Option (Int × gM)) : Nat → Int → Int → gM → Option (Int × gM)
  | 0 => fun _ _ _ => none
  | n + 1 => fun X8 X10 S =>
    w_lt (gi S 55 1) fun V69 =>
    if V69 ≤ X10 then
      K284 X8 S
    else
      w_chk ((0 : Int) ≤ X10 ∧ X10 < 12) <|
      w_lt (gi S 57 X10) fun V72 =>
      if ¬ V72 = X3 then
        w_ckJ (X8 + 0) fun V74 =>
        w_ckI (X10 + 1) fun V75 =>
        g186_l242 X1 X2 X3 X6 K284 n V74 V75 S
      else
        w_chk ((0 : Int) ≤ X10 ∧ X10 < 12) <|
        w_lt (gl S 89 X10) fun V77 =>
        w_ckJ (X8 + V77) fun V78 =>
        w_ckI (X10 + 1) fun V79 =>
        g186_l242 X1 X2 X3 X6 K284 n V78 V79 S
theorem g186_l242_ok {x1 : Int32} {X1 : Int} {x2 : Int32} {X2 : Int} {x3 : Int32} {X3 : Int} {x6 : Int64} {X6 : Int} {k284 : Int64 → vm_M → Option (Int32 × vm_M)} {K284 : Int → gM → Option (Int × gM)} {r : Int × gM} (hk284 : ∀ (y8 : Int64) (Y8 : Int) (S : gM) (M : vm_M), Rel S M → y8.toInt = Y8 → K284 Y8 S = some r → Mp gRI (k284 y8 M) r) (t1 : x1.toInt = X1) (t2 : x2.toInt = X2) (t3 : x3.toInt = X3) (t6 : x6.toInt = X6) : ∀ (n : Nat) (x8 : Int64) (X8 : Int) (x10 : Int32) (X10 : Int) (S : gM) (M : vm_M), Rel S M → x8.toInt = X8 → x10.toInt = X10 → g186_l242 X1 X2 X3 X6 K284 n X8 X10 S = some r → Mp gRI (f186_l242 55 x1 x2 x3 x6 k284 n x8 x10 M) r := by
  intro n
  induction n with
  | zero =>
    intro x8 X8 x10 X10 S M hR t8 t10 h
    cases h
  | succ n ih =>
    intro x8 X8 x10 X10 S M hR t8 t10 h
    dsimp only [g186_l242] at h
    dsimp only [f186_l242]
    obtain ⟨V69, e69, h⟩ := lt_so h
    refine k_gi hR (hR.obF (by decide) rfl) rfl e69 (fun v69 z69 => ?_)
    refine k_ite (c_le z69 t10) h (fun c70 h => ?_) (fun c70 h => ?_)
    · exact hk284 _ _ _ _ hR t8 h
    · refine k_grF 58 hR (hR.obF (by decide) rfl) rfl ?_
      refine k_some ?_
      obtain ⟨c71, h⟩ := chk_so h
      obtain ⟨V72, e72, h⟩ := lt_so h
      refine k_ai hR (hR.lnF (by decide) rfl) rfl t10 c71 e72 (fun v72 z72 => ?_)
      refine k_ite (c_ne z72 t3) h (fun c73 h => ?_) (fun c73 h => ?_)
      · obtain ⟨V74, e74, c74, h⟩ := ckJ_so h
        obtain ⟨V75, e75, c75, h⟩ := ckI_so h
        exact ih _ _ _ _ _ _ hR (tJ_add t8 tJ_0 c74 e74) (t_add t10 tI_1 c75 e75) h
      · refine k_grF 90 hR (hR.obF (by decide) rfl) rfl ?_
        refine k_some ?_
        obtain ⟨c76, h⟩ := chk_so h
        obtain ⟨V77, e77, h⟩ := lt_so h
        refine k_al hR (hR.lnF (by decide) rfl) rfl t10 c76 e77 (fun v77 z77 => ?_)
        obtain ⟨V78, e78, c78, h⟩ := ckJ_so h
        obtain ⟨V79, e79, c79, h⟩ := ckI_so h
        exact ih _ _ _ _ _ _ hR (tJ_add t8 z77 c78 e78) (t_add t10 tI_1 c79 e79) h
/-- PupilCoinModel.adopt(I)I -/
def g186 (X1 : Int) (S : gM) : Option (Int × gM) :=
  w_lt (gi S 55 53) fun V1 =>
  w_ckI (V1 - 1) fun V2 =>
  (g112 X1 0 V2 S).bind fun p3 =>
  if p3.1 = 0 then
    some (1, p3.2)
  else
    w_chk ((0 : Int) ≤ X1 ∧ X1 < 20) <|
    w_lt (gi p3.2 101 X1) fun V6 =>
    if V6 = 0 then
      w_chk ((0 : Int) ≤ X1 ∧ X1 < 20) <|
      w_lt (gi p3.2 97 X1) fun V9 =>
      w_chk ((0 : Int) ≤ X1 ∧ X1 < 20) <|
      w_lt (gi p3.2 99 X1) fun V11 =>
      w_lt (gi p3.2 55 0) fun V12 =>
      w_chk ((0 : Int) ≤ X1 ∧ X1 < 20) <|
      w_lt (gi p3.2 98 X1) fun V14 =>
      w_ckI (V14 + 10) fun V15 =>
      if V15 ≤ V12 then
        w_lt (gi p3.2 55 0) fun V17 =>
        w_ckI (100 * V9) fun V18 =>
        if V17 < V18 then
          g186_l79 X1 V9 V11
            (fun Y37 Y38 S39 =>
              w_ckI (2 * Y38) fun V40 =>
              if V40 ≤ Y37 then
                w_chk ((0 : Int) ≤ X1 ∧ X1 < 20) <|
                w_lt (gi S39 96 X1) fun V43 =>
                g186_l163 X1 V9 V11
                  (fun Y65 S66 =>
                    w_lt (gi S66 55 0) fun V67 =>
                    (g177 V9 V67 S66).bind fun p68 =>
                    g186_l242 X1 V9 V11 Y65
                      (fun Y80 S81 =>
                        w_lt (gi S81 55 0) fun V82 =>
                        (g160 V9 V82 S81).bind fun p83 =>
                        (g162 p83.1 4 0 p83.2).bind fun p84 =>
                        w_ckJ (Y80 * p84.1) fun V85 =>
                        w_ckJ (V85.tdiv 100) fun V86 =>
                        if Y65 ≤ V86 then
                          w_chk ((0 : Int) ≤ X1 ∧ X1 < 20) <|
                          w_lt (wi p84.2 101 X1 1) fun S89 =>
                          some (0, S89)
                        else
                          some (5, p84.2))
                      100000 0 0 p68)
                  100000 V43 0 S39
              else
                some (4, S39))
            100000 0 0 0 p3.2
        else
          some (3, p3.2)
      else
        some (2, p3.2)
    else
      some (1, p3.2)
theorem g186_ok {x1 : Int32} {X1 : Int} {S : gM} {M : vm_M} {r : Int × gM} (hR : Rel S M) (t1 : x1.toInt = X1) (h : g186 X1 S = some r) : Mp gRI (f186 55 x1 M) r := by
  unfold g186 at h
  unfold f186
  obtain ⟨V1, e1, h⟩ := lt_so h
  refine k_gi hR (hR.obF (by decide) rfl) rfl e1 (fun v1 z1 => ?_)
  obtain ⟨V2, e2, c2, h⟩ := ckI_so h
  obtain ⟨p3, e3, h⟩ := bind_so h
  refine k_call (g112_ok hR t1 tI_0 (t_sub z1 tI_1 c2 e2) e3) (fun b3 R3 => ?_)
  refine k_ite (c_eq R3.1 tI_0) h (fun c4 h => ?_) (fun c4 h => ?_)
  · exact k_retI R3.2 tI_1 h
  · refine k_grF 102 R3.2 (R3.2.obF (by decide) rfl) rfl ?_
    refine k_some ?_
    obtain ⟨c5, h⟩ := chk_so h
    obtain ⟨V6, e6, h⟩ := lt_so h
    refine k_ai R3.2 (R3.2.lnF (by decide) rfl) rfl t1 c5 e6 (fun v6 z6 => ?_)
    refine k_ite (c_eq z6 tI_0) h (fun c7 h => ?_) (fun c7 h => ?_)
    · refine k_grF 98 R3.2 (R3.2.obF (by decide) rfl) rfl ?_
      refine k_some ?_
      obtain ⟨c8, h⟩ := chk_so h
      obtain ⟨V9, e9, h⟩ := lt_so h
      refine k_ai R3.2 (R3.2.lnF (by decide) rfl) rfl t1 c8 e9 (fun v9 z9 => ?_)
      refine k_grF 100 R3.2 (R3.2.obF (by decide) rfl) rfl ?_
      refine k_some ?_
      obtain ⟨c10, h⟩ := chk_so h
      obtain ⟨V11, e11, h⟩ := lt_so h
      refine k_ai R3.2 (R3.2.lnF (by decide) rfl) rfl t1 c10 e11 (fun v11 z11 => ?_)
      obtain ⟨V12, e12, h⟩ := lt_so h
      refine k_gi R3.2 (R3.2.obF (by decide) rfl) rfl e12 (fun v12 z12 => ?_)
      refine k_grF 99 R3.2 (R3.2.obF (by decide) rfl) rfl ?_
      refine k_some ?_
      obtain ⟨c13, h⟩ := chk_so h
      obtain ⟨V14, e14, h⟩ := lt_so h
      refine k_ai R3.2 (R3.2.lnF (by decide) rfl) rfl t1 c13 e14 (fun v14 z14 => ?_)
      obtain ⟨V15, e15, c15, h⟩ := ckI_so h
      refine k_ite (c_le (t_add z14 tI_10 c15 e15) z12) h (fun c16 h => ?_) (fun c16 h => ?_)
      · obtain ⟨V17, e17, h⟩ := lt_so h
        refine k_gi R3.2 (R3.2.obF (by decide) rfl) rfl e17 (fun v17 z17 => ?_)
        obtain ⟨V18, e18, c18, h⟩ := ckI_so h
        refine k_ite (c_lt z17 (t_mul tI_100 z9 c18 e18)) h (fun c19 h => ?_) (fun c19 h => ?_)
        · refine g186_l79_ok ?_ t1 z9 z11 100000 _ _ _ _ _ _ _ _ R3.2 tI_0 tI_0 tI_0 h
          · intro y37 Y37 y38 Y38 S39 M39 R39 u37 u38
            intro h
            obtain ⟨V40, e40, c40, h⟩ := ckI_so h
            refine k_ite (c_le (t_mul tI_2 u38 c40 e40) u37) h (fun c41 h => ?_) (fun c41 h => ?_)
            · refine k_grF 97 R39 (R39.obF (by decide) rfl) rfl ?_
              refine k_some ?_
              obtain ⟨c42, h⟩ := chk_so h
              obtain ⟨V43, e43, h⟩ := lt_so h
              refine k_ai R39 (R39.lnF (by decide) rfl) rfl t1 c42 e43 (fun v43 z43 => ?_)
              refine g186_l163_ok ?_ t1 z9 z11 100000 _ _ _ _ _ _ R39 (t_itol z43) tI_0 h
              · intro y65 Y65 S66 M66 R66 u65
                intro h
                obtain ⟨V67, e67, h⟩ := lt_so h
                refine k_gi R66 (R66.obF (by decide) rfl) rfl e67 (fun v67 z67 => ?_)
                refine k_ob (R66.obF (by decide) rfl) ?_
                obtain ⟨p68, e68, h⟩ := bind_so h
                refine k_call (g177_ok R66 z9 z67 e68) (fun M68 R68 => ?_)
                refine g186_l242_ok ?_ t1 z9 z11 u65 100000 _ _ _ _ _ _ R68 tJ_0 tI_0 h
                · intro y80 Y80 S81 M81 R81 u80
                  intro h
                  obtain ⟨V82, e82, h⟩ := lt_so h
                  refine k_gi R81 (R81.obF (by decide) rfl) rfl e82 (fun v82 z82 => ?_)
                  refine k_ob (R81.obF (by decide) rfl) ?_
                  obtain ⟨p83, e83, h⟩ := bind_so h
                  refine k_call (g160_ok R81 z9 z82 e83) (fun b83 R83 => ?_)
                  refine k_ob (R83.2.obF (by decide) rfl) ?_
                  obtain ⟨p84, e84, h⟩ := bind_so h
                  refine k_call (g162_ok R83.2 R83.1 tI_4 tI_0 e84) (fun b84 R84 => ?_)
                  obtain ⟨V85, e85, c85, h⟩ := ckJ_so h
                  obtain ⟨V86, e86, c86, h⟩ := ckJ_so h
                  refine k_dvJ (tJ_mul u80 (t_itol R84.1) c85 e85) tJ_100 (by decide) c86 e86 (fun v86 z86 => ?_)
                  refine k_ite (cJ_le u65 z86) h (fun c87 h => ?_) (fun c87 h => ?_)
                  · refine k_grF 102 R84.2 (R84.2.obF (by decide) rfl) rfl ?_
                    refine k_some ?_
                    obtain ⟨c88, h⟩ := chk_so h
                    obtain ⟨S89, e89, h⟩ := lt_so h
                    refine k_sz R84.2 (R84.2.lnF (by decide) rfl) rfl t1 c88 tI_1 (by decide) e89 (fun M89 R89 => ?_)
                    exact k_retI R89 tI_0 h
                  · exact k_retI R84.2 tI_5 h
            · exact k_retI R39 tI_4 h
        · exact k_retI R3.2 tI_3 h
      · exact k_retI R3.2 tI_2 h
    · exact k_retI R3.2 tI_1 h
/-- PupilCoinModel.sumsBeside(I)V -/
def g187 (X1 : Int) (S : gM) : Option (gM) :=
  (g176 X1 S).bind fun p1 =>
  w_lt (gi p1 55 0) fun V2 =>
  (g170 X1 V2 8 (-1) (-1) p1).bind fun p3 =>
  some p3
theorem g187_ok {x1 : Int32} {X1 : Int} {S : gM} {M : vm_M} {r : gM} (hR : Rel S M) (t1 : x1.toInt = X1) (h : g187 X1 S = some r) : Mp gRV (f187 55 x1 M) r := by
  unfold g187 at h
  unfold f187
  refine k_ob (hR.obF (by decide) rfl) ?_
  obtain ⟨p1, e1, h⟩ := bind_so h
  refine k_call (g176_ok hR t1 e1) (fun M1 R1 => ?_)
  obtain ⟨V2, e2, h⟩ := lt_so h
  refine k_gi R1 (R1.obF (by decide) rfl) rfl e2 (fun v2 z2 => ?_)
  refine k_ob (R1.obF (by decide) rfl) ?_
  obtain ⟨p3, e3, h⟩ := bind_so h
  refine k_call (g170_ok R1 t1 z2 tI_8 tI_m1 tI_m1 e3) (fun M3 R3 => ?_)
  exact k_retV R3 h
/-- PupilCoinModel.other(II)J -/
def g188 (X1 : Int) (X2 : Int) (S : gM) : Option (Int × gM) :=
  w_lt (gi S 55 26) fun V1 =>
  if V1 = 0 then
    some ((-2000000000000), S)
  else
    (g116 X1 S).bind fun p3 =>
    if p3.1 = 0 then
      some ((-2000000000000), p3.2)
    else
      (g115 X2 p3.2).bind fun p5 =>
      if ¬ p5.1 = 0 then
        (g187 X2 p5.2).bind fun p7 =>
        w_chk ((0 : Int) ≤ X1 ∧ X1 < 12) <|
        w_lt (gl p7 89 X1) fun V9 =>
        some (V9, p7)
      else
        some ((-2000000000000), p5.2)
theorem g188_ok {x1 : Int32} {X1 : Int} {x2 : Int32} {X2 : Int} {S : gM} {M : vm_M} {r : Int × gM} (hR : Rel S M) (t1 : x1.toInt = X1) (t2 : x2.toInt = X2) (h : g188 X1 X2 S = some r) : Mp gRJ (f188 55 x1 x2 M) r := by
  unfold g188 at h
  unfold f188
  obtain ⟨V1, e1, h⟩ := lt_so h
  refine k_gi hR (hR.obF (by decide) rfl) rfl e1 (fun v1 z1 => ?_)
  refine k_ite (c_eq z1 tI_0) h (fun c2 h => ?_) (fun c2 h => ?_)
  · exact k_retJ hR tJ_m2000000000000 h
  · refine k_ob (hR.obF (by decide) rfl) ?_
    obtain ⟨p3, e3, h⟩ := bind_so h
    refine k_call (g116_ok hR t1 e3) (fun b3 R3 => ?_)
    refine k_ite (c_eq R3.1 tI_0) h (fun c4 h => ?_) (fun c4 h => ?_)
    · exact k_retJ R3.2 tJ_m2000000000000 h
    · obtain ⟨p5, e5, h⟩ := bind_so h
      refine k_call (g115_ok R3.2 t2 e5) (fun b5 R5 => ?_)
      refine k_ite (c_ne R5.1 tI_0) h (fun c6 h => ?_) (fun c6 h => ?_)
      · refine k_ob (R5.2.obF (by decide) rfl) ?_
        obtain ⟨p7, e7, h⟩ := bind_so h
        refine k_call (g187_ok R5.2 t2 e7) (fun M7 R7 => ?_)
        refine k_grF 90 R7 (R7.obF (by decide) rfl) rfl ?_
        refine k_some ?_
        obtain ⟨c8, h⟩ := chk_so h
        obtain ⟨V9, e9, h⟩ := lt_so h
        refine k_al R7 (R7.lnF (by decide) rfl) rfl t1 c8 e9 (fun v9 z9 => ?_)
        exact k_retJ R7 z9 h
      · exact k_retJ R5.2 tJ_m2000000000000 h
def g189_l27 (X1 : Int) (K53 : gM → Option (Int × gM)) : Nat → Int → gM → Option (Int × gM)
  | 0 => fun _ _ => none
  | n + 1 => fun X2 S =>
    w_lt (gi S 55 1) fun V7 =>
    if V7 ≤ X2 then
      K53 S
    else
      w_chk ((0 : Int) ≤ X2 ∧ X2 < 12) <|
      w_lt (gl S 89 X2) fun V10 =>
      w_chk ((0 : Int) ≤ X2 ∧ X2 < 12) <|
      w_lt (wl S 93 X2 V10) fun S12 =>
      w_ckI (X2 + 1) fun V13 =>
      g189_l27 X1 K53 n V13 S12
theorem g189_l27_ok {x1 : Int32} {X1 : Int} {k53 : vm_M → Option (Int32 × vm_M)} {K53 : gM → Option (Int × gM)} {r : Int × gM} (hk53 : ∀ (S : gM) (M : vm_M), Rel S M → K53 S = some r → Mp gRI (k53 M) r) (t1 : x1.toInt = X1) : ∀ (n : Nat) (x2 : Int32) (X2 : Int) (S : gM) (M : vm_M), Rel S M → x2.toInt = X2 → g189_l27 X1 K53 n X2 S = some r → Mp gRI (f189_l27 55 x1 k53 n x2 M) r := by
  intro n
  induction n with
  | zero =>
    intro x2 X2 S M hR t2 h
    cases h
  | succ n ih =>
    intro x2 X2 S M hR t2 h
    dsimp only [g189_l27] at h
    dsimp only [f189_l27]
    obtain ⟨V7, e7, h⟩ := lt_so h
    refine k_gi hR (hR.obF (by decide) rfl) rfl e7 (fun v7 z7 => ?_)
    refine k_ite (c_le z7 t2) h (fun c8 h => ?_) (fun c8 h => ?_)
    · exact hk53 _ _ hR h
    · refine k_grF 94 hR (hR.obF (by decide) rfl) rfl ?_
      refine k_grF 90 hR (hR.obF (by decide) rfl) rfl ?_
      refine k_some ?_
      obtain ⟨c9, h⟩ := chk_so h
      obtain ⟨V10, e10, h⟩ := lt_so h
      refine k_al hR (hR.lnF (by decide) rfl) rfl t2 c9 e10 (fun v10 z10 => ?_)
      refine k_some ?_
      obtain ⟨c11, h⟩ := chk_so h
      obtain ⟨S12, e12, h⟩ := lt_so h
      refine k_sl hR (hR.lnF (by decide) rfl) rfl t2 c11 z10 e12 (fun M12 R12 => ?_)
      obtain ⟨V13, e13, c13, h⟩ := ckI_so h
      exact ih _ _ _ _ R12 (t_add t2 tI_1 c13 e13) h
def g189_l62 (X1 : Int) : Nat → Int → Int → gM → Option (Int × gM)
  | 0 => fun _ _ _ => none
  | n + 1 => fun X2 X3 S =>
    w_lt (gi S 55 1) fun V16 =>
    if V16 ≤ X3 then
      some (X2, S)
    else
      (g122 X3 X1 S).bind fun p18 =>
      if p18.1 = 0 then
        (g113 0 p18.2).bind fun p20 =>
        w_ckI (X2 + p20.1) fun V21 =>
        w_ckI (X3 + 1) fun V22 =>
        g189_l62 X1 n V21 V22 p20.2
      else
        w_chk ((0 : Int) ≤ X3 ∧ X3 < 12) <|
        w_lt (gl p18.2 89 X3) fun V24 =>
        w_chk ((0 : Int) ≤ X3 ∧ X3 < 12) <|
        w_lt (gl p18.2 93 X3) fun V26 =>
        if V26 ≤ V24 then
          (g113 0 p18.2).bind fun p28 =>
          w_ckI (X2 + p28.1) fun V29 =>
          w_ckI (X3 + 1) fun V30 =>
          g189_l62 X1 n V29 V30 p28.2
        else
          (g113 1 p18.2).bind fun p31 =>
          w_ckI (X2 + p31.1) fun V32 =>
          w_ckI (X3 + 1) fun V33 =>
          g189_l62 X1 n V32 V33 p31.2
theorem g189_l62_ok {x1 : Int32} {X1 : Int} {r : Int × gM} (t1 : x1.toInt = X1) : ∀ (n : Nat) (x2 : Int32) (X2 : Int) (x3 : Int32) (X3 : Int) (S : gM) (M : vm_M), Rel S M → x2.toInt = X2 → x3.toInt = X3 → g189_l62 X1 n X2 X3 S = some r → Mp gRI (f189_l62 55 x1 n x2 x3 M) r := by
  intro n
  induction n with
  | zero =>
    intro x2 X2 x3 X3 S M hR t2 t3 h
    cases h
  | succ n ih =>
    intro x2 X2 x3 X3 S M hR t2 t3 h
    dsimp only [g189_l62] at h
    dsimp only [f189_l62]
    obtain ⟨V16, e16, h⟩ := lt_so h
    refine k_gi hR (hR.obF (by decide) rfl) rfl e16 (fun v16 z16 => ?_)
    refine k_ite (c_le z16 t3) h (fun c17 h => ?_) (fun c17 h => ?_)
    · exact k_retI hR t2 h
    · refine k_ob (hR.obF (by decide) rfl) ?_
      obtain ⟨p18, e18, h⟩ := bind_so h
      refine k_call (g122_ok hR t3 t1 e18) (fun b18 R18 => ?_)
      refine k_ite (c_eq R18.1 tI_0) h (fun c19 h => ?_) (fun c19 h => ?_)
      · obtain ⟨p20, e20, h⟩ := bind_so h
        refine k_call (g113_ok R18.2 tI_0 e20) (fun b20 R20 => ?_)
        obtain ⟨V21, e21, c21, h⟩ := ckI_so h
        obtain ⟨V22, e22, c22, h⟩ := ckI_so h
        exact ih _ _ _ _ _ _ R20.2 (t_add t2 R20.1 c21 e21) (t_add t3 tI_1 c22 e22) h
      · refine k_grF 90 R18.2 (R18.2.obF (by decide) rfl) rfl ?_
        refine k_some ?_
        obtain ⟨c23, h⟩ := chk_so h
        obtain ⟨V24, e24, h⟩ := lt_so h
        refine k_al R18.2 (R18.2.lnF (by decide) rfl) rfl t3 c23 e24 (fun v24 z24 => ?_)
        refine k_grF 94 R18.2 (R18.2.obF (by decide) rfl) rfl ?_
        refine k_some ?_
        obtain ⟨c25, h⟩ := chk_so h
        obtain ⟨V26, e26, h⟩ := lt_so h
        refine k_al R18.2 (R18.2.lnF (by decide) rfl) rfl t3 c25 e26 (fun v26 z26 => ?_)
        refine k_ite (cJ_ge z24 z26) h (fun c27 h => ?_) (fun c27 h => ?_)
        · obtain ⟨p28, e28, h⟩ := bind_so h
          refine k_call (g113_ok R18.2 tI_0 e28) (fun b28 R28 => ?_)
          obtain ⟨V29, e29, c29, h⟩ := ckI_so h
          obtain ⟨V30, e30, c30, h⟩ := ckI_so h
          exact ih _ _ _ _ _ _ R28.2 (t_add t2 R28.1 c29 e29) (t_add t3 tI_1 c30 e30) h
        · obtain ⟨p31, e31, h⟩ := bind_so h
          refine k_call (g113_ok R18.2 tI_1 e31) (fun b31 R31 => ?_)
          obtain ⟨V32, e32, c32, h⟩ := ckI_so h
          obtain ⟨V33, e33, c33, h⟩ := ckI_so h
          exact ih _ _ _ _ _ _ R31.2 (t_add t2 R31.1 c32 e32) (t_add t3 tI_1 c33 e33) h
/-- PupilCoinModel.losers(I)I -/
def g189 (X1 : Int) (S : gM) : Option (Int × gM) :=
  w_lt (gi S 55 26) fun V1 =>
  if V1 = 0 then
    some ((-1), S)
  else
    (g115 X1 S).bind fun p3 =>
    if ¬ p3.1 = 0 then
      w_lt (gi p3.2 55 0) fun V5 =>
      (g177 X1 V5 p3.2).bind fun p6 =>
      g189_l27 X1
        (fun S14 =>
          (g187 X1 S14).bind fun p15 =>
          g189_l62 X1
          
            100000 0 0 p15)
        100000 0 p6
    else
      some ((-1), p3.2)
theorem g189_ok {x1 : Int32} {X1 : Int} {S : gM} {M : vm_M} {r : Int × gM} (hR : Rel S M) (t1 : x1.toInt = X1) (h : g189 X1 S = some r) : Mp gRI (f189 55 x1 M) r := by
  unfold g189 at h
  unfold f189
  obtain ⟨V1, e1, h⟩ := lt_so h
  refine k_gi hR (hR.obF (by decide) rfl) rfl e1 (fun v1 z1 => ?_)
  refine k_ite (c_eq z1 tI_0) h (fun c2 h => ?_) (fun c2 h => ?_)
  · exact k_retI hR tI_m1 h
  · obtain ⟨p3, e3, h⟩ := bind_so h
    refine k_call (g115_ok hR t1 e3) (fun b3 R3 => ?_)
    refine k_ite (c_ne R3.1 tI_0) h (fun c4 h => ?_) (fun c4 h => ?_)
    · obtain ⟨V5, e5, h⟩ := lt_so h
      refine k_gi R3.2 (R3.2.obF (by decide) rfl) rfl e5 (fun v5 z5 => ?_)
      refine k_ob (R3.2.obF (by decide) rfl) ?_
      obtain ⟨p6, e6, h⟩ := bind_so h
      refine k_call (g177_ok R3.2 t1 z5 e6) (fun M6 R6 => ?_)
      refine g189_l27_ok ?_ t1 100000 _ _ _ _ R6 tI_0 h
      · intro S14 M14 R14
        intro h
        refine k_ob (R14.obF (by decide) rfl) ?_
        obtain ⟨p15, e15, h⟩ := bind_so h
        refine k_call (g187_ok R14 t1 e15) (fun M15 R15 => ?_)
        refine g189_l62_ok t1 100000 _ _ _ _ _ _ R15 tI_0 tI_0 h
    · exact k_retI R3.2 tI_m1 h
/-- PupilCoinModel.edge(III)J -/
def g190 (X1 : Int) (X2 : Int) (X3 : Int) (S : gM) : Option (Int × gM) :=
  (g116 X1 S).bind fun p1 =>
  if p1.1 = 0 then
    some ((-2000000000000), p1.2)
  else
    (g115 X2 p1.2).bind fun p3 =>
    if p3.1 = 0 then
      some ((-2000000000000), p3.2)
    else
      (g112 X3 0 4 p3.2).bind fun p5 =>
      if p5.1 = 0 then
        some ((-2000000000000), p5.2)
      else
        (g122 X1 X2 p5.2).bind fun p7 =>
        if ¬ p7.1 = 0 then
          w_lt (gi p7.2 55 0) fun V9 =>
          (g177 X2 V9 p7.2).bind fun p10 =>
          w_chk ((0 : Int) ≤ X1 ∧ X1 < 12) <|
          w_lt (gl p10 89 X1) fun V12 =>
          w_lt (gi p10 55 0) fun V13 =>
          w_lt (gi p10 55 0) fun V14 =>
          (g160 X2 V14 p10).bind fun p15 =>
          (g170 X2 V13 p15.1 X1 X3 p15.2).bind fun p16 =>
          w_chk ((0 : Int) ≤ X1 ∧ X1 < 12) <|
          w_lt (gl p16 89 X1) fun V18 =>
          w_ckJ (V18 - V12) fun V19 =>
          some (V19, p16)
        else
          some ((-2000000000000), p7.2)
theorem g190_ok {x1 : Int32} {X1 : Int} {x2 : Int32} {X2 : Int} {x3 : Int32} {X3 : Int} {S : gM} {M : vm_M} {r : Int × gM} (hR : Rel S M) (t1 : x1.toInt = X1) (t2 : x2.toInt = X2) (t3 : x3.toInt = X3) (h : g190 X1 X2 X3 S = some r) : Mp gRJ (f190 55 x1 x2 x3 M) r := by
  unfold g190 at h
  unfold f190
  refine k_ob (hR.obF (by decide) rfl) ?_
  obtain ⟨p1, e1, h⟩ := bind_so h
  refine k_call (g116_ok hR t1 e1) (fun b1 R1 => ?_)
  refine k_ite (c_eq R1.1 tI_0) h (fun c2 h => ?_) (fun c2 h => ?_)
  · exact k_retJ R1.2 tJ_m2000000000000 h
  · obtain ⟨p3, e3, h⟩ := bind_so h
    refine k_call (g115_ok R1.2 t2 e3) (fun b3 R3 => ?_)
    refine k_ite (c_eq R3.1 tI_0) h (fun c4 h => ?_) (fun c4 h => ?_)
    · exact k_retJ R3.2 tJ_m2000000000000 h
    · obtain ⟨p5, e5, h⟩ := bind_so h
      refine k_call (g112_ok R3.2 t3 tI_0 tI_4 e5) (fun b5 R5 => ?_)
      refine k_ite (c_eq R5.1 tI_0) h (fun c6 h => ?_) (fun c6 h => ?_)
      · exact k_retJ R5.2 tJ_m2000000000000 h
      · refine k_ob (R5.2.obF (by decide) rfl) ?_
        obtain ⟨p7, e7, h⟩ := bind_so h
        refine k_call (g122_ok R5.2 t1 t2 e7) (fun b7 R7 => ?_)
        refine k_ite (c_ne R7.1 tI_0) h (fun c8 h => ?_) (fun c8 h => ?_)
        · obtain ⟨V9, e9, h⟩ := lt_so h
          refine k_gi R7.2 (R7.2.obF (by decide) rfl) rfl e9 (fun v9 z9 => ?_)
          refine k_ob (R7.2.obF (by decide) rfl) ?_
          obtain ⟨p10, e10, h⟩ := bind_so h
          refine k_call (g177_ok R7.2 t2 z9 e10) (fun M10 R10 => ?_)
          refine k_grF 90 R10 (R10.obF (by decide) rfl) rfl ?_
          refine k_some ?_
          obtain ⟨c11, h⟩ := chk_so h
          obtain ⟨V12, e12, h⟩ := lt_so h
          refine k_al R10 (R10.lnF (by decide) rfl) rfl t1 c11 e12 (fun v12 z12 => ?_)
          obtain ⟨V13, e13, h⟩ := lt_so h
          refine k_gi R10 (R10.obF (by decide) rfl) rfl e13 (fun v13 z13 => ?_)
          obtain ⟨V14, e14, h⟩ := lt_so h
          refine k_gi R10 (R10.obF (by decide) rfl) rfl e14 (fun v14 z14 => ?_)
          refine k_ob (R10.obF (by decide) rfl) ?_
          obtain ⟨p15, e15, h⟩ := bind_so h
          refine k_call (g160_ok R10 t2 z14 e15) (fun b15 R15 => ?_)
          refine k_ob (R15.2.obF (by decide) rfl) ?_
          obtain ⟨p16, e16, h⟩ := bind_so h
          refine k_call (g170_ok R15.2 t2 z13 R15.1 t1 t3 e16) (fun M16 R16 => ?_)
          refine k_grF 90 R16 (R16.obF (by decide) rfl) rfl ?_
          refine k_some ?_
          obtain ⟨c17, h⟩ := chk_so h
          obtain ⟨V18, e18, h⟩ := lt_so h
          refine k_al R16 (R16.lnF (by decide) rfl) rfl t1 c17 e18 (fun v18 z18 => ?_)
          obtain ⟨V19, e19, c19, h⟩ := ckJ_so h
          exact k_retJ R16 (tJ_sub z18 z12 c19 e19) h
        · exact k_retJ R7.2 tJ_m2000000000000 h
def g191_l32 (X1 : Int) (X2 : Int) (X3 : Int) (X4 : Int) (X5 : Int) (X6 : Int) (K85 : Int → gM → Option (Int × gM)) : Nat → Int → Int → gM → Option (Int × gM)
  | 0 => fun _ _ _ => none
  | n + 1 => fun X7 X8 S =>
    if X6 = (-1) then
      K85 X7 S
    else
      w_ckI (30 * X6) fun V5 =>
      w_chk ((0 : Int) ≤ X6 ∧ X6 < 10) <|
      w_lt (gi S 70 X6) fun V7 =>
      w_ckI (V5 + V7) fun V8 =>
      if V8 ≤ X8 then
        K85 X7 S
      else
        w_chk ((0 : Int) ≤ X8 ∧ X8 < 300) <|
        w_lt (gi S 73 X8) fun V11 =>
        if ¬ V11 = 0 then
          (g113 0 S).bind fun p13 =>
          w_ckI (X7 + p13.1) fun V14 =>
          w_ckI (X8 + 1) fun V15 =>
          g191_l32 X1 X2 X3 X4 X5 X6 K85 n V14 V15 p13.2
        else
          (g113 1 S).bind fun p16 =>
          w_ckI (X7 + p16.1) fun V17 =>
          w_ckI (X8 + 1) fun V18 =>
          g191_l32 X1 X2 X3 X4 X5 X6 K85 n V17 V18 p16.2
theorem g191_l32_ok {x1 : Int32} {X1 : Int} {x2 : Int32} {X2 : Int} {x3 : Int32} {X3 : Int} {x4 : Int32} {X4 : Int} {x5 : Int32} {X5 : Int} {x6 : Int32} {X6 : Int} {k85 : Int32 → vm_M → Option (Int64 × vm_M)} {K85 : Int → gM → Option (Int × gM)} {r : Int × gM} (hk85 : ∀ (y7 : Int32) (Y7 : Int) (S : gM) (M : vm_M), Rel S M → y7.toInt = Y7 → K85 Y7 S = some r → Mp gRJ (k85 y7 M) r) (t1 : x1.toInt = X1) (t2 : x2.toInt = X2) (t3 : x3.toInt = X3) (t4 : x4.toInt = X4) (t5 : x5.toInt = X5) (t6 : x6.toInt = X6) : ∀ (n : Nat) (x7 : Int32) (X7 : Int) (x8 : Int32) (X8 : Int) (S : gM) (M : vm_M), Rel S M → x7.toInt = X7 → x8.toInt = X8 → g191_l32 X1 X2 X3 X4 X5 X6 K85 n X7 X8 S = some r → Mp gRJ (f191_l32 55 x1 x2 x3 x4 x5 x6 k85 n x7 x8 M) r := by
  intro n
  induction n with
  | zero =>
    intro x7 X7 x8 X8 S M hR t7 t8 h
    cases h
  | succ n ih =>
    intro x7 X7 x8 X8 S M hR t7 t8 h
    dsimp only [g191_l32] at h
    dsimp only [f191_l32]
    refine k_ite (c_eq t6 tI_m1) h (fun c4 h => ?_) (fun c4 h => ?_)
    · exact hk85 _ _ _ _ hR t7 h
    · obtain ⟨V5, e5, c5, h⟩ := ckI_so h
      refine k_grF 71 hR (hR.obF (by decide) rfl) rfl ?_
      refine k_some ?_
      obtain ⟨c6, h⟩ := chk_so h
      obtain ⟨V7, e7, h⟩ := lt_so h
      refine k_ai hR (hR.lnF (by decide) rfl) rfl t6 c6 e7 (fun v7 z7 => ?_)
      obtain ⟨V8, e8, c8, h⟩ := ckI_so h
      refine k_ite (c_le (t_add (t_mul tI_30 t6 c5 e5) z7 c8 e8) t8) h (fun c9 h => ?_) (fun c9 h => ?_)
      · exact hk85 _ _ _ _ hR t7 h
      · refine k_grF 74 hR (hR.obF (by decide) rfl) rfl ?_
        refine k_some ?_
        obtain ⟨c10, h⟩ := chk_so h
        obtain ⟨V11, e11, h⟩ := lt_so h
        refine k_ai hR (hR.lnF (by decide) rfl) rfl t8 c10 e11 (fun v11 z11 => ?_)
        refine k_ite (c_ne z11 tI_0) h (fun c12 h => ?_) (fun c12 h => ?_)
        · obtain ⟨p13, e13, h⟩ := bind_so h
          refine k_call (g113_ok hR tI_0 e13) (fun b13 R13 => ?_)
          obtain ⟨V14, e14, c14, h⟩ := ckI_so h
          obtain ⟨V15, e15, c15, h⟩ := ckI_so h
          exact ih _ _ _ _ _ _ R13.2 (t_add t7 R13.1 c14 e14) (t_add t8 tI_1 c15 e15) h
        · obtain ⟨p16, e16, h⟩ := bind_so h
          refine k_call (g113_ok hR tI_1 e16) (fun b16 R16 => ?_)
          obtain ⟨V17, e17, c17, h⟩ := ckI_so h
          obtain ⟨V18, e18, c18, h⟩ := ckI_so h
          exact ih _ _ _ _ _ _ R16.2 (t_add t7 R16.1 c17 e17) (t_add t8 tI_1 c18 e18) h
def g191_l206 (X1 : Int) (X2 : Int) (X3 : Int) (X4 : Int) (X5 : Int) (X7 : Int) (X8 : Int) (X9 : Int) (X10 : Int) (X12 : Int) (X13 : Int) (X15 : Int) (X16 : Int) (K303 : Int → gM → Option (Int × gM)) : Nat → Int → Int → gM → Option (Int × gM)
  | 0 => fun _ _ _ => none
  | n + 1 => fun X17 X19 S =>
    if X7 ≤ X19 then
      K303 X17 S
    else
      if ¬ X19 = X2 then
        if ¬ X19 = X3 then
          w_ckI (30 * X16) fun V42 =>
          w_ckI (V42 + X19) fun V43 =>
          w_chk ((0 : Int) ≤ V43 ∧ V43 < 360) <|
          w_lt (gl S 85 V43) fun V45 =>
          w_ckJ (X17 + V45) fun V46 =>
          w_ckI (X19 + 1) fun V47 =>
          g191_l206 X1 X2 X3 X4 X5 X7 X8 X9 X10 X12 X13 X15 X16 K303 n V46 V47 S
        else
          w_ckI (30 * X16) fun V48 =>
          w_ckI (V48 + X19) fun V49 =>
          w_chk ((0 : Int) ≤ V49 ∧ V49 < 360) <|
          w_lt (gl S 85 V49) fun V51 =>
          w_ckI (X12.tdiv 21) fun _ =>
          w_lt (X12.tmod 21) fun V52 =>
          w_ckJ (V51 * V52) fun V53 =>
          w_ckJ (V53.tdiv 10) fun V54 =>
          w_ckJ (X17 + V54) fun V55 =>
          w_ckI (X19 + 1) fun V56 =>
          g191_l206 X1 X2 X3 X4 X5 X7 X8 X9 X10 X12 X13 X15 X16 K303 n V55 V56 S
      else
        w_ckI (30 * X16) fun V57 =>
        w_ckI (V57 + X19) fun V58 =>
        w_chk ((0 : Int) ≤ V58 ∧ V58 < 360) <|
        w_lt (gl S 85 V58) fun V60 =>
        w_ckI (X12.tdiv 21) fun V61 =>
        w_ckJ (V60 * V61) fun V62 =>
        w_ckJ (V62.tdiv 10) fun V63 =>
        w_ckJ (X17 + V63) fun V64 =>
        w_ckI (X19 + 1) fun V65 =>
        g191_l206 X1 X2 X3 X4 X5 X7 X8 X9 X10 X12 X13 X15 X16 K303 n V64 V65 S
theorem g191_l206_ok {x1 : Int32} {X1 : Int} {x2 : Int32} {X2 : Int} {x3 : Int32} {X3 : Int} {x4 : Int32} {X4 : Int} {x5 : Int32} {X5 : Int} {x7 : Int32} {X7 : Int} {x8 : Int32} {X8 : Int} {x9 : Int32} {X9 : Int} {x10 : Int64} {X10 : Int} {x12 : Int32} {X12 : Int} {x13 : Int64} {X13 : Int} {x15 : Int32} {X15 : Int} {x16 : Int32} {X16 : Int} {k303 : Int64 → vm_M → Option (Int64 × vm_M)} {K303 : Int → gM → Option (Int × gM)} {r : Int × gM} (hk303 : ∀ (y17 : Int64) (Y17 : Int) (S : gM) (M : vm_M), Rel S M → y17.toInt = Y17 → K303 Y17 S = some r → Mp gRJ (k303 y17 M) r) (t1 : x1.toInt = X1) (t2 : x2.toInt = X2) (t3 : x3.toInt = X3) (t4 : x4.toInt = X4) (t5 : x5.toInt = X5) (t7 : x7.toInt = X7) (t8 : x8.toInt = X8) (t9 : x9.toInt = X9) (t10 : x10.toInt = X10) (t12 : x12.toInt = X12) (t13 : x13.toInt = X13) (t15 : x15.toInt = X15) (t16 : x16.toInt = X16) : ∀ (n : Nat) (x17 : Int64) (X17 : Int) (x19 : Int32) (X19 : Int) (S : gM) (M : vm_M), Rel S M → x17.toInt = X17 → x19.toInt = X19 → g191_l206 X1 X2 X3 X4 X5 X7 X8 X9 X10 X12 X13 X15 X16 K303 n X17 X19 S = some r → Mp gRJ (f191_l206 55 x1 x2 x3 x4 x5 x7 x8 x9 x10 x12 x13 x15 x16 k303 n x17 x19 M) r := by
  intro n
  induction n with
  | zero =>
    intro x17 X17 x19 X19 S M hR t17 t19 h
    cases h
  | succ n ih =>
    intro x17 X17 x19 X19 S M hR t17 t19 h
    dsimp only [g191_l206] at h
    dsimp only [f191_l206]
    refine k_ite (c_le t7 t19) h (fun c39 h => ?_) (fun c39 h => ?_)
    · exact hk303 _ _ _ _ hR t17 h
    · refine k_ite (c_ne t19 t2) h (fun c40 h => ?_) (fun c40 h => ?_)
      · refine k_ite (c_ne t19 t3) h (fun c41 h => ?_) (fun c41 h => ?_)
        · refine k_grF 86 hR (hR.obF (by decide) rfl) rfl ?_
          obtain ⟨V42, e42, c42, h⟩ := ckI_so h
          obtain ⟨V43, e43, c43, h⟩ := ckI_so h
          refine k_some ?_
          obtain ⟨c44, h⟩ := chk_so h
          obtain ⟨V45, e45, h⟩ := lt_so h
          refine k_al hR (hR.lnF (by decide) rfl) rfl (t_add (t_mul tI_30 t16 c42 e42) t19 c43 e43) c44 e45 (fun v45 z45 => ?_)
          obtain ⟨V46, e46, c46, h⟩ := ckJ_so h
          obtain ⟨V47, e47, c47, h⟩ := ckI_so h
          exact ih _ _ _ _ _ _ hR (tJ_add t17 z45 c46 e46) (t_add t19 tI_1 c47 e47) h
        · refine k_grF 86 hR (hR.obF (by decide) rfl) rfl ?_
          obtain ⟨V48, e48, c48, h⟩ := ckI_so h
          obtain ⟨V49, e49, c49, h⟩ := ckI_so h
          refine k_some ?_
          obtain ⟨c50, h⟩ := chk_so h
          obtain ⟨V51, e51, h⟩ := lt_so h
          refine k_al hR (hR.lnF (by decide) rfl) rfl (t_add (t_mul tI_30 t16 c48 e48) t19 c49 e49) c50 e51 (fun v51 z51 => ?_)
          obtain ⟨_, _, c52, h⟩ := ckI_so h
          obtain ⟨V52, e52, h⟩ := lt_so h
          refine k_rmI t12 tI_21 (by decide) c52 e52 (fun v52 z52 => ?_)
          obtain ⟨V53, e53, c53, h⟩ := ckJ_so h
          obtain ⟨V54, e54, c54, h⟩ := ckJ_so h
          refine k_dvJ (tJ_mul z51 (t_itol z52) c53 e53) tJ_10 (by decide) c54 e54 (fun v54 z54 => ?_)
          obtain ⟨V55, e55, c55, h⟩ := ckJ_so h
          obtain ⟨V56, e56, c56, h⟩ := ckI_so h
          exact ih _ _ _ _ _ _ hR (tJ_add t17 z54 c55 e55) (t_add t19 tI_1 c56 e56) h
      · refine k_grF 86 hR (hR.obF (by decide) rfl) rfl ?_
        obtain ⟨V57, e57, c57, h⟩ := ckI_so h
        obtain ⟨V58, e58, c58, h⟩ := ckI_so h
        refine k_some ?_
        obtain ⟨c59, h⟩ := chk_so h
        obtain ⟨V60, e60, h⟩ := lt_so h
        refine k_al hR (hR.lnF (by decide) rfl) rfl (t_add (t_mul tI_30 t16 c57 e57) t19 c58 e58) c59 e60 (fun v60 z60 => ?_)
        obtain ⟨V61, e61, c61, h⟩ := ckI_so h
        refine k_dvI t12 tI_21 (by decide) c61 e61 (fun v61 z61 => ?_)
        obtain ⟨V62, e62, c62, h⟩ := ckJ_so h
        obtain ⟨V63, e63, c63, h⟩ := ckJ_so h
        refine k_dvJ (tJ_mul z60 (t_itol z61) c62 e62) tJ_10 (by decide) c63 e63 (fun v63 z63 => ?_)
        obtain ⟨V64, e64, c64, h⟩ := ckJ_so h
        obtain ⟨V65, e65, c65, h⟩ := ckI_so h
        exact ih _ _ _ _ _ _ hR (tJ_add t17 z63 c64 e64) (t_add t19 tI_1 c65 e65) h
def g191_l178 (X1 : Int) (X2 : Int) (X3 : Int) (X4 : Int) (X5 : Int) (X7 : Int) (X8 : Int) (X9 : Int) (X10 : Int) (X12 : Int) (K342 : Int → Int → gM → Option (Int × gM)) : Nat → Int → Int → Int → gM → Option (Int × gM)
  | 0 => fun _ _ _ _ => none
  | n + 1 => fun X13 X15 X16 S =>
    w_lt (gi S 55 1) fun V35 =>
    if V35 ≤ X16 then
      K342 X13 X15 S
    else
      (g122 X16 X1 S).bind fun p37 =>
      if ¬ p37.1 = 0 then
        g191_l206 X1 X2 X3 X4 X5 X7 X8 X9 X10 X12 X13 X15 X16
          (fun Y66 S67 =>
            w_ckJ (X13 + Y66) fun V68 =>
            w_chk ((0 : Int) ≤ X16 ∧ X16 < 12) <|
            w_lt (gl S67 90 X16) fun V70 =>
            if V70 ≤ Y66 then
              (g113 0 S67).bind fun p72 =>
              w_ckI (X15 + p72.1) fun V73 =>
              w_ckI (X16 + 1) fun V74 =>
              g191_l178 X1 X2 X3 X4 X5 X7 X8 X9 X10 X12 K342 n V68 V73 V74 p72.2
            else
              (g113 1 S67).bind fun p75 =>
              w_ckI (X15 + p75.1) fun V76 =>
              w_ckI (X16 + 1) fun V77 =>
              g191_l178 X1 X2 X3 X4 X5 X7 X8 X9 X10 X12 K342 n V68 V76 V77 p75.2)
          100000 0 0 p37.2
      else
        w_ckI (X16 + 1) fun V78 =>
        g191_l178 X1 X2 X3 X4 X5 X7 X8 X9 X10 X12 K342 n X13 X15 V78 p37.2
theorem g191_l178_ok {x1 : Int32} {X1 : Int} {x2 : Int32} {X2 : Int} {x3 : Int32} {X3 : Int} {x4 : Int32} {X4 : Int} {x5 : Int32} {X5 : Int} {x7 : Int32} {X7 : Int} {x8 : Int32} {X8 : Int} {x9 : Int32} {X9 : Int} {x10 : Int64} {X10 : Int} {x12 : Int32} {X12 : Int} {k342 : Int64 → Int32 → vm_M → Option (Int64 × vm_M)} {K342 : Int → Int → gM → Option (Int × gM)} {r : Int × gM} (hk342 : ∀ (y13 : Int64) (Y13 : Int) (y15 : Int32) (Y15 : Int) (S : gM) (M : vm_M), Rel S M → y13.toInt = Y13 → y15.toInt = Y15 → K342 Y13 Y15 S = some r → Mp gRJ (k342 y13 y15 M) r) (t1 : x1.toInt = X1) (t2 : x2.toInt = X2) (t3 : x3.toInt = X3) (t4 : x4.toInt = X4) (t5 : x5.toInt = X5) (t7 : x7.toInt = X7) (t8 : x8.toInt = X8) (t9 : x9.toInt = X9) (t10 : x10.toInt = X10) (t12 : x12.toInt = X12) : ∀ (n : Nat) (x13 : Int64) (X13 : Int) (x15 : Int32) (X15 : Int) (x16 : Int32) (X16 : Int) (S : gM) (M : vm_M), Rel S M → x13.toInt = X13 → x15.toInt = X15 → x16.toInt = X16 → g191_l178 X1 X2 X3 X4 X5 X7 X8 X9 X10 X12 K342 n X13 X15 X16 S = some r → Mp gRJ (f191_l178 55 x1 x2 x3 x4 x5 x7 x8 x9 x10 x12 k342 n x13 x15 x16 M) r := by
  intro n
  induction n with
  | zero =>
    intro x13 X13 x15 X15 x16 X16 S M hR t13 t15 t16 h
    cases h
  | succ n ih =>
    intro x13 X13 x15 X15 x16 X16 S M hR t13 t15 t16 h
    dsimp only [g191_l178] at h
    dsimp only [f191_l178]
    obtain ⟨V35, e35, h⟩ := lt_so h
    refine k_gi hR (hR.obF (by decide) rfl) rfl e35 (fun v35 z35 => ?_)
    refine k_ite (c_le z35 t16) h (fun c36 h => ?_) (fun c36 h => ?_)
    · exact hk342 _ _ _ _ _ _ hR t13 t15 h
    · refine k_ob (hR.obF (by decide) rfl) ?_
      obtain ⟨p37, e37, h⟩ := bind_so h
      refine k_call (g122_ok hR t16 t1 e37) (fun b37 R37 => ?_)
      refine k_ite (c_ne R37.1 tI_0) h (fun c38 h => ?_) (fun c38 h => ?_)
      · refine g191_l206_ok ?_ t1 t2 t3 t4 t5 t7 t8 t9 t10 t12 t13 t15 t16 100000 _ _ _ _ _ _ R37.2 tJ_0 tI_0 h
        · intro y66 Y66 S67 M67 R67 u66
          intro h
          obtain ⟨V68, e68, c68, h⟩ := ckJ_so h
          refine k_grF 91 R67 (R67.obF (by decide) rfl) rfl ?_
          refine k_some ?_
          obtain ⟨c69, h⟩ := chk_so h
          obtain ⟨V70, e70, h⟩ := lt_so h
          refine k_al R67 (R67.lnF (by decide) rfl) rfl t16 c69 e70 (fun v70 z70 => ?_)
          refine k_ite (cJ_ge u66 z70) h (fun c71 h => ?_) (fun c71 h => ?_)
          · obtain ⟨p72, e72, h⟩ := bind_so h
            refine k_call (g113_ok R67 tI_0 e72) (fun b72 R72 => ?_)
            obtain ⟨V73, e73, c73, h⟩ := ckI_so h
            obtain ⟨V74, e74, c74, h⟩ := ckI_so h
            exact ih _ _ _ _ _ _ _ _ R72.2 (tJ_add t13 u66 c68 e68) (t_add t15 R72.1 c73 e73) (t_add t16 tI_1 c74 e74) h
          · obtain ⟨p75, e75, h⟩ := bind_so h
            refine k_call (g113_ok R67 tI_1 e75) (fun b75 R75 => ?_)
            obtain ⟨V76, e76, c76, h⟩ := ckI_so h
            obtain ⟨V77, e77, c77, h⟩ := ckI_so h
            exact ih _ _ _ _ _ _ _ _ R75.2 (tJ_add t13 u66 c68 e68) (t_add t15 R75.1 c76 e76) (t_add t16 tI_1 c77 e77) h
      · obtain ⟨V78, e78, c78, h⟩ := ckI_so h
        exact ih _ _ _ _ _ _ _ _ R37.2 t13 t15 (t_add t16 tI_1 c78 e78) h
def g191_j382 (K400 : Int → Int → Int → gM → Option (Int × gM)) (K161 : Int → Int → Int → Int → gM → Option (Int × gM)) (X1 : Int) (X2 : Int) (X3 : Int) (X4 : Int) (X5 : Int) (X7 : Int) (X12 : Int) (X13 : Int) (X15 : Int) (S : gM) : Option (Int × gM) :=
  w_ckI (X12 + 1) fun V85 =>
  K161 X12 X15 X13 V85 S
theorem g191_j382_ok {k400 : Int32 → Int32 → Int64 → vm_M → Option (Int64 × vm_M)} {K400 : Int → Int → Int → gM → Option (Int × gM)} {k161 : Int32 → Int32 → Int64 → Int32 → vm_M → Option (Int64 × vm_M)} {K161 : Int → Int → Int → Int → gM → Option (Int × gM)} {x1 : Int32} {X1 : Int} {x2 : Int32} {X2 : Int} {x3 : Int32} {X3 : Int} {x4 : Int32} {X4 : Int} {x5 : Int32} {X5 : Int} {x7 : Int32} {X7 : Int} {x12 : Int32} {X12 : Int} {x13 : Int64} {X13 : Int} {x15 : Int32} {X15 : Int} {S : gM} {M : vm_M} {r : Int × gM} (hk400 : ∀ (y8 : Int32) (Y8 : Int) (y9 : Int32) (Y9 : Int) (y10 : Int64) (Y10 : Int) (S : gM) (M : vm_M), Rel S M → y8.toInt = Y8 → y9.toInt = Y9 → y10.toInt = Y10 → K400 Y8 Y9 Y10 S = some r → Mp gRJ (k400 y8 y9 y10 M) r) (hk161 : ∀ (y8 : Int32) (Y8 : Int) (y9 : Int32) (Y9 : Int) (y10 : Int64) (Y10 : Int) (y12 : Int32) (Y12 : Int) (S : gM) (M : vm_M), Rel S M → y8.toInt = Y8 → y9.toInt = Y9 → y10.toInt = Y10 → y12.toInt = Y12 → K161 Y8 Y9 Y10 Y12 S = some r → Mp gRJ (k161 y8 y9 y10 y12 M) r) (hR : Rel S M) (t1 : x1.toInt = X1) (t2 : x2.toInt = X2) (t3 : x3.toInt = X3) (t4 : x4.toInt = X4) (t5 : x5.toInt = X5) (t7 : x7.toInt = X7) (t12 : x12.toInt = X12) (t13 : x13.toInt = X13) (t15 : x15.toInt = X15) (h : g191_j382 K400 K161 X1 X2 X3 X4 X5 X7 X12 X13 X15 S = some r) : Mp gRJ (f191_j382 k400 k161 55 x1 x2 x3 x4 x5 x7 x12 x13 x15 M) r := by
  unfold g191_j382 at h
  unfold f191_j382
  obtain ⟨V85, e85, c85, h⟩ := ckI_so h
  exact hk161 _ _ _ _ _ _ _ _ _ _ hR t12 t15 t13 (t_add t12 tI_1 c85 e85) h
def g191_l161 (X1 : Int) (X2 : Int) (X3 : Int) (X4 : Int) (X5 : Int) (X7 : Int) (K400 : Int → Int → Int → gM → Option (Int × gM)) : Nat → Int → Int → Int → Int → gM → Option (Int × gM)
  | 0 => fun _ _ _ _ _ => none
  | n + 1 => fun X8 X9 X10 X12 S =>
    if 441 ≤ X12 then
      K400 X8 X9 X10 S
    else
      g191_l178 X1 X2 X3 X4 X5 X7 X8 X9 X10 X12
        (fun Y79 Y80 S81 =>
          if X4 < Y79 then
            w_ckI (X12 + 1) fun V83 =>
            g191_l161 X1 X2 X3 X4 X5 X7 K400 n X8 X9 X10 V83 S81
          else
            if X8 = (-1) then
              g191_j382 K400 (g191_l161 X1 X2 X3 X4 X5 X7 K400 n) X1 X2 X3 X4 X5 X7 X12 Y79 Y80 S81
            else
              if X9 < Y80 then
                w_ckI (X12 + 1) fun V87 =>
                g191_l161 X1 X2 X3 X4 X5 X7 K400 n X8 X9 X10 V87 S81
              else
                if ¬ Y80 = X9 then
                  g191_j382 K400 (g191_l161 X1 X2 X3 X4 X5 X7 K400 n) X1 X2 X3 X4 X5 X7 X12 Y79 Y80 S81
                else
                  if X10 < Y79 then
                    g191_j382 K400 (g191_l161 X1 X2 X3 X4 X5 X7 K400 n) X1 X2 X3 X4 X5 X7 X12 Y79 Y80 S81
                  else
                    w_ckI (X12 + 1) fun V90 =>
                    g191_l161 X1 X2 X3 X4 X5 X7 K400 n X8 X9 X10 V90 S81)
        100000 0 0 0 S
theorem g191_l161_ok {x1 : Int32} {X1 : Int} {x2 : Int32} {X2 : Int} {x3 : Int32} {X3 : Int} {x4 : Int32} {X4 : Int} {x5 : Int32} {X5 : Int} {x7 : Int32} {X7 : Int} {k400 : Int32 → Int32 → Int64 → vm_M → Option (Int64 × vm_M)} {K400 : Int → Int → Int → gM → Option (Int × gM)} {r : Int × gM} (hk400 : ∀ (y8 : Int32) (Y8 : Int) (y9 : Int32) (Y9 : Int) (y10 : Int64) (Y10 : Int) (S : gM) (M : vm_M), Rel S M → y8.toInt = Y8 → y9.toInt = Y9 → y10.toInt = Y10 → K400 Y8 Y9 Y10 S = some r → Mp gRJ (k400 y8 y9 y10 M) r) (t1 : x1.toInt = X1) (t2 : x2.toInt = X2) (t3 : x3.toInt = X3) (t4 : x4.toInt = X4) (t5 : x5.toInt = X5) (t7 : x7.toInt = X7) : ∀ (n : Nat) (x8 : Int32) (X8 : Int) (x9 : Int32) (X9 : Int) (x10 : Int64) (X10 : Int) (x12 : Int32) (X12 : Int) (S : gM) (M : vm_M), Rel S M → x8.toInt = X8 → x9.toInt = X9 → x10.toInt = X10 → x12.toInt = X12 → g191_l161 X1 X2 X3 X4 X5 X7 K400 n X8 X9 X10 X12 S = some r → Mp gRJ (f191_l161 55 x1 x2 x3 x4 x5 x7 k400 n x8 x9 x10 x12 M) r := by
  intro n
  induction n with
  | zero =>
    intro x8 X8 x9 X9 x10 X10 x12 X12 S M hR t8 t9 t10 t12 h
    cases h
  | succ n ih =>
    intro x8 X8 x9 X9 x10 X10 x12 X12 S M hR t8 t9 t10 t12 h
    dsimp only [g191_l161] at h
    dsimp only [f191_l161]
    refine k_ite (c_le tI_441 t12) h (fun c34 h => ?_) (fun c34 h => ?_)
    · exact hk400 _ _ _ _ _ _ _ _ hR t8 t9 t10 h
    · refine g191_l178_ok ?_ t1 t2 t3 t4 t5 t7 t8 t9 t10 t12 100000 _ _ _ _ _ _ _ _ hR tJ_0 tI_0 tI_0 h
      · intro y79 Y79 y80 Y80 S81 M81 R81 u79 u80
        intro h
        refine k_ite (cJ_gt u79 (t_itol t4)) h (fun c82 h => ?_) (fun c82 h => ?_)
        · obtain ⟨V83, e83, c83, h⟩ := ckI_so h
          exact ih _ _ _ _ _ _ _ _ _ _ R81 t8 t9 t10 (t_add t12 tI_1 c83 e83) h
        · refine k_ite (c_eq t8 tI_m1) h (fun c84 h => ?_) (fun c84 h => ?_)
          · exact g191_j382_ok hk400 ih R81 t1 t2 t3 t4 t5 t7 t12 u79 u80 h
          · refine k_ite (c_lt t9 u80) h (fun c86 h => ?_) (fun c86 h => ?_)
            · obtain ⟨V87, e87, c87, h⟩ := ckI_so h
              exact ih _ _ _ _ _ _ _ _ _ _ R81 t8 t9 t10 (t_add t12 tI_1 c87 e87) h
            · refine k_ite (c_ne u80 t9) h (fun c88 h => ?_) (fun c88 h => ?_)
              · exact g191_j382_ok hk400 ih R81 t1 t2 t3 t4 t5 t7 t12 u79 u80 h
              · refine k_ite (cJ_gt u79 t10) h (fun c89 h => ?_) (fun c89 h => ?_)
                · exact g191_j382_ok hk400 ih R81 t1 t2 t3 t4 t5 t7 t12 u79 u80 h
                · obtain ⟨V90, e90, c90, h⟩ := ckI_so h
                  exact ih _ _ _ _ _ _ _ _ _ _ R81 t8 t9 t10 (t_add t12 tI_1 c90 e90) h
def g191_j85 (X1 : Int) (X2 : Int) (X3 : Int) (X4 : Int) (X5 : Int) (X7 : Int) (S : gM) : Option (Int × gM) :=
  w_ckI (X7 - 1) fun V21 =>
  (g112 X2 0 V21 S).bind fun p22 =>
  if p22.1 = 0 then
    some ((-2000000000000), p22.2)
  else
    w_ckI (X7 - 1) fun V24 =>
    (g112 X3 0 V24 p22.2).bind fun p25 =>
    if p25.1 = 0 then
      some ((-2000000000000), p25.2)
    else
      if X2 = X3 then
        some ((-2000000000000), p25.2)
      else
        (g112 X4 0 999999999 p25.2).bind fun p28 =>
        if p28.1 = 0 then
          some ((-2000000000000), p28.2)
        else
          (g112 X5 0 3 p28.2).bind fun p30 =>
          if ¬ p30.1 = 0 then
            w_lt (gi p30.2 55 0) fun V32 =>
            (g177 X1 V32 p30.2).bind fun p33 =>
            g191_l161 X1 X2 X3 X4 X5 X7
              (fun Y91 Y92 Y93 S94 =>
                if ¬ Y91 = (-1) then
                  if ¬ X5 = 0 then
                    if ¬ X5 = 1 then
                      if ¬ X5 = 2 then
                        w_ckI (Y91.tdiv 21) fun _ =>
                        w_lt (Y91.tmod 21) fun V99 =>
                        some (V99, S94)
                      else
                        w_ckI (Y91.tdiv 21) fun V100 =>
                        some (V100, S94)
                    else
                      some (Y93, S94)
                  else
                    some (Y92, S94)
                else
                  some ((-2000000000000), S94))
              100000 (-1) 0 0 0 p33
          else
            some ((-2000000000000), p30.2)
theorem g191_j85_ok {x1 : Int32} {X1 : Int} {x2 : Int32} {X2 : Int} {x3 : Int32} {X3 : Int} {x4 : Int32} {X4 : Int} {x5 : Int32} {X5 : Int} {x7 : Int32} {X7 : Int} {S : gM} {M : vm_M} {r : Int × gM} (hR : Rel S M) (t1 : x1.toInt = X1) (t2 : x2.toInt = X2) (t3 : x3.toInt = X3) (t4 : x4.toInt = X4) (t5 : x5.toInt = X5) (t7 : x7.toInt = X7) (h : g191_j85 X1 X2 X3 X4 X5 X7 S = some r) : Mp gRJ (f191_j85 55 x1 x2 x3 x4 x5 x7 M) r := by
  unfold g191_j85 at h
  unfold f191_j85
  obtain ⟨V21, e21, c21, h⟩ := ckI_so h
  obtain ⟨p22, e22, h⟩ := bind_so h
  refine k_call (g112_ok hR t2 tI_0 (t_sub t7 tI_1 c21 e21) e22) (fun b22 R22 => ?_)
  refine k_ite (c_eq R22.1 tI_0) h (fun c23 h => ?_) (fun c23 h => ?_)
  · exact k_retJ R22.2 tJ_m2000000000000 h
  · obtain ⟨V24, e24, c24, h⟩ := ckI_so h
    obtain ⟨p25, e25, h⟩ := bind_so h
    refine k_call (g112_ok R22.2 t3 tI_0 (t_sub t7 tI_1 c24 e24) e25) (fun b25 R25 => ?_)
    refine k_ite (c_eq R25.1 tI_0) h (fun c26 h => ?_) (fun c26 h => ?_)
    · exact k_retJ R25.2 tJ_m2000000000000 h
    · refine k_ite (c_eq t2 t3) h (fun c27 h => ?_) (fun c27 h => ?_)
      · exact k_retJ R25.2 tJ_m2000000000000 h
      · obtain ⟨p28, e28, h⟩ := bind_so h
        refine k_call (g112_ok R25.2 t4 tI_0 tI_999999999 e28) (fun b28 R28 => ?_)
        refine k_ite (c_eq R28.1 tI_0) h (fun c29 h => ?_) (fun c29 h => ?_)
        · exact k_retJ R28.2 tJ_m2000000000000 h
        · obtain ⟨p30, e30, h⟩ := bind_so h
          refine k_call (g112_ok R28.2 t5 tI_0 tI_3 e30) (fun b30 R30 => ?_)
          refine k_ite (c_ne R30.1 tI_0) h (fun c31 h => ?_) (fun c31 h => ?_)
          · obtain ⟨V32, e32, h⟩ := lt_so h
            refine k_gi R30.2 (R30.2.obF (by decide) rfl) rfl e32 (fun v32 z32 => ?_)
            refine k_ob (R30.2.obF (by decide) rfl) ?_
            obtain ⟨p33, e33, h⟩ := bind_so h
            refine k_call (g177_ok R30.2 t1 z32 e33) (fun M33 R33 => ?_)
            refine g191_l161_ok ?_ t1 t2 t3 t4 t5 t7 100000 _ _ _ _ _ _ _ _ _ _ R33 tI_m1 tI_0 tJ_0 tI_0 h
            · intro y91 Y91 y92 Y92 y93 Y93 S94 M94 R94 u91 u92 u93
              intro h
              refine k_ite (c_ne u91 tI_m1) h (fun c95 h => ?_) (fun c95 h => ?_)
              · refine k_ite (c_ne t5 tI_0) h (fun c96 h => ?_) (fun c96 h => ?_)
                · refine k_ite (c_ne t5 tI_1) h (fun c97 h => ?_) (fun c97 h => ?_)
                  · refine k_ite (c_ne t5 tI_2) h (fun c98 h => ?_) (fun c98 h => ?_)
                    · obtain ⟨_, _, c99, h⟩ := ckI_so h
                      obtain ⟨V99, e99, h⟩ := lt_so h
                      refine k_rmI u91 tI_21 (by decide) c99 e99 (fun v99 z99 => ?_)
                      exact k_retJ R94 (t_itol z99) h
                    · obtain ⟨V100, e100, c100, h⟩ := ckI_so h
                      refine k_dvI u91 tI_21 (by decide) c100 e100 (fun v100 z100 => ?_)
                      exact k_retJ R94 (t_itol z100) h
                  · exact k_retJ R94 u93 h
                · exact k_retJ R94 (t_itol u92) h
              · exact k_retJ R94 tJ_m2000000000000 h
          · exact k_retJ R30.2 tJ_m2000000000000 h
/-- PupilCoinModel.rates(IIIII)J -/
def g191 (X1 : Int) (X2 : Int) (X3 : Int) (X4 : Int) (X5 : Int) (S : gM) : Option (Int × gM) :=
  (g115 X1 S).bind fun p1 =>
  if p1.1 = 0 then
    w_ckI (30 * (-1)) fun V3 =>
    g191_l32 X1 X2 X3 X4 X5 (-1)
      (fun Y19 S20 =>
        g191_j85 X1 X2 X3 X4 X5 Y19 S20)
      100000 0 V3 p1.2
  else
    w_lt (gi p1.2 55 0) fun V101 =>
    (g160 X1 V101 p1.2).bind fun p102 =>
    w_ckI (30 * p102.1) fun V103 =>
    g191_l32 X1 X2 X3 X4 X5 p102.1
      (fun Y104 S105 =>
        g191_j85 X1 X2 X3 X4 X5 Y104 S105)
      100000 0 V103 p102.2
theorem g191_ok {x1 : Int32} {X1 : Int} {x2 : Int32} {X2 : Int} {x3 : Int32} {X3 : Int} {x4 : Int32} {X4 : Int} {x5 : Int32} {X5 : Int} {S : gM} {M : vm_M} {r : Int × gM} (hR : Rel S M) (t1 : x1.toInt = X1) (t2 : x2.toInt = X2) (t3 : x3.toInt = X3) (t4 : x4.toInt = X4) (t5 : x5.toInt = X5) (h : g191 X1 X2 X3 X4 X5 S = some r) : Mp gRJ (f191 55 x1 x2 x3 x4 x5 M) r := by
  unfold g191 at h
  unfold f191
  obtain ⟨p1, e1, h⟩ := bind_so h
  refine k_call (g115_ok hR t1 e1) (fun b1 R1 => ?_)
  refine k_ite (c_eq R1.1 tI_0) h (fun c2 h => ?_) (fun c2 h => ?_)
  · obtain ⟨V3, e3, c3, h⟩ := ckI_so h
    refine g191_l32_ok ?_ t1 t2 t3 t4 t5 tI_m1 100000 _ _ _ _ _ _ R1.2 tI_0 (t_mul tI_30 tI_m1 c3 e3) h
    · intro y19 Y19 S20 M20 R20 u19
      intro h
      exact g191_j85_ok R20 t1 t2 t3 t4 t5 u19 h
  · obtain ⟨V101, e101, h⟩ := lt_so h
    refine k_gi R1.2 (R1.2.obF (by decide) rfl) rfl e101 (fun v101 z101 => ?_)
    refine k_ob (R1.2.obF (by decide) rfl) ?_
    obtain ⟨p102, e102, h⟩ := bind_so h
    refine k_call (g160_ok R1.2 t1 z101 e102) (fun b102 R102 => ?_)
    obtain ⟨V103, e103, c103, h⟩ := ckI_so h
    refine g191_l32_ok ?_ t1 t2 t3 t4 t5 R102.1 100000 _ _ _ _ _ _ R102.2 tI_0 (t_mul tI_30 R102.1 c103 e103) h
    · intro y104 Y104 S105 M105 R105 u104
      intro h
      exact g191_j85_ok R105 t1 t2 t3 t4 t5 u104 h
