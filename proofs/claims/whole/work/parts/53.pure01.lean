/-! the methods over Ints, by program (wip/gen_pure.py) -/
def g48_l7 (G48 : Int → gM → Option (gM)) (G49 : Int → gM → Option (gM)) (G50 : Int → gM → Option (gM)) (X1 : Int) : Nat → Int → gM → Option (gM)
  | 0 => fun _ _ => none
  | n + 1 => fun X2 S =>
    if 700 ≤ X2 then
      some S
    else
      w_lt (gi S 16 13) fun V3 =>
      if ¬ V3 = 266 then
        some S
      else
        (g33 S).bind fun p5 =>
        (G49 X1 p5).bind fun p6 =>
        (g44 13 0 p6).bind fun p7 =>
        w_ckI (X2 + 1) fun V8 =>
        g48_l7 G48 G49 G50 X1 n V8 p7
theorem g48_l7_ok {F48 : Nat → Int32 → vm_M → Option (vm_M)} {F49 : Nat → Int32 → vm_M → Option (vm_M)} {F50 : Nat → Int32 → vm_M → Option (vm_M)} {G48 : Int → gM → Option (gM)} {G49 : Int → gM → Option (gM)} {G50 : Int → gM → Option (gM)} {x1 : Int32} {X1 : Int} {r : gM} (hF48 : ∀ {a1 : Int32} {A1 : Int} {S : gM} {M : vm_M} {r : gM} (hR : Rel S M) (ha1 : a1.toInt = A1), G48 A1 S = some r → Mp gRV (F48 16 a1 M) r) (hF49 : ∀ {a1 : Int32} {A1 : Int} {S : gM} {M : vm_M} {r : gM} (hR : Rel S M) (ha1 : a1.toInt = A1), G49 A1 S = some r → Mp gRV (F49 16 a1 M) r) (hF50 : ∀ {a1 : Int32} {A1 : Int} {S : gM} {M : vm_M} {r : gM} (hR : Rel S M) (ha1 : a1.toInt = A1), G50 A1 S = some r → Mp gRV (F50 16 a1 M) r) (t1 : x1.toInt = X1) : ∀ (n : Nat) (x2 : Int32) (X2 : Int) (S : gM) (M : vm_M), Rel S M → x2.toInt = X2 → g48_l7 G48 G49 G50 X1 n X2 S = some r → Mp gRV (f48_l7 F48 F49 F50 16 x1 n x2 M) r := by
  intro n
  induction n with
  | zero =>
    intro x2 X2 S M hR t2 h
    cases h
  | succ n ih =>
    intro x2 X2 S M hR t2 h
    dsimp only [g48_l7] at h
    dsimp only [f48_l7]
    refine k_ite (c_le tI_700 t2) h (fun c2 h => ?_) (fun c2 h => ?_)
    · exact k_retV hR h
    · obtain ⟨V3, e3, h⟩ := lt_so h
      refine k_gi hR (hR.obF (by decide) rfl) rfl e3 (fun v3 z3 => ?_)
      refine k_ite (c_ne z3 tI_266) h (fun c4 h => ?_) (fun c4 h => ?_)
      · exact k_retV hR h
      · refine k_ob (hR.obF (by decide) rfl) ?_
        obtain ⟨p5, e5, h⟩ := bind_so h
        refine k_call (g33_ok hR e5) (fun M5 R5 => ?_)
        refine k_ob (R5.obF (by decide) rfl) ?_
        obtain ⟨p6, e6, h⟩ := bind_so h
        refine k_call (hF49 R5 t1 e6) (fun M6 R6 => ?_)
        refine k_ob (R6.obF (by decide) rfl) ?_
        obtain ⟨p7, e7, h⟩ := bind_so h
        refine k_call (g44_ok R6 tI_13 tI_0 e7) (fun M7 R7 => ?_)
        obtain ⟨V8, e8, c8, h⟩ := ckI_so h
        exact ih _ _ _ _ R7 (t_add t2 tI_1 c8 e8) h
/-- PupilCoin$Reader.cond(I)V -/
def g48g (G48 : Int → gM → Option (gM)) (G49 : Int → gM → Option (gM)) (G50 : Int → gM → Option (gM)) (X1 : Int) (S : gM) : Option (gM) :=
  (G49 X1 S).bind fun p1 =>
  g48_l7 G48 G49 G50 X1
  
    100000 0 p1
theorem g48g_ok {F48 : Nat → Int32 → vm_M → Option (vm_M)} {F49 : Nat → Int32 → vm_M → Option (vm_M)} {F50 : Nat → Int32 → vm_M → Option (vm_M)} {G48 : Int → gM → Option (gM)} {G49 : Int → gM → Option (gM)} {G50 : Int → gM → Option (gM)} {x1 : Int32} {X1 : Int} {S : gM} {M : vm_M} {r : gM} (hF48 : ∀ {a1 : Int32} {A1 : Int} {S : gM} {M : vm_M} {r : gM} (hR : Rel S M) (ha1 : a1.toInt = A1), G48 A1 S = some r → Mp gRV (F48 16 a1 M) r) (hF49 : ∀ {a1 : Int32} {A1 : Int} {S : gM} {M : vm_M} {r : gM} (hR : Rel S M) (ha1 : a1.toInt = A1), G49 A1 S = some r → Mp gRV (F49 16 a1 M) r) (hF50 : ∀ {a1 : Int32} {A1 : Int} {S : gM} {M : vm_M} {r : gM} (hR : Rel S M) (ha1 : a1.toInt = A1), G50 A1 S = some r → Mp gRV (F50 16 a1 M) r) (hR : Rel S M) (t1 : x1.toInt = X1) (h : g48g G48 G49 G50 X1 S = some r) : Mp gRV (f48g F48 F49 F50 16 x1 M) r := by
  unfold g48g at h
  unfold f48g
  refine k_ob (hR.obF (by decide) rfl) ?_
  obtain ⟨p1, e1, h⟩ := bind_so h
  refine k_call (hF49 hR t1 e1) (fun M1 R1 => ?_)
  refine g48_l7_ok hF48 hF49 hF50 t1 100000 _ _ _ _ R1 tI_0 h
def g49_l7 (G48 : Int → gM → Option (gM)) (G49 : Int → gM → Option (gM)) (G50 : Int → gM → Option (gM)) (X1 : Int) : Nat → Int → gM → Option (gM)
  | 0 => fun _ _ => none
  | n + 1 => fun X2 S =>
    if 700 ≤ X2 then
      some S
    else
      w_lt (gi S 16 13) fun V3 =>
      if ¬ V3 = 267 then
        some S
      else
        (g33 S).bind fun p5 =>
        (G50 X1 p5).bind fun p6 =>
        (g44 12 0 p6).bind fun p7 =>
        w_ckI (X2 + 1) fun V8 =>
        g49_l7 G48 G49 G50 X1 n V8 p7
theorem g49_l7_ok {F48 : Nat → Int32 → vm_M → Option (vm_M)} {F49 : Nat → Int32 → vm_M → Option (vm_M)} {F50 : Nat → Int32 → vm_M → Option (vm_M)} {G48 : Int → gM → Option (gM)} {G49 : Int → gM → Option (gM)} {G50 : Int → gM → Option (gM)} {x1 : Int32} {X1 : Int} {r : gM} (hF48 : ∀ {a1 : Int32} {A1 : Int} {S : gM} {M : vm_M} {r : gM} (hR : Rel S M) (ha1 : a1.toInt = A1), G48 A1 S = some r → Mp gRV (F48 16 a1 M) r) (hF49 : ∀ {a1 : Int32} {A1 : Int} {S : gM} {M : vm_M} {r : gM} (hR : Rel S M) (ha1 : a1.toInt = A1), G49 A1 S = some r → Mp gRV (F49 16 a1 M) r) (hF50 : ∀ {a1 : Int32} {A1 : Int} {S : gM} {M : vm_M} {r : gM} (hR : Rel S M) (ha1 : a1.toInt = A1), G50 A1 S = some r → Mp gRV (F50 16 a1 M) r) (t1 : x1.toInt = X1) : ∀ (n : Nat) (x2 : Int32) (X2 : Int) (S : gM) (M : vm_M), Rel S M → x2.toInt = X2 → g49_l7 G48 G49 G50 X1 n X2 S = some r → Mp gRV (f49_l7 F48 F49 F50 16 x1 n x2 M) r := by
  intro n
  induction n with
  | zero =>
    intro x2 X2 S M hR t2 h
    cases h
  | succ n ih =>
    intro x2 X2 S M hR t2 h
    dsimp only [g49_l7] at h
    dsimp only [f49_l7]
    refine k_ite (c_le tI_700 t2) h (fun c2 h => ?_) (fun c2 h => ?_)
    · exact k_retV hR h
    · obtain ⟨V3, e3, h⟩ := lt_so h
      refine k_gi hR (hR.obF (by decide) rfl) rfl e3 (fun v3 z3 => ?_)
      refine k_ite (c_ne z3 tI_267) h (fun c4 h => ?_) (fun c4 h => ?_)
      · exact k_retV hR h
      · refine k_ob (hR.obF (by decide) rfl) ?_
        obtain ⟨p5, e5, h⟩ := bind_so h
        refine k_call (g33_ok hR e5) (fun M5 R5 => ?_)
        refine k_ob (R5.obF (by decide) rfl) ?_
        obtain ⟨p6, e6, h⟩ := bind_so h
        refine k_call (hF50 R5 t1 e6) (fun M6 R6 => ?_)
        refine k_ob (R6.obF (by decide) rfl) ?_
        obtain ⟨p7, e7, h⟩ := bind_so h
        refine k_call (g44_ok R6 tI_12 tI_0 e7) (fun M7 R7 => ?_)
        obtain ⟨V8, e8, c8, h⟩ := ckI_so h
        exact ih _ _ _ _ R7 (t_add t2 tI_1 c8 e8) h
/-- PupilCoin$Reader.every(I)V -/
def g49g (G48 : Int → gM → Option (gM)) (G49 : Int → gM → Option (gM)) (G50 : Int → gM → Option (gM)) (X1 : Int) (S : gM) : Option (gM) :=
  (G50 X1 S).bind fun p1 =>
  g49_l7 G48 G49 G50 X1
  
    100000 0 p1
theorem g49g_ok {F48 : Nat → Int32 → vm_M → Option (vm_M)} {F49 : Nat → Int32 → vm_M → Option (vm_M)} {F50 : Nat → Int32 → vm_M → Option (vm_M)} {G48 : Int → gM → Option (gM)} {G49 : Int → gM → Option (gM)} {G50 : Int → gM → Option (gM)} {x1 : Int32} {X1 : Int} {S : gM} {M : vm_M} {r : gM} (hF48 : ∀ {a1 : Int32} {A1 : Int} {S : gM} {M : vm_M} {r : gM} (hR : Rel S M) (ha1 : a1.toInt = A1), G48 A1 S = some r → Mp gRV (F48 16 a1 M) r) (hF49 : ∀ {a1 : Int32} {A1 : Int} {S : gM} {M : vm_M} {r : gM} (hR : Rel S M) (ha1 : a1.toInt = A1), G49 A1 S = some r → Mp gRV (F49 16 a1 M) r) (hF50 : ∀ {a1 : Int32} {A1 : Int} {S : gM} {M : vm_M} {r : gM} (hR : Rel S M) (ha1 : a1.toInt = A1), G50 A1 S = some r → Mp gRV (F50 16 a1 M) r) (hR : Rel S M) (t1 : x1.toInt = X1) (h : g49g G48 G49 G50 X1 S = some r) : Mp gRV (f49g F48 F49 F50 16 x1 M) r := by
  unfold g49g at h
  unfold f49g
  refine k_ob (hR.obF (by decide) rfl) ?_
  obtain ⟨p1, e1, h⟩ := bind_so h
  refine k_call (hF50 hR t1 e1) (fun M1 R1 => ?_)
  refine g49_l7_ok hF48 hF49 hF50 t1 100000 _ _ _ _ R1 tI_0 h
def g50_j34 (G48 : Int → gM → Option (gM)) (G49 : Int → gM → Option (gM)) (G50 : Int → gM → Option (gM)) (X1 : Int) (Xs0 : Int) (S : gM) : Option (gM) :=
  if X1 < 8 then
    (g33 S).bind fun p6 =>
    if Xs0 = 0 then
      w_ckI (X1 + 1) fun V8 =>
      (G48 V8 p6).bind fun p9 =>
      (g37 125 p9).bind fun p10 =>
      some p10
    else
      w_ckI (X1 + 1) fun V11 =>
      (G50 V11 p6).bind fun p12 =>
      (g44 14 0 p12).bind fun p13 =>
      some p13
  else
    (g32 S).bind fun p14 =>
    some p14
theorem g50_j34_ok {F48 : Nat → Int32 → vm_M → Option (vm_M)} {F49 : Nat → Int32 → vm_M → Option (vm_M)} {F50 : Nat → Int32 → vm_M → Option (vm_M)} {G48 : Int → gM → Option (gM)} {G49 : Int → gM → Option (gM)} {G50 : Int → gM → Option (gM)} {x1 : Int32} {X1 : Int} {xs0 : Int32} {Xs0 : Int} {S : gM} {M : vm_M} {r : gM} (hF48 : ∀ {a1 : Int32} {A1 : Int} {S : gM} {M : vm_M} {r : gM} (hR : Rel S M) (ha1 : a1.toInt = A1), G48 A1 S = some r → Mp gRV (F48 16 a1 M) r) (hF49 : ∀ {a1 : Int32} {A1 : Int} {S : gM} {M : vm_M} {r : gM} (hR : Rel S M) (ha1 : a1.toInt = A1), G49 A1 S = some r → Mp gRV (F49 16 a1 M) r) (hF50 : ∀ {a1 : Int32} {A1 : Int} {S : gM} {M : vm_M} {r : gM} (hR : Rel S M) (ha1 : a1.toInt = A1), G50 A1 S = some r → Mp gRV (F50 16 a1 M) r) (hR : Rel S M) (t1 : x1.toInt = X1) (ts0 : xs0.toInt = Xs0) (h : g50_j34 G48 G49 G50 X1 Xs0 S = some r) : Mp gRV (f50_j34 F48 F49 F50 16 x1 xs0 M) r := by
  unfold g50_j34 at h
  unfold f50_j34
  refine k_ite (c_lt t1 tI_8) h (fun c5 h => ?_) (fun c5 h => ?_)
  · refine k_ob (hR.obF (by decide) rfl) ?_
    obtain ⟨p6, e6, h⟩ := bind_so h
    refine k_call (g33_ok hR e6) (fun M6 R6 => ?_)
    refine k_ite (c_eq ts0 tI_0) h (fun c7 h => ?_) (fun c7 h => ?_)
    · obtain ⟨V8, e8, c8, h⟩ := ckI_so h
      refine k_ob (R6.obF (by decide) rfl) ?_
      obtain ⟨p9, e9, h⟩ := bind_so h
      refine k_call (hF48 R6 (t_add t1 tI_1 c8 e8) e9) (fun M9 R9 => ?_)
      refine k_ob (R9.obF (by decide) rfl) ?_
      obtain ⟨p10, e10, h⟩ := bind_so h
      refine k_call (g37_ok R9 tI_125 e10) (fun M10 R10 => ?_)
      exact k_retV R10 h
    · obtain ⟨V11, e11, c11, h⟩ := ckI_so h
      refine k_ob (R6.obF (by decide) rfl) ?_
      obtain ⟨p12, e12, h⟩ := bind_so h
      refine k_call (hF50 R6 (t_add t1 tI_1 c11 e11) e12) (fun M12 R12 => ?_)
      refine k_ob (R12.obF (by decide) rfl) ?_
      obtain ⟨p13, e13, h⟩ := bind_so h
      refine k_call (g44_ok R12 tI_14 tI_0 e13) (fun M13 R13 => ?_)
      exact k_retV R13 h
  · refine k_ob (hR.obF (by decide) rfl) ?_
    obtain ⟨p14, e14, h⟩ := bind_so h
    refine k_call (g32_ok hR e14) (fun M14 R14 => ?_)
    exact k_retV R14 h
def g50_j19 (G48 : Int → gM → Option (gM)) (G49 : Int → gM → Option (gM)) (G50 : Int → gM → Option (gM)) (X1 : Int) (S : gM) : Option (gM) :=
  w_lt (gi S 16 13) fun V3 =>
  if ¬ V3 = 268 then
    g50_j34 G48 G49 G50 X1 0 S
  else
    g50_j34 G48 G49 G50 X1 1 S
theorem g50_j19_ok {F48 : Nat → Int32 → vm_M → Option (vm_M)} {F49 : Nat → Int32 → vm_M → Option (vm_M)} {F50 : Nat → Int32 → vm_M → Option (vm_M)} {G48 : Int → gM → Option (gM)} {G49 : Int → gM → Option (gM)} {G50 : Int → gM → Option (gM)} {x1 : Int32} {X1 : Int} {S : gM} {M : vm_M} {r : gM} (hF48 : ∀ {a1 : Int32} {A1 : Int} {S : gM} {M : vm_M} {r : gM} (hR : Rel S M) (ha1 : a1.toInt = A1), G48 A1 S = some r → Mp gRV (F48 16 a1 M) r) (hF49 : ∀ {a1 : Int32} {A1 : Int} {S : gM} {M : vm_M} {r : gM} (hR : Rel S M) (ha1 : a1.toInt = A1), G49 A1 S = some r → Mp gRV (F49 16 a1 M) r) (hF50 : ∀ {a1 : Int32} {A1 : Int} {S : gM} {M : vm_M} {r : gM} (hR : Rel S M) (ha1 : a1.toInt = A1), G50 A1 S = some r → Mp gRV (F50 16 a1 M) r) (hR : Rel S M) (t1 : x1.toInt = X1) (h : g50_j19 G48 G49 G50 X1 S = some r) : Mp gRV (f50_j19 F48 F49 F50 16 x1 M) r := by
  unfold g50_j19 at h
  unfold f50_j19
  obtain ⟨V3, e3, h⟩ := lt_so h
  refine k_gi hR (hR.obF (by decide) rfl) rfl e3 (fun v3 z3 => ?_)
  refine k_ite (c_ne z3 tI_268) h (fun c4 h => ?_) (fun c4 h => ?_)
  · exact g50_j34_ok hF48 hF49 hF50 hR t1 tI_0 h
  · exact g50_j34_ok hF48 hF49 hF50 hR t1 tI_1 h
def g50_j140 (G48 : Int → gM → Option (gM)) (G49 : Int → gM → Option (gM)) (G50 : Int → gM → Option (gM)) (X1 : Int) (X2 : Int) (S : gM) : Option (gM) :=
  (g45 X1 S).bind fun p24 =>
  (g44 X2 0 p24).bind fun p25 =>
  some p25
theorem g50_j140_ok {F48 : Nat → Int32 → vm_M → Option (vm_M)} {F49 : Nat → Int32 → vm_M → Option (vm_M)} {F50 : Nat → Int32 → vm_M → Option (vm_M)} {G48 : Int → gM → Option (gM)} {G49 : Int → gM → Option (gM)} {G50 : Int → gM → Option (gM)} {x1 : Int32} {X1 : Int} {x2 : Int32} {X2 : Int} {S : gM} {M : vm_M} {r : gM} (hF48 : ∀ {a1 : Int32} {A1 : Int} {S : gM} {M : vm_M} {r : gM} (hR : Rel S M) (ha1 : a1.toInt = A1), G48 A1 S = some r → Mp gRV (F48 16 a1 M) r) (hF49 : ∀ {a1 : Int32} {A1 : Int} {S : gM} {M : vm_M} {r : gM} (hR : Rel S M) (ha1 : a1.toInt = A1), G49 A1 S = some r → Mp gRV (F49 16 a1 M) r) (hF50 : ∀ {a1 : Int32} {A1 : Int} {S : gM} {M : vm_M} {r : gM} (hR : Rel S M) (ha1 : a1.toInt = A1), G50 A1 S = some r → Mp gRV (F50 16 a1 M) r) (hR : Rel S M) (t1 : x1.toInt = X1) (t2 : x2.toInt = X2) (h : g50_j140 G48 G49 G50 X1 X2 S = some r) : Mp gRV (f50_j140 F48 F49 F50 16 x1 x2 M) r := by
  unfold g50_j140 at h
  unfold f50_j140
  refine k_ob (hR.obF (by decide) rfl) ?_
  obtain ⟨p24, e24, h⟩ := bind_so h
  refine k_call (g45_ok hR t1 e24) (fun M24 R24 => ?_)
  refine k_ob (R24.obF (by decide) rfl) ?_
  obtain ⟨p25, e25, h⟩ := bind_so h
  refine k_call (g44_ok R24 t2 tI_0 e25) (fun M25 R25 => ?_)
  exact k_retV R25 h
def g50_j120 (G48 : Int → gM → Option (gM)) (G49 : Int → gM → Option (gM)) (G50 : Int → gM → Option (gM)) (X1 : Int) (Xs0 : Int) (S : gM) : Option (gM) :=
  if ¬ Xs0 = 11 then
    (g33 S).bind fun p23 =>
    g50_j140 G48 G49 G50 X1 Xs0 p23
  else
    (g37 61 S).bind fun p26 =>
    g50_j140 G48 G49 G50 X1 Xs0 p26
theorem g50_j120_ok {F48 : Nat → Int32 → vm_M → Option (vm_M)} {F49 : Nat → Int32 → vm_M → Option (vm_M)} {F50 : Nat → Int32 → vm_M → Option (vm_M)} {G48 : Int → gM → Option (gM)} {G49 : Int → gM → Option (gM)} {G50 : Int → gM → Option (gM)} {x1 : Int32} {X1 : Int} {xs0 : Int32} {Xs0 : Int} {S : gM} {M : vm_M} {r : gM} (hF48 : ∀ {a1 : Int32} {A1 : Int} {S : gM} {M : vm_M} {r : gM} (hR : Rel S M) (ha1 : a1.toInt = A1), G48 A1 S = some r → Mp gRV (F48 16 a1 M) r) (hF49 : ∀ {a1 : Int32} {A1 : Int} {S : gM} {M : vm_M} {r : gM} (hR : Rel S M) (ha1 : a1.toInt = A1), G49 A1 S = some r → Mp gRV (F49 16 a1 M) r) (hF50 : ∀ {a1 : Int32} {A1 : Int} {S : gM} {M : vm_M} {r : gM} (hR : Rel S M) (ha1 : a1.toInt = A1), G50 A1 S = some r → Mp gRV (F50 16 a1 M) r) (hR : Rel S M) (t1 : x1.toInt = X1) (ts0 : xs0.toInt = Xs0) (h : g50_j120 G48 G49 G50 X1 Xs0 S = some r) : Mp gRV (f50_j120 F48 F49 F50 16 x1 xs0 M) r := by
  unfold g50_j120 at h
  unfold f50_j120
  refine k_ite (c_ne ts0 tI_11) h (fun c22 h => ?_) (fun c22 h => ?_)
  · refine k_ob (hR.obF (by decide) rfl) ?_
    obtain ⟨p23, e23, h⟩ := bind_so h
    refine k_call (g33_ok hR e23) (fun M23 R23 => ?_)
    exact g50_j140_ok hF48 hF49 hF50 R23 t1 ts0 h
  · refine k_ob (hR.obF (by decide) rfl) ?_
    obtain ⟨p26, e26, h⟩ := bind_so h
    refine k_call (g37_ok hR tI_61 e26) (fun M26 R26 => ?_)
    exact g50_j140_ok hF48 hF49 hF50 R26 t1 ts0 h
/-- PupilCoin$Reader.one(I)V -/
def g50g (G48 : Int → gM → Option (gM)) (G49 : Int → gM → Option (gM)) (G50 : Int → gM → Option (gM)) (X1 : Int) (S : gM) : Option (gM) :=
  w_lt (gi S 16 13) fun V1 =>
  if V1 = 268 then
    g50_j19 G48 G49 G50 X1 S
  else
    w_lt (gi S 16 13) fun V15 =>
    if ¬ V15 = 123 then
      (g45 X1 S).bind fun p17 =>
      w_lt (gi p17 16 13) fun V18 =>
      if ¬ V18 = 60 then
        w_lt (gi p17 16 13) fun V20 =>
        if ¬ V20 = 62 then
          g50_j120 G48 G49 G50 X1 11 p17
        else
          g50_j120 G48 G49 G50 X1 10 p17
      else
        g50_j120 G48 G49 G50 X1 9 p17
    else
      g50_j19 G48 G49 G50 X1 S
theorem g50g_ok {F48 : Nat → Int32 → vm_M → Option (vm_M)} {F49 : Nat → Int32 → vm_M → Option (vm_M)} {F50 : Nat → Int32 → vm_M → Option (vm_M)} {G48 : Int → gM → Option (gM)} {G49 : Int → gM → Option (gM)} {G50 : Int → gM → Option (gM)} {x1 : Int32} {X1 : Int} {S : gM} {M : vm_M} {r : gM} (hF48 : ∀ {a1 : Int32} {A1 : Int} {S : gM} {M : vm_M} {r : gM} (hR : Rel S M) (ha1 : a1.toInt = A1), G48 A1 S = some r → Mp gRV (F48 16 a1 M) r) (hF49 : ∀ {a1 : Int32} {A1 : Int} {S : gM} {M : vm_M} {r : gM} (hR : Rel S M) (ha1 : a1.toInt = A1), G49 A1 S = some r → Mp gRV (F49 16 a1 M) r) (hF50 : ∀ {a1 : Int32} {A1 : Int} {S : gM} {M : vm_M} {r : gM} (hR : Rel S M) (ha1 : a1.toInt = A1), G50 A1 S = some r → Mp gRV (F50 16 a1 M) r) (hR : Rel S M) (t1 : x1.toInt = X1) (h : g50g G48 G49 G50 X1 S = some r) : Mp gRV (f50g F48 F49 F50 16 x1 M) r := by
  unfold g50g at h
  unfold f50g
  obtain ⟨V1, e1, h⟩ := lt_so h
  refine k_gi hR (hR.obF (by decide) rfl) rfl e1 (fun v1 z1 => ?_)
  refine k_ite (c_eq z1 tI_268) h (fun c2 h => ?_) (fun c2 h => ?_)
  · exact g50_j19_ok hF48 hF49 hF50 hR t1 h
  · obtain ⟨V15, e15, h⟩ := lt_so h
    refine k_gi hR (hR.obF (by decide) rfl) rfl e15 (fun v15 z15 => ?_)
    refine k_ite (c_ne z15 tI_123) h (fun c16 h => ?_) (fun c16 h => ?_)
    · refine k_ob (hR.obF (by decide) rfl) ?_
      obtain ⟨p17, e17, h⟩ := bind_so h
      refine k_call (g45_ok hR t1 e17) (fun M17 R17 => ?_)
      obtain ⟨V18, e18, h⟩ := lt_so h
      refine k_gi R17 (R17.obF (by decide) rfl) rfl e18 (fun v18 z18 => ?_)
      refine k_ite (c_ne z18 tI_60) h (fun c19 h => ?_) (fun c19 h => ?_)
      · obtain ⟨V20, e20, h⟩ := lt_so h
        refine k_gi R17 (R17.obF (by decide) rfl) rfl e20 (fun v20 z20 => ?_)
        refine k_ite (c_ne z20 tI_62) h (fun c21 h => ?_) (fun c21 h => ?_)
        · exact g50_j120_ok hF48 hF49 hF50 R17 t1 tI_11 h
        · exact g50_j120_ok hF48 hF49 hF50 R17 t1 tI_10 h
      · exact g50_j120_ok hF48 hF49 hF50 R17 t1 tI_9 h
    · exact g50_j19_ok hF48 hF49 hF50 hR t1 h
/-- the methods that call each other, to a depth -/
def gc48 : Nat → (Int → gM → Option (gM)) × (Int → gM → Option (gM)) × (Int → gM → Option (gM))
  | 0 => (fun _ _ => none, fun _ _ => none, fun _ _ => none)
  | n + 1 => (g48g (gc48 n).1 (gc48 n).2.1 (gc48 n).2.2, g49g (gc48 n).1 (gc48 n).2.1 (gc48 n).2.2, g50g (gc48 n).1 (gc48 n).2.1 (gc48 n).2.2)
def g48 : Int → gM → Option (gM) := (gc48 60).1
def g49 : Int → gM → Option (gM) := (gc48 60).2.1
def g50 : Int → gM → Option (gM) := (gc48 60).2.2
theorem gc48_ok : ∀ (n : Nat), (∀ {a1 : Int32} {A1 : Int} {S : gM} {M : vm_M} {r : gM} (hR : Rel S M) (ha1 : a1.toInt = A1), (gc48 n).1 A1 S = some r → Mp gRV ((sc48 n).1 16 a1 M) r) ∧ (∀ {a1 : Int32} {A1 : Int} {S : gM} {M : vm_M} {r : gM} (hR : Rel S M) (ha1 : a1.toInt = A1), (gc48 n).2.1 A1 S = some r → Mp gRV ((sc48 n).2.1 16 a1 M) r) ∧ (∀ {a1 : Int32} {A1 : Int} {S : gM} {M : vm_M} {r : gM} (hR : Rel S M) (ha1 : a1.toInt = A1), (gc48 n).2.2 A1 S = some r → Mp gRV ((sc48 n).2.2 16 a1 M) r) := by
  intro n
  induction n with
  | zero =>
    refine ⟨?_, ?_, ?_⟩ <;> (intros; rename_i h; cases h)
  | succ n ih =>
    obtain ⟨h48, h49, h50⟩ := ih
    exact ⟨g48g_ok h48 h49 h50, g49g_ok h48 h49 h50, g50g_ok h48 h49 h50⟩
theorem g48_ok : ∀ {a1 : Int32} {A1 : Int} {S : gM} {M : vm_M} {r : gM} (hR : Rel S M) (ha1 : a1.toInt = A1), g48 A1 S = some r → Mp gRV (f48 16 a1 M) r := (gc48_ok 60).1
theorem g49_ok : ∀ {a1 : Int32} {A1 : Int} {S : gM} {M : vm_M} {r : gM} (hR : Rel S M) (ha1 : a1.toInt = A1), g49 A1 S = some r → Mp gRV (f49 16 a1 M) r := (gc48_ok 60).2.1
theorem g50_ok : ∀ {a1 : Int32} {A1 : Int} {S : gM} {M : vm_M} {r : gM} (hR : Rel S M) (ha1 : a1.toInt = A1), g50 A1 S = some r → Mp gRV (f50 16 a1 M) r := (gc48_ok 60).2.2
def g43_j128 (S : gM) : Option (gM) :=
  w_lt (gi S 16 7) fun V34 =>
  w_ckI (2 * V34) fun V35 =>
  w_ckI (V35 + 2) fun V36 =>
  w_lt (gi S 16 6) fun V37 =>
  w_chk ((0 : Int) ≤ V36 ∧ V36 < 61) <|
  w_lt (wi S 19 V36 V37) fun S39 =>
  w_lt (gi S39 16 7) fun V40 =>
  w_ckI (V40 + 1) fun V41 =>
  w_lt (wi S39 16 7 V41) fun S42 =>
  some S42
theorem g43_j128_ok {S : gM} {M : vm_M} {r : gM} (hR : Rel S M) (h : g43_j128 S = some r) : Mp gRV (f43_j128 16 M) r := by
  unfold g43_j128 at h
  unfold f43_j128
  refine k_grF 22 hR (hR.obF (by decide) rfl) rfl ?_
  obtain ⟨V34, e34, h⟩ := lt_so h
  refine k_gi hR (hR.obF (by decide) rfl) rfl e34 (fun v34 z34 => ?_)
  obtain ⟨V35, e35, c35, h⟩ := ckI_so h
  obtain ⟨V36, e36, c36, h⟩ := ckI_so h
  obtain ⟨V37, e37, h⟩ := lt_so h
  refine k_gi hR (hR.obF (by decide) rfl) rfl e37 (fun v37 z37 => ?_)
  refine k_some ?_
  obtain ⟨c38, h⟩ := chk_so h
  obtain ⟨S39, e39, h⟩ := lt_so h
  refine k_si hR (hR.lnF (by decide) rfl) rfl (t_add (t_mul tI_2 z34 c35 e35) tI_2 c36 e36) c38 z37 e39 (fun M39 R39 => ?_)
  obtain ⟨V40, e40, h⟩ := lt_so h
  refine k_gi R39 (R39.obF (by decide) rfl) rfl e40 (fun v40 z40 => ?_)
  obtain ⟨V41, e41, c41, h⟩ := ckI_so h
  obtain ⟨S42, e42, h⟩ := lt_so h
  refine k_pi R39 (R39.obF (by decide) rfl) rfl (t_add z40 tI_1 c41 e41) e42 (fun M42 R42 => ?_)
  exact k_retV R42 h
/-- PupilCoin$Reader.line()V -/
def g43 (S : gM) : Option (gM) :=
  (g33 S).bind fun p1 =>
  w_lt (gi p1 16 13) fun V2 =>
  if ¬ V2 = 280 then
    (g32 p1).bind fun p4 =>
    some p4
  else
    (g42 p1).bind fun p5 =>
    if ¬ p5.1 = (-1) then
      (g32 p5.2).bind fun p7 =>
      some p7
    else
      w_lt (gi p5.2 16 7) fun V8 =>
      if V8 < 30 then
        w_lt (gi p5.2 16 7) fun V10 =>
        w_lt (gl p5.2 16 15) fun V11 =>
        w_chk ((0 : Int) ≤ V10 ∧ V10 < 30) <|
        w_lt (wl p5.2 21 V10 V11) fun S13 =>
        w_lt (gi S13 16 7) fun V14 =>
        w_lt (gi S13 16 8) fun V15 =>
        w_chk ((0 : Int) ≤ V14 ∧ V14 < 30) <|
        w_lt (wi S13 20 V14 V15) fun S17 =>
        w_lt (gi S17 16 7) fun V18 =>
        w_ckI (2 * V18) fun V19 =>
        w_lt (gi S17 16 6) fun V20 =>
        w_chk ((0 : Int) ≤ V19 ∧ V19 < 61) <|
        w_lt (wi S17 19 V19 V20) fun S22 =>
        (g33 S22).bind fun p23 =>
        (g37 61 p23).bind fun p24 =>
        (g45 0 p24).bind fun p25 =>
        w_lt (gi p25 16 7) fun V26 =>
        w_ckI (2 * V26) fun V27 =>
        w_ckI (V27 + 1) fun V28 =>
        w_lt (gi p25 16 6) fun V29 =>
        w_chk ((0 : Int) ≤ V28 ∧ V28 < 61) <|
        w_lt (wi p25 19 V28 V29) fun S31 =>
        w_lt (gi S31 16 13) fun V32 =>
        if ¬ V32 = 263 then
          g43_j128 S31
        else
          (g33 S31).bind fun p43 =>
          (g48 0 p43).bind fun p44 =>
          g43_j128 p44
      else
        (g32 p5.2).bind fun p45 =>
        some p45
theorem g43_ok {S : gM} {M : vm_M} {r : gM} (hR : Rel S M) (h : g43 S = some r) : Mp gRV (f43 16 M) r := by
  unfold g43 at h
  unfold f43
  refine k_ob (hR.obF (by decide) rfl) ?_
  obtain ⟨p1, e1, h⟩ := bind_so h
  refine k_call (g33_ok hR e1) (fun M1 R1 => ?_)
  obtain ⟨V2, e2, h⟩ := lt_so h
  refine k_gi R1 (R1.obF (by decide) rfl) rfl e2 (fun v2 z2 => ?_)
  refine k_ite (c_ne z2 tI_280) h (fun c3 h => ?_) (fun c3 h => ?_)
  · refine k_ob (R1.obF (by decide) rfl) ?_
    obtain ⟨p4, e4, h⟩ := bind_so h
    refine k_call (g32_ok R1 e4) (fun M4 R4 => ?_)
    exact k_retV R4 h
  · refine k_ob (R1.obF (by decide) rfl) ?_
    obtain ⟨p5, e5, h⟩ := bind_so h
    refine k_call (g42_ok R1 e5) (fun b5 R5 => ?_)
    refine k_ite (c_ne R5.1 tI_m1) h (fun c6 h => ?_) (fun c6 h => ?_)
    · refine k_ob (R5.2.obF (by decide) rfl) ?_
      obtain ⟨p7, e7, h⟩ := bind_so h
      refine k_call (g32_ok R5.2 e7) (fun M7 R7 => ?_)
      exact k_retV R7 h
    · obtain ⟨V8, e8, h⟩ := lt_so h
      refine k_gi R5.2 (R5.2.obF (by decide) rfl) rfl e8 (fun v8 z8 => ?_)
      refine k_ite (c_lt z8 tI_30) h (fun c9 h => ?_) (fun c9 h => ?_)
      · refine k_grF 24 R5.2 (R5.2.obF (by decide) rfl) rfl ?_
        obtain ⟨V10, e10, h⟩ := lt_so h
        refine k_gi R5.2 (R5.2.obF (by decide) rfl) rfl e10 (fun v10 z10 => ?_)
        obtain ⟨V11, e11, h⟩ := lt_so h
        refine k_gl R5.2 (R5.2.obF (by decide) rfl) rfl e11 (fun v11 z11 => ?_)
        refine k_some ?_
        obtain ⟨c12, h⟩ := chk_so h
        obtain ⟨S13, e13, h⟩ := lt_so h
        refine k_sl R5.2 (R5.2.lnF (by decide) rfl) rfl z10 c12 z11 e13 (fun M13 R13 => ?_)
        refine k_grF 23 R13 (R13.obF (by decide) rfl) rfl ?_
        obtain ⟨V14, e14, h⟩ := lt_so h
        refine k_gi R13 (R13.obF (by decide) rfl) rfl e14 (fun v14 z14 => ?_)
        obtain ⟨V15, e15, h⟩ := lt_so h
        refine k_gi R13 (R13.obF (by decide) rfl) rfl e15 (fun v15 z15 => ?_)
        refine k_some ?_
        obtain ⟨c16, h⟩ := chk_so h
        obtain ⟨S17, e17, h⟩ := lt_so h
        refine k_si R13 (R13.lnF (by decide) rfl) rfl z14 c16 z15 e17 (fun M17 R17 => ?_)
        refine k_grF 22 R17 (R17.obF (by decide) rfl) rfl ?_
        obtain ⟨V18, e18, h⟩ := lt_so h
        refine k_gi R17 (R17.obF (by decide) rfl) rfl e18 (fun v18 z18 => ?_)
        obtain ⟨V19, e19, c19, h⟩ := ckI_so h
        obtain ⟨V20, e20, h⟩ := lt_so h
        refine k_gi R17 (R17.obF (by decide) rfl) rfl e20 (fun v20 z20 => ?_)
        refine k_some ?_
        obtain ⟨c21, h⟩ := chk_so h
        obtain ⟨S22, e22, h⟩ := lt_so h
        refine k_si R17 (R17.lnF (by decide) rfl) rfl (t_mul tI_2 z18 c19 e19) c21 z20 e22 (fun M22 R22 => ?_)
        refine k_ob (R22.obF (by decide) rfl) ?_
        obtain ⟨p23, e23, h⟩ := bind_so h
        refine k_call (g33_ok R22 e23) (fun M23 R23 => ?_)
        refine k_ob (R23.obF (by decide) rfl) ?_
        obtain ⟨p24, e24, h⟩ := bind_so h
        refine k_call (g37_ok R23 tI_61 e24) (fun M24 R24 => ?_)
        refine k_ob (R24.obF (by decide) rfl) ?_
        obtain ⟨p25, e25, h⟩ := bind_so h
        refine k_call (g45_ok R24 tI_0 e25) (fun M25 R25 => ?_)
        refine k_grF 22 R25 (R25.obF (by decide) rfl) rfl ?_
        obtain ⟨V26, e26, h⟩ := lt_so h
        refine k_gi R25 (R25.obF (by decide) rfl) rfl e26 (fun v26 z26 => ?_)
        obtain ⟨V27, e27, c27, h⟩ := ckI_so h
        obtain ⟨V28, e28, c28, h⟩ := ckI_so h
        obtain ⟨V29, e29, h⟩ := lt_so h
        refine k_gi R25 (R25.obF (by decide) rfl) rfl e29 (fun v29 z29 => ?_)
        refine k_some ?_
        obtain ⟨c30, h⟩ := chk_so h
        obtain ⟨S31, e31, h⟩ := lt_so h
        refine k_si R25 (R25.lnF (by decide) rfl) rfl (t_add (t_mul tI_2 z26 c27 e27) tI_1 c28 e28) c30 z29 e31 (fun M31 R31 => ?_)
        obtain ⟨V32, e32, h⟩ := lt_so h
        refine k_gi R31 (R31.obF (by decide) rfl) rfl e32 (fun v32 z32 => ?_)
        refine k_ite (c_ne z32 tI_263) h (fun c33 h => ?_) (fun c33 h => ?_)
        · exact g43_j128_ok R31 h
        · refine k_ob (R31.obF (by decide) rfl) ?_
          obtain ⟨p43, e43, h⟩ := bind_so h
          refine k_call (g33_ok R31 e43) (fun M43 R43 => ?_)
          refine k_ob (R43.obF (by decide) rfl) ?_
          obtain ⟨p44, e44, h⟩ := bind_so h
          refine k_call (g48_ok R43 tI_0 e44) (fun M44 R44 => ?_)
          exact g43_j128_ok R44 h
      · refine k_ob (R5.2.obF (by decide) rfl) ?_
        obtain ⟨p45, e45, h⟩ := bind_so h
        refine k_call (g32_ok R5.2 e45) (fun M45 R45 => ?_)
        exact k_retV R45 h
/-- PupilCoin$Reader.statement()V -/
def g38 (S : gM) : Option (gM) :=
  w_lt (gi S 16 13) fun V1 =>
  if V1 = 256 then
    (g43 S).bind fun p3 =>
    (g37 59 p3).bind fun p4 =>
    some p4
  else if V1 = 257 then
    (g39 0 1000 S).bind fun p6 =>
    (g37 59 p6).bind fun p7 =>
    some p7
  else if V1 = 258 then
    (g39 1 1000 S).bind fun p9 =>
    (g37 59 p9).bind fun p10 =>
    some p10
  else if V1 = 259 then
    (g39 2 9999999 S).bind fun p12 =>
    (g37 59 p12).bind fun p13 =>
    some p13
  else if V1 = 260 then
    (g39 3 100 S).bind fun p15 =>
    (g37 59 p15).bind fun p16 =>
    some p16
  else if V1 = 261 then
    (g40 S).bind fun p18 =>
    (g37 59 p18).bind fun p19 =>
    some p19
  else if V1 = 262 then
    (g41 S).bind fun p21 =>
    (g37 59 p21).bind fun p22 =>
    some p22
  else 
    (g32 S).bind fun p23 =>
    (g37 59 p23).bind fun p24 =>
    some p24
theorem g38_ok {S : gM} {M : vm_M} {r : gM} (hR : Rel S M) (h : g38 S = some r) : Mp gRV (f38 16 M) r := by
  unfold g38 at h
  unfold f38
  obtain ⟨V1, e1, h⟩ := lt_so h
  refine k_gi hR (hR.obF (by decide) rfl) rfl e1 (fun v1 z1 => ?_)
  refine k_ite (c_eq z1 tI_256) h (fun c2 h => ?_) (fun c2 h => ?_)
  · refine k_ob (hR.obF (by decide) rfl) ?_
    obtain ⟨p3, e3, h⟩ := bind_so h
    refine k_call (g43_ok hR e3) (fun M3 R3 => ?_)
    refine k_ob (R3.obF (by decide) rfl) ?_
    obtain ⟨p4, e4, h⟩ := bind_so h
    refine k_call (g37_ok R3 tI_59 e4) (fun M4 R4 => ?_)
    exact k_retV R4 h
  refine k_ite (c_eq z1 tI_257) h (fun c5 h => ?_) (fun c5 h => ?_)
  · refine k_ob (hR.obF (by decide) rfl) ?_
    obtain ⟨p6, e6, h⟩ := bind_so h
    refine k_call (g39_ok hR tI_0 tI_1000 e6) (fun M6 R6 => ?_)
    refine k_ob (R6.obF (by decide) rfl) ?_
    obtain ⟨p7, e7, h⟩ := bind_so h
    refine k_call (g37_ok R6 tI_59 e7) (fun M7 R7 => ?_)
    exact k_retV R7 h
  refine k_ite (c_eq z1 tI_258) h (fun c8 h => ?_) (fun c8 h => ?_)
  · refine k_ob (hR.obF (by decide) rfl) ?_
    obtain ⟨p9, e9, h⟩ := bind_so h
    refine k_call (g39_ok hR tI_1 tI_1000 e9) (fun M9 R9 => ?_)
    refine k_ob (R9.obF (by decide) rfl) ?_
    obtain ⟨p10, e10, h⟩ := bind_so h
    refine k_call (g37_ok R9 tI_59 e10) (fun M10 R10 => ?_)
    exact k_retV R10 h
  refine k_ite (c_eq z1 tI_259) h (fun c11 h => ?_) (fun c11 h => ?_)
  · refine k_ob (hR.obF (by decide) rfl) ?_
    obtain ⟨p12, e12, h⟩ := bind_so h
    refine k_call (g39_ok hR tI_2 tI_9999999 e12) (fun M12 R12 => ?_)
    refine k_ob (R12.obF (by decide) rfl) ?_
    obtain ⟨p13, e13, h⟩ := bind_so h
    refine k_call (g37_ok R12 tI_59 e13) (fun M13 R13 => ?_)
    exact k_retV R13 h
  refine k_ite (c_eq z1 tI_260) h (fun c14 h => ?_) (fun c14 h => ?_)
  · refine k_ob (hR.obF (by decide) rfl) ?_
    obtain ⟨p15, e15, h⟩ := bind_so h
    refine k_call (g39_ok hR tI_3 tI_100 e15) (fun M15 R15 => ?_)
    refine k_ob (R15.obF (by decide) rfl) ?_
    obtain ⟨p16, e16, h⟩ := bind_so h
    refine k_call (g37_ok R15 tI_59 e16) (fun M16 R16 => ?_)
    exact k_retV R16 h
  refine k_ite (c_eq z1 tI_261) h (fun c17 h => ?_) (fun c17 h => ?_)
  · refine k_ob (hR.obF (by decide) rfl) ?_
    obtain ⟨p18, e18, h⟩ := bind_so h
    refine k_call (g40_ok hR e18) (fun M18 R18 => ?_)
    refine k_ob (R18.obF (by decide) rfl) ?_
    obtain ⟨p19, e19, h⟩ := bind_so h
    refine k_call (g37_ok R18 tI_59 e19) (fun M19 R19 => ?_)
    exact k_retV R19 h
  refine k_ite (c_eq z1 tI_262) h (fun c20 h => ?_) (fun c20 h => ?_)
  · refine k_ob (hR.obF (by decide) rfl) ?_
    obtain ⟨p21, e21, h⟩ := bind_so h
    refine k_call (g41_ok hR e21) (fun M21 R21 => ?_)
    refine k_ob (R21.obF (by decide) rfl) ?_
    obtain ⟨p22, e22, h⟩ := bind_so h
    refine k_call (g37_ok R21 tI_59 e22) (fun M22 R22 => ?_)
    exact k_retV R22 h
  refine k_ob (hR.obF (by decide) rfl) ?_
  obtain ⟨p23, e23, h⟩ := bind_so h
  refine k_call (g32_ok hR e23) (fun M23 R23 => ?_)
  refine k_ob (R23.obF (by decide) rfl) ?_
  obtain ⟨p24, e24, h⟩ := bind_so h
  refine k_call (g37_ok R23 tI_59 e24) (fun M24 R24 => ?_)
  exact k_retV R24 h
def g31_l25 (K69 : gM → Option (Int × gM)) : Nat → Int → gM → Option (Int × gM)
  | 0 => fun _ _ => none
  | n + 1 => fun X3 S =>
    if 30 ≤ X3 then
      K69 S
    else
      w_lt (gi S 16 13) fun V8 =>
      if V8 = 282 then
        K69 S
      else
        w_lt (gi S 16 16) fun V10 =>
        if ¬ V10 = (-1) then
          K69 S
        else
          (g38 S).bind fun p12 =>
          w_lt (gi p12 16 8) fun V13 =>
          w_ckI (V13 + 1) fun V14 =>
          w_lt (wi p12 16 8 V14) fun S15 =>
          w_ckI (X3 + 1) fun V16 =>
          g31_l25 K69 n V16 S15
theorem g31_l25_ok {k69 : vm_M → Option (Int32 × vm_M)} {K69 : gM → Option (Int × gM)} {r : Int × gM} (hk69 : ∀ (S : gM) (M : vm_M), Rel S M → K69 S = some r → Mp gRI (k69 M) r) : ∀ (n : Nat) (x3 : Int32) (X3 : Int) (S : gM) (M : vm_M), Rel S M → x3.toInt = X3 → g31_l25 K69 n X3 S = some r → Mp gRI (f31_l25 16 k69 n x3 M) r := by
  intro n
  induction n with
  | zero =>
    intro x3 X3 S M hR t3 h
    cases h
  | succ n ih =>
    intro x3 X3 S M hR t3 h
    dsimp only [g31_l25] at h
    dsimp only [f31_l25]
    refine k_ite (c_le tI_30 t3) h (fun c7 h => ?_) (fun c7 h => ?_)
    · exact hk69 _ _ hR h
    · obtain ⟨V8, e8, h⟩ := lt_so h
      refine k_gi hR (hR.obF (by decide) rfl) rfl e8 (fun v8 z8 => ?_)
      refine k_ite (c_eq z8 tI_282) h (fun c9 h => ?_) (fun c9 h => ?_)
      · exact hk69 _ _ hR h
      · obtain ⟨V10, e10, h⟩ := lt_so h
        refine k_gi hR (hR.obF (by decide) rfl) rfl e10 (fun v10 z10 => ?_)
        refine k_ite (c_ne z10 tI_m1) h (fun c11 h => ?_) (fun c11 h => ?_)
        · exact hk69 _ _ hR h
        · refine k_ob (hR.obF (by decide) rfl) ?_
          obtain ⟨p12, e12, h⟩ := bind_so h
          refine k_call (g38_ok hR e12) (fun M12 R12 => ?_)
          obtain ⟨V13, e13, h⟩ := lt_so h
          refine k_gi R12 (R12.obF (by decide) rfl) rfl e13 (fun v13 z13 => ?_)
          obtain ⟨V14, e14, c14, h⟩ := ckI_so h
          obtain ⟨S15, e15, h⟩ := lt_so h
          refine k_pi R12 (R12.obF (by decide) rfl) rfl (t_add z13 tI_1 c14 e14) e15 (fun M15 R15 => ?_)
          obtain ⟨V16, e16, c16, h⟩ := ckI_so h
          exact ih _ _ _ _ R15 (t_add t3 tI_1 c16 e16) h
def g31_j69 (S : gM) : Option (Int × gM) :=
  w_lt (gi S 16 13) fun V18 =>
  if V18 = 282 then
    w_lt (gi S 16 16) fun V20 =>
    some (V20, S)
  else
    (g32 S).bind fun p21 =>
    w_lt (gi p21 16 16) fun V22 =>
    some (V22, p21)
theorem g31_j69_ok {S : gM} {M : vm_M} {r : Int × gM} (hR : Rel S M) (h : g31_j69 S = some r) : Mp gRI (f31_j69 16 M) r := by
  unfold g31_j69 at h
  unfold f31_j69
  obtain ⟨V18, e18, h⟩ := lt_so h
  refine k_gi hR (hR.obF (by decide) rfl) rfl e18 (fun v18 z18 => ?_)
  refine k_ite (c_eq z18 tI_282) h (fun c19 h => ?_) (fun c19 h => ?_)
  · obtain ⟨V20, e20, h⟩ := lt_so h
    refine k_gi hR (hR.obF (by decide) rfl) rfl e20 (fun v20 z20 => ?_)
    exact k_retI hR z20 h
  · refine k_ob (hR.obF (by decide) rfl) ?_
    obtain ⟨p21, e21, h⟩ := bind_so h
    refine k_call (g32_ok hR e21) (fun M21 R21 => ?_)
    obtain ⟨V22, e22, h⟩ := lt_so h
    refine k_gi R21 (R21.obF (by decide) rfl) rfl e22 (fun v22 z22 => ?_)
    exact k_retI R21 z22 h
/-- PupilCoin$Reader.read([II)I -/
def g31 (X2 : Int) (S : gM) : Option (Int × gM) :=
  w_lt (wr S 16 9 (some 54)) fun S1 =>
  w_lt (min X2 700) fun V3 =>
  w_lt (wi S1 16 10 V3) fun S4 =>
  (g30 S4).bind fun p5 =>
  (g33 p5).bind fun p6 =>
  g31_l25
    (fun S17 =>
      g31_j69 S17)
    100000 0 p6
theorem g31_ok {x2 : Int32} {X2 : Int} {S : gM} {M : vm_M} {r : Int × gM} (hR : Rel S M) (t2 : x2.toInt = X2) (h : g31 X2 S = some r) : Mp gRI (f31 16 54 x2 M) r := by
  unfold g31 at h
  unfold f31
  obtain ⟨S1, e1, h⟩ := lt_so h
  refine k_pr hR (hR.obF (by decide) rfl) (by decide) e1 (fun M1 R1 => ?_)
  refine k_len (R1.lnF (by decide) rfl) rfl (by decide) (fun v2 z2 => ?_)
  obtain ⟨V3, e3, h⟩ := lt_so h
  obtain ⟨S4, e4, h⟩ := lt_so h
  refine k_pi R1 (R1.obF (by decide) rfl) rfl (t_mnI t2 z2 e3) e4 (fun M4 R4 => ?_)
  refine k_ob (R4.obF (by decide) rfl) ?_
  obtain ⟨p5, e5, h⟩ := bind_so h
  refine k_call (g30_ok R4 e5) (fun M5 R5 => ?_)
  refine k_ob (R5.obF (by decide) rfl) ?_
  obtain ⟨p6, e6, h⟩ := bind_so h
  refine k_call (g33_ok R5 e6) (fun M6 R6 => ?_)
  refine g31_l25_ok ?_ 100000 _ _ _ _ R6 tI_0 h
  · intro S17 M17 R17
    intro h
    exact g31_j69_ok R17 h
/-- PupilCoin$Roads.lay(III)V -/
def g52 (X1 : Int) (X2 : Int) (X3 : Int) (S : gM) : Option (gM) :=
  w_ckI (X1 * 16) fun V1 =>
  w_ckI (V1 + X2) fun V2 =>
  w_chk ((0 : Int) ≤ V2 ∧ V2 < 256) <|
  w_lt (wi S 9 V2 X3) fun S4 =>
  w_ckI (X2 * 16) fun V5 =>
  w_ckI (V5 + X1) fun V6 =>
  w_chk ((0 : Int) ≤ V6 ∧ V6 < 256) <|
  w_lt (wi S4 9 V6 X3) fun S8 =>
  w_lt (wi S8 8 2 0) fun S9 =>
  some S9
theorem g52_ok {x1 : Int32} {X1 : Int} {x2 : Int32} {X2 : Int} {x3 : Int32} {X3 : Int} {S : gM} {M : vm_M} {r : gM} (hR : Rel S M) (t1 : x1.toInt = X1) (t2 : x2.toInt = X2) (t3 : x3.toInt = X3) (h : g52 X1 X2 X3 S = some r) : Mp gRV (f52 8 x1 x2 x3 M) r := by
  unfold g52 at h
  unfold f52
  refine k_grF 14 hR (hR.obF (by decide) rfl) rfl ?_
  obtain ⟨V1, e1, c1, h⟩ := ckI_so h
  obtain ⟨V2, e2, c2, h⟩ := ckI_so h
  refine k_some ?_
  obtain ⟨c3, h⟩ := chk_so h
  obtain ⟨S4, e4, h⟩ := lt_so h
  refine k_si hR (hR.lnF (by decide) rfl) rfl (t_add (t_mul t1 tI_16 c1 e1) t2 c2 e2) c3 t3 e4 (fun M4 R4 => ?_)
  refine k_grF 14 R4 (R4.obF (by decide) rfl) rfl ?_
  obtain ⟨V5, e5, c5, h⟩ := ckI_so h
  obtain ⟨V6, e6, c6, h⟩ := ckI_so h
  refine k_some ?_
  obtain ⟨c7, h⟩ := chk_so h
  obtain ⟨S8, e8, h⟩ := lt_so h
  refine k_si R4 (R4.lnF (by decide) rfl) rfl (t_add (t_mul t2 tI_16 c5 e5) t1 c6 e6) c7 t3 e8 (fun M8 R8 => ?_)
  obtain ⟨S9, e9, h⟩ := lt_so h
  refine k_pz R8 (R8.obF (by decide) rfl) rfl tI_0 (by decide) e9 (fun M9 R9 => ?_)
  exact k_retV R9 h
/-- PupilCoin$Rules.take(LPupilCoin$Law;)I -/
def g55 (x1 : Nat) (S : gM) : Option (Int × gM) :=
  w_lt (gi S 23 2) fun V1 =>
  if V1 < 8 then
    w_lt (gi S 23 2) fun V3 =>
    w_chk ((0 : Int) ≤ V3 ∧ V3 < 8) <|
    w_chk (gob S x1 1 = true) <|
    w_lt (wr S 29 (V3).toNat (some x1)) fun S6 =>
    w_lt (gi S6 23 2) fun V7 =>
    w_ckI (V7 + 1) fun V8 =>
    w_lt (wi S6 23 2 V8) fun S9 =>
    some (V7, S9)
  else
    some ((-1), S)
theorem g55_ok {x1 : Nat} {S : gM} {M : vm_M} {r : Int × gM} (hR : Rel S M) (h : g55 x1 S = some r) : Mp gRI (f55 23 x1 M) r := by
  unfold g55 at h
  unfold f55
  obtain ⟨V1, e1, h⟩ := lt_so h
  refine k_gi hR (hR.obF (by decide) rfl) rfl e1 (fun v1 z1 => ?_)
  refine k_ite (c_lt z1 tI_8) h (fun c2 h => ?_) (fun c2 h => ?_)
  · refine k_grF 26 hR (hR.obF (by decide) rfl) rfl ?_
    obtain ⟨V3, e3, h⟩ := lt_so h
    refine k_gi hR (hR.obF (by decide) rfl) rfl e3 (fun v3 z3 => ?_)
    refine k_some ?_
    obtain ⟨c4, h⟩ := chk_so h
    obtain ⟨c5, h⟩ := chk_so h
    obtain ⟨S6, e6, h⟩ := lt_so h
    refine k_sr hR (hR.lnF (by decide) rfl) rfl z3 c4 (hR.ob c5) (by decide) e6 (fun M6 R6 => ?_)
    obtain ⟨V7, e7, h⟩ := lt_so h
    refine k_gi R6 (R6.obF (by decide) rfl) rfl e7 (fun v7 z7 => ?_)
    obtain ⟨V8, e8, c8, h⟩ := ckI_so h
    obtain ⟨S9, e9, h⟩ := lt_so h
    refine k_pi R6 (R6.obF (by decide) rfl) rfl (t_add z7 tI_1 c8 e8) e9 (fun M9 R9 => ?_)
    exact k_retI R9 z7 h
  · exact k_retI hR tI_m1 h
def g56_l8 (X1 : Int) (X2 : Int) : Nat → Option Nat → Int → gM → Option (Option Nat × gM)
  | 0 => fun _ _ _ => none
  | n + 1 => fun x3 X4 S =>
    w_lt (gi S 23 2) fun V1 =>
    if V1 ≤ X4 then
      some (x3, S)
    else
      w_chk ((0 : Int) ≤ X4 ∧ X4 < 8) <|
      w_lt (gr S 29 (X4).toNat) fun a4 =>
      match a4 with
      | none =>
        w_ckI (X4 + 1) fun V6 =>
        g56_l8 X1 X2 n x3 V6 S
      | some q5 =>
        w_chk (gob S q5 1 = true) <|
        w_lt (gi S q5 2) fun V8 =>
        if X2 < V8 then
          w_ckI (X4 + 1) fun V10 =>
          g56_l8 X1 X2 n x3 V10 S
        else
          w_chk (gob S q5 1 = true) <|
          w_lt (gi S q5 1) fun V12 =>
          if V12 ≤ X1 then
            w_chk (gob S q5 1 = true) <|
            w_lt (gi S q5 1) fun V15 =>
            (x3).bind fun q16 =>
            w_chk (gob S q16 1 = true) <|
            w_lt (gi S q16 1) fun V18 =>
            if V15 < V18 then
              w_ckI (X4 + 1) fun V20 =>
              g56_l8 X1 X2 n (some q16) V20 S
            else
              w_ckI (X4 + 1) fun V21 =>
              g56_l8 X1 X2 n (some q5) V21 S
          else
            w_ckI (X4 + 1) fun V22 =>
            g56_l8 X1 X2 n x3 V22 S
theorem g56_l8_ok {x1 : Int32} {X1 : Int} {x2 : Int32} {X2 : Int} {r : Option Nat × gM} (t1 : x1.toInt = X1) (t2 : x2.toInt = X2) : ∀ (n : Nat) (x3 : Option Nat) (x4 : Int32) (X4 : Int) (S : gM) (M : vm_M), Rel S M → x4.toInt = X4 → g56_l8 X1 X2 n x3 X4 S = some r → Mp gRA (f56_l8 23 x1 x2 n x3 x4 M) r := by
  intro n
  induction n with
  | zero =>
    intro x3 x4 X4 S M hR t4 h
    cases h
  | succ n ih =>
    intro x3 x4 X4 S M hR t4 h
    dsimp only [g56_l8] at h
    dsimp only [f56_l8]
    obtain ⟨V1, e1, h⟩ := lt_so h
    refine k_gi hR (hR.obF (by decide) rfl) rfl e1 (fun v1 z1 => ?_)
    refine k_ite (c_le z1 t4) h (fun c2 h => ?_) (fun c2 h => ?_)
    · exact k_retA hR h
    · refine k_grF 26 hR (hR.obF (by decide) rfl) rfl ?_
      refine k_some ?_
      obtain ⟨c3, h⟩ := chk_so h
      obtain ⟨a4, e4, h⟩ := lt_so h
      refine k_ar hR (hR.lnF (by decide) rfl) rfl t4 c3 e4 ?_
      cases a4 with
      | none =>
        dsimp only at h ⊢
        obtain ⟨V6, e6, c6, h⟩ := ckI_so h
        exact ih _ _ _ _ _ hR (t_add t4 tI_1 c6 e6) h
      | some q5 =>
        dsimp only at h ⊢
        obtain ⟨c7, h⟩ := chk_so h
        obtain ⟨V8, e8, h⟩ := lt_so h
        refine k_gi hR (hR.ob c7) rfl e8 (fun v8 z8 => ?_)
        refine k_ite (c_lt t2 z8) h (fun c9 h => ?_) (fun c9 h => ?_)
        · obtain ⟨V10, e10, c10, h⟩ := ckI_so h
          exact ih _ _ _ _ _ hR (t_add t4 tI_1 c10 e10) h
        · obtain ⟨c11, h⟩ := chk_so h
          obtain ⟨V12, e12, h⟩ := lt_so h
          refine k_gi hR (hR.ob c11) rfl e12 (fun v12 z12 => ?_)
          refine k_ite (c_le z12 t1) h (fun c13 h => ?_) (fun c13 h => ?_)
          · obtain ⟨c14, h⟩ := chk_so h
            obtain ⟨V15, e15, h⟩ := lt_so h
            refine k_gi hR (hR.ob c14) rfl e15 (fun v15 z15 => ?_)
            obtain ⟨q16, e16, h⟩ := bind_so h
            refine k_unw e16 ?_
            obtain ⟨c17, h⟩ := chk_so h
            obtain ⟨V18, e18, h⟩ := lt_so h
            refine k_gi hR (hR.ob c17) rfl e18 (fun v18 z18 => ?_)
            refine k_ite (c_lt z15 z18) h (fun c19 h => ?_) (fun c19 h => ?_)
            · obtain ⟨V20, e20, c20, h⟩ := ckI_so h
              exact ih _ _ _ _ _ hR (t_add t4 tI_1 c20 e20) h
            · obtain ⟨V21, e21, c21, h⟩ := ckI_so h
              exact ih _ _ _ _ _ hR (t_add t4 tI_1 c21 e21) h
          · obtain ⟨V22, e22, c22, h⟩ := ckI_so h
            exact ih _ _ _ _ _ hR (t_add t4 tI_1 c22 e22) h
/-- PupilCoin$Rules.inForce(II)LPupilCoin$Law; -/
def g56 (X1 : Int) (X2 : Int) (S : gM) : Option (Option Nat × gM) :=
  g56_l8 X1 X2
  
    100000 (some 24) 0 S
theorem g56_ok {x1 : Int32} {X1 : Int} {x2 : Int32} {X2 : Int} {S : gM} {M : vm_M} {r : Option Nat × gM} (hR : Rel S M) (t1 : x1.toInt = X1) (t2 : x2.toInt = X2) (h : g56 X1 X2 S = some r) : Mp gRA (f56 23 x1 x2 M) r := by
  unfold g56 at h
  unfold f56
  refine k_grF 27 hR (hR.obF (by decide) rfl) rfl ?_
  refine g56_l8_ok t1 t2 100000 _ _ _ _ _ hR tI_0 h
/-- PupilCoin$Sums.forget()V -/
def g58 (S : gM) : Option (gM) :=
  w_lt (wi S 30 15 0) fun S1 =>
  some S1
theorem g58_ok {S : gM} {M : vm_M} {r : gM} (hR : Rel S M) (h : g58 S = some r) : Mp gRV (f58 30 M) r := by
  unfold g58 at h
  unfold f58
  obtain ⟨S1, e1, h⟩ := lt_so h
  refine k_pi hR (hR.obF (by decide) rfl) rfl tI_0 e1 (fun M1 R1 => ?_)
  exact k_retV R1 h
def g65_l6 (X1 : Int) (X2 : Int) (X3 : Int) (X4 : Int) : Nat → Int → Int → gM → Option (Int × gM)
  | 0 => fun _ _ _ => none
  | n + 1 => fun X5 X7 S =>
    w_lt (gi S 1 7) fun V1 =>
    if V1 ≤ X7 then
      some (X5, S)
    else
      w_chk ((0 : Int) ≤ X7 ∧ X7 < 12) <|
      w_lt (gi S 43 X7) fun V4 =>
      if ¬ V4 = X1 then
        w_ckI (X7 + 1) fun V6 =>
        g65_l6 X1 X2 X3 X4 n X5 V6 S
      else
        (g12 X7 X2 X3 X4 S).bind fun p7 =>
        w_lt (max 0 p7.1) fun V8 =>
        w_ckJ (X5 + V8) fun V9 =>
        w_ckI (X7 + 1) fun V10 =>
        g65_l6 X1 X2 X3 X4 n V9 V10 p7.2
theorem g65_l6_ok {x1 : Int32} {X1 : Int} {x2 : Int32} {X2 : Int} {x3 : Int32} {X3 : Int} {x4 : Int32} {X4 : Int} {r : Int × gM} (t1 : x1.toInt = X1) (t2 : x2.toInt = X2) (t3 : x3.toInt = X3) (t4 : x4.toInt = X4) : ∀ (n : Nat) (x5 : Int64) (X5 : Int) (x7 : Int32) (X7 : Int) (S : gM) (M : vm_M), Rel S M → x5.toInt = X5 → x7.toInt = X7 → g65_l6 X1 X2 X3 X4 n X5 X7 S = some r → Mp gRJ (f65_l6 30 x1 x2 x3 x4 n x5 x7 M) r := by
  intro n
  induction n with
  | zero =>
    intro x5 X5 x7 X7 S M hR t5 t7 h
    cases h
  | succ n ih =>
    intro x5 X5 x7 X7 S M hR t5 t7 h
    dsimp only [g65_l6] at h
    dsimp only [f65_l6]
    refine k_grF 32 hR (hR.obF (by decide) rfl) rfl ?_
    refine k_some ?_
    obtain ⟨V1, e1, h⟩ := lt_so h
    refine k_gi hR (hR.obF (by decide) rfl) rfl e1 (fun v1 z1 => ?_)
    refine k_ite (c_le z1 t7) h (fun c2 h => ?_) (fun c2 h => ?_)
    · exact k_retJ hR t5 h
    · refine k_grF 45 hR (hR.obF (by decide) rfl) rfl ?_
      refine k_some ?_
      obtain ⟨c3, h⟩ := chk_so h
      obtain ⟨V4, e4, h⟩ := lt_so h
      refine k_ai hR (hR.lnF (by decide) rfl) rfl t7 c3 e4 (fun v4 z4 => ?_)
      refine k_ite (c_ne z4 t1) h (fun c5 h => ?_) (fun c5 h => ?_)
      · obtain ⟨V6, e6, c6, h⟩ := ckI_so h
        exact ih _ _ _ _ _ _ hR t5 (t_add t7 tI_1 c6 e6) h
      · refine k_grF 33 hR (hR.obF (by decide) rfl) rfl ?_
        refine k_some ?_
        refine k_ob (hR.obF (by decide) rfl) ?_
        obtain ⟨p7, e7, h⟩ := bind_so h
        refine k_call (g12_ok hR t7 t2 t3 t4 e7) (fun b7 R7 => ?_)
        obtain ⟨V8, e8, h⟩ := lt_so h
        obtain ⟨V9, e9, c9, h⟩ := ckJ_so h
        obtain ⟨V10, e10, c10, h⟩ := ckI_so h
        exact ih _ _ _ _ _ _ R7.2 (tJ_add t5 (t_itol (t_mxI tI_0 R7.1 e8)) c9 e9) (t_add t7 tI_1 c10 e10) h
/-- PupilCoin$Sums.together(IIII)J -/
def g65 (X1 : Int) (X2 : Int) (X3 : Int) (X4 : Int) (S : gM) : Option (Int × gM) :=
  g65_l6 X1 X2 X3 X4
  
    100000 0 0 S
theorem g65_ok {x1 : Int32} {X1 : Int} {x2 : Int32} {X2 : Int} {x3 : Int32} {X3 : Int} {x4 : Int32} {X4 : Int} {S : gM} {M : vm_M} {r : Int × gM} (hR : Rel S M) (t1 : x1.toInt = X1) (t2 : x2.toInt = X2) (t3 : x3.toInt = X3) (t4 : x4.toInt = X4) (h : g65 X1 X2 X3 X4 S = some r) : Mp gRJ (f65 30 x1 x2 x3 x4 M) r := by
  unfold g65 at h
  unfold f65
  refine g65_l6_ok t1 t2 t3 t4 100000 _ _ _ _ _ _ hR tJ_0 tI_0 h
def g66_l18 (X1 : Int) (X2 : Int) : Nat → Int → Int → gM → Option (Int × gM)
  | 0 => fun _ _ _ => none
  | n + 1 => fun X3 X5 S =>
    w_lt (gi S 1 7) fun V3 =>
    if V3 ≤ X5 then
      some (X3, S)
    else
      w_chk ((0 : Int) ≤ X5 ∧ X5 < 12) <|
      w_lt (gi S 43 X5) fun V6 =>
      if ¬ V6 = X1 then
        w_ckI (X5 + 1) fun V8 =>
        g66_l18 X1 X2 n X3 V8 S
      else
        w_ckI (X2 - 1) fun V9 =>
        w_ckI (V9 * 12) fun V10 =>
        w_ckI (V10 + X5) fun V11 =>
        w_chk ((0 : Int) ≤ V11 ∧ V11 < 120) <|
        w_lt (gl S 44 V11) fun V13 =>
        w_ckJ (X3 + V13) fun V14 =>
        w_ckI (X5 + 1) fun V15 =>
        g66_l18 X1 X2 n V14 V15 S
theorem g66_l18_ok {x1 : Int32} {X1 : Int} {x2 : Int32} {X2 : Int} {r : Int × gM} (t1 : x1.toInt = X1) (t2 : x2.toInt = X2) : ∀ (n : Nat) (x3 : Int64) (X3 : Int) (x5 : Int32) (X5 : Int) (S : gM) (M : vm_M), Rel S M → x3.toInt = X3 → x5.toInt = X5 → g66_l18 X1 X2 n X3 X5 S = some r → Mp gRJ (f66_l18 30 x1 x2 n x3 x5 M) r := by
  intro n
  induction n with
  | zero =>
    intro x3 X3 x5 X5 S M hR t3 t5 h
    cases h
  | succ n ih =>
    intro x3 X3 x5 X5 S M hR t3 t5 h
    dsimp only [g66_l18] at h
    dsimp only [f66_l18]
    refine k_grF 32 hR (hR.obF (by decide) rfl) rfl ?_
    refine k_some ?_
    obtain ⟨V3, e3, h⟩ := lt_so h
    refine k_gi hR (hR.obF (by decide) rfl) rfl e3 (fun v3 z3 => ?_)
    refine k_ite (c_le z3 t5) h (fun c4 h => ?_) (fun c4 h => ?_)
    · exact k_retJ hR t3 h
    · refine k_grF 45 hR (hR.obF (by decide) rfl) rfl ?_
      refine k_some ?_
      obtain ⟨c5, h⟩ := chk_so h
      obtain ⟨V6, e6, h⟩ := lt_so h
      refine k_ai hR (hR.lnF (by decide) rfl) rfl t5 c5 e6 (fun v6 z6 => ?_)
      refine k_ite (c_ne z6 t1) h (fun c7 h => ?_) (fun c7 h => ?_)
      · obtain ⟨V8, e8, c8, h⟩ := ckI_so h
        exact ih _ _ _ _ _ _ hR t3 (t_add t5 tI_1 c8 e8) h
      · refine k_grF 46 hR (hR.obF (by decide) rfl) rfl ?_
        obtain ⟨V9, e9, c9, h⟩ := ckI_so h
        obtain ⟨V10, e10, c10, h⟩ := ckI_so h
        obtain ⟨V11, e11, c11, h⟩ := ckI_so h
        refine k_some ?_
        obtain ⟨c12, h⟩ := chk_so h
        obtain ⟨V13, e13, h⟩ := lt_so h
        refine k_al hR (hR.lnF (by decide) rfl) rfl (t_add (t_mul (t_sub t2 tI_1 c9 e9) tI_12 c10 e10) t5 c11 e11) c12 e13 (fun v13 z13 => ?_)
        obtain ⟨V14, e14, c14, h⟩ := ckJ_so h
        obtain ⟨V15, e15, c15, h⟩ := ckI_so h
        exact ih _ _ _ _ _ _ hR (tJ_add t3 z13 c14 e14) (t_add t5 tI_1 c15 e15) h
/-- PupilCoin$Sums.lastOf(II)J -/
def g66 (X1 : Int) (X2 : Int) (S : gM) : Option (Int × gM) :=
  if X2 < 1 then
    some (0, S)
  else
    if X2 ≤ 10 then
      g66_l18 X1 X2
      
        100000 0 0 S
    else
      some (0, S)
theorem g66_ok {x1 : Int32} {X1 : Int} {x2 : Int32} {X2 : Int} {S : gM} {M : vm_M} {r : Int × gM} (hR : Rel S M) (t1 : x1.toInt = X1) (t2 : x2.toInt = X2) (h : g66 X1 X2 S = some r) : Mp gRJ (f66 30 x1 x2 M) r := by
  unfold g66 at h
  unfold f66
  refine k_ite (c_lt t2 tI_1) h (fun c1 h => ?_) (fun c1 h => ?_)
  · exact k_retJ hR tJ_0 h
  · refine k_ite (c_le t2 tI_10) h (fun c2 h => ?_) (fun c2 h => ?_)
    · refine g66_l18_ok t1 t2 100000 _ _ _ _ _ _ hR tJ_0 tI_0 h
    · exact k_retJ hR tJ_0 h
def g64_j53 (K84 : gM → Option (gM)) (K12 : Int → gM → Option (gM)) (X1 : Int) (X2 : Int) (X3 : Int) (X4 : Int) (X5 : Int) (X6 : Int) (S : gM) : Option (gM) :=
  if 3 ≤ X5 then
    w_ckI (X5 + 1) fun V8 =>
    w_chk ((0 : Int) ≤ V8 ∧ V8 < 10) <|
    w_lt (wl S 32 V8 X6) fun S10 =>
    w_ckI (X5 + 1) fun V11 =>
    K12 V11 S10
  else
    w_chk ((0 : Int) ≤ X5 ∧ X5 < 10) <|
    w_lt (wl S 32 X5 X6) fun S13 =>
    w_ckI (X5 + 1) fun V14 =>
    K12 V14 S13
theorem g64_j53_ok {k84 : vm_M → Option (vm_M)} {K84 : gM → Option (gM)} {k12 : Int32 → vm_M → Option (vm_M)} {K12 : Int → gM → Option (gM)} {x1 : Int32} {X1 : Int} {x2 : Int32} {X2 : Int} {x3 : Int32} {X3 : Int} {x4 : Int32} {X4 : Int} {x5 : Int32} {X5 : Int} {x6 : Int64} {X6 : Int} {S : gM} {M : vm_M} {r : gM} (hk84 : ∀ (S : gM) (M : vm_M), Rel S M → K84 S = some r → Mp gRV (k84 M) r) (hk12 : ∀ (y5 : Int32) (Y5 : Int) (S : gM) (M : vm_M), Rel S M → y5.toInt = Y5 → K12 Y5 S = some r → Mp gRV (k12 y5 M) r) (hR : Rel S M) (t1 : x1.toInt = X1) (t2 : x2.toInt = X2) (t3 : x3.toInt = X3) (t4 : x4.toInt = X4) (t5 : x5.toInt = X5) (t6 : x6.toInt = X6) (h : g64_j53 K84 K12 X1 X2 X3 X4 X5 X6 S = some r) : Mp gRV (f64_j53 k84 k12 30 x1 x2 x3 x4 x5 x6 M) r := by
  unfold g64_j53 at h
  unfold f64_j53
  refine k_grF 35 hR (hR.obF (by decide) rfl) rfl ?_
  refine k_some ?_
  refine k_grF 47 hR (hR.obF (by decide) rfl) rfl ?_
  refine k_ite (c_le tI_3 t5) h (fun c7 h => ?_) (fun c7 h => ?_)
  · obtain ⟨V8, e8, c8, h⟩ := ckI_so h
    refine k_some ?_
    obtain ⟨c9, h⟩ := chk_so h
    obtain ⟨S10, e10, h⟩ := lt_so h
    refine k_sl hR (hR.lnF (by decide) rfl) rfl (t_add t5 tI_1 c8 e8) c9 t6 e10 (fun M10 R10 => ?_)
    obtain ⟨V11, e11, c11, h⟩ := ckI_so h
    exact hk12 _ _ _ _ R10 (t_add t5 tI_1 c11 e11) h
  · refine k_some ?_
    obtain ⟨c12, h⟩ := chk_so h
    obtain ⟨S13, e13, h⟩ := lt_so h
    refine k_sl hR (hR.lnF (by decide) rfl) rfl t5 c12 t6 e13 (fun M13 R13 => ?_)
    obtain ⟨V14, e14, c14, h⟩ := ckI_so h
    exact hk12 _ _ _ _ R13 (t_add t5 tI_1 c14 e14) h
def g64_l12 (X1 : Int) (X2 : Int) (X3 : Int) (X4 : Int) (K84 : gM → Option (gM)) : Nat → Int → gM → Option (gM)
  | 0 => fun _ _ => none
  | n + 1 => fun X5 S =>
    if 5 ≤ X5 then
      K84 S
    else
      (g65 X1 X4 X5 X3 S).bind fun p4 =>
      w_lt (gi p4.2 30 17) fun V5 =>
      if ¬ X1 = V5 then
        g64_j53 K84 (g64_l12 X1 X2 X3 X4 K84 n) X1 X2 X3 X4 X5 p4.1 p4.2
      else
        w_lt (gi p4.2 30 18) fun V15 =>
        if ¬ X5 = V15 then
          g64_j53 K84 (g64_l12 X1 X2 X3 X4 K84 n) X1 X2 X3 X4 X5 p4.1 p4.2
        else
          w_ckJ (p4.1 + 1) fun V17 =>
          g64_j53 K84 (g64_l12 X1 X2 X3 X4 K84 n) X1 X2 X3 X4 X5 V17 p4.2
theorem g64_l12_ok {x1 : Int32} {X1 : Int} {x2 : Int32} {X2 : Int} {x3 : Int32} {X3 : Int} {x4 : Int32} {X4 : Int} {k84 : vm_M → Option (vm_M)} {K84 : gM → Option (gM)} {r : gM} (hk84 : ∀ (S : gM) (M : vm_M), Rel S M → K84 S = some r → Mp gRV (k84 M) r) (t1 : x1.toInt = X1) (t2 : x2.toInt = X2) (t3 : x3.toInt = X3) (t4 : x4.toInt = X4) : ∀ (n : Nat) (x5 : Int32) (X5 : Int) (S : gM) (M : vm_M), Rel S M → x5.toInt = X5 → g64_l12 X1 X2 X3 X4 K84 n X5 S = some r → Mp gRV (f64_l12 30 x1 x2 x3 x4 k84 n x5 M) r := by
  intro n
  induction n with
  | zero =>
    intro x5 X5 S M hR t5 h
    cases h
  | succ n ih =>
    intro x5 X5 S M hR t5 h
    dsimp only [g64_l12] at h
    dsimp only [f64_l12]
    refine k_ite (c_le tI_5 t5) h (fun c3 h => ?_) (fun c3 h => ?_)
    · exact hk84 _ _ hR h
    · refine k_ob (hR.obF (by decide) rfl) ?_
      obtain ⟨p4, e4, h⟩ := bind_so h
      refine k_call (g65_ok hR t1 t4 t5 t3 e4) (fun b4 R4 => ?_)
      obtain ⟨V5, e5, h⟩ := lt_so h
      refine k_gi R4.2 (R4.2.obF (by decide) rfl) rfl e5 (fun v5 z5 => ?_)
      refine k_ite (c_ne t1 z5) h (fun c6 h => ?_) (fun c6 h => ?_)
      · exact g64_j53_ok hk84 ih R4.2 t1 t2 t3 t4 t5 R4.1 h
      · obtain ⟨V15, e15, h⟩ := lt_so h
        refine k_gi R4.2 (R4.2.obF (by decide) rfl) rfl e15 (fun v15 z15 => ?_)
        refine k_ite (c_ne t5 z15) h (fun c16 h => ?_) (fun c16 h => ?_)
        · exact g64_j53_ok hk84 ih R4.2 t1 t2 t3 t4 t5 R4.1 h
        · obtain ⟨V17, e17, c17, h⟩ := ckJ_so h
          exact g64_j53_ok hk84 ih R4.2 t1 t2 t3 t4 t5 (tJ_add R4.1 tJ_1 c17 e17) h
def g64_l238 (X1 : Int) (X2 : Int) : Nat → Int → gM → Option (gM)
  | 0 => fun _ _ => none
  | n + 1 => fun X5 S =>
    if 3 ≤ X5 then
      some S
    else
      if X2 ≤ 0 then
        some S
      else
        w_lt (gl S 30 16) fun V46 =>
        w_ckI (X2 - 2) fun V47 =>
        w_lt (max 0 V47) fun V48 =>
        w_ckI (X2 * 100) fun V49 =>
        (g65 X1 V48 X5 V49 S).bind fun p50 =>
        w_ckJ (V46 + p50.1) fun V51 =>
        w_lt (wl p50.2 30 16 V51) fun S52 =>
        w_ckI (X5 + 1) fun V53 =>
        g64_l238 X1 X2 n V53 S52
theorem g64_l238_ok {x1 : Int32} {X1 : Int} {x2 : Int32} {X2 : Int} {r : gM} (t1 : x1.toInt = X1) (t2 : x2.toInt = X2) : ∀ (n : Nat) (x5 : Int32) (X5 : Int) (S : gM) (M : vm_M), Rel S M → x5.toInt = X5 → g64_l238 X1 X2 n X5 S = some r → Mp gRV (f64_l238 30 x1 x2 n x5 M) r := by
  intro n
  induction n with
  | zero =>
    intro x5 X5 S M hR t5 h
    cases h
  | succ n ih =>
    intro x5 X5 S M hR t5 h
    dsimp only [g64_l238] at h
    dsimp only [f64_l238]
    refine k_ite (c_le tI_3 t5) h (fun c44 h => ?_) (fun c44 h => ?_)
    · exact k_retV hR h
    · refine k_ite (c_le t2 tI_0) h (fun c45 h => ?_) (fun c45 h => ?_)
      · exact k_retV hR h
      · obtain ⟨V46, e46, h⟩ := lt_so h
        refine k_gl hR (hR.obF (by decide) rfl) rfl e46 (fun v46 z46 => ?_)
        obtain ⟨V47, e47, c47, h⟩ := ckI_so h
        obtain ⟨V48, e48, h⟩ := lt_so h
        obtain ⟨V49, e49, c49, h⟩ := ckI_so h
        refine k_ob (hR.obF (by decide) rfl) ?_
        obtain ⟨p50, e50, h⟩ := bind_so h
        refine k_call (g65_ok hR t1 (t_mxI tI_0 (t_sub t2 tI_2 c47 e47) e48) t5 (t_mul t2 tI_100 c49 e49) e50) (fun b50 R50 => ?_)
        obtain ⟨V51, e51, c51, h⟩ := ckJ_so h
        obtain ⟨S52, e52, h⟩ := lt_so h
        refine k_pl R50.2 (R50.2.obF (by decide) rfl) rfl (tJ_add z46 R50.1 c51 e51) e52 (fun M52 R52 => ?_)
        obtain ⟨V53, e53, c53, h⟩ := ckI_so h
        exact ih _ _ _ _ R52 (t_add t5 tI_1 c53 e53) h
/-- PupilCoin$Sums.gather(III)V -/
def g64 (X1 : Int) (X2 : Int) (X3 : Int) (S : gM) : Option (gM) :=
  w_ckI (X2 - 1) fun V1 =>
  w_lt (max 0 V1) fun V2 =>
  g64_l12 X1 X2 X3 V2
    (fun S18 =>
      w_lt (gl S18 32 0) fun V19 =>
      w_lt (gl S18 32 1) fun V20 =>
      w_ckJ (V19 + V20) fun V21 =>
      w_lt (gl S18 32 2) fun V22 =>
      w_ckJ (V21 + V22) fun V23 =>
      w_lt (wl S18 32 3 V23) fun S24 =>
      w_chk ((0 : Int) ≤ X1 ∧ X1 < 12) <|
      w_lt (gi S24 2 X1) fun V26 =>
      w_chk ((0 : Int) ≤ V26 ∧ V26 < 8) <|
      w_lt (gi S24 7 V26) fun V28 =>
      w_lt (wl S24 32 6 V28) fun S29 =>
      (g7 X1 X2 S29).bind fun p30 =>
      w_lt (wl p30.2 32 7 p30.1) fun S31 =>
      (g66 X1 X2 S31).bind fun p32 =>
      w_chk ((0 : Int) ≤ X1 ∧ X1 < 12) <|
      w_lt (wl p32.2 40 X1 p32.1) fun S34 =>
      w_chk ((0 : Int) ≤ X1 ∧ X1 < 12) <|
      w_lt (gl S34 40 X1) fun V36 =>
      w_lt (min 100000000 V36) fun V37 =>
      w_lt (max (-100000000) V37) fun V38 =>
      w_lt (wl S34 32 8 V38) fun S39 =>
      w_chk ((0 : Int) ≤ X1 ∧ X1 < 12) <|
      w_lt (gi S39 2 X1) fun V41 =>
      w_lt (wl S39 32 9 V41) fun S42 =>
      w_lt (wl S42 30 16 0) fun S43 =>
      g64_l238 X1 X2
      
        100000 0 S43)
    100000 0 S
theorem g64_ok {x1 : Int32} {X1 : Int} {x2 : Int32} {X2 : Int} {x3 : Int32} {X3 : Int} {S : gM} {M : vm_M} {r : gM} (hR : Rel S M) (t1 : x1.toInt = X1) (t2 : x2.toInt = X2) (t3 : x3.toInt = X3) (h : g64 X1 X2 X3 S = some r) : Mp gRV (f64 30 x1 x2 x3 M) r := by
  unfold g64 at h
  unfold f64
  obtain ⟨V1, e1, c1, h⟩ := ckI_so h
  obtain ⟨V2, e2, h⟩ := lt_so h
  refine g64_l12_ok ?_ t1 t2 t3 (t_mxI tI_0 (t_sub t2 tI_1 c1 e1) e2) 100000 _ _ _ _ hR tI_0 h
  · intro S18 M18 R18
    intro h
    refine k_grF 35 R18 (R18.obF (by decide) rfl) rfl ?_
    refine k_some ?_
    refine k_grF 47 R18 (R18.obF (by decide) rfl) rfl ?_
    refine k_grF 35 R18 (R18.obF (by decide) rfl) rfl ?_
    refine k_some ?_
    refine k_grF 47 R18 (R18.obF (by decide) rfl) rfl ?_
    refine k_some ?_
    obtain ⟨V19, e19, h⟩ := lt_so h
    refine k_al R18 (R18.lnF (by decide) rfl) rfl tI_0 (by decide) e19 (fun v19 z19 => ?_)
    refine k_grF 35 R18 (R18.obF (by decide) rfl) rfl ?_
    refine k_some ?_
    refine k_grF 47 R18 (R18.obF (by decide) rfl) rfl ?_
    refine k_some ?_
    obtain ⟨V20, e20, h⟩ := lt_so h
    refine k_al R18 (R18.lnF (by decide) rfl) rfl tI_1 (by decide) e20 (fun v20 z20 => ?_)
    obtain ⟨V21, e21, c21, h⟩ := ckJ_so h
    refine k_grF 35 R18 (R18.obF (by decide) rfl) rfl ?_
    refine k_some ?_
    refine k_grF 47 R18 (R18.obF (by decide) rfl) rfl ?_
    refine k_some ?_
    obtain ⟨V22, e22, h⟩ := lt_so h
    refine k_al R18 (R18.lnF (by decide) rfl) rfl tI_2 (by decide) e22 (fun v22 z22 => ?_)
    obtain ⟨V23, e23, c23, h⟩ := ckJ_so h
    obtain ⟨S24, e24, h⟩ := lt_so h
    refine k_sl R18 (R18.lnF (by decide) rfl) rfl tI_3 (by decide) (tJ_add (tJ_add z19 z20 c21 e21) z22 c23 e23) e24 (fun M24 R24 => ?_)
    refine k_grF 35 R24 (R24.obF (by decide) rfl) rfl ?_
    refine k_some ?_
    refine k_grF 47 R24 (R24.obF (by decide) rfl) rfl ?_
    refine k_grF 32 R24 (R24.obF (by decide) rfl) rfl ?_
    refine k_some ?_
    refine k_grF 12 R24 (R24.obF (by decide) rfl) rfl ?_
    refine k_grF 32 R24 (R24.obF (by decide) rfl) rfl ?_
    refine k_some ?_
    refine k_grF 7 R24 (R24.obF (by decide) rfl) rfl ?_
    refine k_some ?_
    obtain ⟨c25, h⟩ := chk_so h
    obtain ⟨V26, e26, h⟩ := lt_so h
    refine k_ai R24 (R24.lnF (by decide) rfl) rfl t1 c25 e26 (fun v26 z26 => ?_)
    refine k_some ?_
    obtain ⟨c27, h⟩ := chk_so h
    obtain ⟨V28, e28, h⟩ := lt_so h
    refine k_ai R24 (R24.lnF (by decide) rfl) rfl z26 c27 e28 (fun v28 z28 => ?_)
    refine k_some ?_
    obtain ⟨S29, e29, h⟩ := lt_so h
    refine k_sl R24 (R24.lnF (by decide) rfl) rfl tI_6 (by decide) (t_itol z28) e29 (fun M29 R29 => ?_)
    refine k_grF 35 R29 (R29.obF (by decide) rfl) rfl ?_
    refine k_some ?_
    refine k_grF 47 R29 (R29.obF (by decide) rfl) rfl ?_
    refine k_grF 32 R29 (R29.obF (by decide) rfl) rfl ?_
    refine k_some ?_
    refine k_ob (R29.obF (by decide) rfl) ?_
    obtain ⟨p30, e30, h⟩ := bind_so h
    refine k_call (g7_ok R29 t1 t2 e30) (fun b30 R30 => ?_)
    refine k_some ?_
    obtain ⟨S31, e31, h⟩ := lt_so h
    refine k_sl R30.2 (R30.2.lnF (by decide) rfl) rfl tI_7 (by decide) (t_itol R30.1) e31 (fun M31 R31 => ?_)
    refine k_grF 42 R31 (R31.obF (by decide) rfl) rfl ?_
    refine k_ob (R31.obF (by decide) rfl) ?_
    obtain ⟨p32, e32, h⟩ := bind_so h
    refine k_call (g66_ok R31 t1 t2 e32) (fun b32 R32 => ?_)
    refine k_some ?_
    obtain ⟨c33, h⟩ := chk_so h
    obtain ⟨S34, e34, h⟩ := lt_so h
    refine k_sl R32.2 (R32.2.lnF (by decide) rfl) rfl t1 c33 R32.1 e34 (fun M34 R34 => ?_)
    refine k_grF 35 R34 (R34.obF (by decide) rfl) rfl ?_
    refine k_some ?_
    refine k_grF 47 R34 (R34.obF (by decide) rfl) rfl ?_
    refine k_grF 42 R34 (R34.obF (by decide) rfl) rfl ?_
    refine k_some ?_
    obtain ⟨c35, h⟩ := chk_so h
    obtain ⟨V36, e36, h⟩ := lt_so h
    refine k_al R34 (R34.lnF (by decide) rfl) rfl t1 c35 e36 (fun v36 z36 => ?_)
    obtain ⟨V37, e37, h⟩ := lt_so h
    obtain ⟨V38, e38, h⟩ := lt_so h
    refine k_some ?_
    obtain ⟨S39, e39, h⟩ := lt_so h
    refine k_sl R34 (R34.lnF (by decide) rfl) rfl tI_8 (by decide) (t_mxJ tJ_m100000000 (t_mnJ tJ_100000000 z36 e37) e38) e39 (fun M39 R39 => ?_)
    refine k_grF 35 R39 (R39.obF (by decide) rfl) rfl ?_
    refine k_some ?_
    refine k_grF 47 R39 (R39.obF (by decide) rfl) rfl ?_
    refine k_grF 32 R39 (R39.obF (by decide) rfl) rfl ?_
    refine k_some ?_
    refine k_grF 7 R39 (R39.obF (by decide) rfl) rfl ?_
    refine k_some ?_
    obtain ⟨c40, h⟩ := chk_so h
    obtain ⟨V41, e41, h⟩ := lt_so h
    refine k_ai R39 (R39.lnF (by decide) rfl) rfl t1 c40 e41 (fun v41 z41 => ?_)
    refine k_some ?_
    obtain ⟨S42, e42, h⟩ := lt_so h
    refine k_sl R39 (R39.lnF (by decide) rfl) rfl tI_9 (by decide) (t_itol z41) e42 (fun M42 R42 => ?_)
    obtain ⟨S43, e43, h⟩ := lt_so h
    refine k_pl R42 (R42.obF (by decide) rfl) rfl tJ_0 e43 (fun M43 R43 => ?_)
    refine g64_l238_ok t1 t2 100000 _ _ _ _ R43 tI_0 h
def g67_j120 (K145 : gM → Option (gM)) (K8 : Int → gM → Option (gM)) (x1 : Nat) (X2 : Int) (X3 : Int) (X4 : Int) (Xs1 : Int) (Xs2 : Int) (S : gM) : Option (gM) :=
  w_chk ((0 : Int) ≤ Xs1 ∧ Xs1 < 360) <|
  w_lt (wl S 34 Xs1 Xs2) fun S23 =>
  w_chk ((0 : Int) ≤ X2 ∧ X2 < 12) <|
  w_lt (gl S23 35 X2) fun V25 =>
  w_ckI (X3 + X4) fun V26 =>
  w_chk ((0 : Int) ≤ V26 ∧ V26 < 360) <|
  w_lt (gl S23 34 V26) fun V28 =>
  w_ckJ (V25 + V28) fun V29 =>
  w_chk ((0 : Int) ≤ X2 ∧ X2 < 12) <|
  w_lt (wl S23 35 X2 V29) fun S31 =>
  w_ckI (X4 + 1) fun V32 =>
  K8 V32 S31
theorem g67_j120_ok {k145 : vm_M → Option (vm_M)} {K145 : gM → Option (gM)} {k8 : Int32 → vm_M → Option (vm_M)} {K8 : Int → gM → Option (gM)} {x1 : Nat} {x2 : Int32} {X2 : Int} {x3 : Int32} {X3 : Int} {x4 : Int32} {X4 : Int} {xs1 : Int32} {Xs1 : Int} {xs2 : Int64} {Xs2 : Int} {S : gM} {M : vm_M} {r : gM} (hk145 : ∀ (S : gM) (M : vm_M), Rel S M → K145 S = some r → Mp gRV (k145 M) r) (hk8 : ∀ (y4 : Int32) (Y4 : Int) (S : gM) (M : vm_M), Rel S M → y4.toInt = Y4 → K8 Y4 S = some r → Mp gRV (k8 y4 M) r) (hR : Rel S M) (t2 : x2.toInt = X2) (t3 : x3.toInt = X3) (t4 : x4.toInt = X4) (ts1 : xs1.toInt = Xs1) (ts2 : xs2.toInt = Xs2) (h : g67_j120 K145 K8 x1 X2 X3 X4 Xs1 Xs2 S = some r) : Mp gRV (f67_j120 k145 k8 30 x1 x2 x3 x4 (some 34) xs1 xs2 M) r := by
  unfold g67_j120 at h
  unfold f67_j120
  refine k_some ?_
  obtain ⟨c22, h⟩ := chk_so h
  obtain ⟨S23, e23, h⟩ := lt_so h
  refine k_sl hR (hR.lnF (by decide) rfl) rfl ts1 c22 ts2 e23 (fun M23 R23 => ?_)
  refine k_grF 37 R23 (R23.obF (by decide) rfl) rfl ?_
  refine k_some ?_
  obtain ⟨c24, h⟩ := chk_so h
  obtain ⟨V25, e25, h⟩ := lt_so h
  refine k_al R23 (R23.lnF (by decide) rfl) rfl t2 c24 e25 (fun v25 z25 => ?_)
  refine k_grF 36 R23 (R23.obF (by decide) rfl) rfl ?_
  obtain ⟨V26, e26, c26, h⟩ := ckI_so h
  refine k_some ?_
  obtain ⟨c27, h⟩ := chk_so h
  obtain ⟨V28, e28, h⟩ := lt_so h
  refine k_al R23 (R23.lnF (by decide) rfl) rfl (t_add t3 t4 c26 e26) c27 e28 (fun v28 z28 => ?_)
  obtain ⟨V29, e29, c29, h⟩ := ckJ_so h
  obtain ⟨c30, h⟩ := chk_so h
  obtain ⟨S31, e31, h⟩ := lt_so h
  refine k_sl R23 (R23.lnF (by decide) rfl) rfl t2 c30 (tJ_add z25 z28 c29 e29) e31 (fun M31 R31 => ?_)
  obtain ⟨V32, e32, c32, h⟩ := ckI_so h
  exact hk8 _ _ _ _ R31 (t_add t4 tI_1 c32 e32) h
def g67_j77 (K145 : gM → Option (gM)) (K8 : Int → gM → Option (gM)) (x1 : Nat) (X2 : Int) (X3 : Int) (X4 : Int) (X5 : Int) (Xs0 : Int) (S : gM) : Option (gM) :=
  w_ckI (X3 + X4) fun V20 =>
  if Xs0 = 0 then
    g67_j120 K145 K8 x1 X2 X3 X4 V20 0 S
  else
    w_chk (gob S x1 1 = true) <|
    w_chk (gr S x1 7 = some (x1 + 3)) <|
    w_ckI (2 * X4) fun V35 =>
    w_chk ((0 : Int) ≤ gln S (x1 + 3) 0) <|
    w_chk ((0 : Int) ≤ V35 ∧ V35 < (gln S (x1 + 3) 0)) <|
    w_lt (gi S (x1 + 3) V35) fun V38 =>
    (g17 x1 V38 X5 X3 S).bind fun p39 =>
    g67_j120 K145 K8 x1 X2 X3 X4 V20 p39.1 p39.2
theorem g67_j77_ok {k145 : vm_M → Option (vm_M)} {K145 : gM → Option (gM)} {k8 : Int32 → vm_M → Option (vm_M)} {K8 : Int → gM → Option (gM)} {x1 : Nat} {x2 : Int32} {X2 : Int} {x3 : Int32} {X3 : Int} {x4 : Int32} {X4 : Int} {x5 : Int32} {X5 : Int} {xs0 : Int32} {Xs0 : Int} {S : gM} {M : vm_M} {r : gM} (hk145 : ∀ (S : gM) (M : vm_M), Rel S M → K145 S = some r → Mp gRV (k145 M) r) (hk8 : ∀ (y4 : Int32) (Y4 : Int) (S : gM) (M : vm_M), Rel S M → y4.toInt = Y4 → K8 Y4 S = some r → Mp gRV (k8 y4 M) r) (hR : Rel S M) (t2 : x2.toInt = X2) (t3 : x3.toInt = X3) (t4 : x4.toInt = X4) (t5 : x5.toInt = X5) (ts0 : xs0.toInt = Xs0) (h : g67_j77 K145 K8 x1 X2 X3 X4 X5 Xs0 S = some r) : Mp gRV (f67_j77 k145 k8 30 x1 x2 x3 x4 x5 xs0 M) r := by
  unfold g67_j77 at h
  unfold f67_j77
  refine k_grF 36 hR (hR.obF (by decide) rfl) rfl ?_
  obtain ⟨V20, e20, c20, h⟩ := ckI_so h
  refine k_ite (c_eq ts0 tI_0) h (fun c21 h => ?_) (fun c21 h => ?_)
  · exact g67_j120_ok hk145 hk8 hR t2 t3 t4 (t_add t3 t4 c20 e20) tJ_0 h
  · refine k_grF 35 hR (hR.obF (by decide) rfl) rfl ?_
    obtain ⟨c33, h⟩ := chk_so h
    obtain ⟨c34, h⟩ := chk_so h
    refine k_gr hR (hR.ob c33) c34.symm ?_
    obtain ⟨V35, e35, c35, h⟩ := ckI_so h
    refine k_some ?_
    obtain ⟨hn36, h⟩ := chk_so h
    obtain ⟨n36, en36, hn36⟩ := hR.ln hn36
    obtain ⟨c37, h⟩ := chk_so h
    obtain ⟨V38, e38, h⟩ := lt_so h
    refine k_ai hR hn36 en36.symm (t_mul tI_2 t4 c35 e35) c37 e38 (fun v38 z38 => ?_)
    refine k_grF 36 hR (hR.obF (by decide) rfl) rfl ?_
    refine k_some ?_
    refine k_some ?_
    refine k_ob (hR.obF (by decide) rfl) ?_
    obtain ⟨p39, e39, h⟩ := bind_so h
    refine k_call (g17_ok hR z38 t5 t3 e39) (fun b39 R39 => ?_)
    exact g67_j120_ok hk145 hk8 R39.2 t2 t3 t4 (t_add t3 t4 c20 e20) R39.1 h
def g67_j72 (K145 : gM → Option (gM)) (K8 : Int → gM → Option (gM)) (x1 : Nat) (X2 : Int) (X3 : Int) (X4 : Int) (X5 : Int) (S : gM) : Option (gM) :=
  g67_j77 K145 K8 x1 X2 X3 X4 X5 1 S
theorem g67_j72_ok {k145 : vm_M → Option (vm_M)} {K145 : gM → Option (gM)} {k8 : Int32 → vm_M → Option (vm_M)} {K8 : Int → gM → Option (gM)} {x1 : Nat} {x2 : Int32} {X2 : Int} {x3 : Int32} {X3 : Int} {x4 : Int32} {X4 : Int} {x5 : Int32} {X5 : Int} {S : gM} {M : vm_M} {r : gM} (hk145 : ∀ (S : gM) (M : vm_M), Rel S M → K145 S = some r → Mp gRV (k145 M) r) (hk8 : ∀ (y4 : Int32) (Y4 : Int) (S : gM) (M : vm_M), Rel S M → y4.toInt = Y4 → K8 Y4 S = some r → Mp gRV (k8 y4 M) r) (hR : Rel S M) (t2 : x2.toInt = X2) (t3 : x3.toInt = X3) (t4 : x4.toInt = X4) (t5 : x5.toInt = X5) (h : g67_j72 K145 K8 x1 X2 X3 X4 X5 S = some r) : Mp gRV (f67_j72 k145 k8 30 x1 x2 x3 x4 x5 M) r := by
  unfold g67_j72 at h
  unfold f67_j72
  exact g67_j77_ok hk145 hk8 hR t2 t3 t4 t5 tI_1 h
def g67_l8 (x1 : Nat) (X2 : Int) (X3 : Int) (K145 : gM → Option (gM)) : Nat → Int → gM → Option (gM)
  | 0 => fun _ _ => none
  | n + 1 => fun X4 S =>
    w_chk (gob S x1 1 = true) <|
    w_lt (gi S x1 4) fun V3 =>
    if V3 ≤ X4 then
      K145 S
    else
      w_chk (gob S x1 1 = true) <|
      w_chk (gr S x1 7 = some (x1 + 3)) <|
      w_ckI (2 * X4) fun V7 =>
      w_ckI (V7 + 1) fun V8 =>
      w_chk ((0 : Int) ≤ gln S (x1 + 3) 0) <|
      w_chk ((0 : Int) ≤ V8 ∧ V8 < (gln S (x1 + 3) 0)) <|
      w_lt (gi S (x1 + 3) V8) fun V11 =>
      w_chk (gob S x1 1 = true) <|
      w_chk (gr S x1 7 = some (x1 + 3)) <|
      w_ckI (2 * X4) fun V14 =>
      w_ckI (V14 + 2) fun V15 =>
      w_chk ((0 : Int) ≤ gln S (x1 + 3) 0) <|
      w_chk ((0 : Int) ≤ V15 ∧ V15 < (gln S (x1 + 3) 0)) <|
      w_lt (gi S (x1 + 3) V15) fun V18 =>
      if V11 = V18 then
        g67_j72 K145 (g67_l8 x1 X2 X3 K145 n) x1 X2 X3 X4 V11 S
      else
        (g17 x1 V11 V18 X3 S).bind fun p40 =>
        if p40.1 = 0 then
          g67_j77 K145 (g67_l8 x1 X2 X3 K145 n) x1 X2 X3 X4 V11 0 p40.2
        else
          g67_j72 K145 (g67_l8 x1 X2 X3 K145 n) x1 X2 X3 X4 V11 p40.2
theorem g67_l8_ok {x1 : Nat} {x2 : Int32} {X2 : Int} {x3 : Int32} {X3 : Int} {k145 : vm_M → Option (vm_M)} {K145 : gM → Option (gM)} {r : gM} (hk145 : ∀ (S : gM) (M : vm_M), Rel S M → K145 S = some r → Mp gRV (k145 M) r) (t2 : x2.toInt = X2) (t3 : x3.toInt = X3) : ∀ (n : Nat) (x4 : Int32) (X4 : Int) (S : gM) (M : vm_M), Rel S M → x4.toInt = X4 → g67_l8 x1 X2 X3 K145 n X4 S = some r → Mp gRV (f67_l8 30 x1 x2 x3 k145 n x4 M) r := by
  intro n
  induction n with
  | zero =>
    intro x4 X4 S M hR t4 h
    cases h
  | succ n ih =>
    intro x4 X4 S M hR t4 h
    dsimp only [g67_l8] at h
    dsimp only [f67_l8]
    obtain ⟨c2, h⟩ := chk_so h
    obtain ⟨V3, e3, h⟩ := lt_so h
    refine k_gi hR (hR.ob c2) rfl e3 (fun v3 z3 => ?_)
    refine k_ite (c_le z3 t4) h (fun c4 h => ?_) (fun c4 h => ?_)
    · exact hk145 _ _ hR h
    · obtain ⟨c5, h⟩ := chk_so h
      obtain ⟨c6, h⟩ := chk_so h
      refine k_gr hR (hR.ob c5) c6.symm ?_
      obtain ⟨V7, e7, c7, h⟩ := ckI_so h
      obtain ⟨V8, e8, c8, h⟩ := ckI_so h
      refine k_some ?_
      obtain ⟨hn9, h⟩ := chk_so h
      obtain ⟨n9, en9, hn9⟩ := hR.ln hn9
      obtain ⟨c10, h⟩ := chk_so h
      obtain ⟨V11, e11, h⟩ := lt_so h
      refine k_ai hR hn9 en9.symm (t_add (t_mul tI_2 t4 c7 e7) tI_1 c8 e8) c10 e11 (fun v11 z11 => ?_)
      obtain ⟨c12, h⟩ := chk_so h
      obtain ⟨c13, h⟩ := chk_so h
      refine k_gr hR (hR.ob c12) c13.symm ?_
      obtain ⟨V14, e14, c14, h⟩ := ckI_so h
      obtain ⟨V15, e15, c15, h⟩ := ckI_so h
      refine k_some ?_
      obtain ⟨hn16, h⟩ := chk_so h
      obtain ⟨n16, en16, hn16⟩ := hR.ln hn16
      obtain ⟨c17, h⟩ := chk_so h
      obtain ⟨V18, e18, h⟩ := lt_so h
      refine k_ai hR hn16 en16.symm (t_add (t_mul tI_2 t4 c14 e14) tI_2 c15 e15) c17 e18 (fun v18 z18 => ?_)
      refine k_ite (c_eq z11 z18) h (fun c19 h => ?_) (fun c19 h => ?_)
      · exact g67_j72_ok hk145 ih hR t2 t3 t4 z11 h
      · refine k_grF 35 hR (hR.obF (by decide) rfl) rfl ?_
        refine k_grF 36 hR (hR.obF (by decide) rfl) rfl ?_
        refine k_some ?_
        refine k_some ?_
        refine k_ob (hR.obF (by decide) rfl) ?_
        obtain ⟨p40, e40, h⟩ := bind_so h
        refine k_call (g17_ok hR z11 z18 t3 e40) (fun b40 R40 => ?_)
        refine k_ite (cJ_eq R40.1 tJ_0) h (fun c41 h => ?_) (fun c41 h => ?_)
        · exact g67_j77_ok hk145 ih R40.2 t2 t3 t4 z11 tI_0 h
        · exact g67_j72_ok hk145 ih R40.2 t2 t3 t4 z11 h
def g67_j191 (X2 : Int) (Xs1 : Int) (Xs2 : Int) (S : gM) : Option (gM) :=
  w_chk ((0 : Int) ≤ Xs1 ∧ Xs1 < 12) <|
  w_lt (wl S 39 Xs1 Xs2) fun S54 =>
  w_chk ((0 : Int) ≤ X2 ∧ X2 < 12) <|
  w_lt (gl S54 39 X2) fun V56 =>
  w_lt (max 0 V56) fun V57 =>
  w_chk ((0 : Int) ≤ X2 ∧ X2 < 12) <|
  w_lt (wl S54 39 X2 V57) fun S59 =>
  some S59
theorem g67_j191_ok {x2 : Int32} {X2 : Int} {xs1 : Int32} {Xs1 : Int} {xs2 : Int64} {Xs2 : Int} {S : gM} {M : vm_M} {r : gM} (hR : Rel S M) (t2 : x2.toInt = X2) (ts1 : xs1.toInt = Xs1) (ts2 : xs2.toInt = Xs2) (h : g67_j191 X2 Xs1 Xs2 S = some r) : Mp gRV (f67_j191 30 x2 (some 39) xs1 xs2 M) r := by
  unfold g67_j191 at h
  unfold f67_j191
  refine k_some ?_
  obtain ⟨c53, h⟩ := chk_so h
  obtain ⟨S54, e54, h⟩ := lt_so h
  refine k_sl hR (hR.lnF (by decide) rfl) rfl ts1 c53 ts2 e54 (fun M54 R54 => ?_)
  refine k_grF 41 R54 (R54.obF (by decide) rfl) rfl ?_
  refine k_grF 41 R54 (R54.obF (by decide) rfl) rfl ?_
  refine k_some ?_
  obtain ⟨c55, h⟩ := chk_so h
  obtain ⟨V56, e56, h⟩ := lt_so h
  refine k_al R54 (R54.lnF (by decide) rfl) rfl t2 c55 e56 (fun v56 z56 => ?_)
  obtain ⟨V57, e57, h⟩ := lt_so h
  obtain ⟨c58, h⟩ := chk_so h
  obtain ⟨S59, e59, h⟩ := lt_so h
  refine k_sl R54 (R54.lnF (by decide) rfl) rfl t2 c58 (t_mxJ tJ_0 z56 e57) e59 (fun M59 R59 => ?_)
  exact k_retV R59 h
/-- PupilCoin$Sums.workOut(LPupilCoin$Law;I)V -/
def g67 (x1 : Nat) (X2 : Int) (S : gM) : Option (gM) :=
  w_ckI (X2 * 30) fun V1 =>
  g67_l8 x1 X2 V1
    (fun S42 =>
      w_chk (gob S42 x1 1 = true) <|
      w_chk (gr S42 x1 5 = some (x1 + 1)) <|
      w_chk ((0 : Int) ≤ gln S42 (x1 + 1) 0) <|
      w_chk ((0 : Int) ≤ 5 ∧ 5 < (gln S42 (x1 + 1) 0)) <|
      w_lt (gi S42 (x1 + 1) 5) fun V47 =>
      w_chk (gob S42 x1 1 = true) <|
      w_lt (gi S42 x1 4) fun V49 =>
      (g102 V47 V49 S42).bind fun p50 =>
      if p50.1 = 0 then
        w_lt (gl p50.2 32 3) fun V52 =>
        g67_j191 X2 X2 V52 p50.2
      else
        w_chk (gob p50.2 x1 1 = true) <|
        w_chk (gr p50.2 x1 5 = some (x1 + 1)) <|
        w_chk ((0 : Int) ≤ gln p50.2 (x1 + 1) 0) <|
        w_chk ((0 : Int) ≤ 5 ∧ 5 < (gln p50.2 (x1 + 1) 0)) <|
        w_lt (gi p50.2 (x1 + 1) 5) fun V64 =>
        w_ckI (V1 + V64) fun V65 =>
        w_chk ((0 : Int) ≤ V65 ∧ V65 < 360) <|
        w_lt (gl p50.2 34 V65) fun V67 =>
        g67_j191 X2 X2 V67 p50.2)
    100000 0 S
theorem g67_ok {x1 : Nat} {x2 : Int32} {X2 : Int} {S : gM} {M : vm_M} {r : gM} (hR : Rel S M) (t2 : x2.toInt = X2) (h : g67 x1 X2 S = some r) : Mp gRV (f67 30 x1 x2 M) r := by
  unfold g67 at h
  unfold f67
  obtain ⟨V1, e1, c1, h⟩ := ckI_so h
  refine g67_l8_ok ?_ t2 (t_mul t2 tI_30 c1 e1) 100000 _ _ _ _ hR tI_0 h
  · intro S42 M42 R42
    intro h
    refine k_grF 41 R42 (R42.obF (by decide) rfl) rfl ?_
    obtain ⟨c43, h⟩ := chk_so h
    obtain ⟨c44, h⟩ := chk_so h
    refine k_gr R42 (R42.ob c43) c44.symm ?_
    refine k_some ?_
    obtain ⟨hn45, h⟩ := chk_so h
    obtain ⟨n45, en45, hn45⟩ := R42.ln hn45
    obtain ⟨c46, h⟩ := chk_so h
    obtain ⟨V47, e47, h⟩ := lt_so h
    refine k_ai R42 hn45 en45.symm tI_5 c46 e47 (fun v47 z47 => ?_)
    obtain ⟨c48, h⟩ := chk_so h
    obtain ⟨V49, e49, h⟩ := lt_so h
    refine k_gi R42 (R42.ob c48) rfl e49 (fun v49 z49 => ?_)
    obtain ⟨p50, e50, h⟩ := bind_so h
    refine k_call (g102_ok R42 z47 z49 e50) (fun b50 R50 => ?_)
    refine k_ite (c_eq R50.1 tI_0) h (fun c51 h => ?_) (fun c51 h => ?_)
    · refine k_grF 35 R50.2 (R50.2.obF (by decide) rfl) rfl ?_
      refine k_some ?_
      refine k_grF 47 R50.2 (R50.2.obF (by decide) rfl) rfl ?_
      refine k_some ?_
      obtain ⟨V52, e52, h⟩ := lt_so h
      refine k_al R50.2 (R50.2.lnF (by decide) rfl) rfl tI_3 (by decide) e52 (fun v52 z52 => ?_)
      exact g67_j191_ok R50.2 t2 t2 z52 h
    · refine k_grF 36 R50.2 (R50.2.obF (by decide) rfl) rfl ?_
      obtain ⟨c60, h⟩ := chk_so h
      obtain ⟨c61, h⟩ := chk_so h
      refine k_gr R50.2 (R50.2.ob c60) c61.symm ?_
      refine k_some ?_
      obtain ⟨hn62, h⟩ := chk_so h
      obtain ⟨n62, en62, hn62⟩ := R50.2.ln hn62
      obtain ⟨c63, h⟩ := chk_so h
      obtain ⟨V64, e64, h⟩ := lt_so h
      refine k_ai R50.2 hn62 en62.symm tI_5 c63 e64 (fun v64 z64 => ?_)
      obtain ⟨V65, e65, c65, h⟩ := ckI_so h
      refine k_some ?_
      obtain ⟨c66, h⟩ := chk_so h
      obtain ⟨V67, e67, h⟩ := lt_so h
      refine k_al R50.2 (R50.2.lnF (by decide) rfl) rfl (t_add (t_mul t2 tI_30 c1 e1) z64 c65 e65) c66 e67 (fun v67 z67 => ?_)
      exact g67_j191_ok R50.2 t2 t2 z67 h
/-- PupilCoin$Sums.lift(LPupilCoin$Law;IJ)V -/
def g69 (x1 : Nat) (X2 : Int) (X3 : Int) (S : gM) : Option (gM) :=
  w_chk (gob S x1 1 = true) <|
  w_chk (gr S x1 5 = some (x1 + 1)) <|
  w_chk ((0 : Int) ≤ gln S (x1 + 1) 0) <|
  w_chk ((0 : Int) ≤ 0 ∧ 0 < (gln S (x1 + 1) 0)) <|
  w_lt (gi S (x1 + 1) 0) fun V5 =>
  w_ckJ (X3 * V5) fun V6 =>
  w_ckJ (V6.tdiv 100) fun V7 =>
  w_chk ((0 : Int) ≤ X2 ∧ X2 < 12) <|
  w_lt (gl S 35 X2) fun V9 =>
  w_ckJ (V7 - V9) fun V10 =>
  w_chk ((0 : Int) ≤ X2 ∧ X2 < 12) <|
  w_lt (gl S 37 X2) fun V12 =>
  w_ckJ (V10 - V12) fun V13 =>
  w_chk (gob S x1 1 = true) <|
  w_chk (gr S x1 5 = some (x1 + 1)) <|
  w_chk ((0 : Int) ≤ gln S (x1 + 1) 0) <|
  w_chk ((0 : Int) ≤ 0 ∧ 0 < (gln S (x1 + 1) 0)) <|
  w_lt (gi S (x1 + 1) 0) fun V18 =>
  if V18 < 0 then
    some S
  else
    if V13 ≤ 0 then
      some S
    else
      w_chk ((0 : Int) ≤ X2 ∧ X2 < 12) <|
      w_lt (wl S 36 X2 V13) fun S22 =>
      some S22
theorem g69_ok {x1 : Nat} {x2 : Int32} {X2 : Int} {x3 : Int64} {X3 : Int} {S : gM} {M : vm_M} {r : gM} (hR : Rel S M) (t2 : x2.toInt = X2) (t3 : x3.toInt = X3) (h : g69 x1 X2 X3 S = some r) : Mp gRV (f69 30 x1 x2 x3 M) r := by
  unfold g69 at h
  unfold f69
  obtain ⟨c1, h⟩ := chk_so h
  obtain ⟨c2, h⟩ := chk_so h
  refine k_gr hR (hR.ob c1) c2.symm ?_
  refine k_some ?_
  obtain ⟨hn3, h⟩ := chk_so h
  obtain ⟨n3, en3, hn3⟩ := hR.ln hn3
  obtain ⟨c4, h⟩ := chk_so h
  obtain ⟨V5, e5, h⟩ := lt_so h
  refine k_ai hR hn3 en3.symm tI_0 c4 e5 (fun v5 z5 => ?_)
  obtain ⟨V6, e6, c6, h⟩ := ckJ_so h
  obtain ⟨V7, e7, c7, h⟩ := ckJ_so h
  refine k_dvJ (tJ_mul t3 (t_itol z5) c6 e6) tJ_100 (by decide) c7 e7 (fun v7 z7 => ?_)
  refine k_grF 37 hR (hR.obF (by decide) rfl) rfl ?_
  refine k_some ?_
  obtain ⟨c8, h⟩ := chk_so h
  obtain ⟨V9, e9, h⟩ := lt_so h
  refine k_al hR (hR.lnF (by decide) rfl) rfl t2 c8 e9 (fun v9 z9 => ?_)
  obtain ⟨V10, e10, c10, h⟩ := ckJ_so h
  refine k_grF 39 hR (hR.obF (by decide) rfl) rfl ?_
  refine k_some ?_
  obtain ⟨c11, h⟩ := chk_so h
  obtain ⟨V12, e12, h⟩ := lt_so h
  refine k_al hR (hR.lnF (by decide) rfl) rfl t2 c11 e12 (fun v12 z12 => ?_)
  obtain ⟨V13, e13, c13, h⟩ := ckJ_so h
  obtain ⟨c14, h⟩ := chk_so h
  obtain ⟨c15, h⟩ := chk_so h
  refine k_gr hR (hR.ob c14) c15.symm ?_
  refine k_some ?_
  obtain ⟨hn16, h⟩ := chk_so h
  obtain ⟨n16, en16, hn16⟩ := hR.ln hn16
  obtain ⟨c17, h⟩ := chk_so h
  obtain ⟨V18, e18, h⟩ := lt_so h
  refine k_ai hR hn16 en16.symm tI_0 c17 e18 (fun v18 z18 => ?_)
  refine k_ite (c_lt z18 tI_0) h (fun c19 h => ?_) (fun c19 h => ?_)
  · exact k_retV hR h
  · refine k_ite (cJ_le (tJ_sub (tJ_sub z7 z9 c10 e10) z12 c13 e13) tJ_0) h (fun c20 h => ?_) (fun c20 h => ?_)
    · exact k_retV hR h
    · refine k_grF 38 hR (hR.obF (by decide) rfl) rfl ?_
      refine k_some ?_
      obtain ⟨c21, h⟩ := chk_so h
      obtain ⟨S22, e22, h⟩ := lt_so h
      refine k_sl hR (hR.lnF (by decide) rfl) rfl t2 c21 (tJ_sub (tJ_sub z7 z9 c10 e10) z12 c13 e13) e22 (fun M22 R22 => ?_)
      exact k_retV R22 h
/-- PupilCoin$Sums.press(LPupilCoin$Law;IJ)V -/
def g70 (x1 : Nat) (X2 : Int) (X3 : Int) (S : gM) : Option (gM) :=
  w_chk (gob S x1 1 = true) <|
  w_chk (gr S x1 5 = some (x1 + 1)) <|
  w_chk ((0 : Int) ≤ gln S (x1 + 1) 0) <|
  w_chk ((0 : Int) ≤ 1 ∧ 1 < (gln S (x1 + 1) 0)) <|
  w_lt (gi S (x1 + 1) 1) fun V5 =>
  w_ckJ (X3 * V5) fun V6 =>
  w_ckJ (V6.tdiv 100) fun V7 =>
  w_chk ((0 : Int) ≤ X2 ∧ X2 < 12) <|
  w_lt (gl S 35 X2) fun V9 =>
  w_ckJ (V7 - V9) fun V10 =>
  w_chk ((0 : Int) ≤ X2 ∧ X2 < 12) <|
  w_lt (gl S 36 X2) fun V12 =>
  w_ckJ (V10 - V12) fun V13 =>
  w_chk (gob S x1 1 = true) <|
  w_chk (gr S x1 5 = some (x1 + 1)) <|
  w_chk ((0 : Int) ≤ gln S (x1 + 1) 0) <|
  w_chk ((0 : Int) ≤ 1 ∧ 1 < (gln S (x1 + 1) 0)) <|
  w_lt (gi S (x1 + 1) 1) fun V18 =>
  if V18 < 0 then
    some S
  else
    if 0 ≤ V13 then
      some S
    else
      w_chk ((0 : Int) ≤ X2 ∧ X2 < 12) <|
      w_lt (wl S 37 X2 V13) fun S22 =>
      some S22
theorem g70_ok {x1 : Nat} {x2 : Int32} {X2 : Int} {x3 : Int64} {X3 : Int} {S : gM} {M : vm_M} {r : gM} (hR : Rel S M) (t2 : x2.toInt = X2) (t3 : x3.toInt = X3) (h : g70 x1 X2 X3 S = some r) : Mp gRV (f70 30 x1 x2 x3 M) r := by
  unfold g70 at h
  unfold f70
  obtain ⟨c1, h⟩ := chk_so h
  obtain ⟨c2, h⟩ := chk_so h
  refine k_gr hR (hR.ob c1) c2.symm ?_
  refine k_some ?_
  obtain ⟨hn3, h⟩ := chk_so h
  obtain ⟨n3, en3, hn3⟩ := hR.ln hn3
  obtain ⟨c4, h⟩ := chk_so h
  obtain ⟨V5, e5, h⟩ := lt_so h
  refine k_ai hR hn3 en3.symm tI_1 c4 e5 (fun v5 z5 => ?_)
  obtain ⟨V6, e6, c6, h⟩ := ckJ_so h
  obtain ⟨V7, e7, c7, h⟩ := ckJ_so h
  refine k_dvJ (tJ_mul t3 (t_itol z5) c6 e6) tJ_100 (by decide) c7 e7 (fun v7 z7 => ?_)
  refine k_grF 37 hR (hR.obF (by decide) rfl) rfl ?_
  refine k_some ?_
  obtain ⟨c8, h⟩ := chk_so h
  obtain ⟨V9, e9, h⟩ := lt_so h
  refine k_al hR (hR.lnF (by decide) rfl) rfl t2 c8 e9 (fun v9 z9 => ?_)
  obtain ⟨V10, e10, c10, h⟩ := ckJ_so h
  refine k_grF 38 hR (hR.obF (by decide) rfl) rfl ?_
  refine k_some ?_
  obtain ⟨c11, h⟩ := chk_so h
  obtain ⟨V12, e12, h⟩ := lt_so h
  refine k_al hR (hR.lnF (by decide) rfl) rfl t2 c11 e12 (fun v12 z12 => ?_)
  obtain ⟨V13, e13, c13, h⟩ := ckJ_so h
  obtain ⟨c14, h⟩ := chk_so h
  obtain ⟨c15, h⟩ := chk_so h
  refine k_gr hR (hR.ob c14) c15.symm ?_
  refine k_some ?_
  obtain ⟨hn16, h⟩ := chk_so h
  obtain ⟨n16, en16, hn16⟩ := hR.ln hn16
  obtain ⟨c17, h⟩ := chk_so h
  obtain ⟨V18, e18, h⟩ := lt_so h
  refine k_ai hR hn16 en16.symm tI_1 c17 e18 (fun v18 z18 => ?_)
  refine k_ite (c_lt z18 tI_0) h (fun c19 h => ?_) (fun c19 h => ?_)
  · exact k_retV hR h
  · refine k_ite (cJ_ge (tJ_sub (tJ_sub z7 z9 c10 e10) z12 c13 e13) tJ_0) h (fun c20 h => ?_) (fun c20 h => ?_)
    · exact k_retV hR h
    · refine k_grF 39 hR (hR.obF (by decide) rfl) rfl ?_
      refine k_some ?_
      obtain ⟨c21, h⟩ := chk_so h
      obtain ⟨S22, e22, h⟩ := lt_so h
      refine k_sl hR (hR.lnF (by decide) rfl) rfl t2 c21 (tJ_sub (tJ_sub z7 z9 c10 e10) z12 c13 e13) e22 (fun M22 R22 => ?_)
      exact k_retV R22 h
/-- PupilCoin$Sums.bound(LPupilCoin$Law;I)V -/
def g68 (x1 : Nat) (X2 : Int) (S : gM) : Option (gM) :=
  w_chk ((0 : Int) ≤ X2 ∧ X2 < 12) <|
  w_lt (gl S 40 X2) fun V2 =>
  if V2 = 0 then
    some S
  else
    w_lt (gl S 30 16) fun V4 =>
    if ¬ V4 = 0 then
      w_chk ((0 : Int) ≤ X2 ∧ X2 < 12) <|
      w_lt (gl S 40 X2) fun V7 =>
      w_lt (gl S 32 3) fun V8 =>
      w_ckJ (V7 * V8) fun V9 =>
      w_lt (gl S 30 16) fun V10 =>
      w_chk (¬ V10 = 0) <|
      w_ckJ (V9.tdiv V10) fun V11 =>
      w_lt (min 10000000000 V11) fun V13 =>
      w_lt (max (-10000000000) V13) fun V14 =>
      w_chk (gob S x1 1 = true) <|
      w_chk (gr S x1 5 = some (x1 + 1)) <|
      w_chk ((0 : Int) ≤ gln S (x1 + 1) 0) <|
      w_chk ((0 : Int) ≤ 4 ∧ 4 < (gln S (x1 + 1) 0)) <|
      w_lt (gi S (x1 + 1) 4) fun V19 =>
      if ¬ V19 = 0 then
        (g70 x1 X2 V14 S).bind fun p21 =>
        (g69 x1 X2 V14 p21).bind fun p22 =>
        some p22
      else
        (g69 x1 X2 V14 S).bind fun p23 =>
        (g70 x1 X2 V14 p23).bind fun p24 =>
        some p24
    else
      some S
theorem g68_ok {x1 : Nat} {x2 : Int32} {X2 : Int} {S : gM} {M : vm_M} {r : gM} (hR : Rel S M) (t2 : x2.toInt = X2) (h : g68 x1 X2 S = some r) : Mp gRV (f68 30 x1 x2 M) r := by
  unfold g68 at h
  unfold f68
  refine k_grF 42 hR (hR.obF (by decide) rfl) rfl ?_
  refine k_some ?_
  obtain ⟨c1, h⟩ := chk_so h
  obtain ⟨V2, e2, h⟩ := lt_so h
  refine k_al hR (hR.lnF (by decide) rfl) rfl t2 c1 e2 (fun v2 z2 => ?_)
  refine k_ite (cJ_eq z2 tJ_0) h (fun c3 h => ?_) (fun c3 h => ?_)
  · exact k_retV hR h
  · obtain ⟨V4, e4, h⟩ := lt_so h
    refine k_gl hR (hR.obF (by decide) rfl) rfl e4 (fun v4 z4 => ?_)
    refine k_ite (cJ_ne z4 tJ_0) h (fun c5 h => ?_) (fun c5 h => ?_)
    · refine k_grF 42 hR (hR.obF (by decide) rfl) rfl ?_
      refine k_some ?_
      obtain ⟨c6, h⟩ := chk_so h
      obtain ⟨V7, e7, h⟩ := lt_so h
      refine k_al hR (hR.lnF (by decide) rfl) rfl t2 c6 e7 (fun v7 z7 => ?_)
      refine k_grF 35 hR (hR.obF (by decide) rfl) rfl ?_
      refine k_some ?_
      refine k_grF 47 hR (hR.obF (by decide) rfl) rfl ?_
      refine k_some ?_
      obtain ⟨V8, e8, h⟩ := lt_so h
      refine k_al hR (hR.lnF (by decide) rfl) rfl tI_3 (by decide) e8 (fun v8 z8 => ?_)
      obtain ⟨V9, e9, c9, h⟩ := ckJ_so h
      obtain ⟨V10, e10, h⟩ := lt_so h
      refine k_gl hR (hR.obF (by decide) rfl) rfl e10 (fun v10 z10 => ?_)
      obtain ⟨c12, h⟩ := chk_so h
      obtain ⟨V11, e11, c11, h⟩ := ckJ_so h
      refine k_dvJ (tJ_mul z7 z8 c9 e9) z10 c12 c11 e11 (fun v11 z11 => ?_)
      obtain ⟨V13, e13, h⟩ := lt_so h
      obtain ⟨V14, e14, h⟩ := lt_so h
      obtain ⟨c15, h⟩ := chk_so h
      obtain ⟨c16, h⟩ := chk_so h
      refine k_gr hR (hR.ob c15) c16.symm ?_
      refine k_some ?_
      obtain ⟨hn17, h⟩ := chk_so h
      obtain ⟨n17, en17, hn17⟩ := hR.ln hn17
      obtain ⟨c18, h⟩ := chk_so h
      obtain ⟨V19, e19, h⟩ := lt_so h
      refine k_ai hR hn17 en17.symm tI_4 c18 e19 (fun v19 z19 => ?_)
      refine k_ite (c_ne z19 tI_0) h (fun c20 h => ?_) (fun c20 h => ?_)
      · refine k_ob (hR.obF (by decide) rfl) ?_
        obtain ⟨p21, e21, h⟩ := bind_so h
        refine k_call (g70_ok hR t2 (t_mxJ tJ_m10000000000 (t_mnJ tJ_10000000000 z11 e13) e14) e21) (fun M21 R21 => ?_)
        refine k_ob (R21.obF (by decide) rfl) ?_
        obtain ⟨p22, e22, h⟩ := bind_so h
        refine k_call (g69_ok R21 t2 (t_mxJ tJ_m10000000000 (t_mnJ tJ_10000000000 z11 e13) e14) e22) (fun M22 R22 => ?_)
        exact k_retV R22 h
      · refine k_ob (hR.obF (by decide) rfl) ?_
        obtain ⟨p23, e23, h⟩ := bind_so h
        refine k_call (g69_ok hR t2 (t_mxJ tJ_m10000000000 (t_mnJ tJ_10000000000 z11 e13) e14) e23) (fun M23 R23 => ?_)
        refine k_ob (R23.obF (by decide) rfl) ?_
        obtain ⟨p24, e24, h⟩ := bind_so h
        refine k_call (g70_ok R23 t2 (t_mxJ tJ_m10000000000 (t_mnJ tJ_10000000000 z11 e13) e14) e24) (fun M24 R24 => ?_)
        exact k_retV R24 h
    · exact k_retV hR h
def g71_l8 (K59 : Int → Int → gM → Option (gM)) : Nat → Int → Int → Int → gM → Option (gM)
  | 0 => fun _ _ _ _ => none
  | n + 1 => fun X3 X5 X7 S =>
    if 12 ≤ X7 then
      K59 X3 X5 S
    else
      w_chk ((0 : Int) ≤ X7 ∧ X7 < 12) <|
      w_lt (gl S 35 X7) fun V3 =>
      w_chk ((0 : Int) ≤ X7 ∧ X7 < 12) <|
      w_lt (gl S 36 X7) fun V5 =>
      w_ckJ (V3 + V5) fun V6 =>
      w_chk ((0 : Int) ≤ X7 ∧ X7 < 12) <|
      w_lt (gl S 37 X7) fun V8 =>
      w_ckJ (V6 + V8) fun V9 =>
      w_ckJ (X3 - V9) fun V10 =>
      w_chk ((0 : Int) ≤ X7 ∧ X7 < 12) <|
      w_lt (gl S 39 X7) fun V12 =>
      w_ckJ (X5 + V12) fun V13 =>
      w_ckI (X7 + 1) fun V14 =>
      g71_l8 K59 n V10 V13 V14 S
theorem g71_l8_ok {k59 : Int64 → Int64 → vm_M → Option (vm_M)} {K59 : Int → Int → gM → Option (gM)} {r : gM} (hk59 : ∀ (y3 : Int64) (Y3 : Int) (y5 : Int64) (Y5 : Int) (S : gM) (M : vm_M), Rel S M → y3.toInt = Y3 → y5.toInt = Y5 → K59 Y3 Y5 S = some r → Mp gRV (k59 y3 y5 M) r) : ∀ (n : Nat) (x3 : Int64) (X3 : Int) (x5 : Int64) (X5 : Int) (x7 : Int32) (X7 : Int) (S : gM) (M : vm_M), Rel S M → x3.toInt = X3 → x5.toInt = X5 → x7.toInt = X7 → g71_l8 K59 n X3 X5 X7 S = some r → Mp gRV (f71_l8 30 k59 n x3 x5 x7 M) r := by
  intro n
  induction n with
  | zero =>
    intro x3 X3 x5 X5 x7 X7 S M hR t3 t5 t7 h
    cases h
  | succ n ih =>
    intro x3 X3 x5 X5 x7 X7 S M hR t3 t5 t7 h
    dsimp only [g71_l8] at h
    dsimp only [f71_l8]
    refine k_ite (c_le tI_12 t7) h (fun c1 h => ?_) (fun c1 h => ?_)
    · exact hk59 _ _ _ _ _ _ hR t3 t5 h
    · refine k_grF 37 hR (hR.obF (by decide) rfl) rfl ?_
      refine k_some ?_
      obtain ⟨c2, h⟩ := chk_so h
      obtain ⟨V3, e3, h⟩ := lt_so h
      refine k_al hR (hR.lnF (by decide) rfl) rfl t7 c2 e3 (fun v3 z3 => ?_)
      refine k_grF 38 hR (hR.obF (by decide) rfl) rfl ?_
      refine k_some ?_
      obtain ⟨c4, h⟩ := chk_so h
      obtain ⟨V5, e5, h⟩ := lt_so h
      refine k_al hR (hR.lnF (by decide) rfl) rfl t7 c4 e5 (fun v5 z5 => ?_)
      obtain ⟨V6, e6, c6, h⟩ := ckJ_so h
      refine k_grF 39 hR (hR.obF (by decide) rfl) rfl ?_
      refine k_some ?_
      obtain ⟨c7, h⟩ := chk_so h
      obtain ⟨V8, e8, h⟩ := lt_so h
      refine k_al hR (hR.lnF (by decide) rfl) rfl t7 c7 e8 (fun v8 z8 => ?_)
      obtain ⟨V9, e9, c9, h⟩ := ckJ_so h
      obtain ⟨V10, e10, c10, h⟩ := ckJ_so h
      refine k_grF 41 hR (hR.obF (by decide) rfl) rfl ?_
      refine k_some ?_
      obtain ⟨c11, h⟩ := chk_so h
      obtain ⟨V12, e12, h⟩ := lt_so h
      refine k_al hR (hR.lnF (by decide) rfl) rfl t7 c11 e12 (fun v12 z12 => ?_)
      obtain ⟨V13, e13, c13, h⟩ := ckJ_so h
      obtain ⟨V14, e14, c14, h⟩ := ckI_so h
      exact ih _ _ _ _ _ _ _ _ hR (tJ_sub t3 (tJ_add (tJ_add z3 z5 c6 e6) z8 c9 e9) c10 e10) (tJ_add t5 z12 c13 e13) (t_add t7 tI_1 c14 e14) h
def g71_l73 (X3 : Int) (X5 : Int) (K133 : Int → gM → Option (gM)) : Nat → Int → Int → gM → Option (gM)
  | 0 => fun _ _ _ => none
  | n + 1 => fun X7 X9 S =>
    if 12 ≤ X9 then
      K133 X7 S
    else
      w_chk (¬ X5 = 0) <|
      w_ckJ (X3.tdiv X5) fun V20 =>
      w_chk ((0 : Int) ≤ X9 ∧ X9 < 12) <|
      w_lt (gl S 39 X9) fun V23 =>
      w_ckJ (V20 * V23) fun V24 =>
      w_chk (¬ X5 = 0) <|
      w_ckJ (X3.tdiv X5) fun _ =>
      w_lt (X3.tmod X5) fun V25 =>
      w_chk ((0 : Int) ≤ X9 ∧ X9 < 12) <|
      w_lt (gl S 39 X9) fun V28 =>
      w_ckJ (V25 * V28) fun V29 =>
      w_chk (¬ X5 = 0) <|
      w_ckJ (V29.tdiv X5) fun V30 =>
      w_ckJ (V24 + V30) fun V32 =>
      w_chk ((0 : Int) ≤ X9 ∧ X9 < 12) <|
      w_lt (wl S 38 X9 V32) fun S34 =>
      w_chk ((0 : Int) ≤ X9 ∧ X9 < 12) <|
      w_lt (gl S34 38 X9) fun V36 =>
      w_ckJ (X7 - V36) fun V37 =>
      w_ckI (X9 + 1) fun V38 =>
      g71_l73 X3 X5 K133 n V37 V38 S34
theorem g71_l73_ok {x3 : Int64} {X3 : Int} {x5 : Int64} {X5 : Int} {k133 : Int64 → vm_M → Option (vm_M)} {K133 : Int → gM → Option (gM)} {r : gM} (hk133 : ∀ (y7 : Int64) (Y7 : Int) (S : gM) (M : vm_M), Rel S M → y7.toInt = Y7 → K133 Y7 S = some r → Mp gRV (k133 y7 M) r) (t3 : x3.toInt = X3) (t5 : x5.toInt = X5) : ∀ (n : Nat) (x7 : Int64) (X7 : Int) (x9 : Int32) (X9 : Int) (S : gM) (M : vm_M), Rel S M → x7.toInt = X7 → x9.toInt = X9 → g71_l73 X3 X5 K133 n X7 X9 S = some r → Mp gRV (f71_l73 30 x3 x5 k133 n x7 x9 M) r := by
  intro n
  induction n with
  | zero =>
    intro x7 X7 x9 X9 S M hR t7 t9 h
    cases h
  | succ n ih =>
    intro x7 X7 x9 X9 S M hR t7 t9 h
    dsimp only [g71_l73] at h
    dsimp only [f71_l73]
    refine k_ite (c_le tI_12 t9) h (fun c19 h => ?_) (fun c19 h => ?_)
    · exact hk133 _ _ _ _ hR t7 h
    · refine k_grF 40 hR (hR.obF (by decide) rfl) rfl ?_
      obtain ⟨c21, h⟩ := chk_so h
      obtain ⟨V20, e20, c20, h⟩ := ckJ_so h
      refine k_dvJ t3 t5 c21 c20 e20 (fun v20 z20 => ?_)
      refine k_grF 41 hR (hR.obF (by decide) rfl) rfl ?_
      refine k_some ?_
      obtain ⟨c22, h⟩ := chk_so h
      obtain ⟨V23, e23, h⟩ := lt_so h
      refine k_al hR (hR.lnF (by decide) rfl) rfl t9 c22 e23 (fun v23 z23 => ?_)
      obtain ⟨V24, e24, c24, h⟩ := ckJ_so h
      obtain ⟨c26, h⟩ := chk_so h
      obtain ⟨_, _, c25, h⟩ := ckJ_so h
      obtain ⟨V25, e25, h⟩ := lt_so h
      refine k_rmJ t3 t5 c26 c25 e25 (fun v25 z25 => ?_)
      refine k_grF 41 hR (hR.obF (by decide) rfl) rfl ?_
      refine k_some ?_
      obtain ⟨c27, h⟩ := chk_so h
      obtain ⟨V28, e28, h⟩ := lt_so h
      refine k_al hR (hR.lnF (by decide) rfl) rfl t9 c27 e28 (fun v28 z28 => ?_)
      obtain ⟨V29, e29, c29, h⟩ := ckJ_so h
      obtain ⟨c31, h⟩ := chk_so h
      obtain ⟨V30, e30, c30, h⟩ := ckJ_so h
      refine k_dvJ (tJ_mul z25 z28 c29 e29) t5 c31 c30 e30 (fun v30 z30 => ?_)
      obtain ⟨V32, e32, c32, h⟩ := ckJ_so h
      refine k_some ?_
      obtain ⟨c33, h⟩ := chk_so h
      obtain ⟨S34, e34, h⟩ := lt_so h
      refine k_sl hR (hR.lnF (by decide) rfl) rfl t9 c33 (tJ_add (tJ_mul z20 z23 c24 e24) z30 c32 e32) e34 (fun M34 R34 => ?_)
      refine k_grF 40 R34 (R34.obF (by decide) rfl) rfl ?_
      refine k_some ?_
      obtain ⟨c35, h⟩ := chk_so h
      obtain ⟨V36, e36, h⟩ := lt_so h
      refine k_al R34 (R34.lnF (by decide) rfl) rfl t9 c35 e36 (fun v36 z36 => ?_)
      obtain ⟨V37, e37, c37, h⟩ := ckJ_so h
      obtain ⟨V38, e38, c38, h⟩ := ckI_so h
      exact ih _ _ _ _ _ _ R34 (tJ_sub t7 z36 c37 e37) (t_add t9 tI_1 c38 e38) h
def g71_l152 (X9 : Int) : Nat → Int → Int → gM → Option (gM)
  | 0 => fun _ _ _ => none
  | n + 1 => fun X7 X11 S =>
    if 144 ≤ X11 then
      some S
    else
      if X7 = 0 then
        some S
      else
        w_ckI (X11.tdiv 12) fun _ =>
        w_lt (X11.tmod 12) fun V44 =>
        w_chk ((0 : Int) ≤ V44 ∧ V44 < 12) <|
        w_lt (gl S 39 V44) fun V46 =>
        if 0 < V46 then
          w_chk ((0 : Int) ≤ V44 ∧ V44 < 12) <|
          w_lt (gl S 38 V44) fun V49 =>
          w_ckJ (V49 + X9) fun V50 =>
          w_chk ((0 : Int) ≤ V44 ∧ V44 < 12) <|
          w_lt (wl S 38 V44 V50) fun S52 =>
          w_ckJ (X7 - X9) fun V53 =>
          w_ckI (X11 + 1) fun V54 =>
          g71_l152 X9 n V53 V54 S52
        else
          w_ckI (X11 + 1) fun V55 =>
          g71_l152 X9 n X7 V55 S
theorem g71_l152_ok {x9 : Int64} {X9 : Int} {r : gM} (t9 : x9.toInt = X9) : ∀ (n : Nat) (x7 : Int64) (X7 : Int) (x11 : Int32) (X11 : Int) (S : gM) (M : vm_M), Rel S M → x7.toInt = X7 → x11.toInt = X11 → g71_l152 X9 n X7 X11 S = some r → Mp gRV (f71_l152 30 x9 n x7 x11 M) r := by
  intro n
  induction n with
  | zero =>
    intro x7 X7 x11 X11 S M hR t7 t11 h
    cases h
  | succ n ih =>
    intro x7 X7 x11 X11 S M hR t7 t11 h
    dsimp only [g71_l152] at h
    dsimp only [f71_l152]
    refine k_ite (c_le tI_144 t11) h (fun c42 h => ?_) (fun c42 h => ?_)
    · exact k_retV hR h
    · refine k_ite (cJ_eq t7 tJ_0) h (fun c43 h => ?_) (fun c43 h => ?_)
      · exact k_retV hR h
      · obtain ⟨_, _, c44, h⟩ := ckI_so h
        obtain ⟨V44, e44, h⟩ := lt_so h
        refine k_rmI t11 tI_12 (by decide) c44 e44 (fun v44 z44 => ?_)
        refine k_grF 41 hR (hR.obF (by decide) rfl) rfl ?_
        refine k_some ?_
        obtain ⟨c45, h⟩ := chk_so h
        obtain ⟨V46, e46, h⟩ := lt_so h
        refine k_al hR (hR.lnF (by decide) rfl) rfl z44 c45 e46 (fun v46 z46 => ?_)
        refine k_ite (cJ_gt z46 tJ_0) h (fun c47 h => ?_) (fun c47 h => ?_)
        · refine k_grF 40 hR (hR.obF (by decide) rfl) rfl ?_
          refine k_some ?_
          obtain ⟨c48, h⟩ := chk_so h
          obtain ⟨V49, e49, h⟩ := lt_so h
          refine k_al hR (hR.lnF (by decide) rfl) rfl z44 c48 e49 (fun v49 z49 => ?_)
          obtain ⟨V50, e50, c50, h⟩ := ckJ_so h
          obtain ⟨c51, h⟩ := chk_so h
          obtain ⟨S52, e52, h⟩ := lt_so h
          refine k_sl hR (hR.lnF (by decide) rfl) rfl z44 c51 (tJ_add z49 t9 c50 e50) e52 (fun M52 R52 => ?_)
          obtain ⟨V53, e53, c53, h⟩ := ckJ_so h
          obtain ⟨V54, e54, c54, h⟩ := ckI_so h
          exact ih _ _ _ _ _ _ R52 (tJ_sub t7 t9 c53 e53) (t_add t11 tI_1 c54 e54) h
        · obtain ⟨V55, e55, c55, h⟩ := ckI_so h
          exact ih _ _ _ _ _ _ hR t7 (t_add t11 tI_1 c55 e55) h
/-- PupilCoin$Sums.partOut(J)V -/
def g71 (X1 : Int) (S : gM) : Option (gM) :=
  g71_l8
    (fun Y15 Y16 S17 =>
      if 0 < Y16 then
        g71_l73 Y15 Y16
          (fun Y39 S40 =>
            if Y39 ≤ 0 then
              g71_l152 (-1)
              
                100000 Y39 0 S40
            else
              g71_l152 1
              
                100000 Y39 0 S40)
          100000 Y15 0 S17
      else
        some S17)
    100000 X1 0 0 S
theorem g71_ok {x1 : Int64} {X1 : Int} {S : gM} {M : vm_M} {r : gM} (hR : Rel S M) (t1 : x1.toInt = X1) (h : g71 X1 S = some r) : Mp gRV (f71 30 x1 M) r := by
  unfold g71 at h
  unfold f71
  refine g71_l8_ok ?_ 100000 _ _ _ _ _ _ _ _ hR t1 tJ_0 tI_0 h
  · intro y15 Y15 y16 Y16 S17 M17 R17 u15 u16
    intro h
    refine k_ite (cJ_gt u16 tJ_0) h (fun c18 h => ?_) (fun c18 h => ?_)
    · refine g71_l73_ok ?_ u15 u16 100000 _ _ _ _ _ _ R17 u15 tI_0 h
      · intro y39 Y39 S40 M40 R40 u39
        intro h
        refine k_ite (cJ_le u39 tJ_0) h (fun c41 h => ?_) (fun c41 h => ?_)
        · refine g71_l152_ok tJ_m1 100000 _ _ _ _ _ _ R40 u39 tI_0 h
        · refine g71_l152_ok tJ_1 100000 _ _ _ _ _ _ R40 u39 tI_0 h
    · exact k_retV R17 h
def g199_l6 (x0 : Nat) (X1 : Int) (X4 : Int) : Nat → Int → gM → Option (gM)
  | 0 => fun _ _ => none
  | n + 1 => fun X3 S =>
    if X4 ≤ X3 then
      some S
    else
      w_chk ((0 : Int) ≤ gln S x0 1) <|
      w_chk ((0 : Int) ≤ X3 ∧ X3 < (gln S x0 1)) <|
      w_lt (wl S x0 X3 X1) fun S7 =>
      w_ckI (X3 + 1) fun V8 =>
      g199_l6 x0 X1 X4 n V8 S7
theorem g199_l6_ok {x0 : Nat} {x1 : Int64} {X1 : Int} {x4 : Int32} {X4 : Int} {r : gM} (t1 : x1.toInt = X1) (t4 : x4.toInt = X4) : ∀ (n : Nat) (x3 : Int32) (X3 : Int) (S : gM) (M : vm_M), Rel S M → x3.toInt = X3 → g199_l6 x0 X1 X4 n X3 S = some r → Mp gRV (f199_l6 x0 x1 x4 n x3 M) r := by
  intro n
  induction n with
  | zero =>
    intro x3 X3 S M hR t3 h
    cases h
  | succ n ih =>
    intro x3 X3 S M hR t3 h
    dsimp only [g199_l6] at h
    dsimp only [f199_l6]
    refine k_ite (c_le t4 t3) h (fun c4 h => ?_) (fun c4 h => ?_)
    · exact k_retV hR h
    · obtain ⟨hn5, h⟩ := chk_so h
      obtain ⟨n5, en5, hn5⟩ := hR.ln hn5
      obtain ⟨c6, h⟩ := chk_so h
      obtain ⟨S7, e7, h⟩ := lt_so h
      refine k_sl hR hn5 en5.symm t3 c6 t1 e7 (fun M7 R7 => ?_)
      obtain ⟨V8, e8, c8, h⟩ := ckI_so h
      exact ih _ _ _ _ R7 (t_add t3 tI_1 c8 e8) h
/-- java/util/Arrays.fill([JJ)V -/
def g199 (x0 : Nat) (X1 : Int) (S : gM) : Option (gM) :=
  w_chk ((0 : Int) ≤ gln S x0 1) <|
  w_chk ((gln S x0 1) ≤ 2147483647) <|
  g199_l6 x0 X1 (gln S x0 1)
  
    100000 0 S
theorem g199_ok {x0 : Nat} {x1 : Int64} {X1 : Int} {S : gM} {M : vm_M} {r : gM} (hR : Rel S M) (t1 : x1.toInt = X1) (h : g199 x0 X1 S = some r) : Mp gRV (f199 x0 x1 M) r := by
  unfold g199 at h
  unfold f199
  obtain ⟨hn1, h⟩ := chk_so h
  obtain ⟨n1, en1, hn1⟩ := hR.ln hn1
  obtain ⟨c3, h⟩ := chk_so h
  refine k_len hn1 en1.symm c3 (fun v2 z2 => ?_)
  refine g199_l6_ok t1 z2 100000 _ _ _ _ hR tI_0 h
def g63_l59 (x1 : Nat) (X2 : Int) (X3 : Int) (K94 : gM → Option (gM)) : Nat → Int → gM → Option (gM)
  | 0 => fun _ _ => none
  | n + 1 => fun X4 S =>
    w_lt (gi S 1 7) fun V8 =>
    if V8 ≤ X4 then
      K94 S
    else
      (g5 X4 X2 S).bind fun p10 =>
      w_chk ((0 : Int) ≤ X4 ∧ X4 < 12) <|
      w_lt (wi p10.2 43 X4 p10.1) fun S12 =>
      w_ckI (X4 + 1) fun V13 =>
      g63_l59 x1 X2 X3 K94 n V13 S12
theorem g63_l59_ok {x1 : Nat} {x2 : Int32} {X2 : Int} {x3 : Int32} {X3 : Int} {k94 : vm_M → Option (vm_M)} {K94 : gM → Option (gM)} {r : gM} (hk94 : ∀ (S : gM) (M : vm_M), Rel S M → K94 S = some r → Mp gRV (k94 M) r) (t2 : x2.toInt = X2) (t3 : x3.toInt = X3) : ∀ (n : Nat) (x4 : Int32) (X4 : Int) (S : gM) (M : vm_M), Rel S M → x4.toInt = X4 → g63_l59 x1 X2 X3 K94 n X4 S = some r → Mp gRV (f63_l59 30 x1 x2 x3 k94 n x4 M) r := by
  intro n
  induction n with
  | zero =>
    intro x4 X4 S M hR t4 h
    cases h
  | succ n ih =>
    intro x4 X4 S M hR t4 h
    dsimp only [g63_l59] at h
    dsimp only [f63_l59]
    refine k_grF 32 hR (hR.obF (by decide) rfl) rfl ?_
    refine k_some ?_
    obtain ⟨V8, e8, h⟩ := lt_so h
    refine k_gi hR (hR.obF (by decide) rfl) rfl e8 (fun v8 z8 => ?_)
    refine k_ite (c_le z8 t4) h (fun c9 h => ?_) (fun c9 h => ?_)
    · exact hk94 _ _ hR h
    · refine k_grF 45 hR (hR.obF (by decide) rfl) rfl ?_
      refine k_grF 32 hR (hR.obF (by decide) rfl) rfl ?_
      refine k_some ?_
      refine k_ob (hR.obF (by decide) rfl) ?_
      obtain ⟨p10, e10, h⟩ := bind_so h
      refine k_call (g5_ok hR t4 t2 e10) (fun b10 R10 => ?_)
      refine k_some ?_
      obtain ⟨c11, h⟩ := chk_so h
      obtain ⟨S12, e12, h⟩ := lt_so h
      refine k_si R10.2 (R10.2.lnF (by decide) rfl) rfl t4 c11 R10.1 e12 (fun M12 R12 => ?_)
      obtain ⟨V13, e13, c13, h⟩ := ckI_so h
      exact ih _ _ _ _ R12 (t_add t4 tI_1 c13 e13) h
def g63_l97 (x1 : Nat) (X2 : Int) (X3 : Int) (K153 : gM → Option (gM)) : Nat → Int → gM → Option (gM)
  | 0 => fun _ _ => none
  | n + 1 => fun X4 S =>
    w_lt (gi S 1 7) fun V15 =>
    if V15 ≤ X4 then
      K153 S
    else
      (g2 X4 X2 S).bind fun p17 =>
      if ¬ p17.1 = 0 then
        (g64 X4 X2 X3 p17.2).bind fun p19 =>
        (g67 x1 X4 p19).bind fun p20 =>
        (g68 x1 X4 p20).bind fun p21 =>
        w_ckI (X4 + 1) fun V22 =>
        g63_l97 x1 X2 X3 K153 n V22 p21
      else
        w_ckI (X4 + 1) fun V23 =>
        g63_l97 x1 X2 X3 K153 n V23 p17.2
theorem g63_l97_ok {x1 : Nat} {x2 : Int32} {X2 : Int} {x3 : Int32} {X3 : Int} {k153 : vm_M → Option (vm_M)} {K153 : gM → Option (gM)} {r : gM} (hk153 : ∀ (S : gM) (M : vm_M), Rel S M → K153 S = some r → Mp gRV (k153 M) r) (t2 : x2.toInt = X2) (t3 : x3.toInt = X3) : ∀ (n : Nat) (x4 : Int32) (X4 : Int) (S : gM) (M : vm_M), Rel S M → x4.toInt = X4 → g63_l97 x1 X2 X3 K153 n X4 S = some r → Mp gRV (f63_l97 30 x1 x2 x3 k153 n x4 M) r := by
  intro n
  induction n with
  | zero =>
    intro x4 X4 S M hR t4 h
    cases h
  | succ n ih =>
    intro x4 X4 S M hR t4 h
    dsimp only [g63_l97] at h
    dsimp only [f63_l97]
    refine k_grF 32 hR (hR.obF (by decide) rfl) rfl ?_
    refine k_some ?_
    obtain ⟨V15, e15, h⟩ := lt_so h
    refine k_gi hR (hR.obF (by decide) rfl) rfl e15 (fun v15 z15 => ?_)
    refine k_ite (c_le z15 t4) h (fun c16 h => ?_) (fun c16 h => ?_)
    · exact hk153 _ _ hR h
    · refine k_grF 32 hR (hR.obF (by decide) rfl) rfl ?_
      refine k_some ?_
      refine k_ob (hR.obF (by decide) rfl) ?_
      obtain ⟨p17, e17, h⟩ := bind_so h
      refine k_call (g2_ok hR t4 t2 e17) (fun b17 R17 => ?_)
      refine k_ite (c_ne R17.1 tI_0) h (fun c18 h => ?_) (fun c18 h => ?_)
      · refine k_ob (R17.2.obF (by decide) rfl) ?_
        obtain ⟨p19, e19, h⟩ := bind_so h
        refine k_call (g64_ok R17.2 t4 t2 t3 e19) (fun M19 R19 => ?_)
        refine k_ob (R19.obF (by decide) rfl) ?_
        obtain ⟨p20, e20, h⟩ := bind_so h
        refine k_call (g67_ok R19 t4 e20) (fun M20 R20 => ?_)
        refine k_ob (R20.obF (by decide) rfl) ?_
        obtain ⟨p21, e21, h⟩ := bind_so h
        refine k_call (g68_ok R20 t4 e21) (fun M21 R21 => ?_)
        obtain ⟨V22, e22, c22, h⟩ := ckI_so h
        exact ih _ _ _ _ R21 (t_add t4 tI_1 c22 e22) h
      · obtain ⟨V23, e23, c23, h⟩ := ckI_so h
        exact ih _ _ _ _ R17.2 (t_add t4 tI_1 c23 e23) h
def g63_l176 : Nat → Int → gM → Option (gM)
  | 0 => fun _ _ => none
  | n + 1 => fun X4 S =>
    if 12 ≤ X4 then
      some S
    else
      w_chk ((0 : Int) ≤ X4 ∧ X4 < 12) <|
      w_lt (gl S 35 X4) fun V33 =>
      w_chk ((0 : Int) ≤ X4 ∧ X4 < 12) <|
      w_lt (gl S 36 X4) fun V35 =>
      w_ckJ (V33 + V35) fun V36 =>
      w_chk ((0 : Int) ≤ X4 ∧ X4 < 12) <|
      w_lt (gl S 37 X4) fun V38 =>
      w_ckJ (V36 + V38) fun V39 =>
      w_chk ((0 : Int) ≤ X4 ∧ X4 < 12) <|
      w_lt (gl S 38 X4) fun V41 =>
      w_ckJ (V39 + V41) fun V42 =>
      w_chk ((0 : Int) ≤ X4 ∧ X4 < 12) <|
      w_lt (wl S 41 X4 V42) fun S44 =>
      w_ckI (X4 + 1) fun V45 =>
      g63_l176 n V45 S44
theorem g63_l176_ok {r : gM} : ∀ (n : Nat) (x4 : Int32) (X4 : Int) (S : gM) (M : vm_M), Rel S M → x4.toInt = X4 → g63_l176 n X4 S = some r → Mp gRV (f63_l176 30 n x4 M) r := by
  intro n
  induction n with
  | zero =>
    intro x4 X4 S M hR t4 h
    cases h
  | succ n ih =>
    intro x4 X4 S M hR t4 h
    dsimp only [g63_l176] at h
    dsimp only [f63_l176]
    refine k_ite (c_le tI_12 t4) h (fun c31 h => ?_) (fun c31 h => ?_)
    · exact k_retV hR h
    · refine k_grF 43 hR (hR.obF (by decide) rfl) rfl ?_
      refine k_grF 37 hR (hR.obF (by decide) rfl) rfl ?_
      refine k_some ?_
      obtain ⟨c32, h⟩ := chk_so h
      obtain ⟨V33, e33, h⟩ := lt_so h
      refine k_al hR (hR.lnF (by decide) rfl) rfl t4 c32 e33 (fun v33 z33 => ?_)
      refine k_grF 38 hR (hR.obF (by decide) rfl) rfl ?_
      refine k_some ?_
      obtain ⟨c34, h⟩ := chk_so h
      obtain ⟨V35, e35, h⟩ := lt_so h
      refine k_al hR (hR.lnF (by decide) rfl) rfl t4 c34 e35 (fun v35 z35 => ?_)
      obtain ⟨V36, e36, c36, h⟩ := ckJ_so h
      refine k_grF 39 hR (hR.obF (by decide) rfl) rfl ?_
      refine k_some ?_
      obtain ⟨c37, h⟩ := chk_so h
      obtain ⟨V38, e38, h⟩ := lt_so h
      refine k_al hR (hR.lnF (by decide) rfl) rfl t4 c37 e38 (fun v38 z38 => ?_)
      obtain ⟨V39, e39, c39, h⟩ := ckJ_so h
      refine k_grF 40 hR (hR.obF (by decide) rfl) rfl ?_
      refine k_some ?_
      obtain ⟨c40, h⟩ := chk_so h
      obtain ⟨V41, e41, h⟩ := lt_so h
      refine k_al hR (hR.lnF (by decide) rfl) rfl t4 c40 e41 (fun v41 z41 => ?_)
      obtain ⟨V42, e42, c42, h⟩ := ckJ_so h
      refine k_some ?_
      obtain ⟨c43, h⟩ := chk_so h
      obtain ⟨S44, e44, h⟩ := lt_so h
      refine k_sl hR (hR.lnF (by decide) rfl) rfl t4 c43 (tJ_add (tJ_add (tJ_add z33 z35 c36 e36) z38 c39 e39) z41 c42 e42) e44 (fun M44 R44 => ?_)
      obtain ⟨V45, e45, c45, h⟩ := ckI_so h
      exact ih _ _ _ _ R44 (t_add t4 tI_1 c45 e45) h
/-- PupilCoin$Sums.deal(LPupilCoin$Law;II)V -/
def g63 (x1 : Nat) (X2 : Int) (X3 : Int) (S : gM) : Option (gM) :=
  (g199 34 0 S).bind fun p1 =>
  (g199 35 0 p1).bind fun p2 =>
  (g199 36 0 p2).bind fun p3 =>
  (g199 37 0 p3).bind fun p4 =>
  (g199 38 0 p4).bind fun p5 =>
  (g199 39 0 p5).bind fun p6 =>
  (g199 40 0 p6).bind fun p7 =>
  g63_l59 x1 X2 X3
    (fun S14 =>
      g63_l97 x1 X2 X3
        (fun S24 =>
          w_chk (gob S24 x1 1 = true) <|
          w_chk (gr S24 x1 5 = some (x1 + 1)) <|
          w_chk ((0 : Int) ≤ gln S24 (x1 + 1) 0) <|
          w_chk ((0 : Int) ≤ 2 ∧ 2 < (gln S24 (x1 + 1) 0)) <|
          w_lt (gi S24 (x1 + 1) 2) fun V29 =>
          if V29 < 0 then
            g63_l176
            
              100000 0 S24
          else
            w_chk (gob S24 x1 1 = true) <|
            w_chk (gr S24 x1 5 = some (x1 + 1)) <|
            w_chk ((0 : Int) ≤ gln S24 (x1 + 1) 0) <|
            w_chk ((0 : Int) ≤ 2 ∧ 2 < (gln S24 (x1 + 1) 0)) <|
            w_lt (gi S24 (x1 + 1) 2) fun V50 =>
            (g71 V50 S24).bind fun p51 =>
            g63_l176
            
              100000 0 p51)
        100000 0 S14)
    100000 0 p7
theorem g63_ok {x1 : Nat} {x2 : Int32} {X2 : Int} {x3 : Int32} {X3 : Int} {S : gM} {M : vm_M} {r : gM} (hR : Rel S M) (t2 : x2.toInt = X2) (t3 : x3.toInt = X3) (h : g63 x1 X2 X3 S = some r) : Mp gRV (f63 30 x1 x2 x3 M) r := by
  unfold g63 at h
  unfold f63
  refine k_grF 36 hR (hR.obF (by decide) rfl) rfl ?_
  refine k_some ?_
  obtain ⟨p1, e1, h⟩ := bind_so h
  refine k_call (g199_ok hR tJ_0 e1) (fun M1 R1 => ?_)
  refine k_grF 37 R1 (R1.obF (by decide) rfl) rfl ?_
  refine k_some ?_
  obtain ⟨p2, e2, h⟩ := bind_so h
  refine k_call (g199_ok R1 tJ_0 e2) (fun M2 R2 => ?_)
  refine k_grF 38 R2 (R2.obF (by decide) rfl) rfl ?_
  refine k_some ?_
  obtain ⟨p3, e3, h⟩ := bind_so h
  refine k_call (g199_ok R2 tJ_0 e3) (fun M3 R3 => ?_)
  refine k_grF 39 R3 (R3.obF (by decide) rfl) rfl ?_
  refine k_some ?_
  obtain ⟨p4, e4, h⟩ := bind_so h
  refine k_call (g199_ok R3 tJ_0 e4) (fun M4 R4 => ?_)
  refine k_grF 40 R4 (R4.obF (by decide) rfl) rfl ?_
  refine k_some ?_
  obtain ⟨p5, e5, h⟩ := bind_so h
  refine k_call (g199_ok R4 tJ_0 e5) (fun M5 R5 => ?_)
  refine k_grF 41 R5 (R5.obF (by decide) rfl) rfl ?_
  refine k_some ?_
  obtain ⟨p6, e6, h⟩ := bind_so h
  refine k_call (g199_ok R5 tJ_0 e6) (fun M6 R6 => ?_)
  refine k_grF 42 R6 (R6.obF (by decide) rfl) rfl ?_
  refine k_some ?_
  obtain ⟨p7, e7, h⟩ := bind_so h
  refine k_call (g199_ok R6 tJ_0 e7) (fun M7 R7 => ?_)
  refine g63_l59_ok ?_ t2 t3 100000 _ _ _ _ R7 tI_0 h
  · intro S14 M14 R14
    intro h
    refine g63_l97_ok ?_ t2 t3 100000 _ _ _ _ R14 tI_0 h
    · intro S24 M24 R24
      intro h
      obtain ⟨c25, h⟩ := chk_so h
      obtain ⟨c26, h⟩ := chk_so h
      refine k_gr R24 (R24.ob c25) c26.symm ?_
      refine k_some ?_
      obtain ⟨hn27, h⟩ := chk_so h
      obtain ⟨n27, en27, hn27⟩ := R24.ln hn27
      obtain ⟨c28, h⟩ := chk_so h
      obtain ⟨V29, e29, h⟩ := lt_so h
      refine k_ai R24 hn27 en27.symm tI_2 c28 e29 (fun v29 z29 => ?_)
      refine k_ite (c_lt z29 tI_0) h (fun c30 h => ?_) (fun c30 h => ?_)
      · refine g63_l176_ok 100000 _ _ _ _ R24 tI_0 h
      · obtain ⟨c46, h⟩ := chk_so h
        obtain ⟨c47, h⟩ := chk_so h
        refine k_gr R24 (R24.ob c46) c47.symm ?_
        refine k_some ?_
        obtain ⟨hn48, h⟩ := chk_so h
        obtain ⟨n48, en48, hn48⟩ := R24.ln hn48
        obtain ⟨c49, h⟩ := chk_so h
        obtain ⟨V50, e50, h⟩ := lt_so h
        refine k_ai R24 hn48 en48.symm tI_2 c49 e50 (fun v50 z50 => ?_)
        refine k_ob (R24.obF (by decide) rfl) ?_
        obtain ⟨p51, e51, h⟩ := bind_so h
        refine k_call (g71_ok R24 (t_itol z50) e51) (fun M51 R51 => ?_)
        refine g63_l176_ok 100000 _ _ _ _ R51 tI_0 h
def g62_l5 (X1 : Int) : Nat → Int → gM → Option (gM)
  | 0 => fun _ _ => none
  | n + 1 => fun X2 S =>
    if X1 ≤ X2 then
      some S
    else
      if 10 ≤ X2 then
        some S
      else
        w_ckI (X2 + 1) fun V4 =>
        w_ckI (V4 * 100) fun V5 =>
        (g56 X2 V5 S).bind fun p6 =>
        w_lt p6.1 fun a6 =>
        (a6).bind fun q7 =>
        (g63 q7 X2 V5 p6.2).bind fun p8 =>
        w_ckI (X2 * 12) fun V9 =>
        w_chk ((0 : Int) ≤ 0 ∧ (0 : Int) ≤ V9 ∧ (0 : Int) ≤ 12 ∧ (0 : Int) + 12 ≤ 12 ∧ (V9 : Int) + 12 ≤ 120) <|
        w_lt (wcl p8 41 44 0 V9 12) fun S11 =>
        w_ckI (X2 + 1) fun V12 =>
        w_lt (wi S11 30 15 V12) fun S13 =>
        w_ckI (X2 + 1) fun V14 =>
        g62_l5 X1 n V14 S13
theorem g62_l5_ok {x1 : Int32} {X1 : Int} {r : gM} (t1 : x1.toInt = X1) : ∀ (n : Nat) (x2 : Int32) (X2 : Int) (S : gM) (M : vm_M), Rel S M → x2.toInt = X2 → g62_l5 X1 n X2 S = some r → Mp gRV (f62_l5 30 x1 n x2 M) r := by
  intro n
  induction n with
  | zero =>
    intro x2 X2 S M hR t2 h
    cases h
  | succ n ih =>
    intro x2 X2 S M hR t2 h
    dsimp only [g62_l5] at h
    dsimp only [f62_l5]
    refine k_ite (c_le t1 t2) h (fun c2 h => ?_) (fun c2 h => ?_)
    · exact k_retV hR h
    · refine k_ite (c_le tI_10 t2) h (fun c3 h => ?_) (fun c3 h => ?_)
      · exact k_retV hR h
      · obtain ⟨V4, e4, c4, h⟩ := ckI_so h
        obtain ⟨V5, e5, c5, h⟩ := ckI_so h
        refine k_grF 34 hR (hR.obF (by decide) rfl) rfl ?_
        refine k_some ?_
        refine k_ob (hR.obF (by decide) rfl) ?_
        obtain ⟨p6, e6, h⟩ := bind_so h
        refine k_call (g56_ok hR t2 (t_mul (t_add t2 tI_1 c4 e4) tI_100 c5 e5) e6) (fun b6 R6 => ?_)
        obtain ⟨d6, R6⟩ := R6
        obtain ⟨a6, e6, h⟩ := lt_so h
        rw [d6, ← e6]
        obtain ⟨q7, e7, h⟩ := bind_so h
        refine k_unw e7 ?_
        refine k_ob (R6.obF (by decide) rfl) ?_
        obtain ⟨p8, e8, h⟩ := bind_so h
        refine k_call (g63_ok R6 t2 (t_mul (t_add t2 tI_1 c4 e4) tI_100 c5 e5) e8) (fun M8 R8 => ?_)
        refine k_grF 43 R8 (R8.obF (by decide) rfl) rfl ?_
        refine k_grF 46 R8 (R8.obF (by decide) rfl) rfl ?_
        obtain ⟨V9, e9, c9, h⟩ := ckI_so h
        refine k_some ?_
        refine k_some ?_
        obtain ⟨c10, h⟩ := chk_so h
        obtain ⟨S11, e11, h⟩ := lt_so h
        refine k_cpJ R8 (R8.lnF (by decide) rfl) (R8.lnF (by decide) rfl) rfl rfl tI_0 (t_mul t2 tI_12 c9 e9) tI_12 c10 e11 (fun M11 R11 => ?_)
        obtain ⟨V12, e12, c12, h⟩ := ckI_so h
        obtain ⟨S13, e13, h⟩ := lt_so h
        refine k_pi R11 (R11.obF (by decide) rfl) rfl (t_add t2 tI_1 c12 e12) e13 (fun M13 R13 => ?_)
        obtain ⟨V14, e14, c14, h⟩ := ckI_so h
        exact ih _ _ _ _ R13 (t_add t2 tI_1 c14 e14) h
/-- PupilCoin$Sums.prepare(I)V -/
def g62 (X1 : Int) (S : gM) : Option (gM) :=
  w_lt (gi S 30 15) fun V1 =>
  g62_l5 X1
  
    100000 V1 S
theorem g62_ok {x1 : Int32} {X1 : Int} {S : gM} {M : vm_M} {r : gM} (hR : Rel S M) (t1 : x1.toInt = X1) (h : g62 X1 S = some r) : Mp gRV (f62 30 x1 M) r := by
  unfold g62 at h
  unfold f62
  obtain ⟨V1, e1, h⟩ := lt_so h
  refine k_gi hR (hR.obF (by decide) rfl) rfl e1 (fun v1 z1 => ?_)
  refine g62_l5_ok t1 100000 _ _ _ _ hR z1 h
/-- PupilCoin$Sums.reckon(II)V -/
def g59 (X1 : Int) (X2 : Int) (S : gM) : Option (gM) :=
  (g62 X1 S).bind fun p1 =>
  (g56 X1 X2 p1).bind fun p2 =>
  w_lt p2.1 fun a2 =>
  (a2).bind fun q3 =>
  (g63 q3 X1 X2 p2.2).bind fun p4 =>
  some p4
theorem g59_ok {x1 : Int32} {X1 : Int} {x2 : Int32} {X2 : Int} {S : gM} {M : vm_M} {r : gM} (hR : Rel S M) (t1 : x1.toInt = X1) (t2 : x2.toInt = X2) (h : g59 X1 X2 S = some r) : Mp gRV (f59 30 x1 x2 M) r := by
  unfold g59 at h
  unfold f59
  refine k_ob (hR.obF (by decide) rfl) ?_
  obtain ⟨p1, e1, h⟩ := bind_so h
  refine k_call (g62_ok hR t1 e1) (fun M1 R1 => ?_)
  refine k_grF 34 R1 (R1.obF (by decide) rfl) rfl ?_
  refine k_some ?_
  refine k_ob (R1.obF (by decide) rfl) ?_
  obtain ⟨p2, e2, h⟩ := bind_so h
  refine k_call (g56_ok R1 t1 t2 e2) (fun b2 R2 => ?_)
  obtain ⟨d2, R2⟩ := R2
  obtain ⟨a2, e2, h⟩ := lt_so h
  rw [d2, ← e2]
  obtain ⟨q3, e3, h⟩ := bind_so h
  refine k_unw e3 ?_
  refine k_ob (R2.obF (by decide) rfl) ?_
  obtain ⟨p4, e4, h⟩ := bind_so h
  refine k_call (g63_ok R2 t1 t2 e4) (fun M4 R4 => ?_)
  exact k_retV R4 h
/-- PupilCoin$Sums.reckonBy(LPupilCoin$Law;II)V -/
def g60 (x1 : Nat) (X2 : Int) (X3 : Int) (S : gM) : Option (gM) :=
  (g62 X2 S).bind fun p1 =>
  (g63 x1 X2 X3 p1).bind fun p2 =>
  some p2
theorem g60_ok {x1 : Nat} {x2 : Int32} {X2 : Int} {x3 : Int32} {X3 : Int} {S : gM} {M : vm_M} {r : gM} (hR : Rel S M) (t2 : x2.toInt = X2) (t3 : x3.toInt = X3) (h : g60 x1 X2 X3 S = some r) : Mp gRV (f60 30 x1 x2 x3 M) r := by
  unfold g60 at h
  unfold f60
  refine k_ob (hR.obF (by decide) rfl) ?_
  obtain ⟨p1, e1, h⟩ := bind_so h
  refine k_call (g62_ok hR t2 e1) (fun M1 R1 => ?_)
  refine k_ob (R1.obF (by decide) rfl) ?_
  obtain ⟨p2, e2, h⟩ := bind_so h
  refine k_call (g63_ok R1 t2 t3 e2) (fun M2 R2 => ?_)
  exact k_retV R2 h
/-- PupilCoin$Sums.reckonWithOneMore(IIII)V -/
def g61 (X1 : Int) (X2 : Int) (X3 : Int) (X4 : Int) (S : gM) : Option (gM) :=
  (g62 X3 S).bind fun p1 =>
  w_lt (wi p1 30 17 X1) fun S2 =>
  w_lt (wi S2 30 18 X2) fun S3 =>
  (g56 X3 X4 S3).bind fun p4 =>
  w_lt p4.1 fun a4 =>
  (a4).bind fun q5 =>
  (g63 q5 X3 X4 p4.2).bind fun p6 =>
  w_lt (wi p6 30 17 (-1)) fun S7 =>
  some S7
theorem g61_ok {x1 : Int32} {X1 : Int} {x2 : Int32} {X2 : Int} {x3 : Int32} {X3 : Int} {x4 : Int32} {X4 : Int} {S : gM} {M : vm_M} {r : gM} (hR : Rel S M) (t1 : x1.toInt = X1) (t2 : x2.toInt = X2) (t3 : x3.toInt = X3) (t4 : x4.toInt = X4) (h : g61 X1 X2 X3 X4 S = some r) : Mp gRV (f61 30 x1 x2 x3 x4 M) r := by
  unfold g61 at h
  unfold f61
  refine k_ob (hR.obF (by decide) rfl) ?_
  obtain ⟨p1, e1, h⟩ := bind_so h
  refine k_call (g62_ok hR t3 e1) (fun M1 R1 => ?_)
  obtain ⟨S2, e2, h⟩ := lt_so h
  refine k_pi R1 (R1.obF (by decide) rfl) rfl t1 e2 (fun M2 R2 => ?_)
  obtain ⟨S3, e3, h⟩ := lt_so h
  refine k_pi R2 (R2.obF (by decide) rfl) rfl t2 e3 (fun M3 R3 => ?_)
  refine k_grF 34 R3 (R3.obF (by decide) rfl) rfl ?_
  refine k_some ?_
  refine k_ob (R3.obF (by decide) rfl) ?_
  obtain ⟨p4, e4, h⟩ := bind_so h
  refine k_call (g56_ok R3 t3 t4 e4) (fun b4 R4 => ?_)
  obtain ⟨d4, R4⟩ := R4
  obtain ⟨a4, e4, h⟩ := lt_so h
  rw [d4, ← e4]
  obtain ⟨q5, e5, h⟩ := bind_so h
  refine k_unw e5 ?_
  refine k_ob (R4.obF (by decide) rfl) ?_
  obtain ⟨p6, e6, h⟩ := bind_so h
  refine k_call (g63_ok R4 t3 t4 e6) (fun M6 R6 => ?_)
  obtain ⟨S7, e7, h⟩ := lt_so h
  refine k_pi R6 (R6.obF (by decide) rfl) rfl tI_m1 e7 (fun M7 R7 => ?_)
  exact k_retV R7 h
def g72_l44 (X1 : Int) (X2 : Int) : Nat → Int → Int → gM → Option (Int × gM)
  | 0 => fun _ _ _ => none
  | n + 1 => fun X4 X6 S =>
    w_lt (gi S 1 7) fun V10 =>
    if V10 ≤ X6 then
      some (X4, S)
    else
      (g5 X6 X2 S).bind fun p12 =>
      if ¬ p12.1 = X1 then
        w_ckI (X6 + 1) fun V14 =>
        g72_l44 X1 X2 n X4 V14 p12.2
      else
        w_ckI (X2 - 1) fun V15 =>
        w_ckI (V15 * 12) fun V16 =>
        w_ckI (V16 + X6) fun V17 =>
        w_chk ((0 : Int) ≤ V17 ∧ V17 < 120) <|
        w_lt (gl p12.2 44 V17) fun V19 =>
        w_chk ((0 : Int) ≤ X6 ∧ X6 < 12) <|
        w_lt (gl p12.2 41 X6) fun V21 =>
        w_ckJ (V19 - V21) fun V22 =>
        w_ckJ (X4 + V22) fun V23 =>
        w_ckI (X6 + 1) fun V24 =>
        g72_l44 X1 X2 n V23 V24 p12.2
theorem g72_l44_ok {x1 : Int32} {X1 : Int} {x2 : Int32} {X2 : Int} {r : Int × gM} (t1 : x1.toInt = X1) (t2 : x2.toInt = X2) : ∀ (n : Nat) (x4 : Int64) (X4 : Int) (x6 : Int32) (X6 : Int) (S : gM) (M : vm_M), Rel S M → x4.toInt = X4 → x6.toInt = X6 → g72_l44 X1 X2 n X4 X6 S = some r → Mp gRJ (f72_l44 30 x1 x2 n x4 x6 M) r := by
  intro n
  induction n with
  | zero =>
    intro x4 X4 x6 X6 S M hR t4 t6 h
    cases h
  | succ n ih =>
    intro x4 X4 x6 X6 S M hR t4 t6 h
    dsimp only [g72_l44] at h
    dsimp only [f72_l44]
    refine k_grF 32 hR (hR.obF (by decide) rfl) rfl ?_
    refine k_some ?_
    obtain ⟨V10, e10, h⟩ := lt_so h
    refine k_gi hR (hR.obF (by decide) rfl) rfl e10 (fun v10 z10 => ?_)
    refine k_ite (c_le z10 t6) h (fun c11 h => ?_) (fun c11 h => ?_)
    · exact k_retJ hR t4 h
    · refine k_grF 32 hR (hR.obF (by decide) rfl) rfl ?_
      refine k_some ?_
      refine k_ob (hR.obF (by decide) rfl) ?_
      obtain ⟨p12, e12, h⟩ := bind_so h
      refine k_call (g5_ok hR t6 t2 e12) (fun b12 R12 => ?_)
      refine k_ite (c_ne R12.1 t1) h (fun c13 h => ?_) (fun c13 h => ?_)
      · obtain ⟨V14, e14, c14, h⟩ := ckI_so h
        exact ih _ _ _ _ _ _ R12.2 t4 (t_add t6 tI_1 c14 e14) h
      · refine k_grF 46 R12.2 (R12.2.obF (by decide) rfl) rfl ?_
        obtain ⟨V15, e15, c15, h⟩ := ckI_so h
        obtain ⟨V16, e16, c16, h⟩ := ckI_so h
        obtain ⟨V17, e17, c17, h⟩ := ckI_so h
        refine k_some ?_
        obtain ⟨c18, h⟩ := chk_so h
        obtain ⟨V19, e19, h⟩ := lt_so h
        refine k_al R12.2 (R12.2.lnF (by decide) rfl) rfl (t_add (t_mul (t_sub t2 tI_1 c15 e15) tI_12 c16 e16) t6 c17 e17) c18 e19 (fun v19 z19 => ?_)
        refine k_grF 43 R12.2 (R12.2.obF (by decide) rfl) rfl ?_
        refine k_some ?_
        obtain ⟨c20, h⟩ := chk_so h
        obtain ⟨V21, e21, h⟩ := lt_so h
        refine k_al R12.2 (R12.2.lnF (by decide) rfl) rfl t6 c20 e21 (fun v21 z21 => ?_)
        obtain ⟨V22, e22, c22, h⟩ := ckJ_so h
        obtain ⟨V23, e23, c23, h⟩ := ckJ_so h
        obtain ⟨V24, e24, c24, h⟩ := ckI_so h
        exact ih _ _ _ _ _ _ R12.2 (tJ_add t4 (tJ_sub z19 z21 c22 e22) c23 e23) (t_add t6 tI_1 c24 e24) h
/-- PupilCoin$Sums.putRight(II)J -/
def g72 (X1 : Int) (X2 : Int) (S : gM) : Option (Int × gM) :=
  if 1 ≤ X2 then
    w_ckI (X2 - 1) fun V2 =>
    w_ckI (V2 * 100) fun V3 =>
    (g62 X2 S).bind fun p4 =>
    w_ckI (X2 - 1) fun V5 =>
    (g56 V5 V3 p4).bind fun p6 =>
    w_lt p6.1 fun a6 =>
    w_ckI (X2 - 1) fun V7 =>
    (a6).bind fun q8 =>
    (g63 q8 V7 V3 p6.2).bind fun p9 =>
    g72_l44 X1 X2
    
      100000 0 0 p9
  else
    some (0, S)
theorem g72_ok {x1 : Int32} {X1 : Int} {x2 : Int32} {X2 : Int} {S : gM} {M : vm_M} {r : Int × gM} (hR : Rel S M) (t1 : x1.toInt = X1) (t2 : x2.toInt = X2) (h : g72 X1 X2 S = some r) : Mp gRJ (f72 30 x1 x2 M) r := by
  unfold g72 at h
  unfold f72
  refine k_ite (c_le tI_1 t2) h (fun c1 h => ?_) (fun c1 h => ?_)
  · obtain ⟨V2, e2, c2, h⟩ := ckI_so h
    obtain ⟨V3, e3, c3, h⟩ := ckI_so h
    refine k_ob (hR.obF (by decide) rfl) ?_
    obtain ⟨p4, e4, h⟩ := bind_so h
    refine k_call (g62_ok hR t2 e4) (fun M4 R4 => ?_)
    refine k_grF 34 R4 (R4.obF (by decide) rfl) rfl ?_
    obtain ⟨V5, e5, c5, h⟩ := ckI_so h
    refine k_some ?_
    refine k_ob (R4.obF (by decide) rfl) ?_
    obtain ⟨p6, e6, h⟩ := bind_so h
    refine k_call (g56_ok R4 (t_sub t2 tI_1 c5 e5) (t_mul (t_sub t2 tI_1 c2 e2) tI_100 c3 e3) e6) (fun b6 R6 => ?_)
    obtain ⟨d6, R6⟩ := R6
    obtain ⟨a6, e6, h⟩ := lt_so h
    rw [d6, ← e6]
    obtain ⟨V7, e7, c7, h⟩ := ckI_so h
    obtain ⟨q8, e8, h⟩ := bind_so h
    refine k_unw e8 ?_
    refine k_ob (R6.obF (by decide) rfl) ?_
    obtain ⟨p9, e9, h⟩ := bind_so h
    refine k_call (g63_ok R6 (t_sub t2 tI_1 c7 e7) (t_mul (t_sub t2 tI_1 c2 e2) tI_100 c3 e3) e9) (fun M9 R9 => ?_)
    refine g72_l44_ok t1 t2 100000 _ _ _ _ _ _ R9 tJ_0 tI_0 h
  · exact k_retJ hR tJ_0 h
/-- PupilCoin.day(I)Z -/
def g74 (X1 : Int) (S : gM) : Option (Int × gM) :=
  w_lt (gi S 0 10) fun V1 =>
  if X1 ≤ V1 then
    some (0, S)
  else
    if X1 ≤ 999 then
      w_lt (wi S 0 10 X1) fun S4 =>
      some (1, S4)
    else
      some (0, S)
theorem g74_ok {x1 : Int32} {X1 : Int} {S : gM} {M : vm_M} {r : Int × gM} (hR : Rel S M) (t1 : x1.toInt = X1) (h : g74 X1 S = some r) : Mp gRI (f74 0 x1 M) r := by
  unfold g74 at h
  unfold f74
  obtain ⟨V1, e1, h⟩ := lt_so h
  refine k_gi hR (hR.obF (by decide) rfl) rfl e1 (fun v1 z1 => ?_)
  refine k_ite (c_le t1 z1) h (fun c2 h => ?_) (fun c2 h => ?_)
  · exact k_retZ hR tI_0 (by decide) h
  · refine k_ite (c_le t1 tI_999) h (fun c3 h => ?_) (fun c3 h => ?_)
    · obtain ⟨S4, e4, h⟩ := lt_so h
      refine k_pi hR (hR.obF (by decide) rfl) rfl t1 e4 (fun M4 R4 => ?_)
      exact k_retZ R4 tI_1 (by decide) h
    · exact k_retZ hR tI_0 (by decide) h
/-- PupilCoin.school(III)I -/
def g75 (X1 : Int) (X2 : Int) (X3 : Int) (S : gM) : Option (Int × gM) :=
  (g102 X1 8 S).bind fun p1 =>
  if p1.1 = 0 then
    some ((-1), p1.2)
  else
    (g102 X2 3 p1.2).bind fun p3 =>
    if p3.1 = 0 then
      some ((-1), p3.2)
    else
      (g102 X3 16 p3.2).bind fun p5 =>
      if ¬ p5.1 = 0 then
        w_lt (gi p5.2 1 7) fun V7 =>
        if V7 < 12 then
          (g58 p5.2).bind fun p9 =>
          (g1 X1 X2 X3 p9).bind fun p10 =>
          some (p10.1, p10.2)
        else
          some ((-1), p5.2)
      else
        some ((-1), p5.2)
theorem g75_ok {x1 : Int32} {X1 : Int} {x2 : Int32} {X2 : Int} {x3 : Int32} {X3 : Int} {S : gM} {M : vm_M} {r : Int × gM} (hR : Rel S M) (t1 : x1.toInt = X1) (t2 : x2.toInt = X2) (t3 : x3.toInt = X3) (h : g75 X1 X2 X3 S = some r) : Mp gRI (f75 0 x1 x2 x3 M) r := by
  unfold g75 at h
  unfold f75
  obtain ⟨p1, e1, h⟩ := bind_so h
  refine k_call (g102_ok hR t1 tI_8 e1) (fun b1 R1 => ?_)
  refine k_ite (c_eq R1.1 tI_0) h (fun c2 h => ?_) (fun c2 h => ?_)
  · exact k_retI R1.2 tI_m1 h
  · obtain ⟨p3, e3, h⟩ := bind_so h
    refine k_call (g102_ok R1.2 t2 tI_3 e3) (fun b3 R3 => ?_)
    refine k_ite (c_eq R3.1 tI_0) h (fun c4 h => ?_) (fun c4 h => ?_)
    · exact k_retI R3.2 tI_m1 h
    · obtain ⟨p5, e5, h⟩ := bind_so h
      refine k_call (g102_ok R3.2 t3 tI_16 e5) (fun b5 R5 => ?_)
      refine k_ite (c_ne R5.1 tI_0) h (fun c6 h => ?_) (fun c6 h => ?_)
      · refine k_grF 0 R5.2 (R5.2.obF (by decide) rfl) rfl ?_
        refine k_some ?_
        obtain ⟨V7, e7, h⟩ := lt_so h
        refine k_gi R5.2 (R5.2.obF (by decide) rfl) rfl e7 (fun v7 z7 => ?_)
        refine k_ite (c_lt z7 tI_12) h (fun c8 h => ?_) (fun c8 h => ?_)
        · refine k_grF 4 R5.2 (R5.2.obF (by decide) rfl) rfl ?_
          refine k_some ?_
          refine k_ob (R5.2.obF (by decide) rfl) ?_
          obtain ⟨p9, e9, h⟩ := bind_so h
          refine k_call (g58_ok R5.2 e9) (fun M9 R9 => ?_)
          refine k_grF 0 R9 (R9.obF (by decide) rfl) rfl ?_
          refine k_some ?_
          refine k_ob (R9.obF (by decide) rfl) ?_
          obtain ⟨p10, e10, h⟩ := bind_so h
          refine k_call (g1_ok R9 t1 t2 t3 e10) (fun b10 R10 => ?_)
          exact k_retI R10.2 R10.1 h
        · exact k_retI R5.2 tI_m1 h
      · exact k_retI R5.2 tI_m1 h
/-- PupilCoin.need(II)Z -/
def g76 (X1 : Int) (X2 : Int) (S : gM) : Option (Int × gM) :=
  (g102 X1 8 S).bind fun p1 =>
  if p1.1 = 0 then
    some (0, p1.2)
  else
    if X2 < 0 then
      some (0, p1.2)
    else
      if X2 ≤ 100 then
        w_chk ((0 : Int) ≤ X1 ∧ X1 < 8) <|
        w_lt (wi p1.2 7 X1 X2) fun S6 =>
        (g58 S6).bind fun p7 =>
        some (1, p7)
      else
        some (0, p1.2)
theorem g76_ok {x1 : Int32} {X1 : Int} {x2 : Int32} {X2 : Int} {S : gM} {M : vm_M} {r : Int × gM} (hR : Rel S M) (t1 : x1.toInt = X1) (t2 : x2.toInt = X2) (h : g76 X1 X2 S = some r) : Mp gRI (f76 0 x1 x2 M) r := by
  unfold g76 at h
  unfold f76
  obtain ⟨p1, e1, h⟩ := bind_so h
  refine k_call (g102_ok hR t1 tI_8 e1) (fun b1 R1 => ?_)
  refine k_ite (c_eq R1.1 tI_0) h (fun c2 h => ?_) (fun c2 h => ?_)
  · exact k_retZ R1.2 tI_0 (by decide) h
  · refine k_ite (c_lt t2 tI_0) h (fun c3 h => ?_) (fun c3 h => ?_)
    · exact k_retZ R1.2 tI_0 (by decide) h
    · refine k_ite (c_le t2 tI_100) h (fun c4 h => ?_) (fun c4 h => ?_)
      · refine k_grF 0 R1.2 (R1.2.obF (by decide) rfl) rfl ?_
        refine k_some ?_
        refine k_grF 12 R1.2 (R1.2.obF (by decide) rfl) rfl ?_
        refine k_some ?_
        obtain ⟨c5, h⟩ := chk_so h
        obtain ⟨S6, e6, h⟩ := lt_so h
        refine k_si R1.2 (R1.2.lnF (by decide) rfl) rfl t1 c5 t2 e6 (fun M6 R6 => ?_)
        refine k_grF 4 R6 (R6.obF (by decide) rfl) rfl ?_
        refine k_some ?_
        refine k_ob (R6.obF (by decide) rfl) ?_
        obtain ⟨p7, e7, h⟩ := bind_so h
        refine k_call (g58_ok R6 e7) (fun M7 R7 => ?_)
        exact k_retZ R7 tI_1 (by decide) h
      · exact k_retZ R1.2 tI_0 (by decide) h
/-- PupilCoin.road(III)Z -/
def g77 (X1 : Int) (X2 : Int) (X3 : Int) (S : gM) : Option (Int × gM) :=
  (g102 X1 16 S).bind fun p1 =>
  if p1.1 = 0 then
    some (0, p1.2)
  else
    (g102 X2 16 p1.2).bind fun p3 =>
    if p3.1 = 0 then
      some (0, p3.2)
    else
      if ¬ X1 = X2 then
        if X3 < 0 then
          some (0, p3.2)
        else
          if X3 ≤ 999 then
            (g52 X1 X2 X3 p3.2).bind fun p8 =>
            (g58 p8).bind fun p9 =>
            some (1, p9)
          else
            some (0, p3.2)
      else
        some (0, p3.2)
theorem g77_ok {x1 : Int32} {X1 : Int} {x2 : Int32} {X2 : Int} {x3 : Int32} {X3 : Int} {S : gM} {M : vm_M} {r : Int × gM} (hR : Rel S M) (t1 : x1.toInt = X1) (t2 : x2.toInt = X2) (t3 : x3.toInt = X3) (h : g77 X1 X2 X3 S = some r) : Mp gRI (f77 0 x1 x2 x3 M) r := by
  unfold g77 at h
  unfold f77
  obtain ⟨p1, e1, h⟩ := bind_so h
  refine k_call (g102_ok hR t1 tI_16 e1) (fun b1 R1 => ?_)
  refine k_ite (c_eq R1.1 tI_0) h (fun c2 h => ?_) (fun c2 h => ?_)
  · exact k_retZ R1.2 tI_0 (by decide) h
  · obtain ⟨p3, e3, h⟩ := bind_so h
    refine k_call (g102_ok R1.2 t2 tI_16 e3) (fun b3 R3 => ?_)
    refine k_ite (c_eq R3.1 tI_0) h (fun c4 h => ?_) (fun c4 h => ?_)
    · exact k_retZ R3.2 tI_0 (by decide) h
    · refine k_ite (c_ne t1 t2) h (fun c5 h => ?_) (fun c5 h => ?_)
      · refine k_ite (c_lt t3 tI_0) h (fun c6 h => ?_) (fun c6 h => ?_)
        · exact k_retZ R3.2 tI_0 (by decide) h
        · refine k_ite (c_le t3 tI_999) h (fun c7 h => ?_) (fun c7 h => ?_)
          · refine k_grF 0 R3.2 (R3.2.obF (by decide) rfl) rfl ?_
            refine k_some ?_
            refine k_grF 13 R3.2 (R3.2.obF (by decide) rfl) rfl ?_
            refine k_some ?_
            refine k_ob (R3.2.obF (by decide) rfl) ?_
            obtain ⟨p8, e8, h⟩ := bind_so h
            refine k_call (g52_ok R3.2 t1 t2 t3 e8) (fun M8 R8 => ?_)
            refine k_grF 4 R8 (R8.obF (by decide) rfl) rfl ?_
            refine k_some ?_
            refine k_ob (R8.obF (by decide) rfl) ?_
            obtain ⟨p9, e9, h⟩ := bind_so h
            refine k_call (g58_ok R8 e9) (fun M9 R9 => ?_)
            exact k_retZ R9 tI_1 (by decide) h
          · exact k_retZ R3.2 tI_0 (by decide) h
      · exact k_retZ R3.2 tI_0 (by decide) h
/-- PupilCoin.isYear(I)Z -/
def g103 (X0 : Int) (S : gM) : Option (Int × gM) :=
  (g102 X0 10 S).bind fun p1 =>
  w_chk (p1.1 = 0 ∨ p1.1 = 1) <|
  some (p1.1, p1.2)
theorem g103_ok {x0 : Int32} {X0 : Int} {S : gM} {M : vm_M} {r : Int × gM} (hR : Rel S M) (t0 : x0.toInt = X0) (h : g103 X0 S = some r) : Mp gRI (f103 x0 M) r := by
  unfold g103 at h
  unfold f103
  obtain ⟨p1, e1, h⟩ := bind_so h
  refine k_call (g102_ok hR t0 tI_10 e1) (fun b1 R1 => ?_)
  obtain ⟨c2, h⟩ := chk_so h
  exact k_retZ R1.2 R1.1 c2 h
/-- PupilCoin.isSchool(I)Z -/
def g105 (X1 : Int) (S : gM) : Option (Int × gM) :=
  w_lt (gi S 1 7) fun V1 =>
  (g102 X1 V1 S).bind fun p2 =>
  w_chk (p2.1 = 0 ∨ p2.1 = 1) <|
  some (p2.1, p2.2)
theorem g105_ok {x1 : Int32} {X1 : Int} {S : gM} {M : vm_M} {r : Int × gM} (hR : Rel S M) (t1 : x1.toInt = X1) (h : g105 X1 S = some r) : Mp gRI (f105 0 x1 M) r := by
  unfold g105 at h
  unfold f105
  refine k_grF 0 hR (hR.obF (by decide) rfl) rfl ?_
  refine k_some ?_
  obtain ⟨V1, e1, h⟩ := lt_so h
  refine k_gi hR (hR.obF (by decide) rfl) rfl e1 (fun v1 z1 => ?_)
  obtain ⟨p2, e2, h⟩ := bind_so h
  refine k_call (g102_ok hR t1 z1 e2) (fun b2 R2 => ?_)
  obtain ⟨c3, h⟩ := chk_so h
  exact k_retZ R2.2 R2.1 c3 h
/-- PupilCoin.far(II)I -/
def g78 (X1 : Int) (X2 : Int) (S : gM) : Option (Int × gM) :=
  (g105 X1 S).bind fun p1 =>
  if p1.1 = 0 then
    some ((-1), p1.2)
  else
    (g103 X2 p1.2).bind fun p3 =>
    if p3.1 = 0 then
      some ((-1), p3.2)
    else
      (g2 X1 X2 p3.2).bind fun p5 =>
      if ¬ p5.1 = 0 then
        (g7 X1 X2 p5.2).bind fun p7 =>
        some (p7.1, p7.2)
      else
        some ((-1), p5.2)
theorem g78_ok {x1 : Int32} {X1 : Int} {x2 : Int32} {X2 : Int} {S : gM} {M : vm_M} {r : Int × gM} (hR : Rel S M) (t1 : x1.toInt = X1) (t2 : x2.toInt = X2) (h : g78 X1 X2 S = some r) : Mp gRI (f78 0 x1 x2 M) r := by
  unfold g78 at h
  unfold f78
  refine k_ob (hR.obF (by decide) rfl) ?_
  obtain ⟨p1, e1, h⟩ := bind_so h
  refine k_call (g105_ok hR t1 e1) (fun b1 R1 => ?_)
  refine k_ite (c_eq R1.1 tI_0) h (fun c2 h => ?_) (fun c2 h => ?_)
  · exact k_retI R1.2 tI_m1 h
  · obtain ⟨p3, e3, h⟩ := bind_so h
    refine k_call (g103_ok R1.2 t2 e3) (fun b3 R3 => ?_)
    refine k_ite (c_eq R3.1 tI_0) h (fun c4 h => ?_) (fun c4 h => ?_)
    · exact k_retI R3.2 tI_m1 h
    · refine k_grF 0 R3.2 (R3.2.obF (by decide) rfl) rfl ?_
      refine k_some ?_
      refine k_ob (R3.2.obF (by decide) rfl) ?_
      obtain ⟨p5, e5, h⟩ := bind_so h
      refine k_call (g2_ok R3.2 t1 t2 e5) (fun b5 R5 => ?_)
      refine k_ite (c_ne R5.1 tI_0) h (fun c6 h => ?_) (fun c6 h => ?_)
      · refine k_grF 0 R5.2 (R5.2.obF (by decide) rfl) rfl ?_
        refine k_some ?_
        refine k_ob (R5.2.obF (by decide) rfl) ?_
        obtain ⟨p7, e7, h⟩ := bind_so h
        refine k_call (g7_ok R5.2 t1 t2 e7) (fun b7 R7 => ?_)
        exact k_retI R7.2 R7.1 h
      · exact k_retI R5.2 tI_m1 h
/-- PupilCoin.mark(IIII)I -/
def g79 (X1 : Int) (X2 : Int) (X3 : Int) (X4 : Int) (S : gM) : Option (Int × gM) :=
  (g105 X1 S).bind fun p1 =>
  if p1.1 = 0 then
    some ((-1), p1.2)
  else
    (g103 X2 p1.2).bind fun p3 =>
    if p3.1 = 0 then
      some ((-1), p3.2)
    else
      (g102 X3 6 p3.2).bind fun p5 =>
      if ¬ p5.1 = 0 then
        if X4 < 0 then
          some ((-1), p5.2)
        else
          if 9999 < X4 then
            some ((-1), p5.2)
          else
            w_lt (gi p5.2 11 4) fun V9 =>
            if V9 < 300 then
              (g58 p5.2).bind fun p11 =>
              w_lt (gi p11 0 10) fun V12 =>
              (g11 X1 X2 X3 X4 V12 p11).bind fun p13 =>
              some (p13.1, p13.2)
            else
              some ((-1), p5.2)
      else
        some ((-1), p5.2)
theorem g79_ok {x1 : Int32} {X1 : Int} {x2 : Int32} {X2 : Int} {x3 : Int32} {X3 : Int} {x4 : Int32} {X4 : Int} {S : gM} {M : vm_M} {r : Int × gM} (hR : Rel S M) (t1 : x1.toInt = X1) (t2 : x2.toInt = X2) (t3 : x3.toInt = X3) (t4 : x4.toInt = X4) (h : g79 X1 X2 X3 X4 S = some r) : Mp gRI (f79 0 x1 x2 x3 x4 M) r := by
  unfold g79 at h
  unfold f79
  refine k_ob (hR.obF (by decide) rfl) ?_
  obtain ⟨p1, e1, h⟩ := bind_so h
  refine k_call (g105_ok hR t1 e1) (fun b1 R1 => ?_)
  refine k_ite (c_eq R1.1 tI_0) h (fun c2 h => ?_) (fun c2 h => ?_)
  · exact k_retI R1.2 tI_m1 h
  · obtain ⟨p3, e3, h⟩ := bind_so h
    refine k_call (g103_ok R1.2 t2 e3) (fun b3 R3 => ?_)
    refine k_ite (c_eq R3.1 tI_0) h (fun c4 h => ?_) (fun c4 h => ?_)
    · exact k_retI R3.2 tI_m1 h
    · obtain ⟨p5, e5, h⟩ := bind_so h
      refine k_call (g102_ok R3.2 t3 tI_6 e5) (fun b5 R5 => ?_)
      refine k_ite (c_ne R5.1 tI_0) h (fun c6 h => ?_) (fun c6 h => ?_)
      · refine k_ite (c_lt t4 tI_0) h (fun c7 h => ?_) (fun c7 h => ?_)
        · exact k_retI R5.2 tI_m1 h
        · refine k_ite (c_lt tI_9999 t4) h (fun c8 h => ?_) (fun c8 h => ?_)
          · exact k_retI R5.2 tI_m1 h
          · refine k_grF 1 R5.2 (R5.2.obF (by decide) rfl) rfl ?_
            refine k_some ?_
            obtain ⟨V9, e9, h⟩ := lt_so h
            refine k_gi R5.2 (R5.2.obF (by decide) rfl) rfl e9 (fun v9 z9 => ?_)
            refine k_ite (c_lt z9 tI_300) h (fun c10 h => ?_) (fun c10 h => ?_)
            · refine k_grF 4 R5.2 (R5.2.obF (by decide) rfl) rfl ?_
              refine k_some ?_
              refine k_ob (R5.2.obF (by decide) rfl) ?_
              obtain ⟨p11, e11, h⟩ := bind_so h
              refine k_call (g58_ok R5.2 e11) (fun M11 R11 => ?_)
              refine k_grF 1 R11 (R11.obF (by decide) rfl) rfl ?_
              obtain ⟨V12, e12, h⟩ := lt_so h
              refine k_gi R11 (R11.obF (by decide) rfl) rfl e12 (fun v12 z12 => ?_)
              refine k_some ?_
              refine k_ob (R11.obF (by decide) rfl) ?_
              obtain ⟨p13, e13, h⟩ := bind_so h
              refine k_call (g11_ok R11 t1 t2 t3 t4 z12 e13) (fun b13 R13 => ?_)
              exact k_retI R13.2 R13.1 h
            · exact k_retI R5.2 tI_m1 h
      · exact k_retI R5.2 tI_m1 h
/-- PupilCoin.isDay(I)Z -/
def g104 (X0 : Int) (S : gM) : Option (Int × gM) :=
  if X0 < 0 then
    some (0, S)
  else
    if 999 < X0 then
      some (0, S)
    else
      some (1, S)
theorem g104_ok {x0 : Int32} {X0 : Int} {S : gM} {M : vm_M} {r : Int × gM} (hR : Rel S M) (t0 : x0.toInt = X0) (h : g104 X0 S = some r) : Mp gRI (f104 x0 M) r := by
  unfold g104 at h
  unfold f104
  refine k_ite (c_lt t0 tI_0) h (fun c1 h => ?_) (fun c1 h => ?_)
  · exact k_retZ hR tI_0 (by decide) h
  · refine k_ite (c_lt tI_999 t0) h (fun c2 h => ?_) (fun c2 h => ?_)
    · exact k_retZ hR tI_0 (by decide) h
    · exact k_retZ hR tI_1 (by decide) h
/-- PupilCoin.marked(IIII)I -/
def g80 (X1 : Int) (X2 : Int) (X3 : Int) (X4 : Int) (S : gM) : Option (Int × gM) :=
  (g105 X1 S).bind fun p1 =>
  if p1.1 = 0 then
    some ((-1), p1.2)
  else
    (g103 X2 p1.2).bind fun p3 =>
    if p3.1 = 0 then
      some ((-1), p3.2)
    else
      (g102 X3 6 p3.2).bind fun p5 =>
      if p5.1 = 0 then
        some ((-1), p5.2)
      else
        (g104 X4 p5.2).bind fun p7 =>
        if ¬ p7.1 = 0 then
          (g12 X1 X2 X3 X4 p7.2).bind fun p9 =>
          some (p9.1, p9.2)
        else
          some ((-1), p7.2)
theorem g80_ok {x1 : Int32} {X1 : Int} {x2 : Int32} {X2 : Int} {x3 : Int32} {X3 : Int} {x4 : Int32} {X4 : Int} {S : gM} {M : vm_M} {r : Int × gM} (hR : Rel S M) (t1 : x1.toInt = X1) (t2 : x2.toInt = X2) (t3 : x3.toInt = X3) (t4 : x4.toInt = X4) (h : g80 X1 X2 X3 X4 S = some r) : Mp gRI (f80 0 x1 x2 x3 x4 M) r := by
  unfold g80 at h
  unfold f80
  refine k_ob (hR.obF (by decide) rfl) ?_
  obtain ⟨p1, e1, h⟩ := bind_so h
  refine k_call (g105_ok hR t1 e1) (fun b1 R1 => ?_)
  refine k_ite (c_eq R1.1 tI_0) h (fun c2 h => ?_) (fun c2 h => ?_)
  · exact k_retI R1.2 tI_m1 h
  · obtain ⟨p3, e3, h⟩ := bind_so h
    refine k_call (g103_ok R1.2 t2 e3) (fun b3 R3 => ?_)
    refine k_ite (c_eq R3.1 tI_0) h (fun c4 h => ?_) (fun c4 h => ?_)
    · exact k_retI R3.2 tI_m1 h
    · obtain ⟨p5, e5, h⟩ := bind_so h
      refine k_call (g102_ok R3.2 t3 tI_6 e5) (fun b5 R5 => ?_)
      refine k_ite (c_eq R5.1 tI_0) h (fun c6 h => ?_) (fun c6 h => ?_)
      · exact k_retI R5.2 tI_m1 h
      · obtain ⟨p7, e7, h⟩ := bind_so h
        refine k_call (g104_ok R5.2 t4 e7) (fun b7 R7 => ?_)
        refine k_ite (c_ne R7.1 tI_0) h (fun c8 h => ?_) (fun c8 h => ?_)
        · refine k_grF 1 R7.2 (R7.2.obF (by decide) rfl) rfl ?_
          refine k_some ?_
          refine k_ob (R7.2.obF (by decide) rfl) ?_
          obtain ⟨p9, e9, h⟩ := bind_so h
          refine k_call (g12_ok R7.2 t1 t2 t3 t4 e9) (fun b9 R9 => ?_)
          exact k_retI R9.2 R9.1 h
        · exact k_retI R7.2 tI_m1 h
/-- PupilCoin.isLaterYear(I)Z -/
def g106 (X1 : Int) (S : gM) : Option (Int × gM) :=
  (g103 X1 S).bind fun p1 =>
  if p1.1 = 0 then
    some (0, p1.2)
  else
    w_lt (gi p1.2 0 10) fun V3 =>
    w_ckI (V3.tdiv 100) fun V4 =>
    if X1 ≤ V4 then
      some (0, p1.2)
    else
      some (1, p1.2)
theorem g106_ok {x1 : Int32} {X1 : Int} {S : gM} {M : vm_M} {r : Int × gM} (hR : Rel S M) (t1 : x1.toInt = X1) (h : g106 X1 S = some r) : Mp gRI (f106 0 x1 M) r := by
  unfold g106 at h
  unfold f106
  obtain ⟨p1, e1, h⟩ := bind_so h
  refine k_call (g103_ok hR t1 e1) (fun b1 R1 => ?_)
  refine k_ite (c_eq R1.1 tI_0) h (fun c2 h => ?_) (fun c2 h => ?_)
  · exact k_retZ R1.2 tI_0 (by decide) h
  · obtain ⟨V3, e3, h⟩ := lt_so h
    refine k_gi R1.2 (R1.2.obF (by decide) rfl) rfl e3 (fun v3 z3 => ?_)
    obtain ⟨V4, e4, c4, h⟩ := ckI_so h
    refine k_dvI z3 tI_100 (by decide) c4 e4 (fun v4 z4 => ?_)
    refine k_ite (c_le t1 z4) h (fun c5 h => ?_) (fun c5 h => ?_)
    · exact k_retZ R1.2 tI_0 (by decide) h
    · exact k_retZ R1.2 tI_1 (by decide) h
/-- PupilCoin.join(III)I -/
def g81 (X1 : Int) (X2 : Int) (X3 : Int) (S : gM) : Option (Int × gM) :=
  (g105 X1 S).bind fun p1 =>
  if p1.1 = 0 then
    some ((-1), p1.2)
  else
    (g105 X2 p1.2).bind fun p3 =>
    if p3.1 = 0 then
      some ((-1), p3.2)
    else
      if ¬ X1 = X2 then
        (g106 X3 p3.2).bind fun p6 =>
        if p6.1 = 0 then
          some ((-1), p6.2)
        else
          w_lt (gi p6.2 1 8) fun V8 =>
          if V8 < 6 then
            (g3 X1 p6.2).bind fun p10 =>
            if ¬ p10.1 = 0 then
              some ((-1), p10.2)
            else
              (g3 X2 p10.2).bind fun p12 =>
              if p12.1 = 0 then
                (g58 p12.2).bind fun p14 =>
                (g4 X1 X2 X3 p14).bind fun p15 =>
                some (p15.1, p15.2)
              else
                some ((-1), p12.2)
          else
            some ((-1), p6.2)
      else
        some ((-1), p3.2)
theorem g81_ok {x1 : Int32} {X1 : Int} {x2 : Int32} {X2 : Int} {x3 : Int32} {X3 : Int} {S : gM} {M : vm_M} {r : Int × gM} (hR : Rel S M) (t1 : x1.toInt = X1) (t2 : x2.toInt = X2) (t3 : x3.toInt = X3) (h : g81 X1 X2 X3 S = some r) : Mp gRI (f81 0 x1 x2 x3 M) r := by
  unfold g81 at h
  unfold f81
  refine k_ob (hR.obF (by decide) rfl) ?_
  obtain ⟨p1, e1, h⟩ := bind_so h
  refine k_call (g105_ok hR t1 e1) (fun b1 R1 => ?_)
  refine k_ite (c_eq R1.1 tI_0) h (fun c2 h => ?_) (fun c2 h => ?_)
  · exact k_retI R1.2 tI_m1 h
  · refine k_ob (R1.2.obF (by decide) rfl) ?_
    obtain ⟨p3, e3, h⟩ := bind_so h
    refine k_call (g105_ok R1.2 t2 e3) (fun b3 R3 => ?_)
    refine k_ite (c_eq R3.1 tI_0) h (fun c4 h => ?_) (fun c4 h => ?_)
    · exact k_retI R3.2 tI_m1 h
    · refine k_ite (c_ne t1 t2) h (fun c5 h => ?_) (fun c5 h => ?_)
      · refine k_ob (R3.2.obF (by decide) rfl) ?_
        obtain ⟨p6, e6, h⟩ := bind_so h
        refine k_call (g106_ok R3.2 t3 e6) (fun b6 R6 => ?_)
        refine k_ite (c_eq R6.1 tI_0) h (fun c7 h => ?_) (fun c7 h => ?_)
        · exact k_retI R6.2 tI_m1 h
        · refine k_grF 0 R6.2 (R6.2.obF (by decide) rfl) rfl ?_
          refine k_some ?_
          obtain ⟨V8, e8, h⟩ := lt_so h
          refine k_gi R6.2 (R6.2.obF (by decide) rfl) rfl e8 (fun v8 z8 => ?_)
          refine k_ite (c_lt z8 tI_6) h (fun c9 h => ?_) (fun c9 h => ?_)
          · refine k_grF 0 R6.2 (R6.2.obF (by decide) rfl) rfl ?_
            refine k_some ?_
            refine k_ob (R6.2.obF (by decide) rfl) ?_
            obtain ⟨p10, e10, h⟩ := bind_so h
            refine k_call (g3_ok R6.2 t1 e10) (fun b10 R10 => ?_)
            refine k_ite (c_ne R10.1 tI_0) h (fun c11 h => ?_) (fun c11 h => ?_)
            · exact k_retI R10.2 tI_m1 h
            · refine k_grF 0 R10.2 (R10.2.obF (by decide) rfl) rfl ?_
              refine k_some ?_
              refine k_ob (R10.2.obF (by decide) rfl) ?_
              obtain ⟨p12, e12, h⟩ := bind_so h
              refine k_call (g3_ok R10.2 t2 e12) (fun b12 R12 => ?_)
              refine k_ite (c_eq R12.1 tI_0) h (fun c13 h => ?_) (fun c13 h => ?_)
              · refine k_grF 4 R12.2 (R12.2.obF (by decide) rfl) rfl ?_
                refine k_some ?_
                refine k_ob (R12.2.obF (by decide) rfl) ?_
                obtain ⟨p14, e14, h⟩ := bind_so h
                refine k_call (g58_ok R12.2 e14) (fun M14 R14 => ?_)
                refine k_grF 0 R14 (R14.obF (by decide) rfl) rfl ?_
                refine k_some ?_
                refine k_ob (R14.obF (by decide) rfl) ?_
                obtain ⟨p15, e15, h⟩ := bind_so h
                refine k_call (g4_ok R14 t1 t2 t3 e15) (fun b15 R15 => ?_)
                exact k_retI R15.2 R15.1 h
              · exact k_retI R12.2 tI_m1 h
          · exact k_retI R6.2 tI_m1 h
      · exact k_retI R3.2 tI_m1 h
/-- PupilCoin.open(II)I -/
def g82 (X1 : Int) (X2 : Int) (S : gM) : Option (Int × gM) :=
  (g105 X1 S).bind fun p1 =>
  if p1.1 = 0 then
    some ((-1), p1.2)
  else
    (g103 X2 p1.2).bind fun p3 =>
    if ¬ p3.1 = 0 then
      (g2 X1 X2 p3.2).bind fun p5 =>
      if p5.1 = 0 then
        some (0, p5.2)
      else
        some (1, p5.2)
    else
      some ((-1), p3.2)
theorem g82_ok {x1 : Int32} {X1 : Int} {x2 : Int32} {X2 : Int} {S : gM} {M : vm_M} {r : Int × gM} (hR : Rel S M) (t1 : x1.toInt = X1) (t2 : x2.toInt = X2) (h : g82 X1 X2 S = some r) : Mp gRI (f82 0 x1 x2 M) r := by
  unfold g82 at h
  unfold f82
  refine k_ob (hR.obF (by decide) rfl) ?_
  obtain ⟨p1, e1, h⟩ := bind_so h
  refine k_call (g105_ok hR t1 e1) (fun b1 R1 => ?_)
  refine k_ite (c_eq R1.1 tI_0) h (fun c2 h => ?_) (fun c2 h => ?_)
  · exact k_retI R1.2 tI_m1 h
  · obtain ⟨p3, e3, h⟩ := bind_so h
    refine k_call (g103_ok R1.2 t2 e3) (fun b3 R3 => ?_)
    refine k_ite (c_ne R3.1 tI_0) h (fun c4 h => ?_) (fun c4 h => ?_)
    · refine k_grF 0 R3.2 (R3.2.obF (by decide) rfl) rfl ?_
      refine k_some ?_
      refine k_ob (R3.2.obF (by decide) rfl) ?_
      obtain ⟨p5, e5, h⟩ := bind_so h
      refine k_call (g2_ok R3.2 t1 t2 e5) (fun b5 R5 => ?_)
      refine k_ite (c_eq R5.1 tI_0) h (fun c6 h => ?_) (fun c6 h => ?_)
      · exact k_retI R5.2 tI_0 h
      · exact k_retI R5.2 tI_1 h
    · exact k_retI R3.2 tI_m1 h
def g107_l3 (X1 : Int) : Nat → Int → gM → Option (gM)
  | 0 => fun _ _ => none
  | n + 1 => fun X2 S =>
    if X2 < 0 then
      some S
    else
      w_lt (gi S 0 7) fun V2 =>
      if 700 ≤ V2 then
        w_ckI (X2 + (-8)) fun V4 =>
        g107_l3 X1 n V4 S
      else
        w_lt (gi S 0 7) fun V5 =>
        w_ckI (V5 + 1) fun V6 =>
        w_lt (wi S 0 7 V6) fun S7 =>
        w_lt (b_ushr X1 X2) fun V8 =>
        w_lt (b_and V8 255) fun V9 =>
        w_chk ((0 : Int) ≤ V5 ∧ V5 < 700) <|
        w_lt (wi S7 54 V5 V9) fun S11 =>
        w_ckI (X2 + (-8)) fun V12 =>
        g107_l3 X1 n V12 S11
theorem g107_l3_ok {x1 : Int32} {X1 : Int} {r : gM} (t1 : x1.toInt = X1) : ∀ (n : Nat) (x2 : Int32) (X2 : Int) (S : gM) (M : vm_M), Rel S M → x2.toInt = X2 → g107_l3 X1 n X2 S = some r → Mp gRV (f107_l3 0 x1 n x2 M) r := by
  intro n
  induction n with
  | zero =>
    intro x2 X2 S M hR t2 h
    cases h
  | succ n ih =>
    intro x2 X2 S M hR t2 h
    dsimp only [g107_l3] at h
    dsimp only [f107_l3]
    refine k_ite (c_lt t2 tI_0) h (fun c1 h => ?_) (fun c1 h => ?_)
    · exact k_retV hR h
    · obtain ⟨V2, e2, h⟩ := lt_so h
      refine k_gi hR (hR.obF (by decide) rfl) rfl e2 (fun v2 z2 => ?_)
      refine k_ite (c_le tI_700 z2) h (fun c3 h => ?_) (fun c3 h => ?_)
      · obtain ⟨V4, e4, c4, h⟩ := ckI_so h
        exact ih _ _ _ _ hR (t_add t2 tI_m8 c4 e4) h
      · refine k_grF 6 hR (hR.obF (by decide) rfl) rfl ?_
        obtain ⟨V5, e5, h⟩ := lt_so h
        refine k_gi hR (hR.obF (by decide) rfl) rfl e5 (fun v5 z5 => ?_)
        obtain ⟨V6, e6, c6, h⟩ := ckI_so h
        obtain ⟨S7, e7, h⟩ := lt_so h
        refine k_pi hR (hR.obF (by decide) rfl) rfl (t_add z5 tI_1 c6 e6) e7 (fun M7 R7 => ?_)
        obtain ⟨V8, e8, h⟩ := lt_so h
        obtain ⟨V9, e9, h⟩ := lt_so h
        refine k_some ?_
        obtain ⟨c10, h⟩ := chk_so h
        obtain ⟨S11, e11, h⟩ := lt_so h
        refine k_si R7 (R7.lnF (by decide) rfl) rfl z5 c10 (t_and (t_ushr t1 t2 e8) tI_255 e9) e11 (fun M11 R11 => ?_)
        obtain ⟨V12, e12, c12, h⟩ := ckI_so h
        exact ih _ _ _ _ R11 (t_add t2 tI_m8 c12 e12) h
/-- PupilCoin.tapeNumber(I)V -/
def g107 (X1 : Int) (S : gM) : Option (gM) :=
  g107_l3 X1
  
    100000 24 S
theorem g107_ok {x1 : Int32} {X1 : Int} {S : gM} {M : vm_M} {r : gM} (hR : Rel S M) (t1 : x1.toInt = X1) (h : g107 X1 S = some r) : Mp gRV (f107 0 x1 M) r := by
  unfold g107 at h
  unfold f107
  refine g107_l3_ok t1 100000 _ _ _ _ hR tI_24 h
/-- PupilCoin.feed(IIIII)I -/
def g83 (X1 : Int) (X2 : Int) (X3 : Int) (X4 : Int) (X5 : Int) (S : gM) : Option (Int × gM) :=
  w_lt (gi S 0 7) fun V1 =>
  if V1 ≤ 680 then
    (g107 X1 S).bind fun p3 =>
    (g107 X2 p3).bind fun p4 =>
    (g107 X3 p4).bind fun p5 =>
    (g107 X4 p5).bind fun p6 =>
    (g107 X5 p6).bind fun p7 =>
    w_lt (gi p7 0 7) fun V8 =>
    some (V8, p7)
  else
    some ((-1), S)
theorem g83_ok {x1 : Int32} {X1 : Int} {x2 : Int32} {X2 : Int} {x3 : Int32} {X3 : Int} {x4 : Int32} {X4 : Int} {x5 : Int32} {X5 : Int} {S : gM} {M : vm_M} {r : Int × gM} (hR : Rel S M) (t1 : x1.toInt = X1) (t2 : x2.toInt = X2) (t3 : x3.toInt = X3) (t4 : x4.toInt = X4) (t5 : x5.toInt = X5) (h : g83 X1 X2 X3 X4 X5 S = some r) : Mp gRI (f83 0 x1 x2 x3 x4 x5 M) r := by
  unfold g83 at h
  unfold f83
  obtain ⟨V1, e1, h⟩ := lt_so h
  refine k_gi hR (hR.obF (by decide) rfl) rfl e1 (fun v1 z1 => ?_)
  refine k_ite (c_le z1 tI_680) h (fun c2 h => ?_) (fun c2 h => ?_)
  · refine k_ob (hR.obF (by decide) rfl) ?_
    obtain ⟨p3, e3, h⟩ := bind_so h
    refine k_call (g107_ok hR t1 e3) (fun M3 R3 => ?_)
    refine k_ob (R3.obF (by decide) rfl) ?_
    obtain ⟨p4, e4, h⟩ := bind_so h
    refine k_call (g107_ok R3 t2 e4) (fun M4 R4 => ?_)
    refine k_ob (R4.obF (by decide) rfl) ?_
    obtain ⟨p5, e5, h⟩ := bind_so h
    refine k_call (g107_ok R4 t3 e5) (fun M5 R5 => ?_)
    refine k_ob (R5.obF (by decide) rfl) ?_
    obtain ⟨p6, e6, h⟩ := bind_so h
    refine k_call (g107_ok R5 t4 e6) (fun M6 R6 => ?_)
    refine k_ob (R6.obF (by decide) rfl) ?_
    obtain ⟨p7, e7, h⟩ := bind_so h
    refine k_call (g107_ok R6 t5 e7) (fun M7 R7 => ?_)
    obtain ⟨V8, e8, h⟩ := lt_so h
    refine k_gi R7 (R7.obF (by decide) rfl) rfl e8 (fun v8 z8 => ?_)
    exact k_retI R7 z8 h
  · exact k_retI hR tI_m1 h
/-- PupilCoin.formula(II)I -/
def g84 (X1 : Int) (X2 : Int) (S : gM) : Option (Int × gM) :=
  if X1 < 0 then
    some ((-2), S)
  else
    w_lt (gi S 0 7) fun V2 =>
    if V2 < X1 then
      some ((-2), S)
    else
      (g103 X2 S).bind fun p4 =>
      if p4.1 = 0 then
        some ((-2), p4.2)
      else
        w_lt (gi p4.2 0 10) fun V6 =>
        w_ckI (V6.tdiv 100) fun V7 =>
        if V7 ≤ X2 then
          w_lt (gi p4.2 23 2) fun V9 =>
          if V9 < 8 then
            (g31 X1 p4.2).bind fun p11 =>
            w_lt (wi p11.2 0 9 p11.1) fun S12 =>
            w_lt (wi S12 0 7 0) fun S13 =>
            w_lt (gi S13 0 9) fun V14 =>
            if V14 = (-1) then
              (g58 S13).bind fun p16 =>
              w_lt (gmk p16 (.inl 1) (vg_N 1) (fun _ => 0)) fun S17 =>
              w_lt (gi S17 23 2) fun V18 =>
              w_lt (gi S17 0 10) fun V19 =>
              (g8 (gn p16) V18 X2 V19 S17).bind fun p20 =>
              (g55 (gn p16) p20).bind fun p21 =>
              some (p21.1, p21.2)
            else
              some ((-1), S13)
          else
            some ((-3), p4.2)
        else
          some ((-2), p4.2)
theorem g84_ok {x1 : Int32} {X1 : Int} {x2 : Int32} {X2 : Int} {S : gM} {M : vm_M} {r : Int × gM} (hR : Rel S M) (t1 : x1.toInt = X1) (t2 : x2.toInt = X2) (h : g84 X1 X2 S = some r) : Mp gRI (f84 0 x1 x2 M) r := by
  unfold g84 at h
  unfold f84
  refine k_ite (c_lt t1 tI_0) h (fun c1 h => ?_) (fun c1 h => ?_)
  · exact k_retI hR tI_m2 h
  · obtain ⟨V2, e2, h⟩ := lt_so h
    refine k_gi hR (hR.obF (by decide) rfl) rfl e2 (fun v2 z2 => ?_)
    refine k_ite (c_lt z2 t1) h (fun c3 h => ?_) (fun c3 h => ?_)
    · exact k_retI hR tI_m2 h
    · obtain ⟨p4, e4, h⟩ := bind_so h
      refine k_call (g103_ok hR t2 e4) (fun b4 R4 => ?_)
      refine k_ite (c_eq R4.1 tI_0) h (fun c5 h => ?_) (fun c5 h => ?_)
      · exact k_retI R4.2 tI_m2 h
      · obtain ⟨V6, e6, h⟩ := lt_so h
        refine k_gi R4.2 (R4.2.obF (by decide) rfl) rfl e6 (fun v6 z6 => ?_)
        obtain ⟨V7, e7, c7, h⟩ := ckI_so h
        refine k_dvI z6 tI_100 (by decide) c7 e7 (fun v7 z7 => ?_)
        refine k_ite (c_le z7 t2) h (fun c8 h => ?_) (fun c8 h => ?_)
        · refine k_grF 3 R4.2 (R4.2.obF (by decide) rfl) rfl ?_
          refine k_some ?_
          obtain ⟨V9, e9, h⟩ := lt_so h
          refine k_gi R4.2 (R4.2.obF (by decide) rfl) rfl e9 (fun v9 z9 => ?_)
          refine k_ite (c_lt z9 tI_8) h (fun c10 h => ?_) (fun c10 h => ?_)
          · refine k_grF 2 R4.2 (R4.2.obF (by decide) rfl) rfl ?_
            refine k_grF 6 R4.2 (R4.2.obF (by decide) rfl) rfl ?_
            refine k_some ?_
            refine k_some ?_
            refine k_ob (R4.2.obF (by decide) rfl) ?_
            obtain ⟨p11, e11, h⟩ := bind_so h
            refine k_call (g31_ok R4.2 t1 e11) (fun b11 R11 => ?_)
            obtain ⟨S12, e12, h⟩ := lt_so h
            refine k_pi R11.2 (R11.2.obF (by decide) rfl) rfl R11.1 e12 (fun M12 R12 => ?_)
            obtain ⟨S13, e13, h⟩ := lt_so h
            refine k_pi R12 (R12.obF (by decide) rfl) rfl tI_0 e13 (fun M13 R13 => ?_)
            obtain ⟨V14, e14, h⟩ := lt_so h
            refine k_gi R13 (R13.obF (by decide) rfl) rfl e14 (fun v14 z14 => ?_)
            refine k_ite (c_eq z14 tI_m1) h (fun c15 h => ?_) (fun c15 h => ?_)
            · refine k_grF 4 R13 (R13.obF (by decide) rfl) rfl ?_
              refine k_some ?_
              refine k_ob (R13.obF (by decide) rfl) ?_
              obtain ⟨p16, e16, h⟩ := bind_so h
              refine k_call (g58_ok R13 e16) (fun M16 R16 => ?_)
              refine k_grF 3 R16 (R16.obF (by decide) rfl) rfl ?_
              obtain ⟨S17, e17, h⟩ := lt_so h
              refine k_no R16 e17 (fun M17 R17 => ?_)
              rw [R16.n]
              refine k_grF 2 R17 (R17.obF (by decide) rfl) rfl ?_
              refine k_grF 3 R17 (R17.obF (by decide) rfl) rfl ?_
              refine k_some ?_
              obtain ⟨V18, e18, h⟩ := lt_so h
              refine k_gi R17 (R17.obF (by decide) rfl) rfl e18 (fun v18 z18 => ?_)
              obtain ⟨V19, e19, h⟩ := lt_so h
              refine k_gi R17 (R17.obF (by decide) rfl) rfl e19 (fun v19 z19 => ?_)
              refine k_some ?_
              obtain ⟨p20, e20, h⟩ := bind_so h
              refine k_call (g8_ok R17 z18 t2 z19 e20) (fun M20 R20 => ?_)
              refine k_ob (R20.obF (by decide) rfl) ?_
              obtain ⟨p21, e21, h⟩ := bind_so h
              refine k_call (g55_ok R20 e21) (fun b21 R21 => ?_)
              exact k_retI R21.2 R21.1 h
            · exact k_retI R13 tI_m1 h
          · exact k_retI R4.2 tI_m3 h
        · exact k_retI R4.2 tI_m2 h
def g85_j63 (xs1 : Option Nat) (S : gM) : Option (Int × gM) :=
  w_lt (wr S 0 8 xs1) fun S9 =>
  w_lt (gi S9 0 9) fun V10 =>
  if ¬ V10 = (-1) then
    some ((-1), S9)
  else
    some (0, S9)
theorem g85_j63_ok {xs1 : Option Nat} {S : gM} {M : vm_M} {r : Int × gM} (hR : Rel S M) (h : g85_j63 xs1 S = some r) : Mp gRI (f85_j63 0 0 xs1 M) r := by
  unfold g85_j63 at h
  unfold f85_j63
  obtain ⟨S9, e9, h⟩ := lt_so h
  refine k_pr hR (hR.obF (by decide) rfl) (by decide) e9 (fun M9 R9 => ?_)
  obtain ⟨V10, e10, h⟩ := lt_so h
  refine k_gi R9 (R9.obF (by decide) rfl) rfl e10 (fun v10 z10 => ?_)
  refine k_ite (c_ne z10 tI_m1) h (fun c11 h => ?_) (fun c11 h => ?_)
  · exact k_retI R9 tI_m1 h
  · exact k_retI R9 tI_0 h
/-- PupilCoin.beside(I)I -/
def g85 (X1 : Int) (S : gM) : Option (Int × gM) :=
  if X1 < 0 then
    some ((-2), S)
  else
    w_lt (gi S 0 7) fun V2 =>
    if X1 ≤ V2 then
      (g31 X1 S).bind fun p4 =>
      w_lt (wi p4.2 0 9 p4.1) fun S5 =>
      w_lt (wi S5 0 7 0) fun S6 =>
      w_lt (gi S6 0 9) fun V7 =>
      if ¬ V7 = (-1) then
        g85_j63 none S6
      else
        w_lt (gmk S6 (.inl 1) (vg_N 1) (fun _ => 0)) fun S12 =>
        (g8 (gn S6) (-1) 0 0 S12).bind fun p13 =>
        g85_j63 (some (gn S6)) p13
    else
      some ((-2), S)
theorem g85_ok {x1 : Int32} {X1 : Int} {S : gM} {M : vm_M} {r : Int × gM} (hR : Rel S M) (t1 : x1.toInt = X1) (h : g85 X1 S = some r) : Mp gRI (f85 0 x1 M) r := by
  unfold g85 at h
  unfold f85
  refine k_ite (c_lt t1 tI_0) h (fun c1 h => ?_) (fun c1 h => ?_)
  · exact k_retI hR tI_m2 h
  · obtain ⟨V2, e2, h⟩ := lt_so h
    refine k_gi hR (hR.obF (by decide) rfl) rfl e2 (fun v2 z2 => ?_)
    refine k_ite (c_le t1 z2) h (fun c3 h => ?_) (fun c3 h => ?_)
    · refine k_grF 2 hR (hR.obF (by decide) rfl) rfl ?_
      refine k_grF 6 hR (hR.obF (by decide) rfl) rfl ?_
      refine k_some ?_
      refine k_some ?_
      refine k_ob (hR.obF (by decide) rfl) ?_
      obtain ⟨p4, e4, h⟩ := bind_so h
      refine k_call (g31_ok hR t1 e4) (fun b4 R4 => ?_)
      obtain ⟨S5, e5, h⟩ := lt_so h
      refine k_pi R4.2 (R4.2.obF (by decide) rfl) rfl R4.1 e5 (fun M5 R5 => ?_)
      obtain ⟨S6, e6, h⟩ := lt_so h
      refine k_pi R5 (R5.obF (by decide) rfl) rfl tI_0 e6 (fun M6 R6 => ?_)
      obtain ⟨V7, e7, h⟩ := lt_so h
      refine k_gi R6 (R6.obF (by decide) rfl) rfl e7 (fun v7 z7 => ?_)
      refine k_ite (c_ne z7 tI_m1) h (fun c8 h => ?_) (fun c8 h => ?_)
      · exact g85_j63_ok R6 h
      · obtain ⟨S12, e12, h⟩ := lt_so h
        refine k_no R6 e12 (fun M12 R12 => ?_)
        rw [R6.n]
        refine k_grF 2 R12 (R12.obF (by decide) rfl) rfl ?_
        refine k_some ?_
        obtain ⟨p13, e13, h⟩ := bind_so h
        refine k_call (g8_ok R12 tI_m1 tI_0 tI_0 e13) (fun M13 R13 => ?_)
        exact g85_j63_ok R13 h
    · exact k_retI hR tI_m2 h
