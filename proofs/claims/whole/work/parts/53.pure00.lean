/-! the methods over Ints, by program (wip/gen_pure.py) -/
/-! literals -/
theorem rfl_far {q k : Nat} (h : 103 ≤ q) : ∀ e ∈ wh_rfl, ¬ (e.1 = q ∧ e.2.1 = k) := fun e he z => by
  have := (by decide : ∀ e ∈ wh_rfl, e.1 < 103) e he
  omega
theorem tI_m8 : ((-8) : Int32).toInt = (-8) := by decide
theorem tI_m3 : ((-3) : Int32).toInt = (-3) := by decide
theorem tI_m2 : ((-2) : Int32).toInt = (-2) := by decide
theorem tI_m1 : ((-1) : Int32).toInt = (-1) := by decide
theorem tI_0 : (0 : Int32).toInt = 0 := by decide
theorem tI_1 : (1 : Int32).toInt = 1 := by decide
theorem tI_2 : (2 : Int32).toInt = 2 := by decide
theorem tI_3 : (3 : Int32).toInt = 3 := by decide
theorem tI_4 : (4 : Int32).toInt = 4 := by decide
theorem tI_5 : (5 : Int32).toInt = 5 := by decide
theorem tI_6 : (6 : Int32).toInt = 6 := by decide
theorem tI_7 : (7 : Int32).toInt = 7 := by decide
theorem tI_8 : (8 : Int32).toInt = 8 := by decide
theorem tI_9 : (9 : Int32).toInt = 9 := by decide
theorem tI_10 : (10 : Int32).toInt = 10 := by decide
theorem tI_11 : (11 : Int32).toInt = 11 := by decide
theorem tI_12 : (12 : Int32).toInt = 12 := by decide
theorem tI_13 : (13 : Int32).toInt = 13 := by decide
theorem tI_14 : (14 : Int32).toInt = 14 := by decide
theorem tI_15 : (15 : Int32).toInt = 15 := by decide
theorem tI_16 : (16 : Int32).toInt = 16 := by decide
theorem tI_20 : (20 : Int32).toInt = 20 := by decide
theorem tI_21 : (21 : Int32).toInt = 21 := by decide
theorem tI_24 : (24 : Int32).toInt = 24 := by decide
theorem tI_30 : (30 : Int32).toInt = 30 := by decide
theorem tI_31 : (31 : Int32).toInt = 31 := by decide
theorem tI_32 : (32 : Int32).toInt = 32 := by decide
theorem tI_33 : (33 : Int32).toInt = 33 := by decide
theorem tI_34 : (34 : Int32).toInt = 34 := by decide
theorem tI_40 : (40 : Int32).toInt = 40 := by decide
theorem tI_41 : (41 : Int32).toInt = 41 := by decide
theorem tI_42 : (42 : Int32).toInt = 42 := by decide
theorem tI_43 : (43 : Int32).toInt = 43 := by decide
theorem tI_44 : (44 : Int32).toInt = 44 := by decide
theorem tI_45 : (45 : Int32).toInt = 45 := by decide
theorem tI_47 : (47 : Int32).toInt = 47 := by decide
theorem tI_48 : (48 : Int32).toInt = 48 := by decide
theorem tI_57 : (57 : Int32).toInt = 57 := by decide
theorem tI_59 : (59 : Int32).toInt = 59 := by decide
theorem tI_60 : (60 : Int32).toInt = 60 := by decide
theorem tI_61 : (61 : Int32).toInt = 61 := by decide
theorem tI_62 : (62 : Int32).toInt = 62 := by decide
theorem tI_63 : (63 : Int32).toInt = 63 := by decide
theorem tI_64 : (64 : Int32).toInt = 64 := by decide
theorem tI_97 : (97 : Int32).toInt = 97 := by decide
theorem tI_100 : (100 : Int32).toInt = 100 := by decide
theorem tI_122 : (122 : Int32).toInt = 122 := by decide
theorem tI_123 : (123 : Int32).toInt = 123 := by decide
theorem tI_125 : (125 : Int32).toInt = 125 := by decide
theorem tI_144 : (144 : Int32).toInt = 144 := by decide
theorem tI_255 : (255 : Int32).toInt = 255 := by decide
theorem tI_256 : (256 : Int32).toInt = 256 := by decide
theorem tI_257 : (257 : Int32).toInt = 257 := by decide
theorem tI_258 : (258 : Int32).toInt = 258 := by decide
theorem tI_259 : (259 : Int32).toInt = 259 := by decide
theorem tI_260 : (260 : Int32).toInt = 260 := by decide
theorem tI_261 : (261 : Int32).toInt = 261 := by decide
theorem tI_262 : (262 : Int32).toInt = 262 := by decide
theorem tI_263 : (263 : Int32).toInt = 263 := by decide
theorem tI_264 : (264 : Int32).toInt = 264 := by decide
theorem tI_265 : (265 : Int32).toInt = 265 := by decide
theorem tI_266 : (266 : Int32).toInt = 266 := by decide
theorem tI_267 : (267 : Int32).toInt = 267 := by decide
theorem tI_268 : (268 : Int32).toInt = 268 := by decide
theorem tI_269 : (269 : Int32).toInt = 269 := by decide
theorem tI_270 : (270 : Int32).toInt = 270 := by decide
theorem tI_279 : (279 : Int32).toInt = 279 := by decide
theorem tI_280 : (280 : Int32).toInt = 280 := by decide
theorem tI_281 : (281 : Int32).toInt = 281 := by decide
theorem tI_282 : (282 : Int32).toInt = 282 := by decide
theorem tI_283 : (283 : Int32).toInt = 283 := by decide
theorem tI_300 : (300 : Int32).toInt = 300 := by decide
theorem tI_441 : (441 : Int32).toInt = 441 := by decide
theorem tI_680 : (680 : Int32).toInt = 680 := by decide
theorem tI_700 : (700 : Int32).toInt = 700 := by decide
theorem tI_999 : (999 : Int32).toInt = 999 := by decide
theorem tI_1000 : (1000 : Int32).toInt = 1000 := by decide
theorem tI_1500 : (1500 : Int32).toInt = 1500 := by decide
theorem tI_9999 : (9999 : Int32).toInt = 9999 := by decide
theorem tI_13500 : (13500 : Int32).toInt = 13500 := by decide
theorem tI_1000000 : (1000000 : Int32).toInt = 1000000 := by decide
theorem tI_9999999 : (9999999 : Int32).toInt = 9999999 := by decide
theorem tI_252645135 : (252645135 : Int32).toInt = 252645135 := by decide
theorem tI_858993459 : (858993459 : Int32).toInt = 858993459 := by decide
theorem tI_999999999 : (999999999 : Int32).toInt = 999999999 := by decide
theorem tI_1431655765 : (1431655765 : Int32).toInt = 1431655765 := by decide
theorem tJ_m2000000000000 : ((-2000000000000) : Int64).toInt = (-2000000000000) := by decide
theorem tJ_m10000000000 : ((-10000000000) : Int64).toInt = (-10000000000) := by decide
theorem tJ_m100000000 : ((-100000000) : Int64).toInt = (-100000000) := by decide
theorem tJ_m1 : ((-1) : Int64).toInt = (-1) := by decide
theorem tJ_0 : (0 : Int64).toInt = 0 := by decide
theorem tJ_1 : (1 : Int64).toInt = 1 := by decide
theorem tJ_2 : (2 : Int64).toInt = 2 := by decide
theorem tJ_10 : (10 : Int64).toInt = 10 := by decide
theorem tJ_32 : (32 : Int64).toInt = 32 := by decide
theorem tJ_97 : (97 : Int64).toInt = 97 := by decide
theorem tJ_100 : (100 : Int64).toInt = 100 := by decide
theorem tJ_26982 : (26982 : Int64).toInt = 26982 := by decide
theorem tJ_28530 : (28530 : Int64).toInt = 28530 := by decide
theorem tJ_6385252 : (6385252 : Int64).toInt = 6385252 := by decide
theorem tJ_6513008 : (6513008 : Int64).toInt = 6513008 := by decide
theorem tJ_6709618 : (6709618 : Int64).toInt = 6709618 := by decide
theorem tJ_7168376 : (7168376 : Int64).toInt = 7168376 := by decide
theorem tJ_7170414 : (7170414 : Int64).toInt = 7170414 := by decide
theorem tJ_7237492 : (7237492 : Int64).toInt = 7237492 := by decide
theorem tJ_100000000 : (100000000 : Int64).toInt = 100000000 := by decide
theorem tJ_1818325876 : (1818325876 : Int64).toInt = 1818325876 := by decide
theorem tJ_1818848869 : (1818848869 : Int64).toInt = 1818848869 := by decide
theorem tJ_1836021349 : (1836021349 : Int64).toInt = 1836021349 := by decide
theorem tJ_1852138852 : (1852138852 : Int64).toInt = 1852138852 := by decide
theorem tJ_2002874980 : (2002874980 : Int64).toInt = 2002874980 := by decide
theorem tJ_10000000000 : (10000000000 : Int64).toInt = 10000000000 := by decide
theorem tJ_439855772532 : (439855772532 : Int64).toInt = 439855772532 := by decide
theorem tJ_439905906546 : (439905906546 : Int64).toInt = 439905906546 := by decide
theorem tJ_448377480307 : (448377480307 : Int64).toInt = 448377480307 := by decide
theorem tJ_465726563698 : (465726563698 : Int64).toInt = 465726563698 := by decide
theorem tJ_469852318835 : (469852318835 : Int64).toInt = 469852318835 := by decide
theorem tJ_478660552050 : (478660552050 : Int64).toInt = 478660552050 := by decide
theorem tJ_495672455781 : (495672455781 : Int64).toInt = 495672455781 := by decide
theorem tJ_500086104428 : (500086104428 : Int64).toInt = 500086104428 := by decide
theorem tJ_504397587826 : (504397587826 : Int64).toInt = 504397587826 := by decide
theorem tJ_32493203083583852 : (32493203083583852 : Int64).toInt = 32493203083583852 := by decide
theorem tJ_shlN_1 {x : Int64} {X V : Int} (hx : x.toInt = X) (e : V = B_shl X 1) : (x <<< ((1).toInt64 &&& 63)).toInt = V := by
  have h : ((1).toInt64 : Int64) = (1 : Int32).toInt64 := by decide
  rw [h]
  exact tJ_shl hx tI_1 e
theorem tJ_shlN_8 {x : Int64} {X V : Int} (hx : x.toInt = X) (e : V = B_shl X 8) : (x <<< ((8).toInt64 &&& 63)).toInt = V := by
  have h : ((8).toInt64 : Int64) = (8 : Int32).toInt64 := by decide
  rw [h]
  exact tJ_shl hx tI_8 e
/-- PupilCoin$Land.found(III)I -/
def g1 (X1 : Int) (X2 : Int) (X3 : Int) (S : gM) : Option (Int × gM) :=
  w_lt (gi S 1 7) fun V1 =>
  if V1 < 12 then
    w_lt (gi S 1 7) fun V3 =>
    w_chk ((0 : Int) ≤ V3 ∧ V3 < 12) <|
    w_lt (wi S 2 V3 X1) fun S5 =>
    w_lt (gi S5 1 7) fun V6 =>
    w_chk ((0 : Int) ≤ V6 ∧ V6 < 12) <|
    w_lt (wi S5 3 V6 X2) fun S8 =>
    w_lt (gi S8 1 7) fun V9 =>
    w_chk ((0 : Int) ≤ V9 ∧ V9 < 12) <|
    w_lt (wi S8 4 V9 X3) fun S11 =>
    w_lt (gi S11 1 7) fun V12 =>
    w_lt (gi S11 1 7) fun V13 =>
    w_chk ((0 : Int) ≤ V12 ∧ V12 < 12) <|
    w_lt (wi S11 5 V12 V13) fun S15 =>
    w_lt (gi S15 1 7) fun V16 =>
    w_chk ((0 : Int) ≤ V16 ∧ V16 < 12) <|
    w_lt (wi S15 6 V16 10) fun S18 =>
    w_lt (gi S18 1 7) fun V19 =>
    w_ckI (V19 + 1) fun V20 =>
    w_lt (wi S18 1 7 V20) fun S21 =>
    some (V19, S21)
  else
    some ((-1), S)
theorem g1_ok {x1 : Int32} {X1 : Int} {x2 : Int32} {X2 : Int} {x3 : Int32} {X3 : Int} {S : gM} {M : vm_M} {r : Int × gM} (hR : Rel S M) (t1 : x1.toInt = X1) (t2 : x2.toInt = X2) (t3 : x3.toInt = X3) (h : g1 X1 X2 X3 S = some r) : Mp gRI (f1 1 x1 x2 x3 M) r := by
  unfold g1 at h
  unfold f1
  obtain ⟨V1, e1, h⟩ := lt_so h
  refine k_gi hR (hR.obF (by decide) rfl) rfl e1 (fun v1 z1 => ?_)
  refine k_ite (c_lt z1 tI_12) h (fun c2 h => ?_) (fun c2 h => ?_)
  · refine k_grF 7 hR (hR.obF (by decide) rfl) rfl ?_
    obtain ⟨V3, e3, h⟩ := lt_so h
    refine k_gi hR (hR.obF (by decide) rfl) rfl e3 (fun v3 z3 => ?_)
    refine k_some ?_
    obtain ⟨c4, h⟩ := chk_so h
    obtain ⟨S5, e5, h⟩ := lt_so h
    refine k_si hR (hR.lnF (by decide) rfl) rfl z3 c4 t1 e5 (fun M5 R5 => ?_)
    refine k_grF 8 R5 (R5.obF (by decide) rfl) rfl ?_
    obtain ⟨V6, e6, h⟩ := lt_so h
    refine k_gi R5 (R5.obF (by decide) rfl) rfl e6 (fun v6 z6 => ?_)
    refine k_some ?_
    obtain ⟨c7, h⟩ := chk_so h
    obtain ⟨S8, e8, h⟩ := lt_so h
    refine k_si R5 (R5.lnF (by decide) rfl) rfl z6 c7 t2 e8 (fun M8 R8 => ?_)
    refine k_grF 9 R8 (R8.obF (by decide) rfl) rfl ?_
    obtain ⟨V9, e9, h⟩ := lt_so h
    refine k_gi R8 (R8.obF (by decide) rfl) rfl e9 (fun v9 z9 => ?_)
    refine k_some ?_
    obtain ⟨c10, h⟩ := chk_so h
    obtain ⟨S11, e11, h⟩ := lt_so h
    refine k_si R8 (R8.lnF (by decide) rfl) rfl z9 c10 t3 e11 (fun M11 R11 => ?_)
    refine k_grF 10 R11 (R11.obF (by decide) rfl) rfl ?_
    obtain ⟨V12, e12, h⟩ := lt_so h
    refine k_gi R11 (R11.obF (by decide) rfl) rfl e12 (fun v12 z12 => ?_)
    obtain ⟨V13, e13, h⟩ := lt_so h
    refine k_gi R11 (R11.obF (by decide) rfl) rfl e13 (fun v13 z13 => ?_)
    refine k_some ?_
    obtain ⟨c14, h⟩ := chk_so h
    obtain ⟨S15, e15, h⟩ := lt_so h
    refine k_si R11 (R11.lnF (by decide) rfl) rfl z12 c14 z13 e15 (fun M15 R15 => ?_)
    refine k_grF 11 R15 (R15.obF (by decide) rfl) rfl ?_
    obtain ⟨V16, e16, h⟩ := lt_so h
    refine k_gi R15 (R15.obF (by decide) rfl) rfl e16 (fun v16 z16 => ?_)
    refine k_some ?_
    obtain ⟨c17, h⟩ := chk_so h
    obtain ⟨S18, e18, h⟩ := lt_so h
    refine k_si R15 (R15.lnF (by decide) rfl) rfl z16 c17 tI_10 e18 (fun M18 R18 => ?_)
    obtain ⟨V19, e19, h⟩ := lt_so h
    refine k_gi R18 (R18.obF (by decide) rfl) rfl e19 (fun v19 z19 => ?_)
    obtain ⟨V20, e20, c20, h⟩ := ckI_so h
    obtain ⟨S21, e21, h⟩ := lt_so h
    refine k_pi R18 (R18.obF (by decide) rfl) rfl (t_add z19 tI_1 c20 e20) e21 (fun M21 R21 => ?_)
    exact k_retI R21 z19 h
  · exact k_retI hR tI_m1 h
/-- PupilCoin$Land.isOpen(II)Z -/
def g2 (X1 : Int) (X2 : Int) (S : gM) : Option (Int × gM) :=
  w_lt (gi S 1 7) fun V1 =>
  if V1 ≤ X1 then
    some (0, S)
  else
    w_chk ((0 : Int) ≤ X1 ∧ X1 < 12) <|
    w_lt (gi S 6 X1) fun V4 =>
    if V4 ≤ X2 then
      some (0, S)
    else
      some (1, S)
theorem g2_ok {x1 : Int32} {X1 : Int} {x2 : Int32} {X2 : Int} {S : gM} {M : vm_M} {r : Int × gM} (hR : Rel S M) (t1 : x1.toInt = X1) (t2 : x2.toInt = X2) (h : g2 X1 X2 S = some r) : Mp gRI (f2 1 x1 x2 M) r := by
  unfold g2 at h
  unfold f2
  obtain ⟨V1, e1, h⟩ := lt_so h
  refine k_gi hR (hR.obF (by decide) rfl) rfl e1 (fun v1 z1 => ?_)
  refine k_ite (c_le z1 t1) h (fun c2 h => ?_) (fun c2 h => ?_)
  · exact k_retZ hR tI_0 (by decide) h
  · refine k_grF 11 hR (hR.obF (by decide) rfl) rfl ?_
    refine k_some ?_
    obtain ⟨c3, h⟩ := chk_so h
    obtain ⟨V4, e4, h⟩ := lt_so h
    refine k_ai hR (hR.lnF (by decide) rfl) rfl t1 c3 e4 (fun v4 z4 => ?_)
    refine k_ite (c_le z4 t2) h (fun c5 h => ?_) (fun c5 h => ?_)
    · exact k_retZ hR tI_0 (by decide) h
    · exact k_retZ hR tI_1 (by decide) h
/-- PupilCoin$Land.isTaken(I)Z -/
def g3 (X1 : Int) (S : gM) : Option (Int × gM) :=
  w_chk ((0 : Int) ≤ X1 ∧ X1 < 12) <|
  w_lt (gi S 6 X1) fun V2 =>
  if 10 ≤ V2 then
    some (0, S)
  else
    some (1, S)
theorem g3_ok {x1 : Int32} {X1 : Int} {S : gM} {M : vm_M} {r : Int × gM} (hR : Rel S M) (t1 : x1.toInt = X1) (h : g3 X1 S = some r) : Mp gRI (f3 1 x1 M) r := by
  unfold g3 at h
  unfold f3
  refine k_grF 11 hR (hR.obF (by decide) rfl) rfl ?_
  refine k_some ?_
  obtain ⟨c1, h⟩ := chk_so h
  obtain ⟨V2, e2, h⟩ := lt_so h
  refine k_ai hR (hR.lnF (by decide) rfl) rfl t1 c1 e2 (fun v2 z2 => ?_)
  refine k_ite (c_le tI_10 z2) h (fun c3 h => ?_) (fun c3 h => ?_)
  · exact k_retZ hR tI_0 (by decide) h
  · exact k_retZ hR tI_1 (by decide) h
/-- PupilCoin$Land.take(III)I -/
def g4 (X1 : Int) (X2 : Int) (X3 : Int) (S : gM) : Option (Int × gM) :=
  w_chk ((0 : Int) ≤ X2 ∧ X2 < 12) <|
  w_lt (wi S 5 X2 X1) fun S2 =>
  w_chk ((0 : Int) ≤ X2 ∧ X2 < 12) <|
  w_lt (wi S2 6 X2 X3) fun S4 =>
  w_lt (gi S4 1 8) fun V5 =>
  w_ckI (V5 + 1) fun V6 =>
  w_lt (wi S4 1 8 V6) fun S7 =>
  w_lt (gi S7 1 8) fun V8 =>
  some (V8, S7)
theorem g4_ok {x1 : Int32} {X1 : Int} {x2 : Int32} {X2 : Int} {x3 : Int32} {X3 : Int} {S : gM} {M : vm_M} {r : Int × gM} (hR : Rel S M) (t1 : x1.toInt = X1) (t2 : x2.toInt = X2) (t3 : x3.toInt = X3) (h : g4 X1 X2 X3 S = some r) : Mp gRI (f4 1 x1 x2 x3 M) r := by
  unfold g4 at h
  unfold f4
  refine k_grF 10 hR (hR.obF (by decide) rfl) rfl ?_
  refine k_some ?_
  obtain ⟨c1, h⟩ := chk_so h
  obtain ⟨S2, e2, h⟩ := lt_so h
  refine k_si hR (hR.lnF (by decide) rfl) rfl t2 c1 t1 e2 (fun M2 R2 => ?_)
  refine k_grF 11 R2 (R2.obF (by decide) rfl) rfl ?_
  refine k_some ?_
  obtain ⟨c3, h⟩ := chk_so h
  obtain ⟨S4, e4, h⟩ := lt_so h
  refine k_si R2 (R2.lnF (by decide) rfl) rfl t2 c3 t3 e4 (fun M4 R4 => ?_)
  obtain ⟨V5, e5, h⟩ := lt_so h
  refine k_gi R4 (R4.obF (by decide) rfl) rfl e5 (fun v5 z5 => ?_)
  obtain ⟨V6, e6, c6, h⟩ := ckI_so h
  obtain ⟨S7, e7, h⟩ := lt_so h
  refine k_pi R4 (R4.obF (by decide) rfl) rfl (t_add z5 tI_1 c6 e6) e7 (fun M7 R7 => ?_)
  obtain ⟨V8, e8, h⟩ := lt_so h
  refine k_gi R7 (R7.obF (by decide) rfl) rfl e8 (fun v8 z8 => ?_)
  exact k_retI R7 z8 h
def g5_l5 (X2 : Int) : Nat → Int → Int → gM → Option (Int × gM)
  | 0 => fun _ _ _ => none
  | n + 1 => fun X3 X4 S =>
    if 12 ≤ X4 then
      some (X3, S)
    else
      w_chk ((0 : Int) ≤ X3 ∧ X3 < 12) <|
      w_lt (gi S 6 X3) fun V3 =>
      if X2 < V3 then
        some (X3, S)
      else
        w_chk ((0 : Int) ≤ X3 ∧ X3 < 12) <|
        w_lt (gi S 5 X3) fun V6 =>
        w_ckI (X4 + 1) fun V7 =>
        g5_l5 X2 n V6 V7 S
theorem g5_l5_ok {x2 : Int32} {X2 : Int} {r : Int × gM} (t2 : x2.toInt = X2) : ∀ (n : Nat) (x3 : Int32) (X3 : Int) (x4 : Int32) (X4 : Int) (S : gM) (M : vm_M), Rel S M → x3.toInt = X3 → x4.toInt = X4 → g5_l5 X2 n X3 X4 S = some r → Mp gRI (f5_l5 1 x2 n x3 x4 M) r := by
  intro n
  induction n with
  | zero =>
    intro x3 X3 x4 X4 S M hR t3 t4 h
    cases h
  | succ n ih =>
    intro x3 X3 x4 X4 S M hR t3 t4 h
    dsimp only [g5_l5] at h
    dsimp only [f5_l5]
    refine k_ite (c_le tI_12 t4) h (fun c1 h => ?_) (fun c1 h => ?_)
    · exact k_retI hR t3 h
    · refine k_grF 11 hR (hR.obF (by decide) rfl) rfl ?_
      refine k_some ?_
      obtain ⟨c2, h⟩ := chk_so h
      obtain ⟨V3, e3, h⟩ := lt_so h
      refine k_ai hR (hR.lnF (by decide) rfl) rfl t3 c2 e3 (fun v3 z3 => ?_)
      refine k_ite (c_lt t2 z3) h (fun c4 h => ?_) (fun c4 h => ?_)
      · exact k_retI hR t3 h
      · refine k_grF 10 hR (hR.obF (by decide) rfl) rfl ?_
        refine k_some ?_
        obtain ⟨c5, h⟩ := chk_so h
        obtain ⟨V6, e6, h⟩ := lt_so h
        refine k_ai hR (hR.lnF (by decide) rfl) rfl t3 c5 e6 (fun v6 z6 => ?_)
        obtain ⟨V7, e7, c7, h⟩ := ckI_so h
        exact ih _ _ _ _ _ _ hR z6 (t_add t4 tI_1 c7 e7) h
/-- PupilCoin$Land.holder(II)I -/
def g5 (X1 : Int) (X2 : Int) (S : gM) : Option (Int × gM) :=
  g5_l5 X2
  
    100000 X1 0 S
theorem g5_ok {x1 : Int32} {X1 : Int} {x2 : Int32} {X2 : Int} {S : gM} {M : vm_M} {r : Int × gM} (hR : Rel S M) (t1 : x1.toInt = X1) (t2 : x2.toInt = X2) (h : g5 X1 X2 S = some r) : Mp gRI (f5 1 x1 x2 M) r := by
  unfold g5 at h
  unfold f5
  refine g5_l5_ok t2 100000 _ _ _ _ _ _ hR t1 tI_0 h
def g6_l4 (X1 : Int) : Nat → Int → Int → gM → Option (Int × gM)
  | 0 => fun _ _ _ => none
  | n + 1 => fun X2 X3 S =>
    w_lt (gi S 1 7) fun V1 =>
    if V1 ≤ X3 then
      some (X2, S)
    else
      (g2 X3 X1 S).bind fun p3 =>
      if p3.1 = 0 then
        w_ckI (X3 + 1) fun V5 =>
        g6_l4 X1 n X2 V5 p3.2
      else
        w_ckI (X2 + 1) fun V6 =>
        w_ckI (X3 + 1) fun V7 =>
        g6_l4 X1 n V6 V7 p3.2
theorem g6_l4_ok {x1 : Int32} {X1 : Int} {r : Int × gM} (t1 : x1.toInt = X1) : ∀ (n : Nat) (x2 : Int32) (X2 : Int) (x3 : Int32) (X3 : Int) (S : gM) (M : vm_M), Rel S M → x2.toInt = X2 → x3.toInt = X3 → g6_l4 X1 n X2 X3 S = some r → Mp gRI (f6_l4 1 x1 n x2 x3 M) r := by
  intro n
  induction n with
  | zero =>
    intro x2 X2 x3 X3 S M hR t2 t3 h
    cases h
  | succ n ih =>
    intro x2 X2 x3 X3 S M hR t2 t3 h
    dsimp only [g6_l4] at h
    dsimp only [f6_l4]
    obtain ⟨V1, e1, h⟩ := lt_so h
    refine k_gi hR (hR.obF (by decide) rfl) rfl e1 (fun v1 z1 => ?_)
    refine k_ite (c_le z1 t3) h (fun c2 h => ?_) (fun c2 h => ?_)
    · exact k_retI hR t2 h
    · refine k_ob (hR.obF (by decide) rfl) ?_
      obtain ⟨p3, e3, h⟩ := bind_so h
      refine k_call (g2_ok hR t3 t1 e3) (fun b3 R3 => ?_)
      refine k_ite (c_eq R3.1 tI_0) h (fun c4 h => ?_) (fun c4 h => ?_)
      · obtain ⟨V5, e5, c5, h⟩ := ckI_so h
        exact ih _ _ _ _ _ _ R3.2 t2 (t_add t3 tI_1 c5 e5) h
      · obtain ⟨V6, e6, c6, h⟩ := ckI_so h
        obtain ⟨V7, e7, c7, h⟩ := ckI_so h
        exact ih _ _ _ _ _ _ R3.2 (t_add t2 tI_1 c6 e6) (t_add t3 tI_1 c7 e7) h
/-- PupilCoin$Land.openCount(I)I -/
def g6 (X1 : Int) (S : gM) : Option (Int × gM) :=
  g6_l4 X1
  
    100000 0 0 S
theorem g6_ok {x1 : Int32} {X1 : Int} {S : gM} {M : vm_M} {r : Int × gM} (hR : Rel S M) (t1 : x1.toInt = X1) (h : g6 X1 S = some r) : Mp gRI (f6 1 x1 M) r := by
  unfold g6 at h
  unfold f6
  refine g6_l4_ok t1 100000 _ _ _ _ _ _ hR tI_0 tI_0 h
def g53_l2 (K41 : gM → Option (gM)) : Nat → Int → gM → Option (gM)
  | 0 => fun _ _ => none
  | n + 1 => fun X1 S =>
    if 256 ≤ X1 then
      K41 S
    else
      w_chk ((0 : Int) ≤ X1 ∧ X1 < 256) <|
      w_lt (gi S 9 X1) fun V3 =>
      if V3 ≤ 0 then
        w_chk ((0 : Int) ≤ X1 ∧ X1 < 256) <|
        w_lt (wi S 10 X1 1000000) fun S6 =>
        w_ckI (X1 + 1) fun V7 =>
        g53_l2 K41 n V7 S6
      else
        w_chk ((0 : Int) ≤ X1 ∧ X1 < 256) <|
        w_lt (gi S 9 X1) fun V9 =>
        w_chk ((0 : Int) ≤ X1 ∧ X1 < 256) <|
        w_lt (wi S 10 X1 V9) fun S11 =>
        w_ckI (X1 + 1) fun V12 =>
        g53_l2 K41 n V12 S11
theorem g53_l2_ok {k41 : vm_M → Option (vm_M)} {K41 : gM → Option (gM)} {r : gM} (hk41 : ∀ (S : gM) (M : vm_M), Rel S M → K41 S = some r → Mp gRV (k41 M) r) : ∀ (n : Nat) (x1 : Int32) (X1 : Int) (S : gM) (M : vm_M), Rel S M → x1.toInt = X1 → g53_l2 K41 n X1 S = some r → Mp gRV (f53_l2 8 k41 n x1 M) r := by
  intro n
  induction n with
  | zero =>
    intro x1 X1 S M hR t1 h
    cases h
  | succ n ih =>
    intro x1 X1 S M hR t1 h
    dsimp only [g53_l2] at h
    dsimp only [f53_l2]
    refine k_ite (c_le tI_256 t1) h (fun c1 h => ?_) (fun c1 h => ?_)
    · exact hk41 _ _ hR h
    · refine k_grF 15 hR (hR.obF (by decide) rfl) rfl ?_
      refine k_grF 14 hR (hR.obF (by decide) rfl) rfl ?_
      refine k_some ?_
      obtain ⟨c2, h⟩ := chk_so h
      obtain ⟨V3, e3, h⟩ := lt_so h
      refine k_ai hR (hR.lnF (by decide) rfl) rfl t1 c2 e3 (fun v3 z3 => ?_)
      refine k_ite (c_le z3 tI_0) h (fun c4 h => ?_) (fun c4 h => ?_)
      · refine k_some ?_
        obtain ⟨c5, h⟩ := chk_so h
        obtain ⟨S6, e6, h⟩ := lt_so h
        refine k_si hR (hR.lnF (by decide) rfl) rfl t1 c5 tI_1000000 e6 (fun M6 R6 => ?_)
        obtain ⟨V7, e7, c7, h⟩ := ckI_so h
        exact ih _ _ _ _ R6 (t_add t1 tI_1 c7 e7) h
      · refine k_grF 14 hR (hR.obF (by decide) rfl) rfl ?_
        refine k_some ?_
        obtain ⟨c8, h⟩ := chk_so h
        obtain ⟨V9, e9, h⟩ := lt_so h
        refine k_ai hR (hR.lnF (by decide) rfl) rfl t1 c8 e9 (fun v9 z9 => ?_)
        refine k_some ?_
        obtain ⟨c10, h⟩ := chk_so h
        obtain ⟨S11, e11, h⟩ := lt_so h
        refine k_si hR (hR.lnF (by decide) rfl) rfl t1 c10 z9 e11 (fun M11 R11 => ?_)
        obtain ⟨V12, e12, c12, h⟩ := ckI_so h
        exact ih _ _ _ _ R11 (t_add t1 tI_1 c12 e12) h
def g53_l43 (K67 : gM → Option (gM)) : Nat → Int → gM → Option (gM)
  | 0 => fun _ _ => none
  | n + 1 => fun X1 S =>
    if 16 ≤ X1 then
      K67 S
    else
      w_ckI (X1 * 16) fun V15 =>
      w_ckI (V15 + X1) fun V16 =>
      w_chk ((0 : Int) ≤ V16 ∧ V16 < 256) <|
      w_lt (wi S 10 V16 0) fun S18 =>
      w_ckI (X1 + 1) fun V19 =>
      g53_l43 K67 n V19 S18
theorem g53_l43_ok {k67 : vm_M → Option (vm_M)} {K67 : gM → Option (gM)} {r : gM} (hk67 : ∀ (S : gM) (M : vm_M), Rel S M → K67 S = some r → Mp gRV (k67 M) r) : ∀ (n : Nat) (x1 : Int32) (X1 : Int) (S : gM) (M : vm_M), Rel S M → x1.toInt = X1 → g53_l43 K67 n X1 S = some r → Mp gRV (f53_l43 8 k67 n x1 M) r := by
  intro n
  induction n with
  | zero =>
    intro x1 X1 S M hR t1 h
    cases h
  | succ n ih =>
    intro x1 X1 S M hR t1 h
    dsimp only [g53_l43] at h
    dsimp only [f53_l43]
    refine k_ite (c_le tI_16 t1) h (fun c14 h => ?_) (fun c14 h => ?_)
    · exact hk67 _ _ hR h
    · refine k_grF 15 hR (hR.obF (by decide) rfl) rfl ?_
      obtain ⟨V15, e15, c15, h⟩ := ckI_so h
      obtain ⟨V16, e16, c16, h⟩ := ckI_so h
      refine k_some ?_
      obtain ⟨c17, h⟩ := chk_so h
      obtain ⟨S18, e18, h⟩ := lt_so h
      refine k_si hR (hR.lnF (by decide) rfl) rfl (t_add (t_mul t1 tI_16 c15 e15) t1 c16 e16) c17 tI_0 e18 (fun M18 R18 => ?_)
      obtain ⟨V19, e19, c19, h⟩ := ckI_so h
      exact ih _ _ _ _ R18 (t_add t1 tI_1 c19 e19) h
def g53_l85 (X1 : Int) (X2 : Int) (K149 : gM → Option (gM)) : Nat → Int → gM → Option (gM)
  | 0 => fun _ _ => none
  | n + 1 => fun X3 S =>
    if 16 ≤ X3 then
      K149 S
    else
      w_ckI (X2 * 16) fun V25 =>
      w_ckI (V25 + X1) fun V26 =>
      w_chk ((0 : Int) ≤ V26 ∧ V26 < 256) <|
      w_lt (gi S 10 V26) fun V28 =>
      w_ckI (X1 * 16) fun V29 =>
      w_ckI (V29 + X3) fun V30 =>
      w_chk ((0 : Int) ≤ V30 ∧ V30 < 256) <|
      w_lt (gi S 10 V30) fun V32 =>
      w_ckI (V28 + V32) fun V33 =>
      w_ckI (X2 * 16) fun V34 =>
      w_ckI (V34 + X3) fun V35 =>
      w_ckI (X2 * 16) fun V36 =>
      w_ckI (V36 + X3) fun V37 =>
      w_chk ((0 : Int) ≤ V37 ∧ V37 < 256) <|
      w_lt (gi S 10 V37) fun V39 =>
      w_lt (min V39 V33) fun V40 =>
      w_chk ((0 : Int) ≤ V35 ∧ V35 < 256) <|
      w_lt (wi S 10 V35 V40) fun S42 =>
      w_ckI (X3 + 1) fun V43 =>
      g53_l85 X1 X2 K149 n V43 S42
theorem g53_l85_ok {x1 : Int32} {X1 : Int} {x2 : Int32} {X2 : Int} {k149 : vm_M → Option (vm_M)} {K149 : gM → Option (gM)} {r : gM} (hk149 : ∀ (S : gM) (M : vm_M), Rel S M → K149 S = some r → Mp gRV (k149 M) r) (t1 : x1.toInt = X1) (t2 : x2.toInt = X2) : ∀ (n : Nat) (x3 : Int32) (X3 : Int) (S : gM) (M : vm_M), Rel S M → x3.toInt = X3 → g53_l85 X1 X2 K149 n X3 S = some r → Mp gRV (f53_l85 8 x1 x2 k149 n x3 M) r := by
  intro n
  induction n with
  | zero =>
    intro x3 X3 S M hR t3 h
    cases h
  | succ n ih =>
    intro x3 X3 S M hR t3 h
    dsimp only [g53_l85] at h
    dsimp only [f53_l85]
    refine k_ite (c_le tI_16 t3) h (fun c24 h => ?_) (fun c24 h => ?_)
    · exact hk149 _ _ hR h
    · refine k_grF 15 hR (hR.obF (by decide) rfl) rfl ?_
      obtain ⟨V25, e25, c25, h⟩ := ckI_so h
      obtain ⟨V26, e26, c26, h⟩ := ckI_so h
      refine k_some ?_
      obtain ⟨c27, h⟩ := chk_so h
      obtain ⟨V28, e28, h⟩ := lt_so h
      refine k_ai hR (hR.lnF (by decide) rfl) rfl (t_add (t_mul t2 tI_16 c25 e25) t1 c26 e26) c27 e28 (fun v28 z28 => ?_)
      refine k_grF 15 hR (hR.obF (by decide) rfl) rfl ?_
      obtain ⟨V29, e29, c29, h⟩ := ckI_so h
      obtain ⟨V30, e30, c30, h⟩ := ckI_so h
      refine k_some ?_
      obtain ⟨c31, h⟩ := chk_so h
      obtain ⟨V32, e32, h⟩ := lt_so h
      refine k_ai hR (hR.lnF (by decide) rfl) rfl (t_add (t_mul t1 tI_16 c29 e29) t3 c30 e30) c31 e32 (fun v32 z32 => ?_)
      obtain ⟨V33, e33, c33, h⟩ := ckI_so h
      refine k_grF 15 hR (hR.obF (by decide) rfl) rfl ?_
      obtain ⟨V34, e34, c34, h⟩ := ckI_so h
      obtain ⟨V35, e35, c35, h⟩ := ckI_so h
      refine k_grF 15 hR (hR.obF (by decide) rfl) rfl ?_
      obtain ⟨V36, e36, c36, h⟩ := ckI_so h
      obtain ⟨V37, e37, c37, h⟩ := ckI_so h
      refine k_some ?_
      obtain ⟨c38, h⟩ := chk_so h
      obtain ⟨V39, e39, h⟩ := lt_so h
      refine k_ai hR (hR.lnF (by decide) rfl) rfl (t_add (t_mul t2 tI_16 c36 e36) t3 c37 e37) c38 e39 (fun v39 z39 => ?_)
      obtain ⟨V40, e40, h⟩ := lt_so h
      obtain ⟨c41, h⟩ := chk_so h
      obtain ⟨S42, e42, h⟩ := lt_so h
      refine k_si hR (hR.lnF (by decide) rfl) rfl (t_add (t_mul t2 tI_16 c34 e34) t3 c35 e35) c41 (t_mnI z39 (t_add z28 z32 c33 e33) e40) e42 (fun M42 R42 => ?_)
      obtain ⟨V43, e43, c43, h⟩ := ckI_so h
      exact ih _ _ _ _ R42 (t_add t3 tI_1 c43 e43) h
def g53_l77 (X1 : Int) (K155 : gM → Option (gM)) : Nat → Int → gM → Option (gM)
  | 0 => fun _ _ => none
  | n + 1 => fun X2 S =>
    if 16 ≤ X2 then
      K155 S
    else
      g53_l85 X1 X2
        (fun S44 =>
          w_ckI (X2 + 1) fun V45 =>
          g53_l77 X1 K155 n V45 S44)
        100000 0 S
theorem g53_l77_ok {x1 : Int32} {X1 : Int} {k155 : vm_M → Option (vm_M)} {K155 : gM → Option (gM)} {r : gM} (hk155 : ∀ (S : gM) (M : vm_M), Rel S M → K155 S = some r → Mp gRV (k155 M) r) (t1 : x1.toInt = X1) : ∀ (n : Nat) (x2 : Int32) (X2 : Int) (S : gM) (M : vm_M), Rel S M → x2.toInt = X2 → g53_l77 X1 K155 n X2 S = some r → Mp gRV (f53_l77 8 x1 k155 n x2 M) r := by
  intro n
  induction n with
  | zero =>
    intro x2 X2 S M hR t2 h
    cases h
  | succ n ih =>
    intro x2 X2 S M hR t2 h
    dsimp only [g53_l77] at h
    dsimp only [f53_l77]
    refine k_ite (c_le tI_16 t2) h (fun c23 h => ?_) (fun c23 h => ?_)
    · exact hk155 _ _ hR h
    · refine g53_l85_ok ?_ t1 t2 100000 _ _ _ _ hR tI_0 h
      · intro S44 M44 R44
        intro h
        obtain ⟨V45, e45, c45, h⟩ := ckI_so h
        exact ih _ _ _ _ R44 (t_add t2 tI_1 c45 e45) h
def g53_l69 : Nat → Int → gM → Option (gM)
  | 0 => fun _ _ => none
  | n + 1 => fun X1 S =>
    if 16 ≤ X1 then
      w_lt (wi S 8 2 1) fun S22 =>
      some S22
    else
      g53_l77 X1
        (fun S46 =>
          w_ckI (X1 + 1) fun V47 =>
          g53_l69 n V47 S46)
        100000 0 S
theorem g53_l69_ok {r : gM} : ∀ (n : Nat) (x1 : Int32) (X1 : Int) (S : gM) (M : vm_M), Rel S M → x1.toInt = X1 → g53_l69 n X1 S = some r → Mp gRV (f53_l69 8 n x1 M) r := by
  intro n
  induction n with
  | zero =>
    intro x1 X1 S M hR t1 h
    cases h
  | succ n ih =>
    intro x1 X1 S M hR t1 h
    dsimp only [g53_l69] at h
    dsimp only [f53_l69]
    refine k_ite (c_le tI_16 t1) h (fun c21 h => ?_) (fun c21 h => ?_)
    · obtain ⟨S22, e22, h⟩ := lt_so h
      refine k_pz hR (hR.obF (by decide) rfl) rfl tI_1 (by decide) e22 (fun M22 R22 => ?_)
      exact k_retV R22 h
    · refine g53_l77_ok ?_ t1 100000 _ _ _ _ hR tI_0 h
      · intro S46 M46 R46
        intro h
        obtain ⟨V47, e47, c47, h⟩ := ckI_so h
        exact ih _ _ _ _ R46 (t_add t1 tI_1 c47 e47) h
/-- PupilCoin$Roads.measure()V -/
def g53 (S : gM) : Option (gM) :=
  g53_l2
    (fun S13 =>
      g53_l43
        (fun S20 =>
          g53_l69
          
            100000 0 S20)
        100000 0 S13)
    100000 0 S
theorem g53_ok {S : gM} {M : vm_M} {r : gM} (hR : Rel S M) (h : g53 S = some r) : Mp gRV (f53 8 M) r := by
  unfold g53 at h
  unfold f53
  refine g53_l2_ok ?_ 100000 _ _ _ _ hR tI_0 h
  · intro S13 M13 R13
    intro h
    refine g53_l43_ok ?_ 100000 _ _ _ _ R13 tI_0 h
    · intro S20 M20 R20
      intro h
      refine g53_l69_ok 100000 _ _ _ _ R20 tI_0 h
def g7_l24 (X1 : Int) (X2 : Int) : Nat → Int → Int → gM → Option (Int × gM)
  | 0 => fun _ _ _ => none
  | n + 1 => fun X3 X4 S =>
    w_lt (gi S 1 7) fun V3 =>
    if V3 ≤ X4 then
      some (X3, S)
    else
      if X4 = X1 then
        w_ckI (X4 + 1) fun V6 =>
        g7_l24 X1 X2 n X3 V6 S
      else
        (g2 X4 X2 S).bind fun p7 =>
        if p7.1 = 0 then
          w_ckI (X4 + 1) fun V9 =>
          g7_l24 X1 X2 n X3 V9 p7.2
        else
          w_chk ((0 : Int) ≤ X1 ∧ X1 < 12) <|
          w_lt (gi p7.2 4 X1) fun V11 =>
          w_ckI (V11 * 16) fun V12 =>
          w_chk ((0 : Int) ≤ X4 ∧ X4 < 12) <|
          w_lt (gi p7.2 4 X4) fun V14 =>
          w_ckI (V12 + V14) fun V15 =>
          w_chk ((0 : Int) ≤ V15 ∧ V15 < 256) <|
          w_lt (gi p7.2 10 V15) fun V17 =>
          w_lt (min X3 V17) fun V18 =>
          w_ckI (X4 + 1) fun V19 =>
          g7_l24 X1 X2 n V18 V19 p7.2
theorem g7_l24_ok {x1 : Int32} {X1 : Int} {x2 : Int32} {X2 : Int} {r : Int × gM} (t1 : x1.toInt = X1) (t2 : x2.toInt = X2) : ∀ (n : Nat) (x3 : Int32) (X3 : Int) (x4 : Int32) (X4 : Int) (S : gM) (M : vm_M), Rel S M → x3.toInt = X3 → x4.toInt = X4 → g7_l24 X1 X2 n X3 X4 S = some r → Mp gRI (f7_l24 1 x1 x2 n x3 x4 M) r := by
  intro n
  induction n with
  | zero =>
    intro x3 X3 x4 X4 S M hR t3 t4 h
    cases h
  | succ n ih =>
    intro x3 X3 x4 X4 S M hR t3 t4 h
    dsimp only [g7_l24] at h
    dsimp only [f7_l24]
    obtain ⟨V3, e3, h⟩ := lt_so h
    refine k_gi hR (hR.obF (by decide) rfl) rfl e3 (fun v3 z3 => ?_)
    refine k_ite (c_le z3 t4) h (fun c4 h => ?_) (fun c4 h => ?_)
    · exact k_retI hR t3 h
    · refine k_ite (c_eq t4 t1) h (fun c5 h => ?_) (fun c5 h => ?_)
      · obtain ⟨V6, e6, c6, h⟩ := ckI_so h
        exact ih _ _ _ _ _ _ hR t3 (t_add t4 tI_1 c6 e6) h
      · refine k_ob (hR.obF (by decide) rfl) ?_
        obtain ⟨p7, e7, h⟩ := bind_so h
        refine k_call (g2_ok hR t4 t2 e7) (fun b7 R7 => ?_)
        refine k_ite (c_eq R7.1 tI_0) h (fun c8 h => ?_) (fun c8 h => ?_)
        · obtain ⟨V9, e9, c9, h⟩ := ckI_so h
          exact ih _ _ _ _ _ _ R7.2 t3 (t_add t4 tI_1 c9 e9) h
        · refine k_grF 13 R7.2 (R7.2.obF (by decide) rfl) rfl ?_
          refine k_some ?_
          refine k_grF 15 R7.2 (R7.2.obF (by decide) rfl) rfl ?_
          refine k_grF 9 R7.2 (R7.2.obF (by decide) rfl) rfl ?_
          refine k_some ?_
          obtain ⟨c10, h⟩ := chk_so h
          obtain ⟨V11, e11, h⟩ := lt_so h
          refine k_ai R7.2 (R7.2.lnF (by decide) rfl) rfl t1 c10 e11 (fun v11 z11 => ?_)
          obtain ⟨V12, e12, c12, h⟩ := ckI_so h
          refine k_grF 9 R7.2 (R7.2.obF (by decide) rfl) rfl ?_
          refine k_some ?_
          obtain ⟨c13, h⟩ := chk_so h
          obtain ⟨V14, e14, h⟩ := lt_so h
          refine k_ai R7.2 (R7.2.lnF (by decide) rfl) rfl t4 c13 e14 (fun v14 z14 => ?_)
          obtain ⟨V15, e15, c15, h⟩ := ckI_so h
          refine k_some ?_
          obtain ⟨c16, h⟩ := chk_so h
          obtain ⟨V17, e17, h⟩ := lt_so h
          refine k_ai R7.2 (R7.2.lnF (by decide) rfl) rfl (t_add (t_mul z11 tI_16 c12 e12) z14 c15 e15) c16 e17 (fun v17 z17 => ?_)
          obtain ⟨V18, e18, h⟩ := lt_so h
          obtain ⟨V19, e19, c19, h⟩ := ckI_so h
          exact ih _ _ _ _ _ _ R7.2 (t_mnI t3 z17 e18) (t_add t4 tI_1 c19 e19) h
/-- PupilCoin$Land.reach(II)I -/
def g7 (X1 : Int) (X2 : Int) (S : gM) : Option (Int × gM) :=
  w_lt (gi S 8 2) fun V1 =>
  if ¬ V1 = 0 then
    g7_l24 X1 X2
    
      100000 9999 0 S
  else
    (g53 S).bind fun p20 =>
    g7_l24 X1 X2
    
      100000 9999 0 p20
theorem g7_ok {x1 : Int32} {X1 : Int} {x2 : Int32} {X2 : Int} {S : gM} {M : vm_M} {r : Int × gM} (hR : Rel S M) (t1 : x1.toInt = X1) (t2 : x2.toInt = X2) (h : g7 X1 X2 S = some r) : Mp gRI (f7 1 x1 x2 M) r := by
  unfold g7 at h
  unfold f7
  refine k_grF 13 hR (hR.obF (by decide) rfl) rfl ?_
  refine k_some ?_
  obtain ⟨V1, e1, h⟩ := lt_so h
  refine k_gi hR (hR.obF (by decide) rfl) rfl e1 (fun v1 z1 => ?_)
  refine k_ite (c_ne z1 tI_0) h (fun c2 h => ?_) (fun c2 h => ?_)
  · refine g7_l24_ok t1 t2 100000 _ _ _ _ _ _ hR tI_9999 tI_0 h
  · refine k_grF 13 hR (hR.obF (by decide) rfl) rfl ?_
    refine k_some ?_
    refine k_ob (hR.obF (by decide) rfl) ?_
    obtain ⟨p20, e20, h⟩ := bind_so h
    refine k_call (g53_ok hR e20) (fun M20 R20 => ?_)
    refine g7_l24_ok t1 t2 100000 _ _ _ _ _ _ R20 tI_9999 tI_0 h
/-- java/util/Arrays.copyOf([II)[I -/
def g201 (x0 : Nat) (X1 : Int) (S : gM) : Option (Option Nat × gM) :=
  w_chk ((0 : Int) ≤ gln S x0 0) <|
  w_chk ((gln S x0 0) ≤ 2147483647) <|
  if ¬ X1 = (gln S x0 0) then
    w_chk ((0 : Int) ≤ X1 ∧ X1 ≤ 1000000) <|
    w_lt (gmk S (.inr (0, (X1).toNat)) (X1).toNat (fun _ => 0)) fun S6 =>
    w_chk ((0 : Int) ≤ gln S6 x0 0) <|
    w_chk ((gln S6 x0 0) ≤ 2147483647) <|
    w_lt (min (gln S6 x0 0) X1) fun V10 =>
    w_chk ((0 : Int) ≤ gln S6 x0 0) <|
    w_chk ((0 : Int) ≤ gln S6 (gn S) 0) <|
    w_chk ((0 : Int) ≤ 0 ∧ (0 : Int) ≤ 0 ∧ (0 : Int) ≤ V10 ∧ (0 : Int) + V10 ≤ (gln S6 x0 0) ∧ (0 : Int) + V10 ≤ (gln S6 (gn S) 0)) <|
    w_lt (wcp S6 x0 (gn S) 0 0 V10) fun S14 =>
    some (some (gn S), S14)
  else
    w_chk ((0 : Int) ≤ gln S x0 0) <|
    w_lt (gmk S (.inr (0, ((gln S x0 0) : Int).toNat)) ((gln S x0 0) : Int).toNat (gi S x0)) fun S16 =>
    w_chk ((0 : Int) ≤ gln S16 (gn S) 0) <|
    some (some (gn S), S16)
theorem g201_ok {x0 : Nat} {x1 : Int32} {X1 : Int} {S : gM} {M : vm_M} {r : Option Nat × gM} (hR : Rel S M) (t1 : x1.toInt = X1) (h : g201 x0 X1 S = some r) : Mp gRA (f201 x0 x1 M) r := by
  unfold g201 at h
  unfold f201
  obtain ⟨hn1, h⟩ := chk_so h
  obtain ⟨n1, en1, hn1⟩ := hR.ln hn1
  obtain ⟨c3, h⟩ := chk_so h
  refine k_len hn1 en1.symm c3 (fun v2 z2 => ?_)
  refine k_ite (c_ne t1 z2) h (fun c4 h => ?_) (fun c4 h => ?_)
  · obtain ⟨c5, h⟩ := chk_so h
    obtain ⟨S6, e6, h⟩ := lt_so h
    refine k_na hR t1 c5 e6 (fun M6 R6 => ?_)
    rw [hR.n]
    obtain ⟨hn7, h⟩ := chk_so h
    obtain ⟨n7, en7, hn7⟩ := R6.ln hn7
    obtain ⟨c9, h⟩ := chk_so h
    refine k_len hn7 en7.symm c9 (fun v8 z8 => ?_)
    obtain ⟨V10, e10, h⟩ := lt_so h
    obtain ⟨hn11, h⟩ := chk_so h
    obtain ⟨n11, en11, hn11⟩ := R6.ln hn11
    obtain ⟨hn12, h⟩ := chk_so h
    obtain ⟨n12, en12, hn12⟩ := R6.ln hn12
    obtain ⟨c13, h⟩ := chk_so h
    obtain ⟨S14, e14, h⟩ := lt_so h
    refine k_cpI R6 hn11 hn12 en11.symm en12.symm tI_0 tI_0 (t_mnI z8 t1 e10) c13 e14 (fun M14 R14 => ?_)
    exact k_retA R14 h
  · obtain ⟨hn15, h⟩ := chk_so h
    obtain ⟨n15, en15, hn15⟩ := hR.ln hn15
    obtain ⟨S16, e16, h⟩ := lt_so h
    refine k_cl hR hn15 (N := (gln S x0 0)) en15.symm e16 (fun M16 R16 => ?_)
    rw [hR.n]
    obtain ⟨hn17, h⟩ := chk_so h
    obtain ⟨n17, en17, hn17⟩ := R16.ln hn17
    refine k_ln hn17 ?_
    exact k_retA R16 h
/-- PupilCoin$Law.<init>(LPupilCoin$Reader;III)V -/
def g8 (x0 : Nat) (X2 : Int) (X3 : Int) (X4 : Int) (S : gM) : Option (gM) :=
  w_chk (gob S x0 1 = true) <|
  w_lt (wi S x0 0 X2) fun S2 =>
  w_chk (gob S2 x0 1 = true) <|
  w_lt (wi S2 x0 1 X3) fun S4 =>
  w_chk (gob S4 x0 1 = true) <|
  w_lt (wi S4 x0 2 X4) fun S6 =>
  w_lt (gi S6 16 8) fun V7 =>
  w_chk (gob S6 x0 1 = true) <|
  w_lt (wi S6 x0 3 V7) fun S9 =>
  w_lt (gi S9 16 7) fun V10 =>
  w_chk (gob S9 x0 1 = true) <|
  w_lt (wi S9 x0 4 V10) fun S12 =>
  w_lt (gmk S12 (.inr (0, (6 : Int).toNat)) (6 : Int).toNat (gi S12 22)) fun S13 =>
  w_chk ((0 : Int) ≤ gln S13 (gn S12) 0) <|
  w_chk (gob S13 x0 1 = true) <|
  w_chk (103 ≤ x0) <|
  w_lt (wr S13 x0 5 (some (gn S12))) fun S17 =>
  w_lt (gi S17 16 7) fun V18 =>
  w_lt (max 0 V18) fun V19 =>
  (g201 20 V19 S17).bind fun p20 =>
  w_lt p20.1 fun a20 =>
  w_chk (gob p20.2 x0 1 = true) <|
  w_chk (103 ≤ x0) <|
  w_lt (wr p20.2 x0 6 a20) fun S23 =>
  w_lt (gi S23 16 7) fun V24 =>
  w_ckI (2 * V24) fun V25 =>
  w_ckI (V25 + 1) fun V26 =>
  w_lt (max 0 V26) fun V27 =>
  (g201 19 V27 S23).bind fun p28 =>
  w_lt p28.1 fun a28 =>
  w_chk (gob p28.2 x0 1 = true) <|
  w_chk (103 ≤ x0) <|
  w_lt (wr p28.2 x0 7 a28) fun S31 =>
  w_lt (gi S31 16 6) fun V32 =>
  w_lt (max 0 V32) fun V33 =>
  (g201 18 V33 S31).bind fun p34 =>
  w_lt p34.1 fun a34 =>
  w_chk (gob p34.2 x0 1 = true) <|
  w_chk (103 ≤ x0) <|
  w_lt (wr p34.2 x0 8 a34) fun S37 =>
  some S37
theorem g8_ok {x0 : Nat} {x2 : Int32} {X2 : Int} {x3 : Int32} {X3 : Int} {x4 : Int32} {X4 : Int} {S : gM} {M : vm_M} {r : gM} (hR : Rel S M) (t2 : x2.toInt = X2) (t3 : x3.toInt = X3) (t4 : x4.toInt = X4) (h : g8 x0 X2 X3 X4 S = some r) : Mp gRV (f8 x0 16 x2 x3 x4 M) r := by
  unfold g8 at h
  unfold f8
  obtain ⟨c1, h⟩ := chk_so h
  obtain ⟨S2, e2, h⟩ := lt_so h
  refine k_pi hR (hR.ob c1) rfl t2 e2 (fun M2 R2 => ?_)
  obtain ⟨c3, h⟩ := chk_so h
  obtain ⟨S4, e4, h⟩ := lt_so h
  refine k_pi R2 (R2.ob c3) rfl t3 e4 (fun M4 R4 => ?_)
  obtain ⟨c5, h⟩ := chk_so h
  obtain ⟨S6, e6, h⟩ := lt_so h
  refine k_pi R4 (R4.ob c5) rfl t4 e6 (fun M6 R6 => ?_)
  obtain ⟨V7, e7, h⟩ := lt_so h
  refine k_gi R6 (R6.obF (by decide) rfl) rfl e7 (fun v7 z7 => ?_)
  obtain ⟨c8, h⟩ := chk_so h
  obtain ⟨S9, e9, h⟩ := lt_so h
  refine k_pi R6 (R6.ob c8) rfl z7 e9 (fun M9 R9 => ?_)
  obtain ⟨V10, e10, h⟩ := lt_so h
  refine k_gi R9 (R9.obF (by decide) rfl) rfl e10 (fun v10 z10 => ?_)
  obtain ⟨c11, h⟩ := chk_so h
  obtain ⟨S12, e12, h⟩ := lt_so h
  refine k_pi R9 (R9.ob c11) rfl z10 e12 (fun M12 R12 => ?_)
  refine k_grF 25 R12 (R12.obF (by decide) rfl) rfl ?_
  refine k_some ?_
  obtain ⟨S13, e13, h⟩ := lt_so h
  refine k_cl R12 (R12.lnF (by decide) rfl) (N := 6) rfl e13 (fun M13 R13 => ?_)
  rw [R12.n]
  obtain ⟨hn14, h⟩ := chk_so h
  obtain ⟨n14, en14, hn14⟩ := R13.ln hn14
  refine k_ln hn14 ?_
  obtain ⟨c15, h⟩ := chk_so h
  obtain ⟨c16, h⟩ := chk_so h
  obtain ⟨S17, e17, h⟩ := lt_so h
  refine k_pr R13 (R13.ob c15) (rfl_far c16) e17 (fun M17 R17 => ?_)
  refine k_grF 23 R17 (R17.obF (by decide) rfl) rfl ?_
  obtain ⟨V18, e18, h⟩ := lt_so h
  refine k_gi R17 (R17.obF (by decide) rfl) rfl e18 (fun v18 z18 => ?_)
  obtain ⟨V19, e19, h⟩ := lt_so h
  refine k_some ?_
  obtain ⟨p20, e20, h⟩ := bind_so h
  refine k_call (g201_ok R17 (t_mxI tI_0 z18 e19) e20) (fun b20 R20 => ?_)
  obtain ⟨d20, R20⟩ := R20
  obtain ⟨a20, e20, h⟩ := lt_so h
  rw [d20, ← e20]
  obtain ⟨c21, h⟩ := chk_so h
  obtain ⟨c22, h⟩ := chk_so h
  obtain ⟨S23, e23, h⟩ := lt_so h
  refine k_pr R20 (R20.ob c21) (rfl_far c22) e23 (fun M23 R23 => ?_)
  refine k_grF 22 R23 (R23.obF (by decide) rfl) rfl ?_
  obtain ⟨V24, e24, h⟩ := lt_so h
  refine k_gi R23 (R23.obF (by decide) rfl) rfl e24 (fun v24 z24 => ?_)
  obtain ⟨V25, e25, c25, h⟩ := ckI_so h
  obtain ⟨V26, e26, c26, h⟩ := ckI_so h
  obtain ⟨V27, e27, h⟩ := lt_so h
  refine k_some ?_
  obtain ⟨p28, e28, h⟩ := bind_so h
  refine k_call (g201_ok R23 (t_mxI tI_0 (t_add (t_mul tI_2 z24 c25 e25) tI_1 c26 e26) e27) e28) (fun b28 R28 => ?_)
  obtain ⟨d28, R28⟩ := R28
  obtain ⟨a28, e28, h⟩ := lt_so h
  rw [d28, ← e28]
  obtain ⟨c29, h⟩ := chk_so h
  obtain ⟨c30, h⟩ := chk_so h
  obtain ⟨S31, e31, h⟩ := lt_so h
  refine k_pr R28 (R28.ob c29) (rfl_far c30) e31 (fun M31 R31 => ?_)
  refine k_grF 21 R31 (R31.obF (by decide) rfl) rfl ?_
  obtain ⟨V32, e32, h⟩ := lt_so h
  refine k_gi R31 (R31.obF (by decide) rfl) rfl e32 (fun v32 z32 => ?_)
  obtain ⟨V33, e33, h⟩ := lt_so h
  refine k_some ?_
  obtain ⟨p34, e34, h⟩ := bind_so h
  refine k_call (g201_ok R31 (t_mxI tI_0 z32 e33) e34) (fun b34 R34 => ?_)
  obtain ⟨d34, R34⟩ := R34
  obtain ⟨a34, e34, h⟩ := lt_so h
  rw [d34, ← e34]
  obtain ⟨c35, h⟩ := chk_so h
  obtain ⟨c36, h⟩ := chk_so h
  obtain ⟨S37, e37, h⟩ := lt_so h
  refine k_pr R34 (R34.ob c35) (rfl_far c36) e37 (fun M37 R37 => ?_)
  exact k_retV R37 h
/-- PupilCoin.within(II)Z -/
def g102 (X0 : Int) (X1 : Int) (S : gM) : Option (Int × gM) :=
  if X0 < 0 then
    some (0, S)
  else
    if X1 ≤ X0 then
      some (0, S)
    else
      some (1, S)
theorem g102_ok {x0 : Int32} {X0 : Int} {x1 : Int32} {X1 : Int} {S : gM} {M : vm_M} {r : Int × gM} (hR : Rel S M) (t0 : x0.toInt = X0) (t1 : x1.toInt = X1) (h : g102 X0 X1 S = some r) : Mp gRI (f102 x0 x1 M) r := by
  unfold g102 at h
  unfold f102
  refine k_ite (c_lt t0 tI_0) h (fun c1 h => ?_) (fun c1 h => ?_)
  · exact k_retZ hR tI_0 (by decide) h
  · refine k_ite (c_le t1 t0) h (fun c2 h => ?_) (fun c2 h => ?_)
    · exact k_retZ hR tI_0 (by decide) h
    · exact k_retZ hR tI_1 (by decide) h
def g9_j16 (x0 : Nat) (X1 : Int) (S : gM) : Option (Int × gM) :=
  if ¬ X1 = 5 then
    if ¬ X1 = 6 then
      if ¬ X1 = 7 then
        some ((-1), S)
      else
        w_chk (gob S x0 1 = true) <|
        w_lt (gi S x0 0) fun V6 =>
        some (V6, S)
    else
      w_chk (gob S x0 1 = true) <|
      w_lt (gi S x0 3) fun V8 =>
      some (V8, S)
  else
    w_chk (gob S x0 1 = true) <|
    w_chk (gr S x0 5 = some (x0 + 1)) <|
    w_chk ((0 : Int) ≤ gln S (x0 + 1) 0) <|
    w_chk ((0 : Int) ≤ 5 ∧ 5 < (gln S (x0 + 1) 0)) <|
    w_lt (gi S (x0 + 1) 5) fun V13 =>
    w_chk (gob S x0 1 = true) <|
    w_lt (gi S x0 4) fun V15 =>
    (g102 V13 V15 S).bind fun p16 =>
    if p16.1 = 0 then
      some ((-1), p16.2)
    else
      w_chk (gob p16.2 x0 1 = true) <|
      w_chk (gr p16.2 x0 6 = some (x0 + 2)) <|
      w_chk (gob p16.2 x0 1 = true) <|
      w_chk (gr p16.2 x0 5 = some (x0 + 1)) <|
      w_chk ((0 : Int) ≤ gln p16.2 (x0 + 1) 0) <|
      w_chk ((0 : Int) ≤ 5 ∧ 5 < (gln p16.2 (x0 + 1) 0)) <|
      w_lt (gi p16.2 (x0 + 1) 5) fun V24 =>
      w_chk ((0 : Int) ≤ gln p16.2 (x0 + 2) 0) <|
      w_chk ((0 : Int) ≤ V24 ∧ V24 < (gln p16.2 (x0 + 2) 0)) <|
      w_lt (gi p16.2 (x0 + 2) V24) fun V27 =>
      some (V27, p16.2)
theorem g9_j16_ok {x0 : Nat} {x1 : Int32} {X1 : Int} {S : gM} {M : vm_M} {r : Int × gM} (hR : Rel S M) (t1 : x1.toInt = X1) (h : g9_j16 x0 X1 S = some r) : Mp gRI (f9_j16 x0 x1 M) r := by
  unfold g9_j16 at h
  unfold f9_j16
  refine k_ite (c_ne t1 tI_5) h (fun c2 h => ?_) (fun c2 h => ?_)
  · refine k_ite (c_ne t1 tI_6) h (fun c3 h => ?_) (fun c3 h => ?_)
    · refine k_ite (c_ne t1 tI_7) h (fun c4 h => ?_) (fun c4 h => ?_)
      · exact k_retI hR tI_m1 h
      · obtain ⟨c5, h⟩ := chk_so h
        obtain ⟨V6, e6, h⟩ := lt_so h
        refine k_gi hR (hR.ob c5) rfl e6 (fun v6 z6 => ?_)
        exact k_retI hR z6 h
    · obtain ⟨c7, h⟩ := chk_so h
      obtain ⟨V8, e8, h⟩ := lt_so h
      refine k_gi hR (hR.ob c7) rfl e8 (fun v8 z8 => ?_)
      exact k_retI hR z8 h
  · obtain ⟨c9, h⟩ := chk_so h
    obtain ⟨c10, h⟩ := chk_so h
    refine k_gr hR (hR.ob c9) c10.symm ?_
    refine k_some ?_
    obtain ⟨hn11, h⟩ := chk_so h
    obtain ⟨n11, en11, hn11⟩ := hR.ln hn11
    obtain ⟨c12, h⟩ := chk_so h
    obtain ⟨V13, e13, h⟩ := lt_so h
    refine k_ai hR hn11 en11.symm tI_5 c12 e13 (fun v13 z13 => ?_)
    obtain ⟨c14, h⟩ := chk_so h
    obtain ⟨V15, e15, h⟩ := lt_so h
    refine k_gi hR (hR.ob c14) rfl e15 (fun v15 z15 => ?_)
    obtain ⟨p16, e16, h⟩ := bind_so h
    refine k_call (g102_ok hR z13 z15 e16) (fun b16 R16 => ?_)
    refine k_ite (c_eq R16.1 tI_0) h (fun c17 h => ?_) (fun c17 h => ?_)
    · exact k_retI R16.2 tI_m1 h
    · obtain ⟨c18, h⟩ := chk_so h
      obtain ⟨c19, h⟩ := chk_so h
      refine k_gr R16.2 (R16.2.ob c18) c19.symm ?_
      obtain ⟨c20, h⟩ := chk_so h
      obtain ⟨c21, h⟩ := chk_so h
      refine k_gr R16.2 (R16.2.ob c20) c21.symm ?_
      refine k_some ?_
      obtain ⟨hn22, h⟩ := chk_so h
      obtain ⟨n22, en22, hn22⟩ := R16.2.ln hn22
      obtain ⟨c23, h⟩ := chk_so h
      obtain ⟨V24, e24, h⟩ := lt_so h
      refine k_ai R16.2 hn22 en22.symm tI_5 c23 e24 (fun v24 z24 => ?_)
      refine k_some ?_
      obtain ⟨hn25, h⟩ := chk_so h
      obtain ⟨n25, en25, hn25⟩ := R16.2.ln hn25
      obtain ⟨c26, h⟩ := chk_so h
      obtain ⟨V27, e27, h⟩ := lt_so h
      refine k_ai R16.2 hn25 en25.symm z24 c26 e27 (fun v27 z27 => ?_)
      exact k_retI R16.2 z27 h
/-- PupilCoin$Law.tells(I)I -/
def g9 (x0 : Nat) (X1 : Int) (S : gM) : Option (Int × gM) :=
  if X1 < 0 then
    g9_j16 x0 X1 S
  else
    if 5 ≤ X1 then
      g9_j16 x0 X1 S
    else
      w_chk (gob S x0 1 = true) <|
      w_chk (gr S x0 5 = some (x0 + 1)) <|
      w_chk ((0 : Int) ≤ gln S (x0 + 1) 0) <|
      w_chk ((0 : Int) ≤ X1 ∧ X1 < (gln S (x0 + 1) 0)) <|
      w_lt (gi S (x0 + 1) X1) fun V33 =>
      some (V33, S)
theorem g9_ok {x0 : Nat} {x1 : Int32} {X1 : Int} {S : gM} {M : vm_M} {r : Int × gM} (hR : Rel S M) (t1 : x1.toInt = X1) (h : g9 x0 X1 S = some r) : Mp gRI (f9 x0 x1 M) r := by
  unfold g9 at h
  unfold f9
  refine k_ite (c_lt t1 tI_0) h (fun c1 h => ?_) (fun c1 h => ?_)
  · exact g9_j16_ok hR t1 h
  · refine k_ite (c_le tI_5 t1) h (fun c28 h => ?_) (fun c28 h => ?_)
    · exact g9_j16_ok hR t1 h
    · obtain ⟨c29, h⟩ := chk_so h
      obtain ⟨c30, h⟩ := chk_so h
      refine k_gr hR (hR.ob c29) c30.symm ?_
      refine k_some ?_
      obtain ⟨hn31, h⟩ := chk_so h
      obtain ⟨n31, en31, hn31⟩ := hR.ln hn31
      obtain ⟨c32, h⟩ := chk_so h
      obtain ⟨V33, e33, h⟩ := lt_so h
      refine k_ai hR hn31 en31.symm t1 c32 e33 (fun v33 z33 => ?_)
      exact k_retI hR z33 h
def g200_l5 (x0 : Nat) (X1 : Int) (X3 : Int) : Nat → Int → gM → Option (gM)
  | 0 => fun _ _ => none
  | n + 1 => fun X2 S =>
    if X3 ≤ X2 then
      some S
    else
      w_chk ((0 : Int) ≤ gln S x0 0) <|
      w_chk ((0 : Int) ≤ X2 ∧ X2 < (gln S x0 0)) <|
      w_lt (wi S x0 X2 X1) fun S7 =>
      w_ckI (X2 + 1) fun V8 =>
      g200_l5 x0 X1 X3 n V8 S7
theorem g200_l5_ok {x0 : Nat} {x1 : Int32} {X1 : Int} {x3 : Int32} {X3 : Int} {r : gM} (t1 : x1.toInt = X1) (t3 : x3.toInt = X3) : ∀ (n : Nat) (x2 : Int32) (X2 : Int) (S : gM) (M : vm_M), Rel S M → x2.toInt = X2 → g200_l5 x0 X1 X3 n X2 S = some r → Mp gRV (f200_l5 x0 x1 x3 n x2 M) r := by
  intro n
  induction n with
  | zero =>
    intro x2 X2 S M hR t2 h
    cases h
  | succ n ih =>
    intro x2 X2 S M hR t2 h
    dsimp only [g200_l5] at h
    dsimp only [f200_l5]
    refine k_ite (c_le t3 t2) h (fun c4 h => ?_) (fun c4 h => ?_)
    · exact k_retV hR h
    · obtain ⟨hn5, h⟩ := chk_so h
      obtain ⟨n5, en5, hn5⟩ := hR.ln hn5
      obtain ⟨c6, h⟩ := chk_so h
      obtain ⟨S7, e7, h⟩ := lt_so h
      refine k_si hR hn5 en5.symm t2 c6 t1 e7 (fun M7 R7 => ?_)
      obtain ⟨V8, e8, c8, h⟩ := ckI_so h
      exact ih _ _ _ _ R7 (t_add t2 tI_1 c8 e8) h
/-- java/util/Arrays.fill([II)V -/
def g200 (x0 : Nat) (X1 : Int) (S : gM) : Option (gM) :=
  w_chk ((0 : Int) ≤ gln S x0 0) <|
  w_chk ((gln S x0 0) ≤ 2147483647) <|
  g200_l5 x0 X1 (gln S x0 0)
  
    100000 0 S
theorem g200_ok {x0 : Nat} {x1 : Int32} {X1 : Int} {S : gM} {M : vm_M} {r : gM} (hR : Rel S M) (t1 : x1.toInt = X1) (h : g200 x0 X1 S = some r) : Mp gRV (f200 x0 x1 M) r := by
  unfold g200 at h
  unfold f200
  obtain ⟨hn1, h⟩ := chk_so h
  obtain ⟨n1, en1, hn1⟩ := hR.ln hn1
  obtain ⟨c3, h⟩ := chk_so h
  refine k_len hn1 en1.symm c3 (fun v2 z2 => ?_)
  refine g200_l5_ok t1 z2 100000 _ _ _ _ hR tI_0 h
/-- PupilCoin$Marks.tell(IIIII)I -/
def g11 (X1 : Int) (X2 : Int) (X3 : Int) (X4 : Int) (X5 : Int) (S : gM) : Option (Int × gM) :=
  w_lt (gi S 11 4) fun V1 =>
  if V1 < 300 then
    w_ckI (X1 * 10) fun V3 =>
    w_ckI (V3 + X2) fun V4 =>
    w_ckI (V4 * 6) fun V5 =>
    w_ckI (V5 + X3) fun V6 =>
    w_lt (gi S 11 4) fun V7 =>
    w_chk ((0 : Int) ≤ V7 ∧ V7 < 300) <|
    w_lt (wi S 12 V7 X4) fun S9 =>
    w_lt (gi S9 11 4) fun V10 =>
    w_chk ((0 : Int) ≤ V10 ∧ V10 < 300) <|
    w_lt (wi S9 13 V10 X5) fun S12 =>
    w_lt (gi S12 11 4) fun V13 =>
    w_chk ((0 : Int) ≤ V6 ∧ V6 < 720) <|
    w_lt (gi S12 15 V6) fun V15 =>
    w_chk ((0 : Int) ≤ V13 ∧ V13 < 300) <|
    w_lt (wi S12 14 V13 V15) fun S17 =>
    w_lt (gi S17 11 4) fun V18 =>
    w_chk ((0 : Int) ≤ V6 ∧ V6 < 720) <|
    w_lt (wi S17 15 V6 V18) fun S20 =>
    w_lt (gi S20 11 4) fun V21 =>
    w_ckI (V21 + 1) fun V22 =>
    w_lt (wi S20 11 4 V22) fun S23 =>
    some (V21, S23)
  else
    some ((-1), S)
theorem g11_ok {x1 : Int32} {X1 : Int} {x2 : Int32} {X2 : Int} {x3 : Int32} {X3 : Int} {x4 : Int32} {X4 : Int} {x5 : Int32} {X5 : Int} {S : gM} {M : vm_M} {r : Int × gM} (hR : Rel S M) (t1 : x1.toInt = X1) (t2 : x2.toInt = X2) (t3 : x3.toInt = X3) (t4 : x4.toInt = X4) (t5 : x5.toInt = X5) (h : g11 X1 X2 X3 X4 X5 S = some r) : Mp gRI (f11 11 x1 x2 x3 x4 x5 M) r := by
  unfold g11 at h
  unfold f11
  obtain ⟨V1, e1, h⟩ := lt_so h
  refine k_gi hR (hR.obF (by decide) rfl) rfl e1 (fun v1 z1 => ?_)
  refine k_ite (c_lt z1 tI_300) h (fun c2 h => ?_) (fun c2 h => ?_)
  · obtain ⟨V3, e3, c3, h⟩ := ckI_so h
    obtain ⟨V4, e4, c4, h⟩ := ckI_so h
    obtain ⟨V5, e5, c5, h⟩ := ckI_so h
    obtain ⟨V6, e6, c6, h⟩ := ckI_so h
    refine k_grF 16 hR (hR.obF (by decide) rfl) rfl ?_
    obtain ⟨V7, e7, h⟩ := lt_so h
    refine k_gi hR (hR.obF (by decide) rfl) rfl e7 (fun v7 z7 => ?_)
    refine k_some ?_
    obtain ⟨c8, h⟩ := chk_so h
    obtain ⟨S9, e9, h⟩ := lt_so h
    refine k_si hR (hR.lnF (by decide) rfl) rfl z7 c8 t4 e9 (fun M9 R9 => ?_)
    refine k_grF 17 R9 (R9.obF (by decide) rfl) rfl ?_
    obtain ⟨V10, e10, h⟩ := lt_so h
    refine k_gi R9 (R9.obF (by decide) rfl) rfl e10 (fun v10 z10 => ?_)
    refine k_some ?_
    obtain ⟨c11, h⟩ := chk_so h
    obtain ⟨S12, e12, h⟩ := lt_so h
    refine k_si R9 (R9.lnF (by decide) rfl) rfl z10 c11 t5 e12 (fun M12 R12 => ?_)
    refine k_grF 18 R12 (R12.obF (by decide) rfl) rfl ?_
    obtain ⟨V13, e13, h⟩ := lt_so h
    refine k_gi R12 (R12.obF (by decide) rfl) rfl e13 (fun v13 z13 => ?_)
    refine k_grF 19 R12 (R12.obF (by decide) rfl) rfl ?_
    refine k_some ?_
    obtain ⟨c14, h⟩ := chk_so h
    obtain ⟨V15, e15, h⟩ := lt_so h
    refine k_ai R12 (R12.lnF (by decide) rfl) rfl (t_add (t_mul (t_add (t_mul t1 tI_10 c3 e3) t2 c4 e4) tI_6 c5 e5) t3 c6 e6) c14 e15 (fun v15 z15 => ?_)
    refine k_some ?_
    obtain ⟨c16, h⟩ := chk_so h
    obtain ⟨S17, e17, h⟩ := lt_so h
    refine k_si R12 (R12.lnF (by decide) rfl) rfl z13 c16 z15 e17 (fun M17 R17 => ?_)
    refine k_grF 19 R17 (R17.obF (by decide) rfl) rfl ?_
    obtain ⟨V18, e18, h⟩ := lt_so h
    refine k_gi R17 (R17.obF (by decide) rfl) rfl e18 (fun v18 z18 => ?_)
    refine k_some ?_
    obtain ⟨c19, h⟩ := chk_so h
    obtain ⟨S20, e20, h⟩ := lt_so h
    refine k_si R17 (R17.lnF (by decide) rfl) rfl (t_add (t_mul (t_add (t_mul t1 tI_10 c3 e3) t2 c4 e4) tI_6 c5 e5) t3 c6 e6) c19 z18 e20 (fun M20 R20 => ?_)
    obtain ⟨V21, e21, h⟩ := lt_so h
    refine k_gi R20 (R20.obF (by decide) rfl) rfl e21 (fun v21 z21 => ?_)
    obtain ⟨V22, e22, c22, h⟩ := ckI_so h
    obtain ⟨S23, e23, h⟩ := lt_so h
    refine k_pi R20 (R20.obF (by decide) rfl) rfl (t_add z21 tI_1 c22 e22) e23 (fun M23 R23 => ?_)
    exact k_retI R23 z21 h
  · exact k_retI hR tI_m1 h
def g12_l21 (X4 : Int) : Nat → Int → Int → gM → Option (Int × gM)
  | 0 => fun _ _ _ => none
  | n + 1 => fun X5 X6 S =>
    if 300 ≤ X6 then
      some ((-1), S)
    else
      if X5 < 0 then
        some ((-1), S)
      else
        w_chk ((0 : Int) ≤ X5 ∧ X5 < 300) <|
        w_lt (gi S 13 X5) fun V10 =>
        if X4 < V10 then
          w_chk ((0 : Int) ≤ X5 ∧ X5 < 300) <|
          w_lt (gi S 14 X5) fun V13 =>
          w_ckI (X6 + 1) fun V14 =>
          g12_l21 X4 n V13 V14 S
        else
          w_chk ((0 : Int) ≤ X5 ∧ X5 < 300) <|
          w_lt (gi S 12 X5) fun V16 =>
          some (V16, S)
theorem g12_l21_ok {x4 : Int32} {X4 : Int} {r : Int × gM} (t4 : x4.toInt = X4) : ∀ (n : Nat) (x5 : Int32) (X5 : Int) (x6 : Int32) (X6 : Int) (S : gM) (M : vm_M), Rel S M → x5.toInt = X5 → x6.toInt = X6 → g12_l21 X4 n X5 X6 S = some r → Mp gRI (f12_l21 11 x4 n x5 x6 M) r := by
  intro n
  induction n with
  | zero =>
    intro x5 X5 x6 X6 S M hR t5 t6 h
    cases h
  | succ n ih =>
    intro x5 X5 x6 X6 S M hR t5 t6 h
    dsimp only [g12_l21] at h
    dsimp only [f12_l21]
    refine k_ite (c_le tI_300 t6) h (fun c7 h => ?_) (fun c7 h => ?_)
    · exact k_retI hR tI_m1 h
    · refine k_ite (c_lt t5 tI_0) h (fun c8 h => ?_) (fun c8 h => ?_)
      · exact k_retI hR tI_m1 h
      · refine k_grF 17 hR (hR.obF (by decide) rfl) rfl ?_
        refine k_some ?_
        obtain ⟨c9, h⟩ := chk_so h
        obtain ⟨V10, e10, h⟩ := lt_so h
        refine k_ai hR (hR.lnF (by decide) rfl) rfl t5 c9 e10 (fun v10 z10 => ?_)
        refine k_ite (c_lt t4 z10) h (fun c11 h => ?_) (fun c11 h => ?_)
        · refine k_grF 18 hR (hR.obF (by decide) rfl) rfl ?_
          refine k_some ?_
          obtain ⟨c12, h⟩ := chk_so h
          obtain ⟨V13, e13, h⟩ := lt_so h
          refine k_ai hR (hR.lnF (by decide) rfl) rfl t5 c12 e13 (fun v13 z13 => ?_)
          obtain ⟨V14, e14, c14, h⟩ := ckI_so h
          exact ih _ _ _ _ _ _ hR z13 (t_add t6 tI_1 c14 e14) h
        · refine k_grF 16 hR (hR.obF (by decide) rfl) rfl ?_
          refine k_some ?_
          obtain ⟨c15, h⟩ := chk_so h
          obtain ⟨V16, e16, h⟩ := lt_so h
          refine k_ai hR (hR.lnF (by decide) rfl) rfl t5 c15 e16 (fun v16 z16 => ?_)
          exact k_retI hR z16 h
/-- PupilCoin$Marks.held(IIII)I -/
def g12 (X1 : Int) (X2 : Int) (X3 : Int) (X4 : Int) (S : gM) : Option (Int × gM) :=
  w_ckI (X1 * 10) fun V1 =>
  w_ckI (V1 + X2) fun V2 =>
  w_ckI (V2 * 6) fun V3 =>
  w_ckI (V3 + X3) fun V4 =>
  w_chk ((0 : Int) ≤ V4 ∧ V4 < 720) <|
  w_lt (gi S 15 V4) fun V6 =>
  g12_l21 X4
  
    100000 V6 0 S
theorem g12_ok {x1 : Int32} {X1 : Int} {x2 : Int32} {X2 : Int} {x3 : Int32} {X3 : Int} {x4 : Int32} {X4 : Int} {S : gM} {M : vm_M} {r : Int × gM} (hR : Rel S M) (t1 : x1.toInt = X1) (t2 : x2.toInt = X2) (t3 : x3.toInt = X3) (t4 : x4.toInt = X4) (h : g12 X1 X2 X3 X4 S = some r) : Mp gRI (f12 11 x1 x2 x3 x4 M) r := by
  unfold g12 at h
  unfold f12
  refine k_grF 19 hR (hR.obF (by decide) rfl) rfl ?_
  obtain ⟨V1, e1, c1, h⟩ := ckI_so h
  obtain ⟨V2, e2, c2, h⟩ := ckI_so h
  obtain ⟨V3, e3, c3, h⟩ := ckI_so h
  obtain ⟨V4, e4, c4, h⟩ := ckI_so h
  refine k_some ?_
  obtain ⟨c5, h⟩ := chk_so h
  obtain ⟨V6, e6, h⟩ := lt_so h
  refine k_ai hR (hR.lnF (by decide) rfl) rfl (t_add (t_mul (t_add (t_mul t1 tI_10 c1 e1) t2 c2 e2) tI_6 c3 e3) t3 c4 e4) c5 e6 (fun v6 z6 => ?_)
  refine g12_l21_ok t4 100000 _ _ _ _ _ _ hR z6 tI_0 h
def g13_l3 (X1 : Int) (X2 : Int) (X4 : Int) : Nat → Int → gM → Option (Int × gM)
  | 0 => fun _ _ => none
  | n + 1 => fun X5 S =>
    if X5 < 0 then
      some ((-1), S)
    else
      (g12 X1 X5 X2 X4 S).bind fun p2 =>
      if p2.1 = (-1) then
        w_ckI (X5 + (-1)) fun V4 =>
        g13_l3 X1 X2 X4 n V4 p2.2
      else
        some (X5, p2.2)
theorem g13_l3_ok {x1 : Int32} {X1 : Int} {x2 : Int32} {X2 : Int} {x4 : Int32} {X4 : Int} {r : Int × gM} (t1 : x1.toInt = X1) (t2 : x2.toInt = X2) (t4 : x4.toInt = X4) : ∀ (n : Nat) (x5 : Int32) (X5 : Int) (S : gM) (M : vm_M), Rel S M → x5.toInt = X5 → g13_l3 X1 X2 X4 n X5 S = some r → Mp gRI (f13_l3 11 x1 x2 x4 n x5 M) r := by
  intro n
  induction n with
  | zero =>
    intro x5 X5 S M hR t5 h
    cases h
  | succ n ih =>
    intro x5 X5 S M hR t5 h
    dsimp only [g13_l3] at h
    dsimp only [f13_l3]
    refine k_ite (c_lt t5 tI_0) h (fun c1 h => ?_) (fun c1 h => ?_)
    · exact k_retI hR tI_m1 h
    · refine k_ob (hR.obF (by decide) rfl) ?_
      obtain ⟨p2, e2, h⟩ := bind_so h
      refine k_call (g12_ok hR t1 t5 t2 t4 e2) (fun b2 R2 => ?_)
      refine k_ite (c_eq R2.1 tI_m1) h (fun c3 h => ?_) (fun c3 h => ?_)
      · obtain ⟨V4, e4, c4, h⟩ := ckI_so h
        exact ih _ _ _ _ R2.2 (t_add t5 tI_m1 c4 e4) h
      · exact k_retI R2.2 t5 h
/-- PupilCoin$Marks.latestYear(IIII)I -/
def g13 (X1 : Int) (X2 : Int) (X3 : Int) (X4 : Int) (S : gM) : Option (Int × gM) :=
  g13_l3 X1 X2 X4
  
    100000 X3 S
theorem g13_ok {x1 : Int32} {X1 : Int} {x2 : Int32} {X2 : Int} {x3 : Int32} {X3 : Int} {x4 : Int32} {X4 : Int} {S : gM} {M : vm_M} {r : Int × gM} (hR : Rel S M) (t1 : x1.toInt = X1) (t2 : x2.toInt = X2) (t3 : x3.toInt = X3) (t4 : x4.toInt = X4) (h : g13 X1 X2 X3 X4 S = some r) : Mp gRI (f13 11 x1 x2 x3 x4 M) r := by
  unfold g13 at h
  unfold f13
  refine g13_l3_ok t1 t2 t4 100000 _ _ _ _ hR t3 h
def g14_l6 (X1 : Int) (X2 : Int) (X3 : Int) : Nat → Int → Int → gM → Option (Int × gM)
  | 0 => fun _ _ _ => none
  | n + 1 => fun X4 X5 S =>
    if 6 ≤ X5 then
      some (X4, S)
    else
      (g12 X1 X2 X5 X3 S).bind fun p2 =>
      if p2.1 = (-1) then
        w_ckI (X5 + 1) fun V4 =>
        g14_l6 X1 X2 X3 n X4 V4 p2.2
      else
        w_lt (b_shl 1 X5) fun V5 =>
        w_lt (b_or X4 V5) fun V6 =>
        w_ckI (X5 + 1) fun V7 =>
        g14_l6 X1 X2 X3 n V6 V7 p2.2
theorem g14_l6_ok {x1 : Int32} {X1 : Int} {x2 : Int32} {X2 : Int} {x3 : Int32} {X3 : Int} {r : Int × gM} (t1 : x1.toInt = X1) (t2 : x2.toInt = X2) (t3 : x3.toInt = X3) : ∀ (n : Nat) (x4 : Int32) (X4 : Int) (x5 : Int32) (X5 : Int) (S : gM) (M : vm_M), Rel S M → x4.toInt = X4 → x5.toInt = X5 → g14_l6 X1 X2 X3 n X4 X5 S = some r → Mp gRI (f14_l6 11 x1 x2 x3 n x4 x5 M) r := by
  intro n
  induction n with
  | zero =>
    intro x4 X4 x5 X5 S M hR t4 t5 h
    cases h
  | succ n ih =>
    intro x4 X4 x5 X5 S M hR t4 t5 h
    dsimp only [g14_l6] at h
    dsimp only [f14_l6]
    refine k_ite (c_le tI_6 t5) h (fun c1 h => ?_) (fun c1 h => ?_)
    · exact k_retI hR t4 h
    · refine k_ob (hR.obF (by decide) rfl) ?_
      obtain ⟨p2, e2, h⟩ := bind_so h
      refine k_call (g12_ok hR t1 t2 t5 t3 e2) (fun b2 R2 => ?_)
      refine k_ite (c_eq R2.1 tI_m1) h (fun c3 h => ?_) (fun c3 h => ?_)
      · obtain ⟨V4, e4, c4, h⟩ := ckI_so h
        exact ih _ _ _ _ _ _ R2.2 t4 (t_add t5 tI_1 c4 e4) h
      · obtain ⟨V5, e5, h⟩ := lt_so h
        obtain ⟨V6, e6, h⟩ := lt_so h
        obtain ⟨V7, e7, c7, h⟩ := ckI_so h
        exact ih _ _ _ _ _ _ R2.2 (t_or t4 (t_shl tI_1 t5 e5) e6) (t_add t5 tI_1 c7 e7) h
/-- PupilCoin$Marks.toldBits(III)I -/
def g14 (X1 : Int) (X2 : Int) (X3 : Int) (S : gM) : Option (Int × gM) :=
  g14_l6 X1 X2 X3
  
    100000 0 0 S
theorem g14_ok {x1 : Int32} {X1 : Int} {x2 : Int32} {X2 : Int} {x3 : Int32} {X3 : Int} {S : gM} {M : vm_M} {r : Int × gM} (hR : Rel S M) (t1 : x1.toInt = X1) (t2 : x2.toInt = X2) (t3 : x3.toInt = X3) (h : g14 X1 X2 X3 S = some r) : Mp gRI (f14 11 x1 x2 x3 M) r := by
  unfold g14 at h
  unfold f14
  refine g14_l6_ok t1 t2 t3 100000 _ _ _ _ _ _ hR tI_0 tI_0 h
def g15_l6 (X1 : Int) (X2 : Int) (X3 : Int) (X4 : Int) (K42 : Int → gM → Option (Int × gM)) : Nat → Int → Int → gM → Option (Int × gM)
  | 0 => fun _ _ _ => none
  | n + 1 => fun X5 X6 S =>
    if 3 ≤ X6 then
      K42 X5 S
    else
      w_lt (b_shl 1 X6) fun V2 =>
      w_lt (b_and X4 V2) fun V3 =>
      if V3 = 0 then
        w_ckI (X6 + 1) fun V5 =>
        g15_l6 X1 X2 X3 X4 K42 n X5 V5 S
      else
        (g12 X1 X2 X6 X3 S).bind fun p6 =>
        w_ckI (X5 + p6.1) fun V7 =>
        w_ckI (X6 + 1) fun V8 =>
        g15_l6 X1 X2 X3 X4 K42 n V7 V8 p6.2
theorem g15_l6_ok {x1 : Int32} {X1 : Int} {x2 : Int32} {X2 : Int} {x3 : Int32} {X3 : Int} {x4 : Int32} {X4 : Int} {k42 : Int32 → vm_M → Option (Int32 × vm_M)} {K42 : Int → gM → Option (Int × gM)} {r : Int × gM} (hk42 : ∀ (y5 : Int32) (Y5 : Int) (S : gM) (M : vm_M), Rel S M → y5.toInt = Y5 → K42 Y5 S = some r → Mp gRI (k42 y5 M) r) (t1 : x1.toInt = X1) (t2 : x2.toInt = X2) (t3 : x3.toInt = X3) (t4 : x4.toInt = X4) : ∀ (n : Nat) (x5 : Int32) (X5 : Int) (x6 : Int32) (X6 : Int) (S : gM) (M : vm_M), Rel S M → x5.toInt = X5 → x6.toInt = X6 → g15_l6 X1 X2 X3 X4 K42 n X5 X6 S = some r → Mp gRI (f15_l6 11 x1 x2 x3 x4 k42 n x5 x6 M) r := by
  intro n
  induction n with
  | zero =>
    intro x5 X5 x6 X6 S M hR t5 t6 h
    cases h
  | succ n ih =>
    intro x5 X5 x6 X6 S M hR t5 t6 h
    dsimp only [g15_l6] at h
    dsimp only [f15_l6]
    refine k_ite (c_le tI_3 t6) h (fun c1 h => ?_) (fun c1 h => ?_)
    · exact hk42 _ _ _ _ hR t5 h
    · obtain ⟨V2, e2, h⟩ := lt_so h
      obtain ⟨V3, e3, h⟩ := lt_so h
      refine k_ite (c_eq (t_and t4 (t_shl tI_1 t6 e2) e3) tI_0) h (fun c4 h => ?_) (fun c4 h => ?_)
      · obtain ⟨V5, e5, c5, h⟩ := ckI_so h
        exact ih _ _ _ _ _ _ hR t5 (t_add t6 tI_1 c5 e5) h
      · refine k_ob (hR.obF (by decide) rfl) ?_
        obtain ⟨p6, e6, h⟩ := bind_so h
        refine k_call (g12_ok hR t1 t2 t6 t3 e6) (fun b6 R6 => ?_)
        obtain ⟨V7, e7, c7, h⟩ := ckI_so h
        obtain ⟨V8, e8, c8, h⟩ := ckI_so h
        exact ih _ _ _ _ _ _ R6.2 (t_add t5 R6.1 c7 e7) (t_add t6 tI_1 c8 e8) h
def g15_j153 (X1 : Int) (X2 : Int) (X3 : Int) (X4 : Int) (X8 : Int) (S : gM) : Option (Int × gM) :=
  w_lt (b_and X4 16) fun V21 =>
  if V21 = 0 then
    some (1, S)
  else
    (g12 X1 X2 4 X3 S).bind fun p23 =>
    if X8 < p23.1 then
      some (0, p23.2)
    else
      some (1, p23.2)
theorem g15_j153_ok {x1 : Int32} {X1 : Int} {x2 : Int32} {X2 : Int} {x3 : Int32} {X3 : Int} {x4 : Int32} {X4 : Int} {x8 : Int32} {X8 : Int} {S : gM} {M : vm_M} {r : Int × gM} (hR : Rel S M) (t1 : x1.toInt = X1) (t2 : x2.toInt = X2) (t3 : x3.toInt = X3) (t4 : x4.toInt = X4) (t8 : x8.toInt = X8) (h : g15_j153 X1 X2 X3 X4 X8 S = some r) : Mp gRI (f15_j153 11 x1 x2 x3 x4 x8 M) r := by
  unfold g15_j153 at h
  unfold f15_j153
  obtain ⟨V21, e21, h⟩ := lt_so h
  refine k_ite (c_eq (t_and t4 tI_16 e21) tI_0) h (fun c22 h => ?_) (fun c22 h => ?_)
  · exact k_retZ hR tI_1 (by decide) h
  · refine k_ob (hR.obF (by decide) rfl) ?_
    obtain ⟨p23, e23, h⟩ := bind_so h
    refine k_call (g12_ok hR t1 t2 tI_4 t3 e23) (fun b23 R23 => ?_)
    refine k_ite (c_lt t8 R23.1) h (fun c24 h => ?_) (fun c24 h => ?_)
    · exact k_retZ R23.2 tI_0 (by decide) h
    · exact k_retZ R23.2 tI_1 (by decide) h
def g15_j130 (X1 : Int) (X2 : Int) (X3 : Int) (X4 : Int) (X8 : Int) (S : gM) : Option (Int × gM) :=
  w_lt (b_and X4 8) fun V19 =>
  if V19 = 0 then
    g15_j153 X1 X2 X3 X4 X8 S
  else
    (g12 X1 X2 3 X3 S).bind fun p25 =>
    if p25.1 ≤ X8 then
      g15_j153 X1 X2 X3 X4 X8 p25.2
    else
      some (0, p25.2)
theorem g15_j130_ok {x1 : Int32} {X1 : Int} {x2 : Int32} {X2 : Int} {x3 : Int32} {X3 : Int} {x4 : Int32} {X4 : Int} {x8 : Int32} {X8 : Int} {S : gM} {M : vm_M} {r : Int × gM} (hR : Rel S M) (t1 : x1.toInt = X1) (t2 : x2.toInt = X2) (t3 : x3.toInt = X3) (t4 : x4.toInt = X4) (t8 : x8.toInt = X8) (h : g15_j130 X1 X2 X3 X4 X8 S = some r) : Mp gRI (f15_j130 11 x1 x2 x3 x4 x8 M) r := by
  unfold g15_j130 at h
  unfold f15_j130
  obtain ⟨V19, e19, h⟩ := lt_so h
  refine k_ite (c_eq (t_and t4 tI_8 e19) tI_0) h (fun c20 h => ?_) (fun c20 h => ?_)
  · exact g15_j153_ok hR t1 t2 t3 t4 t8 h
  · refine k_ob (hR.obF (by decide) rfl) ?_
    obtain ⟨p25, e25, h⟩ := bind_so h
    refine k_call (g12_ok hR t1 t2 tI_3 t3 e25) (fun b25 R25 => ?_)
    refine k_ite (c_le R25.1 t8) h (fun c26 h => ?_) (fun c26 h => ?_)
    · exact g15_j153_ok R25.2 t1 t2 t3 t4 t8 h
    · exact k_retZ R25.2 tI_0 (by decide) h
def g15_j104 (X1 : Int) (X2 : Int) (X3 : Int) (X4 : Int) (X5 : Int) (X6 : Int) (Xs0 : Int) (S : gM) : Option (Int × gM) :=
  if X6 = 0 then
    if X5 ≤ Xs0 then
      g15_j130 X1 X2 X3 X4 Xs0 S
    else
      some (0, S)
  else
    if X5 = Xs0 then
      g15_j130 X1 X2 X3 X4 Xs0 S
    else
      some (0, S)
theorem g15_j104_ok {x1 : Int32} {X1 : Int} {x2 : Int32} {X2 : Int} {x3 : Int32} {X3 : Int} {x4 : Int32} {X4 : Int} {x5 : Int32} {X5 : Int} {x6 : Int32} {X6 : Int} {xs0 : Int32} {Xs0 : Int} {S : gM} {M : vm_M} {r : Int × gM} (hR : Rel S M) (t1 : x1.toInt = X1) (t2 : x2.toInt = X2) (t3 : x3.toInt = X3) (t4 : x4.toInt = X4) (t5 : x5.toInt = X5) (t6 : x6.toInt = X6) (ts0 : xs0.toInt = Xs0) (h : g15_j104 X1 X2 X3 X4 X5 X6 Xs0 S = some r) : Mp gRI (f15_j104 11 x1 x2 x3 x4 x5 x6 xs0 M) r := by
  unfold g15_j104 at h
  unfold f15_j104
  refine k_ite (c_eq t6 tI_0) h (fun c17 h => ?_) (fun c17 h => ?_)
  · refine k_ite (c_le t5 ts0) h (fun c18 h => ?_) (fun c18 h => ?_)
    · exact g15_j130_ok hR t1 t2 t3 t4 ts0 h
    · exact k_retZ hR tI_0 (by decide) h
  · refine k_ite (c_eq t5 ts0) h (fun c27 h => ?_) (fun c27 h => ?_)
    · exact g15_j130_ok hR t1 t2 t3 t4 ts0 h
    · exact k_retZ hR tI_0 (by decide) h
def g15_j86 (X1 : Int) (X2 : Int) (X3 : Int) (X4 : Int) (X5 : Int) (X6 : Int) (X7 : Int) (S : gM) : Option (Int × gM) :=
  if X7 = 0 then
    g15_j104 X1 X2 X3 X4 X5 X6 X5 S
  else
    (g12 X1 X2 5 X3 S).bind fun p28 =>
    g15_j104 X1 X2 X3 X4 X5 X6 p28.1 p28.2
theorem g15_j86_ok {x1 : Int32} {X1 : Int} {x2 : Int32} {X2 : Int} {x3 : Int32} {X3 : Int} {x4 : Int32} {X4 : Int} {x5 : Int32} {X5 : Int} {x6 : Int32} {X6 : Int} {x7 : Int32} {X7 : Int} {S : gM} {M : vm_M} {r : Int × gM} (hR : Rel S M) (t1 : x1.toInt = X1) (t2 : x2.toInt = X2) (t3 : x3.toInt = X3) (t4 : x4.toInt = X4) (t5 : x5.toInt = X5) (t6 : x6.toInt = X6) (t7 : x7.toInt = X7) (h : g15_j86 X1 X2 X3 X4 X5 X6 X7 S = some r) : Mp gRI (f15_j86 11 x1 x2 x3 x4 x5 x6 x7 M) r := by
  unfold g15_j86 at h
  unfold f15_j86
  refine k_ite (c_eq t7 tI_0) h (fun c16 h => ?_) (fun c16 h => ?_)
  · exact g15_j104_ok hR t1 t2 t3 t4 t5 t6 t5 h
  · refine k_ob (hR.obF (by decide) rfl) ?_
    obtain ⟨p28, e28, h⟩ := bind_so h
    refine k_call (g12_ok hR t1 t2 tI_5 t3 e28) (fun b28 R28 => ?_)
    exact g15_j104_ok R28.2 t1 t2 t3 t4 t5 t6 R28.1 h
def g15_j72 (X1 : Int) (X2 : Int) (X3 : Int) (X4 : Int) (X5 : Int) (X6 : Int) (Xs0 : Int) (S : gM) : Option (Int × gM) :=
  if ¬ Xs0 = 0 then
    g15_j86 X1 X2 X3 X4 X5 X6 Xs0 S
  else
    if ¬ X6 = 0 then
      g15_j86 X1 X2 X3 X4 X5 X6 Xs0 S
    else
      some (1, S)
theorem g15_j72_ok {x1 : Int32} {X1 : Int} {x2 : Int32} {X2 : Int} {x3 : Int32} {X3 : Int} {x4 : Int32} {X4 : Int} {x5 : Int32} {X5 : Int} {x6 : Int32} {X6 : Int} {xs0 : Int32} {Xs0 : Int} {S : gM} {M : vm_M} {r : Int × gM} (hR : Rel S M) (t1 : x1.toInt = X1) (t2 : x2.toInt = X2) (t3 : x3.toInt = X3) (t4 : x4.toInt = X4) (t5 : x5.toInt = X5) (t6 : x6.toInt = X6) (ts0 : xs0.toInt = Xs0) (h : g15_j72 X1 X2 X3 X4 X5 X6 Xs0 S = some r) : Mp gRI (f15_j72 11 x1 x2 x3 x4 x5 x6 xs0 M) r := by
  unfold g15_j72 at h
  unfold f15_j72
  refine k_ite (c_ne ts0 tI_0) h (fun c15 h => ?_) (fun c15 h => ?_)
  · exact g15_j86_ok hR t1 t2 t3 t4 t5 t6 ts0 h
  · refine k_ite (c_ne t6 tI_0) h (fun c29 h => ?_) (fun c29 h => ?_)
    · exact g15_j86_ok hR t1 t2 t3 t4 t5 t6 ts0 h
    · exact k_retZ hR tI_1 (by decide) h
def g15_j57 (X1 : Int) (X2 : Int) (X3 : Int) (X4 : Int) (X5 : Int) (Xs0 : Int) (S : gM) : Option (Int × gM) :=
  w_lt (b_and X4 32) fun V13 =>
  if V13 = 0 then
    g15_j72 X1 X2 X3 X4 X5 Xs0 0 S
  else
    g15_j72 X1 X2 X3 X4 X5 Xs0 1 S
theorem g15_j57_ok {x1 : Int32} {X1 : Int} {x2 : Int32} {X2 : Int} {x3 : Int32} {X3 : Int} {x4 : Int32} {X4 : Int} {x5 : Int32} {X5 : Int} {xs0 : Int32} {Xs0 : Int} {S : gM} {M : vm_M} {r : Int × gM} (hR : Rel S M) (t1 : x1.toInt = X1) (t2 : x2.toInt = X2) (t3 : x3.toInt = X3) (t4 : x4.toInt = X4) (t5 : x5.toInt = X5) (ts0 : xs0.toInt = Xs0) (h : g15_j57 X1 X2 X3 X4 X5 Xs0 S = some r) : Mp gRI (f15_j57 11 x1 x2 x3 x4 x5 xs0 M) r := by
  unfold g15_j57 at h
  unfold f15_j57
  obtain ⟨V13, e13, h⟩ := lt_so h
  refine k_ite (c_eq (t_and t4 tI_32 e13) tI_0) h (fun c14 h => ?_) (fun c14 h => ?_)
  · exact g15_j72_ok hR t1 t2 t3 t4 t5 ts0 tI_0 h
  · exact g15_j72_ok hR t1 t2 t3 t4 t5 ts0 tI_1 h
/-- PupilCoin$Marks.canBe(IIII)Z -/
def g15 (X1 : Int) (X2 : Int) (X3 : Int) (X4 : Int) (S : gM) : Option (Int × gM) :=
  g15_l6 X1 X2 X3 X4
    (fun Y9 S10 =>
      w_lt (b_and X4 7) fun V11 =>
      if ¬ V11 = 7 then
        g15_j57 X1 X2 X3 X4 Y9 0 S10
      else
        g15_j57 X1 X2 X3 X4 Y9 1 S10)
    100000 0 0 S
theorem g15_ok {x1 : Int32} {X1 : Int} {x2 : Int32} {X2 : Int} {x3 : Int32} {X3 : Int} {x4 : Int32} {X4 : Int} {S : gM} {M : vm_M} {r : Int × gM} (hR : Rel S M) (t1 : x1.toInt = X1) (t2 : x2.toInt = X2) (t3 : x3.toInt = X3) (t4 : x4.toInt = X4) (h : g15 X1 X2 X3 X4 S = some r) : Mp gRI (f15 11 x1 x2 x3 x4 M) r := by
  unfold g15 at h
  unfold f15
  refine g15_l6_ok ?_ t1 t2 t3 t4 100000 _ _ _ _ _ _ hR tI_0 tI_0 h
  · intro y9 Y9 S10 M10 R10 u9
    intro h
    obtain ⟨V11, e11, h⟩ := lt_so h
    refine k_ite (c_ne (t_and t4 tI_7 e11) tI_7) h (fun c12 h => ?_) (fun c12 h => ?_)
    · exact g15_j57_ok R10 t1 t2 t3 t4 u9 tI_0 h
    · exact g15_j57_ok R10 t1 t2 t3 t4 u9 tI_1 h
/-- PupilCoin$Mill.pushed(II[JI)J -/
def g18 (X1 : Int) (X2 : Int) (X4 : Int) (S : gM) : Option (Int × gM) :=
  if ¬ X1 = 0 then
    if ¬ X1 = 1 then
      w_ckI (X4 + X2) fun V3 =>
      if 360 ≤ V3 then
        some (0, S)
      else
        w_ckI (X4 + X2) fun V6 =>
        w_chk ((0 : Int) ≤ V6 ∧ V6 < 360) <|
        w_lt (gl S 34 V6) fun V8 =>
        some (V8, S)
    else
      if 10 ≤ X2 then
        some (0, S)
      else
        w_chk ((0 : Int) ≤ X2 ∧ X2 < 10) <|
        w_lt (gl S 32 X2) fun V11 =>
        some (V11, S)
  else
    some (X2, S)
theorem g18_ok {x1 : Int32} {X1 : Int} {x2 : Int32} {X2 : Int} {x4 : Int32} {X4 : Int} {S : gM} {M : vm_M} {r : Int × gM} (hR : Rel S M) (t1 : x1.toInt = X1) (t2 : x2.toInt = X2) (t4 : x4.toInt = X4) (h : g18 X1 X2 X4 S = some r) : Mp gRJ (f18 31 x1 x2 34 x4 M) r := by
  unfold g18 at h
  unfold f18
  refine k_ite (c_ne t1 tI_0) h (fun c1 h => ?_) (fun c1 h => ?_)
  · refine k_ite (c_ne t1 tI_1) h (fun c2 h => ?_) (fun c2 h => ?_)
    · obtain ⟨V3, e3, c3, h⟩ := ckI_so h
      refine k_len (hR.lnF (by decide) rfl) rfl (by decide) (fun v4 z4 => ?_)
      refine k_ite (c_le z4 (t_add t4 t2 c3 e3)) h (fun c5 h => ?_) (fun c5 h => ?_)
      · exact k_retJ hR tJ_0 h
      · obtain ⟨V6, e6, c6, h⟩ := ckI_so h
        obtain ⟨c7, h⟩ := chk_so h
        obtain ⟨V8, e8, h⟩ := lt_so h
        refine k_al hR (hR.lnF (by decide) rfl) rfl (t_add t4 t2 c6 e6) c7 e8 (fun v8 z8 => ?_)
        exact k_retJ hR z8 h
    · refine k_ite (c_le tI_10 t2) h (fun c9 h => ?_) (fun c9 h => ?_)
      · exact k_retJ hR tJ_0 h
      · refine k_grF 47 hR (hR.obF (by decide) rfl) rfl ?_
        refine k_some ?_
        obtain ⟨c10, h⟩ := chk_so h
        obtain ⟨V11, e11, h⟩ := lt_so h
        refine k_al hR (hR.lnF (by decide) rfl) rfl t2 c10 e11 (fun v11 z11 => ?_)
        exact k_retJ hR z11 h
  · exact k_retJ hR (t_itol t2) h
/-- PupilCoin$Mill.both(IJJ)J -/
def g19 (X0 : Int) (X1 : Int) (X3 : Int) (S : gM) : Option (Int × gM) :=
  if X0 = 3 then
    w_ckJ (X1 + X3) fun V2 =>
    w_lt (min 100000000 V2) fun V3 =>
    w_lt (max (-100000000) V3) fun V4 =>
    some (V4, S)
  else if X0 = 4 then
    w_ckJ (X1 - X3) fun V6 =>
    w_lt (min 100000000 V6) fun V7 =>
    w_lt (max (-100000000) V7) fun V8 =>
    some (V8, S)
  else if X0 = 5 then
    w_ckJ (X1 * X3) fun V10 =>
    w_lt (min 100000000 V10) fun V11 =>
    w_lt (max (-100000000) V11) fun V12 =>
    some (V12, S)
  else if X0 = 6 then
    if ¬ X3 = 0 then
      w_chk (¬ X3 = 0) <|
      w_ckJ (X1.tdiv X3) fun V15 =>
      some (V15, S)
    else
      some (0, S)
  else if X0 = 7 then
    w_lt (min X1 X3) fun V18 =>
    some (V18, S)
  else if X0 = 8 then
    w_lt (max X1 X3) fun V20 =>
    some (V20, S)
  else if X0 = 9 then
    if X3 ≤ X1 then
      some (0, S)
    else
      some (1, S)
  else if X0 = 10 then
    if X1 ≤ X3 then
      some (0, S)
    else
      some (1, S)
  else if X0 = 11 then
    if ¬ X1 = X3 then
      some (0, S)
    else
      some (1, S)
  else if X0 = 12 then
    w_lt (B_and X1 X3) fun V28 =>
    some (V28, S)
  else if X0 = 13 then
    w_lt (B_or X1 X3) fun V30 =>
    some (V30, S)
  else 
    some (0, S)
theorem g19_ok {x0 : Int32} {X0 : Int} {x1 : Int64} {X1 : Int} {x3 : Int64} {X3 : Int} {S : gM} {M : vm_M} {r : Int × gM} (hR : Rel S M) (t0 : x0.toInt = X0) (t1 : x1.toInt = X1) (t3 : x3.toInt = X3) (h : g19 X0 X1 X3 S = some r) : Mp gRJ (f19 x0 x1 x3 M) r := by
  unfold g19 at h
  unfold f19
  refine k_ite (c_eq t0 tI_3) h (fun c1 h => ?_) (fun c1 h => ?_)
  · obtain ⟨V2, e2, c2, h⟩ := ckJ_so h
    obtain ⟨V3, e3, h⟩ := lt_so h
    obtain ⟨V4, e4, h⟩ := lt_so h
    exact k_retJ hR (t_mxJ tJ_m100000000 (t_mnJ tJ_100000000 (tJ_add t1 t3 c2 e2) e3) e4) h
  refine k_ite (c_eq t0 tI_4) h (fun c5 h => ?_) (fun c5 h => ?_)
  · obtain ⟨V6, e6, c6, h⟩ := ckJ_so h
    obtain ⟨V7, e7, h⟩ := lt_so h
    obtain ⟨V8, e8, h⟩ := lt_so h
    exact k_retJ hR (t_mxJ tJ_m100000000 (t_mnJ tJ_100000000 (tJ_sub t1 t3 c6 e6) e7) e8) h
  refine k_ite (c_eq t0 tI_5) h (fun c9 h => ?_) (fun c9 h => ?_)
  · obtain ⟨V10, e10, c10, h⟩ := ckJ_so h
    obtain ⟨V11, e11, h⟩ := lt_so h
    obtain ⟨V12, e12, h⟩ := lt_so h
    exact k_retJ hR (t_mxJ tJ_m100000000 (t_mnJ tJ_100000000 (tJ_mul t1 t3 c10 e10) e11) e12) h
  refine k_ite (c_eq t0 tI_6) h (fun c13 h => ?_) (fun c13 h => ?_)
  · refine k_ite (cJ_ne t3 tJ_0) h (fun c14 h => ?_) (fun c14 h => ?_)
    · obtain ⟨c16, h⟩ := chk_so h
      obtain ⟨V15, e15, c15, h⟩ := ckJ_so h
      refine k_dvJ t1 t3 c16 c15 e15 (fun v15 z15 => ?_)
      exact k_retJ hR z15 h
    · exact k_retJ hR tJ_0 h
  refine k_ite (c_eq t0 tI_7) h (fun c17 h => ?_) (fun c17 h => ?_)
  · obtain ⟨V18, e18, h⟩ := lt_so h
    exact k_retJ hR (t_mnJ t1 t3 e18) h
  refine k_ite (c_eq t0 tI_8) h (fun c19 h => ?_) (fun c19 h => ?_)
  · obtain ⟨V20, e20, h⟩ := lt_so h
    exact k_retJ hR (t_mxJ t1 t3 e20) h
  refine k_ite (c_eq t0 tI_9) h (fun c21 h => ?_) (fun c21 h => ?_)
  · refine k_ite (cJ_ge t1 t3) h (fun c22 h => ?_) (fun c22 h => ?_)
    · exact k_retJ hR tJ_0 h
    · exact k_retJ hR tJ_1 h
  refine k_ite (c_eq t0 tI_10) h (fun c23 h => ?_) (fun c23 h => ?_)
  · refine k_ite (cJ_le t1 t3) h (fun c24 h => ?_) (fun c24 h => ?_)
    · exact k_retJ hR tJ_0 h
    · exact k_retJ hR tJ_1 h
  refine k_ite (c_eq t0 tI_11) h (fun c25 h => ?_) (fun c25 h => ?_)
  · refine k_ite (cJ_ne t1 t3) h (fun c26 h => ?_) (fun c26 h => ?_)
    · exact k_retJ hR tJ_0 h
    · exact k_retJ hR tJ_1 h
  refine k_ite (c_eq t0 tI_12) h (fun c27 h => ?_) (fun c27 h => ?_)
  · obtain ⟨V28, e28, h⟩ := lt_so h
    exact k_retJ hR (tJ_and t1 t3 e28) h
  refine k_ite (c_eq t0 tI_13) h (fun c29 h => ?_) (fun c29 h => ?_)
  · obtain ⟨V30, e30, h⟩ := lt_so h
    exact k_retJ hR (tJ_or t1 t3 e30) h
  exact k_retJ hR tJ_0 h
def g17_l10 (x1 : Nat) (X3 : Int) (X5 : Int) (K175 : Int → gM → Option (Int × gM)) : Nat → Int → Int → gM → Option (Int × gM)
  | 0 => fun _ _ _ => none
  | n + 1 => fun X6 X7 S =>
    if X3 ≤ X7 then
      K175 X6 S
    else
      w_chk (gob S x1 1 = true) <|
      w_chk (gr S x1 8 = some (x1 + 4)) <|
      w_chk ((0 : Int) ≤ gln S (x1 + 4) 0) <|
      w_chk ((gln S (x1 + 4) 0) ≤ 2147483647) <|
      if (gln S (x1 + 4) 0) ≤ X7 then
        K175 X6 S
      else
        w_chk (gob S x1 1 = true) <|
        w_chk (gr S x1 8 = some (x1 + 4)) <|
        w_chk ((0 : Int) ≤ gln S (x1 + 4) 0) <|
        w_chk ((0 : Int) ≤ X7 ∧ X7 < (gln S (x1 + 4) 0)) <|
        w_lt (gi S (x1 + 4) X7) fun V13 =>
        w_ckI (V13.tdiv 16) fun _ =>
        w_lt (V13.tmod 16) fun V14 =>
        w_chk (gob S x1 1 = true) <|
        w_chk (gr S x1 8 = some (x1 + 4)) <|
        w_chk ((0 : Int) ≤ gln S (x1 + 4) 0) <|
        w_chk ((0 : Int) ≤ X7 ∧ X7 < (gln S (x1 + 4) 0)) <|
        w_lt (gi S (x1 + 4) X7) fun V19 =>
        w_ckI (V19.tdiv 16) fun V20 =>
        if 2 < V14 then
          if ¬ V14 = 14 then
            if 2 ≤ X6 then
              w_ckI (X6 + (-1)) fun V24 =>
              w_ckI (V24 - 1) fun V25 =>
              w_ckI (V24 - 1) fun V26 =>
              w_chk ((0 : Int) ≤ V26 ∧ V26 < 64) <|
              w_lt (gl S 33 V26) fun V28 =>
              w_chk ((0 : Int) ≤ V24 ∧ V24 < 64) <|
              w_lt (gl S 33 V24) fun V30 =>
              (g19 V14 V28 V30 S).bind fun p31 =>
              w_chk ((0 : Int) ≤ V25 ∧ V25 < 64) <|
              w_lt (wl p31.2 33 V25 p31.1) fun S33 =>
              w_ckI (X7 + 1) fun V34 =>
              g17_l10 x1 X3 X5 K175 n V24 V34 S33
            else
              some (0, S)
          else
            if 1 ≤ X6 then
              w_ckI (X6 - 1) fun V36 =>
              w_ckI (X6 - 1) fun V37 =>
              w_chk ((0 : Int) ≤ V37 ∧ V37 < 64) <|
              w_lt (gl S 33 V37) fun V39 =>
              w_ckJ (1 - V39) fun V40 =>
              w_chk ((0 : Int) ≤ V36 ∧ V36 < 64) <|
              w_lt (wl S 33 V36 V40) fun S42 =>
              w_ckI (X7 + 1) fun V43 =>
              g17_l10 x1 X3 X5 K175 n X6 V43 S42
            else
              some (0, S)
        else
          if X6 < 64 then
            w_ckI (X6 + 1) fun V45 =>
            (g18 V14 V20 X5 S).bind fun p46 =>
            w_chk ((0 : Int) ≤ X6 ∧ X6 < 64) <|
            w_lt (wl p46.2 33 X6 p46.1) fun S48 =>
            w_ckI (X7 + 1) fun V49 =>
            g17_l10 x1 X3 X5 K175 n V45 V49 S48
          else
            some (0, S)
theorem g17_l10_ok {x1 : Nat} {x3 : Int32} {X3 : Int} {x5 : Int32} {X5 : Int} {k175 : Int32 → vm_M → Option (Int64 × vm_M)} {K175 : Int → gM → Option (Int × gM)} {r : Int × gM} (hk175 : ∀ (y6 : Int32) (Y6 : Int) (S : gM) (M : vm_M), Rel S M → y6.toInt = Y6 → K175 Y6 S = some r → Mp gRJ (k175 y6 M) r) (t3 : x3.toInt = X3) (t5 : x5.toInt = X5) : ∀ (n : Nat) (x6 : Int32) (X6 : Int) (x7 : Int32) (X7 : Int) (S : gM) (M : vm_M), Rel S M → x6.toInt = X6 → x7.toInt = X7 → g17_l10 x1 X3 X5 K175 n X6 X7 S = some r → Mp gRJ (f17_l10 31 x1 x3 34 x5 k175 n x6 x7 M) r := by
  intro n
  induction n with
  | zero =>
    intro x6 X6 x7 X7 S M hR t6 t7 h
    cases h
  | succ n ih =>
    intro x6 X6 x7 X7 S M hR t6 t7 h
    dsimp only [g17_l10] at h
    dsimp only [f17_l10]
    refine k_ite (c_le t3 t7) h (fun c2 h => ?_) (fun c2 h => ?_)
    · exact hk175 _ _ _ _ hR t6 h
    · obtain ⟨c3, h⟩ := chk_so h
      obtain ⟨c4, h⟩ := chk_so h
      refine k_gr hR (hR.ob c3) c4.symm ?_
      refine k_some ?_
      obtain ⟨hn5, h⟩ := chk_so h
      obtain ⟨n5, en5, hn5⟩ := hR.ln hn5
      obtain ⟨c7, h⟩ := chk_so h
      refine k_len hn5 en5.symm c7 (fun v6 z6 => ?_)
      refine k_ite (c_le z6 t7) h (fun c8 h => ?_) (fun c8 h => ?_)
      · exact hk175 _ _ _ _ hR t6 h
      · obtain ⟨c9, h⟩ := chk_so h
        obtain ⟨c10, h⟩ := chk_so h
        refine k_gr hR (hR.ob c9) c10.symm ?_
        refine k_some ?_
        obtain ⟨hn11, h⟩ := chk_so h
        obtain ⟨n11, en11, hn11⟩ := hR.ln hn11
        obtain ⟨c12, h⟩ := chk_so h
        obtain ⟨V13, e13, h⟩ := lt_so h
        refine k_ai hR hn11 en11.symm t7 c12 e13 (fun v13 z13 => ?_)
        obtain ⟨_, _, c14, h⟩ := ckI_so h
        obtain ⟨V14, e14, h⟩ := lt_so h
        refine k_rmI z13 tI_16 (by decide) c14 e14 (fun v14 z14 => ?_)
        obtain ⟨c15, h⟩ := chk_so h
        obtain ⟨c16, h⟩ := chk_so h
        refine k_gr hR (hR.ob c15) c16.symm ?_
        refine k_some ?_
        obtain ⟨hn17, h⟩ := chk_so h
        obtain ⟨n17, en17, hn17⟩ := hR.ln hn17
        obtain ⟨c18, h⟩ := chk_so h
        obtain ⟨V19, e19, h⟩ := lt_so h
        refine k_ai hR hn17 en17.symm t7 c18 e19 (fun v19 z19 => ?_)
        obtain ⟨V20, e20, c20, h⟩ := ckI_so h
        refine k_dvI z19 tI_16 (by decide) c20 e20 (fun v20 z20 => ?_)
        refine k_ite (c_lt tI_2 z14) h (fun c21 h => ?_) (fun c21 h => ?_)
        · refine k_ite (c_ne z14 tI_14) h (fun c22 h => ?_) (fun c22 h => ?_)
          · refine k_ite (c_le tI_2 t6) h (fun c23 h => ?_) (fun c23 h => ?_)
            · obtain ⟨V24, e24, c24, h⟩ := ckI_so h
              refine k_grF 48 hR (hR.obF (by decide) rfl) rfl ?_
              obtain ⟨V25, e25, c25, h⟩ := ckI_so h
              refine k_grF 48 hR (hR.obF (by decide) rfl) rfl ?_
              obtain ⟨V26, e26, c26, h⟩ := ckI_so h
              refine k_some ?_
              obtain ⟨c27, h⟩ := chk_so h
              obtain ⟨V28, e28, h⟩ := lt_so h
              refine k_al hR (hR.lnF (by decide) rfl) rfl (t_sub (t_add t6 tI_m1 c24 e24) tI_1 c26 e26) c27 e28 (fun v28 z28 => ?_)
              refine k_grF 48 hR (hR.obF (by decide) rfl) rfl ?_
              refine k_some ?_
              obtain ⟨c29, h⟩ := chk_so h
              obtain ⟨V30, e30, h⟩ := lt_so h
              refine k_al hR (hR.lnF (by decide) rfl) rfl (t_add t6 tI_m1 c24 e24) c29 e30 (fun v30 z30 => ?_)
              obtain ⟨p31, e31, h⟩ := bind_so h
              refine k_call (g19_ok hR z14 z28 z30 e31) (fun b31 R31 => ?_)
              obtain ⟨c32, h⟩ := chk_so h
              obtain ⟨S33, e33, h⟩ := lt_so h
              refine k_sl R31.2 (R31.2.lnF (by decide) rfl) rfl (t_sub (t_add t6 tI_m1 c24 e24) tI_1 c25 e25) c32 R31.1 e33 (fun M33 R33 => ?_)
              obtain ⟨V34, e34, c34, h⟩ := ckI_so h
              exact ih _ _ _ _ _ _ R33 (t_add t6 tI_m1 c24 e24) (t_add t7 tI_1 c34 e34) h
            · exact k_retJ hR tJ_0 h
          · refine k_ite (c_le tI_1 t6) h (fun c35 h => ?_) (fun c35 h => ?_)
            · refine k_grF 48 hR (hR.obF (by decide) rfl) rfl ?_
              obtain ⟨V36, e36, c36, h⟩ := ckI_so h
              refine k_grF 48 hR (hR.obF (by decide) rfl) rfl ?_
              obtain ⟨V37, e37, c37, h⟩ := ckI_so h
              refine k_some ?_
              obtain ⟨c38, h⟩ := chk_so h
              obtain ⟨V39, e39, h⟩ := lt_so h
              refine k_al hR (hR.lnF (by decide) rfl) rfl (t_sub t6 tI_1 c37 e37) c38 e39 (fun v39 z39 => ?_)
              obtain ⟨V40, e40, c40, h⟩ := ckJ_so h
              obtain ⟨c41, h⟩ := chk_so h
              obtain ⟨S42, e42, h⟩ := lt_so h
              refine k_sl hR (hR.lnF (by decide) rfl) rfl (t_sub t6 tI_1 c36 e36) c41 (tJ_sub tJ_1 z39 c40 e40) e42 (fun M42 R42 => ?_)
              obtain ⟨V43, e43, c43, h⟩ := ckI_so h
              exact ih _ _ _ _ _ _ R42 t6 (t_add t7 tI_1 c43 e43) h
            · exact k_retJ hR tJ_0 h
        · refine k_ite (c_lt t6 tI_64) h (fun c44 h => ?_) (fun c44 h => ?_)
          · refine k_grF 48 hR (hR.obF (by decide) rfl) rfl ?_
            obtain ⟨V45, e45, c45, h⟩ := ckI_so h
            refine k_ob (hR.obF (by decide) rfl) ?_
            obtain ⟨p46, e46, h⟩ := bind_so h
            refine k_call (g18_ok hR z14 z20 t5 e46) (fun b46 R46 => ?_)
            refine k_some ?_
            obtain ⟨c47, h⟩ := chk_so h
            obtain ⟨S48, e48, h⟩ := lt_so h
            refine k_sl R46.2 (R46.2.lnF (by decide) rfl) rfl t6 c47 R46.1 e48 (fun M48 R48 => ?_)
            obtain ⟨V49, e49, c49, h⟩ := ckI_so h
            exact ih _ _ _ _ _ _ R48 (t_add t6 tI_1 c45 e45) (t_add t7 tI_1 c49 e49) h
          · exact k_retJ hR tJ_0 h
def g17_j175 (X6 : Int) (S : gM) : Option (Int × gM) :=
  if ¬ X6 = 1 then
    some (0, S)
  else
    w_lt (gl S 33 0) fun V53 =>
    some (V53, S)
theorem g17_j175_ok {x6 : Int32} {X6 : Int} {S : gM} {M : vm_M} {r : Int × gM} (hR : Rel S M) (t6 : x6.toInt = X6) (h : g17_j175 X6 S = some r) : Mp gRJ (f17_j175 31 x6 M) r := by
  unfold g17_j175 at h
  unfold f17_j175
  refine k_ite (c_ne t6 tI_1) h (fun c52 h => ?_) (fun c52 h => ?_)
  · exact k_retJ hR tJ_0 h
  · refine k_grF 48 hR (hR.obF (by decide) rfl) rfl ?_
    refine k_some ?_
    obtain ⟨V53, e53, h⟩ := lt_so h
    refine k_al hR (hR.lnF (by decide) rfl) rfl tI_0 (by decide) e53 (fun v53 z53 => ?_)
    exact k_retJ hR z53 h
/-- PupilCoin$Mill.run(LPupilCoin$Law;II[JI)J -/
def g17 (x1 : Nat) (X2 : Int) (X3 : Int) (X5 : Int) (S : gM) : Option (Int × gM) :=
  w_lt (max 0 X2) fun V1 =>
  g17_l10 x1 X3 X5
    (fun Y50 S51 =>
      g17_j175 Y50 S51)
    100000 0 V1 S
theorem g17_ok {x1 : Nat} {x2 : Int32} {X2 : Int} {x3 : Int32} {X3 : Int} {x5 : Int32} {X5 : Int} {S : gM} {M : vm_M} {r : Int × gM} (hR : Rel S M) (t2 : x2.toInt = X2) (t3 : x3.toInt = X3) (t5 : x5.toInt = X5) (h : g17 x1 X2 X3 X5 S = some r) : Mp gRJ (f17 31 x1 x2 x3 34 x5 M) r := by
  unfold g17 at h
  unfold f17
  obtain ⟨V1, e1, h⟩ := lt_so h
  refine g17_l10_ok ?_ t3 t5 100000 _ _ _ _ _ _ hR tI_0 (t_mxI tI_0 t2 e1) h
  · intro y50 Y50 S51 M51 R51 u50
    intro h
    exact g17_j175_ok R51 u50 h
/-- PupilCoin$Moves.begin(III)I -/
def g21 (X1 : Int) (X2 : Int) (X3 : Int) (S : gM) : Option (Int × gM) :=
  w_lt (gi S 45 8) fun V1 =>
  if V1 < 20 then
    w_lt (gi S 45 8) fun V3 =>
    w_chk ((0 : Int) ≤ V3 ∧ V3 < 20) <|
    w_lt (wi S 46 V3 X1) fun S5 =>
    w_lt (gi S5 45 8) fun V6 =>
    w_chk ((0 : Int) ≤ V6 ∧ V6 < 20) <|
    w_lt (wi S5 50 V6 X2) fun S8 =>
    w_lt (gi S8 45 8) fun V9 =>
    w_chk ((0 : Int) ≤ V9 ∧ V9 < 20) <|
    w_lt (wi S8 51 V9 X3) fun S11 =>
    w_lt (gi S11 45 8) fun V12 =>
    w_ckI (V12 + 1) fun V13 =>
    w_lt (wi S11 45 8 V13) fun S14 =>
    some (V12, S14)
  else
    some ((-1), S)
theorem g21_ok {x1 : Int32} {X1 : Int} {x2 : Int32} {X2 : Int} {x3 : Int32} {X3 : Int} {S : gM} {M : vm_M} {r : Int × gM} (hR : Rel S M) (t1 : x1.toInt = X1) (t2 : x2.toInt = X2) (t3 : x3.toInt = X3) (h : g21 X1 X2 X3 S = some r) : Mp gRI (f21 45 x1 x2 x3 M) r := by
  unfold g21 at h
  unfold f21
  obtain ⟨V1, e1, h⟩ := lt_so h
  refine k_gi hR (hR.obF (by decide) rfl) rfl e1 (fun v1 z1 => ?_)
  refine k_ite (c_lt z1 tI_20) h (fun c2 h => ?_) (fun c2 h => ?_)
  · refine k_grF 49 hR (hR.obF (by decide) rfl) rfl ?_
    obtain ⟨V3, e3, h⟩ := lt_so h
    refine k_gi hR (hR.obF (by decide) rfl) rfl e3 (fun v3 z3 => ?_)
    refine k_some ?_
    obtain ⟨c4, h⟩ := chk_so h
    obtain ⟨S5, e5, h⟩ := lt_so h
    refine k_si hR (hR.lnF (by decide) rfl) rfl z3 c4 t1 e5 (fun M5 R5 => ?_)
    refine k_grF 53 R5 (R5.obF (by decide) rfl) rfl ?_
    obtain ⟨V6, e6, h⟩ := lt_so h
    refine k_gi R5 (R5.obF (by decide) rfl) rfl e6 (fun v6 z6 => ?_)
    refine k_some ?_
    obtain ⟨c7, h⟩ := chk_so h
    obtain ⟨S8, e8, h⟩ := lt_so h
    refine k_si R5 (R5.lnF (by decide) rfl) rfl z6 c7 t2 e8 (fun M8 R8 => ?_)
    refine k_grF 54 R8 (R8.obF (by decide) rfl) rfl ?_
    obtain ⟨V9, e9, h⟩ := lt_so h
    refine k_gi R8 (R8.obF (by decide) rfl) rfl e9 (fun v9 z9 => ?_)
    refine k_some ?_
    obtain ⟨c10, h⟩ := chk_so h
    obtain ⟨S11, e11, h⟩ := lt_so h
    refine k_si R8 (R8.lnF (by decide) rfl) rfl z9 c10 t3 e11 (fun M11 R11 => ?_)
    obtain ⟨V12, e12, h⟩ := lt_so h
    refine k_gi R11 (R11.obF (by decide) rfl) rfl e12 (fun v12 z12 => ?_)
    obtain ⟨V13, e13, c13, h⟩ := ckI_so h
    obtain ⟨S14, e14, h⟩ := lt_so h
    refine k_pi R11 (R11.obF (by decide) rfl) rfl (t_add z12 tI_1 c13 e13) e14 (fun M14 R14 => ?_)
    exact k_retI R14 z12 h
  · exact k_retI hR tI_m1 h
/-- PupilCoin$Moves.objects(II)Z -/
def g22 (X1 : Int) (X2 : Int) (S : gM) : Option (Int × gM) :=
  w_chk ((0 : Int) ≤ X1 ∧ X1 < 20) <|
  w_lt (gi S 52 X1) fun V2 =>
  w_lt (b_shl 1 X2) fun V3 =>
  w_lt (b_and V2 V3) fun V4 =>
  if V4 = 0 then
    some (0, S)
  else
    some (1, S)
theorem g22_ok {x1 : Int32} {X1 : Int} {x2 : Int32} {X2 : Int} {S : gM} {M : vm_M} {r : Int × gM} (hR : Rel S M) (t1 : x1.toInt = X1) (t2 : x2.toInt = X2) (h : g22 X1 X2 S = some r) : Mp gRI (f22 45 x1 x2 M) r := by
  unfold g22 at h
  unfold f22
  refine k_grF 55 hR (hR.obF (by decide) rfl) rfl ?_
  refine k_some ?_
  obtain ⟨c1, h⟩ := chk_so h
  obtain ⟨V2, e2, h⟩ := lt_so h
  refine k_ai hR (hR.lnF (by decide) rfl) rfl t1 c1 e2 (fun v2 z2 => ?_)
  obtain ⟨V3, e3, h⟩ := lt_so h
  obtain ⟨V4, e4, h⟩ := lt_so h
  refine k_ite (c_eq (t_and z2 (t_shl tI_1 t2 e3) e4) tI_0) h (fun c5 h => ?_) (fun c5 h => ?_)
  · exact k_retZ hR tI_0 (by decide) h
  · exact k_retZ hR tI_1 (by decide) h
def g23_l5 (X1 : Int) (X2 : Int) : Nat → Int → Int → gM → Option (Int × gM)
  | 0 => fun _ _ _ => none
  | n + 1 => fun X3 X5 S =>
    w_lt (gi S 45 8) fun V1 =>
    if V1 ≤ X5 then
      some (X3, S)
    else
      w_chk ((0 : Int) ≤ X5 ∧ X5 < 20) <|
      w_lt (gi S 53 X5) fun V4 =>
      if V4 = 0 then
        w_ckI (X5 + 1) fun V6 =>
        g23_l5 X1 X2 n X3 V6 S
      else
        w_chk ((0 : Int) ≤ X5 ∧ X5 < 20) <|
        w_lt (gi S 46 X5) fun V8 =>
        if ¬ V8 = X1 then
          w_ckI (X5 + 1) fun V10 =>
          g23_l5 X1 X2 n X3 V10 S
        else
          w_chk ((0 : Int) ≤ X5 ∧ X5 < 20) <|
          w_lt (gi S 50 X5) fun V12 =>
          if ¬ V12 = X2 then
            w_ckI (X5 + 1) fun V14 =>
            g23_l5 X1 X2 n X3 V14 S
          else
            w_chk ((0 : Int) ≤ X5 ∧ X5 < 20) <|
            w_lt (gi S 49 X5) fun V16 =>
            w_ckJ (X3 + V16) fun V17 =>
            w_ckI (X5 + 1) fun V18 =>
            g23_l5 X1 X2 n V17 V18 S
theorem g23_l5_ok {x1 : Int32} {X1 : Int} {x2 : Int32} {X2 : Int} {r : Int × gM} (t1 : x1.toInt = X1) (t2 : x2.toInt = X2) : ∀ (n : Nat) (x3 : Int64) (X3 : Int) (x5 : Int32) (X5 : Int) (S : gM) (M : vm_M), Rel S M → x3.toInt = X3 → x5.toInt = X5 → g23_l5 X1 X2 n X3 X5 S = some r → Mp gRJ (f23_l5 45 x1 x2 n x3 x5 M) r := by
  intro n
  induction n with
  | zero =>
    intro x3 X3 x5 X5 S M hR t3 t5 h
    cases h
  | succ n ih =>
    intro x3 X3 x5 X5 S M hR t3 t5 h
    dsimp only [g23_l5] at h
    dsimp only [f23_l5]
    obtain ⟨V1, e1, h⟩ := lt_so h
    refine k_gi hR (hR.obF (by decide) rfl) rfl e1 (fun v1 z1 => ?_)
    refine k_ite (c_le z1 t5) h (fun c2 h => ?_) (fun c2 h => ?_)
    · exact k_retJ hR t3 h
    · refine k_grF 56 hR (hR.obF (by decide) rfl) rfl ?_
      refine k_some ?_
      obtain ⟨c3, h⟩ := chk_so h
      obtain ⟨V4, e4, h⟩ := lt_so h
      refine k_ai hR (hR.lnF (by decide) rfl) rfl t5 c3 e4 (fun v4 z4 => ?_)
      refine k_ite (c_eq z4 tI_0) h (fun c5 h => ?_) (fun c5 h => ?_)
      · obtain ⟨V6, e6, c6, h⟩ := ckI_so h
        exact ih _ _ _ _ _ _ hR t3 (t_add t5 tI_1 c6 e6) h
      · refine k_grF 49 hR (hR.obF (by decide) rfl) rfl ?_
        refine k_some ?_
        obtain ⟨c7, h⟩ := chk_so h
        obtain ⟨V8, e8, h⟩ := lt_so h
        refine k_ai hR (hR.lnF (by decide) rfl) rfl t5 c7 e8 (fun v8 z8 => ?_)
        refine k_ite (c_ne z8 t1) h (fun c9 h => ?_) (fun c9 h => ?_)
        · obtain ⟨V10, e10, c10, h⟩ := ckI_so h
          exact ih _ _ _ _ _ _ hR t3 (t_add t5 tI_1 c10 e10) h
        · refine k_grF 53 hR (hR.obF (by decide) rfl) rfl ?_
          refine k_some ?_
          obtain ⟨c11, h⟩ := chk_so h
          obtain ⟨V12, e12, h⟩ := lt_so h
          refine k_ai hR (hR.lnF (by decide) rfl) rfl t5 c11 e12 (fun v12 z12 => ?_)
          refine k_ite (c_ne z12 t2) h (fun c13 h => ?_) (fun c13 h => ?_)
          · obtain ⟨V14, e14, c14, h⟩ := ckI_so h
            exact ih _ _ _ _ _ _ hR t3 (t_add t5 tI_1 c14 e14) h
          · refine k_grF 52 hR (hR.obF (by decide) rfl) rfl ?_
            refine k_some ?_
            obtain ⟨c15, h⟩ := chk_so h
            obtain ⟨V16, e16, h⟩ := lt_so h
            refine k_ai hR (hR.lnF (by decide) rfl) rfl t5 c15 e16 (fun v16 z16 => ?_)
            obtain ⟨V17, e17, c17, h⟩ := ckJ_so h
            obtain ⟨V18, e18, c18, h⟩ := ckI_so h
            exact ih _ _ _ _ _ _ hR (tJ_add t3 (t_itol z16) c17 e17) (t_add t5 tI_1 c18 e18) h
/-- PupilCoin$Moves.adoptedCoins(II)J -/
def g23 (X1 : Int) (X2 : Int) (S : gM) : Option (Int × gM) :=
  g23_l5 X1 X2
  
    100000 0 0 S
theorem g23_ok {x1 : Int32} {X1 : Int} {x2 : Int32} {X2 : Int} {S : gM} {M : vm_M} {r : Int × gM} (hR : Rel S M) (t1 : x1.toInt = X1) (t2 : x2.toInt = X2) (h : g23 X1 X2 S = some r) : Mp gRJ (f23 45 x1 x2 M) r := by
  unfold g23 at h
  unfold f23
  refine g23_l5_ok t1 t2 100000 _ _ _ _ _ _ hR tJ_0 tI_0 h
def g24_j60 (K5 : Int → Int → gM → Option (Int × gM)) (X1 : Int) (X2 : Int) (X3 : Int) (X5 : Int) (S : gM) : Option (Int × gM) :=
  w_chk ((0 : Int) ≤ X5 ∧ X5 < 20) <|
  w_lt (gi S 47 X5) fun V14 =>
  if ¬ V14 = X1 then
    w_ckI (X5 + 1) fun V16 =>
    K5 X3 V16 S
  else
    w_chk ((0 : Int) ≤ X5 ∧ X5 < 20) <|
    w_lt (gi S 49 X5) fun V18 =>
    w_ckJ (X3 - V18) fun V19 =>
    w_ckI (X5 + 1) fun V20 =>
    K5 V19 V20 S
theorem g24_j60_ok {k5 : Int64 → Int32 → vm_M → Option (Int64 × vm_M)} {K5 : Int → Int → gM → Option (Int × gM)} {x1 : Int32} {X1 : Int} {x2 : Int32} {X2 : Int} {x3 : Int64} {X3 : Int} {x5 : Int32} {X5 : Int} {S : gM} {M : vm_M} {r : Int × gM} (hk5 : ∀ (y3 : Int64) (Y3 : Int) (y5 : Int32) (Y5 : Int) (S : gM) (M : vm_M), Rel S M → y3.toInt = Y3 → y5.toInt = Y5 → K5 Y3 Y5 S = some r → Mp gRJ (k5 y3 y5 M) r) (hR : Rel S M) (t1 : x1.toInt = X1) (t2 : x2.toInt = X2) (t3 : x3.toInt = X3) (t5 : x5.toInt = X5) (h : g24_j60 K5 X1 X2 X3 X5 S = some r) : Mp gRJ (f24_j60 k5 45 x1 x2 x3 x5 M) r := by
  unfold g24_j60 at h
  unfold f24_j60
  refine k_grF 50 hR (hR.obF (by decide) rfl) rfl ?_
  refine k_some ?_
  obtain ⟨c13, h⟩ := chk_so h
  obtain ⟨V14, e14, h⟩ := lt_so h
  refine k_ai hR (hR.lnF (by decide) rfl) rfl t5 c13 e14 (fun v14 z14 => ?_)
  refine k_ite (c_ne z14 t1) h (fun c15 h => ?_) (fun c15 h => ?_)
  · obtain ⟨V16, e16, c16, h⟩ := ckI_so h
    exact hk5 _ _ _ _ _ _ hR t3 (t_add t5 tI_1 c16 e16) h
  · refine k_grF 52 hR (hR.obF (by decide) rfl) rfl ?_
    refine k_some ?_
    obtain ⟨c17, h⟩ := chk_so h
    obtain ⟨V18, e18, h⟩ := lt_so h
    refine k_ai hR (hR.lnF (by decide) rfl) rfl t5 c17 e18 (fun v18 z18 => ?_)
    obtain ⟨V19, e19, c19, h⟩ := ckJ_so h
    obtain ⟨V20, e20, c20, h⟩ := ckI_so h
    exact hk5 _ _ _ _ _ _ hR (tJ_sub t3 (t_itol z18) c19 e19) (t_add t5 tI_1 c20 e20) h
def g24_l5 (X1 : Int) (X2 : Int) : Nat → Int → Int → gM → Option (Int × gM)
  | 0 => fun _ _ _ => none
  | n + 1 => fun X3 X5 S =>
    w_lt (gi S 45 8) fun V1 =>
    if V1 ≤ X5 then
      some (X3, S)
    else
      w_chk ((0 : Int) ≤ X5 ∧ X5 < 20) <|
      w_lt (gi S 53 X5) fun V4 =>
      if V4 = 0 then
        w_ckI (X5 + 1) fun V6 =>
        g24_l5 X1 X2 n X3 V6 S
      else
        w_chk ((0 : Int) ≤ X5 ∧ X5 < 20) <|
        w_lt (gi S 50 X5) fun V8 =>
        if V8 = X2 then
          w_chk ((0 : Int) ≤ X5 ∧ X5 < 20) <|
          w_lt (gi S 48 X5) fun V11 =>
          if ¬ V11 = X1 then
            g24_j60 (g24_l5 X1 X2 n) X1 X2 X3 X5 S
          else
            w_chk ((0 : Int) ≤ X5 ∧ X5 < 20) <|
            w_lt (gi S 49 X5) fun V22 =>
            w_ckJ (X3 + V22) fun V23 =>
            g24_j60 (g24_l5 X1 X2 n) X1 X2 V23 X5 S
        else
          w_ckI (X5 + 1) fun V24 =>
          g24_l5 X1 X2 n X3 V24 S
theorem g24_l5_ok {x1 : Int32} {X1 : Int} {x2 : Int32} {X2 : Int} {r : Int × gM} (t1 : x1.toInt = X1) (t2 : x2.toInt = X2) : ∀ (n : Nat) (x3 : Int64) (X3 : Int) (x5 : Int32) (X5 : Int) (S : gM) (M : vm_M), Rel S M → x3.toInt = X3 → x5.toInt = X5 → g24_l5 X1 X2 n X3 X5 S = some r → Mp gRJ (f24_l5 45 x1 x2 n x3 x5 M) r := by
  intro n
  induction n with
  | zero =>
    intro x3 X3 x5 X5 S M hR t3 t5 h
    cases h
  | succ n ih =>
    intro x3 X3 x5 X5 S M hR t3 t5 h
    dsimp only [g24_l5] at h
    dsimp only [f24_l5]
    obtain ⟨V1, e1, h⟩ := lt_so h
    refine k_gi hR (hR.obF (by decide) rfl) rfl e1 (fun v1 z1 => ?_)
    refine k_ite (c_le z1 t5) h (fun c2 h => ?_) (fun c2 h => ?_)
    · exact k_retJ hR t3 h
    · refine k_grF 56 hR (hR.obF (by decide) rfl) rfl ?_
      refine k_some ?_
      obtain ⟨c3, h⟩ := chk_so h
      obtain ⟨V4, e4, h⟩ := lt_so h
      refine k_ai hR (hR.lnF (by decide) rfl) rfl t5 c3 e4 (fun v4 z4 => ?_)
      refine k_ite (c_eq z4 tI_0) h (fun c5 h => ?_) (fun c5 h => ?_)
      · obtain ⟨V6, e6, c6, h⟩ := ckI_so h
        exact ih _ _ _ _ _ _ hR t3 (t_add t5 tI_1 c6 e6) h
      · refine k_grF 53 hR (hR.obF (by decide) rfl) rfl ?_
        refine k_some ?_
        obtain ⟨c7, h⟩ := chk_so h
        obtain ⟨V8, e8, h⟩ := lt_so h
        refine k_ai hR (hR.lnF (by decide) rfl) rfl t5 c7 e8 (fun v8 z8 => ?_)
        refine k_ite (c_eq z8 t2) h (fun c9 h => ?_) (fun c9 h => ?_)
        · refine k_grF 51 hR (hR.obF (by decide) rfl) rfl ?_
          refine k_some ?_
          obtain ⟨c10, h⟩ := chk_so h
          obtain ⟨V11, e11, h⟩ := lt_so h
          refine k_ai hR (hR.lnF (by decide) rfl) rfl t5 c10 e11 (fun v11 z11 => ?_)
          refine k_ite (c_ne z11 t1) h (fun c12 h => ?_) (fun c12 h => ?_)
          · exact g24_j60_ok ih hR t1 t2 t3 t5 h
          · refine k_grF 52 hR (hR.obF (by decide) rfl) rfl ?_
            refine k_some ?_
            obtain ⟨c21, h⟩ := chk_so h
            obtain ⟨V22, e22, h⟩ := lt_so h
            refine k_ai hR (hR.lnF (by decide) rfl) rfl t5 c21 e22 (fun v22 z22 => ?_)
            obtain ⟨V23, e23, c23, h⟩ := ckJ_so h
            exact g24_j60_ok ih hR t1 t2 (tJ_add t3 (t_itol z22) c23 e23) t5 h
        · obtain ⟨V24, e24, c24, h⟩ := ckI_so h
          exact ih _ _ _ _ _ _ hR t3 (t_add t5 tI_1 c24 e24) h
/-- PupilCoin$Moves.moved(II)J -/
def g24 (X1 : Int) (X2 : Int) (S : gM) : Option (Int × gM) :=
  g24_l5 X1 X2
  
    100000 0 0 S
theorem g24_ok {x1 : Int32} {X1 : Int} {x2 : Int32} {X2 : Int} {S : gM} {M : vm_M} {r : Int × gM} (hR : Rel S M) (t1 : x1.toInt = X1) (t2 : x2.toInt = X2) (h : g24 X1 X2 S = some r) : Mp gRJ (f24 45 x1 x2 M) r := by
  unfold g24 at h
  unfold f24
  refine g24_l5_ok t1 t2 100000 _ _ _ _ _ _ hR tJ_0 tI_0 h
/-- PupilCoin$Rates.<init>(LPupilCoin$Land;LPupilCoin$Sums;I)V -/
def g25 (x0 : Nat) (X3 : Int) (S : gM) : Option (gM) :=
  w_chk (gob S x0 5 = true) <|
  w_chk (103 ≤ x0) <|
  w_lt (wr S x0 0 (some 1)) fun S3 =>
  w_chk (gob S3 x0 5 = true) <|
  w_chk (103 ≤ x0) <|
  w_lt (wr S3 x0 1 (some 30)) fun S6 =>
  w_chk (gob S6 x0 5 = true) <|
  w_lt (wi S6 x0 2 X3) fun S8 =>
  some S8
theorem g25_ok {x0 : Nat} {x3 : Int32} {X3 : Int} {S : gM} {M : vm_M} {r : gM} (hR : Rel S M) (t3 : x3.toInt = X3) (h : g25 x0 X3 S = some r) : Mp gRV (f25 x0 1 30 x3 M) r := by
  unfold g25 at h
  unfold f25
  obtain ⟨c1, h⟩ := chk_so h
  obtain ⟨c2, h⟩ := chk_so h
  obtain ⟨S3, e3, h⟩ := lt_so h
  refine k_pr hR (hR.ob c1) (rfl_far c2) e3 (fun M3 R3 => ?_)
  obtain ⟨c4, h⟩ := chk_so h
  obtain ⟨c5, h⟩ := chk_so h
  obtain ⟨S6, e6, h⟩ := lt_so h
  refine k_pr R3 (R3.ob c4) (rfl_far c5) e6 (fun M6 R6 => ?_)
  obtain ⟨c7, h⟩ := chk_so h
  obtain ⟨S8, e8, h⟩ := lt_so h
  refine k_pi R6 (R6.ob c7) rfl t3 e8 (fun M8 R8 => ?_)
  exact k_retV R8 h
def g27_l9 (x0 : Nat) (X1 : Int) (X2 : Int) (X3 : Int) (X4 : Int) (X5 : Int) (K145 : Int → Int → gM → Option (gM)) : Nat → Int → Int → Int → gM → Option (gM)
  | 0 => fun _ _ _ _ => none
  | n + 1 => fun X7 X9 X10 S =>
    w_chk (gob S x0 5 = true) <|
    w_chk (gr S x0 0 = some 1) <|
    w_lt (gi S 1 7) fun V3 =>
    if V3 ≤ X10 then
      K145 X7 X9 S
    else
      w_chk (gob S x0 5 = true) <|
      w_chk (gr S x0 0 = some 1) <|
      w_chk (gob S x0 5 = true) <|
      w_lt (gi S x0 2) fun V8 =>
      (g2 X10 V8 S).bind fun p9 =>
      if ¬ p9.1 = 0 then
        w_chk (gob p9.2 x0 5 = true) <|
        w_chk (gr p9.2 x0 1 = some 30) <|
        w_ckI (X10 * 30) fun V13 =>
        w_ckI (V13 + X1) fun V14 =>
        w_chk ((0 : Int) ≤ V14 ∧ V14 < 360) <|
        w_lt (gl p9.2 34 V14) fun V16 =>
        w_chk (gob p9.2 x0 5 = true) <|
        w_chk (gr p9.2 x0 1 = some 30) <|
        w_ckI (X10 * 30) fun V19 =>
        w_ckI (V19 + X2) fun V20 =>
        w_chk ((0 : Int) ≤ V20 ∧ V20 < 360) <|
        w_lt (gl p9.2 34 V20) fun V22 =>
        w_chk (gob p9.2 x0 5 = true) <|
        w_chk (gr p9.2 x0 1 = some 30) <|
        w_chk ((0 : Int) ≤ X10 ∧ X10 < 12) <|
        w_lt (gl p9.2 35 X10) fun V26 =>
        w_ckJ (V26 - V16) fun V27 =>
        w_ckJ (V27 - V22) fun V28 =>
        w_ckJ (V16 * X3) fun V29 =>
        w_ckJ (V29.tdiv 10) fun V30 =>
        w_ckJ (V28 + V30) fun V31 =>
        w_ckJ (V22 * X4) fun V32 =>
        w_ckJ (V32.tdiv 10) fun V33 =>
        w_ckJ (V31 + V33) fun V34 =>
        w_ckJ (X7 + V34) fun V35 =>
        w_chk (gob p9.2 x0 5 = true) <|
        w_chk (gr p9.2 x0 1 = some 30) <|
        w_chk ((0 : Int) ≤ X10 ∧ X10 < 12) <|
        w_lt (gl p9.2 40 X10) fun V39 =>
        if V39 ≤ V34 then
          w_ckI (X10 + 1) fun V41 =>
          g27_l9 x0 X1 X2 X3 X4 X5 K145 n V35 X9 V41 p9.2
        else
          w_ckI (X9 + 1) fun V42 =>
          w_ckI (X10 + 1) fun V43 =>
          g27_l9 x0 X1 X2 X3 X4 X5 K145 n V35 V42 V43 p9.2
      else
        w_ckI (X10 + 1) fun V44 =>
        g27_l9 x0 X1 X2 X3 X4 X5 K145 n X7 X9 V44 p9.2
theorem g27_l9_ok {x0 : Nat} {x1 : Int32} {X1 : Int} {x2 : Int32} {X2 : Int} {x3 : Int32} {X3 : Int} {x4 : Int32} {X4 : Int} {x5 : Int64} {X5 : Int} {k145 : Int64 → Int32 → vm_M → Option (vm_M)} {K145 : Int → Int → gM → Option (gM)} {r : gM} (hk145 : ∀ (y7 : Int64) (Y7 : Int) (y9 : Int32) (Y9 : Int) (S : gM) (M : vm_M), Rel S M → y7.toInt = Y7 → y9.toInt = Y9 → K145 Y7 Y9 S = some r → Mp gRV (k145 y7 y9 M) r) (t1 : x1.toInt = X1) (t2 : x2.toInt = X2) (t3 : x3.toInt = X3) (t4 : x4.toInt = X4) (t5 : x5.toInt = X5) : ∀ (n : Nat) (x7 : Int64) (X7 : Int) (x9 : Int32) (X9 : Int) (x10 : Int32) (X10 : Int) (S : gM) (M : vm_M), Rel S M → x7.toInt = X7 → x9.toInt = X9 → x10.toInt = X10 → g27_l9 x0 X1 X2 X3 X4 X5 K145 n X7 X9 X10 S = some r → Mp gRV (f27_l9 x0 x1 x2 x3 x4 x5 k145 n x7 x9 x10 M) r := by
  intro n
  induction n with
  | zero =>
    intro x7 X7 x9 X9 x10 X10 S M hR t7 t9 t10 h
    cases h
  | succ n ih =>
    intro x7 X7 x9 X9 x10 X10 S M hR t7 t9 t10 h
    dsimp only [g27_l9] at h
    dsimp only [f27_l9]
    obtain ⟨c1, h⟩ := chk_so h
    obtain ⟨c2, h⟩ := chk_so h
    refine k_gr hR (hR.ob c1) c2.symm ?_
    refine k_some ?_
    obtain ⟨V3, e3, h⟩ := lt_so h
    refine k_gi hR (hR.obF (by decide) rfl) rfl e3 (fun v3 z3 => ?_)
    refine k_ite (c_le z3 t10) h (fun c4 h => ?_) (fun c4 h => ?_)
    · exact hk145 _ _ _ _ _ _ hR t7 t9 h
    · obtain ⟨c5, h⟩ := chk_so h
      obtain ⟨c6, h⟩ := chk_so h
      refine k_gr hR (hR.ob c5) c6.symm ?_
      obtain ⟨c7, h⟩ := chk_so h
      obtain ⟨V8, e8, h⟩ := lt_so h
      refine k_gi hR (hR.ob c7) rfl e8 (fun v8 z8 => ?_)
      refine k_some ?_
      refine k_ob (hR.obF (by decide) rfl) ?_
      obtain ⟨p9, e9, h⟩ := bind_so h
      refine k_call (g2_ok hR t10 z8 e9) (fun b9 R9 => ?_)
      refine k_ite (c_ne R9.1 tI_0) h (fun c10 h => ?_) (fun c10 h => ?_)
      · obtain ⟨c11, h⟩ := chk_so h
        obtain ⟨c12, h⟩ := chk_so h
        refine k_gr R9.2 (R9.2.ob c11) c12.symm ?_
        refine k_some ?_
        refine k_grF 36 R9.2 (R9.2.obF (by decide) rfl) rfl ?_
        obtain ⟨V13, e13, c13, h⟩ := ckI_so h
        obtain ⟨V14, e14, c14, h⟩ := ckI_so h
        refine k_some ?_
        obtain ⟨c15, h⟩ := chk_so h
        obtain ⟨V16, e16, h⟩ := lt_so h
        refine k_al R9.2 (R9.2.lnF (by decide) rfl) rfl (t_add (t_mul t10 tI_30 c13 e13) t1 c14 e14) c15 e16 (fun v16 z16 => ?_)
        obtain ⟨c17, h⟩ := chk_so h
        obtain ⟨c18, h⟩ := chk_so h
        refine k_gr R9.2 (R9.2.ob c17) c18.symm ?_
        refine k_some ?_
        refine k_grF 36 R9.2 (R9.2.obF (by decide) rfl) rfl ?_
        obtain ⟨V19, e19, c19, h⟩ := ckI_so h
        obtain ⟨V20, e20, c20, h⟩ := ckI_so h
        refine k_some ?_
        obtain ⟨c21, h⟩ := chk_so h
        obtain ⟨V22, e22, h⟩ := lt_so h
        refine k_al R9.2 (R9.2.lnF (by decide) rfl) rfl (t_add (t_mul t10 tI_30 c19 e19) t2 c20 e20) c21 e22 (fun v22 z22 => ?_)
        obtain ⟨c23, h⟩ := chk_so h
        obtain ⟨c24, h⟩ := chk_so h
        refine k_gr R9.2 (R9.2.ob c23) c24.symm ?_
        refine k_some ?_
        refine k_grF 37 R9.2 (R9.2.obF (by decide) rfl) rfl ?_
        refine k_some ?_
        obtain ⟨c25, h⟩ := chk_so h
        obtain ⟨V26, e26, h⟩ := lt_so h
        refine k_al R9.2 (R9.2.lnF (by decide) rfl) rfl t10 c25 e26 (fun v26 z26 => ?_)
        obtain ⟨V27, e27, c27, h⟩ := ckJ_so h
        obtain ⟨V28, e28, c28, h⟩ := ckJ_so h
        obtain ⟨V29, e29, c29, h⟩ := ckJ_so h
        obtain ⟨V30, e30, c30, h⟩ := ckJ_so h
        refine k_dvJ (tJ_mul z16 (t_itol t3) c29 e29) tJ_10 (by decide) c30 e30 (fun v30 z30 => ?_)
        obtain ⟨V31, e31, c31, h⟩ := ckJ_so h
        obtain ⟨V32, e32, c32, h⟩ := ckJ_so h
        obtain ⟨V33, e33, c33, h⟩ := ckJ_so h
        refine k_dvJ (tJ_mul z22 (t_itol t4) c32 e32) tJ_10 (by decide) c33 e33 (fun v33 z33 => ?_)
        obtain ⟨V34, e34, c34, h⟩ := ckJ_so h
        obtain ⟨V35, e35, c35, h⟩ := ckJ_so h
        obtain ⟨c36, h⟩ := chk_so h
        obtain ⟨c37, h⟩ := chk_so h
        refine k_gr R9.2 (R9.2.ob c36) c37.symm ?_
        refine k_some ?_
        refine k_grF 42 R9.2 (R9.2.obF (by decide) rfl) rfl ?_
        refine k_some ?_
        obtain ⟨c38, h⟩ := chk_so h
        obtain ⟨V39, e39, h⟩ := lt_so h
        refine k_al R9.2 (R9.2.lnF (by decide) rfl) rfl t10 c38 e39 (fun v39 z39 => ?_)
        refine k_ite (cJ_ge (tJ_add (tJ_add (tJ_sub (tJ_sub z26 z16 c27 e27) z22 c28 e28) z30 c31 e31) z33 c34 e34) z39) h (fun c40 h => ?_) (fun c40 h => ?_)
        · obtain ⟨V41, e41, c41, h⟩ := ckI_so h
          exact ih _ _ _ _ _ _ _ _ R9.2 (tJ_add t7 (tJ_add (tJ_add (tJ_sub (tJ_sub z26 z16 c27 e27) z22 c28 e28) z30 c31 e31) z33 c34 e34) c35 e35) t9 (t_add t10 tI_1 c41 e41) h
        · obtain ⟨V42, e42, c42, h⟩ := ckI_so h
          obtain ⟨V43, e43, c43, h⟩ := ckI_so h
          exact ih _ _ _ _ _ _ _ _ R9.2 (tJ_add t7 (tJ_add (tJ_add (tJ_sub (tJ_sub z26 z16 c27 e27) z22 c28 e28) z30 c31 e31) z33 c34 e34) c35 e35) (t_add t9 tI_1 c42 e42) (t_add t10 tI_1 c43 e43) h
      · obtain ⟨V44, e44, c44, h⟩ := ckI_so h
        exact ih _ _ _ _ _ _ _ _ R9.2 t7 t9 (t_add t10 tI_1 c44 e44) h
def g27_j194 (x0 : Nat) (X3 : Int) (X4 : Int) (X7 : Int) (X9 : Int) (S : gM) : Option (gM) :=
  w_chk (gob S x0 5 = true) <|
  w_lt (wi S x0 3 1) fun S53 =>
  w_chk (gob S53 x0 5 = true) <|
  w_lt (wl S53 x0 4 X9) fun S55 =>
  w_chk (gob S55 x0 5 = true) <|
  w_lt (wl S55 x0 5 X7) fun S57 =>
  w_chk (gob S57 x0 5 = true) <|
  w_lt (wi S57 x0 6 X3) fun S59 =>
  w_chk (gob S59 x0 5 = true) <|
  w_lt (wi S59 x0 7 X4) fun S61 =>
  some S61
theorem g27_j194_ok {x0 : Nat} {x3 : Int32} {X3 : Int} {x4 : Int32} {X4 : Int} {x7 : Int64} {X7 : Int} {x9 : Int32} {X9 : Int} {S : gM} {M : vm_M} {r : gM} (hR : Rel S M) (t3 : x3.toInt = X3) (t4 : x4.toInt = X4) (t7 : x7.toInt = X7) (t9 : x9.toInt = X9) (h : g27_j194 x0 X3 X4 X7 X9 S = some r) : Mp gRV (f27_j194 x0 x3 x4 x7 x9 M) r := by
  unfold g27_j194 at h
  unfold f27_j194
  obtain ⟨c52, h⟩ := chk_so h
  obtain ⟨S53, e53, h⟩ := lt_so h
  refine k_pz hR (hR.ob c52) rfl tI_1 (by decide) e53 (fun M53 R53 => ?_)
  obtain ⟨c54, h⟩ := chk_so h
  obtain ⟨S55, e55, h⟩ := lt_so h
  refine k_pl R53 (R53.ob c54) rfl (t_itol t9) e55 (fun M55 R55 => ?_)
  obtain ⟨c56, h⟩ := chk_so h
  obtain ⟨S57, e57, h⟩ := lt_so h
  refine k_pl R55 (R55.ob c56) rfl t7 e57 (fun M57 R57 => ?_)
  obtain ⟨c58, h⟩ := chk_so h
  obtain ⟨S59, e59, h⟩ := lt_so h
  refine k_pi R57 (R57.ob c58) rfl t3 e59 (fun M59 R59 => ?_)
  obtain ⟨c60, h⟩ := chk_so h
  obtain ⟨S61, e61, h⟩ := lt_so h
  refine k_pi R59 (R59.ob c60) rfl t4 e61 (fun M61 R61 => ?_)
  exact k_retV R61 h
/-- PupilCoin$Rates.weigh(IIIIJ)V -/
def g27 (x0 : Nat) (X1 : Int) (X2 : Int) (X3 : Int) (X4 : Int) (X5 : Int) (S : gM) : Option (gM) :=
  g27_l9 x0 X1 X2 X3 X4 X5
    (fun Y45 Y46 S47 =>
      if Y45 ≤ X5 then
        w_chk (gob S47 x0 5 = true) <|
        w_lt (gi S47 x0 3) fun V50 =>
        if V50 = 0 then
          g27_j194 x0 X3 X4 Y45 Y46 S47
        else
          w_chk (gob S47 x0 5 = true) <|
          w_lt (gl S47 x0 4) fun V63 =>
          if V63 < Y46 then
            some S47
          else
            w_chk (gob S47 x0 5 = true) <|
            w_lt (gl S47 x0 4) fun V66 =>
            if ¬ Y46 = V66 then
              g27_j194 x0 X3 X4 Y45 Y46 S47
            else
              w_chk (gob S47 x0 5 = true) <|
              w_lt (gl S47 x0 5) fun V69 =>
              if V69 < Y45 then
                g27_j194 x0 X3 X4 Y45 Y46 S47
              else
                some S47
      else
        some S47)
    100000 0 0 0 S
theorem g27_ok {x0 : Nat} {x1 : Int32} {X1 : Int} {x2 : Int32} {X2 : Int} {x3 : Int32} {X3 : Int} {x4 : Int32} {X4 : Int} {x5 : Int64} {X5 : Int} {S : gM} {M : vm_M} {r : gM} (hR : Rel S M) (t1 : x1.toInt = X1) (t2 : x2.toInt = X2) (t3 : x3.toInt = X3) (t4 : x4.toInt = X4) (t5 : x5.toInt = X5) (h : g27 x0 X1 X2 X3 X4 X5 S = some r) : Mp gRV (f27 x0 x1 x2 x3 x4 x5 M) r := by
  unfold g27 at h
  unfold f27
  refine g27_l9_ok ?_ t1 t2 t3 t4 t5 100000 _ _ _ _ _ _ _ _ hR tJ_0 tI_0 tI_0 h
  · intro y45 Y45 y46 Y46 S47 M47 R47 u45 u46
    intro h
    refine k_ite (cJ_le u45 t5) h (fun c48 h => ?_) (fun c48 h => ?_)
    · obtain ⟨c49, h⟩ := chk_so h
      obtain ⟨V50, e50, h⟩ := lt_so h
      refine k_gi R47 (R47.ob c49) rfl e50 (fun v50 z50 => ?_)
      refine k_ite (c_eq z50 tI_0) h (fun c51 h => ?_) (fun c51 h => ?_)
      · exact g27_j194_ok R47 t3 t4 u45 u46 h
      · obtain ⟨c62, h⟩ := chk_so h
        obtain ⟨V63, e63, h⟩ := lt_so h
        refine k_gl R47 (R47.ob c62) rfl e63 (fun v63 z63 => ?_)
        refine k_ite (cJ_gt (t_itol u46) z63) h (fun c64 h => ?_) (fun c64 h => ?_)
        · exact k_retV R47 h
        · obtain ⟨c65, h⟩ := chk_so h
          obtain ⟨V66, e66, h⟩ := lt_so h
          refine k_gl R47 (R47.ob c65) rfl e66 (fun v66 z66 => ?_)
          refine k_ite (cJ_ne (t_itol u46) z66) h (fun c67 h => ?_) (fun c67 h => ?_)
          · exact g27_j194_ok R47 t3 t4 u45 u46 h
          · obtain ⟨c68, h⟩ := chk_so h
            obtain ⟨V69, e69, h⟩ := lt_so h
            refine k_gl R47 (R47.ob c68) rfl e69 (fun v69 z69 => ?_)
            refine k_ite (cJ_gt u45 z69) h (fun c70 h => ?_) (fun c70 h => ?_)
            · exact g27_j194_ok R47 t3 t4 u45 u46 h
            · exact k_retV R47 h
    · exact k_retV R47 h
def g26_l13 (x0 : Nat) (X1 : Int) (X2 : Int) (X3 : Int) (X5 : Int) (K37 : gM → Option (gM)) : Nat → Int → gM → Option (gM)
  | 0 => fun _ _ => none
  | n + 1 => fun X6 S =>
    if 20 < X6 then
      K37 S
    else
      w_chk (gob S x0 5 = true) <|
      (g27 x0 X1 X2 X5 X6 X3 S).bind fun p3 =>
      w_ckI (X6 + 1) fun V5 =>
      g26_l13 x0 X1 X2 X3 X5 K37 n V5 p3
theorem g26_l13_ok {x0 : Nat} {x1 : Int32} {X1 : Int} {x2 : Int32} {X2 : Int} {x3 : Int64} {X3 : Int} {x5 : Int32} {X5 : Int} {k37 : vm_M → Option (vm_M)} {K37 : gM → Option (gM)} {r : gM} (hk37 : ∀ (S : gM) (M : vm_M), Rel S M → K37 S = some r → Mp gRV (k37 M) r) (t1 : x1.toInt = X1) (t2 : x2.toInt = X2) (t3 : x3.toInt = X3) (t5 : x5.toInt = X5) : ∀ (n : Nat) (x6 : Int32) (X6 : Int) (S : gM) (M : vm_M), Rel S M → x6.toInt = X6 → g26_l13 x0 X1 X2 X3 X5 K37 n X6 S = some r → Mp gRV (f26_l13 x0 x1 x2 x3 x5 k37 n x6 M) r := by
  intro n
  induction n with
  | zero =>
    intro x6 X6 S M hR t6 h
    cases h
  | succ n ih =>
    intro x6 X6 S M hR t6 h
    dsimp only [g26_l13] at h
    dsimp only [f26_l13]
    refine k_ite (c_lt tI_20 t6) h (fun c2 h => ?_) (fun c2 h => ?_)
    · exact hk37 _ _ hR h
    · obtain ⟨c4, h⟩ := chk_so h
      refine k_ob (hR.ob c4) ?_
      obtain ⟨p3, e3, h⟩ := bind_so h
      refine k_call (g27_ok hR t1 t2 t5 t6 t3 e3) (fun M3 R3 => ?_)
      obtain ⟨V5, e5, c5, h⟩ := ckI_so h
      exact ih _ _ _ _ R3 (t_add t6 tI_1 c5 e5) h
def g26_l3 (x0 : Nat) (X1 : Int) (X2 : Int) (X3 : Int) : Nat → Int → gM → Option (gM)
  | 0 => fun _ _ => none
  | n + 1 => fun X5 S =>
    if 20 < X5 then
      some S
    else
      g26_l13 x0 X1 X2 X3 X5
        (fun S6 =>
          w_ckI (X5 + 1) fun V7 =>
          g26_l3 x0 X1 X2 X3 n V7 S6)
        100000 0 S
theorem g26_l3_ok {x0 : Nat} {x1 : Int32} {X1 : Int} {x2 : Int32} {X2 : Int} {x3 : Int64} {X3 : Int} {r : gM} (t1 : x1.toInt = X1) (t2 : x2.toInt = X2) (t3 : x3.toInt = X3) : ∀ (n : Nat) (x5 : Int32) (X5 : Int) (S : gM) (M : vm_M), Rel S M → x5.toInt = X5 → g26_l3 x0 X1 X2 X3 n X5 S = some r → Mp gRV (f26_l3 x0 x1 x2 x3 n x5 M) r := by
  intro n
  induction n with
  | zero =>
    intro x5 X5 S M hR t5 h
    cases h
  | succ n ih =>
    intro x5 X5 S M hR t5 h
    dsimp only [g26_l3] at h
    dsimp only [f26_l3]
    refine k_ite (c_lt tI_20 t5) h (fun c1 h => ?_) (fun c1 h => ?_)
    · exact k_retV hR h
    · refine g26_l13_ok ?_ t1 t2 t3 t5 100000 _ _ _ _ hR tI_0 h
      · intro S6 M6 R6
        intro h
        obtain ⟨V7, e7, c7, h⟩ := ckI_so h
        exact ih _ _ _ _ R6 (t_add t5 tI_1 c7 e7) h
/-- PupilCoin$Rates.search(IIJ)V -/
def g26 (x0 : Nat) (X1 : Int) (X2 : Int) (X3 : Int) (S : gM) : Option (gM) :=
  g26_l3 x0 X1 X2 X3
  
    100000 0 S
theorem g26_ok {x0 : Nat} {x1 : Int32} {X1 : Int} {x2 : Int32} {X2 : Int} {x3 : Int64} {X3 : Int} {S : gM} {M : vm_M} {r : gM} (hR : Rel S M) (t1 : x1.toInt = X1) (t2 : x2.toInt = X2) (t3 : x3.toInt = X3) (h : g26 x0 X1 X2 X3 S = some r) : Mp gRV (f26 x0 x1 x2 x3 M) r := by
  unfold g26 at h
  unfold f26
  refine g26_l3_ok t1 t2 t3 100000 _ _ _ _ hR tI_0 h
/-- PupilCoin$Rates.tells(I)J -/
def g28 (x0 : Nat) (X1 : Int) (S : gM) : Option (Int × gM) :=
  if X1 = 0 then
    w_chk (gob S x0 5 = true) <|
    w_lt (gl S x0 4) fun V3 =>
    some (V3, S)
  else if X1 = 1 then
    w_chk (gob S x0 5 = true) <|
    w_lt (gl S x0 5) fun V6 =>
    some (V6, S)
  else if X1 = 2 then
    w_chk (gob S x0 5 = true) <|
    w_lt (gi S x0 6) fun V9 =>
    some (V9, S)
  else 
    w_chk (gob S x0 5 = true) <|
    w_lt (gi S x0 7) fun V11 =>
    some (V11, S)
theorem g28_ok {x0 : Nat} {x1 : Int32} {X1 : Int} {S : gM} {M : vm_M} {r : Int × gM} (hR : Rel S M) (t1 : x1.toInt = X1) (h : g28 x0 X1 S = some r) : Mp gRJ (f28 x0 x1 M) r := by
  unfold g28 at h
  unfold f28
  refine k_ite (c_eq t1 tI_0) h (fun c1 h => ?_) (fun c1 h => ?_)
  · obtain ⟨c2, h⟩ := chk_so h
    obtain ⟨V3, e3, h⟩ := lt_so h
    refine k_gl hR (hR.ob c2) rfl e3 (fun v3 z3 => ?_)
    exact k_retJ hR z3 h
  refine k_ite (c_eq t1 tI_1) h (fun c4 h => ?_) (fun c4 h => ?_)
  · obtain ⟨c5, h⟩ := chk_so h
    obtain ⟨V6, e6, h⟩ := lt_so h
    refine k_gl hR (hR.ob c5) rfl e6 (fun v6 z6 => ?_)
    exact k_retJ hR z6 h
  refine k_ite (c_eq t1 tI_2) h (fun c7 h => ?_) (fun c7 h => ?_)
  · obtain ⟨c8, h⟩ := chk_so h
    obtain ⟨V9, e9, h⟩ := lt_so h
    refine k_gi hR (hR.ob c8) rfl e9 (fun v9 z9 => ?_)
    exact k_retJ hR (t_itol z9) h
  obtain ⟨c10, h⟩ := chk_so h
  obtain ⟨V11, e11, h⟩ := lt_so h
  refine k_gi hR (hR.ob c10) rfl e11 (fun v11 z11 => ?_)
  exact k_retJ hR (t_itol z11) h
/-- PupilCoin$Reader.clear()V -/
def g30 (S : gM) : Option (gM) :=
  w_lt (wi S 16 11 0) fun S1 =>
  w_lt (wi S1 16 6 0) fun S2 =>
  w_lt (wi S2 16 7 0) fun S3 =>
  w_lt (wi S3 16 8 0) fun S4 =>
  w_lt (wi S4 16 16 (-1)) fun S5 =>
  (g200 22 (-1) S5).bind fun p6 =>
  w_lt (wi p6 22 3 0) fun S7 =>
  w_lt (wi S7 22 4 0) fun S8 =>
  some S8
theorem g30_ok {S : gM} {M : vm_M} {r : gM} (hR : Rel S M) (h : g30 S = some r) : Mp gRV (f30 16 M) r := by
  unfold g30 at h
  unfold f30
  obtain ⟨S1, e1, h⟩ := lt_so h
  refine k_pi hR (hR.obF (by decide) rfl) rfl tI_0 e1 (fun M1 R1 => ?_)
  obtain ⟨S2, e2, h⟩ := lt_so h
  refine k_pi R1 (R1.obF (by decide) rfl) rfl tI_0 e2 (fun M2 R2 => ?_)
  obtain ⟨S3, e3, h⟩ := lt_so h
  refine k_pi R2 (R2.obF (by decide) rfl) rfl tI_0 e3 (fun M3 R3 => ?_)
  obtain ⟨S4, e4, h⟩ := lt_so h
  refine k_pi R3 (R3.obF (by decide) rfl) rfl tI_0 e4 (fun M4 R4 => ?_)
  obtain ⟨S5, e5, h⟩ := lt_so h
  refine k_pi R4 (R4.obF (by decide) rfl) rfl tI_m1 e5 (fun M5 R5 => ?_)
  refine k_grF 25 R5 (R5.obF (by decide) rfl) rfl ?_
  refine k_some ?_
  obtain ⟨p6, e6, h⟩ := bind_so h
  refine k_call (g200_ok R5 tI_m1 e6) (fun M6 R6 => ?_)
  refine k_grF 25 R6 (R6.obF (by decide) rfl) rfl ?_
  refine k_some ?_
  obtain ⟨S7, e7, h⟩ := lt_so h
  refine k_si R6 (R6.lnF (by decide) rfl) rfl tI_3 (by decide) tI_0 e7 (fun M7 R7 => ?_)
  refine k_grF 25 R7 (R7.obF (by decide) rfl) rfl ?_
  refine k_some ?_
  obtain ⟨S8, e8, h⟩ := lt_so h
  refine k_si R7 (R7.lnF (by decide) rfl) rfl tI_4 (by decide) tI_0 e8 (fun M8 R8 => ?_)
  exact k_retV R8 h
/-- PupilCoin$Reader.fail()V -/
def g32 (S : gM) : Option (gM) :=
  w_lt (gi S 16 16) fun V1 =>
  if ¬ V1 = (-1) then
    w_lt (wi S 16 13 283) fun S3 =>
    some S3
  else
    w_lt (gi S 16 12) fun V4 =>
    w_lt (wi S 16 16 V4) fun S5 =>
    w_lt (wi S5 16 13 283) fun S6 =>
    some S6
theorem g32_ok {S : gM} {M : vm_M} {r : gM} (hR : Rel S M) (h : g32 S = some r) : Mp gRV (f32 16 M) r := by
  unfold g32 at h
  unfold f32
  obtain ⟨V1, e1, h⟩ := lt_so h
  refine k_gi hR (hR.obF (by decide) rfl) rfl e1 (fun v1 z1 => ?_)
  refine k_ite (c_ne z1 tI_m1) h (fun c2 h => ?_) (fun c2 h => ?_)
  · obtain ⟨S3, e3, h⟩ := lt_so h
    refine k_pi hR (hR.obF (by decide) rfl) rfl tI_283 e3 (fun M3 R3 => ?_)
    exact k_retV R3 h
  · obtain ⟨V4, e4, h⟩ := lt_so h
    refine k_gi hR (hR.obF (by decide) rfl) rfl e4 (fun v4 z4 => ?_)
    obtain ⟨S5, e5, h⟩ := lt_so h
    refine k_pi hR (hR.obF (by decide) rfl) rfl z4 e5 (fun M5 R5 => ?_)
    obtain ⟨S6, e6, h⟩ := lt_so h
    refine k_pi R5 (R5.obF (by decide) rfl) rfl tI_283 e6 (fun M6 R6 => ?_)
    exact k_retV R6 h
def g34_j88 (K104 : gM → Option (gM)) (K7 : Int → gM → Option (gM)) (X1 : Int) (S : gM) : Option (gM) :=
  w_lt (gi S 16 11) fun V17 =>
  w_ckI (V17 + 1) fun V18 =>
  w_lt (wi S 16 11 V18) fun S19 =>
  w_ckI (X1 + 1) fun V20 =>
  K7 V20 S19
theorem g34_j88_ok {k104 : vm_M → Option (vm_M)} {K104 : gM → Option (gM)} {k7 : Int32 → vm_M → Option (vm_M)} {K7 : Int → gM → Option (gM)} {x1 : Int32} {X1 : Int} {S : gM} {M : vm_M} {r : gM} (hk104 : ∀ (S : gM) (M : vm_M), Rel S M → K104 S = some r → Mp gRV (k104 M) r) (hk7 : ∀ (y1 : Int32) (Y1 : Int) (S : gM) (M : vm_M), Rel S M → y1.toInt = Y1 → K7 Y1 S = some r → Mp gRV (k7 y1 M) r) (hR : Rel S M) (t1 : x1.toInt = X1) (h : g34_j88 K104 K7 X1 S = some r) : Mp gRV (f34_j88 k104 k7 16 x1 M) r := by
  unfold g34_j88 at h
  unfold f34_j88
  obtain ⟨V17, e17, h⟩ := lt_so h
  refine k_gi hR (hR.obF (by decide) rfl) rfl e17 (fun v17 z17 => ?_)
  obtain ⟨V18, e18, c18, h⟩ := ckI_so h
  obtain ⟨S19, e19, h⟩ := lt_so h
  refine k_pi hR (hR.obF (by decide) rfl) rfl (t_add z17 tI_1 c18 e18) e19 (fun M19 R19 => ?_)
  obtain ⟨V20, e20, c20, h⟩ := ckI_so h
  exact hk7 _ _ _ _ R19 (t_add t1 tI_1 c20 e20) h
def g34_l7 (K104 : gM → Option (gM)) : Nat → Int → gM → Option (gM)
  | 0 => fun _ _ => none
  | n + 1 => fun X1 S =>
    if 700 ≤ X1 then
      K104 S
    else
      w_lt (gi S 16 11) fun V3 =>
      w_lt (gi S 16 10) fun V4 =>
      if V4 ≤ V3 then
        K104 S
      else
        w_chk (gr S 16 9 = some 54) <|
        w_lt (gi S 16 11) fun V7 =>
        w_chk ((0 : Int) ≤ V7 ∧ V7 < 700) <|
        w_lt (gi S 54 V7) fun V9 =>
        if V9 < 97 then
          K104 S
        else
          w_chk (gr S 16 9 = some 54) <|
          w_lt (gi S 16 11) fun V12 =>
          w_chk ((0 : Int) ≤ V12 ∧ V12 < 700) <|
          w_lt (gi S 54 V12) fun V14 =>
          if 122 < V14 then
            K104 S
          else
            if 8 ≤ X1 then
              g34_j88 K104 (g34_l7 K104 n) X1 S
            else
              w_lt (gl S 16 15) fun V21 =>
              w_ckJ (V21 * 32) fun V22 =>
              w_chk (gr S 16 9 = some 54) <|
              w_lt (gi S 16 11) fun V24 =>
              w_chk ((0 : Int) ≤ V24 ∧ V24 < 700) <|
              w_lt (gi S 54 V24) fun V26 =>
              w_ckJ (V22 + V26) fun V27 =>
              w_ckJ (V27 - 97) fun V28 =>
              w_ckJ (V28 + 1) fun V29 =>
              w_lt (wl S 16 15 V29) fun S30 =>
              g34_j88 K104 (g34_l7 K104 n) X1 S30
theorem g34_l7_ok {k104 : vm_M → Option (vm_M)} {K104 : gM → Option (gM)} {r : gM} (hk104 : ∀ (S : gM) (M : vm_M), Rel S M → K104 S = some r → Mp gRV (k104 M) r) : ∀ (n : Nat) (x1 : Int32) (X1 : Int) (S : gM) (M : vm_M), Rel S M → x1.toInt = X1 → g34_l7 K104 n X1 S = some r → Mp gRV (f34_l7 16 k104 n x1 M) r := by
  intro n
  induction n with
  | zero =>
    intro x1 X1 S M hR t1 h
    cases h
  | succ n ih =>
    intro x1 X1 S M hR t1 h
    dsimp only [g34_l7] at h
    dsimp only [f34_l7]
    refine k_ite (c_le tI_700 t1) h (fun c2 h => ?_) (fun c2 h => ?_)
    · exact hk104 _ _ hR h
    · obtain ⟨V3, e3, h⟩ := lt_so h
      refine k_gi hR (hR.obF (by decide) rfl) rfl e3 (fun v3 z3 => ?_)
      obtain ⟨V4, e4, h⟩ := lt_so h
      refine k_gi hR (hR.obF (by decide) rfl) rfl e4 (fun v4 z4 => ?_)
      refine k_ite (c_le z4 z3) h (fun c5 h => ?_) (fun c5 h => ?_)
      · exact hk104 _ _ hR h
      · obtain ⟨c6, h⟩ := chk_so h
        refine k_gr hR (hR.obF (by decide) rfl) c6.symm ?_
        obtain ⟨V7, e7, h⟩ := lt_so h
        refine k_gi hR (hR.obF (by decide) rfl) rfl e7 (fun v7 z7 => ?_)
        refine k_some ?_
        obtain ⟨c8, h⟩ := chk_so h
        obtain ⟨V9, e9, h⟩ := lt_so h
        refine k_ai hR (hR.lnF (by decide) rfl) rfl z7 c8 e9 (fun v9 z9 => ?_)
        refine k_ite (c_lt z9 tI_97) h (fun c10 h => ?_) (fun c10 h => ?_)
        · exact hk104 _ _ hR h
        · obtain ⟨c11, h⟩ := chk_so h
          refine k_gr hR (hR.obF (by decide) rfl) c11.symm ?_
          obtain ⟨V12, e12, h⟩ := lt_so h
          refine k_gi hR (hR.obF (by decide) rfl) rfl e12 (fun v12 z12 => ?_)
          refine k_some ?_
          obtain ⟨c13, h⟩ := chk_so h
          obtain ⟨V14, e14, h⟩ := lt_so h
          refine k_ai hR (hR.lnF (by decide) rfl) rfl z12 c13 e14 (fun v14 z14 => ?_)
          refine k_ite (c_lt tI_122 z14) h (fun c15 h => ?_) (fun c15 h => ?_)
          · exact hk104 _ _ hR h
          · refine k_ite (c_le tI_8 t1) h (fun c16 h => ?_) (fun c16 h => ?_)
            · exact g34_j88_ok hk104 ih hR t1 h
            · obtain ⟨V21, e21, h⟩ := lt_so h
              refine k_gl hR (hR.obF (by decide) rfl) rfl e21 (fun v21 z21 => ?_)
              obtain ⟨V22, e22, c22, h⟩ := ckJ_so h
              obtain ⟨c23, h⟩ := chk_so h
              refine k_gr hR (hR.obF (by decide) rfl) c23.symm ?_
              obtain ⟨V24, e24, h⟩ := lt_so h
              refine k_gi hR (hR.obF (by decide) rfl) rfl e24 (fun v24 z24 => ?_)
              refine k_some ?_
              obtain ⟨c25, h⟩ := chk_so h
              obtain ⟨V26, e26, h⟩ := lt_so h
              refine k_ai hR (hR.lnF (by decide) rfl) rfl z24 c25 e26 (fun v26 z26 => ?_)
              obtain ⟨V27, e27, c27, h⟩ := ckJ_so h
              obtain ⟨V28, e28, c28, h⟩ := ckJ_so h
              obtain ⟨V29, e29, c29, h⟩ := ckJ_so h
              obtain ⟨S30, e30, h⟩ := lt_so h
              refine k_pl hR (hR.obF (by decide) rfl) rfl (tJ_add (tJ_sub (tJ_add (tJ_mul z21 tJ_32 c22 e22) (t_itol z26) c27 e27) tJ_97 c28 e28) tJ_1 c29 e29) e30 (fun M30 R30 => ?_)
              exact g34_j88_ok hk104 ih R30 t1 h
def g34_l133 : Nat → Int → gM → Option (gM)
  | 0 => fun _ _ => none
  | n + 1 => fun X1 S =>
    if 23 ≤ X1 then
      some S
    else
      w_lt (gi S 16 13) fun V39 =>
      if ¬ V39 = 280 then
        some S
      else
        w_chk ((0 : Int) ≤ X1 ∧ X1 < 23) <|
        w_lt (gl S 17 X1) fun V42 =>
        w_lt (gl S 16 15) fun V43 =>
        if ¬ V42 = V43 then
          w_ckI (X1 + 1) fun V45 =>
          g34_l133 n V45 S
        else
          w_ckI (256 + X1) fun V46 =>
          w_lt (wi S 16 13 V46) fun S47 =>
          w_ckI (X1 + 1) fun V48 =>
          g34_l133 n V48 S47
theorem g34_l133_ok {r : gM} : ∀ (n : Nat) (x1 : Int32) (X1 : Int) (S : gM) (M : vm_M), Rel S M → x1.toInt = X1 → g34_l133 n X1 S = some r → Mp gRV (f34_l133 16 n x1 M) r := by
  intro n
  induction n with
  | zero =>
    intro x1 X1 S M hR t1 h
    cases h
  | succ n ih =>
    intro x1 X1 S M hR t1 h
    dsimp only [g34_l133] at h
    dsimp only [f34_l133]
    refine k_grF 20 hR (hR.obF (by decide) rfl) rfl ?_
    refine k_some ?_
    refine k_len (hR.lnF (by decide) rfl) rfl (by decide) (fun v37 z37 => ?_)
    refine k_ite (c_le z37 t1) h (fun c38 h => ?_) (fun c38 h => ?_)
    · exact k_retV hR h
    · obtain ⟨V39, e39, h⟩ := lt_so h
      refine k_gi hR (hR.obF (by decide) rfl) rfl e39 (fun v39 z39 => ?_)
      refine k_ite (c_ne z39 tI_280) h (fun c40 h => ?_) (fun c40 h => ?_)
      · exact k_retV hR h
      · refine k_grF 20 hR (hR.obF (by decide) rfl) rfl ?_
        refine k_some ?_
        obtain ⟨c41, h⟩ := chk_so h
        obtain ⟨V42, e42, h⟩ := lt_so h
        refine k_al hR (hR.lnF (by decide) rfl) rfl t1 c41 e42 (fun v42 z42 => ?_)
        obtain ⟨V43, e43, h⟩ := lt_so h
        refine k_gl hR (hR.obF (by decide) rfl) rfl e43 (fun v43 z43 => ?_)
        refine k_ite (cJ_ne z42 z43) h (fun c44 h => ?_) (fun c44 h => ?_)
        · obtain ⟨V45, e45, c45, h⟩ := ckI_so h
          exact ih _ _ _ _ hR (t_add t1 tI_1 c45 e45) h
        · obtain ⟨V46, e46, c46, h⟩ := ckI_so h
          obtain ⟨S47, e47, h⟩ := lt_so h
          refine k_pi hR (hR.obF (by decide) rfl) rfl (t_add tI_256 t1 c46 e46) e47 (fun M47 R47 => ?_)
          obtain ⟨V48, e48, c48, h⟩ := ckI_so h
          exact ih _ _ _ _ R47 (t_add t1 tI_1 c48 e48) h
def g34_j104 (S : gM) : Option (gM) :=
  w_lt (gi S 16 11) fun V32 =>
  w_lt (gi S 16 12) fun V33 =>
  w_ckI (V32 - V33) fun V34 =>
  if V34 ≤ 8 then
    w_lt (wi S 16 13 280) fun S36 =>
    g34_l133
    
      100000 0 S36
  else
    w_lt (wi S 16 13 283) fun S49 =>
    g34_l133
    
      100000 0 S49
theorem g34_j104_ok {S : gM} {M : vm_M} {r : gM} (hR : Rel S M) (h : g34_j104 S = some r) : Mp gRV (f34_j104 16 M) r := by
  unfold g34_j104 at h
  unfold f34_j104
  obtain ⟨V32, e32, h⟩ := lt_so h
  refine k_gi hR (hR.obF (by decide) rfl) rfl e32 (fun v32 z32 => ?_)
  obtain ⟨V33, e33, h⟩ := lt_so h
  refine k_gi hR (hR.obF (by decide) rfl) rfl e33 (fun v33 z33 => ?_)
  obtain ⟨V34, e34, c34, h⟩ := ckI_so h
  refine k_ite (c_le (t_sub z32 z33 c34 e34) tI_8) h (fun c35 h => ?_) (fun c35 h => ?_)
  · obtain ⟨S36, e36, h⟩ := lt_so h
    refine k_pi hR (hR.obF (by decide) rfl) rfl tI_280 e36 (fun M36 R36 => ?_)
    refine g34_l133_ok 100000 _ _ _ _ R36 tI_0 h
  · obtain ⟨S49, e49, h⟩ := lt_so h
    refine k_pi hR (hR.obF (by decide) rfl) rfl tI_283 e49 (fun M49 R49 => ?_)
    refine g34_l133_ok 100000 _ _ _ _ R49 tI_0 h
/-- PupilCoin$Reader.nextWord()V -/
def g34 (S : gM) : Option (gM) :=
  w_lt (wl S 16 15 0) fun S1 =>
  g34_l7
    (fun S31 =>
      g34_j104 S31)
    100000 0 S1
theorem g34_ok {S : gM} {M : vm_M} {r : gM} (hR : Rel S M) (h : g34 S = some r) : Mp gRV (f34 16 M) r := by
  unfold g34 at h
  unfold f34
  obtain ⟨S1, e1, h⟩ := lt_so h
  refine k_pl hR (hR.obF (by decide) rfl) rfl tJ_0 e1 (fun M1 R1 => ?_)
  refine g34_l7_ok ?_ 100000 _ _ _ _ R1 tI_0 h
  · intro S31 M31 R31
    intro h
    exact g34_j104_ok R31 h
def g35_j83 (K99 : gM → Option (gM)) (K7 : Int → gM → Option (gM)) (X1 : Int) (S : gM) : Option (gM) :=
  w_lt (gi S 16 11) fun V17 =>
  w_ckI (V17 + 1) fun V18 =>
  w_lt (wi S 16 11 V18) fun S19 =>
  w_ckI (X1 + 1) fun V20 =>
  K7 V20 S19
theorem g35_j83_ok {k99 : vm_M → Option (vm_M)} {K99 : gM → Option (gM)} {k7 : Int32 → vm_M → Option (vm_M)} {K7 : Int → gM → Option (gM)} {x1 : Int32} {X1 : Int} {S : gM} {M : vm_M} {r : gM} (hk99 : ∀ (S : gM) (M : vm_M), Rel S M → K99 S = some r → Mp gRV (k99 M) r) (hk7 : ∀ (y1 : Int32) (Y1 : Int) (S : gM) (M : vm_M), Rel S M → y1.toInt = Y1 → K7 Y1 S = some r → Mp gRV (k7 y1 M) r) (hR : Rel S M) (t1 : x1.toInt = X1) (h : g35_j83 K99 K7 X1 S = some r) : Mp gRV (f35_j83 k99 k7 16 x1 M) r := by
  unfold g35_j83 at h
  unfold f35_j83
  obtain ⟨V17, e17, h⟩ := lt_so h
  refine k_gi hR (hR.obF (by decide) rfl) rfl e17 (fun v17 z17 => ?_)
  obtain ⟨V18, e18, c18, h⟩ := ckI_so h
  obtain ⟨S19, e19, h⟩ := lt_so h
  refine k_pi hR (hR.obF (by decide) rfl) rfl (t_add z17 tI_1 c18 e18) e19 (fun M19 R19 => ?_)
  obtain ⟨V20, e20, c20, h⟩ := ckI_so h
  exact hk7 _ _ _ _ R19 (t_add t1 tI_1 c20 e20) h
def g35_l7 (K99 : gM → Option (gM)) : Nat → Int → gM → Option (gM)
  | 0 => fun _ _ => none
  | n + 1 => fun X1 S =>
    if 700 ≤ X1 then
      K99 S
    else
      w_lt (gi S 16 11) fun V3 =>
      w_lt (gi S 16 10) fun V4 =>
      if V4 ≤ V3 then
        K99 S
      else
        w_chk (gr S 16 9 = some 54) <|
        w_lt (gi S 16 11) fun V7 =>
        w_chk ((0 : Int) ≤ V7 ∧ V7 < 700) <|
        w_lt (gi S 54 V7) fun V9 =>
        if V9 < 48 then
          K99 S
        else
          w_chk (gr S 16 9 = some 54) <|
          w_lt (gi S 16 11) fun V12 =>
          w_chk ((0 : Int) ≤ V12 ∧ V12 < 700) <|
          w_lt (gi S 54 V12) fun V14 =>
          if 57 < V14 then
            K99 S
          else
            if 7 ≤ X1 then
              g35_j83 K99 (g35_l7 K99 n) X1 S
            else
              w_lt (gi S 16 14) fun V21 =>
              w_ckI (V21 * 10) fun V22 =>
              w_chk (gr S 16 9 = some 54) <|
              w_lt (gi S 16 11) fun V24 =>
              w_chk ((0 : Int) ≤ V24 ∧ V24 < 700) <|
              w_lt (gi S 54 V24) fun V26 =>
              w_ckI (V22 + V26) fun V27 =>
              w_ckI (V27 - 48) fun V28 =>
              w_lt (wi S 16 14 V28) fun S29 =>
              g35_j83 K99 (g35_l7 K99 n) X1 S29
theorem g35_l7_ok {k99 : vm_M → Option (vm_M)} {K99 : gM → Option (gM)} {r : gM} (hk99 : ∀ (S : gM) (M : vm_M), Rel S M → K99 S = some r → Mp gRV (k99 M) r) : ∀ (n : Nat) (x1 : Int32) (X1 : Int) (S : gM) (M : vm_M), Rel S M → x1.toInt = X1 → g35_l7 K99 n X1 S = some r → Mp gRV (f35_l7 16 k99 n x1 M) r := by
  intro n
  induction n with
  | zero =>
    intro x1 X1 S M hR t1 h
    cases h
  | succ n ih =>
    intro x1 X1 S M hR t1 h
    dsimp only [g35_l7] at h
    dsimp only [f35_l7]
    refine k_ite (c_le tI_700 t1) h (fun c2 h => ?_) (fun c2 h => ?_)
    · exact hk99 _ _ hR h
    · obtain ⟨V3, e3, h⟩ := lt_so h
      refine k_gi hR (hR.obF (by decide) rfl) rfl e3 (fun v3 z3 => ?_)
      obtain ⟨V4, e4, h⟩ := lt_so h
      refine k_gi hR (hR.obF (by decide) rfl) rfl e4 (fun v4 z4 => ?_)
      refine k_ite (c_le z4 z3) h (fun c5 h => ?_) (fun c5 h => ?_)
      · exact hk99 _ _ hR h
      · obtain ⟨c6, h⟩ := chk_so h
        refine k_gr hR (hR.obF (by decide) rfl) c6.symm ?_
        obtain ⟨V7, e7, h⟩ := lt_so h
        refine k_gi hR (hR.obF (by decide) rfl) rfl e7 (fun v7 z7 => ?_)
        refine k_some ?_
        obtain ⟨c8, h⟩ := chk_so h
        obtain ⟨V9, e9, h⟩ := lt_so h
        refine k_ai hR (hR.lnF (by decide) rfl) rfl z7 c8 e9 (fun v9 z9 => ?_)
        refine k_ite (c_lt z9 tI_48) h (fun c10 h => ?_) (fun c10 h => ?_)
        · exact hk99 _ _ hR h
        · obtain ⟨c11, h⟩ := chk_so h
          refine k_gr hR (hR.obF (by decide) rfl) c11.symm ?_
          obtain ⟨V12, e12, h⟩ := lt_so h
          refine k_gi hR (hR.obF (by decide) rfl) rfl e12 (fun v12 z12 => ?_)
          refine k_some ?_
          obtain ⟨c13, h⟩ := chk_so h
          obtain ⟨V14, e14, h⟩ := lt_so h
          refine k_ai hR (hR.lnF (by decide) rfl) rfl z12 c13 e14 (fun v14 z14 => ?_)
          refine k_ite (c_lt tI_57 z14) h (fun c15 h => ?_) (fun c15 h => ?_)
          · exact hk99 _ _ hR h
          · refine k_ite (c_le tI_7 t1) h (fun c16 h => ?_) (fun c16 h => ?_)
            · exact g35_j83_ok hk99 ih hR t1 h
            · obtain ⟨V21, e21, h⟩ := lt_so h
              refine k_gi hR (hR.obF (by decide) rfl) rfl e21 (fun v21 z21 => ?_)
              obtain ⟨V22, e22, c22, h⟩ := ckI_so h
              obtain ⟨c23, h⟩ := chk_so h
              refine k_gr hR (hR.obF (by decide) rfl) c23.symm ?_
              obtain ⟨V24, e24, h⟩ := lt_so h
              refine k_gi hR (hR.obF (by decide) rfl) rfl e24 (fun v24 z24 => ?_)
              refine k_some ?_
              obtain ⟨c25, h⟩ := chk_so h
              obtain ⟨V26, e26, h⟩ := lt_so h
              refine k_ai hR (hR.lnF (by decide) rfl) rfl z24 c25 e26 (fun v26 z26 => ?_)
              obtain ⟨V27, e27, c27, h⟩ := ckI_so h
              obtain ⟨V28, e28, c28, h⟩ := ckI_so h
              obtain ⟨S29, e29, h⟩ := lt_so h
              refine k_pi hR (hR.obF (by decide) rfl) rfl (t_sub (t_add (t_mul z21 tI_10 c22 e22) z26 c27 e27) tI_48 c28 e28) e29 (fun M29 R29 => ?_)
              exact g35_j83_ok hk99 ih R29 t1 h
def g35_j99 (S : gM) : Option (gM) :=
  w_lt (gi S 16 11) fun V31 =>
  w_lt (gi S 16 12) fun V32 =>
  w_ckI (V31 - V32) fun V33 =>
  if V33 ≤ 7 then
    w_lt (wi S 16 13 281) fun S35 =>
    some S35
  else
    w_lt (wi S 16 13 283) fun S36 =>
    some S36
theorem g35_j99_ok {S : gM} {M : vm_M} {r : gM} (hR : Rel S M) (h : g35_j99 S = some r) : Mp gRV (f35_j99 16 M) r := by
  unfold g35_j99 at h
  unfold f35_j99
  obtain ⟨V31, e31, h⟩ := lt_so h
  refine k_gi hR (hR.obF (by decide) rfl) rfl e31 (fun v31 z31 => ?_)
  obtain ⟨V32, e32, h⟩ := lt_so h
  refine k_gi hR (hR.obF (by decide) rfl) rfl e32 (fun v32 z32 => ?_)
  obtain ⟨V33, e33, c33, h⟩ := ckI_so h
  refine k_ite (c_le (t_sub z31 z32 c33 e33) tI_7) h (fun c34 h => ?_) (fun c34 h => ?_)
  · obtain ⟨S35, e35, h⟩ := lt_so h
    refine k_pi hR (hR.obF (by decide) rfl) rfl tI_281 e35 (fun M35 R35 => ?_)
    exact k_retV R35 h
  · obtain ⟨S36, e36, h⟩ := lt_so h
    refine k_pi hR (hR.obF (by decide) rfl) rfl tI_283 e36 (fun M36 R36 => ?_)
    exact k_retV R36 h
/-- PupilCoin$Reader.nextNumber()V -/
def g35 (S : gM) : Option (gM) :=
  w_lt (wi S 16 14 0) fun S1 =>
  g35_l7
    (fun S30 =>
      g35_j99 S30)
    100000 0 S1
theorem g35_ok {S : gM} {M : vm_M} {r : gM} (hR : Rel S M) (h : g35 S = some r) : Mp gRV (f35 16 M) r := by
  unfold g35 at h
  unfold f35
  obtain ⟨S1, e1, h⟩ := lt_so h
  refine k_pi hR (hR.obF (by decide) rfl) rfl tI_0 e1 (fun M1 R1 => ?_)
  refine g35_l7_ok ?_ 100000 _ _ _ _ R1 tI_0 h
  · intro S30 M30 R30
    intro h
    exact g35_j99_ok R30 h
/-- PupilCoin$Reader.isSign(I)Z -/
def g36 (X0 : Int) (S : gM) : Option (Int × gM) :=
  if X0 = 40 then
    some (1, S)
  else if X0 = 41 then
    some (1, S)
  else if X0 = 42 then
    some (1, S)
  else if X0 = 43 then
    some (1, S)
  else if X0 = 44 then
    some (1, S)
  else if X0 = 45 then
    some (1, S)
  else if X0 = 47 then
    some (1, S)
  else if X0 = 59 then
    some (1, S)
  else if X0 = 60 then
    some (1, S)
  else if X0 = 61 then
    some (1, S)
  else if X0 = 62 then
    some (1, S)
  else if X0 = 123 then
    some (1, S)
  else if X0 = 125 then
    some (1, S)
  else 
    some (0, S)
theorem g36_ok {x0 : Int32} {X0 : Int} {S : gM} {M : vm_M} {r : Int × gM} (hR : Rel S M) (t0 : x0.toInt = X0) (h : g36 X0 S = some r) : Mp gRI (f36 x0 M) r := by
  unfold g36 at h
  unfold f36
  refine k_ite (c_eq t0 tI_40) h (fun c1 h => ?_) (fun c1 h => ?_)
  · exact k_retZ hR tI_1 (by decide) h
  refine k_ite (c_eq t0 tI_41) h (fun c2 h => ?_) (fun c2 h => ?_)
  · exact k_retZ hR tI_1 (by decide) h
  refine k_ite (c_eq t0 tI_42) h (fun c3 h => ?_) (fun c3 h => ?_)
  · exact k_retZ hR tI_1 (by decide) h
  refine k_ite (c_eq t0 tI_43) h (fun c4 h => ?_) (fun c4 h => ?_)
  · exact k_retZ hR tI_1 (by decide) h
  refine k_ite (c_eq t0 tI_44) h (fun c5 h => ?_) (fun c5 h => ?_)
  · exact k_retZ hR tI_1 (by decide) h
  refine k_ite (c_eq t0 tI_45) h (fun c6 h => ?_) (fun c6 h => ?_)
  · exact k_retZ hR tI_1 (by decide) h
  refine k_ite (c_eq t0 tI_47) h (fun c7 h => ?_) (fun c7 h => ?_)
  · exact k_retZ hR tI_1 (by decide) h
  refine k_ite (c_eq t0 tI_59) h (fun c8 h => ?_) (fun c8 h => ?_)
  · exact k_retZ hR tI_1 (by decide) h
  refine k_ite (c_eq t0 tI_60) h (fun c9 h => ?_) (fun c9 h => ?_)
  · exact k_retZ hR tI_1 (by decide) h
  refine k_ite (c_eq t0 tI_61) h (fun c10 h => ?_) (fun c10 h => ?_)
  · exact k_retZ hR tI_1 (by decide) h
  refine k_ite (c_eq t0 tI_62) h (fun c11 h => ?_) (fun c11 h => ?_)
  · exact k_retZ hR tI_1 (by decide) h
  refine k_ite (c_eq t0 tI_123) h (fun c12 h => ?_) (fun c12 h => ?_)
  · exact k_retZ hR tI_1 (by decide) h
  refine k_ite (c_eq t0 tI_125) h (fun c13 h => ?_) (fun c13 h => ?_)
  · exact k_retZ hR tI_1 (by decide) h
  exact k_retZ hR tI_0 (by decide) h
def g33_j67 (K83 : gM → Option (gM)) (K21 : Int → gM → Option (gM)) (X1 : Int) (S : gM) : Option (gM) :=
  w_lt (gi S 16 11) fun V12 =>
  w_ckI (V12 + 1) fun V13 =>
  w_lt (wi S 16 11 V13) fun S14 =>
  w_ckI (X1 + 1) fun V15 =>
  K21 V15 S14
theorem g33_j67_ok {k83 : vm_M → Option (vm_M)} {K83 : gM → Option (gM)} {k21 : Int32 → vm_M → Option (vm_M)} {K21 : Int → gM → Option (gM)} {x1 : Int32} {X1 : Int} {S : gM} {M : vm_M} {r : gM} (hk83 : ∀ (S : gM) (M : vm_M), Rel S M → K83 S = some r → Mp gRV (k83 M) r) (hk21 : ∀ (y1 : Int32) (Y1 : Int) (S : gM) (M : vm_M), Rel S M → y1.toInt = Y1 → K21 Y1 S = some r → Mp gRV (k21 y1 M) r) (hR : Rel S M) (t1 : x1.toInt = X1) (h : g33_j67 K83 K21 X1 S = some r) : Mp gRV (f33_j67 k83 k21 16 x1 M) r := by
  unfold g33_j67 at h
  unfold f33_j67
  obtain ⟨V12, e12, h⟩ := lt_so h
  refine k_gi hR (hR.obF (by decide) rfl) rfl e12 (fun v12 z12 => ?_)
  obtain ⟨V13, e13, c13, h⟩ := ckI_so h
  obtain ⟨S14, e14, h⟩ := lt_so h
  refine k_pi hR (hR.obF (by decide) rfl) rfl (t_add z12 tI_1 c13 e13) e14 (fun M14 R14 => ?_)
  obtain ⟨V15, e15, c15, h⟩ := ckI_so h
  exact hk21 _ _ _ _ R14 (t_add t1 tI_1 c15 e15) h
def g33_l21 (K83 : gM → Option (gM)) : Nat → Int → gM → Option (gM)
  | 0 => fun _ _ => none
  | n + 1 => fun X1 S =>
    if 700 ≤ X1 then
      K83 S
    else
      w_lt (gi S 16 11) fun V4 =>
      w_lt (gi S 16 10) fun V5 =>
      if V5 ≤ V4 then
        K83 S
      else
        w_chk (gr S 16 9 = some 54) <|
        w_lt (gi S 16 11) fun V8 =>
        w_chk ((0 : Int) ≤ V8 ∧ V8 < 700) <|
        w_lt (gi S 54 V8) fun V10 =>
        if V10 = 32 then
          g33_j67 K83 (g33_l21 K83 n) X1 S
        else
          w_chk (gr S 16 9 = some 54) <|
          w_lt (gi S 16 11) fun V17 =>
          w_chk ((0 : Int) ≤ V17 ∧ V17 < 700) <|
          w_lt (gi S 54 V17) fun V19 =>
          if ¬ V19 = 10 then
            K83 S
          else
            g33_j67 K83 (g33_l21 K83 n) X1 S
theorem g33_l21_ok {k83 : vm_M → Option (vm_M)} {K83 : gM → Option (gM)} {r : gM} (hk83 : ∀ (S : gM) (M : vm_M), Rel S M → K83 S = some r → Mp gRV (k83 M) r) : ∀ (n : Nat) (x1 : Int32) (X1 : Int) (S : gM) (M : vm_M), Rel S M → x1.toInt = X1 → g33_l21 K83 n X1 S = some r → Mp gRV (f33_l21 16 k83 n x1 M) r := by
  intro n
  induction n with
  | zero =>
    intro x1 X1 S M hR t1 h
    cases h
  | succ n ih =>
    intro x1 X1 S M hR t1 h
    dsimp only [g33_l21] at h
    dsimp only [f33_l21]
    refine k_ite (c_le tI_700 t1) h (fun c3 h => ?_) (fun c3 h => ?_)
    · exact hk83 _ _ hR h
    · obtain ⟨V4, e4, h⟩ := lt_so h
      refine k_gi hR (hR.obF (by decide) rfl) rfl e4 (fun v4 z4 => ?_)
      obtain ⟨V5, e5, h⟩ := lt_so h
      refine k_gi hR (hR.obF (by decide) rfl) rfl e5 (fun v5 z5 => ?_)
      refine k_ite (c_le z5 z4) h (fun c6 h => ?_) (fun c6 h => ?_)
      · exact hk83 _ _ hR h
      · obtain ⟨c7, h⟩ := chk_so h
        refine k_gr hR (hR.obF (by decide) rfl) c7.symm ?_
        obtain ⟨V8, e8, h⟩ := lt_so h
        refine k_gi hR (hR.obF (by decide) rfl) rfl e8 (fun v8 z8 => ?_)
        refine k_some ?_
        obtain ⟨c9, h⟩ := chk_so h
        obtain ⟨V10, e10, h⟩ := lt_so h
        refine k_ai hR (hR.lnF (by decide) rfl) rfl z8 c9 e10 (fun v10 z10 => ?_)
        refine k_ite (c_eq z10 tI_32) h (fun c11 h => ?_) (fun c11 h => ?_)
        · exact g33_j67_ok hk83 ih hR t1 h
        · obtain ⟨c16, h⟩ := chk_so h
          refine k_gr hR (hR.obF (by decide) rfl) c16.symm ?_
          obtain ⟨V17, e17, h⟩ := lt_so h
          refine k_gi hR (hR.obF (by decide) rfl) rfl e17 (fun v17 z17 => ?_)
          refine k_some ?_
          obtain ⟨c18, h⟩ := chk_so h
          obtain ⟨V19, e19, h⟩ := lt_so h
          refine k_ai hR (hR.lnF (by decide) rfl) rfl z17 c18 e19 (fun v19 z19 => ?_)
          refine k_ite (c_ne z19 tI_10) h (fun c20 h => ?_) (fun c20 h => ?_)
          · exact hk83 _ _ hR h
          · exact g33_j67_ok hk83 ih hR t1 h
def g33_j158 (X1 : Int) (S : gM) : Option (gM) :=
  w_lt (gi S 16 11) fun V33 =>
  w_ckI (V33 + 1) fun V34 =>
  w_lt (wi S 16 11 V34) fun S35 =>
  (g36 X1 S35).bind fun p36 =>
  if p36.1 = 0 then
    w_lt (wi p36.2 16 13 283) fun S38 =>
    some S38
  else
    w_lt (wi p36.2 16 13 X1) fun S39 =>
    some S39
theorem g33_j158_ok {x1 : Int32} {X1 : Int} {S : gM} {M : vm_M} {r : gM} (hR : Rel S M) (t1 : x1.toInt = X1) (h : g33_j158 X1 S = some r) : Mp gRV (f33_j158 16 x1 M) r := by
  unfold g33_j158 at h
  unfold f33_j158
  obtain ⟨V33, e33, h⟩ := lt_so h
  refine k_gi hR (hR.obF (by decide) rfl) rfl e33 (fun v33 z33 => ?_)
  obtain ⟨V34, e34, c34, h⟩ := ckI_so h
  obtain ⟨S35, e35, h⟩ := lt_so h
  refine k_pi hR (hR.obF (by decide) rfl) rfl (t_add z33 tI_1 c34 e34) e35 (fun M35 R35 => ?_)
  obtain ⟨p36, e36, h⟩ := bind_so h
  refine k_call (g36_ok R35 t1 e36) (fun b36 R36 => ?_)
  refine k_ite (c_eq R36.1 tI_0) h (fun c37 h => ?_) (fun c37 h => ?_)
  · obtain ⟨S38, e38, h⟩ := lt_so h
    refine k_pi R36.2 (R36.2.obF (by decide) rfl) rfl tI_283 e38 (fun M38 R38 => ?_)
    exact k_retV R38 h
  · obtain ⟨S39, e39, h⟩ := lt_so h
    refine k_pi R36.2 (R36.2.obF (by decide) rfl) rfl t1 e39 (fun M39 R39 => ?_)
    exact k_retV R39 h
def g33_j139 (X1 : Int) (S : gM) : Option (gM) :=
  if X1 < 48 then
    g33_j158 X1 S
  else
    if 57 < X1 then
      g33_j158 X1 S
    else
      (g35 S).bind fun p41 =>
      some p41
theorem g33_j139_ok {x1 : Int32} {X1 : Int} {S : gM} {M : vm_M} {r : gM} (hR : Rel S M) (t1 : x1.toInt = X1) (h : g33_j139 X1 S = some r) : Mp gRV (f33_j139 16 x1 M) r := by
  unfold g33_j139 at h
  unfold f33_j139
  refine k_ite (c_lt t1 tI_48) h (fun c32 h => ?_) (fun c32 h => ?_)
  · exact g33_j158_ok hR t1 h
  · refine k_ite (c_lt tI_57 t1) h (fun c40 h => ?_) (fun c40 h => ?_)
    · exact g33_j158_ok hR t1 h
    · refine k_ob (hR.obF (by decide) rfl) ?_
      obtain ⟨p41, e41, h⟩ := bind_so h
      refine k_call (g35_ok hR e41) (fun M41 R41 => ?_)
      exact k_retV R41 h
def g33_j83 (S : gM) : Option (gM) :=
  w_lt (gi S 16 11) fun V22 =>
  w_lt (wi S 16 12 V22) fun S23 =>
  w_lt (gi S23 16 11) fun V24 =>
  w_lt (gi S23 16 10) fun V25 =>
  if V24 < V25 then
    w_chk (gr S23 16 9 = some 54) <|
    w_lt (gi S23 16 11) fun V28 =>
    w_chk ((0 : Int) ≤ V28 ∧ V28 < 700) <|
    w_lt (gi S23 54 V28) fun V30 =>
    if V30 < 97 then
      g33_j139 V30 S23
    else
      if 122 < V30 then
        g33_j139 V30 S23
      else
        (g34 S23).bind fun p43 =>
        some p43
  else
    w_lt (wi S23 16 13 282) fun S44 =>
    some S44
theorem g33_j83_ok {S : gM} {M : vm_M} {r : gM} (hR : Rel S M) (h : g33_j83 S = some r) : Mp gRV (f33_j83 16 M) r := by
  unfold g33_j83 at h
  unfold f33_j83
  obtain ⟨V22, e22, h⟩ := lt_so h
  refine k_gi hR (hR.obF (by decide) rfl) rfl e22 (fun v22 z22 => ?_)
  obtain ⟨S23, e23, h⟩ := lt_so h
  refine k_pi hR (hR.obF (by decide) rfl) rfl z22 e23 (fun M23 R23 => ?_)
  obtain ⟨V24, e24, h⟩ := lt_so h
  refine k_gi R23 (R23.obF (by decide) rfl) rfl e24 (fun v24 z24 => ?_)
  obtain ⟨V25, e25, h⟩ := lt_so h
  refine k_gi R23 (R23.obF (by decide) rfl) rfl e25 (fun v25 z25 => ?_)
  refine k_ite (c_lt z24 z25) h (fun c26 h => ?_) (fun c26 h => ?_)
  · obtain ⟨c27, h⟩ := chk_so h
    refine k_gr R23 (R23.obF (by decide) rfl) c27.symm ?_
    obtain ⟨V28, e28, h⟩ := lt_so h
    refine k_gi R23 (R23.obF (by decide) rfl) rfl e28 (fun v28 z28 => ?_)
    refine k_some ?_
    obtain ⟨c29, h⟩ := chk_so h
    obtain ⟨V30, e30, h⟩ := lt_so h
    refine k_ai R23 (R23.lnF (by decide) rfl) rfl z28 c29 e30 (fun v30 z30 => ?_)
    refine k_ite (c_lt z30 tI_97) h (fun c31 h => ?_) (fun c31 h => ?_)
    · exact g33_j139_ok R23 z30 h
    · refine k_ite (c_lt tI_122 z30) h (fun c42 h => ?_) (fun c42 h => ?_)
      · exact g33_j139_ok R23 z30 h
      · refine k_ob (R23.obF (by decide) rfl) ?_
        obtain ⟨p43, e43, h⟩ := bind_so h
        refine k_call (g34_ok R23 e43) (fun M43 R43 => ?_)
        exact k_retV R43 h
  · obtain ⟨S44, e44, h⟩ := lt_so h
    refine k_pi R23 (R23.obF (by decide) rfl) rfl tI_282 e44 (fun M44 R44 => ?_)
    exact k_retV R44 h
/-- PupilCoin$Reader.next()V -/
def g33 (S : gM) : Option (gM) :=
  w_lt (gi S 16 13) fun V1 =>
  if ¬ V1 = 283 then
    g33_l21
      (fun S21 =>
        g33_j83 S21)
      100000 0 S
  else
    w_lt (gi S 16 16) fun V45 =>
    if V45 = (-1) then
      g33_l21
        (fun S47 =>
          g33_j83 S47)
        100000 0 S
    else
      some S
theorem g33_ok {S : gM} {M : vm_M} {r : gM} (hR : Rel S M) (h : g33 S = some r) : Mp gRV (f33 16 M) r := by
  unfold g33 at h
  unfold f33
  obtain ⟨V1, e1, h⟩ := lt_so h
  refine k_gi hR (hR.obF (by decide) rfl) rfl e1 (fun v1 z1 => ?_)
  refine k_ite (c_ne z1 tI_283) h (fun c2 h => ?_) (fun c2 h => ?_)
  · refine g33_l21_ok ?_ 100000 _ _ _ _ hR tI_0 h
    · intro S21 M21 R21
      intro h
      exact g33_j83_ok R21 h
  · obtain ⟨V45, e45, h⟩ := lt_so h
    refine k_gi hR (hR.obF (by decide) rfl) rfl e45 (fun v45 z45 => ?_)
    refine k_ite (c_eq z45 tI_m1) h (fun c46 h => ?_) (fun c46 h => ?_)
    · refine g33_l21_ok ?_ 100000 _ _ _ _ hR tI_0 h
      · intro S47 M47 R47
        intro h
        exact g33_j83_ok R47 h
    · exact k_retV hR h
/-- PupilCoin$Reader.expect(I)V -/
def g37 (X1 : Int) (S : gM) : Option (gM) :=
  w_lt (gi S 16 13) fun V1 =>
  if ¬ V1 = X1 then
    (g32 S).bind fun p3 =>
    some p3
  else
    (g33 S).bind fun p4 =>
    some p4
theorem g37_ok {x1 : Int32} {X1 : Int} {S : gM} {M : vm_M} {r : gM} (hR : Rel S M) (t1 : x1.toInt = X1) (h : g37 X1 S = some r) : Mp gRV (f37 16 x1 M) r := by
  unfold g37 at h
  unfold f37
  obtain ⟨V1, e1, h⟩ := lt_so h
  refine k_gi hR (hR.obF (by decide) rfl) rfl e1 (fun v1 z1 => ?_)
  refine k_ite (c_ne z1 t1) h (fun c2 h => ?_) (fun c2 h => ?_)
  · refine k_ob (hR.obF (by decide) rfl) ?_
    obtain ⟨p3, e3, h⟩ := bind_so h
    refine k_call (g32_ok hR e3) (fun M3 R3 => ?_)
    exact k_retV R3 h
  · refine k_ob (hR.obF (by decide) rfl) ?_
    obtain ⟨p4, e4, h⟩ := bind_so h
    refine k_call (g33_ok hR e4) (fun M4 R4 => ?_)
    exact k_retV R4 h
/-- PupilCoin$Reader.setting(II)V -/
def g39 (X1 : Int) (X2 : Int) (S : gM) : Option (gM) :=
  (g33 S).bind fun p1 =>
  w_lt (gi p1 16 13) fun V2 =>
  if ¬ V2 = 281 then
    (g32 p1).bind fun p4 =>
    some p4
  else
    w_lt (gi p1 16 14) fun V5 =>
    if X2 < V5 then
      (g32 p1).bind fun p7 =>
      some p7
    else
      w_lt (gi p1 16 14) fun V8 =>
      w_chk ((0 : Int) ≤ X1 ∧ X1 < 6) <|
      w_lt (wi p1 22 X1 V8) fun S10 =>
      (g33 S10).bind fun p11 =>
      some p11
theorem g39_ok {x1 : Int32} {X1 : Int} {x2 : Int32} {X2 : Int} {S : gM} {M : vm_M} {r : gM} (hR : Rel S M) (t1 : x1.toInt = X1) (t2 : x2.toInt = X2) (h : g39 X1 X2 S = some r) : Mp gRV (f39 16 x1 x2 M) r := by
  unfold g39 at h
  unfold f39
  refine k_ob (hR.obF (by decide) rfl) ?_
  obtain ⟨p1, e1, h⟩ := bind_so h
  refine k_call (g33_ok hR e1) (fun M1 R1 => ?_)
  obtain ⟨V2, e2, h⟩ := lt_so h
  refine k_gi R1 (R1.obF (by decide) rfl) rfl e2 (fun v2 z2 => ?_)
  refine k_ite (c_ne z2 tI_281) h (fun c3 h => ?_) (fun c3 h => ?_)
  · refine k_ob (R1.obF (by decide) rfl) ?_
    obtain ⟨p4, e4, h⟩ := bind_so h
    refine k_call (g32_ok R1 e4) (fun M4 R4 => ?_)
    exact k_retV R4 h
  · obtain ⟨V5, e5, h⟩ := lt_so h
    refine k_gi R1 (R1.obF (by decide) rfl) rfl e5 (fun v5 z5 => ?_)
    refine k_ite (c_lt t2 z5) h (fun c6 h => ?_) (fun c6 h => ?_)
    · refine k_ob (R1.obF (by decide) rfl) ?_
      obtain ⟨p7, e7, h⟩ := bind_so h
      refine k_call (g32_ok R1 e7) (fun M7 R7 => ?_)
      exact k_retV R7 h
    · refine k_grF 25 R1 (R1.obF (by decide) rfl) rfl ?_
      obtain ⟨V8, e8, h⟩ := lt_so h
      refine k_gi R1 (R1.obF (by decide) rfl) rfl e8 (fun v8 z8 => ?_)
      refine k_some ?_
      obtain ⟨c9, h⟩ := chk_so h
      obtain ⟨S10, e10, h⟩ := lt_so h
      refine k_si R1 (R1.lnF (by decide) rfl) rfl t1 c9 z8 e10 (fun M10 R10 => ?_)
      refine k_ob (R10.obF (by decide) rfl) ?_
      obtain ⟨p11, e11, h⟩ := bind_so h
      refine k_call (g33_ok R10 e11) (fun M11 R11 => ?_)
      exact k_retV R11 h
def g40_j24 (S : gM) : Option (gM) :=
  w_lt (gi S 16 13) fun V4 =>
  if ¬ V4 = 257 then
    w_lt (wi S 22 4 1) fun S6 =>
    (g33 S6).bind fun p7 =>
    some p7
  else
    w_lt (wi S 22 4 0) fun S8 =>
    (g33 S8).bind fun p9 =>
    some p9
theorem g40_j24_ok {S : gM} {M : vm_M} {r : gM} (hR : Rel S M) (h : g40_j24 S = some r) : Mp gRV (f40_j24 16 M) r := by
  unfold g40_j24 at h
  unfold f40_j24
  refine k_grF 25 hR (hR.obF (by decide) rfl) rfl ?_
  obtain ⟨V4, e4, h⟩ := lt_so h
  refine k_gi hR (hR.obF (by decide) rfl) rfl e4 (fun v4 z4 => ?_)
  refine k_ite (c_ne z4 tI_257) h (fun c5 h => ?_) (fun c5 h => ?_)
  · refine k_some ?_
    obtain ⟨S6, e6, h⟩ := lt_so h
    refine k_si hR (hR.lnF (by decide) rfl) rfl tI_4 (by decide) tI_1 e6 (fun M6 R6 => ?_)
    refine k_ob (R6.obF (by decide) rfl) ?_
    obtain ⟨p7, e7, h⟩ := bind_so h
    refine k_call (g33_ok R6 e7) (fun M7 R7 => ?_)
    exact k_retV R7 h
  · refine k_some ?_
    obtain ⟨S8, e8, h⟩ := lt_so h
    refine k_si hR (hR.lnF (by decide) rfl) rfl tI_4 (by decide) tI_0 e8 (fun M8 R8 => ?_)
    refine k_ob (R8.obF (by decide) rfl) ?_
    obtain ⟨p9, e9, h⟩ := bind_so h
    refine k_call (g33_ok R8 e9) (fun M9 R9 => ?_)
    exact k_retV R9 h
/-- PupilCoin$Reader.order()V -/
def g40 (S : gM) : Option (gM) :=
  (g33 S).bind fun p1 =>
  w_lt (gi p1 16 13) fun V2 =>
  if V2 = 257 then
    g40_j24 p1
  else
    w_lt (gi p1 16 13) fun V10 =>
    if ¬ V10 = 258 then
      (g32 p1).bind fun p12 =>
      some p12
    else
      g40_j24 p1
theorem g40_ok {S : gM} {M : vm_M} {r : gM} (hR : Rel S M) (h : g40 S = some r) : Mp gRV (f40 16 M) r := by
  unfold g40 at h
  unfold f40
  refine k_ob (hR.obF (by decide) rfl) ?_
  obtain ⟨p1, e1, h⟩ := bind_so h
  refine k_call (g33_ok hR e1) (fun M1 R1 => ?_)
  obtain ⟨V2, e2, h⟩ := lt_so h
  refine k_gi R1 (R1.obF (by decide) rfl) rfl e2 (fun v2 z2 => ?_)
  refine k_ite (c_eq z2 tI_257) h (fun c3 h => ?_) (fun c3 h => ?_)
  · exact g40_j24_ok R1 h
  · obtain ⟨V10, e10, h⟩ := lt_so h
    refine k_gi R1 (R1.obF (by decide) rfl) rfl e10 (fun v10 z10 => ?_)
    refine k_ite (c_ne z10 tI_258) h (fun c11 h => ?_) (fun c11 h => ?_)
    · refine k_ob (R1.obF (by decide) rfl) ?_
      obtain ⟨p12, e12, h⟩ := bind_so h
      refine k_call (g32_ok R1 e12) (fun M12 R12 => ?_)
      exact k_retV R12 h
    · exact g40_j24_ok R1 h
def g42_l14 : Nat → Int → gM → Option (Int × gM)
  | 0 => fun _ _ => none
  | n + 1 => fun X1 S =>
    w_lt (gi S 16 7) fun V3 =>
    if V3 ≤ X1 then
      some ((-1), S)
    else
      if 30 ≤ X1 then
        some ((-1), S)
      else
        w_chk ((0 : Int) ≤ X1 ∧ X1 < 30) <|
        w_lt (gl S 21 X1) fun V7 =>
        w_lt (gl S 16 15) fun V8 =>
        if ¬ V7 = V8 then
          w_ckI (X1 + 1) fun V10 =>
          g42_l14 n V10 S
        else
          some (X1, S)
theorem g42_l14_ok {r : Int × gM} : ∀ (n : Nat) (x1 : Int32) (X1 : Int) (S : gM) (M : vm_M), Rel S M → x1.toInt = X1 → g42_l14 n X1 S = some r → Mp gRI (f42_l14 16 n x1 M) r := by
  intro n
  induction n with
  | zero =>
    intro x1 X1 S M hR t1 h
    cases h
  | succ n ih =>
    intro x1 X1 S M hR t1 h
    dsimp only [g42_l14] at h
    dsimp only [f42_l14]
    obtain ⟨V3, e3, h⟩ := lt_so h
    refine k_gi hR (hR.obF (by decide) rfl) rfl e3 (fun v3 z3 => ?_)
    refine k_ite (c_le z3 t1) h (fun c4 h => ?_) (fun c4 h => ?_)
    · exact k_retI hR tI_m1 h
    · refine k_ite (c_le tI_30 t1) h (fun c5 h => ?_) (fun c5 h => ?_)
      · exact k_retI hR tI_m1 h
      · refine k_grF 24 hR (hR.obF (by decide) rfl) rfl ?_
        refine k_some ?_
        obtain ⟨c6, h⟩ := chk_so h
        obtain ⟨V7, e7, h⟩ := lt_so h
        refine k_al hR (hR.lnF (by decide) rfl) rfl t1 c6 e7 (fun v7 z7 => ?_)
        obtain ⟨V8, e8, h⟩ := lt_so h
        refine k_gl hR (hR.obF (by decide) rfl) rfl e8 (fun v8 z8 => ?_)
        refine k_ite (cJ_ne z7 z8) h (fun c9 h => ?_) (fun c9 h => ?_)
        · obtain ⟨V10, e10, c10, h⟩ := ckI_so h
          exact ih _ _ _ _ hR (t_add t1 tI_1 c10 e10) h
        · exact k_retI hR t1 h
/-- PupilCoin$Reader.lineNamed()I -/
def g42 (S : gM) : Option (Int × gM) :=
  w_lt (gi S 16 13) fun V1 =>
  if V1 = 280 then
    g42_l14
    
      100000 0 S
  else
    some ((-1), S)
theorem g42_ok {S : gM} {M : vm_M} {r : Int × gM} (hR : Rel S M) (h : g42 S = some r) : Mp gRI (f42 16 M) r := by
  unfold g42 at h
  unfold f42
  obtain ⟨V1, e1, h⟩ := lt_so h
  refine k_gi hR (hR.obF (by decide) rfl) rfl e1 (fun v1 z1 => ?_)
  refine k_ite (c_eq z1 tI_280) h (fun c2 h => ?_) (fun c2 h => ?_)
  · refine g42_l14_ok 100000 _ _ _ _ hR tI_0 h
  · exact k_retI hR tI_m1 h
/-- PupilCoin$Reader.share()V -/
def g41 (S : gM) : Option (gM) :=
  (g33 S).bind fun p1 =>
  (g42 p1).bind fun p2 =>
  if ¬ p2.1 = (-1) then
    w_lt (wi p2.2 22 5 p2.1) fun S4 =>
    (g33 S4).bind fun p5 =>
    some p5
  else
    (g32 p2.2).bind fun p6 =>
    some p6
theorem g41_ok {S : gM} {M : vm_M} {r : gM} (hR : Rel S M) (h : g41 S = some r) : Mp gRV (f41 16 M) r := by
  unfold g41 at h
  unfold f41
  refine k_ob (hR.obF (by decide) rfl) ?_
  obtain ⟨p1, e1, h⟩ := bind_so h
  refine k_call (g33_ok hR e1) (fun M1 R1 => ?_)
  refine k_ob (R1.obF (by decide) rfl) ?_
  obtain ⟨p2, e2, h⟩ := bind_so h
  refine k_call (g42_ok R1 e2) (fun b2 R2 => ?_)
  refine k_ite (c_ne R2.1 tI_m1) h (fun c3 h => ?_) (fun c3 h => ?_)
  · refine k_grF 25 R2.2 (R2.2.obF (by decide) rfl) rfl ?_
    refine k_some ?_
    obtain ⟨S4, e4, h⟩ := lt_so h
    refine k_si R2.2 (R2.2.lnF (by decide) rfl) rfl tI_5 (by decide) R2.1 e4 (fun M4 R4 => ?_)
    refine k_ob (R4.obF (by decide) rfl) ?_
    obtain ⟨p5, e5, h⟩ := bind_so h
    refine k_call (g33_ok R4 e5) (fun M5 R5 => ?_)
    exact k_retV R5 h
  · refine k_ob (R2.2.obF (by decide) rfl) ?_
    obtain ⟨p6, e6, h⟩ := bind_so h
    refine k_call (g32_ok R2.2 e6) (fun M6 R6 => ?_)
    exact k_retV R6 h
/-- PupilCoin$Reader.step(II)V -/
def g44 (X1 : Int) (X2 : Int) (S : gM) : Option (gM) :=
  w_lt (gi S 16 6) fun V1 =>
  if 700 ≤ V1 then
    some S
  else
    w_lt (gi S 16 6) fun V3 =>
    w_ckI (V3 + 1) fun V4 =>
    w_lt (wi S 16 6 V4) fun S5 =>
    w_ckI (X2 * 16) fun V6 =>
    w_ckI (V6 + X1) fun V7 =>
    w_chk ((0 : Int) ≤ V3 ∧ V3 < 700) <|
    w_lt (wi S5 18 V3 V7) fun S9 =>
    some S9
theorem g44_ok {x1 : Int32} {X1 : Int} {x2 : Int32} {X2 : Int} {S : gM} {M : vm_M} {r : gM} (hR : Rel S M) (t1 : x1.toInt = X1) (t2 : x2.toInt = X2) (h : g44 X1 X2 S = some r) : Mp gRV (f44 16 x1 x2 M) r := by
  unfold g44 at h
  unfold f44
  obtain ⟨V1, e1, h⟩ := lt_so h
  refine k_gi hR (hR.obF (by decide) rfl) rfl e1 (fun v1 z1 => ?_)
  refine k_ite (c_le tI_700 z1) h (fun c2 h => ?_) (fun c2 h => ?_)
  · exact k_retV hR h
  · refine k_grF 21 hR (hR.obF (by decide) rfl) rfl ?_
    obtain ⟨V3, e3, h⟩ := lt_so h
    refine k_gi hR (hR.obF (by decide) rfl) rfl e3 (fun v3 z3 => ?_)
    obtain ⟨V4, e4, c4, h⟩ := ckI_so h
    obtain ⟨S5, e5, h⟩ := lt_so h
    refine k_pi hR (hR.obF (by decide) rfl) rfl (t_add z3 tI_1 c4 e4) e5 (fun M5 R5 => ?_)
    obtain ⟨V6, e6, c6, h⟩ := ckI_so h
    obtain ⟨V7, e7, c7, h⟩ := ckI_so h
    refine k_some ?_
    obtain ⟨c8, h⟩ := chk_so h
    obtain ⟨S9, e9, h⟩ := lt_so h
    refine k_si R5 (R5.lnF (by decide) rfl) rfl z3 c8 (t_add (t_mul t2 tI_16 c6 e6) t1 c7 e7) e9 (fun M9 R9 => ?_)
    exact k_retV R9 h
def g45_j46 (G45 : Int → gM → Option (gM)) (G46 : Int → gM → Option (gM)) (G47 : Int → gM → Option (gM)) (K7 : Int → gM → Option (gM)) (X1 : Int) (X2 : Int) (Xs0 : Int) (S : gM) : Option (gM) :=
  (g33 S).bind fun p7 =>
  (G46 X1 p7).bind fun p8 =>
  (g44 Xs0 0 p8).bind fun p9 =>
  w_ckI (X2 + 1) fun V10 =>
  K7 V10 p9
theorem g45_j46_ok {F45 : Nat → Int32 → vm_M → Option (vm_M)} {F46 : Nat → Int32 → vm_M → Option (vm_M)} {F47 : Nat → Int32 → vm_M → Option (vm_M)} {G45 : Int → gM → Option (gM)} {G46 : Int → gM → Option (gM)} {G47 : Int → gM → Option (gM)} {k7 : Int32 → vm_M → Option (vm_M)} {K7 : Int → gM → Option (gM)} {x1 : Int32} {X1 : Int} {x2 : Int32} {X2 : Int} {xs0 : Int32} {Xs0 : Int} {S : gM} {M : vm_M} {r : gM} (hF45 : ∀ {a1 : Int32} {A1 : Int} {S : gM} {M : vm_M} {r : gM} (hR : Rel S M) (ha1 : a1.toInt = A1), G45 A1 S = some r → Mp gRV (F45 16 a1 M) r) (hF46 : ∀ {a1 : Int32} {A1 : Int} {S : gM} {M : vm_M} {r : gM} (hR : Rel S M) (ha1 : a1.toInt = A1), G46 A1 S = some r → Mp gRV (F46 16 a1 M) r) (hF47 : ∀ {a1 : Int32} {A1 : Int} {S : gM} {M : vm_M} {r : gM} (hR : Rel S M) (ha1 : a1.toInt = A1), G47 A1 S = some r → Mp gRV (F47 16 a1 M) r) (hk7 : ∀ (y2 : Int32) (Y2 : Int) (S : gM) (M : vm_M), Rel S M → y2.toInt = Y2 → K7 Y2 S = some r → Mp gRV (k7 y2 M) r) (hR : Rel S M) (t1 : x1.toInt = X1) (t2 : x2.toInt = X2) (ts0 : xs0.toInt = Xs0) (h : g45_j46 G45 G46 G47 K7 X1 X2 Xs0 S = some r) : Mp gRV (f45_j46 F45 F46 F47 k7 16 x1 x2 xs0 M) r := by
  unfold g45_j46 at h
  unfold f45_j46
  refine k_ob (hR.obF (by decide) rfl) ?_
  obtain ⟨p7, e7, h⟩ := bind_so h
  refine k_call (g33_ok hR e7) (fun M7 R7 => ?_)
  refine k_ob (R7.obF (by decide) rfl) ?_
  obtain ⟨p8, e8, h⟩ := bind_so h
  refine k_call (hF46 R7 t1 e8) (fun M8 R8 => ?_)
  refine k_ob (R8.obF (by decide) rfl) ?_
  obtain ⟨p9, e9, h⟩ := bind_so h
  refine k_call (g44_ok R8 ts0 tI_0 e9) (fun M9 R9 => ?_)
  obtain ⟨V10, e10, c10, h⟩ := ckI_so h
  exact hk7 _ _ _ _ R9 (t_add t2 tI_1 c10 e10) h
def g45_j32 (G45 : Int → gM → Option (gM)) (G46 : Int → gM → Option (gM)) (G47 : Int → gM → Option (gM)) (K7 : Int → gM → Option (gM)) (X1 : Int) (X2 : Int) (S : gM) : Option (gM) :=
  w_lt (gi S 16 13) fun V5 =>
  if ¬ V5 = 43 then
    g45_j46 G45 G46 G47 K7 X1 X2 4 S
  else
    g45_j46 G45 G46 G47 K7 X1 X2 3 S
theorem g45_j32_ok {F45 : Nat → Int32 → vm_M → Option (vm_M)} {F46 : Nat → Int32 → vm_M → Option (vm_M)} {F47 : Nat → Int32 → vm_M → Option (vm_M)} {G45 : Int → gM → Option (gM)} {G46 : Int → gM → Option (gM)} {G47 : Int → gM → Option (gM)} {k7 : Int32 → vm_M → Option (vm_M)} {K7 : Int → gM → Option (gM)} {x1 : Int32} {X1 : Int} {x2 : Int32} {X2 : Int} {S : gM} {M : vm_M} {r : gM} (hF45 : ∀ {a1 : Int32} {A1 : Int} {S : gM} {M : vm_M} {r : gM} (hR : Rel S M) (ha1 : a1.toInt = A1), G45 A1 S = some r → Mp gRV (F45 16 a1 M) r) (hF46 : ∀ {a1 : Int32} {A1 : Int} {S : gM} {M : vm_M} {r : gM} (hR : Rel S M) (ha1 : a1.toInt = A1), G46 A1 S = some r → Mp gRV (F46 16 a1 M) r) (hF47 : ∀ {a1 : Int32} {A1 : Int} {S : gM} {M : vm_M} {r : gM} (hR : Rel S M) (ha1 : a1.toInt = A1), G47 A1 S = some r → Mp gRV (F47 16 a1 M) r) (hk7 : ∀ (y2 : Int32) (Y2 : Int) (S : gM) (M : vm_M), Rel S M → y2.toInt = Y2 → K7 Y2 S = some r → Mp gRV (k7 y2 M) r) (hR : Rel S M) (t1 : x1.toInt = X1) (t2 : x2.toInt = X2) (h : g45_j32 G45 G46 G47 K7 X1 X2 S = some r) : Mp gRV (f45_j32 F45 F46 F47 k7 16 x1 x2 M) r := by
  unfold g45_j32 at h
  unfold f45_j32
  obtain ⟨V5, e5, h⟩ := lt_so h
  refine k_gi hR (hR.obF (by decide) rfl) rfl e5 (fun v5 z5 => ?_)
  refine k_ite (c_ne z5 tI_43) h (fun c6 h => ?_) (fun c6 h => ?_)
  · exact g45_j46_ok hF45 hF46 hF47 hk7 hR t1 t2 tI_4 h
  · exact g45_j46_ok hF45 hF46 hF47 hk7 hR t1 t2 tI_3 h
def g45_l7 (G45 : Int → gM → Option (gM)) (G46 : Int → gM → Option (gM)) (G47 : Int → gM → Option (gM)) (X1 : Int) : Nat → Int → gM → Option (gM)
  | 0 => fun _ _ => none
  | n + 1 => fun X2 S =>
    if 700 ≤ X2 then
      some S
    else
      w_lt (gi S 16 13) fun V3 =>
      if V3 = 43 then
        g45_j32 G45 G46 G47 (g45_l7 G45 G46 G47 X1 n) X1 X2 S
      else
        w_lt (gi S 16 13) fun V11 =>
        if ¬ V11 = 45 then
          some S
        else
          g45_j32 G45 G46 G47 (g45_l7 G45 G46 G47 X1 n) X1 X2 S
theorem g45_l7_ok {F45 : Nat → Int32 → vm_M → Option (vm_M)} {F46 : Nat → Int32 → vm_M → Option (vm_M)} {F47 : Nat → Int32 → vm_M → Option (vm_M)} {G45 : Int → gM → Option (gM)} {G46 : Int → gM → Option (gM)} {G47 : Int → gM → Option (gM)} {x1 : Int32} {X1 : Int} {r : gM} (hF45 : ∀ {a1 : Int32} {A1 : Int} {S : gM} {M : vm_M} {r : gM} (hR : Rel S M) (ha1 : a1.toInt = A1), G45 A1 S = some r → Mp gRV (F45 16 a1 M) r) (hF46 : ∀ {a1 : Int32} {A1 : Int} {S : gM} {M : vm_M} {r : gM} (hR : Rel S M) (ha1 : a1.toInt = A1), G46 A1 S = some r → Mp gRV (F46 16 a1 M) r) (hF47 : ∀ {a1 : Int32} {A1 : Int} {S : gM} {M : vm_M} {r : gM} (hR : Rel S M) (ha1 : a1.toInt = A1), G47 A1 S = some r → Mp gRV (F47 16 a1 M) r) (t1 : x1.toInt = X1) : ∀ (n : Nat) (x2 : Int32) (X2 : Int) (S : gM) (M : vm_M), Rel S M → x2.toInt = X2 → g45_l7 G45 G46 G47 X1 n X2 S = some r → Mp gRV (f45_l7 F45 F46 F47 16 x1 n x2 M) r := by
  intro n
  induction n with
  | zero =>
    intro x2 X2 S M hR t2 h
    cases h
  | succ n ih =>
    intro x2 X2 S M hR t2 h
    dsimp only [g45_l7] at h
    dsimp only [f45_l7]
    refine k_ite (c_le tI_700 t2) h (fun c2 h => ?_) (fun c2 h => ?_)
    · exact k_retV hR h
    · obtain ⟨V3, e3, h⟩ := lt_so h
      refine k_gi hR (hR.obF (by decide) rfl) rfl e3 (fun v3 z3 => ?_)
      refine k_ite (c_eq z3 tI_43) h (fun c4 h => ?_) (fun c4 h => ?_)
      · exact g45_j32_ok hF45 hF46 hF47 ih hR t1 t2 h
      · obtain ⟨V11, e11, h⟩ := lt_so h
        refine k_gi hR (hR.obF (by decide) rfl) rfl e11 (fun v11 z11 => ?_)
        refine k_ite (c_ne z11 tI_45) h (fun c12 h => ?_) (fun c12 h => ?_)
        · exact k_retV hR h
        · exact g45_j32_ok hF45 hF46 hF47 ih hR t1 t2 h
/-- PupilCoin$Reader.ex(I)V -/
def g45g (G45 : Int → gM → Option (gM)) (G46 : Int → gM → Option (gM)) (G47 : Int → gM → Option (gM)) (X1 : Int) (S : gM) : Option (gM) :=
  (G46 X1 S).bind fun p1 =>
  g45_l7 G45 G46 G47 X1
  
    100000 0 p1
theorem g45g_ok {F45 : Nat → Int32 → vm_M → Option (vm_M)} {F46 : Nat → Int32 → vm_M → Option (vm_M)} {F47 : Nat → Int32 → vm_M → Option (vm_M)} {G45 : Int → gM → Option (gM)} {G46 : Int → gM → Option (gM)} {G47 : Int → gM → Option (gM)} {x1 : Int32} {X1 : Int} {S : gM} {M : vm_M} {r : gM} (hF45 : ∀ {a1 : Int32} {A1 : Int} {S : gM} {M : vm_M} {r : gM} (hR : Rel S M) (ha1 : a1.toInt = A1), G45 A1 S = some r → Mp gRV (F45 16 a1 M) r) (hF46 : ∀ {a1 : Int32} {A1 : Int} {S : gM} {M : vm_M} {r : gM} (hR : Rel S M) (ha1 : a1.toInt = A1), G46 A1 S = some r → Mp gRV (F46 16 a1 M) r) (hF47 : ∀ {a1 : Int32} {A1 : Int} {S : gM} {M : vm_M} {r : gM} (hR : Rel S M) (ha1 : a1.toInt = A1), G47 A1 S = some r → Mp gRV (F47 16 a1 M) r) (hR : Rel S M) (t1 : x1.toInt = X1) (h : g45g G45 G46 G47 X1 S = some r) : Mp gRV (f45g F45 F46 F47 16 x1 M) r := by
  unfold g45g at h
  unfold f45g
  refine k_ob (hR.obF (by decide) rfl) ?_
  obtain ⟨p1, e1, h⟩ := bind_so h
  refine k_call (hF46 hR t1 e1) (fun M1 R1 => ?_)
  refine g45_l7_ok hF45 hF46 hF47 t1 100000 _ _ _ _ R1 tI_0 h
def g46_j47 (G45 : Int → gM → Option (gM)) (G46 : Int → gM → Option (gM)) (G47 : Int → gM → Option (gM)) (K7 : Int → gM → Option (gM)) (X1 : Int) (X2 : Int) (Xs0 : Int) (S : gM) : Option (gM) :=
  (g33 S).bind fun p7 =>
  (G47 X1 p7).bind fun p8 =>
  (g44 Xs0 0 p8).bind fun p9 =>
  w_ckI (X2 + 1) fun V10 =>
  K7 V10 p9
theorem g46_j47_ok {F45 : Nat → Int32 → vm_M → Option (vm_M)} {F46 : Nat → Int32 → vm_M → Option (vm_M)} {F47 : Nat → Int32 → vm_M → Option (vm_M)} {G45 : Int → gM → Option (gM)} {G46 : Int → gM → Option (gM)} {G47 : Int → gM → Option (gM)} {k7 : Int32 → vm_M → Option (vm_M)} {K7 : Int → gM → Option (gM)} {x1 : Int32} {X1 : Int} {x2 : Int32} {X2 : Int} {xs0 : Int32} {Xs0 : Int} {S : gM} {M : vm_M} {r : gM} (hF45 : ∀ {a1 : Int32} {A1 : Int} {S : gM} {M : vm_M} {r : gM} (hR : Rel S M) (ha1 : a1.toInt = A1), G45 A1 S = some r → Mp gRV (F45 16 a1 M) r) (hF46 : ∀ {a1 : Int32} {A1 : Int} {S : gM} {M : vm_M} {r : gM} (hR : Rel S M) (ha1 : a1.toInt = A1), G46 A1 S = some r → Mp gRV (F46 16 a1 M) r) (hF47 : ∀ {a1 : Int32} {A1 : Int} {S : gM} {M : vm_M} {r : gM} (hR : Rel S M) (ha1 : a1.toInt = A1), G47 A1 S = some r → Mp gRV (F47 16 a1 M) r) (hk7 : ∀ (y2 : Int32) (Y2 : Int) (S : gM) (M : vm_M), Rel S M → y2.toInt = Y2 → K7 Y2 S = some r → Mp gRV (k7 y2 M) r) (hR : Rel S M) (t1 : x1.toInt = X1) (t2 : x2.toInt = X2) (ts0 : xs0.toInt = Xs0) (h : g46_j47 G45 G46 G47 K7 X1 X2 Xs0 S = some r) : Mp gRV (f46_j47 F45 F46 F47 k7 16 x1 x2 xs0 M) r := by
  unfold g46_j47 at h
  unfold f46_j47
  refine k_ob (hR.obF (by decide) rfl) ?_
  obtain ⟨p7, e7, h⟩ := bind_so h
  refine k_call (g33_ok hR e7) (fun M7 R7 => ?_)
  refine k_ob (R7.obF (by decide) rfl) ?_
  obtain ⟨p8, e8, h⟩ := bind_so h
  refine k_call (hF47 R7 t1 e8) (fun M8 R8 => ?_)
  refine k_ob (R8.obF (by decide) rfl) ?_
  obtain ⟨p9, e9, h⟩ := bind_so h
  refine k_call (g44_ok R8 ts0 tI_0 e9) (fun M9 R9 => ?_)
  obtain ⟨V10, e10, c10, h⟩ := ckI_so h
  exact hk7 _ _ _ _ R9 (t_add t2 tI_1 c10 e10) h
def g46_j32 (G45 : Int → gM → Option (gM)) (G46 : Int → gM → Option (gM)) (G47 : Int → gM → Option (gM)) (K7 : Int → gM → Option (gM)) (X1 : Int) (X2 : Int) (S : gM) : Option (gM) :=
  w_lt (gi S 16 13) fun V5 =>
  if ¬ V5 = 42 then
    g46_j47 G45 G46 G47 K7 X1 X2 6 S
  else
    g46_j47 G45 G46 G47 K7 X1 X2 5 S
theorem g46_j32_ok {F45 : Nat → Int32 → vm_M → Option (vm_M)} {F46 : Nat → Int32 → vm_M → Option (vm_M)} {F47 : Nat → Int32 → vm_M → Option (vm_M)} {G45 : Int → gM → Option (gM)} {G46 : Int → gM → Option (gM)} {G47 : Int → gM → Option (gM)} {k7 : Int32 → vm_M → Option (vm_M)} {K7 : Int → gM → Option (gM)} {x1 : Int32} {X1 : Int} {x2 : Int32} {X2 : Int} {S : gM} {M : vm_M} {r : gM} (hF45 : ∀ {a1 : Int32} {A1 : Int} {S : gM} {M : vm_M} {r : gM} (hR : Rel S M) (ha1 : a1.toInt = A1), G45 A1 S = some r → Mp gRV (F45 16 a1 M) r) (hF46 : ∀ {a1 : Int32} {A1 : Int} {S : gM} {M : vm_M} {r : gM} (hR : Rel S M) (ha1 : a1.toInt = A1), G46 A1 S = some r → Mp gRV (F46 16 a1 M) r) (hF47 : ∀ {a1 : Int32} {A1 : Int} {S : gM} {M : vm_M} {r : gM} (hR : Rel S M) (ha1 : a1.toInt = A1), G47 A1 S = some r → Mp gRV (F47 16 a1 M) r) (hk7 : ∀ (y2 : Int32) (Y2 : Int) (S : gM) (M : vm_M), Rel S M → y2.toInt = Y2 → K7 Y2 S = some r → Mp gRV (k7 y2 M) r) (hR : Rel S M) (t1 : x1.toInt = X1) (t2 : x2.toInt = X2) (h : g46_j32 G45 G46 G47 K7 X1 X2 S = some r) : Mp gRV (f46_j32 F45 F46 F47 k7 16 x1 x2 M) r := by
  unfold g46_j32 at h
  unfold f46_j32
  obtain ⟨V5, e5, h⟩ := lt_so h
  refine k_gi hR (hR.obF (by decide) rfl) rfl e5 (fun v5 z5 => ?_)
  refine k_ite (c_ne z5 tI_42) h (fun c6 h => ?_) (fun c6 h => ?_)
  · exact g46_j47_ok hF45 hF46 hF47 hk7 hR t1 t2 tI_6 h
  · exact g46_j47_ok hF45 hF46 hF47 hk7 hR t1 t2 tI_5 h
def g46_l7 (G45 : Int → gM → Option (gM)) (G46 : Int → gM → Option (gM)) (G47 : Int → gM → Option (gM)) (X1 : Int) : Nat → Int → gM → Option (gM)
  | 0 => fun _ _ => none
  | n + 1 => fun X2 S =>
    if 700 ≤ X2 then
      some S
    else
      w_lt (gi S 16 13) fun V3 =>
      if V3 = 42 then
        g46_j32 G45 G46 G47 (g46_l7 G45 G46 G47 X1 n) X1 X2 S
      else
        w_lt (gi S 16 13) fun V11 =>
        if ¬ V11 = 47 then
          some S
        else
          g46_j32 G45 G46 G47 (g46_l7 G45 G46 G47 X1 n) X1 X2 S
theorem g46_l7_ok {F45 : Nat → Int32 → vm_M → Option (vm_M)} {F46 : Nat → Int32 → vm_M → Option (vm_M)} {F47 : Nat → Int32 → vm_M → Option (vm_M)} {G45 : Int → gM → Option (gM)} {G46 : Int → gM → Option (gM)} {G47 : Int → gM → Option (gM)} {x1 : Int32} {X1 : Int} {r : gM} (hF45 : ∀ {a1 : Int32} {A1 : Int} {S : gM} {M : vm_M} {r : gM} (hR : Rel S M) (ha1 : a1.toInt = A1), G45 A1 S = some r → Mp gRV (F45 16 a1 M) r) (hF46 : ∀ {a1 : Int32} {A1 : Int} {S : gM} {M : vm_M} {r : gM} (hR : Rel S M) (ha1 : a1.toInt = A1), G46 A1 S = some r → Mp gRV (F46 16 a1 M) r) (hF47 : ∀ {a1 : Int32} {A1 : Int} {S : gM} {M : vm_M} {r : gM} (hR : Rel S M) (ha1 : a1.toInt = A1), G47 A1 S = some r → Mp gRV (F47 16 a1 M) r) (t1 : x1.toInt = X1) : ∀ (n : Nat) (x2 : Int32) (X2 : Int) (S : gM) (M : vm_M), Rel S M → x2.toInt = X2 → g46_l7 G45 G46 G47 X1 n X2 S = some r → Mp gRV (f46_l7 F45 F46 F47 16 x1 n x2 M) r := by
  intro n
  induction n with
  | zero =>
    intro x2 X2 S M hR t2 h
    cases h
  | succ n ih =>
    intro x2 X2 S M hR t2 h
    dsimp only [g46_l7] at h
    dsimp only [f46_l7]
    refine k_ite (c_le tI_700 t2) h (fun c2 h => ?_) (fun c2 h => ?_)
    · exact k_retV hR h
    · obtain ⟨V3, e3, h⟩ := lt_so h
      refine k_gi hR (hR.obF (by decide) rfl) rfl e3 (fun v3 z3 => ?_)
      refine k_ite (c_eq z3 tI_42) h (fun c4 h => ?_) (fun c4 h => ?_)
      · exact g46_j32_ok hF45 hF46 hF47 ih hR t1 t2 h
      · obtain ⟨V11, e11, h⟩ := lt_so h
        refine k_gi hR (hR.obF (by decide) rfl) rfl e11 (fun v11 z11 => ?_)
        refine k_ite (c_ne z11 tI_47) h (fun c12 h => ?_) (fun c12 h => ?_)
        · exact k_retV hR h
        · exact g46_j32_ok hF45 hF46 hF47 ih hR t1 t2 h
/-- PupilCoin$Reader.prod(I)V -/
def g46g (G45 : Int → gM → Option (gM)) (G46 : Int → gM → Option (gM)) (G47 : Int → gM → Option (gM)) (X1 : Int) (S : gM) : Option (gM) :=
  (G47 X1 S).bind fun p1 =>
  g46_l7 G45 G46 G47 X1
  
    100000 0 p1
theorem g46g_ok {F45 : Nat → Int32 → vm_M → Option (vm_M)} {F46 : Nat → Int32 → vm_M → Option (vm_M)} {F47 : Nat → Int32 → vm_M → Option (vm_M)} {G45 : Int → gM → Option (gM)} {G46 : Int → gM → Option (gM)} {G47 : Int → gM → Option (gM)} {x1 : Int32} {X1 : Int} {S : gM} {M : vm_M} {r : gM} (hF45 : ∀ {a1 : Int32} {A1 : Int} {S : gM} {M : vm_M} {r : gM} (hR : Rel S M) (ha1 : a1.toInt = A1), G45 A1 S = some r → Mp gRV (F45 16 a1 M) r) (hF46 : ∀ {a1 : Int32} {A1 : Int} {S : gM} {M : vm_M} {r : gM} (hR : Rel S M) (ha1 : a1.toInt = A1), G46 A1 S = some r → Mp gRV (F46 16 a1 M) r) (hF47 : ∀ {a1 : Int32} {A1 : Int} {S : gM} {M : vm_M} {r : gM} (hR : Rel S M) (ha1 : a1.toInt = A1), G47 A1 S = some r → Mp gRV (F47 16 a1 M) r) (hR : Rel S M) (t1 : x1.toInt = X1) (h : g46g G45 G46 G47 X1 S = some r) : Mp gRV (f46g F45 F46 F47 16 x1 M) r := by
  unfold g46g at h
  unfold f46g
  refine k_ob (hR.obF (by decide) rfl) ?_
  obtain ⟨p1, e1, h⟩ := bind_so h
  refine k_call (hF47 hR t1 e1) (fun M1 R1 => ?_)
  refine g46_l7_ok hF45 hF46 hF47 t1 100000 _ _ _ _ R1 tI_0 h
def g47_j167 (G45 : Int → gM → Option (gM)) (G46 : Int → gM → Option (gM)) (G47 : Int → gM → Option (gM)) (X1 : Int) (Xs0 : Int) (S : gM) : Option (gM) :=
  (g33 S).bind fun p15 =>
  (g37 40 p15).bind fun p16 =>
  w_ckI (X1 + 1) fun V17 =>
  (G45 V17 p16).bind fun p18 =>
  (g37 44 p18).bind fun p19 =>
  w_ckI (X1 + 1) fun V20 =>
  (G45 V20 p19).bind fun p21 =>
  (g37 41 p21).bind fun p22 =>
  (g44 Xs0 0 p22).bind fun p23 =>
  some p23
theorem g47_j167_ok {F45 : Nat → Int32 → vm_M → Option (vm_M)} {F46 : Nat → Int32 → vm_M → Option (vm_M)} {F47 : Nat → Int32 → vm_M → Option (vm_M)} {G45 : Int → gM → Option (gM)} {G46 : Int → gM → Option (gM)} {G47 : Int → gM → Option (gM)} {x1 : Int32} {X1 : Int} {xs0 : Int32} {Xs0 : Int} {S : gM} {M : vm_M} {r : gM} (hF45 : ∀ {a1 : Int32} {A1 : Int} {S : gM} {M : vm_M} {r : gM} (hR : Rel S M) (ha1 : a1.toInt = A1), G45 A1 S = some r → Mp gRV (F45 16 a1 M) r) (hF46 : ∀ {a1 : Int32} {A1 : Int} {S : gM} {M : vm_M} {r : gM} (hR : Rel S M) (ha1 : a1.toInt = A1), G46 A1 S = some r → Mp gRV (F46 16 a1 M) r) (hF47 : ∀ {a1 : Int32} {A1 : Int} {S : gM} {M : vm_M} {r : gM} (hR : Rel S M) (ha1 : a1.toInt = A1), G47 A1 S = some r → Mp gRV (F47 16 a1 M) r) (hR : Rel S M) (t1 : x1.toInt = X1) (ts0 : xs0.toInt = Xs0) (h : g47_j167 G45 G46 G47 X1 Xs0 S = some r) : Mp gRV (f47_j167 F45 F46 F47 16 x1 xs0 M) r := by
  unfold g47_j167 at h
  unfold f47_j167
  refine k_ob (hR.obF (by decide) rfl) ?_
  obtain ⟨p15, e15, h⟩ := bind_so h
  refine k_call (g33_ok hR e15) (fun M15 R15 => ?_)
  refine k_ob (R15.obF (by decide) rfl) ?_
  obtain ⟨p16, e16, h⟩ := bind_so h
  refine k_call (g37_ok R15 tI_40 e16) (fun M16 R16 => ?_)
  obtain ⟨V17, e17, c17, h⟩ := ckI_so h
  refine k_ob (R16.obF (by decide) rfl) ?_
  obtain ⟨p18, e18, h⟩ := bind_so h
  refine k_call (hF45 R16 (t_add t1 tI_1 c17 e17) e18) (fun M18 R18 => ?_)
  refine k_ob (R18.obF (by decide) rfl) ?_
  obtain ⟨p19, e19, h⟩ := bind_so h
  refine k_call (g37_ok R18 tI_44 e19) (fun M19 R19 => ?_)
  obtain ⟨V20, e20, c20, h⟩ := ckI_so h
  refine k_ob (R19.obF (by decide) rfl) ?_
  obtain ⟨p21, e21, h⟩ := bind_so h
  refine k_call (hF45 R19 (t_add t1 tI_1 c20 e20) e21) (fun M21 R21 => ?_)
  refine k_ob (R21.obF (by decide) rfl) ?_
  obtain ⟨p22, e22, h⟩ := bind_so h
  refine k_call (g37_ok R21 tI_41 e22) (fun M22 R22 => ?_)
  refine k_ob (R22.obF (by decide) rfl) ?_
  obtain ⟨p23, e23, h⟩ := bind_so h
  refine k_call (g44_ok R22 ts0 tI_0 e23) (fun M23 R23 => ?_)
  exact k_retV R23 h
def g47_j144 (G45 : Int → gM → Option (gM)) (G46 : Int → gM → Option (gM)) (G47 : Int → gM → Option (gM)) (X1 : Int) (S : gM) : Option (gM) :=
  if 8 ≤ X1 then
    (g32 S).bind fun p12 =>
    some p12
  else
    w_lt (gi S 16 13) fun V13 =>
    if ¬ V13 = 264 then
      g47_j167 G45 G46 G47 X1 8 S
    else
      g47_j167 G45 G46 G47 X1 7 S
theorem g47_j144_ok {F45 : Nat → Int32 → vm_M → Option (vm_M)} {F46 : Nat → Int32 → vm_M → Option (vm_M)} {F47 : Nat → Int32 → vm_M → Option (vm_M)} {G45 : Int → gM → Option (gM)} {G46 : Int → gM → Option (gM)} {G47 : Int → gM → Option (gM)} {x1 : Int32} {X1 : Int} {S : gM} {M : vm_M} {r : gM} (hF45 : ∀ {a1 : Int32} {A1 : Int} {S : gM} {M : vm_M} {r : gM} (hR : Rel S M) (ha1 : a1.toInt = A1), G45 A1 S = some r → Mp gRV (F45 16 a1 M) r) (hF46 : ∀ {a1 : Int32} {A1 : Int} {S : gM} {M : vm_M} {r : gM} (hR : Rel S M) (ha1 : a1.toInt = A1), G46 A1 S = some r → Mp gRV (F46 16 a1 M) r) (hF47 : ∀ {a1 : Int32} {A1 : Int} {S : gM} {M : vm_M} {r : gM} (hR : Rel S M) (ha1 : a1.toInt = A1), G47 A1 S = some r → Mp gRV (F47 16 a1 M) r) (hR : Rel S M) (t1 : x1.toInt = X1) (h : g47_j144 G45 G46 G47 X1 S = some r) : Mp gRV (f47_j144 F45 F46 F47 16 x1 M) r := by
  unfold g47_j144 at h
  unfold f47_j144
  refine k_ite (c_le tI_8 t1) h (fun c11 h => ?_) (fun c11 h => ?_)
  · refine k_ob (hR.obF (by decide) rfl) ?_
    obtain ⟨p12, e12, h⟩ := bind_so h
    refine k_call (g32_ok hR e12) (fun M12 R12 => ?_)
    exact k_retV R12 h
  · obtain ⟨V13, e13, h⟩ := lt_so h
    refine k_gi hR (hR.obF (by decide) rfl) rfl e13 (fun v13 z13 => ?_)
    refine k_ite (c_ne z13 tI_264) h (fun c14 h => ?_) (fun c14 h => ?_)
    · exact g47_j167_ok hF45 hF46 hF47 hR t1 tI_8 h
    · exact g47_j167_ok hF45 hF46 hF47 hR t1 tI_7 h
def g47_j124 (G45 : Int → gM → Option (gM)) (G46 : Int → gM → Option (gM)) (G47 : Int → gM → Option (gM)) (X1 : Int) (S : gM) : Option (gM) :=
  w_lt (gi S 16 13) fun V9 =>
  if V9 = 264 then
    g47_j144 G45 G46 G47 X1 S
  else
    w_lt (gi S 16 13) fun V24 =>
    if ¬ V24 = 265 then
      (g32 S).bind fun p26 =>
      some p26
    else
      g47_j144 G45 G46 G47 X1 S
theorem g47_j124_ok {F45 : Nat → Int32 → vm_M → Option (vm_M)} {F46 : Nat → Int32 → vm_M → Option (vm_M)} {F47 : Nat → Int32 → vm_M → Option (vm_M)} {G45 : Int → gM → Option (gM)} {G46 : Int → gM → Option (gM)} {G47 : Int → gM → Option (gM)} {x1 : Int32} {X1 : Int} {S : gM} {M : vm_M} {r : gM} (hF45 : ∀ {a1 : Int32} {A1 : Int} {S : gM} {M : vm_M} {r : gM} (hR : Rel S M) (ha1 : a1.toInt = A1), G45 A1 S = some r → Mp gRV (F45 16 a1 M) r) (hF46 : ∀ {a1 : Int32} {A1 : Int} {S : gM} {M : vm_M} {r : gM} (hR : Rel S M) (ha1 : a1.toInt = A1), G46 A1 S = some r → Mp gRV (F46 16 a1 M) r) (hF47 : ∀ {a1 : Int32} {A1 : Int} {S : gM} {M : vm_M} {r : gM} (hR : Rel S M) (ha1 : a1.toInt = A1), G47 A1 S = some r → Mp gRV (F47 16 a1 M) r) (hR : Rel S M) (t1 : x1.toInt = X1) (h : g47_j124 G45 G46 G47 X1 S = some r) : Mp gRV (f47_j124 F45 F46 F47 16 x1 M) r := by
  unfold g47_j124 at h
  unfold f47_j124
  obtain ⟨V9, e9, h⟩ := lt_so h
  refine k_gi hR (hR.obF (by decide) rfl) rfl e9 (fun v9 z9 => ?_)
  refine k_ite (c_eq z9 tI_264) h (fun c10 h => ?_) (fun c10 h => ?_)
  · exact g47_j144_ok hF45 hF46 hF47 hR t1 h
  · obtain ⟨V24, e24, h⟩ := lt_so h
    refine k_gi hR (hR.obF (by decide) rfl) rfl e24 (fun v24 z24 => ?_)
    refine k_ite (c_ne z24 tI_265) h (fun c25 h => ?_) (fun c25 h => ?_)
    · refine k_ob (hR.obF (by decide) rfl) ?_
      obtain ⟨p26, e26, h⟩ := bind_so h
      refine k_call (g32_ok hR e26) (fun M26 R26 => ?_)
      exact k_retV R26 h
    · exact g47_j144_ok hF45 hF46 hF47 hR t1 h
def g47_j71 (G45 : Int → gM → Option (gM)) (G46 : Int → gM → Option (gM)) (G47 : Int → gM → Option (gM)) (X1 : Int) (X2 : Int) (S : gM) : Option (gM) :=
  if X2 = (-1) then
    w_lt (gi S 16 13) fun V7 =>
    if ¬ V7 = 40 then
      g47_j124 G45 G46 G47 X1 S
    else
      if 8 ≤ X1 then
        g47_j124 G45 G46 G47 X1 S
      else
        (g33 S).bind fun p28 =>
        w_ckI (X1 + 1) fun V29 =>
        (G45 V29 p28).bind fun p30 =>
        (g37 41 p30).bind fun p31 =>
        some p31
  else
    (g44 2 X2 S).bind fun p32 =>
    (g33 p32).bind fun p33 =>
    some p33
theorem g47_j71_ok {F45 : Nat → Int32 → vm_M → Option (vm_M)} {F46 : Nat → Int32 → vm_M → Option (vm_M)} {F47 : Nat → Int32 → vm_M → Option (vm_M)} {G45 : Int → gM → Option (gM)} {G46 : Int → gM → Option (gM)} {G47 : Int → gM → Option (gM)} {x1 : Int32} {X1 : Int} {x2 : Int32} {X2 : Int} {S : gM} {M : vm_M} {r : gM} (hF45 : ∀ {a1 : Int32} {A1 : Int} {S : gM} {M : vm_M} {r : gM} (hR : Rel S M) (ha1 : a1.toInt = A1), G45 A1 S = some r → Mp gRV (F45 16 a1 M) r) (hF46 : ∀ {a1 : Int32} {A1 : Int} {S : gM} {M : vm_M} {r : gM} (hR : Rel S M) (ha1 : a1.toInt = A1), G46 A1 S = some r → Mp gRV (F46 16 a1 M) r) (hF47 : ∀ {a1 : Int32} {A1 : Int} {S : gM} {M : vm_M} {r : gM} (hR : Rel S M) (ha1 : a1.toInt = A1), G47 A1 S = some r → Mp gRV (F47 16 a1 M) r) (hR : Rel S M) (t1 : x1.toInt = X1) (t2 : x2.toInt = X2) (h : g47_j71 G45 G46 G47 X1 X2 S = some r) : Mp gRV (f47_j71 F45 F46 F47 16 x1 x2 M) r := by
  unfold g47_j71 at h
  unfold f47_j71
  refine k_ite (c_eq t2 tI_m1) h (fun c6 h => ?_) (fun c6 h => ?_)
  · obtain ⟨V7, e7, h⟩ := lt_so h
    refine k_gi hR (hR.obF (by decide) rfl) rfl e7 (fun v7 z7 => ?_)
    refine k_ite (c_ne z7 tI_40) h (fun c8 h => ?_) (fun c8 h => ?_)
    · exact g47_j124_ok hF45 hF46 hF47 hR t1 h
    · refine k_ite (c_le tI_8 t1) h (fun c27 h => ?_) (fun c27 h => ?_)
      · exact g47_j124_ok hF45 hF46 hF47 hR t1 h
      · refine k_ob (hR.obF (by decide) rfl) ?_
        obtain ⟨p28, e28, h⟩ := bind_so h
        refine k_call (g33_ok hR e28) (fun M28 R28 => ?_)
        obtain ⟨V29, e29, c29, h⟩ := ckI_so h
        refine k_ob (R28.obF (by decide) rfl) ?_
        obtain ⟨p30, e30, h⟩ := bind_so h
        refine k_call (hF45 R28 (t_add t1 tI_1 c29 e29) e30) (fun M30 R30 => ?_)
        refine k_ob (R30.obF (by decide) rfl) ?_
        obtain ⟨p31, e31, h⟩ := bind_so h
        refine k_call (g37_ok R30 tI_41 e31) (fun M31 R31 => ?_)
        exact k_retV R31 h
  · refine k_ob (hR.obF (by decide) rfl) ?_
    obtain ⟨p32, e32, h⟩ := bind_so h
    refine k_call (g44_ok hR tI_2 t2 e32) (fun M32 R32 => ?_)
    refine k_ob (R32.obF (by decide) rfl) ?_
    obtain ⟨p33, e33, h⟩ := bind_so h
    refine k_call (g33_ok R32 e33) (fun M33 R33 => ?_)
    exact k_retV R33 h
/-- PupilCoin$Reader.atom(I)V -/
def g47g (G45 : Int → gM → Option (gM)) (G46 : Int → gM → Option (gM)) (G47 : Int → gM → Option (gM)) (X1 : Int) (S : gM) : Option (gM) :=
  (g42 S).bind fun p1 =>
  w_lt (gi p1.2 16 13) fun V2 =>
  if ¬ V2 = 281 then
    w_lt (gi p1.2 16 13) fun V4 =>
    if V4 < 269 then
      g47_j71 G45 G46 G47 X1 p1.1 p1.2
    else
      w_lt (gi p1.2 16 13) fun V34 =>
      if 279 ≤ V34 then
        g47_j71 G45 G46 G47 X1 p1.1 p1.2
      else
        w_lt (gi p1.2 16 13) fun V36 =>
        w_ckI (V36 - 269) fun V37 =>
        (g44 1 V37 p1.2).bind fun p38 =>
        (g33 p38).bind fun p39 =>
        some p39
  else
    w_lt (gi p1.2 16 14) fun V40 =>
    (g44 0 V40 p1.2).bind fun p41 =>
    (g33 p41).bind fun p42 =>
    some p42
theorem g47g_ok {F45 : Nat → Int32 → vm_M → Option (vm_M)} {F46 : Nat → Int32 → vm_M → Option (vm_M)} {F47 : Nat → Int32 → vm_M → Option (vm_M)} {G45 : Int → gM → Option (gM)} {G46 : Int → gM → Option (gM)} {G47 : Int → gM → Option (gM)} {x1 : Int32} {X1 : Int} {S : gM} {M : vm_M} {r : gM} (hF45 : ∀ {a1 : Int32} {A1 : Int} {S : gM} {M : vm_M} {r : gM} (hR : Rel S M) (ha1 : a1.toInt = A1), G45 A1 S = some r → Mp gRV (F45 16 a1 M) r) (hF46 : ∀ {a1 : Int32} {A1 : Int} {S : gM} {M : vm_M} {r : gM} (hR : Rel S M) (ha1 : a1.toInt = A1), G46 A1 S = some r → Mp gRV (F46 16 a1 M) r) (hF47 : ∀ {a1 : Int32} {A1 : Int} {S : gM} {M : vm_M} {r : gM} (hR : Rel S M) (ha1 : a1.toInt = A1), G47 A1 S = some r → Mp gRV (F47 16 a1 M) r) (hR : Rel S M) (t1 : x1.toInt = X1) (h : g47g G45 G46 G47 X1 S = some r) : Mp gRV (f47g F45 F46 F47 16 x1 M) r := by
  unfold g47g at h
  unfold f47g
  refine k_ob (hR.obF (by decide) rfl) ?_
  obtain ⟨p1, e1, h⟩ := bind_so h
  refine k_call (g42_ok hR e1) (fun b1 R1 => ?_)
  obtain ⟨V2, e2, h⟩ := lt_so h
  refine k_gi R1.2 (R1.2.obF (by decide) rfl) rfl e2 (fun v2 z2 => ?_)
  refine k_ite (c_ne z2 tI_281) h (fun c3 h => ?_) (fun c3 h => ?_)
  · obtain ⟨V4, e4, h⟩ := lt_so h
    refine k_gi R1.2 (R1.2.obF (by decide) rfl) rfl e4 (fun v4 z4 => ?_)
    refine k_ite (c_lt z4 tI_269) h (fun c5 h => ?_) (fun c5 h => ?_)
    · exact g47_j71_ok hF45 hF46 hF47 R1.2 t1 R1.1 h
    · obtain ⟨V34, e34, h⟩ := lt_so h
      refine k_gi R1.2 (R1.2.obF (by decide) rfl) rfl e34 (fun v34 z34 => ?_)
      refine k_ite (c_le tI_279 z34) h (fun c35 h => ?_) (fun c35 h => ?_)
      · exact g47_j71_ok hF45 hF46 hF47 R1.2 t1 R1.1 h
      · obtain ⟨V36, e36, h⟩ := lt_so h
        refine k_gi R1.2 (R1.2.obF (by decide) rfl) rfl e36 (fun v36 z36 => ?_)
        obtain ⟨V37, e37, c37, h⟩ := ckI_so h
        refine k_ob (R1.2.obF (by decide) rfl) ?_
        obtain ⟨p38, e38, h⟩ := bind_so h
        refine k_call (g44_ok R1.2 tI_1 (t_sub z36 tI_269 c37 e37) e38) (fun M38 R38 => ?_)
        refine k_ob (R38.obF (by decide) rfl) ?_
        obtain ⟨p39, e39, h⟩ := bind_so h
        refine k_call (g33_ok R38 e39) (fun M39 R39 => ?_)
        exact k_retV R39 h
  · obtain ⟨V40, e40, h⟩ := lt_so h
    refine k_gi R1.2 (R1.2.obF (by decide) rfl) rfl e40 (fun v40 z40 => ?_)
    refine k_ob (R1.2.obF (by decide) rfl) ?_
    obtain ⟨p41, e41, h⟩ := bind_so h
    refine k_call (g44_ok R1.2 tI_0 z40 e41) (fun M41 R41 => ?_)
    refine k_ob (R41.obF (by decide) rfl) ?_
    obtain ⟨p42, e42, h⟩ := bind_so h
    refine k_call (g33_ok R41 e42) (fun M42 R42 => ?_)
    exact k_retV R42 h
/-- the methods that call each other, to a depth -/
def gc45 : Nat → (Int → gM → Option (gM)) × (Int → gM → Option (gM)) × (Int → gM → Option (gM))
  | 0 => (fun _ _ => none, fun _ _ => none, fun _ _ => none)
  | n + 1 => (g45g (gc45 n).1 (gc45 n).2.1 (gc45 n).2.2, g46g (gc45 n).1 (gc45 n).2.1 (gc45 n).2.2, g47g (gc45 n).1 (gc45 n).2.1 (gc45 n).2.2)
def g45 : Int → gM → Option (gM) := (gc45 60).1
def g46 : Int → gM → Option (gM) := (gc45 60).2.1
def g47 : Int → gM → Option (gM) := (gc45 60).2.2
theorem gc45_ok : ∀ (n : Nat), (∀ {a1 : Int32} {A1 : Int} {S : gM} {M : vm_M} {r : gM} (hR : Rel S M) (ha1 : a1.toInt = A1), (gc45 n).1 A1 S = some r → Mp gRV ((sc45 n).1 16 a1 M) r) ∧ (∀ {a1 : Int32} {A1 : Int} {S : gM} {M : vm_M} {r : gM} (hR : Rel S M) (ha1 : a1.toInt = A1), (gc45 n).2.1 A1 S = some r → Mp gRV ((sc45 n).2.1 16 a1 M) r) ∧ (∀ {a1 : Int32} {A1 : Int} {S : gM} {M : vm_M} {r : gM} (hR : Rel S M) (ha1 : a1.toInt = A1), (gc45 n).2.2 A1 S = some r → Mp gRV ((sc45 n).2.2 16 a1 M) r) := by
  intro n
  induction n with
  | zero =>
    refine ⟨?_, ?_, ?_⟩ <;> (intros; rename_i h; cases h)
  | succ n ih =>
    obtain ⟨h45, h46, h47⟩ := ih
    exact ⟨g45g_ok h45 h46 h47, g46g_ok h45 h46 h47, g47g_ok h45 h46 h47⟩
theorem g45_ok : ∀ {a1 : Int32} {A1 : Int} {S : gM} {M : vm_M} {r : gM} (hR : Rel S M) (ha1 : a1.toInt = A1), g45 A1 S = some r → Mp gRV (f45 16 a1 M) r := (gc45_ok 60).1
theorem g46_ok : ∀ {a1 : Int32} {A1 : Int} {S : gM} {M : vm_M} {r : gM} (hR : Rel S M) (ha1 : a1.toInt = A1), g46 A1 S = some r → Mp gRV (f46 16 a1 M) r := (gc45_ok 60).2.1
theorem g47_ok : ∀ {a1 : Int32} {A1 : Int} {S : gM} {M : vm_M} {r : gM} (hR : Rel S M) (ha1 : a1.toInt = A1), g47 A1 S = some r → Mp gRV (f47 16 a1 M) r := (gc45_ok 60).2.2
