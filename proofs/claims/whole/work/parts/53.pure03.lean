/-! the methods over Ints, by program (wip/gen_pure.py) -/
/-- PupilCoinModel.takes(J)Z -/
def g138 (X1 : Int) (S : gM) : Option (Int × gM) :=
  (g137 S).bind fun p1 =>
  if p1.1 = X1 then
    w_lt (gi p1.2 55 42) fun V3 =>
    w_lt (wi p1.2 55 21 V3) fun S4 =>
    some (1, S4)
  else
    some (0, p1.2)
theorem g138_ok {x1 : Int64} {X1 : Int} {S : gM} {M : vm_M} {r : Int × gM} (hR : Rel S M) (t1 : x1.toInt = X1) (h : g138 X1 S = some r) : Mp gRI (f138 55 x1 M) r := by
  unfold g138 at h
  unfold f138
  refine k_ob (hR.obF (by decide) rfl) ?_
  obtain ⟨p1, e1, h⟩ := bind_so h
  refine k_call (g137_ok hR e1) (fun b1 R1 => ?_)
  refine k_ite (cJ_eq R1.1 t1) h (fun c2 h => ?_) (fun c2 h => ?_)
  · obtain ⟨V3, e3, h⟩ := lt_so h
    refine k_gi R1.2 (R1.2.obF (by decide) rfl) rfl e3 (fun v3 z3 => ?_)
    obtain ⟨S4, e4, h⟩ := lt_so h
    refine k_pi R1.2 (R1.2.obF (by decide) rfl) rfl z3 e4 (fun M4 R4 => ?_)
    exact k_retZ R4 tI_1 (by decide) h
  · exact k_retZ R1.2 tI_0 (by decide) h
/-- PupilCoinModel.takesSign(I)Z -/
def g139 (X1 : Int) (S : gM) : Option (Int × gM) :=
  (g136 S).bind fun p1 =>
  w_lt (gi p1 55 21) fun V2 =>
  w_lt (gi p1 55 20) fun V3 =>
  if V2 = V3 then
    some (0, p1)
  else
    w_lt (gi p1 55 21) fun V5 =>
    w_chk ((0 : Int) ≤ V5 ∧ V5 < 700) <|
    w_lt (gi p1 84 V5) fun V7 =>
    if V7 = X1 then
      w_lt (gi p1 55 21) fun V9 =>
      w_ckI (V9 + 1) fun V10 =>
      w_lt (wi p1 55 21 V10) fun S11 =>
      some (1, S11)
    else
      some (0, p1)
theorem g139_ok {x1 : Int32} {X1 : Int} {S : gM} {M : vm_M} {r : Int × gM} (hR : Rel S M) (t1 : x1.toInt = X1) (h : g139 X1 S = some r) : Mp gRI (f139 55 x1 M) r := by
  unfold g139 at h
  unfold f139
  refine k_ob (hR.obF (by decide) rfl) ?_
  obtain ⟨p1, e1, h⟩ := bind_so h
  refine k_call (g136_ok hR e1) (fun M1 R1 => ?_)
  obtain ⟨V2, e2, h⟩ := lt_so h
  refine k_gi R1 (R1.obF (by decide) rfl) rfl e2 (fun v2 z2 => ?_)
  obtain ⟨V3, e3, h⟩ := lt_so h
  refine k_gi R1 (R1.obF (by decide) rfl) rfl e3 (fun v3 z3 => ?_)
  refine k_ite (c_eq z2 z3) h (fun c4 h => ?_) (fun c4 h => ?_)
  · exact k_retZ R1 tI_0 (by decide) h
  · refine k_grF 85 R1 (R1.obF (by decide) rfl) rfl ?_
    obtain ⟨V5, e5, h⟩ := lt_so h
    refine k_gi R1 (R1.obF (by decide) rfl) rfl e5 (fun v5 z5 => ?_)
    refine k_some ?_
    obtain ⟨c6, h⟩ := chk_so h
    obtain ⟨V7, e7, h⟩ := lt_so h
    refine k_ai R1 (R1.lnF (by decide) rfl) rfl z5 c6 e7 (fun v7 z7 => ?_)
    refine k_ite (c_eq z7 t1) h (fun c8 h => ?_) (fun c8 h => ?_)
    · obtain ⟨V9, e9, h⟩ := lt_so h
      refine k_gi R1 (R1.obF (by decide) rfl) rfl e9 (fun v9 z9 => ?_)
      obtain ⟨V10, e10, c10, h⟩ := ckI_so h
      obtain ⟨S11, e11, h⟩ := lt_so h
      refine k_pi R1 (R1.obF (by decide) rfl) rfl (t_add z9 tI_1 c10 e10) e11 (fun M11 R11 => ?_)
      exact k_retZ R11 tI_1 (by decide) h
    · exact k_retZ R1 tI_0 (by decide) h
def g140_l14 (X1 : Int) (K82 : Int → gM → Option (Int × gM)) : Nat → Int → gM → Option (Int × gM)
  | 0 => fun _ _ => none
  | n + 1 => fun X2 S =>
    w_lt (gi S 55 20) fun V4 =>
    if V4 ≤ X2 then
      K82 X2 S
    else
      w_chk ((0 : Int) ≤ X2 ∧ X2 < 700) <|
      w_lt (gi S 84 X2) fun V7 =>
      if V7 < 48 then
        K82 X2 S
      else
        w_chk ((0 : Int) ≤ X2 ∧ X2 < 700) <|
        w_lt (gi S 84 X2) fun V10 =>
        if 57 < V10 then
          K82 X2 S
        else
          w_lt (gi S 55 21) fun V12 =>
          w_ckI (X2 - V12) fun V13 =>
          if 7 ≤ V13 then
            w_ckI (X2 + 1) fun V15 =>
            g140_l14 X1 K82 n V15 S
          else
            w_lt (gi S 55 43) fun V16 =>
            w_ckI (10 * V16) fun V17 =>
            w_chk ((0 : Int) ≤ X2 ∧ X2 < 700) <|
            w_lt (gi S 84 X2) fun V19 =>
            w_ckI (V17 + V19) fun V20 =>
            w_ckI (V20 - 48) fun V21 =>
            w_lt (wi S 55 43 V21) fun S22 =>
            w_ckI (X2 + 1) fun V23 =>
            g140_l14 X1 K82 n V23 S22
theorem g140_l14_ok {x1 : Int32} {X1 : Int} {k82 : Int32 → vm_M → Option (Int32 × vm_M)} {K82 : Int → gM → Option (Int × gM)} {r : Int × gM} (hk82 : ∀ (y2 : Int32) (Y2 : Int) (S : gM) (M : vm_M), Rel S M → y2.toInt = Y2 → K82 Y2 S = some r → Mp gRI (k82 y2 M) r) (t1 : x1.toInt = X1) : ∀ (n : Nat) (x2 : Int32) (X2 : Int) (S : gM) (M : vm_M), Rel S M → x2.toInt = X2 → g140_l14 X1 K82 n X2 S = some r → Mp gRI (f140_l14 55 x1 k82 n x2 M) r := by
  intro n
  induction n with
  | zero =>
    intro x2 X2 S M hR t2 h
    cases h
  | succ n ih =>
    intro x2 X2 S M hR t2 h
    dsimp only [g140_l14] at h
    dsimp only [f140_l14]
    obtain ⟨V4, e4, h⟩ := lt_so h
    refine k_gi hR (hR.obF (by decide) rfl) rfl e4 (fun v4 z4 => ?_)
    refine k_ite (c_le z4 t2) h (fun c5 h => ?_) (fun c5 h => ?_)
    · exact hk82 _ _ _ _ hR t2 h
    · refine k_grF 85 hR (hR.obF (by decide) rfl) rfl ?_
      refine k_some ?_
      obtain ⟨c6, h⟩ := chk_so h
      obtain ⟨V7, e7, h⟩ := lt_so h
      refine k_ai hR (hR.lnF (by decide) rfl) rfl t2 c6 e7 (fun v7 z7 => ?_)
      refine k_ite (c_lt z7 tI_48) h (fun c8 h => ?_) (fun c8 h => ?_)
      · exact hk82 _ _ _ _ hR t2 h
      · refine k_grF 85 hR (hR.obF (by decide) rfl) rfl ?_
        refine k_some ?_
        obtain ⟨c9, h⟩ := chk_so h
        obtain ⟨V10, e10, h⟩ := lt_so h
        refine k_ai hR (hR.lnF (by decide) rfl) rfl t2 c9 e10 (fun v10 z10 => ?_)
        refine k_ite (c_lt tI_57 z10) h (fun c11 h => ?_) (fun c11 h => ?_)
        · exact hk82 _ _ _ _ hR t2 h
        · obtain ⟨V12, e12, h⟩ := lt_so h
          refine k_gi hR (hR.obF (by decide) rfl) rfl e12 (fun v12 z12 => ?_)
          obtain ⟨V13, e13, c13, h⟩ := ckI_so h
          refine k_ite (c_le tI_7 (t_sub t2 z12 c13 e13)) h (fun c14 h => ?_) (fun c14 h => ?_)
          · obtain ⟨V15, e15, c15, h⟩ := ckI_so h
            exact ih _ _ _ _ hR (t_add t2 tI_1 c15 e15) h
          · obtain ⟨V16, e16, h⟩ := lt_so h
            refine k_gi hR (hR.obF (by decide) rfl) rfl e16 (fun v16 z16 => ?_)
            obtain ⟨V17, e17, c17, h⟩ := ckI_so h
            refine k_grF 85 hR (hR.obF (by decide) rfl) rfl ?_
            refine k_some ?_
            obtain ⟨c18, h⟩ := chk_so h
            obtain ⟨V19, e19, h⟩ := lt_so h
            refine k_ai hR (hR.lnF (by decide) rfl) rfl t2 c18 e19 (fun v19 z19 => ?_)
            obtain ⟨V20, e20, c20, h⟩ := ckI_so h
            obtain ⟨V21, e21, c21, h⟩ := ckI_so h
            obtain ⟨S22, e22, h⟩ := lt_so h
            refine k_pi hR (hR.obF (by decide) rfl) rfl (t_sub (t_add (t_mul tI_10 z16 c17 e17) z19 c20 e20) tI_48 c21 e21) e22 (fun M22 R22 => ?_)
            obtain ⟨V23, e23, c23, h⟩ := ckI_so h
            exact ih _ _ _ _ R22 (t_add t2 tI_1 c23 e23) h
def g140_j82 (X1 : Int) (X2 : Int) (S : gM) : Option (Int × gM) :=
  w_lt (gi S 55 21) fun V26 =>
  if X2 = V26 then
    some (0, S)
  else
    w_lt (gi S 55 21) fun V28 =>
    w_ckI (X2 - V28) fun V29 =>
    if 7 < V29 then
      some (0, S)
    else
      w_lt (gi S 55 43) fun V31 =>
      if V31 ≤ X1 then
        w_lt (wi S 55 21 X2) fun S33 =>
        some (1, S33)
      else
        some (0, S)
theorem g140_j82_ok {x1 : Int32} {X1 : Int} {x2 : Int32} {X2 : Int} {S : gM} {M : vm_M} {r : Int × gM} (hR : Rel S M) (t1 : x1.toInt = X1) (t2 : x2.toInt = X2) (h : g140_j82 X1 X2 S = some r) : Mp gRI (f140_j82 55 x1 x2 M) r := by
  unfold g140_j82 at h
  unfold f140_j82
  obtain ⟨V26, e26, h⟩ := lt_so h
  refine k_gi hR (hR.obF (by decide) rfl) rfl e26 (fun v26 z26 => ?_)
  refine k_ite (c_eq t2 z26) h (fun c27 h => ?_) (fun c27 h => ?_)
  · exact k_retZ hR tI_0 (by decide) h
  · obtain ⟨V28, e28, h⟩ := lt_so h
    refine k_gi hR (hR.obF (by decide) rfl) rfl e28 (fun v28 z28 => ?_)
    obtain ⟨V29, e29, c29, h⟩ := ckI_so h
    refine k_ite (c_lt tI_7 (t_sub t2 z28 c29 e29)) h (fun c30 h => ?_) (fun c30 h => ?_)
    · exact k_retZ hR tI_0 (by decide) h
    · obtain ⟨V31, e31, h⟩ := lt_so h
      refine k_gi hR (hR.obF (by decide) rfl) rfl e31 (fun v31 z31 => ?_)
      refine k_ite (c_le z31 t1) h (fun c32 h => ?_) (fun c32 h => ?_)
      · obtain ⟨S33, e33, h⟩ := lt_so h
        refine k_pi hR (hR.obF (by decide) rfl) rfl t2 e33 (fun M33 R33 => ?_)
        exact k_retZ R33 tI_1 (by decide) h
      · exact k_retZ hR tI_0 (by decide) h
/-- PupilCoinModel.takesNumber(I)Z -/
def g140 (X1 : Int) (S : gM) : Option (Int × gM) :=
  (g136 S).bind fun p1 =>
  w_lt (gi p1 55 21) fun V2 =>
  w_lt (wi p1 55 43 0) fun S3 =>
  g140_l14 X1
    (fun Y24 S25 =>
      g140_j82 X1 Y24 S25)
    100000 V2 S3
theorem g140_ok {x1 : Int32} {X1 : Int} {S : gM} {M : vm_M} {r : Int × gM} (hR : Rel S M) (t1 : x1.toInt = X1) (h : g140 X1 S = some r) : Mp gRI (f140 55 x1 M) r := by
  unfold g140 at h
  unfold f140
  refine k_ob (hR.obF (by decide) rfl) ?_
  obtain ⟨p1, e1, h⟩ := bind_so h
  refine k_call (g136_ok hR e1) (fun M1 R1 => ?_)
  obtain ⟨V2, e2, h⟩ := lt_so h
  refine k_gi R1 (R1.obF (by decide) rfl) rfl e2 (fun v2 z2 => ?_)
  obtain ⟨S3, e3, h⟩ := lt_so h
  refine k_pi R1 (R1.obF (by decide) rfl) rfl tI_0 e3 (fun M3 R3 => ?_)
  refine g140_l14_ok ?_ t1 100000 _ _ _ _ R3 z2 h
  · intro y24 Y24 S25 M25 R25 u24
    intro h
    exact g140_j82_ok R25 t1 u24 h
/-- PupilCoinModel.asked(J)I -/
def g141 (X0 : Int) (S : gM) : Option (Int × gM) :=
  if ¬ X0 = 439855772532 then
    if ¬ X0 = 465726563698 then
      if ¬ X0 = 504397587826 then
        if ¬ X0 = 469852318835 then
          if ¬ X0 = 32493203083583852 then
            if ¬ X0 = 448377480307 then
              if ¬ X0 = 1852138852 then
                if ¬ X0 = 6709618 then
                  if ¬ X0 = 1818325876 then
                    if ¬ X0 = 2002874980 then
                      some ((-1), S)
                    else
                      some (9, S)
                  else
                    some (8, S)
                else
                  some (7, S)
              else
                some (6, S)
            else
              some (5, S)
          else
            some (4, S)
        else
          some (3, S)
      else
        some (2, S)
    else
      some (1, S)
  else
    some (0, S)
theorem g141_ok {x0 : Int64} {X0 : Int} {S : gM} {M : vm_M} {r : Int × gM} (hR : Rel S M) (t0 : x0.toInt = X0) (h : g141 X0 S = some r) : Mp gRI (f141 x0 M) r := by
  unfold g141 at h
  unfold f141
  refine k_ite (cJ_ne t0 tJ_439855772532) h (fun c1 h => ?_) (fun c1 h => ?_)
  · refine k_ite (cJ_ne t0 tJ_465726563698) h (fun c2 h => ?_) (fun c2 h => ?_)
    · refine k_ite (cJ_ne t0 tJ_504397587826) h (fun c3 h => ?_) (fun c3 h => ?_)
      · refine k_ite (cJ_ne t0 tJ_469852318835) h (fun c4 h => ?_) (fun c4 h => ?_)
        · refine k_ite (cJ_ne t0 tJ_32493203083583852) h (fun c5 h => ?_) (fun c5 h => ?_)
          · refine k_ite (cJ_ne t0 tJ_448377480307) h (fun c6 h => ?_) (fun c6 h => ?_)
            · refine k_ite (cJ_ne t0 tJ_1852138852) h (fun c7 h => ?_) (fun c7 h => ?_)
              · refine k_ite (cJ_ne t0 tJ_6709618) h (fun c8 h => ?_) (fun c8 h => ?_)
                · refine k_ite (cJ_ne t0 tJ_1818325876) h (fun c9 h => ?_) (fun c9 h => ?_)
                  · refine k_ite (cJ_ne t0 tJ_2002874980) h (fun c10 h => ?_) (fun c10 h => ?_)
                    · exact k_retI hR tI_m1 h
                    · exact k_retI hR tI_9 h
                  · exact k_retI hR tI_8 h
                · exact k_retI hR tI_7 h
              · exact k_retI hR tI_6 h
            · exact k_retI hR tI_5 h
          · exact k_retI hR tI_4 h
        · exact k_retI hR tI_3 h
      · exact k_retI hR tI_2 h
    · exact k_retI hR tI_1 h
  · exact k_retI hR tI_0 h
/-- PupilCoinModel.isKept(J)Z -/
def g142 (X0 : Int) (S : gM) : Option (Int × gM) :=
  if X0 = 1818848869 then
    some (1, S)
  else
    if X0 = 26982 then
      some (1, S)
    else
      if X0 = 439905906546 then
        some (1, S)
      else
        if X0 = 6513008 then
          some (1, S)
        else
          if X0 = 500086104428 then
            some (1, S)
          else
            if X0 = 1836021349 then
              some (1, S)
            else
              if X0 = 478660552050 then
                some (1, S)
              else
                if X0 = 495672455781 then
                  some (1, S)
                else
                  if X0 = 7170414 then
                    some (1, S)
                  else
                    if X0 = 7168376 then
                      some (1, S)
                    else
                      if X0 = 28530 then
                        some (1, S)
                      else
                        if X0 = 6385252 then
                          some (1, S)
                        else
                          if X0 = 7237492 then
                            some (1, S)
                          else
                            (g141 X0 S).bind fun p14 =>
                            if p14.1 = (-1) then
                              some (0, p14.2)
                            else
                              some (1, p14.2)
theorem g142_ok {x0 : Int64} {X0 : Int} {S : gM} {M : vm_M} {r : Int × gM} (hR : Rel S M) (t0 : x0.toInt = X0) (h : g142 X0 S = some r) : Mp gRI (f142 x0 M) r := by
  unfold g142 at h
  unfold f142
  refine k_ite (cJ_eq t0 tJ_1818848869) h (fun c1 h => ?_) (fun c1 h => ?_)
  · exact k_retZ hR tI_1 (by decide) h
  · refine k_ite (cJ_eq t0 tJ_26982) h (fun c2 h => ?_) (fun c2 h => ?_)
    · exact k_retZ hR tI_1 (by decide) h
    · refine k_ite (cJ_eq t0 tJ_439905906546) h (fun c3 h => ?_) (fun c3 h => ?_)
      · exact k_retZ hR tI_1 (by decide) h
      · refine k_ite (cJ_eq t0 tJ_6513008) h (fun c4 h => ?_) (fun c4 h => ?_)
        · exact k_retZ hR tI_1 (by decide) h
        · refine k_ite (cJ_eq t0 tJ_500086104428) h (fun c5 h => ?_) (fun c5 h => ?_)
          · exact k_retZ hR tI_1 (by decide) h
          · refine k_ite (cJ_eq t0 tJ_1836021349) h (fun c6 h => ?_) (fun c6 h => ?_)
            · exact k_retZ hR tI_1 (by decide) h
            · refine k_ite (cJ_eq t0 tJ_478660552050) h (fun c7 h => ?_) (fun c7 h => ?_)
              · exact k_retZ hR tI_1 (by decide) h
              · refine k_ite (cJ_eq t0 tJ_495672455781) h (fun c8 h => ?_) (fun c8 h => ?_)
                · exact k_retZ hR tI_1 (by decide) h
                · refine k_ite (cJ_eq t0 tJ_7170414) h (fun c9 h => ?_) (fun c9 h => ?_)
                  · exact k_retZ hR tI_1 (by decide) h
                  · refine k_ite (cJ_eq t0 tJ_7168376) h (fun c10 h => ?_) (fun c10 h => ?_)
                    · exact k_retZ hR tI_1 (by decide) h
                    · refine k_ite (cJ_eq t0 tJ_28530) h (fun c11 h => ?_) (fun c11 h => ?_)
                      · exact k_retZ hR tI_1 (by decide) h
                      · refine k_ite (cJ_eq t0 tJ_6385252) h (fun c12 h => ?_) (fun c12 h => ?_)
                        · exact k_retZ hR tI_1 (by decide) h
                        · refine k_ite (cJ_eq t0 tJ_7237492) h (fun c13 h => ?_) (fun c13 h => ?_)
                          · exact k_retZ hR tI_1 (by decide) h
                          · obtain ⟨p14, e14, h⟩ := bind_so h
                            refine k_call (g141_ok hR t0 e14) (fun b14 R14 => ?_)
                            refine k_ite (c_eq R14.1 tI_m1) h (fun c15 h => ?_) (fun c15 h => ?_)
                            · exact k_retZ R14.2 tI_0 (by decide) h
                            · exact k_retZ R14.2 tI_1 (by decide) h
def g143_l2 (X1 : Int) : Nat → Int → gM → Option (Int × gM)
  | 0 => fun _ _ => none
  | n + 1 => fun X3 S =>
    w_lt (gi S 55 23) fun V1 =>
    if V1 ≤ X3 then
      some ((-1), S)
    else
      if X1 = 0 then
        w_ckI (X3 + 1) fun V4 =>
        g143_l2 X1 n V4 S
      else
        w_chk ((0 : Int) ≤ X3 ∧ X3 < 30) <|
        w_lt (gl S 80 X3) fun V6 =>
        if ¬ V6 = X1 then
          w_ckI (X3 + 1) fun V8 =>
          g143_l2 X1 n V8 S
        else
          some (X3, S)
theorem g143_l2_ok {x1 : Int64} {X1 : Int} {r : Int × gM} (t1 : x1.toInt = X1) : ∀ (n : Nat) (x3 : Int32) (X3 : Int) (S : gM) (M : vm_M), Rel S M → x3.toInt = X3 → g143_l2 X1 n X3 S = some r → Mp gRI (f143_l2 55 x1 n x3 M) r := by
  intro n
  induction n with
  | zero =>
    intro x3 X3 S M hR t3 h
    cases h
  | succ n ih =>
    intro x3 X3 S M hR t3 h
    dsimp only [g143_l2] at h
    dsimp only [f143_l2]
    obtain ⟨V1, e1, h⟩ := lt_so h
    refine k_gi hR (hR.obF (by decide) rfl) rfl e1 (fun v1 z1 => ?_)
    refine k_ite (c_le z1 t3) h (fun c2 h => ?_) (fun c2 h => ?_)
    · exact k_retI hR tI_m1 h
    · refine k_ite (cJ_eq t1 tJ_0) h (fun c3 h => ?_) (fun c3 h => ?_)
      · obtain ⟨V4, e4, c4, h⟩ := ckI_so h
        exact ih _ _ _ _ hR (t_add t3 tI_1 c4 e4) h
      · refine k_grF 81 hR (hR.obF (by decide) rfl) rfl ?_
        refine k_some ?_
        obtain ⟨c5, h⟩ := chk_so h
        obtain ⟨V6, e6, h⟩ := lt_so h
        refine k_al hR (hR.lnF (by decide) rfl) rfl t3 c5 e6 (fun v6 z6 => ?_)
        refine k_ite (cJ_ne z6 t1) h (fun c7 h => ?_) (fun c7 h => ?_)
        · obtain ⟨V8, e8, c8, h⟩ := ckI_so h
          exact ih _ _ _ _ hR (t_add t3 tI_1 c8 e8) h
        · exact k_retI hR t3 h
/-- PupilCoinModel.named(J)I -/
def g143 (X1 : Int) (S : gM) : Option (Int × gM) :=
  g143_l2 X1
  
    100000 0 S
theorem g143_ok {x1 : Int64} {X1 : Int} {S : gM} {M : vm_M} {r : Int × gM} (hR : Rel S M) (t1 : x1.toInt = X1) (h : g143 X1 S = some r) : Mp gRI (f143 55 x1 M) r := by
  unfold g143 at h
  unfold f143
  refine g143_l2_ok t1 100000 _ _ _ _ hR tI_0 h
/-- PupilCoinModel.puts(II)V -/
def g144 (X1 : Int) (X2 : Int) (S : gM) : Option (gM) :=
  w_lt (gi S 55 24) fun V1 =>
  w_chk ((0 : Int) ≤ V1 ∧ V1 < 15000) <|
  w_lt (wi S 78 V1 X1) fun S3 =>
  w_lt (gi S3 55 24) fun V4 =>
  w_chk ((0 : Int) ≤ V4 ∧ V4 < 15000) <|
  w_lt (wi S3 79 V4 X2) fun S6 =>
  w_lt (gi S6 55 24) fun V7 =>
  w_ckI (V7 + 1) fun V8 =>
  w_lt (wi S6 55 24 V8) fun S9 =>
  some S9
theorem g144_ok {x1 : Int32} {X1 : Int} {x2 : Int32} {X2 : Int} {S : gM} {M : vm_M} {r : gM} (hR : Rel S M) (t1 : x1.toInt = X1) (t2 : x2.toInt = X2) (h : g144 X1 X2 S = some r) : Mp gRV (f144 55 x1 x2 M) r := by
  unfold g144 at h
  unfold f144
  refine k_grF 79 hR (hR.obF (by decide) rfl) rfl ?_
  obtain ⟨V1, e1, h⟩ := lt_so h
  refine k_gi hR (hR.obF (by decide) rfl) rfl e1 (fun v1 z1 => ?_)
  refine k_some ?_
  obtain ⟨c2, h⟩ := chk_so h
  obtain ⟨S3, e3, h⟩ := lt_so h
  refine k_si hR (hR.lnF (by decide) rfl) rfl z1 c2 t1 e3 (fun M3 R3 => ?_)
  refine k_grF 80 R3 (R3.obF (by decide) rfl) rfl ?_
  obtain ⟨V4, e4, h⟩ := lt_so h
  refine k_gi R3 (R3.obF (by decide) rfl) rfl e4 (fun v4 z4 => ?_)
  refine k_some ?_
  obtain ⟨c5, h⟩ := chk_so h
  obtain ⟨S6, e6, h⟩ := lt_so h
  refine k_si R3 (R3.lnF (by decide) rfl) rfl z4 c5 t2 e6 (fun M6 R6 => ?_)
  obtain ⟨V7, e7, h⟩ := lt_so h
  refine k_gi R6 (R6.obF (by decide) rfl) rfl e7 (fun v7 z7 => ?_)
  obtain ⟨V8, e8, c8, h⟩ := ckI_so h
  obtain ⟨S9, e9, h⟩ := lt_so h
  refine k_pi R6 (R6.obF (by decide) rfl) rfl (t_add z7 tI_1 c8 e8) e9 (fun M9 R9 => ?_)
  exact k_retV R9 h
/-- PupilCoinModel.opens()Z -/
def g145 (S : gM) : Option (Int × gM) :=
  w_lt (gi S 55 22) fun V1 =>
  if ¬ V1 = 8 then
    w_lt (gi S 55 22) fun V3 =>
    w_ckI (V3 + 1) fun V4 =>
    w_lt (wi S 55 22 V4) fun S5 =>
    some (1, S5)
  else
    some (0, S)
theorem g145_ok {S : gM} {M : vm_M} {r : Int × gM} (hR : Rel S M) (h : g145 S = some r) : Mp gRI (f145 55 M) r := by
  unfold g145 at h
  unfold f145
  obtain ⟨V1, e1, h⟩ := lt_so h
  refine k_gi hR (hR.obF (by decide) rfl) rfl e1 (fun v1 z1 => ?_)
  refine k_ite (c_ne z1 tI_8) h (fun c2 h => ?_) (fun c2 h => ?_)
  · obtain ⟨V3, e3, h⟩ := lt_so h
    refine k_gi hR (hR.obF (by decide) rfl) rfl e3 (fun v3 z3 => ?_)
    obtain ⟨V4, e4, c4, h⟩ := ckI_so h
    obtain ⟨S5, e5, h⟩ := lt_so h
    refine k_pi hR (hR.obF (by decide) rfl) rfl (t_add z3 tI_1 c4 e4) e5 (fun M5 R5 => ?_)
    exact k_retZ R5 tI_1 (by decide) h
  · exact k_retZ hR tI_0 (by decide) h
def g146_j120 (G146 : gM → Option (Int × gM)) (G147 : gM → Option (Int × gM)) (G148 : gM → Option (Int × gM)) (X1 : Int) (S : gM) : Option (Int × gM) :=
  (g145 S).bind fun p9 =>
  if ¬ p9.1 = 0 then
    w_lt (gi p9.2 55 42) fun V11 =>
    w_lt (wi p9.2 55 21 V11) fun S12 =>
    (g139 40 S12).bind fun p13 =>
    if p13.1 = 0 then
      some (0, p13.2)
    else
      (G148 p13.2).bind fun p15 =>
      if p15.1 = 0 then
        some (0, p15.2)
      else
        (g139 44 p15.2).bind fun p17 =>
        if p17.1 = 0 then
          some (0, p17.2)
        else
          (G148 p17.2).bind fun p19 =>
          if p19.1 = 0 then
            some (0, p19.2)
          else
            (g139 41 p19.2).bind fun p21 =>
            if ¬ p21.1 = 0 then
              w_lt (gi p21.2 55 22) fun V23 =>
              w_ckI (V23 - 1) fun V24 =>
              w_lt (wi p21.2 55 22 V24) fun S25 =>
              if ¬ X1 = 7170414 then
                (g144 8 0 S25).bind fun p27 =>
                some (1, p27)
              else
                (g144 7 0 S25).bind fun p28 =>
                some (1, p28)
            else
              some (0, p21.2)
  else
    some (0, p9.2)
theorem g146_j120_ok {F146 : Nat → vm_M → Option (Int32 × vm_M)} {F147 : Nat → vm_M → Option (Int32 × vm_M)} {F148 : Nat → vm_M → Option (Int32 × vm_M)} {G146 : gM → Option (Int × gM)} {G147 : gM → Option (Int × gM)} {G148 : gM → Option (Int × gM)} {x1 : Int64} {X1 : Int} {S : gM} {M : vm_M} {r : Int × gM} (hF146 : ∀ {S : gM} {M : vm_M} {r : Int × gM} (hR : Rel S M), G146 S = some r → Mp gRI (F146 55 M) r) (hF147 : ∀ {S : gM} {M : vm_M} {r : Int × gM} (hR : Rel S M), G147 S = some r → Mp gRI (F147 55 M) r) (hF148 : ∀ {S : gM} {M : vm_M} {r : Int × gM} (hR : Rel S M), G148 S = some r → Mp gRI (F148 55 M) r) (hR : Rel S M) (t1 : x1.toInt = X1) (h : g146_j120 G146 G147 G148 X1 S = some r) : Mp gRI (f146_j120 F146 F147 F148 55 x1 M) r := by
  unfold g146_j120 at h
  unfold f146_j120
  refine k_ob (hR.obF (by decide) rfl) ?_
  obtain ⟨p9, e9, h⟩ := bind_so h
  refine k_call (g145_ok hR e9) (fun b9 R9 => ?_)
  refine k_ite (c_ne R9.1 tI_0) h (fun c10 h => ?_) (fun c10 h => ?_)
  · obtain ⟨V11, e11, h⟩ := lt_so h
    refine k_gi R9.2 (R9.2.obF (by decide) rfl) rfl e11 (fun v11 z11 => ?_)
    obtain ⟨S12, e12, h⟩ := lt_so h
    refine k_pi R9.2 (R9.2.obF (by decide) rfl) rfl z11 e12 (fun M12 R12 => ?_)
    refine k_ob (R12.obF (by decide) rfl) ?_
    obtain ⟨p13, e13, h⟩ := bind_so h
    refine k_call (g139_ok R12 tI_40 e13) (fun b13 R13 => ?_)
    refine k_ite (c_eq R13.1 tI_0) h (fun c14 h => ?_) (fun c14 h => ?_)
    · exact k_retZ R13.2 tI_0 (by decide) h
    · refine k_ob (R13.2.obF (by decide) rfl) ?_
      obtain ⟨p15, e15, h⟩ := bind_so h
      refine k_call (hF148 R13.2 e15) (fun b15 R15 => ?_)
      refine k_ite (c_eq R15.1 tI_0) h (fun c16 h => ?_) (fun c16 h => ?_)
      · exact k_retZ R15.2 tI_0 (by decide) h
      · refine k_ob (R15.2.obF (by decide) rfl) ?_
        obtain ⟨p17, e17, h⟩ := bind_so h
        refine k_call (g139_ok R15.2 tI_44 e17) (fun b17 R17 => ?_)
        refine k_ite (c_eq R17.1 tI_0) h (fun c18 h => ?_) (fun c18 h => ?_)
        · exact k_retZ R17.2 tI_0 (by decide) h
        · refine k_ob (R17.2.obF (by decide) rfl) ?_
          obtain ⟨p19, e19, h⟩ := bind_so h
          refine k_call (hF148 R17.2 e19) (fun b19 R19 => ?_)
          refine k_ite (c_eq R19.1 tI_0) h (fun c20 h => ?_) (fun c20 h => ?_)
          · exact k_retZ R19.2 tI_0 (by decide) h
          · refine k_ob (R19.2.obF (by decide) rfl) ?_
            obtain ⟨p21, e21, h⟩ := bind_so h
            refine k_call (g139_ok R19.2 tI_41 e21) (fun b21 R21 => ?_)
            refine k_ite (c_ne R21.1 tI_0) h (fun c22 h => ?_) (fun c22 h => ?_)
            · obtain ⟨V23, e23, h⟩ := lt_so h
              refine k_gi R21.2 (R21.2.obF (by decide) rfl) rfl e23 (fun v23 z23 => ?_)
              obtain ⟨V24, e24, c24, h⟩ := ckI_so h
              obtain ⟨S25, e25, h⟩ := lt_so h
              refine k_pi R21.2 (R21.2.obF (by decide) rfl) rfl (t_sub z23 tI_1 c24 e24) e25 (fun M25 R25 => ?_)
              refine k_ite (cJ_ne t1 tJ_7170414) h (fun c26 h => ?_) (fun c26 h => ?_)
              · refine k_ob (R25.obF (by decide) rfl) ?_
                obtain ⟨p27, e27, h⟩ := bind_so h
                refine k_call (g144_ok R25 tI_8 tI_0 e27) (fun M27 R27 => ?_)
                exact k_retZ R27 tI_1 (by decide) h
              · refine k_ob (R25.obF (by decide) rfl) ?_
                obtain ⟨p28, e28, h⟩ := bind_so h
                refine k_call (g144_ok R25 tI_7 tI_0 e28) (fun M28 R28 => ?_)
                exact k_retZ R28 tI_1 (by decide) h
            · exact k_retZ R21.2 tI_0 (by decide) h
  · exact k_retZ R9.2 tI_0 (by decide) h
def g146_j256 (G146 : gM → Option (Int × gM)) (G147 : gM → Option (Int × gM)) (G148 : gM → Option (Int × gM)) (X3 : Int) (X4 : Int) (Xs1 : Int) (S : gM) : Option (Int × gM) :=
  if ¬ X3 = (-1) then
    (g144 Xs1 X3 S).bind fun p37 =>
    some (1, p37)
  else
    (g144 Xs1 X4 S).bind fun p38 =>
    some (1, p38)
theorem g146_j256_ok {F146 : Nat → vm_M → Option (Int32 × vm_M)} {F147 : Nat → vm_M → Option (Int32 × vm_M)} {F148 : Nat → vm_M → Option (Int32 × vm_M)} {G146 : gM → Option (Int × gM)} {G147 : gM → Option (Int × gM)} {G148 : gM → Option (Int × gM)} {x3 : Int32} {X3 : Int} {x4 : Int32} {X4 : Int} {xs1 : Int32} {Xs1 : Int} {S : gM} {M : vm_M} {r : Int × gM} (hF146 : ∀ {S : gM} {M : vm_M} {r : Int × gM} (hR : Rel S M), G146 S = some r → Mp gRI (F146 55 M) r) (hF147 : ∀ {S : gM} {M : vm_M} {r : Int × gM} (hR : Rel S M), G147 S = some r → Mp gRI (F147 55 M) r) (hF148 : ∀ {S : gM} {M : vm_M} {r : Int × gM} (hR : Rel S M), G148 S = some r → Mp gRI (F148 55 M) r) (hR : Rel S M) (t3 : x3.toInt = X3) (t4 : x4.toInt = X4) (ts1 : xs1.toInt = Xs1) (h : g146_j256 G146 G147 G148 X3 X4 Xs1 S = some r) : Mp gRI (f146_j256 F146 F147 F148 x3 x4 55 xs1 M) r := by
  unfold g146_j256 at h
  unfold f146_j256
  refine k_ite (c_ne t3 tI_m1) h (fun c36 h => ?_) (fun c36 h => ?_)
  · refine k_ob (hR.obF (by decide) rfl) ?_
    obtain ⟨p37, e37, h⟩ := bind_so h
    refine k_call (g144_ok hR ts1 t3 e37) (fun M37 R37 => ?_)
    exact k_retZ R37 tI_1 (by decide) h
  · refine k_ob (hR.obF (by decide) rfl) ?_
    obtain ⟨p38, e38, h⟩ := bind_so h
    refine k_call (g144_ok hR ts1 t4 e38) (fun M38 R38 => ?_)
    exact k_retZ R38 tI_1 (by decide) h
def g146_j237 (G146 : gM → Option (Int × gM)) (G147 : gM → Option (Int × gM)) (G148 : gM → Option (Int × gM)) (X3 : Int) (X4 : Int) (S : gM) : Option (Int × gM) :=
  w_lt (gi S 55 42) fun V33 =>
  w_lt (wi S 55 21 V33) fun S34 =>
  if ¬ X3 = (-1) then
    g146_j256 G146 G147 G148 X3 X4 1 S34
  else
    g146_j256 G146 G147 G148 X3 X4 2 S34
theorem g146_j237_ok {F146 : Nat → vm_M → Option (Int32 × vm_M)} {F147 : Nat → vm_M → Option (Int32 × vm_M)} {F148 : Nat → vm_M → Option (Int32 × vm_M)} {G146 : gM → Option (Int × gM)} {G147 : gM → Option (Int × gM)} {G148 : gM → Option (Int × gM)} {x3 : Int32} {X3 : Int} {x4 : Int32} {X4 : Int} {S : gM} {M : vm_M} {r : Int × gM} (hF146 : ∀ {S : gM} {M : vm_M} {r : Int × gM} (hR : Rel S M), G146 S = some r → Mp gRI (F146 55 M) r) (hF147 : ∀ {S : gM} {M : vm_M} {r : Int × gM} (hR : Rel S M), G147 S = some r → Mp gRI (F147 55 M) r) (hF148 : ∀ {S : gM} {M : vm_M} {r : Int × gM} (hR : Rel S M), G148 S = some r → Mp gRI (F148 55 M) r) (hR : Rel S M) (t3 : x3.toInt = X3) (t4 : x4.toInt = X4) (h : g146_j237 G146 G147 G148 X3 X4 S = some r) : Mp gRI (f146_j237 F146 F147 F148 55 x3 x4 M) r := by
  unfold g146_j237 at h
  unfold f146_j237
  obtain ⟨V33, e33, h⟩ := lt_so h
  refine k_gi hR (hR.obF (by decide) rfl) rfl e33 (fun v33 z33 => ?_)
  obtain ⟨S34, e34, h⟩ := lt_so h
  refine k_pi hR (hR.obF (by decide) rfl) rfl z33 e34 (fun M34 R34 => ?_)
  refine k_ite (c_ne t3 tI_m1) h (fun c35 h => ?_) (fun c35 h => ?_)
  · exact g146_j256_ok hF146 hF147 hF148 R34 t3 t4 tI_1 h
  · exact g146_j256_ok hF146 hF147 hF148 R34 t3 t4 tI_2 h
def g146_j99 (G146 : gM → Option (Int × gM)) (G147 : gM → Option (Int × gM)) (G148 : gM → Option (Int × gM)) (S : gM) : Option (Int × gM) :=
  (g137 S).bind fun p7 =>
  if p7.1 = 7170414 then
    g146_j120 G146 G147 G148 p7.1 p7.2
  else
    if ¬ p7.1 = 7168376 then
      (g141 p7.1 p7.2).bind fun p30 =>
      (g143 p7.1 p30.2).bind fun p31 =>
      if ¬ p30.1 = (-1) then
        g146_j237 G146 G147 G148 p30.1 p31.1 p31.2
      else
        if ¬ p31.1 = (-1) then
          g146_j237 G146 G147 G148 p30.1 p31.1 p31.2
        else
          some (0, p31.2)
    else
      g146_j120 G146 G147 G148 p7.1 p7.2
theorem g146_j99_ok {F146 : Nat → vm_M → Option (Int32 × vm_M)} {F147 : Nat → vm_M → Option (Int32 × vm_M)} {F148 : Nat → vm_M → Option (Int32 × vm_M)} {G146 : gM → Option (Int × gM)} {G147 : gM → Option (Int × gM)} {G148 : gM → Option (Int × gM)} {S : gM} {M : vm_M} {r : Int × gM} (hF146 : ∀ {S : gM} {M : vm_M} {r : Int × gM} (hR : Rel S M), G146 S = some r → Mp gRI (F146 55 M) r) (hF147 : ∀ {S : gM} {M : vm_M} {r : Int × gM} (hR : Rel S M), G147 S = some r → Mp gRI (F147 55 M) r) (hF148 : ∀ {S : gM} {M : vm_M} {r : Int × gM} (hR : Rel S M), G148 S = some r → Mp gRI (F148 55 M) r) (hR : Rel S M) (h : g146_j99 G146 G147 G148 S = some r) : Mp gRI (f146_j99 F146 F147 F148 55 M) r := by
  unfold g146_j99 at h
  unfold f146_j99
  refine k_ob (hR.obF (by decide) rfl) ?_
  obtain ⟨p7, e7, h⟩ := bind_so h
  refine k_call (g137_ok hR e7) (fun b7 R7 => ?_)
  refine k_ite (cJ_eq R7.1 tJ_7170414) h (fun c8 h => ?_) (fun c8 h => ?_)
  · exact g146_j120_ok hF146 hF147 hF148 R7.2 R7.1 h
  · refine k_ite (cJ_ne R7.1 tJ_7168376) h (fun c29 h => ?_) (fun c29 h => ?_)
    · obtain ⟨p30, e30, h⟩ := bind_so h
      refine k_call (g141_ok R7.2 R7.1 e30) (fun b30 R30 => ?_)
      refine k_ob (R30.2.obF (by decide) rfl) ?_
      obtain ⟨p31, e31, h⟩ := bind_so h
      refine k_call (g143_ok R30.2 R7.1 e31) (fun b31 R31 => ?_)
      refine k_ite (c_ne R30.1 tI_m1) h (fun c32 h => ?_) (fun c32 h => ?_)
      · exact g146_j237_ok hF146 hF147 hF148 R31.2 R30.1 R31.1 h
      · refine k_ite (c_ne R31.1 tI_m1) h (fun c39 h => ?_) (fun c39 h => ?_)
        · exact g146_j237_ok hF146 hF147 hF148 R31.2 R30.1 R31.1 h
        · exact k_retZ R31.2 tI_0 (by decide) h
    · exact g146_j120_ok hF146 hF147 hF148 R7.2 R7.1 h
/-- PupilCoinModel.atom()Z -/
def g146g (G146 : gM → Option (Int × gM)) (G147 : gM → Option (Int × gM)) (G148 : gM → Option (Int × gM)) (S : gM) : Option (Int × gM) :=
  (g140 9999999 S).bind fun p1 =>
  if p1.1 = 0 then
    (g136 p1.2).bind fun p3 =>
    w_lt (gi p3 55 21) fun V4 =>
    w_lt (gi p3 55 20) fun V5 =>
    if V5 ≤ V4 then
      g146_j99 G146 G147 G148 p3
    else
      w_lt (gi p3 55 21) fun V40 =>
      w_chk ((0 : Int) ≤ V40 ∧ V40 < 700) <|
      w_lt (gi p3 84 V40) fun V42 =>
      if ¬ V42 = 40 then
        g146_j99 G146 G147 G148 p3
      else
        (g145 p3).bind fun p44 =>
        if ¬ p44.1 = 0 then
          w_lt (gi p44.2 55 21) fun V46 =>
          w_ckI (V46 + 1) fun V47 =>
          w_lt (wi p44.2 55 21 V47) fun S48 =>
          (G148 S48).bind fun p49 =>
          if p49.1 = 0 then
            some (0, p49.2)
          else
            (g139 41 p49.2).bind fun p51 =>
            if ¬ p51.1 = 0 then
              w_lt (gi p51.2 55 22) fun V53 =>
              w_ckI (V53 - 1) fun V54 =>
              w_lt (wi p51.2 55 22 V54) fun S55 =>
              some (1, S55)
            else
              some (0, p51.2)
        else
          some (0, p44.2)
  else
    w_lt (gi p1.2 55 43) fun V56 =>
    (g144 0 V56 p1.2).bind fun p57 =>
    some (1, p57)
theorem g146g_ok {F146 : Nat → vm_M → Option (Int32 × vm_M)} {F147 : Nat → vm_M → Option (Int32 × vm_M)} {F148 : Nat → vm_M → Option (Int32 × vm_M)} {G146 : gM → Option (Int × gM)} {G147 : gM → Option (Int × gM)} {G148 : gM → Option (Int × gM)} {S : gM} {M : vm_M} {r : Int × gM} (hF146 : ∀ {S : gM} {M : vm_M} {r : Int × gM} (hR : Rel S M), G146 S = some r → Mp gRI (F146 55 M) r) (hF147 : ∀ {S : gM} {M : vm_M} {r : Int × gM} (hR : Rel S M), G147 S = some r → Mp gRI (F147 55 M) r) (hF148 : ∀ {S : gM} {M : vm_M} {r : Int × gM} (hR : Rel S M), G148 S = some r → Mp gRI (F148 55 M) r) (hR : Rel S M) (h : g146g G146 G147 G148 S = some r) : Mp gRI (f146g F146 F147 F148 55 M) r := by
  unfold g146g at h
  unfold f146g
  refine k_ob (hR.obF (by decide) rfl) ?_
  obtain ⟨p1, e1, h⟩ := bind_so h
  refine k_call (g140_ok hR tI_9999999 e1) (fun b1 R1 => ?_)
  refine k_ite (c_eq R1.1 tI_0) h (fun c2 h => ?_) (fun c2 h => ?_)
  · refine k_ob (R1.2.obF (by decide) rfl) ?_
    obtain ⟨p3, e3, h⟩ := bind_so h
    refine k_call (g136_ok R1.2 e3) (fun M3 R3 => ?_)
    obtain ⟨V4, e4, h⟩ := lt_so h
    refine k_gi R3 (R3.obF (by decide) rfl) rfl e4 (fun v4 z4 => ?_)
    obtain ⟨V5, e5, h⟩ := lt_so h
    refine k_gi R3 (R3.obF (by decide) rfl) rfl e5 (fun v5 z5 => ?_)
    refine k_ite (c_le z5 z4) h (fun c6 h => ?_) (fun c6 h => ?_)
    · exact g146_j99_ok hF146 hF147 hF148 R3 h
    · refine k_grF 85 R3 (R3.obF (by decide) rfl) rfl ?_
      obtain ⟨V40, e40, h⟩ := lt_so h
      refine k_gi R3 (R3.obF (by decide) rfl) rfl e40 (fun v40 z40 => ?_)
      refine k_some ?_
      obtain ⟨c41, h⟩ := chk_so h
      obtain ⟨V42, e42, h⟩ := lt_so h
      refine k_ai R3 (R3.lnF (by decide) rfl) rfl z40 c41 e42 (fun v42 z42 => ?_)
      refine k_ite (c_ne z42 tI_40) h (fun c43 h => ?_) (fun c43 h => ?_)
      · exact g146_j99_ok hF146 hF147 hF148 R3 h
      · refine k_ob (R3.obF (by decide) rfl) ?_
        obtain ⟨p44, e44, h⟩ := bind_so h
        refine k_call (g145_ok R3 e44) (fun b44 R44 => ?_)
        refine k_ite (c_ne R44.1 tI_0) h (fun c45 h => ?_) (fun c45 h => ?_)
        · obtain ⟨V46, e46, h⟩ := lt_so h
          refine k_gi R44.2 (R44.2.obF (by decide) rfl) rfl e46 (fun v46 z46 => ?_)
          obtain ⟨V47, e47, c47, h⟩ := ckI_so h
          obtain ⟨S48, e48, h⟩ := lt_so h
          refine k_pi R44.2 (R44.2.obF (by decide) rfl) rfl (t_add z46 tI_1 c47 e47) e48 (fun M48 R48 => ?_)
          refine k_ob (R48.obF (by decide) rfl) ?_
          obtain ⟨p49, e49, h⟩ := bind_so h
          refine k_call (hF148 R48 e49) (fun b49 R49 => ?_)
          refine k_ite (c_eq R49.1 tI_0) h (fun c50 h => ?_) (fun c50 h => ?_)
          · exact k_retZ R49.2 tI_0 (by decide) h
          · refine k_ob (R49.2.obF (by decide) rfl) ?_
            obtain ⟨p51, e51, h⟩ := bind_so h
            refine k_call (g139_ok R49.2 tI_41 e51) (fun b51 R51 => ?_)
            refine k_ite (c_ne R51.1 tI_0) h (fun c52 h => ?_) (fun c52 h => ?_)
            · obtain ⟨V53, e53, h⟩ := lt_so h
              refine k_gi R51.2 (R51.2.obF (by decide) rfl) rfl e53 (fun v53 z53 => ?_)
              obtain ⟨V54, e54, c54, h⟩ := ckI_so h
              obtain ⟨S55, e55, h⟩ := lt_so h
              refine k_pi R51.2 (R51.2.obF (by decide) rfl) rfl (t_sub z53 tI_1 c54 e54) e55 (fun M55 R55 => ?_)
              exact k_retZ R55 tI_1 (by decide) h
            · exact k_retZ R51.2 tI_0 (by decide) h
        · exact k_retZ R44.2 tI_0 (by decide) h
  · obtain ⟨V56, e56, h⟩ := lt_so h
    refine k_gi R1.2 (R1.2.obF (by decide) rfl) rfl e56 (fun v56 z56 => ?_)
    refine k_ob (R1.2.obF (by decide) rfl) ?_
    obtain ⟨p57, e57, h⟩ := bind_so h
    refine k_call (g144_ok R1.2 tI_0 z56 e57) (fun M57 R57 => ?_)
    exact k_retZ R57 tI_1 (by decide) h
def g147_j37 (G146 : gM → Option (Int × gM)) (G147 : gM → Option (Int × gM)) (G148 : gM → Option (Int × gM)) (K9 : gM → Option (Int × gM)) (Xs0 : Int) (S : gM) : Option (Int × gM) :=
  if ¬ Xs0 = (-1) then
    (G146 S).bind fun p8 =>
    if ¬ p8.1 = 0 then
      (g144 Xs0 0 p8.2).bind fun p10 =>
      K9 p10
    else
      some (0, p8.2)
  else
    some (1, S)
theorem g147_j37_ok {F146 : Nat → vm_M → Option (Int32 × vm_M)} {F147 : Nat → vm_M → Option (Int32 × vm_M)} {F148 : Nat → vm_M → Option (Int32 × vm_M)} {G146 : gM → Option (Int × gM)} {G147 : gM → Option (Int × gM)} {G148 : gM → Option (Int × gM)} {k9 : vm_M → Option (Int32 × vm_M)} {K9 : gM → Option (Int × gM)} {xs0 : Int32} {Xs0 : Int} {S : gM} {M : vm_M} {r : Int × gM} (hF146 : ∀ {S : gM} {M : vm_M} {r : Int × gM} (hR : Rel S M), G146 S = some r → Mp gRI (F146 55 M) r) (hF147 : ∀ {S : gM} {M : vm_M} {r : Int × gM} (hR : Rel S M), G147 S = some r → Mp gRI (F147 55 M) r) (hF148 : ∀ {S : gM} {M : vm_M} {r : Int × gM} (hR : Rel S M), G148 S = some r → Mp gRI (F148 55 M) r) (hk9 : ∀ (S : gM) (M : vm_M), Rel S M → K9 S = some r → Mp gRI (k9 M) r) (hR : Rel S M) (ts0 : xs0.toInt = Xs0) (h : g147_j37 G146 G147 G148 K9 Xs0 S = some r) : Mp gRI (f147_j37 F146 F147 F148 k9 55 xs0 M) r := by
  unfold g147_j37 at h
  unfold f147_j37
  refine k_ite (c_ne ts0 tI_m1) h (fun c7 h => ?_) (fun c7 h => ?_)
  · refine k_ob (hR.obF (by decide) rfl) ?_
    obtain ⟨p8, e8, h⟩ := bind_so h
    refine k_call (hF146 hR e8) (fun b8 R8 => ?_)
    refine k_ite (c_ne R8.1 tI_0) h (fun c9 h => ?_) (fun c9 h => ?_)
    · refine k_ob (R8.2.obF (by decide) rfl) ?_
      obtain ⟨p10, e10, h⟩ := bind_so h
      refine k_call (g144_ok R8.2 ts0 tI_0 e10) (fun M10 R10 => ?_)
      exact hk9 _ _ R10 h
    · exact k_retZ R8.2 tI_0 (by decide) h
  · exact k_retZ hR tI_1 (by decide) h
def g147_l9 (G146 : gM → Option (Int × gM)) (G147 : gM → Option (Int × gM)) (G148 : gM → Option (Int × gM)) : Nat → gM → Option (Int × gM)
  | 0 => fun _ => none
  | n + 1 => fun S =>
    (g139 42 S).bind fun p3 =>
    if p3.1 = 0 then
      (g139 47 p3.2).bind fun p5 =>
      if p5.1 = 0 then
        g147_j37 G146 G147 G148 (g147_l9 G146 G147 G148 n) (-1) p5.2
      else
        g147_j37 G146 G147 G148 (g147_l9 G146 G147 G148 n) 6 p5.2
    else
      g147_j37 G146 G147 G148 (g147_l9 G146 G147 G148 n) 5 p3.2
theorem g147_l9_ok {F146 : Nat → vm_M → Option (Int32 × vm_M)} {F147 : Nat → vm_M → Option (Int32 × vm_M)} {F148 : Nat → vm_M → Option (Int32 × vm_M)} {G146 : gM → Option (Int × gM)} {G147 : gM → Option (Int × gM)} {G148 : gM → Option (Int × gM)} {r : Int × gM} (hF146 : ∀ {S : gM} {M : vm_M} {r : Int × gM} (hR : Rel S M), G146 S = some r → Mp gRI (F146 55 M) r) (hF147 : ∀ {S : gM} {M : vm_M} {r : Int × gM} (hR : Rel S M), G147 S = some r → Mp gRI (F147 55 M) r) (hF148 : ∀ {S : gM} {M : vm_M} {r : Int × gM} (hR : Rel S M), G148 S = some r → Mp gRI (F148 55 M) r) : ∀ (n : Nat) (S : gM) (M : vm_M), Rel S M → g147_l9 G146 G147 G148 n S = some r → Mp gRI (f147_l9 F146 F147 F148 55 n M) r := by
  intro n
  induction n with
  | zero =>
    intro S M hR h
    cases h
  | succ n ih =>
    intro S M hR h
    dsimp only [g147_l9] at h
    dsimp only [f147_l9]
    refine k_ob (hR.obF (by decide) rfl) ?_
    obtain ⟨p3, e3, h⟩ := bind_so h
    refine k_call (g139_ok hR tI_42 e3) (fun b3 R3 => ?_)
    refine k_ite (c_eq R3.1 tI_0) h (fun c4 h => ?_) (fun c4 h => ?_)
    · refine k_ob (R3.2.obF (by decide) rfl) ?_
      obtain ⟨p5, e5, h⟩ := bind_so h
      refine k_call (g139_ok R3.2 tI_47 e5) (fun b5 R5 => ?_)
      refine k_ite (c_eq R5.1 tI_0) h (fun c6 h => ?_) (fun c6 h => ?_)
      · exact g147_j37_ok hF146 hF147 hF148 ih R5.2 tI_m1 h
      · exact g147_j37_ok hF146 hF147 hF148 ih R5.2 tI_6 h
    · exact g147_j37_ok hF146 hF147 hF148 ih R3.2 tI_5 h
/-- PupilCoinModel.product()Z -/
def g147g (G146 : gM → Option (Int × gM)) (G147 : gM → Option (Int × gM)) (G148 : gM → Option (Int × gM)) (S : gM) : Option (Int × gM) :=
  (G146 S).bind fun p1 =>
  if ¬ p1.1 = 0 then
    g147_l9 G146 G147 G148
    
      100000 p1.2
  else
    some (0, p1.2)
theorem g147g_ok {F146 : Nat → vm_M → Option (Int32 × vm_M)} {F147 : Nat → vm_M → Option (Int32 × vm_M)} {F148 : Nat → vm_M → Option (Int32 × vm_M)} {G146 : gM → Option (Int × gM)} {G147 : gM → Option (Int × gM)} {G148 : gM → Option (Int × gM)} {S : gM} {M : vm_M} {r : Int × gM} (hF146 : ∀ {S : gM} {M : vm_M} {r : Int × gM} (hR : Rel S M), G146 S = some r → Mp gRI (F146 55 M) r) (hF147 : ∀ {S : gM} {M : vm_M} {r : Int × gM} (hR : Rel S M), G147 S = some r → Mp gRI (F147 55 M) r) (hF148 : ∀ {S : gM} {M : vm_M} {r : Int × gM} (hR : Rel S M), G148 S = some r → Mp gRI (F148 55 M) r) (hR : Rel S M) (h : g147g G146 G147 G148 S = some r) : Mp gRI (f147g F146 F147 F148 55 M) r := by
  unfold g147g at h
  unfold f147g
  refine k_ob (hR.obF (by decide) rfl) ?_
  obtain ⟨p1, e1, h⟩ := bind_so h
  refine k_call (hF146 hR e1) (fun b1 R1 => ?_)
  refine k_ite (c_ne R1.1 tI_0) h (fun c2 h => ?_) (fun c2 h => ?_)
  · refine g147_l9_ok hF146 hF147 hF148 100000 _ _ R1.2 h
  · exact k_retZ R1.2 tI_0 (by decide) h
def g148_j36 (G146 : gM → Option (Int × gM)) (G147 : gM → Option (Int × gM)) (G148 : gM → Option (Int × gM)) (K9 : gM → Option (Int × gM)) (Xs0 : Int) (S : gM) : Option (Int × gM) :=
  if ¬ Xs0 = (-1) then
    (G147 S).bind fun p8 =>
    if ¬ p8.1 = 0 then
      (g144 Xs0 0 p8.2).bind fun p10 =>
      K9 p10
    else
      some (0, p8.2)
  else
    some (1, S)
theorem g148_j36_ok {F146 : Nat → vm_M → Option (Int32 × vm_M)} {F147 : Nat → vm_M → Option (Int32 × vm_M)} {F148 : Nat → vm_M → Option (Int32 × vm_M)} {G146 : gM → Option (Int × gM)} {G147 : gM → Option (Int × gM)} {G148 : gM → Option (Int × gM)} {k9 : vm_M → Option (Int32 × vm_M)} {K9 : gM → Option (Int × gM)} {xs0 : Int32} {Xs0 : Int} {S : gM} {M : vm_M} {r : Int × gM} (hF146 : ∀ {S : gM} {M : vm_M} {r : Int × gM} (hR : Rel S M), G146 S = some r → Mp gRI (F146 55 M) r) (hF147 : ∀ {S : gM} {M : vm_M} {r : Int × gM} (hR : Rel S M), G147 S = some r → Mp gRI (F147 55 M) r) (hF148 : ∀ {S : gM} {M : vm_M} {r : Int × gM} (hR : Rel S M), G148 S = some r → Mp gRI (F148 55 M) r) (hk9 : ∀ (S : gM) (M : vm_M), Rel S M → K9 S = some r → Mp gRI (k9 M) r) (hR : Rel S M) (ts0 : xs0.toInt = Xs0) (h : g148_j36 G146 G147 G148 K9 Xs0 S = some r) : Mp gRI (f148_j36 F146 F147 F148 k9 55 xs0 M) r := by
  unfold g148_j36 at h
  unfold f148_j36
  refine k_ite (c_ne ts0 tI_m1) h (fun c7 h => ?_) (fun c7 h => ?_)
  · refine k_ob (hR.obF (by decide) rfl) ?_
    obtain ⟨p8, e8, h⟩ := bind_so h
    refine k_call (hF147 hR e8) (fun b8 R8 => ?_)
    refine k_ite (c_ne R8.1 tI_0) h (fun c9 h => ?_) (fun c9 h => ?_)
    · refine k_ob (R8.2.obF (by decide) rfl) ?_
      obtain ⟨p10, e10, h⟩ := bind_so h
      refine k_call (g144_ok R8.2 ts0 tI_0 e10) (fun M10 R10 => ?_)
      exact hk9 _ _ R10 h
    · exact k_retZ R8.2 tI_0 (by decide) h
  · exact k_retZ hR tI_1 (by decide) h
def g148_l9 (G146 : gM → Option (Int × gM)) (G147 : gM → Option (Int × gM)) (G148 : gM → Option (Int × gM)) : Nat → gM → Option (Int × gM)
  | 0 => fun _ => none
  | n + 1 => fun S =>
    (g139 43 S).bind fun p3 =>
    if p3.1 = 0 then
      (g139 45 p3.2).bind fun p5 =>
      if p5.1 = 0 then
        g148_j36 G146 G147 G148 (g148_l9 G146 G147 G148 n) (-1) p5.2
      else
        g148_j36 G146 G147 G148 (g148_l9 G146 G147 G148 n) 4 p5.2
    else
      g148_j36 G146 G147 G148 (g148_l9 G146 G147 G148 n) 3 p3.2
theorem g148_l9_ok {F146 : Nat → vm_M → Option (Int32 × vm_M)} {F147 : Nat → vm_M → Option (Int32 × vm_M)} {F148 : Nat → vm_M → Option (Int32 × vm_M)} {G146 : gM → Option (Int × gM)} {G147 : gM → Option (Int × gM)} {G148 : gM → Option (Int × gM)} {r : Int × gM} (hF146 : ∀ {S : gM} {M : vm_M} {r : Int × gM} (hR : Rel S M), G146 S = some r → Mp gRI (F146 55 M) r) (hF147 : ∀ {S : gM} {M : vm_M} {r : Int × gM} (hR : Rel S M), G147 S = some r → Mp gRI (F147 55 M) r) (hF148 : ∀ {S : gM} {M : vm_M} {r : Int × gM} (hR : Rel S M), G148 S = some r → Mp gRI (F148 55 M) r) : ∀ (n : Nat) (S : gM) (M : vm_M), Rel S M → g148_l9 G146 G147 G148 n S = some r → Mp gRI (f148_l9 F146 F147 F148 55 n M) r := by
  intro n
  induction n with
  | zero =>
    intro S M hR h
    cases h
  | succ n ih =>
    intro S M hR h
    dsimp only [g148_l9] at h
    dsimp only [f148_l9]
    refine k_ob (hR.obF (by decide) rfl) ?_
    obtain ⟨p3, e3, h⟩ := bind_so h
    refine k_call (g139_ok hR tI_43 e3) (fun b3 R3 => ?_)
    refine k_ite (c_eq R3.1 tI_0) h (fun c4 h => ?_) (fun c4 h => ?_)
    · refine k_ob (R3.2.obF (by decide) rfl) ?_
      obtain ⟨p5, e5, h⟩ := bind_so h
      refine k_call (g139_ok R3.2 tI_45 e5) (fun b5 R5 => ?_)
      refine k_ite (c_eq R5.1 tI_0) h (fun c6 h => ?_) (fun c6 h => ?_)
      · exact g148_j36_ok hF146 hF147 hF148 ih R5.2 tI_m1 h
      · exact g148_j36_ok hF146 hF147 hF148 ih R5.2 tI_4 h
    · exact g148_j36_ok hF146 hF147 hF148 ih R3.2 tI_3 h
/-- PupilCoinModel.ex()Z -/
def g148g (G146 : gM → Option (Int × gM)) (G147 : gM → Option (Int × gM)) (G148 : gM → Option (Int × gM)) (S : gM) : Option (Int × gM) :=
  (G147 S).bind fun p1 =>
  if ¬ p1.1 = 0 then
    g148_l9 G146 G147 G148
    
      100000 p1.2
  else
    some (0, p1.2)
theorem g148g_ok {F146 : Nat → vm_M → Option (Int32 × vm_M)} {F147 : Nat → vm_M → Option (Int32 × vm_M)} {F148 : Nat → vm_M → Option (Int32 × vm_M)} {G146 : gM → Option (Int × gM)} {G147 : gM → Option (Int × gM)} {G148 : gM → Option (Int × gM)} {S : gM} {M : vm_M} {r : Int × gM} (hF146 : ∀ {S : gM} {M : vm_M} {r : Int × gM} (hR : Rel S M), G146 S = some r → Mp gRI (F146 55 M) r) (hF147 : ∀ {S : gM} {M : vm_M} {r : Int × gM} (hR : Rel S M), G147 S = some r → Mp gRI (F147 55 M) r) (hF148 : ∀ {S : gM} {M : vm_M} {r : Int × gM} (hR : Rel S M), G148 S = some r → Mp gRI (F148 55 M) r) (hR : Rel S M) (h : g148g G146 G147 G148 S = some r) : Mp gRI (f148g F146 F147 F148 55 M) r := by
  unfold g148g at h
  unfold f148g
  refine k_ob (hR.obF (by decide) rfl) ?_
  obtain ⟨p1, e1, h⟩ := bind_so h
  refine k_call (hF147 hR e1) (fun b1 R1 => ?_)
  refine k_ite (c_ne R1.1 tI_0) h (fun c2 h => ?_) (fun c2 h => ?_)
  · refine g148_l9_ok hF146 hF147 hF148 100000 _ _ R1.2 h
  · exact k_retZ R1.2 tI_0 (by decide) h
/-- the methods that call each other, to a depth -/
def gc146 : Nat → (gM → Option (Int × gM)) × (gM → Option (Int × gM)) × (gM → Option (Int × gM))
  | 0 => (fun _ => none, fun _ => none, fun _ => none)
  | n + 1 => (g146g (gc146 n).1 (gc146 n).2.1 (gc146 n).2.2, g147g (gc146 n).1 (gc146 n).2.1 (gc146 n).2.2, g148g (gc146 n).1 (gc146 n).2.1 (gc146 n).2.2)
def g146 : gM → Option (Int × gM) := (gc146 60).1
def g147 : gM → Option (Int × gM) := (gc146 60).2.1
def g148 : gM → Option (Int × gM) := (gc146 60).2.2
theorem gc146_ok : ∀ (n : Nat), (∀ {S : gM} {M : vm_M} {r : Int × gM} (hR : Rel S M), (gc146 n).1 S = some r → Mp gRI ((sc146 n).1 55 M) r) ∧ (∀ {S : gM} {M : vm_M} {r : Int × gM} (hR : Rel S M), (gc146 n).2.1 S = some r → Mp gRI ((sc146 n).2.1 55 M) r) ∧ (∀ {S : gM} {M : vm_M} {r : Int × gM} (hR : Rel S M), (gc146 n).2.2 S = some r → Mp gRI ((sc146 n).2.2 55 M) r) := by
  intro n
  induction n with
  | zero =>
    refine ⟨?_, ?_, ?_⟩ <;> (intros; rename_i h; cases h)
  | succ n ih =>
    obtain ⟨h146, h147, h148⟩ := ih
    exact ⟨g146g_ok h146 h147 h148, g147g_ok h146 h147 h148, g148g_ok h146 h147 h148⟩
theorem g146_ok : ∀ {S : gM} {M : vm_M} {r : Int × gM} (hR : Rel S M), g146 S = some r → Mp gRI (f146 55 M) r := (gc146_ok 60).1
theorem g147_ok : ∀ {S : gM} {M : vm_M} {r : Int × gM} (hR : Rel S M), g147 S = some r → Mp gRI (f147 55 M) r := (gc146_ok 60).2.1
theorem g148_ok : ∀ {S : gM} {M : vm_M} {r : Int × gM} (hR : Rel S M), g148 S = some r → Mp gRI (f148 55 M) r := (gc146_ok 60).2.2
def g149_j182 (G149 : gM → Option (Int × gM)) (G150 : gM → Option (Int × gM)) (G151 : gM → Option (Int × gM)) (Xs0 : Int) (S : gM) : Option (Int × gM) :=
  if Xs0 = (-1) then
    some (0, S)
  else
    (g148 S).bind fun p15 =>
    if ¬ p15.1 = 0 then
      (g144 Xs0 0 p15.2).bind fun p17 =>
      some (1, p17)
    else
      some (0, p15.2)
theorem g149_j182_ok {F149 : Nat → vm_M → Option (Int32 × vm_M)} {F150 : Nat → vm_M → Option (Int32 × vm_M)} {F151 : Nat → vm_M → Option (Int32 × vm_M)} {G149 : gM → Option (Int × gM)} {G150 : gM → Option (Int × gM)} {G151 : gM → Option (Int × gM)} {xs0 : Int32} {Xs0 : Int} {S : gM} {M : vm_M} {r : Int × gM} (hF149 : ∀ {S : gM} {M : vm_M} {r : Int × gM} (hR : Rel S M), G149 S = some r → Mp gRI (F149 55 M) r) (hF150 : ∀ {S : gM} {M : vm_M} {r : Int × gM} (hR : Rel S M), G150 S = some r → Mp gRI (F150 55 M) r) (hF151 : ∀ {S : gM} {M : vm_M} {r : Int × gM} (hR : Rel S M), G151 S = some r → Mp gRI (F151 55 M) r) (hR : Rel S M) (ts0 : xs0.toInt = Xs0) (h : g149_j182 G149 G150 G151 Xs0 S = some r) : Mp gRI (f149_j182 F149 F150 F151 55 xs0 M) r := by
  unfold g149_j182 at h
  unfold f149_j182
  refine k_ite (c_eq ts0 tI_m1) h (fun c14 h => ?_) (fun c14 h => ?_)
  · exact k_retZ hR tI_0 (by decide) h
  · refine k_ob (hR.obF (by decide) rfl) ?_
    obtain ⟨p15, e15, h⟩ := bind_so h
    refine k_call (g148_ok hR e15) (fun b15 R15 => ?_)
    refine k_ite (c_ne R15.1 tI_0) h (fun c16 h => ?_) (fun c16 h => ?_)
    · refine k_ob (R15.2.obF (by decide) rfl) ?_
      obtain ⟨p17, e17, h⟩ := bind_so h
      refine k_call (g144_ok R15.2 ts0 tI_0 e17) (fun M17 R17 => ?_)
      exact k_retZ R17 tI_1 (by decide) h
    · exact k_retZ R15.2 tI_0 (by decide) h
def g149_j130 (G149 : gM → Option (Int × gM)) (G150 : gM → Option (Int × gM)) (G151 : gM → Option (Int × gM)) (S : gM) : Option (Int × gM) :=
  (g148 S).bind fun p6 =>
  if ¬ p6.1 = 0 then
    (g139 60 p6.2).bind fun p8 =>
    if p8.1 = 0 then
      (g139 62 p8.2).bind fun p10 =>
      if p10.1 = 0 then
        (g139 61 p10.2).bind fun p12 =>
        if p12.1 = 0 then
          g149_j182 G149 G150 G151 (-1) p12.2
        else
          g149_j182 G149 G150 G151 11 p12.2
      else
        g149_j182 G149 G150 G151 10 p10.2
    else
      g149_j182 G149 G150 G151 9 p8.2
  else
    some (0, p6.2)
theorem g149_j130_ok {F149 : Nat → vm_M → Option (Int32 × vm_M)} {F150 : Nat → vm_M → Option (Int32 × vm_M)} {F151 : Nat → vm_M → Option (Int32 × vm_M)} {G149 : gM → Option (Int × gM)} {G150 : gM → Option (Int × gM)} {G151 : gM → Option (Int × gM)} {S : gM} {M : vm_M} {r : Int × gM} (hF149 : ∀ {S : gM} {M : vm_M} {r : Int × gM} (hR : Rel S M), G149 S = some r → Mp gRI (F149 55 M) r) (hF150 : ∀ {S : gM} {M : vm_M} {r : Int × gM} (hR : Rel S M), G150 S = some r → Mp gRI (F150 55 M) r) (hF151 : ∀ {S : gM} {M : vm_M} {r : Int × gM} (hR : Rel S M), G151 S = some r → Mp gRI (F151 55 M) r) (hR : Rel S M) (h : g149_j130 G149 G150 G151 S = some r) : Mp gRI (f149_j130 F149 F150 F151 55 M) r := by
  unfold g149_j130 at h
  unfold f149_j130
  refine k_ob (hR.obF (by decide) rfl) ?_
  obtain ⟨p6, e6, h⟩ := bind_so h
  refine k_call (g148_ok hR e6) (fun b6 R6 => ?_)
  refine k_ite (c_ne R6.1 tI_0) h (fun c7 h => ?_) (fun c7 h => ?_)
  · refine k_ob (R6.2.obF (by decide) rfl) ?_
    obtain ⟨p8, e8, h⟩ := bind_so h
    refine k_call (g139_ok R6.2 tI_60 e8) (fun b8 R8 => ?_)
    refine k_ite (c_eq R8.1 tI_0) h (fun c9 h => ?_) (fun c9 h => ?_)
    · refine k_ob (R8.2.obF (by decide) rfl) ?_
      obtain ⟨p10, e10, h⟩ := bind_so h
      refine k_call (g139_ok R8.2 tI_62 e10) (fun b10 R10 => ?_)
      refine k_ite (c_eq R10.1 tI_0) h (fun c11 h => ?_) (fun c11 h => ?_)
      · refine k_ob (R10.2.obF (by decide) rfl) ?_
        obtain ⟨p12, e12, h⟩ := bind_so h
        refine k_call (g139_ok R10.2 tI_61 e12) (fun b12 R12 => ?_)
        refine k_ite (c_eq R12.1 tI_0) h (fun c13 h => ?_) (fun c13 h => ?_)
        · exact g149_j182_ok hF149 hF150 hF151 R12.2 tI_m1 h
        · exact g149_j182_ok hF149 hF150 hF151 R12.2 tI_11 h
      · exact g149_j182_ok hF149 hF150 hF151 R10.2 tI_10 h
    · exact g149_j182_ok hF149 hF150 hF151 R8.2 tI_9 h
  · exact k_retZ R6.2 tI_0 (by decide) h
/-- PupilCoinModel.single()Z -/
def g149g (G149 : gM → Option (Int × gM)) (G150 : gM → Option (Int × gM)) (G151 : gM → Option (Int × gM)) (S : gM) : Option (Int × gM) :=
  (g137 S).bind fun p1 =>
  if ¬ p1.1 = 7237492 then
    w_lt (gi p1.2 55 21) fun V3 =>
    w_lt (gi p1.2 55 20) fun V4 =>
    if V4 ≤ V3 then
      g149_j130 G149 G150 G151 p1.2
    else
      w_lt (gi p1.2 55 21) fun V18 =>
      w_chk ((0 : Int) ≤ V18 ∧ V18 < 700) <|
      w_lt (gi p1.2 84 V18) fun V20 =>
      if ¬ V20 = 123 then
        g149_j130 G149 G150 G151 p1.2
      else
        (g145 p1.2).bind fun p22 =>
        if ¬ p22.1 = 0 then
          w_lt (gi p22.2 55 21) fun V24 =>
          w_ckI (V24 + 1) fun V25 =>
          w_lt (wi p22.2 55 21 V25) fun S26 =>
          (G151 S26).bind fun p27 =>
          if p27.1 = 0 then
            some (0, p27.2)
          else
            (g139 125 p27.2).bind fun p29 =>
            if ¬ p29.1 = 0 then
              w_lt (gi p29.2 55 22) fun V31 =>
              w_ckI (V31 - 1) fun V32 =>
              w_lt (wi p29.2 55 22 V32) fun S33 =>
              some (1, S33)
            else
              some (0, p29.2)
        else
          some (0, p22.2)
  else
    (g145 p1.2).bind fun p34 =>
    if ¬ p34.1 = 0 then
      w_lt (gi p34.2 55 42) fun V36 =>
      w_lt (wi p34.2 55 21 V36) fun S37 =>
      (G149 S37).bind fun p38 =>
      if ¬ p38.1 = 0 then
        w_lt (gi p38.2 55 22) fun V40 =>
        w_ckI (V40 - 1) fun V41 =>
        w_lt (wi p38.2 55 22 V41) fun S42 =>
        (g144 14 0 S42).bind fun p43 =>
        some (1, p43)
      else
        some (0, p38.2)
    else
      some (0, p34.2)
theorem g149g_ok {F149 : Nat → vm_M → Option (Int32 × vm_M)} {F150 : Nat → vm_M → Option (Int32 × vm_M)} {F151 : Nat → vm_M → Option (Int32 × vm_M)} {G149 : gM → Option (Int × gM)} {G150 : gM → Option (Int × gM)} {G151 : gM → Option (Int × gM)} {S : gM} {M : vm_M} {r : Int × gM} (hF149 : ∀ {S : gM} {M : vm_M} {r : Int × gM} (hR : Rel S M), G149 S = some r → Mp gRI (F149 55 M) r) (hF150 : ∀ {S : gM} {M : vm_M} {r : Int × gM} (hR : Rel S M), G150 S = some r → Mp gRI (F150 55 M) r) (hF151 : ∀ {S : gM} {M : vm_M} {r : Int × gM} (hR : Rel S M), G151 S = some r → Mp gRI (F151 55 M) r) (hR : Rel S M) (h : g149g G149 G150 G151 S = some r) : Mp gRI (f149g F149 F150 F151 55 M) r := by
  unfold g149g at h
  unfold f149g
  refine k_ob (hR.obF (by decide) rfl) ?_
  obtain ⟨p1, e1, h⟩ := bind_so h
  refine k_call (g137_ok hR e1) (fun b1 R1 => ?_)
  refine k_ite (cJ_ne R1.1 tJ_7237492) h (fun c2 h => ?_) (fun c2 h => ?_)
  · obtain ⟨V3, e3, h⟩ := lt_so h
    refine k_gi R1.2 (R1.2.obF (by decide) rfl) rfl e3 (fun v3 z3 => ?_)
    obtain ⟨V4, e4, h⟩ := lt_so h
    refine k_gi R1.2 (R1.2.obF (by decide) rfl) rfl e4 (fun v4 z4 => ?_)
    refine k_ite (c_le z4 z3) h (fun c5 h => ?_) (fun c5 h => ?_)
    · exact g149_j130_ok hF149 hF150 hF151 R1.2 h
    · refine k_grF 85 R1.2 (R1.2.obF (by decide) rfl) rfl ?_
      obtain ⟨V18, e18, h⟩ := lt_so h
      refine k_gi R1.2 (R1.2.obF (by decide) rfl) rfl e18 (fun v18 z18 => ?_)
      refine k_some ?_
      obtain ⟨c19, h⟩ := chk_so h
      obtain ⟨V20, e20, h⟩ := lt_so h
      refine k_ai R1.2 (R1.2.lnF (by decide) rfl) rfl z18 c19 e20 (fun v20 z20 => ?_)
      refine k_ite (c_ne z20 tI_123) h (fun c21 h => ?_) (fun c21 h => ?_)
      · exact g149_j130_ok hF149 hF150 hF151 R1.2 h
      · refine k_ob (R1.2.obF (by decide) rfl) ?_
        obtain ⟨p22, e22, h⟩ := bind_so h
        refine k_call (g145_ok R1.2 e22) (fun b22 R22 => ?_)
        refine k_ite (c_ne R22.1 tI_0) h (fun c23 h => ?_) (fun c23 h => ?_)
        · obtain ⟨V24, e24, h⟩ := lt_so h
          refine k_gi R22.2 (R22.2.obF (by decide) rfl) rfl e24 (fun v24 z24 => ?_)
          obtain ⟨V25, e25, c25, h⟩ := ckI_so h
          obtain ⟨S26, e26, h⟩ := lt_so h
          refine k_pi R22.2 (R22.2.obF (by decide) rfl) rfl (t_add z24 tI_1 c25 e25) e26 (fun M26 R26 => ?_)
          refine k_ob (R26.obF (by decide) rfl) ?_
          obtain ⟨p27, e27, h⟩ := bind_so h
          refine k_call (hF151 R26 e27) (fun b27 R27 => ?_)
          refine k_ite (c_eq R27.1 tI_0) h (fun c28 h => ?_) (fun c28 h => ?_)
          · exact k_retZ R27.2 tI_0 (by decide) h
          · refine k_ob (R27.2.obF (by decide) rfl) ?_
            obtain ⟨p29, e29, h⟩ := bind_so h
            refine k_call (g139_ok R27.2 tI_125 e29) (fun b29 R29 => ?_)
            refine k_ite (c_ne R29.1 tI_0) h (fun c30 h => ?_) (fun c30 h => ?_)
            · obtain ⟨V31, e31, h⟩ := lt_so h
              refine k_gi R29.2 (R29.2.obF (by decide) rfl) rfl e31 (fun v31 z31 => ?_)
              obtain ⟨V32, e32, c32, h⟩ := ckI_so h
              obtain ⟨S33, e33, h⟩ := lt_so h
              refine k_pi R29.2 (R29.2.obF (by decide) rfl) rfl (t_sub z31 tI_1 c32 e32) e33 (fun M33 R33 => ?_)
              exact k_retZ R33 tI_1 (by decide) h
            · exact k_retZ R29.2 tI_0 (by decide) h
        · exact k_retZ R22.2 tI_0 (by decide) h
  · refine k_ob (R1.2.obF (by decide) rfl) ?_
    obtain ⟨p34, e34, h⟩ := bind_so h
    refine k_call (g145_ok R1.2 e34) (fun b34 R34 => ?_)
    refine k_ite (c_ne R34.1 tI_0) h (fun c35 h => ?_) (fun c35 h => ?_)
    · obtain ⟨V36, e36, h⟩ := lt_so h
      refine k_gi R34.2 (R34.2.obF (by decide) rfl) rfl e36 (fun v36 z36 => ?_)
      obtain ⟨S37, e37, h⟩ := lt_so h
      refine k_pi R34.2 (R34.2.obF (by decide) rfl) rfl z36 e37 (fun M37 R37 => ?_)
      refine k_ob (R37.obF (by decide) rfl) ?_
      obtain ⟨p38, e38, h⟩ := bind_so h
      refine k_call (hF149 R37 e38) (fun b38 R38 => ?_)
      refine k_ite (c_ne R38.1 tI_0) h (fun c39 h => ?_) (fun c39 h => ?_)
      · obtain ⟨V40, e40, h⟩ := lt_so h
        refine k_gi R38.2 (R38.2.obF (by decide) rfl) rfl e40 (fun v40 z40 => ?_)
        obtain ⟨V41, e41, c41, h⟩ := ckI_so h
        obtain ⟨S42, e42, h⟩ := lt_so h
        refine k_pi R38.2 (R38.2.obF (by decide) rfl) rfl (t_sub z40 tI_1 c41 e41) e42 (fun M42 R42 => ?_)
        refine k_ob (R42.obF (by decide) rfl) ?_
        obtain ⟨p43, e43, h⟩ := bind_so h
        refine k_call (g144_ok R42 tI_14 tI_0 e43) (fun M43 R43 => ?_)
        exact k_retZ R43 tI_1 (by decide) h
      · exact k_retZ R38.2 tI_0 (by decide) h
    · exact k_retZ R34.2 tI_0 (by decide) h
def g150_l9 (G149 : gM → Option (Int × gM)) (G150 : gM → Option (Int × gM)) (G151 : gM → Option (Int × gM)) : Nat → gM → Option (Int × gM)
  | 0 => fun _ => none
  | n + 1 => fun S =>
    (g138 6385252 S).bind fun p3 =>
    if p3.1 = 0 then
      some (1, p3.2)
    else
      (G149 p3.2).bind fun p5 =>
      if ¬ p5.1 = 0 then
        (g144 13 0 p5.2).bind fun p7 =>
        g150_l9 G149 G150 G151 n p7
      else
        some (0, p5.2)
theorem g150_l9_ok {F149 : Nat → vm_M → Option (Int32 × vm_M)} {F150 : Nat → vm_M → Option (Int32 × vm_M)} {F151 : Nat → vm_M → Option (Int32 × vm_M)} {G149 : gM → Option (Int × gM)} {G150 : gM → Option (Int × gM)} {G151 : gM → Option (Int × gM)} {r : Int × gM} (hF149 : ∀ {S : gM} {M : vm_M} {r : Int × gM} (hR : Rel S M), G149 S = some r → Mp gRI (F149 55 M) r) (hF150 : ∀ {S : gM} {M : vm_M} {r : Int × gM} (hR : Rel S M), G150 S = some r → Mp gRI (F150 55 M) r) (hF151 : ∀ {S : gM} {M : vm_M} {r : Int × gM} (hR : Rel S M), G151 S = some r → Mp gRI (F151 55 M) r) : ∀ (n : Nat) (S : gM) (M : vm_M), Rel S M → g150_l9 G149 G150 G151 n S = some r → Mp gRI (f150_l9 F149 F150 F151 55 n M) r := by
  intro n
  induction n with
  | zero =>
    intro S M hR h
    cases h
  | succ n ih =>
    intro S M hR h
    dsimp only [g150_l9] at h
    dsimp only [f150_l9]
    refine k_ob (hR.obF (by decide) rfl) ?_
    obtain ⟨p3, e3, h⟩ := bind_so h
    refine k_call (g138_ok hR tJ_6385252 e3) (fun b3 R3 => ?_)
    refine k_ite (c_eq R3.1 tI_0) h (fun c4 h => ?_) (fun c4 h => ?_)
    · exact k_retZ R3.2 tI_1 (by decide) h
    · refine k_ob (R3.2.obF (by decide) rfl) ?_
      obtain ⟨p5, e5, h⟩ := bind_so h
      refine k_call (hF149 R3.2 e5) (fun b5 R5 => ?_)
      refine k_ite (c_ne R5.1 tI_0) h (fun c6 h => ?_) (fun c6 h => ?_)
      · refine k_ob (R5.2.obF (by decide) rfl) ?_
        obtain ⟨p7, e7, h⟩ := bind_so h
        refine k_call (g144_ok R5.2 tI_13 tI_0 e7) (fun M7 R7 => ?_)
        exact ih _ _ R7 h
      · exact k_retZ R5.2 tI_0 (by decide) h
/-- PupilCoinModel.all()Z -/
def g150g (G149 : gM → Option (Int × gM)) (G150 : gM → Option (Int × gM)) (G151 : gM → Option (Int × gM)) (S : gM) : Option (Int × gM) :=
  (G149 S).bind fun p1 =>
  if ¬ p1.1 = 0 then
    g150_l9 G149 G150 G151
    
      100000 p1.2
  else
    some (0, p1.2)
theorem g150g_ok {F149 : Nat → vm_M → Option (Int32 × vm_M)} {F150 : Nat → vm_M → Option (Int32 × vm_M)} {F151 : Nat → vm_M → Option (Int32 × vm_M)} {G149 : gM → Option (Int × gM)} {G150 : gM → Option (Int × gM)} {G151 : gM → Option (Int × gM)} {S : gM} {M : vm_M} {r : Int × gM} (hF149 : ∀ {S : gM} {M : vm_M} {r : Int × gM} (hR : Rel S M), G149 S = some r → Mp gRI (F149 55 M) r) (hF150 : ∀ {S : gM} {M : vm_M} {r : Int × gM} (hR : Rel S M), G150 S = some r → Mp gRI (F150 55 M) r) (hF151 : ∀ {S : gM} {M : vm_M} {r : Int × gM} (hR : Rel S M), G151 S = some r → Mp gRI (F151 55 M) r) (hR : Rel S M) (h : g150g G149 G150 G151 S = some r) : Mp gRI (f150g F149 F150 F151 55 M) r := by
  unfold g150g at h
  unfold f150g
  refine k_ob (hR.obF (by decide) rfl) ?_
  obtain ⟨p1, e1, h⟩ := bind_so h
  refine k_call (hF149 hR e1) (fun b1 R1 => ?_)
  refine k_ite (c_ne R1.1 tI_0) h (fun c2 h => ?_) (fun c2 h => ?_)
  · refine g150_l9_ok hF149 hF150 hF151 100000 _ _ R1.2 h
  · exact k_retZ R1.2 tI_0 (by decide) h
def g151_l9 (G149 : gM → Option (Int × gM)) (G150 : gM → Option (Int × gM)) (G151 : gM → Option (Int × gM)) : Nat → gM → Option (Int × gM)
  | 0 => fun _ => none
  | n + 1 => fun S =>
    (g138 28530 S).bind fun p3 =>
    if p3.1 = 0 then
      some (1, p3.2)
    else
      (G150 p3.2).bind fun p5 =>
      if ¬ p5.1 = 0 then
        (g144 12 0 p5.2).bind fun p7 =>
        g151_l9 G149 G150 G151 n p7
      else
        some (0, p5.2)
theorem g151_l9_ok {F149 : Nat → vm_M → Option (Int32 × vm_M)} {F150 : Nat → vm_M → Option (Int32 × vm_M)} {F151 : Nat → vm_M → Option (Int32 × vm_M)} {G149 : gM → Option (Int × gM)} {G150 : gM → Option (Int × gM)} {G151 : gM → Option (Int × gM)} {r : Int × gM} (hF149 : ∀ {S : gM} {M : vm_M} {r : Int × gM} (hR : Rel S M), G149 S = some r → Mp gRI (F149 55 M) r) (hF150 : ∀ {S : gM} {M : vm_M} {r : Int × gM} (hR : Rel S M), G150 S = some r → Mp gRI (F150 55 M) r) (hF151 : ∀ {S : gM} {M : vm_M} {r : Int × gM} (hR : Rel S M), G151 S = some r → Mp gRI (F151 55 M) r) : ∀ (n : Nat) (S : gM) (M : vm_M), Rel S M → g151_l9 G149 G150 G151 n S = some r → Mp gRI (f151_l9 F149 F150 F151 55 n M) r := by
  intro n
  induction n with
  | zero =>
    intro S M hR h
    cases h
  | succ n ih =>
    intro S M hR h
    dsimp only [g151_l9] at h
    dsimp only [f151_l9]
    refine k_ob (hR.obF (by decide) rfl) ?_
    obtain ⟨p3, e3, h⟩ := bind_so h
    refine k_call (g138_ok hR tJ_28530 e3) (fun b3 R3 => ?_)
    refine k_ite (c_eq R3.1 tI_0) h (fun c4 h => ?_) (fun c4 h => ?_)
    · exact k_retZ R3.2 tI_1 (by decide) h
    · refine k_ob (R3.2.obF (by decide) rfl) ?_
      obtain ⟨p5, e5, h⟩ := bind_so h
      refine k_call (hF150 R3.2 e5) (fun b5 R5 => ?_)
      refine k_ite (c_ne R5.1 tI_0) h (fun c6 h => ?_) (fun c6 h => ?_)
      · refine k_ob (R5.2.obF (by decide) rfl) ?_
        obtain ⟨p7, e7, h⟩ := bind_so h
        refine k_call (g144_ok R5.2 tI_12 tI_0 e7) (fun M7 R7 => ?_)
        exact ih _ _ R7 h
      · exact k_retZ R5.2 tI_0 (by decide) h
/-- PupilCoinModel.any()Z -/
def g151g (G149 : gM → Option (Int × gM)) (G150 : gM → Option (Int × gM)) (G151 : gM → Option (Int × gM)) (S : gM) : Option (Int × gM) :=
  (G150 S).bind fun p1 =>
  if ¬ p1.1 = 0 then
    g151_l9 G149 G150 G151
    
      100000 p1.2
  else
    some (0, p1.2)
theorem g151g_ok {F149 : Nat → vm_M → Option (Int32 × vm_M)} {F150 : Nat → vm_M → Option (Int32 × vm_M)} {F151 : Nat → vm_M → Option (Int32 × vm_M)} {G149 : gM → Option (Int × gM)} {G150 : gM → Option (Int × gM)} {G151 : gM → Option (Int × gM)} {S : gM} {M : vm_M} {r : Int × gM} (hF149 : ∀ {S : gM} {M : vm_M} {r : Int × gM} (hR : Rel S M), G149 S = some r → Mp gRI (F149 55 M) r) (hF150 : ∀ {S : gM} {M : vm_M} {r : Int × gM} (hR : Rel S M), G150 S = some r → Mp gRI (F150 55 M) r) (hF151 : ∀ {S : gM} {M : vm_M} {r : Int × gM} (hR : Rel S M), G151 S = some r → Mp gRI (F151 55 M) r) (hR : Rel S M) (h : g151g G149 G150 G151 S = some r) : Mp gRI (f151g F149 F150 F151 55 M) r := by
  unfold g151g at h
  unfold f151g
  refine k_ob (hR.obF (by decide) rfl) ?_
  obtain ⟨p1, e1, h⟩ := bind_so h
  refine k_call (hF150 hR e1) (fun b1 R1 => ?_)
  refine k_ite (c_ne R1.1 tI_0) h (fun c2 h => ?_) (fun c2 h => ?_)
  · refine g151_l9_ok hF149 hF150 hF151 100000 _ _ R1.2 h
  · exact k_retZ R1.2 tI_0 (by decide) h
/-- the methods that call each other, to a depth -/
def gc149 : Nat → (gM → Option (Int × gM)) × (gM → Option (Int × gM)) × (gM → Option (Int × gM))
  | 0 => (fun _ => none, fun _ => none, fun _ => none)
  | n + 1 => (g149g (gc149 n).1 (gc149 n).2.1 (gc149 n).2.2, g150g (gc149 n).1 (gc149 n).2.1 (gc149 n).2.2, g151g (gc149 n).1 (gc149 n).2.1 (gc149 n).2.2)
def g149 : gM → Option (Int × gM) := (gc149 60).1
def g150 : gM → Option (Int × gM) := (gc149 60).2.1
def g151 : gM → Option (Int × gM) := (gc149 60).2.2
theorem gc149_ok : ∀ (n : Nat), (∀ {S : gM} {M : vm_M} {r : Int × gM} (hR : Rel S M), (gc149 n).1 S = some r → Mp gRI ((sc149 n).1 55 M) r) ∧ (∀ {S : gM} {M : vm_M} {r : Int × gM} (hR : Rel S M), (gc149 n).2.1 S = some r → Mp gRI ((sc149 n).2.1 55 M) r) ∧ (∀ {S : gM} {M : vm_M} {r : Int × gM} (hR : Rel S M), (gc149 n).2.2 S = some r → Mp gRI ((sc149 n).2.2 55 M) r) := by
  intro n
  induction n with
  | zero =>
    refine ⟨?_, ?_, ?_⟩ <;> (intros; rename_i h; cases h)
  | succ n ih =>
    obtain ⟨h149, h150, h151⟩ := ih
    exact ⟨g149g_ok h149 h150 h151, g150g_ok h149 h150 h151, g151g_ok h149 h150 h151⟩
theorem g149_ok : ∀ {S : gM} {M : vm_M} {r : Int × gM} (hR : Rel S M), g149 S = some r → Mp gRI (f149 55 M) r := (gc149_ok 60).1
theorem g150_ok : ∀ {S : gM} {M : vm_M} {r : Int × gM} (hR : Rel S M), g150 S = some r → Mp gRI (f150 55 M) r := (gc149_ok 60).2.1
theorem g151_ok : ∀ {S : gM} {M : vm_M} {r : Int × gM} (hR : Rel S M), g151 S = some r → Mp gRI (f151 55 M) r := (gc149_ok 60).2.2
def g152_j116 (X1 : Int) (X2 : Int) (S : gM) : Option (Int × gM) :=
  w_lt (gi S 55 24) fun V27 =>
  w_chk ((0 : Int) ≤ X1 ∧ X1 < 300) <|
  w_lt (wi S 77 X1 V27) fun S29 =>
  w_lt (gi S29 55 23) fun V30 =>
  w_chk ((0 : Int) ≤ V30 ∧ V30 < 30) <|
  w_lt (wl S29 80 V30 X2) fun S32 =>
  w_lt (gi S32 55 23) fun V33 =>
  w_ckI (V33 + 1) fun V34 =>
  w_lt (wi S32 55 23 V34) fun S35 =>
  some (1, S35)
theorem g152_j116_ok {x1 : Int32} {X1 : Int} {x2 : Int64} {X2 : Int} {S : gM} {M : vm_M} {r : Int × gM} (hR : Rel S M) (t1 : x1.toInt = X1) (t2 : x2.toInt = X2) (h : g152_j116 X1 X2 S = some r) : Mp gRI (f152_j116 55 x1 x2 M) r := by
  unfold g152_j116 at h
  unfold f152_j116
  refine k_grF 78 hR (hR.obF (by decide) rfl) rfl ?_
  obtain ⟨V27, e27, h⟩ := lt_so h
  refine k_gi hR (hR.obF (by decide) rfl) rfl e27 (fun v27 z27 => ?_)
  refine k_some ?_
  obtain ⟨c28, h⟩ := chk_so h
  obtain ⟨S29, e29, h⟩ := lt_so h
  refine k_si hR (hR.lnF (by decide) rfl) rfl t1 c28 z27 e29 (fun M29 R29 => ?_)
  refine k_grF 81 R29 (R29.obF (by decide) rfl) rfl ?_
  obtain ⟨V30, e30, h⟩ := lt_so h
  refine k_gi R29 (R29.obF (by decide) rfl) rfl e30 (fun v30 z30 => ?_)
  refine k_some ?_
  obtain ⟨c31, h⟩ := chk_so h
  obtain ⟨S32, e32, h⟩ := lt_so h
  refine k_sl R29 (R29.lnF (by decide) rfl) rfl z30 c31 t2 e32 (fun M32 R32 => ?_)
  obtain ⟨V33, e33, h⟩ := lt_so h
  refine k_gi R32 (R32.obF (by decide) rfl) rfl e33 (fun v33 z33 => ?_)
  obtain ⟨V34, e34, c34, h⟩ := ckI_so h
  obtain ⟨S35, e35, h⟩ := lt_so h
  refine k_pi R32 (R32.obF (by decide) rfl) rfl (t_add z33 tI_1 c34 e34) e35 (fun M35 R35 => ?_)
  exact k_retZ R35 tI_1 (by decide) h
/-- PupilCoinModel.line(I)Z -/
def g152 (X1 : Int) (S : gM) : Option (Int × gM) :=
  w_chk ((0 : Int) ≤ X1 ∧ X1 < 300) <|
  w_lt (wi S 73 X1 0) fun S2 =>
  (g137 S2).bind fun p3 =>
  if p3.1 = 0 then
    some (0, p3.2)
  else
    (g142 p3.1 p3.2).bind fun p5 =>
    if ¬ p5.1 = 0 then
      some (0, p5.2)
    else
      (g143 p3.1 p5.2).bind fun p7 =>
      if p7.1 = (-1) then
        w_lt (gi p7.2 55 42) fun V9 =>
        w_lt (wi p7.2 55 21 V9) fun S10 =>
        w_lt (gi S10 55 23) fun V11 =>
        w_chk ((0 : Int) ≤ X1 ∧ X1 < 300) <|
        w_lt (wi S10 74 X1 V11) fun S13 =>
        w_lt (gi S13 55 24) fun V14 =>
        w_chk ((0 : Int) ≤ X1 ∧ X1 < 300) <|
        w_lt (wi S13 75 X1 V14) fun S16 =>
        w_lt (wi S16 55 22 0) fun S17 =>
        (g139 61 S17).bind fun p18 =>
        if p18.1 = 0 then
          some (0, p18.2)
        else
          (g148 p18.2).bind fun p20 =>
          if ¬ p20.1 = 0 then
            w_lt (gi p20.2 55 24) fun V22 =>
            w_chk ((0 : Int) ≤ X1 ∧ X1 < 300) <|
            w_lt (wi p20.2 76 X1 V22) fun S24 =>
            (g138 26982 S24).bind fun p25 =>
            if p25.1 = 0 then
              g152_j116 X1 p3.1 p25.2
            else
              (g151 p25.2).bind fun p36 =>
              if ¬ p36.1 = 0 then
                g152_j116 X1 p3.1 p36.2
              else
                some (0, p36.2)
          else
            some (0, p20.2)
      else
        some (0, p7.2)
theorem g152_ok {x1 : Int32} {X1 : Int} {S : gM} {M : vm_M} {r : Int × gM} (hR : Rel S M) (t1 : x1.toInt = X1) (h : g152 X1 S = some r) : Mp gRI (f152 55 x1 M) r := by
  unfold g152 at h
  unfold f152
  refine k_grF 74 hR (hR.obF (by decide) rfl) rfl ?_
  refine k_some ?_
  obtain ⟨c1, h⟩ := chk_so h
  obtain ⟨S2, e2, h⟩ := lt_so h
  refine k_si hR (hR.lnF (by decide) rfl) rfl t1 c1 tI_0 e2 (fun M2 R2 => ?_)
  refine k_ob (R2.obF (by decide) rfl) ?_
  obtain ⟨p3, e3, h⟩ := bind_so h
  refine k_call (g137_ok R2 e3) (fun b3 R3 => ?_)
  refine k_ite (cJ_eq R3.1 tJ_0) h (fun c4 h => ?_) (fun c4 h => ?_)
  · exact k_retZ R3.2 tI_0 (by decide) h
  · obtain ⟨p5, e5, h⟩ := bind_so h
    refine k_call (g142_ok R3.2 R3.1 e5) (fun b5 R5 => ?_)
    refine k_ite (c_ne R5.1 tI_0) h (fun c6 h => ?_) (fun c6 h => ?_)
    · exact k_retZ R5.2 tI_0 (by decide) h
    · refine k_ob (R5.2.obF (by decide) rfl) ?_
      obtain ⟨p7, e7, h⟩ := bind_so h
      refine k_call (g143_ok R5.2 R3.1 e7) (fun b7 R7 => ?_)
      refine k_ite (c_eq R7.1 tI_m1) h (fun c8 h => ?_) (fun c8 h => ?_)
      · obtain ⟨V9, e9, h⟩ := lt_so h
        refine k_gi R7.2 (R7.2.obF (by decide) rfl) rfl e9 (fun v9 z9 => ?_)
        obtain ⟨S10, e10, h⟩ := lt_so h
        refine k_pi R7.2 (R7.2.obF (by decide) rfl) rfl z9 e10 (fun M10 R10 => ?_)
        refine k_grF 75 R10 (R10.obF (by decide) rfl) rfl ?_
        obtain ⟨V11, e11, h⟩ := lt_so h
        refine k_gi R10 (R10.obF (by decide) rfl) rfl e11 (fun v11 z11 => ?_)
        refine k_some ?_
        obtain ⟨c12, h⟩ := chk_so h
        obtain ⟨S13, e13, h⟩ := lt_so h
        refine k_si R10 (R10.lnF (by decide) rfl) rfl t1 c12 z11 e13 (fun M13 R13 => ?_)
        refine k_grF 76 R13 (R13.obF (by decide) rfl) rfl ?_
        obtain ⟨V14, e14, h⟩ := lt_so h
        refine k_gi R13 (R13.obF (by decide) rfl) rfl e14 (fun v14 z14 => ?_)
        refine k_some ?_
        obtain ⟨c15, h⟩ := chk_so h
        obtain ⟨S16, e16, h⟩ := lt_so h
        refine k_si R13 (R13.lnF (by decide) rfl) rfl t1 c15 z14 e16 (fun M16 R16 => ?_)
        obtain ⟨S17, e17, h⟩ := lt_so h
        refine k_pi R16 (R16.obF (by decide) rfl) rfl tI_0 e17 (fun M17 R17 => ?_)
        refine k_ob (R17.obF (by decide) rfl) ?_
        obtain ⟨p18, e18, h⟩ := bind_so h
        refine k_call (g139_ok R17 tI_61 e18) (fun b18 R18 => ?_)
        refine k_ite (c_eq R18.1 tI_0) h (fun c19 h => ?_) (fun c19 h => ?_)
        · exact k_retZ R18.2 tI_0 (by decide) h
        · refine k_ob (R18.2.obF (by decide) rfl) ?_
          obtain ⟨p20, e20, h⟩ := bind_so h
          refine k_call (g148_ok R18.2 e20) (fun b20 R20 => ?_)
          refine k_ite (c_ne R20.1 tI_0) h (fun c21 h => ?_) (fun c21 h => ?_)
          · refine k_grF 77 R20.2 (R20.2.obF (by decide) rfl) rfl ?_
            obtain ⟨V22, e22, h⟩ := lt_so h
            refine k_gi R20.2 (R20.2.obF (by decide) rfl) rfl e22 (fun v22 z22 => ?_)
            refine k_some ?_
            obtain ⟨c23, h⟩ := chk_so h
            obtain ⟨S24, e24, h⟩ := lt_so h
            refine k_si R20.2 (R20.2.lnF (by decide) rfl) rfl t1 c23 z22 e24 (fun M24 R24 => ?_)
            refine k_ob (R24.obF (by decide) rfl) ?_
            obtain ⟨p25, e25, h⟩ := bind_so h
            refine k_call (g138_ok R24 tJ_26982 e25) (fun b25 R25 => ?_)
            refine k_ite (c_eq R25.1 tI_0) h (fun c26 h => ?_) (fun c26 h => ?_)
            · exact g152_j116_ok R25.2 t1 R3.1 h
            · refine k_ob (R25.2.obF (by decide) rfl) ?_
              obtain ⟨p36, e36, h⟩ := bind_so h
              refine k_call (g151_ok R25.2 e36) (fun b36 R36 => ?_)
              refine k_ite (c_ne R36.1 tI_0) h (fun c37 h => ?_) (fun c37 h => ?_)
              · exact g152_j116_ok R36.2 t1 R3.1 h
              · exact k_retZ R36.2 tI_0 (by decide) h
          · exact k_retZ R20.2 tI_0 (by decide) h
      · exact k_retZ R7.2 tI_0 (by decide) h
/-- PupilCoinModel.plain(III)Z -/
def g153 (X1 : Int) (X2 : Int) (X3 : Int) (S : gM) : Option (Int × gM) :=
  w_chk ((0 : Int) ≤ X1 ∧ X1 < 300) <|
  w_lt (wi S 73 X1 X2) fun S2 =>
  (g140 X3 S2).bind fun p3 =>
  if ¬ p3.1 = 0 then
    w_lt (gi p3.2 55 43) fun V5 =>
    w_chk ((0 : Int) ≤ X1 ∧ X1 < 300) <|
    w_lt (wi p3.2 74 X1 V5) fun S7 =>
    some (1, S7)
  else
    some (0, p3.2)
theorem g153_ok {x1 : Int32} {X1 : Int} {x2 : Int32} {X2 : Int} {x3 : Int32} {X3 : Int} {S : gM} {M : vm_M} {r : Int × gM} (hR : Rel S M) (t1 : x1.toInt = X1) (t2 : x2.toInt = X2) (t3 : x3.toInt = X3) (h : g153 X1 X2 X3 S = some r) : Mp gRI (f153 55 x1 x2 x3 M) r := by
  unfold g153 at h
  unfold f153
  refine k_grF 74 hR (hR.obF (by decide) rfl) rfl ?_
  refine k_some ?_
  obtain ⟨c1, h⟩ := chk_so h
  obtain ⟨S2, e2, h⟩ := lt_so h
  refine k_si hR (hR.lnF (by decide) rfl) rfl t1 c1 t2 e2 (fun M2 R2 => ?_)
  refine k_ob (R2.obF (by decide) rfl) ?_
  obtain ⟨p3, e3, h⟩ := bind_so h
  refine k_call (g140_ok R2 t3 e3) (fun b3 R3 => ?_)
  refine k_ite (c_ne R3.1 tI_0) h (fun c4 h => ?_) (fun c4 h => ?_)
  · refine k_grF 75 R3.2 (R3.2.obF (by decide) rfl) rfl ?_
    obtain ⟨V5, e5, h⟩ := lt_so h
    refine k_gi R3.2 (R3.2.obF (by decide) rfl) rfl e5 (fun v5 z5 => ?_)
    refine k_some ?_
    obtain ⟨c6, h⟩ := chk_so h
    obtain ⟨S7, e7, h⟩ := lt_so h
    refine k_si R3.2 (R3.2.lnF (by decide) rfl) rfl t1 c6 z5 e7 (fun M7 R7 => ?_)
    exact k_retZ R7 tI_1 (by decide) h
  · exact k_retZ R3.2 tI_0 (by decide) h
def g154_j243 (X2 : Int) (S : gM) : Option (Int × gM) :=
  if X2 = 0 then
    some (0, S)
  else
    (g139 59 S).bind fun p19 =>
    if p19.1 = 0 then
      some (0, p19.2)
    else
      some (1, p19.2)
theorem g154_j243_ok {x2 : Int32} {X2 : Int} {S : gM} {M : vm_M} {r : Int × gM} (hR : Rel S M) (t2 : x2.toInt = X2) (h : g154_j243 X2 S = some r) : Mp gRI (f154_j243 55 x2 M) r := by
  unfold g154_j243 at h
  unfold f154_j243
  refine k_ite (c_eq t2 tI_0) h (fun c18 h => ?_) (fun c18 h => ?_)
  · exact k_retZ hR tI_0 (by decide) h
  · refine k_ob (hR.obF (by decide) rfl) ?_
    obtain ⟨p19, e19, h⟩ := bind_so h
    refine k_call (g139_ok hR tI_59 e19) (fun b19 R19 => ?_)
    refine k_ite (c_eq R19.1 tI_0) h (fun c20 h => ?_) (fun c20 h => ?_)
    · exact k_retZ R19.2 tI_0 (by decide) h
    · exact k_retZ R19.2 tI_1 (by decide) h
def g154_j216 (X1 : Int) (Xs0 : Int) (S : gM) : Option (Int × gM) :=
  if Xs0 = 0 then
    g154_j243 Xs0 S
  else
    (g137 S).bind fun p21 =>
    (g143 p21.1 p21.2).bind fun p22 =>
    w_chk ((0 : Int) ≤ X1 ∧ X1 < 300) <|
    w_lt (wi p22.2 74 X1 p22.1) fun S24 =>
    w_lt (gi S24 55 42) fun V25 =>
    w_lt (wi S24 55 21 V25) fun S26 =>
    g154_j243 Xs0 S26
theorem g154_j216_ok {x1 : Int32} {X1 : Int} {xs0 : Int32} {Xs0 : Int} {S : gM} {M : vm_M} {r : Int × gM} (hR : Rel S M) (t1 : x1.toInt = X1) (ts0 : xs0.toInt = Xs0) (h : g154_j216 X1 Xs0 S = some r) : Mp gRI (f154_j216 55 x1 xs0 M) r := by
  unfold g154_j216 at h
  unfold f154_j216
  refine k_ite (c_eq ts0 tI_0) h (fun c17 h => ?_) (fun c17 h => ?_)
  · exact g154_j243_ok hR ts0 h
  · refine k_grF 75 hR (hR.obF (by decide) rfl) rfl ?_
    refine k_ob (hR.obF (by decide) rfl) ?_
    obtain ⟨p21, e21, h⟩ := bind_so h
    refine k_call (g137_ok hR e21) (fun b21 R21 => ?_)
    refine k_ob (R21.2.obF (by decide) rfl) ?_
    obtain ⟨p22, e22, h⟩ := bind_so h
    refine k_call (g143_ok R21.2 R21.1 e22) (fun b22 R22 => ?_)
    refine k_some ?_
    obtain ⟨c23, h⟩ := chk_so h
    obtain ⟨S24, e24, h⟩ := lt_so h
    refine k_si R22.2 (R22.2.lnF (by decide) rfl) rfl t1 c23 R22.1 e24 (fun M24 R24 => ?_)
    obtain ⟨V25, e25, h⟩ := lt_so h
    refine k_gi R24 (R24.obF (by decide) rfl) rfl e25 (fun v25 z25 => ?_)
    obtain ⟨S26, e26, h⟩ := lt_so h
    refine k_pi R24 (R24.obF (by decide) rfl) rfl z25 e26 (fun M26 R26 => ?_)
    exact g154_j243_ok R26 ts0 h
def g154_j215 (X1 : Int) (S : gM) : Option (Int × gM) :=
  g154_j216 X1 0 S
theorem g154_j215_ok {x1 : Int32} {X1 : Int} {S : gM} {M : vm_M} {r : Int × gM} (hR : Rel S M) (t1 : x1.toInt = X1) (h : g154_j215 X1 S = some r) : Mp gRI (f154_j215 55 x1 M) r := by
  unfold g154_j215 at h
  unfold f154_j215
  exact g154_j216_ok hR t1 tI_0 h
def g154_j177 (Xs0 : Int) (S : gM) : Option (Int × gM) :=
  g154_j243 Xs0 S
theorem g154_j177_ok {xs0 : Int32} {Xs0 : Int} {S : gM} {M : vm_M} {r : Int × gM} (hR : Rel S M) (ts0 : xs0.toInt = Xs0) (h : g154_j177 Xs0 S = some r) : Mp gRI (f154_j177 55 xs0 M) r := by
  unfold g154_j177 at h
  unfold f154_j177
  exact g154_j243_ok hR ts0 h
def g154_j161 (X1 : Int) (Xs1 : Int) (Xs2 : Int) (S : gM) : Option (Int × gM) :=
  w_chk ((0 : Int) ≤ Xs1 ∧ Xs1 < 300) <|
  w_lt (wi S 74 Xs1 Xs2) fun S37 =>
  w_chk ((0 : Int) ≤ X1 ∧ X1 < 300) <|
  w_lt (gi S37 74 X1) fun V39 =>
  if V39 = (-1) then
    g154_j177 0 S37
  else
    g154_j177 1 S37
theorem g154_j161_ok {x1 : Int32} {X1 : Int} {xs1 : Int32} {Xs1 : Int} {xs2 : Int32} {Xs2 : Int} {S : gM} {M : vm_M} {r : Int × gM} (hR : Rel S M) (t1 : x1.toInt = X1) (ts1 : xs1.toInt = Xs1) (ts2 : xs2.toInt = Xs2) (h : g154_j161 X1 Xs1 Xs2 S = some r) : Mp gRI (f154_j161 55 x1 (some 74) xs1 xs2 M) r := by
  unfold g154_j161 at h
  unfold f154_j161
  refine k_some ?_
  obtain ⟨c36, h⟩ := chk_so h
  obtain ⟨S37, e37, h⟩ := lt_so h
  refine k_si hR (hR.lnF (by decide) rfl) rfl ts1 c36 ts2 e37 (fun M37 R37 => ?_)
  refine k_grF 75 R37 (R37.obF (by decide) rfl) rfl ?_
  refine k_some ?_
  obtain ⟨c38, h⟩ := chk_so h
  obtain ⟨V39, e39, h⟩ := lt_so h
  refine k_ai R37 (R37.lnF (by decide) rfl) rfl t1 c38 e39 (fun v39 z39 => ?_)
  refine k_ite (c_eq z39 tI_m1) h (fun c40 h => ?_) (fun c40 h => ?_)
  · exact g154_j177_ok R37 tI_0 h
  · exact g154_j177_ok R37 tI_1 h
/-- PupilCoinModel.statement(I)Z -/
def g154 (X1 : Int) (S : gM) : Option (Int × gM) :=
  (g138 1818848869 S).bind fun p1 =>
  if p1.1 = 0 then
    (g138 439905906546 p1.2).bind fun p3 =>
    if p3.1 = 0 then
      (g138 6513008 p3.2).bind fun p5 =>
      if p5.1 = 0 then
        (g138 500086104428 p5.2).bind fun p7 =>
        if p7.1 = 0 then
          (g138 1836021349 p7.2).bind fun p9 =>
          if p9.1 = 0 then
            (g138 478660552050 p9.2).bind fun p11 =>
            if p11.1 = 0 then
              w_chk ((0 : Int) ≤ X1 ∧ X1 < 300) <|
              w_lt (wi p11.2 73 X1 6) fun S14 =>
              (g138 495672455781 S14).bind fun p15 =>
              if p15.1 = 0 then
                g154_j215 X1 p15.2
              else
                (g137 p15.2).bind fun p27 =>
                (g143 p27.1 p27.2).bind fun p28 =>
                if p28.1 = (-1) then
                  g154_j215 X1 p28.2
                else
                  g154_j216 X1 1 p28.2
            else
              w_chk ((0 : Int) ≤ X1 ∧ X1 < 300) <|
              w_lt (wi p11.2 73 X1 5) fun S31 =>
              (g138 439905906546 S31).bind fun p32 =>
              if p32.1 = 0 then
                (g138 6513008 p32.2).bind fun p34 =>
                if p34.1 = 0 then
                  g154_j161 X1 X1 (-1) p34.2
                else
                  g154_j161 X1 X1 1 p34.2
              else
                g154_j161 X1 X1 0 p32.2
          else
            (g153 X1 4 100 p9.2).bind fun p41 =>
            g154_j243 p41.1 p41.2
        else
          (g153 X1 3 9999999 p7.2).bind fun p42 =>
          g154_j243 p42.1 p42.2
      else
        (g153 X1 2 1000 p5.2).bind fun p43 =>
        g154_j243 p43.1 p43.2
    else
      (g153 X1 1 1000 p3.2).bind fun p44 =>
      g154_j243 p44.1 p44.2
  else
    (g152 X1 p1.2).bind fun p45 =>
    g154_j243 p45.1 p45.2
theorem g154_ok {x1 : Int32} {X1 : Int} {S : gM} {M : vm_M} {r : Int × gM} (hR : Rel S M) (t1 : x1.toInt = X1) (h : g154 X1 S = some r) : Mp gRI (f154 55 x1 M) r := by
  unfold g154 at h
  unfold f154
  refine k_ob (hR.obF (by decide) rfl) ?_
  obtain ⟨p1, e1, h⟩ := bind_so h
  refine k_call (g138_ok hR tJ_1818848869 e1) (fun b1 R1 => ?_)
  refine k_ite (c_eq R1.1 tI_0) h (fun c2 h => ?_) (fun c2 h => ?_)
  · refine k_ob (R1.2.obF (by decide) rfl) ?_
    obtain ⟨p3, e3, h⟩ := bind_so h
    refine k_call (g138_ok R1.2 tJ_439905906546 e3) (fun b3 R3 => ?_)
    refine k_ite (c_eq R3.1 tI_0) h (fun c4 h => ?_) (fun c4 h => ?_)
    · refine k_ob (R3.2.obF (by decide) rfl) ?_
      obtain ⟨p5, e5, h⟩ := bind_so h
      refine k_call (g138_ok R3.2 tJ_6513008 e5) (fun b5 R5 => ?_)
      refine k_ite (c_eq R5.1 tI_0) h (fun c6 h => ?_) (fun c6 h => ?_)
      · refine k_ob (R5.2.obF (by decide) rfl) ?_
        obtain ⟨p7, e7, h⟩ := bind_so h
        refine k_call (g138_ok R5.2 tJ_500086104428 e7) (fun b7 R7 => ?_)
        refine k_ite (c_eq R7.1 tI_0) h (fun c8 h => ?_) (fun c8 h => ?_)
        · refine k_ob (R7.2.obF (by decide) rfl) ?_
          obtain ⟨p9, e9, h⟩ := bind_so h
          refine k_call (g138_ok R7.2 tJ_1836021349 e9) (fun b9 R9 => ?_)
          refine k_ite (c_eq R9.1 tI_0) h (fun c10 h => ?_) (fun c10 h => ?_)
          · refine k_ob (R9.2.obF (by decide) rfl) ?_
            obtain ⟨p11, e11, h⟩ := bind_so h
            refine k_call (g138_ok R9.2 tJ_478660552050 e11) (fun b11 R11 => ?_)
            refine k_ite (c_eq R11.1 tI_0) h (fun c12 h => ?_) (fun c12 h => ?_)
            · refine k_grF 74 R11.2 (R11.2.obF (by decide) rfl) rfl ?_
              refine k_some ?_
              obtain ⟨c13, h⟩ := chk_so h
              obtain ⟨S14, e14, h⟩ := lt_so h
              refine k_si R11.2 (R11.2.lnF (by decide) rfl) rfl t1 c13 tI_6 e14 (fun M14 R14 => ?_)
              refine k_ob (R14.obF (by decide) rfl) ?_
              obtain ⟨p15, e15, h⟩ := bind_so h
              refine k_call (g138_ok R14 tJ_495672455781 e15) (fun b15 R15 => ?_)
              refine k_ite (c_eq R15.1 tI_0) h (fun c16 h => ?_) (fun c16 h => ?_)
              · exact g154_j215_ok R15.2 t1 h
              · refine k_ob (R15.2.obF (by decide) rfl) ?_
                obtain ⟨p27, e27, h⟩ := bind_so h
                refine k_call (g137_ok R15.2 e27) (fun b27 R27 => ?_)
                refine k_ob (R27.2.obF (by decide) rfl) ?_
                obtain ⟨p28, e28, h⟩ := bind_so h
                refine k_call (g143_ok R27.2 R27.1 e28) (fun b28 R28 => ?_)
                refine k_ite (c_eq R28.1 tI_m1) h (fun c29 h => ?_) (fun c29 h => ?_)
                · exact g154_j215_ok R28.2 t1 h
                · exact g154_j216_ok R28.2 t1 tI_1 h
            · refine k_grF 74 R11.2 (R11.2.obF (by decide) rfl) rfl ?_
              refine k_some ?_
              obtain ⟨c30, h⟩ := chk_so h
              obtain ⟨S31, e31, h⟩ := lt_so h
              refine k_si R11.2 (R11.2.lnF (by decide) rfl) rfl t1 c30 tI_5 e31 (fun M31 R31 => ?_)
              refine k_grF 75 R31 (R31.obF (by decide) rfl) rfl ?_
              refine k_ob (R31.obF (by decide) rfl) ?_
              obtain ⟨p32, e32, h⟩ := bind_so h
              refine k_call (g138_ok R31 tJ_439905906546 e32) (fun b32 R32 => ?_)
              refine k_ite (c_eq R32.1 tI_0) h (fun c33 h => ?_) (fun c33 h => ?_)
              · refine k_ob (R32.2.obF (by decide) rfl) ?_
                obtain ⟨p34, e34, h⟩ := bind_so h
                refine k_call (g138_ok R32.2 tJ_6513008 e34) (fun b34 R34 => ?_)
                refine k_ite (c_eq R34.1 tI_0) h (fun c35 h => ?_) (fun c35 h => ?_)
                · exact g154_j161_ok R34.2 t1 t1 tI_m1 h
                · exact g154_j161_ok R34.2 t1 t1 tI_1 h
              · exact g154_j161_ok R32.2 t1 t1 tI_0 h
          · refine k_ob (R9.2.obF (by decide) rfl) ?_
            obtain ⟨p41, e41, h⟩ := bind_so h
            refine k_call (g153_ok R9.2 t1 tI_4 tI_100 e41) (fun b41 R41 => ?_)
            exact g154_j243_ok R41.2 R41.1 h
        · refine k_ob (R7.2.obF (by decide) rfl) ?_
          obtain ⟨p42, e42, h⟩ := bind_so h
          refine k_call (g153_ok R7.2 t1 tI_3 tI_9999999 e42) (fun b42 R42 => ?_)
          exact g154_j243_ok R42.2 R42.1 h
      · refine k_ob (R5.2.obF (by decide) rfl) ?_
        obtain ⟨p43, e43, h⟩ := bind_so h
        refine k_call (g153_ok R5.2 t1 tI_2 tI_1000 e43) (fun b43 R43 => ?_)
        exact g154_j243_ok R43.2 R43.1 h
    · refine k_ob (R3.2.obF (by decide) rfl) ?_
      obtain ⟨p44, e44, h⟩ := bind_so h
      refine k_call (g153_ok R3.2 t1 tI_1 tI_1000 e44) (fun b44 R44 => ?_)
      exact g154_j243_ok R44.2 R44.1 h
  · refine k_ob (R1.2.obF (by decide) rfl) ?_
    obtain ⟨p45, e45, h⟩ := bind_so h
    refine k_call (g152_ok R1.2 t1 e45) (fun b45 R45 => ?_)
    exact g154_j243_ok R45.2 R45.1 h
def g155_l2 (X1 : Int) (K25 : gM → Option (Int × gM)) : Nat → Int → gM → Option (Int × gM)
  | 0 => fun _ _ => none
  | n + 1 => fun X2 S =>
    if X1 ≤ X2 then
      K25 S
    else
      w_chk ((0 : Int) ≤ X2 ∧ X2 < 700) <|
      w_lt (gi S 83 X2) fun V3 =>
      w_chk ((0 : Int) ≤ X2 ∧ X2 < 700) <|
      w_lt (wi S 84 X2 (b_byte V3)) fun S5 =>
      w_ckI (X2 + 1) fun V6 =>
      g155_l2 X1 K25 n V6 S5
theorem g155_l2_ok {x1 : Int32} {X1 : Int} {k25 : vm_M → Option (Int32 × vm_M)} {K25 : gM → Option (Int × gM)} {r : Int × gM} (hk25 : ∀ (S : gM) (M : vm_M), Rel S M → K25 S = some r → Mp gRI (k25 M) r) (t1 : x1.toInt = X1) : ∀ (n : Nat) (x2 : Int32) (X2 : Int) (S : gM) (M : vm_M), Rel S M → x2.toInt = X2 → g155_l2 X1 K25 n X2 S = some r → Mp gRI (f155_l2 55 x1 k25 n x2 M) r := by
  intro n
  induction n with
  | zero =>
    intro x2 X2 S M hR t2 h
    cases h
  | succ n ih =>
    intro x2 X2 S M hR t2 h
    dsimp only [g155_l2] at h
    dsimp only [f155_l2]
    refine k_ite (c_le t1 t2) h (fun c1 h => ?_) (fun c1 h => ?_)
    · exact hk25 _ _ hR h
    · refine k_grF 85 hR (hR.obF (by decide) rfl) rfl ?_
      refine k_grF 84 hR (hR.obF (by decide) rfl) rfl ?_
      refine k_some ?_
      obtain ⟨c2, h⟩ := chk_so h
      obtain ⟨V3, e3, h⟩ := lt_so h
      refine k_ai hR (hR.lnF (by decide) rfl) rfl t2 c2 e3 (fun v3 z3 => ?_)
      refine k_some ?_
      obtain ⟨c4, h⟩ := chk_so h
      obtain ⟨S5, e5, h⟩ := lt_so h
      refine k_sb hR (hR.lnF (by decide) rfl) rfl t2 c4 z3 e5 (fun M5 R5 => ?_)
      obtain ⟨V6, e6, c6, h⟩ := ckI_so h
      exact ih _ _ _ _ R5 (t_add t2 tI_1 c6 e6) h
def g155_j116 (K142 : Int → gM → Option (Int × gM)) (K66 : Int → gM → Option (Int × gM)) (Xs0 : Int) (S : gM) : Option (Int × gM) :=
  if ¬ Xs0 = 0 then
    w_lt (gi S 70 9) fun V22 =>
    w_ckI (V22 + 1) fun V23 =>
    w_lt (wi S 70 9 V23) fun S24 =>
    (g136 S24).bind fun p25 =>
    K66 Xs0 p25
  else
    K66 Xs0 S
theorem g155_j116_ok {k142 : Int32 → vm_M → Option (Int32 × vm_M)} {K142 : Int → gM → Option (Int × gM)} {k66 : Int32 → vm_M → Option (Int32 × vm_M)} {K66 : Int → gM → Option (Int × gM)} {xs0 : Int32} {Xs0 : Int} {S : gM} {M : vm_M} {r : Int × gM} (hk142 : ∀ (y2 : Int32) (Y2 : Int) (S : gM) (M : vm_M), Rel S M → y2.toInt = Y2 → K142 Y2 S = some r → Mp gRI (k142 y2 M) r) (hk66 : ∀ (y2 : Int32) (Y2 : Int) (S : gM) (M : vm_M), Rel S M → y2.toInt = Y2 → K66 Y2 S = some r → Mp gRI (k66 y2 M) r) (hR : Rel S M) (ts0 : xs0.toInt = Xs0) (h : g155_j116 K142 K66 Xs0 S = some r) : Mp gRI (f155_j116 k142 k66 55 xs0 M) r := by
  unfold g155_j116 at h
  unfold f155_j116
  refine k_ite (c_ne ts0 tI_0) h (fun c21 h => ?_) (fun c21 h => ?_)
  · refine k_grF 71 hR (hR.obF (by decide) rfl) rfl ?_
    refine k_some ?_
    obtain ⟨V22, e22, h⟩ := lt_so h
    refine k_ai hR (hR.lnF (by decide) rfl) rfl tI_9 (by decide) e22 (fun v22 z22 => ?_)
    obtain ⟨V23, e23, c23, h⟩ := ckI_so h
    obtain ⟨S24, e24, h⟩ := lt_so h
    refine k_si hR (hR.lnF (by decide) rfl) rfl tI_9 (by decide) (t_add z22 tI_1 c23 e23) e24 (fun M24 R24 => ?_)
    refine k_ob (R24.obF (by decide) rfl) ?_
    obtain ⟨p25, e25, h⟩ := bind_so h
    refine k_call (g136_ok R24 e25) (fun M25 R25 => ?_)
    exact hk66 _ _ _ _ R25 ts0 h
  · exact hk66 _ _ _ _ hR ts0 h
def g155_j115 (K142 : Int → gM → Option (Int × gM)) (K66 : Int → gM → Option (Int × gM)) (S : gM) : Option (Int × gM) :=
  g155_j116 K142 K66 0 S
theorem g155_j115_ok {k142 : Int32 → vm_M → Option (Int32 × vm_M)} {K142 : Int → gM → Option (Int × gM)} {k66 : Int32 → vm_M → Option (Int32 × vm_M)} {K66 : Int → gM → Option (Int × gM)} {S : gM} {M : vm_M} {r : Int × gM} (hk142 : ∀ (y2 : Int32) (Y2 : Int) (S : gM) (M : vm_M), Rel S M → y2.toInt = Y2 → K142 Y2 S = some r → Mp gRI (k142 y2 M) r) (hk66 : ∀ (y2 : Int32) (Y2 : Int) (S : gM) (M : vm_M), Rel S M → y2.toInt = Y2 → K66 Y2 S = some r → Mp gRI (k66 y2 M) r) (hR : Rel S M) (h : g155_j115 K142 K66 S = some r) : Mp gRI (f155_j115 k142 k66 55 M) r := by
  unfold g155_j115 at h
  unfold f155_j115
  exact g155_j116_ok hk142 hk66 hR tI_0 h
def g155_l66 (K142 : Int → gM → Option (Int × gM)) : Nat → Int → gM → Option (Int × gM)
  | 0 => fun _ _ => none
  | n + 1 => fun X2 S =>
    if X2 = 0 then
      K142 X2 S
    else
      w_lt (gi S 55 21) fun V16 =>
      w_lt (gi S 55 20) fun V17 =>
      if V17 ≤ V16 then
        K142 X2 S
      else
        w_lt (gi S 70 9) fun V19 =>
        if 30 ≤ V19 then
          g155_j115 K142 (g155_l66 K142 n) S
        else
          w_lt (gi S 70 9) fun V26 =>
          w_ckI (270 + V26) fun V27 =>
          (g154 V27 S).bind fun p28 =>
          if p28.1 = 0 then
            g155_j115 K142 (g155_l66 K142 n) p28.2
          else
            g155_j116 K142 (g155_l66 K142 n) 1 p28.2
theorem g155_l66_ok {k142 : Int32 → vm_M → Option (Int32 × vm_M)} {K142 : Int → gM → Option (Int × gM)} {r : Int × gM} (hk142 : ∀ (y2 : Int32) (Y2 : Int) (S : gM) (M : vm_M), Rel S M → y2.toInt = Y2 → K142 Y2 S = some r → Mp gRI (k142 y2 M) r) : ∀ (n : Nat) (x2 : Int32) (X2 : Int) (S : gM) (M : vm_M), Rel S M → x2.toInt = X2 → g155_l66 K142 n X2 S = some r → Mp gRI (f155_l66 55 k142 n x2 M) r := by
  intro n
  induction n with
  | zero =>
    intro x2 X2 S M hR t2 h
    cases h
  | succ n ih =>
    intro x2 X2 S M hR t2 h
    dsimp only [g155_l66] at h
    dsimp only [f155_l66]
    refine k_ite (c_eq t2 tI_0) h (fun c15 h => ?_) (fun c15 h => ?_)
    · exact hk142 _ _ _ _ hR t2 h
    · obtain ⟨V16, e16, h⟩ := lt_so h
      refine k_gi hR (hR.obF (by decide) rfl) rfl e16 (fun v16 z16 => ?_)
      obtain ⟨V17, e17, h⟩ := lt_so h
      refine k_gi hR (hR.obF (by decide) rfl) rfl e17 (fun v17 z17 => ?_)
      refine k_ite (c_le z17 z16) h (fun c18 h => ?_) (fun c18 h => ?_)
      · exact hk142 _ _ _ _ hR t2 h
      · refine k_grF 71 hR (hR.obF (by decide) rfl) rfl ?_
        refine k_some ?_
        obtain ⟨V19, e19, h⟩ := lt_so h
        refine k_ai hR (hR.lnF (by decide) rfl) rfl tI_9 (by decide) e19 (fun v19 z19 => ?_)
        refine k_ite (c_le tI_30 z19) h (fun c20 h => ?_) (fun c20 h => ?_)
        · exact g155_j115_ok hk142 ih hR h
        · refine k_grF 71 hR (hR.obF (by decide) rfl) rfl ?_
          refine k_some ?_
          obtain ⟨V26, e26, h⟩ := lt_so h
          refine k_ai hR (hR.lnF (by decide) rfl) rfl tI_9 (by decide) e26 (fun v26 z26 => ?_)
          obtain ⟨V27, e27, c27, h⟩ := ckI_so h
          refine k_ob (hR.obF (by decide) rfl) ?_
          obtain ⟨p28, e28, h⟩ := bind_so h
          refine k_call (g154_ok hR (t_add tI_270 z26 c27 e27) e28) (fun b28 R28 => ?_)
          refine k_ite (c_eq R28.1 tI_0) h (fun c29 h => ?_) (fun c29 h => ?_)
          · exact g155_j115_ok hk142 ih R28.2 h
          · exact g155_j116_ok hk142 ih R28.2 tI_1 h
def g155_j142 (X2 : Int) (S : gM) : Option (Int × gM) :=
  if X2 = 0 then
    w_lt (gi S 55 21) fun V33 =>
    w_lt (wi S 55 25 V33) fun S34 =>
    w_chk (X2 = 0 ∨ X2 = 1) <|
    some (X2, S34)
  else
    w_lt (wi S 55 25 (-1)) fun S36 =>
    w_chk (X2 = 0 ∨ X2 = 1) <|
    some (X2, S36)
theorem g155_j142_ok {x2 : Int32} {X2 : Int} {S : gM} {M : vm_M} {r : Int × gM} (hR : Rel S M) (t2 : x2.toInt = X2) (h : g155_j142 X2 S = some r) : Mp gRI (f155_j142 55 x2 M) r := by
  unfold g155_j142 at h
  unfold f155_j142
  refine k_ite (c_eq t2 tI_0) h (fun c32 h => ?_) (fun c32 h => ?_)
  · obtain ⟨V33, e33, h⟩ := lt_so h
    refine k_gi hR (hR.obF (by decide) rfl) rfl e33 (fun v33 z33 => ?_)
    obtain ⟨S34, e34, h⟩ := lt_so h
    refine k_pi hR (hR.obF (by decide) rfl) rfl z33 e34 (fun M34 R34 => ?_)
    obtain ⟨c35, h⟩ := chk_so h
    exact k_retZ R34 t2 c35 h
  · obtain ⟨S36, e36, h⟩ := lt_so h
    refine k_pi hR (hR.obF (by decide) rfl) rfl tI_m1 e36 (fun M36 R36 => ?_)
    obtain ⟨c37, h⟩ := chk_so h
    exact k_retZ R36 t2 c37 h
/-- PupilCoinModel.reads(I)Z -/
def g155 (X1 : Int) (S : gM) : Option (Int × gM) :=
  g155_l2 X1
    (fun S7 =>
      w_lt (wi S7 55 20 X1) fun S8 =>
      w_lt (wi S8 55 19 0) fun S9 =>
      w_lt (wi S9 55 21 0) fun S10 =>
      w_lt (wi S10 55 23 0) fun S11 =>
      w_lt (wi S11 55 24 13500) fun S12 =>
      w_lt (wi S12 70 9 0) fun S13 =>
      (g136 S13).bind fun p14 =>
      g155_l66
        (fun Y30 S31 =>
          g155_j142 Y30 S31)
        100000 1 p14)
    100000 0 S
theorem g155_ok {x1 : Int32} {X1 : Int} {S : gM} {M : vm_M} {r : Int × gM} (hR : Rel S M) (t1 : x1.toInt = X1) (h : g155 X1 S = some r) : Mp gRI (f155 55 x1 M) r := by
  unfold g155 at h
  unfold f155
  refine g155_l2_ok ?_ t1 100000 _ _ _ _ hR tI_0 h
  · intro S7 M7 R7
    intro h
    obtain ⟨S8, e8, h⟩ := lt_so h
    refine k_pi R7 (R7.obF (by decide) rfl) rfl t1 e8 (fun M8 R8 => ?_)
    obtain ⟨S9, e9, h⟩ := lt_so h
    refine k_pi R8 (R8.obF (by decide) rfl) rfl tI_0 e9 (fun M9 R9 => ?_)
    obtain ⟨S10, e10, h⟩ := lt_so h
    refine k_pi R9 (R9.obF (by decide) rfl) rfl tI_0 e10 (fun M10 R10 => ?_)
    obtain ⟨S11, e11, h⟩ := lt_so h
    refine k_pi R10 (R10.obF (by decide) rfl) rfl tI_0 e11 (fun M11 R11 => ?_)
    obtain ⟨S12, e12, h⟩ := lt_so h
    refine k_pi R11 (R11.obF (by decide) rfl) rfl tI_13500 e12 (fun M12 R12 => ?_)
    refine k_grF 71 R12 (R12.obF (by decide) rfl) rfl ?_
    refine k_some ?_
    obtain ⟨S13, e13, h⟩ := lt_so h
    refine k_si R12 (R12.lnF (by decide) rfl) rfl tI_9 (by decide) tI_0 e13 (fun M13 R13 => ?_)
    refine k_ob (R13.obF (by decide) rfl) ?_
    obtain ⟨p14, e14, h⟩ := bind_so h
    refine k_call (g136_ok R13 e14) (fun M14 R14 => ?_)
    refine g155_l66_ok ?_ 100000 _ _ _ _ R14 tI_1 h
    · intro y30 Y30 S31 M31 R31 u30
      intro h
      exact g155_j142_ok R31 u30 h
def g156_l42 (X1 : Int) (X3 : Int) (K152 : gM → Option (gM)) : Nat → Int → gM → Option (gM)
  | 0 => fun _ _ => none
  | n + 1 => fun X4 S =>
    w_chk ((0 : Int) ≤ X1 ∧ X1 < 10) <|
    w_lt (gi S 70 X1) fun V12 =>
    if V12 ≤ X4 then
      K152 S
    else
      w_ckI (30 * X1) fun V14 =>
      w_ckI (V14 + X4) fun V15 =>
      w_ckI (270 + X4) fun V16 =>
      w_chk ((0 : Int) ≤ V16 ∧ V16 < 300) <|
      w_lt (gi S 73 V16) fun V18 =>
      w_chk ((0 : Int) ≤ V15 ∧ V15 < 300) <|
      w_lt (wi S 73 V15 V18) fun S20 =>
      w_chk ((0 : Int) ≤ V16 ∧ V16 < 300) <|
      w_lt (gi S20 74 V16) fun V22 =>
      w_chk ((0 : Int) ≤ V15 ∧ V15 < 300) <|
      w_lt (wi S20 74 V15 V22) fun S24 =>
      w_chk ((0 : Int) ≤ V16 ∧ V16 < 300) <|
      w_lt (gi S24 75 V16) fun V26 =>
      w_ckI (V26 + X3) fun V27 =>
      w_chk ((0 : Int) ≤ V15 ∧ V15 < 300) <|
      w_lt (wi S24 75 V15 V27) fun S29 =>
      w_chk ((0 : Int) ≤ V16 ∧ V16 < 300) <|
      w_lt (gi S29 76 V16) fun V31 =>
      w_ckI (V31 + X3) fun V32 =>
      w_chk ((0 : Int) ≤ V15 ∧ V15 < 300) <|
      w_lt (wi S29 76 V15 V32) fun S34 =>
      w_chk ((0 : Int) ≤ V16 ∧ V16 < 300) <|
      w_lt (gi S34 77 V16) fun V36 =>
      w_ckI (V36 + X3) fun V37 =>
      w_chk ((0 : Int) ≤ V15 ∧ V15 < 300) <|
      w_lt (wi S34 77 V15 V37) fun S39 =>
      w_ckI (X4 + 1) fun V40 =>
      g156_l42 X1 X3 K152 n V40 S39
theorem g156_l42_ok {x1 : Int32} {X1 : Int} {x3 : Int32} {X3 : Int} {k152 : vm_M → Option (vm_M)} {K152 : gM → Option (gM)} {r : gM} (hk152 : ∀ (S : gM) (M : vm_M), Rel S M → K152 S = some r → Mp gRV (k152 M) r) (t1 : x1.toInt = X1) (t3 : x3.toInt = X3) : ∀ (n : Nat) (x4 : Int32) (X4 : Int) (S : gM) (M : vm_M), Rel S M → x4.toInt = X4 → g156_l42 X1 X3 K152 n X4 S = some r → Mp gRV (f156_l42 55 x1 x3 k152 n x4 M) r := by
  intro n
  induction n with
  | zero =>
    intro x4 X4 S M hR t4 h
    cases h
  | succ n ih =>
    intro x4 X4 S M hR t4 h
    dsimp only [g156_l42] at h
    dsimp only [f156_l42]
    refine k_grF 71 hR (hR.obF (by decide) rfl) rfl ?_
    refine k_some ?_
    obtain ⟨c11, h⟩ := chk_so h
    obtain ⟨V12, e12, h⟩ := lt_so h
    refine k_ai hR (hR.lnF (by decide) rfl) rfl t1 c11 e12 (fun v12 z12 => ?_)
    refine k_ite (c_le z12 t4) h (fun c13 h => ?_) (fun c13 h => ?_)
    · exact hk152 _ _ hR h
    · obtain ⟨V14, e14, c14, h⟩ := ckI_so h
      obtain ⟨V15, e15, c15, h⟩ := ckI_so h
      obtain ⟨V16, e16, c16, h⟩ := ckI_so h
      refine k_grF 74 hR (hR.obF (by decide) rfl) rfl ?_
      refine k_grF 74 hR (hR.obF (by decide) rfl) rfl ?_
      refine k_some ?_
      obtain ⟨c17, h⟩ := chk_so h
      obtain ⟨V18, e18, h⟩ := lt_so h
      refine k_ai hR (hR.lnF (by decide) rfl) rfl (t_add tI_270 t4 c16 e16) c17 e18 (fun v18 z18 => ?_)
      obtain ⟨c19, h⟩ := chk_so h
      obtain ⟨S20, e20, h⟩ := lt_so h
      refine k_si hR (hR.lnF (by decide) rfl) rfl (t_add (t_mul tI_30 t1 c14 e14) t4 c15 e15) c19 z18 e20 (fun M20 R20 => ?_)
      refine k_grF 75 R20 (R20.obF (by decide) rfl) rfl ?_
      refine k_grF 75 R20 (R20.obF (by decide) rfl) rfl ?_
      refine k_some ?_
      obtain ⟨c21, h⟩ := chk_so h
      obtain ⟨V22, e22, h⟩ := lt_so h
      refine k_ai R20 (R20.lnF (by decide) rfl) rfl (t_add tI_270 t4 c16 e16) c21 e22 (fun v22 z22 => ?_)
      obtain ⟨c23, h⟩ := chk_so h
      obtain ⟨S24, e24, h⟩ := lt_so h
      refine k_si R20 (R20.lnF (by decide) rfl) rfl (t_add (t_mul tI_30 t1 c14 e14) t4 c15 e15) c23 z22 e24 (fun M24 R24 => ?_)
      refine k_grF 76 R24 (R24.obF (by decide) rfl) rfl ?_
      refine k_grF 76 R24 (R24.obF (by decide) rfl) rfl ?_
      refine k_some ?_
      obtain ⟨c25, h⟩ := chk_so h
      obtain ⟨V26, e26, h⟩ := lt_so h
      refine k_ai R24 (R24.lnF (by decide) rfl) rfl (t_add tI_270 t4 c16 e16) c25 e26 (fun v26 z26 => ?_)
      obtain ⟨V27, e27, c27, h⟩ := ckI_so h
      obtain ⟨c28, h⟩ := chk_so h
      obtain ⟨S29, e29, h⟩ := lt_so h
      refine k_si R24 (R24.lnF (by decide) rfl) rfl (t_add (t_mul tI_30 t1 c14 e14) t4 c15 e15) c28 (t_add z26 t3 c27 e27) e29 (fun M29 R29 => ?_)
      refine k_grF 77 R29 (R29.obF (by decide) rfl) rfl ?_
      refine k_grF 77 R29 (R29.obF (by decide) rfl) rfl ?_
      refine k_some ?_
      obtain ⟨c30, h⟩ := chk_so h
      obtain ⟨V31, e31, h⟩ := lt_so h
      refine k_ai R29 (R29.lnF (by decide) rfl) rfl (t_add tI_270 t4 c16 e16) c30 e31 (fun v31 z31 => ?_)
      obtain ⟨V32, e32, c32, h⟩ := ckI_so h
      obtain ⟨c33, h⟩ := chk_so h
      obtain ⟨S34, e34, h⟩ := lt_so h
      refine k_si R29 (R29.lnF (by decide) rfl) rfl (t_add (t_mul tI_30 t1 c14 e14) t4 c15 e15) c33 (t_add z31 t3 c32 e32) e34 (fun M34 R34 => ?_)
      refine k_grF 78 R34 (R34.obF (by decide) rfl) rfl ?_
      refine k_grF 78 R34 (R34.obF (by decide) rfl) rfl ?_
      refine k_some ?_
      obtain ⟨c35, h⟩ := chk_so h
      obtain ⟨V36, e36, h⟩ := lt_so h
      refine k_ai R34 (R34.lnF (by decide) rfl) rfl (t_add tI_270 t4 c16 e16) c35 e36 (fun v36 z36 => ?_)
      obtain ⟨V37, e37, c37, h⟩ := ckI_so h
      obtain ⟨c38, h⟩ := chk_so h
      obtain ⟨S39, e39, h⟩ := lt_so h
      refine k_si R34 (R34.lnF (by decide) rfl) rfl (t_add (t_mul tI_30 t1 c14 e14) t4 c15 e15) c38 (t_add z36 t3 c37 e37) e39 (fun M39 R39 => ?_)
      obtain ⟨V40, e40, c40, h⟩ := ckI_so h
      exact ih _ _ _ _ R39 (t_add t4 tI_1 c40 e40) h
def g156_l157 (X3 : Int) : Nat → Int → gM → Option (gM)
  | 0 => fun _ _ => none
  | n + 1 => fun X4 S =>
    w_lt (gi S 55 24) fun V42 =>
    if V42 ≤ X4 then
      some S
    else
      w_ckI (X4 + X3) fun V44 =>
      w_chk ((0 : Int) ≤ X4 ∧ X4 < 15000) <|
      w_lt (gi S 78 X4) fun V46 =>
      w_chk ((0 : Int) ≤ V44 ∧ V44 < 15000) <|
      w_lt (wi S 78 V44 V46) fun S48 =>
      w_ckI (X4 + X3) fun V49 =>
      w_chk ((0 : Int) ≤ X4 ∧ X4 < 15000) <|
      w_lt (gi S48 79 X4) fun V51 =>
      w_chk ((0 : Int) ≤ V49 ∧ V49 < 15000) <|
      w_lt (wi S48 79 V49 V51) fun S53 =>
      w_ckI (X4 + 1) fun V54 =>
      g156_l157 X3 n V54 S53
theorem g156_l157_ok {x3 : Int32} {X3 : Int} {r : gM} (t3 : x3.toInt = X3) : ∀ (n : Nat) (x4 : Int32) (X4 : Int) (S : gM) (M : vm_M), Rel S M → x4.toInt = X4 → g156_l157 X3 n X4 S = some r → Mp gRV (f156_l157 55 x3 n x4 M) r := by
  intro n
  induction n with
  | zero =>
    intro x4 X4 S M hR t4 h
    cases h
  | succ n ih =>
    intro x4 X4 S M hR t4 h
    dsimp only [g156_l157] at h
    dsimp only [f156_l157]
    obtain ⟨V42, e42, h⟩ := lt_so h
    refine k_gi hR (hR.obF (by decide) rfl) rfl e42 (fun v42 z42 => ?_)
    refine k_ite (c_le z42 t4) h (fun c43 h => ?_) (fun c43 h => ?_)
    · exact k_retV hR h
    · refine k_grF 79 hR (hR.obF (by decide) rfl) rfl ?_
      obtain ⟨V44, e44, c44, h⟩ := ckI_so h
      refine k_grF 79 hR (hR.obF (by decide) rfl) rfl ?_
      refine k_some ?_
      obtain ⟨c45, h⟩ := chk_so h
      obtain ⟨V46, e46, h⟩ := lt_so h
      refine k_ai hR (hR.lnF (by decide) rfl) rfl t4 c45 e46 (fun v46 z46 => ?_)
      obtain ⟨c47, h⟩ := chk_so h
      obtain ⟨S48, e48, h⟩ := lt_so h
      refine k_si hR (hR.lnF (by decide) rfl) rfl (t_add t4 t3 c44 e44) c47 z46 e48 (fun M48 R48 => ?_)
      refine k_grF 80 R48 (R48.obF (by decide) rfl) rfl ?_
      obtain ⟨V49, e49, c49, h⟩ := ckI_so h
      refine k_grF 80 R48 (R48.obF (by decide) rfl) rfl ?_
      refine k_some ?_
      obtain ⟨c50, h⟩ := chk_so h
      obtain ⟨V51, e51, h⟩ := lt_so h
      refine k_ai R48 (R48.lnF (by decide) rfl) rfl t4 c50 e51 (fun v51 z51 => ?_)
      obtain ⟨c52, h⟩ := chk_so h
      obtain ⟨S53, e53, h⟩ := lt_so h
      refine k_si R48 (R48.lnF (by decide) rfl) rfl (t_add t4 t3 c49 e49) c52 z51 e53 (fun M53 R53 => ?_)
      obtain ⟨V54, e54, c54, h⟩ := ckI_so h
      exact ih _ _ _ _ R53 (t_add t4 tI_1 c54 e54) h
/-- PupilCoinModel.becomes(II)V -/
def g156 (X1 : Int) (X2 : Int) (S : gM) : Option (gM) :=
  w_lt (gi S 70 9) fun V1 =>
  w_chk ((0 : Int) ≤ X1 ∧ X1 < 10) <|
  w_lt (wi S 70 X1 V1) fun S3 =>
  w_chk ((0 : Int) ≤ X1 ∧ X1 < 10) <|
  w_lt (wi S3 71 X1 X2) fun S5 =>
  w_lt (gi S5 55 0) fun V6 =>
  w_chk ((0 : Int) ≤ X1 ∧ X1 < 10) <|
  w_lt (wi S5 72 X1 V6) fun S8 =>
  w_ckI (X1 - 9) fun V9 =>
  w_ckI (1500 * V9) fun V10 =>
  g156_l42 X1 V10
    (fun S41 =>
      g156_l157 V10
      
        100000 13500 S41)
    100000 0 S8
theorem g156_ok {x1 : Int32} {X1 : Int} {x2 : Int32} {X2 : Int} {S : gM} {M : vm_M} {r : gM} (hR : Rel S M) (t1 : x1.toInt = X1) (t2 : x2.toInt = X2) (h : g156 X1 X2 S = some r) : Mp gRV (f156 55 x1 x2 M) r := by
  unfold g156 at h
  unfold f156
  refine k_grF 71 hR (hR.obF (by decide) rfl) rfl ?_
  refine k_grF 71 hR (hR.obF (by decide) rfl) rfl ?_
  refine k_some ?_
  obtain ⟨V1, e1, h⟩ := lt_so h
  refine k_ai hR (hR.lnF (by decide) rfl) rfl tI_9 (by decide) e1 (fun v1 z1 => ?_)
  obtain ⟨c2, h⟩ := chk_so h
  obtain ⟨S3, e3, h⟩ := lt_so h
  refine k_si hR (hR.lnF (by decide) rfl) rfl t1 c2 z1 e3 (fun M3 R3 => ?_)
  refine k_grF 72 R3 (R3.obF (by decide) rfl) rfl ?_
  refine k_some ?_
  obtain ⟨c4, h⟩ := chk_so h
  obtain ⟨S5, e5, h⟩ := lt_so h
  refine k_si R3 (R3.lnF (by decide) rfl) rfl t1 c4 t2 e5 (fun M5 R5 => ?_)
  refine k_grF 73 R5 (R5.obF (by decide) rfl) rfl ?_
  obtain ⟨V6, e6, h⟩ := lt_so h
  refine k_gi R5 (R5.obF (by decide) rfl) rfl e6 (fun v6 z6 => ?_)
  refine k_some ?_
  obtain ⟨c7, h⟩ := chk_so h
  obtain ⟨S8, e8, h⟩ := lt_so h
  refine k_si R5 (R5.lnF (by decide) rfl) rfl t1 c7 z6 e8 (fun M8 R8 => ?_)
  obtain ⟨V9, e9, c9, h⟩ := ckI_so h
  obtain ⟨V10, e10, c10, h⟩ := ckI_so h
  refine g156_l42_ok ?_ t1 (t_mul tI_1500 (t_sub t1 tI_9 c9 e9) c10 e10) 100000 _ _ _ _ R8 tI_0 h
  · intro S41 M41 R41
    intro h
    refine g156_l157_ok (t_mul tI_1500 (t_sub t1 tI_9 c9 e9) c10 e10) 100000 _ _ _ _ R41 tI_13500 h
/-- PupilCoinModel.formula(II)I -/
def g157 (X1 : Int) (X2 : Int) (S : gM) : Option (Int × gM) :=
  w_lt (gi S 55 19) fun V1 =>
  (g112 X1 0 V1 S).bind fun p2 =>
  if p2.1 = 0 then
    some ((-2), p2.2)
  else
    (g118 p2.2).bind fun p4 =>
    (g112 X2 p4.1 9 p4.2).bind fun p5 =>
    if ¬ p5.1 = 0 then
      w_lt (gi p5.2 55 18) fun V7 =>
      if ¬ V7 = 8 then
        (g155 X1 p5.2).bind fun p9 =>
        if ¬ p9.1 = 0 then
          w_lt (gi p9.2 55 18) fun V11 =>
          (g156 V11 X2 p9.2).bind fun p12 =>
          w_lt (gi p12 55 18) fun V13 =>
          w_ckI (V13 + 1) fun V14 =>
          w_lt (wi p12 55 18 V14) fun S15 =>
          w_lt (gi S15 55 18) fun V16 =>
          w_ckI (V16 - 1) fun V17 =>
          some (V17, S15)
        else
          some ((-1), p9.2)
      else
        some ((-3), p5.2)
    else
      some ((-2), p5.2)
theorem g157_ok {x1 : Int32} {X1 : Int} {x2 : Int32} {X2 : Int} {S : gM} {M : vm_M} {r : Int × gM} (hR : Rel S M) (t1 : x1.toInt = X1) (t2 : x2.toInt = X2) (h : g157 X1 X2 S = some r) : Mp gRI (f157 55 x1 x2 M) r := by
  unfold g157 at h
  unfold f157
  obtain ⟨V1, e1, h⟩ := lt_so h
  refine k_gi hR (hR.obF (by decide) rfl) rfl e1 (fun v1 z1 => ?_)
  obtain ⟨p2, e2, h⟩ := bind_so h
  refine k_call (g112_ok hR t1 tI_0 z1 e2) (fun b2 R2 => ?_)
  refine k_ite (c_eq R2.1 tI_0) h (fun c3 h => ?_) (fun c3 h => ?_)
  · exact k_retI R2.2 tI_m2 h
  · refine k_ob (R2.2.obF (by decide) rfl) ?_
    obtain ⟨p4, e4, h⟩ := bind_so h
    refine k_call (g118_ok R2.2 e4) (fun b4 R4 => ?_)
    obtain ⟨p5, e5, h⟩ := bind_so h
    refine k_call (g112_ok R4.2 t2 R4.1 tI_9 e5) (fun b5 R5 => ?_)
    refine k_ite (c_ne R5.1 tI_0) h (fun c6 h => ?_) (fun c6 h => ?_)
    · obtain ⟨V7, e7, h⟩ := lt_so h
      refine k_gi R5.2 (R5.2.obF (by decide) rfl) rfl e7 (fun v7 z7 => ?_)
      refine k_ite (c_ne z7 tI_8) h (fun c8 h => ?_) (fun c8 h => ?_)
      · refine k_ob (R5.2.obF (by decide) rfl) ?_
        obtain ⟨p9, e9, h⟩ := bind_so h
        refine k_call (g155_ok R5.2 t1 e9) (fun b9 R9 => ?_)
        refine k_ite (c_ne R9.1 tI_0) h (fun c10 h => ?_) (fun c10 h => ?_)
        · obtain ⟨V11, e11, h⟩ := lt_so h
          refine k_gi R9.2 (R9.2.obF (by decide) rfl) rfl e11 (fun v11 z11 => ?_)
          refine k_ob (R9.2.obF (by decide) rfl) ?_
          obtain ⟨p12, e12, h⟩ := bind_so h
          refine k_call (g156_ok R9.2 z11 t2 e12) (fun M12 R12 => ?_)
          obtain ⟨V13, e13, h⟩ := lt_so h
          refine k_gi R12 (R12.obF (by decide) rfl) rfl e13 (fun v13 z13 => ?_)
          obtain ⟨V14, e14, c14, h⟩ := ckI_so h
          obtain ⟨S15, e15, h⟩ := lt_so h
          refine k_pi R12 (R12.obF (by decide) rfl) rfl (t_add z13 tI_1 c14 e14) e15 (fun M15 R15 => ?_)
          obtain ⟨V16, e16, h⟩ := lt_so h
          refine k_gi R15 (R15.obF (by decide) rfl) rfl e16 (fun v16 z16 => ?_)
          obtain ⟨V17, e17, c17, h⟩ := ckI_so h
          exact k_retI R15 (t_sub z16 tI_1 c17 e17) h
        · exact k_retI R9.2 tI_m1 h
      · exact k_retI R5.2 tI_m3 h
    · exact k_retI R5.2 tI_m2 h
/-- PupilCoinModel.beside(I)I -/
def g158 (X1 : Int) (S : gM) : Option (Int × gM) :=
  w_lt (gi S 55 19) fun V1 =>
  (g112 X1 0 V1 S).bind fun p2 =>
  if ¬ p2.1 = 0 then
    (g155 X1 p2.2).bind fun p4 =>
    w_chk (p4.1 = 0 ∨ p4.1 = 1) <|
    w_lt (wi p4.2 55 26 p4.1) fun S6 =>
    w_lt (gi S6 55 26) fun V7 =>
    if ¬ V7 = 0 then
      (g156 8 0 S6).bind fun p9 =>
      some (0, p9)
    else
      some ((-1), S6)
  else
    some ((-2), p2.2)
theorem g158_ok {x1 : Int32} {X1 : Int} {S : gM} {M : vm_M} {r : Int × gM} (hR : Rel S M) (t1 : x1.toInt = X1) (h : g158 X1 S = some r) : Mp gRI (f158 55 x1 M) r := by
  unfold g158 at h
  unfold f158
  obtain ⟨V1, e1, h⟩ := lt_so h
  refine k_gi hR (hR.obF (by decide) rfl) rfl e1 (fun v1 z1 => ?_)
  obtain ⟨p2, e2, h⟩ := bind_so h
  refine k_call (g112_ok hR t1 tI_0 z1 e2) (fun b2 R2 => ?_)
  refine k_ite (c_ne R2.1 tI_0) h (fun c3 h => ?_) (fun c3 h => ?_)
  · refine k_ob (R2.2.obF (by decide) rfl) ?_
    obtain ⟨p4, e4, h⟩ := bind_so h
    refine k_call (g155_ok R2.2 t1 e4) (fun b4 R4 => ?_)
    obtain ⟨c5, h⟩ := chk_so h
    obtain ⟨S6, e6, h⟩ := lt_so h
    refine k_pz R4.2 (R4.2.obF (by decide) rfl) rfl R4.1 c5 e6 (fun M6 R6 => ?_)
    obtain ⟨V7, e7, h⟩ := lt_so h
    refine k_gi R6 (R6.obF (by decide) rfl) rfl e7 (fun v7 z7 => ?_)
    refine k_ite (c_ne z7 tI_0) h (fun c8 h => ?_) (fun c8 h => ?_)
    · refine k_ob (R6.obF (by decide) rfl) ?_
      obtain ⟨p9, e9, h⟩ := bind_so h
      refine k_call (g156_ok R6 tI_8 tI_0 e9) (fun M9 R9 => ?_)
      exact k_retI R9 tI_0 h
    · exact k_retI R6 tI_m1 h
  · exact k_retI R2.2 tI_m2 h
/-- PupilCoinModel.fault()I -/
def g159 (S : gM) : Option (Int × gM) :=
  w_lt (gi S 55 25) fun V1 =>
  some (V1, S)
theorem g159_ok {S : gM} {M : vm_M} {r : Int × gM} (hR : Rel S M) (h : g159 S = some r) : Mp gRI (f159 55 M) r := by
  unfold g159 at h
  unfold f159
  obtain ⟨V1, e1, h⟩ := lt_so h
  refine k_gi hR (hR.obF (by decide) rfl) rfl e1 (fun v1 z1 => ?_)
  exact k_retI hR z1 h
def g160_l5 (X1 : Int) (X2 : Int) : Nat → Int → Int → gM → Option (Int × gM)
  | 0 => fun _ _ _ => none
  | n + 1 => fun X3 X4 S =>
    w_lt (gi S 55 18) fun V1 =>
    if V1 ≤ X4 then
      some (X3, S)
    else
      w_chk ((0 : Int) ≤ X4 ∧ X4 < 10) <|
      w_lt (gi S 72 X4) fun V4 =>
      if X2 < V4 then
        w_ckI (X4 + 1) fun V6 =>
        g160_l5 X1 X2 n X3 V6 S
      else
        w_chk ((0 : Int) ≤ X4 ∧ X4 < 10) <|
        w_lt (gi S 71 X4) fun V8 =>
        if X1 < V8 then
          w_ckI (X4 + 1) fun V10 =>
          g160_l5 X1 X2 n X3 V10 S
        else
          if X3 = (-1) then
            w_ckI (X4 + 1) fun V12 =>
            g160_l5 X1 X2 n X4 V12 S
          else
            w_chk ((0 : Int) ≤ X4 ∧ X4 < 10) <|
            w_lt (gi S 71 X4) fun V14 =>
            w_chk ((0 : Int) ≤ X3 ∧ X3 < 10) <|
            w_lt (gi S 71 X3) fun V16 =>
            if V14 < V16 then
              w_ckI (X4 + 1) fun V18 =>
              g160_l5 X1 X2 n X3 V18 S
            else
              w_ckI (X4 + 1) fun V19 =>
              g160_l5 X1 X2 n X4 V19 S
theorem g160_l5_ok {x1 : Int32} {X1 : Int} {x2 : Int32} {X2 : Int} {r : Int × gM} (t1 : x1.toInt = X1) (t2 : x2.toInt = X2) : ∀ (n : Nat) (x3 : Int32) (X3 : Int) (x4 : Int32) (X4 : Int) (S : gM) (M : vm_M), Rel S M → x3.toInt = X3 → x4.toInt = X4 → g160_l5 X1 X2 n X3 X4 S = some r → Mp gRI (f160_l5 55 x1 x2 n x3 x4 M) r := by
  intro n
  induction n with
  | zero =>
    intro x3 X3 x4 X4 S M hR t3 t4 h
    cases h
  | succ n ih =>
    intro x3 X3 x4 X4 S M hR t3 t4 h
    dsimp only [g160_l5] at h
    dsimp only [f160_l5]
    obtain ⟨V1, e1, h⟩ := lt_so h
    refine k_gi hR (hR.obF (by decide) rfl) rfl e1 (fun v1 z1 => ?_)
    refine k_ite (c_le z1 t4) h (fun c2 h => ?_) (fun c2 h => ?_)
    · exact k_retI hR t3 h
    · refine k_grF 73 hR (hR.obF (by decide) rfl) rfl ?_
      refine k_some ?_
      obtain ⟨c3, h⟩ := chk_so h
      obtain ⟨V4, e4, h⟩ := lt_so h
      refine k_ai hR (hR.lnF (by decide) rfl) rfl t4 c3 e4 (fun v4 z4 => ?_)
      refine k_ite (c_lt t2 z4) h (fun c5 h => ?_) (fun c5 h => ?_)
      · obtain ⟨V6, e6, c6, h⟩ := ckI_so h
        exact ih _ _ _ _ _ _ hR t3 (t_add t4 tI_1 c6 e6) h
      · refine k_grF 72 hR (hR.obF (by decide) rfl) rfl ?_
        refine k_some ?_
        obtain ⟨c7, h⟩ := chk_so h
        obtain ⟨V8, e8, h⟩ := lt_so h
        refine k_ai hR (hR.lnF (by decide) rfl) rfl t4 c7 e8 (fun v8 z8 => ?_)
        refine k_ite (c_lt t1 z8) h (fun c9 h => ?_) (fun c9 h => ?_)
        · obtain ⟨V10, e10, c10, h⟩ := ckI_so h
          exact ih _ _ _ _ _ _ hR t3 (t_add t4 tI_1 c10 e10) h
        · refine k_ite (c_eq t3 tI_m1) h (fun c11 h => ?_) (fun c11 h => ?_)
          · obtain ⟨V12, e12, c12, h⟩ := ckI_so h
            exact ih _ _ _ _ _ _ hR t4 (t_add t4 tI_1 c12 e12) h
          · refine k_grF 72 hR (hR.obF (by decide) rfl) rfl ?_
            refine k_some ?_
            obtain ⟨c13, h⟩ := chk_so h
            obtain ⟨V14, e14, h⟩ := lt_so h
            refine k_ai hR (hR.lnF (by decide) rfl) rfl t4 c13 e14 (fun v14 z14 => ?_)
            refine k_grF 72 hR (hR.obF (by decide) rfl) rfl ?_
            refine k_some ?_
            obtain ⟨c15, h⟩ := chk_so h
            obtain ⟨V16, e16, h⟩ := lt_so h
            refine k_ai hR (hR.lnF (by decide) rfl) rfl t3 c15 e16 (fun v16 z16 => ?_)
            refine k_ite (c_lt z14 z16) h (fun c17 h => ?_) (fun c17 h => ?_)
            · obtain ⟨V18, e18, c18, h⟩ := ckI_so h
              exact ih _ _ _ _ _ _ hR t3 (t_add t4 tI_1 c18 e18) h
            · obtain ⟨V19, e19, c19, h⟩ := ckI_so h
              exact ih _ _ _ _ _ _ hR t4 (t_add t4 tI_1 c19 e19) h
/-- PupilCoinModel.inForce(II)I -/
def g160 (X1 : Int) (X2 : Int) (S : gM) : Option (Int × gM) :=
  g160_l5 X1 X2
  
    100000 (-1) 0 S
theorem g160_ok {x1 : Int32} {X1 : Int} {x2 : Int32} {X2 : Int} {S : gM} {M : vm_M} {r : Int × gM} (hR : Rel S M) (t1 : x1.toInt = X1) (t2 : x2.toInt = X2) (h : g160 X1 X2 S = some r) : Mp gRI (f160 55 x1 x2 M) r := by
  unfold g160 at h
  unfold f160
  refine g160_l5_ok t1 t2 100000 _ _ _ _ _ _ hR tI_m1 tI_0 h
def g161_l8 (X1 : Int) (X2 : Int) : Nat → Int → Int → gM → Option (Int × gM)
  | 0 => fun _ _ _ => none
  | n + 1 => fun X3 X4 S =>
    if X1 = (-1) then
      some (X3, S)
    else
      w_ckI (30 * X1) fun V3 =>
      w_chk ((0 : Int) ≤ X1 ∧ X1 < 10) <|
      w_lt (gi S 70 X1) fun V5 =>
      w_ckI (V3 + V5) fun V6 =>
      if V6 ≤ X4 then
        some (X3, S)
      else
        w_chk ((0 : Int) ≤ X4 ∧ X4 < 300) <|
        w_lt (gi S 73 X4) fun V9 =>
        if ¬ V9 = X2 then
          w_ckI (X4 + 1) fun V11 =>
          g161_l8 X1 X2 n X3 V11 S
        else
          w_ckI (X4 + 1) fun V12 =>
          g161_l8 X1 X2 n X4 V12 S
theorem g161_l8_ok {x1 : Int32} {X1 : Int} {x2 : Int32} {X2 : Int} {r : Int × gM} (t1 : x1.toInt = X1) (t2 : x2.toInt = X2) : ∀ (n : Nat) (x3 : Int32) (X3 : Int) (x4 : Int32) (X4 : Int) (S : gM) (M : vm_M), Rel S M → x3.toInt = X3 → x4.toInt = X4 → g161_l8 X1 X2 n X3 X4 S = some r → Mp gRI (f161_l8 55 x1 x2 n x3 x4 M) r := by
  intro n
  induction n with
  | zero =>
    intro x3 X3 x4 X4 S M hR t3 t4 h
    cases h
  | succ n ih =>
    intro x3 X3 x4 X4 S M hR t3 t4 h
    dsimp only [g161_l8] at h
    dsimp only [f161_l8]
    refine k_ite (c_eq t1 tI_m1) h (fun c2 h => ?_) (fun c2 h => ?_)
    · exact k_retI hR t3 h
    · obtain ⟨V3, e3, c3, h⟩ := ckI_so h
      refine k_grF 71 hR (hR.obF (by decide) rfl) rfl ?_
      refine k_some ?_
      obtain ⟨c4, h⟩ := chk_so h
      obtain ⟨V5, e5, h⟩ := lt_so h
      refine k_ai hR (hR.lnF (by decide) rfl) rfl t1 c4 e5 (fun v5 z5 => ?_)
      obtain ⟨V6, e6, c6, h⟩ := ckI_so h
      refine k_ite (c_le (t_add (t_mul tI_30 t1 c3 e3) z5 c6 e6) t4) h (fun c7 h => ?_) (fun c7 h => ?_)
      · exact k_retI hR t3 h
      · refine k_grF 74 hR (hR.obF (by decide) rfl) rfl ?_
        refine k_some ?_
        obtain ⟨c8, h⟩ := chk_so h
        obtain ⟨V9, e9, h⟩ := lt_so h
        refine k_ai hR (hR.lnF (by decide) rfl) rfl t4 c8 e9 (fun v9 z9 => ?_)
        refine k_ite (c_ne z9 t2) h (fun c10 h => ?_) (fun c10 h => ?_)
        · obtain ⟨V11, e11, c11, h⟩ := ckI_so h
          exact ih _ _ _ _ _ _ hR t3 (t_add t4 tI_1 c11 e11) h
        · obtain ⟨V12, e12, c12, h⟩ := ckI_so h
          exact ih _ _ _ _ _ _ hR t4 (t_add t4 tI_1 c12 e12) h
/-- PupilCoinModel.last(II)I -/
def g161 (X1 : Int) (X2 : Int) (S : gM) : Option (Int × gM) :=
  w_ckI (30 * X1) fun V1 =>
  g161_l8 X1 X2
  
    100000 (-1) V1 S
theorem g161_ok {x1 : Int32} {X1 : Int} {x2 : Int32} {X2 : Int} {S : gM} {M : vm_M} {r : Int × gM} (hR : Rel S M) (t1 : x1.toInt = X1) (t2 : x2.toInt = X2) (h : g161 X1 X2 S = some r) : Mp gRI (f161 55 x1 x2 M) r := by
  unfold g161 at h
  unfold f161
  obtain ⟨V1, e1, c1, h⟩ := ckI_so h
  refine g161_l8_ok t1 t2 100000 _ _ _ _ _ _ hR tI_m1 (t_mul tI_30 t1 c1 e1) h
/-- PupilCoinModel.tells(III)I -/
def g162 (X1 : Int) (X2 : Int) (X3 : Int) (S : gM) : Option (Int × gM) :=
  (g161 X1 X2 S).bind fun p1 =>
  if ¬ p1.1 = (-1) then
    (g161 X1 X2 p1.2).bind fun p3 =>
    w_chk ((0 : Int) ≤ p3.1 ∧ p3.1 < 300) <|
    w_lt (gi p3.2 74 p3.1) fun V5 =>
    some (V5, p3.2)
  else
    some (X3, p1.2)
theorem g162_ok {x1 : Int32} {X1 : Int} {x2 : Int32} {X2 : Int} {x3 : Int32} {X3 : Int} {S : gM} {M : vm_M} {r : Int × gM} (hR : Rel S M) (t1 : x1.toInt = X1) (t2 : x2.toInt = X2) (t3 : x3.toInt = X3) (h : g162 X1 X2 X3 S = some r) : Mp gRI (f162 55 x1 x2 x3 M) r := by
  unfold g162 at h
  unfold f162
  refine k_ob (hR.obF (by decide) rfl) ?_
  obtain ⟨p1, e1, h⟩ := bind_so h
  refine k_call (g161_ok hR t1 t2 e1) (fun b1 R1 => ?_)
  refine k_ite (c_ne R1.1 tI_m1) h (fun c2 h => ?_) (fun c2 h => ?_)
  · refine k_grF 75 R1.2 (R1.2.obF (by decide) rfl) rfl ?_
    refine k_ob (R1.2.obF (by decide) rfl) ?_
    obtain ⟨p3, e3, h⟩ := bind_so h
    refine k_call (g161_ok R1.2 t1 t2 e3) (fun b3 R3 => ?_)
    refine k_some ?_
    obtain ⟨c4, h⟩ := chk_so h
    obtain ⟨V5, e5, h⟩ := lt_so h
    refine k_ai R3.2 (R3.2.lnF (by decide) rfl) rfl R3.1 c4 e5 (fun v5 z5 => ?_)
    exact k_retI R3.2 z5 h
  · exact k_retI R1.2 t3 h
def g163_l5 (X2 : Int) : Nat → Int → gM → Option (Int × gM)
  | 0 => fun _ _ => none
  | n + 1 => fun X3 S =>
    w_chk ((0 : Int) ≤ X3 ∧ X3 < 300) <|
    w_lt (gi S 73 X3) fun V3 =>
    if ¬ V3 = 0 then
      w_ckI (X3 + 1) fun V5 =>
      g163_l5 X2 n V5 S
    else
      w_chk ((0 : Int) ≤ X3 ∧ X3 < 300) <|
      w_lt (gi S 74 X3) fun V7 =>
      if V7 = X2 then
        w_ckI (X3.tdiv 30) fun _ =>
        w_lt (X3.tmod 30) fun V9 =>
        some (V9, S)
      else
        w_ckI (X3 + 1) fun V10 =>
        g163_l5 X2 n V10 S
theorem g163_l5_ok {x2 : Int32} {X2 : Int} {r : Int × gM} (t2 : x2.toInt = X2) : ∀ (n : Nat) (x3 : Int32) (X3 : Int) (S : gM) (M : vm_M), Rel S M → x3.toInt = X3 → g163_l5 X2 n X3 S = some r → Mp gRI (f163_l5 55 x2 n x3 M) r := by
  intro n
  induction n with
  | zero =>
    intro x3 X3 S M hR t3 h
    cases h
  | succ n ih =>
    intro x3 X3 S M hR t3 h
    dsimp only [g163_l5] at h
    dsimp only [f163_l5]
    refine k_grF 74 hR (hR.obF (by decide) rfl) rfl ?_
    refine k_some ?_
    obtain ⟨c2, h⟩ := chk_so h
    obtain ⟨V3, e3, h⟩ := lt_so h
    refine k_ai hR (hR.lnF (by decide) rfl) rfl t3 c2 e3 (fun v3 z3 => ?_)
    refine k_ite (c_ne z3 tI_0) h (fun c4 h => ?_) (fun c4 h => ?_)
    · obtain ⟨V5, e5, c5, h⟩ := ckI_so h
      exact ih _ _ _ _ hR (t_add t3 tI_1 c5 e5) h
    · refine k_grF 75 hR (hR.obF (by decide) rfl) rfl ?_
      refine k_some ?_
      obtain ⟨c6, h⟩ := chk_so h
      obtain ⟨V7, e7, h⟩ := lt_so h
      refine k_ai hR (hR.lnF (by decide) rfl) rfl t3 c6 e7 (fun v7 z7 => ?_)
      refine k_ite (c_eq z7 t2) h (fun c8 h => ?_) (fun c8 h => ?_)
      · obtain ⟨_, _, c9, h⟩ := ckI_so h
        obtain ⟨V9, e9, h⟩ := lt_so h
        refine k_rmI t3 tI_30 (by decide) c9 e9 (fun v9 z9 => ?_)
        exact k_retI hR z9 h
      · obtain ⟨V10, e10, c10, h⟩ := ckI_so h
        exact ih _ _ _ _ hR (t_add t3 tI_1 c10 e10) h
/-- PupilCoinModel.lineAt(II)I -/
def g163 (X1 : Int) (X2 : Int) (S : gM) : Option (Int × gM) :=
  w_ckI (30 * X1) fun V1 =>
  g163_l5 X2
  
    100000 V1 S
theorem g163_ok {x1 : Int32} {X1 : Int} {x2 : Int32} {X2 : Int} {S : gM} {M : vm_M} {r : Int × gM} (hR : Rel S M) (t1 : x1.toInt = X1) (t2 : x2.toInt = X2) (h : g163 X1 X2 S = some r) : Mp gRI (f163 55 x1 x2 M) r := by
  unfold g163 at h
  unfold f163
  obtain ⟨V1, e1, c1, h⟩ := ckI_so h
  refine g163_l5_ok t2 100000 _ _ _ _ hR (t_mul tI_30 t1 c1 e1) h
/-- PupilCoinModel.law(III)I -/
def g164 (X1 : Int) (X2 : Int) (X3 : Int) (S : gM) : Option (Int × gM) :=
  (g115 X1 S).bind fun p1 =>
  if p1.1 = 0 then
    some ((-1), p1.2)
  else
    (g114 X2 p1.2).bind fun p3 =>
    if ¬ p3.1 = 0 then
      (g160 X1 X2 p3.2).bind fun p5 =>
      if X3 = 0 then
        (g162 p5.1 1 (-1) p5.2).bind fun p7 =>
        some (p7.1, p7.2)
      else if X3 = 1 then
        (g162 p5.1 2 (-1) p5.2).bind fun p9 =>
        some (p9.1, p9.2)
      else if X3 = 2 then
        (g162 p5.1 3 (-1) p5.2).bind fun p11 =>
        some (p11.1, p11.2)
      else if X3 = 3 then
        (g162 p5.1 4 0 p5.2).bind fun p13 =>
        some (p13.1, p13.2)
      else if X3 = 4 then
        (g162 p5.1 5 0 p5.2).bind fun p15 =>
        some (p15.1, p15.2)
      else if X3 = 5 then
        (g161 p5.1 6 p5.2).bind fun p17 =>
        if ¬ p17.1 = (-1) then
          (g161 p5.1 6 p17.2).bind fun p19 =>
          w_chk ((0 : Int) ≤ p19.1 ∧ p19.1 < 300) <|
          w_lt (gi p19.2 74 p19.1) fun V21 =>
          (g163 p5.1 V21 p19.2).bind fun p22 =>
          some (p22.1, p22.2)
        else
          some ((-1), p17.2)
      else if X3 = 6 then
        if ¬ p5.1 = (-1) then
          w_chk ((0 : Int) ≤ p5.1 ∧ p5.1 < 10) <|
          w_lt (gi p5.2 70 p5.1) fun V26 =>
          some (V26, p5.2)
        else
          some (0, p5.2)
      else if X3 = 7 then
        some (p5.1, p5.2)
      else 
        some ((-1), p5.2)
    else
      some ((-1), p3.2)
theorem g164_ok {x1 : Int32} {X1 : Int} {x2 : Int32} {X2 : Int} {x3 : Int32} {X3 : Int} {S : gM} {M : vm_M} {r : Int × gM} (hR : Rel S M) (t1 : x1.toInt = X1) (t2 : x2.toInt = X2) (t3 : x3.toInt = X3) (h : g164 X1 X2 X3 S = some r) : Mp gRI (f164 55 x1 x2 x3 M) r := by
  unfold g164 at h
  unfold f164
  obtain ⟨p1, e1, h⟩ := bind_so h
  refine k_call (g115_ok hR t1 e1) (fun b1 R1 => ?_)
  refine k_ite (c_eq R1.1 tI_0) h (fun c2 h => ?_) (fun c2 h => ?_)
  · exact k_retI R1.2 tI_m1 h
  · obtain ⟨p3, e3, h⟩ := bind_so h
    refine k_call (g114_ok R1.2 t2 e3) (fun b3 R3 => ?_)
    refine k_ite (c_ne R3.1 tI_0) h (fun c4 h => ?_) (fun c4 h => ?_)
    · refine k_ob (R3.2.obF (by decide) rfl) ?_
      obtain ⟨p5, e5, h⟩ := bind_so h
      refine k_call (g160_ok R3.2 t1 t2 e5) (fun b5 R5 => ?_)
      refine k_ite (c_eq t3 tI_0) h (fun c6 h => ?_) (fun c6 h => ?_)
      · refine k_ob (R5.2.obF (by decide) rfl) ?_
        obtain ⟨p7, e7, h⟩ := bind_so h
        refine k_call (g162_ok R5.2 R5.1 tI_1 tI_m1 e7) (fun b7 R7 => ?_)
        exact k_retI R7.2 R7.1 h
      refine k_ite (c_eq t3 tI_1) h (fun c8 h => ?_) (fun c8 h => ?_)
      · refine k_ob (R5.2.obF (by decide) rfl) ?_
        obtain ⟨p9, e9, h⟩ := bind_so h
        refine k_call (g162_ok R5.2 R5.1 tI_2 tI_m1 e9) (fun b9 R9 => ?_)
        exact k_retI R9.2 R9.1 h
      refine k_ite (c_eq t3 tI_2) h (fun c10 h => ?_) (fun c10 h => ?_)
      · refine k_ob (R5.2.obF (by decide) rfl) ?_
        obtain ⟨p11, e11, h⟩ := bind_so h
        refine k_call (g162_ok R5.2 R5.1 tI_3 tI_m1 e11) (fun b11 R11 => ?_)
        exact k_retI R11.2 R11.1 h
      refine k_ite (c_eq t3 tI_3) h (fun c12 h => ?_) (fun c12 h => ?_)
      · refine k_ob (R5.2.obF (by decide) rfl) ?_
        obtain ⟨p13, e13, h⟩ := bind_so h
        refine k_call (g162_ok R5.2 R5.1 tI_4 tI_0 e13) (fun b13 R13 => ?_)
        exact k_retI R13.2 R13.1 h
      refine k_ite (c_eq t3 tI_4) h (fun c14 h => ?_) (fun c14 h => ?_)
      · refine k_ob (R5.2.obF (by decide) rfl) ?_
        obtain ⟨p15, e15, h⟩ := bind_so h
        refine k_call (g162_ok R5.2 R5.1 tI_5 tI_0 e15) (fun b15 R15 => ?_)
        exact k_retI R15.2 R15.1 h
      refine k_ite (c_eq t3 tI_5) h (fun c16 h => ?_) (fun c16 h => ?_)
      · refine k_ob (R5.2.obF (by decide) rfl) ?_
        obtain ⟨p17, e17, h⟩ := bind_so h
        refine k_call (g161_ok R5.2 R5.1 tI_6 e17) (fun b17 R17 => ?_)
        refine k_ite (c_ne R17.1 tI_m1) h (fun c18 h => ?_) (fun c18 h => ?_)
        · refine k_grF 75 R17.2 (R17.2.obF (by decide) rfl) rfl ?_
          refine k_ob (R17.2.obF (by decide) rfl) ?_
          obtain ⟨p19, e19, h⟩ := bind_so h
          refine k_call (g161_ok R17.2 R5.1 tI_6 e19) (fun b19 R19 => ?_)
          refine k_some ?_
          obtain ⟨c20, h⟩ := chk_so h
          obtain ⟨V21, e21, h⟩ := lt_so h
          refine k_ai R19.2 (R19.2.lnF (by decide) rfl) rfl R19.1 c20 e21 (fun v21 z21 => ?_)
          refine k_ob (R19.2.obF (by decide) rfl) ?_
          obtain ⟨p22, e22, h⟩ := bind_so h
          refine k_call (g163_ok R19.2 R5.1 z21 e22) (fun b22 R22 => ?_)
          exact k_retI R22.2 R22.1 h
        · exact k_retI R17.2 tI_m1 h
      refine k_ite (c_eq t3 tI_6) h (fun c23 h => ?_) (fun c23 h => ?_)
      · refine k_ite (c_ne R5.1 tI_m1) h (fun c24 h => ?_) (fun c24 h => ?_)
        · refine k_grF 71 R5.2 (R5.2.obF (by decide) rfl) rfl ?_
          refine k_some ?_
          obtain ⟨c25, h⟩ := chk_so h
          obtain ⟨V26, e26, h⟩ := lt_so h
          refine k_ai R5.2 (R5.2.lnF (by decide) rfl) rfl R5.1 c25 e26 (fun v26 z26 => ?_)
          exact k_retI R5.2 z26 h
        · exact k_retI R5.2 tI_0 h
      refine k_ite (c_eq t3 tI_7) h (fun c27 h => ?_) (fun c27 h => ?_)
      · exact k_retI R5.2 R5.1 h
      exact k_retI R5.2 tI_m1 h
    · exact k_retI R3.2 tI_m1 h
/-- PupilCoinModel.held(J)J -/
def g165 (X0 : Int) (S : gM) : Option (Int × gM) :=
  w_lt (min 100000000 X0) fun V1 =>
  w_lt (max (-100000000) V1) fun V2 =>
  some (V2, S)
theorem g165_ok {x0 : Int64} {X0 : Int} {S : gM} {M : vm_M} {r : Int × gM} (hR : Rel S M) (t0 : x0.toInt = X0) (h : g165 X0 S = some r) : Mp gRJ (f165 x0 M) r := by
  unfold g165 at h
  unfold f165
  obtain ⟨V1, e1, h⟩ := lt_so h
  obtain ⟨V2, e2, h⟩ := lt_so h
  exact k_retJ hR (t_mxJ tJ_m100000000 (t_mnJ tJ_100000000 t0 e1) e2) h
/-- PupilCoinModel.bit(Z)J -/
def g166 (X0 : Int) (S : gM) : Option (Int × gM) :=
  if X0 = 0 then
    some (0, S)
  else
    some (1, S)
theorem g166_ok {x0 : Int32} {X0 : Int} {S : gM} {M : vm_M} {r : Int × gM} (hR : Rel S M) (t0 : x0.toInt = X0) (h : g166 X0 S = some r) : Mp gRJ (f166 x0 M) r := by
  unfold g166 at h
  unfold f166
  refine k_ite (c_eq t0 tI_0) h (fun c1 h => ?_) (fun c1 h => ?_)
  · exact k_retJ hR tJ_0 h
  · exact k_retJ hR tJ_1 h
/-- PupilCoinModel.both(IJJ)J -/
def g167 (X0 : Int) (X1 : Int) (X3 : Int) (S : gM) : Option (Int × gM) :=
  if X0 = 3 then
    w_ckJ (X1 + X3) fun V2 =>
    (g165 V2 S).bind fun p3 =>
    some (p3.1, p3.2)
  else if X0 = 4 then
    w_ckJ (X1 - X3) fun V5 =>
    (g165 V5 S).bind fun p6 =>
    some (p6.1, p6.2)
  else if X0 = 5 then
    w_ckJ (X1 * X3) fun V8 =>
    (g165 V8 S).bind fun p9 =>
    some (p9.1, p9.2)
  else if X0 = 6 then
    if ¬ X3 = 0 then
      w_chk (¬ X3 = 0) <|
      w_ckJ (X1.tdiv X3) fun V12 =>
      some (V12, S)
    else
      some (0, S)
  else if X0 = 7 then
    w_lt (min X1 X3) fun V15 =>
    some (V15, S)
  else if X0 = 8 then
    w_lt (max X1 X3) fun V17 =>
    some (V17, S)
  else if X0 = 9 then
    if X3 ≤ X1 then
      (g166 0 S).bind fun p20 =>
      some (p20.1, p20.2)
    else
      (g166 1 S).bind fun p21 =>
      some (p21.1, p21.2)
  else if X0 = 10 then
    if X1 ≤ X3 then
      (g166 0 S).bind fun p24 =>
      some (p24.1, p24.2)
    else
      (g166 1 S).bind fun p25 =>
      some (p25.1, p25.2)
  else if X0 = 11 then
    if ¬ X1 = X3 then
      (g166 0 S).bind fun p28 =>
      some (p28.1, p28.2)
    else
      (g166 1 S).bind fun p29 =>
      some (p29.1, p29.2)
  else if X0 = 12 then
    w_ckJ (X1 + X3) fun V31 =>
    if V31 ≤ 0 then
      (g166 0 S).bind fun p33 =>
      some (p33.1, p33.2)
    else
      (g166 1 S).bind fun p34 =>
      some (p34.1, p34.2)
  else 
    w_ckJ (X1 + X3) fun V35 =>
    if ¬ V35 = 2 then
      (g166 0 S).bind fun p37 =>
      some (p37.1, p37.2)
    else
      (g166 1 S).bind fun p38 =>
      some (p38.1, p38.2)
theorem g167_ok {x0 : Int32} {X0 : Int} {x1 : Int64} {X1 : Int} {x3 : Int64} {X3 : Int} {S : gM} {M : vm_M} {r : Int × gM} (hR : Rel S M) (t0 : x0.toInt = X0) (t1 : x1.toInt = X1) (t3 : x3.toInt = X3) (h : g167 X0 X1 X3 S = some r) : Mp gRJ (f167 x0 x1 x3 M) r := by
  unfold g167 at h
  unfold f167
  refine k_ite (c_eq t0 tI_3) h (fun c1 h => ?_) (fun c1 h => ?_)
  · obtain ⟨V2, e2, c2, h⟩ := ckJ_so h
    obtain ⟨p3, e3, h⟩ := bind_so h
    refine k_call (g165_ok hR (tJ_add t1 t3 c2 e2) e3) (fun b3 R3 => ?_)
    exact k_retJ R3.2 R3.1 h
  refine k_ite (c_eq t0 tI_4) h (fun c4 h => ?_) (fun c4 h => ?_)
  · obtain ⟨V5, e5, c5, h⟩ := ckJ_so h
    obtain ⟨p6, e6, h⟩ := bind_so h
    refine k_call (g165_ok hR (tJ_sub t1 t3 c5 e5) e6) (fun b6 R6 => ?_)
    exact k_retJ R6.2 R6.1 h
  refine k_ite (c_eq t0 tI_5) h (fun c7 h => ?_) (fun c7 h => ?_)
  · obtain ⟨V8, e8, c8, h⟩ := ckJ_so h
    obtain ⟨p9, e9, h⟩ := bind_so h
    refine k_call (g165_ok hR (tJ_mul t1 t3 c8 e8) e9) (fun b9 R9 => ?_)
    exact k_retJ R9.2 R9.1 h
  refine k_ite (c_eq t0 tI_6) h (fun c10 h => ?_) (fun c10 h => ?_)
  · refine k_ite (cJ_ne t3 tJ_0) h (fun c11 h => ?_) (fun c11 h => ?_)
    · obtain ⟨c13, h⟩ := chk_so h
      obtain ⟨V12, e12, c12, h⟩ := ckJ_so h
      refine k_dvJ t1 t3 c13 c12 e12 (fun v12 z12 => ?_)
      exact k_retJ hR z12 h
    · exact k_retJ hR tJ_0 h
  refine k_ite (c_eq t0 tI_7) h (fun c14 h => ?_) (fun c14 h => ?_)
  · obtain ⟨V15, e15, h⟩ := lt_so h
    exact k_retJ hR (t_mnJ t1 t3 e15) h
  refine k_ite (c_eq t0 tI_8) h (fun c16 h => ?_) (fun c16 h => ?_)
  · obtain ⟨V17, e17, h⟩ := lt_so h
    exact k_retJ hR (t_mxJ t1 t3 e17) h
  refine k_ite (c_eq t0 tI_9) h (fun c18 h => ?_) (fun c18 h => ?_)
  · refine k_ite (cJ_ge t1 t3) h (fun c19 h => ?_) (fun c19 h => ?_)
    · obtain ⟨p20, e20, h⟩ := bind_so h
      refine k_call (g166_ok hR tI_0 e20) (fun b20 R20 => ?_)
      exact k_retJ R20.2 R20.1 h
    · obtain ⟨p21, e21, h⟩ := bind_so h
      refine k_call (g166_ok hR tI_1 e21) (fun b21 R21 => ?_)
      exact k_retJ R21.2 R21.1 h
  refine k_ite (c_eq t0 tI_10) h (fun c22 h => ?_) (fun c22 h => ?_)
  · refine k_ite (cJ_le t1 t3) h (fun c23 h => ?_) (fun c23 h => ?_)
    · obtain ⟨p24, e24, h⟩ := bind_so h
      refine k_call (g166_ok hR tI_0 e24) (fun b24 R24 => ?_)
      exact k_retJ R24.2 R24.1 h
    · obtain ⟨p25, e25, h⟩ := bind_so h
      refine k_call (g166_ok hR tI_1 e25) (fun b25 R25 => ?_)
      exact k_retJ R25.2 R25.1 h
  refine k_ite (c_eq t0 tI_11) h (fun c26 h => ?_) (fun c26 h => ?_)
  · refine k_ite (cJ_ne t1 t3) h (fun c27 h => ?_) (fun c27 h => ?_)
    · obtain ⟨p28, e28, h⟩ := bind_so h
      refine k_call (g166_ok hR tI_0 e28) (fun b28 R28 => ?_)
      exact k_retJ R28.2 R28.1 h
    · obtain ⟨p29, e29, h⟩ := bind_so h
      refine k_call (g166_ok hR tI_1 e29) (fun b29 R29 => ?_)
      exact k_retJ R29.2 R29.1 h
  refine k_ite (c_eq t0 tI_12) h (fun c30 h => ?_) (fun c30 h => ?_)
  · obtain ⟨V31, e31, c31, h⟩ := ckJ_so h
    refine k_ite (cJ_le (tJ_add t1 t3 c31 e31) tJ_0) h (fun c32 h => ?_) (fun c32 h => ?_)
    · obtain ⟨p33, e33, h⟩ := bind_so h
      refine k_call (g166_ok hR tI_0 e33) (fun b33 R33 => ?_)
      exact k_retJ R33.2 R33.1 h
    · obtain ⟨p34, e34, h⟩ := bind_so h
      refine k_call (g166_ok hR tI_1 e34) (fun b34 R34 => ?_)
      exact k_retJ R34.2 R34.1 h
  obtain ⟨V35, e35, c35, h⟩ := ckJ_so h
  refine k_ite (cJ_ne (tJ_add t1 t3 c35 e35) tJ_2) h (fun c36 h => ?_) (fun c36 h => ?_)
  · obtain ⟨p37, e37, h⟩ := bind_so h
    refine k_call (g166_ok hR tI_0 e37) (fun b37 R37 => ?_)
    exact k_retJ R37.2 R37.1 h
  · obtain ⟨p38, e38, h⟩ := bind_so h
    refine k_call (g166_ok hR tI_1 e38) (fun b38 R38 => ?_)
    exact k_retJ R38.2 R38.1 h
def g168_l6 (X2 : Int) (X3 : Int) : Nat → Int → Int → gM → Option (Int × gM)
  | 0 => fun _ _ _ => none
  | n + 1 => fun X4 X5 S =>
    if X2 ≤ X5 then
      w_lt (gl S 81 0) fun V2 =>
      some (V2, S)
    else
      w_chk ((0 : Int) ≤ X5 ∧ X5 < 15000) <|
      w_lt (gi S 78 X5) fun V4 =>
      if 2 < V4 then
        if ¬ V4 = 14 then
          w_ckI (X4 + (-1)) fun V7 =>
          w_ckI (V7 - 1) fun V8 =>
          w_ckI (V7 - 1) fun V9 =>
          w_chk ((0 : Int) ≤ V9 ∧ V9 < 64) <|
          w_lt (gl S 81 V9) fun V11 =>
          w_chk ((0 : Int) ≤ V7 ∧ V7 < 64) <|
          w_lt (gl S 81 V7) fun V13 =>
          (g167 V4 V11 V13 S).bind fun p14 =>
          w_chk ((0 : Int) ≤ V8 ∧ V8 < 64) <|
          w_lt (wl p14.2 81 V8 p14.1) fun S16 =>
          w_ckI (X5 + 1) fun V17 =>
          g168_l6 X2 X3 n V7 V17 S16
        else
          w_ckI (X4 - 1) fun V18 =>
          w_ckI (X4 - 1) fun V19 =>
          w_chk ((0 : Int) ≤ V19 ∧ V19 < 64) <|
          w_lt (gl S 81 V19) fun V21 =>
          w_ckJ (1 - V21) fun V22 =>
          w_chk ((0 : Int) ≤ V18 ∧ V18 < 64) <|
          w_lt (wl S 81 V18 V22) fun S24 =>
          w_ckI (X5 + 1) fun V25 =>
          g168_l6 X2 X3 n X4 V25 S24
      else
        if ¬ V4 = 0 then
          if ¬ V4 = 1 then
            w_ckI (30 * X3) fun V28 =>
            w_chk ((0 : Int) ≤ X5 ∧ X5 < 15000) <|
            w_lt (gi S 79 X5) fun V30 =>
            w_ckI (V28 + V30) fun V31 =>
            w_chk ((0 : Int) ≤ V31 ∧ V31 < 360) <|
            w_lt (gl S 85 V31) fun V33 =>
            w_chk ((0 : Int) ≤ X4 ∧ X4 < 64) <|
            w_lt (wl S 81 X4 V33) fun S35 =>
            w_ckI (X4 + 1) fun V36 =>
            w_ckI (X5 + 1) fun V37 =>
            g168_l6 X2 X3 n V36 V37 S35
          else
            w_chk ((0 : Int) ≤ X5 ∧ X5 < 15000) <|
            w_lt (gi S 79 X5) fun V39 =>
            w_chk ((0 : Int) ≤ V39 ∧ V39 < 10) <|
            w_lt (gl S 82 V39) fun V41 =>
            w_chk ((0 : Int) ≤ X4 ∧ X4 < 64) <|
            w_lt (wl S 81 X4 V41) fun S43 =>
            w_ckI (X4 + 1) fun V44 =>
            w_ckI (X5 + 1) fun V45 =>
            g168_l6 X2 X3 n V44 V45 S43
        else
          w_chk ((0 : Int) ≤ X5 ∧ X5 < 15000) <|
          w_lt (gi S 79 X5) fun V47 =>
          w_chk ((0 : Int) ≤ X4 ∧ X4 < 64) <|
          w_lt (wl S 81 X4 V47) fun S49 =>
          w_ckI (X4 + 1) fun V50 =>
          w_ckI (X5 + 1) fun V51 =>
          g168_l6 X2 X3 n V50 V51 S49
theorem g168_l6_ok {x2 : Int32} {X2 : Int} {x3 : Int32} {X3 : Int} {r : Int × gM} (t2 : x2.toInt = X2) (t3 : x3.toInt = X3) : ∀ (n : Nat) (x4 : Int32) (X4 : Int) (x5 : Int32) (X5 : Int) (S : gM) (M : vm_M), Rel S M → x4.toInt = X4 → x5.toInt = X5 → g168_l6 X2 X3 n X4 X5 S = some r → Mp gRJ (f168_l6 55 x2 x3 n x4 x5 M) r := by
  intro n
  induction n with
  | zero =>
    intro x4 X4 x5 X5 S M hR t4 t5 h
    cases h
  | succ n ih =>
    intro x4 X4 x5 X5 S M hR t4 t5 h
    dsimp only [g168_l6] at h
    dsimp only [f168_l6]
    refine k_ite (c_le t2 t5) h (fun c1 h => ?_) (fun c1 h => ?_)
    · refine k_grF 82 hR (hR.obF (by decide) rfl) rfl ?_
      refine k_some ?_
      obtain ⟨V2, e2, h⟩ := lt_so h
      refine k_al hR (hR.lnF (by decide) rfl) rfl tI_0 (by decide) e2 (fun v2 z2 => ?_)
      exact k_retJ hR z2 h
    · refine k_grF 79 hR (hR.obF (by decide) rfl) rfl ?_
      refine k_some ?_
      obtain ⟨c3, h⟩ := chk_so h
      obtain ⟨V4, e4, h⟩ := lt_so h
      refine k_ai hR (hR.lnF (by decide) rfl) rfl t5 c3 e4 (fun v4 z4 => ?_)
      refine k_ite (c_lt tI_2 z4) h (fun c5 h => ?_) (fun c5 h => ?_)
      · refine k_ite (c_ne z4 tI_14) h (fun c6 h => ?_) (fun c6 h => ?_)
        · obtain ⟨V7, e7, c7, h⟩ := ckI_so h
          refine k_grF 82 hR (hR.obF (by decide) rfl) rfl ?_
          obtain ⟨V8, e8, c8, h⟩ := ckI_so h
          refine k_grF 82 hR (hR.obF (by decide) rfl) rfl ?_
          obtain ⟨V9, e9, c9, h⟩ := ckI_so h
          refine k_some ?_
          obtain ⟨c10, h⟩ := chk_so h
          obtain ⟨V11, e11, h⟩ := lt_so h
          refine k_al hR (hR.lnF (by decide) rfl) rfl (t_sub (t_add t4 tI_m1 c7 e7) tI_1 c9 e9) c10 e11 (fun v11 z11 => ?_)
          refine k_grF 82 hR (hR.obF (by decide) rfl) rfl ?_
          refine k_some ?_
          obtain ⟨c12, h⟩ := chk_so h
          obtain ⟨V13, e13, h⟩ := lt_so h
          refine k_al hR (hR.lnF (by decide) rfl) rfl (t_add t4 tI_m1 c7 e7) c12 e13 (fun v13 z13 => ?_)
          obtain ⟨p14, e14, h⟩ := bind_so h
          refine k_call (g167_ok hR z4 z11 z13 e14) (fun b14 R14 => ?_)
          obtain ⟨c15, h⟩ := chk_so h
          obtain ⟨S16, e16, h⟩ := lt_so h
          refine k_sl R14.2 (R14.2.lnF (by decide) rfl) rfl (t_sub (t_add t4 tI_m1 c7 e7) tI_1 c8 e8) c15 R14.1 e16 (fun M16 R16 => ?_)
          obtain ⟨V17, e17, c17, h⟩ := ckI_so h
          exact ih _ _ _ _ _ _ R16 (t_add t4 tI_m1 c7 e7) (t_add t5 tI_1 c17 e17) h
        · refine k_grF 82 hR (hR.obF (by decide) rfl) rfl ?_
          obtain ⟨V18, e18, c18, h⟩ := ckI_so h
          refine k_grF 82 hR (hR.obF (by decide) rfl) rfl ?_
          obtain ⟨V19, e19, c19, h⟩ := ckI_so h
          refine k_some ?_
          obtain ⟨c20, h⟩ := chk_so h
          obtain ⟨V21, e21, h⟩ := lt_so h
          refine k_al hR (hR.lnF (by decide) rfl) rfl (t_sub t4 tI_1 c19 e19) c20 e21 (fun v21 z21 => ?_)
          obtain ⟨V22, e22, c22, h⟩ := ckJ_so h
          obtain ⟨c23, h⟩ := chk_so h
          obtain ⟨S24, e24, h⟩ := lt_so h
          refine k_sl hR (hR.lnF (by decide) rfl) rfl (t_sub t4 tI_1 c18 e18) c23 (tJ_sub tJ_1 z21 c22 e22) e24 (fun M24 R24 => ?_)
          obtain ⟨V25, e25, c25, h⟩ := ckI_so h
          exact ih _ _ _ _ _ _ R24 t4 (t_add t5 tI_1 c25 e25) h
      · refine k_grF 82 hR (hR.obF (by decide) rfl) rfl ?_
        refine k_ite (c_ne z4 tI_0) h (fun c26 h => ?_) (fun c26 h => ?_)
        · refine k_ite (c_ne z4 tI_1) h (fun c27 h => ?_) (fun c27 h => ?_)
          · refine k_grF 86 hR (hR.obF (by decide) rfl) rfl ?_
            obtain ⟨V28, e28, c28, h⟩ := ckI_so h
            refine k_grF 80 hR (hR.obF (by decide) rfl) rfl ?_
            refine k_some ?_
            obtain ⟨c29, h⟩ := chk_so h
            obtain ⟨V30, e30, h⟩ := lt_so h
            refine k_ai hR (hR.lnF (by decide) rfl) rfl t5 c29 e30 (fun v30 z30 => ?_)
            obtain ⟨V31, e31, c31, h⟩ := ckI_so h
            refine k_some ?_
            obtain ⟨c32, h⟩ := chk_so h
            obtain ⟨V33, e33, h⟩ := lt_so h
            refine k_al hR (hR.lnF (by decide) rfl) rfl (t_add (t_mul tI_30 t3 c28 e28) z30 c31 e31) c32 e33 (fun v33 z33 => ?_)
            refine k_some ?_
            obtain ⟨c34, h⟩ := chk_so h
            obtain ⟨S35, e35, h⟩ := lt_so h
            refine k_sl hR (hR.lnF (by decide) rfl) rfl t4 c34 z33 e35 (fun M35 R35 => ?_)
            obtain ⟨V36, e36, c36, h⟩ := ckI_so h
            obtain ⟨V37, e37, c37, h⟩ := ckI_so h
            exact ih _ _ _ _ _ _ R35 (t_add t4 tI_1 c36 e36) (t_add t5 tI_1 c37 e37) h
          · refine k_grF 83 hR (hR.obF (by decide) rfl) rfl ?_
            refine k_grF 80 hR (hR.obF (by decide) rfl) rfl ?_
            refine k_some ?_
            obtain ⟨c38, h⟩ := chk_so h
            obtain ⟨V39, e39, h⟩ := lt_so h
            refine k_ai hR (hR.lnF (by decide) rfl) rfl t5 c38 e39 (fun v39 z39 => ?_)
            refine k_some ?_
            obtain ⟨c40, h⟩ := chk_so h
            obtain ⟨V41, e41, h⟩ := lt_so h
            refine k_al hR (hR.lnF (by decide) rfl) rfl z39 c40 e41 (fun v41 z41 => ?_)
            refine k_some ?_
            obtain ⟨c42, h⟩ := chk_so h
            obtain ⟨S43, e43, h⟩ := lt_so h
            refine k_sl hR (hR.lnF (by decide) rfl) rfl t4 c42 z41 e43 (fun M43 R43 => ?_)
            obtain ⟨V44, e44, c44, h⟩ := ckI_so h
            obtain ⟨V45, e45, c45, h⟩ := ckI_so h
            exact ih _ _ _ _ _ _ R43 (t_add t4 tI_1 c44 e44) (t_add t5 tI_1 c45 e45) h
        · refine k_grF 80 hR (hR.obF (by decide) rfl) rfl ?_
          refine k_some ?_
          obtain ⟨c46, h⟩ := chk_so h
          obtain ⟨V47, e47, h⟩ := lt_so h
          refine k_ai hR (hR.lnF (by decide) rfl) rfl t5 c46 e47 (fun v47 z47 => ?_)
          refine k_some ?_
          obtain ⟨c48, h⟩ := chk_so h
          obtain ⟨S49, e49, h⟩ := lt_so h
          refine k_sl hR (hR.lnF (by decide) rfl) rfl t4 c48 (t_itol z47) e49 (fun M49 R49 => ?_)
          obtain ⟨V50, e50, c50, h⟩ := ckI_so h
          obtain ⟨V51, e51, c51, h⟩ := ckI_so h
          exact ih _ _ _ _ _ _ R49 (t_add t4 tI_1 c50 e50) (t_add t5 tI_1 c51 e51) h
/-- PupilCoinModel.runs(III)J -/
def g168 (X1 : Int) (X2 : Int) (X3 : Int) (S : gM) : Option (Int × gM) :=
  g168_l6 X2 X3
  
    100000 0 X1 S
theorem g168_ok {x1 : Int32} {X1 : Int} {x2 : Int32} {X2 : Int} {x3 : Int32} {X3 : Int} {S : gM} {M : vm_M} {r : Int × gM} (hR : Rel S M) (t1 : x1.toInt = X1) (t2 : x2.toInt = X2) (t3 : x3.toInt = X3) (h : g168 X1 X2 X3 S = some r) : Mp gRJ (f168 55 x1 x2 x3 M) r := by
  unfold g168 at h
  unfold f168
  refine g168_l6_ok t2 t3 100000 _ _ _ _ _ _ hR tI_0 t1 h
/-- PupilCoinModel.look(I)I -/
def g169 (X0 : Int) (S : gM) : Option (Int × gM) :=
  w_ckI (X0 - 1) fun V1 =>
  w_lt (max 0 V1) fun V2 =>
  some (V2, S)
theorem g169_ok {x0 : Int32} {X0 : Int} {S : gM} {M : vm_M} {r : Int × gM} (hR : Rel S M) (t0 : x0.toInt = X0) (h : g169 X0 S = some r) : Mp gRI (f169 x0 M) r := by
  unfold g169 at h
  unfold f169
  obtain ⟨V1, e1, c1, h⟩ := ckI_so h
  obtain ⟨V2, e2, h⟩ := lt_so h
  exact k_retI hR (t_mxI tI_0 (t_sub t0 tI_1 c1 e1) e2) h
/-- PupilCoinModel.caps(IIJ)V -/
def g172 (X1 : Int) (X2 : Int) (X3 : Int) (S : gM) : Option (gM) :=
  (g162 X2 2 (-1) S).bind fun p1 =>
  if p1.1 = (-1) then
    some p1.2
  else
    w_chk ((0 : Int) ≤ X1 ∧ X1 < 12) <|
    w_lt (gl p1.2 89 X1) fun V4 =>
    w_ckJ (X3 * p1.1) fun V5 =>
    w_ckJ (V5.tdiv 100) fun V6 =>
    if V6 < V4 then
      w_ckJ (X3 * p1.1) fun V8 =>
      w_ckJ (V8.tdiv 100) fun V9 =>
      w_chk ((0 : Int) ≤ X1 ∧ X1 < 12) <|
      w_lt (gl p1.2 89 X1) fun V11 =>
      w_ckJ (V9 - V11) fun V12 =>
      w_chk ((0 : Int) ≤ X1 ∧ X1 < 12) <|
      w_lt (wl p1.2 87 X1 V12) fun S14 =>
      w_chk ((0 : Int) ≤ X1 ∧ X1 < 12) <|
      w_lt (gl S14 89 X1) fun V16 =>
      w_chk ((0 : Int) ≤ X1 ∧ X1 < 12) <|
      w_lt (gl S14 87 X1) fun V18 =>
      w_ckJ (V16 + V18) fun V19 =>
      w_chk ((0 : Int) ≤ X1 ∧ X1 < 12) <|
      w_lt (wl S14 89 X1 V19) fun S21 =>
      some S21
    else
      some p1.2
theorem g172_ok {x1 : Int32} {X1 : Int} {x2 : Int32} {X2 : Int} {x3 : Int64} {X3 : Int} {S : gM} {M : vm_M} {r : gM} (hR : Rel S M) (t1 : x1.toInt = X1) (t2 : x2.toInt = X2) (t3 : x3.toInt = X3) (h : g172 X1 X2 X3 S = some r) : Mp gRV (f172 55 x1 x2 x3 M) r := by
  unfold g172 at h
  unfold f172
  refine k_ob (hR.obF (by decide) rfl) ?_
  obtain ⟨p1, e1, h⟩ := bind_so h
  refine k_call (g162_ok hR t2 tI_2 tI_m1 e1) (fun b1 R1 => ?_)
  refine k_ite (c_eq R1.1 tI_m1) h (fun c2 h => ?_) (fun c2 h => ?_)
  · exact k_retV R1.2 h
  · refine k_grF 90 R1.2 (R1.2.obF (by decide) rfl) rfl ?_
    refine k_some ?_
    obtain ⟨c3, h⟩ := chk_so h
    obtain ⟨V4, e4, h⟩ := lt_so h
    refine k_al R1.2 (R1.2.lnF (by decide) rfl) rfl t1 c3 e4 (fun v4 z4 => ?_)
    obtain ⟨V5, e5, c5, h⟩ := ckJ_so h
    obtain ⟨V6, e6, c6, h⟩ := ckJ_so h
    refine k_dvJ (tJ_mul t3 (t_itol R1.1) c5 e5) tJ_100 (by decide) c6 e6 (fun v6 z6 => ?_)
    refine k_ite (cJ_gt z4 z6) h (fun c7 h => ?_) (fun c7 h => ?_)
    · refine k_grF 88 R1.2 (R1.2.obF (by decide) rfl) rfl ?_
      obtain ⟨V8, e8, c8, h⟩ := ckJ_so h
      obtain ⟨V9, e9, c9, h⟩ := ckJ_so h
      refine k_dvJ (tJ_mul t3 (t_itol R1.1) c8 e8) tJ_100 (by decide) c9 e9 (fun v9 z9 => ?_)
      refine k_grF 90 R1.2 (R1.2.obF (by decide) rfl) rfl ?_
      refine k_some ?_
      obtain ⟨c10, h⟩ := chk_so h
      obtain ⟨V11, e11, h⟩ := lt_so h
      refine k_al R1.2 (R1.2.lnF (by decide) rfl) rfl t1 c10 e11 (fun v11 z11 => ?_)
      obtain ⟨V12, e12, c12, h⟩ := ckJ_so h
      refine k_some ?_
      obtain ⟨c13, h⟩ := chk_so h
      obtain ⟨S14, e14, h⟩ := lt_so h
      refine k_sl R1.2 (R1.2.lnF (by decide) rfl) rfl t1 c13 (tJ_sub z9 z11 c12 e12) e14 (fun M14 R14 => ?_)
      refine k_grF 90 R14 (R14.obF (by decide) rfl) rfl ?_
      refine k_some ?_
      obtain ⟨c15, h⟩ := chk_so h
      obtain ⟨V16, e16, h⟩ := lt_so h
      refine k_al R14 (R14.lnF (by decide) rfl) rfl t1 c15 e16 (fun v16 z16 => ?_)
      refine k_grF 88 R14 (R14.obF (by decide) rfl) rfl ?_
      refine k_some ?_
      obtain ⟨c17, h⟩ := chk_so h
      obtain ⟨V18, e18, h⟩ := lt_so h
      refine k_al R14 (R14.lnF (by decide) rfl) rfl t1 c17 e18 (fun v18 z18 => ?_)
      obtain ⟨V19, e19, c19, h⟩ := ckJ_so h
      obtain ⟨c20, h⟩ := chk_so h
      obtain ⟨S21, e21, h⟩ := lt_so h
      refine k_sl R14 (R14.lnF (by decide) rfl) rfl t1 c20 (tJ_add z16 z18 c19 e19) e21 (fun M21 R21 => ?_)
      exact k_retV R21 h
    · exact k_retV R1.2 h
def g171_j165 (X1 : Int) (X3 : Int) (X4 : Int) (X6 : Int) (S : gM) : Option (gM) :=
  if ¬ X6 = 0 then
    some S
  else
    (g172 X1 X3 X4 S).bind fun p25 =>
    some p25
theorem g171_j165_ok {x1 : Int32} {X1 : Int} {x3 : Int32} {X3 : Int} {x4 : Int64} {X4 : Int} {x6 : Int32} {X6 : Int} {S : gM} {M : vm_M} {r : gM} (hR : Rel S M) (t1 : x1.toInt = X1) (t3 : x3.toInt = X3) (t4 : x4.toInt = X4) (t6 : x6.toInt = X6) (h : g171_j165 X1 X3 X4 X6 S = some r) : Mp gRV (f171_j165 55 x1 x3 x4 x6 M) r := by
  unfold g171_j165 at h
  unfold f171_j165
  refine k_ite (c_ne t6 tI_0) h (fun c24 h => ?_) (fun c24 h => ?_)
  · exact k_retV hR h
  · refine k_ob (hR.obF (by decide) rfl) ?_
    obtain ⟨p25, e25, h⟩ := bind_so h
    refine k_call (g172_ok hR t1 t3 t4 e25) (fun M25 R25 => ?_)
    exact k_retV R25 h
def g171_j92 (X1 : Int) (X3 : Int) (X4 : Int) (X6 : Int) (S : gM) : Option (gM) :=
  (g162 X3 1 (-1) S).bind fun p22 =>
  if p22.1 = (-1) then
    g171_j165 X1 X3 X4 X6 p22.2
  else
    w_chk ((0 : Int) ≤ X1 ∧ X1 < 12) <|
    w_lt (gl p22.2 89 X1) fun V27 =>
    w_ckJ (X4 * p22.1) fun V28 =>
    w_ckJ (V28.tdiv 100) fun V29 =>
    if V29 ≤ V27 then
      g171_j165 X1 X3 X4 X6 p22.2
    else
      w_ckJ (X4 * p22.1) fun V31 =>
      w_ckJ (V31.tdiv 100) fun V32 =>
      w_chk ((0 : Int) ≤ X1 ∧ X1 < 12) <|
      w_lt (gl p22.2 89 X1) fun V34 =>
      w_ckJ (V32 - V34) fun V35 =>
      w_chk ((0 : Int) ≤ X1 ∧ X1 < 12) <|
      w_lt (wl p22.2 86 X1 V35) fun S37 =>
      w_chk ((0 : Int) ≤ X1 ∧ X1 < 12) <|
      w_lt (gl S37 89 X1) fun V39 =>
      w_chk ((0 : Int) ≤ X1 ∧ X1 < 12) <|
      w_lt (gl S37 86 X1) fun V41 =>
      w_ckJ (V39 + V41) fun V42 =>
      w_chk ((0 : Int) ≤ X1 ∧ X1 < 12) <|
      w_lt (wl S37 89 X1 V42) fun S44 =>
      g171_j165 X1 X3 X4 X6 S44
theorem g171_j92_ok {x1 : Int32} {X1 : Int} {x3 : Int32} {X3 : Int} {x4 : Int64} {X4 : Int} {x6 : Int32} {X6 : Int} {S : gM} {M : vm_M} {r : gM} (hR : Rel S M) (t1 : x1.toInt = X1) (t3 : x3.toInt = X3) (t4 : x4.toInt = X4) (t6 : x6.toInt = X6) (h : g171_j92 X1 X3 X4 X6 S = some r) : Mp gRV (f171_j92 55 x1 x3 x4 x6 M) r := by
  unfold g171_j92 at h
  unfold f171_j92
  refine k_ob (hR.obF (by decide) rfl) ?_
  obtain ⟨p22, e22, h⟩ := bind_so h
  refine k_call (g162_ok hR t3 tI_1 tI_m1 e22) (fun b22 R22 => ?_)
  refine k_ite (c_eq R22.1 tI_m1) h (fun c23 h => ?_) (fun c23 h => ?_)
  · exact g171_j165_ok R22.2 t1 t3 t4 t6 h
  · refine k_grF 90 R22.2 (R22.2.obF (by decide) rfl) rfl ?_
    refine k_some ?_
    obtain ⟨c26, h⟩ := chk_so h
    obtain ⟨V27, e27, h⟩ := lt_so h
    refine k_al R22.2 (R22.2.lnF (by decide) rfl) rfl t1 c26 e27 (fun v27 z27 => ?_)
    obtain ⟨V28, e28, c28, h⟩ := ckJ_so h
    obtain ⟨V29, e29, c29, h⟩ := ckJ_so h
    refine k_dvJ (tJ_mul t4 (t_itol R22.1) c28 e28) tJ_100 (by decide) c29 e29 (fun v29 z29 => ?_)
    refine k_ite (cJ_ge z27 z29) h (fun c30 h => ?_) (fun c30 h => ?_)
    · exact g171_j165_ok R22.2 t1 t3 t4 t6 h
    · refine k_grF 87 R22.2 (R22.2.obF (by decide) rfl) rfl ?_
      obtain ⟨V31, e31, c31, h⟩ := ckJ_so h
      obtain ⟨V32, e32, c32, h⟩ := ckJ_so h
      refine k_dvJ (tJ_mul t4 (t_itol R22.1) c31 e31) tJ_100 (by decide) c32 e32 (fun v32 z32 => ?_)
      refine k_grF 90 R22.2 (R22.2.obF (by decide) rfl) rfl ?_
      refine k_some ?_
      obtain ⟨c33, h⟩ := chk_so h
      obtain ⟨V34, e34, h⟩ := lt_so h
      refine k_al R22.2 (R22.2.lnF (by decide) rfl) rfl t1 c33 e34 (fun v34 z34 => ?_)
      obtain ⟨V35, e35, c35, h⟩ := ckJ_so h
      refine k_some ?_
      obtain ⟨c36, h⟩ := chk_so h
      obtain ⟨S37, e37, h⟩ := lt_so h
      refine k_sl R22.2 (R22.2.lnF (by decide) rfl) rfl t1 c36 (tJ_sub z32 z34 c35 e35) e37 (fun M37 R37 => ?_)
      refine k_grF 90 R37 (R37.obF (by decide) rfl) rfl ?_
      refine k_some ?_
      obtain ⟨c38, h⟩ := chk_so h
      obtain ⟨V39, e39, h⟩ := lt_so h
      refine k_al R37 (R37.lnF (by decide) rfl) rfl t1 c38 e39 (fun v39 z39 => ?_)
      refine k_grF 87 R37 (R37.obF (by decide) rfl) rfl ?_
      refine k_some ?_
      obtain ⟨c40, h⟩ := chk_so h
      obtain ⟨V41, e41, h⟩ := lt_so h
      refine k_al R37 (R37.lnF (by decide) rfl) rfl t1 c40 e41 (fun v41 z41 => ?_)
      obtain ⟨V42, e42, c42, h⟩ := ckJ_so h
      obtain ⟨c43, h⟩ := chk_so h
      obtain ⟨S44, e44, h⟩ := lt_so h
      refine k_sl R37 (R37.lnF (by decide) rfl) rfl t1 c43 (tJ_add z39 z41 c42 e42) e44 (fun M44 R44 => ?_)
      exact g171_j165_ok R44 t1 t3 t4 t6 h
def g171_j77 (X1 : Int) (X3 : Int) (X4 : Int) (Xs0 : Int) (S : gM) : Option (gM) :=
  if Xs0 = 0 then
    g171_j92 X1 X3 X4 Xs0 S
  else
    (g172 X1 X3 X4 S).bind fun p45 =>
    g171_j92 X1 X3 X4 Xs0 p45
theorem g171_j77_ok {x1 : Int32} {X1 : Int} {x3 : Int32} {X3 : Int} {x4 : Int64} {X4 : Int} {xs0 : Int32} {Xs0 : Int} {S : gM} {M : vm_M} {r : gM} (hR : Rel S M) (t1 : x1.toInt = X1) (t3 : x3.toInt = X3) (t4 : x4.toInt = X4) (ts0 : xs0.toInt = Xs0) (h : g171_j77 X1 X3 X4 Xs0 S = some r) : Mp gRV (f171_j77 55 x1 x3 x4 xs0 M) r := by
  unfold g171_j77 at h
  unfold f171_j77
  refine k_ite (c_eq ts0 tI_0) h (fun c21 h => ?_) (fun c21 h => ?_)
  · exact g171_j92_ok hR t1 t3 t4 ts0 h
  · refine k_ob (hR.obF (by decide) rfl) ?_
    obtain ⟨p45, e45, h⟩ := bind_so h
    refine k_call (g172_ok hR t1 t3 t4 e45) (fun M45 R45 => ?_)
    exact g171_j92_ok R45 t1 t3 t4 ts0 h
/-- PupilCoinModel.bounds(III)V -/
def g171 (X1 : Int) (X2 : Int) (X3 : Int) (S : gM) : Option (gM) :=
  if X2 = 0 then
    some S
  else
    w_chk ((0 : Int) ≤ X1 ∧ X1 < 12) <|
    w_lt (gl S 90 X1) fun V3 =>
    if V3 = 0 then
      some S
    else
      w_chk ((0 : Int) ≤ X1 ∧ X1 < 12) <|
      w_lt (gl S 91 X1) fun V6 =>
      if ¬ V6 = 0 then
        w_chk ((0 : Int) ≤ X1 ∧ X1 < 12) <|
        w_lt (gl S 90 X1) fun V9 =>
        w_chk ((0 : Int) ≤ X1 ∧ X1 < 12) <|
        w_lt (gl S 92 X1) fun V11 =>
        w_ckJ (V9 * V11) fun V12 =>
        w_chk ((0 : Int) ≤ X1 ∧ X1 < 12) <|
        w_lt (gl S 91 X1) fun V14 =>
        w_chk (¬ V14 = 0) <|
        w_ckJ (V12.tdiv V14) fun V15 =>
        w_lt (min 10000000000 V15) fun V17 =>
        w_lt (max (-10000000000) V17) fun V18 =>
        (g162 X3 5 0 S).bind fun p19 =>
        if ¬ p19.1 = 1 then
          g171_j77 X1 X3 V18 0 p19.2
        else
          g171_j77 X1 X3 V18 1 p19.2
      else
        some S
theorem g171_ok {x1 : Int32} {X1 : Int} {x2 : Int32} {X2 : Int} {x3 : Int32} {X3 : Int} {S : gM} {M : vm_M} {r : gM} (hR : Rel S M) (t1 : x1.toInt = X1) (t2 : x2.toInt = X2) (t3 : x3.toInt = X3) (h : g171 X1 X2 X3 S = some r) : Mp gRV (f171 55 x1 x2 x3 M) r := by
  unfold g171 at h
  unfold f171
  refine k_ite (c_eq t2 tI_0) h (fun c1 h => ?_) (fun c1 h => ?_)
  · exact k_retV hR h
  · refine k_grF 91 hR (hR.obF (by decide) rfl) rfl ?_
    refine k_some ?_
    obtain ⟨c2, h⟩ := chk_so h
    obtain ⟨V3, e3, h⟩ := lt_so h
    refine k_al hR (hR.lnF (by decide) rfl) rfl t1 c2 e3 (fun v3 z3 => ?_)
    refine k_ite (cJ_eq z3 tJ_0) h (fun c4 h => ?_) (fun c4 h => ?_)
    · exact k_retV hR h
    · refine k_grF 92 hR (hR.obF (by decide) rfl) rfl ?_
      refine k_some ?_
      obtain ⟨c5, h⟩ := chk_so h
      obtain ⟨V6, e6, h⟩ := lt_so h
      refine k_al hR (hR.lnF (by decide) rfl) rfl t1 c5 e6 (fun v6 z6 => ?_)
      refine k_ite (cJ_ne z6 tJ_0) h (fun c7 h => ?_) (fun c7 h => ?_)
      · refine k_grF 91 hR (hR.obF (by decide) rfl) rfl ?_
        refine k_some ?_
        obtain ⟨c8, h⟩ := chk_so h
        obtain ⟨V9, e9, h⟩ := lt_so h
        refine k_al hR (hR.lnF (by decide) rfl) rfl t1 c8 e9 (fun v9 z9 => ?_)
        refine k_grF 93 hR (hR.obF (by decide) rfl) rfl ?_
        refine k_some ?_
        obtain ⟨c10, h⟩ := chk_so h
        obtain ⟨V11, e11, h⟩ := lt_so h
        refine k_al hR (hR.lnF (by decide) rfl) rfl t1 c10 e11 (fun v11 z11 => ?_)
        obtain ⟨V12, e12, c12, h⟩ := ckJ_so h
        refine k_grF 92 hR (hR.obF (by decide) rfl) rfl ?_
        refine k_some ?_
        obtain ⟨c13, h⟩ := chk_so h
        obtain ⟨V14, e14, h⟩ := lt_so h
        refine k_al hR (hR.lnF (by decide) rfl) rfl t1 c13 e14 (fun v14 z14 => ?_)
        obtain ⟨c16, h⟩ := chk_so h
        obtain ⟨V15, e15, c15, h⟩ := ckJ_so h
        refine k_dvJ (tJ_mul z9 z11 c12 e12) z14 c16 c15 e15 (fun v15 z15 => ?_)
        obtain ⟨V17, e17, h⟩ := lt_so h
        obtain ⟨V18, e18, h⟩ := lt_so h
        refine k_ob (hR.obF (by decide) rfl) ?_
        obtain ⟨p19, e19, h⟩ := bind_so h
        refine k_call (g162_ok hR t3 tI_5 tI_0 e19) (fun b19 R19 => ?_)
        refine k_ite (c_ne R19.1 tI_1) h (fun c20 h => ?_) (fun c20 h => ?_)
        · exact g171_j77_ok R19.2 t1 t3 (t_mxJ tJ_m10000000000 (t_mnJ tJ_10000000000 z15 e17) e18) tI_0 h
        · exact g171_j77_ok R19.2 t1 t3 (t_mxJ tJ_m10000000000 (t_mnJ tJ_10000000000 z15 e17) e18) tI_1 h
      · exact k_retV hR h
