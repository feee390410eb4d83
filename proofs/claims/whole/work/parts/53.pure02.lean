/-! the methods over Ints, by program (wip/gen_pure.py) -/
/-- PupilCoin.fault()I -/
def g86 (S : gM) : Option (Int × gM) :=
  w_lt (gi S 0 9) fun V1 =>
  some (V1, S)
theorem g86_ok {S : gM} {M : vm_M} {r : Int × gM} (hR : Rel S M) (h : g86 S = some r) : Mp gRI (f86 0 M) r := by
  unfold g86 at h
  unfold f86
  obtain ⟨V1, e1, h⟩ := lt_so h
  refine k_gi hR (hR.obF (by decide) rfl) rfl e1 (fun v1 z1 => ?_)
  exact k_retI hR z1 h
/-- PupilCoin.law(III)I -/
def g87 (X1 : Int) (X2 : Int) (X3 : Int) (S : gM) : Option (Int × gM) :=
  (g103 X1 S).bind fun p1 =>
  if p1.1 = 0 then
    some ((-1), p1.2)
  else
    (g104 X2 p1.2).bind fun p3 =>
    if ¬ p3.1 = 0 then
      (g56 X1 X2 p3.2).bind fun p5 =>
      w_lt p5.1 fun a5 =>
      (a5).bind fun q6 =>
      w_chk (gob p5.2 q6 1 = true) <|
      (g9 q6 X3 p5.2).bind fun p7 =>
      some (p7.1, p7.2)
    else
      some ((-1), p3.2)
theorem g87_ok {x1 : Int32} {X1 : Int} {x2 : Int32} {X2 : Int} {x3 : Int32} {X3 : Int} {S : gM} {M : vm_M} {r : Int × gM} (hR : Rel S M) (t1 : x1.toInt = X1) (t2 : x2.toInt = X2) (t3 : x3.toInt = X3) (h : g87 X1 X2 X3 S = some r) : Mp gRI (f87 0 x1 x2 x3 M) r := by
  unfold g87 at h
  unfold f87
  obtain ⟨p1, e1, h⟩ := bind_so h
  refine k_call (g103_ok hR t1 e1) (fun b1 R1 => ?_)
  refine k_ite (c_eq R1.1 tI_0) h (fun c2 h => ?_) (fun c2 h => ?_)
  · exact k_retI R1.2 tI_m1 h
  · obtain ⟨p3, e3, h⟩ := bind_so h
    refine k_call (g104_ok R1.2 t2 e3) (fun b3 R3 => ?_)
    refine k_ite (c_ne R3.1 tI_0) h (fun c4 h => ?_) (fun c4 h => ?_)
    · refine k_grF 3 R3.2 (R3.2.obF (by decide) rfl) rfl ?_
      refine k_some ?_
      refine k_ob (R3.2.obF (by decide) rfl) ?_
      obtain ⟨p5, e5, h⟩ := bind_so h
      refine k_call (g56_ok R3.2 t1 t2 e5) (fun b5 R5 => ?_)
      obtain ⟨d5, R5⟩ := R5
      obtain ⟨a5, e5, h⟩ := lt_so h
      rw [d5, ← e5]
      obtain ⟨q6, e6, h⟩ := bind_so h
      refine k_unw e6 ?_
      obtain ⟨c8, h⟩ := chk_so h
      refine k_ob (R5.ob c8) ?_
      obtain ⟨p7, e7, h⟩ := bind_so h
      refine k_call (g9_ok R5 t3 e7) (fun b7 R7 => ?_)
      exact k_retI R7.2 R7.1 h
    · exact k_retI R3.2 tI_m1 h
/-- PupilCoin.sum(III)J -/
def g88 (X1 : Int) (X2 : Int) (X3 : Int) (S : gM) : Option (Int × gM) :=
  (g105 X1 S).bind fun p1 =>
  if p1.1 = 0 then
    some ((-2000000000000), p1.2)
  else
    (g103 X2 p1.2).bind fun p3 =>
    if p3.1 = 0 then
      some ((-2000000000000), p3.2)
    else
      (g104 X3 p3.2).bind fun p5 =>
      if ¬ p5.1 = 0 then
        (g59 X2 X3 p5.2).bind fun p7 =>
        w_chk ((0 : Int) ≤ X1 ∧ X1 < 12) <|
        w_lt (gl p7 41 X1) fun V9 =>
        some (V9, p7)
      else
        some ((-2000000000000), p5.2)
theorem g88_ok {x1 : Int32} {X1 : Int} {x2 : Int32} {X2 : Int} {x3 : Int32} {X3 : Int} {S : gM} {M : vm_M} {r : Int × gM} (hR : Rel S M) (t1 : x1.toInt = X1) (t2 : x2.toInt = X2) (t3 : x3.toInt = X3) (h : g88 X1 X2 X3 S = some r) : Mp gRJ (f88 0 x1 x2 x3 M) r := by
  unfold g88 at h
  unfold f88
  refine k_ob (hR.obF (by decide) rfl) ?_
  obtain ⟨p1, e1, h⟩ := bind_so h
  refine k_call (g105_ok hR t1 e1) (fun b1 R1 => ?_)
  refine k_ite (c_eq R1.1 tI_0) h (fun c2 h => ?_) (fun c2 h => ?_)
  · exact k_retJ R1.2 tJ_m2000000000000 h
  · obtain ⟨p3, e3, h⟩ := bind_so h
    refine k_call (g103_ok R1.2 t2 e3) (fun b3 R3 => ?_)
    refine k_ite (c_eq R3.1 tI_0) h (fun c4 h => ?_) (fun c4 h => ?_)
    · exact k_retJ R3.2 tJ_m2000000000000 h
    · obtain ⟨p5, e5, h⟩ := bind_so h
      refine k_call (g104_ok R3.2 t3 e5) (fun b5 R5 => ?_)
      refine k_ite (c_ne R5.1 tI_0) h (fun c6 h => ?_) (fun c6 h => ?_)
      · refine k_grF 4 R5.2 (R5.2.obF (by decide) rfl) rfl ?_
        refine k_some ?_
        refine k_ob (R5.2.obF (by decide) rfl) ?_
        obtain ⟨p7, e7, h⟩ := bind_so h
        refine k_call (g59_ok R5.2 t2 t3 e7) (fun M7 R7 => ?_)
        refine k_grF 4 R7 (R7.obF (by decide) rfl) rfl ?_
        refine k_some ?_
        refine k_grF 43 R7 (R7.obF (by decide) rfl) rfl ?_
        refine k_some ?_
        obtain ⟨c8, h⟩ := chk_so h
        obtain ⟨V9, e9, h⟩ := lt_so h
        refine k_al R7 (R7.lnF (by decide) rfl) rfl t1 c8 e9 (fun v9 z9 => ?_)
        exact k_retJ R7 z9 h
      · exact k_retJ R5.2 tJ_m2000000000000 h
def g202_l2 (x0 : Nat) (X1 : Int) : Nat → Int → gM → Option (Int × gM)
  | 0 => fun _ _ => none
  | n + 1 => fun X2 S =>
    w_chk (gob S x0 1 = true) <|
    w_lt (gi S x0 4) fun V2 =>
    if V2 ≤ X2 then
      some ((-1), S)
    else
      w_chk (gob S x0 1 = true) <|
      w_chk (gr S x0 6 = some (x0 + 2)) <|
      w_chk ((0 : Int) ≤ gln S (x0 + 2) 0) <|
      w_chk ((gln S (x0 + 2) 0) ≤ 2147483647) <|
      if (gln S (x0 + 2) 0) ≤ X2 then
        some ((-1), S)
      else
        w_chk (gob S x0 1 = true) <|
        w_chk (gr S x0 6 = some (x0 + 2)) <|
        w_chk ((0 : Int) ≤ gln S (x0 + 2) 0) <|
        w_chk ((0 : Int) ≤ X2 ∧ X2 < (gln S (x0 + 2) 0)) <|
        w_lt (gi S (x0 + 2) X2) fun V14 =>
        if ¬ V14 = X1 then
          w_ckI (X2 + 1) fun V16 =>
          g202_l2 x0 X1 n V16 S
        else
          some (X2, S)
theorem g202_l2_ok {x0 : Nat} {x1 : Int32} {X1 : Int} {r : Int × gM} (t1 : x1.toInt = X1) : ∀ (n : Nat) (x2 : Int32) (X2 : Int) (S : gM) (M : vm_M), Rel S M → x2.toInt = X2 → g202_l2 x0 X1 n X2 S = some r → Mp gRI (f202_l2 x0 x1 n x2 M) r := by
  intro n
  induction n with
  | zero =>
    intro x2 X2 S M hR t2 h
    cases h
  | succ n ih =>
    intro x2 X2 S M hR t2 h
    dsimp only [g202_l2] at h
    dsimp only [f202_l2]
    obtain ⟨c1, h⟩ := chk_so h
    obtain ⟨V2, e2, h⟩ := lt_so h
    refine k_gi hR (hR.ob c1) rfl e2 (fun v2 z2 => ?_)
    refine k_ite (c_le z2 t2) h (fun c3 h => ?_) (fun c3 h => ?_)
    · exact k_retI hR tI_m1 h
    · obtain ⟨c4, h⟩ := chk_so h
      obtain ⟨c5, h⟩ := chk_so h
      refine k_gr hR (hR.ob c4) c5.symm ?_
      refine k_some ?_
      obtain ⟨hn6, h⟩ := chk_so h
      obtain ⟨n6, en6, hn6⟩ := hR.ln hn6
      obtain ⟨c8, h⟩ := chk_so h
      refine k_len hn6 en6.symm c8 (fun v7 z7 => ?_)
      refine k_ite (c_le z7 t2) h (fun c9 h => ?_) (fun c9 h => ?_)
      · exact k_retI hR tI_m1 h
      · obtain ⟨c10, h⟩ := chk_so h
        obtain ⟨c11, h⟩ := chk_so h
        refine k_gr hR (hR.ob c10) c11.symm ?_
        refine k_some ?_
        obtain ⟨hn12, h⟩ := chk_so h
        obtain ⟨n12, en12, hn12⟩ := hR.ln hn12
        obtain ⟨c13, h⟩ := chk_so h
        obtain ⟨V14, e14, h⟩ := lt_so h
        refine k_ai hR hn12 en12.symm t2 c13 e14 (fun v14 z14 => ?_)
        refine k_ite (c_ne z14 t1) h (fun c15 h => ?_) (fun c15 h => ?_)
        · obtain ⟨V16, e16, c16, h⟩ := ckI_so h
          exact ih _ _ _ _ hR (t_add t2 tI_1 c16 e16) h
        · exact k_retI hR t2 h
/-- PupilCoin$Law.lineAt(I)I -/
def g202 (x0 : Nat) (X1 : Int) (S : gM) : Option (Int × gM) :=
  g202_l2 x0 X1
  
    100000 0 S
theorem g202_ok {x0 : Nat} {x1 : Int32} {X1 : Int} {S : gM} {M : vm_M} {r : Int × gM} (hR : Rel S M) (t1 : x1.toInt = X1) (h : g202 x0 X1 S = some r) : Mp gRI (f202 x0 x1 M) r := by
  unfold g202 at h
  unfold f202
  refine g202_l2_ok t1 100000 _ _ _ _ hR tI_0 h
/-- PupilCoin.led(III)J -/
def g89 (X1 : Int) (X2 : Int) (X3 : Int) (S : gM) : Option (Int × gM) :=
  (g105 X1 S).bind fun p1 =>
  if p1.1 = 0 then
    some ((-2000000000000), p1.2)
  else
    (g103 X2 p1.2).bind fun p3 =>
    if p3.1 = 0 then
      some ((-2000000000000), p3.2)
    else
      if X3 < 0 then
        some ((-2000000000000), p3.2)
      else
        if X3 ≤ 34 then
          (g2 X1 X2 p3.2).bind fun p7 =>
          if ¬ p7.1 = 0 then
            if ¬ X3 = 33 then
              if ¬ X3 = 34 then
                w_ckI (X2 * 100) fun V11 =>
                (g59 X2 V11 p7.2).bind fun p12 =>
                if ¬ X3 = 30 then
                  if ¬ X3 = 31 then
                    if ¬ X3 = 32 then
                      w_ckI (X2 * 100) fun V16 =>
                      (g56 X2 V16 p12).bind fun p17 =>
                      w_lt p17.1 fun a17 =>
                      (a17).bind fun q18 =>
                      w_chk (gob p17.2 q18 1 = true) <|
                      (g202 q18 X3 p17.2).bind fun p19 =>
                      (g102 p19.1 30 p19.2).bind fun p21 =>
                      if p21.1 = 0 then
                        some (0, p21.2)
                      else
                        w_ckI (X1 * 30) fun V23 =>
                        w_ckI (V23 + p19.1) fun V24 =>
                        w_chk ((0 : Int) ≤ V24 ∧ V24 < 360) <|
                        w_lt (gl p21.2 34 V24) fun V26 =>
                        some (V26, p21.2)
                    else
                      w_chk ((0 : Int) ≤ X1 ∧ X1 < 12) <|
                      w_lt (gl p12 38 X1) fun V28 =>
                      some (V28, p12)
                  else
                    w_chk ((0 : Int) ≤ X1 ∧ X1 < 12) <|
                    w_lt (gl p12 37 X1) fun V30 =>
                    some (V30, p12)
                else
                  w_chk ((0 : Int) ≤ X1 ∧ X1 < 12) <|
                  w_lt (gl p12 36 X1) fun V32 =>
                  some (V32, p12)
              else
                (g24 X1 X2 p7.2).bind fun p33 =>
                some (p33.1, p33.2)
            else
              (g72 X1 X2 p7.2).bind fun p34 =>
              some (p34.1, p34.2)
          else
            some (0, p7.2)
        else
          some ((-2000000000000), p3.2)
theorem g89_ok {x1 : Int32} {X1 : Int} {x2 : Int32} {X2 : Int} {x3 : Int32} {X3 : Int} {S : gM} {M : vm_M} {r : Int × gM} (hR : Rel S M) (t1 : x1.toInt = X1) (t2 : x2.toInt = X2) (t3 : x3.toInt = X3) (h : g89 X1 X2 X3 S = some r) : Mp gRJ (f89 0 x1 x2 x3 M) r := by
  unfold g89 at h
  unfold f89
  refine k_ob (hR.obF (by decide) rfl) ?_
  obtain ⟨p1, e1, h⟩ := bind_so h
  refine k_call (g105_ok hR t1 e1) (fun b1 R1 => ?_)
  refine k_ite (c_eq R1.1 tI_0) h (fun c2 h => ?_) (fun c2 h => ?_)
  · exact k_retJ R1.2 tJ_m2000000000000 h
  · obtain ⟨p3, e3, h⟩ := bind_so h
    refine k_call (g103_ok R1.2 t2 e3) (fun b3 R3 => ?_)
    refine k_ite (c_eq R3.1 tI_0) h (fun c4 h => ?_) (fun c4 h => ?_)
    · exact k_retJ R3.2 tJ_m2000000000000 h
    · refine k_ite (c_lt t3 tI_0) h (fun c5 h => ?_) (fun c5 h => ?_)
      · exact k_retJ R3.2 tJ_m2000000000000 h
      · refine k_ite (c_le t3 tI_34) h (fun c6 h => ?_) (fun c6 h => ?_)
        · refine k_grF 0 R3.2 (R3.2.obF (by decide) rfl) rfl ?_
          refine k_some ?_
          refine k_ob (R3.2.obF (by decide) rfl) ?_
          obtain ⟨p7, e7, h⟩ := bind_so h
          refine k_call (g2_ok R3.2 t1 t2 e7) (fun b7 R7 => ?_)
          refine k_ite (c_ne R7.1 tI_0) h (fun c8 h => ?_) (fun c8 h => ?_)
          · refine k_ite (c_ne t3 tI_33) h (fun c9 h => ?_) (fun c9 h => ?_)
            · refine k_ite (c_ne t3 tI_34) h (fun c10 h => ?_) (fun c10 h => ?_)
              · refine k_grF 4 R7.2 (R7.2.obF (by decide) rfl) rfl ?_
                obtain ⟨V11, e11, c11, h⟩ := ckI_so h
                refine k_some ?_
                refine k_ob (R7.2.obF (by decide) rfl) ?_
                obtain ⟨p12, e12, h⟩ := bind_so h
                refine k_call (g59_ok R7.2 t2 (t_mul t2 tI_100 c11 e11) e12) (fun M12 R12 => ?_)
                refine k_ite (c_ne t3 tI_30) h (fun c13 h => ?_) (fun c13 h => ?_)
                · refine k_ite (c_ne t3 tI_31) h (fun c14 h => ?_) (fun c14 h => ?_)
                  · refine k_ite (c_ne t3 tI_32) h (fun c15 h => ?_) (fun c15 h => ?_)
                    · refine k_grF 3 R12 (R12.obF (by decide) rfl) rfl ?_
                      obtain ⟨V16, e16, c16, h⟩ := ckI_so h
                      refine k_some ?_
                      refine k_ob (R12.obF (by decide) rfl) ?_
                      obtain ⟨p17, e17, h⟩ := bind_so h
                      refine k_call (g56_ok R12 t2 (t_mul t2 tI_100 c16 e16) e17) (fun b17 R17 => ?_)
                      obtain ⟨d17, R17⟩ := R17
                      obtain ⟨a17, e17, h⟩ := lt_so h
                      rw [d17, ← e17]
                      obtain ⟨q18, e18, h⟩ := bind_so h
                      refine k_unw e18 ?_
                      obtain ⟨c20, h⟩ := chk_so h
                      refine k_ob (R17.ob c20) ?_
                      obtain ⟨p19, e19, h⟩ := bind_so h
                      refine k_call (g202_ok R17 t3 e19) (fun b19 R19 => ?_)
                      obtain ⟨p21, e21, h⟩ := bind_so h
                      refine k_call (g102_ok R19.2 R19.1 tI_30 e21) (fun b21 R21 => ?_)
                      refine k_ite (c_eq R21.1 tI_0) h (fun c22 h => ?_) (fun c22 h => ?_)
                      · exact k_retJ R21.2 tJ_0 h
                      · refine k_grF 4 R21.2 (R21.2.obF (by decide) rfl) rfl ?_
                        refine k_some ?_
                        refine k_grF 36 R21.2 (R21.2.obF (by decide) rfl) rfl ?_
                        obtain ⟨V23, e23, c23, h⟩ := ckI_so h
                        obtain ⟨V24, e24, c24, h⟩ := ckI_so h
                        refine k_some ?_
                        obtain ⟨c25, h⟩ := chk_so h
                        obtain ⟨V26, e26, h⟩ := lt_so h
                        refine k_al R21.2 (R21.2.lnF (by decide) rfl) rfl (t_add (t_mul t1 tI_30 c23 e23) R19.1 c24 e24) c25 e26 (fun v26 z26 => ?_)
                        exact k_retJ R21.2 z26 h
                    · refine k_grF 4 R12 (R12.obF (by decide) rfl) rfl ?_
                      refine k_some ?_
                      refine k_grF 40 R12 (R12.obF (by decide) rfl) rfl ?_
                      refine k_some ?_
                      obtain ⟨c27, h⟩ := chk_so h
                      obtain ⟨V28, e28, h⟩ := lt_so h
                      refine k_al R12 (R12.lnF (by decide) rfl) rfl t1 c27 e28 (fun v28 z28 => ?_)
                      exact k_retJ R12 z28 h
                  · refine k_grF 4 R12 (R12.obF (by decide) rfl) rfl ?_
                    refine k_some ?_
                    refine k_grF 39 R12 (R12.obF (by decide) rfl) rfl ?_
                    refine k_some ?_
                    obtain ⟨c29, h⟩ := chk_so h
                    obtain ⟨V30, e30, h⟩ := lt_so h
                    refine k_al R12 (R12.lnF (by decide) rfl) rfl t1 c29 e30 (fun v30 z30 => ?_)
                    exact k_retJ R12 z30 h
                · refine k_grF 4 R12 (R12.obF (by decide) rfl) rfl ?_
                  refine k_some ?_
                  refine k_grF 38 R12 (R12.obF (by decide) rfl) rfl ?_
                  refine k_some ?_
                  obtain ⟨c31, h⟩ := chk_so h
                  obtain ⟨V32, e32, h⟩ := lt_so h
                  refine k_al R12 (R12.lnF (by decide) rfl) rfl t1 c31 e32 (fun v32 z32 => ?_)
                  exact k_retJ R12 z32 h
              · refine k_grF 5 R7.2 (R7.2.obF (by decide) rfl) rfl ?_
                refine k_some ?_
                refine k_ob (R7.2.obF (by decide) rfl) ?_
                obtain ⟨p33, e33, h⟩ := bind_so h
                refine k_call (g24_ok R7.2 t1 t2 e33) (fun b33 R33 => ?_)
                exact k_retJ R33.2 R33.1 h
            · refine k_grF 4 R7.2 (R7.2.obF (by decide) rfl) rfl ?_
              refine k_some ?_
              refine k_ob (R7.2.obF (by decide) rfl) ?_
              obtain ⟨p34, e34, h⟩ := bind_so h
              refine k_call (g72_ok R7.2 t1 t2 e34) (fun b34 R34 => ?_)
              exact k_retJ R34.2 R34.1 h
          · exact k_retJ R7.2 tJ_0 h
        · exact k_retJ R3.2 tJ_m2000000000000 h
/-- PupilCoin.due(II)J -/
def g90 (X1 : Int) (X2 : Int) (S : gM) : Option (Int × gM) :=
  (g105 X1 S).bind fun p1 =>
  if p1.1 = 0 then
    some ((-2000000000000), p1.2)
  else
    (g103 X2 p1.2).bind fun p3 =>
    if ¬ p3.1 = 0 then
      (g2 X1 X2 p3.2).bind fun p5 =>
      if ¬ p5.1 = 0 then
        (g72 X1 X2 p5.2).bind fun p7 =>
        w_ckI (X2 * 100) fun V8 =>
        (g59 X2 V8 p7.2).bind fun p9 =>
        w_chk ((0 : Int) ≤ X1 ∧ X1 < 12) <|
        w_lt (gl p9 41 X1) fun V11 =>
        w_ckJ (V11 + p7.1) fun V12 =>
        (g24 X1 X2 p9).bind fun p13 =>
        w_ckJ (V12 + p13.1) fun V14 =>
        some (V14, p13.2)
      else
        some (0, p5.2)
    else
      some ((-2000000000000), p3.2)
theorem g90_ok {x1 : Int32} {X1 : Int} {x2 : Int32} {X2 : Int} {S : gM} {M : vm_M} {r : Int × gM} (hR : Rel S M) (t1 : x1.toInt = X1) (t2 : x2.toInt = X2) (h : g90 X1 X2 S = some r) : Mp gRJ (f90 0 x1 x2 M) r := by
  unfold g90 at h
  unfold f90
  refine k_ob (hR.obF (by decide) rfl) ?_
  obtain ⟨p1, e1, h⟩ := bind_so h
  refine k_call (g105_ok hR t1 e1) (fun b1 R1 => ?_)
  refine k_ite (c_eq R1.1 tI_0) h (fun c2 h => ?_) (fun c2 h => ?_)
  · exact k_retJ R1.2 tJ_m2000000000000 h
  · obtain ⟨p3, e3, h⟩ := bind_so h
    refine k_call (g103_ok R1.2 t2 e3) (fun b3 R3 => ?_)
    refine k_ite (c_ne R3.1 tI_0) h (fun c4 h => ?_) (fun c4 h => ?_)
    · refine k_grF 0 R3.2 (R3.2.obF (by decide) rfl) rfl ?_
      refine k_some ?_
      refine k_ob (R3.2.obF (by decide) rfl) ?_
      obtain ⟨p5, e5, h⟩ := bind_so h
      refine k_call (g2_ok R3.2 t1 t2 e5) (fun b5 R5 => ?_)
      refine k_ite (c_ne R5.1 tI_0) h (fun c6 h => ?_) (fun c6 h => ?_)
      · refine k_grF 4 R5.2 (R5.2.obF (by decide) rfl) rfl ?_
        refine k_some ?_
        refine k_ob (R5.2.obF (by decide) rfl) ?_
        obtain ⟨p7, e7, h⟩ := bind_so h
        refine k_call (g72_ok R5.2 t1 t2 e7) (fun b7 R7 => ?_)
        refine k_grF 4 R7.2 (R7.2.obF (by decide) rfl) rfl ?_
        obtain ⟨V8, e8, c8, h⟩ := ckI_so h
        refine k_some ?_
        refine k_ob (R7.2.obF (by decide) rfl) ?_
        obtain ⟨p9, e9, h⟩ := bind_so h
        refine k_call (g59_ok R7.2 t2 (t_mul t2 tI_100 c8 e8) e9) (fun M9 R9 => ?_)
        refine k_grF 4 R9 (R9.obF (by decide) rfl) rfl ?_
        refine k_some ?_
        refine k_grF 43 R9 (R9.obF (by decide) rfl) rfl ?_
        refine k_some ?_
        obtain ⟨c10, h⟩ := chk_so h
        obtain ⟨V11, e11, h⟩ := lt_so h
        refine k_al R9 (R9.lnF (by decide) rfl) rfl t1 c10 e11 (fun v11 z11 => ?_)
        obtain ⟨V12, e12, c12, h⟩ := ckJ_so h
        refine k_grF 5 R9 (R9.obF (by decide) rfl) rfl ?_
        refine k_some ?_
        refine k_ob (R9.obF (by decide) rfl) ?_
        obtain ⟨p13, e13, h⟩ := bind_so h
        refine k_call (g24_ok R9 t1 t2 e13) (fun b13 R13 => ?_)
        obtain ⟨V14, e14, c14, h⟩ := ckJ_so h
        exact k_retJ R13.2 (tJ_add (tJ_add z11 R7.1 c12 e12) R13.1 c14 e14) h
      · exact k_retJ R5.2 tJ_0 h
    · exact k_retJ R3.2 tJ_m2000000000000 h
def g91_l32 : Nat → Int → Int → gM → Option (Int × gM)
  | 0 => fun _ _ _ => none
  | n + 1 => fun X3 X5 S =>
    if 12 ≤ X5 then
      some (X3, S)
    else
      w_chk ((0 : Int) ≤ X5 ∧ X5 < 12) <|
      w_lt (gl S 41 X5) fun V8 =>
      w_ckJ (X3 + V8) fun V9 =>
      w_ckI (X5 + 1) fun V10 =>
      g91_l32 n V9 V10 S
theorem g91_l32_ok {r : Int × gM} : ∀ (n : Nat) (x3 : Int64) (X3 : Int) (x5 : Int32) (X5 : Int) (S : gM) (M : vm_M), Rel S M → x3.toInt = X3 → x5.toInt = X5 → g91_l32 n X3 X5 S = some r → Mp gRJ (f91_l32 0 n x3 x5 M) r := by
  intro n
  induction n with
  | zero =>
    intro x3 X3 x5 X5 S M hR t3 t5 h
    cases h
  | succ n ih =>
    intro x3 X3 x5 X5 S M hR t3 t5 h
    dsimp only [g91_l32] at h
    dsimp only [f91_l32]
    refine k_ite (c_le tI_12 t5) h (fun c6 h => ?_) (fun c6 h => ?_)
    · exact k_retJ hR t3 h
    · refine k_grF 4 hR (hR.obF (by decide) rfl) rfl ?_
      refine k_some ?_
      refine k_grF 43 hR (hR.obF (by decide) rfl) rfl ?_
      refine k_some ?_
      obtain ⟨c7, h⟩ := chk_so h
      obtain ⟨V8, e8, h⟩ := lt_so h
      refine k_al hR (hR.lnF (by decide) rfl) rfl t5 c7 e8 (fun v8 z8 => ?_)
      obtain ⟨V9, e9, c9, h⟩ := ckJ_so h
      obtain ⟨V10, e10, c10, h⟩ := ckI_so h
      exact ih _ _ _ _ _ _ hR (tJ_add t3 z8 c9 e9) (t_add t5 tI_1 c10 e10) h
/-- PupilCoin.all(II)J -/
def g91 (X1 : Int) (X2 : Int) (S : gM) : Option (Int × gM) :=
  (g103 X1 S).bind fun p1 =>
  if p1.1 = 0 then
    some ((-2000000000000), p1.2)
  else
    (g104 X2 p1.2).bind fun p3 =>
    if ¬ p3.1 = 0 then
      (g59 X1 X2 p3.2).bind fun p5 =>
      g91_l32
      
        100000 0 0 p5
    else
      some ((-2000000000000), p3.2)
theorem g91_ok {x1 : Int32} {X1 : Int} {x2 : Int32} {X2 : Int} {S : gM} {M : vm_M} {r : Int × gM} (hR : Rel S M) (t1 : x1.toInt = X1) (t2 : x2.toInt = X2) (h : g91 X1 X2 S = some r) : Mp gRJ (f91 0 x1 x2 M) r := by
  unfold g91 at h
  unfold f91
  obtain ⟨p1, e1, h⟩ := bind_so h
  refine k_call (g103_ok hR t1 e1) (fun b1 R1 => ?_)
  refine k_ite (c_eq R1.1 tI_0) h (fun c2 h => ?_) (fun c2 h => ?_)
  · exact k_retJ R1.2 tJ_m2000000000000 h
  · obtain ⟨p3, e3, h⟩ := bind_so h
    refine k_call (g104_ok R1.2 t2 e3) (fun b3 R3 => ?_)
    refine k_ite (c_ne R3.1 tI_0) h (fun c4 h => ?_) (fun c4 h => ?_)
    · refine k_grF 4 R3.2 (R3.2.obF (by decide) rfl) rfl ?_
      refine k_some ?_
      refine k_ob (R3.2.obF (by decide) rfl) ?_
      obtain ⟨p5, e5, h⟩ := bind_so h
      refine k_call (g59_ok R3.2 t1 t2 e5) (fun M5 R5 => ?_)
      refine g91_l32_ok 100000 _ _ _ _ _ _ R5 tJ_0 tI_0 h
    · exact k_retJ R3.2 tJ_m2000000000000 h
/-- PupilCoin.propose(IIIII)I -/
def g92 (X1 : Int) (X2 : Int) (X3 : Int) (X4 : Int) (X5 : Int) (S : gM) : Option (Int × gM) :=
  (g102 X1 3 S).bind fun p1 =>
  if p1.1 = 0 then
    some ((-1), p1.2)
  else
    (g105 X2 p1.2).bind fun p3 =>
    if p3.1 = 0 then
      some ((-1), p3.2)
    else
      (g105 X3 p3.2).bind fun p5 =>
      if p5.1 = 0 then
        some ((-1), p5.2)
      else
        if ¬ X2 = X3 then
          w_chk ((0 : Int) ≤ X2 ∧ X2 < 12) <|
          w_lt (gi p5.2 3 X2) fun V9 =>
          if ¬ V9 = X1 then
            some ((-1), p5.2)
          else
            w_chk ((0 : Int) ≤ X3 ∧ X3 < 12) <|
            w_lt (gi p5.2 3 X3) fun V12 =>
            if V12 = X1 then
              if X4 < 1 then
                some ((-1), p5.2)
              else
                if 9999999 < X4 then
                  some ((-1), p5.2)
                else
                  (g106 X5 p5.2).bind fun p16 =>
                  if p16.1 = 0 then
                    some ((-1), p16.2)
                  else
                    w_lt (gi p16.2 45 8) fun V18 =>
                    if V18 < 20 then
                      w_lt (gi p16.2 0 10) fun V20 =>
                      (g21 X1 X5 V20 p16.2).bind fun p21 =>
                      w_chk ((0 : Int) ≤ p21.1 ∧ p21.1 < 20) <|
                      w_lt (wi p21.2 47 p21.1 X2) fun S23 =>
                      w_chk ((0 : Int) ≤ p21.1 ∧ p21.1 < 20) <|
                      w_lt (wi S23 48 p21.1 X3) fun S25 =>
                      w_chk ((0 : Int) ≤ p21.1 ∧ p21.1 < 20) <|
                      w_lt (wi S25 49 p21.1 X4) fun S27 =>
                      some (p21.1, S27)
                    else
                      some ((-1), p16.2)
            else
              some ((-1), p5.2)
        else
          some ((-1), p5.2)
theorem g92_ok {x1 : Int32} {X1 : Int} {x2 : Int32} {X2 : Int} {x3 : Int32} {X3 : Int} {x4 : Int32} {X4 : Int} {x5 : Int32} {X5 : Int} {S : gM} {M : vm_M} {r : Int × gM} (hR : Rel S M) (t1 : x1.toInt = X1) (t2 : x2.toInt = X2) (t3 : x3.toInt = X3) (t4 : x4.toInt = X4) (t5 : x5.toInt = X5) (h : g92 X1 X2 X3 X4 X5 S = some r) : Mp gRI (f92 0 x1 x2 x3 x4 x5 M) r := by
  unfold g92 at h
  unfold f92
  obtain ⟨p1, e1, h⟩ := bind_so h
  refine k_call (g102_ok hR t1 tI_3 e1) (fun b1 R1 => ?_)
  refine k_ite (c_eq R1.1 tI_0) h (fun c2 h => ?_) (fun c2 h => ?_)
  · exact k_retI R1.2 tI_m1 h
  · refine k_ob (R1.2.obF (by decide) rfl) ?_
    obtain ⟨p3, e3, h⟩ := bind_so h
    refine k_call (g105_ok R1.2 t2 e3) (fun b3 R3 => ?_)
    refine k_ite (c_eq R3.1 tI_0) h (fun c4 h => ?_) (fun c4 h => ?_)
    · exact k_retI R3.2 tI_m1 h
    · refine k_ob (R3.2.obF (by decide) rfl) ?_
      obtain ⟨p5, e5, h⟩ := bind_so h
      refine k_call (g105_ok R3.2 t3 e5) (fun b5 R5 => ?_)
      refine k_ite (c_eq R5.1 tI_0) h (fun c6 h => ?_) (fun c6 h => ?_)
      · exact k_retI R5.2 tI_m1 h
      · refine k_ite (c_ne t2 t3) h (fun c7 h => ?_) (fun c7 h => ?_)
        · refine k_grF 0 R5.2 (R5.2.obF (by decide) rfl) rfl ?_
          refine k_some ?_
          refine k_grF 8 R5.2 (R5.2.obF (by decide) rfl) rfl ?_
          refine k_some ?_
          obtain ⟨c8, h⟩ := chk_so h
          obtain ⟨V9, e9, h⟩ := lt_so h
          refine k_ai R5.2 (R5.2.lnF (by decide) rfl) rfl t2 c8 e9 (fun v9 z9 => ?_)
          refine k_ite (c_ne z9 t1) h (fun c10 h => ?_) (fun c10 h => ?_)
          · exact k_retI R5.2 tI_m1 h
          · refine k_grF 0 R5.2 (R5.2.obF (by decide) rfl) rfl ?_
            refine k_some ?_
            refine k_grF 8 R5.2 (R5.2.obF (by decide) rfl) rfl ?_
            refine k_some ?_
            obtain ⟨c11, h⟩ := chk_so h
            obtain ⟨V12, e12, h⟩ := lt_so h
            refine k_ai R5.2 (R5.2.lnF (by decide) rfl) rfl t3 c11 e12 (fun v12 z12 => ?_)
            refine k_ite (c_eq z12 t1) h (fun c13 h => ?_) (fun c13 h => ?_)
            · refine k_ite (c_lt t4 tI_1) h (fun c14 h => ?_) (fun c14 h => ?_)
              · exact k_retI R5.2 tI_m1 h
              · refine k_ite (c_lt tI_9999999 t4) h (fun c15 h => ?_) (fun c15 h => ?_)
                · exact k_retI R5.2 tI_m1 h
                · refine k_ob (R5.2.obF (by decide) rfl) ?_
                  obtain ⟨p16, e16, h⟩ := bind_so h
                  refine k_call (g106_ok R5.2 t5 e16) (fun b16 R16 => ?_)
                  refine k_ite (c_eq R16.1 tI_0) h (fun c17 h => ?_) (fun c17 h => ?_)
                  · exact k_retI R16.2 tI_m1 h
                  · refine k_grF 5 R16.2 (R16.2.obF (by decide) rfl) rfl ?_
                    refine k_some ?_
                    obtain ⟨V18, e18, h⟩ := lt_so h
                    refine k_gi R16.2 (R16.2.obF (by decide) rfl) rfl e18 (fun v18 z18 => ?_)
                    refine k_ite (c_lt z18 tI_20) h (fun c19 h => ?_) (fun c19 h => ?_)
                    · refine k_grF 5 R16.2 (R16.2.obF (by decide) rfl) rfl ?_
                      obtain ⟨V20, e20, h⟩ := lt_so h
                      refine k_gi R16.2 (R16.2.obF (by decide) rfl) rfl e20 (fun v20 z20 => ?_)
                      refine k_some ?_
                      refine k_ob (R16.2.obF (by decide) rfl) ?_
                      obtain ⟨p21, e21, h⟩ := bind_so h
                      refine k_call (g21_ok R16.2 t1 t5 z20 e21) (fun b21 R21 => ?_)
                      refine k_grF 5 R21.2 (R21.2.obF (by decide) rfl) rfl ?_
                      refine k_some ?_
                      refine k_grF 50 R21.2 (R21.2.obF (by decide) rfl) rfl ?_
                      refine k_some ?_
                      obtain ⟨c22, h⟩ := chk_so h
                      obtain ⟨S23, e23, h⟩ := lt_so h
                      refine k_si R21.2 (R21.2.lnF (by decide) rfl) rfl R21.1 c22 t2 e23 (fun M23 R23 => ?_)
                      refine k_grF 5 R23 (R23.obF (by decide) rfl) rfl ?_
                      refine k_some ?_
                      refine k_grF 51 R23 (R23.obF (by decide) rfl) rfl ?_
                      refine k_some ?_
                      obtain ⟨c24, h⟩ := chk_so h
                      obtain ⟨S25, e25, h⟩ := lt_so h
                      refine k_si R23 (R23.lnF (by decide) rfl) rfl R21.1 c24 t3 e25 (fun M25 R25 => ?_)
                      refine k_grF 5 R25 (R25.obF (by decide) rfl) rfl ?_
                      refine k_some ?_
                      refine k_grF 52 R25 (R25.obF (by decide) rfl) rfl ?_
                      refine k_some ?_
                      obtain ⟨c26, h⟩ := chk_so h
                      obtain ⟨S27, e27, h⟩ := lt_so h
                      refine k_si R25 (R25.lnF (by decide) rfl) rfl R21.1 c26 t4 e27 (fun M27 R27 => ?_)
                      exact k_retI R27 R21.1 h
                    · exact k_retI R16.2 tI_m1 h
            · exact k_retI R5.2 tI_m1 h
        · exact k_retI R5.2 tI_m1 h
/-- PupilCoin.mayObject(II)Z -/
def g108 (X1 : Int) (X2 : Int) (S : gM) : Option (Int × gM) :=
  w_chk ((0 : Int) ≤ X2 ∧ X2 < 12) <|
  w_lt (gi S 3 X2) fun V2 =>
  w_chk ((0 : Int) ≤ X1 ∧ X1 < 20) <|
  w_lt (gi S 46 X1) fun V4 =>
  if ¬ V2 = V4 then
    some (0, S)
  else
    w_lt (gi S 0 10) fun V6 =>
    w_ckI (V6.tdiv 100) fun V7 =>
    (g2 X2 V7 S).bind fun p8 =>
    if p8.1 = 0 then
      some (0, p8.2)
    else
      some (1, p8.2)
theorem g108_ok {x1 : Int32} {X1 : Int} {x2 : Int32} {X2 : Int} {S : gM} {M : vm_M} {r : Int × gM} (hR : Rel S M) (t1 : x1.toInt = X1) (t2 : x2.toInt = X2) (h : g108 X1 X2 S = some r) : Mp gRI (f108 0 x1 x2 M) r := by
  unfold g108 at h
  unfold f108
  refine k_grF 0 hR (hR.obF (by decide) rfl) rfl ?_
  refine k_some ?_
  refine k_grF 8 hR (hR.obF (by decide) rfl) rfl ?_
  refine k_some ?_
  obtain ⟨c1, h⟩ := chk_so h
  obtain ⟨V2, e2, h⟩ := lt_so h
  refine k_ai hR (hR.lnF (by decide) rfl) rfl t2 c1 e2 (fun v2 z2 => ?_)
  refine k_grF 5 hR (hR.obF (by decide) rfl) rfl ?_
  refine k_some ?_
  refine k_grF 49 hR (hR.obF (by decide) rfl) rfl ?_
  refine k_some ?_
  obtain ⟨c3, h⟩ := chk_so h
  obtain ⟨V4, e4, h⟩ := lt_so h
  refine k_ai hR (hR.lnF (by decide) rfl) rfl t1 c3 e4 (fun v4 z4 => ?_)
  refine k_ite (c_ne z2 z4) h (fun c5 h => ?_) (fun c5 h => ?_)
  · exact k_retZ hR tI_0 (by decide) h
  · refine k_grF 0 hR (hR.obF (by decide) rfl) rfl ?_
    obtain ⟨V6, e6, h⟩ := lt_so h
    refine k_gi hR (hR.obF (by decide) rfl) rfl e6 (fun v6 z6 => ?_)
    obtain ⟨V7, e7, c7, h⟩ := ckI_so h
    refine k_dvI z6 tI_100 (by decide) c7 e7 (fun v7 z7 => ?_)
    refine k_some ?_
    refine k_ob (hR.obF (by decide) rfl) ?_
    obtain ⟨p8, e8, h⟩ := bind_so h
    refine k_call (g2_ok hR t2 z7 e8) (fun b8 R8 => ?_)
    refine k_ite (c_eq R8.1 tI_0) h (fun c9 h => ?_) (fun c9 h => ?_)
    · exact k_retZ R8.2 tI_0 (by decide) h
    · exact k_retZ R8.2 tI_1 (by decide) h
/-- PupilCoin.object(II)Z -/
def g93 (X1 : Int) (X2 : Int) (S : gM) : Option (Int × gM) :=
  w_lt (gi S 45 8) fun V1 =>
  (g102 X1 V1 S).bind fun p2 =>
  if p2.1 = 0 then
    some (0, p2.2)
  else
    (g105 X2 p2.2).bind fun p4 =>
    if ¬ p4.1 = 0 then
      w_chk ((0 : Int) ≤ X1 ∧ X1 < 20) <|
      w_lt (gi p4.2 53 X1) fun V7 =>
      if ¬ V7 = 0 then
        some (0, p4.2)
      else
        (g22 X1 X2 p4.2).bind fun p9 =>
        if p9.1 = 0 then
          (g108 X1 X2 p9.2).bind fun p11 =>
          if ¬ p11.1 = 0 then
            w_chk ((0 : Int) ≤ X1 ∧ X1 < 20) <|
            w_lt (gi p11.2 52 X1) fun V14 =>
            w_lt (b_shl 1 X2) fun V15 =>
            w_lt (b_or V14 V15) fun V16 =>
            w_chk ((0 : Int) ≤ X1 ∧ X1 < 20) <|
            w_lt (wi p11.2 52 X1 V16) fun S18 =>
            some (1, S18)
          else
            some (0, p11.2)
        else
          some (0, p9.2)
    else
      some (0, p4.2)
theorem g93_ok {x1 : Int32} {X1 : Int} {x2 : Int32} {X2 : Int} {S : gM} {M : vm_M} {r : Int × gM} (hR : Rel S M) (t1 : x1.toInt = X1) (t2 : x2.toInt = X2) (h : g93 X1 X2 S = some r) : Mp gRI (f93 0 x1 x2 M) r := by
  unfold g93 at h
  unfold f93
  refine k_grF 5 hR (hR.obF (by decide) rfl) rfl ?_
  refine k_some ?_
  obtain ⟨V1, e1, h⟩ := lt_so h
  refine k_gi hR (hR.obF (by decide) rfl) rfl e1 (fun v1 z1 => ?_)
  obtain ⟨p2, e2, h⟩ := bind_so h
  refine k_call (g102_ok hR t1 z1 e2) (fun b2 R2 => ?_)
  refine k_ite (c_eq R2.1 tI_0) h (fun c3 h => ?_) (fun c3 h => ?_)
  · exact k_retZ R2.2 tI_0 (by decide) h
  · refine k_ob (R2.2.obF (by decide) rfl) ?_
    obtain ⟨p4, e4, h⟩ := bind_so h
    refine k_call (g105_ok R2.2 t2 e4) (fun b4 R4 => ?_)
    refine k_ite (c_ne R4.1 tI_0) h (fun c5 h => ?_) (fun c5 h => ?_)
    · refine k_grF 5 R4.2 (R4.2.obF (by decide) rfl) rfl ?_
      refine k_some ?_
      refine k_grF 56 R4.2 (R4.2.obF (by decide) rfl) rfl ?_
      refine k_some ?_
      obtain ⟨c6, h⟩ := chk_so h
      obtain ⟨V7, e7, h⟩ := lt_so h
      refine k_ai R4.2 (R4.2.lnF (by decide) rfl) rfl t1 c6 e7 (fun v7 z7 => ?_)
      refine k_ite (c_ne z7 tI_0) h (fun c8 h => ?_) (fun c8 h => ?_)
      · exact k_retZ R4.2 tI_0 (by decide) h
      · refine k_grF 5 R4.2 (R4.2.obF (by decide) rfl) rfl ?_
        refine k_some ?_
        refine k_ob (R4.2.obF (by decide) rfl) ?_
        obtain ⟨p9, e9, h⟩ := bind_so h
        refine k_call (g22_ok R4.2 t1 t2 e9) (fun b9 R9 => ?_)
        refine k_ite (c_eq R9.1 tI_0) h (fun c10 h => ?_) (fun c10 h => ?_)
        · refine k_ob (R9.2.obF (by decide) rfl) ?_
          obtain ⟨p11, e11, h⟩ := bind_so h
          refine k_call (g108_ok R9.2 t1 t2 e11) (fun b11 R11 => ?_)
          refine k_ite (c_ne R11.1 tI_0) h (fun c12 h => ?_) (fun c12 h => ?_)
          · refine k_grF 5 R11.2 (R11.2.obF (by decide) rfl) rfl ?_
            refine k_some ?_
            refine k_grF 55 R11.2 (R11.2.obF (by decide) rfl) rfl ?_
            refine k_some ?_
            obtain ⟨c13, h⟩ := chk_so h
            obtain ⟨V14, e14, h⟩ := lt_so h
            refine k_ai R11.2 (R11.2.lnF (by decide) rfl) rfl t1 c13 e14 (fun v14 z14 => ?_)
            obtain ⟨V15, e15, h⟩ := lt_so h
            obtain ⟨V16, e16, h⟩ := lt_so h
            obtain ⟨c17, h⟩ := chk_so h
            obtain ⟨S18, e18, h⟩ := lt_so h
            refine k_si R11.2 (R11.2.lnF (by decide) rfl) rfl t1 c17 (t_or z14 (t_shl tI_1 t2 e15) e16) e18 (fun M18 R18 => ?_)
            exact k_retZ R18 tI_1 (by decide) h
          · exact k_retZ R11.2 tI_0 (by decide) h
        · exact k_retZ R9.2 tI_0 (by decide) h
    · exact k_retZ R4.2 tI_0 (by decide) h
def g109_l7 (X1 : Int) (K57 : Int → Int → gM → Option (Int × gM)) : Nat → Int → Int → Int → gM → Option (Int × gM)
  | 0 => fun _ _ _ _ => none
  | n + 1 => fun X2 X3 X4 S =>
    w_lt (gi S 1 7) fun V1 =>
    if V1 ≤ X4 then
      K57 X2 X3 S
    else
      (g108 X1 X4 S).bind fun p3 =>
      if ¬ p3.1 = 0 then
        w_ckI (X2 + 1) fun V5 =>
        (g22 X1 X4 p3.2).bind fun p6 =>
        if p6.1 = 0 then
          w_ckI (X4 + 1) fun V8 =>
          g109_l7 X1 K57 n V5 X3 V8 p6.2
        else
          w_ckI (X3 + 1) fun V9 =>
          w_ckI (X4 + 1) fun V10 =>
          g109_l7 X1 K57 n V5 V9 V10 p6.2
      else
        w_ckI (X4 + 1) fun V11 =>
        g109_l7 X1 K57 n X2 X3 V11 p3.2
theorem g109_l7_ok {x1 : Int32} {X1 : Int} {k57 : Int32 → Int32 → vm_M → Option (Int32 × vm_M)} {K57 : Int → Int → gM → Option (Int × gM)} {r : Int × gM} (hk57 : ∀ (y2 : Int32) (Y2 : Int) (y3 : Int32) (Y3 : Int) (S : gM) (M : vm_M), Rel S M → y2.toInt = Y2 → y3.toInt = Y3 → K57 Y2 Y3 S = some r → Mp gRI (k57 y2 y3 M) r) (t1 : x1.toInt = X1) : ∀ (n : Nat) (x2 : Int32) (X2 : Int) (x3 : Int32) (X3 : Int) (x4 : Int32) (X4 : Int) (S : gM) (M : vm_M), Rel S M → x2.toInt = X2 → x3.toInt = X3 → x4.toInt = X4 → g109_l7 X1 K57 n X2 X3 X4 S = some r → Mp gRI (f109_l7 0 x1 k57 n x2 x3 x4 M) r := by
  intro n
  induction n with
  | zero =>
    intro x2 X2 x3 X3 x4 X4 S M hR t2 t3 t4 h
    cases h
  | succ n ih =>
    intro x2 X2 x3 X3 x4 X4 S M hR t2 t3 t4 h
    dsimp only [g109_l7] at h
    dsimp only [f109_l7]
    refine k_grF 0 hR (hR.obF (by decide) rfl) rfl ?_
    refine k_some ?_
    obtain ⟨V1, e1, h⟩ := lt_so h
    refine k_gi hR (hR.obF (by decide) rfl) rfl e1 (fun v1 z1 => ?_)
    refine k_ite (c_le z1 t4) h (fun c2 h => ?_) (fun c2 h => ?_)
    · exact hk57 _ _ _ _ _ _ hR t2 t3 h
    · refine k_ob (hR.obF (by decide) rfl) ?_
      obtain ⟨p3, e3, h⟩ := bind_so h
      refine k_call (g108_ok hR t1 t4 e3) (fun b3 R3 => ?_)
      refine k_ite (c_ne R3.1 tI_0) h (fun c4 h => ?_) (fun c4 h => ?_)
      · obtain ⟨V5, e5, c5, h⟩ := ckI_so h
        refine k_grF 5 R3.2 (R3.2.obF (by decide) rfl) rfl ?_
        refine k_some ?_
        refine k_ob (R3.2.obF (by decide) rfl) ?_
        obtain ⟨p6, e6, h⟩ := bind_so h
        refine k_call (g22_ok R3.2 t1 t4 e6) (fun b6 R6 => ?_)
        refine k_ite (c_eq R6.1 tI_0) h (fun c7 h => ?_) (fun c7 h => ?_)
        · obtain ⟨V8, e8, c8, h⟩ := ckI_so h
          exact ih _ _ _ _ _ _ _ _ R6.2 (t_add t2 tI_1 c5 e5) t3 (t_add t4 tI_1 c8 e8) h
        · obtain ⟨V9, e9, c9, h⟩ := ckI_so h
          obtain ⟨V10, e10, c10, h⟩ := ckI_so h
          exact ih _ _ _ _ _ _ _ _ R6.2 (t_add t2 tI_1 c5 e5) (t_add t3 tI_1 c9 e9) (t_add t4 tI_1 c10 e10) h
      · obtain ⟨V11, e11, c11, h⟩ := ckI_so h
        exact ih _ _ _ _ _ _ _ _ R3.2 t2 t3 (t_add t4 tI_1 c11 e11) h
/-- PupilCoin.isObjected(I)Z -/
def g109 (X1 : Int) (S : gM) : Option (Int × gM) :=
  g109_l7 X1
    (fun Y12 Y13 S14 =>
      w_ckI (2 * Y13) fun V15 =>
      if V15 ≤ Y12 then
        some (0, S14)
      else
        some (1, S14))
    100000 0 0 0 S
theorem g109_ok {x1 : Int32} {X1 : Int} {S : gM} {M : vm_M} {r : Int × gM} (hR : Rel S M) (t1 : x1.toInt = X1) (h : g109 X1 S = some r) : Mp gRI (f109 0 x1 M) r := by
  unfold g109 at h
  unfold f109
  refine g109_l7_ok ?_ t1 100000 _ _ _ _ _ _ _ _ hR tI_0 tI_0 tI_0 h
  · intro y12 Y12 y13 Y13 S14 M14 R14 u12 u13
    intro h
    obtain ⟨V15, e15, c15, h⟩ := ckI_so h
    refine k_ite (c_le (t_mul tI_2 u13 c15 e15) u12) h (fun c16 h => ?_) (fun c16 h => ?_)
    · exact k_retZ R14 tI_0 (by decide) h
    · exact k_retZ R14 tI_1 (by decide) h
def g110_l52 (X1 : Int) (X2 : Int) (X3 : Int) (x4 : Option Nat) (K99 : Int → gM → Option (Int × gM)) : Nat → Int → Int → gM → Option (Int × gM)
  | 0 => fun _ _ _ => none
  | n + 1 => fun X5 X7 S =>
    w_lt (gi S 1 7) fun V9 =>
    if V9 ≤ X7 then
      K99 X5 S
    else
      w_chk ((0 : Int) ≤ X7 ∧ X7 < 12) <|
      w_lt (gi S 3 X7) fun V12 =>
      if ¬ V12 = X3 then
        w_ckI (X7 + 1) fun V14 =>
        g110_l52 X1 X2 X3 x4 K99 n X5 V14 S
      else
        w_chk ((0 : Int) ≤ X7 ∧ X7 < 12) <|
        w_lt (gl S 41 X7) fun V16 =>
        w_ckJ (X5 + V16) fun V17 =>
        w_ckI (X7 + 1) fun V18 =>
        g110_l52 X1 X2 X3 x4 K99 n V17 V18 S
theorem g110_l52_ok {x1 : Int32} {X1 : Int} {x2 : Int32} {X2 : Int} {x3 : Int32} {X3 : Int} {x4 : Option Nat} {k99 : Int64 → vm_M → Option (Int32 × vm_M)} {K99 : Int → gM → Option (Int × gM)} {r : Int × gM} (hk99 : ∀ (y5 : Int64) (Y5 : Int) (S : gM) (M : vm_M), Rel S M → y5.toInt = Y5 → K99 Y5 S = some r → Mp gRI (k99 y5 M) r) (t1 : x1.toInt = X1) (t2 : x2.toInt = X2) (t3 : x3.toInt = X3) : ∀ (n : Nat) (x5 : Int64) (X5 : Int) (x7 : Int32) (X7 : Int) (S : gM) (M : vm_M), Rel S M → x5.toInt = X5 → x7.toInt = X7 → g110_l52 X1 X2 X3 x4 K99 n X5 X7 S = some r → Mp gRI (f110_l52 0 x1 x2 x3 x4 k99 n x5 x7 M) r := by
  intro n
  induction n with
  | zero =>
    intro x5 X5 x7 X7 S M hR t5 t7 h
    cases h
  | succ n ih =>
    intro x5 X5 x7 X7 S M hR t5 t7 h
    dsimp only [g110_l52] at h
    dsimp only [f110_l52]
    refine k_grF 0 hR (hR.obF (by decide) rfl) rfl ?_
    refine k_some ?_
    obtain ⟨V9, e9, h⟩ := lt_so h
    refine k_gi hR (hR.obF (by decide) rfl) rfl e9 (fun v9 z9 => ?_)
    refine k_ite (c_le z9 t7) h (fun c10 h => ?_) (fun c10 h => ?_)
    · exact hk99 _ _ _ _ hR t5 h
    · refine k_grF 0 hR (hR.obF (by decide) rfl) rfl ?_
      refine k_some ?_
      refine k_grF 8 hR (hR.obF (by decide) rfl) rfl ?_
      refine k_some ?_
      obtain ⟨c11, h⟩ := chk_so h
      obtain ⟨V12, e12, h⟩ := lt_so h
      refine k_ai hR (hR.lnF (by decide) rfl) rfl t7 c11 e12 (fun v12 z12 => ?_)
      refine k_ite (c_ne z12 t3) h (fun c13 h => ?_) (fun c13 h => ?_)
      · obtain ⟨V14, e14, c14, h⟩ := ckI_so h
        exact ih _ _ _ _ _ _ hR t5 (t_add t7 tI_1 c14 e14) h
      · refine k_grF 4 hR (hR.obF (by decide) rfl) rfl ?_
        refine k_some ?_
        refine k_grF 43 hR (hR.obF (by decide) rfl) rfl ?_
        refine k_some ?_
        obtain ⟨c15, h⟩ := chk_so h
        obtain ⟨V16, e16, h⟩ := lt_so h
        refine k_al hR (hR.lnF (by decide) rfl) rfl t7 c15 e16 (fun v16 z16 => ?_)
        obtain ⟨V17, e17, c17, h⟩ := ckJ_so h
        obtain ⟨V18, e18, c18, h⟩ := ckI_so h
        exact ih _ _ _ _ _ _ hR (tJ_add t5 z16 c17 e17) (t_add t7 tI_1 c18 e18) h
/-- PupilCoin.isTooMuch(I)Z -/
def g110 (X1 : Int) (S : gM) : Option (Int × gM) :=
  w_chk ((0 : Int) ≤ X1 ∧ X1 < 20) <|
  w_lt (gi S 50 X1) fun V2 =>
  w_chk ((0 : Int) ≤ X1 ∧ X1 < 20) <|
  w_lt (gi S 46 X1) fun V4 =>
  w_lt (gi S 0 10) fun V5 =>
  (g56 V2 V5 S).bind fun p6 =>
  w_lt p6.1 fun a6 =>
  w_lt (gi p6.2 0 10) fun V7 =>
  (g59 V2 V7 p6.2).bind fun p8 =>
  g110_l52 X1 V2 V4 a6
    (fun Y19 S20 =>
      (g23 V4 V2 S20).bind fun p21 =>
      w_chk ((0 : Int) ≤ X1 ∧ X1 < 20) <|
      w_lt (gi p21.2 49 X1) fun V23 =>
      w_ckJ (p21.1 + V23) fun V24 =>
      (a6).bind fun q25 =>
      w_chk (gob p21.2 q25 1 = true) <|
      w_chk (gr p21.2 q25 5 = some (q25 + 1)) <|
      w_chk ((0 : Int) ≤ gln p21.2 (q25 + 1) 0) <|
      w_chk ((0 : Int) ≤ 3 ∧ 3 < (gln p21.2 (q25 + 1) 0)) <|
      w_lt (gi p21.2 (q25 + 1) 3) fun V30 =>
      w_ckJ (Y19 * V30) fun V31 =>
      w_ckJ (V31.tdiv 100) fun V32 =>
      if V24 ≤ V32 then
        some (0, p21.2)
      else
        some (1, p21.2))
    100000 0 0 p8
theorem g110_ok {x1 : Int32} {X1 : Int} {S : gM} {M : vm_M} {r : Int × gM} (hR : Rel S M) (t1 : x1.toInt = X1) (h : g110 X1 S = some r) : Mp gRI (f110 0 x1 M) r := by
  unfold g110 at h
  unfold f110
  refine k_grF 5 hR (hR.obF (by decide) rfl) rfl ?_
  refine k_some ?_
  refine k_grF 53 hR (hR.obF (by decide) rfl) rfl ?_
  refine k_some ?_
  obtain ⟨c1, h⟩ := chk_so h
  obtain ⟨V2, e2, h⟩ := lt_so h
  refine k_ai hR (hR.lnF (by decide) rfl) rfl t1 c1 e2 (fun v2 z2 => ?_)
  refine k_grF 5 hR (hR.obF (by decide) rfl) rfl ?_
  refine k_some ?_
  refine k_grF 49 hR (hR.obF (by decide) rfl) rfl ?_
  refine k_some ?_
  obtain ⟨c3, h⟩ := chk_so h
  obtain ⟨V4, e4, h⟩ := lt_so h
  refine k_ai hR (hR.lnF (by decide) rfl) rfl t1 c3 e4 (fun v4 z4 => ?_)
  refine k_grF 3 hR (hR.obF (by decide) rfl) rfl ?_
  obtain ⟨V5, e5, h⟩ := lt_so h
  refine k_gi hR (hR.obF (by decide) rfl) rfl e5 (fun v5 z5 => ?_)
  refine k_some ?_
  refine k_ob (hR.obF (by decide) rfl) ?_
  obtain ⟨p6, e6, h⟩ := bind_so h
  refine k_call (g56_ok hR z2 z5 e6) (fun b6 R6 => ?_)
  obtain ⟨d6, R6⟩ := R6
  obtain ⟨a6, e6, h⟩ := lt_so h
  rw [d6, ← e6]
  refine k_grF 4 R6 (R6.obF (by decide) rfl) rfl ?_
  obtain ⟨V7, e7, h⟩ := lt_so h
  refine k_gi R6 (R6.obF (by decide) rfl) rfl e7 (fun v7 z7 => ?_)
  refine k_some ?_
  refine k_ob (R6.obF (by decide) rfl) ?_
  obtain ⟨p8, e8, h⟩ := bind_so h
  refine k_call (g59_ok R6 z2 z7 e8) (fun M8 R8 => ?_)
  refine g110_l52_ok ?_ t1 z2 z4 100000 _ _ _ _ _ _ R8 tJ_0 tI_0 h
  · intro y19 Y19 S20 M20 R20 u19
    intro h
    refine k_grF 5 R20 (R20.obF (by decide) rfl) rfl ?_
    refine k_some ?_
    refine k_ob (R20.obF (by decide) rfl) ?_
    obtain ⟨p21, e21, h⟩ := bind_so h
    refine k_call (g23_ok R20 z4 z2 e21) (fun b21 R21 => ?_)
    refine k_grF 5 R21.2 (R21.2.obF (by decide) rfl) rfl ?_
    refine k_some ?_
    refine k_grF 52 R21.2 (R21.2.obF (by decide) rfl) rfl ?_
    refine k_some ?_
    obtain ⟨c22, h⟩ := chk_so h
    obtain ⟨V23, e23, h⟩ := lt_so h
    refine k_ai R21.2 (R21.2.lnF (by decide) rfl) rfl t1 c22 e23 (fun v23 z23 => ?_)
    obtain ⟨V24, e24, c24, h⟩ := ckJ_so h
    obtain ⟨q25, e25, h⟩ := bind_so h
    refine k_unw e25 ?_
    obtain ⟨c26, h⟩ := chk_so h
    obtain ⟨c27, h⟩ := chk_so h
    refine k_gr R21.2 (R21.2.ob c26) c27.symm ?_
    refine k_some ?_
    obtain ⟨hn28, h⟩ := chk_so h
    obtain ⟨n28, en28, hn28⟩ := R21.2.ln hn28
    obtain ⟨c29, h⟩ := chk_so h
    obtain ⟨V30, e30, h⟩ := lt_so h
    refine k_ai R21.2 hn28 en28.symm tI_3 c29 e30 (fun v30 z30 => ?_)
    obtain ⟨V31, e31, c31, h⟩ := ckJ_so h
    obtain ⟨V32, e32, c32, h⟩ := ckJ_so h
    refine k_dvJ (tJ_mul u19 (t_itol z30) c31 e31) tJ_100 (by decide) c32 e32 (fun v32 z32 => ?_)
    refine k_ite (cJ_le (tJ_add R21.1 (t_itol z23) c24 e24) z32) h (fun c33 h => ?_) (fun c33 h => ?_)
    · exact k_retZ R21.2 tI_0 (by decide) h
    · exact k_retZ R21.2 tI_1 (by decide) h
/-- PupilCoin.adopt(I)I -/
def g94 (X1 : Int) (S : gM) : Option (Int × gM) :=
  w_lt (gi S 45 8) fun V1 =>
  (g102 X1 V1 S).bind fun p2 =>
  if p2.1 = 0 then
    some (1, p2.2)
  else
    w_chk ((0 : Int) ≤ X1 ∧ X1 < 20) <|
    w_lt (gi p2.2 53 X1) fun V5 =>
    if V5 = 0 then
      w_lt (gi p2.2 0 10) fun V7 =>
      w_chk ((0 : Int) ≤ X1 ∧ X1 < 20) <|
      w_lt (gi p2.2 51 X1) fun V9 =>
      w_ckI (V9 + 10) fun V10 =>
      if V10 ≤ V7 then
        w_lt (gi p2.2 0 10) fun V12 =>
        w_chk ((0 : Int) ≤ X1 ∧ X1 < 20) <|
        w_lt (gi p2.2 50 X1) fun V14 =>
        w_ckI (V14 * 100) fun V15 =>
        if V12 < V15 then
          (g109 X1 p2.2).bind fun p17 =>
          if p17.1 = 0 then
            (g110 X1 p17.2).bind fun p19 =>
            if p19.1 = 0 then
              w_chk ((0 : Int) ≤ X1 ∧ X1 < 20) <|
              w_lt (wi p19.2 53 X1 1) fun S22 =>
              w_lt (gi S22 45 9) fun V23 =>
              w_ckI (V23 + 1) fun V24 =>
              w_lt (wi S22 45 9 V24) fun S25 =>
              some (0, S25)
            else
              some (5, p19.2)
          else
            some (4, p17.2)
        else
          some (3, p2.2)
      else
        some (2, p2.2)
    else
      some (1, p2.2)
theorem g94_ok {x1 : Int32} {X1 : Int} {S : gM} {M : vm_M} {r : Int × gM} (hR : Rel S M) (t1 : x1.toInt = X1) (h : g94 X1 S = some r) : Mp gRI (f94 0 x1 M) r := by
  unfold g94 at h
  unfold f94
  refine k_grF 5 hR (hR.obF (by decide) rfl) rfl ?_
  refine k_some ?_
  obtain ⟨V1, e1, h⟩ := lt_so h
  refine k_gi hR (hR.obF (by decide) rfl) rfl e1 (fun v1 z1 => ?_)
  obtain ⟨p2, e2, h⟩ := bind_so h
  refine k_call (g102_ok hR t1 z1 e2) (fun b2 R2 => ?_)
  refine k_ite (c_eq R2.1 tI_0) h (fun c3 h => ?_) (fun c3 h => ?_)
  · exact k_retI R2.2 tI_1 h
  · refine k_grF 5 R2.2 (R2.2.obF (by decide) rfl) rfl ?_
    refine k_some ?_
    refine k_grF 56 R2.2 (R2.2.obF (by decide) rfl) rfl ?_
    refine k_some ?_
    obtain ⟨c4, h⟩ := chk_so h
    obtain ⟨V5, e5, h⟩ := lt_so h
    refine k_ai R2.2 (R2.2.lnF (by decide) rfl) rfl t1 c4 e5 (fun v5 z5 => ?_)
    refine k_ite (c_eq z5 tI_0) h (fun c6 h => ?_) (fun c6 h => ?_)
    · obtain ⟨V7, e7, h⟩ := lt_so h
      refine k_gi R2.2 (R2.2.obF (by decide) rfl) rfl e7 (fun v7 z7 => ?_)
      refine k_grF 5 R2.2 (R2.2.obF (by decide) rfl) rfl ?_
      refine k_some ?_
      refine k_grF 54 R2.2 (R2.2.obF (by decide) rfl) rfl ?_
      refine k_some ?_
      obtain ⟨c8, h⟩ := chk_so h
      obtain ⟨V9, e9, h⟩ := lt_so h
      refine k_ai R2.2 (R2.2.lnF (by decide) rfl) rfl t1 c8 e9 (fun v9 z9 => ?_)
      obtain ⟨V10, e10, c10, h⟩ := ckI_so h
      refine k_ite (c_le (t_add z9 tI_10 c10 e10) z7) h (fun c11 h => ?_) (fun c11 h => ?_)
      · obtain ⟨V12, e12, h⟩ := lt_so h
        refine k_gi R2.2 (R2.2.obF (by decide) rfl) rfl e12 (fun v12 z12 => ?_)
        refine k_grF 5 R2.2 (R2.2.obF (by decide) rfl) rfl ?_
        refine k_some ?_
        refine k_grF 53 R2.2 (R2.2.obF (by decide) rfl) rfl ?_
        refine k_some ?_
        obtain ⟨c13, h⟩ := chk_so h
        obtain ⟨V14, e14, h⟩ := lt_so h
        refine k_ai R2.2 (R2.2.lnF (by decide) rfl) rfl t1 c13 e14 (fun v14 z14 => ?_)
        obtain ⟨V15, e15, c15, h⟩ := ckI_so h
        refine k_ite (c_lt z12 (t_mul z14 tI_100 c15 e15)) h (fun c16 h => ?_) (fun c16 h => ?_)
        · refine k_ob (R2.2.obF (by decide) rfl) ?_
          obtain ⟨p17, e17, h⟩ := bind_so h
          refine k_call (g109_ok R2.2 t1 e17) (fun b17 R17 => ?_)
          refine k_ite (c_eq R17.1 tI_0) h (fun c18 h => ?_) (fun c18 h => ?_)
          · refine k_ob (R17.2.obF (by decide) rfl) ?_
            obtain ⟨p19, e19, h⟩ := bind_so h
            refine k_call (g110_ok R17.2 t1 e19) (fun b19 R19 => ?_)
            refine k_ite (c_eq R19.1 tI_0) h (fun c20 h => ?_) (fun c20 h => ?_)
            · refine k_grF 5 R19.2 (R19.2.obF (by decide) rfl) rfl ?_
              refine k_some ?_
              refine k_grF 56 R19.2 (R19.2.obF (by decide) rfl) rfl ?_
              refine k_some ?_
              obtain ⟨c21, h⟩ := chk_so h
              obtain ⟨S22, e22, h⟩ := lt_so h
              refine k_sz R19.2 (R19.2.lnF (by decide) rfl) rfl t1 c21 tI_1 (by decide) e22 (fun M22 R22 => ?_)
              refine k_grF 5 R22 (R22.obF (by decide) rfl) rfl ?_
              refine k_some ?_
              obtain ⟨V23, e23, h⟩ := lt_so h
              refine k_gi R22 (R22.obF (by decide) rfl) rfl e23 (fun v23 z23 => ?_)
              obtain ⟨V24, e24, c24, h⟩ := ckI_so h
              obtain ⟨S25, e25, h⟩ := lt_so h
              refine k_pi R22 (R22.obF (by decide) rfl) rfl (t_add z23 tI_1 c24 e24) e25 (fun M25 R25 => ?_)
              exact k_retI R25 tI_0 h
            · exact k_retI R19.2 tI_5 h
          · exact k_retI R17.2 tI_4 h
        · exact k_retI R2.2 tI_3 h
      · exact k_retI R2.2 tI_2 h
    · exact k_retI R2.2 tI_1 h
/-- PupilCoin.other(II)J -/
def g95 (X1 : Int) (X2 : Int) (S : gM) : Option (Int × gM) :=
  w_lt (gr S 0 8) fun a1 =>
  match a1 with
  | none =>
    some ((-2000000000000), S)
  | some q2 =>
    (g105 X1 S).bind fun p3 =>
    if p3.1 = 0 then
      some ((-2000000000000), p3.2)
    else
      (g103 X2 p3.2).bind fun p5 =>
      if ¬ p5.1 = 0 then
        w_lt (gr p5.2 0 8) fun a7 =>
        w_lt (gi p5.2 0 10) fun V8 =>
        (a7).bind fun q9 =>
        (g60 q9 X2 V8 p5.2).bind fun p10 =>
        w_chk ((0 : Int) ≤ X1 ∧ X1 < 12) <|
        w_lt (gl p10 41 X1) fun V12 =>
        some (V12, p10)
      else
        some ((-2000000000000), p5.2)
theorem g95_ok {x1 : Int32} {X1 : Int} {x2 : Int32} {X2 : Int} {S : gM} {M : vm_M} {r : Int × gM} (hR : Rel S M) (t1 : x1.toInt = X1) (t2 : x2.toInt = X2) (h : g95 X1 X2 S = some r) : Mp gRJ (f95 0 x1 x2 M) r := by
  unfold g95 at h
  unfold f95
  obtain ⟨a1, e1, h⟩ := lt_so h
  refine k_gr hR (hR.obF (by decide) rfl) e1 ?_
  cases a1 with
  | none =>
    dsimp only at h ⊢
    exact k_retJ hR tJ_m2000000000000 h
  | some q2 =>
    dsimp only at h ⊢
    refine k_ob (hR.obF (by decide) rfl) ?_
    obtain ⟨p3, e3, h⟩ := bind_so h
    refine k_call (g105_ok hR t1 e3) (fun b3 R3 => ?_)
    refine k_ite (c_eq R3.1 tI_0) h (fun c4 h => ?_) (fun c4 h => ?_)
    · exact k_retJ R3.2 tJ_m2000000000000 h
    · obtain ⟨p5, e5, h⟩ := bind_so h
      refine k_call (g103_ok R3.2 t2 e5) (fun b5 R5 => ?_)
      refine k_ite (c_ne R5.1 tI_0) h (fun c6 h => ?_) (fun c6 h => ?_)
      · refine k_grF 4 R5.2 (R5.2.obF (by decide) rfl) rfl ?_
        obtain ⟨a7, e7, h⟩ := lt_so h
        refine k_gr R5.2 (R5.2.obF (by decide) rfl) e7 ?_
        obtain ⟨V8, e8, h⟩ := lt_so h
        refine k_gi R5.2 (R5.2.obF (by decide) rfl) rfl e8 (fun v8 z8 => ?_)
        refine k_some ?_
        obtain ⟨q9, e9, h⟩ := bind_so h
        refine k_unw e9 ?_
        refine k_ob (R5.2.obF (by decide) rfl) ?_
        obtain ⟨p10, e10, h⟩ := bind_so h
        refine k_call (g60_ok R5.2 t2 z8 e10) (fun M10 R10 => ?_)
        refine k_grF 4 R10 (R10.obF (by decide) rfl) rfl ?_
        refine k_some ?_
        refine k_grF 43 R10 (R10.obF (by decide) rfl) rfl ?_
        refine k_some ?_
        obtain ⟨c11, h⟩ := chk_so h
        obtain ⟨V12, e12, h⟩ := lt_so h
        refine k_al R10 (R10.lnF (by decide) rfl) rfl t1 c11 e12 (fun v12 z12 => ?_)
        exact k_retJ R10 z12 h
      · exact k_retJ R5.2 tJ_m2000000000000 h
def g96_l69 : Nat → Int → Int → gM → Option (Int × gM)
  | 0 => fun _ _ _ => none
  | n + 1 => fun X2 X3 S =>
    if 12 ≤ X3 then
      some (X2, S)
    else
      w_chk ((0 : Int) ≤ X3 ∧ X3 < 12) <|
      w_lt (gl S 41 X3) fun V15 =>
      w_chk ((0 : Int) ≤ X3 ∧ X3 < 12) <|
      w_lt (gl S 42 X3) fun V17 =>
      if V17 ≤ V15 then
        w_ckI (X3 + 1) fun V19 =>
        g96_l69 n X2 V19 S
      else
        w_ckI (X2 + 1) fun V20 =>
        w_ckI (X3 + 1) fun V21 =>
        g96_l69 n V20 V21 S
theorem g96_l69_ok {r : Int × gM} : ∀ (n : Nat) (x2 : Int32) (X2 : Int) (x3 : Int32) (X3 : Int) (S : gM) (M : vm_M), Rel S M → x2.toInt = X2 → x3.toInt = X3 → g96_l69 n X2 X3 S = some r → Mp gRI (f96_l69 0 n x2 x3 M) r := by
  intro n
  induction n with
  | zero =>
    intro x2 X2 x3 X3 S M hR t2 t3 h
    cases h
  | succ n ih =>
    intro x2 X2 x3 X3 S M hR t2 t3 h
    dsimp only [g96_l69] at h
    dsimp only [f96_l69]
    refine k_ite (c_le tI_12 t3) h (fun c13 h => ?_) (fun c13 h => ?_)
    · exact k_retI hR t2 h
    · refine k_grF 4 hR (hR.obF (by decide) rfl) rfl ?_
      refine k_some ?_
      refine k_grF 43 hR (hR.obF (by decide) rfl) rfl ?_
      refine k_some ?_
      obtain ⟨c14, h⟩ := chk_so h
      obtain ⟨V15, e15, h⟩ := lt_so h
      refine k_al hR (hR.lnF (by decide) rfl) rfl t3 c14 e15 (fun v15 z15 => ?_)
      refine k_grF 4 hR (hR.obF (by decide) rfl) rfl ?_
      refine k_some ?_
      refine k_grF 44 hR (hR.obF (by decide) rfl) rfl ?_
      refine k_some ?_
      obtain ⟨c16, h⟩ := chk_so h
      obtain ⟨V17, e17, h⟩ := lt_so h
      refine k_al hR (hR.lnF (by decide) rfl) rfl t3 c16 e17 (fun v17 z17 => ?_)
      refine k_ite (cJ_ge z15 z17) h (fun c18 h => ?_) (fun c18 h => ?_)
      · obtain ⟨V19, e19, c19, h⟩ := ckI_so h
        exact ih _ _ _ _ _ _ hR t2 (t_add t3 tI_1 c19 e19) h
      · obtain ⟨V20, e20, c20, h⟩ := ckI_so h
        obtain ⟨V21, e21, c21, h⟩ := ckI_so h
        exact ih _ _ _ _ _ _ hR (t_add t2 tI_1 c20 e20) (t_add t3 tI_1 c21 e21) h
/-- PupilCoin.losers(I)I -/
def g96 (X1 : Int) (S : gM) : Option (Int × gM) :=
  w_lt (gr S 0 8) fun a1 =>
  match a1 with
  | none =>
    some ((-1), S)
  | some q2 =>
    (g103 X1 S).bind fun p3 =>
    if ¬ p3.1 = 0 then
      w_lt (gi p3.2 0 10) fun V5 =>
      (g59 X1 V5 p3.2).bind fun p6 =>
      w_chk ((0 : Int) ≤ 0 ∧ (0 : Int) ≤ 0 ∧ (0 : Int) ≤ 12 ∧ (0 : Int) + 12 ≤ 12 ∧ (0 : Int) + 12 ≤ 12) <|
      w_lt (wcl p6 41 42 0 0 12) fun S8 =>
      w_lt (gr S8 0 8) fun a9 =>
      w_lt (gi S8 0 10) fun V10 =>
      (a9).bind fun q11 =>
      (g60 q11 X1 V10 S8).bind fun p12 =>
      g96_l69
      
        100000 0 0 p12
    else
      some ((-1), p3.2)
theorem g96_ok {x1 : Int32} {X1 : Int} {S : gM} {M : vm_M} {r : Int × gM} (hR : Rel S M) (t1 : x1.toInt = X1) (h : g96 X1 S = some r) : Mp gRI (f96 0 x1 M) r := by
  unfold g96 at h
  unfold f96
  obtain ⟨a1, e1, h⟩ := lt_so h
  refine k_gr hR (hR.obF (by decide) rfl) e1 ?_
  cases a1 with
  | none =>
    dsimp only at h ⊢
    exact k_retI hR tI_m1 h
  | some q2 =>
    dsimp only at h ⊢
    obtain ⟨p3, e3, h⟩ := bind_so h
    refine k_call (g103_ok hR t1 e3) (fun b3 R3 => ?_)
    refine k_ite (c_ne R3.1 tI_0) h (fun c4 h => ?_) (fun c4 h => ?_)
    · refine k_grF 4 R3.2 (R3.2.obF (by decide) rfl) rfl ?_
      obtain ⟨V5, e5, h⟩ := lt_so h
      refine k_gi R3.2 (R3.2.obF (by decide) rfl) rfl e5 (fun v5 z5 => ?_)
      refine k_some ?_
      refine k_ob (R3.2.obF (by decide) rfl) ?_
      obtain ⟨p6, e6, h⟩ := bind_so h
      refine k_call (g59_ok R3.2 t1 z5 e6) (fun M6 R6 => ?_)
      refine k_grF 4 R6 (R6.obF (by decide) rfl) rfl ?_
      refine k_some ?_
      refine k_grF 43 R6 (R6.obF (by decide) rfl) rfl ?_
      refine k_grF 4 R6 (R6.obF (by decide) rfl) rfl ?_
      refine k_some ?_
      refine k_grF 44 R6 (R6.obF (by decide) rfl) rfl ?_
      refine k_some ?_
      refine k_some ?_
      obtain ⟨c7, h⟩ := chk_so h
      obtain ⟨S8, e8, h⟩ := lt_so h
      refine k_cpJ R6 (R6.lnF (by decide) rfl) (R6.lnF (by decide) rfl) rfl rfl tI_0 tI_0 tI_12 c7 e8 (fun M8 R8 => ?_)
      refine k_grF 4 R8 (R8.obF (by decide) rfl) rfl ?_
      obtain ⟨a9, e9, h⟩ := lt_so h
      refine k_gr R8 (R8.obF (by decide) rfl) e9 ?_
      obtain ⟨V10, e10, h⟩ := lt_so h
      refine k_gi R8 (R8.obF (by decide) rfl) rfl e10 (fun v10 z10 => ?_)
      refine k_some ?_
      obtain ⟨q11, e11, h⟩ := bind_so h
      refine k_unw e11 ?_
      refine k_ob (R8.obF (by decide) rfl) ?_
      obtain ⟨p12, e12, h⟩ := bind_so h
      refine k_call (g60_ok R8 t1 z10 e12) (fun M12 R12 => ?_)
      refine g96_l69_ok 100000 _ _ _ _ _ _ R12 tI_0 tI_0 h
    · exact k_retI R3.2 tI_m1 h
/-- PupilCoin.edge(III)J -/
def g97 (X1 : Int) (X2 : Int) (X3 : Int) (S : gM) : Option (Int × gM) :=
  (g105 X1 S).bind fun p1 =>
  if p1.1 = 0 then
    some ((-2000000000000), p1.2)
  else
    (g103 X2 p1.2).bind fun p3 =>
    if p3.1 = 0 then
      some ((-2000000000000), p3.2)
    else
      (g102 X3 5 p3.2).bind fun p5 =>
      if ¬ p5.1 = 0 then
        (g2 X1 X2 p5.2).bind fun p7 =>
        if ¬ p7.1 = 0 then
          w_lt (gi p7.2 0 10) fun V9 =>
          (g59 X2 V9 p7.2).bind fun p10 =>
          w_chk ((0 : Int) ≤ X1 ∧ X1 < 12) <|
          w_lt (gl p10 41 X1) fun V12 =>
          w_lt (gi p10 0 10) fun V13 =>
          (g61 X1 X3 X2 V13 p10).bind fun p14 =>
          w_chk ((0 : Int) ≤ X1 ∧ X1 < 12) <|
          w_lt (gl p14 41 X1) fun V16 =>
          w_ckJ (V16 - V12) fun V17 =>
          some (V17, p14)
        else
          some ((-2000000000000), p7.2)
      else
        some ((-2000000000000), p5.2)
theorem g97_ok {x1 : Int32} {X1 : Int} {x2 : Int32} {X2 : Int} {x3 : Int32} {X3 : Int} {S : gM} {M : vm_M} {r : Int × gM} (hR : Rel S M) (t1 : x1.toInt = X1) (t2 : x2.toInt = X2) (t3 : x3.toInt = X3) (h : g97 X1 X2 X3 S = some r) : Mp gRJ (f97 0 x1 x2 x3 M) r := by
  unfold g97 at h
  unfold f97
  refine k_ob (hR.obF (by decide) rfl) ?_
  obtain ⟨p1, e1, h⟩ := bind_so h
  refine k_call (g105_ok hR t1 e1) (fun b1 R1 => ?_)
  refine k_ite (c_eq R1.1 tI_0) h (fun c2 h => ?_) (fun c2 h => ?_)
  · exact k_retJ R1.2 tJ_m2000000000000 h
  · obtain ⟨p3, e3, h⟩ := bind_so h
    refine k_call (g103_ok R1.2 t2 e3) (fun b3 R3 => ?_)
    refine k_ite (c_eq R3.1 tI_0) h (fun c4 h => ?_) (fun c4 h => ?_)
    · exact k_retJ R3.2 tJ_m2000000000000 h
    · obtain ⟨p5, e5, h⟩ := bind_so h
      refine k_call (g102_ok R3.2 t3 tI_5 e5) (fun b5 R5 => ?_)
      refine k_ite (c_ne R5.1 tI_0) h (fun c6 h => ?_) (fun c6 h => ?_)
      · refine k_grF 0 R5.2 (R5.2.obF (by decide) rfl) rfl ?_
        refine k_some ?_
        refine k_ob (R5.2.obF (by decide) rfl) ?_
        obtain ⟨p7, e7, h⟩ := bind_so h
        refine k_call (g2_ok R5.2 t1 t2 e7) (fun b7 R7 => ?_)
        refine k_ite (c_ne R7.1 tI_0) h (fun c8 h => ?_) (fun c8 h => ?_)
        · refine k_grF 4 R7.2 (R7.2.obF (by decide) rfl) rfl ?_
          obtain ⟨V9, e9, h⟩ := lt_so h
          refine k_gi R7.2 (R7.2.obF (by decide) rfl) rfl e9 (fun v9 z9 => ?_)
          refine k_some ?_
          refine k_ob (R7.2.obF (by decide) rfl) ?_
          obtain ⟨p10, e10, h⟩ := bind_so h
          refine k_call (g59_ok R7.2 t2 z9 e10) (fun M10 R10 => ?_)
          refine k_grF 4 R10 (R10.obF (by decide) rfl) rfl ?_
          refine k_some ?_
          refine k_grF 43 R10 (R10.obF (by decide) rfl) rfl ?_
          refine k_some ?_
          obtain ⟨c11, h⟩ := chk_so h
          obtain ⟨V12, e12, h⟩ := lt_so h
          refine k_al R10 (R10.lnF (by decide) rfl) rfl t1 c11 e12 (fun v12 z12 => ?_)
          refine k_grF 4 R10 (R10.obF (by decide) rfl) rfl ?_
          obtain ⟨V13, e13, h⟩ := lt_so h
          refine k_gi R10 (R10.obF (by decide) rfl) rfl e13 (fun v13 z13 => ?_)
          refine k_some ?_
          refine k_ob (R10.obF (by decide) rfl) ?_
          obtain ⟨p14, e14, h⟩ := bind_so h
          refine k_call (g61_ok R10 t1 t3 t2 z13 e14) (fun M14 R14 => ?_)
          refine k_grF 4 R14 (R14.obF (by decide) rfl) rfl ?_
          refine k_some ?_
          refine k_grF 43 R14 (R14.obF (by decide) rfl) rfl ?_
          refine k_some ?_
          obtain ⟨c15, h⟩ := chk_so h
          obtain ⟨V16, e16, h⟩ := lt_so h
          refine k_al R14 (R14.lnF (by decide) rfl) rfl t1 c15 e16 (fun v16 z16 => ?_)
          obtain ⟨V17, e17, c17, h⟩ := ckJ_so h
          exact k_retJ R14 (tJ_sub z16 z12 c17 e17) h
        · exact k_retJ R7.2 tJ_m2000000000000 h
      · exact k_retJ R5.2 tJ_m2000000000000 h
/-- PupilCoin.rates(IIIII)J -/
def g98 (X1 : Int) (X2 : Int) (X3 : Int) (X4 : Int) (X5 : Int) (S : gM) : Option (Int × gM) :=
  (g103 X1 S).bind fun p1 =>
  if p1.1 = 0 then
    some ((-2000000000000), p1.2)
  else
    if X4 < 0 then
      some ((-2000000000000), p1.2)
    else
      if 999999999 < X4 then
        some ((-2000000000000), p1.2)
      else
        if X2 = X3 then
          some ((-2000000000000), p1.2)
        else
          (g102 X5 4 p1.2).bind fun p6 =>
          if ¬ p6.1 = 0 then
            w_lt (gi p6.2 0 10) fun V8 =>
            (g56 X1 V8 p6.2).bind fun p9 =>
            w_lt p9.1 fun a9 =>
            (a9).bind fun q10 =>
            w_chk (gob p9.2 q10 1 = true) <|
            w_lt (gi p9.2 q10 4) fun V12 =>
            (g102 X2 V12 p9.2).bind fun p13 =>
            if p13.1 = 0 then
              some ((-2000000000000), p13.2)
            else
              w_chk (gob p13.2 q10 1 = true) <|
              w_lt (gi p13.2 q10 4) fun V16 =>
              (g102 X3 V16 p13.2).bind fun p17 =>
              if ¬ p17.1 = 0 then
                w_lt (gi p17.2 0 10) fun V19 =>
                (g59 X1 V19 p17.2).bind fun p20 =>
                w_lt (gmk p20 (.inl 5) (vg_N 5) (fun _ => 0)) fun S21 =>
                (g25 (gn p20) X1 S21).bind fun p22 =>
                w_chk (gob p22 (gn p20) 5 = true) <|
                (g26 (gn p20) X2 X3 X4 p22).bind fun p23 =>
                w_chk (gob p23 (gn p20) 5 = true) <|
                w_lt (gi p23 (gn p20) 3) fun V26 =>
                if V26 = 0 then
                  some ((-2000000000000), p23)
                else
                  w_chk (gob p23 (gn p20) 5 = true) <|
                  (g28 (gn p20) X5 p23).bind fun p28 =>
                  some (p28.1, p28.2)
              else
                some ((-2000000000000), p17.2)
          else
            some ((-2000000000000), p6.2)
theorem g98_ok {x1 : Int32} {X1 : Int} {x2 : Int32} {X2 : Int} {x3 : Int32} {X3 : Int} {x4 : Int32} {X4 : Int} {x5 : Int32} {X5 : Int} {S : gM} {M : vm_M} {r : Int × gM} (hR : Rel S M) (t1 : x1.toInt = X1) (t2 : x2.toInt = X2) (t3 : x3.toInt = X3) (t4 : x4.toInt = X4) (t5 : x5.toInt = X5) (h : g98 X1 X2 X3 X4 X5 S = some r) : Mp gRJ (f98 0 x1 x2 x3 x4 x5 M) r := by
  unfold g98 at h
  unfold f98
  obtain ⟨p1, e1, h⟩ := bind_so h
  refine k_call (g103_ok hR t1 e1) (fun b1 R1 => ?_)
  refine k_ite (c_eq R1.1 tI_0) h (fun c2 h => ?_) (fun c2 h => ?_)
  · exact k_retJ R1.2 tJ_m2000000000000 h
  · refine k_ite (c_lt t4 tI_0) h (fun c3 h => ?_) (fun c3 h => ?_)
    · exact k_retJ R1.2 tJ_m2000000000000 h
    · refine k_ite (c_lt tI_999999999 t4) h (fun c4 h => ?_) (fun c4 h => ?_)
      · exact k_retJ R1.2 tJ_m2000000000000 h
      · refine k_ite (c_eq t2 t3) h (fun c5 h => ?_) (fun c5 h => ?_)
        · exact k_retJ R1.2 tJ_m2000000000000 h
        · obtain ⟨p6, e6, h⟩ := bind_so h
          refine k_call (g102_ok R1.2 t5 tI_4 e6) (fun b6 R6 => ?_)
          refine k_ite (c_ne R6.1 tI_0) h (fun c7 h => ?_) (fun c7 h => ?_)
          · refine k_grF 3 R6.2 (R6.2.obF (by decide) rfl) rfl ?_
            obtain ⟨V8, e8, h⟩ := lt_so h
            refine k_gi R6.2 (R6.2.obF (by decide) rfl) rfl e8 (fun v8 z8 => ?_)
            refine k_some ?_
            refine k_ob (R6.2.obF (by decide) rfl) ?_
            obtain ⟨p9, e9, h⟩ := bind_so h
            refine k_call (g56_ok R6.2 t1 z8 e9) (fun b9 R9 => ?_)
            obtain ⟨d9, R9⟩ := R9
            obtain ⟨a9, e9, h⟩ := lt_so h
            rw [d9, ← e9]
            obtain ⟨q10, e10, h⟩ := bind_so h
            refine k_unw e10 ?_
            obtain ⟨c11, h⟩ := chk_so h
            obtain ⟨V12, e12, h⟩ := lt_so h
            refine k_gi R9 (R9.ob c11) rfl e12 (fun v12 z12 => ?_)
            obtain ⟨p13, e13, h⟩ := bind_so h
            refine k_call (g102_ok R9 t2 z12 e13) (fun b13 R13 => ?_)
            refine k_ite (c_eq R13.1 tI_0) h (fun c14 h => ?_) (fun c14 h => ?_)
            · exact k_retJ R13.2 tJ_m2000000000000 h
            · obtain ⟨c15, h⟩ := chk_so h
              obtain ⟨V16, e16, h⟩ := lt_so h
              refine k_gi R13.2 (R13.2.ob c15) rfl e16 (fun v16 z16 => ?_)
              obtain ⟨p17, e17, h⟩ := bind_so h
              refine k_call (g102_ok R13.2 t3 z16 e17) (fun b17 R17 => ?_)
              refine k_ite (c_ne R17.1 tI_0) h (fun c18 h => ?_) (fun c18 h => ?_)
              · refine k_grF 4 R17.2 (R17.2.obF (by decide) rfl) rfl ?_
                obtain ⟨V19, e19, h⟩ := lt_so h
                refine k_gi R17.2 (R17.2.obF (by decide) rfl) rfl e19 (fun v19 z19 => ?_)
                refine k_some ?_
                refine k_ob (R17.2.obF (by decide) rfl) ?_
                obtain ⟨p20, e20, h⟩ := bind_so h
                refine k_call (g59_ok R17.2 t1 z19 e20) (fun M20 R20 => ?_)
                obtain ⟨S21, e21, h⟩ := lt_so h
                refine k_no R20 e21 (fun M21 R21 => ?_)
                rw [R20.n]
                refine k_grF 0 R21 (R21.obF (by decide) rfl) rfl ?_
                refine k_grF 4 R21 (R21.obF (by decide) rfl) rfl ?_
                refine k_some ?_
                refine k_some ?_
                obtain ⟨p22, e22, h⟩ := bind_so h
                refine k_call (g25_ok R21 t1 e22) (fun M22 R22 => ?_)
                obtain ⟨c24, h⟩ := chk_so h
                refine k_ob (R22.ob c24) ?_
                obtain ⟨p23, e23, h⟩ := bind_so h
                refine k_call (g26_ok R22 t2 t3 (t_itol t4) e23) (fun M23 R23 => ?_)
                obtain ⟨c25, h⟩ := chk_so h
                obtain ⟨V26, e26, h⟩ := lt_so h
                refine k_gi R23 (R23.ob c25) rfl e26 (fun v26 z26 => ?_)
                refine k_ite (c_eq z26 tI_0) h (fun c27 h => ?_) (fun c27 h => ?_)
                · exact k_retJ R23 tJ_m2000000000000 h
                · obtain ⟨c29, h⟩ := chk_so h
                  refine k_ob (R23.ob c29) ?_
                  obtain ⟨p28, e28, h⟩ := bind_so h
                  refine k_call (g28_ok R23 t5 e28) (fun b28 R28 => ?_)
                  exact k_retJ R28.2 R28.1 h
              · exact k_retJ R17.2 tJ_m2000000000000 h
          · exact k_retJ R6.2 tJ_m2000000000000 h
def g99_j154 (X3 : Int) (X4 : Int) (X8 : Int) (X9 : Int) (S : gM) : Option (Int × gM) :=
  if ¬ X4 = 2 then
    w_lt (max 0 X9) fun V27 =>
    some (V27, S)
  else
    w_ckI (X8.natAbs : Int) fun V28 =>
    w_ckI (X3 * V28) fun V29 =>
    w_ckI (X9 + V29) fun V30 =>
    w_lt (max 0 V30) fun V31 =>
    some (V31, S)
theorem g99_j154_ok {x3 : Int32} {X3 : Int} {x4 : Int32} {X4 : Int} {x8 : Int32} {X8 : Int} {x9 : Int32} {X9 : Int} {S : gM} {M : vm_M} {r : Int × gM} (hR : Rel S M) (t3 : x3.toInt = X3) (t4 : x4.toInt = X4) (t8 : x8.toInt = X8) (t9 : x9.toInt = X9) (h : g99_j154 X3 X4 X8 X9 S = some r) : Mp gRI (f99_j154 x3 x4 x8 x9 M) r := by
  unfold g99_j154 at h
  unfold f99_j154
  refine k_ite (c_ne t4 tI_2) h (fun c26 h => ?_) (fun c26 h => ?_)
  · obtain ⟨V27, e27, h⟩ := lt_so h
    exact k_retI hR (t_mxI tI_0 t9 e27) h
  · obtain ⟨V28, e28, c28, h⟩ := ckI_so h
    obtain ⟨V29, e29, c29, h⟩ := ckI_so h
    obtain ⟨V30, e30, c30, h⟩ := ckI_so h
    obtain ⟨V31, e31, h⟩ := lt_so h
    exact k_retI hR (t_mxI tI_0 (t_add t9 (t_mul t3 (t_abI t8 c28 e28) c29 e29) c30 e30) e31) h
/-- PupilCoin.foretold(IIII)I -/
def g99 (X1 : Int) (X2 : Int) (X3 : Int) (X4 : Int) (S : gM) : Option (Int × gM) :=
  (g105 X1 S).bind fun p1 =>
  if p1.1 = 0 then
    some ((-1), p1.2)
  else
    (g102 X2 3 p1.2).bind fun p3 =>
    if p3.1 = 0 then
      some ((-1), p3.2)
    else
      if X3 < 1 then
        some ((-1), p3.2)
      else
        if 5 < X3 then
          some ((-1), p3.2)
        else
          (g102 X4 3 p3.2).bind fun p7 =>
          if ¬ p7.1 = 0 then
            w_lt (gi p7.2 0 10) fun V9 =>
            w_ckI (V9.tdiv 100) fun V10 =>
            w_lt (gi p7.2 0 10) fun V11 =>
            (g13 X1 X2 V10 V11 p7.2).bind fun p12 =>
            w_ckI (p12.1 - 1) fun V13 =>
            w_lt (gi p12.2 0 10) fun V14 =>
            (g13 X1 X2 V13 V14 p12.2).bind fun p15 =>
            if p12.1 < 0 then
              some ((-1), p15.2)
            else
              if 0 ≤ p15.1 then
                w_lt (gi p15.2 0 10) fun V18 =>
                (g12 X1 p12.1 X2 V18 p15.2).bind fun p19 =>
                w_lt (gi p19.2 0 10) fun V20 =>
                (g12 X1 p15.1 X2 V20 p19.2).bind fun p21 =>
                w_ckI (p19.1 - p21.1) fun V22 =>
                w_ckI (X3 * V22) fun V23 =>
                w_ckI (p19.1 + V23) fun V24 =>
                if ¬ X4 = 1 then
                  g99_j154 X3 X4 V22 V24 p21.2
                else
                  w_ckI (V22.natAbs : Int) fun V32 =>
                  w_ckI (X3 * V32) fun V33 =>
                  w_ckI (V24 - V33) fun V34 =>
                  g99_j154 X3 X4 V22 V34 p21.2
              else
                some ((-1), p15.2)
          else
            some ((-1), p7.2)
theorem g99_ok {x1 : Int32} {X1 : Int} {x2 : Int32} {X2 : Int} {x3 : Int32} {X3 : Int} {x4 : Int32} {X4 : Int} {S : gM} {M : vm_M} {r : Int × gM} (hR : Rel S M) (t1 : x1.toInt = X1) (t2 : x2.toInt = X2) (t3 : x3.toInt = X3) (t4 : x4.toInt = X4) (h : g99 X1 X2 X3 X4 S = some r) : Mp gRI (f99 0 x1 x2 x3 x4 M) r := by
  unfold g99 at h
  unfold f99
  refine k_ob (hR.obF (by decide) rfl) ?_
  obtain ⟨p1, e1, h⟩ := bind_so h
  refine k_call (g105_ok hR t1 e1) (fun b1 R1 => ?_)
  refine k_ite (c_eq R1.1 tI_0) h (fun c2 h => ?_) (fun c2 h => ?_)
  · exact k_retI R1.2 tI_m1 h
  · obtain ⟨p3, e3, h⟩ := bind_so h
    refine k_call (g102_ok R1.2 t2 tI_3 e3) (fun b3 R3 => ?_)
    refine k_ite (c_eq R3.1 tI_0) h (fun c4 h => ?_) (fun c4 h => ?_)
    · exact k_retI R3.2 tI_m1 h
    · refine k_ite (c_lt t3 tI_1) h (fun c5 h => ?_) (fun c5 h => ?_)
      · exact k_retI R3.2 tI_m1 h
      · refine k_ite (c_lt tI_5 t3) h (fun c6 h => ?_) (fun c6 h => ?_)
        · exact k_retI R3.2 tI_m1 h
        · obtain ⟨p7, e7, h⟩ := bind_so h
          refine k_call (g102_ok R3.2 t4 tI_3 e7) (fun b7 R7 => ?_)
          refine k_ite (c_ne R7.1 tI_0) h (fun c8 h => ?_) (fun c8 h => ?_)
          · refine k_grF 1 R7.2 (R7.2.obF (by decide) rfl) rfl ?_
            obtain ⟨V9, e9, h⟩ := lt_so h
            refine k_gi R7.2 (R7.2.obF (by decide) rfl) rfl e9 (fun v9 z9 => ?_)
            obtain ⟨V10, e10, c10, h⟩ := ckI_so h
            refine k_dvI z9 tI_100 (by decide) c10 e10 (fun v10 z10 => ?_)
            obtain ⟨V11, e11, h⟩ := lt_so h
            refine k_gi R7.2 (R7.2.obF (by decide) rfl) rfl e11 (fun v11 z11 => ?_)
            refine k_some ?_
            refine k_ob (R7.2.obF (by decide) rfl) ?_
            obtain ⟨p12, e12, h⟩ := bind_so h
            refine k_call (g13_ok R7.2 t1 t2 z10 z11 e12) (fun b12 R12 => ?_)
            refine k_grF 1 R12.2 (R12.2.obF (by decide) rfl) rfl ?_
            obtain ⟨V13, e13, c13, h⟩ := ckI_so h
            obtain ⟨V14, e14, h⟩ := lt_so h
            refine k_gi R12.2 (R12.2.obF (by decide) rfl) rfl e14 (fun v14 z14 => ?_)
            refine k_some ?_
            refine k_ob (R12.2.obF (by decide) rfl) ?_
            obtain ⟨p15, e15, h⟩ := bind_so h
            refine k_call (g13_ok R12.2 t1 t2 (t_sub R12.1 tI_1 c13 e13) z14 e15) (fun b15 R15 => ?_)
            refine k_ite (c_lt R12.1 tI_0) h (fun c16 h => ?_) (fun c16 h => ?_)
            · exact k_retI R15.2 tI_m1 h
            · refine k_ite (c_le tI_0 R15.1) h (fun c17 h => ?_) (fun c17 h => ?_)
              · refine k_grF 1 R15.2 (R15.2.obF (by decide) rfl) rfl ?_
                obtain ⟨V18, e18, h⟩ := lt_so h
                refine k_gi R15.2 (R15.2.obF (by decide) rfl) rfl e18 (fun v18 z18 => ?_)
                refine k_some ?_
                refine k_ob (R15.2.obF (by decide) rfl) ?_
                obtain ⟨p19, e19, h⟩ := bind_so h
                refine k_call (g12_ok R15.2 t1 R12.1 t2 z18 e19) (fun b19 R19 => ?_)
                refine k_grF 1 R19.2 (R19.2.obF (by decide) rfl) rfl ?_
                obtain ⟨V20, e20, h⟩ := lt_so h
                refine k_gi R19.2 (R19.2.obF (by decide) rfl) rfl e20 (fun v20 z20 => ?_)
                refine k_some ?_
                refine k_ob (R19.2.obF (by decide) rfl) ?_
                obtain ⟨p21, e21, h⟩ := bind_so h
                refine k_call (g12_ok R19.2 t1 R15.1 t2 z20 e21) (fun b21 R21 => ?_)
                obtain ⟨V22, e22, c22, h⟩ := ckI_so h
                obtain ⟨V23, e23, c23, h⟩ := ckI_so h
                obtain ⟨V24, e24, c24, h⟩ := ckI_so h
                refine k_ite (c_ne t4 tI_1) h (fun c25 h => ?_) (fun c25 h => ?_)
                · exact g99_j154_ok R21.2 t3 t4 (t_sub R19.1 R21.1 c22 e22) (t_add R19.1 (t_mul t3 (t_sub R19.1 R21.1 c22 e22) c23 e23) c24 e24) h
                · obtain ⟨V32, e32, c32, h⟩ := ckI_so h
                  obtain ⟨V33, e33, c33, h⟩ := ckI_so h
                  obtain ⟨V34, e34, c34, h⟩ := ckI_so h
                  exact g99_j154_ok R21.2 t3 t4 (t_sub R19.1 R21.1 c22 e22) (t_sub (t_add R19.1 (t_mul t3 (t_sub R19.1 R21.1 c22 e22) c23 e23) c24 e24) (t_mul t3 (t_abI (t_sub R19.1 R21.1 c22 e22) c32 e32) c33 e33) c34 e34) h
              · exact k_retI R15.2 tI_m1 h
          · exact k_retI R7.2 tI_m1 h
/-- java/lang/Integer.bitCount(I)I -/
def g198 (X0 : Int) (S : gM) : Option (Int × gM) :=
  w_lt (b_ushr X0 1) fun V1 =>
  w_lt (b_and V1 1431655765) fun V2 =>
  w_ckI (X0 - V2) fun V3 =>
  w_lt (b_and V3 858993459) fun V4 =>
  w_lt (b_ushr V3 2) fun V5 =>
  w_lt (b_and V5 858993459) fun V6 =>
  w_ckI (V4 + V6) fun V7 =>
  w_lt (b_ushr V7 4) fun V8 =>
  w_ckI (V7 + V8) fun V9 =>
  w_lt (b_and V9 252645135) fun V10 =>
  w_lt (b_ushr V10 8) fun V11 =>
  w_ckI (V10 + V11) fun V12 =>
  w_lt (b_ushr V12 16) fun V13 =>
  w_ckI (V12 + V13) fun V14 =>
  w_lt (b_and V14 63) fun V15 =>
  some (V15, S)
theorem g198_ok {x0 : Int32} {X0 : Int} {S : gM} {M : vm_M} {r : Int × gM} (hR : Rel S M) (t0 : x0.toInt = X0) (h : g198 X0 S = some r) : Mp gRI (f198 x0 M) r := by
  unfold g198 at h
  unfold f198
  obtain ⟨V1, e1, h⟩ := lt_so h
  obtain ⟨V2, e2, h⟩ := lt_so h
  obtain ⟨V3, e3, c3, h⟩ := ckI_so h
  obtain ⟨V4, e4, h⟩ := lt_so h
  obtain ⟨V5, e5, h⟩ := lt_so h
  obtain ⟨V6, e6, h⟩ := lt_so h
  obtain ⟨V7, e7, c7, h⟩ := ckI_so h
  obtain ⟨V8, e8, h⟩ := lt_so h
  obtain ⟨V9, e9, c9, h⟩ := ckI_so h
  obtain ⟨V10, e10, h⟩ := lt_so h
  obtain ⟨V11, e11, h⟩ := lt_so h
  obtain ⟨V12, e12, c12, h⟩ := ckI_so h
  obtain ⟨V13, e13, h⟩ := lt_so h
  obtain ⟨V14, e14, c14, h⟩ := ckI_so h
  obtain ⟨V15, e15, h⟩ := lt_so h
  exact k_retI hR (t_and (t_add (t_add (t_and (t_add (t_add (t_and (t_sub t0 (t_and (t_ushr t0 tI_1 e1) tI_1431655765 e2) c3 e3) tI_858993459 e4) (t_and (t_ushr (t_sub t0 (t_and (t_ushr t0 tI_1 e1) tI_1431655765 e2) c3 e3) tI_2 e5) tI_858993459 e6) c7 e7) (t_ushr (t_add (t_and (t_sub t0 (t_and (t_ushr t0 tI_1 e1) tI_1431655765 e2) c3 e3) tI_858993459 e4) (t_and (t_ushr (t_sub t0 (t_and (t_ushr t0 tI_1 e1) tI_1431655765 e2) c3 e3) tI_2 e5) tI_858993459 e6) c7 e7) tI_4 e8) c9 e9) tI_252645135 e10) (t_ushr (t_and (t_add (t_add (t_and (t_sub t0 (t_and (t_ushr t0 tI_1 e1) tI_1431655765 e2) c3 e3) tI_858993459 e4) (t_and (t_ushr (t_sub t0 (t_and (t_ushr t0 tI_1 e1) tI_1431655765 e2) c3 e3) tI_2 e5) tI_858993459 e6) c7 e7) (t_ushr (t_add (t_and (t_sub t0 (t_and (t_ushr t0 tI_1 e1) tI_1431655765 e2) c3 e3) tI_858993459 e4) (t_and (t_ushr (t_sub t0 (t_and (t_ushr t0 tI_1 e1) tI_1431655765 e2) c3 e3) tI_2 e5) tI_858993459 e6) c7 e7) tI_4 e8) c9 e9) tI_252645135 e10) tI_8 e11) c12 e12) (t_ushr (t_add (t_and (t_add (t_add (t_and (t_sub t0 (t_and (t_ushr t0 tI_1 e1) tI_1431655765 e2) c3 e3) tI_858993459 e4) (t_and (t_ushr (t_sub t0 (t_and (t_ushr t0 tI_1 e1) tI_1431655765 e2) c3 e3) tI_2 e5) tI_858993459 e6) c7 e7) (t_ushr (t_add (t_and (t_sub t0 (t_and (t_ushr t0 tI_1 e1) tI_1431655765 e2) c3 e3) tI_858993459 e4) (t_and (t_ushr (t_sub t0 (t_and (t_ushr t0 tI_1 e1) tI_1431655765 e2) c3 e3) tI_2 e5) tI_858993459 e6) c7 e7) tI_4 e8) c9 e9) tI_252645135 e10) (t_ushr (t_and (t_add (t_add (t_and (t_sub t0 (t_and (t_ushr t0 tI_1 e1) tI_1431655765 e2) c3 e3) tI_858993459 e4) (t_and (t_ushr (t_sub t0 (t_and (t_ushr t0 tI_1 e1) tI_1431655765 e2) c3 e3) tI_2 e5) tI_858993459 e6) c7 e7) (t_ushr (t_add (t_and (t_sub t0 (t_and (t_ushr t0 tI_1 e1) tI_1431655765 e2) c3 e3) tI_858993459 e4) (t_and (t_ushr (t_sub t0 (t_and (t_ushr t0 tI_1 e1) tI_1431655765 e2) c3 e3) tI_2 e5) tI_858993459 e6) c7 e7) tI_4 e8) c9 e9) tI_252645135 e10) tI_8 e11) c12 e12) tI_16 e13) c14 e14) tI_63 e15) h
def g100_j62 (K37 : Int → Int → gM → Option (Int × gM)) (X1 : Int) (X2 : Int) (X3 : Int) (X4 : Int) (X5 : Int) (Xs0 : Int) (S : gM) : Option (Int × gM) :=
  w_lt (b_xor X3 (-1)) fun V11 =>
  w_lt (b_and X5 V11) fun V12 =>
  if ¬ V12 = 0 then
    w_ckI (X5 + 1) fun V14 =>
    K37 X4 V14 S
  else
    if Xs0 = 0 then
      w_ckI (X5 + 1) fun V16 =>
      K37 X4 V16 S
    else
      w_lt (gi S 0 10) fun V17 =>
      w_lt (b_xor X5 (-1)) fun V18 =>
      w_lt (b_and X3 V18) fun V19 =>
      (g15 X1 X2 V17 V19 S).bind fun p20 =>
      if p20.1 = 0 then
        w_ckI (X5 + 1) fun V22 =>
        K37 X4 V22 p20.2
      else
        w_ckI (X5 + 1) fun V23 =>
        K37 X5 V23 p20.2
theorem g100_j62_ok {k37 : Int32 → Int32 → vm_M → Option (Int32 × vm_M)} {K37 : Int → Int → gM → Option (Int × gM)} {x1 : Int32} {X1 : Int} {x2 : Int32} {X2 : Int} {x3 : Int32} {X3 : Int} {x4 : Int32} {X4 : Int} {x5 : Int32} {X5 : Int} {xs0 : Int32} {Xs0 : Int} {S : gM} {M : vm_M} {r : Int × gM} (hk37 : ∀ (y4 : Int32) (Y4 : Int) (y5 : Int32) (Y5 : Int) (S : gM) (M : vm_M), Rel S M → y4.toInt = Y4 → y5.toInt = Y5 → K37 Y4 Y5 S = some r → Mp gRI (k37 y4 y5 M) r) (hR : Rel S M) (t1 : x1.toInt = X1) (t2 : x2.toInt = X2) (t3 : x3.toInt = X3) (t4 : x4.toInt = X4) (t5 : x5.toInt = X5) (ts0 : xs0.toInt = Xs0) (h : g100_j62 K37 X1 X2 X3 X4 X5 Xs0 S = some r) : Mp gRI (f100_j62 k37 0 x1 x2 x3 x4 x5 xs0 M) r := by
  unfold g100_j62 at h
  unfold f100_j62
  obtain ⟨V11, e11, h⟩ := lt_so h
  obtain ⟨V12, e12, h⟩ := lt_so h
  refine k_ite (c_ne (t_and t5 (t_xor t3 tI_m1 e11) e12) tI_0) h (fun c13 h => ?_) (fun c13 h => ?_)
  · obtain ⟨V14, e14, c14, h⟩ := ckI_so h
    exact hk37 _ _ _ _ _ _ hR t4 (t_add t5 tI_1 c14 e14) h
  · refine k_ite (c_eq ts0 tI_0) h (fun c15 h => ?_) (fun c15 h => ?_)
    · obtain ⟨V16, e16, c16, h⟩ := ckI_so h
      exact hk37 _ _ _ _ _ _ hR t4 (t_add t5 tI_1 c16 e16) h
    · refine k_grF 1 hR (hR.obF (by decide) rfl) rfl ?_
      obtain ⟨V17, e17, h⟩ := lt_so h
      refine k_gi hR (hR.obF (by decide) rfl) rfl e17 (fun v17 z17 => ?_)
      obtain ⟨V18, e18, h⟩ := lt_so h
      obtain ⟨V19, e19, h⟩ := lt_so h
      refine k_some ?_
      refine k_ob (hR.obF (by decide) rfl) ?_
      obtain ⟨p20, e20, h⟩ := bind_so h
      refine k_call (g15_ok hR t1 t2 z17 (t_and t3 (t_xor t5 tI_m1 e18) e19) e20) (fun b20 R20 => ?_)
      refine k_ite (c_eq R20.1 tI_0) h (fun c21 h => ?_) (fun c21 h => ?_)
      · obtain ⟨V22, e22, c22, h⟩ := ckI_so h
        exact hk37 _ _ _ _ _ _ R20.2 t4 (t_add t5 tI_1 c22 e22) h
      · obtain ⟨V23, e23, c23, h⟩ := ckI_so h
        exact hk37 _ _ _ _ _ _ R20.2 t5 (t_add t5 tI_1 c23 e23) h
def g100_l37 (X1 : Int) (X2 : Int) (X3 : Int) : Nat → Int → Int → gM → Option (Int × gM)
  | 0 => fun _ _ _ => none
  | n + 1 => fun X4 X5 S =>
    if 64 ≤ X5 then
      some (X4, S)
    else
      (g198 X5 S).bind fun p8 =>
      (g198 X4 p8.2).bind fun p9 =>
      if p9.1 ≤ p8.1 then
        g100_j62 (g100_l37 X1 X2 X3 n) X1 X2 X3 X4 X5 0 p9.2
      else
        g100_j62 (g100_l37 X1 X2 X3 n) X1 X2 X3 X4 X5 1 p9.2
theorem g100_l37_ok {x1 : Int32} {X1 : Int} {x2 : Int32} {X2 : Int} {x3 : Int32} {X3 : Int} {r : Int × gM} (t1 : x1.toInt = X1) (t2 : x2.toInt = X2) (t3 : x3.toInt = X3) : ∀ (n : Nat) (x4 : Int32) (X4 : Int) (x5 : Int32) (X5 : Int) (S : gM) (M : vm_M), Rel S M → x4.toInt = X4 → x5.toInt = X5 → g100_l37 X1 X2 X3 n X4 X5 S = some r → Mp gRI (f100_l37 0 x1 x2 x3 n x4 x5 M) r := by
  intro n
  induction n with
  | zero =>
    intro x4 X4 x5 X5 S M hR t4 t5 h
    cases h
  | succ n ih =>
    intro x4 X4 x5 X5 S M hR t4 t5 h
    dsimp only [g100_l37] at h
    dsimp only [f100_l37]
    refine k_ite (c_le tI_64 t5) h (fun c7 h => ?_) (fun c7 h => ?_)
    · exact k_retI hR t4 h
    · obtain ⟨p8, e8, h⟩ := bind_so h
      refine k_call (g198_ok hR t5 e8) (fun b8 R8 => ?_)
      obtain ⟨p9, e9, h⟩ := bind_so h
      refine k_call (g198_ok R8.2 t4 e9) (fun b9 R9 => ?_)
      refine k_ite (c_le R9.1 R8.1) h (fun c10 h => ?_) (fun c10 h => ?_)
      · exact g100_j62_ok ih R9.2 t1 t2 t3 t4 t5 tI_0 h
      · exact g100_j62_ok ih R9.2 t1 t2 t3 t4 t5 tI_1 h
/-- PupilCoin.doubt(II)I -/
def g100 (X1 : Int) (X2 : Int) (S : gM) : Option (Int × gM) :=
  (g105 X1 S).bind fun p1 =>
  if p1.1 = 0 then
    some ((-1), p1.2)
  else
    (g103 X2 p1.2).bind fun p3 =>
    if ¬ p3.1 = 0 then
      w_lt (gi p3.2 0 10) fun V5 =>
      (g14 X1 X2 V5 p3.2).bind fun p6 =>
      g100_l37 X1 X2 p6.1
      
        100000 p6.1 0 p6.2
    else
      some ((-1), p3.2)
theorem g100_ok {x1 : Int32} {X1 : Int} {x2 : Int32} {X2 : Int} {S : gM} {M : vm_M} {r : Int × gM} (hR : Rel S M) (t1 : x1.toInt = X1) (t2 : x2.toInt = X2) (h : g100 X1 X2 S = some r) : Mp gRI (f100 0 x1 x2 M) r := by
  unfold g100 at h
  unfold f100
  refine k_ob (hR.obF (by decide) rfl) ?_
  obtain ⟨p1, e1, h⟩ := bind_so h
  refine k_call (g105_ok hR t1 e1) (fun b1 R1 => ?_)
  refine k_ite (c_eq R1.1 tI_0) h (fun c2 h => ?_) (fun c2 h => ?_)
  · exact k_retI R1.2 tI_m1 h
  · obtain ⟨p3, e3, h⟩ := bind_so h
    refine k_call (g103_ok R1.2 t2 e3) (fun b3 R3 => ?_)
    refine k_ite (c_ne R3.1 tI_0) h (fun c4 h => ?_) (fun c4 h => ?_)
    · refine k_grF 1 R3.2 (R3.2.obF (by decide) rfl) rfl ?_
      obtain ⟨V5, e5, h⟩ := lt_so h
      refine k_gi R3.2 (R3.2.obF (by decide) rfl) rfl e5 (fun v5 z5 => ?_)
      refine k_some ?_
      refine k_ob (R3.2.obF (by decide) rfl) ?_
      obtain ⟨p6, e6, h⟩ := bind_so h
      refine k_call (g14_ok R3.2 t1 t2 z5 e6) (fun b6 R6 => ?_)
      refine g100_l37_ok t1 t2 R6.1 100000 _ _ _ _ _ _ R6.2 R6.1 tI_0 h
    · exact k_retI R3.2 tI_m1 h
/-- PupilCoin.count(I)I -/
def g101 (X1 : Int) (S : gM) : Option (Int × gM) :=
  if X1 = 0 then
    w_lt (gi S 0 10) fun V2 =>
    some (V2, S)
  else if X1 = 1 then
    w_lt (gi S 1 7) fun V4 =>
    some (V4, S)
  else if X1 = 2 then
    w_lt (gi S 0 10) fun V6 =>
    w_ckI (V6.tdiv 100) fun V7 =>
    (g6 V7 S).bind fun p8 =>
    some (p8.1, p8.2)
  else if X1 = 3 then
    w_lt (gi S 11 4) fun V10 =>
    some (V10, S)
  else if X1 = 4 then
    w_lt (gi S 1 8) fun V12 =>
    some (V12, S)
  else if X1 = 5 then
    w_lt (gi S 23 2) fun V14 =>
    some (V14, S)
  else if X1 = 6 then
    w_lt (gi S 45 8) fun V16 =>
    some (V16, S)
  else if X1 = 7 then
    w_lt (gi S 45 9) fun V18 =>
    some (V18, S)
  else if X1 = 8 then
    w_lt (gi S 0 7) fun V20 =>
    some (V20, S)
  else if X1 = 9 then
    w_lt (gr S 0 8) fun a22 =>
    match a22 with
    | none =>
      some (0, S)
    | some q23 =>
      some (1, S)
  else 
    some ((-1), S)
theorem g101_ok {x1 : Int32} {X1 : Int} {S : gM} {M : vm_M} {r : Int × gM} (hR : Rel S M) (t1 : x1.toInt = X1) (h : g101 X1 S = some r) : Mp gRI (f101 0 x1 M) r := by
  unfold g101 at h
  unfold f101
  refine k_ite (c_eq t1 tI_0) h (fun c1 h => ?_) (fun c1 h => ?_)
  · obtain ⟨V2, e2, h⟩ := lt_so h
    refine k_gi hR (hR.obF (by decide) rfl) rfl e2 (fun v2 z2 => ?_)
    exact k_retI hR z2 h
  refine k_ite (c_eq t1 tI_1) h (fun c3 h => ?_) (fun c3 h => ?_)
  · refine k_grF 0 hR (hR.obF (by decide) rfl) rfl ?_
    refine k_some ?_
    obtain ⟨V4, e4, h⟩ := lt_so h
    refine k_gi hR (hR.obF (by decide) rfl) rfl e4 (fun v4 z4 => ?_)
    exact k_retI hR z4 h
  refine k_ite (c_eq t1 tI_2) h (fun c5 h => ?_) (fun c5 h => ?_)
  · refine k_grF 0 hR (hR.obF (by decide) rfl) rfl ?_
    obtain ⟨V6, e6, h⟩ := lt_so h
    refine k_gi hR (hR.obF (by decide) rfl) rfl e6 (fun v6 z6 => ?_)
    obtain ⟨V7, e7, c7, h⟩ := ckI_so h
    refine k_dvI z6 tI_100 (by decide) c7 e7 (fun v7 z7 => ?_)
    refine k_some ?_
    refine k_ob (hR.obF (by decide) rfl) ?_
    obtain ⟨p8, e8, h⟩ := bind_so h
    refine k_call (g6_ok hR z7 e8) (fun b8 R8 => ?_)
    exact k_retI R8.2 R8.1 h
  refine k_ite (c_eq t1 tI_3) h (fun c9 h => ?_) (fun c9 h => ?_)
  · refine k_grF 1 hR (hR.obF (by decide) rfl) rfl ?_
    refine k_some ?_
    obtain ⟨V10, e10, h⟩ := lt_so h
    refine k_gi hR (hR.obF (by decide) rfl) rfl e10 (fun v10 z10 => ?_)
    exact k_retI hR z10 h
  refine k_ite (c_eq t1 tI_4) h (fun c11 h => ?_) (fun c11 h => ?_)
  · refine k_grF 0 hR (hR.obF (by decide) rfl) rfl ?_
    refine k_some ?_
    obtain ⟨V12, e12, h⟩ := lt_so h
    refine k_gi hR (hR.obF (by decide) rfl) rfl e12 (fun v12 z12 => ?_)
    exact k_retI hR z12 h
  refine k_ite (c_eq t1 tI_5) h (fun c13 h => ?_) (fun c13 h => ?_)
  · refine k_grF 3 hR (hR.obF (by decide) rfl) rfl ?_
    refine k_some ?_
    obtain ⟨V14, e14, h⟩ := lt_so h
    refine k_gi hR (hR.obF (by decide) rfl) rfl e14 (fun v14 z14 => ?_)
    exact k_retI hR z14 h
  refine k_ite (c_eq t1 tI_6) h (fun c15 h => ?_) (fun c15 h => ?_)
  · refine k_grF 5 hR (hR.obF (by decide) rfl) rfl ?_
    refine k_some ?_
    obtain ⟨V16, e16, h⟩ := lt_so h
    refine k_gi hR (hR.obF (by decide) rfl) rfl e16 (fun v16 z16 => ?_)
    exact k_retI hR z16 h
  refine k_ite (c_eq t1 tI_7) h (fun c17 h => ?_) (fun c17 h => ?_)
  · refine k_grF 5 hR (hR.obF (by decide) rfl) rfl ?_
    refine k_some ?_
    obtain ⟨V18, e18, h⟩ := lt_so h
    refine k_gi hR (hR.obF (by decide) rfl) rfl e18 (fun v18 z18 => ?_)
    exact k_retI hR z18 h
  refine k_ite (c_eq t1 tI_8) h (fun c19 h => ?_) (fun c19 h => ?_)
  · obtain ⟨V20, e20, h⟩ := lt_so h
    refine k_gi hR (hR.obF (by decide) rfl) rfl e20 (fun v20 z20 => ?_)
    exact k_retI hR z20 h
  refine k_ite (c_eq t1 tI_9) h (fun c21 h => ?_) (fun c21 h => ?_)
  · obtain ⟨a22, e22, h⟩ := lt_so h
    refine k_gr hR (hR.obF (by decide) rfl) e22 ?_
    cases a22 with
    | none =>
      dsimp only at h ⊢
      exact k_retI hR tI_0 h
    | some q23 =>
      dsimp only at h ⊢
      exact k_retI hR tI_1 h
  exact k_retI hR tI_m1 h
/-- PupilCoinModel.isIn(III)Z -/
def g112 (X0 : Int) (X1 : Int) (X2 : Int) (S : gM) : Option (Int × gM) :=
  if X0 < X1 then
    some (0, S)
  else
    if X2 < X0 then
      some (0, S)
    else
      some (1, S)
theorem g112_ok {x0 : Int32} {X0 : Int} {x1 : Int32} {X1 : Int} {x2 : Int32} {X2 : Int} {S : gM} {M : vm_M} {r : Int × gM} (hR : Rel S M) (t0 : x0.toInt = X0) (t1 : x1.toInt = X1) (t2 : x2.toInt = X2) (h : g112 X0 X1 X2 S = some r) : Mp gRI (f112 x0 x1 x2 M) r := by
  unfold g112 at h
  unfold f112
  refine k_ite (c_lt t0 t1) h (fun c1 h => ?_) (fun c1 h => ?_)
  · exact k_retZ hR tI_0 (by decide) h
  · refine k_ite (c_lt t2 t0) h (fun c2 h => ?_) (fun c2 h => ?_)
    · exact k_retZ hR tI_0 (by decide) h
    · exact k_retZ hR tI_1 (by decide) h
/-- PupilCoinModel.one(Z)I -/
def g113 (X0 : Int) (S : gM) : Option (Int × gM) :=
  if X0 = 0 then
    some (0, S)
  else
    some (1, S)
theorem g113_ok {x0 : Int32} {X0 : Int} {S : gM} {M : vm_M} {r : Int × gM} (hR : Rel S M) (t0 : x0.toInt = X0) (h : g113 X0 S = some r) : Mp gRI (f113 x0 M) r := by
  unfold g113 at h
  unfold f113
  refine k_ite (c_eq t0 tI_0) h (fun c1 h => ?_) (fun c1 h => ?_)
  · exact k_retI hR tI_0 h
  · exact k_retI hR tI_1 h
/-- PupilCoinModel.isDay(I)Z -/
def g114 (X0 : Int) (S : gM) : Option (Int × gM) :=
  (g112 X0 0 999 S).bind fun p1 =>
  w_chk (p1.1 = 0 ∨ p1.1 = 1) <|
  some (p1.1, p1.2)
theorem g114_ok {x0 : Int32} {X0 : Int} {S : gM} {M : vm_M} {r : Int × gM} (hR : Rel S M) (t0 : x0.toInt = X0) (h : g114 X0 S = some r) : Mp gRI (f114 x0 M) r := by
  unfold g114 at h
  unfold f114
  obtain ⟨p1, e1, h⟩ := bind_so h
  refine k_call (g112_ok hR t0 tI_0 tI_999 e1) (fun b1 R1 => ?_)
  obtain ⟨c2, h⟩ := chk_so h
  exact k_retZ R1.2 R1.1 c2 h
/-- PupilCoinModel.isYear(I)Z -/
def g115 (X0 : Int) (S : gM) : Option (Int × gM) :=
  (g112 X0 0 9 S).bind fun p1 =>
  w_chk (p1.1 = 0 ∨ p1.1 = 1) <|
  some (p1.1, p1.2)
theorem g115_ok {x0 : Int32} {X0 : Int} {S : gM} {M : vm_M} {r : Int × gM} (hR : Rel S M) (t0 : x0.toInt = X0) (h : g115 X0 S = some r) : Mp gRI (f115 x0 M) r := by
  unfold g115 at h
  unfold f115
  obtain ⟨p1, e1, h⟩ := bind_so h
  refine k_call (g112_ok hR t0 tI_0 tI_9 e1) (fun b1 R1 => ?_)
  obtain ⟨c2, h⟩ := chk_so h
  exact k_retZ R1.2 R1.1 c2 h
/-- PupilCoinModel.isSchool(I)Z -/
def g116 (X1 : Int) (S : gM) : Option (Int × gM) :=
  w_lt (gi S 55 1) fun V1 =>
  w_ckI (V1 - 1) fun V2 =>
  (g112 X1 0 V2 S).bind fun p3 =>
  w_chk (p3.1 = 0 ∨ p3.1 = 1) <|
  some (p3.1, p3.2)
theorem g116_ok {x1 : Int32} {X1 : Int} {S : gM} {M : vm_M} {r : Int × gM} (hR : Rel S M) (t1 : x1.toInt = X1) (h : g116 X1 S = some r) : Mp gRI (f116 55 x1 M) r := by
  unfold g116 at h
  unfold f116
  obtain ⟨V1, e1, h⟩ := lt_so h
  refine k_gi hR (hR.obF (by decide) rfl) rfl e1 (fun v1 z1 => ?_)
  obtain ⟨V2, e2, c2, h⟩ := ckI_so h
  obtain ⟨p3, e3, h⟩ := bind_so h
  refine k_call (g112_ok hR t1 tI_0 (t_sub z1 tI_1 c2 e2) e3) (fun b3 R3 => ?_)
  obtain ⟨c4, h⟩ := chk_so h
  exact k_retZ R3.2 R3.1 c4 h
/-- PupilCoinModel.day(I)Z -/
def g117 (X1 : Int) (S : gM) : Option (Int × gM) :=
  w_lt (gi S 55 0) fun V1 =>
  if X1 ≤ V1 then
    some (0, S)
  else
    if X1 ≤ 999 then
      w_lt (wi S 55 0 X1) fun S4 =>
      some (1, S4)
    else
      some (0, S)
theorem g117_ok {x1 : Int32} {X1 : Int} {S : gM} {M : vm_M} {r : Int × gM} (hR : Rel S M) (t1 : x1.toInt = X1) (h : g117 X1 S = some r) : Mp gRI (f117 55 x1 M) r := by
  unfold g117 at h
  unfold f117
  obtain ⟨V1, e1, h⟩ := lt_so h
  refine k_gi hR (hR.obF (by decide) rfl) rfl e1 (fun v1 z1 => ?_)
  refine k_ite (c_le t1 z1) h (fun c2 h => ?_) (fun c2 h => ?_)
  · exact k_retZ hR tI_0 (by decide) h
  · refine k_ite (c_le t1 tI_999) h (fun c3 h => ?_) (fun c3 h => ?_)
    · obtain ⟨S4, e4, h⟩ := lt_so h
      refine k_pi hR (hR.obF (by decide) rfl) rfl t1 e4 (fun M4 R4 => ?_)
      exact k_retZ R4 tI_1 (by decide) h
    · exact k_retZ hR tI_0 (by decide) h
/-- PupilCoinModel.yearNow()I -/
def g118 (S : gM) : Option (Int × gM) :=
  w_lt (gi S 55 0) fun V1 =>
  w_ckI (V1.tdiv 100) fun V2 =>
  some (V2, S)
theorem g118_ok {S : gM} {M : vm_M} {r : Int × gM} (hR : Rel S M) (h : g118 S = some r) : Mp gRI (f118 55 M) r := by
  unfold g118 at h
  unfold f118
  obtain ⟨V1, e1, h⟩ := lt_so h
  refine k_gi hR (hR.obF (by decide) rfl) rfl e1 (fun v1 z1 => ?_)
  obtain ⟨V2, e2, c2, h⟩ := ckI_so h
  refine k_dvI z1 tI_100 (by decide) c2 e2 (fun v2 z2 => ?_)
  exact k_retI hR z2 h
/-- PupilCoinModel.school(III)I -/
def g119 (X1 : Int) (X2 : Int) (X3 : Int) (S : gM) : Option (Int × gM) :=
  (g112 X1 0 7 S).bind fun p1 =>
  if p1.1 = 0 then
    some ((-1), p1.2)
  else
    (g112 X2 0 2 p1.2).bind fun p3 =>
    if p3.1 = 0 then
      some ((-1), p3.2)
    else
      (g112 X3 0 15 p3.2).bind fun p5 =>
      if p5.1 = 0 then
        some ((-1), p5.2)
      else
        w_lt (gi p5.2 55 1) fun V7 =>
        if ¬ V7 = 12 then
          w_lt (gi p5.2 55 1) fun V9 =>
          w_chk ((0 : Int) ≤ V9 ∧ V9 < 12) <|
          w_lt (wi p5.2 56 V9 X1) fun S11 =>
          w_lt (gi S11 55 1) fun V12 =>
          w_chk ((0 : Int) ≤ V12 ∧ V12 < 12) <|
          w_lt (wi S11 57 V12 X2) fun S14 =>
          w_lt (gi S14 55 1) fun V15 =>
          w_chk ((0 : Int) ≤ V15 ∧ V15 < 12) <|
          w_lt (wi S14 58 V15 X3) fun S17 =>
          w_lt (gi S17 55 1) fun V18 =>
          w_chk ((0 : Int) ≤ V18 ∧ V18 < 12) <|
          w_lt (wi S17 66 V18 (-1)) fun S20 =>
          w_lt (gi S20 55 1) fun V21 =>
          w_chk ((0 : Int) ≤ V21 ∧ V21 < 12) <|
          w_lt (wi S20 67 V21 10) fun S23 =>
          w_lt (gi S23 55 1) fun V24 =>
          w_ckI (V24 + 1) fun V25 =>
          w_lt (wi S23 55 1 V25) fun S26 =>
          w_lt (gi S26 55 1) fun V27 =>
          w_ckI (V27 - 1) fun V28 =>
          some (V28, S26)
        else
          some ((-1), p5.2)
theorem g119_ok {x1 : Int32} {X1 : Int} {x2 : Int32} {X2 : Int} {x3 : Int32} {X3 : Int} {S : gM} {M : vm_M} {r : Int × gM} (hR : Rel S M) (t1 : x1.toInt = X1) (t2 : x2.toInt = X2) (t3 : x3.toInt = X3) (h : g119 X1 X2 X3 S = some r) : Mp gRI (f119 55 x1 x2 x3 M) r := by
  unfold g119 at h
  unfold f119
  obtain ⟨p1, e1, h⟩ := bind_so h
  refine k_call (g112_ok hR t1 tI_0 tI_7 e1) (fun b1 R1 => ?_)
  refine k_ite (c_eq R1.1 tI_0) h (fun c2 h => ?_) (fun c2 h => ?_)
  · exact k_retI R1.2 tI_m1 h
  · obtain ⟨p3, e3, h⟩ := bind_so h
    refine k_call (g112_ok R1.2 t2 tI_0 tI_2 e3) (fun b3 R3 => ?_)
    refine k_ite (c_eq R3.1 tI_0) h (fun c4 h => ?_) (fun c4 h => ?_)
    · exact k_retI R3.2 tI_m1 h
    · obtain ⟨p5, e5, h⟩ := bind_so h
      refine k_call (g112_ok R3.2 t3 tI_0 tI_15 e5) (fun b5 R5 => ?_)
      refine k_ite (c_eq R5.1 tI_0) h (fun c6 h => ?_) (fun c6 h => ?_)
      · exact k_retI R5.2 tI_m1 h
      · obtain ⟨V7, e7, h⟩ := lt_so h
        refine k_gi R5.2 (R5.2.obF (by decide) rfl) rfl e7 (fun v7 z7 => ?_)
        refine k_ite (c_ne z7 tI_12) h (fun c8 h => ?_) (fun c8 h => ?_)
        · refine k_grF 57 R5.2 (R5.2.obF (by decide) rfl) rfl ?_
          obtain ⟨V9, e9, h⟩ := lt_so h
          refine k_gi R5.2 (R5.2.obF (by decide) rfl) rfl e9 (fun v9 z9 => ?_)
          refine k_some ?_
          obtain ⟨c10, h⟩ := chk_so h
          obtain ⟨S11, e11, h⟩ := lt_so h
          refine k_si R5.2 (R5.2.lnF (by decide) rfl) rfl z9 c10 t1 e11 (fun M11 R11 => ?_)
          refine k_grF 58 R11 (R11.obF (by decide) rfl) rfl ?_
          obtain ⟨V12, e12, h⟩ := lt_so h
          refine k_gi R11 (R11.obF (by decide) rfl) rfl e12 (fun v12 z12 => ?_)
          refine k_some ?_
          obtain ⟨c13, h⟩ := chk_so h
          obtain ⟨S14, e14, h⟩ := lt_so h
          refine k_si R11 (R11.lnF (by decide) rfl) rfl z12 c13 t2 e14 (fun M14 R14 => ?_)
          refine k_grF 59 R14 (R14.obF (by decide) rfl) rfl ?_
          obtain ⟨V15, e15, h⟩ := lt_so h
          refine k_gi R14 (R14.obF (by decide) rfl) rfl e15 (fun v15 z15 => ?_)
          refine k_some ?_
          obtain ⟨c16, h⟩ := chk_so h
          obtain ⟨S17, e17, h⟩ := lt_so h
          refine k_si R14 (R14.lnF (by decide) rfl) rfl z15 c16 t3 e17 (fun M17 R17 => ?_)
          refine k_grF 67 R17 (R17.obF (by decide) rfl) rfl ?_
          obtain ⟨V18, e18, h⟩ := lt_so h
          refine k_gi R17 (R17.obF (by decide) rfl) rfl e18 (fun v18 z18 => ?_)
          refine k_some ?_
          obtain ⟨c19, h⟩ := chk_so h
          obtain ⟨S20, e20, h⟩ := lt_so h
          refine k_si R17 (R17.lnF (by decide) rfl) rfl z18 c19 tI_m1 e20 (fun M20 R20 => ?_)
          refine k_grF 68 R20 (R20.obF (by decide) rfl) rfl ?_
          obtain ⟨V21, e21, h⟩ := lt_so h
          refine k_gi R20 (R20.obF (by decide) rfl) rfl e21 (fun v21 z21 => ?_)
          refine k_some ?_
          obtain ⟨c22, h⟩ := chk_so h
          obtain ⟨S23, e23, h⟩ := lt_so h
          refine k_si R20 (R20.lnF (by decide) rfl) rfl z21 c22 tI_10 e23 (fun M23 R23 => ?_)
          obtain ⟨V24, e24, h⟩ := lt_so h
          refine k_gi R23 (R23.obF (by decide) rfl) rfl e24 (fun v24 z24 => ?_)
          obtain ⟨V25, e25, c25, h⟩ := ckI_so h
          obtain ⟨S26, e26, h⟩ := lt_so h
          refine k_pi R23 (R23.obF (by decide) rfl) rfl (t_add z24 tI_1 c25 e25) e26 (fun M26 R26 => ?_)
          obtain ⟨V27, e27, h⟩ := lt_so h
          refine k_gi R26 (R26.obF (by decide) rfl) rfl e27 (fun v27 z27 => ?_)
          obtain ⟨V28, e28, c28, h⟩ := ckI_so h
          exact k_retI R26 (t_sub z27 tI_1 c28 e28) h
        · exact k_retI R5.2 tI_m1 h
/-- PupilCoinModel.need(II)Z -/
def g120 (X1 : Int) (X2 : Int) (S : gM) : Option (Int × gM) :=
  (g112 X1 0 7 S).bind fun p1 =>
  if p1.1 = 0 then
    some (0, p1.2)
  else
    (g112 X2 0 100 p1.2).bind fun p3 =>
    if ¬ p3.1 = 0 then
      w_chk ((0 : Int) ≤ X1 ∧ X1 < 8) <|
      w_lt (wi p3.2 59 X1 X2) fun S6 =>
      some (1, S6)
    else
      some (0, p3.2)
theorem g120_ok {x1 : Int32} {X1 : Int} {x2 : Int32} {X2 : Int} {S : gM} {M : vm_M} {r : Int × gM} (hR : Rel S M) (t1 : x1.toInt = X1) (t2 : x2.toInt = X2) (h : g120 X1 X2 S = some r) : Mp gRI (f120 55 x1 x2 M) r := by
  unfold g120 at h
  unfold f120
  obtain ⟨p1, e1, h⟩ := bind_so h
  refine k_call (g112_ok hR t1 tI_0 tI_7 e1) (fun b1 R1 => ?_)
  refine k_ite (c_eq R1.1 tI_0) h (fun c2 h => ?_) (fun c2 h => ?_)
  · exact k_retZ R1.2 tI_0 (by decide) h
  · obtain ⟨p3, e3, h⟩ := bind_so h
    refine k_call (g112_ok R1.2 t2 tI_0 tI_100 e3) (fun b3 R3 => ?_)
    refine k_ite (c_ne R3.1 tI_0) h (fun c4 h => ?_) (fun c4 h => ?_)
    · refine k_grF 60 R3.2 (R3.2.obF (by decide) rfl) rfl ?_
      refine k_some ?_
      obtain ⟨c5, h⟩ := chk_so h
      obtain ⟨S6, e6, h⟩ := lt_so h
      refine k_si R3.2 (R3.2.lnF (by decide) rfl) rfl t1 c5 t2 e6 (fun M6 R6 => ?_)
      exact k_retZ R6 tI_1 (by decide) h
    · exact k_retZ R3.2 tI_0 (by decide) h
/-- PupilCoinModel.road(III)Z -/
def g121 (X1 : Int) (X2 : Int) (X3 : Int) (S : gM) : Option (Int × gM) :=
  (g112 X1 0 15 S).bind fun p1 =>
  if p1.1 = 0 then
    some (0, p1.2)
  else
    (g112 X2 0 15 p1.2).bind fun p3 =>
    if p3.1 = 0 then
      some (0, p3.2)
    else
      if X1 = X2 then
        some (0, p3.2)
      else
        (g112 X3 0 999 p3.2).bind fun p6 =>
        if ¬ p6.1 = 0 then
          w_ckI (16 * X1) fun V8 =>
          w_ckI (V8 + X2) fun V9 =>
          w_chk ((0 : Int) ≤ V9 ∧ V9 < 256) <|
          w_lt (wi p6.2 60 V9 X3) fun S11 =>
          w_ckI (16 * X2) fun V12 =>
          w_ckI (V12 + X1) fun V13 =>
          w_chk ((0 : Int) ≤ V13 ∧ V13 < 256) <|
          w_lt (wi S11 60 V13 X3) fun S15 =>
          some (1, S15)
        else
          some (0, p6.2)
theorem g121_ok {x1 : Int32} {X1 : Int} {x2 : Int32} {X2 : Int} {x3 : Int32} {X3 : Int} {S : gM} {M : vm_M} {r : Int × gM} (hR : Rel S M) (t1 : x1.toInt = X1) (t2 : x2.toInt = X2) (t3 : x3.toInt = X3) (h : g121 X1 X2 X3 S = some r) : Mp gRI (f121 55 x1 x2 x3 M) r := by
  unfold g121 at h
  unfold f121
  obtain ⟨p1, e1, h⟩ := bind_so h
  refine k_call (g112_ok hR t1 tI_0 tI_15 e1) (fun b1 R1 => ?_)
  refine k_ite (c_eq R1.1 tI_0) h (fun c2 h => ?_) (fun c2 h => ?_)
  · exact k_retZ R1.2 tI_0 (by decide) h
  · obtain ⟨p3, e3, h⟩ := bind_so h
    refine k_call (g112_ok R1.2 t2 tI_0 tI_15 e3) (fun b3 R3 => ?_)
    refine k_ite (c_eq R3.1 tI_0) h (fun c4 h => ?_) (fun c4 h => ?_)
    · exact k_retZ R3.2 tI_0 (by decide) h
    · refine k_ite (c_eq t1 t2) h (fun c5 h => ?_) (fun c5 h => ?_)
      · exact k_retZ R3.2 tI_0 (by decide) h
      · obtain ⟨p6, e6, h⟩ := bind_so h
        refine k_call (g112_ok R3.2 t3 tI_0 tI_999 e6) (fun b6 R6 => ?_)
        refine k_ite (c_ne R6.1 tI_0) h (fun c7 h => ?_) (fun c7 h => ?_)
        · refine k_grF 61 R6.2 (R6.2.obF (by decide) rfl) rfl ?_
          obtain ⟨V8, e8, c8, h⟩ := ckI_so h
          obtain ⟨V9, e9, c9, h⟩ := ckI_so h
          refine k_some ?_
          obtain ⟨c10, h⟩ := chk_so h
          obtain ⟨S11, e11, h⟩ := lt_so h
          refine k_si R6.2 (R6.2.lnF (by decide) rfl) rfl (t_add (t_mul tI_16 t1 c8 e8) t2 c9 e9) c10 t3 e11 (fun M11 R11 => ?_)
          refine k_grF 61 R11 (R11.obF (by decide) rfl) rfl ?_
          obtain ⟨V12, e12, c12, h⟩ := ckI_so h
          obtain ⟨V13, e13, c13, h⟩ := ckI_so h
          refine k_some ?_
          obtain ⟨c14, h⟩ := chk_so h
          obtain ⟨S15, e15, h⟩ := lt_so h
          refine k_si R11 (R11.lnF (by decide) rfl) rfl (t_add (t_mul tI_16 t2 c12 e12) t1 c13 e13) c14 t3 e15 (fun M15 R15 => ?_)
          exact k_retZ R15 tI_1 (by decide) h
        · exact k_retZ R6.2 tI_0 (by decide) h
/-- PupilCoinModel.isOpen(II)Z -/
def g122 (X1 : Int) (X2 : Int) (S : gM) : Option (Int × gM) :=
  w_chk ((0 : Int) ≤ X1 ∧ X1 < 12) <|
  w_lt (gi S 67 X1) fun V2 =>
  if V2 ≤ X2 then
    some (0, S)
  else
    some (1, S)
theorem g122_ok {x1 : Int32} {X1 : Int} {x2 : Int32} {X2 : Int} {S : gM} {M : vm_M} {r : Int × gM} (hR : Rel S M) (t1 : x1.toInt = X1) (t2 : x2.toInt = X2) (h : g122 X1 X2 S = some r) : Mp gRI (f122 55 x1 x2 M) r := by
  unfold g122 at h
  unfold f122
  refine k_grF 68 hR (hR.obF (by decide) rfl) rfl ?_
  refine k_some ?_
  obtain ⟨c1, h⟩ := chk_so h
  obtain ⟨V2, e2, h⟩ := lt_so h
  refine k_ai hR (hR.lnF (by decide) rfl) rfl t1 c1 e2 (fun v2 z2 => ?_)
  refine k_ite (c_le z2 t2) h (fun c3 h => ?_) (fun c3 h => ?_)
  · exact k_retZ hR tI_0 (by decide) h
  · exact k_retZ hR tI_1 (by decide) h
def g123_j30 (K44 : gM → Option (Int × gM)) (K2 : Int → gM → Option (Int × gM)) (X1 : Int) (X2 : Int) (X3 : Int) (Xs1 : Int) (Xs2 : Int) (S : gM) : Option (Int × gM) :=
  w_chk ((0 : Int) ≤ Xs1 ∧ Xs1 < 16) <|
  w_lt (wi S 68 Xs1 Xs2) fun S6 =>
  w_chk ((0 : Int) ≤ X3 ∧ X3 < 16) <|
  w_lt (wi S6 69 X3 0) fun S8 =>
  w_ckI (X3 + 1) fun V9 =>
  K2 V9 S8
theorem g123_j30_ok {k44 : vm_M → Option (Int32 × vm_M)} {K44 : gM → Option (Int × gM)} {k2 : Int32 → vm_M → Option (Int32 × vm_M)} {K2 : Int → gM → Option (Int × gM)} {x1 : Int32} {X1 : Int} {x2 : Int32} {X2 : Int} {x3 : Int32} {X3 : Int} {xs1 : Int32} {Xs1 : Int} {xs2 : Int32} {Xs2 : Int} {S : gM} {M : vm_M} {r : Int × gM} (hk44 : ∀ (S : gM) (M : vm_M), Rel S M → K44 S = some r → Mp gRI (k44 M) r) (hk2 : ∀ (y3 : Int32) (Y3 : Int) (S : gM) (M : vm_M), Rel S M → y3.toInt = Y3 → K2 Y3 S = some r → Mp gRI (k2 y3 M) r) (hR : Rel S M) (t1 : x1.toInt = X1) (t2 : x2.toInt = X2) (t3 : x3.toInt = X3) (ts1 : xs1.toInt = Xs1) (ts2 : xs2.toInt = Xs2) (h : g123_j30 K44 K2 X1 X2 X3 Xs1 Xs2 S = some r) : Mp gRI (f123_j30 k44 k2 55 x1 x2 x3 (some 68) xs1 xs2 M) r := by
  unfold g123_j30 at h
  unfold f123_j30
  refine k_some ?_
  obtain ⟨c5, h⟩ := chk_so h
  obtain ⟨S6, e6, h⟩ := lt_so h
  refine k_si hR (hR.lnF (by decide) rfl) rfl ts1 c5 ts2 e6 (fun M6 R6 => ?_)
  refine k_grF 70 R6 (R6.obF (by decide) rfl) rfl ?_
  refine k_some ?_
  obtain ⟨c7, h⟩ := chk_so h
  obtain ⟨S8, e8, h⟩ := lt_so h
  refine k_sz R6 (R6.lnF (by decide) rfl) rfl t3 c7 tI_0 (by decide) e8 (fun M8 R8 => ?_)
  obtain ⟨V9, e9, c9, h⟩ := ckI_so h
  exact hk2 _ _ _ _ R8 (t_add t3 tI_1 c9 e9) h
def g123_l2 (X1 : Int) (X2 : Int) (K44 : gM → Option (Int × gM)) : Nat → Int → gM → Option (Int × gM)
  | 0 => fun _ _ => none
  | n + 1 => fun X3 S =>
    if 16 ≤ X3 then
      K44 S
    else
      w_chk ((0 : Int) ≤ X1 ∧ X1 < 12) <|
      w_lt (gi S 58 X1) fun V3 =>
      if ¬ X3 = V3 then
        g123_j30 K44 (g123_l2 X1 X2 K44 n) X1 X2 X3 X3 9999 S
      else
        g123_j30 K44 (g123_l2 X1 X2 K44 n) X1 X2 X3 X3 0 S
theorem g123_l2_ok {x1 : Int32} {X1 : Int} {x2 : Int32} {X2 : Int} {k44 : vm_M → Option (Int32 × vm_M)} {K44 : gM → Option (Int × gM)} {r : Int × gM} (hk44 : ∀ (S : gM) (M : vm_M), Rel S M → K44 S = some r → Mp gRI (k44 M) r) (t1 : x1.toInt = X1) (t2 : x2.toInt = X2) : ∀ (n : Nat) (x3 : Int32) (X3 : Int) (S : gM) (M : vm_M), Rel S M → x3.toInt = X3 → g123_l2 X1 X2 K44 n X3 S = some r → Mp gRI (f123_l2 55 x1 x2 k44 n x3 M) r := by
  intro n
  induction n with
  | zero =>
    intro x3 X3 S M hR t3 h
    cases h
  | succ n ih =>
    intro x3 X3 S M hR t3 h
    dsimp only [g123_l2] at h
    dsimp only [f123_l2]
    refine k_ite (c_le tI_16 t3) h (fun c1 h => ?_) (fun c1 h => ?_)
    · exact hk44 _ _ hR h
    · refine k_grF 69 hR (hR.obF (by decide) rfl) rfl ?_
      refine k_grF 59 hR (hR.obF (by decide) rfl) rfl ?_
      refine k_some ?_
      obtain ⟨c2, h⟩ := chk_so h
      obtain ⟨V3, e3, h⟩ := lt_so h
      refine k_ai hR (hR.lnF (by decide) rfl) rfl t1 c2 e3 (fun v3 z3 => ?_)
      refine k_ite (c_ne t3 z3) h (fun c4 h => ?_) (fun c4 h => ?_)
      · exact g123_j30_ok hk44 ih hR t1 t2 t3 t3 tI_9999 h
      · exact g123_j30_ok hk44 ih hR t1 t2 t3 t3 tI_0 h
def g123_l58 (X1 : Int) (X2 : Int) (X3 : Int) (K108 : Int → gM → Option (Int × gM)) : Nat → Int → Int → gM → Option (Int × gM)
  | 0 => fun _ _ _ => none
  | n + 1 => fun X4 X5 S =>
    if 16 ≤ X5 then
      K108 X4 S
    else
      w_chk ((0 : Int) ≤ X5 ∧ X5 < 16) <|
      w_lt (gi S 69 X5) fun V14 =>
      if ¬ V14 = 0 then
        w_ckI (X5 + 1) fun V16 =>
        g123_l58 X1 X2 X3 K108 n X4 V16 S
      else
        if X4 = (-1) then
          w_ckI (X5 + 1) fun V18 =>
          g123_l58 X1 X2 X3 K108 n X5 V18 S
        else
          w_chk ((0 : Int) ≤ X5 ∧ X5 < 16) <|
          w_lt (gi S 68 X5) fun V20 =>
          w_chk ((0 : Int) ≤ X4 ∧ X4 < 16) <|
          w_lt (gi S 68 X4) fun V22 =>
          if V22 ≤ V20 then
            w_ckI (X5 + 1) fun V24 =>
            g123_l58 X1 X2 X3 K108 n X4 V24 S
          else
            w_ckI (X5 + 1) fun V25 =>
            g123_l58 X1 X2 X3 K108 n X5 V25 S
theorem g123_l58_ok {x1 : Int32} {X1 : Int} {x2 : Int32} {X2 : Int} {x3 : Int32} {X3 : Int} {k108 : Int32 → vm_M → Option (Int32 × vm_M)} {K108 : Int → gM → Option (Int × gM)} {r : Int × gM} (hk108 : ∀ (y4 : Int32) (Y4 : Int) (S : gM) (M : vm_M), Rel S M → y4.toInt = Y4 → K108 Y4 S = some r → Mp gRI (k108 y4 M) r) (t1 : x1.toInt = X1) (t2 : x2.toInt = X2) (t3 : x3.toInt = X3) : ∀ (n : Nat) (x4 : Int32) (X4 : Int) (x5 : Int32) (X5 : Int) (S : gM) (M : vm_M), Rel S M → x4.toInt = X4 → x5.toInt = X5 → g123_l58 X1 X2 X3 K108 n X4 X5 S = some r → Mp gRI (f123_l58 55 x1 x2 x3 k108 n x4 x5 M) r := by
  intro n
  induction n with
  | zero =>
    intro x4 X4 x5 X5 S M hR t4 t5 h
    cases h
  | succ n ih =>
    intro x4 X4 x5 X5 S M hR t4 t5 h
    dsimp only [g123_l58] at h
    dsimp only [f123_l58]
    refine k_ite (c_le tI_16 t5) h (fun c12 h => ?_) (fun c12 h => ?_)
    · exact hk108 _ _ _ _ hR t4 h
    · refine k_grF 70 hR (hR.obF (by decide) rfl) rfl ?_
      refine k_some ?_
      obtain ⟨c13, h⟩ := chk_so h
      obtain ⟨V14, e14, h⟩ := lt_so h
      refine k_ai hR (hR.lnF (by decide) rfl) rfl t5 c13 e14 (fun v14 z14 => ?_)
      refine k_ite (c_ne z14 tI_0) h (fun c15 h => ?_) (fun c15 h => ?_)
      · obtain ⟨V16, e16, c16, h⟩ := ckI_so h
        exact ih _ _ _ _ _ _ hR t4 (t_add t5 tI_1 c16 e16) h
      · refine k_ite (c_eq t4 tI_m1) h (fun c17 h => ?_) (fun c17 h => ?_)
        · obtain ⟨V18, e18, c18, h⟩ := ckI_so h
          exact ih _ _ _ _ _ _ hR t5 (t_add t5 tI_1 c18 e18) h
        · refine k_grF 69 hR (hR.obF (by decide) rfl) rfl ?_
          refine k_some ?_
          obtain ⟨c19, h⟩ := chk_so h
          obtain ⟨V20, e20, h⟩ := lt_so h
          refine k_ai hR (hR.lnF (by decide) rfl) rfl t5 c19 e20 (fun v20 z20 => ?_)
          refine k_grF 69 hR (hR.obF (by decide) rfl) rfl ?_
          refine k_some ?_
          obtain ⟨c21, h⟩ := chk_so h
          obtain ⟨V22, e22, h⟩ := lt_so h
          refine k_ai hR (hR.lnF (by decide) rfl) rfl t4 c21 e22 (fun v22 z22 => ?_)
          refine k_ite (c_le z22 z20) h (fun c23 h => ?_) (fun c23 h => ?_)
          · obtain ⟨V24, e24, c24, h⟩ := ckI_so h
            exact ih _ _ _ _ _ _ hR t4 (t_add t5 tI_1 c24 e24) h
          · obtain ⟨V25, e25, c25, h⟩ := ckI_so h
            exact ih _ _ _ _ _ _ hR t5 (t_add t5 tI_1 c25 e25) h
def g123_l119 (X1 : Int) (X2 : Int) (X3 : Int) (X4 : Int) (K186 : gM → Option (Int × gM)) : Nat → Int → gM → Option (Int × gM)
  | 0 => fun _ _ => none
  | n + 1 => fun X5 S =>
    if 16 ≤ X5 then
      K186 S
    else
      w_ckI (16 * X4) fun V31 =>
      w_ckI (V31 + X5) fun V32 =>
      w_chk ((0 : Int) ≤ V32 ∧ V32 < 256) <|
      w_lt (gi S 60 V32) fun V34 =>
      if V34 ≤ 0 then
        w_ckI (X5 + 1) fun V36 =>
        g123_l119 X1 X2 X3 X4 K186 n V36 S
      else
        w_chk ((0 : Int) ≤ X5 ∧ X5 < 16) <|
        w_lt (gi S 68 X5) fun V38 =>
        w_chk ((0 : Int) ≤ X4 ∧ X4 < 16) <|
        w_lt (gi S 68 X4) fun V40 =>
        w_ckI (16 * X4) fun V41 =>
        w_ckI (V41 + X5) fun V42 =>
        w_chk ((0 : Int) ≤ V42 ∧ V42 < 256) <|
        w_lt (gi S 60 V42) fun V44 =>
        w_ckI (V40 + V44) fun V45 =>
        w_lt (min V38 V45) fun V46 =>
        w_chk ((0 : Int) ≤ X5 ∧ X5 < 16) <|
        w_lt (wi S 68 X5 V46) fun S48 =>
        w_ckI (X5 + 1) fun V49 =>
        g123_l119 X1 X2 X3 X4 K186 n V49 S48
theorem g123_l119_ok {x1 : Int32} {X1 : Int} {x2 : Int32} {X2 : Int} {x3 : Int32} {X3 : Int} {x4 : Int32} {X4 : Int} {k186 : vm_M → Option (Int32 × vm_M)} {K186 : gM → Option (Int × gM)} {r : Int × gM} (hk186 : ∀ (S : gM) (M : vm_M), Rel S M → K186 S = some r → Mp gRI (k186 M) r) (t1 : x1.toInt = X1) (t2 : x2.toInt = X2) (t3 : x3.toInt = X3) (t4 : x4.toInt = X4) : ∀ (n : Nat) (x5 : Int32) (X5 : Int) (S : gM) (M : vm_M), Rel S M → x5.toInt = X5 → g123_l119 X1 X2 X3 X4 K186 n X5 S = some r → Mp gRI (f123_l119 55 x1 x2 x3 x4 k186 n x5 M) r := by
  intro n
  induction n with
  | zero =>
    intro x5 X5 S M hR t5 h
    cases h
  | succ n ih =>
    intro x5 X5 S M hR t5 h
    dsimp only [g123_l119] at h
    dsimp only [f123_l119]
    refine k_ite (c_le tI_16 t5) h (fun c30 h => ?_) (fun c30 h => ?_)
    · exact hk186 _ _ hR h
    · refine k_grF 61 hR (hR.obF (by decide) rfl) rfl ?_
      obtain ⟨V31, e31, c31, h⟩ := ckI_so h
      obtain ⟨V32, e32, c32, h⟩ := ckI_so h
      refine k_some ?_
      obtain ⟨c33, h⟩ := chk_so h
      obtain ⟨V34, e34, h⟩ := lt_so h
      refine k_ai hR (hR.lnF (by decide) rfl) rfl (t_add (t_mul tI_16 t4 c31 e31) t5 c32 e32) c33 e34 (fun v34 z34 => ?_)
      refine k_ite (c_le z34 tI_0) h (fun c35 h => ?_) (fun c35 h => ?_)
      · obtain ⟨V36, e36, c36, h⟩ := ckI_so h
        exact ih _ _ _ _ hR (t_add t5 tI_1 c36 e36) h
      · refine k_grF 69 hR (hR.obF (by decide) rfl) rfl ?_
        refine k_grF 69 hR (hR.obF (by decide) rfl) rfl ?_
        refine k_some ?_
        obtain ⟨c37, h⟩ := chk_so h
        obtain ⟨V38, e38, h⟩ := lt_so h
        refine k_ai hR (hR.lnF (by decide) rfl) rfl t5 c37 e38 (fun v38 z38 => ?_)
        refine k_grF 69 hR (hR.obF (by decide) rfl) rfl ?_
        refine k_some ?_
        obtain ⟨c39, h⟩ := chk_so h
        obtain ⟨V40, e40, h⟩ := lt_so h
        refine k_ai hR (hR.lnF (by decide) rfl) rfl t4 c39 e40 (fun v40 z40 => ?_)
        refine k_grF 61 hR (hR.obF (by decide) rfl) rfl ?_
        obtain ⟨V41, e41, c41, h⟩ := ckI_so h
        obtain ⟨V42, e42, c42, h⟩ := ckI_so h
        refine k_some ?_
        obtain ⟨c43, h⟩ := chk_so h
        obtain ⟨V44, e44, h⟩ := lt_so h
        refine k_ai hR (hR.lnF (by decide) rfl) rfl (t_add (t_mul tI_16 t4 c41 e41) t5 c42 e42) c43 e44 (fun v44 z44 => ?_)
        obtain ⟨V45, e45, c45, h⟩ := ckI_so h
        obtain ⟨V46, e46, h⟩ := lt_so h
        obtain ⟨c47, h⟩ := chk_so h
        obtain ⟨S48, e48, h⟩ := lt_so h
        refine k_si hR (hR.lnF (by decide) rfl) rfl t5 c47 (t_mnI z38 (t_add z40 z44 c45 e45) e46) e48 (fun M48 R48 => ?_)
        obtain ⟨V49, e49, c49, h⟩ := ckI_so h
        exact ih _ _ _ _ R48 (t_add t5 tI_1 c49 e49) h
def g123_l46 (X1 : Int) (X2 : Int) (K192 : gM → Option (Int × gM)) : Nat → Int → gM → Option (Int × gM)
  | 0 => fun _ _ => none
  | n + 1 => fun X3 S =>
    if 16 ≤ X3 then
      K192 S
    else
      g123_l58 X1 X2 X3
        (fun Y26 S27 =>
          w_chk ((0 : Int) ≤ Y26 ∧ Y26 < 16) <|
          w_lt (wi S27 69 Y26 1) fun S29 =>
          g123_l119 X1 X2 X3 Y26
            (fun S50 =>
              w_ckI (X3 + 1) fun V51 =>
              g123_l46 X1 X2 K192 n V51 S50)
            100000 0 S29)
        100000 (-1) 0 S
theorem g123_l46_ok {x1 : Int32} {X1 : Int} {x2 : Int32} {X2 : Int} {k192 : vm_M → Option (Int32 × vm_M)} {K192 : gM → Option (Int × gM)} {r : Int × gM} (hk192 : ∀ (S : gM) (M : vm_M), Rel S M → K192 S = some r → Mp gRI (k192 M) r) (t1 : x1.toInt = X1) (t2 : x2.toInt = X2) : ∀ (n : Nat) (x3 : Int32) (X3 : Int) (S : gM) (M : vm_M), Rel S M → x3.toInt = X3 → g123_l46 X1 X2 K192 n X3 S = some r → Mp gRI (f123_l46 55 x1 x2 k192 n x3 M) r := by
  intro n
  induction n with
  | zero =>
    intro x3 X3 S M hR t3 h
    cases h
  | succ n ih =>
    intro x3 X3 S M hR t3 h
    dsimp only [g123_l46] at h
    dsimp only [f123_l46]
    refine k_ite (c_le tI_16 t3) h (fun c11 h => ?_) (fun c11 h => ?_)
    · exact hk192 _ _ hR h
    · refine g123_l58_ok ?_ t1 t2 t3 100000 _ _ _ _ _ _ hR tI_m1 tI_0 h
      · intro y26 Y26 S27 M27 R27 u26
        intro h
        refine k_grF 70 R27 (R27.obF (by decide) rfl) rfl ?_
        refine k_some ?_
        obtain ⟨c28, h⟩ := chk_so h
        obtain ⟨S29, e29, h⟩ := lt_so h
        refine k_sz R27 (R27.lnF (by decide) rfl) rfl u26 c28 tI_1 (by decide) e29 (fun M29 R29 => ?_)
        refine g123_l119_ok ?_ t1 t2 t3 u26 100000 _ _ _ _ R29 tI_0 h
        · intro S50 M50 R50
          intro h
          obtain ⟨V51, e51, c51, h⟩ := ckI_so h
          exact ih _ _ _ _ R50 (t_add t3 tI_1 c51 e51) h
def g123_l199 (X1 : Int) (X2 : Int) : Nat → Int → Int → gM → Option (Int × gM)
  | 0 => fun _ _ _ => none
  | n + 1 => fun X3 X4 S =>
    w_lt (gi S 55 1) fun V53 =>
    if V53 ≤ X4 then
      some (X3, S)
    else
      if X4 = X1 then
        w_ckI (X4 + 1) fun V56 =>
        g123_l199 X1 X2 n X3 V56 S
      else
        (g122 X4 X2 S).bind fun p57 =>
        if p57.1 = 0 then
          w_ckI (X4 + 1) fun V59 =>
          g123_l199 X1 X2 n X3 V59 p57.2
        else
          w_chk ((0 : Int) ≤ X4 ∧ X4 < 12) <|
          w_lt (gi p57.2 58 X4) fun V61 =>
          w_chk ((0 : Int) ≤ V61 ∧ V61 < 16) <|
          w_lt (gi p57.2 68 V61) fun V63 =>
          w_lt (min X3 V63) fun V64 =>
          w_ckI (X4 + 1) fun V65 =>
          g123_l199 X1 X2 n V64 V65 p57.2
theorem g123_l199_ok {x1 : Int32} {X1 : Int} {x2 : Int32} {X2 : Int} {r : Int × gM} (t1 : x1.toInt = X1) (t2 : x2.toInt = X2) : ∀ (n : Nat) (x3 : Int32) (X3 : Int) (x4 : Int32) (X4 : Int) (S : gM) (M : vm_M), Rel S M → x3.toInt = X3 → x4.toInt = X4 → g123_l199 X1 X2 n X3 X4 S = some r → Mp gRI (f123_l199 55 x1 x2 n x3 x4 M) r := by
  intro n
  induction n with
  | zero =>
    intro x3 X3 x4 X4 S M hR t3 t4 h
    cases h
  | succ n ih =>
    intro x3 X3 x4 X4 S M hR t3 t4 h
    dsimp only [g123_l199] at h
    dsimp only [f123_l199]
    obtain ⟨V53, e53, h⟩ := lt_so h
    refine k_gi hR (hR.obF (by decide) rfl) rfl e53 (fun v53 z53 => ?_)
    refine k_ite (c_le z53 t4) h (fun c54 h => ?_) (fun c54 h => ?_)
    · exact k_retI hR t3 h
    · refine k_ite (c_eq t4 t1) h (fun c55 h => ?_) (fun c55 h => ?_)
      · obtain ⟨V56, e56, c56, h⟩ := ckI_so h
        exact ih _ _ _ _ _ _ hR t3 (t_add t4 tI_1 c56 e56) h
      · refine k_ob (hR.obF (by decide) rfl) ?_
        obtain ⟨p57, e57, h⟩ := bind_so h
        refine k_call (g122_ok hR t4 t2 e57) (fun b57 R57 => ?_)
        refine k_ite (c_eq R57.1 tI_0) h (fun c58 h => ?_) (fun c58 h => ?_)
        · obtain ⟨V59, e59, c59, h⟩ := ckI_so h
          exact ih _ _ _ _ _ _ R57.2 t3 (t_add t4 tI_1 c59 e59) h
        · refine k_grF 69 R57.2 (R57.2.obF (by decide) rfl) rfl ?_
          refine k_grF 59 R57.2 (R57.2.obF (by decide) rfl) rfl ?_
          refine k_some ?_
          obtain ⟨c60, h⟩ := chk_so h
          obtain ⟨V61, e61, h⟩ := lt_so h
          refine k_ai R57.2 (R57.2.lnF (by decide) rfl) rfl t4 c60 e61 (fun v61 z61 => ?_)
          refine k_some ?_
          obtain ⟨c62, h⟩ := chk_so h
          obtain ⟨V63, e63, h⟩ := lt_so h
          refine k_ai R57.2 (R57.2.lnF (by decide) rfl) rfl z61 c62 e63 (fun v63 z63 => ?_)
          obtain ⟨V64, e64, h⟩ := lt_so h
          obtain ⟨V65, e65, c65, h⟩ := ckI_so h
          exact ih _ _ _ _ _ _ R57.2 (t_mnI t3 z63 e64) (t_add t4 tI_1 c65 e65) h
/-- PupilCoinModel.farOf(II)I -/
def g123 (X1 : Int) (X2 : Int) (S : gM) : Option (Int × gM) :=
  g123_l2 X1 X2
    (fun S10 =>
      g123_l46 X1 X2
        (fun S52 =>
          g123_l199 X1 X2
          
            100000 9999 0 S52)
        100000 0 S10)
    100000 0 S
theorem g123_ok {x1 : Int32} {X1 : Int} {x2 : Int32} {X2 : Int} {S : gM} {M : vm_M} {r : Int × gM} (hR : Rel S M) (t1 : x1.toInt = X1) (t2 : x2.toInt = X2) (h : g123 X1 X2 S = some r) : Mp gRI (f123 55 x1 x2 M) r := by
  unfold g123 at h
  unfold f123
  refine g123_l2_ok ?_ t1 t2 100000 _ _ _ _ hR tI_0 h
  · intro S10 M10 R10
    intro h
    refine g123_l46_ok ?_ t1 t2 100000 _ _ _ _ R10 tI_0 h
    · intro S52 M52 R52
      intro h
      refine g123_l199_ok t1 t2 100000 _ _ _ _ _ _ R52 tI_9999 tI_0 h
/-- PupilCoinModel.far(II)I -/
def g124 (X1 : Int) (X2 : Int) (S : gM) : Option (Int × gM) :=
  (g116 X1 S).bind fun p1 =>
  if p1.1 = 0 then
    some ((-1), p1.2)
  else
    (g115 X2 p1.2).bind fun p3 =>
    if p3.1 = 0 then
      some ((-1), p3.2)
    else
      (g122 X1 X2 p3.2).bind fun p5 =>
      if p5.1 = 0 then
        some ((-1), p5.2)
      else
        (g123 X1 X2 p5.2).bind fun p7 =>
        some (p7.1, p7.2)
theorem g124_ok {x1 : Int32} {X1 : Int} {x2 : Int32} {X2 : Int} {S : gM} {M : vm_M} {r : Int × gM} (hR : Rel S M) (t1 : x1.toInt = X1) (t2 : x2.toInt = X2) (h : g124 X1 X2 S = some r) : Mp gRI (f124 55 x1 x2 M) r := by
  unfold g124 at h
  unfold f124
  refine k_ob (hR.obF (by decide) rfl) ?_
  obtain ⟨p1, e1, h⟩ := bind_so h
  refine k_call (g116_ok hR t1 e1) (fun b1 R1 => ?_)
  refine k_ite (c_eq R1.1 tI_0) h (fun c2 h => ?_) (fun c2 h => ?_)
  · exact k_retI R1.2 tI_m1 h
  · obtain ⟨p3, e3, h⟩ := bind_so h
    refine k_call (g115_ok R1.2 t2 e3) (fun b3 R3 => ?_)
    refine k_ite (c_eq R3.1 tI_0) h (fun c4 h => ?_) (fun c4 h => ?_)
    · exact k_retI R3.2 tI_m1 h
    · refine k_ob (R3.2.obF (by decide) rfl) ?_
      obtain ⟨p5, e5, h⟩ := bind_so h
      refine k_call (g122_ok R3.2 t1 t2 e5) (fun b5 R5 => ?_)
      refine k_ite (c_eq R5.1 tI_0) h (fun c6 h => ?_) (fun c6 h => ?_)
      · exact k_retI R5.2 tI_m1 h
      · refine k_ob (R5.2.obF (by decide) rfl) ?_
        obtain ⟨p7, e7, h⟩ := bind_so h
        refine k_call (g123_ok R5.2 t1 t2 e7) (fun b7 R7 => ?_)
        exact k_retI R7.2 R7.1 h
/-- PupilCoinModel.mark(IIII)I -/
def g125 (X1 : Int) (X2 : Int) (X3 : Int) (X4 : Int) (S : gM) : Option (Int × gM) :=
  (g116 X1 S).bind fun p1 =>
  if p1.1 = 0 then
    some ((-1), p1.2)
  else
    (g115 X2 p1.2).bind fun p3 =>
    if p3.1 = 0 then
      some ((-1), p3.2)
    else
      (g112 X3 0 5 p3.2).bind fun p5 =>
      if p5.1 = 0 then
        some ((-1), p5.2)
      else
        (g112 X4 0 9999 p5.2).bind fun p7 =>
        if p7.1 = 0 then
          some ((-1), p7.2)
        else
          w_lt (gi p7.2 55 2) fun V9 =>
          if ¬ V9 = 300 then
            w_lt (gi p7.2 55 2) fun V11 =>
            w_chk ((0 : Int) ≤ V11 ∧ V11 < 300) <|
            w_lt (wi p7.2 61 V11 X1) fun S13 =>
            w_lt (gi S13 55 2) fun V14 =>
            w_chk ((0 : Int) ≤ V14 ∧ V14 < 300) <|
            w_lt (wi S13 62 V14 X2) fun S16 =>
            w_lt (gi S16 55 2) fun V17 =>
            w_chk ((0 : Int) ≤ V17 ∧ V17 < 300) <|
            w_lt (wi S16 63 V17 X3) fun S19 =>
            w_lt (gi S19 55 2) fun V20 =>
            w_chk ((0 : Int) ≤ V20 ∧ V20 < 300) <|
            w_lt (wi S19 64 V20 X4) fun S22 =>
            w_lt (gi S22 55 2) fun V23 =>
            w_lt (gi S22 55 0) fun V24 =>
            w_chk ((0 : Int) ≤ V23 ∧ V23 < 300) <|
            w_lt (wi S22 65 V23 V24) fun S26 =>
            w_lt (gi S26 55 2) fun V27 =>
            w_ckI (V27 + 1) fun V28 =>
            w_lt (wi S26 55 2 V28) fun S29 =>
            w_lt (gi S29 55 2) fun V30 =>
            w_ckI (V30 - 1) fun V31 =>
            some (V31, S29)
          else
            some ((-1), p7.2)
theorem g125_ok {x1 : Int32} {X1 : Int} {x2 : Int32} {X2 : Int} {x3 : Int32} {X3 : Int} {x4 : Int32} {X4 : Int} {S : gM} {M : vm_M} {r : Int × gM} (hR : Rel S M) (t1 : x1.toInt = X1) (t2 : x2.toInt = X2) (t3 : x3.toInt = X3) (t4 : x4.toInt = X4) (h : g125 X1 X2 X3 X4 S = some r) : Mp gRI (f125 55 x1 x2 x3 x4 M) r := by
  unfold g125 at h
  unfold f125
  refine k_ob (hR.obF (by decide) rfl) ?_
  obtain ⟨p1, e1, h⟩ := bind_so h
  refine k_call (g116_ok hR t1 e1) (fun b1 R1 => ?_)
  refine k_ite (c_eq R1.1 tI_0) h (fun c2 h => ?_) (fun c2 h => ?_)
  · exact k_retI R1.2 tI_m1 h
  · obtain ⟨p3, e3, h⟩ := bind_so h
    refine k_call (g115_ok R1.2 t2 e3) (fun b3 R3 => ?_)
    refine k_ite (c_eq R3.1 tI_0) h (fun c4 h => ?_) (fun c4 h => ?_)
    · exact k_retI R3.2 tI_m1 h
    · obtain ⟨p5, e5, h⟩ := bind_so h
      refine k_call (g112_ok R3.2 t3 tI_0 tI_5 e5) (fun b5 R5 => ?_)
      refine k_ite (c_eq R5.1 tI_0) h (fun c6 h => ?_) (fun c6 h => ?_)
      · exact k_retI R5.2 tI_m1 h
      · obtain ⟨p7, e7, h⟩ := bind_so h
        refine k_call (g112_ok R5.2 t4 tI_0 tI_9999 e7) (fun b7 R7 => ?_)
        refine k_ite (c_eq R7.1 tI_0) h (fun c8 h => ?_) (fun c8 h => ?_)
        · exact k_retI R7.2 tI_m1 h
        · obtain ⟨V9, e9, h⟩ := lt_so h
          refine k_gi R7.2 (R7.2.obF (by decide) rfl) rfl e9 (fun v9 z9 => ?_)
          refine k_ite (c_ne z9 tI_300) h (fun c10 h => ?_) (fun c10 h => ?_)
          · refine k_grF 62 R7.2 (R7.2.obF (by decide) rfl) rfl ?_
            obtain ⟨V11, e11, h⟩ := lt_so h
            refine k_gi R7.2 (R7.2.obF (by decide) rfl) rfl e11 (fun v11 z11 => ?_)
            refine k_some ?_
            obtain ⟨c12, h⟩ := chk_so h
            obtain ⟨S13, e13, h⟩ := lt_so h
            refine k_si R7.2 (R7.2.lnF (by decide) rfl) rfl z11 c12 t1 e13 (fun M13 R13 => ?_)
            refine k_grF 63 R13 (R13.obF (by decide) rfl) rfl ?_
            obtain ⟨V14, e14, h⟩ := lt_so h
            refine k_gi R13 (R13.obF (by decide) rfl) rfl e14 (fun v14 z14 => ?_)
            refine k_some ?_
            obtain ⟨c15, h⟩ := chk_so h
            obtain ⟨S16, e16, h⟩ := lt_so h
            refine k_si R13 (R13.lnF (by decide) rfl) rfl z14 c15 t2 e16 (fun M16 R16 => ?_)
            refine k_grF 64 R16 (R16.obF (by decide) rfl) rfl ?_
            obtain ⟨V17, e17, h⟩ := lt_so h
            refine k_gi R16 (R16.obF (by decide) rfl) rfl e17 (fun v17 z17 => ?_)
            refine k_some ?_
            obtain ⟨c18, h⟩ := chk_so h
            obtain ⟨S19, e19, h⟩ := lt_so h
            refine k_si R16 (R16.lnF (by decide) rfl) rfl z17 c18 t3 e19 (fun M19 R19 => ?_)
            refine k_grF 65 R19 (R19.obF (by decide) rfl) rfl ?_
            obtain ⟨V20, e20, h⟩ := lt_so h
            refine k_gi R19 (R19.obF (by decide) rfl) rfl e20 (fun v20 z20 => ?_)
            refine k_some ?_
            obtain ⟨c21, h⟩ := chk_so h
            obtain ⟨S22, e22, h⟩ := lt_so h
            refine k_si R19 (R19.lnF (by decide) rfl) rfl z20 c21 t4 e22 (fun M22 R22 => ?_)
            refine k_grF 66 R22 (R22.obF (by decide) rfl) rfl ?_
            obtain ⟨V23, e23, h⟩ := lt_so h
            refine k_gi R22 (R22.obF (by decide) rfl) rfl e23 (fun v23 z23 => ?_)
            obtain ⟨V24, e24, h⟩ := lt_so h
            refine k_gi R22 (R22.obF (by decide) rfl) rfl e24 (fun v24 z24 => ?_)
            refine k_some ?_
            obtain ⟨c25, h⟩ := chk_so h
            obtain ⟨S26, e26, h⟩ := lt_so h
            refine k_si R22 (R22.lnF (by decide) rfl) rfl z23 c25 z24 e26 (fun M26 R26 => ?_)
            obtain ⟨V27, e27, h⟩ := lt_so h
            refine k_gi R26 (R26.obF (by decide) rfl) rfl e27 (fun v27 z27 => ?_)
            obtain ⟨V28, e28, c28, h⟩ := ckI_so h
            obtain ⟨S29, e29, h⟩ := lt_so h
            refine k_pi R26 (R26.obF (by decide) rfl) rfl (t_add z27 tI_1 c28 e28) e29 (fun M29 R29 => ?_)
            obtain ⟨V30, e30, h⟩ := lt_so h
            refine k_gi R29 (R29.obF (by decide) rfl) rfl e30 (fun v30 z30 => ?_)
            obtain ⟨V31, e31, c31, h⟩ := ckI_so h
            exact k_retI R29 (t_sub z30 tI_1 c31 e31) h
          · exact k_retI R7.2 tI_m1 h
def g126_l6 (X1 : Int) (X2 : Int) (X3 : Int) (X4 : Int) : Nat → Int → Int → gM → Option (Int × gM)
  | 0 => fun _ _ _ => none
  | n + 1 => fun X5 X6 S =>
    w_lt (gi S 55 2) fun V1 =>
    if V1 ≤ X6 then
      some (X5, S)
    else
      w_chk ((0 : Int) ≤ X6 ∧ X6 < 300) <|
      w_lt (gi S 61 X6) fun V4 =>
      if ¬ V4 = X1 then
        w_ckI (X6 + 1) fun V6 =>
        g126_l6 X1 X2 X3 X4 n X5 V6 S
      else
        w_chk ((0 : Int) ≤ X6 ∧ X6 < 300) <|
        w_lt (gi S 62 X6) fun V8 =>
        if ¬ V8 = X2 then
          w_ckI (X6 + 1) fun V10 =>
          g126_l6 X1 X2 X3 X4 n X5 V10 S
        else
          w_chk ((0 : Int) ≤ X6 ∧ X6 < 300) <|
          w_lt (gi S 63 X6) fun V12 =>
          if ¬ V12 = X3 then
            w_ckI (X6 + 1) fun V14 =>
            g126_l6 X1 X2 X3 X4 n X5 V14 S
          else
            w_chk ((0 : Int) ≤ X6 ∧ X6 < 300) <|
            w_lt (gi S 65 X6) fun V16 =>
            if X4 < V16 then
              w_ckI (X6 + 1) fun V18 =>
              g126_l6 X1 X2 X3 X4 n X5 V18 S
            else
              w_chk ((0 : Int) ≤ X6 ∧ X6 < 300) <|
              w_lt (gi S 64 X6) fun V20 =>
              w_ckI (X6 + 1) fun V21 =>
              g126_l6 X1 X2 X3 X4 n V20 V21 S
theorem g126_l6_ok {x1 : Int32} {X1 : Int} {x2 : Int32} {X2 : Int} {x3 : Int32} {X3 : Int} {x4 : Int32} {X4 : Int} {r : Int × gM} (t1 : x1.toInt = X1) (t2 : x2.toInt = X2) (t3 : x3.toInt = X3) (t4 : x4.toInt = X4) : ∀ (n : Nat) (x5 : Int32) (X5 : Int) (x6 : Int32) (X6 : Int) (S : gM) (M : vm_M), Rel S M → x5.toInt = X5 → x6.toInt = X6 → g126_l6 X1 X2 X3 X4 n X5 X6 S = some r → Mp gRI (f126_l6 55 x1 x2 x3 x4 n x5 x6 M) r := by
  intro n
  induction n with
  | zero =>
    intro x5 X5 x6 X6 S M hR t5 t6 h
    cases h
  | succ n ih =>
    intro x5 X5 x6 X6 S M hR t5 t6 h
    dsimp only [g126_l6] at h
    dsimp only [f126_l6]
    obtain ⟨V1, e1, h⟩ := lt_so h
    refine k_gi hR (hR.obF (by decide) rfl) rfl e1 (fun v1 z1 => ?_)
    refine k_ite (c_le z1 t6) h (fun c2 h => ?_) (fun c2 h => ?_)
    · exact k_retI hR t5 h
    · refine k_grF 62 hR (hR.obF (by decide) rfl) rfl ?_
      refine k_some ?_
      obtain ⟨c3, h⟩ := chk_so h
      obtain ⟨V4, e4, h⟩ := lt_so h
      refine k_ai hR (hR.lnF (by decide) rfl) rfl t6 c3 e4 (fun v4 z4 => ?_)
      refine k_ite (c_ne z4 t1) h (fun c5 h => ?_) (fun c5 h => ?_)
      · obtain ⟨V6, e6, c6, h⟩ := ckI_so h
        exact ih _ _ _ _ _ _ hR t5 (t_add t6 tI_1 c6 e6) h
      · refine k_grF 63 hR (hR.obF (by decide) rfl) rfl ?_
        refine k_some ?_
        obtain ⟨c7, h⟩ := chk_so h
        obtain ⟨V8, e8, h⟩ := lt_so h
        refine k_ai hR (hR.lnF (by decide) rfl) rfl t6 c7 e8 (fun v8 z8 => ?_)
        refine k_ite (c_ne z8 t2) h (fun c9 h => ?_) (fun c9 h => ?_)
        · obtain ⟨V10, e10, c10, h⟩ := ckI_so h
          exact ih _ _ _ _ _ _ hR t5 (t_add t6 tI_1 c10 e10) h
        · refine k_grF 64 hR (hR.obF (by decide) rfl) rfl ?_
          refine k_some ?_
          obtain ⟨c11, h⟩ := chk_so h
          obtain ⟨V12, e12, h⟩ := lt_so h
          refine k_ai hR (hR.lnF (by decide) rfl) rfl t6 c11 e12 (fun v12 z12 => ?_)
          refine k_ite (c_ne z12 t3) h (fun c13 h => ?_) (fun c13 h => ?_)
          · obtain ⟨V14, e14, c14, h⟩ := ckI_so h
            exact ih _ _ _ _ _ _ hR t5 (t_add t6 tI_1 c14 e14) h
          · refine k_grF 66 hR (hR.obF (by decide) rfl) rfl ?_
            refine k_some ?_
            obtain ⟨c15, h⟩ := chk_so h
            obtain ⟨V16, e16, h⟩ := lt_so h
            refine k_ai hR (hR.lnF (by decide) rfl) rfl t6 c15 e16 (fun v16 z16 => ?_)
            refine k_ite (c_lt t4 z16) h (fun c17 h => ?_) (fun c17 h => ?_)
            · obtain ⟨V18, e18, c18, h⟩ := ckI_so h
              exact ih _ _ _ _ _ _ hR t5 (t_add t6 tI_1 c18 e18) h
            · refine k_grF 65 hR (hR.obF (by decide) rfl) rfl ?_
              refine k_some ?_
              obtain ⟨c19, h⟩ := chk_so h
              obtain ⟨V20, e20, h⟩ := lt_so h
              refine k_ai hR (hR.lnF (by decide) rfl) rfl t6 c19 e20 (fun v20 z20 => ?_)
              obtain ⟨V21, e21, c21, h⟩ := ckI_so h
              exact ih _ _ _ _ _ _ hR z20 (t_add t6 tI_1 c21 e21) h
/-- PupilCoinModel.own(IIII)I -/
def g126 (X1 : Int) (X2 : Int) (X3 : Int) (X4 : Int) (S : gM) : Option (Int × gM) :=
  g126_l6 X1 X2 X3 X4
  
    100000 (-1) 0 S
theorem g126_ok {x1 : Int32} {X1 : Int} {x2 : Int32} {X2 : Int} {x3 : Int32} {X3 : Int} {x4 : Int32} {X4 : Int} {S : gM} {M : vm_M} {r : Int × gM} (hR : Rel S M) (t1 : x1.toInt = X1) (t2 : x2.toInt = X2) (t3 : x3.toInt = X3) (t4 : x4.toInt = X4) (h : g126 X1 X2 X3 X4 S = some r) : Mp gRI (f126 55 x1 x2 x3 x4 M) r := by
  unfold g126 at h
  unfold f126
  refine g126_l6_ok t1 t2 t3 t4 100000 _ _ _ _ _ _ hR tI_m1 tI_0 h
/-- PupilCoinModel.marked(IIII)I -/
def g127 (X1 : Int) (X2 : Int) (X3 : Int) (X4 : Int) (S : gM) : Option (Int × gM) :=
  (g116 X1 S).bind fun p1 =>
  if p1.1 = 0 then
    some ((-1), p1.2)
  else
    (g115 X2 p1.2).bind fun p3 =>
    if p3.1 = 0 then
      some ((-1), p3.2)
    else
      (g112 X3 0 5 p3.2).bind fun p5 =>
      if p5.1 = 0 then
        some ((-1), p5.2)
      else
        (g114 X4 p5.2).bind fun p7 =>
        if p7.1 = 0 then
          some ((-1), p7.2)
        else
          (g126 X1 X2 X3 X4 p7.2).bind fun p9 =>
          some (p9.1, p9.2)
theorem g127_ok {x1 : Int32} {X1 : Int} {x2 : Int32} {X2 : Int} {x3 : Int32} {X3 : Int} {x4 : Int32} {X4 : Int} {S : gM} {M : vm_M} {r : Int × gM} (hR : Rel S M) (t1 : x1.toInt = X1) (t2 : x2.toInt = X2) (t3 : x3.toInt = X3) (t4 : x4.toInt = X4) (h : g127 X1 X2 X3 X4 S = some r) : Mp gRI (f127 55 x1 x2 x3 x4 M) r := by
  unfold g127 at h
  unfold f127
  refine k_ob (hR.obF (by decide) rfl) ?_
  obtain ⟨p1, e1, h⟩ := bind_so h
  refine k_call (g116_ok hR t1 e1) (fun b1 R1 => ?_)
  refine k_ite (c_eq R1.1 tI_0) h (fun c2 h => ?_) (fun c2 h => ?_)
  · exact k_retI R1.2 tI_m1 h
  · obtain ⟨p3, e3, h⟩ := bind_so h
    refine k_call (g115_ok R1.2 t2 e3) (fun b3 R3 => ?_)
    refine k_ite (c_eq R3.1 tI_0) h (fun c4 h => ?_) (fun c4 h => ?_)
    · exact k_retI R3.2 tI_m1 h
    · obtain ⟨p5, e5, h⟩ := bind_so h
      refine k_call (g112_ok R3.2 t3 tI_0 tI_5 e5) (fun b5 R5 => ?_)
      refine k_ite (c_eq R5.1 tI_0) h (fun c6 h => ?_) (fun c6 h => ?_)
      · exact k_retI R5.2 tI_m1 h
      · obtain ⟨p7, e7, h⟩ := bind_so h
        refine k_call (g114_ok R5.2 t4 e7) (fun b7 R7 => ?_)
        refine k_ite (c_eq R7.1 tI_0) h (fun c8 h => ?_) (fun c8 h => ?_)
        · exact k_retI R7.2 tI_m1 h
        · refine k_ob (R7.2.obF (by decide) rfl) ?_
          obtain ⟨p9, e9, h⟩ := bind_so h
          refine k_call (g126_ok R7.2 t1 t2 t3 t4 e9) (fun b9 R9 => ?_)
          exact k_retI R9.2 R9.1 h
/-- PupilCoinModel.isOpenOn(II)Z -/
def g128 (X1 : Int) (X2 : Int) (S : gM) : Option (Int × gM) :=
  (g116 X1 S).bind fun p1 =>
  if p1.1 = 0 then
    some (0, p1.2)
  else
    w_chk ((0 : Int) ≤ X1 ∧ X1 < 12) <|
    w_lt (gi p1.2 67 X1) fun V4 =>
    if ¬ V4 = 10 then
      some (0, p1.2)
    else
      (g115 X2 p1.2).bind fun p6 =>
      if p6.1 = 0 then
        some (0, p6.2)
      else
        some (1, p6.2)
theorem g128_ok {x1 : Int32} {X1 : Int} {x2 : Int32} {X2 : Int} {S : gM} {M : vm_M} {r : Int × gM} (hR : Rel S M) (t1 : x1.toInt = X1) (t2 : x2.toInt = X2) (h : g128 X1 X2 S = some r) : Mp gRI (f128 55 x1 x2 M) r := by
  unfold g128 at h
  unfold f128
  refine k_ob (hR.obF (by decide) rfl) ?_
  obtain ⟨p1, e1, h⟩ := bind_so h
  refine k_call (g116_ok hR t1 e1) (fun b1 R1 => ?_)
  refine k_ite (c_eq R1.1 tI_0) h (fun c2 h => ?_) (fun c2 h => ?_)
  · exact k_retZ R1.2 tI_0 (by decide) h
  · refine k_grF 68 R1.2 (R1.2.obF (by decide) rfl) rfl ?_
    refine k_some ?_
    obtain ⟨c3, h⟩ := chk_so h
    obtain ⟨V4, e4, h⟩ := lt_so h
    refine k_ai R1.2 (R1.2.lnF (by decide) rfl) rfl t1 c3 e4 (fun v4 z4 => ?_)
    refine k_ite (c_ne z4 tI_10) h (fun c5 h => ?_) (fun c5 h => ?_)
    · exact k_retZ R1.2 tI_0 (by decide) h
    · obtain ⟨p6, e6, h⟩ := bind_so h
      refine k_call (g115_ok R1.2 t2 e6) (fun b6 R6 => ?_)
      refine k_ite (c_eq R6.1 tI_0) h (fun c7 h => ?_) (fun c7 h => ?_)
      · exact k_retZ R6.2 tI_0 (by decide) h
      · exact k_retZ R6.2 tI_1 (by decide) h
/-- PupilCoinModel.join(III)I -/
def g129 (X1 : Int) (X2 : Int) (X3 : Int) (S : gM) : Option (Int × gM) :=
  (g128 X1 X3 S).bind fun p1 =>
  if p1.1 = 0 then
    some ((-1), p1.2)
  else
    (g128 X2 X3 p1.2).bind fun p3 =>
    if p3.1 = 0 then
      some ((-1), p3.2)
    else
      if X1 = X2 then
        some ((-1), p3.2)
      else
        (g118 p3.2).bind fun p6 =>
        if X3 ≤ p6.1 then
          some ((-1), p6.2)
        else
          w_lt (gi p6.2 55 3) fun V8 =>
          if ¬ V8 = 6 then
            w_chk ((0 : Int) ≤ X2 ∧ X2 < 12) <|
            w_lt (wi p6.2 66 X2 X1) fun S11 =>
            w_chk ((0 : Int) ≤ X2 ∧ X2 < 12) <|
            w_lt (wi S11 67 X2 X3) fun S13 =>
            w_lt (gi S13 55 3) fun V14 =>
            w_ckI (V14 + 1) fun V15 =>
            w_lt (wi S13 55 3 V15) fun S16 =>
            w_lt (gi S16 55 3) fun V17 =>
            some (V17, S16)
          else
            some ((-1), p6.2)
theorem g129_ok {x1 : Int32} {X1 : Int} {x2 : Int32} {X2 : Int} {x3 : Int32} {X3 : Int} {S : gM} {M : vm_M} {r : Int × gM} (hR : Rel S M) (t1 : x1.toInt = X1) (t2 : x2.toInt = X2) (t3 : x3.toInt = X3) (h : g129 X1 X2 X3 S = some r) : Mp gRI (f129 55 x1 x2 x3 M) r := by
  unfold g129 at h
  unfold f129
  refine k_ob (hR.obF (by decide) rfl) ?_
  obtain ⟨p1, e1, h⟩ := bind_so h
  refine k_call (g128_ok hR t1 t3 e1) (fun b1 R1 => ?_)
  refine k_ite (c_eq R1.1 tI_0) h (fun c2 h => ?_) (fun c2 h => ?_)
  · exact k_retI R1.2 tI_m1 h
  · refine k_ob (R1.2.obF (by decide) rfl) ?_
    obtain ⟨p3, e3, h⟩ := bind_so h
    refine k_call (g128_ok R1.2 t2 t3 e3) (fun b3 R3 => ?_)
    refine k_ite (c_eq R3.1 tI_0) h (fun c4 h => ?_) (fun c4 h => ?_)
    · exact k_retI R3.2 tI_m1 h
    · refine k_ite (c_eq t1 t2) h (fun c5 h => ?_) (fun c5 h => ?_)
      · exact k_retI R3.2 tI_m1 h
      · refine k_ob (R3.2.obF (by decide) rfl) ?_
        obtain ⟨p6, e6, h⟩ := bind_so h
        refine k_call (g118_ok R3.2 e6) (fun b6 R6 => ?_)
        refine k_ite (c_le t3 R6.1) h (fun c7 h => ?_) (fun c7 h => ?_)
        · exact k_retI R6.2 tI_m1 h
        · obtain ⟨V8, e8, h⟩ := lt_so h
          refine k_gi R6.2 (R6.2.obF (by decide) rfl) rfl e8 (fun v8 z8 => ?_)
          refine k_ite (c_ne z8 tI_6) h (fun c9 h => ?_) (fun c9 h => ?_)
          · refine k_grF 67 R6.2 (R6.2.obF (by decide) rfl) rfl ?_
            refine k_some ?_
            obtain ⟨c10, h⟩ := chk_so h
            obtain ⟨S11, e11, h⟩ := lt_so h
            refine k_si R6.2 (R6.2.lnF (by decide) rfl) rfl t2 c10 t1 e11 (fun M11 R11 => ?_)
            refine k_grF 68 R11 (R11.obF (by decide) rfl) rfl ?_
            refine k_some ?_
            obtain ⟨c12, h⟩ := chk_so h
            obtain ⟨S13, e13, h⟩ := lt_so h
            refine k_si R11 (R11.lnF (by decide) rfl) rfl t2 c12 t3 e13 (fun M13 R13 => ?_)
            obtain ⟨V14, e14, h⟩ := lt_so h
            refine k_gi R13 (R13.obF (by decide) rfl) rfl e14 (fun v14 z14 => ?_)
            obtain ⟨V15, e15, c15, h⟩ := ckI_so h
            obtain ⟨S16, e16, h⟩ := lt_so h
            refine k_pi R13 (R13.obF (by decide) rfl) rfl (t_add z14 tI_1 c15 e15) e16 (fun M16 R16 => ?_)
            obtain ⟨V17, e17, h⟩ := lt_so h
            refine k_gi R16 (R16.obF (by decide) rfl) rfl e17 (fun v17 z17 => ?_)
            exact k_retI R16 z17 h
          · exact k_retI R6.2 tI_m1 h
/-- PupilCoinModel.open(II)I -/
def g130 (X1 : Int) (X2 : Int) (S : gM) : Option (Int × gM) :=
  (g116 X1 S).bind fun p1 =>
  if p1.1 = 0 then
    some ((-1), p1.2)
  else
    (g115 X2 p1.2).bind fun p3 =>
    if p3.1 = 0 then
      some ((-1), p3.2)
    else
      (g122 X1 X2 p3.2).bind fun p5 =>
      (g113 p5.1 p5.2).bind fun p6 =>
      some (p6.1, p6.2)
theorem g130_ok {x1 : Int32} {X1 : Int} {x2 : Int32} {X2 : Int} {S : gM} {M : vm_M} {r : Int × gM} (hR : Rel S M) (t1 : x1.toInt = X1) (t2 : x2.toInt = X2) (h : g130 X1 X2 S = some r) : Mp gRI (f130 55 x1 x2 M) r := by
  unfold g130 at h
  unfold f130
  refine k_ob (hR.obF (by decide) rfl) ?_
  obtain ⟨p1, e1, h⟩ := bind_so h
  refine k_call (g116_ok hR t1 e1) (fun b1 R1 => ?_)
  refine k_ite (c_eq R1.1 tI_0) h (fun c2 h => ?_) (fun c2 h => ?_)
  · exact k_retI R1.2 tI_m1 h
  · obtain ⟨p3, e3, h⟩ := bind_so h
    refine k_call (g115_ok R1.2 t2 e3) (fun b3 R3 => ?_)
    refine k_ite (c_eq R3.1 tI_0) h (fun c4 h => ?_) (fun c4 h => ?_)
    · exact k_retI R3.2 tI_m1 h
    · refine k_ob (R3.2.obF (by decide) rfl) ?_
      obtain ⟨p5, e5, h⟩ := bind_so h
      refine k_call (g122_ok R3.2 t1 t2 e5) (fun b5 R5 => ?_)
      obtain ⟨p6, e6, h⟩ := bind_so h
      refine k_call (g113_ok R5.2 R5.1 e6) (fun b6 R6 => ?_)
      exact k_retI R6.2 R6.1 h
def g131_l3 (X2 : Int) (X3 : Int) (K32 : Int → gM → Option (Int × gM)) : Nat → Int → gM → Option (Int × gM)
  | 0 => fun _ _ => none
  | n + 1 => fun X4 S =>
    if X4 = X2 then
      K32 X4 S
    else
      w_chk ((0 : Int) ≤ X4 ∧ X4 < 12) <|
      w_lt (gi S 67 X4) fun V3 =>
      if X3 < V3 then
        K32 X4 S
      else
        w_chk ((0 : Int) ≤ X4 ∧ X4 < 12) <|
        w_lt (gi S 66 X4) fun V6 =>
        g131_l3 X2 X3 K32 n V6 S
theorem g131_l3_ok {x2 : Int32} {X2 : Int} {x3 : Int32} {X3 : Int} {k32 : Int32 → vm_M → Option (Int32 × vm_M)} {K32 : Int → gM → Option (Int × gM)} {r : Int × gM} (hk32 : ∀ (y4 : Int32) (Y4 : Int) (S : gM) (M : vm_M), Rel S M → y4.toInt = Y4 → K32 Y4 S = some r → Mp gRI (k32 y4 M) r) (t2 : x2.toInt = X2) (t3 : x3.toInt = X3) : ∀ (n : Nat) (x4 : Int32) (X4 : Int) (S : gM) (M : vm_M), Rel S M → x4.toInt = X4 → g131_l3 X2 X3 K32 n X4 S = some r → Mp gRI (f131_l3 55 x2 x3 k32 n x4 M) r := by
  intro n
  induction n with
  | zero =>
    intro x4 X4 S M hR t4 h
    cases h
  | succ n ih =>
    intro x4 X4 S M hR t4 h
    dsimp only [g131_l3] at h
    dsimp only [f131_l3]
    refine k_ite (c_eq t4 t2) h (fun c1 h => ?_) (fun c1 h => ?_)
    · exact hk32 _ _ _ _ hR t4 h
    · refine k_grF 68 hR (hR.obF (by decide) rfl) rfl ?_
      refine k_some ?_
      obtain ⟨c2, h⟩ := chk_so h
      obtain ⟨V3, e3, h⟩ := lt_so h
      refine k_ai hR (hR.lnF (by decide) rfl) rfl t4 c2 e3 (fun v3 z3 => ?_)
      refine k_ite (c_lt t3 z3) h (fun c4 h => ?_) (fun c4 h => ?_)
      · exact hk32 _ _ _ _ hR t4 h
      · refine k_grF 67 hR (hR.obF (by decide) rfl) rfl ?_
        refine k_some ?_
        obtain ⟨c5, h⟩ := chk_so h
        obtain ⟨V6, e6, h⟩ := lt_so h
        refine k_ai hR (hR.lnF (by decide) rfl) rfl t4 c5 e6 (fun v6 z6 => ?_)
        exact ih _ _ _ _ hR z6 h
def g131_j32 (X2 : Int) (X4 : Int) (S : gM) : Option (Int × gM) :=
  if ¬ X4 = X2 then
    some (0, S)
  else
    some (1, S)
theorem g131_j32_ok {x2 : Int32} {X2 : Int} {x4 : Int32} {X4 : Int} {S : gM} {M : vm_M} {r : Int × gM} (hR : Rel S M) (t2 : x2.toInt = X2) (t4 : x4.toInt = X4) (h : g131_j32 X2 X4 S = some r) : Mp gRI (f131_j32 x2 x4 M) r := by
  unfold g131_j32 at h
  unfold f131_j32
  refine k_ite (c_ne t4 t2) h (fun c9 h => ?_) (fun c9 h => ?_)
  · exact k_retZ hR tI_0 (by decide) h
  · exact k_retZ hR tI_1 (by decide) h
/-- PupilCoinModel.isOf(III)Z -/
def g131 (X1 : Int) (X2 : Int) (X3 : Int) (S : gM) : Option (Int × gM) :=
  g131_l3 X2 X3
    (fun Y7 S8 =>
      g131_j32 X2 Y7 S8)
    100000 X1 S
theorem g131_ok {x1 : Int32} {X1 : Int} {x2 : Int32} {X2 : Int} {x3 : Int32} {X3 : Int} {S : gM} {M : vm_M} {r : Int × gM} (hR : Rel S M) (t1 : x1.toInt = X1) (t2 : x2.toInt = X2) (t3 : x3.toInt = X3) (h : g131 X1 X2 X3 S = some r) : Mp gRI (f131 55 x1 x2 x3 M) r := by
  unfold g131 at h
  unfold f131
  refine g131_l3_ok ?_ t2 t3 100000 _ _ _ _ hR t1 h
  · intro y7 Y7 S8 M8 R8 u7
    intro h
    exact g131_j32_ok R8 t2 u7 h
def g132_l6 (X1 : Int) (X2 : Int) (X3 : Int) (X4 : Int) (X5 : Int) : Nat → Int → Int → gM → Option (Int × gM)
  | 0 => fun _ _ _ => none
  | n + 1 => fun X6 X7 S =>
    w_lt (gi S 55 1) fun V1 =>
    if V1 ≤ X7 then
      some (X6, S)
    else
      (g131 X7 X1 X2 S).bind fun p3 =>
      if p3.1 = 0 then
        w_ckI (X7 + 1) fun V5 =>
        g132_l6 X1 X2 X3 X4 X5 n X6 V5 p3.2
      else
        (g126 X7 X3 X4 X5 p3.2).bind fun p6 =>
        w_lt (max 0 p6.1) fun V7 =>
        w_ckI (X6 + V7) fun V8 =>
        w_ckI (X7 + 1) fun V9 =>
        g132_l6 X1 X2 X3 X4 X5 n V8 V9 p6.2
theorem g132_l6_ok {x1 : Int32} {X1 : Int} {x2 : Int32} {X2 : Int} {x3 : Int32} {X3 : Int} {x4 : Int32} {X4 : Int} {x5 : Int32} {X5 : Int} {r : Int × gM} (t1 : x1.toInt = X1) (t2 : x2.toInt = X2) (t3 : x3.toInt = X3) (t4 : x4.toInt = X4) (t5 : x5.toInt = X5) : ∀ (n : Nat) (x6 : Int32) (X6 : Int) (x7 : Int32) (X7 : Int) (S : gM) (M : vm_M), Rel S M → x6.toInt = X6 → x7.toInt = X7 → g132_l6 X1 X2 X3 X4 X5 n X6 X7 S = some r → Mp gRI (f132_l6 55 x1 x2 x3 x4 x5 n x6 x7 M) r := by
  intro n
  induction n with
  | zero =>
    intro x6 X6 x7 X7 S M hR t6 t7 h
    cases h
  | succ n ih =>
    intro x6 X6 x7 X7 S M hR t6 t7 h
    dsimp only [g132_l6] at h
    dsimp only [f132_l6]
    obtain ⟨V1, e1, h⟩ := lt_so h
    refine k_gi hR (hR.obF (by decide) rfl) rfl e1 (fun v1 z1 => ?_)
    refine k_ite (c_le z1 t7) h (fun c2 h => ?_) (fun c2 h => ?_)
    · exact k_retI hR t6 h
    · refine k_ob (hR.obF (by decide) rfl) ?_
      obtain ⟨p3, e3, h⟩ := bind_so h
      refine k_call (g131_ok hR t7 t1 t2 e3) (fun b3 R3 => ?_)
      refine k_ite (c_eq R3.1 tI_0) h (fun c4 h => ?_) (fun c4 h => ?_)
      · obtain ⟨V5, e5, c5, h⟩ := ckI_so h
        exact ih _ _ _ _ _ _ R3.2 t6 (t_add t7 tI_1 c5 e5) h
      · refine k_ob (R3.2.obF (by decide) rfl) ?_
        obtain ⟨p6, e6, h⟩ := bind_so h
        refine k_call (g126_ok R3.2 t7 t3 t4 t5 e6) (fun b6 R6 => ?_)
        obtain ⟨V7, e7, h⟩ := lt_so h
        obtain ⟨V8, e8, c8, h⟩ := ckI_so h
        obtain ⟨V9, e9, c9, h⟩ := ckI_so h
        exact ih _ _ _ _ _ _ R6.2 (t_add t6 (t_mxI tI_0 R6.1 e7) c8 e8) (t_add t7 tI_1 c9 e9) h
/-- PupilCoinModel.markBy(IIIII)I -/
def g132 (X1 : Int) (X2 : Int) (X3 : Int) (X4 : Int) (X5 : Int) (S : gM) : Option (Int × gM) :=
  g132_l6 X1 X2 X3 X4 X5
  
    100000 0 0 S
theorem g132_ok {x1 : Int32} {X1 : Int} {x2 : Int32} {X2 : Int} {x3 : Int32} {X3 : Int} {x4 : Int32} {X4 : Int} {x5 : Int32} {X5 : Int} {S : gM} {M : vm_M} {r : Int × gM} (hR : Rel S M) (t1 : x1.toInt = X1) (t2 : x2.toInt = X2) (t3 : x3.toInt = X3) (t4 : x4.toInt = X4) (t5 : x5.toInt = X5) (h : g132 X1 X2 X3 X4 X5 S = some r) : Mp gRI (f132 55 x1 x2 x3 x4 x5 M) r := by
  unfold g132 at h
  unfold f132
  refine g132_l6_ok t1 t2 t3 t4 t5 100000 _ _ _ _ _ _ hR tI_0 tI_0 h
/-- PupilCoinModel.headsBy(IIII)I -/
def g133 (X1 : Int) (X2 : Int) (X3 : Int) (X4 : Int) (S : gM) : Option (Int × gM) :=
  (g132 X1 X2 X3 0 X4 S).bind fun p1 =>
  (g132 X1 X2 X3 1 X4 p1.2).bind fun p2 =>
  w_ckI (p1.1 + p2.1) fun V3 =>
  (g132 X1 X2 X3 2 X4 p2.2).bind fun p4 =>
  w_ckI (V3 + p4.1) fun V5 =>
  some (V5, p4.2)
theorem g133_ok {x1 : Int32} {X1 : Int} {x2 : Int32} {X2 : Int} {x3 : Int32} {X3 : Int} {x4 : Int32} {X4 : Int} {S : gM} {M : vm_M} {r : Int × gM} (hR : Rel S M) (t1 : x1.toInt = X1) (t2 : x2.toInt = X2) (t3 : x3.toInt = X3) (t4 : x4.toInt = X4) (h : g133 X1 X2 X3 X4 S = some r) : Mp gRI (f133 55 x1 x2 x3 x4 M) r := by
  unfold g133 at h
  unfold f133
  refine k_ob (hR.obF (by decide) rfl) ?_
  obtain ⟨p1, e1, h⟩ := bind_so h
  refine k_call (g132_ok hR t1 t2 t3 tI_0 t4 e1) (fun b1 R1 => ?_)
  refine k_ob (R1.2.obF (by decide) rfl) ?_
  obtain ⟨p2, e2, h⟩ := bind_so h
  refine k_call (g132_ok R1.2 t1 t2 t3 tI_1 t4 e2) (fun b2 R2 => ?_)
  obtain ⟨V3, e3, c3, h⟩ := ckI_so h
  refine k_ob (R2.2.obF (by decide) rfl) ?_
  obtain ⟨p4, e4, h⟩ := bind_so h
  refine k_call (g132_ok R2.2 t1 t2 t3 tI_2 t4 e4) (fun b4 R4 => ?_)
  obtain ⟨V5, e5, c5, h⟩ := ckI_so h
  exact k_retI R4.2 (t_add (t_add R1.1 R2.1 c3 e3) R4.1 c5 e5) h
def g135_l3 (X1 : Int) : Nat → Int → gM → Option (gM)
  | 0 => fun _ _ => none
  | n + 1 => fun X2 S =>
    if X2 < 0 then
      some S
    else
      w_lt (gi S 55 19) fun V2 =>
      w_lt (b_shr X1 X2) fun V3 =>
      w_lt (b_byte V3) fun V4 =>
      w_chk ((0 : Int) ≤ V2 ∧ V2 < 700) <|
      w_lt (wi S 83 V2 (b_byte V4)) fun S6 =>
      w_lt (gi S6 55 19) fun V7 =>
      w_ckI (V7 + 1) fun V8 =>
      w_lt (wi S6 55 19 V8) fun S9 =>
      w_ckI (X2 + (-8)) fun V10 =>
      g135_l3 X1 n V10 S9
theorem g135_l3_ok {x1 : Int32} {X1 : Int} {r : gM} (t1 : x1.toInt = X1) : ∀ (n : Nat) (x2 : Int32) (X2 : Int) (S : gM) (M : vm_M), Rel S M → x2.toInt = X2 → g135_l3 X1 n X2 S = some r → Mp gRV (f135_l3 55 x1 n x2 M) r := by
  intro n
  induction n with
  | zero =>
    intro x2 X2 S M hR t2 h
    cases h
  | succ n ih =>
    intro x2 X2 S M hR t2 h
    dsimp only [g135_l3] at h
    dsimp only [f135_l3]
    refine k_ite (c_lt t2 tI_0) h (fun c1 h => ?_) (fun c1 h => ?_)
    · exact k_retV hR h
    · refine k_grF 84 hR (hR.obF (by decide) rfl) rfl ?_
      obtain ⟨V2, e2, h⟩ := lt_so h
      refine k_gi hR (hR.obF (by decide) rfl) rfl e2 (fun v2 z2 => ?_)
      obtain ⟨V3, e3, h⟩ := lt_so h
      obtain ⟨V4, e4, h⟩ := lt_so h
      refine k_some ?_
      obtain ⟨c5, h⟩ := chk_so h
      obtain ⟨S6, e6, h⟩ := lt_so h
      refine k_sb hR (hR.lnF (by decide) rfl) rfl z2 c5 (t_byte (t_shr t1 t2 e3) e4) e6 (fun M6 R6 => ?_)
      obtain ⟨V7, e7, h⟩ := lt_so h
      refine k_gi R6 (R6.obF (by decide) rfl) rfl e7 (fun v7 z7 => ?_)
      obtain ⟨V8, e8, c8, h⟩ := ckI_so h
      obtain ⟨S9, e9, h⟩ := lt_so h
      refine k_pi R6 (R6.obF (by decide) rfl) rfl (t_add z7 tI_1 c8 e8) e9 (fun M9 R9 => ?_)
      obtain ⟨V10, e10, c10, h⟩ := ckI_so h
      exact ih _ _ _ _ R9 (t_add t2 tI_m8 c10 e10) h
/-- PupilCoinModel.four(I)V -/
def g135 (X1 : Int) (S : gM) : Option (gM) :=
  g135_l3 X1
  
    100000 24 S
theorem g135_ok {x1 : Int32} {X1 : Int} {S : gM} {M : vm_M} {r : gM} (hR : Rel S M) (t1 : x1.toInt = X1) (h : g135 X1 S = some r) : Mp gRV (f135 55 x1 M) r := by
  unfold g135 at h
  unfold f135
  refine g135_l3_ok t1 100000 _ _ _ _ hR tI_24 h
/-- PupilCoinModel.feed(IIIII)I -/
def g134 (X1 : Int) (X2 : Int) (X3 : Int) (X4 : Int) (X5 : Int) (S : gM) : Option (Int × gM) :=
  w_lt (gi S 55 19) fun V1 =>
  w_ckI (V1 + 20) fun V2 =>
  if V2 ≤ 700 then
    (g135 X1 S).bind fun p4 =>
    (g135 X2 p4).bind fun p5 =>
    (g135 X3 p5).bind fun p6 =>
    (g135 X4 p6).bind fun p7 =>
    (g135 X5 p7).bind fun p8 =>
    w_lt (gi p8 55 19) fun V9 =>
    some (V9, p8)
  else
    some ((-1), S)
theorem g134_ok {x1 : Int32} {X1 : Int} {x2 : Int32} {X2 : Int} {x3 : Int32} {X3 : Int} {x4 : Int32} {X4 : Int} {x5 : Int32} {X5 : Int} {S : gM} {M : vm_M} {r : Int × gM} (hR : Rel S M) (t1 : x1.toInt = X1) (t2 : x2.toInt = X2) (t3 : x3.toInt = X3) (t4 : x4.toInt = X4) (t5 : x5.toInt = X5) (h : g134 X1 X2 X3 X4 X5 S = some r) : Mp gRI (f134 55 x1 x2 x3 x4 x5 M) r := by
  unfold g134 at h
  unfold f134
  obtain ⟨V1, e1, h⟩ := lt_so h
  refine k_gi hR (hR.obF (by decide) rfl) rfl e1 (fun v1 z1 => ?_)
  obtain ⟨V2, e2, c2, h⟩ := ckI_so h
  refine k_ite (c_le (t_add z1 tI_20 c2 e2) tI_700) h (fun c3 h => ?_) (fun c3 h => ?_)
  · refine k_ob (hR.obF (by decide) rfl) ?_
    obtain ⟨p4, e4, h⟩ := bind_so h
    refine k_call (g135_ok hR t1 e4) (fun M4 R4 => ?_)
    refine k_ob (R4.obF (by decide) rfl) ?_
    obtain ⟨p5, e5, h⟩ := bind_so h
    refine k_call (g135_ok R4 t2 e5) (fun M5 R5 => ?_)
    refine k_ob (R5.obF (by decide) rfl) ?_
    obtain ⟨p6, e6, h⟩ := bind_so h
    refine k_call (g135_ok R5 t3 e6) (fun M6 R6 => ?_)
    refine k_ob (R6.obF (by decide) rfl) ?_
    obtain ⟨p7, e7, h⟩ := bind_so h
    refine k_call (g135_ok R6 t4 e7) (fun M7 R7 => ?_)
    refine k_ob (R7.obF (by decide) rfl) ?_
    obtain ⟨p8, e8, h⟩ := bind_so h
    refine k_call (g135_ok R7 t5 e8) (fun M8 R8 => ?_)
    obtain ⟨V9, e9, h⟩ := lt_so h
    refine k_gi R8 (R8.obF (by decide) rfl) rfl e9 (fun v9 z9 => ?_)
    exact k_retI R8 z9 h
  · exact k_retI hR tI_m1 h
def g136_l0 : Nat → gM → Option (gM)
  | 0 => fun _ => none
  | n + 1 => fun S =>
    w_lt (gi S 55 21) fun V1 =>
    w_lt (gi S 55 20) fun V2 =>
    if V2 ≤ V1 then
      some S
    else
      w_lt (gi S 55 21) fun V4 =>
      w_chk ((0 : Int) ≤ V4 ∧ V4 < 700) <|
      w_lt (gi S 84 V4) fun V6 =>
      if V6 = 32 then
        w_lt (gi S 55 21) fun V8 =>
        w_ckI (V8 + 1) fun V9 =>
        w_lt (wi S 55 21 V9) fun S10 =>
        g136_l0 n S10
      else
        w_lt (gi S 55 21) fun V11 =>
        w_chk ((0 : Int) ≤ V11 ∧ V11 < 700) <|
        w_lt (gi S 84 V11) fun V13 =>
        if ¬ V13 = 10 then
          some S
        else
          w_lt (gi S 55 21) fun V15 =>
          w_ckI (V15 + 1) fun V16 =>
          w_lt (wi S 55 21 V16) fun S17 =>
          g136_l0 n S17
theorem g136_l0_ok {r : gM} : ∀ (n : Nat) (S : gM) (M : vm_M), Rel S M → g136_l0 n S = some r → Mp gRV (f136_l0 55 n M) r := by
  intro n
  induction n with
  | zero =>
    intro S M hR h
    cases h
  | succ n ih =>
    intro S M hR h
    dsimp only [g136_l0] at h
    dsimp only [f136_l0]
    obtain ⟨V1, e1, h⟩ := lt_so h
    refine k_gi hR (hR.obF (by decide) rfl) rfl e1 (fun v1 z1 => ?_)
    obtain ⟨V2, e2, h⟩ := lt_so h
    refine k_gi hR (hR.obF (by decide) rfl) rfl e2 (fun v2 z2 => ?_)
    refine k_ite (c_le z2 z1) h (fun c3 h => ?_) (fun c3 h => ?_)
    · exact k_retV hR h
    · refine k_grF 85 hR (hR.obF (by decide) rfl) rfl ?_
      obtain ⟨V4, e4, h⟩ := lt_so h
      refine k_gi hR (hR.obF (by decide) rfl) rfl e4 (fun v4 z4 => ?_)
      refine k_some ?_
      obtain ⟨c5, h⟩ := chk_so h
      obtain ⟨V6, e6, h⟩ := lt_so h
      refine k_ai hR (hR.lnF (by decide) rfl) rfl z4 c5 e6 (fun v6 z6 => ?_)
      refine k_ite (c_eq z6 tI_32) h (fun c7 h => ?_) (fun c7 h => ?_)
      · obtain ⟨V8, e8, h⟩ := lt_so h
        refine k_gi hR (hR.obF (by decide) rfl) rfl e8 (fun v8 z8 => ?_)
        obtain ⟨V9, e9, c9, h⟩ := ckI_so h
        obtain ⟨S10, e10, h⟩ := lt_so h
        refine k_pi hR (hR.obF (by decide) rfl) rfl (t_add z8 tI_1 c9 e9) e10 (fun M10 R10 => ?_)
        exact ih _ _ R10 h
      · refine k_grF 85 hR (hR.obF (by decide) rfl) rfl ?_
        obtain ⟨V11, e11, h⟩ := lt_so h
        refine k_gi hR (hR.obF (by decide) rfl) rfl e11 (fun v11 z11 => ?_)
        refine k_some ?_
        obtain ⟨c12, h⟩ := chk_so h
        obtain ⟨V13, e13, h⟩ := lt_so h
        refine k_ai hR (hR.lnF (by decide) rfl) rfl z11 c12 e13 (fun v13 z13 => ?_)
        refine k_ite (c_ne z13 tI_10) h (fun c14 h => ?_) (fun c14 h => ?_)
        · exact k_retV hR h
        · obtain ⟨V15, e15, h⟩ := lt_so h
          refine k_gi hR (hR.obF (by decide) rfl) rfl e15 (fun v15 z15 => ?_)
          obtain ⟨V16, e16, c16, h⟩ := ckI_so h
          obtain ⟨S17, e17, h⟩ := lt_so h
          refine k_pi hR (hR.obF (by decide) rfl) rfl (t_add z15 tI_1 c16 e16) e17 (fun M17 R17 => ?_)
          exact ih _ _ R17 h
/-- PupilCoinModel.blanks()V -/
def g136 (S : gM) : Option (gM) :=
  g136_l0
  
    100000 S
theorem g136_ok {S : gM} {M : vm_M} {r : gM} (hR : Rel S M) (h : g136 S = some r) : Mp gRV (f136 55 M) r := by
  unfold g136 at h
  unfold f136
  refine g136_l0_ok 100000 _ _ hR h
def g137_j86 (K100 : Int → gM → Option (Int × gM)) (K14 : Int → gM → Option (Int × gM)) (Xs0 : Int) (S : gM) : Option (Int × gM) :=
  w_lt (gi S 55 42) fun V19 =>
  w_ckI (V19 + 1) fun V20 =>
  w_lt (wi S 55 42 V20) fun S21 =>
  K14 Xs0 S21
theorem g137_j86_ok {k100 : Int64 → vm_M → Option (Int64 × vm_M)} {K100 : Int → gM → Option (Int × gM)} {k14 : Int64 → vm_M → Option (Int64 × vm_M)} {K14 : Int → gM → Option (Int × gM)} {xs0 : Int64} {Xs0 : Int} {S : gM} {M : vm_M} {r : Int × gM} (hk100 : ∀ (y1 : Int64) (Y1 : Int) (S : gM) (M : vm_M), Rel S M → y1.toInt = Y1 → K100 Y1 S = some r → Mp gRJ (k100 y1 M) r) (hk14 : ∀ (y1 : Int64) (Y1 : Int) (S : gM) (M : vm_M), Rel S M → y1.toInt = Y1 → K14 Y1 S = some r → Mp gRJ (k14 y1 M) r) (hR : Rel S M) (ts0 : xs0.toInt = Xs0) (h : g137_j86 K100 K14 Xs0 S = some r) : Mp gRJ (f137_j86 k100 k14 55 xs0 M) r := by
  unfold g137_j86 at h
  unfold f137_j86
  obtain ⟨V19, e19, h⟩ := lt_so h
  refine k_gi hR (hR.obF (by decide) rfl) rfl e19 (fun v19 z19 => ?_)
  obtain ⟨V20, e20, c20, h⟩ := ckI_so h
  obtain ⟨S21, e21, h⟩ := lt_so h
  refine k_pi hR (hR.obF (by decide) rfl) rfl (t_add z19 tI_1 c20 e20) e21 (fun M21 R21 => ?_)
  exact hk14 _ _ _ _ R21 ts0 h
def g137_l14 (K100 : Int → gM → Option (Int × gM)) : Nat → Int → gM → Option (Int × gM)
  | 0 => fun _ _ => none
  | n + 1 => fun X1 S =>
    w_lt (gi S 55 42) fun V4 =>
    w_lt (gi S 55 20) fun V5 =>
    if V5 ≤ V4 then
      K100 X1 S
    else
      w_lt (gi S 55 42) fun V7 =>
      w_chk ((0 : Int) ≤ V7 ∧ V7 < 700) <|
      w_lt (gi S 84 V7) fun V9 =>
      if V9 < 97 then
        K100 X1 S
      else
        w_lt (gi S 55 42) fun V11 =>
        w_chk ((0 : Int) ≤ V11 ∧ V11 < 700) <|
        w_lt (gi S 84 V11) fun V13 =>
        if 122 < V13 then
          K100 X1 S
        else
          w_lt (gi S 55 42) fun V15 =>
          w_lt (gi S 55 21) fun V16 =>
          w_ckI (V15 - V16) fun V17 =>
          if 8 ≤ V17 then
            g137_j86 K100 (g137_l14 K100 n) 0 S
          else
            w_lt (B_shl X1 8) fun V22 =>
            w_lt (gi S 55 42) fun V23 =>
            w_chk ((0 : Int) ≤ V23 ∧ V23 < 700) <|
            w_lt (gi S 84 V23) fun V25 =>
            w_lt (B_or V22 V25) fun V26 =>
            g137_j86 K100 (g137_l14 K100 n) V26 S
theorem g137_l14_ok {k100 : Int64 → vm_M → Option (Int64 × vm_M)} {K100 : Int → gM → Option (Int × gM)} {r : Int × gM} (hk100 : ∀ (y1 : Int64) (Y1 : Int) (S : gM) (M : vm_M), Rel S M → y1.toInt = Y1 → K100 Y1 S = some r → Mp gRJ (k100 y1 M) r) : ∀ (n : Nat) (x1 : Int64) (X1 : Int) (S : gM) (M : vm_M), Rel S M → x1.toInt = X1 → g137_l14 K100 n X1 S = some r → Mp gRJ (f137_l14 55 k100 n x1 M) r := by
  intro n
  induction n with
  | zero =>
    intro x1 X1 S M hR t1 h
    cases h
  | succ n ih =>
    intro x1 X1 S M hR t1 h
    dsimp only [g137_l14] at h
    dsimp only [f137_l14]
    obtain ⟨V4, e4, h⟩ := lt_so h
    refine k_gi hR (hR.obF (by decide) rfl) rfl e4 (fun v4 z4 => ?_)
    obtain ⟨V5, e5, h⟩ := lt_so h
    refine k_gi hR (hR.obF (by decide) rfl) rfl e5 (fun v5 z5 => ?_)
    refine k_ite (c_le z5 z4) h (fun c6 h => ?_) (fun c6 h => ?_)
    · exact hk100 _ _ _ _ hR t1 h
    · refine k_grF 85 hR (hR.obF (by decide) rfl) rfl ?_
      obtain ⟨V7, e7, h⟩ := lt_so h
      refine k_gi hR (hR.obF (by decide) rfl) rfl e7 (fun v7 z7 => ?_)
      refine k_some ?_
      obtain ⟨c8, h⟩ := chk_so h
      obtain ⟨V9, e9, h⟩ := lt_so h
      refine k_ai hR (hR.lnF (by decide) rfl) rfl z7 c8 e9 (fun v9 z9 => ?_)
      refine k_ite (c_lt z9 tI_97) h (fun c10 h => ?_) (fun c10 h => ?_)
      · exact hk100 _ _ _ _ hR t1 h
      · refine k_grF 85 hR (hR.obF (by decide) rfl) rfl ?_
        obtain ⟨V11, e11, h⟩ := lt_so h
        refine k_gi hR (hR.obF (by decide) rfl) rfl e11 (fun v11 z11 => ?_)
        refine k_some ?_
        obtain ⟨c12, h⟩ := chk_so h
        obtain ⟨V13, e13, h⟩ := lt_so h
        refine k_ai hR (hR.lnF (by decide) rfl) rfl z11 c12 e13 (fun v13 z13 => ?_)
        refine k_ite (c_lt tI_122 z13) h (fun c14 h => ?_) (fun c14 h => ?_)
        · exact hk100 _ _ _ _ hR t1 h
        · obtain ⟨V15, e15, h⟩ := lt_so h
          refine k_gi hR (hR.obF (by decide) rfl) rfl e15 (fun v15 z15 => ?_)
          obtain ⟨V16, e16, h⟩ := lt_so h
          refine k_gi hR (hR.obF (by decide) rfl) rfl e16 (fun v16 z16 => ?_)
          obtain ⟨V17, e17, c17, h⟩ := ckI_so h
          refine k_ite (c_le tI_8 (t_sub z15 z16 c17 e17)) h (fun c18 h => ?_) (fun c18 h => ?_)
          · exact g137_j86_ok hk100 ih hR tJ_0 h
          · obtain ⟨V22, e22, h⟩ := lt_so h
            refine k_grF 85 hR (hR.obF (by decide) rfl) rfl ?_
            obtain ⟨V23, e23, h⟩ := lt_so h
            refine k_gi hR (hR.obF (by decide) rfl) rfl e23 (fun v23 z23 => ?_)
            refine k_some ?_
            obtain ⟨c24, h⟩ := chk_so h
            obtain ⟨V25, e25, h⟩ := lt_so h
            refine k_ai hR (hR.lnF (by decide) rfl) rfl z23 c24 e25 (fun v25 z25 => ?_)
            obtain ⟨V26, e26, h⟩ := lt_so h
            exact g137_j86_ok hk100 ih hR (tJ_or (tJ_shlN_8 t1 e22) (t_itol z25) e26) h
def g137_j100 (X1 : Int) (S : gM) : Option (Int × gM) :=
  w_lt (gi S 55 42) fun V29 =>
  w_lt (gi S 55 21) fun V30 =>
  w_ckI (V29 - V30) fun V31 =>
  if V31 ≤ 8 then
    some (X1, S)
  else
    some (0, S)
theorem g137_j100_ok {x1 : Int64} {X1 : Int} {S : gM} {M : vm_M} {r : Int × gM} (hR : Rel S M) (t1 : x1.toInt = X1) (h : g137_j100 X1 S = some r) : Mp gRJ (f137_j100 55 x1 M) r := by
  unfold g137_j100 at h
  unfold f137_j100
  obtain ⟨V29, e29, h⟩ := lt_so h
  refine k_gi hR (hR.obF (by decide) rfl) rfl e29 (fun v29 z29 => ?_)
  obtain ⟨V30, e30, h⟩ := lt_so h
  refine k_gi hR (hR.obF (by decide) rfl) rfl e30 (fun v30 z30 => ?_)
  obtain ⟨V31, e31, c31, h⟩ := ckI_so h
  refine k_ite (c_le (t_sub z29 z30 c31 e31) tI_8) h (fun c32 h => ?_) (fun c32 h => ?_)
  · exact k_retJ hR t1 h
  · exact k_retJ hR tJ_0 h
/-- PupilCoinModel.word()J -/
def g137 (S : gM) : Option (Int × gM) :=
  (g136 S).bind fun p1 =>
  w_lt (gi p1 55 21) fun V2 =>
  w_lt (wi p1 55 42 V2) fun S3 =>
  g137_l14
    (fun Y27 S28 =>
      g137_j100 Y27 S28)
    100000 0 S3
theorem g137_ok {S : gM} {M : vm_M} {r : Int × gM} (hR : Rel S M) (h : g137 S = some r) : Mp gRJ (f137 55 M) r := by
  unfold g137 at h
  unfold f137
  refine k_ob (hR.obF (by decide) rfl) ?_
  obtain ⟨p1, e1, h⟩ := bind_so h
  refine k_call (g136_ok hR e1) (fun M1 R1 => ?_)
  obtain ⟨V2, e2, h⟩ := lt_so h
  refine k_gi R1 (R1.obF (by decide) rfl) rfl e2 (fun v2 z2 => ?_)
  obtain ⟨S3, e3, h⟩ := lt_so h
  refine k_pi R1 (R1.obF (by decide) rfl) rfl z2 e3 (fun M3 R3 => ?_)
  refine g137_l14_ok ?_ 100000 _ _ _ _ R3 tJ_0 h
  · intro y27 Y27 S28 M28 R28 u27
    intro h
    exact g137_j100_ok R28 u27 h
