/-! a second language: numbers are Ints, every operation checked; the memory as functions of Ints; its rules against the shallow functions -/
theorem I_lt {a b : Int32} : a < b ↔ a.toInt < b.toInt := Int32.lt_iff_toInt_lt
theorem I_le {a b : Int32} : a ≤ b ↔ a.toInt ≤ b.toInt := Int32.le_iff_toInt_le
abbrev gM : Type := (Nat → Int → Int) × (Nat → Int → Int) × (Nat × (Nat → vm_B) × (Nat → Nat → Option Nat) × Nat)
def gi (S : gM) : Nat → Int → Int := S.1
def gl (S : gM) : Nat → Int → Int := S.2.1
def gn (S : gM) : Nat := S.2.2.1
def gsh (S : gM) : Nat → vm_B := S.2.2.2.1
def gr (S : gM) : Nat → Nat → Option Nat := S.2.2.2.2.1
def gs (S : gM) : Nat := S.2.2.2.2.2
def wi (S : gM) (q : Nat) (k v : Int) : gM := (fun a b => if a = q ∧ b = k then v else S.1 a b, S.2)
def wl (S : gM) (q : Nat) (k v : Int) : gM := (S.1, fun a b => if a = q ∧ b = k then v else S.2.1 a b, S.2.2)
def wr (S : gM) (q k : Nat) (v : Option Nat) : gM := (S.1, S.2.1, S.2.2.1, S.2.2.2.1, fun a b => if a = q ∧ b = k then v else S.2.2.2.2.1 a b, S.2.2.2.2.2)
def gmk (S : gM) (b : vm_B) (w : Nat) (f : Int → Int) : gM :=
  (fun a k => if a = gn S then f k else S.1 a k, fun a k => if a = gn S then 0 else S.2.1 a k, S.2.2.1 + 1, fun a => if a = gn S then b else S.2.2.2.1 a, fun a k => if a = gn S then none else S.2.2.2.2.1 a k, S.2.2.2.2.2 + w)
def wcp (S : gM) (p q : Nat) (sp dp n : Int) : gM := (fun a b => if a = q ∧ dp ≤ b ∧ b < dp + n then S.1 p (sp + (b - dp)) else S.1 a b, S.2)
def wcl (S : gM) (p q : Nat) (sp dp n : Int) : gM := (S.1, fun a b => if a = q ∧ dp ≤ b ∧ b < dp + n then S.2.1 p (sp + (b - dp)) else S.2.1 a b, S.2.2)
/-- an object of that class -/
def gob (S : gM) (q a : Nat) : Bool := decide (q < gn S) && (match gsh S q with
  | .inl b => b == a
  | .inr _ => false)
/-- the length of an array of that kind; -1: no such -/
def gln (S : gM) (q t : Nat) : Int := if q < gn S then (match gsh S q with
  | .inr (u, n) => if u = t then (n : Int) else -1
  | .inl _ => -1) else -1
def w_chk {α : Type} (c : Prop) [Decidable c] (o : Option α) : Option α := if c then o else none
def w_lt {α β : Type} (x : β) (k : β → Option α) : Option α := k x
def w_ckI {α : Type} (x : Int) (k : Int → Option α) : Option α := if -2147483648 ≤ x ∧ x ≤ 2147483647 then k x else none
def w_ckJ {α : Type} (x : Int) (k : Int → Option α) : Option α := if -9223372036854775808 ≤ x ∧ x ≤ 9223372036854775807 then k x else none
def b_and (x y : Int) : Int := (Int32.ofInt x &&& Int32.ofInt y).toInt
def b_or (x y : Int) : Int := (Int32.ofInt x ||| Int32.ofInt y).toInt
def b_xor (x y : Int) : Int := (Int32.ofInt x ^^^ Int32.ofInt y).toInt
def b_shl (x y : Int) : Int := (Int32.ofInt x <<< (Int32.ofInt y &&& 31)).toInt
def b_shr (x y : Int) : Int := (Int32.ofInt x >>> (Int32.ofInt y &&& 31)).toInt
def b_ushr (x y : Int) : Int := ((Int32.ofInt x).toUInt32 >>> ((Int32.ofInt y).toUInt32 &&& Int32.toUInt32 31)).toInt32.toInt
def b_byte (x : Int) : Int := (Int32.ofInt x).toInt8.toInt32.toInt
def B_and (x y : Int) : Int := (Int64.ofInt x &&& Int64.ofInt y).toInt
def B_or (x y : Int) : Int := (Int64.ofInt x ||| Int64.ofInt y).toInt
def B_shl (x y : Int) : Int := (Int64.ofInt x <<< ((Int32.ofInt y).toInt64 &&& 63)).toInt
def B_shr (x y : Int) : Int := (Int64.ofInt x >>> ((Int32.ofInt y).toInt64 &&& 63)).toInt
/-- the second memory is the first one -/
def Rel (S : gM) (M : vm_M) : Prop := Sh M ∧ (∀ q k : Nat, gi S q k = (vm_i M q k).toInt) ∧ (∀ q k : Nat, gl S q k = (vm_l M q k).toInt) ∧ S.2.2 = (M.1, M.2.1, M.2.2.2.2)
def Mp {α β : Type} (R : α → β → Prop) (o : Option α) (r : β) : Prop := ∃ a, o = some a ∧ R a r
def gRI (a : Int32 × vm_M) (r : Int × gM) : Prop := a.1.toInt = r.1 ∧ Rel r.2 a.2
def gRJ (a : Int64 × vm_M) (r : Int × gM) : Prop := a.1.toInt = r.1 ∧ Rel r.2 a.2
def gRA (a : Option Nat × vm_M) (r : Option Nat × gM) : Prop := a.1 = r.1 ∧ Rel r.2 a.2
def gRV (a : vm_M) (r : gM) : Prop := Rel r a
section T
variable {x y : Int32} {X Y V : Int}
theorem o_t (h : x.toInt = X) : Int32.ofInt X = x := by rw [← h]; exact Int32.ofInt_toInt x
theorem t_rng (h : x.toInt = X) : -2147483648 ≤ X ∧ X ≤ 2147483647 := by
  have a := Int32.le_toInt x
  have b := Int32.toInt_lt x
  omega
theorem t_add (hx : x.toInt = X) (hy : y.toInt = Y) (c : -2147483648 ≤ X + Y ∧ X + Y ≤ 2147483647) (e : V = X + Y) : (x + y).toInt = V := by
  rw [Int32.toInt_add, hx, hy, e, Int.bmod_eq_of_le (by omega) (by omega)]
theorem t_sub (hx : x.toInt = X) (hy : y.toInt = Y) (c : -2147483648 ≤ X - Y ∧ X - Y ≤ 2147483647) (e : V = X - Y) : (x - y).toInt = V := by
  rw [Int32.toInt_sub, hx, hy, e, Int.bmod_eq_of_le (by omega) (by omega)]
theorem t_mul (hx : x.toInt = X) (hy : y.toInt = Y) (c : -2147483648 ≤ X * Y ∧ X * Y ≤ 2147483647) (e : V = X * Y) : (x * y).toInt = V := by
  rw [Int32.toInt_mul, hx, hy, e, Int.bmod_eq_of_le (by omega) (by omega)]
theorem t_neg (hx : x.toInt = X) (c : -2147483648 ≤ -X ∧ -X ≤ 2147483647) (e : V = -X) : (-x).toInt = V := by
  rw [Int32.toInt_neg, hx, e, Int.bmod_eq_of_le (by omega) (by omega)]
theorem t_div (hx : x.toInt = X) (hy : y.toInt = Y) (c : -2147483648 ≤ X.tdiv Y ∧ X.tdiv Y ≤ 2147483647) (e : V = X.tdiv Y) : (x / y).toInt = V := by
  rw [Int32.toInt_div, hx, hy, e, Int.bmod_eq_of_le (by omega) (by omega)]
theorem t_rem (hx : x.toInt = X) (hy : y.toInt = Y) (c : -2147483648 ≤ X.tdiv Y ∧ X.tdiv Y ≤ 2147483647) (e : V = X.tmod Y) : (x - x / y * y).toInt = V := by
  have h := Int.mul_tdiv_add_tmod X Y
  have h1 := t_div hx hy c rfl
  rw [Int32.toInt_sub, Int32.toInt_mul, h1, hx, hy, e, Int.sub_bmod_bmod]
  have h2 : X - X.tdiv Y * Y = X.tmod Y := by rw [Int.mul_comm]; omega
  rw [h2]
  have rx := t_rng hx
  have ry := t_rng hy
  by_cases hy0 : Y = 0
  · rw [hy0, Int.tmod_zero]
    rw [Int.bmod_eq_of_le (by omega) (by omega)]
  · have b2 : (X.tmod Y).natAbs < Y.natAbs := by rw [Int.natAbs_tmod]; exact Nat.mod_lt _ (by omega)
    rw [Int.bmod_eq_of_le (by omega) (by omega)]
theorem t_and (hx : x.toInt = X) (hy : y.toInt = Y) (e : V = b_and X Y) : (x &&& y).toInt = V := by rw [e, b_and, o_t hx, o_t hy]
theorem t_or (hx : x.toInt = X) (hy : y.toInt = Y) (e : V = b_or X Y) : (x ||| y).toInt = V := by rw [e, b_or, o_t hx, o_t hy]
theorem t_xor (hx : x.toInt = X) (hy : y.toInt = Y) (e : V = b_xor X Y) : (x ^^^ y).toInt = V := by rw [e, b_xor, o_t hx, o_t hy]
theorem t_shl (hx : x.toInt = X) (hy : y.toInt = Y) (e : V = b_shl X Y) : (x <<< (y &&& 31)).toInt = V := by rw [e, b_shl, o_t hx, o_t hy]
theorem t_shr (hx : x.toInt = X) (hy : y.toInt = Y) (e : V = b_shr X Y) : (x >>> (y &&& 31)).toInt = V := by rw [e, b_shr, o_t hx, o_t hy]
theorem t_ushr (hx : x.toInt = X) (hy : y.toInt = Y) (e : V = b_ushr X Y) : ((x).toUInt32 >>> ((y).toUInt32 &&& Int32.toUInt32 31)).toInt32.toInt = V := by rw [e, b_ushr, o_t hx, o_t hy]
theorem t_byte (hx : x.toInt = X) (e : V = b_byte X) : x.toInt8.toInt32.toInt = V := by rw [e, b_byte, o_t hx]
theorem t_itol (hx : x.toInt = X) : x.toInt64.toInt = X := by rw [Int32.toInt_toInt64, hx]
theorem t_mxI (hx : x.toInt = X) (hy : y.toInt = Y) (e : V = max X Y) : (s_mxI x y).toInt = V := by
  unfold s_mxI
  rw [e]
  by_cases h : x < y
  · rw [if_pos h, hy]; have := I_lt.mp h; omega
  · rw [if_neg h, hx]; have := mt I_lt.mpr h; omega
theorem t_mnI (hx : x.toInt = X) (hy : y.toInt = Y) (e : V = min X Y) : (s_mnI x y).toInt = V := by
  unfold s_mnI
  rw [e]
  by_cases h : y < x
  · rw [if_pos h, hy]; have := I_lt.mp h; omega
  · rw [if_neg h, hx]; have := mt I_lt.mpr h; omega
theorem t_abI (hx : x.toInt = X) (c : -2147483648 ≤ (X.natAbs : Int) ∧ (X.natAbs : Int) ≤ 2147483647) (e : V = (X.natAbs : Int)) : (s_abI x).toInt = V := by
  unfold s_abI
  rw [e]
  have e0 : (0 : Int32).toInt = 0 := rfl
  by_cases h : 0 ≤ x
  · rw [if_pos h, hx]; have := I_le.mp h; omega
  · rw [if_neg h]; have := mt I_le.mpr h; rw [Int32.toInt_sub, e0, hx, Int.bmod_eq_of_le (by omega) (by omega)]; omega
theorem n_t (h : x.toInt = X) (c : 0 ≤ X) : ((x.toNatClampNeg : Nat) : Int) = X := by
  have : x.toNatClampNeg = x.toInt.toNat := rfl
  omega
theorem c_eq (hx : x.toInt = X) (hy : y.toInt = Y) : x = y ↔ X = Y := by rw [← hx, ← hy]; exact Int32.toInt_inj.symm
theorem c_ne (hx : x.toInt = X) (hy : y.toInt = Y) : ¬ x = y ↔ ¬ X = Y := not_congr (c_eq hx hy)
theorem c_lt (hx : x.toInt = X) (hy : y.toInt = Y) : x < y ↔ X < Y := by rw [← hx, ← hy]; exact I_lt
theorem c_le (hx : x.toInt = X) (hy : y.toInt = Y) : x ≤ y ↔ X ≤ Y := by rw [← hx, ← hy]; exact I_le
end T
section TJ
variable {x y : Int64} {z : Int32} {X Y V : Int}
theorem oJ_t (h : x.toInt = X) : Int64.ofInt X = x := by rw [← h]; exact Int64.ofInt_toInt x
theorem tJ_rng (h : x.toInt = X) : -9223372036854775808 ≤ X ∧ X ≤ 9223372036854775807 := by
  have a := Int64.le_toInt x
  have b := Int64.toInt_lt x
  omega
theorem tJ_add (hx : x.toInt = X) (hy : y.toInt = Y) (c : -9223372036854775808 ≤ X + Y ∧ X + Y ≤ 9223372036854775807) (e : V = X + Y) : (x + y).toInt = V := by
  rw [Int64.toInt_add, hx, hy, e, Int.bmod_eq_of_le (by omega) (by omega)]
theorem tJ_sub (hx : x.toInt = X) (hy : y.toInt = Y) (c : -9223372036854775808 ≤ X - Y ∧ X - Y ≤ 9223372036854775807) (e : V = X - Y) : (x - y).toInt = V := by
  rw [Int64.toInt_sub, hx, hy, e, Int.bmod_eq_of_le (by omega) (by omega)]
theorem tJ_mul (hx : x.toInt = X) (hy : y.toInt = Y) (c : -9223372036854775808 ≤ X * Y ∧ X * Y ≤ 9223372036854775807) (e : V = X * Y) : (x * y).toInt = V := by
  rw [Int64.toInt_mul, hx, hy, e, Int.bmod_eq_of_le (by omega) (by omega)]
theorem tJ_neg (hx : x.toInt = X) (c : -9223372036854775808 ≤ -X ∧ -X ≤ 9223372036854775807) (e : V = -X) : (-x).toInt = V := by
  rw [Int64.toInt_neg, hx, e, Int.bmod_eq_of_le (by omega) (by omega)]
theorem tJ_div (hx : x.toInt = X) (hy : y.toInt = Y) (c : -9223372036854775808 ≤ X.tdiv Y ∧ X.tdiv Y ≤ 9223372036854775807) (e : V = X.tdiv Y) : (x / y).toInt = V := by
  rw [Int64.toInt_div, hx, hy, e, Int.bmod_eq_of_le (by omega) (by omega)]
theorem tJ_rem (hx : x.toInt = X) (hy : y.toInt = Y) (c : -9223372036854775808 ≤ X.tdiv Y ∧ X.tdiv Y ≤ 9223372036854775807) (e : V = X.tmod Y) : (x - x / y * y).toInt = V := by
  have h := Int.mul_tdiv_add_tmod X Y
  have h1 := tJ_div hx hy c rfl
  rw [Int64.toInt_sub, Int64.toInt_mul, h1, hx, hy, e, Int.sub_bmod_bmod]
  have h2 : X - X.tdiv Y * Y = X.tmod Y := by rw [Int.mul_comm]; omega
  rw [h2]
  have rx := tJ_rng hx
  have ry := tJ_rng hy
  by_cases hy0 : Y = 0
  · rw [hy0, Int.tmod_zero]
    rw [Int.bmod_eq_of_le (by omega) (by omega)]
  · have b2 : (X.tmod Y).natAbs < Y.natAbs := by rw [Int.natAbs_tmod]; exact Nat.mod_lt _ (by omega)
    rw [Int.bmod_eq_of_le (by omega) (by omega)]
theorem tJ_and (hx : x.toInt = X) (hy : y.toInt = Y) (e : V = B_and X Y) : (x &&& y).toInt = V := by rw [e, B_and, oJ_t hx, oJ_t hy]
theorem tJ_or (hx : x.toInt = X) (hy : y.toInt = Y) (e : V = B_or X Y) : (x ||| y).toInt = V := by rw [e, B_or, oJ_t hx, oJ_t hy]
theorem tJ_shl (hx : x.toInt = X) (hy : z.toInt = Y) (e : V = B_shl X Y) : (x <<< ((z).toInt64 &&& 63)).toInt = V := by rw [e, B_shl, oJ_t hx, o_t hy]
theorem tJ_shr (hx : x.toInt = X) (hy : z.toInt = Y) (e : V = B_shr X Y) : (x >>> ((z).toInt64 &&& 63)).toInt = V := by rw [e, B_shr, oJ_t hx, o_t hy]
theorem t_mxJ (hx : x.toInt = X) (hy : y.toInt = Y) (e : V = max X Y) : (s_mxJ x y).toInt = V := by
  unfold s_mxJ
  rw [e]
  by_cases h : y < x
  · rw [if_pos h, hx]; have := Int64.lt_iff_toInt_lt.mp h; omega
  · rw [if_neg h, hy]; have := mt Int64.lt_iff_toInt_lt.mpr h; omega
theorem t_mnJ (hx : x.toInt = X) (hy : y.toInt = Y) (e : V = min X Y) : (s_mnJ x y).toInt = V := by
  unfold s_mnJ
  rw [e]
  by_cases h : y < x
  · rw [if_pos h, hy]; have := Int64.lt_iff_toInt_lt.mp h; omega
  · rw [if_neg h, hx]; have := mt Int64.lt_iff_toInt_lt.mpr h; omega
theorem t_abJ (hx : x.toInt = X) (c : -9223372036854775808 ≤ (X.natAbs : Int) ∧ (X.natAbs : Int) ≤ 9223372036854775807) (e : V = (X.natAbs : Int)) : (s_abJ x).toInt = V := by
  unfold s_abJ
  rw [e]
  have e0 : (0 : Int64).toInt = 0 := rfl
  by_cases h : 0 < x
  · rw [if_pos h, hx]; have := Int64.lt_iff_toInt_lt.mp h; omega
  · rw [if_neg h]; have := mt Int64.lt_iff_toInt_lt.mpr h; rw [Int64.toInt_neg, hx, Int.bmod_eq_of_le (by omega) (by omega)]; omega
theorem cJ_cmp (hx : x.toInt = X) (hy : y.toInt = Y) : (lg_cmp x y).toInt = if X < Y then -1 else if X = Y then 0 else 1 := by
  unfold lg_cmp
  by_cases h1 : x > y
  · rw [if_pos h1]
    have := Int64.lt_iff_toInt_lt.mp h1
    rw [if_neg (by omega), if_neg (by omega)]
    rfl
  · rw [if_neg h1]
    have h1' := mt Int64.lt_iff_toInt_lt.mpr h1
    by_cases h2 : x = y
    · rw [if_pos h2]
      have : X = Y := by rw [← hx, ← hy, h2]
      rw [if_neg (by omega), if_pos this]
      rfl
    · rw [if_neg h2]
      have : ¬ X = Y := fun z => h2 (Int64.toInt_inj.mp (by rw [hx, hy, z]))
      rw [if_pos (by omega)]
      rfl
theorem cJ_lt (hx : x.toInt = X) (hy : y.toInt = Y) : lg_cmp x y < 0 ↔ X < Y := by
  rw [c_lt (cJ_cmp hx hy) (show (0 : Int32).toInt = 0 from rfl)]
  by_cases h1 : X < Y
  · simp [h1]
  · by_cases h2 : X = Y <;> simp [h1, h2]
theorem cJ_gt (hx : x.toInt = X) (hy : y.toInt = Y) : 0 < lg_cmp x y ↔ Y < X := by
  rw [c_lt (show (0 : Int32).toInt = 0 from rfl) (cJ_cmp hx hy)]
  by_cases h1 : X < Y
  · simp [h1]; omega
  · by_cases h2 : X = Y
    · simp [h2]
    · simp [h1, h2]; omega
theorem cJ_le (hx : x.toInt = X) (hy : y.toInt = Y) : lg_cmp x y ≤ 0 ↔ X ≤ Y := by
  rw [c_le (cJ_cmp hx hy) (show (0 : Int32).toInt = 0 from rfl)]
  by_cases h1 : X < Y
  · simp [h1]; omega
  · by_cases h2 : X = Y
    · simp [h2]
    · simp [h1, h2]; omega
theorem cJ_ge (hx : x.toInt = X) (hy : y.toInt = Y) : 0 ≤ lg_cmp x y ↔ Y ≤ X := by
  rw [c_le (show (0 : Int32).toInt = 0 from rfl) (cJ_cmp hx hy)]
  by_cases h1 : X < Y
  · simp [h1]
  · by_cases h2 : X = Y
    · simp [h2]
    · simp [h1, h2]; omega
theorem cJ_eq (hx : x.toInt = X) (hy : y.toInt = Y) : lg_cmp x y = 0 ↔ X = Y := by
  rw [c_eq (cJ_cmp hx hy) (show (0 : Int32).toInt = 0 from rfl)]
  by_cases h1 : X < Y
  · simp [h1]; omega
  · by_cases h2 : X = Y <;> simp [h1, h2]
theorem cJ_ne (hx : x.toInt = X) (hy : y.toInt = Y) : ¬ lg_cmp x y = 0 ↔ ¬ X = Y := not_congr (cJ_eq hx hy)
end TJ
theorem chk_so {α : Type} {c : Prop} [Decidable c] {o : Option α} {r : α} (h : w_chk c o = some r) : c ∧ o = some r := by
  unfold w_chk at h
  rcases ite_so h with z | ⟨-, z⟩
  · exact z
  · cases z
theorem lt_so {α β : Type} {x : β} {k : β → Option α} {r : α} (h : w_lt x k = some r) : ∃ v, v = x ∧ k v = some r := ⟨x, rfl, h⟩
theorem ckI_so {α : Type} {x : Int} {k : Int → Option α} {r : α} (h : w_ckI x k = some r) : ∃ v, v = x ∧ (-2147483648 ≤ x ∧ x ≤ 2147483647) ∧ k v = some r := by
  unfold w_ckI at h
  rcases ite_so h with z | ⟨-, z⟩
  · exact ⟨x, rfl, z⟩
  · cases z
theorem ckJ_so {α : Type} {x : Int} {k : Int → Option α} {r : α} (h : w_ckJ x k = some r) : ∃ v, v = x ∧ (-9223372036854775808 ≤ x ∧ x ≤ 9223372036854775807) ∧ k v = some r := by
  unfold w_ckJ at h
  rcases ite_so h with z | ⟨-, z⟩
  · exact ⟨x, rfl, z⟩
  · cases z
theorem gob_so {S : gM} {q a : Nat} (h : gob S q a = true) : q < gn S ∧ gsh S q = .inl a := by
  unfold gob at h
  rw [Bool.and_eq_true] at h
  refine ⟨of_decide_eq_true h.1, ?_⟩
  have h2 := h.2
  cases hs : gsh S q with
  | inr p => rw [hs] at h2; cases h2
  | inl b => rw [hs] at h2; rw [eq_of_beq h2]
theorem gln_so {S : gM} {q t : Nat} (h : 0 ≤ gln S q t) : ∃ n : Nat, gln S q t = n ∧ q < gn S ∧ gsh S q = .inr (t, n) := by
  unfold gln at h ⊢
  by_cases hq : q < gn S
  · rw [if_pos hq] at h ⊢
    cases hs : gsh S q with
    | inl b => rw [hs] at h; dsimp only at h; omega
    | inr p =>
      obtain ⟨u, n⟩ := p
      rw [hs] at h
      dsimp only at h ⊢
      by_cases hu : u = t
      · rw [if_pos hu]
        subst hu
        exact ⟨n, rfl, hq, rfl⟩
      · rw [if_neg hu] at h
        omega
  · rw [if_neg hq] at h
    omega
section K
variable {α β : Type} {R : α → β → Prop} {r : β} {S S' : gM} {M : vm_M}
theorem Rel.n (h : Rel S M) : vm_n M = gn S := by unfold gn vm_n; rw [h.2.2.2]
theorem Rel.sh (h : Rel S M) : vm_sh M = gsh S := by unfold gsh vm_sh; rw [h.2.2.2]
theorem Rel.rr (h : Rel S M) : vm_rr M = gr S := by unfold gr vm_rr; rw [h.2.2.2]
theorem Rel.s (h : Rel S M) : vm_s M = gs S := by unfold gs vm_s; rw [h.2.2.2]
theorem Rel.i (h : Rel S M) {q k : Nat} {K : Int} (e : (k : Int) = K) : (vm_i M q k).toInt = gi S q K := by rw [← e]; exact (h.2.1 q k).symm
theorem Rel.l (h : Rel S M) {q k : Nat} {K : Int} (e : (k : Int) = K) : (vm_l M q k).toInt = gl S q K := by rw [← e]; exact (h.2.2.1 q k).symm
theorem Rel.pi (h : Rel S M) {q k : Nat} {K V : Int} {x : Int32} (e : (k : Int) = K) (hx : x.toInt = V) (hS : S' = wi S q K V) : Rel S' (vm_pi M q k x) := by
  subst hS e
  refine ⟨h.1, fun a b => ?_, h.2.2.1, h.2.2.2⟩
  show (if a = q ∧ (b : Int) = (k : Int) then V else gi S a b) = (if a = q ∧ b = k then x else vm_i M a b).toInt
  by_cases hc : a = q ∧ b = k
  · rw [if_pos hc, if_pos ⟨hc.1, by rw [hc.2]⟩, hx]
  · rw [if_neg hc, if_neg (fun z => hc ⟨z.1, Int.ofNat_inj.mp z.2⟩), h.2.1]
theorem Rel.pl (h : Rel S M) {q k : Nat} {K V : Int} {x : Int64} (e : (k : Int) = K) (hx : x.toInt = V) (hS : S' = wl S q K V) : Rel S' (vm_pl M q k x) := by
  subst hS e
  refine ⟨h.1, h.2.1, fun a b => ?_, h.2.2.2⟩
  show (if a = q ∧ (b : Int) = (k : Int) then V else gl S a b) = (if a = q ∧ b = k then x else vm_l M a b).toInt
  by_cases hc : a = q ∧ b = k
  · rw [if_pos hc, if_pos ⟨hc.1, by rw [hc.2]⟩, hx]
  · rw [if_neg hc, if_neg (fun z => hc ⟨z.1, Int.ofNat_inj.mp z.2⟩), h.2.2.1]
theorem Rel.pr (h : Rel S M) {q k : Nat} {v : Option Nat} (hq : ∀ e ∈ wh_rfl, ¬ (e.1 = q ∧ e.2.1 = k)) (hS : S' = wr S q k v) : Rel S' (vm_pr M q k v) := by
  subst hS
  refine ⟨⟨h.1.1, h.1.2.1, fun e he => ?_⟩, h.2.1, h.2.2.1, ?_⟩
  · exact (if_neg (hq e he)).trans (h.1.2.2 e he)
  · have e := h.2.2.2
    unfold wr vm_pr
    simp only [e]
theorem Rel.mk (h : Rel S M) {b : vm_B} {w : Nat} {f : Nat → Int32} {F : Int → Int} (hf : ∀ k : Nat, F k = (f k).toInt) (hS : S' = gmk S b w F) : Rel S' (vm_mk M b w f) := by
  subst hS
  have hn := h.n
  refine ⟨⟨Nat.le_succ_of_le h.1.1, fun q hq => ?_, fun e he => ?_⟩, fun a k => ?_, fun a k => ?_, ?_⟩
  · exact (if_neg (by have := h.1.1; unfold vm_n at this; omega)).trans (h.1.2.1 q hq)
  · have h2 := h.1.2.2 e he
    have h3 : e.1 < 103 := (by decide : ∀ e ∈ wh_rfl, e.1 < 103) e he
    exact (if_neg (by have := h.1.1; unfold vm_n at this; omega)).trans h2
  · show (if a = gn S then F k else gi S a k) = (if a = M.1 then f k else vm_i M a k).toInt
    have hn : M.1 = gn S := hn
    rw [hn]
    by_cases hc : a = gn S
    · rw [if_pos hc, if_pos hc, hf]
    · rw [if_neg hc, if_neg hc, h.2.1]
  · show (if a = gn S then 0 else gl S a k) = (if a = M.1 then 0 else vm_l M a k).toInt
    have hn : M.1 = gn S := hn
    rw [hn]
    by_cases hc : a = gn S
    · rw [if_pos hc, if_pos hc]; rfl
    · rw [if_neg hc, if_neg hc, h.2.2.1]
  · have e := h.2.2.2
    unfold gmk vm_mk gn
    simp only [e]
theorem Rel.cpI (h : Rel S M) {p q sp dp n : Nat} {SP DP N : Int} (e1 : (sp : Int) = SP) (e2 : (dp : Int) = DP) (e3 : (n : Int) = N) (hS : S' = wcp S p q SP DP N) : Rel S' (vm_cp M p q sp dp n) := by
  subst hS e1 e2 e3
  refine ⟨h.1, fun a b => ?_, h.2.2.1, h.2.2.2⟩
  show (if a = q ∧ (dp : Int) ≤ b ∧ (b : Int) < dp + n then gi S p (sp + ((b : Int) - dp)) else gi S a b) = (if a = q then va_cpy (M.2.2.1 p) (M.2.2.1 q) sp dp n b else M.2.2.1 a b).toInt
  by_cases hc : a = q
  · subst hc
    rw [if_pos rfl]
    unfold va_cpy
    by_cases hd : dp ≤ b ∧ b < dp + n
    · rw [if_pos hd, if_pos ⟨rfl, by omega, by omega⟩]
      exact ((h.i (K := (sp : Int) + ((b : Int) - dp)) (by omega)).symm)
    · rw [if_neg hd, if_neg (fun z => hd ⟨by omega, by omega⟩), h.2.1]
      rfl
  · rw [if_neg hc, if_neg (fun z => hc z.1), h.2.1]
    rfl
theorem Rel.cpJ (h : Rel S M) {p q sp dp n : Nat} {SP DP N : Int} (e1 : (sp : Int) = SP) (e2 : (dp : Int) = DP) (e3 : (n : Int) = N) (hS : S' = wcl S p q SP DP N) : Rel S' (vm_cl M p q sp dp n) := by
  subst hS e1 e2 e3
  refine ⟨h.1, h.2.1, fun a b => ?_, h.2.2.2⟩
  show (if a = q ∧ (dp : Int) ≤ b ∧ (b : Int) < dp + n then gl S p (sp + ((b : Int) - dp)) else gl S a b) = (if a = q then va_cpy (M.2.2.2.1 p) (M.2.2.2.1 q) sp dp n b else M.2.2.2.1 a b).toInt
  by_cases hc : a = q
  · subst hc
    rw [if_pos rfl]
    unfold va_cpy
    by_cases hd : dp ≤ b ∧ b < dp + n
    · rw [if_pos hd, if_pos ⟨rfl, by omega, by omega⟩]
      exact ((h.l (K := (sp : Int) + ((b : Int) - dp)) (by omega)).symm)
    · rw [if_neg hd, if_neg (fun z => hd ⟨by omega, by omega⟩), h.2.2.1]
      rfl
  · rw [if_neg hc, if_neg (fun z => hc z.1), h.2.2.1]
    rfl
theorem Rel.ob (hR : Rel S M) {q a : Nat} (h : gob S q a = true) : q < vm_n M ∧ vm_sh M q = .inl a := by
  rw [hR.n, hR.sh]; exact gob_so h
theorem Rel.obF (hR : Rel S M) {q a : Nat} (hq : q < 103) (hs : wh_shl.getD q (.inl 0) = .inl a) : q < vm_n M ∧ vm_sh M q = .inl a := ⟨hR.1.n hq, hR.1.o hq hs⟩
theorem Rel.ln (hR : Rel S M) {q t : Nat} (h : 0 ≤ gln S q t) : ∃ n : Nat, gln S q t = n ∧ q < vm_n M ∧ vm_sh M q = .inr (t, n) := by
  rw [hR.n, hR.sh]; exact gln_so h
theorem Rel.lnF (hR : Rel S M) {q t n : Nat} (hq : q < 103) (hs : wh_shl.getD q (.inl 0) = .inr (t, n)) : q < vm_n M ∧ vm_sh M q = .inr (t, n) := ⟨hR.1.n hq, hR.1.o hq hs⟩
theorem k_call {α' β' : Type} {R' : α' → β' → Prop} {o : Option α'} {p : β'} {k : α' → Option α} (h1 : Mp R' o p) (h : ∀ a, R' a p → Mp R (k a) r) : Mp R (o.bind k) r := by
  obtain ⟨a, rfl, ha⟩ := h1
  exact h a ha
theorem k_ite {c C : Prop} [Decidable c] [Decidable C] {A B : Option β} {a b : Option α} (hc : c ↔ C) (h : (if C then A else B) = some r) (h1 : C → A = some r → Mp R a r) (h2 : ¬ C → B = some r → Mp R b r) : Mp R (if c then a else b) r := by
  by_cases hC : C
  · rw [if_pos (hc.mpr hC)]; rw [if_pos hC] at h; exact h1 hC h
  · rw [if_neg (fun z => hC (hc.mp z))]; rw [if_neg hC] at h; exact h2 hC h
theorem k_some {γ : Type} {v : γ} {f : γ → Option α} (h : Mp R (f v) r) : Mp R ((some v).bind f) r := h
theorem k_unw {γ : Type} {o : Option γ} {v : γ} {f : γ → Option α} (e : o = some v) (h : Mp R (f v) r) : Mp R (o.bind f) r := by rw [e]; exact h
theorem k_gi {q a b : Nat} {B V : Int} {k : Int32 → Option α} (hR : Rel S M) (ho : q < vm_n M ∧ vm_sh M q = .inl a) (hB : (b : Int) = B) (hV : V = gi S q B) (h : ∀ v, v.toInt = V → Mp R (k v) r) : Mp R ((sg_i M q a b).bind k) r := by
  rw [g_i ho.1 ho.2]; exact h _ ((hR.i hB).trans hV.symm)
theorem k_gl {q a b : Nat} {B V : Int} {k : Int64 → Option α} (hR : Rel S M) (ho : q < vm_n M ∧ vm_sh M q = .inl a) (hB : (b : Int) = B) (hV : V = gl S q B) (h : ∀ v, v.toInt = V → Mp R (k v) r) : Mp R ((sg_l M q a b).bind k) r := by
  rw [g_l ho.1 ho.2]; exact h _ ((hR.l hB).trans hV.symm)
theorem k_gr {q a b : Nat} {k : Option Nat → Option α} {v : Option Nat} (hR : Rel S M) (ho : q < vm_n M ∧ vm_sh M q = .inl a) (e : v = gr S q b) (h : Mp R (k v) r) : Mp R ((sg_r M q a b).bind k) r := by
  rw [g_r ho.1 ho.2, hR.rr, ← e]; exact h
theorem k_grF {q a b t : Nat} {k : Option Nat → Option α} (i : Nat) (hR : Rel S M) (ho : q < vm_n M ∧ vm_sh M q = .inl a) (hx : wh_rfl[i]? = some (q, b, t)) (h : Mp R (k (some t)) r) : Mp R ((sg_r M q a b).bind k) r := by
  rw [g_r ho.1 ho.2, hR.1.r i hx]; exact h
theorem k_pi {q a b : Nat} {B V : Int} {x : Int32} {k : vm_M → Option α} (hR : Rel S M) (ho : q < vm_n M ∧ vm_sh M q = .inl a) (hB : (b : Int) = B) (hx : x.toInt = V) (hS : S' = wi S q B V) (h : ∀ M', Rel S' M' → Mp R (k M') r) : Mp R ((sp_i M q a b x).bind k) r := by
  rw [g_pi ho.1 ho.2]; exact h _ (hR.pi hB hx hS)
theorem k_pz {q a b : Nat} {B V : Int} {x : Int32} {k : vm_M → Option α} (hR : Rel S M) (ho : q < vm_n M ∧ vm_sh M q = .inl a) (hB : (b : Int) = B) (hx : x.toInt = V) (hc : V = 0 ∨ V = 1) (hS : S' = wi S q B V) (h : ∀ M', Rel S' M' → Mp R (k M') r) : Mp R ((sp_z M q a b x).bind k) r := by
  rw [g_pz ho.1 ho.2 (by rcases hc with z | z
                         · exact Or.inl ((c_eq hx (show (0 : Int32).toInt = 0 from rfl)).mpr z)
                         · exact Or.inr ((c_eq hx (show (1 : Int32).toInt = 1 from rfl)).mpr z))]
  exact h _ (hR.pi hB hx hS)
theorem k_pl {q a b : Nat} {B V : Int} {x : Int64} {k : vm_M → Option α} (hR : Rel S M) (ho : q < vm_n M ∧ vm_sh M q = .inl a) (hB : (b : Int) = B) (hx : x.toInt = V) (hS : S' = wl S q B V) (h : ∀ M', Rel S' M' → Mp R (k M') r) : Mp R ((sp_l M q a b x).bind k) r := by
  rw [g_pl ho.1 ho.2]; exact h _ (hR.pl hB hx hS)
theorem k_pr {q a b : Nat} {v : Option Nat} {k : vm_M → Option α} (hR : Rel S M) (ho : q < vm_n M ∧ vm_sh M q = .inl a) (hq : ∀ e ∈ wh_rfl, ¬ (e.1 = q ∧ e.2.1 = b)) (hS : S' = wr S q b v) (h : ∀ M', Rel S' M' → Mp R (k M') r) : Mp R ((sp_r M q a b v).bind k) r := by
  rw [g_pr ho.1 ho.2]; exact h _ (hR.pr hq hS)
theorem k_ob {q a : Nat} {k : Unit → Option α} (ho : q < vm_n M ∧ vm_sh M q = .inl a) (h : Mp R (k ()) r) : Mp R ((s_ob M q a).bind k) r := by
  rw [g_ob ho.1 ho.2]; exact h
theorem k_len {q t n : Nat} {N : Int} {k : Int32 → Option α} (hq : q < vm_n M ∧ vm_sh M q = .inr (t, n)) (hN : (n : Int) = N) (hb : N ≤ 2147483647) (h : ∀ v, v.toInt = N → Mp R (k v) r) : Mp R ((s_len M q t).bind k) r := by
  unfold s_len
  rw [g_ln hq.1 hq.2]
  exact h _ ((Int32.toInt_ofNat_of_lt (by omega)).trans hN)
theorem k_ln {q t n : Nat} {k : Nat → Option α} (hq : q < vm_n M ∧ vm_sh M q = .inr (t, n)) (h : Mp R (k n) r) : Mp R ((s_ln M q t).bind k) r := by
  rw [g_ln hq.1 hq.2]; exact h
theorem k_ai {q t n : Nat} {N I V : Int} {i : Int32} {k : Int32 → Option α} (hR : Rel S M) (hq : q < vm_n M ∧ vm_sh M q = .inr (t, n)) (hN : (n : Int) = N) (hi : i.toInt = I) (hc : 0 ≤ I ∧ I < N) (hV : V = gi S q I) (h : ∀ v, v.toInt = V → Mp R (k v) r) : Mp R ((sa_i M q t i).bind k) r := by
  rw [g_ai hq.1 hq.2 (by omega)]; exact h _ ((hR.i (n_t hi hc.1)).trans hV.symm)
theorem k_al {q n : Nat} {N I V : Int} {i : Int32} {k : Int64 → Option α} (hR : Rel S M) (hq : q < vm_n M ∧ vm_sh M q = .inr (1, n)) (hN : (n : Int) = N) (hi : i.toInt = I) (hc : 0 ≤ I ∧ I < N) (hV : V = gl S q I) (h : ∀ v, v.toInt = V → Mp R (k v) r) : Mp R ((sa_l M q i).bind k) r := by
  rw [g_al hq.1 hq.2 (by omega)]; exact h _ ((hR.l (n_t hi hc.1)).trans hV.symm)
theorem k_ar {q n : Nat} {N I : Int} {i : Int32} {v : Option Nat} {k : Option Nat → Option α} (hR : Rel S M) (hq : q < vm_n M ∧ vm_sh M q = .inr (4, n)) (hN : (n : Int) = N) (hi : i.toInt = I) (hc : 0 ≤ I ∧ I < N) (e : v = gr S q I.toNat) (h : Mp R (k v) r) : Mp R ((sa_r M q i).bind k) r := by
  unfold sa_r
  rw [g_ln hq.1 hq.2]
  have e2 : i.toNatClampNeg = I.toNat := by rw [← hi]; rfl
  show Mp R (Option.bind (if 0 ≤ i.toInt ∧ i.toInt < n then some (vm_rr M q i.toNatClampNeg) else none) k) r
  rw [if_pos (by omega), e2, hR.rr, ← e]; exact h
theorem k_si {q n : Nat} {N I V : Int} {i x : Int32} {k : vm_M → Option α} (hR : Rel S M) (hq : q < vm_n M ∧ vm_sh M q = .inr (0, n)) (hN : (n : Int) = N) (hi : i.toInt = I) (hc : 0 ≤ I ∧ I < N) (hx : x.toInt = V) (hS : S' = wi S q I V) (h : ∀ M', Rel S' M' → Mp R (k M') r) : Mp R ((ss_i M q 0 i x).bind k) r := by
  rw [g_si hq.1 hq.2 (by omega)]; exact h _ (hR.pi (n_t hi hc.1) hx hS)
theorem k_sz {q n : Nat} {N I V : Int} {i x : Int32} {k : vm_M → Option α} (hR : Rel S M) (hq : q < vm_n M ∧ vm_sh M q = .inr (2, n)) (hN : (n : Int) = N) (hi : i.toInt = I) (hc : 0 ≤ I ∧ I < N) (hx : x.toInt = V) (hz : V = 0 ∨ V = 1) (hS : S' = wi S q I V) (h : ∀ M', Rel S' M' → Mp R (k M') r) : Mp R ((ss_i M q 2 i x).bind k) r := by
  unfold ss_i
  rw [g_ln hq.1 hq.2]
  have e : vp_nar (vm_at 2) x = x := by
    rcases hz with z | z
    · rw [(c_eq hx (show (0 : Int32).toInt = 0 from rfl)).mpr z]; rfl
    · rw [(c_eq hx (show (1 : Int32).toInt = 1 from rfl)).mpr z]; rfl
  show Mp R (Option.bind (if 0 ≤ i.toInt ∧ i.toInt < n then some (vm_pi M q i.toNatClampNeg (vp_nar (vm_at 2) x)) else none) k) r
  rw [if_pos (by omega), e]; exact h _ (hR.pi (n_t hi hc.1) hx hS)
theorem k_sb {q n : Nat} {N I V : Int} {i x : Int32} {k : vm_M → Option α} (hR : Rel S M) (hq : q < vm_n M ∧ vm_sh M q = .inr (3, n)) (hN : (n : Int) = N) (hi : i.toInt = I) (hc : 0 ≤ I ∧ I < N) (hx : x.toInt = V) (hS : S' = wi S q I (b_byte V)) (h : ∀ M', Rel S' M' → Mp R (k M') r) : Mp R ((ss_i M q 3 i x).bind k) r := by
  unfold ss_i
  rw [g_ln hq.1 hq.2]
  show Mp R (Option.bind (if 0 ≤ i.toInt ∧ i.toInt < n then some (vm_pi M q i.toNatClampNeg (vp_nar (vm_at 3) x)) else none) k) r
  have e : (vp_nar (vm_at 3) x).toInt = b_byte V := t_byte hx rfl
  rw [if_pos (by omega)]; exact h _ (hR.pi (n_t hi hc.1) e hS)
theorem k_sl {q n : Nat} {N I V : Int} {i : Int32} {x : Int64} {k : vm_M → Option α} (hR : Rel S M) (hq : q < vm_n M ∧ vm_sh M q = .inr (1, n)) (hN : (n : Int) = N) (hi : i.toInt = I) (hc : 0 ≤ I ∧ I < N) (hx : x.toInt = V) (hS : S' = wl S q I V) (h : ∀ M', Rel S' M' → Mp R (k M') r) : Mp R ((ss_l M q i x).bind k) r := by
  rw [g_sl hq.1 hq.2 (by omega)]; exact h _ (hR.pl (n_t hi hc.1) hx hS)
theorem k_sr {q n v : Nat} {N I : Int} {i : Int32} {k : vm_M → Option α} (hR : Rel S M) (hq : q < vm_n M ∧ vm_sh M q = .inr (4, n)) (hN : (n : Int) = N) (hi : i.toInt = I) (hc : 0 ≤ I ∧ I < N) (hv : v < vm_n M ∧ vm_sh M v = .inl 1) (hw : ∀ e ∈ wh_rfl, ¬ e.1 = q) (hS : S' = wr S q I.toNat (some v)) (h : ∀ M', Rel S' M' → Mp R (k M') r) : Mp R ((ss_r M q i v).bind k) r := by
  unfold ss_r
  rw [g_ln hq.1 hq.2]
  have e2 : i.toNatClampNeg = I.toNat := by rw [← hi]; rfl
  show Mp R (Option.bind (if 0 ≤ i.toInt ∧ i.toInt < n ∧ v < vm_n M ∧ vm_sh M v = .inl 1 then some (vm_pr M q i.toNatClampNeg (some v)) else none) k) r
  rw [if_pos ⟨by omega, by omega, hv⟩, e2]; exact h _ (hR.pr (fun e he z => hw e he z.1) hS)
theorem k_na {t : Nat} {N : Int} {n : Int32} {k : vm_M → Option α} (hR : Rel S M) (hn : n.toInt = N) (hc : 0 ≤ N ∧ N ≤ 1000000) (hS : S' = gmk S (.inr (t, N.toNat)) N.toNat (fun _ => 0)) (h : ∀ M', Rel S' M' → Mp R (k M') r) : Mp R ((s_na M t n).bind k) r := by
  unfold s_na
  have e2 : n.toNatClampNeg = N.toNat := by rw [← hn]; rfl
  rw [if_pos (by omega), e2]; exact h _ (hR.mk (fun _ => rfl) hS)
theorem k_no {a : Nat} {k : vm_M → Option α} (hR : Rel S M) (hS : S' = gmk S (.inl a) (vg_N a) (fun _ => 0)) (h : ∀ M', Rel S' M' → Mp R (k M') r) : Mp R ((s_no M a).bind k) r := by
  unfold s_no
  exact h _ (hR.mk (fun _ => rfl) hS)
theorem k_cl {q n : Nat} {N : Int} {k : vm_M → Option α} (hR : Rel S M) (hq : q < vm_n M ∧ vm_sh M q = .inr (0, n)) (hN : (n : Int) = N) (hS : S' = gmk S (.inr (0, N.toNat)) N.toNat (gi S q)) (h : ∀ M', Rel S' M' → Mp R (k M') r) : Mp R ((s_cl M q).bind k) r := by
  unfold s_cl
  rw [g_ln hq.1 hq.2]
  have e : N.toNat = n := by omega
  rw [e] at hS
  exact h _ (hR.mk (fun _ => hR.2.1 _ _) hS)
theorem k_cpI {p q n0 n1 : Nat} {sp dp n : Int32} {SP DP N N0 N1 : Int} {k : vm_M → Option α} (hR : Rel S M) (hp : p < vm_n M ∧ vm_sh M p = .inr (0, n0)) (hq : q < vm_n M ∧ vm_sh M q = .inr (0, n1)) (h0 : (n0 : Int) = N0) (h1 : (n1 : Int) = N1) (e1 : sp.toInt = SP) (e2 : dp.toInt = DP) (e3 : n.toInt = N) (hc : 0 ≤ SP ∧ 0 ≤ DP ∧ 0 ≤ N ∧ SP + N ≤ N0 ∧ DP + N ≤ N1) (hS : S' = wcp S p q SP DP N) (h : ∀ M', Rel S' M' → Mp R (k M') r) : Mp R ((s_cp M 0 p sp q dp n).bind k) r := by
  unfold s_cp
  rw [g_ln hp.1 hp.2, ob_s, g_ln hq.1 hq.2, ob_s, if_pos (by omega), if_pos rfl]
  exact h _ (hR.cpI (n_t e1 hc.1) (n_t e2 hc.2.1) (n_t e3 hc.2.2.1) hS)
theorem k_cpJ {p q n0 n1 : Nat} {sp dp n : Int32} {SP DP N N0 N1 : Int} {k : vm_M → Option α} (hR : Rel S M) (hp : p < vm_n M ∧ vm_sh M p = .inr (1, n0)) (hq : q < vm_n M ∧ vm_sh M q = .inr (1, n1)) (h0 : (n0 : Int) = N0) (h1 : (n1 : Int) = N1) (e1 : sp.toInt = SP) (e2 : dp.toInt = DP) (e3 : n.toInt = N) (hc : 0 ≤ SP ∧ 0 ≤ DP ∧ 0 ≤ N ∧ SP + N ≤ N0 ∧ DP + N ≤ N1) (hS : S' = wcl S p q SP DP N) (h : ∀ M', Rel S' M' → Mp R (k M') r) : Mp R ((s_cp M 1 p sp q dp n).bind k) r := by
  unfold s_cp
  rw [g_ln hp.1 hp.2, ob_s, g_ln hq.1 hq.2, ob_s, if_pos (by omega), if_neg (by decide)]
  exact h _ (hR.cpJ (n_t e1 hc.1) (n_t e2 hc.2.1) (n_t e3 hc.2.2.1) hS)
theorem k_dvI {x y : Int32} {X Y V : Int} {k : Int32 → Option α} (hx : x.toInt = X) (hy : y.toInt = Y) (h0 : ¬ Y = 0) (c : -2147483648 ≤ X.tdiv Y ∧ X.tdiv Y ≤ 2147483647) (e : V = X.tdiv Y) (h : ∀ v, v.toInt = V → Mp R (k v) r) : Mp R ((s_dv x y).bind k) r := by
  unfold s_dv
  rw [if_neg (fun z => h0 ((c_eq hy (show (0 : Int32).toInt = 0 from rfl)).mp z))]; exact h _ (t_div hx hy c e)
theorem k_rmI {x y : Int32} {X Y V : Int} {k : Int32 → Option α} (hx : x.toInt = X) (hy : y.toInt = Y) (h0 : ¬ Y = 0) (c : -2147483648 ≤ X.tdiv Y ∧ X.tdiv Y ≤ 2147483647) (e : V = X.tmod Y) (h : ∀ v, v.toInt = V → Mp R (k v) r) : Mp R ((s_rm x y).bind k) r := by
  unfold s_rm
  rw [if_neg (fun z => h0 ((c_eq hy (show (0 : Int32).toInt = 0 from rfl)).mp z))]; exact h _ (t_rem hx hy c e)
theorem cq0J {y : Int64} {Y : Int} (hy : y.toInt = Y) (h0 : ¬ Y = 0) : ¬ y = 0 := fun z => h0 (by rw [← hy, z]; rfl)
theorem k_dvJ {x y : Int64} {X Y V : Int} {k : Int64 → Option α} (hx : x.toInt = X) (hy : y.toInt = Y) (h0 : ¬ Y = 0) (c : -9223372036854775808 ≤ X.tdiv Y ∧ X.tdiv Y ≤ 9223372036854775807) (e : V = X.tdiv Y) (h : ∀ v, v.toInt = V → Mp R (k v) r) : Mp R ((s_dl x y).bind k) r := by
  unfold s_dl
  rw [if_neg (cq0J hy h0)]; exact h _ (tJ_div hx hy c e)
theorem k_rmJ {x y : Int64} {X Y V : Int} {k : Int64 → Option α} (hx : x.toInt = X) (hy : y.toInt = Y) (h0 : ¬ Y = 0) (c : -9223372036854775808 ≤ X.tdiv Y ∧ X.tdiv Y ≤ 9223372036854775807) (e : V = X.tmod Y) (h : ∀ v, v.toInt = V → Mp R (k v) r) : Mp R ((s_rl x y).bind k) r := by
  unfold s_rl
  rw [if_neg (cq0J hy h0)]; exact h _ (tJ_rem hx hy c e)
end K
theorem k_retI {S : gM} {M : vm_M} {x : Int32} {X : Int} {r : Int × gM} (hR : Rel S M) (hx : x.toInt = X) (h : some (X, S) = some r) : Mp gRI (some (x, M)) r := by
  cases h; exact ⟨_, rfl, hx, hR⟩
theorem k_retZ {S : gM} {M : vm_M} {x : Int32} {X : Int} {r : Int × gM} (hR : Rel S M) (hx : x.toInt = X) (hz : X = 0 ∨ X = 1) (h : some (X, S) = some r) : Mp gRI (s_rb x M) r := by
  have e : s_rb x M = some (x, M) := by
    refine if_pos ?_
    rcases hz with z | z
    · rw [(c_eq hx (show (0 : Int32).toInt = 0 from rfl)).mpr z]; decide
    · rw [(c_eq hx (show (1 : Int32).toInt = 1 from rfl)).mpr z]; decide
  rw [e]
  exact k_retI hR hx h
theorem k_retJ {S : gM} {M : vm_M} {x : Int64} {X : Int} {r : Int × gM} (hR : Rel S M) (hx : x.toInt = X) (h : some (X, S) = some r) : Mp gRJ (some (x, M)) r := by
  cases h; exact ⟨_, rfl, hx, hR⟩
theorem k_retA {S : gM} {M : vm_M} {x : Option Nat} {r : Option Nat × gM} (hR : Rel S M) (h : some (x, S) = some r) : Mp gRA (some (x, M)) r := by
  cases h; exact ⟨_, rfl, rfl, hR⟩
theorem k_retV {S : gM} {M : vm_M} {r : gM} (hR : Rel S M) (h : some S = some r) : Mp gRV (some M) r := by
  cases h; exact ⟨_, rfl, hR⟩
