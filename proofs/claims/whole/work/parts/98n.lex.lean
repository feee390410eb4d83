/-! the parser: bytes, runs of them, words' numbers -/
def px_bl (x : Int) : Prop := x = 32 ∨ x = 10
def px_le (x : Int) : Prop := 97 ≤ x ∧ x ≤ 122
def px_di (x : Int) : Prop := 48 ≤ x ∧ x ≤ 57
def px_sg (x : Int) : Prop := x = 40 ∨ x = 41 ∨ x = 42 ∨ x = 43 ∨ x = 44 ∨ x = 45 ∨ x = 47 ∨ x = 59 ∨ x = 60 ∨ x = 61 ∨ x = 62 ∨ x = 123 ∨ x = 125
/-- from a on the bytes of that kind go as far as e -/
def px_R (P : Int → Prop) (c : Int → Int) (n a e : Int) : Prop := (a ≤ e ∧ e ≤ n) ∧ (∀ i, a ≤ i → i < e → P (c i)) ∧ (e < n → ¬ P (c e))
theorem px_Ru {P : Int → Prop} {c : Int → Int} {n a e e' : Int} (h : px_R P c n a e) (h2 : px_R P c n a e') : e = e' := by
  have a1 := h.1
  have a2 := h2.1
  rcases Int.lt_trichotomy e e' with z | z | z
  · exact absurd (h2.2.1 e (by omega) z) (h.2.2 (by omega))
  · exact z
  · exact absurd (h.2.1 e' (by omega) z) (h2.2.2 (by omega))
def px_w (c : Int → Int) (p : Int) : Nat → Int
  | 0 => 0
  | k + 1 => px_w c p k * 32 + (c (p + k) - 96)
def px_v (c : Int → Int) (p : Int) : Nat → Int
  | 0 => 0
  | k + 1 => px_v c p k * 256 + c (p + k)
def px_t (c : Int → Int) (p : Int) : Nat → Int
  | 0 => 0
  | k + 1 => px_t c p k * 10 + (c (p + k) - 48)
theorem px_w_s (c : Int → Int) (p : Int) (k : Nat) : px_w c p (k + 1) = px_w c p k * 32 + (c (p + k) - 96) := rfl
theorem px_v_s (c : Int → Int) (p : Int) (k : Nat) : px_v c p (k + 1) = px_v c p k * 256 + c (p + k) := rfl
theorem px_t_s (c : Int → Int) (p : Int) (k : Nat) : px_t c p (k + 1) = px_t c p k * 10 + (c (p + k) - 48) := rfl
def px_cf : Nat → Int → Int
  | 0 => fun _ => 0
  | n + 1 => fun x => if x = 0 then 0 else px_cf n (x / 32) * 256 + (x % 32 + 96)
def px_df : Nat → Int → Int
  | 0 => fun _ => 0
  | n + 1 => fun x => if x = 0 then 0 else px_df n (x / 256) * 32 + (x % 256 - 96)
def px_c (x : Int) : Int := px_cf 8 x
def px_d (x : Int) : Int := px_df 8 x
theorem px_cf0 (n : Nat) : px_cf n 0 = 0 := by
  cases n with
  | zero => rfl
  | succ n => unfold px_cf; exact if_pos rfl
theorem px_df0 (n : Nat) : px_df n 0 = 0 := by
  cases n with
  | zero => rfl
  | succ n => unfold px_df; exact if_pos rfl
theorem px_cwv {c : Int → Int} {p : Int} : ∀ k : Nat, (∀ i : Nat, i < k → px_le (c (p + i))) → (0 ≤ px_w c p k ∧ 0 ≤ px_v c p k) ∧ (0 < k → 0 < px_w c p k ∧ 0 < px_v c p k) ∧ ∀ m : Nat, px_cf (k + m) (px_w c p k) = px_v c p k ∧ px_df (k + m) (px_v c p k) = px_w c p k := by
  intro k
  induction k with
  | zero => intro _; exact ⟨⟨Int.le_refl 0, Int.le_refl 0⟩, fun z => absurd z (by omega), fun m => ⟨px_cf0 _, px_df0 _⟩⟩
  | succ k ih =>
    intro h
    obtain ⟨i1, -, i3⟩ := ih (fun i hi => h i (by omega))
    have hk := h k (by omega)
    unfold px_le at hk
    rw [px_w_s, px_v_s]
    have z0 : 0 < px_w c p k * 32 + (c (p + k) - 96) ∧ 0 < px_v c p k * 256 + c (p + k) := by omega
    refine ⟨by omega, fun _ => z0, fun m => ?_⟩
    have j := i3 m
    rw [show k + 1 + m = k + m + 1 by omega]
    unfold px_cf px_df
    rw [if_neg (by omega), if_neg (by omega), show (px_w c p k * 32 + (c (p + k) - 96)) / 32 = px_w c p k by omega, show (px_w c p k * 32 + (c (p + k) - 96)) % 32 = c (p + k) - 96 by omega, show (px_v c p k * 256 + c (p + k)) / 256 = px_v c p k by omega, show (px_v c p k * 256 + c (p + k)) % 256 = c (p + k) by omega, j.1, j.2]
    omega
theorem px_wb {c : Int → Int} {p : Int} : ∀ k : Nat, (∀ i : Nat, i < k → px_le (c (p + i))) → ∀ A B : Nat, A = 32 ^ k → B = 256 ^ k → px_w c p k < A ∧ 2 * px_v c p k < B := by
  intro k
  induction k with
  | zero => intro _ A B hA hB; subst hA hB; exact ⟨show (0 : Int) < 1 by decide, show 2 * (0 : Int) < 1 by decide⟩
  | succ k ih =>
    intro h A B hA hB
    have j := ih (fun i hi => h i (by omega)) _ _ rfl rfl
    have hk := h k (by omega)
    unfold px_le at hk
    rw [Nat.pow_succ] at hA hB
    generalize 32 ^ k = A' at *
    generalize 256 ^ k = B' at *
    rw [px_w_s, px_v_s]
    omega
/-- eight letters at most: both numbers are small, and each tells the other -/
theorem px_w8 {c : Int → Int} {p : Int} {k : Nat} (hk : k ≤ 8) (h : ∀ i : Nat, i < k → px_le (c (p + i))) : (0 ≤ px_w c p k ∧ px_w c p k < 1099511627776) ∧ (0 ≤ px_v c p k ∧ (k ≤ 7 → px_v c p k < 36028797018963968)) ∧ (px_c (px_w c p k) = px_v c p k ∧ px_d (px_v c p k) = px_w c p k) ∧ (0 < k → 0 < px_v c p k) := by
  have a := px_cwv k h
  have b := px_wb k h _ _ rfl rfl
  have c1 : (32 : Nat) ^ k ≤ 32 ^ 8 := Nat.pow_le_pow_right (by decide) hk
  have e8 := a.2.2 (8 - k)
  rw [show k + (8 - k) = 8 by omega] at e8
  refine ⟨⟨a.1.1, ?_⟩, ⟨a.1.2, fun h7 => ?_⟩, e8, fun z => (a.2.1 z).2⟩
  · have : (32 : Nat) ^ 8 = 1099511627776 := by decide
    omega
  · have c2 : (256 : Nat) ^ k ≤ 256 ^ 7 := Nat.pow_le_pow_right (by decide) h7
    have : (256 : Nat) ^ 7 = 72057594037927936 := by decide
    omega
theorem px_tb {c : Int → Int} {p : Int} : ∀ k : Nat, (∀ i : Nat, i < k → px_di (c (p + i))) → ∀ A : Nat, A = 10 ^ k → 0 ≤ px_t c p k ∧ px_t c p k < A := by
  intro k
  induction k with
  | zero => intro _ A hA; subst hA; exact ⟨Int.le_refl 0, show (0 : Int) < 1 by decide⟩
  | succ k ih =>
    intro h A hA
    have j := ih (fun i hi => h i (by omega)) _ rfl
    have hk := h k (by omega)
    unfold px_di at hk
    rw [Nat.pow_succ] at hA
    generalize 10 ^ k = A' at *
    rw [px_t_s]
    omega
theorem px_t7 {c : Int → Int} {p : Int} {k : Nat} (hk : k ≤ 7) (h : ∀ i : Nat, i < k → px_di (c (p + i))) : 0 ≤ px_t c p k ∧ px_t c p k ≤ 9999999 := by
  have b := px_tb k h _ rfl
  have c1 : (10 : Nat) ^ k ≤ 10 ^ 7 := Nat.pow_le_pow_right (by decide) hk
  have : (10 : Nat) ^ 7 = 10000000 := by decide
  omega
/-- the words that are no NAME: as the class counts them, as the reference does -/
def px_kl : List Int := [402885, 6700530, 3120, 21483564, 442053, 16322738, 20186693, 294, 13614, 13368, 498, 1476, 14836, 6605428, 13098162, 22560946, 8553619, 13796755, 20943316012, 464036, 6194, 394868, 755268]
def px_vl : List Int := [1818848869, 439905906546, 6513008, 500086104428, 1836021349, 478660552050, 495672455781, 26982, 7170414, 7168376, 28530, 6385252, 7237492, 439855772532, 465726563698, 504397587826, 448377480307, 469852318835, 32493203083583852, 1852138852, 6709618, 1818325876, 2002874980]
def px_ky (k : Int) : Int := px_kl.getD k.toNat 0
def px_vk (k : Int) : Int := px_vl.getD k.toNat 0
theorem px_ky_c {k : Int} (h : 0 ≤ k ∧ k < 23) : px_c (px_ky k) = px_vk k ∧ px_d (px_vk k) = px_ky k ∧ ¬ px_vk k = 0 := by
  have key : ∀ j : Fin 23, px_c (px_kl.getD j.val 0) = px_vl.getD j.val 0 ∧ px_d (px_vl.getD j.val 0) = px_kl.getD j.val 0 ∧ ¬ px_vl.getD j.val 0 = 0 := by decide +kernel
  exact key ⟨k.toNat, by omega⟩
theorem px_vk_i {j k : Int} (hj : 0 ≤ j ∧ j < 23) (hk : 0 ≤ k ∧ k < 23) (h : px_vk j = px_vk k) : j = k := by
  have key : ∀ a b : Fin 23, px_vl.getD a.val 0 = px_vl.getD b.val 0 → a = b := by decide +kernel
  have := key ⟨j.toNat, by omega⟩ ⟨k.toNat, by omega⟩ h
  have := congrArg Fin.val this
  dsimp only at this
  omega
theorem px_tn {x : Int} (hx : 0 ≤ x ∧ x < 9223372036854775808) : (Int64.ofInt x).toBitVec.toNat = x.toNat := by
  rw [Int64.toBitVec_ofInt, BitVec.toNat_ofInt]
  omega
theorem px_or {x y : Int} (hx : 0 ≤ x ∧ x < 36028797018963968) (hy : 0 ≤ y ∧ y < 256) : B_or (B_shl x 8) y = x * 256 + y := by
  have e8 : ((Int32.ofInt 8).toInt64 &&& 63) = 8 := by decide
  have s1 : B_shl x 8 = x * 256 := by
    unfold B_shl
    rw [e8]
    have b1 : (Int64.ofInt x <<< (8 : Int64)).toBitVec.toNat = x.toNat * 256 := by
      have b2 : (Int64.ofInt x <<< (8 : Int64)).toBitVec = (Int64.ofInt x).toBitVec <<< 8 := rfl
      rw [b2, BitVec.toNat_shiftLeft, px_tn (by omega), Nat.shiftLeft_eq]
      omega
    have b3 : (Int64.ofInt x <<< (8 : Int64)).toInt = ((Int64.ofInt x <<< (8 : Int64)).toBitVec).toInt := rfl
    rw [b3, BitVec.toInt_eq_toNat_of_lt (by omega), b1]
    omega
  rw [s1]
  unfold B_or
  have b1 : (Int64.ofInt (x * 256) ||| Int64.ofInt y).toBitVec.toNat = x.toNat * 256 + y.toNat := by
    have b2 : (Int64.ofInt (x * 256) ||| Int64.ofInt y).toBitVec = (Int64.ofInt (x * 256)).toBitVec ||| (Int64.ofInt y).toBitVec := rfl
    rw [b2, BitVec.toNat_or, px_tn (by omega), px_tn (by omega), show (x * 256).toNat = x.toNat <<< 8 by rw [Nat.shiftLeft_eq]; omega, ← Nat.shiftLeft_add_eq_or_of_lt (by omega), Nat.shiftLeft_eq]
  have b3 : (Int64.ofInt (x * 256) ||| Int64.ofInt y).toInt = ((Int64.ofInt (x * 256) ||| Int64.ofInt y).toBitVec).toInt := rfl
  rw [b3, BitVec.toInt_eq_toNat_of_lt (by omega), b1]
  omega
