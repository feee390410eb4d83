/-! bits -/
theorem shr0 (x : Int32) : (x >>> (Int32.ofInt 0 &&& 31)).toBitVec = x.toBitVec.sshiftRight 0 := by
  have e : (Int32.ofInt 0 &&& 31) = 0 := by decide
  rw [e]
  rfl
theorem ushr0 (x : Int32) : (x.toUInt32 >>> ((Int32.ofInt 0).toUInt32 &&& Int32.toUInt32 31)).toInt32.toBitVec = x.toBitVec >>> 0 := by
  have e : ((Int32.ofInt 0).toUInt32 &&& Int32.toUInt32 31) = 0 := by decide
  rw [e]
  rfl
theorem shr1 (x : Int32) : (x >>> (Int32.ofInt 1 &&& 31)).toBitVec = x.toBitVec.sshiftRight 1 := by
  have e : (Int32.ofInt 1 &&& 31) = 1 := by decide
  rw [e]
  rfl
theorem shr2 (x : Int32) : (x >>> (Int32.ofInt 2 &&& 31)).toBitVec = x.toBitVec.sshiftRight 2 := by
  have e : (Int32.ofInt 2 &&& 31) = 2 := by decide
  rw [e]
  rfl
theorem shr3 (x : Int32) : (x >>> (Int32.ofInt 3 &&& 31)).toBitVec = x.toBitVec.sshiftRight 3 := by
  have e : (Int32.ofInt 3 &&& 31) = 3 := by decide
  rw [e]
  rfl
theorem shr4 (x : Int32) : (x >>> (Int32.ofInt 4 &&& 31)).toBitVec = x.toBitVec.sshiftRight 4 := by
  have e : (Int32.ofInt 4 &&& 31) = 4 := by decide
  rw [e]
  rfl
theorem shr5 (x : Int32) : (x >>> (Int32.ofInt 5 &&& 31)).toBitVec = x.toBitVec.sshiftRight 5 := by
  have e : (Int32.ofInt 5 &&& 31) = 5 := by decide
  rw [e]
  rfl
theorem shr6 (x : Int32) : (x >>> (Int32.ofInt 6 &&& 31)).toBitVec = x.toBitVec.sshiftRight 6 := by
  have e : (Int32.ofInt 6 &&& 31) = 6 := by decide
  rw [e]
  rfl
theorem shr7 (x : Int32) : (x >>> (Int32.ofInt 7 &&& 31)).toBitVec = x.toBitVec.sshiftRight 7 := by
  have e : (Int32.ofInt 7 &&& 31) = 7 := by decide
  rw [e]
  rfl
theorem shr8 (x : Int32) : (x >>> (Int32.ofInt 8 &&& 31)).toBitVec = x.toBitVec.sshiftRight 8 := by
  have e : (Int32.ofInt 8 &&& 31) = 8 := by decide
  rw [e]
  rfl
theorem ushr8 (x : Int32) : (x.toUInt32 >>> ((Int32.ofInt 8).toUInt32 &&& Int32.toUInt32 31)).toInt32.toBitVec = x.toBitVec >>> 8 := by
  have e : ((Int32.ofInt 8).toUInt32 &&& Int32.toUInt32 31) = 8 := by decide
  rw [e]
  rfl
theorem shr9 (x : Int32) : (x >>> (Int32.ofInt 9 &&& 31)).toBitVec = x.toBitVec.sshiftRight 9 := by
  have e : (Int32.ofInt 9 &&& 31) = 9 := by decide
  rw [e]
  rfl
theorem shr10 (x : Int32) : (x >>> (Int32.ofInt 10 &&& 31)).toBitVec = x.toBitVec.sshiftRight 10 := by
  have e : (Int32.ofInt 10 &&& 31) = 10 := by decide
  rw [e]
  rfl
theorem shr11 (x : Int32) : (x >>> (Int32.ofInt 11 &&& 31)).toBitVec = x.toBitVec.sshiftRight 11 := by
  have e : (Int32.ofInt 11 &&& 31) = 11 := by decide
  rw [e]
  rfl
theorem shr16 (x : Int32) : (x >>> (Int32.ofInt 16 &&& 31)).toBitVec = x.toBitVec.sshiftRight 16 := by
  have e : (Int32.ofInt 16 &&& 31) = 16 := by decide
  rw [e]
  rfl
theorem ushr16 (x : Int32) : (x.toUInt32 >>> ((Int32.ofInt 16).toUInt32 &&& Int32.toUInt32 31)).toInt32.toBitVec = x.toBitVec >>> 16 := by
  have e : ((Int32.ofInt 16).toUInt32 &&& Int32.toUInt32 31) = 16 := by decide
  rw [e]
  rfl
theorem shr24 (x : Int32) : (x >>> (Int32.ofInt 24 &&& 31)).toBitVec = x.toBitVec.sshiftRight 24 := by
  have e : (Int32.ofInt 24 &&& 31) = 24 := by decide
  rw [e]
  rfl
theorem ushr24 (x : Int32) : (x.toUInt32 >>> ((Int32.ofInt 24).toUInt32 &&& Int32.toUInt32 31)).toInt32.toBitVec = x.toBitVec >>> 24 := by
  have e : ((Int32.ofInt 24).toUInt32 &&& Int32.toUInt32 31) = 24 := by decide
  rw [e]
  rfl
theorem b255 (i : Nat) (hi : i < 8) : (255#8)[i] = true := by
  rw [← BitVec.getLsbD_eq_getElem]
  have : i = 0 ∨ i = 1 ∨ i = 2 ∨ i = 3 ∨ i = 4 ∨ i = 5 ∨ i = 6 ∨ i = 7 := by omega
  rcases this with h | h | h | h | h | h | h | h <;> subst h <;> rfl
theorem bv_byte (y : BitVec 32) (k : Nat) (hk : k ≤ 24) : BitVec.signExtend 8 ((y >>> k) &&& 255#32) = BitVec.signExtend 8 (BitVec.signExtend 32 (BitVec.signExtend 8 (y.sshiftRight k))) := by
  ext i hi
  have h1 : i < 32 := by omega
  have h2 : k + i < 32 := by omega
  have h3 : (255#32).getLsbD i = true := by
    have : i = 0 ∨ i = 1 ∨ i = 2 ∨ i = 3 ∨ i = 4 ∨ i = 5 ∨ i = 6 ∨ i = 7 := by omega
    rcases this with h | h | h | h | h | h | h | h <;> subst h <;> rfl
  simp [BitVec.getElem_signExtend, BitVec.getLsbD_signExtend, BitVec.getElem_sshiftRight, BitVec.getElem_and, hi, h1, h2]
  intro _
  exact b255 i hi
theorem byte_24 (x : Int) : b_byte (b_and (b_ushr x 24) 255) = b_byte (b_byte (b_shr x 24)) := by
  unfold b_byte b_and b_ushr b_shr
  simp only [Int32.ofInt_toInt]
  generalize Int32.ofInt x = y
  have e : (Int32.ofInt 255).toBitVec = 255#32 := by decide
  congr 2
  apply Int8.toBitVec_inj.1
  simp only [Int32.toBitVec_toInt8, Int8.toBitVec_toInt32, Int32.toBitVec_and, shr24, ushr24, e]
  exact bv_byte _ 24 (by omega)
theorem byte_16 (x : Int) : b_byte (b_and (b_ushr x 16) 255) = b_byte (b_byte (b_shr x 16)) := by
  unfold b_byte b_and b_ushr b_shr
  simp only [Int32.ofInt_toInt]
  generalize Int32.ofInt x = y
  have e : (Int32.ofInt 255).toBitVec = 255#32 := by decide
  congr 2
  apply Int8.toBitVec_inj.1
  simp only [Int32.toBitVec_toInt8, Int8.toBitVec_toInt32, Int32.toBitVec_and, shr16, ushr16, e]
  exact bv_byte _ 16 (by omega)
theorem byte_8 (x : Int) : b_byte (b_and (b_ushr x 8) 255) = b_byte (b_byte (b_shr x 8)) := by
  unfold b_byte b_and b_ushr b_shr
  simp only [Int32.ofInt_toInt]
  generalize Int32.ofInt x = y
  have e : (Int32.ofInt 255).toBitVec = 255#32 := by decide
  congr 2
  apply Int8.toBitVec_inj.1
  simp only [Int32.toBitVec_toInt8, Int8.toBitVec_toInt32, Int32.toBitVec_and, shr8, ushr8, e]
  exact bv_byte _ 8 (by omega)
theorem byte_0 (x : Int) : b_byte (b_and (b_ushr x 0) 255) = b_byte (b_byte (b_shr x 0)) := by
  unfold b_byte b_and b_ushr b_shr
  simp only [Int32.ofInt_toInt]
  generalize Int32.ofInt x = y
  have e : (Int32.ofInt 255).toBitVec = 255#32 := by decide
  congr 2
  apply Int8.toBitVec_inj.1
  simp only [Int32.toBitVec_toInt8, Int8.toBitVec_toInt32, Int32.toBitVec_and, shr0, ushr0, e]
  exact bv_byte _ 0 (by omega)
/-- a bit of a number -/
def tb (x : Int) (k : Nat) : Bool := (Int32.ofInt x).toBitVec.getLsbD k
theorem ofI_and (x y : Int) : Int32.ofInt (b_and x y) = Int32.ofInt x &&& Int32.ofInt y := Int32.ofInt_toInt _
theorem ofI_or (x y : Int) : Int32.ofInt (b_or x y) = Int32.ofInt x ||| Int32.ofInt y := Int32.ofInt_toInt _
theorem ofI_xor (x y : Int) : Int32.ofInt (b_xor x y) = Int32.ofInt x ^^^ Int32.ofInt y := Int32.ofInt_toInt _
theorem tb_and (x y : Int) (k : Nat) : tb (b_and x y) k = (tb x k && tb y k) := by
  unfold tb; rw [ofI_and, Int32.toBitVec_and, BitVec.getLsbD_and]
theorem tb_or (x y : Int) (k : Nat) : tb (b_or x y) k = (tb x k || tb y k) := by
  unfold tb; rw [ofI_or, Int32.toBitVec_or, BitVec.getLsbD_or]
theorem tb_not (x : Int) (k : Nat) (hk : k < 32) : tb (b_xor x (-1)) k = !tb x k := by
  have e : (Int32.ofInt (-1)).toBitVec = BitVec.allOnes 32 := by decide
  unfold tb; rw [ofI_xor, Int32.toBitVec_xor, BitVec.getLsbD_xor, e, BitVec.getLsbD_allOnes]; simp [hk]
theorem I32_0 {x : Int32} : x.toInt = 0 ↔ x.toBitVec = 0#32 := by
  constructor
  · intro h
    have : x = 0 := Int32.toInt_inj.mp (by rw [h]; rfl)
    rw [this]; rfl
  · intro h
    have : x = 0 := Int32.toBitVec_inj.1 (by rw [h]; rfl)
    rw [this]; rfl
theorem tb_pow (x : Int) (k : Nat) (hk : k < 32) (p : Int) (hp : (Int32.ofInt p).toBitVec = BitVec.twoPow 32 k) : b_and x p = 0 ↔ tb x k = false := by
  unfold b_and tb
  rw [I32_0, Int32.toBitVec_and, hp, BitVec.and_twoPow]
  cases h : (Int32.ofInt x).toBitVec.getLsbD k with
  | false => simp
  | true =>
    simp only [if_true, Bool.true_eq_false, iff_false]
    intro z
    have := congrArg (fun b => BitVec.getLsbD b k) z
    simp [BitVec.getLsbD_twoPow, hk] at this
theorem tb_one (x : Int) (k : Nat) (hk : k < 32) (z : Int) (hz : (Int32.ofInt z).toBitVec = (Int32.ofInt x).toBitVec.sshiftRight k) : b_and z 1 = if tb x k then 1 else 0 := by
  have e : (Int32.ofInt 1).toBitVec = BitVec.twoPow 32 0 := by decide
  have h0 : ((Int32.ofInt x).toBitVec.sshiftRight k).getLsbD 0 = (Int32.ofInt x).toBitVec.getLsbD k := by
    rw [BitVec.getLsbD_sshiftRight]; simp [hk]
  have key : Int32.ofInt z &&& Int32.ofInt 1 = if tb x k then 1 else 0 := by
    apply Int32.toBitVec_inj.1
    rw [Int32.toBitVec_and, e, BitVec.and_twoPow, hz, h0]
    unfold tb
    cases (Int32.ofInt x).toBitVec.getLsbD k <;> rfl
  unfold b_and
  rw [key]
  cases tb x k <;> rfl
theorem shl1_0 : (Int32.ofInt (b_shl 1 0)).toBitVec = BitVec.twoPow 32 0 := by decide
theorem shl1_1 : (Int32.ofInt (b_shl 1 1)).toBitVec = BitVec.twoPow 32 1 := by decide
theorem shl1_2 : (Int32.ofInt (b_shl 1 2)).toBitVec = BitVec.twoPow 32 2 := by decide
theorem shl1_3 : (Int32.ofInt (b_shl 1 3)).toBitVec = BitVec.twoPow 32 3 := by decide
theorem shl1_4 : (Int32.ofInt (b_shl 1 4)).toBitVec = BitVec.twoPow 32 4 := by decide
theorem shl1_5 : (Int32.ofInt (b_shl 1 5)).toBitVec = BitVec.twoPow 32 5 := by decide
theorem shl1_6 : (Int32.ofInt (b_shl 1 6)).toBitVec = BitVec.twoPow 32 6 := by decide
theorem shl1_7 : (Int32.ofInt (b_shl 1 7)).toBitVec = BitVec.twoPow 32 7 := by decide
theorem shl1_8 : (Int32.ofInt (b_shl 1 8)).toBitVec = BitVec.twoPow 32 8 := by decide
theorem shl1_9 : (Int32.ofInt (b_shl 1 9)).toBitVec = BitVec.twoPow 32 9 := by decide
theorem shl1_10 : (Int32.ofInt (b_shl 1 10)).toBitVec = BitVec.twoPow 32 10 := by decide
theorem shl1_11 : (Int32.ofInt (b_shl 1 11)).toBitVec = BitVec.twoPow 32 11 := by decide
theorem tb_shl (x s : Int) (hs : 0 ≤ s ∧ s < 12) : b_and x (b_shl 1 s) = 0 ↔ tb x s.toNat = false := by
  have : s = 0 ∨ s = 1 ∨ s = 2 ∨ s = 3 ∨ s = 4 ∨ s = 5 ∨ s = 6 ∨ s = 7 ∨ s = 8 ∨ s = 9 ∨ s = 10 ∨ s = 11 := by omega
  rcases this with h | h | h | h | h | h | h | h | h | h | h | h <;> subst h
  · exact tb_pow x 0 (by omega) _ shl1_0
  · exact tb_pow x 1 (by omega) _ shl1_1
  · exact tb_pow x 2 (by omega) _ shl1_2
  · exact tb_pow x 3 (by omega) _ shl1_3
  · exact tb_pow x 4 (by omega) _ shl1_4
  · exact tb_pow x 5 (by omega) _ shl1_5
  · exact tb_pow x 6 (by omega) _ shl1_6
  · exact tb_pow x 7 (by omega) _ shl1_7
  · exact tb_pow x 8 (by omega) _ shl1_8
  · exact tb_pow x 9 (by omega) _ shl1_9
  · exact tb_pow x 10 (by omega) _ shl1_10
  · exact tb_pow x 11 (by omega) _ shl1_11
theorem tb_shr (x s : Int) (hs : 0 ≤ s ∧ s < 12) : b_and (b_shr x s) 1 = if tb x s.toNat then 1 else 0 := by
  have : s = 0 ∨ s = 1 ∨ s = 2 ∨ s = 3 ∨ s = 4 ∨ s = 5 ∨ s = 6 ∨ s = 7 ∨ s = 8 ∨ s = 9 ∨ s = 10 ∨ s = 11 := by omega
  rcases this with h | h | h | h | h | h | h | h | h | h | h | h <;> subst h
  · exact tb_one x 0 (by omega) _ (by unfold b_shr; rw [Int32.ofInt_toInt]; exact shr0 _)
  · exact tb_one x 1 (by omega) _ (by unfold b_shr; rw [Int32.ofInt_toInt]; exact shr1 _)
  · exact tb_one x 2 (by omega) _ (by unfold b_shr; rw [Int32.ofInt_toInt]; exact shr2 _)
  · exact tb_one x 3 (by omega) _ (by unfold b_shr; rw [Int32.ofInt_toInt]; exact shr3 _)
  · exact tb_one x 4 (by omega) _ (by unfold b_shr; rw [Int32.ofInt_toInt]; exact shr4 _)
  · exact tb_one x 5 (by omega) _ (by unfold b_shr; rw [Int32.ofInt_toInt]; exact shr5 _)
  · exact tb_one x 6 (by omega) _ (by unfold b_shr; rw [Int32.ofInt_toInt]; exact shr6 _)
  · exact tb_one x 7 (by omega) _ (by unfold b_shr; rw [Int32.ofInt_toInt]; exact shr7 _)
  · exact tb_one x 8 (by omega) _ (by unfold b_shr; rw [Int32.ofInt_toInt]; exact shr8 _)
  · exact tb_one x 9 (by omega) _ (by unfold b_shr; rw [Int32.ofInt_toInt]; exact shr9 _)
  · exact tb_one x 10 (by omega) _ (by unfold b_shr; rw [Int32.ofInt_toInt]; exact shr10 _)
  · exact tb_one x 11 (by omega) _ (by unfold b_shr; rw [Int32.ofInt_toInt]; exact shr11 _)
theorem tb_p (s : Int) (k : Nat) (hs : 0 ≤ s ∧ s < 12) (hk : k < 32) : tb (b_shl 1 s) k = decide (k = s.toNat) := by
  have : s = 0 ∨ s = 1 ∨ s = 2 ∨ s = 3 ∨ s = 4 ∨ s = 5 ∨ s = 6 ∨ s = 7 ∨ s = 8 ∨ s = 9 ∨ s = 10 ∨ s = 11 := by omega
  unfold tb
  rcases this with h | h | h | h | h | h | h | h | h | h | h | h <;> subst h
  · rw [shl1_0, BitVec.getLsbD_twoPow]; simp [hk, eq_comm]
  · rw [shl1_1, BitVec.getLsbD_twoPow]; simp [hk, eq_comm]
  · rw [shl1_2, BitVec.getLsbD_twoPow]; simp [hk, eq_comm]
  · rw [shl1_3, BitVec.getLsbD_twoPow]; simp [hk, eq_comm]
  · rw [shl1_4, BitVec.getLsbD_twoPow]; simp [hk, eq_comm]
  · rw [shl1_5, BitVec.getLsbD_twoPow]; simp [hk, eq_comm]
  · rw [shl1_6, BitVec.getLsbD_twoPow]; simp [hk, eq_comm]
  · rw [shl1_7, BitVec.getLsbD_twoPow]; simp [hk, eq_comm]
  · rw [shl1_8, BitVec.getLsbD_twoPow]; simp [hk, eq_comm]
  · rw [shl1_9, BitVec.getLsbD_twoPow]; simp [hk, eq_comm]
  · rw [shl1_10, BitVec.getLsbD_twoPow]; simp [hk, eq_comm]
  · rw [shl1_11, BitVec.getLsbD_twoPow]; simp [hk, eq_comm]
