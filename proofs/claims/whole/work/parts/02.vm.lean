/-! A SMALL MACHINE of the verifier's: memory as numbers of cells, ints, longs, references; an instruction's meaning as a relation; runs with calls by depth -/
abbrev vm_L : Type := List (Nat × Value)
abbrev vm_B : Type := Nat ⊕ (Nat × Nat)
/-- cells, their shape (an object of a class; an array of a kind, its length), ints, longs, references, slots made -/
abbrev vm_M : Type := Nat × (Nat → vm_B) × (Nat → Nat → Int32) × (Nat → Nat → Int64) × (Nat → Nat → Option Nat) × Nat
def vm_n (M : vm_M) : Nat := M.1
def vm_sh (M : vm_M) : Nat → vm_B := M.2.1
def vm_i (M : vm_M) : Nat → Nat → Int32 := M.2.2.1
def vm_l (M : vm_M) : Nat → Nat → Int64 := M.2.2.2.1
def vm_rr (M : vm_M) : Nat → Nat → Option Nat := M.2.2.2.2.1
def vm_s (M : vm_M) : Nat := M.2.2.2.2.2
def vm_pi (M : vm_M) (q k : Nat) (v : Int32) : vm_M := (M.1, M.2.1, fun a b => if a = q ∧ b = k then v else M.2.2.1 a b, M.2.2.2)
def vm_pl (M : vm_M) (q k : Nat) (v : Int64) : vm_M := (M.1, M.2.1, M.2.2.1, fun a b => if a = q ∧ b = k then v else M.2.2.2.1 a b, M.2.2.2.2)
def vm_pr (M : vm_M) (q k : Nat) (v : Option Nat) : vm_M := (M.1, M.2.1, M.2.2.1, M.2.2.2.1, fun a b => if a = q ∧ b = k then v else M.2.2.2.2.1 a b, M.2.2.2.2.2)
/-- a new cell of that shape and width, with these ints, all else 0 -/
def vm_mk (M : vm_M) (b : vm_B) (w : Nat) (f : Nat → Int32) : vm_M :=
  (M.1 + 1, fun a => if a = M.1 then b else M.2.1 a, fun a k => if a = M.1 then f k else M.2.2.1 a k, fun a k => if a = M.1 then 0 else M.2.2.2.1 a k, fun a k => if a = M.1 then none else M.2.2.2.2.1 a k, M.2.2.2.2.2 + w)
/-- copying n ints -/
def vm_cp (M : vm_M) (p q sp dp n : Nat) : vm_M := (M.1, M.2.1, fun a b => if a = q then va_cpy (M.2.2.1 p) (M.2.2.1 q) sp dp n b else M.2.2.1 a b, M.2.2.2)
def vm_cl (M : vm_M) (p q sp dp n : Nat) : vm_M := (M.1, M.2.1, M.2.2.1, fun a b => if a = q then va_cpy (M.2.2.2.1 p) (M.2.2.2.1 q) sp dp n b else M.2.2.2.1 a b, M.2.2.2.2)
def vm_kd (ty : FieldType) : Nat := match ty with
  | .long => 1
  | .object _ => 2
  | .array _ => 2
  | _ => 0
def vm_gv (M : vm_M) (q : Nat) (ty : FieldType) (k : Nat) : Value := match vm_kd ty with
  | 0 => .int (vm_i M q k)
  | 1 => .long (vm_l M q k)
  | _ => va_rf (vm_rr M q k)
def vm_pv (M : vm_M) (q : Nat) (ty : FieldType) (k : Nat) (v : Value) (M' : vm_M) : Prop := match v with
  | .int x => vm_kd ty = 0 ∧ narrow ty (.int x) = .int x ∧ fits ty (.int x) = true ∧ M' = vm_pi M q k x
  | .long x => vm_kd ty = 1 ∧ M' = vm_pl M q k x
  | .ref a => vm_kd ty = 2 ∧ M' = vm_pr M q k (some a)
  | .null => vm_kd ty = 2 ∧ M' = vm_pr M q k none
  | _ => False
/-- the kinds of arrays -/
def vm_at : Nat → FieldType := fun t => match t with
  | 0 => .int
  | 1 => .long
  | 2 => .boolean
  | 3 => .byte
  | _ => .object "PupilCoin$Law"
def vm_str : Nat := 1099511627776
def vm_scr : Nat := 1099511627777
/-- the one String constant -/
def vm_txt : String := "line    floor   cap     total   move    order   share   if      min     max     or      and     not     first   lower   upper   heads   meals   special need    far     last    ward    "
def vm_by : List Int32 := vm_txt.toList.map (fun c => Int32.ofNat c.toNat)
def vm_c (c : Jvm.ClassFile.Cond) (x y : Int32) : Prop := match c with
  | .eq => x = y
  | .ne => ¬ x = y
  | .lt => x < y
  | .ge => y ≤ x
  | .gt => y < x
  | .le => x ≤ y
abbrev vm_R : Type := Option Value × vm_M
abbrev vm_I : Type := Nat × Instr × Nat × Nat × Int
def vm_len (ins : Instr) (b : Nat) : Nat := match ins with
  | .aload _ | .iload _ | .lload _ | .istore _ | .lstore _ | .astore _ | .bipush _ | .ldc _ | .newarray _ => 2
  | .sipush _ | .ldc_w _ | .ldc2_w _ | .getfield _ | .putfield _ | .new _ | .anewarray _ | .checkcast _ | .iinc _ _ | .ifCond _ _ | .if_icmp _ _ | .goto _ | .ifnull _ | .ifnonnull _ | .invokevirtual _ | .invokespecial _ | .invokestatic _ => 3
  | .tableswitch .. | .lookupswitch .. => b
  | _ => 1
def vm_st1 (lv : vm_L) (i : Nat) (v : Value) : vm_L := (i, v) :: lv.filter (fun q => !(q.1 == i) && !(q.1 + 1 == i && q.2.category == 2))
def vm_st2 (lv : vm_L) (i : Nat) (v : Value) : vm_L := (i, v) :: lv.filter (fun q => !(q.1 == i) && (!(q.1 == i + 1) && !(q.1 + 1 == i && q.2.category == 2)))
def vm_cat (st : List Value) : Nat := (st.map fun v => v.category).sum
/-- what an instruction asks and does; E: what must hold behind it -/
def vm_do (O : Nat → List Value → vm_M → vm_R → Prop) (L : Nat) (xs : Nat → Int32) (own : Nat) (ini : Bool) (nL : Nat) (r : vm_R) (E : Nat → vm_L → List Value → vm_M → Prop) (pc : Nat) (lv : vm_L) (st : List Value) (M : vm_M) (ins : Instr) (a b : Nat) (v : Int) : Prop :=
  match ins with
  | .iconst n => E (pc + 1) lv (.int (Int32.ofInt n) :: st) M
  | .bipush n => E (pc + 2) lv (.int (Int8.ofInt n).toInt32 :: st) M
  | .sipush n => E (pc + 3) lv (.int (Int16.ofInt n).toInt32 :: st) M
  | .lconst n => E (pc + 1) lv (.long (Int64.ofNat (n : Nat)) :: st) M
  | .aconst_null => E (pc + 1) lv (.null :: st) M
  | .ldc _ => (a = 0 ∧ E (pc + 2) lv (.int (Int32.ofInt v) :: st) M) ∨ (a = 1 ∧ E (pc + 2) lv (.ref vm_str :: st) M)
  | .ldc_w _ => E (pc + 3) lv (.int (Int32.ofInt v) :: st) M
  | .ldc2_w _ => E (pc + 3) lv (.long (Int64.ofInt v) :: st) M
  | .iload i => ∃ x, (i, .int x) ∈ lv ∧ E (pc + 2) lv (.int x :: st) M
  | .iload_n i => ∃ x, ((i : Nat), .int x) ∈ lv ∧ E (pc + 1) lv (.int x :: st) M
  | .lload i => ∃ x, (i, .long x) ∈ lv ∧ E (pc + 2) lv (.long x :: st) M
  | .lload_n i => ∃ x, ((i : Nat), .long x) ∈ lv ∧ E (pc + 1) lv (.long x :: st) M
  | .aload i => ∃ x, (i, va_rf x) ∈ lv ∧ E (pc + 2) lv (va_rf x :: st) M
  | .aload_n i => ∃ x, ((i : Nat), va_rf x) ∈ lv ∧ E (pc + 1) lv (va_rf x :: st) M
  | .istore i => ∃ x st', st = .int x :: st' ∧ i < nL ∧ E (pc + 2) (vm_st1 lv i (.int x)) st' M
  | .istore_n i => ∃ x st', st = .int x :: st' ∧ (i : Nat) < nL ∧ E (pc + 1) (vm_st1 lv i (.int x)) st' M
  | .lstore i => ∃ x st', st = .long x :: st' ∧ i + 1 < nL ∧ E (pc + 2) (vm_st2 lv i (.long x)) st' M
  | .lstore_n i => ∃ x st', st = .long x :: st' ∧ (i : Nat) + 1 < nL ∧ E (pc + 1) (vm_st2 lv i (.long x)) st' M
  | .astore i => ∃ x st', st = va_rf x :: st' ∧ i < nL ∧ E (pc + 2) (vm_st1 lv i (va_rf x)) st' M
  | .astore_n i => ∃ x st', st = va_rf x :: st' ∧ (i : Nat) < nL ∧ E (pc + 1) (vm_st1 lv i (va_rf x)) st' M
  | .iinc i n => ∃ x, (i, .int x) ∈ lv ∧ i < nL ∧ E (pc + 3) (vm_st1 lv i (.int (x + Int32.ofInt n))) st M
  | .iadd => ∃ x y st', st = .int y :: .int x :: st' ∧ E (pc + 1) lv (.int (x + y) :: st') M
  | .isub => ∃ x y st', st = .int y :: .int x :: st' ∧ E (pc + 1) lv (.int (x - y) :: st') M
  | .imul => ∃ x y st', st = .int y :: .int x :: st' ∧ E (pc + 1) lv (.int (x * y) :: st') M
  | .iand => ∃ x y st', st = .int y :: .int x :: st' ∧ E (pc + 1) lv (.int (x &&& y) :: st') M
  | .ior => ∃ x y st', st = .int y :: .int x :: st' ∧ E (pc + 1) lv (.int (x ||| y) :: st') M
  | .ixor => ∃ x y st', st = .int y :: .int x :: st' ∧ E (pc + 1) lv (.int (x ^^^ y) :: st') M
  | .idiv => ∃ x y st', st = .int y :: .int x :: st' ∧ ¬ y = 0 ∧ E (pc + 1) lv (.int (x / y) :: st') M
  | .irem => ∃ x y st', st = .int y :: .int x :: st' ∧ ¬ y = 0 ∧ E (pc + 1) lv (.int (x - x / y * y) :: st') M
  | .ishl => ∃ x y st', st = .int y :: .int x :: st' ∧ E (pc + 1) lv (.int (x <<< (y &&& 31)) :: st') M
  | .ishr => ∃ x y st', st = .int y :: .int x :: st' ∧ E (pc + 1) lv (.int (x >>> (y &&& 31)) :: st') M
  | .iushr => ∃ x y st', st = .int y :: .int x :: st' ∧ E (pc + 1) lv (.int (x.toUInt32 >>> (y.toUInt32 &&& Int32.toUInt32 31)).toInt32 :: st') M
  | .ineg => ∃ x st', st = .int x :: st' ∧ E (pc + 1) lv (.int (-x) :: st') M
  | .i2l => ∃ x st', st = .int x :: st' ∧ E (pc + 1) lv (.long x.toInt64 :: st') M
  | .i2b => ∃ x st', st = .int x :: st' ∧ E (pc + 1) lv (.int x.toInt8.toInt32 :: st') M
  | .ladd => ∃ x y st', st = .long y :: .long x :: st' ∧ E (pc + 1) lv (.long (x + y) :: st') M
  | .lsub => ∃ x y st', st = .long y :: .long x :: st' ∧ E (pc + 1) lv (.long (x - y) :: st') M
  | .lmul => ∃ x y st', st = .long y :: .long x :: st' ∧ E (pc + 1) lv (.long (x * y) :: st') M
  | .land => ∃ x y st', st = .long y :: .long x :: st' ∧ E (pc + 1) lv (.long (x &&& y) :: st') M
  | .lor => ∃ x y st', st = .long y :: .long x :: st' ∧ E (pc + 1) lv (.long (x ||| y) :: st') M
  | .ldiv => ∃ x y st', st = .long y :: .long x :: st' ∧ ¬ y = 0 ∧ E (pc + 1) lv (.long (x / y) :: st') M
  | .lrem => ∃ x y st', st = .long y :: .long x :: st' ∧ ¬ y = 0 ∧ E (pc + 1) lv (.long (x - x / y * y) :: st') M
  | .lneg => ∃ x st', st = .long x :: st' ∧ E (pc + 1) lv (.long (-x) :: st') M
  | .lshl => ∃ x y st', st = .int y :: .long x :: st' ∧ E (pc + 1) lv (.long (x <<< (y.toInt64 &&& 63)) :: st') M
  | .lshr => ∃ x y st', st = .int y :: .long x :: st' ∧ E (pc + 1) lv (.long (x >>> (y.toInt64 &&& 63)) :: st') M
  | .lcmp => ∃ x y st', st = .long y :: .long x :: st' ∧ E (pc + 1) lv (.int (lg_cmp x y) :: st') M
  | .dup => ∃ x st', st = x :: st' ∧ x.category = 1 ∧ E (pc + 1) lv (x :: x :: st') M
  | .dup_x1 => ∃ x y st', st = x :: y :: st' ∧ x.category = 1 ∧ y.category = 1 ∧ E (pc + 1) lv (x :: y :: x :: st') M
  | .dup2 => (∃ x y st', st = x :: y :: st' ∧ x.category = 1 ∧ y.category = 1 ∧ E (pc + 1) lv (x :: y :: x :: y :: st') M) ∨ (∃ x st', st = x :: st' ∧ x.category = 2 ∧ E (pc + 1) lv (x :: x :: st') M)
  | .ifCond c off => ∃ x st' t, st = .int x :: st' ∧ (pc : Int) + off = ((t : Nat) : Int) ∧ (vm_c c x 0 → E t lv st' M) ∧ (¬ vm_c c x 0 → E (pc + 3) lv st' M)
  | .if_icmp c off => ∃ x y st' t, st = .int y :: .int x :: st' ∧ (pc : Int) + off = ((t : Nat) : Int) ∧ (vm_c c x y → E t lv st' M) ∧ (¬ vm_c c x y → E (pc + 3) lv st' M)
  | .goto off => ∃ t, (pc : Int) + off = ((t : Nat) : Int) ∧ E t lv st M
  | .ifnull off => (∃ x st', st = .ref x :: st' ∧ E (pc + 3) lv st' M) ∨ (∃ st' t, st = .null :: st' ∧ (pc : Int) + off = ((t : Nat) : Int) ∧ E t lv st' M)
  | .ifnonnull off => (∃ x st' t, st = .ref x :: st' ∧ (pc : Int) + off = ((t : Nat) : Int) ∧ E t lv st' M) ∨ (∃ st', st = .null :: st' ∧ E (pc + 3) lv st' M)
  | .tableswitch dflt lo hi offs => ∃ x st', st = .int x :: st' ∧ ((∃ t, (x.toInt < lo ∨ hi < x.toInt) ∧ (pc : Int) + dflt = ((t : Nat) : Int) ∧ E t lv st' M) ∨ (∃ t off, ¬ x.toInt < lo ∧ ¬ hi < x.toInt ∧ offs[(x.toInt - lo).toNat]? = some off ∧ (pc : Int) + off = ((t : Nat) : Int) ∧ E t lv st' M))
  | .lookupswitch dflt ps => ∃ x st' t off, st = .int x :: st' ∧ (ps.toList.zip (ps.toList.drop 1)).all (fun (a, next) => a.1 < next.1) = true ∧ Op.lookupswitch.offset ps.toList dflt x.toInt = off ∧ (pc : Int) + off = ((t : Nat) : Int) ∧ E t lv st' M
  | .getfield _ => ∃ q st', st = .ref q :: st' ∧ q < vm_n M ∧ vm_sh M q = .inl a ∧ E (pc + 3) lv (vm_gv M q (vg_y a b) b :: st') M
  | .putfield _ => ∃ x q st' M', st = x :: .ref q :: st' ∧ q < vm_n M ∧ vm_sh M q = .inl a ∧ ((vg_T a b).2.2.2 = true → ini = true ∧ own = a) ∧ vm_pv M q (vg_y a b) b x M' ∧ E (pc + 3) lv st' M'
  | .arraylength => ∃ q st', st = .ref q :: st' ∧ ((∃ t n, q < vm_n M ∧ vm_sh M q = .inr (t, n) ∧ t < 5 ∧ E (pc + 1) lv (.int (Int32.ofNat n) :: st') M) ∨ (q = vm_scr ∧ own = 12 ∧ E (pc + 1) lv (.int (Int32.ofNat L) :: st') M))
  | .iaload => ∃ i q st', st = .int i :: .ref q :: st' ∧ ((∃ n, q < vm_n M ∧ vm_sh M q = .inr (0, n) ∧ vp_in i n ∧ E (pc + 1) lv (.int (vm_i M q i.toNatClampNeg) :: st') M) ∨ (q = vm_scr ∧ own = 12 ∧ vp_in i L ∧ E (pc + 1) lv (.int (xs i.toNatClampNeg) :: st') M))
  | .baload => ∃ i q st' n t, st = .int i :: .ref q :: st' ∧ q < vm_n M ∧ vm_sh M q = .inr (t, n) ∧ (t = 2 ∨ t = 3) ∧ vp_in i n ∧ E (pc + 1) lv (.int (vm_i M q i.toNatClampNeg) :: st') M
  | .laload => ∃ i q st' n, st = .int i :: .ref q :: st' ∧ q < vm_n M ∧ vm_sh M q = .inr (1, n) ∧ vp_in i n ∧ E (pc + 1) lv (.long (vm_l M q i.toNatClampNeg) :: st') M
  | .aaload => ∃ i q st' n, st = .int i :: .ref q :: st' ∧ q < vm_n M ∧ vm_sh M q = .inr (4, n) ∧ vp_in i n ∧ E (pc + 1) lv (va_rf (vm_rr M q i.toNatClampNeg) :: st') M
  | .iastore => ∃ x i q st' n, st = .int x :: .int i :: .ref q :: st' ∧ q < vm_n M ∧ vm_sh M q = .inr (0, n) ∧ vp_in i n ∧ E (pc + 1) lv st' (vm_pi M q i.toNatClampNeg x)
  | .bastore => ∃ x i q st' n t, st = .int x :: .int i :: .ref q :: st' ∧ q < vm_n M ∧ vm_sh M q = .inr (t, n) ∧ (t = 2 ∨ t = 3) ∧ vp_in i n ∧ E (pc + 1) lv st' (vm_pi M q i.toNatClampNeg (vp_nar (vm_at t) x))
  | .lastore => ∃ x i q st' n, st = .long x :: .int i :: .ref q :: st' ∧ q < vm_n M ∧ vm_sh M q = .inr (1, n) ∧ vp_in i n ∧ E (pc + 1) lv st' (vm_pl M q i.toNatClampNeg x)
  | .aastore => ∃ x i q st' n, st = .ref x :: .int i :: .ref q :: st' ∧ q < vm_n M ∧ vm_sh M q = .inr (4, n) ∧ x < vm_n M ∧ vm_sh M x = .inl 1 ∧ vp_in i n ∧ E (pc + 1) lv st' (vm_pr M q i.toNatClampNeg (some x))
  | .newarray ty => ∃ n st' t, st = .int n :: st' ∧ ¬ n < 0 ∧ t < 4 ∧ newarray.typeOf ty = vm_at t ∧ n.toNatClampNeg ≤ 1000000 ∧ E (pc + 2) lv (.ref (vm_n M) :: st') (vm_mk M (.inr (t, n.toNatClampNeg)) n.toNatClampNeg (fun _ => 0))
  | .anewarray _ => ∃ n st', st = .int n :: st' ∧ ¬ n < 0 ∧ n.toNatClampNeg ≤ 1000000 ∧ a = 1 ∧ E (pc + 3) lv (.ref (vm_n M) :: st') (vm_mk M (.inr (4, n.toNatClampNeg)) n.toNatClampNeg (fun _ => 0))
  | .new _ => E (pc + 3) lv (.ref (vm_n M) :: st) (vm_mk M (.inl a) (vg_N a) (fun _ => 0))
  | .checkcast _ => ∃ q st' n, st = .ref q :: st' ∧ q < vm_n M ∧ vm_sh M q = .inr (0, n) ∧ E (pc + 3) lv (.ref q :: st') M
  | .invokespecial _ => (a = 5 ∧ ∃ q st', st = .ref q :: st' ∧ vm_cat st' ≤ 8 ∧ E (pc + 3) lv st' M) ∨ ((a = 2 ∨ a = 3) ∧ ∃ as q st' rv M', st = as.reverse ++ .ref q :: st' ∧ as.length = vm_a b ∧ vm_cat st' ≤ 8 ∧ O b (.ref q :: as) M (rv, M') ∧ E (pc + 3) lv (rv.toList ++ st') M')
  | .invokestatic _ => ((a = 1 ∨ a = 10) ∧ ∃ as st' rv M', st = as.reverse ++ st' ∧ as.length = vm_a b ∧ vm_cat st' ≤ 8 ∧ O b as M (rv, M') ∧ E (pc + 3) lv (rv.toList ++ st') M') ∨
      (a = 4 ∧ b = 0 ∧ ∃ x y st', st = .int y :: .int x :: st' ∧ vm_cat st' ≤ 8 ∧ E (pc + 3) lv (.int (if x < y then y else x) :: st') M) ∨
      (a = 4 ∧ b = 1 ∧ ∃ x y st', st = .int y :: .int x :: st' ∧ vm_cat st' ≤ 8 ∧ E (pc + 3) lv (.int (if y < x then y else x) :: st') M) ∨
      (a = 4 ∧ b = 2 ∧ ∃ x st', st = .int x :: st' ∧ vm_cat st' ≤ 8 ∧ E (pc + 3) lv (.int (if 0 ≤ x then x else 0 - x) :: st') M) ∨
      (a = 4 ∧ b = 3 ∧ ∃ x y st', st = .long y :: .long x :: st' ∧ vm_cat st' ≤ 8 ∧ E (pc + 3) lv (.long (if y < x then x else y) :: st') M) ∨
      (a = 4 ∧ b = 4 ∧ ∃ x y st', st = .long y :: .long x :: st' ∧ vm_cat st' ≤ 8 ∧ E (pc + 3) lv (.long (if y < x then y else x) :: st') M) ∨
      (a = 4 ∧ b = 5 ∧ ∃ x st', st = .long x :: st' ∧ vm_cat st' ≤ 8 ∧ E (pc + 3) lv (.long (if 0 < x then x else -x) :: st') M) ∨
      (a = 7 ∧ ∃ n dp q sp p st' t n0 n1, st = .int n :: .int dp :: .ref q :: .int sp :: .ref p :: st' ∧ vm_cat st' ≤ 8 ∧ p < vm_n M ∧ q < vm_n M ∧ vm_sh M p = .inr (t, n0) ∧ vm_sh M q = .inr (t, n1) ∧ ¬ sp < 0 ∧ ¬ dp < 0 ∧ ¬ n < 0 ∧ sp.toNatClampNeg + n.toNatClampNeg ≤ n0 ∧ dp.toNatClampNeg + n.toNatClampNeg ≤ n1 ∧ ((t = 0 ∧ E (pc + 3) lv st' (vm_cp M p q sp.toNatClampNeg dp.toNatClampNeg n.toNatClampNeg)) ∨ (t = 1 ∧ E (pc + 3) lv st' (vm_cl M p q sp.toNatClampNeg dp.toNatClampNeg n.toNatClampNeg))))
  | .invokevirtual _ => (a = 0 ∧ ∃ as q st' rv M', st = as.reverse ++ .ref q :: st' ∧ as.length = vm_a b ∧ q < vm_n M ∧ vm_sh M q = .inl (vm_o b) ∧ vm_cat st' ≤ 8 ∧ O b (.ref q :: as) M (rv, M') ∧ E (pc + 3) lv (rv.toList ++ st') M') ∨
      (a = 6 ∧ ∃ q st' n, st = .ref q :: st' ∧ vm_cat st' ≤ 8 ∧ q < vm_n M ∧ vm_sh M q = .inr (0, n) ∧ E (pc + 3) lv (.ref (vm_n M) :: st') (vm_mk M (.inr (0, n)) n (vm_i M q))) ∨
      (a = 8 ∧ ∃ st', st = .ref vm_str :: st' ∧ vm_cat st' ≤ 8 ∧ E (pc + 3) lv (.int (Int32.ofNat vm_by.length) :: st') M) ∨
      (a = 9 ∧ ∃ i st', st = .int i :: .ref vm_str :: st' ∧ vm_cat st' ≤ 8 ∧ vp_in i vm_by.length ∧ E (pc + 3) lv (.int (vm_by.getD i.toNatClampNeg 0) :: st') M)
  | .ireturn => ∃ x, st = [.int x] ∧ r = (some (.int x), M)
  | .lreturn => ∃ x, st = [.long x] ∧ r = (some (.long x), M)
  | .areturn => ∃ x, st = [va_rf x] ∧ r = (some (va_rf x), M)
  | .return_ => st = [] ∧ r = (none, M)
  | _ => False
def vm_ex (O : Nat → List Value → vm_M → vm_R → Prop) (L : Nat) (xs : Nat → Int32) (own : Nat) (ini : Bool) (nL : Nat) (P : List vm_I) (r : vm_R) : Nat → Nat → vm_L → List Value → vm_M → Prop
  | 0 => fun _ _ _ _ => False
  | n + 1 => fun pc lv st M => ∃ ins a b v, (pc, ins, a, b, v) ∈ P ∧ vm_do O L xs own ini nL r (vm_ex O L xs own ini nL P r n) pc lv st M ins a b v
