/-! partial operations on the memory (none where the machine would throw), and rules for runs, an instruction each (wip/gen_ev.py) -/
def sg_i (M : vm_M) (q a b : Nat) : Option Int32 := if q < vm_n M ∧ vm_sh M q = .inl a then some (vm_i M q b) else none
def sg_l (M : vm_M) (q a b : Nat) : Option Int64 := if q < vm_n M ∧ vm_sh M q = .inl a then some (vm_l M q b) else none
def sg_r (M : vm_M) (q a b : Nat) : Option (Option Nat) := if q < vm_n M ∧ vm_sh M q = .inl a then some (vm_rr M q b) else none
def sp_i (M : vm_M) (q a b : Nat) (v : Int32) : Option vm_M := if q < vm_n M ∧ vm_sh M q = .inl a then some (vm_pi M q b v) else none
def sp_z (M : vm_M) (q a b : Nat) (v : Int32) : Option vm_M := if q < vm_n M ∧ vm_sh M q = .inl a ∧ (v = 0 ∨ v = 1) then some (vm_pi M q b v) else none
def sp_l (M : vm_M) (q a b : Nat) (v : Int64) : Option vm_M := if q < vm_n M ∧ vm_sh M q = .inl a then some (vm_pl M q b v) else none
def sp_r (M : vm_M) (q a b : Nat) (v : Option Nat) : Option vm_M := if q < vm_n M ∧ vm_sh M q = .inl a then some (vm_pr M q b v) else none
/-- the length of an array of that kind -/
def s_ln (M : vm_M) (q t : Nat) : Option Nat := if q < vm_n M then (match vm_sh M q with
  | .inr (u, n) => if u = t then some n else none
  | .inl _ => none) else none
def s_len (M : vm_M) (q t : Nat) : Option Int32 := (s_ln M q t).map Int32.ofNat
def sa_i (M : vm_M) (q t : Nat) (i : Int32) : Option Int32 := (s_ln M q t).bind fun n => if 0 ≤ i.toInt ∧ i.toInt < n then some (vm_i M q i.toNatClampNeg) else none
def sa_l (M : vm_M) (q : Nat) (i : Int32) : Option Int64 := (s_ln M q 1).bind fun n => if 0 ≤ i.toInt ∧ i.toInt < n then some (vm_l M q i.toNatClampNeg) else none
def sa_r (M : vm_M) (q : Nat) (i : Int32) : Option (Option Nat) := (s_ln M q 4).bind fun n => if 0 ≤ i.toInt ∧ i.toInt < n then some (vm_rr M q i.toNatClampNeg) else none
def ss_i (M : vm_M) (q t : Nat) (i v : Int32) : Option vm_M := (s_ln M q t).bind fun n => if 0 ≤ i.toInt ∧ i.toInt < n then some (vm_pi M q i.toNatClampNeg (vp_nar (vm_at t) v)) else none
def ss_l (M : vm_M) (q : Nat) (i : Int32) (v : Int64) : Option vm_M := (s_ln M q 1).bind fun n => if 0 ≤ i.toInt ∧ i.toInt < n then some (vm_pl M q i.toNatClampNeg v) else none
def ss_r (M : vm_M) (q : Nat) (i : Int32) (v : Nat) : Option vm_M := (s_ln M q 4).bind fun n => if 0 ≤ i.toInt ∧ i.toInt < n ∧ v < vm_n M ∧ vm_sh M v = .inl 1 then some (vm_pr M q i.toNatClampNeg (some v)) else none
def s_na (M : vm_M) (t : Nat) (n : Int32) : Option vm_M := if 0 ≤ n.toInt ∧ n.toInt ≤ 1000000 then some (vm_mk M (.inr (t, n.toNatClampNeg)) n.toNatClampNeg (fun _ => 0)) else none
def s_no (M : vm_M) (a : Nat) : Option vm_M := some (vm_mk M (.inl a) (vg_N a) (fun _ => 0))
def s_cl (M : vm_M) (q : Nat) : Option vm_M := (s_ln M q 0).map fun n => vm_mk M (.inr (0, n)) n (vm_i M q)
def s_cp (M : vm_M) (t p : Nat) (sp : Int32) (q : Nat) (dp n : Int32) : Option vm_M := (s_ln M p t).bind fun n0 => (s_ln M q t).bind fun n1 => if 0 ≤ sp.toInt ∧ 0 ≤ dp.toInt ∧ 0 ≤ n.toInt ∧ sp.toInt + n.toInt ≤ n0 ∧ dp.toInt + n.toInt ≤ n1 then some (if t = 0 then vm_cp M p q sp.toNatClampNeg dp.toNatClampNeg n.toNatClampNeg else vm_cl M p q sp.toNatClampNeg dp.toNatClampNeg n.toNatClampNeg) else none
def s_ch (i : Int32) : Option Int32 := if 0 ≤ i.toInt ∧ i.toInt < vm_by.length then some (vm_by.getD i.toNatClampNeg 0) else none
/-- the script -/
def s_sc (L : Nat) (xs : Nat → Int32) (i : Int32) : Option Int32 := if 0 ≤ i.toInt ∧ i.toInt < L then some (xs i.toNatClampNeg) else none
def s_dv (x y : Int32) : Option Int32 := if y = 0 then none else some (x / y)
def s_rm (x y : Int32) : Option Int32 := if y = 0 then none else some (x - x / y * y)
def s_dl (x y : Int64) : Option Int64 := if y = 0 then none else some (x / y)
def s_rl (x y : Int64) : Option Int64 := if y = 0 then none else some (x - x / y * y)
def s_rb (x : Int32) (M : vm_M) : Option (Int32 × vm_M) := if x &&& 1 = x then some (x, M) else none
def rI (r : Int32 × vm_M) : vm_R := (some (.int r.1), r.2)
def rJ (r : Int64 × vm_M) : vm_R := (some (.long r.1), r.2)
def rA (r : Option Nat × vm_M) : vm_R := (some (va_rf r.1), r.2)
def rV (r : vm_M) : vm_R := (none, r)
theorem s_nn {i : Int32} (h : 0 ≤ i.toInt) : ¬ i < 0 := fun z => by
  have := Int32.lt_iff_toInt_lt.mp z
  have e : (0 : Int32).toInt = 0 := rfl
  omega
theorem s_in {i : Int32} {n : Nat} (h : 0 ≤ i.toInt ∧ i.toInt < n) : vp_in i n := by
  rintro (z | z)
  · exact s_nn h.1 z
  · have e : i.toNatClampNeg = i.toInt.toNat := rfl
    omega
theorem s_ln_of {M : vm_M} {q t n : Nat} (h : s_ln M q t = some n) : q < vm_n M ∧ vm_sh M q = .inr (t, n) := by
  unfold s_ln at h
  by_cases hq : q < vm_n M
  · rw [if_pos hq] at h
    cases hs : vm_sh M q with
    | inl c => rw [hs] at h; cases h
    | inr p =>
      obtain ⟨u, k⟩ := p
      rw [hs] at h
      dsimp only at h
      by_cases hu : u = t
      · rw [if_pos hu] at h
        cases h
        subst hu
        exact ⟨hq, rfl⟩
      · rw [if_neg hu] at h
        cases h
  · rw [if_neg hq] at h
    cases h
theorem ite_so {α : Type} {c : Prop} [Decidable c] {a b : Option α} {r : α} (h : (if c then a else b) = some r) : (c ∧ a = some r) ∨ (¬ c ∧ b = some r) := by
  by_cases hc : c
  · exact Or.inl ⟨hc, by rwa [if_pos hc] at h⟩
  · exact Or.inr ⟨hc, by rwa [if_neg hc] at h⟩
theorem bind_so {α β : Type} {o : Option α} {f : α → Option β} {r : β} (h : o.bind f = some r) : ∃ v, o = some v ∧ f v = some r := Option.bind_eq_some_iff.mp h
/-- a run from here to that end -/
def Ev (L : Nat) (xs : Nat → Int32) (O : Nat → List Value → vm_M → vm_R → Prop) (P : List vm_I) (own nL : Nat) (ini : Bool) (t : Option FieldType) (r : vm_R) (pc : Nat) (lv : vm_L) (st : List Value) (M : vm_M) : Prop :=
  vm_rt t r.1 ∧ ∃ n, vm_ex O L xs own ini nL P r n pc lv st M
theorem m1 {lv : vm_L} {i j : Nat} {v w : Value} (h : (j, w) ∈ lv) (hc : (!(j == i) && !(j + 1 == i && w.category == 2)) = true) : (j, w) ∈ vm_st1 lv i v := List.mem_cons_of_mem _ (List.mem_filter.mpr ⟨h, hc⟩)
theorem m2 {lv : vm_L} {i j : Nat} {v w : Value} (h : (j, w) ∈ lv) (hc : (!(j == i) && (!(j == i + 1) && !(j + 1 == i && w.category == 2))) = true) : (j, w) ∈ vm_st2 lv i v := List.mem_cons_of_mem _ (List.mem_filter.mpr ⟨h, hc⟩)
theorem va_rf_cat (x : Option Nat) : ((va_rf x).category == 2) = false := by cases x <;> rfl
theorem va_rf_c1 (x : Option Nat) : (va_rf x).category = 1 := by cases x <;> rfl
theorem vm_cat_0 : vm_cat [] = 0 := rfl
theorem vm_cat_I (x : Int32) (st : List Value) : vm_cat (.int x :: st) = 1 + vm_cat st := by simp [vm_cat, Value.category]
theorem vm_cat_J (x : Int64) (st : List Value) : vm_cat (.long x :: st) = 2 + vm_cat st := by simp [vm_cat, Value.category]
theorem vm_cat_R (x : Nat) (st : List Value) : vm_cat (.ref x :: st) = 1 + vm_cat st := by simp [vm_cat, Value.category]
theorem vm_cat_A (x : Option Nat) (st : List Value) : vm_cat (va_rf x :: st) = 1 + vm_cat st := by cases x <;> simp [vm_cat, Value.category, va_rf]
theorem m1A {lv : vm_L} {i j : Nat} {v : Value} {x : Option Nat} (h : (j, va_rf x) ∈ lv) (hc : (!(j == i)) = true) : (j, va_rf x) ∈ vm_st1 lv i v := m1 h (by rw [va_rf_cat]; simpa using hc)
theorem m2A {lv : vm_L} {i j : Nat} {v : Value} {x : Option Nat} (h : (j, va_rf x) ∈ lv) (hc : (!(j == i) && !(j == i + 1)) = true) : (j, va_rf x) ∈ vm_st2 lv i v := m2 h (by rw [va_rf_cat]; simpa using hc)
theorem m1s {lv : vm_L} {i : Nat} {v : Value} : (i, v) ∈ vm_st1 lv i v := List.mem_cons_self
theorem m2s {lv : vm_L} {i : Nat} {v : Value} : (i, v) ∈ vm_st2 lv i v := List.mem_cons_self
section EV
variable {L : Nat} {xs : Nat → Int32} {O : Nat → List Value → vm_M → vm_R → Prop} {P : List vm_I} {own nL : Nat} {ini : Bool} {t : Option FieldType} {r : vm_R} {pc : Nat} {lv : vm_L} {st : List Value} {M : vm_M}
theorem ev_iconst {n : Int} {v : Int32} (hm : (pc, .iconst n, 0, 0, 0) ∈ P) (hv : Int32.ofInt n = v) (k : Ev L xs O P own nL ini t r (pc + 1) lv (.int v :: st) M) : Ev L xs O P own nL ini t r pc lv st M := ⟨k.1, k.2.choose + 1, _, _, _, _, hm, hv ▸ k.2.choose_spec⟩
theorem ev_bipush {n : Int} {v : Int32} (hm : (pc, .bipush n, 0, 0, 0) ∈ P) (hv : (Int8.ofInt n).toInt32 = v) (k : Ev L xs O P own nL ini t r (pc + 2) lv (.int v :: st) M) : Ev L xs O P own nL ini t r pc lv st M := ⟨k.1, k.2.choose + 1, _, _, _, _, hm, hv ▸ k.2.choose_spec⟩
theorem ev_sipush {n : Int} {v : Int32} (hm : (pc, .sipush n, 0, 0, 0) ∈ P) (hv : (Int16.ofInt n).toInt32 = v) (k : Ev L xs O P own nL ini t r (pc + 3) lv (.int v :: st) M) : Ev L xs O P own nL ini t r pc lv st M := ⟨k.1, k.2.choose + 1, _, _, _, _, hm, hv ▸ k.2.choose_spec⟩
theorem ev_lconst {n : Fin 2} {v : Int64} (hm : (pc, .lconst n, 0, 0, 0) ∈ P) (hv : Int64.ofNat (n : Nat) = v) (k : Ev L xs O P own nL ini t r (pc + 1) lv (.long v :: st) M) : Ev L xs O P own nL ini t r pc lv st M := ⟨k.1, k.2.choose + 1, _, _, _, _, hm, hv ▸ k.2.choose_spec⟩
theorem ev_aconst_null  (hm : (pc, .aconst_null, 0, 0, 0) ∈ P)  (k : Ev L xs O P own nL ini t r (pc + 1) lv (va_rf none :: st) M) : Ev L xs O P own nL ini t r pc lv st M := ⟨k.1, k.2.choose + 1, _, _, _, _, hm, k.2.choose_spec⟩
theorem ev_ldc {i : Nat} {n : Int} {v : Int32} (hm : (pc, .ldc i, 0, 0, n) ∈ P) (hv : Int32.ofInt n = v) (k : Ev L xs O P own nL ini t r (pc + 2) lv (.int v :: st) M) : Ev L xs O P own nL ini t r pc lv st M := ⟨k.1, k.2.choose + 1, _, _, _, _, hm, Or.inl ⟨rfl, hv ▸ k.2.choose_spec⟩⟩
theorem ev_ldcS {i : Nat} (hm : (pc, .ldc i, 1, 0, 0) ∈ P)  (k : Ev L xs O P own nL ini t r (pc + 2) lv (.ref vm_str :: st) M) : Ev L xs O P own nL ini t r pc lv st M := ⟨k.1, k.2.choose + 1, _, _, _, _, hm, Or.inr ⟨rfl, k.2.choose_spec⟩⟩
theorem ev_ldc_w {i : Nat} {n : Int} {v : Int32} (hm : (pc, .ldc_w i, 0, 0, n) ∈ P) (hv : Int32.ofInt n = v) (k : Ev L xs O P own nL ini t r (pc + 3) lv (.int v :: st) M) : Ev L xs O P own nL ini t r pc lv st M := ⟨k.1, k.2.choose + 1, _, _, _, _, hm, hv ▸ k.2.choose_spec⟩
theorem ev_ldc2_w {i : Nat} {n : Int} {v : Int64} (hm : (pc, .ldc2_w i, 0, 0, n) ∈ P) (hv : Int64.ofInt n = v) (k : Ev L xs O P own nL ini t r (pc + 3) lv (.long v :: st) M) : Ev L xs O P own nL ini t r pc lv st M := ⟨k.1, k.2.choose + 1, _, _, _, _, hm, hv ▸ k.2.choose_spec⟩
theorem ev_iload {i : Nat} {x : Int32} (hm : (pc, .iload i, 0, 0, 0) ∈ P) (hx : (i, .int x) ∈ lv) (k : Ev L xs O P own nL ini t r (pc + 2) lv (.int x :: st) M) : Ev L xs O P own nL ini t r pc lv st M := ⟨k.1, k.2.choose + 1, _, _, _, _, hm, ⟨x, hx, k.2.choose_spec⟩⟩
theorem ev_iload_n {i : Fin 4} {x : Int32} (hm : (pc, .iload_n i, 0, 0, 0) ∈ P) (hx : ((i : Nat), .int x) ∈ lv) (k : Ev L xs O P own nL ini t r (pc + 1) lv (.int x :: st) M) : Ev L xs O P own nL ini t r pc lv st M := ⟨k.1, k.2.choose + 1, _, _, _, _, hm, ⟨x, hx, k.2.choose_spec⟩⟩
theorem ev_lload {i : Nat} {x : Int64} (hm : (pc, .lload i, 0, 0, 0) ∈ P) (hx : (i, .long x) ∈ lv) (k : Ev L xs O P own nL ini t r (pc + 2) lv (.long x :: st) M) : Ev L xs O P own nL ini t r pc lv st M := ⟨k.1, k.2.choose + 1, _, _, _, _, hm, ⟨x, hx, k.2.choose_spec⟩⟩
theorem ev_lload_n {i : Fin 4} {x : Int64} (hm : (pc, .lload_n i, 0, 0, 0) ∈ P) (hx : ((i : Nat), .long x) ∈ lv) (k : Ev L xs O P own nL ini t r (pc + 1) lv (.long x :: st) M) : Ev L xs O P own nL ini t r pc lv st M := ⟨k.1, k.2.choose + 1, _, _, _, _, hm, ⟨x, hx, k.2.choose_spec⟩⟩
theorem ev_aload {i : Nat} {x : Option Nat} (hm : (pc, .aload i, 0, 0, 0) ∈ P) (hx : (i, va_rf x) ∈ lv) (k : Ev L xs O P own nL ini t r (pc + 2) lv (va_rf x :: st) M) : Ev L xs O P own nL ini t r pc lv st M := ⟨k.1, k.2.choose + 1, _, _, _, _, hm, ⟨x, hx, k.2.choose_spec⟩⟩
theorem ev_aload_n {i : Fin 4} {x : Option Nat} (hm : (pc, .aload_n i, 0, 0, 0) ∈ P) (hx : ((i : Nat), va_rf x) ∈ lv) (k : Ev L xs O P own nL ini t r (pc + 1) lv (va_rf x :: st) M) : Ev L xs O P own nL ini t r pc lv st M := ⟨k.1, k.2.choose + 1, _, _, _, _, hm, ⟨x, hx, k.2.choose_spec⟩⟩
theorem ev_astore {i : Nat} {x : Option Nat} (hm : (pc, .astore i, 0, 0, 0) ∈ P) (hi : i < nL) (k : Ev L xs O P own nL ini t r (pc + 2) (vm_st1 lv i (va_rf x)) st M) : Ev L xs O P own nL ini t r pc lv (va_rf x :: st) M := ⟨k.1, k.2.choose + 1, _, _, _, _, hm, ⟨x, st, rfl, hi, k.2.choose_spec⟩⟩
theorem ev_astore_n {i : Fin 4} {x : Option Nat} (hm : (pc, .astore_n i, 0, 0, 0) ∈ P) (hi : (i : Nat) < nL) (k : Ev L xs O P own nL ini t r (pc + 1) (vm_st1 lv i (va_rf x)) st M) : Ev L xs O P own nL ini t r pc lv (va_rf x :: st) M := ⟨k.1, k.2.choose + 1, _, _, _, _, hm, ⟨x, st, rfl, hi, k.2.choose_spec⟩⟩
theorem ev_aloadR {i : Nat} {x : Nat} (hm : (pc, .aload i, 0, 0, 0) ∈ P) (hx : (i, .ref x) ∈ lv) (k : Ev L xs O P own nL ini t r (pc + 2) lv (.ref x :: st) M) : Ev L xs O P own nL ini t r pc lv st M := ⟨k.1, k.2.choose + 1, _, _, _, _, hm, ⟨(some x), hx, k.2.choose_spec⟩⟩
theorem ev_aload_nR {i : Fin 4} {x : Nat} (hm : (pc, .aload_n i, 0, 0, 0) ∈ P) (hx : ((i : Nat), .ref x) ∈ lv) (k : Ev L xs O P own nL ini t r (pc + 1) lv (.ref x :: st) M) : Ev L xs O P own nL ini t r pc lv st M := ⟨k.1, k.2.choose + 1, _, _, _, _, hm, ⟨(some x), hx, k.2.choose_spec⟩⟩
theorem ev_astoreR {i : Nat} {x : Nat} (hm : (pc, .astore i, 0, 0, 0) ∈ P) (hi : i < nL) (k : Ev L xs O P own nL ini t r (pc + 2) (vm_st1 lv i (.ref x)) st M) : Ev L xs O P own nL ini t r pc lv (.ref x :: st) M := ⟨k.1, k.2.choose + 1, _, _, _, _, hm, ⟨(some x), st, rfl, hi, k.2.choose_spec⟩⟩
theorem ev_astore_nR {i : Fin 4} {x : Nat} (hm : (pc, .astore_n i, 0, 0, 0) ∈ P) (hi : (i : Nat) < nL) (k : Ev L xs O P own nL ini t r (pc + 1) (vm_st1 lv i (.ref x)) st M) : Ev L xs O P own nL ini t r pc lv (.ref x :: st) M := ⟨k.1, k.2.choose + 1, _, _, _, _, hm, ⟨(some x), st, rfl, hi, k.2.choose_spec⟩⟩
theorem ev_istore {i : Nat} {x : Int32} (hm : (pc, .istore i, 0, 0, 0) ∈ P) (hi : i < nL) (k : Ev L xs O P own nL ini t r (pc + 2) (vm_st1 lv i (.int x)) st M) : Ev L xs O P own nL ini t r pc lv (.int x :: st) M := ⟨k.1, k.2.choose + 1, _, _, _, _, hm, ⟨x, st, rfl, hi, k.2.choose_spec⟩⟩
theorem ev_istore_n {i : Fin 4} {x : Int32} (hm : (pc, .istore_n i, 0, 0, 0) ∈ P) (hi : (i : Nat) < nL) (k : Ev L xs O P own nL ini t r (pc + 1) (vm_st1 lv i (.int x)) st M) : Ev L xs O P own nL ini t r pc lv (.int x :: st) M := ⟨k.1, k.2.choose + 1, _, _, _, _, hm, ⟨x, st, rfl, hi, k.2.choose_spec⟩⟩
theorem ev_lstore {i : Nat} {x : Int64} (hm : (pc, .lstore i, 0, 0, 0) ∈ P) (hi : i + 1 < nL) (k : Ev L xs O P own nL ini t r (pc + 2) (vm_st2 lv i (.long x)) st M) : Ev L xs O P own nL ini t r pc lv (.long x :: st) M := ⟨k.1, k.2.choose + 1, _, _, _, _, hm, ⟨x, st, rfl, hi, k.2.choose_spec⟩⟩
theorem ev_lstore_n {i : Fin 4} {x : Int64} (hm : (pc, .lstore_n i, 0, 0, 0) ∈ P) (hi : (i : Nat) + 1 < nL) (k : Ev L xs O P own nL ini t r (pc + 1) (vm_st2 lv i (.long x)) st M) : Ev L xs O P own nL ini t r pc lv (.long x :: st) M := ⟨k.1, k.2.choose + 1, _, _, _, _, hm, ⟨x, st, rfl, hi, k.2.choose_spec⟩⟩
theorem ev_iinc {i : Nat} {n : Int} {x c : Int32} (hm : (pc, .iinc i n, 0, 0, 0) ∈ P) (hv : Int32.ofInt n = c) (hx : (i, .int x) ∈ lv) (hi : i < nL) (k : Ev L xs O P own nL ini t r (pc + 3) (vm_st1 lv i (.int (x + c))) st M) : Ev L xs O P own nL ini t r pc lv st M := ⟨k.1, k.2.choose + 1, _, _, _, _, hm, ⟨x, hx, hi, hv ▸ k.2.choose_spec⟩⟩
theorem ev_iadd {x y : Int32} (hm : (pc, .iadd, 0, 0, 0) ∈ P)  (k : Ev L xs O P own nL ini t r (pc + 1) lv (.int (x + y) :: st) M) : Ev L xs O P own nL ini t r pc lv (.int y :: .int x :: st) M := ⟨k.1, k.2.choose + 1, _, _, _, _, hm, ⟨x, y, st, rfl, k.2.choose_spec⟩⟩
theorem ev_isub {x y : Int32} (hm : (pc, .isub, 0, 0, 0) ∈ P)  (k : Ev L xs O P own nL ini t r (pc + 1) lv (.int (x - y) :: st) M) : Ev L xs O P own nL ini t r pc lv (.int y :: .int x :: st) M := ⟨k.1, k.2.choose + 1, _, _, _, _, hm, ⟨x, y, st, rfl, k.2.choose_spec⟩⟩
theorem ev_imul {x y : Int32} (hm : (pc, .imul, 0, 0, 0) ∈ P)  (k : Ev L xs O P own nL ini t r (pc + 1) lv (.int (x * y) :: st) M) : Ev L xs O P own nL ini t r pc lv (.int y :: .int x :: st) M := ⟨k.1, k.2.choose + 1, _, _, _, _, hm, ⟨x, y, st, rfl, k.2.choose_spec⟩⟩
theorem ev_iand {x y : Int32} (hm : (pc, .iand, 0, 0, 0) ∈ P)  (k : Ev L xs O P own nL ini t r (pc + 1) lv (.int (x &&& y) :: st) M) : Ev L xs O P own nL ini t r pc lv (.int y :: .int x :: st) M := ⟨k.1, k.2.choose + 1, _, _, _, _, hm, ⟨x, y, st, rfl, k.2.choose_spec⟩⟩
theorem ev_ior {x y : Int32} (hm : (pc, .ior, 0, 0, 0) ∈ P)  (k : Ev L xs O P own nL ini t r (pc + 1) lv (.int (x ||| y) :: st) M) : Ev L xs O P own nL ini t r pc lv (.int y :: .int x :: st) M := ⟨k.1, k.2.choose + 1, _, _, _, _, hm, ⟨x, y, st, rfl, k.2.choose_spec⟩⟩
theorem ev_ixor {x y : Int32} (hm : (pc, .ixor, 0, 0, 0) ∈ P)  (k : Ev L xs O P own nL ini t r (pc + 1) lv (.int (x ^^^ y) :: st) M) : Ev L xs O P own nL ini t r pc lv (.int y :: .int x :: st) M := ⟨k.1, k.2.choose + 1, _, _, _, _, hm, ⟨x, y, st, rfl, k.2.choose_spec⟩⟩
theorem ev_ishl {x y : Int32} (hm : (pc, .ishl, 0, 0, 0) ∈ P)  (k : Ev L xs O P own nL ini t r (pc + 1) lv (.int (x <<< (y &&& 31)) :: st) M) : Ev L xs O P own nL ini t r pc lv (.int y :: .int x :: st) M := ⟨k.1, k.2.choose + 1, _, _, _, _, hm, ⟨x, y, st, rfl, k.2.choose_spec⟩⟩
theorem ev_ishr {x y : Int32} (hm : (pc, .ishr, 0, 0, 0) ∈ P)  (k : Ev L xs O P own nL ini t r (pc + 1) lv (.int (x >>> (y &&& 31)) :: st) M) : Ev L xs O P own nL ini t r pc lv (.int y :: .int x :: st) M := ⟨k.1, k.2.choose + 1, _, _, _, _, hm, ⟨x, y, st, rfl, k.2.choose_spec⟩⟩
theorem ev_iushr {x y : Int32} (hm : (pc, .iushr, 0, 0, 0) ∈ P)  (k : Ev L xs O P own nL ini t r (pc + 1) lv (.int ((x.toUInt32 >>> (y.toUInt32 &&& Int32.toUInt32 31)).toInt32) :: st) M) : Ev L xs O P own nL ini t r pc lv (.int y :: .int x :: st) M := ⟨k.1, k.2.choose + 1, _, _, _, _, hm, ⟨x, y, st, rfl, k.2.choose_spec⟩⟩
theorem ev_ladd {x y : Int64} (hm : (pc, .ladd, 0, 0, 0) ∈ P)  (k : Ev L xs O P own nL ini t r (pc + 1) lv (.long (x + y) :: st) M) : Ev L xs O P own nL ini t r pc lv (.long y :: .long x :: st) M := ⟨k.1, k.2.choose + 1, _, _, _, _, hm, ⟨x, y, st, rfl, k.2.choose_spec⟩⟩
theorem ev_lsub {x y : Int64} (hm : (pc, .lsub, 0, 0, 0) ∈ P)  (k : Ev L xs O P own nL ini t r (pc + 1) lv (.long (x - y) :: st) M) : Ev L xs O P own nL ini t r pc lv (.long y :: .long x :: st) M := ⟨k.1, k.2.choose + 1, _, _, _, _, hm, ⟨x, y, st, rfl, k.2.choose_spec⟩⟩
theorem ev_lmul {x y : Int64} (hm : (pc, .lmul, 0, 0, 0) ∈ P)  (k : Ev L xs O P own nL ini t r (pc + 1) lv (.long (x * y) :: st) M) : Ev L xs O P own nL ini t r pc lv (.long y :: .long x :: st) M := ⟨k.1, k.2.choose + 1, _, _, _, _, hm, ⟨x, y, st, rfl, k.2.choose_spec⟩⟩
theorem ev_land {x y : Int64} (hm : (pc, .land, 0, 0, 0) ∈ P)  (k : Ev L xs O P own nL ini t r (pc + 1) lv (.long (x &&& y) :: st) M) : Ev L xs O P own nL ini t r pc lv (.long y :: .long x :: st) M := ⟨k.1, k.2.choose + 1, _, _, _, _, hm, ⟨x, y, st, rfl, k.2.choose_spec⟩⟩
theorem ev_lor {x y : Int64} (hm : (pc, .lor, 0, 0, 0) ∈ P)  (k : Ev L xs O P own nL ini t r (pc + 1) lv (.long (x ||| y) :: st) M) : Ev L xs O P own nL ini t r pc lv (.long y :: .long x :: st) M := ⟨k.1, k.2.choose + 1, _, _, _, _, hm, ⟨x, y, st, rfl, k.2.choose_spec⟩⟩
theorem ev_lshl {x : Int64} {y : Int32} (hm : (pc, .lshl, 0, 0, 0) ∈ P)  (k : Ev L xs O P own nL ini t r (pc + 1) lv (.long (x <<< (y.toInt64 &&& 63)) :: st) M) : Ev L xs O P own nL ini t r pc lv (.int y :: .long x :: st) M := ⟨k.1, k.2.choose + 1, _, _, _, _, hm, ⟨x, y, st, rfl, k.2.choose_spec⟩⟩
theorem ev_lshr {x : Int64} {y : Int32} (hm : (pc, .lshr, 0, 0, 0) ∈ P)  (k : Ev L xs O P own nL ini t r (pc + 1) lv (.long (x >>> (y.toInt64 &&& 63)) :: st) M) : Ev L xs O P own nL ini t r pc lv (.int y :: .long x :: st) M := ⟨k.1, k.2.choose + 1, _, _, _, _, hm, ⟨x, y, st, rfl, k.2.choose_spec⟩⟩
theorem ev_lcmp {x y : Int64} (hm : (pc, .lcmp, 0, 0, 0) ∈ P)  (k : Ev L xs O P own nL ini t r (pc + 1) lv (.int (lg_cmp x y) :: st) M) : Ev L xs O P own nL ini t r pc lv (.long y :: .long x :: st) M := ⟨k.1, k.2.choose + 1, _, _, _, _, hm, ⟨x, y, st, rfl, k.2.choose_spec⟩⟩
theorem ev_ineg {x : Int32} (hm : (pc, .ineg, 0, 0, 0) ∈ P)  (k : Ev L xs O P own nL ini t r (pc + 1) lv (.int (-x) :: st) M) : Ev L xs O P own nL ini t r pc lv (.int x :: st) M := ⟨k.1, k.2.choose + 1, _, _, _, _, hm, ⟨x, st, rfl, k.2.choose_spec⟩⟩
theorem ev_lneg {x : Int64} (hm : (pc, .lneg, 0, 0, 0) ∈ P)  (k : Ev L xs O P own nL ini t r (pc + 1) lv (.long (-x) :: st) M) : Ev L xs O P own nL ini t r pc lv (.long x :: st) M := ⟨k.1, k.2.choose + 1, _, _, _, _, hm, ⟨x, st, rfl, k.2.choose_spec⟩⟩
theorem ev_i2l {x : Int32} (hm : (pc, .i2l, 0, 0, 0) ∈ P)  (k : Ev L xs O P own nL ini t r (pc + 1) lv (.long x.toInt64 :: st) M) : Ev L xs O P own nL ini t r pc lv (.int x :: st) M := ⟨k.1, k.2.choose + 1, _, _, _, _, hm, ⟨x, st, rfl, k.2.choose_spec⟩⟩
theorem ev_i2b {x : Int32} (hm : (pc, .i2b, 0, 0, 0) ∈ P)  (k : Ev L xs O P own nL ini t r (pc + 1) lv (.int x.toInt8.toInt32 :: st) M) : Ev L xs O P own nL ini t r pc lv (.int x :: st) M := ⟨k.1, k.2.choose + 1, _, _, _, _, hm, ⟨x, st, rfl, k.2.choose_spec⟩⟩
theorem ev_idiv {x y v : Int32} (hm : (pc, .idiv, 0, 0, 0) ∈ P) (e : s_dv x y = some v) (k : Ev L xs O P own nL ini t r (pc + 1) lv (.int v :: st) M) : Ev L xs O P own nL ini t r pc lv (.int y :: .int x :: st) M := by
  unfold s_dv at e
  rcases ite_so e with ⟨-, e⟩ | ⟨c, e⟩
  · cases e
  · cases e
    exact ⟨k.1, k.2.choose + 1, _, _, _, _, hm, x, y, st, rfl, c, k.2.choose_spec⟩
theorem ev_irem {x y v : Int32} (hm : (pc, .irem, 0, 0, 0) ∈ P) (e : s_rm x y = some v) (k : Ev L xs O P own nL ini t r (pc + 1) lv (.int v :: st) M) : Ev L xs O P own nL ini t r pc lv (.int y :: .int x :: st) M := by
  unfold s_rm at e
  rcases ite_so e with ⟨-, e⟩ | ⟨c, e⟩
  · cases e
  · cases e
    exact ⟨k.1, k.2.choose + 1, _, _, _, _, hm, x, y, st, rfl, c, k.2.choose_spec⟩
theorem ev_ldiv {x y v : Int64} (hm : (pc, .ldiv, 0, 0, 0) ∈ P) (e : s_dl x y = some v) (k : Ev L xs O P own nL ini t r (pc + 1) lv (.long v :: st) M) : Ev L xs O P own nL ini t r pc lv (.long y :: .long x :: st) M := by
  unfold s_dl at e
  rcases ite_so e with ⟨-, e⟩ | ⟨c, e⟩
  · cases e
  · cases e
    exact ⟨k.1, k.2.choose + 1, _, _, _, _, hm, x, y, st, rfl, c, k.2.choose_spec⟩
theorem ev_lrem {x y v : Int64} (hm : (pc, .lrem, 0, 0, 0) ∈ P) (e : s_rl x y = some v) (k : Ev L xs O P own nL ini t r (pc + 1) lv (.long v :: st) M) : Ev L xs O P own nL ini t r pc lv (.long y :: .long x :: st) M := by
  unfold s_rl at e
  rcases ite_so e with ⟨-, e⟩ | ⟨c, e⟩
  · cases e
  · cases e
    exact ⟨k.1, k.2.choose + 1, _, _, _, _, hm, x, y, st, rfl, c, k.2.choose_spec⟩
theorem ev_dup {x : Option Nat} (hm : (pc, .dup, 0, 0, 0) ∈ P)  (k : Ev L xs O P own nL ini t r (pc + 1) lv (va_rf x :: va_rf x :: st) M) : Ev L xs O P own nL ini t r pc lv (va_rf x :: st) M := ⟨k.1, k.2.choose + 1, _, _, _, _, hm, ⟨_, st, rfl, by cases x <;> rfl, k.2.choose_spec⟩⟩
theorem ev_dupR {x : Nat} (hm : (pc, .dup, 0, 0, 0) ∈ P)  (k : Ev L xs O P own nL ini t r (pc + 1) lv (.ref x :: .ref x :: st) M) : Ev L xs O P own nL ini t r pc lv (.ref x :: st) M := ⟨k.1, k.2.choose + 1, _, _, _, _, hm, ⟨_, st, rfl, rfl, k.2.choose_spec⟩⟩
theorem ev_dupI {x : Int32} (hm : (pc, .dup, 0, 0, 0) ∈ P)  (k : Ev L xs O P own nL ini t r (pc + 1) lv (.int x :: .int x :: st) M) : Ev L xs O P own nL ini t r pc lv (.int x :: st) M := ⟨k.1, k.2.choose + 1, _, _, _, _, hm, ⟨_, st, rfl, rfl, k.2.choose_spec⟩⟩
theorem ev_dup2J {x : Int64} (hm : (pc, .dup2, 0, 0, 0) ∈ P)  (k : Ev L xs O P own nL ini t r (pc + 1) lv (.long x :: .long x :: st) M) : Ev L xs O P own nL ini t r pc lv (.long x :: st) M := ⟨k.1, k.2.choose + 1, _, _, _, _, hm, Or.inr ⟨_, st, rfl, rfl, k.2.choose_spec⟩⟩
theorem ev_dup2 {x y : Value} (hm : (pc, .dup2, 0, 0, 0) ∈ P) (cx : x.category = 1) (cy : y.category = 1) (k : Ev L xs O P own nL ini t r (pc + 1) lv (x :: y :: x :: y :: st) M) : Ev L xs O P own nL ini t r pc lv (x :: y :: st) M := ⟨k.1, k.2.choose + 1, _, _, _, _, hm, Or.inl ⟨_, _, st, rfl, cx, cy, k.2.choose_spec⟩⟩
theorem ev_dup_x1 {x y : Value} (hm : (pc, .dup_x1, 0, 0, 0) ∈ P) (cx : x.category = 1) (cy : y.category = 1) (k : Ev L xs O P own nL ini t r (pc + 1) lv (x :: y :: x :: st) M) : Ev L xs O P own nL ini t r pc lv (x :: y :: st) M := ⟨k.1, k.2.choose + 1, _, _, _, _, hm, ⟨_, _, st, rfl, cx, cy, k.2.choose_spec⟩⟩
theorem ev_goto {off : Int} (T : Nat) (hm : (pc, .goto off, 0, 0, 0) ∈ P) (ht : (pc : Int) + off = (T : Int)) (k : Ev L xs O P own nL ini t r T lv st M) : Ev L xs O P own nL ini t r pc lv st M := ⟨k.1, k.2.choose + 1, _, _, _, _, hm, ⟨T, ht, k.2.choose_spec⟩⟩
theorem ev_if_t {c : Jvm.ClassFile.Cond} {off : Int} {x : Int32} (T : Nat) (hm : (pc, .ifCond c off, 0, 0, 0) ∈ P) (ht : (pc : Int) + off = (T : Int)) (h : vm_c c x 0) (k : Ev L xs O P own nL ini t r T lv st M) : Ev L xs O P own nL ini t r pc lv (.int x :: st) M := ⟨k.1, k.2.choose + 1, _, _, _, _, hm, ⟨x, st, T, rfl, ht, fun _ => k.2.choose_spec, fun z => absurd h z⟩⟩
theorem ev_if_f {c : Jvm.ClassFile.Cond} {off : Int} {x : Int32} (T : Nat) (hm : (pc, .ifCond c off, 0, 0, 0) ∈ P) (ht : (pc : Int) + off = (T : Int)) (h : ¬ vm_c c x 0) (k : Ev L xs O P own nL ini t r (pc + 3) lv st M) : Ev L xs O P own nL ini t r pc lv (.int x :: st) M := ⟨k.1, k.2.choose + 1, _, _, _, _, hm, ⟨x, st, T, rfl, ht, fun z => absurd z h, fun _ => k.2.choose_spec⟩⟩
theorem ev_ic_t {c : Jvm.ClassFile.Cond} {off : Int} {x y : Int32} (T : Nat) (hm : (pc, .if_icmp c off, 0, 0, 0) ∈ P) (ht : (pc : Int) + off = (T : Int)) (h : vm_c c x y) (k : Ev L xs O P own nL ini t r T lv st M) : Ev L xs O P own nL ini t r pc lv (.int y :: .int x :: st) M := ⟨k.1, k.2.choose + 1, _, _, _, _, hm, ⟨x, y, st, T, rfl, ht, fun _ => k.2.choose_spec, fun z => absurd h z⟩⟩
theorem ev_ic_f {c : Jvm.ClassFile.Cond} {off : Int} {x y : Int32} (T : Nat) (hm : (pc, .if_icmp c off, 0, 0, 0) ∈ P) (ht : (pc : Int) + off = (T : Int)) (h : ¬ vm_c c x y) (k : Ev L xs O P own nL ini t r (pc + 3) lv st M) : Ev L xs O P own nL ini t r pc lv (.int y :: .int x :: st) M := ⟨k.1, k.2.choose + 1, _, _, _, _, hm, ⟨x, y, st, T, rfl, ht, fun z => absurd z h, fun _ => k.2.choose_spec⟩⟩
theorem ev_null_t {off : Int} (T : Nat) (hm : (pc, .ifnull off, 0, 0, 0) ∈ P) (ht : (pc : Int) + off = (T : Int)) (k : Ev L xs O P own nL ini t r T lv st M) : Ev L xs O P own nL ini t r pc lv (va_rf none :: st) M := ⟨k.1, k.2.choose + 1, _, _, _, _, hm, Or.inr ⟨st, T, rfl, ht, k.2.choose_spec⟩⟩
theorem ev_null_f {off : Int} {x : Nat} (hm : (pc, .ifnull off, 0, 0, 0) ∈ P)  (k : Ev L xs O P own nL ini t r (pc + 3) lv st M) : Ev L xs O P own nL ini t r pc lv (.ref x :: st) M := ⟨k.1, k.2.choose + 1, _, _, _, _, hm, Or.inl ⟨x, st, rfl, k.2.choose_spec⟩⟩
theorem ev_nonnull_t {off : Int} {x : Nat} (T : Nat) (hm : (pc, .ifnonnull off, 0, 0, 0) ∈ P) (ht : (pc : Int) + off = (T : Int)) (k : Ev L xs O P own nL ini t r T lv st M) : Ev L xs O P own nL ini t r pc lv (.ref x :: st) M := ⟨k.1, k.2.choose + 1, _, _, _, _, hm, Or.inl ⟨x, st, T, rfl, ht, k.2.choose_spec⟩⟩
theorem ev_nonnull_f {off : Int} (hm : (pc, .ifnonnull off, 0, 0, 0) ∈ P)  (k : Ev L xs O P own nL ini t r (pc + 3) lv st M) : Ev L xs O P own nL ini t r pc lv (va_rf none :: st) M := ⟨k.1, k.2.choose + 1, _, _, _, _, hm, Or.inr ⟨st, rfl, k.2.choose_spec⟩⟩
theorem ev_get_i {i q a b : Nat} {v : Int32} (hm : (pc, .getfield i, a, b, 0) ∈ P) (hk : vm_kd (vg_y a b) = 0) (e : sg_i M q a b = some v) (k : Ev L xs O P own nL ini t r (pc + 3) lv (.int v :: st) M) : Ev L xs O P own nL ini t r pc lv (.ref q :: st) M := by
  unfold sg_i at e
  rcases ite_so e with ⟨c, e⟩ | ⟨-, e⟩
  · cases e
    refine ⟨k.1, k.2.choose + 1, _, _, _, _, hm, q, st, rfl, c.1, c.2, ?_⟩
    rw [vm_kd0 hk]
    exact k.2.choose_spec
  · cases e
theorem ev_get_l {i q a b : Nat} {v : Int64} (hm : (pc, .getfield i, a, b, 0) ∈ P) (hk : vm_kd (vg_y a b) = 1) (e : sg_l M q a b = some v) (k : Ev L xs O P own nL ini t r (pc + 3) lv (.long v :: st) M) : Ev L xs O P own nL ini t r pc lv (.ref q :: st) M := by
  unfold sg_l at e
  rcases ite_so e with ⟨c, e⟩ | ⟨-, e⟩
  · cases e
    refine ⟨k.1, k.2.choose + 1, _, _, _, _, hm, q, st, rfl, c.1, c.2, ?_⟩
    rw [vm_kd1 hk]
    exact k.2.choose_spec
  · cases e
theorem ev_get_r {i q a b : Nat} {v : Option Nat} (hm : (pc, .getfield i, a, b, 0) ∈ P) (hk : vm_kd (vg_y a b) = 2) (e : sg_r M q a b = some v) (k : Ev L xs O P own nL ini t r (pc + 3) lv (va_rf v :: st) M) : Ev L xs O P own nL ini t r pc lv (.ref q :: st) M := by
  unfold sg_r at e
  rcases ite_so e with ⟨c, e⟩ | ⟨-, e⟩
  · cases e
    refine ⟨k.1, k.2.choose + 1, _, _, _, _, hm, q, st, rfl, c.1, c.2, ?_⟩
    rw [vm_kd2 hk]
    exact k.2.choose_spec
  · cases e
theorem ev_put_i {i q a b : Nat} {v : Int32} {M' : vm_M} (hm : (pc, .putfield i, a, b, 0) ∈ P) (hf : (vg_T a b).2.2.2 = true → ini = true ∧ own = a) (hk : vg_y a b = .int) (e : sp_i M q a b v = some M') (k : Ev L xs O P own nL ini t r (pc + 3) lv st M') : Ev L xs O P own nL ini t r pc lv (.int v :: .ref q :: st) M := by
  unfold sp_i at e
  rcases ite_so e with ⟨c, e⟩ | ⟨-, e⟩
  · cases e
    refine ⟨k.1, k.2.choose + 1, _, _, _, _, hm, _, q, st, _, rfl, c.1, c.2, hf, ?_, k.2.choose_spec⟩
    rw [hk]
    exact ⟨rfl, rfl, rfl, rfl⟩
  · cases e
theorem ev_put_z {i q a b : Nat} {v : Int32} {M' : vm_M} (hm : (pc, .putfield i, a, b, 0) ∈ P) (hf : (vg_T a b).2.2.2 = true → ini = true ∧ own = a) (hk : vg_y a b = .boolean) (e : sp_z M q a b v = some M') (k : Ev L xs O P own nL ini t r (pc + 3) lv st M') : Ev L xs O P own nL ini t r pc lv (.int v :: .ref q :: st) M := by
  unfold sp_z at e
  rcases ite_so e with ⟨c, e⟩ | ⟨-, e⟩
  · cases e
    refine ⟨k.1, k.2.choose + 1, _, _, _, _, hm, _, q, st, _, rfl, c.1, c.2.1, hf, ?_, k.2.choose_spec⟩
    rw [hk]
    rcases c.2.2 with rfl | rfl <;> exact ⟨rfl, rfl, rfl, rfl⟩
  · cases e
theorem ev_put_l {i q a b : Nat} {v : Int64} {M' : vm_M} (hm : (pc, .putfield i, a, b, 0) ∈ P) (hf : (vg_T a b).2.2.2 = true → ini = true ∧ own = a) (hk : vm_kd (vg_y a b) = 1) (e : sp_l M q a b v = some M') (k : Ev L xs O P own nL ini t r (pc + 3) lv st M') : Ev L xs O P own nL ini t r pc lv (.long v :: .ref q :: st) M := by
  unfold sp_l at e
  rcases ite_so e with ⟨c, e⟩ | ⟨-, e⟩
  · cases e
    exact ⟨k.1, k.2.choose + 1, _, _, _, _, hm, _, q, st, _, rfl, c.1, c.2, hf, ⟨hk, rfl⟩, k.2.choose_spec⟩
  · cases e
theorem ev_put_r {i q a b : Nat} {v : Option Nat} {M' : vm_M} (hm : (pc, .putfield i, a, b, 0) ∈ P) (hf : (vg_T a b).2.2.2 = true → ini = true ∧ own = a) (hk : vm_kd (vg_y a b) = 2) (e : sp_r M q a b v = some M') (k : Ev L xs O P own nL ini t r (pc + 3) lv st M') : Ev L xs O P own nL ini t r pc lv (va_rf v :: .ref q :: st) M := by
  unfold sp_r at e
  rcases ite_so e with ⟨c, e⟩ | ⟨-, e⟩
  · cases e
    refine ⟨k.1, k.2.choose + 1, _, _, _, _, hm, _, q, st, _, rfl, c.1, c.2, hf, ?_, k.2.choose_spec⟩
    cases v <;> exact ⟨hk, rfl⟩
  · cases e
theorem ev_put_R {i q a b : Nat} {v : Nat} {M' : vm_M} (hm : (pc, .putfield i, a, b, 0) ∈ P) (hf : (vg_T a b).2.2.2 = true → ini = true ∧ own = a) (hk : vm_kd (vg_y a b) = 2) (e : sp_r M q a b (some v) = some M') (k : Ev L xs O P own nL ini t r (pc + 3) lv st M') : Ev L xs O P own nL ini t r pc lv (.ref v :: .ref q :: st) M := ev_put_r (v := some v) hm hf hk e k
theorem ev_len {q u : Nat} {v : Int32} (hm : (pc, .arraylength, 0, 0, 0) ∈ P) (hu : u < 5) (e : s_len M q u = some v) (k : Ev L xs O P own nL ini t r (pc + 1) lv (.int v :: st) M) : Ev L xs O P own nL ini t r pc lv (.ref q :: st) M := by
  unfold s_len at e
  obtain ⟨n, h1, rfl⟩ := Option.map_eq_some_iff.mp e
  obtain ⟨h2, h3⟩ := s_ln_of h1
  exact ⟨k.1, k.2.choose + 1, _, _, _, _, hm, q, st, rfl, Or.inl ⟨u, n, h2, h3, hu, k.2.choose_spec⟩⟩
theorem ev_iaload {q : Nat} {i : Int32} {v : Int32} (hm : (pc, .iaload, 0, 0, 0) ∈ P) (e : sa_i M q 0 i = some v) (k : Ev L xs O P own nL ini t r (pc + 1) lv (.int v :: st) M) : Ev L xs O P own nL ini t r pc lv (.int i :: .ref q :: st) M := by
  unfold sa_i at e
  obtain ⟨n, h1, e⟩ := bind_so e
  obtain ⟨h2, h3⟩ := s_ln_of h1
  rcases ite_so e with ⟨c, e⟩ | ⟨-, e⟩
  · cases e
    exact ⟨k.1, k.2.choose + 1, _, _, _, _, hm, i, q, st, rfl, Or.inl ⟨n, h2, h3, s_in c, k.2.choose_spec⟩⟩
  · cases e
theorem ev_zaload {q : Nat} {i : Int32} {v : Int32} (hm : (pc, .baload, 0, 0, 0) ∈ P) (e : sa_i M q 2 i = some v) (k : Ev L xs O P own nL ini t r (pc + 1) lv (.int v :: st) M) : Ev L xs O P own nL ini t r pc lv (.int i :: .ref q :: st) M := by
  unfold sa_i at e
  obtain ⟨n, h1, e⟩ := bind_so e
  obtain ⟨h2, h3⟩ := s_ln_of h1
  rcases ite_so e with ⟨c, e⟩ | ⟨-, e⟩
  · cases e
    exact ⟨k.1, k.2.choose + 1, _, _, _, _, hm, i, q, st, n, 2, rfl, h2, h3, Or.inl rfl, s_in c, k.2.choose_spec⟩
  · cases e
theorem ev_baload {q : Nat} {i : Int32} {v : Int32} (hm : (pc, .baload, 0, 0, 0) ∈ P) (e : sa_i M q 3 i = some v) (k : Ev L xs O P own nL ini t r (pc + 1) lv (.int v :: st) M) : Ev L xs O P own nL ini t r pc lv (.int i :: .ref q :: st) M := by
  unfold sa_i at e
  obtain ⟨n, h1, e⟩ := bind_so e
  obtain ⟨h2, h3⟩ := s_ln_of h1
  rcases ite_so e with ⟨c, e⟩ | ⟨-, e⟩
  · cases e
    exact ⟨k.1, k.2.choose + 1, _, _, _, _, hm, i, q, st, n, 3, rfl, h2, h3, Or.inr rfl, s_in c, k.2.choose_spec⟩
  · cases e
theorem ev_laload {q : Nat} {i : Int32} {v : Int64} (hm : (pc, .laload, 0, 0, 0) ∈ P) (e : sa_l M q i = some v) (k : Ev L xs O P own nL ini t r (pc + 1) lv (.long v :: st) M) : Ev L xs O P own nL ini t r pc lv (.int i :: .ref q :: st) M := by
  unfold sa_l at e
  obtain ⟨n, h1, e⟩ := bind_so e
  obtain ⟨h2, h3⟩ := s_ln_of h1
  rcases ite_so e with ⟨c, e⟩ | ⟨-, e⟩
  · cases e
    exact ⟨k.1, k.2.choose + 1, _, _, _, _, hm, i, q, st, n, rfl, h2, h3, s_in c, k.2.choose_spec⟩
  · cases e
theorem ev_aaload {q : Nat} {i : Int32} {v : Option Nat} (hm : (pc, .aaload, 0, 0, 0) ∈ P) (e : sa_r M q i = some v) (k : Ev L xs O P own nL ini t r (pc + 1) lv (va_rf v :: st) M) : Ev L xs O P own nL ini t r pc lv (.int i :: .ref q :: st) M := by
  unfold sa_r at e
  obtain ⟨n, h1, e⟩ := bind_so e
  obtain ⟨h2, h3⟩ := s_ln_of h1
  rcases ite_so e with ⟨c, e⟩ | ⟨-, e⟩
  · cases e
    exact ⟨k.1, k.2.choose + 1, _, _, _, _, hm, i, q, st, n, rfl, h2, h3, s_in c, k.2.choose_spec⟩
  · cases e
theorem ev_iastore {q : Nat} {i : Int32} {v : Int32} {M' : vm_M} (hm : (pc, .iastore, 0, 0, 0) ∈ P) (e : ss_i M q 0 i v = some M') (k : Ev L xs O P own nL ini t r (pc + 1) lv st M') : Ev L xs O P own nL ini t r pc lv (.int v :: .int i :: .ref q :: st) M := by
  unfold ss_i at e
  obtain ⟨n, h1, e⟩ := bind_so e
  obtain ⟨h2, h3⟩ := s_ln_of h1
  rcases ite_so e with ⟨c, e⟩ | ⟨-, e⟩
  · cases e
    exact ⟨k.1, k.2.choose + 1, _, _, _, _, hm, v, i, q, st, n, rfl, h2, h3, s_in c, k.2.choose_spec⟩
  · cases e
theorem ev_zastore {q : Nat} {i : Int32} {v : Int32} {M' : vm_M} (hm : (pc, .bastore, 0, 0, 0) ∈ P) (e : ss_i M q 2 i v = some M') (k : Ev L xs O P own nL ini t r (pc + 1) lv st M') : Ev L xs O P own nL ini t r pc lv (.int v :: .int i :: .ref q :: st) M := by
  unfold ss_i at e
  obtain ⟨n, h1, e⟩ := bind_so e
  obtain ⟨h2, h3⟩ := s_ln_of h1
  rcases ite_so e with ⟨c, e⟩ | ⟨-, e⟩
  · cases e
    exact ⟨k.1, k.2.choose + 1, _, _, _, _, hm, v, i, q, st, n, 2, rfl, h2, h3, Or.inl rfl, s_in c, k.2.choose_spec⟩
  · cases e
theorem ev_bastore {q : Nat} {i : Int32} {v : Int32} {M' : vm_M} (hm : (pc, .bastore, 0, 0, 0) ∈ P) (e : ss_i M q 3 i v = some M') (k : Ev L xs O P own nL ini t r (pc + 1) lv st M') : Ev L xs O P own nL ini t r pc lv (.int v :: .int i :: .ref q :: st) M := by
  unfold ss_i at e
  obtain ⟨n, h1, e⟩ := bind_so e
  obtain ⟨h2, h3⟩ := s_ln_of h1
  rcases ite_so e with ⟨c, e⟩ | ⟨-, e⟩
  · cases e
    exact ⟨k.1, k.2.choose + 1, _, _, _, _, hm, v, i, q, st, n, 3, rfl, h2, h3, Or.inr rfl, s_in c, k.2.choose_spec⟩
  · cases e
theorem ev_lastore {q : Nat} {i : Int32} {v : Int64} {M' : vm_M} (hm : (pc, .lastore, 0, 0, 0) ∈ P) (e : ss_l M q i v = some M') (k : Ev L xs O P own nL ini t r (pc + 1) lv st M') : Ev L xs O P own nL ini t r pc lv (.long v :: .int i :: .ref q :: st) M := by
  unfold ss_l at e
  obtain ⟨n, h1, e⟩ := bind_so e
  obtain ⟨h2, h3⟩ := s_ln_of h1
  rcases ite_so e with ⟨c, e⟩ | ⟨-, e⟩
  · cases e
    exact ⟨k.1, k.2.choose + 1, _, _, _, _, hm, v, i, q, st, n, rfl, h2, h3, s_in c, k.2.choose_spec⟩
  · cases e
theorem ev_aastore {q : Nat} {i : Int32} {v : Nat} {M' : vm_M} (hm : (pc, .aastore, 0, 0, 0) ∈ P) (e : ss_r M q i v = some M') (k : Ev L xs O P own nL ini t r (pc + 1) lv st M') : Ev L xs O P own nL ini t r pc lv (.ref v :: .int i :: .ref q :: st) M := by
  unfold ss_r at e
  obtain ⟨n, h1, e⟩ := bind_so e
  obtain ⟨h2, h3⟩ := s_ln_of h1
  rcases ite_so e with ⟨c, e⟩ | ⟨-, e⟩
  · cases e
    exact ⟨k.1, k.2.choose + 1, _, _, _, _, hm, v, i, q, st, n, rfl, h2, h3, c.2.2.1, c.2.2.2, s_in ⟨c.1, c.2.1⟩, k.2.choose_spec⟩
  · cases e
theorem s_na_of {n : Int32} {M M' : vm_M} {u : Nat} (e : s_na M u n = some M') : ¬ n < 0 ∧ n.toNatClampNeg ≤ 1000000 ∧ M' = vm_mk M (.inr (u, n.toNatClampNeg)) n.toNatClampNeg (fun _ => 0) := by
  unfold s_na at e
  rcases ite_so e with ⟨c, e⟩ | ⟨-, e⟩
  · have e := Option.some.inj e
    subst e
    exact ⟨s_nn c.1, by have e2 : n.toNatClampNeg = n.toInt.toNat := rfl; omega, rfl⟩
  · cases e
theorem ev_newarray {n : Int32} {ty : ArrayType} {M' : vm_M} (u : Nat) (hm : (pc, .newarray ty, 0, 0, 0) ∈ P) (hu : u < 4) (hty : newarray.typeOf ty = vm_at u) (e : s_na M u n = some M') (k : Ev L xs O P own nL ini t r (pc + 2) lv (.ref (vm_n M) :: st) M') : Ev L xs O P own nL ini t r pc lv (.int n :: st) M := by
  obtain ⟨h1, h2, rfl⟩ := s_na_of e
  exact ⟨k.1, k.2.choose + 1, _, _, _, _, hm, n, st, u, rfl, h1, hu, hty, h2, k.2.choose_spec⟩
theorem ev_anewarray {n : Int32} {i : Nat} {M' : vm_M} (hm : (pc, .anewarray i, 1, 0, 0) ∈ P) (e : s_na M 4 n = some M') (k : Ev L xs O P own nL ini t r (pc + 3) lv (.ref (vm_n M) :: st) M') : Ev L xs O P own nL ini t r pc lv (.int n :: st) M := by
  obtain ⟨h1, h2, rfl⟩ := s_na_of e
  exact ⟨k.1, k.2.choose + 1, _, _, _, _, hm, n, st, rfl, h1, h2, rfl, k.2.choose_spec⟩
theorem ev_new {i a : Nat} {M' : vm_M} (hm : (pc, .new i, a, 0, 0) ∈ P) (e : s_no M a = some M') (k : Ev L xs O P own nL ini t r (pc + 3) lv (.ref (vm_n M) :: st) M') : Ev L xs O P own nL ini t r pc lv st M := by
  cases e
  exact ⟨k.1, k.2.choose + 1, _, _, _, _, hm, k.2.choose_spec⟩
theorem ev_checkcast {q n i : Nat} (hm : (pc, .checkcast i, 0, 0, 0) ∈ P) (e : s_ln M q 0 = some n) (k : Ev L xs O P own nL ini t r (pc + 3) lv (.ref q :: st) M) : Ev L xs O P own nL ini t r pc lv (.ref q :: st) M := by
  obtain ⟨h1, h2⟩ := s_ln_of e
  exact ⟨k.1, k.2.choose + 1, _, _, _, _, hm, q, st, n, rfl, h1, h2, k.2.choose_spec⟩
theorem ev_clone {q i : Nat} {M' : vm_M} (hm : (pc, .invokevirtual i, 6, 0, 0) ∈ P) (hc : vm_cat st ≤ 8) (e : s_cl M q = some M') (k : Ev L xs O P own nL ini t r (pc + 3) lv (.ref (vm_n M) :: st) M') : Ev L xs O P own nL ini t r pc lv (.ref q :: st) M := by
  obtain ⟨n, h1, rfl⟩ := Option.map_eq_some_iff.mp e
  obtain ⟨h2, h3⟩ := s_ln_of h1
  exact ⟨k.1, k.2.choose + 1, _, _, _, _, hm, Or.inr (Or.inl ⟨rfl, q, st, n, rfl, hc, h2, h3, k.2.choose_spec⟩)⟩
theorem ev_slen {i : Nat} (hm : (pc, .invokevirtual i, 8, 0, 0) ∈ P) (hc : vm_cat st ≤ 8) (k : Ev L xs O P own nL ini t r (pc + 3) lv (.int (Int32.ofNat vm_by.length) :: st) M) : Ev L xs O P own nL ini t r pc lv (.ref vm_str :: st) M :=
  ⟨k.1, k.2.choose + 1, _, _, _, _, hm, Or.inr (Or.inr (Or.inl ⟨rfl, st, rfl, hc, k.2.choose_spec⟩))⟩
theorem ev_schar {i : Nat} {x v : Int32} (hm : (pc, .invokevirtual i, 9, 0, 0) ∈ P) (hc : vm_cat st ≤ 8) (e : s_ch x = some v) (k : Ev L xs O P own nL ini t r (pc + 3) lv (.int v :: st) M) : Ev L xs O P own nL ini t r pc lv (.int x :: .ref vm_str :: st) M := by
  unfold s_ch at e
  rcases ite_so e with ⟨c, e⟩ | ⟨-, e⟩
  · have e := Option.some.inj e
    subst e
    exact ⟨k.1, k.2.choose + 1, _, _, _, _, hm, Or.inr (Or.inr (Or.inr ⟨rfl, x, st, rfl, hc, s_in c, k.2.choose_spec⟩))⟩
  · cases e
theorem ev_copy {i p q : Nat} {sp dp n : Int32} {M' : vm_M} (u : Nat) (hm : (pc, .invokestatic i, 7, 0, 0) ∈ P) (hc : vm_cat st ≤ 8) (hu : u = 0 ∨ u = 1) (e : s_cp M u p sp q dp n = some M') (k : Ev L xs O P own nL ini t r (pc + 3) lv st M') : Ev L xs O P own nL ini t r pc lv (.int n :: .int dp :: .ref q :: .int sp :: .ref p :: st) M := by
  unfold s_cp at e
  obtain ⟨n0, h1, e⟩ := bind_so e
  obtain ⟨n1, h2, e⟩ := bind_so e
  obtain ⟨a1, a2⟩ := s_ln_of h1
  obtain ⟨b1, b2⟩ := s_ln_of h2
  rcases ite_so e with ⟨⟨c1, c2, c3, c4, c5⟩, e⟩ | ⟨-, e⟩
  · cases e
    have e1 : sp.toNatClampNeg = sp.toInt.toNat := rfl
    have e2 : dp.toNatClampNeg = dp.toInt.toNat := rfl
    have e3 : n.toNatClampNeg = n.toInt.toNat := rfl
    refine ⟨k.1, k.2.choose + 1, _, _, _, _, hm, Or.inr (Or.inr (Or.inr (Or.inr (Or.inr (Or.inr (Or.inr ⟨rfl, n, dp, q, sp, p, st, u, n0, n1, rfl, hc, a1, b1, a2, b2, s_nn c1, s_nn c2, s_nn c3, by omega, by omega, ?_⟩))))))⟩
    have kk := k.2.choose_spec
    rcases hu with rfl | rfl
    · exact Or.inl ⟨rfl, kk⟩
    · exact Or.inr ⟨rfl, kk⟩
  · cases e
theorem ev_obj {i q : Nat} (hm : (pc, .invokespecial i, 5, 0, 0) ∈ P) (hc : vm_cat st ≤ 8) (k : Ev L xs O P own nL ini t r (pc + 3) lv st M) : Ev L xs O P own nL ini t r pc lv (.ref q :: st) M :=
  ⟨k.1, k.2.choose + 1, _, _, _, _, hm, Or.inl ⟨rfl, q, st, rfl, hc, k.2.choose_spec⟩⟩
def s_mxI (x y : Int32) : Int32 := if x < y then y else x
theorem ev_mxI {i : Nat} {x y : Int32} (hm : (pc, .invokestatic i, 4, 0, 0) ∈ P) (hc : vm_cat st ≤ 8) (k : Ev L xs O P own nL ini t r (pc + 3) lv (.int (s_mxI x y) :: st) M) : Ev L xs O P own nL ini t r pc lv (.int y :: .int x :: st) M := ⟨k.1, k.2.choose + 1, _, _, _, _, hm, Or.inr (Or.inl ⟨rfl, rfl, x, y, st, rfl, hc, k.2.choose_spec⟩)⟩
def s_mnI (x y : Int32) : Int32 := if y < x then y else x
theorem ev_mnI {i : Nat} {x y : Int32} (hm : (pc, .invokestatic i, 4, 1, 0) ∈ P) (hc : vm_cat st ≤ 8) (k : Ev L xs O P own nL ini t r (pc + 3) lv (.int (s_mnI x y) :: st) M) : Ev L xs O P own nL ini t r pc lv (.int y :: .int x :: st) M := ⟨k.1, k.2.choose + 1, _, _, _, _, hm, Or.inr (Or.inr (Or.inl ⟨rfl, rfl, x, y, st, rfl, hc, k.2.choose_spec⟩))⟩
def s_abI (x : Int32) : Int32 := if 0 ≤ x then x else 0 - x
theorem ev_abI {i : Nat} {x : Int32} (hm : (pc, .invokestatic i, 4, 2, 0) ∈ P) (hc : vm_cat st ≤ 8) (k : Ev L xs O P own nL ini t r (pc + 3) lv (.int (s_abI x) :: st) M) : Ev L xs O P own nL ini t r pc lv (.int x :: st) M := ⟨k.1, k.2.choose + 1, _, _, _, _, hm, Or.inr (Or.inr (Or.inr (Or.inl ⟨rfl, rfl, x, st, rfl, hc, k.2.choose_spec⟩)))⟩
def s_mxJ (x y : Int64) : Int64 := if y < x then x else y
theorem ev_mxJ {i : Nat} {x y : Int64} (hm : (pc, .invokestatic i, 4, 3, 0) ∈ P) (hc : vm_cat st ≤ 8) (k : Ev L xs O P own nL ini t r (pc + 3) lv (.long (s_mxJ x y) :: st) M) : Ev L xs O P own nL ini t r pc lv (.long y :: .long x :: st) M := ⟨k.1, k.2.choose + 1, _, _, _, _, hm, Or.inr (Or.inr (Or.inr (Or.inr (Or.inl ⟨rfl, rfl, x, y, st, rfl, hc, k.2.choose_spec⟩))))⟩
def s_mnJ (x y : Int64) : Int64 := if y < x then y else x
theorem ev_mnJ {i : Nat} {x y : Int64} (hm : (pc, .invokestatic i, 4, 4, 0) ∈ P) (hc : vm_cat st ≤ 8) (k : Ev L xs O P own nL ini t r (pc + 3) lv (.long (s_mnJ x y) :: st) M) : Ev L xs O P own nL ini t r pc lv (.long y :: .long x :: st) M := ⟨k.1, k.2.choose + 1, _, _, _, _, hm, Or.inr (Or.inr (Or.inr (Or.inr (Or.inr (Or.inl ⟨rfl, rfl, x, y, st, rfl, hc, k.2.choose_spec⟩)))))⟩
def s_abJ (x : Int64) : Int64 := if 0 < x then x else -x
theorem ev_abJ {i : Nat} {x : Int64} (hm : (pc, .invokestatic i, 4, 5, 0) ∈ P) (hc : vm_cat st ≤ 8) (k : Ev L xs O P own nL ini t r (pc + 3) lv (.long (s_abJ x) :: st) M) : Ev L xs O P own nL ini t r pc lv (.long x :: st) M := ⟨k.1, k.2.choose + 1, _, _, _, _, hm, Or.inr (Or.inr (Or.inr (Or.inr (Or.inr (Or.inr (Or.inl ⟨rfl, rfl, x, st, rfl, hc, k.2.choose_spec⟩))))))⟩
theorem ev_callV {i b q : Nat} (as : List Value) {rv : Option Value} {M' : vm_M} {s0 : List Value} (hm : (pc, .invokevirtual i, 0, b, 0) ∈ P) (hs : s0 = as.reverse ++ .ref q :: st) (hn : as.length = vm_a b) (hc : vm_cat st ≤ 8) (hq : q < vm_n M ∧ vm_sh M q = .inl (vm_o b)) (ho : O b (.ref q :: as) M (rv, M')) (k : Ev L xs O P own nL ini t r (pc + 3) lv (rv.toList ++ st) M') : Ev L xs O P own nL ini t r pc lv s0 M :=
  ⟨k.1, k.2.choose + 1, _, _, _, _, hm, Or.inl ⟨rfl, as, q, st, rv, M', hs, hn, hq.1, hq.2, hc, ho, k.2.choose_spec⟩⟩
theorem ev_callI {i a b q : Nat} (as : List Value) {rv : Option Value} {M' : vm_M} {s0 : List Value} (hm : (pc, .invokespecial i, a, b, 0) ∈ P) (ha : a = 2 ∨ a = 3) (hs : s0 = as.reverse ++ .ref q :: st) (hn : as.length = vm_a b) (hc : vm_cat st ≤ 8) (ho : O b (.ref q :: as) M (rv, M')) (k : Ev L xs O P own nL ini t r (pc + 3) lv (rv.toList ++ st) M') : Ev L xs O P own nL ini t r pc lv s0 M :=
  ⟨k.1, k.2.choose + 1, _, _, _, _, hm, Or.inr ⟨ha, as, q, st, rv, M', hs, hn, hc, ho, k.2.choose_spec⟩⟩
theorem ev_callS {i a b : Nat} (as : List Value) {rv : Option Value} {M' : vm_M} {s0 : List Value} (hm : (pc, .invokestatic i, a, b, 0) ∈ P) (ha : a = 1 ∨ a = 10) (hs : s0 = as.reverse ++ st) (hn : as.length = vm_a b) (hc : vm_cat st ≤ 8) (ho : O b as M (rv, M')) (k : Ev L xs O P own nL ini t r (pc + 3) lv (rv.toList ++ st) M') : Ev L xs O P own nL ini t r pc lv s0 M :=
  ⟨k.1, k.2.choose + 1, _, _, _, _, hm, Or.inl ⟨ha, as, st, rv, M', hs, hn, hc, ho, k.2.choose_spec⟩⟩
/-- a receiver of that class -/
def s_ob (M : vm_M) (q a : Nat) : Option Unit := if q < vm_n M ∧ vm_sh M q = .inl a then some () else none
theorem s_ob_of {M : vm_M} {q a : Nat} {u : Unit} (h : s_ob M q a = some u) : q < vm_n M ∧ vm_sh M q = .inl a := by
  unfold s_ob at h
  rcases ite_so h with ⟨c, -⟩ | ⟨-, h⟩
  · exact c
  · cases h
theorem ev_xload {i v : Int32} (ho : own = 12) (hm : (pc, .iaload, 0, 0, 0) ∈ P) (e : s_sc L xs i = some v) (k : Ev L xs O P own nL ini t r (pc + 1) lv (.int v :: st) M) : Ev L xs O P own nL ini t r pc lv (.int i :: .ref vm_scr :: st) M := by
  unfold s_sc at e
  rcases ite_so e with ⟨c, e⟩ | ⟨-, e⟩
  · have e := Option.some.inj e
    subst e
    exact ⟨k.1, k.2.choose + 1, _, _, _, _, hm, i, vm_scr, st, rfl, Or.inr ⟨rfl, ho, s_in c, k.2.choose_spec⟩⟩
  · cases e
theorem ev_xlen (ho : own = 12) (hm : (pc, .arraylength, 0, 0, 0) ∈ P) (k : Ev L xs O P own nL ini t r (pc + 1) lv (.int (Int32.ofNat L) :: st) M) : Ev L xs O P own nL ini t r pc lv (.ref vm_scr :: st) M :=
  ⟨k.1, k.2.choose + 1, _, _, _, _, hm, vm_scr, st, rfl, Or.inr ⟨rfl, ho, k.2.choose_spec⟩⟩
theorem ev_aload_nX {i : Fin 4} (hm : (pc, .aload_n i, 0, 0, 0) ∈ P) (hx : ((i : Nat), .ref vm_scr) ∈ lv) (k : Ev L xs O P own nL ini t r (pc + 1) lv (.ref vm_scr :: st) M) : Ev L xs O P own nL ini t r pc lv st M := ev_aload_nR hm hx k
end EV
section EVR
variable {L : Nat} {xs : Nat → Int32} {O : Nat → List Value → vm_M → vm_R → Prop} {P : List vm_I} {own nL : Nat} {ini : Bool} {pc : Nat} {lv : vm_L} {M : vm_M}
theorem ev_ireturn {x : Int32} {r : Int32 × vm_M} (hm : (pc, .ireturn, 0, 0, 0) ∈ P) (h : some (x, M) = some r) : Ev L xs O P own nL ini (some .int) (rI r) pc lv [.int x] M := by
  cases h
  exact ⟨⟨.int, rfl, rfl⟩, 1, _, _, _, _, hm, x, rfl, rfl⟩
theorem ev_zreturn {x : Int32} {r : Int32 × vm_M} (hm : (pc, .ireturn, 0, 0, 0) ∈ P) (h : s_rb x M = some r) : Ev L xs O P own nL ini (some .boolean) (rI r) pc lv [.int x] M := by
  unfold s_rb at h
  rcases ite_so h with ⟨c, h⟩ | ⟨-, h⟩
  · cases h
    refine ⟨⟨.boolean, rfl, ?_⟩, 1, _, _, _, _, hm, x, rfl, rfl⟩
    show Value.int (x &&& 1) = .int x
    rw [c]
  · cases h
theorem ev_lreturn {x : Int64} {r : Int64 × vm_M} (hm : (pc, .lreturn, 0, 0, 0) ∈ P) (h : some (x, M) = some r) : Ev L xs O P own nL ini (some .long) (rJ r) pc lv [.long x] M := by
  cases h
  exact ⟨rfl, 1, _, _, _, _, hm, x, rfl, rfl⟩
theorem ev_areturn {x : Option Nat} {ty : FieldType} {r : Option Nat × vm_M} (hty : (∃ n, ty = .object n) ∨ ∃ u, ty = .array u) (hm : (pc, .areturn, 0, 0, 0) ∈ P) (h : some (x, M) = some r) : Ev L xs O P own nL ini (some ty) (rA r) pc lv [va_rf x] M := by
  cases h
  refine ⟨?_, 1, _, _, _, _, hm, x, rfl, rfl⟩
  cases x <;> exact ⟨ty, rfl, hty⟩
theorem ev_return {r : vm_M} (hm : (pc, .return_, 0, 0, 0) ∈ P) (h : some M = some r) : Ev L xs O P own nL ini none (rV r) pc lv [] M := by
  cases h
  exact ⟨rfl, 1, _, _, _, _, hm, rfl, rfl⟩
end EVR
theorem mm {P : List vm_I} {e : vm_I} (k : Nat) (h : P[k]? = some e) : e ∈ P := List.mem_of_getElem? h
section EVS
variable {L : Nat} {xs : Nat → Int32} {O : Nat → List Value → vm_M → vm_R → Prop} {P : List vm_I} {own nL : Nat} {ini : Bool} {t : Option FieldType} {r : vm_R} {pc : Nat} {lv : vm_L} {st : List Value} {M : vm_M}
theorem evs_istore {i : Nat} {x : Int32} (hm : (pc, .istore i, 0, 0, 0) ∈ P) (hi : i < nL) (k : ∀ lv2 : vm_L, (i, .int x) ∈ lv2 → (∀ (j : Nat) (w : Value), (j, w) ∈ lv → (!(j == i) && !(j + 1 == i && w.category == 2)) = true → (j, w) ∈ lv2) → Ev L xs O P own nL ini t r (pc + 2) lv2 st M) : Ev L xs O P own nL ini t r pc lv (.int x :: st) M := ev_istore hm hi (k _ m1s (fun _ _ h c => m1 h c))
theorem evs_istore_n {i : Fin 4} {x : Int32} (hm : (pc, .istore_n i, 0, 0, 0) ∈ P) (hi : (i : Nat) < nL) (k : ∀ lv2 : vm_L, ((i : Nat), .int x) ∈ lv2 → (∀ (j : Nat) (w : Value), (j, w) ∈ lv → (!(j == (i : Nat)) && !(j + 1 == (i : Nat) && w.category == 2)) = true → (j, w) ∈ lv2) → Ev L xs O P own nL ini t r (pc + 1) lv2 st M) : Ev L xs O P own nL ini t r pc lv (.int x :: st) M := ev_istore_n hm hi (k _ m1s (fun _ _ h c => m1 h c))
theorem evs_lstore {i : Nat} {x : Int64} (hm : (pc, .lstore i, 0, 0, 0) ∈ P) (hi : i + 1 < nL) (k : ∀ lv2 : vm_L, (i, .long x) ∈ lv2 → (∀ (j : Nat) (w : Value), (j, w) ∈ lv → (!(j == i) && (!(j == i + 1) && !(j + 1 == i && w.category == 2))) = true → (j, w) ∈ lv2) → Ev L xs O P own nL ini t r (pc + 2) lv2 st M) : Ev L xs O P own nL ini t r pc lv (.long x :: st) M := ev_lstore hm hi (k _ m2s (fun _ _ h c => m2 h c))
theorem evs_lstore_n {i : Fin 4} {x : Int64} (hm : (pc, .lstore_n i, 0, 0, 0) ∈ P) (hi : (i : Nat) + 1 < nL) (k : ∀ lv2 : vm_L, ((i : Nat), .long x) ∈ lv2 → (∀ (j : Nat) (w : Value), (j, w) ∈ lv → (!(j == (i : Nat)) && (!(j == (i : Nat) + 1) && !(j + 1 == (i : Nat) && w.category == 2))) = true → (j, w) ∈ lv2) → Ev L xs O P own nL ini t r (pc + 1) lv2 st M) : Ev L xs O P own nL ini t r pc lv (.long x :: st) M := ev_lstore_n hm hi (k _ m2s (fun _ _ h c => m2 h c))
theorem evs_astore {i : Nat} {x : Option Nat} (hm : (pc, .astore i, 0, 0, 0) ∈ P) (hi : i < nL) (k : ∀ lv2 : vm_L, (i, va_rf x) ∈ lv2 → (∀ (j : Nat) (w : Value), (j, w) ∈ lv → (!(j == i) && !(j + 1 == i && w.category == 2)) = true → (j, w) ∈ lv2) → Ev L xs O P own nL ini t r (pc + 2) lv2 st M) : Ev L xs O P own nL ini t r pc lv (va_rf x :: st) M := ev_astore hm hi (k _ m1s (fun _ _ h c => m1 h c))
theorem evs_astore_n {i : Fin 4} {x : Option Nat} (hm : (pc, .astore_n i, 0, 0, 0) ∈ P) (hi : (i : Nat) < nL) (k : ∀ lv2 : vm_L, ((i : Nat), va_rf x) ∈ lv2 → (∀ (j : Nat) (w : Value), (j, w) ∈ lv → (!(j == (i : Nat)) && !(j + 1 == (i : Nat) && w.category == 2)) = true → (j, w) ∈ lv2) → Ev L xs O P own nL ini t r (pc + 1) lv2 st M) : Ev L xs O P own nL ini t r pc lv (va_rf x :: st) M := ev_astore_n hm hi (k _ m1s (fun _ _ h c => m1 h c))
theorem evs_astoreR {i : Nat} {x : Nat} (hm : (pc, .astore i, 0, 0, 0) ∈ P) (hi : i < nL) (k : ∀ lv2 : vm_L, (i, .ref x) ∈ lv2 → (∀ (j : Nat) (w : Value), (j, w) ∈ lv → (!(j == i) && !(j + 1 == i && w.category == 2)) = true → (j, w) ∈ lv2) → Ev L xs O P own nL ini t r (pc + 2) lv2 st M) : Ev L xs O P own nL ini t r pc lv (.ref x :: st) M := ev_astoreR hm hi (k _ m1s (fun _ _ h c => m1 h c))
theorem evs_astore_nR {i : Fin 4} {x : Nat} (hm : (pc, .astore_n i, 0, 0, 0) ∈ P) (hi : (i : Nat) < nL) (k : ∀ lv2 : vm_L, ((i : Nat), .ref x) ∈ lv2 → (∀ (j : Nat) (w : Value), (j, w) ∈ lv → (!(j == (i : Nat)) && !(j + 1 == (i : Nat) && w.category == 2)) = true → (j, w) ∈ lv2) → Ev L xs O P own nL ini t r (pc + 1) lv2 st M) : Ev L xs O P own nL ini t r pc lv (.ref x :: st) M := ev_astore_nR hm hi (k _ m1s (fun _ _ h c => m1 h c))
theorem evs_iinc {i : Nat} {n : Int} {x c : Int32} (hm : (pc, .iinc i n, 0, 0, 0) ∈ P) (hv : Int32.ofInt n = c) (hx : (i, .int x) ∈ lv) (hi : i < nL) (k : ∀ lv2 : vm_L, (i, .int (x + c)) ∈ lv2 → (∀ (j : Nat) (w : Value), (j, w) ∈ lv → (!(j == i) && !(j + 1 == i && w.category == 2)) = true → (j, w) ∈ lv2) → Ev L xs O P own nL ini t r (pc + 3) lv2 st M) : Ev L xs O P own nL ini t r pc lv st M := ev_iinc hm hv hx hi (k _ m1s (fun _ _ h c => m1 h c))
theorem ev_callV_I {i b q : Nat} (as : List Value) {p : Int32 × vm_M} {s0 : List Value} (hm : (pc, .invokevirtual i, 0, b, 0) ∈ P) (hs : s0 = as.reverse ++ .ref q :: st) (hn : as.length = vm_a b) (hc : vm_cat st ≤ 8) (hq : q < vm_n M ∧ vm_sh M q = .inl (vm_o b)) (ho : O b (.ref q :: as) M (rI p)) (k : Ev L xs O P own nL ini t r (pc + 3) lv (.int p.1 :: st) p.2) : Ev L xs O P own nL ini t r pc lv s0 M := ev_callV as hm hs hn hc hq ho k
theorem ev_callI_I {i a b q : Nat} (as : List Value) {p : Int32 × vm_M} {s0 : List Value} (hm : (pc, .invokespecial i, a, b, 0) ∈ P) (ha : a = 2 ∨ a = 3) (hs : s0 = as.reverse ++ .ref q :: st) (hn : as.length = vm_a b) (hc : vm_cat st ≤ 8) (ho : O b (.ref q :: as) M (rI p)) (k : Ev L xs O P own nL ini t r (pc + 3) lv (.int p.1 :: st) p.2) : Ev L xs O P own nL ini t r pc lv s0 M := ev_callI as hm ha hs hn hc ho k
theorem ev_callS_I {i a b : Nat} (as : List Value) {p : Int32 × vm_M} {s0 : List Value} (hm : (pc, .invokestatic i, a, b, 0) ∈ P) (ha : a = 1 ∨ a = 10) (hs : s0 = as.reverse ++ st) (hn : as.length = vm_a b) (hc : vm_cat st ≤ 8) (ho : O b as M (rI p)) (k : Ev L xs O P own nL ini t r (pc + 3) lv (.int p.1 :: st) p.2) : Ev L xs O P own nL ini t r pc lv s0 M := ev_callS as hm ha hs hn hc ho k
theorem ev_callV_J {i b q : Nat} (as : List Value) {p : Int64 × vm_M} {s0 : List Value} (hm : (pc, .invokevirtual i, 0, b, 0) ∈ P) (hs : s0 = as.reverse ++ .ref q :: st) (hn : as.length = vm_a b) (hc : vm_cat st ≤ 8) (hq : q < vm_n M ∧ vm_sh M q = .inl (vm_o b)) (ho : O b (.ref q :: as) M (rJ p)) (k : Ev L xs O P own nL ini t r (pc + 3) lv (.long p.1 :: st) p.2) : Ev L xs O P own nL ini t r pc lv s0 M := ev_callV as hm hs hn hc hq ho k
theorem ev_callI_J {i a b q : Nat} (as : List Value) {p : Int64 × vm_M} {s0 : List Value} (hm : (pc, .invokespecial i, a, b, 0) ∈ P) (ha : a = 2 ∨ a = 3) (hs : s0 = as.reverse ++ .ref q :: st) (hn : as.length = vm_a b) (hc : vm_cat st ≤ 8) (ho : O b (.ref q :: as) M (rJ p)) (k : Ev L xs O P own nL ini t r (pc + 3) lv (.long p.1 :: st) p.2) : Ev L xs O P own nL ini t r pc lv s0 M := ev_callI as hm ha hs hn hc ho k
theorem ev_callS_J {i a b : Nat} (as : List Value) {p : Int64 × vm_M} {s0 : List Value} (hm : (pc, .invokestatic i, a, b, 0) ∈ P) (ha : a = 1 ∨ a = 10) (hs : s0 = as.reverse ++ st) (hn : as.length = vm_a b) (hc : vm_cat st ≤ 8) (ho : O b as M (rJ p)) (k : Ev L xs O P own nL ini t r (pc + 3) lv (.long p.1 :: st) p.2) : Ev L xs O P own nL ini t r pc lv s0 M := ev_callS as hm ha hs hn hc ho k
theorem ev_callV_A {i b q : Nat} (as : List Value) {p : Option Nat × vm_M} {s0 : List Value} (hm : (pc, .invokevirtual i, 0, b, 0) ∈ P) (hs : s0 = as.reverse ++ .ref q :: st) (hn : as.length = vm_a b) (hc : vm_cat st ≤ 8) (hq : q < vm_n M ∧ vm_sh M q = .inl (vm_o b)) (ho : O b (.ref q :: as) M (rA p)) (k : Ev L xs O P own nL ini t r (pc + 3) lv (va_rf p.1 :: st) p.2) : Ev L xs O P own nL ini t r pc lv s0 M := ev_callV as hm hs hn hc hq ho k
theorem ev_callI_A {i a b q : Nat} (as : List Value) {p : Option Nat × vm_M} {s0 : List Value} (hm : (pc, .invokespecial i, a, b, 0) ∈ P) (ha : a = 2 ∨ a = 3) (hs : s0 = as.reverse ++ .ref q :: st) (hn : as.length = vm_a b) (hc : vm_cat st ≤ 8) (ho : O b (.ref q :: as) M (rA p)) (k : Ev L xs O P own nL ini t r (pc + 3) lv (va_rf p.1 :: st) p.2) : Ev L xs O P own nL ini t r pc lv s0 M := ev_callI as hm ha hs hn hc ho k
theorem ev_callS_A {i a b : Nat} (as : List Value) {p : Option Nat × vm_M} {s0 : List Value} (hm : (pc, .invokestatic i, a, b, 0) ∈ P) (ha : a = 1 ∨ a = 10) (hs : s0 = as.reverse ++ st) (hn : as.length = vm_a b) (hc : vm_cat st ≤ 8) (ho : O b as M (rA p)) (k : Ev L xs O P own nL ini t r (pc + 3) lv (va_rf p.1 :: st) p.2) : Ev L xs O P own nL ini t r pc lv s0 M := ev_callS as hm ha hs hn hc ho k
theorem ev_callV_V {i b q : Nat} (as : List Value) {p : vm_M} {s0 : List Value} (hm : (pc, .invokevirtual i, 0, b, 0) ∈ P) (hs : s0 = as.reverse ++ .ref q :: st) (hn : as.length = vm_a b) (hc : vm_cat st ≤ 8) (hq : q < vm_n M ∧ vm_sh M q = .inl (vm_o b)) (ho : O b (.ref q :: as) M (rV p)) (k : Ev L xs O P own nL ini t r (pc + 3) lv (st) p) : Ev L xs O P own nL ini t r pc lv s0 M := ev_callV as hm hs hn hc hq ho k
theorem ev_callI_V {i a b q : Nat} (as : List Value) {p : vm_M} {s0 : List Value} (hm : (pc, .invokespecial i, a, b, 0) ∈ P) (ha : a = 2 ∨ a = 3) (hs : s0 = as.reverse ++ .ref q :: st) (hn : as.length = vm_a b) (hc : vm_cat st ≤ 8) (ho : O b (.ref q :: as) M (rV p)) (k : Ev L xs O P own nL ini t r (pc + 3) lv (st) p) : Ev L xs O P own nL ini t r pc lv s0 M := ev_callI as hm ha hs hn hc ho k
theorem ev_callS_V {i a b : Nat} (as : List Value) {p : vm_M} {s0 : List Value} (hm : (pc, .invokestatic i, a, b, 0) ∈ P) (ha : a = 1 ∨ a = 10) (hs : s0 = as.reverse ++ st) (hn : as.length = vm_a b) (hc : vm_cat st ≤ 8) (ho : O b as M (rV p)) (k : Ev L xs O P own nL ini t r (pc + 3) lv (st) p) : Ev L xs O P own nL ini t r pc lv s0 M := ev_callS as hm ha hs hn hc ho k
theorem ev_tsw {dflt lo hi : Int} {offs : Array Int} {b : Nat} {x v : Int32} (T j : Nat) {off : Int} (hm : (pc, .tableswitch dflt lo hi offs, 0, b, 0) ∈ P) (hx : x = v) (hv : (decide (¬ v.toInt < lo) && (decide (¬ hi < v.toInt) && decide (offs[(v.toInt - lo).toNat]? = some off))) = true) (ht : (pc : Int) + off = (T : Int)) (k : Ev L xs O P own nL ini t r T lv st M) : Ev L xs O P own nL ini t r pc lv (.int x :: st) M := by
  subst hx
  simp only [Bool.and_eq_true, decide_eq_true_eq] at hv
  exact ⟨k.1, k.2.choose + 1, _, _, _, _, hm, x, st, rfl, Or.inr ⟨T, off, hv.1, hv.2.1, hv.2.2, ht, k.2.choose_spec⟩⟩
theorem ev_tswD {dflt lo hi : Int} {offs : Array Int} {b : Nat} {x : Int32} (T : Nat) (hm : (pc, .tableswitch dflt lo hi offs, 0, b, 0) ∈ P) (ht : (pc : Int) + dflt = (T : Int)) (hx : x.toInt < lo ∨ hi < x.toInt) (k : Ev L xs O P own nL ini t r T lv st M) : Ev L xs O P own nL ini t r pc lv (.int x :: st) M :=
  ⟨k.1, k.2.choose + 1, _, _, _, _, hm, x, st, rfl, Or.inl ⟨T, hx, ht, k.2.choose_spec⟩⟩
theorem ev_lsw {dflt : Int} {ps : Array (Int × Int)} {b : Nat} {x : Int32} (T : Nat) {off : Int} (hm : (pc, .lookupswitch dflt ps, 0, b, 0) ∈ P) (hp : (ps.toList.zip (ps.toList.drop 1)).all (fun (a, next) => a.1 < next.1) = true) (ho : Op.lookupswitch.offset ps.toList dflt x.toInt = off) (ht : (pc : Int) + off = (T : Int)) (k : Ev L xs O P own nL ini t r T lv st M) : Ev L xs O P own nL ini t r pc lv (.int x :: st) M :=
  ⟨k.1, k.2.choose + 1, _, _, _, _, hm, x, st, T, off, rfl, hp, ho, ht, k.2.choose_spec⟩
end EVS
theorem tsw_out {x : Int32} {lo hi : Int} (l : List Int32) (h1 : (decide (lo = (l.headD 0).toInt) && decide (hi = lo + l.length - 1)) = true) (h2 : (List.range l.length).all (fun j => decide ((l.getD j 0).toInt = lo + j)) = true) (hx : ∀ v ∈ l, ¬ x = v) : x.toInt < lo ∨ hi < x.toInt := by
  simp only [Bool.and_eq_true, decide_eq_true_eq] at h1
  by_cases a : x.toInt < lo
  · exact Or.inl a
  · by_cases b : hi < x.toInt
    · exact Or.inr b
    · exfalso
      have hj : (x.toInt - lo).toNat < l.length := by omega
      have h3 := List.all_eq_true.mp h2 _ (List.mem_range.mpr hj)
      simp only [decide_eq_true_eq] at h3
      have h4 : (l.getD (x.toInt - lo).toNat 0) ∈ l := by
        rw [List.getD_eq_getElem?_getD, List.getElem?_eq_getElem hj]
        exact List.getElem_mem hj
      refine hx _ h4 (Int32.toInt_inj.mp ?_)
      rw [h3]
      omega
/-! constants as the instructions push them -/
theorem cB_m3 : (Int8.ofInt (-3)).toInt32 = ((-3) : Int32) := by decide
theorem cB_m2 : (Int8.ofInt (-2)).toInt32 = ((-2) : Int32) := by decide
theorem cB_6 : (Int8.ofInt (6)).toInt32 = (6 : Int32) := by decide
theorem cB_7 : (Int8.ofInt (7)).toInt32 = (7 : Int32) := by decide
theorem cB_8 : (Int8.ofInt (8)).toInt32 = (8 : Int32) := by decide
theorem cB_9 : (Int8.ofInt (9)).toInt32 = (9 : Int32) := by decide
theorem cB_10 : (Int8.ofInt (10)).toInt32 = (10 : Int32) := by decide
theorem cB_11 : (Int8.ofInt (11)).toInt32 = (11 : Int32) := by decide
theorem cB_12 : (Int8.ofInt (12)).toInt32 = (12 : Int32) := by decide
theorem cB_13 : (Int8.ofInt (13)).toInt32 = (13 : Int32) := by decide
theorem cB_14 : (Int8.ofInt (14)).toInt32 = (14 : Int32) := by decide
theorem cB_15 : (Int8.ofInt (15)).toInt32 = (15 : Int32) := by decide
theorem cB_16 : (Int8.ofInt (16)).toInt32 = (16 : Int32) := by decide
theorem cB_20 : (Int8.ofInt (20)).toInt32 = (20 : Int32) := by decide
theorem cB_21 : (Int8.ofInt (21)).toInt32 = (21 : Int32) := by decide
theorem cB_23 : (Int8.ofInt (23)).toInt32 = (23 : Int32) := by decide
theorem cB_24 : (Int8.ofInt (24)).toInt32 = (24 : Int32) := by decide
theorem cB_30 : (Int8.ofInt (30)).toInt32 = (30 : Int32) := by decide
theorem cB_31 : (Int8.ofInt (31)).toInt32 = (31 : Int32) := by decide
theorem cB_32 : (Int8.ofInt (32)).toInt32 = (32 : Int32) := by decide
theorem cB_33 : (Int8.ofInt (33)).toInt32 = (33 : Int32) := by decide
theorem cB_34 : (Int8.ofInt (34)).toInt32 = (34 : Int32) := by decide
theorem cB_40 : (Int8.ofInt (40)).toInt32 = (40 : Int32) := by decide
theorem cB_41 : (Int8.ofInt (41)).toInt32 = (41 : Int32) := by decide
theorem cB_42 : (Int8.ofInt (42)).toInt32 = (42 : Int32) := by decide
theorem cB_43 : (Int8.ofInt (43)).toInt32 = (43 : Int32) := by decide
theorem cB_44 : (Int8.ofInt (44)).toInt32 = (44 : Int32) := by decide
theorem cB_45 : (Int8.ofInt (45)).toInt32 = (45 : Int32) := by decide
theorem cB_47 : (Int8.ofInt (47)).toInt32 = (47 : Int32) := by decide
theorem cB_48 : (Int8.ofInt (48)).toInt32 = (48 : Int32) := by decide
theorem cB_57 : (Int8.ofInt (57)).toInt32 = (57 : Int32) := by decide
theorem cB_59 : (Int8.ofInt (59)).toInt32 = (59 : Int32) := by decide
theorem cB_60 : (Int8.ofInt (60)).toInt32 = (60 : Int32) := by decide
theorem cB_61 : (Int8.ofInt (61)).toInt32 = (61 : Int32) := by decide
theorem cB_62 : (Int8.ofInt (62)).toInt32 = (62 : Int32) := by decide
theorem cB_63 : (Int8.ofInt (63)).toInt32 = (63 : Int32) := by decide
theorem cB_64 : (Int8.ofInt (64)).toInt32 = (64 : Int32) := by decide
theorem cB_97 : (Int8.ofInt (97)).toInt32 = (97 : Int32) := by decide
theorem cB_100 : (Int8.ofInt (100)).toInt32 = (100 : Int32) := by decide
theorem cB_120 : (Int8.ofInt (120)).toInt32 = (120 : Int32) := by decide
theorem cB_122 : (Int8.ofInt (122)).toInt32 = (122 : Int32) := by decide
theorem cB_123 : (Int8.ofInt (123)).toInt32 = (123 : Int32) := by decide
theorem cB_125 : (Int8.ofInt (125)).toInt32 = (125 : Int32) := by decide
theorem cI_m8 : Int32.ofInt (-8) = ((-8) : Int32) := by decide
theorem cI_m1 : Int32.ofInt (-1) = ((-1) : Int32) := by decide
theorem cI_0 : Int32.ofInt (0) = (0 : Int32) := by decide
theorem cI_1 : Int32.ofInt (1) = (1 : Int32) := by decide
theorem cI_2 : Int32.ofInt (2) = (2 : Int32) := by decide
theorem cI_3 : Int32.ofInt (3) = (3 : Int32) := by decide
theorem cI_4 : Int32.ofInt (4) = (4 : Int32) := by decide
theorem cI_5 : Int32.ofInt (5) = (5 : Int32) := by decide
theorem cI_6 : Int32.ofInt (6) = (6 : Int32) := by decide
theorem cI_1000000 : Int32.ofInt (1000000) = (1000000 : Int32) := by decide
theorem cI_9999999 : Int32.ofInt (9999999) = (9999999 : Int32) := by decide
theorem cI_252645135 : Int32.ofInt (252645135) = (252645135 : Int32) := by decide
theorem cI_858993459 : Int32.ofInt (858993459) = (858993459 : Int32) := by decide
theorem cI_999999999 : Int32.ofInt (999999999) = (999999999 : Int32) := by decide
theorem cI_1431655765 : Int32.ofInt (1431655765) = (1431655765 : Int32) := by decide
theorem cJ_m2000000000000 : Int64.ofInt (-2000000000000) = ((-2000000000000) : Int64) := by decide
theorem cJ_m10000000000 : Int64.ofInt (-10000000000) = ((-10000000000) : Int64) := by decide
theorem cJ_m100000000 : Int64.ofInt (-100000000) = ((-100000000) : Int64) := by decide
theorem cJ_m1 : Int64.ofInt (-1) = ((-1) : Int64) := by decide
theorem cJ_2 : Int64.ofInt (2) = (2 : Int64) := by decide
theorem cJ_10 : Int64.ofInt (10) = (10 : Int64) := by decide
theorem cJ_32 : Int64.ofInt (32) = (32 : Int64) := by decide
theorem cJ_97 : Int64.ofInt (97) = (97 : Int64) := by decide
theorem cJ_100 : Int64.ofInt (100) = (100 : Int64) := by decide
theorem cJ_26982 : Int64.ofInt (26982) = (26982 : Int64) := by decide
theorem cJ_28530 : Int64.ofInt (28530) = (28530 : Int64) := by decide
theorem cJ_6385252 : Int64.ofInt (6385252) = (6385252 : Int64) := by decide
theorem cJ_6513008 : Int64.ofInt (6513008) = (6513008 : Int64) := by decide
theorem cJ_6709618 : Int64.ofInt (6709618) = (6709618 : Int64) := by decide
theorem cJ_7168376 : Int64.ofInt (7168376) = (7168376 : Int64) := by decide
theorem cJ_7170414 : Int64.ofInt (7170414) = (7170414 : Int64) := by decide
theorem cJ_7237492 : Int64.ofInt (7237492) = (7237492 : Int64) := by decide
theorem cJ_100000000 : Int64.ofInt (100000000) = (100000000 : Int64) := by decide
theorem cJ_1818325876 : Int64.ofInt (1818325876) = (1818325876 : Int64) := by decide
theorem cJ_1818848869 : Int64.ofInt (1818848869) = (1818848869 : Int64) := by decide
theorem cJ_1836021349 : Int64.ofInt (1836021349) = (1836021349 : Int64) := by decide
theorem cJ_1852138852 : Int64.ofInt (1852138852) = (1852138852 : Int64) := by decide
theorem cJ_2002874980 : Int64.ofInt (2002874980) = (2002874980 : Int64) := by decide
theorem cJ_10000000000 : Int64.ofInt (10000000000) = (10000000000 : Int64) := by decide
theorem cJ_439855772532 : Int64.ofInt (439855772532) = (439855772532 : Int64) := by decide
theorem cJ_439905906546 : Int64.ofInt (439905906546) = (439905906546 : Int64) := by decide
theorem cJ_448377480307 : Int64.ofInt (448377480307) = (448377480307 : Int64) := by decide
theorem cJ_465726563698 : Int64.ofInt (465726563698) = (465726563698 : Int64) := by decide
theorem cJ_469852318835 : Int64.ofInt (469852318835) = (469852318835 : Int64) := by decide
theorem cJ_478660552050 : Int64.ofInt (478660552050) = (478660552050 : Int64) := by decide
theorem cJ_495672455781 : Int64.ofInt (495672455781) = (495672455781 : Int64) := by decide
theorem cJ_500086104428 : Int64.ofInt (500086104428) = (500086104428 : Int64) := by decide
theorem cJ_504397587826 : Int64.ofInt (504397587826) = (504397587826 : Int64) := by decide
theorem cJ_32493203083583852 : Int64.ofInt (32493203083583852) = (32493203083583852 : Int64) := by decide
theorem cL_0 : Int64.ofNat ((0 : Fin 2) : Nat) = (0 : Int64) := by decide
theorem cL_1 : Int64.ofNat ((1 : Fin 2) : Nat) = (1 : Int64) := by decide
theorem cS_144 : (Int16.ofInt (144)).toInt32 = (144 : Int32) := by decide
theorem cS_255 : (Int16.ofInt (255)).toInt32 = (255 : Int32) := by decide
theorem cS_256 : (Int16.ofInt (256)).toInt32 = (256 : Int32) := by decide
theorem cS_257 : (Int16.ofInt (257)).toInt32 = (257 : Int32) := by decide
theorem cS_258 : (Int16.ofInt (258)).toInt32 = (258 : Int32) := by decide
theorem cS_263 : (Int16.ofInt (263)).toInt32 = (263 : Int32) := by decide
theorem cS_264 : (Int16.ofInt (264)).toInt32 = (264 : Int32) := by decide
theorem cS_265 : (Int16.ofInt (265)).toInt32 = (265 : Int32) := by decide
theorem cS_266 : (Int16.ofInt (266)).toInt32 = (266 : Int32) := by decide
theorem cS_267 : (Int16.ofInt (267)).toInt32 = (267 : Int32) := by decide
theorem cS_268 : (Int16.ofInt (268)).toInt32 = (268 : Int32) := by decide
theorem cS_269 : (Int16.ofInt (269)).toInt32 = (269 : Int32) := by decide
theorem cS_270 : (Int16.ofInt (270)).toInt32 = (270 : Int32) := by decide
theorem cS_279 : (Int16.ofInt (279)).toInt32 = (279 : Int32) := by decide
theorem cS_280 : (Int16.ofInt (280)).toInt32 = (280 : Int32) := by decide
theorem cS_281 : (Int16.ofInt (281)).toInt32 = (281 : Int32) := by decide
theorem cS_282 : (Int16.ofInt (282)).toInt32 = (282 : Int32) := by decide
theorem cS_283 : (Int16.ofInt (283)).toInt32 = (283 : Int32) := by decide
theorem cS_300 : (Int16.ofInt (300)).toInt32 = (300 : Int32) := by decide
theorem cS_360 : (Int16.ofInt (360)).toInt32 = (360 : Int32) := by decide
theorem cS_441 : (Int16.ofInt (441)).toInt32 = (441 : Int32) := by decide
theorem cS_680 : (Int16.ofInt (680)).toInt32 = (680 : Int32) := by decide
theorem cS_700 : (Int16.ofInt (700)).toInt32 = (700 : Int32) := by decide
theorem cS_720 : (Int16.ofInt (720)).toInt32 = (720 : Int32) := by decide
theorem cS_999 : (Int16.ofInt (999)).toInt32 = (999 : Int32) := by decide
theorem cS_1000 : (Int16.ofInt (1000)).toInt32 = (1000 : Int32) := by decide
theorem cS_1500 : (Int16.ofInt (1500)).toInt32 = (1500 : Int32) := by decide
theorem cS_9999 : (Int16.ofInt (9999)).toInt32 = (9999 : Int32) := by decide
theorem cS_13500 : (Int16.ofInt (13500)).toInt32 = (13500 : Int32) := by decide
theorem cS_15000 : (Int16.ofInt (15000)).toInt32 = (15000 : Int32) := by decide
