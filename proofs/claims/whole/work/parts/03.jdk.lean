/-! the words of the JDK's methods that stand as rows of the kit (wip/gen1.py) -/
theorem vt_ms0 : Cond.static Lib.Math.max.name ∈ vt := vt_of (i := 315) (by decide +kernel) rfl
theorem vt_mc0 : Cond.code Lib.Math.max.name Lib.Math.max.code 2 (some .int) ∈ vt := vt_of (i := 316) (by decide +kernel) rfl
theorem vt_ms1 : Cond.static Lib.Math.min.name ∈ vt := vt_of (i := 323) (by decide +kernel) rfl
theorem vt_mc1 : Cond.code Lib.Math.min.name Lib.Math.min.code 2 (some .int) ∈ vt := vt_of (i := 324) (by decide +kernel) rfl
theorem vt_ms2 : Cond.static Lib.Math.abs.name ∈ vt := vt_of (i := 999) (by decide +kernel) rfl
theorem vt_mc2 : Cond.code Lib.Math.abs.name Lib.Math.abs.code 1 (some .int) ∈ vt := vt_of (i := 1000) (by decide +kernel) rfl
theorem vt_ms3 : Cond.static Lib.MathLoose.max_long.x ∈ vt := vt_of (i := 811) (by decide +kernel) rfl
theorem vt_mc3 : Cond.code Lib.MathLoose.max_long.x Lib.MathLoose.max_long.code 4 (some .long) ∈ vt := vt_of (i := 812) (by decide +kernel) rfl
theorem vt_ms4 : Cond.static Lib.MathLoose.min_long.x ∈ vt := vt_of (i := 808) (by decide +kernel) rfl
theorem vt_mc4 : Cond.code Lib.MathLoose.min_long.x Lib.MathLoose.min_long.code 4 (some .long) ∈ vt := vt_of (i := 809) (by decide +kernel) rfl
theorem vt_ms5 : Cond.static Lib.MathLoose.abs_long.x ∈ vt := vt_of (i := 1513) (by decide +kernel) rfl
theorem vt_mc5 : Cond.code Lib.MathLoose.abs_long.x Lib.MathLoose.abs_long.code 2 (some .long) ∈ vt := vt_of (i := 1514) (by decide +kernel) rfl
theorem vt_mi : Cond.initialized "java/lang/Math" ∈ vt := vt_of (i := 72) (by decide +kernel) rfl
theorem vt_oi : Cond.instanceMethod objectInit ∈ vt := vt_of (i := 86) (by decide +kernel) rfl
theorem vt_oc : Cond.code objectInit ⟨#[0xb1]⟩ 1 none ∈ vt := vt_of (i := 87) (by decide +kernel) rfl
theorem vt_an : Cond.native arraycopyName ∈ vt := vt_of (i := 327) (by decide +kernel) rfl
theorem vt_as : Cond.static arraycopyName ∈ vt := vt_of (i := 326) (by decide +kernel) rfl
theorem vt_ai : Cond.initialized "java/lang/System" ∈ vt := vt_of (i := 73) (by decide +kernel) rfl
theorem vt_cs : Cond.sameMethod "[I" "java/lang/Object" "clone" "()Ljava/lang/Object;" ∈ vt := vt_of (i := 308) (by decide +kernel) rfl
theorem vt_cn : Cond.native ⟨"java/lang/Object", "clone", "()Ljava/lang/Object;"⟩ ∈ vt := vt_of (i := 309) (by decide +kernel) rfl
theorem vt_ci : Cond.instanceMethod ⟨"java/lang/Object", "clone", "()Ljava/lang/Object;"⟩ ∈ vt := vt_of (i := 310) (by decide +kernel) rfl
theorem vt_cl : Cond.selects "[I" ⟨"[I", "clone", "()Ljava/lang/Object;"⟩ ⟨"java/lang/Object", "clone", "()Ljava/lang/Object;"⟩ ∈ vt := vt_of (i := 311) (by decide +kernel) rfl
theorem vt_ac : ∀ t, t < 4 → Cond.arrayClass (vm_at t) ∈ vt := fun t ht => match t with
  | 0 => vt_of (i := 112) (by decide +kernel) rfl
  | 1 => vt_of (i := 297) (by decide +kernel) rfl
  | 2 => vt_of (i := 514) (by decide +kernel) rfl
  | 3 => vt_of (i := 298) (by decide +kernel) rfl
  | n + 4 => absurd ht (by omega)
