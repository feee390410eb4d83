/-! every instruction of the small machine is a step of the machine (by program: wip/gen_sound.py) -/
theorem vm_size {p : Program} {l : Launch} {e : Env} {R : Room} {s : State} {m : MethodId} {args : Array Value} {below : List Frame} {meth : Method} {c : Code} {Q : State → Prop} {H : Heap} {locs : List Loc} {cells slots : Nat} {g : JFrame}
    (k : H.size ≤ s.heap.size + cells → W p l e R s m args below meth c H locs cells slots Q g) : W p l e R s m args below meth c H locs cells slots Q g := fun T hT X => k (by
  have h := X.same.2.2.1
  have h2 : (T.setVm s.vm).heap = H := hT
  rw [h2] at h
  exact h) T hT X
/-- a call by its contract, with whatever it answers -/
theorem vm_call {p : Program} {l : Launch} {e : Env} {R : Room} {s : State} {m : MethodId} {args : Array Value} {below : List Frame} {meth : Method} {c : Code} {Q : State → Prop} {H : Heap} {locs : List Loc} {cells slots : Nat} {pc : Nat} {ls : Array Slot} {rest st0 : List Value} {a : Array Value} {mc ms b0 : Nat} {g : Nat → Nat} {cA : Nat → ClassId} {D : va_G} {r : vm_R}
    (hr : va_Run p l e R s m args below meth c H locs cells slots mc ms (F0 m pc ls st0) rest (vm_Qc g cA D b0 r a) (fun q => b0 ≤ q)) {H0 : Heap} (hS : va_S (fun q => b0 ≤ q) H0 H locs)
    (kk : ∀ (H1 : Heap) (locs1 : List Loc), vm_In g cA D r.2 H1 → va_S (fun q => b0 ≤ q) H0 H1 locs1 → W p l e R s m args below meth c H1 locs1 (cells + mc) (slots + ms) Q (F0 m (pc + 3) ls ((r.1.map (vm_tr g)).toList ++ rest))) : W p l e R s m args below meth c H locs cells slots Q (F0 m pc ls st0) := by
  intro T hT X
  obtain ⟨v, st₀, t, T', L, h0, X', hL, e1, e2, ⟨hv, hw, hz, hk⟩, st⟩ := hr T hT X
  have hv : v = r.1.map (vm_tr g) := by injection hv
  subst hv
  rw [h0] at hz hk
  obtain ⟨t2, a1, b1⟩ := kk T'.heap (locs ++ L) (by rw [e1]; exact hw) ⟨Nat.le_trans hS.1 (by rw [e1]; exact hz), fun q h1 h2 => by rw [e1, hk q (Nat.lt_of_lt_of_le h1 hS.1) h2]; exact hS.2.1 q h1 h2, fun q hq => by
      rcases List.mem_append.mp hq with h | h
      · exact hS.2.2 q h
      · exact hL q h⟩ T' rfl X'
  exact ⟨t2, st t2 a1, b1⟩
/-- what is needed of String constants: stays over calls and warming, and its three uses -/
def vm_Str (b0 : Nat) (g : Nat → Nat) (X : State → Prop) : Prop :=
  (∀ (U : State) (f : JFrame) (mk : MethodId) (a : Array Value), X U → X (U.calling f mk a)) ∧ (∀ s U : State, X s → s.WarmedH U.vm → va_F (fun q => b0 ≤ q) s U → X U) ∧
  (∀ (p : Program) (l : Launch) (e : Env) (R : Room) (s : State) (m : MethodId) (args : Array Value) (below : List Frame) (meth : Method) (c : Code) (H : Heap) (locs : List Loc) (cells slots : Nat) (Q : State → Prop) (cc : ByteArray) (pc : Nat) (ls : Array Slot) (rest : List Value),
    p.tables.exec = Jvm.exec → c.code = cc → s.vm.findClass (vg_O 6) = some m.cls → X s → decode cc pc = .ok (.ldc 31, 2) → W p l e R s m args below meth c H locs cells slots Q (F0 m (pc + 2) ls (.ref (g vm_str) :: rest)) → W p l e R s m args below meth c H locs cells slots Q (F0 m pc ls rest)) ∧
  (∀ (p : Program) (l : Launch) (e : Env) (R : Room) (s : State) (m : MethodId) (args : Array Value) (below : List Frame) (meth : Method) (c : Code) (H : Heap) (locs : List Loc) (cells slots : Nat) (Q : State → Prop) (cc : ByteArray) (pc : Nat) (ls : Array Slot) (rest : List Value) (nL i : Nat),
    p.tables.exec = Jvm.exec → c.code = cc → c.maxLocals = nL → ls.size = nL → s.vm.findClass (vg_O 6) = some m.cls → (∀ w ∈ vt, w.before args s = true) → X s → va_S (fun q => b0 ≤ q) s.heap H locs → 9 ≤ R.frames → 900 ≤ R.locals → cells ≤ R.cells → slots ≤ R.slots → (rest.map fun v => v.category).sum ≤ 8 →
    Cond.methodLink (vg_O 6) i ⟨"java/lang/String", "length", "()I"⟩ ∈ vt → decode cc pc = .ok (.invokevirtual i, 3) → (∀ locs1, va_S (fun q => b0 ≤ q) s.heap H locs1 → W p l e R s m args below meth c H locs1 cells slots Q (F0 m (pc + 3) ls (.int (Int32.ofNat vm_by.length) :: rest))) → W p l e R s m args below meth c H locs cells slots Q (F0 m pc ls (.ref (g vm_str) :: rest))) ∧
  (∀ (p : Program) (l : Launch) (e : Env) (R : Room) (s : State) (m : MethodId) (args : Array Value) (below : List Frame) (meth : Method) (c : Code) (H : Heap) (locs : List Loc) (cells slots : Nat) (Q : State → Prop) (cc : ByteArray) (pc : Nat) (ls : Array Slot) (rest : List Value) (nL i : Nat) (k : Int32),
    p.tables.exec = Jvm.exec → c.code = cc → c.maxLocals = nL → ls.size = nL → s.vm.findClass (vg_O 6) = some m.cls → (∀ w ∈ vt, w.before args s = true) → X s → va_S (fun q => b0 ≤ q) s.heap H locs → 9 ≤ R.frames → 900 ≤ R.locals → cells ≤ R.cells → slots ≤ R.slots → (rest.map fun v => v.category).sum ≤ 8 → vp_in k vm_by.length →
    Cond.methodLink (vg_O 6) i ⟨"java/lang/String", "charAt", "(I)C"⟩ ∈ vt → decode cc pc = .ok (.invokevirtual i, 3) → (∀ locs1, va_S (fun q => b0 ≤ q) s.heap H locs1 → W p l e R s m args below meth c H locs1 cells slots Q (F0 m (pc + 3) ls (.int (vm_by.getD k.toNatClampNeg 0) :: rest))) → W p l e R s m args below meth c H locs cells slots Q (F0 m pc ls (.int k :: .ref (g vm_str) :: rest)))
theorem vm_Pc_blind {g : Nat → Nat} {cA : Nat → ClassId} {D : va_G} {b0 : Nat} {X : State → Prop} {as : List Value} {M : vm_M} (hXs : vm_Str b0 g X) : FrameBlind (vm_Pc g cA D b0 X as M) := by
  intro a U f mk h
  obtain ⟨h1, h2, h3, h4, h5, h6⟩ := h
  exact ⟨h1, h2, h3, va_K.moved (u := U) (U := U.calling f mk a) (Vm.Alike.refl U.vm) h4, vm_Nx.same (u := U) (U := U.calling f mk a) rfl h5, hXs.1 U f mk a h6⟩
theorem vm_good : GoodIn vt vt := fun w h => ⟨h, good_of_word (List.mem_filter.mp h).2⟩
theorem vm_goodc {i : Nat} (h : i < 203) : GoodIn vt (Cond.code (vm_y i) (vm_b i) (vm_x i) (vm_r i) :: vt) := fun w hw => by
  rcases List.mem_cons.mp hw with rfl | hw
  · exact vm_good _ (vm_code i h)
  · exact vm_good _ hw
theorem vm_Dd {g : Nat → Nat} {cA : Nat → ClassId} {b0 : Nat} {M : vm_M} (hg : ∀ q, q < 1099511627776 → g q = b0 + q) (hn : vm_n M ≤ 1099511627776) : va_D (fun q => b0 ≤ q) (vm_w g cA M) := by
  have key : ∀ (k : Nat) (q : Nat × va_E), (vm_w g cA M)[k]? = some q → k < vm_n M ∧ q.1 = b0 + k := by
    intro k q hq
    have hk : k < vm_n M := by
      have := (List.getElem?_eq_some_iff.mp hq).1
      rwa [vm_w_len] at this
    rw [vm_w_at hk] at hq
    cases hq
    exact ⟨hk, hg k (by omega)⟩
  refine ⟨fun i j x y hx hy hxy => ?_, fun k q hq => ?_⟩
  · have h1 := (key i x hx).2
    have h2 := (key j y hy).2
    omega
  · have := (key k q hq).2
    show b0 ≤ q.1
    omega
theorem vm_nw_cA {g : Nat → Nat} {cA : Nat → ClassId} {D : va_G} {b0 q : Nat} {M : vm_M} {e : va_E} {H1 : Heap} (hg : ∀ q, q < 1099511627776 → g q = b0 + q) (hn : vm_n M < 1099511627776) (hP : va_P D vg_cl (vm_w g cA M ++ [(q, e)]) H1) (hD : va_D (fun q => b0 ≤ q) (vm_w g cA M ++ [(q, e)])) (hz : H1.size ≤ b0 + vm_n M + 1) : q = g (vm_n M) := by
  have h0 : (vm_w g cA M ++ [(q, e)])[vm_n M]? = some (q, e) := by
    rw [List.getElem?_append_right (by rw [vm_w_len]; exact Nat.le_refl _), vm_w_len, Nat.sub_self]
    rfl
  have h1 := (hP _ _ h0).lt
  have h2 : b0 ≤ q := hD.2 _ _ h0
  rw [hg _ hn]
  by_cases hq : q - b0 < vm_n M
  · exfalso
    have h3 : (vm_w g cA M ++ [(q, e)])[q - b0]? = some (g (q - b0), vm_e g cA M (q - b0)) := by
      rw [List.getElem?_append_left (by rw [vm_w_len]; exact hq), vm_w_at hq]
    have h4 := hD.1 _ _ _ _ h3 h0 (by show g (q - b0) = q; rw [hg _ (by omega)]; omega)
    omega
  · dsimp only at h1
    omega
theorem vm_low {g : Nat → Nat} {cA : Nat → ClassId} {D : va_G} {b0 n0 : Nat} {M : vm_M} {H : Heap} {locs : List Loc} {H0 : Heap} (hg : ∀ q, q < 1099511627776 → g q = b0 + q) (hn : vm_n M ≤ 1099511627776) (hI : vm_In g cA D M H) (hS : va_S (fun q => b0 ≤ q) H0 H locs) (h0 : H0.size = b0 + n0) (hm : n0 ≤ vm_n M) : b0 + vm_n M ≤ H.size := by
  by_cases h : n0 = vm_n M
  · have := hS.1
    omega
  · have h1 : vm_n M - 1 < vm_n M := by omega
    have h2 := (hI _ _ (vm_w_at h1)).lt
    dsimp only at h2
    rw [hg _ (by omega)] at h2
    omega
/-- what a run never takes back -/
def vm_up (M : vm_M) (r : vm_R) : Prop := vm_n M ≤ vm_n r.2 ∧ vm_s M ≤ vm_s r.2
theorem vm_do_up {O : Nat → List Value → vm_M → vm_R → Prop} {L : Nat} {xs : Nat → Int32} {own : Nat} {ini : Bool} {nL : Nat} {r : vm_R} {E : Nat → vm_L → List Value → vm_M → Prop} (hO : ∀ i as M r', O i as M r' → vm_n M ≤ vm_n r'.2 ∧ vm_s M ≤ vm_s r'.2)
    (hE : ∀ pc lv st M, E pc lv st M → vm_up M r) {pc : Nat} {lv : vm_L} {st : List Value} {M : vm_M} {ins : Instr} {a b : Nat} {v : Int} (h : vm_do O L xs own ini nL r E pc lv st M ins a b v) : vm_up M r := by
  have mkk : ∀ {bb : vm_B} {w : Nat} {f : Nat → Int32}, vm_up (vm_mk M bb w f) r → vm_up M r := fun h => ⟨Nat.le_trans (Nat.le_succ _) h.1, Nat.le_trans (Nat.le_add_right _ _) h.2⟩
  have thr : ∀ {M1 M2 : vm_M}, vm_n M1 ≤ vm_n M2 ∧ vm_s M1 ≤ vm_s M2 → vm_up M2 r → vm_up M1 r := fun h1 h2 => ⟨Nat.le_trans h1.1 h2.1, Nat.le_trans h1.2 h2.2⟩
  cases ins <;> simp only [vm_do] at h
  case new => exact mkk (hE _ _ _ _ h)
  case newarray => obtain ⟨_, _, _, _, _, _, _, _, h⟩ := h; exact mkk (hE _ _ _ _ h)
  case anewarray => obtain ⟨_, _, _, _, _, _, h⟩ := h; exact mkk (hE _ _ _ _ h)
  case ifCond => obtain ⟨x, st', t, _, _, h1, h2⟩ := h; exact (Classical.em (vm_c _ x 0)).elim (fun q => hE _ _ _ _ (h1 q)) (fun q => hE _ _ _ _ (h2 q))
  case if_icmp => obtain ⟨x, y, st', t, _, _, h1, h2⟩ := h; exact (Classical.em (vm_c _ x y)).elim (fun q => hE _ _ _ _ (h1 q)) (fun q => hE _ _ _ _ (h2 q))
  case ldc => rcases h with h | h <;> exact hE _ _ _ _ h.2
  case dup2 => rcases h with ⟨_, _, _, _, _, _, h⟩ | ⟨_, _, _, _, h⟩ <;> exact hE _ _ _ _ h
  case ifnull => rcases h with ⟨_, _, _, h⟩ | ⟨_, _, _, _, h⟩ <;> exact hE _ _ _ _ h
  case ifnonnull => rcases h with ⟨_, _, _, _, _, h⟩ | ⟨_, _, h⟩ <;> exact hE _ _ _ _ h
  case tableswitch => obtain ⟨_, _, _, h⟩ := h; rcases h with ⟨_, _, _, h⟩ | ⟨_, _, _, _, _, _, h⟩ <;> exact hE _ _ _ _ h
  case arraylength => obtain ⟨_, _, _, h⟩ := h; rcases h with ⟨_, _, _, _, _, h⟩ | ⟨_, _, h⟩ <;> exact hE _ _ _ _ h
  case iaload => obtain ⟨_, _, _, _, h⟩ := h; rcases h with ⟨_, _, _, _, h⟩ | ⟨_, _, _, h⟩ <;> exact hE _ _ _ _ h
  case ireturn => obtain ⟨_, _, rfl⟩ := h; exact ⟨Nat.le_refl _, Nat.le_refl _⟩
  case lreturn => obtain ⟨_, _, rfl⟩ := h; exact ⟨Nat.le_refl _, Nat.le_refl _⟩
  case areturn => obtain ⟨_, _, rfl⟩ := h; exact ⟨Nat.le_refl _, Nat.le_refl _⟩
  case return_ => obtain ⟨_, rfl⟩ := h; exact ⟨Nat.le_refl _, Nat.le_refl _⟩
  case putfield =>
    obtain ⟨x, q, st', M', _, _, _, _, hp, h⟩ := h
    have h2 := hE _ _ _ _ h
    cases x <;> simp only [vm_pv] at hp
    · obtain ⟨_, _, _, rfl⟩ := hp; exact h2
    · obtain ⟨_, rfl⟩ := hp; exact h2
    · obtain ⟨_, rfl⟩ := hp; exact h2
    · obtain ⟨_, rfl⟩ := hp; exact h2
  case invokespecial =>
    rcases h with ⟨_, _, _, _, _, h⟩ | ⟨_, _, _, _, _, _, _, _, _, ho, h⟩
    · exact hE _ _ _ _ h
    · exact thr (hO _ _ _ _ ho) (hE _ _ _ _ h)
  case invokestatic =>
    rcases h with ⟨_, _, _, _, _, _, _, _, ho, h⟩ | h | h | h | h | h | h | h
    · exact thr (hO _ _ _ _ ho) (hE _ _ _ _ h)
    · obtain ⟨_, _, _, _, _, _, _, h⟩ := h; exact hE _ _ _ _ h
    · obtain ⟨_, _, _, _, _, _, _, h⟩ := h; exact hE _ _ _ _ h
    · obtain ⟨_, _, _, _, _, _, h⟩ := h; exact hE _ _ _ _ h
    · obtain ⟨_, _, _, _, _, _, _, h⟩ := h; exact hE _ _ _ _ h
    · obtain ⟨_, _, _, _, _, _, _, h⟩ := h; exact hE _ _ _ _ h
    · obtain ⟨_, _, _, _, _, _, h⟩ := h; exact hE _ _ _ _ h
    · obtain ⟨_, _, _, _, _, _, _, _, _, _, _, _, _, _, _, _, _, _, _, _, _, h⟩ := h
      rcases h with h | h
      · exact (hE _ _ _ _ h.2 : vm_up _ r)
      · exact (hE _ _ _ _ h.2 : vm_up _ r)
  case invokevirtual =>
    rcases h with ⟨_, _, _, _, _, _, _, _, _, _, _, ho, h⟩ | h | h | h
    · exact thr (hO _ _ _ _ ho) (hE _ _ _ _ h)
    · obtain ⟨_, _, _, _, _, _, _, _, h⟩ := h; exact mkk (hE _ _ _ _ h)
    · obtain ⟨_, _, _, _, h⟩ := h; exact hE _ _ _ _ h
    · obtain ⟨_, _, _, _, _, _, h⟩ := h; exact hE _ _ _ _ h
  case iastore => obtain ⟨_, _, _, _, _, _, _, _, _, h⟩ := h; exact (hE _ _ _ _ h : vm_up _ r)
  case lastore => obtain ⟨_, _, _, _, _, _, _, _, _, h⟩ := h; exact (hE _ _ _ _ h : vm_up _ r)
  case bastore => obtain ⟨_, _, _, _, _, _, _, _, _, _, _, h⟩ := h; exact (hE _ _ _ _ h : vm_up _ r)
  case aastore => obtain ⟨_, _, _, _, _, _, _, _, _, _, _, h⟩ := h; exact (hE _ _ _ _ h : vm_up _ r)
  all_goals first
    | exact h.elim
    | exact hE _ _ _ _ h
    | (obtain ⟨_, h⟩ := h; exact hE _ _ _ _ h)
    | (obtain ⟨_, _, h⟩ := h; exact hE _ _ _ _ h)
    | (obtain ⟨_, _, _, h⟩ := h; exact hE _ _ _ _ h)
    | (obtain ⟨_, _, _, _, h⟩ := h; exact hE _ _ _ _ h)
    | (obtain ⟨_, _, _, _, _, h⟩ := h; exact hE _ _ _ _ h)
    | (obtain ⟨_, _, _, _, _, _, h⟩ := h; exact hE _ _ _ _ h)
    | (obtain ⟨_, _, _, _, _, _, _, h⟩ := h; exact hE _ _ _ _ h)
    | (obtain ⟨_, _, _, _, _, _, _, _, h⟩ := h; exact hE _ _ _ _ h)
    | (obtain ⟨_, _, _, _, _, _, _, _, _, h⟩ := h; exact hE _ _ _ _ h)
    | (obtain ⟨_, _, _, _, _, _, _, _, _, _, h⟩ := h; exact hE _ _ _ _ h)
    | (obtain ⟨_, _, _, _, _, _, _, _, _, _, _, h⟩ := h; exact hE _ _ _ _ h)
theorem vm_ex_up {O : Nat → List Value → vm_M → vm_R → Prop} {L : Nat} {xs : Nat → Int32} {own : Nat} {ini : Bool} {nL : Nat} {P : List vm_I} {r : vm_R} (hO : ∀ i as M r', O i as M r' → vm_n M ≤ vm_n r'.2 ∧ vm_s M ≤ vm_s r'.2) : ∀ (n pc : Nat) (lv : vm_L) (st : List Value) (M : vm_M), vm_ex O L xs own ini nL P r n pc lv st M → vm_up M r
  | 0, _, _, _, _, h => h.elim
  | n + 1, _, _, _, _, ⟨_, _, _, _, _, h⟩ => vm_do_up hO (vm_ex_up hO n) h
