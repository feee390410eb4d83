set_option maxHeartbeats 1000000 in
theorem vm_step {p : Program} {l : Launch} {e : Env} {R : Room} {s : State} {m : MethodId} {args : Array Value} {below : List Frame} {meth : Method} {c : Code} {Q : State → Prop} {cc : ByteArray} {O : Nat → List Value → vm_M → vm_R → Prop} {L : Nat} {xs : Nat → Int32} {own : Nat} {ini : Bool} {nL n0 s0 b0 d : Nat} {g : Nat → Nat} {cA : Nat → ClassId} {D : va_G} {X : State → Prop} {r : vm_R}
    (hx : p.tables.exec = Jvm.exec) (hb : c.code = cc) (hml : c.maxLocals = nL) (hown : s.vm.findClass (vg_O own) = some m.cls) (hts : ∀ w ∈ vt, w.before args s = true) (hK : va_K D vg_cl (vm_tys cA) s) (hN : vm_Nx s) (hX : X s) (hXs : vm_Str b0 g X)
    (hin : ini = true → meth.name = "<init>") (hscr : own = 12 → va_X (g vm_scr) L xs s s.heap ∧ g vm_scr < s.heap.size ∧ ¬ b0 ≤ g vm_scr) (hg : ∀ q, q < 1099511627776 → g q = b0 + q) (hh0 : s.heap.size = b0 + n0) (hnr : vm_n r.2 ≤ 1099511627776)
    (hRc : vm_n r.2 - n0 ≤ R.cells) (hRs : vm_s r.2 - s0 ≤ R.slots) (hRf : d + 9 ≤ R.frames) (hRl : 100 * (d + 9) ≤ R.locals)
    (hO : ∀ i as M r', O i as M r' → vm_n M ≤ vm_n r'.2 ∧ vm_s M ≤ vm_s r'.2 ∧ (i < 203 → vm_n r'.2 ≤ 1099511627776 → vm_Ok l g cA D b0 X d i as M r')) {E : Nat → vm_L → List Value → vm_M → Prop}
    (ih : ∀ pc lv st M, E pc lv st M → n0 ≤ vm_n M → s0 ≤ vm_s M → ∀ (H : Heap) (locs : List Loc) (ls : Array Slot), lv_has ls nL (vm_trl g lv) → vm_In g cA D M H → va_S (fun q => b0 ≤ q) s.heap H locs → W p l e R s m args below meth c H locs (vm_n M - n0) (vm_s M - s0) Q (F0 m pc ls (st.map (vm_tr g))))
    (hup : ∀ pc lv st M, E pc lv st M → vm_up M r)
    (hret : ∀ pc ins (H : Heap) (locs : List Loc) (ls : Array Slot), decode cc pc = .ok (ins, 1) → vm_isr ins r.1 → vm_In g cA D r.2 H → va_S (fun q => b0 ≤ q) s.heap H locs → W p l e R s m args below meth c H locs (vm_n r.2 - n0) (vm_s r.2 - s0) Q (F0 m pc ls (r.1.toList.map (vm_tr g))))
    {pc : Nat} {lv : vm_L} {st : List Value} {M : vm_M} {ins : Instr} {a b : Nat} {v : Int} (hdg : decode cc pc = .ok (ins, vm_len ins b)) (hlk : vm_lk own ins a b v) (h : vm_do O L xs own ini nL r E pc lv st M ins a b v) (hn : n0 ≤ vm_n M) (hsl : s0 ≤ vm_s M) {H : Heap} {locs : List Loc} {ls : Array Slot} (hl : lv_has ls nL (vm_trl g lv)) (hI : vm_In g cA D M H) (hS : va_S (fun q => b0 ≤ q) s.heap H locs) :
    W p l e R s m args below meth c H locs (vm_n M - n0) (vm_s M - s0) Q (F0 m pc ls (st.map (vm_tr g))) := by
  cases ins
  case iconst n => exact vm_step_iconst hx hb hml hown hts hK hN hX hXs hin hscr hg hh0 hnr hRc hRs hRf hRl hO ih hup hret hdg hlk h hn hsl hl hI hS
  case bipush n => exact vm_step_bipush hx hb hml hown hts hK hN hX hXs hin hscr hg hh0 hnr hRc hRs hRf hRl hO ih hup hret hdg hlk h hn hsl hl hI hS
  case sipush n => exact vm_step_sipush hx hb hml hown hts hK hN hX hXs hin hscr hg hh0 hnr hRc hRs hRf hRl hO ih hup hret hdg hlk h hn hsl hl hI hS
  case lconst n => exact vm_step_lconst hx hb hml hown hts hK hN hX hXs hin hscr hg hh0 hnr hRc hRs hRf hRl hO ih hup hret hdg hlk h hn hsl hl hI hS
  case aconst_null => exact vm_step_aconst_null hx hb hml hown hts hK hN hX hXs hin hscr hg hh0 hnr hRc hRs hRf hRl hO ih hup hret hdg hlk h hn hsl hl hI hS
  case ldc i => exact vm_step_ldc hx hb hml hown hts hK hN hX hXs hin hscr hg hh0 hnr hRc hRs hRf hRl hO ih hup hret hdg hlk h hn hsl hl hI hS
  case ldc_w i => exact vm_step_ldc_w hx hb hml hown hts hK hN hX hXs hin hscr hg hh0 hnr hRc hRs hRf hRl hO ih hup hret hdg hlk h hn hsl hl hI hS
  case ldc2_w i => exact vm_step_ldc2_w hx hb hml hown hts hK hN hX hXs hin hscr hg hh0 hnr hRc hRs hRf hRl hO ih hup hret hdg hlk h hn hsl hl hI hS
  case iload i => exact vm_step_iload hx hb hml hown hts hK hN hX hXs hin hscr hg hh0 hnr hRc hRs hRf hRl hO ih hup hret hdg hlk h hn hsl hl hI hS
  case iload_n i => exact vm_step_iload_n hx hb hml hown hts hK hN hX hXs hin hscr hg hh0 hnr hRc hRs hRf hRl hO ih hup hret hdg hlk h hn hsl hl hI hS
  case lload i => exact vm_step_lload hx hb hml hown hts hK hN hX hXs hin hscr hg hh0 hnr hRc hRs hRf hRl hO ih hup hret hdg hlk h hn hsl hl hI hS
  case lload_n i => exact vm_step_lload_n hx hb hml hown hts hK hN hX hXs hin hscr hg hh0 hnr hRc hRs hRf hRl hO ih hup hret hdg hlk h hn hsl hl hI hS
  case aload i => exact vm_step_aload hx hb hml hown hts hK hN hX hXs hin hscr hg hh0 hnr hRc hRs hRf hRl hO ih hup hret hdg hlk h hn hsl hl hI hS
  case aload_n i => exact vm_step_aload_n hx hb hml hown hts hK hN hX hXs hin hscr hg hh0 hnr hRc hRs hRf hRl hO ih hup hret hdg hlk h hn hsl hl hI hS
  case istore i => exact vm_step_istore hx hb hml hown hts hK hN hX hXs hin hscr hg hh0 hnr hRc hRs hRf hRl hO ih hup hret hdg hlk h hn hsl hl hI hS
  case istore_n i => exact vm_step_istore_n hx hb hml hown hts hK hN hX hXs hin hscr hg hh0 hnr hRc hRs hRf hRl hO ih hup hret hdg hlk h hn hsl hl hI hS
  case lstore i => exact vm_step_lstore hx hb hml hown hts hK hN hX hXs hin hscr hg hh0 hnr hRc hRs hRf hRl hO ih hup hret hdg hlk h hn hsl hl hI hS
  case lstore_n i => exact vm_step_lstore_n hx hb hml hown hts hK hN hX hXs hin hscr hg hh0 hnr hRc hRs hRf hRl hO ih hup hret hdg hlk h hn hsl hl hI hS
  case astore i => exact vm_step_astore hx hb hml hown hts hK hN hX hXs hin hscr hg hh0 hnr hRc hRs hRf hRl hO ih hup hret hdg hlk h hn hsl hl hI hS
  case astore_n i => exact vm_step_astore_n hx hb hml hown hts hK hN hX hXs hin hscr hg hh0 hnr hRc hRs hRf hRl hO ih hup hret hdg hlk h hn hsl hl hI hS
  case iinc i n => exact vm_step_iinc hx hb hml hown hts hK hN hX hXs hin hscr hg hh0 hnr hRc hRs hRf hRl hO ih hup hret hdg hlk h hn hsl hl hI hS
  case iadd => exact vm_step_iadd hx hb hml hown hts hK hN hX hXs hin hscr hg hh0 hnr hRc hRs hRf hRl hO ih hup hret hdg hlk h hn hsl hl hI hS
  case isub => exact vm_step_isub hx hb hml hown hts hK hN hX hXs hin hscr hg hh0 hnr hRc hRs hRf hRl hO ih hup hret hdg hlk h hn hsl hl hI hS
  case imul => exact vm_step_imul hx hb hml hown hts hK hN hX hXs hin hscr hg hh0 hnr hRc hRs hRf hRl hO ih hup hret hdg hlk h hn hsl hl hI hS
  case iand => exact vm_step_iand hx hb hml hown hts hK hN hX hXs hin hscr hg hh0 hnr hRc hRs hRf hRl hO ih hup hret hdg hlk h hn hsl hl hI hS
  case ior => exact vm_step_ior hx hb hml hown hts hK hN hX hXs hin hscr hg hh0 hnr hRc hRs hRf hRl hO ih hup hret hdg hlk h hn hsl hl hI hS
  case ixor => exact vm_step_ixor hx hb hml hown hts hK hN hX hXs hin hscr hg hh0 hnr hRc hRs hRf hRl hO ih hup hret hdg hlk h hn hsl hl hI hS
  case ishl => exact vm_step_ishl hx hb hml hown hts hK hN hX hXs hin hscr hg hh0 hnr hRc hRs hRf hRl hO ih hup hret hdg hlk h hn hsl hl hI hS
  case ishr => exact vm_step_ishr hx hb hml hown hts hK hN hX hXs hin hscr hg hh0 hnr hRc hRs hRf hRl hO ih hup hret hdg hlk h hn hsl hl hI hS
  case ladd => exact vm_step_ladd hx hb hml hown hts hK hN hX hXs hin hscr hg hh0 hnr hRc hRs hRf hRl hO ih hup hret hdg hlk h hn hsl hl hI hS
  case lsub => exact vm_step_lsub hx hb hml hown hts hK hN hX hXs hin hscr hg hh0 hnr hRc hRs hRf hRl hO ih hup hret hdg hlk h hn hsl hl hI hS
  case lmul => exact vm_step_lmul hx hb hml hown hts hK hN hX hXs hin hscr hg hh0 hnr hRc hRs hRf hRl hO ih hup hret hdg hlk h hn hsl hl hI hS
  case land => exact vm_step_land hx hb hml hown hts hK hN hX hXs hin hscr hg hh0 hnr hRc hRs hRf hRl hO ih hup hret hdg hlk h hn hsl hl hI hS
  case lor => exact vm_step_lor hx hb hml hown hts hK hN hX hXs hin hscr hg hh0 hnr hRc hRs hRf hRl hO ih hup hret hdg hlk h hn hsl hl hI hS
  case iushr => exact vm_step_iushr hx hb hml hown hts hK hN hX hXs hin hscr hg hh0 hnr hRc hRs hRf hRl hO ih hup hret hdg hlk h hn hsl hl hI hS
  case lshl => exact vm_step_lshl hx hb hml hown hts hK hN hX hXs hin hscr hg hh0 hnr hRc hRs hRf hRl hO ih hup hret hdg hlk h hn hsl hl hI hS
  case lshr => exact vm_step_lshr hx hb hml hown hts hK hN hX hXs hin hscr hg hh0 hnr hRc hRs hRf hRl hO ih hup hret hdg hlk h hn hsl hl hI hS
  case idiv => exact vm_step_idiv hx hb hml hown hts hK hN hX hXs hin hscr hg hh0 hnr hRc hRs hRf hRl hO ih hup hret hdg hlk h hn hsl hl hI hS
  case irem => exact vm_step_irem hx hb hml hown hts hK hN hX hXs hin hscr hg hh0 hnr hRc hRs hRf hRl hO ih hup hret hdg hlk h hn hsl hl hI hS
  case ldiv => exact vm_step_ldiv hx hb hml hown hts hK hN hX hXs hin hscr hg hh0 hnr hRc hRs hRf hRl hO ih hup hret hdg hlk h hn hsl hl hI hS
  case lrem => exact vm_step_lrem hx hb hml hown hts hK hN hX hXs hin hscr hg hh0 hnr hRc hRs hRf hRl hO ih hup hret hdg hlk h hn hsl hl hI hS
  case ineg => exact vm_step_ineg hx hb hml hown hts hK hN hX hXs hin hscr hg hh0 hnr hRc hRs hRf hRl hO ih hup hret hdg hlk h hn hsl hl hI hS
  case lneg => exact vm_step_lneg hx hb hml hown hts hK hN hX hXs hin hscr hg hh0 hnr hRc hRs hRf hRl hO ih hup hret hdg hlk h hn hsl hl hI hS
  case i2l => exact vm_step_i2l hx hb hml hown hts hK hN hX hXs hin hscr hg hh0 hnr hRc hRs hRf hRl hO ih hup hret hdg hlk h hn hsl hl hI hS
  case i2b => exact vm_step_i2b hx hb hml hown hts hK hN hX hXs hin hscr hg hh0 hnr hRc hRs hRf hRl hO ih hup hret hdg hlk h hn hsl hl hI hS
  case lcmp => exact vm_step_lcmp hx hb hml hown hts hK hN hX hXs hin hscr hg hh0 hnr hRc hRs hRf hRl hO ih hup hret hdg hlk h hn hsl hl hI hS
  case dup => exact vm_step_dup hx hb hml hown hts hK hN hX hXs hin hscr hg hh0 hnr hRc hRs hRf hRl hO ih hup hret hdg hlk h hn hsl hl hI hS
  case dup_x1 => exact vm_step_dup_x1 hx hb hml hown hts hK hN hX hXs hin hscr hg hh0 hnr hRc hRs hRf hRl hO ih hup hret hdg hlk h hn hsl hl hI hS
  case dup2 => exact vm_step_dup2 hx hb hml hown hts hK hN hX hXs hin hscr hg hh0 hnr hRc hRs hRf hRl hO ih hup hret hdg hlk h hn hsl hl hI hS
  case ifCond cond off => exact vm_step_ifCond hx hb hml hown hts hK hN hX hXs hin hscr hg hh0 hnr hRc hRs hRf hRl hO ih hup hret hdg hlk h hn hsl hl hI hS
  case if_icmp cond off => exact vm_step_if_icmp hx hb hml hown hts hK hN hX hXs hin hscr hg hh0 hnr hRc hRs hRf hRl hO ih hup hret hdg hlk h hn hsl hl hI hS
  case goto off => exact vm_step_goto hx hb hml hown hts hK hN hX hXs hin hscr hg hh0 hnr hRc hRs hRf hRl hO ih hup hret hdg hlk h hn hsl hl hI hS
  case ifnull off => exact vm_step_ifnull hx hb hml hown hts hK hN hX hXs hin hscr hg hh0 hnr hRc hRs hRf hRl hO ih hup hret hdg hlk h hn hsl hl hI hS
  case ifnonnull off => exact vm_step_ifnonnull hx hb hml hown hts hK hN hX hXs hin hscr hg hh0 hnr hRc hRs hRf hRl hO ih hup hret hdg hlk h hn hsl hl hI hS
  case tableswitch dflt lo hi offs => exact vm_step_tableswitch hx hb hml hown hts hK hN hX hXs hin hscr hg hh0 hnr hRc hRs hRf hRl hO ih hup hret hdg hlk h hn hsl hl hI hS
  case lookupswitch dflt ps => exact vm_step_lookupswitch hx hb hml hown hts hK hN hX hXs hin hscr hg hh0 hnr hRc hRs hRf hRl hO ih hup hret hdg hlk h hn hsl hl hI hS
  case getfield i => exact vm_step_getfield hx hb hml hown hts hK hN hX hXs hin hscr hg hh0 hnr hRc hRs hRf hRl hO ih hup hret hdg hlk h hn hsl hl hI hS
  case putfield i => exact vm_step_putfield hx hb hml hown hts hK hN hX hXs hin hscr hg hh0 hnr hRc hRs hRf hRl hO ih hup hret hdg hlk h hn hsl hl hI hS
  case arraylength => exact vm_step_arraylength hx hb hml hown hts hK hN hX hXs hin hscr hg hh0 hnr hRc hRs hRf hRl hO ih hup hret hdg hlk h hn hsl hl hI hS
  case iaload => exact vm_step_iaload hx hb hml hown hts hK hN hX hXs hin hscr hg hh0 hnr hRc hRs hRf hRl hO ih hup hret hdg hlk h hn hsl hl hI hS
  case baload => exact vm_step_baload hx hb hml hown hts hK hN hX hXs hin hscr hg hh0 hnr hRc hRs hRf hRl hO ih hup hret hdg hlk h hn hsl hl hI hS
  case laload => exact vm_step_laload hx hb hml hown hts hK hN hX hXs hin hscr hg hh0 hnr hRc hRs hRf hRl hO ih hup hret hdg hlk h hn hsl hl hI hS
  case aaload => exact vm_step_aaload hx hb hml hown hts hK hN hX hXs hin hscr hg hh0 hnr hRc hRs hRf hRl hO ih hup hret hdg hlk h hn hsl hl hI hS
  case iastore => exact vm_step_iastore hx hb hml hown hts hK hN hX hXs hin hscr hg hh0 hnr hRc hRs hRf hRl hO ih hup hret hdg hlk h hn hsl hl hI hS
  case bastore => exact vm_step_bastore hx hb hml hown hts hK hN hX hXs hin hscr hg hh0 hnr hRc hRs hRf hRl hO ih hup hret hdg hlk h hn hsl hl hI hS
  case lastore => exact vm_step_lastore hx hb hml hown hts hK hN hX hXs hin hscr hg hh0 hnr hRc hRs hRf hRl hO ih hup hret hdg hlk h hn hsl hl hI hS
  case aastore => exact vm_step_aastore hx hb hml hown hts hK hN hX hXs hin hscr hg hh0 hnr hRc hRs hRf hRl hO ih hup hret hdg hlk h hn hsl hl hI hS
  case newarray ty => exact vm_step_newarray hx hb hml hown hts hK hN hX hXs hin hscr hg hh0 hnr hRc hRs hRf hRl hO ih hup hret hdg hlk h hn hsl hl hI hS
  case anewarray i => exact vm_step_anewarray hx hb hml hown hts hK hN hX hXs hin hscr hg hh0 hnr hRc hRs hRf hRl hO ih hup hret hdg hlk h hn hsl hl hI hS
  case new i => exact vm_step_new hx hb hml hown hts hK hN hX hXs hin hscr hg hh0 hnr hRc hRs hRf hRl hO ih hup hret hdg hlk h hn hsl hl hI hS
  case checkcast i => exact vm_step_checkcast hx hb hml hown hts hK hN hX hXs hin hscr hg hh0 hnr hRc hRs hRf hRl hO ih hup hret hdg hlk h hn hsl hl hI hS
  case ireturn => exact vm_step_ireturn hx hb hml hown hts hK hN hX hXs hin hscr hg hh0 hnr hRc hRs hRf hRl hO ih hup hret hdg hlk h hn hsl hl hI hS
  case lreturn => exact vm_step_lreturn hx hb hml hown hts hK hN hX hXs hin hscr hg hh0 hnr hRc hRs hRf hRl hO ih hup hret hdg hlk h hn hsl hl hI hS
  case areturn => exact vm_step_areturn hx hb hml hown hts hK hN hX hXs hin hscr hg hh0 hnr hRc hRs hRf hRl hO ih hup hret hdg hlk h hn hsl hl hI hS
  case return_ => exact vm_step_return_ hx hb hml hown hts hK hN hX hXs hin hscr hg hh0 hnr hRc hRs hRf hRl hO ih hup hret hdg hlk h hn hsl hl hI hS
  case invokevirtual i => exact vm_step_invokevirtual hx hb hml hown hts hK hN hX hXs hin hscr hg hh0 hnr hRc hRs hRf hRl hO ih hup hret hdg hlk h hn hsl hl hI hS
  case invokespecial i => exact vm_step_invokespecial hx hb hml hown hts hK hN hX hXs hin hscr hg hh0 hnr hRc hRs hRf hRl hO ih hup hret hdg hlk h hn hsl hl hI hS
  case invokestatic i => exact vm_step_invokestatic hx hb hml hown hts hK hN hX hXs hin hscr hg hh0 hnr hRc hRs hRf hRl hO ih hup hret hdg hlk h hn hsl hl hI hS
  all_goals exact h.elim
