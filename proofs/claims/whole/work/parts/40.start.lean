/-! the law from its entry, out of its shallow function -/
def vm_gg (b0 aS bX : Nat) (q : Nat) : Nat := if q < 1099511627776 then b0 + q else if q = 1099511627776 then aS else bX
def vm_M0 : vm_M := (0, fun _ => .inl 0, fun _ _ => 0, fun _ _ => 0, fun _ _ => none, 0)
theorem vt_castable : Cond.castable "[I" "java/lang/Cloneable" ∈ lw_tbl := List.mem_of_getElem? (i := 312) (by decide +kernel)
theorem vt_arrayOver : Cond.arrayOver (.object "PupilCoin$Law") ∈ lw_tbl := List.mem_of_getElem? (i := 369) (by decide +kernel)
theorem wh_Nx {s : State} {args : Array Value} (hts : ∀ w ∈ lw_tbl, w.before args s = true) : vm_Nx s := by
  refine ⟨fun q hq => ?_, va_Nw.of rfl (hts _ vt_castable), va_AO.of (hts _ vt_arrayOver)⟩
  obtain ⟨j, hj⟩ := List.getElem?_of_mem hq
  have hl : j < 6 := (List.getElem?_eq_some_iff.mp hj).1
  obtain ⟨e, h1, h2, -⟩ := vg_ne_ok j hl
  rw [hj] at h1
  cases h1
  exact va_Nw.of rfl (hts _ (List.mem_of_getElem? h2))
theorem wh_K {s : State} {args : Array Value} (hts : ∀ w ∈ vt, w.before args s = true) (hN : vm_Nx s) : ∃ (D : va_G) (cA : Nat → ClassId), va_K D vg_cl (vm_tys cA) s := by
  have h1 : ∀ i : Nat, ∃ q : ClassId × (Nat → Nat), i < 12 → u_Kn s (vg_C i) (vg_T i) (vg_N i) q.1 q.2 := by
    intro i
    by_cases hi : i < 12
    · obtain ⟨c, iS, h⟩ := u_known hts (vg_lays i hi) (hts _ (vt_of (vg_inst_ok i hi).1 (vg_inst_ok i hi).2))
      exact ⟨(c, iS), fun _ => h⟩
    · exact ⟨(0, fun _ => 0), fun h => absurd h hi⟩
  obtain ⟨f, hf⟩ := Classical.axiomOfChoice h1
  have h2 : ∀ t : Nat, ∃ cA : ClassId, t < 5 → ArrOfT s cA (vm_at t) ∧ va_RA s cA (vm_at t) := by
    intro t
    by_cases ht : t < 4
    · obtain ⟨c, k, comp, h1, h2, h3⟩ := Cond.arrayClass_spec (hts _ (vt_ac t ht))
      refine ⟨c, fun _ => ⟨fun n z => ⟨fun k h => (by cases h), k, h2, comp, h3⟩, ?_⟩⟩
      rcases (by omega : t = 0 ∨ t = 1 ∨ t = 2 ∨ t = 3) with rfl | rfl | rfl | rfl <;> exact h1
    · by_cases ht4 : t = 4
      · subst ht4
        obtain ⟨comp, c, k, h1, h2, h3, h4, h5⟩ := Cond.arrayOver_spec (args := #[]) (va_AO.use hN.2.2)
        exact ⟨c, fun _ => ⟨fun n z => ⟨fun k h => (by cases h), k, h3, comp, h4⟩, k, comp, h3, h4, h1, h5⟩⟩
      · exact ⟨0, fun h => absurd h (by omega)⟩
  obtain ⟨cA, hcA⟩ := Classical.axiomOfChoice h2
  refine ⟨(fun i => (f i).1, fun i => (f i).2), cA, fun c q hq => ?_, fun k q hk => ?_⟩
  · have hc : c < 12 := by
      have := (List.getElem?_eq_some_iff.mp hq).1
      simpa using this
    rw [vg_cl_at hc] at hq
    cases hq
    exact hf c hc
  · have hc : k < 5 := by
      have := (List.getElem?_eq_some_iff.mp hk).1
      simpa [vm_tys] using this
    rw [vm_tys_at hc] at hk
    cases hk
    exact hcA k hc
set_option maxHeartbeats 1000000 in
theorem wh_start {p : Program} {e : Env} {s : State} {m : MethodId} {below : List Frame} {meth : Method} {c : Code} (l : Launch) {b L aS : Nat} {xs : Nat → Int32} (C0 : lw_At p s m meth c b L xs) {X : State → Prop} (hXs : vm_Str s.heap.size (vm_gg s.heap.size aS b) X) (hX : X s)
    (hp : ∃ r, f203 L xs () vm_M0 = some r ∧ r.1 = 1 ∧ vm_n r.2 ≤ 600000 ∧ vm_s r.2 ≤ 7302250) : W p l e room_1 s m #[Value.ref b] below meth c s.heap [] 0 0 (lw_Z below #[Value.ref b] s) (entryFrame m ([Value.ref b] : List Value).toArray 4) := by
  obtain ⟨hx, hb, hr, hml, hown, hts, hXx, hbl, hlocks, hgv⟩ := C0
  obtain ⟨⟨r1, M'⟩, hf, hr1, hn1, hs1⟩ := hp
  dsimp only at hr1 hn1 hs1
  subst hr1
  have hN := wh_Nx hts
  have hts' : ∀ w ∈ vt, w.before #[Value.ref b] s = true := fun w hw => hts w (vt_in w hw)
  obtain ⟨D, cA, hK⟩ := wh_K hts' hN
  have hl := lv_entry ([.ref b] : List Value) (n := 4) (Nat.le_of_ble_eq_true rfl)
  rw [lg_entry_eq]
  have hgs : vm_gg s.heap.size aS b vm_scr = b := by
    unfold vm_gg vm_scr
    rw [if_neg (Nat.not_lt.mpr (Nat.le_of_ble_eq_true rfl)), if_neg (fun z => by cases (Nat.eq_of_beq_eq_true (by rw [z]; rfl) : (1099511627777 : Nat) = 1099511627776))]
  have hla : vm_trl (vm_gg s.heap.size aS b) (lv_args 0 [.ref vm_scr]) = lv_args 0 [.ref b] := by
    show [(0, Value.ref (vm_gg s.heap.size aS b vm_scr))] = [(0, Value.ref b)]
    rw [hgs]
  rw [← hla] at hl
  obtain ⟨-, n, hex⟩ := f203_ok (d := 0) hf
  have key := vm_sound (R := room_1) (l := l) (e := e) (below := below) (meth := meth) (Q := lw_Z below #[Value.ref b] s) (O := vm_Cl (0 + 129)) (L := L) (xs := xs) (own := 12) (ini := false) (nL := 4) (n0 := 0) (s0 := 0) (b0 := s.heap.size) (d := 129) (g := vm_gg s.heap.size aS b) (cA := cA) (D := D) (X := X) (r := rI (1, M')) (P := vp_203) hx hb hml hown hts' hK hN hX hXs (fun h => by cases h) (fun _ => ⟨by rw [hgs]; exact hXx, by rw [hgs]; exact hbl, by rw [hgs]; exact Nat.not_le.mpr hbl⟩) (fun q hq => if_pos hq) rfl (Nat.le_trans hn1 (Nat.le_of_ble_eq_true rfl)) (by show vm_n M' - 0 ≤ 600000; rw [Nat.sub_zero]; exact hn1) (by show vm_s M' - 0 ≤ 7302250; rw [Nat.sub_zero]; exact hs1) (Nat.le_of_ble_eq_true rfl) (Nat.le_of_ble_eq_true rfl) (vm_met hXs (fun q hq => if_pos hq) 129) (vp_ok 203 (Nat.le_of_ble_eq_true rfl)) ?_ n 0 (lv_args 0 [.ref vm_scr]) [] vm_M0 hex (Nat.le_refl _) (Nat.le_refl _) s.heap [] _ hl (fun k q h => by simp [vm_w, vm_M0, vm_n] at h) va_S.rf
  · exact key
  · intro pc ins H locs ls hdg hir hI hS
    refine va_forget hS.2.2 ?_
    refine W.widen (k := 600000) (n := 7302250) (by show vm_n M' - 0 ≤ 600000; rw [Nat.sub_zero]; exact hn1) (by show vm_s M' - 0 ≤ 7302250; rw [Nat.sub_zero]; exact hs1) ?_
    cases ins <;> simp only [vm_isr, rI] at hir
    exact lw_ret hx hb hr hlocks hdg
