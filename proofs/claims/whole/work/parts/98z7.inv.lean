/-! every call over the invariant (wip/gen_px3.py) -/
section IV
variable {S : gM}
theorem px_KI.nf {U : gM} (h : px_KI S) (hF : Fr nfm S U) : px_KI U := by
  obtain ⟨h1, ⟨a, b, c, d⟩, h3, h4⟩ := h
  refine ⟨fun j j1 j2 => (hF.l rfl).trans (h1 j j1 j2), ⟨(gln_c hF.1 _ _).trans a, (gln_c hF.1 _ _).trans b, (gln_c hF.1 _ _).trans c, (gln_c hF.1 _ _).trans d⟩, fun j j1 j2 => ?_, by rw [gn_c hF.1]; exact h4⟩
  rw [show gi U 75 j = gi S 75 j from hF.i rfl, show gi U 76 j = gi S 76 j from hF.i rfl, show gi U 77 j = gi S 77 j from hF.i rfl]
  exact h3 j j1 j2
theorem ok2_3 {fc fr : gM → Option (Int × gM)} (hk : px_KI S) (h : Ok2 S fc fr) : Ok3 S fc fr := p_imp h (fun r hr => p_imp hr (fun r2 h2 => ⟨h2.1, ⟨h2.2.1, hk.nf h2.2.2⟩, by rw [gn_c h2.2.2.1]; omega, by rw [gs_c h2.2.2.1]; omega⟩))
theorem rates_ok (h : Bk S) (hk : px_KI S) (hg : gn S < 900000000) (y a b lim i : Int) : Ok3 S (g98 y a b lim i) (g191 y a b lim i) := by
  refine p_imp (rates_pr h.2.1 h.1 ⟨hk.2.2.2, hg⟩ y a b lim i) (fun r hr => p_imp hr (fun r2 h2 => ?_))
  obtain ⟨e, ⟨⟨S1, F1, hG⟩, F2⟩, hC⟩ := h2
  have d1 := h.1.fr F1 rfl
  have t1 : TapeI S1 := h.2.2.1.fr F1 rfl
  have v1 : MoveI S1 := h.2.2.2.1.fr F1 rfl
  have p1 : gi S1 0 9 = gi S1 55 25 := by rw [show gi S1 0 9 = gi S 0 9 from F1.i rfl, show gi S1 55 25 = gi S 55 25 from F1.i rfl]; exact h.2.2.2.2
  have k1 : (∀ k, 0 ≤ k → k < 23 → gl S1 17 k = px_ky k) ∧ px_RB S1 := ⟨fun k a b => (F1.l rfl).trans (hk.1 k a b), fun k a b => by
    rw [show gi S1 75 k = gi S 75 k from F1.i rfl, show gi S1 76 k = gi S 76 k from F1.i rfl, show gi S1 77 k = gi S 77 k from F1.i rfl]
    exact hk.2.2.1 k a b⟩
  -- behind the class
  have mid : DayI r.2 ∧ TapeI r.2 ∧ MoveI r.2 ∧ gi r.2 0 9 = gi r.2 55 25 ∧ ((∀ k, 0 ≤ k → k < 23 → gl r.2 17 k = px_ky k) ∧ px_RB r.2) ∧ (gn S ≤ gn r.2 ∧ gn r.2 ≤ gn S + 1) ∧ gs r.2 ≤ gs S + 8 ∧ ∀ q a, 0 ≤ gln S q a → gln r.2 q a = gln S q a := by
    rcases hG with z | ⟨S2, f2, e1, e2, g, n, s⟩
    · rw [z]
      exact ⟨d1, t1, v1, p1, k1, ⟨by rw [gn_c F1.1]; exact Nat.le_refl _, by rw [gn_c F1.1]; exact Nat.le_succ _⟩, by rw [gs_c F1.1]; omega, fun q a _ => gln_c F1.1 _ _⟩
    · have g1 := hk.2.2.2
      have g2 : gn S < 1000000000 := by omega
      have eg : gi r.2 = gi S2 := e1
      have el : gl r.2 = gl S2 := e2
      have d2 : DayI S2 := d1.fr f2 (su_new rfl g1 g2)
      have t2 : TapeI S2 := t1.fr f2 (su_new rfl g1 g2)
      have v2 : MoveI S2 := v1.fr f2 (su_new rfl g1 g2)
      have ni := fun (q : Nat) (hq : q < 103) (k : Int) => new_i f2 (q := q) (by omega) (by omega) g1 g2 k
      refine ⟨?_, ?_, ?_, ?_, ⟨fun k a b => ?_, fun k a b => ?_⟩, ⟨by omega, by omega⟩, by omega, g.2.2.1⟩
      · unfold DayI at d2 ⊢; rw [eg]; exact d2
      · unfold TapeI at t2 ⊢; rw [eg]; exact t2
      · unfold MoveI at v2 ⊢; rw [eg]; exact v2
      · rw [eg, (ni 0 (by decide) 9).1, (ni 55 (by decide) 25).1]; exact p1
      · rw [el, (ni 17 (by decide) k).2]; exact k1.1 k a b
      · rw [eg, (ni 75 (by decide) k).1, (ni 76 (by decide) k).1, (ni 77 (by decide) k).1]; exact k1.2 k a b
  obtain ⟨m1, m2, m3, m4, ⟨m5, m6⟩, m7, m8, m9⟩ := mid
  obtain ⟨l1, l2, l3, l4⟩ := hk.2.1
  refine ⟨e, ⟨⟨m1.fr F2 rfl, hC, m2.fr F2 rfl, m3.fr F2 rfl, ?_⟩, fun k a b => (F2.l rfl).trans (m5 k a b), ⟨?_, ?_, ?_, ?_⟩, fun k a b => ?_, ?_⟩, ?_, ?_⟩
  · rw [show gi r2.2 0 9 = gi r.2 0 9 from F2.i rfl, show gi r2.2 55 25 = gi r.2 55 25 from F2.i rfl]; exact m4
  · rw [gln_c F2.1, m9 _ _ (by omega)]; exact l1
  · rw [gln_c F2.1, m9 _ _ (by omega)]; exact l2
  · rw [gln_c F2.1, m9 _ _ (by omega)]; exact l3
  · rw [gln_c F2.1, m9 _ _ (by omega)]; exact l4
  · rw [show gi r2.2 75 k = gi r.2 75 k from F2.i rfl, show gi r2.2 76 k = gi r.2 76 k from F2.i rfl, show gi r2.2 77 k = gi r.2 77 k from F2.i rfl]
    exact m6 k a b
  · rw [gn_c F2.1]; have := hk.2.2.2; omega
  · rw [gn_c F2.1]; omega
  · rw [gs_c F2.1]; omega
end IV
/-- what holds behind c calls -/
def px_Inv (c : Nat) (M : vm_M) : Prop := ∃ S, Rel S M ∧ (Bk S ∧ px_KI S) ∧ gn S ≤ 103 + 5 * c ∧ gs S ≤ 50000 + 900 * c
theorem px_Inv.sh {c : Nat} {M : vm_M} (h : px_Inv c M) : Sh M := by
  obtain ⟨S, h1, -⟩ := h
  exact h1.1
theorem px_Inv.up {c : Nat} {M : vm_M} (h : px_Inv c M) : px_Inv (c + 1) M := by
  obtain ⟨S, h1, h2, h3, h4⟩ := h
  exact ⟨S, h1, h2, by omega, by omega⟩
theorem px_Inv.rm {c : Nat} {M : vm_M} (hc : c ≤ 512) (h : px_Inv c M) : vm_n M ≤ 600000 ∧ vm_s M ≤ 7302250 := by
  obtain ⟨S, h1, h2, h3, h4⟩ := h
  have e := h1.2.2.2
  have e1 : gn S = vm_n M := congrArg (fun x => x.1) e
  have e2 : gs S = vm_s M := congrArg (fun x => x.2.2.2) e
  omega
theorem px_opI {fc fr : vm_M → Option (Int32 × vm_M)} {gc gr' : gM → Option (Int × gM)} (hc : ∀ {S : gM} {M : vm_M} {r : Int × gM}, Rel S M → gc S = some r → Mp gRI (fc M) r) (hr : ∀ {S : gM} {M : vm_M} {r : Int × gM}, Rel S M → gr' S = some r → Mp gRI (fr M) r) (ok : ∀ S : gM, Bk S → px_KI S → gn S < 900000000 → Ok3 S gc gr') : OpOk px_Inv fc fr := by
  intro c M hc5 hI
  obtain ⟨S, h1, ⟨h2, h2'⟩, h3, h4⟩ := hI
  obtain ⟨r, e1, r2, e2, v, B, n, s⟩ := ok S h2 h2' (by omega)
  obtain ⟨a, f1, a1, a2⟩ := hc h1 e1
  obtain ⟨b, f2, b1, b2⟩ := hr a2 e2
  have ab : b.1 = a.1 := Int32.toInt_inj.mp (by rw [a1, b1, v])
  have n' : gn r2.2 ≤ 103 + 5 * (c + 1) := Nat.le_trans n (by omega)
  have s' : gs r2.2 ≤ 50000 + 900 * (c + 1) := Nat.le_trans s (by omega)
  have I : px_Inv (c + 1) b.2 := Exists.intro r2.2 ⟨b2, B, n', s'⟩
  refine ⟨a.1, a.2, b.2, f1, a2.1, ?_, I⟩
  rw [f2, ← ab]
theorem px_opJ {fc fr : vm_M → Option (Int64 × vm_M)} {gc gr' : gM → Option (Int × gM)} (hc : ∀ {S : gM} {M : vm_M} {r : Int × gM}, Rel S M → gc S = some r → Mp gRJ (fc M) r) (hr : ∀ {S : gM} {M : vm_M} {r : Int × gM}, Rel S M → gr' S = some r → Mp gRJ (fr M) r) (ok : ∀ S : gM, Bk S → px_KI S → gn S < 900000000 → Ok3 S gc gr') : OpOk px_Inv fc fr := by
  intro c M hc5 hI
  obtain ⟨S, h1, ⟨h2, h2'⟩, h3, h4⟩ := hI
  obtain ⟨r, e1, r2, e2, v, B, n, s⟩ := ok S h2 h2' (by omega)
  obtain ⟨a, f1, a1, a2⟩ := hc h1 e1
  obtain ⟨b, f2, b1, b2⟩ := hr a2 e2
  have ab : b.1 = a.1 := Int64.toInt_inj.mp (by rw [a1, b1, v])
  have n' : gn r2.2 ≤ 103 + 5 * (c + 1) := Nat.le_trans n (by omega)
  have s' : gs r2.2 ≤ 50000 + 900 * (c + 1) := Nat.le_trans s (by omega)
  have I : px_Inv (c + 1) b.2 := Exists.intro r2.2 ⟨b2, B, n', s'⟩
  refine ⟨a.1, a.2, b.2, f1, a2.1, ?_, I⟩
  rw [f2, ← ab]
theorem px_o0 : ∀ a0 : Int32, OpOk px_Inv (f74 0 a0) (f117 55 a0) := fun a0 => px_opI (fun hR e => g74_ok hR rfl e) (fun hR e => g117_ok hR rfl e) (fun S h hk hg => ok2_3 hk (day_ok h a0.toInt))
theorem px_o1 : ∀ a0 a1 a2 : Int32, OpOk px_Inv (f75 0 a0 a1 a2) (f119 55 a0 a1 a2) := fun a0 a1 a2 => px_opI (fun hR e => g75_ok hR rfl rfl rfl e) (fun hR e => g119_ok hR rfl rfl rfl e) (fun S h hk hg => ok2_3 hk (school_ok h a0.toInt a1.toInt a2.toInt))
theorem px_o2 : ∀ a0 a1 : Int32, OpOk px_Inv (f76 0 a0 a1) (f120 55 a0 a1) := fun a0 a1 => px_opI (fun hR e => g76_ok hR rfl rfl e) (fun hR e => g120_ok hR rfl rfl e) (fun S h hk hg => ok2_3 hk (need_ok h a0.toInt a1.toInt))
theorem px_o3 : ∀ a0 a1 a2 : Int32, OpOk px_Inv (f77 0 a0 a1 a2) (f121 55 a0 a1 a2) := fun a0 a1 a2 => px_opI (fun hR e => g77_ok hR rfl rfl rfl e) (fun hR e => g121_ok hR rfl rfl rfl e) (fun S h hk hg => ok2_3 hk (road_ok h a0.toInt a1.toInt a2.toInt))
theorem px_o4 : ∀ a0 a1 : Int32, OpOk px_Inv (f78 0 a0 a1) (f124 55 a0 a1) := fun a0 a1 => px_opI (fun hR e => g78_ok hR rfl rfl e) (fun hR e => g124_ok hR rfl rfl e) (fun S h hk hg => ok2_3 hk (far_ok h a0.toInt a1.toInt))
theorem px_o5 : ∀ a0 a1 a2 a3 : Int32, OpOk px_Inv (f79 0 a0 a1 a2 a3) (f125 55 a0 a1 a2 a3) := fun a0 a1 a2 a3 => px_opI (fun hR e => g79_ok hR rfl rfl rfl rfl e) (fun hR e => g125_ok hR rfl rfl rfl rfl e) (fun S h hk hg => ok2_3 hk (mark_ok h a0.toInt a1.toInt a2.toInt a3.toInt))
theorem px_o6 : ∀ a0 a1 a2 a3 : Int32, OpOk px_Inv (f80 0 a0 a1 a2 a3) (f127 55 a0 a1 a2 a3) := fun a0 a1 a2 a3 => px_opI (fun hR e => g80_ok hR rfl rfl rfl rfl e) (fun hR e => g127_ok hR rfl rfl rfl rfl e) (fun S h hk hg => ok2_3 hk (marked_ok h a0.toInt a1.toInt a2.toInt a3.toInt))
theorem px_o7 : ∀ a0 a1 a2 : Int32, OpOk px_Inv (f81 0 a0 a1 a2) (f129 55 a0 a1 a2) := fun a0 a1 a2 => px_opI (fun hR e => g81_ok hR rfl rfl rfl e) (fun hR e => g129_ok hR rfl rfl rfl e) (fun S h hk hg => ok2_3 hk (join_ok h a0.toInt a1.toInt a2.toInt))
theorem px_o8 : ∀ a0 a1 : Int32, OpOk px_Inv (f82 0 a0 a1) (f130 55 a0 a1) := fun a0 a1 => px_opI (fun hR e => g82_ok hR rfl rfl e) (fun hR e => g130_ok hR rfl rfl e) (fun S h hk hg => ok2_3 hk (open_ok h a0.toInt a1.toInt))
theorem px_o9 : ∀ a0 a1 a2 a3 a4 : Int32, OpOk px_Inv (f83 0 a0 a1 a2 a3 a4) (f134 55 a0 a1 a2 a3 a4) := fun a0 a1 a2 a3 a4 => px_opI (fun hR e => g83_ok hR rfl rfl rfl rfl rfl e) (fun hR e => g134_ok hR rfl rfl rfl rfl rfl e) (fun S h hk hg => ok2_3 hk (feed_ok h a0.toInt a1.toInt a2.toInt a3.toInt a4.toInt))
theorem px_o10 : ∀ a0 a1 : Int32, OpOk px_Inv (f84 0 a0 a1) (f157 55 a0 a1) := fun a0 a1 => px_opI (fun hR e => g84_ok hR rfl rfl e) (fun hR e => g157_ok hR rfl rfl e) (fun S h hk hg => formula_ok h hk hg a0.toInt a1.toInt)
theorem px_o11 : ∀ a0 : Int32, OpOk px_Inv (f85 0 a0) (f158 55 a0) := fun a0 => px_opI (fun hR e => g85_ok hR rfl e) (fun hR e => g158_ok hR rfl e) (fun S h hk hg => beside_ok h hk hg a0.toInt)
theorem px_o12 : OpOk px_Inv (f86 0) (f159 55) := px_opI (fun hR e => g86_ok hR e) (fun hR e => g159_ok hR e) (fun S h hk hg => ok2_3 hk (fault_ok h ))
theorem px_o13 : ∀ a0 a1 a2 : Int32, OpOk px_Inv (f87 0 a0 a1 a2) (f164 55 a0 a1 a2) := fun a0 a1 a2 => px_opI (fun hR e => g87_ok hR rfl rfl rfl e) (fun hR e => g164_ok hR rfl rfl rfl e) (fun S h hk hg => ok2_3 hk (law_ok h a0.toInt a1.toInt a2.toInt))
theorem px_o14 : ∀ a0 a1 a2 : Int32, OpOk px_Inv (f88 0 a0 a1 a2) (f178 55 a0 a1 a2) := fun a0 a1 a2 => px_opJ (fun hR e => g88_ok hR rfl rfl rfl e) (fun hR e => g178_ok hR rfl rfl rfl e) (fun S h hk hg => ok2_3 hk (sum_ok h a0.toInt a1.toInt a2.toInt))
theorem px_o15 : ∀ a0 a1 a2 : Int32, OpOk px_Inv (f89 0 a0 a1 a2) (f183 55 a0 a1 a2) := fun a0 a1 a2 => px_opJ (fun hR e => g89_ok hR rfl rfl rfl e) (fun hR e => g183_ok hR rfl rfl rfl e) (fun S h hk hg => ok2_3 hk (led_ok h a0.toInt a1.toInt a2.toInt))
theorem px_o16 : ∀ a0 a1 : Int32, OpOk px_Inv (f90 0 a0 a1) (f182 55 a0 a1) := fun a0 a1 => px_opJ (fun hR e => g90_ok hR rfl rfl e) (fun hR e => g182_ok hR rfl rfl e) (fun S h hk hg => ok2_3 hk (due_ok h a0.toInt a1.toInt))
theorem px_o17 : ∀ a0 a1 : Int32, OpOk px_Inv (f91 0 a0 a1) (f179 55 a0 a1) := fun a0 a1 => px_opJ (fun hR e => g91_ok hR rfl rfl e) (fun hR e => g179_ok hR rfl rfl e) (fun S h hk hg => ok2_3 hk (all_ok h a0.toInt a1.toInt))
theorem px_o18 : ∀ a0 a1 a2 a3 a4 : Int32, OpOk px_Inv (f92 0 a0 a1 a2 a3 a4) (f184 55 a0 a1 a2 a3 a4) := fun a0 a1 a2 a3 a4 => px_opI (fun hR e => g92_ok hR rfl rfl rfl rfl rfl e) (fun hR e => g184_ok hR rfl rfl rfl rfl rfl e) (fun S h hk hg => ok2_3 hk (propose_ok h a0.toInt a1.toInt a2.toInt a3.toInt a4.toInt))
theorem px_o19 : ∀ a0 a1 : Int32, OpOk px_Inv (f93 0 a0 a1) (f185 55 a0 a1) := fun a0 a1 => px_opI (fun hR e => g93_ok hR rfl rfl e) (fun hR e => g185_ok hR rfl rfl e) (fun S h hk hg => ok2_3 hk (object_ok h a0.toInt a1.toInt))
theorem px_o20 : ∀ a0 : Int32, OpOk px_Inv (f94 0 a0) (f186 55 a0) := fun a0 => px_opI (fun hR e => g94_ok hR rfl e) (fun hR e => g186_ok hR rfl e) (fun S h hk hg => ok2_3 hk (adopt_ok h a0.toInt))
theorem px_o21 : ∀ a0 a1 : Int32, OpOk px_Inv (f95 0 a0 a1) (f188 55 a0 a1) := fun a0 a1 => px_opJ (fun hR e => g95_ok hR rfl rfl e) (fun hR e => g188_ok hR rfl rfl e) (fun S h hk hg => ok2_3 hk (other_ok h a0.toInt a1.toInt))
theorem px_o22 : ∀ a0 : Int32, OpOk px_Inv (f96 0 a0) (f189 55 a0) := fun a0 => px_opI (fun hR e => g96_ok hR rfl e) (fun hR e => g189_ok hR rfl e) (fun S h hk hg => ok2_3 hk (losers_ok h a0.toInt))
theorem px_o23 : ∀ a0 a1 a2 : Int32, OpOk px_Inv (f97 0 a0 a1 a2) (f190 55 a0 a1 a2) := fun a0 a1 a2 => px_opJ (fun hR e => g97_ok hR rfl rfl rfl e) (fun hR e => g190_ok hR rfl rfl rfl e) (fun S h hk hg => ok2_3 hk (edge_ok h a0.toInt a1.toInt a2.toInt))
theorem px_o24 : ∀ a0 a1 a2 a3 a4 : Int32, OpOk px_Inv (f98 0 a0 a1 a2 a3 a4) (f191 55 a0 a1 a2 a3 a4) := fun a0 a1 a2 a3 a4 => px_opJ (fun hR e => g98_ok hR rfl rfl rfl rfl rfl e) (fun hR e => g191_ok hR rfl rfl rfl rfl rfl e) (fun S h hk hg => rates_ok h hk hg a0.toInt a1.toInt a2.toInt a3.toInt a4.toInt)
theorem px_o25 : ∀ a0 a1 a2 a3 : Int32, OpOk px_Inv (f99 0 a0 a1 a2 a3) (f192 55 a0 a1 a2 a3) := fun a0 a1 a2 a3 => px_opI (fun hR e => g99_ok hR rfl rfl rfl rfl e) (fun hR e => g192_ok hR rfl rfl rfl rfl e) (fun S h hk hg => ok2_3 hk (foretold_ok h a0.toInt a1.toInt a2.toInt a3.toInt))
theorem px_o26 : ∀ a0 a1 : Int32, OpOk px_Inv (f100 0 a0 a1) (f195 55 a0 a1) := fun a0 a1 => px_opI (fun hR e => g100_ok hR rfl rfl e) (fun hR e => g195_ok hR rfl rfl e) (fun S h hk hg => ok2_3 hk (doubt_ok h a0.toInt a1.toInt))
theorem px_o27 : ∀ a0 : Int32, OpOk px_Inv (f101 0 a0) (f197 55 a0) := fun a0 => px_opI (fun hR e => g101_ok hR rfl e) (fun hR e => g197_ok hR rfl e) (fun S h hk hg => ok2_3 hk (count_ok h a0.toInt))
/-- the law answers 1 on every script, if the invariant holds at first -/
theorem px_pure {L : Nat} (xs : Nat → Int32) (hL : L ≤ 3072) (h0 : px_Inv 0 wh_M) : ∃ r, f203 L xs () vm_M0 = some r ∧ r.1 = 1 ∧ vm_n r.2 ≤ 600000 ∧ vm_s r.2 ≤ 7302250 :=
  wh_pure_of xs hL (fun _ _ h => h.sh) (fun _ _ h => h.up) h0 (fun _ _ hc h => h.rm hc) px_o0 px_o1 px_o2 px_o3 px_o4 px_o5 px_o6 px_o7 px_o8 px_o9 px_o10 px_o11 px_o12 px_o13 px_o14 px_o15 px_o16 px_o17 px_o18 px_o19 px_o20 px_o21 px_o22 px_o23 px_o24 px_o25 px_o26 px_o27
