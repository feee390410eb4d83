/-! calls: rates, the class, both -/
section RY
variable {S S1 S2 : gM}
theorem bst_c {L : Int → Int → Int} {la : Int → Int} {op op' : Int → Prop} {a b lim : Int} {R n : Nat} (h : ∀ j : Nat, j < n → (op j ↔ op' j)) (k : Nat) : bst L la op a b R lim n k = bst L la op' a b R lim n k := by
  have eT : ∀ u v, rTot L op a b R u v n = rTot L op' a b R u v n := fun u v => sm_congr n (fun j hj => by rw [propext (h j hj)])
  have eW : ∀ u v, rWor L la op a b R u v n = rWor L la op' a b R u v n := fun u v => sm_congr n (fun j hj => by rw [propext (h j hj)])
  induction k with
  | zero => rfl
  | succ k ih => rw [bst, bst, ih, eT, eW]
/-- a memory with one cell more -/
def Grw (S S' : gM) : Prop := ∃ S1, Fr frZ S S1 ∧ (S' = S1 ∨ ∃ S2, Fr [gn S] S1 S2 ∧ S'.1 = S2.1 ∧ S'.2.1 = S2.2.1 ∧ Gw S S' ∧ gn S' = gn S + 1 ∧ gs S' = gs S + 8)
set_option maxHeartbeats 1000000 in
theorem g98_w (h : ClsI S) (hD : DayI S) (hg : 103 ≤ gn S ∧ gn S < 900000000) (y a b lim i : Int) : Wp (fun r => (rtO S y a b lim i → r.1 = rt S y.toNat a b lim i) ∧ (¬ rtO S y a b lim i → r.1 = -2000000000000) ∧ Grw S r.2 ∧ ClsI r.2) (g98 y a b lim i S) := by
  have n12 := h.1.n12
  unfold g98
  rw [g103_eq, ob_s]
  dsimp only
  have out : ∀ hno : ¬ rtO S y a b lim i, Wp (fun r => (rtO S y a b lim i → r.1 = rt S y.toNat a b lim i) ∧ (¬ rtO S y a b lim i → r.1 = -2000000000000) ∧ Grw S r.2 ∧ ClsI r.2) (some ((-2000000000000 : Int), S)) := fun hno => p_some ⟨fun z => absurd z hno, fun _ => rfl, ⟨S, Fr.refl, Or.inl rfl⟩, h⟩
  by_cases c2 : 0 ≤ y ∧ y < 10
  · rw [one_t c2, if_neg (by decide)]
    refine p_if (fun c => out (fun z => by have := z.2.1; omega)) (fun cl1 => ?_)
    refine p_if (fun c => out (fun z => by have := z.2.1; omega)) (fun cl2 => ?_)
    refine p_if (fun c => out (fun z => z.2.2.1 c)) (fun hab => ?_)
    rw [g102_eq, ob_s]
    dsimp only
    by_cases ci : 0 ≤ i ∧ i < 4
    · rw [one_t ci, if_pos (by decide), lt_t, hD.1]
      obtain ⟨y, rfl⟩ : ∃ k : Nat, y = k := ⟨y.toNat, by omega⟩
      have ok := inF_ok h.2.2.2.1 (y := y) (d := gi S 55 0) (by omega) hD.2.1
      obtain ⟨q, e56, hq, -⟩ := g56_w h.2.2.2.1 y (gi S 55 0) (by omega) hD.2.1
      refine p_call e56 ?_
      dsimp only
      have e4 : gi S q 4 = rtR S y := hq.1.2.1.2
      rw [lt_t, ob_s, chk_t hq.1.1.1, lt_t, e4, g102_eq, ob_s]
      dsimp only
      by_cases ca : 0 ≤ a ∧ a < (rtR S y : Int)
      · rw [one_t ca, if_neg (by decide), chk_t hq.1.1.1, lt_t, e4, g102_eq, ob_s]
        dsimp only
        by_cases cb : 0 ≤ b ∧ b < (rtR S y : Int)
        · rw [one_t cb, if_pos (by decide), lt_t, hD.1]
          have hO : rtO S y a b lim i := ⟨c2, ⟨by omega, by omega⟩, hab, ci, ca, cb⟩
          have hrk := rk_le (gi S) (inF (gi S) y (gi S 55 0)) (nsF (gi S) (inF (gi S) y (gi S 55 0))).toNat
          have hn30 := ok.1.1
          have hR30 : rtR S y ≤ 30 := by
            have e : rtR S y = rk (gi S) (inF (gi S) y (gi S 55 0)) (nsF (gi S) (inF (gi S) y (gi S 55 0))).toNat := rfl
            omega
          refine p_use (cls_y h Fr.refl h (by omega) hD.2.1) (fun S1 h1 => ?_)
          have eg : gn S1 = gn S := gn_c h1.1.1
          rw [lt_t, eg]
          -- the new cell
          have GA : Gw S1 (gmk S1 (.inl 5) (vg_N 5) (fun _ => 0)) := Gw.mk _ _ _ _
          have gnA : gn (gmk S1 (.inl 5) (vg_N 5) (fun _ => 0)) = gn S + 1 := by show gn S1 + 1 = _; rw [eg]
          have obA : gob (gmk S1 (.inl 5) (vg_N 5) (fun _ => 0)) (gn S) 5 = true := by
            unfold gob
            rw [gnA, show gsh (gmk S1 (.inl 5) (vg_N 5) (fun _ => 0)) (gn S) = .inl 5 from if_pos eg.symm]
            simp
          have gsA : gs (gmk S1 (.inl 5) (vg_N 5) (fun _ => 0)) = gs S + 8 := by show gs S1 + vg_N 5 = _; rw [gs_c h1.1.1]; rfl
          have vA : ∀ c k, ¬ c = gn S → gi (gmk S1 (.inl 5) (vg_N 5) (fun _ => 0)) c k = gi S1 c k ∧ gl (gmk S1 (.inl 5) (vg_N 5) (fun _ => 0)) c k = gl S1 c k := fun c k hc => ⟨if_neg (by rw [eg]; exact hc), if_neg (by rw [eg]; exact hc)⟩
          have zA : ∀ k, gi (gmk S1 (.inl 5) (vg_N 5) (fun _ => 0)) (gn S) k = 0 := fun k => if_pos eg.symm
          have rA : ∀ c k, c < gn S → gr (gmk S1 (.inl 5) (vg_N 5) (fun _ => 0)) c k = gr S1 c k := fun c k hc => if_neg (by rw [eg]; omega)
          generalize gmk S1 (.inl 5) (vg_N 5) (fun _ => 0) = SA at *
          unfold g25
          rw [chk_t obA, chk_t hg.1, lt_t, chk_t (show gob (wr SA (gn S) 0 (some 1)) (gn S) 5 = true from obA), chk_t hg.1, lt_t, chk_t (show gob (wr (wr SA (gn S) 0 (some 1)) (gn S) 1 (some 30)) (gn S) 5 = true from obA), lt_t, ob_s]
          have obB : gob (wi (wr (wr SA (gn S) 0 (some 1)) (gn S) 1 (some 30)) (gn S) 2 y) (gn S) 5 = true := obA
          have vB : ∀ c k, ¬ c = gn S → gi (wi (wr (wr SA (gn S) 0 (some 1)) (gn S) 1 (some 30)) (gn S) 2 y) c k = gi S1 c k ∧ gl (wi (wr (wr SA (gn S) 0 (some 1)) (gn S) 1 (some 30)) (gn S) 2 y) c k = gl S1 c k := fun c k hc => ⟨by rw [gi_wi, if_neg (fun z => hc z.1)]; exact (vA c k hc).1, (vA c k hc).2⟩
          have r0B : gr (wi (wr (wr SA (gn S) 0 (some 1)) (gn S) 1 (some 30)) (gn S) 2 y) (gn S) 0 = some 1 := by simp [gr, wi, wr]
          have r1B : gr (wi (wr (wr SA (gn S) 0 (some 1)) (gn S) 1 (some 30)) (gn S) 2 y) (gn S) 1 = some 30 := by simp [gr, wi, wr]
          have y2B : gi (wi (wr (wr SA (gn S) 0 (some 1)) (gn S) 1 (some 30)) (gn S) 2 y) (gn S) 2 = y := by rw [gi_wi, if_pos ⟨rfl, rfl⟩]
          have z3B : gi (wi (wr (wr SA (gn S) 0 (some 1)) (gn S) 1 (some 30)) (gn S) 2 y) (gn S) 3 = 0 := by rw [gi_wi, if_neg (by rintro ⟨-, z⟩; exact absurd z (by decide))]; exact zA 3
          have gnB : gn (wi (wr (wr SA (gn S) 0 (some 1)) (gn S) 1 (some 30)) (gn S) 2 y) = gn S + 1 := gnA
          have gsB : gs (wi (wr (wr SA (gn S) 0 (some 1)) (gn S) 1 (some 30)) (gn S) 2 y) = gs S + 8 := gsA
          have GB : Gw S1 (wi (wr (wr SA (gn S) 0 (some 1)) (gn S) 1 (some 30)) (gn S) 2 y) := by
            refine ⟨by rw [gnB, eg]; omega, fun c k hc => GA.2.1 c k hc, fun c k hc => GA.2.2.1 c k hc, fun c k hc => ?_⟩
            have : ¬ c = gn S := by omega
            have e := rA c k (by omega)
            simp only [gr, wi, wr] at e ⊢
            rw [if_neg (fun z => this z.1), if_neg (fun z => this z.1)]
            exact e
          generalize wi (wr (wr SA (gn S) 0 (some 1)) (gn S) 1 (some 30)) (gn S) 2 y = SB at *
          have sc1 : Sc S S1 := h1.1.mono rfl
          have e6 : ∀ j : Int, 0 ≤ j → j < gi S 55 1 → gi SB 6 j = gi S 67 j := fun j u v => by
            rw [(vB 6 j (by omega)).1, show gi S1 6 j = gi S 6 j from h1.1.i rfl]
            exact (h.1.2.1.2.1 j u v).1.2.2.2
          have RA : RaI SB (gn S) y (gi S 55 1) (rtL (cor S) (gi S) (rtF S y) y (gi S 55 0) (laV (cor S) (gi S) y)) (laV (cor S) (gi S) y) (rtR S y) := by
            refine ⟨hg.1, by omega, obB, r0B, r1B, y2B, ?_, n12, fun j u v w => ?_, rtL_rng h ok _, by omega⟩
            · rw [(vB 1 7 (by omega)).1]
              exact (h1.1.i rfl).trans h.1.2.1.1.2.2.1
            · rw [e6 j u v] at w
              have c := (h1.2.2.1 j u (by omega)).1
              have yes : j < gi S 55 1 ∧ (y : Int) < gi S 67 j := ⟨v, w⟩
              have eL : ∀ r, rtL (cor S) (gi S) (rtF S y) y (gi S 55 0) (laV (cor S) (gi S) y) j r = liS (cor S) (gi S) (rtF S y) y (gi S 55 0) (laV (cor S) (gi S) y) (-1) (-1) j r := fun r => by
                unfold rtL
                rw [ifp_t (by rw [co55_1]; exact ⟨u, v⟩)]
              refine ⟨?_, ?_, fun r x z => ?_⟩
              · rw [(vB 40 j (by omega)).2, c.2.1, ifp_t yes]
              · rw [(vB 35 j (by omega)).2, c.2.2, ifp_t yes]
                unfold baS
                rw [bar_sm]
                exact sm_congr _ (fun r _ => (eL r).symm)
              · rw [(vB 34 _ (by omega)).2, c.1 r x z, ifp_t yes, eL]
                rfl
          rw [chk_t obB]
          refine p_use (g26_w (lim := lim) RA z3B ca cb hab) (fun SC hC => ?_)
          have eB : bst (rtL (cor S) (gi S) (rtF S y) y (gi S 55 0) (laV (cor S) (gi S) y)) (laV (cor S) (gi S) y) (fun j => (y : Int) < gi SB 6 j) a b (rtR S y) lim (gi S 55 1).toNat 441 = rtB (cor S) (gi S) (rtF S y) y (gi S 55 0) (laV (cor S) (gi S) y) a b lim := by
            rw [bst_c (op' := fun j => (y : Int) < cor S 67 j) (fun j hj => by rw [e6 j (by omega) (by omega), co67])]
            unfold rtB
            rw [co55_1]
            rfl
          rw [eB] at hC
          have obC : gob SC (gn S) 5 = true := (gob_c hC.1.1 _ _).trans obB
          -- what the memory is then
          have F2 : Fr [gn S] S1 ((SC.1, SC.2.1, S1.2.2) : gM) := ⟨rfl, fun c k hc => by
            have hne : ¬ c = gn S := fun z => by rw [z, q_c hg.1 k] at hc; cases hc
            have e := hC.1.2 c k hc
            exact ⟨e.1.trans (vB c k hne).1, e.2.trans (vB c k hne).2⟩⟩
          have GC : Gw S1 SC := ⟨by rw [gn_c hC.1.1]; exact GB.1, fun c k z => (gob_c hC.1.1 _ _).trans (GB.2.1 c k z), fun c k z => (gln_c hC.1.1 _ _).trans (GB.2.2.1 c k z), fun c k z => (gr_c hC.1.1 _ _).trans (GB.2.2.2 c k z)⟩
          have C2 : ClsI ((SC.1, SC.2.1, S1.2.2) : gM) := h1.2.1.new F2 (by omega) hg.1 (by omega)
          have CC : ClsI SC := ClsI.gw (S := ((SC.1, SC.2.1, S1.2.2) : gM)) (H := SC.2.2) C2 GC (by show 103 ≤ gn S1; omega)
          have GS : Gw S SC := ⟨by rw [← eg]; exact GC.1, fun c k z => GC.2.1 c k ((gob_c h1.1.1 _ _).trans z), fun c k z => (GC.2.2.1 c k (by rw [gln_c h1.1.1]; exact z)).trans (gln_c h1.1.1 _ _), fun c k z => (GC.2.2.2 c k (by omega)).trans (gr_c h1.1.1 _ _)⟩
          have W : Grw S SC := ⟨S1, h1.1, Or.inr ⟨((SC.1, SC.2.1, S1.2.2) : gM), F2, rfl, rfl, GS, (gn_c hC.1.1).trans gnB, (gs_c hC.1.1).trans gsB⟩⟩
          have ert : rt S y a b lim i = rtA (rtB (cor S) (gi S) (rtF S y) y (gi S 55 0) (laV (cor S) (gi S) y) a b lim) i := rfl
          have fin : ∀ v : Int, v = rt S y a b lim i → Wp (fun r => (rtO S y a b lim i → r.1 = rt S ((y : Int)).toNat a b lim i) ∧ (¬ rtO S y a b lim i → r.1 = -2000000000000) ∧ Grw S r.2 ∧ ClsI r.2) (some (v, SC)) := fun v hv => p_some ⟨fun _ => by rw [Int.toNat_natCast]; exact hv, fun z => absurd hO z, W, CC⟩
          rw [chk_t obC, lt_t]
          have hV := hC.2
          generalize rtB (cor S) (gi S) (rtF S y) y (gi S 55 0) (laV (cor S) (gi S) y) a b lim = B at *
          unfold rtA at ert
          by_cases hB : B.1 = -1
          · rw [if_pos hB] at ert
            rw [hV.1 hB]
            refine p_if (fun _ => fin _ ert.symm) (fun z => absurd rfl z)
          · have v := hV.2 hB
            rw [if_neg hB] at ert
            rw [v.1]
            refine p_if (fun z => absurd z (by decide)) (fun _ => ?_)
            rw [chk_t obC]
            unfold g28
            by_cases i0 : i = 0
            · rw [if_pos i0] at ert
              rw [if_pos i0, chk_t obC, lt_t, v.2.1, ob_s]
              exact fin _ ert.symm
            rw [if_neg i0] at ert
            rw [if_neg i0]
            by_cases i1 : i = 1
            · rw [if_pos i1] at ert
              rw [if_pos i1, chk_t obC, lt_t, v.2.2.1, ob_s]
              exact fin _ ert.symm
            rw [if_neg i1] at ert
            rw [if_neg i1]
            by_cases i2 : i = 2
            · rw [if_pos i2] at ert
              rw [if_pos i2, chk_t obC, lt_t, v.2.2.2.1, ob_s]
              exact fin _ ert.symm
            rw [if_neg i2] at ert
            rw [if_neg i2, chk_t obC, lt_t, v.2.2.2.2, ob_s]
            exact fin _ ert.symm
        · rw [one_f cb, if_neg (by decide)]
          exact out (fun z => cb z.2.2.2.2.2)
      · rw [one_f ca, if_pos (by decide)]
        exact out (fun z => ca z.2.2.2.2.1)
    · rw [one_f ci, if_neg (by decide)]
      exact out (fun z => ci z.2.2.2.1)
  · rw [one_f c2, if_pos (by decide)]
    exact out (fun z => c2 z.1)
/-- rates: the same answer; one cell more at most -/
theorem rates_pr (h : ClsI S) (hD : DayI S) (hg : 103 ≤ gn S ∧ gn S < 900000000) (y a b lim i : Int) : Wp (fun r => Wp (fun r2 => r2.1 = r.1 ∧ (Grw S r.2 ∧ Fr frZ r.2 r2.2) ∧ ClsI r2.2) (g191 y a b lim i r.2)) (g98 y a b lim i S) := by
  refine p_imp (g98_w h hD hg y a b lim i) (fun r hr => ?_)
  obtain ⟨v1, v2, hG, hC⟩ := hr
  -- what rates stand on is kept
  have keep : DayI r.2 ∧ ∀ y : Nat, y < 10 → rtF r.2 y = rtF S y ∧ rtR r.2 y = rtR S y ∧ ∀ a b lim i, rt r.2 y a b lim i = rt S y a b lim i := by
    obtain ⟨S1, f1, e | ⟨S2, f2, e1, e2, -, -, -⟩⟩ := hG
    · have sc : Sc S S1 := f1.mono rfl
      rw [e]
      refine ⟨hD.fr f1 rfl, fun y hy => ?_⟩
      exact rt_c h hD sc.cE sc.seq (sc.i rfl) (funext fun k => sc.i rfl) (funext fun k => sc.i rfl) (f1.i rfl) hy
    · have sc : Sc S S1 := f1.mono rfl
      have hg2 : gn S < 1000000000 := by omega
      have eg : gi r.2 = gi S2 := e1
      have ec : cor r.2 = cor S2 := by unfold cor; rw [eg]
      have n := fun (q : Nat) (hq : q < 103) (k : Int) => (new_i f2 (by omega) (by omega) hg.1 hg2 (q := q) k).1
      have cS : cor r.2 = cor S := by rw [ec, new_cE f2 hg.1 hg2, sc.cE]
      have gS : ∀ q : Nat, q < 103 → ∀ k, scr.contains (rg q k) = false → gi r.2 q k = gi S q k := fun q hq k hk => by rw [eg, n q hq k]; exact sc.i hk
      refine ⟨?_, fun y hy => ?_⟩
      · have d1 : DayI S1 := hD.fr f1 rfl
        have d2 : DayI S2 := d1.fr f2 (su_new rfl hg.1 hg2)
        unfold DayI at d2 ⊢
        rw [eg]
        exact d2
      · refine rt_c h hD cS (fun f => ?_) (gS 55 (by omega) 18 rfl) (funext fun k => gS 71 (by omega) k rfl) (funext fun k => gS 72 (by omega) k rfl) ?_ hy
        · have g := fun (q : Nat) (hq : q < 103) (k : Int) (hk : scr.contains (rg q k) = false) => (gS q hq k hk).symm
          exact Or.inr ⟨g 70 (by omega) _ rfl, fun i _ => ⟨g 73 (by omega) _ rfl, g 74 (by omega) _ rfl, g 75 (by omega) _ rfl, g 76 (by omega) _ rfl, g 77 (by omega) _ rfl⟩, fun j _ => ⟨g 78 (by omega) _ rfl, g 79 (by omega) _ rfl⟩⟩
        · rw [eg, n 55 (by omega) 0]; exact f1.i rfl
  refine p_imp (g191_w hC keep.1 y a b lim i) (fun r2 h2 => ?_)
  refine ⟨?_, ⟨hG, h2.2.2.1⟩, h2.2.2.2⟩
  have eO : rtO r.2 y a b lim i ↔ rtO S y a b lim i := by
    by_cases c2 : 0 ≤ y ∧ y < 10
    · have k := (keep.2 y.toNat (by omega)).2.1
      rw [show ((y.toNat : Nat) : Int) = y by omega] at k
      unfold rtO
      rw [k]
    · exact ⟨fun z => absurd z.1 c2, fun z => absurd z.1 c2⟩
  by_cases hO : rtO S y a b lim i
  · rw [h2.1 (eO.mpr hO), v1 hO]
    have c2 := hO.1
    exact (keep.2 y.toNat (by omega)).2.2 a b lim i
  · rw [h2.2.1 (fun z => hO (eO.mp z)), v2 hO]
end RY
