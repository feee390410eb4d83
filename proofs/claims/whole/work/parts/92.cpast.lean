/-! the class's works: the years before, a year's sums as asked -/
section PA
theorem Sc.pasE {S S' : gM} (h : Sc S S') (hI : FormI S) {y : Nat} (hy : y < 10) : (∀ s, pasV (cor S') (gi S') y s = pasV (cor S) (gi S) y s) ∧ (∀ s, laV (cor S') (gi S') y s = laV (cor S) (gi S) y s) := by
  have k := pasV_c (F := gi S) (G := gi S') (cor S) (h.i rfl).symm (fun k _ _ => ⟨(h.i rfl).symm, (h.i rfl).symm⟩) (fun y d a b c => ⟨h.seq _, (inF_ok hI ⟨a, c⟩ b).1, (inF_ok hI ⟨a, c⟩ b).2.1⟩) y hy
  rw [h.cE]
  exact ⟨fun s => (k.1 s).symm, fun s => (k.2 s).symm⟩
/-- the years that the class has worked out -/
def PasI (S0 S : gM) : Prop := (0 ≤ gi S 30 15 ∧ gi S 30 15 ≤ 10) ∧ ∀ y : Nat, (y : Int) < gi S 30 15 → ∀ j : Int, 0 ≤ j → j < gi S0 55 1 → gl S 44 (12 * (y : Int) + j) = pasV (cor S0) (gi S0) y j
theorem PasI.sc {S0 S1 S : gM} (h : Sc S0 S1) (hI : FormI S0) (hP : PasI S0 S) : PasI S1 S := by
  refine ⟨hP.1, fun y hy j a b => ?_⟩
  rw [(h.pasE hI (by have := hP.1; omega)).1]
  exact hP.2 y hy j a (by rw [← show gi S1 55 1 = gi S0 55 1 from h.i rfl]; exact b)
theorem PasI.fr {S0 S S' : gM} {W : List Nat} (hP : PasI S0 S) (hF : Fr W S S') (hw : W.contains 44 = false ∧ W.contains 1000030015 = false) : PasI S0 S' := by
  have e : gi S' 30 15 = gi S 30 15 := hF.i hw.2
  refine ⟨by rw [e]; exact hP.1, fun y hy j a b => ?_⟩
  rw [show gl S' 44 (12 * (y : Int) + j) = gl S 44 (12 * (y : Int) + j) from hF.l hw.1]
  exact hP.2 y (by rw [← e]; exact hy) j a b
theorem g63_y {S : gM} {q : Nat} {f d es em : Int} {y : Nat} (hB : Bas S) (hW : WaysI S) (hH : HpI S) (hI : FormI S) (hP : PasI S S) (hL : LwF S q f) (hy : y ≤ 9) (hyp : (y : Int) ≤ gi S 30 15) (hE : gi S 30 17 = es ∧ (es = -1 ∨ gi S 30 18 = em)) :
    Wp (fun S' => Fr frC S S' ∧ WaysI S' ∧ CT S S' f y d (laV (cor S) (gi S) y) (thV (cor S) y) es em) (g63 q y d S) := by
  refine g63_w (p := pasV (cor S) (gi S) (y - 1)) hB hW hH hL (by omega) hE (fun h1 j a b => ?_) (fun s a b => ?_)
  · have := hP.2 (y - 1) (by omega) j a b
    rw [show ((y - 1 : Nat) : Int) = (y : Int) - 1 by omega] at this
    exact ⟨this, pasV_rng hB hI _ (by omega) ⟨a, b⟩⟩
  · refine ⟨?_, laV_rng hB hI y (by omega) s⟩
    cases y with
    | zero => rfl
    | succ y =>
      unfold laG
      rw [if_neg (by omega)]
      rfl
abbrev frD : List Nat := [8, 10, 32, 33, 34, 35, 36, 37, 38, 39, 40, 41, 43, 1000030016, 44, 1000030015]
theorem g62_w {S0 : gM} (hB : Bas S0) (hW : WaysI S0) (hH : HpI S0) (hI : FormI S0) (hP : PasI S0 S0) (hE : gi S0 30 17 = -1) {y : Nat} (hy : y ≤ 9) :
    Wp (fun S => Fr frD S0 S ∧ WaysI S ∧ PasI S0 S ∧ (y : Int) ≤ gi S 30 15) (g62 y S0) := by
  unfold g62
  rw [lt_t]
  have key := upto 10 (fun n k => ∀ S, Fr frD S0 S → WaysI S → PasI S0 S → gi S 30 15 = k → Wp (fun S => Fr frD S0 S ∧ WaysI S ∧ PasI S0 S ∧ (y : Int) ≤ gi S 30 15) (g62_l5 y n k S)) ?_ 100000 (gi S0 30 15).toNat (by have := hP.1; omega) (by omega) S0 Fr.refl hW hP (by have := hP.1; omega)
  · rw [show (((gi S0 30 15).toNat : Nat) : Int) = gi S0 30 15 by have := hP.1; omega] at key
    exact key
  intro n k hk ih S hS hWS hPS hpk
  dsimp only [g62_l5]
  refine p_if (fun hc => p_some ⟨hS, hWS, hPS, by omega⟩) (fun hc => ?_)
  refine p_if (fun hc2 => by omega) (fun _ => ?_)
  have sc : Sc S0 S := hS.mono rfl
  have BS := hB.sc sc
  have IS := hI.sc sc
  obtain ⟨q, e56, hq, -⟩ := g56_w IS k (((k : Int) + 1) * 100) (by omega) (by omega)
  rw [ckI_t (by omega), ckI_t (by omega)]
  refine p_call e56 ?_
  dsimp only
  rw [lt_t, ob_s]
  refine p_use (g63_y (d := ((k : Int) + 1) * 100) (es := -1) (em := -1) BS hWS (hH.fr hS) IS (PasI.sc sc hI hPS) hq (by omega) (by omega) ⟨(hS.i rfl).trans hE, Or.inl rfl⟩) (fun S1 h1 => ?_)
  have g1 : Fr frD S0 S1 := hS.trans (h1.1.mono rfl)
  have g2 : Fr frD S0 (wcl S1 41 44 0 ((k : Int) * 12) 12) := g1.wcl (fun _ => rfl)
  have P1 : PasI S0 S1 := hPS.fr h1.1 ⟨rfl, rfl⟩
  rw [ckI_t (by omega), chk_t (by omega), lt_t, ckI_t (by omega), lt_t, ckI_t (by omega)]
  have f3 : Fr [44, 1000030015] S1 (wi (wcl S1 41 44 0 ((k : Int) * 12) 12) 30 15 ((k : Int) + 1)) := (Fr.refl.wcl (fun _ => rfl)).wi rfl
  have W3 : WaysI (wi (wcl S1 41 44 0 ((k : Int) * 12) 12) 30 15 ((k : Int) + 1)) := h1.2.1.fr f3 rfl
  refine ih (by omega) _ (g2.wi rfl) W3 ⟨?_, fun y' hy' j a b => ?_⟩ (by rw [gi_wi, if_pos ⟨rfl, rfl⟩]; omega)
  · rw [gi_wi, if_pos ⟨rfl, rfl⟩]; omega
  · rw [gi_wi, if_pos ⟨rfl, rfl⟩] at hy'
    have n12 := hB.n12
    rw [gl_wi, gl_wcl]
    by_cases e : y' = k
    · rw [if_pos ⟨rfl, by omega, by omega⟩, show 0 + (12 * (y' : Int) + j - (k : Int) * 12) = j by omega, e]
      have c := (h1.2.2 j a (by omega)).2.2.2.2
      have ok := inF_ok hI (y := k) (d := ((k : Int) + 1) * 100) (by omega) (by omega)
      rw [c, ifp_t (by rw [show gi S 55 1 = gi S0 55 1 from hS.i rfl]; exact b), sc.cE, sc.inF, sc.suE ok.1 ok.2.1, pasV_eq, show (100 : Int) * ((k + 1 : Nat) : Int) = ((k : Int) + 1) * 100 by omega]
      have := (sc.pasE hI (y := k) (by omega)).2
      rw [sc.cE] at this
      rw [funext this]
    · rw [if_neg (fun z => by omega)]
      exact P1.2 y' (by rw [show gi S1 30 15 = gi S 30 15 from h1.1.i rfl]; omega) j a b
/-- all that the class's sums stand on -/
def ClsI (S : gM) : Prop := Bas S ∧ WaysI S ∧ HpI S ∧ FormI S ∧ PasI S S ∧ gi S 30 17 = -1
theorem ClsI.fr {S S' : gM} {W : List Nat} (h : ClsI S) (hF : Fr W S S') (hs : W.all (fun x => scr.contains x) = true) (hw : WaysI S') (hP : PasI S S') (h17 : gi S' 30 17 = -1) : ClsI S' :=
  have sc : Sc S S' := hF.mono hs
  ⟨h.1.sc sc, hw, h.2.2.1.fr hF, h.2.2.2.1.sc sc, PasI.sc sc h.2.2.2.1 hP, h17⟩
theorem ClsI.st {S S' : gM} {W : List Nat} (h : ClsI S) (hF : Fr W S S') (hs : W.all (fun x => scr.contains x) = true) (h8 : su_WaysI.all (fun x => !W.contains x) = true) (h4 : (W.contains 44 = false ∧ W.contains 1000030015 = false) ∧ W.contains 1000030017 = false) : ClsI S' :=
  h.fr hF hs (h.2.1.fr hF h8) (h.2.2.2.2.1.fr hF h4.1) ((hF.i (q := 30) (k := 17) h4.2).trans h.2.2.2.2.2)
/-- the sums of a year as known on a day, under a law, with one more mark -/
def CTy (S0 S : gM) (f d : Int) (y : Nat) (es em : Int) : Prop := CT S0 S f y d (laV (cor S0) (gi S0) y) (thV (cor S0) y) es em
theorem g60_w {S0 : gM} (h : ClsI S0) {q : Nat} {f d : Int} (hL : LwF S0 q f) {y : Nat} (hy : y ≤ 9) :
    Wp (fun S => Fr frD S0 S ∧ ClsI S ∧ CTy S0 S f d y (-1) (-1)) (g60 q y d S0) := by
  unfold g60
  obtain ⟨hB, hW, hH, hI, hP, hE⟩ := h
  refine p_use (g62_w hB hW hH hI hP hE hy) (fun S1 h1 => ?_)
  have sc : Sc S0 S1 := h1.1.mono rfl
  refine p_use (g63_y (d := d) (es := -1) (em := -1) (hB.sc sc) h1.2.1 (hH.fr h1.1) (hI.sc sc) (PasI.sc sc hI h1.2.2.1) (hL.sc sc) hy h1.2.2.2 ⟨(h1.1.i rfl).trans hE, Or.inl rfl⟩) (fun S2 h2 => ?_)
  have g2 : Fr frD S0 S2 := h1.1.trans (h2.1.mono rfl)
  have sc2 : Sc S0 S2 := g2.mono rfl
  refine p_some ⟨g2, ⟨hB.sc sc2, h2.2.1, hH.fr g2, hI.sc sc2, PasI.sc sc2 hI (h1.2.2.1.fr h2.1 ⟨rfl, rfl⟩), (g2.i rfl).trans hE⟩, ?_⟩
  have c := h2.2.2
  have e := (sc.pasE hI (y := y) (by omega)).2
  rw [funext e, sc.cE] at c
  exact CT.sc sc hL.2.1 hL.2.2.1 c
theorem g59_w {S0 : gM} (h : ClsI S0) {d : Int} {y : Nat} (hy : y ≤ 9) (hd : 0 ≤ d) :
    Wp (fun S => Fr frD S0 S ∧ ClsI S ∧ CTy S0 S (inF (gi S0) y d) d y (-1) (-1)) (g59 y d S0) := by
  unfold g59
  obtain ⟨hB, hW, hH, hI, hP, hE⟩ := h
  refine p_use (g62_w hB hW hH hI hP hE hy) (fun S1 h1 => ?_)
  have sc : Sc S0 S1 := h1.1.mono rfl
  have ok := inF_ok hI (y := y) (d := d) (by omega) hd
  obtain ⟨q, e56, hq, -⟩ := g56_w (hI.sc sc) y d (by omega) hd
  refine p_call e56 ?_
  dsimp only
  rw [lt_t, ob_s]
  rw [sc.inF] at hq
  refine p_use (g63_y (d := d) (es := -1) (em := -1) (hB.sc sc) h1.2.1 (hH.fr h1.1) (hI.sc sc) (PasI.sc sc hI h1.2.2.1) hq hy h1.2.2.2 ⟨(h1.1.i rfl).trans hE, Or.inl rfl⟩) (fun S2 h2 => ?_)
  have g2 : Fr frD S0 S2 := h1.1.trans (h2.1.mono rfl)
  have sc2 : Sc S0 S2 := g2.mono rfl
  refine p_some ⟨g2, ⟨hB.sc sc2, h2.2.1, hH.fr g2, hI.sc sc2, PasI.sc sc2 hI (h1.2.2.1.fr h2.1 ⟨rfl, rfl⟩), (g2.i rfl).trans hE⟩, ?_⟩
  have c := h2.2.2
  have e := (sc.pasE hI (y := y) (by omega)).2
  rw [funext e, sc.cE] at c
  exact CT.sc sc ok.1 ok.2.1 c
abbrev frE : List Nat := [8, 10, 32, 33, 34, 35, 36, 37, 38, 39, 40, 41, 43, 1000030016, 44, 1000030015, 1000030017, 1000030018]
theorem g61_w {S0 : gM} (h : ClsI S0) {es em d : Int} {y : Nat} (hy : y ≤ 9) (hd : 0 ≤ d) :
    Wp (fun S => Fr frE S0 S ∧ ClsI S ∧ CTy S0 S (inF (gi S0) y d) d y es em) (g61 es em y d S0) := by
  unfold g61
  obtain ⟨hB, hW, hH, hI, hP, hE⟩ := h
  refine p_use (g62_w hB hW hH hI hP hE hy) (fun S1 h1 => ?_)
  rw [lt_t, lt_t]
  have f2 : Fr [1000030017, 1000030018] S1 (wi (wi S1 30 17 es) 30 18 em) := (Fr.refl.wi rfl).wi rfl
  have g2 : Fr frE S0 (wi (wi S1 30 17 es) 30 18 em) := (h1.1.mono rfl).trans (f2.mono rfl)
  have c17 : gi (wi (wi S1 30 17 es) 30 18 em) 30 17 = es := by rw [gi_wi, if_neg (by rintro ⟨-, z⟩; exact absurd z (by decide)), gi_wi, if_pos ⟨rfl, rfl⟩]
  have c18 : gi (wi (wi S1 30 17 es) 30 18 em) 30 18 = em := by rw [gi_wi, if_pos ⟨rfl, rfl⟩]
  generalize wi (wi S1 30 17 es) 30 18 em = S2 at *
  have sc : Sc S0 S2 := g2.mono rfl
  have ok := inF_ok hI (y := y) (d := d) (by omega) hd
  obtain ⟨q, e56, hq, -⟩ := g56_w (hI.sc sc) y d (by omega) hd
  refine p_call e56 ?_
  dsimp only
  rw [lt_t, ob_s]
  rw [sc.inF] at hq
  have P2 : PasI S0 S2 := h1.2.2.1.fr f2 ⟨rfl, rfl⟩
  refine p_use (g63_y (d := d) (es := es) (em := em) (hB.sc sc) (h1.2.1.fr f2 rfl) (hH.fr g2) (hI.sc sc) (PasI.sc sc hI P2) hq hy (by rw [show gi S2 30 15 = gi S1 30 15 from f2.i rfl]; exact h1.2.2.2) ⟨c17, Or.inr c18⟩) (fun S3 h3 => ?_)
  rw [lt_t]
  have f4 : Fr [1000030017] S3 (wi S3 30 17 (-1)) := Fr.refl.wi rfl
  have g4 : Fr frE S0 (wi S3 30 17 (-1)) := (g2.trans (h3.1.mono rfl)).trans (f4.mono rfl)
  have sc4 : Sc S0 (wi S3 30 17 (-1)) := g4.mono rfl
  refine p_some ⟨g4, ⟨hB.sc sc4, h3.2.1.fr f4 rfl, hH.fr g4, hI.sc sc4, PasI.sc sc4 hI ((P2.fr h3.1 ⟨rfl, rfl⟩).fr f4 ⟨rfl, rfl⟩), by rw [gi_wi, if_pos ⟨rfl, rfl⟩]⟩, ?_⟩
  have c := h3.2.2
  have e := (sc.pasE hI (y := y) (by omega)).2
  rw [funext e, sc.cE] at c
  exact CT.sc sc ok.1 ok.2.1 c
end PA
