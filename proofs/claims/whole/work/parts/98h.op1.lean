/-! the calls, over all that the books hold -/
section OP
variable {S S1 S2 : gM}
/-- all but the parser's keys and the room -/
def Bk (S : gM) : Prop := DayI S ∧ ClsI S ∧ TapeI S ∧ MoveI S ∧ gi S 0 9 = gi S 55 25
/-- class and reference answer alike; the books hold again; the formulae are not touched -/
def Ok2 (S : gM) (fc fr : gM → Option (Int × gM)) : Prop := Wp (fun r => Wp (fun r2 => r2.1 = r.1 ∧ Bk r2.2 ∧ Fr nfm S r2.2) (fr r.2)) (fc S)
theorem Bk.z (h : Bk S) (hF : Fr frZ S S1) (hC : ClsI S1) : Bk S1 := ⟨h.1.fr hF rfl, hC, h.2.2.1.fr hF rfl, h.2.2.2.1.fr hF rfl, by rw [show gi S1 0 9 = gi S 0 9 from hF.i rfl, show gi S1 55 25 = gi S 55 25 from hF.i rfl]; exact h.2.2.2.2⟩
theorem ok_pr (h : Bk S) {fc fr : gM → Option (Int × gM)} (hp : Pr S fc fr) : Ok2 S fc fr :=
  p_imp hp (fun r hr => p_imp hr (fun r2 h2 => ⟨h2.1, h.z h2.2.1 h2.2.2, h2.2.1.mono rfl⟩))
/-- a call that looks and writes nothing -/
theorem ok_same (h : Bk S) {fc fr : gM → Option (Int × gM)} {v : Int} (h1 : fc S = some (v, S)) (h2 : fr S = some (v, S)) : Ok2 S fc fr := ⟨_, h1, ⟨_, h2, rfl, h, Fr.refl⟩⟩
theorem two_eq {c : Prop} {x y : Int} {o : Option (Int × gM)} (h : Wp (Two c x S y S) o) : o = some (by classical exact (if c then x else y), S) := by
  obtain ⟨r, e, h1, h2⟩ := h
  rw [e]
  by_cases hc : c
  · rw [h1 hc, if_pos hc]
  · rw [h2 hc, if_neg hc]
theorem ok_two (h : Bk S) {fc fr : gM → Option (Int × gM)} {c d : Prop} {x x' y : Int} (h1 : Wp (Two c x S y S) (fc S)) (h2 : Wp (Two d x' S y S) (fr S)) (hcd : c ↔ d) (hx : c → x = x') : Ok2 S fc fr := by
  have e1 := two_eq h1
  have e2 := two_eq h2
  by_cases hc : c
  · rw [if_pos hc] at e1
    rw [if_pos (hcd.mp hc), ← hx hc] at e2
    exact ok_same h e1 e2
  · rw [if_neg hc] at e1
    rw [if_neg (fun z => hc (hcd.mpr z))] at e2
    exact ok_same h e1 e2
theorem Bk.n17 (h : Bk S) : gi S 1 7 = gi S 55 1 := h.2.1.1.2.1.1.2.2.1
theorem Bk.n12 (h : Bk S) : 0 ≤ gi S 55 1 ∧ gi S 55 1 ≤ 12 := h.2.1.1.n12
theorem Bk.hn (h : Bk S) : gi S 1 7 ≤ 12 := by have := h.n17; have := h.n12; omega
theorem Bk.t0 (h : Bk S) : 0 ≤ gi S 0 10 ∧ gi S 0 10 ≤ 999 := by rw [h.1.1]; exact h.1.2
theorem fault_ok (h : Bk S) : Ok2 S g86 g159 := ok_same h (v := gi S 0 9) rfl (by unfold g159; rw [lt_t, ← h.2.2.2.2])
theorem law_ok (h : Bk S) (y d x : Int) : Ok2 S (g87 y d x) (g164 y d x) := by
  obtain ⟨v, e1, e2⟩ := law_w h.2.1.2.2.2.1 y d x
  exact ok_same h e1 e2
theorem count_ok (h : Bk S) (x : Int) : Ok2 S (g101 x) (g197 x) := by
  have hI := h.2.1.2.2.2.1
  obtain ⟨v, e1, e2⟩ := count_w h.2.1.1.2.1 h.1 h.2.1.1.1 h.2.2.1 h.2.2.2.1 hI.2.1 hI.2.2.2.2.1 x
  exact ok_same h e1 e2
theorem open_ok (h : Bk S) (s y : Int) : Ok2 S (g82 s y) (g130 s y) := by
  have h17 := h.n17
  refine ok_two h (g82_w s y h.hn) (g130_w s y h.n12) (by rw [h17]) (fun c => ?_)
  rw [((h.2.1.1.2.1.2.1 s c.1.1 (by rw [← h17]; exact c.1.2)).1.2.2.2)]
theorem marked_ok (h : Bk S) (s y w d : Int) : Ok2 S (g80 s y w d) (g127 s y w d) :=
  ok_two h (g80_w h.2.1.1.1 h.hn s y w d) (g127_w h.2.1.1.1 h.n12 s y w d) (by rw [h.n17]) (fun _ => rfl)
theorem foretold_ok (h : Bk S) (s w k x : Int) : Ok2 S (g99 s w k x) (g192 s w k x) :=
  ok_two h (g99_w h.2.1.1.1 h.hn h.t0 s w k x) (g192_w h.2.1.1.1 h.n12 h.1.2 s w k x) (by rw [h.n17]) (fun _ => by rw [h.1.1])
theorem doubt_ok (h : Bk S) (s y : Int) : Ok2 S (g100 s y) (g195 s y) := by
  have e1 := two_eq (g100_w h.2.1.1.1 h.hn s y)
  refine ⟨_, e1, ?_⟩
  refine p_imp (g195_w h.2.1.1.1 h.n12 s y) (fun r2 h2 => ?_)
  have F : Fr [102] S r2.2 := h2.2.2
  refine ⟨?_, ⟨h.1.fr F rfl, h.2.1.st F rfl rfl ⟨⟨rfl, rfl⟩, rfl⟩, h.2.2.1.fr F rfl, h.2.2.2.1.fr F rfl, ?_⟩, F.mono rfl⟩
  · by_cases c : c_dbt (gi S 55 1) s y
    · rw [h2.1 c]
      dsimp only
      rw [if_pos (by rw [h.n17]; exact c), h.1.1]
    · rw [h2.2.1 c]
      dsimp only
      rw [if_neg (by rw [h.n17]; exact c)]
  · rw [show gi r2.2 0 9 = gi S 0 9 from F.i rfl, show gi r2.2 55 25 = gi S 55 25 from F.i rfl]; exact h.2.2.2.2
theorem far_ok (h : Bk S) (s y : Int) : Ok2 S (g78 s y) (g124 s y) := by
  have B := h.2.1.1
  refine p_imp (g78_w B.2.1 B.2.2.2 h.2.1.2.1 s y) (fun r hr => ?_)
  have F1 : Fr [8, 10] S r.2 := hr.2.2.1
  have C1 : ClsI r.2 := h.2.1.fr F1 rfl hr.2.2.2 (h.2.1.2.2.2.2.1.fr F1 ⟨rfl, rfl⟩) ((F1.i rfl).trans h.2.1.2.2.2.2.2)
  refine p_imp (g124_w C1.1.2.1 C1.1.2.2.2 s y) (fun r2 h2 => ?_)
  have F2 : Fr frZ S r2.2 := (F1.mono rfl).trans (h2.2.2.mono rfl)
  have C2 : ClsI r2.2 := C1.st h2.2.2 rfl rfl ⟨⟨rfl, rfl⟩, rfl⟩
  have sc : Sc S r.2 := F1.mono rfl
  have e : c_far (gi r.2 55 1) s y (gi r.2 67 s) ↔ c_far (gi S 1 7) s y (gi S 6 s) := by
    rw [show gi r.2 55 1 = gi S 55 1 from F1.i rfl, show gi r.2 67 s = gi S 67 s from F1.i rfl, h.n17]
    by_cases c : 0 ≤ s ∧ s < gi S 55 1
    · rw [(B.2.1.2.1 s c.1 c.2).1.2.2.2]
    · unfold c_far
      exact ⟨fun z => absurd z.1 c, fun z => absurd z.1 c⟩
  refine ⟨?_, h.z F2 C2, F2.mono rfl⟩
  by_cases c : c_far (gi S 1 7) s y (gi S 6 s)
  · rw [h2.1 (e.mpr c), hr.1 c, sc.cE]
  · rw [h2.2.1 (fun z => c (e.mp z)), hr.2.1 c]
theorem adopt_ok (h : Bk S) (p : Int) : Ok2 S (g94 p) (g186 p) :=
  p_imp (adopt_pr h.2.1 h.1 h.2.2.2.1 p) (fun r hr => p_imp hr (fun r2 h2 => ⟨h2.1, ⟨h.1.fr h2.2.1 rfl, h2.2.2.1, h.2.2.1.fr h2.2.1 rfl, h2.2.2.2, by rw [show gi r2.2 0 9 = gi S 0 9 from h2.2.1.i rfl, show gi r2.2 55 25 = gi S 55 25 from h2.2.1.i rfl]; exact h.2.2.2.2⟩, h2.2.1.mono rfl⟩))
theorem sum_ok (h : Bk S) (s y d : Int) : Ok2 S (g88 s y d) (g178 s y d) := ok_pr h (sum_pr h.2.1 s y d)
theorem led_ok (h : Bk S) (s y x : Int) : Ok2 S (g89 s y x) (g183 s y x) := ok_pr h (led_pr h.2.1 h.2.2.2.1 s y x)
theorem due_ok (h : Bk S) (s y : Int) : Ok2 S (g90 s y) (g182 s y) := ok_pr h (due_pr h.2.1 h.2.2.2.1 s y)
theorem all_ok (h : Bk S) (y d : Int) : Ok2 S (g91 y d) (g179 y d) := ok_pr h (all_pr h.2.1 y d)
theorem other_ok (h : Bk S) (s y : Int) : Ok2 S (g95 s y) (g188 s y) := ok_pr h (other_pr h.2.1 h.1 s y)
theorem losers_ok (h : Bk S) (y : Int) : Ok2 S (g96 y) (g189 y) := ok_pr h (losers_pr h.2.1 h.1 y)
theorem edge_ok (h : Bk S) (s y m : Int) : Ok2 S (g97 s y m) (g190 s y m) := ok_pr h (edge_pr h.2.1 h.1 s y m)
theorem day_ok (h : Bk S) (a : Int) : Ok2 S (g74 a) (g117 a) := by
  refine p_imp (g74_w a) (fun r hr => ?_)
  by_cases c : gi S 0 10 < a ∧ a ≤ 999
  · rw [hr.1 c]
    have F1 : Fr [1000000010] S (wi S 0 10 a) := Fr.refl.wi rfl
    refine p_imp (g117_w (S := wi S 0 10 a) a) (fun r2 h2 => ?_)
    have e : gi (wi S 0 10 a) 55 0 = gi S 0 10 := (F1.i rfl).trans h.1.1.symm
    rw [h2.1 (by rw [e]; exact c)]
    have F2 : Fr [1000000010, 1000055000] S (wi (wi S 0 10 a) 55 0 a) := (F1.mono rfl).wi rfl
    have t0 := h.t0
    refine ⟨rfl, ⟨⟨?_, ?_⟩, h.2.1.nc F2 rfl rfl ⟨⟨rfl, rfl⟩, rfl⟩, h.2.2.1.fr F2 rfl, h.2.2.2.1.fr F2 rfl, ?_⟩, F2.mono rfl⟩
    · simp [gi_wi]
    · simp [gi_wi]; omega
    · rw [show gi (wi (wi S 0 10 a) 55 0 a) 0 9 = gi S 0 9 from F2.i rfl, show gi (wi (wi S 0 10 a) 55 0 a) 55 25 = gi S 55 25 from F2.i rfl]; exact h.2.2.2.2
  · rw [hr.2 c]
    refine p_imp (g117_w (S := S) a) (fun r2 h2 => ?_)
    rw [h2.2 (by rw [← h.1.1]; exact c)]
    exact ⟨rfl, h, Fr.refl⟩
end OP
