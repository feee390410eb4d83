/-! what the calls that change the books leave alone -/
def bks : List Nat := [46, 47, 48, 49, 50, 51, 52, 53, 54, 83, 94, 95, 96, 97, 98, 99, 100, 101, 1000045008, 1000045009, 1000000007, 1000000009, 1000000010, 1000055000, 1000055019, 1000055025, 1000055053]
def crs : List Nat := [2, 3, 4, 5, 6, 7, 9, 12, 13, 14, 15, 56, 57, 58, 59, 60, 61, 62, 63, 64, 65, 66, 67, 1000001007, 1000001008, 1000011004, 1000055001, 1000055002, 1000055003]
/-- all but the core and the formulae -/
def ncr : List Nat := scr ++ bks
/-- all but the formulae -/
def nfm : List Nat := scr ++ bks ++ crs
section FR2
variable {S S' : gM}
theorem cr_ncr {q : Nat} {k : Int} (h : cr q k) : ncr.contains (rg q k) = false := by
  rcases h with h | h | h | h | h
  · rcases h with h | h | h | h | h | h | h | h | h | h | h <;> subst h <;> rfl
  · have : q = 56 ∨ q = 57 ∨ q = 58 ∨ q = 59 ∨ q = 60 ∨ q = 61 ∨ q = 62 ∨ q = 63 ∨ q = 64 ∨ q = 65 ∨ q = 66 ∨ q = 67 := by omega
    rcases this with h | h | h | h | h | h | h | h | h | h | h | h <;> subst h <;> rfl
  · obtain ⟨rfl, h | h⟩ := h <;> subst h <;> rfl
  · obtain ⟨rfl, h⟩ := h; subst h; rfl
  · obtain ⟨rfl, h | h | h⟩ := h <;> subst h <;> rfl
theorem ncr_cE (h : Fr ncr S S') : cor S' = cor S := by
  funext q k
  by_cases hc : cr q k
  · rw [cor_i hc, cor_i hc]; exact h.i (cr_ncr hc)
  · unfold cor; rw [if_neg hc, if_neg hc]
theorem nfm_big {q : Nat} (h1 : 103 ≤ q) (h2 : q < 1000000000) : nfm.contains q = false := by
  cases hc : nfm.contains q with
  | false => rfl
  | true =>
    have h := List.contains_iff_mem.mp hc
    have h3 := (by decide : ∀ x ∈ nfm, x < 103 ∨ 1000000000 ≤ x) q h
    omega
theorem nfm_law (hS : Fr nfm S S') {q : Nat} (h : q = 24 ∨ (103 ≤ q ∧ q + 4 < 1000000000)) (j : Nat) (hj : j ≤ 4) (k : Int) : gi S' (q + j) k = gi S (q + j) k := by
  refine hS.i ?_
  rcases h with h | h
  · subst h
    have : j = 0 ∨ j = 1 ∨ j = 2 ∨ j = 3 ∨ j = 4 := by omega
    rcases this with z | z | z | z | z <;> subst z <;> rfl
  · rw [rg_big (by omega)]; exact nfm_big (by omega) (by omega)
theorem nfm_seq (h : Fr nfm S S') (f : Int) : SEq (gi S) (gi S') f := Or.inr ⟨(h.i rfl).symm, fun i _ => ⟨(h.i rfl).symm, (h.i rfl).symm, (h.i rfl).symm, (h.i rfl).symm, (h.i rfl).symm⟩, fun j _ => ⟨(h.i rfl).symm, (h.i rfl).symm⟩⟩
theorem LwS.nf {q : Nat} (h : LwS S q) (hS : Fr nfm S S') : LwS S' q := by
  have e4 : gi S' q 4 = gi S q 4 := nfm_law hS h.2.2.2.2.2.2.2 0 (by omega) 4
  unfold LwS at *
  rw [gob_c hS.1, gr_c hS.1, gr_c hS.1, gr_c hS.1, gr_c hS.1, gln_c hS.1, gln_c hS.1, gln_c hS.1, gln_c hS.1, e4]
  exact h
theorem LwR.nf {q : Nat} {f : Int} (h : LwR S q f) (hS : Fr nfm S S') (hn : 0 ≤ nsF (gi S) f ∧ nsF (gi S) f ≤ 30) (hf : -1 ≤ f) : LwR S' q f :=
  h.mv (nfm_seq hS f) (h.1.nf hS) (gln_c hS.1 _ _) (fun j hj k => nfm_law hS h.1.2.2.2.2.2.2.2 j hj k) hn hf
theorem FormI.nf (h : FormI S) (hS : Fr nfm S S') : FormI S' := by
  obtain ⟨h1, h2, h3, h4, h5⟩ := h
  have e18 : gi S' 55 18 = gi S 55 18 := hS.i rfl
  have e71 : gi S' 71 = gi S 71 := funext fun k => hS.i rfl
  have e72 : gi S' 72 = gi S 72 := funext fun k => hS.i rfl
  have e26 : gi S' 55 26 = gi S 55 26 := hS.i rfl
  have e23 : gi S' 23 2 = gi S 23 2 := hS.i rfl
  refine ⟨?_, by rw [e23, e18]; exact h2, ⟨h3.1.nf hS (FOk_m1 _).1 (by omega), ?_, ?_, ?_⟩, fun k hk => ?_, ?_, fun q hq => ?_⟩
  · unfold FormN; rw [e18, e71, e72]; exact h1
  · rw [hS.i rfl]; exact h3.2.1
  · rw [hS.i rfl]; exact h3.2.2.1
  · rw [hS.i rfl]; exact h3.2.2.2
  · rw [e18] at hk
    obtain ⟨q, a, b, c, d⟩ := h4 k hk
    refine ⟨q, by rw [gr_c hS.1]; exact a, b.nf hS c.1 (by omega), FOk_c (nfm_seq hS k) c, ?_⟩
    have cq : ∀ k, gi S' q k = gi S q k := fun k => nfm_law hS b.1.2.2.2.2.2.2.2 0 (by omega) k
    rw [cq, cq, cq, e71, e72]
    exact d
  · rw [gr_c hS.1, e26]; exact h5.1
  · rw [gr_c hS.1] at hq
    have := h5.2 q hq
    exact ⟨this.1.nf hS this.2.1 (by omega), FOk_c (nfm_seq hS 8) this.2⟩
/-- the years worked out stay so while core and formulae stay -/
theorem PasI.nc {W : List Nat} (hP : PasI S S) (hI : FormI S) (hF : Fr W S S') (hw : W.all (fun x => ncr.contains x) = true) (h4 : W.contains 44 = false ∧ W.contains 1000030015 = false) : PasI S' S' := by
  have hN : Fr ncr S S' := hF.mono hw
  have hM : Fr nfm S S' := hN.mono rfl
  have p := hP.fr hF h4
  refine ⟨p.1, fun y hy j a b => ?_⟩
  have k := pasV_c (F := gi S) (G := gi S') (cor S) (hM.i rfl).symm (fun k _ _ => ⟨(hM.i rfl).symm, (hM.i rfl).symm⟩) (fun y d a b c => ⟨nfm_seq hM _, (inF_ok hI ⟨a, c⟩ b).1, (inF_ok hI ⟨a, c⟩ b).2.1⟩) y (by have := p.1; omega)
  rw [ncr_cE hN, ← k.1 j]
  exact p.2 y hy j a (by rw [← show gi S' 55 1 = gi S 55 1 from hN.i rfl]; exact b)
/-- no year is worked out: nothing to hold -/
theorem PasI.zero (h : gi S 30 15 = 0) : PasI S S := ⟨by omega, fun y hy => by omega⟩
theorem Bas.nc {S S' : gM} (h : Bas S) (hS : Fr ncr S S') : Bas S' := ⟨⟨by rw [show gi S' 55 2 = gi S 55 2 from hS.i rfl, show gi S' 11 4 = gi S 11 4 from hS.i rfl]; exact h.1.1,
    by rw [show gi S' 55 2 = gi S 55 2 from hS.i rfl, show gi S' 55 1 = gi S 55 1 from hS.i rfl, show gi S' 61 = gi S 61 from funext fun k => hS.i rfl, show gi S' 62 = gi S 62 from funext fun k => hS.i rfl, show gi S' 63 = gi S 63 from funext fun k => hS.i rfl, show gi S' 64 = gi S 64 from funext fun k => hS.i rfl, show gi S' 65 = gi S 65 from funext fun k => hS.i rfl, show gi S' 12 = gi S 12 from funext fun k => hS.i rfl, show gi S' 13 = gi S 13 from funext fun k => hS.i rfl]; exact h.1.2.1,
    by
      intro k hk
      rw [lI_c, ncr_cE hS, ← lI_c, show gi S' 14 = gi S 14 from funext fun k => hS.i rfl, show gi S' 61 = gi S 61 from funext fun k => hS.i rfl, show gi S' 62 = gi S 62 from funext fun k => hS.i rfl, show gi S' 63 = gi S 63 from funext fun k => hS.i rfl]
      exact h.1.2.2.1 k (by rw [← show gi S' 55 2 = gi S 55 2 from hS.i rfl]; exact hk),
    by
      intro s y w h1 h2 h3 h4 h5 h6
      rw [lI_c, ncr_cE hS, ← lI_c, show gi S' 15 = gi S 15 from funext fun k => hS.i rfl, show gi S' 55 2 = gi S 55 2 from hS.i rfl]
      exact h.1.2.2.2 s y w h1 h2 h3 h4 h5 h6⟩, h.2.1.fr hS rfl, h.2.2.1.fr hS rfl, h.2.2.2.fr hS rfl⟩
theorem ClsI.nc {W : List Nat} (h : ClsI S) (hF : Fr W S S') (hw : W.all (fun x => ncr.contains x) = true) (h8 : su_WaysI.all (fun x => !W.contains x) = true) (h4 : (W.contains 44 = false ∧ W.contains 1000030015 = false) ∧ W.contains 1000030017 = false) : ClsI S' :=
  have hN : Fr ncr S S' := hF.mono hw
  ⟨h.1.nc hN, h.2.1.fr hF h8, h.2.2.1.fr hF, h.2.2.2.1.nf (hN.mono rfl), h.2.2.2.2.1.nc h.2.2.2.1 hF hw h4.1, (hF.i (q := 30) (k := 17) h4.2).trans h.2.2.2.2.2⟩
end FR2
