/-! a new cell: what holds of the memory holds again -/
section GW
variable {S S' : gM} {q0 : Nat}
theorem gob_lt {q a : Nat} (h : gob S q a = true) : q < gn S := by
  unfold gob at h
  rw [Bool.and_eq_true] at h
  exact of_decide_eq_true h.1
theorem gln_lt {q a : Nat} (h : 0 ≤ gln S q a) : q < gn S := by
  unfold gln at h
  by_cases c : q < gn S
  · exact c
  · rw [if_neg c] at h; omega
theorem su_new {l : List Nat} (hl : l.all (fun x => decide (x < 103 ∨ 1000000000 ≤ x)) = true) (h1 : 103 ≤ q0) (h2 : q0 < 1000000000) : l.all (fun x => !([q0].contains x)) = true := by
  rw [List.all_eq_true] at hl ⊢
  intro x hx
  have := of_decide_eq_true (hl x hx)
  have hne : ¬ x = q0 := by omega
  simp [hne]
theorem new_i (h : Fr [q0] S S') {q : Nat} (hq : q < 1000000000) (hne : ¬ q = q0) (h1 : 103 ≤ q0) (h2 : q0 < 1000000000) (k : Int) : gi S' q k = gi S q k ∧ gl S' q k = gl S q k := by
  refine h.2 q k ?_
  have : ¬ rg q k = q0 := by
    unfold rg
    split <;> omega
  simp [this]
theorem new_cE (h : Fr [q0] S S') (h1 : 103 ≤ q0) (h2 : q0 < 1000000000) : cor S' = cor S := by
  funext q k
  by_cases hc : cr q k
  · have hq : q < 103 := by rcases hc with z | z | z | z | z <;> omega
    rw [cor_i hc, cor_i hc]
    exact (new_i h (by omega) (by omega) h1 h2 k).1
  · unfold cor; rw [if_neg hc, if_neg hc]
theorem new_seq (h : Fr [q0] S S') (h1 : 103 ≤ q0) (h2 : q0 < 1000000000) (f : Int) : SEq (gi S) (gi S') f :=
  have e : ∀ q : Nat, q < 103 → ∀ k, gi S q k = gi S' q k := fun q hq k => (new_i h (by omega) (by omega) h1 h2 k).1.symm
  Or.inr ⟨e 70 (by omega) _, fun i _ => ⟨e 73 (by omega) _, e 74 (by omega) _, e 75 (by omega) _, e 76 (by omega) _, e 77 (by omega) _⟩, fun j _ => ⟨e 78 (by omega) _, e 79 (by omega) _⟩⟩
theorem LwR.new {q : Nat} {f : Int} (h : LwR S q f) (hF : Fr [q0] S S') (h0 : gn S ≤ q0) (h1 : 103 ≤ q0) (h2 : q0 < 1000000000) (hn : 0 ≤ nsF (gi S) f ∧ nsF (gi S) f ≤ 30) (hf : -1 ≤ f) : LwR S' q f := by
  have hS := h.1
  have k4 := hS.2.2.2.2.2.1.1
  have l4 := gln_lt k4
  have c : ∀ j : Nat, j ≤ 4 → ∀ k, gi S' (q + j) k = gi S (q + j) k := fun j hj k => (new_i hF (by omega) (by omega) h1 h2 k).1
  have e4 : gi S' q 4 = gi S q 4 := c 0 (by omega) 4
  refine h.mv (new_seq hF h1 h2 f) ?_ (gln_c hF.1 _ _) c hn hf
  unfold LwS at *
  rw [gob_c hF.1, gr_c hF.1, gr_c hF.1, gr_c hF.1, gr_c hF.1, gln_c hF.1, gln_c hF.1, gln_c hF.1, gln_c hF.1, e4]
  exact hS
theorem FormI.new (h : FormI S) (hF : Fr [q0] S S') (h0 : gn S ≤ q0) (h1 : 103 ≤ q0) (h2 : q0 < 1000000000) : FormI S' := by
  obtain ⟨i1, i2, i3, i4, i5⟩ := h
  have e : ∀ q : Nat, q < 103 → ∀ k, gi S' q k = gi S q k := fun q hq k => (new_i hF (by omega) (by omega) h1 h2 k).1
  have e71 : gi S' 71 = gi S 71 := funext fun k => e 71 (by omega) k
  have e72 : gi S' 72 = gi S 72 := funext fun k => e 72 (by omega) k
  refine ⟨?_, by rw [e 23 (by omega), e 55 (by omega)]; exact i2, ⟨i3.1.new hF h0 h1 h2 (FOk_m1 _).1 (by omega), ?_, ?_, ?_⟩, fun k hk => ?_, ?_, fun q hq => ?_⟩
  · unfold FormN; rw [e 55 (by omega), e71, e72]; exact i1
  · rw [e 24 (by omega)]; exact i3.2.1
  · rw [e 24 (by omega)]; exact i3.2.2.1
  · rw [e 24 (by omega)]; exact i3.2.2.2
  · rw [e 55 (by omega)] at hk
    obtain ⟨q, a, b, c, d⟩ := i4 k hk
    refine ⟨q, by rw [gr_c hF.1]; exact a, b.new hF h0 h1 h2 c.1 (by omega), FOk_c (new_seq hF h1 h2 k) c, ?_⟩
    have l := gln_lt b.1.2.2.2.2.2.1.1
    have lq := b.1.2.2.2.2.2.2.2
    have cq : ∀ k, gi S' q k = gi S q k := fun k => (new_i hF (by omega) (by omega) h1 h2 k).1
    rw [cq, cq, cq, e71, e72]
    exact d
  · rw [gr_c hF.1, e 55 (by omega)]; exact i5.1
  · rw [gr_c hF.1] at hq
    have := i5.2 q hq
    exact ⟨this.1.new hF h0 h1 h2 this.2.1 (by omega), FOk_c (new_seq hF h1 h2 8) this.2⟩
theorem Bas.new (h : Bas S) (hS : Fr [q0] S S') (h1 : 103 ≤ q0) (h2 : q0 < 1000000000) : Bas S' := by
  have e : ∀ q : Nat, q < 103 → ∀ k, gi S' q k = gi S q k := fun q hq k => (new_i hS (by omega) (by omega) h1 h2 k).1
  have ef : ∀ q : Nat, q < 103 → gi S' q = gi S q := fun q hq => funext (e q hq)
  refine ⟨⟨by rw [ef 55 (by omega), ef 11 (by omega)]; exact h.1.1, by rw [ef 55 (by omega), ef 61 (by omega), ef 62 (by omega), ef 63 (by omega), ef 64 (by omega), ef 65 (by omega), ef 12 (by omega), ef 13 (by omega)]; exact h.1.2.1, ?_, ?_⟩, h.2.1.fr hS (su_new rfl h1 h2), h.2.2.1.fr hS (su_new rfl h1 h2), h.2.2.2.fr hS (su_new rfl h1 h2)⟩
  · intro k hk
    rw [lI_c, new_cE hS h1 h2, ← lI_c, ef 14 (by omega), ef 61 (by omega), ef 62 (by omega), ef 63 (by omega)]
    exact h.1.2.2.1 k (by rw [← ef 55 (by omega)]; exact hk)
  · intro s y w a1 a2 a3 a4 a5 a6
    rw [lI_c, new_cE hS h1 h2, ← lI_c, ef 15 (by omega), ef 55 (by omega)]
    exact h.1.2.2.2 s y w a1 a2 a3 a4 a5 a6
theorem ClsI.new (h : ClsI S) (hF : Fr [q0] S S') (h0 : gn S ≤ q0) (h1 : 103 ≤ q0) (h2 : q0 < 1000000000) : ClsI S' := by
  obtain ⟨hB, hW, hH, hI, hP, hE⟩ := h
  have e : ∀ q : Nat, q < 103 → ∀ k, gi S' q k = gi S q k ∧ gl S' q k = gl S q k := fun q hq k => new_i hF (by omega) (by omega) h1 h2 k
  refine ⟨hB.new hF h1 h2, hW.fr hF (su_new rfl h1 h2), hH.fr hF, hI.new hF h0 h1 h2, ⟨by rw [(e 30 (by omega) 15).1]; exact hP.1, fun y hy j a b => ?_⟩, (e 30 (by omega) 17).1.trans hE⟩
  rw [(e 30 (by omega) 15).1] at hy
  have k := pasV_c (F := gi S) (G := gi S') (cor S) (e 55 (by omega) 18).1.symm (fun k _ _ => ⟨(e 71 (by omega) k).1.symm, (e 72 (by omega) k).1.symm⟩) (fun y d a b c => ⟨new_seq hF h1 h2 _, (inF_ok hI ⟨a, c⟩ b).1, (inF_ok hI ⟨a, c⟩ b).2.1⟩) y (by have := hP.1; omega)
  rw [new_cE hF h1 h2, ← k.1 j, (e 44 (by omega) _).2]
  exact hP.2 y hy j a (by rw [← (e 55 (by omega) 1).1]; exact b)
/-- the heap has only grown -/
def Gw (S S' : gM) : Prop := gn S ≤ gn S' ∧ (∀ q a, gob S q a = true → gob S' q a = true) ∧ (∀ q a, 0 ≤ gln S q a → gln S' q a = gln S q a) ∧ ∀ q k, q < gn S → gr S' q k = gr S q k
theorem LwS.gw {q : Nat} (h : LwS S q) (hG : Gw S S') (he : gi S' = gi S) : LwS S' q := by
  have hq := gob_lt h.1
  have r := hG.2.2.2
  have n4 := h.2.2.2.2.2.2.1
  unfold LwS at *
  rw [hG.2.1 _ _ h.1, r q 5 hq, r q 6 hq, r q 7 hq, r q 8 hq, hG.2.2.1 (q + 1) 0 (by omega), hG.2.2.1 (q + 2) 0 (by omega), hG.2.2.1 (q + 3) 0 (by omega), hG.2.2.1 (q + 4) 0 (by omega), he]
  exact ⟨rfl, h.2⟩
theorem LwR.gw {q : Nat} {f : Int} (h : LwR S q f) (hG : Gw S S') (he : gi S' = gi S) : LwR S' q f := by
  have l4 := hG.2.2.1 (q + 4) 0 h.1.2.2.2.2.2.1.1
  have hS := h.1.gw hG he
  unfold LwR at *
  rw [he, l4]
  exact ⟨hS, h.2⟩
theorem FormI.gw (h : FormI S) (hG : Gw S S') (he : gi S' = gi S) (hn : 103 ≤ gn S) : FormI S' := by
  obtain ⟨i1, i2, i3, i4, i5⟩ := h
  have r := hG.2.2.2
  refine ⟨by unfold FormN; rw [he]; exact i1, by rw [he]; exact i2, ⟨i3.1.gw hG he, by rw [he]; exact i3.2⟩, fun k hk => ?_, ?_, fun q hq => ?_⟩
  · rw [he] at hk
    obtain ⟨q, a, b, c, d⟩ := i4 k hk
    exact ⟨q, (r 29 k (by omega)).trans a, b.gw hG he, by rw [he]; exact c, by rw [he]; exact d⟩
  · rw [r 0 8 (by omega), he]; exact i5.1
  · rw [r 0 8 (by omega)] at hq
    have := i5.2 q hq
    exact ⟨this.1.gw hG he, by rw [he]; exact this.2⟩
theorem ClsI.gw {H : Nat × (Nat → vm_B) × (Nat → Nat → Option Nat) × Nat} (h : ClsI S) (hG : Gw S (S.1, S.2.1, H)) (hn : 103 ≤ gn S) : ClsI (S.1, S.2.1, H) := by
  obtain ⟨hB, hW, hH, hI, hP, hE⟩ := h
  have g := hG.2.2.1
  refine ⟨hB, hW, ?_, hI.gw hG rfl hn, hP, hE⟩
  obtain ⟨a, b, c, d, e, f, i⟩ := hH
  exact ⟨(g _ _ (by omega)).trans a, (g _ _ (by omega)).trans b, (g _ _ (by omega)).trans c, (g _ _ (by omega)).trans d, (g _ _ (by omega)).trans e, (g _ _ (by omega)).trans f, (g _ _ (by omega)).trans i⟩
theorem Gw.mk (S : gM) (b : vm_B) (w : Nat) (f : Int → Int) : Gw S (gmk S b w f) := by
  refine ⟨Nat.le_succ _, fun q a h => ?_, fun q a h => ?_, fun q k h => ?_⟩
  · have hq := gob_lt h
    unfold gob at h ⊢
    rw [show gsh (gmk S b w f) q = gsh S q from if_neg (by omega)]
    rw [Bool.and_eq_true] at h ⊢
    exact ⟨decide_eq_true (Nat.lt_succ_of_lt hq), h.2⟩
  · have hq := gln_lt h
    unfold gln
    rw [show gsh (gmk S b w f) q = gsh S q from if_neg (by omega), if_pos (show q < gn (gmk S b w f) from Nat.lt_succ_of_lt hq), if_pos hq]
  · exact if_neg (by omega)
end GW
