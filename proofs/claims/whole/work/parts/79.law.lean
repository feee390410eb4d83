/-! the formulae as the class holds them; law -/
/-- two memories agree on a formula's rows -/
def SEq (F G : Nat → Int → Int) (f : Int) : Prop := f = -1 ∨ (F 70 f = G 70 f ∧ (∀ i : Nat, i < 30 → F 73 (30 * f + i) = G 73 (30 * f + i) ∧ F 74 (30 * f + i) = G 74 (30 * f + i) ∧ F 75 (30 * f + i) = G 75 (30 * f + i) ∧ F 76 (30 * f + i) = G 76 (30 * f + i) ∧ F 77 (30 * f + i) = G 77 (30 * f + i)) ∧ ∀ j : Nat, j < 1500 → F 78 (1500 * f + j) = G 78 (1500 * f + j) ∧ F 79 (1500 * f + j) = G 79 (1500 * f + j))
section SE
variable {F G : Nat → Int → Int} {f : Int}
theorem SEq.symm (h : SEq F G f) : SEq G F f := by
  rcases h with h | ⟨a, b, c⟩
  · exact Or.inl h
  · exact Or.inr ⟨a.symm, fun i hi => ⟨(b i hi).1.symm, (b i hi).2.1.symm, (b i hi).2.2.1.symm, (b i hi).2.2.2.1.symm, (b i hi).2.2.2.2.symm⟩, fun j hj => ⟨(c j hj).1.symm, (c j hj).2.symm⟩⟩
theorem nsF_c (h : SEq F G f) : nsF F f = nsF G f := by
  unfold nsF
  rcases h with h | h
  · rw [if_pos h, if_pos h]
  · by_cases hm : f = -1
    · rw [if_pos hm, if_pos hm]
    · rw [if_neg hm, if_neg hm]; exact h.1
theorem lstF_c (h : SEq F G f) (hm : ¬ f = -1) (w : Int) (i : Nat) (hi : i ≤ 30) : lstF F f w i = lstF G f w i := by
  rcases h with h | h
  · exact absurd h hm
  · induction i with
    | zero => rfl
    | succ i ih => rw [lstF_s, lstF_s, ih (by omega), (h.2.1 i (by omega)).1]
theorem rk_c (h : SEq F G f) (hm : ¬ f = -1) (i : Nat) (hi : i ≤ 30) : rk F f i = rk G f i := by
  rcases h with h | h
  · exact absurd h hm
  · induction i with
    | zero => rfl
    | succ i ih => rw [rk_s, rk_s, ih (by omega), (h.2.1 i (by omega)).1]
theorem lst_c (h : SEq F G f) (hn : 0 ≤ nsF F f ∧ nsF F f ≤ 30) (w : Int) : lst F f w = lst G f w := by
  unfold lst
  rw [← nsF_c h]
  by_cases hm : f = -1
  · have : (nsF F f).toNat = 0 := by unfold nsF; rw [if_pos hm]; rfl
    rw [this]; rfl
  · exact lstF_c h hm w _ (by omega)
theorem tls_c (h : SEq F G f) (hn : 0 ≤ nsF F f ∧ nsF F f ≤ 30) (hf : -1 ≤ f) (w o : Int) : tls F f w o = tls G f w o := by
  unfold tls
  rw [← lst_c h hn w]
  by_cases hc : lst F f w = -1
  · rw [if_pos hc, if_pos hc]
  · rw [if_neg hc, if_neg hc]
    rcases h with h | h
    · exfalso
      apply hc
      unfold lst nsF
      rw [if_pos h]; rfl
    · by_cases hm : f = -1
      · exfalso
        apply hc
        unfold lst nsF
        rw [if_pos hm]; rfl
      · rcases lstF_rng F f w (by omega) (nsF F f).toNat with z | ⟨z, -⟩
        · exact absurd z hc
        · have := (h.2.1 (lst F f w - 30 * f).toNat (by unfold lst; omega)).2.1
          rw [show 30 * f + (((lst F f w - 30 * f).toNat : Nat) : Int) = lst F f w by unfold lst; omega] at this
          exact this
theorem sgm_c {a : Int} : ∀ (k : Nat) (a : Int), (∀ j : Nat, j < k → F 78 (a + j) = G 78 (a + j) ∧ F 79 (a + j) = G 79 (a + j)) → sgm F k a = sgm G k a := by
  intro k
  induction k with
  | zero => intro a _; rfl
  | succ k ih =>
    intro a h
    unfold sgm
    have h0 := h 0 (by omega)
    rw [show a + ((0 : Nat) : Int) = a by omega] at h0
    rw [h0.1, h0.2, ih (a + 1) (fun j hj => by
      have := h (j + 1) (by omega)
      rw [show a + ((j + 1 : Nat) : Int) = a + 1 + j by omega] at this
      exact this)]
theorem sgm_cs (h : SEq F G f) (hm : ¬ f = -1) {a : Int} {k : Nat} (h0 : 1500 * f ≤ a) (h1 : a + k ≤ 1500 * f + 1500) : sgm F k a = sgm G k a := by
  rcases h with h | h
  · exact absurd h hm
  · refine sgm_c (a := a) k a (fun j hj => ?_)
    have := h.2.2 (a + j - 1500 * f).toNat (by omega)
    rw [show 1500 * f + (((a + j - 1500 * f).toNat : Nat) : Int) = a + j by omega] at this
    exact this
theorem StOk_c (h : SEq F G f) (hm : ¬ f = -1) {i : Nat} (hi : i < 30) (hs : StOk F f i) : StOk G f i := by
  have hrk := rk_c h hm i (by omega)
  have hsg : ∀ (k : Nat) (a : Int), 1500 * f ≤ a → a + k ≤ 1500 * f + 1500 → sgm F k a = sgm G k a := fun k a => sgm_cs h hm
  rcases h with h | h
  · exact absurd h hm
  · obtain ⟨e3, e4, e5, e6, e7⟩ := h.2.1 i hi
    unfold StOk at hs ⊢
    rw [← e3, ← e4, ← e5, ← e6, ← e7, ← hrk]
    refine ⟨hs.1, fun z => ?_, hs.2.2⟩
    have h2 := hs.2.1 z
    rw [← hsg _ _ (by omega) (by omega), ]
    refine ⟨h2.1, h2.2.1, h2.2.2.1, fun w => ?_⟩
    rw [← hsg _ _ (by omega) (by omega)]
    exact h2.2.2.2 w
theorem FOk_c (h : SEq F G f) (hs : FOk F f) : FOk G f := by
  unfold FOk at hs ⊢
  rw [← nsF_c h]
  refine ⟨hs.1, fun i hi => ?_⟩
  have hm : ¬ f = -1 := fun z => by unfold nsF at hi; rw [if_pos z] at hi; omega
  exact StOk_c h hm (by omega) (hs.2 i hi)
end SE
/-- the law at cell q is the formula f -/
def LwR (S : gM) (q : Nat) (f : Int) : Prop :=
  LwS S q ∧ (gi S q 3 = nsF (gi S) f ∧ gi S q 4 = rk (gi S) f (nsF (gi S) f).toNat) ∧
  (gi S (q + 1) 0 = tls (gi S) f 1 (-1) ∧ gi S (q + 1) 1 = tls (gi S) f 2 (-1) ∧ gi S (q + 1) 2 = tls (gi S) f 3 (-1) ∧ gi S (q + 1) 3 = tls (gi S) f 4 0 ∧ gi S (q + 1) 4 = tls (gi S) f 5 0 ∧ gi S (q + 1) 5 = tls (gi S) f 6 (-1)) ∧
  (∀ i : Nat, (i : Int) < nsF (gi S) f → gi S 73 (30 * f + i) = 0 → gi S (q + 2) (rk (gi S) f i) = i ∧ gi S (q + 3) (2 * (rk (gi S) f i : Nat)) = gi S 75 (30 * f + i) - 1500 * f ∧ gi S (q + 3) (2 * (rk (gi S) f i : Nat) + 1) = gi S 76 (30 * f + i) - 1500 * f ∧ gi S (q + 3) (2 * (rk (gi S) f i : Nat) + 2) = gi S 77 (30 * f + i) - 1500 * f ∧ gi S 77 (30 * f + i) - 1500 * f ≤ gln S (q + 4) 0) ∧
  (f = -1 → gln S (q + 4) 0 = 0) ∧ (∀ j : Nat, (j : Int) < gln S (q + 4) 0 → (0 ≤ gi S 78 (1500 * f + j) ∧ gi S 78 (1500 * f + j) ≤ 14) ∧ (0 ≤ gi S 79 (1500 * f + j) ∧ gi S 79 (1500 * f + j) ≤ 9999999) ∧ gi S (q + 4) j = cst (gi S 78 (1500 * f + j)) (gi S 79 (1500 * f + j)))
theorem LwR.mv {S S' : gM} {q : Nat} {f : Int} (h : LwR S q f) (hE : SEq (gi S) (gi S') f) (hH : LwS S' q) (hl : gln S' (q + 4) 0 = gln S (q + 4) 0) (hc : ∀ j : Nat, j ≤ 4 → ∀ k, gi S' (q + j) k = gi S (q + j) k) (hn : 0 ≤ nsF (gi S) f ∧ nsF (gi S) f ≤ 30) (hf : -1 ≤ f) : LwR S' q f := by
  obtain ⟨h1, h2, h3, h4, h6, h5⟩ := h
  have c0 : ∀ k, gi S' q k = gi S q k := hc 0 (by omega)
  have c1 := hc 1 (by omega)
  have c2 := hc 2 (by omega)
  have c3 := hc 3 (by omega)
  have c4 := hc 4 (by omega)
  have tc := fun w o => tls_c hE hn hf w o
  refine ⟨hH, ?_, ?_, fun i hi h0 => ?_, fun z => (hl.trans (h6 z)), fun j hj => ?_⟩
  · rw [← nsF_c hE, c0, c0]
    refine ⟨h2.1, h2.2.trans ?_⟩
    by_cases hm : f = -1
    · have : (nsF (gi S) f).toNat = 0 := by unfold nsF; rw [if_pos hm]; rfl
      rw [this]; rfl
    · rw [rk_c hE hm _ (by omega)]
  · rw [c1, c1, c1, c1, c1, c1, ← tc, ← tc, ← tc, ← tc, ← tc, ← tc]; exact h3
  · rw [← nsF_c hE] at hi
    have hm : ¬ f = -1 := fun z => by unfold nsF at hi; rw [if_pos z] at hi; omega
    rw [← rk_c hE hm _ (by omega)]
    rcases hE with hE | hE
    · exact absurd hE hm
    · obtain ⟨e3, e4, e5, e6, e7⟩ := hE.2.1 i (by omega)
      rw [← e3] at h0
      rw [c2, c3, c3, c3, hl, ← e5, ← e6, ← e7]
      exact h4 i hi h0
  · rw [hl] at hj
    have hlen := h1.2.2.2.2.2.1
    by_cases hm : f = -1
    · have := h6 hm; omega
    · rcases hE with hE | hE
      · exact absurd hE hm
      · have e := hE.2.2 j (by omega)
        rw [c4, ← e.1, ← e.2]
        exact h5 j hj

theorem Sc.seq {S S' : gM} (h : Sc S S') (f : Int) : SEq (gi S) (gi S') f := Or.inr ⟨(h.i rfl).symm, fun i _ => ⟨(h.i rfl).symm, (h.i rfl).symm, (h.i rfl).symm, (h.i rfl).symm, (h.i rfl).symm⟩, fun j _ => ⟨(h.i rfl).symm, (h.i rfl).symm⟩⟩
theorem LwR.sc {S S' : gM} {q : Nat} {f : Int} (h : LwR S q f) (hS : Sc S S') (hn : 0 ≤ nsF (gi S) f ∧ nsF (gi S) f ≤ 30) (hf : -1 ≤ f) : LwR S' q f :=
  h.mv (hS.seq f) (h.1.sc hS) (gln_c hS.1 _ _) (fun j hj k => hS.law h.1.2.2.2.2.2.2.2 j hj k) hn hf
def FormI (S : gM) : Prop :=
  FormN S ∧ gi S 23 2 = gi S 55 18 ∧ (LwR S 24 (-1) ∧ gi S 24 0 = -1 ∧ gi S 24 1 = 0 ∧ gi S 24 2 = 0) ∧
  (∀ k : Nat, (k : Int) < gi S 55 18 → ∃ q, gr S 29 k = some q ∧ LwR S q k ∧ FOk (gi S) k ∧ gi S q 0 = k ∧ gi S q 1 = gi S 71 k ∧ gi S q 2 = gi S 72 k) ∧
  ((gr S 0 8 = none ↔ gi S 55 26 = 0) ∧ ∀ q, gr S 0 8 = some q → LwR S q 8 ∧ FOk (gi S) 8)
theorem FormI.sc {S S' : gM} (h : FormI S) (hS : Sc S S') : FormI S' := by
  obtain ⟨h1, h2, h3, h4, h5⟩ := h
  have e18 : gi S' 55 18 = gi S 55 18 := hS.i rfl
  have e71 : gi S' 71 = gi S 71 := funext fun k => hS.i rfl
  have e72 : gi S' 72 = gi S 72 := funext fun k => hS.i rfl
  have e26 : gi S' 55 26 = gi S 55 26 := hS.i rfl
  have e23 : gi S' 23 2 = gi S 23 2 := hS.i rfl
  refine ⟨?_, by rw [e23, e18]; exact h2, ⟨h3.1.sc hS (FOk_m1 _).1 (by omega), ?_, ?_, ?_⟩, fun k hk => ?_, ?_, fun q hq => ?_⟩
  · unfold FormN; rw [e18, e71, e72]; exact h1
  · rw [hS.i rfl]; exact h3.2.1
  · rw [hS.i rfl]; exact h3.2.2.1
  · rw [hS.i rfl]; exact h3.2.2.2
  · rw [e18] at hk
    obtain ⟨q, a, b, c, d⟩ := h4 k hk
    refine ⟨q, by rw [gr_c hS.1]; exact a, b.sc hS c.1 (by omega), FOk_c (hS.seq k) c, ?_⟩
    have cq : ∀ k, gi S' q k = gi S q k := fun k => hS.law b.1.2.2.2.2.2.2.2 0 (by omega) k
    rw [cq, cq, cq, e71, e72]
    exact d
  · rw [gr_c hS.1, e26]; exact h5.1
  · rw [gr_c hS.1] at hq
    have := h5.2 q hq
    exact ⟨this.1.sc hS this.2.1 (by omega), FOk_c (hS.seq 8) this.2⟩
section LW
variable {S : gM}
/-- a law of the class and the formula that it is -/
def LwF (S : gM) (q : Nat) (f : Int) : Prop := LwR S q f ∧ FOk (gi S) f ∧ (-1 ≤ f ∧ f < 9)
/-- which law is in force -/
theorem g56_l8_eq (h : FormI S) (y d : Int) (hy : 0 ≤ y ∧ y < 10) (hd : 0 ≤ d) : ∀ n k : Nat, k ≤ (gi S 55 18).toNat → (gi S 55 18).toNat - k < n → ∀ q : Nat, LwF S q (iF (gi S) y d k) → gi S q 0 = iF (gi S) y d k → (iF (gi S) y d k = -1 → gi S q 1 = 0) → (0 ≤ iF (gi S) y d k → gi S q 1 = gi S 71 (iF (gi S) y d k)) →
    ∃ q', g56_l8 y d n (some q) k S = some (some q', S) ∧ LwF S q' (inF (gi S) y d) ∧ gi S q' 0 = inF (gi S) y d := by
  have h1 := h.1.1
  refine upto (gi S 55 18).toNat (fun n k => ∀ q : Nat, LwF S q (iF (gi S) y d k) → gi S q 0 = iF (gi S) y d k → (iF (gi S) y d k = -1 → gi S q 1 = 0) → (0 ≤ iF (gi S) y d k → gi S q 1 = gi S 71 (iF (gi S) y d k)) → ∃ q', g56_l8 y d n (some q) k S = some (some q', S) ∧ LwF S q' (inF (gi S) y d) ∧ gi S q' 0 = inF (gi S) y d) ?_
  intro n k hk ih q hq hq0 hm1 hm2
  dsimp only [g56_l8]
  rw [lt_t, h.2.1]
  by_cases hc : gi S 55 18 ≤ k
  · rw [if_pos hc]
    have : k = (gi S 55 18).toNat := by omega
    refine ⟨q, rfl, ?_, ?_⟩
    · unfold inF; rw [← this]; exact hq
    · unfold inF; rw [← this]; exact hq0
  · rw [if_neg hc, chk_t (by omega), lt_t]
    obtain ⟨p, a, b, c, d0, d1, d2⟩ := h.2.2.2.1 k (by omega)
    rw [show ((k : Int)).toNat = k by omega, a]
    dsimp only
    have ih := ih (by omega)
    have hi := iF_s (gi S) y d k
    have hr := iF_rng (gi S) y d k
    have hN := h.1.2 k (by omega) (by omega)
    have pS := b.1.1
    rw [chk_t pS, lt_t, d2]
    have stay : ¬ (gi S 72 k ≤ d ∧ gi S 71 k ≤ y ∧ (iF (gi S) y d k = -1 ∨ gi S 71 (iF (gi S) y d k) ≤ gi S 71 k)) → ∃ q', g56_l8 y d n (some q) ((k : Int) + 1) S = some (some q', S) ∧ LwF S q' (inF (gi S) y d) ∧ gi S q' 0 = inF (gi S) y d := by
      intro hno
      rw [if_neg hno] at hi
      have := ih q
      rw [hi] at this
      exact this hq hq0 hm1 hm2
    by_cases c1 : d < gi S 72 k
    · rw [if_pos c1, ckI_t (by omega)]; exact stay (by omega)
    · rw [if_neg c1, chk_t pS, lt_t, d1]
      by_cases c2 : gi S 71 k ≤ y
      · rw [if_pos c2, chk_t pS, lt_t, ob_s, chk_t hq.1.1.1, lt_t]
        by_cases c3 : gi S 71 k < gi S q 1
        · rw [if_pos c3, ckI_t (by omega)]
          refine stay (fun z => ?_)
          rcases z.2.2 with w | w
          · have := hm1 w; omega
          · by_cases w2 : iF (gi S) y d k = -1
            · have := hm1 w2; omega
            · have := hm2 (by omega); omega
        · rw [if_neg c3, ckI_t (by omega)]
          have hyes : gi S 72 k ≤ d ∧ gi S 71 k ≤ y ∧ (iF (gi S) y d k = -1 ∨ gi S 71 (iF (gi S) y d k) ≤ gi S 71 k) := by
            refine ⟨by omega, c2, ?_⟩
            by_cases w : iF (gi S) y d k = -1
            · exact Or.inl w
            · exact Or.inr (by have := hm2 (by omega); omega)
          rw [if_pos hyes] at hi
          have := ih p
          rw [hi] at this
          exact this ⟨b, c, by omega⟩ d0 (fun z => by omega) (fun _ => d1)
      · rw [if_neg c2, ckI_t (by omega)]; exact stay (by omega)
theorem g56_w (h : FormI S) (y d : Int) (hy : 0 ≤ y ∧ y < 10) (hd : 0 ≤ d) : ∃ q, g56 y d S = some (some q, S) ∧ LwF S q (inF (gi S) y d) ∧ gi S q 0 = inF (gi S) y d := by
  unfold g56
  have h1 := h.1.1
  exact g56_l8_eq h y d hy hd 100000 0 (Nat.zero_le _) (by omega) 24 ⟨h.2.2.1.1, FOk_m1 _, by unfold iF; omega⟩ h.2.2.1.2.1 (fun _ => h.2.2.1.2.2.1) (fun z => by unfold iF at z; omega)
theorem LwF.ln1 {q : Nat} {f : Int} (h : LwF S q f) : gln S (q + 1) 0 = 6 := h.1.1.2.2.1
/-- law -/
theorem law_w (h : FormI S) (y d x : Int) : ∃ v, g87 y d x S = some (v, S) ∧ g164 y d x S = some (v, S) := by
  unfold g87 g164
  rw [g103_eq, ob_s, g115_eq, ob_s]
  dsimp only
  by_cases hy : 0 ≤ y ∧ y < 10
  · rw [one_t hy, if_neg (by decide), if_neg (by decide), g104_eq, ob_s, g114_eq, ob_s]
    dsimp only
    by_cases hd : 0 ≤ d ∧ d ≤ 999
    · rw [one_t hd, if_pos (by decide), if_pos (by decide), g160_eq h.1, ob_s]
      obtain ⟨q, e, hq, hq0⟩ := g56_w h y d hy hd.1
      rw [e, ob_s]
      dsimp only
      rw [lt_t, ob_s, chk_t hq.1.1.1]
      generalize inF (gi S) y d = f at *
      obtain ⟨⟨hS, hn, ht, hp, -, -⟩, hF, hf⟩ := hq
      have l6 : gln S (q + 1) 0 = 6 := hS.2.2.1
      have hF1 := hF.1
      have hsh := (tls_rng hF hf.1).2.2.2.2.2
      have tl : ∀ w o : Int, g162 f w o S = some (tls (gi S) f w o, S) := fun w o => g162_eq w o hF hf
      unfold g9
      have low : ∀ v : Int, 0 ≤ x → x < 5 → gi S (q + 1) x = v → (Option.bind (if x < 0 then g9_j16 q x S else if 5 ≤ x then g9_j16 q x S else w_chk (gob S q 1 = true) <| w_chk (gr S q 5 = some (q + 1)) <| w_chk ((0 : Int) ≤ gln S (q + 1) 0) <| w_chk ((0 : Int) ≤ x ∧ x < (gln S (q + 1) 0)) <| w_lt (gi S (q + 1) x) fun V33 => some (V33, S)) fun p7 => some (p7.1, p7.2)) = some (v, S) := by
        intro v h1 h2 hv
        rw [if_neg (by omega), if_neg (by omega), chk_t hS.1, chk_t hS.2.1.1, l6, chk_t (by omega), chk_t (by omega), lt_t, hv]
        rfl
      have hi : ¬ x = 0 → ¬ x = 1 → ¬ x = 2 → ¬ x = 3 → ¬ x = 4 → (if x < 0 then g9_j16 q x S else if 5 ≤ x then g9_j16 q x S else w_chk (gob S q 1 = true) <| w_chk (gr S q 5 = some (q + 1)) <| w_chk ((0 : Int) ≤ gln S (q + 1) 0) <| w_chk ((0 : Int) ≤ x ∧ x < (gln S (q + 1) 0)) <| w_lt (gi S (q + 1) x) fun V33 => some (V33, S)) = g9_j16 q x S := by
        intro a b c d e
        by_cases z : x < 0
        · rw [if_pos z]
        · rw [if_neg z, if_pos (by omega)]
      by_cases x0 : x = 0
      · rw [if_pos x0, tl, ob_s]; exact ⟨_, low _ (by omega) (by omega) (by rw [x0]; exact ht.1), rfl⟩
      rw [if_neg x0]
      by_cases x1 : x = 1
      · rw [if_pos x1, tl, ob_s]; exact ⟨_, low _ (by omega) (by omega) (by rw [x1]; exact ht.2.1), rfl⟩
      rw [if_neg x1]
      by_cases x2 : x = 2
      · rw [if_pos x2, tl, ob_s]; exact ⟨_, low _ (by omega) (by omega) (by rw [x2]; exact ht.2.2.1), rfl⟩
      rw [if_neg x2]
      by_cases x3 : x = 3
      · rw [if_pos x3, tl, ob_s]; exact ⟨_, low _ (by omega) (by omega) (by rw [x3]; exact ht.2.2.2.1), rfl⟩
      rw [if_neg x3]
      by_cases x4 : x = 4
      · rw [if_pos x4, tl, ob_s]; exact ⟨_, low _ (by omega) (by omega) (by rw [x4]; exact ht.2.2.2.2.1), rfl⟩
      rw [if_neg x4]
      rw [hi x0 x1 x2 x3 x4]
      unfold g9_j16
      by_cases x5 : x = 5
      · rw [if_pos x5, if_neg (fun z => z x5), chk_t hS.1, chk_t hS.2.1.1, l6, chk_t (by omega), chk_t (by omega), lt_t, chk_t hS.1, lt_t, g102_eq, ob_s, ht.2.2.2.2.2, hn.2, g161_eq 6 hF hf, ob_s]
        dsimp only
        by_cases hl : lst (gi S) f 6 = -1
        · have e6 : tls (gi S) f 6 (-1) = -1 := by unfold tls; rw [if_pos hl]
          rw [e6, one_f (by omega), if_pos rfl, if_neg (fun z : ¬ lst (gi S) f 6 = -1 => z hl)]
          exact ⟨_, rfl, rfl⟩
        · have e6 : tls (gi S) f 6 (-1) = gi S 74 (lst (gi S) f 6) := by unfold tls; rw [if_neg hl]
          rcases lst_rng hF hf.1 6 with z | ⟨z, z2, i0, z3, z4⟩
          · exact absurd z hl
          · have h6 := (hF.2 i0 z4).2.2.2.2.2.2 (by rw [← z3]; exact z2)
            rw [← z3, ← e6] at h6
            have hm : ¬ f = -1 := by omega
            obtain ⟨i, p1, p2, p3⟩ := pos_ex (gi S) f (tls (gi S) f 6 (-1)).toNat (nsF (gi S) f).toNat (by omega)
            have hpi := (hp i (by omega) p2).1
            have hri : ((rk (gi S) f i : Nat) : Int) = tls (gi S) f 6 (-1) := by omega
            rw [hri] at hpi
            refine ⟨(i : Int), ?_, ?_⟩
            · rw [one_t (by omega), if_neg (by decide), chk_t hS.1, chk_t hS.2.1.2.1, chk_t hS.1, chk_t hS.2.1.1, l6, chk_t (by omega), chk_t (by omega), lt_t]
              have l2 : gln S (q + 2) 0 = gi S q 4 := hS.2.2.2.1
              rw [l2, hn.2, chk_t (by omega), chk_t (by omega), lt_t, hpi]
              rfl
            · rw [if_pos hl, g161_eq 6 hF hf, ob_s]
              dsimp only
              rw [chk_t (by omega), lt_t, ← e6, ← hri, g163_eq hF (by omega) (by omega) p2]
              rfl
      rw [if_neg x5, if_pos x5]
      by_cases x6 : x = 6
      · rw [if_pos x6, if_neg (fun z => z x6), chk_t hS.1, lt_t, hn.1]
        by_cases hm : f = -1
        · rw [if_neg (fun z => z hm)]
          refine ⟨0, ?_, rfl⟩
          unfold nsF; rw [if_pos hm]; rfl
        · rw [if_pos hm, chk_t (by omega), lt_t]
          refine ⟨_, rfl, ?_⟩
          unfold nsF; rw [if_neg hm]
      rw [if_neg x6, if_pos x6]
      by_cases x7 : x = 7
      · rw [if_pos x7, if_neg (fun z => z x7), chk_t hS.1, lt_t, hq0]
        exact ⟨_, rfl, rfl⟩
      rw [if_neg x7, if_pos x7]
      exact ⟨_, rfl, rfl⟩
    · rw [one_f hd, if_neg (by decide), if_neg (by decide)]; exact ⟨_, rfl, rfl⟩
  · rw [one_f hy, if_pos rfl, if_pos rfl]; exact ⟨_, rfl, rfl⟩
end LW
