/-! calls: rates, the class's object -/
section RC
variable {L : Int → Int → Int} {la : Int → Int} {a b : Int} {R : Nat}
theorem q_c {q : Nat} (h1 : 103 ≤ q) (k : Int) : [q].contains (rg q k) = true := by rw [rg_big (by omega)]; simp
theorem q_f {S S' : gM} {q : Nat} (h : Fr [q] S S') (h1 : 103 ≤ q) (h2 : q < 1000000000) {c : Nat} (hc : c < 103) (k : Int) : gi S' c k = gi S c k ∧ gl S' c k = gl S c k := by
  refine h.2 c k ?_
  have hne : ¬ rg c k = q := by
    unfold rg
    split <;> omega
  simp [hne]
/-- a Rates object over the class's rows -/
def RaI (S : gM) (q : Nat) (y n : Int) (L : Int → Int → Int) (la : Int → Int) (R : Nat) : Prop := (103 ≤ q) ∧ (q < 1000000000) ∧ (gob S q 5 = true) ∧ (gr S q 0 = some 1) ∧ (gr S q 1 = some 30) ∧ (gi S q 2 = y) ∧ (gi S 1 7 = n) ∧ (0 ≤ n ∧ n ≤ 12) ∧ (∀ j : Int, 0 ≤ j → j < n → y < gi S 6 j → gl S 40 j = la j ∧ gl S 35 j = sm (fun r => L j r) R ∧ ∀ r : Int, 0 ≤ r → r < 30 → gl S 34 (30 * j + r) = L j r) ∧ (∀ j r, -100000000 ≤ L j r ∧ L j r ≤ 100000000) ∧ (R ≤ 30)
section RAI
variable {S : gM} {q : Nat} {y n : Int}
theorem RaI.h1 (h : RaI S q y n L la R) : 103 ≤ q := h.1
theorem RaI.h2 (h : RaI S q y n L la R) : q < 1000000000 := h.2.1
theorem RaI.ob (h : RaI S q y n L la R) : gob S q 5 = true := h.2.2.1
theorem RaI.r0 (h : RaI S q y n L la R) : gr S q 0 = some 1 := h.2.2.2.1
theorem RaI.r1 (h : RaI S q y n L la R) : gr S q 1 = some 30 := h.2.2.2.2.1
theorem RaI.yq (h : RaI S q y n L la R) : gi S q 2 = y := h.2.2.2.2.2.1
theorem RaI.hn (h : RaI S q y n L la R) : gi S 1 7 = n := h.2.2.2.2.2.2.1
theorem RaI.n12 (h : RaI S q y n L la R) : 0 ≤ n ∧ n ≤ 12 := h.2.2.2.2.2.2.2.1
theorem RaI.dat (h : RaI S q y n L la R) : ∀ j : Int, 0 ≤ j → j < n → y < gi S 6 j → gl S 40 j = la j ∧ gl S 35 j = sm (fun r => L j r) R ∧ ∀ r : Int, 0 ≤ r → r < 30 → gl S 34 (30 * j + r) = L j r := h.2.2.2.2.2.2.2.2.1
theorem RaI.hL (h : RaI S q y n L la R) : ∀ j r, -100000000 ≤ L j r ∧ L j r ≤ 100000000 := h.2.2.2.2.2.2.2.2.2.1
theorem RaI.hR (h : RaI S q y n L la R) : R ≤ 30 := h.2.2.2.2.2.2.2.2.2.2
end RAI
theorem g27_l9_w {Q : gM → Prop} {K : Int → Int → gM → Option gM} {S0 S : gM} {q : Nat} {y n u v lim : Int} (h : RaI S0 q y n L la R) (hS : Fr [q] S0 S) (hy2 : gi S q 2 = y) (ha : 0 ≤ a ∧ a < R) (hb : 0 ≤ b ∧ b < R) (hab : ¬ a = b) (hu : 0 ≤ u ∧ u ≤ 20) (hv : 0 ≤ v ∧ v ≤ 20)
    (hK : Wp Q (K (rTot L (fun j => y < gi S0 6 j) a b R u v n.toNat) (rWor L la (fun j => y < gi S0 6 j) a b R u v n.toNat) S)) : Wp Q (g27_l9 q a b u v lim K 100000 0 0 0 S) := by
  have n12 := h.n12
  have hR := h.hR
  have h17 : gi S 1 7 = n := (q_f hS h.h1 h.h2 (by omega) 7).1.trans h.hn
  have key := upto n.toNat (fun m i => Wp Q (g27_l9 q a b u v lim K m (rTot L (fun j => y < gi S0 6 j) a b R u v i) (rWor L la (fun j => y < gi S0 6 j) a b R u v i) i S)) ?_ 100000 0 (Nat.zero_le _) (by omega)
  · exact key
  intro m i hi ih
  dsimp only [g27_l9]
  have ob : gob S q 5 = true := (gob_c hS.1 _ _).trans h.ob
  have r0 : gr S q 0 = some 1 := (gr_c hS.1 _ _).trans h.r0
  have r1 : gr S q 1 = some 30 := (gr_c hS.1 _ _).trans h.r1
  rw [chk_t ob, chk_t r0, lt_t, h17]
  refine p_if (fun hc => ?_) (fun hc => ?_)
  · have : i = n.toNat := by omega
    rw [this]; exact hK
  have ih := ih (by omega)
  have eT : rTot L (fun j => y < gi S0 6 j) a b R u v (i + 1) = rTot L (fun j => y < gi S0 6 j) a b R u v i + ifp (y < gi S0 6 i) (rB L a b R i u v) := sm_s _ i
  have eW : rWor L la (fun j => y < gi S0 6 j) a b R u v (i + 1) = rWor L la (fun j => y < gi S0 6 j) a b R u v i + one (y < gi S0 6 i ∧ rB L a b R i u v < la i) := sm_s _ i
  rw [eT, eW] at ih
  have bT : -6000000000 * (i : Int) ≤ rTot L (fun j => y < gi S0 6 j) a b R u v i ∧ rTot L (fun j => y < gi S0 6 j) a b R u v i ≤ 6000000000 * i := sm_rng (f := fun j => ifp (y < gi S0 6 j) (rB L a b R j u v)) (-6000000000) 6000000000 i (fun j _ => ifp_rng (rB_rng h.hL hu hv hR j) (by omega) (by omega))
  have bW : 0 * (i : Int) ≤ rWor L la (fun j => y < gi S0 6 j) a b R u v i ∧ rWor L la (fun j => y < gi S0 6 j) a b R u v i ≤ 1 * i := sm_rng (f := fun j => one (y < gi S0 6 j ∧ rB L a b R j u v < la j)) 0 1 i (fun j _ => one_rng _)
  have bB := rB_rng (a := a) (b := b) h.hL hu hv hR i
  rw [chk_t ob, chk_t r0, chk_t ob, lt_t, hy2]
  refine p_call (g2_eq i y (by omega) (by omega)) ?_
  dsimp only
  have e6 : gi S 6 i = gi S0 6 i := (q_f hS h.h1 h.h2 (by omega) i).1
  rw [h17, e6]
  refine p_if1n (fun ho => ?_) (fun ho => ?_)
  · have ho := ho.2
    rw [ifp_t ho] at ih
    have hd := h.dat i (by omega) (by omega) ho
    have l34 : ∀ r : Int, 0 ≤ r → r < 30 → gl S 34 (30 * i + r) = L i r := fun r x z => (q_f hS h.h1 h.h2 (by omega) _).2.trans (hd.2.2 r x z)
    have l35 : gl S 35 i = sm (fun r => L i r) R := (q_f hS h.h1 h.h2 (by omega) _).2.trans hd.2.1
    have l40 : gl S 40 i = la i := (q_f hS h.h1 h.h2 (by omega) _).2.trans hd.1
    have sL := sm_rng (f := fun r => L i r) (-100000000) 100000000 R (fun r _ => h.hL i r)
    have la' := rG_rng (h.hL i) (a := a) (b := b) hu hv a
    have lb' := rG_rng (h.hL i) (a := a) (b := b) hu hv b
    have hLa := h.hL i a
    have hLb := h.hL i b
    have eB : rB L a b R i u v = sm (fun r => L i r) R - L i a - L i b + (L i a * u).tdiv 10 + (L i b * v).tdiv 10 := rG_sm (L i) R ha hb hab
    rw [chk_t ob, chk_t r1, ckI_t (by omega), ckI_t (by omega), chk_t (by omega), lt_t, show (i : Int) * 30 + a = 30 * i + a by omega, l34 a (by omega) (by omega), chk_t ob, chk_t r1, ckI_t (by omega), ckI_t (by omega), chk_t (by omega), lt_t, show (i : Int) * 30 + b = 30 * i + b by omega, l34 b (by omega) (by omega), chk_t ob, chk_t r1, chk_t (by omega), lt_t, l35,
      ckJ_t (by omega), ckJ_t (by omega), ckJ_t (by omega), ckJ_t (by omega), ckJ_t (by omega), ckJ_t (by omega), ckJ_t (by omega), ckJ_t (by omega), ← eB, ckJ_t (by omega), chk_t ob, chk_t r1, chk_t (by omega), lt_t, l40]
    refine p_if (fun c => ?_) (fun c => ?_)
    · rw [one_f (fun z => by have := z.2; omega), Int.add_zero] at ih
      rw [ckI_t (by omega)]
      exact ih
    · rw [one_t ⟨ho, by omega⟩] at ih
      rw [ckI_t (by omega), ckI_t (by omega)]
      exact ih
  · have ho' : ¬ y < gi S0 6 i := fun z => ho ⟨by omega, z⟩
    rw [ifp_f ho', one_f (fun z => ho' z.1), Int.add_zero, Int.add_zero] at ih
    rw [ckI_t (by omega)]
    exact ih
/-- what the object holds -/
def RaV (S : gM) (q : Nat) (B : Int × Int × Int) : Prop := (B.1 = -1 → gi S q 3 = 0) ∧ (¬ B.1 = -1 → gi S q 3 = 1 ∧ gl S q 4 = B.2.1 ∧ gl S q 5 = B.2.2 ∧ gi S q 6 = B.1 / 21 ∧ gi S q 7 = B.1 % 21)
theorem g27_w {S0 S : gM} {q : Nat} {y n lim : Int} {k : Nat} (h : RaI S0 q y n L la R) (hS : Fr [q] S0 S) (hy2 : gi S q 2 = y) (ha : 0 ≤ a ∧ a < R) (hb : 0 ≤ b ∧ b < R) (hab : ¬ a = b) (hk : k < 441) (hV : RaV S q (bst L la (fun j => y < gi S0 6 j) a b R lim n.toNat k)) :
    Wp (fun S' => Fr [q] S0 S' ∧ gi S' q 2 = y ∧ RaV S' q (bst L la (fun j => y < gi S0 6 j) a b R lim n.toNat (k + 1))) (g27 q a b (k / 21 : Nat) (k % 21 : Nat) lim S) := by
  unfold g27
  refine g27_l9_w h hS hy2 ha hb hab (by omega) (by omega) ?_
  have ob : gob S q 5 = true := (gob_c hS.1 _ _).trans h.ob
  rw [bst]
  generalize bst L la (fun j => y < gi S0 6 j) a b R lim n.toNat k = B at *
  generalize rTot L (fun j => y < gi S0 6 j) a b R (k / 21 : Nat) (k % 21 : Nat) n.toNat = T at *
  generalize rWor L la (fun j => y < gi S0 6 j) a b R (k / 21 : Nat) (k % 21 : Nat) n.toNat = Wr at *
  have stay : ¬ (T ≤ lim ∧ (B.1 = -1 ∨ Wr < B.2.1 ∨ (Wr = B.2.1 ∧ B.2.2 < T))) → Wp (fun S' => Fr [q] S0 S' ∧ gi S' q 2 = y ∧ RaV S' q (if T ≤ lim ∧ (B.1 = -1 ∨ Wr < B.2.1 ∨ (Wr = B.2.1 ∧ B.2.2 < T)) then ((k : Int), Wr, T) else B)) (some S) := fun hno => by
    rw [if_neg hno]
    exact p_some ⟨hS, hy2, hV⟩
  have take : (T ≤ lim ∧ (B.1 = -1 ∨ Wr < B.2.1 ∨ (Wr = B.2.1 ∧ B.2.2 < T))) → Wp (fun S' => Fr [q] S0 S' ∧ gi S' q 2 = y ∧ RaV S' q (if T ≤ lim ∧ (B.1 = -1 ∨ Wr < B.2.1 ∨ (Wr = B.2.1 ∧ B.2.2 < T)) then ((k : Int), Wr, T) else B)) (g27_j194 q (k / 21 : Nat) (k % 21 : Nat) T Wr S) := fun hy => by
    rw [if_pos hy]
    unfold g27_j194
    refine p_chk ob ?_
    rw [lt_t]
    refine p_chk ob ?_
    rw [lt_t]
    refine p_chk ob ?_
    rw [lt_t]
    refine p_chk ob ?_
    rw [lt_t]
    refine p_chk ob ?_
    rw [lt_t]
    refine p_some ⟨((((hS.wi (q_c h.h1 _)).wl (q_c h.h1 _)).wl (q_c h.h1 _)).wi (q_c h.h1 _)).wi (q_c h.h1 _), ?_, fun z => ?_, fun _ => ⟨?_, ?_, ?_, ?_, ?_⟩⟩
    · simp [gi_wi, gi_wl, hy2]
    · have : (k : Int) = -1 := z
      omega
    · simp [gi_wi, gi_wl]
    · simp [gl_wi, gl_wl]
    · simp [gl_wi, gl_wl]
    · simp [gi_wi, gi_wl]
    · simp [gi_wi, gi_wl]
  refine p_if (fun c1 => ?_) (fun c1 => stay (fun z => c1 z.1))
  rw [chk_t ob, lt_t]
  by_cases hB : B.1 = -1
  · rw [hV.1 hB, if_pos rfl]
    exact take ⟨c1, Or.inl hB⟩
  · have v := hV.2 hB
    rw [v.1, if_neg (show ¬ (1 : Int) = 0 by decide), chk_t ob, lt_t, v.2.1]
    refine p_if (fun c3 => stay (fun z => by rcases z.2 with w | w | w <;> omega)) (fun c3 => ?_)
    rw [chk_t ob, lt_t]
    refine p_if (fun c4 => take ⟨c1, Or.inr (Or.inl (by omega))⟩) (fun c4 => ?_)
    rw [chk_t ob, lt_t, v.2.2.1]
    refine p_if (fun c5 => take ⟨c1, Or.inr (Or.inr ⟨by omega, c5⟩)⟩) (fun c5 => ?_)
    exact stay (fun z => by rcases z.2 with w | w | w <;> omega)
theorem g26_l13_w {Q : gM → Prop} {K : gM → Option gM} {S0 : gM} {q : Nat} {y n lim : Int} (h : RaI S0 q y n L la R) (ha : 0 ≤ a ∧ a < R) (hb : 0 ≤ b ∧ b < R) (hab : ¬ a = b) {u : Nat} (hu : u ≤ 20)
    (hK : ∀ S, Fr [q] S0 S → gi S q 2 = y → RaV S q (bst L la (fun j => y < gi S0 6 j) a b R lim n.toNat (21 * (u + 1))) → Wp Q (K S)) : ∀ m v : Nat, v ≤ 21 → 21 - v < m → ∀ S, Fr [q] S0 S → gi S q 2 = y → RaV S q (bst L la (fun j => y < gi S0 6 j) a b R lim n.toNat (21 * u + v)) → Wp Q (g26_l13 q a b lim u K m v S) := by
  refine upto 21 (fun m v => ∀ S, Fr [q] S0 S → gi S q 2 = y → RaV S q (bst L la (fun j => y < gi S0 6 j) a b R lim n.toNat (21 * u + v)) → Wp Q (g26_l13 q a b lim u K m v S)) ?_
  intro m v hv ih S hS hy2 hV
  dsimp only [g26_l13]
  refine p_if (fun hc => ?_) (fun hc => ?_)
  · have : v = 21 := by omega
    subst this
    exact hK S hS hy2 hV
  have ob : gob S q 5 = true := (gob_c hS.1 _ _).trans h.ob
  have g := g27_w (lim := lim) h hS hy2 ha hb hab (k := 21 * u + v) (by omega) hV
  rw [show (21 * u + v) / 21 = u by omega, show (21 * u + v) % 21 = v by omega] at g
  rw [chk_t ob]
  refine p_use g (fun S2 h2 => ?_)
  rw [ckI_t (by omega)]
  exact ih (by omega) S2 h2.1 h2.2.1 h2.2.2
theorem g26_w {S0 : gM} {q : Nat} {y n lim : Int} (h : RaI S0 q y n L la R) (h3 : gi S0 q 3 = 0) (ha : 0 ≤ a ∧ a < R) (hb : 0 ≤ b ∧ b < R) (hab : ¬ a = b) : Wp (fun S => Fr [q] S0 S ∧ RaV S q (bst L la (fun j => y < gi S0 6 j) a b R lim n.toNat 441)) (g26 q a b lim S0) := by
  unfold g26
  have key := upto 21 (fun m u => ∀ S, Fr [q] S0 S → gi S q 2 = y → RaV S q (bst L la (fun j => y < gi S0 6 j) a b R lim n.toNat (21 * u)) → Wp (fun S => Fr [q] S0 S ∧ RaV S q (bst L la (fun j => y < gi S0 6 j) a b R lim n.toNat 441)) (g26_l3 q a b lim m u S)) ?_ 100000 0 (Nat.zero_le _) (by omega) S0 Fr.refl h.yq ⟨fun _ => h3, fun z => absurd rfl z⟩
  · exact key
  intro m u hu ih S hS hy2 hV
  dsimp only [g26_l3]
  refine p_if (fun hc => ?_) (fun hc => ?_)
  · have : u = 21 := by omega
    subst this
    exact p_some ⟨hS, hV⟩
  refine g26_l13_w h ha hb hab (by omega) ?_ 100000 0 (Nat.zero_le _) (by omega) S hS hy2 hV
  intro S2 h2 hy2' hV2
  rw [ckI_t (by omega)]
  exact ih (by omega) S2 h2 hy2' hV2
end RC
