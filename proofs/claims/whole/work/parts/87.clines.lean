/-! the class's works: a school's lines, floor, cap -/
/-- nothing of the other schools is touched -/
def Nk (s : Int) (S S' : gM) : Prop := (∀ q, 35 ≤ q → q ≤ 40 → ∀ j : Int, ¬ j = s → gl S' q j = gl S q j) ∧ ∀ j : Int, (j < 30 * s ∨ 30 * s + 30 ≤ j) → gl S' 34 j = gl S 34 j
section NK
variable {S S' S'' : gM} {s : Int}
theorem Nk.refl : Nk s S S := ⟨fun _ _ _ _ _ => rfl, fun _ _ => rfl⟩
theorem Nk.trans (h : Nk s S S') (h2 : Nk s S' S'') : Nk s S S'' := ⟨fun q a b j hj => (h2.1 q a b j hj).trans (h.1 q a b j hj), fun j hj => (h2.2 j hj).trans (h.2 j hj)⟩
theorem Nk.wl (h : Nk s S S') {q : Nat} {k v : Int} (hq : (35 ≤ q ∧ k = s) ∨ (q = 34 ∧ 30 * s ≤ k ∧ k < 30 * s + 30) ∨ q < 34) : Nk s S (wl S' q k v) := by
  refine ⟨fun a b c j hj => ?_, fun j hj => ?_⟩
  · rw [gl_wl, if_neg (by rintro ⟨z1, z2⟩; omega)]; exact h.1 a b c j hj
  · rw [gl_wl, if_neg (by rintro ⟨z1, z2⟩; omega)]; exact h.2 j hj
theorem Nk.fr (h : Nk s S S') {W : List Nat} (hF : Fr W S' S'') (hw : W.all (fun x => decide (x < 34 ∨ 40 < x)) = true) : Nk s S S'' := by
  have key : ∀ q : Nat, 34 ≤ q → q ≤ 40 → ∀ j : Int, gl S'' q j = gl S' q j := fun q h1 h2 j => hF.l (by
    rw [show rg q j = q by unfold rg; rw [if_neg (by omega)]]
    cases hc : W.contains q with
    | false => rfl
    | true =>
      have := of_decide_eq_true (List.all_eq_true.mp hw _ (List.contains_iff_mem.mp hc))
      omega)
  exact ⟨fun q a b j hj => (key q (by omega) b j).trans (h.1 q a b j hj), fun j hj => (key 34 (by omega) (by omega) j).trans (h.2 j hj)⟩
end NK
section CL
theorem lns_stay (F : Nat → Int → Int) (f : Int) (W : Int → Int) (i : Nat) : ∀ j : Nat, i ≤ j → rk F f i = rk F f j → lns F f W j = lns F f W i ∧ bar F f W j = bar F f W i := by
  intro j
  induction j with
  | zero => intro h _; have : i = 0 := by omega
            rw [this]; exact ⟨rfl, rfl⟩
  | succ j ih =>
    intro h hr
    by_cases e : i = j + 1
    · rw [e]; exact ⟨rfl, rfl⟩
    · have m1 := rk_mono F f (i := i) (j := j) (by omega)
      rw [rk_s] at hr
      by_cases c : F 73 (30 * f + j) = 0
      · rw [if_pos c] at hr; omega
      · rw [if_neg c] at hr
        rw [lns_s, bar_s, if_neg c, if_neg c]
        exact ih (by omega) hr
theorem g67_l8_w {Q : gM → Prop} {K : gM → Option gM} (S0 : gM) {q : Nat} {f s : Int} (hL : LwF S0 q f) (hs : 0 ≤ s ∧ s < 12) {W : Int → Int} (hWr : ∀ i : Int, 0 ≤ i → i < 10 → -100000000 ≤ W i ∧ W i ≤ 100000000) (hW : ∀ i : Int, 0 ≤ i → i < 10 → gl S0 32 (wmp i) = W i)
    (hK : ∀ S, Fr [33, 34, 35] S0 S → Nk s S0 S → (∀ r : Int, 0 ≤ r → r < 30 → gl S 34 (30 * s + r) = lns (gi S0) f W (nsF (gi S0) f).toNat r) → gl S 35 s = bar (gi S0) f W (nsF (gi S0) f).toNat → Wp Q (K S)) :
    ∀ n k : Nat, k ≤ rk (gi S0) f (nsF (gi S0) f).toNat → rk (gi S0) f (nsF (gi S0) f).toNat - k < n → ∀ S, Fr [33, 34, 35] S0 S → Nk s S0 S → (∃ i : Nat, (i : Int) ≤ nsF (gi S0) f ∧ rk (gi S0) f i = k ∧ (∀ r : Int, 0 ≤ r → r < 30 → gl S 34 (30 * s + r) = lns (gi S0) f W i r) ∧ gl S 35 s = bar (gi S0) f W i) → Wp Q (g67_l8 q s (30 * s) K n k S) := by
  obtain ⟨⟨hS0, hn, ht, hp, hm1, hcd⟩, hF, hf⟩ := hL
  have hnr := hF.1
  have hrk := rk_le (gi S0) f (nsF (gi S0) f).toNat
  refine upto (rk (gi S0) f (nsF (gi S0) f).toNat) (fun n k => ∀ S, Fr [33, 34, 35] S0 S → Nk s S0 S → (∃ i : Nat, (i : Int) ≤ nsF (gi S0) f ∧ rk (gi S0) f i = k ∧ (∀ r : Int, 0 ≤ r → r < 30 → gl S 34 (30 * s + r) = lns (gi S0) f W i r) ∧ gl S 35 s = bar (gi S0) f W i) → Wp Q (g67_l8 q s (30 * s) K n k S)) ?_
  intro n k hk ih S hFr hN hI
  obtain ⟨i0, hi0, hr0, hL0, hB0⟩ := hI
  dsimp only [g67_l8]
  have sc : ∀ S, Fr [33, 34, 35] S0 S → Sc S0 S := fun S h => h.mono rfl
  have c4 : ∀ S, Fr [33, 34, 35] S0 S → gi S q 4 = gi S0 q 4 := fun S h => (sc S h).law hS0.2.2.2.2.2.2.2 0 (by omega) 4
  have c3 : ∀ S, Fr [33, 34, 35] S0 S → ∀ j, gi S (q + 3) j = gi S0 (q + 3) j := fun S h j => (sc S h).law hS0.2.2.2.2.2.2.2 3 (by omega) j
  have lS := fun S (h : Fr [33, 34, 35] S0 S) => hS0.sc (sc S h)
  rw [chk_t (lS S hFr).1, lt_t, c4 S hFr, hn.2]
  refine p_if (fun hc => ?_) (fun hc => ?_)
  · have e := lns_stay (gi S0) f W i0 (nsF (gi S0) f).toNat (by omega) (by omega)
    exact hK S hFr hN (fun r a b => by rw [e.1]; exact hL0 r a b) (by rw [e.2]; exact hB0)
  have ih := ih (by omega)
  obtain ⟨i, hi, h73, hri⟩ := pos_ex (gi S0) f k (nsF (gi S0) f).toNat (by omega)
  have e : lns (gi S0) f W i = lns (gi S0) f W i0 ∧ bar (gi S0) f W i = bar (gi S0) f W i0 := by
    by_cases hle : i0 ≤ i
    · exact lns_stay (gi S0) f W i0 i hle (by omega)
    · have := lns_stay (gi S0) f W i i0 (by omega) (by omega)
      exact ⟨this.1.symm, this.2.symm⟩
  have hL : ∀ r : Int, 0 ≤ r → r < 30 → gl S 34 (30 * s + r) = lns (gi S0) f W i r := fun r a b => by rw [e.1]; exact hL0 r a b
  have hB : gl S 35 s = bar (gi S0) f W i := by rw [e.2]; exact hB0
  have hst := hF.2 i (by omega)
  have h2 := hst.2.1 h73
  have hpi := hp i (by omega) h73
  rw [hri] at hpi
  have hlr := lns_rng hF hWr i (by omega)
  obtain ⟨v, e1, e2, -⟩ := h2.2.2.1 W (lns (gi S0) f W i) hWr (fun r _ _ => hlr.1 r)
  have lq3 : ∀ S, Fr [33, 34, 35] S0 S → gln S (q + 3) 0 = 2 * gi S0 q 4 + 1 := fun S h => by rw [(lS S h).2.2.2.2.1, c4 S h]
  have hC : ∀ (a : Int) (m : Nat), 1500 * f ≤ a → a - 1500 * f + m ≤ gln S0 (q + 4) 0 → ∀ S, Fr [33, 34, 35] S0 S → ∀ j : Nat, j < m → (0 ≤ gi S 78 (a + j) ∧ gi S 78 (a + j) ≤ 14) ∧ (0 ≤ gi S 79 (a + j) ∧ gi S 79 (a + j) ≤ 9999999) ∧ gi S (q + 4) (a - 1500 * f + j) = cst (gi S 78 (a + j)) (gi S 79 (a + j)) := fun a m h0 h1 S h j hj => by
    have := hcd (a + j - 1500 * f).toNat (by omega)
    rw [show (((a + j - 1500 * f).toNat : Nat) : Int) = a + j - 1500 * f by omega, show 1500 * f + (a + j - 1500 * f) = a + j by omega] at this
    rw [show gi S 78 (a + j) = gi S0 78 (a + j) from h.i rfl, show gi S 79 (a + j) = gi S0 79 (a + j) from h.i rfl, (sc S h).law hS0.2.2.2.2.2.2.2 4 (by omega), show a - 1500 * f + j = a + j - 1500 * f by omega]
    exact this
  -- the end of a step
  have fin : ∀ (S1 : gM) (x : Int), Fr [33, 34, 35] S0 S1 → Nk s S0 S1 → (∀ r : Int, 0 ≤ r → r < 30 → gl S1 34 (30 * s + r) = lns (gi S0) f W i r) → gl S1 35 s = bar (gi S0) f W i → x = lnV (gi S0) f W (lns (gi S0) f W i) i → (-100000000 ≤ x ∧ x ≤ 100000000) →
      Wp Q (g67_j120 K (g67_l8 q s (30 * s) K n) q s (30 * s) k (30 * s + k) x S1) := by
    intro S1 x a1 a2 a3 a4 a5 a6
    unfold g67_j120
    rw [chk_t (by omega), lt_t, chk_t (by omega), lt_t, ckI_t (by omega), chk_t (by omega), lt_t]
    have e85 : gl (wl S1 34 (30 * s + (k : Int)) x) 34 (30 * s + (k : Int)) = x := by rw [gl_wl]; exact if_pos ⟨rfl, rfl⟩
    have e89 : gl (wl S1 34 (30 * s + (k : Int)) x) 35 s = bar (gi S0) f W i := by rw [gl_wl, if_neg (by rintro ⟨z, -⟩; cases z)]; exact a4
    rw [e85, e89, ckJ_t (by omega), chk_t (by omega), lt_t, ckI_t (by omega)]
    refine ih (wl (wl S1 34 (30 * s + (k : Int)) x) 35 s (bar (gi S0) f W i + x)) ((a1.wl rfl).wl rfl) ((a2.wl (Or.inr (Or.inl ⟨rfl, by omega, by omega⟩))).wl (Or.inl ⟨by omega, rfl⟩)) ⟨i + 1, by omega, by rw [rk_s, if_pos h73, hri], fun r h1 h3 => ?_, ?_⟩
    · rw [gl_wl, if_neg (by rintro ⟨z, -⟩; cases z), gl_wl, lns_s, if_pos h73, hri]
      by_cases hr : r = k
      · rw [if_pos ⟨rfl, by omega⟩, if_pos hr, a5]
      · rw [if_neg (by omega), if_neg hr]; exact a3 r h1 h3
    · rw [gl_wl, if_pos ⟨rfl, rfl⟩, bar_s, if_pos h73, a5]
  have exq : ∀ S1 : gM, Fr [33, 34, 35] S0 S1 → Nk s S0 S1 → (∀ r : Int, 0 ≤ r → r < 30 → gl S1 34 (30 * s + r) = lns (gi S0) f W i r) → gl S1 35 s = bar (gi S0) f W i → (gi S0 76 (30 * f + i) = gi S0 77 (30 * f + i) ∨ evV W (lns (gi S0) f W i) (sgm (gi S0) (gi S0 77 (30 * f + i) - gi S0 76 (30 * f + i)).toNat (gi S0 76 (30 * f + i))) = 1) → Wp Q (g67_j72 K (g67_l8 q s (30 * s) K n) q s (30 * s) k (gi S0 76 (30 * f + i) - 1500 * f) S1) := by
    intro S1 a1 a2 a3 a4 hol
    unfold g67_j72 g67_j77
    rw [ckI_t (by omega), if_neg (by decide), chk_t (lS S1 a1).1, chk_t (lS S1 a1).2.1.2.2.1, ckI_t (by omega), lq3 S1 a1, chk_t (by omega), chk_t (by omega), lt_t, c3 S1 a1, hpi.2.1]
    have hrun := g17_w (S := S1) (lS S1 a1) (W := W) (L := lns (gi S0) f W i) (s := s) (a := gi S0 75 (30 * f + i)) (c := gi S0 75 (30 * f + i) - 1500 * f) (v := v) (k := (gi S0 76 (30 * f + i) - gi S0 75 (30 * f + i)).toNat) hs (fun j q1 q2 => (a1.l rfl).trans (hW j q1 q2)) a3 (by omega) (by rw [gln_c a1.1]; omega) (hC _ _ (by omega) (by omega) S1 a1) (by rw [sgm_fr a1 ⟨rfl, rfl⟩]; exact e1)
    rw [show gi S0 75 (30 * f + i) - 1500 * f + (((gi S0 76 (30 * f + i) - gi S0 75 (30 * f + i)).toNat : Nat) : Int) = gi S0 76 (30 * f + i) - 1500 * f by omega] at hrun
    refine p_use hrun (fun r hr => ?_)
    exact fin r.2 r.1 (a1.trans (hr.2.mono rfl)) (a2.fr hr.2 rfl) (fun q h1 h3 => by rw [hr.2.l rfl]; exact a3 q h1 h3) (by rw [hr.2.l rfl]; exact a4) (by unfold lnV; rw [ifp_t hol, evV_eq e1]; exact hr.1) (by rw [hr.1]; exact e2)
  rw [chk_t (lS S hFr).1, chk_t (lS S hFr).2.1.2.2.1, ckI_t (by omega), ckI_t (by omega), lq3 S hFr, chk_t (by omega), chk_t (by omega), lt_t, c3 S hFr, hpi.2.2.1,
    chk_t (lS S hFr).1, chk_t (lS S hFr).2.1.2.2.1, ckI_t (by omega), ckI_t (by omega), chk_t (by omega), chk_t (by omega), lt_t, c3 S hFr, hpi.2.2.2.1]
  refine p_if (fun hmt => exq S hFr hN hL hB (Or.inl (by omega))) (fun hmt => ?_)
  obtain ⟨cv, e3, e4, e5⟩ := h2.2.2.2 (by omega) W (lns (gi S0) f W i) hWr (fun r _ _ => hlr.1 r)
  have hrun := g17_w (S := S) (lS S hFr) (W := W) (L := lns (gi S0) f W i) (s := s) (a := gi S0 76 (30 * f + i)) (c := gi S0 76 (30 * f + i) - 1500 * f) (v := cv) (k := (gi S0 77 (30 * f + i) - gi S0 76 (30 * f + i)).toNat) hs (fun j q1 q2 => (hFr.l rfl).trans (hW j q1 q2)) hL (by omega) (by rw [gln_c hFr.1]; omega) (hC _ _ (by omega) (by omega) S hFr) (by rw [sgm_fr hFr ⟨rfl, rfl⟩]; exact e3)
  rw [show gi S0 76 (30 * f + i) - 1500 * f + (((gi S0 77 (30 * f + i) - gi S0 76 (30 * f + i)).toNat : Nat) : Int) = gi S0 77 (30 * f + i) - 1500 * f by omega] at hrun
  refine p_use hrun (fun r hr => ?_)
  have b1 : Fr [33, 34, 35] S0 r.2 := hFr.trans (hr.2.mono rfl)
  have b2 : Nk s S0 r.2 := hN.fr hr.2 rfl
  have b3 : ∀ q : Int, 0 ≤ q → q < 30 → gl r.2 34 (30 * s + q) = lns (gi S0) f W i q := fun q h1 h3 => by rw [hr.2.l rfl]; exact hL q h1 h3
  have b4 : gl r.2 35 s = bar (gi S0) f W i := by rw [hr.2.l rfl]; exact hB
  refine p_if (fun hno => ?_) (fun hyes => exq r.2 b1 b2 b3 b4 (Or.inr (by rw [evV_eq e3, ← hr.1]; rcases e5 rfl with z | z <;> omega)))
  unfold g67_j77
  rw [ckI_t (by omega), if_pos rfl]
  exact fin r.2 0 b1 b2 b3 b4 (by unfold lnV; rw [ifp_f (fun z => by rcases z with z | z; exact hmt (by omega); rw [evV_eq e3, ← hr.1] at z; omega)]) (by omega)
theorem g67_w {S0 : gM} {q : Nat} {f s : Int} (hL : LwF S0 q f) (hs : 0 ≤ s ∧ s < 12) {W : Int → Int} (hWr : ∀ i : Int, 0 ≤ i → i < 10 → -100000000 ≤ W i ∧ W i ≤ 100000000) (hW : ∀ i : Int, 0 ≤ i → i < 10 → gl S0 32 (wmp i) = W i) (h34 : ∀ r : Int, 0 ≤ r → r < 30 → gl S0 34 (30 * s + r) = 0) (h35 : gl S0 35 s = 0) :
    Wp (fun S => Fr [33, 34, 35, 39] S0 S ∧ Nk s S0 S ∧ (∀ r : Int, 0 ≤ r → r < 30 → gl S 34 (30 * s + r) = lns (gi S0) f W (nsF (gi S0) f).toNat r) ∧ gl S 35 s = bar (gi S0) f W (nsF (gi S0) f).toNat ∧ gl S 39 s = max 0 (if tls (gi S0) f 6 (-1) = -1 then W 5 else lns (gi S0) f W (nsF (gi S0) f).toNat (tls (gi S0) f 6 (-1)))) (g67 q s S0) := by
  unfold g67
  rw [ckI_t (by omega), show s * 30 = 30 * s by omega]
  have hS0 := hL.1.1
  refine g67_l8_w S0 hL hs hWr hW ?_ 100000 0 (Nat.zero_le _) (by have := rk_le (gi S0) f (nsF (gi S0) f).toNat; have := hL.2.1.1; omega) S0 Fr.refl Nk.refl ⟨0, hL.2.1.1.1, rfl, fun r a b => by rw [h34 r a b]; rfl, by rw [h35]; rfl⟩
  intro S hFr hN hl hb
  have sc : Sc S0 S := hFr.mono rfl
  have lS := hS0.sc sc
  have l6 : gln S (q + 1) 0 = 6 := lS.2.2.1
  have ht := (tls_rng hL.2.1 hL.2.2.1).2.2.2.2.2
  have hrk := rk_le (gi S0) f (nsF (gi S0) f).toNat
  have hnr := hL.2.1.1
  have e5 : gi S (q + 1) 5 = tls (gi S0) f 6 (-1) := (sc.law hS0.2.2.2.2.2.2.2 1 (by omega) 5).trans hL.1.2.2.1.2.2.2.2.2
  have e4 : gi S q 4 = rk (gi S0) f (nsF (gi S0) f).toNat := (sc.law hS0.2.2.2.2.2.2.2 0 (by omega) 4).trans hL.1.2.1.2
  rw [chk_t lS.1, chk_t lS.2.1.1, l6, chk_t (by omega), chk_t (by omega), lt_t, chk_t lS.1, lt_t, e5, e4]
  refine p_call (g102_eq _ _) ?_
  dsimp only
  have fin : ∀ x : Int, x = (if tls (gi S0) f 6 (-1) = -1 then W 5 else lns (gi S0) f W (nsF (gi S0) f).toNat (tls (gi S0) f 6 (-1))) → Wp (fun S => Fr [33, 34, 35, 39] S0 S ∧ Nk s S0 S ∧ (∀ r : Int, 0 ≤ r → r < 30 → gl S 34 (30 * s + r) = lns (gi S0) f W (nsF (gi S0) f).toNat r) ∧ gl S 35 s = bar (gi S0) f W (nsF (gi S0) f).toNat ∧ gl S 39 s = max 0 (if tls (gi S0) f 6 (-1) = -1 then W 5 else lns (gi S0) f W (nsF (gi S0) f).toNat (tls (gi S0) f 6 (-1)))) (g67_j191 s s x S) := fun x hx => by
    unfold g67_j191
    rw [chk_t (by omega), lt_t, chk_t (by omega), lt_t, lt_t, chk_t (by omega), lt_t]
    refine p_some ⟨((hFr.mono rfl).wl rfl).wl rfl, (hN.wl (Or.inl ⟨by omega, rfl⟩)).wl (Or.inl ⟨by omega, rfl⟩), fun r a b => ?_, ?_, ?_⟩
    · rw [gl_wl, if_neg (by rintro ⟨z, -⟩; cases z), gl_wl, if_neg (by rintro ⟨z, -⟩; cases z)]; exact hl r a b
    · rw [gl_wl, if_neg (by rintro ⟨z, -⟩; cases z), gl_wl, if_neg (by rintro ⟨z, -⟩; cases z)]; exact hb
    · rw [gl_wl, if_pos ⟨rfl, rfl⟩, gl_wl, if_pos ⟨rfl, rfl⟩, hx]
  refine p_if1 (fun hc => ?_) (fun hc => ?_)
  · rw [chk_t lS.1, chk_t lS.2.1.1, l6, chk_t (by omega), chk_t (by omega), lt_t, e5, ckI_t (by omega), chk_t (by omega), lt_t]
    exact fin _ (by rw [hl _ (by omega) (by omega), if_neg (by omega)])
  · rw [lt_t]
    have := hW 5 (by omega) (by omega)
    rw [show wmp 5 = 3 from by decide] at this
    exact fin _ (by rw [show gl S 32 3 = gl S0 32 3 from hFr.l rfl, this, if_pos (by omega)])
end CL
