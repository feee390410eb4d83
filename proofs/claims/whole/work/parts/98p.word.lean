/-! the parser: the reference's blanks, words, signs, numbers -/
/-- what the reference reads -/
def px_RS (T : gM) (r : Int → Int) (n : Int) : Prop := gi T 84 = r ∧ gi T 55 20 = n
def px_B (c r : Int → Int) (n : Int) : Prop := (0 ≤ n ∧ n ≤ 700) ∧ ∀ i, 0 ≤ i → i < n → (0 ≤ c i ∧ c i ≤ 255) ∧ ((c i ≤ 127 ∧ r i = c i) ∨ (127 < c i ∧ (r i < 0 ∧ -128 ≤ r i)))
section PW
variable {T T' T0 : gM} {c r : Int → Int} {n : Int}
theorem px_RS.fr {W : List Nat} (h : px_RS T r n) (hF : Fr W T T') (hw : W.contains 84 = false ∧ W.contains 1000055020 = false) : px_RS T' r n := by
  refine ⟨?_, ?_⟩
  · rw [show gi T' 84 = gi T 84 from funext fun k => hF.i hw.1]; exact h.1
  · rw [show gi T' 55 20 = gi T 55 20 from hF.i hw.2]; exact h.2
theorem px_136_w (hT : px_RS T0 r n) (hB : px_B c r n) {p : Int} (h0 : 0 ≤ gi T0 55 21) (hp : px_R px_bl c n (gi T0 55 21) p) : Wp (fun T => gi T 55 21 = p ∧ Fr [1000055021] T0 T) (g136 T0) := by
  unfold g136
  have hn := hB.1
  have hp1 := hp.1
  refine upto (p - gi T0 55 21).toNat (fun m j => ∀ T : gM, Fr [1000055021] T0 T → gi T 55 21 = gi T0 55 21 + j → Wp (fun T => gi T 55 21 = p ∧ Fr [1000055021] T0 T) (g136_l0 m T)) ?_ 100000 0 (Nat.zero_le _) (by omega) T0 Fr.refl (by omega)
  intro m j hj ih T hF ha
  dsimp only [g136_l0]
  have C := hT.fr hF ⟨rfl, rfl⟩
  have e20 := C.2
  have e84 := C.1
  refine p_lt (p_lt ?_)
  refine p_if (fun h1 => p_some ⟨by omega, hF⟩) (fun h1 => ?_)
  refine p_lt (p_chk (by omega) (p_lt ?_))
  rw [e84]
  have hb := hB.2 (gi T 55 21) (by omega) (by omega)
  have go : px_bl (r (gi T 55 21)) → Wp (fun T => gi T 55 21 = p ∧ Fr [1000055021] T0 T) (w_lt (gi T 55 21) fun V8 => w_ckI (V8 + 1) fun V9 => w_lt (wi T 55 21 V9) fun S10 => g136_l0 m S10) := by
    intro z
    have hlt : gi T 55 21 < p := by
      rcases Int.lt_or_le (gi T 55 21) p with q | q
      · exact q
      · have e : gi T 55 21 = p := by omega
        refine absurd ?_ (hp.2.2 (by omega))
        rw [← e]
        unfold px_bl at z ⊢
        omega
    repeat (first | (with_reducible refine p_chk ?_ ?_; (· (first | assumption | omega | (simp only [gi_wi, gl_wl, gl_wi, gi_wl, gi_wcl, gl_wcl, Nat.reduceEqDiff, Int.reduceEq, false_and, true_and, and_true, and_false, if_false, if_true]; omega)))) | with_reducible refine p_lt ?_ | (with_reducible refine p_ckI ?_ ?_; (· (first | omega | (simp only [gi_wi, gl_wl, gl_wi, gi_wl, gi_wcl, gl_wcl, Nat.reduceEqDiff, Int.reduceEq, false_and, true_and, and_true, and_false, if_false, if_true]; omega)))) | (with_reducible refine p_ckJ ?_ ?_; (· (first | omega | (simp only [gi_wi, gl_wl, gl_wi, gi_wl, gi_wcl, gl_wcl, Nat.reduceEqDiff, Int.reduceEq, false_and, true_and, and_true, and_false, if_false, if_true]; omega)))))
    exact ih (by omega) (wi T 55 21 (gi T 55 21 + 1)) (hF.wi rfl) (by simp only [gi_wi, gl_wl, gl_wi, gi_wl, gi_wcl, gl_wcl, Nat.reduceEqDiff, Int.reduceEq, false_and, true_and, and_true, and_false, if_false, if_true]; omega)
  have stop : ¬ px_bl (r (gi T 55 21)) → gi T 55 21 = p := by
    intro z
    rcases Int.lt_or_le (gi T 55 21) p with q | q
    · have := hp.2.1 (gi T 55 21) (by omega) q
      unfold px_bl at this z
      omega
    · omega
  refine p_if (fun h2 => go (Or.inl h2)) (fun h2 => ?_)
  refine p_lt (p_chk (by omega) (p_lt ?_))
  refine p_if (fun h3 => p_some ⟨stop (fun z => z.elim h2 h3), hF⟩) (fun h3 => go (Or.inr (Classical.not_not.mp h3)))
/-- a word's number while it is read -/
def px_W (c : Int → Int) (p : Int) (k : Nat) : Int := if k ≤ 8 then px_v c p k else 0
theorem px_l14_w {Q : Int × gM → Prop} (hT : px_RS T0 r n) (hB : px_B c r n) {K : Int → gM → Option (Int × gM)} {p e : Int} (h0 : 0 ≤ p) (hp : px_R px_le c n p e) (ha : gi T0 55 21 = p) (hK : ∀ T, Fr [1000055042] T0 T → gi T 55 42 = e → Wp Q (K (px_W c p (e - p).toNat) T)) (T : gM) (hF : Fr [1000055042] T0 T) (h42 : gi T 55 42 = p) : Wp Q (g137_l14 K 100000 0 T) := by
  have hn := hB.1
  have hp1 := hp.1
  refine upto (e - p).toNat (fun m j => ∀ T : gM, Fr [1000055042] T0 T → gi T 55 42 = p + j → Wp Q (g137_l14 K m (px_W c p j) T)) ?_ 100000 0 (Nat.zero_le _) (by omega) T hF (by omega)
  intro m j hj ih T hF hz
  dsimp only [g137_l14]
  have C := hT.fr hF ⟨rfl, rfl⟩
  have e20 := C.2
  have e84 := C.1
  have e21 : gi T 55 21 = p := (hF.i rfl).trans ha
  have out : (j : Int) = e - p → Wp Q (K (px_W c p j) T) := fun z => by
    have := hK T hF (by omega)
    rw [show (e - p).toNat = j by omega] at this
    exact this
  refine p_lt (p_lt ?_)
  refine p_if (fun h1 => out (by omega)) (fun h1 => ?_)
  refine p_lt (p_chk (by omega) (p_lt ?_))
  rw [e84]
  have hb := hB.2 (gi T 55 42) (by omega) (by omega)
  have stop : ¬ px_le (r (gi T 55 42)) → (j : Int) = e - p := by
    intro z
    rcases Int.lt_or_le (gi T 55 42) e with q | q
    · have := hp.2.1 (gi T 55 42) (by omega) q
      unfold px_le at this z
      omega
    · omega
  refine p_if (fun h2 => out (stop (fun z => by unfold px_le at z; omega))) (fun h2 => ?_)
  refine p_lt (p_chk (by omega) (p_lt ?_))
  refine p_if (fun h3 => out (stop (fun z => by unfold px_le at z; omega))) (fun h3 => ?_)
  have hlt : gi T 55 42 < e := by
    rcases Int.lt_or_le (gi T 55 42) e with q | q
    · exact q
    · have e1 : gi T 55 42 = e := by omega
      refine absurd ?_ (hp.2.2 (by omega))
      rw [← e1]
      unfold px_le
      omega
  have le : ∀ i : Nat, i < j → px_le (c (p + i)) := fun i hi => hp.2.1 _ (by omega) (by omega)
  refine p_lt (p_lt (p_ckI (by omega) ?_))
  refine p_if (fun h4 => ?_) (fun h4 => ?_)
  · unfold g137_j86
    repeat (first | (with_reducible refine p_chk ?_ ?_; (· (first | assumption | omega | (simp only [gi_wi, gl_wl, gl_wi, gi_wl, gi_wcl, gl_wcl, Nat.reduceEqDiff, Int.reduceEq, false_and, true_and, and_true, and_false, if_false, if_true]; omega)))) | with_reducible refine p_lt ?_ | (with_reducible refine p_ckI ?_ ?_; (· (first | omega | (simp only [gi_wi, gl_wl, gl_wi, gi_wl, gi_wcl, gl_wcl, Nat.reduceEqDiff, Int.reduceEq, false_and, true_and, and_true, and_false, if_false, if_true]; omega)))) | (with_reducible refine p_ckJ ?_ ?_; (· (first | omega | (simp only [gi_wi, gl_wl, gl_wi, gi_wl, gi_wcl, gl_wcl, Nat.reduceEqDiff, Int.reduceEq, false_and, true_and, and_true, and_false, if_false, if_true]; omega)))))
    have := ih (by omega) (wi T 55 42 (gi T 55 42 + 1)) (hF.wi rfl) (by simp only [gi_wi, gl_wl, gl_wi, gi_wl, gi_wcl, gl_wcl, Nat.reduceEqDiff, Int.reduceEq, false_and, true_and, and_true, and_false, if_false, if_true]; omega)
    rw [show px_W c p (j + 1) = 0 from if_neg (by omega)] at this
    exact this
  · have w8 := px_w8 (c := c) (p := p) (k := j) (by omega) le
    have eW : px_W c p j = px_v c p j := if_pos (by omega)
    have hr : r (gi T 55 42) = c (gi T 55 42) := by omega
    refine p_lt (p_lt (p_chk (by omega) (p_lt (p_lt ?_))))
    rw [eW, hr, px_or ⟨w8.2.1.1, w8.2.1.2 (by omega)⟩ ⟨by omega, by omega⟩]
    unfold g137_j86
    repeat (first | (with_reducible refine p_chk ?_ ?_; (· (first | assumption | omega | (simp only [gi_wi, gl_wl, gl_wi, gi_wl, gi_wcl, gl_wcl, Nat.reduceEqDiff, Int.reduceEq, false_and, true_and, and_true, and_false, if_false, if_true]; omega)))) | with_reducible refine p_lt ?_ | (with_reducible refine p_ckI ?_ ?_; (· (first | omega | (simp only [gi_wi, gl_wl, gl_wi, gi_wl, gi_wcl, gl_wcl, Nat.reduceEqDiff, Int.reduceEq, false_and, true_and, and_true, and_false, if_false, if_true]; omega)))) | (with_reducible refine p_ckJ ?_ ?_; (· (first | omega | (simp only [gi_wi, gl_wl, gl_wi, gi_wl, gi_wcl, gl_wcl, Nat.reduceEqDiff, Int.reduceEq, false_and, true_and, and_true, and_false, if_false, if_true]; omega)))))
    have := ih (by omega) (wi T 55 42 (gi T 55 42 + 1)) (hF.wi rfl) (by simp only [gi_wi, gl_wl, gl_wi, gi_wl, gi_wcl, gl_wcl, Nat.reduceEqDiff, Int.reduceEq, false_and, true_and, and_true, and_false, if_false, if_true]; omega)
    rw [show px_W c p (j + 1) = px_v c p (j + 1) from if_pos (by omega), px_v_s, ← hz] at this
    exact this
theorem px_137_w (hT : px_RS T r n) (hB : px_B c r n) {p e : Int} (h0 : 0 ≤ gi T 55 21) (hp : px_R px_bl c n (gi T 55 21) p) (he : px_R px_le c n p e) : Wp (fun x => x.1 = px_W c p (e - p).toNat ∧ gi x.2 55 21 = p ∧ gi x.2 55 42 = e ∧ Fr [1000055021, 1000055042] T x.2) (g137 T) := by
  unfold g137
  have hp1 := hp.1
  have he1 := he.1
  have hn := hB.1
  refine p_bind (p_imp (px_136_w hT hB h0 hp) (fun T1 h1 => ?_))
  have F1 : Fr [1000055021, 1000055042] T T1 := h1.2.mono rfl
  refine p_lt (p_lt ?_)
  have F2 : Fr [1000055021, 1000055042] T (wi T1 55 42 (gi T1 55 21)) := F1.wi rfl
  have a2 : gi (wi T1 55 42 (gi T1 55 21)) 55 21 = p := by simp only [gi_wi, gl_wl, gl_wi, gi_wl, gi_wcl, gl_wcl, Nat.reduceEqDiff, Int.reduceEq, false_and, true_and, and_true, and_false, if_false, if_true]; exact h1.1
  have b2 : gi (wi T1 55 42 (gi T1 55 21)) 55 42 = p := by simp only [gi_wi, gl_wl, gl_wi, gi_wl, gi_wcl, gl_wcl, Nat.reduceEqDiff, Int.reduceEq, false_and, true_and, and_true, and_false, if_false, if_true]; exact h1.1
  generalize wi T1 55 42 (gi T1 55 21) = T2 at *
  refine px_l14_w (hT.fr F2 ⟨rfl, rfl⟩) hB (by omega) he a2 (fun T3 hF h42 => ?_) T2 Fr.refl b2
  have a3 : gi T3 55 21 = p := (hF.i rfl).trans a2
  unfold g137_j100
  refine p_lt (p_lt (p_ckI (by omega) ?_))
  refine p_if (fun h3 => ?_) (fun h3 => ?_)
  · exact p_some ⟨rfl, a3, h42, F2.trans (hF.mono rfl)⟩
  · exact p_some ⟨(if_neg (by omega)).symm, a3, h42, F2.trans (hF.mono rfl)⟩
theorem px_l14d_w {Q : Int × gM → Prop} (hT : px_RS T0 r n) (hB : px_B c r n) {h : Int} {K : Int → gM → Option (Int × gM)} {p e : Int} (h0 : 0 ≤ p) (hp : px_R px_di c n p e) (ha : gi T0 55 21 = p) (hK : ∀ T, Fr [1000055043] T0 T → (e - p ≤ 7 → gi T 55 43 = px_t c p (e - p).toNat) → Wp Q (K e T)) (T : gM) (hF : Fr [1000055043] T0 T) (h43 : gi T 55 43 = 0) : Wp Q (g140_l14 h K 100000 p T) := by
  have hn := hB.1
  have hp1 := hp.1
  have base := upto (e - p).toNat (fun m j => ∀ T : gM, Fr [1000055043] T0 T → (j ≤ 7 → gi T 55 43 = px_t c p j) → Wp Q (g140_l14 h K m (p + j) T)) ?_ 100000 0 (Nat.zero_le _) (by omega) T hF (fun _ => h43)
  · rw [show p + ((0 : Nat) : Int) = p by omega] at base
    exact base
  intro m j hj ih T hF hz
  dsimp only [g140_l14]
  have C := hT.fr hF ⟨rfl, rfl⟩
  have e20 := C.2
  have e84 := C.1
  have e21 : gi T 55 21 = p := (hF.i rfl).trans ha
  have out : (j : Int) = e - p → Wp Q (K (p + j) T) := fun z => by
    have := hK T hF (fun w => by rw [hz (by omega)]; congr 1; omega)
    rw [show e = p + j by omega] at this
    exact this
  refine p_lt ?_
  refine p_if (fun h1 => out (by omega)) (fun h1 => ?_)
  refine p_chk (by omega) (p_lt ?_)
  rw [e84]
  have hb := hB.2 (p + j) (by omega) (by omega)
  have stop : ¬ px_di (r (p + j)) → (j : Int) = e - p := by
    intro z
    rcases Int.lt_or_le (p + j) e with q | q
    · have := hp.2.1 (p + j) (by omega) q
      unfold px_di at this z
      omega
    · omega
  refine p_if (fun h2 => out (stop (fun z => by unfold px_di at z; omega))) (fun h2 => ?_)
  refine p_chk (by omega) (p_lt ?_)
  refine p_if (fun h3 => out (stop (fun z => by unfold px_di at z; omega))) (fun h3 => ?_)
  have hlt : p + j < e := by
    rcases Int.lt_or_le (p + j) e with q | q
    · exact q
    · have e1 : p + j = e := by omega
      refine absurd ?_ (hp.2.2 (by omega))
      rw [← e1]
      unfold px_di
      omega
  have di : ∀ i : Nat, i < j → px_di (c (p + i)) := fun i hi => hp.2.1 _ (by omega) (by omega)
  have ec : p + (j : Int) + 1 = p + ((j + 1 : Nat) : Int) := by omega
  refine p_lt (p_ckI (by omega) ?_)
  refine p_if (fun h4 => ?_) (fun h4 => ?_)
  · refine p_ckI (by omega) ?_
    rw [ec]
    exact ih (by omega) T hF (fun z => by omega)
  · have hz := hz (by omega)
    have t7 := px_t7 (c := c) (p := p) (k := j) (by omega) di
    rw [← hz] at t7
    have hr : r (p + j) = c (p + j) := by omega
    refine p_lt (p_ckI (by omega) (p_chk (by omega) (p_lt ?_)))
    rw [hr]
    refine p_ckI (by omega) (p_ckI (by omega) (p_lt (p_ckI (by omega) ?_)))
    rw [ec]
    refine ih (by omega) (wi T 55 43 (10 * gi T 55 43 + c (p + j) - 48)) (hF.wi rfl) (fun _ => ?_)
    simp only [gi_wi, gl_wl, gl_wi, gi_wl, gi_wcl, gl_wcl, Nat.reduceEqDiff, Int.reduceEq, false_and, true_and, and_true, and_false, if_false, if_true]
    rw [px_t_s, ← hz]
    omega
theorem px_140_w (hT : px_RS T r n) (hB : px_B c r n) (h : Int) {p e : Int} (h0 : 0 ≤ gi T 55 21) (hp : px_R px_bl c n (gi T 55 21) p) (he : px_R px_di c n p e) : Wp (fun x => Fr [1000055021, 1000055043] T x.2 ∧ ((p < e ∧ e - p ≤ 7 ∧ px_t c p (e - p).toNat ≤ h) → x.1 = 1 ∧ gi x.2 55 21 = e ∧ gi x.2 55 43 = px_t c p (e - p).toNat) ∧ (¬ (p < e ∧ e - p ≤ 7 ∧ px_t c p (e - p).toNat ≤ h) → x.1 = 0 ∧ gi x.2 55 21 = p)) (g140 h T) := by
  unfold g140
  have hp1 := hp.1
  have he1 := he.1
  have hn := hB.1
  refine p_bind (p_imp (px_136_w hT hB h0 hp) (fun T1 h1 => ?_))
  have F1 : Fr [1000055021, 1000055043] T T1 := h1.2.mono rfl
  refine p_lt (p_lt ?_)
  have F2 : Fr [1000055021, 1000055043] T (wi T1 55 43 0) := F1.wi rfl
  have a2 : gi (wi T1 55 43 0) 55 21 = p := by simp only [gi_wi, gl_wl, gl_wi, gi_wl, gi_wcl, gl_wcl, Nat.reduceEqDiff, Int.reduceEq, false_and, true_and, and_true, and_false, if_false, if_true]; exact h1.1
  have b2 : gi (wi T1 55 43 0) 55 43 = 0 := by simp only [gi_wi, gl_wl, gl_wi, gi_wl, gi_wcl, gl_wcl, Nat.reduceEqDiff, Int.reduceEq, false_and, true_and, and_true, and_false, if_false, if_true]
  rw [h1.1]
  generalize wi T1 55 43 0 = T2 at *
  refine px_l14d_w (hT.fr F2 ⟨rfl, rfl⟩) hB (by omega) he a2 (fun T3 hF h43 => ?_) T2 Fr.refl b2
  have a3 : gi T3 55 21 = p := (hF.i rfl).trans a2
  have F3 : Fr [1000055021, 1000055043] T T3 := F2.trans (hF.mono rfl)
  unfold g140_j82
  refine p_lt ?_
  refine p_if (fun h3 => ?_) (fun h3 => ?_)
  · exact p_some ⟨F3, fun z => by omega, fun _ => ⟨rfl, a3⟩⟩
  · refine p_lt (p_ckI (by omega) ?_)
    refine p_if (fun h4 => ?_) (fun h4 => ?_)
    · exact p_some ⟨F3, fun z => by omega, fun _ => ⟨rfl, a3⟩⟩
    · have h43 := h43 (by omega)
      refine p_lt ?_
      refine p_if (fun h5 => ?_) (fun h5 => ?_)
      · refine p_lt (p_some ⟨F3.wi rfl, fun _ => ⟨rfl, ?_, ?_⟩, fun z => absurd ⟨by omega, by omega, by omega⟩ z⟩)
        · simp only [gi_wi, gl_wl, gl_wi, gi_wl, gi_wcl, gl_wcl, Nat.reduceEqDiff, Int.reduceEq, false_and, true_and, and_true, and_false, if_false, if_true]
        · simp only [gi_wi, gl_wl, gl_wi, gi_wl, gi_wcl, gl_wcl, Nat.reduceEqDiff, Int.reduceEq, false_and, true_and, and_true, and_false, if_false, if_true]; exact h43
      · exact p_some ⟨F3, fun z => by omega, fun _ => ⟨rfl, a3⟩⟩
theorem px_139_w (hT : px_RS T r n) (hB : px_B c r n) {b p : Int} (hb : px_sg b) (h0 : 0 ≤ gi T 55 21) (hp : px_R px_bl c n (gi T 55 21) p) : Wp (fun x => Fr [1000055021] T x.2 ∧ ((p < n ∧ c p = b) → x.1 = 1 ∧ gi x.2 55 21 = p + 1) ∧ (¬ (p < n ∧ c p = b) → x.1 = 0 ∧ gi x.2 55 21 = p)) (g139 b T) := by
  unfold g139
  have hp1 := hp.1
  have hn := hB.1
  have hb2 : 0 ≤ b ∧ b ≤ 127 := by unfold px_sg at hb; omega
  refine p_bind (p_imp (px_136_w hT hB h0 hp) (fun T1 h1 => ?_))
  have C := hT.fr h1.2 ⟨rfl, rfl⟩
  have e20 := C.2
  have e84 := C.1
  have e21 := h1.1
  refine p_lt (p_lt ?_)
  refine p_if (fun h2 => p_some ⟨h1.2, fun z => by omega, fun _ => ⟨rfl, h1.1⟩⟩) (fun h2 => ?_)
  refine p_lt (p_chk (by omega) (p_lt ?_))
  rw [e84, e21]
  have hby := hB.2 p (by omega) (by omega)
  refine p_if (fun h3 => ?_) (fun h3 => ?_)
  · refine p_lt (p_ckI (by omega) (p_lt (p_some ⟨h1.2.wi rfl, fun _ => ⟨rfl, ?_⟩, fun z => absurd ⟨by omega, by omega⟩ z⟩)))
    simp only [gi_wi, gl_wl, gl_wi, gi_wl, gi_wcl, gl_wcl, Nat.reduceEqDiff, Int.reduceEq, false_and, true_and, and_true, and_false, if_false, if_true]
  · exact p_some ⟨h1.2, fun z => by omega, fun _ => ⟨rfl, h1.1⟩⟩
end PW
