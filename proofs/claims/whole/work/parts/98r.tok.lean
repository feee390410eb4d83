/-! the parser: signs, words, numbers, steps, faults side by side -/
section TO
variable {S S' T T' : gM} {c r : Int → Int} {n p q f : Int} {cd : List (Int × Int)}
/-- what g45 .. g50 and g146 .. g151 leave behind -/
def px_PO (c r : Int → Int) (n : Int) (S T : gM) (p : Int) (cd : List (Int × Int)) (o : Int) (g : Bool) (d : Nat) (S' : gM) (x : Int × gM) : Prop :=
  Fr px_cw S S' ∧ px_F px_rw T x.2 ∧ ((x.1 = 1 ∧ ∃ p' xs, px_ST c r n S' x.2 p' (cd ++ xs) ∧ gi x.2 55 22 = o ∧ px_PG xs g d ∧ p + xs.length ≤ p') ∨ (x.1 = 0 ∧ px_BD S' (gi x.2 55 21)))
def px_LK (c r : Int → Int) (n : Int) (o : Int) (g : Bool) (d : Nat) (fc : gM → Option gM) (fr : gM → Option (Int × gM)) : Prop := ∀ S T p cd, px_ST c r n S T p cd → gi T 55 22 = o → W2 (px_PO c r n S T p cd o g d) (fc S) (fr T)
/-- with a fault behind it the class goes on and does nothing more -/
def px_FL (fc : gM → Option gM) : Prop := ∀ S f, px_BD S f → Wp (fun S' => px_BD S' f ∧ Fr px_cw S S') (fc S)
theorem px_sgn (hB : px_B c r n) (h : px_ST c r n S T p cd) {b : Int} (hb : px_sg b) : Wp (fun x => Fr [1000055021] T x.2 ∧ (gi S 16 13 = b → x.1 = 1 ∧ px_AD c r n S x.2 (gi S 16 11) cd ∧ p + 1 ≤ gi S 16 11) ∧ (¬ gi S 16 13 = b → x.1 = 0 ∧ px_ST c r n S x.2 p cd ∧ gi x.2 55 21 = p)) (g139 b T) := by
  have hk := h.2.1.sign hb
  refine p_imp (px_139_w h.1.1.2 hB hb h.2.2.1.1 h.2.2.1.2) (fun x hx => ?_)
  have F : Fr [1000055021, 1000055022, 1000055042, 1000055043] T x.2 := hx.1.mono rfl
  refine ⟨hx.1, fun z => ?_, fun z => ?_⟩
  · have a := hk.2 z
    have b1 := hx.2.1 (hk.1.mp z)
    exact ⟨b1.1, h.ad F (b1.2.trans a.1.symm) (by omega), by omega⟩
  · have b1 := hx.2.2 (fun w => z (hk.1.mpr w))
    exact ⟨b1.1, h.to F b1.2, b1.2⟩
theorem px_wrd (hB : px_B c r n) (h : px_ST c r n S T p cd) : Wp (fun x => Fr [1000055021, 1000055042] T x.2 ∧ px_WD S x.1 ∧ (px_ST c r n S x.2 p cd ∧ gi x.2 55 21 = p) ∧ ((256 ≤ gi S 16 13 ∧ gi S 16 13 ≤ 280) → gi x.2 55 42 = gi S 16 11 ∧ (p + 1 ≤ gi S 16 11 ∧ gi S 16 11 ≤ n))) (g137 T) := by
  obtain ⟨e, e1, e2, e3⟩ := h.2.1.word
  refine p_imp (px_137_w h.1.1.2 hB h.2.2.1.1 h.2.2.1.2 e1) (fun x hx => ?_)
  have F : Fr [1000055021, 1000055022, 1000055042, 1000055043] T x.2 := hx.2.2.2.mono rfl
  refine ⟨hx.2.2.2, by rw [hx.1]; exact e2, ⟨h.to F hx.2.1, hx.2.1⟩, fun z => ?_⟩
  have a := e3 z
  have b := e1.1
  exact ⟨by rw [hx.2.2.1, a.1], by omega⟩
theorem px_tak (hB : px_B c r n) (h : px_ST c r n S T p cd) {b w : Int} (hb : 0 ≤ b ∧ b < 23) (hw : w = px_vk b) : Wp (fun x => Fr [1000055021, 1000055042] T x.2 ∧ (gi S 16 13 = 256 + b → x.1 = 1 ∧ px_AD c r n S x.2 (gi S 16 11) cd ∧ p + 1 ≤ gi S 16 11) ∧ (¬ gi S 16 13 = 256 + b → x.1 = 0 ∧ px_ST c r n S x.2 p cd ∧ gi x.2 55 21 = p)) (g138 w T) := by
  unfold g138
  refine p_bind (p_imp (px_wrd hB h) (fun x hx => ?_))
  rw [hw]
  refine p_if (fun h1 => ?_) (fun h1 => ?_)
  · have z := (hx.2.1.key hb).mp h1
    have a := hx.2.2.2 (by omega)
    refine p_lt (p_lt (p_some ⟨hx.1.wi rfl, fun _ => ⟨rfl, ?_, a.2.1⟩, fun w => absurd z w⟩))
    refine hx.2.2.1.1.ad (Fr.refl.wi rfl) ?_ (by omega)
    simp only [gi_wi, gl_wl, gl_wi, gi_wl, gi_wcl, gl_wcl, Nat.reduceEqDiff, Int.reduceEq, false_and, true_and, and_true, and_false, if_false, if_true]
    exact a.1
  · have z := mt (hx.2.1.key hb).mpr h1
    exact p_some ⟨hx.1, fun w => absurd w z, fun _ => ⟨rfl, hx.2.2.1.1, hx.2.2.1.2⟩⟩
theorem px_nmb (hB : px_B c r n) (h : px_ST c r n S T p cd) (m : Int) : Wp (fun x => Fr [1000055021, 1000055043] T x.2 ∧ ((gi S 16 13 = 281 ∧ gi S 16 14 ≤ m) → x.1 = 1 ∧ gi x.2 55 43 = gi S 16 14 ∧ (0 ≤ gi S 16 14 ∧ gi S 16 14 ≤ 9999999) ∧ px_AD c r n S x.2 (gi S 16 11) cd ∧ p + 1 ≤ gi S 16 11) ∧ (¬ (gi S 16 13 = 281 ∧ gi S 16 14 ≤ m) → x.1 = 0 ∧ px_ST c r n S x.2 p cd ∧ gi x.2 55 21 = p)) (g140 m T) := by
  obtain ⟨e, e1, e2, e3⟩ := h.2.1.num
  refine p_imp (px_140_w h.1.1.2 hB m h.2.2.1.1 h.2.2.1.2 e1) (fun x hx => ?_)
  have F : Fr [1000055021, 1000055022, 1000055042, 1000055043] T x.2 := hx.1.mono rfl
  have b := e1.1
  refine ⟨hx.1, fun z => ?_, fun z => ?_⟩
  · have a := e2 z.1
    have k := hx.2.1 ⟨a.2.1.1, a.2.1.2, by rw [← a.2.2.1]; exact z.2⟩
    exact ⟨k.1, by rw [k.2.2, a.2.2.1], a.2.2.2, h.ad F (k.2.1.trans a.1.symm) (by omega), by omega⟩
  · have k := hx.2.2 (fun w => z ⟨e3 ⟨w.1, w.2.1⟩, by rw [(e2 (e3 ⟨w.1, w.2.1⟩)).2.2.1]; exact w.2.2⟩)
    exact ⟨k.1, h.to F k.2, k.2⟩
/-- the class finds a fault where it stands -/
theorem px_32_w (h : px_ST c r n S T p cd) : Wp (fun S' => px_BD S' p ∧ Fr px_cw S S') (g32 S) := by
  unfold g32
  have h0 := h.1.2.1
  have h1 := h.2.1
  have h2 := h.1.2.2.1.1
  have h3 := h.2.2.2
  have hn := h.1.1.1.1
  refine p_lt ?_
  refine p_if (fun z => absurd h0 z) (fun _ => ?_)
  refine p_lt (p_lt (p_lt (p_some ⟨⟨?_, ?_, by have := h1.2.1; omega, ?_⟩, (Fr.refl.wi rfl).wi rfl⟩)))
  · simp only [gi_wi, gl_wl, gl_wi, gi_wl, gi_wcl, gl_wcl, Nat.reduceEqDiff, Int.reduceEq, false_and, true_and, and_true, and_false, if_false, if_true]
  · simp only [gi_wi, gl_wl, gl_wi, gi_wl, gi_wcl, gl_wcl, Nat.reduceEqDiff, Int.reduceEq, false_and, true_and, and_true, and_false, if_false, if_true]; exact h1.1
  · simp only [gi_wi, gl_wl, gl_wi, gi_wl, gi_wcl, gl_wcl, Nat.reduceEqDiff, Int.reduceEq, false_and, true_and, and_true, and_false, if_false, if_true]; have := h1.2.1; omega
theorem px_32_b (h : px_BD S f) : Wp (fun S' => px_BD S' f ∧ Fr px_cw S S') (g32 S) := by
  unfold g32
  obtain ⟨h1, h2, h3, h4⟩ := h
  refine p_lt ?_
  refine p_if (fun _ => ?_) (fun z => absurd (fun w => by omega) z)
  refine p_lt (p_some ⟨⟨?_, ?_, h3, ?_⟩, Fr.refl.wi rfl⟩)
  · simp only [gi_wi, gl_wl, gl_wi, gi_wl, gi_wcl, gl_wcl, Nat.reduceEqDiff, Int.reduceEq, false_and, true_and, and_true, and_false, if_false, if_true]
  · simp only [gi_wi, gl_wl, gl_wi, gi_wl, gi_wcl, gl_wcl, Nat.reduceEqDiff, Int.reduceEq, false_and, true_and, and_true, and_false, if_false, if_true]; exact h2
  · simp only [gi_wi, gl_wl, gl_wi, gi_wl, gi_wcl, gl_wcl, Nat.reduceEqDiff, Int.reduceEq, false_and, true_and, and_true, and_false, if_false, if_true]; exact h4
theorem px_33_b (h : px_BD S f) : Wp (fun S' => px_BD S' f ∧ Fr px_cw S S') (g33 S) := by
  unfold g33
  obtain ⟨h1, h2, h3, h4⟩ := h
  refine p_lt ?_
  refine p_if (fun z => absurd h1 z) (fun _ => ?_)
  refine p_lt ?_
  refine p_if (fun z => by omega) (fun _ => ?_)
  exact p_some ⟨⟨h1, h2, h3, h4⟩, Fr.refl⟩
theorem px_37_b (h : px_BD S f) {b : Int} (hb : px_sg b) : Wp (fun S' => px_BD S' f ∧ Fr px_cw S S') (g37 b S) := by
  unfold g37
  have h1 := h.1
  unfold px_sg at hb
  refine p_lt ?_
  refine p_if (fun _ => ?_) (fun z => absurd (fun w => by omega) z)
  exact p_bind (p_imp (px_32_b h) (fun S' k => p_some k))
theorem px_44_b (h : px_BD S f) {k a : Int} (hk : 0 ≤ k ∧ k ≤ 14) (ha : 0 ≤ a ∧ a ≤ 9999999) : Wp (fun S' => px_BD S' f ∧ Fr px_cw S S') (g44 k a S) := by
  unfold g44
  obtain ⟨h1, h2, h3, h4⟩ := h
  refine p_lt ?_
  refine p_if (fun _ => p_some ⟨⟨h1, h2, h3, h4⟩, Fr.refl⟩) (fun z => ?_)
  refine p_lt (p_ckI (by omega) (p_lt (p_ckI (by omega) (p_ckI (by omega) (p_chk (by omega) (p_lt (p_some ⟨⟨?_, ?_, h3, ?_⟩, (Fr.refl.wi rfl).wi rfl⟩)))))))
  · simp only [gi_wi, gl_wl, gl_wi, gi_wl, gi_wcl, gl_wcl, Nat.reduceEqDiff, Int.reduceEq, false_and, true_and, and_true, and_false, if_false, if_true]; exact h1
  · simp only [gi_wi, gl_wl, gl_wi, gi_wl, gi_wcl, gl_wcl, Nat.reduceEqDiff, Int.reduceEq, false_and, true_and, and_true, and_false, if_false, if_true]; exact h2
  · simp only [gi_wi, gl_wl, gl_wi, gi_wl, gi_wcl, gl_wcl, Nat.reduceEqDiff, Int.reduceEq, false_and, true_and, and_true, and_false, if_false, if_true]; omega
/-- a step more in both -/
theorem px_put (h : px_CO c r n S T cd) (hl : (cd.length : Int) < 700) {k a k' a' : Int} (hx : px_K (k', a')) (hk : 0 ≤ k ∧ k ≤ 14) (ha : 0 ≤ a ∧ a ≤ 9999999) (he : a * 16 + k = cst k' a') : W2 (fun S' T' => px_CO c r n S' T' (cd ++ [(k', a')]) ∧ Fr [1000016006, 18] S S' ∧ px_F [1000055024, 78, 79] T T') (g44 k a S) (g144 k' a' T) := by
  obtain ⟨h1, h2, ⟨c1, c2, c3⟩, h4⟩ := h
  unfold g44 g144
  refine l_lt (l_iff (by omega) (l_lt (l_ckI (by omega) (l_lt (l_ckI (by omega) (l_ckI (by omega) (l_chk (by omega) (l_lt ?_))))))))
  refine r_lt (r_chk (by omega) (r_lt (r_lt ?_)))
  have e24 : gi (wi T 78 (gi T 55 24) k') 55 24 = gi T 55 24 := by simp only [gi_wi, gl_wl, gl_wi, gi_wl, gi_wcl, gl_wcl, Nat.reduceEqDiff, Int.reduceEq, false_and, true_and, and_true, and_false, if_false, if_true]
  rw [e24]
  refine r_chk (by omega) (r_lt (r_lt ?_))
  have e24 : gi (wi (wi T 78 (gi T 55 24) k') 79 (gi T 55 24) a') 55 24 = gi T 55 24 := by simp only [gi_wi, gl_wl, gl_wi, gi_wl, gi_wcl, gl_wcl, Nat.reduceEqDiff, Int.reduceEq, false_and, true_and, and_true, and_false, if_false, if_true]
  rw [e24]
  refine r_ckI (by omega) (r_lt ?_)
  have FS : Fr [1000016006, 18] S (wi (wi S 16 6 (gi S 16 6 + 1)) 18 (gi S 16 6) (a * 16 + k)) := (Fr.refl.wi rfl).wi rfl
  have FT : Fr [1000055024, 78, 79] T (wi (wi (wi T 78 (gi T 55 24) k') 79 (gi T 55 24) a') 55 24 (gi T 55 24 + 1)) := ((Fr.refl.wi rfl).wi rfl).wi rfl
  have e6 : gi (wi (wi S 16 6 (gi S 16 6 + 1)) 18 (gi S 16 6) (a * 16 + k)) 16 6 = gi S 16 6 + 1 := by simp only [gi_wi, gl_wl, gl_wi, gi_wl, gi_wcl, gl_wcl, Nat.reduceEqDiff, Int.reduceEq, false_and, true_and, and_true, and_false, if_false, if_true]
  have e18 : ∀ j, gi (wi (wi S 16 6 (gi S 16 6 + 1)) 18 (gi S 16 6) (a * 16 + k)) 18 j = if j = gi S 16 6 then a * 16 + k else gi S 18 j := fun j => by simp only [gi_wi, gl_wl, gl_wi, gi_wl, gi_wcl, gl_wcl, Nat.reduceEqDiff, Int.reduceEq, false_and, true_and, and_true, and_false, if_false, if_true]
  have e24 : gi (wi (wi (wi T 78 (gi T 55 24) k') 79 (gi T 55 24) a') 55 24 (gi T 55 24 + 1)) 55 24 = gi T 55 24 + 1 := by simp only [gi_wi, gl_wl, gl_wi, gi_wl, gi_wcl, gl_wcl, Nat.reduceEqDiff, Int.reduceEq, false_and, true_and, and_true, and_false, if_false, if_true]
  have e78 : ∀ j, gi (wi (wi (wi T 78 (gi T 55 24) k') 79 (gi T 55 24) a') 55 24 (gi T 55 24 + 1)) 78 j = if j = gi T 55 24 then k' else gi T 78 j := fun j => by simp only [gi_wi, gl_wl, gl_wi, gi_wl, gi_wcl, gl_wcl, Nat.reduceEqDiff, Int.reduceEq, false_and, true_and, and_true, and_false, if_false, if_true]
  have e79 : ∀ j, gi (wi (wi (wi T 78 (gi T 55 24) k') 79 (gi T 55 24) a') 55 24 (gi T 55 24 + 1)) 79 j = if j = gi T 55 24 then a' else gi T 79 j := fun j => by simp only [gi_wi, gl_wl, gl_wi, gi_wl, gi_wcl, gl_wcl, Nat.reduceEqDiff, Int.reduceEq, false_and, true_and, and_true, and_false, if_false, if_true]
  generalize wi (wi S 16 6 (gi S 16 6 + 1)) 18 (gi S 16 6) (a * 16 + k) = S1 at *
  generalize wi (wi (wi T 78 (gi T 55 24) k') 79 (gi T 55 24) a') 55 24 (gi T 55 24 + 1) = T1 at *
  have q73 : ∀ k, gi T1 73 k = gi T 73 k := fun k => FT.i rfl
  have q74 : ∀ k, gi T1 74 k = gi T 74 k := fun k => FT.i rfl
  have q75 : ∀ k, gi T1 75 k = gi T 75 k := fun k => FT.i rfl
  have q76 : ∀ k, gi T1 76 k = gi T 76 k := fun k => FT.i rfl
  have q77 : ∀ k, gi T1 77 k = gi T 77 k := fun k => FT.i rfl
  have q70 : ∀ k, gi T1 70 k = gi T 70 k := fun k => FT.i rfl
  refine b_some ⟨⟨⟨h1.1.fr FS ⟨rfl, rfl, rfl⟩, h1.2.fr FT ⟨rfl, rfl⟩⟩, (FS.i rfl).trans h2, ⟨?_, ?_, fun i x hi => ?_⟩, h4.fr FS FT ⟨rfl, rfl⟩ ⟨rfl, rfl⟩⟩, FS, FT, fun k hk => ⟨?_, ?_⟩, fun k _ => ⟨q73 k, q74 k, q75 k, q76 k, q77 k⟩, fun k _ => q70 k, fun k => ⟨Or.inl (q75 k), Or.inl (q76 k), Or.inl (q77 k)⟩⟩
  · rw [e6, List.length_append, List.length_singleton]; omega
  · rw [e24, List.length_append, List.length_singleton]; omega
  · by_cases z : i < cd.length
    · rw [List.getElem?_append_left z] at hi
      have := c3 i x hi
      rw [e18, e78, e79, if_neg (by omega), if_neg (by omega), if_neg (by omega)]
      exact this
    · have hlen := (List.getElem?_eq_some_iff.mp hi).1
      rw [List.length_append, List.length_singleton] at hlen
      have ei : i = cd.length := by omega
      rw [ei, List.getElem?_append_right (Nat.le_refl _), Nat.sub_self] at hi
      have hi : some (k', a') = some x := hi
      cases hi
      rw [e18, e78, e79, if_pos (by omega), if_pos (by omega), if_pos (by omega)]
      exact ⟨hx, he, rfl, rfl⟩
  · rw [e78, if_neg (by omega)]
  · rw [e79, if_neg (by omega)]
/-- a step, a token standing before both -/
theorem px_putS (h : px_ST c r n S T p cd) (hl : (cd.length : Int) + 1 ≤ p) {k a k' a' : Int} (hx : px_K (k', a')) (hk : 0 ≤ k ∧ k ≤ 14) (ha : 0 ≤ a ∧ a ≤ 9999999) (he : a * 16 + k = cst k' a') : W2 (fun S' T' => px_ST c r n S' T' p (cd ++ [(k', a')]) ∧ Fr [1000016006, 18] S S' ∧ px_F [1000055024, 78, 79] T T') (g44 k a S) (g144 k' a' T) := by
  have hn := h.1.1.1.1
  have hp := h.2.1.2.1
  refine (px_put h.1 (by omega) hx hk ha he).imp (fun S' T' z => ⟨⟨z.1, h.2.1.fr z.2.1 ⟨rfl, rfl, rfl, rfl, rfl⟩, ?_, ?_⟩, z.2⟩)
  · rw [show gi T' 55 21 = gi T 55 21 from z.2.2.1.i rfl]
    exact h.2.2.1
  · rw [List.length_append, List.length_singleton]; omega
/-- a step, both behind a token -/
theorem px_putA (h : px_AD c r n S T q cd) (hl : (cd.length : Int) + 1 ≤ q) {k a k' a' : Int} (hx : px_K (k', a')) (hk : 0 ≤ k ∧ k ≤ 14) (ha : 0 ≤ a ∧ a ≤ 9999999) (he : a * 16 + k = cst k' a') : W2 (fun S' T' => px_AD c r n S' T' q (cd ++ [(k', a')]) ∧ Fr [1000016006, 18] S S' ∧ px_F [1000055024, 78, 79] T T') (g44 k a S) (g144 k' a' T) := by
  have hn := h.1.1.1.1
  have hp := h.2.1
  refine (px_put h.1 (by omega) hx hk ha he).imp (fun S' T' z => ⟨⟨z.1, ?_, ?_⟩, z.2⟩)
  · rw [show gi T' 55 21 = gi T 55 21 from z.2.2.1.i rfl, show gi S' 16 11 = gi S 16 11 from z.2.1.i rfl]
    exact h.2.1
  · rw [List.length_append, List.length_singleton]; omega
/-- a sign that must stand there -/
theorem px_exp (hB : px_B c r n) (h : px_ST c r n S T p cd) {b : Int} (hb : px_sg b) : W2 (fun S' x => Fr px_cw S S' ∧ Fr [1000055021] T x.2 ∧ ((x.1 = 1 ∧ ∃ p', px_ST c r n S' x.2 p' cd ∧ p + 1 ≤ p') ∨ (x.1 = 0 ∧ px_BD S' (gi x.2 55 21)))) (g37 b S) (g139 b T) := by
  have key := px_sgn hB h hb
  obtain ⟨x, ex, hx⟩ := key
  rw [ex]
  refine l_one ?_
  unfold g37
  refine p_lt ?_
  refine p_if (fun z => ?_) (fun z => ?_)
  · have k := hx.2.2 z
    refine p_bind (p_imp (px_32_w k.2.1) (fun S' h1 => p_some ⟨h1.2, hx.1, Or.inr ⟨k.1, ?_⟩⟩))
    rw [k.2.2]; exact h1.1
  · have k := hx.2.1 (Classical.not_not.mp z)
    refine p_bind (p_imp (px_adv k.2.1) (fun S' h1 => ?_))
    obtain ⟨⟨p', p1, p2⟩, h2⟩ := h1
    exact p_some ⟨h2.mono rfl, hx.1, Or.inl ⟨k.1, p', p2, by omega⟩⟩
/-- which line has the token's name -/
theorem px_42_eq (h : px_CO c r n S T cd) {w : Int} (hw : px_WD S w) : ∃ v, g42 S = some (v, S) ∧ g143 w T = some (v, T) ∧ (-1 ≤ v ∧ v < gi T 55 23) ∧ (¬ gi S 16 13 = 280 → v = -1) := by
  obtain ⟨-, -, -, m1, m2, m3⟩ := h
  unfold g42 g143
  -- the reference goes through all names without finding it
  have miss : (w = 0 ∨ ∀ i : Int, 0 ≤ i → i < gi T 55 23 → ¬ gl T 80 i = w) → g143_l2 w 100000 0 T = some (-1, T) := by
    intro hm
    refine upto (gi T 55 23).toNat (fun m k => g143_l2 w m k T = some (-1, T)) ?_ 100000 0 (Nat.zero_le _) (by omega)
    intro m k hk ih
    dsimp only [g143_l2]
    rw [lt_t]
    by_cases z : gi T 55 23 ≤ k
    · rw [if_pos z]
    · rw [if_neg z]
      have ih := ih (by omega)
      by_cases z2 : w = 0
      · rw [if_pos z2, ckI_t (by omega)]; exact ih
      · rcases hm with hm | hm
        · exact absurd hm z2
        · rw [if_neg z2, chk_t (by omega), lt_t, if_pos (hm k (by omega) (by omega)), ckI_t (by omega)]; exact ih
  rcases hw with ⟨a1, a2, a3, a4, a5⟩ | ⟨b, h1, h2, h3⟩ | ⟨h1, h2⟩
  · rw [lt_t, if_pos a1]
    have key := upto (gi T 55 23).toNat (fun m k => ∃ v, g42_l14 m k S = some (v, S) ∧ g143_l2 w m k T = some (v, T) ∧ (-1 ≤ v ∧ v < gi T 55 23)) ?_ 100000 0 (Nat.zero_le _) (by omega)
    · obtain ⟨v, v1, v2, v3⟩ := key
      exact ⟨v, v1, v2, v3, fun z => absurd a1 z⟩
    · intro m k hk ih
      dsimp only [g42_l14, g143_l2]
      simp only [lt_t]
      rw [m1]
      by_cases z : gi T 55 23 ≤ k
      · rw [if_pos z, if_pos z]; exact ⟨-1, rfl, rfl, by omega⟩
      · rw [if_neg z, if_neg z, if_neg (by omega), chk_t (by omega), if_neg a4, chk_t (by omega)]
        have hm := m3 k (by omega) (by omega)
        have hlt : k < (gi T 55 23).toNat := by clear ih; omega
        by_cases y : gl S 21 k = gl S 16 15
        · rw [if_neg (fun q => q y), if_neg (fun q => q (by rw [hm.1, y, a2]))]
          exact ⟨k, rfl, rfl, by omega⟩
        · rw [if_pos y, if_pos (fun q => y (by rw [hm.2.1, q, a3])), ckI_t (by omega), ckI_t (by omega)]
          exact ih hlt
  · refine ⟨-1, ?_, miss (Or.inr (fun i i1 i2 z => ?_)), by omega, fun _ => rfl⟩
    · rw [lt_t, if_neg (by omega)]
    · rw [h3] at z
      exact (m3 i i1 i2).2.2.2 b h1.1 h1.2 z
  · refine ⟨-1, ?_, miss (Or.inl h2), by omega, fun _ => rfl⟩
    rw [lt_t, if_neg (by omega)]
/-- which of the words that EX may use -/
theorem px_141_eq {w : Int} (hw : px_WD S w) (U : gM) : ∃ a, g141 w U = some (a, U) ∧ ((269 ≤ gi S 16 13 ∧ gi S 16 13 < 279) → (0 ≤ a ∧ a < 10) ∧ wmp a = gi S 16 13 - 269) ∧ (¬ (269 ≤ gi S 16 13 ∧ gi S 16 13 < 279) → a = -1) := by
  have k13 := hw.key (b := 13) (by decide)
  have k14 := hw.key (b := 14) (by decide)
  have k15 := hw.key (b := 15) (by decide)
  have k16 := hw.key (b := 16) (by decide)
  have k17 := hw.key (b := 17) (by decide)
  have k18 := hw.key (b := 18) (by decide)
  have k19 := hw.key (b := 19) (by decide)
  have k20 := hw.key (b := 20) (by decide)
  have k21 := hw.key (b := 21) (by decide)
  have k22 := hw.key (b := 22) (by decide)
  rw [show px_vk 13 = 439855772532 from rfl] at k13
  rw [show px_vk 14 = 465726563698 from rfl] at k14
  rw [show px_vk 15 = 504397587826 from rfl] at k15
  rw [show px_vk 16 = 448377480307 from rfl] at k16
  rw [show px_vk 17 = 469852318835 from rfl] at k17
  rw [show px_vk 18 = 32493203083583852 from rfl] at k18
  rw [show px_vk 19 = 1852138852 from rfl] at k19
  rw [show px_vk 20 = 6709618 from rfl] at k20
  rw [show px_vk 21 = 1818325876 from rfl] at k21
  rw [show px_vk 22 = 2002874980 from rfl] at k22
  unfold g141
  by_cases z : w = 439855772532
  · exact ⟨0, by rw [if_neg (fun q => q z)], fun _ => ⟨by decide, by rw [show wmp 0 = 0 from rfl]; have := k13.mp z; omega⟩, fun q => by have := k13.mp z; omega⟩
  rw [if_pos z]
  have z0 := mt k13.mpr z
  by_cases z : w = 465726563698
  · exact ⟨1, by rw [if_neg (fun q => q z)], fun _ => ⟨by decide, by rw [show wmp 1 = 1 from rfl]; have := k14.mp z; omega⟩, fun q => by have := k14.mp z; omega⟩
  rw [if_pos z]
  have z1 := mt k14.mpr z
  by_cases z : w = 504397587826
  · exact ⟨2, by rw [if_neg (fun q => q z)], fun _ => ⟨by decide, by rw [show wmp 2 = 2 from rfl]; have := k15.mp z; omega⟩, fun q => by have := k15.mp z; omega⟩
  rw [if_pos z]
  have z2 := mt k15.mpr z
  by_cases z : w = 469852318835
  · exact ⟨3, by rw [if_neg (fun q => q z)], fun _ => ⟨by decide, by rw [show wmp 3 = 4 from rfl]; have := k17.mp z; omega⟩, fun q => by have := k17.mp z; omega⟩
  rw [if_pos z]
  have z3 := mt k17.mpr z
  by_cases z : w = 32493203083583852
  · exact ⟨4, by rw [if_neg (fun q => q z)], fun _ => ⟨by decide, by rw [show wmp 4 = 5 from rfl]; have := k18.mp z; omega⟩, fun q => by have := k18.mp z; omega⟩
  rw [if_pos z]
  have z4 := mt k18.mpr z
  by_cases z : w = 448377480307
  · exact ⟨5, by rw [if_neg (fun q => q z)], fun _ => ⟨by decide, by rw [show wmp 5 = 3 from rfl]; have := k16.mp z; omega⟩, fun q => by have := k16.mp z; omega⟩
  rw [if_pos z]
  have z5 := mt k16.mpr z
  by_cases z : w = 1852138852
  · exact ⟨6, by rw [if_neg (fun q => q z)], fun _ => ⟨by decide, by rw [show wmp 6 = 6 from rfl]; have := k19.mp z; omega⟩, fun q => by have := k19.mp z; omega⟩
  rw [if_pos z]
  have z6 := mt k19.mpr z
  by_cases z : w = 6709618
  · exact ⟨7, by rw [if_neg (fun q => q z)], fun _ => ⟨by decide, by rw [show wmp 7 = 7 from rfl]; have := k20.mp z; omega⟩, fun q => by have := k20.mp z; omega⟩
  rw [if_pos z]
  have z7 := mt k20.mpr z
  by_cases z : w = 1818325876
  · exact ⟨8, by rw [if_neg (fun q => q z)], fun _ => ⟨by decide, by rw [show wmp 8 = 8 from rfl]; have := k21.mp z; omega⟩, fun q => by have := k21.mp z; omega⟩
  rw [if_pos z]
  have z8 := mt k21.mpr z
  by_cases z : w = 2002874980
  · exact ⟨9, by rw [if_neg (fun q => q z)], fun _ => ⟨by decide, by rw [show wmp 9 = 9 from rfl]; have := k22.mp z; omega⟩, fun q => by have := k22.mp z; omega⟩
  rw [if_pos z]
  have z9 := mt k22.mpr z
  exact ⟨-1, rfl, fun q => by omega, fun _ => rfl⟩
end TO
