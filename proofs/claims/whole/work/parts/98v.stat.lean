/-! the parser: what the statements read so far have left; floor, cap, total, move, order, share side by side -/
def px_cw2 : List Nat := [1000016007, 19, 20, 21, 22, 1000016006, 18, 1000016011, 1000016012, 1000016013, 1000016014, 1000016015, 1000016016]
def px_rw2 : List Nat := [1000055023, 73, 74, 75, 76, 77, 80, 1000055021, 1000055022, 1000055024, 1000055042, 1000055043, 78, 79]
/-- of the statements' rows only that one changes -/
def px_RO (T T' : gM) (i : Nat) : Prop := ∀ k : Int, ¬ k = 270 + i → gi T' 73 k = gi T 73 k ∧ gi T' 74 k = gi T 74 k ∧ gi T' 75 k = gi T 75 k ∧ gi T' 76 k = gi T 76 k ∧ gi T' 77 k = gi T 77 k
def px_tl (F : Nat → Int → Int) (i : Nat) (w o : Int) : Int := if lstF F 9 w i = -1 then o else F 74 (lstF F 9 w i)
/-- i statements are read: their rows, and what the class holds of them -/
def px_DI (S T : gM) (cd : List (Int × Int)) (i : Nat) : Prop :=
  (gi S 16 7 = rk (gi T) 9 i ∧ (0 < rk (gi T) 9 i → gi S 19 (2 * (rk (gi T) 9 i : Nat)) = cd.length)) ∧
  (gi S 22 0 = px_tl (gi T) i 1 (-1) ∧ gi S 22 1 = px_tl (gi T) i 2 (-1) ∧ gi S 22 2 = px_tl (gi T) i 3 (-1) ∧ gi S 22 3 = px_tl (gi T) i 4 0 ∧ gi S 22 4 = px_tl (gi T) i 5 0 ∧ gi S 22 5 = px_tl (gi T) i 6 (-1)) ∧
  ∀ j : Nat, j < i → StOk (gi T) 9 j ∧ (gi T 73 (30 * 9 + j) = 0 → gi S 20 (rk (gi T) 9 j : Nat) = j ∧ gi S 19 (2 * (rk (gi T) 9 j : Nat)) = gi T 75 (30 * 9 + j) - 13500 ∧ gi S 19 (2 * (rk (gi T) 9 j : Nat) + 1) = gi T 76 (30 * 9 + j) - 13500 ∧ gi S 19 (2 * (rk (gi T) 9 j : Nat) + 2) = gi T 77 (30 * 9 + j) - 13500 ∧ gi T 77 (30 * 9 + j) - 13500 ≤ cd.length)
section SA
variable {S S' S0 T T' T'' T0 : gM} {W W' : List Nat} {c r : Int → Int} {n p q f : Int} {cd zs : List (Int × Int)} {i : Nat}
theorem px_RO.refl : px_RO T T i := fun _ _ => ⟨rfl, rfl, rfl, rfl, rfl⟩
theorem px_RO.trans (h : px_RO T T' i) (h2 : px_RO T' T'' i) : px_RO T T'' i := fun k hk => ⟨(h2 k hk).1.trans (h k hk).1, (h2 k hk).2.1.trans (h k hk).2.1, (h2 k hk).2.2.1.trans (h k hk).2.2.1, (h2 k hk).2.2.2.1.trans (h k hk).2.2.2.1, (h2 k hk).2.2.2.2.trans (h k hk).2.2.2.2⟩
theorem px_RO.of (h : Fr W T T') (hw : W.contains 73 = false ∧ W.contains 74 = false ∧ W.contains 75 = false ∧ W.contains 76 = false ∧ W.contains 77 = false) : px_RO T T' i := fun k _ => ⟨h.i hw.1, h.i hw.2.1, h.i hw.2.2.1, h.i hw.2.2.2.1, h.i hw.2.2.2.2⟩
theorem px_row (q : Nat) (hq : 73 ≤ q ∧ q ≤ 77) (v : Int) (hv : 75 ≤ q → 0 ≤ v ∧ v ≤ 15000) : px_F [q] T (wi T q (270 + i) v) ∧ px_RO T (wi T q (270 + i) v) i := by
  have hr : rg q (270 + (i : Int)) = q := rg_big (by omega)
  have e : ∀ (a : Nat) (k : Int), (¬ a = q ∨ ¬ k = 270 + i) → gi (wi T q (270 + i) v) a k = gi T a k := fun a k h => by
    rw [gi_wi, if_neg (fun z => h.elim (fun y => y z.1) (fun y => y z.2))]
  have o : ∀ a : Nat, 75 ≤ a → ∀ k : Int, gi (wi T q (270 + i) v) a k = gi T a k ∨ (0 ≤ gi (wi T q (270 + i) v) a k ∧ gi (wi T q (270 + i) v) a k ≤ 15000) := fun a ha k => by
    by_cases z : a = q
    · by_cases y : k = 270 + i
      · right
        rw [gi_wi, if_pos ⟨z, y⟩]
        exact hv (by omega)
      · exact Or.inl (e a k (Or.inr y))
    · exact Or.inl (e a k (Or.inl z))
  refine ⟨⟨Fr.refl.wi (by rw [hr]; simp), fun k hk => ⟨e 78 k (Or.inl (by omega)), e 79 k (Or.inl (by omega))⟩, fun k hk => ⟨e 73 k (Or.inr (by omega)), e 74 k (Or.inr (by omega)), e 75 k (Or.inr (by omega)), e 76 k (Or.inr (by omega)), e 77 k (Or.inr (by omega))⟩, fun k hk => e 70 k (Or.inl (by omega)), fun k => ⟨o 75 (by decide) k, o 76 (by decide) k, o 77 (by decide) k⟩⟩, fun k hk => ⟨e 73 k (Or.inr hk), e 74 k (Or.inr hk), e 75 k (Or.inr hk), e 76 k (Or.inr hk), e 77 k (Or.inr hk)⟩⟩
theorem px_rk_c (h : px_RO T T' i) : ∀ j : Nat, j ≤ i → rk (gi T') 9 j = rk (gi T) 9 j := by
  intro j
  induction j with
  | zero => intro _; rfl
  | succ j ih =>
    intro hj
    rw [rk_s, rk_s, ih (by omega), (h (30 * 9 + j) (by omega)).1]
theorem px_lst_c (h : px_RO T T' i) (w : Int) : ∀ j : Nat, j ≤ i → lstF (gi T') 9 w j = lstF (gi T) 9 w j := by
  intro j
  induction j with
  | zero => intro _; rfl
  | succ j ih =>
    intro hj
    rw [lstF_s, lstF_s, ih (by omega), (h (30 * 9 + j) (by omega)).1]
theorem px_tl_s (h : px_RO T T' i) (w o : Int) : px_tl (gi T') (i + 1) w o = if gi T' 73 (30 * 9 + i) = w then gi T' 74 (30 * 9 + i) else px_tl (gi T) i w o := by
  unfold px_tl
  rw [lstF_s, px_lst_c h w i (Nat.le_refl _)]
  by_cases z : gi T' 73 (30 * 9 + i) = w
  · rw [if_pos z, if_pos z, if_neg (by omega)]
  · rw [if_neg z, if_neg z]
    by_cases y : lstF (gi T) 9 w i = -1
    · rw [if_pos y, if_pos y]
    · rw [if_neg y, if_neg y]
      rcases lstF_rng (gi T) 9 w (by decide) i with q | q
      · exact absurd q y
      · exact (h _ (by omega)).2.1
theorem px_St_c {L : Int} (h : px_RO T T' i) (hc : ∀ a : Int, 13500 ≤ a → a < 13500 + L → gi T' 78 a = gi T 78 a ∧ gi T' 79 a = gi T 79 a) {j : Nat} (hj : j < i) (h7 : gi T 73 (30 * 9 + j) = 0 → gi T 77 (30 * 9 + j) - 13500 ≤ L) (hs : StOk (gi T) 9 j) : StOk (gi T') 9 j := by
  obtain ⟨e3, e4, e5, e6, e7⟩ := h (30 * 9 + j) (by omega)
  have hrk := px_rk_c h j (by omega)
  have hsg : ∀ (k : Nat) (a : Int), 13500 ≤ a → a + k ≤ 13500 + L → sgm (gi T') k a = sgm (gi T) k a := fun k a h1 h2 => sgm_c (a := a) k a (fun x hx => hc _ (by omega) (by omega))
  unfold StOk at hs ⊢
  rw [e3, e4, e5, e6, e7, hrk]
  refine ⟨hs.1, fun z => ?_, hs.2.2⟩
  have h2 := hs.2.1 z
  have h7 := h7 z
  rw [hsg _ _ (by omega) (by omega)]
  refine ⟨h2.1, h2.2.1, h2.2.2.1, fun w => ?_⟩
  rw [hsg _ _ (by omega) (by omega)]
  exact h2.2.2.2 w
/-- the code that was there is still there -/
theorem px_CD.old (h : px_CD S T cd) (h' : px_CD S' T' (cd ++ zs)) {a : Int} (h0 : 13500 ≤ a) (h1 : a < 13500 + cd.length) : gi T' 78 a = gi T 78 a ∧ gi T' 79 a = gi T 79 a := by
  have hx : cd[(a - 13500).toNat]? = some (cd[(a - 13500).toNat]'(by omega)) := List.getElem?_eq_getElem (by omega)
  have k1 := h.2.2 _ _ hx
  have k2 := h'.2.2 (a - 13500).toNat _ (by rw [List.getElem?_append_left (by omega)]; exact hx)
  rw [show 13500 + (((a - 13500).toNat : Nat) : Int) = a by omega] at k1 k2
  exact ⟨k2.2.2.1.trans k1.2.2.1.symm, k2.2.2.2.trans k1.2.2.2.symm⟩
/-- the rows that were there still hold -/
theorem px_DI.old (h : px_DI S T cd i) (hR : px_RO T T' i) (hc : px_CD S T cd) (hc' : px_CD S' T' (cd ++ zs)) (h20 : ∀ k : Int, 0 ≤ k → k < (rk (gi T) 9 i : Nat) → gi S' 20 k = gi S 20 k) (h19 : ∀ k : Int, 0 ≤ k → k ≤ 2 * (rk (gi T) 9 i : Nat) → 0 < rk (gi T) 9 i → gi S' 19 k = gi S 19 k) : ∀ j : Nat, j < i → StOk (gi T') 9 j ∧ (gi T' 73 (30 * 9 + j) = 0 → gi S' 20 (rk (gi T') 9 j : Nat) = j ∧ gi S' 19 (2 * (rk (gi T') 9 j : Nat)) = gi T' 75 (30 * 9 + j) - 13500 ∧ gi S' 19 (2 * (rk (gi T') 9 j : Nat) + 1) = gi T' 76 (30 * 9 + j) - 13500 ∧ gi S' 19 (2 * (rk (gi T') 9 j : Nat) + 2) = gi T' 77 (30 * 9 + j) - 13500 ∧ gi T' 77 (30 * 9 + j) - 13500 ≤ (cd ++ zs).length) := by
  intro j hj
  have k := h.2.2 j hj
  obtain ⟨e3, e4, e5, e6, e7⟩ := hR (30 * 9 + j) (by omega)
  refine ⟨px_St_c hR (fun a a1 a2 => hc.old hc' a1 a2) hj (fun z => (k.2 z).2.2.2.2) k.1, fun z => ?_⟩
  rw [e3] at z
  have k2 := k.2 z
  have lt := rk_lt (F := gi T) (f := 9) hj z
  rw [px_rk_c hR j (by omega), e5, e6, e7, h20 _ (by omega) (by omega), h19 _ (by omega) (by omega) (by omega), h19 _ (by omega) (by omega) (by omega), h19 _ (by omega) (by omega) (by omega), List.length_append]
  exact ⟨k2.1, k2.2.1, k2.2.2.1, k2.2.2.2.1, by omega⟩
theorem px_DI.fr (h : px_DI S T cd i) (hF : Fr W S S') (hG : Fr W' T T') (hw : W.contains 1000016007 = false ∧ W.contains 19 = false ∧ W.contains 20 = false ∧ W.contains 22 = false) (hv : (W'.contains 73 = false ∧ W'.contains 74 = false ∧ W'.contains 75 = false ∧ W'.contains 76 = false ∧ W'.contains 77 = false) ∧ W'.contains 78 = false ∧ W'.contains 79 = false) : px_DI S' T' cd i := by
  have a7 : gi S' 16 7 = gi S 16 7 := hF.i hw.1
  have a19 : gi S' 19 = gi S 19 := funext fun k => hF.i hw.2.1
  have a20 : gi S' 20 = gi S 20 := funext fun k => hF.i hw.2.2.1
  have a22 : gi S' 22 = gi S 22 := funext fun k => hF.i hw.2.2.2
  have b73 : gi T' 73 = gi T 73 := funext fun k => hG.i hv.1.1
  have b74 : gi T' 74 = gi T 74 := funext fun k => hG.i hv.1.2.1
  have b75 : gi T' 75 = gi T 75 := funext fun k => hG.i hv.1.2.2.1
  have b76 : gi T' 76 = gi T 76 := funext fun k => hG.i hv.1.2.2.2.1
  have b77 : gi T' 77 = gi T 77 := funext fun k => hG.i hv.1.2.2.2.2
  have hR : ∀ j : Nat, px_RO T T' j := fun j => px_RO.of hG hv.1
  have hc : ∀ a : Int, gi T' 78 a = gi T 78 a ∧ gi T' 79 a = gi T 79 a := fun a => ⟨hG.i hv.2.1, hG.i hv.2.2⟩
  have ek : ∀ j : Nat, rk (gi T') 9 j = rk (gi T) 9 j := fun j => px_rk_c (hR j) j (Nat.le_refl _)
  have et : ∀ w o : Int, px_tl (gi T') i w o = px_tl (gi T) i w o := fun w o => by
    unfold px_tl
    rw [px_lst_c (hR i) w i (Nat.le_refl _), b74]
  unfold px_DI at h ⊢
  rw [a7, a19, a20, a22, b73, b75, b76, b77]
  simp only [ek, et]
  refine ⟨h.1, h.2.1, fun j hj => ⟨px_St_c (L := cd.length) (hR i) (fun a _ _ => hc a) hj (fun z => ((h.2.2 j hj).2 z).2.2.2.2) (h.2.2 j hj).1, (h.2.2 j hj).2⟩⟩
/-- a statement that is no line -/
theorem px_DI.set (h : px_DI S T cd i) (hR : px_RO T T' i) (hc : px_CD S T cd) (hc' : px_CD S' T' cd) (h7 : gi S' 16 7 = gi S 16 7) (h19 : gi S' 19 = gi S 19) (h20 : gi S' 20 = gi S 20) {w v : Int} (hw : 1 ≤ w ∧ w ≤ 6) (h22 : ∀ k, gi S' 22 k = if k = w - 1 then v else gi S 22 k) (e73 : gi T' 73 (30 * 9 + i) = w) (e74 : gi T' 74 (30 * 9 + i) = v)
    (hv : ((w = 1 ∨ w = 2) → 0 ≤ v ∧ v ≤ 1000) ∧ (w = 3 → 0 ≤ v ∧ v ≤ 9999999) ∧ (w = 4 → 0 ≤ v ∧ v ≤ 100) ∧ (w = 5 → v = 0 ∨ v = 1) ∧ (w = 6 → 0 ≤ v ∧ v < rk (gi T) 9 i)) : px_DI S' T' cd (i + 1) := by
  have ek : rk (gi T') 9 (i + 1) = rk (gi T) 9 i := by rw [rk_s, if_neg (by omega), px_rk_c hR i (Nat.le_refl _)]
  have ts := fun w' o => px_tl_s hR w' o
  have old := h.old (zs := []) hR hc (by rw [List.append_nil]; exact hc') (fun k _ _ => by rw [h20]) (fun k _ _ _ => by rw [h19])
  rw [List.append_nil] at old
  refine ⟨by rw [ek, h7, h19]; exact h.1, ?_, fun j hj => ?_⟩
  · obtain ⟨t0, t1, t2, t3, t4, t5⟩ := h.2.1
    rw [ts, ts, ts, ts, ts, ts, e73, e74, h22, h22, h22, h22, h22, h22, t0, t1, t2, t3, t4, t5]
    refine ⟨?_, ?_, ?_, ?_, ?_, ?_⟩
    · by_cases z : w = 1
      · rw [if_pos (by omega), if_pos z]
      · rw [if_neg (by omega), if_neg z]
    · by_cases z : w = 2
      · rw [if_pos (by omega), if_pos z]
      · rw [if_neg (by omega), if_neg z]
    · by_cases z : w = 3
      · rw [if_pos (by omega), if_pos z]
      · rw [if_neg (by omega), if_neg z]
    · by_cases z : w = 4
      · rw [if_pos (by omega), if_pos z]
      · rw [if_neg (by omega), if_neg z]
    · by_cases z : w = 5
      · rw [if_pos (by omega), if_pos z]
      · rw [if_neg (by omega), if_neg z]
    · by_cases z : w = 6
      · rw [if_pos (by omega), if_pos z]
      · rw [if_neg (by omega), if_neg z]
  · by_cases z : j < i
    · exact old j z
    · have ej : j = i := by omega
      subst ej
      refine ⟨?_, fun y => by omega⟩
      unfold StOk
      rw [e73, e74, px_rk_c hR j (Nat.le_refl _)]
      exact ⟨by omega, fun y => by omega, hv.1, hv.2.1, hv.2.2.1, hv.2.2.2.1, hv.2.2.2.2⟩
/-- what a statement's own part leaves -/
def px_KR (c r : Int → Int) (n : Int) (S T : gM) (p : Int) (i : Nat) (S' : gM) (x : Int × gM) : Prop :=
  Fr px_cw2 S S' ∧ px_F px_rw2 T x.2 ∧ px_RO T x.2 i ∧ ((x.1 = 1 ∧ ∃ p' cd', px_ST c r n S' x.2 p' cd' ∧ px_DI S' x.2 cd' (i + 1) ∧ p ≤ p') ∨ (x.1 = 0 ∧ px_BD S' (gi x.2 55 21)))
theorem px_AD.fr (h : px_AD c r n S T q cd) (hF : Fr W S S') (hG : Fr W' T T') (hw : [1000016006, 18, 1000016007, 21, 1000016010, 54, 17, 1000016016, 1000016011].all (fun x => !W.contains x) = true) (hv : [1000055024, 78, 79, 1000055023, 80, 84, 1000055020, 1000055021].all (fun x => !W'.contains x) = true) : px_AD c r n S' T' q cd := by
  have g : ∀ q : Nat, [1000016006, 18, 1000016007, 21, 1000016010, 54, 17, 1000016016, 1000016011].contains q = true → W.contains q = false := fun q hq => by
    have := List.all_eq_true.mp hw q (List.contains_iff_mem.mp hq)
    simpa using this
  have g' : ∀ q : Nat, [1000055024, 78, 79, 1000055023, 80, 84, 1000055020, 1000055021].contains q = true → W'.contains q = false := fun q hq => by
    have := List.all_eq_true.mp hv q (List.contains_iff_mem.mp hq)
    simpa using this
  obtain ⟨h1, h2, h3⟩ := h
  refine ⟨h1.fr hF hG ?_ ?_, ?_, h3⟩
  · rw [List.all_eq_true] at hw ⊢
    intro x hx
    exact hw x (by simp at hx ⊢; omega)
  · rw [List.all_eq_true] at hv ⊢
    intro x hx
    exact hv x (by simp at hx ⊢; omega)
  · rw [show gi S' 16 11 = gi S 16 11 from hF.i (g 1000016011 rfl), show gi T' 55 21 = gi T 55 21 from hG.i (g' 1000055021 rfl)]
    exact h2
theorem px_ST.fr (h : px_ST c r n S T p cd) (hF : Fr W S S') (hG : Fr W' T T') (hw : [1000016006, 18, 1000016007, 21, 1000016010, 54, 17, 1000016016, 1000016011, 1000016012, 1000016013, 1000016014, 1000016015].all (fun x => !W.contains x) = true) (hv : [1000055024, 78, 79, 1000055023, 80, 84, 1000055020, 1000055021].all (fun x => !W'.contains x) = true) : px_ST c r n S' T' p cd := by
  have g : ∀ q : Nat, [1000016006, 18, 1000016007, 21, 1000016010, 54, 17, 1000016016, 1000016011, 1000016012, 1000016013, 1000016014, 1000016015].contains q = true → W.contains q = false := fun q hq => by
    have := List.all_eq_true.mp hw q (List.contains_iff_mem.mp hq)
    simpa using this
  have g' : ∀ q : Nat, [1000055024, 78, 79, 1000055023, 80, 84, 1000055020, 1000055021].contains q = true → W'.contains q = false := fun q hq => by
    have := List.all_eq_true.mp hv q (List.contains_iff_mem.mp hq)
    simpa using this
  obtain ⟨h1, h2, h3, h4⟩ := h
  refine ⟨h1.fr hF hG ?_ ?_, h2.fr hF ⟨g _ rfl, g _ rfl, g _ rfl, g _ rfl, g _ rfl⟩, ?_, h4⟩
  · rw [List.all_eq_true] at hw ⊢
    intro x hx
    exact hw x (by simp at hx ⊢; omega)
  · rw [List.all_eq_true] at hv ⊢
    intro x hx
    exact hv x (by simp at hx ⊢; omega)
  · rw [show gi T' 55 21 = gi T 55 21 from hG.i (g' 1000055021 rfl)]
    exact h3
theorem px_cw_2 (h : Fr px_cw S S') : Fr px_cw2 S S' := h.mono rfl
/-- floor, cap, total, move -/
theorem px_plain (hB : px_B c r n) (h : px_AD c r n S T q cd) (hD : px_DI S T cd i) (hi : i < 30) {w m : Int} (hw : 1 ≤ w ∧ w ≤ 4) (hm : 0 ≤ m ∧ (w = 1 → m = 1000) ∧ (w = 2 → m = 1000) ∧ (w = 3 → m = 9999999) ∧ (w = 4 → m = 100)) : W2 (px_KR c r n S T q i) (g39 (w - 1) m S) (g153 (270 + i) w m T) := by
  unfold g39 g153
  refine r_chk (by omega) (r_lt ?_)
  obtain ⟨P1, R1⟩ := px_row (T := T) (i := i) 73 (by decide) w (by omega)
  have e1 : gi (wi T 73 (270 + i) w) 73 (30 * 9 + i) = w := by rw [gi_wi, if_pos ⟨rfl, by omega⟩]
  generalize wi T 73 (270 + (i : Int)) w = T1 at *
  have A1 := h.fr (Fr.refl (W := [])) P1.1 rfl rfl
  refine l_bind (px_adv A1) (fun S2 h2 => ?_)
  obtain ⟨⟨p2, q2, s2⟩, f2⟩ := h2
  have f2 : Fr px_cw S S2 := f2.mono rfl
  obtain ⟨x, ex, hx⟩ := px_nmb hB s2 m
  rw [ex, ob_s]
  have P2 := (P1.mono (W' := px_rw2) rfl).trans ((px_F.of hx.1 rfl).mono (W' := px_rw2) rfl)
  have R2 := R1.trans (px_RO.of (i := i) hx.1 ⟨rfl, rfl, rfl, rfl, rfl⟩)
  by_cases t : gi S2 16 13 = 281 ∧ gi S2 16 14 ≤ m
  · have k := hx.2.1 t
    refine l_lt (l_iff (fun z => z t.1) (l_lt (l_iff (by omega) (l_lt (l_chk (by omega) (l_lt ?_))))))
    refine r_ift (by omega) (r_lt (r_chk (by omega) (r_lt ?_)))
    rw [k.2.1]
    have F3 : Fr [22] S2 (wi S2 22 (w - 1) (gi S2 16 14)) := Fr.refl.wi rfl
    have e22 : ∀ j, gi (wi S2 22 (w - 1) (gi S2 16 14)) 22 j = if j = w - 1 then gi S2 16 14 else gi S 22 j := fun j => by
      rw [gi_wi, show gi S2 22 j = gi S 22 j from f2.i rfl]
      simp only [true_and]
    have e7 : gi (wi S2 22 (w - 1) (gi S2 16 14)) 16 7 = gi S 16 7 := (F3.i rfl).trans (f2.i rfl)
    have e19 : gi (wi S2 22 (w - 1) (gi S2 16 14)) 19 = gi S 19 := funext fun j => (F3.i rfl).trans (f2.i rfl)
    have e20 : gi (wi S2 22 (w - 1) (gi S2 16 14)) 20 = gi S 20 := funext fun j => (F3.i rfl).trans (f2.i rfl)
    have ea : gi (wi S2 22 (w - 1) (gi S2 16 14)) 16 11 = gi S2 16 11 := F3.i rfl
    generalize wi S2 22 (w - 1) (gi S2 16 14) = S3 at *
    obtain ⟨P4, R4⟩ := px_row (T := x.2) (i := i) 74 (by decide) (gi S2 16 14) (by omega)
    have e73 : gi (wi x.2 74 (270 + i) (gi S2 16 14)) 73 (30 * 9 + i) = w := (P4.1.i rfl).trans ((hx.1.i rfl).trans e1)
    have e74 : gi (wi x.2 74 (270 + i) (gi S2 16 14)) 74 (30 * 9 + i) = gi S2 16 14 := by rw [gi_wi, if_pos ⟨rfl, by omega⟩]
    generalize wi x.2 74 (270 + (i : Int)) (gi S2 16 14) = T4 at *
    have A4 := k.2.2.2.1.fr F3 P4.1 rfl rfl
    have c0 := h.1.2.2.1
    refine l_bind (px_adv A4) (fun S5 h5 => ?_)
    obtain ⟨⟨p5, q5, s5⟩, f5⟩ := h5
    have D4 : px_DI S3 T4 cd (i + 1) := hD.set (R2.trans R4) c0 A4.1.2.2.1 e7 e19 e20 (by omega) e22 e73 e74 (by omega)
    exact b_some ⟨(px_cw_2 f2).trans ((F3.mono rfl).trans (f5.mono rfl)), P2.trans (P4.mono rfl), R2.trans R4, Or.inl ⟨rfl, p5, cd, s5, D4.fr f5 (Fr.refl (W := [])) ⟨rfl, rfl, rfl, rfl⟩ ⟨⟨rfl, rfl, rfl, rfl, rfl⟩, rfl, rfl⟩, by omega⟩⟩
  · have k := hx.2.2 t
    refine r_iff (fun z => z k.1) (l_lt ?_)
    have bad : W2 (px_KR c r n S T q i) ((g32 S2).bind fun z => some z) (some ((0 : Int), x.2)) := l_bind (px_32_w k.2.1) (fun S3 h3 => b_some ⟨(px_cw_2 f2).trans (h3.2.mono rfl), P2, R2, Or.inr ⟨rfl, by rw [k.2.2]; exact h3.1⟩⟩)
    refine l_if (fun _ => bad) (fun z => l_lt (l_ift (by omega) bad))
/-- order -/
theorem px_order (hB : px_B c r n) (h : px_AD c r n S T q cd) (hD : px_DI S T cd i) (hi : i < 30) : W2 (px_KR c r n S T q i) (g40 S) (w_chk ((0 : Int) ≤ 270 + i ∧ 270 + (i : Int) < 300) <| w_lt (wi T 73 (270 + i) 5) fun S31 => (g138 439905906546 S31).bind fun p32 => if p32.1 = 0 then (g138 6513008 p32.2).bind fun p34 => if p34.1 = 0 then w_chk ((0 : Int) ≤ 270 + i ∧ 270 + (i : Int) < 300) <| w_lt (wi p34.2 74 (270 + i) (-1)) fun S37 => some (0, S37) else w_chk ((0 : Int) ≤ 270 + i ∧ 270 + (i : Int) < 300) <| w_lt (wi p34.2 74 (270 + i) 1) fun S37 => some (1, S37) else w_chk ((0 : Int) ≤ 270 + i ∧ 270 + (i : Int) < 300) <| w_lt (wi p32.2 74 (270 + i) 0) fun S37 => some (1, S37)) := by
  unfold g40
  refine r_chk (by omega) (r_lt ?_)
  obtain ⟨P1, R1⟩ := px_row (T := T) (i := i) 73 (by decide) 5 (by omega)
  have e1 : gi (wi T 73 (270 + i) 5) 73 (30 * 9 + i) = 5 := by rw [gi_wi, if_pos ⟨rfl, by omega⟩]
  generalize wi T 73 (270 + (i : Int)) 5 = T1 at *
  have A1 := h.fr (Fr.refl (W := [])) P1.1 rfl rfl
  refine l_bind (px_adv A1) (fun S2 h2 => ?_)
  obtain ⟨⟨p2, q2, s2⟩, f2⟩ := h2
  have f2 : Fr px_cw S S2 := f2.mono rfl
  -- the good end
  have good : ∀ (v : Int) (T2 : gM), (v = 0 ∨ v = 1) → px_F px_rw2 T T2 → px_RO T T2 i → gi T2 73 (30 * 9 + i) = 5 → px_AD c r n S2 T2 (gi S2 16 11) cd → p2 + 1 ≤ gi S2 16 11 → W2 (px_KR c r n S T q i) (w_lt (wi S2 22 4 v) fun S6 => (g33 S6).bind fun p7 => some p7) (w_chk ((0 : Int) ≤ 270 + i ∧ 270 + (i : Int) < 300) <| w_lt (wi T2 74 (270 + i) v) fun S37 => some ((1 : Int), S37)) := by
    intro v T2 hv P2 R2 e2 A2 q3
    refine l_lt (r_chk (by omega) (r_lt ?_))
    have F3 : Fr [22] S2 (wi S2 22 4 v) := Fr.refl.wi rfl
    have e22 : ∀ j, gi (wi S2 22 4 v) 22 j = if j = 5 - 1 then v else gi S 22 j := fun j => by
      rw [gi_wi, show gi S2 22 j = gi S 22 j from f2.i rfl]
      simp only [true_and]
      rfl
    have e7 : gi (wi S2 22 4 v) 16 7 = gi S 16 7 := (F3.i rfl).trans (f2.i rfl)
    have e19 : gi (wi S2 22 4 v) 19 = gi S 19 := funext fun j => (F3.i rfl).trans (f2.i rfl)
    have e20 : gi (wi S2 22 4 v) 20 = gi S 20 := funext fun j => (F3.i rfl).trans (f2.i rfl)
    generalize wi S2 22 4 v = S3 at *
    obtain ⟨P4, R4⟩ := px_row (T := T2) (i := i) 74 (by decide) v (by omega)
    have e73 : gi (wi T2 74 (270 + i) v) 73 (30 * 9 + i) = 5 := (P4.1.i rfl).trans e2
    have e74 : gi (wi T2 74 (270 + i) v) 74 (30 * 9 + i) = v := by rw [gi_wi, if_pos ⟨rfl, by omega⟩]
    generalize wi T2 74 (270 + (i : Int)) v = T4 at *
    have A4 := A2.fr F3 P4.1 rfl rfl
    refine l_bind (px_adv A4) (fun S5 h5 => ?_)
    obtain ⟨⟨p5, q5, s5⟩, f5⟩ := h5
    have D4 : px_DI S3 T4 cd (i + 1) := hD.set (R2.trans R4) h.1.2.2.1 A4.1.2.2.1 e7 e19 e20 (by decide) e22 e73 e74 (by omega)
    exact b_some ⟨(px_cw_2 f2).trans ((F3.mono rfl).trans (f5.mono rfl)), P2.trans (P4.mono rfl), R2.trans R4, Or.inl ⟨rfl, p5, cd, s5, D4.fr f5 (Fr.refl (W := [])) ⟨rfl, rfl, rfl, rfl⟩ ⟨⟨rfl, rfl, rfl, rfl, rfl⟩, rfl, rfl⟩, by omega⟩⟩
  obtain ⟨x, ex, hx⟩ := px_tak hB s2 (b := 1) (w := 439905906546) (by decide) rfl
  rw [ex, ob_s]
  have P2 := (P1.mono (W' := px_rw2) rfl).trans ((px_F.of hx.1 rfl).mono (W' := px_rw2) rfl)
  have R2 := R1.trans (px_RO.of (i := i) hx.1 ⟨rfl, rfl, rfl, rfl, rfl⟩)
  have e2 : gi x.2 73 (30 * 9 + i) = 5 := (hx.1.i rfl).trans e1
  refine l_lt ?_
  by_cases t1 : gi S2 16 13 = 256 + 1
  · have k := hx.2.1 t1
    refine r_iff (by omega) (l_ift (by omega) ?_)
    unfold g40_j24
    refine l_lt (l_iff (fun z => z (by omega)) ?_)
    exact good 0 x.2 (Or.inl rfl) P2 R2 e2 k.2.1 k.2.2
  have k := hx.2.2 t1
  refine r_ift k.1 (l_iff (by omega) (l_lt ?_))
  obtain ⟨y, ey, hy⟩ := px_tak hB k.2.1 (b := 2) (w := 6513008) (by decide) rfl
  rw [ey, ob_s]
  have P3 := P2.trans ((px_F.of hy.1 rfl).mono (W' := px_rw2) rfl)
  have R3 := R2.trans (px_RO.of (i := i) hy.1 ⟨rfl, rfl, rfl, rfl, rfl⟩)
  have e3 : gi y.2 73 (30 * 9 + i) = 5 := (hy.1.i rfl).trans e2
  by_cases t2 : gi S2 16 13 = 256 + 2
  · have k2 := hy.2.1 t2
    refine r_iff (by omega) (l_iff (fun z => z (by omega)) ?_)
    unfold g40_j24
    refine l_lt (l_ift (by omega) ?_)
    exact good 1 y.2 (Or.inr rfl) P3 R3 e3 k2.2.1 k2.2.2
  have k2 := hy.2.2 t2
  refine r_ift k2.1 (l_ift (by omega) (r_chk (by omega) (r_lt ?_)))
  obtain ⟨P4, R4⟩ := px_row (T := y.2) (i := i) 74 (by decide) (-1) (by omega)
  have e21 : gi (wi y.2 74 (270 + i) (-1)) 55 21 = p2 := (P4.1.i rfl).trans k2.2.2
  generalize wi y.2 74 (270 + (i : Int)) (-1) = T4 at *
  refine l_bind (px_32_w k2.2.1) (fun S3 h3 => b_some ⟨(px_cw_2 f2).trans (h3.2.mono rfl), P3.trans (P4.mono rfl), R3.trans R4, Or.inr ⟨rfl, ?_⟩⟩)
  show px_BD S3 (gi T4 55 21)
  rw [e21]
  exact h3.1
/-- share -/
theorem px_share (hB : px_B c r n) (h : px_AD c r n S T q cd) (hD : px_DI S T cd i) (hi : i < 30) (e6 : gi T 73 (30 * 9 + i) = 6) : W2 (px_KR c r n S T q i) (g41 S) ((g137 T).bind fun p27 => (g143 p27.1 p27.2).bind fun p28 => if p28.1 = -1 then some (0, p28.2) else (g137 p28.2).bind fun p21 => (g143 p21.1 p21.2).bind fun p22 => w_chk ((0 : Int) ≤ 270 + i ∧ 270 + (i : Int) < 300) <| w_lt (wi p22.2 74 (270 + i) p22.1) fun S24 => w_lt (gi S24 55 42) fun V25 => w_lt (wi S24 55 21 V25) fun S26 => some (1, S26)) := by
  unfold g41
  refine l_bind (px_adv h) (fun S2 h2 => ?_)
  obtain ⟨⟨p2, q2, s2⟩, f2⟩ := h2
  have f2 : Fr px_cw S S2 := f2.mono rfl
  refine r_bind (px_wrd hB s2) (fun x1 h1 => ?_)
  obtain ⟨F1, W1, ⟨s1, a1⟩, k1⟩ := h1
  have P1 : px_F px_rw2 T x1.2 := (px_F.of F1 rfl).mono rfl
  have R1 : px_RO T x1.2 i := px_RO.of F1 ⟨rfl, rfl, rfl, rfl, rfl⟩
  obtain ⟨v, e42, eg, vr, v2⟩ := px_42_eq s1.1 W1
  rw [e42, eg, ob_s, ob_s]
  dsimp only
  by_cases hv : v = -1
  · refine l_iff (fun z => z hv) (r_ift hv ?_)
    refine l_bind (px_32_w s1) (fun S3 h3 => b_some ⟨(px_cw_2 f2).trans (h3.2.mono rfl), P1, R1, Or.inr ⟨rfl, ?_⟩⟩)
    show px_BD S3 (gi x1.2 55 21)
    rw [a1]
    exact h3.1
  have t4 : gi S2 16 13 = 280 := by
    by_cases z : gi S2 16 13 = 280
    · exact z
    · exact absurd (v2 z) hv
  refine l_ift hv (r_iff hv (l_lt ?_))
  refine r_bind (px_wrd hB s1) (fun x2 h2 => ?_)
  obtain ⟨F2, W2', ⟨s3, a2⟩, k2⟩ := h2
  have P2 := P1.trans ((px_F.of F2 rfl).mono (W' := px_rw2) rfl)
  have R2 := R1.trans (px_RO.of (i := i) F2 ⟨rfl, rfl, rfl, rfl, rfl⟩)
  have k2 := k2 (by omega)
  obtain ⟨v', e42', eg', vr', v2'⟩ := px_42_eq s3.1 W2'
  have evv : v' = v := by
    rw [e42] at e42'
    cases e42'
    rfl
  subst evv
  rw [eg', ob_s]
  dsimp only
  refine r_chk (by omega) (r_lt (r_lt (r_lt ?_)))
  obtain ⟨P4, R4⟩ := px_row (T := x2.2) (i := i) 74 (by decide) v' (by omega)
  have e73 : gi (wi x2.2 74 (270 + i) v') 73 (30 * 9 + i) = 6 := (P4.1.i rfl).trans ((F2.i rfl).trans ((F1.i rfl).trans e6))
  have e74 : gi (wi x2.2 74 (270 + i) v') 74 (30 * 9 + i) = v' := by rw [gi_wi, if_pos ⟨rfl, by omega⟩]
  have e42 : gi (wi x2.2 74 (270 + i) v') 55 42 = gi S2 16 11 := (P4.1.i rfl).trans k2.1
  generalize wi x2.2 74 (270 + (i : Int)) v' = T4 at *
  rw [e42]
  have s4 := s3.fr (Fr.refl (W := [])) P4.1 rfl rfl
  have F5 : Fr [1000055021] T4 (wi T4 55 21 (gi S2 16 11)) := Fr.refl.wi rfl
  have a5 : gi (wi T4 55 21 (gi S2 16 11)) 55 21 = gi S2 16 11 := by simp only [gi_wi, gl_wl, gl_wi, gi_wl, gi_wcl, gl_wcl, Nat.reduceEqDiff, Int.reduceEq, false_and, true_and, and_true, and_false, if_false, if_true]
  generalize wi T4 55 21 (gi S2 16 11) = T5 at *
  have A5 := s4.ad (F5.mono rfl) a5 (by omega)
  have P5 := (P2.trans (P4.mono rfl)).trans ((px_F.of F5 rfl).mono (W' := px_rw2) rfl)
  have R5 := (R2.trans R4).trans (px_RO.of (i := i) F5 ⟨rfl, rfl, rfl, rfl, rfl⟩)
  have F3 : Fr [22] S2 (wi S2 22 5 v') := Fr.refl.wi rfl
  have e22 : ∀ j, gi (wi S2 22 5 v') 22 j = if j = 6 - 1 then v' else gi S 22 j := fun j => by
    rw [gi_wi, show gi S2 22 j = gi S 22 j from f2.i rfl]
    simp only [true_and]
    rfl
  have e7 : gi (wi S2 22 5 v') 16 7 = gi S 16 7 := (F3.i rfl).trans (f2.i rfl)
  have e19 : gi (wi S2 22 5 v') 19 = gi S 19 := funext fun j => (F3.i rfl).trans (f2.i rfl)
  have e20 : gi (wi S2 22 5 v') 20 = gi S 20 := funext fun j => (F3.i rfl).trans (f2.i rfl)
  generalize wi S2 22 5 v' = S3 at *
  have A6 := A5.fr F3 (Fr.refl (W := [])) rfl rfl
  refine l_bind (px_adv A6) (fun S7 h7 => ?_)
  obtain ⟨⟨p7, q7, s7⟩, f7⟩ := h7
  have nm := s3.1.2.2.2.1
  have nm2 : gi S2 16 7 = gi S 16 7 := f2.i rfl
  have D4 : px_DI S3 T5 cd (i + 1) := hD.set R5 h.1.2.2.1 A6.1.2.2.1 e7 e19 e20 (by decide) e22 ((F5.i rfl).trans e73) ((F5.i rfl).trans e74) (by have := hD.1.1; omega)
  exact b_some ⟨(px_cw_2 f2).trans ((F3.mono rfl).trans (f7.mono rfl)), P5, R5, Or.inl ⟨rfl, p7, cd, s7, D4.fr f7 (Fr.refl (W := [])) ⟨rfl, rfl, rfl, rfl⟩ ⟨⟨rfl, rfl, rfl, rfl, rfl⟩, rfl, rfl⟩, by omega⟩⟩
end SA
