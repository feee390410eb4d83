/-! what formula and beside leave alone -/
def px_tot : List Nat := [1000000007, 1000000009, 1000030015, 1000023002, 23, 1000055018, 1000055026, 1000016008, 1000016010, 1000016007, 19, 20, 21, 22, 1000016006, 18, 1000016011, 1000016012, 1000016013, 1000016014, 1000016015, 1000016016,
  70, 71, 72, 84, 1000055019, 1000055020, 1000055025, 1000055023, 73, 74, 75, 76, 77, 80, 1000055021, 1000055022, 1000055024, 1000055042, 1000055043, 78, 79]
def px_KP (S U : gM) : Prop := (∀ q k, q < gn S → px_tot.contains (rg q k) = false → gi U q k = gi S q k ∧ gl U q k = gl S q k) ∧ gn S ≤ gn U ∧ (∀ q a, gob S q a = true → gob U q a = true) ∧ (∀ q a, 0 ≤ gln S q a → gln U q a = gln S q a) ∧ ∀ q k, q < gn S → ¬ q = 16 → ¬ q = 0 → ¬ q = 29 → gr U q k = gr S q k
section KE
variable {S U V : gM} {W : List Nat}
theorem px_KP.refl : px_KP S S := ⟨fun _ _ _ _ => ⟨rfl, rfl⟩, Nat.le_refl _, fun _ _ h => h, fun _ _ _ => rfl, fun _ _ _ _ _ _ => rfl⟩
theorem px_KP.trans (h : px_KP S U) (h2 : px_KP U V) : px_KP S V := by
  obtain ⟨a1, a2, a3, a4, a5⟩ := h
  obtain ⟨b1, b2, b3, b4, b5⟩ := h2
  refine ⟨fun q k hq hw => ?_, Nat.le_trans a2 b2, fun q a z => b3 q a (a3 q a z), fun q a z => ?_, fun q k hq n1 n2 n3 => (b5 q k (Nat.lt_of_lt_of_le hq a2) n1 n2 n3).trans (a5 q k hq n1 n2 n3)⟩
  · have x := a1 q k hq hw
    have y := b1 q k (Nat.lt_of_lt_of_le hq a2) hw
    exact ⟨y.1.trans x.1, y.2.trans x.2⟩
  · have e := a4 q a z
    rw [b4 q a (by rw [e]; exact z), e]
theorem px_KP.of (h : Fr W S U) (hw : W.all (fun x => px_tot.contains x) = true) : px_KP S U := by
  have h := h.mono hw
  exact ⟨fun q k _ hk => h.2 q k hk, Nat.le_of_eq (gn_c h.1).symm, fun q a z => by rw [gob_c h.1]; exact z, fun q a _ => gln_c h.1 _ _, fun q k _ _ _ _ => gr_c h.1 _ _⟩
theorem px_KP.gw (h : Gw S U) (hc : ∀ q k, q < gn S → gi U q k = gi S q k ∧ gl U q k = gl S q k) : px_KP S U := ⟨fun q k hq _ => hc q k hq, h.1, h.2.1, h.2.2.1, fun q k hq _ _ _ => h.2.2.2 q k hq⟩
theorem px_KP.wr (q k : Nat) (v : Option Nat) (hq : q = 16 ∨ q = 0 ∨ q = 29) : px_KP S (wr S q k v) := ⟨fun _ _ _ _ => ⟨rfl, rfl⟩, Nat.le_refl _, fun _ _ h => h, fun _ _ _ => rfl, fun a j _ n1 n2 n3 => by rw [gr_wr, if_neg (fun z => by omega)]⟩
theorem MarkI.ct (h : MarkI S) (e : ∀ q : Nat, [61, 62, 63, 64, 65, 12, 13, 14, 15].contains q = true → gi U q = gi S q) (e55 : gi U 55 1 = gi S 55 1) (e552 : gi U 55 2 = gi S 55 2) (e11 : gi U 11 4 = gi S 11 4) : MarkI U := by
  have eL := fun s y w K => lI_cc (F := gi U) (G := gi S) (e 61 rfl) (e 62 rfl) (e 63 rfl) s y w K
  refine ⟨by rw [e552, e11]; exact h.1, by rw [e552, e55, e 61 rfl, e 62 rfl, e 63 rfl, e 64 rfl, e 65 rfl, e 12 rfl, e 13 rfl]; exact h.2.1, fun k hk => ?_, fun s y w a1 a2 a3 a4 a5 a6 => ?_⟩
  · rw [eL, e 14 rfl, e 61 rfl, e 62 rfl, e 63 rfl]
    exact h.2.2.1 k (by rw [← e552]; exact hk)
  · rw [eL, e 15 rfl, e552]
    exact h.2.2.2 s y w a1 a2 a3 a4 a5 a6
/-- contents of the fixed cells, the heap of before -/
def px_mix (S U : gM) : gM := (fun a k => if a < 103 then gi U a k else gi S a k, fun a k => if a < 103 then gl U a k else gl S a k, S.2.2)
theorem px_KP.mix (h : px_KP S U) (hg : 103 ≤ gn S) : Fr px_tot S (px_mix S U) := ⟨rfl, fun q k hk => by
  by_cases z : q < 103
  · have x := h.1 q k (by omega) hk
    exact ⟨(if_pos z).trans x.1, (if_pos z).trans x.2⟩
  · exact ⟨if_neg z, if_neg z⟩⟩
theorem px_KP.i (h : px_KP S U) (hg : 103 ≤ gn S) {q : Nat} (hq : q < 103) {k : Int} (hw : px_tot.contains (rg q k) = false) : gi U q k = gi S q k := (h.1 q k (by omega) hw).1
theorem px_KP.l (h : px_KP S U) (hg : 103 ≤ gn S) {q : Nat} (hq : q < 103) {k : Int} (hw : px_tot.contains (rg q k) = false) : gl U q k = gl S q k := (h.1 q k (by omega) hw).2
theorem px_keep (h : Bk S) (hg : 103 ≤ gn S) (k : px_KP S U) : DayI U ∧ MoveI U ∧ Bas U ∧ WaysI U ∧ HpI U ∧ gi U 30 17 = -1 := by
  have F := k.mix hg
  have hM : MoveI (px_mix S U) := h.2.2.2.1.fr F rfl
  have hL : LandI (px_mix S U) := h.2.1.1.2.1.fr F rfl
  have hN : NeedI (px_mix S U) := h.2.1.1.2.2.1.fr F rfl
  have hR : RoadI (px_mix S U) := h.2.1.1.2.2.2.fr F rfl
  have hD : DayI (px_mix S U) := h.1.fr F rfl
  have hW : WaysI (px_mix S U) := h.2.1.2.1.fr F rfl
  have e : ∀ q : Nat, q < 103 → gi (px_mix S U) q = gi U q := fun q hq => funext fun j => if_pos hq
  refine ⟨?_, ?_, ⟨?_, ?_, ?_, ?_⟩, ?_, ?_, ?_⟩
  · unfold DayI at hD ⊢
    rw [e 0 (by decide), e 55 (by decide)] at hD
    exact hD
  · unfold MoveI at hM ⊢
    rw [e 45 (by decide), e 55 (by decide), e 46 (by decide), e 47 (by decide), e 48 (by decide), e 49 (by decide), e 50 (by decide), e 51 (by decide), e 52 (by decide), e 53 (by decide), e 94 (by decide), e 95 (by decide), e 96 (by decide), e 97 (by decide), e 98 (by decide), e 99 (by decide), e 100 (by decide), e 101 (by decide)] at hM
    exact hM
  · refine h.2.1.1.1.ct (fun q hq => ?_) (k.i hg (by decide) rfl) (k.i hg (by decide) rfl) (k.i hg (by decide) rfl)
    have hm := List.contains_iff_mem.mp hq
    funext j
    simp at hm
    rcases hm with z | z | z | z | z | z | z | z | z <;> subst z <;> exact k.i hg (by decide) rfl
  · unfold LandI at hL ⊢
    rw [e 55 (by decide), e 1 (by decide), e 2 (by decide), e 3 (by decide), e 4 (by decide), e 5 (by decide), e 6 (by decide), e 56 (by decide), e 57 (by decide), e 58 (by decide), e 66 (by decide), e 67 (by decide)] at hL
    exact hL
  · unfold NeedI at hN ⊢
    rw [e 7 (by decide), e 59 (by decide)] at hN
    exact hN
  · unfold RoadI at hR ⊢
    rw [e 9 (by decide), e 60 (by decide)] at hR
    exact hR
  · unfold WaysI at hW ⊢
    rw [e 8 (by decide), e 10 (by decide), e 60 (by decide)] at hW
    exact hW
  · obtain ⟨a, b, c, d, e, f, i⟩ := h.2.1.2.2.1
    have g := k.2.2.2.1
    exact ⟨(g _ _ (by omega)).trans a, (g _ _ (by omega)).trans b, (g _ _ (by omega)).trans c, (g _ _ (by omega)).trans d, (g _ _ (by omega)).trans e, (g _ _ (by omega)).trans f, (g _ _ (by omega)).trans i⟩
  · exact (k.i hg (by decide) rfl).trans h.2.1.2.2.2.2.2
theorem SEq.trans {F G H : Nat → Int → Int} {f : Int} (h : SEq F G f) (h2 : SEq G H f) : SEq F H f := by
  rcases h with h | ⟨a, b, c⟩
  · exact Or.inl h
  · rcases h2 with h2 | ⟨a', b', c'⟩
    · exact Or.inl h2
    · exact Or.inr ⟨a.trans a', fun i hi => ⟨(b i hi).1.trans (b' i hi).1, (b i hi).2.1.trans (b' i hi).2.1, (b i hi).2.2.1.trans (b' i hi).2.2.1, (b i hi).2.2.2.1.trans (b' i hi).2.2.2.1, (b i hi).2.2.2.2.trans (b' i hi).2.2.2.2⟩, fun j hj => ⟨(c j hj).1.trans (c' j hj).1, (c j hj).2.trans (c' j hj).2⟩⟩
theorem px_LO.seq (h : px_LO S U) {f : Int} (hf : -1 ≤ f ∧ f < 9) : SEq (gi S) (gi U) f := by
  by_cases z : f = -1
  · exact Or.inl z
  · exact Or.inr ⟨(h.2.2.1 f (by omega)).symm, fun i hi => by
      have k := h.2.1 (30 * f + i) (by omega)
      exact ⟨k.1.symm, k.2.1.symm, k.2.2.1.symm, k.2.2.2.1.symm, k.2.2.2.2.symm⟩, fun j hj => by
      have k := h.1 (1500 * f + j) (by omega)
      exact ⟨k.1.symm, k.2.symm⟩⟩
theorem px_tot_big {q : Nat} (h1 : 103 ≤ q) (h2 : q < 1000000000) : px_tot.contains q = false := by
  cases hc : px_tot.contains q with
  | false => rfl
  | true =>
    have h := List.contains_iff_mem.mp hc
    have h3 := (by decide : ∀ x ∈ px_tot, x < 103 ∨ 1000000000 ≤ x) q h
    omega
theorem px_KP.law (h : px_KP S U) {q : Nat} (hS : LwS S q) (j : Nat) (hj : j ≤ 4) (k : Int) : gi U (q + j) k = gi S (q + j) k := by
  have l4 := gln_lt hS.2.2.2.2.2.1.1
  refine (h.1 (q + j) k (by omega) ?_).1
  rcases hS.2.2.2.2.2.2.2 with z | z
  · subst z
    have : j = 0 ∨ j = 1 ∨ j = 2 ∨ j = 3 ∨ j = 4 := by omega
    rcases this with z | z | z | z | z <;> subst z <;> rfl
  · rw [rg_big (by omega)]; exact px_tot_big (by omega) (by omega)
/-- a formula that was there is still there -/
theorem px_oldR (h : px_KP S U) {q : Nat} {f : Int} (hR : LwR S q f) (hF : FOk (gi S) f) (hf : -1 ≤ f) (hE : SEq (gi S) (gi U) f) : LwR U q f ∧ FOk (gi U) f := by
  have hS := hR.1
  have l0 := gob_lt hS.1
  have n4 := hS.2.2.2.2.2.2.1
  have g := h.2.2.2.1
  have hq := hS.2.2.2.2.2.2.2
  have hr := fun k => h.2.2.2.2 q k l0 (by omega) (by omega) (by omega)
  have e4 : gi U q 4 = gi S q 4 := h.law hS 0 (by omega) 4
  refine ⟨hR.mv hE ?_ (g _ _ (by have := hS.2.2.2.2.2.1.1; omega)) (fun j hj k => h.law hS j hj k) hF.1 hf, FOk_c hE hF⟩
  unfold LwS at *
  rw [h.2.2.1 _ _ hS.1, hr, hr, hr, hr, g (q + 1) 0 (by omega), g (q + 2) 0 (by omega), g (q + 3) 0 (by omega), g (q + 4) 0 (by omega), e4]
  exact ⟨rfl, hS.2⟩
end KE
