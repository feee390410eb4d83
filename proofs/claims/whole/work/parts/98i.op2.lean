/-! the calls, over all that the books hold: need, road, object -/
section OQ
variable {S S' : gM}
theorem lI_cc {F G : Nat → Int → Int} (h1 : F 61 = G 61) (h2 : F 62 = G 62) (h3 : F 63 = G 63) (s y w : Int) (K : Nat) : lI F s y w K = lI G s y w K := by
  induction K with
  | zero => rfl
  | succ K ih => unfold lI; rw [ih, h1, h2, h3]
theorem MarkI.fw {W : List Nat} (h : MarkI S) (hF : Fr W S S') (hw : [61, 62, 63, 64, 65, 12, 13, 14, 15, 1000011004, 1000055001, 1000055002].all (fun x => !W.contains x) = true) : MarkI S' := by
  have g : ∀ q : Nat, [61, 62, 63, 64, 65, 12, 13, 14, 15, 1000011004, 1000055001, 1000055002].contains q = true → W.contains q = false := fun q hq => by
    have := List.all_eq_true.mp hw q (List.contains_iff_mem.mp hq)
    simpa using this
  have e : ∀ q : Nat, [61, 62, 63, 64, 65, 12, 13, 14, 15].contains q = true → gi S' q = gi S q := fun q hq => by
    have hm := List.contains_iff_mem.mp hq
    have hr : ∀ k, rg q k = q := by
      intro k
      simp at hm
      rcases hm with z | z | z | z | z | z | z | z | z <;> subst z <;> rfl
    funext k
    refine hF.i ?_
    rw [hr k]
    refine g q (List.contains_iff_mem.mpr ?_)
    simp at hm ⊢
    omega
  have e55 : gi S' 55 1 = gi S 55 1 := hF.i (q := 55) (k := 1) (g 1000055001 rfl)
  have e552 : gi S' 55 2 = gi S 55 2 := hF.i (q := 55) (k := 2) (g 1000055002 rfl)
  have e11 : gi S' 11 4 = gi S 11 4 := hF.i (q := 11) (k := 4) (g 1000011004 rfl)
  have eL := fun s y w K => lI_cc (F := gi S') (G := gi S) (e 61 rfl) (e 62 rfl) (e 63 rfl) s y w K
  refine ⟨by rw [e552, e11]; exact h.1, by rw [e552, e55, e 61 rfl, e 62 rfl, e 63 rfl, e 64 rfl, e 65 rfl, e 12 rfl, e 13 rfl]; exact h.2.1, fun k hk => ?_, fun s y w a1 a2 a3 a4 a5 a6 => ?_⟩
  · rw [eL, e 14 rfl, e 61 rfl, e 62 rfl, e 63 rfl]
    exact h.2.2.1 k (by rw [← e552]; exact hk)
  · rw [eL, e 15 rfl, e552]
    exact h.2.2.2 s y w a1 a2 a3 a4 a5 a6
theorem need_ok (h : Bk S) (a b : Int) : Ok2 S (g76 a b) (g120 a b) := by
  refine p_imp (g76_w a b) (fun r hr => ?_)
  by_cases c : (0 ≤ a ∧ a < 8) ∧ (0 ≤ b ∧ b ≤ 100)
  · rw [hr.1 c]
    refine p_imp (g120_w (S := wi (wi S 7 a b) 30 15 0) a b) (fun r2 h2 => ?_)
    rw [h2.1 c]
    have F : Fr [7, 1000030015, 59] S (wi (wi (wi S 7 a b) 30 15 0) 59 a b) := ((Fr.refl.wi rfl).wi rfl).wi rfl
    refine ⟨rfl, ⟨h.1.fr F rfl, ⟨⟨h.2.1.1.1.fw F rfl, h.2.1.1.2.1.fr F rfl, fun k h1 h3 => ?_, h.2.1.1.2.2.2.fr F rfl⟩, h.2.1.2.1.fr F rfl, h.2.1.2.2.1.fr F, h.2.1.2.2.2.1.nf (F.mono rfl), PasI.zero ?_, (F.i rfl).trans h.2.1.2.2.2.2.2⟩, h.2.2.1.fr F rfl, h.2.2.2.1.fr F rfl, ?_⟩, F.mono rfl⟩
    · have hk := h.2.1.1.2.2.1 k h1 h3
      simp only [gi_wi]
      by_cases e : k = a
      · rw [e]; simp; omega
      · simp [e]; exact hk
    · simp [gi_wi]
    · rw [show gi (wi (wi (wi S 7 a b) 30 15 0) 59 a b) 0 9 = gi S 0 9 from F.i rfl, show gi (wi (wi (wi S 7 a b) 30 15 0) 59 a b) 55 25 = gi S 55 25 from F.i rfl]; exact h.2.2.2.2
  · rw [hr.2 c]
    refine p_imp (g120_w (S := S) a b) (fun r2 h2 => ?_)
    rw [h2.2 c]
    exact ⟨rfl, h, Fr.refl⟩
theorem road_ok (h : Bk S) (a b m : Int) : Ok2 S (g77 a b m) (g121 a b m) := by
  refine p_imp (g77_w a b m) (fun r hr => ?_)
  by_cases c : (0 ≤ a ∧ a < 16) ∧ (0 ≤ b ∧ b < 16) ∧ ¬ a = b ∧ (0 ≤ m ∧ m ≤ 999)
  · rw [hr.1 c]
    refine p_imp (g121_w (S := wi (wi (wi (wi S 9 (a * 16 + b) m) 9 (b * 16 + a) m) 8 2 0) 30 15 0) a b m) (fun r2 h2 => ?_)
    rw [h2.1 c]
    have F : Fr [9, 8, 1000030015, 60] S (wi (wi (wi (wi (wi (wi S 9 (a * 16 + b) m) 9 (b * 16 + a) m) 8 2 0) 30 15 0) 60 (a * 16 + b) m) 60 (b * 16 + a) m) := (((((Fr.refl.wi rfl).wi rfl).wi rfl).wi rfl).wi rfl).wi rfl
    have e9 : ∀ k, gi (wi (wi (wi (wi (wi (wi S 9 (a * 16 + b) m) 9 (b * 16 + a) m) 8 2 0) 30 15 0) 60 (a * 16 + b) m) 60 (b * 16 + a) m) 9 k = if k = b * 16 + a then m else if k = a * 16 + b then m else gi S 9 k := fun k => by simp [gi_wi]
    have e60 : ∀ k, gi (wi (wi (wi (wi (wi (wi S 9 (a * 16 + b) m) 9 (b * 16 + a) m) 8 2 0) 30 15 0) 60 (a * 16 + b) m) 60 (b * 16 + a) m) 60 k = if k = b * 16 + a then m else if k = a * 16 + b then m else gi S 60 k := fun k => by simp [gi_wi]
    have e82 : gi (wi (wi (wi (wi (wi (wi S 9 (a * 16 + b) m) 9 (b * 16 + a) m) 8 2 0) 30 15 0) 60 (a * 16 + b) m) 60 (b * 16 + a) m) 8 2 = 0 := by simp [gi_wi]
    have e30 : gi (wi (wi (wi (wi (wi (wi S 9 (a * 16 + b) m) 9 (b * 16 + a) m) 8 2 0) 30 15 0) 60 (a * 16 + b) m) 60 (b * 16 + a) m) 30 15 = 0 := by simp [gi_wi]
    generalize wi (wi (wi (wi (wi (wi S 9 (a * 16 + b) m) 9 (b * 16 + a) m) 8 2 0) 30 15 0) 60 (a * 16 + b) m) 60 (b * 16 + a) m = T at *
    refine ⟨rfl, ⟨h.1.fr F rfl, ⟨⟨h.2.1.1.1.fw F rfl, h.2.1.1.2.1.fr F rfl, h.2.1.1.2.2.1.fr F rfl, fun k h1 h3 => ?_⟩, ⟨Or.inl e82, fun z => by rw [e82] at z; cases z⟩, h.2.1.2.2.1.fr F, h.2.1.2.2.2.1.nf (F.mono rfl), PasI.zero e30, (F.i rfl).trans h.2.1.2.2.2.2.2⟩, h.2.2.1.fr F rfl, h.2.2.2.1.fr F rfl, ?_⟩, F.mono rfl⟩
    · have hk := h.2.1.1.2.2.2 k h1 h3
      rw [e9, e60]
      by_cases z1 : k = b * 16 + a
      · rw [if_pos z1, if_pos z1]; omega
      · rw [if_neg z1, if_neg z1]
        by_cases z2 : k = a * 16 + b
        · rw [if_pos z2, if_pos z2]; omega
        · rw [if_neg z2, if_neg z2]; exact hk
    · rw [show gi T 0 9 = gi S 0 9 from F.i rfl, show gi T 55 25 = gi S 55 25 from F.i rfl]; exact h.2.2.2.2
  · rw [hr.2 c]
    refine p_imp (g121_w (S := S) a b m) (fun r2 h2 => ?_)
    rw [h2.2 c]
    exact ⟨rfl, h, Fr.refl⟩
theorem object_ok (h : Bk S) (x s : Int) : Ok2 S (g93 x s) (g185 x s) := by
  have hM := h.2.2.2.1
  have hm0 := hM.1
  refine p_imp (g93_w x s h.hn (by rw [hm0.1]; omega) h.t0) (fun r hr => ?_)
  have ec : c_obj (gi S 1 7) (gi S 45 8) (gi S 0 10) x s (gi S 53 x) (gi S 3 s) (gi S 46 x) (gi S 6 s) (tb (gi S 52 x) s.toNat) ↔ c_obj (gi S 55 1) (gi S 55 53) (gi S 55 0) x s (gi S 101 x) (gi S 57 s) (gi S 99 x) (gi S 67 s) (tb (gi S 100 x) s.toNat) := by
    rw [h.n17, hm0.1, h.1.1]
    by_cases cx : 0 ≤ x ∧ x < gi S 55 53
    · by_cases cs : 0 ≤ s ∧ s < gi S 55 1
      · have a := hM.2.1 x cx.1 cx.2
        have b := hM.2.2.1 x cx.1 (by omega)
        have l := (h.2.1.1.2.1.2.1 s cs.1 cs.2).1
        rw [b.1, b.2.1, a.1.1, l.2.1, l.2.2.2]
      · unfold c_obj
        exact ⟨fun z => absurd z.2.1 cs, fun z => absurd z.2.1 cs⟩
    · unfold c_obj
      exact ⟨fun z => absurd z.1 cx, fun z => absurd z.1 cx⟩
  by_cases c : c_obj (gi S 1 7) (gi S 45 8) (gi S 0 10) x s (gi S 53 x) (gi S 3 s) (gi S 46 x) (gi S 6 s) (tb (gi S 52 x) s.toNat)
  · rw [hr.1 c]
    have F1 : Fr [52] S (wi S 52 x (b_or (gi S 52 x) (b_shl 1 s))) := Fr.refl.wi rfl
    have e1 : ∀ k, gi (wi S 52 x (b_or (gi S 52 x) (b_shl 1 s))) 52 k = if k = x then b_or (gi S 52 x) (b_shl 1 s) else gi S 52 k := fun k => by simp [gi_wi]
    dsimp only
    generalize wi S 52 x (b_or (gi S 52 x) (b_shl 1 s)) = S1 at *
    refine p_imp (g185_w (S := S1) x s (by rw [show gi S1 55 1 = gi S 55 1 from F1.i rfl]; exact h.n12) (by rw [show gi S1 55 53 = gi S 55 53 from F1.i rfl]; exact hm0.2) (by rw [show gi S1 55 0 = gi S 55 0 from F1.i rfl]; exact h.1.2)) (fun r2 h2 => ?_)
    have cx := c.1
    rw [h2.1 (by
      rw [show gi S1 55 1 = gi S 55 1 from F1.i rfl, show gi S1 55 53 = gi S 55 53 from F1.i rfl, show gi S1 55 0 = gi S 55 0 from F1.i rfl, show gi S1 101 x = gi S 101 x from F1.i rfl, show gi S1 57 s = gi S 57 s from F1.i rfl, show gi S1 99 x = gi S 99 x from F1.i rfl, show gi S1 67 s = gi S 67 s from F1.i rfl, show gi S1 100 x = gi S 100 x from F1.i rfl]
      exact ec.mp c)]
    have F : Fr [52, 100] S (wi S1 100 x (b_or (gi S1 100 x) (b_shl 1 s))) := (F1.mono rfl).wi rfl
    have e52 : ∀ k, gi (wi S1 100 x (b_or (gi S1 100 x) (b_shl 1 s))) 52 k = if k = x then b_or (gi S 52 x) (b_shl 1 s) else gi S 52 k := fun k => by rw [gi_wi, if_neg (by rintro ⟨z, -⟩; cases z)]; exact e1 k
    have e100 : ∀ k, gi (wi S1 100 x (b_or (gi S1 100 x) (b_shl 1 s))) 100 k = if k = x then b_or (gi S 100 x) (b_shl 1 s) else gi S 100 k := fun k => by
      rw [gi_wi, show gi S1 100 x = gi S 100 x from F1.i rfl, show gi S1 100 k = gi S 100 k from F1.i rfl]
      by_cases e : k = x
      · rw [if_pos ⟨rfl, e⟩, if_pos e]
      · rw [if_neg (fun z => e z.2), if_neg e]
    dsimp only
    generalize wi S1 100 x (b_or (gi S1 100 x) (b_shl 1 s)) = T at *
    refine ⟨rfl, ⟨h.1.fr F rfl, h.2.1.nc F rfl rfl ⟨⟨rfl, rfl⟩, rfl⟩, h.2.2.1.fr F rfl, ⟨?_, fun k h1 h3 => ?_, fun k h1 h3 => ?_, ?_⟩, ?_⟩, F.mono rfl⟩
    · rw [show gi T 45 8 = gi S 45 8 from F.i rfl, show gi T 55 53 = gi S 55 53 from F.i rfl]; exact hM.1
    · have m := hM.2.1 k h1 (by rw [← show gi T 55 53 = gi S 55 53 from F.i rfl]; exact h3)
      rw [show gi T 46 k = gi S 46 k from F.i rfl, show gi T 47 k = gi S 47 k from F.i rfl, show gi T 48 k = gi S 48 k from F.i rfl, show gi T 49 k = gi S 49 k from F.i rfl, show gi T 50 k = gi S 50 k from F.i rfl, show gi T 51 k = gi S 51 k from F.i rfl, show gi T 94 k = gi S 94 k from F.i rfl, show gi T 95 k = gi S 95 k from F.i rfl, show gi T 96 k = gi S 96 k from F.i rfl, show gi T 97 k = gi S 97 k from F.i rfl, show gi T 98 k = gi S 98 k from F.i rfl, show gi T 99 k = gi S 99 k from F.i rfl]
      exact m
    · have b := hM.2.2.1 k h1 h3
      rw [e52, e100, show gi T 53 k = gi S 53 k from F.i rfl, show gi T 101 k = gi S 101 k from F.i rfl, show gi T 55 53 = gi S 55 53 from F.i rfl]
      by_cases e : k = x
      · have b' := hM.2.2.1 x (by omega) (by omega)
        rw [if_pos e, if_pos e, b'.1]
        exact ⟨rfl, b.2⟩
      · rw [if_neg e, if_neg e]
        exact b
    · rw [show gi T 45 9 = gi S 45 9 from F.i rfl, show gi T 101 = gi S 101 from funext fun k => F.i rfl]; exact hM.2.2.2
    · rw [show gi T 0 9 = gi S 0 9 from F.i rfl, show gi T 55 25 = gi S 55 25 from F.i rfl]; exact h.2.2.2.2
  · rw [hr.2 c]
    refine p_imp (g185_w (S := S) x s h.n12 hm0.2 h.1.2) (fun r2 h2 => ?_)
    rw [h2.2 (fun z => c (ec.mpr z))]
    exact ⟨rfl, h, Fr.refl⟩
end OQ
