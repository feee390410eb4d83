/-! the calls, over all that the books hold: school -/
section OS
variable {S S' : gM}
theorem school_ok (h : Bk S) (a b c : Int) : Ok2 S (g75 a b c) (g119 a b c) := by
  have hB := h.2.1.1
  have hL := hB.2.1
  have n12 := h.n12
  have h17 := h.n17
  refine p_imp (g75_w a b c (by rw [h17]; exact n12)) (fun r hr => ?_)
  rw [h17] at hr
  by_cases hc : (0 ≤ a ∧ a < 8) ∧ (0 ≤ b ∧ b < 3) ∧ (0 ≤ c ∧ c < 16) ∧ gi S 55 1 < 12
  · rw [hr.1 hc]
    have F1 : Fr [1000030015, 2, 3, 4, 5, 6, 1000001007] S (w75 S a b c) := by
      unfold w75
      exact ((((((Fr.refl.wi rfl).wi rfl).wi rfl).wi rfl).wi rfl).wi rfl).wi rfl
    have e2 : ∀ j, gi (w75 S a b c) 2 j = if j = gi S 1 7 then a else gi S 2 j := fun j => by simp [w75, gi_wi]
    have e3 : ∀ j, gi (w75 S a b c) 3 j = if j = gi S 1 7 then b else gi S 3 j := fun j => by simp [w75, gi_wi]
    have e4 : ∀ j, gi (w75 S a b c) 4 j = if j = gi S 1 7 then c else gi S 4 j := fun j => by simp [w75, gi_wi]
    have e5 : ∀ j, gi (w75 S a b c) 5 j = if j = gi S 1 7 then gi S 1 7 else gi S 5 j := fun j => by simp [w75, gi_wi]
    have e6 : ∀ j, gi (w75 S a b c) 6 j = if j = gi S 1 7 then 10 else gi S 6 j := fun j => by simp [w75, gi_wi]
    have e17 : gi (w75 S a b c) 1 7 = gi S 1 7 + 1 := by simp [w75, gi_wi]
    have e30 : gi (w75 S a b c) 30 15 = 0 := by simp [w75, gi_wi]
    dsimp only
    generalize w75 S a b c = S1 at *
    have q1 : gi S1 55 1 = gi S 55 1 := F1.i rfl
    refine p_imp (g119_w (S := S1) a b c (by rw [q1]; exact n12)) (fun r2 h2 => ?_)
    rw [h2.1 (by rw [q1]; exact hc)]
    have F2 : Fr [56, 57, 58, 66, 67, 1000055001] S1 (w119 S1 a b c) := by
      unfold w119
      exact (((((Fr.refl.wi rfl).wi rfl).wi rfl).wi rfl).wi rfl).wi rfl
    have e56 : ∀ j, gi (w119 S1 a b c) 56 j = if j = gi S1 55 1 then a else gi S1 56 j := fun j => by simp [w119, gi_wi]
    have e57 : ∀ j, gi (w119 S1 a b c) 57 j = if j = gi S1 55 1 then b else gi S1 57 j := fun j => by simp [w119, gi_wi]
    have e58 : ∀ j, gi (w119 S1 a b c) 58 j = if j = gi S1 55 1 then c else gi S1 58 j := fun j => by simp [w119, gi_wi]
    have e67 : ∀ j, gi (w119 S1 a b c) 67 j = if j = gi S1 55 1 then 10 else gi S1 67 j := fun j => by simp [w119, gi_wi]
    have e66 : ∀ j, gi (w119 S1 a b c) 66 j = if j = gi S1 55 1 then -1 else gi S1 66 j := fun j => by simp [w119, gi_wi]
    have e551 : gi (w119 S1 a b c) 55 1 = gi S1 55 1 + 1 := by simp [w119, gi_wi]
    dsimp only
    generalize w119 S1 a b c = T at *
    have F : Fr [1000030015, 2, 3, 4, 5, 6, 1000001007, 56, 57, 58, 66, 67, 1000055001] S T := (F1.mono rfl).trans (F2.mono rfl)
    have l0 := hL.1
    have t55 : gi T 55 1 = gi S 55 1 + 1 := by rw [e551, q1]
    have t67 : ∀ j, gi T 67 j = if j = gi S 55 1 then 10 else gi S 67 j := fun j => by rw [e67, q1, show gi S1 67 j = gi S 67 j from F1.i rfl]
    have t66 : ∀ j, ¬ j = gi S 55 1 → gi T 66 j = gi S 66 j := fun j hj => by rw [e66, q1, if_neg hj]; exact F1.i rfl
    have L2 : LandI T := by
      refine ⟨?_, fun k k1 k2 => ?_, ?_⟩
      · rw [t55, show gi T 1 7 = gi S1 1 7 from F2.i rfl, e17, h17, show gi T 1 8 = gi S 1 8 from F.i rfl, show gi T 55 3 = gi S 55 3 from F.i rfl]
        omega
      · rw [t55] at k2
        rw [show gi T 2 k = gi S1 2 k from F2.i rfl, show gi T 3 k = gi S1 3 k from F2.i rfl, show gi T 4 k = gi S1 4 k from F2.i rfl, show gi T 5 k = gi S1 5 k from F2.i rfl, show gi T 6 k = gi S1 6 k from F2.i rfl, e2, e3, e4, e5, e6, e56, e57, e58, t67, h17, q1, t55]
        by_cases z : k = gi S 55 1
        · simp only [if_pos z]
          exact ⟨⟨trivial, trivial, trivial, trivial⟩, hc.1, hc.2.1, hc.2.2.1, by omega, fun w => by omega⟩
        · simp only [if_neg z]
          have m := hL.2.1 k k1 (by omega)
          rw [t66 k z, show gi S1 56 k = gi S 56 k from F1.i rfl, show gi S1 57 k = gi S 57 k from F1.i rfl, show gi S1 58 k = gi S 58 k from F1.i rfl]
          exact ⟨m.1, m.2.1, m.2.2.1, m.2.2.2.1, m.2.2.2.2.1, fun w => by have := m.2.2.2.2.2 w; omega⟩
      · obtain ⟨rk', hr'⟩ := hL.2.2
        refine ⟨rk', fun k k1 k2 k3 => ?_⟩
        rw [t55] at k2
        rw [t67] at k3
        by_cases z : k = gi S 55 1
        · rw [if_pos z] at k3; omega
        · rw [if_neg z] at k3
          have m := (hL.2.1 k k1 (by omega)).2.2.2.2.2 k3
          have hh := hr' k k1 (by omega) k3
          rw [t66 k z, t67, if_neg (by omega), show gi T 55 3 = gi S 55 3 from F.i rfl]
          exact hh
    have M2 : MarkI T := by
      have hM := hB.1
      have ef : ∀ q : Nat, [61, 62, 63, 64, 65, 12, 13, 14, 15].contains q = true → gi T q = gi S q := fun q hq => by
        have hm := List.contains_iff_mem.mp hq
        simp at hm
        funext k
        rcases hm with z | z | z | z | z | z | z | z | z <;> subst z <;> exact F.i rfl
      have eL := fun s y w K => lI_cc (F := gi T) (G := gi S) (ef 61 rfl) (ef 62 rfl) (ef 63 rfl) s y w K
      have e552 : gi T 55 2 = gi S 55 2 := F.i rfl
      refine ⟨by rw [e552, show gi T 11 4 = gi S 11 4 from F.i rfl]; exact hM.1, fun k k1 k2 => ?_, fun k hk => ?_, fun s y w a1 a2 a3 a4 a5 a6 => ?_⟩
      · have m := hM.2.1 k k1 (by rw [← e552]; exact k2)
        rw [t55, ef 61 rfl, ef 62 rfl, ef 63 rfl, ef 64 rfl, ef 65 rfl, ef 12 rfl, ef 13 rfl]
        exact ⟨by omega, m.2⟩
      · rw [eL, ef 14 rfl, ef 61 rfl, ef 62 rfl, ef 63 rfl]
        exact hM.2.2.1 k (by rw [← e552]; exact hk)
      · rw [eL, ef 15 rfl, e552]
        exact hM.2.2.2 s y w a1 a2 a3 a4 a5 a6
    refine ⟨q1, ⟨h.1.fr F rfl, ⟨⟨M2, L2, hB.2.2.1.fr F rfl, hB.2.2.2.fr F rfl⟩, h.2.1.2.1.fr F rfl, h.2.1.2.2.1.fr F, h.2.1.2.2.2.1.nf (F.mono rfl), PasI.zero ((F2.i rfl).trans e30), (F.i rfl).trans h.2.1.2.2.2.2.2⟩, h.2.2.1.fr F rfl, h.2.2.2.1.fr F rfl, ?_⟩, F.mono rfl⟩
    rw [show gi T 0 9 = gi S 0 9 from F.i rfl, show gi T 55 25 = gi S 55 25 from F.i rfl]
    exact h.2.2.2.2
  · rw [hr.2 hc]
    refine p_imp (g119_w (S := S) a b c n12) (fun r2 h2 => ?_)
    rw [h2.2 hc]
    exact ⟨rfl, h, Fr.refl⟩
end OS
