/-! the calls, over all that the books hold: mark -/
section OM
variable {S S' : gM}
theorem mark_ok (h : Bk S) (s y w v : Int) : Ok2 S (g79 s y w v) (g125 s y w v) := by
  have hB := h.2.1.1
  have hM := hB.1
  have n12 := h.n12
  have h17 := h.n17
  have hD := h.1
  have m0 := hM.1
  refine p_imp (g79_w s y w v h.hn (by rw [m0.2.2]; exact m0.1)) (fun r hr => ?_)
  rw [h17, m0.2.2] at hr
  by_cases hc : c_mark (gi S 55 1) (gi S 55 2) s y w v
  · rw [hr.1 hc]
    have F1 : Fr [1000030015, 12, 13, 14, 15, 1000011004] S (w79 S s y w v) := by
      unfold w79
      exact (((((Fr.refl.wi rfl).wi rfl).wi rfl).wi rfl).wi rfl).wi rfl
    have e12 : ∀ j, gi (w79 S s y w v) 12 j = if j = gi S 11 4 then v else gi S 12 j := fun j => by simp [w79, gi_wi]
    have e13 : ∀ j, gi (w79 S s y w v) 13 j = if j = gi S 11 4 then gi S 0 10 else gi S 13 j := fun j => by simp [w79, gi_wi]
    have e14 : ∀ j, gi (w79 S s y w v) 14 j = if j = gi S 11 4 then gi S 15 ((s * 10 + y) * 6 + w) else gi S 14 j := fun j => by simp [w79, gi_wi]
    have e15 : ∀ j, gi (w79 S s y w v) 15 j = if j = (s * 10 + y) * 6 + w then gi S 11 4 else gi S 15 j := fun j => by simp [w79, gi_wi]
    have e114 : gi (w79 S s y w v) 11 4 = gi S 11 4 + 1 := by simp [w79, gi_wi]
    have e30 : gi (w79 S s y w v) 30 15 = 0 := by simp [w79, gi_wi]
    dsimp only
    generalize w79 S s y w v = S1 at *
    have q1 : gi S1 55 1 = gi S 55 1 := F1.i rfl
    have q2 : gi S1 55 2 = gi S 55 2 := F1.i rfl
    refine p_imp (g125_w (S := S1) s y w v (by rw [q1]; exact n12) (by rw [q2]; omega)) (fun r2 h2 => ?_)
    rw [h2.1 (by rw [q1, q2]; exact hc)]
    have F2 : Fr [61, 62, 63, 64, 65, 1000055002] S1 (w125 S1 s y w v) := by
      unfold w125
      exact (((((Fr.refl.wi rfl).wi rfl).wi rfl).wi rfl).wi rfl).wi rfl
    have e61 : ∀ j, gi (w125 S1 s y w v) 61 j = if j = gi S1 55 2 then s else gi S1 61 j := fun j => by simp [w125, gi_wi]
    have e62 : ∀ j, gi (w125 S1 s y w v) 62 j = if j = gi S1 55 2 then y else gi S1 62 j := fun j => by simp [w125, gi_wi]
    have e63 : ∀ j, gi (w125 S1 s y w v) 63 j = if j = gi S1 55 2 then w else gi S1 63 j := fun j => by simp [w125, gi_wi]
    have e64 : ∀ j, gi (w125 S1 s y w v) 64 j = if j = gi S1 55 2 then v else gi S1 64 j := fun j => by simp [w125, gi_wi]
    have e65 : ∀ j, gi (w125 S1 s y w v) 65 j = if j = gi S1 55 2 then gi S1 55 0 else gi S1 65 j := fun j => by simp [w125, gi_wi]
    have e552 : gi (w125 S1 s y w v) 55 2 = gi S1 55 2 + 1 := by simp [w125, gi_wi]
    dsimp only
    generalize w125 S1 s y w v = T at *
    have F : Fr [1000030015, 12, 13, 14, 15, 1000011004, 61, 62, 63, 64, 65, 1000055002] S T := (F1.mono rfl).trans (F2.mono rfl)
    obtain ⟨cs, cy, cw, cv, c3⟩ := hc
    have t2 : gi T 55 2 = gi S 55 2 + 1 := by rw [e552, q2]
    have t61 : ∀ j, gi T 61 j = if j = gi S 55 2 then s else gi S 61 j := fun j => by rw [e61, q2, show gi S1 61 j = gi S 61 j from F1.i rfl]
    have t62 : ∀ j, gi T 62 j = if j = gi S 55 2 then y else gi S 62 j := fun j => by rw [e62, q2, show gi S1 62 j = gi S 62 j from F1.i rfl]
    have t63 : ∀ j, gi T 63 j = if j = gi S 55 2 then w else gi S 63 j := fun j => by rw [e63, q2, show gi S1 63 j = gi S 63 j from F1.i rfl]
    have old : ∀ (s' y' w' : Int) (K : Nat), (K : Int) ≤ gi S 55 2 → lI (gi T) s' y' w' K = lI (gi S) s' y' w' K := by
      intro s' y' w' K
      induction K with
      | zero => intro _; rfl
      | succ K ih =>
        intro hK
        unfold lI
        have hne : ¬ (K : Int) = gi S 55 2 := by omega
        rw [ih (by omega), show gi T 61 K = gi S 61 K by rw [t61, if_neg hne], show gi T 62 K = gi S 62 K by rw [t62, if_neg hne], show gi T 63 K = gi S 63 K by rw [t63, if_neg hne]]
    have M2 : MarkI T := by
      refine ⟨by rw [t2, show gi T 11 4 = gi S1 11 4 from F2.i rfl, e114]; omega, fun k k1 k2 => ?_, fun k hk => ?_, fun s' y' w' a1 a2 a3 a4 a5 a6 => ?_⟩
      · rw [t2] at k2
        rw [t61, t62, t63, e64, e65, q2, show gi T 12 k = gi S1 12 k from F2.i rfl, show gi T 13 k = gi S1 13 k from F2.i rfl, e12, e13, m0.2.2, show gi T 55 1 = gi S 55 1 from F.i rfl, show gi S1 55 0 = gi S 55 0 from F1.i rfl]
        by_cases z : k = gi S 55 2
        · simp only [if_pos z]
          exact ⟨cs, cy, cw, cv, trivial, hD.1⟩
        · simp only [if_neg z]
          have m := hM.2.1 k k1 (by omega)
          rw [show gi S1 64 k = gi S 64 k from F1.i rfl, show gi S1 65 k = gi S 65 k from F1.i rfl]
          exact m
      · rw [t2] at hk
        rw [old _ _ _ _ (by omega), show gi T 14 k = gi S1 14 k from F2.i rfl, e14, m0.2.2, t61, t62, t63]
        by_cases z : (k : Int) = gi S 55 2
        · rw [if_pos z, if_pos z, if_pos z, if_pos z, hM.2.2.2 s y w cs.1 (by omega) cy.1 cy.2 cw.1 cw.2, show (gi S 55 2).toNat = k by omega]
        · rw [if_neg z, if_neg z, if_neg z, if_neg z]
          exact hM.2.2.1 k (by omega)
      · rw [t2, show (gi S 55 2 + 1).toNat = (gi S 55 2).toNat + 1 by omega, show gi T 15 ((s' * 10 + y') * 6 + w') = gi S1 15 ((s' * 10 + y') * 6 + w') from F2.i rfl, e15, m0.2.2]
        unfold lI
        rw [old _ _ _ _ (by omega), t61, t62, t63, show (((gi S 55 2).toNat : Nat) : Int) = gi S 55 2 by omega, if_pos rfl, if_pos rfl, if_pos rfl]
        by_cases z : s = s' ∧ y = y' ∧ w = w'
        · rw [if_pos z, if_pos (by rw [z.1, z.2.1, z.2.2])]
        · rw [if_neg z, if_neg (fun q => z (by omega))]
          exact hM.2.2.2 s' y' w' a1 a2 a3 a4 a5 a6
    refine ⟨by rw [q2], ⟨h.1.fr F rfl, ⟨⟨M2, hB.2.1.fr F rfl, hB.2.2.1.fr F rfl, hB.2.2.2.fr F rfl⟩, h.2.1.2.1.fr F rfl, h.2.1.2.2.1.fr F, h.2.1.2.2.2.1.nf (F.mono rfl), PasI.zero ((F2.i rfl).trans e30), (F.i rfl).trans h.2.1.2.2.2.2.2⟩, h.2.2.1.fr F rfl, h.2.2.2.1.fr F rfl, ?_⟩, F.mono rfl⟩
    rw [show gi T 0 9 = gi S 0 9 from F.i rfl, show gi T 55 25 = gi S 55 25 from F.i rfl]
    exact h.2.2.2.2
  · rw [hr.2 hc]
    refine p_imp (g125_w (S := S) s y w v n12 (by omega)) (fun r2 h2 => ?_)
    rw [h2.2 hc]
    exact ⟨rfl, h, Fr.refl⟩
end OM
