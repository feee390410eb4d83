/-! the calls, over all that the books hold: join -/
section OJ
variable {S S' : gM}
theorem join_ok (h : Bk S) (a b y : Int) : Ok2 S (g81 a b y) (g129 a b y) := by
  have hB := h.2.1.1
  have hL := hB.2.1
  have l0 := hL.1
  have n12 := h.n12
  have h17 := h.n17
  have hD := h.1
  refine p_imp (g81_w a b y h.hn (by omega) h.t0) (fun r hr => ?_)
  have ec : c_join (gi S 1 7) (gi S 1 8) (gi S 0 10) a b y (gi S 6 a) (gi S 6 b) ↔ c_join (gi S 55 1) (gi S 55 3) (gi S 55 0) a b y (gi S 67 a) (gi S 67 b) := by
    rw [h17, l0.2.2.2.1, h.1.1]
    by_cases ca : 0 ≤ a ∧ a < gi S 55 1
    · by_cases cb : 0 ≤ b ∧ b < gi S 55 1
      · rw [(hL.2.1 a ca.1 ca.2).1.2.2.2, (hL.2.1 b cb.1 cb.2).1.2.2.2]
      · unfold c_join
        exact ⟨fun z => absurd z.2.1 cb, fun z => absurd z.2.1 cb⟩
    · unfold c_join
      exact ⟨fun z => absurd z.1 ca, fun z => absurd z.1 ca⟩
  have h67 : ∀ k, 0 ≤ k → k < gi S 55 1 → gi S 67 k ≤ 10 := fun k k1 k2 => (hL.2.1 k k1 k2).2.2.2.2.1.2
  by_cases hc : c_join (gi S 1 7) (gi S 1 8) (gi S 0 10) a b y (gi S 6 a) (gi S 6 b)
  · rw [hr.1 hc]
    have hx := ec.mp hc
    have F1 : Fr [1000030015, 5, 6, 1000001008] S (wi (wi (wi (wi S 30 15 0) 5 b a) 6 b y) 1 8 (gi S 1 8 + 1)) := (((Fr.refl.wi rfl).wi rfl).wi rfl).wi rfl
    have e5 : ∀ j, gi (wi (wi (wi (wi S 30 15 0) 5 b a) 6 b y) 1 8 (gi S 1 8 + 1)) 5 j = if j = b then a else gi S 5 j := fun j => by simp [gi_wi]
    have e6 : ∀ j, gi (wi (wi (wi (wi S 30 15 0) 5 b a) 6 b y) 1 8 (gi S 1 8 + 1)) 6 j = if j = b then y else gi S 6 j := fun j => by simp [gi_wi]
    have e18 : gi (wi (wi (wi (wi S 30 15 0) 5 b a) 6 b y) 1 8 (gi S 1 8 + 1)) 1 8 = gi S 1 8 + 1 := by simp [gi_wi]
    have e30 : gi (wi (wi (wi (wi S 30 15 0) 5 b a) 6 b y) 1 8 (gi S 1 8 + 1)) 30 15 = 0 := by simp [gi_wi]
    dsimp only
    generalize wi (wi (wi (wi S 30 15 0) 5 b a) 6 b y) 1 8 (gi S 1 8 + 1) = S1 at *
    have q1 : gi S1 55 1 = gi S 55 1 := F1.i rfl
    have q3 : gi S1 55 3 = gi S 55 3 := F1.i rfl
    have q0 : gi S1 55 0 = gi S 55 0 := F1.i rfl
    have q67 : ∀ k, gi S1 67 k = gi S 67 k := fun k => F1.i rfl
    refine p_imp (g129_w (S := S1) a b y (by rw [q1]; exact n12) (by rw [q3]; omega) (by rw [q0]; exact hD.2) (fun k k1 k2 => by rw [q67]; exact h67 k k1 (by rw [← q1]; exact k2))) (fun r2 h2 => ?_)
    rw [h2.1 (by rw [q1, q3, q0, q67, q67]; exact hx)]
    have F2 : Fr [66, 67, 1000055003] S1 (wi (wi (wi S1 66 b a) 67 b y) 55 3 (gi S1 55 3 + 1)) := ((Fr.refl.wi rfl).wi rfl).wi rfl
    have e66 : ∀ j, gi (wi (wi (wi S1 66 b a) 67 b y) 55 3 (gi S1 55 3 + 1)) 66 j = if j = b then a else gi S1 66 j := fun j => by simp [gi_wi]
    have e67 : ∀ j, gi (wi (wi (wi S1 66 b a) 67 b y) 55 3 (gi S1 55 3 + 1)) 67 j = if j = b then y else gi S1 67 j := fun j => by simp [gi_wi]
    have e553 : gi (wi (wi (wi S1 66 b a) 67 b y) 55 3 (gi S1 55 3 + 1)) 55 3 = gi S1 55 3 + 1 := by simp [gi_wi]
    dsimp only
    generalize wi (wi (wi S1 66 b a) 67 b y) 55 3 (gi S1 55 3 + 1) = T at *
    have F : Fr [1000030015, 5, 6, 1000001008, 66, 67, 1000055003] S T := (F1.mono rfl).trans (F2.mono rfl)
    have t1 : gi T 55 1 = gi S 55 1 := F.i rfl
    have t3 : gi T 55 3 = gi S 55 3 + 1 := by rw [e553, q3]
    have t66 : ∀ j, gi T 66 j = if j = b then a else gi S 66 j := fun j => by rw [e66, show gi S1 66 j = gi S 66 j from F1.i rfl]
    have t67 : ∀ j, gi T 67 j = if j = b then y else gi S 67 j := fun j => by rw [e67, q67]
    obtain ⟨xa, xb, xab, xy, xj, xca, xcb⟩ := hx
    have L2 : LandI T := by
      refine ⟨?_, fun k k1 k2 => ?_, ?_⟩
      · rw [t1, t3, show gi T 1 7 = gi S 1 7 from F.i rfl, show gi T 1 8 = gi S1 1 8 from F2.i rfl, e18]
        omega
      · rw [t1] at k2
        have m := hL.2.1 k k1 k2
        rw [show gi T 2 k = gi S 2 k from F.i rfl, show gi T 3 k = gi S 3 k from F.i rfl, show gi T 4 k = gi S 4 k from F.i rfl, show gi T 5 k = gi S1 5 k from F2.i rfl, show gi T 6 k = gi S1 6 k from F2.i rfl, e5, e6, t66, t67, t1, show gi T 56 k = gi S 56 k from F.i rfl, show gi T 57 k = gi S 57 k from F.i rfl, show gi T 58 k = gi S 58 k from F.i rfl]
        by_cases z : k = b
        · simp only [if_pos z]
          exact ⟨⟨m.1.1, m.1.2.1, m.1.2.2.1, trivial⟩, m.2.1, m.2.2.1, m.2.2.2.1, by have := hD.2; omega, fun _ => ⟨trivial, xa.1, xa.2⟩⟩
        · simp only [if_neg z]
          exact m
      · obtain ⟨rk', hr'⟩ := hL.2.2
        refine ⟨fun k => if k = b then (gi S 55 3).toNat else rk' k, fun k k1 k2 k3 => ?_⟩
        rw [t1] at k2
        rw [t67] at k3
        rw [t66, t3]
        dsimp only
        by_cases z : k = b
        · rw [if_pos z, if_pos z, t67, if_neg xab]
          exact ⟨by omega, fun w => absurd w xca⟩
        · rw [if_neg z] at k3
          have hh := hr' k k1 k2 k3
          have m := (hL.2.1 k k1 k2).2.2.2.2.2 k3
          rw [if_neg z, if_neg z, t67]
          refine ⟨by omega, fun w => ?_⟩
          by_cases z2 : gi S 66 k = b
          · rw [if_pos z2]; omega
          · rw [if_neg z2] at w ⊢
            exact hh.2 w
    refine ⟨by rw [l0.2.2.2.1, q3], ⟨h.1.fr F rfl, ⟨⟨hB.1.fw F rfl, L2, hB.2.2.1.fr F rfl, hB.2.2.2.fr F rfl⟩, h.2.1.2.1.fr F rfl, h.2.1.2.2.1.fr F, h.2.1.2.2.2.1.nf (F.mono rfl), PasI.zero ((F2.i rfl).trans e30), (F.i rfl).trans h.2.1.2.2.2.2.2⟩, h.2.2.1.fr F rfl, h.2.2.2.1.fr F rfl, ?_⟩, F.mono rfl⟩
    rw [show gi T 0 9 = gi S 0 9 from F.i rfl, show gi T 55 25 = gi S 55 25 from F.i rfl]
    exact h.2.2.2.2
  · rw [hr.2 hc]
    refine p_imp (g129_w (S := S) a b y n12 (by omega) hD.2 h67) (fun r2 h2 => ?_)
    rw [h2.2 (fun z => hc (ec.mpr z))]
    exact ⟨rfl, h, Fr.refl⟩
end OJ
