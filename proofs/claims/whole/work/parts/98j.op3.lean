/-! the calls, over all that the books hold: feed, propose -/
section OR
variable {S S' : gM}
theorem feed_ok (h : Bk S) (a b c d e : Int) : Ok2 S (g83 a b c d e) (g134 a b c d e) := by
  have hT := h.2.2.1
  refine p_imp (g83_w (by rw [hT.1]; exact hT.2.1) a b c d e) (fun r hr => ?_)
  by_cases hc : gi S 0 7 ≤ 680
  · obtain ⟨v1, F1, n1, t1⟩ := hr.1 hc
    have e19 : gi r.2 55 19 = gi S 0 7 := (F1.i rfl).trans hT.1.symm
    refine p_imp (g134_w (S := r.2) (by rw [e19, hT.1]; exact hT.2.1) a b c d e) (fun r2 h2 => ?_)
    obtain ⟨v2, F2, n2, t2⟩ := h2.1 (by rw [e19]; exact hc)
    have F : Fr [1000000007, 54, 1000055019, 83] S r2.2 := (F1.mono rfl).trans (F2.mono rfl)
    refine ⟨by rw [v1, v2, e19], ⟨h.1.fr F rfl, h.2.1.nc F rfl rfl ⟨⟨rfl, rfl⟩, rfl⟩, ⟨?_, ?_, fun k k1 k2 => ?_⟩, h.2.2.2.1.fr F rfl, ?_⟩, F.mono rfl⟩
    · rw [n2, e19, show gi r2.2 0 7 = gi r.2 0 7 from F2.i rfl, n1]
    · rw [n2, e19]; have := hT.1; have := hT.2.1; omega
    · rw [n2, e19] at k2
      rw [t2, show gi r2.2 54 k = gi r.2 54 k from F2.i rfl, t1, e19]
      by_cases hk : gi S 0 7 ≤ k ∧ k < gi S 0 7 + 20
      · rw [if_pos hk, if_pos hk]
        have := fd_eq a b c d e (k - gi S 0 7) (by omega)
        exact ⟨this.2, this.1⟩
      · rw [if_neg hk, if_neg hk, show gi r.2 83 k = gi S 83 k from F1.i rfl]
        have h1 := hT.1
        exact hT.2.2 k k1 (by omega)
    · rw [show gi r2.2 0 9 = gi S 0 9 from F.i rfl, show gi r2.2 55 25 = gi S 55 25 from F.i rfl]; exact h.2.2.2.2
  · rw [hr.2 hc]
    refine p_imp (g134_w (S := S) hT.2.1 a b c d e) (fun r2 h2 => ?_)
    rw [h2.2 (by rw [← hT.1]; exact hc)]
    exact ⟨rfl, h, Fr.refl⟩
theorem propose_ok (h : Bk S) (c a b k y : Int) : Ok2 S (g92 c a b k y) (g184 c a b k y) := by
  have hM := h.2.2.2.1
  have hm0 := hM.1
  have hD := h.1
  refine p_imp (g92_w c a b k y h.hn (by rw [hm0.1]; omega) h.t0) (fun r hr => ?_)
  have ec : c_prop (gi S 1 7) (gi S 45 8) (gi S 0 10) c a b k y (gi S 3 a) (gi S 3 b) ↔ c_prop (gi S 55 1) (gi S 55 53) (gi S 55 0) c a b k y (gi S 57 a) (gi S 57 b) := by
    rw [h.n17, hm0.1, h.1.1]
    by_cases ca : 0 ≤ a ∧ a < gi S 55 1
    · by_cases cb : 0 ≤ b ∧ b < gi S 55 1
      · rw [(h.2.1.1.2.1.2.1 a ca.1 ca.2).1.2.1, (h.2.1.1.2.1.2.1 b cb.1 cb.2).1.2.1]
      · unfold c_prop
        exact ⟨fun z => absurd z.2.2.1 cb, fun z => absurd z.2.2.1 cb⟩
    · unfold c_prop
      exact ⟨fun z => absurd z.2.1 ca, fun z => absurd z.2.1 ca⟩
  by_cases hc : c_prop (gi S 1 7) (gi S 45 8) (gi S 0 10) c a b k y (gi S 3 a) (gi S 3 b)
  · rw [hr.1 hc]
    have hx := ec.mp hc
    have F1 : Fr [46, 47, 48, 49, 50, 51, 1000045008] S (w92 S c a b k y) := by
      unfold w92
      exact ((((((Fr.refl.wi rfl).wi rfl).wi rfl).wi rfl).wi rfl).wi rfl).wi rfl
    have e46 : ∀ j, gi (w92 S c a b k y) 46 j = if j = gi S 45 8 then c else gi S 46 j := fun j => by simp [w92, gi_wi]
    have e47 : ∀ j, gi (w92 S c a b k y) 47 j = if j = gi S 45 8 then a else gi S 47 j := fun j => by simp [w92, gi_wi]
    have e48 : ∀ j, gi (w92 S c a b k y) 48 j = if j = gi S 45 8 then b else gi S 48 j := fun j => by simp [w92, gi_wi]
    have e49 : ∀ j, gi (w92 S c a b k y) 49 j = if j = gi S 45 8 then k else gi S 49 j := fun j => by simp [w92, gi_wi]
    have e50 : ∀ j, gi (w92 S c a b k y) 50 j = if j = gi S 45 8 then y else gi S 50 j := fun j => by simp [w92, gi_wi]
    have e51 : ∀ j, gi (w92 S c a b k y) 51 j = if j = gi S 45 8 then gi S 0 10 else gi S 51 j := fun j => by simp [w92, gi_wi]
    have e458 : gi (w92 S c a b k y) 45 8 = gi S 45 8 + 1 := by simp [w92, gi_wi]
    dsimp only
    generalize w92 S c a b k y = S1 at *
    have q1 : gi S1 55 1 = gi S 55 1 := F1.i rfl
    have q53 : gi S1 55 53 = gi S 55 53 := F1.i rfl
    have q0 : gi S1 55 0 = gi S 55 0 := F1.i rfl
    refine p_imp (g184_w (S := S1) c a b k y (by rw [q1]; exact h.n12) (by rw [q53]; exact hm0.2) (by rw [q0]; exact h.1.2)) (fun r2 h2 => ?_)
    rw [h2.1 (by
      rw [q1, q53, q0, show gi S1 57 a = gi S 57 a from F1.i rfl, show gi S1 57 b = gi S 57 b from F1.i rfl]
      exact hx)]
    have F2 : Fr [94, 95, 96, 97, 98, 99, 1000055053] S1 (w184 S1 c a b k y) := by
      unfold w184
      exact ((((((Fr.refl.wi rfl).wi rfl).wi rfl).wi rfl).wi rfl).wi rfl).wi rfl
    have e94 : ∀ j, gi (w184 S1 c a b k y) 94 j = if j = gi S1 55 53 then a else gi S1 94 j := fun j => by simp [w184, gi_wi]
    have e95 : ∀ j, gi (w184 S1 c a b k y) 95 j = if j = gi S1 55 53 then b else gi S1 95 j := fun j => by simp [w184, gi_wi]
    have e96 : ∀ j, gi (w184 S1 c a b k y) 96 j = if j = gi S1 55 53 then k else gi S1 96 j := fun j => by simp [w184, gi_wi]
    have e97 : ∀ j, gi (w184 S1 c a b k y) 97 j = if j = gi S1 55 53 then y else gi S1 97 j := fun j => by simp [w184, gi_wi]
    have e98 : ∀ j, gi (w184 S1 c a b k y) 98 j = if j = gi S1 55 53 then gi S1 55 0 else gi S1 98 j := fun j => by simp [w184, gi_wi]
    have e99 : ∀ j, gi (w184 S1 c a b k y) 99 j = if j = gi S1 55 53 then c else gi S1 99 j := fun j => by simp [w184, gi_wi]
    have e53 : gi (w184 S1 c a b k y) 55 53 = gi S1 55 53 + 1 := by simp [w184, gi_wi]
    dsimp only
    generalize w184 S1 c a b k y = T at *
    have F : Fr [46, 47, 48, 49, 50, 51, 1000045008, 94, 95, 96, 97, 98, 99, 1000055053] S T := (F1.mono rfl).trans (F2.mono rfl)
    obtain ⟨-, -, -, hab, -, -, hk, hyy, hp20⟩ := hx
    refine ⟨by rw [q53, hm0.1], ⟨h.1.fr F rfl, h.2.1.nc F rfl rfl ⟨⟨rfl, rfl⟩, rfl⟩, h.2.2.1.fr F rfl, ⟨?_, fun j j1 j2 => ?_, fun j j1 j2 => ?_, ?_⟩, ?_⟩, F.mono rfl⟩
    · rw [show gi T 45 8 = gi S1 45 8 from F2.i rfl, e458, e53, q53]; omega
    · rw [e53, q53] at j2
      rw [show gi T 46 j = gi S1 46 j from F2.i rfl, show gi T 47 j = gi S1 47 j from F2.i rfl, show gi T 48 j = gi S1 48 j from F2.i rfl, show gi T 49 j = gi S1 49 j from F2.i rfl, show gi T 50 j = gi S1 50 j from F2.i rfl, show gi T 51 j = gi S1 51 j from F2.i rfl, e46, e47, e48, e49, e50, e51, e94, e95, e96, e97, e98, e99, q53, q0, hm0.1]
      by_cases z : j = gi S 55 53
      · simp only [if_pos z]
        exact ⟨⟨trivial, trivial, trivial, trivial, trivial, hD.1⟩, hk, hyy.1, hD.2, hab⟩
      · simp only [if_neg z]
        have m := hM.2.1 j j1 (by omega)
        rw [show gi S1 94 j = gi S 94 j from F1.i rfl, show gi S1 95 j = gi S 95 j from F1.i rfl, show gi S1 96 j = gi S 96 j from F1.i rfl, show gi S1 97 j = gi S 97 j from F1.i rfl, show gi S1 98 j = gi S 98 j from F1.i rfl, show gi S1 99 j = gi S 99 j from F1.i rfl]
        exact m
    · have b := hM.2.2.1 j j1 j2
      rw [show gi T 52 j = gi S 52 j from F.i rfl, show gi T 100 j = gi S 100 j from F.i rfl, show gi T 53 j = gi S 53 j from F.i rfl, show gi T 101 j = gi S 101 j from F.i rfl, e53, q53]
      exact ⟨b.1, b.2.1, b.2.2.1, fun z => b.2.2.2 (by omega)⟩
    · rw [show gi T 45 9 = gi S 45 9 from F.i rfl, show gi T 101 = gi S 101 from funext fun k => F.i rfl]; exact hM.2.2.2
    · rw [show gi T 0 9 = gi S 0 9 from F.i rfl, show gi T 55 25 = gi S 55 25 from F.i rfl]; exact h.2.2.2.2
  · rw [hr.2 hc]
    refine p_imp (g184_w (S := S) c a b k y h.n12 hm0.2 h.1.2) (fun r2 h2 => ?_)
    rw [h2.2 (fun z => hc (ec.mpr z))]
    exact ⟨rfl, h, Fr.refl⟩
end OR
