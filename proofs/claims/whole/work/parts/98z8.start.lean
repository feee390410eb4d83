/-! the start: both objects just made (by evaluation) -/
def px_l0 : List (Nat × Nat × Int) := [(0, 10, 0), (55, 0, 0), (0, 7, 0), (55, 19, 0), (45, 8, 0), (45, 9, 0), (55, 53, 0), (55, 1, 0), (1, 7, 0), (1, 8, 0), (55, 3, 0), (55, 2, 0), (11, 4, 0), (8, 2, 0), (55, 18, 0), (23, 2, 0), (24, 1, 0), (24, 2, 0), (24, 3, 0), (24, 4, 0), (30, 15, 0), (55, 26, 0),
  (0, 9, -1), (55, 25, -1), (24, 0, -1), (30, 17, -1), (25, 0, -1), (25, 1, -1), (25, 2, -1), (25, 3, 0), (25, 4, 0), (25, 5, -1)]
def px_l1 : List (Nat × Nat) := [(7, 8), (59, 8), (9, 256), (60, 256), (52, 20), (100, 20), (53, 20), (101, 20), (75, 300), (76, 300), (77, 300)]
def px_Sm (M : vm_M) : gM := (fun q k => (vm_i M q k.toNat).toInt, fun q k => (vm_l M q k.toNat).toInt, (M.1, M.2.1, M.2.2.2.2))
theorem px_Sm_rel {M : vm_M} (h : Sh M) : Rel (px_Sm M) M := ⟨h, fun _ _ => rfl, fun _ _ => rfl, rfl⟩
theorem px_ln {M : vm_M} (hn : vm_n M = 103) (hs : ∀ q, q < 103 → vm_sh M q = wh_shl.getD q (.inl 0)) {q t n : Nat} (hq : q < 103) (h : wh_shl.getD q (.inl 0) = .inr (t, n)) : gln (px_Sm M) q t = n := by
  unfold gln
  have e : gsh (px_Sm M) q = .inr (t, n) := (hs q hq).trans h
  rw [if_pos (show q < gn (px_Sm M) by show q < vm_n M; rw [hn]; exact hq), e]
  exact if_pos rfl
theorem px_ob {M : vm_M} (hn : vm_n M = 103) (hs : ∀ q, q < 103 → vm_sh M q = wh_shl.getD q (.inl 0)) {q a : Nat} (hq : q < 103) (h : wh_shl.getD q (.inl 0) = .inl a) : gob (px_Sm M) q a = true := by
  unfold gob
  have e : gsh (px_Sm M) q = .inl a := (hs q hq).trans h
  rw [decide_eq_true (show q < gn (px_Sm M) by show q < vm_n M; rw [hn]; exact hq), e]
  simp
theorem px_start_of {M : vm_M} (hSh : Sh M) (hn : vm_n M = 103) (hs : vm_s M ≤ 50000) (h0 : ∀ e ∈ px_l0, (vm_i M e.1 e.2.1).toInt = e.2.2) (h1 : ∀ e ∈ px_l1, ∀ k, k < e.2 → (vm_i M e.1 k).toInt = 0) (h2 : ∀ k, k < 720 → (vm_i M 15 k).toInt = -1) (h3 : ∀ k, k < 23 → (vm_l M 17 k).toInt = px_kl.getD k 0) (h4 : vm_rr M 0 8 = none) : px_Inv 0 M := by
  have px_z := fun (q k : Nat) (v : Int) (h : px_l0.contains (q, k, v) = true) => (show gi (px_Sm M) q (k : Int) = v from h0 (q, k, v) (List.contains_iff_mem.mp h))
  have px_z1 := fun (q n : Nat) (h : px_l1.contains (q, n) = true) (k : Int) (a : 0 ≤ k) (b : k < n) => (show gi (px_Sm M) q k = 0 from h1 (q, n) (List.contains_iff_mem.mp h) k.toNat (show k.toNat < n by omega))
  have g0 : gn (px_Sm M) = 103 := hn
  have r := fun (q k t : Nat) (i : Nat) (h : wh_rfl[i]? = some (q, k, t)) => (hSh.2.2 (q, k, t) (List.mem_of_getElem? h) : gr (px_Sm M) q k = some t)
  have z0_10 : gi (px_Sm M) 0 10 = 0 := px_z 0 10 0 rfl
  have z55_0 : gi (px_Sm M) 55 0 = 0 := px_z 55 0 0 rfl
  have z0_7 : gi (px_Sm M) 0 7 = 0 := px_z 0 7 0 rfl
  have z55_19 : gi (px_Sm M) 55 19 = 0 := px_z 55 19 0 rfl
  have z45_8 : gi (px_Sm M) 45 8 = 0 := px_z 45 8 0 rfl
  have z45_9 : gi (px_Sm M) 45 9 = 0 := px_z 45 9 0 rfl
  have z55_53 : gi (px_Sm M) 55 53 = 0 := px_z 55 53 0 rfl
  have z55_1 : gi (px_Sm M) 55 1 = 0 := px_z 55 1 0 rfl
  have z1_7 : gi (px_Sm M) 1 7 = 0 := px_z 1 7 0 rfl
  have z1_8 : gi (px_Sm M) 1 8 = 0 := px_z 1 8 0 rfl
  have z55_3 : gi (px_Sm M) 55 3 = 0 := px_z 55 3 0 rfl
  have z55_2 : gi (px_Sm M) 55 2 = 0 := px_z 55 2 0 rfl
  have z11_4 : gi (px_Sm M) 11 4 = 0 := px_z 11 4 0 rfl
  have z8_2 : gi (px_Sm M) 8 2 = 0 := px_z 8 2 0 rfl
  have z55_18 : gi (px_Sm M) 55 18 = 0 := px_z 55 18 0 rfl
  have z23_2 : gi (px_Sm M) 23 2 = 0 := px_z 23 2 0 rfl
  have z24_1 : gi (px_Sm M) 24 1 = 0 := px_z 24 1 0 rfl
  have z24_2 : gi (px_Sm M) 24 2 = 0 := px_z 24 2 0 rfl
  have z24_3 : gi (px_Sm M) 24 3 = 0 := px_z 24 3 0 rfl
  have z24_4 : gi (px_Sm M) 24 4 = 0 := px_z 24 4 0 rfl
  have z30_15 : gi (px_Sm M) 30 15 = 0 := px_z 30 15 0 rfl
  have z55_26 : gi (px_Sm M) 55 26 = 0 := px_z 55 26 0 rfl
  have z0_9 : gi (px_Sm M) 0 9 = -1 := px_z 0 9 (-1) rfl
  have z55_25 : gi (px_Sm M) 55 25 = -1 := px_z 55 25 (-1) rfl
  have z24_0 : gi (px_Sm M) 24 0 = -1 := px_z 24 0 (-1) rfl
  have z30_17 : gi (px_Sm M) 30 17 = -1 := px_z 30 17 (-1) rfl
  have z25_0 : gi (px_Sm M) 25 0 = -1 := px_z 25 0 (-1) rfl
  have z25_1 : gi (px_Sm M) 25 1 = -1 := px_z 25 1 (-1) rfl
  have z25_2 : gi (px_Sm M) 25 2 = -1 := px_z 25 2 (-1) rfl
  have z25_3 : gi (px_Sm M) 25 3 = 0 := px_z 25 3 0 rfl
  have z25_4 : gi (px_Sm M) 25 4 = 0 := px_z 25 4 0 rfl
  have z25_5 : gi (px_Sm M) 25 5 = -1 := px_z 25 5 (-1) rfl
  have DI : DayI (px_Sm M) := ⟨by rw [z0_10, z55_0], by rw [z55_0]; decide⟩
  have TI : TapeI (px_Sm M) := ⟨by rw [z0_7, z55_19], by rw [z55_19]; decide, fun k a b => by omega⟩
  have MI : MoveI (px_Sm M) := by
    refine ⟨by rw [z45_8, z55_53]; decide, fun k a b => by omega, fun k a b => ?_, ?_⟩
    · rw [px_z1 52 20 rfl k a b, px_z1 100 20 rfl k a b, px_z1 53 20 rfl k a b, px_z1 101 20 rfl k a b]
      exact ⟨rfl, rfl, Or.inl rfl, fun _ => rfl⟩
    · rw [z45_9]
      have key : ∀ n : Nat, n ≤ 20 → sm (fun k => gi (px_Sm M) 101 k) n = 0 := by
        intro n
        induction n with
        | zero => intro _; rfl
        | succ n ih =>
          intro h
          rw [sm_s, ih (by omega), px_z1 101 20 rfl n (by omega) (by omega)]
          rfl
      exact (key 20 (Nat.le_refl _)).symm
  have BI : Bas (px_Sm M) := by
    refine ⟨⟨by rw [z55_2, z11_4]; decide, fun k a b => by omega, fun k a => by omega, fun s y w a b c d e f => ?_⟩, ⟨by rw [z55_1, z1_7, z1_8, z55_3]; decide, fun k a b => by omega, ⟨fun _ => 0, fun k a b => by omega⟩⟩, fun k a b => ?_, fun k a b => ?_⟩
    · rw [z55_2]
      exact h2 ((s * 10 + y) * 6 + w).toNat (by omega)
    · rw [px_z1 7 8 rfl k a b, px_z1 59 8 rfl k a b]; decide
    · rw [px_z1 9 256 rfl k a b, px_z1 60 256 rfl k a b]; decide
  have WI : WaysI (px_Sm M) := ⟨Or.inl z8_2, fun z => by rw [z8_2] at z; cases z⟩
  have HI : HpI (px_Sm M) := ⟨px_ln hn hSh.2.1 (by decide) rfl, px_ln hn hSh.2.1 (by decide) rfl, px_ln hn hSh.2.1 (by decide) rfl, px_ln hn hSh.2.1 (by decide) rfl, px_ln hn hSh.2.1 (by decide) rfl, px_ln hn hSh.2.1 (by decide) rfl, px_ln hn hSh.2.1 (by decide) rfl⟩
  have LI : LwR (px_Sm M) 24 (-1) := by
    have n0 : nsF (gi (px_Sm M)) (-1) = 0 := if_pos rfl
    have l0 : ∀ w, lst (gi (px_Sm M)) (-1) w = -1 := fun w => by unfold lst; rw [n0]; rfl
    have t0 : ∀ w o, tls (gi (px_Sm M)) (-1) w o = o := fun w o => by unfold tls; rw [l0, if_pos rfl]
    have l28 : gln (px_Sm M) (24 + 4) 0 = 0 := px_ln hn hSh.2.1 (by decide) rfl
    refine ⟨⟨px_ob hn hSh.2.1 (by decide) rfl, ⟨r 24 5 25 28 rfl, r 24 6 26 29 rfl, r 24 7 27 30 rfl, r 24 8 28 31 rfl⟩, px_ln hn hSh.2.1 (by decide) rfl, ?_, ?_, ?_, ?_, Or.inl rfl⟩, ⟨?_, ?_⟩, ?_, fun i hi => ?_, fun _ => l28, fun j hj => ?_⟩
    · rw [z24_4]; exact px_ln hn hSh.2.1 (by decide) rfl
    · rw [z24_4]; exact px_ln hn hSh.2.1 (by decide) rfl
    · rw [l28]; decide
    · rw [z24_4]; decide
    · rw [z24_3, n0]
    · rw [z24_4, n0]; rfl
    · rw [t0, t0, t0, t0, t0, t0]
      exact ⟨z25_0, z25_1, z25_2, z25_3, z25_4, z25_5⟩
    · rw [n0] at hi; omega
    · rw [l28] at hj; omega
  have FI : FormI (px_Sm M) := by
    refine ⟨⟨by rw [z55_18]; decide, fun k a b => by omega⟩, by rw [z23_2, z55_18], ⟨LI, z24_0, z24_1, z24_2⟩, fun k a => by omega, ⟨?_, fun q hq => ?_⟩⟩
    · rw [show gr (px_Sm M) 0 8 = none from h4, z55_26]; simp
    · rw [show gr (px_Sm M) 0 8 = none from h4] at hq; cases hq
  have KI : px_KI (px_Sm M) := by
    refine ⟨fun k a b => h3 k.toNat (by omega), ⟨px_ln hn hSh.2.1 (by decide) rfl, px_ln hn hSh.2.1 (by decide) rfl, px_ln hn hSh.2.1 (by decide) rfl, px_ln hn hSh.2.1 (by decide) rfl⟩, fun k a b => ?_, Nat.le_of_eq g0.symm⟩
    rw [px_z1 75 300 rfl k (by omega) b, px_z1 76 300 rfl k (by omega) b, px_z1 77 300 rfl k (by omega) b]
    decide
  have BK : Bk (px_Sm M) := ⟨DI, ⟨BI, WI, HI, FI, PasI.zero z30_15, z30_17⟩, TI, MI, by rw [z0_9, z55_25]⟩
  have gl0 : gs (px_Sm M) ≤ 50000 + 900 * 0 := hs
  exact Exists.intro (px_Sm M) ⟨px_Sm_rel hSh, ⟨BK, KI⟩, Nat.le_of_eq g0, gl0⟩
