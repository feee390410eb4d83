/-! the formulae: which is in force, what it sets, its lines -/
def iF (F : Nat → Int → Int) (y d : Int) : Nat → Int
  | 0 => -1
  | k + 1 => if F 72 k ≤ d ∧ F 71 k ≤ y ∧ (iF F y d k = -1 ∨ F 71 (iF F y d k) ≤ F 71 k) then (k : Int) else iF F y d k
theorem iF_s (F : Nat → Int → Int) (y d : Int) (k : Nat) : iF F y d (k + 1) = if F 72 k ≤ d ∧ F 71 k ≤ y ∧ (iF F y d k = -1 ∨ F 71 (iF F y d k) ≤ F 71 k) then (k : Int) else iF F y d k := rfl
def inF (F : Nat → Int → Int) (y d : Int) : Int := iF F y d (F 55 18).toNat
theorem iF_rng (F : Nat → Int → Int) (y d : Int) (k : Nat) : -1 ≤ iF F y d k ∧ iF F y d k < k := by
  induction k with
  | zero => unfold iF; omega
  | succ k ih => rw [iF_s]; split <;> omega
def nsF (F : Nat → Int → Int) (f : Int) : Int := if f = -1 then 0 else F 70 f
def lstF (F : Nat → Int → Int) (f w : Int) : Nat → Int
  | 0 => -1
  | i + 1 => if F 73 (30 * f + i) = w then 30 * f + i else lstF F f w i
theorem lstF_s (F : Nat → Int → Int) (f w : Int) (i : Nat) : lstF F f w (i + 1) = if F 73 (30 * f + i) = w then 30 * f + i else lstF F f w i := rfl
def lst (F : Nat → Int → Int) (f w : Int) : Int := lstF F f w (nsF F f).toNat
def tls (F : Nat → Int → Int) (f w o : Int) : Int := if lst F f w = -1 then o else F 74 (lst F f w)
theorem lstF_rng (F : Nat → Int → Int) (f w : Int) (hf : 0 ≤ f) (i : Nat) : lstF F f w i = -1 ∨ ((30 * f ≤ lstF F f w i ∧ lstF F f w i < 30 * f + i) ∧ F 73 (lstF F f w i) = w) := by
  induction i with
  | zero => exact Or.inl rfl
  | succ i ih =>
    rw [lstF_s]
    by_cases h : F 73 (30 * f + i) = w
    · rw [if_pos h]; exact Or.inr ⟨by omega, h⟩
    · rw [if_neg h]
      rcases ih with z | z
      · exact Or.inl z
      · exact Or.inr ⟨by omega, z.2⟩
/-- how many of the first statements are lines -/
def rk (F : Nat → Int → Int) (f : Int) : Nat → Nat
  | 0 => 0
  | i + 1 => if F 73 (30 * f + i) = 0 then rk F f i + 1 else rk F f i
theorem rk_s (F : Nat → Int → Int) (f : Int) (i : Nat) : rk F f (i + 1) = if F 73 (30 * f + i) = 0 then rk F f i + 1 else rk F f i := rfl
theorem rk_le (F : Nat → Int → Int) (f : Int) (i : Nat) : rk F f i ≤ i := by
  induction i with
  | zero => exact Nat.le_refl _
  | succ i ih => rw [rk_s]; split <;> omega
theorem rk_mono (F : Nat → Int → Int) (f : Int) {i j : Nat} (h : i ≤ j) : rk F f i ≤ rk F f j := by
  induction j with
  | zero => rw [show i = 0 by omega]; exact Nat.le_refl _
  | succ j ih =>
    by_cases hij : i = j + 1
    · rw [hij]; exact Nat.le_refl _
    · have := ih (by omega)
      rw [rk_s]
      split <;> omega
/-- code that comes to one value, whatever words and lines are -/
def Gd (xs : List (Int × Int)) (c : Bool) : Prop := ∀ W L : Int → Int, (∀ i : Int, 0 ≤ i → i < 10 → -100000000 ≤ W i ∧ W i ≤ 100000000) → (∀ i : Int, 0 ≤ i → i < 30 → -100000000 ≤ L i ∧ L i ≤ 100000000) → ∃ v, ev W L xs [] = some [v] ∧ (-100000000 ≤ v ∧ v ≤ 100000000) ∧ (c = true → v = 0 ∨ v = 1)
/-- a statement as it stands in the reference's rows -/
def StOk (F : Nat → Int → Int) (f : Int) (i : Nat) : Prop :=
  (0 ≤ F 73 (30 * f + i) ∧ F 73 (30 * f + i) ≤ 6) ∧
  (F 73 (30 * f + i) = 0 → F 74 (30 * f + i) = rk F f i ∧ (1500 * f ≤ F 75 (30 * f + i) ∧ F 75 (30 * f + i) ≤ F 76 (30 * f + i) ∧ F 76 (30 * f + i) ≤ F 77 (30 * f + i) ∧ F 77 (30 * f + i) ≤ 1500 * f + 700) ∧
    Gd (sgm F (F 76 (30 * f + i) - F 75 (30 * f + i)).toNat (F 75 (30 * f + i))) false ∧ (F 76 (30 * f + i) < F 77 (30 * f + i) → Gd (sgm F (F 77 (30 * f + i) - F 76 (30 * f + i)).toNat (F 76 (30 * f + i))) true)) ∧
  ((F 73 (30 * f + i) = 1 ∨ F 73 (30 * f + i) = 2) → 0 ≤ F 74 (30 * f + i) ∧ F 74 (30 * f + i) ≤ 1000) ∧
  (F 73 (30 * f + i) = 3 → 0 ≤ F 74 (30 * f + i) ∧ F 74 (30 * f + i) ≤ 9999999) ∧
  (F 73 (30 * f + i) = 4 → 0 ≤ F 74 (30 * f + i) ∧ F 74 (30 * f + i) ≤ 100) ∧
  (F 73 (30 * f + i) = 5 → F 74 (30 * f + i) = 0 ∨ F 74 (30 * f + i) = 1) ∧
  (F 73 (30 * f + i) = 6 → 0 ≤ F 74 (30 * f + i) ∧ F 74 (30 * f + i) < rk F f i)
def FOk (F : Nat → Int → Int) (f : Int) : Prop := (0 ≤ nsF F f ∧ nsF F f ≤ 30) ∧ ∀ i : Nat, (i : Int) < nsF F f → StOk F f i
theorem FOk_m1 (F : Nat → Int → Int) : FOk F (-1) := ⟨by unfold nsF; rw [if_pos rfl]; omega, fun i hi => by unfold nsF at hi; rw [if_pos rfl] at hi; omega⟩
theorem lst_rng {F : Nat → Int → Int} {f : Int} (h : FOk F f) (hf : -1 ≤ f) (w : Int) : lst F f w = -1 ∨ ((30 * f ≤ lst F f w ∧ lst F f w < 30 * f + nsF F f ∧ 0 ≤ f) ∧ F 73 (lst F f w) = w ∧ ∃ i : Nat, lst F f w = 30 * f + i ∧ (i : Int) < nsF F f) := by
  by_cases hm : f = -1
  · left
    unfold lst nsF
    rw [hm, if_pos rfl]
    rfl
  · unfold lst
    rcases lstF_rng F f w (by omega) (nsF F f).toNat with z | ⟨z, z2⟩
    · exact Or.inl z
    · have := h.1
      exact Or.inr ⟨by omega, z2, ⟨(lstF F f w (nsF F f).toNat - 30 * f).toNat, by omega, by omega⟩⟩
/-- what the settings are -/
theorem tls_rng {F : Nat → Int → Int} {f : Int} (h : FOk F f) (hf : -1 ≤ f) : (-1 ≤ tls F f 1 (-1) ∧ tls F f 1 (-1) ≤ 1000) ∧ (-1 ≤ tls F f 2 (-1) ∧ tls F f 2 (-1) ≤ 1000) ∧ (-1 ≤ tls F f 3 (-1) ∧ tls F f 3 (-1) ≤ 9999999) ∧ (0 ≤ tls F f 4 0 ∧ tls F f 4 0 ≤ 100) ∧ (tls F f 5 0 = 0 ∨ tls F f 5 0 = 1) ∧ (-1 ≤ tls F f 6 (-1) ∧ tls F f 6 (-1) < rk F f (nsF F f).toNat) := by
  have key : ∀ w o : Int, tls F f w o = o ∨ ∃ i : Nat, (i : Int) < nsF F f ∧ F 73 (30 * f + i) = w ∧ tls F f w o = F 74 (30 * f + i) := by
    intro w o
    unfold tls
    rcases lst_rng h hf w with z | ⟨-, z2, i, z3, z4⟩
    · left; rw [if_pos z]
    · by_cases hc : lst F f w = -1
      · left; rw [if_pos hc]
      · right
        rw [if_neg hc]
        exact ⟨i, z4, by rw [← z3]; exact z2, by rw [z3]⟩
  have h1 := h.1
  refine ⟨?_, ?_, ?_, ?_, ?_, ?_⟩
  · rcases key 1 (-1) with z | ⟨i, a, b, c⟩
    · omega
    · rw [c]; have := (h.2 i a).2.2.1 (Or.inl b); omega
  · rcases key 2 (-1) with z | ⟨i, a, b, c⟩
    · omega
    · rw [c]; have := (h.2 i a).2.2.1 (Or.inr b); omega
  · rcases key 3 (-1) with z | ⟨i, a, b, c⟩
    · omega
    · rw [c]; have := (h.2 i a).2.2.2.1 b; omega
  · rcases key 4 0 with z | ⟨i, a, b, c⟩
    · omega
    · rw [c]; exact (h.2 i a).2.2.2.2.1 b
  · rcases key 5 0 with z | ⟨i, a, b, c⟩
    · exact Or.inl z
    · rw [c]; exact (h.2 i a).2.2.2.2.2.1 b
  · rcases key 6 (-1) with z | ⟨i, a, b, c⟩
    · omega
    · rw [c]
      have h6 := (h.2 i a).2.2.2.2.2.2 b
      have := rk_mono F f (i := i) (j := (nsF F f).toNat) (by omega)
      omega
section FM
variable {S : gM}
theorem g161_eq {f : Int} (w : Int) (h : FOk (gi S) f) (hf : -1 ≤ f ∧ f < 9) : g161 f w S = some (lst (gi S) f w, S) := by
  unfold g161 lst
  rw [ckI_t (by omega)]
  by_cases hm : f = -1
  · subst hm
    unfold nsF
    rw [if_pos rfl]
    have key : ∀ n : Nat, 0 < n → g161_l8 (-1) w n (-1) (30 * -1) S = some (-1, S) := by
      intro n hn
      cases n with
      | zero => omega
      | succ n => dsimp only [g161_l8]; rw [if_pos rfl]
    exact key 100000 (by omega)
  · have e : nsF (gi S) f = gi S 70 f := by unfold nsF; rw [if_neg hm]
    have h1 := h.1
    rw [e] at h1 ⊢
    have key := upto (gi S 70 f).toNat (fun n i => g161_l8 f w n (lstF (gi S) f w i) (30 * f + i) S = some (lstF (gi S) f w (gi S 70 f).toNat, S)) ?_ 100000 0 (Nat.zero_le _) (by omega)
    · rw [show 30 * f + ((0 : Nat) : Int) = 30 * f by omega] at key
      exact key
    · intro n i hi ih
      dsimp only [g161_l8]
      rw [if_neg hm, ckI_t (by omega), chk_t (by omega), lt_t, ckI_t (by omega)]
      by_cases hc : 30 * f + gi S 70 f ≤ 30 * f + i
      · rw [if_pos hc, show i = (gi S 70 f).toNat by omega]
      · rw [if_neg hc, chk_t (by omega), lt_t]
        have ih := ih (by omega)
        rw [lstF_s, show 30 * f + ((i + 1 : Nat) : Int) = 30 * f + i + 1 by omega] at ih
        by_cases hd : gi S 73 (30 * f + i) = w
        · rw [if_neg (fun z => z hd), ckI_t (by omega)]
          rw [if_pos hd] at ih
          exact ih
        · rw [if_pos hd, ckI_t (by omega)]
          rw [if_neg hd] at ih
          exact ih
theorem g162_eq {f : Int} (w o : Int) (h : FOk (gi S) f) (hf : -1 ≤ f ∧ f < 9) : g162 f w o S = some (tls (gi S) f w o, S) := by
  unfold g162 tls
  rw [g161_eq w h hf, ob_s]
  dsimp only
  by_cases hc : lst (gi S) f w = -1
  · rw [if_neg (fun z => z hc), if_pos hc]
  · rw [if_pos hc, g161_eq w h hf, ob_s, if_neg hc]
    dsimp only
    have h1 := h.1
    rcases lst_rng h hf.1 w with z | ⟨z, -, -⟩
    · exact absurd z hc
    · rw [chk_t (by omega), lt_t]
def FormN (S : gM) : Prop := (0 ≤ gi S 55 18 ∧ gi S 55 18 ≤ 8) ∧ ∀ k : Int, 0 ≤ k → k < gi S 55 18 → (0 ≤ gi S 71 k ∧ gi S 71 k < 10) ∧ (0 ≤ gi S 72 k ∧ gi S 72 k ≤ 999)
theorem g160_eq (h : FormN S) (y d : Int) : g160 y d S = some (inF (gi S) y d, S) := by
  unfold g160 inF
  have h1 := h.1
  refine upto (gi S 55 18).toNat (fun n k => g160_l5 y d n (iF (gi S) y d k) k S = some (iF (gi S) y d (gi S 55 18).toNat, S)) ?_ 100000 0 (Nat.zero_le _) (by omega)
  intro n k hk ih
  dsimp only [g160_l5]
  rw [lt_t]
  by_cases hc : gi S 55 18 ≤ k
  · rw [if_pos hc, show k = (gi S 55 18).toNat by omega]
  · rw [if_neg hc, chk_t (by omega), lt_t]
    have ih := ih (by omega)
    rw [iF_s] at ih
    have hr := iF_rng (gi S) y d k
    by_cases c1 : d < gi S 72 k
    · rw [if_pos c1, ckI_t (by omega)]
      rw [if_neg (by omega)] at ih
      exact ih
    · rw [if_neg c1, chk_t (by omega), lt_t]
      by_cases c2 : y < gi S 71 k
      · rw [if_pos c2, ckI_t (by omega)]
        rw [if_neg (by omega)] at ih
        exact ih
      · rw [if_neg c2]
        by_cases c3 : iF (gi S) y d k = -1
        · rw [if_pos c3, ckI_t (by omega)]
          rw [if_pos ⟨by omega, by omega, Or.inl c3⟩] at ih
          exact ih
        · rw [if_neg c3, chk_t (by omega), lt_t, chk_t (by omega), lt_t]
          by_cases c4 : gi S 71 k < gi S 71 (iF (gi S) y d k)
          · rw [if_pos c4, ckI_t (by omega)]
            rw [if_neg (fun z => by rcases z.2.2 with w | w; exact c3 w; omega)] at ih
            exact ih
          · rw [if_neg c4, ckI_t (by omega)]
            rw [if_pos ⟨by omega, by omega, Or.inr (by omega)⟩] at ih
            exact ih
/-- the place of a line by its rank -/
theorem pos_ex (F : Nat → Int → Int) (f : Int) (r : Nat) : ∀ n : Nat, r < rk F f n → ∃ i : Nat, i < n ∧ F 73 (30 * f + i) = 0 ∧ rk F f i = r := by
  intro n
  induction n with
  | zero => intro h; unfold rk at h; omega
  | succ n ih =>
    intro h
    rw [rk_s] at h
    by_cases hc : F 73 (30 * f + n) = 0
    · rw [if_pos hc] at h
      by_cases hr : r = rk F f n
      · exact ⟨n, by omega, hc, hr.symm⟩
      · obtain ⟨i, a, b, c⟩ := ih (by omega)
        exact ⟨i, by omega, b, c⟩
    · rw [if_neg hc] at h
      obtain ⟨i, a, b, c⟩ := ih h
      exact ⟨i, by omega, b, c⟩
theorem rk_lt {F : Nat → Int → Int} {f : Int} {i j : Nat} (h : i < j) (hi : F 73 (30 * f + i) = 0) : rk F f i < rk F f j := by
  have := rk_mono F f (i := i + 1) (j := j) (by omega)
  rw [rk_s, if_pos hi] at this
  omega
theorem g163_eq {f : Int} (h : FOk (gi S) f) (hf : 0 ≤ f ∧ f < 9) {i : Nat} (hi : (i : Int) < nsF (gi S) f) (h0 : gi S 73 (30 * f + i) = 0) : g163 f (rk (gi S) f i) S = some ((i : Int), S) := by
  unfold g163
  have h1 := h.1
  rw [ckI_t (by omega)]
  have key := upto i (fun n j => g163_l5 (rk (gi S) f i) n (30 * f + j) S = some ((i : Int), S)) ?_ 100000 0 (Nat.zero_le _) (by omega)
  · rw [show 30 * f + ((0 : Nat) : Int) = 30 * f by omega] at key
    exact key
  · intro n j hj ih
    dsimp only [g163_l5]
    rw [chk_t (by omega), lt_t]
    by_cases hc : gi S 73 (30 * f + j) = 0
    · rw [if_neg (fun z => z hc), chk_t (by omega), lt_t]
      have hv := ((h.2 j (by omega)).2.1 hc).1
      by_cases hd : j = i
      · subst hd
        rw [if_pos hv, td_pos (by omega), ckI_t (by omega), lt_t, tm_pos (by omega)]
        have : (30 * f + (j : Int)) % 30 = j := by omega
        rw [this]
      · have hlt := rk_lt (F := gi S) (f := f) (i := j) (j := i) (by omega) hc
        rw [if_neg (by omega), ckI_t (by omega)]
        have ih := ih (by omega)
        rw [show 30 * f + ((j + 1 : Nat) : Int) = 30 * f + j + 1 by omega] at ih
        exact ih
    · have hne : j ≠ i := fun z => by subst z; exact hc h0
      rw [if_pos hc, ckI_t (by omega)]
      have ih := ih (by omega)
      rw [show 30 * f + ((j + 1 : Nat) : Int) = 30 * f + j + 1 by omega] at ih
      exact ih
end FM
