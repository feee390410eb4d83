/-! scratch and what is kept; the smallest methods -/
theorem cr_scr {q : Nat} {k : Int} (h : cr q k) : scr.contains (rg q k) = false := by
  rcases h with h | h | h | h | h
  · rcases h with h | h | h | h | h | h | h | h | h | h | h <;> subst h <;> rfl
  · have : q = 56 ∨ q = 57 ∨ q = 58 ∨ q = 59 ∨ q = 60 ∨ q = 61 ∨ q = 62 ∨ q = 63 ∨ q = 64 ∨ q = 65 ∨ q = 66 ∨ q = 67 := by omega
    rcases this with h | h | h | h | h | h | h | h | h | h | h | h <;> subst h <;> rfl
  · obtain ⟨rfl, h | h⟩ := h <;> subst h <;> rfl
  · obtain ⟨rfl, h⟩ := h; subst h; rfl
  · obtain ⟨rfl, h | h | h⟩ := h <;> subst h <;> rfl
theorem bk_scr {q : Nat} {k : Int} (h : bk q k) : scr.contains (rg q k) = false := by
  rcases h with h | h | h | h | h | h
  · have : q = 46 ∨ q = 47 ∨ q = 48 ∨ q = 49 ∨ q = 50 ∨ q = 51 ∨ q = 52 ∨ q = 53 ∨ q = 54 := by omega
    rcases this with h | h | h | h | h | h | h | h | h <;> subst h <;> rfl
  · obtain ⟨rfl, h | h⟩ := h <;> subst h <;> rfl
  · subst h; rfl
  · have : q = 94 ∨ q = 95 ∨ q = 96 ∨ q = 97 ∨ q = 98 ∨ q = 99 ∨ q = 100 ∨ q = 101 := by omega
    rcases this with h | h | h | h | h | h | h | h <;> subst h <;> rfl
  · obtain ⟨rfl, h | h | h⟩ := h <;> subst h <;> rfl
  · obtain ⟨rfl, h | h | h | h | h⟩ := h <;> subst h <;> rfl
theorem scr_big {q : Nat} (h1 : 103 ≤ q) (h2 : q < 1000000000) : scr.contains q = false := by
  cases hc : scr.contains q with
  | false => rfl
  | true =>
    have h := List.contains_iff_mem.mp hc
    have h3 := (by decide : ∀ x ∈ scr, x < 103 ∨ 1000000000 ≤ x) q h
    omega
theorem rg_big {q : Nat} {k : Int} (h1 : 56 ≤ q) : rg q k = q := by unfold rg; rw [if_neg (by omega)]
theorem Sc.cE {S S' : gM} (h : Sc S S') : cor S' = cor S := by
  funext q k
  by_cases hc : cr q k
  · rw [cor_i hc, cor_i hc]; exact h.i (cr_scr hc)
  · unfold cor; rw [if_neg hc, if_neg hc]
theorem Sc.bE {S S' : gM} (h : Sc S S') : bok S' = bok S := by
  funext q k
  by_cases hc : bk q k
  · rw [bok_i hc, bok_i hc]; exact h.i (bk_scr hc)
  · unfold bok; rw [if_neg hc, if_neg hc]
theorem fm_scr {q : Nat} {k : Int} (h : fm q k) : scr.contains (rg q k) = false := by
  rcases h with ⟨rfl, rfl⟩ | h | h | ⟨rfl, rfl⟩ | h | h | h
  · rfl
  · have : q = 24 ∨ q = 25 ∨ q = 26 ∨ q = 27 ∨ q = 28 := by omega
    rcases this with h | h | h | h | h <;> subst h <;> rfl
  · rw [rg_big (by omega)]; exact scr_big h.1 h.2
  · rfl
  · have : q = 70 ∨ q = 71 ∨ q = 72 := by omega
    rcases this with h | h | h <;> subst h <;> rfl
  · have : q = 73 ∨ q = 74 ∨ q = 75 ∨ q = 76 ∨ q = 77 := by omega
    rcases this with h | h | h | h | h <;> subst h <;> rfl
  · have : q = 78 ∨ q = 79 := by omega
    rcases this with h | h <;> subst h <;> rfl
theorem Sc.fE {S S' : gM} (h : Sc S S') : frm S' = frm S := by
  funext q k
  by_cases hc : fm q k
  · rw [frm_i hc, frm_i hc]; exact h.i (fm_scr hc)
  · unfold frm; rw [if_neg hc, if_neg hc]
theorem Sc.H {S S' : gM} (h : Sc S S') : S'.2.2 = S.2.2 := h.1
/-- a truth as a number -/
noncomputable def one (c : Prop) : Int := by classical exact if c then 1 else 0
theorem one_t {c : Prop} (h : c) : one c = 1 := by unfold one; exact if_pos h
theorem one_f {c : Prop} (h : ¬ c) : one c = 0 := by unfold one; exact if_neg h
theorem one_01 (c : Prop) : one c = 0 ∨ one c = 1 := by
  by_cases h : c
  · exact Or.inr (one_t h)
  · exact Or.inl (one_f h)
theorem one_0 {c : Prop} : one c = 0 ↔ ¬ c := by
  by_cases h : c
  · rw [one_t h]; simp [h]
  · rw [one_f h]; simp [h]
theorem one_c {c d : Prop} (h : c ↔ d) : one c = one d := by rw [propext h]
theorem chk_01 {α : Type} {c : Prop} {o : Option α} : w_chk (one c = 0 ∨ one c = 1) o = o := by unfold w_chk; exact if_pos (one_01 c)
theorem chk_t {α : Type} {c : Prop} [Decidable c] {o : Option α} (h : c) : w_chk c o = o := by unfold w_chk; exact if_pos h
theorem lt_t {α β : Type} {x : β} {f : β → Option α} : w_lt x f = f x := rfl
theorem ckI_t {α : Type} {x : Int} {f : Int → Option α} (h : -2147483648 ≤ x ∧ x ≤ 2147483647) : w_ckI x f = f x := by unfold w_ckI; exact if_pos h
theorem ckJ_t {α : Type} {x : Int} {f : Int → Option α} (h : -9223372036854775808 ≤ x ∧ x ≤ 9223372036854775807) : w_ckJ x f = f x := by unfold w_ckJ; exact if_pos h
theorem td_pos {a b : Int} (h : 0 ≤ a) : a.tdiv b = a / b := Int.tdiv_eq_ediv_of_nonneg h
theorem tm_pos {a b : Int} (h : 0 ≤ a) : a.tmod b = a % b := Int.tmod_eq_emod_of_nonneg h
section LEAF
variable {S : gM}
theorem g102_eq (a b : Int) : g102 a b S = some (one (0 ≤ a ∧ a < b), S) := by
  unfold g102
  by_cases h1 : a < 0
  · rw [if_pos h1, one_f (by omega)]
  · rw [if_neg h1]
    by_cases h2 : b ≤ a
    · rw [if_pos h2, one_f (by omega)]
    · rw [if_neg h2, one_t (by omega)]
theorem g103_eq (a : Int) : g103 a S = some (one (0 ≤ a ∧ a < 10), S) := by
  unfold g103; rw [g102_eq, ob_s]; exact chk_01
theorem g104_eq (a : Int) : g104 a S = some (one (0 ≤ a ∧ a ≤ 999), S) := by
  unfold g104
  by_cases h1 : a < 0
  · rw [if_pos h1, one_f (by omega)]
  · rw [if_neg h1]
    by_cases h2 : 999 < a
    · rw [if_pos h2, one_f (by omega)]
    · rw [if_neg h2, one_t (by omega)]
theorem g105_eq (a : Int) : g105 a S = some (one (0 ≤ a ∧ a < gi S 1 7), S) := by
  unfold g105; rw [lt_t, g102_eq, ob_s]; exact chk_01
theorem g112_eq (a b c : Int) : g112 a b c S = some (one (b ≤ a ∧ a ≤ c), S) := by
  unfold g112
  by_cases h1 : a < b
  · rw [if_pos h1, one_f (by omega)]
  · rw [if_neg h1]
    by_cases h2 : c < a
    · rw [if_pos h2, one_f (by omega)]
    · rw [if_neg h2, one_t (by omega)]
theorem g113_eq (a : Int) : g113 a S = some (one (¬ a = 0), S) := by
  unfold g113
  by_cases h1 : a = 0
  · rw [if_pos h1, one_f (by omega)]
  · rw [if_neg h1, one_t h1]
theorem g114_eq (a : Int) : g114 a S = some (one (0 ≤ a ∧ a ≤ 999), S) := by
  unfold g114; rw [g112_eq, ob_s]; exact chk_01
theorem g115_eq (a : Int) : g115 a S = some (one (0 ≤ a ∧ a < 10), S) := by
  unfold g115; rw [g112_eq, ob_s, one_c (d := 0 ≤ a ∧ a < 10) (by omega)]; exact chk_01
theorem g116_eq (a : Int) (h : 0 ≤ gi S 55 1 ∧ gi S 55 1 ≤ 12) : g116 a S = some (one (0 ≤ a ∧ a < gi S 55 1), S) := by
  unfold g116; rw [lt_t, ckI_t (by omega), g112_eq, ob_s, one_c (d := 0 ≤ a ∧ a < gi S 55 1) (by omega)]; exact chk_01
theorem g118_eq (h : 0 ≤ gi S 55 0 ∧ gi S 55 0 ≤ 999) : g118 S = some (gi S 55 0 / 100, S) := by
  unfold g118; rw [lt_t, td_pos h.1, ckI_t (by omega)]
theorem g106_eq (a : Int) (h : 0 ≤ gi S 0 10 ∧ gi S 0 10 ≤ 999) : g106 a S = some (one ((0 ≤ a ∧ a < 10) ∧ gi S 0 10 / 100 < a), S) := by
  unfold g106; rw [g103_eq, ob_s]
  dsimp only
  by_cases h1 : 0 ≤ a ∧ a < 10
  · rw [one_t h1, if_neg (by decide), lt_t, td_pos h.1, ckI_t (by omega)]
    by_cases h2 : a ≤ gi S 0 10 / 100
    · rw [if_pos h2, one_f (by omega)]
    · rw [if_neg h2, one_t (by omega)]
  · rw [one_f h1, if_pos rfl, one_f (fun z => h1 z.1)]
theorem g2_eq (a y : Int) (h : gi S 1 7 ≤ 12) (ha : 0 ≤ a) : g2 a y S = some (one (a < gi S 1 7 ∧ y < gi S 6 a), S) := by
  unfold g2; rw [lt_t]
  by_cases h1 : gi S 1 7 ≤ a
  · rw [if_pos h1, one_f (by omega)]
  · rw [if_neg h1, chk_t (by omega), lt_t]
    by_cases h2 : gi S 6 a ≤ y
    · rw [if_pos h2, one_f (by omega)]
    · rw [if_neg h2, one_t (by omega)]
theorem g3_eq (a : Int) (h : 0 ≤ a ∧ a < 12) : g3 a S = some (one (gi S 6 a < 10), S) := by
  unfold g3; rw [chk_t h, lt_t]
  by_cases h2 : 10 ≤ gi S 6 a
  · rw [if_pos h2, one_f (by omega)]
  · rw [if_neg h2, one_t (by omega)]
theorem g122_eq (a y : Int) (h : 0 ≤ a ∧ a < 12) : g122 a y S = some (one (y < gi S 67 a), S) := by
  unfold g122; rw [chk_t h, lt_t]
  by_cases h2 : gi S 67 a ≤ y
  · rw [if_pos h2, one_f (by omega)]
  · rw [if_neg h2, one_t (by omega)]
theorem g58_eq : g58 S = some (wi S 30 15 0) := rfl
end LEAF
