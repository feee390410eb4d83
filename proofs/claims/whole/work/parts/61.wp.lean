/-! the rules for proofs over the second language; frames -/
def Wp {α : Type} (Q : α → Prop) (o : Option α) : Prop := ∃ r, o = some r ∧ Q r
section WP
variable {α β : Type} {Q : α → Prop}
theorem p_chk {c : Prop} [Decidable c] {o : Option α} (h : c) (k : Wp Q o) : Wp Q (w_chk c o) := by unfold w_chk; rw [if_pos h]; exact k
theorem p_lt {x : β} {f : β → Option α} (k : Wp Q (f x)) : Wp Q (w_lt x f) := k
theorem p_let {x : β} {f : β → Option α} (k : ∀ v, v = x → Wp Q (f v)) : Wp Q (w_lt x f) := k x rfl
theorem p_ckI {x : Int} {f : Int → Option α} (h : -2147483648 ≤ x ∧ x ≤ 2147483647) (k : Wp Q (f x)) : Wp Q (w_ckI x f) := by unfold w_ckI; rw [if_pos h]; exact k
theorem p_ckJ {x : Int} {f : Int → Option α} (h : -9223372036854775808 ≤ x ∧ x ≤ 9223372036854775807) (k : Wp Q (f x)) : Wp Q (w_ckJ x f) := by unfold w_ckJ; rw [if_pos h]; exact k
theorem p_if {c : Prop} [Decidable c] {a b : Option α} (h1 : c → Wp Q a) (h2 : ¬ c → Wp Q b) : Wp Q (if c then a else b) := by
  by_cases h : c
  · rw [if_pos h]; exact h1 h
  · rw [if_neg h]; exact h2 h
theorem p_some {r : α} (h : Q r) : Wp Q (some r) := ⟨r, rfl, h⟩
theorem p_bind {o : Option β} {f : β → Option α} (h : Wp (fun v => Wp Q (f v)) o) : Wp Q (o.bind f) := by
  obtain ⟨v, rfl, h⟩ := h
  exact h
theorem p_call {o : Option β} {f : β → Option α} {v : β} (e : o = some v) (h : Wp Q (f v)) : Wp Q (o.bind f) := by rw [e]; exact h
theorem p_use {P : β → Prop} {o : Option β} {f : β → Option α} (e : Wp P o) (h : ∀ v, P v → Wp Q (f v)) : Wp Q (o.bind f) := by
  obtain ⟨v, rfl, hv⟩ := e
  exact h v hv
theorem p_imp {P : α → Prop} {o : Option α} (e : Wp P o) (h : ∀ v, P v → Q v) : Wp Q o := by
  obtain ⟨v, rfl, hv⟩ := e
  exact ⟨v, rfl, h v hv⟩
theorem p_eq {o : Option α} {r : α} (e : Wp (fun v => v = r) o) : o = some r := by
  obtain ⟨v, rfl, rfl⟩ := e
  rfl
/-- a loop with a counter that goes up to N: the step -/
theorem upto (N : Nat) (P : Nat → Nat → Prop) (h : ∀ n k, k ≤ N → (k < N → P n (k + 1)) → P (n + 1) k) : ∀ n k, k ≤ N → N - k < n → P n k := by
  intro n
  induction n with
  | zero => intro k h1 h2; omega
  | succ n ih => intro k h1 h2; exact h n k h1 (fun h3 => ih (k + 1) h3 (by omega))
end WP
/-- regions: a cell; of the cells that hold unlike things, a field -/
def rg (q : Nat) (k : Int) : Nat := if q = 0 ∨ q = 1 ∨ q = 11 ∨ q = 16 ∨ q = 30 ∨ q = 45 ∨ q = 55 then 1000000000 + 1000 * q + k.toNat else q
def Fr (W : List Nat) (S S' : gM) : Prop := S'.2.2 = S.2.2 ∧ ∀ q k, W.contains (rg q k) = false → gi S' q k = gi S q k ∧ gl S' q k = gl S q k
section FR
variable {S S' S'' : gM} {W W' : List Nat}
theorem Fr.refl : Fr W S S := ⟨rfl, fun _ _ _ => ⟨rfl, rfl⟩⟩
theorem Fr.trans (h : Fr W S S') (h2 : Fr W S' S'') : Fr W S S'' := ⟨h2.1.trans h.1, fun q k hw => ⟨(h2.2 q k hw).1.trans (h.2 q k hw).1, (h2.2 q k hw).2.trans (h.2 q k hw).2⟩⟩
theorem Fr.mono (h : Fr W S S') (hw : W.all (fun x => W'.contains x) = true) : Fr W' S S' := ⟨h.1, fun q k hk => h.2 q k (by
  cases hc : W.contains (rg q k) with
  | false => rfl
  | true =>
    have h1 := List.all_eq_true.mp hw _ (List.contains_iff_mem.mp hc)
    rw [hk] at h1
    cases h1)⟩
theorem Fr.i (h : Fr W S S') {q : Nat} {k : Int} (hw : W.contains (rg q k) = false) : gi S' q k = gi S q k := (h.2 q k hw).1
theorem Fr.l (h : Fr W S S') {q : Nat} {k : Int} (hw : W.contains (rg q k) = false) : gl S' q k = gl S q k := (h.2 q k hw).2
theorem Fr.wi (h : Fr W S S') {q : Nat} {k v : Int} (hw : W.contains (rg q k) = true) : Fr W S (wi S' q k v) := ⟨h.1, fun a b hab => by
  have hne : ¬ (a = q ∧ b = k) := fun z => by rw [z.1, z.2, hw] at hab; cases hab
  refine ⟨?_, (h.2 a b hab).2⟩
  show (if a = q ∧ b = k then v else gi S' a b) = _
  rw [if_neg hne]
  exact (h.2 a b hab).1⟩
theorem Fr.wl (h : Fr W S S') {q : Nat} {k v : Int} (hw : W.contains (rg q k) = true) : Fr W S (wl S' q k v) := ⟨h.1, fun a b hab => by
  have hne : ¬ (a = q ∧ b = k) := fun z => by rw [z.1, z.2, hw] at hab; cases hab
  refine ⟨(h.2 a b hab).1, ?_⟩
  show (if a = q ∧ b = k then v else gl S' a b) = _
  rw [if_neg hne]
  exact (h.2 a b hab).2⟩
theorem gi_wi {q a : Nat} {k v b : Int} : gi (wi S q k v) a b = if a = q ∧ b = k then v else gi S a b := rfl
theorem gl_wl {q a : Nat} {k v b : Int} : gl (wl S q k v) a b = if a = q ∧ b = k then v else gl S a b := rfl
theorem gl_wi {q a : Nat} {k v b : Int} : gl (wi S q k v) a b = gl S a b := rfl
theorem gi_wl {q a : Nat} {k v b : Int} : gi (wl S q k v) a b = gi S a b := rfl
theorem gi_wcl {p q a : Nat} {i j n b : Int} : gi (wcl S p q i j n) a b = gi S a b := rfl
theorem gl_wcl {p q a : Nat} {i j n b : Int} : gl (wcl S p q i j n) a b = if a = q ∧ j ≤ b ∧ b < j + n then gl S p (i + (b - j)) else gl S a b := rfl
theorem Fr.wcl (h : Fr W S S') {p q : Nat} {i j n : Int} (hw : ∀ k, W.contains (rg q k) = true) : Fr W S (wcl S' p q i j n) := ⟨h.1, fun a b hab => by
  have hne : ¬ (a = q ∧ j ≤ b ∧ b < j + n) := fun z => by rw [z.1, hw] at hab; cases hab
  refine ⟨(h.2 a b hab).1, ?_⟩
  show (if a = q ∧ j ≤ b ∧ b < j + n then gl S' p (i + (b - j)) else gl S' a b) = _
  rw [if_neg hne]
  exact (h.2 a b hab).2⟩
end FR
/-- what is worked out anew each time: no call's answer is kept there -/
def scr : List Nat := [8, 10, 18, 19, 20, 21, 22, 32, 33, 34, 35, 36, 37, 38, 39, 40, 41, 42, 43, 44, 68, 69, 80, 81, 82, 84, 85, 86, 87, 88, 89, 90, 91, 92, 93, 102,
  1000016006, 1000016007, 1000016008, 1000016010, 1000016011, 1000016012, 1000016013, 1000016014, 1000016015, 1000016016, 1000030015, 1000030016, 1000030017, 1000030018,
  1000055020, 1000055021, 1000055022, 1000055023, 1000055024, 1000055042, 1000055043]
def Sc (S S' : gM) : Prop := Fr scr S S'
/-- the core: what sums are made of (without the formulae's texts) -/
def cr (q : Nat) (k : Int) : Prop := (q = 2 ∨ q = 3 ∨ q = 4 ∨ q = 5 ∨ q = 6 ∨ q = 7 ∨ q = 9 ∨ q = 12 ∨ q = 13 ∨ q = 14 ∨ q = 15) ∨ (56 ≤ q ∧ q ≤ 67) ∨ (q = 1 ∧ (k = 7 ∨ k = 8)) ∨ (q = 11 ∧ k = 4) ∨ (q = 55 ∧ (k = 1 ∨ k = 2 ∨ k = 3))
/-- the books: all else that is kept (without the formulae) -/
def bk (q : Nat) (k : Int) : Prop := (46 ≤ q ∧ q ≤ 54) ∨ (q = 45 ∧ (k = 8 ∨ k = 9)) ∨ q = 83 ∨ (94 ≤ q ∧ q ≤ 101) ∨ (q = 0 ∧ (k = 7 ∨ k = 9 ∨ k = 10)) ∨ (q = 55 ∧ (k = 0 ∨ k = 19 ∨ k = 25 ∨ k = 26 ∨ k = 53))
/-- the formulae: as the class holds them, as the reference does -/
def fm (q : Nat) (k : Int) : Prop := (q = 23 ∧ k = 2) ∨ (24 ≤ q ∧ q ≤ 28) ∨ (103 ≤ q ∧ q < 1000000000) ∨ (q = 55 ∧ k = 18) ∨ (70 ≤ q ∧ q ≤ 72 ∧ k < 9) ∨ (73 ≤ q ∧ q ≤ 77 ∧ k < 270) ∨ (78 ≤ q ∧ q ≤ 79 ∧ k < 13500)
noncomputable def cor (S : gM) : Nat → Int → Int := fun q k => by classical exact if cr q k then gi S q k else 0
noncomputable def bok (S : gM) : Nat → Int → Int := fun q k => by classical exact if bk q k then gi S q k else 0
noncomputable def frm (S : gM) : Nat → Int → Int := fun q k => by classical exact if fm q k then gi S q k else 0
theorem cor_i {S : gM} {q : Nat} {k : Int} (h : cr q k) : cor S q k = gi S q k := by unfold cor; exact if_pos h
theorem bok_i {S : gM} {q : Nat} {k : Int} (h : bk q k) : bok S q k = gi S q k := by unfold bok; exact if_pos h
theorem frm_i {S : gM} {q : Nat} {k : Int} (h : fm q k) : frm S q k = gi S q k := by unfold frm; exact if_pos h
