/-! the parser: two runs side by side; the code's pieces -/
/-- both answer something, with Q -/
def W2 {α β : Type} (Q : α → β → Prop) (o : Option α) (o2 : Option β) : Prop := ∃ a b, o = some a ∧ o2 = some b ∧ Q a b
section W2
variable {α β γ δ : Type} {Q : α → β → Prop} {o : Option α} {o2 : Option β}
theorem W2.of (h : W2 Q o o2) : Wp (fun a => Wp (fun b => Q a b) o2) o := by
  obtain ⟨a, b, e1, e2, q⟩ := h
  exact ⟨a, e1, b, e2, q⟩
theorem W2.imp {P : α → β → Prop} (h : W2 P o o2) (k : ∀ a b, P a b → Q a b) : W2 Q o o2 := by
  obtain ⟨a, b, e1, e2, q⟩ := h
  exact ⟨a, b, e1, e2, k a b q⟩
theorem b_some {a : α} {b : β} (h : Q a b) : W2 Q (some a) (some b) := ⟨a, b, rfl, rfl, h⟩
theorem b_bind {P : γ → δ → Prop} {u : Option γ} {u2 : Option δ} {f : γ → Option α} {f2 : δ → Option β} (h : W2 P u u2) (k : ∀ a b, P a b → W2 Q (f a) (f2 b)) : W2 Q (u.bind f) (u2.bind f2) := by
  obtain ⟨a, b, e1, e2, q⟩ := h
  rw [e1, e2]
  exact k a b q
theorem l_lt {x : γ} {f : γ → Option α} (h : W2 Q (f x) o2) : W2 Q (w_lt x f) o2 := h
theorem r_lt {x : γ} {f : γ → Option β} (h : W2 Q o (f x)) : W2 Q o (w_lt x f) := h
theorem l_chk {c : Prop} [Decidable c] (h : c) (k : W2 Q o o2) : W2 Q (w_chk c o) o2 := by rw [chk_t h]; exact k
theorem r_chk {c : Prop} [Decidable c] (h : c) (k : W2 Q o o2) : W2 Q o (w_chk c o2) := by rw [chk_t h]; exact k
theorem l_ckI {x : Int} {f : Int → Option α} (h : -2147483648 ≤ x ∧ x ≤ 2147483647) (k : W2 Q (f x) o2) : W2 Q (w_ckI x f) o2 := by rw [ckI_t h]; exact k
theorem r_ckI {x : Int} {f : Int → Option β} (h : -2147483648 ≤ x ∧ x ≤ 2147483647) (k : W2 Q o (f x)) : W2 Q o (w_ckI x f) := by rw [ckI_t h]; exact k
theorem l_if {c : Prop} [Decidable c] {a b : Option α} (h1 : c → W2 Q a o2) (h2 : ¬ c → W2 Q b o2) : W2 Q (if c then a else b) o2 := by
  by_cases h : c
  · rw [if_pos h]; exact h1 h
  · rw [if_neg h]; exact h2 h
theorem l_ift {c : Prop} [Decidable c] {a b : Option α} (h : c) (h1 : W2 Q a o2) : W2 Q (if c then a else b) o2 := by rw [if_pos h]; exact h1
theorem l_iff {c : Prop} [Decidable c] {a b : Option α} (h : ¬ c) (h1 : W2 Q b o2) : W2 Q (if c then a else b) o2 := by rw [if_neg h]; exact h1
theorem r_ift {c : Prop} [Decidable c] {a b : Option β} (h : c) (h1 : W2 Q o a) : W2 Q o (if c then a else b) := by rw [if_pos h]; exact h1
theorem r_iff {c : Prop} [Decidable c] {a b : Option β} (h : ¬ c) (h1 : W2 Q o b) : W2 Q o (if c then a else b) := by rw [if_neg h]; exact h1
theorem l_bind {P : γ → Prop} {u : Option γ} {f : γ → Option α} (h : Wp P u) (k : ∀ a, P a → W2 Q (f a) o2) : W2 Q (u.bind f) o2 := by
  obtain ⟨a, e, q⟩ := h
  rw [e]
  exact k a q
theorem r_bind {P : γ → Prop} {u : Option γ} {f : γ → Option β} (h : Wp P u) (k : ∀ a, P a → W2 Q o (f a)) : W2 Q o (u.bind f) := by
  obtain ⟨a, e, q⟩ := h
  rw [e]
  exact k a q
theorem l_one {b : β} (h : Wp (fun a => Q a b) o) : W2 Q o (some b) := by
  obtain ⟨a, e, q⟩ := h
  exact ⟨a, b, e, rfl, q⟩
end W2
/-- a piece of code that pushes one value, with at most d more places in use -/
def px_PG (xs : List (Int × Int)) (g : Bool) (d : Nat) : Prop := ∀ W L : Int → Int, (∀ i : Int, 0 ≤ i → i < 10 → -100000000 ≤ W i ∧ W i ≤ 100000000) → (∀ i : Int, 0 ≤ i → i < 30 → -100000000 ≤ L i ∧ L i ≤ 100000000) → ∀ st : List Int, st.length + d ≤ 64 → ∃ v, (∀ ys, ev W L (xs ++ ys) st = ev W L ys (v :: st)) ∧ (-100000000 ≤ v ∧ v ≤ 100000000) ∧ (g = true → v = 0 ∨ v = 1)
section PG
variable {xs ys : List (Int × Int)} {g g' : Bool} {d d' e : Nat}
theorem px_PG.mono (h : px_PG xs g d) (hd : d ≤ e) : px_PG xs g e := fun W L hW hL st hs => h W L hW hL st (by omega)
theorem px_PG.any (h : px_PG xs g d) : px_PG xs false d := fun W L hW hL st hs => by
  obtain ⟨v, a, b, -⟩ := h W L hW hL st hs
  exact ⟨v, a, b, fun z => by cases z⟩
theorem px_PG.num {a : Int} (h : 0 ≤ a ∧ a ≤ 9999999) : px_PG [(0, a)] false 1 := fun W L hW hL st hs => ⟨a, fun ys => by
  rw [List.singleton_append, ev]
  dsimp only
  rw [if_pos rfl, if_pos ⟨by omega, h⟩], by omega, fun z => by cases z⟩
theorem px_PG.word {a : Int} (h : 0 ≤ a ∧ a < 10) : px_PG [(1, a)] false 1 := fun W L hW hL st hs => ⟨W a, fun ys => by
  rw [List.singleton_append, ev]
  dsimp only
  rw [if_neg (by decide), if_pos rfl, if_pos ⟨by omega, h⟩], hW a h.1 h.2, fun z => by cases z⟩
theorem px_PG.name {a : Int} (h : 0 ≤ a ∧ a < 30) : px_PG [(2, a)] false 1 := fun W L hW hL st hs => ⟨L a, fun ys => by
  rw [List.singleton_append, ev]
  dsimp only
  rw [if_neg (by decide), if_neg (by decide), if_pos rfl, if_pos ⟨by omega, h⟩], hL a h.1 h.2, fun z => by cases z⟩
theorem px_PG.bin {k : Int} (h : px_PG xs g d) (h' : px_PG ys g' d') (h1 : d ≤ e) (h2 : d' + 1 ≤ e) (hk : 3 ≤ k ∧ k ≤ 13) (hg : 12 ≤ k → g = true ∧ g' = true) : px_PG (xs ++ ys ++ [(k, 0)]) (decide (9 ≤ k)) e := fun W L hW hL st hs => by
  obtain ⟨x, a, b, c⟩ := h W L hW hL st (by omega)
  obtain ⟨y, a', b', c'⟩ := h' W L hW hL (x :: st) (by rw [List.length_cons]; omega)
  have ok : okB k x y := ⟨hk, b, b', fun z => ⟨c (hg (by omega)).1, c' (hg (by omega)).2⟩⟩
  refine ⟨bth k x y, fun zs => ?_, bth_rng ok, fun z => ?_⟩
  · rw [List.append_assoc, List.append_assoc, a, a', List.singleton_append, ev]
    dsimp only
    rw [if_neg (by omega), if_neg (by omega), if_neg (by omega), if_neg (by omega), if_pos ok]
  · have z := of_decide_eq_true z
    unfold bth
    rw [if_neg (by omega), if_neg (by omega), if_neg (by omega), if_neg (by omega), if_neg (by omega), if_neg (by omega)]
    split
    · split <;> omega
    split
    · split <;> omega
    split
    · split <;> omega
    split
    · split <;> omega
    · split <;> omega
theorem px_PG.not (h : px_PG xs true d) : px_PG (xs ++ [(14, 0)]) true d := fun W L hW hL st hs => by
  obtain ⟨x, a, b, c⟩ := h W L hW hL st hs
  have c := c rfl
  refine ⟨1 - x, fun zs => ?_, by omega, fun _ => by omega⟩
  rw [List.append_assoc, a, List.singleton_append, ev]
  dsimp only
  rw [if_neg (by decide), if_neg (by decide), if_neg (by decide), if_pos rfl, if_pos c]
theorem px_PG.gd (h : px_PG xs g d) (hd : d ≤ 64) : Gd xs g := fun W L hW hL => by
  obtain ⟨v, a, b, c⟩ := h W L hW hL [] (by simp only [List.length_nil]; omega)
  have := a []
  rw [List.append_nil] at this
  exact ⟨v, this, b, c⟩
theorem px_PG.ne (h : px_PG xs g d) (hd : d ≤ 64) : 1 ≤ xs.length := by
  cases xs with
  | nil =>
    obtain ⟨v, a, -, -⟩ := h (fun _ => 0) (fun _ => 0) (fun _ _ _ => by decide) (fun _ _ _ => by decide) [] (by simp only [List.length_nil]; omega)
    have := a []
    unfold ev at this
    cases this
  | cons x t => rw [List.length_cons]; omega
end PG
/-- a step that can be -/
def px_K (x : Int × Int) : Prop := (0 ≤ x.1 ∧ x.1 ≤ 14) ∧ (0 ≤ x.2 ∧ x.2 ≤ 9999999)
/-- the code so far, as both hold it -/
def px_CD (S T : gM) (cd : List (Int × Int)) : Prop := gi S 16 6 = cd.length ∧ gi T 55 24 = 13500 + cd.length ∧ ∀ i : Nat, ∀ x, cd[i]? = some x → px_K x ∧ gi S 18 i = cst x.1 x.2 ∧ gi T 78 (13500 + i) = x.1 ∧ gi T 79 (13500 + i) = x.2
/-- the names so far -/
def px_NM (S T : gM) : Prop := gi S 16 7 = gi T 55 23 ∧ (0 ≤ gi T 55 23 ∧ gi T 55 23 ≤ 30) ∧ ∀ i : Int, 0 ≤ i → i < gi T 55 23 → gl T 80 i = px_c (gl S 21 i) ∧ gl S 21 i = px_d (gl T 80 i) ∧ ¬ gl T 80 i = 0 ∧ ∀ b, 0 ≤ b → b < 23 → ¬ gl T 80 i = px_vk b
/-- what holds of both while they read -/
def px_CO (c r : Int → Int) (n : Int) (S T : gM) (cd : List (Int × Int)) : Prop := (px_CS S c n ∧ px_RS T r n) ∧ gi S 16 16 = -1 ∧ px_CD S T cd ∧ px_NM S T
/-- a token stands before both -/
def px_ST (c r : Int → Int) (n : Int) (S T : gM) (p : Int) (cd : List (Int × Int)) : Prop := px_CO c r n S T cd ∧ px_TK S c n p ∧ (0 ≤ gi T 55 21 ∧ px_R px_bl c n (gi T 55 21) p) ∧ (cd.length : Int) ≤ p
/-- both stand behind a token -/
def px_AD (c r : Int → Int) (n : Int) (S T : gM) (q : Int) (cd : List (Int × Int)) : Prop := px_CO c r n S T cd ∧ (gi S 16 11 = q ∧ gi T 55 21 = q ∧ 0 ≤ q ∧ q ≤ n) ∧ (cd.length : Int) ≤ q
/-- the class has found a fault there -/
def px_BD (S : gM) (f : Int) : Prop := gi S 16 13 = 283 ∧ gi S 16 16 = f ∧ 0 ≤ f ∧ (0 ≤ gi S 16 6 ∧ gi S 16 6 ≤ 700)
/-- the reference's rows of the formulae are left as they are -/
def px_LO (T T' : gM) : Prop := (∀ k : Int, k < 13500 → gi T' 78 k = gi T 78 k ∧ gi T' 79 k = gi T 79 k) ∧ (∀ k : Int, k < 270 → gi T' 73 k = gi T 73 k ∧ gi T' 74 k = gi T 74 k ∧ gi T' 75 k = gi T 75 k ∧ gi T' 76 k = gi T 76 k ∧ gi T' 77 k = gi T 77 k) ∧ (∀ k : Int, k < 9 → gi T' 70 k = gi T 70 k) ∧ ∀ k : Int, (gi T' 75 k = gi T 75 k ∨ (0 ≤ gi T' 75 k ∧ gi T' 75 k ≤ 15000)) ∧ (gi T' 76 k = gi T 76 k ∨ (0 ≤ gi T' 76 k ∧ gi T' 76 k ≤ 15000)) ∧ (gi T' 77 k = gi T 77 k ∨ (0 ≤ gi T' 77 k ∧ gi T' 77 k ≤ 15000))
def px_F (W : List Nat) (T T' : gM) : Prop := Fr W T T' ∧ px_LO T T'
def px_cw : List Nat := [1000016006, 18, 1000016011, 1000016012, 1000016013, 1000016014, 1000016015, 1000016016]
def px_rw : List Nat := [1000055021, 1000055022, 1000055024, 1000055042, 1000055043, 78, 79]
section LK
variable {S S' S'' T T' T'' : gM} {W W' : List Nat} {c r : Int → Int} {n p q f : Int} {cd : List (Int × Int)}
theorem px_LO.refl : px_LO T T := ⟨fun _ _ => ⟨rfl, rfl⟩, fun _ _ => ⟨rfl, rfl, rfl, rfl, rfl⟩, fun _ _ => rfl, fun _ => ⟨Or.inl rfl, Or.inl rfl, Or.inl rfl⟩⟩
theorem px_or_tr {a b d : Int} (h : b = a ∨ (0 ≤ b ∧ b ≤ 15000)) (h2 : d = b ∨ (0 ≤ d ∧ d ≤ 15000)) : d = a ∨ (0 ≤ d ∧ d ≤ 15000) := by omega
theorem px_LO.trans (h : px_LO T T') (h2 : px_LO T' T'') : px_LO T T'' :=
  ⟨fun k hk => ⟨(h2.1 k hk).1.trans (h.1 k hk).1, (h2.1 k hk).2.trans (h.1 k hk).2⟩, fun k hk => ⟨(h2.2.1 k hk).1.trans (h.2.1 k hk).1, (h2.2.1 k hk).2.1.trans (h.2.1 k hk).2.1, (h2.2.1 k hk).2.2.1.trans (h.2.1 k hk).2.2.1, (h2.2.1 k hk).2.2.2.1.trans (h.2.1 k hk).2.2.2.1, (h2.2.1 k hk).2.2.2.2.trans (h.2.1 k hk).2.2.2.2⟩, fun k hk => (h2.2.2.1 k hk).trans (h.2.2.1 k hk), fun k => ⟨px_or_tr (h.2.2.2 k).1 (h2.2.2.2 k).1, px_or_tr (h.2.2.2 k).2.1 (h2.2.2.2 k).2.1, px_or_tr (h.2.2.2 k).2.2 (h2.2.2.2 k).2.2⟩⟩
theorem px_F.refl : px_F W T T := ⟨Fr.refl, px_LO.refl⟩
theorem px_F.trans (h : px_F W T T') (h2 : px_F W T' T'') : px_F W T T'' := ⟨h.1.trans h2.1, h.2.trans h2.2⟩
theorem px_F.mono (h : px_F W T T') (hw : W.all (fun x => W'.contains x) = true) : px_F W' T T' := ⟨h.1.mono hw, h.2⟩
theorem px_F.of (h : Fr W T T') (hw : [70, 73, 74, 75, 76, 77, 78, 79].all (fun x => !W.contains x) = true) : px_F W T T' := by
  have g : ∀ q : Nat, [70, 73, 74, 75, 76, 77, 78, 79].contains q = true → ∀ k, gi T' q k = gi T q k := fun q hq k => by
    have hm := List.contains_iff_mem.mp hq
    have hf := List.all_eq_true.mp hw q hm
    refine h.i ?_
    have hr : rg q k = q := by
      simp at hm
      rcases hm with z | z | z | z | z | z | z | z <;> subst z <;> rfl
    rw [hr]
    simpa using hf
  exact ⟨h, fun k _ => ⟨g 78 rfl k, g 79 rfl k⟩, fun k _ => ⟨g 73 rfl k, g 74 rfl k, g 75 rfl k, g 76 rfl k, g 77 rfl k⟩, fun k _ => g 70 rfl k, fun k => ⟨Or.inl (g 75 rfl k), Or.inl (g 76 rfl k), Or.inl (g 77 rfl k)⟩⟩
theorem px_NM.fr (h : px_NM S T) (hF : Fr W S S') (hG : Fr W' T T') (hw : W.contains 1000016007 = false ∧ W.contains 21 = false) (hv : W'.contains 1000055023 = false ∧ W'.contains 80 = false) : px_NM S' T' := by
  have e1 : gi S' 16 7 = gi S 16 7 := hF.i hw.1
  have e2 : gl S' 21 = gl S 21 := funext fun k => hF.l hw.2
  have e3 : gi T' 55 23 = gi T 55 23 := hG.i hv.1
  have e4 : gl T' 80 = gl T 80 := funext fun k => hG.l hv.2
  unfold px_NM
  rw [e1, e2, e3, e4]
  exact h
theorem px_CD.fr (h : px_CD S T cd) (hF : Fr W S S') (hG : Fr W' T T') (hw : W.contains 1000016006 = false ∧ W.contains 18 = false) (hv : W'.contains 1000055024 = false ∧ W'.contains 78 = false ∧ W'.contains 79 = false) : px_CD S' T' cd := by
  have e1 : gi S' 16 6 = gi S 16 6 := hF.i hw.1
  have e2 : gi S' 18 = gi S 18 := funext fun k => hF.i hw.2
  have e3 : gi T' 55 24 = gi T 55 24 := hG.i hv.1
  have e4 : gi T' 78 = gi T 78 := funext fun k => hG.i hv.2.1
  have e5 : gi T' 79 = gi T 79 := funext fun k => hG.i hv.2.2
  unfold px_CD
  rw [e1, e2, e3, e4, e5]
  exact h
theorem px_CO.fr (h : px_CO c r n S T cd) (hF : Fr W S S') (hG : Fr W' T T') (hw : [1000016006, 18, 1000016007, 21, 1000016010, 54, 17, 1000016016].all (fun x => !W.contains x) = true) (hv : [1000055024, 78, 79, 1000055023, 80, 84, 1000055020].all (fun x => !W'.contains x) = true) : px_CO c r n S' T' cd := by
  have g : ∀ q : Nat, [1000016006, 18, 1000016007, 21, 1000016010, 54, 17, 1000016016].contains q = true → W.contains q = false := fun q hq => by
    have := List.all_eq_true.mp hw q (List.contains_iff_mem.mp hq)
    simpa using this
  have g' : ∀ q : Nat, [1000055024, 78, 79, 1000055023, 80, 84, 1000055020].contains q = true → W'.contains q = false := fun q hq => by
    have := List.all_eq_true.mp hv q (List.contains_iff_mem.mp hq)
    simpa using this
  exact ⟨⟨h.1.1.fr hF ⟨g _ rfl, g _ rfl, g _ rfl⟩, h.1.2.fr hG ⟨g' _ rfl, g' _ rfl⟩⟩, (hF.i (q := 16) (k := 16) (g 1000016016 rfl)).trans h.2.1, h.2.2.1.fr hF hG ⟨g _ rfl, g _ rfl⟩ ⟨g' _ rfl, g' _ rfl, g' _ rfl⟩, h.2.2.2.fr hF hG ⟨g _ rfl, g _ rfl⟩ ⟨g' _ rfl, g' _ rfl⟩⟩
theorem px_TK.fr (h : px_TK S c n p) (hF : Fr W S S') (hw : W.contains 1000016011 = false ∧ W.contains 1000016012 = false ∧ W.contains 1000016013 = false ∧ W.contains 1000016014 = false ∧ W.contains 1000016015 = false) : px_TK S' c n p := by
  have e1 : gi S' 16 11 = gi S 16 11 := hF.i hw.1
  have e2 : gi S' 16 12 = gi S 16 12 := hF.i hw.2.1
  have e3 : gi S' 16 13 = gi S 16 13 := hF.i hw.2.2.1
  have e4 : gi S' 16 14 = gi S 16 14 := hF.i hw.2.2.2.1
  have e5 : gl S' 16 15 = gl S 16 15 := hF.l hw.2.2.2.2
  unfold px_TK
  rw [e1, e2, e3, e4, e5]
  exact h
/-- the class reads the next token -/
theorem px_adv (h : px_AD c r n S T q cd) : Wp (fun S' => (∃ p, q ≤ p ∧ px_ST c r n S' T p cd) ∧ Fr px_tw S S') (g33 S) := by
  obtain ⟨h1, h2, h3⟩ := h
  refine p_imp (px_33_w h1.1.1 h1.2.1 (by omega)) (fun S' h4 => ?_)
  obtain ⟨⟨p, h5, h6⟩, h7⟩ := h4
  rw [h2.1] at h5
  have := h5.1
  exact ⟨⟨p, by omega, h1.fr h7 (Fr.refl (W := [])) rfl rfl, h6, ⟨by omega, by rw [h2.2.1]; exact h5⟩, by omega⟩, h7⟩
/-- the reference stands before the token itself -/
theorem px_ST.to (h : px_ST c r n S T p cd) (hF : Fr [1000055021, 1000055022, 1000055042, 1000055043] T T') (ha : gi T' 55 21 = p) : px_ST c r n S T' p cd := by
  obtain ⟨h1, h2, h3, h4⟩ := h
  have := h2.2.1
  refine ⟨h1.fr (Fr.refl (W := [])) hF rfl rfl, h2, ⟨by omega, ?_⟩, h4⟩
  rw [ha]
  exact ⟨by omega, fun i a b => by omega, h3.2.2.2⟩
theorem px_ST.ad (h : px_ST c r n S T p cd) (hF : Fr [1000055021, 1000055022, 1000055042, 1000055043] T T') (ha : gi T' 55 21 = gi S 16 11) (hl : p ≤ gi S 16 11 ∧ gi S 16 11 ≤ n) : px_AD c r n S T' (gi S 16 11) cd := by
  obtain ⟨h1, h2, h3, h4⟩ := h
  have := h2.2.1
  exact ⟨h1.fr (Fr.refl (W := [])) hF rfl rfl, ⟨rfl, ha, by omega, hl.2⟩, by omega⟩
theorem px_le_d {x : Int} (h : px_le x) : ¬ px_di x ∧ ¬ px_sg x ∧ ¬ px_bl x := by unfold px_le at h; unfold px_di px_sg px_bl; omega
theorem px_di_d {x : Int} (h : px_di x) : ¬ px_le x ∧ ¬ px_sg x ∧ ¬ px_bl x := by unfold px_di at h; unfold px_le px_sg px_bl; omega
theorem px_TN.rng {t nm : Int} (h : px_TN t nm) : 256 ≤ t ∧ t ≤ 280 := by
  rcases h with ⟨k, a, b, -⟩ | ⟨a, -⟩ <;> omega
/-- a sign stands there -/
theorem px_TK.sign (h : px_TK S c n p) {b : Int} (hb : px_sg b) : (gi S 16 13 = b ↔ p < n ∧ c p = b) ∧ (gi S 16 13 = b → gi S 16 11 = p + 1 ∧ p < n) := by
  have hb2 : 0 ≤ b ∧ b ≤ 125 := by unfold px_sg at hb; omega
  rcases h.2.2 with z | ⟨z1, z2, z3, z4⟩ | ⟨z1, z2, z3, z4⟩ | ⟨z1, z2, z3, z4, z5⟩
  · exact ⟨⟨fun w => by omega, fun w => by omega⟩, fun w => by omega⟩
  · have hne : ¬ gi S 16 13 = b := by
      rcases z4 with ⟨-, -, y⟩ | ⟨-, y⟩
      · have := y.rng; omega
      · omega
    exact ⟨⟨fun w => absurd w hne, fun w => absurd hb (by rw [← w.2]; exact (px_le_d z2).2.1)⟩, fun w => absurd w hne⟩
  · have hne : ¬ gi S 16 13 = b := by
      rcases z4 with ⟨-, -, y⟩ | ⟨-, y⟩ <;> omega
    exact ⟨⟨fun w => absurd w hne, fun w => absurd hb (by rw [← w.2]; exact (px_di_d z2).2.1)⟩, fun w => absurd w hne⟩
  · rcases z5 with ⟨y1, y2⟩ | ⟨y1, y2⟩
    · exact ⟨⟨fun w => ⟨z1, by omega⟩, fun w => by omega⟩, fun w => ⟨z4, z1⟩⟩
    · exact ⟨⟨fun w => by omega, fun w => absurd hb (by rw [← w.2]; exact y1)⟩, fun w => by omega⟩
/-- a NUMBER stands there, or none -/
theorem px_TK.num (h : px_TK S c n p) : ∃ e, px_R px_di c n p e ∧ (gi S 16 13 = 281 → gi S 16 11 = e ∧ (p < e ∧ e - p ≤ 7) ∧ gi S 16 14 = px_t c p (e - p).toNat ∧ (0 ≤ gi S 16 14 ∧ gi S 16 14 ≤ 9999999)) ∧ ((p < e ∧ e - p ≤ 7) → gi S 16 13 = 281) := by
  have hp := h.2.1
  have none : (p < n → ¬ px_di (c p)) → px_R px_di c n p p := fun z => ⟨by omega, fun i a b => by omega, z⟩
  rcases h.2.2 with z | ⟨z1, z2, z3, z4⟩ | ⟨z1, z2, z3, z4⟩ | ⟨z1, z2, z3, z4, z5⟩
  · exact ⟨p, none (fun w => by omega), fun w => by omega, fun w => by omega⟩
  · refine ⟨p, none (fun w => (px_le_d z2).1), fun w => ?_, fun w => by omega⟩
    rcases z4 with ⟨-, -, y⟩ | ⟨-, y⟩
    · have := y.rng; omega
    · omega
  · have lt : p < gi S 16 11 := by
      rcases Int.lt_or_le p (gi S 16 11) with q | q
      · exact q
      · have := z3.1
        have e1 : gi S 16 11 = p := by omega
        exact absurd z2 (by rw [← e1]; exact z3.2.2 (by omega))
    rcases z4 with ⟨y1, y2, y3⟩ | ⟨y1, y2⟩
    · refine ⟨_, z3, fun _ => ⟨rfl, ⟨lt, y1⟩, y2, ?_⟩, fun _ => y3⟩
      rw [y2]
      exact px_t7 (by omega) (fun i hi => z3.2.1 _ (by omega) (by omega))
    · exact ⟨_, z3, fun w => by omega, fun w => by omega⟩
  · refine ⟨p, none (fun w => z3), fun w => ?_, fun w => by omega⟩
    rcases z5 with ⟨y1, y2⟩ | ⟨y1, y2⟩
    · unfold px_sg at y1; omega
    · omega
/-- what the reference takes the word for -/
def px_WD (S : gM) (w : Int) : Prop := (gi S 16 13 = 280 ∧ w = px_c (gl S 16 15) ∧ px_d w = gl S 16 15 ∧ ¬ w = 0 ∧ ∀ b, 0 ≤ b → b < 23 → ¬ w = px_vk b) ∨ (∃ b, (0 ≤ b ∧ b < 23) ∧ gi S 16 13 = 256 + b ∧ w = px_vk b) ∨ ((gi S 16 13 < 256 ∨ 281 ≤ gi S 16 13) ∧ w = 0)
theorem px_WD.key {w b : Int} (h : px_WD S w) (hb : 0 ≤ b ∧ b < 23) : w = px_vk b ↔ gi S 16 13 = 256 + b := by
  rcases h with ⟨a1, a2, a3, a4, a5⟩ | ⟨b', h1, h2, h3⟩ | ⟨h1, h2⟩
  · exact ⟨fun z => absurd z (a5 b hb.1 hb.2), fun z => by omega⟩
  · refine ⟨fun z => ?_, fun z => ?_⟩
    · have := px_vk_i h1 hb (h3.symm.trans z)
      omega
    · rw [h3, show b' = b by omega]
  · exact ⟨fun z => absurd (z.symm.trans h2) (px_ky_c hb).2.2, fun z => by omega⟩
/-- a word stands there, or none -/
theorem px_TK.word (h : px_TK S c n p) : ∃ e, px_R px_le c n p e ∧ px_WD S (px_W c p (e - p).toNat) ∧ ((256 ≤ gi S 16 13 ∧ gi S 16 13 ≤ 280) → gi S 16 11 = e ∧ p < e) := by
  have hp := h.2.1
  have none : (p < n → ¬ px_le (c p)) → px_R px_le c n p p := fun z => ⟨by omega, fun i a b => by omega, z⟩
  have zero : px_W c p (p - p).toNat = 0 := by rw [show (p - p).toNat = 0 by omega]; rfl
  rcases h.2.2 with z | ⟨z1, z2, z3, z4⟩ | ⟨z1, z2, z3, z4⟩ | ⟨z1, z2, z3, z4, z5⟩
  · exact ⟨p, none (fun w => by omega), Or.inr (Or.inr ⟨by omega, zero⟩), fun w => by omega⟩
  · have lt : p < gi S 16 11 := by
      rcases Int.lt_or_le p (gi S 16 11) with q | q
      · exact q
      · have := z3.1
        have e1 : gi S 16 11 = p := by omega
        exact absurd z2 (by rw [← e1]; exact z3.2.2 (by omega))
    refine ⟨_, z3, ?_, fun w => ⟨rfl, lt⟩⟩
    rcases z4 with ⟨y1, y2, y3⟩ | ⟨y1, y2⟩
    · have w8 := px_w8 (c := c) (p := p) (k := (gi S 16 11 - p).toNat) (by omega) (fun i hi => z3.2.1 _ (by omega) (by omega))
      rw [show px_W c p (gi S 16 11 - p).toNat = px_v c p (gi S 16 11 - p).toNat from if_pos (by omega)]
      rcases y3 with ⟨k, k1, k2, k3⟩ | ⟨k1, k2⟩
      · refine Or.inr (Or.inl ⟨k, k1, k2, ?_⟩)
        rw [← w8.2.2.1.1, ← y2, ← k3]
        exact (px_ky_c k1).1
      · refine Or.inl ⟨k1, ?_, ?_, ?_, fun b b1 b2 z => ?_⟩
        · rw [y2, w8.2.2.1.1]
        · rw [y2, w8.2.2.1.2]
        · have := w8.2.2.2 (by omega)
          omega
        · refine k2 b b1 b2 ?_
          rw [y2, ← w8.2.2.1.2, z]
          exact (px_ky_c ⟨b1, b2⟩).2.1.symm
    · exact Or.inr (Or.inr ⟨by omega, if_neg (by omega)⟩)
  · refine ⟨p, none (fun w => (px_di_d z2).1), Or.inr (Or.inr ⟨?_, zero⟩), fun w => ?_⟩
    · rcases z4 with ⟨-, -, y⟩ | ⟨-, y⟩ <;> omega
    · rcases z4 with ⟨-, -, y⟩ | ⟨-, y⟩ <;> omega
  · refine ⟨p, none (fun w => z2), Or.inr (Or.inr ⟨?_, zero⟩), fun w => ?_⟩
    · rcases z5 with ⟨y1, y2⟩ | ⟨y1, y2⟩
      · unfold px_sg at y1; omega
      · omega
    · rcases z5 with ⟨y1, y2⟩ | ⟨y1, y2⟩
      · unfold px_sg at y1; omega
      · omega
end LK
