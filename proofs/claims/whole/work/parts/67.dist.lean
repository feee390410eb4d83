/-! the fewest miles -/
def Rw (w : Int → Int) : Nat → Int → Int → Int → Prop
  | 0 => fun a b d => a = b ∧ d = 0
  | n + 1 => fun a b d => Rw w n a b d ∨ ∃ c e, (0 ≤ c ∧ c < 16) ∧ Rw w n a c e ∧ 0 < w (16 * c + b) ∧ d = e + w (16 * c + b)
theorem Rw_s (w : Int → Int) (n : Nat) (a b d : Int) : Rw w (n + 1) a b d = (Rw w n a b d ∨ ∃ c e, (0 ≤ c ∧ c < 16) ∧ Rw w n a c e ∧ 0 < w (16 * c + b) ∧ d = e + w (16 * c + b)) := rfl
/-- the distance, held to 9999 -/
def isD (w : Int → Int) (a b x : Int) : Prop := (x = 9999 ∨ ∃ n, Rw w n a b x) ∧ x ≤ 9999 ∧ ∀ n d, Rw w n a b d → x ≤ d
theorem isD_one {w : Int → Int} {a b x y : Int} (h1 : isD w a b x) (h2 : isD w a b y) : x = y := by
  obtain ⟨p1, q1, r1⟩ := h1
  obtain ⟨p2, q2, r2⟩ := h2
  have a1 : x ≤ y := by
    rcases p2 with z | ⟨n, z⟩
    · omega
    · exact r1 n y z
  have a2 : y ≤ x := by
    rcases p1 with z | ⟨n, z⟩
    · omega
    · exact r2 n x z
  omega
theorem Rw_cat (w : Int → Int) {n : Nat} {a c e : Int} (h : Rw w n a c e) : ∀ (m : Nat) (b f : Int), Rw w m c b f → Rw w (n + m) a b (e + f) := by
  intro m
  induction m with
  | zero =>
    intro b f hf
    obtain ⟨rfl, rfl⟩ := hf
    rw [Int.add_zero]; exact h
  | succ m ih =>
    intro b f hf
    rcases hf with hf | ⟨c', e', hc, h1, h2, h3⟩
    · exact Or.inl (ih b f hf)
    · exact Or.inr ⟨c', e + e', hc, ih c' e' h1, h2, by omega⟩
/-- what holds of the ways once the nodes below t have been gone over -/
def FW (w W : Int → Int) (t : Int) : Prop := ∀ a b, 0 ≤ a → a < 16 → 0 ≤ b → b < 16 →
  (0 ≤ W (16 * a + b) ∧ W (16 * a + b) ≤ 1000000) ∧ (W (16 * a + b) = 1000000 ∨ ∃ n, Rw w n a b (W (16 * a + b))) ∧ W (16 * a + a) = 0 ∧ (0 < w (16 * a + b) → W (16 * a + b) ≤ w (16 * a + b)) ∧ ∀ c, 0 ≤ c → c < t → W (16 * a + b) ≤ W (16 * a + c) + W (16 * c + b)
theorem FW_isD {w W : Int → Int} (h : FW w W 16) {a b : Int} (ha : 0 ≤ a ∧ a < 16) (hb : 0 ≤ b ∧ b < 16) : isD w a b (min 9999 (W (16 * a + b))) := by
  have h1 := h a b ha.1 ha.2 hb.1 hb.2
  refine ⟨?_, by omega, ?_⟩
  · rcases h1.2.1 with z | ⟨n, z⟩
    · left; omega
    · by_cases hc : W (16 * a + b) ≤ 9999
      · right; refine ⟨n, ?_⟩; rw [show min 9999 (W (16 * a + b)) = W (16 * a + b) by omega]; exact z
      · left; omega
  · have key : ∀ (n : Nat) (b d : Int), 0 ≤ b → b < 16 → Rw w n a b d → W (16 * a + b) ≤ d := by
      intro n
      induction n with
      | zero =>
        intro b d h3 h4 hr
        obtain ⟨rfl, rfl⟩ := hr
        exact Int.le_of_eq (h a a ha.1 ha.2 ha.1 ha.2).2.2.1
      | succ n ih =>
        intro b d h3 h4 hr
        rcases hr with hr | ⟨c, e, hc, h5, h6, h7⟩
        · exact ih b d h3 h4 hr
        · have h8 := (h a b ha.1 ha.2 h3 h4).2.2.2.2 c hc.1 hc.2
          have h9 := ih c e hc.1 hc.2 h5
          have h10 := (h c b hc.1 hc.2 h3 h4).2.2.2.1 h6
          omega
    intro n d hr
    have := key n b d hb.1 hb.2 hr
    omega
theorem four_min {x ac cb at' tb tc ct : Int} (g1 : x ≤ ac + cb) (g2 : at' ≤ ac + ct) (g3 : tb ≤ tc + cb) (p1 : 0 ≤ tc) (p2 : 0 ≤ ct) : min x (at' + tb) ≤ min ac (at' + tc) + min cb (ct + tb) := by
  rcases Int.le_total ac (at' + tc) with h1 | h1 <;> rcases Int.le_total cb (ct + tb) with h2 | h2
  · rw [Int.min_eq_left h1, Int.min_eq_left h2]; exact Int.le_trans (Int.min_le_left _ _) g1
  · rw [Int.min_eq_left h1, Int.min_eq_right h2]; refine Int.le_trans (Int.min_le_right _ _) ?_; omega
  · rw [Int.min_eq_right h1, Int.min_eq_left h2]; refine Int.le_trans (Int.min_le_right _ _) ?_; omega
  · rw [Int.min_eq_right h1, Int.min_eq_right h2]; refine Int.le_trans (Int.min_le_right _ _) ?_; omega
/-- one node more -/
theorem FW_step {w W W' : Int → Int} {t : Int} (h : FW w W t) (ht : 0 ≤ t ∧ t < 16) (hW : ∀ a b, 0 ≤ a → a < 16 → 0 ≤ b → b < 16 → W' (16 * a + b) = min (W (16 * a + b)) (W (16 * a + t) + W (16 * t + b))) : FW w W' (t + 1) := by
  intro a b ha1 ha2 hb1 hb2
  have e := hW a b ha1 ha2 hb1 hb2
  have h1 := h a b ha1 ha2 hb1 hb2
  have h2 := h a t ha1 ha2 ht.1 ht.2
  have h3 := h t b ht.1 ht.2 hb1 hb2
  refine ⟨by omega, ?_, ?_, fun z => by have := h1.2.2.2.1 z; omega, ?_⟩
  · by_cases hc : W (16 * a + b) ≤ W (16 * a + t) + W (16 * t + b)
    · rw [e, show min (W (16 * a + b)) (W (16 * a + t) + W (16 * t + b)) = W (16 * a + b) by omega]; exact h1.2.1
    · rw [e, show min (W (16 * a + b)) (W (16 * a + t) + W (16 * t + b)) = W (16 * a + t) + W (16 * t + b) by omega]
      rcases h2.2.1 with z | ⟨n, z⟩
      · omega
      · rcases h3.2.1 with z2 | ⟨m, z2⟩
        · omega
        · exact Or.inr ⟨n + m, Rw_cat w z m _ _ z2⟩
  · have e2 := hW a a ha1 ha2 ha1 ha2
    have h4 := h t a ht.1 ht.2 ha1 ha2
    have h5 := h1.2.2.1
    omega
  · intro c hc1 hc2
    have e2 := hW a c ha1 ha2 hc1 (by omega)
    have e3 := hW c b hc1 (by omega) hb1 hb2
    have h4 := h a c ha1 ha2 hc1 (by omega)
    have h5 := h c b hc1 (by omega) hb1 hb2
    have h6 := h t c ht.1 ht.2 hc1 (by omega)
    have h7 := h c t hc1 (by omega) ht.1 ht.2
    by_cases hct : c = t
    · subst hct
      have h8 := (h c c ht.1 ht.2 ht.1 ht.2).2.2.1
      omega
    · have g1 := h1.2.2.2.2 c hc1 (by omega)
      have g2 := h2.2.2.2.2 c hc1 (by omega)
      have g3 := h3.2.2.2.2 c hc1 (by omega)
      rw [e, e2, e3]
      exact four_min g1 g2 g3 h6.1.1 h7.1.1
/-- Dijkstra's: what holds of the miles so far A and of those that are done B -/
def DJ (w A B : Int → Int) (s : Int) : Prop :=
  (∀ v, 0 ≤ v → v < 16 → (0 ≤ A v ∧ A v ≤ 9999) ∧ (A v = 9999 ∨ ∃ n, Rw w n s v (A v)) ∧ (B v = 0 ∨ B v = 1)) ∧ A s = 0 ∧
  (∀ u v, 0 ≤ u → u < 16 → 0 ≤ v → v < 16 → B u = 1 → (B v = 0 → A u ≤ A v) ∧ (0 < w (16 * u + v) → A v ≤ A u + w (16 * u + v)))
theorem DJ_isD {w A B : Int → Int} {s : Int} (h : DJ w A B s) (hs : 0 ≤ s ∧ s < 16) (hB : ∀ v, 0 ≤ v → v < 16 → B v = 1) {v : Int} (hv : 0 ≤ v ∧ v < 16) : isD w s v (A v) := by
  have h1 := h.1 v hv.1 hv.2
  refine ⟨h1.2.1, h1.1.2, ?_⟩
  have key : ∀ (n : Nat) (b d : Int), 0 ≤ b → b < 16 → Rw w n s b d → A b ≤ d := by
    intro n
    induction n with
    | zero =>
      intro b d h3 h4 hr
      obtain ⟨rfl, rfl⟩ := hr
      exact Int.le_of_eq h.2.1
    | succ n ih =>
      intro b d h3 h4 hr
      rcases hr with hr | ⟨c, e, hc, h5, h6, h7⟩
      · exact ih b d h3 h4 hr
      · have h8 := (h.2.2 c b hc.1 hc.2 h3 h4 (hB c hc.1 hc.2)).2 h6
        have h9 := ih c e hc.1 hc.2 h5
        omega
  exact fun n d hr => key n v d hv.1 hv.2 hr
theorem DJ_step {w A B A' B' : Int → Int} {s u : Int} (h : DJ w A B s) (hs : 0 ≤ s ∧ s < 16) (hu : 0 ≤ u ∧ u < 16) (hB : B u = 0) (hmin : ∀ v, 0 ≤ v → v < 16 → B v = 0 → A u ≤ A v)
    (hA' : ∀ v, 0 ≤ v → v < 16 → A' v = if 0 < w (16 * u + v) then min (A v) (A u + w (16 * u + v)) else A v) (hB' : ∀ v, 0 ≤ v → v < 16 → B' v = if v = u then 1 else B v) : DJ w A' B' s := by
  have hle : ∀ v, 0 ≤ v → v < 16 → A' v ≤ A v ∧ (A u ≤ A v → A u ≤ A' v) ∧ (0 < w (16 * u + v) → A' v ≤ A u + w (16 * u + v)) ∧ (A v ≤ A u → A' v = A v) := by
    intro v h1 h2
    have e := hA' v h1 h2
    by_cases hc : 0 < w (16 * u + v)
    · rw [if_pos hc] at e; omega
    · rw [if_neg hc] at e; omega
  have hu1 := h.1 u hu.1 hu.2
  refine ⟨fun v h1 h2 => ?_, ?_, ?_⟩
  · have h3 := h.1 v h1 h2
    have e := hA' v h1 h2
    have hb := hB' v h1 h2
    refine ⟨?_, ?_, ?_⟩
    · by_cases hc : 0 < w (16 * u + v)
      · rw [if_pos hc] at e; omega
      · rw [if_neg hc] at e; omega
    · by_cases hc : 0 < w (16 * u + v) ∧ A u + w (16 * u + v) < A v
      · rw [if_pos hc.1] at e
        rcases hu1.2.1 with z | ⟨n, z⟩
        · omega
        · refine Or.inr ⟨n + 1, Or.inr ⟨u, A u, hu, z, hc.1, by omega⟩⟩
      · have e2 : A' v = A v := by
          by_cases hc2 : 0 < w (16 * u + v)
          · rw [if_pos hc2] at e; omega
          · rw [if_neg hc2] at e; exact e
        rw [e2]; exact h3.2.1
    · by_cases hc : v = u
      · rw [if_pos hc] at hb; exact Or.inr hb
      · rw [if_neg hc] at hb; rw [hb]; exact h3.2.2
  · have h3 := hle s hs.1 hs.2
    have h4 := h.2.1
    have h5 := h3.2.2.2 (by omega)
    omega
  · intro x y hx1 hx2 hy1 hy2 hBx
    have bx := hB' x hx1 hx2
    have by' := hB' y hy1 hy2
    have lx := hle x hx1 hx2
    have ly := hle y hy1 hy2
    by_cases hxu : x = u
    · subst hxu
      refine ⟨fun hBy => ?_, fun hw => ?_⟩
      · by_cases hyu : y = x
        · rw [if_pos hyu] at by'; omega
        · rw [if_neg hyu] at by'
          have := hmin y hy1 hy2 (by omega)
          have := ly.2.1 this
          have := lx.2.2.2 (Int.le_refl _)
          omega
      · have := ly.2.2.1 hw
        have := lx.2.2.2 (Int.le_refl _)
        omega
    · rw [if_neg hxu] at bx
      have o := h.2.2 x u hx1 hx2 hu.1 hu.2 (by omega)
      have o1 := o.1 hB
      have e1 := lx.2.2.2 o1
      refine ⟨fun hBy => ?_, fun hw => ?_⟩
      · by_cases hyu : y = u
        · rw [if_pos hyu] at by'; omega
        · rw [if_neg hyu] at by'
          have := hmin y hy1 hy2 (by omega)
          have := ly.2.1 this
          omega
      · have := (h.2.2 x y hx1 hx2 hy1 hy2 (by omega)).2 hw
        omega
