/-! the memory behind the two constructors: shape, fixed references (by evaluation); the partial operations there (wip/gen_shape.py) -/
def wh_shl : List vm_B := [.inl 10, .inl 0, .inr (0, 12), .inr (0, 12), .inr (0, 12), .inr (0, 12), .inr (0, 12), .inr (0, 8), .inl 7, .inr (0, 256), .inr (0, 256), .inl 2, .inr (0, 300), .inr (0, 300), .inr (0, 300), .inr (0, 720), .inl 6, .inr (1, 23), .inr (0, 700), .inr (0, 61), .inr (0, 30), .inr (1, 30), .inr (0, 6), .inl 8, .inl 1, .inr (0, 6), .inr (0, 0), .inr (0, 1), .inr (0, 0), .inr (4, 8), .inl 9, .inl 3, .inr (1, 10), .inr (1, 64), .inr (1, 360), .inr (1, 12), .inr (1, 12), .inr (1, 12), .inr (1, 12), .inr (1, 12), .inr (1, 12), .inr (1, 12), .inr (1, 12), .inr (0, 12), .inr (1, 120), .inl 4, .inr (0, 20), .inr (0, 20), .inr (0, 20), .inr (0, 20), .inr (0, 20), .inr (0, 20), .inr (0, 20), .inr (2, 20), .inr (0, 700), .inl 11, .inr (0, 12), .inr (0, 12), .inr (0, 12), .inr (0, 8), .inr (0, 256), .inr (0, 300), .inr (0, 300), .inr (0, 300), .inr (0, 300), .inr (0, 300), .inr (0, 12), .inr (0, 12), .inr (0, 16), .inr (2, 16), .inr (0, 10), .inr (0, 10), .inr (0, 10), .inr (0, 300), .inr (0, 300), .inr (0, 300), .inr (0, 300), .inr (0, 300), .inr (0, 15000), .inr (0, 15000), .inr (1, 30), .inr (1, 64), .inr (1, 10), .inr (3, 700), .inr (3, 700), .inr (1, 360), .inr (1, 12), .inr (1, 12), .inr (1, 12), .inr (1, 12), .inr (1, 12), .inr (1, 12), .inr (1, 12), .inr (1, 12), .inr (0, 20), .inr (0, 20), .inr (0, 20), .inr (0, 20), .inr (0, 20), .inr (0, 20), .inr (0, 20), .inr (2, 20), .inr (0, 6)]
def wh_rfl : List (Nat × Nat × Nat) := [(0, 0, 1), (0, 1, 11), (0, 2, 16), (0, 3, 23), (0, 4, 30), (0, 5, 45), (0, 6, 54), (1, 0, 2), (1, 1, 3), (1, 2, 4), (1, 3, 5), (1, 4, 6), (1, 5, 7), (1, 6, 8), (8, 0, 9), (8, 1, 10), (11, 0, 12), (11, 1, 13), (11, 2, 14), (11, 3, 15), (16, 0, 17), (16, 1, 18), (16, 2, 19), (16, 3, 20), (16, 4, 21), (16, 5, 22), (23, 0, 29), (23, 1, 24), (24, 5, 25), (24, 6, 26), (24, 7, 27), (24, 8, 28), (30, 0, 1), (30, 1, 11), (30, 2, 23), (30, 3, 31), (30, 4, 34), (30, 5, 35), (30, 6, 36), (30, 7, 37), (30, 8, 38), (30, 9, 39), (30, 10, 40), (30, 11, 41), (30, 12, 42), (30, 13, 43), (30, 14, 44), (31, 0, 32), (31, 1, 33), (45, 0, 46), (45, 1, 47), (45, 2, 48), (45, 3, 49), (45, 4, 50), (45, 5, 51), (45, 6, 52), (45, 7, 53), (55, 4, 56), (55, 5, 57), (55, 6, 58), (55, 7, 59), (55, 8, 60), (55, 9, 61), (55, 10, 62), (55, 11, 63), (55, 12, 64), (55, 13, 65), (55, 14, 66), (55, 15, 67), (55, 16, 68), (55, 17, 69), (55, 27, 70), (55, 28, 71), (55, 29, 72), (55, 30, 73), (55, 31, 74), (55, 32, 75), (55, 33, 76), (55, 34, 77), (55, 35, 78), (55, 36, 79), (55, 37, 80), (55, 38, 81), (55, 39, 82), (55, 40, 83), (55, 41, 84), (55, 44, 85), (55, 45, 86), (55, 46, 87), (55, 47, 88), (55, 48, 89), (55, 49, 90), (55, 50, 91), (55, 51, 92), (55, 52, 93), (55, 54, 94), (55, 55, 95), (55, 56, 96), (55, 57, 97), (55, 58, 98), (55, 59, 99), (55, 60, 100), (55, 61, 101), (55, 62, 102)]
def Sh (M : vm_M) : Prop := 103 ≤ vm_n M ∧ (∀ q, q < 103 → vm_sh M q = wh_shl.getD q (.inl 0)) ∧ ∀ e ∈ wh_rfl, vm_rr M e.1 e.2.1 = some e.2.2
def wh_M : vm_M := wh_ini.getD vm_M0
theorem wh_ini_eq : wh_ini = some wh_M := by
  have h := wh_ini_some
  unfold wh_M
  cases h2 : wh_ini with
  | none => rw [h2] at h; cases h
  | some M => rfl
theorem wh_M_n : vm_n wh_M = 103 := by decide +kernel
theorem wh_M_s : vm_s wh_M ≤ 50000 := by decide +kernel
theorem wh_M_sh : ∀ q, q < 103 → vm_sh wh_M q = wh_shl.getD q (.inl 0) := by decide +kernel
theorem wh_M_rf : ∀ e ∈ wh_rfl, vm_rr wh_M e.1 e.2.1 = some e.2.2 := by decide +kernel
theorem wh_M_Sh : Sh wh_M := ⟨Nat.le_of_eq wh_M_n.symm, wh_M_sh, wh_M_rf⟩
theorem Sh_pi {M : vm_M} {q k : Nat} {v : Int32} : Sh (vm_pi M q k v) = Sh M := rfl
theorem Sh_pl {M : vm_M} {q k : Nat} {v : Int64} : Sh (vm_pl M q k v) = Sh M := rfl
theorem Sh_cp {M : vm_M} {p q a b c : Nat} : Sh (vm_cp M p q a b c) = Sh M := rfl
theorem Sh_cl {M : vm_M} {p q a b c : Nat} : Sh (vm_cl M p q a b c) = Sh M := rfl
theorem Sh.n {M : vm_M} (h : Sh M) {q : Nat} (hq : q < 103) : q < vm_n M := Nat.lt_of_lt_of_le hq h.1
theorem Sh.o {M : vm_M} (h : Sh M) {q : Nat} {x : vm_B} (hq : q < 103) (hx : wh_shl.getD q (.inl 0) = x) : vm_sh M q = x := (h.2.1 q hq).trans hx
theorem Sh.r {M : vm_M} (h : Sh M) {q k t : Nat} (i : Nat) (hx : wh_rfl[i]? = some (q, k, t)) : vm_rr M q k = some t := h.2.2 (q, k, t) (List.mem_of_getElem? hx)
theorem g_i {M : vm_M} {q a b : Nat} (h : q < vm_n M) (h2 : vm_sh M q = .inl a) : sg_i M q a b = some (vm_i M q b) := if_pos ⟨h, h2⟩
theorem g_l {M : vm_M} {q a b : Nat} (h : q < vm_n M) (h2 : vm_sh M q = .inl a) : sg_l M q a b = some (vm_l M q b) := if_pos ⟨h, h2⟩
theorem g_r {M : vm_M} {q a b : Nat} (h : q < vm_n M) (h2 : vm_sh M q = .inl a) : sg_r M q a b = some (vm_rr M q b) := if_pos ⟨h, h2⟩
theorem g_pi {M : vm_M} {q a b : Nat} {v : Int32} (h : q < vm_n M) (h2 : vm_sh M q = .inl a) : sp_i M q a b v = some (vm_pi M q b v) := if_pos ⟨h, h2⟩
theorem g_pz {M : vm_M} {q a b : Nat} {v : Int32} (h : q < vm_n M) (h2 : vm_sh M q = .inl a) (hv : v = 0 ∨ v = 1) : sp_z M q a b v = some (vm_pi M q b v) := if_pos ⟨h, h2, hv⟩
theorem g_pl {M : vm_M} {q a b : Nat} {v : Int64} (h : q < vm_n M) (h2 : vm_sh M q = .inl a) : sp_l M q a b v = some (vm_pl M q b v) := if_pos ⟨h, h2⟩
theorem g_pr {M : vm_M} {q a b : Nat} {v : Option Nat} (h : q < vm_n M) (h2 : vm_sh M q = .inl a) : sp_r M q a b v = some (vm_pr M q b v) := if_pos ⟨h, h2⟩
theorem g_ob {M : vm_M} {q a : Nat} (h : q < vm_n M) (h2 : vm_sh M q = .inl a) : s_ob M q a = some () := if_pos ⟨h, h2⟩
theorem g_ln {M : vm_M} {q t n : Nat} (h : q < vm_n M) (h2 : vm_sh M q = .inr (t, n)) : s_ln M q t = some n := by
  unfold s_ln
  rw [if_pos h, h2]
  exact if_pos rfl
theorem g_ai {M : vm_M} {q t n : Nat} {i : Int32} (h : q < vm_n M) (h2 : vm_sh M q = .inr (t, n)) (hi : 0 ≤ i.toInt ∧ i.toInt < n) : sa_i M q t i = some (vm_i M q i.toNatClampNeg) := by
  unfold sa_i
  rw [g_ln h h2]
  exact if_pos hi
theorem g_al {M : vm_M} {q n : Nat} {i : Int32} (h : q < vm_n M) (h2 : vm_sh M q = .inr (1, n)) (hi : 0 ≤ i.toInt ∧ i.toInt < n) : sa_l M q i = some (vm_l M q i.toNatClampNeg) := by
  unfold sa_l
  rw [g_ln h h2]
  exact if_pos hi
theorem g_si {M : vm_M} {q n : Nat} {i v : Int32} (h : q < vm_n M) (h2 : vm_sh M q = .inr (0, n)) (hi : 0 ≤ i.toInt ∧ i.toInt < n) : ss_i M q 0 i v = some (vm_pi M q i.toNatClampNeg v) := by
  unfold ss_i
  rw [g_ln h h2]
  exact if_pos hi
theorem g_sl {M : vm_M} {q n : Nat} {i : Int32} {v : Int64} (h : q < vm_n M) (h2 : vm_sh M q = .inr (1, n)) (hi : 0 ≤ i.toInt ∧ i.toInt < n) : ss_l M q i v = some (vm_pl M q i.toNatClampNeg v) := by
  unfold ss_l
  rw [g_ln h h2]
  exact if_pos hi
theorem rb0 {M : vm_M} : s_rb 0 M = some (0, M) := if_pos (by decide)
theorem rb1 {M : vm_M} : s_rb 1 M = some (1, M) := if_pos (by decide)
theorem ob_s {α β : Type} {a : α} {f : α → Option β} : (some a).bind f = f a := rfl
theorem ci0 {M : vm_M} (h : Sh M) (b : Nat) : sg_i M 0 10 b = some (vm_i M 0 b) := g_i (h.n (by decide)) (h.o (by decide) rfl)
theorem cl0 {M : vm_M} (h : Sh M) (b : Nat) : sg_l M 0 10 b = some (vm_l M 0 b) := g_l (h.n (by decide)) (h.o (by decide) rfl)
theorem cpi0 {M : vm_M} (h : Sh M) (b : Nat) (v : Int32) : sp_i M 0 10 b v = some (vm_pi M 0 b v) := g_pi (h.n (by decide)) (h.o (by decide) rfl)
theorem cpl0 {M : vm_M} (h : Sh M) (b : Nat) (v : Int64) : sp_l M 0 10 b v = some (vm_pl M 0 b v) := g_pl (h.n (by decide)) (h.o (by decide) rfl)
theorem cob0 {M : vm_M} (h : Sh M) : s_ob M 0 10 = some () := g_ob (h.n (by decide)) (h.o (by decide) rfl)
theorem ci1 {M : vm_M} (h : Sh M) (b : Nat) : sg_i M 1 0 b = some (vm_i M 1 b) := g_i (h.n (by decide)) (h.o (by decide) rfl)
theorem cl1 {M : vm_M} (h : Sh M) (b : Nat) : sg_l M 1 0 b = some (vm_l M 1 b) := g_l (h.n (by decide)) (h.o (by decide) rfl)
theorem cpi1 {M : vm_M} (h : Sh M) (b : Nat) (v : Int32) : sp_i M 1 0 b v = some (vm_pi M 1 b v) := g_pi (h.n (by decide)) (h.o (by decide) rfl)
theorem cpl1 {M : vm_M} (h : Sh M) (b : Nat) (v : Int64) : sp_l M 1 0 b v = some (vm_pl M 1 b v) := g_pl (h.n (by decide)) (h.o (by decide) rfl)
theorem cob1 {M : vm_M} (h : Sh M) : s_ob M 1 0 = some () := g_ob (h.n (by decide)) (h.o (by decide) rfl)
theorem ca2 {M : vm_M} (h : Sh M) {i : Int32} (hi : 0 ≤ i.toInt ∧ i.toInt < 12) : sa_i M 2 0 i = some (vm_i M 2 i.toNatClampNeg) := g_ai (h.n (by decide)) (h.o (by decide) rfl) hi
theorem cs2 {M : vm_M} (h : Sh M) {i v : Int32} (hi : 0 ≤ i.toInt ∧ i.toInt < 12) : ss_i M 2 0 i v = some (vm_pi M 2 i.toNatClampNeg v) := g_si (h.n (by decide)) (h.o (by decide) rfl) hi
theorem ca3 {M : vm_M} (h : Sh M) {i : Int32} (hi : 0 ≤ i.toInt ∧ i.toInt < 12) : sa_i M 3 0 i = some (vm_i M 3 i.toNatClampNeg) := g_ai (h.n (by decide)) (h.o (by decide) rfl) hi
theorem cs3 {M : vm_M} (h : Sh M) {i v : Int32} (hi : 0 ≤ i.toInt ∧ i.toInt < 12) : ss_i M 3 0 i v = some (vm_pi M 3 i.toNatClampNeg v) := g_si (h.n (by decide)) (h.o (by decide) rfl) hi
theorem ca4 {M : vm_M} (h : Sh M) {i : Int32} (hi : 0 ≤ i.toInt ∧ i.toInt < 12) : sa_i M 4 0 i = some (vm_i M 4 i.toNatClampNeg) := g_ai (h.n (by decide)) (h.o (by decide) rfl) hi
theorem cs4 {M : vm_M} (h : Sh M) {i v : Int32} (hi : 0 ≤ i.toInt ∧ i.toInt < 12) : ss_i M 4 0 i v = some (vm_pi M 4 i.toNatClampNeg v) := g_si (h.n (by decide)) (h.o (by decide) rfl) hi
theorem ca5 {M : vm_M} (h : Sh M) {i : Int32} (hi : 0 ≤ i.toInt ∧ i.toInt < 12) : sa_i M 5 0 i = some (vm_i M 5 i.toNatClampNeg) := g_ai (h.n (by decide)) (h.o (by decide) rfl) hi
theorem cs5 {M : vm_M} (h : Sh M) {i v : Int32} (hi : 0 ≤ i.toInt ∧ i.toInt < 12) : ss_i M 5 0 i v = some (vm_pi M 5 i.toNatClampNeg v) := g_si (h.n (by decide)) (h.o (by decide) rfl) hi
theorem ca6 {M : vm_M} (h : Sh M) {i : Int32} (hi : 0 ≤ i.toInt ∧ i.toInt < 12) : sa_i M 6 0 i = some (vm_i M 6 i.toNatClampNeg) := g_ai (h.n (by decide)) (h.o (by decide) rfl) hi
theorem cs6 {M : vm_M} (h : Sh M) {i v : Int32} (hi : 0 ≤ i.toInt ∧ i.toInt < 12) : ss_i M 6 0 i v = some (vm_pi M 6 i.toNatClampNeg v) := g_si (h.n (by decide)) (h.o (by decide) rfl) hi
theorem ca7 {M : vm_M} (h : Sh M) {i : Int32} (hi : 0 ≤ i.toInt ∧ i.toInt < 8) : sa_i M 7 0 i = some (vm_i M 7 i.toNatClampNeg) := g_ai (h.n (by decide)) (h.o (by decide) rfl) hi
theorem cs7 {M : vm_M} (h : Sh M) {i v : Int32} (hi : 0 ≤ i.toInt ∧ i.toInt < 8) : ss_i M 7 0 i v = some (vm_pi M 7 i.toNatClampNeg v) := g_si (h.n (by decide)) (h.o (by decide) rfl) hi
theorem ci8 {M : vm_M} (h : Sh M) (b : Nat) : sg_i M 8 7 b = some (vm_i M 8 b) := g_i (h.n (by decide)) (h.o (by decide) rfl)
theorem cl8 {M : vm_M} (h : Sh M) (b : Nat) : sg_l M 8 7 b = some (vm_l M 8 b) := g_l (h.n (by decide)) (h.o (by decide) rfl)
theorem cpi8 {M : vm_M} (h : Sh M) (b : Nat) (v : Int32) : sp_i M 8 7 b v = some (vm_pi M 8 b v) := g_pi (h.n (by decide)) (h.o (by decide) rfl)
theorem cpl8 {M : vm_M} (h : Sh M) (b : Nat) (v : Int64) : sp_l M 8 7 b v = some (vm_pl M 8 b v) := g_pl (h.n (by decide)) (h.o (by decide) rfl)
theorem cob8 {M : vm_M} (h : Sh M) : s_ob M 8 7 = some () := g_ob (h.n (by decide)) (h.o (by decide) rfl)
theorem ca9 {M : vm_M} (h : Sh M) {i : Int32} (hi : 0 ≤ i.toInt ∧ i.toInt < 256) : sa_i M 9 0 i = some (vm_i M 9 i.toNatClampNeg) := g_ai (h.n (by decide)) (h.o (by decide) rfl) hi
theorem cs9 {M : vm_M} (h : Sh M) {i v : Int32} (hi : 0 ≤ i.toInt ∧ i.toInt < 256) : ss_i M 9 0 i v = some (vm_pi M 9 i.toNatClampNeg v) := g_si (h.n (by decide)) (h.o (by decide) rfl) hi
theorem ca10 {M : vm_M} (h : Sh M) {i : Int32} (hi : 0 ≤ i.toInt ∧ i.toInt < 256) : sa_i M 10 0 i = some (vm_i M 10 i.toNatClampNeg) := g_ai (h.n (by decide)) (h.o (by decide) rfl) hi
theorem cs10 {M : vm_M} (h : Sh M) {i v : Int32} (hi : 0 ≤ i.toInt ∧ i.toInt < 256) : ss_i M 10 0 i v = some (vm_pi M 10 i.toNatClampNeg v) := g_si (h.n (by decide)) (h.o (by decide) rfl) hi
theorem ci11 {M : vm_M} (h : Sh M) (b : Nat) : sg_i M 11 2 b = some (vm_i M 11 b) := g_i (h.n (by decide)) (h.o (by decide) rfl)
theorem cl11 {M : vm_M} (h : Sh M) (b : Nat) : sg_l M 11 2 b = some (vm_l M 11 b) := g_l (h.n (by decide)) (h.o (by decide) rfl)
theorem cpi11 {M : vm_M} (h : Sh M) (b : Nat) (v : Int32) : sp_i M 11 2 b v = some (vm_pi M 11 b v) := g_pi (h.n (by decide)) (h.o (by decide) rfl)
theorem cpl11 {M : vm_M} (h : Sh M) (b : Nat) (v : Int64) : sp_l M 11 2 b v = some (vm_pl M 11 b v) := g_pl (h.n (by decide)) (h.o (by decide) rfl)
theorem cob11 {M : vm_M} (h : Sh M) : s_ob M 11 2 = some () := g_ob (h.n (by decide)) (h.o (by decide) rfl)
theorem ca12 {M : vm_M} (h : Sh M) {i : Int32} (hi : 0 ≤ i.toInt ∧ i.toInt < 300) : sa_i M 12 0 i = some (vm_i M 12 i.toNatClampNeg) := g_ai (h.n (by decide)) (h.o (by decide) rfl) hi
theorem cs12 {M : vm_M} (h : Sh M) {i v : Int32} (hi : 0 ≤ i.toInt ∧ i.toInt < 300) : ss_i M 12 0 i v = some (vm_pi M 12 i.toNatClampNeg v) := g_si (h.n (by decide)) (h.o (by decide) rfl) hi
theorem ca13 {M : vm_M} (h : Sh M) {i : Int32} (hi : 0 ≤ i.toInt ∧ i.toInt < 300) : sa_i M 13 0 i = some (vm_i M 13 i.toNatClampNeg) := g_ai (h.n (by decide)) (h.o (by decide) rfl) hi
theorem cs13 {M : vm_M} (h : Sh M) {i v : Int32} (hi : 0 ≤ i.toInt ∧ i.toInt < 300) : ss_i M 13 0 i v = some (vm_pi M 13 i.toNatClampNeg v) := g_si (h.n (by decide)) (h.o (by decide) rfl) hi
theorem ca14 {M : vm_M} (h : Sh M) {i : Int32} (hi : 0 ≤ i.toInt ∧ i.toInt < 300) : sa_i M 14 0 i = some (vm_i M 14 i.toNatClampNeg) := g_ai (h.n (by decide)) (h.o (by decide) rfl) hi
theorem cs14 {M : vm_M} (h : Sh M) {i v : Int32} (hi : 0 ≤ i.toInt ∧ i.toInt < 300) : ss_i M 14 0 i v = some (vm_pi M 14 i.toNatClampNeg v) := g_si (h.n (by decide)) (h.o (by decide) rfl) hi
theorem ca15 {M : vm_M} (h : Sh M) {i : Int32} (hi : 0 ≤ i.toInt ∧ i.toInt < 720) : sa_i M 15 0 i = some (vm_i M 15 i.toNatClampNeg) := g_ai (h.n (by decide)) (h.o (by decide) rfl) hi
theorem cs15 {M : vm_M} (h : Sh M) {i v : Int32} (hi : 0 ≤ i.toInt ∧ i.toInt < 720) : ss_i M 15 0 i v = some (vm_pi M 15 i.toNatClampNeg v) := g_si (h.n (by decide)) (h.o (by decide) rfl) hi
theorem ci16 {M : vm_M} (h : Sh M) (b : Nat) : sg_i M 16 6 b = some (vm_i M 16 b) := g_i (h.n (by decide)) (h.o (by decide) rfl)
theorem cl16 {M : vm_M} (h : Sh M) (b : Nat) : sg_l M 16 6 b = some (vm_l M 16 b) := g_l (h.n (by decide)) (h.o (by decide) rfl)
theorem cpi16 {M : vm_M} (h : Sh M) (b : Nat) (v : Int32) : sp_i M 16 6 b v = some (vm_pi M 16 b v) := g_pi (h.n (by decide)) (h.o (by decide) rfl)
theorem cpl16 {M : vm_M} (h : Sh M) (b : Nat) (v : Int64) : sp_l M 16 6 b v = some (vm_pl M 16 b v) := g_pl (h.n (by decide)) (h.o (by decide) rfl)
theorem cob16 {M : vm_M} (h : Sh M) : s_ob M 16 6 = some () := g_ob (h.n (by decide)) (h.o (by decide) rfl)
theorem ca17 {M : vm_M} (h : Sh M) {i : Int32} (hi : 0 ≤ i.toInt ∧ i.toInt < 23) : sa_l M 17 i = some (vm_l M 17 i.toNatClampNeg) := g_al (h.n (by decide)) (h.o (by decide) rfl) hi
theorem cs17 {M : vm_M} (h : Sh M) {i : Int32} {v : Int64} (hi : 0 ≤ i.toInt ∧ i.toInt < 23) : ss_l M 17 i v = some (vm_pl M 17 i.toNatClampNeg v) := g_sl (h.n (by decide)) (h.o (by decide) rfl) hi
theorem ca18 {M : vm_M} (h : Sh M) {i : Int32} (hi : 0 ≤ i.toInt ∧ i.toInt < 700) : sa_i M 18 0 i = some (vm_i M 18 i.toNatClampNeg) := g_ai (h.n (by decide)) (h.o (by decide) rfl) hi
theorem cs18 {M : vm_M} (h : Sh M) {i v : Int32} (hi : 0 ≤ i.toInt ∧ i.toInt < 700) : ss_i M 18 0 i v = some (vm_pi M 18 i.toNatClampNeg v) := g_si (h.n (by decide)) (h.o (by decide) rfl) hi
theorem ca19 {M : vm_M} (h : Sh M) {i : Int32} (hi : 0 ≤ i.toInt ∧ i.toInt < 61) : sa_i M 19 0 i = some (vm_i M 19 i.toNatClampNeg) := g_ai (h.n (by decide)) (h.o (by decide) rfl) hi
theorem cs19 {M : vm_M} (h : Sh M) {i v : Int32} (hi : 0 ≤ i.toInt ∧ i.toInt < 61) : ss_i M 19 0 i v = some (vm_pi M 19 i.toNatClampNeg v) := g_si (h.n (by decide)) (h.o (by decide) rfl) hi
theorem ca20 {M : vm_M} (h : Sh M) {i : Int32} (hi : 0 ≤ i.toInt ∧ i.toInt < 30) : sa_i M 20 0 i = some (vm_i M 20 i.toNatClampNeg) := g_ai (h.n (by decide)) (h.o (by decide) rfl) hi
theorem cs20 {M : vm_M} (h : Sh M) {i v : Int32} (hi : 0 ≤ i.toInt ∧ i.toInt < 30) : ss_i M 20 0 i v = some (vm_pi M 20 i.toNatClampNeg v) := g_si (h.n (by decide)) (h.o (by decide) rfl) hi
theorem ca21 {M : vm_M} (h : Sh M) {i : Int32} (hi : 0 ≤ i.toInt ∧ i.toInt < 30) : sa_l M 21 i = some (vm_l M 21 i.toNatClampNeg) := g_al (h.n (by decide)) (h.o (by decide) rfl) hi
theorem cs21 {M : vm_M} (h : Sh M) {i : Int32} {v : Int64} (hi : 0 ≤ i.toInt ∧ i.toInt < 30) : ss_l M 21 i v = some (vm_pl M 21 i.toNatClampNeg v) := g_sl (h.n (by decide)) (h.o (by decide) rfl) hi
theorem ca22 {M : vm_M} (h : Sh M) {i : Int32} (hi : 0 ≤ i.toInt ∧ i.toInt < 6) : sa_i M 22 0 i = some (vm_i M 22 i.toNatClampNeg) := g_ai (h.n (by decide)) (h.o (by decide) rfl) hi
theorem cs22 {M : vm_M} (h : Sh M) {i v : Int32} (hi : 0 ≤ i.toInt ∧ i.toInt < 6) : ss_i M 22 0 i v = some (vm_pi M 22 i.toNatClampNeg v) := g_si (h.n (by decide)) (h.o (by decide) rfl) hi
theorem ci23 {M : vm_M} (h : Sh M) (b : Nat) : sg_i M 23 8 b = some (vm_i M 23 b) := g_i (h.n (by decide)) (h.o (by decide) rfl)
theorem cl23 {M : vm_M} (h : Sh M) (b : Nat) : sg_l M 23 8 b = some (vm_l M 23 b) := g_l (h.n (by decide)) (h.o (by decide) rfl)
theorem cpi23 {M : vm_M} (h : Sh M) (b : Nat) (v : Int32) : sp_i M 23 8 b v = some (vm_pi M 23 b v) := g_pi (h.n (by decide)) (h.o (by decide) rfl)
theorem cpl23 {M : vm_M} (h : Sh M) (b : Nat) (v : Int64) : sp_l M 23 8 b v = some (vm_pl M 23 b v) := g_pl (h.n (by decide)) (h.o (by decide) rfl)
theorem cob23 {M : vm_M} (h : Sh M) : s_ob M 23 8 = some () := g_ob (h.n (by decide)) (h.o (by decide) rfl)
theorem ci24 {M : vm_M} (h : Sh M) (b : Nat) : sg_i M 24 1 b = some (vm_i M 24 b) := g_i (h.n (by decide)) (h.o (by decide) rfl)
theorem cl24 {M : vm_M} (h : Sh M) (b : Nat) : sg_l M 24 1 b = some (vm_l M 24 b) := g_l (h.n (by decide)) (h.o (by decide) rfl)
theorem cpi24 {M : vm_M} (h : Sh M) (b : Nat) (v : Int32) : sp_i M 24 1 b v = some (vm_pi M 24 b v) := g_pi (h.n (by decide)) (h.o (by decide) rfl)
theorem cpl24 {M : vm_M} (h : Sh M) (b : Nat) (v : Int64) : sp_l M 24 1 b v = some (vm_pl M 24 b v) := g_pl (h.n (by decide)) (h.o (by decide) rfl)
theorem cob24 {M : vm_M} (h : Sh M) : s_ob M 24 1 = some () := g_ob (h.n (by decide)) (h.o (by decide) rfl)
theorem ca25 {M : vm_M} (h : Sh M) {i : Int32} (hi : 0 ≤ i.toInt ∧ i.toInt < 6) : sa_i M 25 0 i = some (vm_i M 25 i.toNatClampNeg) := g_ai (h.n (by decide)) (h.o (by decide) rfl) hi
theorem cs25 {M : vm_M} (h : Sh M) {i v : Int32} (hi : 0 ≤ i.toInt ∧ i.toInt < 6) : ss_i M 25 0 i v = some (vm_pi M 25 i.toNatClampNeg v) := g_si (h.n (by decide)) (h.o (by decide) rfl) hi
theorem ca26 {M : vm_M} (h : Sh M) {i : Int32} (hi : 0 ≤ i.toInt ∧ i.toInt < 0) : sa_i M 26 0 i = some (vm_i M 26 i.toNatClampNeg) := g_ai (h.n (by decide)) (h.o (by decide) rfl) hi
theorem cs26 {M : vm_M} (h : Sh M) {i v : Int32} (hi : 0 ≤ i.toInt ∧ i.toInt < 0) : ss_i M 26 0 i v = some (vm_pi M 26 i.toNatClampNeg v) := g_si (h.n (by decide)) (h.o (by decide) rfl) hi
theorem ca27 {M : vm_M} (h : Sh M) {i : Int32} (hi : 0 ≤ i.toInt ∧ i.toInt < 1) : sa_i M 27 0 i = some (vm_i M 27 i.toNatClampNeg) := g_ai (h.n (by decide)) (h.o (by decide) rfl) hi
theorem cs27 {M : vm_M} (h : Sh M) {i v : Int32} (hi : 0 ≤ i.toInt ∧ i.toInt < 1) : ss_i M 27 0 i v = some (vm_pi M 27 i.toNatClampNeg v) := g_si (h.n (by decide)) (h.o (by decide) rfl) hi
theorem ca28 {M : vm_M} (h : Sh M) {i : Int32} (hi : 0 ≤ i.toInt ∧ i.toInt < 0) : sa_i M 28 0 i = some (vm_i M 28 i.toNatClampNeg) := g_ai (h.n (by decide)) (h.o (by decide) rfl) hi
theorem cs28 {M : vm_M} (h : Sh M) {i v : Int32} (hi : 0 ≤ i.toInt ∧ i.toInt < 0) : ss_i M 28 0 i v = some (vm_pi M 28 i.toNatClampNeg v) := g_si (h.n (by decide)) (h.o (by decide) rfl) hi
theorem ci30 {M : vm_M} (h : Sh M) (b : Nat) : sg_i M 30 9 b = some (vm_i M 30 b) := g_i (h.n (by decide)) (h.o (by decide) rfl)
theorem cl30 {M : vm_M} (h : Sh M) (b : Nat) : sg_l M 30 9 b = some (vm_l M 30 b) := g_l (h.n (by decide)) (h.o (by decide) rfl)
theorem cpi30 {M : vm_M} (h : Sh M) (b : Nat) (v : Int32) : sp_i M 30 9 b v = some (vm_pi M 30 b v) := g_pi (h.n (by decide)) (h.o (by decide) rfl)
theorem cpl30 {M : vm_M} (h : Sh M) (b : Nat) (v : Int64) : sp_l M 30 9 b v = some (vm_pl M 30 b v) := g_pl (h.n (by decide)) (h.o (by decide) rfl)
theorem cob30 {M : vm_M} (h : Sh M) : s_ob M 30 9 = some () := g_ob (h.n (by decide)) (h.o (by decide) rfl)
theorem ci31 {M : vm_M} (h : Sh M) (b : Nat) : sg_i M 31 3 b = some (vm_i M 31 b) := g_i (h.n (by decide)) (h.o (by decide) rfl)
theorem cl31 {M : vm_M} (h : Sh M) (b : Nat) : sg_l M 31 3 b = some (vm_l M 31 b) := g_l (h.n (by decide)) (h.o (by decide) rfl)
theorem cpi31 {M : vm_M} (h : Sh M) (b : Nat) (v : Int32) : sp_i M 31 3 b v = some (vm_pi M 31 b v) := g_pi (h.n (by decide)) (h.o (by decide) rfl)
theorem cpl31 {M : vm_M} (h : Sh M) (b : Nat) (v : Int64) : sp_l M 31 3 b v = some (vm_pl M 31 b v) := g_pl (h.n (by decide)) (h.o (by decide) rfl)
theorem cob31 {M : vm_M} (h : Sh M) : s_ob M 31 3 = some () := g_ob (h.n (by decide)) (h.o (by decide) rfl)
theorem ca32 {M : vm_M} (h : Sh M) {i : Int32} (hi : 0 ≤ i.toInt ∧ i.toInt < 10) : sa_l M 32 i = some (vm_l M 32 i.toNatClampNeg) := g_al (h.n (by decide)) (h.o (by decide) rfl) hi
theorem cs32 {M : vm_M} (h : Sh M) {i : Int32} {v : Int64} (hi : 0 ≤ i.toInt ∧ i.toInt < 10) : ss_l M 32 i v = some (vm_pl M 32 i.toNatClampNeg v) := g_sl (h.n (by decide)) (h.o (by decide) rfl) hi
theorem ca33 {M : vm_M} (h : Sh M) {i : Int32} (hi : 0 ≤ i.toInt ∧ i.toInt < 64) : sa_l M 33 i = some (vm_l M 33 i.toNatClampNeg) := g_al (h.n (by decide)) (h.o (by decide) rfl) hi
theorem cs33 {M : vm_M} (h : Sh M) {i : Int32} {v : Int64} (hi : 0 ≤ i.toInt ∧ i.toInt < 64) : ss_l M 33 i v = some (vm_pl M 33 i.toNatClampNeg v) := g_sl (h.n (by decide)) (h.o (by decide) rfl) hi
theorem ca34 {M : vm_M} (h : Sh M) {i : Int32} (hi : 0 ≤ i.toInt ∧ i.toInt < 360) : sa_l M 34 i = some (vm_l M 34 i.toNatClampNeg) := g_al (h.n (by decide)) (h.o (by decide) rfl) hi
theorem cs34 {M : vm_M} (h : Sh M) {i : Int32} {v : Int64} (hi : 0 ≤ i.toInt ∧ i.toInt < 360) : ss_l M 34 i v = some (vm_pl M 34 i.toNatClampNeg v) := g_sl (h.n (by decide)) (h.o (by decide) rfl) hi
theorem ca35 {M : vm_M} (h : Sh M) {i : Int32} (hi : 0 ≤ i.toInt ∧ i.toInt < 12) : sa_l M 35 i = some (vm_l M 35 i.toNatClampNeg) := g_al (h.n (by decide)) (h.o (by decide) rfl) hi
theorem cs35 {M : vm_M} (h : Sh M) {i : Int32} {v : Int64} (hi : 0 ≤ i.toInt ∧ i.toInt < 12) : ss_l M 35 i v = some (vm_pl M 35 i.toNatClampNeg v) := g_sl (h.n (by decide)) (h.o (by decide) rfl) hi
theorem ca36 {M : vm_M} (h : Sh M) {i : Int32} (hi : 0 ≤ i.toInt ∧ i.toInt < 12) : sa_l M 36 i = some (vm_l M 36 i.toNatClampNeg) := g_al (h.n (by decide)) (h.o (by decide) rfl) hi
theorem cs36 {M : vm_M} (h : Sh M) {i : Int32} {v : Int64} (hi : 0 ≤ i.toInt ∧ i.toInt < 12) : ss_l M 36 i v = some (vm_pl M 36 i.toNatClampNeg v) := g_sl (h.n (by decide)) (h.o (by decide) rfl) hi
theorem ca37 {M : vm_M} (h : Sh M) {i : Int32} (hi : 0 ≤ i.toInt ∧ i.toInt < 12) : sa_l M 37 i = some (vm_l M 37 i.toNatClampNeg) := g_al (h.n (by decide)) (h.o (by decide) rfl) hi
theorem cs37 {M : vm_M} (h : Sh M) {i : Int32} {v : Int64} (hi : 0 ≤ i.toInt ∧ i.toInt < 12) : ss_l M 37 i v = some (vm_pl M 37 i.toNatClampNeg v) := g_sl (h.n (by decide)) (h.o (by decide) rfl) hi
theorem ca38 {M : vm_M} (h : Sh M) {i : Int32} (hi : 0 ≤ i.toInt ∧ i.toInt < 12) : sa_l M 38 i = some (vm_l M 38 i.toNatClampNeg) := g_al (h.n (by decide)) (h.o (by decide) rfl) hi
theorem cs38 {M : vm_M} (h : Sh M) {i : Int32} {v : Int64} (hi : 0 ≤ i.toInt ∧ i.toInt < 12) : ss_l M 38 i v = some (vm_pl M 38 i.toNatClampNeg v) := g_sl (h.n (by decide)) (h.o (by decide) rfl) hi
theorem ca39 {M : vm_M} (h : Sh M) {i : Int32} (hi : 0 ≤ i.toInt ∧ i.toInt < 12) : sa_l M 39 i = some (vm_l M 39 i.toNatClampNeg) := g_al (h.n (by decide)) (h.o (by decide) rfl) hi
theorem cs39 {M : vm_M} (h : Sh M) {i : Int32} {v : Int64} (hi : 0 ≤ i.toInt ∧ i.toInt < 12) : ss_l M 39 i v = some (vm_pl M 39 i.toNatClampNeg v) := g_sl (h.n (by decide)) (h.o (by decide) rfl) hi
theorem ca40 {M : vm_M} (h : Sh M) {i : Int32} (hi : 0 ≤ i.toInt ∧ i.toInt < 12) : sa_l M 40 i = some (vm_l M 40 i.toNatClampNeg) := g_al (h.n (by decide)) (h.o (by decide) rfl) hi
theorem cs40 {M : vm_M} (h : Sh M) {i : Int32} {v : Int64} (hi : 0 ≤ i.toInt ∧ i.toInt < 12) : ss_l M 40 i v = some (vm_pl M 40 i.toNatClampNeg v) := g_sl (h.n (by decide)) (h.o (by decide) rfl) hi
theorem ca41 {M : vm_M} (h : Sh M) {i : Int32} (hi : 0 ≤ i.toInt ∧ i.toInt < 12) : sa_l M 41 i = some (vm_l M 41 i.toNatClampNeg) := g_al (h.n (by decide)) (h.o (by decide) rfl) hi
theorem cs41 {M : vm_M} (h : Sh M) {i : Int32} {v : Int64} (hi : 0 ≤ i.toInt ∧ i.toInt < 12) : ss_l M 41 i v = some (vm_pl M 41 i.toNatClampNeg v) := g_sl (h.n (by decide)) (h.o (by decide) rfl) hi
theorem ca42 {M : vm_M} (h : Sh M) {i : Int32} (hi : 0 ≤ i.toInt ∧ i.toInt < 12) : sa_l M 42 i = some (vm_l M 42 i.toNatClampNeg) := g_al (h.n (by decide)) (h.o (by decide) rfl) hi
theorem cs42 {M : vm_M} (h : Sh M) {i : Int32} {v : Int64} (hi : 0 ≤ i.toInt ∧ i.toInt < 12) : ss_l M 42 i v = some (vm_pl M 42 i.toNatClampNeg v) := g_sl (h.n (by decide)) (h.o (by decide) rfl) hi
theorem ca43 {M : vm_M} (h : Sh M) {i : Int32} (hi : 0 ≤ i.toInt ∧ i.toInt < 12) : sa_i M 43 0 i = some (vm_i M 43 i.toNatClampNeg) := g_ai (h.n (by decide)) (h.o (by decide) rfl) hi
theorem cs43 {M : vm_M} (h : Sh M) {i v : Int32} (hi : 0 ≤ i.toInt ∧ i.toInt < 12) : ss_i M 43 0 i v = some (vm_pi M 43 i.toNatClampNeg v) := g_si (h.n (by decide)) (h.o (by decide) rfl) hi
theorem ca44 {M : vm_M} (h : Sh M) {i : Int32} (hi : 0 ≤ i.toInt ∧ i.toInt < 120) : sa_l M 44 i = some (vm_l M 44 i.toNatClampNeg) := g_al (h.n (by decide)) (h.o (by decide) rfl) hi
theorem cs44 {M : vm_M} (h : Sh M) {i : Int32} {v : Int64} (hi : 0 ≤ i.toInt ∧ i.toInt < 120) : ss_l M 44 i v = some (vm_pl M 44 i.toNatClampNeg v) := g_sl (h.n (by decide)) (h.o (by decide) rfl) hi
theorem ci45 {M : vm_M} (h : Sh M) (b : Nat) : sg_i M 45 4 b = some (vm_i M 45 b) := g_i (h.n (by decide)) (h.o (by decide) rfl)
theorem cl45 {M : vm_M} (h : Sh M) (b : Nat) : sg_l M 45 4 b = some (vm_l M 45 b) := g_l (h.n (by decide)) (h.o (by decide) rfl)
theorem cpi45 {M : vm_M} (h : Sh M) (b : Nat) (v : Int32) : sp_i M 45 4 b v = some (vm_pi M 45 b v) := g_pi (h.n (by decide)) (h.o (by decide) rfl)
theorem cpl45 {M : vm_M} (h : Sh M) (b : Nat) (v : Int64) : sp_l M 45 4 b v = some (vm_pl M 45 b v) := g_pl (h.n (by decide)) (h.o (by decide) rfl)
theorem cob45 {M : vm_M} (h : Sh M) : s_ob M 45 4 = some () := g_ob (h.n (by decide)) (h.o (by decide) rfl)
theorem ca46 {M : vm_M} (h : Sh M) {i : Int32} (hi : 0 ≤ i.toInt ∧ i.toInt < 20) : sa_i M 46 0 i = some (vm_i M 46 i.toNatClampNeg) := g_ai (h.n (by decide)) (h.o (by decide) rfl) hi
theorem cs46 {M : vm_M} (h : Sh M) {i v : Int32} (hi : 0 ≤ i.toInt ∧ i.toInt < 20) : ss_i M 46 0 i v = some (vm_pi M 46 i.toNatClampNeg v) := g_si (h.n (by decide)) (h.o (by decide) rfl) hi
theorem ca47 {M : vm_M} (h : Sh M) {i : Int32} (hi : 0 ≤ i.toInt ∧ i.toInt < 20) : sa_i M 47 0 i = some (vm_i M 47 i.toNatClampNeg) := g_ai (h.n (by decide)) (h.o (by decide) rfl) hi
theorem cs47 {M : vm_M} (h : Sh M) {i v : Int32} (hi : 0 ≤ i.toInt ∧ i.toInt < 20) : ss_i M 47 0 i v = some (vm_pi M 47 i.toNatClampNeg v) := g_si (h.n (by decide)) (h.o (by decide) rfl) hi
theorem ca48 {M : vm_M} (h : Sh M) {i : Int32} (hi : 0 ≤ i.toInt ∧ i.toInt < 20) : sa_i M 48 0 i = some (vm_i M 48 i.toNatClampNeg) := g_ai (h.n (by decide)) (h.o (by decide) rfl) hi
theorem cs48 {M : vm_M} (h : Sh M) {i v : Int32} (hi : 0 ≤ i.toInt ∧ i.toInt < 20) : ss_i M 48 0 i v = some (vm_pi M 48 i.toNatClampNeg v) := g_si (h.n (by decide)) (h.o (by decide) rfl) hi
theorem ca49 {M : vm_M} (h : Sh M) {i : Int32} (hi : 0 ≤ i.toInt ∧ i.toInt < 20) : sa_i M 49 0 i = some (vm_i M 49 i.toNatClampNeg) := g_ai (h.n (by decide)) (h.o (by decide) rfl) hi
theorem cs49 {M : vm_M} (h : Sh M) {i v : Int32} (hi : 0 ≤ i.toInt ∧ i.toInt < 20) : ss_i M 49 0 i v = some (vm_pi M 49 i.toNatClampNeg v) := g_si (h.n (by decide)) (h.o (by decide) rfl) hi
theorem ca50 {M : vm_M} (h : Sh M) {i : Int32} (hi : 0 ≤ i.toInt ∧ i.toInt < 20) : sa_i M 50 0 i = some (vm_i M 50 i.toNatClampNeg) := g_ai (h.n (by decide)) (h.o (by decide) rfl) hi
theorem cs50 {M : vm_M} (h : Sh M) {i v : Int32} (hi : 0 ≤ i.toInt ∧ i.toInt < 20) : ss_i M 50 0 i v = some (vm_pi M 50 i.toNatClampNeg v) := g_si (h.n (by decide)) (h.o (by decide) rfl) hi
theorem ca51 {M : vm_M} (h : Sh M) {i : Int32} (hi : 0 ≤ i.toInt ∧ i.toInt < 20) : sa_i M 51 0 i = some (vm_i M 51 i.toNatClampNeg) := g_ai (h.n (by decide)) (h.o (by decide) rfl) hi
theorem cs51 {M : vm_M} (h : Sh M) {i v : Int32} (hi : 0 ≤ i.toInt ∧ i.toInt < 20) : ss_i M 51 0 i v = some (vm_pi M 51 i.toNatClampNeg v) := g_si (h.n (by decide)) (h.o (by decide) rfl) hi
theorem ca52 {M : vm_M} (h : Sh M) {i : Int32} (hi : 0 ≤ i.toInt ∧ i.toInt < 20) : sa_i M 52 0 i = some (vm_i M 52 i.toNatClampNeg) := g_ai (h.n (by decide)) (h.o (by decide) rfl) hi
theorem cs52 {M : vm_M} (h : Sh M) {i v : Int32} (hi : 0 ≤ i.toInt ∧ i.toInt < 20) : ss_i M 52 0 i v = some (vm_pi M 52 i.toNatClampNeg v) := g_si (h.n (by decide)) (h.o (by decide) rfl) hi
theorem ca53 {M : vm_M} (h : Sh M) {i : Int32} (hi : 0 ≤ i.toInt ∧ i.toInt < 20) : sa_i M 53 2 i = some (vm_i M 53 i.toNatClampNeg) := g_ai (h.n (by decide)) (h.o (by decide) rfl) hi
theorem ca54 {M : vm_M} (h : Sh M) {i : Int32} (hi : 0 ≤ i.toInt ∧ i.toInt < 700) : sa_i M 54 0 i = some (vm_i M 54 i.toNatClampNeg) := g_ai (h.n (by decide)) (h.o (by decide) rfl) hi
theorem cs54 {M : vm_M} (h : Sh M) {i v : Int32} (hi : 0 ≤ i.toInt ∧ i.toInt < 700) : ss_i M 54 0 i v = some (vm_pi M 54 i.toNatClampNeg v) := g_si (h.n (by decide)) (h.o (by decide) rfl) hi
theorem ci55 {M : vm_M} (h : Sh M) (b : Nat) : sg_i M 55 11 b = some (vm_i M 55 b) := g_i (h.n (by decide)) (h.o (by decide) rfl)
theorem cl55 {M : vm_M} (h : Sh M) (b : Nat) : sg_l M 55 11 b = some (vm_l M 55 b) := g_l (h.n (by decide)) (h.o (by decide) rfl)
theorem cpi55 {M : vm_M} (h : Sh M) (b : Nat) (v : Int32) : sp_i M 55 11 b v = some (vm_pi M 55 b v) := g_pi (h.n (by decide)) (h.o (by decide) rfl)
theorem cpl55 {M : vm_M} (h : Sh M) (b : Nat) (v : Int64) : sp_l M 55 11 b v = some (vm_pl M 55 b v) := g_pl (h.n (by decide)) (h.o (by decide) rfl)
theorem cob55 {M : vm_M} (h : Sh M) : s_ob M 55 11 = some () := g_ob (h.n (by decide)) (h.o (by decide) rfl)
theorem ca56 {M : vm_M} (h : Sh M) {i : Int32} (hi : 0 ≤ i.toInt ∧ i.toInt < 12) : sa_i M 56 0 i = some (vm_i M 56 i.toNatClampNeg) := g_ai (h.n (by decide)) (h.o (by decide) rfl) hi
theorem cs56 {M : vm_M} (h : Sh M) {i v : Int32} (hi : 0 ≤ i.toInt ∧ i.toInt < 12) : ss_i M 56 0 i v = some (vm_pi M 56 i.toNatClampNeg v) := g_si (h.n (by decide)) (h.o (by decide) rfl) hi
theorem ca57 {M : vm_M} (h : Sh M) {i : Int32} (hi : 0 ≤ i.toInt ∧ i.toInt < 12) : sa_i M 57 0 i = some (vm_i M 57 i.toNatClampNeg) := g_ai (h.n (by decide)) (h.o (by decide) rfl) hi
theorem cs57 {M : vm_M} (h : Sh M) {i v : Int32} (hi : 0 ≤ i.toInt ∧ i.toInt < 12) : ss_i M 57 0 i v = some (vm_pi M 57 i.toNatClampNeg v) := g_si (h.n (by decide)) (h.o (by decide) rfl) hi
theorem ca58 {M : vm_M} (h : Sh M) {i : Int32} (hi : 0 ≤ i.toInt ∧ i.toInt < 12) : sa_i M 58 0 i = some (vm_i M 58 i.toNatClampNeg) := g_ai (h.n (by decide)) (h.o (by decide) rfl) hi
theorem cs58 {M : vm_M} (h : Sh M) {i v : Int32} (hi : 0 ≤ i.toInt ∧ i.toInt < 12) : ss_i M 58 0 i v = some (vm_pi M 58 i.toNatClampNeg v) := g_si (h.n (by decide)) (h.o (by decide) rfl) hi
theorem ca59 {M : vm_M} (h : Sh M) {i : Int32} (hi : 0 ≤ i.toInt ∧ i.toInt < 8) : sa_i M 59 0 i = some (vm_i M 59 i.toNatClampNeg) := g_ai (h.n (by decide)) (h.o (by decide) rfl) hi
theorem cs59 {M : vm_M} (h : Sh M) {i v : Int32} (hi : 0 ≤ i.toInt ∧ i.toInt < 8) : ss_i M 59 0 i v = some (vm_pi M 59 i.toNatClampNeg v) := g_si (h.n (by decide)) (h.o (by decide) rfl) hi
theorem ca60 {M : vm_M} (h : Sh M) {i : Int32} (hi : 0 ≤ i.toInt ∧ i.toInt < 256) : sa_i M 60 0 i = some (vm_i M 60 i.toNatClampNeg) := g_ai (h.n (by decide)) (h.o (by decide) rfl) hi
theorem cs60 {M : vm_M} (h : Sh M) {i v : Int32} (hi : 0 ≤ i.toInt ∧ i.toInt < 256) : ss_i M 60 0 i v = some (vm_pi M 60 i.toNatClampNeg v) := g_si (h.n (by decide)) (h.o (by decide) rfl) hi
theorem ca61 {M : vm_M} (h : Sh M) {i : Int32} (hi : 0 ≤ i.toInt ∧ i.toInt < 300) : sa_i M 61 0 i = some (vm_i M 61 i.toNatClampNeg) := g_ai (h.n (by decide)) (h.o (by decide) rfl) hi
theorem cs61 {M : vm_M} (h : Sh M) {i v : Int32} (hi : 0 ≤ i.toInt ∧ i.toInt < 300) : ss_i M 61 0 i v = some (vm_pi M 61 i.toNatClampNeg v) := g_si (h.n (by decide)) (h.o (by decide) rfl) hi
theorem ca62 {M : vm_M} (h : Sh M) {i : Int32} (hi : 0 ≤ i.toInt ∧ i.toInt < 300) : sa_i M 62 0 i = some (vm_i M 62 i.toNatClampNeg) := g_ai (h.n (by decide)) (h.o (by decide) rfl) hi
theorem cs62 {M : vm_M} (h : Sh M) {i v : Int32} (hi : 0 ≤ i.toInt ∧ i.toInt < 300) : ss_i M 62 0 i v = some (vm_pi M 62 i.toNatClampNeg v) := g_si (h.n (by decide)) (h.o (by decide) rfl) hi
theorem ca63 {M : vm_M} (h : Sh M) {i : Int32} (hi : 0 ≤ i.toInt ∧ i.toInt < 300) : sa_i M 63 0 i = some (vm_i M 63 i.toNatClampNeg) := g_ai (h.n (by decide)) (h.o (by decide) rfl) hi
theorem cs63 {M : vm_M} (h : Sh M) {i v : Int32} (hi : 0 ≤ i.toInt ∧ i.toInt < 300) : ss_i M 63 0 i v = some (vm_pi M 63 i.toNatClampNeg v) := g_si (h.n (by decide)) (h.o (by decide) rfl) hi
theorem ca64 {M : vm_M} (h : Sh M) {i : Int32} (hi : 0 ≤ i.toInt ∧ i.toInt < 300) : sa_i M 64 0 i = some (vm_i M 64 i.toNatClampNeg) := g_ai (h.n (by decide)) (h.o (by decide) rfl) hi
theorem cs64 {M : vm_M} (h : Sh M) {i v : Int32} (hi : 0 ≤ i.toInt ∧ i.toInt < 300) : ss_i M 64 0 i v = some (vm_pi M 64 i.toNatClampNeg v) := g_si (h.n (by decide)) (h.o (by decide) rfl) hi
theorem ca65 {M : vm_M} (h : Sh M) {i : Int32} (hi : 0 ≤ i.toInt ∧ i.toInt < 300) : sa_i M 65 0 i = some (vm_i M 65 i.toNatClampNeg) := g_ai (h.n (by decide)) (h.o (by decide) rfl) hi
theorem cs65 {M : vm_M} (h : Sh M) {i v : Int32} (hi : 0 ≤ i.toInt ∧ i.toInt < 300) : ss_i M 65 0 i v = some (vm_pi M 65 i.toNatClampNeg v) := g_si (h.n (by decide)) (h.o (by decide) rfl) hi
theorem ca66 {M : vm_M} (h : Sh M) {i : Int32} (hi : 0 ≤ i.toInt ∧ i.toInt < 12) : sa_i M 66 0 i = some (vm_i M 66 i.toNatClampNeg) := g_ai (h.n (by decide)) (h.o (by decide) rfl) hi
theorem cs66 {M : vm_M} (h : Sh M) {i v : Int32} (hi : 0 ≤ i.toInt ∧ i.toInt < 12) : ss_i M 66 0 i v = some (vm_pi M 66 i.toNatClampNeg v) := g_si (h.n (by decide)) (h.o (by decide) rfl) hi
theorem ca67 {M : vm_M} (h : Sh M) {i : Int32} (hi : 0 ≤ i.toInt ∧ i.toInt < 12) : sa_i M 67 0 i = some (vm_i M 67 i.toNatClampNeg) := g_ai (h.n (by decide)) (h.o (by decide) rfl) hi
theorem cs67 {M : vm_M} (h : Sh M) {i v : Int32} (hi : 0 ≤ i.toInt ∧ i.toInt < 12) : ss_i M 67 0 i v = some (vm_pi M 67 i.toNatClampNeg v) := g_si (h.n (by decide)) (h.o (by decide) rfl) hi
theorem ca68 {M : vm_M} (h : Sh M) {i : Int32} (hi : 0 ≤ i.toInt ∧ i.toInt < 16) : sa_i M 68 0 i = some (vm_i M 68 i.toNatClampNeg) := g_ai (h.n (by decide)) (h.o (by decide) rfl) hi
theorem cs68 {M : vm_M} (h : Sh M) {i v : Int32} (hi : 0 ≤ i.toInt ∧ i.toInt < 16) : ss_i M 68 0 i v = some (vm_pi M 68 i.toNatClampNeg v) := g_si (h.n (by decide)) (h.o (by decide) rfl) hi
theorem ca69 {M : vm_M} (h : Sh M) {i : Int32} (hi : 0 ≤ i.toInt ∧ i.toInt < 16) : sa_i M 69 2 i = some (vm_i M 69 i.toNatClampNeg) := g_ai (h.n (by decide)) (h.o (by decide) rfl) hi
theorem ca70 {M : vm_M} (h : Sh M) {i : Int32} (hi : 0 ≤ i.toInt ∧ i.toInt < 10) : sa_i M 70 0 i = some (vm_i M 70 i.toNatClampNeg) := g_ai (h.n (by decide)) (h.o (by decide) rfl) hi
theorem cs70 {M : vm_M} (h : Sh M) {i v : Int32} (hi : 0 ≤ i.toInt ∧ i.toInt < 10) : ss_i M 70 0 i v = some (vm_pi M 70 i.toNatClampNeg v) := g_si (h.n (by decide)) (h.o (by decide) rfl) hi
theorem ca71 {M : vm_M} (h : Sh M) {i : Int32} (hi : 0 ≤ i.toInt ∧ i.toInt < 10) : sa_i M 71 0 i = some (vm_i M 71 i.toNatClampNeg) := g_ai (h.n (by decide)) (h.o (by decide) rfl) hi
theorem cs71 {M : vm_M} (h : Sh M) {i v : Int32} (hi : 0 ≤ i.toInt ∧ i.toInt < 10) : ss_i M 71 0 i v = some (vm_pi M 71 i.toNatClampNeg v) := g_si (h.n (by decide)) (h.o (by decide) rfl) hi
theorem ca72 {M : vm_M} (h : Sh M) {i : Int32} (hi : 0 ≤ i.toInt ∧ i.toInt < 10) : sa_i M 72 0 i = some (vm_i M 72 i.toNatClampNeg) := g_ai (h.n (by decide)) (h.o (by decide) rfl) hi
theorem cs72 {M : vm_M} (h : Sh M) {i v : Int32} (hi : 0 ≤ i.toInt ∧ i.toInt < 10) : ss_i M 72 0 i v = some (vm_pi M 72 i.toNatClampNeg v) := g_si (h.n (by decide)) (h.o (by decide) rfl) hi
theorem ca73 {M : vm_M} (h : Sh M) {i : Int32} (hi : 0 ≤ i.toInt ∧ i.toInt < 300) : sa_i M 73 0 i = some (vm_i M 73 i.toNatClampNeg) := g_ai (h.n (by decide)) (h.o (by decide) rfl) hi
theorem cs73 {M : vm_M} (h : Sh M) {i v : Int32} (hi : 0 ≤ i.toInt ∧ i.toInt < 300) : ss_i M 73 0 i v = some (vm_pi M 73 i.toNatClampNeg v) := g_si (h.n (by decide)) (h.o (by decide) rfl) hi
theorem ca74 {M : vm_M} (h : Sh M) {i : Int32} (hi : 0 ≤ i.toInt ∧ i.toInt < 300) : sa_i M 74 0 i = some (vm_i M 74 i.toNatClampNeg) := g_ai (h.n (by decide)) (h.o (by decide) rfl) hi
theorem cs74 {M : vm_M} (h : Sh M) {i v : Int32} (hi : 0 ≤ i.toInt ∧ i.toInt < 300) : ss_i M 74 0 i v = some (vm_pi M 74 i.toNatClampNeg v) := g_si (h.n (by decide)) (h.o (by decide) rfl) hi
theorem ca75 {M : vm_M} (h : Sh M) {i : Int32} (hi : 0 ≤ i.toInt ∧ i.toInt < 300) : sa_i M 75 0 i = some (vm_i M 75 i.toNatClampNeg) := g_ai (h.n (by decide)) (h.o (by decide) rfl) hi
theorem cs75 {M : vm_M} (h : Sh M) {i v : Int32} (hi : 0 ≤ i.toInt ∧ i.toInt < 300) : ss_i M 75 0 i v = some (vm_pi M 75 i.toNatClampNeg v) := g_si (h.n (by decide)) (h.o (by decide) rfl) hi
theorem ca76 {M : vm_M} (h : Sh M) {i : Int32} (hi : 0 ≤ i.toInt ∧ i.toInt < 300) : sa_i M 76 0 i = some (vm_i M 76 i.toNatClampNeg) := g_ai (h.n (by decide)) (h.o (by decide) rfl) hi
theorem cs76 {M : vm_M} (h : Sh M) {i v : Int32} (hi : 0 ≤ i.toInt ∧ i.toInt < 300) : ss_i M 76 0 i v = some (vm_pi M 76 i.toNatClampNeg v) := g_si (h.n (by decide)) (h.o (by decide) rfl) hi
theorem ca77 {M : vm_M} (h : Sh M) {i : Int32} (hi : 0 ≤ i.toInt ∧ i.toInt < 300) : sa_i M 77 0 i = some (vm_i M 77 i.toNatClampNeg) := g_ai (h.n (by decide)) (h.o (by decide) rfl) hi
theorem cs77 {M : vm_M} (h : Sh M) {i v : Int32} (hi : 0 ≤ i.toInt ∧ i.toInt < 300) : ss_i M 77 0 i v = some (vm_pi M 77 i.toNatClampNeg v) := g_si (h.n (by decide)) (h.o (by decide) rfl) hi
theorem ca78 {M : vm_M} (h : Sh M) {i : Int32} (hi : 0 ≤ i.toInt ∧ i.toInt < 15000) : sa_i M 78 0 i = some (vm_i M 78 i.toNatClampNeg) := g_ai (h.n (by decide)) (h.o (by decide) rfl) hi
theorem cs78 {M : vm_M} (h : Sh M) {i v : Int32} (hi : 0 ≤ i.toInt ∧ i.toInt < 15000) : ss_i M 78 0 i v = some (vm_pi M 78 i.toNatClampNeg v) := g_si (h.n (by decide)) (h.o (by decide) rfl) hi
theorem ca79 {M : vm_M} (h : Sh M) {i : Int32} (hi : 0 ≤ i.toInt ∧ i.toInt < 15000) : sa_i M 79 0 i = some (vm_i M 79 i.toNatClampNeg) := g_ai (h.n (by decide)) (h.o (by decide) rfl) hi
theorem cs79 {M : vm_M} (h : Sh M) {i v : Int32} (hi : 0 ≤ i.toInt ∧ i.toInt < 15000) : ss_i M 79 0 i v = some (vm_pi M 79 i.toNatClampNeg v) := g_si (h.n (by decide)) (h.o (by decide) rfl) hi
theorem ca80 {M : vm_M} (h : Sh M) {i : Int32} (hi : 0 ≤ i.toInt ∧ i.toInt < 30) : sa_l M 80 i = some (vm_l M 80 i.toNatClampNeg) := g_al (h.n (by decide)) (h.o (by decide) rfl) hi
theorem cs80 {M : vm_M} (h : Sh M) {i : Int32} {v : Int64} (hi : 0 ≤ i.toInt ∧ i.toInt < 30) : ss_l M 80 i v = some (vm_pl M 80 i.toNatClampNeg v) := g_sl (h.n (by decide)) (h.o (by decide) rfl) hi
theorem ca81 {M : vm_M} (h : Sh M) {i : Int32} (hi : 0 ≤ i.toInt ∧ i.toInt < 64) : sa_l M 81 i = some (vm_l M 81 i.toNatClampNeg) := g_al (h.n (by decide)) (h.o (by decide) rfl) hi
theorem cs81 {M : vm_M} (h : Sh M) {i : Int32} {v : Int64} (hi : 0 ≤ i.toInt ∧ i.toInt < 64) : ss_l M 81 i v = some (vm_pl M 81 i.toNatClampNeg v) := g_sl (h.n (by decide)) (h.o (by decide) rfl) hi
theorem ca82 {M : vm_M} (h : Sh M) {i : Int32} (hi : 0 ≤ i.toInt ∧ i.toInt < 10) : sa_l M 82 i = some (vm_l M 82 i.toNatClampNeg) := g_al (h.n (by decide)) (h.o (by decide) rfl) hi
theorem cs82 {M : vm_M} (h : Sh M) {i : Int32} {v : Int64} (hi : 0 ≤ i.toInt ∧ i.toInt < 10) : ss_l M 82 i v = some (vm_pl M 82 i.toNatClampNeg v) := g_sl (h.n (by decide)) (h.o (by decide) rfl) hi
theorem ca83 {M : vm_M} (h : Sh M) {i : Int32} (hi : 0 ≤ i.toInt ∧ i.toInt < 700) : sa_i M 83 3 i = some (vm_i M 83 i.toNatClampNeg) := g_ai (h.n (by decide)) (h.o (by decide) rfl) hi
theorem ca84 {M : vm_M} (h : Sh M) {i : Int32} (hi : 0 ≤ i.toInt ∧ i.toInt < 700) : sa_i M 84 3 i = some (vm_i M 84 i.toNatClampNeg) := g_ai (h.n (by decide)) (h.o (by decide) rfl) hi
theorem ca85 {M : vm_M} (h : Sh M) {i : Int32} (hi : 0 ≤ i.toInt ∧ i.toInt < 360) : sa_l M 85 i = some (vm_l M 85 i.toNatClampNeg) := g_al (h.n (by decide)) (h.o (by decide) rfl) hi
theorem cs85 {M : vm_M} (h : Sh M) {i : Int32} {v : Int64} (hi : 0 ≤ i.toInt ∧ i.toInt < 360) : ss_l M 85 i v = some (vm_pl M 85 i.toNatClampNeg v) := g_sl (h.n (by decide)) (h.o (by decide) rfl) hi
theorem ca86 {M : vm_M} (h : Sh M) {i : Int32} (hi : 0 ≤ i.toInt ∧ i.toInt < 12) : sa_l M 86 i = some (vm_l M 86 i.toNatClampNeg) := g_al (h.n (by decide)) (h.o (by decide) rfl) hi
theorem cs86 {M : vm_M} (h : Sh M) {i : Int32} {v : Int64} (hi : 0 ≤ i.toInt ∧ i.toInt < 12) : ss_l M 86 i v = some (vm_pl M 86 i.toNatClampNeg v) := g_sl (h.n (by decide)) (h.o (by decide) rfl) hi
theorem ca87 {M : vm_M} (h : Sh M) {i : Int32} (hi : 0 ≤ i.toInt ∧ i.toInt < 12) : sa_l M 87 i = some (vm_l M 87 i.toNatClampNeg) := g_al (h.n (by decide)) (h.o (by decide) rfl) hi
theorem cs87 {M : vm_M} (h : Sh M) {i : Int32} {v : Int64} (hi : 0 ≤ i.toInt ∧ i.toInt < 12) : ss_l M 87 i v = some (vm_pl M 87 i.toNatClampNeg v) := g_sl (h.n (by decide)) (h.o (by decide) rfl) hi
theorem ca88 {M : vm_M} (h : Sh M) {i : Int32} (hi : 0 ≤ i.toInt ∧ i.toInt < 12) : sa_l M 88 i = some (vm_l M 88 i.toNatClampNeg) := g_al (h.n (by decide)) (h.o (by decide) rfl) hi
theorem cs88 {M : vm_M} (h : Sh M) {i : Int32} {v : Int64} (hi : 0 ≤ i.toInt ∧ i.toInt < 12) : ss_l M 88 i v = some (vm_pl M 88 i.toNatClampNeg v) := g_sl (h.n (by decide)) (h.o (by decide) rfl) hi
theorem ca89 {M : vm_M} (h : Sh M) {i : Int32} (hi : 0 ≤ i.toInt ∧ i.toInt < 12) : sa_l M 89 i = some (vm_l M 89 i.toNatClampNeg) := g_al (h.n (by decide)) (h.o (by decide) rfl) hi
theorem cs89 {M : vm_M} (h : Sh M) {i : Int32} {v : Int64} (hi : 0 ≤ i.toInt ∧ i.toInt < 12) : ss_l M 89 i v = some (vm_pl M 89 i.toNatClampNeg v) := g_sl (h.n (by decide)) (h.o (by decide) rfl) hi
theorem ca90 {M : vm_M} (h : Sh M) {i : Int32} (hi : 0 ≤ i.toInt ∧ i.toInt < 12) : sa_l M 90 i = some (vm_l M 90 i.toNatClampNeg) := g_al (h.n (by decide)) (h.o (by decide) rfl) hi
theorem cs90 {M : vm_M} (h : Sh M) {i : Int32} {v : Int64} (hi : 0 ≤ i.toInt ∧ i.toInt < 12) : ss_l M 90 i v = some (vm_pl M 90 i.toNatClampNeg v) := g_sl (h.n (by decide)) (h.o (by decide) rfl) hi
theorem ca91 {M : vm_M} (h : Sh M) {i : Int32} (hi : 0 ≤ i.toInt ∧ i.toInt < 12) : sa_l M 91 i = some (vm_l M 91 i.toNatClampNeg) := g_al (h.n (by decide)) (h.o (by decide) rfl) hi
theorem cs91 {M : vm_M} (h : Sh M) {i : Int32} {v : Int64} (hi : 0 ≤ i.toInt ∧ i.toInt < 12) : ss_l M 91 i v = some (vm_pl M 91 i.toNatClampNeg v) := g_sl (h.n (by decide)) (h.o (by decide) rfl) hi
theorem ca92 {M : vm_M} (h : Sh M) {i : Int32} (hi : 0 ≤ i.toInt ∧ i.toInt < 12) : sa_l M 92 i = some (vm_l M 92 i.toNatClampNeg) := g_al (h.n (by decide)) (h.o (by decide) rfl) hi
theorem cs92 {M : vm_M} (h : Sh M) {i : Int32} {v : Int64} (hi : 0 ≤ i.toInt ∧ i.toInt < 12) : ss_l M 92 i v = some (vm_pl M 92 i.toNatClampNeg v) := g_sl (h.n (by decide)) (h.o (by decide) rfl) hi
theorem ca93 {M : vm_M} (h : Sh M) {i : Int32} (hi : 0 ≤ i.toInt ∧ i.toInt < 12) : sa_l M 93 i = some (vm_l M 93 i.toNatClampNeg) := g_al (h.n (by decide)) (h.o (by decide) rfl) hi
theorem cs93 {M : vm_M} (h : Sh M) {i : Int32} {v : Int64} (hi : 0 ≤ i.toInt ∧ i.toInt < 12) : ss_l M 93 i v = some (vm_pl M 93 i.toNatClampNeg v) := g_sl (h.n (by decide)) (h.o (by decide) rfl) hi
theorem ca94 {M : vm_M} (h : Sh M) {i : Int32} (hi : 0 ≤ i.toInt ∧ i.toInt < 20) : sa_i M 94 0 i = some (vm_i M 94 i.toNatClampNeg) := g_ai (h.n (by decide)) (h.o (by decide) rfl) hi
theorem cs94 {M : vm_M} (h : Sh M) {i v : Int32} (hi : 0 ≤ i.toInt ∧ i.toInt < 20) : ss_i M 94 0 i v = some (vm_pi M 94 i.toNatClampNeg v) := g_si (h.n (by decide)) (h.o (by decide) rfl) hi
theorem ca95 {M : vm_M} (h : Sh M) {i : Int32} (hi : 0 ≤ i.toInt ∧ i.toInt < 20) : sa_i M 95 0 i = some (vm_i M 95 i.toNatClampNeg) := g_ai (h.n (by decide)) (h.o (by decide) rfl) hi
theorem cs95 {M : vm_M} (h : Sh M) {i v : Int32} (hi : 0 ≤ i.toInt ∧ i.toInt < 20) : ss_i M 95 0 i v = some (vm_pi M 95 i.toNatClampNeg v) := g_si (h.n (by decide)) (h.o (by decide) rfl) hi
theorem ca96 {M : vm_M} (h : Sh M) {i : Int32} (hi : 0 ≤ i.toInt ∧ i.toInt < 20) : sa_i M 96 0 i = some (vm_i M 96 i.toNatClampNeg) := g_ai (h.n (by decide)) (h.o (by decide) rfl) hi
theorem cs96 {M : vm_M} (h : Sh M) {i v : Int32} (hi : 0 ≤ i.toInt ∧ i.toInt < 20) : ss_i M 96 0 i v = some (vm_pi M 96 i.toNatClampNeg v) := g_si (h.n (by decide)) (h.o (by decide) rfl) hi
theorem ca97 {M : vm_M} (h : Sh M) {i : Int32} (hi : 0 ≤ i.toInt ∧ i.toInt < 20) : sa_i M 97 0 i = some (vm_i M 97 i.toNatClampNeg) := g_ai (h.n (by decide)) (h.o (by decide) rfl) hi
theorem cs97 {M : vm_M} (h : Sh M) {i v : Int32} (hi : 0 ≤ i.toInt ∧ i.toInt < 20) : ss_i M 97 0 i v = some (vm_pi M 97 i.toNatClampNeg v) := g_si (h.n (by decide)) (h.o (by decide) rfl) hi
theorem ca98 {M : vm_M} (h : Sh M) {i : Int32} (hi : 0 ≤ i.toInt ∧ i.toInt < 20) : sa_i M 98 0 i = some (vm_i M 98 i.toNatClampNeg) := g_ai (h.n (by decide)) (h.o (by decide) rfl) hi
theorem cs98 {M : vm_M} (h : Sh M) {i v : Int32} (hi : 0 ≤ i.toInt ∧ i.toInt < 20) : ss_i M 98 0 i v = some (vm_pi M 98 i.toNatClampNeg v) := g_si (h.n (by decide)) (h.o (by decide) rfl) hi
theorem ca99 {M : vm_M} (h : Sh M) {i : Int32} (hi : 0 ≤ i.toInt ∧ i.toInt < 20) : sa_i M 99 0 i = some (vm_i M 99 i.toNatClampNeg) := g_ai (h.n (by decide)) (h.o (by decide) rfl) hi
theorem cs99 {M : vm_M} (h : Sh M) {i v : Int32} (hi : 0 ≤ i.toInt ∧ i.toInt < 20) : ss_i M 99 0 i v = some (vm_pi M 99 i.toNatClampNeg v) := g_si (h.n (by decide)) (h.o (by decide) rfl) hi
theorem ca100 {M : vm_M} (h : Sh M) {i : Int32} (hi : 0 ≤ i.toInt ∧ i.toInt < 20) : sa_i M 100 0 i = some (vm_i M 100 i.toNatClampNeg) := g_ai (h.n (by decide)) (h.o (by decide) rfl) hi
theorem cs100 {M : vm_M} (h : Sh M) {i v : Int32} (hi : 0 ≤ i.toInt ∧ i.toInt < 20) : ss_i M 100 0 i v = some (vm_pi M 100 i.toNatClampNeg v) := g_si (h.n (by decide)) (h.o (by decide) rfl) hi
theorem ca101 {M : vm_M} (h : Sh M) {i : Int32} (hi : 0 ≤ i.toInt ∧ i.toInt < 20) : sa_i M 101 2 i = some (vm_i M 101 i.toNatClampNeg) := g_ai (h.n (by decide)) (h.o (by decide) rfl) hi
theorem ca102 {M : vm_M} (h : Sh M) {i : Int32} (hi : 0 ≤ i.toInt ∧ i.toInt < 6) : sa_i M 102 0 i = some (vm_i M 102 i.toNatClampNeg) := g_ai (h.n (by decide)) (h.o (by decide) rfl) hi
theorem cs102 {M : vm_M} (h : Sh M) {i v : Int32} (hi : 0 ≤ i.toInt ∧ i.toInt < 6) : ss_i M 102 0 i v = some (vm_pi M 102 i.toNatClampNeg v) := g_si (h.n (by decide)) (h.o (by decide) rfl) hi
theorem cr0_0 {M : vm_M} (h : Sh M) : sg_r M 0 10 0 = some (some 1) := (g_r (h.n (by decide)) (h.o (by decide) rfl)).trans (congrArg some (h.r 0 rfl))
theorem cr0_1 {M : vm_M} (h : Sh M) : sg_r M 0 10 1 = some (some 11) := (g_r (h.n (by decide)) (h.o (by decide) rfl)).trans (congrArg some (h.r 1 rfl))
theorem cr0_2 {M : vm_M} (h : Sh M) : sg_r M 0 10 2 = some (some 16) := (g_r (h.n (by decide)) (h.o (by decide) rfl)).trans (congrArg some (h.r 2 rfl))
theorem cr0_3 {M : vm_M} (h : Sh M) : sg_r M 0 10 3 = some (some 23) := (g_r (h.n (by decide)) (h.o (by decide) rfl)).trans (congrArg some (h.r 3 rfl))
theorem cr0_4 {M : vm_M} (h : Sh M) : sg_r M 0 10 4 = some (some 30) := (g_r (h.n (by decide)) (h.o (by decide) rfl)).trans (congrArg some (h.r 4 rfl))
theorem cr0_5 {M : vm_M} (h : Sh M) : sg_r M 0 10 5 = some (some 45) := (g_r (h.n (by decide)) (h.o (by decide) rfl)).trans (congrArg some (h.r 5 rfl))
theorem cr0_6 {M : vm_M} (h : Sh M) : sg_r M 0 10 6 = some (some 54) := (g_r (h.n (by decide)) (h.o (by decide) rfl)).trans (congrArg some (h.r 6 rfl))
theorem cr1_0 {M : vm_M} (h : Sh M) : sg_r M 1 0 0 = some (some 2) := (g_r (h.n (by decide)) (h.o (by decide) rfl)).trans (congrArg some (h.r 7 rfl))
theorem cr1_1 {M : vm_M} (h : Sh M) : sg_r M 1 0 1 = some (some 3) := (g_r (h.n (by decide)) (h.o (by decide) rfl)).trans (congrArg some (h.r 8 rfl))
theorem cr1_2 {M : vm_M} (h : Sh M) : sg_r M 1 0 2 = some (some 4) := (g_r (h.n (by decide)) (h.o (by decide) rfl)).trans (congrArg some (h.r 9 rfl))
theorem cr1_3 {M : vm_M} (h : Sh M) : sg_r M 1 0 3 = some (some 5) := (g_r (h.n (by decide)) (h.o (by decide) rfl)).trans (congrArg some (h.r 10 rfl))
theorem cr1_4 {M : vm_M} (h : Sh M) : sg_r M 1 0 4 = some (some 6) := (g_r (h.n (by decide)) (h.o (by decide) rfl)).trans (congrArg some (h.r 11 rfl))
theorem cr1_5 {M : vm_M} (h : Sh M) : sg_r M 1 0 5 = some (some 7) := (g_r (h.n (by decide)) (h.o (by decide) rfl)).trans (congrArg some (h.r 12 rfl))
theorem cr1_6 {M : vm_M} (h : Sh M) : sg_r M 1 0 6 = some (some 8) := (g_r (h.n (by decide)) (h.o (by decide) rfl)).trans (congrArg some (h.r 13 rfl))
theorem cr8_0 {M : vm_M} (h : Sh M) : sg_r M 8 7 0 = some (some 9) := (g_r (h.n (by decide)) (h.o (by decide) rfl)).trans (congrArg some (h.r 14 rfl))
theorem cr8_1 {M : vm_M} (h : Sh M) : sg_r M 8 7 1 = some (some 10) := (g_r (h.n (by decide)) (h.o (by decide) rfl)).trans (congrArg some (h.r 15 rfl))
theorem cr11_0 {M : vm_M} (h : Sh M) : sg_r M 11 2 0 = some (some 12) := (g_r (h.n (by decide)) (h.o (by decide) rfl)).trans (congrArg some (h.r 16 rfl))
theorem cr11_1 {M : vm_M} (h : Sh M) : sg_r M 11 2 1 = some (some 13) := (g_r (h.n (by decide)) (h.o (by decide) rfl)).trans (congrArg some (h.r 17 rfl))
theorem cr11_2 {M : vm_M} (h : Sh M) : sg_r M 11 2 2 = some (some 14) := (g_r (h.n (by decide)) (h.o (by decide) rfl)).trans (congrArg some (h.r 18 rfl))
theorem cr11_3 {M : vm_M} (h : Sh M) : sg_r M 11 2 3 = some (some 15) := (g_r (h.n (by decide)) (h.o (by decide) rfl)).trans (congrArg some (h.r 19 rfl))
theorem cr16_0 {M : vm_M} (h : Sh M) : sg_r M 16 6 0 = some (some 17) := (g_r (h.n (by decide)) (h.o (by decide) rfl)).trans (congrArg some (h.r 20 rfl))
theorem cr16_1 {M : vm_M} (h : Sh M) : sg_r M 16 6 1 = some (some 18) := (g_r (h.n (by decide)) (h.o (by decide) rfl)).trans (congrArg some (h.r 21 rfl))
theorem cr16_2 {M : vm_M} (h : Sh M) : sg_r M 16 6 2 = some (some 19) := (g_r (h.n (by decide)) (h.o (by decide) rfl)).trans (congrArg some (h.r 22 rfl))
theorem cr16_3 {M : vm_M} (h : Sh M) : sg_r M 16 6 3 = some (some 20) := (g_r (h.n (by decide)) (h.o (by decide) rfl)).trans (congrArg some (h.r 23 rfl))
theorem cr16_4 {M : vm_M} (h : Sh M) : sg_r M 16 6 4 = some (some 21) := (g_r (h.n (by decide)) (h.o (by decide) rfl)).trans (congrArg some (h.r 24 rfl))
theorem cr16_5 {M : vm_M} (h : Sh M) : sg_r M 16 6 5 = some (some 22) := (g_r (h.n (by decide)) (h.o (by decide) rfl)).trans (congrArg some (h.r 25 rfl))
theorem cr23_0 {M : vm_M} (h : Sh M) : sg_r M 23 8 0 = some (some 29) := (g_r (h.n (by decide)) (h.o (by decide) rfl)).trans (congrArg some (h.r 26 rfl))
theorem cr23_1 {M : vm_M} (h : Sh M) : sg_r M 23 8 1 = some (some 24) := (g_r (h.n (by decide)) (h.o (by decide) rfl)).trans (congrArg some (h.r 27 rfl))
theorem cr24_5 {M : vm_M} (h : Sh M) : sg_r M 24 1 5 = some (some 25) := (g_r (h.n (by decide)) (h.o (by decide) rfl)).trans (congrArg some (h.r 28 rfl))
theorem cr24_6 {M : vm_M} (h : Sh M) : sg_r M 24 1 6 = some (some 26) := (g_r (h.n (by decide)) (h.o (by decide) rfl)).trans (congrArg some (h.r 29 rfl))
theorem cr24_7 {M : vm_M} (h : Sh M) : sg_r M 24 1 7 = some (some 27) := (g_r (h.n (by decide)) (h.o (by decide) rfl)).trans (congrArg some (h.r 30 rfl))
theorem cr24_8 {M : vm_M} (h : Sh M) : sg_r M 24 1 8 = some (some 28) := (g_r (h.n (by decide)) (h.o (by decide) rfl)).trans (congrArg some (h.r 31 rfl))
theorem cr30_0 {M : vm_M} (h : Sh M) : sg_r M 30 9 0 = some (some 1) := (g_r (h.n (by decide)) (h.o (by decide) rfl)).trans (congrArg some (h.r 32 rfl))
theorem cr30_1 {M : vm_M} (h : Sh M) : sg_r M 30 9 1 = some (some 11) := (g_r (h.n (by decide)) (h.o (by decide) rfl)).trans (congrArg some (h.r 33 rfl))
theorem cr30_2 {M : vm_M} (h : Sh M) : sg_r M 30 9 2 = some (some 23) := (g_r (h.n (by decide)) (h.o (by decide) rfl)).trans (congrArg some (h.r 34 rfl))
theorem cr30_3 {M : vm_M} (h : Sh M) : sg_r M 30 9 3 = some (some 31) := (g_r (h.n (by decide)) (h.o (by decide) rfl)).trans (congrArg some (h.r 35 rfl))
theorem cr30_4 {M : vm_M} (h : Sh M) : sg_r M 30 9 4 = some (some 34) := (g_r (h.n (by decide)) (h.o (by decide) rfl)).trans (congrArg some (h.r 36 rfl))
theorem cr30_5 {M : vm_M} (h : Sh M) : sg_r M 30 9 5 = some (some 35) := (g_r (h.n (by decide)) (h.o (by decide) rfl)).trans (congrArg some (h.r 37 rfl))
theorem cr30_6 {M : vm_M} (h : Sh M) : sg_r M 30 9 6 = some (some 36) := (g_r (h.n (by decide)) (h.o (by decide) rfl)).trans (congrArg some (h.r 38 rfl))
theorem cr30_7 {M : vm_M} (h : Sh M) : sg_r M 30 9 7 = some (some 37) := (g_r (h.n (by decide)) (h.o (by decide) rfl)).trans (congrArg some (h.r 39 rfl))
theorem cr30_8 {M : vm_M} (h : Sh M) : sg_r M 30 9 8 = some (some 38) := (g_r (h.n (by decide)) (h.o (by decide) rfl)).trans (congrArg some (h.r 40 rfl))
theorem cr30_9 {M : vm_M} (h : Sh M) : sg_r M 30 9 9 = some (some 39) := (g_r (h.n (by decide)) (h.o (by decide) rfl)).trans (congrArg some (h.r 41 rfl))
theorem cr30_10 {M : vm_M} (h : Sh M) : sg_r M 30 9 10 = some (some 40) := (g_r (h.n (by decide)) (h.o (by decide) rfl)).trans (congrArg some (h.r 42 rfl))
theorem cr30_11 {M : vm_M} (h : Sh M) : sg_r M 30 9 11 = some (some 41) := (g_r (h.n (by decide)) (h.o (by decide) rfl)).trans (congrArg some (h.r 43 rfl))
theorem cr30_12 {M : vm_M} (h : Sh M) : sg_r M 30 9 12 = some (some 42) := (g_r (h.n (by decide)) (h.o (by decide) rfl)).trans (congrArg some (h.r 44 rfl))
theorem cr30_13 {M : vm_M} (h : Sh M) : sg_r M 30 9 13 = some (some 43) := (g_r (h.n (by decide)) (h.o (by decide) rfl)).trans (congrArg some (h.r 45 rfl))
theorem cr30_14 {M : vm_M} (h : Sh M) : sg_r M 30 9 14 = some (some 44) := (g_r (h.n (by decide)) (h.o (by decide) rfl)).trans (congrArg some (h.r 46 rfl))
theorem cr31_0 {M : vm_M} (h : Sh M) : sg_r M 31 3 0 = some (some 32) := (g_r (h.n (by decide)) (h.o (by decide) rfl)).trans (congrArg some (h.r 47 rfl))
theorem cr31_1 {M : vm_M} (h : Sh M) : sg_r M 31 3 1 = some (some 33) := (g_r (h.n (by decide)) (h.o (by decide) rfl)).trans (congrArg some (h.r 48 rfl))
theorem cr45_0 {M : vm_M} (h : Sh M) : sg_r M 45 4 0 = some (some 46) := (g_r (h.n (by decide)) (h.o (by decide) rfl)).trans (congrArg some (h.r 49 rfl))
theorem cr45_1 {M : vm_M} (h : Sh M) : sg_r M 45 4 1 = some (some 47) := (g_r (h.n (by decide)) (h.o (by decide) rfl)).trans (congrArg some (h.r 50 rfl))
theorem cr45_2 {M : vm_M} (h : Sh M) : sg_r M 45 4 2 = some (some 48) := (g_r (h.n (by decide)) (h.o (by decide) rfl)).trans (congrArg some (h.r 51 rfl))
theorem cr45_3 {M : vm_M} (h : Sh M) : sg_r M 45 4 3 = some (some 49) := (g_r (h.n (by decide)) (h.o (by decide) rfl)).trans (congrArg some (h.r 52 rfl))
theorem cr45_4 {M : vm_M} (h : Sh M) : sg_r M 45 4 4 = some (some 50) := (g_r (h.n (by decide)) (h.o (by decide) rfl)).trans (congrArg some (h.r 53 rfl))
theorem cr45_5 {M : vm_M} (h : Sh M) : sg_r M 45 4 5 = some (some 51) := (g_r (h.n (by decide)) (h.o (by decide) rfl)).trans (congrArg some (h.r 54 rfl))
theorem cr45_6 {M : vm_M} (h : Sh M) : sg_r M 45 4 6 = some (some 52) := (g_r (h.n (by decide)) (h.o (by decide) rfl)).trans (congrArg some (h.r 55 rfl))
theorem cr45_7 {M : vm_M} (h : Sh M) : sg_r M 45 4 7 = some (some 53) := (g_r (h.n (by decide)) (h.o (by decide) rfl)).trans (congrArg some (h.r 56 rfl))
theorem cr55_4 {M : vm_M} (h : Sh M) : sg_r M 55 11 4 = some (some 56) := (g_r (h.n (by decide)) (h.o (by decide) rfl)).trans (congrArg some (h.r 57 rfl))
theorem cr55_5 {M : vm_M} (h : Sh M) : sg_r M 55 11 5 = some (some 57) := (g_r (h.n (by decide)) (h.o (by decide) rfl)).trans (congrArg some (h.r 58 rfl))
theorem cr55_6 {M : vm_M} (h : Sh M) : sg_r M 55 11 6 = some (some 58) := (g_r (h.n (by decide)) (h.o (by decide) rfl)).trans (congrArg some (h.r 59 rfl))
theorem cr55_7 {M : vm_M} (h : Sh M) : sg_r M 55 11 7 = some (some 59) := (g_r (h.n (by decide)) (h.o (by decide) rfl)).trans (congrArg some (h.r 60 rfl))
theorem cr55_8 {M : vm_M} (h : Sh M) : sg_r M 55 11 8 = some (some 60) := (g_r (h.n (by decide)) (h.o (by decide) rfl)).trans (congrArg some (h.r 61 rfl))
theorem cr55_9 {M : vm_M} (h : Sh M) : sg_r M 55 11 9 = some (some 61) := (g_r (h.n (by decide)) (h.o (by decide) rfl)).trans (congrArg some (h.r 62 rfl))
theorem cr55_10 {M : vm_M} (h : Sh M) : sg_r M 55 11 10 = some (some 62) := (g_r (h.n (by decide)) (h.o (by decide) rfl)).trans (congrArg some (h.r 63 rfl))
theorem cr55_11 {M : vm_M} (h : Sh M) : sg_r M 55 11 11 = some (some 63) := (g_r (h.n (by decide)) (h.o (by decide) rfl)).trans (congrArg some (h.r 64 rfl))
theorem cr55_12 {M : vm_M} (h : Sh M) : sg_r M 55 11 12 = some (some 64) := (g_r (h.n (by decide)) (h.o (by decide) rfl)).trans (congrArg some (h.r 65 rfl))
theorem cr55_13 {M : vm_M} (h : Sh M) : sg_r M 55 11 13 = some (some 65) := (g_r (h.n (by decide)) (h.o (by decide) rfl)).trans (congrArg some (h.r 66 rfl))
theorem cr55_14 {M : vm_M} (h : Sh M) : sg_r M 55 11 14 = some (some 66) := (g_r (h.n (by decide)) (h.o (by decide) rfl)).trans (congrArg some (h.r 67 rfl))
theorem cr55_15 {M : vm_M} (h : Sh M) : sg_r M 55 11 15 = some (some 67) := (g_r (h.n (by decide)) (h.o (by decide) rfl)).trans (congrArg some (h.r 68 rfl))
theorem cr55_16 {M : vm_M} (h : Sh M) : sg_r M 55 11 16 = some (some 68) := (g_r (h.n (by decide)) (h.o (by decide) rfl)).trans (congrArg some (h.r 69 rfl))
theorem cr55_17 {M : vm_M} (h : Sh M) : sg_r M 55 11 17 = some (some 69) := (g_r (h.n (by decide)) (h.o (by decide) rfl)).trans (congrArg some (h.r 70 rfl))
theorem cr55_27 {M : vm_M} (h : Sh M) : sg_r M 55 11 27 = some (some 70) := (g_r (h.n (by decide)) (h.o (by decide) rfl)).trans (congrArg some (h.r 71 rfl))
theorem cr55_28 {M : vm_M} (h : Sh M) : sg_r M 55 11 28 = some (some 71) := (g_r (h.n (by decide)) (h.o (by decide) rfl)).trans (congrArg some (h.r 72 rfl))
theorem cr55_29 {M : vm_M} (h : Sh M) : sg_r M 55 11 29 = some (some 72) := (g_r (h.n (by decide)) (h.o (by decide) rfl)).trans (congrArg some (h.r 73 rfl))
theorem cr55_30 {M : vm_M} (h : Sh M) : sg_r M 55 11 30 = some (some 73) := (g_r (h.n (by decide)) (h.o (by decide) rfl)).trans (congrArg some (h.r 74 rfl))
theorem cr55_31 {M : vm_M} (h : Sh M) : sg_r M 55 11 31 = some (some 74) := (g_r (h.n (by decide)) (h.o (by decide) rfl)).trans (congrArg some (h.r 75 rfl))
theorem cr55_32 {M : vm_M} (h : Sh M) : sg_r M 55 11 32 = some (some 75) := (g_r (h.n (by decide)) (h.o (by decide) rfl)).trans (congrArg some (h.r 76 rfl))
theorem cr55_33 {M : vm_M} (h : Sh M) : sg_r M 55 11 33 = some (some 76) := (g_r (h.n (by decide)) (h.o (by decide) rfl)).trans (congrArg some (h.r 77 rfl))
theorem cr55_34 {M : vm_M} (h : Sh M) : sg_r M 55 11 34 = some (some 77) := (g_r (h.n (by decide)) (h.o (by decide) rfl)).trans (congrArg some (h.r 78 rfl))
theorem cr55_35 {M : vm_M} (h : Sh M) : sg_r M 55 11 35 = some (some 78) := (g_r (h.n (by decide)) (h.o (by decide) rfl)).trans (congrArg some (h.r 79 rfl))
theorem cr55_36 {M : vm_M} (h : Sh M) : sg_r M 55 11 36 = some (some 79) := (g_r (h.n (by decide)) (h.o (by decide) rfl)).trans (congrArg some (h.r 80 rfl))
theorem cr55_37 {M : vm_M} (h : Sh M) : sg_r M 55 11 37 = some (some 80) := (g_r (h.n (by decide)) (h.o (by decide) rfl)).trans (congrArg some (h.r 81 rfl))
theorem cr55_38 {M : vm_M} (h : Sh M) : sg_r M 55 11 38 = some (some 81) := (g_r (h.n (by decide)) (h.o (by decide) rfl)).trans (congrArg some (h.r 82 rfl))
theorem cr55_39 {M : vm_M} (h : Sh M) : sg_r M 55 11 39 = some (some 82) := (g_r (h.n (by decide)) (h.o (by decide) rfl)).trans (congrArg some (h.r 83 rfl))
theorem cr55_40 {M : vm_M} (h : Sh M) : sg_r M 55 11 40 = some (some 83) := (g_r (h.n (by decide)) (h.o (by decide) rfl)).trans (congrArg some (h.r 84 rfl))
theorem cr55_41 {M : vm_M} (h : Sh M) : sg_r M 55 11 41 = some (some 84) := (g_r (h.n (by decide)) (h.o (by decide) rfl)).trans (congrArg some (h.r 85 rfl))
theorem cr55_44 {M : vm_M} (h : Sh M) : sg_r M 55 11 44 = some (some 85) := (g_r (h.n (by decide)) (h.o (by decide) rfl)).trans (congrArg some (h.r 86 rfl))
theorem cr55_45 {M : vm_M} (h : Sh M) : sg_r M 55 11 45 = some (some 86) := (g_r (h.n (by decide)) (h.o (by decide) rfl)).trans (congrArg some (h.r 87 rfl))
theorem cr55_46 {M : vm_M} (h : Sh M) : sg_r M 55 11 46 = some (some 87) := (g_r (h.n (by decide)) (h.o (by decide) rfl)).trans (congrArg some (h.r 88 rfl))
theorem cr55_47 {M : vm_M} (h : Sh M) : sg_r M 55 11 47 = some (some 88) := (g_r (h.n (by decide)) (h.o (by decide) rfl)).trans (congrArg some (h.r 89 rfl))
theorem cr55_48 {M : vm_M} (h : Sh M) : sg_r M 55 11 48 = some (some 89) := (g_r (h.n (by decide)) (h.o (by decide) rfl)).trans (congrArg some (h.r 90 rfl))
theorem cr55_49 {M : vm_M} (h : Sh M) : sg_r M 55 11 49 = some (some 90) := (g_r (h.n (by decide)) (h.o (by decide) rfl)).trans (congrArg some (h.r 91 rfl))
theorem cr55_50 {M : vm_M} (h : Sh M) : sg_r M 55 11 50 = some (some 91) := (g_r (h.n (by decide)) (h.o (by decide) rfl)).trans (congrArg some (h.r 92 rfl))
theorem cr55_51 {M : vm_M} (h : Sh M) : sg_r M 55 11 51 = some (some 92) := (g_r (h.n (by decide)) (h.o (by decide) rfl)).trans (congrArg some (h.r 93 rfl))
theorem cr55_52 {M : vm_M} (h : Sh M) : sg_r M 55 11 52 = some (some 93) := (g_r (h.n (by decide)) (h.o (by decide) rfl)).trans (congrArg some (h.r 94 rfl))
theorem cr55_54 {M : vm_M} (h : Sh M) : sg_r M 55 11 54 = some (some 94) := (g_r (h.n (by decide)) (h.o (by decide) rfl)).trans (congrArg some (h.r 95 rfl))
theorem cr55_55 {M : vm_M} (h : Sh M) : sg_r M 55 11 55 = some (some 95) := (g_r (h.n (by decide)) (h.o (by decide) rfl)).trans (congrArg some (h.r 96 rfl))
theorem cr55_56 {M : vm_M} (h : Sh M) : sg_r M 55 11 56 = some (some 96) := (g_r (h.n (by decide)) (h.o (by decide) rfl)).trans (congrArg some (h.r 97 rfl))
theorem cr55_57 {M : vm_M} (h : Sh M) : sg_r M 55 11 57 = some (some 97) := (g_r (h.n (by decide)) (h.o (by decide) rfl)).trans (congrArg some (h.r 98 rfl))
theorem cr55_58 {M : vm_M} (h : Sh M) : sg_r M 55 11 58 = some (some 98) := (g_r (h.n (by decide)) (h.o (by decide) rfl)).trans (congrArg some (h.r 99 rfl))
theorem cr55_59 {M : vm_M} (h : Sh M) : sg_r M 55 11 59 = some (some 99) := (g_r (h.n (by decide)) (h.o (by decide) rfl)).trans (congrArg some (h.r 100 rfl))
theorem cr55_60 {M : vm_M} (h : Sh M) : sg_r M 55 11 60 = some (some 100) := (g_r (h.n (by decide)) (h.o (by decide) rfl)).trans (congrArg some (h.r 101 rfl))
theorem cr55_61 {M : vm_M} (h : Sh M) : sg_r M 55 11 61 = some (some 101) := (g_r (h.n (by decide)) (h.o (by decide) rfl)).trans (congrArg some (h.r 102 rfl))
theorem cr55_62 {M : vm_M} (h : Sh M) : sg_r M 55 11 62 = some (some 102) := (g_r (h.n (by decide)) (h.o (by decide) rfl)).trans (congrArg some (h.r 103 rfl))
