/-! all programs; a run of the small machine with its calls; that it is the machine's run -/
def vp : Nat → List vm_I := fun i => match i with
  | 0 => vp_0
  | 1 => vp_1
  | 2 => vp_2
  | 3 => vp_3
  | 4 => vp_4
  | 5 => vp_5
  | 6 => vp_6
  | 7 => vp_7
  | 8 => vp_8
  | 9 => vp_9
  | 10 => vp_10
  | 11 => vp_11
  | 12 => vp_12
  | 13 => vp_13
  | 14 => vp_14
  | 15 => vp_15
  | 16 => vp_16
  | 17 => vp_17
  | 18 => vp_18
  | 19 => vp_19
  | 20 => vp_20
  | 21 => vp_21
  | 22 => vp_22
  | 23 => vp_23
  | 24 => vp_24
  | 25 => vp_25
  | 26 => vp_26
  | 27 => vp_27
  | 28 => vp_28
  | 29 => vp_29
  | 30 => vp_30
  | 31 => vp_31
  | 32 => vp_32
  | 33 => vp_33
  | 34 => vp_34
  | 35 => vp_35
  | 36 => vp_36
  | 37 => vp_37
  | 38 => vp_38
  | 39 => vp_39
  | 40 => vp_40
  | 41 => vp_41
  | 42 => vp_42
  | 43 => vp_43
  | 44 => vp_44
  | 45 => vp_45
  | 46 => vp_46
  | 47 => vp_47
  | 48 => vp_48
  | 49 => vp_49
  | 50 => vp_50
  | 51 => vp_51
  | 52 => vp_52
  | 53 => vp_53
  | 54 => vp_54
  | 55 => vp_55
  | 56 => vp_56
  | 57 => vp_57
  | 58 => vp_58
  | 59 => vp_59
  | 60 => vp_60
  | 61 => vp_61
  | 62 => vp_62
  | 63 => vp_63
  | 64 => vp_64
  | 65 => vp_65
  | 66 => vp_66
  | 67 => vp_67
  | 68 => vp_68
  | 69 => vp_69
  | 70 => vp_70
  | 71 => vp_71
  | 72 => vp_72
  | 73 => vp_73
  | 74 => vp_74
  | 75 => vp_75
  | 76 => vp_76
  | 77 => vp_77
  | 78 => vp_78
  | 79 => vp_79
  | 80 => vp_80
  | 81 => vp_81
  | 82 => vp_82
  | 83 => vp_83
  | 84 => vp_84
  | 85 => vp_85
  | 86 => vp_86
  | 87 => vp_87
  | 88 => vp_88
  | 89 => vp_89
  | 90 => vp_90
  | 91 => vp_91
  | 92 => vp_92
  | 93 => vp_93
  | 94 => vp_94
  | 95 => vp_95
  | 96 => vp_96
  | 97 => vp_97
  | 98 => vp_98
  | 99 => vp_99
  | 100 => vp_100
  | 101 => vp_101
  | 102 => vp_102
  | 103 => vp_103
  | 104 => vp_104
  | 105 => vp_105
  | 106 => vp_106
  | 107 => vp_107
  | 108 => vp_108
  | 109 => vp_109
  | 110 => vp_110
  | 111 => vp_111
  | 112 => vp_112
  | 113 => vp_113
  | 114 => vp_114
  | 115 => vp_115
  | 116 => vp_116
  | 117 => vp_117
  | 118 => vp_118
  | 119 => vp_119
  | 120 => vp_120
  | 121 => vp_121
  | 122 => vp_122
  | 123 => vp_123
  | 124 => vp_124
  | 125 => vp_125
  | 126 => vp_126
  | 127 => vp_127
  | 128 => vp_128
  | 129 => vp_129
  | 130 => vp_130
  | 131 => vp_131
  | 132 => vp_132
  | 133 => vp_133
  | 134 => vp_134
  | 135 => vp_135
  | 136 => vp_136
  | 137 => vp_137
  | 138 => vp_138
  | 139 => vp_139
  | 140 => vp_140
  | 141 => vp_141
  | 142 => vp_142
  | 143 => vp_143
  | 144 => vp_144
  | 145 => vp_145
  | 146 => vp_146
  | 147 => vp_147
  | 148 => vp_148
  | 149 => vp_149
  | 150 => vp_150
  | 151 => vp_151
  | 152 => vp_152
  | 153 => vp_153
  | 154 => vp_154
  | 155 => vp_155
  | 156 => vp_156
  | 157 => vp_157
  | 158 => vp_158
  | 159 => vp_159
  | 160 => vp_160
  | 161 => vp_161
  | 162 => vp_162
  | 163 => vp_163
  | 164 => vp_164
  | 165 => vp_165
  | 166 => vp_166
  | 167 => vp_167
  | 168 => vp_168
  | 169 => vp_169
  | 170 => vp_170
  | 171 => vp_171
  | 172 => vp_172
  | 173 => vp_173
  | 174 => vp_174
  | 175 => vp_175
  | 176 => vp_176
  | 177 => vp_177
  | 178 => vp_178
  | 179 => vp_179
  | 180 => vp_180
  | 181 => vp_181
  | 182 => vp_182
  | 183 => vp_183
  | 184 => vp_184
  | 185 => vp_185
  | 186 => vp_186
  | 187 => vp_187
  | 188 => vp_188
  | 189 => vp_189
  | 190 => vp_190
  | 191 => vp_191
  | 192 => vp_192
  | 193 => vp_193
  | 194 => vp_194
  | 195 => vp_195
  | 196 => vp_196
  | 197 => vp_197
  | 198 => vp_198
  | 199 => vp_199
  | 200 => vp_200
  | 201 => vp_201
  | 202 => vp_202
  | _ => vp_203
def vp_good (own : Nat) (cc : ByteArray) (P : List vm_I) : Prop := ∀ e ∈ P, decode cc e.1 = .ok (e.2.1, vm_len e.2.1 e.2.2.2.1) ∧ vm_lk own e.2.1 e.2.2.1 e.2.2.2.1 e.2.2.2.2
theorem vp_good_of {own : Nat} {cc : ByteArray} {P : List vm_I} (h : P.all (fun e => decide (decode cc e.1 = .ok (e.2.1, vm_len e.2.1 e.2.2.2.1)) && vm_lkB own e.2.1 e.2.2.1 e.2.2.2.1 e.2.2.2.2) = true) : vp_good own cc P := fun e he => by
  have h1 := List.all_eq_true.mp h e he
  simp only [Bool.and_eq_true, decide_eq_true_eq] at h1
  exact ⟨h1.1, vm_lk_of h1.2⟩
theorem vp_ok : ∀ i, i < 204 → vp_good (vm_o i) (vm_b i) (vp i) := fun i hi => match i with
  | 0 => vp_good_of vp_ok0
  | 1 => vp_good_of vp_ok1
  | 2 => vp_good_of vp_ok2
  | 3 => vp_good_of vp_ok3
  | 4 => vp_good_of vp_ok4
  | 5 => vp_good_of vp_ok5
  | 6 => vp_good_of vp_ok6
  | 7 => vp_good_of vp_ok7
  | 8 => vp_good_of vp_ok8
  | 9 => vp_good_of vp_ok9
  | 10 => vp_good_of vp_ok10
  | 11 => vp_good_of vp_ok11
  | 12 => vp_good_of vp_ok12
  | 13 => vp_good_of vp_ok13
  | 14 => vp_good_of vp_ok14
  | 15 => vp_good_of vp_ok15
  | 16 => vp_good_of vp_ok16
  | 17 => vp_good_of vp_ok17
  | 18 => vp_good_of vp_ok18
  | 19 => vp_good_of vp_ok19
  | 20 => vp_good_of vp_ok20
  | 21 => vp_good_of vp_ok21
  | 22 => vp_good_of vp_ok22
  | 23 => vp_good_of vp_ok23
  | 24 => vp_good_of vp_ok24
  | 25 => vp_good_of vp_ok25
  | 26 => vp_good_of vp_ok26
  | 27 => vp_good_of vp_ok27
  | 28 => vp_good_of vp_ok28
  | 29 => vp_good_of vp_ok29
  | 30 => vp_good_of vp_ok30
  | 31 => vp_good_of vp_ok31
  | 32 => vp_good_of vp_ok32
  | 33 => vp_good_of vp_ok33
  | 34 => vp_good_of vp_ok34
  | 35 => vp_good_of vp_ok35
  | 36 => vp_good_of vp_ok36
  | 37 => vp_good_of vp_ok37
  | 38 => vp_good_of vp_ok38
  | 39 => vp_good_of vp_ok39
  | 40 => vp_good_of vp_ok40
  | 41 => vp_good_of vp_ok41
  | 42 => vp_good_of vp_ok42
  | 43 => vp_good_of vp_ok43
  | 44 => vp_good_of vp_ok44
  | 45 => vp_good_of vp_ok45
  | 46 => vp_good_of vp_ok46
  | 47 => vp_good_of vp_ok47
  | 48 => vp_good_of vp_ok48
  | 49 => vp_good_of vp_ok49
  | 50 => vp_good_of vp_ok50
  | 51 => vp_good_of vp_ok51
  | 52 => vp_good_of vp_ok52
  | 53 => vp_good_of vp_ok53
  | 54 => vp_good_of vp_ok54
  | 55 => vp_good_of vp_ok55
  | 56 => vp_good_of vp_ok56
  | 57 => vp_good_of vp_ok57
  | 58 => vp_good_of vp_ok58
  | 59 => vp_good_of vp_ok59
  | 60 => vp_good_of vp_ok60
  | 61 => vp_good_of vp_ok61
  | 62 => vp_good_of vp_ok62
  | 63 => vp_good_of vp_ok63
  | 64 => vp_good_of vp_ok64
  | 65 => vp_good_of vp_ok65
  | 66 => vp_good_of vp_ok66
  | 67 => vp_good_of vp_ok67
  | 68 => vp_good_of vp_ok68
  | 69 => vp_good_of vp_ok69
  | 70 => vp_good_of vp_ok70
  | 71 => vp_good_of vp_ok71
  | 72 => vp_good_of vp_ok72
  | 73 => vp_good_of vp_ok73
  | 74 => vp_good_of vp_ok74
  | 75 => vp_good_of vp_ok75
  | 76 => vp_good_of vp_ok76
  | 77 => vp_good_of vp_ok77
  | 78 => vp_good_of vp_ok78
  | 79 => vp_good_of vp_ok79
  | 80 => vp_good_of vp_ok80
  | 81 => vp_good_of vp_ok81
  | 82 => vp_good_of vp_ok82
  | 83 => vp_good_of vp_ok83
  | 84 => vp_good_of vp_ok84
  | 85 => vp_good_of vp_ok85
  | 86 => vp_good_of vp_ok86
  | 87 => vp_good_of vp_ok87
  | 88 => vp_good_of vp_ok88
  | 89 => vp_good_of vp_ok89
  | 90 => vp_good_of vp_ok90
  | 91 => vp_good_of vp_ok91
  | 92 => vp_good_of vp_ok92
  | 93 => vp_good_of vp_ok93
  | 94 => vp_good_of vp_ok94
  | 95 => vp_good_of vp_ok95
  | 96 => vp_good_of vp_ok96
  | 97 => vp_good_of vp_ok97
  | 98 => vp_good_of vp_ok98
  | 99 => vp_good_of vp_ok99
  | 100 => vp_good_of vp_ok100
  | 101 => vp_good_of vp_ok101
  | 102 => vp_good_of vp_ok102
  | 103 => vp_good_of vp_ok103
  | 104 => vp_good_of vp_ok104
  | 105 => vp_good_of vp_ok105
  | 106 => vp_good_of vp_ok106
  | 107 => vp_good_of vp_ok107
  | 108 => vp_good_of vp_ok108
  | 109 => vp_good_of vp_ok109
  | 110 => vp_good_of vp_ok110
  | 111 => vp_good_of vp_ok111
  | 112 => vp_good_of vp_ok112
  | 113 => vp_good_of vp_ok113
  | 114 => vp_good_of vp_ok114
  | 115 => vp_good_of vp_ok115
  | 116 => vp_good_of vp_ok116
  | 117 => vp_good_of vp_ok117
  | 118 => vp_good_of vp_ok118
  | 119 => vp_good_of vp_ok119
  | 120 => vp_good_of vp_ok120
  | 121 => vp_good_of vp_ok121
  | 122 => vp_good_of vp_ok122
  | 123 => vp_good_of vp_ok123
  | 124 => vp_good_of vp_ok124
  | 125 => vp_good_of vp_ok125
  | 126 => vp_good_of vp_ok126
  | 127 => vp_good_of vp_ok127
  | 128 => vp_good_of vp_ok128
  | 129 => vp_good_of vp_ok129
  | 130 => vp_good_of vp_ok130
  | 131 => vp_good_of vp_ok131
  | 132 => vp_good_of vp_ok132
  | 133 => vp_good_of vp_ok133
  | 134 => vp_good_of vp_ok134
  | 135 => vp_good_of vp_ok135
  | 136 => vp_good_of vp_ok136
  | 137 => vp_good_of vp_ok137
  | 138 => vp_good_of vp_ok138
  | 139 => vp_good_of vp_ok139
  | 140 => vp_good_of vp_ok140
  | 141 => vp_good_of vp_ok141
  | 142 => vp_good_of vp_ok142
  | 143 => vp_good_of vp_ok143
  | 144 => vp_good_of vp_ok144
  | 145 => vp_good_of vp_ok145
  | 146 => vp_good_of vp_ok146
  | 147 => vp_good_of vp_ok147
  | 148 => vp_good_of vp_ok148
  | 149 => vp_good_of vp_ok149
  | 150 => vp_good_of vp_ok150
  | 151 => vp_good_of vp_ok151
  | 152 => vp_good_of vp_ok152
  | 153 => vp_good_of vp_ok153
  | 154 => vp_good_of vp_ok154
  | 155 => vp_good_of vp_ok155
  | 156 => vp_good_of vp_ok156
  | 157 => vp_good_of vp_ok157
  | 158 => vp_good_of vp_ok158
  | 159 => vp_good_of vp_ok159
  | 160 => vp_good_of vp_ok160
  | 161 => vp_good_of vp_ok161
  | 162 => vp_good_of vp_ok162
  | 163 => vp_good_of vp_ok163
  | 164 => vp_good_of vp_ok164
  | 165 => vp_good_of vp_ok165
  | 166 => vp_good_of vp_ok166
  | 167 => vp_good_of vp_ok167
  | 168 => vp_good_of vp_ok168
  | 169 => vp_good_of vp_ok169
  | 170 => vp_good_of vp_ok170
  | 171 => vp_good_of vp_ok171
  | 172 => vp_good_of vp_ok172
  | 173 => vp_good_of vp_ok173
  | 174 => vp_good_of vp_ok174
  | 175 => vp_good_of vp_ok175
  | 176 => vp_good_of vp_ok176
  | 177 => vp_good_of vp_ok177
  | 178 => vp_good_of vp_ok178
  | 179 => vp_good_of vp_ok179
  | 180 => vp_good_of vp_ok180
  | 181 => vp_good_of vp_ok181
  | 182 => vp_good_of vp_ok182
  | 183 => vp_good_of vp_ok183
  | 184 => vp_good_of vp_ok184
  | 185 => vp_good_of vp_ok185
  | 186 => vp_good_of vp_ok186
  | 187 => vp_good_of vp_ok187
  | 188 => vp_good_of vp_ok188
  | 189 => vp_good_of vp_ok189
  | 190 => vp_good_of vp_ok190
  | 191 => vp_good_of vp_ok191
  | 192 => vp_good_of vp_ok192
  | 193 => vp_good_of vp_ok193
  | 194 => vp_good_of vp_ok194
  | 195 => vp_good_of vp_ok195
  | 196 => vp_good_of vp_ok196
  | 197 => vp_good_of vp_ok197
  | 198 => vp_good_of vp_ok198
  | 199 => vp_good_of vp_ok199
  | 200 => vp_good_of vp_ok200
  | 201 => vp_good_of vp_ok201
  | 202 => vp_good_of vp_ok202
  | 203 => vp_good_of vp_ok203
  | n + 204 => absurd hi (by omega)
theorem vm_sound {p : Program} {l : Launch} {e : Env} {R : Room} {s : State} {m : MethodId} {args : Array Value} {below : List Frame} {meth : Method} {c : Code} {Q : State → Prop} {cc : ByteArray} {O : Nat → List Value → vm_M → vm_R → Prop} {L : Nat} {xs : Nat → Int32} {own : Nat} {ini : Bool} {nL n0 s0 b0 d : Nat} {g : Nat → Nat} {cA : Nat → ClassId} {D : va_G} {X : State → Prop} {r : vm_R}
    (hx : p.tables.exec = Jvm.exec) (hb : c.code = cc) (hml : c.maxLocals = nL) (hown : s.vm.findClass (vg_O own) = some m.cls) (hts : ∀ w ∈ vt, w.before args s = true) (hK : va_K D vg_cl (vm_tys cA) s) (hN : vm_Nx s) (hX : X s) (hXs : vm_Str b0 g X)
    (hin : ini = true → meth.name = "<init>") (hscr : own = 12 → va_X (g vm_scr) L xs s s.heap ∧ g vm_scr < s.heap.size ∧ ¬ b0 ≤ g vm_scr) (hg : ∀ q, q < 1099511627776 → g q = b0 + q) (hh0 : s.heap.size = b0 + n0) (hnr : vm_n r.2 ≤ 1099511627776)
    (hRc : vm_n r.2 - n0 ≤ R.cells) (hRs : vm_s r.2 - s0 ≤ R.slots) (hRf : d + 9 ≤ R.frames) (hRl : 100 * (d + 9) ≤ R.locals)
    (hO : ∀ i as M r', O i as M r' → vm_n M ≤ vm_n r'.2 ∧ vm_s M ≤ vm_s r'.2 ∧ (i < 203 → vm_n r'.2 ≤ 1099511627776 → vm_Ok l g cA D b0 X d i as M r')) {P : List vm_I} (hPg : vp_good own cc P)
    (hret : ∀ pc ins (H : Heap) (locs : List Loc) (ls : Array Slot), decode cc pc = .ok (ins, 1) → vm_isr ins r.1 → vm_In g cA D r.2 H → va_S (fun q => b0 ≤ q) s.heap H locs → W p l e R s m args below meth c H locs (vm_n r.2 - n0) (vm_s r.2 - s0) Q (F0 m pc ls (r.1.toList.map (vm_tr g)))) :
    ∀ n pc lv st M, vm_ex O L xs own ini nL P r n pc lv st M → n0 ≤ vm_n M → s0 ≤ vm_s M → ∀ (H : Heap) (locs : List Loc) (ls : Array Slot), lv_has ls nL (vm_trl g lv) → vm_In g cA D M H → va_S (fun q => b0 ≤ q) s.heap H locs → W p l e R s m args below meth c H locs (vm_n M - n0) (vm_s M - s0) Q (F0 m pc ls (st.map (vm_tr g))) := by
  intro n
  induction n with
  | zero => exact fun _ _ _ _ h => h.elim
  | succ n ih =>
    intro pc lv st M h hn hsl H locs ls hl hI hS
    obtain ⟨ins, a, b, v, hm, h⟩ := h
    obtain ⟨hd, hk⟩ := hPg _ hm
    exact vm_step hx hb hml hown hts hK hN hX hXs hin hscr hg hh0 hnr hRc hRs hRf hRl hO ih (fun pc lv st M h => vm_ex_up (fun i as M r' ho => ⟨(hO i as M r' ho).1, (hO i as M r' ho).2.1⟩) n pc lv st M h) hret hd hk h hn hsl hl hI hS
def vm_rt (t : Option FieldType) (v : Option Value) : Prop := match v with
  | none => t = none
  | some (.int x) => ∃ ty, t = some ty ∧ narrow ty (.int x) = .int x
  | some (.long _) => t = some .long
  | some (.ref _) => ∃ ty, t = some ty ∧ ((∃ n, ty = .object n) ∨ ∃ u, ty = .array u)
  | some .null => ∃ ty, t = some ty ∧ ((∃ n, ty = .object n) ∨ ∃ u, ty = .array u)
  | _ => False
/-- a call of a method, its own calls d deep -/
def vm_Cl : Nat → Nat → List Value → vm_M → vm_R → Prop
  | 0 => fun _ _ _ _ => False
  | d + 1 => fun i as M r => i < 203 ∧ (lg_sl as).length ≤ vm_x i ∧ vm_rt (vm_r i) r.1 ∧ ∃ n, vm_ex (vm_Cl d) 0 (fun _ => 0) (vm_o i) (vm_k i == 2) (vm_x i) (vp i) r n 0 (lv_args 0 as) [] M
theorem lv_args_tr (g : Nat → Nat) : ∀ (as : List Value) (i : Nat), lv_args i (as.map (vm_tr g)) = vm_trl g (lv_args i as)
  | [], _ => rfl
  | v :: vs, i => by
    show (i, vm_tr g v) :: lv_args (if (vm_tr g v).category = 2 then i + 2 else i + 1) (vs.map (vm_tr g)) = (i, vm_tr g v) :: vm_trl g (lv_args (if v.category = 2 then i + 2 else i + 1) vs)
    rw [vm_tr_cat, lv_args_tr g vs]
theorem lg_sl_tr (g : Nat → Nat) : ∀ (as : List Value), (lg_sl (as.map (vm_tr g))).length = (lg_sl as).length
  | [] => rfl
  | v :: vs => by
    show ((if (vm_tr g v).category = 2 then [Slot.val (vm_tr g v), .second] else [.val (vm_tr g v)]) ++ lg_sl (vs.map (vm_tr g))).length = ((if v.category = 2 then [Slot.val v, .second] else [.val v]) ++ lg_sl vs).length
    rw [vm_tr_cat, List.length_append, List.length_append, lg_sl_tr g vs]
    split <;> rfl
theorem vm_o_ne : ∀ i, i < 203 → vm_o i ≠ 12 := by decide +kernel
set_option maxHeartbeats 2000000 in
theorem vm_met {l : Launch} {g : Nat → Nat} {cA : Nat → ClassId} {D : va_G} {b0 : Nat} {X : State → Prop} (hXs : vm_Str b0 g X) (hg : ∀ q, q < 1099511627776 → g q = b0 + q) :
    ∀ d i as M r, vm_Cl d i as M r → vm_n M ≤ vm_n r.2 ∧ vm_s M ≤ vm_s r.2 ∧ (i < 203 → vm_n r.2 ≤ 1099511627776 → vm_Ok l g cA D b0 X d i as M r) := by
  intro d
  induction d with
  | zero => exact fun _ _ _ _ h => h.elim
  | succ d ih =>
    intro i as M r h
    obtain ⟨hi, hal, hrt, n, h⟩ := h
    have hup : vm_up M r := vm_ex_up (fun i as M r' ho => ⟨(ih i as M r' ho).1, (ih i as M r' ho).2.1⟩) n _ _ _ _ h
    refine ⟨hup.1, hup.2, fun _ hnr => ?_⟩
    obtain ⟨s1, s2, s3, s4, s5, s6, s7⟩ := vm_sm_ok i hi
    refine Met.ofW (cc := vm_b i) (maxL := vm_x i) (ret := vm_r i) s1 rfl ?_
    intro p e s m args below meth c s₁ B hml hv
    obtain ⟨rfl, hsz, hIn, hK, hN, hX⟩ := hv
    have hr := B.returns
    have hlocks := B.notSynchronized
    have hts0 : ∀ w ∈ Cond.code (vm_y i) (vm_b i) (vm_x i) (vm_r i) :: vt, w.before (as.map (vm_tr g)).toArray s = true := atoms_spec (ws := Cond.code (vm_y i) (vm_b i) (vm_x i) (vm_r i) :: vt) B.pre
    have hts : ∀ w ∈ vt, w.before (as.map (vm_tr g)).toArray s = true := fun w hw => hts0 w (List.mem_cons_of_mem _ hw)
    have hown : s.vm.findClass (vg_O (vm_o i)) = some m.cls := by rw [← s4]; exact findClass_of_methodNamed B.named
    have hnm : meth.name = (vm_y i).name := (name_of_methodNamed B.named B.method).1
    have hl := lv_entry (as.map (vm_tr g)) (n := vm_x i) (by rw [lg_sl_tr]; exact hal)
    rw [lg_entry_eq]
    rw [lv_args_tr] at hl
    have key := vm_sound (R := (headSpec (Cond.code (vm_y i) (vm_b i) (vm_x i) (vm_r i) :: vt) (vm_room (d + 1) (vm_n r.2 - vm_n M) (vm_s r.2 - vm_s M))).room) (l := l) (e := e) (below := below) (meth := meth) (Q := MQ below (vm_Qc g cA D b0 r) (as.map (vm_tr g)).toArray s (vm_n r.2 - vm_n M) (vm_s r.2 - vm_s M) (fun q => b0 ≤ q)) (O := vm_Cl d) (L := 0) (xs := fun _ => 0) (own := vm_o i) (ini := vm_k i == 2) (nL := vm_x i) (n0 := vm_n M) (s0 := vm_s M) (b0 := b0) (d := d) (g := g) (cA := cA) (D := D) (X := X) (r := r) B.exec B.bytes hml hown hts hK hN hX hXs (fun hk => hnm.trans (s6 (by simpa using hk))) (fun ho => absurd ho (vm_o_ne i hi)) hg hsz hnr (Nat.le_refl _) (Nat.le_refl _) (by show d + 9 ≤ d + 1 + 8; omega) (by show 100 * (d + 9) ≤ 100 * (d + 1 + 8); exact Nat.mul_le_mul_left 100 (by omega)) ih (vp_ok i (by omega)) ?_ n 0 (lv_args 0 as) [] M h (Nat.le_refl _) (Nat.le_refl _) s.heap [] _ hl hIn va_S.rf
    · rw [Nat.sub_self, Nat.sub_self] at key
      exact key
    · intro pc ins H locs ls hdg hir hI hS
      have hq : ∀ t : State, t.heap = H → s.WarmedH t.vm → vm_Qc g cA D b0 r (as.map (vm_tr g)).toArray s (.returned (r.1.map (vm_tr g))) t := fun t ht _ => ⟨rfl, by rw [ht]; exact hI, hS.F ht⟩
      have hf : ∀ q ∈ locs, b0 ≤ q.base := hS.2.2
      obtain ⟨rv, M'⟩ := r
      dsimp only at hir hrt hq ⊢
      cases ins <;> simp only [vm_isr] at hir
      case ireturn =>
        cases rv with
        | none => exact hir.elim
        | some v =>
          cases v <;> simp only at hir
          obtain ⟨ty, h1, h2⟩ := hrt
          exact W.zret B.exec B.bytes (hr.trans h1) h2 hq hf hdg
      case lreturn =>
        cases rv with
        | none => exact hir.elim
        | some v =>
          cases v <;> simp only at hir
          exact W.lret B.exec B.bytes (hr.trans hrt) hq hf hdg
      case areturn =>
        cases rv with
        | none => exact hir.elim
        | some v =>
          cases v <;> simp only at hir
          · obtain ⟨ty, h1, h2⟩ := hrt
            exact W.aret B.exec B.bytes (hr.trans h1) h2 (Or.inl rfl) hq hf hdg
          · obtain ⟨ty, h1, h2⟩ := hrt
            exact W.aret B.exec B.bytes (hr.trans h1) h2 (Or.inr ⟨_, rfl⟩) hq hf hdg
      case return_ =>
        cases rv with
        | none => exact W.vret B.exec B.bytes (hr.trans hrt) hq hf hdg
        | some v => exact hir.elim
