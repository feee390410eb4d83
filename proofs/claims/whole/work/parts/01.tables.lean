/-! tables by program: the classes whose objects the memory holds, their fields; the methods that are walked; the links (wip/gen1.py) -/
def vt : List Cond := lw_tbl.filter goodWord
theorem vt_of {i : Nat} {w : Cond} (h : lw_tbl[i]? = some w) (g : goodWord w = true) : w ∈ vt := List.mem_filter.mpr ⟨List.mem_of_getElem? h, g⟩
theorem vt_in : ∀ w ∈ vt, w ∈ lw_tbl := fun _ h => (List.mem_filter.mp h).1
def vg_C : Nat → String := fun i => match i with
  | 0 => "PupilCoin$Land"
  | 1 => "PupilCoin$Law"
  | 2 => "PupilCoin$Marks"
  | 3 => "PupilCoin$Mill"
  | 4 => "PupilCoin$Moves"
  | 5 => "PupilCoin$Rates"
  | 6 => "PupilCoin$Reader"
  | 7 => "PupilCoin$Roads"
  | 8 => "PupilCoin$Rules"
  | 9 => "PupilCoin$Sums"
  | 10 => "PupilCoin"
  | _ => "PupilCoinModel"
def vg_O : Nat → String := fun i => match i with
  | 0 => "PupilCoin$Land"
  | 1 => "PupilCoin$Law"
  | 2 => "PupilCoin$Marks"
  | 3 => "PupilCoin$Mill"
  | 4 => "PupilCoin$Moves"
  | 5 => "PupilCoin$Rates"
  | 6 => "PupilCoin$Reader"
  | 7 => "PupilCoin$Roads"
  | 8 => "PupilCoin$Rules"
  | 9 => "PupilCoin$Sums"
  | 10 => "PupilCoin"
  | 11 => "PupilCoinModel"
  | 12 => "PupilCoinLaw"
  | 13 => "java/lang/Integer"
  | _ => "java/util/Arrays"
def vg_T0 : u_T := fun k => match k with
  | 0 => ("PupilCoin$Land", "ward", "[I", true)
  | 1 => ("PupilCoin$Land", "council", "[I", true)
  | 2 => ("PupilCoin$Land", "node", "[I", true)
  | 3 => ("PupilCoin$Land", "taker", "[I", true)
  | 4 => ("PupilCoin$Land", "closes", "[I", true)
  | 5 => ("PupilCoin$Land", "need", "[I", true)
  | 6 => ("PupilCoin$Land", "roads", "LPupilCoin$Roads;", true)
  | 7 => ("PupilCoin$Land", "schools", "I", false)
  | _ => ("PupilCoin$Land", "joins", "I", false)
def vg_y0 : Nat → FieldType := fun k => match k with
  | 0 => .array (.int)
  | 1 => .array (.int)
  | 2 => .array (.int)
  | 3 => .array (.int)
  | 4 => .array (.int)
  | 5 => .array (.int)
  | 6 => .object "PupilCoin$Roads"
  | 7 => .int
  | _ => .int
def vg_T1 : u_T := fun k => match k with
  | 0 => ("PupilCoin$Law", "number", "I", true)
  | 1 => ("PupilCoin$Law", "from", "I", true)
  | 2 => ("PupilCoin$Law", "day", "I", true)
  | 3 => ("PupilCoin$Law", "statements", "I", true)
  | 4 => ("PupilCoin$Law", "lines", "I", true)
  | 5 => ("PupilCoin$Law", "told", "[I", true)
  | 6 => ("PupilCoin$Law", "statementOf", "[I", true)
  | 7 => ("PupilCoin$Law", "starts", "[I", true)
  | _ => ("PupilCoin$Law", "code", "[I", true)
def vg_y1 : Nat → FieldType := fun k => match k with
  | 0 => .int
  | 1 => .int
  | 2 => .int
  | 3 => .int
  | 4 => .int
  | 5 => .array (.int)
  | 6 => .array (.int)
  | 7 => .array (.int)
  | _ => .array (.int)
def vg_T2 : u_T := fun k => match k with
  | 0 => ("PupilCoin$Marks", "value", "[I", true)
  | 1 => ("PupilCoin$Marks", "told", "[I", true)
  | 2 => ("PupilCoin$Marks", "before", "[I", true)
  | 3 => ("PupilCoin$Marks", "latest", "[I", true)
  | _ => ("PupilCoin$Marks", "count", "I", false)
def vg_y2 : Nat → FieldType := fun k => match k with
  | 0 => .array (.int)
  | 1 => .array (.int)
  | 2 => .array (.int)
  | 3 => .array (.int)
  | _ => .int
def vg_T3 : u_T := fun k => match k with
  | 0 => ("PupilCoin$Mill", "words", "[J", true)
  | _ => ("PupilCoin$Mill", "stack", "[J", true)
def vg_y3 : Nat → FieldType := fun k => match k with
  | 0 => .array (.long)
  | _ => .array (.long)
def vg_T4 : u_T := fun k => match k with
  | 0 => ("PupilCoin$Moves", "council", "[I", true)
  | 1 => ("PupilCoin$Moves", "from", "[I", true)
  | 2 => ("PupilCoin$Moves", "to", "[I", true)
  | 3 => ("PupilCoin$Moves", "coins", "[I", true)
  | 4 => ("PupilCoin$Moves", "year", "[I", true)
  | 5 => ("PupilCoin$Moves", "told", "[I", true)
  | 6 => ("PupilCoin$Moves", "objected", "[I", true)
  | 7 => ("PupilCoin$Moves", "adopted", "[Z", true)
  | 8 => ("PupilCoin$Moves", "count", "I", false)
  | _ => ("PupilCoin$Moves", "adoptedCount", "I", false)
def vg_y4 : Nat → FieldType := fun k => match k with
  | 0 => .array (.int)
  | 1 => .array (.int)
  | 2 => .array (.int)
  | 3 => .array (.int)
  | 4 => .array (.int)
  | 5 => .array (.int)
  | 6 => .array (.int)
  | 7 => .array (.boolean)
  | 8 => .int
  | _ => .int
def vg_T5 : u_T := fun k => match k with
  | 0 => ("PupilCoin$Rates", "land", "LPupilCoin$Land;", true)
  | 1 => ("PupilCoin$Rates", "sums", "LPupilCoin$Sums;", true)
  | 2 => ("PupilCoin$Rates", "year", "I", true)
  | 3 => ("PupilCoin$Rates", "found", "Z", false)
  | 4 => ("PupilCoin$Rates", "losers", "J", false)
  | 5 => ("PupilCoin$Rates", "together", "J", false)
  | 6 => ("PupilCoin$Rates", "tenthsA", "I", false)
  | _ => ("PupilCoin$Rates", "tenthsB", "I", false)
def vg_y5 : Nat → FieldType := fun k => match k with
  | 0 => .object "PupilCoin$Land"
  | 1 => .object "PupilCoin$Sums"
  | 2 => .int
  | 3 => .boolean
  | 4 => .long
  | 5 => .long
  | 6 => .int
  | _ => .int
def vg_T6 : u_T := fun k => match k with
  | 0 => ("PupilCoin$Reader", "keys", "[J", true)
  | 1 => ("PupilCoin$Reader", "code", "[I", true)
  | 2 => ("PupilCoin$Reader", "starts", "[I", true)
  | 3 => ("PupilCoin$Reader", "statementOf", "[I", true)
  | 4 => ("PupilCoin$Reader", "names", "[J", true)
  | 5 => ("PupilCoin$Reader", "told", "[I", true)
  | 6 => ("PupilCoin$Reader", "steps", "I", false)
  | 7 => ("PupilCoin$Reader", "lines", "I", false)
  | 8 => ("PupilCoin$Reader", "statements", "I", false)
  | 9 => ("PupilCoin$Reader", "text", "[I", false)
  | 10 => ("PupilCoin$Reader", "length", "I", false)
  | 11 => ("PupilCoin$Reader", "at", "I", false)
  | 12 => ("PupilCoin$Reader", "place", "I", false)
  | 13 => ("PupilCoin$Reader", "token", "I", false)
  | 14 => ("PupilCoin$Reader", "value", "I", false)
  | 15 => ("PupilCoin$Reader", "name", "J", false)
  | _ => ("PupilCoin$Reader", "faultAt", "I", false)
def vg_y6 : Nat → FieldType := fun k => match k with
  | 0 => .array (.long)
  | 1 => .array (.int)
  | 2 => .array (.int)
  | 3 => .array (.int)
  | 4 => .array (.long)
  | 5 => .array (.int)
  | 6 => .int
  | 7 => .int
  | 8 => .int
  | 9 => .array (.int)
  | 10 => .int
  | 11 => .int
  | 12 => .int
  | 13 => .int
  | 14 => .int
  | 15 => .long
  | _ => .int
def vg_T7 : u_T := fun k => match k with
  | 0 => ("PupilCoin$Roads", "miles", "[I", true)
  | 1 => ("PupilCoin$Roads", "ways", "[I", true)
  | _ => ("PupilCoin$Roads", "measured", "Z", false)
def vg_y7 : Nat → FieldType := fun k => match k with
  | 0 => .array (.int)
  | 1 => .array (.int)
  | _ => .boolean
def vg_T8 : u_T := fun k => match k with
  | 0 => ("PupilCoin$Rules", "laws", "[LPupilCoin$Law;", true)
  | 1 => ("PupilCoin$Rules", "empty", "LPupilCoin$Law;", true)
  | _ => ("PupilCoin$Rules", "count", "I", false)
def vg_y8 : Nat → FieldType := fun k => match k with
  | 0 => .array (.object "PupilCoin$Law")
  | 1 => .object "PupilCoin$Law"
  | _ => .int
def vg_T9 : u_T := fun k => match k with
  | 0 => ("PupilCoin$Sums", "land", "LPupilCoin$Land;", true)
  | 1 => ("PupilCoin$Sums", "marks", "LPupilCoin$Marks;", true)
  | 2 => ("PupilCoin$Sums", "rules", "LPupilCoin$Rules;", true)
  | 3 => ("PupilCoin$Sums", "mill", "LPupilCoin$Mill;", true)
  | 4 => ("PupilCoin$Sums", "line", "[J", true)
  | 5 => ("PupilCoin$Sums", "bare", "[J", true)
  | 6 => ("PupilCoin$Sums", "floor", "[J", true)
  | 7 => ("PupilCoin$Sums", "cap", "[J", true)
  | 8 => ("PupilCoin$Sums", "share", "[J", true)
  | 9 => ("PupilCoin$Sums", "part", "[J", true)
  | 10 => ("PupilCoin$Sums", "last", "[J", true)
  | 11 => ("PupilCoin$Sums", "whole", "[J", true)
  | 12 => ("PupilCoin$Sums", "kept", "[J", true)
  | 13 => ("PupilCoin$Sums", "holder", "[I", true)
  | 14 => ("PupilCoin$Sums", "past", "[J", true)
  | 15 => ("PupilCoin$Sums", "pastYears", "I", false)
  | 16 => ("PupilCoin$Sums", "then", "J", false)
  | 17 => ("PupilCoin$Sums", "moreSchool", "I", false)
  | _ => ("PupilCoin$Sums", "moreMark", "I", false)
def vg_y9 : Nat → FieldType := fun k => match k with
  | 0 => .object "PupilCoin$Land"
  | 1 => .object "PupilCoin$Marks"
  | 2 => .object "PupilCoin$Rules"
  | 3 => .object "PupilCoin$Mill"
  | 4 => .array (.long)
  | 5 => .array (.long)
  | 6 => .array (.long)
  | 7 => .array (.long)
  | 8 => .array (.long)
  | 9 => .array (.long)
  | 10 => .array (.long)
  | 11 => .array (.long)
  | 12 => .array (.long)
  | 13 => .array (.int)
  | 14 => .array (.long)
  | 15 => .int
  | 16 => .long
  | 17 => .int
  | _ => .int
def vg_T10 : u_T := fun k => match k with
  | 0 => ("PupilCoin", "land", "LPupilCoin$Land;", true)
  | 1 => ("PupilCoin", "marks", "LPupilCoin$Marks;", true)
  | 2 => ("PupilCoin", "reader", "LPupilCoin$Reader;", true)
  | 3 => ("PupilCoin", "rules", "LPupilCoin$Rules;", true)
  | 4 => ("PupilCoin", "sums", "LPupilCoin$Sums;", true)
  | 5 => ("PupilCoin", "moves", "LPupilCoin$Moves;", true)
  | 6 => ("PupilCoin", "tape", "[I", true)
  | 7 => ("PupilCoin", "taped", "I", false)
  | 8 => ("PupilCoin", "aside", "LPupilCoin$Law;", false)
  | 9 => ("PupilCoin", "faultPlace", "I", false)
  | _ => ("PupilCoin", "today", "I", false)
def vg_y10 : Nat → FieldType := fun k => match k with
  | 0 => .object "PupilCoin$Land"
  | 1 => .object "PupilCoin$Marks"
  | 2 => .object "PupilCoin$Reader"
  | 3 => .object "PupilCoin$Rules"
  | 4 => .object "PupilCoin$Sums"
  | 5 => .object "PupilCoin$Moves"
  | 6 => .array (.int)
  | 7 => .int
  | 8 => .object "PupilCoin$Law"
  | 9 => .int
  | _ => .int
def vg_T11 : u_T := fun k => match k with
  | 0 => ("PupilCoinModel", "today", "I", false)
  | 1 => ("PupilCoinModel", "schools", "I", false)
  | 2 => ("PupilCoinModel", "marks", "I", false)
  | 3 => ("PupilCoinModel", "joins", "I", false)
  | 4 => ("PupilCoinModel", "ward", "[I", true)
  | 5 => ("PupilCoinModel", "council", "[I", true)
  | 6 => ("PupilCoinModel", "node", "[I", true)
  | 7 => ("PupilCoinModel", "needs", "[I", true)
  | 8 => ("PupilCoinModel", "miles", "[I", true)
  | 9 => ("PupilCoinModel", "markOf", "[I", true)
  | 10 => ("PupilCoinModel", "markYear", "[I", true)
  | 11 => ("PupilCoinModel", "markWhat", "[I", true)
  | 12 => ("PupilCoinModel", "markAs", "[I", true)
  | 13 => ("PupilCoinModel", "markTold", "[I", true)
  | 14 => ("PupilCoinModel", "takerOf", "[I", true)
  | 15 => ("PupilCoinModel", "takenFrom", "[I", true)
  | 16 => ("PupilCoinModel", "away", "[I", true)
  | 17 => ("PupilCoinModel", "isDone", "[Z", true)
  | 18 => ("PupilCoinModel", "formulae", "I", false)
  | 19 => ("PupilCoinModel", "taped", "I", false)
  | 20 => ("PupilCoinModel", "size", "I", false)
  | 21 => ("PupilCoinModel", "at", "I", false)
  | 22 => ("PupilCoinModel", "deep", "I", false)
  | 23 => ("PupilCoinModel", "names", "I", false)
  | 24 => ("PupilCoinModel", "steps", "I", false)
  | 25 => ("PupilCoinModel", "fault", "I", false)
  | 26 => ("PupilCoinModel", "hasBeside", "Z", false)
  | 27 => ("PupilCoinModel", "statements", "[I", true)
  | 28 => ("PupilCoinModel", "forYear", "[I", true)
  | 29 => ("PupilCoinModel", "toldOn", "[I", true)
  | 30 => ("PupilCoinModel", "sort", "[I", true)
  | 31 => ("PupilCoinModel", "value", "[I", true)
  | 32 => ("PupilCoinModel", "from", "[I", true)
  | 33 => ("PupilCoinModel", "mid", "[I", true)
  | 34 => ("PupilCoinModel", "to", "[I", true)
  | 35 => ("PupilCoinModel", "step", "[I", true)
  | 36 => ("PupilCoinModel", "arg", "[I", true)
  | 37 => ("PupilCoinModel", "name", "[J", true)
  | 38 => ("PupilCoinModel", "pile", "[J", true)
  | 39 => ("PupilCoinModel", "words", "[J", true)
  | 40 => ("PupilCoinModel", "tape", "[B", true)
  | 41 => ("PupilCoinModel", "text", "[B", true)
  | 42 => ("PupilCoinModel", "wordEnd", "I", false)
  | 43 => ("PupilCoinModel", "read", "I", false)
  | 44 => ("PupilCoinModel", "lines", "[J", true)
  | 45 => ("PupilCoinModel", "floors", "[J", true)
  | 46 => ("PupilCoinModel", "caps", "[J", true)
  | 47 => ("PupilCoinModel", "shares", "[J", true)
  | 48 => ("PupilCoinModel", "sums", "[J", true)
  | 49 => ("PupilCoinModel", "lasts", "[J", true)
  | 50 => ("PupilCoinModel", "then", "[J", true)
  | 51 => ("PupilCoinModel", "heads", "[J", true)
  | 52 => ("PupilCoinModel", "kept", "[J", true)
  | 53 => ("PupilCoinModel", "proposals", "I", false)
  | 54 => ("PupilCoinModel", "moveFrom", "[I", true)
  | 55 => ("PupilCoinModel", "moveTo", "[I", true)
  | 56 => ("PupilCoinModel", "coins", "[I", true)
  | 57 => ("PupilCoinModel", "moveYear", "[I", true)
  | 58 => ("PupilCoinModel", "moveOn", "[I", true)
  | 59 => ("PupilCoinModel", "moveBy", "[I", true)
  | 60 => ("PupilCoinModel", "objected", "[I", true)
  | 61 => ("PupilCoinModel", "isAdopted", "[Z", true)
  | _ => ("PupilCoinModel", "said", "[I", true)
def vg_y11 : Nat → FieldType := fun k => match k with
  | 0 => .int
  | 1 => .int
  | 2 => .int
  | 3 => .int
  | 4 => .array (.int)
  | 5 => .array (.int)
  | 6 => .array (.int)
  | 7 => .array (.int)
  | 8 => .array (.int)
  | 9 => .array (.int)
  | 10 => .array (.int)
  | 11 => .array (.int)
  | 12 => .array (.int)
  | 13 => .array (.int)
  | 14 => .array (.int)
  | 15 => .array (.int)
  | 16 => .array (.int)
  | 17 => .array (.boolean)
  | 18 => .int
  | 19 => .int
  | 20 => .int
  | 21 => .int
  | 22 => .int
  | 23 => .int
  | 24 => .int
  | 25 => .int
  | 26 => .boolean
  | 27 => .array (.int)
  | 28 => .array (.int)
  | 29 => .array (.int)
  | 30 => .array (.int)
  | 31 => .array (.int)
  | 32 => .array (.int)
  | 33 => .array (.int)
  | 34 => .array (.int)
  | 35 => .array (.int)
  | 36 => .array (.int)
  | 37 => .array (.long)
  | 38 => .array (.long)
  | 39 => .array (.long)
  | 40 => .array (.byte)
  | 41 => .array (.byte)
  | 42 => .int
  | 43 => .int
  | 44 => .array (.long)
  | 45 => .array (.long)
  | 46 => .array (.long)
  | 47 => .array (.long)
  | 48 => .array (.long)
  | 49 => .array (.long)
  | 50 => .array (.long)
  | 51 => .array (.long)
  | 52 => .array (.long)
  | 53 => .int
  | 54 => .array (.int)
  | 55 => .array (.int)
  | 56 => .array (.int)
  | 57 => .array (.int)
  | 58 => .array (.int)
  | 59 => .array (.int)
  | 60 => .array (.int)
  | 61 => .array (.boolean)
  | _ => .array (.int)
def vg_T : Nat → u_T := fun i => match i with
  | 0 => vg_T0
  | 1 => vg_T1
  | 2 => vg_T2
  | 3 => vg_T3
  | 4 => vg_T4
  | 5 => vg_T5
  | 6 => vg_T6
  | 7 => vg_T7
  | 8 => vg_T8
  | 9 => vg_T9
  | 10 => vg_T10
  | _ => vg_T11
def vg_y : Nat → Nat → FieldType := fun i => match i with
  | 0 => vg_y0
  | 1 => vg_y1
  | 2 => vg_y2
  | 3 => vg_y3
  | 4 => vg_y4
  | 5 => vg_y5
  | 6 => vg_y6
  | 7 => vg_y7
  | 8 => vg_y8
  | 9 => vg_y9
  | 10 => vg_y10
  | _ => vg_y11
def vg_N : Nat → Nat := fun i => match i with
  | 0 => 9
  | 1 => 9
  | 2 => 5
  | 3 => 2
  | 4 => 10
  | 5 => 8
  | 6 => 17
  | 7 => 3
  | 8 => 3
  | 9 => 19
  | 10 => 11
  | _ => 63
def vg_lp : Nat → List Nat := fun i => match i with
  | 0 => [131, 133, 135, 137, 139, 141, 143, 145, 147]
  | 1 => [345, 347, 349, 351, 353, 355, 357, 359, 361]
  | 2 => [165, 167, 169, 171, 173]
  | 3 => [396, 398]
  | 4 => [493, 495, 497, 499, 501, 503, 505, 507, 509, 511]
  | 5 => [958, 960, 962, 964, 966, 968, 970, 972]
  | 6 => [262, 264, 266, 268, 270, 272, 274, 276, 278, 280, 282, 284, 286, 288, 290, 292, 294]
  | 7 => [105, 107, 109]
  | 8 => [374, 376, 378]
  | 9 => [429, 431, 433, 435, 437, 439, 441, 443, 445, 447, 449, 451, 453, 455, 457, 459, 461, 463, 465]
  | 10 => [526, 528, 530, 532, 534, 536, 538, 540, 542, 544, 546]
  | _ => [1097, 1099, 1101, 1103, 1105, 1107, 1109, 1111, 1113, 1115, 1117, 1119, 1121, 1123, 1125, 1127, 1129, 1131, 1133, 1135, 1137, 1139, 1141, 1143, 1145, 1147, 1149, 1151, 1153, 1155, 1157, 1159, 1161, 1163, 1165, 1167, 1169, 1171, 1173, 1175, 1177, 1179, 1181, 1183, 1185, 1187, 1189, 1191, 1193, 1195, 1197, 1199, 1201, 1203, 1205, 1207, 1209, 1211, 1213, 1215, 1217, 1219, 1221]
abbrev vg_cl : List vw_C := (List.range 12).map (fun i => (vg_C i, vg_T i, vg_N i))
theorem vg_lays_ok : ∀ i, i < 12 → ∀ k, k < vg_N i → lw_tbl[(vg_lp i).getD k 0]? = some (u_lay (vg_C i) (vg_T i) k) ∧ goodWord (u_lay (vg_C i) (vg_T i) k) = true := by decide +kernel
theorem vg_lays : ∀ i, i < 12 → ∀ w ∈ u_ws (vg_C i) (vg_T i) (vg_N i), w ∈ vt := by
  intro i hi w hw
  obtain ⟨k, hk, rfl⟩ := List.mem_map.mp hw
  exact vt_of (vg_lays_ok i hi k (List.mem_range.mp hk)).1 (vg_lays_ok i hi k (List.mem_range.mp hk)).2
theorem vg_y_ok : ∀ i, i < 12 → ∀ k, k < vg_N i → parseFieldDescriptor (vg_T i k).2.2.1 = some (vg_y i k) := by decide +kernel
theorem vg_nm_ok : ∀ i, i < 12 → ∀ a, a < vg_N i → ∀ b, b < vg_N i → a ≠ b → (vg_T i a).2.1 ≠ (vg_T i b).2.1 := by decide +kernel
theorem vg_dec_ok : ∀ i, i < 12 → ∀ k, k < vg_N i → (vg_T i k).1 = vg_C i := by decide +kernel
def vg_ip : List Nat := [89, 302, 151, 388, 469, 944, 177, 95, 300, 382, 81, 1029]
def vg_np : List Nat := [61, 71, 63, 75, 76, 78, 65, 62, 70, 74, 60, 77]
theorem vg_inst_ok : ∀ i, i < 12 → lw_tbl[vg_ip.getD i 0]? = some (.instantiable (vg_C i) (vg_N i)) ∧ goodWord (.instantiable (vg_C i) (vg_N i)) = true := by decide +kernel
theorem vg_init_ok : ∀ i, i < 12 → lw_tbl[vg_np.getD i 0]? = some (.initialized (vg_C i)) ∧ goodWord (.initialized (vg_C i)) = true := by decide +kernel
/-- a field link: own class, entry, class, place; the word's place -/
def vg_fl : List (Nat × Nat × Nat × Nat × Nat) := [(7, 9, 7, 0, 100), (7, 15, 7, 1, 101), (0, 55, 7, 1, 102), (7, 18, 7, 2, 103), (0, 48, 7, 2, 104), (0, 9, 0, 0, 113), (9, 148, 0, 0, 114), (0, 15, 0, 1, 115), (10, 197, 0, 1, 116), (0, 18, 0, 2, 117), (0, 21, 0, 3, 118), (0, 24, 0, 4, 119), (0, 27, 0, 5, 120), (10, 85, 0, 5, 121), (9, 145, 0, 5, 122), (0, 33, 0, 6, 123), (10, 88, 0, 6, 124), (0, 37, 0, 7, 125), (5, 27, 0, 7, 126), (10, 75, 0, 7, 127), (9, 101, 0, 7, 128), (0, 41, 0, 8, 129), (10, 129, 0, 8, 130), (2, 9, 2, 0, 159), (2, 15, 2, 1, 160), (2, 18, 2, 2, 161), (2, 21, 2, 3, 162), (2, 30, 2, 4, 163), (10, 112, 2, 4, 164), (6, 9, 6, 0, 238), (6, 15, 6, 1, 239), (1, 61, 6, 1, 240), (6, 19, 6, 2, 241), (1, 57, 6, 2, 242), (6, 22, 6, 3, 243), (1, 41, 6, 3, 244), (6, 25, 6, 4, 245), (1, 31, 6, 5, 246), (6, 28, 6, 5, 247), (1, 64, 6, 6, 248), (6, 54, 6, 6, 249), (1, 27, 6, 7, 250), (6, 57, 6, 7, 251), (1, 21, 6, 8, 252), (6, 60, 6, 8, 253), (6, 72, 6, 9, 254), (6, 81, 6, 10, 255), (6, 50, 6, 11, 256), (6, 95, 6, 12, 257), (6, 86, 6, 13, 258), (6, 112, 6, 14, 259), (6, 108, 6, 15, 260), (6, 63, 6, 16, 261), (1, 9, 1, 0, 328), (1, 15, 1, 1, 329), (8, 28, 1, 1, 330), (1, 18, 1, 2, 331), (8, 25, 1, 2, 332), (1, 26, 1, 3, 333), (1, 30, 1, 4, 334), (9, 178, 1, 4, 335), (10, 260, 1, 4, 336), (1, 40, 1, 5, 337), (9, 124, 1, 5, 338), (10, 308, 1, 5, 339), (1, 56, 1, 6, 340), (1, 60, 1, 7, 341), (9, 181, 1, 7, 342), (1, 67, 1, 8, 343), (3, 24, 1, 8, 344), (8, 11, 8, 0, 370), (8, 17, 8, 1, 371), (8, 21, 8, 2, 372), (10, 145, 8, 2, 373), (3, 9, 3, 0, 393), (9, 142, 3, 0, 394), (3, 15, 3, 1, 395), (9, 60, 9, 0, 401), (9, 64, 9, 1, 402), (9, 68, 9, 2, 403), (9, 12, 9, 3, 404), (9, 18, 9, 4, 405), (5, 36, 9, 4, 406), (10, 194, 9, 4, 407), (9, 22, 9, 5, 408), (5, 42, 9, 5, 409), (9, 25, 9, 6, 410), (10, 182, 9, 6, 411), (9, 28, 9, 7, 412), (10, 185, 9, 7, 413), (9, 31, 9, 8, 414), (10, 188, 9, 8, 415), (9, 34, 9, 9, 416), (9, 37, 9, 10, 417), (5, 47, 9, 10, 418), (9, 40, 9, 11, 419), (10, 171, 9, 11, 420), (9, 43, 9, 12, 421), (10, 246, 9, 12, 422), (9, 46, 9, 13, 423), (9, 50, 9, 14, 424), (9, 72, 9, 15, 425), (9, 168, 9, 16, 426), (9, 53, 9, 17, 427), (9, 57, 9, 18, 428), (4, 9, 4, 0, 474), (10, 304, 4, 0, 475), (4, 15, 4, 1, 476), (10, 205, 4, 1, 477), (4, 18, 4, 2, 478), (10, 208, 4, 2, 479), (4, 21, 4, 3, 480), (10, 211, 4, 3, 481), (4, 24, 4, 4, 482), (10, 230, 4, 4, 483), (4, 27, 4, 5, 484), (10, 227, 4, 5, 485), (4, 30, 4, 6, 486), (10, 224, 4, 6, 487), (4, 33, 4, 7, 488), (10, 214, 4, 7, 489), (4, 37, 4, 8, 490), (10, 201, 4, 8, 491), (10, 239, 4, 9, 492), (10, 10, 10, 0, 515), (10, 19, 10, 1, 516), (10, 26, 10, 2, 517), (10, 40, 10, 3, 518), (10, 49, 10, 4, 519), (10, 56, 10, 5, 520), (10, 60, 10, 6, 521), (10, 138, 10, 7, 522), (10, 153, 10, 8, 523), (10, 64, 10, 9, 524), (10, 68, 10, 10, 525), (5, 9, 5, 0, 949), (5, 15, 5, 1, 950), (5, 19, 5, 2, 951), (5, 50, 5, 3, 952), (10, 272, 5, 3, 953), (5, 54, 5, 4, 954), (5, 58, 5, 5, 955), (5, 61, 5, 6, 956), (5, 64, 5, 7, 957), (11, 165, 11, 0, 1034), (11, 162, 11, 1, 1035), (11, 188, 11, 2, 1036), (11, 205, 11, 3, 1037), (11, 7, 11, 4, 1038), (11, 13, 11, 5, 1039), (11, 16, 11, 6, 1040), (11, 19, 11, 7, 1041), (11, 22, 11, 8, 1042), (11, 25, 11, 9, 1043), (11, 28, 11, 10, 1044), (11, 31, 11, 11, 1045), (11, 34, 11, 12, 1046), (11, 37, 11, 13, 1047), (11, 40, 11, 14, 1048), (11, 43, 11, 15, 1049), (11, 46, 11, 16, 1050), (11, 49, 11, 17, 1051), (11, 359, 11, 18, 1052), (11, 222, 11, 19, 1053), (11, 232, 11, 20, 1054), (11, 229, 11, 21, 1055), (11, 304, 11, 22, 1056), (11, 298, 11, 23, 1057), (11, 301, 11, 24, 1058), (11, 53, 11, 25, 1059), (11, 368, 11, 26, 1060), (11, 57, 11, 27, 1061), (11, 60, 11, 28, 1062), (11, 63, 11, 29, 1063), (11, 66, 11, 30, 1064), (11, 69, 11, 31, 1065), (11, 72, 11, 32, 1066), (11, 75, 11, 33, 1067), (11, 78, 11, 34, 1068), (11, 81, 11, 35, 1069), (11, 84, 11, 36, 1070), (11, 87, 11, 37, 1071), (11, 91, 11, 38, 1072), (11, 94, 11, 39, 1073), (11, 97, 11, 40, 1074), (11, 101, 11, 41, 1075), (11, 238, 11, 42, 1076), (11, 245, 11, 43, 1077), (11, 104, 11, 44, 1078), (11, 107, 11, 45, 1079), (11, 110, 11, 46, 1080), (11, 113, 11, 47, 1081), (11, 116, 11, 48, 1082), (11, 119, 11, 49, 1083), (11, 122, 11, 50, 1084), (11, 125, 11, 51, 1085), (11, 128, 11, 52, 1086), (11, 459, 11, 53, 1087), (11, 131, 11, 54, 1088), (11, 134, 11, 55, 1089), (11, 137, 11, 56, 1090), (11, 140, 11, 57, 1091), (11, 143, 11, 58, 1092), (11, 146, 11, 59, 1093), (11, 149, 11, 60, 1094), (11, 152, 11, 61, 1095), (11, 155, 11, 62, 1096)]
theorem vg_fl_ok : ∀ e ∈ vg_fl, lw_tbl[e.2.2.2.2]? = some (.fieldLink (vg_O e.1) e.2.1 (vg_T e.2.2.1 e.2.2.2.1).1 (vg_T e.2.2.1 e.2.2.2.1).2.1 (vg_T e.2.2.1 e.2.2.2.1).2.2.1) ∧ goodWord (.fieldLink (vg_O e.1) e.2.1 (vg_T e.2.2.1 e.2.2.2.1).1 (vg_T e.2.2.1 e.2.2.2.1).2.1 (vg_T e.2.2.1 e.2.2.2.1).2.2.1) = true ∧ e.2.2.1 < 12 ∧ e.2.2.2.1 < vg_N e.2.2.1 := by decide +kernel
def vg_ki : List (Nat × Nat × Int × Nat) := [(7, 22, 1000000, 603), (6, 122, 9999999, 730), (10, 200, 9999999, 883), (10, 259, 999999999, 942), (13, 265, 1431655765, 1013), (13, 266, 858993459, 1014), (13, 267, 252645135, 1015), (11, 307, 9999999, 1382), (11, 471, 999999999, 1572)]
theorem vg_ki_ok : ∀ e ∈ vg_ki, lw_tbl[e.2.2.2]? = some (.constant (vg_O e.1) e.2.1 (Int32.ofInt e.2.2.1)) ∧ goodWord (.constant (vg_O e.1) e.2.1 (Int32.ofInt e.2.2.1)) = true := by decide +kernel
def vg_kj : List (Nat × Nat × Int × Nat) := [(6, 43, 32, 231), (6, 45, 97, 232), (10, 165, -2000000000000, 768), (9, 158, -100000000, 805), (9, 160, 100000000, 806), (3, 38, -100000000, 829), (3, 40, 100000000, 830), (9, 191, -10000000000, 838), (9, 193, 10000000000, 839), (9, 202, 100, 844), (9, 204, -1, 853), (10, 309, 100, 916), (5, 45, 10, 984), (11, 268, 1818848869, 1321), (11, 270, 26982, 1337), (11, 272, 439905906546, 1338), (11, 274, 6513008, 1339), (11, 276, 500086104428, 1340), (11, 278, 1836021349, 1341), (11, 280, 478660552050, 1342), (11, 282, 495672455781, 1343), (11, 284, 7170414, 1344), (11, 286, 7168376, 1345), (11, 288, 28530, 1346), (11, 290, 6385252, 1347), (11, 292, 7237492, 1348), (11, 248, 439855772532, 1352), (11, 250, 465726563698, 1353), (11, 252, 504397587826, 1354), (11, 254, 469852318835, 1355), (11, 256, 32493203083583852, 1356), (11, 258, 448377480307, 1357), (11, 260, 1852138852, 1358), (11, 262, 6709618, 1359), (11, 264, 1818325876, 1360), (11, 266, 2002874980, 1361), (11, 455, -2000000000000, 1447), (11, 385, -100000000, 1475), (11, 387, 100000000, 1476), (11, 402, 2, 1489), (11, 424, -10000000000, 1494), (11, 426, 10000000000, 1495), (11, 430, 100, 1500), (11, 440, -1, 1515), (11, 472, 10, 1573)]
theorem vg_kj_ok : ∀ e ∈ vg_kj, lw_tbl[e.2.2.2]? = some (.constantLong (vg_O e.1) e.2.1 (Int64.ofInt e.2.2.1)) ∧ goodWord (.constantLong (vg_O e.1) e.2.1 (Int64.ofInt e.2.2.1)) = true := by decide +kernel
def vg_kc : List (Nat × Nat × Nat × Nat) := [(12, 7, 10, 80), (10, 7, 0, 88), (0, 30, 7, 94), (10, 16, 2, 150), (10, 23, 6, 176), (10, 30, 8, 299), (10, 32, 1, 301), (8, 9, 1, 368), (10, 44, 9, 381), (9, 9, 3, 387), (10, 53, 4, 468), (10, 263, 5, 943), (12, 10, 11, 1028)]
theorem vg_kc_ok : ∀ e ∈ vg_kc, lw_tbl[e.2.2.2]? = some (.classLink (vg_O e.1) e.2.1 (vg_C e.2.2.1)) ∧ goodWord (.classLink (vg_O e.1) e.2.1 (vg_C e.2.2.1)) = true ∧ e.2.2.1 < 12 := by decide +kernel
-- classLink to others: [(1, 36, '[I', 313), (14, 317, '[I', 321)]
def vg_kx : List (Nat × Nat × Nat) := [(1, 36, 313), (14, 317, 321)]
theorem vg_kx_ok : ∀ e ∈ vg_kx, lw_tbl[e.2.2]? = some (.classLink (vg_O e.1) e.2.1 "[I") ∧ goodWord (.classLink (vg_O e.1) e.2.1 "[I") = true := by decide +kernel
/-- the methods: name, bytes, locals, answer, parameters, own class, kind (0 of an object, 1 static, 2 a constructor) -/

def vm_y : Nat → MethodName := fun i => match i with
  | 0 => ⟨"PupilCoin$Land", "<init>", "()V"⟩
  | 1 => ⟨"PupilCoin$Land", "found", "(III)I"⟩
  | 2 => ⟨"PupilCoin$Land", "isOpen", "(II)Z"⟩
  | 3 => ⟨"PupilCoin$Land", "isTaken", "(I)Z"⟩
  | 4 => ⟨"PupilCoin$Land", "take", "(III)I"⟩
  | 5 => ⟨"PupilCoin$Land", "holder", "(II)I"⟩
  | 6 => ⟨"PupilCoin$Land", "openCount", "(I)I"⟩
  | 7 => ⟨"PupilCoin$Land", "reach", "(II)I"⟩
  | 8 => ⟨"PupilCoin$Law", "<init>", "(LPupilCoin$Reader;III)V"⟩
  | 9 => ⟨"PupilCoin$Law", "tells", "(I)I"⟩
  | 10 => ⟨"PupilCoin$Marks", "<init>", "()V"⟩
  | 11 => ⟨"PupilCoin$Marks", "tell", "(IIIII)I"⟩
  | 12 => ⟨"PupilCoin$Marks", "held", "(IIII)I"⟩
  | 13 => ⟨"PupilCoin$Marks", "latestYear", "(IIII)I"⟩
  | 14 => ⟨"PupilCoin$Marks", "toldBits", "(III)I"⟩
  | 15 => ⟨"PupilCoin$Marks", "canBe", "(IIII)Z"⟩
  | 16 => ⟨"PupilCoin$Mill", "<init>", "()V"⟩
  | 17 => ⟨"PupilCoin$Mill", "run", "(LPupilCoin$Law;II[JI)J"⟩
  | 18 => ⟨"PupilCoin$Mill", "pushed", "(II[JI)J"⟩
  | 19 => ⟨"PupilCoin$Mill", "both", "(IJJ)J"⟩
  | 20 => ⟨"PupilCoin$Moves", "<init>", "()V"⟩
  | 21 => ⟨"PupilCoin$Moves", "begin", "(III)I"⟩
  | 22 => ⟨"PupilCoin$Moves", "objects", "(II)Z"⟩
  | 23 => ⟨"PupilCoin$Moves", "adoptedCoins", "(II)J"⟩
  | 24 => ⟨"PupilCoin$Moves", "moved", "(II)J"⟩
  | 25 => ⟨"PupilCoin$Rates", "<init>", "(LPupilCoin$Land;LPupilCoin$Sums;I)V"⟩
  | 26 => ⟨"PupilCoin$Rates", "search", "(IIJ)V"⟩
  | 27 => ⟨"PupilCoin$Rates", "weigh", "(IIIIJ)V"⟩
  | 28 => ⟨"PupilCoin$Rates", "tells", "(I)J"⟩
  | 29 => ⟨"PupilCoin$Reader", "<init>", "()V"⟩
  | 30 => ⟨"PupilCoin$Reader", "clear", "()V"⟩
  | 31 => ⟨"PupilCoin$Reader", "read", "([II)I"⟩
  | 32 => ⟨"PupilCoin$Reader", "fail", "()V"⟩
  | 33 => ⟨"PupilCoin$Reader", "next", "()V"⟩
  | 34 => ⟨"PupilCoin$Reader", "nextWord", "()V"⟩
  | 35 => ⟨"PupilCoin$Reader", "nextNumber", "()V"⟩
  | 36 => ⟨"PupilCoin$Reader", "isSign", "(I)Z"⟩
  | 37 => ⟨"PupilCoin$Reader", "expect", "(I)V"⟩
  | 38 => ⟨"PupilCoin$Reader", "statement", "()V"⟩
  | 39 => ⟨"PupilCoin$Reader", "setting", "(II)V"⟩
  | 40 => ⟨"PupilCoin$Reader", "order", "()V"⟩
  | 41 => ⟨"PupilCoin$Reader", "share", "()V"⟩
  | 42 => ⟨"PupilCoin$Reader", "lineNamed", "()I"⟩
  | 43 => ⟨"PupilCoin$Reader", "line", "()V"⟩
  | 44 => ⟨"PupilCoin$Reader", "step", "(II)V"⟩
  | 45 => ⟨"PupilCoin$Reader", "ex", "(I)V"⟩
  | 46 => ⟨"PupilCoin$Reader", "prod", "(I)V"⟩
  | 47 => ⟨"PupilCoin$Reader", "atom", "(I)V"⟩
  | 48 => ⟨"PupilCoin$Reader", "cond", "(I)V"⟩
  | 49 => ⟨"PupilCoin$Reader", "every", "(I)V"⟩
  | 50 => ⟨"PupilCoin$Reader", "one", "(I)V"⟩
  | 51 => ⟨"PupilCoin$Roads", "<init>", "()V"⟩
  | 52 => ⟨"PupilCoin$Roads", "lay", "(III)V"⟩
  | 53 => ⟨"PupilCoin$Roads", "measure", "()V"⟩
  | 54 => ⟨"PupilCoin$Rules", "<init>", "(LPupilCoin$Law;)V"⟩
  | 55 => ⟨"PupilCoin$Rules", "take", "(LPupilCoin$Law;)I"⟩
  | 56 => ⟨"PupilCoin$Rules", "inForce", "(II)LPupilCoin$Law;"⟩
  | 57 => ⟨"PupilCoin$Sums", "<init>", "(LPupilCoin$Land;LPupilCoin$Marks;LPupilCoin$Rules;)V"⟩
  | 58 => ⟨"PupilCoin$Sums", "forget", "()V"⟩
  | 59 => ⟨"PupilCoin$Sums", "reckon", "(II)V"⟩
  | 60 => ⟨"PupilCoin$Sums", "reckonBy", "(LPupilCoin$Law;II)V"⟩
  | 61 => ⟨"PupilCoin$Sums", "reckonWithOneMore", "(IIII)V"⟩
  | 62 => ⟨"PupilCoin$Sums", "prepare", "(I)V"⟩
  | 63 => ⟨"PupilCoin$Sums", "deal", "(LPupilCoin$Law;II)V"⟩
  | 64 => ⟨"PupilCoin$Sums", "gather", "(III)V"⟩
  | 65 => ⟨"PupilCoin$Sums", "together", "(IIII)J"⟩
  | 66 => ⟨"PupilCoin$Sums", "lastOf", "(II)J"⟩
  | 67 => ⟨"PupilCoin$Sums", "workOut", "(LPupilCoin$Law;I)V"⟩
  | 68 => ⟨"PupilCoin$Sums", "bound", "(LPupilCoin$Law;I)V"⟩
  | 69 => ⟨"PupilCoin$Sums", "lift", "(LPupilCoin$Law;IJ)V"⟩
  | 70 => ⟨"PupilCoin$Sums", "press", "(LPupilCoin$Law;IJ)V"⟩
  | 71 => ⟨"PupilCoin$Sums", "partOut", "(J)V"⟩
  | 72 => ⟨"PupilCoin$Sums", "putRight", "(II)J"⟩
  | 73 => ⟨"PupilCoin", "<init>", "()V"⟩
  | 74 => ⟨"PupilCoin", "day", "(I)Z"⟩
  | 75 => ⟨"PupilCoin", "school", "(III)I"⟩
  | 76 => ⟨"PupilCoin", "need", "(II)Z"⟩
  | 77 => ⟨"PupilCoin", "road", "(III)Z"⟩
  | 78 => ⟨"PupilCoin", "far", "(II)I"⟩
  | 79 => ⟨"PupilCoin", "mark", "(IIII)I"⟩
  | 80 => ⟨"PupilCoin", "marked", "(IIII)I"⟩
  | 81 => ⟨"PupilCoin", "join", "(III)I"⟩
  | 82 => ⟨"PupilCoin", "open", "(II)I"⟩
  | 83 => ⟨"PupilCoin", "feed", "(IIIII)I"⟩
  | 84 => ⟨"PupilCoin", "formula", "(II)I"⟩
  | 85 => ⟨"PupilCoin", "beside", "(I)I"⟩
  | 86 => ⟨"PupilCoin", "fault", "()I"⟩
  | 87 => ⟨"PupilCoin", "law", "(III)I"⟩
  | 88 => ⟨"PupilCoin", "sum", "(III)J"⟩
  | 89 => ⟨"PupilCoin", "led", "(III)J"⟩
  | 90 => ⟨"PupilCoin", "due", "(II)J"⟩
  | 91 => ⟨"PupilCoin", "all", "(II)J"⟩
  | 92 => ⟨"PupilCoin", "propose", "(IIIII)I"⟩
  | 93 => ⟨"PupilCoin", "object", "(II)Z"⟩
  | 94 => ⟨"PupilCoin", "adopt", "(I)I"⟩
  | 95 => ⟨"PupilCoin", "other", "(II)J"⟩
  | 96 => ⟨"PupilCoin", "losers", "(I)I"⟩
  | 97 => ⟨"PupilCoin", "edge", "(III)J"⟩
  | 98 => ⟨"PupilCoin", "rates", "(IIIII)J"⟩
  | 99 => ⟨"PupilCoin", "foretold", "(IIII)I"⟩
  | 100 => ⟨"PupilCoin", "doubt", "(II)I"⟩
  | 101 => ⟨"PupilCoin", "count", "(I)I"⟩
  | 102 => ⟨"PupilCoin", "within", "(II)Z"⟩
  | 103 => ⟨"PupilCoin", "isYear", "(I)Z"⟩
  | 104 => ⟨"PupilCoin", "isDay", "(I)Z"⟩
  | 105 => ⟨"PupilCoin", "isSchool", "(I)Z"⟩
  | 106 => ⟨"PupilCoin", "isLaterYear", "(I)Z"⟩
  | 107 => ⟨"PupilCoin", "tapeNumber", "(I)V"⟩
  | 108 => ⟨"PupilCoin", "mayObject", "(II)Z"⟩
  | 109 => ⟨"PupilCoin", "isObjected", "(I)Z"⟩
  | 110 => ⟨"PupilCoin", "isTooMuch", "(I)Z"⟩
  | 111 => ⟨"PupilCoinModel", "<init>", "()V"⟩
  | 112 => ⟨"PupilCoinModel", "isIn", "(III)Z"⟩
  | 113 => ⟨"PupilCoinModel", "one", "(Z)I"⟩
  | 114 => ⟨"PupilCoinModel", "isDay", "(I)Z"⟩
  | 115 => ⟨"PupilCoinModel", "isYear", "(I)Z"⟩
  | 116 => ⟨"PupilCoinModel", "isSchool", "(I)Z"⟩
  | 117 => ⟨"PupilCoinModel", "day", "(I)Z"⟩
  | 118 => ⟨"PupilCoinModel", "yearNow", "()I"⟩
  | 119 => ⟨"PupilCoinModel", "school", "(III)I"⟩
  | 120 => ⟨"PupilCoinModel", "need", "(II)Z"⟩
  | 121 => ⟨"PupilCoinModel", "road", "(III)Z"⟩
  | 122 => ⟨"PupilCoinModel", "isOpen", "(II)Z"⟩
  | 123 => ⟨"PupilCoinModel", "farOf", "(II)I"⟩
  | 124 => ⟨"PupilCoinModel", "far", "(II)I"⟩
  | 125 => ⟨"PupilCoinModel", "mark", "(IIII)I"⟩
  | 126 => ⟨"PupilCoinModel", "own", "(IIII)I"⟩
  | 127 => ⟨"PupilCoinModel", "marked", "(IIII)I"⟩
  | 128 => ⟨"PupilCoinModel", "isOpenOn", "(II)Z"⟩
  | 129 => ⟨"PupilCoinModel", "join", "(III)I"⟩
  | 130 => ⟨"PupilCoinModel", "open", "(II)I"⟩
  | 131 => ⟨"PupilCoinModel", "isOf", "(III)Z"⟩
  | 132 => ⟨"PupilCoinModel", "markBy", "(IIIII)I"⟩
  | 133 => ⟨"PupilCoinModel", "headsBy", "(IIII)I"⟩
  | 134 => ⟨"PupilCoinModel", "feed", "(IIIII)I"⟩
  | 135 => ⟨"PupilCoinModel", "four", "(I)V"⟩
  | 136 => ⟨"PupilCoinModel", "blanks", "()V"⟩
  | 137 => ⟨"PupilCoinModel", "word", "()J"⟩
  | 138 => ⟨"PupilCoinModel", "takes", "(J)Z"⟩
  | 139 => ⟨"PupilCoinModel", "takesSign", "(I)Z"⟩
  | 140 => ⟨"PupilCoinModel", "takesNumber", "(I)Z"⟩
  | 141 => ⟨"PupilCoinModel", "asked", "(J)I"⟩
  | 142 => ⟨"PupilCoinModel", "isKept", "(J)Z"⟩
  | 143 => ⟨"PupilCoinModel", "named", "(J)I"⟩
  | 144 => ⟨"PupilCoinModel", "puts", "(II)V"⟩
  | 145 => ⟨"PupilCoinModel", "opens", "()Z"⟩
  | 146 => ⟨"PupilCoinModel", "atom", "()Z"⟩
  | 147 => ⟨"PupilCoinModel", "product", "()Z"⟩
  | 148 => ⟨"PupilCoinModel", "ex", "()Z"⟩
  | 149 => ⟨"PupilCoinModel", "single", "()Z"⟩
  | 150 => ⟨"PupilCoinModel", "all", "()Z"⟩
  | 151 => ⟨"PupilCoinModel", "any", "()Z"⟩
  | 152 => ⟨"PupilCoinModel", "line", "(I)Z"⟩
  | 153 => ⟨"PupilCoinModel", "plain", "(III)Z"⟩
  | 154 => ⟨"PupilCoinModel", "statement", "(I)Z"⟩
  | 155 => ⟨"PupilCoinModel", "reads", "(I)Z"⟩
  | 156 => ⟨"PupilCoinModel", "becomes", "(II)V"⟩
  | 157 => ⟨"PupilCoinModel", "formula", "(II)I"⟩
  | 158 => ⟨"PupilCoinModel", "beside", "(I)I"⟩
  | 159 => ⟨"PupilCoinModel", "fault", "()I"⟩
  | 160 => ⟨"PupilCoinModel", "inForce", "(II)I"⟩
  | 161 => ⟨"PupilCoinModel", "last", "(II)I"⟩
  | 162 => ⟨"PupilCoinModel", "tells", "(III)I"⟩
  | 163 => ⟨"PupilCoinModel", "lineAt", "(II)I"⟩
  | 164 => ⟨"PupilCoinModel", "law", "(III)I"⟩
  | 165 => ⟨"PupilCoinModel", "held", "(J)J"⟩
  | 166 => ⟨"PupilCoinModel", "bit", "(Z)J"⟩
  | 167 => ⟨"PupilCoinModel", "both", "(IJJ)J"⟩
  | 168 => ⟨"PupilCoinModel", "runs", "(III)J"⟩
  | 169 => ⟨"PupilCoinModel", "look", "(I)I"⟩
  | 170 => ⟨"PupilCoinModel", "works", "(IIIII)V"⟩
  | 171 => ⟨"PupilCoinModel", "bounds", "(III)V"⟩
  | 172 => ⟨"PupilCoinModel", "caps", "(IIJ)V"⟩
  | 173 => ⟨"PupilCoinModel", "partOf", "(II)J"⟩
  | 174 => ⟨"PupilCoinModel", "parts", "(IIJ)V"⟩
  | 175 => ⟨"PupilCoinModel", "whole", "(JJJ)J"⟩
  | 176 => ⟨"PupilCoinModel", "begins", "(I)V"⟩
  | 177 => ⟨"PupilCoinModel", "sums", "(II)V"⟩
  | 178 => ⟨"PupilCoinModel", "sum", "(III)J"⟩
  | 179 => ⟨"PupilCoinModel", "all", "(II)J"⟩
  | 180 => ⟨"PupilCoinModel", "putRight", "(II)J"⟩
  | 181 => ⟨"PupilCoinModel", "moved", "(II)J"⟩
  | 182 => ⟨"PupilCoinModel", "due", "(II)J"⟩
  | 183 => ⟨"PupilCoinModel", "led", "(III)J"⟩
  | 184 => ⟨"PupilCoinModel", "propose", "(IIIII)I"⟩
  | 185 => ⟨"PupilCoinModel", "object", "(II)Z"⟩
  | 186 => ⟨"PupilCoinModel", "adopt", "(I)I"⟩
  | 187 => ⟨"PupilCoinModel", "sumsBeside", "(I)V"⟩
  | 188 => ⟨"PupilCoinModel", "other", "(II)J"⟩
  | 189 => ⟨"PupilCoinModel", "losers", "(I)I"⟩
  | 190 => ⟨"PupilCoinModel", "edge", "(III)J"⟩
  | 191 => ⟨"PupilCoinModel", "rates", "(IIIII)J"⟩
  | 192 => ⟨"PupilCoinModel", "foretold", "(IIII)I"⟩
  | 193 => ⟨"PupilCoinModel", "canBe", "(I)Z"⟩
  | 194 => ⟨"PupilCoinModel", "bits", "(I)I"⟩
  | 195 => ⟨"PupilCoinModel", "doubt", "(II)I"⟩
  | 196 => ⟨"PupilCoinModel", "adopted", "()I"⟩
  | 197 => ⟨"PupilCoinModel", "count", "(I)I"⟩
  | 198 => ⟨"java/lang/Integer", "bitCount", "(I)I"⟩
  | 199 => ⟨"java/util/Arrays", "fill", "([JJ)V"⟩
  | 200 => ⟨"java/util/Arrays", "fill", "([II)V"⟩
  | 201 => ⟨"java/util/Arrays", "copyOf", "([II)[I"⟩
  | 202 => ⟨"PupilCoin$Law", "lineAt", "(I)I"⟩
  | _ => ⟨"PupilCoinLaw", "law", "([I)Z"⟩
def vm_b : Nat → ByteArray := fun i => match i with
  | 0 => prog_2_method_1_code
  | 1 => prog_2_method_2_code
  | 2 => prog_2_method_3_code
  | 3 => prog_2_method_4_code
  | 4 => prog_2_method_5_code
  | 5 => prog_2_method_6_code
  | 6 => prog_2_method_7_code
  | 7 => prog_2_method_8_code
  | 8 => prog_3_method_1_code
  | 9 => prog_3_method_2_code
  | 10 => prog_4_method_1_code
  | 11 => prog_4_method_2_code
  | 12 => prog_4_method_3_code
  | 13 => prog_4_method_4_code
  | 14 => prog_4_method_5_code
  | 15 => prog_4_method_6_code
  | 16 => prog_5_method_1_code
  | 17 => prog_5_method_2_code
  | 18 => prog_5_method_3_code
  | 19 => prog_5_method_4_code
  | 20 => prog_6_method_1_code
  | 21 => prog_6_method_2_code
  | 22 => prog_6_method_3_code
  | 23 => prog_6_method_4_code
  | 24 => prog_6_method_5_code
  | 25 => prog_7_method_1_code
  | 26 => prog_7_method_2_code
  | 27 => prog_7_method_3_code
  | 28 => prog_7_method_4_code
  | 29 => prog_8_method_1_code
  | 30 => prog_8_method_2_code
  | 31 => prog_8_method_3_code
  | 32 => prog_8_method_4_code
  | 33 => prog_8_method_5_code
  | 34 => prog_8_method_6_code
  | 35 => prog_8_method_7_code
  | 36 => prog_8_method_8_code
  | 37 => prog_8_method_9_code
  | 38 => prog_8_method_10_code
  | 39 => prog_8_method_11_code
  | 40 => prog_8_method_12_code
  | 41 => prog_8_method_13_code
  | 42 => prog_8_method_14_code
  | 43 => prog_8_method_15_code
  | 44 => prog_8_method_16_code
  | 45 => prog_8_method_17_code
  | 46 => prog_8_method_18_code
  | 47 => prog_8_method_19_code
  | 48 => prog_8_method_20_code
  | 49 => prog_8_method_21_code
  | 50 => prog_8_method_22_code
  | 51 => prog_9_method_1_code
  | 52 => prog_9_method_2_code
  | 53 => prog_9_method_3_code
  | 54 => prog_10_method_1_code
  | 55 => prog_10_method_2_code
  | 56 => prog_10_method_3_code
  | 57 => prog_11_method_1_code
  | 58 => prog_11_method_2_code
  | 59 => prog_11_method_3_code
  | 60 => prog_11_method_4_code
  | 61 => prog_11_method_5_code
  | 62 => prog_11_method_6_code
  | 63 => prog_11_method_7_code
  | 64 => prog_11_method_8_code
  | 65 => prog_11_method_9_code
  | 66 => prog_11_method_10_code
  | 67 => prog_11_method_11_code
  | 68 => prog_11_method_12_code
  | 69 => prog_11_method_13_code
  | 70 => prog_11_method_14_code
  | 71 => prog_11_method_15_code
  | 72 => prog_11_method_16_code
  | 73 => prog_1_method_1_code
  | 74 => prog_1_method_2_code
  | 75 => prog_1_method_3_code
  | 76 => prog_1_method_4_code
  | 77 => prog_1_method_5_code
  | 78 => prog_1_method_6_code
  | 79 => prog_1_method_7_code
  | 80 => prog_1_method_8_code
  | 81 => prog_1_method_9_code
  | 82 => prog_1_method_10_code
  | 83 => prog_1_method_11_code
  | 84 => prog_1_method_12_code
  | 85 => prog_1_method_13_code
  | 86 => prog_1_method_14_code
  | 87 => prog_1_method_15_code
  | 88 => prog_1_method_16_code
  | 89 => prog_1_method_17_code
  | 90 => prog_1_method_18_code
  | 91 => prog_1_method_19_code
  | 92 => prog_1_method_20_code
  | 93 => prog_1_method_21_code
  | 94 => prog_1_method_22_code
  | 95 => prog_1_method_23_code
  | 96 => prog_1_method_24_code
  | 97 => prog_1_method_25_code
  | 98 => prog_1_method_26_code
  | 99 => prog_1_method_27_code
  | 100 => prog_1_method_28_code
  | 101 => prog_1_method_29_code
  | 102 => prog_1_method_30_code
  | 103 => prog_1_method_31_code
  | 104 => prog_1_method_32_code
  | 105 => prog_1_method_33_code
  | 106 => prog_1_method_34_code
  | 107 => prog_1_method_35_code
  | 108 => prog_1_method_36_code
  | 109 => prog_1_method_37_code
  | 110 => prog_1_method_38_code
  | 111 => prog_13_method_1_code
  | 112 => prog_13_method_2_code
  | 113 => prog_13_method_3_code
  | 114 => prog_13_method_4_code
  | 115 => prog_13_method_5_code
  | 116 => prog_13_method_6_code
  | 117 => prog_13_method_7_code
  | 118 => prog_13_method_8_code
  | 119 => prog_13_method_9_code
  | 120 => prog_13_method_10_code
  | 121 => prog_13_method_11_code
  | 122 => prog_13_method_12_code
  | 123 => prog_13_method_13_code
  | 124 => prog_13_method_14_code
  | 125 => prog_13_method_15_code
  | 126 => prog_13_method_16_code
  | 127 => prog_13_method_17_code
  | 128 => prog_13_method_18_code
  | 129 => prog_13_method_19_code
  | 130 => prog_13_method_20_code
  | 131 => prog_13_method_21_code
  | 132 => prog_13_method_22_code
  | 133 => prog_13_method_23_code
  | 134 => prog_13_method_24_code
  | 135 => prog_13_method_25_code
  | 136 => prog_13_method_26_code
  | 137 => prog_13_method_27_code
  | 138 => prog_13_method_28_code
  | 139 => prog_13_method_29_code
  | 140 => prog_13_method_30_code
  | 141 => prog_13_method_31_code
  | 142 => prog_13_method_32_code
  | 143 => prog_13_method_33_code
  | 144 => prog_13_method_34_code
  | 145 => prog_13_method_35_code
  | 146 => prog_13_method_36_code
  | 147 => prog_13_method_37_code
  | 148 => prog_13_method_38_code
  | 149 => prog_13_method_39_code
  | 150 => prog_13_method_40_code
  | 151 => prog_13_method_41_code
  | 152 => prog_13_method_42_code
  | 153 => prog_13_method_43_code
  | 154 => prog_13_method_44_code
  | 155 => prog_13_method_45_code
  | 156 => prog_13_method_46_code
  | 157 => prog_13_method_47_code
  | 158 => prog_13_method_48_code
  | 159 => prog_13_method_49_code
  | 160 => prog_13_method_50_code
  | 161 => prog_13_method_51_code
  | 162 => prog_13_method_52_code
  | 163 => prog_13_method_53_code
  | 164 => prog_13_method_54_code
  | 165 => prog_13_method_55_code
  | 166 => prog_13_method_56_code
  | 167 => prog_13_method_57_code
  | 168 => prog_13_method_58_code
  | 169 => prog_13_method_59_code
  | 170 => prog_13_method_60_code
  | 171 => prog_13_method_61_code
  | 172 => prog_13_method_62_code
  | 173 => prog_13_method_63_code
  | 174 => prog_13_method_64_code
  | 175 => prog_13_method_65_code
  | 176 => prog_13_method_66_code
  | 177 => prog_13_method_67_code
  | 178 => prog_13_method_68_code
  | 179 => prog_13_method_69_code
  | 180 => prog_13_method_70_code
  | 181 => prog_13_method_71_code
  | 182 => prog_13_method_72_code
  | 183 => prog_13_method_73_code
  | 184 => prog_13_method_74_code
  | 185 => prog_13_method_75_code
  | 186 => prog_13_method_76_code
  | 187 => prog_13_method_77_code
  | 188 => prog_13_method_78_code
  | 189 => prog_13_method_79_code
  | 190 => prog_13_method_80_code
  | 191 => prog_13_method_81_code
  | 192 => prog_13_method_82_code
  | 193 => prog_13_method_83_code
  | 194 => prog_13_method_84_code
  | 195 => prog_13_method_85_code
  | 196 => prog_13_method_86_code
  | 197 => prog_13_method_87_code
  | 198 => prog_15_method_49_code
  | 199 => prog_21_method_101_code
  | 200 => prog_21_method_103_code
  | 201 => prog_21_method_123_code
  | 202 => prog_3_method_3_code
  | _ => code
def vm_x : Nat → Nat := fun i => match i with
  | 0 => 1
  | 1 => 4
  | 2 => 3
  | 3 => 2
  | 4 => 4
  | 5 => 5
  | 6 => 4
  | 7 => 5
  | 8 => 5
  | 9 => 2
  | 10 => 1
  | 11 => 7
  | 12 => 7
  | 13 => 6
  | 14 => 6
  | 15 => 9
  | 16 => 1
  | 17 => 10
  | 18 => 5
  | 19 => 5
  | 20 => 1
  | 21 => 4
  | 22 => 3
  | 23 => 6
  | 24 => 6
  | 25 => 4
  | 26 => 7
  | 27 => 17
  | 28 => 2
  | 29 => 4
  | 30 => 1
  | 31 => 4
  | 32 => 1
  | 33 => 2
  | 34 => 2
  | 35 => 2
  | 36 => 1
  | 37 => 2
  | 38 => 1
  | 39 => 3
  | 40 => 1
  | 41 => 2
  | 42 => 2
  | 43 => 1
  | 44 => 3
  | 45 => 4
  | 46 => 4
  | 47 => 4
  | 48 => 3
  | 49 => 3
  | 50 => 3
  | 51 => 1
  | 52 => 4
  | 53 => 5
  | 54 => 2
  | 55 => 2
  | 56 => 6
  | 57 => 4
  | 58 => 1
  | 59 => 3
  | 60 => 4
  | 61 => 5
  | 62 => 4
  | 63 => 5
  | 64 => 8
  | 65 => 8
  | 66 => 6
  | 67 => 8
  | 68 => 5
  | 69 => 9
  | 70 => 9
  | 71 => 13
  | 72 => 7
  | 73 => 1
  | 74 => 2
  | 75 => 4
  | 76 => 3
  | 77 => 4
  | 78 => 3
  | 79 => 5
  | 80 => 5
  | 81 => 4
  | 82 => 3
  | 83 => 6
  | 84 => 3
  | 85 => 2
  | 86 => 1
  | 87 => 4
  | 88 => 4
  | 89 => 5
  | 90 => 5
  | 91 => 6
  | 92 => 7
  | 93 => 3
  | 94 => 2
  | 95 => 3
  | 96 => 4
  | 97 => 6
  | 98 => 8
  | 99 => 10
  | 100 => 7
  | 101 => 2
  | 102 => 2
  | 103 => 1
  | 104 => 1
  | 105 => 2
  | 106 => 2
  | 107 => 3
  | 108 => 3
  | 109 => 5
  | 110 => 9
  | 111 => 1
  | 112 => 3
  | 113 => 1
  | 114 => 1
  | 115 => 1
  | 116 => 2
  | 117 => 2
  | 118 => 1
  | 119 => 4
  | 120 => 3
  | 121 => 4
  | 122 => 3
  | 123 => 6
  | 124 => 3
  | 125 => 5
  | 126 => 7
  | 127 => 5
  | 128 => 3
  | 129 => 4
  | 130 => 3
  | 131 => 5
  | 132 => 8
  | 133 => 5
  | 134 => 6
  | 135 => 3
  | 136 => 1
  | 137 => 3
  | 138 => 3
  | 139 => 2
  | 140 => 3
  | 141 => 2
  | 142 => 2
  | 143 => 4
  | 144 => 3
  | 145 => 1
  | 146 => 5
  | 147 => 2
  | 148 => 2
  | 149 => 2
  | 150 => 1
  | 151 => 1
  | 152 => 4
  | 153 => 4
  | 154 => 3
  | 155 => 3
  | 156 => 7
  | 157 => 3
  | 158 => 2
  | 159 => 1
  | 160 => 5
  | 161 => 5
  | 162 => 4
  | 163 => 4
  | 164 => 5
  | 165 => 2
  | 166 => 1
  | 167 => 5
  | 168 => 7
  | 169 => 1
  | 170 => 11
  | 171 => 8
  | 172 => 6
  | 173 => 4
  | 174 => 12
  | 175 => 13
  | 176 => 6
  | 177 => 3
  | 178 => 4
  | 179 => 6
  | 180 => 6
  | 181 => 6
  | 182 => 5
  | 183 => 5
  | 184 => 6
  | 185 => 3
  | 186 => 11
  | 187 => 2
  | 188 => 3
  | 189 => 4
  | 190 => 6
  | 191 => 20
  | 192 => 9
  | 193 => 7
  | 194 => 3
  | 195 => 6
  | 196 => 3
  | 197 => 4
  | 198 => 1
  | 199 => 5
  | 200 => 4
  | 201 => 3
  | 202 => 3
  | _ => 4
def vm_r : Nat → Option FieldType := fun i => match i with
  | 0 => none
  | 1 => (some (.int))
  | 2 => (some (.boolean))
  | 3 => (some (.boolean))
  | 4 => (some (.int))
  | 5 => (some (.int))
  | 6 => (some (.int))
  | 7 => (some (.int))
  | 8 => none
  | 9 => (some (.int))
  | 10 => none
  | 11 => (some (.int))
  | 12 => (some (.int))
  | 13 => (some (.int))
  | 14 => (some (.int))
  | 15 => (some (.boolean))
  | 16 => none
  | 17 => (some (.long))
  | 18 => (some (.long))
  | 19 => (some (.long))
  | 20 => none
  | 21 => (some (.int))
  | 22 => (some (.boolean))
  | 23 => (some (.long))
  | 24 => (some (.long))
  | 25 => none
  | 26 => none
  | 27 => none
  | 28 => (some (.long))
  | 29 => none
  | 30 => none
  | 31 => (some (.int))
  | 32 => none
  | 33 => none
  | 34 => none
  | 35 => none
  | 36 => (some (.boolean))
  | 37 => none
  | 38 => none
  | 39 => none
  | 40 => none
  | 41 => none
  | 42 => (some (.int))
  | 43 => none
  | 44 => none
  | 45 => none
  | 46 => none
  | 47 => none
  | 48 => none
  | 49 => none
  | 50 => none
  | 51 => none
  | 52 => none
  | 53 => none
  | 54 => none
  | 55 => (some (.int))
  | 56 => (some (.object "PupilCoin$Law"))
  | 57 => none
  | 58 => none
  | 59 => none
  | 60 => none
  | 61 => none
  | 62 => none
  | 63 => none
  | 64 => none
  | 65 => (some (.long))
  | 66 => (some (.long))
  | 67 => none
  | 68 => none
  | 69 => none
  | 70 => none
  | 71 => none
  | 72 => (some (.long))
  | 73 => none
  | 74 => (some (.boolean))
  | 75 => (some (.int))
  | 76 => (some (.boolean))
  | 77 => (some (.boolean))
  | 78 => (some (.int))
  | 79 => (some (.int))
  | 80 => (some (.int))
  | 81 => (some (.int))
  | 82 => (some (.int))
  | 83 => (some (.int))
  | 84 => (some (.int))
  | 85 => (some (.int))
  | 86 => (some (.int))
  | 87 => (some (.int))
  | 88 => (some (.long))
  | 89 => (some (.long))
  | 90 => (some (.long))
  | 91 => (some (.long))
  | 92 => (some (.int))
  | 93 => (some (.boolean))
  | 94 => (some (.int))
  | 95 => (some (.long))
  | 96 => (some (.int))
  | 97 => (some (.long))
  | 98 => (some (.long))
  | 99 => (some (.int))
  | 100 => (some (.int))
  | 101 => (some (.int))
  | 102 => (some (.boolean))
  | 103 => (some (.boolean))
  | 104 => (some (.boolean))
  | 105 => (some (.boolean))
  | 106 => (some (.boolean))
  | 107 => none
  | 108 => (some (.boolean))
  | 109 => (some (.boolean))
  | 110 => (some (.boolean))
  | 111 => none
  | 112 => (some (.boolean))
  | 113 => (some (.int))
  | 114 => (some (.boolean))
  | 115 => (some (.boolean))
  | 116 => (some (.boolean))
  | 117 => (some (.boolean))
  | 118 => (some (.int))
  | 119 => (some (.int))
  | 120 => (some (.boolean))
  | 121 => (some (.boolean))
  | 122 => (some (.boolean))
  | 123 => (some (.int))
  | 124 => (some (.int))
  | 125 => (some (.int))
  | 126 => (some (.int))
  | 127 => (some (.int))
  | 128 => (some (.boolean))
  | 129 => (some (.int))
  | 130 => (some (.int))
  | 131 => (some (.boolean))
  | 132 => (some (.int))
  | 133 => (some (.int))
  | 134 => (some (.int))
  | 135 => none
  | 136 => none
  | 137 => (some (.long))
  | 138 => (some (.boolean))
  | 139 => (some (.boolean))
  | 140 => (some (.boolean))
  | 141 => (some (.int))
  | 142 => (some (.boolean))
  | 143 => (some (.int))
  | 144 => none
  | 145 => (some (.boolean))
  | 146 => (some (.boolean))
  | 147 => (some (.boolean))
  | 148 => (some (.boolean))
  | 149 => (some (.boolean))
  | 150 => (some (.boolean))
  | 151 => (some (.boolean))
  | 152 => (some (.boolean))
  | 153 => (some (.boolean))
  | 154 => (some (.boolean))
  | 155 => (some (.boolean))
  | 156 => none
  | 157 => (some (.int))
  | 158 => (some (.int))
  | 159 => (some (.int))
  | 160 => (some (.int))
  | 161 => (some (.int))
  | 162 => (some (.int))
  | 163 => (some (.int))
  | 164 => (some (.int))
  | 165 => (some (.long))
  | 166 => (some (.long))
  | 167 => (some (.long))
  | 168 => (some (.long))
  | 169 => (some (.int))
  | 170 => none
  | 171 => none
  | 172 => none
  | 173 => (some (.long))
  | 174 => none
  | 175 => (some (.long))
  | 176 => none
  | 177 => none
  | 178 => (some (.long))
  | 179 => (some (.long))
  | 180 => (some (.long))
  | 181 => (some (.long))
  | 182 => (some (.long))
  | 183 => (some (.long))
  | 184 => (some (.int))
  | 185 => (some (.boolean))
  | 186 => (some (.int))
  | 187 => none
  | 188 => (some (.long))
  | 189 => (some (.int))
  | 190 => (some (.long))
  | 191 => (some (.long))
  | 192 => (some (.int))
  | 193 => (some (.boolean))
  | 194 => (some (.int))
  | 195 => (some (.int))
  | 196 => (some (.int))
  | 197 => (some (.int))
  | 198 => (some (.int))
  | 199 => none
  | 200 => none
  | 201 => (some (.array (.int)))
  | 202 => (some (.int))
  | _ => (some (.boolean))
def vm_a : Nat → Nat := fun i => match i with
  | 0 => 0
  | 1 => 3
  | 2 => 2
  | 3 => 1
  | 4 => 3
  | 5 => 2
  | 6 => 1
  | 7 => 2
  | 8 => 4
  | 9 => 1
  | 10 => 0
  | 11 => 5
  | 12 => 4
  | 13 => 4
  | 14 => 3
  | 15 => 4
  | 16 => 0
  | 17 => 5
  | 18 => 4
  | 19 => 3
  | 20 => 0
  | 21 => 3
  | 22 => 2
  | 23 => 2
  | 24 => 2
  | 25 => 3
  | 26 => 3
  | 27 => 5
  | 28 => 1
  | 29 => 0
  | 30 => 0
  | 31 => 2
  | 32 => 0
  | 33 => 0
  | 34 => 0
  | 35 => 0
  | 36 => 1
  | 37 => 1
  | 38 => 0
  | 39 => 2
  | 40 => 0
  | 41 => 0
  | 42 => 0
  | 43 => 0
  | 44 => 2
  | 45 => 1
  | 46 => 1
  | 47 => 1
  | 48 => 1
  | 49 => 1
  | 50 => 1
  | 51 => 0
  | 52 => 3
  | 53 => 0
  | 54 => 1
  | 55 => 1
  | 56 => 2
  | 57 => 3
  | 58 => 0
  | 59 => 2
  | 60 => 3
  | 61 => 4
  | 62 => 1
  | 63 => 3
  | 64 => 3
  | 65 => 4
  | 66 => 2
  | 67 => 2
  | 68 => 2
  | 69 => 3
  | 70 => 3
  | 71 => 1
  | 72 => 2
  | 73 => 0
  | 74 => 1
  | 75 => 3
  | 76 => 2
  | 77 => 3
  | 78 => 2
  | 79 => 4
  | 80 => 4
  | 81 => 3
  | 82 => 2
  | 83 => 5
  | 84 => 2
  | 85 => 1
  | 86 => 0
  | 87 => 3
  | 88 => 3
  | 89 => 3
  | 90 => 2
  | 91 => 2
  | 92 => 5
  | 93 => 2
  | 94 => 1
  | 95 => 2
  | 96 => 1
  | 97 => 3
  | 98 => 5
  | 99 => 4
  | 100 => 2
  | 101 => 1
  | 102 => 2
  | 103 => 1
  | 104 => 1
  | 105 => 1
  | 106 => 1
  | 107 => 1
  | 108 => 2
  | 109 => 1
  | 110 => 1
  | 111 => 0
  | 112 => 3
  | 113 => 1
  | 114 => 1
  | 115 => 1
  | 116 => 1
  | 117 => 1
  | 118 => 0
  | 119 => 3
  | 120 => 2
  | 121 => 3
  | 122 => 2
  | 123 => 2
  | 124 => 2
  | 125 => 4
  | 126 => 4
  | 127 => 4
  | 128 => 2
  | 129 => 3
  | 130 => 2
  | 131 => 3
  | 132 => 5
  | 133 => 4
  | 134 => 5
  | 135 => 1
  | 136 => 0
  | 137 => 0
  | 138 => 1
  | 139 => 1
  | 140 => 1
  | 141 => 1
  | 142 => 1
  | 143 => 1
  | 144 => 2
  | 145 => 0
  | 146 => 0
  | 147 => 0
  | 148 => 0
  | 149 => 0
  | 150 => 0
  | 151 => 0
  | 152 => 1
  | 153 => 3
  | 154 => 1
  | 155 => 1
  | 156 => 2
  | 157 => 2
  | 158 => 1
  | 159 => 0
  | 160 => 2
  | 161 => 2
  | 162 => 3
  | 163 => 2
  | 164 => 3
  | 165 => 1
  | 166 => 1
  | 167 => 3
  | 168 => 3
  | 169 => 1
  | 170 => 5
  | 171 => 3
  | 172 => 3
  | 173 => 2
  | 174 => 3
  | 175 => 3
  | 176 => 1
  | 177 => 2
  | 178 => 3
  | 179 => 2
  | 180 => 2
  | 181 => 2
  | 182 => 2
  | 183 => 3
  | 184 => 5
  | 185 => 2
  | 186 => 1
  | 187 => 1
  | 188 => 2
  | 189 => 1
  | 190 => 3
  | 191 => 5
  | 192 => 4
  | 193 => 1
  | 194 => 1
  | 195 => 2
  | 196 => 0
  | 197 => 1
  | 198 => 1
  | 199 => 2
  | 200 => 2
  | 201 => 2
  | 202 => 1
  | _ => 1
def vm_o : Nat → Nat := fun i => match i with
  | 0 => 0
  | 1 => 0
  | 2 => 0
  | 3 => 0
  | 4 => 0
  | 5 => 0
  | 6 => 0
  | 7 => 0
  | 8 => 1
  | 9 => 1
  | 10 => 2
  | 11 => 2
  | 12 => 2
  | 13 => 2
  | 14 => 2
  | 15 => 2
  | 16 => 3
  | 17 => 3
  | 18 => 3
  | 19 => 3
  | 20 => 4
  | 21 => 4
  | 22 => 4
  | 23 => 4
  | 24 => 4
  | 25 => 5
  | 26 => 5
  | 27 => 5
  | 28 => 5
  | 29 => 6
  | 30 => 6
  | 31 => 6
  | 32 => 6
  | 33 => 6
  | 34 => 6
  | 35 => 6
  | 36 => 6
  | 37 => 6
  | 38 => 6
  | 39 => 6
  | 40 => 6
  | 41 => 6
  | 42 => 6
  | 43 => 6
  | 44 => 6
  | 45 => 6
  | 46 => 6
  | 47 => 6
  | 48 => 6
  | 49 => 6
  | 50 => 6
  | 51 => 7
  | 52 => 7
  | 53 => 7
  | 54 => 8
  | 55 => 8
  | 56 => 8
  | 57 => 9
  | 58 => 9
  | 59 => 9
  | 60 => 9
  | 61 => 9
  | 62 => 9
  | 63 => 9
  | 64 => 9
  | 65 => 9
  | 66 => 9
  | 67 => 9
  | 68 => 9
  | 69 => 9
  | 70 => 9
  | 71 => 9
  | 72 => 9
  | 73 => 10
  | 74 => 10
  | 75 => 10
  | 76 => 10
  | 77 => 10
  | 78 => 10
  | 79 => 10
  | 80 => 10
  | 81 => 10
  | 82 => 10
  | 83 => 10
  | 84 => 10
  | 85 => 10
  | 86 => 10
  | 87 => 10
  | 88 => 10
  | 89 => 10
  | 90 => 10
  | 91 => 10
  | 92 => 10
  | 93 => 10
  | 94 => 10
  | 95 => 10
  | 96 => 10
  | 97 => 10
  | 98 => 10
  | 99 => 10
  | 100 => 10
  | 101 => 10
  | 102 => 10
  | 103 => 10
  | 104 => 10
  | 105 => 10
  | 106 => 10
  | 107 => 10
  | 108 => 10
  | 109 => 10
  | 110 => 10
  | 111 => 11
  | 112 => 11
  | 113 => 11
  | 114 => 11
  | 115 => 11
  | 116 => 11
  | 117 => 11
  | 118 => 11
  | 119 => 11
  | 120 => 11
  | 121 => 11
  | 122 => 11
  | 123 => 11
  | 124 => 11
  | 125 => 11
  | 126 => 11
  | 127 => 11
  | 128 => 11
  | 129 => 11
  | 130 => 11
  | 131 => 11
  | 132 => 11
  | 133 => 11
  | 134 => 11
  | 135 => 11
  | 136 => 11
  | 137 => 11
  | 138 => 11
  | 139 => 11
  | 140 => 11
  | 141 => 11
  | 142 => 11
  | 143 => 11
  | 144 => 11
  | 145 => 11
  | 146 => 11
  | 147 => 11
  | 148 => 11
  | 149 => 11
  | 150 => 11
  | 151 => 11
  | 152 => 11
  | 153 => 11
  | 154 => 11
  | 155 => 11
  | 156 => 11
  | 157 => 11
  | 158 => 11
  | 159 => 11
  | 160 => 11
  | 161 => 11
  | 162 => 11
  | 163 => 11
  | 164 => 11
  | 165 => 11
  | 166 => 11
  | 167 => 11
  | 168 => 11
  | 169 => 11
  | 170 => 11
  | 171 => 11
  | 172 => 11
  | 173 => 11
  | 174 => 11
  | 175 => 11
  | 176 => 11
  | 177 => 11
  | 178 => 11
  | 179 => 11
  | 180 => 11
  | 181 => 11
  | 182 => 11
  | 183 => 11
  | 184 => 11
  | 185 => 11
  | 186 => 11
  | 187 => 11
  | 188 => 11
  | 189 => 11
  | 190 => 11
  | 191 => 11
  | 192 => 11
  | 193 => 11
  | 194 => 11
  | 195 => 11
  | 196 => 11
  | 197 => 11
  | 198 => 13
  | 199 => 14
  | 200 => 14
  | 201 => 14
  | 202 => 1
  | _ => 12
def vm_k : Nat → Nat := fun i => match i with
  | 0 => 2
  | 1 => 0
  | 2 => 0
  | 3 => 0
  | 4 => 0
  | 5 => 0
  | 6 => 0
  | 7 => 0
  | 8 => 2
  | 9 => 0
  | 10 => 2
  | 11 => 0
  | 12 => 0
  | 13 => 0
  | 14 => 0
  | 15 => 0
  | 16 => 2
  | 17 => 0
  | 18 => 0
  | 19 => 1
  | 20 => 2
  | 21 => 0
  | 22 => 0
  | 23 => 0
  | 24 => 0
  | 25 => 2
  | 26 => 0
  | 27 => 0
  | 28 => 0
  | 29 => 2
  | 30 => 0
  | 31 => 0
  | 32 => 0
  | 33 => 0
  | 34 => 0
  | 35 => 0
  | 36 => 1
  | 37 => 0
  | 38 => 0
  | 39 => 0
  | 40 => 0
  | 41 => 0
  | 42 => 0
  | 43 => 0
  | 44 => 0
  | 45 => 0
  | 46 => 0
  | 47 => 0
  | 48 => 0
  | 49 => 0
  | 50 => 0
  | 51 => 2
  | 52 => 0
  | 53 => 0
  | 54 => 2
  | 55 => 0
  | 56 => 0
  | 57 => 2
  | 58 => 0
  | 59 => 0
  | 60 => 0
  | 61 => 0
  | 62 => 0
  | 63 => 0
  | 64 => 0
  | 65 => 0
  | 66 => 0
  | 67 => 0
  | 68 => 0
  | 69 => 0
  | 70 => 0
  | 71 => 0
  | 72 => 0
  | 73 => 2
  | 74 => 0
  | 75 => 0
  | 76 => 0
  | 77 => 0
  | 78 => 0
  | 79 => 0
  | 80 => 0
  | 81 => 0
  | 82 => 0
  | 83 => 0
  | 84 => 0
  | 85 => 0
  | 86 => 0
  | 87 => 0
  | 88 => 0
  | 89 => 0
  | 90 => 0
  | 91 => 0
  | 92 => 0
  | 93 => 0
  | 94 => 0
  | 95 => 0
  | 96 => 0
  | 97 => 0
  | 98 => 0
  | 99 => 0
  | 100 => 0
  | 101 => 0
  | 102 => 1
  | 103 => 1
  | 104 => 1
  | 105 => 0
  | 106 => 0
  | 107 => 0
  | 108 => 0
  | 109 => 0
  | 110 => 0
  | 111 => 2
  | 112 => 1
  | 113 => 1
  | 114 => 1
  | 115 => 1
  | 116 => 0
  | 117 => 0
  | 118 => 0
  | 119 => 0
  | 120 => 0
  | 121 => 0
  | 122 => 0
  | 123 => 0
  | 124 => 0
  | 125 => 0
  | 126 => 0
  | 127 => 0
  | 128 => 0
  | 129 => 0
  | 130 => 0
  | 131 => 0
  | 132 => 0
  | 133 => 0
  | 134 => 0
  | 135 => 0
  | 136 => 0
  | 137 => 0
  | 138 => 0
  | 139 => 0
  | 140 => 0
  | 141 => 1
  | 142 => 1
  | 143 => 0
  | 144 => 0
  | 145 => 0
  | 146 => 0
  | 147 => 0
  | 148 => 0
  | 149 => 0
  | 150 => 0
  | 151 => 0
  | 152 => 0
  | 153 => 0
  | 154 => 0
  | 155 => 0
  | 156 => 0
  | 157 => 0
  | 158 => 0
  | 159 => 0
  | 160 => 0
  | 161 => 0
  | 162 => 0
  | 163 => 0
  | 164 => 0
  | 165 => 1
  | 166 => 1
  | 167 => 1
  | 168 => 0
  | 169 => 1
  | 170 => 0
  | 171 => 0
  | 172 => 0
  | 173 => 0
  | 174 => 0
  | 175 => 1
  | 176 => 0
  | 177 => 0
  | 178 => 0
  | 179 => 0
  | 180 => 0
  | 181 => 0
  | 182 => 0
  | 183 => 0
  | 184 => 0
  | 185 => 0
  | 186 => 0
  | 187 => 0
  | 188 => 0
  | 189 => 0
  | 190 => 0
  | 191 => 0
  | 192 => 0
  | 193 => 0
  | 194 => 1
  | 195 => 0
  | 196 => 0
  | 197 => 0
  | 198 => 1
  | 199 => 1
  | 200 => 1
  | 201 => 1
  | 202 => 0
  | _ => 1
-- 204 methods, the law last
theorem vt_m {w : Cond} (h : w ∈ lw_tbl) (g : goodWord w = true) : w ∈ vt := List.mem_filter.mpr ⟨h, g⟩
theorem vt_s1 {w : Cond} (h : w ∈ tables_1_1) : w ∈ lw_tbl := List.mem_append_right _ (List.mem_append_left _ h)
theorem vt_s2 {w : Cond} (h : w ∈ tables_1_2) : w ∈ lw_tbl := List.mem_append_right _ (List.mem_append_right _ (List.mem_append_left _ h))
theorem vt_s3 {w : Cond} (h : w ∈ tables_1_3) : w ∈ lw_tbl := List.mem_append_right _ (List.mem_append_right _ (List.mem_append_right _ (List.mem_append_left _ h)))
theorem vt_s4 {w : Cond} (h : w ∈ tables_1_4) : w ∈ lw_tbl := List.mem_append_right _ (List.mem_append_right _ (List.mem_append_right _ (List.mem_append_right _ (List.mem_append_left _ h))))
theorem vt_s5 {w : Cond} (h : w ∈ tables_1_5) : w ∈ lw_tbl := List.mem_append_right _ (List.mem_append_right _ (List.mem_append_right _ (List.mem_append_right _ (List.mem_append_right _ (List.mem_append_left _ h)))))
theorem vt_s6 {w : Cond} (h : w ∈ tables_1_6) : w ∈ lw_tbl := List.mem_append_right _ (List.mem_append_right _ (List.mem_append_right _ (List.mem_append_right _ (List.mem_append_right _ (List.mem_append_right _ (List.mem_append_left _ h))))))
theorem vt_s7 {w : Cond} (h : w ∈ tables_1_7) : w ∈ lw_tbl := List.mem_append_right _ (List.mem_append_right _ (List.mem_append_right _ (List.mem_append_right _ (List.mem_append_right _ (List.mem_append_right _ (List.mem_append_right _ (h)))))))
set_option maxRecDepth 100000 in
theorem vm_c0 : Cond.code (vm_y 0) (vm_b 0) (vm_x 0) (vm_r 0) ∈ vt := vt_m (vt_s1 (List.mem_of_getElem? (i := 33) rfl)) rfl
set_option maxRecDepth 100000 in
theorem vm_c1 : Cond.code (vm_y 1) (vm_b 1) (vm_x 1) (vm_r 1) ∈ vt := vt_m (vt_s3 (List.mem_of_getElem? (i := 28) rfl)) rfl
set_option maxRecDepth 100000 in
theorem vm_c2 : Cond.code (vm_y 2) (vm_b 2) (vm_x 2) (vm_r 2) ∈ vt := vt_m (vt_s3 (List.mem_of_getElem? (i := 55) rfl)) rfl
set_option maxRecDepth 100000 in
theorem vm_c3 : Cond.code (vm_y 3) (vm_b 3) (vm_x 3) (vm_r 3) ∈ vt := vt_m (vt_s3 (List.mem_of_getElem? (i := 98) rfl)) rfl
set_option maxRecDepth 100000 in
theorem vm_c4 : Cond.code (vm_y 4) (vm_b 4) (vm_x 4) (vm_r 4) ∈ vt := vt_m (vt_s3 (List.mem_of_getElem? (i := 102) rfl)) rfl
set_option maxRecDepth 100000 in
theorem vm_c5 : Cond.code (vm_y 5) (vm_b 5) (vm_x 5) (vm_r 5) ∈ vt := vt_m (vt_s4 (List.mem_of_getElem? (i := 9) rfl)) rfl
set_option maxRecDepth 100000 in
theorem vm_c6 : Cond.code (vm_y 6) (vm_b 6) (vm_x 6) (vm_r 6) ∈ vt := vt_m (vt_s5 (List.mem_of_getElem? (i := 8) rfl)) rfl
set_option maxRecDepth 100000 in
theorem vm_c7 : Cond.code (vm_y 7) (vm_b 7) (vm_x 7) (vm_r 7) ∈ vt := vt_m (vt_s3 (List.mem_of_getElem? (i := 59) rfl)) rfl
set_option maxRecDepth 100000 in
theorem vm_c8 : Cond.code (vm_y 8) (vm_b 8) (vm_x 8) (vm_r 8) ∈ vt := vt_m (vt_s2 (List.mem_of_getElem? (i := 6) rfl)) rfl
set_option maxRecDepth 100000 in
theorem vm_c9 : Cond.code (vm_y 9) (vm_b 9) (vm_x 9) (vm_r 9) ∈ vt := vt_m (vt_s3 (List.mem_of_getElem? (i := 223) rfl)) rfl
set_option maxRecDepth 100000 in
theorem vm_c10 : Cond.code (vm_y 10) (vm_b 10) (vm_x 10) (vm_r 10) ∈ vt := vt_m (vt_s1 (List.mem_of_getElem? (i := 95) rfl)) rfl
set_option maxRecDepth 100000 in
theorem vm_c11 : Cond.code (vm_y 11) (vm_b 11) (vm_x 11) (vm_r 11) ∈ vt := vt_m (vt_s3 (List.mem_of_getElem? (i := 75) rfl)) rfl
set_option maxRecDepth 100000 in
theorem vm_c12 : Cond.code (vm_y 12) (vm_b 12) (vm_x 12) (vm_r 12) ∈ vt := vt_m (vt_s3 (List.mem_of_getElem? (i := 86) rfl)) rfl
set_option maxRecDepth 100000 in
theorem vm_c13 : Cond.code (vm_y 13) (vm_b 13) (vm_x 13) (vm_r 13) ∈ vt := vt_m (vt_s4 (List.mem_of_getElem? (i := 217) rfl)) rfl
set_option maxRecDepth 100000 in
theorem vm_c14 : Cond.code (vm_y 14) (vm_b 14) (vm_x 14) (vm_r 14) ∈ vt := vt_m (vt_s4 (List.mem_of_getElem? (i := 230) rfl)) rfl
set_option maxRecDepth 100000 in
theorem vm_c15 : Cond.code (vm_y 15) (vm_b 15) (vm_x 15) (vm_r 15) ∈ vt := vt_m (vt_s5 (List.mem_of_getElem? (i := 0) rfl)) rfl
set_option maxRecDepth 100000 in
theorem vm_c16 : Cond.code (vm_y 16) (vm_b 16) (vm_x 16) (vm_r 16) ∈ vt := vt_m (vt_s2 (List.mem_of_getElem? (i := 92) rfl)) rfl
set_option maxRecDepth 100000 in
theorem vm_c17 : Cond.code (vm_y 17) (vm_b 17) (vm_x 17) (vm_r 17) ∈ vt := vt_m (vt_s4 (List.mem_of_getElem? (i := 41) rfl)) rfl
set_option maxRecDepth 100000 in
theorem vm_c18 : Cond.code (vm_y 18) (vm_b 18) (vm_x 18) (vm_r 18) ∈ vt := vt_m (vt_s4 (List.mem_of_getElem? (i := 46) rfl)) rfl
set_option maxRecDepth 100000 in
theorem vm_c19 : Cond.code (vm_y 19) (vm_b 19) (vm_x 19) (vm_r 19) ∈ vt := vt_m (vt_s4 (List.mem_of_getElem? (i := 49) rfl)) rfl
set_option maxRecDepth 100000 in
theorem vm_c20 : Cond.code (vm_y 20) (vm_b 20) (vm_x 20) (vm_r 20) ∈ vt := vt_m (vt_s2 (List.mem_of_getElem? (i := 173) rfl)) rfl
set_option maxRecDepth 100000 in
theorem vm_c21 : Cond.code (vm_y 21) (vm_b 21) (vm_x 21) (vm_r 21) ∈ vt := vt_m (vt_s4 (List.mem_of_getElem? (i := 108) rfl)) rfl
set_option maxRecDepth 100000 in
theorem vm_c22 : Cond.code (vm_y 22) (vm_b 22) (vm_x 22) (vm_r 22) ∈ vt := vt_m (vt_s4 (List.mem_of_getElem? (i := 116) rfl)) rfl
set_option maxRecDepth 100000 in
theorem vm_c23 : Cond.code (vm_y 23) (vm_b 23) (vm_x 23) (vm_r 23) ∈ vt := vt_m (vt_s4 (List.mem_of_getElem? (i := 136) rfl)) rfl
set_option maxRecDepth 100000 in
theorem vm_c24 : Cond.code (vm_y 24) (vm_b 24) (vm_x 24) (vm_r 24) ∈ vt := vt_m (vt_s4 (List.mem_of_getElem? (i := 87) rfl)) rfl
set_option maxRecDepth 100000 in
theorem vm_c25 : Cond.code (vm_y 25) (vm_b 25) (vm_x 25) (vm_r 25) ∈ vt := vt_m (vt_s4 (List.mem_of_getElem? (i := 168) rfl)) rfl
set_option maxRecDepth 100000 in
theorem vm_c26 : Cond.code (vm_y 26) (vm_b 26) (vm_x 26) (vm_r 26) ∈ vt := vt_m (vt_s4 (List.mem_of_getElem? (i := 199) rfl)) rfl
set_option maxRecDepth 100000 in
theorem vm_c27 : Cond.code (vm_y 27) (vm_b 27) (vm_x 27) (vm_r 27) ∈ vt := vt_m (vt_s4 (List.mem_of_getElem? (i := 203) rfl)) rfl
set_option maxRecDepth 100000 in
theorem vm_c28 : Cond.code (vm_y 28) (vm_b 28) (vm_x 28) (vm_r 28) ∈ vt := vt_m (vt_s4 (List.mem_of_getElem? (i := 209) rfl)) rfl
set_option maxRecDepth 100000 in
theorem vm_c29 : Cond.code (vm_y 29) (vm_b 29) (vm_x 29) (vm_r 29) ∈ vt := vt_m (vt_s1 (List.mem_of_getElem? (i := 121) rfl)) rfl
set_option maxRecDepth 100000 in
theorem vm_c30 : Cond.code (vm_y 30) (vm_b 30) (vm_x 30) (vm_r 30) ∈ vt := vt_m (vt_s1 (List.mem_of_getElem? (i := 177) rfl)) rfl
set_option maxRecDepth 100000 in
theorem vm_c31 : Cond.code (vm_y 31) (vm_b 31) (vm_x 31) (vm_r 31) ∈ vt := vt_m (vt_s3 (List.mem_of_getElem? (i := 122) rfl)) rfl
set_option maxRecDepth 100000 in
theorem vm_c32 : Cond.code (vm_y 32) (vm_b 32) (vm_x 32) (vm_r 32) ∈ vt := vt_m (vt_s3 (List.mem_of_getElem? (i := 154) rfl)) rfl
set_option maxRecDepth 100000 in
theorem vm_c33 : Cond.code (vm_y 33) (vm_b 33) (vm_x 33) (vm_r 33) ∈ vt := vt_m (vt_s3 (List.mem_of_getElem? (i := 127) rfl)) rfl
set_option maxRecDepth 100000 in
theorem vm_c34 : Cond.code (vm_y 34) (vm_b 34) (vm_x 34) (vm_r 34) ∈ vt := vt_m (vt_s3 (List.mem_of_getElem? (i := 131) rfl)) rfl
set_option maxRecDepth 100000 in
theorem vm_c35 : Cond.code (vm_y 35) (vm_b 35) (vm_x 35) (vm_r 35) ∈ vt := vt_m (vt_s3 (List.mem_of_getElem? (i := 135) rfl)) rfl
set_option maxRecDepth 100000 in
theorem vm_c36 : Cond.code (vm_y 36) (vm_b 36) (vm_x 36) (vm_r 36) ∈ vt := vt_m (vt_s3 (List.mem_of_getElem? (i := 138) rfl)) rfl
set_option maxRecDepth 100000 in
theorem vm_c37 : Cond.code (vm_y 37) (vm_b 37) (vm_x 37) (vm_r 37) ∈ vt := vt_m (vt_s3 (List.mem_of_getElem? (i := 158) rfl)) rfl
set_option maxRecDepth 100000 in
theorem vm_c38 : Cond.code (vm_y 38) (vm_b 38) (vm_x 38) (vm_r 38) ∈ vt := vt_m (vt_s3 (List.mem_of_getElem? (i := 142) rfl)) rfl
set_option maxRecDepth 100000 in
theorem vm_c39 : Cond.code (vm_y 39) (vm_b 39) (vm_x 39) (vm_r 39) ∈ vt := vt_m (vt_s3 (List.mem_of_getElem? (i := 190) rfl)) rfl
set_option maxRecDepth 100000 in
theorem vm_c40 : Cond.code (vm_y 40) (vm_b 40) (vm_x 40) (vm_r 40) ∈ vt := vt_m (vt_s3 (List.mem_of_getElem? (i := 195) rfl)) rfl
set_option maxRecDepth 100000 in
theorem vm_c41 : Cond.code (vm_y 41) (vm_b 41) (vm_x 41) (vm_r 41) ∈ vt := vt_m (vt_s3 (List.mem_of_getElem? (i := 199) rfl)) rfl
set_option maxRecDepth 100000 in
theorem vm_c42 : Cond.code (vm_y 42) (vm_b 42) (vm_x 42) (vm_r 42) ∈ vt := vt_m (vt_s3 (List.mem_of_getElem? (i := 150) rfl)) rfl
set_option maxRecDepth 100000 in
theorem vm_c43 : Cond.code (vm_y 43) (vm_b 43) (vm_x 43) (vm_r 43) ∈ vt := vt_m (vt_s3 (List.mem_of_getElem? (i := 146) rfl)) rfl
set_option maxRecDepth 100000 in
theorem vm_c44 : Cond.code (vm_y 44) (vm_b 44) (vm_x 44) (vm_r 44) ∈ vt := vt_m (vt_s3 (List.mem_of_getElem? (i := 174) rfl)) rfl
set_option maxRecDepth 100000 in
theorem vm_c45 : Cond.code (vm_y 45) (vm_b 45) (vm_x 45) (vm_r 45) ∈ vt := vt_m (vt_s3 (List.mem_of_getElem? (i := 162) rfl)) rfl
set_option maxRecDepth 100000 in
theorem vm_c46 : Cond.code (vm_y 46) (vm_b 46) (vm_x 46) (vm_r 46) ∈ vt := vt_m (vt_s3 (List.mem_of_getElem? (i := 166) rfl)) rfl
set_option maxRecDepth 100000 in
theorem vm_c47 : Cond.code (vm_y 47) (vm_b 47) (vm_x 47) (vm_r 47) ∈ vt := vt_m (vt_s3 (List.mem_of_getElem? (i := 170) rfl)) rfl
set_option maxRecDepth 100000 in
theorem vm_c48 : Cond.code (vm_y 48) (vm_b 48) (vm_x 48) (vm_r 48) ∈ vt := vt_m (vt_s3 (List.mem_of_getElem? (i := 178) rfl)) rfl
set_option maxRecDepth 100000 in
theorem vm_c49 : Cond.code (vm_y 49) (vm_b 49) (vm_x 49) (vm_r 49) ∈ vt := vt_m (vt_s3 (List.mem_of_getElem? (i := 182) rfl)) rfl
set_option maxRecDepth 100000 in
theorem vm_c50 : Cond.code (vm_y 50) (vm_b 50) (vm_x 50) (vm_r 50) ∈ vt := vt_m (vt_s3 (List.mem_of_getElem? (i := 186) rfl)) rfl
set_option maxRecDepth 100000 in
theorem vm_c51 : Cond.code (vm_y 51) (vm_b 51) (vm_x 51) (vm_r 51) ∈ vt := vt_m (vt_s1 (List.mem_of_getElem? (i := 39) rfl)) rfl
set_option maxRecDepth 100000 in
theorem vm_c52 : Cond.code (vm_y 52) (vm_b 52) (vm_x 52) (vm_r 52) ∈ vt := vt_m (vt_s3 (List.mem_of_getElem? (i := 40) rfl)) rfl
set_option maxRecDepth 100000 in
theorem vm_c53 : Cond.code (vm_y 53) (vm_b 53) (vm_x 53) (vm_r 53) ∈ vt := vt_m (vt_s3 (List.mem_of_getElem? (i := 63) rfl)) rfl
set_option maxRecDepth 100000 in
theorem vm_c54 : Cond.code (vm_y 54) (vm_b 54) (vm_x 54) (vm_r 54) ∈ vt := vt_m (vt_s2 (List.mem_of_getElem? (i := 67) rfl)) rfl
set_option maxRecDepth 100000 in
theorem vm_c55 : Cond.code (vm_y 55) (vm_b 55) (vm_x 55) (vm_r 55) ∈ vt := vt_m (vt_s3 (List.mem_of_getElem? (i := 203) rfl)) rfl
set_option maxRecDepth 100000 in
theorem vm_c56 : Cond.code (vm_y 56) (vm_b 56) (vm_x 56) (vm_r 56) ∈ vt := vt_m (vt_s3 (List.mem_of_getElem? (i := 219) rfl)) rfl
set_option maxRecDepth 100000 in
theorem vm_c57 : Cond.code (vm_y 57) (vm_b 57) (vm_x 57) (vm_r 57) ∈ vt := vt_m (vt_s2 (List.mem_of_getElem? (i := 86) rfl)) rfl
set_option maxRecDepth 100000 in
theorem vm_c58 : Cond.code (vm_y 58) (vm_b 58) (vm_x 58) (vm_r 58) ∈ vt := vt_m (vt_s3 (List.mem_of_getElem? (i := 24) rfl)) rfl
set_option maxRecDepth 100000 in
theorem vm_c59 : Cond.code (vm_y 59) (vm_b 59) (vm_x 59) (vm_r 59) ∈ vt := vt_m (vt_s3 (List.mem_of_getElem? (i := 233) rfl)) rfl
set_option maxRecDepth 100000 in
theorem vm_c60 : Cond.code (vm_y 60) (vm_b 60) (vm_x 60) (vm_r 60) ∈ vt := vt_m (vt_s4 (List.mem_of_getElem? (i := 145) rfl)) rfl
set_option maxRecDepth 100000 in
theorem vm_c61 : Cond.code (vm_y 61) (vm_b 61) (vm_x 61) (vm_r 61) ∈ vt := vt_m (vt_s4 (List.mem_of_getElem? (i := 158) rfl)) rfl
set_option maxRecDepth 100000 in
theorem vm_c62 : Cond.code (vm_y 62) (vm_b 62) (vm_x 62) (vm_r 62) ∈ vt := vt_m (vt_s3 (List.mem_of_getElem? (i := 237) rfl)) rfl
set_option maxRecDepth 100000 in
theorem vm_c63 : Cond.code (vm_y 63) (vm_b 63) (vm_x 63) (vm_r 63) ∈ vt := vt_m (vt_s4 (List.mem_of_getElem? (i := 2) rfl)) rfl
set_option maxRecDepth 100000 in
theorem vm_c64 : Cond.code (vm_y 64) (vm_b 64) (vm_x 64) (vm_r 64) ∈ vt := vt_m (vt_s4 (List.mem_of_getElem? (i := 14) rfl)) rfl
set_option maxRecDepth 100000 in
theorem vm_c65 : Cond.code (vm_y 65) (vm_b 65) (vm_x 65) (vm_r 65) ∈ vt := vt_m (vt_s4 (List.mem_of_getElem? (i := 19) rfl)) rfl
set_option maxRecDepth 100000 in
theorem vm_c66 : Cond.code (vm_y 66) (vm_b 66) (vm_x 66) (vm_r 66) ∈ vt := vt_m (vt_s4 (List.mem_of_getElem? (i := 25) rfl)) rfl
set_option maxRecDepth 100000 in
theorem vm_c67 : Cond.code (vm_y 67) (vm_b 67) (vm_x 67) (vm_r 67) ∈ vt := vt_m (vt_s4 (List.mem_of_getElem? (i := 37) rfl)) rfl
set_option maxRecDepth 100000 in
theorem vm_c68 : Cond.code (vm_y 68) (vm_b 68) (vm_x 68) (vm_r 68) ∈ vt := vt_m (vt_s4 (List.mem_of_getElem? (i := 58) rfl)) rfl
set_option maxRecDepth 100000 in
theorem vm_c69 : Cond.code (vm_y 69) (vm_b 69) (vm_x 69) (vm_r 69) ∈ vt := vt_m (vt_s4 (List.mem_of_getElem? (i := 64) rfl)) rfl
set_option maxRecDepth 100000 in
theorem vm_c70 : Cond.code (vm_y 70) (vm_b 70) (vm_x 70) (vm_r 70) ∈ vt := vt_m (vt_s4 (List.mem_of_getElem? (i := 69) rfl)) rfl
set_option maxRecDepth 100000 in
theorem vm_c71 : Cond.code (vm_y 71) (vm_b 71) (vm_x 71) (vm_r 71) ∈ vt := vt_m (vt_s4 (List.mem_of_getElem? (i := 73) rfl)) rfl
set_option maxRecDepth 100000 in
theorem vm_c72 : Cond.code (vm_y 72) (vm_b 72) (vm_x 72) (vm_r 72) ∈ vt := vt_m (vt_s4 (List.mem_of_getElem? (i := 83) rfl)) rfl
set_option maxRecDepth 100000 in
theorem vm_c73 : Cond.code (vm_y 73) (vm_b 73) (vm_x 73) (vm_r 73) ∈ vt := vt_m (vt_s1 (List.mem_of_getElem? (i := 25) rfl)) rfl
set_option maxRecDepth 100000 in
theorem vm_c74 : Cond.code (vm_y 74) (vm_b 74) (vm_x 74) (vm_r 74) ∈ vt := vt_m (vt_s3 (List.mem_of_getElem? (i := 13) rfl)) rfl
set_option maxRecDepth 100000 in
theorem vm_c75 : Cond.code (vm_y 75) (vm_b 75) (vm_x 75) (vm_r 75) ∈ vt := vt_m (vt_s3 (List.mem_of_getElem? (i := 17) rfl)) rfl
set_option maxRecDepth 100000 in
theorem vm_c76 : Cond.code (vm_y 76) (vm_b 76) (vm_x 76) (vm_r 76) ∈ vt := vt_m (vt_s3 (List.mem_of_getElem? (i := 32) rfl)) rfl
set_option maxRecDepth 100000 in
theorem vm_c77 : Cond.code (vm_y 77) (vm_b 77) (vm_x 77) (vm_r 77) ∈ vt := vt_m (vt_s3 (List.mem_of_getElem? (i := 36) rfl)) rfl
set_option maxRecDepth 100000 in
theorem vm_c78 : Cond.code (vm_y 78) (vm_b 78) (vm_x 78) (vm_r 78) ∈ vt := vt_m (vt_s3 (List.mem_of_getElem? (i := 44) rfl)) rfl
set_option maxRecDepth 100000 in
theorem vm_c79 : Cond.code (vm_y 79) (vm_b 79) (vm_x 79) (vm_r 79) ∈ vt := vt_m (vt_s3 (List.mem_of_getElem? (i := 71) rfl)) rfl
set_option maxRecDepth 100000 in
theorem vm_c80 : Cond.code (vm_y 80) (vm_b 80) (vm_x 80) (vm_r 80) ∈ vt := vt_m (vt_s3 (List.mem_of_getElem? (i := 79) rfl)) rfl
set_option maxRecDepth 100000 in
theorem vm_c81 : Cond.code (vm_y 81) (vm_b 81) (vm_x 81) (vm_r 81) ∈ vt := vt_m (vt_s3 (List.mem_of_getElem? (i := 90) rfl)) rfl
set_option maxRecDepth 100000 in
theorem vm_c82 : Cond.code (vm_y 82) (vm_b 82) (vm_x 82) (vm_r 82) ∈ vt := vt_m (vt_s3 (List.mem_of_getElem? (i := 106) rfl)) rfl
set_option maxRecDepth 100000 in
theorem vm_c83 : Cond.code (vm_y 83) (vm_b 83) (vm_x 83) (vm_r 83) ∈ vt := vt_m (vt_s3 (List.mem_of_getElem? (i := 110) rfl)) rfl
set_option maxRecDepth 100000 in
theorem vm_c84 : Cond.code (vm_y 84) (vm_b 84) (vm_x 84) (vm_r 84) ∈ vt := vt_m (vt_s3 (List.mem_of_getElem? (i := 118) rfl)) rfl
set_option maxRecDepth 100000 in
theorem vm_c85 : Cond.code (vm_y 85) (vm_b 85) (vm_x 85) (vm_r 85) ∈ vt := vt_m (vt_s3 (List.mem_of_getElem? (i := 207) rfl)) rfl
set_option maxRecDepth 100000 in
theorem vm_c86 : Cond.code (vm_y 86) (vm_b 86) (vm_x 86) (vm_r 86) ∈ vt := vt_m (vt_s3 (List.mem_of_getElem? (i := 211) rfl)) rfl
set_option maxRecDepth 100000 in
theorem vm_c87 : Cond.code (vm_y 87) (vm_b 87) (vm_x 87) (vm_r 87) ∈ vt := vt_m (vt_s3 (List.mem_of_getElem? (i := 215) rfl)) rfl
set_option maxRecDepth 100000 in
theorem vm_c88 : Cond.code (vm_y 88) (vm_b 88) (vm_x 88) (vm_r 88) ∈ vt := vt_m (vt_s3 (List.mem_of_getElem? (i := 228) rfl)) rfl
set_option maxRecDepth 100000 in
theorem vm_c89 : Cond.code (vm_y 89) (vm_b 89) (vm_x 89) (vm_r 89) ∈ vt := vt_m (vt_s4 (List.mem_of_getElem? (i := 79) rfl)) rfl
set_option maxRecDepth 100000 in
theorem vm_c90 : Cond.code (vm_y 90) (vm_b 90) (vm_x 90) (vm_r 90) ∈ vt := vt_m (vt_s4 (List.mem_of_getElem? (i := 95) rfl)) rfl
set_option maxRecDepth 100000 in
theorem vm_c91 : Cond.code (vm_y 91) (vm_b 91) (vm_x 91) (vm_r 91) ∈ vt := vt_m (vt_s4 (List.mem_of_getElem? (i := 99) rfl)) rfl
set_option maxRecDepth 100000 in
theorem vm_c92 : Cond.code (vm_y 92) (vm_b 92) (vm_x 92) (vm_r 92) ∈ vt := vt_m (vt_s4 (List.mem_of_getElem? (i := 103) rfl)) rfl
set_option maxRecDepth 100000 in
theorem vm_c93 : Cond.code (vm_y 93) (vm_b 93) (vm_x 93) (vm_r 93) ∈ vt := vt_m (vt_s4 (List.mem_of_getElem? (i := 112) rfl)) rfl
set_option maxRecDepth 100000 in
theorem vm_c94 : Cond.code (vm_y 94) (vm_b 94) (vm_x 94) (vm_r 94) ∈ vt := vt_m (vt_s4 (List.mem_of_getElem? (i := 124) rfl)) rfl
set_option maxRecDepth 100000 in
theorem vm_c95 : Cond.code (vm_y 95) (vm_b 95) (vm_x 95) (vm_r 95) ∈ vt := vt_m (vt_s4 (List.mem_of_getElem? (i := 141) rfl)) rfl
set_option maxRecDepth 100000 in
theorem vm_c96 : Cond.code (vm_y 96) (vm_b 96) (vm_x 96) (vm_r 96) ∈ vt := vt_m (vt_s4 (List.mem_of_getElem? (i := 149) rfl)) rfl
set_option maxRecDepth 100000 in
theorem vm_c97 : Cond.code (vm_y 97) (vm_b 97) (vm_x 97) (vm_r 97) ∈ vt := vt_m (vt_s4 (List.mem_of_getElem? (i := 154) rfl)) rfl
set_option maxRecDepth 100000 in
theorem vm_c98 : Cond.code (vm_y 98) (vm_b 98) (vm_x 98) (vm_r 98) ∈ vt := vt_m (vt_s4 (List.mem_of_getElem? (i := 162) rfl)) rfl
set_option maxRecDepth 100000 in
theorem vm_c99 : Cond.code (vm_y 99) (vm_b 99) (vm_x 99) (vm_r 99) ∈ vt := vt_m (vt_s4 (List.mem_of_getElem? (i := 213) rfl)) rfl
set_option maxRecDepth 100000 in
theorem vm_c100 : Cond.code (vm_y 100) (vm_b 100) (vm_x 100) (vm_r 100) ∈ vt := vt_m (vt_s4 (List.mem_of_getElem? (i := 226) rfl)) rfl
set_option maxRecDepth 100000 in
theorem vm_c101 : Cond.code (vm_y 101) (vm_b 101) (vm_x 101) (vm_r 101) ∈ vt := vt_m (vt_s5 (List.mem_of_getElem? (i := 4) rfl)) rfl
set_option maxRecDepth 100000 in
theorem vm_c102 : Cond.code (vm_y 102) (vm_b 102) (vm_x 102) (vm_r 102) ∈ vt := vt_m (vt_s3 (List.mem_of_getElem? (i := 20) rfl)) rfl
set_option maxRecDepth 100000 in
theorem vm_c103 : Cond.code (vm_y 103) (vm_b 103) (vm_x 103) (vm_r 103) ∈ vt := vt_m (vt_s3 (List.mem_of_getElem? (i := 51) rfl)) rfl
set_option maxRecDepth 100000 in
theorem vm_c104 : Cond.code (vm_y 104) (vm_b 104) (vm_x 104) (vm_r 104) ∈ vt := vt_m (vt_s3 (List.mem_of_getElem? (i := 82) rfl)) rfl
set_option maxRecDepth 100000 in
theorem vm_c105 : Cond.code (vm_y 105) (vm_b 105) (vm_x 105) (vm_r 105) ∈ vt := vt_m (vt_s3 (List.mem_of_getElem? (i := 48) rfl)) rfl
set_option maxRecDepth 100000 in
theorem vm_c106 : Cond.code (vm_y 106) (vm_b 106) (vm_x 106) (vm_r 106) ∈ vt := vt_m (vt_s3 (List.mem_of_getElem? (i := 94) rfl)) rfl
set_option maxRecDepth 100000 in
theorem vm_c107 : Cond.code (vm_y 107) (vm_b 107) (vm_x 107) (vm_r 107) ∈ vt := vt_m (vt_s3 (List.mem_of_getElem? (i := 114) rfl)) rfl
set_option maxRecDepth 100000 in
theorem vm_c108 : Cond.code (vm_y 108) (vm_b 108) (vm_x 108) (vm_r 108) ∈ vt := vt_m (vt_s4 (List.mem_of_getElem? (i := 120) rfl)) rfl
set_option maxRecDepth 100000 in
theorem vm_c109 : Cond.code (vm_y 109) (vm_b 109) (vm_x 109) (vm_r 109) ∈ vt := vt_m (vt_s4 (List.mem_of_getElem? (i := 128) rfl)) rfl
set_option maxRecDepth 100000 in
theorem vm_c110 : Cond.code (vm_y 110) (vm_b 110) (vm_x 110) (vm_r 110) ∈ vt := vt_m (vt_s4 (List.mem_of_getElem? (i := 132) rfl)) rfl
set_option maxRecDepth 100000 in
theorem vm_c111 : Cond.code (vm_y 111) (vm_b 111) (vm_x 111) (vm_r 111) ∈ vt := vt_m (vt_s5 (List.mem_of_getElem? (i := 13) rfl)) rfl
set_option maxRecDepth 100000 in
theorem vm_c112 : Cond.code (vm_y 112) (vm_b 112) (vm_x 112) (vm_r 112) ∈ vt := vt_m (vt_s5 (List.mem_of_getElem? (i := 215) rfl)) rfl
set_option maxRecDepth 100000 in
theorem vm_c113 : Cond.code (vm_y 113) (vm_b 113) (vm_x 113) (vm_r 113) ∈ vt := vt_m (vt_s6 (List.mem_of_getElem? (i := 37) rfl)) rfl
set_option maxRecDepth 100000 in
theorem vm_c114 : Cond.code (vm_y 114) (vm_b 114) (vm_x 114) (vm_r 114) ∈ vt := vt_m (vt_s6 (List.mem_of_getElem? (i := 14) rfl)) rfl
set_option maxRecDepth 100000 in
theorem vm_c115 : Cond.code (vm_y 115) (vm_b 115) (vm_x 115) (vm_r 115) ∈ vt := vt_m (vt_s5 (List.mem_of_getElem? (i := 234) rfl)) rfl
set_option maxRecDepth 100000 in
theorem vm_c116 : Cond.code (vm_y 116) (vm_b 116) (vm_x 116) (vm_r 116) ∈ vt := vt_m (vt_s5 (List.mem_of_getElem? (i := 231) rfl)) rfl
set_option maxRecDepth 100000 in
theorem vm_c117 : Cond.code (vm_y 117) (vm_b 117) (vm_x 117) (vm_r 117) ∈ vt := vt_m (vt_s5 (List.mem_of_getElem? (i := 208) rfl)) rfl
set_option maxRecDepth 100000 in
theorem vm_c118 : Cond.code (vm_y 118) (vm_b 118) (vm_x 118) (vm_r 118) ∈ vt := vt_m (vt_s6 (List.mem_of_getElem? (i := 30) rfl)) rfl
set_option maxRecDepth 100000 in
theorem vm_c119 : Cond.code (vm_y 119) (vm_b 119) (vm_x 119) (vm_r 119) ∈ vt := vt_m (vt_s5 (List.mem_of_getElem? (i := 212) rfl)) rfl
set_option maxRecDepth 100000 in
theorem vm_c120 : Cond.code (vm_y 120) (vm_b 120) (vm_x 120) (vm_r 120) ∈ vt := vt_m (vt_s5 (List.mem_of_getElem? (i := 219) rfl)) rfl
set_option maxRecDepth 100000 in
theorem vm_c121 : Cond.code (vm_y 121) (vm_b 121) (vm_x 121) (vm_r 121) ∈ vt := vt_m (vt_s5 (List.mem_of_getElem? (i := 223) rfl)) rfl
set_option maxRecDepth 100000 in
theorem vm_c122 : Cond.code (vm_y 122) (vm_b 122) (vm_x 122) (vm_r 122) ∈ vt := vt_m (vt_s5 (List.mem_of_getElem? (i := 238) rfl)) rfl
set_option maxRecDepth 100000 in
theorem vm_c123 : Cond.code (vm_y 123) (vm_b 123) (vm_x 123) (vm_r 123) ∈ vt := vt_m (vt_s6 (List.mem_of_getElem? (i := 2) rfl)) rfl
set_option maxRecDepth 100000 in
theorem vm_c124 : Cond.code (vm_y 124) (vm_b 124) (vm_x 124) (vm_r 124) ∈ vt := vt_m (vt_s5 (List.mem_of_getElem? (i := 227) rfl)) rfl
set_option maxRecDepth 100000 in
theorem vm_c125 : Cond.code (vm_y 125) (vm_b 125) (vm_x 125) (vm_r 125) ∈ vt := vt_m (vt_s6 (List.mem_of_getElem? (i := 7) rfl)) rfl
set_option maxRecDepth 100000 in
theorem vm_c126 : Cond.code (vm_y 126) (vm_b 126) (vm_x 126) (vm_r 126) ∈ vt := vt_m (vt_s6 (List.mem_of_getElem? (i := 18) rfl)) rfl
set_option maxRecDepth 100000 in
theorem vm_c127 : Cond.code (vm_y 127) (vm_b 127) (vm_x 127) (vm_r 127) ∈ vt := vt_m (vt_s6 (List.mem_of_getElem? (i := 11) rfl)) rfl
set_option maxRecDepth 100000 in
theorem vm_c128 : Cond.code (vm_y 128) (vm_b 128) (vm_x 128) (vm_r 128) ∈ vt := vt_m (vt_s6 (List.mem_of_getElem? (i := 26) rfl)) rfl
set_option maxRecDepth 100000 in
theorem vm_c129 : Cond.code (vm_y 129) (vm_b 129) (vm_x 129) (vm_r 129) ∈ vt := vt_m (vt_s6 (List.mem_of_getElem? (i := 22) rfl)) rfl
set_option maxRecDepth 100000 in
theorem vm_c130 : Cond.code (vm_y 130) (vm_b 130) (vm_x 130) (vm_r 130) ∈ vt := vt_m (vt_s6 (List.mem_of_getElem? (i := 34) rfl)) rfl
set_option maxRecDepth 100000 in
theorem vm_c131 : Cond.code (vm_y 131) (vm_b 131) (vm_x 131) (vm_r 131) ∈ vt := vt_m (vt_s6 (List.mem_of_getElem? (i := 212) rfl)) rfl
set_option maxRecDepth 100000 in
theorem vm_c132 : Cond.code (vm_y 132) (vm_b 132) (vm_x 132) (vm_r 132) ∈ vt := vt_m (vt_s6 (List.mem_of_getElem? (i := 208) rfl)) rfl
set_option maxRecDepth 100000 in
theorem vm_c133 : Cond.code (vm_y 133) (vm_b 133) (vm_x 133) (vm_r 133) ∈ vt := vt_m (vt_s7 (List.mem_of_getElem? (i := 20) rfl)) rfl
set_option maxRecDepth 100000 in
theorem vm_c134 : Cond.code (vm_y 134) (vm_b 134) (vm_x 134) (vm_r 134) ∈ vt := vt_m (vt_s6 (List.mem_of_getElem? (i := 41) rfl)) rfl
set_option maxRecDepth 100000 in
theorem vm_c135 : Cond.code (vm_y 135) (vm_b 135) (vm_x 135) (vm_r 135) ∈ vt := vt_m (vt_s6 (List.mem_of_getElem? (i := 45) rfl)) rfl
set_option maxRecDepth 100000 in
theorem vm_c136 : Cond.code (vm_y 136) (vm_b 136) (vm_x 136) (vm_r 136) ∈ vt := vt_m (vt_s6 (List.mem_of_getElem? (i := 57) rfl)) rfl
set_option maxRecDepth 100000 in
theorem vm_c137 : Cond.code (vm_y 137) (vm_b 137) (vm_x 137) (vm_r 137) ∈ vt := vt_m (vt_s6 (List.mem_of_getElem? (i := 70) rfl)) rfl
set_option maxRecDepth 100000 in
theorem vm_c138 : Cond.code (vm_y 138) (vm_b 138) (vm_x 138) (vm_r 138) ∈ vt := vt_m (vt_s6 (List.mem_of_getElem? (i := 66) rfl)) rfl
set_option maxRecDepth 100000 in
theorem vm_c139 : Cond.code (vm_y 139) (vm_b 139) (vm_x 139) (vm_r 139) ∈ vt := vt_m (vt_s6 (List.mem_of_getElem? (i := 110) rfl)) rfl
set_option maxRecDepth 100000 in
theorem vm_c140 : Cond.code (vm_y 140) (vm_b 140) (vm_x 140) (vm_r 140) ∈ vt := vt_m (vt_s6 (List.mem_of_getElem? (i := 127) rfl)) rfl
set_option maxRecDepth 100000 in
theorem vm_c141 : Cond.code (vm_y 141) (vm_b 141) (vm_x 141) (vm_r 141) ∈ vt := vt_m (vt_s6 (List.mem_of_getElem? (i := 92) rfl)) rfl
set_option maxRecDepth 100000 in
theorem vm_c142 : Cond.code (vm_y 142) (vm_b 142) (vm_x 142) (vm_r 142) ∈ vt := vt_m (vt_s6 (List.mem_of_getElem? (i := 77) rfl)) rfl
set_option maxRecDepth 100000 in
theorem vm_c143 : Cond.code (vm_y 143) (vm_b 143) (vm_x 143) (vm_r 143) ∈ vt := vt_m (vt_s6 (List.mem_of_getElem? (i := 106) rfl)) rfl
set_option maxRecDepth 100000 in
theorem vm_c144 : Cond.code (vm_y 144) (vm_b 144) (vm_x 144) (vm_r 144) ∈ vt := vt_m (vt_s6 (List.mem_of_getElem? (i := 131) rfl)) rfl
set_option maxRecDepth 100000 in
theorem vm_c145 : Cond.code (vm_y 145) (vm_b 145) (vm_x 145) (vm_r 145) ∈ vt := vt_m (vt_s6 (List.mem_of_getElem? (i := 135) rfl)) rfl
set_option maxRecDepth 100000 in
theorem vm_c146 : Cond.code (vm_y 146) (vm_b 146) (vm_x 146) (vm_r 146) ∈ vt := vt_m (vt_s6 (List.mem_of_getElem? (i := 122) rfl)) rfl
set_option maxRecDepth 100000 in
theorem vm_c147 : Cond.code (vm_y 147) (vm_b 147) (vm_x 147) (vm_r 147) ∈ vt := vt_m (vt_s6 (List.mem_of_getElem? (i := 118) rfl)) rfl
set_option maxRecDepth 100000 in
theorem vm_c148 : Cond.code (vm_y 148) (vm_b 148) (vm_x 148) (vm_r 148) ∈ vt := vt_m (vt_s6 (List.mem_of_getElem? (i := 114) rfl)) rfl
set_option maxRecDepth 100000 in
theorem vm_c149 : Cond.code (vm_y 149) (vm_b 149) (vm_x 149) (vm_r 149) ∈ vt := vt_m (vt_s6 (List.mem_of_getElem? (i := 147) rfl)) rfl
set_option maxRecDepth 100000 in
theorem vm_c150 : Cond.code (vm_y 150) (vm_b 150) (vm_x 150) (vm_r 150) ∈ vt := vt_m (vt_s6 (List.mem_of_getElem? (i := 143) rfl)) rfl
set_option maxRecDepth 100000 in
theorem vm_c151 : Cond.code (vm_y 151) (vm_b 151) (vm_x 151) (vm_r 151) ∈ vt := vt_m (vt_s6 (List.mem_of_getElem? (i := 139) rfl)) rfl
set_option maxRecDepth 100000 in
theorem vm_c152 : Cond.code (vm_y 152) (vm_b 152) (vm_x 152) (vm_r 152) ∈ vt := vt_m (vt_s6 (List.mem_of_getElem? (i := 74) rfl)) rfl
set_option maxRecDepth 100000 in
theorem vm_c153 : Cond.code (vm_y 153) (vm_b 153) (vm_x 153) (vm_r 153) ∈ vt := vt_m (vt_s6 (List.mem_of_getElem? (i := 151) rfl)) rfl
set_option maxRecDepth 100000 in
theorem vm_c154 : Cond.code (vm_y 154) (vm_b 154) (vm_x 154) (vm_r 154) ∈ vt := vt_m (vt_s6 (List.mem_of_getElem? (i := 61) rfl)) rfl
set_option maxRecDepth 100000 in
theorem vm_c155 : Cond.code (vm_y 155) (vm_b 155) (vm_x 155) (vm_r 155) ∈ vt := vt_m (vt_s6 (List.mem_of_getElem? (i := 53) rfl)) rfl
set_option maxRecDepth 100000 in
theorem vm_c156 : Cond.code (vm_y 156) (vm_b 156) (vm_x 156) (vm_r 156) ∈ vt := vt_m (vt_s6 (List.mem_of_getElem? (i := 155) rfl)) rfl
set_option maxRecDepth 100000 in
theorem vm_c157 : Cond.code (vm_y 157) (vm_b 157) (vm_x 157) (vm_r 157) ∈ vt := vt_m (vt_s6 (List.mem_of_getElem? (i := 49) rfl)) rfl
set_option maxRecDepth 100000 in
theorem vm_c158 : Cond.code (vm_y 158) (vm_b 158) (vm_x 158) (vm_r 158) ∈ vt := vt_m (vt_s6 (List.mem_of_getElem? (i := 159) rfl)) rfl
set_option maxRecDepth 100000 in
theorem vm_c159 : Cond.code (vm_y 159) (vm_b 159) (vm_x 159) (vm_r 159) ∈ vt := vt_m (vt_s6 (List.mem_of_getElem? (i := 163) rfl)) rfl
set_option maxRecDepth 100000 in
theorem vm_c160 : Cond.code (vm_y 160) (vm_b 160) (vm_x 160) (vm_r 160) ∈ vt := vt_m (vt_s6 (List.mem_of_getElem? (i := 171) rfl)) rfl
set_option maxRecDepth 100000 in
theorem vm_c161 : Cond.code (vm_y 161) (vm_b 161) (vm_x 161) (vm_r 161) ∈ vt := vt_m (vt_s6 (List.mem_of_getElem? (i := 179) rfl)) rfl
set_option maxRecDepth 100000 in
theorem vm_c162 : Cond.code (vm_y 162) (vm_b 162) (vm_x 162) (vm_r 162) ∈ vt := vt_m (vt_s6 (List.mem_of_getElem? (i := 175) rfl)) rfl
set_option maxRecDepth 100000 in
theorem vm_c163 : Cond.code (vm_y 163) (vm_b 163) (vm_x 163) (vm_r 163) ∈ vt := vt_m (vt_s6 (List.mem_of_getElem? (i := 183) rfl)) rfl
set_option maxRecDepth 100000 in
theorem vm_c164 : Cond.code (vm_y 164) (vm_b 164) (vm_x 164) (vm_r 164) ∈ vt := vt_m (vt_s6 (List.mem_of_getElem? (i := 167) rfl)) rfl
set_option maxRecDepth 100000 in
theorem vm_c165 : Cond.code (vm_y 165) (vm_b 165) (vm_x 165) (vm_r 165) ∈ vt := vt_m (vt_s6 (List.mem_of_getElem? (i := 215) rfl)) rfl
set_option maxRecDepth 100000 in
theorem vm_c166 : Cond.code (vm_y 166) (vm_b 166) (vm_x 166) (vm_r 166) ∈ vt := vt_m (vt_s6 (List.mem_of_getElem? (i := 229) rfl)) rfl
set_option maxRecDepth 100000 in
theorem vm_c167 : Cond.code (vm_y 167) (vm_b 167) (vm_x 167) (vm_r 167) ∈ vt := vt_m (vt_s6 (List.mem_of_getElem? (i := 226) rfl)) rfl
set_option maxRecDepth 100000 in
theorem vm_c168 : Cond.code (vm_y 168) (vm_b 168) (vm_x 168) (vm_r 168) ∈ vt := vt_m (vt_s6 (List.mem_of_getElem? (i := 223) rfl)) rfl
set_option maxRecDepth 100000 in
theorem vm_c169 : Cond.code (vm_y 169) (vm_b 169) (vm_x 169) (vm_r 169) ∈ vt := vt_m (vt_s6 (List.mem_of_getElem? (i := 203) rfl)) rfl
set_option maxRecDepth 100000 in
theorem vm_c170 : Cond.code (vm_y 170) (vm_b 170) (vm_x 170) (vm_r 170) ∈ vt := vt_m (vt_s6 (List.mem_of_getElem? (i := 200) rfl)) rfl
set_option maxRecDepth 100000 in
theorem vm_c171 : Cond.code (vm_y 171) (vm_b 171) (vm_x 171) (vm_r 171) ∈ vt := vt_m (vt_s6 (List.mem_of_getElem? (i := 234) rfl)) rfl
set_option maxRecDepth 100000 in
theorem vm_c172 : Cond.code (vm_y 172) (vm_b 172) (vm_x 172) (vm_r 172) ∈ vt := vt_m (vt_s7 (List.mem_of_getElem? (i := 0) rfl)) rfl
set_option maxRecDepth 100000 in
theorem vm_c173 : Cond.code (vm_y 173) (vm_b 173) (vm_x 173) (vm_r 173) ∈ vt := vt_m (vt_s7 (List.mem_of_getElem? (i := 9) rfl)) rfl
set_option maxRecDepth 100000 in
theorem vm_c174 : Cond.code (vm_y 174) (vm_b 174) (vm_x 174) (vm_r 174) ∈ vt := vt_m (vt_s7 (List.mem_of_getElem? (i := 5) rfl)) rfl
set_option maxRecDepth 100000 in
theorem vm_c175 : Cond.code (vm_y 175) (vm_b 175) (vm_x 175) (vm_r 175) ∈ vt := vt_m (vt_s7 (List.mem_of_getElem? (i := 12) rfl)) rfl
set_option maxRecDepth 100000 in
theorem vm_c176 : Cond.code (vm_y 176) (vm_b 176) (vm_x 176) (vm_r 176) ∈ vt := vt_m (vt_s6 (List.mem_of_getElem? (i := 196) rfl)) rfl
set_option maxRecDepth 100000 in
theorem vm_c177 : Cond.code (vm_y 177) (vm_b 177) (vm_x 177) (vm_r 177) ∈ vt := vt_m (vt_s6 (List.mem_of_getElem? (i := 192) rfl)) rfl
set_option maxRecDepth 100000 in
theorem vm_c178 : Cond.code (vm_y 178) (vm_b 178) (vm_x 178) (vm_r 178) ∈ vt := vt_m (vt_s6 (List.mem_of_getElem? (i := 187) rfl)) rfl
set_option maxRecDepth 100000 in
theorem vm_c179 : Cond.code (vm_y 179) (vm_b 179) (vm_x 179) (vm_r 179) ∈ vt := vt_m (vt_s7 (List.mem_of_getElem? (i := 24) rfl)) rfl
set_option maxRecDepth 100000 in
theorem vm_c180 : Cond.code (vm_y 180) (vm_b 180) (vm_x 180) (vm_r 180) ∈ vt := vt_m (vt_s7 (List.mem_of_getElem? (i := 32) rfl)) rfl
set_option maxRecDepth 100000 in
theorem vm_c181 : Cond.code (vm_y 181) (vm_b 181) (vm_x 181) (vm_r 181) ∈ vt := vt_m (vt_s7 (List.mem_of_getElem? (i := 36) rfl)) rfl
set_option maxRecDepth 100000 in
theorem vm_c182 : Cond.code (vm_y 182) (vm_b 182) (vm_x 182) (vm_r 182) ∈ vt := vt_m (vt_s7 (List.mem_of_getElem? (i := 28) rfl)) rfl
set_option maxRecDepth 100000 in
theorem vm_c183 : Cond.code (vm_y 183) (vm_b 183) (vm_x 183) (vm_r 183) ∈ vt := vt_m (vt_s7 (List.mem_of_getElem? (i := 40) rfl)) rfl
set_option maxRecDepth 100000 in
theorem vm_c184 : Cond.code (vm_y 184) (vm_b 184) (vm_x 184) (vm_r 184) ∈ vt := vt_m (vt_s7 (List.mem_of_getElem? (i := 44) rfl)) rfl
set_option maxRecDepth 100000 in
theorem vm_c185 : Cond.code (vm_y 185) (vm_b 185) (vm_x 185) (vm_r 185) ∈ vt := vt_m (vt_s7 (List.mem_of_getElem? (i := 48) rfl)) rfl
set_option maxRecDepth 100000 in
theorem vm_c186 : Cond.code (vm_y 186) (vm_b 186) (vm_x 186) (vm_r 186) ∈ vt := vt_m (vt_s7 (List.mem_of_getElem? (i := 52) rfl)) rfl
set_option maxRecDepth 100000 in
theorem vm_c187 : Cond.code (vm_y 187) (vm_b 187) (vm_x 187) (vm_r 187) ∈ vt := vt_m (vt_s7 (List.mem_of_getElem? (i := 60) rfl)) rfl
set_option maxRecDepth 100000 in
theorem vm_c188 : Cond.code (vm_y 188) (vm_b 188) (vm_x 188) (vm_r 188) ∈ vt := vt_m (vt_s7 (List.mem_of_getElem? (i := 56) rfl)) rfl
set_option maxRecDepth 100000 in
theorem vm_c189 : Cond.code (vm_y 189) (vm_b 189) (vm_x 189) (vm_r 189) ∈ vt := vt_m (vt_s7 (List.mem_of_getElem? (i := 64) rfl)) rfl
set_option maxRecDepth 100000 in
theorem vm_c190 : Cond.code (vm_y 190) (vm_b 190) (vm_x 190) (vm_r 190) ∈ vt := vt_m (vt_s7 (List.mem_of_getElem? (i := 68) rfl)) rfl
set_option maxRecDepth 100000 in
theorem vm_c191 : Cond.code (vm_y 191) (vm_b 191) (vm_x 191) (vm_r 191) ∈ vt := vt_m (vt_s7 (List.mem_of_getElem? (i := 72) rfl)) rfl
set_option maxRecDepth 100000 in
theorem vm_c192 : Cond.code (vm_y 192) (vm_b 192) (vm_x 192) (vm_r 192) ∈ vt := vt_m (vt_s7 (List.mem_of_getElem? (i := 78) rfl)) rfl
set_option maxRecDepth 100000 in
theorem vm_c193 : Cond.code (vm_y 193) (vm_b 193) (vm_x 193) (vm_r 193) ∈ vt := vt_m (vt_s7 (List.mem_of_getElem? (i := 90) rfl)) rfl
set_option maxRecDepth 100000 in
theorem vm_c194 : Cond.code (vm_y 194) (vm_b 194) (vm_x 194) (vm_r 194) ∈ vt := vt_m (vt_s7 (List.mem_of_getElem? (i := 86) rfl)) rfl
set_option maxRecDepth 100000 in
theorem vm_c195 : Cond.code (vm_y 195) (vm_b 195) (vm_x 195) (vm_r 195) ∈ vt := vt_m (vt_s7 (List.mem_of_getElem? (i := 83) rfl)) rfl
set_option maxRecDepth 100000 in
theorem vm_c196 : Cond.code (vm_y 196) (vm_b 196) (vm_x 196) (vm_r 196) ∈ vt := vt_m (vt_s7 (List.mem_of_getElem? (i := 98) rfl)) rfl
set_option maxRecDepth 100000 in
theorem vm_c197 : Cond.code (vm_y 197) (vm_b 197) (vm_x 197) (vm_r 197) ∈ vt := vt_m (vt_s7 (List.mem_of_getElem? (i := 94) rfl)) rfl
set_option maxRecDepth 100000 in
theorem vm_c198 : Cond.code (vm_y 198) (vm_b 198) (vm_x 198) (vm_r 198) ∈ vt := vt_m (vt_s4 (List.mem_of_getElem? (i := 233) rfl)) rfl
set_option maxRecDepth 100000 in
theorem vm_c199 : Cond.code (vm_y 199) (vm_b 199) (vm_x 199) (vm_r 199) ∈ vt := vt_m (vt_s4 (List.mem_of_getElem? (i := 5) rfl)) rfl
set_option maxRecDepth 100000 in
theorem vm_c200 : Cond.code (vm_y 200) (vm_b 200) (vm_x 200) (vm_r 200) ∈ vt := vt_m (vt_s1 (List.mem_of_getElem? (i := 99) rfl)) rfl
set_option maxRecDepth 100000 in
theorem vm_c201 : Cond.code (vm_y 201) (vm_b 201) (vm_x 201) (vm_r 201) ∈ vt := vt_m (vt_s2 (List.mem_of_getElem? (i := 20) rfl)) rfl
set_option maxRecDepth 100000 in
theorem vm_c202 : Cond.code (vm_y 202) (vm_b 202) (vm_x 202) (vm_r 202) ∈ vt := vt_m (vt_s4 (List.mem_of_getElem? (i := 91) rfl)) rfl
theorem vm_code : ∀ i, i < 203 → Cond.code (vm_y i) (vm_b i) (vm_x i) (vm_r i) ∈ vt := fun i hi => match i with
  | 0 => vm_c0
  | 1 => vm_c1
  | 2 => vm_c2
  | 3 => vm_c3
  | 4 => vm_c4
  | 5 => vm_c5
  | 6 => vm_c6
  | 7 => vm_c7
  | 8 => vm_c8
  | 9 => vm_c9
  | 10 => vm_c10
  | 11 => vm_c11
  | 12 => vm_c12
  | 13 => vm_c13
  | 14 => vm_c14
  | 15 => vm_c15
  | 16 => vm_c16
  | 17 => vm_c17
  | 18 => vm_c18
  | 19 => vm_c19
  | 20 => vm_c20
  | 21 => vm_c21
  | 22 => vm_c22
  | 23 => vm_c23
  | 24 => vm_c24
  | 25 => vm_c25
  | 26 => vm_c26
  | 27 => vm_c27
  | 28 => vm_c28
  | 29 => vm_c29
  | 30 => vm_c30
  | 31 => vm_c31
  | 32 => vm_c32
  | 33 => vm_c33
  | 34 => vm_c34
  | 35 => vm_c35
  | 36 => vm_c36
  | 37 => vm_c37
  | 38 => vm_c38
  | 39 => vm_c39
  | 40 => vm_c40
  | 41 => vm_c41
  | 42 => vm_c42
  | 43 => vm_c43
  | 44 => vm_c44
  | 45 => vm_c45
  | 46 => vm_c46
  | 47 => vm_c47
  | 48 => vm_c48
  | 49 => vm_c49
  | 50 => vm_c50
  | 51 => vm_c51
  | 52 => vm_c52
  | 53 => vm_c53
  | 54 => vm_c54
  | 55 => vm_c55
  | 56 => vm_c56
  | 57 => vm_c57
  | 58 => vm_c58
  | 59 => vm_c59
  | 60 => vm_c60
  | 61 => vm_c61
  | 62 => vm_c62
  | 63 => vm_c63
  | 64 => vm_c64
  | 65 => vm_c65
  | 66 => vm_c66
  | 67 => vm_c67
  | 68 => vm_c68
  | 69 => vm_c69
  | 70 => vm_c70
  | 71 => vm_c71
  | 72 => vm_c72
  | 73 => vm_c73
  | 74 => vm_c74
  | 75 => vm_c75
  | 76 => vm_c76
  | 77 => vm_c77
  | 78 => vm_c78
  | 79 => vm_c79
  | 80 => vm_c80
  | 81 => vm_c81
  | 82 => vm_c82
  | 83 => vm_c83
  | 84 => vm_c84
  | 85 => vm_c85
  | 86 => vm_c86
  | 87 => vm_c87
  | 88 => vm_c88
  | 89 => vm_c89
  | 90 => vm_c90
  | 91 => vm_c91
  | 92 => vm_c92
  | 93 => vm_c93
  | 94 => vm_c94
  | 95 => vm_c95
  | 96 => vm_c96
  | 97 => vm_c97
  | 98 => vm_c98
  | 99 => vm_c99
  | 100 => vm_c100
  | 101 => vm_c101
  | 102 => vm_c102
  | 103 => vm_c103
  | 104 => vm_c104
  | 105 => vm_c105
  | 106 => vm_c106
  | 107 => vm_c107
  | 108 => vm_c108
  | 109 => vm_c109
  | 110 => vm_c110
  | 111 => vm_c111
  | 112 => vm_c112
  | 113 => vm_c113
  | 114 => vm_c114
  | 115 => vm_c115
  | 116 => vm_c116
  | 117 => vm_c117
  | 118 => vm_c118
  | 119 => vm_c119
  | 120 => vm_c120
  | 121 => vm_c121
  | 122 => vm_c122
  | 123 => vm_c123
  | 124 => vm_c124
  | 125 => vm_c125
  | 126 => vm_c126
  | 127 => vm_c127
  | 128 => vm_c128
  | 129 => vm_c129
  | 130 => vm_c130
  | 131 => vm_c131
  | 132 => vm_c132
  | 133 => vm_c133
  | 134 => vm_c134
  | 135 => vm_c135
  | 136 => vm_c136
  | 137 => vm_c137
  | 138 => vm_c138
  | 139 => vm_c139
  | 140 => vm_c140
  | 141 => vm_c141
  | 142 => vm_c142
  | 143 => vm_c143
  | 144 => vm_c144
  | 145 => vm_c145
  | 146 => vm_c146
  | 147 => vm_c147
  | 148 => vm_c148
  | 149 => vm_c149
  | 150 => vm_c150
  | 151 => vm_c151
  | 152 => vm_c152
  | 153 => vm_c153
  | 154 => vm_c154
  | 155 => vm_c155
  | 156 => vm_c156
  | 157 => vm_c157
  | 158 => vm_c158
  | 159 => vm_c159
  | 160 => vm_c160
  | 161 => vm_c161
  | 162 => vm_c162
  | 163 => vm_c163
  | 164 => vm_c164
  | 165 => vm_c165
  | 166 => vm_c166
  | 167 => vm_c167
  | 168 => vm_c168
  | 169 => vm_c169
  | 170 => vm_c170
  | 171 => vm_c171
  | 172 => vm_c172
  | 173 => vm_c173
  | 174 => vm_c174
  | 175 => vm_c175
  | 176 => vm_c176
  | 177 => vm_c177
  | 178 => vm_c178
  | 179 => vm_c179
  | 180 => vm_c180
  | 181 => vm_c181
  | 182 => vm_c182
  | 183 => vm_c183
  | 184 => vm_c184
  | 185 => vm_c185
  | 186 => vm_c186
  | 187 => vm_c187
  | 188 => vm_c188
  | 189 => vm_c189
  | 190 => vm_c190
  | 191 => vm_c191
  | 192 => vm_c192
  | 193 => vm_c193
  | 194 => vm_c194
  | 195 => vm_c195
  | 196 => vm_c196
  | 197 => vm_c197
  | 198 => vm_c198
  | 199 => vm_c199
  | 200 => vm_c200
  | 201 => vm_c201
  | 202 => vm_c202
  | n + 203 => absurd hi (by omega)
def vm_pk : List Nat := [91, 565, 592, 635, 639, 786, 1025, 596, 304, 760, 153, 612, 623, 994, 1007, 1017, 390, 818, 823, 827, 471, 885, 893, 913, 864, 946, 976, 980, 986, 179, 235, 659, 691, 664, 668, 672, 676, 695, 679, 727, 732, 736, 687, 683, 711, 700, 704, 708, 716, 720, 724, 97, 577, 600, 365, 740, 756, 384, 561, 770, 922, 935, 774, 779, 791, 796, 802, 814, 835, 841, 846, 850, 860, 83, 550, 554, 569, 573, 581, 608, 616, 627, 643, 647, 655, 744, 748, 752, 765, 856, 872, 876, 880, 889, 901, 918, 926, 931, 939, 990, 1003, 1021, 558, 589, 620, 586, 632, 652, 898, 906, 910, 1031, 1233, 1295, 1272, 1252, 1249, 1225, 1288, 1229, 1236, 1240, 1256, 1260, 1244, 1264, 1276, 1268, 1284, 1279, 1291, 1470, 1466, 1518, 1298, 1303, 1315, 1328, 1324, 1368, 1385, 1350, 1335, 1364, 1389, 1393, 1380, 1376, 1372, 1405, 1401, 1397, 1332, 1409, 1319, 1311, 1413, 1306, 1416, 1420, 1429, 1437, 1433, 1441, 1424, 1473, 1487, 1484, 1481, 1461, 1458, 1492, 1498, 1507, 1503, 1510, 1454, 1450, 1444, 1521, 1530, 1534, 1525, 1537, 1541, 1545, 1549, 1558, 1553, 1561, 1565, 1569, 1575, 1588, 1584, 1580, 1596, 1591, 1011, 783, 157, 318, 868]
def vm_ps : List Nat := [0, 566, 593, 636, 640, 787, 1026, 597, 0, 761, 0, 613, 624, 995, 1008, 1018, 0, 819, 824, 0, 0, 886, 894, 914, 865, 0, 977, 981, 987, 0, 0, 660, 692, 665, 669, 673, 0, 696, 680, 728, 733, 737, 688, 684, 712, 4, 5, 6, 7, 8, 9, 0, 578, 601, 0, 741, 757, 0, 562, 771, 923, 936, 775, 780, 792, 797, 803, 815, 836, 842, 847, 851, 861, 0, 551, 555, 570, 574, 582, 609, 617, 628, 644, 648, 656, 745, 749, 753, 766, 857, 873, 877, 881, 890, 902, 919, 927, 932, 940, 991, 1004, 1022, 0, 0, 0, 1, 2, 3, 10, 11, 12, 0, 0, 0, 0, 0, 13, 1226, 18, 1230, 1237, 1241, 14, 15, 1245, 1265, 16, 1269, 17, 1280, 1292, 47, 46, 53, 1299, 19, 21, 24, 23, 27, 31, 0, 0, 26, 32, 33, 30, 29, 28, 36, 35, 34, 25, 37, 22, 20, 38, 1307, 1417, 1421, 39, 41, 40, 42, 1425, 0, 0, 0, 48, 0, 45, 49, 50, 52, 51, 0, 44, 43, 1445, 1522, 54, 55, 1526, 1538, 1542, 1546, 1550, 56, 1554, 1562, 1566, 1570, 1576, 57, 0, 1581, 58, 1592, 0, 0, 0, 0, 869]
def vm_pi0 : List Nat := [61, 61, 61, 61, 61, 61, 61, 61, 71, 71, 63, 63, 63, 63, 63, 63, 75, 75, 75, 75, 76, 76, 76, 76, 76, 78, 78, 78, 78, 65, 65, 65, 65, 65, 65, 65, 65, 65, 65, 65, 65, 65, 65, 65, 65, 65, 65, 65, 65, 65, 65, 62, 62, 62, 70, 70, 70, 74, 74, 74, 74, 74, 74, 74, 74, 74, 74, 74, 74, 74, 74, 74, 74, 60, 60, 60, 60, 60, 60, 60, 60, 60, 60, 60, 60, 60, 60, 60, 60, 60, 60, 60, 60, 60, 60, 60, 60, 60, 60, 60, 60, 60, 60, 60, 60, 60, 60, 60, 60, 60, 60, 77, 77, 77, 77, 77, 77, 77, 77, 77, 77, 77, 77, 77, 77, 77, 77, 77, 77, 77, 77, 77, 77, 77, 77, 77, 77, 77, 77, 77, 77, 77, 77, 77, 77, 77, 77, 77, 77, 77, 77, 77, 77, 77, 77, 77, 77, 77, 77, 77, 77, 77, 77, 77, 77, 77, 77, 77, 77, 77, 77, 77, 77, 77, 77, 77, 77, 77, 77, 77, 77, 77, 77, 77, 77, 77, 77, 77, 77, 77, 77, 77, 77, 77, 77, 77, 77, 77, 79, 64, 64, 64, 71]
def vm_kw : Nat → Cond := fun i => if vm_k i = 1 then .static (vm_y i) else .instanceMethod (vm_y i)
theorem vm_kw_ok : ∀ i, i < 203 → lw_tbl[vm_pk.getD i 0]? = some (vm_kw i) ∧ goodWord (vm_kw i) = true := by decide +kernel
theorem vm_se_ok : ∀ i, i < 203 → vm_k i = 0 → lw_tbl[vm_ps.getD i 0]? = some (.selects (vm_y i).cls (vm_y i) (vm_y i)) ∧ goodWord (.selects (vm_y i).cls (vm_y i) (vm_y i)) = true := by decide +kernel
theorem vm_in_ok : ∀ i, i < 203 → lw_tbl[vm_pi0.getD i 0]? = some (.initialized (vm_y i).cls) ∧ goodWord (.initialized (vm_y i).cls) = true := by decide +kernel
theorem vm_sm_ok : ∀ i, i < 203 → plainName (vm_y i).cls = true ∧ ((vm_y i).cls ≠ "java/lang/invoke/MethodHandle" ∧ (vm_y i).cls ≠ "java/lang/invoke/VarHandle") ∧ (parseMethodDescriptor (vm_y i).desc).map (fun d => d.parameters.length) = some (vm_a i) ∧ (vm_y i).cls = vg_O (vm_o i) ∧ vm_x i ≤ 40 ∧ (vm_k i = 2 → (vm_y i).name = "<init>") ∧ (vm_k i = 0 → vm_o i < 12) := by decide +kernel
def vg_mn : Nat → Nat → MethodName := fun a b => match a with
  | 4 => (match b with | 0 => Lib.Math.max.name | 1 => Lib.Math.min.name | 2 => Lib.Math.abs.name | 3 => Lib.MathLoose.max_long.x | 4 => Lib.MathLoose.min_long.x | _ => Lib.MathLoose.abs_long.x)
  | 5 => objectInit
  | 6 => ⟨"[I", "clone", "()Ljava/lang/Object;"⟩
  | 7 => arraycopyName
  | 8 => ⟨"java/lang/String", "length", "()I"⟩
  | 9 => ⟨"java/lang/String", "charAt", "(I)C"⟩
  | _ => vm_y b
def vg_ml : List (Nat × Nat × Nat × Nat × Nat) := [(12, 9, 2, 73, 82), (10, 1, 5, 0, 85), (0, 3, 5, 0, 93), (7, 3, 5, 0, 99), (10, 18, 2, 10, 152), (2, 3, 5, 0, 155), (2, 24, 1, 200, 156), (10, 25, 2, 29, 178), (6, 3, 5, 0, 181), (6, 33, 8, 0, 183), (6, 39, 9, 0, 193), (6, 47, 0, 30, 233), (6, 66, 1, 200, 237), (10, 34, 2, 8, 303), (1, 3, 5, 0, 306), (1, 35, 6, 0, 307), (1, 44, 4, 0, 314), (1, 50, 1, 201, 317), (14, 316, 6, 0, 320), (14, 304, 4, 1, 322), (14, 150, 7, 0, 325), (10, 37, 2, 54, 364), (8, 3, 5, 0, 367), (10, 46, 2, 57, 383), (9, 3, 5, 0, 386), (3, 3, 5, 0, 392), (4, 3, 5, 0, 473), (12, 13, 0, 74, 549), (12, 18, 0, 75, 553), (10, 71, 1, 102, 557), (10, 78, 0, 58, 560), (10, 81, 0, 1, 564), (12, 23, 0, 76, 568), (12, 28, 0, 77, 572), (10, 92, 0, 52, 576), (12, 33, 0, 78, 580), (10, 98, 0, 105, 584), (10, 102, 1, 103, 588), (10, 105, 0, 2, 591), (10, 108, 0, 7, 595), (0, 52, 0, 53, 599), (7, 23, 4, 1, 604), (0, 44, 0, 2, 605), (0, 58, 4, 1, 606), (12, 38, 0, 79, 607), (10, 115, 0, 11, 611), (12, 43, 0, 80, 615), (10, 119, 1, 104, 619), (10, 122, 0, 12, 622), (12, 47, 0, 81, 626), (10, 126, 0, 106, 630), (10, 132, 0, 3, 634), (10, 135, 0, 4, 638), (12, 51, 0, 82, 642), (12, 55, 0, 83, 646), (10, 141, 0, 107, 650), (12, 60, 0, 84, 654), (10, 146, 0, 31, 658), (6, 75, 4, 1, 662), (6, 83, 0, 33, 663), (6, 98, 0, 34, 667), (6, 101, 0, 35, 671), (6, 104, 1, 36, 675), (6, 89, 0, 38, 678), (6, 115, 0, 43, 682), (6, 133, 0, 42, 686), (6, 92, 0, 32, 690), (6, 129, 0, 37, 694), (6, 136, 0, 45, 698), (6, 142, 0, 46, 702), (6, 148, 0, 47, 706), (6, 145, 0, 44, 710), (6, 139, 0, 48, 714), (6, 151, 0, 49, 718), (6, 154, 0, 50, 722), (6, 118, 0, 39, 726), (6, 123, 0, 40, 731), (6, 126, 0, 41, 735), (10, 150, 0, 55, 739), (12, 64, 0, 85, 743), (12, 69, 0, 86, 747), (12, 74, 0, 87, 751), (10, 157, 0, 56, 755), (10, 161, 0, 9, 759), (12, 78, 0, 88, 764), (10, 167, 0, 59, 769), (9, 75, 0, 62, 773), (9, 79, 0, 56, 777), (9, 85, 0, 63, 778), (9, 95, 1, 199, 782), (9, 106, 0, 5, 785), (9, 109, 0, 2, 789), (9, 113, 0, 64, 790), (9, 133, 4, 0, 794), (9, 138, 0, 65, 795), (9, 172, 0, 12, 799), (9, 151, 0, 7, 800), (9, 154, 0, 66, 801), (9, 162, 4, 4, 807), (9, 166, 4, 3, 810), (9, 117, 0, 67, 813), (9, 184, 0, 17, 817), (3, 18, 4, 0, 821), (3, 30, 0, 18, 822), (3, 34, 1, 19, 826), (3, 42, 4, 4, 831), (3, 46, 4, 3, 832), (9, 121, 0, 68, 834), (9, 195, 0, 69, 840), (9, 199, 0, 70, 845), (9, 129, 0, 71, 849), (9, 89, 7, 0, 854), (12, 83, 0, 89, 855), (10, 175, 0, 72, 859), (10, 179, 0, 24, 863), (10, 191, 0, 202, 867), (12, 87, 0, 90, 871), (12, 92, 0, 91, 875), (12, 96, 0, 92, 879), (10, 202, 0, 21, 884), (12, 100, 0, 93, 888), (10, 218, 0, 22, 892), (10, 221, 0, 108, 896), (12, 104, 0, 94, 900), (10, 233, 0, 109, 904), (10, 236, 0, 110, 908), (10, 305, 0, 23, 912), (12, 108, 0, 95, 917), (10, 242, 0, 60, 921), (12, 112, 0, 96, 925), (10, 249, 7, 0, 929), (12, 116, 0, 97, 930), (10, 255, 0, 61, 934), (12, 120, 0, 98, 938), (10, 265, 2, 25, 945), (5, 3, 5, 0, 948), (10, 268, 0, 26, 975), (5, 23, 0, 27, 979), (5, 32, 0, 2, 983), (10, 275, 0, 28, 985), (12, 125, 0, 99, 989), (10, 278, 0, 13, 993), (2, 34, 0, 12, 997), (10, 281, 4, 2, 998), (10, 286, 4, 0, 1001), (12, 129, 0, 100, 1002), (10, 289, 0, 14, 1006), (10, 292, 1, 198, 1010), (10, 297, 0, 15, 1016), (12, 133, 0, 101, 1020), (10, 301, 0, 6, 1024), (12, 12, 2, 111, 1030), (11, 1, 5, 0, 1033), (12, 17, 0, 117, 1224), (12, 22, 0, 119, 1228), (11, 158, 1, 112, 1232), (12, 27, 0, 120, 1235), (12, 32, 0, 121, 1239), (12, 37, 0, 124, 1243), (11, 178, 0, 116, 1247), (11, 182, 1, 115, 1251), (11, 174, 0, 122, 1254), (11, 185, 0, 123, 1258), (11, 168, 4, 1, 1262), (12, 42, 0, 125, 1263), (12, 46, 0, 127, 1267), (11, 191, 1, 114, 1271), (11, 194, 0, 126, 1274), (12, 50, 0, 129, 1278), (11, 198, 0, 128, 1282), (11, 201, 0, 118, 1286), (12, 54, 0, 130, 1290), (11, 208, 1, 113, 1294), (12, 59, 0, 134, 1297), (11, 225, 0, 135, 1301), (12, 63, 0, 157, 1305), (11, 362, 0, 155, 1309), (11, 235, 0, 136, 1313), (11, 356, 0, 154, 1317), (11, 340, 0, 138, 1322), (11, 241, 0, 137, 1326), (11, 350, 0, 152, 1330), (11, 347, 1, 142, 1334), (11, 294, 1, 141, 1349), (11, 325, 0, 143, 1362), (11, 322, 0, 139, 1366), (11, 319, 0, 148, 1370), (11, 331, 0, 147, 1374), (11, 328, 0, 146, 1378), (11, 308, 0, 140, 1383), (11, 311, 0, 144, 1387), (11, 315, 0, 145, 1391), (11, 337, 0, 151, 1395), (11, 344, 0, 150, 1399), (11, 334, 0, 149, 1403), (11, 353, 0, 153, 1407), (11, 365, 0, 156, 1411), (12, 68, 0, 158, 1415), (12, 73, 0, 159, 1419), (12, 77, 0, 164, 1423), (11, 375, 0, 160, 1427), (11, 378, 0, 162, 1431), (11, 372, 0, 161, 1435), (11, 382, 0, 163, 1439), (12, 82, 0, 178, 1443), (11, 457, 0, 177, 1448), (11, 452, 0, 176, 1452), (11, 445, 0, 170, 1456), (11, 408, 1, 169, 1460), (11, 215, 4, 0, 1463), (11, 218, 0, 132, 1464), (11, 212, 0, 131, 1468), (11, 394, 1, 165, 1472), (11, 389, 4, 4, 1477), (11, 392, 4, 3, 1478), (11, 412, 0, 168, 1479), (11, 404, 1, 167, 1483), (11, 398, 1, 166, 1486), (11, 416, 0, 171, 1490), (11, 428, 0, 172, 1496), (11, 420, 0, 174, 1501), (11, 432, 0, 173, 1505), (11, 436, 1, 175, 1509), (11, 442, 4, 5, 1512), (11, 449, 0, 133, 1516), (12, 95, 0, 179, 1520), (12, 91, 0, 182, 1524), (11, 462, 0, 180, 1528), (11, 465, 0, 181, 1532), (12, 86, 0, 183, 1536), (12, 99, 0, 184, 1540), (12, 103, 0, 185, 1544), (12, 107, 0, 186, 1548), (12, 111, 0, 188, 1552), (11, 468, 0, 187, 1556), (12, 115, 0, 189, 1560), (12, 119, 0, 190, 1564), (12, 124, 0, 191, 1568), (12, 128, 0, 192, 1574), (11, 474, 4, 2, 1578), (12, 132, 0, 195, 1579), (11, 476, 1, 194, 1583), (11, 479, 0, 193, 1586), (12, 136, 0, 197, 1590), (11, 482, 0, 196, 1594)]
theorem vg_ml_ok : ∀ e ∈ vg_ml, lw_tbl[e.2.2.2.2]? = some (.methodLink (vg_O e.1) e.2.1 (vg_mn e.2.2.1 e.2.2.2.1)) ∧ goodWord (.methodLink (vg_O e.1) e.2.1 (vg_mn e.2.2.1 e.2.2.2.1)) = true ∧ (e.2.2.1 < 4 → e.2.2.2.1 < 203 ∧ vm_k e.2.2.2.1 = e.2.2.1 ∧ e.2.2.1 < 3) := by decide +kernel
def vg_ne : List (Nat × Nat × Nat × String) := [(10, 9, 0, "PupilCoin"), (0, 32, 51, "PupilCoin"), (9, 11, 16, "PupilCoin"), (10, 55, 20, "PupilCoin"), (1, 68, 102, "PupilCoin"), (9, 188, 102, "PupilCoin")]
def vg_nek : List (Nat × Nat × Nat × Nat) := [(10, 9, 3, 0), (0, 32, 3, 51), (9, 11, 3, 16), (10, 55, 3, 20), (1, 68, 10, 102), (9, 188, 10, 102)]
def vg_nep : List Nat := [90, 96, 389, 470, 763, 833]
theorem vg_ne_ok : ∀ j, j < 6 → ∃ e, vg_ne[j]? = some e ∧ lw_tbl[vg_nep.getD j 0]? = some (.methodLinkNest (vg_O e.1) e.2.1 (vm_y e.2.2.1) e.2.2.2) ∧ e.2.2.1 < 203 ∧ vm_k e.2.2.1 ≠ 0 := fun j hj => match j with
  | 0 => ⟨_, rfl, by decide +kernel, by decide +kernel, by decide +kernel⟩
  | 1 => ⟨_, rfl, by decide +kernel, by decide +kernel, by decide +kernel⟩
  | 2 => ⟨_, rfl, by decide +kernel, by decide +kernel, by decide +kernel⟩
  | 3 => ⟨_, rfl, by decide +kernel, by decide +kernel, by decide +kernel⟩
  | 4 => ⟨_, rfl, by decide +kernel, by decide +kernel, by decide +kernel⟩
  | 5 => ⟨_, rfl, by decide +kernel, by decide +kernel, by decide +kernel⟩
  | n + 6 => absurd hj (by omega)
