def F_Mo : u_T := fun k => match k with
  | 0 => ("BallotBoard$Modulus", "n", "J", true)
  | 1 => ("BallotBoard$Modulus", "low", "J", true)
  | 2 => ("BallotBoard$Modulus", "high", "J", true)
  | 3 => ("BallotBoard$Modulus", "factor", "J", true)
  | 4 => ("BallotBoard$Modulus", "one", "J", true)
  | 5 => ("BallotBoard$Modulus", "square", "J", true)
  | _ => ("BallotBoard$Modulus", "bits", "I", true)
def t_Mo : Nat → FieldType := fun k => match k with
  | 0 => .long
  | 1 => .long
  | 2 => .long
  | 3 => .long
  | 4 => .long
  | 5 => .long
  | _ => .int
theorem n_Mo : ∀ a, a < 7 → ∀ b, b < 7 → a ≠ b → (F_Mo a).2.1 ≠ (F_Mo b).2.1 := by decide +kernel
theorem t_Mo_ok : ∀ k, k < 7 → parseFieldDescriptor (F_Mo k).2.2.1 = some (t_Mo k) := by decide +kernel
theorem i_Mo : ∀ w ∈ u_ws "BallotBoard$Modulus" F_Mo 7, w ∈ gw := by
  intro w hw
  obtain ⟨k, hk, rfl⟩ := List.mem_map.mp hw
  have hk := List.mem_range.mp hk
  match k, hk with
  | 0, _ => exact gk_214
  | 1, _ => exact gk_216
  | 2, _ => exact gk_218
  | 3, _ => exact gk_220
  | 4, _ => exact gk_222
  | 5, _ => exact gk_224
  | 6, _ => exact gk_226
  | k + 7, hk => exact absurd hk (by omega)
def F_Gr : u_T := fun k => match k with
  | 0 => ("BallotBoard$Group", "field", "LBallotBoard$Modulus;", true)
  | 1 => ("BallotBoard$Group", "exponents", "LBallotBoard$Modulus;", true)
  | 2 => ("BallotBoard$Group", "g", "J", true)
  | _ => ("BallotBoard$Group", "inverse", "J", true)
def t_Gr : Nat → FieldType := fun k => match k with
  | 0 => .object "BallotBoard$Modulus"
  | 1 => .object "BallotBoard$Modulus"
  | 2 => .long
  | _ => .long
theorem n_Gr : ∀ a, a < 4 → ∀ b, b < 4 → a ≠ b → (F_Gr a).2.1 ≠ (F_Gr b).2.1 := by decide +kernel
theorem t_Gr_ok : ∀ k, k < 4 → parseFieldDescriptor (F_Gr k).2.2.1 = some (t_Gr k) := by decide +kernel
theorem i_Gr : ∀ w ∈ u_ws "BallotBoard$Group" F_Gr 4, w ∈ gw := by
  intro w hw
  obtain ⟨k, hk, rfl⟩ := List.mem_map.mp hw
  have hk := List.mem_range.mp hk
  match k, hk with
  | 0, _ => exact gk_266
  | 1, _ => exact gk_268
  | 2, _ => exact gk_270
  | 3, _ => exact gk_272
  | k + 4, hk => exact absurd hk (by omega)
def F_Ha : u_T := fun k => match k with
  | 0 => ("BallotBoard$Hash", "words", "[J", true)
  | 1 => ("BallotBoard$Hash", "schedule", "[I", true)
  | 2 => ("BallotBoard$Hash", "state", "[I", true)
  | _ => ("BallotBoard$Hash", "length", "I", false)
def t_Ha : Nat → FieldType := fun k => match k with
  | 0 => .array .long
  | 1 => .array .int
  | 2 => .array .int
  | _ => .int
theorem n_Ha : ∀ a, a < 4 → ∀ b, b < 4 → a ≠ b → (F_Ha a).2.1 ≠ (F_Ha b).2.1 := by decide +kernel
theorem t_Ha_ok : ∀ k, k < 4 → parseFieldDescriptor (F_Ha k).2.2.1 = some (t_Ha k) := by decide +kernel
theorem i_Ha : ∀ w ∈ u_ws "BallotBoard$Hash" F_Ha 4, w ∈ gw := by
  intro w hw
  obtain ⟨k, hk, rfl⟩ := List.mem_map.mp hw
  have hk := List.mem_range.mp hk
  match k, hk with
  | 0, _ => exact gk_41
  | 1, _ => exact gk_43
  | 2, _ => exact gk_45
  | 3, _ => exact gk_47
  | k + 4, hk => exact absurd hk (by omega)
def F_Bo : u_T := fun k => match k with
  | 0 => ("BallotBoard$Board", "hash", "LBallotBoard$Hash;", true)
  | 1 => ("BallotBoard$Board", "rows", "[[J", true)
  | 2 => ("BallotBoard$Board", "links", "[[J", true)
  | _ => ("BallotBoard$Board", "size", "I", false)
def t_Bo : Nat → FieldType := fun k => match k with
  | 0 => .object "BallotBoard$Hash"
  | 1 => .array (.array .long)
  | 2 => .array (.array .long)
  | _ => .int
theorem n_Bo : ∀ a, a < 4 → ∀ b, b < 4 → a ≠ b → (F_Bo a).2.1 ≠ (F_Bo b).2.1 := by decide +kernel
theorem t_Bo_ok : ∀ k, k < 4 → parseFieldDescriptor (F_Bo k).2.2.1 = some (t_Bo k) := by decide +kernel
theorem i_Bo : ∀ w ∈ u_ws "BallotBoard$Board" F_Bo 4, w ∈ gw := by
  intro w hw
  obtain ⟨k, hk, rfl⟩ := List.mem_map.mp hw
  have hk := List.mem_range.mp hk
  match k, hk with
  | 0, _ => exact gk_64
  | 1, _ => exact gk_66
  | 2, _ => exact gk_68
  | 3, _ => exact gk_70
  | k + 4, hk => exact absurd hk (by omega)
def F_Ta : u_T := fun k => match k with
  | 0 => ("BallotBoard$Tally", "keyOf", "[J", true)
  | 1 => ("BallotBoard$Tally", "aOf", "[J", true)
  | 2 => ("BallotBoard$Tally", "bOf", "[J", true)
  | 3 => ("BallotBoard$Tally", "shareOf", "[J", true)
  | 4 => ("BallotBoard$Tally", "group", "LBallotBoard$Group;", false)
  | 5 => ("BallotBoard$Tally", "trustees", "I", false)
  | 6 => ("BallotBoard$Tally", "keys", "I", false)
  | 7 => ("BallotBoard$Tally", "ballots", "I", false)
  | 8 => ("BallotBoard$Tally", "shares", "I", false)
  | 9 => ("BallotBoard$Tally", "keyProduct", "J", false)
  | 10 => ("BallotBoard$Tally", "shareProduct", "J", false)
  | 11 => ("BallotBoard$Tally", "productA", "J", false)
  | 12 => ("BallotBoard$Tally", "productB", "J", false)
  | _ => ("BallotBoard$Tally", "shut", "Z", false)
def t_Ta : Nat → FieldType := fun k => match k with
  | 0 => .array .long
  | 1 => .array .long
  | 2 => .array .long
  | 3 => .array .long
  | 4 => .object "BallotBoard$Group"
  | 5 => .int
  | 6 => .int
  | 7 => .int
  | 8 => .int
  | 9 => .long
  | 10 => .long
  | 11 => .long
  | 12 => .long
  | _ => .boolean
theorem n_Ta : ∀ a, a < 14 → ∀ b, b < 14 → a ≠ b → (F_Ta a).2.1 ≠ (F_Ta b).2.1 := by decide +kernel
theorem t_Ta_ok : ∀ k, k < 14 → parseFieldDescriptor (F_Ta k).2.2.1 = some (t_Ta k) := by decide +kernel
theorem i_Ta : ∀ w ∈ u_ws "BallotBoard$Tally" F_Ta 14, w ∈ gw := by
  intro w hw
  obtain ⟨k, hk, rfl⟩ := List.mem_map.mp hw
  have hk := List.mem_range.mp hk
  match k, hk with
  | 0, _ => exact gk_106
  | 1, _ => exact gk_108
  | 2, _ => exact gk_110
  | 3, _ => exact gk_112
  | 4, _ => exact gk_114
  | 5, _ => exact gk_116
  | 6, _ => exact gk_118
  | 7, _ => exact gk_120
  | 8, _ => exact gk_122
  | 9, _ => exact gk_124
  | 10, _ => exact gk_126
  | 11, _ => exact gk_128
  | 12, _ => exact gk_130
  | 13, _ => exact gk_132
  | k + 14, hk => exact absurd hk (by omega)
def F_Pr : u_T := fun k => match k with
  | 0 => ("BallotBoard$Proofs", "hash", "LBallotBoard$Hash;", true)
  | _ => ("BallotBoard$Proofs", "commitments", "[J", true)
def t_Pr : Nat → FieldType := fun k => match k with
  | 0 => .object "BallotBoard$Hash"
  | _ => .array .long
theorem n_Pr : ∀ a, a < 2 → ∀ b, b < 2 → a ≠ b → (F_Pr a).2.1 ≠ (F_Pr b).2.1 := by decide +kernel
theorem t_Pr_ok : ∀ k, k < 2 → parseFieldDescriptor (F_Pr k).2.2.1 = some (t_Pr k) := by decide +kernel
theorem i_Pr : ∀ w ∈ u_ws "BallotBoard$Proofs" F_Pr 2, w ∈ gw := by
  intro w hw
  obtain ⟨k, hk, rfl⟩ := List.mem_map.mp hw
  have hk := List.mem_range.mp hk
  match k, hk with
  | 0, _ => exact gk_81
  | 1, _ => exact gk_83
  | k + 2, hk => exact absurd hk (by omega)
def F_Au : u_T := fun k => match k with
  | 0 => ("BallotBoard$Auditor", "board", "LBallotBoard$Board;", true)
  | 1 => ("BallotBoard$Auditor", "proofs", "LBallotBoard$Proofs;", true)
  | 2 => ("BallotBoard$Auditor", "tally", "LBallotBoard$Tally;", true)
  | _ => ("BallotBoard$Auditor", "sound", "I", false)
def t_Au : Nat → FieldType := fun k => match k with
  | 0 => .object "BallotBoard$Board"
  | 1 => .object "BallotBoard$Proofs"
  | 2 => .object "BallotBoard$Tally"
  | _ => .int
theorem n_Au : ∀ a, a < 4 → ∀ b, b < 4 → a ≠ b → (F_Au a).2.1 ≠ (F_Au b).2.1 := by decide +kernel
theorem t_Au_ok : ∀ k, k < 4 → parseFieldDescriptor (F_Au k).2.2.1 = some (t_Au k) := by decide +kernel
theorem i_Au : ∀ w ∈ u_ws "BallotBoard$Auditor" F_Au 4, w ∈ gw := by
  intro w hw
  obtain ⟨k, hk, rfl⟩ := List.mem_map.mp hw
  have hk := List.mem_range.mp hk
  match k, hk with
  | 0, _ => exact gk_147
  | 1, _ => exact gk_149
  | 2, _ => exact gk_151
  | 3, _ => exact gk_153
  | k + 4, hk => exact absurd hk (by omega)
def F_BB : u_T := fun k => match k with
  | 0 => ("BallotBoard", "board", "LBallotBoard$Board;", true)
  | 1 => ("BallotBoard", "proofs", "LBallotBoard$Proofs;", true)
  | 2 => ("BallotBoard", "tally", "LBallotBoard$Tally;", true)
  | 3 => ("BallotBoard", "auditor", "LBallotBoard$Auditor;", true)
  | 4 => ("BallotBoard", "draft", "[J", true)
  | _ => ("BallotBoard", "group", "LBallotBoard$Group;", false)
def t_BB : Nat → FieldType := fun k => match k with
  | 0 => .object "BallotBoard$Board"
  | 1 => .object "BallotBoard$Proofs"
  | 2 => .object "BallotBoard$Tally"
  | 3 => .object "BallotBoard$Auditor"
  | 4 => .array .long
  | _ => .object "BallotBoard$Group"
theorem n_BB : ∀ a, a < 6 → ∀ b, b < 6 → a ≠ b → (F_BB a).2.1 ≠ (F_BB b).2.1 := by decide +kernel
theorem t_BB_ok : ∀ k, k < 6 → parseFieldDescriptor (F_BB k).2.2.1 = some (t_BB k) := by decide +kernel
theorem i_BB : ∀ w ∈ u_ws "BallotBoard" F_BB 6, w ∈ gw := by
  intro w hw
  obtain ⟨k, hk, rfl⟩ := List.mem_map.mp hw
  have hk := List.mem_range.mp hk
  match k, hk with
  | 0, _ => exact gk_162
  | 1, _ => exact gk_164
  | 2, _ => exact gk_166
  | 3, _ => exact gk_168
  | 4, _ => exact gk_170
  | 5, _ => exact gk_172
  | k + 6, hk => exact absurd hk (by omega)
def F_Bm : u_T := fun k => match k with
  | 0 => ("BallotBoardModel", "err", "I", false)
  | 1 => ("BallotBoardModel", "trustees", "I", false)
  | 2 => ("BallotBoardModel", "entries", "I", false)
  | 3 => ("BallotBoardModel", "counting", "I", false)
  | 4 => ("BallotBoardModel", "p", "J", false)
  | 5 => ("BallotBoardModel", "q", "J", false)
  | 6 => ("BallotBoardModel", "g", "J", false)
  | 7 => ("BallotBoardModel", "all", "J", false)
  | 8 => ("BallotBoardModel", "productA", "J", false)
  | 9 => ("BallotBoardModel", "productB", "J", false)
  | 10 => ("BallotBoardModel", "closed", "Z", false)
  | 11 => ("BallotBoardModel", "number", "[J", true)
  | 12 => ("BallotBoardModel", "chains", "[J", true)
  | 13 => ("BallotBoardModel", "told", "[J", true)
  | 14 => ("BallotBoardModel", "list", "[J", true)
  | 15 => ("BallotBoardModel", "keyOf", "[I", true)
  | 16 => ("BallotBoardModel", "shareOf", "[I", true)
  | 17 => ("BallotBoardModel", "ballotOf", "[I", true)
  | 18 => ("BallotBoardModel", "block", "[I", true)
  | 19 => ("BallotBoardModel", "w", "[I", true)
  | 20 => ("BallotBoardModel", "h", "[I", true)
  | 21 => ("BallotBoardModel", "first", "[I", true)
  | 22 => ("BallotBoardModel", "primes", "[I", true)
  | 23 => ("BallotBoardModel", "octets", "I", false)
  | 24 => ("BallotBoardModel", "keys", "[J", true)
  | 25 => ("BallotBoardModel", "made", "[J", true)
  | 26 => ("BallotBoardModel", "shares", "[J", true)
  | _ => ("BallotBoardModel", "counted", "[I", true)
def t_Bm : Nat → FieldType := fun k => match k with
  | 0 => .int
  | 1 => .int
  | 2 => .int
  | 3 => .int
  | 4 => .long
  | 5 => .long
  | 6 => .long
  | 7 => .long
  | 8 => .long
  | 9 => .long
  | 10 => .boolean
  | 11 => .array .long
  | 12 => .array .long
  | 13 => .array .long
  | 14 => .array .long
  | 15 => .array .int
  | 16 => .array .int
  | 17 => .array .int
  | 18 => .array .int
  | 19 => .array .int
  | 20 => .array .int
  | 21 => .array .int
  | 22 => .array .int
  | 23 => .int
  | 24 => .array .long
  | 25 => .array .long
  | 26 => .array .long
  | _ => .array .int
theorem n_Bm : ∀ a, a < 28 → ∀ b, b < 28 → a ≠ b → (F_Bm a).2.1 ≠ (F_Bm b).2.1 := by decide +kernel
theorem t_Bm_ok : ∀ k, k < 28 → parseFieldDescriptor (F_Bm k).2.2.1 = some (t_Bm k) := by decide +kernel
theorem i_Bm : ∀ w ∈ u_ws "BallotBoardModel" F_Bm 28, w ∈ gw := by
  intro w hw
  obtain ⟨k, hk, rfl⟩ := List.mem_map.mp hw
  have hk := List.mem_range.mp hk
  match k, hk with
  | 0, _ => exact gk_947
  | 1, _ => exact gk_949
  | 2, _ => exact gk_951
  | 3, _ => exact gk_953
  | 4, _ => exact gk_955
  | 5, _ => exact gk_957
  | 6, _ => exact gk_959
  | 7, _ => exact gk_961
  | 8, _ => exact gk_963
  | 9, _ => exact gk_965
  | 10, _ => exact gk_967
  | 11, _ => exact gk_969
  | 12, _ => exact gk_971
  | 13, _ => exact gk_973
  | 14, _ => exact gk_975
  | 15, _ => exact gk_977
  | 16, _ => exact gk_979
  | 17, _ => exact gk_981
  | 18, _ => exact gk_983
  | 19, _ => exact gk_985
  | 20, _ => exact gk_987
  | 21, _ => exact gk_989
  | 22, _ => exact gk_991
  | 23, _ => exact gk_993
  | 24, _ => exact gk_995
  | 25, _ => exact gk_997
  | 26, _ => exact gk_999
  | 27, _ => exact gk_1001
  | k + 28, hk => exact absurd hk (by omega)
abbrev classes : List vw_C := [("BallotBoard$Modulus", F_Mo, 7), ("BallotBoard$Group", F_Gr, 4), ("BallotBoard$Hash", F_Ha, 4), ("BallotBoard$Board", F_Bo, 4), ("BallotBoard$Tally", F_Ta, 14), ("BallotBoard$Proofs", F_Pr, 2), ("BallotBoard$Auditor", F_Au, 4), ("BallotBoard", F_BB, 6), ("BallotBoardModel", F_Bm, 28)]
