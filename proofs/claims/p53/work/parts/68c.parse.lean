/-! the text read -/
theorem some_gD {α : Type} {o : Option α} (x : α) (h : o.isSome = true) : o = some (o.getD x) := by
  cases o with
  | none => cases h
  | some v => rfl
def rr0 : RR := (1, 0, 7, 0, 0, (-1))
theorem pb : f2_begin TX R00 = some rr0 := by decide +kernel
def ll0 : LL := (f1_clear L00).getD L00
theorem pl0 : f1_clear L00 = some ll0 := some_gD L00 (by decide +kernel)
theorem pf1 : f6_section TX (1, 0, 7, 0, 0, (-1)) = some 0 := by decide +kernel
theorem pf2 : f6_isFull ll0 0 = some 0 := by decide +kernel
theorem pf3 : f2_advance TX (1, 0, 7, 0, 0, (-1)) = some (2, 8, 10, 50, 0, (-1)) := by decide +kernel
theorem pf4 : f2_advance TX (2, 8, 10, 50, 0, (-1)) = some (2, 11, 14, 200, 0, (-1)) := by decide +kernel
theorem pf5 : f2_readNumber TX (2, 8, 10, 50, 0, (-1)) 1 999 = some (50, (2, 11, 14, 200, 0, (-1))) := by
  unfold f2_readNumber
  rw [if_pos (by decide), if_pos (by decide), if_neg (by decide), if_neg (by decide), if_pos (by decide), pf4, sbind]
  rfl
theorem pf6 : f2_advance TX (2, 11, 14, 200, 0, (-1)) = some (2, 15, 17, 40, 0, (-1)) := by decide +kernel
theorem pf7 : f2_readNumber TX (2, 11, 14, 200, 0, (-1)) 0 9999 = some (200, (2, 15, 17, 40, 0, (-1))) := by
  unfold f2_readNumber
  rw [if_pos (by decide), if_pos (by decide), if_neg (by decide), if_neg (by decide), if_pos (by decide), pf6, sbind]
  rfl
theorem pf8 : f2_advance TX (2, 15, 17, 40, 0, (-1)) = some (3, 17, 18, 0, 0, (-1)) := by decide +kernel
theorem pf9 : f2_readNumber TX (2, 15, 17, 40, 0, (-1)) 0 999 = some (40, (3, 17, 18, 0, 0, (-1))) := by
  unfold f2_readNumber
  rw [if_pos (by decide), if_pos (by decide), if_neg (by decide), if_neg (by decide), if_pos (by decide), pf8, sbind]
  rfl
theorem pf10 : f2_readSemicolon TX (3, 17, 18, 0, 0, (-1)) = some (1, 18, 25, 0, 0, (-1)) := by decide +kernel
def ll1 : LL := (f1_addChamber ll0 50 200 40).getD L00
theorem pl1 : f1_addChamber ll0 50 200 40 = some ll1 := some_gD L00 (by decide +kernel)
theorem pr0 : f6_readChamber TX (2, 8, 10, 50, 0, (-1)) ll0 = some ((1, 18, 25, 0, 0, (-1)), ll1) := by
  unfold f6_readChamber
  rw [pf5, sbind]
  try dsimp only
  rw [pf7, sbind]
  try dsimp only
  rw [pf9, sbind]
  try dsimp only
  rw [pf10, sbind]
  try dsimp only
  rw [if_pos (by decide), pl1, sbind]
theorem ps0 (fu : Nat) : f6_parse_B18 TX (fu + 1) (1, 0, 7, 0, 0, (-1)) ll0 0 0 = f6_parse_B18 TX fu (1, 18, 25, 0, 0, (-1)) ll1 0 (0 + 1) := by
  rw [f6_parse_B18, if_neg (by decide), if_neg (by decide), if_pos (by decide), pf1, sbind, if_neg (by decide)]
  rw [if_pos (by decide)]
  unfold f6_parse_B87
  rw [pf2, sbind, if_pos rfl, pf3, sbind]
  rw [if_pos rfl, pr0, sbind]
theorem pf11 : f6_section TX (1, 18, 25, 0, 0, (-1)) = some 0 := by decide +kernel
theorem pf12 : f6_isFull ll1 0 = some 0 := by decide +kernel
theorem pf13 : f2_advance TX (1, 18, 25, 0, 0, (-1)) = some (2, 26, 28, 20, 0, (-1)) := by decide +kernel
theorem pf14 : f2_advance TX (2, 26, 28, 20, 0, (-1)) = some (2, 29, 30, 0, 0, (-1)) := by decide +kernel
theorem pf15 : f2_readNumber TX (2, 26, 28, 20, 0, (-1)) 1 999 = some (20, (2, 29, 30, 0, 0, (-1))) := by
  unfold f2_readNumber
  rw [if_pos (by decide), if_pos (by decide), if_neg (by decide), if_neg (by decide), if_pos (by decide), pf14, sbind]
  rfl
theorem pf16 : f2_advance TX (2, 29, 30, 0, 0, (-1)) = some (2, 31, 32, 0, 0, (-1)) := by decide +kernel
theorem pf17 : f2_readNumber TX (2, 29, 30, 0, 0, (-1)) 0 9999 = some (0, (2, 31, 32, 0, 0, (-1))) := by
  unfold f2_readNumber
  rw [if_pos (by decide), if_pos (by decide), if_neg (by decide), if_neg (by decide), if_pos (by decide), pf16, sbind]
  rfl
theorem pf18 : f2_advance TX (2, 31, 32, 0, 0, (-1)) = some (3, 32, 33, 0, 0, (-1)) := by decide +kernel
theorem pf19 : f2_readNumber TX (2, 31, 32, 0, 0, (-1)) 0 999 = some (0, (3, 32, 33, 0, 0, (-1))) := by
  unfold f2_readNumber
  rw [if_pos (by decide), if_pos (by decide), if_neg (by decide), if_neg (by decide), if_pos (by decide), pf18, sbind]
  rfl
theorem pf20 : f2_readSemicolon TX (3, 32, 33, 0, 0, (-1)) = some (1, 33, 40, 0, 0, (-1)) := by decide +kernel
def ll2 : LL := (f1_addChamber ll1 20 0 0).getD L00
theorem pl2 : f1_addChamber ll1 20 0 0 = some ll2 := some_gD L00 (by decide +kernel)
theorem pr1 : f6_readChamber TX (2, 26, 28, 20, 0, (-1)) ll1 = some ((1, 33, 40, 0, 0, (-1)), ll2) := by
  unfold f6_readChamber
  rw [pf15, sbind]
  try dsimp only
  rw [pf17, sbind]
  try dsimp only
  rw [pf19, sbind]
  try dsimp only
  rw [pf20, sbind]
  try dsimp only
  rw [if_pos (by decide), pl2, sbind]
theorem ps1 (fu : Nat) : f6_parse_B18 TX (fu + 1) (1, 18, 25, 0, 0, (-1)) ll1 0 1 = f6_parse_B18 TX fu (1, 33, 40, 0, 0, (-1)) ll2 0 (1 + 1) := by
  rw [f6_parse_B18, if_neg (by decide), if_neg (by decide), if_pos (by decide), pf11, sbind, if_neg (by decide)]
  rw [if_pos (by decide)]
  unfold f6_parse_B87
  rw [pf12, sbind, if_pos rfl, pf13, sbind]
  rw [if_pos rfl, pr1, sbind]
theorem pf21 : f6_section TX (1, 33, 40, 0, 0, (-1)) = some 0 := by decide +kernel
theorem pf22 : f6_isFull ll2 0 = some 0 := by decide +kernel
theorem pf23 : f2_advance TX (1, 33, 40, 0, 0, (-1)) = some (2, 41, 42, 5, 0, (-1)) := by decide +kernel
theorem pf24 : f2_advance TX (2, 41, 42, 5, 0, (-1)) = some (2, 43, 45, 30, 0, (-1)) := by decide +kernel
theorem pf25 : f2_readNumber TX (2, 41, 42, 5, 0, (-1)) 1 999 = some (5, (2, 43, 45, 30, 0, (-1))) := by
  unfold f2_readNumber
  rw [if_pos (by decide), if_pos (by decide), if_neg (by decide), if_neg (by decide), if_pos (by decide), pf24, sbind]
  rfl
theorem pf26 : f2_advance TX (2, 43, 45, 30, 0, (-1)) = some (2, 46, 48, 10, 0, (-1)) := by decide +kernel
theorem pf27 : f2_readNumber TX (2, 43, 45, 30, 0, (-1)) 0 9999 = some (30, (2, 46, 48, 10, 0, (-1))) := by
  unfold f2_readNumber
  rw [if_pos (by decide), if_pos (by decide), if_neg (by decide), if_neg (by decide), if_pos (by decide), pf26, sbind]
  rfl
theorem pf28 : f2_advance TX (2, 46, 48, 10, 0, (-1)) = some (3, 48, 49, 0, 0, (-1)) := by decide +kernel
theorem pf29 : f2_readNumber TX (2, 46, 48, 10, 0, (-1)) 0 999 = some (10, (3, 48, 49, 0, 0, (-1))) := by
  unfold f2_readNumber
  rw [if_pos (by decide), if_pos (by decide), if_neg (by decide), if_neg (by decide), if_pos (by decide), pf28, sbind]
  rfl
theorem pf30 : f2_readSemicolon TX (3, 48, 49, 0, 0, (-1)) = some (1, 49, 53, 0, 0, (-1)) := by decide +kernel
def ll3 : LL := (f1_addChamber ll2 5 30 10).getD L00
theorem pl3 : f1_addChamber ll2 5 30 10 = some ll3 := some_gD L00 (by decide +kernel)
theorem pr2 : f6_readChamber TX (2, 41, 42, 5, 0, (-1)) ll2 = some ((1, 49, 53, 0, 0, (-1)), ll3) := by
  unfold f6_readChamber
  rw [pf25, sbind]
  try dsimp only
  rw [pf27, sbind]
  try dsimp only
  rw [pf29, sbind]
  try dsimp only
  rw [pf30, sbind]
  try dsimp only
  rw [if_pos (by decide), pl3, sbind]
theorem ps2 (fu : Nat) : f6_parse_B18 TX (fu + 1) (1, 33, 40, 0, 0, (-1)) ll2 0 2 = f6_parse_B18 TX fu (1, 49, 53, 0, 0, (-1)) ll3 0 (2 + 1) := by
  rw [f6_parse_B18, if_neg (by decide), if_neg (by decide), if_pos (by decide), pf21, sbind, if_neg (by decide)]
  rw [if_pos (by decide)]
  unfold f6_parse_B87
  rw [pf22, sbind, if_pos rfl, pf23, sbind]
  rw [if_pos rfl, pr2, sbind]
theorem pf31 : f6_section TX (1, 49, 53, 0, 0, (-1)) = some 1 := by decide +kernel
theorem pf32 : f6_isFull ll3 1 = some 0 := by decide +kernel
theorem pf33 : f2_advance TX (1, 49, 53, 0, 0, (-1)) = some (2, 54, 55, 0, 0, (-1)) := by decide +kernel
theorem pf34 : LL_chambers ll3 - 1 = 2 := by decide +kernel
theorem pf35 : f2_advance TX (2, 54, 55, 0, 0, (-1)) = some (2, 56, 57, 2, 0, (-1)) := by decide +kernel
theorem pf36 : f2_readNumber TX (2, 54, 55, 0, 0, (-1)) 0 2 = some (0, (2, 56, 57, 2, 0, (-1))) := by
  unfold f2_readNumber
  rw [if_pos (by decide), if_pos (by decide), if_neg (by decide), if_neg (by decide), if_pos (by decide), pf35, sbind]
  rfl
theorem pf37 : f2_isWord TX (2, 56, 57, 2, 0, (-1)) 4 = some 0 := by decide +kernel
theorem pf38 : LL_chambers ll3 - 1 = 2 := by decide +kernel
theorem pf39 : f2_advance TX (2, 56, 57, 2, 0, (-1)) = some (2, 58, 60, 15, 0, (-1)) := by decide +kernel
theorem pf40 : f2_readNumber TX (2, 56, 57, 2, 0, (-1)) 0 2 = some (2, (2, 58, 60, 15, 0, (-1))) := by
  unfold f2_readNumber
  rw [if_pos (by decide), if_pos (by decide), if_neg (by decide), if_neg (by decide), if_pos (by decide), pf39, sbind]
  rfl
theorem pf41 : f6_readOtherSide TX ll3 (2, 56, 57, 2, 0, (-1)) 0 = some (2, (2, 58, 60, 15, 0, (-1))) := by
  unfold f6_readOtherSide f6_readOtherSide_B32
  rw [if_pos (by decide), pf37, sbind, if_pos (by decide), pf38, pf40, sbind]
  dsimp only
  rw [if_pos (by decide), if_neg (by decide)]
theorem pf42 : f2_advance TX (2, 58, 60, 15, 0, (-1)) = some (2, 61, 64, 100, 0, (-1)) := by decide +kernel
theorem pf43 : f2_readNumber TX (2, 58, 60, 15, 0, (-1)) 1 999 = some (15, (2, 61, 64, 100, 0, (-1))) := by
  unfold f2_readNumber
  rw [if_pos (by decide), if_pos (by decide), if_neg (by decide), if_neg (by decide), if_pos (by decide), pf42, sbind]
  rfl
theorem pf44 : f2_advance TX (2, 61, 64, 100, 0, (-1)) = some (2, 65, 72, 1000000, 0, (-1)) := by decide +kernel
theorem pf45 : f2_readNumber TX (2, 61, 64, 100, 0, (-1)) 0 1000000 = some (100, (2, 65, 72, 1000000, 0, (-1))) := by
  unfold f2_readNumber
  rw [if_pos (by decide), if_pos (by decide), if_neg (by decide), if_neg (by decide), if_pos (by decide), pf44, sbind]
  rfl
theorem pf46 : f2_advance TX (2, 65, 72, 1000000, 0, (-1)) = some (2, 73, 80, 1000000, 0, (-1)) := by decide +kernel
theorem pf47 : f2_readNumber TX (2, 65, 72, 1000000, 0, (-1)) 100 1000000 = some (1000000, (2, 73, 80, 1000000, 0, (-1))) := by
  unfold f2_readNumber
  rw [if_pos (by decide), if_pos (by decide), if_neg (by decide), if_neg (by decide), if_pos (by decide), pf46, sbind]
  rfl
theorem pf48 : f2_advance TX (2, 73, 80, 1000000, 0, (-1)) = some (3, 80, 81, 0, 0, (-1)) := by decide +kernel
theorem pf49 : f2_readNumber TX (2, 73, 80, 1000000, 0, (-1)) 0 1000000 = some (1000000, (3, 80, 81, 0, 0, (-1))) := by
  unfold f2_readNumber
  rw [if_pos (by decide), if_pos (by decide), if_neg (by decide), if_neg (by decide), if_pos (by decide), pf48, sbind]
  rfl
theorem pf50 : f2_readSemicolon TX (3, 80, 81, 0, 0, (-1)) = some (1, 81, 85, 0, 0, (-1)) := by decide +kernel
def ll4 : LL := (f1_addPump ll3 0 2 15 100 1000000 1000000).getD L00
theorem pl4 : f1_addPump ll3 0 2 15 100 1000000 1000000 = some ll4 := some_gD L00 (by decide +kernel)
theorem pr3 : f6_readPump TX (2, 54, 55, 0, 0, (-1)) ll3 = some ((1, 81, 85, 0, 0, (-1)), ll4) := by
  unfold f6_readPump
  rw [pf34, pf36, sbind]
  try dsimp only
  rw [pf41, sbind]
  try dsimp only
  rw [pf43, sbind]
  try dsimp only
  rw [pf45, sbind]
  try dsimp only
  rw [pf47, sbind]
  try dsimp only
  rw [if_neg (show ¬ ((2 : Int32) = 8) by decide), pf49, sbind]
  try dsimp only
  unfold f6_readPump_B82
  rw [pf50, sbind]
  try dsimp only
  rw [if_pos (by decide), pl4, sbind]
theorem pf51 : ¬ (LL_chambers ll3 = 0) := by decide +kernel
theorem ps3 (fu : Nat) : f6_parse_B18 TX (fu + 1) (1, 49, 53, 0, 0, (-1)) ll3 0 3 = f6_parse_B18 TX fu (1, 81, 85, 0, 0, (-1)) ll4 1 (3 + 1) := by
  rw [f6_parse_B18, if_neg (by decide), if_neg (by decide), if_pos (by decide), pf31, sbind, if_neg (by decide)]
  rw [if_neg (by decide), if_neg pf51]
  unfold f6_parse_B87
  rw [pf32, sbind, if_pos rfl, pf33, sbind]
  rw [if_neg (by decide), if_pos rfl, pr3, sbind]
theorem pf52 : f6_section TX (1, 81, 85, 0, 0, (-1)) = some 1 := by decide +kernel
theorem pf53 : f6_isFull ll4 1 = some 0 := by decide +kernel
theorem pf54 : f2_advance TX (1, 81, 85, 0, 0, (-1)) = some (2, 86, 87, 2, 0, (-1)) := by decide +kernel
theorem pf55 : LL_chambers ll4 - 1 = 2 := by decide +kernel
theorem pf56 : f2_advance TX (2, 86, 87, 2, 0, (-1)) = some (1, 88, 91, 0, 0, (-1)) := by decide +kernel
theorem pf57 : f2_readNumber TX (2, 86, 87, 2, 0, (-1)) 0 2 = some (2, (1, 88, 91, 0, 0, (-1))) := by
  unfold f2_readNumber
  rw [if_pos (by decide), if_pos (by decide), if_neg (by decide), if_neg (by decide), if_pos (by decide), pf56, sbind]
  rfl
theorem pf58 : f2_isWord TX (1, 88, 91, 0, 0, (-1)) 4 = some 1 := by decide +kernel
theorem pf59 : f2_advance TX (1, 88, 91, 0, 0, (-1)) = some (2, 92, 93, 8, 0, (-1)) := by decide +kernel
theorem pf60 : f6_readOtherSide TX ll4 (1, 88, 91, 0, 0, (-1)) 2 = some (8, (2, 92, 93, 8, 0, (-1))) := by
  unfold f6_readOtherSide
  rw [if_pos (by decide), pf58, sbind, if_neg (by decide), pf59, sbind]
theorem pf61 : f2_advance TX (2, 92, 93, 8, 0, (-1)) = some (2, 94, 97, 500, 0, (-1)) := by decide +kernel
theorem pf62 : f2_readNumber TX (2, 92, 93, 8, 0, (-1)) 1 999 = some (8, (2, 94, 97, 500, 0, (-1))) := by
  unfold f2_readNumber
  rw [if_pos (by decide), if_pos (by decide), if_neg (by decide), if_neg (by decide), if_pos (by decide), pf61, sbind]
  rfl
theorem pf63 : f2_advance TX (2, 94, 97, 500, 0, (-1)) = some (2, 98, 105, 1000000, 0, (-1)) := by decide +kernel
theorem pf64 : f2_readNumber TX (2, 94, 97, 500, 0, (-1)) 0 1000000 = some (500, (2, 98, 105, 1000000, 0, (-1))) := by
  unfold f2_readNumber
  rw [if_pos (by decide), if_pos (by decide), if_neg (by decide), if_neg (by decide), if_pos (by decide), pf63, sbind]
  rfl
theorem pf65 : f2_advance TX (2, 98, 105, 1000000, 0, (-1)) = some (3, 105, 106, 0, 0, (-1)) := by decide +kernel
theorem pf66 : f2_readNumber TX (2, 98, 105, 1000000, 0, (-1)) 500 1000000 = some (1000000, (3, 105, 106, 0, 0, (-1))) := by
  unfold f2_readNumber
  rw [if_pos (by decide), if_pos (by decide), if_neg (by decide), if_neg (by decide), if_pos (by decide), pf65, sbind]
  rfl
theorem pf67 : f2_readSemicolon TX (3, 105, 106, 0, 0, (-1)) = some (1, 106, 111, 0, 0, (-1)) := by decide +kernel
def ll5 : LL := (f1_addPump ll4 2 8 8 500 1000000 1000000).getD L00
theorem pl5 : f1_addPump ll4 2 8 8 500 1000000 1000000 = some ll5 := some_gD L00 (by decide +kernel)
theorem pr4 : f6_readPump TX (2, 86, 87, 2, 0, (-1)) ll4 = some ((1, 106, 111, 0, 0, (-1)), ll5) := by
  unfold f6_readPump
  rw [pf55, pf57, sbind]
  try dsimp only
  rw [pf60, sbind]
  try dsimp only
  rw [pf62, sbind]
  try dsimp only
  rw [pf64, sbind]
  try dsimp only
  rw [pf66, sbind]
  try dsimp only
  rw [if_pos (show (8 : Int32) = 8 from rfl)]
  unfold f6_readPump_B82
  rw [pf67, sbind]
  try dsimp only
  rw [if_pos (by decide), pl5, sbind]
theorem pf68 : ¬ (LL_chambers ll4 = 0) := by decide +kernel
theorem ps4 (fu : Nat) : f6_parse_B18 TX (fu + 1) (1, 81, 85, 0, 0, (-1)) ll4 1 4 = f6_parse_B18 TX fu (1, 106, 111, 0, 0, (-1)) ll5 1 (4 + 1) := by
  rw [f6_parse_B18, if_neg (by decide), if_neg (by decide), if_pos (by decide), pf52, sbind, if_neg (by decide)]
  rw [if_neg (by decide), if_neg pf68]
  unfold f6_parse_B87
  rw [pf53, sbind, if_pos rfl, pf54, sbind]
  rw [if_neg (by decide), if_pos rfl, pr4, sbind]
theorem pf69 : f6_section TX (1, 106, 111, 0, 0, (-1)) = some 2 := by decide +kernel
theorem pf70 : f6_isFull ll5 2 = some 0 := by decide +kernel
theorem pf71 : f2_advance TX (1, 106, 111, 0, 0, (-1)) = some (2, 112, 113, 0, 0, (-1)) := by decide +kernel
theorem pf72 : LL_chambers ll5 - 1 = 2 := by decide +kernel
theorem pf73 : f2_advance TX (2, 112, 113, 0, 0, (-1)) = some (2, 114, 115, 1, 0, (-1)) := by decide +kernel
theorem pf74 : f2_readNumber TX (2, 112, 113, 0, 0, (-1)) 0 2 = some (0, (2, 114, 115, 1, 0, (-1))) := by
  unfold f2_readNumber
  rw [if_pos (by decide), if_pos (by decide), if_neg (by decide), if_neg (by decide), if_pos (by decide), pf73, sbind]
  rfl
theorem pf75 : f2_isWord TX (2, 114, 115, 1, 0, (-1)) 4 = some 0 := by decide +kernel
theorem pf76 : LL_chambers ll5 - 1 = 2 := by decide +kernel
theorem pf77 : f2_advance TX (2, 114, 115, 1, 0, (-1)) = some (2, 116, 118, 30, 0, (-1)) := by decide +kernel
theorem pf78 : f2_readNumber TX (2, 114, 115, 1, 0, (-1)) 0 2 = some (1, (2, 116, 118, 30, 0, (-1))) := by
  unfold f2_readNumber
  rw [if_pos (by decide), if_pos (by decide), if_neg (by decide), if_neg (by decide), if_pos (by decide), pf77, sbind]
  rfl
theorem pf79 : f6_readOtherSide TX ll5 (2, 114, 115, 1, 0, (-1)) 0 = some (1, (2, 116, 118, 30, 0, (-1))) := by
  unfold f6_readOtherSide f6_readOtherSide_B32
  rw [if_pos (by decide), pf75, sbind, if_pos (by decide), pf76, pf78, sbind]
  dsimp only
  rw [if_pos (by decide), if_neg (by decide)]
theorem pf80 : f2_advance TX (2, 116, 118, 30, 0, (-1)) = some (2, 119, 125, 900000, 0, (-1)) := by decide +kernel
theorem pf81 : f2_readNumber TX (2, 116, 118, 30, 0, (-1)) 1 999 = some (30, (2, 119, 125, 900000, 0, (-1))) := by
  unfold f2_readNumber
  rw [if_pos (by decide), if_pos (by decide), if_neg (by decide), if_neg (by decide), if_pos (by decide), pf80, sbind]
  rfl
theorem pf82 : f2_advance TX (2, 119, 125, 900000, 0, (-1)) = some (3, 125, 126, 0, 0, (-1)) := by decide +kernel
theorem pf83 : f2_readNumber TX (2, 119, 125, 900000, 0, (-1)) 0 1000000 = some (900000, (3, 125, 126, 0, 0, (-1))) := by
  unfold f2_readNumber
  rw [if_pos (by decide), if_pos (by decide), if_neg (by decide), if_neg (by decide), if_pos (by decide), pf82, sbind]
  rfl
theorem pf84 : f2_readSemicolon TX (3, 125, 126, 0, 0, (-1)) = some (1, 126, 131, 0, 0, (-1)) := by decide +kernel
def ll6 : LL := (f1_addValve ll5 0 1 30 900000).getD L00
theorem pl6 : f1_addValve ll5 0 1 30 900000 = some ll6 := some_gD L00 (by decide +kernel)
theorem pr5 : f6_readValve TX (2, 112, 113, 0, 0, (-1)) ll5 = some ((1, 126, 131, 0, 0, (-1)), ll6) := by
  unfold f6_readValve
  rw [pf72, pf74, sbind]
  try dsimp only
  rw [pf79, sbind]
  try dsimp only
  rw [pf81, sbind]
  try dsimp only
  rw [pf83, sbind]
  try dsimp only
  rw [pf84, sbind]
  try dsimp only
  rw [if_pos (by decide), pl6, sbind]
theorem pf85 : ¬ (LL_chambers ll5 = 0) := by decide +kernel
theorem ps5 (fu : Nat) : f6_parse_B18 TX (fu + 1) (1, 106, 111, 0, 0, (-1)) ll5 1 5 = f6_parse_B18 TX fu (1, 126, 131, 0, 0, (-1)) ll6 2 (5 + 1) := by
  rw [f6_parse_B18, if_neg (by decide), if_neg (by decide), if_pos (by decide), pf69, sbind, if_neg (by decide)]
  rw [if_neg (by decide), if_neg pf85]
  unfold f6_parse_B87
  rw [pf70, sbind, if_pos rfl, pf71, sbind]
  rw [if_neg (by decide), if_neg (by decide), if_pos rfl, pr5, sbind]
theorem pf86 : f6_section TX (1, 126, 131, 0, 0, (-1)) = some 2 := by decide +kernel
theorem pf87 : f6_isFull ll6 2 = some 0 := by decide +kernel
theorem pf88 : f2_advance TX (1, 126, 131, 0, 0, (-1)) = some (2, 132, 133, 1, 0, (-1)) := by decide +kernel
theorem pf89 : LL_chambers ll6 - 1 = 2 := by decide +kernel
theorem pf90 : f2_advance TX (2, 132, 133, 1, 0, (-1)) = some (2, 134, 135, 2, 0, (-1)) := by decide +kernel
theorem pf91 : f2_readNumber TX (2, 132, 133, 1, 0, (-1)) 0 2 = some (1, (2, 134, 135, 2, 0, (-1))) := by
  unfold f2_readNumber
  rw [if_pos (by decide), if_pos (by decide), if_neg (by decide), if_neg (by decide), if_pos (by decide), pf90, sbind]
  rfl
theorem pf92 : f2_isWord TX (2, 134, 135, 2, 0, (-1)) 4 = some 0 := by decide +kernel
theorem pf93 : LL_chambers ll6 - 1 = 2 := by decide +kernel
theorem pf94 : f2_advance TX (2, 134, 135, 2, 0, (-1)) = some (2, 136, 138, 12, 0, (-1)) := by decide +kernel
theorem pf95 : f2_readNumber TX (2, 134, 135, 2, 0, (-1)) 0 2 = some (2, (2, 136, 138, 12, 0, (-1))) := by
  unfold f2_readNumber
  rw [if_pos (by decide), if_pos (by decide), if_neg (by decide), if_neg (by decide), if_pos (by decide), pf94, sbind]
  rfl
theorem pf96 : f6_readOtherSide TX ll6 (2, 134, 135, 2, 0, (-1)) 1 = some (2, (2, 136, 138, 12, 0, (-1))) := by
  unfold f6_readOtherSide f6_readOtherSide_B32
  rw [if_pos (by decide), pf92, sbind, if_pos (by decide), pf93, pf95, sbind]
  dsimp only
  rw [if_pos (by decide), if_neg (by decide)]
theorem pf97 : f2_advance TX (2, 136, 138, 12, 0, (-1)) = some (2, 139, 146, 1000000, 0, (-1)) := by decide +kernel
theorem pf98 : f2_readNumber TX (2, 136, 138, 12, 0, (-1)) 1 999 = some (12, (2, 139, 146, 1000000, 0, (-1))) := by
  unfold f2_readNumber
  rw [if_pos (by decide), if_pos (by decide), if_neg (by decide), if_neg (by decide), if_pos (by decide), pf97, sbind]
  rfl
theorem pf99 : f2_advance TX (2, 139, 146, 1000000, 0, (-1)) = some (3, 146, 147, 0, 0, (-1)) := by decide +kernel
theorem pf100 : f2_readNumber TX (2, 139, 146, 1000000, 0, (-1)) 0 1000000 = some (1000000, (3, 146, 147, 0, 0, (-1))) := by
  unfold f2_readNumber
  rw [if_pos (by decide), if_pos (by decide), if_neg (by decide), if_neg (by decide), if_pos (by decide), pf99, sbind]
  rfl
theorem pf101 : f2_readSemicolon TX (3, 146, 147, 0, 0, (-1)) = some (1, 147, 152, 0, 0, (-1)) := by decide +kernel
def ll7 : LL := (f1_addValve ll6 1 2 12 1000000).getD L00
theorem pl7 : f1_addValve ll6 1 2 12 1000000 = some ll7 := some_gD L00 (by decide +kernel)
theorem pr6 : f6_readValve TX (2, 132, 133, 1, 0, (-1)) ll6 = some ((1, 147, 152, 0, 0, (-1)), ll7) := by
  unfold f6_readValve
  rw [pf89, pf91, sbind]
  try dsimp only
  rw [pf96, sbind]
  try dsimp only
  rw [pf98, sbind]
  try dsimp only
  rw [pf100, sbind]
  try dsimp only
  rw [pf101, sbind]
  try dsimp only
  rw [if_pos (by decide), pl7, sbind]
theorem pf102 : ¬ (LL_chambers ll6 = 0) := by decide +kernel
theorem ps6 (fu : Nat) : f6_parse_B18 TX (fu + 1) (1, 126, 131, 0, 0, (-1)) ll6 2 6 = f6_parse_B18 TX fu (1, 147, 152, 0, 0, (-1)) ll7 2 (6 + 1) := by
  rw [f6_parse_B18, if_neg (by decide), if_neg (by decide), if_pos (by decide), pf86, sbind, if_neg (by decide)]
  rw [if_neg (by decide), if_neg pf102]
  unfold f6_parse_B87
  rw [pf87, sbind, if_pos rfl, pf88, sbind]
  rw [if_neg (by decide), if_neg (by decide), if_pos rfl, pr6, sbind]
theorem pf103 : f6_section TX (1, 147, 152, 0, 0, (-1)) = some 2 := by decide +kernel
theorem pf104 : f6_isFull ll7 2 = some 0 := by decide +kernel
theorem pf105 : f2_advance TX (1, 147, 152, 0, 0, (-1)) = some (2, 153, 154, 0, 0, (-1)) := by decide +kernel
theorem pf106 : LL_chambers ll7 - 1 = 2 := by decide +kernel
theorem pf107 : f2_advance TX (2, 153, 154, 0, 0, (-1)) = some (1, 155, 158, 0, 0, (-1)) := by decide +kernel
theorem pf108 : f2_readNumber TX (2, 153, 154, 0, 0, (-1)) 0 2 = some (0, (1, 155, 158, 0, 0, (-1))) := by
  unfold f2_readNumber
  rw [if_pos (by decide), if_pos (by decide), if_neg (by decide), if_neg (by decide), if_pos (by decide), pf107, sbind]
  rfl
theorem pf109 : f2_isWord TX (1, 155, 158, 0, 0, (-1)) 4 = some 1 := by decide +kernel
theorem pf110 : f2_advance TX (1, 155, 158, 0, 0, (-1)) = some (2, 159, 160, 3, 0, (-1)) := by decide +kernel
theorem pf111 : f6_readOtherSide TX ll7 (1, 155, 158, 0, 0, (-1)) 0 = some (8, (2, 159, 160, 3, 0, (-1))) := by
  unfold f6_readOtherSide
  rw [if_pos (by decide), pf109, sbind, if_neg (by decide), pf110, sbind]
theorem pf112 : f2_advance TX (2, 159, 160, 3, 0, (-1)) = some (2, 161, 168, 1000000, 0, (-1)) := by decide +kernel
theorem pf113 : f2_readNumber TX (2, 159, 160, 3, 0, (-1)) 1 999 = some (3, (2, 161, 168, 1000000, 0, (-1))) := by
  unfold f2_readNumber
  rw [if_pos (by decide), if_pos (by decide), if_neg (by decide), if_neg (by decide), if_pos (by decide), pf112, sbind]
  rfl
theorem pf114 : f2_advance TX (2, 161, 168, 1000000, 0, (-1)) = some (3, 168, 169, 0, 0, (-1)) := by decide +kernel
theorem pf115 : f2_readNumber TX (2, 161, 168, 1000000, 0, (-1)) 0 1000000 = some (1000000, (3, 168, 169, 0, 0, (-1))) := by
  unfold f2_readNumber
  rw [if_pos (by decide), if_pos (by decide), if_neg (by decide), if_neg (by decide), if_pos (by decide), pf114, sbind]
  rfl
theorem pf116 : f2_readSemicolon TX (3, 168, 169, 0, 0, (-1)) = some (1, 169, 174, 0, 0, (-1)) := by decide +kernel
def ll8 : LL := (f1_addValve ll7 0 8 3 1000000).getD L00
theorem pl8 : f1_addValve ll7 0 8 3 1000000 = some ll8 := some_gD L00 (by decide +kernel)
theorem pr7 : f6_readValve TX (2, 153, 154, 0, 0, (-1)) ll7 = some ((1, 169, 174, 0, 0, (-1)), ll8) := by
  unfold f6_readValve
  rw [pf106, pf108, sbind]
  try dsimp only
  rw [pf111, sbind]
  try dsimp only
  rw [pf113, sbind]
  try dsimp only
  rw [pf115, sbind]
  try dsimp only
  rw [pf116, sbind]
  try dsimp only
  rw [if_pos (by decide), pl8, sbind]
theorem pf117 : ¬ (LL_chambers ll7 = 0) := by decide +kernel
theorem ps7 (fu : Nat) : f6_parse_B18 TX (fu + 1) (1, 147, 152, 0, 0, (-1)) ll7 2 7 = f6_parse_B18 TX fu (1, 169, 174, 0, 0, (-1)) ll8 2 (7 + 1) := by
  rw [f6_parse_B18, if_neg (by decide), if_neg (by decide), if_pos (by decide), pf103, sbind, if_neg (by decide)]
  rw [if_neg (by decide), if_neg pf117]
  unfold f6_parse_B87
  rw [pf104, sbind, if_pos rfl, pf105, sbind]
  rw [if_neg (by decide), if_neg (by decide), if_pos rfl, pr7, sbind]
theorem pf118 : f6_section TX (1, 169, 174, 0, 0, (-1)) = some 2 := by decide +kernel
theorem pf119 : f6_isFull ll8 2 = some 0 := by decide +kernel
theorem pf120 : f2_advance TX (1, 169, 174, 0, 0, (-1)) = some (2, 175, 176, 1, 0, (-1)) := by decide +kernel
theorem pf121 : LL_chambers ll8 - 1 = 2 := by decide +kernel
theorem pf122 : f2_advance TX (2, 175, 176, 1, 0, (-1)) = some (1, 177, 180, 0, 0, (-1)) := by decide +kernel
theorem pf123 : f2_readNumber TX (2, 175, 176, 1, 0, (-1)) 0 2 = some (1, (1, 177, 180, 0, 0, (-1))) := by
  unfold f2_readNumber
  rw [if_pos (by decide), if_pos (by decide), if_neg (by decide), if_neg (by decide), if_pos (by decide), pf122, sbind]
  rfl
theorem pf124 : f2_isWord TX (1, 177, 180, 0, 0, (-1)) 4 = some 1 := by decide +kernel
theorem pf125 : f2_advance TX (1, 177, 180, 0, 0, (-1)) = some (2, 181, 182, 2, 0, (-1)) := by decide +kernel
theorem pf126 : f6_readOtherSide TX ll8 (1, 177, 180, 0, 0, (-1)) 1 = some (8, (2, 181, 182, 2, 0, (-1))) := by
  unfold f6_readOtherSide
  rw [if_pos (by decide), pf124, sbind, if_neg (by decide), pf125, sbind]
theorem pf127 : f2_advance TX (2, 181, 182, 2, 0, (-1)) = some (2, 183, 189, 400000, 0, (-1)) := by decide +kernel
theorem pf128 : f2_readNumber TX (2, 181, 182, 2, 0, (-1)) 1 999 = some (2, (2, 183, 189, 400000, 0, (-1))) := by
  unfold f2_readNumber
  rw [if_pos (by decide), if_pos (by decide), if_neg (by decide), if_neg (by decide), if_pos (by decide), pf127, sbind]
  rfl
theorem pf129 : f2_advance TX (2, 183, 189, 400000, 0, (-1)) = some (3, 189, 190, 0, 0, (-1)) := by decide +kernel
theorem pf130 : f2_readNumber TX (2, 183, 189, 400000, 0, (-1)) 0 1000000 = some (400000, (3, 189, 190, 0, 0, (-1))) := by
  unfold f2_readNumber
  rw [if_pos (by decide), if_pos (by decide), if_neg (by decide), if_neg (by decide), if_pos (by decide), pf129, sbind]
  rfl
theorem pf131 : f2_readSemicolon TX (3, 189, 190, 0, 0, (-1)) = some (1, 190, 196, 0, 0, (-1)) := by decide +kernel
def ll9 : LL := (f1_addValve ll8 1 8 2 400000).getD L00
theorem pl9 : f1_addValve ll8 1 8 2 400000 = some ll9 := some_gD L00 (by decide +kernel)
theorem pr8 : f6_readValve TX (2, 175, 176, 1, 0, (-1)) ll8 = some ((1, 190, 196, 0, 0, (-1)), ll9) := by
  unfold f6_readValve
  rw [pf121, pf123, sbind]
  try dsimp only
  rw [pf126, sbind]
  try dsimp only
  rw [pf128, sbind]
  try dsimp only
  rw [pf130, sbind]
  try dsimp only
  rw [pf131, sbind]
  try dsimp only
  rw [if_pos (by decide), pl9, sbind]
theorem pf132 : ¬ (LL_chambers ll8 = 0) := by decide +kernel
theorem ps8 (fu : Nat) : f6_parse_B18 TX (fu + 1) (1, 169, 174, 0, 0, (-1)) ll8 2 8 = f6_parse_B18 TX fu (1, 190, 196, 0, 0, (-1)) ll9 2 (8 + 1) := by
  rw [f6_parse_B18, if_neg (by decide), if_neg (by decide), if_pos (by decide), pf118, sbind, if_neg (by decide)]
  rw [if_neg (by decide), if_neg pf132]
  unfold f6_parse_B87
  rw [pf119, sbind, if_pos rfl, pf120, sbind]
  rw [if_neg (by decide), if_neg (by decide), if_pos rfl, pr8, sbind]
theorem pf133 : f6_section TX (1, 190, 196, 0, 0, (-1)) = some 3 := by decide +kernel
theorem pf134 : f6_isFull ll9 3 = some 0 := by decide +kernel
theorem pf135 : f2_advance TX (1, 190, 196, 0, 0, (-1)) = some (2, 197, 198, 0, 0, (-1)) := by decide +kernel
theorem pf136 : LL_chambers ll9 - 1 = 2 := by decide +kernel
theorem pf137 : f2_advance TX (2, 197, 198, 0, 0, (-1)) = some (2, 199, 201, 50, 0, (-1)) := by decide +kernel
theorem pf138 : f2_readNumber TX (2, 197, 198, 0, 0, (-1)) 0 2 = some (0, (2, 199, 201, 50, 0, (-1))) := by
  unfold f2_readNumber
  rw [if_pos (by decide), if_pos (by decide), if_neg (by decide), if_neg (by decide), if_pos (by decide), pf137, sbind]
  rfl
theorem pf139 : f2_advance TX (2, 199, 201, 50, 0, (-1)) = some (3, 201, 202, 0, 0, (-1)) := by decide +kernel
theorem pf140 : f2_readNumber TX (2, 199, 201, 50, 0, (-1)) 0 9999 = some (50, (3, 201, 202, 0, 0, (-1))) := by
  unfold f2_readNumber
  rw [if_pos (by decide), if_pos (by decide), if_neg (by decide), if_neg (by decide), if_pos (by decide), pf139, sbind]
  rfl
theorem pf141 : f2_readSemicolon TX (3, 201, 202, 0, 0, (-1)) = some (1, 202, 208, 0, 0, (-1)) := by decide +kernel
def ll10 : LL := (f1_addFlange ll9 0 50).getD L00
theorem pl10 : f1_addFlange ll9 0 50 = some ll10 := some_gD L00 (by decide +kernel)
theorem pr9 : f6_readFlange TX (2, 197, 198, 0, 0, (-1)) ll9 = some ((1, 202, 208, 0, 0, (-1)), ll10) := by
  unfold f6_readFlange
  rw [pf136, pf138, sbind]
  try dsimp only
  rw [pf140, sbind]
  try dsimp only
  rw [pf141, sbind]
  try dsimp only
  rw [if_pos (by decide), pl10, sbind]
theorem pf142 : ¬ (LL_chambers ll9 = 0) := by decide +kernel
theorem ps9 (fu : Nat) : f6_parse_B18 TX (fu + 1) (1, 190, 196, 0, 0, (-1)) ll9 2 9 = f6_parse_B18 TX fu (1, 202, 208, 0, 0, (-1)) ll10 3 (9 + 1) := by
  rw [f6_parse_B18, if_neg (by decide), if_neg (by decide), if_pos (by decide), pf133, sbind, if_neg (by decide)]
  rw [if_neg (by decide), if_neg pf142]
  unfold f6_parse_B87
  rw [pf134, sbind, if_pos rfl, pf135, sbind]
  rw [if_neg (by decide), if_neg (by decide), if_neg (by decide), pr9, sbind]
theorem pf143 : f6_section TX (1, 202, 208, 0, 0, (-1)) = some 3 := by decide +kernel
theorem pf144 : f6_isFull ll10 3 = some 0 := by decide +kernel
theorem pf145 : f2_advance TX (1, 202, 208, 0, 0, (-1)) = some (2, 209, 210, 0, 0, (-1)) := by decide +kernel
theorem pf146 : LL_chambers ll10 - 1 = 2 := by decide +kernel
theorem pf147 : f2_advance TX (2, 209, 210, 0, 0, (-1)) = some (2, 211, 212, 0, 0, (-1)) := by decide +kernel
theorem pf148 : f2_readNumber TX (2, 209, 210, 0, 0, (-1)) 0 2 = some (0, (2, 211, 212, 0, 0, (-1))) := by
  unfold f2_readNumber
  rw [if_pos (by decide), if_pos (by decide), if_neg (by decide), if_neg (by decide), if_pos (by decide), pf147, sbind]
  rfl
theorem pf149 : f2_advance TX (2, 211, 212, 0, 0, (-1)) = some (3, 212, 213, 0, 0, (-1)) := by decide +kernel
theorem pf150 : f2_readNumber TX (2, 211, 212, 0, 0, (-1)) 0 9999 = some (0, (3, 212, 213, 0, 0, (-1))) := by
  unfold f2_readNumber
  rw [if_pos (by decide), if_pos (by decide), if_neg (by decide), if_neg (by decide), if_pos (by decide), pf149, sbind]
  rfl
theorem pf151 : f2_readSemicolon TX (3, 212, 213, 0, 0, (-1)) = some (1, 213, 219, 0, 0, (-1)) := by decide +kernel
def ll11 : LL := (f1_addFlange ll10 0 0).getD L00
theorem pl11 : f1_addFlange ll10 0 0 = some ll11 := some_gD L00 (by decide +kernel)
theorem pr10 : f6_readFlange TX (2, 209, 210, 0, 0, (-1)) ll10 = some ((1, 213, 219, 0, 0, (-1)), ll11) := by
  unfold f6_readFlange
  rw [pf146, pf148, sbind]
  try dsimp only
  rw [pf150, sbind]
  try dsimp only
  rw [pf151, sbind]
  try dsimp only
  rw [if_pos (by decide), pl11, sbind]
theorem pf152 : ¬ (LL_chambers ll10 = 0) := by decide +kernel
theorem ps10 (fu : Nat) : f6_parse_B18 TX (fu + 1) (1, 202, 208, 0, 0, (-1)) ll10 3 10 = f6_parse_B18 TX fu (1, 213, 219, 0, 0, (-1)) ll11 3 (10 + 1) := by
  rw [f6_parse_B18, if_neg (by decide), if_neg (by decide), if_pos (by decide), pf143, sbind, if_neg (by decide)]
  rw [if_neg (by decide), if_neg pf152]
  unfold f6_parse_B87
  rw [pf144, sbind, if_pos rfl, pf145, sbind]
  rw [if_neg (by decide), if_neg (by decide), if_neg (by decide), pr10, sbind]
theorem pf153 : f6_section TX (1, 213, 219, 0, 0, (-1)) = some 3 := by decide +kernel
theorem pf154 : f6_isFull ll11 3 = some 0 := by decide +kernel
theorem pf155 : f2_advance TX (1, 213, 219, 0, 0, (-1)) = some (2, 220, 221, 1, 0, (-1)) := by decide +kernel
theorem pf156 : LL_chambers ll11 - 1 = 2 := by decide +kernel
theorem pf157 : f2_advance TX (2, 220, 221, 1, 0, (-1)) = some (2, 222, 223, 7, 0, (-1)) := by decide +kernel
theorem pf158 : f2_readNumber TX (2, 220, 221, 1, 0, (-1)) 0 2 = some (1, (2, 222, 223, 7, 0, (-1))) := by
  unfold f2_readNumber
  rw [if_pos (by decide), if_pos (by decide), if_neg (by decide), if_neg (by decide), if_pos (by decide), pf157, sbind]
  rfl
theorem pf159 : f2_advance TX (2, 222, 223, 7, 0, (-1)) = some (3, 223, 224, 0, 0, (-1)) := by decide +kernel
theorem pf160 : f2_readNumber TX (2, 222, 223, 7, 0, (-1)) 0 9999 = some (7, (3, 223, 224, 0, 0, (-1))) := by
  unfold f2_readNumber
  rw [if_pos (by decide), if_pos (by decide), if_neg (by decide), if_neg (by decide), if_pos (by decide), pf159, sbind]
  rfl
theorem pf161 : f2_readSemicolon TX (3, 223, 224, 0, 0, (-1)) = some (1, 224, 230, 0, 0, (-1)) := by decide +kernel
def ll12 : LL := (f1_addFlange ll11 1 7).getD L00
theorem pl12 : f1_addFlange ll11 1 7 = some ll12 := some_gD L00 (by decide +kernel)
theorem pr11 : f6_readFlange TX (2, 220, 221, 1, 0, (-1)) ll11 = some ((1, 224, 230, 0, 0, (-1)), ll12) := by
  unfold f6_readFlange
  rw [pf156, pf158, sbind]
  try dsimp only
  rw [pf160, sbind]
  try dsimp only
  rw [pf161, sbind]
  try dsimp only
  rw [if_pos (by decide), pl12, sbind]
theorem pf162 : ¬ (LL_chambers ll11 = 0) := by decide +kernel
theorem ps11 (fu : Nat) : f6_parse_B18 TX (fu + 1) (1, 213, 219, 0, 0, (-1)) ll11 3 11 = f6_parse_B18 TX fu (1, 224, 230, 0, 0, (-1)) ll12 3 (11 + 1) := by
  rw [f6_parse_B18, if_neg (by decide), if_neg (by decide), if_pos (by decide), pf153, sbind, if_neg (by decide)]
  rw [if_neg (by decide), if_neg pf162]
  unfold f6_parse_B87
  rw [pf154, sbind, if_pos rfl, pf155, sbind]
  rw [if_neg (by decide), if_neg (by decide), if_neg (by decide), pr11, sbind]
theorem pf163 : f6_section TX (1, 224, 230, 0, 0, (-1)) = some 3 := by decide +kernel
theorem pf164 : f6_isFull ll12 3 = some 0 := by decide +kernel
theorem pf165 : f2_advance TX (1, 224, 230, 0, 0, (-1)) = some (2, 231, 232, 2, 0, (-1)) := by decide +kernel
theorem pf166 : LL_chambers ll12 - 1 = 2 := by decide +kernel
theorem pf167 : f2_advance TX (2, 231, 232, 2, 0, (-1)) = some (2, 233, 236, 300, 0, (-1)) := by decide +kernel
theorem pf168 : f2_readNumber TX (2, 231, 232, 2, 0, (-1)) 0 2 = some (2, (2, 233, 236, 300, 0, (-1))) := by
  unfold f2_readNumber
  rw [if_pos (by decide), if_pos (by decide), if_neg (by decide), if_neg (by decide), if_pos (by decide), pf167, sbind]
  rfl
theorem pf169 : f2_advance TX (2, 233, 236, 300, 0, (-1)) = some (3, 236, 237, 0, 0, (-1)) := by decide +kernel
theorem pf170 : f2_readNumber TX (2, 233, 236, 300, 0, (-1)) 0 9999 = some (300, (3, 236, 237, 0, 0, (-1))) := by
  unfold f2_readNumber
  rw [if_pos (by decide), if_pos (by decide), if_neg (by decide), if_neg (by decide), if_pos (by decide), pf169, sbind]
  rfl
theorem pf171 : f2_readSemicolon TX (3, 236, 237, 0, 0, (-1)) = some (1, 237, 243, 0, 0, (-1)) := by decide +kernel
def ll13 : LL := (f1_addFlange ll12 2 300).getD L00
theorem pl13 : f1_addFlange ll12 2 300 = some ll13 := some_gD L00 (by decide +kernel)
theorem pr12 : f6_readFlange TX (2, 231, 232, 2, 0, (-1)) ll12 = some ((1, 237, 243, 0, 0, (-1)), ll13) := by
  unfold f6_readFlange
  rw [pf166, pf168, sbind]
  try dsimp only
  rw [pf170, sbind]
  try dsimp only
  rw [pf171, sbind]
  try dsimp only
  rw [if_pos (by decide), pl13, sbind]
theorem pf172 : ¬ (LL_chambers ll12 = 0) := by decide +kernel
theorem ps12 (fu : Nat) : f6_parse_B18 TX (fu + 1) (1, 224, 230, 0, 0, (-1)) ll12 3 12 = f6_parse_B18 TX fu (1, 237, 243, 0, 0, (-1)) ll13 3 (12 + 1) := by
  rw [f6_parse_B18, if_neg (by decide), if_neg (by decide), if_pos (by decide), pf163, sbind, if_neg (by decide)]
  rw [if_neg (by decide), if_neg pf172]
  unfold f6_parse_B87
  rw [pf164, sbind, if_pos rfl, pf165, sbind]
  rw [if_neg (by decide), if_neg (by decide), if_neg (by decide), pr12, sbind]
theorem pf173 : f6_section TX (1, 237, 243, 0, 0, (-1)) = some 3 := by decide +kernel
theorem pf174 : f6_isFull ll13 3 = some 0 := by decide +kernel
theorem pf175 : f2_advance TX (1, 237, 243, 0, 0, (-1)) = some (2, 244, 245, 0, 0, (-1)) := by decide +kernel
theorem pf176 : LL_chambers ll13 - 1 = 2 := by decide +kernel
theorem pf177 : f2_advance TX (2, 244, 245, 0, 0, (-1)) = some (2, 246, 248, 12, 0, (-1)) := by decide +kernel
theorem pf178 : f2_readNumber TX (2, 244, 245, 0, 0, (-1)) 0 2 = some (0, (2, 246, 248, 12, 0, (-1))) := by
  unfold f2_readNumber
  rw [if_pos (by decide), if_pos (by decide), if_neg (by decide), if_neg (by decide), if_pos (by decide), pf177, sbind]
  rfl
theorem pf179 : f2_advance TX (2, 246, 248, 12, 0, (-1)) = some (3, 248, 249, 0, 0, (-1)) := by decide +kernel
theorem pf180 : f2_readNumber TX (2, 246, 248, 12, 0, (-1)) 0 9999 = some (12, (3, 248, 249, 0, 0, (-1))) := by
  unfold f2_readNumber
  rw [if_pos (by decide), if_pos (by decide), if_neg (by decide), if_neg (by decide), if_pos (by decide), pf179, sbind]
  rfl
theorem pf181 : f2_readSemicolon TX (3, 248, 249, 0, 0, (-1)) = some (0, 249, 249, 0, 0, (-1)) := by decide +kernel
def ll14 : LL := (f1_addFlange ll13 0 12).getD L00
theorem pl14 : f1_addFlange ll13 0 12 = some ll14 := some_gD L00 (by decide +kernel)
theorem pr13 : f6_readFlange TX (2, 244, 245, 0, 0, (-1)) ll13 = some ((0, 249, 249, 0, 0, (-1)), ll14) := by
  unfold f6_readFlange
  rw [pf176, pf178, sbind]
  try dsimp only
  rw [pf180, sbind]
  try dsimp only
  rw [pf181, sbind]
  try dsimp only
  rw [if_pos (by decide), pl14, sbind]
theorem pf182 : ¬ (LL_chambers ll13 = 0) := by decide +kernel
theorem ps13 (fu : Nat) : f6_parse_B18 TX (fu + 1) (1, 237, 243, 0, 0, (-1)) ll13 3 13 = f6_parse_B18 TX fu (0, 249, 249, 0, 0, (-1)) ll14 3 (13 + 1) := by
  rw [f6_parse_B18, if_neg (by decide), if_neg (by decide), if_pos (by decide), pf173, sbind, if_neg (by decide)]
  rw [if_neg (by decide), if_neg pf182]
  unfold f6_parse_B87
  rw [pf174, sbind, if_pos rfl, pf175, sbind]
  rw [if_neg (by decide), if_neg (by decide), if_neg (by decide), pr13, sbind]
theorem pf183 : ¬ (LL_chambers ll14 = 0) := by decide +kernel
theorem p_all : f6_parse TX R00 L00 = some (1, (0, 249, 249, 0, 0, (-1)), ll14) := by
  unfold f6_parse
  rw [pl0, sbind, pb, sbind, show FU = 4096 from rfl, show rr0 = (1, 0, 7, 0, 0, (-1)) from rfl, show f6_parse_B18 TX 4096 (1, 0, 7, 0, 0, (-1)) ll0 0 0 = f6_parse_B18 TX 4095 (1, 18, 25, 0, 0, (-1)) ll1 0 (0 + 1) from ps0 4095, show f6_parse_B18 TX 4095 (1, 18, 25, 0, 0, (-1)) ll1 0 (0 + 1) = f6_parse_B18 TX 4094 (1, 33, 40, 0, 0, (-1)) ll2 0 (1 + 1) from ps1 4094, show f6_parse_B18 TX 4094 (1, 33, 40, 0, 0, (-1)) ll2 0 (1 + 1) = f6_parse_B18 TX 4093 (1, 49, 53, 0, 0, (-1)) ll3 0 (2 + 1) from ps2 4093, show f6_parse_B18 TX 4093 (1, 49, 53, 0, 0, (-1)) ll3 0 (2 + 1) = f6_parse_B18 TX 4092 (1, 81, 85, 0, 0, (-1)) ll4 1 (3 + 1) from ps3 4092, show f6_parse_B18 TX 4092 (1, 81, 85, 0, 0, (-1)) ll4 1 (3 + 1) = f6_parse_B18 TX 4091 (1, 106, 111, 0, 0, (-1)) ll5 1 (4 + 1) from ps4 4091, show f6_parse_B18 TX 4091 (1, 106, 111, 0, 0, (-1)) ll5 1 (4 + 1) = f6_parse_B18 TX 4090 (1, 126, 131, 0, 0, (-1)) ll6 2 (5 + 1) from ps5 4090, show f6_parse_B18 TX 4090 (1, 126, 131, 0, 0, (-1)) ll6 2 (5 + 1) = f6_parse_B18 TX 4089 (1, 147, 152, 0, 0, (-1)) ll7 2 (6 + 1) from ps6 4089, show f6_parse_B18 TX 4089 (1, 147, 152, 0, 0, (-1)) ll7 2 (6 + 1) = f6_parse_B18 TX 4088 (1, 169, 174, 0, 0, (-1)) ll8 2 (7 + 1) from ps7 4088, show f6_parse_B18 TX 4088 (1, 169, 174, 0, 0, (-1)) ll8 2 (7 + 1) = f6_parse_B18 TX 4087 (1, 190, 196, 0, 0, (-1)) ll9 2 (8 + 1) from ps8 4087, show f6_parse_B18 TX 4087 (1, 190, 196, 0, 0, (-1)) ll9 2 (8 + 1) = f6_parse_B18 TX 4086 (1, 202, 208, 0, 0, (-1)) ll10 3 (9 + 1) from ps9 4086, show f6_parse_B18 TX 4086 (1, 202, 208, 0, 0, (-1)) ll10 3 (9 + 1) = f6_parse_B18 TX 4085 (1, 213, 219, 0, 0, (-1)) ll11 3 (10 + 1) from ps10 4085, show f6_parse_B18 TX 4085 (1, 213, 219, 0, 0, (-1)) ll11 3 (10 + 1) = f6_parse_B18 TX 4084 (1, 224, 230, 0, 0, (-1)) ll12 3 (11 + 1) from ps11 4084, show f6_parse_B18 TX 4084 (1, 224, 230, 0, 0, (-1)) ll12 3 (11 + 1) = f6_parse_B18 TX 4083 (1, 237, 243, 0, 0, (-1)) ll13 3 (12 + 1) from ps12 4083, show f6_parse_B18 TX 4083 (1, 237, 243, 0, 0, (-1)) ll13 3 (12 + 1) = f6_parse_B18 TX 4082 (0, 249, 249, 0, 0, (-1)) ll14 3 (13 + 1) from ps13 4082]
  rw [f6_parse_B18, if_neg (by decide), if_pos (by decide)]
  unfold f6_parse_B179 f6_parse_B204
  rw [if_neg pf183]
  rfl
def LLE : LL := ll14
def RRE : RR := (0, 249, 249, 0, 0, (-1))
theorem p_all' : f6_parse TX R00 L00 = some (1, RRE, LLE) := p_all
