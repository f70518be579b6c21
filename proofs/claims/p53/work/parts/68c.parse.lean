/-! the text read -/
theorem some_gD {α : Type} {o : Option α} (x : α) (h : o.isSome = true) : o = some (o.getD x) := by
  cases o with
  | none => cases h
  | some v => rfl
def rr0 : RR := (1, 0, 7, 0, 0, (-1))
theorem pb : f2_begin TX R00 = some rr0 := by decide +kernel
def ll0 : LL := (f1_clear L00).getD L00
theorem pl0 : f1_clear L00 = some ll0 := some_gD L00 (by decide +kernel)
theorem pf1 : f6_section TX (1, 0, 7, 0, 0, (-1)) = some 0 := by decide +kernel
theorem pf2 : f6_isFull ll0 0 = some 0 := by decide +kernel
theorem pf3 : f2_advance TX (1, 0, 7, 0, 0, (-1)) = some (2, 8, 10, 50, 0, (-1)) := by decide +kernel
theorem pf4 : f2_readNumber TX (2, 8, 10, 50, 0, (-1)) 1 999 = some (50, (2, 11, 14, 200, 0, (-1))) := by decide +kernel
theorem pf5 : f2_readNumber TX (2, 11, 14, 200, 0, (-1)) 0 9999 = some (200, (2, 15, 17, 40, 0, (-1))) := by decide +kernel
theorem pf6 : f2_readNumber TX (2, 15, 17, 40, 0, (-1)) 0 999 = some (40, (3, 17, 18, 0, 0, (-1))) := by decide +kernel
theorem pf7 : f2_readSemicolon TX (3, 17, 18, 0, 0, (-1)) = some (1, 18, 25, 0, 0, (-1)) := by decide +kernel
def ll1 : LL := (f1_addChamber ll0 50 200 40).getD L00
theorem pl1 : f1_addChamber ll0 50 200 40 = some ll1 := some_gD L00 (by decide +kernel)
theorem pr0 : f6_readChamber TX (2, 8, 10, 50, 0, (-1)) ll0 = some ((1, 18, 25, 0, 0, (-1)), ll1) := by
  unfold f6_readChamber
  rw [pf4, sbind]
  try dsimp only
  rw [pf5, sbind]
  try dsimp only
  rw [pf6, sbind]
  try dsimp only
  rw [pf7, sbind]
  try dsimp only
  rw [if_pos (by decide), pl1, sbind]
theorem ps0 (fu : Nat) : f6_parse_B18 TX (fu + 1) (1, 0, 7, 0, 0, (-1)) ll0 0 0 = f6_parse_B18 TX fu (1, 18, 25, 0, 0, (-1)) ll1 0 (0 + 1) := by
  rw [f6_parse_B18, if_neg (by decide), if_neg (by decide), if_pos (by decide), pf1, sbind, if_neg (by decide)]
  rw [if_pos (by decide)]
  unfold f6_parse_B87
  rw [pf2, sbind, if_pos rfl, pf3, sbind]
  rw [if_pos rfl, pr0, sbind]
theorem pf8 : f6_section TX (1, 18, 25, 0, 0, (-1)) = some 0 := by decide +kernel
theorem pf9 : f6_isFull ll1 0 = some 0 := by decide +kernel
theorem pf10 : f2_advance TX (1, 18, 25, 0, 0, (-1)) = some (2, 26, 28, 20, 0, (-1)) := by decide +kernel
theorem pf11 : f2_readNumber TX (2, 26, 28, 20, 0, (-1)) 1 999 = some (20, (2, 29, 30, 0, 0, (-1))) := by decide +kernel
theorem pf12 : f2_readNumber TX (2, 29, 30, 0, 0, (-1)) 0 9999 = some (0, (2, 31, 32, 0, 0, (-1))) := by decide +kernel
theorem pf13 : f2_readNumber TX (2, 31, 32, 0, 0, (-1)) 0 999 = some (0, (3, 32, 33, 0, 0, (-1))) := by decide +kernel
theorem pf14 : f2_readSemicolon TX (3, 32, 33, 0, 0, (-1)) = some (1, 33, 40, 0, 0, (-1)) := by decide +kernel
def ll2 : LL := (f1_addChamber ll1 20 0 0).getD L00
theorem pl2 : f1_addChamber ll1 20 0 0 = some ll2 := some_gD L00 (by decide +kernel)
theorem pr1 : f6_readChamber TX (2, 26, 28, 20, 0, (-1)) ll1 = some ((1, 33, 40, 0, 0, (-1)), ll2) := by
  unfold f6_readChamber
  rw [pf11, sbind]
  try dsimp only
  rw [pf12, sbind]
  try dsimp only
  rw [pf13, sbind]
  try dsimp only
  rw [pf14, sbind]
  try dsimp only
  rw [if_pos (by decide), pl2, sbind]
theorem ps1 (fu : Nat) : f6_parse_B18 TX (fu + 1) (1, 18, 25, 0, 0, (-1)) ll1 0 1 = f6_parse_B18 TX fu (1, 33, 40, 0, 0, (-1)) ll2 0 (1 + 1) := by
  rw [f6_parse_B18, if_neg (by decide), if_neg (by decide), if_pos (by decide), pf8, sbind, if_neg (by decide)]
  rw [if_pos (by decide)]
  unfold f6_parse_B87
  rw [pf9, sbind, if_pos rfl, pf10, sbind]
  rw [if_pos rfl, pr1, sbind]
theorem pf15 : f6_section TX (1, 33, 40, 0, 0, (-1)) = some 0 := by decide +kernel
theorem pf16 : f6_isFull ll2 0 = some 0 := by decide +kernel
theorem pf17 : f2_advance TX (1, 33, 40, 0, 0, (-1)) = some (2, 41, 42, 5, 0, (-1)) := by decide +kernel
theorem pf18 : f2_readNumber TX (2, 41, 42, 5, 0, (-1)) 1 999 = some (5, (2, 43, 45, 30, 0, (-1))) := by decide +kernel
theorem pf19 : f2_readNumber TX (2, 43, 45, 30, 0, (-1)) 0 9999 = some (30, (2, 46, 48, 10, 0, (-1))) := by decide +kernel
theorem pf20 : f2_readNumber TX (2, 46, 48, 10, 0, (-1)) 0 999 = some (10, (3, 48, 49, 0, 0, (-1))) := by decide +kernel
theorem pf21 : f2_readSemicolon TX (3, 48, 49, 0, 0, (-1)) = some (1, 49, 53, 0, 0, (-1)) := by decide +kernel
def ll3 : LL := (f1_addChamber ll2 5 30 10).getD L00
theorem pl3 : f1_addChamber ll2 5 30 10 = some ll3 := some_gD L00 (by decide +kernel)
theorem pr2 : f6_readChamber TX (2, 41, 42, 5, 0, (-1)) ll2 = some ((1, 49, 53, 0, 0, (-1)), ll3) := by
  unfold f6_readChamber
  rw [pf18, sbind]
  try dsimp only
  rw [pf19, sbind]
  try dsimp only
  rw [pf20, sbind]
  try dsimp only
  rw [pf21, sbind]
  try dsimp only
  rw [if_pos (by decide), pl3, sbind]
theorem ps2 (fu : Nat) : f6_parse_B18 TX (fu + 1) (1, 33, 40, 0, 0, (-1)) ll2 0 2 = f6_parse_B18 TX fu (1, 49, 53, 0, 0, (-1)) ll3 0 (2 + 1) := by
  rw [f6_parse_B18, if_neg (by decide), if_neg (by decide), if_pos (by decide), pf15, sbind, if_neg (by decide)]
  rw [if_pos (by decide)]
  unfold f6_parse_B87
  rw [pf16, sbind, if_pos rfl, pf17, sbind]
  rw [if_pos rfl, pr2, sbind]
theorem pf22 : f6_section TX (1, 49, 53, 0, 0, (-1)) = some 1 := by decide +kernel
theorem pf23 : f6_isFull ll3 1 = some 0 := by decide +kernel
theorem pf24 : f2_advance TX (1, 49, 53, 0, 0, (-1)) = some (2, 54, 55, 0, 0, (-1)) := by decide +kernel
theorem pf25 : LL_chambers ll3 - 1 = 2 := by decide +kernel
theorem pf26 : f2_readNumber TX (2, 54, 55, 0, 0, (-1)) 0 2 = some (0, (2, 56, 57, 2, 0, (-1))) := by decide +kernel
theorem pf27 : f2_isWord TX (2, 56, 57, 2, 0, (-1)) 4 = some 0 := by decide +kernel
theorem pf28 : LL_chambers ll3 - 1 = 2 := by decide +kernel
theorem pf29 : f2_readNumber TX (2, 56, 57, 2, 0, (-1)) 0 2 = some (2, (2, 58, 60, 15, 0, (-1))) := by decide +kernel
theorem pf30 : f6_readOtherSide TX ll3 (2, 56, 57, 2, 0, (-1)) 0 = some (2, (2, 58, 60, 15, 0, (-1))) := by
  unfold f6_readOtherSide f6_readOtherSide_B32
  rw [if_pos (by decide), pf27, sbind, if_pos (by decide), pf28, pf29, sbind]
  dsimp only
  rw [if_pos (by decide), if_neg (by decide)]
theorem pf31 : f2_readNumber TX (2, 58, 60, 15, 0, (-1)) 1 999 = some (15, (2, 61, 64, 100, 0, (-1))) := by decide +kernel
theorem pf32 : f2_readNumber TX (2, 61, 64, 100, 0, (-1)) 0 1000000 = some (100, (2, 65, 72, 1000000, 0, (-1))) := by decide +kernel
theorem pf33 : f2_readNumber TX (2, 65, 72, 1000000, 0, (-1)) 100 1000000 = some (1000000, (2, 73, 80, 1000000, 0, (-1))) := by decide +kernel
theorem pf34 : f2_readNumber TX (2, 73, 80, 1000000, 0, (-1)) 0 1000000 = some (1000000, (3, 80, 81, 0, 0, (-1))) := by decide +kernel
theorem pf35 : f2_readSemicolon TX (3, 80, 81, 0, 0, (-1)) = some (1, 81, 85, 0, 0, (-1)) := by decide +kernel
def ll4 : LL := (f1_addPump ll3 0 2 15 100 1000000 1000000).getD L00
theorem pl4 : f1_addPump ll3 0 2 15 100 1000000 1000000 = some ll4 := some_gD L00 (by decide +kernel)
theorem pr3 : f6_readPump TX (2, 54, 55, 0, 0, (-1)) ll3 = some ((1, 81, 85, 0, 0, (-1)), ll4) := by
  unfold f6_readPump
  rw [pf25, pf26, sbind]
  try dsimp only
  rw [pf30, sbind]
  try dsimp only
  rw [pf31, sbind]
  try dsimp only
  rw [pf32, sbind]
  try dsimp only
  rw [pf33, sbind]
  try dsimp only
  rw [if_neg (show ¬ ((2 : Int32) = 8) by decide), pf34, sbind]
  try dsimp only
  unfold f6_readPump_B82
  rw [pf35, sbind]
  try dsimp only
  rw [if_pos (by decide), pl4, sbind]
theorem pf36 : ¬ (LL_chambers ll3 = 0) := by decide +kernel
theorem ps3 (fu : Nat) : f6_parse_B18 TX (fu + 1) (1, 49, 53, 0, 0, (-1)) ll3 0 3 = f6_parse_B18 TX fu (1, 81, 85, 0, 0, (-1)) ll4 1 (3 + 1) := by
  rw [f6_parse_B18, if_neg (by decide), if_neg (by decide), if_pos (by decide), pf22, sbind, if_neg (by decide)]
  rw [if_neg (by decide), if_neg pf36]
  unfold f6_parse_B87
  rw [pf23, sbind, if_pos rfl, pf24, sbind]
  rw [if_neg (by decide), if_pos rfl, pr3, sbind]
theorem pf37 : f6_section TX (1, 81, 85, 0, 0, (-1)) = some 1 := by decide +kernel
theorem pf38 : f6_isFull ll4 1 = some 0 := by decide +kernel
theorem pf39 : f2_advance TX (1, 81, 85, 0, 0, (-1)) = some (2, 86, 87, 2, 0, (-1)) := by decide +kernel
theorem pf40 : LL_chambers ll4 - 1 = 2 := by decide +kernel
theorem pf41 : f2_readNumber TX (2, 86, 87, 2, 0, (-1)) 0 2 = some (2, (1, 88, 91, 0, 0, (-1))) := by decide +kernel
theorem pf42 : f2_isWord TX (1, 88, 91, 0, 0, (-1)) 4 = some 1 := by decide +kernel
theorem pf43 : f2_advance TX (1, 88, 91, 0, 0, (-1)) = some (2, 92, 93, 8, 0, (-1)) := by decide +kernel
theorem pf44 : f6_readOtherSide TX ll4 (1, 88, 91, 0, 0, (-1)) 2 = some (8, (2, 92, 93, 8, 0, (-1))) := by
  unfold f6_readOtherSide
  rw [if_pos (by decide), pf42, sbind, if_neg (by decide), pf43, sbind]
theorem pf45 : f2_readNumber TX (2, 92, 93, 8, 0, (-1)) 1 999 = some (8, (2, 94, 97, 500, 0, (-1))) := by decide +kernel
theorem pf46 : f2_readNumber TX (2, 94, 97, 500, 0, (-1)) 0 1000000 = some (500, (2, 98, 105, 1000000, 0, (-1))) := by decide +kernel
theorem pf47 : f2_readNumber TX (2, 98, 105, 1000000, 0, (-1)) 500 1000000 = some (1000000, (3, 105, 106, 0, 0, (-1))) := by decide +kernel
theorem pf48 : f2_readSemicolon TX (3, 105, 106, 0, 0, (-1)) = some (1, 106, 111, 0, 0, (-1)) := by decide +kernel
def ll5 : LL := (f1_addPump ll4 2 8 8 500 1000000 1000000).getD L00
theorem pl5 : f1_addPump ll4 2 8 8 500 1000000 1000000 = some ll5 := some_gD L00 (by decide +kernel)
theorem pr4 : f6_readPump TX (2, 86, 87, 2, 0, (-1)) ll4 = some ((1, 106, 111, 0, 0, (-1)), ll5) := by
  unfold f6_readPump
  rw [pf40, pf41, sbind]
  try dsimp only
  rw [pf44, sbind]
  try dsimp only
  rw [pf45, sbind]
  try dsimp only
  rw [pf46, sbind]
  try dsimp only
  rw [pf47, sbind]
  try dsimp only
  rw [if_pos (show (8 : Int32) = 8 from rfl)]
  unfold f6_readPump_B82
  rw [pf48, sbind]
  try dsimp only
  rw [if_pos (by decide), pl5, sbind]
theorem pf49 : ¬ (LL_chambers ll4 = 0) := by decide +kernel
theorem ps4 (fu : Nat) : f6_parse_B18 TX (fu + 1) (1, 81, 85, 0, 0, (-1)) ll4 1 4 = f6_parse_B18 TX fu (1, 106, 111, 0, 0, (-1)) ll5 1 (4 + 1) := by
  rw [f6_parse_B18, if_neg (by decide), if_neg (by decide), if_pos (by decide), pf37, sbind, if_neg (by decide)]
  rw [if_neg (by decide), if_neg pf49]
  unfold f6_parse_B87
  rw [pf38, sbind, if_pos rfl, pf39, sbind]
  rw [if_neg (by decide), if_pos rfl, pr4, sbind]
theorem pf50 : f6_section TX (1, 106, 111, 0, 0, (-1)) = some 2 := by decide +kernel
theorem pf51 : f6_isFull ll5 2 = some 0 := by decide +kernel
theorem pf52 : f2_advance TX (1, 106, 111, 0, 0, (-1)) = some (2, 112, 113, 0, 0, (-1)) := by decide +kernel
theorem pf53 : LL_chambers ll5 - 1 = 2 := by decide +kernel
theorem pf54 : f2_readNumber TX (2, 112, 113, 0, 0, (-1)) 0 2 = some (0, (2, 114, 115, 1, 0, (-1))) := by decide +kernel
theorem pf55 : f2_isWord TX (2, 114, 115, 1, 0, (-1)) 4 = some 0 := by decide +kernel
theorem pf56 : LL_chambers ll5 - 1 = 2 := by decide +kernel
theorem pf57 : f2_readNumber TX (2, 114, 115, 1, 0, (-1)) 0 2 = some (1, (2, 116, 118, 30, 0, (-1))) := by decide +kernel
theorem pf58 : f6_readOtherSide TX ll5 (2, 114, 115, 1, 0, (-1)) 0 = some (1, (2, 116, 118, 30, 0, (-1))) := by
  unfold f6_readOtherSide f6_readOtherSide_B32
  rw [if_pos (by decide), pf55, sbind, if_pos (by decide), pf56, pf57, sbind]
  dsimp only
  rw [if_pos (by decide), if_neg (by decide)]
theorem pf59 : f2_readNumber TX (2, 116, 118, 30, 0, (-1)) 1 999 = some (30, (2, 119, 125, 900000, 0, (-1))) := by decide +kernel
theorem pf60 : f2_readNumber TX (2, 119, 125, 900000, 0, (-1)) 0 1000000 = some (900000, (3, 125, 126, 0, 0, (-1))) := by decide +kernel
theorem pf61 : f2_readSemicolon TX (3, 125, 126, 0, 0, (-1)) = some (1, 126, 131, 0, 0, (-1)) := by decide +kernel
def ll6 : LL := (f1_addValve ll5 0 1 30 900000).getD L00
theorem pl6 : f1_addValve ll5 0 1 30 900000 = some ll6 := some_gD L00 (by decide +kernel)
theorem pr5 : f6_readValve TX (2, 112, 113, 0, 0, (-1)) ll5 = some ((1, 126, 131, 0, 0, (-1)), ll6) := by
  unfold f6_readValve
  rw [pf53, pf54, sbind]
  try dsimp only
  rw [pf58, sbind]
  try dsimp only
  rw [pf59, sbind]
  try dsimp only
  rw [pf60, sbind]
  try dsimp only
  rw [pf61, sbind]
  try dsimp only
  rw [if_pos (by decide), pl6, sbind]
theorem pf62 : ¬ (LL_chambers ll5 = 0) := by decide +kernel
theorem ps5 (fu : Nat) : f6_parse_B18 TX (fu + 1) (1, 106, 111, 0, 0, (-1)) ll5 1 5 = f6_parse_B18 TX fu (1, 126, 131, 0, 0, (-1)) ll6 2 (5 + 1) := by
  rw [f6_parse_B18, if_neg (by decide), if_neg (by decide), if_pos (by decide), pf50, sbind, if_neg (by decide)]
  rw [if_neg (by decide), if_neg pf62]
  unfold f6_parse_B87
  rw [pf51, sbind, if_pos rfl, pf52, sbind]
  rw [if_neg (by decide), if_neg (by decide), if_pos rfl, pr5, sbind]
theorem pf63 : f6_section TX (1, 126, 131, 0, 0, (-1)) = some 2 := by decide +kernel
theorem pf64 : f6_isFull ll6 2 = some 0 := by decide +kernel
theorem pf65 : f2_advance TX (1, 126, 131, 0, 0, (-1)) = some (2, 132, 133, 1, 0, (-1)) := by decide +kernel
theorem pf66 : LL_chambers ll6 - 1 = 2 := by decide +kernel
theorem pf67 : f2_readNumber TX (2, 132, 133, 1, 0, (-1)) 0 2 = some (1, (2, 134, 135, 2, 0, (-1))) := by decide +kernel
theorem pf68 : f2_isWord TX (2, 134, 135, 2, 0, (-1)) 4 = some 0 := by decide +kernel
theorem pf69 : LL_chambers ll6 - 1 = 2 := by decide +kernel
theorem pf70 : f2_readNumber TX (2, 134, 135, 2, 0, (-1)) 0 2 = some (2, (2, 136, 138, 12, 0, (-1))) := by decide +kernel
theorem pf71 : f6_readOtherSide TX ll6 (2, 134, 135, 2, 0, (-1)) 1 = some (2, (2, 136, 138, 12, 0, (-1))) := by
  unfold f6_readOtherSide f6_readOtherSide_B32
  rw [if_pos (by decide), pf68, sbind, if_pos (by decide), pf69, pf70, sbind]
  dsimp only
  rw [if_pos (by decide), if_neg (by decide)]
theorem pf72 : f2_readNumber TX (2, 136, 138, 12, 0, (-1)) 1 999 = some (12, (2, 139, 146, 1000000, 0, (-1))) := by decide +kernel
theorem pf73 : f2_readNumber TX (2, 139, 146, 1000000, 0, (-1)) 0 1000000 = some (1000000, (3, 146, 147, 0, 0, (-1))) := by decide +kernel
theorem pf74 : f2_readSemicolon TX (3, 146, 147, 0, 0, (-1)) = some (1, 147, 152, 0, 0, (-1)) := by decide +kernel
def ll7 : LL := (f1_addValve ll6 1 2 12 1000000).getD L00
theorem pl7 : f1_addValve ll6 1 2 12 1000000 = some ll7 := some_gD L00 (by decide +kernel)
theorem pr6 : f6_readValve TX (2, 132, 133, 1, 0, (-1)) ll6 = some ((1, 147, 152, 0, 0, (-1)), ll7) := by
  unfold f6_readValve
  rw [pf66, pf67, sbind]
  try dsimp only
  rw [pf71, sbind]
  try dsimp only
  rw [pf72, sbind]
  try dsimp only
  rw [pf73, sbind]
  try dsimp only
  rw [pf74, sbind]
  try dsimp only
  rw [if_pos (by decide), pl7, sbind]
theorem pf75 : ¬ (LL_chambers ll6 = 0) := by decide +kernel
theorem ps6 (fu : Nat) : f6_parse_B18 TX (fu + 1) (1, 126, 131, 0, 0, (-1)) ll6 2 6 = f6_parse_B18 TX fu (1, 147, 152, 0, 0, (-1)) ll7 2 (6 + 1) := by
  rw [f6_parse_B18, if_neg (by decide), if_neg (by decide), if_pos (by decide), pf63, sbind, if_neg (by decide)]
  rw [if_neg (by decide), if_neg pf75]
  unfold f6_parse_B87
  rw [pf64, sbind, if_pos rfl, pf65, sbind]
  rw [if_neg (by decide), if_neg (by decide), if_pos rfl, pr6, sbind]
theorem pf76 : f6_section TX (1, 147, 152, 0, 0, (-1)) = some 2 := by decide +kernel
theorem pf77 : f6_isFull ll7 2 = some 0 := by decide +kernel
theorem pf78 : f2_advance TX (1, 147, 152, 0, 0, (-1)) = some (2, 153, 154, 0, 0, (-1)) := by decide +kernel
theorem pf79 : LL_chambers ll7 - 1 = 2 := by decide +kernel
theorem pf80 : f2_readNumber TX (2, 153, 154, 0, 0, (-1)) 0 2 = some (0, (1, 155, 158, 0, 0, (-1))) := by decide +kernel
theorem pf81 : f2_isWord TX (1, 155, 158, 0, 0, (-1)) 4 = some 1 := by decide +kernel
theorem pf82 : f2_advance TX (1, 155, 158, 0, 0, (-1)) = some (2, 159, 160, 3, 0, (-1)) := by decide +kernel
theorem pf83 : f6_readOtherSide TX ll7 (1, 155, 158, 0, 0, (-1)) 0 = some (8, (2, 159, 160, 3, 0, (-1))) := by
  unfold f6_readOtherSide
  rw [if_pos (by decide), pf81, sbind, if_neg (by decide), pf82, sbind]
theorem pf84 : f2_readNumber TX (2, 159, 160, 3, 0, (-1)) 1 999 = some (3, (2, 161, 168, 1000000, 0, (-1))) := by decide +kernel
theorem pf85 : f2_readNumber TX (2, 161, 168, 1000000, 0, (-1)) 0 1000000 = some (1000000, (3, 168, 169, 0, 0, (-1))) := by decide +kernel
theorem pf86 : f2_readSemicolon TX (3, 168, 169, 0, 0, (-1)) = some (1, 169, 174, 0, 0, (-1)) := by decide +kernel
def ll8 : LL := (f1_addValve ll7 0 8 3 1000000).getD L00
theorem pl8 : f1_addValve ll7 0 8 3 1000000 = some ll8 := some_gD L00 (by decide +kernel)
theorem pr7 : f6_readValve TX (2, 153, 154, 0, 0, (-1)) ll7 = some ((1, 169, 174, 0, 0, (-1)), ll8) := by
  unfold f6_readValve
  rw [pf79, pf80, sbind]
  try dsimp only
  rw [pf83, sbind]
  try dsimp only
  rw [pf84, sbind]
  try dsimp only
  rw [pf85, sbind]
  try dsimp only
  rw [pf86, sbind]
  try dsimp only
  rw [if_pos (by decide), pl8, sbind]
theorem pf87 : ¬ (LL_chambers ll7 = 0) := by decide +kernel
theorem ps7 (fu : Nat) : f6_parse_B18 TX (fu + 1) (1, 147, 152, 0, 0, (-1)) ll7 2 7 = f6_parse_B18 TX fu (1, 169, 174, 0, 0, (-1)) ll8 2 (7 + 1) := by
  rw [f6_parse_B18, if_neg (by decide), if_neg (by decide), if_pos (by decide), pf76, sbind, if_neg (by decide)]
  rw [if_neg (by decide), if_neg pf87]
  unfold f6_parse_B87
  rw [pf77, sbind, if_pos rfl, pf78, sbind]
  rw [if_neg (by decide), if_neg (by decide), if_pos rfl, pr7, sbind]
theorem pf88 : f6_section TX (1, 169, 174, 0, 0, (-1)) = some 2 := by decide +kernel
theorem pf89 : f6_isFull ll8 2 = some 0 := by decide +kernel
theorem pf90 : f2_advance TX (1, 169, 174, 0, 0, (-1)) = some (2, 175, 176, 1, 0, (-1)) := by decide +kernel
theorem pf91 : LL_chambers ll8 - 1 = 2 := by decide +kernel
theorem pf92 : f2_readNumber TX (2, 175, 176, 1, 0, (-1)) 0 2 = some (1, (1, 177, 180, 0, 0, (-1))) := by decide +kernel
theorem pf93 : f2_isWord TX (1, 177, 180, 0, 0, (-1)) 4 = some 1 := by decide +kernel
theorem pf94 : f2_advance TX (1, 177, 180, 0, 0, (-1)) = some (2, 181, 182, 2, 0, (-1)) := by decide +kernel
theorem pf95 : f6_readOtherSide TX ll8 (1, 177, 180, 0, 0, (-1)) 1 = some (8, (2, 181, 182, 2, 0, (-1))) := by
  unfold f6_readOtherSide
  rw [if_pos (by decide), pf93, sbind, if_neg (by decide), pf94, sbind]
theorem pf96 : f2_readNumber TX (2, 181, 182, 2, 0, (-1)) 1 999 = some (2, (2, 183, 189, 400000, 0, (-1))) := by decide +kernel
theorem pf97 : f2_readNumber TX (2, 183, 189, 400000, 0, (-1)) 0 1000000 = some (400000, (3, 189, 190, 0, 0, (-1))) := by decide +kernel
theorem pf98 : f2_readSemicolon TX (3, 189, 190, 0, 0, (-1)) = some (1, 190, 196, 0, 0, (-1)) := by decide +kernel
def ll9 : LL := (f1_addValve ll8 1 8 2 400000).getD L00
theorem pl9 : f1_addValve ll8 1 8 2 400000 = some ll9 := some_gD L00 (by decide +kernel)
theorem pr8 : f6_readValve TX (2, 175, 176, 1, 0, (-1)) ll8 = some ((1, 190, 196, 0, 0, (-1)), ll9) := by
  unfold f6_readValve
  rw [pf91, pf92, sbind]
  try dsimp only
  rw [pf95, sbind]
  try dsimp only
  rw [pf96, sbind]
  try dsimp only
  rw [pf97, sbind]
  try dsimp only
  rw [pf98, sbind]
  try dsimp only
  rw [if_pos (by decide), pl9, sbind]
theorem pf99 : ¬ (LL_chambers ll8 = 0) := by decide +kernel
theorem ps8 (fu : Nat) : f6_parse_B18 TX (fu + 1) (1, 169, 174, 0, 0, (-1)) ll8 2 8 = f6_parse_B18 TX fu (1, 190, 196, 0, 0, (-1)) ll9 2 (8 + 1) := by
  rw [f6_parse_B18, if_neg (by decide), if_neg (by decide), if_pos (by decide), pf88, sbind, if_neg (by decide)]
  rw [if_neg (by decide), if_neg pf99]
  unfold f6_parse_B87
  rw [pf89, sbind, if_pos rfl, pf90, sbind]
  rw [if_neg (by decide), if_neg (by decide), if_pos rfl, pr8, sbind]
theorem pf100 : f6_section TX (1, 190, 196, 0, 0, (-1)) = some 3 := by decide +kernel
theorem pf101 : f6_isFull ll9 3 = some 0 := by decide +kernel
theorem pf102 : f2_advance TX (1, 190, 196, 0, 0, (-1)) = some (2, 197, 198, 0, 0, (-1)) := by decide +kernel
theorem pf103 : LL_chambers ll9 - 1 = 2 := by decide +kernel
theorem pf104 : f2_readNumber TX (2, 197, 198, 0, 0, (-1)) 0 2 = some (0, (2, 199, 201, 50, 0, (-1))) := by decide +kernel
theorem pf105 : f2_readNumber TX (2, 199, 201, 50, 0, (-1)) 0 9999 = some (50, (3, 201, 202, 0, 0, (-1))) := by decide +kernel
theorem pf106 : f2_readSemicolon TX (3, 201, 202, 0, 0, (-1)) = some (1, 202, 208, 0, 0, (-1)) := by decide +kernel
def ll10 : LL := (f1_addFlange ll9 0 50).getD L00
theorem pl10 : f1_addFlange ll9 0 50 = some ll10 := some_gD L00 (by decide +kernel)
theorem pr9 : f6_readFlange TX (2, 197, 198, 0, 0, (-1)) ll9 = some ((1, 202, 208, 0, 0, (-1)), ll10) := by
  unfold f6_readFlange
  rw [pf103, pf104, sbind]
  try dsimp only
  rw [pf105, sbind]
  try dsimp only
  rw [pf106, sbind]
  try dsimp only
  rw [if_pos (by decide), pl10, sbind]
theorem pf107 : ¬ (LL_chambers ll9 = 0) := by decide +kernel
theorem ps9 (fu : Nat) : f6_parse_B18 TX (fu + 1) (1, 190, 196, 0, 0, (-1)) ll9 2 9 = f6_parse_B18 TX fu (1, 202, 208, 0, 0, (-1)) ll10 3 (9 + 1) := by
  rw [f6_parse_B18, if_neg (by decide), if_neg (by decide), if_pos (by decide), pf100, sbind, if_neg (by decide)]
  rw [if_neg (by decide), if_neg pf107]
  unfold f6_parse_B87
  rw [pf101, sbind, if_pos rfl, pf102, sbind]
  rw [if_neg (by decide), if_neg (by decide), if_neg (by decide), pr9, sbind]
theorem pf108 : f6_section TX (1, 202, 208, 0, 0, (-1)) = some 3 := by decide +kernel
theorem pf109 : f6_isFull ll10 3 = some 0 := by decide +kernel
theorem pf110 : f2_advance TX (1, 202, 208, 0, 0, (-1)) = some (2, 209, 210, 0, 0, (-1)) := by decide +kernel
theorem pf111 : LL_chambers ll10 - 1 = 2 := by decide +kernel
theorem pf112 : f2_readNumber TX (2, 209, 210, 0, 0, (-1)) 0 2 = some (0, (2, 211, 212, 0, 0, (-1))) := by decide +kernel
theorem pf113 : f2_readNumber TX (2, 211, 212, 0, 0, (-1)) 0 9999 = some (0, (3, 212, 213, 0, 0, (-1))) := by decide +kernel
theorem pf114 : f2_readSemicolon TX (3, 212, 213, 0, 0, (-1)) = some (1, 213, 219, 0, 0, (-1)) := by decide +kernel
def ll11 : LL := (f1_addFlange ll10 0 0).getD L00
theorem pl11 : f1_addFlange ll10 0 0 = some ll11 := some_gD L00 (by decide +kernel)
theorem pr10 : f6_readFlange TX (2, 209, 210, 0, 0, (-1)) ll10 = some ((1, 213, 219, 0, 0, (-1)), ll11) := by
  unfold f6_readFlange
  rw [pf111, pf112, sbind]
  try dsimp only
  rw [pf113, sbind]
  try dsimp only
  rw [pf114, sbind]
  try dsimp only
  rw [if_pos (by decide), pl11, sbind]
theorem pf115 : ¬ (LL_chambers ll10 = 0) := by decide +kernel
theorem ps10 (fu : Nat) : f6_parse_B18 TX (fu + 1) (1, 202, 208, 0, 0, (-1)) ll10 3 10 = f6_parse_B18 TX fu (1, 213, 219, 0, 0, (-1)) ll11 3 (10 + 1) := by
  rw [f6_parse_B18, if_neg (by decide), if_neg (by decide), if_pos (by decide), pf108, sbind, if_neg (by decide)]
  rw [if_neg (by decide), if_neg pf115]
  unfold f6_parse_B87
  rw [pf109, sbind, if_pos rfl, pf110, sbind]
  rw [if_neg (by decide), if_neg (by decide), if_neg (by decide), pr10, sbind]
theorem pf116 : f6_section TX (1, 213, 219, 0, 0, (-1)) = some 3 := by decide +kernel
theorem pf117 : f6_isFull ll11 3 = some 0 := by decide +kernel
theorem pf118 : f2_advance TX (1, 213, 219, 0, 0, (-1)) = some (2, 220, 221, 1, 0, (-1)) := by decide +kernel
theorem pf119 : LL_chambers ll11 - 1 = 2 := by decide +kernel
theorem pf120 : f2_readNumber TX (2, 220, 221, 1, 0, (-1)) 0 2 = some (1, (2, 222, 223, 7, 0, (-1))) := by decide +kernel
theorem pf121 : f2_readNumber TX (2, 222, 223, 7, 0, (-1)) 0 9999 = some (7, (3, 223, 224, 0, 0, (-1))) := by decide +kernel
theorem pf122 : f2_readSemicolon TX (3, 223, 224, 0, 0, (-1)) = some (1, 224, 230, 0, 0, (-1)) := by decide +kernel
def ll12 : LL := (f1_addFlange ll11 1 7).getD L00
theorem pl12 : f1_addFlange ll11 1 7 = some ll12 := some_gD L00 (by decide +kernel)
theorem pr11 : f6_readFlange TX (2, 220, 221, 1, 0, (-1)) ll11 = some ((1, 224, 230, 0, 0, (-1)), ll12) := by
  unfold f6_readFlange
  rw [pf119, pf120, sbind]
  try dsimp only
  rw [pf121, sbind]
  try dsimp only
  rw [pf122, sbind]
  try dsimp only
  rw [if_pos (by decide), pl12, sbind]
theorem pf123 : ¬ (LL_chambers ll11 = 0) := by decide +kernel
theorem ps11 (fu : Nat) : f6_parse_B18 TX (fu + 1) (1, 213, 219, 0, 0, (-1)) ll11 3 11 = f6_parse_B18 TX fu (1, 224, 230, 0, 0, (-1)) ll12 3 (11 + 1) := by
  rw [f6_parse_B18, if_neg (by decide), if_neg (by decide), if_pos (by decide), pf116, sbind, if_neg (by decide)]
  rw [if_neg (by decide), if_neg pf123]
  unfold f6_parse_B87
  rw [pf117, sbind, if_pos rfl, pf118, sbind]
  rw [if_neg (by decide), if_neg (by decide), if_neg (by decide), pr11, sbind]
theorem pf124 : f6_section TX (1, 224, 230, 0, 0, (-1)) = some 3 := by decide +kernel
theorem pf125 : f6_isFull ll12 3 = some 0 := by decide +kernel
theorem pf126 : f2_advance TX (1, 224, 230, 0, 0, (-1)) = some (2, 231, 232, 2, 0, (-1)) := by decide +kernel
theorem pf127 : LL_chambers ll12 - 1 = 2 := by decide +kernel
theorem pf128 : f2_readNumber TX (2, 231, 232, 2, 0, (-1)) 0 2 = some (2, (2, 233, 236, 300, 0, (-1))) := by decide +kernel
theorem pf129 : f2_readNumber TX (2, 233, 236, 300, 0, (-1)) 0 9999 = some (300, (3, 236, 237, 0, 0, (-1))) := by decide +kernel
theorem pf130 : f2_readSemicolon TX (3, 236, 237, 0, 0, (-1)) = some (1, 237, 243, 0, 0, (-1)) := by decide +kernel
def ll13 : LL := (f1_addFlange ll12 2 300).getD L00
theorem pl13 : f1_addFlange ll12 2 300 = some ll13 := some_gD L00 (by decide +kernel)
theorem pr12 : f6_readFlange TX (2, 231, 232, 2, 0, (-1)) ll12 = some ((1, 237, 243, 0, 0, (-1)), ll13) := by
  unfold f6_readFlange
  rw [pf127, pf128, sbind]
  try dsimp only
  rw [pf129, sbind]
  try dsimp only
  rw [pf130, sbind]
  try dsimp only
  rw [if_pos (by decide), pl13, sbind]
theorem pf131 : ¬ (LL_chambers ll12 = 0) := by decide +kernel
theorem ps12 (fu : Nat) : f6_parse_B18 TX (fu + 1) (1, 224, 230, 0, 0, (-1)) ll12 3 12 = f6_parse_B18 TX fu (1, 237, 243, 0, 0, (-1)) ll13 3 (12 + 1) := by
  rw [f6_parse_B18, if_neg (by decide), if_neg (by decide), if_pos (by decide), pf124, sbind, if_neg (by decide)]
  rw [if_neg (by decide), if_neg pf131]
  unfold f6_parse_B87
  rw [pf125, sbind, if_pos rfl, pf126, sbind]
  rw [if_neg (by decide), if_neg (by decide), if_neg (by decide), pr12, sbind]
theorem pf132 : f6_section TX (1, 237, 243, 0, 0, (-1)) = some 3 := by decide +kernel
theorem pf133 : f6_isFull ll13 3 = some 0 := by decide +kernel
theorem pf134 : f2_advance TX (1, 237, 243, 0, 0, (-1)) = some (2, 244, 245, 0, 0, (-1)) := by decide +kernel
theorem pf135 : LL_chambers ll13 - 1 = 2 := by decide +kernel
theorem pf136 : f2_readNumber TX (2, 244, 245, 0, 0, (-1)) 0 2 = some (0, (2, 246, 248, 12, 0, (-1))) := by decide +kernel
theorem pf137 : f2_readNumber TX (2, 246, 248, 12, 0, (-1)) 0 9999 = some (12, (3, 248, 249, 0, 0, (-1))) := by decide +kernel
theorem pf138 : f2_readSemicolon TX (3, 248, 249, 0, 0, (-1)) = some (0, 249, 249, 0, 0, (-1)) := by decide +kernel
def ll14 : LL := (f1_addFlange ll13 0 12).getD L00
theorem pl14 : f1_addFlange ll13 0 12 = some ll14 := some_gD L00 (by decide +kernel)
theorem pr13 : f6_readFlange TX (2, 244, 245, 0, 0, (-1)) ll13 = some ((0, 249, 249, 0, 0, (-1)), ll14) := by
  unfold f6_readFlange
  rw [pf135, pf136, sbind]
  try dsimp only
  rw [pf137, sbind]
  try dsimp only
  rw [pf138, sbind]
  try dsimp only
  rw [if_pos (by decide), pl14, sbind]
theorem pf139 : ¬ (LL_chambers ll13 = 0) := by decide +kernel
theorem ps13 (fu : Nat) : f6_parse_B18 TX (fu + 1) (1, 237, 243, 0, 0, (-1)) ll13 3 13 = f6_parse_B18 TX fu (0, 249, 249, 0, 0, (-1)) ll14 3 (13 + 1) := by
  rw [f6_parse_B18, if_neg (by decide), if_neg (by decide), if_pos (by decide), pf132, sbind, if_neg (by decide)]
  rw [if_neg (by decide), if_neg pf139]
  unfold f6_parse_B87
  rw [pf133, sbind, if_pos rfl, pf134, sbind]
  rw [if_neg (by decide), if_neg (by decide), if_neg (by decide), pr13, sbind]
theorem pf140 : ¬ (LL_chambers ll14 = 0) := by decide +kernel
theorem p_all : f6_parse TX R00 L00 = some (1, (0, 249, 249, 0, 0, (-1)), ll14) := by
  unfold f6_parse
  rw [pl0, sbind, pb, sbind, show FU = 4096 from rfl, show f6_parse_B18 TX 4096 _ ll0 _ _ = _ from ps0 4095, show f6_parse_B18 TX 4095 _ ll1 _ _ = _ from ps1 4094, show f6_parse_B18 TX 4094 _ ll2 _ _ = _ from ps2 4093, show f6_parse_B18 TX 4093 _ ll3 _ _ = _ from ps3 4092, show f6_parse_B18 TX 4092 _ ll4 _ _ = _ from ps4 4091, show f6_parse_B18 TX 4091 _ ll5 _ _ = _ from ps5 4090, show f6_parse_B18 TX 4090 _ ll6 _ _ = _ from ps6 4089, show f6_parse_B18 TX 4089 _ ll7 _ _ = _ from ps7 4088, show f6_parse_B18 TX 4088 _ ll8 _ _ = _ from ps8 4087, show f6_parse_B18 TX 4087 _ ll9 _ _ = _ from ps9 4086, show f6_parse_B18 TX 4086 _ ll10 _ _ = _ from ps10 4085, show f6_parse_B18 TX 4085 _ ll11 _ _ = _ from ps11 4084, show f6_parse_B18 TX 4084 _ ll12 _ _ = _ from ps12 4083, show f6_parse_B18 TX 4083 _ ll13 _ _ = _ from ps13 4082]
  rw [show f6_parse_B18 TX 4082 _ ll14 _ _ = f6_parse_B18 TX (4081 + 1) _ ll14 _ _ from rfl, f6_parse_B18, if_neg (by decide), if_pos (by decide)]
  unfold f6_parse_B179 f6_parse_B204
  rw [if_neg pf140]
  rfl
def LLE : LL := ll14
def RRE : RR := (0, 249, 249, 0, 0, (-1))
theorem p_all' : f6_parse TX R00 L00 = some (1, RRE, LLE) := p_all
