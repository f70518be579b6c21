/-! decode, by the bytes -/
set_option maxRecDepth 100000
def rd (c : ByteArray) (p b : Nat) : Prop := ∃ h : p < c.size, (c[p]'h).toNat = b
theorem u1_rd {c : ByteArray} {p b : Nat} (h : rd c p b) : (ClassFile.Reader.u1 : ClassFile.Reader DecodeError Nat) c p = .ok (b, p + 1) := by
  obtain ⟨h1, rfl⟩ := h
  unfold ClassFile.Reader.u1
  change (dite (p < c.size) (fun h => _) (fun h => _) : ClassFile.Reader DecodeError Nat) c p = _
  rw [dif_pos h1]
  rfl
theorem u2_rd {c : ByteArray} {p b b2 : Nat} (h : rd c p b) (h2 : rd c (p + 1) b2) : (ClassFile.Reader.u2 : ClassFile.Reader DecodeError Nat) c p = .ok (b * 256 + b2, p + 2) := by
  unfold ClassFile.Reader.u2
  change Except.bind (ClassFile.Reader.u1 c p) (fun q => Except.bind (ClassFile.Reader.u1 c q.2) _) = _
  rw [u1_rd h]
  change Except.bind (ClassFile.Reader.u1 c (p + 1)) _ = _
  rw [u1_rd h2]
  rfl
theorem s1_rd {c : ByteArray} {p b : Nat} (h : rd c p b) : (ClassFile.Reader.s1 : ClassFile.Reader DecodeError Int) c p = .ok (ClassFile.Reader.signed 8 b, p + 1) := by
  unfold ClassFile.Reader.s1
  change Except.bind (ClassFile.Reader.u1 c p) _ = _
  rw [u1_rd h]
  rfl
theorem s2_rd {c : ByteArray} {p b b2 : Nat} (h : rd c p b) (h2 : rd c (p + 1) b2) : (ClassFile.Reader.s2 : ClassFile.Reader DecodeError Int) c p = .ok (ClassFile.Reader.signed 16 (b * 256 + b2), p + 2) := by
  unfold ClassFile.Reader.s2
  change Except.bind (ClassFile.Reader.u2 c p) _ = _
  rw [u2_rd h h2]
  rfl
theorem dec_i {c : ByteArray} {pc p1 : Nat} {i : Instr} (h : ClassFile.Decoder.instr pc c pc = .ok (i, p1)) : decode c pc = .ok (i, p1 - pc) := by
  unfold decode
  change Except.bind (ClassFile.Decoder.instr pc c pc) _ = _
  rw [h]
  rfl
def lb0 : List UInt8 := [187, 0, 8, 89, 183, 0, 154, 76, 187, 0, 155, 89, 183, 0, 157, 77, 4, 188, 11, 78, 4, 188, 7, 58, 4, 3, 54, 5, 21, 5, 42, 190, 16, 6, 100, 163, 11, 215, 42, 21, 5, 46, 16, 63, 126, 170, 0, 0, 0, 0]
def lb1 : List UInt8 := [11, 199, 0, 0, 0, 0, 0, 0, 0, 49, 0, 0, 0, 215, 0, 0, 1, 63, 0, 0, 1, 119, 0, 0, 1, 132, 0, 0, 1, 145, 0, 0, 1, 158, 0, 0, 1, 214, 0, 0, 2, 14, 0, 0, 2, 70, 0, 0, 2, 126]
def lb2 : List UInt8 := [0, 0, 2, 182, 0, 0, 2, 250, 0, 0, 3, 50, 0, 0, 3, 118, 0, 0, 3, 186, 0, 0, 3, 254, 0, 0, 4, 66, 0, 0, 4, 79, 0, 0, 4, 135, 0, 0, 4, 203, 0, 0, 5, 2, 0, 0, 5, 70, 0, 0]
def lb3 : List UInt8 := [5, 138, 0, 0, 5, 206, 0, 0, 6, 18, 0, 0, 6, 101, 0, 0, 6, 157, 0, 0, 6, 213, 0, 0, 7, 13, 0, 0, 7, 76, 0, 0, 7, 132, 0, 0, 7, 195, 0, 0, 8, 7, 0, 0, 8, 63, 0, 0, 8, 76]
def lb4 : List UInt8 := [0, 0, 8, 120, 0, 0, 8, 188, 0, 0, 9, 0, 0, 0, 9, 68, 0, 0, 9, 124, 0, 0, 9, 213, 0, 0, 10, 25, 0, 0, 10, 93, 0, 0, 10, 149, 0, 0, 10, 217, 0, 0, 11, 29, 0, 0, 11, 73, 0, 0]
def lb5 : List UInt8 := [11, 86, 0, 0, 11, 142, 0, 0, 11, 186, 43, 42, 21, 5, 4, 96, 46, 42, 21, 5, 5, 96, 46, 42, 21, 5, 6, 96, 46, 42, 21, 5, 7, 96, 46, 42, 21, 5, 8, 96, 46, 45, 184, 0, 158, 54, 6, 44, 42, 21]
def lb6 : List UInt8 := [5, 4, 96, 46, 42, 21, 5, 5, 96, 46, 42, 21, 5, 6, 96, 46, 42, 21, 5, 7, 96, 46, 42, 21, 5, 8, 96, 46, 182, 0, 163, 54, 7, 44, 182, 0, 164, 21, 6, 159, 0, 5, 3, 172, 21, 6, 154, 0, 15, 45]
def lb7 : List UInt8 := [3, 47, 21, 7, 133, 148, 153, 0, 5, 3, 172, 167, 10, 139, 43, 42, 21, 5, 4, 96, 46, 45, 184, 0, 167, 54, 6, 44, 42, 21, 5, 4, 96, 46, 182, 0, 170, 54, 7, 44, 182, 0, 164, 21, 6, 159, 0, 5, 3, 172]
def lb8 : List UInt8 := [21, 6, 154, 0, 15, 45, 3, 47, 21, 7, 133, 148, 153, 0, 5, 3, 172, 167, 10, 83, 43, 182, 0, 171, 44, 182, 0, 174, 159, 10, 72, 3, 172, 43, 182, 0, 175, 44, 182, 0, 178, 159, 10, 59, 3, 172, 43, 182, 0, 179]
def lb9 : List UInt8 := [44, 182, 0, 182, 159, 10, 46, 3, 172, 43, 42, 21, 5, 4, 96, 46, 45, 184, 0, 183, 54, 6, 44, 42, 21, 5, 4, 96, 46, 182, 0, 185, 54, 7, 44, 182, 0, 164, 21, 6, 159, 0, 5, 3, 172, 21, 6, 154, 0, 15]
def lb10 : List UInt8 := [45, 3, 47, 21, 7, 133, 148, 153, 0, 5, 3, 172, 167, 9, 244, 43, 42, 21, 5, 4, 96, 46, 45, 184, 0, 186, 54, 6, 44, 42, 21, 5, 4, 96, 46, 182, 0, 188, 54, 7, 44, 182, 0, 164, 21, 6, 159, 0, 5, 3]
def lb11 : List UInt8 := [172, 21, 6, 154, 0, 15, 45, 3, 47, 21, 7, 133, 148, 153, 0, 5, 3, 172, 167, 9, 188, 43, 42, 21, 5, 4, 96, 46, 45, 184, 0, 189, 54, 6, 44, 42, 21, 5, 4, 96, 46, 182, 0, 191, 54, 7, 44, 182, 0, 164]
def lb12 : List UInt8 := [21, 6, 159, 0, 5, 3, 172, 21, 6, 154, 0, 15, 45, 3, 47, 21, 7, 133, 148, 153, 0, 5, 3, 172, 167, 9, 132, 43, 42, 21, 5, 4, 96, 46, 45, 184, 0, 192, 54, 6, 44, 42, 21, 5, 4, 96, 46, 182, 0, 194]
def lb13 : List UInt8 := [54, 7, 44, 182, 0, 164, 21, 6, 159, 0, 5, 3, 172, 21, 6, 154, 0, 15, 45, 3, 47, 21, 7, 133, 148, 153, 0, 5, 3, 172, 167, 9, 76, 43, 42, 21, 5, 4, 96, 46, 45, 184, 0, 195, 54, 6, 44, 42, 21, 5]
def lb14 : List UInt8 := [4, 96, 46, 182, 0, 197, 54, 7, 44, 182, 0, 164, 21, 6, 159, 0, 5, 3, 172, 21, 6, 154, 0, 15, 45, 3, 47, 21, 7, 133, 148, 153, 0, 5, 3, 172, 167, 9, 20, 43, 42, 21, 5, 4, 96, 46, 42, 21, 5, 5]
def lb15 : List UInt8 := [96, 46, 45, 184, 0, 198, 54, 6, 44, 42, 21, 5, 4, 96, 46, 42, 21, 5, 5, 96, 46, 182, 0, 201, 54, 7, 44, 182, 0, 164, 21, 6, 159, 0, 5, 3, 172, 21, 6, 154, 0, 15, 45, 3, 47, 21, 7, 133, 148, 153]
def lb16 : List UInt8 := [0, 5, 3, 172, 167, 8, 208, 43, 42, 21, 5, 4, 96, 46, 45, 184, 0, 202, 54, 6, 44, 42, 21, 5, 4, 96, 46, 182, 0, 204, 54, 7, 44, 182, 0, 164, 21, 6, 159, 0, 5, 3, 172, 21, 6, 154, 0, 15, 45, 3]
def lb17 : List UInt8 := [47, 21, 7, 133, 148, 153, 0, 5, 3, 172, 167, 8, 152, 43, 42, 21, 5, 4, 96, 46, 42, 21, 5, 5, 96, 46, 45, 184, 0, 205, 54, 6, 44, 42, 21, 5, 4, 96, 46, 42, 21, 5, 5, 96, 46, 182, 0, 207, 54, 7]
def lb18 : List UInt8 := [44, 182, 0, 164, 21, 6, 159, 0, 5, 3, 172, 21, 6, 154, 0, 15, 45, 3, 47, 21, 7, 133, 148, 153, 0, 5, 3, 172, 167, 8, 84, 43, 42, 21, 5, 4, 96, 46, 42, 21, 5, 5, 96, 46, 45, 184, 0, 208, 54, 6]
def lb19 : List UInt8 := [44, 42, 21, 5, 4, 96, 46, 42, 21, 5, 5, 96, 46, 182, 0, 210, 54, 7, 44, 182, 0, 164, 21, 6, 159, 0, 5, 3, 172, 21, 6, 154, 0, 15, 45, 3, 47, 21, 7, 133, 148, 153, 0, 5, 3, 172, 167, 8, 16, 43]
def lb20 : List UInt8 := [42, 21, 5, 4, 96, 46, 42, 21, 5, 5, 96, 46, 45, 184, 0, 211, 54, 6, 44, 42, 21, 5, 4, 96, 46, 42, 21, 5, 5, 96, 46, 182, 0, 213, 54, 7, 44, 182, 0, 164, 21, 6, 159, 0, 5, 3, 172, 21, 6, 154]
def lb21 : List UInt8 := [0, 15, 45, 3, 47, 21, 7, 133, 148, 153, 0, 5, 3, 172, 167, 7, 204, 43, 42, 21, 5, 4, 96, 46, 42, 21, 5, 5, 96, 46, 45, 184, 0, 214, 54, 6, 44, 42, 21, 5, 4, 96, 46, 42, 21, 5, 5, 96, 46, 182]
def lb22 : List UInt8 := [0, 216, 54, 7, 44, 182, 0, 164, 21, 6, 159, 0, 5, 3, 172, 21, 6, 154, 0, 15, 45, 3, 47, 21, 7, 133, 148, 153, 0, 5, 3, 172, 167, 7, 136, 43, 182, 0, 217, 44, 182, 0, 220, 159, 7, 125, 3, 172, 43, 42]
def lb23 : List UInt8 := [21, 5, 4, 96, 46, 45, 184, 0, 221, 54, 6, 44, 42, 21, 5, 4, 96, 46, 182, 0, 223, 54, 7, 44, 182, 0, 164, 21, 6, 159, 0, 5, 3, 172, 21, 6, 154, 0, 15, 45, 3, 47, 21, 7, 133, 148, 153, 0, 5, 3]
def lb24 : List UInt8 := [172, 167, 7, 67, 43, 42, 21, 5, 4, 96, 46, 42, 21, 5, 5, 96, 46, 45, 184, 0, 224, 54, 6, 44, 42, 21, 5, 4, 96, 46, 42, 21, 5, 5, 96, 46, 182, 0, 226, 54, 7, 44, 182, 0, 164, 21, 6, 159, 0, 5]
def lb25 : List UInt8 := [3, 172, 21, 6, 154, 0, 15, 45, 3, 47, 21, 7, 133, 148, 153, 0, 5, 3, 172, 167, 6, 255, 43, 42, 21, 5, 4, 96, 46, 45, 184, 0, 227, 54, 6, 44, 42, 21, 5, 4, 96, 46, 182, 0, 229, 55, 7, 44, 182, 0]
def lb26 : List UInt8 := [164, 21, 6, 159, 0, 5, 3, 172, 21, 6, 154, 0, 14, 45, 3, 47, 22, 7, 148, 153, 0, 5, 3, 172, 167, 6, 200, 43, 42, 21, 5, 4, 96, 46, 42, 21, 5, 5, 96, 46, 45, 184, 0, 230, 54, 6, 44, 42, 21, 5]
def lb27 : List UInt8 := [4, 96, 46, 42, 21, 5, 5, 96, 46, 182, 0, 232, 54, 7, 44, 182, 0, 164, 21, 6, 159, 0, 5, 3, 172, 21, 6, 154, 0, 15, 45, 3, 47, 21, 7, 133, 148, 153, 0, 5, 3, 172, 167, 6, 132, 43, 42, 21, 5, 4]
def lb28 : List UInt8 := [96, 46, 42, 21, 5, 5, 96, 46, 45, 184, 0, 233, 54, 6, 44, 42, 21, 5, 4, 96, 46, 42, 21, 5, 5, 96, 46, 182, 0, 235, 54, 7, 44, 182, 0, 164, 21, 6, 159, 0, 5, 3, 172, 21, 6, 154, 0, 15, 45, 3]
def lb29 : List UInt8 := [47, 21, 7, 133, 148, 153, 0, 5, 3, 172, 167, 6, 64, 43, 42, 21, 5, 4, 96, 46, 42, 21, 5, 5, 96, 46, 45, 184, 0, 236, 54, 6, 44, 42, 21, 5, 4, 96, 46, 42, 21, 5, 5, 96, 46, 182, 0, 238, 54, 7]
def lb30 : List UInt8 := [44, 182, 0, 164, 21, 6, 159, 0, 5, 3, 172, 21, 6, 154, 0, 15, 45, 3, 47, 21, 7, 133, 148, 153, 0, 5, 3, 172, 167, 5, 252, 43, 42, 21, 5, 4, 96, 46, 42, 21, 5, 5, 96, 46, 45, 184, 0, 239, 54, 6]
def lb31 : List UInt8 := [44, 42, 21, 5, 4, 96, 46, 42, 21, 5, 5, 96, 46, 182, 0, 241, 54, 7, 44, 182, 0, 164, 21, 6, 159, 0, 5, 3, 172, 21, 6, 154, 0, 15, 45, 3, 47, 21, 7, 133, 148, 153, 0, 5, 3, 172, 167, 5, 184, 43]
def lb32 : List UInt8 := [42, 21, 5, 4, 96, 46, 42, 21, 5, 5, 96, 46, 153, 0, 7, 4, 167, 0, 4, 3, 45, 184, 0, 242, 54, 6, 44, 42, 21, 5, 4, 96, 46, 42, 21, 5, 5, 96, 46, 153, 0, 7, 4, 167, 0, 4, 3, 182, 0, 245]
def lb33 : List UInt8 := [55, 7, 44, 182, 0, 164, 21, 6, 159, 0, 5, 3, 172, 21, 6, 154, 0, 14, 45, 3, 47, 22, 7, 148, 153, 0, 5, 3, 172, 167, 5, 101, 43, 42, 21, 5, 4, 96, 46, 45, 184, 0, 246, 54, 6, 44, 42, 21, 5, 4]
def lb34 : List UInt8 := [96, 46, 182, 0, 248, 54, 7, 44, 182, 0, 164, 21, 6, 159, 0, 5, 3, 172, 21, 6, 154, 0, 15, 45, 3, 47, 21, 7, 133, 148, 153, 0, 5, 3, 172, 167, 5, 45, 43, 42, 21, 5, 4, 96, 46, 45, 184, 0, 249, 54]
def lb35 : List UInt8 := [6, 44, 42, 21, 5, 4, 96, 46, 182, 0, 251, 54, 7, 44, 182, 0, 164, 21, 6, 159, 0, 5, 3, 172, 21, 6, 154, 0, 15, 45, 3, 47, 21, 7, 133, 148, 153, 0, 5, 3, 172, 167, 4, 245, 43, 42, 21, 5, 4, 96]
def lb36 : List UInt8 := [46, 45, 184, 0, 252, 54, 6, 44, 42, 21, 5, 4, 96, 46, 182, 0, 254, 54, 7, 44, 182, 0, 164, 21, 6, 159, 0, 5, 3, 172, 21, 6, 154, 0, 15, 45, 3, 47, 21, 7, 133, 148, 153, 0, 5, 3, 172, 167, 4, 189]
def lb37 : List UInt8 := [43, 42, 21, 5, 4, 96, 46, 45, 184, 0, 255, 54, 6, 44, 42, 21, 5, 4, 96, 46, 182, 1, 1, 54, 7, 44, 182, 0, 164, 21, 6, 159, 0, 5, 3, 172, 21, 6, 154, 0, 22, 45, 3, 47, 21, 7, 153, 0, 7, 10]
def lb38 : List UInt8 := [167, 0, 4, 9, 148, 153, 0, 5, 3, 172, 167, 4, 126, 43, 42, 21, 5, 4, 96, 46, 45, 184, 1, 2, 54, 6, 44, 42, 21, 5, 4, 96, 46, 182, 1, 4, 54, 7, 44, 182, 0, 164, 21, 6, 159, 0, 5, 3, 172, 21]
def lb39 : List UInt8 := [6, 154, 0, 15, 45, 3, 47, 21, 7, 133, 148, 153, 0, 5, 3, 172, 167, 4, 70, 43, 42, 21, 5, 4, 96, 46, 45, 184, 1, 5, 54, 6, 44, 42, 21, 5, 4, 96, 46, 182, 1, 7, 54, 7, 44, 182, 0, 164, 21, 6]
def lb40 : List UInt8 := [159, 0, 5, 3, 172, 21, 6, 154, 0, 22, 45, 3, 47, 21, 7, 153, 0, 7, 10, 167, 0, 4, 9, 148, 153, 0, 5, 3, 172, 167, 4, 7, 43, 42, 21, 5, 4, 96, 46, 42, 21, 5, 5, 96, 46, 45, 184, 1, 8, 54]
def lb41 : List UInt8 := [6, 44, 42, 21, 5, 4, 96, 46, 42, 21, 5, 5, 96, 46, 182, 1, 10, 54, 7, 44, 182, 0, 164, 21, 6, 159, 0, 5, 3, 172, 21, 6, 154, 0, 15, 45, 3, 47, 21, 7, 133, 148, 153, 0, 5, 3, 172, 167, 3, 195]
def lb42 : List UInt8 := [43, 42, 21, 5, 4, 96, 46, 45, 184, 1, 11, 54, 6, 44, 42, 21, 5, 4, 96, 46, 182, 1, 13, 54, 7, 44, 182, 0, 164, 21, 6, 159, 0, 5, 3, 172, 21, 6, 154, 0, 15, 45, 3, 47, 21, 7, 133, 148, 153, 0]
def lb43 : List UInt8 := [5, 3, 172, 167, 3, 139, 43, 182, 1, 14, 44, 182, 1, 17, 159, 3, 128, 3, 172, 43, 45, 184, 1, 18, 54, 6, 44, 182, 1, 21, 54, 7, 44, 182, 0, 164, 21, 6, 159, 0, 5, 3, 172, 21, 6, 154, 0, 15, 45, 3]
def lb44 : List UInt8 := [47, 21, 7, 133, 148, 153, 0, 5, 3, 172, 167, 3, 82, 43, 42, 21, 5, 4, 96, 46, 42, 21, 5, 5, 96, 46, 45, 184, 1, 22, 54, 6, 44, 42, 21, 5, 4, 96, 46, 42, 21, 5, 5, 96, 46, 182, 1, 24, 54, 7]
def lb45 : List UInt8 := [44, 182, 0, 164, 21, 6, 159, 0, 5, 3, 172, 21, 6, 154, 0, 15, 45, 3, 47, 21, 7, 133, 148, 153, 0, 5, 3, 172, 167, 3, 14, 43, 42, 21, 5, 4, 96, 46, 42, 21, 5, 5, 96, 46, 45, 184, 1, 25, 54, 6]
def lb46 : List UInt8 := [44, 42, 21, 5, 4, 96, 46, 42, 21, 5, 5, 96, 46, 182, 1, 27, 54, 7, 44, 182, 0, 164, 21, 6, 159, 0, 5, 3, 172, 21, 6, 154, 0, 15, 45, 3, 47, 21, 7, 133, 148, 153, 0, 5, 3, 172, 167, 2, 202, 43]
def lb47 : List UInt8 := [42, 21, 5, 4, 96, 46, 42, 21, 5, 5, 96, 46, 45, 184, 1, 28, 54, 6, 44, 42, 21, 5, 4, 96, 46, 42, 21, 5, 5, 96, 46, 182, 1, 30, 54, 7, 44, 182, 0, 164, 21, 6, 159, 0, 5, 3, 172, 21, 6, 154]
def lb48 : List UInt8 := [0, 15, 45, 3, 47, 21, 7, 133, 148, 153, 0, 5, 3, 172, 167, 2, 134, 43, 42, 21, 5, 4, 96, 46, 45, 184, 1, 31, 54, 6, 44, 42, 21, 5, 4, 96, 46, 182, 1, 33, 54, 7, 44, 182, 0, 164, 21, 6, 159, 0]
def lb49 : List UInt8 := [5, 3, 172, 21, 6, 154, 0, 15, 45, 3, 47, 21, 7, 133, 148, 153, 0, 5, 3, 172, 167, 2, 78, 43, 42, 21, 5, 4, 96, 46, 42, 21, 5, 5, 96, 46, 25, 4, 184, 1, 34, 54, 6, 44, 42, 21, 5, 4, 96, 46]
def lb50 : List UInt8 := [42, 21, 5, 5, 96, 46, 182, 1, 37, 57, 7, 44, 182, 0, 164, 21, 6, 159, 0, 5, 3, 172, 21, 6, 154, 0, 35, 25, 4, 3, 49, 24, 7, 151, 153, 0, 25, 25, 4, 3, 49, 25, 4, 3, 49, 151, 153, 0, 11, 24]
def lb51 : List UInt8 := [7, 24, 7, 151, 154, 0, 5, 3, 172, 167, 1, 245, 43, 42, 21, 5, 4, 96, 46, 42, 21, 5, 5, 96, 46, 45, 184, 1, 38, 54, 6, 44, 42, 21, 5, 4, 96, 46, 42, 21, 5, 5, 96, 46, 182, 1, 40, 54, 7, 44]
def lb52 : List UInt8 := [182, 0, 164, 21, 6, 159, 0, 5, 3, 172, 21, 6, 154, 0, 15, 45, 3, 47, 21, 7, 133, 148, 153, 0, 5, 3, 172, 167, 1, 177, 43, 42, 21, 5, 4, 96, 46, 42, 21, 5, 5, 96, 46, 45, 184, 1, 41, 54, 6, 44]
def lb53 : List UInt8 := [42, 21, 5, 4, 96, 46, 42, 21, 5, 5, 96, 46, 182, 1, 43, 54, 7, 44, 182, 0, 164, 21, 6, 159, 0, 5, 3, 172, 21, 6, 154, 0, 15, 45, 3, 47, 21, 7, 133, 148, 153, 0, 5, 3, 172, 167, 1, 109, 43, 42]
def lb54 : List UInt8 := [21, 5, 4, 96, 46, 45, 184, 1, 44, 54, 6, 44, 42, 21, 5, 4, 96, 46, 182, 1, 46, 54, 7, 44, 182, 0, 164, 21, 6, 159, 0, 5, 3, 172, 21, 6, 154, 0, 15, 45, 3, 47, 21, 7, 133, 148, 153, 0, 5, 3]
def lb55 : List UInt8 := [172, 167, 1, 53, 43, 42, 21, 5, 4, 96, 46, 42, 21, 5, 5, 96, 46, 45, 184, 1, 47, 54, 6, 44, 42, 21, 5, 4, 96, 46, 42, 21, 5, 5, 96, 46, 182, 1, 49, 54, 7, 44, 182, 0, 164, 21, 6, 159, 0, 5]
def lb56 : List UInt8 := [3, 172, 21, 6, 154, 0, 15, 45, 3, 47, 21, 7, 133, 148, 153, 0, 5, 3, 172, 167, 0, 241, 43, 42, 21, 5, 4, 96, 46, 42, 21, 5, 5, 96, 46, 45, 184, 1, 50, 54, 6, 44, 42, 21, 5, 4, 96, 46, 42, 21]
def lb57 : List UInt8 := [5, 5, 96, 46, 182, 1, 52, 54, 7, 44, 182, 0, 164, 21, 6, 159, 0, 5, 3, 172, 21, 6, 154, 0, 15, 45, 3, 47, 21, 7, 133, 148, 153, 0, 5, 3, 172, 167, 0, 173, 43, 45, 184, 1, 53, 54, 6, 44, 182, 1]
def lb58 : List UInt8 := [55, 54, 7, 44, 182, 0, 164, 21, 6, 159, 0, 5, 3, 172, 21, 6, 154, 0, 15, 45, 3, 47, 21, 7, 133, 148, 153, 0, 5, 3, 172, 167, 0, 129, 43, 182, 1, 56, 44, 182, 1, 59, 159, 0, 118, 3, 172, 43, 42, 21]
def lb59 : List UInt8 := [5, 4, 96, 46, 45, 184, 1, 60, 54, 6, 44, 42, 21, 5, 4, 96, 46, 182, 1, 62, 54, 7, 44, 182, 0, 164, 21, 6, 159, 0, 5, 3, 172, 21, 6, 154, 0, 15, 45, 3, 47, 21, 7, 133, 148, 153, 0, 5, 3, 172]
def lb60 : List UInt8 := [167, 0, 60, 43, 45, 184, 1, 63, 54, 6, 44, 182, 1, 65, 54, 7, 44, 182, 0, 164, 21, 6, 159, 0, 5, 3, 172, 21, 6, 154, 0, 15, 45, 3, 47, 21, 7, 133, 148, 153, 0, 5, 3, 172, 167, 0, 16, 43, 182, 1]
def lb61 : List UInt8 := [66, 44, 182, 1, 69, 159, 0, 5, 3, 172, 132, 5, 6, 167, 244, 37, 4, 172]
def lt62 : List UInt8 := []
def lt61 : List UInt8 := lb61 ++ lt62
def lt60 : List UInt8 := lb60 ++ lt61
def lt59 : List UInt8 := lb59 ++ lt60
def lt58 : List UInt8 := lb58 ++ lt59
def lt57 : List UInt8 := lb57 ++ lt58
def lt56 : List UInt8 := lb56 ++ lt57
def lt55 : List UInt8 := lb55 ++ lt56
def lt54 : List UInt8 := lb54 ++ lt55
def lt53 : List UInt8 := lb53 ++ lt54
def lt52 : List UInt8 := lb52 ++ lt53
def lt51 : List UInt8 := lb51 ++ lt52
def lt50 : List UInt8 := lb50 ++ lt51
def lt49 : List UInt8 := lb49 ++ lt50
def lt48 : List UInt8 := lb48 ++ lt49
def lt47 : List UInt8 := lb47 ++ lt48
def lt46 : List UInt8 := lb46 ++ lt47
def lt45 : List UInt8 := lb45 ++ lt46
def lt44 : List UInt8 := lb44 ++ lt45
def lt43 : List UInt8 := lb43 ++ lt44
def lt42 : List UInt8 := lb42 ++ lt43
def lt41 : List UInt8 := lb41 ++ lt42
def lt40 : List UInt8 := lb40 ++ lt41
def lt39 : List UInt8 := lb39 ++ lt40
def lt38 : List UInt8 := lb38 ++ lt39
def lt37 : List UInt8 := lb37 ++ lt38
def lt36 : List UInt8 := lb36 ++ lt37
def lt35 : List UInt8 := lb35 ++ lt36
def lt34 : List UInt8 := lb34 ++ lt35
def lt33 : List UInt8 := lb33 ++ lt34
def lt32 : List UInt8 := lb32 ++ lt33
def lt31 : List UInt8 := lb31 ++ lt32
def lt30 : List UInt8 := lb30 ++ lt31
def lt29 : List UInt8 := lb29 ++ lt30
def lt28 : List UInt8 := lb28 ++ lt29
def lt27 : List UInt8 := lb27 ++ lt28
def lt26 : List UInt8 := lb26 ++ lt27
def lt25 : List UInt8 := lb25 ++ lt26
def lt24 : List UInt8 := lb24 ++ lt25
def lt23 : List UInt8 := lb23 ++ lt24
def lt22 : List UInt8 := lb22 ++ lt23
def lt21 : List UInt8 := lb21 ++ lt22
def lt20 : List UInt8 := lb20 ++ lt21
def lt19 : List UInt8 := lb19 ++ lt20
def lt18 : List UInt8 := lb18 ++ lt19
def lt17 : List UInt8 := lb17 ++ lt18
def lt16 : List UInt8 := lb16 ++ lt17
def lt15 : List UInt8 := lb15 ++ lt16
def lt14 : List UInt8 := lb14 ++ lt15
def lt13 : List UInt8 := lb13 ++ lt14
def lt12 : List UInt8 := lb12 ++ lt13
def lt11 : List UInt8 := lb11 ++ lt12
def lt10 : List UInt8 := lb10 ++ lt11
def lt9 : List UInt8 := lb9 ++ lt10
def lt8 : List UInt8 := lb8 ++ lt9
def lt7 : List UInt8 := lb7 ++ lt8
def lt6 : List UInt8 := lb6 ++ lt7
def lt5 : List UInt8 := lb5 ++ lt6
def lt4 : List UInt8 := lb4 ++ lt5
def lt3 : List UInt8 := lb3 ++ lt4
def lt2 : List UInt8 := lb2 ++ lt3
def lt1 : List UInt8 := lb1 ++ lt2
def lt0 : List UInt8 := lb0 ++ lt1
set_option maxRecDepth 100000 in
theorem law_bytes : cL_law.data.toList = lt0 := by rfl
theorem rd_of {p : Nat} {v : UInt8} (h : lt0[p]? = some v) : rd cL_law p v.toNat := by
  rw [← law_bytes, Array.getElem?_toList] at h
  obtain ⟨h1, h2⟩ := Array.getElem?_eq_some_iff.mp h
  exact ⟨h1, by rw [← h2]; rfl⟩
theorem lt_get0 (i : Nat) : lt0[0 + i]? = lt0[i]? := by rw [Nat.zero_add]
theorem lt_get1 (i : Nat) : lt0[50 + i]? = lt1[i]? := by
  have h := lt_get0 (50 + i)
  rw [← Nat.add_assoc] at h
  rw [h]
  unfold lt0
  have h2 := List.getElem?_append_right (l₁ := lb0) (l₂ := lt1) (i := 50 + i) (Nat.le_add_right 50 i)
  rw [h2]
  show lt1[50 + i - 50]? = _
  rw [Nat.add_sub_cancel_left]
theorem rb0 (i : Nat) {v : UInt8} (h : lb0[i]? = some v) : rd cL_law (0 + i) v.toNat := by
  refine rd_of ((lt_get0 i).trans ?_)
  unfold lt0
  rw [List.getElem?_append_left (List.getElem?_eq_some_iff.mp h).1]
  exact h
theorem lt_get2 (i : Nat) : lt0[100 + i]? = lt2[i]? := by
  have h := lt_get1 (50 + i)
  rw [← Nat.add_assoc] at h
  rw [h]
  unfold lt1
  have h2 := List.getElem?_append_right (l₁ := lb1) (l₂ := lt2) (i := 50 + i) (Nat.le_add_right 50 i)
  rw [h2]
  show lt2[50 + i - 50]? = _
  rw [Nat.add_sub_cancel_left]
theorem rb1 (i : Nat) {v : UInt8} (h : lb1[i]? = some v) : rd cL_law (50 + i) v.toNat := by
  refine rd_of ((lt_get1 i).trans ?_)
  unfold lt1
  rw [List.getElem?_append_left (List.getElem?_eq_some_iff.mp h).1]
  exact h
theorem lt_get3 (i : Nat) : lt0[150 + i]? = lt3[i]? := by
  have h := lt_get2 (50 + i)
  rw [← Nat.add_assoc] at h
  rw [h]
  unfold lt2
  have h2 := List.getElem?_append_right (l₁ := lb2) (l₂ := lt3) (i := 50 + i) (Nat.le_add_right 50 i)
  rw [h2]
  show lt3[50 + i - 50]? = _
  rw [Nat.add_sub_cancel_left]
theorem rb2 (i : Nat) {v : UInt8} (h : lb2[i]? = some v) : rd cL_law (100 + i) v.toNat := by
  refine rd_of ((lt_get2 i).trans ?_)
  unfold lt2
  rw [List.getElem?_append_left (List.getElem?_eq_some_iff.mp h).1]
  exact h
theorem lt_get4 (i : Nat) : lt0[200 + i]? = lt4[i]? := by
  have h := lt_get3 (50 + i)
  rw [← Nat.add_assoc] at h
  rw [h]
  unfold lt3
  have h2 := List.getElem?_append_right (l₁ := lb3) (l₂ := lt4) (i := 50 + i) (Nat.le_add_right 50 i)
  rw [h2]
  show lt4[50 + i - 50]? = _
  rw [Nat.add_sub_cancel_left]
theorem rb3 (i : Nat) {v : UInt8} (h : lb3[i]? = some v) : rd cL_law (150 + i) v.toNat := by
  refine rd_of ((lt_get3 i).trans ?_)
  unfold lt3
  rw [List.getElem?_append_left (List.getElem?_eq_some_iff.mp h).1]
  exact h
theorem lt_get5 (i : Nat) : lt0[250 + i]? = lt5[i]? := by
  have h := lt_get4 (50 + i)
  rw [← Nat.add_assoc] at h
  rw [h]
  unfold lt4
  have h2 := List.getElem?_append_right (l₁ := lb4) (l₂ := lt5) (i := 50 + i) (Nat.le_add_right 50 i)
  rw [h2]
  show lt5[50 + i - 50]? = _
  rw [Nat.add_sub_cancel_left]
theorem rb4 (i : Nat) {v : UInt8} (h : lb4[i]? = some v) : rd cL_law (200 + i) v.toNat := by
  refine rd_of ((lt_get4 i).trans ?_)
  unfold lt4
  rw [List.getElem?_append_left (List.getElem?_eq_some_iff.mp h).1]
  exact h
theorem lt_get6 (i : Nat) : lt0[300 + i]? = lt6[i]? := by
  have h := lt_get5 (50 + i)
  rw [← Nat.add_assoc] at h
  rw [h]
  unfold lt5
  have h2 := List.getElem?_append_right (l₁ := lb5) (l₂ := lt6) (i := 50 + i) (Nat.le_add_right 50 i)
  rw [h2]
  show lt6[50 + i - 50]? = _
  rw [Nat.add_sub_cancel_left]
theorem rb5 (i : Nat) {v : UInt8} (h : lb5[i]? = some v) : rd cL_law (250 + i) v.toNat := by
  refine rd_of ((lt_get5 i).trans ?_)
  unfold lt5
  rw [List.getElem?_append_left (List.getElem?_eq_some_iff.mp h).1]
  exact h
theorem lt_get7 (i : Nat) : lt0[350 + i]? = lt7[i]? := by
  have h := lt_get6 (50 + i)
  rw [← Nat.add_assoc] at h
  rw [h]
  unfold lt6
  have h2 := List.getElem?_append_right (l₁ := lb6) (l₂ := lt7) (i := 50 + i) (Nat.le_add_right 50 i)
  rw [h2]
  show lt7[50 + i - 50]? = _
  rw [Nat.add_sub_cancel_left]
theorem rb6 (i : Nat) {v : UInt8} (h : lb6[i]? = some v) : rd cL_law (300 + i) v.toNat := by
  refine rd_of ((lt_get6 i).trans ?_)
  unfold lt6
  rw [List.getElem?_append_left (List.getElem?_eq_some_iff.mp h).1]
  exact h
theorem lt_get8 (i : Nat) : lt0[400 + i]? = lt8[i]? := by
  have h := lt_get7 (50 + i)
  rw [← Nat.add_assoc] at h
  rw [h]
  unfold lt7
  have h2 := List.getElem?_append_right (l₁ := lb7) (l₂ := lt8) (i := 50 + i) (Nat.le_add_right 50 i)
  rw [h2]
  show lt8[50 + i - 50]? = _
  rw [Nat.add_sub_cancel_left]
theorem rb7 (i : Nat) {v : UInt8} (h : lb7[i]? = some v) : rd cL_law (350 + i) v.toNat := by
  refine rd_of ((lt_get7 i).trans ?_)
  unfold lt7
  rw [List.getElem?_append_left (List.getElem?_eq_some_iff.mp h).1]
  exact h
theorem lt_get9 (i : Nat) : lt0[450 + i]? = lt9[i]? := by
  have h := lt_get8 (50 + i)
  rw [← Nat.add_assoc] at h
  rw [h]
  unfold lt8
  have h2 := List.getElem?_append_right (l₁ := lb8) (l₂ := lt9) (i := 50 + i) (Nat.le_add_right 50 i)
  rw [h2]
  show lt9[50 + i - 50]? = _
  rw [Nat.add_sub_cancel_left]
theorem rb8 (i : Nat) {v : UInt8} (h : lb8[i]? = some v) : rd cL_law (400 + i) v.toNat := by
  refine rd_of ((lt_get8 i).trans ?_)
  unfold lt8
  rw [List.getElem?_append_left (List.getElem?_eq_some_iff.mp h).1]
  exact h
theorem lt_get10 (i : Nat) : lt0[500 + i]? = lt10[i]? := by
  have h := lt_get9 (50 + i)
  rw [← Nat.add_assoc] at h
  rw [h]
  unfold lt9
  have h2 := List.getElem?_append_right (l₁ := lb9) (l₂ := lt10) (i := 50 + i) (Nat.le_add_right 50 i)
  rw [h2]
  show lt10[50 + i - 50]? = _
  rw [Nat.add_sub_cancel_left]
theorem rb9 (i : Nat) {v : UInt8} (h : lb9[i]? = some v) : rd cL_law (450 + i) v.toNat := by
  refine rd_of ((lt_get9 i).trans ?_)
  unfold lt9
  rw [List.getElem?_append_left (List.getElem?_eq_some_iff.mp h).1]
  exact h
theorem lt_get11 (i : Nat) : lt0[550 + i]? = lt11[i]? := by
  have h := lt_get10 (50 + i)
  rw [← Nat.add_assoc] at h
  rw [h]
  unfold lt10
  have h2 := List.getElem?_append_right (l₁ := lb10) (l₂ := lt11) (i := 50 + i) (Nat.le_add_right 50 i)
  rw [h2]
  show lt11[50 + i - 50]? = _
  rw [Nat.add_sub_cancel_left]
theorem rb10 (i : Nat) {v : UInt8} (h : lb10[i]? = some v) : rd cL_law (500 + i) v.toNat := by
  refine rd_of ((lt_get10 i).trans ?_)
  unfold lt10
  rw [List.getElem?_append_left (List.getElem?_eq_some_iff.mp h).1]
  exact h
theorem lt_get12 (i : Nat) : lt0[600 + i]? = lt12[i]? := by
  have h := lt_get11 (50 + i)
  rw [← Nat.add_assoc] at h
  rw [h]
  unfold lt11
  have h2 := List.getElem?_append_right (l₁ := lb11) (l₂ := lt12) (i := 50 + i) (Nat.le_add_right 50 i)
  rw [h2]
  show lt12[50 + i - 50]? = _
  rw [Nat.add_sub_cancel_left]
theorem rb11 (i : Nat) {v : UInt8} (h : lb11[i]? = some v) : rd cL_law (550 + i) v.toNat := by
  refine rd_of ((lt_get11 i).trans ?_)
  unfold lt11
  rw [List.getElem?_append_left (List.getElem?_eq_some_iff.mp h).1]
  exact h
theorem lt_get13 (i : Nat) : lt0[650 + i]? = lt13[i]? := by
  have h := lt_get12 (50 + i)
  rw [← Nat.add_assoc] at h
  rw [h]
  unfold lt12
  have h2 := List.getElem?_append_right (l₁ := lb12) (l₂ := lt13) (i := 50 + i) (Nat.le_add_right 50 i)
  rw [h2]
  show lt13[50 + i - 50]? = _
  rw [Nat.add_sub_cancel_left]
theorem rb12 (i : Nat) {v : UInt8} (h : lb12[i]? = some v) : rd cL_law (600 + i) v.toNat := by
  refine rd_of ((lt_get12 i).trans ?_)
  unfold lt12
  rw [List.getElem?_append_left (List.getElem?_eq_some_iff.mp h).1]
  exact h
theorem lt_get14 (i : Nat) : lt0[700 + i]? = lt14[i]? := by
  have h := lt_get13 (50 + i)
  rw [← Nat.add_assoc] at h
  rw [h]
  unfold lt13
  have h2 := List.getElem?_append_right (l₁ := lb13) (l₂ := lt14) (i := 50 + i) (Nat.le_add_right 50 i)
  rw [h2]
  show lt14[50 + i - 50]? = _
  rw [Nat.add_sub_cancel_left]
theorem rb13 (i : Nat) {v : UInt8} (h : lb13[i]? = some v) : rd cL_law (650 + i) v.toNat := by
  refine rd_of ((lt_get13 i).trans ?_)
  unfold lt13
  rw [List.getElem?_append_left (List.getElem?_eq_some_iff.mp h).1]
  exact h
theorem lt_get15 (i : Nat) : lt0[750 + i]? = lt15[i]? := by
  have h := lt_get14 (50 + i)
  rw [← Nat.add_assoc] at h
  rw [h]
  unfold lt14
  have h2 := List.getElem?_append_right (l₁ := lb14) (l₂ := lt15) (i := 50 + i) (Nat.le_add_right 50 i)
  rw [h2]
  show lt15[50 + i - 50]? = _
  rw [Nat.add_sub_cancel_left]
theorem rb14 (i : Nat) {v : UInt8} (h : lb14[i]? = some v) : rd cL_law (700 + i) v.toNat := by
  refine rd_of ((lt_get14 i).trans ?_)
  unfold lt14
  rw [List.getElem?_append_left (List.getElem?_eq_some_iff.mp h).1]
  exact h
theorem lt_get16 (i : Nat) : lt0[800 + i]? = lt16[i]? := by
  have h := lt_get15 (50 + i)
  rw [← Nat.add_assoc] at h
  rw [h]
  unfold lt15
  have h2 := List.getElem?_append_right (l₁ := lb15) (l₂ := lt16) (i := 50 + i) (Nat.le_add_right 50 i)
  rw [h2]
  show lt16[50 + i - 50]? = _
  rw [Nat.add_sub_cancel_left]
theorem rb15 (i : Nat) {v : UInt8} (h : lb15[i]? = some v) : rd cL_law (750 + i) v.toNat := by
  refine rd_of ((lt_get15 i).trans ?_)
  unfold lt15
  rw [List.getElem?_append_left (List.getElem?_eq_some_iff.mp h).1]
  exact h
theorem lt_get17 (i : Nat) : lt0[850 + i]? = lt17[i]? := by
  have h := lt_get16 (50 + i)
  rw [← Nat.add_assoc] at h
  rw [h]
  unfold lt16
  have h2 := List.getElem?_append_right (l₁ := lb16) (l₂ := lt17) (i := 50 + i) (Nat.le_add_right 50 i)
  rw [h2]
  show lt17[50 + i - 50]? = _
  rw [Nat.add_sub_cancel_left]
theorem rb16 (i : Nat) {v : UInt8} (h : lb16[i]? = some v) : rd cL_law (800 + i) v.toNat := by
  refine rd_of ((lt_get16 i).trans ?_)
  unfold lt16
  rw [List.getElem?_append_left (List.getElem?_eq_some_iff.mp h).1]
  exact h
theorem lt_get18 (i : Nat) : lt0[900 + i]? = lt18[i]? := by
  have h := lt_get17 (50 + i)
  rw [← Nat.add_assoc] at h
  rw [h]
  unfold lt17
  have h2 := List.getElem?_append_right (l₁ := lb17) (l₂ := lt18) (i := 50 + i) (Nat.le_add_right 50 i)
  rw [h2]
  show lt18[50 + i - 50]? = _
  rw [Nat.add_sub_cancel_left]
theorem rb17 (i : Nat) {v : UInt8} (h : lb17[i]? = some v) : rd cL_law (850 + i) v.toNat := by
  refine rd_of ((lt_get17 i).trans ?_)
  unfold lt17
  rw [List.getElem?_append_left (List.getElem?_eq_some_iff.mp h).1]
  exact h
theorem lt_get19 (i : Nat) : lt0[950 + i]? = lt19[i]? := by
  have h := lt_get18 (50 + i)
  rw [← Nat.add_assoc] at h
  rw [h]
  unfold lt18
  have h2 := List.getElem?_append_right (l₁ := lb18) (l₂ := lt19) (i := 50 + i) (Nat.le_add_right 50 i)
  rw [h2]
  show lt19[50 + i - 50]? = _
  rw [Nat.add_sub_cancel_left]
theorem rb18 (i : Nat) {v : UInt8} (h : lb18[i]? = some v) : rd cL_law (900 + i) v.toNat := by
  refine rd_of ((lt_get18 i).trans ?_)
  unfold lt18
  rw [List.getElem?_append_left (List.getElem?_eq_some_iff.mp h).1]
  exact h
theorem lt_get20 (i : Nat) : lt0[1000 + i]? = lt20[i]? := by
  have h := lt_get19 (50 + i)
  rw [← Nat.add_assoc] at h
  rw [h]
  unfold lt19
  have h2 := List.getElem?_append_right (l₁ := lb19) (l₂ := lt20) (i := 50 + i) (Nat.le_add_right 50 i)
  rw [h2]
  show lt20[50 + i - 50]? = _
  rw [Nat.add_sub_cancel_left]
theorem rb19 (i : Nat) {v : UInt8} (h : lb19[i]? = some v) : rd cL_law (950 + i) v.toNat := by
  refine rd_of ((lt_get19 i).trans ?_)
  unfold lt19
  rw [List.getElem?_append_left (List.getElem?_eq_some_iff.mp h).1]
  exact h
theorem lt_get21 (i : Nat) : lt0[1050 + i]? = lt21[i]? := by
  have h := lt_get20 (50 + i)
  rw [← Nat.add_assoc] at h
  rw [h]
  unfold lt20
  have h2 := List.getElem?_append_right (l₁ := lb20) (l₂ := lt21) (i := 50 + i) (Nat.le_add_right 50 i)
  rw [h2]
  show lt21[50 + i - 50]? = _
  rw [Nat.add_sub_cancel_left]
theorem rb20 (i : Nat) {v : UInt8} (h : lb20[i]? = some v) : rd cL_law (1000 + i) v.toNat := by
  refine rd_of ((lt_get20 i).trans ?_)
  unfold lt20
  rw [List.getElem?_append_left (List.getElem?_eq_some_iff.mp h).1]
  exact h
theorem lt_get22 (i : Nat) : lt0[1100 + i]? = lt22[i]? := by
  have h := lt_get21 (50 + i)
  rw [← Nat.add_assoc] at h
  rw [h]
  unfold lt21
  have h2 := List.getElem?_append_right (l₁ := lb21) (l₂ := lt22) (i := 50 + i) (Nat.le_add_right 50 i)
  rw [h2]
  show lt22[50 + i - 50]? = _
  rw [Nat.add_sub_cancel_left]
theorem rb21 (i : Nat) {v : UInt8} (h : lb21[i]? = some v) : rd cL_law (1050 + i) v.toNat := by
  refine rd_of ((lt_get21 i).trans ?_)
  unfold lt21
  rw [List.getElem?_append_left (List.getElem?_eq_some_iff.mp h).1]
  exact h
theorem lt_get23 (i : Nat) : lt0[1150 + i]? = lt23[i]? := by
  have h := lt_get22 (50 + i)
  rw [← Nat.add_assoc] at h
  rw [h]
  unfold lt22
  have h2 := List.getElem?_append_right (l₁ := lb22) (l₂ := lt23) (i := 50 + i) (Nat.le_add_right 50 i)
  rw [h2]
  show lt23[50 + i - 50]? = _
  rw [Nat.add_sub_cancel_left]
theorem rb22 (i : Nat) {v : UInt8} (h : lb22[i]? = some v) : rd cL_law (1100 + i) v.toNat := by
  refine rd_of ((lt_get22 i).trans ?_)
  unfold lt22
  rw [List.getElem?_append_left (List.getElem?_eq_some_iff.mp h).1]
  exact h
theorem lt_get24 (i : Nat) : lt0[1200 + i]? = lt24[i]? := by
  have h := lt_get23 (50 + i)
  rw [← Nat.add_assoc] at h
  rw [h]
  unfold lt23
  have h2 := List.getElem?_append_right (l₁ := lb23) (l₂ := lt24) (i := 50 + i) (Nat.le_add_right 50 i)
  rw [h2]
  show lt24[50 + i - 50]? = _
  rw [Nat.add_sub_cancel_left]
theorem rb23 (i : Nat) {v : UInt8} (h : lb23[i]? = some v) : rd cL_law (1150 + i) v.toNat := by
  refine rd_of ((lt_get23 i).trans ?_)
  unfold lt23
  rw [List.getElem?_append_left (List.getElem?_eq_some_iff.mp h).1]
  exact h
theorem lt_get25 (i : Nat) : lt0[1250 + i]? = lt25[i]? := by
  have h := lt_get24 (50 + i)
  rw [← Nat.add_assoc] at h
  rw [h]
  unfold lt24
  have h2 := List.getElem?_append_right (l₁ := lb24) (l₂ := lt25) (i := 50 + i) (Nat.le_add_right 50 i)
  rw [h2]
  show lt25[50 + i - 50]? = _
  rw [Nat.add_sub_cancel_left]
theorem rb24 (i : Nat) {v : UInt8} (h : lb24[i]? = some v) : rd cL_law (1200 + i) v.toNat := by
  refine rd_of ((lt_get24 i).trans ?_)
  unfold lt24
  rw [List.getElem?_append_left (List.getElem?_eq_some_iff.mp h).1]
  exact h
theorem lt_get26 (i : Nat) : lt0[1300 + i]? = lt26[i]? := by
  have h := lt_get25 (50 + i)
  rw [← Nat.add_assoc] at h
  rw [h]
  unfold lt25
  have h2 := List.getElem?_append_right (l₁ := lb25) (l₂ := lt26) (i := 50 + i) (Nat.le_add_right 50 i)
  rw [h2]
  show lt26[50 + i - 50]? = _
  rw [Nat.add_sub_cancel_left]
theorem rb25 (i : Nat) {v : UInt8} (h : lb25[i]? = some v) : rd cL_law (1250 + i) v.toNat := by
  refine rd_of ((lt_get25 i).trans ?_)
  unfold lt25
  rw [List.getElem?_append_left (List.getElem?_eq_some_iff.mp h).1]
  exact h
theorem lt_get27 (i : Nat) : lt0[1350 + i]? = lt27[i]? := by
  have h := lt_get26 (50 + i)
  rw [← Nat.add_assoc] at h
  rw [h]
  unfold lt26
  have h2 := List.getElem?_append_right (l₁ := lb26) (l₂ := lt27) (i := 50 + i) (Nat.le_add_right 50 i)
  rw [h2]
  show lt27[50 + i - 50]? = _
  rw [Nat.add_sub_cancel_left]
theorem rb26 (i : Nat) {v : UInt8} (h : lb26[i]? = some v) : rd cL_law (1300 + i) v.toNat := by
  refine rd_of ((lt_get26 i).trans ?_)
  unfold lt26
  rw [List.getElem?_append_left (List.getElem?_eq_some_iff.mp h).1]
  exact h
theorem lt_get28 (i : Nat) : lt0[1400 + i]? = lt28[i]? := by
  have h := lt_get27 (50 + i)
  rw [← Nat.add_assoc] at h
  rw [h]
  unfold lt27
  have h2 := List.getElem?_append_right (l₁ := lb27) (l₂ := lt28) (i := 50 + i) (Nat.le_add_right 50 i)
  rw [h2]
  show lt28[50 + i - 50]? = _
  rw [Nat.add_sub_cancel_left]
theorem rb27 (i : Nat) {v : UInt8} (h : lb27[i]? = some v) : rd cL_law (1350 + i) v.toNat := by
  refine rd_of ((lt_get27 i).trans ?_)
  unfold lt27
  rw [List.getElem?_append_left (List.getElem?_eq_some_iff.mp h).1]
  exact h
theorem lt_get29 (i : Nat) : lt0[1450 + i]? = lt29[i]? := by
  have h := lt_get28 (50 + i)
  rw [← Nat.add_assoc] at h
  rw [h]
  unfold lt28
  have h2 := List.getElem?_append_right (l₁ := lb28) (l₂ := lt29) (i := 50 + i) (Nat.le_add_right 50 i)
  rw [h2]
  show lt29[50 + i - 50]? = _
  rw [Nat.add_sub_cancel_left]
theorem rb28 (i : Nat) {v : UInt8} (h : lb28[i]? = some v) : rd cL_law (1400 + i) v.toNat := by
  refine rd_of ((lt_get28 i).trans ?_)
  unfold lt28
  rw [List.getElem?_append_left (List.getElem?_eq_some_iff.mp h).1]
  exact h
theorem lt_get30 (i : Nat) : lt0[1500 + i]? = lt30[i]? := by
  have h := lt_get29 (50 + i)
  rw [← Nat.add_assoc] at h
  rw [h]
  unfold lt29
  have h2 := List.getElem?_append_right (l₁ := lb29) (l₂ := lt30) (i := 50 + i) (Nat.le_add_right 50 i)
  rw [h2]
  show lt30[50 + i - 50]? = _
  rw [Nat.add_sub_cancel_left]
theorem rb29 (i : Nat) {v : UInt8} (h : lb29[i]? = some v) : rd cL_law (1450 + i) v.toNat := by
  refine rd_of ((lt_get29 i).trans ?_)
  unfold lt29
  rw [List.getElem?_append_left (List.getElem?_eq_some_iff.mp h).1]
  exact h
theorem lt_get31 (i : Nat) : lt0[1550 + i]? = lt31[i]? := by
  have h := lt_get30 (50 + i)
  rw [← Nat.add_assoc] at h
  rw [h]
  unfold lt30
  have h2 := List.getElem?_append_right (l₁ := lb30) (l₂ := lt31) (i := 50 + i) (Nat.le_add_right 50 i)
  rw [h2]
  show lt31[50 + i - 50]? = _
  rw [Nat.add_sub_cancel_left]
theorem rb30 (i : Nat) {v : UInt8} (h : lb30[i]? = some v) : rd cL_law (1500 + i) v.toNat := by
  refine rd_of ((lt_get30 i).trans ?_)
  unfold lt30
  rw [List.getElem?_append_left (List.getElem?_eq_some_iff.mp h).1]
  exact h
theorem lt_get32 (i : Nat) : lt0[1600 + i]? = lt32[i]? := by
  have h := lt_get31 (50 + i)
  rw [← Nat.add_assoc] at h
  rw [h]
  unfold lt31
  have h2 := List.getElem?_append_right (l₁ := lb31) (l₂ := lt32) (i := 50 + i) (Nat.le_add_right 50 i)
  rw [h2]
  show lt32[50 + i - 50]? = _
  rw [Nat.add_sub_cancel_left]
theorem rb31 (i : Nat) {v : UInt8} (h : lb31[i]? = some v) : rd cL_law (1550 + i) v.toNat := by
  refine rd_of ((lt_get31 i).trans ?_)
  unfold lt31
  rw [List.getElem?_append_left (List.getElem?_eq_some_iff.mp h).1]
  exact h
theorem lt_get33 (i : Nat) : lt0[1650 + i]? = lt33[i]? := by
  have h := lt_get32 (50 + i)
  rw [← Nat.add_assoc] at h
  rw [h]
  unfold lt32
  have h2 := List.getElem?_append_right (l₁ := lb32) (l₂ := lt33) (i := 50 + i) (Nat.le_add_right 50 i)
  rw [h2]
  show lt33[50 + i - 50]? = _
  rw [Nat.add_sub_cancel_left]
theorem rb32 (i : Nat) {v : UInt8} (h : lb32[i]? = some v) : rd cL_law (1600 + i) v.toNat := by
  refine rd_of ((lt_get32 i).trans ?_)
  unfold lt32
  rw [List.getElem?_append_left (List.getElem?_eq_some_iff.mp h).1]
  exact h
theorem lt_get34 (i : Nat) : lt0[1700 + i]? = lt34[i]? := by
  have h := lt_get33 (50 + i)
  rw [← Nat.add_assoc] at h
  rw [h]
  unfold lt33
  have h2 := List.getElem?_append_right (l₁ := lb33) (l₂ := lt34) (i := 50 + i) (Nat.le_add_right 50 i)
  rw [h2]
  show lt34[50 + i - 50]? = _
  rw [Nat.add_sub_cancel_left]
theorem rb33 (i : Nat) {v : UInt8} (h : lb33[i]? = some v) : rd cL_law (1650 + i) v.toNat := by
  refine rd_of ((lt_get33 i).trans ?_)
  unfold lt33
  rw [List.getElem?_append_left (List.getElem?_eq_some_iff.mp h).1]
  exact h
theorem lt_get35 (i : Nat) : lt0[1750 + i]? = lt35[i]? := by
  have h := lt_get34 (50 + i)
  rw [← Nat.add_assoc] at h
  rw [h]
  unfold lt34
  have h2 := List.getElem?_append_right (l₁ := lb34) (l₂ := lt35) (i := 50 + i) (Nat.le_add_right 50 i)
  rw [h2]
  show lt35[50 + i - 50]? = _
  rw [Nat.add_sub_cancel_left]
theorem rb34 (i : Nat) {v : UInt8} (h : lb34[i]? = some v) : rd cL_law (1700 + i) v.toNat := by
  refine rd_of ((lt_get34 i).trans ?_)
  unfold lt34
  rw [List.getElem?_append_left (List.getElem?_eq_some_iff.mp h).1]
  exact h
theorem lt_get36 (i : Nat) : lt0[1800 + i]? = lt36[i]? := by
  have h := lt_get35 (50 + i)
  rw [← Nat.add_assoc] at h
  rw [h]
  unfold lt35
  have h2 := List.getElem?_append_right (l₁ := lb35) (l₂ := lt36) (i := 50 + i) (Nat.le_add_right 50 i)
  rw [h2]
  show lt36[50 + i - 50]? = _
  rw [Nat.add_sub_cancel_left]
theorem rb35 (i : Nat) {v : UInt8} (h : lb35[i]? = some v) : rd cL_law (1750 + i) v.toNat := by
  refine rd_of ((lt_get35 i).trans ?_)
  unfold lt35
  rw [List.getElem?_append_left (List.getElem?_eq_some_iff.mp h).1]
  exact h
theorem lt_get37 (i : Nat) : lt0[1850 + i]? = lt37[i]? := by
  have h := lt_get36 (50 + i)
  rw [← Nat.add_assoc] at h
  rw [h]
  unfold lt36
  have h2 := List.getElem?_append_right (l₁ := lb36) (l₂ := lt37) (i := 50 + i) (Nat.le_add_right 50 i)
  rw [h2]
  show lt37[50 + i - 50]? = _
  rw [Nat.add_sub_cancel_left]
theorem rb36 (i : Nat) {v : UInt8} (h : lb36[i]? = some v) : rd cL_law (1800 + i) v.toNat := by
  refine rd_of ((lt_get36 i).trans ?_)
  unfold lt36
  rw [List.getElem?_append_left (List.getElem?_eq_some_iff.mp h).1]
  exact h
theorem lt_get38 (i : Nat) : lt0[1900 + i]? = lt38[i]? := by
  have h := lt_get37 (50 + i)
  rw [← Nat.add_assoc] at h
  rw [h]
  unfold lt37
  have h2 := List.getElem?_append_right (l₁ := lb37) (l₂ := lt38) (i := 50 + i) (Nat.le_add_right 50 i)
  rw [h2]
  show lt38[50 + i - 50]? = _
  rw [Nat.add_sub_cancel_left]
theorem rb37 (i : Nat) {v : UInt8} (h : lb37[i]? = some v) : rd cL_law (1850 + i) v.toNat := by
  refine rd_of ((lt_get37 i).trans ?_)
  unfold lt37
  rw [List.getElem?_append_left (List.getElem?_eq_some_iff.mp h).1]
  exact h
theorem lt_get39 (i : Nat) : lt0[1950 + i]? = lt39[i]? := by
  have h := lt_get38 (50 + i)
  rw [← Nat.add_assoc] at h
  rw [h]
  unfold lt38
  have h2 := List.getElem?_append_right (l₁ := lb38) (l₂ := lt39) (i := 50 + i) (Nat.le_add_right 50 i)
  rw [h2]
  show lt39[50 + i - 50]? = _
  rw [Nat.add_sub_cancel_left]
theorem rb38 (i : Nat) {v : UInt8} (h : lb38[i]? = some v) : rd cL_law (1900 + i) v.toNat := by
  refine rd_of ((lt_get38 i).trans ?_)
  unfold lt38
  rw [List.getElem?_append_left (List.getElem?_eq_some_iff.mp h).1]
  exact h
theorem lt_get40 (i : Nat) : lt0[2000 + i]? = lt40[i]? := by
  have h := lt_get39 (50 + i)
  rw [← Nat.add_assoc] at h
  rw [h]
  unfold lt39
  have h2 := List.getElem?_append_right (l₁ := lb39) (l₂ := lt40) (i := 50 + i) (Nat.le_add_right 50 i)
  rw [h2]
  show lt40[50 + i - 50]? = _
  rw [Nat.add_sub_cancel_left]
theorem rb39 (i : Nat) {v : UInt8} (h : lb39[i]? = some v) : rd cL_law (1950 + i) v.toNat := by
  refine rd_of ((lt_get39 i).trans ?_)
  unfold lt39
  rw [List.getElem?_append_left (List.getElem?_eq_some_iff.mp h).1]
  exact h
theorem lt_get41 (i : Nat) : lt0[2050 + i]? = lt41[i]? := by
  have h := lt_get40 (50 + i)
  rw [← Nat.add_assoc] at h
  rw [h]
  unfold lt40
  have h2 := List.getElem?_append_right (l₁ := lb40) (l₂ := lt41) (i := 50 + i) (Nat.le_add_right 50 i)
  rw [h2]
  show lt41[50 + i - 50]? = _
  rw [Nat.add_sub_cancel_left]
theorem rb40 (i : Nat) {v : UInt8} (h : lb40[i]? = some v) : rd cL_law (2000 + i) v.toNat := by
  refine rd_of ((lt_get40 i).trans ?_)
  unfold lt40
  rw [List.getElem?_append_left (List.getElem?_eq_some_iff.mp h).1]
  exact h
theorem lt_get42 (i : Nat) : lt0[2100 + i]? = lt42[i]? := by
  have h := lt_get41 (50 + i)
  rw [← Nat.add_assoc] at h
  rw [h]
  unfold lt41
  have h2 := List.getElem?_append_right (l₁ := lb41) (l₂ := lt42) (i := 50 + i) (Nat.le_add_right 50 i)
  rw [h2]
  show lt42[50 + i - 50]? = _
  rw [Nat.add_sub_cancel_left]
theorem rb41 (i : Nat) {v : UInt8} (h : lb41[i]? = some v) : rd cL_law (2050 + i) v.toNat := by
  refine rd_of ((lt_get41 i).trans ?_)
  unfold lt41
  rw [List.getElem?_append_left (List.getElem?_eq_some_iff.mp h).1]
  exact h
theorem lt_get43 (i : Nat) : lt0[2150 + i]? = lt43[i]? := by
  have h := lt_get42 (50 + i)
  rw [← Nat.add_assoc] at h
  rw [h]
  unfold lt42
  have h2 := List.getElem?_append_right (l₁ := lb42) (l₂ := lt43) (i := 50 + i) (Nat.le_add_right 50 i)
  rw [h2]
  show lt43[50 + i - 50]? = _
  rw [Nat.add_sub_cancel_left]
theorem rb42 (i : Nat) {v : UInt8} (h : lb42[i]? = some v) : rd cL_law (2100 + i) v.toNat := by
  refine rd_of ((lt_get42 i).trans ?_)
  unfold lt42
  rw [List.getElem?_append_left (List.getElem?_eq_some_iff.mp h).1]
  exact h
theorem lt_get44 (i : Nat) : lt0[2200 + i]? = lt44[i]? := by
  have h := lt_get43 (50 + i)
  rw [← Nat.add_assoc] at h
  rw [h]
  unfold lt43
  have h2 := List.getElem?_append_right (l₁ := lb43) (l₂ := lt44) (i := 50 + i) (Nat.le_add_right 50 i)
  rw [h2]
  show lt44[50 + i - 50]? = _
  rw [Nat.add_sub_cancel_left]
theorem rb43 (i : Nat) {v : UInt8} (h : lb43[i]? = some v) : rd cL_law (2150 + i) v.toNat := by
  refine rd_of ((lt_get43 i).trans ?_)
  unfold lt43
  rw [List.getElem?_append_left (List.getElem?_eq_some_iff.mp h).1]
  exact h
theorem lt_get45 (i : Nat) : lt0[2250 + i]? = lt45[i]? := by
  have h := lt_get44 (50 + i)
  rw [← Nat.add_assoc] at h
  rw [h]
  unfold lt44
  have h2 := List.getElem?_append_right (l₁ := lb44) (l₂ := lt45) (i := 50 + i) (Nat.le_add_right 50 i)
  rw [h2]
  show lt45[50 + i - 50]? = _
  rw [Nat.add_sub_cancel_left]
theorem rb44 (i : Nat) {v : UInt8} (h : lb44[i]? = some v) : rd cL_law (2200 + i) v.toNat := by
  refine rd_of ((lt_get44 i).trans ?_)
  unfold lt44
  rw [List.getElem?_append_left (List.getElem?_eq_some_iff.mp h).1]
  exact h
theorem lt_get46 (i : Nat) : lt0[2300 + i]? = lt46[i]? := by
  have h := lt_get45 (50 + i)
  rw [← Nat.add_assoc] at h
  rw [h]
  unfold lt45
  have h2 := List.getElem?_append_right (l₁ := lb45) (l₂ := lt46) (i := 50 + i) (Nat.le_add_right 50 i)
  rw [h2]
  show lt46[50 + i - 50]? = _
  rw [Nat.add_sub_cancel_left]
theorem rb45 (i : Nat) {v : UInt8} (h : lb45[i]? = some v) : rd cL_law (2250 + i) v.toNat := by
  refine rd_of ((lt_get45 i).trans ?_)
  unfold lt45
  rw [List.getElem?_append_left (List.getElem?_eq_some_iff.mp h).1]
  exact h
theorem lt_get47 (i : Nat) : lt0[2350 + i]? = lt47[i]? := by
  have h := lt_get46 (50 + i)
  rw [← Nat.add_assoc] at h
  rw [h]
  unfold lt46
  have h2 := List.getElem?_append_right (l₁ := lb46) (l₂ := lt47) (i := 50 + i) (Nat.le_add_right 50 i)
  rw [h2]
  show lt47[50 + i - 50]? = _
  rw [Nat.add_sub_cancel_left]
theorem rb46 (i : Nat) {v : UInt8} (h : lb46[i]? = some v) : rd cL_law (2300 + i) v.toNat := by
  refine rd_of ((lt_get46 i).trans ?_)
  unfold lt46
  rw [List.getElem?_append_left (List.getElem?_eq_some_iff.mp h).1]
  exact h
theorem lt_get48 (i : Nat) : lt0[2400 + i]? = lt48[i]? := by
  have h := lt_get47 (50 + i)
  rw [← Nat.add_assoc] at h
  rw [h]
  unfold lt47
  have h2 := List.getElem?_append_right (l₁ := lb47) (l₂ := lt48) (i := 50 + i) (Nat.le_add_right 50 i)
  rw [h2]
  show lt48[50 + i - 50]? = _
  rw [Nat.add_sub_cancel_left]
theorem rb47 (i : Nat) {v : UInt8} (h : lb47[i]? = some v) : rd cL_law (2350 + i) v.toNat := by
  refine rd_of ((lt_get47 i).trans ?_)
  unfold lt47
  rw [List.getElem?_append_left (List.getElem?_eq_some_iff.mp h).1]
  exact h
theorem lt_get49 (i : Nat) : lt0[2450 + i]? = lt49[i]? := by
  have h := lt_get48 (50 + i)
  rw [← Nat.add_assoc] at h
  rw [h]
  unfold lt48
  have h2 := List.getElem?_append_right (l₁ := lb48) (l₂ := lt49) (i := 50 + i) (Nat.le_add_right 50 i)
  rw [h2]
  show lt49[50 + i - 50]? = _
  rw [Nat.add_sub_cancel_left]
theorem rb48 (i : Nat) {v : UInt8} (h : lb48[i]? = some v) : rd cL_law (2400 + i) v.toNat := by
  refine rd_of ((lt_get48 i).trans ?_)
  unfold lt48
  rw [List.getElem?_append_left (List.getElem?_eq_some_iff.mp h).1]
  exact h
theorem lt_get50 (i : Nat) : lt0[2500 + i]? = lt50[i]? := by
  have h := lt_get49 (50 + i)
  rw [← Nat.add_assoc] at h
  rw [h]
  unfold lt49
  have h2 := List.getElem?_append_right (l₁ := lb49) (l₂ := lt50) (i := 50 + i) (Nat.le_add_right 50 i)
  rw [h2]
  show lt50[50 + i - 50]? = _
  rw [Nat.add_sub_cancel_left]
theorem rb49 (i : Nat) {v : UInt8} (h : lb49[i]? = some v) : rd cL_law (2450 + i) v.toNat := by
  refine rd_of ((lt_get49 i).trans ?_)
  unfold lt49
  rw [List.getElem?_append_left (List.getElem?_eq_some_iff.mp h).1]
  exact h
theorem lt_get51 (i : Nat) : lt0[2550 + i]? = lt51[i]? := by
  have h := lt_get50 (50 + i)
  rw [← Nat.add_assoc] at h
  rw [h]
  unfold lt50
  have h2 := List.getElem?_append_right (l₁ := lb50) (l₂ := lt51) (i := 50 + i) (Nat.le_add_right 50 i)
  rw [h2]
  show lt51[50 + i - 50]? = _
  rw [Nat.add_sub_cancel_left]
theorem rb50 (i : Nat) {v : UInt8} (h : lb50[i]? = some v) : rd cL_law (2500 + i) v.toNat := by
  refine rd_of ((lt_get50 i).trans ?_)
  unfold lt50
  rw [List.getElem?_append_left (List.getElem?_eq_some_iff.mp h).1]
  exact h
theorem lt_get52 (i : Nat) : lt0[2600 + i]? = lt52[i]? := by
  have h := lt_get51 (50 + i)
  rw [← Nat.add_assoc] at h
  rw [h]
  unfold lt51
  have h2 := List.getElem?_append_right (l₁ := lb51) (l₂ := lt52) (i := 50 + i) (Nat.le_add_right 50 i)
  rw [h2]
  show lt52[50 + i - 50]? = _
  rw [Nat.add_sub_cancel_left]
theorem rb51 (i : Nat) {v : UInt8} (h : lb51[i]? = some v) : rd cL_law (2550 + i) v.toNat := by
  refine rd_of ((lt_get51 i).trans ?_)
  unfold lt51
  rw [List.getElem?_append_left (List.getElem?_eq_some_iff.mp h).1]
  exact h
theorem lt_get53 (i : Nat) : lt0[2650 + i]? = lt53[i]? := by
  have h := lt_get52 (50 + i)
  rw [← Nat.add_assoc] at h
  rw [h]
  unfold lt52
  have h2 := List.getElem?_append_right (l₁ := lb52) (l₂ := lt53) (i := 50 + i) (Nat.le_add_right 50 i)
  rw [h2]
  show lt53[50 + i - 50]? = _
  rw [Nat.add_sub_cancel_left]
theorem rb52 (i : Nat) {v : UInt8} (h : lb52[i]? = some v) : rd cL_law (2600 + i) v.toNat := by
  refine rd_of ((lt_get52 i).trans ?_)
  unfold lt52
  rw [List.getElem?_append_left (List.getElem?_eq_some_iff.mp h).1]
  exact h
theorem lt_get54 (i : Nat) : lt0[2700 + i]? = lt54[i]? := by
  have h := lt_get53 (50 + i)
  rw [← Nat.add_assoc] at h
  rw [h]
  unfold lt53
  have h2 := List.getElem?_append_right (l₁ := lb53) (l₂ := lt54) (i := 50 + i) (Nat.le_add_right 50 i)
  rw [h2]
  show lt54[50 + i - 50]? = _
  rw [Nat.add_sub_cancel_left]
theorem rb53 (i : Nat) {v : UInt8} (h : lb53[i]? = some v) : rd cL_law (2650 + i) v.toNat := by
  refine rd_of ((lt_get53 i).trans ?_)
  unfold lt53
  rw [List.getElem?_append_left (List.getElem?_eq_some_iff.mp h).1]
  exact h
theorem lt_get55 (i : Nat) : lt0[2750 + i]? = lt55[i]? := by
  have h := lt_get54 (50 + i)
  rw [← Nat.add_assoc] at h
  rw [h]
  unfold lt54
  have h2 := List.getElem?_append_right (l₁ := lb54) (l₂ := lt55) (i := 50 + i) (Nat.le_add_right 50 i)
  rw [h2]
  show lt55[50 + i - 50]? = _
  rw [Nat.add_sub_cancel_left]
theorem rb54 (i : Nat) {v : UInt8} (h : lb54[i]? = some v) : rd cL_law (2700 + i) v.toNat := by
  refine rd_of ((lt_get54 i).trans ?_)
  unfold lt54
  rw [List.getElem?_append_left (List.getElem?_eq_some_iff.mp h).1]
  exact h
theorem lt_get56 (i : Nat) : lt0[2800 + i]? = lt56[i]? := by
  have h := lt_get55 (50 + i)
  rw [← Nat.add_assoc] at h
  rw [h]
  unfold lt55
  have h2 := List.getElem?_append_right (l₁ := lb55) (l₂ := lt56) (i := 50 + i) (Nat.le_add_right 50 i)
  rw [h2]
  show lt56[50 + i - 50]? = _
  rw [Nat.add_sub_cancel_left]
theorem rb55 (i : Nat) {v : UInt8} (h : lb55[i]? = some v) : rd cL_law (2750 + i) v.toNat := by
  refine rd_of ((lt_get55 i).trans ?_)
  unfold lt55
  rw [List.getElem?_append_left (List.getElem?_eq_some_iff.mp h).1]
  exact h
theorem lt_get57 (i : Nat) : lt0[2850 + i]? = lt57[i]? := by
  have h := lt_get56 (50 + i)
  rw [← Nat.add_assoc] at h
  rw [h]
  unfold lt56
  have h2 := List.getElem?_append_right (l₁ := lb56) (l₂ := lt57) (i := 50 + i) (Nat.le_add_right 50 i)
  rw [h2]
  show lt57[50 + i - 50]? = _
  rw [Nat.add_sub_cancel_left]
theorem rb56 (i : Nat) {v : UInt8} (h : lb56[i]? = some v) : rd cL_law (2800 + i) v.toNat := by
  refine rd_of ((lt_get56 i).trans ?_)
  unfold lt56
  rw [List.getElem?_append_left (List.getElem?_eq_some_iff.mp h).1]
  exact h
theorem lt_get58 (i : Nat) : lt0[2900 + i]? = lt58[i]? := by
  have h := lt_get57 (50 + i)
  rw [← Nat.add_assoc] at h
  rw [h]
  unfold lt57
  have h2 := List.getElem?_append_right (l₁ := lb57) (l₂ := lt58) (i := 50 + i) (Nat.le_add_right 50 i)
  rw [h2]
  show lt58[50 + i - 50]? = _
  rw [Nat.add_sub_cancel_left]
theorem rb57 (i : Nat) {v : UInt8} (h : lb57[i]? = some v) : rd cL_law (2850 + i) v.toNat := by
  refine rd_of ((lt_get57 i).trans ?_)
  unfold lt57
  rw [List.getElem?_append_left (List.getElem?_eq_some_iff.mp h).1]
  exact h
theorem lt_get59 (i : Nat) : lt0[2950 + i]? = lt59[i]? := by
  have h := lt_get58 (50 + i)
  rw [← Nat.add_assoc] at h
  rw [h]
  unfold lt58
  have h2 := List.getElem?_append_right (l₁ := lb58) (l₂ := lt59) (i := 50 + i) (Nat.le_add_right 50 i)
  rw [h2]
  show lt59[50 + i - 50]? = _
  rw [Nat.add_sub_cancel_left]
theorem rb58 (i : Nat) {v : UInt8} (h : lb58[i]? = some v) : rd cL_law (2900 + i) v.toNat := by
  refine rd_of ((lt_get58 i).trans ?_)
  unfold lt58
  rw [List.getElem?_append_left (List.getElem?_eq_some_iff.mp h).1]
  exact h
theorem lt_get60 (i : Nat) : lt0[3000 + i]? = lt60[i]? := by
  have h := lt_get59 (50 + i)
  rw [← Nat.add_assoc] at h
  rw [h]
  unfold lt59
  have h2 := List.getElem?_append_right (l₁ := lb59) (l₂ := lt60) (i := 50 + i) (Nat.le_add_right 50 i)
  rw [h2]
  show lt60[50 + i - 50]? = _
  rw [Nat.add_sub_cancel_left]
theorem rb59 (i : Nat) {v : UInt8} (h : lb59[i]? = some v) : rd cL_law (2950 + i) v.toNat := by
  refine rd_of ((lt_get59 i).trans ?_)
  unfold lt59
  rw [List.getElem?_append_left (List.getElem?_eq_some_iff.mp h).1]
  exact h
theorem lt_get61 (i : Nat) : lt0[3050 + i]? = lt61[i]? := by
  have h := lt_get60 (50 + i)
  rw [← Nat.add_assoc] at h
  rw [h]
  unfold lt60
  have h2 := List.getElem?_append_right (l₁ := lb60) (l₂ := lt61) (i := 50 + i) (Nat.le_add_right 50 i)
  rw [h2]
  show lt61[50 + i - 50]? = _
  rw [Nat.add_sub_cancel_left]
theorem rb60 (i : Nat) {v : UInt8} (h : lb60[i]? = some v) : rd cL_law (3000 + i) v.toNat := by
  refine rd_of ((lt_get60 i).trans ?_)
  unfold lt60
  rw [List.getElem?_append_left (List.getElem?_eq_some_iff.mp h).1]
  exact h
theorem lt_get62 (i : Nat) : lt0[3068 + i]? = lt62[i]? := by
  have h := lt_get61 (18 + i)
  rw [← Nat.add_assoc] at h
  rw [h]
  unfold lt61
  have h2 := List.getElem?_append_right (l₁ := lb61) (l₂ := lt62) (i := 18 + i) (Nat.le_add_right 18 i)
  rw [h2]
  show lt62[18 + i - 18]? = _
  rw [Nat.add_sub_cancel_left]
theorem rb61 (i : Nat) {v : UInt8} (h : lb61[i]? = some v) : rd cL_law (3050 + i) v.toNat := by
  refine rd_of ((lt_get61 i).trans ?_)
  unfold lt61
  rw [List.getElem?_append_left (List.getElem?_eq_some_iff.mp h).1]
  exact h
theorem op_187 {c : ByteArray} {pc p2 : Nat} {a b : Nat} (h : rd c pc 187) (h2 : rd c (pc + 1) a) (h3 : rd c (pc + 2) b) (hp : p2 = pc + 3) : decode c pc = .ok (.new (a * 256 + b), 3) ∧ p2 = pc + 3 := by
  refine ⟨?_, hp⟩
  have e : ClassFile.Decoder.instr pc c pc = .ok (.new (a * 256 + b), pc + 3) := by
    unfold ClassFile.Decoder.instr
    change Except.bind (ClassFile.Reader.u1 c pc) _ = _
    rw [u1_rd h]
    change Except.bind (ClassFile.Reader.u2 c (pc + 1)) _ = _
    rw [u2_rd h2 h3]
    rfl
  rw [dec_i e, Nat.add_sub_cancel_left]
theorem op_89 {c : ByteArray} {pc p2 : Nat} (h : rd c pc 89) (hp : p2 = pc + 1) : decode c pc = .ok (.dup, 1) ∧ p2 = pc + 1 := by
  refine ⟨?_, hp⟩
  have e : ClassFile.Decoder.instr pc c pc = .ok (.dup, pc + 1) := by
    unfold ClassFile.Decoder.instr
    change Except.bind (ClassFile.Reader.u1 c pc) _ = _
    rw [u1_rd h]
    rfl
  rw [dec_i e, Nat.add_sub_cancel_left]
theorem op_183 {c : ByteArray} {pc p2 : Nat} {a b : Nat} (h : rd c pc 183) (h2 : rd c (pc + 1) a) (h3 : rd c (pc + 2) b) (hp : p2 = pc + 3) : decode c pc = .ok (.invokespecial (a * 256 + b), 3) ∧ p2 = pc + 3 := by
  refine ⟨?_, hp⟩
  have e : ClassFile.Decoder.instr pc c pc = .ok (.invokespecial (a * 256 + b), pc + 3) := by
    unfold ClassFile.Decoder.instr
    change Except.bind (ClassFile.Reader.u1 c pc) _ = _
    rw [u1_rd h]
    change Except.bind (ClassFile.Reader.u2 c (pc + 1)) _ = _
    rw [u2_rd h2 h3]
    rfl
  rw [dec_i e, Nat.add_sub_cancel_left]
theorem op_76 {c : ByteArray} {pc p2 : Nat} (h : rd c pc 76) (hp : p2 = pc + 1) : decode c pc = .ok (.astore_n 1, 1) ∧ p2 = pc + 1 := by
  refine ⟨?_, hp⟩
  have e : ClassFile.Decoder.instr pc c pc = .ok (.astore_n 1, pc + 1) := by
    unfold ClassFile.Decoder.instr
    change Except.bind (ClassFile.Reader.u1 c pc) _ = _
    rw [u1_rd h]
    rfl
  rw [dec_i e, Nat.add_sub_cancel_left]
theorem op_77 {c : ByteArray} {pc p2 : Nat} (h : rd c pc 77) (hp : p2 = pc + 1) : decode c pc = .ok (.astore_n 2, 1) ∧ p2 = pc + 1 := by
  refine ⟨?_, hp⟩
  have e : ClassFile.Decoder.instr pc c pc = .ok (.astore_n 2, pc + 1) := by
    unfold ClassFile.Decoder.instr
    change Except.bind (ClassFile.Reader.u1 c pc) _ = _
    rw [u1_rd h]
    rfl
  rw [dec_i e, Nat.add_sub_cancel_left]
theorem op_4 {c : ByteArray} {pc p2 : Nat} (h : rd c pc 4) (hp : p2 = pc + 1) : decode c pc = .ok (.iconst 1, 1) ∧ p2 = pc + 1 := by
  refine ⟨?_, hp⟩
  have e : ClassFile.Decoder.instr pc c pc = .ok (.iconst 1, pc + 1) := by
    unfold ClassFile.Decoder.instr
    change Except.bind (ClassFile.Reader.u1 c pc) _ = _
    rw [u1_rd h]
    rfl
  rw [dec_i e, Nat.add_sub_cancel_left]
theorem op_78 {c : ByteArray} {pc p2 : Nat} (h : rd c pc 78) (hp : p2 = pc + 1) : decode c pc = .ok (.astore_n 3, 1) ∧ p2 = pc + 1 := by
  refine ⟨?_, hp⟩
  have e : ClassFile.Decoder.instr pc c pc = .ok (.astore_n 3, pc + 1) := by
    unfold ClassFile.Decoder.instr
    change Except.bind (ClassFile.Reader.u1 c pc) _ = _
    rw [u1_rd h]
    rfl
  rw [dec_i e, Nat.add_sub_cancel_left]
theorem op_58 {c : ByteArray} {pc p2 : Nat} {a : Nat} (h : rd c pc 58) (h2 : rd c (pc + 1) a) (hp : p2 = pc + 2) : decode c pc = .ok (.astore a, 2) ∧ p2 = pc + 2 := by
  refine ⟨?_, hp⟩
  have e : ClassFile.Decoder.instr pc c pc = .ok (.astore a, pc + 2) := by
    unfold ClassFile.Decoder.instr
    change Except.bind (ClassFile.Reader.u1 c pc) _ = _
    rw [u1_rd h]
    change Except.bind (ClassFile.Reader.u1 c (pc + 1)) _ = _
    rw [u1_rd h2]
    rfl
  rw [dec_i e, Nat.add_sub_cancel_left]
theorem op_3 {c : ByteArray} {pc p2 : Nat} (h : rd c pc 3) (hp : p2 = pc + 1) : decode c pc = .ok (.iconst 0, 1) ∧ p2 = pc + 1 := by
  refine ⟨?_, hp⟩
  have e : ClassFile.Decoder.instr pc c pc = .ok (.iconst 0, pc + 1) := by
    unfold ClassFile.Decoder.instr
    change Except.bind (ClassFile.Reader.u1 c pc) _ = _
    rw [u1_rd h]
    rfl
  rw [dec_i e, Nat.add_sub_cancel_left]
theorem op_54 {c : ByteArray} {pc p2 : Nat} {a : Nat} (h : rd c pc 54) (h2 : rd c (pc + 1) a) (hp : p2 = pc + 2) : decode c pc = .ok (.istore a, 2) ∧ p2 = pc + 2 := by
  refine ⟨?_, hp⟩
  have e : ClassFile.Decoder.instr pc c pc = .ok (.istore a, pc + 2) := by
    unfold ClassFile.Decoder.instr
    change Except.bind (ClassFile.Reader.u1 c pc) _ = _
    rw [u1_rd h]
    change Except.bind (ClassFile.Reader.u1 c (pc + 1)) _ = _
    rw [u1_rd h2]
    rfl
  rw [dec_i e, Nat.add_sub_cancel_left]
theorem op_21 {c : ByteArray} {pc p2 : Nat} {a : Nat} (h : rd c pc 21) (h2 : rd c (pc + 1) a) (hp : p2 = pc + 2) : decode c pc = .ok (.iload a, 2) ∧ p2 = pc + 2 := by
  refine ⟨?_, hp⟩
  have e : ClassFile.Decoder.instr pc c pc = .ok (.iload a, pc + 2) := by
    unfold ClassFile.Decoder.instr
    change Except.bind (ClassFile.Reader.u1 c pc) _ = _
    rw [u1_rd h]
    change Except.bind (ClassFile.Reader.u1 c (pc + 1)) _ = _
    rw [u1_rd h2]
    rfl
  rw [dec_i e, Nat.add_sub_cancel_left]
theorem op_42 {c : ByteArray} {pc p2 : Nat} (h : rd c pc 42) (hp : p2 = pc + 1) : decode c pc = .ok (.aload_n 0, 1) ∧ p2 = pc + 1 := by
  refine ⟨?_, hp⟩
  have e : ClassFile.Decoder.instr pc c pc = .ok (.aload_n 0, pc + 1) := by
    unfold ClassFile.Decoder.instr
    change Except.bind (ClassFile.Reader.u1 c pc) _ = _
    rw [u1_rd h]
    rfl
  rw [dec_i e, Nat.add_sub_cancel_left]
theorem op_190 {c : ByteArray} {pc p2 : Nat} (h : rd c pc 190) (hp : p2 = pc + 1) : decode c pc = .ok (.arraylength, 1) ∧ p2 = pc + 1 := by
  refine ⟨?_, hp⟩
  have e : ClassFile.Decoder.instr pc c pc = .ok (.arraylength, pc + 1) := by
    unfold ClassFile.Decoder.instr
    change Except.bind (ClassFile.Reader.u1 c pc) _ = _
    rw [u1_rd h]
    rfl
  rw [dec_i e, Nat.add_sub_cancel_left]
theorem op_16 {c : ByteArray} {pc p2 : Nat} {a : Nat} {v : Int} (h : rd c pc 16) (h2 : rd c (pc + 1) a) (hv : ClassFile.Reader.signed 8 a = v) (hp : p2 = pc + 2) : decode c pc = .ok (.bipush v, 2) ∧ p2 = pc + 2 := by
  refine ⟨?_, hp⟩
  have e : ClassFile.Decoder.instr pc c pc = .ok (.bipush v, pc + 2) := by
    unfold ClassFile.Decoder.instr
    change Except.bind (ClassFile.Reader.u1 c pc) _ = _
    rw [u1_rd h]
    change Except.bind (ClassFile.Reader.s1 c (pc + 1)) _ = _
    rw [s1_rd h2, hv]
    rfl
  rw [dec_i e, Nat.add_sub_cancel_left]
theorem op_100 {c : ByteArray} {pc p2 : Nat} (h : rd c pc 100) (hp : p2 = pc + 1) : decode c pc = .ok (.isub, 1) ∧ p2 = pc + 1 := by
  refine ⟨?_, hp⟩
  have e : ClassFile.Decoder.instr pc c pc = .ok (.isub, pc + 1) := by
    unfold ClassFile.Decoder.instr
    change Except.bind (ClassFile.Reader.u1 c pc) _ = _
    rw [u1_rd h]
    rfl
  rw [dec_i e, Nat.add_sub_cancel_left]
theorem op_163 {c : ByteArray} {pc p2 : Nat} {a b : Nat} {v : Int} (h : rd c pc 163) (h2 : rd c (pc + 1) a) (h3 : rd c (pc + 2) b) (hv : ClassFile.Reader.signed 16 (a * 256 + b) = v) (hp : p2 = pc + 3) : decode c pc = .ok (.if_icmp .gt v, 3) ∧ p2 = pc + 3 := by
  refine ⟨?_, hp⟩
  have e : ClassFile.Decoder.instr pc c pc = .ok (.if_icmp .gt v, pc + 3) := by
    unfold ClassFile.Decoder.instr
    change Except.bind (ClassFile.Reader.u1 c pc) _ = _
    rw [u1_rd h]
    change Except.bind (ClassFile.Reader.s2 c (pc + 1)) _ = _
    rw [s2_rd h2 h3, hv]
    rfl
  rw [dec_i e, Nat.add_sub_cancel_left]
theorem op_46 {c : ByteArray} {pc p2 : Nat} (h : rd c pc 46) (hp : p2 = pc + 1) : decode c pc = .ok (.iaload, 1) ∧ p2 = pc + 1 := by
  refine ⟨?_, hp⟩
  have e : ClassFile.Decoder.instr pc c pc = .ok (.iaload, pc + 1) := by
    unfold ClassFile.Decoder.instr
    change Except.bind (ClassFile.Reader.u1 c pc) _ = _
    rw [u1_rd h]
    rfl
  rw [dec_i e, Nat.add_sub_cancel_left]
theorem op_126 {c : ByteArray} {pc p2 : Nat} (h : rd c pc 126) (hp : p2 = pc + 1) : decode c pc = .ok (.iand, 1) ∧ p2 = pc + 1 := by
  refine ⟨?_, hp⟩
  have e : ClassFile.Decoder.instr pc c pc = .ok (.iand, pc + 1) := by
    unfold ClassFile.Decoder.instr
    change Except.bind (ClassFile.Reader.u1 c pc) _ = _
    rw [u1_rd h]
    rfl
  rw [dec_i e, Nat.add_sub_cancel_left]
theorem op_43 {c : ByteArray} {pc p2 : Nat} (h : rd c pc 43) (hp : p2 = pc + 1) : decode c pc = .ok (.aload_n 1, 1) ∧ p2 = pc + 1 := by
  refine ⟨?_, hp⟩
  have e : ClassFile.Decoder.instr pc c pc = .ok (.aload_n 1, pc + 1) := by
    unfold ClassFile.Decoder.instr
    change Except.bind (ClassFile.Reader.u1 c pc) _ = _
    rw [u1_rd h]
    rfl
  rw [dec_i e, Nat.add_sub_cancel_left]
theorem op_96 {c : ByteArray} {pc p2 : Nat} (h : rd c pc 96) (hp : p2 = pc + 1) : decode c pc = .ok (.iadd, 1) ∧ p2 = pc + 1 := by
  refine ⟨?_, hp⟩
  have e : ClassFile.Decoder.instr pc c pc = .ok (.iadd, pc + 1) := by
    unfold ClassFile.Decoder.instr
    change Except.bind (ClassFile.Reader.u1 c pc) _ = _
    rw [u1_rd h]
    rfl
  rw [dec_i e, Nat.add_sub_cancel_left]
theorem op_5 {c : ByteArray} {pc p2 : Nat} (h : rd c pc 5) (hp : p2 = pc + 1) : decode c pc = .ok (.iconst 2, 1) ∧ p2 = pc + 1 := by
  refine ⟨?_, hp⟩
  have e : ClassFile.Decoder.instr pc c pc = .ok (.iconst 2, pc + 1) := by
    unfold ClassFile.Decoder.instr
    change Except.bind (ClassFile.Reader.u1 c pc) _ = _
    rw [u1_rd h]
    rfl
  rw [dec_i e, Nat.add_sub_cancel_left]
theorem op_6 {c : ByteArray} {pc p2 : Nat} (h : rd c pc 6) (hp : p2 = pc + 1) : decode c pc = .ok (.iconst 3, 1) ∧ p2 = pc + 1 := by
  refine ⟨?_, hp⟩
  have e : ClassFile.Decoder.instr pc c pc = .ok (.iconst 3, pc + 1) := by
    unfold ClassFile.Decoder.instr
    change Except.bind (ClassFile.Reader.u1 c pc) _ = _
    rw [u1_rd h]
    rfl
  rw [dec_i e, Nat.add_sub_cancel_left]
theorem op_7 {c : ByteArray} {pc p2 : Nat} (h : rd c pc 7) (hp : p2 = pc + 1) : decode c pc = .ok (.iconst 4, 1) ∧ p2 = pc + 1 := by
  refine ⟨?_, hp⟩
  have e : ClassFile.Decoder.instr pc c pc = .ok (.iconst 4, pc + 1) := by
    unfold ClassFile.Decoder.instr
    change Except.bind (ClassFile.Reader.u1 c pc) _ = _
    rw [u1_rd h]
    rfl
  rw [dec_i e, Nat.add_sub_cancel_left]
theorem op_8 {c : ByteArray} {pc p2 : Nat} (h : rd c pc 8) (hp : p2 = pc + 1) : decode c pc = .ok (.iconst 5, 1) ∧ p2 = pc + 1 := by
  refine ⟨?_, hp⟩
  have e : ClassFile.Decoder.instr pc c pc = .ok (.iconst 5, pc + 1) := by
    unfold ClassFile.Decoder.instr
    change Except.bind (ClassFile.Reader.u1 c pc) _ = _
    rw [u1_rd h]
    rfl
  rw [dec_i e, Nat.add_sub_cancel_left]
theorem op_45 {c : ByteArray} {pc p2 : Nat} (h : rd c pc 45) (hp : p2 = pc + 1) : decode c pc = .ok (.aload_n 3, 1) ∧ p2 = pc + 1 := by
  refine ⟨?_, hp⟩
  have e : ClassFile.Decoder.instr pc c pc = .ok (.aload_n 3, pc + 1) := by
    unfold ClassFile.Decoder.instr
    change Except.bind (ClassFile.Reader.u1 c pc) _ = _
    rw [u1_rd h]
    rfl
  rw [dec_i e, Nat.add_sub_cancel_left]
theorem op_184 {c : ByteArray} {pc p2 : Nat} {a b : Nat} (h : rd c pc 184) (h2 : rd c (pc + 1) a) (h3 : rd c (pc + 2) b) (hp : p2 = pc + 3) : decode c pc = .ok (.invokestatic (a * 256 + b), 3) ∧ p2 = pc + 3 := by
  refine ⟨?_, hp⟩
  have e : ClassFile.Decoder.instr pc c pc = .ok (.invokestatic (a * 256 + b), pc + 3) := by
    unfold ClassFile.Decoder.instr
    change Except.bind (ClassFile.Reader.u1 c pc) _ = _
    rw [u1_rd h]
    change Except.bind (ClassFile.Reader.u2 c (pc + 1)) _ = _
    rw [u2_rd h2 h3]
    rfl
  rw [dec_i e, Nat.add_sub_cancel_left]
theorem op_44 {c : ByteArray} {pc p2 : Nat} (h : rd c pc 44) (hp : p2 = pc + 1) : decode c pc = .ok (.aload_n 2, 1) ∧ p2 = pc + 1 := by
  refine ⟨?_, hp⟩
  have e : ClassFile.Decoder.instr pc c pc = .ok (.aload_n 2, pc + 1) := by
    unfold ClassFile.Decoder.instr
    change Except.bind (ClassFile.Reader.u1 c pc) _ = _
    rw [u1_rd h]
    rfl
  rw [dec_i e, Nat.add_sub_cancel_left]
theorem op_182 {c : ByteArray} {pc p2 : Nat} {a b : Nat} (h : rd c pc 182) (h2 : rd c (pc + 1) a) (h3 : rd c (pc + 2) b) (hp : p2 = pc + 3) : decode c pc = .ok (.invokevirtual (a * 256 + b), 3) ∧ p2 = pc + 3 := by
  refine ⟨?_, hp⟩
  have e : ClassFile.Decoder.instr pc c pc = .ok (.invokevirtual (a * 256 + b), pc + 3) := by
    unfold ClassFile.Decoder.instr
    change Except.bind (ClassFile.Reader.u1 c pc) _ = _
    rw [u1_rd h]
    change Except.bind (ClassFile.Reader.u2 c (pc + 1)) _ = _
    rw [u2_rd h2 h3]
    rfl
  rw [dec_i e, Nat.add_sub_cancel_left]
theorem op_159 {c : ByteArray} {pc p2 : Nat} {a b : Nat} {v : Int} (h : rd c pc 159) (h2 : rd c (pc + 1) a) (h3 : rd c (pc + 2) b) (hv : ClassFile.Reader.signed 16 (a * 256 + b) = v) (hp : p2 = pc + 3) : decode c pc = .ok (.if_icmp .eq v, 3) ∧ p2 = pc + 3 := by
  refine ⟨?_, hp⟩
  have e : ClassFile.Decoder.instr pc c pc = .ok (.if_icmp .eq v, pc + 3) := by
    unfold ClassFile.Decoder.instr
    change Except.bind (ClassFile.Reader.u1 c pc) _ = _
    rw [u1_rd h]
    change Except.bind (ClassFile.Reader.s2 c (pc + 1)) _ = _
    rw [s2_rd h2 h3, hv]
    rfl
  rw [dec_i e, Nat.add_sub_cancel_left]
theorem op_172 {c : ByteArray} {pc p2 : Nat} (h : rd c pc 172) (hp : p2 = pc + 1) : decode c pc = .ok (.ireturn, 1) ∧ p2 = pc + 1 := by
  refine ⟨?_, hp⟩
  have e : ClassFile.Decoder.instr pc c pc = .ok (.ireturn, pc + 1) := by
    unfold ClassFile.Decoder.instr
    change Except.bind (ClassFile.Reader.u1 c pc) _ = _
    rw [u1_rd h]
    rfl
  rw [dec_i e, Nat.add_sub_cancel_left]
theorem op_154 {c : ByteArray} {pc p2 : Nat} {a b : Nat} {v : Int} (h : rd c pc 154) (h2 : rd c (pc + 1) a) (h3 : rd c (pc + 2) b) (hv : ClassFile.Reader.signed 16 (a * 256 + b) = v) (hp : p2 = pc + 3) : decode c pc = .ok (.ifCond .ne v, 3) ∧ p2 = pc + 3 := by
  refine ⟨?_, hp⟩
  have e : ClassFile.Decoder.instr pc c pc = .ok (.ifCond .ne v, pc + 3) := by
    unfold ClassFile.Decoder.instr
    change Except.bind (ClassFile.Reader.u1 c pc) _ = _
    rw [u1_rd h]
    change Except.bind (ClassFile.Reader.s2 c (pc + 1)) _ = _
    rw [s2_rd h2 h3, hv]
    rfl
  rw [dec_i e, Nat.add_sub_cancel_left]
theorem op_47 {c : ByteArray} {pc p2 : Nat} (h : rd c pc 47) (hp : p2 = pc + 1) : decode c pc = .ok (.laload, 1) ∧ p2 = pc + 1 := by
  refine ⟨?_, hp⟩
  have e : ClassFile.Decoder.instr pc c pc = .ok (.laload, pc + 1) := by
    unfold ClassFile.Decoder.instr
    change Except.bind (ClassFile.Reader.u1 c pc) _ = _
    rw [u1_rd h]
    rfl
  rw [dec_i e, Nat.add_sub_cancel_left]
theorem op_133 {c : ByteArray} {pc p2 : Nat} (h : rd c pc 133) (hp : p2 = pc + 1) : decode c pc = .ok (.i2l, 1) ∧ p2 = pc + 1 := by
  refine ⟨?_, hp⟩
  have e : ClassFile.Decoder.instr pc c pc = .ok (.i2l, pc + 1) := by
    unfold ClassFile.Decoder.instr
    change Except.bind (ClassFile.Reader.u1 c pc) _ = _
    rw [u1_rd h]
    rfl
  rw [dec_i e, Nat.add_sub_cancel_left]
theorem op_148 {c : ByteArray} {pc p2 : Nat} (h : rd c pc 148) (hp : p2 = pc + 1) : decode c pc = .ok (.lcmp, 1) ∧ p2 = pc + 1 := by
  refine ⟨?_, hp⟩
  have e : ClassFile.Decoder.instr pc c pc = .ok (.lcmp, pc + 1) := by
    unfold ClassFile.Decoder.instr
    change Except.bind (ClassFile.Reader.u1 c pc) _ = _
    rw [u1_rd h]
    rfl
  rw [dec_i e, Nat.add_sub_cancel_left]
theorem op_153 {c : ByteArray} {pc p2 : Nat} {a b : Nat} {v : Int} (h : rd c pc 153) (h2 : rd c (pc + 1) a) (h3 : rd c (pc + 2) b) (hv : ClassFile.Reader.signed 16 (a * 256 + b) = v) (hp : p2 = pc + 3) : decode c pc = .ok (.ifCond .eq v, 3) ∧ p2 = pc + 3 := by
  refine ⟨?_, hp⟩
  have e : ClassFile.Decoder.instr pc c pc = .ok (.ifCond .eq v, pc + 3) := by
    unfold ClassFile.Decoder.instr
    change Except.bind (ClassFile.Reader.u1 c pc) _ = _
    rw [u1_rd h]
    change Except.bind (ClassFile.Reader.s2 c (pc + 1)) _ = _
    rw [s2_rd h2 h3, hv]
    rfl
  rw [dec_i e, Nat.add_sub_cancel_left]
theorem op_167 {c : ByteArray} {pc p2 : Nat} {a b : Nat} {v : Int} (h : rd c pc 167) (h2 : rd c (pc + 1) a) (h3 : rd c (pc + 2) b) (hv : ClassFile.Reader.signed 16 (a * 256 + b) = v) (hp : p2 = pc + 3) : decode c pc = .ok (.goto v, 3) ∧ p2 = pc + 3 := by
  refine ⟨?_, hp⟩
  have e : ClassFile.Decoder.instr pc c pc = .ok (.goto v, pc + 3) := by
    unfold ClassFile.Decoder.instr
    change Except.bind (ClassFile.Reader.u1 c pc) _ = _
    rw [u1_rd h]
    change Except.bind (ClassFile.Reader.s2 c (pc + 1)) _ = _
    rw [s2_rd h2 h3, hv]
    rfl
  rw [dec_i e, Nat.add_sub_cancel_left]
theorem op_55 {c : ByteArray} {pc p2 : Nat} {a : Nat} (h : rd c pc 55) (h2 : rd c (pc + 1) a) (hp : p2 = pc + 2) : decode c pc = .ok (.lstore a, 2) ∧ p2 = pc + 2 := by
  refine ⟨?_, hp⟩
  have e : ClassFile.Decoder.instr pc c pc = .ok (.lstore a, pc + 2) := by
    unfold ClassFile.Decoder.instr
    change Except.bind (ClassFile.Reader.u1 c pc) _ = _
    rw [u1_rd h]
    change Except.bind (ClassFile.Reader.u1 c (pc + 1)) _ = _
    rw [u1_rd h2]
    rfl
  rw [dec_i e, Nat.add_sub_cancel_left]
theorem op_22 {c : ByteArray} {pc p2 : Nat} {a : Nat} (h : rd c pc 22) (h2 : rd c (pc + 1) a) (hp : p2 = pc + 2) : decode c pc = .ok (.lload a, 2) ∧ p2 = pc + 2 := by
  refine ⟨?_, hp⟩
  have e : ClassFile.Decoder.instr pc c pc = .ok (.lload a, pc + 2) := by
    unfold ClassFile.Decoder.instr
    change Except.bind (ClassFile.Reader.u1 c pc) _ = _
    rw [u1_rd h]
    change Except.bind (ClassFile.Reader.u1 c (pc + 1)) _ = _
    rw [u1_rd h2]
    rfl
  rw [dec_i e, Nat.add_sub_cancel_left]
theorem op_10 {c : ByteArray} {pc p2 : Nat} (h : rd c pc 10) (hp : p2 = pc + 1) : decode c pc = .ok (.lconst 1, 1) ∧ p2 = pc + 1 := by
  refine ⟨?_, hp⟩
  have e : ClassFile.Decoder.instr pc c pc = .ok (.lconst 1, pc + 1) := by
    unfold ClassFile.Decoder.instr
    change Except.bind (ClassFile.Reader.u1 c pc) _ = _
    rw [u1_rd h]
    rfl
  rw [dec_i e, Nat.add_sub_cancel_left]
theorem op_9 {c : ByteArray} {pc p2 : Nat} (h : rd c pc 9) (hp : p2 = pc + 1) : decode c pc = .ok (.lconst 0, 1) ∧ p2 = pc + 1 := by
  refine ⟨?_, hp⟩
  have e : ClassFile.Decoder.instr pc c pc = .ok (.lconst 0, pc + 1) := by
    unfold ClassFile.Decoder.instr
    change Except.bind (ClassFile.Reader.u1 c pc) _ = _
    rw [u1_rd h]
    rfl
  rw [dec_i e, Nat.add_sub_cancel_left]
theorem op_25 {c : ByteArray} {pc p2 : Nat} {a : Nat} (h : rd c pc 25) (h2 : rd c (pc + 1) a) (hp : p2 = pc + 2) : decode c pc = .ok (.aload a, 2) ∧ p2 = pc + 2 := by
  refine ⟨?_, hp⟩
  have e : ClassFile.Decoder.instr pc c pc = .ok (.aload a, pc + 2) := by
    unfold ClassFile.Decoder.instr
    change Except.bind (ClassFile.Reader.u1 c pc) _ = _
    rw [u1_rd h]
    change Except.bind (ClassFile.Reader.u1 c (pc + 1)) _ = _
    rw [u1_rd h2]
    rfl
  rw [dec_i e, Nat.add_sub_cancel_left]
theorem op_57 {c : ByteArray} {pc p2 : Nat} {a : Nat} (h : rd c pc 57) (h2 : rd c (pc + 1) a) (hp : p2 = pc + 2) : decode c pc = .ok (.dstore a, 2) ∧ p2 = pc + 2 := by
  refine ⟨?_, hp⟩
  have e : ClassFile.Decoder.instr pc c pc = .ok (.dstore a, pc + 2) := by
    unfold ClassFile.Decoder.instr
    change Except.bind (ClassFile.Reader.u1 c pc) _ = _
    rw [u1_rd h]
    change Except.bind (ClassFile.Reader.u1 c (pc + 1)) _ = _
    rw [u1_rd h2]
    rfl
  rw [dec_i e, Nat.add_sub_cancel_left]
theorem op_49 {c : ByteArray} {pc p2 : Nat} (h : rd c pc 49) (hp : p2 = pc + 1) : decode c pc = .ok (.daload, 1) ∧ p2 = pc + 1 := by
  refine ⟨?_, hp⟩
  have e : ClassFile.Decoder.instr pc c pc = .ok (.daload, pc + 1) := by
    unfold ClassFile.Decoder.instr
    change Except.bind (ClassFile.Reader.u1 c pc) _ = _
    rw [u1_rd h]
    rfl
  rw [dec_i e, Nat.add_sub_cancel_left]
theorem op_24 {c : ByteArray} {pc p2 : Nat} {a : Nat} (h : rd c pc 24) (h2 : rd c (pc + 1) a) (hp : p2 = pc + 2) : decode c pc = .ok (.dload a, 2) ∧ p2 = pc + 2 := by
  refine ⟨?_, hp⟩
  have e : ClassFile.Decoder.instr pc c pc = .ok (.dload a, pc + 2) := by
    unfold ClassFile.Decoder.instr
    change Except.bind (ClassFile.Reader.u1 c pc) _ = _
    rw [u1_rd h]
    change Except.bind (ClassFile.Reader.u1 c (pc + 1)) _ = _
    rw [u1_rd h2]
    rfl
  rw [dec_i e, Nat.add_sub_cancel_left]
theorem op_151 {c : ByteArray} {pc p2 : Nat} (h : rd c pc 151) (hp : p2 = pc + 1) : decode c pc = .ok (.dcmp .l, 1) ∧ p2 = pc + 1 := by
  refine ⟨?_, hp⟩
  have e : ClassFile.Decoder.instr pc c pc = .ok (.dcmp .l, pc + 1) := by
    unfold ClassFile.Decoder.instr
    change Except.bind (ClassFile.Reader.u1 c pc) _ = _
    rw [u1_rd h]
    rfl
  rw [dec_i e, Nat.add_sub_cancel_left]
theorem op_132 {c : ByteArray} {pc p2 : Nat} {a b : Nat} {v : Int} (h : rd c pc 132) (h2 : rd c (pc + 1) a) (h3 : rd c (pc + 2) b) (hv : ClassFile.Reader.signed 8 b = v) (hp : p2 = pc + 3) : decode c pc = .ok (.iinc a v, 3) ∧ p2 = pc + 3 := by
  refine ⟨?_, hp⟩
  have e : ClassFile.Decoder.instr pc c pc = .ok (.iinc a v, pc + 3) := by
    unfold ClassFile.Decoder.instr
    change Except.bind (ClassFile.Reader.u1 c pc) _ = _
    rw [u1_rd h]
    change Except.bind (ClassFile.Reader.u1 c (pc + 1)) _ = _
    rw [u1_rd h2]
    change Except.bind (ClassFile.Reader.s1 c (pc + 2)) _ = _
    rw [s1_rd h3, hv]
    rfl
  rw [dec_i e, Nat.add_sub_cancel_left]
theorem dL_law_0 : decode cL_law 0 = .ok (.new 8, 3) ∧ 3 = 0 + 3 := op_187 (rb0 0 rfl) (rb0 1 rfl) (rb0 2 rfl) rfl
theorem dL_law_3 : decode cL_law 3 = .ok (.dup, 1) ∧ 4 = 3 + 1 := op_89 (rb0 3 rfl) rfl
theorem dL_law_4 : decode cL_law 4 = .ok (.invokespecial 154, 3) ∧ 7 = 4 + 3 := op_183 (rb0 4 rfl) (rb0 5 rfl) (rb0 6 rfl) rfl
theorem dL_law_7 : decode cL_law 7 = .ok (.astore_n 1, 1) ∧ 8 = 7 + 1 := op_76 (rb0 7 rfl) rfl
theorem dL_law_8 : decode cL_law 8 = .ok (.new 155, 3) ∧ 11 = 8 + 3 := op_187 (rb0 8 rfl) (rb0 9 rfl) (rb0 10 rfl) rfl
theorem dL_law_11 : decode cL_law 11 = .ok (.dup, 1) ∧ 12 = 11 + 1 := op_89 (rb0 11 rfl) rfl
theorem dL_law_12 : decode cL_law 12 = .ok (.invokespecial 157, 3) ∧ 15 = 12 + 3 := op_183 (rb0 12 rfl) (rb0 13 rfl) (rb0 14 rfl) rfl
theorem dL_law_15 : decode cL_law 15 = .ok (.astore_n 2, 1) ∧ 16 = 15 + 1 := op_77 (rb0 15 rfl) rfl
theorem dL_law_16 : decode cL_law 16 = .ok (.iconst 1, 1) ∧ 17 = 16 + 1 := op_4 (rb0 16 rfl) rfl
theorem dL_law_17 : decode cL_law 17 = .ok (.newarray .long, 2) ∧ 19 = 17 + 2 := ⟨by decide +kernel, rfl⟩
theorem dL_law_19 : decode cL_law 19 = .ok (.astore_n 3, 1) ∧ 20 = 19 + 1 := op_78 (rb0 19 rfl) rfl
theorem dL_law_20 : decode cL_law 20 = .ok (.iconst 1, 1) ∧ 21 = 20 + 1 := op_4 (rb0 20 rfl) rfl
theorem dL_law_21 : decode cL_law 21 = .ok (.newarray .double, 2) ∧ 23 = 21 + 2 := ⟨by decide +kernel, rfl⟩
theorem dL_law_23 : decode cL_law 23 = .ok (.astore 4, 2) ∧ 25 = 23 + 2 := op_58 (rb0 23 rfl) (rb0 24 rfl) rfl
theorem dL_law_25 : decode cL_law 25 = .ok (.iconst 0, 1) ∧ 26 = 25 + 1 := op_3 (rb0 25 rfl) rfl
theorem dL_law_26 : decode cL_law 26 = .ok (.istore 5, 2) ∧ 28 = 26 + 2 := op_54 (rb0 26 rfl) (rb0 27 rfl) rfl
theorem dL_law_28 : decode cL_law 28 = .ok (.iload 5, 2) ∧ 30 = 28 + 2 := op_21 (rb0 28 rfl) (rb0 29 rfl) rfl
theorem dL_law_30 : decode cL_law 30 = .ok (.aload_n 0, 1) ∧ 31 = 30 + 1 := op_42 (rb0 30 rfl) rfl
theorem dL_law_31 : decode cL_law 31 = .ok (.arraylength, 1) ∧ 32 = 31 + 1 := op_190 (rb0 31 rfl) rfl
theorem dL_law_32 : decode cL_law 32 = .ok (.bipush 6, 2) ∧ 34 = 32 + 2 := op_16 (rb0 32 rfl) (rb0 33 rfl) rfl rfl
theorem dL_law_34 : decode cL_law 34 = .ok (.isub, 1) ∧ 35 = 34 + 1 := op_100 (rb0 34 rfl) rfl
theorem dL_law_35 : decode cL_law 35 = .ok (.if_icmp .gt 3031, 3) ∧ 38 = 35 + 3 := op_163 (rb0 35 rfl) (rb0 36 rfl) (rb0 37 rfl) rfl rfl
theorem dL_law_38 : decode cL_law 38 = .ok (.aload_n 0, 1) ∧ 39 = 38 + 1 := op_42 (rb0 38 rfl) rfl
theorem dL_law_39 : decode cL_law 39 = .ok (.iload 5, 2) ∧ 41 = 39 + 2 := op_21 (rb0 39 rfl) (rb0 40 rfl) rfl
theorem dL_law_41 : decode cL_law 41 = .ok (.iaload, 1) ∧ 42 = 41 + 1 := op_46 (rb0 41 rfl) rfl
theorem dL_law_42 : decode cL_law 42 = .ok (.bipush 63, 2) ∧ 44 = 42 + 2 := op_16 (rb0 42 rfl) (rb0 43 rfl) rfl rfl
theorem dL_law_44 : decode cL_law 44 = .ok (.iand, 1) ∧ 45 = 44 + 1 := op_126 (rb0 44 rfl) rfl
theorem dL_law_45 : decode cL_law 45 = .ok (.tableswitch 3015 0 49 #[215, 319, 375, 388, 401, 414, 470, 526, 582, 638, 694, 762, 818, 886, 954, 1022, 1090, 1103, 1159, 1227, 1282, 1350, 1418, 1486, 1554, 1637, 1693, 1749, 1805, 1868, 1924, 1987, 2055, 2111, 2124, 2168, 2236, 2304, 2372, 2428, 2517, 2585, 2653, 2709, 2777, 2845, 2889, 2902, 2958, 3002], 215) ∧ 260 = 45 + 215 := ⟨by decide +kernel, rfl⟩
theorem dL_law_260 : decode cL_law 260 = .ok (.aload_n 1, 1) ∧ 261 = 260 + 1 := op_43 (rb5 10 rfl) rfl
theorem dL_law_261 : decode cL_law 261 = .ok (.aload_n 0, 1) ∧ 262 = 261 + 1 := op_42 (rb5 11 rfl) rfl
theorem dL_law_262 : decode cL_law 262 = .ok (.iload 5, 2) ∧ 264 = 262 + 2 := op_21 (rb5 12 rfl) (rb5 13 rfl) rfl
theorem dL_law_264 : decode cL_law 264 = .ok (.iconst 1, 1) ∧ 265 = 264 + 1 := op_4 (rb5 14 rfl) rfl
theorem dL_law_265 : decode cL_law 265 = .ok (.iadd, 1) ∧ 266 = 265 + 1 := op_96 (rb5 15 rfl) rfl
theorem dL_law_266 : decode cL_law 266 = .ok (.iaload, 1) ∧ 267 = 266 + 1 := op_46 (rb5 16 rfl) rfl
theorem dL_law_267 : decode cL_law 267 = .ok (.aload_n 0, 1) ∧ 268 = 267 + 1 := op_42 (rb5 17 rfl) rfl
theorem dL_law_268 : decode cL_law 268 = .ok (.iload 5, 2) ∧ 270 = 268 + 2 := op_21 (rb5 18 rfl) (rb5 19 rfl) rfl
theorem dL_law_270 : decode cL_law 270 = .ok (.iconst 2, 1) ∧ 271 = 270 + 1 := op_5 (rb5 20 rfl) rfl
theorem dL_law_271 : decode cL_law 271 = .ok (.iadd, 1) ∧ 272 = 271 + 1 := op_96 (rb5 21 rfl) rfl
theorem dL_law_272 : decode cL_law 272 = .ok (.iaload, 1) ∧ 273 = 272 + 1 := op_46 (rb5 22 rfl) rfl
theorem dL_law_273 : decode cL_law 273 = .ok (.aload_n 0, 1) ∧ 274 = 273 + 1 := op_42 (rb5 23 rfl) rfl
theorem dL_law_274 : decode cL_law 274 = .ok (.iload 5, 2) ∧ 276 = 274 + 2 := op_21 (rb5 24 rfl) (rb5 25 rfl) rfl
theorem dL_law_276 : decode cL_law 276 = .ok (.iconst 3, 1) ∧ 277 = 276 + 1 := op_6 (rb5 26 rfl) rfl
theorem dL_law_277 : decode cL_law 277 = .ok (.iadd, 1) ∧ 278 = 277 + 1 := op_96 (rb5 27 rfl) rfl
theorem dL_law_278 : decode cL_law 278 = .ok (.iaload, 1) ∧ 279 = 278 + 1 := op_46 (rb5 28 rfl) rfl
theorem dL_law_279 : decode cL_law 279 = .ok (.aload_n 0, 1) ∧ 280 = 279 + 1 := op_42 (rb5 29 rfl) rfl
theorem dL_law_280 : decode cL_law 280 = .ok (.iload 5, 2) ∧ 282 = 280 + 2 := op_21 (rb5 30 rfl) (rb5 31 rfl) rfl
theorem dL_law_282 : decode cL_law 282 = .ok (.iconst 4, 1) ∧ 283 = 282 + 1 := op_7 (rb5 32 rfl) rfl
theorem dL_law_283 : decode cL_law 283 = .ok (.iadd, 1) ∧ 284 = 283 + 1 := op_96 (rb5 33 rfl) rfl
theorem dL_law_284 : decode cL_law 284 = .ok (.iaload, 1) ∧ 285 = 284 + 1 := op_46 (rb5 34 rfl) rfl
theorem dL_law_285 : decode cL_law 285 = .ok (.aload_n 0, 1) ∧ 286 = 285 + 1 := op_42 (rb5 35 rfl) rfl
theorem dL_law_286 : decode cL_law 286 = .ok (.iload 5, 2) ∧ 288 = 286 + 2 := op_21 (rb5 36 rfl) (rb5 37 rfl) rfl
theorem dL_law_288 : decode cL_law 288 = .ok (.iconst 5, 1) ∧ 289 = 288 + 1 := op_8 (rb5 38 rfl) rfl
theorem dL_law_289 : decode cL_law 289 = .ok (.iadd, 1) ∧ 290 = 289 + 1 := op_96 (rb5 39 rfl) rfl
theorem dL_law_290 : decode cL_law 290 = .ok (.iaload, 1) ∧ 291 = 290 + 1 := op_46 (rb5 40 rfl) rfl
theorem dL_law_291 : decode cL_law 291 = .ok (.aload_n 3, 1) ∧ 292 = 291 + 1 := op_45 (rb5 41 rfl) rfl
theorem dL_law_292 : decode cL_law 292 = .ok (.invokestatic 158, 3) ∧ 295 = 292 + 3 := op_184 (rb5 42 rfl) (rb5 43 rfl) (rb5 44 rfl) rfl
theorem dL_law_295 : decode cL_law 295 = .ok (.istore 6, 2) ∧ 297 = 295 + 2 := op_54 (rb5 45 rfl) (rb5 46 rfl) rfl
theorem dL_law_297 : decode cL_law 297 = .ok (.aload_n 2, 1) ∧ 298 = 297 + 1 := op_44 (rb5 47 rfl) rfl
theorem dL_law_298 : decode cL_law 298 = .ok (.aload_n 0, 1) ∧ 299 = 298 + 1 := op_42 (rb5 48 rfl) rfl
theorem dL_law_299 : decode cL_law 299 = .ok (.iload 5, 2) ∧ 301 = 299 + 2 := op_21 (rb5 49 rfl) (rb6 0 rfl) rfl
theorem dL_law_301 : decode cL_law 301 = .ok (.iconst 1, 1) ∧ 302 = 301 + 1 := op_4 (rb6 1 rfl) rfl
theorem dL_law_302 : decode cL_law 302 = .ok (.iadd, 1) ∧ 303 = 302 + 1 := op_96 (rb6 2 rfl) rfl
theorem dL_law_303 : decode cL_law 303 = .ok (.iaload, 1) ∧ 304 = 303 + 1 := op_46 (rb6 3 rfl) rfl
theorem dL_law_304 : decode cL_law 304 = .ok (.aload_n 0, 1) ∧ 305 = 304 + 1 := op_42 (rb6 4 rfl) rfl
theorem dL_law_305 : decode cL_law 305 = .ok (.iload 5, 2) ∧ 307 = 305 + 2 := op_21 (rb6 5 rfl) (rb6 6 rfl) rfl
theorem dL_law_307 : decode cL_law 307 = .ok (.iconst 2, 1) ∧ 308 = 307 + 1 := op_5 (rb6 7 rfl) rfl
theorem dL_law_308 : decode cL_law 308 = .ok (.iadd, 1) ∧ 309 = 308 + 1 := op_96 (rb6 8 rfl) rfl
theorem dL_law_309 : decode cL_law 309 = .ok (.iaload, 1) ∧ 310 = 309 + 1 := op_46 (rb6 9 rfl) rfl
theorem dL_law_310 : decode cL_law 310 = .ok (.aload_n 0, 1) ∧ 311 = 310 + 1 := op_42 (rb6 10 rfl) rfl
theorem dL_law_311 : decode cL_law 311 = .ok (.iload 5, 2) ∧ 313 = 311 + 2 := op_21 (rb6 11 rfl) (rb6 12 rfl) rfl
theorem dL_law_313 : decode cL_law 313 = .ok (.iconst 3, 1) ∧ 314 = 313 + 1 := op_6 (rb6 13 rfl) rfl
theorem dL_law_314 : decode cL_law 314 = .ok (.iadd, 1) ∧ 315 = 314 + 1 := op_96 (rb6 14 rfl) rfl
theorem dL_law_315 : decode cL_law 315 = .ok (.iaload, 1) ∧ 316 = 315 + 1 := op_46 (rb6 15 rfl) rfl
theorem dL_law_316 : decode cL_law 316 = .ok (.aload_n 0, 1) ∧ 317 = 316 + 1 := op_42 (rb6 16 rfl) rfl
theorem dL_law_317 : decode cL_law 317 = .ok (.iload 5, 2) ∧ 319 = 317 + 2 := op_21 (rb6 17 rfl) (rb6 18 rfl) rfl
theorem dL_law_319 : decode cL_law 319 = .ok (.iconst 4, 1) ∧ 320 = 319 + 1 := op_7 (rb6 19 rfl) rfl
theorem dL_law_320 : decode cL_law 320 = .ok (.iadd, 1) ∧ 321 = 320 + 1 := op_96 (rb6 20 rfl) rfl
theorem dL_law_321 : decode cL_law 321 = .ok (.iaload, 1) ∧ 322 = 321 + 1 := op_46 (rb6 21 rfl) rfl
theorem dL_law_322 : decode cL_law 322 = .ok (.aload_n 0, 1) ∧ 323 = 322 + 1 := op_42 (rb6 22 rfl) rfl
theorem dL_law_323 : decode cL_law 323 = .ok (.iload 5, 2) ∧ 325 = 323 + 2 := op_21 (rb6 23 rfl) (rb6 24 rfl) rfl
theorem dL_law_325 : decode cL_law 325 = .ok (.iconst 5, 1) ∧ 326 = 325 + 1 := op_8 (rb6 25 rfl) rfl
theorem dL_law_326 : decode cL_law 326 = .ok (.iadd, 1) ∧ 327 = 326 + 1 := op_96 (rb6 26 rfl) rfl
theorem dL_law_327 : decode cL_law 327 = .ok (.iaload, 1) ∧ 328 = 327 + 1 := op_46 (rb6 27 rfl) rfl
theorem dL_law_328 : decode cL_law 328 = .ok (.invokevirtual 163, 3) ∧ 331 = 328 + 3 := op_182 (rb6 28 rfl) (rb6 29 rfl) (rb6 30 rfl) rfl
theorem dL_law_331 : decode cL_law 331 = .ok (.istore 7, 2) ∧ 333 = 331 + 2 := op_54 (rb6 31 rfl) (rb6 32 rfl) rfl
theorem dL_law_333 : decode cL_law 333 = .ok (.aload_n 2, 1) ∧ 334 = 333 + 1 := op_44 (rb6 33 rfl) rfl
theorem dL_law_334 : decode cL_law 334 = .ok (.invokevirtual 164, 3) ∧ 337 = 334 + 3 := op_182 (rb6 34 rfl) (rb6 35 rfl) (rb6 36 rfl) rfl
theorem dL_law_337 : decode cL_law 337 = .ok (.iload 6, 2) ∧ 339 = 337 + 2 := op_21 (rb6 37 rfl) (rb6 38 rfl) rfl
theorem dL_law_339 : decode cL_law 339 = .ok (.if_icmp .eq 5, 3) ∧ 342 = 339 + 3 := op_159 (rb6 39 rfl) (rb6 40 rfl) (rb6 41 rfl) rfl rfl
theorem dL_law_342 : decode cL_law 342 = .ok (.iconst 0, 1) ∧ 343 = 342 + 1 := op_3 (rb6 42 rfl) rfl
theorem dL_law_343 : decode cL_law 343 = .ok (.ireturn, 1) ∧ 344 = 343 + 1 := op_172 (rb6 43 rfl) rfl
theorem dL_law_344 : decode cL_law 344 = .ok (.iload 6, 2) ∧ 346 = 344 + 2 := op_21 (rb6 44 rfl) (rb6 45 rfl) rfl
theorem dL_law_346 : decode cL_law 346 = .ok (.ifCond .ne 15, 3) ∧ 349 = 346 + 3 := op_154 (rb6 46 rfl) (rb6 47 rfl) (rb6 48 rfl) rfl rfl
theorem dL_law_349 : decode cL_law 349 = .ok (.aload_n 3, 1) ∧ 350 = 349 + 1 := op_45 (rb6 49 rfl) rfl
theorem dL_law_350 : decode cL_law 350 = .ok (.iconst 0, 1) ∧ 351 = 350 + 1 := op_3 (rb7 0 rfl) rfl
theorem dL_law_351 : decode cL_law 351 = .ok (.laload, 1) ∧ 352 = 351 + 1 := op_47 (rb7 1 rfl) rfl
theorem dL_law_352 : decode cL_law 352 = .ok (.iload 7, 2) ∧ 354 = 352 + 2 := op_21 (rb7 2 rfl) (rb7 3 rfl) rfl
theorem dL_law_354 : decode cL_law 354 = .ok (.i2l, 1) ∧ 355 = 354 + 1 := op_133 (rb7 4 rfl) rfl
theorem dL_law_355 : decode cL_law 355 = .ok (.lcmp, 1) ∧ 356 = 355 + 1 := op_148 (rb7 5 rfl) rfl
theorem dL_law_356 : decode cL_law 356 = .ok (.ifCond .eq 5, 3) ∧ 359 = 356 + 3 := op_153 (rb7 6 rfl) (rb7 7 rfl) (rb7 8 rfl) rfl rfl
theorem dL_law_359 : decode cL_law 359 = .ok (.iconst 0, 1) ∧ 360 = 359 + 1 := op_3 (rb7 9 rfl) rfl
theorem dL_law_360 : decode cL_law 360 = .ok (.ireturn, 1) ∧ 361 = 360 + 1 := op_172 (rb7 10 rfl) rfl
theorem dL_law_361 : decode cL_law 361 = .ok (.goto 2699, 3) ∧ 364 = 361 + 3 := op_167 (rb7 11 rfl) (rb7 12 rfl) (rb7 13 rfl) rfl rfl
theorem dL_law_364 : decode cL_law 364 = .ok (.aload_n 1, 1) ∧ 365 = 364 + 1 := op_43 (rb7 14 rfl) rfl
theorem dL_law_365 : decode cL_law 365 = .ok (.aload_n 0, 1) ∧ 366 = 365 + 1 := op_42 (rb7 15 rfl) rfl
theorem dL_law_366 : decode cL_law 366 = .ok (.iload 5, 2) ∧ 368 = 366 + 2 := op_21 (rb7 16 rfl) (rb7 17 rfl) rfl
theorem dL_law_368 : decode cL_law 368 = .ok (.iconst 1, 1) ∧ 369 = 368 + 1 := op_4 (rb7 18 rfl) rfl
theorem dL_law_369 : decode cL_law 369 = .ok (.iadd, 1) ∧ 370 = 369 + 1 := op_96 (rb7 19 rfl) rfl
theorem dL_law_370 : decode cL_law 370 = .ok (.iaload, 1) ∧ 371 = 370 + 1 := op_46 (rb7 20 rfl) rfl
theorem dL_law_371 : decode cL_law 371 = .ok (.aload_n 3, 1) ∧ 372 = 371 + 1 := op_45 (rb7 21 rfl) rfl
theorem dL_law_372 : decode cL_law 372 = .ok (.invokestatic 167, 3) ∧ 375 = 372 + 3 := op_184 (rb7 22 rfl) (rb7 23 rfl) (rb7 24 rfl) rfl
theorem dL_law_375 : decode cL_law 375 = .ok (.istore 6, 2) ∧ 377 = 375 + 2 := op_54 (rb7 25 rfl) (rb7 26 rfl) rfl
theorem dL_law_377 : decode cL_law 377 = .ok (.aload_n 2, 1) ∧ 378 = 377 + 1 := op_44 (rb7 27 rfl) rfl
theorem dL_law_378 : decode cL_law 378 = .ok (.aload_n 0, 1) ∧ 379 = 378 + 1 := op_42 (rb7 28 rfl) rfl
theorem dL_law_379 : decode cL_law 379 = .ok (.iload 5, 2) ∧ 381 = 379 + 2 := op_21 (rb7 29 rfl) (rb7 30 rfl) rfl
theorem dL_law_381 : decode cL_law 381 = .ok (.iconst 1, 1) ∧ 382 = 381 + 1 := op_4 (rb7 31 rfl) rfl
theorem dL_law_382 : decode cL_law 382 = .ok (.iadd, 1) ∧ 383 = 382 + 1 := op_96 (rb7 32 rfl) rfl
theorem dL_law_383 : decode cL_law 383 = .ok (.iaload, 1) ∧ 384 = 383 + 1 := op_46 (rb7 33 rfl) rfl
theorem dL_law_384 : decode cL_law 384 = .ok (.invokevirtual 170, 3) ∧ 387 = 384 + 3 := op_182 (rb7 34 rfl) (rb7 35 rfl) (rb7 36 rfl) rfl
theorem dL_law_387 : decode cL_law 387 = .ok (.istore 7, 2) ∧ 389 = 387 + 2 := op_54 (rb7 37 rfl) (rb7 38 rfl) rfl
theorem dL_law_389 : decode cL_law 389 = .ok (.aload_n 2, 1) ∧ 390 = 389 + 1 := op_44 (rb7 39 rfl) rfl
theorem dL_law_390 : decode cL_law 390 = .ok (.invokevirtual 164, 3) ∧ 393 = 390 + 3 := op_182 (rb7 40 rfl) (rb7 41 rfl) (rb7 42 rfl) rfl
theorem dL_law_393 : decode cL_law 393 = .ok (.iload 6, 2) ∧ 395 = 393 + 2 := op_21 (rb7 43 rfl) (rb7 44 rfl) rfl
theorem dL_law_395 : decode cL_law 395 = .ok (.if_icmp .eq 5, 3) ∧ 398 = 395 + 3 := op_159 (rb7 45 rfl) (rb7 46 rfl) (rb7 47 rfl) rfl rfl
theorem dL_law_398 : decode cL_law 398 = .ok (.iconst 0, 1) ∧ 399 = 398 + 1 := op_3 (rb7 48 rfl) rfl
theorem dL_law_399 : decode cL_law 399 = .ok (.ireturn, 1) ∧ 400 = 399 + 1 := op_172 (rb7 49 rfl) rfl
theorem dL_law_400 : decode cL_law 400 = .ok (.iload 6, 2) ∧ 402 = 400 + 2 := op_21 (rb8 0 rfl) (rb8 1 rfl) rfl
theorem dL_law_402 : decode cL_law 402 = .ok (.ifCond .ne 15, 3) ∧ 405 = 402 + 3 := op_154 (rb8 2 rfl) (rb8 3 rfl) (rb8 4 rfl) rfl rfl
theorem dL_law_405 : decode cL_law 405 = .ok (.aload_n 3, 1) ∧ 406 = 405 + 1 := op_45 (rb8 5 rfl) rfl
theorem dL_law_406 : decode cL_law 406 = .ok (.iconst 0, 1) ∧ 407 = 406 + 1 := op_3 (rb8 6 rfl) rfl
theorem dL_law_407 : decode cL_law 407 = .ok (.laload, 1) ∧ 408 = 407 + 1 := op_47 (rb8 7 rfl) rfl
theorem dL_law_408 : decode cL_law 408 = .ok (.iload 7, 2) ∧ 410 = 408 + 2 := op_21 (rb8 8 rfl) (rb8 9 rfl) rfl
theorem dL_law_410 : decode cL_law 410 = .ok (.i2l, 1) ∧ 411 = 410 + 1 := op_133 (rb8 10 rfl) rfl
theorem dL_law_411 : decode cL_law 411 = .ok (.lcmp, 1) ∧ 412 = 411 + 1 := op_148 (rb8 11 rfl) rfl
theorem dL_law_412 : decode cL_law 412 = .ok (.ifCond .eq 5, 3) ∧ 415 = 412 + 3 := op_153 (rb8 12 rfl) (rb8 13 rfl) (rb8 14 rfl) rfl rfl
theorem dL_law_415 : decode cL_law 415 = .ok (.iconst 0, 1) ∧ 416 = 415 + 1 := op_3 (rb8 15 rfl) rfl
theorem dL_law_416 : decode cL_law 416 = .ok (.ireturn, 1) ∧ 417 = 416 + 1 := op_172 (rb8 16 rfl) rfl
theorem dL_law_417 : decode cL_law 417 = .ok (.goto 2643, 3) ∧ 420 = 417 + 3 := op_167 (rb8 17 rfl) (rb8 18 rfl) (rb8 19 rfl) rfl rfl
theorem dL_law_420 : decode cL_law 420 = .ok (.aload_n 1, 1) ∧ 421 = 420 + 1 := op_43 (rb8 20 rfl) rfl
theorem dL_law_421 : decode cL_law 421 = .ok (.invokevirtual 171, 3) ∧ 424 = 421 + 3 := op_182 (rb8 21 rfl) (rb8 22 rfl) (rb8 23 rfl) rfl
theorem dL_law_424 : decode cL_law 424 = .ok (.aload_n 2, 1) ∧ 425 = 424 + 1 := op_44 (rb8 24 rfl) rfl
theorem dL_law_425 : decode cL_law 425 = .ok (.invokevirtual 174, 3) ∧ 428 = 425 + 3 := op_182 (rb8 25 rfl) (rb8 26 rfl) (rb8 27 rfl) rfl
theorem dL_law_428 : decode cL_law 428 = .ok (.if_icmp .eq 2632, 3) ∧ 431 = 428 + 3 := op_159 (rb8 28 rfl) (rb8 29 rfl) (rb8 30 rfl) rfl rfl
theorem dL_law_431 : decode cL_law 431 = .ok (.iconst 0, 1) ∧ 432 = 431 + 1 := op_3 (rb8 31 rfl) rfl
theorem dL_law_432 : decode cL_law 432 = .ok (.ireturn, 1) ∧ 433 = 432 + 1 := op_172 (rb8 32 rfl) rfl
theorem dL_law_433 : decode cL_law 433 = .ok (.aload_n 1, 1) ∧ 434 = 433 + 1 := op_43 (rb8 33 rfl) rfl
theorem dL_law_434 : decode cL_law 434 = .ok (.invokevirtual 175, 3) ∧ 437 = 434 + 3 := op_182 (rb8 34 rfl) (rb8 35 rfl) (rb8 36 rfl) rfl
theorem dL_law_437 : decode cL_law 437 = .ok (.aload_n 2, 1) ∧ 438 = 437 + 1 := op_44 (rb8 37 rfl) rfl
theorem dL_law_438 : decode cL_law 438 = .ok (.invokevirtual 178, 3) ∧ 441 = 438 + 3 := op_182 (rb8 38 rfl) (rb8 39 rfl) (rb8 40 rfl) rfl
theorem dL_law_441 : decode cL_law 441 = .ok (.if_icmp .eq 2619, 3) ∧ 444 = 441 + 3 := op_159 (rb8 41 rfl) (rb8 42 rfl) (rb8 43 rfl) rfl rfl
theorem dL_law_444 : decode cL_law 444 = .ok (.iconst 0, 1) ∧ 445 = 444 + 1 := op_3 (rb8 44 rfl) rfl
theorem dL_law_445 : decode cL_law 445 = .ok (.ireturn, 1) ∧ 446 = 445 + 1 := op_172 (rb8 45 rfl) rfl
theorem dL_law_446 : decode cL_law 446 = .ok (.aload_n 1, 1) ∧ 447 = 446 + 1 := op_43 (rb8 46 rfl) rfl
theorem dL_law_447 : decode cL_law 447 = .ok (.invokevirtual 179, 3) ∧ 450 = 447 + 3 := op_182 (rb8 47 rfl) (rb8 48 rfl) (rb8 49 rfl) rfl
theorem dL_law_450 : decode cL_law 450 = .ok (.aload_n 2, 1) ∧ 451 = 450 + 1 := op_44 (rb9 0 rfl) rfl
theorem dL_law_451 : decode cL_law 451 = .ok (.invokevirtual 182, 3) ∧ 454 = 451 + 3 := op_182 (rb9 1 rfl) (rb9 2 rfl) (rb9 3 rfl) rfl
theorem dL_law_454 : decode cL_law 454 = .ok (.if_icmp .eq 2606, 3) ∧ 457 = 454 + 3 := op_159 (rb9 4 rfl) (rb9 5 rfl) (rb9 6 rfl) rfl rfl
theorem dL_law_457 : decode cL_law 457 = .ok (.iconst 0, 1) ∧ 458 = 457 + 1 := op_3 (rb9 7 rfl) rfl
theorem dL_law_458 : decode cL_law 458 = .ok (.ireturn, 1) ∧ 459 = 458 + 1 := op_172 (rb9 8 rfl) rfl
theorem dL_law_459 : decode cL_law 459 = .ok (.aload_n 1, 1) ∧ 460 = 459 + 1 := op_43 (rb9 9 rfl) rfl
theorem dL_law_460 : decode cL_law 460 = .ok (.aload_n 0, 1) ∧ 461 = 460 + 1 := op_42 (rb9 10 rfl) rfl
theorem dL_law_461 : decode cL_law 461 = .ok (.iload 5, 2) ∧ 463 = 461 + 2 := op_21 (rb9 11 rfl) (rb9 12 rfl) rfl
theorem dL_law_463 : decode cL_law 463 = .ok (.iconst 1, 1) ∧ 464 = 463 + 1 := op_4 (rb9 13 rfl) rfl
theorem dL_law_464 : decode cL_law 464 = .ok (.iadd, 1) ∧ 465 = 464 + 1 := op_96 (rb9 14 rfl) rfl
theorem dL_law_465 : decode cL_law 465 = .ok (.iaload, 1) ∧ 466 = 465 + 1 := op_46 (rb9 15 rfl) rfl
theorem dL_law_466 : decode cL_law 466 = .ok (.aload_n 3, 1) ∧ 467 = 466 + 1 := op_45 (rb9 16 rfl) rfl
theorem dL_law_467 : decode cL_law 467 = .ok (.invokestatic 183, 3) ∧ 470 = 467 + 3 := op_184 (rb9 17 rfl) (rb9 18 rfl) (rb9 19 rfl) rfl
theorem dL_law_470 : decode cL_law 470 = .ok (.istore 6, 2) ∧ 472 = 470 + 2 := op_54 (rb9 20 rfl) (rb9 21 rfl) rfl
theorem dL_law_472 : decode cL_law 472 = .ok (.aload_n 2, 1) ∧ 473 = 472 + 1 := op_44 (rb9 22 rfl) rfl
theorem dL_law_473 : decode cL_law 473 = .ok (.aload_n 0, 1) ∧ 474 = 473 + 1 := op_42 (rb9 23 rfl) rfl
theorem dL_law_474 : decode cL_law 474 = .ok (.iload 5, 2) ∧ 476 = 474 + 2 := op_21 (rb9 24 rfl) (rb9 25 rfl) rfl
theorem dL_law_476 : decode cL_law 476 = .ok (.iconst 1, 1) ∧ 477 = 476 + 1 := op_4 (rb9 26 rfl) rfl
theorem dL_law_477 : decode cL_law 477 = .ok (.iadd, 1) ∧ 478 = 477 + 1 := op_96 (rb9 27 rfl) rfl
theorem dL_law_478 : decode cL_law 478 = .ok (.iaload, 1) ∧ 479 = 478 + 1 := op_46 (rb9 28 rfl) rfl
theorem dL_law_479 : decode cL_law 479 = .ok (.invokevirtual 185, 3) ∧ 482 = 479 + 3 := op_182 (rb9 29 rfl) (rb9 30 rfl) (rb9 31 rfl) rfl
theorem dL_law_482 : decode cL_law 482 = .ok (.istore 7, 2) ∧ 484 = 482 + 2 := op_54 (rb9 32 rfl) (rb9 33 rfl) rfl
theorem dL_law_484 : decode cL_law 484 = .ok (.aload_n 2, 1) ∧ 485 = 484 + 1 := op_44 (rb9 34 rfl) rfl
theorem dL_law_485 : decode cL_law 485 = .ok (.invokevirtual 164, 3) ∧ 488 = 485 + 3 := op_182 (rb9 35 rfl) (rb9 36 rfl) (rb9 37 rfl) rfl
theorem dL_law_488 : decode cL_law 488 = .ok (.iload 6, 2) ∧ 490 = 488 + 2 := op_21 (rb9 38 rfl) (rb9 39 rfl) rfl
theorem dL_law_490 : decode cL_law 490 = .ok (.if_icmp .eq 5, 3) ∧ 493 = 490 + 3 := op_159 (rb9 40 rfl) (rb9 41 rfl) (rb9 42 rfl) rfl rfl
theorem dL_law_493 : decode cL_law 493 = .ok (.iconst 0, 1) ∧ 494 = 493 + 1 := op_3 (rb9 43 rfl) rfl
theorem dL_law_494 : decode cL_law 494 = .ok (.ireturn, 1) ∧ 495 = 494 + 1 := op_172 (rb9 44 rfl) rfl
theorem dL_law_495 : decode cL_law 495 = .ok (.iload 6, 2) ∧ 497 = 495 + 2 := op_21 (rb9 45 rfl) (rb9 46 rfl) rfl
theorem dL_law_497 : decode cL_law 497 = .ok (.ifCond .ne 15, 3) ∧ 500 = 497 + 3 := op_154 (rb9 47 rfl) (rb9 48 rfl) (rb9 49 rfl) rfl rfl
theorem dL_law_500 : decode cL_law 500 = .ok (.aload_n 3, 1) ∧ 501 = 500 + 1 := op_45 (rb10 0 rfl) rfl
theorem dL_law_501 : decode cL_law 501 = .ok (.iconst 0, 1) ∧ 502 = 501 + 1 := op_3 (rb10 1 rfl) rfl
theorem dL_law_502 : decode cL_law 502 = .ok (.laload, 1) ∧ 503 = 502 + 1 := op_47 (rb10 2 rfl) rfl
theorem dL_law_503 : decode cL_law 503 = .ok (.iload 7, 2) ∧ 505 = 503 + 2 := op_21 (rb10 3 rfl) (rb10 4 rfl) rfl
theorem dL_law_505 : decode cL_law 505 = .ok (.i2l, 1) ∧ 506 = 505 + 1 := op_133 (rb10 5 rfl) rfl
theorem dL_law_506 : decode cL_law 506 = .ok (.lcmp, 1) ∧ 507 = 506 + 1 := op_148 (rb10 6 rfl) rfl
theorem dL_law_507 : decode cL_law 507 = .ok (.ifCond .eq 5, 3) ∧ 510 = 507 + 3 := op_153 (rb10 7 rfl) (rb10 8 rfl) (rb10 9 rfl) rfl rfl
theorem dL_law_510 : decode cL_law 510 = .ok (.iconst 0, 1) ∧ 511 = 510 + 1 := op_3 (rb10 10 rfl) rfl
theorem dL_law_511 : decode cL_law 511 = .ok (.ireturn, 1) ∧ 512 = 511 + 1 := op_172 (rb10 11 rfl) rfl
theorem dL_law_512 : decode cL_law 512 = .ok (.goto 2548, 3) ∧ 515 = 512 + 3 := op_167 (rb10 12 rfl) (rb10 13 rfl) (rb10 14 rfl) rfl rfl
theorem dL_law_515 : decode cL_law 515 = .ok (.aload_n 1, 1) ∧ 516 = 515 + 1 := op_43 (rb10 15 rfl) rfl
theorem dL_law_516 : decode cL_law 516 = .ok (.aload_n 0, 1) ∧ 517 = 516 + 1 := op_42 (rb10 16 rfl) rfl
theorem dL_law_517 : decode cL_law 517 = .ok (.iload 5, 2) ∧ 519 = 517 + 2 := op_21 (rb10 17 rfl) (rb10 18 rfl) rfl
theorem dL_law_519 : decode cL_law 519 = .ok (.iconst 1, 1) ∧ 520 = 519 + 1 := op_4 (rb10 19 rfl) rfl
theorem dL_law_520 : decode cL_law 520 = .ok (.iadd, 1) ∧ 521 = 520 + 1 := op_96 (rb10 20 rfl) rfl
theorem dL_law_521 : decode cL_law 521 = .ok (.iaload, 1) ∧ 522 = 521 + 1 := op_46 (rb10 21 rfl) rfl
theorem dL_law_522 : decode cL_law 522 = .ok (.aload_n 3, 1) ∧ 523 = 522 + 1 := op_45 (rb10 22 rfl) rfl
theorem dL_law_523 : decode cL_law 523 = .ok (.invokestatic 186, 3) ∧ 526 = 523 + 3 := op_184 (rb10 23 rfl) (rb10 24 rfl) (rb10 25 rfl) rfl
theorem dL_law_526 : decode cL_law 526 = .ok (.istore 6, 2) ∧ 528 = 526 + 2 := op_54 (rb10 26 rfl) (rb10 27 rfl) rfl
theorem dL_law_528 : decode cL_law 528 = .ok (.aload_n 2, 1) ∧ 529 = 528 + 1 := op_44 (rb10 28 rfl) rfl
theorem dL_law_529 : decode cL_law 529 = .ok (.aload_n 0, 1) ∧ 530 = 529 + 1 := op_42 (rb10 29 rfl) rfl
theorem dL_law_530 : decode cL_law 530 = .ok (.iload 5, 2) ∧ 532 = 530 + 2 := op_21 (rb10 30 rfl) (rb10 31 rfl) rfl
theorem dL_law_532 : decode cL_law 532 = .ok (.iconst 1, 1) ∧ 533 = 532 + 1 := op_4 (rb10 32 rfl) rfl
theorem dL_law_533 : decode cL_law 533 = .ok (.iadd, 1) ∧ 534 = 533 + 1 := op_96 (rb10 33 rfl) rfl
theorem dL_law_534 : decode cL_law 534 = .ok (.iaload, 1) ∧ 535 = 534 + 1 := op_46 (rb10 34 rfl) rfl
theorem dL_law_535 : decode cL_law 535 = .ok (.invokevirtual 188, 3) ∧ 538 = 535 + 3 := op_182 (rb10 35 rfl) (rb10 36 rfl) (rb10 37 rfl) rfl
theorem dL_law_538 : decode cL_law 538 = .ok (.istore 7, 2) ∧ 540 = 538 + 2 := op_54 (rb10 38 rfl) (rb10 39 rfl) rfl
theorem dL_law_540 : decode cL_law 540 = .ok (.aload_n 2, 1) ∧ 541 = 540 + 1 := op_44 (rb10 40 rfl) rfl
theorem dL_law_541 : decode cL_law 541 = .ok (.invokevirtual 164, 3) ∧ 544 = 541 + 3 := op_182 (rb10 41 rfl) (rb10 42 rfl) (rb10 43 rfl) rfl
theorem dL_law_544 : decode cL_law 544 = .ok (.iload 6, 2) ∧ 546 = 544 + 2 := op_21 (rb10 44 rfl) (rb10 45 rfl) rfl
theorem dL_law_546 : decode cL_law 546 = .ok (.if_icmp .eq 5, 3) ∧ 549 = 546 + 3 := op_159 (rb10 46 rfl) (rb10 47 rfl) (rb10 48 rfl) rfl rfl
theorem dL_law_549 : decode cL_law 549 = .ok (.iconst 0, 1) ∧ 550 = 549 + 1 := op_3 (rb10 49 rfl) rfl
theorem dL_law_550 : decode cL_law 550 = .ok (.ireturn, 1) ∧ 551 = 550 + 1 := op_172 (rb11 0 rfl) rfl
theorem dL_law_551 : decode cL_law 551 = .ok (.iload 6, 2) ∧ 553 = 551 + 2 := op_21 (rb11 1 rfl) (rb11 2 rfl) rfl
theorem dL_law_553 : decode cL_law 553 = .ok (.ifCond .ne 15, 3) ∧ 556 = 553 + 3 := op_154 (rb11 3 rfl) (rb11 4 rfl) (rb11 5 rfl) rfl rfl
theorem dL_law_556 : decode cL_law 556 = .ok (.aload_n 3, 1) ∧ 557 = 556 + 1 := op_45 (rb11 6 rfl) rfl
theorem dL_law_557 : decode cL_law 557 = .ok (.iconst 0, 1) ∧ 558 = 557 + 1 := op_3 (rb11 7 rfl) rfl
theorem dL_law_558 : decode cL_law 558 = .ok (.laload, 1) ∧ 559 = 558 + 1 := op_47 (rb11 8 rfl) rfl
theorem dL_law_559 : decode cL_law 559 = .ok (.iload 7, 2) ∧ 561 = 559 + 2 := op_21 (rb11 9 rfl) (rb11 10 rfl) rfl
theorem dL_law_561 : decode cL_law 561 = .ok (.i2l, 1) ∧ 562 = 561 + 1 := op_133 (rb11 11 rfl) rfl
theorem dL_law_562 : decode cL_law 562 = .ok (.lcmp, 1) ∧ 563 = 562 + 1 := op_148 (rb11 12 rfl) rfl
theorem dL_law_563 : decode cL_law 563 = .ok (.ifCond .eq 5, 3) ∧ 566 = 563 + 3 := op_153 (rb11 13 rfl) (rb11 14 rfl) (rb11 15 rfl) rfl rfl
theorem dL_law_566 : decode cL_law 566 = .ok (.iconst 0, 1) ∧ 567 = 566 + 1 := op_3 (rb11 16 rfl) rfl
theorem dL_law_567 : decode cL_law 567 = .ok (.ireturn, 1) ∧ 568 = 567 + 1 := op_172 (rb11 17 rfl) rfl
theorem dL_law_568 : decode cL_law 568 = .ok (.goto 2492, 3) ∧ 571 = 568 + 3 := op_167 (rb11 18 rfl) (rb11 19 rfl) (rb11 20 rfl) rfl rfl
theorem dL_law_571 : decode cL_law 571 = .ok (.aload_n 1, 1) ∧ 572 = 571 + 1 := op_43 (rb11 21 rfl) rfl
theorem dL_law_572 : decode cL_law 572 = .ok (.aload_n 0, 1) ∧ 573 = 572 + 1 := op_42 (rb11 22 rfl) rfl
theorem dL_law_573 : decode cL_law 573 = .ok (.iload 5, 2) ∧ 575 = 573 + 2 := op_21 (rb11 23 rfl) (rb11 24 rfl) rfl
theorem dL_law_575 : decode cL_law 575 = .ok (.iconst 1, 1) ∧ 576 = 575 + 1 := op_4 (rb11 25 rfl) rfl
theorem dL_law_576 : decode cL_law 576 = .ok (.iadd, 1) ∧ 577 = 576 + 1 := op_96 (rb11 26 rfl) rfl
theorem dL_law_577 : decode cL_law 577 = .ok (.iaload, 1) ∧ 578 = 577 + 1 := op_46 (rb11 27 rfl) rfl
theorem dL_law_578 : decode cL_law 578 = .ok (.aload_n 3, 1) ∧ 579 = 578 + 1 := op_45 (rb11 28 rfl) rfl
theorem dL_law_579 : decode cL_law 579 = .ok (.invokestatic 189, 3) ∧ 582 = 579 + 3 := op_184 (rb11 29 rfl) (rb11 30 rfl) (rb11 31 rfl) rfl
theorem dL_law_582 : decode cL_law 582 = .ok (.istore 6, 2) ∧ 584 = 582 + 2 := op_54 (rb11 32 rfl) (rb11 33 rfl) rfl
theorem dL_law_584 : decode cL_law 584 = .ok (.aload_n 2, 1) ∧ 585 = 584 + 1 := op_44 (rb11 34 rfl) rfl
theorem dL_law_585 : decode cL_law 585 = .ok (.aload_n 0, 1) ∧ 586 = 585 + 1 := op_42 (rb11 35 rfl) rfl
theorem dL_law_586 : decode cL_law 586 = .ok (.iload 5, 2) ∧ 588 = 586 + 2 := op_21 (rb11 36 rfl) (rb11 37 rfl) rfl
theorem dL_law_588 : decode cL_law 588 = .ok (.iconst 1, 1) ∧ 589 = 588 + 1 := op_4 (rb11 38 rfl) rfl
theorem dL_law_589 : decode cL_law 589 = .ok (.iadd, 1) ∧ 590 = 589 + 1 := op_96 (rb11 39 rfl) rfl
theorem dL_law_590 : decode cL_law 590 = .ok (.iaload, 1) ∧ 591 = 590 + 1 := op_46 (rb11 40 rfl) rfl
theorem dL_law_591 : decode cL_law 591 = .ok (.invokevirtual 191, 3) ∧ 594 = 591 + 3 := op_182 (rb11 41 rfl) (rb11 42 rfl) (rb11 43 rfl) rfl
theorem dL_law_594 : decode cL_law 594 = .ok (.istore 7, 2) ∧ 596 = 594 + 2 := op_54 (rb11 44 rfl) (rb11 45 rfl) rfl
theorem dL_law_596 : decode cL_law 596 = .ok (.aload_n 2, 1) ∧ 597 = 596 + 1 := op_44 (rb11 46 rfl) rfl
theorem dL_law_597 : decode cL_law 597 = .ok (.invokevirtual 164, 3) ∧ 600 = 597 + 3 := op_182 (rb11 47 rfl) (rb11 48 rfl) (rb11 49 rfl) rfl
theorem dL_law_600 : decode cL_law 600 = .ok (.iload 6, 2) ∧ 602 = 600 + 2 := op_21 (rb12 0 rfl) (rb12 1 rfl) rfl
theorem dL_law_602 : decode cL_law 602 = .ok (.if_icmp .eq 5, 3) ∧ 605 = 602 + 3 := op_159 (rb12 2 rfl) (rb12 3 rfl) (rb12 4 rfl) rfl rfl
theorem dL_law_605 : decode cL_law 605 = .ok (.iconst 0, 1) ∧ 606 = 605 + 1 := op_3 (rb12 5 rfl) rfl
theorem dL_law_606 : decode cL_law 606 = .ok (.ireturn, 1) ∧ 607 = 606 + 1 := op_172 (rb12 6 rfl) rfl
theorem dL_law_607 : decode cL_law 607 = .ok (.iload 6, 2) ∧ 609 = 607 + 2 := op_21 (rb12 7 rfl) (rb12 8 rfl) rfl
theorem dL_law_609 : decode cL_law 609 = .ok (.ifCond .ne 15, 3) ∧ 612 = 609 + 3 := op_154 (rb12 9 rfl) (rb12 10 rfl) (rb12 11 rfl) rfl rfl
theorem dL_law_612 : decode cL_law 612 = .ok (.aload_n 3, 1) ∧ 613 = 612 + 1 := op_45 (rb12 12 rfl) rfl
theorem dL_law_613 : decode cL_law 613 = .ok (.iconst 0, 1) ∧ 614 = 613 + 1 := op_3 (rb12 13 rfl) rfl
theorem dL_law_614 : decode cL_law 614 = .ok (.laload, 1) ∧ 615 = 614 + 1 := op_47 (rb12 14 rfl) rfl
theorem dL_law_615 : decode cL_law 615 = .ok (.iload 7, 2) ∧ 617 = 615 + 2 := op_21 (rb12 15 rfl) (rb12 16 rfl) rfl
theorem dL_law_617 : decode cL_law 617 = .ok (.i2l, 1) ∧ 618 = 617 + 1 := op_133 (rb12 17 rfl) rfl
theorem dL_law_618 : decode cL_law 618 = .ok (.lcmp, 1) ∧ 619 = 618 + 1 := op_148 (rb12 18 rfl) rfl
theorem dL_law_619 : decode cL_law 619 = .ok (.ifCond .eq 5, 3) ∧ 622 = 619 + 3 := op_153 (rb12 19 rfl) (rb12 20 rfl) (rb12 21 rfl) rfl rfl
theorem dL_law_622 : decode cL_law 622 = .ok (.iconst 0, 1) ∧ 623 = 622 + 1 := op_3 (rb12 22 rfl) rfl
theorem dL_law_623 : decode cL_law 623 = .ok (.ireturn, 1) ∧ 624 = 623 + 1 := op_172 (rb12 23 rfl) rfl
theorem dL_law_624 : decode cL_law 624 = .ok (.goto 2436, 3) ∧ 627 = 624 + 3 := op_167 (rb12 24 rfl) (rb12 25 rfl) (rb12 26 rfl) rfl rfl
theorem dL_law_627 : decode cL_law 627 = .ok (.aload_n 1, 1) ∧ 628 = 627 + 1 := op_43 (rb12 27 rfl) rfl
theorem dL_law_628 : decode cL_law 628 = .ok (.aload_n 0, 1) ∧ 629 = 628 + 1 := op_42 (rb12 28 rfl) rfl
theorem dL_law_629 : decode cL_law 629 = .ok (.iload 5, 2) ∧ 631 = 629 + 2 := op_21 (rb12 29 rfl) (rb12 30 rfl) rfl
theorem dL_law_631 : decode cL_law 631 = .ok (.iconst 1, 1) ∧ 632 = 631 + 1 := op_4 (rb12 31 rfl) rfl
theorem dL_law_632 : decode cL_law 632 = .ok (.iadd, 1) ∧ 633 = 632 + 1 := op_96 (rb12 32 rfl) rfl
theorem dL_law_633 : decode cL_law 633 = .ok (.iaload, 1) ∧ 634 = 633 + 1 := op_46 (rb12 33 rfl) rfl
theorem dL_law_634 : decode cL_law 634 = .ok (.aload_n 3, 1) ∧ 635 = 634 + 1 := op_45 (rb12 34 rfl) rfl
theorem dL_law_635 : decode cL_law 635 = .ok (.invokestatic 192, 3) ∧ 638 = 635 + 3 := op_184 (rb12 35 rfl) (rb12 36 rfl) (rb12 37 rfl) rfl
theorem dL_law_638 : decode cL_law 638 = .ok (.istore 6, 2) ∧ 640 = 638 + 2 := op_54 (rb12 38 rfl) (rb12 39 rfl) rfl
theorem dL_law_640 : decode cL_law 640 = .ok (.aload_n 2, 1) ∧ 641 = 640 + 1 := op_44 (rb12 40 rfl) rfl
theorem dL_law_641 : decode cL_law 641 = .ok (.aload_n 0, 1) ∧ 642 = 641 + 1 := op_42 (rb12 41 rfl) rfl
theorem dL_law_642 : decode cL_law 642 = .ok (.iload 5, 2) ∧ 644 = 642 + 2 := op_21 (rb12 42 rfl) (rb12 43 rfl) rfl
theorem dL_law_644 : decode cL_law 644 = .ok (.iconst 1, 1) ∧ 645 = 644 + 1 := op_4 (rb12 44 rfl) rfl
theorem dL_law_645 : decode cL_law 645 = .ok (.iadd, 1) ∧ 646 = 645 + 1 := op_96 (rb12 45 rfl) rfl
theorem dL_law_646 : decode cL_law 646 = .ok (.iaload, 1) ∧ 647 = 646 + 1 := op_46 (rb12 46 rfl) rfl
theorem dL_law_647 : decode cL_law 647 = .ok (.invokevirtual 194, 3) ∧ 650 = 647 + 3 := op_182 (rb12 47 rfl) (rb12 48 rfl) (rb12 49 rfl) rfl
theorem dL_law_650 : decode cL_law 650 = .ok (.istore 7, 2) ∧ 652 = 650 + 2 := op_54 (rb13 0 rfl) (rb13 1 rfl) rfl
theorem dL_law_652 : decode cL_law 652 = .ok (.aload_n 2, 1) ∧ 653 = 652 + 1 := op_44 (rb13 2 rfl) rfl
theorem dL_law_653 : decode cL_law 653 = .ok (.invokevirtual 164, 3) ∧ 656 = 653 + 3 := op_182 (rb13 3 rfl) (rb13 4 rfl) (rb13 5 rfl) rfl
theorem dL_law_656 : decode cL_law 656 = .ok (.iload 6, 2) ∧ 658 = 656 + 2 := op_21 (rb13 6 rfl) (rb13 7 rfl) rfl
theorem dL_law_658 : decode cL_law 658 = .ok (.if_icmp .eq 5, 3) ∧ 661 = 658 + 3 := op_159 (rb13 8 rfl) (rb13 9 rfl) (rb13 10 rfl) rfl rfl
theorem dL_law_661 : decode cL_law 661 = .ok (.iconst 0, 1) ∧ 662 = 661 + 1 := op_3 (rb13 11 rfl) rfl
theorem dL_law_662 : decode cL_law 662 = .ok (.ireturn, 1) ∧ 663 = 662 + 1 := op_172 (rb13 12 rfl) rfl
theorem dL_law_663 : decode cL_law 663 = .ok (.iload 6, 2) ∧ 665 = 663 + 2 := op_21 (rb13 13 rfl) (rb13 14 rfl) rfl
theorem dL_law_665 : decode cL_law 665 = .ok (.ifCond .ne 15, 3) ∧ 668 = 665 + 3 := op_154 (rb13 15 rfl) (rb13 16 rfl) (rb13 17 rfl) rfl rfl
theorem dL_law_668 : decode cL_law 668 = .ok (.aload_n 3, 1) ∧ 669 = 668 + 1 := op_45 (rb13 18 rfl) rfl
theorem dL_law_669 : decode cL_law 669 = .ok (.iconst 0, 1) ∧ 670 = 669 + 1 := op_3 (rb13 19 rfl) rfl
theorem dL_law_670 : decode cL_law 670 = .ok (.laload, 1) ∧ 671 = 670 + 1 := op_47 (rb13 20 rfl) rfl
theorem dL_law_671 : decode cL_law 671 = .ok (.iload 7, 2) ∧ 673 = 671 + 2 := op_21 (rb13 21 rfl) (rb13 22 rfl) rfl
theorem dL_law_673 : decode cL_law 673 = .ok (.i2l, 1) ∧ 674 = 673 + 1 := op_133 (rb13 23 rfl) rfl
theorem dL_law_674 : decode cL_law 674 = .ok (.lcmp, 1) ∧ 675 = 674 + 1 := op_148 (rb13 24 rfl) rfl
theorem dL_law_675 : decode cL_law 675 = .ok (.ifCond .eq 5, 3) ∧ 678 = 675 + 3 := op_153 (rb13 25 rfl) (rb13 26 rfl) (rb13 27 rfl) rfl rfl
theorem dL_law_678 : decode cL_law 678 = .ok (.iconst 0, 1) ∧ 679 = 678 + 1 := op_3 (rb13 28 rfl) rfl
theorem dL_law_679 : decode cL_law 679 = .ok (.ireturn, 1) ∧ 680 = 679 + 1 := op_172 (rb13 29 rfl) rfl
theorem dL_law_680 : decode cL_law 680 = .ok (.goto 2380, 3) ∧ 683 = 680 + 3 := op_167 (rb13 30 rfl) (rb13 31 rfl) (rb13 32 rfl) rfl rfl
theorem dL_law_683 : decode cL_law 683 = .ok (.aload_n 1, 1) ∧ 684 = 683 + 1 := op_43 (rb13 33 rfl) rfl
theorem dL_law_684 : decode cL_law 684 = .ok (.aload_n 0, 1) ∧ 685 = 684 + 1 := op_42 (rb13 34 rfl) rfl
theorem dL_law_685 : decode cL_law 685 = .ok (.iload 5, 2) ∧ 687 = 685 + 2 := op_21 (rb13 35 rfl) (rb13 36 rfl) rfl
theorem dL_law_687 : decode cL_law 687 = .ok (.iconst 1, 1) ∧ 688 = 687 + 1 := op_4 (rb13 37 rfl) rfl
theorem dL_law_688 : decode cL_law 688 = .ok (.iadd, 1) ∧ 689 = 688 + 1 := op_96 (rb13 38 rfl) rfl
theorem dL_law_689 : decode cL_law 689 = .ok (.iaload, 1) ∧ 690 = 689 + 1 := op_46 (rb13 39 rfl) rfl
theorem dL_law_690 : decode cL_law 690 = .ok (.aload_n 3, 1) ∧ 691 = 690 + 1 := op_45 (rb13 40 rfl) rfl
theorem dL_law_691 : decode cL_law 691 = .ok (.invokestatic 195, 3) ∧ 694 = 691 + 3 := op_184 (rb13 41 rfl) (rb13 42 rfl) (rb13 43 rfl) rfl
theorem dL_law_694 : decode cL_law 694 = .ok (.istore 6, 2) ∧ 696 = 694 + 2 := op_54 (rb13 44 rfl) (rb13 45 rfl) rfl
theorem dL_law_696 : decode cL_law 696 = .ok (.aload_n 2, 1) ∧ 697 = 696 + 1 := op_44 (rb13 46 rfl) rfl
theorem dL_law_697 : decode cL_law 697 = .ok (.aload_n 0, 1) ∧ 698 = 697 + 1 := op_42 (rb13 47 rfl) rfl
theorem dL_law_698 : decode cL_law 698 = .ok (.iload 5, 2) ∧ 700 = 698 + 2 := op_21 (rb13 48 rfl) (rb13 49 rfl) rfl
theorem dL_law_700 : decode cL_law 700 = .ok (.iconst 1, 1) ∧ 701 = 700 + 1 := op_4 (rb14 0 rfl) rfl
theorem dL_law_701 : decode cL_law 701 = .ok (.iadd, 1) ∧ 702 = 701 + 1 := op_96 (rb14 1 rfl) rfl
theorem dL_law_702 : decode cL_law 702 = .ok (.iaload, 1) ∧ 703 = 702 + 1 := op_46 (rb14 2 rfl) rfl
theorem dL_law_703 : decode cL_law 703 = .ok (.invokevirtual 197, 3) ∧ 706 = 703 + 3 := op_182 (rb14 3 rfl) (rb14 4 rfl) (rb14 5 rfl) rfl
theorem dL_law_706 : decode cL_law 706 = .ok (.istore 7, 2) ∧ 708 = 706 + 2 := op_54 (rb14 6 rfl) (rb14 7 rfl) rfl
theorem dL_law_708 : decode cL_law 708 = .ok (.aload_n 2, 1) ∧ 709 = 708 + 1 := op_44 (rb14 8 rfl) rfl
theorem dL_law_709 : decode cL_law 709 = .ok (.invokevirtual 164, 3) ∧ 712 = 709 + 3 := op_182 (rb14 9 rfl) (rb14 10 rfl) (rb14 11 rfl) rfl
theorem dL_law_712 : decode cL_law 712 = .ok (.iload 6, 2) ∧ 714 = 712 + 2 := op_21 (rb14 12 rfl) (rb14 13 rfl) rfl
theorem dL_law_714 : decode cL_law 714 = .ok (.if_icmp .eq 5, 3) ∧ 717 = 714 + 3 := op_159 (rb14 14 rfl) (rb14 15 rfl) (rb14 16 rfl) rfl rfl
theorem dL_law_717 : decode cL_law 717 = .ok (.iconst 0, 1) ∧ 718 = 717 + 1 := op_3 (rb14 17 rfl) rfl
theorem dL_law_718 : decode cL_law 718 = .ok (.ireturn, 1) ∧ 719 = 718 + 1 := op_172 (rb14 18 rfl) rfl
theorem dL_law_719 : decode cL_law 719 = .ok (.iload 6, 2) ∧ 721 = 719 + 2 := op_21 (rb14 19 rfl) (rb14 20 rfl) rfl
theorem dL_law_721 : decode cL_law 721 = .ok (.ifCond .ne 15, 3) ∧ 724 = 721 + 3 := op_154 (rb14 21 rfl) (rb14 22 rfl) (rb14 23 rfl) rfl rfl
theorem dL_law_724 : decode cL_law 724 = .ok (.aload_n 3, 1) ∧ 725 = 724 + 1 := op_45 (rb14 24 rfl) rfl
theorem dL_law_725 : decode cL_law 725 = .ok (.iconst 0, 1) ∧ 726 = 725 + 1 := op_3 (rb14 25 rfl) rfl
theorem dL_law_726 : decode cL_law 726 = .ok (.laload, 1) ∧ 727 = 726 + 1 := op_47 (rb14 26 rfl) rfl
theorem dL_law_727 : decode cL_law 727 = .ok (.iload 7, 2) ∧ 729 = 727 + 2 := op_21 (rb14 27 rfl) (rb14 28 rfl) rfl
theorem dL_law_729 : decode cL_law 729 = .ok (.i2l, 1) ∧ 730 = 729 + 1 := op_133 (rb14 29 rfl) rfl
theorem dL_law_730 : decode cL_law 730 = .ok (.lcmp, 1) ∧ 731 = 730 + 1 := op_148 (rb14 30 rfl) rfl
theorem dL_law_731 : decode cL_law 731 = .ok (.ifCond .eq 5, 3) ∧ 734 = 731 + 3 := op_153 (rb14 31 rfl) (rb14 32 rfl) (rb14 33 rfl) rfl rfl
theorem dL_law_734 : decode cL_law 734 = .ok (.iconst 0, 1) ∧ 735 = 734 + 1 := op_3 (rb14 34 rfl) rfl
theorem dL_law_735 : decode cL_law 735 = .ok (.ireturn, 1) ∧ 736 = 735 + 1 := op_172 (rb14 35 rfl) rfl
theorem dL_law_736 : decode cL_law 736 = .ok (.goto 2324, 3) ∧ 739 = 736 + 3 := op_167 (rb14 36 rfl) (rb14 37 rfl) (rb14 38 rfl) rfl rfl
theorem dL_law_739 : decode cL_law 739 = .ok (.aload_n 1, 1) ∧ 740 = 739 + 1 := op_43 (rb14 39 rfl) rfl
theorem dL_law_740 : decode cL_law 740 = .ok (.aload_n 0, 1) ∧ 741 = 740 + 1 := op_42 (rb14 40 rfl) rfl
theorem dL_law_741 : decode cL_law 741 = .ok (.iload 5, 2) ∧ 743 = 741 + 2 := op_21 (rb14 41 rfl) (rb14 42 rfl) rfl
theorem dL_law_743 : decode cL_law 743 = .ok (.iconst 1, 1) ∧ 744 = 743 + 1 := op_4 (rb14 43 rfl) rfl
theorem dL_law_744 : decode cL_law 744 = .ok (.iadd, 1) ∧ 745 = 744 + 1 := op_96 (rb14 44 rfl) rfl
theorem dL_law_745 : decode cL_law 745 = .ok (.iaload, 1) ∧ 746 = 745 + 1 := op_46 (rb14 45 rfl) rfl
theorem dL_law_746 : decode cL_law 746 = .ok (.aload_n 0, 1) ∧ 747 = 746 + 1 := op_42 (rb14 46 rfl) rfl
theorem dL_law_747 : decode cL_law 747 = .ok (.iload 5, 2) ∧ 749 = 747 + 2 := op_21 (rb14 47 rfl) (rb14 48 rfl) rfl
theorem dL_law_749 : decode cL_law 749 = .ok (.iconst 2, 1) ∧ 750 = 749 + 1 := op_5 (rb14 49 rfl) rfl
theorem dL_law_750 : decode cL_law 750 = .ok (.iadd, 1) ∧ 751 = 750 + 1 := op_96 (rb15 0 rfl) rfl
theorem dL_law_751 : decode cL_law 751 = .ok (.iaload, 1) ∧ 752 = 751 + 1 := op_46 (rb15 1 rfl) rfl
theorem dL_law_752 : decode cL_law 752 = .ok (.aload_n 3, 1) ∧ 753 = 752 + 1 := op_45 (rb15 2 rfl) rfl
theorem dL_law_753 : decode cL_law 753 = .ok (.invokestatic 198, 3) ∧ 756 = 753 + 3 := op_184 (rb15 3 rfl) (rb15 4 rfl) (rb15 5 rfl) rfl
theorem dL_law_756 : decode cL_law 756 = .ok (.istore 6, 2) ∧ 758 = 756 + 2 := op_54 (rb15 6 rfl) (rb15 7 rfl) rfl
theorem dL_law_758 : decode cL_law 758 = .ok (.aload_n 2, 1) ∧ 759 = 758 + 1 := op_44 (rb15 8 rfl) rfl
theorem dL_law_759 : decode cL_law 759 = .ok (.aload_n 0, 1) ∧ 760 = 759 + 1 := op_42 (rb15 9 rfl) rfl
theorem dL_law_760 : decode cL_law 760 = .ok (.iload 5, 2) ∧ 762 = 760 + 2 := op_21 (rb15 10 rfl) (rb15 11 rfl) rfl
theorem dL_law_762 : decode cL_law 762 = .ok (.iconst 1, 1) ∧ 763 = 762 + 1 := op_4 (rb15 12 rfl) rfl
theorem dL_law_763 : decode cL_law 763 = .ok (.iadd, 1) ∧ 764 = 763 + 1 := op_96 (rb15 13 rfl) rfl
theorem dL_law_764 : decode cL_law 764 = .ok (.iaload, 1) ∧ 765 = 764 + 1 := op_46 (rb15 14 rfl) rfl
theorem dL_law_765 : decode cL_law 765 = .ok (.aload_n 0, 1) ∧ 766 = 765 + 1 := op_42 (rb15 15 rfl) rfl
theorem dL_law_766 : decode cL_law 766 = .ok (.iload 5, 2) ∧ 768 = 766 + 2 := op_21 (rb15 16 rfl) (rb15 17 rfl) rfl
theorem dL_law_768 : decode cL_law 768 = .ok (.iconst 2, 1) ∧ 769 = 768 + 1 := op_5 (rb15 18 rfl) rfl
theorem dL_law_769 : decode cL_law 769 = .ok (.iadd, 1) ∧ 770 = 769 + 1 := op_96 (rb15 19 rfl) rfl
theorem dL_law_770 : decode cL_law 770 = .ok (.iaload, 1) ∧ 771 = 770 + 1 := op_46 (rb15 20 rfl) rfl
theorem dL_law_771 : decode cL_law 771 = .ok (.invokevirtual 201, 3) ∧ 774 = 771 + 3 := op_182 (rb15 21 rfl) (rb15 22 rfl) (rb15 23 rfl) rfl
theorem dL_law_774 : decode cL_law 774 = .ok (.istore 7, 2) ∧ 776 = 774 + 2 := op_54 (rb15 24 rfl) (rb15 25 rfl) rfl
theorem dL_law_776 : decode cL_law 776 = .ok (.aload_n 2, 1) ∧ 777 = 776 + 1 := op_44 (rb15 26 rfl) rfl
theorem dL_law_777 : decode cL_law 777 = .ok (.invokevirtual 164, 3) ∧ 780 = 777 + 3 := op_182 (rb15 27 rfl) (rb15 28 rfl) (rb15 29 rfl) rfl
theorem dL_law_780 : decode cL_law 780 = .ok (.iload 6, 2) ∧ 782 = 780 + 2 := op_21 (rb15 30 rfl) (rb15 31 rfl) rfl
theorem dL_law_782 : decode cL_law 782 = .ok (.if_icmp .eq 5, 3) ∧ 785 = 782 + 3 := op_159 (rb15 32 rfl) (rb15 33 rfl) (rb15 34 rfl) rfl rfl
theorem dL_law_785 : decode cL_law 785 = .ok (.iconst 0, 1) ∧ 786 = 785 + 1 := op_3 (rb15 35 rfl) rfl
theorem dL_law_786 : decode cL_law 786 = .ok (.ireturn, 1) ∧ 787 = 786 + 1 := op_172 (rb15 36 rfl) rfl
theorem dL_law_787 : decode cL_law 787 = .ok (.iload 6, 2) ∧ 789 = 787 + 2 := op_21 (rb15 37 rfl) (rb15 38 rfl) rfl
theorem dL_law_789 : decode cL_law 789 = .ok (.ifCond .ne 15, 3) ∧ 792 = 789 + 3 := op_154 (rb15 39 rfl) (rb15 40 rfl) (rb15 41 rfl) rfl rfl
theorem dL_law_792 : decode cL_law 792 = .ok (.aload_n 3, 1) ∧ 793 = 792 + 1 := op_45 (rb15 42 rfl) rfl
theorem dL_law_793 : decode cL_law 793 = .ok (.iconst 0, 1) ∧ 794 = 793 + 1 := op_3 (rb15 43 rfl) rfl
theorem dL_law_794 : decode cL_law 794 = .ok (.laload, 1) ∧ 795 = 794 + 1 := op_47 (rb15 44 rfl) rfl
theorem dL_law_795 : decode cL_law 795 = .ok (.iload 7, 2) ∧ 797 = 795 + 2 := op_21 (rb15 45 rfl) (rb15 46 rfl) rfl
theorem dL_law_797 : decode cL_law 797 = .ok (.i2l, 1) ∧ 798 = 797 + 1 := op_133 (rb15 47 rfl) rfl
theorem dL_law_798 : decode cL_law 798 = .ok (.lcmp, 1) ∧ 799 = 798 + 1 := op_148 (rb15 48 rfl) rfl
theorem dL_law_799 : decode cL_law 799 = .ok (.ifCond .eq 5, 3) ∧ 802 = 799 + 3 := op_153 (rb15 49 rfl) (rb16 0 rfl) (rb16 1 rfl) rfl rfl
theorem dL_law_802 : decode cL_law 802 = .ok (.iconst 0, 1) ∧ 803 = 802 + 1 := op_3 (rb16 2 rfl) rfl
theorem dL_law_803 : decode cL_law 803 = .ok (.ireturn, 1) ∧ 804 = 803 + 1 := op_172 (rb16 3 rfl) rfl
theorem dL_law_804 : decode cL_law 804 = .ok (.goto 2256, 3) ∧ 807 = 804 + 3 := op_167 (rb16 4 rfl) (rb16 5 rfl) (rb16 6 rfl) rfl rfl
theorem dL_law_807 : decode cL_law 807 = .ok (.aload_n 1, 1) ∧ 808 = 807 + 1 := op_43 (rb16 7 rfl) rfl
theorem dL_law_808 : decode cL_law 808 = .ok (.aload_n 0, 1) ∧ 809 = 808 + 1 := op_42 (rb16 8 rfl) rfl
theorem dL_law_809 : decode cL_law 809 = .ok (.iload 5, 2) ∧ 811 = 809 + 2 := op_21 (rb16 9 rfl) (rb16 10 rfl) rfl
theorem dL_law_811 : decode cL_law 811 = .ok (.iconst 1, 1) ∧ 812 = 811 + 1 := op_4 (rb16 11 rfl) rfl
theorem dL_law_812 : decode cL_law 812 = .ok (.iadd, 1) ∧ 813 = 812 + 1 := op_96 (rb16 12 rfl) rfl
theorem dL_law_813 : decode cL_law 813 = .ok (.iaload, 1) ∧ 814 = 813 + 1 := op_46 (rb16 13 rfl) rfl
theorem dL_law_814 : decode cL_law 814 = .ok (.aload_n 3, 1) ∧ 815 = 814 + 1 := op_45 (rb16 14 rfl) rfl
theorem dL_law_815 : decode cL_law 815 = .ok (.invokestatic 202, 3) ∧ 818 = 815 + 3 := op_184 (rb16 15 rfl) (rb16 16 rfl) (rb16 17 rfl) rfl
theorem dL_law_818 : decode cL_law 818 = .ok (.istore 6, 2) ∧ 820 = 818 + 2 := op_54 (rb16 18 rfl) (rb16 19 rfl) rfl
theorem dL_law_820 : decode cL_law 820 = .ok (.aload_n 2, 1) ∧ 821 = 820 + 1 := op_44 (rb16 20 rfl) rfl
theorem dL_law_821 : decode cL_law 821 = .ok (.aload_n 0, 1) ∧ 822 = 821 + 1 := op_42 (rb16 21 rfl) rfl
theorem dL_law_822 : decode cL_law 822 = .ok (.iload 5, 2) ∧ 824 = 822 + 2 := op_21 (rb16 22 rfl) (rb16 23 rfl) rfl
theorem dL_law_824 : decode cL_law 824 = .ok (.iconst 1, 1) ∧ 825 = 824 + 1 := op_4 (rb16 24 rfl) rfl
theorem dL_law_825 : decode cL_law 825 = .ok (.iadd, 1) ∧ 826 = 825 + 1 := op_96 (rb16 25 rfl) rfl
theorem dL_law_826 : decode cL_law 826 = .ok (.iaload, 1) ∧ 827 = 826 + 1 := op_46 (rb16 26 rfl) rfl
theorem dL_law_827 : decode cL_law 827 = .ok (.invokevirtual 204, 3) ∧ 830 = 827 + 3 := op_182 (rb16 27 rfl) (rb16 28 rfl) (rb16 29 rfl) rfl
theorem dL_law_830 : decode cL_law 830 = .ok (.istore 7, 2) ∧ 832 = 830 + 2 := op_54 (rb16 30 rfl) (rb16 31 rfl) rfl
theorem dL_law_832 : decode cL_law 832 = .ok (.aload_n 2, 1) ∧ 833 = 832 + 1 := op_44 (rb16 32 rfl) rfl
theorem dL_law_833 : decode cL_law 833 = .ok (.invokevirtual 164, 3) ∧ 836 = 833 + 3 := op_182 (rb16 33 rfl) (rb16 34 rfl) (rb16 35 rfl) rfl
theorem dL_law_836 : decode cL_law 836 = .ok (.iload 6, 2) ∧ 838 = 836 + 2 := op_21 (rb16 36 rfl) (rb16 37 rfl) rfl
theorem dL_law_838 : decode cL_law 838 = .ok (.if_icmp .eq 5, 3) ∧ 841 = 838 + 3 := op_159 (rb16 38 rfl) (rb16 39 rfl) (rb16 40 rfl) rfl rfl
theorem dL_law_841 : decode cL_law 841 = .ok (.iconst 0, 1) ∧ 842 = 841 + 1 := op_3 (rb16 41 rfl) rfl
theorem dL_law_842 : decode cL_law 842 = .ok (.ireturn, 1) ∧ 843 = 842 + 1 := op_172 (rb16 42 rfl) rfl
theorem dL_law_843 : decode cL_law 843 = .ok (.iload 6, 2) ∧ 845 = 843 + 2 := op_21 (rb16 43 rfl) (rb16 44 rfl) rfl
theorem dL_law_845 : decode cL_law 845 = .ok (.ifCond .ne 15, 3) ∧ 848 = 845 + 3 := op_154 (rb16 45 rfl) (rb16 46 rfl) (rb16 47 rfl) rfl rfl
theorem dL_law_848 : decode cL_law 848 = .ok (.aload_n 3, 1) ∧ 849 = 848 + 1 := op_45 (rb16 48 rfl) rfl
theorem dL_law_849 : decode cL_law 849 = .ok (.iconst 0, 1) ∧ 850 = 849 + 1 := op_3 (rb16 49 rfl) rfl
theorem dL_law_850 : decode cL_law 850 = .ok (.laload, 1) ∧ 851 = 850 + 1 := op_47 (rb17 0 rfl) rfl
theorem dL_law_851 : decode cL_law 851 = .ok (.iload 7, 2) ∧ 853 = 851 + 2 := op_21 (rb17 1 rfl) (rb17 2 rfl) rfl
theorem dL_law_853 : decode cL_law 853 = .ok (.i2l, 1) ∧ 854 = 853 + 1 := op_133 (rb17 3 rfl) rfl
theorem dL_law_854 : decode cL_law 854 = .ok (.lcmp, 1) ∧ 855 = 854 + 1 := op_148 (rb17 4 rfl) rfl
theorem dL_law_855 : decode cL_law 855 = .ok (.ifCond .eq 5, 3) ∧ 858 = 855 + 3 := op_153 (rb17 5 rfl) (rb17 6 rfl) (rb17 7 rfl) rfl rfl
theorem dL_law_858 : decode cL_law 858 = .ok (.iconst 0, 1) ∧ 859 = 858 + 1 := op_3 (rb17 8 rfl) rfl
theorem dL_law_859 : decode cL_law 859 = .ok (.ireturn, 1) ∧ 860 = 859 + 1 := op_172 (rb17 9 rfl) rfl
theorem dL_law_860 : decode cL_law 860 = .ok (.goto 2200, 3) ∧ 863 = 860 + 3 := op_167 (rb17 10 rfl) (rb17 11 rfl) (rb17 12 rfl) rfl rfl
theorem dL_law_863 : decode cL_law 863 = .ok (.aload_n 1, 1) ∧ 864 = 863 + 1 := op_43 (rb17 13 rfl) rfl
theorem dL_law_864 : decode cL_law 864 = .ok (.aload_n 0, 1) ∧ 865 = 864 + 1 := op_42 (rb17 14 rfl) rfl
theorem dL_law_865 : decode cL_law 865 = .ok (.iload 5, 2) ∧ 867 = 865 + 2 := op_21 (rb17 15 rfl) (rb17 16 rfl) rfl
theorem dL_law_867 : decode cL_law 867 = .ok (.iconst 1, 1) ∧ 868 = 867 + 1 := op_4 (rb17 17 rfl) rfl
theorem dL_law_868 : decode cL_law 868 = .ok (.iadd, 1) ∧ 869 = 868 + 1 := op_96 (rb17 18 rfl) rfl
theorem dL_law_869 : decode cL_law 869 = .ok (.iaload, 1) ∧ 870 = 869 + 1 := op_46 (rb17 19 rfl) rfl
theorem dL_law_870 : decode cL_law 870 = .ok (.aload_n 0, 1) ∧ 871 = 870 + 1 := op_42 (rb17 20 rfl) rfl
theorem dL_law_871 : decode cL_law 871 = .ok (.iload 5, 2) ∧ 873 = 871 + 2 := op_21 (rb17 21 rfl) (rb17 22 rfl) rfl
theorem dL_law_873 : decode cL_law 873 = .ok (.iconst 2, 1) ∧ 874 = 873 + 1 := op_5 (rb17 23 rfl) rfl
theorem dL_law_874 : decode cL_law 874 = .ok (.iadd, 1) ∧ 875 = 874 + 1 := op_96 (rb17 24 rfl) rfl
theorem dL_law_875 : decode cL_law 875 = .ok (.iaload, 1) ∧ 876 = 875 + 1 := op_46 (rb17 25 rfl) rfl
theorem dL_law_876 : decode cL_law 876 = .ok (.aload_n 3, 1) ∧ 877 = 876 + 1 := op_45 (rb17 26 rfl) rfl
theorem dL_law_877 : decode cL_law 877 = .ok (.invokestatic 205, 3) ∧ 880 = 877 + 3 := op_184 (rb17 27 rfl) (rb17 28 rfl) (rb17 29 rfl) rfl
theorem dL_law_880 : decode cL_law 880 = .ok (.istore 6, 2) ∧ 882 = 880 + 2 := op_54 (rb17 30 rfl) (rb17 31 rfl) rfl
theorem dL_law_882 : decode cL_law 882 = .ok (.aload_n 2, 1) ∧ 883 = 882 + 1 := op_44 (rb17 32 rfl) rfl
theorem dL_law_883 : decode cL_law 883 = .ok (.aload_n 0, 1) ∧ 884 = 883 + 1 := op_42 (rb17 33 rfl) rfl
theorem dL_law_884 : decode cL_law 884 = .ok (.iload 5, 2) ∧ 886 = 884 + 2 := op_21 (rb17 34 rfl) (rb17 35 rfl) rfl
theorem dL_law_886 : decode cL_law 886 = .ok (.iconst 1, 1) ∧ 887 = 886 + 1 := op_4 (rb17 36 rfl) rfl
theorem dL_law_887 : decode cL_law 887 = .ok (.iadd, 1) ∧ 888 = 887 + 1 := op_96 (rb17 37 rfl) rfl
theorem dL_law_888 : decode cL_law 888 = .ok (.iaload, 1) ∧ 889 = 888 + 1 := op_46 (rb17 38 rfl) rfl
theorem dL_law_889 : decode cL_law 889 = .ok (.aload_n 0, 1) ∧ 890 = 889 + 1 := op_42 (rb17 39 rfl) rfl
theorem dL_law_890 : decode cL_law 890 = .ok (.iload 5, 2) ∧ 892 = 890 + 2 := op_21 (rb17 40 rfl) (rb17 41 rfl) rfl
theorem dL_law_892 : decode cL_law 892 = .ok (.iconst 2, 1) ∧ 893 = 892 + 1 := op_5 (rb17 42 rfl) rfl
theorem dL_law_893 : decode cL_law 893 = .ok (.iadd, 1) ∧ 894 = 893 + 1 := op_96 (rb17 43 rfl) rfl
theorem dL_law_894 : decode cL_law 894 = .ok (.iaload, 1) ∧ 895 = 894 + 1 := op_46 (rb17 44 rfl) rfl
theorem dL_law_895 : decode cL_law 895 = .ok (.invokevirtual 207, 3) ∧ 898 = 895 + 3 := op_182 (rb17 45 rfl) (rb17 46 rfl) (rb17 47 rfl) rfl
theorem dL_law_898 : decode cL_law 898 = .ok (.istore 7, 2) ∧ 900 = 898 + 2 := op_54 (rb17 48 rfl) (rb17 49 rfl) rfl
theorem dL_law_900 : decode cL_law 900 = .ok (.aload_n 2, 1) ∧ 901 = 900 + 1 := op_44 (rb18 0 rfl) rfl
theorem dL_law_901 : decode cL_law 901 = .ok (.invokevirtual 164, 3) ∧ 904 = 901 + 3 := op_182 (rb18 1 rfl) (rb18 2 rfl) (rb18 3 rfl) rfl
theorem dL_law_904 : decode cL_law 904 = .ok (.iload 6, 2) ∧ 906 = 904 + 2 := op_21 (rb18 4 rfl) (rb18 5 rfl) rfl
theorem dL_law_906 : decode cL_law 906 = .ok (.if_icmp .eq 5, 3) ∧ 909 = 906 + 3 := op_159 (rb18 6 rfl) (rb18 7 rfl) (rb18 8 rfl) rfl rfl
theorem dL_law_909 : decode cL_law 909 = .ok (.iconst 0, 1) ∧ 910 = 909 + 1 := op_3 (rb18 9 rfl) rfl
theorem dL_law_910 : decode cL_law 910 = .ok (.ireturn, 1) ∧ 911 = 910 + 1 := op_172 (rb18 10 rfl) rfl
theorem dL_law_911 : decode cL_law 911 = .ok (.iload 6, 2) ∧ 913 = 911 + 2 := op_21 (rb18 11 rfl) (rb18 12 rfl) rfl
theorem dL_law_913 : decode cL_law 913 = .ok (.ifCond .ne 15, 3) ∧ 916 = 913 + 3 := op_154 (rb18 13 rfl) (rb18 14 rfl) (rb18 15 rfl) rfl rfl
theorem dL_law_916 : decode cL_law 916 = .ok (.aload_n 3, 1) ∧ 917 = 916 + 1 := op_45 (rb18 16 rfl) rfl
theorem dL_law_917 : decode cL_law 917 = .ok (.iconst 0, 1) ∧ 918 = 917 + 1 := op_3 (rb18 17 rfl) rfl
theorem dL_law_918 : decode cL_law 918 = .ok (.laload, 1) ∧ 919 = 918 + 1 := op_47 (rb18 18 rfl) rfl
theorem dL_law_919 : decode cL_law 919 = .ok (.iload 7, 2) ∧ 921 = 919 + 2 := op_21 (rb18 19 rfl) (rb18 20 rfl) rfl
theorem dL_law_921 : decode cL_law 921 = .ok (.i2l, 1) ∧ 922 = 921 + 1 := op_133 (rb18 21 rfl) rfl
theorem dL_law_922 : decode cL_law 922 = .ok (.lcmp, 1) ∧ 923 = 922 + 1 := op_148 (rb18 22 rfl) rfl
theorem dL_law_923 : decode cL_law 923 = .ok (.ifCond .eq 5, 3) ∧ 926 = 923 + 3 := op_153 (rb18 23 rfl) (rb18 24 rfl) (rb18 25 rfl) rfl rfl
theorem dL_law_926 : decode cL_law 926 = .ok (.iconst 0, 1) ∧ 927 = 926 + 1 := op_3 (rb18 26 rfl) rfl
theorem dL_law_927 : decode cL_law 927 = .ok (.ireturn, 1) ∧ 928 = 927 + 1 := op_172 (rb18 27 rfl) rfl
theorem dL_law_928 : decode cL_law 928 = .ok (.goto 2132, 3) ∧ 931 = 928 + 3 := op_167 (rb18 28 rfl) (rb18 29 rfl) (rb18 30 rfl) rfl rfl
theorem dL_law_931 : decode cL_law 931 = .ok (.aload_n 1, 1) ∧ 932 = 931 + 1 := op_43 (rb18 31 rfl) rfl
theorem dL_law_932 : decode cL_law 932 = .ok (.aload_n 0, 1) ∧ 933 = 932 + 1 := op_42 (rb18 32 rfl) rfl
theorem dL_law_933 : decode cL_law 933 = .ok (.iload 5, 2) ∧ 935 = 933 + 2 := op_21 (rb18 33 rfl) (rb18 34 rfl) rfl
theorem dL_law_935 : decode cL_law 935 = .ok (.iconst 1, 1) ∧ 936 = 935 + 1 := op_4 (rb18 35 rfl) rfl
theorem dL_law_936 : decode cL_law 936 = .ok (.iadd, 1) ∧ 937 = 936 + 1 := op_96 (rb18 36 rfl) rfl
theorem dL_law_937 : decode cL_law 937 = .ok (.iaload, 1) ∧ 938 = 937 + 1 := op_46 (rb18 37 rfl) rfl
theorem dL_law_938 : decode cL_law 938 = .ok (.aload_n 0, 1) ∧ 939 = 938 + 1 := op_42 (rb18 38 rfl) rfl
theorem dL_law_939 : decode cL_law 939 = .ok (.iload 5, 2) ∧ 941 = 939 + 2 := op_21 (rb18 39 rfl) (rb18 40 rfl) rfl
theorem dL_law_941 : decode cL_law 941 = .ok (.iconst 2, 1) ∧ 942 = 941 + 1 := op_5 (rb18 41 rfl) rfl
theorem dL_law_942 : decode cL_law 942 = .ok (.iadd, 1) ∧ 943 = 942 + 1 := op_96 (rb18 42 rfl) rfl
theorem dL_law_943 : decode cL_law 943 = .ok (.iaload, 1) ∧ 944 = 943 + 1 := op_46 (rb18 43 rfl) rfl
theorem dL_law_944 : decode cL_law 944 = .ok (.aload_n 3, 1) ∧ 945 = 944 + 1 := op_45 (rb18 44 rfl) rfl
theorem dL_law_945 : decode cL_law 945 = .ok (.invokestatic 208, 3) ∧ 948 = 945 + 3 := op_184 (rb18 45 rfl) (rb18 46 rfl) (rb18 47 rfl) rfl
theorem dL_law_948 : decode cL_law 948 = .ok (.istore 6, 2) ∧ 950 = 948 + 2 := op_54 (rb18 48 rfl) (rb18 49 rfl) rfl
theorem dL_law_950 : decode cL_law 950 = .ok (.aload_n 2, 1) ∧ 951 = 950 + 1 := op_44 (rb19 0 rfl) rfl
theorem dL_law_951 : decode cL_law 951 = .ok (.aload_n 0, 1) ∧ 952 = 951 + 1 := op_42 (rb19 1 rfl) rfl
theorem dL_law_952 : decode cL_law 952 = .ok (.iload 5, 2) ∧ 954 = 952 + 2 := op_21 (rb19 2 rfl) (rb19 3 rfl) rfl
theorem dL_law_954 : decode cL_law 954 = .ok (.iconst 1, 1) ∧ 955 = 954 + 1 := op_4 (rb19 4 rfl) rfl
theorem dL_law_955 : decode cL_law 955 = .ok (.iadd, 1) ∧ 956 = 955 + 1 := op_96 (rb19 5 rfl) rfl
theorem dL_law_956 : decode cL_law 956 = .ok (.iaload, 1) ∧ 957 = 956 + 1 := op_46 (rb19 6 rfl) rfl
theorem dL_law_957 : decode cL_law 957 = .ok (.aload_n 0, 1) ∧ 958 = 957 + 1 := op_42 (rb19 7 rfl) rfl
theorem dL_law_958 : decode cL_law 958 = .ok (.iload 5, 2) ∧ 960 = 958 + 2 := op_21 (rb19 8 rfl) (rb19 9 rfl) rfl
theorem dL_law_960 : decode cL_law 960 = .ok (.iconst 2, 1) ∧ 961 = 960 + 1 := op_5 (rb19 10 rfl) rfl
theorem dL_law_961 : decode cL_law 961 = .ok (.iadd, 1) ∧ 962 = 961 + 1 := op_96 (rb19 11 rfl) rfl
theorem dL_law_962 : decode cL_law 962 = .ok (.iaload, 1) ∧ 963 = 962 + 1 := op_46 (rb19 12 rfl) rfl
theorem dL_law_963 : decode cL_law 963 = .ok (.invokevirtual 210, 3) ∧ 966 = 963 + 3 := op_182 (rb19 13 rfl) (rb19 14 rfl) (rb19 15 rfl) rfl
theorem dL_law_966 : decode cL_law 966 = .ok (.istore 7, 2) ∧ 968 = 966 + 2 := op_54 (rb19 16 rfl) (rb19 17 rfl) rfl
theorem dL_law_968 : decode cL_law 968 = .ok (.aload_n 2, 1) ∧ 969 = 968 + 1 := op_44 (rb19 18 rfl) rfl
theorem dL_law_969 : decode cL_law 969 = .ok (.invokevirtual 164, 3) ∧ 972 = 969 + 3 := op_182 (rb19 19 rfl) (rb19 20 rfl) (rb19 21 rfl) rfl
theorem dL_law_972 : decode cL_law 972 = .ok (.iload 6, 2) ∧ 974 = 972 + 2 := op_21 (rb19 22 rfl) (rb19 23 rfl) rfl
theorem dL_law_974 : decode cL_law 974 = .ok (.if_icmp .eq 5, 3) ∧ 977 = 974 + 3 := op_159 (rb19 24 rfl) (rb19 25 rfl) (rb19 26 rfl) rfl rfl
theorem dL_law_977 : decode cL_law 977 = .ok (.iconst 0, 1) ∧ 978 = 977 + 1 := op_3 (rb19 27 rfl) rfl
theorem dL_law_978 : decode cL_law 978 = .ok (.ireturn, 1) ∧ 979 = 978 + 1 := op_172 (rb19 28 rfl) rfl
theorem dL_law_979 : decode cL_law 979 = .ok (.iload 6, 2) ∧ 981 = 979 + 2 := op_21 (rb19 29 rfl) (rb19 30 rfl) rfl
theorem dL_law_981 : decode cL_law 981 = .ok (.ifCond .ne 15, 3) ∧ 984 = 981 + 3 := op_154 (rb19 31 rfl) (rb19 32 rfl) (rb19 33 rfl) rfl rfl
theorem dL_law_984 : decode cL_law 984 = .ok (.aload_n 3, 1) ∧ 985 = 984 + 1 := op_45 (rb19 34 rfl) rfl
theorem dL_law_985 : decode cL_law 985 = .ok (.iconst 0, 1) ∧ 986 = 985 + 1 := op_3 (rb19 35 rfl) rfl
theorem dL_law_986 : decode cL_law 986 = .ok (.laload, 1) ∧ 987 = 986 + 1 := op_47 (rb19 36 rfl) rfl
theorem dL_law_987 : decode cL_law 987 = .ok (.iload 7, 2) ∧ 989 = 987 + 2 := op_21 (rb19 37 rfl) (rb19 38 rfl) rfl
theorem dL_law_989 : decode cL_law 989 = .ok (.i2l, 1) ∧ 990 = 989 + 1 := op_133 (rb19 39 rfl) rfl
theorem dL_law_990 : decode cL_law 990 = .ok (.lcmp, 1) ∧ 991 = 990 + 1 := op_148 (rb19 40 rfl) rfl
theorem dL_law_991 : decode cL_law 991 = .ok (.ifCond .eq 5, 3) ∧ 994 = 991 + 3 := op_153 (rb19 41 rfl) (rb19 42 rfl) (rb19 43 rfl) rfl rfl
theorem dL_law_994 : decode cL_law 994 = .ok (.iconst 0, 1) ∧ 995 = 994 + 1 := op_3 (rb19 44 rfl) rfl
theorem dL_law_995 : decode cL_law 995 = .ok (.ireturn, 1) ∧ 996 = 995 + 1 := op_172 (rb19 45 rfl) rfl
theorem dL_law_996 : decode cL_law 996 = .ok (.goto 2064, 3) ∧ 999 = 996 + 3 := op_167 (rb19 46 rfl) (rb19 47 rfl) (rb19 48 rfl) rfl rfl
theorem dL_law_999 : decode cL_law 999 = .ok (.aload_n 1, 1) ∧ 1000 = 999 + 1 := op_43 (rb19 49 rfl) rfl
theorem dL_law_1000 : decode cL_law 1000 = .ok (.aload_n 0, 1) ∧ 1001 = 1000 + 1 := op_42 (rb20 0 rfl) rfl
theorem dL_law_1001 : decode cL_law 1001 = .ok (.iload 5, 2) ∧ 1003 = 1001 + 2 := op_21 (rb20 1 rfl) (rb20 2 rfl) rfl
theorem dL_law_1003 : decode cL_law 1003 = .ok (.iconst 1, 1) ∧ 1004 = 1003 + 1 := op_4 (rb20 3 rfl) rfl
theorem dL_law_1004 : decode cL_law 1004 = .ok (.iadd, 1) ∧ 1005 = 1004 + 1 := op_96 (rb20 4 rfl) rfl
theorem dL_law_1005 : decode cL_law 1005 = .ok (.iaload, 1) ∧ 1006 = 1005 + 1 := op_46 (rb20 5 rfl) rfl
theorem dL_law_1006 : decode cL_law 1006 = .ok (.aload_n 0, 1) ∧ 1007 = 1006 + 1 := op_42 (rb20 6 rfl) rfl
theorem dL_law_1007 : decode cL_law 1007 = .ok (.iload 5, 2) ∧ 1009 = 1007 + 2 := op_21 (rb20 7 rfl) (rb20 8 rfl) rfl
theorem dL_law_1009 : decode cL_law 1009 = .ok (.iconst 2, 1) ∧ 1010 = 1009 + 1 := op_5 (rb20 9 rfl) rfl
theorem dL_law_1010 : decode cL_law 1010 = .ok (.iadd, 1) ∧ 1011 = 1010 + 1 := op_96 (rb20 10 rfl) rfl
theorem dL_law_1011 : decode cL_law 1011 = .ok (.iaload, 1) ∧ 1012 = 1011 + 1 := op_46 (rb20 11 rfl) rfl
theorem dL_law_1012 : decode cL_law 1012 = .ok (.aload_n 3, 1) ∧ 1013 = 1012 + 1 := op_45 (rb20 12 rfl) rfl
theorem dL_law_1013 : decode cL_law 1013 = .ok (.invokestatic 211, 3) ∧ 1016 = 1013 + 3 := op_184 (rb20 13 rfl) (rb20 14 rfl) (rb20 15 rfl) rfl
theorem dL_law_1016 : decode cL_law 1016 = .ok (.istore 6, 2) ∧ 1018 = 1016 + 2 := op_54 (rb20 16 rfl) (rb20 17 rfl) rfl
theorem dL_law_1018 : decode cL_law 1018 = .ok (.aload_n 2, 1) ∧ 1019 = 1018 + 1 := op_44 (rb20 18 rfl) rfl
theorem dL_law_1019 : decode cL_law 1019 = .ok (.aload_n 0, 1) ∧ 1020 = 1019 + 1 := op_42 (rb20 19 rfl) rfl
theorem dL_law_1020 : decode cL_law 1020 = .ok (.iload 5, 2) ∧ 1022 = 1020 + 2 := op_21 (rb20 20 rfl) (rb20 21 rfl) rfl
theorem dL_law_1022 : decode cL_law 1022 = .ok (.iconst 1, 1) ∧ 1023 = 1022 + 1 := op_4 (rb20 22 rfl) rfl
theorem dL_law_1023 : decode cL_law 1023 = .ok (.iadd, 1) ∧ 1024 = 1023 + 1 := op_96 (rb20 23 rfl) rfl
theorem dL_law_1024 : decode cL_law 1024 = .ok (.iaload, 1) ∧ 1025 = 1024 + 1 := op_46 (rb20 24 rfl) rfl
theorem dL_law_1025 : decode cL_law 1025 = .ok (.aload_n 0, 1) ∧ 1026 = 1025 + 1 := op_42 (rb20 25 rfl) rfl
theorem dL_law_1026 : decode cL_law 1026 = .ok (.iload 5, 2) ∧ 1028 = 1026 + 2 := op_21 (rb20 26 rfl) (rb20 27 rfl) rfl
theorem dL_law_1028 : decode cL_law 1028 = .ok (.iconst 2, 1) ∧ 1029 = 1028 + 1 := op_5 (rb20 28 rfl) rfl
theorem dL_law_1029 : decode cL_law 1029 = .ok (.iadd, 1) ∧ 1030 = 1029 + 1 := op_96 (rb20 29 rfl) rfl
theorem dL_law_1030 : decode cL_law 1030 = .ok (.iaload, 1) ∧ 1031 = 1030 + 1 := op_46 (rb20 30 rfl) rfl
theorem dL_law_1031 : decode cL_law 1031 = .ok (.invokevirtual 213, 3) ∧ 1034 = 1031 + 3 := op_182 (rb20 31 rfl) (rb20 32 rfl) (rb20 33 rfl) rfl
theorem dL_law_1034 : decode cL_law 1034 = .ok (.istore 7, 2) ∧ 1036 = 1034 + 2 := op_54 (rb20 34 rfl) (rb20 35 rfl) rfl
theorem dL_law_1036 : decode cL_law 1036 = .ok (.aload_n 2, 1) ∧ 1037 = 1036 + 1 := op_44 (rb20 36 rfl) rfl
theorem dL_law_1037 : decode cL_law 1037 = .ok (.invokevirtual 164, 3) ∧ 1040 = 1037 + 3 := op_182 (rb20 37 rfl) (rb20 38 rfl) (rb20 39 rfl) rfl
theorem dL_law_1040 : decode cL_law 1040 = .ok (.iload 6, 2) ∧ 1042 = 1040 + 2 := op_21 (rb20 40 rfl) (rb20 41 rfl) rfl
theorem dL_law_1042 : decode cL_law 1042 = .ok (.if_icmp .eq 5, 3) ∧ 1045 = 1042 + 3 := op_159 (rb20 42 rfl) (rb20 43 rfl) (rb20 44 rfl) rfl rfl
theorem dL_law_1045 : decode cL_law 1045 = .ok (.iconst 0, 1) ∧ 1046 = 1045 + 1 := op_3 (rb20 45 rfl) rfl
theorem dL_law_1046 : decode cL_law 1046 = .ok (.ireturn, 1) ∧ 1047 = 1046 + 1 := op_172 (rb20 46 rfl) rfl
theorem dL_law_1047 : decode cL_law 1047 = .ok (.iload 6, 2) ∧ 1049 = 1047 + 2 := op_21 (rb20 47 rfl) (rb20 48 rfl) rfl
theorem dL_law_1049 : decode cL_law 1049 = .ok (.ifCond .ne 15, 3) ∧ 1052 = 1049 + 3 := op_154 (rb20 49 rfl) (rb21 0 rfl) (rb21 1 rfl) rfl rfl
theorem dL_law_1052 : decode cL_law 1052 = .ok (.aload_n 3, 1) ∧ 1053 = 1052 + 1 := op_45 (rb21 2 rfl) rfl
theorem dL_law_1053 : decode cL_law 1053 = .ok (.iconst 0, 1) ∧ 1054 = 1053 + 1 := op_3 (rb21 3 rfl) rfl
theorem dL_law_1054 : decode cL_law 1054 = .ok (.laload, 1) ∧ 1055 = 1054 + 1 := op_47 (rb21 4 rfl) rfl
theorem dL_law_1055 : decode cL_law 1055 = .ok (.iload 7, 2) ∧ 1057 = 1055 + 2 := op_21 (rb21 5 rfl) (rb21 6 rfl) rfl
theorem dL_law_1057 : decode cL_law 1057 = .ok (.i2l, 1) ∧ 1058 = 1057 + 1 := op_133 (rb21 7 rfl) rfl
theorem dL_law_1058 : decode cL_law 1058 = .ok (.lcmp, 1) ∧ 1059 = 1058 + 1 := op_148 (rb21 8 rfl) rfl
theorem dL_law_1059 : decode cL_law 1059 = .ok (.ifCond .eq 5, 3) ∧ 1062 = 1059 + 3 := op_153 (rb21 9 rfl) (rb21 10 rfl) (rb21 11 rfl) rfl rfl
theorem dL_law_1062 : decode cL_law 1062 = .ok (.iconst 0, 1) ∧ 1063 = 1062 + 1 := op_3 (rb21 12 rfl) rfl
theorem dL_law_1063 : decode cL_law 1063 = .ok (.ireturn, 1) ∧ 1064 = 1063 + 1 := op_172 (rb21 13 rfl) rfl
theorem dL_law_1064 : decode cL_law 1064 = .ok (.goto 1996, 3) ∧ 1067 = 1064 + 3 := op_167 (rb21 14 rfl) (rb21 15 rfl) (rb21 16 rfl) rfl rfl
theorem dL_law_1067 : decode cL_law 1067 = .ok (.aload_n 1, 1) ∧ 1068 = 1067 + 1 := op_43 (rb21 17 rfl) rfl
theorem dL_law_1068 : decode cL_law 1068 = .ok (.aload_n 0, 1) ∧ 1069 = 1068 + 1 := op_42 (rb21 18 rfl) rfl
theorem dL_law_1069 : decode cL_law 1069 = .ok (.iload 5, 2) ∧ 1071 = 1069 + 2 := op_21 (rb21 19 rfl) (rb21 20 rfl) rfl
theorem dL_law_1071 : decode cL_law 1071 = .ok (.iconst 1, 1) ∧ 1072 = 1071 + 1 := op_4 (rb21 21 rfl) rfl
theorem dL_law_1072 : decode cL_law 1072 = .ok (.iadd, 1) ∧ 1073 = 1072 + 1 := op_96 (rb21 22 rfl) rfl
theorem dL_law_1073 : decode cL_law 1073 = .ok (.iaload, 1) ∧ 1074 = 1073 + 1 := op_46 (rb21 23 rfl) rfl
theorem dL_law_1074 : decode cL_law 1074 = .ok (.aload_n 0, 1) ∧ 1075 = 1074 + 1 := op_42 (rb21 24 rfl) rfl
theorem dL_law_1075 : decode cL_law 1075 = .ok (.iload 5, 2) ∧ 1077 = 1075 + 2 := op_21 (rb21 25 rfl) (rb21 26 rfl) rfl
theorem dL_law_1077 : decode cL_law 1077 = .ok (.iconst 2, 1) ∧ 1078 = 1077 + 1 := op_5 (rb21 27 rfl) rfl
theorem dL_law_1078 : decode cL_law 1078 = .ok (.iadd, 1) ∧ 1079 = 1078 + 1 := op_96 (rb21 28 rfl) rfl
theorem dL_law_1079 : decode cL_law 1079 = .ok (.iaload, 1) ∧ 1080 = 1079 + 1 := op_46 (rb21 29 rfl) rfl
theorem dL_law_1080 : decode cL_law 1080 = .ok (.aload_n 3, 1) ∧ 1081 = 1080 + 1 := op_45 (rb21 30 rfl) rfl
theorem dL_law_1081 : decode cL_law 1081 = .ok (.invokestatic 214, 3) ∧ 1084 = 1081 + 3 := op_184 (rb21 31 rfl) (rb21 32 rfl) (rb21 33 rfl) rfl
theorem dL_law_1084 : decode cL_law 1084 = .ok (.istore 6, 2) ∧ 1086 = 1084 + 2 := op_54 (rb21 34 rfl) (rb21 35 rfl) rfl
theorem dL_law_1086 : decode cL_law 1086 = .ok (.aload_n 2, 1) ∧ 1087 = 1086 + 1 := op_44 (rb21 36 rfl) rfl
theorem dL_law_1087 : decode cL_law 1087 = .ok (.aload_n 0, 1) ∧ 1088 = 1087 + 1 := op_42 (rb21 37 rfl) rfl
theorem dL_law_1088 : decode cL_law 1088 = .ok (.iload 5, 2) ∧ 1090 = 1088 + 2 := op_21 (rb21 38 rfl) (rb21 39 rfl) rfl
theorem dL_law_1090 : decode cL_law 1090 = .ok (.iconst 1, 1) ∧ 1091 = 1090 + 1 := op_4 (rb21 40 rfl) rfl
theorem dL_law_1091 : decode cL_law 1091 = .ok (.iadd, 1) ∧ 1092 = 1091 + 1 := op_96 (rb21 41 rfl) rfl
theorem dL_law_1092 : decode cL_law 1092 = .ok (.iaload, 1) ∧ 1093 = 1092 + 1 := op_46 (rb21 42 rfl) rfl
theorem dL_law_1093 : decode cL_law 1093 = .ok (.aload_n 0, 1) ∧ 1094 = 1093 + 1 := op_42 (rb21 43 rfl) rfl
theorem dL_law_1094 : decode cL_law 1094 = .ok (.iload 5, 2) ∧ 1096 = 1094 + 2 := op_21 (rb21 44 rfl) (rb21 45 rfl) rfl
theorem dL_law_1096 : decode cL_law 1096 = .ok (.iconst 2, 1) ∧ 1097 = 1096 + 1 := op_5 (rb21 46 rfl) rfl
theorem dL_law_1097 : decode cL_law 1097 = .ok (.iadd, 1) ∧ 1098 = 1097 + 1 := op_96 (rb21 47 rfl) rfl
theorem dL_law_1098 : decode cL_law 1098 = .ok (.iaload, 1) ∧ 1099 = 1098 + 1 := op_46 (rb21 48 rfl) rfl
theorem dL_law_1099 : decode cL_law 1099 = .ok (.invokevirtual 216, 3) ∧ 1102 = 1099 + 3 := op_182 (rb21 49 rfl) (rb22 0 rfl) (rb22 1 rfl) rfl
theorem dL_law_1102 : decode cL_law 1102 = .ok (.istore 7, 2) ∧ 1104 = 1102 + 2 := op_54 (rb22 2 rfl) (rb22 3 rfl) rfl
theorem dL_law_1104 : decode cL_law 1104 = .ok (.aload_n 2, 1) ∧ 1105 = 1104 + 1 := op_44 (rb22 4 rfl) rfl
theorem dL_law_1105 : decode cL_law 1105 = .ok (.invokevirtual 164, 3) ∧ 1108 = 1105 + 3 := op_182 (rb22 5 rfl) (rb22 6 rfl) (rb22 7 rfl) rfl
theorem dL_law_1108 : decode cL_law 1108 = .ok (.iload 6, 2) ∧ 1110 = 1108 + 2 := op_21 (rb22 8 rfl) (rb22 9 rfl) rfl
theorem dL_law_1110 : decode cL_law 1110 = .ok (.if_icmp .eq 5, 3) ∧ 1113 = 1110 + 3 := op_159 (rb22 10 rfl) (rb22 11 rfl) (rb22 12 rfl) rfl rfl
theorem dL_law_1113 : decode cL_law 1113 = .ok (.iconst 0, 1) ∧ 1114 = 1113 + 1 := op_3 (rb22 13 rfl) rfl
theorem dL_law_1114 : decode cL_law 1114 = .ok (.ireturn, 1) ∧ 1115 = 1114 + 1 := op_172 (rb22 14 rfl) rfl
theorem dL_law_1115 : decode cL_law 1115 = .ok (.iload 6, 2) ∧ 1117 = 1115 + 2 := op_21 (rb22 15 rfl) (rb22 16 rfl) rfl
theorem dL_law_1117 : decode cL_law 1117 = .ok (.ifCond .ne 15, 3) ∧ 1120 = 1117 + 3 := op_154 (rb22 17 rfl) (rb22 18 rfl) (rb22 19 rfl) rfl rfl
theorem dL_law_1120 : decode cL_law 1120 = .ok (.aload_n 3, 1) ∧ 1121 = 1120 + 1 := op_45 (rb22 20 rfl) rfl
theorem dL_law_1121 : decode cL_law 1121 = .ok (.iconst 0, 1) ∧ 1122 = 1121 + 1 := op_3 (rb22 21 rfl) rfl
theorem dL_law_1122 : decode cL_law 1122 = .ok (.laload, 1) ∧ 1123 = 1122 + 1 := op_47 (rb22 22 rfl) rfl
theorem dL_law_1123 : decode cL_law 1123 = .ok (.iload 7, 2) ∧ 1125 = 1123 + 2 := op_21 (rb22 23 rfl) (rb22 24 rfl) rfl
theorem dL_law_1125 : decode cL_law 1125 = .ok (.i2l, 1) ∧ 1126 = 1125 + 1 := op_133 (rb22 25 rfl) rfl
theorem dL_law_1126 : decode cL_law 1126 = .ok (.lcmp, 1) ∧ 1127 = 1126 + 1 := op_148 (rb22 26 rfl) rfl
theorem dL_law_1127 : decode cL_law 1127 = .ok (.ifCond .eq 5, 3) ∧ 1130 = 1127 + 3 := op_153 (rb22 27 rfl) (rb22 28 rfl) (rb22 29 rfl) rfl rfl
theorem dL_law_1130 : decode cL_law 1130 = .ok (.iconst 0, 1) ∧ 1131 = 1130 + 1 := op_3 (rb22 30 rfl) rfl
theorem dL_law_1131 : decode cL_law 1131 = .ok (.ireturn, 1) ∧ 1132 = 1131 + 1 := op_172 (rb22 31 rfl) rfl
theorem dL_law_1132 : decode cL_law 1132 = .ok (.goto 1928, 3) ∧ 1135 = 1132 + 3 := op_167 (rb22 32 rfl) (rb22 33 rfl) (rb22 34 rfl) rfl rfl
theorem dL_law_1135 : decode cL_law 1135 = .ok (.aload_n 1, 1) ∧ 1136 = 1135 + 1 := op_43 (rb22 35 rfl) rfl
theorem dL_law_1136 : decode cL_law 1136 = .ok (.invokevirtual 217, 3) ∧ 1139 = 1136 + 3 := op_182 (rb22 36 rfl) (rb22 37 rfl) (rb22 38 rfl) rfl
theorem dL_law_1139 : decode cL_law 1139 = .ok (.aload_n 2, 1) ∧ 1140 = 1139 + 1 := op_44 (rb22 39 rfl) rfl
theorem dL_law_1140 : decode cL_law 1140 = .ok (.invokevirtual 220, 3) ∧ 1143 = 1140 + 3 := op_182 (rb22 40 rfl) (rb22 41 rfl) (rb22 42 rfl) rfl
theorem dL_law_1143 : decode cL_law 1143 = .ok (.if_icmp .eq 1917, 3) ∧ 1146 = 1143 + 3 := op_159 (rb22 43 rfl) (rb22 44 rfl) (rb22 45 rfl) rfl rfl
theorem dL_law_1146 : decode cL_law 1146 = .ok (.iconst 0, 1) ∧ 1147 = 1146 + 1 := op_3 (rb22 46 rfl) rfl
theorem dL_law_1147 : decode cL_law 1147 = .ok (.ireturn, 1) ∧ 1148 = 1147 + 1 := op_172 (rb22 47 rfl) rfl
theorem dL_law_1148 : decode cL_law 1148 = .ok (.aload_n 1, 1) ∧ 1149 = 1148 + 1 := op_43 (rb22 48 rfl) rfl
theorem dL_law_1149 : decode cL_law 1149 = .ok (.aload_n 0, 1) ∧ 1150 = 1149 + 1 := op_42 (rb22 49 rfl) rfl
theorem dL_law_1150 : decode cL_law 1150 = .ok (.iload 5, 2) ∧ 1152 = 1150 + 2 := op_21 (rb23 0 rfl) (rb23 1 rfl) rfl
theorem dL_law_1152 : decode cL_law 1152 = .ok (.iconst 1, 1) ∧ 1153 = 1152 + 1 := op_4 (rb23 2 rfl) rfl
theorem dL_law_1153 : decode cL_law 1153 = .ok (.iadd, 1) ∧ 1154 = 1153 + 1 := op_96 (rb23 3 rfl) rfl
theorem dL_law_1154 : decode cL_law 1154 = .ok (.iaload, 1) ∧ 1155 = 1154 + 1 := op_46 (rb23 4 rfl) rfl
theorem dL_law_1155 : decode cL_law 1155 = .ok (.aload_n 3, 1) ∧ 1156 = 1155 + 1 := op_45 (rb23 5 rfl) rfl
theorem dL_law_1156 : decode cL_law 1156 = .ok (.invokestatic 221, 3) ∧ 1159 = 1156 + 3 := op_184 (rb23 6 rfl) (rb23 7 rfl) (rb23 8 rfl) rfl
theorem dL_law_1159 : decode cL_law 1159 = .ok (.istore 6, 2) ∧ 1161 = 1159 + 2 := op_54 (rb23 9 rfl) (rb23 10 rfl) rfl
theorem dL_law_1161 : decode cL_law 1161 = .ok (.aload_n 2, 1) ∧ 1162 = 1161 + 1 := op_44 (rb23 11 rfl) rfl
theorem dL_law_1162 : decode cL_law 1162 = .ok (.aload_n 0, 1) ∧ 1163 = 1162 + 1 := op_42 (rb23 12 rfl) rfl
theorem dL_law_1163 : decode cL_law 1163 = .ok (.iload 5, 2) ∧ 1165 = 1163 + 2 := op_21 (rb23 13 rfl) (rb23 14 rfl) rfl
theorem dL_law_1165 : decode cL_law 1165 = .ok (.iconst 1, 1) ∧ 1166 = 1165 + 1 := op_4 (rb23 15 rfl) rfl
theorem dL_law_1166 : decode cL_law 1166 = .ok (.iadd, 1) ∧ 1167 = 1166 + 1 := op_96 (rb23 16 rfl) rfl
theorem dL_law_1167 : decode cL_law 1167 = .ok (.iaload, 1) ∧ 1168 = 1167 + 1 := op_46 (rb23 17 rfl) rfl
theorem dL_law_1168 : decode cL_law 1168 = .ok (.invokevirtual 223, 3) ∧ 1171 = 1168 + 3 := op_182 (rb23 18 rfl) (rb23 19 rfl) (rb23 20 rfl) rfl
theorem dL_law_1171 : decode cL_law 1171 = .ok (.istore 7, 2) ∧ 1173 = 1171 + 2 := op_54 (rb23 21 rfl) (rb23 22 rfl) rfl
theorem dL_law_1173 : decode cL_law 1173 = .ok (.aload_n 2, 1) ∧ 1174 = 1173 + 1 := op_44 (rb23 23 rfl) rfl
theorem dL_law_1174 : decode cL_law 1174 = .ok (.invokevirtual 164, 3) ∧ 1177 = 1174 + 3 := op_182 (rb23 24 rfl) (rb23 25 rfl) (rb23 26 rfl) rfl
theorem dL_law_1177 : decode cL_law 1177 = .ok (.iload 6, 2) ∧ 1179 = 1177 + 2 := op_21 (rb23 27 rfl) (rb23 28 rfl) rfl
theorem dL_law_1179 : decode cL_law 1179 = .ok (.if_icmp .eq 5, 3) ∧ 1182 = 1179 + 3 := op_159 (rb23 29 rfl) (rb23 30 rfl) (rb23 31 rfl) rfl rfl
theorem dL_law_1182 : decode cL_law 1182 = .ok (.iconst 0, 1) ∧ 1183 = 1182 + 1 := op_3 (rb23 32 rfl) rfl
theorem dL_law_1183 : decode cL_law 1183 = .ok (.ireturn, 1) ∧ 1184 = 1183 + 1 := op_172 (rb23 33 rfl) rfl
theorem dL_law_1184 : decode cL_law 1184 = .ok (.iload 6, 2) ∧ 1186 = 1184 + 2 := op_21 (rb23 34 rfl) (rb23 35 rfl) rfl
theorem dL_law_1186 : decode cL_law 1186 = .ok (.ifCond .ne 15, 3) ∧ 1189 = 1186 + 3 := op_154 (rb23 36 rfl) (rb23 37 rfl) (rb23 38 rfl) rfl rfl
theorem dL_law_1189 : decode cL_law 1189 = .ok (.aload_n 3, 1) ∧ 1190 = 1189 + 1 := op_45 (rb23 39 rfl) rfl
theorem dL_law_1190 : decode cL_law 1190 = .ok (.iconst 0, 1) ∧ 1191 = 1190 + 1 := op_3 (rb23 40 rfl) rfl
theorem dL_law_1191 : decode cL_law 1191 = .ok (.laload, 1) ∧ 1192 = 1191 + 1 := op_47 (rb23 41 rfl) rfl
theorem dL_law_1192 : decode cL_law 1192 = .ok (.iload 7, 2) ∧ 1194 = 1192 + 2 := op_21 (rb23 42 rfl) (rb23 43 rfl) rfl
theorem dL_law_1194 : decode cL_law 1194 = .ok (.i2l, 1) ∧ 1195 = 1194 + 1 := op_133 (rb23 44 rfl) rfl
theorem dL_law_1195 : decode cL_law 1195 = .ok (.lcmp, 1) ∧ 1196 = 1195 + 1 := op_148 (rb23 45 rfl) rfl
theorem dL_law_1196 : decode cL_law 1196 = .ok (.ifCond .eq 5, 3) ∧ 1199 = 1196 + 3 := op_153 (rb23 46 rfl) (rb23 47 rfl) (rb23 48 rfl) rfl rfl
theorem dL_law_1199 : decode cL_law 1199 = .ok (.iconst 0, 1) ∧ 1200 = 1199 + 1 := op_3 (rb23 49 rfl) rfl
theorem dL_law_1200 : decode cL_law 1200 = .ok (.ireturn, 1) ∧ 1201 = 1200 + 1 := op_172 (rb24 0 rfl) rfl
theorem dL_law_1201 : decode cL_law 1201 = .ok (.goto 1859, 3) ∧ 1204 = 1201 + 3 := op_167 (rb24 1 rfl) (rb24 2 rfl) (rb24 3 rfl) rfl rfl
theorem dL_law_1204 : decode cL_law 1204 = .ok (.aload_n 1, 1) ∧ 1205 = 1204 + 1 := op_43 (rb24 4 rfl) rfl
theorem dL_law_1205 : decode cL_law 1205 = .ok (.aload_n 0, 1) ∧ 1206 = 1205 + 1 := op_42 (rb24 5 rfl) rfl
theorem dL_law_1206 : decode cL_law 1206 = .ok (.iload 5, 2) ∧ 1208 = 1206 + 2 := op_21 (rb24 6 rfl) (rb24 7 rfl) rfl
theorem dL_law_1208 : decode cL_law 1208 = .ok (.iconst 1, 1) ∧ 1209 = 1208 + 1 := op_4 (rb24 8 rfl) rfl
theorem dL_law_1209 : decode cL_law 1209 = .ok (.iadd, 1) ∧ 1210 = 1209 + 1 := op_96 (rb24 9 rfl) rfl
theorem dL_law_1210 : decode cL_law 1210 = .ok (.iaload, 1) ∧ 1211 = 1210 + 1 := op_46 (rb24 10 rfl) rfl
theorem dL_law_1211 : decode cL_law 1211 = .ok (.aload_n 0, 1) ∧ 1212 = 1211 + 1 := op_42 (rb24 11 rfl) rfl
theorem dL_law_1212 : decode cL_law 1212 = .ok (.iload 5, 2) ∧ 1214 = 1212 + 2 := op_21 (rb24 12 rfl) (rb24 13 rfl) rfl
theorem dL_law_1214 : decode cL_law 1214 = .ok (.iconst 2, 1) ∧ 1215 = 1214 + 1 := op_5 (rb24 14 rfl) rfl
theorem dL_law_1215 : decode cL_law 1215 = .ok (.iadd, 1) ∧ 1216 = 1215 + 1 := op_96 (rb24 15 rfl) rfl
theorem dL_law_1216 : decode cL_law 1216 = .ok (.iaload, 1) ∧ 1217 = 1216 + 1 := op_46 (rb24 16 rfl) rfl
theorem dL_law_1217 : decode cL_law 1217 = .ok (.aload_n 3, 1) ∧ 1218 = 1217 + 1 := op_45 (rb24 17 rfl) rfl
theorem dL_law_1218 : decode cL_law 1218 = .ok (.invokestatic 224, 3) ∧ 1221 = 1218 + 3 := op_184 (rb24 18 rfl) (rb24 19 rfl) (rb24 20 rfl) rfl
theorem dL_law_1221 : decode cL_law 1221 = .ok (.istore 6, 2) ∧ 1223 = 1221 + 2 := op_54 (rb24 21 rfl) (rb24 22 rfl) rfl
theorem dL_law_1223 : decode cL_law 1223 = .ok (.aload_n 2, 1) ∧ 1224 = 1223 + 1 := op_44 (rb24 23 rfl) rfl
theorem dL_law_1224 : decode cL_law 1224 = .ok (.aload_n 0, 1) ∧ 1225 = 1224 + 1 := op_42 (rb24 24 rfl) rfl
theorem dL_law_1225 : decode cL_law 1225 = .ok (.iload 5, 2) ∧ 1227 = 1225 + 2 := op_21 (rb24 25 rfl) (rb24 26 rfl) rfl
theorem dL_law_1227 : decode cL_law 1227 = .ok (.iconst 1, 1) ∧ 1228 = 1227 + 1 := op_4 (rb24 27 rfl) rfl
theorem dL_law_1228 : decode cL_law 1228 = .ok (.iadd, 1) ∧ 1229 = 1228 + 1 := op_96 (rb24 28 rfl) rfl
theorem dL_law_1229 : decode cL_law 1229 = .ok (.iaload, 1) ∧ 1230 = 1229 + 1 := op_46 (rb24 29 rfl) rfl
theorem dL_law_1230 : decode cL_law 1230 = .ok (.aload_n 0, 1) ∧ 1231 = 1230 + 1 := op_42 (rb24 30 rfl) rfl
theorem dL_law_1231 : decode cL_law 1231 = .ok (.iload 5, 2) ∧ 1233 = 1231 + 2 := op_21 (rb24 31 rfl) (rb24 32 rfl) rfl
theorem dL_law_1233 : decode cL_law 1233 = .ok (.iconst 2, 1) ∧ 1234 = 1233 + 1 := op_5 (rb24 33 rfl) rfl
theorem dL_law_1234 : decode cL_law 1234 = .ok (.iadd, 1) ∧ 1235 = 1234 + 1 := op_96 (rb24 34 rfl) rfl
theorem dL_law_1235 : decode cL_law 1235 = .ok (.iaload, 1) ∧ 1236 = 1235 + 1 := op_46 (rb24 35 rfl) rfl
theorem dL_law_1236 : decode cL_law 1236 = .ok (.invokevirtual 226, 3) ∧ 1239 = 1236 + 3 := op_182 (rb24 36 rfl) (rb24 37 rfl) (rb24 38 rfl) rfl
theorem dL_law_1239 : decode cL_law 1239 = .ok (.istore 7, 2) ∧ 1241 = 1239 + 2 := op_54 (rb24 39 rfl) (rb24 40 rfl) rfl
theorem dL_law_1241 : decode cL_law 1241 = .ok (.aload_n 2, 1) ∧ 1242 = 1241 + 1 := op_44 (rb24 41 rfl) rfl
theorem dL_law_1242 : decode cL_law 1242 = .ok (.invokevirtual 164, 3) ∧ 1245 = 1242 + 3 := op_182 (rb24 42 rfl) (rb24 43 rfl) (rb24 44 rfl) rfl
theorem dL_law_1245 : decode cL_law 1245 = .ok (.iload 6, 2) ∧ 1247 = 1245 + 2 := op_21 (rb24 45 rfl) (rb24 46 rfl) rfl
theorem dL_law_1247 : decode cL_law 1247 = .ok (.if_icmp .eq 5, 3) ∧ 1250 = 1247 + 3 := op_159 (rb24 47 rfl) (rb24 48 rfl) (rb24 49 rfl) rfl rfl
theorem dL_law_1250 : decode cL_law 1250 = .ok (.iconst 0, 1) ∧ 1251 = 1250 + 1 := op_3 (rb25 0 rfl) rfl
theorem dL_law_1251 : decode cL_law 1251 = .ok (.ireturn, 1) ∧ 1252 = 1251 + 1 := op_172 (rb25 1 rfl) rfl
theorem dL_law_1252 : decode cL_law 1252 = .ok (.iload 6, 2) ∧ 1254 = 1252 + 2 := op_21 (rb25 2 rfl) (rb25 3 rfl) rfl
theorem dL_law_1254 : decode cL_law 1254 = .ok (.ifCond .ne 15, 3) ∧ 1257 = 1254 + 3 := op_154 (rb25 4 rfl) (rb25 5 rfl) (rb25 6 rfl) rfl rfl
theorem dL_law_1257 : decode cL_law 1257 = .ok (.aload_n 3, 1) ∧ 1258 = 1257 + 1 := op_45 (rb25 7 rfl) rfl
theorem dL_law_1258 : decode cL_law 1258 = .ok (.iconst 0, 1) ∧ 1259 = 1258 + 1 := op_3 (rb25 8 rfl) rfl
theorem dL_law_1259 : decode cL_law 1259 = .ok (.laload, 1) ∧ 1260 = 1259 + 1 := op_47 (rb25 9 rfl) rfl
theorem dL_law_1260 : decode cL_law 1260 = .ok (.iload 7, 2) ∧ 1262 = 1260 + 2 := op_21 (rb25 10 rfl) (rb25 11 rfl) rfl
theorem dL_law_1262 : decode cL_law 1262 = .ok (.i2l, 1) ∧ 1263 = 1262 + 1 := op_133 (rb25 12 rfl) rfl
theorem dL_law_1263 : decode cL_law 1263 = .ok (.lcmp, 1) ∧ 1264 = 1263 + 1 := op_148 (rb25 13 rfl) rfl
theorem dL_law_1264 : decode cL_law 1264 = .ok (.ifCond .eq 5, 3) ∧ 1267 = 1264 + 3 := op_153 (rb25 14 rfl) (rb25 15 rfl) (rb25 16 rfl) rfl rfl
theorem dL_law_1267 : decode cL_law 1267 = .ok (.iconst 0, 1) ∧ 1268 = 1267 + 1 := op_3 (rb25 17 rfl) rfl
theorem dL_law_1268 : decode cL_law 1268 = .ok (.ireturn, 1) ∧ 1269 = 1268 + 1 := op_172 (rb25 18 rfl) rfl
theorem dL_law_1269 : decode cL_law 1269 = .ok (.goto 1791, 3) ∧ 1272 = 1269 + 3 := op_167 (rb25 19 rfl) (rb25 20 rfl) (rb25 21 rfl) rfl rfl
theorem dL_law_1272 : decode cL_law 1272 = .ok (.aload_n 1, 1) ∧ 1273 = 1272 + 1 := op_43 (rb25 22 rfl) rfl
theorem dL_law_1273 : decode cL_law 1273 = .ok (.aload_n 0, 1) ∧ 1274 = 1273 + 1 := op_42 (rb25 23 rfl) rfl
theorem dL_law_1274 : decode cL_law 1274 = .ok (.iload 5, 2) ∧ 1276 = 1274 + 2 := op_21 (rb25 24 rfl) (rb25 25 rfl) rfl
theorem dL_law_1276 : decode cL_law 1276 = .ok (.iconst 1, 1) ∧ 1277 = 1276 + 1 := op_4 (rb25 26 rfl) rfl
theorem dL_law_1277 : decode cL_law 1277 = .ok (.iadd, 1) ∧ 1278 = 1277 + 1 := op_96 (rb25 27 rfl) rfl
theorem dL_law_1278 : decode cL_law 1278 = .ok (.iaload, 1) ∧ 1279 = 1278 + 1 := op_46 (rb25 28 rfl) rfl
theorem dL_law_1279 : decode cL_law 1279 = .ok (.aload_n 3, 1) ∧ 1280 = 1279 + 1 := op_45 (rb25 29 rfl) rfl
theorem dL_law_1280 : decode cL_law 1280 = .ok (.invokestatic 227, 3) ∧ 1283 = 1280 + 3 := op_184 (rb25 30 rfl) (rb25 31 rfl) (rb25 32 rfl) rfl
theorem dL_law_1283 : decode cL_law 1283 = .ok (.istore 6, 2) ∧ 1285 = 1283 + 2 := op_54 (rb25 33 rfl) (rb25 34 rfl) rfl
theorem dL_law_1285 : decode cL_law 1285 = .ok (.aload_n 2, 1) ∧ 1286 = 1285 + 1 := op_44 (rb25 35 rfl) rfl
theorem dL_law_1286 : decode cL_law 1286 = .ok (.aload_n 0, 1) ∧ 1287 = 1286 + 1 := op_42 (rb25 36 rfl) rfl
theorem dL_law_1287 : decode cL_law 1287 = .ok (.iload 5, 2) ∧ 1289 = 1287 + 2 := op_21 (rb25 37 rfl) (rb25 38 rfl) rfl
theorem dL_law_1289 : decode cL_law 1289 = .ok (.iconst 1, 1) ∧ 1290 = 1289 + 1 := op_4 (rb25 39 rfl) rfl
theorem dL_law_1290 : decode cL_law 1290 = .ok (.iadd, 1) ∧ 1291 = 1290 + 1 := op_96 (rb25 40 rfl) rfl
theorem dL_law_1291 : decode cL_law 1291 = .ok (.iaload, 1) ∧ 1292 = 1291 + 1 := op_46 (rb25 41 rfl) rfl
theorem dL_law_1292 : decode cL_law 1292 = .ok (.invokevirtual 229, 3) ∧ 1295 = 1292 + 3 := op_182 (rb25 42 rfl) (rb25 43 rfl) (rb25 44 rfl) rfl
theorem dL_law_1295 : decode cL_law 1295 = .ok (.lstore 7, 2) ∧ 1297 = 1295 + 2 := op_55 (rb25 45 rfl) (rb25 46 rfl) rfl
theorem dL_law_1297 : decode cL_law 1297 = .ok (.aload_n 2, 1) ∧ 1298 = 1297 + 1 := op_44 (rb25 47 rfl) rfl
theorem dL_law_1298 : decode cL_law 1298 = .ok (.invokevirtual 164, 3) ∧ 1301 = 1298 + 3 := op_182 (rb25 48 rfl) (rb25 49 rfl) (rb26 0 rfl) rfl
theorem dL_law_1301 : decode cL_law 1301 = .ok (.iload 6, 2) ∧ 1303 = 1301 + 2 := op_21 (rb26 1 rfl) (rb26 2 rfl) rfl
theorem dL_law_1303 : decode cL_law 1303 = .ok (.if_icmp .eq 5, 3) ∧ 1306 = 1303 + 3 := op_159 (rb26 3 rfl) (rb26 4 rfl) (rb26 5 rfl) rfl rfl
theorem dL_law_1306 : decode cL_law 1306 = .ok (.iconst 0, 1) ∧ 1307 = 1306 + 1 := op_3 (rb26 6 rfl) rfl
theorem dL_law_1307 : decode cL_law 1307 = .ok (.ireturn, 1) ∧ 1308 = 1307 + 1 := op_172 (rb26 7 rfl) rfl
theorem dL_law_1308 : decode cL_law 1308 = .ok (.iload 6, 2) ∧ 1310 = 1308 + 2 := op_21 (rb26 8 rfl) (rb26 9 rfl) rfl
theorem dL_law_1310 : decode cL_law 1310 = .ok (.ifCond .ne 14, 3) ∧ 1313 = 1310 + 3 := op_154 (rb26 10 rfl) (rb26 11 rfl) (rb26 12 rfl) rfl rfl
theorem dL_law_1313 : decode cL_law 1313 = .ok (.aload_n 3, 1) ∧ 1314 = 1313 + 1 := op_45 (rb26 13 rfl) rfl
theorem dL_law_1314 : decode cL_law 1314 = .ok (.iconst 0, 1) ∧ 1315 = 1314 + 1 := op_3 (rb26 14 rfl) rfl
theorem dL_law_1315 : decode cL_law 1315 = .ok (.laload, 1) ∧ 1316 = 1315 + 1 := op_47 (rb26 15 rfl) rfl
theorem dL_law_1316 : decode cL_law 1316 = .ok (.lload 7, 2) ∧ 1318 = 1316 + 2 := op_22 (rb26 16 rfl) (rb26 17 rfl) rfl
theorem dL_law_1318 : decode cL_law 1318 = .ok (.lcmp, 1) ∧ 1319 = 1318 + 1 := op_148 (rb26 18 rfl) rfl
theorem dL_law_1319 : decode cL_law 1319 = .ok (.ifCond .eq 5, 3) ∧ 1322 = 1319 + 3 := op_153 (rb26 19 rfl) (rb26 20 rfl) (rb26 21 rfl) rfl rfl
theorem dL_law_1322 : decode cL_law 1322 = .ok (.iconst 0, 1) ∧ 1323 = 1322 + 1 := op_3 (rb26 22 rfl) rfl
theorem dL_law_1323 : decode cL_law 1323 = .ok (.ireturn, 1) ∧ 1324 = 1323 + 1 := op_172 (rb26 23 rfl) rfl
theorem dL_law_1324 : decode cL_law 1324 = .ok (.goto 1736, 3) ∧ 1327 = 1324 + 3 := op_167 (rb26 24 rfl) (rb26 25 rfl) (rb26 26 rfl) rfl rfl
theorem dL_law_1327 : decode cL_law 1327 = .ok (.aload_n 1, 1) ∧ 1328 = 1327 + 1 := op_43 (rb26 27 rfl) rfl
theorem dL_law_1328 : decode cL_law 1328 = .ok (.aload_n 0, 1) ∧ 1329 = 1328 + 1 := op_42 (rb26 28 rfl) rfl
theorem dL_law_1329 : decode cL_law 1329 = .ok (.iload 5, 2) ∧ 1331 = 1329 + 2 := op_21 (rb26 29 rfl) (rb26 30 rfl) rfl
theorem dL_law_1331 : decode cL_law 1331 = .ok (.iconst 1, 1) ∧ 1332 = 1331 + 1 := op_4 (rb26 31 rfl) rfl
theorem dL_law_1332 : decode cL_law 1332 = .ok (.iadd, 1) ∧ 1333 = 1332 + 1 := op_96 (rb26 32 rfl) rfl
theorem dL_law_1333 : decode cL_law 1333 = .ok (.iaload, 1) ∧ 1334 = 1333 + 1 := op_46 (rb26 33 rfl) rfl
theorem dL_law_1334 : decode cL_law 1334 = .ok (.aload_n 0, 1) ∧ 1335 = 1334 + 1 := op_42 (rb26 34 rfl) rfl
theorem dL_law_1335 : decode cL_law 1335 = .ok (.iload 5, 2) ∧ 1337 = 1335 + 2 := op_21 (rb26 35 rfl) (rb26 36 rfl) rfl
theorem dL_law_1337 : decode cL_law 1337 = .ok (.iconst 2, 1) ∧ 1338 = 1337 + 1 := op_5 (rb26 37 rfl) rfl
theorem dL_law_1338 : decode cL_law 1338 = .ok (.iadd, 1) ∧ 1339 = 1338 + 1 := op_96 (rb26 38 rfl) rfl
theorem dL_law_1339 : decode cL_law 1339 = .ok (.iaload, 1) ∧ 1340 = 1339 + 1 := op_46 (rb26 39 rfl) rfl
theorem dL_law_1340 : decode cL_law 1340 = .ok (.aload_n 3, 1) ∧ 1341 = 1340 + 1 := op_45 (rb26 40 rfl) rfl
theorem dL_law_1341 : decode cL_law 1341 = .ok (.invokestatic 230, 3) ∧ 1344 = 1341 + 3 := op_184 (rb26 41 rfl) (rb26 42 rfl) (rb26 43 rfl) rfl
theorem dL_law_1344 : decode cL_law 1344 = .ok (.istore 6, 2) ∧ 1346 = 1344 + 2 := op_54 (rb26 44 rfl) (rb26 45 rfl) rfl
theorem dL_law_1346 : decode cL_law 1346 = .ok (.aload_n 2, 1) ∧ 1347 = 1346 + 1 := op_44 (rb26 46 rfl) rfl
theorem dL_law_1347 : decode cL_law 1347 = .ok (.aload_n 0, 1) ∧ 1348 = 1347 + 1 := op_42 (rb26 47 rfl) rfl
theorem dL_law_1348 : decode cL_law 1348 = .ok (.iload 5, 2) ∧ 1350 = 1348 + 2 := op_21 (rb26 48 rfl) (rb26 49 rfl) rfl
theorem dL_law_1350 : decode cL_law 1350 = .ok (.iconst 1, 1) ∧ 1351 = 1350 + 1 := op_4 (rb27 0 rfl) rfl
theorem dL_law_1351 : decode cL_law 1351 = .ok (.iadd, 1) ∧ 1352 = 1351 + 1 := op_96 (rb27 1 rfl) rfl
theorem dL_law_1352 : decode cL_law 1352 = .ok (.iaload, 1) ∧ 1353 = 1352 + 1 := op_46 (rb27 2 rfl) rfl
theorem dL_law_1353 : decode cL_law 1353 = .ok (.aload_n 0, 1) ∧ 1354 = 1353 + 1 := op_42 (rb27 3 rfl) rfl
theorem dL_law_1354 : decode cL_law 1354 = .ok (.iload 5, 2) ∧ 1356 = 1354 + 2 := op_21 (rb27 4 rfl) (rb27 5 rfl) rfl
theorem dL_law_1356 : decode cL_law 1356 = .ok (.iconst 2, 1) ∧ 1357 = 1356 + 1 := op_5 (rb27 6 rfl) rfl
theorem dL_law_1357 : decode cL_law 1357 = .ok (.iadd, 1) ∧ 1358 = 1357 + 1 := op_96 (rb27 7 rfl) rfl
theorem dL_law_1358 : decode cL_law 1358 = .ok (.iaload, 1) ∧ 1359 = 1358 + 1 := op_46 (rb27 8 rfl) rfl
theorem dL_law_1359 : decode cL_law 1359 = .ok (.invokevirtual 232, 3) ∧ 1362 = 1359 + 3 := op_182 (rb27 9 rfl) (rb27 10 rfl) (rb27 11 rfl) rfl
theorem dL_law_1362 : decode cL_law 1362 = .ok (.istore 7, 2) ∧ 1364 = 1362 + 2 := op_54 (rb27 12 rfl) (rb27 13 rfl) rfl
theorem dL_law_1364 : decode cL_law 1364 = .ok (.aload_n 2, 1) ∧ 1365 = 1364 + 1 := op_44 (rb27 14 rfl) rfl
theorem dL_law_1365 : decode cL_law 1365 = .ok (.invokevirtual 164, 3) ∧ 1368 = 1365 + 3 := op_182 (rb27 15 rfl) (rb27 16 rfl) (rb27 17 rfl) rfl
theorem dL_law_1368 : decode cL_law 1368 = .ok (.iload 6, 2) ∧ 1370 = 1368 + 2 := op_21 (rb27 18 rfl) (rb27 19 rfl) rfl
theorem dL_law_1370 : decode cL_law 1370 = .ok (.if_icmp .eq 5, 3) ∧ 1373 = 1370 + 3 := op_159 (rb27 20 rfl) (rb27 21 rfl) (rb27 22 rfl) rfl rfl
theorem dL_law_1373 : decode cL_law 1373 = .ok (.iconst 0, 1) ∧ 1374 = 1373 + 1 := op_3 (rb27 23 rfl) rfl
theorem dL_law_1374 : decode cL_law 1374 = .ok (.ireturn, 1) ∧ 1375 = 1374 + 1 := op_172 (rb27 24 rfl) rfl
theorem dL_law_1375 : decode cL_law 1375 = .ok (.iload 6, 2) ∧ 1377 = 1375 + 2 := op_21 (rb27 25 rfl) (rb27 26 rfl) rfl
theorem dL_law_1377 : decode cL_law 1377 = .ok (.ifCond .ne 15, 3) ∧ 1380 = 1377 + 3 := op_154 (rb27 27 rfl) (rb27 28 rfl) (rb27 29 rfl) rfl rfl
theorem dL_law_1380 : decode cL_law 1380 = .ok (.aload_n 3, 1) ∧ 1381 = 1380 + 1 := op_45 (rb27 30 rfl) rfl
theorem dL_law_1381 : decode cL_law 1381 = .ok (.iconst 0, 1) ∧ 1382 = 1381 + 1 := op_3 (rb27 31 rfl) rfl
theorem dL_law_1382 : decode cL_law 1382 = .ok (.laload, 1) ∧ 1383 = 1382 + 1 := op_47 (rb27 32 rfl) rfl
theorem dL_law_1383 : decode cL_law 1383 = .ok (.iload 7, 2) ∧ 1385 = 1383 + 2 := op_21 (rb27 33 rfl) (rb27 34 rfl) rfl
theorem dL_law_1385 : decode cL_law 1385 = .ok (.i2l, 1) ∧ 1386 = 1385 + 1 := op_133 (rb27 35 rfl) rfl
theorem dL_law_1386 : decode cL_law 1386 = .ok (.lcmp, 1) ∧ 1387 = 1386 + 1 := op_148 (rb27 36 rfl) rfl
theorem dL_law_1387 : decode cL_law 1387 = .ok (.ifCond .eq 5, 3) ∧ 1390 = 1387 + 3 := op_153 (rb27 37 rfl) (rb27 38 rfl) (rb27 39 rfl) rfl rfl
theorem dL_law_1390 : decode cL_law 1390 = .ok (.iconst 0, 1) ∧ 1391 = 1390 + 1 := op_3 (rb27 40 rfl) rfl
theorem dL_law_1391 : decode cL_law 1391 = .ok (.ireturn, 1) ∧ 1392 = 1391 + 1 := op_172 (rb27 41 rfl) rfl
theorem dL_law_1392 : decode cL_law 1392 = .ok (.goto 1668, 3) ∧ 1395 = 1392 + 3 := op_167 (rb27 42 rfl) (rb27 43 rfl) (rb27 44 rfl) rfl rfl
theorem dL_law_1395 : decode cL_law 1395 = .ok (.aload_n 1, 1) ∧ 1396 = 1395 + 1 := op_43 (rb27 45 rfl) rfl
theorem dL_law_1396 : decode cL_law 1396 = .ok (.aload_n 0, 1) ∧ 1397 = 1396 + 1 := op_42 (rb27 46 rfl) rfl
theorem dL_law_1397 : decode cL_law 1397 = .ok (.iload 5, 2) ∧ 1399 = 1397 + 2 := op_21 (rb27 47 rfl) (rb27 48 rfl) rfl
theorem dL_law_1399 : decode cL_law 1399 = .ok (.iconst 1, 1) ∧ 1400 = 1399 + 1 := op_4 (rb27 49 rfl) rfl
theorem dL_law_1400 : decode cL_law 1400 = .ok (.iadd, 1) ∧ 1401 = 1400 + 1 := op_96 (rb28 0 rfl) rfl
theorem dL_law_1401 : decode cL_law 1401 = .ok (.iaload, 1) ∧ 1402 = 1401 + 1 := op_46 (rb28 1 rfl) rfl
theorem dL_law_1402 : decode cL_law 1402 = .ok (.aload_n 0, 1) ∧ 1403 = 1402 + 1 := op_42 (rb28 2 rfl) rfl
theorem dL_law_1403 : decode cL_law 1403 = .ok (.iload 5, 2) ∧ 1405 = 1403 + 2 := op_21 (rb28 3 rfl) (rb28 4 rfl) rfl
theorem dL_law_1405 : decode cL_law 1405 = .ok (.iconst 2, 1) ∧ 1406 = 1405 + 1 := op_5 (rb28 5 rfl) rfl
theorem dL_law_1406 : decode cL_law 1406 = .ok (.iadd, 1) ∧ 1407 = 1406 + 1 := op_96 (rb28 6 rfl) rfl
theorem dL_law_1407 : decode cL_law 1407 = .ok (.iaload, 1) ∧ 1408 = 1407 + 1 := op_46 (rb28 7 rfl) rfl
theorem dL_law_1408 : decode cL_law 1408 = .ok (.aload_n 3, 1) ∧ 1409 = 1408 + 1 := op_45 (rb28 8 rfl) rfl
theorem dL_law_1409 : decode cL_law 1409 = .ok (.invokestatic 233, 3) ∧ 1412 = 1409 + 3 := op_184 (rb28 9 rfl) (rb28 10 rfl) (rb28 11 rfl) rfl
theorem dL_law_1412 : decode cL_law 1412 = .ok (.istore 6, 2) ∧ 1414 = 1412 + 2 := op_54 (rb28 12 rfl) (rb28 13 rfl) rfl
theorem dL_law_1414 : decode cL_law 1414 = .ok (.aload_n 2, 1) ∧ 1415 = 1414 + 1 := op_44 (rb28 14 rfl) rfl
theorem dL_law_1415 : decode cL_law 1415 = .ok (.aload_n 0, 1) ∧ 1416 = 1415 + 1 := op_42 (rb28 15 rfl) rfl
theorem dL_law_1416 : decode cL_law 1416 = .ok (.iload 5, 2) ∧ 1418 = 1416 + 2 := op_21 (rb28 16 rfl) (rb28 17 rfl) rfl
theorem dL_law_1418 : decode cL_law 1418 = .ok (.iconst 1, 1) ∧ 1419 = 1418 + 1 := op_4 (rb28 18 rfl) rfl
theorem dL_law_1419 : decode cL_law 1419 = .ok (.iadd, 1) ∧ 1420 = 1419 + 1 := op_96 (rb28 19 rfl) rfl
theorem dL_law_1420 : decode cL_law 1420 = .ok (.iaload, 1) ∧ 1421 = 1420 + 1 := op_46 (rb28 20 rfl) rfl
theorem dL_law_1421 : decode cL_law 1421 = .ok (.aload_n 0, 1) ∧ 1422 = 1421 + 1 := op_42 (rb28 21 rfl) rfl
theorem dL_law_1422 : decode cL_law 1422 = .ok (.iload 5, 2) ∧ 1424 = 1422 + 2 := op_21 (rb28 22 rfl) (rb28 23 rfl) rfl
theorem dL_law_1424 : decode cL_law 1424 = .ok (.iconst 2, 1) ∧ 1425 = 1424 + 1 := op_5 (rb28 24 rfl) rfl
theorem dL_law_1425 : decode cL_law 1425 = .ok (.iadd, 1) ∧ 1426 = 1425 + 1 := op_96 (rb28 25 rfl) rfl
theorem dL_law_1426 : decode cL_law 1426 = .ok (.iaload, 1) ∧ 1427 = 1426 + 1 := op_46 (rb28 26 rfl) rfl
theorem dL_law_1427 : decode cL_law 1427 = .ok (.invokevirtual 235, 3) ∧ 1430 = 1427 + 3 := op_182 (rb28 27 rfl) (rb28 28 rfl) (rb28 29 rfl) rfl
theorem dL_law_1430 : decode cL_law 1430 = .ok (.istore 7, 2) ∧ 1432 = 1430 + 2 := op_54 (rb28 30 rfl) (rb28 31 rfl) rfl
theorem dL_law_1432 : decode cL_law 1432 = .ok (.aload_n 2, 1) ∧ 1433 = 1432 + 1 := op_44 (rb28 32 rfl) rfl
theorem dL_law_1433 : decode cL_law 1433 = .ok (.invokevirtual 164, 3) ∧ 1436 = 1433 + 3 := op_182 (rb28 33 rfl) (rb28 34 rfl) (rb28 35 rfl) rfl
theorem dL_law_1436 : decode cL_law 1436 = .ok (.iload 6, 2) ∧ 1438 = 1436 + 2 := op_21 (rb28 36 rfl) (rb28 37 rfl) rfl
theorem dL_law_1438 : decode cL_law 1438 = .ok (.if_icmp .eq 5, 3) ∧ 1441 = 1438 + 3 := op_159 (rb28 38 rfl) (rb28 39 rfl) (rb28 40 rfl) rfl rfl
theorem dL_law_1441 : decode cL_law 1441 = .ok (.iconst 0, 1) ∧ 1442 = 1441 + 1 := op_3 (rb28 41 rfl) rfl
theorem dL_law_1442 : decode cL_law 1442 = .ok (.ireturn, 1) ∧ 1443 = 1442 + 1 := op_172 (rb28 42 rfl) rfl
theorem dL_law_1443 : decode cL_law 1443 = .ok (.iload 6, 2) ∧ 1445 = 1443 + 2 := op_21 (rb28 43 rfl) (rb28 44 rfl) rfl
theorem dL_law_1445 : decode cL_law 1445 = .ok (.ifCond .ne 15, 3) ∧ 1448 = 1445 + 3 := op_154 (rb28 45 rfl) (rb28 46 rfl) (rb28 47 rfl) rfl rfl
theorem dL_law_1448 : decode cL_law 1448 = .ok (.aload_n 3, 1) ∧ 1449 = 1448 + 1 := op_45 (rb28 48 rfl) rfl
theorem dL_law_1449 : decode cL_law 1449 = .ok (.iconst 0, 1) ∧ 1450 = 1449 + 1 := op_3 (rb28 49 rfl) rfl
theorem dL_law_1450 : decode cL_law 1450 = .ok (.laload, 1) ∧ 1451 = 1450 + 1 := op_47 (rb29 0 rfl) rfl
theorem dL_law_1451 : decode cL_law 1451 = .ok (.iload 7, 2) ∧ 1453 = 1451 + 2 := op_21 (rb29 1 rfl) (rb29 2 rfl) rfl
theorem dL_law_1453 : decode cL_law 1453 = .ok (.i2l, 1) ∧ 1454 = 1453 + 1 := op_133 (rb29 3 rfl) rfl
theorem dL_law_1454 : decode cL_law 1454 = .ok (.lcmp, 1) ∧ 1455 = 1454 + 1 := op_148 (rb29 4 rfl) rfl
theorem dL_law_1455 : decode cL_law 1455 = .ok (.ifCond .eq 5, 3) ∧ 1458 = 1455 + 3 := op_153 (rb29 5 rfl) (rb29 6 rfl) (rb29 7 rfl) rfl rfl
theorem dL_law_1458 : decode cL_law 1458 = .ok (.iconst 0, 1) ∧ 1459 = 1458 + 1 := op_3 (rb29 8 rfl) rfl
theorem dL_law_1459 : decode cL_law 1459 = .ok (.ireturn, 1) ∧ 1460 = 1459 + 1 := op_172 (rb29 9 rfl) rfl
theorem dL_law_1460 : decode cL_law 1460 = .ok (.goto 1600, 3) ∧ 1463 = 1460 + 3 := op_167 (rb29 10 rfl) (rb29 11 rfl) (rb29 12 rfl) rfl rfl
theorem dL_law_1463 : decode cL_law 1463 = .ok (.aload_n 1, 1) ∧ 1464 = 1463 + 1 := op_43 (rb29 13 rfl) rfl
theorem dL_law_1464 : decode cL_law 1464 = .ok (.aload_n 0, 1) ∧ 1465 = 1464 + 1 := op_42 (rb29 14 rfl) rfl
theorem dL_law_1465 : decode cL_law 1465 = .ok (.iload 5, 2) ∧ 1467 = 1465 + 2 := op_21 (rb29 15 rfl) (rb29 16 rfl) rfl
theorem dL_law_1467 : decode cL_law 1467 = .ok (.iconst 1, 1) ∧ 1468 = 1467 + 1 := op_4 (rb29 17 rfl) rfl
theorem dL_law_1468 : decode cL_law 1468 = .ok (.iadd, 1) ∧ 1469 = 1468 + 1 := op_96 (rb29 18 rfl) rfl
theorem dL_law_1469 : decode cL_law 1469 = .ok (.iaload, 1) ∧ 1470 = 1469 + 1 := op_46 (rb29 19 rfl) rfl
theorem dL_law_1470 : decode cL_law 1470 = .ok (.aload_n 0, 1) ∧ 1471 = 1470 + 1 := op_42 (rb29 20 rfl) rfl
theorem dL_law_1471 : decode cL_law 1471 = .ok (.iload 5, 2) ∧ 1473 = 1471 + 2 := op_21 (rb29 21 rfl) (rb29 22 rfl) rfl
theorem dL_law_1473 : decode cL_law 1473 = .ok (.iconst 2, 1) ∧ 1474 = 1473 + 1 := op_5 (rb29 23 rfl) rfl
theorem dL_law_1474 : decode cL_law 1474 = .ok (.iadd, 1) ∧ 1475 = 1474 + 1 := op_96 (rb29 24 rfl) rfl
theorem dL_law_1475 : decode cL_law 1475 = .ok (.iaload, 1) ∧ 1476 = 1475 + 1 := op_46 (rb29 25 rfl) rfl
theorem dL_law_1476 : decode cL_law 1476 = .ok (.aload_n 3, 1) ∧ 1477 = 1476 + 1 := op_45 (rb29 26 rfl) rfl
theorem dL_law_1477 : decode cL_law 1477 = .ok (.invokestatic 236, 3) ∧ 1480 = 1477 + 3 := op_184 (rb29 27 rfl) (rb29 28 rfl) (rb29 29 rfl) rfl
theorem dL_law_1480 : decode cL_law 1480 = .ok (.istore 6, 2) ∧ 1482 = 1480 + 2 := op_54 (rb29 30 rfl) (rb29 31 rfl) rfl
theorem dL_law_1482 : decode cL_law 1482 = .ok (.aload_n 2, 1) ∧ 1483 = 1482 + 1 := op_44 (rb29 32 rfl) rfl
theorem dL_law_1483 : decode cL_law 1483 = .ok (.aload_n 0, 1) ∧ 1484 = 1483 + 1 := op_42 (rb29 33 rfl) rfl
theorem dL_law_1484 : decode cL_law 1484 = .ok (.iload 5, 2) ∧ 1486 = 1484 + 2 := op_21 (rb29 34 rfl) (rb29 35 rfl) rfl
theorem dL_law_1486 : decode cL_law 1486 = .ok (.iconst 1, 1) ∧ 1487 = 1486 + 1 := op_4 (rb29 36 rfl) rfl
theorem dL_law_1487 : decode cL_law 1487 = .ok (.iadd, 1) ∧ 1488 = 1487 + 1 := op_96 (rb29 37 rfl) rfl
theorem dL_law_1488 : decode cL_law 1488 = .ok (.iaload, 1) ∧ 1489 = 1488 + 1 := op_46 (rb29 38 rfl) rfl
theorem dL_law_1489 : decode cL_law 1489 = .ok (.aload_n 0, 1) ∧ 1490 = 1489 + 1 := op_42 (rb29 39 rfl) rfl
theorem dL_law_1490 : decode cL_law 1490 = .ok (.iload 5, 2) ∧ 1492 = 1490 + 2 := op_21 (rb29 40 rfl) (rb29 41 rfl) rfl
theorem dL_law_1492 : decode cL_law 1492 = .ok (.iconst 2, 1) ∧ 1493 = 1492 + 1 := op_5 (rb29 42 rfl) rfl
theorem dL_law_1493 : decode cL_law 1493 = .ok (.iadd, 1) ∧ 1494 = 1493 + 1 := op_96 (rb29 43 rfl) rfl
theorem dL_law_1494 : decode cL_law 1494 = .ok (.iaload, 1) ∧ 1495 = 1494 + 1 := op_46 (rb29 44 rfl) rfl
theorem dL_law_1495 : decode cL_law 1495 = .ok (.invokevirtual 238, 3) ∧ 1498 = 1495 + 3 := op_182 (rb29 45 rfl) (rb29 46 rfl) (rb29 47 rfl) rfl
theorem dL_law_1498 : decode cL_law 1498 = .ok (.istore 7, 2) ∧ 1500 = 1498 + 2 := op_54 (rb29 48 rfl) (rb29 49 rfl) rfl
theorem dL_law_1500 : decode cL_law 1500 = .ok (.aload_n 2, 1) ∧ 1501 = 1500 + 1 := op_44 (rb30 0 rfl) rfl
theorem dL_law_1501 : decode cL_law 1501 = .ok (.invokevirtual 164, 3) ∧ 1504 = 1501 + 3 := op_182 (rb30 1 rfl) (rb30 2 rfl) (rb30 3 rfl) rfl
theorem dL_law_1504 : decode cL_law 1504 = .ok (.iload 6, 2) ∧ 1506 = 1504 + 2 := op_21 (rb30 4 rfl) (rb30 5 rfl) rfl
theorem dL_law_1506 : decode cL_law 1506 = .ok (.if_icmp .eq 5, 3) ∧ 1509 = 1506 + 3 := op_159 (rb30 6 rfl) (rb30 7 rfl) (rb30 8 rfl) rfl rfl
theorem dL_law_1509 : decode cL_law 1509 = .ok (.iconst 0, 1) ∧ 1510 = 1509 + 1 := op_3 (rb30 9 rfl) rfl
theorem dL_law_1510 : decode cL_law 1510 = .ok (.ireturn, 1) ∧ 1511 = 1510 + 1 := op_172 (rb30 10 rfl) rfl
theorem dL_law_1511 : decode cL_law 1511 = .ok (.iload 6, 2) ∧ 1513 = 1511 + 2 := op_21 (rb30 11 rfl) (rb30 12 rfl) rfl
theorem dL_law_1513 : decode cL_law 1513 = .ok (.ifCond .ne 15, 3) ∧ 1516 = 1513 + 3 := op_154 (rb30 13 rfl) (rb30 14 rfl) (rb30 15 rfl) rfl rfl
theorem dL_law_1516 : decode cL_law 1516 = .ok (.aload_n 3, 1) ∧ 1517 = 1516 + 1 := op_45 (rb30 16 rfl) rfl
theorem dL_law_1517 : decode cL_law 1517 = .ok (.iconst 0, 1) ∧ 1518 = 1517 + 1 := op_3 (rb30 17 rfl) rfl
theorem dL_law_1518 : decode cL_law 1518 = .ok (.laload, 1) ∧ 1519 = 1518 + 1 := op_47 (rb30 18 rfl) rfl
theorem dL_law_1519 : decode cL_law 1519 = .ok (.iload 7, 2) ∧ 1521 = 1519 + 2 := op_21 (rb30 19 rfl) (rb30 20 rfl) rfl
theorem dL_law_1521 : decode cL_law 1521 = .ok (.i2l, 1) ∧ 1522 = 1521 + 1 := op_133 (rb30 21 rfl) rfl
theorem dL_law_1522 : decode cL_law 1522 = .ok (.lcmp, 1) ∧ 1523 = 1522 + 1 := op_148 (rb30 22 rfl) rfl
theorem dL_law_1523 : decode cL_law 1523 = .ok (.ifCond .eq 5, 3) ∧ 1526 = 1523 + 3 := op_153 (rb30 23 rfl) (rb30 24 rfl) (rb30 25 rfl) rfl rfl
theorem dL_law_1526 : decode cL_law 1526 = .ok (.iconst 0, 1) ∧ 1527 = 1526 + 1 := op_3 (rb30 26 rfl) rfl
theorem dL_law_1527 : decode cL_law 1527 = .ok (.ireturn, 1) ∧ 1528 = 1527 + 1 := op_172 (rb30 27 rfl) rfl
theorem dL_law_1528 : decode cL_law 1528 = .ok (.goto 1532, 3) ∧ 1531 = 1528 + 3 := op_167 (rb30 28 rfl) (rb30 29 rfl) (rb30 30 rfl) rfl rfl
theorem dL_law_1531 : decode cL_law 1531 = .ok (.aload_n 1, 1) ∧ 1532 = 1531 + 1 := op_43 (rb30 31 rfl) rfl
theorem dL_law_1532 : decode cL_law 1532 = .ok (.aload_n 0, 1) ∧ 1533 = 1532 + 1 := op_42 (rb30 32 rfl) rfl
theorem dL_law_1533 : decode cL_law 1533 = .ok (.iload 5, 2) ∧ 1535 = 1533 + 2 := op_21 (rb30 33 rfl) (rb30 34 rfl) rfl
theorem dL_law_1535 : decode cL_law 1535 = .ok (.iconst 1, 1) ∧ 1536 = 1535 + 1 := op_4 (rb30 35 rfl) rfl
theorem dL_law_1536 : decode cL_law 1536 = .ok (.iadd, 1) ∧ 1537 = 1536 + 1 := op_96 (rb30 36 rfl) rfl
theorem dL_law_1537 : decode cL_law 1537 = .ok (.iaload, 1) ∧ 1538 = 1537 + 1 := op_46 (rb30 37 rfl) rfl
theorem dL_law_1538 : decode cL_law 1538 = .ok (.aload_n 0, 1) ∧ 1539 = 1538 + 1 := op_42 (rb30 38 rfl) rfl
theorem dL_law_1539 : decode cL_law 1539 = .ok (.iload 5, 2) ∧ 1541 = 1539 + 2 := op_21 (rb30 39 rfl) (rb30 40 rfl) rfl
theorem dL_law_1541 : decode cL_law 1541 = .ok (.iconst 2, 1) ∧ 1542 = 1541 + 1 := op_5 (rb30 41 rfl) rfl
theorem dL_law_1542 : decode cL_law 1542 = .ok (.iadd, 1) ∧ 1543 = 1542 + 1 := op_96 (rb30 42 rfl) rfl
theorem dL_law_1543 : decode cL_law 1543 = .ok (.iaload, 1) ∧ 1544 = 1543 + 1 := op_46 (rb30 43 rfl) rfl
theorem dL_law_1544 : decode cL_law 1544 = .ok (.aload_n 3, 1) ∧ 1545 = 1544 + 1 := op_45 (rb30 44 rfl) rfl
theorem dL_law_1545 : decode cL_law 1545 = .ok (.invokestatic 239, 3) ∧ 1548 = 1545 + 3 := op_184 (rb30 45 rfl) (rb30 46 rfl) (rb30 47 rfl) rfl
theorem dL_law_1548 : decode cL_law 1548 = .ok (.istore 6, 2) ∧ 1550 = 1548 + 2 := op_54 (rb30 48 rfl) (rb30 49 rfl) rfl
theorem dL_law_1550 : decode cL_law 1550 = .ok (.aload_n 2, 1) ∧ 1551 = 1550 + 1 := op_44 (rb31 0 rfl) rfl
theorem dL_law_1551 : decode cL_law 1551 = .ok (.aload_n 0, 1) ∧ 1552 = 1551 + 1 := op_42 (rb31 1 rfl) rfl
theorem dL_law_1552 : decode cL_law 1552 = .ok (.iload 5, 2) ∧ 1554 = 1552 + 2 := op_21 (rb31 2 rfl) (rb31 3 rfl) rfl
theorem dL_law_1554 : decode cL_law 1554 = .ok (.iconst 1, 1) ∧ 1555 = 1554 + 1 := op_4 (rb31 4 rfl) rfl
theorem dL_law_1555 : decode cL_law 1555 = .ok (.iadd, 1) ∧ 1556 = 1555 + 1 := op_96 (rb31 5 rfl) rfl
theorem dL_law_1556 : decode cL_law 1556 = .ok (.iaload, 1) ∧ 1557 = 1556 + 1 := op_46 (rb31 6 rfl) rfl
theorem dL_law_1557 : decode cL_law 1557 = .ok (.aload_n 0, 1) ∧ 1558 = 1557 + 1 := op_42 (rb31 7 rfl) rfl
theorem dL_law_1558 : decode cL_law 1558 = .ok (.iload 5, 2) ∧ 1560 = 1558 + 2 := op_21 (rb31 8 rfl) (rb31 9 rfl) rfl
theorem dL_law_1560 : decode cL_law 1560 = .ok (.iconst 2, 1) ∧ 1561 = 1560 + 1 := op_5 (rb31 10 rfl) rfl
theorem dL_law_1561 : decode cL_law 1561 = .ok (.iadd, 1) ∧ 1562 = 1561 + 1 := op_96 (rb31 11 rfl) rfl
theorem dL_law_1562 : decode cL_law 1562 = .ok (.iaload, 1) ∧ 1563 = 1562 + 1 := op_46 (rb31 12 rfl) rfl
theorem dL_law_1563 : decode cL_law 1563 = .ok (.invokevirtual 241, 3) ∧ 1566 = 1563 + 3 := op_182 (rb31 13 rfl) (rb31 14 rfl) (rb31 15 rfl) rfl
theorem dL_law_1566 : decode cL_law 1566 = .ok (.istore 7, 2) ∧ 1568 = 1566 + 2 := op_54 (rb31 16 rfl) (rb31 17 rfl) rfl
theorem dL_law_1568 : decode cL_law 1568 = .ok (.aload_n 2, 1) ∧ 1569 = 1568 + 1 := op_44 (rb31 18 rfl) rfl
theorem dL_law_1569 : decode cL_law 1569 = .ok (.invokevirtual 164, 3) ∧ 1572 = 1569 + 3 := op_182 (rb31 19 rfl) (rb31 20 rfl) (rb31 21 rfl) rfl
theorem dL_law_1572 : decode cL_law 1572 = .ok (.iload 6, 2) ∧ 1574 = 1572 + 2 := op_21 (rb31 22 rfl) (rb31 23 rfl) rfl
theorem dL_law_1574 : decode cL_law 1574 = .ok (.if_icmp .eq 5, 3) ∧ 1577 = 1574 + 3 := op_159 (rb31 24 rfl) (rb31 25 rfl) (rb31 26 rfl) rfl rfl
theorem dL_law_1577 : decode cL_law 1577 = .ok (.iconst 0, 1) ∧ 1578 = 1577 + 1 := op_3 (rb31 27 rfl) rfl
theorem dL_law_1578 : decode cL_law 1578 = .ok (.ireturn, 1) ∧ 1579 = 1578 + 1 := op_172 (rb31 28 rfl) rfl
theorem dL_law_1579 : decode cL_law 1579 = .ok (.iload 6, 2) ∧ 1581 = 1579 + 2 := op_21 (rb31 29 rfl) (rb31 30 rfl) rfl
theorem dL_law_1581 : decode cL_law 1581 = .ok (.ifCond .ne 15, 3) ∧ 1584 = 1581 + 3 := op_154 (rb31 31 rfl) (rb31 32 rfl) (rb31 33 rfl) rfl rfl
theorem dL_law_1584 : decode cL_law 1584 = .ok (.aload_n 3, 1) ∧ 1585 = 1584 + 1 := op_45 (rb31 34 rfl) rfl
theorem dL_law_1585 : decode cL_law 1585 = .ok (.iconst 0, 1) ∧ 1586 = 1585 + 1 := op_3 (rb31 35 rfl) rfl
theorem dL_law_1586 : decode cL_law 1586 = .ok (.laload, 1) ∧ 1587 = 1586 + 1 := op_47 (rb31 36 rfl) rfl
theorem dL_law_1587 : decode cL_law 1587 = .ok (.iload 7, 2) ∧ 1589 = 1587 + 2 := op_21 (rb31 37 rfl) (rb31 38 rfl) rfl
theorem dL_law_1589 : decode cL_law 1589 = .ok (.i2l, 1) ∧ 1590 = 1589 + 1 := op_133 (rb31 39 rfl) rfl
theorem dL_law_1590 : decode cL_law 1590 = .ok (.lcmp, 1) ∧ 1591 = 1590 + 1 := op_148 (rb31 40 rfl) rfl
theorem dL_law_1591 : decode cL_law 1591 = .ok (.ifCond .eq 5, 3) ∧ 1594 = 1591 + 3 := op_153 (rb31 41 rfl) (rb31 42 rfl) (rb31 43 rfl) rfl rfl
theorem dL_law_1594 : decode cL_law 1594 = .ok (.iconst 0, 1) ∧ 1595 = 1594 + 1 := op_3 (rb31 44 rfl) rfl
theorem dL_law_1595 : decode cL_law 1595 = .ok (.ireturn, 1) ∧ 1596 = 1595 + 1 := op_172 (rb31 45 rfl) rfl
theorem dL_law_1596 : decode cL_law 1596 = .ok (.goto 1464, 3) ∧ 1599 = 1596 + 3 := op_167 (rb31 46 rfl) (rb31 47 rfl) (rb31 48 rfl) rfl rfl
theorem dL_law_1599 : decode cL_law 1599 = .ok (.aload_n 1, 1) ∧ 1600 = 1599 + 1 := op_43 (rb31 49 rfl) rfl
theorem dL_law_1600 : decode cL_law 1600 = .ok (.aload_n 0, 1) ∧ 1601 = 1600 + 1 := op_42 (rb32 0 rfl) rfl
theorem dL_law_1601 : decode cL_law 1601 = .ok (.iload 5, 2) ∧ 1603 = 1601 + 2 := op_21 (rb32 1 rfl) (rb32 2 rfl) rfl
theorem dL_law_1603 : decode cL_law 1603 = .ok (.iconst 1, 1) ∧ 1604 = 1603 + 1 := op_4 (rb32 3 rfl) rfl
theorem dL_law_1604 : decode cL_law 1604 = .ok (.iadd, 1) ∧ 1605 = 1604 + 1 := op_96 (rb32 4 rfl) rfl
theorem dL_law_1605 : decode cL_law 1605 = .ok (.iaload, 1) ∧ 1606 = 1605 + 1 := op_46 (rb32 5 rfl) rfl
theorem dL_law_1606 : decode cL_law 1606 = .ok (.aload_n 0, 1) ∧ 1607 = 1606 + 1 := op_42 (rb32 6 rfl) rfl
theorem dL_law_1607 : decode cL_law 1607 = .ok (.iload 5, 2) ∧ 1609 = 1607 + 2 := op_21 (rb32 7 rfl) (rb32 8 rfl) rfl
theorem dL_law_1609 : decode cL_law 1609 = .ok (.iconst 2, 1) ∧ 1610 = 1609 + 1 := op_5 (rb32 9 rfl) rfl
theorem dL_law_1610 : decode cL_law 1610 = .ok (.iadd, 1) ∧ 1611 = 1610 + 1 := op_96 (rb32 10 rfl) rfl
theorem dL_law_1611 : decode cL_law 1611 = .ok (.iaload, 1) ∧ 1612 = 1611 + 1 := op_46 (rb32 11 rfl) rfl
theorem dL_law_1612 : decode cL_law 1612 = .ok (.ifCond .eq 7, 3) ∧ 1615 = 1612 + 3 := op_153 (rb32 12 rfl) (rb32 13 rfl) (rb32 14 rfl) rfl rfl
theorem dL_law_1615 : decode cL_law 1615 = .ok (.iconst 1, 1) ∧ 1616 = 1615 + 1 := op_4 (rb32 15 rfl) rfl
theorem dL_law_1616 : decode cL_law 1616 = .ok (.goto 4, 3) ∧ 1619 = 1616 + 3 := op_167 (rb32 16 rfl) (rb32 17 rfl) (rb32 18 rfl) rfl rfl
theorem dL_law_1619 : decode cL_law 1619 = .ok (.iconst 0, 1) ∧ 1620 = 1619 + 1 := op_3 (rb32 19 rfl) rfl
theorem dL_law_1620 : decode cL_law 1620 = .ok (.aload_n 3, 1) ∧ 1621 = 1620 + 1 := op_45 (rb32 20 rfl) rfl
theorem dL_law_1621 : decode cL_law 1621 = .ok (.invokestatic 242, 3) ∧ 1624 = 1621 + 3 := op_184 (rb32 21 rfl) (rb32 22 rfl) (rb32 23 rfl) rfl
theorem dL_law_1624 : decode cL_law 1624 = .ok (.istore 6, 2) ∧ 1626 = 1624 + 2 := op_54 (rb32 24 rfl) (rb32 25 rfl) rfl
theorem dL_law_1626 : decode cL_law 1626 = .ok (.aload_n 2, 1) ∧ 1627 = 1626 + 1 := op_44 (rb32 26 rfl) rfl
theorem dL_law_1627 : decode cL_law 1627 = .ok (.aload_n 0, 1) ∧ 1628 = 1627 + 1 := op_42 (rb32 27 rfl) rfl
theorem dL_law_1628 : decode cL_law 1628 = .ok (.iload 5, 2) ∧ 1630 = 1628 + 2 := op_21 (rb32 28 rfl) (rb32 29 rfl) rfl
theorem dL_law_1630 : decode cL_law 1630 = .ok (.iconst 1, 1) ∧ 1631 = 1630 + 1 := op_4 (rb32 30 rfl) rfl
theorem dL_law_1631 : decode cL_law 1631 = .ok (.iadd, 1) ∧ 1632 = 1631 + 1 := op_96 (rb32 31 rfl) rfl
theorem dL_law_1632 : decode cL_law 1632 = .ok (.iaload, 1) ∧ 1633 = 1632 + 1 := op_46 (rb32 32 rfl) rfl
theorem dL_law_1633 : decode cL_law 1633 = .ok (.aload_n 0, 1) ∧ 1634 = 1633 + 1 := op_42 (rb32 33 rfl) rfl
theorem dL_law_1634 : decode cL_law 1634 = .ok (.iload 5, 2) ∧ 1636 = 1634 + 2 := op_21 (rb32 34 rfl) (rb32 35 rfl) rfl
theorem dL_law_1636 : decode cL_law 1636 = .ok (.iconst 2, 1) ∧ 1637 = 1636 + 1 := op_5 (rb32 36 rfl) rfl
theorem dL_law_1637 : decode cL_law 1637 = .ok (.iadd, 1) ∧ 1638 = 1637 + 1 := op_96 (rb32 37 rfl) rfl
theorem dL_law_1638 : decode cL_law 1638 = .ok (.iaload, 1) ∧ 1639 = 1638 + 1 := op_46 (rb32 38 rfl) rfl
theorem dL_law_1639 : decode cL_law 1639 = .ok (.ifCond .eq 7, 3) ∧ 1642 = 1639 + 3 := op_153 (rb32 39 rfl) (rb32 40 rfl) (rb32 41 rfl) rfl rfl
theorem dL_law_1642 : decode cL_law 1642 = .ok (.iconst 1, 1) ∧ 1643 = 1642 + 1 := op_4 (rb32 42 rfl) rfl
theorem dL_law_1643 : decode cL_law 1643 = .ok (.goto 4, 3) ∧ 1646 = 1643 + 3 := op_167 (rb32 43 rfl) (rb32 44 rfl) (rb32 45 rfl) rfl rfl
theorem dL_law_1646 : decode cL_law 1646 = .ok (.iconst 0, 1) ∧ 1647 = 1646 + 1 := op_3 (rb32 46 rfl) rfl
theorem dL_law_1647 : decode cL_law 1647 = .ok (.invokevirtual 245, 3) ∧ 1650 = 1647 + 3 := op_182 (rb32 47 rfl) (rb32 48 rfl) (rb32 49 rfl) rfl
theorem dL_law_1650 : decode cL_law 1650 = .ok (.lstore 7, 2) ∧ 1652 = 1650 + 2 := op_55 (rb33 0 rfl) (rb33 1 rfl) rfl
theorem dL_law_1652 : decode cL_law 1652 = .ok (.aload_n 2, 1) ∧ 1653 = 1652 + 1 := op_44 (rb33 2 rfl) rfl
theorem dL_law_1653 : decode cL_law 1653 = .ok (.invokevirtual 164, 3) ∧ 1656 = 1653 + 3 := op_182 (rb33 3 rfl) (rb33 4 rfl) (rb33 5 rfl) rfl
theorem dL_law_1656 : decode cL_law 1656 = .ok (.iload 6, 2) ∧ 1658 = 1656 + 2 := op_21 (rb33 6 rfl) (rb33 7 rfl) rfl
theorem dL_law_1658 : decode cL_law 1658 = .ok (.if_icmp .eq 5, 3) ∧ 1661 = 1658 + 3 := op_159 (rb33 8 rfl) (rb33 9 rfl) (rb33 10 rfl) rfl rfl
theorem dL_law_1661 : decode cL_law 1661 = .ok (.iconst 0, 1) ∧ 1662 = 1661 + 1 := op_3 (rb33 11 rfl) rfl
theorem dL_law_1662 : decode cL_law 1662 = .ok (.ireturn, 1) ∧ 1663 = 1662 + 1 := op_172 (rb33 12 rfl) rfl
theorem dL_law_1663 : decode cL_law 1663 = .ok (.iload 6, 2) ∧ 1665 = 1663 + 2 := op_21 (rb33 13 rfl) (rb33 14 rfl) rfl
theorem dL_law_1665 : decode cL_law 1665 = .ok (.ifCond .ne 14, 3) ∧ 1668 = 1665 + 3 := op_154 (rb33 15 rfl) (rb33 16 rfl) (rb33 17 rfl) rfl rfl
theorem dL_law_1668 : decode cL_law 1668 = .ok (.aload_n 3, 1) ∧ 1669 = 1668 + 1 := op_45 (rb33 18 rfl) rfl
theorem dL_law_1669 : decode cL_law 1669 = .ok (.iconst 0, 1) ∧ 1670 = 1669 + 1 := op_3 (rb33 19 rfl) rfl
theorem dL_law_1670 : decode cL_law 1670 = .ok (.laload, 1) ∧ 1671 = 1670 + 1 := op_47 (rb33 20 rfl) rfl
theorem dL_law_1671 : decode cL_law 1671 = .ok (.lload 7, 2) ∧ 1673 = 1671 + 2 := op_22 (rb33 21 rfl) (rb33 22 rfl) rfl
theorem dL_law_1673 : decode cL_law 1673 = .ok (.lcmp, 1) ∧ 1674 = 1673 + 1 := op_148 (rb33 23 rfl) rfl
theorem dL_law_1674 : decode cL_law 1674 = .ok (.ifCond .eq 5, 3) ∧ 1677 = 1674 + 3 := op_153 (rb33 24 rfl) (rb33 25 rfl) (rb33 26 rfl) rfl rfl
theorem dL_law_1677 : decode cL_law 1677 = .ok (.iconst 0, 1) ∧ 1678 = 1677 + 1 := op_3 (rb33 27 rfl) rfl
theorem dL_law_1678 : decode cL_law 1678 = .ok (.ireturn, 1) ∧ 1679 = 1678 + 1 := op_172 (rb33 28 rfl) rfl
theorem dL_law_1679 : decode cL_law 1679 = .ok (.goto 1381, 3) ∧ 1682 = 1679 + 3 := op_167 (rb33 29 rfl) (rb33 30 rfl) (rb33 31 rfl) rfl rfl
theorem dL_law_1682 : decode cL_law 1682 = .ok (.aload_n 1, 1) ∧ 1683 = 1682 + 1 := op_43 (rb33 32 rfl) rfl
theorem dL_law_1683 : decode cL_law 1683 = .ok (.aload_n 0, 1) ∧ 1684 = 1683 + 1 := op_42 (rb33 33 rfl) rfl
theorem dL_law_1684 : decode cL_law 1684 = .ok (.iload 5, 2) ∧ 1686 = 1684 + 2 := op_21 (rb33 34 rfl) (rb33 35 rfl) rfl
theorem dL_law_1686 : decode cL_law 1686 = .ok (.iconst 1, 1) ∧ 1687 = 1686 + 1 := op_4 (rb33 36 rfl) rfl
theorem dL_law_1687 : decode cL_law 1687 = .ok (.iadd, 1) ∧ 1688 = 1687 + 1 := op_96 (rb33 37 rfl) rfl
theorem dL_law_1688 : decode cL_law 1688 = .ok (.iaload, 1) ∧ 1689 = 1688 + 1 := op_46 (rb33 38 rfl) rfl
theorem dL_law_1689 : decode cL_law 1689 = .ok (.aload_n 3, 1) ∧ 1690 = 1689 + 1 := op_45 (rb33 39 rfl) rfl
theorem dL_law_1690 : decode cL_law 1690 = .ok (.invokestatic 246, 3) ∧ 1693 = 1690 + 3 := op_184 (rb33 40 rfl) (rb33 41 rfl) (rb33 42 rfl) rfl
theorem dL_law_1693 : decode cL_law 1693 = .ok (.istore 6, 2) ∧ 1695 = 1693 + 2 := op_54 (rb33 43 rfl) (rb33 44 rfl) rfl
theorem dL_law_1695 : decode cL_law 1695 = .ok (.aload_n 2, 1) ∧ 1696 = 1695 + 1 := op_44 (rb33 45 rfl) rfl
theorem dL_law_1696 : decode cL_law 1696 = .ok (.aload_n 0, 1) ∧ 1697 = 1696 + 1 := op_42 (rb33 46 rfl) rfl
theorem dL_law_1697 : decode cL_law 1697 = .ok (.iload 5, 2) ∧ 1699 = 1697 + 2 := op_21 (rb33 47 rfl) (rb33 48 rfl) rfl
theorem dL_law_1699 : decode cL_law 1699 = .ok (.iconst 1, 1) ∧ 1700 = 1699 + 1 := op_4 (rb33 49 rfl) rfl
theorem dL_law_1700 : decode cL_law 1700 = .ok (.iadd, 1) ∧ 1701 = 1700 + 1 := op_96 (rb34 0 rfl) rfl
theorem dL_law_1701 : decode cL_law 1701 = .ok (.iaload, 1) ∧ 1702 = 1701 + 1 := op_46 (rb34 1 rfl) rfl
theorem dL_law_1702 : decode cL_law 1702 = .ok (.invokevirtual 248, 3) ∧ 1705 = 1702 + 3 := op_182 (rb34 2 rfl) (rb34 3 rfl) (rb34 4 rfl) rfl
theorem dL_law_1705 : decode cL_law 1705 = .ok (.istore 7, 2) ∧ 1707 = 1705 + 2 := op_54 (rb34 5 rfl) (rb34 6 rfl) rfl
theorem dL_law_1707 : decode cL_law 1707 = .ok (.aload_n 2, 1) ∧ 1708 = 1707 + 1 := op_44 (rb34 7 rfl) rfl
theorem dL_law_1708 : decode cL_law 1708 = .ok (.invokevirtual 164, 3) ∧ 1711 = 1708 + 3 := op_182 (rb34 8 rfl) (rb34 9 rfl) (rb34 10 rfl) rfl
theorem dL_law_1711 : decode cL_law 1711 = .ok (.iload 6, 2) ∧ 1713 = 1711 + 2 := op_21 (rb34 11 rfl) (rb34 12 rfl) rfl
theorem dL_law_1713 : decode cL_law 1713 = .ok (.if_icmp .eq 5, 3) ∧ 1716 = 1713 + 3 := op_159 (rb34 13 rfl) (rb34 14 rfl) (rb34 15 rfl) rfl rfl
theorem dL_law_1716 : decode cL_law 1716 = .ok (.iconst 0, 1) ∧ 1717 = 1716 + 1 := op_3 (rb34 16 rfl) rfl
theorem dL_law_1717 : decode cL_law 1717 = .ok (.ireturn, 1) ∧ 1718 = 1717 + 1 := op_172 (rb34 17 rfl) rfl
theorem dL_law_1718 : decode cL_law 1718 = .ok (.iload 6, 2) ∧ 1720 = 1718 + 2 := op_21 (rb34 18 rfl) (rb34 19 rfl) rfl
theorem dL_law_1720 : decode cL_law 1720 = .ok (.ifCond .ne 15, 3) ∧ 1723 = 1720 + 3 := op_154 (rb34 20 rfl) (rb34 21 rfl) (rb34 22 rfl) rfl rfl
theorem dL_law_1723 : decode cL_law 1723 = .ok (.aload_n 3, 1) ∧ 1724 = 1723 + 1 := op_45 (rb34 23 rfl) rfl
theorem dL_law_1724 : decode cL_law 1724 = .ok (.iconst 0, 1) ∧ 1725 = 1724 + 1 := op_3 (rb34 24 rfl) rfl
theorem dL_law_1725 : decode cL_law 1725 = .ok (.laload, 1) ∧ 1726 = 1725 + 1 := op_47 (rb34 25 rfl) rfl
theorem dL_law_1726 : decode cL_law 1726 = .ok (.iload 7, 2) ∧ 1728 = 1726 + 2 := op_21 (rb34 26 rfl) (rb34 27 rfl) rfl
theorem dL_law_1728 : decode cL_law 1728 = .ok (.i2l, 1) ∧ 1729 = 1728 + 1 := op_133 (rb34 28 rfl) rfl
theorem dL_law_1729 : decode cL_law 1729 = .ok (.lcmp, 1) ∧ 1730 = 1729 + 1 := op_148 (rb34 29 rfl) rfl
theorem dL_law_1730 : decode cL_law 1730 = .ok (.ifCond .eq 5, 3) ∧ 1733 = 1730 + 3 := op_153 (rb34 30 rfl) (rb34 31 rfl) (rb34 32 rfl) rfl rfl
theorem dL_law_1733 : decode cL_law 1733 = .ok (.iconst 0, 1) ∧ 1734 = 1733 + 1 := op_3 (rb34 33 rfl) rfl
theorem dL_law_1734 : decode cL_law 1734 = .ok (.ireturn, 1) ∧ 1735 = 1734 + 1 := op_172 (rb34 34 rfl) rfl
theorem dL_law_1735 : decode cL_law 1735 = .ok (.goto 1325, 3) ∧ 1738 = 1735 + 3 := op_167 (rb34 35 rfl) (rb34 36 rfl) (rb34 37 rfl) rfl rfl
theorem dL_law_1738 : decode cL_law 1738 = .ok (.aload_n 1, 1) ∧ 1739 = 1738 + 1 := op_43 (rb34 38 rfl) rfl
theorem dL_law_1739 : decode cL_law 1739 = .ok (.aload_n 0, 1) ∧ 1740 = 1739 + 1 := op_42 (rb34 39 rfl) rfl
theorem dL_law_1740 : decode cL_law 1740 = .ok (.iload 5, 2) ∧ 1742 = 1740 + 2 := op_21 (rb34 40 rfl) (rb34 41 rfl) rfl
theorem dL_law_1742 : decode cL_law 1742 = .ok (.iconst 1, 1) ∧ 1743 = 1742 + 1 := op_4 (rb34 42 rfl) rfl
theorem dL_law_1743 : decode cL_law 1743 = .ok (.iadd, 1) ∧ 1744 = 1743 + 1 := op_96 (rb34 43 rfl) rfl
theorem dL_law_1744 : decode cL_law 1744 = .ok (.iaload, 1) ∧ 1745 = 1744 + 1 := op_46 (rb34 44 rfl) rfl
theorem dL_law_1745 : decode cL_law 1745 = .ok (.aload_n 3, 1) ∧ 1746 = 1745 + 1 := op_45 (rb34 45 rfl) rfl
theorem dL_law_1746 : decode cL_law 1746 = .ok (.invokestatic 249, 3) ∧ 1749 = 1746 + 3 := op_184 (rb34 46 rfl) (rb34 47 rfl) (rb34 48 rfl) rfl
theorem dL_law_1749 : decode cL_law 1749 = .ok (.istore 6, 2) ∧ 1751 = 1749 + 2 := op_54 (rb34 49 rfl) (rb35 0 rfl) rfl
theorem dL_law_1751 : decode cL_law 1751 = .ok (.aload_n 2, 1) ∧ 1752 = 1751 + 1 := op_44 (rb35 1 rfl) rfl
theorem dL_law_1752 : decode cL_law 1752 = .ok (.aload_n 0, 1) ∧ 1753 = 1752 + 1 := op_42 (rb35 2 rfl) rfl
theorem dL_law_1753 : decode cL_law 1753 = .ok (.iload 5, 2) ∧ 1755 = 1753 + 2 := op_21 (rb35 3 rfl) (rb35 4 rfl) rfl
theorem dL_law_1755 : decode cL_law 1755 = .ok (.iconst 1, 1) ∧ 1756 = 1755 + 1 := op_4 (rb35 5 rfl) rfl
theorem dL_law_1756 : decode cL_law 1756 = .ok (.iadd, 1) ∧ 1757 = 1756 + 1 := op_96 (rb35 6 rfl) rfl
theorem dL_law_1757 : decode cL_law 1757 = .ok (.iaload, 1) ∧ 1758 = 1757 + 1 := op_46 (rb35 7 rfl) rfl
theorem dL_law_1758 : decode cL_law 1758 = .ok (.invokevirtual 251, 3) ∧ 1761 = 1758 + 3 := op_182 (rb35 8 rfl) (rb35 9 rfl) (rb35 10 rfl) rfl
theorem dL_law_1761 : decode cL_law 1761 = .ok (.istore 7, 2) ∧ 1763 = 1761 + 2 := op_54 (rb35 11 rfl) (rb35 12 rfl) rfl
theorem dL_law_1763 : decode cL_law 1763 = .ok (.aload_n 2, 1) ∧ 1764 = 1763 + 1 := op_44 (rb35 13 rfl) rfl
theorem dL_law_1764 : decode cL_law 1764 = .ok (.invokevirtual 164, 3) ∧ 1767 = 1764 + 3 := op_182 (rb35 14 rfl) (rb35 15 rfl) (rb35 16 rfl) rfl
theorem dL_law_1767 : decode cL_law 1767 = .ok (.iload 6, 2) ∧ 1769 = 1767 + 2 := op_21 (rb35 17 rfl) (rb35 18 rfl) rfl
theorem dL_law_1769 : decode cL_law 1769 = .ok (.if_icmp .eq 5, 3) ∧ 1772 = 1769 + 3 := op_159 (rb35 19 rfl) (rb35 20 rfl) (rb35 21 rfl) rfl rfl
theorem dL_law_1772 : decode cL_law 1772 = .ok (.iconst 0, 1) ∧ 1773 = 1772 + 1 := op_3 (rb35 22 rfl) rfl
theorem dL_law_1773 : decode cL_law 1773 = .ok (.ireturn, 1) ∧ 1774 = 1773 + 1 := op_172 (rb35 23 rfl) rfl
theorem dL_law_1774 : decode cL_law 1774 = .ok (.iload 6, 2) ∧ 1776 = 1774 + 2 := op_21 (rb35 24 rfl) (rb35 25 rfl) rfl
theorem dL_law_1776 : decode cL_law 1776 = .ok (.ifCond .ne 15, 3) ∧ 1779 = 1776 + 3 := op_154 (rb35 26 rfl) (rb35 27 rfl) (rb35 28 rfl) rfl rfl
theorem dL_law_1779 : decode cL_law 1779 = .ok (.aload_n 3, 1) ∧ 1780 = 1779 + 1 := op_45 (rb35 29 rfl) rfl
theorem dL_law_1780 : decode cL_law 1780 = .ok (.iconst 0, 1) ∧ 1781 = 1780 + 1 := op_3 (rb35 30 rfl) rfl
theorem dL_law_1781 : decode cL_law 1781 = .ok (.laload, 1) ∧ 1782 = 1781 + 1 := op_47 (rb35 31 rfl) rfl
theorem dL_law_1782 : decode cL_law 1782 = .ok (.iload 7, 2) ∧ 1784 = 1782 + 2 := op_21 (rb35 32 rfl) (rb35 33 rfl) rfl
theorem dL_law_1784 : decode cL_law 1784 = .ok (.i2l, 1) ∧ 1785 = 1784 + 1 := op_133 (rb35 34 rfl) rfl
theorem dL_law_1785 : decode cL_law 1785 = .ok (.lcmp, 1) ∧ 1786 = 1785 + 1 := op_148 (rb35 35 rfl) rfl
theorem dL_law_1786 : decode cL_law 1786 = .ok (.ifCond .eq 5, 3) ∧ 1789 = 1786 + 3 := op_153 (rb35 36 rfl) (rb35 37 rfl) (rb35 38 rfl) rfl rfl
theorem dL_law_1789 : decode cL_law 1789 = .ok (.iconst 0, 1) ∧ 1790 = 1789 + 1 := op_3 (rb35 39 rfl) rfl
theorem dL_law_1790 : decode cL_law 1790 = .ok (.ireturn, 1) ∧ 1791 = 1790 + 1 := op_172 (rb35 40 rfl) rfl
theorem dL_law_1791 : decode cL_law 1791 = .ok (.goto 1269, 3) ∧ 1794 = 1791 + 3 := op_167 (rb35 41 rfl) (rb35 42 rfl) (rb35 43 rfl) rfl rfl
theorem dL_law_1794 : decode cL_law 1794 = .ok (.aload_n 1, 1) ∧ 1795 = 1794 + 1 := op_43 (rb35 44 rfl) rfl
theorem dL_law_1795 : decode cL_law 1795 = .ok (.aload_n 0, 1) ∧ 1796 = 1795 + 1 := op_42 (rb35 45 rfl) rfl
theorem dL_law_1796 : decode cL_law 1796 = .ok (.iload 5, 2) ∧ 1798 = 1796 + 2 := op_21 (rb35 46 rfl) (rb35 47 rfl) rfl
theorem dL_law_1798 : decode cL_law 1798 = .ok (.iconst 1, 1) ∧ 1799 = 1798 + 1 := op_4 (rb35 48 rfl) rfl
theorem dL_law_1799 : decode cL_law 1799 = .ok (.iadd, 1) ∧ 1800 = 1799 + 1 := op_96 (rb35 49 rfl) rfl
theorem dL_law_1800 : decode cL_law 1800 = .ok (.iaload, 1) ∧ 1801 = 1800 + 1 := op_46 (rb36 0 rfl) rfl
theorem dL_law_1801 : decode cL_law 1801 = .ok (.aload_n 3, 1) ∧ 1802 = 1801 + 1 := op_45 (rb36 1 rfl) rfl
theorem dL_law_1802 : decode cL_law 1802 = .ok (.invokestatic 252, 3) ∧ 1805 = 1802 + 3 := op_184 (rb36 2 rfl) (rb36 3 rfl) (rb36 4 rfl) rfl
theorem dL_law_1805 : decode cL_law 1805 = .ok (.istore 6, 2) ∧ 1807 = 1805 + 2 := op_54 (rb36 5 rfl) (rb36 6 rfl) rfl
theorem dL_law_1807 : decode cL_law 1807 = .ok (.aload_n 2, 1) ∧ 1808 = 1807 + 1 := op_44 (rb36 7 rfl) rfl
theorem dL_law_1808 : decode cL_law 1808 = .ok (.aload_n 0, 1) ∧ 1809 = 1808 + 1 := op_42 (rb36 8 rfl) rfl
theorem dL_law_1809 : decode cL_law 1809 = .ok (.iload 5, 2) ∧ 1811 = 1809 + 2 := op_21 (rb36 9 rfl) (rb36 10 rfl) rfl
theorem dL_law_1811 : decode cL_law 1811 = .ok (.iconst 1, 1) ∧ 1812 = 1811 + 1 := op_4 (rb36 11 rfl) rfl
theorem dL_law_1812 : decode cL_law 1812 = .ok (.iadd, 1) ∧ 1813 = 1812 + 1 := op_96 (rb36 12 rfl) rfl
theorem dL_law_1813 : decode cL_law 1813 = .ok (.iaload, 1) ∧ 1814 = 1813 + 1 := op_46 (rb36 13 rfl) rfl
theorem dL_law_1814 : decode cL_law 1814 = .ok (.invokevirtual 254, 3) ∧ 1817 = 1814 + 3 := op_182 (rb36 14 rfl) (rb36 15 rfl) (rb36 16 rfl) rfl
theorem dL_law_1817 : decode cL_law 1817 = .ok (.istore 7, 2) ∧ 1819 = 1817 + 2 := op_54 (rb36 17 rfl) (rb36 18 rfl) rfl
theorem dL_law_1819 : decode cL_law 1819 = .ok (.aload_n 2, 1) ∧ 1820 = 1819 + 1 := op_44 (rb36 19 rfl) rfl
theorem dL_law_1820 : decode cL_law 1820 = .ok (.invokevirtual 164, 3) ∧ 1823 = 1820 + 3 := op_182 (rb36 20 rfl) (rb36 21 rfl) (rb36 22 rfl) rfl
theorem dL_law_1823 : decode cL_law 1823 = .ok (.iload 6, 2) ∧ 1825 = 1823 + 2 := op_21 (rb36 23 rfl) (rb36 24 rfl) rfl
theorem dL_law_1825 : decode cL_law 1825 = .ok (.if_icmp .eq 5, 3) ∧ 1828 = 1825 + 3 := op_159 (rb36 25 rfl) (rb36 26 rfl) (rb36 27 rfl) rfl rfl
theorem dL_law_1828 : decode cL_law 1828 = .ok (.iconst 0, 1) ∧ 1829 = 1828 + 1 := op_3 (rb36 28 rfl) rfl
theorem dL_law_1829 : decode cL_law 1829 = .ok (.ireturn, 1) ∧ 1830 = 1829 + 1 := op_172 (rb36 29 rfl) rfl
theorem dL_law_1830 : decode cL_law 1830 = .ok (.iload 6, 2) ∧ 1832 = 1830 + 2 := op_21 (rb36 30 rfl) (rb36 31 rfl) rfl
theorem dL_law_1832 : decode cL_law 1832 = .ok (.ifCond .ne 15, 3) ∧ 1835 = 1832 + 3 := op_154 (rb36 32 rfl) (rb36 33 rfl) (rb36 34 rfl) rfl rfl
theorem dL_law_1835 : decode cL_law 1835 = .ok (.aload_n 3, 1) ∧ 1836 = 1835 + 1 := op_45 (rb36 35 rfl) rfl
theorem dL_law_1836 : decode cL_law 1836 = .ok (.iconst 0, 1) ∧ 1837 = 1836 + 1 := op_3 (rb36 36 rfl) rfl
theorem dL_law_1837 : decode cL_law 1837 = .ok (.laload, 1) ∧ 1838 = 1837 + 1 := op_47 (rb36 37 rfl) rfl
theorem dL_law_1838 : decode cL_law 1838 = .ok (.iload 7, 2) ∧ 1840 = 1838 + 2 := op_21 (rb36 38 rfl) (rb36 39 rfl) rfl
theorem dL_law_1840 : decode cL_law 1840 = .ok (.i2l, 1) ∧ 1841 = 1840 + 1 := op_133 (rb36 40 rfl) rfl
theorem dL_law_1841 : decode cL_law 1841 = .ok (.lcmp, 1) ∧ 1842 = 1841 + 1 := op_148 (rb36 41 rfl) rfl
theorem dL_law_1842 : decode cL_law 1842 = .ok (.ifCond .eq 5, 3) ∧ 1845 = 1842 + 3 := op_153 (rb36 42 rfl) (rb36 43 rfl) (rb36 44 rfl) rfl rfl
theorem dL_law_1845 : decode cL_law 1845 = .ok (.iconst 0, 1) ∧ 1846 = 1845 + 1 := op_3 (rb36 45 rfl) rfl
theorem dL_law_1846 : decode cL_law 1846 = .ok (.ireturn, 1) ∧ 1847 = 1846 + 1 := op_172 (rb36 46 rfl) rfl
theorem dL_law_1847 : decode cL_law 1847 = .ok (.goto 1213, 3) ∧ 1850 = 1847 + 3 := op_167 (rb36 47 rfl) (rb36 48 rfl) (rb36 49 rfl) rfl rfl
theorem dL_law_1850 : decode cL_law 1850 = .ok (.aload_n 1, 1) ∧ 1851 = 1850 + 1 := op_43 (rb37 0 rfl) rfl
theorem dL_law_1851 : decode cL_law 1851 = .ok (.aload_n 0, 1) ∧ 1852 = 1851 + 1 := op_42 (rb37 1 rfl) rfl
theorem dL_law_1852 : decode cL_law 1852 = .ok (.iload 5, 2) ∧ 1854 = 1852 + 2 := op_21 (rb37 2 rfl) (rb37 3 rfl) rfl
theorem dL_law_1854 : decode cL_law 1854 = .ok (.iconst 1, 1) ∧ 1855 = 1854 + 1 := op_4 (rb37 4 rfl) rfl
theorem dL_law_1855 : decode cL_law 1855 = .ok (.iadd, 1) ∧ 1856 = 1855 + 1 := op_96 (rb37 5 rfl) rfl
theorem dL_law_1856 : decode cL_law 1856 = .ok (.iaload, 1) ∧ 1857 = 1856 + 1 := op_46 (rb37 6 rfl) rfl
theorem dL_law_1857 : decode cL_law 1857 = .ok (.aload_n 3, 1) ∧ 1858 = 1857 + 1 := op_45 (rb37 7 rfl) rfl
theorem dL_law_1858 : decode cL_law 1858 = .ok (.invokestatic 255, 3) ∧ 1861 = 1858 + 3 := op_184 (rb37 8 rfl) (rb37 9 rfl) (rb37 10 rfl) rfl
theorem dL_law_1861 : decode cL_law 1861 = .ok (.istore 6, 2) ∧ 1863 = 1861 + 2 := op_54 (rb37 11 rfl) (rb37 12 rfl) rfl
theorem dL_law_1863 : decode cL_law 1863 = .ok (.aload_n 2, 1) ∧ 1864 = 1863 + 1 := op_44 (rb37 13 rfl) rfl
theorem dL_law_1864 : decode cL_law 1864 = .ok (.aload_n 0, 1) ∧ 1865 = 1864 + 1 := op_42 (rb37 14 rfl) rfl
theorem dL_law_1865 : decode cL_law 1865 = .ok (.iload 5, 2) ∧ 1867 = 1865 + 2 := op_21 (rb37 15 rfl) (rb37 16 rfl) rfl
theorem dL_law_1867 : decode cL_law 1867 = .ok (.iconst 1, 1) ∧ 1868 = 1867 + 1 := op_4 (rb37 17 rfl) rfl
theorem dL_law_1868 : decode cL_law 1868 = .ok (.iadd, 1) ∧ 1869 = 1868 + 1 := op_96 (rb37 18 rfl) rfl
theorem dL_law_1869 : decode cL_law 1869 = .ok (.iaload, 1) ∧ 1870 = 1869 + 1 := op_46 (rb37 19 rfl) rfl
theorem dL_law_1870 : decode cL_law 1870 = .ok (.invokevirtual 257, 3) ∧ 1873 = 1870 + 3 := op_182 (rb37 20 rfl) (rb37 21 rfl) (rb37 22 rfl) rfl
theorem dL_law_1873 : decode cL_law 1873 = .ok (.istore 7, 2) ∧ 1875 = 1873 + 2 := op_54 (rb37 23 rfl) (rb37 24 rfl) rfl
theorem dL_law_1875 : decode cL_law 1875 = .ok (.aload_n 2, 1) ∧ 1876 = 1875 + 1 := op_44 (rb37 25 rfl) rfl
theorem dL_law_1876 : decode cL_law 1876 = .ok (.invokevirtual 164, 3) ∧ 1879 = 1876 + 3 := op_182 (rb37 26 rfl) (rb37 27 rfl) (rb37 28 rfl) rfl
theorem dL_law_1879 : decode cL_law 1879 = .ok (.iload 6, 2) ∧ 1881 = 1879 + 2 := op_21 (rb37 29 rfl) (rb37 30 rfl) rfl
theorem dL_law_1881 : decode cL_law 1881 = .ok (.if_icmp .eq 5, 3) ∧ 1884 = 1881 + 3 := op_159 (rb37 31 rfl) (rb37 32 rfl) (rb37 33 rfl) rfl rfl
theorem dL_law_1884 : decode cL_law 1884 = .ok (.iconst 0, 1) ∧ 1885 = 1884 + 1 := op_3 (rb37 34 rfl) rfl
theorem dL_law_1885 : decode cL_law 1885 = .ok (.ireturn, 1) ∧ 1886 = 1885 + 1 := op_172 (rb37 35 rfl) rfl
theorem dL_law_1886 : decode cL_law 1886 = .ok (.iload 6, 2) ∧ 1888 = 1886 + 2 := op_21 (rb37 36 rfl) (rb37 37 rfl) rfl
theorem dL_law_1888 : decode cL_law 1888 = .ok (.ifCond .ne 22, 3) ∧ 1891 = 1888 + 3 := op_154 (rb37 38 rfl) (rb37 39 rfl) (rb37 40 rfl) rfl rfl
theorem dL_law_1891 : decode cL_law 1891 = .ok (.aload_n 3, 1) ∧ 1892 = 1891 + 1 := op_45 (rb37 41 rfl) rfl
theorem dL_law_1892 : decode cL_law 1892 = .ok (.iconst 0, 1) ∧ 1893 = 1892 + 1 := op_3 (rb37 42 rfl) rfl
theorem dL_law_1893 : decode cL_law 1893 = .ok (.laload, 1) ∧ 1894 = 1893 + 1 := op_47 (rb37 43 rfl) rfl
theorem dL_law_1894 : decode cL_law 1894 = .ok (.iload 7, 2) ∧ 1896 = 1894 + 2 := op_21 (rb37 44 rfl) (rb37 45 rfl) rfl
theorem dL_law_1896 : decode cL_law 1896 = .ok (.ifCond .eq 7, 3) ∧ 1899 = 1896 + 3 := op_153 (rb37 46 rfl) (rb37 47 rfl) (rb37 48 rfl) rfl rfl
theorem dL_law_1899 : decode cL_law 1899 = .ok (.lconst 1, 1) ∧ 1900 = 1899 + 1 := op_10 (rb37 49 rfl) rfl
theorem dL_law_1900 : decode cL_law 1900 = .ok (.goto 4, 3) ∧ 1903 = 1900 + 3 := op_167 (rb38 0 rfl) (rb38 1 rfl) (rb38 2 rfl) rfl rfl
theorem dL_law_1903 : decode cL_law 1903 = .ok (.lconst 0, 1) ∧ 1904 = 1903 + 1 := op_9 (rb38 3 rfl) rfl
theorem dL_law_1904 : decode cL_law 1904 = .ok (.lcmp, 1) ∧ 1905 = 1904 + 1 := op_148 (rb38 4 rfl) rfl
theorem dL_law_1905 : decode cL_law 1905 = .ok (.ifCond .eq 5, 3) ∧ 1908 = 1905 + 3 := op_153 (rb38 5 rfl) (rb38 6 rfl) (rb38 7 rfl) rfl rfl
theorem dL_law_1908 : decode cL_law 1908 = .ok (.iconst 0, 1) ∧ 1909 = 1908 + 1 := op_3 (rb38 8 rfl) rfl
theorem dL_law_1909 : decode cL_law 1909 = .ok (.ireturn, 1) ∧ 1910 = 1909 + 1 := op_172 (rb38 9 rfl) rfl
theorem dL_law_1910 : decode cL_law 1910 = .ok (.goto 1150, 3) ∧ 1913 = 1910 + 3 := op_167 (rb38 10 rfl) (rb38 11 rfl) (rb38 12 rfl) rfl rfl
theorem dL_law_1913 : decode cL_law 1913 = .ok (.aload_n 1, 1) ∧ 1914 = 1913 + 1 := op_43 (rb38 13 rfl) rfl
theorem dL_law_1914 : decode cL_law 1914 = .ok (.aload_n 0, 1) ∧ 1915 = 1914 + 1 := op_42 (rb38 14 rfl) rfl
theorem dL_law_1915 : decode cL_law 1915 = .ok (.iload 5, 2) ∧ 1917 = 1915 + 2 := op_21 (rb38 15 rfl) (rb38 16 rfl) rfl
theorem dL_law_1917 : decode cL_law 1917 = .ok (.iconst 1, 1) ∧ 1918 = 1917 + 1 := op_4 (rb38 17 rfl) rfl
theorem dL_law_1918 : decode cL_law 1918 = .ok (.iadd, 1) ∧ 1919 = 1918 + 1 := op_96 (rb38 18 rfl) rfl
theorem dL_law_1919 : decode cL_law 1919 = .ok (.iaload, 1) ∧ 1920 = 1919 + 1 := op_46 (rb38 19 rfl) rfl
theorem dL_law_1920 : decode cL_law 1920 = .ok (.aload_n 3, 1) ∧ 1921 = 1920 + 1 := op_45 (rb38 20 rfl) rfl
theorem dL_law_1921 : decode cL_law 1921 = .ok (.invokestatic 258, 3) ∧ 1924 = 1921 + 3 := op_184 (rb38 21 rfl) (rb38 22 rfl) (rb38 23 rfl) rfl
theorem dL_law_1924 : decode cL_law 1924 = .ok (.istore 6, 2) ∧ 1926 = 1924 + 2 := op_54 (rb38 24 rfl) (rb38 25 rfl) rfl
theorem dL_law_1926 : decode cL_law 1926 = .ok (.aload_n 2, 1) ∧ 1927 = 1926 + 1 := op_44 (rb38 26 rfl) rfl
theorem dL_law_1927 : decode cL_law 1927 = .ok (.aload_n 0, 1) ∧ 1928 = 1927 + 1 := op_42 (rb38 27 rfl) rfl
theorem dL_law_1928 : decode cL_law 1928 = .ok (.iload 5, 2) ∧ 1930 = 1928 + 2 := op_21 (rb38 28 rfl) (rb38 29 rfl) rfl
theorem dL_law_1930 : decode cL_law 1930 = .ok (.iconst 1, 1) ∧ 1931 = 1930 + 1 := op_4 (rb38 30 rfl) rfl
theorem dL_law_1931 : decode cL_law 1931 = .ok (.iadd, 1) ∧ 1932 = 1931 + 1 := op_96 (rb38 31 rfl) rfl
theorem dL_law_1932 : decode cL_law 1932 = .ok (.iaload, 1) ∧ 1933 = 1932 + 1 := op_46 (rb38 32 rfl) rfl
theorem dL_law_1933 : decode cL_law 1933 = .ok (.invokevirtual 260, 3) ∧ 1936 = 1933 + 3 := op_182 (rb38 33 rfl) (rb38 34 rfl) (rb38 35 rfl) rfl
theorem dL_law_1936 : decode cL_law 1936 = .ok (.istore 7, 2) ∧ 1938 = 1936 + 2 := op_54 (rb38 36 rfl) (rb38 37 rfl) rfl
theorem dL_law_1938 : decode cL_law 1938 = .ok (.aload_n 2, 1) ∧ 1939 = 1938 + 1 := op_44 (rb38 38 rfl) rfl
theorem dL_law_1939 : decode cL_law 1939 = .ok (.invokevirtual 164, 3) ∧ 1942 = 1939 + 3 := op_182 (rb38 39 rfl) (rb38 40 rfl) (rb38 41 rfl) rfl
theorem dL_law_1942 : decode cL_law 1942 = .ok (.iload 6, 2) ∧ 1944 = 1942 + 2 := op_21 (rb38 42 rfl) (rb38 43 rfl) rfl
theorem dL_law_1944 : decode cL_law 1944 = .ok (.if_icmp .eq 5, 3) ∧ 1947 = 1944 + 3 := op_159 (rb38 44 rfl) (rb38 45 rfl) (rb38 46 rfl) rfl rfl
theorem dL_law_1947 : decode cL_law 1947 = .ok (.iconst 0, 1) ∧ 1948 = 1947 + 1 := op_3 (rb38 47 rfl) rfl
theorem dL_law_1948 : decode cL_law 1948 = .ok (.ireturn, 1) ∧ 1949 = 1948 + 1 := op_172 (rb38 48 rfl) rfl
theorem dL_law_1949 : decode cL_law 1949 = .ok (.iload 6, 2) ∧ 1951 = 1949 + 2 := op_21 (rb38 49 rfl) (rb39 0 rfl) rfl
theorem dL_law_1951 : decode cL_law 1951 = .ok (.ifCond .ne 15, 3) ∧ 1954 = 1951 + 3 := op_154 (rb39 1 rfl) (rb39 2 rfl) (rb39 3 rfl) rfl rfl
theorem dL_law_1954 : decode cL_law 1954 = .ok (.aload_n 3, 1) ∧ 1955 = 1954 + 1 := op_45 (rb39 4 rfl) rfl
theorem dL_law_1955 : decode cL_law 1955 = .ok (.iconst 0, 1) ∧ 1956 = 1955 + 1 := op_3 (rb39 5 rfl) rfl
theorem dL_law_1956 : decode cL_law 1956 = .ok (.laload, 1) ∧ 1957 = 1956 + 1 := op_47 (rb39 6 rfl) rfl
theorem dL_law_1957 : decode cL_law 1957 = .ok (.iload 7, 2) ∧ 1959 = 1957 + 2 := op_21 (rb39 7 rfl) (rb39 8 rfl) rfl
theorem dL_law_1959 : decode cL_law 1959 = .ok (.i2l, 1) ∧ 1960 = 1959 + 1 := op_133 (rb39 9 rfl) rfl
theorem dL_law_1960 : decode cL_law 1960 = .ok (.lcmp, 1) ∧ 1961 = 1960 + 1 := op_148 (rb39 10 rfl) rfl
theorem dL_law_1961 : decode cL_law 1961 = .ok (.ifCond .eq 5, 3) ∧ 1964 = 1961 + 3 := op_153 (rb39 11 rfl) (rb39 12 rfl) (rb39 13 rfl) rfl rfl
theorem dL_law_1964 : decode cL_law 1964 = .ok (.iconst 0, 1) ∧ 1965 = 1964 + 1 := op_3 (rb39 14 rfl) rfl
theorem dL_law_1965 : decode cL_law 1965 = .ok (.ireturn, 1) ∧ 1966 = 1965 + 1 := op_172 (rb39 15 rfl) rfl
theorem dL_law_1966 : decode cL_law 1966 = .ok (.goto 1094, 3) ∧ 1969 = 1966 + 3 := op_167 (rb39 16 rfl) (rb39 17 rfl) (rb39 18 rfl) rfl rfl
theorem dL_law_1969 : decode cL_law 1969 = .ok (.aload_n 1, 1) ∧ 1970 = 1969 + 1 := op_43 (rb39 19 rfl) rfl
theorem dL_law_1970 : decode cL_law 1970 = .ok (.aload_n 0, 1) ∧ 1971 = 1970 + 1 := op_42 (rb39 20 rfl) rfl
theorem dL_law_1971 : decode cL_law 1971 = .ok (.iload 5, 2) ∧ 1973 = 1971 + 2 := op_21 (rb39 21 rfl) (rb39 22 rfl) rfl
theorem dL_law_1973 : decode cL_law 1973 = .ok (.iconst 1, 1) ∧ 1974 = 1973 + 1 := op_4 (rb39 23 rfl) rfl
theorem dL_law_1974 : decode cL_law 1974 = .ok (.iadd, 1) ∧ 1975 = 1974 + 1 := op_96 (rb39 24 rfl) rfl
theorem dL_law_1975 : decode cL_law 1975 = .ok (.iaload, 1) ∧ 1976 = 1975 + 1 := op_46 (rb39 25 rfl) rfl
theorem dL_law_1976 : decode cL_law 1976 = .ok (.aload_n 3, 1) ∧ 1977 = 1976 + 1 := op_45 (rb39 26 rfl) rfl
theorem dL_law_1977 : decode cL_law 1977 = .ok (.invokestatic 261, 3) ∧ 1980 = 1977 + 3 := op_184 (rb39 27 rfl) (rb39 28 rfl) (rb39 29 rfl) rfl
theorem dL_law_1980 : decode cL_law 1980 = .ok (.istore 6, 2) ∧ 1982 = 1980 + 2 := op_54 (rb39 30 rfl) (rb39 31 rfl) rfl
theorem dL_law_1982 : decode cL_law 1982 = .ok (.aload_n 2, 1) ∧ 1983 = 1982 + 1 := op_44 (rb39 32 rfl) rfl
theorem dL_law_1983 : decode cL_law 1983 = .ok (.aload_n 0, 1) ∧ 1984 = 1983 + 1 := op_42 (rb39 33 rfl) rfl
theorem dL_law_1984 : decode cL_law 1984 = .ok (.iload 5, 2) ∧ 1986 = 1984 + 2 := op_21 (rb39 34 rfl) (rb39 35 rfl) rfl
theorem dL_law_1986 : decode cL_law 1986 = .ok (.iconst 1, 1) ∧ 1987 = 1986 + 1 := op_4 (rb39 36 rfl) rfl
theorem dL_law_1987 : decode cL_law 1987 = .ok (.iadd, 1) ∧ 1988 = 1987 + 1 := op_96 (rb39 37 rfl) rfl
theorem dL_law_1988 : decode cL_law 1988 = .ok (.iaload, 1) ∧ 1989 = 1988 + 1 := op_46 (rb39 38 rfl) rfl
theorem dL_law_1989 : decode cL_law 1989 = .ok (.invokevirtual 263, 3) ∧ 1992 = 1989 + 3 := op_182 (rb39 39 rfl) (rb39 40 rfl) (rb39 41 rfl) rfl
theorem dL_law_1992 : decode cL_law 1992 = .ok (.istore 7, 2) ∧ 1994 = 1992 + 2 := op_54 (rb39 42 rfl) (rb39 43 rfl) rfl
theorem dL_law_1994 : decode cL_law 1994 = .ok (.aload_n 2, 1) ∧ 1995 = 1994 + 1 := op_44 (rb39 44 rfl) rfl
theorem dL_law_1995 : decode cL_law 1995 = .ok (.invokevirtual 164, 3) ∧ 1998 = 1995 + 3 := op_182 (rb39 45 rfl) (rb39 46 rfl) (rb39 47 rfl) rfl
theorem dL_law_1998 : decode cL_law 1998 = .ok (.iload 6, 2) ∧ 2000 = 1998 + 2 := op_21 (rb39 48 rfl) (rb39 49 rfl) rfl
theorem dL_law_2000 : decode cL_law 2000 = .ok (.if_icmp .eq 5, 3) ∧ 2003 = 2000 + 3 := op_159 (rb40 0 rfl) (rb40 1 rfl) (rb40 2 rfl) rfl rfl
theorem dL_law_2003 : decode cL_law 2003 = .ok (.iconst 0, 1) ∧ 2004 = 2003 + 1 := op_3 (rb40 3 rfl) rfl
theorem dL_law_2004 : decode cL_law 2004 = .ok (.ireturn, 1) ∧ 2005 = 2004 + 1 := op_172 (rb40 4 rfl) rfl
theorem dL_law_2005 : decode cL_law 2005 = .ok (.iload 6, 2) ∧ 2007 = 2005 + 2 := op_21 (rb40 5 rfl) (rb40 6 rfl) rfl
theorem dL_law_2007 : decode cL_law 2007 = .ok (.ifCond .ne 22, 3) ∧ 2010 = 2007 + 3 := op_154 (rb40 7 rfl) (rb40 8 rfl) (rb40 9 rfl) rfl rfl
theorem dL_law_2010 : decode cL_law 2010 = .ok (.aload_n 3, 1) ∧ 2011 = 2010 + 1 := op_45 (rb40 10 rfl) rfl
theorem dL_law_2011 : decode cL_law 2011 = .ok (.iconst 0, 1) ∧ 2012 = 2011 + 1 := op_3 (rb40 11 rfl) rfl
theorem dL_law_2012 : decode cL_law 2012 = .ok (.laload, 1) ∧ 2013 = 2012 + 1 := op_47 (rb40 12 rfl) rfl
theorem dL_law_2013 : decode cL_law 2013 = .ok (.iload 7, 2) ∧ 2015 = 2013 + 2 := op_21 (rb40 13 rfl) (rb40 14 rfl) rfl
theorem dL_law_2015 : decode cL_law 2015 = .ok (.ifCond .eq 7, 3) ∧ 2018 = 2015 + 3 := op_153 (rb40 15 rfl) (rb40 16 rfl) (rb40 17 rfl) rfl rfl
theorem dL_law_2018 : decode cL_law 2018 = .ok (.lconst 1, 1) ∧ 2019 = 2018 + 1 := op_10 (rb40 18 rfl) rfl
theorem dL_law_2019 : decode cL_law 2019 = .ok (.goto 4, 3) ∧ 2022 = 2019 + 3 := op_167 (rb40 19 rfl) (rb40 20 rfl) (rb40 21 rfl) rfl rfl
theorem dL_law_2022 : decode cL_law 2022 = .ok (.lconst 0, 1) ∧ 2023 = 2022 + 1 := op_9 (rb40 22 rfl) rfl
theorem dL_law_2023 : decode cL_law 2023 = .ok (.lcmp, 1) ∧ 2024 = 2023 + 1 := op_148 (rb40 23 rfl) rfl
theorem dL_law_2024 : decode cL_law 2024 = .ok (.ifCond .eq 5, 3) ∧ 2027 = 2024 + 3 := op_153 (rb40 24 rfl) (rb40 25 rfl) (rb40 26 rfl) rfl rfl
theorem dL_law_2027 : decode cL_law 2027 = .ok (.iconst 0, 1) ∧ 2028 = 2027 + 1 := op_3 (rb40 27 rfl) rfl
theorem dL_law_2028 : decode cL_law 2028 = .ok (.ireturn, 1) ∧ 2029 = 2028 + 1 := op_172 (rb40 28 rfl) rfl
theorem dL_law_2029 : decode cL_law 2029 = .ok (.goto 1031, 3) ∧ 2032 = 2029 + 3 := op_167 (rb40 29 rfl) (rb40 30 rfl) (rb40 31 rfl) rfl rfl
theorem dL_law_2032 : decode cL_law 2032 = .ok (.aload_n 1, 1) ∧ 2033 = 2032 + 1 := op_43 (rb40 32 rfl) rfl
theorem dL_law_2033 : decode cL_law 2033 = .ok (.aload_n 0, 1) ∧ 2034 = 2033 + 1 := op_42 (rb40 33 rfl) rfl
theorem dL_law_2034 : decode cL_law 2034 = .ok (.iload 5, 2) ∧ 2036 = 2034 + 2 := op_21 (rb40 34 rfl) (rb40 35 rfl) rfl
theorem dL_law_2036 : decode cL_law 2036 = .ok (.iconst 1, 1) ∧ 2037 = 2036 + 1 := op_4 (rb40 36 rfl) rfl
theorem dL_law_2037 : decode cL_law 2037 = .ok (.iadd, 1) ∧ 2038 = 2037 + 1 := op_96 (rb40 37 rfl) rfl
theorem dL_law_2038 : decode cL_law 2038 = .ok (.iaload, 1) ∧ 2039 = 2038 + 1 := op_46 (rb40 38 rfl) rfl
theorem dL_law_2039 : decode cL_law 2039 = .ok (.aload_n 0, 1) ∧ 2040 = 2039 + 1 := op_42 (rb40 39 rfl) rfl
theorem dL_law_2040 : decode cL_law 2040 = .ok (.iload 5, 2) ∧ 2042 = 2040 + 2 := op_21 (rb40 40 rfl) (rb40 41 rfl) rfl
theorem dL_law_2042 : decode cL_law 2042 = .ok (.iconst 2, 1) ∧ 2043 = 2042 + 1 := op_5 (rb40 42 rfl) rfl
theorem dL_law_2043 : decode cL_law 2043 = .ok (.iadd, 1) ∧ 2044 = 2043 + 1 := op_96 (rb40 43 rfl) rfl
theorem dL_law_2044 : decode cL_law 2044 = .ok (.iaload, 1) ∧ 2045 = 2044 + 1 := op_46 (rb40 44 rfl) rfl
theorem dL_law_2045 : decode cL_law 2045 = .ok (.aload_n 3, 1) ∧ 2046 = 2045 + 1 := op_45 (rb40 45 rfl) rfl
theorem dL_law_2046 : decode cL_law 2046 = .ok (.invokestatic 264, 3) ∧ 2049 = 2046 + 3 := op_184 (rb40 46 rfl) (rb40 47 rfl) (rb40 48 rfl) rfl
theorem dL_law_2049 : decode cL_law 2049 = .ok (.istore 6, 2) ∧ 2051 = 2049 + 2 := op_54 (rb40 49 rfl) (rb41 0 rfl) rfl
theorem dL_law_2051 : decode cL_law 2051 = .ok (.aload_n 2, 1) ∧ 2052 = 2051 + 1 := op_44 (rb41 1 rfl) rfl
theorem dL_law_2052 : decode cL_law 2052 = .ok (.aload_n 0, 1) ∧ 2053 = 2052 + 1 := op_42 (rb41 2 rfl) rfl
theorem dL_law_2053 : decode cL_law 2053 = .ok (.iload 5, 2) ∧ 2055 = 2053 + 2 := op_21 (rb41 3 rfl) (rb41 4 rfl) rfl
theorem dL_law_2055 : decode cL_law 2055 = .ok (.iconst 1, 1) ∧ 2056 = 2055 + 1 := op_4 (rb41 5 rfl) rfl
theorem dL_law_2056 : decode cL_law 2056 = .ok (.iadd, 1) ∧ 2057 = 2056 + 1 := op_96 (rb41 6 rfl) rfl
theorem dL_law_2057 : decode cL_law 2057 = .ok (.iaload, 1) ∧ 2058 = 2057 + 1 := op_46 (rb41 7 rfl) rfl
theorem dL_law_2058 : decode cL_law 2058 = .ok (.aload_n 0, 1) ∧ 2059 = 2058 + 1 := op_42 (rb41 8 rfl) rfl
theorem dL_law_2059 : decode cL_law 2059 = .ok (.iload 5, 2) ∧ 2061 = 2059 + 2 := op_21 (rb41 9 rfl) (rb41 10 rfl) rfl
theorem dL_law_2061 : decode cL_law 2061 = .ok (.iconst 2, 1) ∧ 2062 = 2061 + 1 := op_5 (rb41 11 rfl) rfl
theorem dL_law_2062 : decode cL_law 2062 = .ok (.iadd, 1) ∧ 2063 = 2062 + 1 := op_96 (rb41 12 rfl) rfl
theorem dL_law_2063 : decode cL_law 2063 = .ok (.iaload, 1) ∧ 2064 = 2063 + 1 := op_46 (rb41 13 rfl) rfl
theorem dL_law_2064 : decode cL_law 2064 = .ok (.invokevirtual 266, 3) ∧ 2067 = 2064 + 3 := op_182 (rb41 14 rfl) (rb41 15 rfl) (rb41 16 rfl) rfl
theorem dL_law_2067 : decode cL_law 2067 = .ok (.istore 7, 2) ∧ 2069 = 2067 + 2 := op_54 (rb41 17 rfl) (rb41 18 rfl) rfl
theorem dL_law_2069 : decode cL_law 2069 = .ok (.aload_n 2, 1) ∧ 2070 = 2069 + 1 := op_44 (rb41 19 rfl) rfl
theorem dL_law_2070 : decode cL_law 2070 = .ok (.invokevirtual 164, 3) ∧ 2073 = 2070 + 3 := op_182 (rb41 20 rfl) (rb41 21 rfl) (rb41 22 rfl) rfl
theorem dL_law_2073 : decode cL_law 2073 = .ok (.iload 6, 2) ∧ 2075 = 2073 + 2 := op_21 (rb41 23 rfl) (rb41 24 rfl) rfl
theorem dL_law_2075 : decode cL_law 2075 = .ok (.if_icmp .eq 5, 3) ∧ 2078 = 2075 + 3 := op_159 (rb41 25 rfl) (rb41 26 rfl) (rb41 27 rfl) rfl rfl
theorem dL_law_2078 : decode cL_law 2078 = .ok (.iconst 0, 1) ∧ 2079 = 2078 + 1 := op_3 (rb41 28 rfl) rfl
theorem dL_law_2079 : decode cL_law 2079 = .ok (.ireturn, 1) ∧ 2080 = 2079 + 1 := op_172 (rb41 29 rfl) rfl
theorem dL_law_2080 : decode cL_law 2080 = .ok (.iload 6, 2) ∧ 2082 = 2080 + 2 := op_21 (rb41 30 rfl) (rb41 31 rfl) rfl
theorem dL_law_2082 : decode cL_law 2082 = .ok (.ifCond .ne 15, 3) ∧ 2085 = 2082 + 3 := op_154 (rb41 32 rfl) (rb41 33 rfl) (rb41 34 rfl) rfl rfl
theorem dL_law_2085 : decode cL_law 2085 = .ok (.aload_n 3, 1) ∧ 2086 = 2085 + 1 := op_45 (rb41 35 rfl) rfl
theorem dL_law_2086 : decode cL_law 2086 = .ok (.iconst 0, 1) ∧ 2087 = 2086 + 1 := op_3 (rb41 36 rfl) rfl
theorem dL_law_2087 : decode cL_law 2087 = .ok (.laload, 1) ∧ 2088 = 2087 + 1 := op_47 (rb41 37 rfl) rfl
theorem dL_law_2088 : decode cL_law 2088 = .ok (.iload 7, 2) ∧ 2090 = 2088 + 2 := op_21 (rb41 38 rfl) (rb41 39 rfl) rfl
theorem dL_law_2090 : decode cL_law 2090 = .ok (.i2l, 1) ∧ 2091 = 2090 + 1 := op_133 (rb41 40 rfl) rfl
theorem dL_law_2091 : decode cL_law 2091 = .ok (.lcmp, 1) ∧ 2092 = 2091 + 1 := op_148 (rb41 41 rfl) rfl
theorem dL_law_2092 : decode cL_law 2092 = .ok (.ifCond .eq 5, 3) ∧ 2095 = 2092 + 3 := op_153 (rb41 42 rfl) (rb41 43 rfl) (rb41 44 rfl) rfl rfl
theorem dL_law_2095 : decode cL_law 2095 = .ok (.iconst 0, 1) ∧ 2096 = 2095 + 1 := op_3 (rb41 45 rfl) rfl
theorem dL_law_2096 : decode cL_law 2096 = .ok (.ireturn, 1) ∧ 2097 = 2096 + 1 := op_172 (rb41 46 rfl) rfl
theorem dL_law_2097 : decode cL_law 2097 = .ok (.goto 963, 3) ∧ 2100 = 2097 + 3 := op_167 (rb41 47 rfl) (rb41 48 rfl) (rb41 49 rfl) rfl rfl
theorem dL_law_2100 : decode cL_law 2100 = .ok (.aload_n 1, 1) ∧ 2101 = 2100 + 1 := op_43 (rb42 0 rfl) rfl
theorem dL_law_2101 : decode cL_law 2101 = .ok (.aload_n 0, 1) ∧ 2102 = 2101 + 1 := op_42 (rb42 1 rfl) rfl
theorem dL_law_2102 : decode cL_law 2102 = .ok (.iload 5, 2) ∧ 2104 = 2102 + 2 := op_21 (rb42 2 rfl) (rb42 3 rfl) rfl
theorem dL_law_2104 : decode cL_law 2104 = .ok (.iconst 1, 1) ∧ 2105 = 2104 + 1 := op_4 (rb42 4 rfl) rfl
theorem dL_law_2105 : decode cL_law 2105 = .ok (.iadd, 1) ∧ 2106 = 2105 + 1 := op_96 (rb42 5 rfl) rfl
theorem dL_law_2106 : decode cL_law 2106 = .ok (.iaload, 1) ∧ 2107 = 2106 + 1 := op_46 (rb42 6 rfl) rfl
theorem dL_law_2107 : decode cL_law 2107 = .ok (.aload_n 3, 1) ∧ 2108 = 2107 + 1 := op_45 (rb42 7 rfl) rfl
theorem dL_law_2108 : decode cL_law 2108 = .ok (.invokestatic 267, 3) ∧ 2111 = 2108 + 3 := op_184 (rb42 8 rfl) (rb42 9 rfl) (rb42 10 rfl) rfl
theorem dL_law_2111 : decode cL_law 2111 = .ok (.istore 6, 2) ∧ 2113 = 2111 + 2 := op_54 (rb42 11 rfl) (rb42 12 rfl) rfl
theorem dL_law_2113 : decode cL_law 2113 = .ok (.aload_n 2, 1) ∧ 2114 = 2113 + 1 := op_44 (rb42 13 rfl) rfl
theorem dL_law_2114 : decode cL_law 2114 = .ok (.aload_n 0, 1) ∧ 2115 = 2114 + 1 := op_42 (rb42 14 rfl) rfl
theorem dL_law_2115 : decode cL_law 2115 = .ok (.iload 5, 2) ∧ 2117 = 2115 + 2 := op_21 (rb42 15 rfl) (rb42 16 rfl) rfl
theorem dL_law_2117 : decode cL_law 2117 = .ok (.iconst 1, 1) ∧ 2118 = 2117 + 1 := op_4 (rb42 17 rfl) rfl
theorem dL_law_2118 : decode cL_law 2118 = .ok (.iadd, 1) ∧ 2119 = 2118 + 1 := op_96 (rb42 18 rfl) rfl
theorem dL_law_2119 : decode cL_law 2119 = .ok (.iaload, 1) ∧ 2120 = 2119 + 1 := op_46 (rb42 19 rfl) rfl
theorem dL_law_2120 : decode cL_law 2120 = .ok (.invokevirtual 269, 3) ∧ 2123 = 2120 + 3 := op_182 (rb42 20 rfl) (rb42 21 rfl) (rb42 22 rfl) rfl
theorem dL_law_2123 : decode cL_law 2123 = .ok (.istore 7, 2) ∧ 2125 = 2123 + 2 := op_54 (rb42 23 rfl) (rb42 24 rfl) rfl
theorem dL_law_2125 : decode cL_law 2125 = .ok (.aload_n 2, 1) ∧ 2126 = 2125 + 1 := op_44 (rb42 25 rfl) rfl
theorem dL_law_2126 : decode cL_law 2126 = .ok (.invokevirtual 164, 3) ∧ 2129 = 2126 + 3 := op_182 (rb42 26 rfl) (rb42 27 rfl) (rb42 28 rfl) rfl
theorem dL_law_2129 : decode cL_law 2129 = .ok (.iload 6, 2) ∧ 2131 = 2129 + 2 := op_21 (rb42 29 rfl) (rb42 30 rfl) rfl
theorem dL_law_2131 : decode cL_law 2131 = .ok (.if_icmp .eq 5, 3) ∧ 2134 = 2131 + 3 := op_159 (rb42 31 rfl) (rb42 32 rfl) (rb42 33 rfl) rfl rfl
theorem dL_law_2134 : decode cL_law 2134 = .ok (.iconst 0, 1) ∧ 2135 = 2134 + 1 := op_3 (rb42 34 rfl) rfl
theorem dL_law_2135 : decode cL_law 2135 = .ok (.ireturn, 1) ∧ 2136 = 2135 + 1 := op_172 (rb42 35 rfl) rfl
theorem dL_law_2136 : decode cL_law 2136 = .ok (.iload 6, 2) ∧ 2138 = 2136 + 2 := op_21 (rb42 36 rfl) (rb42 37 rfl) rfl
theorem dL_law_2138 : decode cL_law 2138 = .ok (.ifCond .ne 15, 3) ∧ 2141 = 2138 + 3 := op_154 (rb42 38 rfl) (rb42 39 rfl) (rb42 40 rfl) rfl rfl
theorem dL_law_2141 : decode cL_law 2141 = .ok (.aload_n 3, 1) ∧ 2142 = 2141 + 1 := op_45 (rb42 41 rfl) rfl
theorem dL_law_2142 : decode cL_law 2142 = .ok (.iconst 0, 1) ∧ 2143 = 2142 + 1 := op_3 (rb42 42 rfl) rfl
theorem dL_law_2143 : decode cL_law 2143 = .ok (.laload, 1) ∧ 2144 = 2143 + 1 := op_47 (rb42 43 rfl) rfl
theorem dL_law_2144 : decode cL_law 2144 = .ok (.iload 7, 2) ∧ 2146 = 2144 + 2 := op_21 (rb42 44 rfl) (rb42 45 rfl) rfl
theorem dL_law_2146 : decode cL_law 2146 = .ok (.i2l, 1) ∧ 2147 = 2146 + 1 := op_133 (rb42 46 rfl) rfl
theorem dL_law_2147 : decode cL_law 2147 = .ok (.lcmp, 1) ∧ 2148 = 2147 + 1 := op_148 (rb42 47 rfl) rfl
theorem dL_law_2148 : decode cL_law 2148 = .ok (.ifCond .eq 5, 3) ∧ 2151 = 2148 + 3 := op_153 (rb42 48 rfl) (rb42 49 rfl) (rb43 0 rfl) rfl rfl
theorem dL_law_2151 : decode cL_law 2151 = .ok (.iconst 0, 1) ∧ 2152 = 2151 + 1 := op_3 (rb43 1 rfl) rfl
theorem dL_law_2152 : decode cL_law 2152 = .ok (.ireturn, 1) ∧ 2153 = 2152 + 1 := op_172 (rb43 2 rfl) rfl
theorem dL_law_2153 : decode cL_law 2153 = .ok (.goto 907, 3) ∧ 2156 = 2153 + 3 := op_167 (rb43 3 rfl) (rb43 4 rfl) (rb43 5 rfl) rfl rfl
theorem dL_law_2156 : decode cL_law 2156 = .ok (.aload_n 1, 1) ∧ 2157 = 2156 + 1 := op_43 (rb43 6 rfl) rfl
theorem dL_law_2157 : decode cL_law 2157 = .ok (.invokevirtual 270, 3) ∧ 2160 = 2157 + 3 := op_182 (rb43 7 rfl) (rb43 8 rfl) (rb43 9 rfl) rfl
theorem dL_law_2160 : decode cL_law 2160 = .ok (.aload_n 2, 1) ∧ 2161 = 2160 + 1 := op_44 (rb43 10 rfl) rfl
theorem dL_law_2161 : decode cL_law 2161 = .ok (.invokevirtual 273, 3) ∧ 2164 = 2161 + 3 := op_182 (rb43 11 rfl) (rb43 12 rfl) (rb43 13 rfl) rfl
theorem dL_law_2164 : decode cL_law 2164 = .ok (.if_icmp .eq 896, 3) ∧ 2167 = 2164 + 3 := op_159 (rb43 14 rfl) (rb43 15 rfl) (rb43 16 rfl) rfl rfl
theorem dL_law_2167 : decode cL_law 2167 = .ok (.iconst 0, 1) ∧ 2168 = 2167 + 1 := op_3 (rb43 17 rfl) rfl
theorem dL_law_2168 : decode cL_law 2168 = .ok (.ireturn, 1) ∧ 2169 = 2168 + 1 := op_172 (rb43 18 rfl) rfl
theorem dL_law_2169 : decode cL_law 2169 = .ok (.aload_n 1, 1) ∧ 2170 = 2169 + 1 := op_43 (rb43 19 rfl) rfl
theorem dL_law_2170 : decode cL_law 2170 = .ok (.aload_n 3, 1) ∧ 2171 = 2170 + 1 := op_45 (rb43 20 rfl) rfl
theorem dL_law_2171 : decode cL_law 2171 = .ok (.invokestatic 274, 3) ∧ 2174 = 2171 + 3 := op_184 (rb43 21 rfl) (rb43 22 rfl) (rb43 23 rfl) rfl
theorem dL_law_2174 : decode cL_law 2174 = .ok (.istore 6, 2) ∧ 2176 = 2174 + 2 := op_54 (rb43 24 rfl) (rb43 25 rfl) rfl
theorem dL_law_2176 : decode cL_law 2176 = .ok (.aload_n 2, 1) ∧ 2177 = 2176 + 1 := op_44 (rb43 26 rfl) rfl
theorem dL_law_2177 : decode cL_law 2177 = .ok (.invokevirtual 277, 3) ∧ 2180 = 2177 + 3 := op_182 (rb43 27 rfl) (rb43 28 rfl) (rb43 29 rfl) rfl
theorem dL_law_2180 : decode cL_law 2180 = .ok (.istore 7, 2) ∧ 2182 = 2180 + 2 := op_54 (rb43 30 rfl) (rb43 31 rfl) rfl
theorem dL_law_2182 : decode cL_law 2182 = .ok (.aload_n 2, 1) ∧ 2183 = 2182 + 1 := op_44 (rb43 32 rfl) rfl
theorem dL_law_2183 : decode cL_law 2183 = .ok (.invokevirtual 164, 3) ∧ 2186 = 2183 + 3 := op_182 (rb43 33 rfl) (rb43 34 rfl) (rb43 35 rfl) rfl
theorem dL_law_2186 : decode cL_law 2186 = .ok (.iload 6, 2) ∧ 2188 = 2186 + 2 := op_21 (rb43 36 rfl) (rb43 37 rfl) rfl
theorem dL_law_2188 : decode cL_law 2188 = .ok (.if_icmp .eq 5, 3) ∧ 2191 = 2188 + 3 := op_159 (rb43 38 rfl) (rb43 39 rfl) (rb43 40 rfl) rfl rfl
theorem dL_law_2191 : decode cL_law 2191 = .ok (.iconst 0, 1) ∧ 2192 = 2191 + 1 := op_3 (rb43 41 rfl) rfl
theorem dL_law_2192 : decode cL_law 2192 = .ok (.ireturn, 1) ∧ 2193 = 2192 + 1 := op_172 (rb43 42 rfl) rfl
theorem dL_law_2193 : decode cL_law 2193 = .ok (.iload 6, 2) ∧ 2195 = 2193 + 2 := op_21 (rb43 43 rfl) (rb43 44 rfl) rfl
theorem dL_law_2195 : decode cL_law 2195 = .ok (.ifCond .ne 15, 3) ∧ 2198 = 2195 + 3 := op_154 (rb43 45 rfl) (rb43 46 rfl) (rb43 47 rfl) rfl rfl
theorem dL_law_2198 : decode cL_law 2198 = .ok (.aload_n 3, 1) ∧ 2199 = 2198 + 1 := op_45 (rb43 48 rfl) rfl
theorem dL_law_2199 : decode cL_law 2199 = .ok (.iconst 0, 1) ∧ 2200 = 2199 + 1 := op_3 (rb43 49 rfl) rfl
theorem dL_law_2200 : decode cL_law 2200 = .ok (.laload, 1) ∧ 2201 = 2200 + 1 := op_47 (rb44 0 rfl) rfl
theorem dL_law_2201 : decode cL_law 2201 = .ok (.iload 7, 2) ∧ 2203 = 2201 + 2 := op_21 (rb44 1 rfl) (rb44 2 rfl) rfl
theorem dL_law_2203 : decode cL_law 2203 = .ok (.i2l, 1) ∧ 2204 = 2203 + 1 := op_133 (rb44 3 rfl) rfl
theorem dL_law_2204 : decode cL_law 2204 = .ok (.lcmp, 1) ∧ 2205 = 2204 + 1 := op_148 (rb44 4 rfl) rfl
theorem dL_law_2205 : decode cL_law 2205 = .ok (.ifCond .eq 5, 3) ∧ 2208 = 2205 + 3 := op_153 (rb44 5 rfl) (rb44 6 rfl) (rb44 7 rfl) rfl rfl
theorem dL_law_2208 : decode cL_law 2208 = .ok (.iconst 0, 1) ∧ 2209 = 2208 + 1 := op_3 (rb44 8 rfl) rfl
theorem dL_law_2209 : decode cL_law 2209 = .ok (.ireturn, 1) ∧ 2210 = 2209 + 1 := op_172 (rb44 9 rfl) rfl
theorem dL_law_2210 : decode cL_law 2210 = .ok (.goto 850, 3) ∧ 2213 = 2210 + 3 := op_167 (rb44 10 rfl) (rb44 11 rfl) (rb44 12 rfl) rfl rfl
theorem dL_law_2213 : decode cL_law 2213 = .ok (.aload_n 1, 1) ∧ 2214 = 2213 + 1 := op_43 (rb44 13 rfl) rfl
theorem dL_law_2214 : decode cL_law 2214 = .ok (.aload_n 0, 1) ∧ 2215 = 2214 + 1 := op_42 (rb44 14 rfl) rfl
theorem dL_law_2215 : decode cL_law 2215 = .ok (.iload 5, 2) ∧ 2217 = 2215 + 2 := op_21 (rb44 15 rfl) (rb44 16 rfl) rfl
theorem dL_law_2217 : decode cL_law 2217 = .ok (.iconst 1, 1) ∧ 2218 = 2217 + 1 := op_4 (rb44 17 rfl) rfl
theorem dL_law_2218 : decode cL_law 2218 = .ok (.iadd, 1) ∧ 2219 = 2218 + 1 := op_96 (rb44 18 rfl) rfl
theorem dL_law_2219 : decode cL_law 2219 = .ok (.iaload, 1) ∧ 2220 = 2219 + 1 := op_46 (rb44 19 rfl) rfl
theorem dL_law_2220 : decode cL_law 2220 = .ok (.aload_n 0, 1) ∧ 2221 = 2220 + 1 := op_42 (rb44 20 rfl) rfl
theorem dL_law_2221 : decode cL_law 2221 = .ok (.iload 5, 2) ∧ 2223 = 2221 + 2 := op_21 (rb44 21 rfl) (rb44 22 rfl) rfl
theorem dL_law_2223 : decode cL_law 2223 = .ok (.iconst 2, 1) ∧ 2224 = 2223 + 1 := op_5 (rb44 23 rfl) rfl
theorem dL_law_2224 : decode cL_law 2224 = .ok (.iadd, 1) ∧ 2225 = 2224 + 1 := op_96 (rb44 24 rfl) rfl
theorem dL_law_2225 : decode cL_law 2225 = .ok (.iaload, 1) ∧ 2226 = 2225 + 1 := op_46 (rb44 25 rfl) rfl
theorem dL_law_2226 : decode cL_law 2226 = .ok (.aload_n 3, 1) ∧ 2227 = 2226 + 1 := op_45 (rb44 26 rfl) rfl
theorem dL_law_2227 : decode cL_law 2227 = .ok (.invokestatic 278, 3) ∧ 2230 = 2227 + 3 := op_184 (rb44 27 rfl) (rb44 28 rfl) (rb44 29 rfl) rfl
theorem dL_law_2230 : decode cL_law 2230 = .ok (.istore 6, 2) ∧ 2232 = 2230 + 2 := op_54 (rb44 30 rfl) (rb44 31 rfl) rfl
theorem dL_law_2232 : decode cL_law 2232 = .ok (.aload_n 2, 1) ∧ 2233 = 2232 + 1 := op_44 (rb44 32 rfl) rfl
theorem dL_law_2233 : decode cL_law 2233 = .ok (.aload_n 0, 1) ∧ 2234 = 2233 + 1 := op_42 (rb44 33 rfl) rfl
theorem dL_law_2234 : decode cL_law 2234 = .ok (.iload 5, 2) ∧ 2236 = 2234 + 2 := op_21 (rb44 34 rfl) (rb44 35 rfl) rfl
theorem dL_law_2236 : decode cL_law 2236 = .ok (.iconst 1, 1) ∧ 2237 = 2236 + 1 := op_4 (rb44 36 rfl) rfl
theorem dL_law_2237 : decode cL_law 2237 = .ok (.iadd, 1) ∧ 2238 = 2237 + 1 := op_96 (rb44 37 rfl) rfl
theorem dL_law_2238 : decode cL_law 2238 = .ok (.iaload, 1) ∧ 2239 = 2238 + 1 := op_46 (rb44 38 rfl) rfl
theorem dL_law_2239 : decode cL_law 2239 = .ok (.aload_n 0, 1) ∧ 2240 = 2239 + 1 := op_42 (rb44 39 rfl) rfl
theorem dL_law_2240 : decode cL_law 2240 = .ok (.iload 5, 2) ∧ 2242 = 2240 + 2 := op_21 (rb44 40 rfl) (rb44 41 rfl) rfl
theorem dL_law_2242 : decode cL_law 2242 = .ok (.iconst 2, 1) ∧ 2243 = 2242 + 1 := op_5 (rb44 42 rfl) rfl
theorem dL_law_2243 : decode cL_law 2243 = .ok (.iadd, 1) ∧ 2244 = 2243 + 1 := op_96 (rb44 43 rfl) rfl
theorem dL_law_2244 : decode cL_law 2244 = .ok (.iaload, 1) ∧ 2245 = 2244 + 1 := op_46 (rb44 44 rfl) rfl
theorem dL_law_2245 : decode cL_law 2245 = .ok (.invokevirtual 280, 3) ∧ 2248 = 2245 + 3 := op_182 (rb44 45 rfl) (rb44 46 rfl) (rb44 47 rfl) rfl
theorem dL_law_2248 : decode cL_law 2248 = .ok (.istore 7, 2) ∧ 2250 = 2248 + 2 := op_54 (rb44 48 rfl) (rb44 49 rfl) rfl
theorem dL_law_2250 : decode cL_law 2250 = .ok (.aload_n 2, 1) ∧ 2251 = 2250 + 1 := op_44 (rb45 0 rfl) rfl
theorem dL_law_2251 : decode cL_law 2251 = .ok (.invokevirtual 164, 3) ∧ 2254 = 2251 + 3 := op_182 (rb45 1 rfl) (rb45 2 rfl) (rb45 3 rfl) rfl
theorem dL_law_2254 : decode cL_law 2254 = .ok (.iload 6, 2) ∧ 2256 = 2254 + 2 := op_21 (rb45 4 rfl) (rb45 5 rfl) rfl
theorem dL_law_2256 : decode cL_law 2256 = .ok (.if_icmp .eq 5, 3) ∧ 2259 = 2256 + 3 := op_159 (rb45 6 rfl) (rb45 7 rfl) (rb45 8 rfl) rfl rfl
theorem dL_law_2259 : decode cL_law 2259 = .ok (.iconst 0, 1) ∧ 2260 = 2259 + 1 := op_3 (rb45 9 rfl) rfl
theorem dL_law_2260 : decode cL_law 2260 = .ok (.ireturn, 1) ∧ 2261 = 2260 + 1 := op_172 (rb45 10 rfl) rfl
theorem dL_law_2261 : decode cL_law 2261 = .ok (.iload 6, 2) ∧ 2263 = 2261 + 2 := op_21 (rb45 11 rfl) (rb45 12 rfl) rfl
theorem dL_law_2263 : decode cL_law 2263 = .ok (.ifCond .ne 15, 3) ∧ 2266 = 2263 + 3 := op_154 (rb45 13 rfl) (rb45 14 rfl) (rb45 15 rfl) rfl rfl
theorem dL_law_2266 : decode cL_law 2266 = .ok (.aload_n 3, 1) ∧ 2267 = 2266 + 1 := op_45 (rb45 16 rfl) rfl
theorem dL_law_2267 : decode cL_law 2267 = .ok (.iconst 0, 1) ∧ 2268 = 2267 + 1 := op_3 (rb45 17 rfl) rfl
theorem dL_law_2268 : decode cL_law 2268 = .ok (.laload, 1) ∧ 2269 = 2268 + 1 := op_47 (rb45 18 rfl) rfl
theorem dL_law_2269 : decode cL_law 2269 = .ok (.iload 7, 2) ∧ 2271 = 2269 + 2 := op_21 (rb45 19 rfl) (rb45 20 rfl) rfl
theorem dL_law_2271 : decode cL_law 2271 = .ok (.i2l, 1) ∧ 2272 = 2271 + 1 := op_133 (rb45 21 rfl) rfl
theorem dL_law_2272 : decode cL_law 2272 = .ok (.lcmp, 1) ∧ 2273 = 2272 + 1 := op_148 (rb45 22 rfl) rfl
theorem dL_law_2273 : decode cL_law 2273 = .ok (.ifCond .eq 5, 3) ∧ 2276 = 2273 + 3 := op_153 (rb45 23 rfl) (rb45 24 rfl) (rb45 25 rfl) rfl rfl
theorem dL_law_2276 : decode cL_law 2276 = .ok (.iconst 0, 1) ∧ 2277 = 2276 + 1 := op_3 (rb45 26 rfl) rfl
theorem dL_law_2277 : decode cL_law 2277 = .ok (.ireturn, 1) ∧ 2278 = 2277 + 1 := op_172 (rb45 27 rfl) rfl
theorem dL_law_2278 : decode cL_law 2278 = .ok (.goto 782, 3) ∧ 2281 = 2278 + 3 := op_167 (rb45 28 rfl) (rb45 29 rfl) (rb45 30 rfl) rfl rfl
theorem dL_law_2281 : decode cL_law 2281 = .ok (.aload_n 1, 1) ∧ 2282 = 2281 + 1 := op_43 (rb45 31 rfl) rfl
theorem dL_law_2282 : decode cL_law 2282 = .ok (.aload_n 0, 1) ∧ 2283 = 2282 + 1 := op_42 (rb45 32 rfl) rfl
theorem dL_law_2283 : decode cL_law 2283 = .ok (.iload 5, 2) ∧ 2285 = 2283 + 2 := op_21 (rb45 33 rfl) (rb45 34 rfl) rfl
theorem dL_law_2285 : decode cL_law 2285 = .ok (.iconst 1, 1) ∧ 2286 = 2285 + 1 := op_4 (rb45 35 rfl) rfl
theorem dL_law_2286 : decode cL_law 2286 = .ok (.iadd, 1) ∧ 2287 = 2286 + 1 := op_96 (rb45 36 rfl) rfl
theorem dL_law_2287 : decode cL_law 2287 = .ok (.iaload, 1) ∧ 2288 = 2287 + 1 := op_46 (rb45 37 rfl) rfl
theorem dL_law_2288 : decode cL_law 2288 = .ok (.aload_n 0, 1) ∧ 2289 = 2288 + 1 := op_42 (rb45 38 rfl) rfl
theorem dL_law_2289 : decode cL_law 2289 = .ok (.iload 5, 2) ∧ 2291 = 2289 + 2 := op_21 (rb45 39 rfl) (rb45 40 rfl) rfl
theorem dL_law_2291 : decode cL_law 2291 = .ok (.iconst 2, 1) ∧ 2292 = 2291 + 1 := op_5 (rb45 41 rfl) rfl
theorem dL_law_2292 : decode cL_law 2292 = .ok (.iadd, 1) ∧ 2293 = 2292 + 1 := op_96 (rb45 42 rfl) rfl
theorem dL_law_2293 : decode cL_law 2293 = .ok (.iaload, 1) ∧ 2294 = 2293 + 1 := op_46 (rb45 43 rfl) rfl
theorem dL_law_2294 : decode cL_law 2294 = .ok (.aload_n 3, 1) ∧ 2295 = 2294 + 1 := op_45 (rb45 44 rfl) rfl
theorem dL_law_2295 : decode cL_law 2295 = .ok (.invokestatic 281, 3) ∧ 2298 = 2295 + 3 := op_184 (rb45 45 rfl) (rb45 46 rfl) (rb45 47 rfl) rfl
theorem dL_law_2298 : decode cL_law 2298 = .ok (.istore 6, 2) ∧ 2300 = 2298 + 2 := op_54 (rb45 48 rfl) (rb45 49 rfl) rfl
theorem dL_law_2300 : decode cL_law 2300 = .ok (.aload_n 2, 1) ∧ 2301 = 2300 + 1 := op_44 (rb46 0 rfl) rfl
theorem dL_law_2301 : decode cL_law 2301 = .ok (.aload_n 0, 1) ∧ 2302 = 2301 + 1 := op_42 (rb46 1 rfl) rfl
theorem dL_law_2302 : decode cL_law 2302 = .ok (.iload 5, 2) ∧ 2304 = 2302 + 2 := op_21 (rb46 2 rfl) (rb46 3 rfl) rfl
theorem dL_law_2304 : decode cL_law 2304 = .ok (.iconst 1, 1) ∧ 2305 = 2304 + 1 := op_4 (rb46 4 rfl) rfl
theorem dL_law_2305 : decode cL_law 2305 = .ok (.iadd, 1) ∧ 2306 = 2305 + 1 := op_96 (rb46 5 rfl) rfl
theorem dL_law_2306 : decode cL_law 2306 = .ok (.iaload, 1) ∧ 2307 = 2306 + 1 := op_46 (rb46 6 rfl) rfl
theorem dL_law_2307 : decode cL_law 2307 = .ok (.aload_n 0, 1) ∧ 2308 = 2307 + 1 := op_42 (rb46 7 rfl) rfl
theorem dL_law_2308 : decode cL_law 2308 = .ok (.iload 5, 2) ∧ 2310 = 2308 + 2 := op_21 (rb46 8 rfl) (rb46 9 rfl) rfl
theorem dL_law_2310 : decode cL_law 2310 = .ok (.iconst 2, 1) ∧ 2311 = 2310 + 1 := op_5 (rb46 10 rfl) rfl
theorem dL_law_2311 : decode cL_law 2311 = .ok (.iadd, 1) ∧ 2312 = 2311 + 1 := op_96 (rb46 11 rfl) rfl
theorem dL_law_2312 : decode cL_law 2312 = .ok (.iaload, 1) ∧ 2313 = 2312 + 1 := op_46 (rb46 12 rfl) rfl
theorem dL_law_2313 : decode cL_law 2313 = .ok (.invokevirtual 283, 3) ∧ 2316 = 2313 + 3 := op_182 (rb46 13 rfl) (rb46 14 rfl) (rb46 15 rfl) rfl
theorem dL_law_2316 : decode cL_law 2316 = .ok (.istore 7, 2) ∧ 2318 = 2316 + 2 := op_54 (rb46 16 rfl) (rb46 17 rfl) rfl
theorem dL_law_2318 : decode cL_law 2318 = .ok (.aload_n 2, 1) ∧ 2319 = 2318 + 1 := op_44 (rb46 18 rfl) rfl
theorem dL_law_2319 : decode cL_law 2319 = .ok (.invokevirtual 164, 3) ∧ 2322 = 2319 + 3 := op_182 (rb46 19 rfl) (rb46 20 rfl) (rb46 21 rfl) rfl
theorem dL_law_2322 : decode cL_law 2322 = .ok (.iload 6, 2) ∧ 2324 = 2322 + 2 := op_21 (rb46 22 rfl) (rb46 23 rfl) rfl
theorem dL_law_2324 : decode cL_law 2324 = .ok (.if_icmp .eq 5, 3) ∧ 2327 = 2324 + 3 := op_159 (rb46 24 rfl) (rb46 25 rfl) (rb46 26 rfl) rfl rfl
theorem dL_law_2327 : decode cL_law 2327 = .ok (.iconst 0, 1) ∧ 2328 = 2327 + 1 := op_3 (rb46 27 rfl) rfl
theorem dL_law_2328 : decode cL_law 2328 = .ok (.ireturn, 1) ∧ 2329 = 2328 + 1 := op_172 (rb46 28 rfl) rfl
theorem dL_law_2329 : decode cL_law 2329 = .ok (.iload 6, 2) ∧ 2331 = 2329 + 2 := op_21 (rb46 29 rfl) (rb46 30 rfl) rfl
theorem dL_law_2331 : decode cL_law 2331 = .ok (.ifCond .ne 15, 3) ∧ 2334 = 2331 + 3 := op_154 (rb46 31 rfl) (rb46 32 rfl) (rb46 33 rfl) rfl rfl
theorem dL_law_2334 : decode cL_law 2334 = .ok (.aload_n 3, 1) ∧ 2335 = 2334 + 1 := op_45 (rb46 34 rfl) rfl
theorem dL_law_2335 : decode cL_law 2335 = .ok (.iconst 0, 1) ∧ 2336 = 2335 + 1 := op_3 (rb46 35 rfl) rfl
theorem dL_law_2336 : decode cL_law 2336 = .ok (.laload, 1) ∧ 2337 = 2336 + 1 := op_47 (rb46 36 rfl) rfl
theorem dL_law_2337 : decode cL_law 2337 = .ok (.iload 7, 2) ∧ 2339 = 2337 + 2 := op_21 (rb46 37 rfl) (rb46 38 rfl) rfl
theorem dL_law_2339 : decode cL_law 2339 = .ok (.i2l, 1) ∧ 2340 = 2339 + 1 := op_133 (rb46 39 rfl) rfl
theorem dL_law_2340 : decode cL_law 2340 = .ok (.lcmp, 1) ∧ 2341 = 2340 + 1 := op_148 (rb46 40 rfl) rfl
theorem dL_law_2341 : decode cL_law 2341 = .ok (.ifCond .eq 5, 3) ∧ 2344 = 2341 + 3 := op_153 (rb46 41 rfl) (rb46 42 rfl) (rb46 43 rfl) rfl rfl
theorem dL_law_2344 : decode cL_law 2344 = .ok (.iconst 0, 1) ∧ 2345 = 2344 + 1 := op_3 (rb46 44 rfl) rfl
theorem dL_law_2345 : decode cL_law 2345 = .ok (.ireturn, 1) ∧ 2346 = 2345 + 1 := op_172 (rb46 45 rfl) rfl
theorem dL_law_2346 : decode cL_law 2346 = .ok (.goto 714, 3) ∧ 2349 = 2346 + 3 := op_167 (rb46 46 rfl) (rb46 47 rfl) (rb46 48 rfl) rfl rfl
theorem dL_law_2349 : decode cL_law 2349 = .ok (.aload_n 1, 1) ∧ 2350 = 2349 + 1 := op_43 (rb46 49 rfl) rfl
theorem dL_law_2350 : decode cL_law 2350 = .ok (.aload_n 0, 1) ∧ 2351 = 2350 + 1 := op_42 (rb47 0 rfl) rfl
theorem dL_law_2351 : decode cL_law 2351 = .ok (.iload 5, 2) ∧ 2353 = 2351 + 2 := op_21 (rb47 1 rfl) (rb47 2 rfl) rfl
theorem dL_law_2353 : decode cL_law 2353 = .ok (.iconst 1, 1) ∧ 2354 = 2353 + 1 := op_4 (rb47 3 rfl) rfl
theorem dL_law_2354 : decode cL_law 2354 = .ok (.iadd, 1) ∧ 2355 = 2354 + 1 := op_96 (rb47 4 rfl) rfl
theorem dL_law_2355 : decode cL_law 2355 = .ok (.iaload, 1) ∧ 2356 = 2355 + 1 := op_46 (rb47 5 rfl) rfl
theorem dL_law_2356 : decode cL_law 2356 = .ok (.aload_n 0, 1) ∧ 2357 = 2356 + 1 := op_42 (rb47 6 rfl) rfl
theorem dL_law_2357 : decode cL_law 2357 = .ok (.iload 5, 2) ∧ 2359 = 2357 + 2 := op_21 (rb47 7 rfl) (rb47 8 rfl) rfl
theorem dL_law_2359 : decode cL_law 2359 = .ok (.iconst 2, 1) ∧ 2360 = 2359 + 1 := op_5 (rb47 9 rfl) rfl
theorem dL_law_2360 : decode cL_law 2360 = .ok (.iadd, 1) ∧ 2361 = 2360 + 1 := op_96 (rb47 10 rfl) rfl
theorem dL_law_2361 : decode cL_law 2361 = .ok (.iaload, 1) ∧ 2362 = 2361 + 1 := op_46 (rb47 11 rfl) rfl
theorem dL_law_2362 : decode cL_law 2362 = .ok (.aload_n 3, 1) ∧ 2363 = 2362 + 1 := op_45 (rb47 12 rfl) rfl
theorem dL_law_2363 : decode cL_law 2363 = .ok (.invokestatic 284, 3) ∧ 2366 = 2363 + 3 := op_184 (rb47 13 rfl) (rb47 14 rfl) (rb47 15 rfl) rfl
theorem dL_law_2366 : decode cL_law 2366 = .ok (.istore 6, 2) ∧ 2368 = 2366 + 2 := op_54 (rb47 16 rfl) (rb47 17 rfl) rfl
theorem dL_law_2368 : decode cL_law 2368 = .ok (.aload_n 2, 1) ∧ 2369 = 2368 + 1 := op_44 (rb47 18 rfl) rfl
theorem dL_law_2369 : decode cL_law 2369 = .ok (.aload_n 0, 1) ∧ 2370 = 2369 + 1 := op_42 (rb47 19 rfl) rfl
theorem dL_law_2370 : decode cL_law 2370 = .ok (.iload 5, 2) ∧ 2372 = 2370 + 2 := op_21 (rb47 20 rfl) (rb47 21 rfl) rfl
theorem dL_law_2372 : decode cL_law 2372 = .ok (.iconst 1, 1) ∧ 2373 = 2372 + 1 := op_4 (rb47 22 rfl) rfl
theorem dL_law_2373 : decode cL_law 2373 = .ok (.iadd, 1) ∧ 2374 = 2373 + 1 := op_96 (rb47 23 rfl) rfl
theorem dL_law_2374 : decode cL_law 2374 = .ok (.iaload, 1) ∧ 2375 = 2374 + 1 := op_46 (rb47 24 rfl) rfl
theorem dL_law_2375 : decode cL_law 2375 = .ok (.aload_n 0, 1) ∧ 2376 = 2375 + 1 := op_42 (rb47 25 rfl) rfl
theorem dL_law_2376 : decode cL_law 2376 = .ok (.iload 5, 2) ∧ 2378 = 2376 + 2 := op_21 (rb47 26 rfl) (rb47 27 rfl) rfl
theorem dL_law_2378 : decode cL_law 2378 = .ok (.iconst 2, 1) ∧ 2379 = 2378 + 1 := op_5 (rb47 28 rfl) rfl
theorem dL_law_2379 : decode cL_law 2379 = .ok (.iadd, 1) ∧ 2380 = 2379 + 1 := op_96 (rb47 29 rfl) rfl
theorem dL_law_2380 : decode cL_law 2380 = .ok (.iaload, 1) ∧ 2381 = 2380 + 1 := op_46 (rb47 30 rfl) rfl
theorem dL_law_2381 : decode cL_law 2381 = .ok (.invokevirtual 286, 3) ∧ 2384 = 2381 + 3 := op_182 (rb47 31 rfl) (rb47 32 rfl) (rb47 33 rfl) rfl
theorem dL_law_2384 : decode cL_law 2384 = .ok (.istore 7, 2) ∧ 2386 = 2384 + 2 := op_54 (rb47 34 rfl) (rb47 35 rfl) rfl
theorem dL_law_2386 : decode cL_law 2386 = .ok (.aload_n 2, 1) ∧ 2387 = 2386 + 1 := op_44 (rb47 36 rfl) rfl
theorem dL_law_2387 : decode cL_law 2387 = .ok (.invokevirtual 164, 3) ∧ 2390 = 2387 + 3 := op_182 (rb47 37 rfl) (rb47 38 rfl) (rb47 39 rfl) rfl
theorem dL_law_2390 : decode cL_law 2390 = .ok (.iload 6, 2) ∧ 2392 = 2390 + 2 := op_21 (rb47 40 rfl) (rb47 41 rfl) rfl
theorem dL_law_2392 : decode cL_law 2392 = .ok (.if_icmp .eq 5, 3) ∧ 2395 = 2392 + 3 := op_159 (rb47 42 rfl) (rb47 43 rfl) (rb47 44 rfl) rfl rfl
theorem dL_law_2395 : decode cL_law 2395 = .ok (.iconst 0, 1) ∧ 2396 = 2395 + 1 := op_3 (rb47 45 rfl) rfl
theorem dL_law_2396 : decode cL_law 2396 = .ok (.ireturn, 1) ∧ 2397 = 2396 + 1 := op_172 (rb47 46 rfl) rfl
theorem dL_law_2397 : decode cL_law 2397 = .ok (.iload 6, 2) ∧ 2399 = 2397 + 2 := op_21 (rb47 47 rfl) (rb47 48 rfl) rfl
theorem dL_law_2399 : decode cL_law 2399 = .ok (.ifCond .ne 15, 3) ∧ 2402 = 2399 + 3 := op_154 (rb47 49 rfl) (rb48 0 rfl) (rb48 1 rfl) rfl rfl
theorem dL_law_2402 : decode cL_law 2402 = .ok (.aload_n 3, 1) ∧ 2403 = 2402 + 1 := op_45 (rb48 2 rfl) rfl
theorem dL_law_2403 : decode cL_law 2403 = .ok (.iconst 0, 1) ∧ 2404 = 2403 + 1 := op_3 (rb48 3 rfl) rfl
theorem dL_law_2404 : decode cL_law 2404 = .ok (.laload, 1) ∧ 2405 = 2404 + 1 := op_47 (rb48 4 rfl) rfl
theorem dL_law_2405 : decode cL_law 2405 = .ok (.iload 7, 2) ∧ 2407 = 2405 + 2 := op_21 (rb48 5 rfl) (rb48 6 rfl) rfl
theorem dL_law_2407 : decode cL_law 2407 = .ok (.i2l, 1) ∧ 2408 = 2407 + 1 := op_133 (rb48 7 rfl) rfl
theorem dL_law_2408 : decode cL_law 2408 = .ok (.lcmp, 1) ∧ 2409 = 2408 + 1 := op_148 (rb48 8 rfl) rfl
theorem dL_law_2409 : decode cL_law 2409 = .ok (.ifCond .eq 5, 3) ∧ 2412 = 2409 + 3 := op_153 (rb48 9 rfl) (rb48 10 rfl) (rb48 11 rfl) rfl rfl
theorem dL_law_2412 : decode cL_law 2412 = .ok (.iconst 0, 1) ∧ 2413 = 2412 + 1 := op_3 (rb48 12 rfl) rfl
theorem dL_law_2413 : decode cL_law 2413 = .ok (.ireturn, 1) ∧ 2414 = 2413 + 1 := op_172 (rb48 13 rfl) rfl
theorem dL_law_2414 : decode cL_law 2414 = .ok (.goto 646, 3) ∧ 2417 = 2414 + 3 := op_167 (rb48 14 rfl) (rb48 15 rfl) (rb48 16 rfl) rfl rfl
theorem dL_law_2417 : decode cL_law 2417 = .ok (.aload_n 1, 1) ∧ 2418 = 2417 + 1 := op_43 (rb48 17 rfl) rfl
theorem dL_law_2418 : decode cL_law 2418 = .ok (.aload_n 0, 1) ∧ 2419 = 2418 + 1 := op_42 (rb48 18 rfl) rfl
theorem dL_law_2419 : decode cL_law 2419 = .ok (.iload 5, 2) ∧ 2421 = 2419 + 2 := op_21 (rb48 19 rfl) (rb48 20 rfl) rfl
theorem dL_law_2421 : decode cL_law 2421 = .ok (.iconst 1, 1) ∧ 2422 = 2421 + 1 := op_4 (rb48 21 rfl) rfl
theorem dL_law_2422 : decode cL_law 2422 = .ok (.iadd, 1) ∧ 2423 = 2422 + 1 := op_96 (rb48 22 rfl) rfl
theorem dL_law_2423 : decode cL_law 2423 = .ok (.iaload, 1) ∧ 2424 = 2423 + 1 := op_46 (rb48 23 rfl) rfl
theorem dL_law_2424 : decode cL_law 2424 = .ok (.aload_n 3, 1) ∧ 2425 = 2424 + 1 := op_45 (rb48 24 rfl) rfl
theorem dL_law_2425 : decode cL_law 2425 = .ok (.invokestatic 287, 3) ∧ 2428 = 2425 + 3 := op_184 (rb48 25 rfl) (rb48 26 rfl) (rb48 27 rfl) rfl
theorem dL_law_2428 : decode cL_law 2428 = .ok (.istore 6, 2) ∧ 2430 = 2428 + 2 := op_54 (rb48 28 rfl) (rb48 29 rfl) rfl
theorem dL_law_2430 : decode cL_law 2430 = .ok (.aload_n 2, 1) ∧ 2431 = 2430 + 1 := op_44 (rb48 30 rfl) rfl
theorem dL_law_2431 : decode cL_law 2431 = .ok (.aload_n 0, 1) ∧ 2432 = 2431 + 1 := op_42 (rb48 31 rfl) rfl
theorem dL_law_2432 : decode cL_law 2432 = .ok (.iload 5, 2) ∧ 2434 = 2432 + 2 := op_21 (rb48 32 rfl) (rb48 33 rfl) rfl
theorem dL_law_2434 : decode cL_law 2434 = .ok (.iconst 1, 1) ∧ 2435 = 2434 + 1 := op_4 (rb48 34 rfl) rfl
theorem dL_law_2435 : decode cL_law 2435 = .ok (.iadd, 1) ∧ 2436 = 2435 + 1 := op_96 (rb48 35 rfl) rfl
theorem dL_law_2436 : decode cL_law 2436 = .ok (.iaload, 1) ∧ 2437 = 2436 + 1 := op_46 (rb48 36 rfl) rfl
theorem dL_law_2437 : decode cL_law 2437 = .ok (.invokevirtual 289, 3) ∧ 2440 = 2437 + 3 := op_182 (rb48 37 rfl) (rb48 38 rfl) (rb48 39 rfl) rfl
theorem dL_law_2440 : decode cL_law 2440 = .ok (.istore 7, 2) ∧ 2442 = 2440 + 2 := op_54 (rb48 40 rfl) (rb48 41 rfl) rfl
theorem dL_law_2442 : decode cL_law 2442 = .ok (.aload_n 2, 1) ∧ 2443 = 2442 + 1 := op_44 (rb48 42 rfl) rfl
theorem dL_law_2443 : decode cL_law 2443 = .ok (.invokevirtual 164, 3) ∧ 2446 = 2443 + 3 := op_182 (rb48 43 rfl) (rb48 44 rfl) (rb48 45 rfl) rfl
theorem dL_law_2446 : decode cL_law 2446 = .ok (.iload 6, 2) ∧ 2448 = 2446 + 2 := op_21 (rb48 46 rfl) (rb48 47 rfl) rfl
theorem dL_law_2448 : decode cL_law 2448 = .ok (.if_icmp .eq 5, 3) ∧ 2451 = 2448 + 3 := op_159 (rb48 48 rfl) (rb48 49 rfl) (rb49 0 rfl) rfl rfl
theorem dL_law_2451 : decode cL_law 2451 = .ok (.iconst 0, 1) ∧ 2452 = 2451 + 1 := op_3 (rb49 1 rfl) rfl
theorem dL_law_2452 : decode cL_law 2452 = .ok (.ireturn, 1) ∧ 2453 = 2452 + 1 := op_172 (rb49 2 rfl) rfl
theorem dL_law_2453 : decode cL_law 2453 = .ok (.iload 6, 2) ∧ 2455 = 2453 + 2 := op_21 (rb49 3 rfl) (rb49 4 rfl) rfl
theorem dL_law_2455 : decode cL_law 2455 = .ok (.ifCond .ne 15, 3) ∧ 2458 = 2455 + 3 := op_154 (rb49 5 rfl) (rb49 6 rfl) (rb49 7 rfl) rfl rfl
theorem dL_law_2458 : decode cL_law 2458 = .ok (.aload_n 3, 1) ∧ 2459 = 2458 + 1 := op_45 (rb49 8 rfl) rfl
theorem dL_law_2459 : decode cL_law 2459 = .ok (.iconst 0, 1) ∧ 2460 = 2459 + 1 := op_3 (rb49 9 rfl) rfl
theorem dL_law_2460 : decode cL_law 2460 = .ok (.laload, 1) ∧ 2461 = 2460 + 1 := op_47 (rb49 10 rfl) rfl
theorem dL_law_2461 : decode cL_law 2461 = .ok (.iload 7, 2) ∧ 2463 = 2461 + 2 := op_21 (rb49 11 rfl) (rb49 12 rfl) rfl
theorem dL_law_2463 : decode cL_law 2463 = .ok (.i2l, 1) ∧ 2464 = 2463 + 1 := op_133 (rb49 13 rfl) rfl
theorem dL_law_2464 : decode cL_law 2464 = .ok (.lcmp, 1) ∧ 2465 = 2464 + 1 := op_148 (rb49 14 rfl) rfl
theorem dL_law_2465 : decode cL_law 2465 = .ok (.ifCond .eq 5, 3) ∧ 2468 = 2465 + 3 := op_153 (rb49 15 rfl) (rb49 16 rfl) (rb49 17 rfl) rfl rfl
theorem dL_law_2468 : decode cL_law 2468 = .ok (.iconst 0, 1) ∧ 2469 = 2468 + 1 := op_3 (rb49 18 rfl) rfl
theorem dL_law_2469 : decode cL_law 2469 = .ok (.ireturn, 1) ∧ 2470 = 2469 + 1 := op_172 (rb49 19 rfl) rfl
theorem dL_law_2470 : decode cL_law 2470 = .ok (.goto 590, 3) ∧ 2473 = 2470 + 3 := op_167 (rb49 20 rfl) (rb49 21 rfl) (rb49 22 rfl) rfl rfl
theorem dL_law_2473 : decode cL_law 2473 = .ok (.aload_n 1, 1) ∧ 2474 = 2473 + 1 := op_43 (rb49 23 rfl) rfl
theorem dL_law_2474 : decode cL_law 2474 = .ok (.aload_n 0, 1) ∧ 2475 = 2474 + 1 := op_42 (rb49 24 rfl) rfl
theorem dL_law_2475 : decode cL_law 2475 = .ok (.iload 5, 2) ∧ 2477 = 2475 + 2 := op_21 (rb49 25 rfl) (rb49 26 rfl) rfl
theorem dL_law_2477 : decode cL_law 2477 = .ok (.iconst 1, 1) ∧ 2478 = 2477 + 1 := op_4 (rb49 27 rfl) rfl
theorem dL_law_2478 : decode cL_law 2478 = .ok (.iadd, 1) ∧ 2479 = 2478 + 1 := op_96 (rb49 28 rfl) rfl
theorem dL_law_2479 : decode cL_law 2479 = .ok (.iaload, 1) ∧ 2480 = 2479 + 1 := op_46 (rb49 29 rfl) rfl
theorem dL_law_2480 : decode cL_law 2480 = .ok (.aload_n 0, 1) ∧ 2481 = 2480 + 1 := op_42 (rb49 30 rfl) rfl
theorem dL_law_2481 : decode cL_law 2481 = .ok (.iload 5, 2) ∧ 2483 = 2481 + 2 := op_21 (rb49 31 rfl) (rb49 32 rfl) rfl
theorem dL_law_2483 : decode cL_law 2483 = .ok (.iconst 2, 1) ∧ 2484 = 2483 + 1 := op_5 (rb49 33 rfl) rfl
theorem dL_law_2484 : decode cL_law 2484 = .ok (.iadd, 1) ∧ 2485 = 2484 + 1 := op_96 (rb49 34 rfl) rfl
theorem dL_law_2485 : decode cL_law 2485 = .ok (.iaload, 1) ∧ 2486 = 2485 + 1 := op_46 (rb49 35 rfl) rfl
theorem dL_law_2486 : decode cL_law 2486 = .ok (.aload 4, 2) ∧ 2488 = 2486 + 2 := op_25 (rb49 36 rfl) (rb49 37 rfl) rfl
theorem dL_law_2488 : decode cL_law 2488 = .ok (.invokestatic 290, 3) ∧ 2491 = 2488 + 3 := op_184 (rb49 38 rfl) (rb49 39 rfl) (rb49 40 rfl) rfl
theorem dL_law_2491 : decode cL_law 2491 = .ok (.istore 6, 2) ∧ 2493 = 2491 + 2 := op_54 (rb49 41 rfl) (rb49 42 rfl) rfl
theorem dL_law_2493 : decode cL_law 2493 = .ok (.aload_n 2, 1) ∧ 2494 = 2493 + 1 := op_44 (rb49 43 rfl) rfl
theorem dL_law_2494 : decode cL_law 2494 = .ok (.aload_n 0, 1) ∧ 2495 = 2494 + 1 := op_42 (rb49 44 rfl) rfl
theorem dL_law_2495 : decode cL_law 2495 = .ok (.iload 5, 2) ∧ 2497 = 2495 + 2 := op_21 (rb49 45 rfl) (rb49 46 rfl) rfl
theorem dL_law_2497 : decode cL_law 2497 = .ok (.iconst 1, 1) ∧ 2498 = 2497 + 1 := op_4 (rb49 47 rfl) rfl
theorem dL_law_2498 : decode cL_law 2498 = .ok (.iadd, 1) ∧ 2499 = 2498 + 1 := op_96 (rb49 48 rfl) rfl
theorem dL_law_2499 : decode cL_law 2499 = .ok (.iaload, 1) ∧ 2500 = 2499 + 1 := op_46 (rb49 49 rfl) rfl
theorem dL_law_2500 : decode cL_law 2500 = .ok (.aload_n 0, 1) ∧ 2501 = 2500 + 1 := op_42 (rb50 0 rfl) rfl
theorem dL_law_2501 : decode cL_law 2501 = .ok (.iload 5, 2) ∧ 2503 = 2501 + 2 := op_21 (rb50 1 rfl) (rb50 2 rfl) rfl
theorem dL_law_2503 : decode cL_law 2503 = .ok (.iconst 2, 1) ∧ 2504 = 2503 + 1 := op_5 (rb50 3 rfl) rfl
theorem dL_law_2504 : decode cL_law 2504 = .ok (.iadd, 1) ∧ 2505 = 2504 + 1 := op_96 (rb50 4 rfl) rfl
theorem dL_law_2505 : decode cL_law 2505 = .ok (.iaload, 1) ∧ 2506 = 2505 + 1 := op_46 (rb50 5 rfl) rfl
theorem dL_law_2506 : decode cL_law 2506 = .ok (.invokevirtual 293, 3) ∧ 2509 = 2506 + 3 := op_182 (rb50 6 rfl) (rb50 7 rfl) (rb50 8 rfl) rfl
theorem dL_law_2509 : decode cL_law 2509 = .ok (.dstore 7, 2) ∧ 2511 = 2509 + 2 := op_57 (rb50 9 rfl) (rb50 10 rfl) rfl
theorem dL_law_2511 : decode cL_law 2511 = .ok (.aload_n 2, 1) ∧ 2512 = 2511 + 1 := op_44 (rb50 11 rfl) rfl
theorem dL_law_2512 : decode cL_law 2512 = .ok (.invokevirtual 164, 3) ∧ 2515 = 2512 + 3 := op_182 (rb50 12 rfl) (rb50 13 rfl) (rb50 14 rfl) rfl
theorem dL_law_2515 : decode cL_law 2515 = .ok (.iload 6, 2) ∧ 2517 = 2515 + 2 := op_21 (rb50 15 rfl) (rb50 16 rfl) rfl
theorem dL_law_2517 : decode cL_law 2517 = .ok (.if_icmp .eq 5, 3) ∧ 2520 = 2517 + 3 := op_159 (rb50 17 rfl) (rb50 18 rfl) (rb50 19 rfl) rfl rfl
theorem dL_law_2520 : decode cL_law 2520 = .ok (.iconst 0, 1) ∧ 2521 = 2520 + 1 := op_3 (rb50 20 rfl) rfl
theorem dL_law_2521 : decode cL_law 2521 = .ok (.ireturn, 1) ∧ 2522 = 2521 + 1 := op_172 (rb50 21 rfl) rfl
theorem dL_law_2522 : decode cL_law 2522 = .ok (.iload 6, 2) ∧ 2524 = 2522 + 2 := op_21 (rb50 22 rfl) (rb50 23 rfl) rfl
theorem dL_law_2524 : decode cL_law 2524 = .ok (.ifCond .ne 35, 3) ∧ 2527 = 2524 + 3 := op_154 (rb50 24 rfl) (rb50 25 rfl) (rb50 26 rfl) rfl rfl
theorem dL_law_2527 : decode cL_law 2527 = .ok (.aload 4, 2) ∧ 2529 = 2527 + 2 := op_25 (rb50 27 rfl) (rb50 28 rfl) rfl
theorem dL_law_2529 : decode cL_law 2529 = .ok (.iconst 0, 1) ∧ 2530 = 2529 + 1 := op_3 (rb50 29 rfl) rfl
theorem dL_law_2530 : decode cL_law 2530 = .ok (.daload, 1) ∧ 2531 = 2530 + 1 := op_49 (rb50 30 rfl) rfl
theorem dL_law_2531 : decode cL_law 2531 = .ok (.dload 7, 2) ∧ 2533 = 2531 + 2 := op_24 (rb50 31 rfl) (rb50 32 rfl) rfl
theorem dL_law_2533 : decode cL_law 2533 = .ok (.dcmp .l, 1) ∧ 2534 = 2533 + 1 := op_151 (rb50 33 rfl) rfl
theorem dL_law_2534 : decode cL_law 2534 = .ok (.ifCond .eq 25, 3) ∧ 2537 = 2534 + 3 := op_153 (rb50 34 rfl) (rb50 35 rfl) (rb50 36 rfl) rfl rfl
theorem dL_law_2537 : decode cL_law 2537 = .ok (.aload 4, 2) ∧ 2539 = 2537 + 2 := op_25 (rb50 37 rfl) (rb50 38 rfl) rfl
theorem dL_law_2539 : decode cL_law 2539 = .ok (.iconst 0, 1) ∧ 2540 = 2539 + 1 := op_3 (rb50 39 rfl) rfl
theorem dL_law_2540 : decode cL_law 2540 = .ok (.daload, 1) ∧ 2541 = 2540 + 1 := op_49 (rb50 40 rfl) rfl
theorem dL_law_2541 : decode cL_law 2541 = .ok (.aload 4, 2) ∧ 2543 = 2541 + 2 := op_25 (rb50 41 rfl) (rb50 42 rfl) rfl
theorem dL_law_2543 : decode cL_law 2543 = .ok (.iconst 0, 1) ∧ 2544 = 2543 + 1 := op_3 (rb50 43 rfl) rfl
theorem dL_law_2544 : decode cL_law 2544 = .ok (.daload, 1) ∧ 2545 = 2544 + 1 := op_49 (rb50 44 rfl) rfl
theorem dL_law_2545 : decode cL_law 2545 = .ok (.dcmp .l, 1) ∧ 2546 = 2545 + 1 := op_151 (rb50 45 rfl) rfl
theorem dL_law_2546 : decode cL_law 2546 = .ok (.ifCond .eq 11, 3) ∧ 2549 = 2546 + 3 := op_153 (rb50 46 rfl) (rb50 47 rfl) (rb50 48 rfl) rfl rfl
theorem dL_law_2549 : decode cL_law 2549 = .ok (.dload 7, 2) ∧ 2551 = 2549 + 2 := op_24 (rb50 49 rfl) (rb51 0 rfl) rfl
theorem dL_law_2551 : decode cL_law 2551 = .ok (.dload 7, 2) ∧ 2553 = 2551 + 2 := op_24 (rb51 1 rfl) (rb51 2 rfl) rfl
theorem dL_law_2553 : decode cL_law 2553 = .ok (.dcmp .l, 1) ∧ 2554 = 2553 + 1 := op_151 (rb51 3 rfl) rfl
theorem dL_law_2554 : decode cL_law 2554 = .ok (.ifCond .ne 5, 3) ∧ 2557 = 2554 + 3 := op_154 (rb51 4 rfl) (rb51 5 rfl) (rb51 6 rfl) rfl rfl
theorem dL_law_2557 : decode cL_law 2557 = .ok (.iconst 0, 1) ∧ 2558 = 2557 + 1 := op_3 (rb51 7 rfl) rfl
theorem dL_law_2558 : decode cL_law 2558 = .ok (.ireturn, 1) ∧ 2559 = 2558 + 1 := op_172 (rb51 8 rfl) rfl
theorem dL_law_2559 : decode cL_law 2559 = .ok (.goto 501, 3) ∧ 2562 = 2559 + 3 := op_167 (rb51 9 rfl) (rb51 10 rfl) (rb51 11 rfl) rfl rfl
theorem dL_law_2562 : decode cL_law 2562 = .ok (.aload_n 1, 1) ∧ 2563 = 2562 + 1 := op_43 (rb51 12 rfl) rfl
theorem dL_law_2563 : decode cL_law 2563 = .ok (.aload_n 0, 1) ∧ 2564 = 2563 + 1 := op_42 (rb51 13 rfl) rfl
theorem dL_law_2564 : decode cL_law 2564 = .ok (.iload 5, 2) ∧ 2566 = 2564 + 2 := op_21 (rb51 14 rfl) (rb51 15 rfl) rfl
theorem dL_law_2566 : decode cL_law 2566 = .ok (.iconst 1, 1) ∧ 2567 = 2566 + 1 := op_4 (rb51 16 rfl) rfl
theorem dL_law_2567 : decode cL_law 2567 = .ok (.iadd, 1) ∧ 2568 = 2567 + 1 := op_96 (rb51 17 rfl) rfl
theorem dL_law_2568 : decode cL_law 2568 = .ok (.iaload, 1) ∧ 2569 = 2568 + 1 := op_46 (rb51 18 rfl) rfl
theorem dL_law_2569 : decode cL_law 2569 = .ok (.aload_n 0, 1) ∧ 2570 = 2569 + 1 := op_42 (rb51 19 rfl) rfl
theorem dL_law_2570 : decode cL_law 2570 = .ok (.iload 5, 2) ∧ 2572 = 2570 + 2 := op_21 (rb51 20 rfl) (rb51 21 rfl) rfl
theorem dL_law_2572 : decode cL_law 2572 = .ok (.iconst 2, 1) ∧ 2573 = 2572 + 1 := op_5 (rb51 22 rfl) rfl
theorem dL_law_2573 : decode cL_law 2573 = .ok (.iadd, 1) ∧ 2574 = 2573 + 1 := op_96 (rb51 23 rfl) rfl
theorem dL_law_2574 : decode cL_law 2574 = .ok (.iaload, 1) ∧ 2575 = 2574 + 1 := op_46 (rb51 24 rfl) rfl
theorem dL_law_2575 : decode cL_law 2575 = .ok (.aload_n 3, 1) ∧ 2576 = 2575 + 1 := op_45 (rb51 25 rfl) rfl
theorem dL_law_2576 : decode cL_law 2576 = .ok (.invokestatic 294, 3) ∧ 2579 = 2576 + 3 := op_184 (rb51 26 rfl) (rb51 27 rfl) (rb51 28 rfl) rfl
theorem dL_law_2579 : decode cL_law 2579 = .ok (.istore 6, 2) ∧ 2581 = 2579 + 2 := op_54 (rb51 29 rfl) (rb51 30 rfl) rfl
theorem dL_law_2581 : decode cL_law 2581 = .ok (.aload_n 2, 1) ∧ 2582 = 2581 + 1 := op_44 (rb51 31 rfl) rfl
theorem dL_law_2582 : decode cL_law 2582 = .ok (.aload_n 0, 1) ∧ 2583 = 2582 + 1 := op_42 (rb51 32 rfl) rfl
theorem dL_law_2583 : decode cL_law 2583 = .ok (.iload 5, 2) ∧ 2585 = 2583 + 2 := op_21 (rb51 33 rfl) (rb51 34 rfl) rfl
theorem dL_law_2585 : decode cL_law 2585 = .ok (.iconst 1, 1) ∧ 2586 = 2585 + 1 := op_4 (rb51 35 rfl) rfl
theorem dL_law_2586 : decode cL_law 2586 = .ok (.iadd, 1) ∧ 2587 = 2586 + 1 := op_96 (rb51 36 rfl) rfl
theorem dL_law_2587 : decode cL_law 2587 = .ok (.iaload, 1) ∧ 2588 = 2587 + 1 := op_46 (rb51 37 rfl) rfl
theorem dL_law_2588 : decode cL_law 2588 = .ok (.aload_n 0, 1) ∧ 2589 = 2588 + 1 := op_42 (rb51 38 rfl) rfl
theorem dL_law_2589 : decode cL_law 2589 = .ok (.iload 5, 2) ∧ 2591 = 2589 + 2 := op_21 (rb51 39 rfl) (rb51 40 rfl) rfl
theorem dL_law_2591 : decode cL_law 2591 = .ok (.iconst 2, 1) ∧ 2592 = 2591 + 1 := op_5 (rb51 41 rfl) rfl
theorem dL_law_2592 : decode cL_law 2592 = .ok (.iadd, 1) ∧ 2593 = 2592 + 1 := op_96 (rb51 42 rfl) rfl
theorem dL_law_2593 : decode cL_law 2593 = .ok (.iaload, 1) ∧ 2594 = 2593 + 1 := op_46 (rb51 43 rfl) rfl
theorem dL_law_2594 : decode cL_law 2594 = .ok (.invokevirtual 296, 3) ∧ 2597 = 2594 + 3 := op_182 (rb51 44 rfl) (rb51 45 rfl) (rb51 46 rfl) rfl
theorem dL_law_2597 : decode cL_law 2597 = .ok (.istore 7, 2) ∧ 2599 = 2597 + 2 := op_54 (rb51 47 rfl) (rb51 48 rfl) rfl
theorem dL_law_2599 : decode cL_law 2599 = .ok (.aload_n 2, 1) ∧ 2600 = 2599 + 1 := op_44 (rb51 49 rfl) rfl
theorem dL_law_2600 : decode cL_law 2600 = .ok (.invokevirtual 164, 3) ∧ 2603 = 2600 + 3 := op_182 (rb52 0 rfl) (rb52 1 rfl) (rb52 2 rfl) rfl
theorem dL_law_2603 : decode cL_law 2603 = .ok (.iload 6, 2) ∧ 2605 = 2603 + 2 := op_21 (rb52 3 rfl) (rb52 4 rfl) rfl
theorem dL_law_2605 : decode cL_law 2605 = .ok (.if_icmp .eq 5, 3) ∧ 2608 = 2605 + 3 := op_159 (rb52 5 rfl) (rb52 6 rfl) (rb52 7 rfl) rfl rfl
theorem dL_law_2608 : decode cL_law 2608 = .ok (.iconst 0, 1) ∧ 2609 = 2608 + 1 := op_3 (rb52 8 rfl) rfl
theorem dL_law_2609 : decode cL_law 2609 = .ok (.ireturn, 1) ∧ 2610 = 2609 + 1 := op_172 (rb52 9 rfl) rfl
theorem dL_law_2610 : decode cL_law 2610 = .ok (.iload 6, 2) ∧ 2612 = 2610 + 2 := op_21 (rb52 10 rfl) (rb52 11 rfl) rfl
theorem dL_law_2612 : decode cL_law 2612 = .ok (.ifCond .ne 15, 3) ∧ 2615 = 2612 + 3 := op_154 (rb52 12 rfl) (rb52 13 rfl) (rb52 14 rfl) rfl rfl
theorem dL_law_2615 : decode cL_law 2615 = .ok (.aload_n 3, 1) ∧ 2616 = 2615 + 1 := op_45 (rb52 15 rfl) rfl
theorem dL_law_2616 : decode cL_law 2616 = .ok (.iconst 0, 1) ∧ 2617 = 2616 + 1 := op_3 (rb52 16 rfl) rfl
theorem dL_law_2617 : decode cL_law 2617 = .ok (.laload, 1) ∧ 2618 = 2617 + 1 := op_47 (rb52 17 rfl) rfl
theorem dL_law_2618 : decode cL_law 2618 = .ok (.iload 7, 2) ∧ 2620 = 2618 + 2 := op_21 (rb52 18 rfl) (rb52 19 rfl) rfl
theorem dL_law_2620 : decode cL_law 2620 = .ok (.i2l, 1) ∧ 2621 = 2620 + 1 := op_133 (rb52 20 rfl) rfl
theorem dL_law_2621 : decode cL_law 2621 = .ok (.lcmp, 1) ∧ 2622 = 2621 + 1 := op_148 (rb52 21 rfl) rfl
theorem dL_law_2622 : decode cL_law 2622 = .ok (.ifCond .eq 5, 3) ∧ 2625 = 2622 + 3 := op_153 (rb52 22 rfl) (rb52 23 rfl) (rb52 24 rfl) rfl rfl
theorem dL_law_2625 : decode cL_law 2625 = .ok (.iconst 0, 1) ∧ 2626 = 2625 + 1 := op_3 (rb52 25 rfl) rfl
theorem dL_law_2626 : decode cL_law 2626 = .ok (.ireturn, 1) ∧ 2627 = 2626 + 1 := op_172 (rb52 26 rfl) rfl
theorem dL_law_2627 : decode cL_law 2627 = .ok (.goto 433, 3) ∧ 2630 = 2627 + 3 := op_167 (rb52 27 rfl) (rb52 28 rfl) (rb52 29 rfl) rfl rfl
theorem dL_law_2630 : decode cL_law 2630 = .ok (.aload_n 1, 1) ∧ 2631 = 2630 + 1 := op_43 (rb52 30 rfl) rfl
theorem dL_law_2631 : decode cL_law 2631 = .ok (.aload_n 0, 1) ∧ 2632 = 2631 + 1 := op_42 (rb52 31 rfl) rfl
theorem dL_law_2632 : decode cL_law 2632 = .ok (.iload 5, 2) ∧ 2634 = 2632 + 2 := op_21 (rb52 32 rfl) (rb52 33 rfl) rfl
theorem dL_law_2634 : decode cL_law 2634 = .ok (.iconst 1, 1) ∧ 2635 = 2634 + 1 := op_4 (rb52 34 rfl) rfl
theorem dL_law_2635 : decode cL_law 2635 = .ok (.iadd, 1) ∧ 2636 = 2635 + 1 := op_96 (rb52 35 rfl) rfl
theorem dL_law_2636 : decode cL_law 2636 = .ok (.iaload, 1) ∧ 2637 = 2636 + 1 := op_46 (rb52 36 rfl) rfl
theorem dL_law_2637 : decode cL_law 2637 = .ok (.aload_n 0, 1) ∧ 2638 = 2637 + 1 := op_42 (rb52 37 rfl) rfl
theorem dL_law_2638 : decode cL_law 2638 = .ok (.iload 5, 2) ∧ 2640 = 2638 + 2 := op_21 (rb52 38 rfl) (rb52 39 rfl) rfl
theorem dL_law_2640 : decode cL_law 2640 = .ok (.iconst 2, 1) ∧ 2641 = 2640 + 1 := op_5 (rb52 40 rfl) rfl
theorem dL_law_2641 : decode cL_law 2641 = .ok (.iadd, 1) ∧ 2642 = 2641 + 1 := op_96 (rb52 41 rfl) rfl
theorem dL_law_2642 : decode cL_law 2642 = .ok (.iaload, 1) ∧ 2643 = 2642 + 1 := op_46 (rb52 42 rfl) rfl
theorem dL_law_2643 : decode cL_law 2643 = .ok (.aload_n 3, 1) ∧ 2644 = 2643 + 1 := op_45 (rb52 43 rfl) rfl
theorem dL_law_2644 : decode cL_law 2644 = .ok (.invokestatic 297, 3) ∧ 2647 = 2644 + 3 := op_184 (rb52 44 rfl) (rb52 45 rfl) (rb52 46 rfl) rfl
theorem dL_law_2647 : decode cL_law 2647 = .ok (.istore 6, 2) ∧ 2649 = 2647 + 2 := op_54 (rb52 47 rfl) (rb52 48 rfl) rfl
theorem dL_law_2649 : decode cL_law 2649 = .ok (.aload_n 2, 1) ∧ 2650 = 2649 + 1 := op_44 (rb52 49 rfl) rfl
theorem dL_law_2650 : decode cL_law 2650 = .ok (.aload_n 0, 1) ∧ 2651 = 2650 + 1 := op_42 (rb53 0 rfl) rfl
theorem dL_law_2651 : decode cL_law 2651 = .ok (.iload 5, 2) ∧ 2653 = 2651 + 2 := op_21 (rb53 1 rfl) (rb53 2 rfl) rfl
theorem dL_law_2653 : decode cL_law 2653 = .ok (.iconst 1, 1) ∧ 2654 = 2653 + 1 := op_4 (rb53 3 rfl) rfl
theorem dL_law_2654 : decode cL_law 2654 = .ok (.iadd, 1) ∧ 2655 = 2654 + 1 := op_96 (rb53 4 rfl) rfl
theorem dL_law_2655 : decode cL_law 2655 = .ok (.iaload, 1) ∧ 2656 = 2655 + 1 := op_46 (rb53 5 rfl) rfl
theorem dL_law_2656 : decode cL_law 2656 = .ok (.aload_n 0, 1) ∧ 2657 = 2656 + 1 := op_42 (rb53 6 rfl) rfl
theorem dL_law_2657 : decode cL_law 2657 = .ok (.iload 5, 2) ∧ 2659 = 2657 + 2 := op_21 (rb53 7 rfl) (rb53 8 rfl) rfl
theorem dL_law_2659 : decode cL_law 2659 = .ok (.iconst 2, 1) ∧ 2660 = 2659 + 1 := op_5 (rb53 9 rfl) rfl
theorem dL_law_2660 : decode cL_law 2660 = .ok (.iadd, 1) ∧ 2661 = 2660 + 1 := op_96 (rb53 10 rfl) rfl
theorem dL_law_2661 : decode cL_law 2661 = .ok (.iaload, 1) ∧ 2662 = 2661 + 1 := op_46 (rb53 11 rfl) rfl
theorem dL_law_2662 : decode cL_law 2662 = .ok (.invokevirtual 299, 3) ∧ 2665 = 2662 + 3 := op_182 (rb53 12 rfl) (rb53 13 rfl) (rb53 14 rfl) rfl
theorem dL_law_2665 : decode cL_law 2665 = .ok (.istore 7, 2) ∧ 2667 = 2665 + 2 := op_54 (rb53 15 rfl) (rb53 16 rfl) rfl
theorem dL_law_2667 : decode cL_law 2667 = .ok (.aload_n 2, 1) ∧ 2668 = 2667 + 1 := op_44 (rb53 17 rfl) rfl
theorem dL_law_2668 : decode cL_law 2668 = .ok (.invokevirtual 164, 3) ∧ 2671 = 2668 + 3 := op_182 (rb53 18 rfl) (rb53 19 rfl) (rb53 20 rfl) rfl
theorem dL_law_2671 : decode cL_law 2671 = .ok (.iload 6, 2) ∧ 2673 = 2671 + 2 := op_21 (rb53 21 rfl) (rb53 22 rfl) rfl
theorem dL_law_2673 : decode cL_law 2673 = .ok (.if_icmp .eq 5, 3) ∧ 2676 = 2673 + 3 := op_159 (rb53 23 rfl) (rb53 24 rfl) (rb53 25 rfl) rfl rfl
theorem dL_law_2676 : decode cL_law 2676 = .ok (.iconst 0, 1) ∧ 2677 = 2676 + 1 := op_3 (rb53 26 rfl) rfl
theorem dL_law_2677 : decode cL_law 2677 = .ok (.ireturn, 1) ∧ 2678 = 2677 + 1 := op_172 (rb53 27 rfl) rfl
theorem dL_law_2678 : decode cL_law 2678 = .ok (.iload 6, 2) ∧ 2680 = 2678 + 2 := op_21 (rb53 28 rfl) (rb53 29 rfl) rfl
theorem dL_law_2680 : decode cL_law 2680 = .ok (.ifCond .ne 15, 3) ∧ 2683 = 2680 + 3 := op_154 (rb53 30 rfl) (rb53 31 rfl) (rb53 32 rfl) rfl rfl
theorem dL_law_2683 : decode cL_law 2683 = .ok (.aload_n 3, 1) ∧ 2684 = 2683 + 1 := op_45 (rb53 33 rfl) rfl
theorem dL_law_2684 : decode cL_law 2684 = .ok (.iconst 0, 1) ∧ 2685 = 2684 + 1 := op_3 (rb53 34 rfl) rfl
theorem dL_law_2685 : decode cL_law 2685 = .ok (.laload, 1) ∧ 2686 = 2685 + 1 := op_47 (rb53 35 rfl) rfl
theorem dL_law_2686 : decode cL_law 2686 = .ok (.iload 7, 2) ∧ 2688 = 2686 + 2 := op_21 (rb53 36 rfl) (rb53 37 rfl) rfl
theorem dL_law_2688 : decode cL_law 2688 = .ok (.i2l, 1) ∧ 2689 = 2688 + 1 := op_133 (rb53 38 rfl) rfl
theorem dL_law_2689 : decode cL_law 2689 = .ok (.lcmp, 1) ∧ 2690 = 2689 + 1 := op_148 (rb53 39 rfl) rfl
theorem dL_law_2690 : decode cL_law 2690 = .ok (.ifCond .eq 5, 3) ∧ 2693 = 2690 + 3 := op_153 (rb53 40 rfl) (rb53 41 rfl) (rb53 42 rfl) rfl rfl
theorem dL_law_2693 : decode cL_law 2693 = .ok (.iconst 0, 1) ∧ 2694 = 2693 + 1 := op_3 (rb53 43 rfl) rfl
theorem dL_law_2694 : decode cL_law 2694 = .ok (.ireturn, 1) ∧ 2695 = 2694 + 1 := op_172 (rb53 44 rfl) rfl
theorem dL_law_2695 : decode cL_law 2695 = .ok (.goto 365, 3) ∧ 2698 = 2695 + 3 := op_167 (rb53 45 rfl) (rb53 46 rfl) (rb53 47 rfl) rfl rfl
theorem dL_law_2698 : decode cL_law 2698 = .ok (.aload_n 1, 1) ∧ 2699 = 2698 + 1 := op_43 (rb53 48 rfl) rfl
theorem dL_law_2699 : decode cL_law 2699 = .ok (.aload_n 0, 1) ∧ 2700 = 2699 + 1 := op_42 (rb53 49 rfl) rfl
theorem dL_law_2700 : decode cL_law 2700 = .ok (.iload 5, 2) ∧ 2702 = 2700 + 2 := op_21 (rb54 0 rfl) (rb54 1 rfl) rfl
theorem dL_law_2702 : decode cL_law 2702 = .ok (.iconst 1, 1) ∧ 2703 = 2702 + 1 := op_4 (rb54 2 rfl) rfl
theorem dL_law_2703 : decode cL_law 2703 = .ok (.iadd, 1) ∧ 2704 = 2703 + 1 := op_96 (rb54 3 rfl) rfl
theorem dL_law_2704 : decode cL_law 2704 = .ok (.iaload, 1) ∧ 2705 = 2704 + 1 := op_46 (rb54 4 rfl) rfl
theorem dL_law_2705 : decode cL_law 2705 = .ok (.aload_n 3, 1) ∧ 2706 = 2705 + 1 := op_45 (rb54 5 rfl) rfl
theorem dL_law_2706 : decode cL_law 2706 = .ok (.invokestatic 300, 3) ∧ 2709 = 2706 + 3 := op_184 (rb54 6 rfl) (rb54 7 rfl) (rb54 8 rfl) rfl
theorem dL_law_2709 : decode cL_law 2709 = .ok (.istore 6, 2) ∧ 2711 = 2709 + 2 := op_54 (rb54 9 rfl) (rb54 10 rfl) rfl
theorem dL_law_2711 : decode cL_law 2711 = .ok (.aload_n 2, 1) ∧ 2712 = 2711 + 1 := op_44 (rb54 11 rfl) rfl
theorem dL_law_2712 : decode cL_law 2712 = .ok (.aload_n 0, 1) ∧ 2713 = 2712 + 1 := op_42 (rb54 12 rfl) rfl
theorem dL_law_2713 : decode cL_law 2713 = .ok (.iload 5, 2) ∧ 2715 = 2713 + 2 := op_21 (rb54 13 rfl) (rb54 14 rfl) rfl
theorem dL_law_2715 : decode cL_law 2715 = .ok (.iconst 1, 1) ∧ 2716 = 2715 + 1 := op_4 (rb54 15 rfl) rfl
theorem dL_law_2716 : decode cL_law 2716 = .ok (.iadd, 1) ∧ 2717 = 2716 + 1 := op_96 (rb54 16 rfl) rfl
theorem dL_law_2717 : decode cL_law 2717 = .ok (.iaload, 1) ∧ 2718 = 2717 + 1 := op_46 (rb54 17 rfl) rfl
theorem dL_law_2718 : decode cL_law 2718 = .ok (.invokevirtual 302, 3) ∧ 2721 = 2718 + 3 := op_182 (rb54 18 rfl) (rb54 19 rfl) (rb54 20 rfl) rfl
theorem dL_law_2721 : decode cL_law 2721 = .ok (.istore 7, 2) ∧ 2723 = 2721 + 2 := op_54 (rb54 21 rfl) (rb54 22 rfl) rfl
theorem dL_law_2723 : decode cL_law 2723 = .ok (.aload_n 2, 1) ∧ 2724 = 2723 + 1 := op_44 (rb54 23 rfl) rfl
theorem dL_law_2724 : decode cL_law 2724 = .ok (.invokevirtual 164, 3) ∧ 2727 = 2724 + 3 := op_182 (rb54 24 rfl) (rb54 25 rfl) (rb54 26 rfl) rfl
theorem dL_law_2727 : decode cL_law 2727 = .ok (.iload 6, 2) ∧ 2729 = 2727 + 2 := op_21 (rb54 27 rfl) (rb54 28 rfl) rfl
theorem dL_law_2729 : decode cL_law 2729 = .ok (.if_icmp .eq 5, 3) ∧ 2732 = 2729 + 3 := op_159 (rb54 29 rfl) (rb54 30 rfl) (rb54 31 rfl) rfl rfl
theorem dL_law_2732 : decode cL_law 2732 = .ok (.iconst 0, 1) ∧ 2733 = 2732 + 1 := op_3 (rb54 32 rfl) rfl
theorem dL_law_2733 : decode cL_law 2733 = .ok (.ireturn, 1) ∧ 2734 = 2733 + 1 := op_172 (rb54 33 rfl) rfl
theorem dL_law_2734 : decode cL_law 2734 = .ok (.iload 6, 2) ∧ 2736 = 2734 + 2 := op_21 (rb54 34 rfl) (rb54 35 rfl) rfl
theorem dL_law_2736 : decode cL_law 2736 = .ok (.ifCond .ne 15, 3) ∧ 2739 = 2736 + 3 := op_154 (rb54 36 rfl) (rb54 37 rfl) (rb54 38 rfl) rfl rfl
theorem dL_law_2739 : decode cL_law 2739 = .ok (.aload_n 3, 1) ∧ 2740 = 2739 + 1 := op_45 (rb54 39 rfl) rfl
theorem dL_law_2740 : decode cL_law 2740 = .ok (.iconst 0, 1) ∧ 2741 = 2740 + 1 := op_3 (rb54 40 rfl) rfl
theorem dL_law_2741 : decode cL_law 2741 = .ok (.laload, 1) ∧ 2742 = 2741 + 1 := op_47 (rb54 41 rfl) rfl
theorem dL_law_2742 : decode cL_law 2742 = .ok (.iload 7, 2) ∧ 2744 = 2742 + 2 := op_21 (rb54 42 rfl) (rb54 43 rfl) rfl
theorem dL_law_2744 : decode cL_law 2744 = .ok (.i2l, 1) ∧ 2745 = 2744 + 1 := op_133 (rb54 44 rfl) rfl
theorem dL_law_2745 : decode cL_law 2745 = .ok (.lcmp, 1) ∧ 2746 = 2745 + 1 := op_148 (rb54 45 rfl) rfl
theorem dL_law_2746 : decode cL_law 2746 = .ok (.ifCond .eq 5, 3) ∧ 2749 = 2746 + 3 := op_153 (rb54 46 rfl) (rb54 47 rfl) (rb54 48 rfl) rfl rfl
theorem dL_law_2749 : decode cL_law 2749 = .ok (.iconst 0, 1) ∧ 2750 = 2749 + 1 := op_3 (rb54 49 rfl) rfl
theorem dL_law_2750 : decode cL_law 2750 = .ok (.ireturn, 1) ∧ 2751 = 2750 + 1 := op_172 (rb55 0 rfl) rfl
theorem dL_law_2751 : decode cL_law 2751 = .ok (.goto 309, 3) ∧ 2754 = 2751 + 3 := op_167 (rb55 1 rfl) (rb55 2 rfl) (rb55 3 rfl) rfl rfl
theorem dL_law_2754 : decode cL_law 2754 = .ok (.aload_n 1, 1) ∧ 2755 = 2754 + 1 := op_43 (rb55 4 rfl) rfl
theorem dL_law_2755 : decode cL_law 2755 = .ok (.aload_n 0, 1) ∧ 2756 = 2755 + 1 := op_42 (rb55 5 rfl) rfl
theorem dL_law_2756 : decode cL_law 2756 = .ok (.iload 5, 2) ∧ 2758 = 2756 + 2 := op_21 (rb55 6 rfl) (rb55 7 rfl) rfl
theorem dL_law_2758 : decode cL_law 2758 = .ok (.iconst 1, 1) ∧ 2759 = 2758 + 1 := op_4 (rb55 8 rfl) rfl
theorem dL_law_2759 : decode cL_law 2759 = .ok (.iadd, 1) ∧ 2760 = 2759 + 1 := op_96 (rb55 9 rfl) rfl
theorem dL_law_2760 : decode cL_law 2760 = .ok (.iaload, 1) ∧ 2761 = 2760 + 1 := op_46 (rb55 10 rfl) rfl
theorem dL_law_2761 : decode cL_law 2761 = .ok (.aload_n 0, 1) ∧ 2762 = 2761 + 1 := op_42 (rb55 11 rfl) rfl
theorem dL_law_2762 : decode cL_law 2762 = .ok (.iload 5, 2) ∧ 2764 = 2762 + 2 := op_21 (rb55 12 rfl) (rb55 13 rfl) rfl
theorem dL_law_2764 : decode cL_law 2764 = .ok (.iconst 2, 1) ∧ 2765 = 2764 + 1 := op_5 (rb55 14 rfl) rfl
theorem dL_law_2765 : decode cL_law 2765 = .ok (.iadd, 1) ∧ 2766 = 2765 + 1 := op_96 (rb55 15 rfl) rfl
theorem dL_law_2766 : decode cL_law 2766 = .ok (.iaload, 1) ∧ 2767 = 2766 + 1 := op_46 (rb55 16 rfl) rfl
theorem dL_law_2767 : decode cL_law 2767 = .ok (.aload_n 3, 1) ∧ 2768 = 2767 + 1 := op_45 (rb55 17 rfl) rfl
theorem dL_law_2768 : decode cL_law 2768 = .ok (.invokestatic 303, 3) ∧ 2771 = 2768 + 3 := op_184 (rb55 18 rfl) (rb55 19 rfl) (rb55 20 rfl) rfl
theorem dL_law_2771 : decode cL_law 2771 = .ok (.istore 6, 2) ∧ 2773 = 2771 + 2 := op_54 (rb55 21 rfl) (rb55 22 rfl) rfl
theorem dL_law_2773 : decode cL_law 2773 = .ok (.aload_n 2, 1) ∧ 2774 = 2773 + 1 := op_44 (rb55 23 rfl) rfl
theorem dL_law_2774 : decode cL_law 2774 = .ok (.aload_n 0, 1) ∧ 2775 = 2774 + 1 := op_42 (rb55 24 rfl) rfl
theorem dL_law_2775 : decode cL_law 2775 = .ok (.iload 5, 2) ∧ 2777 = 2775 + 2 := op_21 (rb55 25 rfl) (rb55 26 rfl) rfl
theorem dL_law_2777 : decode cL_law 2777 = .ok (.iconst 1, 1) ∧ 2778 = 2777 + 1 := op_4 (rb55 27 rfl) rfl
theorem dL_law_2778 : decode cL_law 2778 = .ok (.iadd, 1) ∧ 2779 = 2778 + 1 := op_96 (rb55 28 rfl) rfl
theorem dL_law_2779 : decode cL_law 2779 = .ok (.iaload, 1) ∧ 2780 = 2779 + 1 := op_46 (rb55 29 rfl) rfl
theorem dL_law_2780 : decode cL_law 2780 = .ok (.aload_n 0, 1) ∧ 2781 = 2780 + 1 := op_42 (rb55 30 rfl) rfl
theorem dL_law_2781 : decode cL_law 2781 = .ok (.iload 5, 2) ∧ 2783 = 2781 + 2 := op_21 (rb55 31 rfl) (rb55 32 rfl) rfl
theorem dL_law_2783 : decode cL_law 2783 = .ok (.iconst 2, 1) ∧ 2784 = 2783 + 1 := op_5 (rb55 33 rfl) rfl
theorem dL_law_2784 : decode cL_law 2784 = .ok (.iadd, 1) ∧ 2785 = 2784 + 1 := op_96 (rb55 34 rfl) rfl
theorem dL_law_2785 : decode cL_law 2785 = .ok (.iaload, 1) ∧ 2786 = 2785 + 1 := op_46 (rb55 35 rfl) rfl
theorem dL_law_2786 : decode cL_law 2786 = .ok (.invokevirtual 305, 3) ∧ 2789 = 2786 + 3 := op_182 (rb55 36 rfl) (rb55 37 rfl) (rb55 38 rfl) rfl
theorem dL_law_2789 : decode cL_law 2789 = .ok (.istore 7, 2) ∧ 2791 = 2789 + 2 := op_54 (rb55 39 rfl) (rb55 40 rfl) rfl
theorem dL_law_2791 : decode cL_law 2791 = .ok (.aload_n 2, 1) ∧ 2792 = 2791 + 1 := op_44 (rb55 41 rfl) rfl
theorem dL_law_2792 : decode cL_law 2792 = .ok (.invokevirtual 164, 3) ∧ 2795 = 2792 + 3 := op_182 (rb55 42 rfl) (rb55 43 rfl) (rb55 44 rfl) rfl
theorem dL_law_2795 : decode cL_law 2795 = .ok (.iload 6, 2) ∧ 2797 = 2795 + 2 := op_21 (rb55 45 rfl) (rb55 46 rfl) rfl
theorem dL_law_2797 : decode cL_law 2797 = .ok (.if_icmp .eq 5, 3) ∧ 2800 = 2797 + 3 := op_159 (rb55 47 rfl) (rb55 48 rfl) (rb55 49 rfl) rfl rfl
theorem dL_law_2800 : decode cL_law 2800 = .ok (.iconst 0, 1) ∧ 2801 = 2800 + 1 := op_3 (rb56 0 rfl) rfl
theorem dL_law_2801 : decode cL_law 2801 = .ok (.ireturn, 1) ∧ 2802 = 2801 + 1 := op_172 (rb56 1 rfl) rfl
theorem dL_law_2802 : decode cL_law 2802 = .ok (.iload 6, 2) ∧ 2804 = 2802 + 2 := op_21 (rb56 2 rfl) (rb56 3 rfl) rfl
theorem dL_law_2804 : decode cL_law 2804 = .ok (.ifCond .ne 15, 3) ∧ 2807 = 2804 + 3 := op_154 (rb56 4 rfl) (rb56 5 rfl) (rb56 6 rfl) rfl rfl
theorem dL_law_2807 : decode cL_law 2807 = .ok (.aload_n 3, 1) ∧ 2808 = 2807 + 1 := op_45 (rb56 7 rfl) rfl
theorem dL_law_2808 : decode cL_law 2808 = .ok (.iconst 0, 1) ∧ 2809 = 2808 + 1 := op_3 (rb56 8 rfl) rfl
theorem dL_law_2809 : decode cL_law 2809 = .ok (.laload, 1) ∧ 2810 = 2809 + 1 := op_47 (rb56 9 rfl) rfl
theorem dL_law_2810 : decode cL_law 2810 = .ok (.iload 7, 2) ∧ 2812 = 2810 + 2 := op_21 (rb56 10 rfl) (rb56 11 rfl) rfl
theorem dL_law_2812 : decode cL_law 2812 = .ok (.i2l, 1) ∧ 2813 = 2812 + 1 := op_133 (rb56 12 rfl) rfl
theorem dL_law_2813 : decode cL_law 2813 = .ok (.lcmp, 1) ∧ 2814 = 2813 + 1 := op_148 (rb56 13 rfl) rfl
theorem dL_law_2814 : decode cL_law 2814 = .ok (.ifCond .eq 5, 3) ∧ 2817 = 2814 + 3 := op_153 (rb56 14 rfl) (rb56 15 rfl) (rb56 16 rfl) rfl rfl
theorem dL_law_2817 : decode cL_law 2817 = .ok (.iconst 0, 1) ∧ 2818 = 2817 + 1 := op_3 (rb56 17 rfl) rfl
theorem dL_law_2818 : decode cL_law 2818 = .ok (.ireturn, 1) ∧ 2819 = 2818 + 1 := op_172 (rb56 18 rfl) rfl
theorem dL_law_2819 : decode cL_law 2819 = .ok (.goto 241, 3) ∧ 2822 = 2819 + 3 := op_167 (rb56 19 rfl) (rb56 20 rfl) (rb56 21 rfl) rfl rfl
theorem dL_law_2822 : decode cL_law 2822 = .ok (.aload_n 1, 1) ∧ 2823 = 2822 + 1 := op_43 (rb56 22 rfl) rfl
theorem dL_law_2823 : decode cL_law 2823 = .ok (.aload_n 0, 1) ∧ 2824 = 2823 + 1 := op_42 (rb56 23 rfl) rfl
theorem dL_law_2824 : decode cL_law 2824 = .ok (.iload 5, 2) ∧ 2826 = 2824 + 2 := op_21 (rb56 24 rfl) (rb56 25 rfl) rfl
theorem dL_law_2826 : decode cL_law 2826 = .ok (.iconst 1, 1) ∧ 2827 = 2826 + 1 := op_4 (rb56 26 rfl) rfl
theorem dL_law_2827 : decode cL_law 2827 = .ok (.iadd, 1) ∧ 2828 = 2827 + 1 := op_96 (rb56 27 rfl) rfl
theorem dL_law_2828 : decode cL_law 2828 = .ok (.iaload, 1) ∧ 2829 = 2828 + 1 := op_46 (rb56 28 rfl) rfl
theorem dL_law_2829 : decode cL_law 2829 = .ok (.aload_n 0, 1) ∧ 2830 = 2829 + 1 := op_42 (rb56 29 rfl) rfl
theorem dL_law_2830 : decode cL_law 2830 = .ok (.iload 5, 2) ∧ 2832 = 2830 + 2 := op_21 (rb56 30 rfl) (rb56 31 rfl) rfl
theorem dL_law_2832 : decode cL_law 2832 = .ok (.iconst 2, 1) ∧ 2833 = 2832 + 1 := op_5 (rb56 32 rfl) rfl
theorem dL_law_2833 : decode cL_law 2833 = .ok (.iadd, 1) ∧ 2834 = 2833 + 1 := op_96 (rb56 33 rfl) rfl
theorem dL_law_2834 : decode cL_law 2834 = .ok (.iaload, 1) ∧ 2835 = 2834 + 1 := op_46 (rb56 34 rfl) rfl
theorem dL_law_2835 : decode cL_law 2835 = .ok (.aload_n 3, 1) ∧ 2836 = 2835 + 1 := op_45 (rb56 35 rfl) rfl
theorem dL_law_2836 : decode cL_law 2836 = .ok (.invokestatic 306, 3) ∧ 2839 = 2836 + 3 := op_184 (rb56 36 rfl) (rb56 37 rfl) (rb56 38 rfl) rfl
theorem dL_law_2839 : decode cL_law 2839 = .ok (.istore 6, 2) ∧ 2841 = 2839 + 2 := op_54 (rb56 39 rfl) (rb56 40 rfl) rfl
theorem dL_law_2841 : decode cL_law 2841 = .ok (.aload_n 2, 1) ∧ 2842 = 2841 + 1 := op_44 (rb56 41 rfl) rfl
theorem dL_law_2842 : decode cL_law 2842 = .ok (.aload_n 0, 1) ∧ 2843 = 2842 + 1 := op_42 (rb56 42 rfl) rfl
theorem dL_law_2843 : decode cL_law 2843 = .ok (.iload 5, 2) ∧ 2845 = 2843 + 2 := op_21 (rb56 43 rfl) (rb56 44 rfl) rfl
theorem dL_law_2845 : decode cL_law 2845 = .ok (.iconst 1, 1) ∧ 2846 = 2845 + 1 := op_4 (rb56 45 rfl) rfl
theorem dL_law_2846 : decode cL_law 2846 = .ok (.iadd, 1) ∧ 2847 = 2846 + 1 := op_96 (rb56 46 rfl) rfl
theorem dL_law_2847 : decode cL_law 2847 = .ok (.iaload, 1) ∧ 2848 = 2847 + 1 := op_46 (rb56 47 rfl) rfl
theorem dL_law_2848 : decode cL_law 2848 = .ok (.aload_n 0, 1) ∧ 2849 = 2848 + 1 := op_42 (rb56 48 rfl) rfl
theorem dL_law_2849 : decode cL_law 2849 = .ok (.iload 5, 2) ∧ 2851 = 2849 + 2 := op_21 (rb56 49 rfl) (rb57 0 rfl) rfl
theorem dL_law_2851 : decode cL_law 2851 = .ok (.iconst 2, 1) ∧ 2852 = 2851 + 1 := op_5 (rb57 1 rfl) rfl
theorem dL_law_2852 : decode cL_law 2852 = .ok (.iadd, 1) ∧ 2853 = 2852 + 1 := op_96 (rb57 2 rfl) rfl
theorem dL_law_2853 : decode cL_law 2853 = .ok (.iaload, 1) ∧ 2854 = 2853 + 1 := op_46 (rb57 3 rfl) rfl
theorem dL_law_2854 : decode cL_law 2854 = .ok (.invokevirtual 308, 3) ∧ 2857 = 2854 + 3 := op_182 (rb57 4 rfl) (rb57 5 rfl) (rb57 6 rfl) rfl
theorem dL_law_2857 : decode cL_law 2857 = .ok (.istore 7, 2) ∧ 2859 = 2857 + 2 := op_54 (rb57 7 rfl) (rb57 8 rfl) rfl
theorem dL_law_2859 : decode cL_law 2859 = .ok (.aload_n 2, 1) ∧ 2860 = 2859 + 1 := op_44 (rb57 9 rfl) rfl
theorem dL_law_2860 : decode cL_law 2860 = .ok (.invokevirtual 164, 3) ∧ 2863 = 2860 + 3 := op_182 (rb57 10 rfl) (rb57 11 rfl) (rb57 12 rfl) rfl
theorem dL_law_2863 : decode cL_law 2863 = .ok (.iload 6, 2) ∧ 2865 = 2863 + 2 := op_21 (rb57 13 rfl) (rb57 14 rfl) rfl
theorem dL_law_2865 : decode cL_law 2865 = .ok (.if_icmp .eq 5, 3) ∧ 2868 = 2865 + 3 := op_159 (rb57 15 rfl) (rb57 16 rfl) (rb57 17 rfl) rfl rfl
theorem dL_law_2868 : decode cL_law 2868 = .ok (.iconst 0, 1) ∧ 2869 = 2868 + 1 := op_3 (rb57 18 rfl) rfl
theorem dL_law_2869 : decode cL_law 2869 = .ok (.ireturn, 1) ∧ 2870 = 2869 + 1 := op_172 (rb57 19 rfl) rfl
theorem dL_law_2870 : decode cL_law 2870 = .ok (.iload 6, 2) ∧ 2872 = 2870 + 2 := op_21 (rb57 20 rfl) (rb57 21 rfl) rfl
theorem dL_law_2872 : decode cL_law 2872 = .ok (.ifCond .ne 15, 3) ∧ 2875 = 2872 + 3 := op_154 (rb57 22 rfl) (rb57 23 rfl) (rb57 24 rfl) rfl rfl
theorem dL_law_2875 : decode cL_law 2875 = .ok (.aload_n 3, 1) ∧ 2876 = 2875 + 1 := op_45 (rb57 25 rfl) rfl
theorem dL_law_2876 : decode cL_law 2876 = .ok (.iconst 0, 1) ∧ 2877 = 2876 + 1 := op_3 (rb57 26 rfl) rfl
theorem dL_law_2877 : decode cL_law 2877 = .ok (.laload, 1) ∧ 2878 = 2877 + 1 := op_47 (rb57 27 rfl) rfl
theorem dL_law_2878 : decode cL_law 2878 = .ok (.iload 7, 2) ∧ 2880 = 2878 + 2 := op_21 (rb57 28 rfl) (rb57 29 rfl) rfl
theorem dL_law_2880 : decode cL_law 2880 = .ok (.i2l, 1) ∧ 2881 = 2880 + 1 := op_133 (rb57 30 rfl) rfl
theorem dL_law_2881 : decode cL_law 2881 = .ok (.lcmp, 1) ∧ 2882 = 2881 + 1 := op_148 (rb57 31 rfl) rfl
theorem dL_law_2882 : decode cL_law 2882 = .ok (.ifCond .eq 5, 3) ∧ 2885 = 2882 + 3 := op_153 (rb57 32 rfl) (rb57 33 rfl) (rb57 34 rfl) rfl rfl
theorem dL_law_2885 : decode cL_law 2885 = .ok (.iconst 0, 1) ∧ 2886 = 2885 + 1 := op_3 (rb57 35 rfl) rfl
theorem dL_law_2886 : decode cL_law 2886 = .ok (.ireturn, 1) ∧ 2887 = 2886 + 1 := op_172 (rb57 36 rfl) rfl
theorem dL_law_2887 : decode cL_law 2887 = .ok (.goto 173, 3) ∧ 2890 = 2887 + 3 := op_167 (rb57 37 rfl) (rb57 38 rfl) (rb57 39 rfl) rfl rfl
theorem dL_law_2890 : decode cL_law 2890 = .ok (.aload_n 1, 1) ∧ 2891 = 2890 + 1 := op_43 (rb57 40 rfl) rfl
theorem dL_law_2891 : decode cL_law 2891 = .ok (.aload_n 3, 1) ∧ 2892 = 2891 + 1 := op_45 (rb57 41 rfl) rfl
theorem dL_law_2892 : decode cL_law 2892 = .ok (.invokestatic 309, 3) ∧ 2895 = 2892 + 3 := op_184 (rb57 42 rfl) (rb57 43 rfl) (rb57 44 rfl) rfl
theorem dL_law_2895 : decode cL_law 2895 = .ok (.istore 6, 2) ∧ 2897 = 2895 + 2 := op_54 (rb57 45 rfl) (rb57 46 rfl) rfl
theorem dL_law_2897 : decode cL_law 2897 = .ok (.aload_n 2, 1) ∧ 2898 = 2897 + 1 := op_44 (rb57 47 rfl) rfl
theorem dL_law_2898 : decode cL_law 2898 = .ok (.invokevirtual 311, 3) ∧ 2901 = 2898 + 3 := op_182 (rb57 48 rfl) (rb57 49 rfl) (rb58 0 rfl) rfl
theorem dL_law_2901 : decode cL_law 2901 = .ok (.istore 7, 2) ∧ 2903 = 2901 + 2 := op_54 (rb58 1 rfl) (rb58 2 rfl) rfl
theorem dL_law_2903 : decode cL_law 2903 = .ok (.aload_n 2, 1) ∧ 2904 = 2903 + 1 := op_44 (rb58 3 rfl) rfl
theorem dL_law_2904 : decode cL_law 2904 = .ok (.invokevirtual 164, 3) ∧ 2907 = 2904 + 3 := op_182 (rb58 4 rfl) (rb58 5 rfl) (rb58 6 rfl) rfl
theorem dL_law_2907 : decode cL_law 2907 = .ok (.iload 6, 2) ∧ 2909 = 2907 + 2 := op_21 (rb58 7 rfl) (rb58 8 rfl) rfl
theorem dL_law_2909 : decode cL_law 2909 = .ok (.if_icmp .eq 5, 3) ∧ 2912 = 2909 + 3 := op_159 (rb58 9 rfl) (rb58 10 rfl) (rb58 11 rfl) rfl rfl
theorem dL_law_2912 : decode cL_law 2912 = .ok (.iconst 0, 1) ∧ 2913 = 2912 + 1 := op_3 (rb58 12 rfl) rfl
theorem dL_law_2913 : decode cL_law 2913 = .ok (.ireturn, 1) ∧ 2914 = 2913 + 1 := op_172 (rb58 13 rfl) rfl
theorem dL_law_2914 : decode cL_law 2914 = .ok (.iload 6, 2) ∧ 2916 = 2914 + 2 := op_21 (rb58 14 rfl) (rb58 15 rfl) rfl
theorem dL_law_2916 : decode cL_law 2916 = .ok (.ifCond .ne 15, 3) ∧ 2919 = 2916 + 3 := op_154 (rb58 16 rfl) (rb58 17 rfl) (rb58 18 rfl) rfl rfl
theorem dL_law_2919 : decode cL_law 2919 = .ok (.aload_n 3, 1) ∧ 2920 = 2919 + 1 := op_45 (rb58 19 rfl) rfl
theorem dL_law_2920 : decode cL_law 2920 = .ok (.iconst 0, 1) ∧ 2921 = 2920 + 1 := op_3 (rb58 20 rfl) rfl
theorem dL_law_2921 : decode cL_law 2921 = .ok (.laload, 1) ∧ 2922 = 2921 + 1 := op_47 (rb58 21 rfl) rfl
theorem dL_law_2922 : decode cL_law 2922 = .ok (.iload 7, 2) ∧ 2924 = 2922 + 2 := op_21 (rb58 22 rfl) (rb58 23 rfl) rfl
theorem dL_law_2924 : decode cL_law 2924 = .ok (.i2l, 1) ∧ 2925 = 2924 + 1 := op_133 (rb58 24 rfl) rfl
theorem dL_law_2925 : decode cL_law 2925 = .ok (.lcmp, 1) ∧ 2926 = 2925 + 1 := op_148 (rb58 25 rfl) rfl
theorem dL_law_2926 : decode cL_law 2926 = .ok (.ifCond .eq 5, 3) ∧ 2929 = 2926 + 3 := op_153 (rb58 26 rfl) (rb58 27 rfl) (rb58 28 rfl) rfl rfl
theorem dL_law_2929 : decode cL_law 2929 = .ok (.iconst 0, 1) ∧ 2930 = 2929 + 1 := op_3 (rb58 29 rfl) rfl
theorem dL_law_2930 : decode cL_law 2930 = .ok (.ireturn, 1) ∧ 2931 = 2930 + 1 := op_172 (rb58 30 rfl) rfl
theorem dL_law_2931 : decode cL_law 2931 = .ok (.goto 129, 3) ∧ 2934 = 2931 + 3 := op_167 (rb58 31 rfl) (rb58 32 rfl) (rb58 33 rfl) rfl rfl
theorem dL_law_2934 : decode cL_law 2934 = .ok (.aload_n 1, 1) ∧ 2935 = 2934 + 1 := op_43 (rb58 34 rfl) rfl
theorem dL_law_2935 : decode cL_law 2935 = .ok (.invokevirtual 312, 3) ∧ 2938 = 2935 + 3 := op_182 (rb58 35 rfl) (rb58 36 rfl) (rb58 37 rfl) rfl
theorem dL_law_2938 : decode cL_law 2938 = .ok (.aload_n 2, 1) ∧ 2939 = 2938 + 1 := op_44 (rb58 38 rfl) rfl
theorem dL_law_2939 : decode cL_law 2939 = .ok (.invokevirtual 315, 3) ∧ 2942 = 2939 + 3 := op_182 (rb58 39 rfl) (rb58 40 rfl) (rb58 41 rfl) rfl
theorem dL_law_2942 : decode cL_law 2942 = .ok (.if_icmp .eq 118, 3) ∧ 2945 = 2942 + 3 := op_159 (rb58 42 rfl) (rb58 43 rfl) (rb58 44 rfl) rfl rfl
theorem dL_law_2945 : decode cL_law 2945 = .ok (.iconst 0, 1) ∧ 2946 = 2945 + 1 := op_3 (rb58 45 rfl) rfl
theorem dL_law_2946 : decode cL_law 2946 = .ok (.ireturn, 1) ∧ 2947 = 2946 + 1 := op_172 (rb58 46 rfl) rfl
theorem dL_law_2947 : decode cL_law 2947 = .ok (.aload_n 1, 1) ∧ 2948 = 2947 + 1 := op_43 (rb58 47 rfl) rfl
theorem dL_law_2948 : decode cL_law 2948 = .ok (.aload_n 0, 1) ∧ 2949 = 2948 + 1 := op_42 (rb58 48 rfl) rfl
theorem dL_law_2949 : decode cL_law 2949 = .ok (.iload 5, 2) ∧ 2951 = 2949 + 2 := op_21 (rb58 49 rfl) (rb59 0 rfl) rfl
theorem dL_law_2951 : decode cL_law 2951 = .ok (.iconst 1, 1) ∧ 2952 = 2951 + 1 := op_4 (rb59 1 rfl) rfl
theorem dL_law_2952 : decode cL_law 2952 = .ok (.iadd, 1) ∧ 2953 = 2952 + 1 := op_96 (rb59 2 rfl) rfl
theorem dL_law_2953 : decode cL_law 2953 = .ok (.iaload, 1) ∧ 2954 = 2953 + 1 := op_46 (rb59 3 rfl) rfl
theorem dL_law_2954 : decode cL_law 2954 = .ok (.aload_n 3, 1) ∧ 2955 = 2954 + 1 := op_45 (rb59 4 rfl) rfl
theorem dL_law_2955 : decode cL_law 2955 = .ok (.invokestatic 316, 3) ∧ 2958 = 2955 + 3 := op_184 (rb59 5 rfl) (rb59 6 rfl) (rb59 7 rfl) rfl
theorem dL_law_2958 : decode cL_law 2958 = .ok (.istore 6, 2) ∧ 2960 = 2958 + 2 := op_54 (rb59 8 rfl) (rb59 9 rfl) rfl
theorem dL_law_2960 : decode cL_law 2960 = .ok (.aload_n 2, 1) ∧ 2961 = 2960 + 1 := op_44 (rb59 10 rfl) rfl
theorem dL_law_2961 : decode cL_law 2961 = .ok (.aload_n 0, 1) ∧ 2962 = 2961 + 1 := op_42 (rb59 11 rfl) rfl
theorem dL_law_2962 : decode cL_law 2962 = .ok (.iload 5, 2) ∧ 2964 = 2962 + 2 := op_21 (rb59 12 rfl) (rb59 13 rfl) rfl
theorem dL_law_2964 : decode cL_law 2964 = .ok (.iconst 1, 1) ∧ 2965 = 2964 + 1 := op_4 (rb59 14 rfl) rfl
theorem dL_law_2965 : decode cL_law 2965 = .ok (.iadd, 1) ∧ 2966 = 2965 + 1 := op_96 (rb59 15 rfl) rfl
theorem dL_law_2966 : decode cL_law 2966 = .ok (.iaload, 1) ∧ 2967 = 2966 + 1 := op_46 (rb59 16 rfl) rfl
theorem dL_law_2967 : decode cL_law 2967 = .ok (.invokevirtual 318, 3) ∧ 2970 = 2967 + 3 := op_182 (rb59 17 rfl) (rb59 18 rfl) (rb59 19 rfl) rfl
theorem dL_law_2970 : decode cL_law 2970 = .ok (.istore 7, 2) ∧ 2972 = 2970 + 2 := op_54 (rb59 20 rfl) (rb59 21 rfl) rfl
theorem dL_law_2972 : decode cL_law 2972 = .ok (.aload_n 2, 1) ∧ 2973 = 2972 + 1 := op_44 (rb59 22 rfl) rfl
theorem dL_law_2973 : decode cL_law 2973 = .ok (.invokevirtual 164, 3) ∧ 2976 = 2973 + 3 := op_182 (rb59 23 rfl) (rb59 24 rfl) (rb59 25 rfl) rfl
theorem dL_law_2976 : decode cL_law 2976 = .ok (.iload 6, 2) ∧ 2978 = 2976 + 2 := op_21 (rb59 26 rfl) (rb59 27 rfl) rfl
theorem dL_law_2978 : decode cL_law 2978 = .ok (.if_icmp .eq 5, 3) ∧ 2981 = 2978 + 3 := op_159 (rb59 28 rfl) (rb59 29 rfl) (rb59 30 rfl) rfl rfl
theorem dL_law_2981 : decode cL_law 2981 = .ok (.iconst 0, 1) ∧ 2982 = 2981 + 1 := op_3 (rb59 31 rfl) rfl
theorem dL_law_2982 : decode cL_law 2982 = .ok (.ireturn, 1) ∧ 2983 = 2982 + 1 := op_172 (rb59 32 rfl) rfl
theorem dL_law_2983 : decode cL_law 2983 = .ok (.iload 6, 2) ∧ 2985 = 2983 + 2 := op_21 (rb59 33 rfl) (rb59 34 rfl) rfl
theorem dL_law_2985 : decode cL_law 2985 = .ok (.ifCond .ne 15, 3) ∧ 2988 = 2985 + 3 := op_154 (rb59 35 rfl) (rb59 36 rfl) (rb59 37 rfl) rfl rfl
theorem dL_law_2988 : decode cL_law 2988 = .ok (.aload_n 3, 1) ∧ 2989 = 2988 + 1 := op_45 (rb59 38 rfl) rfl
theorem dL_law_2989 : decode cL_law 2989 = .ok (.iconst 0, 1) ∧ 2990 = 2989 + 1 := op_3 (rb59 39 rfl) rfl
theorem dL_law_2990 : decode cL_law 2990 = .ok (.laload, 1) ∧ 2991 = 2990 + 1 := op_47 (rb59 40 rfl) rfl
theorem dL_law_2991 : decode cL_law 2991 = .ok (.iload 7, 2) ∧ 2993 = 2991 + 2 := op_21 (rb59 41 rfl) (rb59 42 rfl) rfl
theorem dL_law_2993 : decode cL_law 2993 = .ok (.i2l, 1) ∧ 2994 = 2993 + 1 := op_133 (rb59 43 rfl) rfl
theorem dL_law_2994 : decode cL_law 2994 = .ok (.lcmp, 1) ∧ 2995 = 2994 + 1 := op_148 (rb59 44 rfl) rfl
theorem dL_law_2995 : decode cL_law 2995 = .ok (.ifCond .eq 5, 3) ∧ 2998 = 2995 + 3 := op_153 (rb59 45 rfl) (rb59 46 rfl) (rb59 47 rfl) rfl rfl
theorem dL_law_2998 : decode cL_law 2998 = .ok (.iconst 0, 1) ∧ 2999 = 2998 + 1 := op_3 (rb59 48 rfl) rfl
theorem dL_law_2999 : decode cL_law 2999 = .ok (.ireturn, 1) ∧ 3000 = 2999 + 1 := op_172 (rb59 49 rfl) rfl
theorem dL_law_3000 : decode cL_law 3000 = .ok (.goto 60, 3) ∧ 3003 = 3000 + 3 := op_167 (rb60 0 rfl) (rb60 1 rfl) (rb60 2 rfl) rfl rfl
theorem dL_law_3003 : decode cL_law 3003 = .ok (.aload_n 1, 1) ∧ 3004 = 3003 + 1 := op_43 (rb60 3 rfl) rfl
theorem dL_law_3004 : decode cL_law 3004 = .ok (.aload_n 3, 1) ∧ 3005 = 3004 + 1 := op_45 (rb60 4 rfl) rfl
theorem dL_law_3005 : decode cL_law 3005 = .ok (.invokestatic 319, 3) ∧ 3008 = 3005 + 3 := op_184 (rb60 5 rfl) (rb60 6 rfl) (rb60 7 rfl) rfl
theorem dL_law_3008 : decode cL_law 3008 = .ok (.istore 6, 2) ∧ 3010 = 3008 + 2 := op_54 (rb60 8 rfl) (rb60 9 rfl) rfl
theorem dL_law_3010 : decode cL_law 3010 = .ok (.aload_n 2, 1) ∧ 3011 = 3010 + 1 := op_44 (rb60 10 rfl) rfl
theorem dL_law_3011 : decode cL_law 3011 = .ok (.invokevirtual 321, 3) ∧ 3014 = 3011 + 3 := op_182 (rb60 11 rfl) (rb60 12 rfl) (rb60 13 rfl) rfl
theorem dL_law_3014 : decode cL_law 3014 = .ok (.istore 7, 2) ∧ 3016 = 3014 + 2 := op_54 (rb60 14 rfl) (rb60 15 rfl) rfl
theorem dL_law_3016 : decode cL_law 3016 = .ok (.aload_n 2, 1) ∧ 3017 = 3016 + 1 := op_44 (rb60 16 rfl) rfl
theorem dL_law_3017 : decode cL_law 3017 = .ok (.invokevirtual 164, 3) ∧ 3020 = 3017 + 3 := op_182 (rb60 17 rfl) (rb60 18 rfl) (rb60 19 rfl) rfl
theorem dL_law_3020 : decode cL_law 3020 = .ok (.iload 6, 2) ∧ 3022 = 3020 + 2 := op_21 (rb60 20 rfl) (rb60 21 rfl) rfl
theorem dL_law_3022 : decode cL_law 3022 = .ok (.if_icmp .eq 5, 3) ∧ 3025 = 3022 + 3 := op_159 (rb60 22 rfl) (rb60 23 rfl) (rb60 24 rfl) rfl rfl
theorem dL_law_3025 : decode cL_law 3025 = .ok (.iconst 0, 1) ∧ 3026 = 3025 + 1 := op_3 (rb60 25 rfl) rfl
theorem dL_law_3026 : decode cL_law 3026 = .ok (.ireturn, 1) ∧ 3027 = 3026 + 1 := op_172 (rb60 26 rfl) rfl
theorem dL_law_3027 : decode cL_law 3027 = .ok (.iload 6, 2) ∧ 3029 = 3027 + 2 := op_21 (rb60 27 rfl) (rb60 28 rfl) rfl
theorem dL_law_3029 : decode cL_law 3029 = .ok (.ifCond .ne 15, 3) ∧ 3032 = 3029 + 3 := op_154 (rb60 29 rfl) (rb60 30 rfl) (rb60 31 rfl) rfl rfl
theorem dL_law_3032 : decode cL_law 3032 = .ok (.aload_n 3, 1) ∧ 3033 = 3032 + 1 := op_45 (rb60 32 rfl) rfl
theorem dL_law_3033 : decode cL_law 3033 = .ok (.iconst 0, 1) ∧ 3034 = 3033 + 1 := op_3 (rb60 33 rfl) rfl
theorem dL_law_3034 : decode cL_law 3034 = .ok (.laload, 1) ∧ 3035 = 3034 + 1 := op_47 (rb60 34 rfl) rfl
theorem dL_law_3035 : decode cL_law 3035 = .ok (.iload 7, 2) ∧ 3037 = 3035 + 2 := op_21 (rb60 35 rfl) (rb60 36 rfl) rfl
theorem dL_law_3037 : decode cL_law 3037 = .ok (.i2l, 1) ∧ 3038 = 3037 + 1 := op_133 (rb60 37 rfl) rfl
theorem dL_law_3038 : decode cL_law 3038 = .ok (.lcmp, 1) ∧ 3039 = 3038 + 1 := op_148 (rb60 38 rfl) rfl
theorem dL_law_3039 : decode cL_law 3039 = .ok (.ifCond .eq 5, 3) ∧ 3042 = 3039 + 3 := op_153 (rb60 39 rfl) (rb60 40 rfl) (rb60 41 rfl) rfl rfl
theorem dL_law_3042 : decode cL_law 3042 = .ok (.iconst 0, 1) ∧ 3043 = 3042 + 1 := op_3 (rb60 42 rfl) rfl
theorem dL_law_3043 : decode cL_law 3043 = .ok (.ireturn, 1) ∧ 3044 = 3043 + 1 := op_172 (rb60 43 rfl) rfl
theorem dL_law_3044 : decode cL_law 3044 = .ok (.goto 16, 3) ∧ 3047 = 3044 + 3 := op_167 (rb60 44 rfl) (rb60 45 rfl) (rb60 46 rfl) rfl rfl
theorem dL_law_3047 : decode cL_law 3047 = .ok (.aload_n 1, 1) ∧ 3048 = 3047 + 1 := op_43 (rb60 47 rfl) rfl
theorem dL_law_3048 : decode cL_law 3048 = .ok (.invokevirtual 322, 3) ∧ 3051 = 3048 + 3 := op_182 (rb60 48 rfl) (rb60 49 rfl) (rb61 0 rfl) rfl
theorem dL_law_3051 : decode cL_law 3051 = .ok (.aload_n 2, 1) ∧ 3052 = 3051 + 1 := op_44 (rb61 1 rfl) rfl
theorem dL_law_3052 : decode cL_law 3052 = .ok (.invokevirtual 325, 3) ∧ 3055 = 3052 + 3 := op_182 (rb61 2 rfl) (rb61 3 rfl) (rb61 4 rfl) rfl
theorem dL_law_3055 : decode cL_law 3055 = .ok (.if_icmp .eq 5, 3) ∧ 3058 = 3055 + 3 := op_159 (rb61 5 rfl) (rb61 6 rfl) (rb61 7 rfl) rfl rfl
theorem dL_law_3058 : decode cL_law 3058 = .ok (.iconst 0, 1) ∧ 3059 = 3058 + 1 := op_3 (rb61 8 rfl) rfl
theorem dL_law_3059 : decode cL_law 3059 = .ok (.ireturn, 1) ∧ 3060 = 3059 + 1 := op_172 (rb61 9 rfl) rfl
theorem dL_law_3060 : decode cL_law 3060 = .ok (.iinc 5 6, 3) ∧ 3063 = 3060 + 3 := op_132 (rb61 10 rfl) (rb61 11 rfl) (rb61 12 rfl) rfl rfl
theorem dL_law_3063 : decode cL_law 3063 = .ok (.goto (-3035), 3) ∧ 3066 = 3063 + 3 := op_167 (rb61 13 rfl) (rb61 14 rfl) (rb61 15 rfl) rfl rfl
theorem dL_law_3066 : decode cL_law 3066 = .ok (.iconst 1, 1) ∧ 3067 = 3066 + 1 := op_4 (rb61 16 rfl) rfl
theorem dL_law_3067 : decode cL_law 3067 = .ok (.ireturn, 1) ∧ 3068 = 3067 + 1 := op_172 (rb61 17 rfl) rfl
theorem dL_appendText_0 : decode cL_appendText 0 = .ok (.aload 6, 2) ∧ 2 = 0 + 2 := ⟨by decide +kernel, rfl⟩
theorem dL_appendText_2 : decode cL_appendText 2 = .ok (.iconst 0, 1) ∧ 3 = 2 + 1 := ⟨by decide +kernel, rfl⟩
theorem dL_appendText_3 : decode cL_appendText 3 = .ok (.aload_n 0, 1) ∧ 4 = 3 + 1 := ⟨by decide +kernel, rfl⟩
theorem dL_appendText_4 : decode cL_appendText 4 = .ok (.iload_n 1, 1) ∧ 5 = 4 + 1 := ⟨by decide +kernel, rfl⟩
theorem dL_appendText_5 : decode cL_appendText 5 = .ok (.iload_n 2, 1) ∧ 6 = 5 + 1 := ⟨by decide +kernel, rfl⟩
theorem dL_appendText_6 : decode cL_appendText 6 = .ok (.iload_n 3, 1) ∧ 7 = 6 + 1 := ⟨by decide +kernel, rfl⟩
theorem dL_appendText_7 : decode cL_appendText 7 = .ok (.iload 4, 2) ∧ 9 = 7 + 2 := ⟨by decide +kernel, rfl⟩
theorem dL_appendText_9 : decode cL_appendText 9 = .ok (.iload 5, 2) ∧ 11 = 9 + 2 := ⟨by decide +kernel, rfl⟩
theorem dL_appendText_11 : decode cL_appendText 11 = .ok (.invokevirtual 7, 3) ∧ 14 = 11 + 3 := ⟨by decide +kernel, rfl⟩
theorem dL_appendText_14 : decode cL_appendText 14 = .ok (.i2l, 1) ∧ 15 = 14 + 1 := ⟨by decide +kernel, rfl⟩
theorem dL_appendText_15 : decode cL_appendText 15 = .ok (.lastore, 1) ∧ 16 = 15 + 1 := ⟨by decide +kernel, rfl⟩
theorem dL_appendText_16 : decode cL_appendText 16 = .ok (.goto 7, 3) ∧ 19 = 16 + 3 := ⟨by decide +kernel, rfl⟩
theorem dL_appendText_19 : decode cL_appendText 19 = .ok (.astore 7, 2) ∧ 21 = 19 + 2 := ⟨by decide +kernel, rfl⟩
theorem dL_appendText_21 : decode cL_appendText 21 = .ok (.iconst 1, 1) ∧ 22 = 21 + 1 := ⟨by decide +kernel, rfl⟩
theorem dL_appendText_22 : decode cL_appendText 22 = .ok (.ireturn, 1) ∧ 23 = 22 + 1 := ⟨by decide +kernel, rfl⟩
theorem dL_appendText_23 : decode cL_appendText 23 = .ok (.iconst 0, 1) ∧ 24 = 23 + 1 := ⟨by decide +kernel, rfl⟩
theorem dL_appendText_24 : decode cL_appendText 24 = .ok (.ireturn, 1) ∧ 25 = 24 + 1 := ⟨by decide +kernel, rfl⟩
theorem dL_truncateText_0 : decode cL_truncateText 0 = .ok (.aload_n 2, 1) ∧ 1 = 0 + 1 := ⟨by decide +kernel, rfl⟩
theorem dL_truncateText_1 : decode cL_truncateText 1 = .ok (.iconst 0, 1) ∧ 2 = 1 + 1 := ⟨by decide +kernel, rfl⟩
theorem dL_truncateText_2 : decode cL_truncateText 2 = .ok (.aload_n 0, 1) ∧ 3 = 2 + 1 := ⟨by decide +kernel, rfl⟩
theorem dL_truncateText_3 : decode cL_truncateText 3 = .ok (.iload_n 1, 1) ∧ 4 = 3 + 1 := ⟨by decide +kernel, rfl⟩
theorem dL_truncateText_4 : decode cL_truncateText 4 = .ok (.invokevirtual 15, 3) ∧ 7 = 4 + 3 := ⟨by decide +kernel, rfl⟩
theorem dL_truncateText_7 : decode cL_truncateText 7 = .ok (.i2l, 1) ∧ 8 = 7 + 1 := ⟨by decide +kernel, rfl⟩
theorem dL_truncateText_8 : decode cL_truncateText 8 = .ok (.lastore, 1) ∧ 9 = 8 + 1 := ⟨by decide +kernel, rfl⟩
theorem dL_truncateText_9 : decode cL_truncateText 9 = .ok (.goto 6, 3) ∧ 12 = 9 + 3 := ⟨by decide +kernel, rfl⟩
theorem dL_truncateText_12 : decode cL_truncateText 12 = .ok (.astore_n 3, 1) ∧ 13 = 12 + 1 := ⟨by decide +kernel, rfl⟩
theorem dL_truncateText_13 : decode cL_truncateText 13 = .ok (.iconst 1, 1) ∧ 14 = 13 + 1 := ⟨by decide +kernel, rfl⟩
theorem dL_truncateText_14 : decode cL_truncateText 14 = .ok (.ireturn, 1) ∧ 15 = 14 + 1 := ⟨by decide +kernel, rfl⟩
theorem dL_truncateText_15 : decode cL_truncateText 15 = .ok (.iconst 0, 1) ∧ 16 = 15 + 1 := ⟨by decide +kernel, rfl⟩
theorem dL_truncateText_16 : decode cL_truncateText 16 = .ok (.ireturn, 1) ∧ 17 = 16 + 1 := ⟨by decide +kernel, rfl⟩
theorem dL_open_0 : decode cL_open 0 = .ok (.aload_n 2, 1) ∧ 1 = 0 + 1 := ⟨by decide +kernel, rfl⟩
theorem dL_open_1 : decode cL_open 1 = .ok (.iconst 0, 1) ∧ 2 = 1 + 1 := ⟨by decide +kernel, rfl⟩
theorem dL_open_2 : decode cL_open 2 = .ok (.aload_n 0, 1) ∧ 3 = 2 + 1 := ⟨by decide +kernel, rfl⟩
theorem dL_open_3 : decode cL_open 3 = .ok (.iload_n 1, 1) ∧ 4 = 3 + 1 := ⟨by decide +kernel, rfl⟩
theorem dL_open_4 : decode cL_open 4 = .ok (.invokevirtual 21, 3) ∧ 7 = 4 + 3 := ⟨by decide +kernel, rfl⟩
theorem dL_open_7 : decode cL_open 7 = .ok (.i2l, 1) ∧ 8 = 7 + 1 := ⟨by decide +kernel, rfl⟩
theorem dL_open_8 : decode cL_open 8 = .ok (.lastore, 1) ∧ 9 = 8 + 1 := ⟨by decide +kernel, rfl⟩
theorem dL_open_9 : decode cL_open 9 = .ok (.goto 9, 3) ∧ 12 = 9 + 3 := ⟨by decide +kernel, rfl⟩
theorem dL_open_12 : decode cL_open 12 = .ok (.astore_n 3, 1) ∧ 13 = 12 + 1 := ⟨by decide +kernel, rfl⟩
theorem dL_open_13 : decode cL_open 13 = .ok (.iconst 1, 1) ∧ 14 = 13 + 1 := ⟨by decide +kernel, rfl⟩
theorem dL_open_14 : decode cL_open 14 = .ok (.ireturn, 1) ∧ 15 = 14 + 1 := ⟨by decide +kernel, rfl⟩
theorem dL_open_15 : decode cL_open 15 = .ok (.astore_n 3, 1) ∧ 16 = 15 + 1 := ⟨by decide +kernel, rfl⟩
theorem dL_open_16 : decode cL_open 16 = .ok (.iconst 2, 1) ∧ 17 = 16 + 1 := ⟨by decide +kernel, rfl⟩
theorem dL_open_17 : decode cL_open 17 = .ok (.ireturn, 1) ∧ 18 = 17 + 1 := ⟨by decide +kernel, rfl⟩
theorem dL_open_18 : decode cL_open 18 = .ok (.iconst 0, 1) ∧ 19 = 18 + 1 := ⟨by decide +kernel, rfl⟩
theorem dL_open_19 : decode cL_open 19 = .ok (.ireturn, 1) ∧ 20 = 19 + 1 := ⟨by decide +kernel, rfl⟩
theorem dL_close_0 : decode cL_close 0 = .ok (.aload_n 2, 1) ∧ 1 = 0 + 1 := ⟨by decide +kernel, rfl⟩
theorem dL_close_1 : decode cL_close 1 = .ok (.iconst 0, 1) ∧ 2 = 1 + 1 := ⟨by decide +kernel, rfl⟩
theorem dL_close_2 : decode cL_close 2 = .ok (.aload_n 0, 1) ∧ 3 = 2 + 1 := ⟨by decide +kernel, rfl⟩
theorem dL_close_3 : decode cL_close 3 = .ok (.iload_n 1, 1) ∧ 4 = 3 + 1 := ⟨by decide +kernel, rfl⟩
theorem dL_close_4 : decode cL_close 4 = .ok (.invokevirtual 26, 3) ∧ 7 = 4 + 3 := ⟨by decide +kernel, rfl⟩
theorem dL_close_7 : decode cL_close 7 = .ok (.i2l, 1) ∧ 8 = 7 + 1 := ⟨by decide +kernel, rfl⟩
theorem dL_close_8 : decode cL_close 8 = .ok (.lastore, 1) ∧ 9 = 8 + 1 := ⟨by decide +kernel, rfl⟩
theorem dL_close_9 : decode cL_close 9 = .ok (.goto 9, 3) ∧ 12 = 9 + 3 := ⟨by decide +kernel, rfl⟩
theorem dL_close_12 : decode cL_close 12 = .ok (.astore_n 3, 1) ∧ 13 = 12 + 1 := ⟨by decide +kernel, rfl⟩
theorem dL_close_13 : decode cL_close 13 = .ok (.iconst 1, 1) ∧ 14 = 13 + 1 := ⟨by decide +kernel, rfl⟩
theorem dL_close_14 : decode cL_close 14 = .ok (.ireturn, 1) ∧ 15 = 14 + 1 := ⟨by decide +kernel, rfl⟩
theorem dL_close_15 : decode cL_close 15 = .ok (.astore_n 3, 1) ∧ 16 = 15 + 1 := ⟨by decide +kernel, rfl⟩
theorem dL_close_16 : decode cL_close 16 = .ok (.iconst 2, 1) ∧ 17 = 16 + 1 := ⟨by decide +kernel, rfl⟩
theorem dL_close_17 : decode cL_close 17 = .ok (.ireturn, 1) ∧ 18 = 17 + 1 := ⟨by decide +kernel, rfl⟩
theorem dL_close_18 : decode cL_close 18 = .ok (.iconst 0, 1) ∧ 19 = 18 + 1 := ⟨by decide +kernel, rfl⟩
theorem dL_close_19 : decode cL_close 19 = .ok (.ireturn, 1) ∧ 20 = 19 + 1 := ⟨by decide +kernel, rfl⟩
theorem dL_start_0 : decode cL_start 0 = .ok (.aload_n 2, 1) ∧ 1 = 0 + 1 := ⟨by decide +kernel, rfl⟩
theorem dL_start_1 : decode cL_start 1 = .ok (.iconst 0, 1) ∧ 2 = 1 + 1 := ⟨by decide +kernel, rfl⟩
theorem dL_start_2 : decode cL_start 2 = .ok (.aload_n 0, 1) ∧ 3 = 2 + 1 := ⟨by decide +kernel, rfl⟩
theorem dL_start_3 : decode cL_start 3 = .ok (.iload_n 1, 1) ∧ 4 = 3 + 1 := ⟨by decide +kernel, rfl⟩
theorem dL_start_4 : decode cL_start 4 = .ok (.invokevirtual 29, 3) ∧ 7 = 4 + 3 := ⟨by decide +kernel, rfl⟩
theorem dL_start_7 : decode cL_start 7 = .ok (.i2l, 1) ∧ 8 = 7 + 1 := ⟨by decide +kernel, rfl⟩
theorem dL_start_8 : decode cL_start 8 = .ok (.lastore, 1) ∧ 9 = 8 + 1 := ⟨by decide +kernel, rfl⟩
theorem dL_start_9 : decode cL_start 9 = .ok (.goto 9, 3) ∧ 12 = 9 + 3 := ⟨by decide +kernel, rfl⟩
theorem dL_start_12 : decode cL_start 12 = .ok (.astore_n 3, 1) ∧ 13 = 12 + 1 := ⟨by decide +kernel, rfl⟩
theorem dL_start_13 : decode cL_start 13 = .ok (.iconst 1, 1) ∧ 14 = 13 + 1 := ⟨by decide +kernel, rfl⟩
theorem dL_start_14 : decode cL_start 14 = .ok (.ireturn, 1) ∧ 15 = 14 + 1 := ⟨by decide +kernel, rfl⟩
theorem dL_start_15 : decode cL_start 15 = .ok (.astore_n 3, 1) ∧ 16 = 15 + 1 := ⟨by decide +kernel, rfl⟩
theorem dL_start_16 : decode cL_start 16 = .ok (.iconst 2, 1) ∧ 17 = 16 + 1 := ⟨by decide +kernel, rfl⟩
theorem dL_start_17 : decode cL_start 17 = .ok (.ireturn, 1) ∧ 18 = 17 + 1 := ⟨by decide +kernel, rfl⟩
theorem dL_start_18 : decode cL_start 18 = .ok (.iconst 0, 1) ∧ 19 = 18 + 1 := ⟨by decide +kernel, rfl⟩
theorem dL_start_19 : decode cL_start 19 = .ok (.ireturn, 1) ∧ 20 = 19 + 1 := ⟨by decide +kernel, rfl⟩
theorem dL_stop_0 : decode cL_stop 0 = .ok (.aload_n 2, 1) ∧ 1 = 0 + 1 := ⟨by decide +kernel, rfl⟩
theorem dL_stop_1 : decode cL_stop 1 = .ok (.iconst 0, 1) ∧ 2 = 1 + 1 := ⟨by decide +kernel, rfl⟩
theorem dL_stop_2 : decode cL_stop 2 = .ok (.aload_n 0, 1) ∧ 3 = 2 + 1 := ⟨by decide +kernel, rfl⟩
theorem dL_stop_3 : decode cL_stop 3 = .ok (.iload_n 1, 1) ∧ 4 = 3 + 1 := ⟨by decide +kernel, rfl⟩
theorem dL_stop_4 : decode cL_stop 4 = .ok (.invokevirtual 32, 3) ∧ 7 = 4 + 3 := ⟨by decide +kernel, rfl⟩
theorem dL_stop_7 : decode cL_stop 7 = .ok (.i2l, 1) ∧ 8 = 7 + 1 := ⟨by decide +kernel, rfl⟩
theorem dL_stop_8 : decode cL_stop 8 = .ok (.lastore, 1) ∧ 9 = 8 + 1 := ⟨by decide +kernel, rfl⟩
theorem dL_stop_9 : decode cL_stop 9 = .ok (.goto 9, 3) ∧ 12 = 9 + 3 := ⟨by decide +kernel, rfl⟩
theorem dL_stop_12 : decode cL_stop 12 = .ok (.astore_n 3, 1) ∧ 13 = 12 + 1 := ⟨by decide +kernel, rfl⟩
theorem dL_stop_13 : decode cL_stop 13 = .ok (.iconst 1, 1) ∧ 14 = 13 + 1 := ⟨by decide +kernel, rfl⟩
theorem dL_stop_14 : decode cL_stop 14 = .ok (.ireturn, 1) ∧ 15 = 14 + 1 := ⟨by decide +kernel, rfl⟩
theorem dL_stop_15 : decode cL_stop 15 = .ok (.astore_n 3, 1) ∧ 16 = 15 + 1 := ⟨by decide +kernel, rfl⟩
theorem dL_stop_16 : decode cL_stop 16 = .ok (.iconst 2, 1) ∧ 17 = 16 + 1 := ⟨by decide +kernel, rfl⟩
theorem dL_stop_17 : decode cL_stop 17 = .ok (.ireturn, 1) ∧ 18 = 17 + 1 := ⟨by decide +kernel, rfl⟩
theorem dL_stop_18 : decode cL_stop 18 = .ok (.iconst 0, 1) ∧ 19 = 18 + 1 := ⟨by decide +kernel, rfl⟩
theorem dL_stop_19 : decode cL_stop 19 = .ok (.ireturn, 1) ∧ 20 = 19 + 1 := ⟨by decide +kernel, rfl⟩
theorem dL_pass_0 : decode cL_pass 0 = .ok (.aload_n 2, 1) ∧ 1 = 0 + 1 := ⟨by decide +kernel, rfl⟩
theorem dL_pass_1 : decode cL_pass 1 = .ok (.iconst 0, 1) ∧ 2 = 1 + 1 := ⟨by decide +kernel, rfl⟩
theorem dL_pass_2 : decode cL_pass 2 = .ok (.aload_n 0, 1) ∧ 3 = 2 + 1 := ⟨by decide +kernel, rfl⟩
theorem dL_pass_3 : decode cL_pass 3 = .ok (.iload_n 1, 1) ∧ 4 = 3 + 1 := ⟨by decide +kernel, rfl⟩
theorem dL_pass_4 : decode cL_pass 4 = .ok (.invokevirtual 35, 3) ∧ 7 = 4 + 3 := ⟨by decide +kernel, rfl⟩
theorem dL_pass_7 : decode cL_pass 7 = .ok (.i2l, 1) ∧ 8 = 7 + 1 := ⟨by decide +kernel, rfl⟩
theorem dL_pass_8 : decode cL_pass 8 = .ok (.lastore, 1) ∧ 9 = 8 + 1 := ⟨by decide +kernel, rfl⟩
theorem dL_pass_9 : decode cL_pass 9 = .ok (.goto 6, 3) ∧ 12 = 9 + 3 := ⟨by decide +kernel, rfl⟩
theorem dL_pass_12 : decode cL_pass 12 = .ok (.astore_n 3, 1) ∧ 13 = 12 + 1 := ⟨by decide +kernel, rfl⟩
theorem dL_pass_13 : decode cL_pass 13 = .ok (.iconst 1, 1) ∧ 14 = 13 + 1 := ⟨by decide +kernel, rfl⟩
theorem dL_pass_14 : decode cL_pass 14 = .ok (.ireturn, 1) ∧ 15 = 14 + 1 := ⟨by decide +kernel, rfl⟩
theorem dL_pass_15 : decode cL_pass 15 = .ok (.iconst 0, 1) ∧ 16 = 15 + 1 := ⟨by decide +kernel, rfl⟩
theorem dL_pass_16 : decode cL_pass 16 = .ok (.ireturn, 1) ∧ 17 = 16 + 1 := ⟨by decide +kernel, rfl⟩
theorem dL_passUntil_0 : decode cL_passUntil 0 = .ok (.aload_n 3, 1) ∧ 1 = 0 + 1 := ⟨by decide +kernel, rfl⟩
theorem dL_passUntil_1 : decode cL_passUntil 1 = .ok (.iconst 0, 1) ∧ 2 = 1 + 1 := ⟨by decide +kernel, rfl⟩
theorem dL_passUntil_2 : decode cL_passUntil 2 = .ok (.aload_n 0, 1) ∧ 3 = 2 + 1 := ⟨by decide +kernel, rfl⟩
theorem dL_passUntil_3 : decode cL_passUntil 3 = .ok (.iload_n 1, 1) ∧ 4 = 3 + 1 := ⟨by decide +kernel, rfl⟩
theorem dL_passUntil_4 : decode cL_passUntil 4 = .ok (.iload_n 2, 1) ∧ 5 = 4 + 1 := ⟨by decide +kernel, rfl⟩
theorem dL_passUntil_5 : decode cL_passUntil 5 = .ok (.invokevirtual 38, 3) ∧ 8 = 5 + 3 := ⟨by decide +kernel, rfl⟩
theorem dL_passUntil_8 : decode cL_passUntil 8 = .ok (.i2l, 1) ∧ 9 = 8 + 1 := ⟨by decide +kernel, rfl⟩
theorem dL_passUntil_9 : decode cL_passUntil 9 = .ok (.lastore, 1) ∧ 10 = 9 + 1 := ⟨by decide +kernel, rfl⟩
theorem dL_passUntil_10 : decode cL_passUntil 10 = .ok (.goto 15, 3) ∧ 13 = 10 + 3 := ⟨by decide +kernel, rfl⟩
theorem dL_passUntil_13 : decode cL_passUntil 13 = .ok (.astore 4, 2) ∧ 15 = 13 + 2 := ⟨by decide +kernel, rfl⟩
theorem dL_passUntil_15 : decode cL_passUntil 15 = .ok (.iconst 1, 1) ∧ 16 = 15 + 1 := ⟨by decide +kernel, rfl⟩
theorem dL_passUntil_16 : decode cL_passUntil 16 = .ok (.ireturn, 1) ∧ 17 = 16 + 1 := ⟨by decide +kernel, rfl⟩
theorem dL_passUntil_17 : decode cL_passUntil 17 = .ok (.astore 4, 2) ∧ 19 = 17 + 2 := ⟨by decide +kernel, rfl⟩
theorem dL_passUntil_19 : decode cL_passUntil 19 = .ok (.iconst 2, 1) ∧ 20 = 19 + 1 := ⟨by decide +kernel, rfl⟩
theorem dL_passUntil_20 : decode cL_passUntil 20 = .ok (.ireturn, 1) ∧ 21 = 20 + 1 := ⟨by decide +kernel, rfl⟩
theorem dL_passUntil_21 : decode cL_passUntil 21 = .ok (.astore 4, 2) ∧ 23 = 21 + 2 := ⟨by decide +kernel, rfl⟩
theorem dL_passUntil_23 : decode cL_passUntil 23 = .ok (.iconst 3, 1) ∧ 24 = 23 + 1 := ⟨by decide +kernel, rfl⟩
theorem dL_passUntil_24 : decode cL_passUntil 24 = .ok (.ireturn, 1) ∧ 25 = 24 + 1 := ⟨by decide +kernel, rfl⟩
theorem dL_passUntil_25 : decode cL_passUntil 25 = .ok (.iconst 0, 1) ∧ 26 = 25 + 1 := ⟨by decide +kernel, rfl⟩
theorem dL_passUntil_26 : decode cL_passUntil 26 = .ok (.ireturn, 1) ∧ 27 = 26 + 1 := ⟨by decide +kernel, rfl⟩
theorem dL_seal_0 : decode cL_seal 0 = .ok (.aload_n 2, 1) ∧ 1 = 0 + 1 := ⟨by decide +kernel, rfl⟩
theorem dL_seal_1 : decode cL_seal 1 = .ok (.iconst 0, 1) ∧ 2 = 1 + 1 := ⟨by decide +kernel, rfl⟩
theorem dL_seal_2 : decode cL_seal 2 = .ok (.aload_n 0, 1) ∧ 3 = 2 + 1 := ⟨by decide +kernel, rfl⟩
theorem dL_seal_3 : decode cL_seal 3 = .ok (.iload_n 1, 1) ∧ 4 = 3 + 1 := ⟨by decide +kernel, rfl⟩
theorem dL_seal_4 : decode cL_seal 4 = .ok (.invokevirtual 42, 3) ∧ 7 = 4 + 3 := ⟨by decide +kernel, rfl⟩
theorem dL_seal_7 : decode cL_seal 7 = .ok (.i2l, 1) ∧ 8 = 7 + 1 := ⟨by decide +kernel, rfl⟩
theorem dL_seal_8 : decode cL_seal 8 = .ok (.lastore, 1) ∧ 9 = 8 + 1 := ⟨by decide +kernel, rfl⟩
theorem dL_seal_9 : decode cL_seal 9 = .ok (.goto 6, 3) ∧ 12 = 9 + 3 := ⟨by decide +kernel, rfl⟩
theorem dL_seal_12 : decode cL_seal 12 = .ok (.astore_n 3, 1) ∧ 13 = 12 + 1 := ⟨by decide +kernel, rfl⟩
theorem dL_seal_13 : decode cL_seal 13 = .ok (.iconst 1, 1) ∧ 14 = 13 + 1 := ⟨by decide +kernel, rfl⟩
theorem dL_seal_14 : decode cL_seal 14 = .ok (.ireturn, 1) ∧ 15 = 14 + 1 := ⟨by decide +kernel, rfl⟩
theorem dL_seal_15 : decode cL_seal 15 = .ok (.iconst 0, 1) ∧ 16 = 15 + 1 := ⟨by decide +kernel, rfl⟩
theorem dL_seal_16 : decode cL_seal 16 = .ok (.ireturn, 1) ∧ 17 = 16 + 1 := ⟨by decide +kernel, rfl⟩
theorem dL_setLeak_0 : decode cL_setLeak 0 = .ok (.aload_n 3, 1) ∧ 1 = 0 + 1 := ⟨by decide +kernel, rfl⟩
theorem dL_setLeak_1 : decode cL_setLeak 1 = .ok (.iconst 0, 1) ∧ 2 = 1 + 1 := ⟨by decide +kernel, rfl⟩
theorem dL_setLeak_2 : decode cL_setLeak 2 = .ok (.aload_n 0, 1) ∧ 3 = 2 + 1 := ⟨by decide +kernel, rfl⟩
theorem dL_setLeak_3 : decode cL_setLeak 3 = .ok (.iload_n 1, 1) ∧ 4 = 3 + 1 := ⟨by decide +kernel, rfl⟩
theorem dL_setLeak_4 : decode cL_setLeak 4 = .ok (.iload_n 2, 1) ∧ 5 = 4 + 1 := ⟨by decide +kernel, rfl⟩
theorem dL_setLeak_5 : decode cL_setLeak 5 = .ok (.invokevirtual 45, 3) ∧ 8 = 5 + 3 := ⟨by decide +kernel, rfl⟩
theorem dL_setLeak_8 : decode cL_setLeak 8 = .ok (.i2l, 1) ∧ 9 = 8 + 1 := ⟨by decide +kernel, rfl⟩
theorem dL_setLeak_9 : decode cL_setLeak 9 = .ok (.lastore, 1) ∧ 10 = 9 + 1 := ⟨by decide +kernel, rfl⟩
theorem dL_setLeak_10 : decode cL_setLeak 10 = .ok (.goto 11, 3) ∧ 13 = 10 + 3 := ⟨by decide +kernel, rfl⟩
theorem dL_setLeak_13 : decode cL_setLeak 13 = .ok (.astore 4, 2) ∧ 15 = 13 + 2 := ⟨by decide +kernel, rfl⟩
theorem dL_setLeak_15 : decode cL_setLeak 15 = .ok (.iconst 1, 1) ∧ 16 = 15 + 1 := ⟨by decide +kernel, rfl⟩
theorem dL_setLeak_16 : decode cL_setLeak 16 = .ok (.ireturn, 1) ∧ 17 = 16 + 1 := ⟨by decide +kernel, rfl⟩
theorem dL_setLeak_17 : decode cL_setLeak 17 = .ok (.astore 4, 2) ∧ 19 = 17 + 2 := ⟨by decide +kernel, rfl⟩
theorem dL_setLeak_19 : decode cL_setLeak 19 = .ok (.iconst 2, 1) ∧ 20 = 19 + 1 := ⟨by decide +kernel, rfl⟩
theorem dL_setLeak_20 : decode cL_setLeak 20 = .ok (.ireturn, 1) ∧ 21 = 20 + 1 := ⟨by decide +kernel, rfl⟩
theorem dL_setLeak_21 : decode cL_setLeak 21 = .ok (.iconst 0, 1) ∧ 22 = 21 + 1 := ⟨by decide +kernel, rfl⟩
theorem dL_setLeak_22 : decode cL_setLeak 22 = .ok (.ireturn, 1) ∧ 23 = 22 + 1 := ⟨by decide +kernel, rfl⟩
theorem dL_setOutgassing_0 : decode cL_setOutgassing 0 = .ok (.aload_n 3, 1) ∧ 1 = 0 + 1 := ⟨by decide +kernel, rfl⟩
theorem dL_setOutgassing_1 : decode cL_setOutgassing 1 = .ok (.iconst 0, 1) ∧ 2 = 1 + 1 := ⟨by decide +kernel, rfl⟩
theorem dL_setOutgassing_2 : decode cL_setOutgassing 2 = .ok (.aload_n 0, 1) ∧ 3 = 2 + 1 := ⟨by decide +kernel, rfl⟩
theorem dL_setOutgassing_3 : decode cL_setOutgassing 3 = .ok (.iload_n 1, 1) ∧ 4 = 3 + 1 := ⟨by decide +kernel, rfl⟩
theorem dL_setOutgassing_4 : decode cL_setOutgassing 4 = .ok (.iload_n 2, 1) ∧ 5 = 4 + 1 := ⟨by decide +kernel, rfl⟩
theorem dL_setOutgassing_5 : decode cL_setOutgassing 5 = .ok (.invokevirtual 48, 3) ∧ 8 = 5 + 3 := ⟨by decide +kernel, rfl⟩
theorem dL_setOutgassing_8 : decode cL_setOutgassing 8 = .ok (.i2l, 1) ∧ 9 = 8 + 1 := ⟨by decide +kernel, rfl⟩
theorem dL_setOutgassing_9 : decode cL_setOutgassing 9 = .ok (.lastore, 1) ∧ 10 = 9 + 1 := ⟨by decide +kernel, rfl⟩
theorem dL_setOutgassing_10 : decode cL_setOutgassing 10 = .ok (.goto 11, 3) ∧ 13 = 10 + 3 := ⟨by decide +kernel, rfl⟩
theorem dL_setOutgassing_13 : decode cL_setOutgassing 13 = .ok (.astore 4, 2) ∧ 15 = 13 + 2 := ⟨by decide +kernel, rfl⟩
theorem dL_setOutgassing_15 : decode cL_setOutgassing 15 = .ok (.iconst 1, 1) ∧ 16 = 15 + 1 := ⟨by decide +kernel, rfl⟩
theorem dL_setOutgassing_16 : decode cL_setOutgassing 16 = .ok (.ireturn, 1) ∧ 17 = 16 + 1 := ⟨by decide +kernel, rfl⟩
theorem dL_setOutgassing_17 : decode cL_setOutgassing 17 = .ok (.astore 4, 2) ∧ 19 = 17 + 2 := ⟨by decide +kernel, rfl⟩
theorem dL_setOutgassing_19 : decode cL_setOutgassing 19 = .ok (.iconst 2, 1) ∧ 20 = 19 + 1 := ⟨by decide +kernel, rfl⟩
theorem dL_setOutgassing_20 : decode cL_setOutgassing 20 = .ok (.ireturn, 1) ∧ 21 = 20 + 1 := ⟨by decide +kernel, rfl⟩
theorem dL_setOutgassing_21 : decode cL_setOutgassing 21 = .ok (.iconst 0, 1) ∧ 22 = 21 + 1 := ⟨by decide +kernel, rfl⟩
theorem dL_setOutgassing_22 : decode cL_setOutgassing 22 = .ok (.ireturn, 1) ∧ 23 = 22 + 1 := ⟨by decide +kernel, rfl⟩
theorem dL_setRule_0 : decode cL_setRule 0 = .ok (.aload_n 3, 1) ∧ 1 = 0 + 1 := ⟨by decide +kernel, rfl⟩
theorem dL_setRule_1 : decode cL_setRule 1 = .ok (.iconst 0, 1) ∧ 2 = 1 + 1 := ⟨by decide +kernel, rfl⟩
theorem dL_setRule_2 : decode cL_setRule 2 = .ok (.aload_n 0, 1) ∧ 3 = 2 + 1 := ⟨by decide +kernel, rfl⟩
theorem dL_setRule_3 : decode cL_setRule 3 = .ok (.iload_n 1, 1) ∧ 4 = 3 + 1 := ⟨by decide +kernel, rfl⟩
theorem dL_setRule_4 : decode cL_setRule 4 = .ok (.iload_n 2, 1) ∧ 5 = 4 + 1 := ⟨by decide +kernel, rfl⟩
theorem dL_setRule_5 : decode cL_setRule 5 = .ok (.invokevirtual 51, 3) ∧ 8 = 5 + 3 := ⟨by decide +kernel, rfl⟩
theorem dL_setRule_8 : decode cL_setRule 8 = .ok (.i2l, 1) ∧ 9 = 8 + 1 := ⟨by decide +kernel, rfl⟩
theorem dL_setRule_9 : decode cL_setRule 9 = .ok (.lastore, 1) ∧ 10 = 9 + 1 := ⟨by decide +kernel, rfl⟩
theorem dL_setRule_10 : decode cL_setRule 10 = .ok (.goto 11, 3) ∧ 13 = 10 + 3 := ⟨by decide +kernel, rfl⟩
theorem dL_setRule_13 : decode cL_setRule 13 = .ok (.astore 4, 2) ∧ 15 = 13 + 2 := ⟨by decide +kernel, rfl⟩
theorem dL_setRule_15 : decode cL_setRule 15 = .ok (.iconst 1, 1) ∧ 16 = 15 + 1 := ⟨by decide +kernel, rfl⟩
theorem dL_setRule_16 : decode cL_setRule 16 = .ok (.ireturn, 1) ∧ 17 = 16 + 1 := ⟨by decide +kernel, rfl⟩
theorem dL_setRule_17 : decode cL_setRule 17 = .ok (.astore 4, 2) ∧ 19 = 17 + 2 := ⟨by decide +kernel, rfl⟩
theorem dL_setRule_19 : decode cL_setRule 19 = .ok (.iconst 2, 1) ∧ 20 = 19 + 1 := ⟨by decide +kernel, rfl⟩
theorem dL_setRule_20 : decode cL_setRule 20 = .ok (.ireturn, 1) ∧ 21 = 20 + 1 := ⟨by decide +kernel, rfl⟩
theorem dL_setRule_21 : decode cL_setRule 21 = .ok (.iconst 0, 1) ∧ 22 = 21 + 1 := ⟨by decide +kernel, rfl⟩
theorem dL_setRule_22 : decode cL_setRule 22 = .ok (.ireturn, 1) ∧ 23 = 22 + 1 := ⟨by decide +kernel, rfl⟩
theorem dL_test_0 : decode cL_test 0 = .ok (.aload_n 3, 1) ∧ 1 = 0 + 1 := ⟨by decide +kernel, rfl⟩
theorem dL_test_1 : decode cL_test 1 = .ok (.iconst 0, 1) ∧ 2 = 1 + 1 := ⟨by decide +kernel, rfl⟩
theorem dL_test_2 : decode cL_test 2 = .ok (.aload_n 0, 1) ∧ 3 = 2 + 1 := ⟨by decide +kernel, rfl⟩
theorem dL_test_3 : decode cL_test 3 = .ok (.iload_n 1, 1) ∧ 4 = 3 + 1 := ⟨by decide +kernel, rfl⟩
theorem dL_test_4 : decode cL_test 4 = .ok (.iload_n 2, 1) ∧ 5 = 4 + 1 := ⟨by decide +kernel, rfl⟩
theorem dL_test_5 : decode cL_test 5 = .ok (.invokevirtual 54, 3) ∧ 8 = 5 + 3 := ⟨by decide +kernel, rfl⟩
theorem dL_test_8 : decode cL_test 8 = .ok (.i2l, 1) ∧ 9 = 8 + 1 := ⟨by decide +kernel, rfl⟩
theorem dL_test_9 : decode cL_test 9 = .ok (.lastore, 1) ∧ 10 = 9 + 1 := ⟨by decide +kernel, rfl⟩
theorem dL_test_10 : decode cL_test 10 = .ok (.goto 15, 3) ∧ 13 = 10 + 3 := ⟨by decide +kernel, rfl⟩
theorem dL_test_13 : decode cL_test 13 = .ok (.astore 4, 2) ∧ 15 = 13 + 2 := ⟨by decide +kernel, rfl⟩
theorem dL_test_15 : decode cL_test 15 = .ok (.iconst 1, 1) ∧ 16 = 15 + 1 := ⟨by decide +kernel, rfl⟩
theorem dL_test_16 : decode cL_test 16 = .ok (.ireturn, 1) ∧ 17 = 16 + 1 := ⟨by decide +kernel, rfl⟩
theorem dL_test_17 : decode cL_test 17 = .ok (.astore 4, 2) ∧ 19 = 17 + 2 := ⟨by decide +kernel, rfl⟩
theorem dL_test_19 : decode cL_test 19 = .ok (.iconst 2, 1) ∧ 20 = 19 + 1 := ⟨by decide +kernel, rfl⟩
theorem dL_test_20 : decode cL_test 20 = .ok (.ireturn, 1) ∧ 21 = 20 + 1 := ⟨by decide +kernel, rfl⟩
theorem dL_test_21 : decode cL_test 21 = .ok (.astore 4, 2) ∧ 23 = 21 + 2 := ⟨by decide +kernel, rfl⟩
theorem dL_test_23 : decode cL_test 23 = .ok (.iconst 3, 1) ∧ 24 = 23 + 1 := ⟨by decide +kernel, rfl⟩
theorem dL_test_24 : decode cL_test 24 = .ok (.ireturn, 1) ∧ 25 = 24 + 1 := ⟨by decide +kernel, rfl⟩
theorem dL_test_25 : decode cL_test 25 = .ok (.iconst 0, 1) ∧ 26 = 25 + 1 := ⟨by decide +kernel, rfl⟩
theorem dL_test_26 : decode cL_test 26 = .ok (.ireturn, 1) ∧ 27 = 26 + 1 := ⟨by decide +kernel, rfl⟩
theorem dL_count_0 : decode cL_count 0 = .ok (.aload_n 2, 1) ∧ 1 = 0 + 1 := ⟨by decide +kernel, rfl⟩
theorem dL_count_1 : decode cL_count 1 = .ok (.iconst 0, 1) ∧ 2 = 1 + 1 := ⟨by decide +kernel, rfl⟩
theorem dL_count_2 : decode cL_count 2 = .ok (.aload_n 0, 1) ∧ 3 = 2 + 1 := ⟨by decide +kernel, rfl⟩
theorem dL_count_3 : decode cL_count 3 = .ok (.iload_n 1, 1) ∧ 4 = 3 + 1 := ⟨by decide +kernel, rfl⟩
theorem dL_count_4 : decode cL_count 4 = .ok (.invokevirtual 57, 3) ∧ 7 = 4 + 3 := ⟨by decide +kernel, rfl⟩
theorem dL_count_7 : decode cL_count 7 = .ok (.i2l, 1) ∧ 8 = 7 + 1 := ⟨by decide +kernel, rfl⟩
theorem dL_count_8 : decode cL_count 8 = .ok (.lastore, 1) ∧ 9 = 8 + 1 := ⟨by decide +kernel, rfl⟩
theorem dL_count_9 : decode cL_count 9 = .ok (.goto 6, 3) ∧ 12 = 9 + 3 := ⟨by decide +kernel, rfl⟩
theorem dL_count_12 : decode cL_count 12 = .ok (.astore_n 3, 1) ∧ 13 = 12 + 1 := ⟨by decide +kernel, rfl⟩
theorem dL_count_13 : decode cL_count 13 = .ok (.iconst 1, 1) ∧ 14 = 13 + 1 := ⟨by decide +kernel, rfl⟩
theorem dL_count_14 : decode cL_count 14 = .ok (.ireturn, 1) ∧ 15 = 14 + 1 := ⟨by decide +kernel, rfl⟩
theorem dL_count_15 : decode cL_count 15 = .ok (.iconst 0, 1) ∧ 16 = 15 + 1 := ⟨by decide +kernel, rfl⟩
theorem dL_count_16 : decode cL_count 16 = .ok (.ireturn, 1) ∧ 17 = 16 + 1 := ⟨by decide +kernel, rfl⟩
theorem dL_chamber_0 : decode cL_chamber 0 = .ok (.aload_n 3, 1) ∧ 1 = 0 + 1 := ⟨by decide +kernel, rfl⟩
theorem dL_chamber_1 : decode cL_chamber 1 = .ok (.iconst 0, 1) ∧ 2 = 1 + 1 := ⟨by decide +kernel, rfl⟩
theorem dL_chamber_2 : decode cL_chamber 2 = .ok (.aload_n 0, 1) ∧ 3 = 2 + 1 := ⟨by decide +kernel, rfl⟩
theorem dL_chamber_3 : decode cL_chamber 3 = .ok (.iload_n 1, 1) ∧ 4 = 3 + 1 := ⟨by decide +kernel, rfl⟩
theorem dL_chamber_4 : decode cL_chamber 4 = .ok (.iload_n 2, 1) ∧ 5 = 4 + 1 := ⟨by decide +kernel, rfl⟩
theorem dL_chamber_5 : decode cL_chamber 5 = .ok (.invokevirtual 60, 3) ∧ 8 = 5 + 3 := ⟨by decide +kernel, rfl⟩
theorem dL_chamber_8 : decode cL_chamber 8 = .ok (.i2l, 1) ∧ 9 = 8 + 1 := ⟨by decide +kernel, rfl⟩
theorem dL_chamber_9 : decode cL_chamber 9 = .ok (.lastore, 1) ∧ 10 = 9 + 1 := ⟨by decide +kernel, rfl⟩
theorem dL_chamber_10 : decode cL_chamber 10 = .ok (.goto 11, 3) ∧ 13 = 10 + 3 := ⟨by decide +kernel, rfl⟩
theorem dL_chamber_13 : decode cL_chamber 13 = .ok (.astore 4, 2) ∧ 15 = 13 + 2 := ⟨by decide +kernel, rfl⟩
theorem dL_chamber_15 : decode cL_chamber 15 = .ok (.iconst 1, 1) ∧ 16 = 15 + 1 := ⟨by decide +kernel, rfl⟩
theorem dL_chamber_16 : decode cL_chamber 16 = .ok (.ireturn, 1) ∧ 17 = 16 + 1 := ⟨by decide +kernel, rfl⟩
theorem dL_chamber_17 : decode cL_chamber 17 = .ok (.astore 4, 2) ∧ 19 = 17 + 2 := ⟨by decide +kernel, rfl⟩
theorem dL_chamber_19 : decode cL_chamber 19 = .ok (.iconst 2, 1) ∧ 20 = 19 + 1 := ⟨by decide +kernel, rfl⟩
theorem dL_chamber_20 : decode cL_chamber 20 = .ok (.ireturn, 1) ∧ 21 = 20 + 1 := ⟨by decide +kernel, rfl⟩
theorem dL_chamber_21 : decode cL_chamber 21 = .ok (.iconst 0, 1) ∧ 22 = 21 + 1 := ⟨by decide +kernel, rfl⟩
theorem dL_chamber_22 : decode cL_chamber 22 = .ok (.ireturn, 1) ∧ 23 = 22 + 1 := ⟨by decide +kernel, rfl⟩
theorem dL_gas_0 : decode cL_gas 0 = .ok (.aload_n 2, 1) ∧ 1 = 0 + 1 := ⟨by decide +kernel, rfl⟩
theorem dL_gas_1 : decode cL_gas 1 = .ok (.iconst 0, 1) ∧ 2 = 1 + 1 := ⟨by decide +kernel, rfl⟩
theorem dL_gas_2 : decode cL_gas 2 = .ok (.aload_n 0, 1) ∧ 3 = 2 + 1 := ⟨by decide +kernel, rfl⟩
theorem dL_gas_3 : decode cL_gas 3 = .ok (.iload_n 1, 1) ∧ 4 = 3 + 1 := ⟨by decide +kernel, rfl⟩
theorem dL_gas_4 : decode cL_gas 4 = .ok (.invokevirtual 63, 3) ∧ 7 = 4 + 3 := ⟨by decide +kernel, rfl⟩
theorem dL_gas_7 : decode cL_gas 7 = .ok (.lastore, 1) ∧ 8 = 7 + 1 := ⟨by decide +kernel, rfl⟩
theorem dL_gas_8 : decode cL_gas 8 = .ok (.goto 6, 3) ∧ 11 = 8 + 3 := ⟨by decide +kernel, rfl⟩
theorem dL_gas_11 : decode cL_gas 11 = .ok (.astore_n 3, 1) ∧ 12 = 11 + 1 := ⟨by decide +kernel, rfl⟩
theorem dL_gas_12 : decode cL_gas 12 = .ok (.iconst 1, 1) ∧ 13 = 12 + 1 := ⟨by decide +kernel, rfl⟩
theorem dL_gas_13 : decode cL_gas 13 = .ok (.ireturn, 1) ∧ 14 = 13 + 1 := ⟨by decide +kernel, rfl⟩
theorem dL_gas_14 : decode cL_gas 14 = .ok (.iconst 0, 1) ∧ 15 = 14 + 1 := ⟨by decide +kernel, rfl⟩
theorem dL_gas_15 : decode cL_gas 15 = .ok (.ireturn, 1) ∧ 16 = 15 + 1 := ⟨by decide +kernel, rfl⟩
theorem dL_pump_0 : decode cL_pump 0 = .ok (.aload_n 3, 1) ∧ 1 = 0 + 1 := ⟨by decide +kernel, rfl⟩
theorem dL_pump_1 : decode cL_pump 1 = .ok (.iconst 0, 1) ∧ 2 = 1 + 1 := ⟨by decide +kernel, rfl⟩
theorem dL_pump_2 : decode cL_pump 2 = .ok (.aload_n 0, 1) ∧ 3 = 2 + 1 := ⟨by decide +kernel, rfl⟩
theorem dL_pump_3 : decode cL_pump 3 = .ok (.iload_n 1, 1) ∧ 4 = 3 + 1 := ⟨by decide +kernel, rfl⟩
theorem dL_pump_4 : decode cL_pump 4 = .ok (.iload_n 2, 1) ∧ 5 = 4 + 1 := ⟨by decide +kernel, rfl⟩
theorem dL_pump_5 : decode cL_pump 5 = .ok (.invokevirtual 67, 3) ∧ 8 = 5 + 3 := ⟨by decide +kernel, rfl⟩
theorem dL_pump_8 : decode cL_pump 8 = .ok (.i2l, 1) ∧ 9 = 8 + 1 := ⟨by decide +kernel, rfl⟩
theorem dL_pump_9 : decode cL_pump 9 = .ok (.lastore, 1) ∧ 10 = 9 + 1 := ⟨by decide +kernel, rfl⟩
theorem dL_pump_10 : decode cL_pump 10 = .ok (.goto 11, 3) ∧ 13 = 10 + 3 := ⟨by decide +kernel, rfl⟩
theorem dL_pump_13 : decode cL_pump 13 = .ok (.astore 4, 2) ∧ 15 = 13 + 2 := ⟨by decide +kernel, rfl⟩
theorem dL_pump_15 : decode cL_pump 15 = .ok (.iconst 1, 1) ∧ 16 = 15 + 1 := ⟨by decide +kernel, rfl⟩
theorem dL_pump_16 : decode cL_pump 16 = .ok (.ireturn, 1) ∧ 17 = 16 + 1 := ⟨by decide +kernel, rfl⟩
theorem dL_pump_17 : decode cL_pump 17 = .ok (.astore 4, 2) ∧ 19 = 17 + 2 := ⟨by decide +kernel, rfl⟩
theorem dL_pump_19 : decode cL_pump 19 = .ok (.iconst 2, 1) ∧ 20 = 19 + 1 := ⟨by decide +kernel, rfl⟩
theorem dL_pump_20 : decode cL_pump 20 = .ok (.ireturn, 1) ∧ 21 = 20 + 1 := ⟨by decide +kernel, rfl⟩
theorem dL_pump_21 : decode cL_pump 21 = .ok (.iconst 0, 1) ∧ 22 = 21 + 1 := ⟨by decide +kernel, rfl⟩
theorem dL_pump_22 : decode cL_pump 22 = .ok (.ireturn, 1) ∧ 23 = 22 + 1 := ⟨by decide +kernel, rfl⟩
theorem dL_valve_0 : decode cL_valve 0 = .ok (.aload_n 3, 1) ∧ 1 = 0 + 1 := ⟨by decide +kernel, rfl⟩
theorem dL_valve_1 : decode cL_valve 1 = .ok (.iconst 0, 1) ∧ 2 = 1 + 1 := ⟨by decide +kernel, rfl⟩
theorem dL_valve_2 : decode cL_valve 2 = .ok (.aload_n 0, 1) ∧ 3 = 2 + 1 := ⟨by decide +kernel, rfl⟩
theorem dL_valve_3 : decode cL_valve 3 = .ok (.iload_n 1, 1) ∧ 4 = 3 + 1 := ⟨by decide +kernel, rfl⟩
theorem dL_valve_4 : decode cL_valve 4 = .ok (.iload_n 2, 1) ∧ 5 = 4 + 1 := ⟨by decide +kernel, rfl⟩
theorem dL_valve_5 : decode cL_valve 5 = .ok (.invokevirtual 70, 3) ∧ 8 = 5 + 3 := ⟨by decide +kernel, rfl⟩
theorem dL_valve_8 : decode cL_valve 8 = .ok (.i2l, 1) ∧ 9 = 8 + 1 := ⟨by decide +kernel, rfl⟩
theorem dL_valve_9 : decode cL_valve 9 = .ok (.lastore, 1) ∧ 10 = 9 + 1 := ⟨by decide +kernel, rfl⟩
theorem dL_valve_10 : decode cL_valve 10 = .ok (.goto 11, 3) ∧ 13 = 10 + 3 := ⟨by decide +kernel, rfl⟩
theorem dL_valve_13 : decode cL_valve 13 = .ok (.astore 4, 2) ∧ 15 = 13 + 2 := ⟨by decide +kernel, rfl⟩
theorem dL_valve_15 : decode cL_valve 15 = .ok (.iconst 1, 1) ∧ 16 = 15 + 1 := ⟨by decide +kernel, rfl⟩
theorem dL_valve_16 : decode cL_valve 16 = .ok (.ireturn, 1) ∧ 17 = 16 + 1 := ⟨by decide +kernel, rfl⟩
theorem dL_valve_17 : decode cL_valve 17 = .ok (.astore 4, 2) ∧ 19 = 17 + 2 := ⟨by decide +kernel, rfl⟩
theorem dL_valve_19 : decode cL_valve 19 = .ok (.iconst 2, 1) ∧ 20 = 19 + 1 := ⟨by decide +kernel, rfl⟩
theorem dL_valve_20 : decode cL_valve 20 = .ok (.ireturn, 1) ∧ 21 = 20 + 1 := ⟨by decide +kernel, rfl⟩
theorem dL_valve_21 : decode cL_valve 21 = .ok (.iconst 0, 1) ∧ 22 = 21 + 1 := ⟨by decide +kernel, rfl⟩
theorem dL_valve_22 : decode cL_valve 22 = .ok (.ireturn, 1) ∧ 23 = 22 + 1 := ⟨by decide +kernel, rfl⟩
theorem dL_flange_0 : decode cL_flange 0 = .ok (.aload_n 3, 1) ∧ 1 = 0 + 1 := ⟨by decide +kernel, rfl⟩
theorem dL_flange_1 : decode cL_flange 1 = .ok (.iconst 0, 1) ∧ 2 = 1 + 1 := ⟨by decide +kernel, rfl⟩
theorem dL_flange_2 : decode cL_flange 2 = .ok (.aload_n 0, 1) ∧ 3 = 2 + 1 := ⟨by decide +kernel, rfl⟩
theorem dL_flange_3 : decode cL_flange 3 = .ok (.iload_n 1, 1) ∧ 4 = 3 + 1 := ⟨by decide +kernel, rfl⟩
theorem dL_flange_4 : decode cL_flange 4 = .ok (.iload_n 2, 1) ∧ 5 = 4 + 1 := ⟨by decide +kernel, rfl⟩
theorem dL_flange_5 : decode cL_flange 5 = .ok (.invokevirtual 73, 3) ∧ 8 = 5 + 3 := ⟨by decide +kernel, rfl⟩
theorem dL_flange_8 : decode cL_flange 8 = .ok (.i2l, 1) ∧ 9 = 8 + 1 := ⟨by decide +kernel, rfl⟩
theorem dL_flange_9 : decode cL_flange 9 = .ok (.lastore, 1) ∧ 10 = 9 + 1 := ⟨by decide +kernel, rfl⟩
theorem dL_flange_10 : decode cL_flange 10 = .ok (.goto 11, 3) ∧ 13 = 10 + 3 := ⟨by decide +kernel, rfl⟩
theorem dL_flange_13 : decode cL_flange 13 = .ok (.astore 4, 2) ∧ 15 = 13 + 2 := ⟨by decide +kernel, rfl⟩
theorem dL_flange_15 : decode cL_flange 15 = .ok (.iconst 1, 1) ∧ 16 = 15 + 1 := ⟨by decide +kernel, rfl⟩
theorem dL_flange_16 : decode cL_flange 16 = .ok (.ireturn, 1) ∧ 17 = 16 + 1 := ⟨by decide +kernel, rfl⟩
theorem dL_flange_17 : decode cL_flange 17 = .ok (.astore 4, 2) ∧ 19 = 17 + 2 := ⟨by decide +kernel, rfl⟩
theorem dL_flange_19 : decode cL_flange 19 = .ok (.iconst 2, 1) ∧ 20 = 19 + 1 := ⟨by decide +kernel, rfl⟩
theorem dL_flange_20 : decode cL_flange 20 = .ok (.ireturn, 1) ∧ 21 = 20 + 1 := ⟨by decide +kernel, rfl⟩
theorem dL_flange_21 : decode cL_flange 21 = .ok (.iconst 0, 1) ∧ 22 = 21 + 1 := ⟨by decide +kernel, rfl⟩
theorem dL_flange_22 : decode cL_flange 22 = .ok (.ireturn, 1) ∧ 23 = 22 + 1 := ⟨by decide +kernel, rfl⟩
theorem dL_rise_0 : decode cL_rise 0 = .ok (.aload_n 3, 1) ∧ 1 = 0 + 1 := ⟨by decide +kernel, rfl⟩
theorem dL_rise_1 : decode cL_rise 1 = .ok (.iconst 0, 1) ∧ 2 = 1 + 1 := ⟨by decide +kernel, rfl⟩
theorem dL_rise_2 : decode cL_rise 2 = .ok (.aload_n 0, 1) ∧ 3 = 2 + 1 := ⟨by decide +kernel, rfl⟩
theorem dL_rise_3 : decode cL_rise 3 = .ok (.iload_n 1, 1) ∧ 4 = 3 + 1 := ⟨by decide +kernel, rfl⟩
theorem dL_rise_4 : decode cL_rise 4 = .ok (.iload_n 2, 1) ∧ 5 = 4 + 1 := ⟨by decide +kernel, rfl⟩
theorem dL_rise_5 : decode cL_rise 5 = .ok (.invokevirtual 76, 3) ∧ 8 = 5 + 3 := ⟨by decide +kernel, rfl⟩
theorem dL_rise_8 : decode cL_rise 8 = .ok (.i2l, 1) ∧ 9 = 8 + 1 := ⟨by decide +kernel, rfl⟩
theorem dL_rise_9 : decode cL_rise 9 = .ok (.lastore, 1) ∧ 10 = 9 + 1 := ⟨by decide +kernel, rfl⟩
theorem dL_rise_10 : decode cL_rise 10 = .ok (.goto 11, 3) ∧ 13 = 10 + 3 := ⟨by decide +kernel, rfl⟩
theorem dL_rise_13 : decode cL_rise 13 = .ok (.astore 4, 2) ∧ 15 = 13 + 2 := ⟨by decide +kernel, rfl⟩
theorem dL_rise_15 : decode cL_rise 15 = .ok (.iconst 1, 1) ∧ 16 = 15 + 1 := ⟨by decide +kernel, rfl⟩
theorem dL_rise_16 : decode cL_rise 16 = .ok (.ireturn, 1) ∧ 17 = 16 + 1 := ⟨by decide +kernel, rfl⟩
theorem dL_rise_17 : decode cL_rise 17 = .ok (.astore 4, 2) ∧ 19 = 17 + 2 := ⟨by decide +kernel, rfl⟩
theorem dL_rise_19 : decode cL_rise 19 = .ok (.iconst 2, 1) ∧ 20 = 19 + 1 := ⟨by decide +kernel, rfl⟩
theorem dL_rise_20 : decode cL_rise 20 = .ok (.ireturn, 1) ∧ 21 = 20 + 1 := ⟨by decide +kernel, rfl⟩
theorem dL_rise_21 : decode cL_rise 21 = .ok (.iconst 0, 1) ∧ 22 = 21 + 1 := ⟨by decide +kernel, rfl⟩
theorem dL_rise_22 : decode cL_rise 22 = .ok (.ireturn, 1) ∧ 23 = 22 + 1 := ⟨by decide +kernel, rfl⟩
theorem dL_riseGas_0 : decode cL_riseGas 0 = .ok (.aload_n 3, 1) ∧ 1 = 0 + 1 := ⟨by decide +kernel, rfl⟩
theorem dL_riseGas_1 : decode cL_riseGas 1 = .ok (.iconst 0, 1) ∧ 2 = 1 + 1 := ⟨by decide +kernel, rfl⟩
theorem dL_riseGas_2 : decode cL_riseGas 2 = .ok (.aload_n 0, 1) ∧ 3 = 2 + 1 := ⟨by decide +kernel, rfl⟩
theorem dL_riseGas_3 : decode cL_riseGas 3 = .ok (.iload_n 1, 1) ∧ 4 = 3 + 1 := ⟨by decide +kernel, rfl⟩
theorem dL_riseGas_4 : decode cL_riseGas 4 = .ok (.iload_n 2, 1) ∧ 5 = 4 + 1 := ⟨by decide +kernel, rfl⟩
theorem dL_riseGas_5 : decode cL_riseGas 5 = .ok (.invokevirtual 79, 3) ∧ 8 = 5 + 3 := ⟨by decide +kernel, rfl⟩
theorem dL_riseGas_8 : decode cL_riseGas 8 = .ok (.lastore, 1) ∧ 9 = 8 + 1 := ⟨by decide +kernel, rfl⟩
theorem dL_riseGas_9 : decode cL_riseGas 9 = .ok (.goto 7, 3) ∧ 12 = 9 + 3 := ⟨by decide +kernel, rfl⟩
theorem dL_riseGas_12 : decode cL_riseGas 12 = .ok (.astore 4, 2) ∧ 14 = 12 + 2 := ⟨by decide +kernel, rfl⟩
theorem dL_riseGas_14 : decode cL_riseGas 14 = .ok (.iconst 1, 1) ∧ 15 = 14 + 1 := ⟨by decide +kernel, rfl⟩
theorem dL_riseGas_15 : decode cL_riseGas 15 = .ok (.ireturn, 1) ∧ 16 = 15 + 1 := ⟨by decide +kernel, rfl⟩
theorem dL_riseGas_16 : decode cL_riseGas 16 = .ok (.iconst 0, 1) ∧ 17 = 16 + 1 := ⟨by decide +kernel, rfl⟩
theorem dL_riseGas_17 : decode cL_riseGas 17 = .ok (.ireturn, 1) ∧ 18 = 17 + 1 := ⟨by decide +kernel, rfl⟩
theorem dL_mayOpen_0 : decode cL_mayOpen 0 = .ok (.aload_n 2, 1) ∧ 1 = 0 + 1 := ⟨by decide +kernel, rfl⟩
theorem dL_mayOpen_1 : decode cL_mayOpen 1 = .ok (.iconst 0, 1) ∧ 2 = 1 + 1 := ⟨by decide +kernel, rfl⟩
theorem dL_mayOpen_2 : decode cL_mayOpen 2 = .ok (.aload_n 0, 1) ∧ 3 = 2 + 1 := ⟨by decide +kernel, rfl⟩
theorem dL_mayOpen_3 : decode cL_mayOpen 3 = .ok (.iload_n 1, 1) ∧ 4 = 3 + 1 := ⟨by decide +kernel, rfl⟩
theorem dL_mayOpen_4 : decode cL_mayOpen 4 = .ok (.invokevirtual 83, 3) ∧ 7 = 4 + 3 := ⟨by decide +kernel, rfl⟩
theorem dL_mayOpen_7 : decode cL_mayOpen 7 = .ok (.i2l, 1) ∧ 8 = 7 + 1 := ⟨by decide +kernel, rfl⟩
theorem dL_mayOpen_8 : decode cL_mayOpen 8 = .ok (.lastore, 1) ∧ 9 = 8 + 1 := ⟨by decide +kernel, rfl⟩
theorem dL_mayOpen_9 : decode cL_mayOpen 9 = .ok (.goto 6, 3) ∧ 12 = 9 + 3 := ⟨by decide +kernel, rfl⟩
theorem dL_mayOpen_12 : decode cL_mayOpen 12 = .ok (.astore_n 3, 1) ∧ 13 = 12 + 1 := ⟨by decide +kernel, rfl⟩
theorem dL_mayOpen_13 : decode cL_mayOpen 13 = .ok (.iconst 1, 1) ∧ 14 = 13 + 1 := ⟨by decide +kernel, rfl⟩
theorem dL_mayOpen_14 : decode cL_mayOpen 14 = .ok (.ireturn, 1) ∧ 15 = 14 + 1 := ⟨by decide +kernel, rfl⟩
theorem dL_mayOpen_15 : decode cL_mayOpen 15 = .ok (.iconst 0, 1) ∧ 16 = 15 + 1 := ⟨by decide +kernel, rfl⟩
theorem dL_mayOpen_16 : decode cL_mayOpen 16 = .ok (.ireturn, 1) ∧ 17 = 16 + 1 := ⟨by decide +kernel, rfl⟩
theorem dL_mayStart_0 : decode cL_mayStart 0 = .ok (.aload_n 2, 1) ∧ 1 = 0 + 1 := ⟨by decide +kernel, rfl⟩
theorem dL_mayStart_1 : decode cL_mayStart 1 = .ok (.iconst 0, 1) ∧ 2 = 1 + 1 := ⟨by decide +kernel, rfl⟩
theorem dL_mayStart_2 : decode cL_mayStart 2 = .ok (.aload_n 0, 1) ∧ 3 = 2 + 1 := ⟨by decide +kernel, rfl⟩
theorem dL_mayStart_3 : decode cL_mayStart 3 = .ok (.iload_n 1, 1) ∧ 4 = 3 + 1 := ⟨by decide +kernel, rfl⟩
theorem dL_mayStart_4 : decode cL_mayStart 4 = .ok (.invokevirtual 86, 3) ∧ 7 = 4 + 3 := ⟨by decide +kernel, rfl⟩
theorem dL_mayStart_7 : decode cL_mayStart 7 = .ok (.i2l, 1) ∧ 8 = 7 + 1 := ⟨by decide +kernel, rfl⟩
theorem dL_mayStart_8 : decode cL_mayStart 8 = .ok (.lastore, 1) ∧ 9 = 8 + 1 := ⟨by decide +kernel, rfl⟩
theorem dL_mayStart_9 : decode cL_mayStart 9 = .ok (.goto 6, 3) ∧ 12 = 9 + 3 := ⟨by decide +kernel, rfl⟩
theorem dL_mayStart_12 : decode cL_mayStart 12 = .ok (.astore_n 3, 1) ∧ 13 = 12 + 1 := ⟨by decide +kernel, rfl⟩
theorem dL_mayStart_13 : decode cL_mayStart 13 = .ok (.iconst 1, 1) ∧ 14 = 13 + 1 := ⟨by decide +kernel, rfl⟩
theorem dL_mayStart_14 : decode cL_mayStart 14 = .ok (.ireturn, 1) ∧ 15 = 14 + 1 := ⟨by decide +kernel, rfl⟩
theorem dL_mayStart_15 : decode cL_mayStart 15 = .ok (.iconst 0, 1) ∧ 16 = 15 + 1 := ⟨by decide +kernel, rfl⟩
theorem dL_mayStart_16 : decode cL_mayStart 16 = .ok (.ireturn, 1) ∧ 17 = 16 + 1 := ⟨by decide +kernel, rfl⟩
theorem dL_joined_0 : decode cL_joined 0 = .ok (.aload_n 2, 1) ∧ 1 = 0 + 1 := ⟨by decide +kernel, rfl⟩
theorem dL_joined_1 : decode cL_joined 1 = .ok (.iconst 0, 1) ∧ 2 = 1 + 1 := ⟨by decide +kernel, rfl⟩
theorem dL_joined_2 : decode cL_joined 2 = .ok (.aload_n 0, 1) ∧ 3 = 2 + 1 := ⟨by decide +kernel, rfl⟩
theorem dL_joined_3 : decode cL_joined 3 = .ok (.iload_n 1, 1) ∧ 4 = 3 + 1 := ⟨by decide +kernel, rfl⟩
theorem dL_joined_4 : decode cL_joined 4 = .ok (.invokevirtual 89, 3) ∧ 7 = 4 + 3 := ⟨by decide +kernel, rfl⟩
theorem dL_joined_7 : decode cL_joined 7 = .ok (.i2l, 1) ∧ 8 = 7 + 1 := ⟨by decide +kernel, rfl⟩
theorem dL_joined_8 : decode cL_joined 8 = .ok (.lastore, 1) ∧ 9 = 8 + 1 := ⟨by decide +kernel, rfl⟩
theorem dL_joined_9 : decode cL_joined 9 = .ok (.goto 6, 3) ∧ 12 = 9 + 3 := ⟨by decide +kernel, rfl⟩
theorem dL_joined_12 : decode cL_joined 12 = .ok (.astore_n 3, 1) ∧ 13 = 12 + 1 := ⟨by decide +kernel, rfl⟩
theorem dL_joined_13 : decode cL_joined 13 = .ok (.iconst 1, 1) ∧ 14 = 13 + 1 := ⟨by decide +kernel, rfl⟩
theorem dL_joined_14 : decode cL_joined 14 = .ok (.ireturn, 1) ∧ 15 = 14 + 1 := ⟨by decide +kernel, rfl⟩
theorem dL_joined_15 : decode cL_joined 15 = .ok (.iconst 0, 1) ∧ 16 = 15 + 1 := ⟨by decide +kernel, rfl⟩
theorem dL_joined_16 : decode cL_joined 16 = .ok (.ireturn, 1) ∧ 17 = 16 + 1 := ⟨by decide +kernel, rfl⟩
theorem dL_isVented_0 : decode cL_isVented 0 = .ok (.aload_n 2, 1) ∧ 1 = 0 + 1 := ⟨by decide +kernel, rfl⟩
theorem dL_isVented_1 : decode cL_isVented 1 = .ok (.iconst 0, 1) ∧ 2 = 1 + 1 := ⟨by decide +kernel, rfl⟩
theorem dL_isVented_2 : decode cL_isVented 2 = .ok (.aload_n 0, 1) ∧ 3 = 2 + 1 := ⟨by decide +kernel, rfl⟩
theorem dL_isVented_3 : decode cL_isVented 3 = .ok (.iload_n 1, 1) ∧ 4 = 3 + 1 := ⟨by decide +kernel, rfl⟩
theorem dL_isVented_4 : decode cL_isVented 4 = .ok (.invokevirtual 92, 3) ∧ 7 = 4 + 3 := ⟨by decide +kernel, rfl⟩
theorem dL_isVented_7 : decode cL_isVented 7 = .ok (.ifCond .eq 7, 3) ∧ 10 = 7 + 3 := ⟨by decide +kernel, rfl⟩
theorem dL_isVented_10 : decode cL_isVented 10 = .ok (.lconst 1, 1) ∧ 11 = 10 + 1 := ⟨by decide +kernel, rfl⟩
theorem dL_isVented_11 : decode cL_isVented 11 = .ok (.goto 4, 3) ∧ 14 = 11 + 3 := ⟨by decide +kernel, rfl⟩
theorem dL_isVented_14 : decode cL_isVented 14 = .ok (.lconst 0, 1) ∧ 15 = 14 + 1 := ⟨by decide +kernel, rfl⟩
theorem dL_isVented_15 : decode cL_isVented 15 = .ok (.lastore, 1) ∧ 16 = 15 + 1 := ⟨by decide +kernel, rfl⟩
theorem dL_isVented_16 : decode cL_isVented 16 = .ok (.goto 6, 3) ∧ 19 = 16 + 3 := ⟨by decide +kernel, rfl⟩
theorem dL_isVented_19 : decode cL_isVented 19 = .ok (.astore_n 3, 1) ∧ 20 = 19 + 1 := ⟨by decide +kernel, rfl⟩
theorem dL_isVented_20 : decode cL_isVented 20 = .ok (.iconst 1, 1) ∧ 21 = 20 + 1 := ⟨by decide +kernel, rfl⟩
theorem dL_isVented_21 : decode cL_isVented 21 = .ok (.ireturn, 1) ∧ 22 = 21 + 1 := ⟨by decide +kernel, rfl⟩
theorem dL_isVented_22 : decode cL_isVented 22 = .ok (.iconst 0, 1) ∧ 23 = 22 + 1 := ⟨by decide +kernel, rfl⟩
theorem dL_isVented_23 : decode cL_isVented 23 = .ok (.ireturn, 1) ∧ 24 = 23 + 1 := ⟨by decide +kernel, rfl⟩
theorem dL_spread_0 : decode cL_spread 0 = .ok (.aload_n 2, 1) ∧ 1 = 0 + 1 := ⟨by decide +kernel, rfl⟩
theorem dL_spread_1 : decode cL_spread 1 = .ok (.iconst 0, 1) ∧ 2 = 1 + 1 := ⟨by decide +kernel, rfl⟩
theorem dL_spread_2 : decode cL_spread 2 = .ok (.aload_n 0, 1) ∧ 3 = 2 + 1 := ⟨by decide +kernel, rfl⟩
theorem dL_spread_3 : decode cL_spread 3 = .ok (.iload_n 1, 1) ∧ 4 = 3 + 1 := ⟨by decide +kernel, rfl⟩
theorem dL_spread_4 : decode cL_spread 4 = .ok (.invokevirtual 96, 3) ∧ 7 = 4 + 3 := ⟨by decide +kernel, rfl⟩
theorem dL_spread_7 : decode cL_spread 7 = .ok (.i2l, 1) ∧ 8 = 7 + 1 := ⟨by decide +kernel, rfl⟩
theorem dL_spread_8 : decode cL_spread 8 = .ok (.lastore, 1) ∧ 9 = 8 + 1 := ⟨by decide +kernel, rfl⟩
theorem dL_spread_9 : decode cL_spread 9 = .ok (.goto 6, 3) ∧ 12 = 9 + 3 := ⟨by decide +kernel, rfl⟩
theorem dL_spread_12 : decode cL_spread 12 = .ok (.astore_n 3, 1) ∧ 13 = 12 + 1 := ⟨by decide +kernel, rfl⟩
theorem dL_spread_13 : decode cL_spread 13 = .ok (.iconst 1, 1) ∧ 14 = 13 + 1 := ⟨by decide +kernel, rfl⟩
theorem dL_spread_14 : decode cL_spread 14 = .ok (.ireturn, 1) ∧ 15 = 14 + 1 := ⟨by decide +kernel, rfl⟩
theorem dL_spread_15 : decode cL_spread 15 = .ok (.iconst 0, 1) ∧ 16 = 15 + 1 := ⟨by decide +kernel, rfl⟩
theorem dL_spread_16 : decode cL_spread 16 = .ok (.ireturn, 1) ∧ 17 = 16 + 1 := ⟨by decide +kernel, rfl⟩
theorem dL_isIsolated_0 : decode cL_isIsolated 0 = .ok (.aload_n 2, 1) ∧ 1 = 0 + 1 := ⟨by decide +kernel, rfl⟩
theorem dL_isIsolated_1 : decode cL_isIsolated 1 = .ok (.iconst 0, 1) ∧ 2 = 1 + 1 := ⟨by decide +kernel, rfl⟩
theorem dL_isIsolated_2 : decode cL_isIsolated 2 = .ok (.aload_n 0, 1) ∧ 3 = 2 + 1 := ⟨by decide +kernel, rfl⟩
theorem dL_isIsolated_3 : decode cL_isIsolated 3 = .ok (.iload_n 1, 1) ∧ 4 = 3 + 1 := ⟨by decide +kernel, rfl⟩
theorem dL_isIsolated_4 : decode cL_isIsolated 4 = .ok (.invokevirtual 99, 3) ∧ 7 = 4 + 3 := ⟨by decide +kernel, rfl⟩
theorem dL_isIsolated_7 : decode cL_isIsolated 7 = .ok (.ifCond .eq 7, 3) ∧ 10 = 7 + 3 := ⟨by decide +kernel, rfl⟩
theorem dL_isIsolated_10 : decode cL_isIsolated 10 = .ok (.lconst 1, 1) ∧ 11 = 10 + 1 := ⟨by decide +kernel, rfl⟩
theorem dL_isIsolated_11 : decode cL_isIsolated 11 = .ok (.goto 4, 3) ∧ 14 = 11 + 3 := ⟨by decide +kernel, rfl⟩
theorem dL_isIsolated_14 : decode cL_isIsolated 14 = .ok (.lconst 0, 1) ∧ 15 = 14 + 1 := ⟨by decide +kernel, rfl⟩
theorem dL_isIsolated_15 : decode cL_isIsolated 15 = .ok (.lastore, 1) ∧ 16 = 15 + 1 := ⟨by decide +kernel, rfl⟩
theorem dL_isIsolated_16 : decode cL_isIsolated 16 = .ok (.goto 6, 3) ∧ 19 = 16 + 3 := ⟨by decide +kernel, rfl⟩
theorem dL_isIsolated_19 : decode cL_isIsolated 19 = .ok (.astore_n 3, 1) ∧ 20 = 19 + 1 := ⟨by decide +kernel, rfl⟩
theorem dL_isIsolated_20 : decode cL_isIsolated 20 = .ok (.iconst 1, 1) ∧ 21 = 20 + 1 := ⟨by decide +kernel, rfl⟩
theorem dL_isIsolated_21 : decode cL_isIsolated 21 = .ok (.ireturn, 1) ∧ 22 = 21 + 1 := ⟨by decide +kernel, rfl⟩
theorem dL_isIsolated_22 : decode cL_isIsolated 22 = .ok (.iconst 0, 1) ∧ 23 = 22 + 1 := ⟨by decide +kernel, rfl⟩
theorem dL_isIsolated_23 : decode cL_isIsolated 23 = .ok (.ireturn, 1) ∧ 24 = 23 + 1 := ⟨by decide +kernel, rfl⟩
theorem dL_fewestValves_0 : decode cL_fewestValves 0 = .ok (.aload_n 3, 1) ∧ 1 = 0 + 1 := ⟨by decide +kernel, rfl⟩
theorem dL_fewestValves_1 : decode cL_fewestValves 1 = .ok (.iconst 0, 1) ∧ 2 = 1 + 1 := ⟨by decide +kernel, rfl⟩
theorem dL_fewestValves_2 : decode cL_fewestValves 2 = .ok (.aload_n 0, 1) ∧ 3 = 2 + 1 := ⟨by decide +kernel, rfl⟩
theorem dL_fewestValves_3 : decode cL_fewestValves 3 = .ok (.iload_n 1, 1) ∧ 4 = 3 + 1 := ⟨by decide +kernel, rfl⟩
theorem dL_fewestValves_4 : decode cL_fewestValves 4 = .ok (.iload_n 2, 1) ∧ 5 = 4 + 1 := ⟨by decide +kernel, rfl⟩
theorem dL_fewestValves_5 : decode cL_fewestValves 5 = .ok (.invokevirtual 102, 3) ∧ 8 = 5 + 3 := ⟨by decide +kernel, rfl⟩
theorem dL_fewestValves_8 : decode cL_fewestValves 8 = .ok (.i2l, 1) ∧ 9 = 8 + 1 := ⟨by decide +kernel, rfl⟩
theorem dL_fewestValves_9 : decode cL_fewestValves 9 = .ok (.lastore, 1) ∧ 10 = 9 + 1 := ⟨by decide +kernel, rfl⟩
theorem dL_fewestValves_10 : decode cL_fewestValves 10 = .ok (.goto 11, 3) ∧ 13 = 10 + 3 := ⟨by decide +kernel, rfl⟩
theorem dL_fewestValves_13 : decode cL_fewestValves 13 = .ok (.astore 4, 2) ∧ 15 = 13 + 2 := ⟨by decide +kernel, rfl⟩
theorem dL_fewestValves_15 : decode cL_fewestValves 15 = .ok (.iconst 1, 1) ∧ 16 = 15 + 1 := ⟨by decide +kernel, rfl⟩
theorem dL_fewestValves_16 : decode cL_fewestValves 16 = .ok (.ireturn, 1) ∧ 17 = 16 + 1 := ⟨by decide +kernel, rfl⟩
theorem dL_fewestValves_17 : decode cL_fewestValves 17 = .ok (.astore 4, 2) ∧ 19 = 17 + 2 := ⟨by decide +kernel, rfl⟩
theorem dL_fewestValves_19 : decode cL_fewestValves 19 = .ok (.iconst 2, 1) ∧ 20 = 19 + 1 := ⟨by decide +kernel, rfl⟩
theorem dL_fewestValves_20 : decode cL_fewestValves 20 = .ok (.ireturn, 1) ∧ 21 = 20 + 1 := ⟨by decide +kernel, rfl⟩
theorem dL_fewestValves_21 : decode cL_fewestValves 21 = .ok (.iconst 0, 1) ∧ 22 = 21 + 1 := ⟨by decide +kernel, rfl⟩
theorem dL_fewestValves_22 : decode cL_fewestValves 22 = .ok (.ireturn, 1) ∧ 23 = 22 + 1 := ⟨by decide +kernel, rfl⟩
theorem dL_settled_0 : decode cL_settled 0 = .ok (.aload_n 2, 1) ∧ 1 = 0 + 1 := ⟨by decide +kernel, rfl⟩
theorem dL_settled_1 : decode cL_settled 1 = .ok (.iconst 0, 1) ∧ 2 = 1 + 1 := ⟨by decide +kernel, rfl⟩
theorem dL_settled_2 : decode cL_settled 2 = .ok (.aload_n 0, 1) ∧ 3 = 2 + 1 := ⟨by decide +kernel, rfl⟩
theorem dL_settled_3 : decode cL_settled 3 = .ok (.iload_n 1, 1) ∧ 4 = 3 + 1 := ⟨by decide +kernel, rfl⟩
theorem dL_settled_4 : decode cL_settled 4 = .ok (.invokevirtual 105, 3) ∧ 7 = 4 + 3 := ⟨by decide +kernel, rfl⟩
theorem dL_settled_7 : decode cL_settled 7 = .ok (.i2l, 1) ∧ 8 = 7 + 1 := ⟨by decide +kernel, rfl⟩
theorem dL_settled_8 : decode cL_settled 8 = .ok (.lastore, 1) ∧ 9 = 8 + 1 := ⟨by decide +kernel, rfl⟩
theorem dL_settled_9 : decode cL_settled 9 = .ok (.goto 6, 3) ∧ 12 = 9 + 3 := ⟨by decide +kernel, rfl⟩
theorem dL_settled_12 : decode cL_settled 12 = .ok (.astore_n 3, 1) ∧ 13 = 12 + 1 := ⟨by decide +kernel, rfl⟩
theorem dL_settled_13 : decode cL_settled 13 = .ok (.iconst 1, 1) ∧ 14 = 13 + 1 := ⟨by decide +kernel, rfl⟩
theorem dL_settled_14 : decode cL_settled 14 = .ok (.ireturn, 1) ∧ 15 = 14 + 1 := ⟨by decide +kernel, rfl⟩
theorem dL_settled_15 : decode cL_settled 15 = .ok (.iconst 0, 1) ∧ 16 = 15 + 1 := ⟨by decide +kernel, rfl⟩
theorem dL_settled_16 : decode cL_settled 16 = .ok (.ireturn, 1) ∧ 17 = 16 + 1 := ⟨by decide +kernel, rfl⟩
theorem dL_widest_0 : decode cL_widest 0 = .ok (.aload_n 1, 1) ∧ 1 = 0 + 1 := ⟨by decide +kernel, rfl⟩
theorem dL_widest_1 : decode cL_widest 1 = .ok (.iconst 0, 1) ∧ 2 = 1 + 1 := ⟨by decide +kernel, rfl⟩
theorem dL_widest_2 : decode cL_widest 2 = .ok (.aload_n 0, 1) ∧ 3 = 2 + 1 := ⟨by decide +kernel, rfl⟩
theorem dL_widest_3 : decode cL_widest 3 = .ok (.invokevirtual 108, 3) ∧ 6 = 3 + 3 := ⟨by decide +kernel, rfl⟩
theorem dL_widest_6 : decode cL_widest 6 = .ok (.i2l, 1) ∧ 7 = 6 + 1 := ⟨by decide +kernel, rfl⟩
theorem dL_widest_7 : decode cL_widest 7 = .ok (.lastore, 1) ∧ 8 = 7 + 1 := ⟨by decide +kernel, rfl⟩
theorem dL_widest_8 : decode cL_widest 8 = .ok (.goto 6, 3) ∧ 11 = 8 + 3 := ⟨by decide +kernel, rfl⟩
theorem dL_widest_11 : decode cL_widest 11 = .ok (.astore_n 2, 1) ∧ 12 = 11 + 1 := ⟨by decide +kernel, rfl⟩
theorem dL_widest_12 : decode cL_widest 12 = .ok (.iconst 1, 1) ∧ 13 = 12 + 1 := ⟨by decide +kernel, rfl⟩
theorem dL_widest_13 : decode cL_widest 13 = .ok (.ireturn, 1) ∧ 14 = 13 + 1 := ⟨by decide +kernel, rfl⟩
theorem dL_widest_14 : decode cL_widest 14 = .ok (.iconst 0, 1) ∧ 15 = 14 + 1 := ⟨by decide +kernel, rfl⟩
theorem dL_widest_15 : decode cL_widest 15 = .ok (.ireturn, 1) ∧ 16 = 15 + 1 := ⟨by decide +kernel, rfl⟩
theorem dL_pressureAfter_0 : decode cL_pressureAfter 0 = .ok (.aload_n 3, 1) ∧ 1 = 0 + 1 := ⟨by decide +kernel, rfl⟩
theorem dL_pressureAfter_1 : decode cL_pressureAfter 1 = .ok (.iconst 0, 1) ∧ 2 = 1 + 1 := ⟨by decide +kernel, rfl⟩
theorem dL_pressureAfter_2 : decode cL_pressureAfter 2 = .ok (.aload_n 0, 1) ∧ 3 = 2 + 1 := ⟨by decide +kernel, rfl⟩
theorem dL_pressureAfter_3 : decode cL_pressureAfter 3 = .ok (.iload_n 1, 1) ∧ 4 = 3 + 1 := ⟨by decide +kernel, rfl⟩
theorem dL_pressureAfter_4 : decode cL_pressureAfter 4 = .ok (.iload_n 2, 1) ∧ 5 = 4 + 1 := ⟨by decide +kernel, rfl⟩
theorem dL_pressureAfter_5 : decode cL_pressureAfter 5 = .ok (.invokevirtual 114, 3) ∧ 8 = 5 + 3 := ⟨by decide +kernel, rfl⟩
theorem dL_pressureAfter_8 : decode cL_pressureAfter 8 = .ok (.i2l, 1) ∧ 9 = 8 + 1 := ⟨by decide +kernel, rfl⟩
theorem dL_pressureAfter_9 : decode cL_pressureAfter 9 = .ok (.lastore, 1) ∧ 10 = 9 + 1 := ⟨by decide +kernel, rfl⟩
theorem dL_pressureAfter_10 : decode cL_pressureAfter 10 = .ok (.goto 11, 3) ∧ 13 = 10 + 3 := ⟨by decide +kernel, rfl⟩
theorem dL_pressureAfter_13 : decode cL_pressureAfter 13 = .ok (.astore 4, 2) ∧ 15 = 13 + 2 := ⟨by decide +kernel, rfl⟩
theorem dL_pressureAfter_15 : decode cL_pressureAfter 15 = .ok (.iconst 1, 1) ∧ 16 = 15 + 1 := ⟨by decide +kernel, rfl⟩
theorem dL_pressureAfter_16 : decode cL_pressureAfter 16 = .ok (.ireturn, 1) ∧ 17 = 16 + 1 := ⟨by decide +kernel, rfl⟩
theorem dL_pressureAfter_17 : decode cL_pressureAfter 17 = .ok (.astore 4, 2) ∧ 19 = 17 + 2 := ⟨by decide +kernel, rfl⟩
theorem dL_pressureAfter_19 : decode cL_pressureAfter 19 = .ok (.iconst 2, 1) ∧ 20 = 19 + 1 := ⟨by decide +kernel, rfl⟩
theorem dL_pressureAfter_20 : decode cL_pressureAfter 20 = .ok (.ireturn, 1) ∧ 21 = 20 + 1 := ⟨by decide +kernel, rfl⟩
theorem dL_pressureAfter_21 : decode cL_pressureAfter 21 = .ok (.iconst 0, 1) ∧ 22 = 21 + 1 := ⟨by decide +kernel, rfl⟩
theorem dL_pressureAfter_22 : decode cL_pressureAfter 22 = .ok (.ireturn, 1) ∧ 23 = 22 + 1 := ⟨by decide +kernel, rfl⟩
theorem dL_lowest_0 : decode cL_lowest 0 = .ok (.aload_n 3, 1) ∧ 1 = 0 + 1 := ⟨by decide +kernel, rfl⟩
theorem dL_lowest_1 : decode cL_lowest 1 = .ok (.iconst 0, 1) ∧ 2 = 1 + 1 := ⟨by decide +kernel, rfl⟩
theorem dL_lowest_2 : decode cL_lowest 2 = .ok (.aload_n 0, 1) ∧ 3 = 2 + 1 := ⟨by decide +kernel, rfl⟩
theorem dL_lowest_3 : decode cL_lowest 3 = .ok (.iload_n 1, 1) ∧ 4 = 3 + 1 := ⟨by decide +kernel, rfl⟩
theorem dL_lowest_4 : decode cL_lowest 4 = .ok (.iload_n 2, 1) ∧ 5 = 4 + 1 := ⟨by decide +kernel, rfl⟩
theorem dL_lowest_5 : decode cL_lowest 5 = .ok (.invokevirtual 117, 3) ∧ 8 = 5 + 3 := ⟨by decide +kernel, rfl⟩
theorem dL_lowest_8 : decode cL_lowest 8 = .ok (.i2l, 1) ∧ 9 = 8 + 1 := ⟨by decide +kernel, rfl⟩
theorem dL_lowest_9 : decode cL_lowest 9 = .ok (.lastore, 1) ∧ 10 = 9 + 1 := ⟨by decide +kernel, rfl⟩
theorem dL_lowest_10 : decode cL_lowest 10 = .ok (.goto 11, 3) ∧ 13 = 10 + 3 := ⟨by decide +kernel, rfl⟩
theorem dL_lowest_13 : decode cL_lowest 13 = .ok (.astore 4, 2) ∧ 15 = 13 + 2 := ⟨by decide +kernel, rfl⟩
theorem dL_lowest_15 : decode cL_lowest 15 = .ok (.iconst 1, 1) ∧ 16 = 15 + 1 := ⟨by decide +kernel, rfl⟩
theorem dL_lowest_16 : decode cL_lowest 16 = .ok (.ireturn, 1) ∧ 17 = 16 + 1 := ⟨by decide +kernel, rfl⟩
theorem dL_lowest_17 : decode cL_lowest 17 = .ok (.astore 4, 2) ∧ 19 = 17 + 2 := ⟨by decide +kernel, rfl⟩
theorem dL_lowest_19 : decode cL_lowest 19 = .ok (.iconst 2, 1) ∧ 20 = 19 + 1 := ⟨by decide +kernel, rfl⟩
theorem dL_lowest_20 : decode cL_lowest 20 = .ok (.ireturn, 1) ∧ 21 = 20 + 1 := ⟨by decide +kernel, rfl⟩
theorem dL_lowest_21 : decode cL_lowest 21 = .ok (.iconst 0, 1) ∧ 22 = 21 + 1 := ⟨by decide +kernel, rfl⟩
theorem dL_lowest_22 : decode cL_lowest 22 = .ok (.ireturn, 1) ∧ 23 = 22 + 1 := ⟨by decide +kernel, rfl⟩
theorem dL_ticksTo_0 : decode cL_ticksTo 0 = .ok (.aload_n 3, 1) ∧ 1 = 0 + 1 := ⟨by decide +kernel, rfl⟩
theorem dL_ticksTo_1 : decode cL_ticksTo 1 = .ok (.iconst 0, 1) ∧ 2 = 1 + 1 := ⟨by decide +kernel, rfl⟩
theorem dL_ticksTo_2 : decode cL_ticksTo 2 = .ok (.aload_n 0, 1) ∧ 3 = 2 + 1 := ⟨by decide +kernel, rfl⟩
theorem dL_ticksTo_3 : decode cL_ticksTo 3 = .ok (.iload_n 1, 1) ∧ 4 = 3 + 1 := ⟨by decide +kernel, rfl⟩
theorem dL_ticksTo_4 : decode cL_ticksTo 4 = .ok (.iload_n 2, 1) ∧ 5 = 4 + 1 := ⟨by decide +kernel, rfl⟩
theorem dL_ticksTo_5 : decode cL_ticksTo 5 = .ok (.invokevirtual 120, 3) ∧ 8 = 5 + 3 := ⟨by decide +kernel, rfl⟩
theorem dL_ticksTo_8 : decode cL_ticksTo 8 = .ok (.i2l, 1) ∧ 9 = 8 + 1 := ⟨by decide +kernel, rfl⟩
theorem dL_ticksTo_9 : decode cL_ticksTo 9 = .ok (.lastore, 1) ∧ 10 = 9 + 1 := ⟨by decide +kernel, rfl⟩
theorem dL_ticksTo_10 : decode cL_ticksTo 10 = .ok (.goto 15, 3) ∧ 13 = 10 + 3 := ⟨by decide +kernel, rfl⟩
theorem dL_ticksTo_13 : decode cL_ticksTo 13 = .ok (.astore 4, 2) ∧ 15 = 13 + 2 := ⟨by decide +kernel, rfl⟩
theorem dL_ticksTo_15 : decode cL_ticksTo 15 = .ok (.iconst 1, 1) ∧ 16 = 15 + 1 := ⟨by decide +kernel, rfl⟩
theorem dL_ticksTo_16 : decode cL_ticksTo 16 = .ok (.ireturn, 1) ∧ 17 = 16 + 1 := ⟨by decide +kernel, rfl⟩
theorem dL_ticksTo_17 : decode cL_ticksTo 17 = .ok (.astore 4, 2) ∧ 19 = 17 + 2 := ⟨by decide +kernel, rfl⟩
theorem dL_ticksTo_19 : decode cL_ticksTo 19 = .ok (.iconst 2, 1) ∧ 20 = 19 + 1 := ⟨by decide +kernel, rfl⟩
theorem dL_ticksTo_20 : decode cL_ticksTo 20 = .ok (.ireturn, 1) ∧ 21 = 20 + 1 := ⟨by decide +kernel, rfl⟩
theorem dL_ticksTo_21 : decode cL_ticksTo 21 = .ok (.astore 4, 2) ∧ 23 = 21 + 2 := ⟨by decide +kernel, rfl⟩
theorem dL_ticksTo_23 : decode cL_ticksTo 23 = .ok (.iconst 3, 1) ∧ 24 = 23 + 1 := ⟨by decide +kernel, rfl⟩
theorem dL_ticksTo_24 : decode cL_ticksTo 24 = .ok (.ireturn, 1) ∧ 25 = 24 + 1 := ⟨by decide +kernel, rfl⟩
theorem dL_ticksTo_25 : decode cL_ticksTo 25 = .ok (.iconst 0, 1) ∧ 26 = 25 + 1 := ⟨by decide +kernel, rfl⟩
theorem dL_ticksTo_26 : decode cL_ticksTo 26 = .ok (.ireturn, 1) ∧ 27 = 26 + 1 := ⟨by decide +kernel, rfl⟩
theorem dL_tripsIn_0 : decode cL_tripsIn 0 = .ok (.aload_n 2, 1) ∧ 1 = 0 + 1 := ⟨by decide +kernel, rfl⟩
theorem dL_tripsIn_1 : decode cL_tripsIn 1 = .ok (.iconst 0, 1) ∧ 2 = 1 + 1 := ⟨by decide +kernel, rfl⟩
theorem dL_tripsIn_2 : decode cL_tripsIn 2 = .ok (.aload_n 0, 1) ∧ 3 = 2 + 1 := ⟨by decide +kernel, rfl⟩
theorem dL_tripsIn_3 : decode cL_tripsIn 3 = .ok (.iload_n 1, 1) ∧ 4 = 3 + 1 := ⟨by decide +kernel, rfl⟩
theorem dL_tripsIn_4 : decode cL_tripsIn 4 = .ok (.invokevirtual 123, 3) ∧ 7 = 4 + 3 := ⟨by decide +kernel, rfl⟩
theorem dL_tripsIn_7 : decode cL_tripsIn 7 = .ok (.i2l, 1) ∧ 8 = 7 + 1 := ⟨by decide +kernel, rfl⟩
theorem dL_tripsIn_8 : decode cL_tripsIn 8 = .ok (.lastore, 1) ∧ 9 = 8 + 1 := ⟨by decide +kernel, rfl⟩
theorem dL_tripsIn_9 : decode cL_tripsIn 9 = .ok (.goto 6, 3) ∧ 12 = 9 + 3 := ⟨by decide +kernel, rfl⟩
theorem dL_tripsIn_12 : decode cL_tripsIn 12 = .ok (.astore_n 3, 1) ∧ 13 = 12 + 1 := ⟨by decide +kernel, rfl⟩
theorem dL_tripsIn_13 : decode cL_tripsIn 13 = .ok (.iconst 1, 1) ∧ 14 = 13 + 1 := ⟨by decide +kernel, rfl⟩
theorem dL_tripsIn_14 : decode cL_tripsIn 14 = .ok (.ireturn, 1) ∧ 15 = 14 + 1 := ⟨by decide +kernel, rfl⟩
theorem dL_tripsIn_15 : decode cL_tripsIn 15 = .ok (.iconst 0, 1) ∧ 16 = 15 + 1 := ⟨by decide +kernel, rfl⟩
theorem dL_tripsIn_16 : decode cL_tripsIn 16 = .ok (.ireturn, 1) ∧ 17 = 16 + 1 := ⟨by decide +kernel, rfl⟩
theorem dL_meanPressure_0 : decode cL_meanPressure 0 = .ok (.aload_n 3, 1) ∧ 1 = 0 + 1 := ⟨by decide +kernel, rfl⟩
theorem dL_meanPressure_1 : decode cL_meanPressure 1 = .ok (.iconst 0, 1) ∧ 2 = 1 + 1 := ⟨by decide +kernel, rfl⟩
theorem dL_meanPressure_2 : decode cL_meanPressure 2 = .ok (.aload_n 0, 1) ∧ 3 = 2 + 1 := ⟨by decide +kernel, rfl⟩
theorem dL_meanPressure_3 : decode cL_meanPressure 3 = .ok (.iload_n 1, 1) ∧ 4 = 3 + 1 := ⟨by decide +kernel, rfl⟩
theorem dL_meanPressure_4 : decode cL_meanPressure 4 = .ok (.iload_n 2, 1) ∧ 5 = 4 + 1 := ⟨by decide +kernel, rfl⟩
theorem dL_meanPressure_5 : decode cL_meanPressure 5 = .ok (.invokevirtual 126, 3) ∧ 8 = 5 + 3 := ⟨by decide +kernel, rfl⟩
theorem dL_meanPressure_8 : decode cL_meanPressure 8 = .ok (.dastore, 1) ∧ 9 = 8 + 1 := ⟨by decide +kernel, rfl⟩
theorem dL_meanPressure_9 : decode cL_meanPressure 9 = .ok (.goto 11, 3) ∧ 12 = 9 + 3 := ⟨by decide +kernel, rfl⟩
theorem dL_meanPressure_12 : decode cL_meanPressure 12 = .ok (.astore 4, 2) ∧ 14 = 12 + 2 := ⟨by decide +kernel, rfl⟩
theorem dL_meanPressure_14 : decode cL_meanPressure 14 = .ok (.iconst 1, 1) ∧ 15 = 14 + 1 := ⟨by decide +kernel, rfl⟩
theorem dL_meanPressure_15 : decode cL_meanPressure 15 = .ok (.ireturn, 1) ∧ 16 = 15 + 1 := ⟨by decide +kernel, rfl⟩
theorem dL_meanPressure_16 : decode cL_meanPressure 16 = .ok (.astore 4, 2) ∧ 18 = 16 + 2 := ⟨by decide +kernel, rfl⟩
theorem dL_meanPressure_18 : decode cL_meanPressure 18 = .ok (.iconst 2, 1) ∧ 19 = 18 + 1 := ⟨by decide +kernel, rfl⟩
theorem dL_meanPressure_19 : decode cL_meanPressure 19 = .ok (.ireturn, 1) ∧ 20 = 19 + 1 := ⟨by decide +kernel, rfl⟩
theorem dL_meanPressure_20 : decode cL_meanPressure 20 = .ok (.iconst 0, 1) ∧ 21 = 20 + 1 := ⟨by decide +kernel, rfl⟩
theorem dL_meanPressure_21 : decode cL_meanPressure 21 = .ok (.ireturn, 1) ∧ 22 = 21 + 1 := ⟨by decide +kernel, rfl⟩
theorem dL_bestPump_0 : decode cL_bestPump 0 = .ok (.aload_n 3, 1) ∧ 1 = 0 + 1 := ⟨by decide +kernel, rfl⟩
theorem dL_bestPump_1 : decode cL_bestPump 1 = .ok (.iconst 0, 1) ∧ 2 = 1 + 1 := ⟨by decide +kernel, rfl⟩
theorem dL_bestPump_2 : decode cL_bestPump 2 = .ok (.aload_n 0, 1) ∧ 3 = 2 + 1 := ⟨by decide +kernel, rfl⟩
theorem dL_bestPump_3 : decode cL_bestPump 3 = .ok (.iload_n 1, 1) ∧ 4 = 3 + 1 := ⟨by decide +kernel, rfl⟩
theorem dL_bestPump_4 : decode cL_bestPump 4 = .ok (.iload_n 2, 1) ∧ 5 = 4 + 1 := ⟨by decide +kernel, rfl⟩
theorem dL_bestPump_5 : decode cL_bestPump 5 = .ok (.invokevirtual 130, 3) ∧ 8 = 5 + 3 := ⟨by decide +kernel, rfl⟩
theorem dL_bestPump_8 : decode cL_bestPump 8 = .ok (.i2l, 1) ∧ 9 = 8 + 1 := ⟨by decide +kernel, rfl⟩
theorem dL_bestPump_9 : decode cL_bestPump 9 = .ok (.lastore, 1) ∧ 10 = 9 + 1 := ⟨by decide +kernel, rfl⟩
theorem dL_bestPump_10 : decode cL_bestPump 10 = .ok (.goto 15, 3) ∧ 13 = 10 + 3 := ⟨by decide +kernel, rfl⟩
theorem dL_bestPump_13 : decode cL_bestPump 13 = .ok (.astore 4, 2) ∧ 15 = 13 + 2 := ⟨by decide +kernel, rfl⟩
theorem dL_bestPump_15 : decode cL_bestPump 15 = .ok (.iconst 1, 1) ∧ 16 = 15 + 1 := ⟨by decide +kernel, rfl⟩
theorem dL_bestPump_16 : decode cL_bestPump 16 = .ok (.ireturn, 1) ∧ 17 = 16 + 1 := ⟨by decide +kernel, rfl⟩
theorem dL_bestPump_17 : decode cL_bestPump 17 = .ok (.astore 4, 2) ∧ 19 = 17 + 2 := ⟨by decide +kernel, rfl⟩
theorem dL_bestPump_19 : decode cL_bestPump 19 = .ok (.iconst 2, 1) ∧ 20 = 19 + 1 := ⟨by decide +kernel, rfl⟩
theorem dL_bestPump_20 : decode cL_bestPump 20 = .ok (.ireturn, 1) ∧ 21 = 20 + 1 := ⟨by decide +kernel, rfl⟩
theorem dL_bestPump_21 : decode cL_bestPump 21 = .ok (.astore 4, 2) ∧ 23 = 21 + 2 := ⟨by decide +kernel, rfl⟩
theorem dL_bestPump_23 : decode cL_bestPump 23 = .ok (.iconst 3, 1) ∧ 24 = 23 + 1 := ⟨by decide +kernel, rfl⟩
theorem dL_bestPump_24 : decode cL_bestPump 24 = .ok (.ireturn, 1) ∧ 25 = 24 + 1 := ⟨by decide +kernel, rfl⟩
theorem dL_bestPump_25 : decode cL_bestPump 25 = .ok (.iconst 0, 1) ∧ 26 = 25 + 1 := ⟨by decide +kernel, rfl⟩
theorem dL_bestPump_26 : decode cL_bestPump 26 = .ok (.ireturn, 1) ∧ 27 = 26 + 1 := ⟨by decide +kernel, rfl⟩
theorem dL_bestValve_0 : decode cL_bestValve 0 = .ok (.aload_n 3, 1) ∧ 1 = 0 + 1 := ⟨by decide +kernel, rfl⟩
theorem dL_bestValve_1 : decode cL_bestValve 1 = .ok (.iconst 0, 1) ∧ 2 = 1 + 1 := ⟨by decide +kernel, rfl⟩
theorem dL_bestValve_2 : decode cL_bestValve 2 = .ok (.aload_n 0, 1) ∧ 3 = 2 + 1 := ⟨by decide +kernel, rfl⟩
theorem dL_bestValve_3 : decode cL_bestValve 3 = .ok (.iload_n 1, 1) ∧ 4 = 3 + 1 := ⟨by decide +kernel, rfl⟩
theorem dL_bestValve_4 : decode cL_bestValve 4 = .ok (.iload_n 2, 1) ∧ 5 = 4 + 1 := ⟨by decide +kernel, rfl⟩
theorem dL_bestValve_5 : decode cL_bestValve 5 = .ok (.invokevirtual 133, 3) ∧ 8 = 5 + 3 := ⟨by decide +kernel, rfl⟩
theorem dL_bestValve_8 : decode cL_bestValve 8 = .ok (.i2l, 1) ∧ 9 = 8 + 1 := ⟨by decide +kernel, rfl⟩
theorem dL_bestValve_9 : decode cL_bestValve 9 = .ok (.lastore, 1) ∧ 10 = 9 + 1 := ⟨by decide +kernel, rfl⟩
theorem dL_bestValve_10 : decode cL_bestValve 10 = .ok (.goto 15, 3) ∧ 13 = 10 + 3 := ⟨by decide +kernel, rfl⟩
theorem dL_bestValve_13 : decode cL_bestValve 13 = .ok (.astore 4, 2) ∧ 15 = 13 + 2 := ⟨by decide +kernel, rfl⟩
theorem dL_bestValve_15 : decode cL_bestValve 15 = .ok (.iconst 1, 1) ∧ 16 = 15 + 1 := ⟨by decide +kernel, rfl⟩
theorem dL_bestValve_16 : decode cL_bestValve 16 = .ok (.ireturn, 1) ∧ 17 = 16 + 1 := ⟨by decide +kernel, rfl⟩
theorem dL_bestValve_17 : decode cL_bestValve 17 = .ok (.astore 4, 2) ∧ 19 = 17 + 2 := ⟨by decide +kernel, rfl⟩
theorem dL_bestValve_19 : decode cL_bestValve 19 = .ok (.iconst 2, 1) ∧ 20 = 19 + 1 := ⟨by decide +kernel, rfl⟩
theorem dL_bestValve_20 : decode cL_bestValve 20 = .ok (.ireturn, 1) ∧ 21 = 20 + 1 := ⟨by decide +kernel, rfl⟩
theorem dL_bestValve_21 : decode cL_bestValve 21 = .ok (.astore 4, 2) ∧ 23 = 21 + 2 := ⟨by decide +kernel, rfl⟩
theorem dL_bestValve_23 : decode cL_bestValve 23 = .ok (.iconst 3, 1) ∧ 24 = 23 + 1 := ⟨by decide +kernel, rfl⟩
theorem dL_bestValve_24 : decode cL_bestValve 24 = .ok (.ireturn, 1) ∧ 25 = 24 + 1 := ⟨by decide +kernel, rfl⟩
theorem dL_bestValve_25 : decode cL_bestValve 25 = .ok (.iconst 0, 1) ∧ 26 = 25 + 1 := ⟨by decide +kernel, rfl⟩
theorem dL_bestValve_26 : decode cL_bestValve 26 = .ok (.ireturn, 1) ∧ 27 = 26 + 1 := ⟨by decide +kernel, rfl⟩
theorem dL_spray_0 : decode cL_spray 0 = .ok (.aload_n 2, 1) ∧ 1 = 0 + 1 := ⟨by decide +kernel, rfl⟩
theorem dL_spray_1 : decode cL_spray 1 = .ok (.iconst 0, 1) ∧ 2 = 1 + 1 := ⟨by decide +kernel, rfl⟩
theorem dL_spray_2 : decode cL_spray 2 = .ok (.aload_n 0, 1) ∧ 3 = 2 + 1 := ⟨by decide +kernel, rfl⟩
theorem dL_spray_3 : decode cL_spray 3 = .ok (.iload_n 1, 1) ∧ 4 = 3 + 1 := ⟨by decide +kernel, rfl⟩
theorem dL_spray_4 : decode cL_spray 4 = .ok (.invokevirtual 136, 3) ∧ 7 = 4 + 3 := ⟨by decide +kernel, rfl⟩
theorem dL_spray_7 : decode cL_spray 7 = .ok (.i2l, 1) ∧ 8 = 7 + 1 := ⟨by decide +kernel, rfl⟩
theorem dL_spray_8 : decode cL_spray 8 = .ok (.lastore, 1) ∧ 9 = 8 + 1 := ⟨by decide +kernel, rfl⟩
theorem dL_spray_9 : decode cL_spray 9 = .ok (.goto 6, 3) ∧ 12 = 9 + 3 := ⟨by decide +kernel, rfl⟩
theorem dL_spray_12 : decode cL_spray 12 = .ok (.astore_n 3, 1) ∧ 13 = 12 + 1 := ⟨by decide +kernel, rfl⟩
theorem dL_spray_13 : decode cL_spray 13 = .ok (.iconst 1, 1) ∧ 14 = 13 + 1 := ⟨by decide +kernel, rfl⟩
theorem dL_spray_14 : decode cL_spray 14 = .ok (.ireturn, 1) ∧ 15 = 14 + 1 := ⟨by decide +kernel, rfl⟩
theorem dL_spray_15 : decode cL_spray 15 = .ok (.iconst 0, 1) ∧ 16 = 15 + 1 := ⟨by decide +kernel, rfl⟩
theorem dL_spray_16 : decode cL_spray 16 = .ok (.ireturn, 1) ∧ 17 = 16 + 1 := ⟨by decide +kernel, rfl⟩
theorem dL_sprays_0 : decode cL_sprays 0 = .ok (.aload_n 3, 1) ∧ 1 = 0 + 1 := ⟨by decide +kernel, rfl⟩
theorem dL_sprays_1 : decode cL_sprays 1 = .ok (.iconst 0, 1) ∧ 2 = 1 + 1 := ⟨by decide +kernel, rfl⟩
theorem dL_sprays_2 : decode cL_sprays 2 = .ok (.aload_n 0, 1) ∧ 3 = 2 + 1 := ⟨by decide +kernel, rfl⟩
theorem dL_sprays_3 : decode cL_sprays 3 = .ok (.iload_n 1, 1) ∧ 4 = 3 + 1 := ⟨by decide +kernel, rfl⟩
theorem dL_sprays_4 : decode cL_sprays 4 = .ok (.iload_n 2, 1) ∧ 5 = 4 + 1 := ⟨by decide +kernel, rfl⟩
theorem dL_sprays_5 : decode cL_sprays 5 = .ok (.invokevirtual 139, 3) ∧ 8 = 5 + 3 := ⟨by decide +kernel, rfl⟩
theorem dL_sprays_8 : decode cL_sprays 8 = .ok (.i2l, 1) ∧ 9 = 8 + 1 := ⟨by decide +kernel, rfl⟩
theorem dL_sprays_9 : decode cL_sprays 9 = .ok (.lastore, 1) ∧ 10 = 9 + 1 := ⟨by decide +kernel, rfl⟩
theorem dL_sprays_10 : decode cL_sprays 10 = .ok (.goto 11, 3) ∧ 13 = 10 + 3 := ⟨by decide +kernel, rfl⟩
theorem dL_sprays_13 : decode cL_sprays 13 = .ok (.astore 4, 2) ∧ 15 = 13 + 2 := ⟨by decide +kernel, rfl⟩
theorem dL_sprays_15 : decode cL_sprays 15 = .ok (.iconst 1, 1) ∧ 16 = 15 + 1 := ⟨by decide +kernel, rfl⟩
theorem dL_sprays_16 : decode cL_sprays 16 = .ok (.ireturn, 1) ∧ 17 = 16 + 1 := ⟨by decide +kernel, rfl⟩
theorem dL_sprays_17 : decode cL_sprays 17 = .ok (.astore 4, 2) ∧ 19 = 17 + 2 := ⟨by decide +kernel, rfl⟩
theorem dL_sprays_19 : decode cL_sprays 19 = .ok (.iconst 2, 1) ∧ 20 = 19 + 1 := ⟨by decide +kernel, rfl⟩
theorem dL_sprays_20 : decode cL_sprays 20 = .ok (.ireturn, 1) ∧ 21 = 20 + 1 := ⟨by decide +kernel, rfl⟩
theorem dL_sprays_21 : decode cL_sprays 21 = .ok (.iconst 0, 1) ∧ 22 = 21 + 1 := ⟨by decide +kernel, rfl⟩
theorem dL_sprays_22 : decode cL_sprays 22 = .ok (.ireturn, 1) ∧ 23 = 22 + 1 := ⟨by decide +kernel, rfl⟩
theorem dL_found_0 : decode cL_found 0 = .ok (.aload_n 3, 1) ∧ 1 = 0 + 1 := ⟨by decide +kernel, rfl⟩
theorem dL_found_1 : decode cL_found 1 = .ok (.iconst 0, 1) ∧ 2 = 1 + 1 := ⟨by decide +kernel, rfl⟩
theorem dL_found_2 : decode cL_found 2 = .ok (.aload_n 0, 1) ∧ 3 = 2 + 1 := ⟨by decide +kernel, rfl⟩
theorem dL_found_3 : decode cL_found 3 = .ok (.iload_n 1, 1) ∧ 4 = 3 + 1 := ⟨by decide +kernel, rfl⟩
theorem dL_found_4 : decode cL_found 4 = .ok (.iload_n 2, 1) ∧ 5 = 4 + 1 := ⟨by decide +kernel, rfl⟩
theorem dL_found_5 : decode cL_found 5 = .ok (.invokevirtual 142, 3) ∧ 8 = 5 + 3 := ⟨by decide +kernel, rfl⟩
theorem dL_found_8 : decode cL_found 8 = .ok (.i2l, 1) ∧ 9 = 8 + 1 := ⟨by decide +kernel, rfl⟩
theorem dL_found_9 : decode cL_found 9 = .ok (.lastore, 1) ∧ 10 = 9 + 1 := ⟨by decide +kernel, rfl⟩
theorem dL_found_10 : decode cL_found 10 = .ok (.goto 11, 3) ∧ 13 = 10 + 3 := ⟨by decide +kernel, rfl⟩
theorem dL_found_13 : decode cL_found 13 = .ok (.astore 4, 2) ∧ 15 = 13 + 2 := ⟨by decide +kernel, rfl⟩
theorem dL_found_15 : decode cL_found 15 = .ok (.iconst 1, 1) ∧ 16 = 15 + 1 := ⟨by decide +kernel, rfl⟩
theorem dL_found_16 : decode cL_found 16 = .ok (.ireturn, 1) ∧ 17 = 16 + 1 := ⟨by decide +kernel, rfl⟩
theorem dL_found_17 : decode cL_found 17 = .ok (.astore 4, 2) ∧ 19 = 17 + 2 := ⟨by decide +kernel, rfl⟩
theorem dL_found_19 : decode cL_found 19 = .ok (.iconst 2, 1) ∧ 20 = 19 + 1 := ⟨by decide +kernel, rfl⟩
theorem dL_found_20 : decode cL_found 20 = .ok (.ireturn, 1) ∧ 21 = 20 + 1 := ⟨by decide +kernel, rfl⟩
theorem dL_found_21 : decode cL_found 21 = .ok (.iconst 0, 1) ∧ 22 = 21 + 1 := ⟨by decide +kernel, rfl⟩
theorem dL_found_22 : decode cL_found 22 = .ok (.ireturn, 1) ∧ 23 = 22 + 1 := ⟨by decide +kernel, rfl⟩
theorem dL_worstFlange_0 : decode cL_worstFlange 0 = .ok (.aload_n 1, 1) ∧ 1 = 0 + 1 := ⟨by decide +kernel, rfl⟩
theorem dL_worstFlange_1 : decode cL_worstFlange 1 = .ok (.iconst 0, 1) ∧ 2 = 1 + 1 := ⟨by decide +kernel, rfl⟩
theorem dL_worstFlange_2 : decode cL_worstFlange 2 = .ok (.aload_n 0, 1) ∧ 3 = 2 + 1 := ⟨by decide +kernel, rfl⟩
theorem dL_worstFlange_3 : decode cL_worstFlange 3 = .ok (.invokevirtual 145, 3) ∧ 6 = 3 + 3 := ⟨by decide +kernel, rfl⟩
theorem dL_worstFlange_6 : decode cL_worstFlange 6 = .ok (.i2l, 1) ∧ 7 = 6 + 1 := ⟨by decide +kernel, rfl⟩
theorem dL_worstFlange_7 : decode cL_worstFlange 7 = .ok (.lastore, 1) ∧ 8 = 7 + 1 := ⟨by decide +kernel, rfl⟩
theorem dL_worstFlange_8 : decode cL_worstFlange 8 = .ok (.goto 6, 3) ∧ 11 = 8 + 3 := ⟨by decide +kernel, rfl⟩
theorem dL_worstFlange_11 : decode cL_worstFlange 11 = .ok (.astore_n 2, 1) ∧ 12 = 11 + 1 := ⟨by decide +kernel, rfl⟩
theorem dL_worstFlange_12 : decode cL_worstFlange 12 = .ok (.iconst 1, 1) ∧ 13 = 12 + 1 := ⟨by decide +kernel, rfl⟩
theorem dL_worstFlange_13 : decode cL_worstFlange 13 = .ok (.ireturn, 1) ∧ 14 = 13 + 1 := ⟨by decide +kernel, rfl⟩
theorem dL_worstFlange_14 : decode cL_worstFlange 14 = .ok (.iconst 0, 1) ∧ 15 = 14 + 1 := ⟨by decide +kernel, rfl⟩
theorem dL_worstFlange_15 : decode cL_worstFlange 15 = .ok (.ireturn, 1) ∧ 16 = 15 + 1 := ⟨by decide +kernel, rfl⟩
theorem dL_reportByte_0 : decode cL_reportByte 0 = .ok (.aload_n 2, 1) ∧ 1 = 0 + 1 := ⟨by decide +kernel, rfl⟩
theorem dL_reportByte_1 : decode cL_reportByte 1 = .ok (.iconst 0, 1) ∧ 2 = 1 + 1 := ⟨by decide +kernel, rfl⟩
theorem dL_reportByte_2 : decode cL_reportByte 2 = .ok (.aload_n 0, 1) ∧ 3 = 2 + 1 := ⟨by decide +kernel, rfl⟩
theorem dL_reportByte_3 : decode cL_reportByte 3 = .ok (.iload_n 1, 1) ∧ 4 = 3 + 1 := ⟨by decide +kernel, rfl⟩
theorem dL_reportByte_4 : decode cL_reportByte 4 = .ok (.invokevirtual 148, 3) ∧ 7 = 4 + 3 := ⟨by decide +kernel, rfl⟩
theorem dL_reportByte_7 : decode cL_reportByte 7 = .ok (.i2l, 1) ∧ 8 = 7 + 1 := ⟨by decide +kernel, rfl⟩
theorem dL_reportByte_8 : decode cL_reportByte 8 = .ok (.lastore, 1) ∧ 9 = 8 + 1 := ⟨by decide +kernel, rfl⟩
theorem dL_reportByte_9 : decode cL_reportByte 9 = .ok (.goto 6, 3) ∧ 12 = 9 + 3 := ⟨by decide +kernel, rfl⟩
theorem dL_reportByte_12 : decode cL_reportByte 12 = .ok (.astore_n 3, 1) ∧ 13 = 12 + 1 := ⟨by decide +kernel, rfl⟩
theorem dL_reportByte_13 : decode cL_reportByte 13 = .ok (.iconst 1, 1) ∧ 14 = 13 + 1 := ⟨by decide +kernel, rfl⟩
theorem dL_reportByte_14 : decode cL_reportByte 14 = .ok (.ireturn, 1) ∧ 15 = 14 + 1 := ⟨by decide +kernel, rfl⟩
theorem dL_reportByte_15 : decode cL_reportByte 15 = .ok (.iconst 0, 1) ∧ 16 = 15 + 1 := ⟨by decide +kernel, rfl⟩
theorem dL_reportByte_16 : decode cL_reportByte 16 = .ok (.ireturn, 1) ∧ 17 = 16 + 1 := ⟨by decide +kernel, rfl⟩
theorem dL_undo_0 : decode cL_undo 0 = .ok (.aload_n 1, 1) ∧ 1 = 0 + 1 := ⟨by decide +kernel, rfl⟩
theorem dL_undo_1 : decode cL_undo 1 = .ok (.iconst 0, 1) ∧ 2 = 1 + 1 := ⟨by decide +kernel, rfl⟩
theorem dL_undo_2 : decode cL_undo 2 = .ok (.aload_n 0, 1) ∧ 3 = 2 + 1 := ⟨by decide +kernel, rfl⟩
theorem dL_undo_3 : decode cL_undo 3 = .ok (.invokevirtual 151, 3) ∧ 6 = 3 + 3 := ⟨by decide +kernel, rfl⟩
theorem dL_undo_6 : decode cL_undo 6 = .ok (.i2l, 1) ∧ 7 = 6 + 1 := ⟨by decide +kernel, rfl⟩
theorem dL_undo_7 : decode cL_undo 7 = .ok (.lastore, 1) ∧ 8 = 7 + 1 := ⟨by decide +kernel, rfl⟩
theorem dL_undo_8 : decode cL_undo 8 = .ok (.goto 6, 3) ∧ 11 = 8 + 3 := ⟨by decide +kernel, rfl⟩
theorem dL_undo_11 : decode cL_undo 11 = .ok (.astore_n 2, 1) ∧ 12 = 11 + 1 := ⟨by decide +kernel, rfl⟩
theorem dL_undo_12 : decode cL_undo 12 = .ok (.iconst 1, 1) ∧ 13 = 12 + 1 := ⟨by decide +kernel, rfl⟩
theorem dL_undo_13 : decode cL_undo 13 = .ok (.ireturn, 1) ∧ 14 = 13 + 1 := ⟨by decide +kernel, rfl⟩
theorem dL_undo_14 : decode cL_undo 14 = .ok (.iconst 0, 1) ∧ 15 = 14 + 1 := ⟨by decide +kernel, rfl⟩
theorem dL_undo_15 : decode cL_undo 15 = .ok (.ireturn, 1) ∧ 16 = 15 + 1 := ⟨by decide +kernel, rfl⟩
