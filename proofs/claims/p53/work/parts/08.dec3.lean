/-! decode, by the bytes -/
set_option maxRecDepth 100000
def rd (c : ByteArray) (p b : Nat) : Prop := ∃ h : p < c.size, (c[p]'h).toNat = b
theorem u1_rd {c : ByteArray} {p b : Nat} (h : rd c p b) : (ClassFile.Reader.u1 : ClassFile.Reader DecodeError Nat) c p = .ok (b, p + 1) := by
  obtain ⟨h1, rfl⟩ := h
  unfold ClassFile.Reader.u1
  change (dite (p < c.size) (fun h => _) (fun h => _) : ClassFile.Reader DecodeError Nat) c p = _
  rw [dif_pos h1]
  rfl
theorem u2_rd {c : ByteArray} {p b b2 : Nat} (h : rd c p b) (h2 : rd c (p + 1) b2) : (ClassFile.Reader.u2 : ClassFile.Reader DecodeError Nat) c p = .ok (b * 256 + b2, p + 2) := by
  unfold ClassFile.Reader.u2
  change Except.bind (ClassFile.Reader.u1 c p) (fun q => Except.bind (ClassFile.Reader.u1 c q.2) _) = _
  rw [u1_rd h]
  change Except.bind (ClassFile.Reader.u1 c (p + 1)) _ = _
  rw [u1_rd h2]
  rfl
theorem s1_rd {c : ByteArray} {p b : Nat} (h : rd c p b) : (ClassFile.Reader.s1 : ClassFile.Reader DecodeError Int) c p = .ok (ClassFile.Reader.signed 8 b, p + 1) := by
  unfold ClassFile.Reader.s1
  change Except.bind (ClassFile.Reader.u1 c p) _ = _
  rw [u1_rd h]
  rfl
theorem s2_rd {c : ByteArray} {p b b2 : Nat} (h : rd c p b) (h2 : rd c (p + 1) b2) : (ClassFile.Reader.s2 : ClassFile.Reader DecodeError Int) c p = .ok (ClassFile.Reader.signed 16 (b * 256 + b2), p + 2) := by
  unfold ClassFile.Reader.s2
  change Except.bind (ClassFile.Reader.u2 c p) _ = _
  rw [u2_rd h h2]
  rfl
theorem dec_i {c : ByteArray} {pc p1 : Nat} {i : Instr} (h : ClassFile.Decoder.instr pc c pc = .ok (i, p1)) : decode c pc = .ok (i, p1 - pc) := by
  unfold decode
  change Except.bind (ClassFile.Decoder.instr pc c pc) _ = _
  rw [h]
  rfl
def lb0 : List UInt8 := [187, 0, 18, 89, 183, 0, 102, 76, 43, 18, 103, 184, 0, 105, 43, 182, 0, 111, 6, 160, 0, 64, 43, 3, 6, 182, 0, 27, 18, 114, 160, 0, 53, 43, 3, 7, 182, 0, 27, 16, 62, 160, 0, 42, 43, 4, 8, 182, 0, 27]
def lb1 : List UInt8 := [16, 11, 160, 0, 31, 43, 3, 182, 0, 84, 154, 0, 23, 43, 3, 5, 182, 0, 58, 5, 160, 0, 13, 43, 5, 2, 182, 0, 58, 5, 159, 0, 5, 3, 172, 3, 61, 3, 62, 29, 16, 14, 162, 4, 50, 42, 29, 184, 0, 115]
def lb2 : List UInt8 := [54, 4, 21, 4, 7, 124, 6, 126, 6, 112, 54, 5, 21, 4, 16, 6, 124, 6, 126, 54, 6, 21, 4, 16, 8, 124, 4, 126, 54, 7, 21, 4, 16, 9, 124, 16, 7, 126, 8, 112, 54, 8, 21, 4, 16, 12, 124, 16, 63, 126]
def lb3 : List UInt8 := [54, 9, 43, 182, 0, 119, 54, 10, 43, 7, 182, 0, 78, 54, 11, 43, 8, 182, 0, 78, 54, 12, 43, 16, 6, 182, 0, 78, 54, 13, 43, 21, 8, 4, 182, 0, 81, 54, 14, 43, 21, 6, 6, 182, 0, 87, 54, 15, 43, 21]
def lb4 : List UInt8 := [5, 182, 0, 34, 55, 17, 4, 54, 19, 21, 4, 16, 15, 126, 170, 0, 0, 0, 2, 110, 0, 0, 0, 0, 0, 0, 0, 13, 0, 0, 0, 70, 0, 0, 0, 70, 0, 0, 0, 70, 0, 0, 0, 138, 0, 0, 0, 202, 0, 0]
def lb5 : List UInt8 := [0, 202, 0, 0, 1, 15, 0, 0, 1, 66, 0, 0, 1, 66, 0, 0, 1, 66, 0, 0, 1, 157, 0, 0, 1, 184, 0, 0, 1, 215, 0, 0, 1, 254, 43, 21, 6, 182, 0, 84, 154, 0, 7, 4, 167, 0, 4, 3, 54, 19]
def lb6 : List UInt8 := [43, 21, 6, 16, 6, 182, 0, 87, 54, 20, 21, 19, 153, 0, 12, 43, 21, 6, 182, 0, 122, 167, 0, 4, 3, 54, 16, 21, 19, 153, 2, 176, 21, 16, 21, 20, 160, 0, 14, 43, 21, 6, 7, 182, 0, 87, 4, 159, 2, 158]
def lb7 : List UInt8 := [3, 172, 43, 21, 6, 182, 0, 84, 4, 160, 0, 7, 4, 167, 0, 4, 3, 54, 19, 21, 19, 153, 0, 12, 43, 21, 6, 182, 0, 125, 167, 0, 4, 3, 54, 16, 21, 19, 153, 2, 117, 21, 16, 43, 21, 6, 16, 6, 182, 0]
def lb8 : List UInt8 := [87, 160, 0, 13, 43, 21, 6, 7, 182, 0, 87, 153, 2, 94, 3, 172, 43, 21, 7, 182, 0, 93, 154, 0, 7, 4, 167, 0, 4, 3, 54, 19, 21, 19, 153, 0, 12, 43, 21, 7, 182, 0, 128, 167, 0, 4, 3, 54, 16, 21]
def lb9 : List UInt8 := [19, 153, 2, 54, 21, 16, 43, 43, 21, 7, 3, 182, 0, 96, 6, 182, 0, 27, 160, 0, 15, 43, 21, 7, 16, 6, 182, 0, 96, 4, 159, 2, 25, 3, 172, 43, 21, 7, 182, 0, 93, 4, 160, 0, 7, 4, 167, 0, 4, 3]
def lb10 : List UInt8 := [54, 19, 21, 19, 153, 0, 12, 43, 21, 7, 182, 0, 131, 167, 0, 4, 3, 54, 16, 21, 19, 153, 1, 240, 43, 21, 7, 182, 0, 93, 4, 160, 1, 230, 3, 172, 43, 21, 5, 4, 21, 9, 96, 182, 0, 45, 54, 20, 43, 4]
def lb11 : List UInt8 := [21, 9, 96, 182, 0, 99, 54, 21, 43, 4, 21, 9, 96, 182, 0, 134, 54, 16, 21, 16, 21, 21, 160, 0, 53, 43, 21, 5, 6, 182, 0, 27, 21, 20, 160, 0, 41, 43, 7, 182, 0, 78, 21, 11, 4, 96, 21, 9, 96, 160]
def lb12 : List UInt8 := [0, 26, 43, 8, 182, 0, 78, 43, 16, 6, 182, 0, 78, 96, 21, 12, 21, 13, 96, 21, 21, 96, 159, 1, 139, 3, 172, 43, 21, 8, 182, 0, 137, 54, 16, 21, 16, 21, 14, 160, 0, 13, 43, 21, 8, 4, 182, 0, 81, 153]
def lb13 : List UInt8 := [1, 112, 3, 172, 43, 21, 8, 21, 9, 182, 0, 140, 54, 16, 21, 16, 21, 14, 160, 0, 15, 43, 21, 8, 4, 182, 0, 81, 21, 9, 159, 1, 81, 3, 172, 43, 21, 6, 17, 39, 16, 21, 9, 104, 182, 0, 143, 54, 16, 21]
def lb14 : List UInt8 := [16, 21, 15, 160, 0, 19, 43, 21, 6, 6, 182, 0, 87, 17, 39, 16, 21, 9, 104, 159, 1, 42, 3, 172, 43, 21, 5, 4, 21, 9, 96, 182, 0, 42, 54, 20, 21, 20, 18, 114, 163, 0, 7, 4, 167, 0, 4, 3, 54, 19]
def lb15 : List UInt8 := [21, 19, 153, 0, 14, 43, 21, 5, 21, 20, 182, 0, 146, 167, 0, 4, 3, 54, 21, 21, 19, 153, 0, 14, 43, 21, 5, 21, 20, 182, 0, 149, 167, 0, 4, 3, 54, 16, 21, 19, 153, 0, 227, 21, 16, 21, 21, 160, 0, 37]
def lb16 : List UInt8 := [21, 16, 4, 21, 9, 96, 163, 0, 28, 43, 21, 5, 6, 182, 0, 27, 21, 20, 163, 0, 16, 43, 7, 182, 0, 78, 21, 11, 21, 16, 96, 159, 0, 186, 3, 172, 43, 21, 5, 182, 0, 38, 54, 19, 43, 16, 7, 182, 0, 78]
def lb17 : List UInt8 := [54, 20, 21, 19, 153, 0, 18, 43, 21, 5, 5, 5, 21, 9, 104, 96, 182, 0, 152, 167, 0, 4, 3, 54, 16, 21, 19, 153, 0, 140, 21, 16, 43, 3, 4, 182, 0, 155, 160, 0, 127, 43, 3, 3, 182, 0, 155, 21, 5, 160]
def lb18 : List UInt8 := [0, 116, 43, 3, 5, 182, 0, 155, 43, 7, 182, 0, 78, 160, 0, 102, 43, 3, 6, 182, 0, 155, 5, 5, 21, 9, 104, 96, 160, 0, 87, 43, 21, 5, 182, 0, 34, 22, 17, 101, 43, 3, 3, 182, 0, 158, 43, 3, 4, 182]
def lb19 : List UInt8 := [0, 158, 97, 148, 154, 0, 61, 43, 16, 7, 182, 0, 78, 16, 10, 21, 20, 4, 96, 184, 0, 162, 160, 0, 43, 21, 16, 154, 0, 7, 4, 167, 0, 4, 3, 43, 3, 3, 182, 0, 158, 9, 148, 154, 0, 18, 43, 3, 4, 182]
def lb20 : List UInt8 := [0, 158, 9, 148, 154, 0, 7, 4, 167, 0, 4, 3, 159, 0, 5, 3, 172, 21, 19, 153, 0, 12, 16, 10, 28, 4, 96, 184, 0, 162, 61, 21, 16, 155, 0, 20, 43, 182, 0, 167, 28, 160, 0, 12, 43, 21, 4, 184, 0, 170]
def lb21 : List UInt8 := [154, 0, 5, 3, 172, 21, 19, 153, 0, 103, 21, 4, 16, 29, 124, 6, 126, 4, 160, 0, 92, 132, 2, 255, 43, 182, 0, 174, 28, 160, 0, 79, 43, 7, 182, 0, 78, 21, 11, 160, 0, 69, 43, 8, 182, 0, 78, 21, 12, 160]
def lb22 : List UInt8 := [0, 59, 43, 16, 6, 182, 0, 78, 21, 13, 160, 0, 48, 43, 21, 8, 4, 182, 0, 81, 21, 14, 160, 0, 36, 43, 21, 6, 6, 182, 0, 87, 21, 15, 160, 0, 24, 43, 21, 5, 182, 0, 34, 22, 17, 148, 154, 0, 12, 43]
def lb23 : List UInt8 := [182, 0, 119, 21, 10, 159, 0, 5, 3, 172, 132, 3, 1, 167, 251, 206, 4, 172]
def lt24 : List UInt8 := []
def lt23 : List UInt8 := lb23 ++ lt24
def lt22 : List UInt8 := lb22 ++ lt23
def lt21 : List UInt8 := lb21 ++ lt22
def lt20 : List UInt8 := lb20 ++ lt21
def lt19 : List UInt8 := lb19 ++ lt20
def lt18 : List UInt8 := lb18 ++ lt19
def lt17 : List UInt8 := lb17 ++ lt18
def lt16 : List UInt8 := lb16 ++ lt17
def lt15 : List UInt8 := lb15 ++ lt16
def lt14 : List UInt8 := lb14 ++ lt15
def lt13 : List UInt8 := lb13 ++ lt14
def lt12 : List UInt8 := lb12 ++ lt13
def lt11 : List UInt8 := lb11 ++ lt12
def lt10 : List UInt8 := lb10 ++ lt11
def lt9 : List UInt8 := lb9 ++ lt10
def lt8 : List UInt8 := lb8 ++ lt9
def lt7 : List UInt8 := lb7 ++ lt8
def lt6 : List UInt8 := lb6 ++ lt7
def lt5 : List UInt8 := lb5 ++ lt6
def lt4 : List UInt8 := lb4 ++ lt5
def lt3 : List UInt8 := lb3 ++ lt4
def lt2 : List UInt8 := lb2 ++ lt3
def lt1 : List UInt8 := lb1 ++ lt2
def lt0 : List UInt8 := lb0 ++ lt1
set_option maxRecDepth 100000 in
theorem law_bytes : cL_law.data.toList = lt0 := by rfl
theorem rd_of {p : Nat} {v : UInt8} (h : lt0[p]? = some v) : rd cL_law p v.toNat := by
  rw [← law_bytes, Array.getElem?_toList] at h
  obtain ⟨h1, h2⟩ := Array.getElem?_eq_some_iff.mp h
  exact ⟨h1, by rw [← h2]; rfl⟩
theorem lt_get0 (i : Nat) : lt0[0 + i]? = lt0[i]? := by rw [Nat.zero_add]
theorem lt_get1 (i : Nat) : lt0[50 + i]? = lt1[i]? := by
  have h := lt_get0 (50 + i)
  rw [← Nat.add_assoc] at h
  rw [h]
  unfold lt0
  have h2 := List.getElem?_append_right (l₁ := lb0) (l₂ := lt1) (i := 50 + i) (Nat.le_add_right 50 i)
  rw [h2]
  show lt1[50 + i - 50]? = _
  rw [Nat.add_sub_cancel_left]
theorem rb0 (i : Nat) {v : UInt8} (h : lb0[i]? = some v) : rd cL_law (0 + i) v.toNat := by
  refine rd_of ((lt_get0 i).trans ?_)
  unfold lt0
  rw [List.getElem?_append_left (List.getElem?_eq_some_iff.mp h).1]
  exact h
theorem lt_get2 (i : Nat) : lt0[100 + i]? = lt2[i]? := by
  have h := lt_get1 (50 + i)
  rw [← Nat.add_assoc] at h
  rw [h]
  unfold lt1
  have h2 := List.getElem?_append_right (l₁ := lb1) (l₂ := lt2) (i := 50 + i) (Nat.le_add_right 50 i)
  rw [h2]
  show lt2[50 + i - 50]? = _
  rw [Nat.add_sub_cancel_left]
theorem rb1 (i : Nat) {v : UInt8} (h : lb1[i]? = some v) : rd cL_law (50 + i) v.toNat := by
  refine rd_of ((lt_get1 i).trans ?_)
  unfold lt1
  rw [List.getElem?_append_left (List.getElem?_eq_some_iff.mp h).1]
  exact h
theorem lt_get3 (i : Nat) : lt0[150 + i]? = lt3[i]? := by
  have h := lt_get2 (50 + i)
  rw [← Nat.add_assoc] at h
  rw [h]
  unfold lt2
  have h2 := List.getElem?_append_right (l₁ := lb2) (l₂ := lt3) (i := 50 + i) (Nat.le_add_right 50 i)
  rw [h2]
  show lt3[50 + i - 50]? = _
  rw [Nat.add_sub_cancel_left]
theorem rb2 (i : Nat) {v : UInt8} (h : lb2[i]? = some v) : rd cL_law (100 + i) v.toNat := by
  refine rd_of ((lt_get2 i).trans ?_)
  unfold lt2
  rw [List.getElem?_append_left (List.getElem?_eq_some_iff.mp h).1]
  exact h
theorem lt_get4 (i : Nat) : lt0[200 + i]? = lt4[i]? := by
  have h := lt_get3 (50 + i)
  rw [← Nat.add_assoc] at h
  rw [h]
  unfold lt3
  have h2 := List.getElem?_append_right (l₁ := lb3) (l₂ := lt4) (i := 50 + i) (Nat.le_add_right 50 i)
  rw [h2]
  show lt4[50 + i - 50]? = _
  rw [Nat.add_sub_cancel_left]
theorem rb3 (i : Nat) {v : UInt8} (h : lb3[i]? = some v) : rd cL_law (150 + i) v.toNat := by
  refine rd_of ((lt_get3 i).trans ?_)
  unfold lt3
  rw [List.getElem?_append_left (List.getElem?_eq_some_iff.mp h).1]
  exact h
theorem lt_get5 (i : Nat) : lt0[250 + i]? = lt5[i]? := by
  have h := lt_get4 (50 + i)
  rw [← Nat.add_assoc] at h
  rw [h]
  unfold lt4
  have h2 := List.getElem?_append_right (l₁ := lb4) (l₂ := lt5) (i := 50 + i) (Nat.le_add_right 50 i)
  rw [h2]
  show lt5[50 + i - 50]? = _
  rw [Nat.add_sub_cancel_left]
theorem rb4 (i : Nat) {v : UInt8} (h : lb4[i]? = some v) : rd cL_law (200 + i) v.toNat := by
  refine rd_of ((lt_get4 i).trans ?_)
  unfold lt4
  rw [List.getElem?_append_left (List.getElem?_eq_some_iff.mp h).1]
  exact h
theorem lt_get6 (i : Nat) : lt0[300 + i]? = lt6[i]? := by
  have h := lt_get5 (50 + i)
  rw [← Nat.add_assoc] at h
  rw [h]
  unfold lt5
  have h2 := List.getElem?_append_right (l₁ := lb5) (l₂ := lt6) (i := 50 + i) (Nat.le_add_right 50 i)
  rw [h2]
  show lt6[50 + i - 50]? = _
  rw [Nat.add_sub_cancel_left]
theorem rb5 (i : Nat) {v : UInt8} (h : lb5[i]? = some v) : rd cL_law (250 + i) v.toNat := by
  refine rd_of ((lt_get5 i).trans ?_)
  unfold lt5
  rw [List.getElem?_append_left (List.getElem?_eq_some_iff.mp h).1]
  exact h
theorem lt_get7 (i : Nat) : lt0[350 + i]? = lt7[i]? := by
  have h := lt_get6 (50 + i)
  rw [← Nat.add_assoc] at h
  rw [h]
  unfold lt6
  have h2 := List.getElem?_append_right (l₁ := lb6) (l₂ := lt7) (i := 50 + i) (Nat.le_add_right 50 i)
  rw [h2]
  show lt7[50 + i - 50]? = _
  rw [Nat.add_sub_cancel_left]
theorem rb6 (i : Nat) {v : UInt8} (h : lb6[i]? = some v) : rd cL_law (300 + i) v.toNat := by
  refine rd_of ((lt_get6 i).trans ?_)
  unfold lt6
  rw [List.getElem?_append_left (List.getElem?_eq_some_iff.mp h).1]
  exact h
theorem lt_get8 (i : Nat) : lt0[400 + i]? = lt8[i]? := by
  have h := lt_get7 (50 + i)
  rw [← Nat.add_assoc] at h
  rw [h]
  unfold lt7
  have h2 := List.getElem?_append_right (l₁ := lb7) (l₂ := lt8) (i := 50 + i) (Nat.le_add_right 50 i)
  rw [h2]
  show lt8[50 + i - 50]? = _
  rw [Nat.add_sub_cancel_left]
theorem rb7 (i : Nat) {v : UInt8} (h : lb7[i]? = some v) : rd cL_law (350 + i) v.toNat := by
  refine rd_of ((lt_get7 i).trans ?_)
  unfold lt7
  rw [List.getElem?_append_left (List.getElem?_eq_some_iff.mp h).1]
  exact h
theorem lt_get9 (i : Nat) : lt0[450 + i]? = lt9[i]? := by
  have h := lt_get8 (50 + i)
  rw [← Nat.add_assoc] at h
  rw [h]
  unfold lt8
  have h2 := List.getElem?_append_right (l₁ := lb8) (l₂ := lt9) (i := 50 + i) (Nat.le_add_right 50 i)
  rw [h2]
  show lt9[50 + i - 50]? = _
  rw [Nat.add_sub_cancel_left]
theorem rb8 (i : Nat) {v : UInt8} (h : lb8[i]? = some v) : rd cL_law (400 + i) v.toNat := by
  refine rd_of ((lt_get8 i).trans ?_)
  unfold lt8
  rw [List.getElem?_append_left (List.getElem?_eq_some_iff.mp h).1]
  exact h
theorem lt_get10 (i : Nat) : lt0[500 + i]? = lt10[i]? := by
  have h := lt_get9 (50 + i)
  rw [← Nat.add_assoc] at h
  rw [h]
  unfold lt9
  have h2 := List.getElem?_append_right (l₁ := lb9) (l₂ := lt10) (i := 50 + i) (Nat.le_add_right 50 i)
  rw [h2]
  show lt10[50 + i - 50]? = _
  rw [Nat.add_sub_cancel_left]
theorem rb9 (i : Nat) {v : UInt8} (h : lb9[i]? = some v) : rd cL_law (450 + i) v.toNat := by
  refine rd_of ((lt_get9 i).trans ?_)
  unfold lt9
  rw [List.getElem?_append_left (List.getElem?_eq_some_iff.mp h).1]
  exact h
theorem lt_get11 (i : Nat) : lt0[550 + i]? = lt11[i]? := by
  have h := lt_get10 (50 + i)
  rw [← Nat.add_assoc] at h
  rw [h]
  unfold lt10
  have h2 := List.getElem?_append_right (l₁ := lb10) (l₂ := lt11) (i := 50 + i) (Nat.le_add_right 50 i)
  rw [h2]
  show lt11[50 + i - 50]? = _
  rw [Nat.add_sub_cancel_left]
theorem rb10 (i : Nat) {v : UInt8} (h : lb10[i]? = some v) : rd cL_law (500 + i) v.toNat := by
  refine rd_of ((lt_get10 i).trans ?_)
  unfold lt10
  rw [List.getElem?_append_left (List.getElem?_eq_some_iff.mp h).1]
  exact h
theorem lt_get12 (i : Nat) : lt0[600 + i]? = lt12[i]? := by
  have h := lt_get11 (50 + i)
  rw [← Nat.add_assoc] at h
  rw [h]
  unfold lt11
  have h2 := List.getElem?_append_right (l₁ := lb11) (l₂ := lt12) (i := 50 + i) (Nat.le_add_right 50 i)
  rw [h2]
  show lt12[50 + i - 50]? = _
  rw [Nat.add_sub_cancel_left]
theorem rb11 (i : Nat) {v : UInt8} (h : lb11[i]? = some v) : rd cL_law (550 + i) v.toNat := by
  refine rd_of ((lt_get11 i).trans ?_)
  unfold lt11
  rw [List.getElem?_append_left (List.getElem?_eq_some_iff.mp h).1]
  exact h
theorem lt_get13 (i : Nat) : lt0[650 + i]? = lt13[i]? := by
  have h := lt_get12 (50 + i)
  rw [← Nat.add_assoc] at h
  rw [h]
  unfold lt12
  have h2 := List.getElem?_append_right (l₁ := lb12) (l₂ := lt13) (i := 50 + i) (Nat.le_add_right 50 i)
  rw [h2]
  show lt13[50 + i - 50]? = _
  rw [Nat.add_sub_cancel_left]
theorem rb12 (i : Nat) {v : UInt8} (h : lb12[i]? = some v) : rd cL_law (600 + i) v.toNat := by
  refine rd_of ((lt_get12 i).trans ?_)
  unfold lt12
  rw [List.getElem?_append_left (List.getElem?_eq_some_iff.mp h).1]
  exact h
theorem lt_get14 (i : Nat) : lt0[700 + i]? = lt14[i]? := by
  have h := lt_get13 (50 + i)
  rw [← Nat.add_assoc] at h
  rw [h]
  unfold lt13
  have h2 := List.getElem?_append_right (l₁ := lb13) (l₂ := lt14) (i := 50 + i) (Nat.le_add_right 50 i)
  rw [h2]
  show lt14[50 + i - 50]? = _
  rw [Nat.add_sub_cancel_left]
theorem rb13 (i : Nat) {v : UInt8} (h : lb13[i]? = some v) : rd cL_law (650 + i) v.toNat := by
  refine rd_of ((lt_get13 i).trans ?_)
  unfold lt13
  rw [List.getElem?_append_left (List.getElem?_eq_some_iff.mp h).1]
  exact h
theorem lt_get15 (i : Nat) : lt0[750 + i]? = lt15[i]? := by
  have h := lt_get14 (50 + i)
  rw [← Nat.add_assoc] at h
  rw [h]
  unfold lt14
  have h2 := List.getElem?_append_right (l₁ := lb14) (l₂ := lt15) (i := 50 + i) (Nat.le_add_right 50 i)
  rw [h2]
  show lt15[50 + i - 50]? = _
  rw [Nat.add_sub_cancel_left]
theorem rb14 (i : Nat) {v : UInt8} (h : lb14[i]? = some v) : rd cL_law (700 + i) v.toNat := by
  refine rd_of ((lt_get14 i).trans ?_)
  unfold lt14
  rw [List.getElem?_append_left (List.getElem?_eq_some_iff.mp h).1]
  exact h
theorem lt_get16 (i : Nat) : lt0[800 + i]? = lt16[i]? := by
  have h := lt_get15 (50 + i)
  rw [← Nat.add_assoc] at h
  rw [h]
  unfold lt15
  have h2 := List.getElem?_append_right (l₁ := lb15) (l₂ := lt16) (i := 50 + i) (Nat.le_add_right 50 i)
  rw [h2]
  show lt16[50 + i - 50]? = _
  rw [Nat.add_sub_cancel_left]
theorem rb15 (i : Nat) {v : UInt8} (h : lb15[i]? = some v) : rd cL_law (750 + i) v.toNat := by
  refine rd_of ((lt_get15 i).trans ?_)
  unfold lt15
  rw [List.getElem?_append_left (List.getElem?_eq_some_iff.mp h).1]
  exact h
theorem lt_get17 (i : Nat) : lt0[850 + i]? = lt17[i]? := by
  have h := lt_get16 (50 + i)
  rw [← Nat.add_assoc] at h
  rw [h]
  unfold lt16
  have h2 := List.getElem?_append_right (l₁ := lb16) (l₂ := lt17) (i := 50 + i) (Nat.le_add_right 50 i)
  rw [h2]
  show lt17[50 + i - 50]? = _
  rw [Nat.add_sub_cancel_left]
theorem rb16 (i : Nat) {v : UInt8} (h : lb16[i]? = some v) : rd cL_law (800 + i) v.toNat := by
  refine rd_of ((lt_get16 i).trans ?_)
  unfold lt16
  rw [List.getElem?_append_left (List.getElem?_eq_some_iff.mp h).1]
  exact h
theorem lt_get18 (i : Nat) : lt0[900 + i]? = lt18[i]? := by
  have h := lt_get17 (50 + i)
  rw [← Nat.add_assoc] at h
  rw [h]
  unfold lt17
  have h2 := List.getElem?_append_right (l₁ := lb17) (l₂ := lt18) (i := 50 + i) (Nat.le_add_right 50 i)
  rw [h2]
  show lt18[50 + i - 50]? = _
  rw [Nat.add_sub_cancel_left]
theorem rb17 (i : Nat) {v : UInt8} (h : lb17[i]? = some v) : rd cL_law (850 + i) v.toNat := by
  refine rd_of ((lt_get17 i).trans ?_)
  unfold lt17
  rw [List.getElem?_append_left (List.getElem?_eq_some_iff.mp h).1]
  exact h
theorem lt_get19 (i : Nat) : lt0[950 + i]? = lt19[i]? := by
  have h := lt_get18 (50 + i)
  rw [← Nat.add_assoc] at h
  rw [h]
  unfold lt18
  have h2 := List.getElem?_append_right (l₁ := lb18) (l₂ := lt19) (i := 50 + i) (Nat.le_add_right 50 i)
  rw [h2]
  show lt19[50 + i - 50]? = _
  rw [Nat.add_sub_cancel_left]
theorem rb18 (i : Nat) {v : UInt8} (h : lb18[i]? = some v) : rd cL_law (900 + i) v.toNat := by
  refine rd_of ((lt_get18 i).trans ?_)
  unfold lt18
  rw [List.getElem?_append_left (List.getElem?_eq_some_iff.mp h).1]
  exact h
theorem lt_get20 (i : Nat) : lt0[1000 + i]? = lt20[i]? := by
  have h := lt_get19 (50 + i)
  rw [← Nat.add_assoc] at h
  rw [h]
  unfold lt19
  have h2 := List.getElem?_append_right (l₁ := lb19) (l₂ := lt20) (i := 50 + i) (Nat.le_add_right 50 i)
  rw [h2]
  show lt20[50 + i - 50]? = _
  rw [Nat.add_sub_cancel_left]
theorem rb19 (i : Nat) {v : UInt8} (h : lb19[i]? = some v) : rd cL_law (950 + i) v.toNat := by
  refine rd_of ((lt_get19 i).trans ?_)
  unfold lt19
  rw [List.getElem?_append_left (List.getElem?_eq_some_iff.mp h).1]
  exact h
theorem lt_get21 (i : Nat) : lt0[1050 + i]? = lt21[i]? := by
  have h := lt_get20 (50 + i)
  rw [← Nat.add_assoc] at h
  rw [h]
  unfold lt20
  have h2 := List.getElem?_append_right (l₁ := lb20) (l₂ := lt21) (i := 50 + i) (Nat.le_add_right 50 i)
  rw [h2]
  show lt21[50 + i - 50]? = _
  rw [Nat.add_sub_cancel_left]
theorem rb20 (i : Nat) {v : UInt8} (h : lb20[i]? = some v) : rd cL_law (1000 + i) v.toNat := by
  refine rd_of ((lt_get20 i).trans ?_)
  unfold lt20
  rw [List.getElem?_append_left (List.getElem?_eq_some_iff.mp h).1]
  exact h
theorem lt_get22 (i : Nat) : lt0[1100 + i]? = lt22[i]? := by
  have h := lt_get21 (50 + i)
  rw [← Nat.add_assoc] at h
  rw [h]
  unfold lt21
  have h2 := List.getElem?_append_right (l₁ := lb21) (l₂ := lt22) (i := 50 + i) (Nat.le_add_right 50 i)
  rw [h2]
  show lt22[50 + i - 50]? = _
  rw [Nat.add_sub_cancel_left]
theorem rb21 (i : Nat) {v : UInt8} (h : lb21[i]? = some v) : rd cL_law (1050 + i) v.toNat := by
  refine rd_of ((lt_get21 i).trans ?_)
  unfold lt21
  rw [List.getElem?_append_left (List.getElem?_eq_some_iff.mp h).1]
  exact h
theorem lt_get23 (i : Nat) : lt0[1150 + i]? = lt23[i]? := by
  have h := lt_get22 (50 + i)
  rw [← Nat.add_assoc] at h
  rw [h]
  unfold lt22
  have h2 := List.getElem?_append_right (l₁ := lb22) (l₂ := lt23) (i := 50 + i) (Nat.le_add_right 50 i)
  rw [h2]
  show lt23[50 + i - 50]? = _
  rw [Nat.add_sub_cancel_left]
theorem rb22 (i : Nat) {v : UInt8} (h : lb22[i]? = some v) : rd cL_law (1100 + i) v.toNat := by
  refine rd_of ((lt_get22 i).trans ?_)
  unfold lt22
  rw [List.getElem?_append_left (List.getElem?_eq_some_iff.mp h).1]
  exact h
theorem lt_get24 (i : Nat) : lt0[1168 + i]? = lt24[i]? := by
  have h := lt_get23 (18 + i)
  rw [← Nat.add_assoc] at h
  rw [h]
  unfold lt23
  have h2 := List.getElem?_append_right (l₁ := lb23) (l₂ := lt24) (i := 18 + i) (Nat.le_add_right 18 i)
  rw [h2]
  show lt24[18 + i - 18]? = _
  rw [Nat.add_sub_cancel_left]
theorem rb23 (i : Nat) {v : UInt8} (h : lb23[i]? = some v) : rd cL_law (1150 + i) v.toNat := by
  refine rd_of ((lt_get23 i).trans ?_)
  unfold lt23
  rw [List.getElem?_append_left (List.getElem?_eq_some_iff.mp h).1]
  exact h
theorem op_187 {c : ByteArray} {pc p2 : Nat} {a b : Nat} (h : rd c pc 187) (h2 : rd c (pc + 1) a) (h3 : rd c (pc + 2) b) (hp : p2 = pc + 3) : decode c pc = .ok (.new (a * 256 + b), 3) ∧ p2 = pc + 3 := by
  refine ⟨?_, hp⟩
  have e : ClassFile.Decoder.instr pc c pc = .ok (.new (a * 256 + b), pc + 3) := by
    unfold ClassFile.Decoder.instr
    change Except.bind (ClassFile.Reader.u1 c pc) _ = _
    rw [u1_rd h]
    change Except.bind (ClassFile.Reader.u2 c (pc + 1)) _ = _
    rw [u2_rd h2 h3]
    rfl
  rw [dec_i e, Nat.add_sub_cancel_left]
theorem op_89 {c : ByteArray} {pc p2 : Nat} (h : rd c pc 89) (hp : p2 = pc + 1) : decode c pc = .ok (.dup, 1) ∧ p2 = pc + 1 := by
  refine ⟨?_, hp⟩
  have e : ClassFile.Decoder.instr pc c pc = .ok (.dup, pc + 1) := by
    unfold ClassFile.Decoder.instr
    change Except.bind (ClassFile.Reader.u1 c pc) _ = _
    rw [u1_rd h]
    rfl
  rw [dec_i e, Nat.add_sub_cancel_left]
theorem op_183 {c : ByteArray} {pc p2 : Nat} {a b : Nat} (h : rd c pc 183) (h2 : rd c (pc + 1) a) (h3 : rd c (pc + 2) b) (hp : p2 = pc + 3) : decode c pc = .ok (.invokespecial (a * 256 + b), 3) ∧ p2 = pc + 3 := by
  refine ⟨?_, hp⟩
  have e : ClassFile.Decoder.instr pc c pc = .ok (.invokespecial (a * 256 + b), pc + 3) := by
    unfold ClassFile.Decoder.instr
    change Except.bind (ClassFile.Reader.u1 c pc) _ = _
    rw [u1_rd h]
    change Except.bind (ClassFile.Reader.u2 c (pc + 1)) _ = _
    rw [u2_rd h2 h3]
    rfl
  rw [dec_i e, Nat.add_sub_cancel_left]
theorem op_76 {c : ByteArray} {pc p2 : Nat} (h : rd c pc 76) (hp : p2 = pc + 1) : decode c pc = .ok (.astore_n 1, 1) ∧ p2 = pc + 1 := by
  refine ⟨?_, hp⟩
  have e : ClassFile.Decoder.instr pc c pc = .ok (.astore_n 1, pc + 1) := by
    unfold ClassFile.Decoder.instr
    change Except.bind (ClassFile.Reader.u1 c pc) _ = _
    rw [u1_rd h]
    rfl
  rw [dec_i e, Nat.add_sub_cancel_left]
theorem op_43 {c : ByteArray} {pc p2 : Nat} (h : rd c pc 43) (hp : p2 = pc + 1) : decode c pc = .ok (.aload_n 1, 1) ∧ p2 = pc + 1 := by
  refine ⟨?_, hp⟩
  have e : ClassFile.Decoder.instr pc c pc = .ok (.aload_n 1, pc + 1) := by
    unfold ClassFile.Decoder.instr
    change Except.bind (ClassFile.Reader.u1 c pc) _ = _
    rw [u1_rd h]
    rfl
  rw [dec_i e, Nat.add_sub_cancel_left]
theorem op_18 {c : ByteArray} {pc p2 : Nat} {a : Nat} (h : rd c pc 18) (h2 : rd c (pc + 1) a) (hp : p2 = pc + 2) : decode c pc = .ok (.ldc a, 2) ∧ p2 = pc + 2 := by
  refine ⟨?_, hp⟩
  have e : ClassFile.Decoder.instr pc c pc = .ok (.ldc a, pc + 2) := by
    unfold ClassFile.Decoder.instr
    change Except.bind (ClassFile.Reader.u1 c pc) _ = _
    rw [u1_rd h]
    change Except.bind (ClassFile.Reader.u1 c (pc + 1)) _ = _
    rw [u1_rd h2]
    rfl
  rw [dec_i e, Nat.add_sub_cancel_left]
theorem op_184 {c : ByteArray} {pc p2 : Nat} {a b : Nat} (h : rd c pc 184) (h2 : rd c (pc + 1) a) (h3 : rd c (pc + 2) b) (hp : p2 = pc + 3) : decode c pc = .ok (.invokestatic (a * 256 + b), 3) ∧ p2 = pc + 3 := by
  refine ⟨?_, hp⟩
  have e : ClassFile.Decoder.instr pc c pc = .ok (.invokestatic (a * 256 + b), pc + 3) := by
    unfold ClassFile.Decoder.instr
    change Except.bind (ClassFile.Reader.u1 c pc) _ = _
    rw [u1_rd h]
    change Except.bind (ClassFile.Reader.u2 c (pc + 1)) _ = _
    rw [u2_rd h2 h3]
    rfl
  rw [dec_i e, Nat.add_sub_cancel_left]
theorem op_182 {c : ByteArray} {pc p2 : Nat} {a b : Nat} (h : rd c pc 182) (h2 : rd c (pc + 1) a) (h3 : rd c (pc + 2) b) (hp : p2 = pc + 3) : decode c pc = .ok (.invokevirtual (a * 256 + b), 3) ∧ p2 = pc + 3 := by
  refine ⟨?_, hp⟩
  have e : ClassFile.Decoder.instr pc c pc = .ok (.invokevirtual (a * 256 + b), pc + 3) := by
    unfold ClassFile.Decoder.instr
    change Except.bind (ClassFile.Reader.u1 c pc) _ = _
    rw [u1_rd h]
    change Except.bind (ClassFile.Reader.u2 c (pc + 1)) _ = _
    rw [u2_rd h2 h3]
    rfl
  rw [dec_i e, Nat.add_sub_cancel_left]
theorem op_6 {c : ByteArray} {pc p2 : Nat} (h : rd c pc 6) (hp : p2 = pc + 1) : decode c pc = .ok (.iconst 3, 1) ∧ p2 = pc + 1 := by
  refine ⟨?_, hp⟩
  have e : ClassFile.Decoder.instr pc c pc = .ok (.iconst 3, pc + 1) := by
    unfold ClassFile.Decoder.instr
    change Except.bind (ClassFile.Reader.u1 c pc) _ = _
    rw [u1_rd h]
    rfl
  rw [dec_i e, Nat.add_sub_cancel_left]
theorem op_160 {c : ByteArray} {pc p2 : Nat} {a b : Nat} {v : Int} (h : rd c pc 160) (h2 : rd c (pc + 1) a) (h3 : rd c (pc + 2) b) (hv : ClassFile.Reader.signed 16 (a * 256 + b) = v) (hp : p2 = pc + 3) : decode c pc = .ok (.if_icmp .ne v, 3) ∧ p2 = pc + 3 := by
  refine ⟨?_, hp⟩
  have e : ClassFile.Decoder.instr pc c pc = .ok (.if_icmp .ne v, pc + 3) := by
    unfold ClassFile.Decoder.instr
    change Except.bind (ClassFile.Reader.u1 c pc) _ = _
    rw [u1_rd h]
    change Except.bind (ClassFile.Reader.s2 c (pc + 1)) _ = _
    rw [s2_rd h2 h3, hv]
    rfl
  rw [dec_i e, Nat.add_sub_cancel_left]
theorem op_3 {c : ByteArray} {pc p2 : Nat} (h : rd c pc 3) (hp : p2 = pc + 1) : decode c pc = .ok (.iconst 0, 1) ∧ p2 = pc + 1 := by
  refine ⟨?_, hp⟩
  have e : ClassFile.Decoder.instr pc c pc = .ok (.iconst 0, pc + 1) := by
    unfold ClassFile.Decoder.instr
    change Except.bind (ClassFile.Reader.u1 c pc) _ = _
    rw [u1_rd h]
    rfl
  rw [dec_i e, Nat.add_sub_cancel_left]
theorem op_7 {c : ByteArray} {pc p2 : Nat} (h : rd c pc 7) (hp : p2 = pc + 1) : decode c pc = .ok (.iconst 4, 1) ∧ p2 = pc + 1 := by
  refine ⟨?_, hp⟩
  have e : ClassFile.Decoder.instr pc c pc = .ok (.iconst 4, pc + 1) := by
    unfold ClassFile.Decoder.instr
    change Except.bind (ClassFile.Reader.u1 c pc) _ = _
    rw [u1_rd h]
    rfl
  rw [dec_i e, Nat.add_sub_cancel_left]
theorem op_16 {c : ByteArray} {pc p2 : Nat} {a : Nat} {v : Int} (h : rd c pc 16) (h2 : rd c (pc + 1) a) (hv : ClassFile.Reader.signed 8 a = v) (hp : p2 = pc + 2) : decode c pc = .ok (.bipush v, 2) ∧ p2 = pc + 2 := by
  refine ⟨?_, hp⟩
  have e : ClassFile.Decoder.instr pc c pc = .ok (.bipush v, pc + 2) := by
    unfold ClassFile.Decoder.instr
    change Except.bind (ClassFile.Reader.u1 c pc) _ = _
    rw [u1_rd h]
    change Except.bind (ClassFile.Reader.s1 c (pc + 1)) _ = _
    rw [s1_rd h2, hv]
    rfl
  rw [dec_i e, Nat.add_sub_cancel_left]
theorem op_4 {c : ByteArray} {pc p2 : Nat} (h : rd c pc 4) (hp : p2 = pc + 1) : decode c pc = .ok (.iconst 1, 1) ∧ p2 = pc + 1 := by
  refine ⟨?_, hp⟩
  have e : ClassFile.Decoder.instr pc c pc = .ok (.iconst 1, pc + 1) := by
    unfold ClassFile.Decoder.instr
    change Except.bind (ClassFile.Reader.u1 c pc) _ = _
    rw [u1_rd h]
    rfl
  rw [dec_i e, Nat.add_sub_cancel_left]
theorem op_8 {c : ByteArray} {pc p2 : Nat} (h : rd c pc 8) (hp : p2 = pc + 1) : decode c pc = .ok (.iconst 5, 1) ∧ p2 = pc + 1 := by
  refine ⟨?_, hp⟩
  have e : ClassFile.Decoder.instr pc c pc = .ok (.iconst 5, pc + 1) := by
    unfold ClassFile.Decoder.instr
    change Except.bind (ClassFile.Reader.u1 c pc) _ = _
    rw [u1_rd h]
    rfl
  rw [dec_i e, Nat.add_sub_cancel_left]
theorem op_154 {c : ByteArray} {pc p2 : Nat} {a b : Nat} {v : Int} (h : rd c pc 154) (h2 : rd c (pc + 1) a) (h3 : rd c (pc + 2) b) (hv : ClassFile.Reader.signed 16 (a * 256 + b) = v) (hp : p2 = pc + 3) : decode c pc = .ok (.ifCond .ne v, 3) ∧ p2 = pc + 3 := by
  refine ⟨?_, hp⟩
  have e : ClassFile.Decoder.instr pc c pc = .ok (.ifCond .ne v, pc + 3) := by
    unfold ClassFile.Decoder.instr
    change Except.bind (ClassFile.Reader.u1 c pc) _ = _
    rw [u1_rd h]
    change Except.bind (ClassFile.Reader.s2 c (pc + 1)) _ = _
    rw [s2_rd h2 h3, hv]
    rfl
  rw [dec_i e, Nat.add_sub_cancel_left]
theorem op_5 {c : ByteArray} {pc p2 : Nat} (h : rd c pc 5) (hp : p2 = pc + 1) : decode c pc = .ok (.iconst 2, 1) ∧ p2 = pc + 1 := by
  refine ⟨?_, hp⟩
  have e : ClassFile.Decoder.instr pc c pc = .ok (.iconst 2, pc + 1) := by
    unfold ClassFile.Decoder.instr
    change Except.bind (ClassFile.Reader.u1 c pc) _ = _
    rw [u1_rd h]
    rfl
  rw [dec_i e, Nat.add_sub_cancel_left]
theorem op_2 {c : ByteArray} {pc p2 : Nat} (h : rd c pc 2) (hp : p2 = pc + 1) : decode c pc = .ok (.iconst (-1), 1) ∧ p2 = pc + 1 := by
  refine ⟨?_, hp⟩
  have e : ClassFile.Decoder.instr pc c pc = .ok (.iconst (-1), pc + 1) := by
    unfold ClassFile.Decoder.instr
    change Except.bind (ClassFile.Reader.u1 c pc) _ = _
    rw [u1_rd h]
    rfl
  rw [dec_i e, Nat.add_sub_cancel_left]
theorem op_159 {c : ByteArray} {pc p2 : Nat} {a b : Nat} {v : Int} (h : rd c pc 159) (h2 : rd c (pc + 1) a) (h3 : rd c (pc + 2) b) (hv : ClassFile.Reader.signed 16 (a * 256 + b) = v) (hp : p2 = pc + 3) : decode c pc = .ok (.if_icmp .eq v, 3) ∧ p2 = pc + 3 := by
  refine ⟨?_, hp⟩
  have e : ClassFile.Decoder.instr pc c pc = .ok (.if_icmp .eq v, pc + 3) := by
    unfold ClassFile.Decoder.instr
    change Except.bind (ClassFile.Reader.u1 c pc) _ = _
    rw [u1_rd h]
    change Except.bind (ClassFile.Reader.s2 c (pc + 1)) _ = _
    rw [s2_rd h2 h3, hv]
    rfl
  rw [dec_i e, Nat.add_sub_cancel_left]
theorem op_172 {c : ByteArray} {pc p2 : Nat} (h : rd c pc 172) (hp : p2 = pc + 1) : decode c pc = .ok (.ireturn, 1) ∧ p2 = pc + 1 := by
  refine ⟨?_, hp⟩
  have e : ClassFile.Decoder.instr pc c pc = .ok (.ireturn, pc + 1) := by
    unfold ClassFile.Decoder.instr
    change Except.bind (ClassFile.Reader.u1 c pc) _ = _
    rw [u1_rd h]
    rfl
  rw [dec_i e, Nat.add_sub_cancel_left]
theorem op_61 {c : ByteArray} {pc p2 : Nat} (h : rd c pc 61) (hp : p2 = pc + 1) : decode c pc = .ok (.istore_n 2, 1) ∧ p2 = pc + 1 := by
  refine ⟨?_, hp⟩
  have e : ClassFile.Decoder.instr pc c pc = .ok (.istore_n 2, pc + 1) := by
    unfold ClassFile.Decoder.instr
    change Except.bind (ClassFile.Reader.u1 c pc) _ = _
    rw [u1_rd h]
    rfl
  rw [dec_i e, Nat.add_sub_cancel_left]
theorem op_62 {c : ByteArray} {pc p2 : Nat} (h : rd c pc 62) (hp : p2 = pc + 1) : decode c pc = .ok (.istore_n 3, 1) ∧ p2 = pc + 1 := by
  refine ⟨?_, hp⟩
  have e : ClassFile.Decoder.instr pc c pc = .ok (.istore_n 3, pc + 1) := by
    unfold ClassFile.Decoder.instr
    change Except.bind (ClassFile.Reader.u1 c pc) _ = _
    rw [u1_rd h]
    rfl
  rw [dec_i e, Nat.add_sub_cancel_left]
theorem op_29 {c : ByteArray} {pc p2 : Nat} (h : rd c pc 29) (hp : p2 = pc + 1) : decode c pc = .ok (.iload_n 3, 1) ∧ p2 = pc + 1 := by
  refine ⟨?_, hp⟩
  have e : ClassFile.Decoder.instr pc c pc = .ok (.iload_n 3, pc + 1) := by
    unfold ClassFile.Decoder.instr
    change Except.bind (ClassFile.Reader.u1 c pc) _ = _
    rw [u1_rd h]
    rfl
  rw [dec_i e, Nat.add_sub_cancel_left]
theorem op_162 {c : ByteArray} {pc p2 : Nat} {a b : Nat} {v : Int} (h : rd c pc 162) (h2 : rd c (pc + 1) a) (h3 : rd c (pc + 2) b) (hv : ClassFile.Reader.signed 16 (a * 256 + b) = v) (hp : p2 = pc + 3) : decode c pc = .ok (.if_icmp .ge v, 3) ∧ p2 = pc + 3 := by
  refine ⟨?_, hp⟩
  have e : ClassFile.Decoder.instr pc c pc = .ok (.if_icmp .ge v, pc + 3) := by
    unfold ClassFile.Decoder.instr
    change Except.bind (ClassFile.Reader.u1 c pc) _ = _
    rw [u1_rd h]
    change Except.bind (ClassFile.Reader.s2 c (pc + 1)) _ = _
    rw [s2_rd h2 h3, hv]
    rfl
  rw [dec_i e, Nat.add_sub_cancel_left]
theorem op_42 {c : ByteArray} {pc p2 : Nat} (h : rd c pc 42) (hp : p2 = pc + 1) : decode c pc = .ok (.aload_n 0, 1) ∧ p2 = pc + 1 := by
  refine ⟨?_, hp⟩
  have e : ClassFile.Decoder.instr pc c pc = .ok (.aload_n 0, pc + 1) := by
    unfold ClassFile.Decoder.instr
    change Except.bind (ClassFile.Reader.u1 c pc) _ = _
    rw [u1_rd h]
    rfl
  rw [dec_i e, Nat.add_sub_cancel_left]
theorem op_54 {c : ByteArray} {pc p2 : Nat} {a : Nat} (h : rd c pc 54) (h2 : rd c (pc + 1) a) (hp : p2 = pc + 2) : decode c pc = .ok (.istore a, 2) ∧ p2 = pc + 2 := by
  refine ⟨?_, hp⟩
  have e : ClassFile.Decoder.instr pc c pc = .ok (.istore a, pc + 2) := by
    unfold ClassFile.Decoder.instr
    change Except.bind (ClassFile.Reader.u1 c pc) _ = _
    rw [u1_rd h]
    change Except.bind (ClassFile.Reader.u1 c (pc + 1)) _ = _
    rw [u1_rd h2]
    rfl
  rw [dec_i e, Nat.add_sub_cancel_left]
theorem op_21 {c : ByteArray} {pc p2 : Nat} {a : Nat} (h : rd c pc 21) (h2 : rd c (pc + 1) a) (hp : p2 = pc + 2) : decode c pc = .ok (.iload a, 2) ∧ p2 = pc + 2 := by
  refine ⟨?_, hp⟩
  have e : ClassFile.Decoder.instr pc c pc = .ok (.iload a, pc + 2) := by
    unfold ClassFile.Decoder.instr
    change Except.bind (ClassFile.Reader.u1 c pc) _ = _
    rw [u1_rd h]
    change Except.bind (ClassFile.Reader.u1 c (pc + 1)) _ = _
    rw [u1_rd h2]
    rfl
  rw [dec_i e, Nat.add_sub_cancel_left]
theorem op_124 {c : ByteArray} {pc p2 : Nat} (h : rd c pc 124) (hp : p2 = pc + 1) : decode c pc = .ok (.iushr, 1) ∧ p2 = pc + 1 := by
  refine ⟨?_, hp⟩
  have e : ClassFile.Decoder.instr pc c pc = .ok (.iushr, pc + 1) := by
    unfold ClassFile.Decoder.instr
    change Except.bind (ClassFile.Reader.u1 c pc) _ = _
    rw [u1_rd h]
    rfl
  rw [dec_i e, Nat.add_sub_cancel_left]
theorem op_126 {c : ByteArray} {pc p2 : Nat} (h : rd c pc 126) (hp : p2 = pc + 1) : decode c pc = .ok (.iand, 1) ∧ p2 = pc + 1 := by
  refine ⟨?_, hp⟩
  have e : ClassFile.Decoder.instr pc c pc = .ok (.iand, pc + 1) := by
    unfold ClassFile.Decoder.instr
    change Except.bind (ClassFile.Reader.u1 c pc) _ = _
    rw [u1_rd h]
    rfl
  rw [dec_i e, Nat.add_sub_cancel_left]
theorem op_112 {c : ByteArray} {pc p2 : Nat} (h : rd c pc 112) (hp : p2 = pc + 1) : decode c pc = .ok (.irem, 1) ∧ p2 = pc + 1 := by
  refine ⟨?_, hp⟩
  have e : ClassFile.Decoder.instr pc c pc = .ok (.irem, pc + 1) := by
    unfold ClassFile.Decoder.instr
    change Except.bind (ClassFile.Reader.u1 c pc) _ = _
    rw [u1_rd h]
    rfl
  rw [dec_i e, Nat.add_sub_cancel_left]
theorem op_55 {c : ByteArray} {pc p2 : Nat} {a : Nat} (h : rd c pc 55) (h2 : rd c (pc + 1) a) (hp : p2 = pc + 2) : decode c pc = .ok (.lstore a, 2) ∧ p2 = pc + 2 := by
  refine ⟨?_, hp⟩
  have e : ClassFile.Decoder.instr pc c pc = .ok (.lstore a, pc + 2) := by
    unfold ClassFile.Decoder.instr
    change Except.bind (ClassFile.Reader.u1 c pc) _ = _
    rw [u1_rd h]
    change Except.bind (ClassFile.Reader.u1 c (pc + 1)) _ = _
    rw [u1_rd h2]
    rfl
  rw [dec_i e, Nat.add_sub_cancel_left]
theorem op_167 {c : ByteArray} {pc p2 : Nat} {a b : Nat} {v : Int} (h : rd c pc 167) (h2 : rd c (pc + 1) a) (h3 : rd c (pc + 2) b) (hv : ClassFile.Reader.signed 16 (a * 256 + b) = v) (hp : p2 = pc + 3) : decode c pc = .ok (.goto v, 3) ∧ p2 = pc + 3 := by
  refine ⟨?_, hp⟩
  have e : ClassFile.Decoder.instr pc c pc = .ok (.goto v, pc + 3) := by
    unfold ClassFile.Decoder.instr
    change Except.bind (ClassFile.Reader.u1 c pc) _ = _
    rw [u1_rd h]
    change Except.bind (ClassFile.Reader.s2 c (pc + 1)) _ = _
    rw [s2_rd h2 h3, hv]
    rfl
  rw [dec_i e, Nat.add_sub_cancel_left]
theorem op_153 {c : ByteArray} {pc p2 : Nat} {a b : Nat} {v : Int} (h : rd c pc 153) (h2 : rd c (pc + 1) a) (h3 : rd c (pc + 2) b) (hv : ClassFile.Reader.signed 16 (a * 256 + b) = v) (hp : p2 = pc + 3) : decode c pc = .ok (.ifCond .eq v, 3) ∧ p2 = pc + 3 := by
  refine ⟨?_, hp⟩
  have e : ClassFile.Decoder.instr pc c pc = .ok (.ifCond .eq v, pc + 3) := by
    unfold ClassFile.Decoder.instr
    change Except.bind (ClassFile.Reader.u1 c pc) _ = _
    rw [u1_rd h]
    change Except.bind (ClassFile.Reader.s2 c (pc + 1)) _ = _
    rw [s2_rd h2 h3, hv]
    rfl
  rw [dec_i e, Nat.add_sub_cancel_left]
theorem op_96 {c : ByteArray} {pc p2 : Nat} (h : rd c pc 96) (hp : p2 = pc + 1) : decode c pc = .ok (.iadd, 1) ∧ p2 = pc + 1 := by
  refine ⟨?_, hp⟩
  have e : ClassFile.Decoder.instr pc c pc = .ok (.iadd, pc + 1) := by
    unfold ClassFile.Decoder.instr
    change Except.bind (ClassFile.Reader.u1 c pc) _ = _
    rw [u1_rd h]
    rfl
  rw [dec_i e, Nat.add_sub_cancel_left]
theorem op_17 {c : ByteArray} {pc p2 : Nat} {a b : Nat} {v : Int} (h : rd c pc 17) (h2 : rd c (pc + 1) a) (h3 : rd c (pc + 2) b) (hv : ClassFile.Reader.signed 16 (a * 256 + b) = v) (hp : p2 = pc + 3) : decode c pc = .ok (.sipush v, 3) ∧ p2 = pc + 3 := by
  refine ⟨?_, hp⟩
  have e : ClassFile.Decoder.instr pc c pc = .ok (.sipush v, pc + 3) := by
    unfold ClassFile.Decoder.instr
    change Except.bind (ClassFile.Reader.u1 c pc) _ = _
    rw [u1_rd h]
    change Except.bind (ClassFile.Reader.s2 c (pc + 1)) _ = _
    rw [s2_rd h2 h3, hv]
    rfl
  rw [dec_i e, Nat.add_sub_cancel_left]
theorem op_104 {c : ByteArray} {pc p2 : Nat} (h : rd c pc 104) (hp : p2 = pc + 1) : decode c pc = .ok (.imul, 1) ∧ p2 = pc + 1 := by
  refine ⟨?_, hp⟩
  have e : ClassFile.Decoder.instr pc c pc = .ok (.imul, pc + 1) := by
    unfold ClassFile.Decoder.instr
    change Except.bind (ClassFile.Reader.u1 c pc) _ = _
    rw [u1_rd h]
    rfl
  rw [dec_i e, Nat.add_sub_cancel_left]
theorem op_163 {c : ByteArray} {pc p2 : Nat} {a b : Nat} {v : Int} (h : rd c pc 163) (h2 : rd c (pc + 1) a) (h3 : rd c (pc + 2) b) (hv : ClassFile.Reader.signed 16 (a * 256 + b) = v) (hp : p2 = pc + 3) : decode c pc = .ok (.if_icmp .gt v, 3) ∧ p2 = pc + 3 := by
  refine ⟨?_, hp⟩
  have e : ClassFile.Decoder.instr pc c pc = .ok (.if_icmp .gt v, pc + 3) := by
    unfold ClassFile.Decoder.instr
    change Except.bind (ClassFile.Reader.u1 c pc) _ = _
    rw [u1_rd h]
    change Except.bind (ClassFile.Reader.s2 c (pc + 1)) _ = _
    rw [s2_rd h2 h3, hv]
    rfl
  rw [dec_i e, Nat.add_sub_cancel_left]
theorem op_22 {c : ByteArray} {pc p2 : Nat} {a : Nat} (h : rd c pc 22) (h2 : rd c (pc + 1) a) (hp : p2 = pc + 2) : decode c pc = .ok (.lload a, 2) ∧ p2 = pc + 2 := by
  refine ⟨?_, hp⟩
  have e : ClassFile.Decoder.instr pc c pc = .ok (.lload a, pc + 2) := by
    unfold ClassFile.Decoder.instr
    change Except.bind (ClassFile.Reader.u1 c pc) _ = _
    rw [u1_rd h]
    change Except.bind (ClassFile.Reader.u1 c (pc + 1)) _ = _
    rw [u1_rd h2]
    rfl
  rw [dec_i e, Nat.add_sub_cancel_left]
theorem op_101 {c : ByteArray} {pc p2 : Nat} (h : rd c pc 101) (hp : p2 = pc + 1) : decode c pc = .ok (.lsub, 1) ∧ p2 = pc + 1 := by
  refine ⟨?_, hp⟩
  have e : ClassFile.Decoder.instr pc c pc = .ok (.lsub, pc + 1) := by
    unfold ClassFile.Decoder.instr
    change Except.bind (ClassFile.Reader.u1 c pc) _ = _
    rw [u1_rd h]
    rfl
  rw [dec_i e, Nat.add_sub_cancel_left]
theorem op_97 {c : ByteArray} {pc p2 : Nat} (h : rd c pc 97) (hp : p2 = pc + 1) : decode c pc = .ok (.ladd, 1) ∧ p2 = pc + 1 := by
  refine ⟨?_, hp⟩
  have e : ClassFile.Decoder.instr pc c pc = .ok (.ladd, pc + 1) := by
    unfold ClassFile.Decoder.instr
    change Except.bind (ClassFile.Reader.u1 c pc) _ = _
    rw [u1_rd h]
    rfl
  rw [dec_i e, Nat.add_sub_cancel_left]
theorem op_148 {c : ByteArray} {pc p2 : Nat} (h : rd c pc 148) (hp : p2 = pc + 1) : decode c pc = .ok (.lcmp, 1) ∧ p2 = pc + 1 := by
  refine ⟨?_, hp⟩
  have e : ClassFile.Decoder.instr pc c pc = .ok (.lcmp, pc + 1) := by
    unfold ClassFile.Decoder.instr
    change Except.bind (ClassFile.Reader.u1 c pc) _ = _
    rw [u1_rd h]
    rfl
  rw [dec_i e, Nat.add_sub_cancel_left]
theorem op_9 {c : ByteArray} {pc p2 : Nat} (h : rd c pc 9) (hp : p2 = pc + 1) : decode c pc = .ok (.lconst 0, 1) ∧ p2 = pc + 1 := by
  refine ⟨?_, hp⟩
  have e : ClassFile.Decoder.instr pc c pc = .ok (.lconst 0, pc + 1) := by
    unfold ClassFile.Decoder.instr
    change Except.bind (ClassFile.Reader.u1 c pc) _ = _
    rw [u1_rd h]
    rfl
  rw [dec_i e, Nat.add_sub_cancel_left]
theorem op_28 {c : ByteArray} {pc p2 : Nat} (h : rd c pc 28) (hp : p2 = pc + 1) : decode c pc = .ok (.iload_n 2, 1) ∧ p2 = pc + 1 := by
  refine ⟨?_, hp⟩
  have e : ClassFile.Decoder.instr pc c pc = .ok (.iload_n 2, pc + 1) := by
    unfold ClassFile.Decoder.instr
    change Except.bind (ClassFile.Reader.u1 c pc) _ = _
    rw [u1_rd h]
    rfl
  rw [dec_i e, Nat.add_sub_cancel_left]
theorem op_155 {c : ByteArray} {pc p2 : Nat} {a b : Nat} {v : Int} (h : rd c pc 155) (h2 : rd c (pc + 1) a) (h3 : rd c (pc + 2) b) (hv : ClassFile.Reader.signed 16 (a * 256 + b) = v) (hp : p2 = pc + 3) : decode c pc = .ok (.ifCond .lt v, 3) ∧ p2 = pc + 3 := by
  refine ⟨?_, hp⟩
  have e : ClassFile.Decoder.instr pc c pc = .ok (.ifCond .lt v, pc + 3) := by
    unfold ClassFile.Decoder.instr
    change Except.bind (ClassFile.Reader.u1 c pc) _ = _
    rw [u1_rd h]
    change Except.bind (ClassFile.Reader.s2 c (pc + 1)) _ = _
    rw [s2_rd h2 h3, hv]
    rfl
  rw [dec_i e, Nat.add_sub_cancel_left]
theorem op_132 {c : ByteArray} {pc p2 : Nat} {a b : Nat} {v : Int} (h : rd c pc 132) (h2 : rd c (pc + 1) a) (h3 : rd c (pc + 2) b) (hv : ClassFile.Reader.signed 8 b = v) (hp : p2 = pc + 3) : decode c pc = .ok (.iinc a v, 3) ∧ p2 = pc + 3 := by
  refine ⟨?_, hp⟩
  have e : ClassFile.Decoder.instr pc c pc = .ok (.iinc a v, pc + 3) := by
    unfold ClassFile.Decoder.instr
    change Except.bind (ClassFile.Reader.u1 c pc) _ = _
    rw [u1_rd h]
    change Except.bind (ClassFile.Reader.u1 c (pc + 1)) _ = _
    rw [u1_rd h2]
    change Except.bind (ClassFile.Reader.s1 c (pc + 2)) _ = _
    rw [s1_rd h3, hv]
    rfl
  rw [dec_i e, Nat.add_sub_cancel_left]
theorem dL_law_0 : decode cL_law 0 = .ok (.new 18, 3) ∧ 3 = 0 + 3 := op_187 (rb0 0 rfl) (rb0 1 rfl) (rb0 2 rfl) rfl
theorem dL_law_3 : decode cL_law 3 = .ok (.dup, 1) ∧ 4 = 3 + 1 := op_89 (rb0 3 rfl) rfl
theorem dL_law_4 : decode cL_law 4 = .ok (.invokespecial 102, 3) ∧ 7 = 4 + 3 := op_183 (rb0 4 rfl) (rb0 5 rfl) (rb0 6 rfl) rfl
theorem dL_law_7 : decode cL_law 7 = .ok (.astore_n 1, 1) ∧ 8 = 7 + 1 := op_76 (rb0 7 rfl) rfl
theorem dL_law_8 : decode cL_law 8 = .ok (.aload_n 1, 1) ∧ 9 = 8 + 1 := op_43 (rb0 8 rfl) rfl
theorem dL_law_9 : decode cL_law 9 = .ok (.ldc 103, 2) ∧ 11 = 9 + 2 := op_18 (rb0 9 rfl) (rb0 10 rfl) rfl
theorem dL_law_11 : decode cL_law 11 = .ok (.invokestatic 105, 3) ∧ 14 = 11 + 3 := op_184 (rb0 11 rfl) (rb0 12 rfl) (rb0 13 rfl) rfl
theorem dL_law_14 : decode cL_law 14 = .ok (.aload_n 1, 1) ∧ 15 = 14 + 1 := op_43 (rb0 14 rfl) rfl
theorem dL_law_15 : decode cL_law 15 = .ok (.invokevirtual 111, 3) ∧ 18 = 15 + 3 := op_182 (rb0 15 rfl) (rb0 16 rfl) (rb0 17 rfl) rfl
theorem dL_law_18 : decode cL_law 18 = .ok (.iconst 3, 1) ∧ 19 = 18 + 1 := op_6 (rb0 18 rfl) rfl
theorem dL_law_19 : decode cL_law 19 = .ok (.if_icmp .ne 64, 3) ∧ 22 = 19 + 3 := op_160 (rb0 19 rfl) (rb0 20 rfl) (rb0 21 rfl) rfl rfl
theorem dL_law_22 : decode cL_law 22 = .ok (.aload_n 1, 1) ∧ 23 = 22 + 1 := op_43 (rb0 22 rfl) rfl
theorem dL_law_23 : decode cL_law 23 = .ok (.iconst 0, 1) ∧ 24 = 23 + 1 := op_3 (rb0 23 rfl) rfl
theorem dL_law_24 : decode cL_law 24 = .ok (.iconst 3, 1) ∧ 25 = 24 + 1 := op_6 (rb0 24 rfl) rfl
theorem dL_law_25 : decode cL_law 25 = .ok (.invokevirtual 27, 3) ∧ 28 = 25 + 3 := op_182 (rb0 25 rfl) (rb0 26 rfl) (rb0 27 rfl) rfl
theorem dL_law_28 : decode cL_law 28 = .ok (.ldc 114, 2) ∧ 30 = 28 + 2 := op_18 (rb0 28 rfl) (rb0 29 rfl) rfl
theorem dL_law_30 : decode cL_law 30 = .ok (.if_icmp .ne 53, 3) ∧ 33 = 30 + 3 := op_160 (rb0 30 rfl) (rb0 31 rfl) (rb0 32 rfl) rfl rfl
theorem dL_law_33 : decode cL_law 33 = .ok (.aload_n 1, 1) ∧ 34 = 33 + 1 := op_43 (rb0 33 rfl) rfl
theorem dL_law_34 : decode cL_law 34 = .ok (.iconst 0, 1) ∧ 35 = 34 + 1 := op_3 (rb0 34 rfl) rfl
theorem dL_law_35 : decode cL_law 35 = .ok (.iconst 4, 1) ∧ 36 = 35 + 1 := op_7 (rb0 35 rfl) rfl
theorem dL_law_36 : decode cL_law 36 = .ok (.invokevirtual 27, 3) ∧ 39 = 36 + 3 := op_182 (rb0 36 rfl) (rb0 37 rfl) (rb0 38 rfl) rfl
theorem dL_law_39 : decode cL_law 39 = .ok (.bipush 62, 2) ∧ 41 = 39 + 2 := op_16 (rb0 39 rfl) (rb0 40 rfl) rfl rfl
theorem dL_law_41 : decode cL_law 41 = .ok (.if_icmp .ne 42, 3) ∧ 44 = 41 + 3 := op_160 (rb0 41 rfl) (rb0 42 rfl) (rb0 43 rfl) rfl rfl
theorem dL_law_44 : decode cL_law 44 = .ok (.aload_n 1, 1) ∧ 45 = 44 + 1 := op_43 (rb0 44 rfl) rfl
theorem dL_law_45 : decode cL_law 45 = .ok (.iconst 1, 1) ∧ 46 = 45 + 1 := op_4 (rb0 45 rfl) rfl
theorem dL_law_46 : decode cL_law 46 = .ok (.iconst 5, 1) ∧ 47 = 46 + 1 := op_8 (rb0 46 rfl) rfl
theorem dL_law_47 : decode cL_law 47 = .ok (.invokevirtual 27, 3) ∧ 50 = 47 + 3 := op_182 (rb0 47 rfl) (rb0 48 rfl) (rb0 49 rfl) rfl
theorem dL_law_50 : decode cL_law 50 = .ok (.bipush 11, 2) ∧ 52 = 50 + 2 := op_16 (rb1 0 rfl) (rb1 1 rfl) rfl rfl
theorem dL_law_52 : decode cL_law 52 = .ok (.if_icmp .ne 31, 3) ∧ 55 = 52 + 3 := op_160 (rb1 2 rfl) (rb1 3 rfl) (rb1 4 rfl) rfl rfl
theorem dL_law_55 : decode cL_law 55 = .ok (.aload_n 1, 1) ∧ 56 = 55 + 1 := op_43 (rb1 5 rfl) rfl
theorem dL_law_56 : decode cL_law 56 = .ok (.iconst 0, 1) ∧ 57 = 56 + 1 := op_3 (rb1 6 rfl) rfl
theorem dL_law_57 : decode cL_law 57 = .ok (.invokevirtual 84, 3) ∧ 60 = 57 + 3 := op_182 (rb1 7 rfl) (rb1 8 rfl) (rb1 9 rfl) rfl
theorem dL_law_60 : decode cL_law 60 = .ok (.ifCond .ne 23, 3) ∧ 63 = 60 + 3 := op_154 (rb1 10 rfl) (rb1 11 rfl) (rb1 12 rfl) rfl rfl
theorem dL_law_63 : decode cL_law 63 = .ok (.aload_n 1, 1) ∧ 64 = 63 + 1 := op_43 (rb1 13 rfl) rfl
theorem dL_law_64 : decode cL_law 64 = .ok (.iconst 0, 1) ∧ 65 = 64 + 1 := op_3 (rb1 14 rfl) rfl
theorem dL_law_65 : decode cL_law 65 = .ok (.iconst 2, 1) ∧ 66 = 65 + 1 := op_5 (rb1 15 rfl) rfl
theorem dL_law_66 : decode cL_law 66 = .ok (.invokevirtual 58, 3) ∧ 69 = 66 + 3 := op_182 (rb1 16 rfl) (rb1 17 rfl) (rb1 18 rfl) rfl
theorem dL_law_69 : decode cL_law 69 = .ok (.iconst 2, 1) ∧ 70 = 69 + 1 := op_5 (rb1 19 rfl) rfl
theorem dL_law_70 : decode cL_law 70 = .ok (.if_icmp .ne 13, 3) ∧ 73 = 70 + 3 := op_160 (rb1 20 rfl) (rb1 21 rfl) (rb1 22 rfl) rfl rfl
theorem dL_law_73 : decode cL_law 73 = .ok (.aload_n 1, 1) ∧ 74 = 73 + 1 := op_43 (rb1 23 rfl) rfl
theorem dL_law_74 : decode cL_law 74 = .ok (.iconst 2, 1) ∧ 75 = 74 + 1 := op_5 (rb1 24 rfl) rfl
theorem dL_law_75 : decode cL_law 75 = .ok (.iconst (-1), 1) ∧ 76 = 75 + 1 := op_2 (rb1 25 rfl) rfl
theorem dL_law_76 : decode cL_law 76 = .ok (.invokevirtual 58, 3) ∧ 79 = 76 + 3 := op_182 (rb1 26 rfl) (rb1 27 rfl) (rb1 28 rfl) rfl
theorem dL_law_79 : decode cL_law 79 = .ok (.iconst 2, 1) ∧ 80 = 79 + 1 := op_5 (rb1 29 rfl) rfl
theorem dL_law_80 : decode cL_law 80 = .ok (.if_icmp .eq 5, 3) ∧ 83 = 80 + 3 := op_159 (rb1 30 rfl) (rb1 31 rfl) (rb1 32 rfl) rfl rfl
theorem dL_law_83 : decode cL_law 83 = .ok (.iconst 0, 1) ∧ 84 = 83 + 1 := op_3 (rb1 33 rfl) rfl
theorem dL_law_84 : decode cL_law 84 = .ok (.ireturn, 1) ∧ 85 = 84 + 1 := op_172 (rb1 34 rfl) rfl
theorem dL_law_85 : decode cL_law 85 = .ok (.iconst 0, 1) ∧ 86 = 85 + 1 := op_3 (rb1 35 rfl) rfl
theorem dL_law_86 : decode cL_law 86 = .ok (.istore_n 2, 1) ∧ 87 = 86 + 1 := op_61 (rb1 36 rfl) rfl
theorem dL_law_87 : decode cL_law 87 = .ok (.iconst 0, 1) ∧ 88 = 87 + 1 := op_3 (rb1 37 rfl) rfl
theorem dL_law_88 : decode cL_law 88 = .ok (.istore_n 3, 1) ∧ 89 = 88 + 1 := op_62 (rb1 38 rfl) rfl
theorem dL_law_89 : decode cL_law 89 = .ok (.iload_n 3, 1) ∧ 90 = 89 + 1 := op_29 (rb1 39 rfl) rfl
theorem dL_law_90 : decode cL_law 90 = .ok (.bipush 14, 2) ∧ 92 = 90 + 2 := op_16 (rb1 40 rfl) (rb1 41 rfl) rfl rfl
theorem dL_law_92 : decode cL_law 92 = .ok (.if_icmp .ge 1074, 3) ∧ 95 = 92 + 3 := op_162 (rb1 42 rfl) (rb1 43 rfl) (rb1 44 rfl) rfl rfl
theorem dL_law_95 : decode cL_law 95 = .ok (.aload_n 0, 1) ∧ 96 = 95 + 1 := op_42 (rb1 45 rfl) rfl
theorem dL_law_96 : decode cL_law 96 = .ok (.iload_n 3, 1) ∧ 97 = 96 + 1 := op_29 (rb1 46 rfl) rfl
theorem dL_law_97 : decode cL_law 97 = .ok (.invokestatic 115, 3) ∧ 100 = 97 + 3 := op_184 (rb1 47 rfl) (rb1 48 rfl) (rb1 49 rfl) rfl
theorem dL_law_100 : decode cL_law 100 = .ok (.istore 4, 2) ∧ 102 = 100 + 2 := op_54 (rb2 0 rfl) (rb2 1 rfl) rfl
theorem dL_law_102 : decode cL_law 102 = .ok (.iload 4, 2) ∧ 104 = 102 + 2 := op_21 (rb2 2 rfl) (rb2 3 rfl) rfl
theorem dL_law_104 : decode cL_law 104 = .ok (.iconst 4, 1) ∧ 105 = 104 + 1 := op_7 (rb2 4 rfl) rfl
theorem dL_law_105 : decode cL_law 105 = .ok (.iushr, 1) ∧ 106 = 105 + 1 := op_124 (rb2 5 rfl) rfl
theorem dL_law_106 : decode cL_law 106 = .ok (.iconst 3, 1) ∧ 107 = 106 + 1 := op_6 (rb2 6 rfl) rfl
theorem dL_law_107 : decode cL_law 107 = .ok (.iand, 1) ∧ 108 = 107 + 1 := op_126 (rb2 7 rfl) rfl
theorem dL_law_108 : decode cL_law 108 = .ok (.iconst 3, 1) ∧ 109 = 108 + 1 := op_6 (rb2 8 rfl) rfl
theorem dL_law_109 : decode cL_law 109 = .ok (.irem, 1) ∧ 110 = 109 + 1 := op_112 (rb2 9 rfl) rfl
theorem dL_law_110 : decode cL_law 110 = .ok (.istore 5, 2) ∧ 112 = 110 + 2 := op_54 (rb2 10 rfl) (rb2 11 rfl) rfl
theorem dL_law_112 : decode cL_law 112 = .ok (.iload 4, 2) ∧ 114 = 112 + 2 := op_21 (rb2 12 rfl) (rb2 13 rfl) rfl
theorem dL_law_114 : decode cL_law 114 = .ok (.bipush 6, 2) ∧ 116 = 114 + 2 := op_16 (rb2 14 rfl) (rb2 15 rfl) rfl rfl
theorem dL_law_116 : decode cL_law 116 = .ok (.iushr, 1) ∧ 117 = 116 + 1 := op_124 (rb2 16 rfl) rfl
theorem dL_law_117 : decode cL_law 117 = .ok (.iconst 3, 1) ∧ 118 = 117 + 1 := op_6 (rb2 17 rfl) rfl
theorem dL_law_118 : decode cL_law 118 = .ok (.iand, 1) ∧ 119 = 118 + 1 := op_126 (rb2 18 rfl) rfl
theorem dL_law_119 : decode cL_law 119 = .ok (.istore 6, 2) ∧ 121 = 119 + 2 := op_54 (rb2 19 rfl) (rb2 20 rfl) rfl
theorem dL_law_121 : decode cL_law 121 = .ok (.iload 4, 2) ∧ 123 = 121 + 2 := op_21 (rb2 21 rfl) (rb2 22 rfl) rfl
theorem dL_law_123 : decode cL_law 123 = .ok (.bipush 8, 2) ∧ 125 = 123 + 2 := op_16 (rb2 23 rfl) (rb2 24 rfl) rfl rfl
theorem dL_law_125 : decode cL_law 125 = .ok (.iushr, 1) ∧ 126 = 125 + 1 := op_124 (rb2 25 rfl) rfl
theorem dL_law_126 : decode cL_law 126 = .ok (.iconst 1, 1) ∧ 127 = 126 + 1 := op_4 (rb2 26 rfl) rfl
theorem dL_law_127 : decode cL_law 127 = .ok (.iand, 1) ∧ 128 = 127 + 1 := op_126 (rb2 27 rfl) rfl
theorem dL_law_128 : decode cL_law 128 = .ok (.istore 7, 2) ∧ 130 = 128 + 2 := op_54 (rb2 28 rfl) (rb2 29 rfl) rfl
theorem dL_law_130 : decode cL_law 130 = .ok (.iload 4, 2) ∧ 132 = 130 + 2 := op_21 (rb2 30 rfl) (rb2 31 rfl) rfl
theorem dL_law_132 : decode cL_law 132 = .ok (.bipush 9, 2) ∧ 134 = 132 + 2 := op_16 (rb2 32 rfl) (rb2 33 rfl) rfl rfl
theorem dL_law_134 : decode cL_law 134 = .ok (.iushr, 1) ∧ 135 = 134 + 1 := op_124 (rb2 34 rfl) rfl
theorem dL_law_135 : decode cL_law 135 = .ok (.bipush 7, 2) ∧ 137 = 135 + 2 := op_16 (rb2 35 rfl) (rb2 36 rfl) rfl rfl
theorem dL_law_137 : decode cL_law 137 = .ok (.iand, 1) ∧ 138 = 137 + 1 := op_126 (rb2 37 rfl) rfl
theorem dL_law_138 : decode cL_law 138 = .ok (.iconst 5, 1) ∧ 139 = 138 + 1 := op_8 (rb2 38 rfl) rfl
theorem dL_law_139 : decode cL_law 139 = .ok (.irem, 1) ∧ 140 = 139 + 1 := op_112 (rb2 39 rfl) rfl
theorem dL_law_140 : decode cL_law 140 = .ok (.istore 8, 2) ∧ 142 = 140 + 2 := op_54 (rb2 40 rfl) (rb2 41 rfl) rfl
theorem dL_law_142 : decode cL_law 142 = .ok (.iload 4, 2) ∧ 144 = 142 + 2 := op_21 (rb2 42 rfl) (rb2 43 rfl) rfl
theorem dL_law_144 : decode cL_law 144 = .ok (.bipush 12, 2) ∧ 146 = 144 + 2 := op_16 (rb2 44 rfl) (rb2 45 rfl) rfl rfl
theorem dL_law_146 : decode cL_law 146 = .ok (.iushr, 1) ∧ 147 = 146 + 1 := op_124 (rb2 46 rfl) rfl
theorem dL_law_147 : decode cL_law 147 = .ok (.bipush 63, 2) ∧ 149 = 147 + 2 := op_16 (rb2 47 rfl) (rb2 48 rfl) rfl rfl
theorem dL_law_149 : decode cL_law 149 = .ok (.iand, 1) ∧ 150 = 149 + 1 := op_126 (rb2 49 rfl) rfl
theorem dL_law_150 : decode cL_law 150 = .ok (.istore 9, 2) ∧ 152 = 150 + 2 := op_54 (rb3 0 rfl) (rb3 1 rfl) rfl
theorem dL_law_152 : decode cL_law 152 = .ok (.aload_n 1, 1) ∧ 153 = 152 + 1 := op_43 (rb3 2 rfl) rfl
theorem dL_law_153 : decode cL_law 153 = .ok (.invokevirtual 119, 3) ∧ 156 = 153 + 3 := op_182 (rb3 3 rfl) (rb3 4 rfl) (rb3 5 rfl) rfl
theorem dL_law_156 : decode cL_law 156 = .ok (.istore 10, 2) ∧ 158 = 156 + 2 := op_54 (rb3 6 rfl) (rb3 7 rfl) rfl
theorem dL_law_158 : decode cL_law 158 = .ok (.aload_n 1, 1) ∧ 159 = 158 + 1 := op_43 (rb3 8 rfl) rfl
theorem dL_law_159 : decode cL_law 159 = .ok (.iconst 4, 1) ∧ 160 = 159 + 1 := op_7 (rb3 9 rfl) rfl
theorem dL_law_160 : decode cL_law 160 = .ok (.invokevirtual 78, 3) ∧ 163 = 160 + 3 := op_182 (rb3 10 rfl) (rb3 11 rfl) (rb3 12 rfl) rfl
theorem dL_law_163 : decode cL_law 163 = .ok (.istore 11, 2) ∧ 165 = 163 + 2 := op_54 (rb3 13 rfl) (rb3 14 rfl) rfl
theorem dL_law_165 : decode cL_law 165 = .ok (.aload_n 1, 1) ∧ 166 = 165 + 1 := op_43 (rb3 15 rfl) rfl
theorem dL_law_166 : decode cL_law 166 = .ok (.iconst 5, 1) ∧ 167 = 166 + 1 := op_8 (rb3 16 rfl) rfl
theorem dL_law_167 : decode cL_law 167 = .ok (.invokevirtual 78, 3) ∧ 170 = 167 + 3 := op_182 (rb3 17 rfl) (rb3 18 rfl) (rb3 19 rfl) rfl
theorem dL_law_170 : decode cL_law 170 = .ok (.istore 12, 2) ∧ 172 = 170 + 2 := op_54 (rb3 20 rfl) (rb3 21 rfl) rfl
theorem dL_law_172 : decode cL_law 172 = .ok (.aload_n 1, 1) ∧ 173 = 172 + 1 := op_43 (rb3 22 rfl) rfl
theorem dL_law_173 : decode cL_law 173 = .ok (.bipush 6, 2) ∧ 175 = 173 + 2 := op_16 (rb3 23 rfl) (rb3 24 rfl) rfl rfl
theorem dL_law_175 : decode cL_law 175 = .ok (.invokevirtual 78, 3) ∧ 178 = 175 + 3 := op_182 (rb3 25 rfl) (rb3 26 rfl) (rb3 27 rfl) rfl
theorem dL_law_178 : decode cL_law 178 = .ok (.istore 13, 2) ∧ 180 = 178 + 2 := op_54 (rb3 28 rfl) (rb3 29 rfl) rfl
theorem dL_law_180 : decode cL_law 180 = .ok (.aload_n 1, 1) ∧ 181 = 180 + 1 := op_43 (rb3 30 rfl) rfl
theorem dL_law_181 : decode cL_law 181 = .ok (.iload 8, 2) ∧ 183 = 181 + 2 := op_21 (rb3 31 rfl) (rb3 32 rfl) rfl
theorem dL_law_183 : decode cL_law 183 = .ok (.iconst 1, 1) ∧ 184 = 183 + 1 := op_4 (rb3 33 rfl) rfl
theorem dL_law_184 : decode cL_law 184 = .ok (.invokevirtual 81, 3) ∧ 187 = 184 + 3 := op_182 (rb3 34 rfl) (rb3 35 rfl) (rb3 36 rfl) rfl
theorem dL_law_187 : decode cL_law 187 = .ok (.istore 14, 2) ∧ 189 = 187 + 2 := op_54 (rb3 37 rfl) (rb3 38 rfl) rfl
theorem dL_law_189 : decode cL_law 189 = .ok (.aload_n 1, 1) ∧ 190 = 189 + 1 := op_43 (rb3 39 rfl) rfl
theorem dL_law_190 : decode cL_law 190 = .ok (.iload 6, 2) ∧ 192 = 190 + 2 := op_21 (rb3 40 rfl) (rb3 41 rfl) rfl
theorem dL_law_192 : decode cL_law 192 = .ok (.iconst 3, 1) ∧ 193 = 192 + 1 := op_6 (rb3 42 rfl) rfl
theorem dL_law_193 : decode cL_law 193 = .ok (.invokevirtual 87, 3) ∧ 196 = 193 + 3 := op_182 (rb3 43 rfl) (rb3 44 rfl) (rb3 45 rfl) rfl
theorem dL_law_196 : decode cL_law 196 = .ok (.istore 15, 2) ∧ 198 = 196 + 2 := op_54 (rb3 46 rfl) (rb3 47 rfl) rfl
theorem dL_law_198 : decode cL_law 198 = .ok (.aload_n 1, 1) ∧ 199 = 198 + 1 := op_43 (rb3 48 rfl) rfl
theorem dL_law_199 : decode cL_law 199 = .ok (.iload 5, 2) ∧ 201 = 199 + 2 := op_21 (rb3 49 rfl) (rb4 0 rfl) rfl
theorem dL_law_201 : decode cL_law 201 = .ok (.invokevirtual 34, 3) ∧ 204 = 201 + 3 := op_182 (rb4 1 rfl) (rb4 2 rfl) (rb4 3 rfl) rfl
theorem dL_law_204 : decode cL_law 204 = .ok (.lstore 17, 2) ∧ 206 = 204 + 2 := op_55 (rb4 4 rfl) (rb4 5 rfl) rfl
theorem dL_law_206 : decode cL_law 206 = .ok (.iconst 1, 1) ∧ 207 = 206 + 1 := op_4 (rb4 6 rfl) rfl
theorem dL_law_207 : decode cL_law 207 = .ok (.istore 19, 2) ∧ 209 = 207 + 2 := op_54 (rb4 7 rfl) (rb4 8 rfl) rfl
theorem dL_law_209 : decode cL_law 209 = .ok (.iload 4, 2) ∧ 211 = 209 + 2 := op_21 (rb4 9 rfl) (rb4 10 rfl) rfl
theorem dL_law_211 : decode cL_law 211 = .ok (.bipush 15, 2) ∧ 213 = 211 + 2 := op_16 (rb4 11 rfl) (rb4 12 rfl) rfl rfl
theorem dL_law_213 : decode cL_law 213 = .ok (.iand, 1) ∧ 214 = 213 + 1 := op_126 (rb4 13 rfl) rfl
theorem dL_law_214 : decode cL_law 214 = .ok (.tableswitch 622 0 13 #[70, 70, 70, 138, 202, 202, 271, 322, 322, 322, 413, 440, 471, 510], 70) ∧ 284 = 214 + 70 := ⟨by decide +kernel, rfl⟩
theorem dL_law_284 : decode cL_law 284 = .ok (.aload_n 1, 1) ∧ 285 = 284 + 1 := op_43 (rb5 34 rfl) rfl
theorem dL_law_285 : decode cL_law 285 = .ok (.iload 6, 2) ∧ 287 = 285 + 2 := op_21 (rb5 35 rfl) (rb5 36 rfl) rfl
theorem dL_law_287 : decode cL_law 287 = .ok (.invokevirtual 84, 3) ∧ 290 = 287 + 3 := op_182 (rb5 37 rfl) (rb5 38 rfl) (rb5 39 rfl) rfl
theorem dL_law_290 : decode cL_law 290 = .ok (.ifCond .ne 7, 3) ∧ 293 = 290 + 3 := op_154 (rb5 40 rfl) (rb5 41 rfl) (rb5 42 rfl) rfl rfl
theorem dL_law_293 : decode cL_law 293 = .ok (.iconst 1, 1) ∧ 294 = 293 + 1 := op_4 (rb5 43 rfl) rfl
theorem dL_law_294 : decode cL_law 294 = .ok (.goto 4, 3) ∧ 297 = 294 + 3 := op_167 (rb5 44 rfl) (rb5 45 rfl) (rb5 46 rfl) rfl rfl
theorem dL_law_297 : decode cL_law 297 = .ok (.iconst 0, 1) ∧ 298 = 297 + 1 := op_3 (rb5 47 rfl) rfl
theorem dL_law_298 : decode cL_law 298 = .ok (.istore 19, 2) ∧ 300 = 298 + 2 := op_54 (rb5 48 rfl) (rb5 49 rfl) rfl
theorem dL_law_300 : decode cL_law 300 = .ok (.aload_n 1, 1) ∧ 301 = 300 + 1 := op_43 (rb6 0 rfl) rfl
theorem dL_law_301 : decode cL_law 301 = .ok (.iload 6, 2) ∧ 303 = 301 + 2 := op_21 (rb6 1 rfl) (rb6 2 rfl) rfl
theorem dL_law_303 : decode cL_law 303 = .ok (.bipush 6, 2) ∧ 305 = 303 + 2 := op_16 (rb6 3 rfl) (rb6 4 rfl) rfl rfl
theorem dL_law_305 : decode cL_law 305 = .ok (.invokevirtual 87, 3) ∧ 308 = 305 + 3 := op_182 (rb6 5 rfl) (rb6 6 rfl) (rb6 7 rfl) rfl
theorem dL_law_308 : decode cL_law 308 = .ok (.istore 20, 2) ∧ 310 = 308 + 2 := op_54 (rb6 8 rfl) (rb6 9 rfl) rfl
theorem dL_law_310 : decode cL_law 310 = .ok (.iload 19, 2) ∧ 312 = 310 + 2 := op_21 (rb6 10 rfl) (rb6 11 rfl) rfl
theorem dL_law_312 : decode cL_law 312 = .ok (.ifCond .eq 12, 3) ∧ 315 = 312 + 3 := op_153 (rb6 12 rfl) (rb6 13 rfl) (rb6 14 rfl) rfl rfl
theorem dL_law_315 : decode cL_law 315 = .ok (.aload_n 1, 1) ∧ 316 = 315 + 1 := op_43 (rb6 15 rfl) rfl
theorem dL_law_316 : decode cL_law 316 = .ok (.iload 6, 2) ∧ 318 = 316 + 2 := op_21 (rb6 16 rfl) (rb6 17 rfl) rfl
theorem dL_law_318 : decode cL_law 318 = .ok (.invokevirtual 122, 3) ∧ 321 = 318 + 3 := op_182 (rb6 18 rfl) (rb6 19 rfl) (rb6 20 rfl) rfl
theorem dL_law_321 : decode cL_law 321 = .ok (.goto 4, 3) ∧ 324 = 321 + 3 := op_167 (rb6 21 rfl) (rb6 22 rfl) (rb6 23 rfl) rfl rfl
theorem dL_law_324 : decode cL_law 324 = .ok (.iconst 0, 1) ∧ 325 = 324 + 1 := op_3 (rb6 24 rfl) rfl
theorem dL_law_325 : decode cL_law 325 = .ok (.istore 16, 2) ∧ 327 = 325 + 2 := op_54 (rb6 25 rfl) (rb6 26 rfl) rfl
theorem dL_law_327 : decode cL_law 327 = .ok (.iload 19, 2) ∧ 329 = 327 + 2 := op_21 (rb6 27 rfl) (rb6 28 rfl) rfl
theorem dL_law_329 : decode cL_law 329 = .ok (.ifCond .eq 688, 3) ∧ 332 = 329 + 3 := op_153 (rb6 29 rfl) (rb6 30 rfl) (rb6 31 rfl) rfl rfl
theorem dL_law_332 : decode cL_law 332 = .ok (.iload 16, 2) ∧ 334 = 332 + 2 := op_21 (rb6 32 rfl) (rb6 33 rfl) rfl
theorem dL_law_334 : decode cL_law 334 = .ok (.iload 20, 2) ∧ 336 = 334 + 2 := op_21 (rb6 34 rfl) (rb6 35 rfl) rfl
theorem dL_law_336 : decode cL_law 336 = .ok (.if_icmp .ne 14, 3) ∧ 339 = 336 + 3 := op_160 (rb6 36 rfl) (rb6 37 rfl) (rb6 38 rfl) rfl rfl
theorem dL_law_339 : decode cL_law 339 = .ok (.aload_n 1, 1) ∧ 340 = 339 + 1 := op_43 (rb6 39 rfl) rfl
theorem dL_law_340 : decode cL_law 340 = .ok (.iload 6, 2) ∧ 342 = 340 + 2 := op_21 (rb6 40 rfl) (rb6 41 rfl) rfl
theorem dL_law_342 : decode cL_law 342 = .ok (.iconst 4, 1) ∧ 343 = 342 + 1 := op_7 (rb6 42 rfl) rfl
theorem dL_law_343 : decode cL_law 343 = .ok (.invokevirtual 87, 3) ∧ 346 = 343 + 3 := op_182 (rb6 43 rfl) (rb6 44 rfl) (rb6 45 rfl) rfl
theorem dL_law_346 : decode cL_law 346 = .ok (.iconst 1, 1) ∧ 347 = 346 + 1 := op_4 (rb6 46 rfl) rfl
theorem dL_law_347 : decode cL_law 347 = .ok (.if_icmp .eq 670, 3) ∧ 350 = 347 + 3 := op_159 (rb6 47 rfl) (rb6 48 rfl) (rb6 49 rfl) rfl rfl
theorem dL_law_350 : decode cL_law 350 = .ok (.iconst 0, 1) ∧ 351 = 350 + 1 := op_3 (rb7 0 rfl) rfl
theorem dL_law_351 : decode cL_law 351 = .ok (.ireturn, 1) ∧ 352 = 351 + 1 := op_172 (rb7 1 rfl) rfl
theorem dL_law_352 : decode cL_law 352 = .ok (.aload_n 1, 1) ∧ 353 = 352 + 1 := op_43 (rb7 2 rfl) rfl
theorem dL_law_353 : decode cL_law 353 = .ok (.iload 6, 2) ∧ 355 = 353 + 2 := op_21 (rb7 3 rfl) (rb7 4 rfl) rfl
theorem dL_law_355 : decode cL_law 355 = .ok (.invokevirtual 84, 3) ∧ 358 = 355 + 3 := op_182 (rb7 5 rfl) (rb7 6 rfl) (rb7 7 rfl) rfl
theorem dL_law_358 : decode cL_law 358 = .ok (.iconst 1, 1) ∧ 359 = 358 + 1 := op_4 (rb7 8 rfl) rfl
theorem dL_law_359 : decode cL_law 359 = .ok (.if_icmp .ne 7, 3) ∧ 362 = 359 + 3 := op_160 (rb7 9 rfl) (rb7 10 rfl) (rb7 11 rfl) rfl rfl
theorem dL_law_362 : decode cL_law 362 = .ok (.iconst 1, 1) ∧ 363 = 362 + 1 := op_4 (rb7 12 rfl) rfl
theorem dL_law_363 : decode cL_law 363 = .ok (.goto 4, 3) ∧ 366 = 363 + 3 := op_167 (rb7 13 rfl) (rb7 14 rfl) (rb7 15 rfl) rfl rfl
theorem dL_law_366 : decode cL_law 366 = .ok (.iconst 0, 1) ∧ 367 = 366 + 1 := op_3 (rb7 16 rfl) rfl
theorem dL_law_367 : decode cL_law 367 = .ok (.istore 19, 2) ∧ 369 = 367 + 2 := op_54 (rb7 17 rfl) (rb7 18 rfl) rfl
theorem dL_law_369 : decode cL_law 369 = .ok (.iload 19, 2) ∧ 371 = 369 + 2 := op_21 (rb7 19 rfl) (rb7 20 rfl) rfl
theorem dL_law_371 : decode cL_law 371 = .ok (.ifCond .eq 12, 3) ∧ 374 = 371 + 3 := op_153 (rb7 21 rfl) (rb7 22 rfl) (rb7 23 rfl) rfl rfl
theorem dL_law_374 : decode cL_law 374 = .ok (.aload_n 1, 1) ∧ 375 = 374 + 1 := op_43 (rb7 24 rfl) rfl
theorem dL_law_375 : decode cL_law 375 = .ok (.iload 6, 2) ∧ 377 = 375 + 2 := op_21 (rb7 25 rfl) (rb7 26 rfl) rfl
theorem dL_law_377 : decode cL_law 377 = .ok (.invokevirtual 125, 3) ∧ 380 = 377 + 3 := op_182 (rb7 27 rfl) (rb7 28 rfl) (rb7 29 rfl) rfl
theorem dL_law_380 : decode cL_law 380 = .ok (.goto 4, 3) ∧ 383 = 380 + 3 := op_167 (rb7 30 rfl) (rb7 31 rfl) (rb7 32 rfl) rfl rfl
theorem dL_law_383 : decode cL_law 383 = .ok (.iconst 0, 1) ∧ 384 = 383 + 1 := op_3 (rb7 33 rfl) rfl
theorem dL_law_384 : decode cL_law 384 = .ok (.istore 16, 2) ∧ 386 = 384 + 2 := op_54 (rb7 34 rfl) (rb7 35 rfl) rfl
theorem dL_law_386 : decode cL_law 386 = .ok (.iload 19, 2) ∧ 388 = 386 + 2 := op_21 (rb7 36 rfl) (rb7 37 rfl) rfl
theorem dL_law_388 : decode cL_law 388 = .ok (.ifCond .eq 629, 3) ∧ 391 = 388 + 3 := op_153 (rb7 38 rfl) (rb7 39 rfl) (rb7 40 rfl) rfl rfl
theorem dL_law_391 : decode cL_law 391 = .ok (.iload 16, 2) ∧ 393 = 391 + 2 := op_21 (rb7 41 rfl) (rb7 42 rfl) rfl
theorem dL_law_393 : decode cL_law 393 = .ok (.aload_n 1, 1) ∧ 394 = 393 + 1 := op_43 (rb7 43 rfl) rfl
theorem dL_law_394 : decode cL_law 394 = .ok (.iload 6, 2) ∧ 396 = 394 + 2 := op_21 (rb7 44 rfl) (rb7 45 rfl) rfl
theorem dL_law_396 : decode cL_law 396 = .ok (.bipush 6, 2) ∧ 398 = 396 + 2 := op_16 (rb7 46 rfl) (rb7 47 rfl) rfl rfl
theorem dL_law_398 : decode cL_law 398 = .ok (.invokevirtual 87, 3) ∧ 401 = 398 + 3 := op_182 (rb7 48 rfl) (rb7 49 rfl) (rb8 0 rfl) rfl
theorem dL_law_401 : decode cL_law 401 = .ok (.if_icmp .ne 13, 3) ∧ 404 = 401 + 3 := op_160 (rb8 1 rfl) (rb8 2 rfl) (rb8 3 rfl) rfl rfl
theorem dL_law_404 : decode cL_law 404 = .ok (.aload_n 1, 1) ∧ 405 = 404 + 1 := op_43 (rb8 4 rfl) rfl
theorem dL_law_405 : decode cL_law 405 = .ok (.iload 6, 2) ∧ 407 = 405 + 2 := op_21 (rb8 5 rfl) (rb8 6 rfl) rfl
theorem dL_law_407 : decode cL_law 407 = .ok (.iconst 4, 1) ∧ 408 = 407 + 1 := op_7 (rb8 7 rfl) rfl
theorem dL_law_408 : decode cL_law 408 = .ok (.invokevirtual 87, 3) ∧ 411 = 408 + 3 := op_182 (rb8 8 rfl) (rb8 9 rfl) (rb8 10 rfl) rfl
theorem dL_law_411 : decode cL_law 411 = .ok (.ifCond .eq 606, 3) ∧ 414 = 411 + 3 := op_153 (rb8 11 rfl) (rb8 12 rfl) (rb8 13 rfl) rfl rfl
theorem dL_law_414 : decode cL_law 414 = .ok (.iconst 0, 1) ∧ 415 = 414 + 1 := op_3 (rb8 14 rfl) rfl
theorem dL_law_415 : decode cL_law 415 = .ok (.ireturn, 1) ∧ 416 = 415 + 1 := op_172 (rb8 15 rfl) rfl
theorem dL_law_416 : decode cL_law 416 = .ok (.aload_n 1, 1) ∧ 417 = 416 + 1 := op_43 (rb8 16 rfl) rfl
theorem dL_law_417 : decode cL_law 417 = .ok (.iload 7, 2) ∧ 419 = 417 + 2 := op_21 (rb8 17 rfl) (rb8 18 rfl) rfl
theorem dL_law_419 : decode cL_law 419 = .ok (.invokevirtual 93, 3) ∧ 422 = 419 + 3 := op_182 (rb8 19 rfl) (rb8 20 rfl) (rb8 21 rfl) rfl
theorem dL_law_422 : decode cL_law 422 = .ok (.ifCond .ne 7, 3) ∧ 425 = 422 + 3 := op_154 (rb8 22 rfl) (rb8 23 rfl) (rb8 24 rfl) rfl rfl
theorem dL_law_425 : decode cL_law 425 = .ok (.iconst 1, 1) ∧ 426 = 425 + 1 := op_4 (rb8 25 rfl) rfl
theorem dL_law_426 : decode cL_law 426 = .ok (.goto 4, 3) ∧ 429 = 426 + 3 := op_167 (rb8 26 rfl) (rb8 27 rfl) (rb8 28 rfl) rfl rfl
theorem dL_law_429 : decode cL_law 429 = .ok (.iconst 0, 1) ∧ 430 = 429 + 1 := op_3 (rb8 29 rfl) rfl
theorem dL_law_430 : decode cL_law 430 = .ok (.istore 19, 2) ∧ 432 = 430 + 2 := op_54 (rb8 30 rfl) (rb8 31 rfl) rfl
theorem dL_law_432 : decode cL_law 432 = .ok (.iload 19, 2) ∧ 434 = 432 + 2 := op_21 (rb8 32 rfl) (rb8 33 rfl) rfl
theorem dL_law_434 : decode cL_law 434 = .ok (.ifCond .eq 12, 3) ∧ 437 = 434 + 3 := op_153 (rb8 34 rfl) (rb8 35 rfl) (rb8 36 rfl) rfl rfl
theorem dL_law_437 : decode cL_law 437 = .ok (.aload_n 1, 1) ∧ 438 = 437 + 1 := op_43 (rb8 37 rfl) rfl
theorem dL_law_438 : decode cL_law 438 = .ok (.iload 7, 2) ∧ 440 = 438 + 2 := op_21 (rb8 38 rfl) (rb8 39 rfl) rfl
theorem dL_law_440 : decode cL_law 440 = .ok (.invokevirtual 128, 3) ∧ 443 = 440 + 3 := op_182 (rb8 40 rfl) (rb8 41 rfl) (rb8 42 rfl) rfl
theorem dL_law_443 : decode cL_law 443 = .ok (.goto 4, 3) ∧ 446 = 443 + 3 := op_167 (rb8 43 rfl) (rb8 44 rfl) (rb8 45 rfl) rfl rfl
theorem dL_law_446 : decode cL_law 446 = .ok (.iconst 0, 1) ∧ 447 = 446 + 1 := op_3 (rb8 46 rfl) rfl
theorem dL_law_447 : decode cL_law 447 = .ok (.istore 16, 2) ∧ 449 = 447 + 2 := op_54 (rb8 47 rfl) (rb8 48 rfl) rfl
theorem dL_law_449 : decode cL_law 449 = .ok (.iload 19, 2) ∧ 451 = 449 + 2 := op_21 (rb8 49 rfl) (rb9 0 rfl) rfl
theorem dL_law_451 : decode cL_law 451 = .ok (.ifCond .eq 566, 3) ∧ 454 = 451 + 3 := op_153 (rb9 1 rfl) (rb9 2 rfl) (rb9 3 rfl) rfl rfl
theorem dL_law_454 : decode cL_law 454 = .ok (.iload 16, 2) ∧ 456 = 454 + 2 := op_21 (rb9 4 rfl) (rb9 5 rfl) rfl
theorem dL_law_456 : decode cL_law 456 = .ok (.aload_n 1, 1) ∧ 457 = 456 + 1 := op_43 (rb9 6 rfl) rfl
theorem dL_law_457 : decode cL_law 457 = .ok (.aload_n 1, 1) ∧ 458 = 457 + 1 := op_43 (rb9 7 rfl) rfl
theorem dL_law_458 : decode cL_law 458 = .ok (.iload 7, 2) ∧ 460 = 458 + 2 := op_21 (rb9 8 rfl) (rb9 9 rfl) rfl
theorem dL_law_460 : decode cL_law 460 = .ok (.iconst 0, 1) ∧ 461 = 460 + 1 := op_3 (rb9 10 rfl) rfl
theorem dL_law_461 : decode cL_law 461 = .ok (.invokevirtual 96, 3) ∧ 464 = 461 + 3 := op_182 (rb9 11 rfl) (rb9 12 rfl) (rb9 13 rfl) rfl
theorem dL_law_464 : decode cL_law 464 = .ok (.iconst 3, 1) ∧ 465 = 464 + 1 := op_6 (rb9 14 rfl) rfl
theorem dL_law_465 : decode cL_law 465 = .ok (.invokevirtual 27, 3) ∧ 468 = 465 + 3 := op_182 (rb9 15 rfl) (rb9 16 rfl) (rb9 17 rfl) rfl
theorem dL_law_468 : decode cL_law 468 = .ok (.if_icmp .ne 15, 3) ∧ 471 = 468 + 3 := op_160 (rb9 18 rfl) (rb9 19 rfl) (rb9 20 rfl) rfl rfl
theorem dL_law_471 : decode cL_law 471 = .ok (.aload_n 1, 1) ∧ 472 = 471 + 1 := op_43 (rb9 21 rfl) rfl
theorem dL_law_472 : decode cL_law 472 = .ok (.iload 7, 2) ∧ 474 = 472 + 2 := op_21 (rb9 22 rfl) (rb9 23 rfl) rfl
theorem dL_law_474 : decode cL_law 474 = .ok (.bipush 6, 2) ∧ 476 = 474 + 2 := op_16 (rb9 24 rfl) (rb9 25 rfl) rfl rfl
theorem dL_law_476 : decode cL_law 476 = .ok (.invokevirtual 96, 3) ∧ 479 = 476 + 3 := op_182 (rb9 26 rfl) (rb9 27 rfl) (rb9 28 rfl) rfl
theorem dL_law_479 : decode cL_law 479 = .ok (.iconst 1, 1) ∧ 480 = 479 + 1 := op_4 (rb9 29 rfl) rfl
theorem dL_law_480 : decode cL_law 480 = .ok (.if_icmp .eq 537, 3) ∧ 483 = 480 + 3 := op_159 (rb9 30 rfl) (rb9 31 rfl) (rb9 32 rfl) rfl rfl
theorem dL_law_483 : decode cL_law 483 = .ok (.iconst 0, 1) ∧ 484 = 483 + 1 := op_3 (rb9 33 rfl) rfl
theorem dL_law_484 : decode cL_law 484 = .ok (.ireturn, 1) ∧ 485 = 484 + 1 := op_172 (rb9 34 rfl) rfl
theorem dL_law_485 : decode cL_law 485 = .ok (.aload_n 1, 1) ∧ 486 = 485 + 1 := op_43 (rb9 35 rfl) rfl
theorem dL_law_486 : decode cL_law 486 = .ok (.iload 7, 2) ∧ 488 = 486 + 2 := op_21 (rb9 36 rfl) (rb9 37 rfl) rfl
theorem dL_law_488 : decode cL_law 488 = .ok (.invokevirtual 93, 3) ∧ 491 = 488 + 3 := op_182 (rb9 38 rfl) (rb9 39 rfl) (rb9 40 rfl) rfl
theorem dL_law_491 : decode cL_law 491 = .ok (.iconst 1, 1) ∧ 492 = 491 + 1 := op_4 (rb9 41 rfl) rfl
theorem dL_law_492 : decode cL_law 492 = .ok (.if_icmp .ne 7, 3) ∧ 495 = 492 + 3 := op_160 (rb9 42 rfl) (rb9 43 rfl) (rb9 44 rfl) rfl rfl
theorem dL_law_495 : decode cL_law 495 = .ok (.iconst 1, 1) ∧ 496 = 495 + 1 := op_4 (rb9 45 rfl) rfl
theorem dL_law_496 : decode cL_law 496 = .ok (.goto 4, 3) ∧ 499 = 496 + 3 := op_167 (rb9 46 rfl) (rb9 47 rfl) (rb9 48 rfl) rfl rfl
theorem dL_law_499 : decode cL_law 499 = .ok (.iconst 0, 1) ∧ 500 = 499 + 1 := op_3 (rb9 49 rfl) rfl
theorem dL_law_500 : decode cL_law 500 = .ok (.istore 19, 2) ∧ 502 = 500 + 2 := op_54 (rb10 0 rfl) (rb10 1 rfl) rfl
theorem dL_law_502 : decode cL_law 502 = .ok (.iload 19, 2) ∧ 504 = 502 + 2 := op_21 (rb10 2 rfl) (rb10 3 rfl) rfl
theorem dL_law_504 : decode cL_law 504 = .ok (.ifCond .eq 12, 3) ∧ 507 = 504 + 3 := op_153 (rb10 4 rfl) (rb10 5 rfl) (rb10 6 rfl) rfl rfl
theorem dL_law_507 : decode cL_law 507 = .ok (.aload_n 1, 1) ∧ 508 = 507 + 1 := op_43 (rb10 7 rfl) rfl
theorem dL_law_508 : decode cL_law 508 = .ok (.iload 7, 2) ∧ 510 = 508 + 2 := op_21 (rb10 8 rfl) (rb10 9 rfl) rfl
theorem dL_law_510 : decode cL_law 510 = .ok (.invokevirtual 131, 3) ∧ 513 = 510 + 3 := op_182 (rb10 10 rfl) (rb10 11 rfl) (rb10 12 rfl) rfl
theorem dL_law_513 : decode cL_law 513 = .ok (.goto 4, 3) ∧ 516 = 513 + 3 := op_167 (rb10 13 rfl) (rb10 14 rfl) (rb10 15 rfl) rfl rfl
theorem dL_law_516 : decode cL_law 516 = .ok (.iconst 0, 1) ∧ 517 = 516 + 1 := op_3 (rb10 16 rfl) rfl
theorem dL_law_517 : decode cL_law 517 = .ok (.istore 16, 2) ∧ 519 = 517 + 2 := op_54 (rb10 17 rfl) (rb10 18 rfl) rfl
theorem dL_law_519 : decode cL_law 519 = .ok (.iload 19, 2) ∧ 521 = 519 + 2 := op_21 (rb10 19 rfl) (rb10 20 rfl) rfl
theorem dL_law_521 : decode cL_law 521 = .ok (.ifCond .eq 496, 3) ∧ 524 = 521 + 3 := op_153 (rb10 21 rfl) (rb10 22 rfl) (rb10 23 rfl) rfl rfl
theorem dL_law_524 : decode cL_law 524 = .ok (.aload_n 1, 1) ∧ 525 = 524 + 1 := op_43 (rb10 24 rfl) rfl
theorem dL_law_525 : decode cL_law 525 = .ok (.iload 7, 2) ∧ 527 = 525 + 2 := op_21 (rb10 25 rfl) (rb10 26 rfl) rfl
theorem dL_law_527 : decode cL_law 527 = .ok (.invokevirtual 93, 3) ∧ 530 = 527 + 3 := op_182 (rb10 27 rfl) (rb10 28 rfl) (rb10 29 rfl) rfl
theorem dL_law_530 : decode cL_law 530 = .ok (.iconst 1, 1) ∧ 531 = 530 + 1 := op_4 (rb10 30 rfl) rfl
theorem dL_law_531 : decode cL_law 531 = .ok (.if_icmp .ne 486, 3) ∧ 534 = 531 + 3 := op_160 (rb10 31 rfl) (rb10 32 rfl) (rb10 33 rfl) rfl rfl
theorem dL_law_534 : decode cL_law 534 = .ok (.iconst 0, 1) ∧ 535 = 534 + 1 := op_3 (rb10 34 rfl) rfl
theorem dL_law_535 : decode cL_law 535 = .ok (.ireturn, 1) ∧ 536 = 535 + 1 := op_172 (rb10 35 rfl) rfl
theorem dL_law_536 : decode cL_law 536 = .ok (.aload_n 1, 1) ∧ 537 = 536 + 1 := op_43 (rb10 36 rfl) rfl
theorem dL_law_537 : decode cL_law 537 = .ok (.iload 5, 2) ∧ 539 = 537 + 2 := op_21 (rb10 37 rfl) (rb10 38 rfl) rfl
theorem dL_law_539 : decode cL_law 539 = .ok (.iconst 1, 1) ∧ 540 = 539 + 1 := op_4 (rb10 39 rfl) rfl
theorem dL_law_540 : decode cL_law 540 = .ok (.iload 9, 2) ∧ 542 = 540 + 2 := op_21 (rb10 40 rfl) (rb10 41 rfl) rfl
theorem dL_law_542 : decode cL_law 542 = .ok (.iadd, 1) ∧ 543 = 542 + 1 := op_96 (rb10 42 rfl) rfl
theorem dL_law_543 : decode cL_law 543 = .ok (.invokevirtual 45, 3) ∧ 546 = 543 + 3 := op_182 (rb10 43 rfl) (rb10 44 rfl) (rb10 45 rfl) rfl
theorem dL_law_546 : decode cL_law 546 = .ok (.istore 20, 2) ∧ 548 = 546 + 2 := op_54 (rb10 46 rfl) (rb10 47 rfl) rfl
theorem dL_law_548 : decode cL_law 548 = .ok (.aload_n 1, 1) ∧ 549 = 548 + 1 := op_43 (rb10 48 rfl) rfl
theorem dL_law_549 : decode cL_law 549 = .ok (.iconst 1, 1) ∧ 550 = 549 + 1 := op_4 (rb10 49 rfl) rfl
theorem dL_law_550 : decode cL_law 550 = .ok (.iload 9, 2) ∧ 552 = 550 + 2 := op_21 (rb11 0 rfl) (rb11 1 rfl) rfl
theorem dL_law_552 : decode cL_law 552 = .ok (.iadd, 1) ∧ 553 = 552 + 1 := op_96 (rb11 2 rfl) rfl
theorem dL_law_553 : decode cL_law 553 = .ok (.invokevirtual 99, 3) ∧ 556 = 553 + 3 := op_182 (rb11 3 rfl) (rb11 4 rfl) (rb11 5 rfl) rfl
theorem dL_law_556 : decode cL_law 556 = .ok (.istore 21, 2) ∧ 558 = 556 + 2 := op_54 (rb11 6 rfl) (rb11 7 rfl) rfl
theorem dL_law_558 : decode cL_law 558 = .ok (.aload_n 1, 1) ∧ 559 = 558 + 1 := op_43 (rb11 8 rfl) rfl
theorem dL_law_559 : decode cL_law 559 = .ok (.iconst 1, 1) ∧ 560 = 559 + 1 := op_4 (rb11 9 rfl) rfl
theorem dL_law_560 : decode cL_law 560 = .ok (.iload 9, 2) ∧ 562 = 560 + 2 := op_21 (rb11 10 rfl) (rb11 11 rfl) rfl
theorem dL_law_562 : decode cL_law 562 = .ok (.iadd, 1) ∧ 563 = 562 + 1 := op_96 (rb11 12 rfl) rfl
theorem dL_law_563 : decode cL_law 563 = .ok (.invokevirtual 134, 3) ∧ 566 = 563 + 3 := op_182 (rb11 13 rfl) (rb11 14 rfl) (rb11 15 rfl) rfl
theorem dL_law_566 : decode cL_law 566 = .ok (.istore 16, 2) ∧ 568 = 566 + 2 := op_54 (rb11 16 rfl) (rb11 17 rfl) rfl
theorem dL_law_568 : decode cL_law 568 = .ok (.iload 16, 2) ∧ 570 = 568 + 2 := op_21 (rb11 18 rfl) (rb11 19 rfl) rfl
theorem dL_law_570 : decode cL_law 570 = .ok (.iload 21, 2) ∧ 572 = 570 + 2 := op_21 (rb11 20 rfl) (rb11 21 rfl) rfl
theorem dL_law_572 : decode cL_law 572 = .ok (.if_icmp .ne 53, 3) ∧ 575 = 572 + 3 := op_160 (rb11 22 rfl) (rb11 23 rfl) (rb11 24 rfl) rfl rfl
theorem dL_law_575 : decode cL_law 575 = .ok (.aload_n 1, 1) ∧ 576 = 575 + 1 := op_43 (rb11 25 rfl) rfl
theorem dL_law_576 : decode cL_law 576 = .ok (.iload 5, 2) ∧ 578 = 576 + 2 := op_21 (rb11 26 rfl) (rb11 27 rfl) rfl
theorem dL_law_578 : decode cL_law 578 = .ok (.iconst 3, 1) ∧ 579 = 578 + 1 := op_6 (rb11 28 rfl) rfl
theorem dL_law_579 : decode cL_law 579 = .ok (.invokevirtual 27, 3) ∧ 582 = 579 + 3 := op_182 (rb11 29 rfl) (rb11 30 rfl) (rb11 31 rfl) rfl
theorem dL_law_582 : decode cL_law 582 = .ok (.iload 20, 2) ∧ 584 = 582 + 2 := op_21 (rb11 32 rfl) (rb11 33 rfl) rfl
theorem dL_law_584 : decode cL_law 584 = .ok (.if_icmp .ne 41, 3) ∧ 587 = 584 + 3 := op_160 (rb11 34 rfl) (rb11 35 rfl) (rb11 36 rfl) rfl rfl
theorem dL_law_587 : decode cL_law 587 = .ok (.aload_n 1, 1) ∧ 588 = 587 + 1 := op_43 (rb11 37 rfl) rfl
theorem dL_law_588 : decode cL_law 588 = .ok (.iconst 4, 1) ∧ 589 = 588 + 1 := op_7 (rb11 38 rfl) rfl
theorem dL_law_589 : decode cL_law 589 = .ok (.invokevirtual 78, 3) ∧ 592 = 589 + 3 := op_182 (rb11 39 rfl) (rb11 40 rfl) (rb11 41 rfl) rfl
theorem dL_law_592 : decode cL_law 592 = .ok (.iload 11, 2) ∧ 594 = 592 + 2 := op_21 (rb11 42 rfl) (rb11 43 rfl) rfl
theorem dL_law_594 : decode cL_law 594 = .ok (.iconst 1, 1) ∧ 595 = 594 + 1 := op_4 (rb11 44 rfl) rfl
theorem dL_law_595 : decode cL_law 595 = .ok (.iadd, 1) ∧ 596 = 595 + 1 := op_96 (rb11 45 rfl) rfl
theorem dL_law_596 : decode cL_law 596 = .ok (.iload 9, 2) ∧ 598 = 596 + 2 := op_21 (rb11 46 rfl) (rb11 47 rfl) rfl
theorem dL_law_598 : decode cL_law 598 = .ok (.iadd, 1) ∧ 599 = 598 + 1 := op_96 (rb11 48 rfl) rfl
theorem dL_law_599 : decode cL_law 599 = .ok (.if_icmp .ne 26, 3) ∧ 602 = 599 + 3 := op_160 (rb11 49 rfl) (rb12 0 rfl) (rb12 1 rfl) rfl rfl
theorem dL_law_602 : decode cL_law 602 = .ok (.aload_n 1, 1) ∧ 603 = 602 + 1 := op_43 (rb12 2 rfl) rfl
theorem dL_law_603 : decode cL_law 603 = .ok (.iconst 5, 1) ∧ 604 = 603 + 1 := op_8 (rb12 3 rfl) rfl
theorem dL_law_604 : decode cL_law 604 = .ok (.invokevirtual 78, 3) ∧ 607 = 604 + 3 := op_182 (rb12 4 rfl) (rb12 5 rfl) (rb12 6 rfl) rfl
theorem dL_law_607 : decode cL_law 607 = .ok (.aload_n 1, 1) ∧ 608 = 607 + 1 := op_43 (rb12 7 rfl) rfl
theorem dL_law_608 : decode cL_law 608 = .ok (.bipush 6, 2) ∧ 610 = 608 + 2 := op_16 (rb12 8 rfl) (rb12 9 rfl) rfl rfl
theorem dL_law_610 : decode cL_law 610 = .ok (.invokevirtual 78, 3) ∧ 613 = 610 + 3 := op_182 (rb12 10 rfl) (rb12 11 rfl) (rb12 12 rfl) rfl
theorem dL_law_613 : decode cL_law 613 = .ok (.iadd, 1) ∧ 614 = 613 + 1 := op_96 (rb12 13 rfl) rfl
theorem dL_law_614 : decode cL_law 614 = .ok (.iload 12, 2) ∧ 616 = 614 + 2 := op_21 (rb12 14 rfl) (rb12 15 rfl) rfl
theorem dL_law_616 : decode cL_law 616 = .ok (.iload 13, 2) ∧ 618 = 616 + 2 := op_21 (rb12 16 rfl) (rb12 17 rfl) rfl
theorem dL_law_618 : decode cL_law 618 = .ok (.iadd, 1) ∧ 619 = 618 + 1 := op_96 (rb12 18 rfl) rfl
theorem dL_law_619 : decode cL_law 619 = .ok (.iload 21, 2) ∧ 621 = 619 + 2 := op_21 (rb12 19 rfl) (rb12 20 rfl) rfl
theorem dL_law_621 : decode cL_law 621 = .ok (.iadd, 1) ∧ 622 = 621 + 1 := op_96 (rb12 21 rfl) rfl
theorem dL_law_622 : decode cL_law 622 = .ok (.if_icmp .eq 395, 3) ∧ 625 = 622 + 3 := op_159 (rb12 22 rfl) (rb12 23 rfl) (rb12 24 rfl) rfl rfl
theorem dL_law_625 : decode cL_law 625 = .ok (.iconst 0, 1) ∧ 626 = 625 + 1 := op_3 (rb12 25 rfl) rfl
theorem dL_law_626 : decode cL_law 626 = .ok (.ireturn, 1) ∧ 627 = 626 + 1 := op_172 (rb12 26 rfl) rfl
theorem dL_law_627 : decode cL_law 627 = .ok (.aload_n 1, 1) ∧ 628 = 627 + 1 := op_43 (rb12 27 rfl) rfl
theorem dL_law_628 : decode cL_law 628 = .ok (.iload 8, 2) ∧ 630 = 628 + 2 := op_21 (rb12 28 rfl) (rb12 29 rfl) rfl
theorem dL_law_630 : decode cL_law 630 = .ok (.invokevirtual 137, 3) ∧ 633 = 630 + 3 := op_182 (rb12 30 rfl) (rb12 31 rfl) (rb12 32 rfl) rfl
theorem dL_law_633 : decode cL_law 633 = .ok (.istore 16, 2) ∧ 635 = 633 + 2 := op_54 (rb12 33 rfl) (rb12 34 rfl) rfl
theorem dL_law_635 : decode cL_law 635 = .ok (.iload 16, 2) ∧ 637 = 635 + 2 := op_21 (rb12 35 rfl) (rb12 36 rfl) rfl
theorem dL_law_637 : decode cL_law 637 = .ok (.iload 14, 2) ∧ 639 = 637 + 2 := op_21 (rb12 37 rfl) (rb12 38 rfl) rfl
theorem dL_law_639 : decode cL_law 639 = .ok (.if_icmp .ne 13, 3) ∧ 642 = 639 + 3 := op_160 (rb12 39 rfl) (rb12 40 rfl) (rb12 41 rfl) rfl rfl
theorem dL_law_642 : decode cL_law 642 = .ok (.aload_n 1, 1) ∧ 643 = 642 + 1 := op_43 (rb12 42 rfl) rfl
theorem dL_law_643 : decode cL_law 643 = .ok (.iload 8, 2) ∧ 645 = 643 + 2 := op_21 (rb12 43 rfl) (rb12 44 rfl) rfl
theorem dL_law_645 : decode cL_law 645 = .ok (.iconst 1, 1) ∧ 646 = 645 + 1 := op_4 (rb12 45 rfl) rfl
theorem dL_law_646 : decode cL_law 646 = .ok (.invokevirtual 81, 3) ∧ 649 = 646 + 3 := op_182 (rb12 46 rfl) (rb12 47 rfl) (rb12 48 rfl) rfl
theorem dL_law_649 : decode cL_law 649 = .ok (.ifCond .eq 368, 3) ∧ 652 = 649 + 3 := op_153 (rb12 49 rfl) (rb13 0 rfl) (rb13 1 rfl) rfl rfl
theorem dL_law_652 : decode cL_law 652 = .ok (.iconst 0, 1) ∧ 653 = 652 + 1 := op_3 (rb13 2 rfl) rfl
theorem dL_law_653 : decode cL_law 653 = .ok (.ireturn, 1) ∧ 654 = 653 + 1 := op_172 (rb13 3 rfl) rfl
theorem dL_law_654 : decode cL_law 654 = .ok (.aload_n 1, 1) ∧ 655 = 654 + 1 := op_43 (rb13 4 rfl) rfl
theorem dL_law_655 : decode cL_law 655 = .ok (.iload 8, 2) ∧ 657 = 655 + 2 := op_21 (rb13 5 rfl) (rb13 6 rfl) rfl
theorem dL_law_657 : decode cL_law 657 = .ok (.iload 9, 2) ∧ 659 = 657 + 2 := op_21 (rb13 7 rfl) (rb13 8 rfl) rfl
theorem dL_law_659 : decode cL_law 659 = .ok (.invokevirtual 140, 3) ∧ 662 = 659 + 3 := op_182 (rb13 9 rfl) (rb13 10 rfl) (rb13 11 rfl) rfl
theorem dL_law_662 : decode cL_law 662 = .ok (.istore 16, 2) ∧ 664 = 662 + 2 := op_54 (rb13 12 rfl) (rb13 13 rfl) rfl
theorem dL_law_664 : decode cL_law 664 = .ok (.iload 16, 2) ∧ 666 = 664 + 2 := op_21 (rb13 14 rfl) (rb13 15 rfl) rfl
theorem dL_law_666 : decode cL_law 666 = .ok (.iload 14, 2) ∧ 668 = 666 + 2 := op_21 (rb13 16 rfl) (rb13 17 rfl) rfl
theorem dL_law_668 : decode cL_law 668 = .ok (.if_icmp .ne 15, 3) ∧ 671 = 668 + 3 := op_160 (rb13 18 rfl) (rb13 19 rfl) (rb13 20 rfl) rfl rfl
theorem dL_law_671 : decode cL_law 671 = .ok (.aload_n 1, 1) ∧ 672 = 671 + 1 := op_43 (rb13 21 rfl) rfl
theorem dL_law_672 : decode cL_law 672 = .ok (.iload 8, 2) ∧ 674 = 672 + 2 := op_21 (rb13 22 rfl) (rb13 23 rfl) rfl
theorem dL_law_674 : decode cL_law 674 = .ok (.iconst 1, 1) ∧ 675 = 674 + 1 := op_4 (rb13 24 rfl) rfl
theorem dL_law_675 : decode cL_law 675 = .ok (.invokevirtual 81, 3) ∧ 678 = 675 + 3 := op_182 (rb13 25 rfl) (rb13 26 rfl) (rb13 27 rfl) rfl
theorem dL_law_678 : decode cL_law 678 = .ok (.iload 9, 2) ∧ 680 = 678 + 2 := op_21 (rb13 28 rfl) (rb13 29 rfl) rfl
theorem dL_law_680 : decode cL_law 680 = .ok (.if_icmp .eq 337, 3) ∧ 683 = 680 + 3 := op_159 (rb13 30 rfl) (rb13 31 rfl) (rb13 32 rfl) rfl rfl
theorem dL_law_683 : decode cL_law 683 = .ok (.iconst 0, 1) ∧ 684 = 683 + 1 := op_3 (rb13 33 rfl) rfl
theorem dL_law_684 : decode cL_law 684 = .ok (.ireturn, 1) ∧ 685 = 684 + 1 := op_172 (rb13 34 rfl) rfl
theorem dL_law_685 : decode cL_law 685 = .ok (.aload_n 1, 1) ∧ 686 = 685 + 1 := op_43 (rb13 35 rfl) rfl
theorem dL_law_686 : decode cL_law 686 = .ok (.iload 6, 2) ∧ 688 = 686 + 2 := op_21 (rb13 36 rfl) (rb13 37 rfl) rfl
theorem dL_law_688 : decode cL_law 688 = .ok (.sipush 10000, 3) ∧ 691 = 688 + 3 := op_17 (rb13 38 rfl) (rb13 39 rfl) (rb13 40 rfl) rfl rfl
theorem dL_law_691 : decode cL_law 691 = .ok (.iload 9, 2) ∧ 693 = 691 + 2 := op_21 (rb13 41 rfl) (rb13 42 rfl) rfl
theorem dL_law_693 : decode cL_law 693 = .ok (.imul, 1) ∧ 694 = 693 + 1 := op_104 (rb13 43 rfl) rfl
theorem dL_law_694 : decode cL_law 694 = .ok (.invokevirtual 143, 3) ∧ 697 = 694 + 3 := op_182 (rb13 44 rfl) (rb13 45 rfl) (rb13 46 rfl) rfl
theorem dL_law_697 : decode cL_law 697 = .ok (.istore 16, 2) ∧ 699 = 697 + 2 := op_54 (rb13 47 rfl) (rb13 48 rfl) rfl
theorem dL_law_699 : decode cL_law 699 = .ok (.iload 16, 2) ∧ 701 = 699 + 2 := op_21 (rb13 49 rfl) (rb14 0 rfl) rfl
theorem dL_law_701 : decode cL_law 701 = .ok (.iload 15, 2) ∧ 703 = 701 + 2 := op_21 (rb14 1 rfl) (rb14 2 rfl) rfl
theorem dL_law_703 : decode cL_law 703 = .ok (.if_icmp .ne 19, 3) ∧ 706 = 703 + 3 := op_160 (rb14 3 rfl) (rb14 4 rfl) (rb14 5 rfl) rfl rfl
theorem dL_law_706 : decode cL_law 706 = .ok (.aload_n 1, 1) ∧ 707 = 706 + 1 := op_43 (rb14 6 rfl) rfl
theorem dL_law_707 : decode cL_law 707 = .ok (.iload 6, 2) ∧ 709 = 707 + 2 := op_21 (rb14 7 rfl) (rb14 8 rfl) rfl
theorem dL_law_709 : decode cL_law 709 = .ok (.iconst 3, 1) ∧ 710 = 709 + 1 := op_6 (rb14 9 rfl) rfl
theorem dL_law_710 : decode cL_law 710 = .ok (.invokevirtual 87, 3) ∧ 713 = 710 + 3 := op_182 (rb14 10 rfl) (rb14 11 rfl) (rb14 12 rfl) rfl
theorem dL_law_713 : decode cL_law 713 = .ok (.sipush 10000, 3) ∧ 716 = 713 + 3 := op_17 (rb14 13 rfl) (rb14 14 rfl) (rb14 15 rfl) rfl rfl
theorem dL_law_716 : decode cL_law 716 = .ok (.iload 9, 2) ∧ 718 = 716 + 2 := op_21 (rb14 16 rfl) (rb14 17 rfl) rfl
theorem dL_law_718 : decode cL_law 718 = .ok (.imul, 1) ∧ 719 = 718 + 1 := op_104 (rb14 18 rfl) rfl
theorem dL_law_719 : decode cL_law 719 = .ok (.if_icmp .eq 298, 3) ∧ 722 = 719 + 3 := op_159 (rb14 19 rfl) (rb14 20 rfl) (rb14 21 rfl) rfl rfl
theorem dL_law_722 : decode cL_law 722 = .ok (.iconst 0, 1) ∧ 723 = 722 + 1 := op_3 (rb14 22 rfl) rfl
theorem dL_law_723 : decode cL_law 723 = .ok (.ireturn, 1) ∧ 724 = 723 + 1 := op_172 (rb14 23 rfl) rfl
theorem dL_law_724 : decode cL_law 724 = .ok (.aload_n 1, 1) ∧ 725 = 724 + 1 := op_43 (rb14 24 rfl) rfl
theorem dL_law_725 : decode cL_law 725 = .ok (.iload 5, 2) ∧ 727 = 725 + 2 := op_21 (rb14 25 rfl) (rb14 26 rfl) rfl
theorem dL_law_727 : decode cL_law 727 = .ok (.iconst 1, 1) ∧ 728 = 727 + 1 := op_4 (rb14 27 rfl) rfl
theorem dL_law_728 : decode cL_law 728 = .ok (.iload 9, 2) ∧ 730 = 728 + 2 := op_21 (rb14 28 rfl) (rb14 29 rfl) rfl
theorem dL_law_730 : decode cL_law 730 = .ok (.iadd, 1) ∧ 731 = 730 + 1 := op_96 (rb14 30 rfl) rfl
theorem dL_law_731 : decode cL_law 731 = .ok (.invokevirtual 42, 3) ∧ 734 = 731 + 3 := op_182 (rb14 31 rfl) (rb14 32 rfl) (rb14 33 rfl) rfl
theorem dL_law_734 : decode cL_law 734 = .ok (.istore 20, 2) ∧ 736 = 734 + 2 := op_54 (rb14 34 rfl) (rb14 35 rfl) rfl
theorem dL_law_736 : decode cL_law 736 = .ok (.iload 20, 2) ∧ 738 = 736 + 2 := op_21 (rb14 36 rfl) (rb14 37 rfl) rfl
theorem dL_law_738 : decode cL_law 738 = .ok (.ldc 114, 2) ∧ 740 = 738 + 2 := op_18 (rb14 38 rfl) (rb14 39 rfl) rfl
theorem dL_law_740 : decode cL_law 740 = .ok (.if_icmp .gt 7, 3) ∧ 743 = 740 + 3 := op_163 (rb14 40 rfl) (rb14 41 rfl) (rb14 42 rfl) rfl rfl
theorem dL_law_743 : decode cL_law 743 = .ok (.iconst 1, 1) ∧ 744 = 743 + 1 := op_4 (rb14 43 rfl) rfl
theorem dL_law_744 : decode cL_law 744 = .ok (.goto 4, 3) ∧ 747 = 744 + 3 := op_167 (rb14 44 rfl) (rb14 45 rfl) (rb14 46 rfl) rfl rfl
theorem dL_law_747 : decode cL_law 747 = .ok (.iconst 0, 1) ∧ 748 = 747 + 1 := op_3 (rb14 47 rfl) rfl
theorem dL_law_748 : decode cL_law 748 = .ok (.istore 19, 2) ∧ 750 = 748 + 2 := op_54 (rb14 48 rfl) (rb14 49 rfl) rfl
theorem dL_law_750 : decode cL_law 750 = .ok (.iload 19, 2) ∧ 752 = 750 + 2 := op_21 (rb15 0 rfl) (rb15 1 rfl) rfl
theorem dL_law_752 : decode cL_law 752 = .ok (.ifCond .eq 14, 3) ∧ 755 = 752 + 3 := op_153 (rb15 2 rfl) (rb15 3 rfl) (rb15 4 rfl) rfl rfl
theorem dL_law_755 : decode cL_law 755 = .ok (.aload_n 1, 1) ∧ 756 = 755 + 1 := op_43 (rb15 5 rfl) rfl
theorem dL_law_756 : decode cL_law 756 = .ok (.iload 5, 2) ∧ 758 = 756 + 2 := op_21 (rb15 6 rfl) (rb15 7 rfl) rfl
theorem dL_law_758 : decode cL_law 758 = .ok (.iload 20, 2) ∧ 760 = 758 + 2 := op_21 (rb15 8 rfl) (rb15 9 rfl) rfl
theorem dL_law_760 : decode cL_law 760 = .ok (.invokevirtual 146, 3) ∧ 763 = 760 + 3 := op_182 (rb15 10 rfl) (rb15 11 rfl) (rb15 12 rfl) rfl
theorem dL_law_763 : decode cL_law 763 = .ok (.goto 4, 3) ∧ 766 = 763 + 3 := op_167 (rb15 13 rfl) (rb15 14 rfl) (rb15 15 rfl) rfl rfl
theorem dL_law_766 : decode cL_law 766 = .ok (.iconst 0, 1) ∧ 767 = 766 + 1 := op_3 (rb15 16 rfl) rfl
theorem dL_law_767 : decode cL_law 767 = .ok (.istore 21, 2) ∧ 769 = 767 + 2 := op_54 (rb15 17 rfl) (rb15 18 rfl) rfl
theorem dL_law_769 : decode cL_law 769 = .ok (.iload 19, 2) ∧ 771 = 769 + 2 := op_21 (rb15 19 rfl) (rb15 20 rfl) rfl
theorem dL_law_771 : decode cL_law 771 = .ok (.ifCond .eq 14, 3) ∧ 774 = 771 + 3 := op_153 (rb15 21 rfl) (rb15 22 rfl) (rb15 23 rfl) rfl rfl
theorem dL_law_774 : decode cL_law 774 = .ok (.aload_n 1, 1) ∧ 775 = 774 + 1 := op_43 (rb15 24 rfl) rfl
theorem dL_law_775 : decode cL_law 775 = .ok (.iload 5, 2) ∧ 777 = 775 + 2 := op_21 (rb15 25 rfl) (rb15 26 rfl) rfl
theorem dL_law_777 : decode cL_law 777 = .ok (.iload 20, 2) ∧ 779 = 777 + 2 := op_21 (rb15 27 rfl) (rb15 28 rfl) rfl
theorem dL_law_779 : decode cL_law 779 = .ok (.invokevirtual 149, 3) ∧ 782 = 779 + 3 := op_182 (rb15 29 rfl) (rb15 30 rfl) (rb15 31 rfl) rfl
theorem dL_law_782 : decode cL_law 782 = .ok (.goto 4, 3) ∧ 785 = 782 + 3 := op_167 (rb15 32 rfl) (rb15 33 rfl) (rb15 34 rfl) rfl rfl
theorem dL_law_785 : decode cL_law 785 = .ok (.iconst 0, 1) ∧ 786 = 785 + 1 := op_3 (rb15 35 rfl) rfl
theorem dL_law_786 : decode cL_law 786 = .ok (.istore 16, 2) ∧ 788 = 786 + 2 := op_54 (rb15 36 rfl) (rb15 37 rfl) rfl
theorem dL_law_788 : decode cL_law 788 = .ok (.iload 19, 2) ∧ 790 = 788 + 2 := op_21 (rb15 38 rfl) (rb15 39 rfl) rfl
theorem dL_law_790 : decode cL_law 790 = .ok (.ifCond .eq 227, 3) ∧ 793 = 790 + 3 := op_153 (rb15 40 rfl) (rb15 41 rfl) (rb15 42 rfl) rfl rfl
theorem dL_law_793 : decode cL_law 793 = .ok (.iload 16, 2) ∧ 795 = 793 + 2 := op_21 (rb15 43 rfl) (rb15 44 rfl) rfl
theorem dL_law_795 : decode cL_law 795 = .ok (.iload 21, 2) ∧ 797 = 795 + 2 := op_21 (rb15 45 rfl) (rb15 46 rfl) rfl
theorem dL_law_797 : decode cL_law 797 = .ok (.if_icmp .ne 37, 3) ∧ 800 = 797 + 3 := op_160 (rb15 47 rfl) (rb15 48 rfl) (rb15 49 rfl) rfl rfl
theorem dL_law_800 : decode cL_law 800 = .ok (.iload 16, 2) ∧ 802 = 800 + 2 := op_21 (rb16 0 rfl) (rb16 1 rfl) rfl
theorem dL_law_802 : decode cL_law 802 = .ok (.iconst 1, 1) ∧ 803 = 802 + 1 := op_4 (rb16 2 rfl) rfl
theorem dL_law_803 : decode cL_law 803 = .ok (.iload 9, 2) ∧ 805 = 803 + 2 := op_21 (rb16 3 rfl) (rb16 4 rfl) rfl
theorem dL_law_805 : decode cL_law 805 = .ok (.iadd, 1) ∧ 806 = 805 + 1 := op_96 (rb16 5 rfl) rfl
theorem dL_law_806 : decode cL_law 806 = .ok (.if_icmp .gt 28, 3) ∧ 809 = 806 + 3 := op_163 (rb16 6 rfl) (rb16 7 rfl) (rb16 8 rfl) rfl rfl
theorem dL_law_809 : decode cL_law 809 = .ok (.aload_n 1, 1) ∧ 810 = 809 + 1 := op_43 (rb16 9 rfl) rfl
theorem dL_law_810 : decode cL_law 810 = .ok (.iload 5, 2) ∧ 812 = 810 + 2 := op_21 (rb16 10 rfl) (rb16 11 rfl) rfl
theorem dL_law_812 : decode cL_law 812 = .ok (.iconst 3, 1) ∧ 813 = 812 + 1 := op_6 (rb16 12 rfl) rfl
theorem dL_law_813 : decode cL_law 813 = .ok (.invokevirtual 27, 3) ∧ 816 = 813 + 3 := op_182 (rb16 13 rfl) (rb16 14 rfl) (rb16 15 rfl) rfl
theorem dL_law_816 : decode cL_law 816 = .ok (.iload 20, 2) ∧ 818 = 816 + 2 := op_21 (rb16 16 rfl) (rb16 17 rfl) rfl
theorem dL_law_818 : decode cL_law 818 = .ok (.if_icmp .gt 16, 3) ∧ 821 = 818 + 3 := op_163 (rb16 18 rfl) (rb16 19 rfl) (rb16 20 rfl) rfl rfl
theorem dL_law_821 : decode cL_law 821 = .ok (.aload_n 1, 1) ∧ 822 = 821 + 1 := op_43 (rb16 21 rfl) rfl
theorem dL_law_822 : decode cL_law 822 = .ok (.iconst 4, 1) ∧ 823 = 822 + 1 := op_7 (rb16 22 rfl) rfl
theorem dL_law_823 : decode cL_law 823 = .ok (.invokevirtual 78, 3) ∧ 826 = 823 + 3 := op_182 (rb16 23 rfl) (rb16 24 rfl) (rb16 25 rfl) rfl
theorem dL_law_826 : decode cL_law 826 = .ok (.iload 11, 2) ∧ 828 = 826 + 2 := op_21 (rb16 26 rfl) (rb16 27 rfl) rfl
theorem dL_law_828 : decode cL_law 828 = .ok (.iload 16, 2) ∧ 830 = 828 + 2 := op_21 (rb16 28 rfl) (rb16 29 rfl) rfl
theorem dL_law_830 : decode cL_law 830 = .ok (.iadd, 1) ∧ 831 = 830 + 1 := op_96 (rb16 30 rfl) rfl
theorem dL_law_831 : decode cL_law 831 = .ok (.if_icmp .eq 186, 3) ∧ 834 = 831 + 3 := op_159 (rb16 31 rfl) (rb16 32 rfl) (rb16 33 rfl) rfl rfl
theorem dL_law_834 : decode cL_law 834 = .ok (.iconst 0, 1) ∧ 835 = 834 + 1 := op_3 (rb16 34 rfl) rfl
theorem dL_law_835 : decode cL_law 835 = .ok (.ireturn, 1) ∧ 836 = 835 + 1 := op_172 (rb16 35 rfl) rfl
theorem dL_law_836 : decode cL_law 836 = .ok (.aload_n 1, 1) ∧ 837 = 836 + 1 := op_43 (rb16 36 rfl) rfl
theorem dL_law_837 : decode cL_law 837 = .ok (.iload 5, 2) ∧ 839 = 837 + 2 := op_21 (rb16 37 rfl) (rb16 38 rfl) rfl
theorem dL_law_839 : decode cL_law 839 = .ok (.invokevirtual 38, 3) ∧ 842 = 839 + 3 := op_182 (rb16 39 rfl) (rb16 40 rfl) (rb16 41 rfl) rfl
theorem dL_law_842 : decode cL_law 842 = .ok (.istore 19, 2) ∧ 844 = 842 + 2 := op_54 (rb16 42 rfl) (rb16 43 rfl) rfl
theorem dL_law_844 : decode cL_law 844 = .ok (.aload_n 1, 1) ∧ 845 = 844 + 1 := op_43 (rb16 44 rfl) rfl
theorem dL_law_845 : decode cL_law 845 = .ok (.bipush 7, 2) ∧ 847 = 845 + 2 := op_16 (rb16 45 rfl) (rb16 46 rfl) rfl rfl
theorem dL_law_847 : decode cL_law 847 = .ok (.invokevirtual 78, 3) ∧ 850 = 847 + 3 := op_182 (rb16 47 rfl) (rb16 48 rfl) (rb16 49 rfl) rfl
theorem dL_law_850 : decode cL_law 850 = .ok (.istore 20, 2) ∧ 852 = 850 + 2 := op_54 (rb17 0 rfl) (rb17 1 rfl) rfl
theorem dL_law_852 : decode cL_law 852 = .ok (.iload 19, 2) ∧ 854 = 852 + 2 := op_21 (rb17 2 rfl) (rb17 3 rfl) rfl
theorem dL_law_854 : decode cL_law 854 = .ok (.ifCond .eq 18, 3) ∧ 857 = 854 + 3 := op_153 (rb17 4 rfl) (rb17 5 rfl) (rb17 6 rfl) rfl rfl
theorem dL_law_857 : decode cL_law 857 = .ok (.aload_n 1, 1) ∧ 858 = 857 + 1 := op_43 (rb17 7 rfl) rfl
theorem dL_law_858 : decode cL_law 858 = .ok (.iload 5, 2) ∧ 860 = 858 + 2 := op_21 (rb17 8 rfl) (rb17 9 rfl) rfl
theorem dL_law_860 : decode cL_law 860 = .ok (.iconst 2, 1) ∧ 861 = 860 + 1 := op_5 (rb17 10 rfl) rfl
theorem dL_law_861 : decode cL_law 861 = .ok (.iconst 2, 1) ∧ 862 = 861 + 1 := op_5 (rb17 11 rfl) rfl
theorem dL_law_862 : decode cL_law 862 = .ok (.iload 9, 2) ∧ 864 = 862 + 2 := op_21 (rb17 12 rfl) (rb17 13 rfl) rfl
theorem dL_law_864 : decode cL_law 864 = .ok (.imul, 1) ∧ 865 = 864 + 1 := op_104 (rb17 14 rfl) rfl
theorem dL_law_865 : decode cL_law 865 = .ok (.iadd, 1) ∧ 866 = 865 + 1 := op_96 (rb17 15 rfl) rfl
theorem dL_law_866 : decode cL_law 866 = .ok (.invokevirtual 152, 3) ∧ 869 = 866 + 3 := op_182 (rb17 16 rfl) (rb17 17 rfl) (rb17 18 rfl) rfl
theorem dL_law_869 : decode cL_law 869 = .ok (.goto 4, 3) ∧ 872 = 869 + 3 := op_167 (rb17 19 rfl) (rb17 20 rfl) (rb17 21 rfl) rfl rfl
theorem dL_law_872 : decode cL_law 872 = .ok (.iconst 0, 1) ∧ 873 = 872 + 1 := op_3 (rb17 22 rfl) rfl
theorem dL_law_873 : decode cL_law 873 = .ok (.istore 16, 2) ∧ 875 = 873 + 2 := op_54 (rb17 23 rfl) (rb17 24 rfl) rfl
theorem dL_law_875 : decode cL_law 875 = .ok (.iload 19, 2) ∧ 877 = 875 + 2 := op_21 (rb17 25 rfl) (rb17 26 rfl) rfl
theorem dL_law_877 : decode cL_law 877 = .ok (.ifCond .eq 140, 3) ∧ 880 = 877 + 3 := op_153 (rb17 27 rfl) (rb17 28 rfl) (rb17 29 rfl) rfl rfl
theorem dL_law_880 : decode cL_law 880 = .ok (.iload 16, 2) ∧ 882 = 880 + 2 := op_21 (rb17 30 rfl) (rb17 31 rfl) rfl
theorem dL_law_882 : decode cL_law 882 = .ok (.aload_n 1, 1) ∧ 883 = 882 + 1 := op_43 (rb17 32 rfl) rfl
theorem dL_law_883 : decode cL_law 883 = .ok (.iconst 0, 1) ∧ 884 = 883 + 1 := op_3 (rb17 33 rfl) rfl
theorem dL_law_884 : decode cL_law 884 = .ok (.iconst 1, 1) ∧ 885 = 884 + 1 := op_4 (rb17 34 rfl) rfl
theorem dL_law_885 : decode cL_law 885 = .ok (.invokevirtual 155, 3) ∧ 888 = 885 + 3 := op_182 (rb17 35 rfl) (rb17 36 rfl) (rb17 37 rfl) rfl
theorem dL_law_888 : decode cL_law 888 = .ok (.if_icmp .ne 127, 3) ∧ 891 = 888 + 3 := op_160 (rb17 38 rfl) (rb17 39 rfl) (rb17 40 rfl) rfl rfl
theorem dL_law_891 : decode cL_law 891 = .ok (.aload_n 1, 1) ∧ 892 = 891 + 1 := op_43 (rb17 41 rfl) rfl
theorem dL_law_892 : decode cL_law 892 = .ok (.iconst 0, 1) ∧ 893 = 892 + 1 := op_3 (rb17 42 rfl) rfl
theorem dL_law_893 : decode cL_law 893 = .ok (.iconst 0, 1) ∧ 894 = 893 + 1 := op_3 (rb17 43 rfl) rfl
theorem dL_law_894 : decode cL_law 894 = .ok (.invokevirtual 155, 3) ∧ 897 = 894 + 3 := op_182 (rb17 44 rfl) (rb17 45 rfl) (rb17 46 rfl) rfl
theorem dL_law_897 : decode cL_law 897 = .ok (.iload 5, 2) ∧ 899 = 897 + 2 := op_21 (rb17 47 rfl) (rb17 48 rfl) rfl
theorem dL_law_899 : decode cL_law 899 = .ok (.if_icmp .ne 116, 3) ∧ 902 = 899 + 3 := op_160 (rb17 49 rfl) (rb18 0 rfl) (rb18 1 rfl) rfl rfl
theorem dL_law_902 : decode cL_law 902 = .ok (.aload_n 1, 1) ∧ 903 = 902 + 1 := op_43 (rb18 2 rfl) rfl
theorem dL_law_903 : decode cL_law 903 = .ok (.iconst 0, 1) ∧ 904 = 903 + 1 := op_3 (rb18 3 rfl) rfl
theorem dL_law_904 : decode cL_law 904 = .ok (.iconst 2, 1) ∧ 905 = 904 + 1 := op_5 (rb18 4 rfl) rfl
theorem dL_law_905 : decode cL_law 905 = .ok (.invokevirtual 155, 3) ∧ 908 = 905 + 3 := op_182 (rb18 5 rfl) (rb18 6 rfl) (rb18 7 rfl) rfl
theorem dL_law_908 : decode cL_law 908 = .ok (.aload_n 1, 1) ∧ 909 = 908 + 1 := op_43 (rb18 8 rfl) rfl
theorem dL_law_909 : decode cL_law 909 = .ok (.iconst 4, 1) ∧ 910 = 909 + 1 := op_7 (rb18 9 rfl) rfl
theorem dL_law_910 : decode cL_law 910 = .ok (.invokevirtual 78, 3) ∧ 913 = 910 + 3 := op_182 (rb18 10 rfl) (rb18 11 rfl) (rb18 12 rfl) rfl
theorem dL_law_913 : decode cL_law 913 = .ok (.if_icmp .ne 102, 3) ∧ 916 = 913 + 3 := op_160 (rb18 13 rfl) (rb18 14 rfl) (rb18 15 rfl) rfl rfl
theorem dL_law_916 : decode cL_law 916 = .ok (.aload_n 1, 1) ∧ 917 = 916 + 1 := op_43 (rb18 16 rfl) rfl
theorem dL_law_917 : decode cL_law 917 = .ok (.iconst 0, 1) ∧ 918 = 917 + 1 := op_3 (rb18 17 rfl) rfl
theorem dL_law_918 : decode cL_law 918 = .ok (.iconst 3, 1) ∧ 919 = 918 + 1 := op_6 (rb18 18 rfl) rfl
theorem dL_law_919 : decode cL_law 919 = .ok (.invokevirtual 155, 3) ∧ 922 = 919 + 3 := op_182 (rb18 19 rfl) (rb18 20 rfl) (rb18 21 rfl) rfl
theorem dL_law_922 : decode cL_law 922 = .ok (.iconst 2, 1) ∧ 923 = 922 + 1 := op_5 (rb18 22 rfl) rfl
theorem dL_law_923 : decode cL_law 923 = .ok (.iconst 2, 1) ∧ 924 = 923 + 1 := op_5 (rb18 23 rfl) rfl
theorem dL_law_924 : decode cL_law 924 = .ok (.iload 9, 2) ∧ 926 = 924 + 2 := op_21 (rb18 24 rfl) (rb18 25 rfl) rfl
theorem dL_law_926 : decode cL_law 926 = .ok (.imul, 1) ∧ 927 = 926 + 1 := op_104 (rb18 26 rfl) rfl
theorem dL_law_927 : decode cL_law 927 = .ok (.iadd, 1) ∧ 928 = 927 + 1 := op_96 (rb18 27 rfl) rfl
theorem dL_law_928 : decode cL_law 928 = .ok (.if_icmp .ne 87, 3) ∧ 931 = 928 + 3 := op_160 (rb18 28 rfl) (rb18 29 rfl) (rb18 30 rfl) rfl rfl
theorem dL_law_931 : decode cL_law 931 = .ok (.aload_n 1, 1) ∧ 932 = 931 + 1 := op_43 (rb18 31 rfl) rfl
theorem dL_law_932 : decode cL_law 932 = .ok (.iload 5, 2) ∧ 934 = 932 + 2 := op_21 (rb18 32 rfl) (rb18 33 rfl) rfl
theorem dL_law_934 : decode cL_law 934 = .ok (.invokevirtual 34, 3) ∧ 937 = 934 + 3 := op_182 (rb18 34 rfl) (rb18 35 rfl) (rb18 36 rfl) rfl
theorem dL_law_937 : decode cL_law 937 = .ok (.lload 17, 2) ∧ 939 = 937 + 2 := op_22 (rb18 37 rfl) (rb18 38 rfl) rfl
theorem dL_law_939 : decode cL_law 939 = .ok (.lsub, 1) ∧ 940 = 939 + 1 := op_101 (rb18 39 rfl) rfl
theorem dL_law_940 : decode cL_law 940 = .ok (.aload_n 1, 1) ∧ 941 = 940 + 1 := op_43 (rb18 40 rfl) rfl
theorem dL_law_941 : decode cL_law 941 = .ok (.iconst 0, 1) ∧ 942 = 941 + 1 := op_3 (rb18 41 rfl) rfl
theorem dL_law_942 : decode cL_law 942 = .ok (.iconst 0, 1) ∧ 943 = 942 + 1 := op_3 (rb18 42 rfl) rfl
theorem dL_law_943 : decode cL_law 943 = .ok (.invokevirtual 158, 3) ∧ 946 = 943 + 3 := op_182 (rb18 43 rfl) (rb18 44 rfl) (rb18 45 rfl) rfl
theorem dL_law_946 : decode cL_law 946 = .ok (.aload_n 1, 1) ∧ 947 = 946 + 1 := op_43 (rb18 46 rfl) rfl
theorem dL_law_947 : decode cL_law 947 = .ok (.iconst 0, 1) ∧ 948 = 947 + 1 := op_3 (rb18 47 rfl) rfl
theorem dL_law_948 : decode cL_law 948 = .ok (.iconst 1, 1) ∧ 949 = 948 + 1 := op_4 (rb18 48 rfl) rfl
theorem dL_law_949 : decode cL_law 949 = .ok (.invokevirtual 158, 3) ∧ 952 = 949 + 3 := op_182 (rb18 49 rfl) (rb19 0 rfl) (rb19 1 rfl) rfl
theorem dL_law_952 : decode cL_law 952 = .ok (.ladd, 1) ∧ 953 = 952 + 1 := op_97 (rb19 2 rfl) rfl
theorem dL_law_953 : decode cL_law 953 = .ok (.lcmp, 1) ∧ 954 = 953 + 1 := op_148 (rb19 3 rfl) rfl
theorem dL_law_954 : decode cL_law 954 = .ok (.ifCond .ne 61, 3) ∧ 957 = 954 + 3 := op_154 (rb19 4 rfl) (rb19 5 rfl) (rb19 6 rfl) rfl rfl
theorem dL_law_957 : decode cL_law 957 = .ok (.aload_n 1, 1) ∧ 958 = 957 + 1 := op_43 (rb19 7 rfl) rfl
theorem dL_law_958 : decode cL_law 958 = .ok (.bipush 7, 2) ∧ 960 = 958 + 2 := op_16 (rb19 8 rfl) (rb19 9 rfl) rfl rfl
theorem dL_law_960 : decode cL_law 960 = .ok (.invokevirtual 78, 3) ∧ 963 = 960 + 3 := op_182 (rb19 10 rfl) (rb19 11 rfl) (rb19 12 rfl) rfl
theorem dL_law_963 : decode cL_law 963 = .ok (.bipush 10, 2) ∧ 965 = 963 + 2 := op_16 (rb19 13 rfl) (rb19 14 rfl) rfl rfl
theorem dL_law_965 : decode cL_law 965 = .ok (.iload 20, 2) ∧ 967 = 965 + 2 := op_21 (rb19 15 rfl) (rb19 16 rfl) rfl
theorem dL_law_967 : decode cL_law 967 = .ok (.iconst 1, 1) ∧ 968 = 967 + 1 := op_4 (rb19 17 rfl) rfl
theorem dL_law_968 : decode cL_law 968 = .ok (.iadd, 1) ∧ 969 = 968 + 1 := op_96 (rb19 18 rfl) rfl
theorem dL_law_969 : decode cL_law 969 = .ok (.invokestatic 162, 3) ∧ 972 = 969 + 3 := op_184 (rb19 19 rfl) (rb19 20 rfl) (rb19 21 rfl) rfl
theorem dL_law_972 : decode cL_law 972 = .ok (.if_icmp .ne 43, 3) ∧ 975 = 972 + 3 := op_160 (rb19 22 rfl) (rb19 23 rfl) (rb19 24 rfl) rfl rfl
theorem dL_law_975 : decode cL_law 975 = .ok (.iload 16, 2) ∧ 977 = 975 + 2 := op_21 (rb19 25 rfl) (rb19 26 rfl) rfl
theorem dL_law_977 : decode cL_law 977 = .ok (.ifCond .ne 7, 3) ∧ 980 = 977 + 3 := op_154 (rb19 27 rfl) (rb19 28 rfl) (rb19 29 rfl) rfl rfl
theorem dL_law_980 : decode cL_law 980 = .ok (.iconst 1, 1) ∧ 981 = 980 + 1 := op_4 (rb19 30 rfl) rfl
theorem dL_law_981 : decode cL_law 981 = .ok (.goto 4, 3) ∧ 984 = 981 + 3 := op_167 (rb19 31 rfl) (rb19 32 rfl) (rb19 33 rfl) rfl rfl
theorem dL_law_984 : decode cL_law 984 = .ok (.iconst 0, 1) ∧ 985 = 984 + 1 := op_3 (rb19 34 rfl) rfl
theorem dL_law_985 : decode cL_law 985 = .ok (.aload_n 1, 1) ∧ 986 = 985 + 1 := op_43 (rb19 35 rfl) rfl
theorem dL_law_986 : decode cL_law 986 = .ok (.iconst 0, 1) ∧ 987 = 986 + 1 := op_3 (rb19 36 rfl) rfl
theorem dL_law_987 : decode cL_law 987 = .ok (.iconst 0, 1) ∧ 988 = 987 + 1 := op_3 (rb19 37 rfl) rfl
theorem dL_law_988 : decode cL_law 988 = .ok (.invokevirtual 158, 3) ∧ 991 = 988 + 3 := op_182 (rb19 38 rfl) (rb19 39 rfl) (rb19 40 rfl) rfl
theorem dL_law_991 : decode cL_law 991 = .ok (.lconst 0, 1) ∧ 992 = 991 + 1 := op_9 (rb19 41 rfl) rfl
theorem dL_law_992 : decode cL_law 992 = .ok (.lcmp, 1) ∧ 993 = 992 + 1 := op_148 (rb19 42 rfl) rfl
theorem dL_law_993 : decode cL_law 993 = .ok (.ifCond .ne 18, 3) ∧ 996 = 993 + 3 := op_154 (rb19 43 rfl) (rb19 44 rfl) (rb19 45 rfl) rfl rfl
theorem dL_law_996 : decode cL_law 996 = .ok (.aload_n 1, 1) ∧ 997 = 996 + 1 := op_43 (rb19 46 rfl) rfl
theorem dL_law_997 : decode cL_law 997 = .ok (.iconst 0, 1) ∧ 998 = 997 + 1 := op_3 (rb19 47 rfl) rfl
theorem dL_law_998 : decode cL_law 998 = .ok (.iconst 1, 1) ∧ 999 = 998 + 1 := op_4 (rb19 48 rfl) rfl
theorem dL_law_999 : decode cL_law 999 = .ok (.invokevirtual 158, 3) ∧ 1002 = 999 + 3 := op_182 (rb19 49 rfl) (rb20 0 rfl) (rb20 1 rfl) rfl
theorem dL_law_1002 : decode cL_law 1002 = .ok (.lconst 0, 1) ∧ 1003 = 1002 + 1 := op_9 (rb20 2 rfl) rfl
theorem dL_law_1003 : decode cL_law 1003 = .ok (.lcmp, 1) ∧ 1004 = 1003 + 1 := op_148 (rb20 3 rfl) rfl
theorem dL_law_1004 : decode cL_law 1004 = .ok (.ifCond .ne 7, 3) ∧ 1007 = 1004 + 3 := op_154 (rb20 4 rfl) (rb20 5 rfl) (rb20 6 rfl) rfl rfl
theorem dL_law_1007 : decode cL_law 1007 = .ok (.iconst 1, 1) ∧ 1008 = 1007 + 1 := op_4 (rb20 7 rfl) rfl
theorem dL_law_1008 : decode cL_law 1008 = .ok (.goto 4, 3) ∧ 1011 = 1008 + 3 := op_167 (rb20 8 rfl) (rb20 9 rfl) (rb20 10 rfl) rfl rfl
theorem dL_law_1011 : decode cL_law 1011 = .ok (.iconst 0, 1) ∧ 1012 = 1011 + 1 := op_3 (rb20 11 rfl) rfl
theorem dL_law_1012 : decode cL_law 1012 = .ok (.if_icmp .eq 5, 3) ∧ 1015 = 1012 + 3 := op_159 (rb20 12 rfl) (rb20 13 rfl) (rb20 14 rfl) rfl rfl
theorem dL_law_1015 : decode cL_law 1015 = .ok (.iconst 0, 1) ∧ 1016 = 1015 + 1 := op_3 (rb20 15 rfl) rfl
theorem dL_law_1016 : decode cL_law 1016 = .ok (.ireturn, 1) ∧ 1017 = 1016 + 1 := op_172 (rb20 16 rfl) rfl
theorem dL_law_1017 : decode cL_law 1017 = .ok (.iload 19, 2) ∧ 1019 = 1017 + 2 := op_21 (rb20 17 rfl) (rb20 18 rfl) rfl
theorem dL_law_1019 : decode cL_law 1019 = .ok (.ifCond .eq 12, 3) ∧ 1022 = 1019 + 3 := op_153 (rb20 19 rfl) (rb20 20 rfl) (rb20 21 rfl) rfl rfl
theorem dL_law_1022 : decode cL_law 1022 = .ok (.bipush 10, 2) ∧ 1024 = 1022 + 2 := op_16 (rb20 22 rfl) (rb20 23 rfl) rfl rfl
theorem dL_law_1024 : decode cL_law 1024 = .ok (.iload_n 2, 1) ∧ 1025 = 1024 + 1 := op_28 (rb20 24 rfl) rfl
theorem dL_law_1025 : decode cL_law 1025 = .ok (.iconst 1, 1) ∧ 1026 = 1025 + 1 := op_4 (rb20 25 rfl) rfl
theorem dL_law_1026 : decode cL_law 1026 = .ok (.iadd, 1) ∧ 1027 = 1026 + 1 := op_96 (rb20 26 rfl) rfl
theorem dL_law_1027 : decode cL_law 1027 = .ok (.invokestatic 162, 3) ∧ 1030 = 1027 + 3 := op_184 (rb20 27 rfl) (rb20 28 rfl) (rb20 29 rfl) rfl
theorem dL_law_1030 : decode cL_law 1030 = .ok (.istore_n 2, 1) ∧ 1031 = 1030 + 1 := op_61 (rb20 30 rfl) rfl
theorem dL_law_1031 : decode cL_law 1031 = .ok (.iload 16, 2) ∧ 1033 = 1031 + 2 := op_21 (rb20 31 rfl) (rb20 32 rfl) rfl
theorem dL_law_1033 : decode cL_law 1033 = .ok (.ifCond .lt 20, 3) ∧ 1036 = 1033 + 3 := op_155 (rb20 33 rfl) (rb20 34 rfl) (rb20 35 rfl) rfl rfl
theorem dL_law_1036 : decode cL_law 1036 = .ok (.aload_n 1, 1) ∧ 1037 = 1036 + 1 := op_43 (rb20 36 rfl) rfl
theorem dL_law_1037 : decode cL_law 1037 = .ok (.invokevirtual 167, 3) ∧ 1040 = 1037 + 3 := op_182 (rb20 37 rfl) (rb20 38 rfl) (rb20 39 rfl) rfl
theorem dL_law_1040 : decode cL_law 1040 = .ok (.iload_n 2, 1) ∧ 1041 = 1040 + 1 := op_28 (rb20 40 rfl) rfl
theorem dL_law_1041 : decode cL_law 1041 = .ok (.if_icmp .ne 12, 3) ∧ 1044 = 1041 + 3 := op_160 (rb20 41 rfl) (rb20 42 rfl) (rb20 43 rfl) rfl rfl
theorem dL_law_1044 : decode cL_law 1044 = .ok (.aload_n 1, 1) ∧ 1045 = 1044 + 1 := op_43 (rb20 44 rfl) rfl
theorem dL_law_1045 : decode cL_law 1045 = .ok (.iload 4, 2) ∧ 1047 = 1045 + 2 := op_21 (rb20 45 rfl) (rb20 46 rfl) rfl
theorem dL_law_1047 : decode cL_law 1047 = .ok (.invokestatic 170, 3) ∧ 1050 = 1047 + 3 := op_184 (rb20 47 rfl) (rb20 48 rfl) (rb20 49 rfl) rfl
theorem dL_law_1050 : decode cL_law 1050 = .ok (.ifCond .ne 5, 3) ∧ 1053 = 1050 + 3 := op_154 (rb21 0 rfl) (rb21 1 rfl) (rb21 2 rfl) rfl rfl
theorem dL_law_1053 : decode cL_law 1053 = .ok (.iconst 0, 1) ∧ 1054 = 1053 + 1 := op_3 (rb21 3 rfl) rfl
theorem dL_law_1054 : decode cL_law 1054 = .ok (.ireturn, 1) ∧ 1055 = 1054 + 1 := op_172 (rb21 4 rfl) rfl
theorem dL_law_1055 : decode cL_law 1055 = .ok (.iload 19, 2) ∧ 1057 = 1055 + 2 := op_21 (rb21 5 rfl) (rb21 6 rfl) rfl
theorem dL_law_1057 : decode cL_law 1057 = .ok (.ifCond .eq 103, 3) ∧ 1060 = 1057 + 3 := op_153 (rb21 7 rfl) (rb21 8 rfl) (rb21 9 rfl) rfl rfl
theorem dL_law_1060 : decode cL_law 1060 = .ok (.iload 4, 2) ∧ 1062 = 1060 + 2 := op_21 (rb21 10 rfl) (rb21 11 rfl) rfl
theorem dL_law_1062 : decode cL_law 1062 = .ok (.bipush 29, 2) ∧ 1064 = 1062 + 2 := op_16 (rb21 12 rfl) (rb21 13 rfl) rfl rfl
theorem dL_law_1064 : decode cL_law 1064 = .ok (.iushr, 1) ∧ 1065 = 1064 + 1 := op_124 (rb21 14 rfl) rfl
theorem dL_law_1065 : decode cL_law 1065 = .ok (.iconst 3, 1) ∧ 1066 = 1065 + 1 := op_6 (rb21 15 rfl) rfl
theorem dL_law_1066 : decode cL_law 1066 = .ok (.iand, 1) ∧ 1067 = 1066 + 1 := op_126 (rb21 16 rfl) rfl
theorem dL_law_1067 : decode cL_law 1067 = .ok (.iconst 1, 1) ∧ 1068 = 1067 + 1 := op_4 (rb21 17 rfl) rfl
theorem dL_law_1068 : decode cL_law 1068 = .ok (.if_icmp .ne 92, 3) ∧ 1071 = 1068 + 3 := op_160 (rb21 18 rfl) (rb21 19 rfl) (rb21 20 rfl) rfl rfl
theorem dL_law_1071 : decode cL_law 1071 = .ok (.iinc 2 (-1), 3) ∧ 1074 = 1071 + 3 := op_132 (rb21 21 rfl) (rb21 22 rfl) (rb21 23 rfl) rfl rfl
theorem dL_law_1074 : decode cL_law 1074 = .ok (.aload_n 1, 1) ∧ 1075 = 1074 + 1 := op_43 (rb21 24 rfl) rfl
theorem dL_law_1075 : decode cL_law 1075 = .ok (.invokevirtual 174, 3) ∧ 1078 = 1075 + 3 := op_182 (rb21 25 rfl) (rb21 26 rfl) (rb21 27 rfl) rfl
theorem dL_law_1078 : decode cL_law 1078 = .ok (.iload_n 2, 1) ∧ 1079 = 1078 + 1 := op_28 (rb21 28 rfl) rfl
theorem dL_law_1079 : decode cL_law 1079 = .ok (.if_icmp .ne 79, 3) ∧ 1082 = 1079 + 3 := op_160 (rb21 29 rfl) (rb21 30 rfl) (rb21 31 rfl) rfl rfl
theorem dL_law_1082 : decode cL_law 1082 = .ok (.aload_n 1, 1) ∧ 1083 = 1082 + 1 := op_43 (rb21 32 rfl) rfl
theorem dL_law_1083 : decode cL_law 1083 = .ok (.iconst 4, 1) ∧ 1084 = 1083 + 1 := op_7 (rb21 33 rfl) rfl
theorem dL_law_1084 : decode cL_law 1084 = .ok (.invokevirtual 78, 3) ∧ 1087 = 1084 + 3 := op_182 (rb21 34 rfl) (rb21 35 rfl) (rb21 36 rfl) rfl
theorem dL_law_1087 : decode cL_law 1087 = .ok (.iload 11, 2) ∧ 1089 = 1087 + 2 := op_21 (rb21 37 rfl) (rb21 38 rfl) rfl
theorem dL_law_1089 : decode cL_law 1089 = .ok (.if_icmp .ne 69, 3) ∧ 1092 = 1089 + 3 := op_160 (rb21 39 rfl) (rb21 40 rfl) (rb21 41 rfl) rfl rfl
theorem dL_law_1092 : decode cL_law 1092 = .ok (.aload_n 1, 1) ∧ 1093 = 1092 + 1 := op_43 (rb21 42 rfl) rfl
theorem dL_law_1093 : decode cL_law 1093 = .ok (.iconst 5, 1) ∧ 1094 = 1093 + 1 := op_8 (rb21 43 rfl) rfl
theorem dL_law_1094 : decode cL_law 1094 = .ok (.invokevirtual 78, 3) ∧ 1097 = 1094 + 3 := op_182 (rb21 44 rfl) (rb21 45 rfl) (rb21 46 rfl) rfl
theorem dL_law_1097 : decode cL_law 1097 = .ok (.iload 12, 2) ∧ 1099 = 1097 + 2 := op_21 (rb21 47 rfl) (rb21 48 rfl) rfl
theorem dL_law_1099 : decode cL_law 1099 = .ok (.if_icmp .ne 59, 3) ∧ 1102 = 1099 + 3 := op_160 (rb21 49 rfl) (rb22 0 rfl) (rb22 1 rfl) rfl rfl
theorem dL_law_1102 : decode cL_law 1102 = .ok (.aload_n 1, 1) ∧ 1103 = 1102 + 1 := op_43 (rb22 2 rfl) rfl
theorem dL_law_1103 : decode cL_law 1103 = .ok (.bipush 6, 2) ∧ 1105 = 1103 + 2 := op_16 (rb22 3 rfl) (rb22 4 rfl) rfl rfl
theorem dL_law_1105 : decode cL_law 1105 = .ok (.invokevirtual 78, 3) ∧ 1108 = 1105 + 3 := op_182 (rb22 5 rfl) (rb22 6 rfl) (rb22 7 rfl) rfl
theorem dL_law_1108 : decode cL_law 1108 = .ok (.iload 13, 2) ∧ 1110 = 1108 + 2 := op_21 (rb22 8 rfl) (rb22 9 rfl) rfl
theorem dL_law_1110 : decode cL_law 1110 = .ok (.if_icmp .ne 48, 3) ∧ 1113 = 1110 + 3 := op_160 (rb22 10 rfl) (rb22 11 rfl) (rb22 12 rfl) rfl rfl
theorem dL_law_1113 : decode cL_law 1113 = .ok (.aload_n 1, 1) ∧ 1114 = 1113 + 1 := op_43 (rb22 13 rfl) rfl
theorem dL_law_1114 : decode cL_law 1114 = .ok (.iload 8, 2) ∧ 1116 = 1114 + 2 := op_21 (rb22 14 rfl) (rb22 15 rfl) rfl
theorem dL_law_1116 : decode cL_law 1116 = .ok (.iconst 1, 1) ∧ 1117 = 1116 + 1 := op_4 (rb22 16 rfl) rfl
theorem dL_law_1117 : decode cL_law 1117 = .ok (.invokevirtual 81, 3) ∧ 1120 = 1117 + 3 := op_182 (rb22 17 rfl) (rb22 18 rfl) (rb22 19 rfl) rfl
theorem dL_law_1120 : decode cL_law 1120 = .ok (.iload 14, 2) ∧ 1122 = 1120 + 2 := op_21 (rb22 20 rfl) (rb22 21 rfl) rfl
theorem dL_law_1122 : decode cL_law 1122 = .ok (.if_icmp .ne 36, 3) ∧ 1125 = 1122 + 3 := op_160 (rb22 22 rfl) (rb22 23 rfl) (rb22 24 rfl) rfl rfl
theorem dL_law_1125 : decode cL_law 1125 = .ok (.aload_n 1, 1) ∧ 1126 = 1125 + 1 := op_43 (rb22 25 rfl) rfl
theorem dL_law_1126 : decode cL_law 1126 = .ok (.iload 6, 2) ∧ 1128 = 1126 + 2 := op_21 (rb22 26 rfl) (rb22 27 rfl) rfl
theorem dL_law_1128 : decode cL_law 1128 = .ok (.iconst 3, 1) ∧ 1129 = 1128 + 1 := op_6 (rb22 28 rfl) rfl
theorem dL_law_1129 : decode cL_law 1129 = .ok (.invokevirtual 87, 3) ∧ 1132 = 1129 + 3 := op_182 (rb22 29 rfl) (rb22 30 rfl) (rb22 31 rfl) rfl
theorem dL_law_1132 : decode cL_law 1132 = .ok (.iload 15, 2) ∧ 1134 = 1132 + 2 := op_21 (rb22 32 rfl) (rb22 33 rfl) rfl
theorem dL_law_1134 : decode cL_law 1134 = .ok (.if_icmp .ne 24, 3) ∧ 1137 = 1134 + 3 := op_160 (rb22 34 rfl) (rb22 35 rfl) (rb22 36 rfl) rfl rfl
theorem dL_law_1137 : decode cL_law 1137 = .ok (.aload_n 1, 1) ∧ 1138 = 1137 + 1 := op_43 (rb22 37 rfl) rfl
theorem dL_law_1138 : decode cL_law 1138 = .ok (.iload 5, 2) ∧ 1140 = 1138 + 2 := op_21 (rb22 38 rfl) (rb22 39 rfl) rfl
theorem dL_law_1140 : decode cL_law 1140 = .ok (.invokevirtual 34, 3) ∧ 1143 = 1140 + 3 := op_182 (rb22 40 rfl) (rb22 41 rfl) (rb22 42 rfl) rfl
theorem dL_law_1143 : decode cL_law 1143 = .ok (.lload 17, 2) ∧ 1145 = 1143 + 2 := op_22 (rb22 43 rfl) (rb22 44 rfl) rfl
theorem dL_law_1145 : decode cL_law 1145 = .ok (.lcmp, 1) ∧ 1146 = 1145 + 1 := op_148 (rb22 45 rfl) rfl
theorem dL_law_1146 : decode cL_law 1146 = .ok (.ifCond .ne 12, 3) ∧ 1149 = 1146 + 3 := op_154 (rb22 46 rfl) (rb22 47 rfl) (rb22 48 rfl) rfl rfl
theorem dL_law_1149 : decode cL_law 1149 = .ok (.aload_n 1, 1) ∧ 1150 = 1149 + 1 := op_43 (rb22 49 rfl) rfl
theorem dL_law_1150 : decode cL_law 1150 = .ok (.invokevirtual 119, 3) ∧ 1153 = 1150 + 3 := op_182 (rb23 0 rfl) (rb23 1 rfl) (rb23 2 rfl) rfl
theorem dL_law_1153 : decode cL_law 1153 = .ok (.iload 10, 2) ∧ 1155 = 1153 + 2 := op_21 (rb23 3 rfl) (rb23 4 rfl) rfl
theorem dL_law_1155 : decode cL_law 1155 = .ok (.if_icmp .eq 5, 3) ∧ 1158 = 1155 + 3 := op_159 (rb23 5 rfl) (rb23 6 rfl) (rb23 7 rfl) rfl rfl
theorem dL_law_1158 : decode cL_law 1158 = .ok (.iconst 0, 1) ∧ 1159 = 1158 + 1 := op_3 (rb23 8 rfl) rfl
theorem dL_law_1159 : decode cL_law 1159 = .ok (.ireturn, 1) ∧ 1160 = 1159 + 1 := op_172 (rb23 9 rfl) rfl
theorem dL_law_1160 : decode cL_law 1160 = .ok (.iinc 3 1, 3) ∧ 1163 = 1160 + 3 := op_132 (rb23 10 rfl) (rb23 11 rfl) (rb23 12 rfl) rfl rfl
theorem dL_law_1163 : decode cL_law 1163 = .ok (.goto (-1074), 3) ∧ 1166 = 1163 + 3 := op_167 (rb23 13 rfl) (rb23 14 rfl) (rb23 15 rfl) rfl rfl
theorem dL_law_1166 : decode cL_law 1166 = .ok (.iconst 1, 1) ∧ 1167 = 1166 + 1 := op_4 (rb23 16 rfl) rfl
theorem dL_law_1167 : decode cL_law 1167 = .ok (.ireturn, 1) ∧ 1168 = 1167 + 1 := op_172 (rb23 17 rfl) rfl
theorem dL_cell_0 : decode cL_cell 0 = .ok (.iload_n 1, 1) ∧ 1 = 0 + 1 := ⟨by decide +kernel, rfl⟩
theorem dL_cell_1 : decode cL_cell 1 = .ok (.aload_n 0, 1) ∧ 2 = 1 + 1 := ⟨by decide +kernel, rfl⟩
theorem dL_cell_2 : decode cL_cell 2 = .ok (.arraylength, 1) ∧ 3 = 2 + 1 := ⟨by decide +kernel, rfl⟩
theorem dL_cell_3 : decode cL_cell 3 = .ok (.if_icmp .ge 9, 3) ∧ 6 = 3 + 3 := ⟨by decide +kernel, rfl⟩
theorem dL_cell_6 : decode cL_cell 6 = .ok (.aload_n 0, 1) ∧ 7 = 6 + 1 := ⟨by decide +kernel, rfl⟩
theorem dL_cell_7 : decode cL_cell 7 = .ok (.iload_n 1, 1) ∧ 8 = 7 + 1 := ⟨by decide +kernel, rfl⟩
theorem dL_cell_8 : decode cL_cell 8 = .ok (.iaload, 1) ∧ 9 = 8 + 1 := ⟨by decide +kernel, rfl⟩
theorem dL_cell_9 : decode cL_cell 9 = .ok (.goto 4, 3) ∧ 12 = 9 + 3 := ⟨by decide +kernel, rfl⟩
theorem dL_cell_12 : decode cL_cell 12 = .ok (.iconst 0, 1) ∧ 13 = 12 + 1 := ⟨by decide +kernel, rfl⟩
theorem dL_cell_13 : decode cL_cell 13 = .ok (.ireturn, 1) ∧ 14 = 13 + 1 := ⟨by decide +kernel, rfl⟩
theorem dL_type_0 : decode cL_type 0 = .ok (.iconst 0, 1) ∧ 1 = 0 + 1 := ⟨by decide +kernel, rfl⟩
theorem dL_type_1 : decode cL_type 1 = .ok (.istore_n 2, 1) ∧ 2 = 1 + 1 := ⟨by decide +kernel, rfl⟩
theorem dL_type_2 : decode cL_type 2 = .ok (.iload_n 2, 1) ∧ 3 = 2 + 1 := ⟨by decide +kernel, rfl⟩
theorem dL_type_3 : decode cL_type 3 = .ok (.aload_n 1, 1) ∧ 4 = 3 + 1 := ⟨by decide +kernel, rfl⟩
theorem dL_type_4 : decode cL_type 4 = .ok (.invokevirtual 7, 3) ∧ 7 = 4 + 3 := ⟨by decide +kernel, rfl⟩
theorem dL_type_7 : decode cL_type 7 = .ok (.if_icmp .ge 88, 3) ∧ 10 = 7 + 3 := ⟨by decide +kernel, rfl⟩
theorem dL_type_10 : decode cL_type 10 = .ok (.iconst 5, 1) ∧ 11 = 10 + 1 := ⟨by decide +kernel, rfl⟩
theorem dL_type_11 : decode cL_type 11 = .ok (.newarray .int, 2) ∧ 13 = 11 + 2 := ⟨by decide +kernel, rfl⟩
theorem dL_type_13 : decode cL_type 13 = .ok (.astore_n 3, 1) ∧ 14 = 13 + 1 := ⟨by decide +kernel, rfl⟩
theorem dL_type_14 : decode cL_type 14 = .ok (.iconst 0, 1) ∧ 15 = 14 + 1 := ⟨by decide +kernel, rfl⟩
theorem dL_type_15 : decode cL_type 15 = .ok (.istore 4, 2) ∧ 17 = 15 + 2 := ⟨by decide +kernel, rfl⟩
theorem dL_type_17 : decode cL_type 17 = .ok (.iload 4, 2) ∧ 19 = 17 + 2 := ⟨by decide +kernel, rfl⟩
theorem dL_type_19 : decode cL_type 19 = .ok (.bipush 20, 2) ∧ 21 = 19 + 2 := ⟨by decide +kernel, rfl⟩
theorem dL_type_21 : decode cL_type 21 = .ok (.if_icmp .ge 48, 3) ∧ 24 = 21 + 3 := ⟨by decide +kernel, rfl⟩
theorem dL_type_24 : decode cL_type 24 = .ok (.aload_n 3, 1) ∧ 25 = 24 + 1 := ⟨by decide +kernel, rfl⟩
theorem dL_type_25 : decode cL_type 25 = .ok (.iload 4, 2) ∧ 27 = 25 + 2 := ⟨by decide +kernel, rfl⟩
theorem dL_type_27 : decode cL_type 27 = .ok (.iconst 4, 1) ∧ 28 = 27 + 1 := ⟨by decide +kernel, rfl⟩
theorem dL_type_28 : decode cL_type 28 = .ok (.idiv, 1) ∧ 29 = 28 + 1 := ⟨by decide +kernel, rfl⟩
theorem dL_type_29 : decode cL_type 29 = .ok (.aload_n 3, 1) ∧ 30 = 29 + 1 := ⟨by decide +kernel, rfl⟩
theorem dL_type_30 : decode cL_type 30 = .ok (.iload 4, 2) ∧ 32 = 30 + 2 := ⟨by decide +kernel, rfl⟩
theorem dL_type_32 : decode cL_type 32 = .ok (.iconst 4, 1) ∧ 33 = 32 + 1 := ⟨by decide +kernel, rfl⟩
theorem dL_type_33 : decode cL_type 33 = .ok (.idiv, 1) ∧ 34 = 33 + 1 := ⟨by decide +kernel, rfl⟩
theorem dL_type_34 : decode cL_type 34 = .ok (.iaload, 1) ∧ 35 = 34 + 1 := ⟨by decide +kernel, rfl⟩
theorem dL_type_35 : decode cL_type 35 = .ok (.bipush 8, 2) ∧ 37 = 35 + 2 := ⟨by decide +kernel, rfl⟩
theorem dL_type_37 : decode cL_type 37 = .ok (.ishl, 1) ∧ 38 = 37 + 1 := ⟨by decide +kernel, rfl⟩
theorem dL_type_38 : decode cL_type 38 = .ok (.iload_n 2, 1) ∧ 39 = 38 + 1 := ⟨by decide +kernel, rfl⟩
theorem dL_type_39 : decode cL_type 39 = .ok (.iload 4, 2) ∧ 41 = 39 + 2 := ⟨by decide +kernel, rfl⟩
theorem dL_type_41 : decode cL_type 41 = .ok (.iadd, 1) ∧ 42 = 41 + 1 := ⟨by decide +kernel, rfl⟩
theorem dL_type_42 : decode cL_type 42 = .ok (.aload_n 1, 1) ∧ 43 = 42 + 1 := ⟨by decide +kernel, rfl⟩
theorem dL_type_43 : decode cL_type 43 = .ok (.invokevirtual 7, 3) ∧ 46 = 43 + 3 := ⟨by decide +kernel, rfl⟩
theorem dL_type_46 : decode cL_type 46 = .ok (.if_icmp .ge 14, 3) ∧ 49 = 46 + 3 := ⟨by decide +kernel, rfl⟩
theorem dL_type_49 : decode cL_type 49 = .ok (.aload_n 1, 1) ∧ 50 = 49 + 1 := ⟨by decide +kernel, rfl⟩
theorem dL_type_50 : decode cL_type 50 = .ok (.iload_n 2, 1) ∧ 51 = 50 + 1 := ⟨by decide +kernel, rfl⟩
theorem dL_type_51 : decode cL_type 51 = .ok (.iload 4, 2) ∧ 53 = 51 + 2 := ⟨by decide +kernel, rfl⟩
theorem dL_type_53 : decode cL_type 53 = .ok (.iadd, 1) ∧ 54 = 53 + 1 := ⟨by decide +kernel, rfl⟩
theorem dL_type_54 : decode cL_type 54 = .ok (.invokevirtual 13, 3) ∧ 57 = 54 + 3 := ⟨by decide +kernel, rfl⟩
theorem dL_type_57 : decode cL_type 57 = .ok (.goto 4, 3) ∧ 60 = 57 + 3 := ⟨by decide +kernel, rfl⟩
theorem dL_type_60 : decode cL_type 60 = .ok (.iconst 0, 1) ∧ 61 = 60 + 1 := ⟨by decide +kernel, rfl⟩
theorem dL_type_61 : decode cL_type 61 = .ok (.ior, 1) ∧ 62 = 61 + 1 := ⟨by decide +kernel, rfl⟩
theorem dL_type_62 : decode cL_type 62 = .ok (.iastore, 1) ∧ 63 = 62 + 1 := ⟨by decide +kernel, rfl⟩
theorem dL_type_63 : decode cL_type 63 = .ok (.iinc 4 1, 3) ∧ 66 = 63 + 3 := ⟨by decide +kernel, rfl⟩
theorem dL_type_66 : decode cL_type 66 = .ok (.goto (-49), 3) ∧ 69 = 66 + 3 := ⟨by decide +kernel, rfl⟩
theorem dL_type_69 : decode cL_type 69 = .ok (.aload_n 0, 1) ∧ 70 = 69 + 1 := ⟨by decide +kernel, rfl⟩
theorem dL_type_70 : decode cL_type 70 = .ok (.aload_n 3, 1) ∧ 71 = 70 + 1 := ⟨by decide +kernel, rfl⟩
theorem dL_type_71 : decode cL_type 71 = .ok (.iconst 0, 1) ∧ 72 = 71 + 1 := ⟨by decide +kernel, rfl⟩
theorem dL_type_72 : decode cL_type 72 = .ok (.iaload, 1) ∧ 73 = 72 + 1 := ⟨by decide +kernel, rfl⟩
theorem dL_type_73 : decode cL_type 73 = .ok (.aload_n 3, 1) ∧ 74 = 73 + 1 := ⟨by decide +kernel, rfl⟩
theorem dL_type_74 : decode cL_type 74 = .ok (.iconst 1, 1) ∧ 75 = 74 + 1 := ⟨by decide +kernel, rfl⟩
theorem dL_type_75 : decode cL_type 75 = .ok (.iaload, 1) ∧ 76 = 75 + 1 := ⟨by decide +kernel, rfl⟩
theorem dL_type_76 : decode cL_type 76 = .ok (.aload_n 3, 1) ∧ 77 = 76 + 1 := ⟨by decide +kernel, rfl⟩
theorem dL_type_77 : decode cL_type 77 = .ok (.iconst 2, 1) ∧ 78 = 77 + 1 := ⟨by decide +kernel, rfl⟩
theorem dL_type_78 : decode cL_type 78 = .ok (.iaload, 1) ∧ 79 = 78 + 1 := ⟨by decide +kernel, rfl⟩
theorem dL_type_79 : decode cL_type 79 = .ok (.aload_n 3, 1) ∧ 80 = 79 + 1 := ⟨by decide +kernel, rfl⟩
theorem dL_type_80 : decode cL_type 80 = .ok (.iconst 3, 1) ∧ 81 = 80 + 1 := ⟨by decide +kernel, rfl⟩
theorem dL_type_81 : decode cL_type 81 = .ok (.iaload, 1) ∧ 82 = 81 + 1 := ⟨by decide +kernel, rfl⟩
theorem dL_type_82 : decode cL_type 82 = .ok (.aload_n 3, 1) ∧ 83 = 82 + 1 := ⟨by decide +kernel, rfl⟩
theorem dL_type_83 : decode cL_type 83 = .ok (.iconst 4, 1) ∧ 84 = 83 + 1 := ⟨by decide +kernel, rfl⟩
theorem dL_type_84 : decode cL_type 84 = .ok (.iaload, 1) ∧ 85 = 84 + 1 := ⟨by decide +kernel, rfl⟩
theorem dL_type_85 : decode cL_type 85 = .ok (.invokevirtual 17, 3) ∧ 88 = 85 + 3 := ⟨by decide +kernel, rfl⟩
theorem dL_type_88 : decode cL_type 88 = .ok (.pop, 1) ∧ 89 = 88 + 1 := ⟨by decide +kernel, rfl⟩
theorem dL_type_89 : decode cL_type 89 = .ok (.iinc 2 20, 3) ∧ 92 = 89 + 3 := ⟨by decide +kernel, rfl⟩
theorem dL_type_92 : decode cL_type 92 = .ok (.goto (-90), 3) ∧ 95 = 92 + 3 := ⟨by decide +kernel, rfl⟩
theorem dL_type_95 : decode cL_type 95 = .ok (.aload_n 0, 1) ∧ 96 = 95 + 1 := ⟨by decide +kernel, rfl⟩
theorem dL_type_96 : decode cL_type 96 = .ok (.aload_n 1, 1) ∧ 97 = 96 + 1 := ⟨by decide +kernel, rfl⟩
theorem dL_type_97 : decode cL_type 97 = .ok (.invokevirtual 7, 3) ∧ 100 = 97 + 3 := ⟨by decide +kernel, rfl⟩
theorem dL_type_100 : decode cL_type 100 = .ok (.invokevirtual 23, 3) ∧ 103 = 100 + 3 := ⟨by decide +kernel, rfl⟩
theorem dL_type_103 : decode cL_type 103 = .ok (.pop, 1) ∧ 104 = 103 + 1 := ⟨by decide +kernel, rfl⟩
theorem dL_type_104 : decode cL_type 104 = .ok (.return_, 1) ∧ 105 = 104 + 1 := ⟨by decide +kernel, rfl⟩
theorem dL_holds_0 : decode cL_holds 0 = .ok (.iconst 1, 1) ∧ 1 = 0 + 1 := ⟨by decide +kernel, rfl⟩
theorem dL_holds_1 : decode cL_holds 1 = .ok (.iload_n 1, 1) ∧ 2 = 1 + 1 := ⟨by decide +kernel, rfl⟩
theorem dL_holds_2 : decode cL_holds 2 = .ok (.iconst 4, 1) ∧ 3 = 2 + 1 := ⟨by decide +kernel, rfl⟩
theorem dL_holds_3 : decode cL_holds 3 = .ok (.iushr, 1) ∧ 4 = 3 + 1 := ⟨by decide +kernel, rfl⟩
theorem dL_holds_4 : decode cL_holds 4 = .ok (.bipush 31, 2) ∧ 6 = 4 + 2 := ⟨by decide +kernel, rfl⟩
theorem dL_holds_6 : decode cL_holds 6 = .ok (.iand, 1) ∧ 7 = 6 + 1 := ⟨by decide +kernel, rfl⟩
theorem dL_holds_7 : decode cL_holds 7 = .ok (.iadd, 1) ∧ 8 = 7 + 1 := ⟨by decide +kernel, rfl⟩
theorem dL_holds_8 : decode cL_holds 8 = .ok (.istore_n 2, 1) ∧ 9 = 8 + 1 := ⟨by decide +kernel, rfl⟩
theorem dL_holds_9 : decode cL_holds 9 = .ok (.iconst 1, 1) ∧ 10 = 9 + 1 := ⟨by decide +kernel, rfl⟩
theorem dL_holds_10 : decode cL_holds 10 = .ok (.iload_n 1, 1) ∧ 11 = 10 + 1 := ⟨by decide +kernel, rfl⟩
theorem dL_holds_11 : decode cL_holds 11 = .ok (.bipush 9, 2) ∧ 13 = 11 + 2 := ⟨by decide +kernel, rfl⟩
theorem dL_holds_13 : decode cL_holds 13 = .ok (.iushr, 1) ∧ 14 = 13 + 1 := ⟨by decide +kernel, rfl⟩
theorem dL_holds_14 : decode cL_holds 14 = .ok (.sipush 255, 3) ∧ 17 = 14 + 3 := ⟨by decide +kernel, rfl⟩
theorem dL_holds_17 : decode cL_holds 17 = .ok (.iand, 1) ∧ 18 = 17 + 1 := ⟨by decide +kernel, rfl⟩
theorem dL_holds_18 : decode cL_holds 18 = .ok (.iadd, 1) ∧ 19 = 18 + 1 := ⟨by decide +kernel, rfl⟩
theorem dL_holds_19 : decode cL_holds 19 = .ok (.istore_n 3, 1) ∧ 20 = 19 + 1 := ⟨by decide +kernel, rfl⟩
theorem dL_holds_20 : decode cL_holds 20 = .ok (.iconst 0, 1) ∧ 21 = 20 + 1 := ⟨by decide +kernel, rfl⟩
theorem dL_holds_21 : decode cL_holds 21 = .ok (.istore 4, 2) ∧ 23 = 21 + 2 := ⟨by decide +kernel, rfl⟩
theorem dL_holds_23 : decode cL_holds 23 = .ok (.iload 4, 2) ∧ 25 = 23 + 2 := ⟨by decide +kernel, rfl⟩
theorem dL_holds_25 : decode cL_holds 25 = .ok (.iconst 3, 1) ∧ 26 = 25 + 1 := ⟨by decide +kernel, rfl⟩
theorem dL_holds_26 : decode cL_holds 26 = .ok (.if_icmp .ge 437, 3) ∧ 29 = 26 + 3 := ⟨by decide +kernel, rfl⟩
theorem dL_holds_29 : decode cL_holds 29 = .ok (.aload_n 0, 1) ∧ 30 = 29 + 1 := ⟨by decide +kernel, rfl⟩
theorem dL_holds_30 : decode cL_holds 30 = .ok (.iload 4, 2) ∧ 32 = 30 + 2 := ⟨by decide +kernel, rfl⟩
theorem dL_holds_32 : decode cL_holds 32 = .ok (.iconst 3, 1) ∧ 33 = 32 + 1 := ⟨by decide +kernel, rfl⟩
theorem dL_holds_33 : decode cL_holds 33 = .ok (.invokevirtual 27, 3) ∧ 36 = 33 + 3 := ⟨by decide +kernel, rfl⟩
theorem dL_holds_36 : decode cL_holds 36 = .ok (.istore 5, 2) ∧ 38 = 36 + 2 := ⟨by decide +kernel, rfl⟩
theorem dL_holds_38 : decode cL_holds 38 = .ok (.aload_n 0, 1) ∧ 39 = 38 + 1 := ⟨by decide +kernel, rfl⟩
theorem dL_holds_39 : decode cL_holds 39 = .ok (.iload 4, 2) ∧ 41 = 39 + 2 := ⟨by decide +kernel, rfl⟩
theorem dL_holds_41 : decode cL_holds 41 = .ok (.invokevirtual 31, 3) ∧ 44 = 41 + 3 := ⟨by decide +kernel, rfl⟩
theorem dL_holds_44 : decode cL_holds 44 = .ok (.istore 6, 2) ∧ 46 = 44 + 2 := ⟨by decide +kernel, rfl⟩
theorem dL_holds_46 : decode cL_holds 46 = .ok (.aload_n 0, 1) ∧ 47 = 46 + 1 := ⟨by decide +kernel, rfl⟩
theorem dL_holds_47 : decode cL_holds 47 = .ok (.iload 4, 2) ∧ 49 = 47 + 2 := ⟨by decide +kernel, rfl⟩
theorem dL_holds_49 : decode cL_holds 49 = .ok (.invokevirtual 34, 3) ∧ 52 = 49 + 3 := ⟨by decide +kernel, rfl⟩
theorem dL_holds_52 : decode cL_holds 52 = .ok (.lconst 0, 1) ∧ 53 = 52 + 1 := ⟨by decide +kernel, rfl⟩
theorem dL_holds_53 : decode cL_holds 53 = .ok (.lcmp, 1) ∧ 54 = 53 + 1 := ⟨by decide +kernel, rfl⟩
theorem dL_holds_54 : decode cL_holds 54 = .ok (.ifCond .lt 53, 3) ∧ 57 = 54 + 3 := ⟨by decide +kernel, rfl⟩
theorem dL_holds_57 : decode cL_holds 57 = .ok (.iload 5, 2) ∧ 59 = 57 + 2 := ⟨by decide +kernel, rfl⟩
theorem dL_holds_59 : decode cL_holds 59 = .ok (.i2l, 1) ∧ 60 = 59 + 1 := ⟨by decide +kernel, rfl⟩
theorem dL_holds_60 : decode cL_holds 60 = .ok (.aload_n 0, 1) ∧ 61 = 60 + 1 := ⟨by decide +kernel, rfl⟩
theorem dL_holds_61 : decode cL_holds 61 = .ok (.iload 4, 2) ∧ 63 = 61 + 2 := ⟨by decide +kernel, rfl⟩
theorem dL_holds_63 : decode cL_holds 63 = .ok (.invokevirtual 34, 3) ∧ 66 = 63 + 3 := ⟨by decide +kernel, rfl⟩
theorem dL_holds_66 : decode cL_holds 66 = .ok (.aload_n 0, 1) ∧ 67 = 66 + 1 := ⟨by decide +kernel, rfl⟩
theorem dL_holds_67 : decode cL_holds 67 = .ok (.iload 4, 2) ∧ 69 = 67 + 2 := ⟨by decide +kernel, rfl⟩
theorem dL_holds_69 : decode cL_holds 69 = .ok (.iconst 0, 1) ∧ 70 = 69 + 1 := ⟨by decide +kernel, rfl⟩
theorem dL_holds_70 : decode cL_holds 70 = .ok (.invokevirtual 27, 3) ∧ 73 = 70 + 3 := ⟨by decide +kernel, rfl⟩
theorem dL_holds_73 : decode cL_holds 73 = .ok (.i2l, 1) ∧ 74 = 73 + 1 := ⟨by decide +kernel, rfl⟩
theorem dL_holds_74 : decode cL_holds 74 = .ok (.ldiv, 1) ∧ 75 = 74 + 1 := ⟨by decide +kernel, rfl⟩
theorem dL_holds_75 : decode cL_holds 75 = .ok (.lcmp, 1) ∧ 76 = 75 + 1 := ⟨by decide +kernel, rfl⟩
theorem dL_holds_76 : decode cL_holds 76 = .ok (.ifCond .ne 31, 3) ∧ 79 = 76 + 3 := ⟨by decide +kernel, rfl⟩
theorem dL_holds_79 : decode cL_holds 79 = .ok (.iload 6, 2) ∧ 81 = 79 + 2 := ⟨by decide +kernel, rfl⟩
theorem dL_holds_81 : decode cL_holds 81 = .ok (.iload 4, 2) ∧ 83 = 81 + 2 := ⟨by decide +kernel, rfl⟩
theorem dL_holds_83 : decode cL_holds 83 = .ok (.ishr, 1) ∧ 84 = 83 + 1 := ⟨by decide +kernel, rfl⟩
theorem dL_holds_84 : decode cL_holds 84 = .ok (.iconst 1, 1) ∧ 85 = 84 + 1 := ⟨by decide +kernel, rfl⟩
theorem dL_holds_85 : decode cL_holds 85 = .ok (.iand, 1) ∧ 86 = 85 + 1 := ⟨by decide +kernel, rfl⟩
theorem dL_holds_86 : decode cL_holds 86 = .ok (.ifCond .eq 21, 3) ∧ 89 = 86 + 3 := ⟨by decide +kernel, rfl⟩
theorem dL_holds_89 : decode cL_holds 89 = .ok (.aload_n 0, 1) ∧ 90 = 89 + 1 := ⟨by decide +kernel, rfl⟩
theorem dL_holds_90 : decode cL_holds 90 = .ok (.iload 4, 2) ∧ 92 = 90 + 2 := ⟨by decide +kernel, rfl⟩
theorem dL_holds_92 : decode cL_holds 92 = .ok (.invokevirtual 38, 3) ∧ 95 = 92 + 3 := ⟨by decide +kernel, rfl⟩
theorem dL_holds_95 : decode cL_holds 95 = .ok (.ifCond .eq 14, 3) ∧ 98 = 95 + 3 := ⟨by decide +kernel, rfl⟩
theorem dL_holds_98 : decode cL_holds 98 = .ok (.iload 6, 2) ∧ 100 = 98 + 2 := ⟨by decide +kernel, rfl⟩
theorem dL_holds_100 : decode cL_holds 100 = .ok (.iconst 1, 1) ∧ 101 = 100 + 1 := ⟨by decide +kernel, rfl⟩
theorem dL_holds_101 : decode cL_holds 101 = .ok (.iload 4, 2) ∧ 103 = 101 + 2 := ⟨by decide +kernel, rfl⟩
theorem dL_holds_103 : decode cL_holds 103 = .ok (.ishl, 1) ∧ 104 = 103 + 1 := ⟨by decide +kernel, rfl⟩
theorem dL_holds_104 : decode cL_holds 104 = .ok (.if_icmp .eq 5, 3) ∧ 107 = 104 + 3 := ⟨by decide +kernel, rfl⟩
theorem dL_holds_107 : decode cL_holds 107 = .ok (.iconst 0, 1) ∧ 108 = 107 + 1 := ⟨by decide +kernel, rfl⟩
theorem dL_holds_108 : decode cL_holds 108 = .ok (.ireturn, 1) ∧ 109 = 108 + 1 := ⟨by decide +kernel, rfl⟩
theorem dL_holds_109 : decode cL_holds 109 = .ok (.aload_n 0, 1) ∧ 110 = 109 + 1 := ⟨by decide +kernel, rfl⟩
theorem dL_holds_110 : decode cL_holds 110 = .ok (.iload 4, 2) ∧ 112 = 110 + 2 := ⟨by decide +kernel, rfl⟩
theorem dL_holds_112 : decode cL_holds 112 = .ok (.iload_n 2, 1) ∧ 113 = 112 + 1 := ⟨by decide +kernel, rfl⟩
theorem dL_holds_113 : decode cL_holds 113 = .ok (.invokevirtual 42, 3) ∧ 116 = 113 + 3 := ⟨by decide +kernel, rfl⟩
theorem dL_holds_116 : decode cL_holds 116 = .ok (.istore 7, 2) ∧ 118 = 116 + 2 := ⟨by decide +kernel, rfl⟩
theorem dL_holds_118 : decode cL_holds 118 = .ok (.aload_n 0, 1) ∧ 119 = 118 + 1 := ⟨by decide +kernel, rfl⟩
theorem dL_holds_119 : decode cL_holds 119 = .ok (.iload 4, 2) ∧ 121 = 119 + 2 := ⟨by decide +kernel, rfl⟩
theorem dL_holds_121 : decode cL_holds 121 = .ok (.iload_n 2, 1) ∧ 122 = 121 + 1 := ⟨by decide +kernel, rfl⟩
theorem dL_holds_122 : decode cL_holds 122 = .ok (.invokevirtual 45, 3) ∧ 125 = 122 + 3 := ⟨by decide +kernel, rfl⟩
theorem dL_holds_125 : decode cL_holds 125 = .ok (.istore 8, 2) ∧ 127 = 125 + 2 := ⟨by decide +kernel, rfl⟩
theorem dL_holds_127 : decode cL_holds 127 = .ok (.aload_n 0, 1) ∧ 128 = 127 + 1 := ⟨by decide +kernel, rfl⟩
theorem dL_holds_128 : decode cL_holds 128 = .ok (.iload 4, 2) ∧ 130 = 128 + 2 := ⟨by decide +kernel, rfl⟩
theorem dL_holds_130 : decode cL_holds 130 = .ok (.iload_n 2, 1) ∧ 131 = 130 + 1 := ⟨by decide +kernel, rfl⟩
theorem dL_holds_131 : decode cL_holds 131 = .ok (.invokevirtual 48, 3) ∧ 134 = 131 + 3 := ⟨by decide +kernel, rfl⟩
theorem dL_holds_134 : decode cL_holds 134 = .ok (.dstore 9, 2) ∧ 136 = 134 + 2 := ⟨by decide +kernel, rfl⟩
theorem dL_holds_136 : decode cL_holds 136 = .ok (.iload 7, 2) ∧ 138 = 136 + 2 := ⟨by decide +kernel, rfl⟩
theorem dL_holds_138 : decode cL_holds 138 = .ok (.iload 5, 2) ∧ 140 = 138 + 2 := ⟨by decide +kernel, rfl⟩
theorem dL_holds_140 : decode cL_holds 140 = .ok (.if_icmp .gt 31, 3) ∧ 143 = 140 + 3 := ⟨by decide +kernel, rfl⟩
theorem dL_holds_143 : decode cL_holds 143 = .ok (.iload 7, 2) ∧ 145 = 143 + 2 := ⟨by decide +kernel, rfl⟩
theorem dL_holds_145 : decode cL_holds 145 = .ok (.iload 8, 2) ∧ 147 = 145 + 2 := ⟨by decide +kernel, rfl⟩
theorem dL_holds_147 : decode cL_holds 147 = .ok (.if_icmp .gt 24, 3) ∧ 150 = 147 + 3 := ⟨by decide +kernel, rfl⟩
theorem dL_holds_150 : decode cL_holds 150 = .ok (.dload 9, 2) ∧ 152 = 150 + 2 := ⟨by decide +kernel, rfl⟩
theorem dL_holds_152 : decode cL_holds 152 = .ok (.iload 7, 2) ∧ 154 = 152 + 2 := ⟨by decide +kernel, rfl⟩
theorem dL_holds_154 : decode cL_holds 154 = .ok (.i2d, 1) ∧ 155 = 154 + 1 := ⟨by decide +kernel, rfl⟩
theorem dL_holds_155 : decode cL_holds 155 = .ok (.dcmp .g, 1) ∧ 156 = 155 + 1 := ⟨by decide +kernel, rfl⟩
theorem dL_holds_156 : decode cL_holds 156 = .ok (.ifCond .lt 15, 3) ∧ 159 = 156 + 3 := ⟨by decide +kernel, rfl⟩
theorem dL_holds_159 : decode cL_holds 159 = .ok (.aload_n 0, 1) ∧ 160 = 159 + 1 := ⟨by decide +kernel, rfl⟩
theorem dL_holds_160 : decode cL_holds 160 = .ok (.iload 4, 2) ∧ 162 = 160 + 2 := ⟨by decide +kernel, rfl⟩
theorem dL_holds_162 : decode cL_holds 162 = .ok (.iconst 1, 1) ∧ 163 = 162 + 1 := ⟨by decide +kernel, rfl⟩
theorem dL_holds_163 : decode cL_holds 163 = .ok (.invokevirtual 45, 3) ∧ 166 = 163 + 3 := ⟨by decide +kernel, rfl⟩
theorem dL_holds_166 : decode cL_holds 166 = .ok (.iload 7, 2) ∧ 168 = 166 + 2 := ⟨by decide +kernel, rfl⟩
theorem dL_holds_168 : decode cL_holds 168 = .ok (.if_icmp .ge 5, 3) ∧ 171 = 168 + 3 := ⟨by decide +kernel, rfl⟩
theorem dL_holds_171 : decode cL_holds 171 = .ok (.iconst 0, 1) ∧ 172 = 171 + 1 := ⟨by decide +kernel, rfl⟩
theorem dL_holds_172 : decode cL_holds 172 = .ok (.ireturn, 1) ∧ 173 = 172 + 1 := ⟨by decide +kernel, rfl⟩
theorem dL_holds_173 : decode cL_holds 173 = .ok (.aload_n 0, 1) ∧ 174 = 173 + 1 := ⟨by decide +kernel, rfl⟩
theorem dL_holds_174 : decode cL_holds 174 = .ok (.iload 4, 2) ∧ 176 = 174 + 2 := ⟨by decide +kernel, rfl⟩
theorem dL_holds_176 : decode cL_holds 176 = .ok (.invokevirtual 52, 3) ∧ 179 = 176 + 3 := ⟨by decide +kernel, rfl⟩
theorem dL_holds_179 : decode cL_holds 179 = .ok (.ifCond .lt 41, 3) ∧ 182 = 179 + 3 := ⟨by decide +kernel, rfl⟩
theorem dL_holds_182 : decode cL_holds 182 = .ok (.aload_n 0, 1) ∧ 183 = 182 + 1 := ⟨by decide +kernel, rfl⟩
theorem dL_holds_183 : decode cL_holds 183 = .ok (.iload 4, 2) ∧ 185 = 183 + 2 := ⟨by decide +kernel, rfl⟩
theorem dL_holds_185 : decode cL_holds 185 = .ok (.invokevirtual 55, 3) ∧ 188 = 185 + 3 := ⟨by decide +kernel, rfl⟩
theorem dL_holds_188 : decode cL_holds 188 = .ok (.ifCond .lt 32, 3) ∧ 191 = 188 + 3 := ⟨by decide +kernel, rfl⟩
theorem dL_holds_191 : decode cL_holds 191 = .ok (.iload 6, 2) ∧ 193 = 191 + 2 := ⟨by decide +kernel, rfl⟩
theorem dL_holds_193 : decode cL_holds 193 = .ok (.iconst 1, 1) ∧ 194 = 193 + 1 := ⟨by decide +kernel, rfl⟩
theorem dL_holds_194 : decode cL_holds 194 = .ok (.iload 4, 2) ∧ 196 = 194 + 2 := ⟨by decide +kernel, rfl⟩
theorem dL_holds_196 : decode cL_holds 196 = .ok (.ishl, 1) ∧ 197 = 196 + 1 := ⟨by decide +kernel, rfl⟩
theorem dL_holds_197 : decode cL_holds 197 = .ok (.if_icmp .ne 25, 3) ∧ 200 = 197 + 3 := ⟨by decide +kernel, rfl⟩
theorem dL_holds_200 : decode cL_holds 200 = .ok (.aload_n 0, 1) ∧ 201 = 200 + 1 := ⟨by decide +kernel, rfl⟩
theorem dL_holds_201 : decode cL_holds 201 = .ok (.iload 4, 2) ∧ 203 = 201 + 2 := ⟨by decide +kernel, rfl⟩
theorem dL_holds_203 : decode cL_holds 203 = .ok (.invokevirtual 52, 3) ∧ 206 = 203 + 3 := ⟨by decide +kernel, rfl⟩
theorem dL_holds_206 : decode cL_holds 206 = .ok (.ifCond .ne 14, 3) ∧ 209 = 206 + 3 := ⟨by decide +kernel, rfl⟩
theorem dL_holds_209 : decode cL_holds 209 = .ok (.aload_n 0, 1) ∧ 210 = 209 + 1 := ⟨by decide +kernel, rfl⟩
theorem dL_holds_210 : decode cL_holds 210 = .ok (.iload 4, 2) ∧ 212 = 210 + 2 := ⟨by decide +kernel, rfl⟩
theorem dL_holds_212 : decode cL_holds 212 = .ok (.invokevirtual 55, 3) ∧ 215 = 212 + 3 := ⟨by decide +kernel, rfl⟩
theorem dL_holds_215 : decode cL_holds 215 = .ok (.iload 5, 2) ∧ 217 = 215 + 2 := ⟨by decide +kernel, rfl⟩
theorem dL_holds_217 : decode cL_holds 217 = .ok (.if_icmp .eq 5, 3) ∧ 220 = 217 + 3 := ⟨by decide +kernel, rfl⟩
theorem dL_holds_220 : decode cL_holds 220 = .ok (.iconst 0, 1) ∧ 221 = 220 + 1 := ⟨by decide +kernel, rfl⟩
theorem dL_holds_221 : decode cL_holds 221 = .ok (.ireturn, 1) ∧ 222 = 221 + 1 := ⟨by decide +kernel, rfl⟩
theorem dL_holds_222 : decode cL_holds 222 = .ok (.iconst 0, 1) ∧ 223 = 222 + 1 := ⟨by decide +kernel, rfl⟩
theorem dL_holds_223 : decode cL_holds 223 = .ok (.istore 11, 2) ∧ 225 = 223 + 2 := ⟨by decide +kernel, rfl⟩
theorem dL_holds_225 : decode cL_holds 225 = .ok (.iload 11, 2) ∧ 227 = 225 + 2 := ⟨by decide +kernel, rfl⟩
theorem dL_holds_227 : decode cL_holds 227 = .ok (.iconst 3, 1) ∧ 228 = 227 + 1 := ⟨by decide +kernel, rfl⟩
theorem dL_holds_228 : decode cL_holds 228 = .ok (.if_icmp .ge 88, 3) ∧ 231 = 228 + 3 := ⟨by decide +kernel, rfl⟩
theorem dL_holds_231 : decode cL_holds 231 = .ok (.iload 6, 2) ∧ 233 = 231 + 2 := ⟨by decide +kernel, rfl⟩
theorem dL_holds_233 : decode cL_holds 233 = .ok (.iload 11, 2) ∧ 235 = 233 + 2 := ⟨by decide +kernel, rfl⟩
theorem dL_holds_235 : decode cL_holds 235 = .ok (.ishr, 1) ∧ 236 = 235 + 1 := ⟨by decide +kernel, rfl⟩
theorem dL_holds_236 : decode cL_holds 236 = .ok (.iconst 1, 1) ∧ 237 = 236 + 1 := ⟨by decide +kernel, rfl⟩
theorem dL_holds_237 : decode cL_holds 237 = .ok (.iand, 1) ∧ 238 = 237 + 1 := ⟨by decide +kernel, rfl⟩
theorem dL_holds_238 : decode cL_holds 238 = .ok (.aload_n 0, 1) ∧ 239 = 238 + 1 := ⟨by decide +kernel, rfl⟩
theorem dL_holds_239 : decode cL_holds 239 = .ok (.iload 11, 2) ∧ 241 = 239 + 2 := ⟨by decide +kernel, rfl⟩
theorem dL_holds_241 : decode cL_holds 241 = .ok (.invokevirtual 31, 3) ∧ 244 = 241 + 3 := ⟨by decide +kernel, rfl⟩
theorem dL_holds_244 : decode cL_holds 244 = .ok (.iload 4, 2) ∧ 246 = 244 + 2 := ⟨by decide +kernel, rfl⟩
theorem dL_holds_246 : decode cL_holds 246 = .ok (.ishr, 1) ∧ 247 = 246 + 1 := ⟨by decide +kernel, rfl⟩
theorem dL_holds_247 : decode cL_holds 247 = .ok (.iconst 1, 1) ∧ 248 = 247 + 1 := ⟨by decide +kernel, rfl⟩
theorem dL_holds_248 : decode cL_holds 248 = .ok (.iand, 1) ∧ 249 = 248 + 1 := ⟨by decide +kernel, rfl⟩
theorem dL_holds_249 : decode cL_holds 249 = .ok (.if_icmp .ne 59, 3) ∧ 252 = 249 + 3 := ⟨by decide +kernel, rfl⟩
theorem dL_holds_252 : decode cL_holds 252 = .ok (.aload_n 0, 1) ∧ 253 = 252 + 1 := ⟨by decide +kernel, rfl⟩
theorem dL_holds_253 : decode cL_holds 253 = .ok (.iload 4, 2) ∧ 255 = 253 + 2 := ⟨by decide +kernel, rfl⟩
theorem dL_holds_255 : decode cL_holds 255 = .ok (.iload 11, 2) ∧ 257 = 255 + 2 := ⟨by decide +kernel, rfl⟩
theorem dL_holds_257 : decode cL_holds 257 = .ok (.invokevirtual 58, 3) ∧ 260 = 257 + 3 := ⟨by decide +kernel, rfl⟩
theorem dL_holds_260 : decode cL_holds 260 = .ok (.aload_n 0, 1) ∧ 261 = 260 + 1 := ⟨by decide +kernel, rfl⟩
theorem dL_holds_261 : decode cL_holds 261 = .ok (.iload 11, 2) ∧ 263 = 261 + 2 := ⟨by decide +kernel, rfl⟩
theorem dL_holds_263 : decode cL_holds 263 = .ok (.iload 4, 2) ∧ 265 = 263 + 2 := ⟨by decide +kernel, rfl⟩
theorem dL_holds_265 : decode cL_holds 265 = .ok (.invokevirtual 58, 3) ∧ 268 = 265 + 3 := ⟨by decide +kernel, rfl⟩
theorem dL_holds_268 : decode cL_holds 268 = .ok (.if_icmp .ne 40, 3) ∧ 271 = 268 + 3 := ⟨by decide +kernel, rfl⟩
theorem dL_holds_271 : decode cL_holds 271 = .ok (.iload 6, 2) ∧ 273 = 271 + 2 := ⟨by decide +kernel, rfl⟩
theorem dL_holds_273 : decode cL_holds 273 = .ok (.iload 11, 2) ∧ 275 = 273 + 2 := ⟨by decide +kernel, rfl⟩
theorem dL_holds_275 : decode cL_holds 275 = .ok (.ishr, 1) ∧ 276 = 275 + 1 := ⟨by decide +kernel, rfl⟩
theorem dL_holds_276 : decode cL_holds 276 = .ok (.iconst 1, 1) ∧ 277 = 276 + 1 := ⟨by decide +kernel, rfl⟩
theorem dL_holds_277 : decode cL_holds 277 = .ok (.iand, 1) ∧ 278 = 277 + 1 := ⟨by decide +kernel, rfl⟩
theorem dL_holds_278 : decode cL_holds 278 = .ok (.iconst 1, 1) ∧ 279 = 278 + 1 := ⟨by decide +kernel, rfl⟩
theorem dL_holds_279 : decode cL_holds 279 = .ok (.if_icmp .ne 31, 3) ∧ 282 = 279 + 3 := ⟨by decide +kernel, rfl⟩
theorem dL_holds_282 : decode cL_holds 282 = .ok (.aload_n 0, 1) ∧ 283 = 282 + 1 := ⟨by decide +kernel, rfl⟩
theorem dL_holds_283 : decode cL_holds 283 = .ok (.iload 4, 2) ∧ 285 = 283 + 2 := ⟨by decide +kernel, rfl⟩
theorem dL_holds_285 : decode cL_holds 285 = .ok (.iload 11, 2) ∧ 287 = 285 + 2 := ⟨by decide +kernel, rfl⟩
theorem dL_holds_287 : decode cL_holds 287 = .ok (.invokevirtual 58, 3) ∧ 290 = 287 + 3 := ⟨by decide +kernel, rfl⟩
theorem dL_holds_290 : decode cL_holds 290 = .ok (.ifCond .lt 18, 3) ∧ 293 = 290 + 3 := ⟨by decide +kernel, rfl⟩
theorem dL_holds_293 : decode cL_holds 293 = .ok (.aload_n 0, 1) ∧ 294 = 293 + 1 := ⟨by decide +kernel, rfl⟩
theorem dL_holds_294 : decode cL_holds 294 = .ok (.iload 4, 2) ∧ 296 = 294 + 2 := ⟨by decide +kernel, rfl⟩
theorem dL_holds_296 : decode cL_holds 296 = .ok (.invokevirtual 61, 3) ∧ 299 = 296 + 3 := ⟨by decide +kernel, rfl⟩
theorem dL_holds_299 : decode cL_holds 299 = .ok (.aload_n 0, 1) ∧ 300 = 299 + 1 := ⟨by decide +kernel, rfl⟩
theorem dL_holds_300 : decode cL_holds 300 = .ok (.iload 11, 2) ∧ 302 = 300 + 2 := ⟨by decide +kernel, rfl⟩
theorem dL_holds_302 : decode cL_holds 302 = .ok (.invokevirtual 61, 3) ∧ 305 = 302 + 3 := ⟨by decide +kernel, rfl⟩
theorem dL_holds_305 : decode cL_holds 305 = .ok (.if_icmp .eq 5, 3) ∧ 308 = 305 + 3 := ⟨by decide +kernel, rfl⟩
theorem dL_holds_308 : decode cL_holds 308 = .ok (.iconst 0, 1) ∧ 309 = 308 + 1 := ⟨by decide +kernel, rfl⟩
theorem dL_holds_309 : decode cL_holds 309 = .ok (.ireturn, 1) ∧ 310 = 309 + 1 := ⟨by decide +kernel, rfl⟩
theorem dL_holds_310 : decode cL_holds 310 = .ok (.iinc 11 1, 3) ∧ 313 = 310 + 3 := ⟨by decide +kernel, rfl⟩
theorem dL_holds_313 : decode cL_holds 313 = .ok (.goto (-88), 3) ∧ 316 = 313 + 3 := ⟨by decide +kernel, rfl⟩
theorem dL_holds_316 : decode cL_holds 316 = .ok (.aload_n 0, 1) ∧ 317 = 316 + 1 := ⟨by decide +kernel, rfl⟩
theorem dL_holds_317 : decode cL_holds 317 = .ok (.iload 4, 2) ∧ 319 = 317 + 2 := ⟨by decide +kernel, rfl⟩
theorem dL_holds_319 : decode cL_holds 319 = .ok (.iload_n 3, 1) ∧ 320 = 319 + 1 := ⟨by decide +kernel, rfl⟩
theorem dL_holds_320 : decode cL_holds 320 = .ok (.invokevirtual 64, 3) ∧ 323 = 320 + 3 := ⟨by decide +kernel, rfl⟩
theorem dL_holds_323 : decode cL_holds 323 = .ok (.istore 11, 2) ∧ 325 = 323 + 2 := ⟨by decide +kernel, rfl⟩
theorem dL_holds_325 : decode cL_holds 325 = .ok (.aload_n 0, 1) ∧ 326 = 325 + 1 := ⟨by decide +kernel, rfl⟩
theorem dL_holds_326 : decode cL_holds 326 = .ok (.iload 4, 2) ∧ 328 = 326 + 2 := ⟨by decide +kernel, rfl⟩
theorem dL_holds_328 : decode cL_holds 328 = .ok (.iload_n 3, 1) ∧ 329 = 328 + 1 := ⟨by decide +kernel, rfl⟩
theorem dL_holds_329 : decode cL_holds 329 = .ok (.invokevirtual 67, 3) ∧ 332 = 329 + 3 := ⟨by decide +kernel, rfl⟩
theorem dL_holds_332 : decode cL_holds 332 = .ok (.istore 12, 2) ∧ 334 = 332 + 2 := ⟨by decide +kernel, rfl⟩
theorem dL_holds_334 : decode cL_holds 334 = .ok (.aload_n 0, 1) ∧ 335 = 334 + 1 := ⟨by decide +kernel, rfl⟩
theorem dL_holds_335 : decode cL_holds 335 = .ok (.iload 11, 2) ∧ 337 = 335 + 2 := ⟨by decide +kernel, rfl⟩
theorem dL_holds_337 : decode cL_holds 337 = .ok (.invokevirtual 70, 3) ∧ 340 = 337 + 3 := ⟨by decide +kernel, rfl⟩
theorem dL_holds_340 : decode cL_holds 340 = .ok (.aload_n 0, 1) ∧ 341 = 340 + 1 := ⟨by decide +kernel, rfl⟩
theorem dL_holds_341 : decode cL_holds 341 = .ok (.iload 4, 2) ∧ 343 = 341 + 2 := ⟨by decide +kernel, rfl⟩
theorem dL_holds_343 : decode cL_holds 343 = .ok (.iconst 4, 1) ∧ 344 = 343 + 1 := ⟨by decide +kernel, rfl⟩
theorem dL_holds_344 : decode cL_holds 344 = .ok (.invokevirtual 27, 3) ∧ 347 = 344 + 3 := ⟨by decide +kernel, rfl⟩
theorem dL_holds_347 : decode cL_holds 347 = .ok (.if_icmp .gt 29, 3) ∧ 350 = 347 + 3 := ⟨by decide +kernel, rfl⟩
theorem dL_holds_350 : decode cL_holds 350 = .ok (.iload 12, 2) ∧ 352 = 350 + 2 := ⟨by decide +kernel, rfl⟩
theorem dL_holds_352 : decode cL_holds 352 = .ok (.iload 11, 2) ∧ 354 = 352 + 2 := ⟨by decide +kernel, rfl⟩
theorem dL_holds_354 : decode cL_holds 354 = .ok (.invokestatic 73, 3) ∧ 357 = 354 + 3 := ⟨by decide +kernel, rfl⟩
theorem dL_holds_357 : decode cL_holds 357 = .ok (.if_icmp .lt 19, 3) ∧ 360 = 357 + 3 := ⟨by decide +kernel, rfl⟩
theorem dL_holds_360 : decode cL_holds 360 = .ok (.iload 11, 2) ∧ 362 = 360 + 2 := ⟨by decide +kernel, rfl⟩
theorem dL_holds_362 : decode cL_holds 362 = .ok (.ifCond .eq 16, 3) ∧ 365 = 362 + 3 := ⟨by decide +kernel, rfl⟩
theorem dL_holds_365 : decode cL_holds 365 = .ok (.aload_n 0, 1) ∧ 366 = 365 + 1 := ⟨by decide +kernel, rfl⟩
theorem dL_holds_366 : decode cL_holds 366 = .ok (.iload 4, 2) ∧ 368 = 366 + 2 := ⟨by decide +kernel, rfl⟩
theorem dL_holds_368 : decode cL_holds 368 = .ok (.iconst 4, 1) ∧ 369 = 368 + 1 := ⟨by decide +kernel, rfl⟩
theorem dL_holds_369 : decode cL_holds 369 = .ok (.invokevirtual 27, 3) ∧ 372 = 369 + 3 := ⟨by decide +kernel, rfl⟩
theorem dL_holds_372 : decode cL_holds 372 = .ok (.iload_n 3, 1) ∧ 373 = 372 + 1 := ⟨by decide +kernel, rfl⟩
theorem dL_holds_373 : decode cL_holds 373 = .ok (.if_icmp .ge 5, 3) ∧ 376 = 373 + 3 := ⟨by decide +kernel, rfl⟩
theorem dL_holds_376 : decode cL_holds 376 = .ok (.iconst 0, 1) ∧ 377 = 376 + 1 := ⟨by decide +kernel, rfl⟩
theorem dL_holds_377 : decode cL_holds 377 = .ok (.ireturn, 1) ∧ 378 = 377 + 1 := ⟨by decide +kernel, rfl⟩
theorem dL_holds_378 : decode cL_holds 378 = .ok (.iconst 0, 1) ∧ 379 = 378 + 1 := ⟨by decide +kernel, rfl⟩
theorem dL_holds_379 : decode cL_holds 379 = .ok (.istore 13, 2) ∧ 381 = 379 + 2 := ⟨by decide +kernel, rfl⟩
theorem dL_holds_381 : decode cL_holds 381 = .ok (.iload 13, 2) ∧ 383 = 381 + 2 := ⟨by decide +kernel, rfl⟩
theorem dL_holds_383 : decode cL_holds 383 = .ok (.aload_n 0, 1) ∧ 384 = 383 + 1 := ⟨by decide +kernel, rfl⟩
theorem dL_holds_384 : decode cL_holds 384 = .ok (.iconst 3, 1) ∧ 385 = 384 + 1 := ⟨by decide +kernel, rfl⟩
theorem dL_holds_385 : decode cL_holds 385 = .ok (.invokevirtual 78, 3) ∧ 388 = 385 + 3 := ⟨by decide +kernel, rfl⟩
theorem dL_holds_388 : decode cL_holds 388 = .ok (.if_icmp .ge 69, 3) ∧ 391 = 388 + 3 := ⟨by decide +kernel, rfl⟩
theorem dL_holds_391 : decode cL_holds 391 = .ok (.iload 11, 2) ∧ 393 = 391 + 2 := ⟨by decide +kernel, rfl⟩
theorem dL_holds_393 : decode cL_holds 393 = .ok (.iload 13, 2) ∧ 395 = 393 + 2 := ⟨by decide +kernel, rfl⟩
theorem dL_holds_395 : decode cL_holds 395 = .ok (.ishr, 1) ∧ 396 = 395 + 1 := ⟨by decide +kernel, rfl⟩
theorem dL_holds_396 : decode cL_holds 396 = .ok (.iconst 1, 1) ∧ 397 = 396 + 1 := ⟨by decide +kernel, rfl⟩
theorem dL_holds_397 : decode cL_holds 397 = .ok (.iand, 1) ∧ 398 = 397 + 1 := ⟨by decide +kernel, rfl⟩
theorem dL_holds_398 : decode cL_holds 398 = .ok (.iconst 1, 1) ∧ 399 = 398 + 1 := ⟨by decide +kernel, rfl⟩
theorem dL_holds_399 : decode cL_holds 399 = .ok (.if_icmp .ne 7, 3) ∧ 402 = 399 + 3 := ⟨by decide +kernel, rfl⟩
theorem dL_holds_402 : decode cL_holds 402 = .ok (.iconst 1, 1) ∧ 403 = 402 + 1 := ⟨by decide +kernel, rfl⟩
theorem dL_holds_403 : decode cL_holds 403 = .ok (.goto 4, 3) ∧ 406 = 403 + 3 := ⟨by decide +kernel, rfl⟩
theorem dL_holds_406 : decode cL_holds 406 = .ok (.iconst 0, 1) ∧ 407 = 406 + 1 := ⟨by decide +kernel, rfl⟩
theorem dL_holds_407 : decode cL_holds 407 = .ok (.aload_n 0, 1) ∧ 408 = 407 + 1 := ⟨by decide +kernel, rfl⟩
theorem dL_holds_408 : decode cL_holds 408 = .ok (.iload 13, 2) ∧ 410 = 408 + 2 := ⟨by decide +kernel, rfl⟩
theorem dL_holds_410 : decode cL_holds 410 = .ok (.iconst 0, 1) ∧ 411 = 410 + 1 := ⟨by decide +kernel, rfl⟩
theorem dL_holds_411 : decode cL_holds 411 = .ok (.invokevirtual 81, 3) ∧ 414 = 411 + 3 := ⟨by decide +kernel, rfl⟩
theorem dL_holds_414 : decode cL_holds 414 = .ok (.iload 4, 2) ∧ 416 = 414 + 2 := ⟨by decide +kernel, rfl⟩
theorem dL_holds_416 : decode cL_holds 416 = .ok (.if_icmp .ne 18, 3) ∧ 419 = 416 + 3 := ⟨by decide +kernel, rfl⟩
theorem dL_holds_419 : decode cL_holds 419 = .ok (.aload_n 0, 1) ∧ 420 = 419 + 1 := ⟨by decide +kernel, rfl⟩
theorem dL_holds_420 : decode cL_holds 420 = .ok (.iload 13, 2) ∧ 422 = 420 + 2 := ⟨by decide +kernel, rfl⟩
theorem dL_holds_422 : decode cL_holds 422 = .ok (.iconst 1, 1) ∧ 423 = 422 + 1 := ⟨by decide +kernel, rfl⟩
theorem dL_holds_423 : decode cL_holds 423 = .ok (.invokevirtual 81, 3) ∧ 426 = 423 + 3 := ⟨by decide +kernel, rfl⟩
theorem dL_holds_426 : decode cL_holds 426 = .ok (.iload_n 3, 1) ∧ 427 = 426 + 1 := ⟨by decide +kernel, rfl⟩
theorem dL_holds_427 : decode cL_holds 427 = .ok (.if_icmp .lt 7, 3) ∧ 430 = 427 + 3 := ⟨by decide +kernel, rfl⟩
theorem dL_holds_430 : decode cL_holds 430 = .ok (.iconst 1, 1) ∧ 431 = 430 + 1 := ⟨by decide +kernel, rfl⟩
theorem dL_holds_431 : decode cL_holds 431 = .ok (.goto 4, 3) ∧ 434 = 431 + 3 := ⟨by decide +kernel, rfl⟩
theorem dL_holds_434 : decode cL_holds 434 = .ok (.iconst 0, 1) ∧ 435 = 434 + 1 := ⟨by decide +kernel, rfl⟩
theorem dL_holds_435 : decode cL_holds 435 = .ok (.if_icmp .eq 16, 3) ∧ 438 = 435 + 3 := ⟨by decide +kernel, rfl⟩
theorem dL_holds_438 : decode cL_holds 438 = .ok (.iload 11, 2) ∧ 440 = 438 + 2 := ⟨by decide +kernel, rfl⟩
theorem dL_holds_440 : decode cL_holds 440 = .ok (.iload 13, 2) ∧ 442 = 440 + 2 := ⟨by decide +kernel, rfl⟩
theorem dL_holds_442 : decode cL_holds 442 = .ok (.ishr, 1) ∧ 443 = 442 + 1 := ⟨by decide +kernel, rfl⟩
theorem dL_holds_443 : decode cL_holds 443 = .ok (.iconst 1, 1) ∧ 444 = 443 + 1 := ⟨by decide +kernel, rfl⟩
theorem dL_holds_444 : decode cL_holds 444 = .ok (.iand, 1) ∧ 445 = 444 + 1 := ⟨by decide +kernel, rfl⟩
theorem dL_holds_445 : decode cL_holds 445 = .ok (.iconst 1, 1) ∧ 446 = 445 + 1 := ⟨by decide +kernel, rfl⟩
theorem dL_holds_446 : decode cL_holds 446 = .ok (.if_icmp .ne 5, 3) ∧ 449 = 446 + 3 := ⟨by decide +kernel, rfl⟩
theorem dL_holds_449 : decode cL_holds 449 = .ok (.iconst 0, 1) ∧ 450 = 449 + 1 := ⟨by decide +kernel, rfl⟩
theorem dL_holds_450 : decode cL_holds 450 = .ok (.ireturn, 1) ∧ 451 = 450 + 1 := ⟨by decide +kernel, rfl⟩
theorem dL_holds_451 : decode cL_holds 451 = .ok (.iinc 13 1, 3) ∧ 454 = 451 + 3 := ⟨by decide +kernel, rfl⟩
theorem dL_holds_454 : decode cL_holds 454 = .ok (.goto (-73), 3) ∧ 457 = 454 + 3 := ⟨by decide +kernel, rfl⟩
theorem dL_holds_457 : decode cL_holds 457 = .ok (.iinc 4 1, 3) ∧ 460 = 457 + 3 := ⟨by decide +kernel, rfl⟩
theorem dL_holds_460 : decode cL_holds 460 = .ok (.goto (-437), 3) ∧ 463 = 460 + 3 := ⟨by decide +kernel, rfl⟩
theorem dL_holds_463 : decode cL_holds 463 = .ok (.iconst 0, 1) ∧ 464 = 463 + 1 := ⟨by decide +kernel, rfl⟩
theorem dL_holds_464 : decode cL_holds 464 = .ok (.istore 4, 2) ∧ 466 = 464 + 2 := ⟨by decide +kernel, rfl⟩
theorem dL_holds_466 : decode cL_holds 466 = .ok (.iload 4, 2) ∧ 468 = 466 + 2 := ⟨by decide +kernel, rfl⟩
theorem dL_holds_468 : decode cL_holds 468 = .ok (.iconst 4, 1) ∧ 469 = 468 + 1 := ⟨by decide +kernel, rfl⟩
theorem dL_holds_469 : decode cL_holds 469 = .ok (.if_icmp .ge 127, 3) ∧ 472 = 469 + 3 := ⟨by decide +kernel, rfl⟩
theorem dL_holds_472 : decode cL_holds 472 = .ok (.aload_n 0, 1) ∧ 473 = 472 + 1 := ⟨by decide +kernel, rfl⟩
theorem dL_holds_473 : decode cL_holds 473 = .ok (.iload 4, 2) ∧ 475 = 473 + 2 := ⟨by decide +kernel, rfl⟩
theorem dL_holds_475 : decode cL_holds 475 = .ok (.invokevirtual 84, 3) ∧ 478 = 475 + 3 := ⟨by decide +kernel, rfl⟩
theorem dL_holds_478 : decode cL_holds 478 = .ok (.istore 5, 2) ∧ 480 = 478 + 2 := ⟨by decide +kernel, rfl⟩
theorem dL_holds_480 : decode cL_holds 480 = .ok (.iload 5, 2) ∧ 482 = 480 + 2 := ⟨by decide +kernel, rfl⟩
theorem dL_holds_482 : decode cL_holds 482 = .ok (.iconst 1, 1) ∧ 483 = 482 + 1 := ⟨by decide +kernel, rfl⟩
theorem dL_holds_483 : decode cL_holds 483 = .ok (.if_icmp .ne 7, 3) ∧ 486 = 483 + 3 := ⟨by decide +kernel, rfl⟩
theorem dL_holds_486 : decode cL_holds 486 = .ok (.iconst 1, 1) ∧ 487 = 486 + 1 := ⟨by decide +kernel, rfl⟩
theorem dL_holds_487 : decode cL_holds 487 = .ok (.goto 4, 3) ∧ 490 = 487 + 3 := ⟨by decide +kernel, rfl⟩
theorem dL_holds_490 : decode cL_holds 490 = .ok (.iconst 0, 1) ∧ 491 = 490 + 1 := ⟨by decide +kernel, rfl⟩
theorem dL_holds_491 : decode cL_holds 491 = .ok (.aload_n 0, 1) ∧ 492 = 491 + 1 := ⟨by decide +kernel, rfl⟩
theorem dL_holds_492 : decode cL_holds 492 = .ok (.iload 4, 2) ∧ 494 = 492 + 2 := ⟨by decide +kernel, rfl⟩
theorem dL_holds_494 : decode cL_holds 494 = .ok (.iconst 4, 1) ∧ 495 = 494 + 1 := ⟨by decide +kernel, rfl⟩
theorem dL_holds_495 : decode cL_holds 495 = .ok (.invokevirtual 87, 3) ∧ 498 = 495 + 3 := ⟨by decide +kernel, rfl⟩
theorem dL_holds_498 : decode cL_holds 498 = .ok (.iconst 1, 1) ∧ 499 = 498 + 1 := ⟨by decide +kernel, rfl⟩
theorem dL_holds_499 : decode cL_holds 499 = .ok (.if_icmp .ne 7, 3) ∧ 502 = 499 + 3 := ⟨by decide +kernel, rfl⟩
theorem dL_holds_502 : decode cL_holds 502 = .ok (.iconst 1, 1) ∧ 503 = 502 + 1 := ⟨by decide +kernel, rfl⟩
theorem dL_holds_503 : decode cL_holds 503 = .ok (.goto 4, 3) ∧ 506 = 503 + 3 := ⟨by decide +kernel, rfl⟩
theorem dL_holds_506 : decode cL_holds 506 = .ok (.iconst 0, 1) ∧ 507 = 506 + 1 := ⟨by decide +kernel, rfl⟩
theorem dL_holds_507 : decode cL_holds 507 = .ok (.if_icmp .ne 81, 3) ∧ 510 = 507 + 3 := ⟨by decide +kernel, rfl⟩
theorem dL_holds_510 : decode cL_holds 510 = .ok (.iload 5, 2) ∧ 512 = 510 + 2 := ⟨by decide +kernel, rfl⟩
theorem dL_holds_512 : decode cL_holds 512 = .ok (.ifCond .ne 7, 3) ∧ 515 = 512 + 3 := ⟨by decide +kernel, rfl⟩
theorem dL_holds_515 : decode cL_holds 515 = .ok (.iconst 1, 1) ∧ 516 = 515 + 1 := ⟨by decide +kernel, rfl⟩
theorem dL_holds_516 : decode cL_holds 516 = .ok (.goto 4, 3) ∧ 519 = 516 + 3 := ⟨by decide +kernel, rfl⟩
theorem dL_holds_519 : decode cL_holds 519 = .ok (.iconst 0, 1) ∧ 520 = 519 + 1 := ⟨by decide +kernel, rfl⟩
theorem dL_holds_520 : decode cL_holds 520 = .ok (.aload_n 0, 1) ∧ 521 = 520 + 1 := ⟨by decide +kernel, rfl⟩
theorem dL_holds_521 : decode cL_holds 521 = .ok (.invokevirtual 90, 3) ∧ 524 = 521 + 3 := ⟨by decide +kernel, rfl⟩
theorem dL_holds_524 : decode cL_holds 524 = .ok (.iload 4, 2) ∧ 526 = 524 + 2 := ⟨by decide +kernel, rfl⟩
theorem dL_holds_526 : decode cL_holds 526 = .ok (.ishr, 1) ∧ 527 = 526 + 1 := ⟨by decide +kernel, rfl⟩
theorem dL_holds_527 : decode cL_holds 527 = .ok (.iconst 1, 1) ∧ 528 = 527 + 1 := ⟨by decide +kernel, rfl⟩
theorem dL_holds_528 : decode cL_holds 528 = .ok (.iand, 1) ∧ 529 = 528 + 1 := ⟨by decide +kernel, rfl⟩
theorem dL_holds_529 : decode cL_holds 529 = .ok (.iconst 1, 1) ∧ 530 = 529 + 1 := ⟨by decide +kernel, rfl⟩
theorem dL_holds_530 : decode cL_holds 530 = .ok (.if_icmp .ne 7, 3) ∧ 533 = 530 + 3 := ⟨by decide +kernel, rfl⟩
theorem dL_holds_533 : decode cL_holds 533 = .ok (.iconst 1, 1) ∧ 534 = 533 + 1 := ⟨by decide +kernel, rfl⟩
theorem dL_holds_534 : decode cL_holds 534 = .ok (.goto 4, 3) ∧ 537 = 534 + 3 := ⟨by decide +kernel, rfl⟩
theorem dL_holds_537 : decode cL_holds 537 = .ok (.iconst 0, 1) ∧ 538 = 537 + 1 := ⟨by decide +kernel, rfl⟩
theorem dL_holds_538 : decode cL_holds 538 = .ok (.if_icmp .ne 50, 3) ∧ 541 = 538 + 3 := ⟨by decide +kernel, rfl⟩
theorem dL_holds_541 : decode cL_holds 541 = .ok (.iload 5, 2) ∧ 543 = 541 + 2 := ⟨by decide +kernel, rfl⟩
theorem dL_holds_543 : decode cL_holds 543 = .ok (.ifCond .ne 21, 3) ∧ 546 = 543 + 3 := ⟨by decide +kernel, rfl⟩
theorem dL_holds_546 : decode cL_holds 546 = .ok (.aload_n 0, 1) ∧ 547 = 546 + 1 := ⟨by decide +kernel, rfl⟩
theorem dL_holds_547 : decode cL_holds 547 = .ok (.iload 4, 2) ∧ 549 = 547 + 2 := ⟨by decide +kernel, rfl⟩
theorem dL_holds_549 : decode cL_holds 549 = .ok (.bipush 6, 2) ∧ 551 = 549 + 2 := ⟨by decide +kernel, rfl⟩
theorem dL_holds_551 : decode cL_holds 551 = .ok (.invokevirtual 87, 3) ∧ 554 = 551 + 3 := ⟨by decide +kernel, rfl⟩
theorem dL_holds_554 : decode cL_holds 554 = .ok (.aload_n 0, 1) ∧ 555 = 554 + 1 := ⟨by decide +kernel, rfl⟩
theorem dL_holds_555 : decode cL_holds 555 = .ok (.iload 4, 2) ∧ 557 = 555 + 2 := ⟨by decide +kernel, rfl⟩
theorem dL_holds_557 : decode cL_holds 557 = .ok (.iconst 3, 1) ∧ 558 = 557 + 1 := ⟨by decide +kernel, rfl⟩
theorem dL_holds_558 : decode cL_holds 558 = .ok (.invokevirtual 87, 3) ∧ 561 = 558 + 3 := ⟨by decide +kernel, rfl⟩
theorem dL_holds_561 : decode cL_holds 561 = .ok (.if_icmp .gt 27, 3) ∧ 564 = 561 + 3 := ⟨by decide +kernel, rfl⟩
theorem dL_holds_564 : decode cL_holds 564 = .ok (.iload 5, 2) ∧ 566 = 564 + 2 := ⟨by decide +kernel, rfl⟩
theorem dL_holds_566 : decode cL_holds 566 = .ok (.iconst 2, 1) ∧ 567 = 566 + 1 := ⟨by decide +kernel, rfl⟩
theorem dL_holds_567 : decode cL_holds 567 = .ok (.if_icmp .ne 23, 3) ∧ 570 = 567 + 3 := ⟨by decide +kernel, rfl⟩
theorem dL_holds_570 : decode cL_holds 570 = .ok (.aload_n 0, 1) ∧ 571 = 570 + 1 := ⟨by decide +kernel, rfl⟩
theorem dL_holds_571 : decode cL_holds 571 = .ok (.iload 4, 2) ∧ 573 = 571 + 2 := ⟨by decide +kernel, rfl⟩
theorem dL_holds_573 : decode cL_holds 573 = .ok (.bipush 6, 2) ∧ 575 = 573 + 2 := ⟨by decide +kernel, rfl⟩
theorem dL_holds_575 : decode cL_holds 575 = .ok (.invokevirtual 87, 3) ∧ 578 = 575 + 3 := ⟨by decide +kernel, rfl⟩
theorem dL_holds_578 : decode cL_holds 578 = .ok (.aload_n 0, 1) ∧ 579 = 578 + 1 := ⟨by decide +kernel, rfl⟩
theorem dL_holds_579 : decode cL_holds 579 = .ok (.iload 4, 2) ∧ 581 = 579 + 2 := ⟨by decide +kernel, rfl⟩
theorem dL_holds_581 : decode cL_holds 581 = .ok (.iconst 3, 1) ∧ 582 = 581 + 1 := ⟨by decide +kernel, rfl⟩
theorem dL_holds_582 : decode cL_holds 582 = .ok (.invokevirtual 87, 3) ∧ 585 = 582 + 3 := ⟨by decide +kernel, rfl⟩
theorem dL_holds_585 : decode cL_holds 585 = .ok (.if_icmp .gt 5, 3) ∧ 588 = 585 + 3 := ⟨by decide +kernel, rfl⟩
theorem dL_holds_588 : decode cL_holds 588 = .ok (.iconst 0, 1) ∧ 589 = 588 + 1 := ⟨by decide +kernel, rfl⟩
theorem dL_holds_589 : decode cL_holds 589 = .ok (.ireturn, 1) ∧ 590 = 589 + 1 := ⟨by decide +kernel, rfl⟩
theorem dL_holds_590 : decode cL_holds 590 = .ok (.iinc 4 1, 3) ∧ 593 = 590 + 3 := ⟨by decide +kernel, rfl⟩
theorem dL_holds_593 : decode cL_holds 593 = .ok (.goto (-127), 3) ∧ 596 = 593 + 3 := ⟨by decide +kernel, rfl⟩
theorem dL_holds_596 : decode cL_holds 596 = .ok (.iconst 0, 1) ∧ 597 = 596 + 1 := ⟨by decide +kernel, rfl⟩
theorem dL_holds_597 : decode cL_holds 597 = .ok (.istore 4, 2) ∧ 599 = 597 + 2 := ⟨by decide +kernel, rfl⟩
theorem dL_holds_599 : decode cL_holds 599 = .ok (.iload 4, 2) ∧ 601 = 599 + 2 := ⟨by decide +kernel, rfl⟩
theorem dL_holds_601 : decode cL_holds 601 = .ok (.iconst 2, 1) ∧ 602 = 601 + 1 := ⟨by decide +kernel, rfl⟩
theorem dL_holds_602 : decode cL_holds 602 = .ok (.if_icmp .ge 99, 3) ∧ 605 = 602 + 3 := ⟨by decide +kernel, rfl⟩
theorem dL_holds_605 : decode cL_holds 605 = .ok (.aload_n 0, 1) ∧ 606 = 605 + 1 := ⟨by decide +kernel, rfl⟩
theorem dL_holds_606 : decode cL_holds 606 = .ok (.iload 4, 2) ∧ 608 = 606 + 2 := ⟨by decide +kernel, rfl⟩
theorem dL_holds_608 : decode cL_holds 608 = .ok (.invokevirtual 93, 3) ∧ 611 = 608 + 3 := ⟨by decide +kernel, rfl⟩
theorem dL_holds_611 : decode cL_holds 611 = .ok (.istore 5, 2) ∧ 613 = 611 + 2 := ⟨by decide +kernel, rfl⟩
theorem dL_holds_613 : decode cL_holds 613 = .ok (.aload_n 0, 1) ∧ 614 = 613 + 1 := ⟨by decide +kernel, rfl⟩
theorem dL_holds_614 : decode cL_holds 614 = .ok (.aload_n 0, 1) ∧ 615 = 614 + 1 := ⟨by decide +kernel, rfl⟩
theorem dL_holds_615 : decode cL_holds 615 = .ok (.iload 4, 2) ∧ 617 = 615 + 2 := ⟨by decide +kernel, rfl⟩
theorem dL_holds_617 : decode cL_holds 617 = .ok (.iconst 0, 1) ∧ 618 = 617 + 1 := ⟨by decide +kernel, rfl⟩
theorem dL_holds_618 : decode cL_holds 618 = .ok (.invokevirtual 96, 3) ∧ 621 = 618 + 3 := ⟨by decide +kernel, rfl⟩
theorem dL_holds_621 : decode cL_holds 621 = .ok (.iconst 3, 1) ∧ 622 = 621 + 1 := ⟨by decide +kernel, rfl⟩
theorem dL_holds_622 : decode cL_holds 622 = .ok (.invokevirtual 27, 3) ∧ 625 = 622 + 3 := ⟨by decide +kernel, rfl⟩
theorem dL_holds_625 : decode cL_holds 625 = .ok (.istore 6, 2) ∧ 627 = 625 + 2 := ⟨by decide +kernel, rfl⟩
theorem dL_holds_627 : decode cL_holds 627 = .ok (.iload 5, 2) ∧ 629 = 627 + 2 := ⟨by decide +kernel, rfl⟩
theorem dL_holds_629 : decode cL_holds 629 = .ok (.iconst 1, 1) ∧ 630 = 629 + 1 := ⟨by decide +kernel, rfl⟩
theorem dL_holds_630 : decode cL_holds 630 = .ok (.if_icmp .ne 7, 3) ∧ 633 = 630 + 3 := ⟨by decide +kernel, rfl⟩
theorem dL_holds_633 : decode cL_holds 633 = .ok (.iconst 1, 1) ∧ 634 = 633 + 1 := ⟨by decide +kernel, rfl⟩
theorem dL_holds_634 : decode cL_holds 634 = .ok (.goto 4, 3) ∧ 637 = 634 + 3 := ⟨by decide +kernel, rfl⟩
theorem dL_holds_637 : decode cL_holds 637 = .ok (.iconst 0, 1) ∧ 638 = 637 + 1 := ⟨by decide +kernel, rfl⟩
theorem dL_holds_638 : decode cL_holds 638 = .ok (.aload_n 0, 1) ∧ 639 = 638 + 1 := ⟨by decide +kernel, rfl⟩
theorem dL_holds_639 : decode cL_holds 639 = .ok (.iload 4, 2) ∧ 641 = 639 + 2 := ⟨by decide +kernel, rfl⟩
theorem dL_holds_641 : decode cL_holds 641 = .ok (.bipush 6, 2) ∧ 643 = 641 + 2 := ⟨by decide +kernel, rfl⟩
theorem dL_holds_643 : decode cL_holds 643 = .ok (.invokevirtual 96, 3) ∧ 646 = 643 + 3 := ⟨by decide +kernel, rfl⟩
theorem dL_holds_646 : decode cL_holds 646 = .ok (.iconst 1, 1) ∧ 647 = 646 + 1 := ⟨by decide +kernel, rfl⟩
theorem dL_holds_647 : decode cL_holds 647 = .ok (.if_icmp .ne 7, 3) ∧ 650 = 647 + 3 := ⟨by decide +kernel, rfl⟩
theorem dL_holds_650 : decode cL_holds 650 = .ok (.iconst 1, 1) ∧ 651 = 650 + 1 := ⟨by decide +kernel, rfl⟩
theorem dL_holds_651 : decode cL_holds 651 = .ok (.goto 4, 3) ∧ 654 = 651 + 3 := ⟨by decide +kernel, rfl⟩
theorem dL_holds_654 : decode cL_holds 654 = .ok (.iconst 0, 1) ∧ 655 = 654 + 1 := ⟨by decide +kernel, rfl⟩
theorem dL_holds_655 : decode cL_holds 655 = .ok (.if_icmp .ne 38, 3) ∧ 658 = 655 + 3 := ⟨by decide +kernel, rfl⟩
theorem dL_holds_658 : decode cL_holds 658 = .ok (.iload 5, 2) ∧ 660 = 658 + 2 := ⟨by decide +kernel, rfl⟩
theorem dL_holds_660 : decode cL_holds 660 = .ok (.ifCond .ne 15, 3) ∧ 663 = 660 + 3 := ⟨by decide +kernel, rfl⟩
theorem dL_holds_663 : decode cL_holds 663 = .ok (.iload 6, 2) ∧ 665 = 663 + 2 := ⟨by decide +kernel, rfl⟩
theorem dL_holds_665 : decode cL_holds 665 = .ok (.aload_n 0, 1) ∧ 666 = 665 + 1 := ⟨by decide +kernel, rfl⟩
theorem dL_holds_666 : decode cL_holds 666 = .ok (.iload 4, 2) ∧ 668 = 666 + 2 := ⟨by decide +kernel, rfl⟩
theorem dL_holds_668 : decode cL_holds 668 = .ok (.iconst 4, 1) ∧ 669 = 668 + 1 := ⟨by decide +kernel, rfl⟩
theorem dL_holds_669 : decode cL_holds 669 = .ok (.invokevirtual 96, 3) ∧ 672 = 669 + 3 := ⟨by decide +kernel, rfl⟩
theorem dL_holds_672 : decode cL_holds 672 = .ok (.if_icmp .gt 21, 3) ∧ 675 = 672 + 3 := ⟨by decide +kernel, rfl⟩
theorem dL_holds_675 : decode cL_holds 675 = .ok (.iload 5, 2) ∧ 677 = 675 + 2 := ⟨by decide +kernel, rfl⟩
theorem dL_holds_677 : decode cL_holds 677 = .ok (.iconst 2, 1) ∧ 678 = 677 + 1 := ⟨by decide +kernel, rfl⟩
theorem dL_holds_678 : decode cL_holds 678 = .ok (.if_icmp .ne 17, 3) ∧ 681 = 678 + 3 := ⟨by decide +kernel, rfl⟩
theorem dL_holds_681 : decode cL_holds 681 = .ok (.iload 6, 2) ∧ 683 = 681 + 2 := ⟨by decide +kernel, rfl⟩
theorem dL_holds_683 : decode cL_holds 683 = .ok (.aload_n 0, 1) ∧ 684 = 683 + 1 := ⟨by decide +kernel, rfl⟩
theorem dL_holds_684 : decode cL_holds 684 = .ok (.iload 4, 2) ∧ 686 = 684 + 2 := ⟨by decide +kernel, rfl⟩
theorem dL_holds_686 : decode cL_holds 686 = .ok (.iconst 4, 1) ∧ 687 = 686 + 1 := ⟨by decide +kernel, rfl⟩
theorem dL_holds_687 : decode cL_holds 687 = .ok (.invokevirtual 96, 3) ∧ 690 = 687 + 3 := ⟨by decide +kernel, rfl⟩
theorem dL_holds_690 : decode cL_holds 690 = .ok (.if_icmp .gt 5, 3) ∧ 693 = 690 + 3 := ⟨by decide +kernel, rfl⟩
theorem dL_holds_693 : decode cL_holds 693 = .ok (.iconst 0, 1) ∧ 694 = 693 + 1 := ⟨by decide +kernel, rfl⟩
theorem dL_holds_694 : decode cL_holds 694 = .ok (.ireturn, 1) ∧ 695 = 694 + 1 := ⟨by decide +kernel, rfl⟩
theorem dL_holds_695 : decode cL_holds 695 = .ok (.iinc 4 1, 3) ∧ 698 = 695 + 3 := ⟨by decide +kernel, rfl⟩
theorem dL_holds_698 : decode cL_holds 698 = .ok (.goto (-99), 3) ∧ 701 = 698 + 3 := ⟨by decide +kernel, rfl⟩
theorem dL_holds_701 : decode cL_holds 701 = .ok (.aload_n 0, 1) ∧ 702 = 701 + 1 := ⟨by decide +kernel, rfl⟩
theorem dL_holds_702 : decode cL_holds 702 = .ok (.iconst 0, 1) ∧ 703 = 702 + 1 := ⟨by decide +kernel, rfl⟩
theorem dL_holds_703 : decode cL_holds 703 = .ok (.iconst 5, 1) ∧ 704 = 703 + 1 := ⟨by decide +kernel, rfl⟩
theorem dL_holds_704 : decode cL_holds 704 = .ok (.invokevirtual 87, 3) ∧ 707 = 704 + 3 := ⟨by decide +kernel, rfl⟩
theorem dL_holds_707 : decode cL_holds 707 = .ok (.aload_n 0, 1) ∧ 708 = 707 + 1 := ⟨by decide +kernel, rfl⟩
theorem dL_holds_708 : decode cL_holds 708 = .ok (.iconst 1, 1) ∧ 709 = 708 + 1 := ⟨by decide +kernel, rfl⟩
theorem dL_holds_709 : decode cL_holds 709 = .ok (.iconst 5, 1) ∧ 710 = 709 + 1 := ⟨by decide +kernel, rfl⟩
theorem dL_holds_710 : decode cL_holds 710 = .ok (.invokevirtual 87, 3) ∧ 713 = 710 + 3 := ⟨by decide +kernel, rfl⟩
theorem dL_holds_713 : decode cL_holds 713 = .ok (.iadd, 1) ∧ 714 = 713 + 1 := ⟨by decide +kernel, rfl⟩
theorem dL_holds_714 : decode cL_holds 714 = .ok (.aload_n 0, 1) ∧ 715 = 714 + 1 := ⟨by decide +kernel, rfl⟩
theorem dL_holds_715 : decode cL_holds 715 = .ok (.iconst 2, 1) ∧ 716 = 715 + 1 := ⟨by decide +kernel, rfl⟩
theorem dL_holds_716 : decode cL_holds 716 = .ok (.iconst 5, 1) ∧ 717 = 716 + 1 := ⟨by decide +kernel, rfl⟩
theorem dL_holds_717 : decode cL_holds 717 = .ok (.invokevirtual 87, 3) ∧ 720 = 717 + 3 := ⟨by decide +kernel, rfl⟩
theorem dL_holds_720 : decode cL_holds 720 = .ok (.iadd, 1) ∧ 721 = 720 + 1 := ⟨by decide +kernel, rfl⟩
theorem dL_holds_721 : decode cL_holds 721 = .ok (.aload_n 0, 1) ∧ 722 = 721 + 1 := ⟨by decide +kernel, rfl⟩
theorem dL_holds_722 : decode cL_holds 722 = .ok (.iconst 3, 1) ∧ 723 = 722 + 1 := ⟨by decide +kernel, rfl⟩
theorem dL_holds_723 : decode cL_holds 723 = .ok (.iconst 5, 1) ∧ 724 = 723 + 1 := ⟨by decide +kernel, rfl⟩
theorem dL_holds_724 : decode cL_holds 724 = .ok (.invokevirtual 87, 3) ∧ 727 = 724 + 3 := ⟨by decide +kernel, rfl⟩
theorem dL_holds_727 : decode cL_holds 727 = .ok (.iadd, 1) ∧ 728 = 727 + 1 := ⟨by decide +kernel, rfl⟩
theorem dL_holds_728 : decode cL_holds 728 = .ok (.aload_n 0, 1) ∧ 729 = 728 + 1 := ⟨by decide +kernel, rfl⟩
theorem dL_holds_729 : decode cL_holds 729 = .ok (.iconst 5, 1) ∧ 730 = 729 + 1 := ⟨by decide +kernel, rfl⟩
theorem dL_holds_730 : decode cL_holds 730 = .ok (.invokevirtual 78, 3) ∧ 733 = 730 + 3 := ⟨by decide +kernel, rfl⟩
theorem dL_holds_733 : decode cL_holds 733 = .ok (.if_icmp .ne 39, 3) ∧ 736 = 733 + 3 := ⟨by decide +kernel, rfl⟩
theorem dL_holds_736 : decode cL_holds 736 = .ok (.aload_n 0, 1) ∧ 737 = 736 + 1 := ⟨by decide +kernel, rfl⟩
theorem dL_holds_737 : decode cL_holds 737 = .ok (.iconst 0, 1) ∧ 738 = 737 + 1 := ⟨by decide +kernel, rfl⟩
theorem dL_holds_738 : decode cL_holds 738 = .ok (.bipush 7, 2) ∧ 740 = 738 + 2 := ⟨by decide +kernel, rfl⟩
theorem dL_holds_740 : decode cL_holds 740 = .ok (.invokevirtual 96, 3) ∧ 743 = 740 + 3 := ⟨by decide +kernel, rfl⟩
theorem dL_holds_743 : decode cL_holds 743 = .ok (.aload_n 0, 1) ∧ 744 = 743 + 1 := ⟨by decide +kernel, rfl⟩
theorem dL_holds_744 : decode cL_holds 744 = .ok (.iconst 1, 1) ∧ 745 = 744 + 1 := ⟨by decide +kernel, rfl⟩
theorem dL_holds_745 : decode cL_holds 745 = .ok (.bipush 7, 2) ∧ 747 = 745 + 2 := ⟨by decide +kernel, rfl⟩
theorem dL_holds_747 : decode cL_holds 747 = .ok (.invokevirtual 96, 3) ∧ 750 = 747 + 3 := ⟨by decide +kernel, rfl⟩
theorem dL_holds_750 : decode cL_holds 750 = .ok (.iadd, 1) ∧ 751 = 750 + 1 := ⟨by decide +kernel, rfl⟩
theorem dL_holds_751 : decode cL_holds 751 = .ok (.aload_n 0, 1) ∧ 752 = 751 + 1 := ⟨by decide +kernel, rfl⟩
theorem dL_holds_752 : decode cL_holds 752 = .ok (.bipush 6, 2) ∧ 754 = 752 + 2 := ⟨by decide +kernel, rfl⟩
theorem dL_holds_754 : decode cL_holds 754 = .ok (.invokevirtual 78, 3) ∧ 757 = 754 + 3 := ⟨by decide +kernel, rfl⟩
theorem dL_holds_757 : decode cL_holds 757 = .ok (.if_icmp .ne 15, 3) ∧ 760 = 757 + 3 := ⟨by decide +kernel, rfl⟩
theorem dL_holds_760 : decode cL_holds 760 = .ok (.aload_n 0, 1) ∧ 761 = 760 + 1 := ⟨by decide +kernel, rfl⟩
theorem dL_holds_761 : decode cL_holds 761 = .ok (.iload_n 2, 1) ∧ 762 = 761 + 1 := ⟨by decide +kernel, rfl⟩
theorem dL_holds_762 : decode cL_holds 762 = .ok (.invokevirtual 99, 3) ∧ 765 = 762 + 3 := ⟨by decide +kernel, rfl⟩
theorem dL_holds_765 : decode cL_holds 765 = .ok (.ifCond .lt 7, 3) ∧ 768 = 765 + 3 := ⟨by decide +kernel, rfl⟩
theorem dL_holds_768 : decode cL_holds 768 = .ok (.iconst 1, 1) ∧ 769 = 768 + 1 := ⟨by decide +kernel, rfl⟩
theorem dL_holds_769 : decode cL_holds 769 = .ok (.goto 4, 3) ∧ 772 = 769 + 3 := ⟨by decide +kernel, rfl⟩
theorem dL_holds_772 : decode cL_holds 772 = .ok (.iconst 0, 1) ∧ 773 = 772 + 1 := ⟨by decide +kernel, rfl⟩
theorem dL_holds_773 : decode cL_holds 773 = .ok (.ireturn, 1) ∧ 774 = 773 + 1 := ⟨by decide +kernel, rfl⟩
