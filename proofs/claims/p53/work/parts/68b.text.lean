/-! the typed text -/
def stL (L : List Int32) (n : Nat) : TT := ((fun i => L.getD i 0), i4 n)
theorem up_app (L : List Int32) (a : Int32) {n : Nat} (hn : n = L.length) : upd (fun i => L.getD i 0) n a = fun i => (L ++ [a]).getD i 0 := by
  subst hn
  funext i
  unfold upd
  by_cases h : i = L.length
  · subst h
    simp
  · by_cases h2 : i < L.length
    · simp [h, List.getD_eq_getElem?_getD, List.getElem?_append_left h2]
    · have h3 : L.length + 1 ≤ i := by omega
      simp [h, List.getD_eq_getElem?_getD, List.getElem?_eq_none (show (L ++ [a]).length ≤ i by rw [List.length_append]; exact h3), List.getElem?_eq_none (show L.length ≤ i by omega)]
def nb (w x : Int32) : Int32 := vp_nar .byte ((iushrF w x).toInt8.toInt32)
def wb (w : Int32) : List Int32 := [nb w 24, nb w 16, nb w 8, nb w 0]
theorem aw1 (L : List Int32) (w x2 : Int32) {n : Nat} (hn : n = L.length) (hx : ¬ x2 < 0) (hl : n < 900) (fu : Nat) : f8_addWord_B3 (fu + 1) (stL L n) w x2 = f8_addWord_B3 fu (stL (L ++ [nb w x2]) (n + 1)) w (x2 + (-8)) := by
  rw [f8_addWord_B3, if_neg hx, show TT_length (stL L n) = i4 n from rfl, if_neg (show ¬ (900 ≤ i4 n) from fun q => by have := (i4_le (a := 900) (by omega) (by omega)).mp q; omega), gdi _ (by omega) (by omega), ix4 (by omega), ad1, show TT_bytes (stL L n) = fun i => L.getD i 0 from rfl]
  have e := up_app L (nb w x2) hn
  unfold nb at e
  rw [e]
  rfl
theorem aw (L : List Int32) (w : Int32) {n : Nat} (hn : n = L.length) (hl : n + 4 ≤ 900) : f8_addWord (stL L n) w = some (stL (L ++ wb w) (n + 4)) := by
  unfold f8_addWord
  rw [show FU = 4091 + 1 + 1 + 1 + 1 + 1 from rfl, aw1 L w 24 hn (by decide) (by omega), aw1 _ w _ (by rw [List.length_append]; simp [hn]) (by decide) (by omega), aw1 _ w _ (by rw [List.length_append, List.length_append]; simp [hn]) (by decide) (by omega), aw1 _ w _ (by rw [List.length_append, List.length_append, List.length_append]; simp [hn]) (by decide) (by omega), f8_addWord_B3, if_pos (by decide)]
  congr 2
  unfold wb
  simp [List.append_assoc]
theorem ap (L : List Int32) (w0 w1 w2 w3 w4 : Int32) {n : Nat} (hn : n = L.length) (hl : n + 20 ≤ 900) : f9_appendText (stL L n) w0 w1 w2 w3 w4 = some (i4 (n + 20), stL (L ++ wb w0 ++ wb w1 ++ wb w2 ++ wb w3 ++ wb w4) (n + 20)) := by
  have l4 : ∀ w, (wb w).length = 4 := fun _ => rfl
  unfold f9_appendText
  rw [show TT_length (stL L n) = i4 n from rfl, show i4 n + 20 = i4 (n + 20) from i4_add n 20, if_pos (show i4 (n + 20) ≤ 900 from (i4_le (b := 900) (by omega) (by omega)).mpr hl), aw L w0 hn (by omega), sbind, aw _ w1 (by rw [List.length_append, l4, hn]) (by omega), sbind, aw _ w2 (by rw [List.length_append, List.length_append, l4, l4, hn]) (by omega), sbind, aw _ w3 (by rw [List.length_append, List.length_append, List.length_append, l4, l4, l4, hn]) (by omega), sbind, aw _ w4 (by rw [List.length_append, List.length_append, List.length_append, List.length_append, l4, l4, l4, l4, hn]) (by omega), sbind]
  rfl
def tyQ (o : Option (Nat → Int32)) (w0 w1 w2 w3 w4 : Int32) : Bool := match o with
  | some F => decide (F (ix 0) = w0) && (decide (F (ix 1) = w1) && (decide (F (ix 2) = w2) && (decide (F (ix 3) = w3) && decide (F (ix 4) = w4))))
  | none => false
theorem tyQ_of {o : Option (Nat → Int32)} {w0 w1 w2 w3 w4 : Int32} (h : tyQ o w0 w1 w2 w3 w4 = true) : ∃ F, o = some F ∧ F (ix 0) = w0 ∧ F (ix 1) = w1 ∧ F (ix 2) = w2 ∧ F (ix 3) = w3 ∧ F (ix 4) = w4 := by
  cases o with
  | none => cases h
  | some F =>
    unfold tyQ at h
    simp only [Bool.and_eq_true, decide_eq_true_eq] at h
    exact ⟨F, rfl, h⟩
def tl0 : List Int32 := []
theorem sl_ : sLen 10 = 249 := by decide +kernel
def tl1 : List Int32 := [99, 104, 97, 109, 98, 101, 114, 32, 53, 48, 32, 50, 48, 48, 32, 52, 48, 59, 99, 104]
theorem tq0 : tyQ (tyI 10 0 21 (fun _ => 0) 0) 1667785069 1650815520 892346418 808460340 809198440 = true := by decide +kernel
theorem te0 : tl0 ++ wb 1667785069 ++ wb 1650815520 ++ wb 892346418 ++ wb 808460340 ++ wb 809198440 = tl1 := by decide +kernel
theorem ts0 (fu : Nat) : tyO 10 (fu + 1) (stL tl0 0) 0 = tyO 10 fu (stL tl1 20) 20 := by
  obtain ⟨F, e, f0, f1, f2, f3, f4⟩ := tyQ_of tq0
  rw [tyO, sl_, if_neg (by decide), e, sbind, f0, f1, f2, f3, f4, ap tl0 _ _ _ _ _ (by decide +kernel) (by omega), sbind, te0]
  rfl
def tl2 : List Int32 := [99, 104, 97, 109, 98, 101, 114, 32, 53, 48, 32, 50, 48, 48, 32, 52, 48, 59, 99, 104, 97, 109, 98, 101, 114, 32, 50, 48, 32, 48, 32, 48, 59, 99, 104, 97, 109, 98, 101, 114]
theorem tq1 : tyQ (tyI 10 20 21 (fun _ => 0) 0) 1634558565 1914712624 540024880 996370529 1835165042 = true := by decide +kernel
theorem te1 : tl1 ++ wb 1634558565 ++ wb 1914712624 ++ wb 540024880 ++ wb 996370529 ++ wb 1835165042 = tl2 := by decide +kernel
theorem ts1 (fu : Nat) : tyO 10 (fu + 1) (stL tl1 20) 20 = tyO 10 fu (stL tl2 40) 40 := by
  obtain ⟨F, e, f0, f1, f2, f3, f4⟩ := tyQ_of tq1
  rw [tyO, sl_, if_neg (by decide), e, sbind, f0, f1, f2, f3, f4, ap tl1 _ _ _ _ _ (by decide +kernel) (by omega), sbind, te1]
  rfl
def tl3 : List Int32 := [99, 104, 97, 109, 98, 101, 114, 32, 53, 48, 32, 50, 48, 48, 32, 52, 48, 59, 99, 104, 97, 109, 98, 101, 114, 32, 50, 48, 32, 48, 32, 48, 59, 99, 104, 97, 109, 98, 101, 114, 32, 53, 32, 51, 48, 32, 49, 48, 59, 112, 117, 109, 112, 32, 48, 32, 50, 32, 49, 53]
theorem tq2 : tyQ (tyI 10 40 21 (fun _ => 0) 0) 540352563 807416112 997225837 1881157664 840970549 = true := by decide +kernel
theorem te2 : tl2 ++ wb 540352563 ++ wb 807416112 ++ wb 997225837 ++ wb 1881157664 ++ wb 840970549 = tl3 := by decide +kernel
theorem ts2 (fu : Nat) : tyO 10 (fu + 1) (stL tl2 40) 40 = tyO 10 fu (stL tl3 60) 60 := by
  obtain ⟨F, e, f0, f1, f2, f3, f4⟩ := tyQ_of tq2
  rw [tyO, sl_, if_neg (by decide), e, sbind, f0, f1, f2, f3, f4, ap tl2 _ _ _ _ _ (by decide +kernel) (by omega), sbind, te2]
  rfl
def tl4 : List Int32 := [99, 104, 97, 109, 98, 101, 114, 32, 53, 48, 32, 50, 48, 48, 32, 52, 48, 59, 99, 104, 97, 109, 98, 101, 114, 32, 50, 48, 32, 48, 32, 48, 59, 99, 104, 97, 109, 98, 101, 114, 32, 53, 32, 51, 48, 32, 49, 48, 59, 112, 117, 109, 112, 32, 48, 32, 50, 32, 49, 53, 32, 49, 48, 48, 32, 49, 48, 48, 48, 48, 48, 48, 32, 49, 48, 48, 48, 48, 48, 48]
theorem tq3 : tyQ (tyI 10 60 21 (fun _ => 0) 0) 540094512 540094512 808464432 540094512 808464432 = true := by decide +kernel
theorem te3 : tl3 ++ wb 540094512 ++ wb 540094512 ++ wb 808464432 ++ wb 540094512 ++ wb 808464432 = tl4 := by decide +kernel
theorem ts3 (fu : Nat) : tyO 10 (fu + 1) (stL tl3 60) 60 = tyO 10 fu (stL tl4 80) 80 := by
  obtain ⟨F, e, f0, f1, f2, f3, f4⟩ := tyQ_of tq3
  rw [tyO, sl_, if_neg (by decide), e, sbind, f0, f1, f2, f3, f4, ap tl3 _ _ _ _ _ (by decide +kernel) (by omega), sbind, te3]
  rfl
def tl5 : List Int32 := [99, 104, 97, 109, 98, 101, 114, 32, 53, 48, 32, 50, 48, 48, 32, 52, 48, 59, 99, 104, 97, 109, 98, 101, 114, 32, 50, 48, 32, 48, 32, 48, 59, 99, 104, 97, 109, 98, 101, 114, 32, 53, 32, 51, 48, 32, 49, 48, 59, 112, 117, 109, 112, 32, 48, 32, 50, 32, 49, 53, 32, 49, 48, 48, 32, 49, 48, 48, 48, 48, 48, 48, 32, 49, 48, 48, 48, 48, 48, 48, 59, 112, 117, 109, 112, 32, 50, 32, 111, 117, 116, 32, 56, 32, 53, 48, 48, 32, 49, 48]
theorem tq4 : tyQ (tyI 10 80 21 (fun _ => 0) 0) 997225837 1881158176 1869968416 941634864 807416112 = true := by decide +kernel
theorem te4 : tl4 ++ wb 997225837 ++ wb 1881158176 ++ wb 1869968416 ++ wb 941634864 ++ wb 807416112 = tl5 := by decide +kernel
theorem ts4 (fu : Nat) : tyO 10 (fu + 1) (stL tl4 80) 80 = tyO 10 fu (stL tl5 100) 100 := by
  obtain ⟨F, e, f0, f1, f2, f3, f4⟩ := tyQ_of tq4
  rw [tyO, sl_, if_neg (by decide), e, sbind, f0, f1, f2, f3, f4, ap tl4 _ _ _ _ _ (by decide +kernel) (by omega), sbind, te4]
  rfl
def tl6 : List Int32 := [99, 104, 97, 109, 98, 101, 114, 32, 53, 48, 32, 50, 48, 48, 32, 52, 48, 59, 99, 104, 97, 109, 98, 101, 114, 32, 50, 48, 32, 48, 32, 48, 59, 99, 104, 97, 109, 98, 101, 114, 32, 53, 32, 51, 48, 32, 49, 48, 59, 112, 117, 109, 112, 32, 48, 32, 50, 32, 49, 53, 32, 49, 48, 48, 32, 49, 48, 48, 48, 48, 48, 48, 32, 49, 48, 48, 48, 48, 48, 48, 59, 112, 117, 109, 112, 32, 50, 32, 111, 117, 116, 32, 56, 32, 53, 48, 48, 32, 49, 48, 48, 48, 48, 48, 48, 59, 118, 97, 108, 118, 101, 32, 48, 32, 49, 32, 51, 48, 32, 57]
theorem tq5 : tyQ (tyI 10 100 21 (fun _ => 0) 0) 808464432 809203297 1819698464 807416096 858791993 = true := by decide +kernel
theorem te5 : tl5 ++ wb 808464432 ++ wb 809203297 ++ wb 1819698464 ++ wb 807416096 ++ wb 858791993 = tl6 := by decide +kernel
theorem ts5 (fu : Nat) : tyO 10 (fu + 1) (stL tl5 100) 100 = tyO 10 fu (stL tl6 120) 120 := by
  obtain ⟨F, e, f0, f1, f2, f3, f4⟩ := tyQ_of tq5
  rw [tyO, sl_, if_neg (by decide), e, sbind, f0, f1, f2, f3, f4, ap tl5 _ _ _ _ _ (by decide +kernel) (by omega), sbind, te5]
  rfl
def tl7 : List Int32 := [99, 104, 97, 109, 98, 101, 114, 32, 53, 48, 32, 50, 48, 48, 32, 52, 48, 59, 99, 104, 97, 109, 98, 101, 114, 32, 50, 48, 32, 48, 32, 48, 59, 99, 104, 97, 109, 98, 101, 114, 32, 53, 32, 51, 48, 32, 49, 48, 59, 112, 117, 109, 112, 32, 48, 32, 50, 32, 49, 53, 32, 49, 48, 48, 32, 49, 48, 48, 48, 48, 48, 48, 32, 49, 48, 48, 48, 48, 48, 48, 59, 112, 117, 109, 112, 32, 50, 32, 111, 117, 116, 32, 56, 32, 53, 48, 48, 32, 49, 48, 48, 48, 48, 48, 48, 59, 118, 97, 108, 118, 101, 32, 48, 32, 49, 32, 51, 48, 32, 57, 48, 48, 48, 48, 48, 59, 118, 97, 108, 118, 101, 32, 49, 32, 50, 32, 49, 50, 32, 49]
theorem tq6 : tyQ (tyI 10 120 21 (fun _ => 0) 0) 808464432 809203297 1819698464 824193568 825368625 = true := by decide +kernel
theorem te6 : tl6 ++ wb 808464432 ++ wb 809203297 ++ wb 1819698464 ++ wb 824193568 ++ wb 825368625 = tl7 := by decide +kernel
theorem ts6 (fu : Nat) : tyO 10 (fu + 1) (stL tl6 120) 120 = tyO 10 fu (stL tl7 140) 140 := by
  obtain ⟨F, e, f0, f1, f2, f3, f4⟩ := tyQ_of tq6
  rw [tyO, sl_, if_neg (by decide), e, sbind, f0, f1, f2, f3, f4, ap tl6 _ _ _ _ _ (by decide +kernel) (by omega), sbind, te6]
  rfl
def tl8 : List Int32 := [99, 104, 97, 109, 98, 101, 114, 32, 53, 48, 32, 50, 48, 48, 32, 52, 48, 59, 99, 104, 97, 109, 98, 101, 114, 32, 50, 48, 32, 48, 32, 48, 59, 99, 104, 97, 109, 98, 101, 114, 32, 53, 32, 51, 48, 32, 49, 48, 59, 112, 117, 109, 112, 32, 48, 32, 50, 32, 49, 53, 32, 49, 48, 48, 32, 49, 48, 48, 48, 48, 48, 48, 32, 49, 48, 48, 48, 48, 48, 48, 59, 112, 117, 109, 112, 32, 50, 32, 111, 117, 116, 32, 56, 32, 53, 48, 48, 32, 49, 48, 48, 48, 48, 48, 48, 59, 118, 97, 108, 118, 101, 32, 48, 32, 49, 32, 51, 48, 32, 57, 48, 48, 48, 48, 48, 59, 118, 97, 108, 118, 101, 32, 49, 32, 50, 32, 49, 50, 32, 49, 48, 48, 48, 48, 48, 48, 59, 118, 97, 108, 118, 101, 32, 48, 32, 111, 117, 116, 32, 51]
theorem tq7 : tyQ (tyI 10 140 21 (fun _ => 0) 0) 808464432 808467318 1634498149 540024943 1970544691 = true := by decide +kernel
theorem te7 : tl7 ++ wb 808464432 ++ wb 808467318 ++ wb 1634498149 ++ wb 540024943 ++ wb 1970544691 = tl8 := by decide +kernel
theorem ts7 (fu : Nat) : tyO 10 (fu + 1) (stL tl7 140) 140 = tyO 10 fu (stL tl8 160) 160 := by
  obtain ⟨F, e, f0, f1, f2, f3, f4⟩ := tyQ_of tq7
  rw [tyO, sl_, if_neg (by decide), e, sbind, f0, f1, f2, f3, f4, ap tl7 _ _ _ _ _ (by decide +kernel) (by omega), sbind, te7]
  rfl
def tl9 : List Int32 := [99, 104, 97, 109, 98, 101, 114, 32, 53, 48, 32, 50, 48, 48, 32, 52, 48, 59, 99, 104, 97, 109, 98, 101, 114, 32, 50, 48, 32, 48, 32, 48, 59, 99, 104, 97, 109, 98, 101, 114, 32, 53, 32, 51, 48, 32, 49, 48, 59, 112, 117, 109, 112, 32, 48, 32, 50, 32, 49, 53, 32, 49, 48, 48, 32, 49, 48, 48, 48, 48, 48, 48, 32, 49, 48, 48, 48, 48, 48, 48, 59, 112, 117, 109, 112, 32, 50, 32, 111, 117, 116, 32, 56, 32, 53, 48, 48, 32, 49, 48, 48, 48, 48, 48, 48, 59, 118, 97, 108, 118, 101, 32, 48, 32, 49, 32, 51, 48, 32, 57, 48, 48, 48, 48, 48, 59, 118, 97, 108, 118, 101, 32, 49, 32, 50, 32, 49, 50, 32, 49, 48, 48, 48, 48, 48, 48, 59, 118, 97, 108, 118, 101, 32, 48, 32, 111, 117, 116, 32, 51, 32, 49, 48, 48, 48, 48, 48, 48, 59, 118, 97, 108, 118, 101, 32, 49, 32, 111, 117, 116]
theorem tq8 : tyQ (tyI 10 160 21 (fun _ => 0) 0) 540094512 808464432 997613932 1986338865 544175476 = true := by decide +kernel
theorem te8 : tl8 ++ wb 540094512 ++ wb 808464432 ++ wb 997613932 ++ wb 1986338865 ++ wb 544175476 = tl9 := by decide +kernel
theorem ts8 (fu : Nat) : tyO 10 (fu + 1) (stL tl8 160) 160 = tyO 10 fu (stL tl9 180) 180 := by
  obtain ⟨F, e, f0, f1, f2, f3, f4⟩ := tyQ_of tq8
  rw [tyO, sl_, if_neg (by decide), e, sbind, f0, f1, f2, f3, f4, ap tl8 _ _ _ _ _ (by decide +kernel) (by omega), sbind, te8]
  rfl
def tl10 : List Int32 := [99, 104, 97, 109, 98, 101, 114, 32, 53, 48, 32, 50, 48, 48, 32, 52, 48, 59, 99, 104, 97, 109, 98, 101, 114, 32, 50, 48, 32, 48, 32, 48, 59, 99, 104, 97, 109, 98, 101, 114, 32, 53, 32, 51, 48, 32, 49, 48, 59, 112, 117, 109, 112, 32, 48, 32, 50, 32, 49, 53, 32, 49, 48, 48, 32, 49, 48, 48, 48, 48, 48, 48, 32, 49, 48, 48, 48, 48, 48, 48, 59, 112, 117, 109, 112, 32, 50, 32, 111, 117, 116, 32, 56, 32, 53, 48, 48, 32, 49, 48, 48, 48, 48, 48, 48, 59, 118, 97, 108, 118, 101, 32, 48, 32, 49, 32, 51, 48, 32, 57, 48, 48, 48, 48, 48, 59, 118, 97, 108, 118, 101, 32, 49, 32, 50, 32, 49, 50, 32, 49, 48, 48, 48, 48, 48, 48, 59, 118, 97, 108, 118, 101, 32, 48, 32, 111, 117, 116, 32, 51, 32, 49, 48, 48, 48, 48, 48, 48, 59, 118, 97, 108, 118, 101, 32, 49, 32, 111, 117, 116, 32, 50, 32, 52, 48, 48, 48, 48, 48, 59, 102, 108, 97, 110, 103, 101, 32, 48, 32, 53]
theorem tq9 : tyQ (tyI 10 180 21 (fun _ => 0) 0) 540155956 808464432 809199212 1634625381 540024885 = true := by decide +kernel
theorem te9 : tl9 ++ wb 540155956 ++ wb 808464432 ++ wb 809199212 ++ wb 1634625381 ++ wb 540024885 = tl10 := by decide +kernel
theorem ts9 (fu : Nat) : tyO 10 (fu + 1) (stL tl9 180) 180 = tyO 10 fu (stL tl10 200) 200 := by
  obtain ⟨F, e, f0, f1, f2, f3, f4⟩ := tyQ_of tq9
  rw [tyO, sl_, if_neg (by decide), e, sbind, f0, f1, f2, f3, f4, ap tl9 _ _ _ _ _ (by decide +kernel) (by omega), sbind, te9]
  rfl
def tl11 : List Int32 := [99, 104, 97, 109, 98, 101, 114, 32, 53, 48, 32, 50, 48, 48, 32, 52, 48, 59, 99, 104, 97, 109, 98, 101, 114, 32, 50, 48, 32, 48, 32, 48, 59, 99, 104, 97, 109, 98, 101, 114, 32, 53, 32, 51, 48, 32, 49, 48, 59, 112, 117, 109, 112, 32, 48, 32, 50, 32, 49, 53, 32, 49, 48, 48, 32, 49, 48, 48, 48, 48, 48, 48, 32, 49, 48, 48, 48, 48, 48, 48, 59, 112, 117, 109, 112, 32, 50, 32, 111, 117, 116, 32, 56, 32, 53, 48, 48, 32, 49, 48, 48, 48, 48, 48, 48, 59, 118, 97, 108, 118, 101, 32, 48, 32, 49, 32, 51, 48, 32, 57, 48, 48, 48, 48, 48, 59, 118, 97, 108, 118, 101, 32, 49, 32, 50, 32, 49, 50, 32, 49, 48, 48, 48, 48, 48, 48, 59, 118, 97, 108, 118, 101, 32, 48, 32, 111, 117, 116, 32, 51, 32, 49, 48, 48, 48, 48, 48, 48, 59, 118, 97, 108, 118, 101, 32, 49, 32, 111, 117, 116, 32, 50, 32, 52, 48, 48, 48, 48, 48, 59, 102, 108, 97, 110, 103, 101, 32, 48, 32, 53, 48, 59, 102, 108, 97, 110, 103, 101, 32, 48, 32, 48, 59, 102, 108, 97, 110, 103, 101, 32]
theorem tq10 : tyQ (tyI 10 200 21 (fun _ => 0) 0) 809199212 1634625381 540024880 996568161 1852269856 = true := by decide +kernel
theorem te10 : tl10 ++ wb 809199212 ++ wb 1634625381 ++ wb 540024880 ++ wb 996568161 ++ wb 1852269856 = tl11 := by decide +kernel
theorem ts10 (fu : Nat) : tyO 10 (fu + 1) (stL tl10 200) 200 = tyO 10 fu (stL tl11 220) 220 := by
  obtain ⟨F, e, f0, f1, f2, f3, f4⟩ := tyQ_of tq10
  rw [tyO, sl_, if_neg (by decide), e, sbind, f0, f1, f2, f3, f4, ap tl10 _ _ _ _ _ (by decide +kernel) (by omega), sbind, te10]
  rfl
def tl12 : List Int32 := [99, 104, 97, 109, 98, 101, 114, 32, 53, 48, 32, 50, 48, 48, 32, 52, 48, 59, 99, 104, 97, 109, 98, 101, 114, 32, 50, 48, 32, 48, 32, 48, 59, 99, 104, 97, 109, 98, 101, 114, 32, 53, 32, 51, 48, 32, 49, 48, 59, 112, 117, 109, 112, 32, 48, 32, 50, 32, 49, 53, 32, 49, 48, 48, 32, 49, 48, 48, 48, 48, 48, 48, 32, 49, 48, 48, 48, 48, 48, 48, 59, 112, 117, 109, 112, 32, 50, 32, 111, 117, 116, 32, 56, 32, 53, 48, 48, 32, 49, 48, 48, 48, 48, 48, 48, 59, 118, 97, 108, 118, 101, 32, 48, 32, 49, 32, 51, 48, 32, 57, 48, 48, 48, 48, 48, 59, 118, 97, 108, 118, 101, 32, 49, 32, 50, 32, 49, 50, 32, 49, 48, 48, 48, 48, 48, 48, 59, 118, 97, 108, 118, 101, 32, 48, 32, 111, 117, 116, 32, 51, 32, 49, 48, 48, 48, 48, 48, 48, 59, 118, 97, 108, 118, 101, 32, 49, 32, 111, 117, 116, 32, 50, 32, 52, 48, 48, 48, 48, 48, 59, 102, 108, 97, 110, 103, 101, 32, 48, 32, 53, 48, 59, 102, 108, 97, 110, 103, 101, 32, 48, 32, 48, 59, 102, 108, 97, 110, 103, 101, 32, 49, 32, 55, 59, 102, 108, 97, 110, 103, 101, 32, 50, 32, 51, 48, 48, 59, 102, 108, 97]
theorem tq11 : tyQ (tyI 10 220 21 (fun _ => 0) 0) 824194875 1718378862 1734680626 540225584 996568161 = true := by decide +kernel
theorem te11 : tl11 ++ wb 824194875 ++ wb 1718378862 ++ wb 1734680626 ++ wb 540225584 ++ wb 996568161 = tl12 := by decide +kernel
theorem ts11 (fu : Nat) : tyO 10 (fu + 1) (stL tl11 220) 220 = tyO 10 fu (stL tl12 240) 240 := by
  obtain ⟨F, e, f0, f1, f2, f3, f4⟩ := tyQ_of tq11
  rw [tyO, sl_, if_neg (by decide), e, sbind, f0, f1, f2, f3, f4, ap tl11 _ _ _ _ _ (by decide +kernel) (by omega), sbind, te11]
  rfl
def tl13 : List Int32 := [99, 104, 97, 109, 98, 101, 114, 32, 53, 48, 32, 50, 48, 48, 32, 52, 48, 59, 99, 104, 97, 109, 98, 101, 114, 32, 50, 48, 32, 48, 32, 48, 59, 99, 104, 97, 109, 98, 101, 114, 32, 53, 32, 51, 48, 32, 49, 48, 59, 112, 117, 109, 112, 32, 48, 32, 50, 32, 49, 53, 32, 49, 48, 48, 32, 49, 48, 48, 48, 48, 48, 48, 32, 49, 48, 48, 48, 48, 48, 48, 59, 112, 117, 109, 112, 32, 50, 32, 111, 117, 116, 32, 56, 32, 53, 48, 48, 32, 49, 48, 48, 48, 48, 48, 48, 59, 118, 97, 108, 118, 101, 32, 48, 32, 49, 32, 51, 48, 32, 57, 48, 48, 48, 48, 48, 59, 118, 97, 108, 118, 101, 32, 49, 32, 50, 32, 49, 50, 32, 49, 48, 48, 48, 48, 48, 48, 59, 118, 97, 108, 118, 101, 32, 48, 32, 111, 117, 116, 32, 51, 32, 49, 48, 48, 48, 48, 48, 48, 59, 118, 97, 108, 118, 101, 32, 49, 32, 111, 117, 116, 32, 50, 32, 52, 48, 48, 48, 48, 48, 59, 102, 108, 97, 110, 103, 101, 32, 48, 32, 53, 48, 59, 102, 108, 97, 110, 103, 101, 32, 48, 32, 48, 59, 102, 108, 97, 110, 103, 101, 32, 49, 32, 55, 59, 102, 108, 97, 110, 103, 101, 32, 50, 32, 51, 48, 48, 59, 102, 108, 97, 110, 103, 101, 32, 48, 32, 49, 50, 59, 0, 0, 0, 0, 0, 0, 0, 0, 0, 0, 0]
theorem tq12 : tyQ (tyI 10 240 21 (fun _ => 0) 0) 1852269856 807416114 989855744 0 0 = true := by decide +kernel
theorem te12 : tl12 ++ wb 1852269856 ++ wb 807416114 ++ wb 989855744 ++ wb 0 ++ wb 0 = tl13 := by decide +kernel
theorem ts12 (fu : Nat) : tyO 10 (fu + 1) (stL tl12 240) 240 = tyO 10 fu (stL tl13 260) 260 := by
  obtain ⟨F, e, f0, f1, f2, f3, f4⟩ := tyQ_of tq12
  rw [tyO, sl_, if_neg (by decide), e, sbind, f0, f1, f2, f3, f4, ap tl12 _ _ _ _ _ (by decide +kernel) (by omega), sbind, te12]
  rfl
def TX : TT := stL tl13 249
theorem typed : tyO 10 20 T00 0 = some TX := by
  have e0 : T00 = stL tl0 0 := by
    show ((fun _ => 0), 0) = ((fun i => ([] : List Int32).getD i 0), i4 0)
    congr 1
  rw [e0, show tyO 10 20 (stL tl0 0) 0 = _ from ts0 19, show tyO 10 19 (stL tl1 20) 20 = _ from ts1 18, show tyO 10 18 (stL tl2 40) 40 = _ from ts2 17, show tyO 10 17 (stL tl3 60) 60 = _ from ts3 16, show tyO 10 16 (stL tl4 80) 80 = _ from ts4 15, show tyO 10 15 (stL tl5 100) 100 = _ from ts5 14, show tyO 10 14 (stL tl6 120) 120 = _ from ts6 13, show tyO 10 13 (stL tl7 140) 140 = _ from ts7 12, show tyO 10 12 (stL tl8 160) 160 = _ from ts8 11, show tyO 10 11 (stL tl9 180) 180 = _ from ts9 10, show tyO 10 10 (stL tl10 200) 200 = _ from ts10 9, show tyO 10 9 (stL tl11 220) 220 = _ from ts11 8, show tyO 10 8 (stL tl12 240) 240 = _ from ts12 7, show tyO 10 7 (stL tl13 260) 260 = _ from by rw [tyO, sl_, if_pos (by decide)]]
  unfold f9_truncateText
  rw [show TT_length (stL tl13 260) = 260 from rfl, if_neg (by decide), if_pos (by decide), sbind]
  rfl
