/-! one statement of a system text, on both sides -/
def LPz (a : AS) (og rl lk : Nat → Nat) (R : RR) (lY : LL) (fresh : Nat → Int64) (mp : MP) (n : Nat) (b : Nat → Int32) (s : Nat) : Prop := OKP R mp n b s ∧ PLC a og rl lk lY ∧ PLW a og rl lk ∧ PLM a og rl lk fresh ∧ MP_length mp = 0
theorem to_n {v lo hi : Int32} (l h : Nat) (hl : lo.toInt = l) (hh : hi.toInt = h) (h1 : lo.toInt ≤ v.toInt) (h2 : v.toInt ≤ hi.toInt) : ∃ x, l ≤ x ∧ x ≤ h ∧ v = i4 x :=
  ⟨n4 v, by unfold n4; omega, by unfold n4; omega, (i4_n4 (by omega)).symm⟩
theorem ix_0 : ix 0 = 0 := rfl
theorem ix_1 : ix 1 = 1 := rfl
theorem ix_2 : ix 2 = 2 := rfl
theorem ix_3 : ix 3 = 3 := rfl
theorem i8_p1 (n : Nat) : i8 n + 1 = i8 (n + 1) := i8_add n 1
section RD
variable {T : TT} {R : RR} {mp : MP} {n : Nat} {b : Nat → Int32} {lY : LL} {fresh : Nat → Int64}
theorem M_number_e (h : ERP R mp n b) (lo hi : Int64) : f10_number mp lo hi = some (0, mp) := by
  unfold f10_number f10_see
  rw [if_neg (err_ne h).2.2, sbind]
  dsimp only
  rw [M_goOn_e h, sbind]
theorem M_cham_e (h : ERP R mp n b) : f10_chamberHere fresh mp = some (0, mp) := by
  unfold f10_chamberHere
  rw [M_number_e h, sbind]
theorem M_other_e (h : ERP R mp n b) (x : Int32) : f10_otherHere fresh mp x = some (-1, mp) := by
  unfold f10_otherHere
  rw [if_neg (err_ne h).2.2]
theorem M_must_e (h : ERP R mp n b) : f10_must mp 19 = some mp := by
  obtain ⟨r, e⟩ := M_word_e h (i := 19) (by omega)
  unfold f10_must
  rw [e, sbind, M_wrong_e h, sbind, M_goOn_e h, sbind]
  split <;> rfl
theorem C_number_e (h : ERP R mp n b) (lo hi : Int32) : f2_readNumber T R lo hi = some (0, R) := by
  unfold f2_readNumber
  rw [if_neg (err_ne h).1]
theorem C_semi_e (h : ERP R mp n b) : f2_readSemicolon T R = some R := by
  unfold f2_readSemicolon
  rw [if_neg (err_ne h).1]
theorem KW_y {s wi : Nat} {k mx : Int32} (h : OKP R mp n b s) (hwi : wi < 33) (hw : isW n b wi s) (hk : inb k 256 = true) (hf : ¬ fresh (ix k) = mx.toInt64) : f10_keyword fresh mp wi k mx = f10_goOn mp := by
  obtain ⟨g1, g2, g3, g4, g5, g6, g7⟩ := h
  obtain ⟨r, e, p1, p2⟩ := M_isWord g3 g1 g4 hwi (len_ok wi hwi)
  unfold f10_keyword f10_keyword_B13
  rw [e, sbind, p1 hw, if_neg one_ne, gd_of hk, if_neg hf]
  cases f10_goOn mp <;> rfl
theorem KW_e {s wi c : Nat} {k mx : Int32} (h : OKP R mp n b s) (hwi : wi < 33) (hk : inb k 256 = true) (hc : (c = 1 ∧ ¬ isW n b wi s) ∨ (c = 4 ∧ isW n b wi s ∧ fresh (ix k) = mx.toInt64)) : ∃ R2 mp2, f2_fail R (i4 c) (RR_start R) = some R2 ∧ f10_keyword fresh mp wi k mx = some mp2 ∧ ERP R2 mp2 n b ∧ MP_length mp2 = MP_length mp := by
  have h' := h
  obtain ⟨g1, g2, g3, g4, g5, g6, g7⟩ := h'
  obtain ⟨r, e, p1, p2⟩ := M_isWord g3 g1 g4 hwi (len_ok wi hwi)
  obtain ⟨R2, mp2, a1, a2, a3, a4⟩ := err_now (R' := R) h (c := c) (by rcases hc with ⟨rfl, -⟩ | ⟨rfl, -, -⟩ <;> omega) g5
  refine ⟨R2, mp2, ?_, ?_, a3, a4⟩
  · rw [g2.1]; exact a1
  · unfold f10_keyword f10_keyword_B13
    rcases hc with ⟨rfl, hw⟩ | ⟨rfl, hw, hf⟩
    · rw [e, sbind, p2 hw, if_pos rfl, show f10_wrong mp 1 = some mp2 from a2, sbind, gd_of hk, M_wrong_e a3, sbind, M_goOn_e a3, sbind]
      split <;> rfl
    · rw [e, sbind, p1 hw, if_neg one_ne, gd_of hk, if_pos hf, show f10_wrong mp 4 = some mp2 from a2, sbind, M_goOn_e a3, sbind]
theorem KE_F {s c : Nat} (h : OKP R mp n b s) (hc : (c = 1 ∧ ¬ isW n b 3 s) ∨ (c = 4 ∧ isW n b 3 s ∧ fresh (ix 3) = (24 : Int32).toInt64)) : ∃ R2 mp2, f2_fail R (i4 c) (RR_start R) = some R2 ∧ f10_readFlange fresh mp = some (fresh, mp2) ∧ ERP R2 mp2 n b ∧ MP_length mp2 = MP_length mp := by
  obtain ⟨R2, mp2, a1, a2, a3, a4⟩ := KW_e (wi := 23) (k := 3) (mx := 24) h (by omega) rfl (by rw [isW_eq sB_23]; exact hc)
  refine ⟨R2, mp2, a1, ?_, a3, a4⟩
  unfold f10_readFlange
  rw [a2, sbind, M_cham_e a3, sbind]
  dsimp only
  rw [M_number_e a3, sbind]
  dsimp only
  rw [M_must_e a3, sbind, if_neg (err_ne a3).2.2]
theorem KE_V {s c : Nat} (h : OKP R mp n b s) (hc : (c = 1 ∧ ¬ isW n b 2 s) ∨ (c = 4 ∧ isW n b 2 s ∧ fresh (ix 2) = (10 : Int32).toInt64)) : ∃ R2 mp2, f2_fail R (i4 c) (RR_start R) = some R2 ∧ f10_readValve fresh mp = some (fresh, mp2) ∧ ERP R2 mp2 n b ∧ MP_length mp2 = MP_length mp := by
  obtain ⟨R2, mp2, a1, a2, a3, a4⟩ := KW_e (wi := 22) (k := 2) (mx := 10) h (by omega) rfl (by rw [isW_eq sB_22]; exact hc)
  refine ⟨R2, mp2, a1, ?_, a3, a4⟩
  unfold f10_readValve
  rw [a2, sbind, M_cham_e a3, sbind]
  dsimp only
  rw [M_other_e a3, sbind]
  dsimp only
  rw [M_number_e a3, sbind]
  dsimp only
  rw [M_number_e a3, sbind]
  dsimp only
  rw [M_must_e a3, sbind, if_neg (err_ne a3).2.2]
theorem KE_P {s c : Nat} (h : OKP R mp n b s) (hc : (c = 1 ∧ ¬ isW n b 1 s) ∨ (c = 4 ∧ isW n b 1 s ∧ fresh (ix 1) = (6 : Int32).toInt64)) : ∃ R2 mp2, f2_fail R (i4 c) (RR_start R) = some R2 ∧ f10_readPump fresh mp = some (fresh, mp2) ∧ ERP R2 mp2 n b ∧ MP_length mp2 = MP_length mp := by
  obtain ⟨R2, mp2, a1, a2, a3, a4⟩ := KW_e (wi := 20) (k := 1) (mx := 6) h (by omega) rfl (by rw [isW_eq sB_20]; exact hc)
  refine ⟨R2, mp2, a1, ?_, a3, a4⟩
  unfold f10_readPump f10_readPump_B69
  rw [a2, sbind, M_cham_e a3, sbind]
  dsimp only
  rw [M_other_e a3, sbind]
  dsimp only
  rw [M_number_e a3, sbind]
  dsimp only
  rw [M_number_e a3, sbind]
  dsimp only
  rw [M_number_e a3, sbind]
  dsimp only
  rw [if_pos rfl, M_must_e a3, sbind, if_neg (err_ne a3).2.2]
theorem KE_C {s c : Nat} (h : OKP R mp n b s) (hc : (c = 1 ∧ ¬ isW n b 0 s) ∨ (c = 4 ∧ isW n b 0 s ∧ fresh (ix 0) = (8 : Int32).toInt64)) : ∃ R2 mp2, f2_fail R (i4 c) (RR_start R) = some R2 ∧ f10_readChamber fresh mp = some (fresh, mp2) ∧ ERP R2 mp2 n b ∧ MP_length mp2 = MP_length mp := by
  obtain ⟨R2, mp2, a1, a2, a3, a4⟩ := KW_e (wi := 18) (k := 0) (mx := 8) h (by omega) rfl (by rw [isW_eq sB_18]; exact hc)
  refine ⟨R2, mp2, a1, ?_, a3, a4⟩
  unfold f10_readChamber
  rw [a2, sbind, M_number_e a3, sbind]
  dsimp only
  rw [M_number_e a3, sbind]
  dsimp only
  rw [M_number_e a3, sbind]
  dsimp only
  rw [M_must_e a3, sbind, if_neg (err_ne a3).2.2]
def RDR (a : AS) (n : Nat) (b : Nat → Int32) (dC dP dV dF : Nat) (R' : RR) (lY' : LL) (fresh' : Nat → Int64) (mp' : MP) : Prop :=
  ERP R' mp' n b ∧ MP_length mp' = 0 ∨ ∃ a' og' rl' lk' s', LPz a' og' rl' lk' R' lY' fresh' mp' n b s' ∧ AS_nC a' = AS_nC a + dC ∧ AS_nP a' = AS_nP a + dP ∧ AS_nV a' = AS_nV a + dV ∧ AS_nF a' = AS_nF a + dF
variable {a : AS} {og rl lk : Nat → Nat}
theorem not_full {N m : Nat} {x : Int32} (h : N < m) (hm : m < 1000) (hx : x = i4 m) {k : Int64} (hk : k = i8 N) : ¬ k = x.toInt64 := by
  rw [hk, hx, i4_to8 (by omega), i8_eq (by omega) (by omega)]
  omega
theorem READ_F (hT : TXc T n b) {s : Nat} (h : LPz a og rl lk R lY fresh mp n b s) (hw : isW n b 3 s) (hN : AS_nF a < 24) : ∃ R1 R' lY' fresh' mp', f2_advance T R = some R1 ∧ f6_readFlange T R1 lY = some (R', lY') ∧ f10_readFlange fresh mp = some (fresh', mp') ∧ RDR a n b 0 0 0 1 R' lY' fresh' mp' := by
  obtain ⟨hP, hLC, hLW, hLM, hl⟩ := h
  have nn := hLW.1.1
  obtain ⟨R1, mp1, a1, a2, a3, a4⟩ := go_on hT hP
  obtain ⟨v1, R2, u1, mp2, b1, b2, b3, b4, b5⟩ := CHAM hT (Or.inl ⟨_, a3⟩) (lY := lY) (fresh := fresh) nn.1 hLC.1.1.1 hLM.1.1.1
  obtain ⟨v2, R3, u2, mp3, c1, c2, c3, c4, c5⟩ := NUM hT b3 (lo := 0) (hi := 9999) (lo8 := 0) (hi8 := 9999) (fun _ => ⟨rfl, rfl⟩)
  obtain ⟨R4, mp4, d1, d2, d3, d4, d5⟩ := MUST hT c3
  have hl4 : MP_length mp4 = 0 := by rw [d4, c4, b4, a4]; exact hl
  have kw : f10_keyword fresh mp 23 3 24 = some mp1 := (KW_y (fresh := fresh) (k := 3) (mx := 24) hP (by omega) ((isW_eq sB_23).mpr hw) rfl (not_full hN (by omega) rfl hLM.1.1.2.2.2)).trans a2
  by_cases q : RR_errorCode R4 = 0
  · rcases d3 with ⟨s', hP'⟩ | hE
    · obtain ⟨f1, f2, f3, f4⟩ := c5 (d5 q)
      obtain ⟨f5, f6, c, hc, f7⟩ := b5 f1
      obtain ⟨x, -, x2, f8⟩ := to_n 0 9999 (by decide) (by decide) f3 f4
      obtain ⟨ly', k1, k2⟩ := C_addF hN hLC c x
      refine ⟨R1, R4, ly', _, mp4, a1, ?_, ?_, Or.inr ⟨aF a c, og, rl, setN lk (AS_nF a) x, s', ⟨hP', k2, W_addF hN hLW hc x2, M_addF hN hLW hLM c x, hl4⟩, rfl, rfl, rfl, rfl⟩⟩
      · unfold f6_readFlange
        rw [b1, sbind]
        dsimp only
        rw [c1, sbind]
        dsimp only
        rw [d1, sbind, if_pos q, f7, f8, k1, sbind]
      · have e3 : fresh (ix 3) = i8 (AS_nF a) := hLM.1.1.2.2.2
        unfold f10_readFlange
        rw [kw, sbind, b2, sbind]
        dsimp only
        rw [c2, sbind]
        dsimp only
        rw [d2, sbind, if_pos (show MP_fault mp4 ≤ 0 by rw [hP'.2.2.2.2.2.1]; exact Int32.le_refl _), e3, i8_to4, at_f, sbind, ad0, ad1, gdi _ (by omega) (by omega), gdi _ (by omega) (by omega), ix4 (by omega), ix4 (by omega), f6, f2, f7, f8, i4_to8 (by omega), i4_to8 (by omega), ix_3, updL_ne _ _ (by omega), updL_ne _ _ (by omega), show fresh 3 = i8 (AS_nF a) from e3, i8_p1]
    · exact absurd q (err_ne hE).1
  · rcases d3 with ⟨s', hP'⟩ | hE
    · exact absurd hP'.2.2.2.2.1 q
    · refine ⟨R1, R4, lY, fresh, mp4, a1, ?_, ?_, Or.inl ⟨hE, hl4⟩⟩
      · unfold f6_readFlange
        rw [b1, sbind]
        dsimp only
        rw [c1, sbind]
        dsimp only
        rw [d1, sbind, if_neg q]
      · unfold f10_readFlange
        rw [kw, sbind, b2, sbind]
        dsimp only
        rw [c2, sbind]
        dsimp only
        rw [d2, sbind, if_neg (err_ne hE).2.2]
theorem READ_V (hT : TXc T n b) {s : Nat} (h : LPz a og rl lk R lY fresh mp n b s) (hw : isW n b 2 s) (hN : AS_nV a < 10) : ∃ R1 R' lY' fresh' mp', f2_advance T R = some R1 ∧ f6_readValve T R1 lY = some (R', lY') ∧ f10_readValve fresh mp = some (fresh', mp') ∧ RDR a n b 0 0 1 0 R' lY' fresh' mp' := by
  obtain ⟨hP, hLC, hLW, hLM, hl⟩ := h
  have nn := hLW.1.1
  obtain ⟨R1, mp1, a1, a2, a3, a4⟩ := go_on hT hP
  obtain ⟨v1, R2, u1, mp2, b1, b2, b3, b4, b5⟩ := CHAM hT (Or.inl ⟨_, a3⟩) (lY := lY) (fresh := fresh) nn.1 hLC.1.1.1 hLM.1.1.1
  obtain ⟨v2, R3, u2, mp3, c1, c2, c3, c4, c5⟩ := OTHER hT b3 (lY := lY) (fresh := fresh) nn.1 hLC.1.1.1 hLM.1.1.1 (x := v1) (x' := u1) (fun q => (b5 q).2.1)
  obtain ⟨v3, R4, u3, mp4, d1, d2, d3, d4, d5⟩ := NUM hT c3 (lo := 1) (hi := 999) (lo8 := 1) (hi8 := 999) (fun _ => ⟨rfl, rfl⟩)
  obtain ⟨v4, R5, u4, mp5, e1, e2, e3, e4, e5⟩ := NUM hT d3 (lo := 0) (hi := 1000000) (lo8 := 0) (hi8 := 1000000) (fun _ => ⟨rfl, rfl⟩)
  obtain ⟨R6, mp6, f1, f2, f3, f4, f5⟩ := MUST hT e3
  have hl6 : MP_length mp6 = 0 := by rw [f4, e4, d4, c4, b4, a4]; exact hl
  have kw : f10_keyword fresh mp 22 2 10 = some mp1 := (KW_y (fresh := fresh) (k := 2) (mx := 10) hP (by omega) ((isW_eq sB_22).mpr hw) rfl (not_full hN (by omega) rfl hLM.1.1.2.2.1)).trans a2
  by_cases q : RR_errorCode R6 = 0
  · rcases f3 with ⟨s', hP'⟩ | hE
    · obtain ⟨g1, g2, g3, g4⟩ := e5 (f5 q)
      obtain ⟨m1, m2, m3, m4'⟩ := d5 g1
      obtain ⟨o1, e, o2, o3, o4, o5⟩ := c5 m1
      obtain ⟨p1, p2, c, hc, p3⟩ := b5 o1
      obtain ⟨r, -, r2, r3⟩ := to_n 0 1000000 (by decide) (by decide) g3 g4
      obtain ⟨g, y1, y2, y3⟩ := to_n 1 999 (by decide) (by decide) m3 m4'
      have hec : e ≠ c := fun z => by
        rcases o5 with o5 | o5
        · omega
        · exact o5 (by rw [o3, p3, z])
      obtain ⟨ly', k1, k2⟩ := C_addV hN hLC c e g r
      refine ⟨R1, R6, ly', _, mp6, a1, ?_, ?_, Or.inr ⟨aV a c e g, og, setN rl (AS_nV a) r, lk, s', ⟨hP', k2, W_addV hN hLW hc o2 hec ⟨y1, y2⟩ r2, M_addV hN hLW hLM c e g r, hl6⟩, aV_nC a c e g, aV_nP a c e g, aV_nV a c e g, aV_nF a c e g⟩⟩
      · unfold f6_readValve
        rw [b1, sbind]
        dsimp only
        rw [c1, sbind]
        dsimp only
        rw [d1, sbind]
        dsimp only
        rw [e1, sbind]
        dsimp only
        rw [f1, sbind, if_pos q, p3, o3, y3, r3, k1, sbind]
      · have z3 : fresh (ix 2) = i8 (AS_nV a) := hLM.1.1.2.2.1
        unfold f10_readValve
        rw [kw, sbind, b2, sbind]
        dsimp only
        rw [c2, sbind]
        dsimp only
        rw [d2, sbind]
        dsimp only
        rw [e2, sbind]
        dsimp only
        rw [f2, sbind, if_pos (show MP_fault mp6 ≤ 0 by rw [hP'.2.2.2.2.2.1]; exact Int32.le_refl _), z3, i8_to4, at_v, sbind, ad0, ad1, ad2, ad3, gdi _ (by omega) (by omega), gdi _ (by omega) (by omega), gdi _ (by omega) (by omega), gdi _ (by omega) (by omega), ix4 (by omega), ix4 (by omega), ix4 (by omega), ix4 (by omega), p2, o4, m2, g2, p3, y3, r3, m4_to8 e (by omega), i4_to8 (by omega), i4_to8 (by omega), i4_to8 (by omega), ix_2, updL_ne _ _ (by omega), updL_ne _ _ (by omega), updL_ne _ _ (by omega), updL_ne _ _ (by omega), show fresh 2 = i8 (AS_nV a) from z3, i8_p1]
    · exact absurd q (err_ne hE).1
  · rcases f3 with ⟨s', hP'⟩ | hE
    · exact absurd hP'.2.2.2.2.1 q
    · refine ⟨R1, R6, lY, fresh, mp6, a1, ?_, ?_, Or.inl ⟨hE, hl6⟩⟩
      · unfold f6_readValve
        rw [b1, sbind]
        dsimp only
        rw [c1, sbind]
        dsimp only
        rw [d1, sbind]
        dsimp only
        rw [e1, sbind]
        dsimp only
        rw [f1, sbind, if_neg q]
      · unfold f10_readValve
        rw [kw, sbind, b2, sbind]
        dsimp only
        rw [c2, sbind]
        dsimp only
        rw [d2, sbind]
        dsimp only
        rw [e2, sbind]
        dsimp only
        rw [f2, sbind, if_neg (err_ne hE).2.2]
theorem READ_C (hT : TXc T n b) {s : Nat} (h : LPz a og rl lk R lY fresh mp n b s) (hw : isW n b 0 s) (hN : AS_nC a < 8) : ∃ R1 R' lY' fresh' mp', f2_advance T R = some R1 ∧ f6_readChamber T R1 lY = some (R', lY') ∧ f10_readChamber fresh mp = some (fresh', mp') ∧ RDR a n b 1 0 0 0 R' lY' fresh' mp' := by
  obtain ⟨hP, hLC, hLW, hLM, hl⟩ := h
  have nn := hLW.1.1
  obtain ⟨R1, mp1, a1, a2, a3, a4⟩ := go_on hT hP
  obtain ⟨v1, R2, u1, mp2, b1, b2, b3, b4, b5⟩ := NUM hT (Or.inl ⟨_, a3⟩) (lo := 1) (hi := 999) (lo8 := 1) (hi8 := 999) (fun _ => ⟨rfl, rfl⟩)
  obtain ⟨v2, R3, u2, mp3, c1, c2, c3, c4, c5⟩ := NUM hT b3 (lo := 0) (hi := 9999) (lo8 := 0) (hi8 := 9999) (fun _ => ⟨rfl, rfl⟩)
  obtain ⟨v3, R4, u3, mp4, d1, d2, d3, d4, d5⟩ := NUM hT c3 (lo := 0) (hi := 999) (lo8 := 0) (hi8 := 999) (fun _ => ⟨rfl, rfl⟩)
  obtain ⟨R6, mp6, f1, f2, f3, f4, f5⟩ := MUST hT d3
  have hl6 : MP_length mp6 = 0 := by rw [f4, d4, c4, b4, a4]; exact hl
  have kw : f10_keyword fresh mp 18 0 8 = some mp1 := (KW_y (fresh := fresh) (k := 0) (mx := 8) hP (by omega) ((isW_eq sB_18).mpr hw) rfl (not_full hN (by omega) rfl hLM.1.1.1)).trans a2
  by_cases q : RR_errorCode R6 = 0
  · rcases f3 with ⟨s', hP'⟩ | hE
    · obtain ⟨m1, m2, m3, m4'⟩ := d5 (f5 q)
      obtain ⟨o1, o2, o3, o4⟩ := c5 m1
      obtain ⟨p1, p2, p3, p4⟩ := b5 o1
      obtain ⟨v, x1, x2, x3⟩ := to_n 1 999 (by decide) (by decide) p3 p4
      obtain ⟨g, -, y2, y3⟩ := to_n 0 9999 (by decide) (by decide) o3 o4
      obtain ⟨r, -, r2, r3⟩ := to_n 0 999 (by decide) (by decide) m3 m4'
      obtain ⟨ly', k1, k2⟩ := C_addC hN hLC v g r
      refine ⟨R1, R6, ly', _, mp6, a1, ?_, ?_, Or.inr ⟨aC a v r, setN og (AS_nC a) g, rl, lk, s', ⟨hP', k2, W_addC hN hLW ⟨x1, x2⟩ y2 r2, M_addC hN hLW hLM v g r, hl6⟩, aC_nC a v r, aC_nP a v r, aC_nV a v r, aC_nF a v r⟩⟩
      · unfold f6_readChamber
        rw [b1, sbind]
        dsimp only
        rw [c1, sbind]
        dsimp only
        rw [d1, sbind]
        dsimp only
        rw [f1, sbind, if_pos q, x3, y3, r3, k1, sbind]
      · have z3 : fresh (ix 0) = i8 (AS_nC a) := hLM.1.1.1
        have z4' : (1000000 : Int64) * i8 v = i8 (1000000 * v) := i8_mul 1000000 v
        unfold f10_readChamber
        rw [kw, sbind, b2, sbind]
        dsimp only
        rw [c2, sbind]
        dsimp only
        rw [d2, sbind]
        dsimp only
        rw [f2, sbind, if_pos (show MP_fault mp6 ≤ 0 by rw [hP'.2.2.2.2.2.1]; exact Int32.le_refl _), z3, i8_to4, at_c, sbind, ad0, ad1, ad2, ad3, gdi _ (by omega) (by omega), gdi _ (by omega) (by omega), gdi _ (by omega) (by omega), gdi _ (by omega) (by omega), ix4 (by omega), ix4 (by omega), ix4 (by omega), ix4 (by omega), p2, o2, m2, x3, y3, r3, i4_to8 (by omega), i4_to8 (by omega), i4_to8 (by omega), z4', ix_0, updL_ne _ _ (by omega), updL_ne _ _ (by omega), updL_ne _ _ (by omega), updL_ne _ _ (by omega), show fresh 0 = i8 (AS_nC a) from z3, i8_p1]
    · exact absurd q (err_ne hE).1
  · rcases f3 with ⟨s', hP'⟩ | hE
    · exact absurd hP'.2.2.2.2.1 q
    · refine ⟨R1, R6, lY, fresh, mp6, a1, ?_, ?_, Or.inl ⟨hE, hl6⟩⟩
      · unfold f6_readChamber
        rw [b1, sbind]
        dsimp only
        rw [c1, sbind]
        dsimp only
        rw [d1, sbind]
        dsimp only
        rw [f1, sbind, if_neg q]
      · unfold f10_readChamber
        rw [kw, sbind, b2, sbind]
        dsimp only
        rw [c2, sbind]
        dsimp only
        rw [d2, sbind]
        dsimp only
        rw [f2, sbind, if_neg (err_ne hE).2.2]
/-- the last part of a pump's statement -/
theorem PUMP_end (hT : TXc T n b) (hLC : PLC a og rl lk lY) (hLW : PLW a og rl lk) (hLM : PLM a og rl lk fresh) (hN : AS_nP a < 6) {R0 : RR} {mp0 : MP} (hP : PRP R0 mp0 n b) (hl : MP_length mp0 = 0) {x1 x2 x3 x4 x5 x6 y1 y2 y3 y4 y5 y6 : Int32}
    (hv : RR_errorCode R0 = 0 → ∃ c e s l h k, c < AS_nC a ∧ (e = 8 ∨ e < AS_nC a) ∧ e ≠ c ∧ (1 ≤ s ∧ s ≤ 999) ∧ l ≤ 1000000 ∧ h ≤ 1000000 ∧ k ≤ 1000000 ∧ x1 = i4 c ∧ y1 = i4 c ∧ x2 = i4 e ∧ y2 = m4 e ∧ x3 = i4 s ∧ y3 = i4 s ∧ x4 = i4 l ∧ y4 = i4 l ∧ x5 = i4 h ∧ y5 = i4 h ∧ x6 = i4 k ∧ y6 = if e = 8 then -1 else i4 k) :
    ∃ R' lY' fresh' mp', f6_readPump_B82 T R0 lY x1 x2 x3 x4 x5 x6 = some (R', lY') ∧ f10_readPump_B69 fresh mp0 y1 y2 y3 y4 y5 y6 = some (fresh', mp') ∧ RDR a n b 0 1 0 0 R' lY' fresh' mp' := by
  have nn := hLW.1.1
  obtain ⟨R6, mp6, f1, f2, f3, f4, f5⟩ := MUST hT hP
  have hl6 : MP_length mp6 = 0 := f4.trans hl
  by_cases q : RR_errorCode R6 = 0
  · rcases f3 with ⟨s', hP'⟩ | hE
    · obtain ⟨c, e, s, l, h, k, hc, he, hec, hs, hl', hh, hk, t1, t2, t3, t4, t5, t6, t7, t8, t9, t10, t11, t12⟩ := hv (f5 q)
      obtain ⟨ly', k1, k2⟩ := C_addP hN hLC c e s l h k
      refine ⟨R6, ly', _, mp6, ?_, ?_, Or.inr ⟨aP a c e s l h k, og, rl, lk, s', ⟨hP', k2, W_addP hN hLW hc he hec hs hl' hh hk, M_addP hN hLW hLM c e s l h k, hl6⟩, aP_nC a c e s l h k, aP_nP a c e s l h k, aP_nV a c e s l h k, aP_nF a c e s l h k⟩⟩
      · unfold f6_readPump_B82
        rw [f1, sbind, if_pos q, t1, t3, t5, t7, t9, t11, k1, sbind]
      · have z3 : fresh (ix 1) = i8 (AS_nP a) := hLM.1.1.2.1
        have z6 : y6.toInt64 = if e = 8 then -1 else i8 k := by
          rw [t12]
          by_cases c8 : e = 8
          · rw [if_pos c8, if_pos c8]; exact m1_to8
          · rw [if_neg c8, if_neg c8]; exact i4_to8 (by omega)
        unfold f10_readPump_B69
        rw [f2, sbind, if_pos (show MP_fault mp6 ≤ 0 by rw [hP'.2.2.2.2.2.1]; exact Int32.le_refl _), z3, i8_to4, at_p, sbind, ad0, ad1, ad2, ad3, ad4, ad5, gdi _ (by omega) (by omega), gdi _ (by omega) (by omega), gdi _ (by omega) (by omega), gdi _ (by omega) (by omega), gdi _ (by omega) (by omega), gdi _ (by omega) (by omega), ix4 (by omega), ix4 (by omega), ix4 (by omega), ix4 (by omega), ix4 (by omega), ix4 (by omega), z6, t2, t4, t6, t8, t10, m4_to8 e (by omega), i4_to8 (by omega), i4_to8 (by omega), i4_to8 (by omega), i4_to8 (by omega), ix_1, updL_ne _ _ (by omega), updL_ne _ _ (by omega), updL_ne _ _ (by omega), updL_ne _ _ (by omega), updL_ne _ _ (by omega), updL_ne _ _ (by omega), show fresh 1 = i8 (AS_nP a) from z3, i8_p1]
    · exact absurd q (err_ne hE).1
  · rcases f3 with ⟨s', hP'⟩ | hE
    · exact absurd hP'.2.2.2.2.1 q
    · refine ⟨R6, lY, fresh, mp6, ?_, ?_, Or.inl ⟨hE, hl6⟩⟩
      · unfold f6_readPump_B82
        rw [f1, sbind, if_neg q]
      · unfold f10_readPump_B69
        rw [f2, sbind, if_neg (err_ne hE).2.2]
theorem READ_P (hT : TXc T n b) {s : Nat} (h : LPz a og rl lk R lY fresh mp n b s) (hw : isW n b 1 s) (hN : AS_nP a < 6) : ∃ R1 R' lY' fresh' mp', f2_advance T R = some R1 ∧ f6_readPump T R1 lY = some (R', lY') ∧ f10_readPump fresh mp = some (fresh', mp') ∧ RDR a n b 0 1 0 0 R' lY' fresh' mp' := by
  obtain ⟨hP, hLC, hLW, hLM, hl⟩ := h
  have nn := hLW.1.1
  obtain ⟨R1, mp1, a1, a2, a3, a4⟩ := go_on hT hP
  obtain ⟨v1, R2, u1, mp2, b1, b2, b3, b4, b5⟩ := CHAM hT (Or.inl ⟨_, a3⟩) (lY := lY) (fresh := fresh) nn.1 hLC.1.1.1 hLM.1.1.1
  obtain ⟨v2, R3, u2, mp3, c1, c2, c3, c4, c5⟩ := OTHER hT b3 (lY := lY) (fresh := fresh) nn.1 hLC.1.1.1 hLM.1.1.1 (x := v1) (x' := u1) (fun q => (b5 q).2.1)
  obtain ⟨v3, R4, u3, mp4, d1, d2, d3, d4, d5⟩ := NUM hT c3 (lo := 1) (hi := 999) (lo8 := 1) (hi8 := 999) (fun _ => ⟨rfl, rfl⟩)
  obtain ⟨v4, R5, u4, mp5, e1, e2, e3, e4, e5⟩ := NUM hT d3 (lo := 0) (hi := 1000000) (lo8 := 0) (hi8 := 1000000) (fun _ => ⟨rfl, rfl⟩)
  obtain ⟨v5, R6, u5, mp6, f1, f2, f3, f4, f5⟩ := NUM hT e3 (lo := v4) (hi := 1000000) (lo8 := u4.toInt64) (hi8 := 1000000) (fun q => ⟨by rw [(e5 q).2.1]; exact Int32.toInt_toInt64 _, rfl⟩)
  have hl6 : MP_length mp6 = 0 := by rw [f4, e4, d4, c4, b4, a4]; exact hl
  have kw : f10_keyword fresh mp 20 1 6 = some mp1 := (KW_y (fresh := fresh) (k := 1) (mx := 6) hP (by omega) ((isW_eq sB_20).mpr hw) rfl (not_full hN (by omega) rfl hLM.1.1.2.1)).trans a2
  have CC : f6_readPump T R1 lY = if v2 = 8 then f6_readPump_B82 T R6 lY v1 v2 v3 v4 v5 1000000 else (f2_readNumber T R6 0 1000000).bind fun u79 => f6_readPump_B82 T u79.2 lY v1 v2 v3 v4 v5 u79.1 := by
    unfold f6_readPump
    rw [b1, sbind]
    dsimp only
    rw [c1, sbind]
    dsimp only
    rw [d1, sbind]
    dsimp only
    rw [e1, sbind]
    dsimp only
    rw [f1, sbind]
  have MM : f10_readPump fresh mp = if u2 = (-1) then f10_readPump_B69 fresh mp6 u1 u2 u3 u4 u5 (-1) else (f10_number mp6 0 1000000).bind fun u66 => f10_readPump_B69 fresh u66.2 u1 u2 u3 u4 u5 u66.1 := by
    unfold f10_readPump
    rw [kw, sbind, b2, sbind]
    dsimp only
    rw [c2, sbind]
    dsimp only
    rw [d2, sbind]
    dsimp only
    rw [e2, sbind]
    dsimp only
    rw [f2, sbind]
  rw [MM]
  by_cases q : RR_errorCode R6 = 0
  · obtain ⟨g1, g2, g3, g4⟩ := f5 q
    obtain ⟨h1, h2, h3, h4⟩ := e5 g1
    obtain ⟨m1, m2, m3, m4'⟩ := d5 h1
    obtain ⟨o1, e, o2, o3, o4, o5⟩ := c5 m1
    obtain ⟨p1, p2, c, hc, p3⟩ := b5 o1
    obtain ⟨l, -, l2, l3⟩ := to_n 0 1000000 (by decide) (by decide) h3 h4
    obtain ⟨k, k1, k2, k3⟩ := to_n l 1000000 (by rw [l3, i4_toInt (by omega)]) (by decide) g3 g4
    obtain ⟨g, y1, y2, y3⟩ := to_n 1 999 (by decide) (by decide) m3 m4'
    have hec : e ≠ c := fun z => by
      rcases o5 with o5 | o5
      · omega
      · exact o5 (by rw [o3, p3, z])
    by_cases c8 : e = 8
    · have z2 : v2 = 8 := by rw [o3, c8]; rfl
      have z3 : u2 = -1 := by rw [o4, c8]; rfl
      obtain ⟨R', lY', fresh', mp', w1, w2, w3⟩ := PUMP_end hT hLC hLW hLM hN f3 hl6 (x1 := v1) (x2 := v2) (x3 := v3) (x4 := v4) (x5 := v5) (x6 := 1000000) (y1 := u1) (y2 := u2) (y3 := u3) (y4 := u4) (y5 := u5) (y6 := -1) (fun _ => ⟨c, e, g, l, k, 1000000, hc, o2, hec, ⟨y1, y2⟩, l2, k2, Nat.le_refl _, p3, p2.trans p3, o3, o4, y3, m2.trans y3, l3, h2.trans l3, k3, g2.trans k3, rfl, by rw [if_pos c8]⟩)
      refine ⟨R1, R', lY', fresh', mp', a1, ?_, ?_, w3⟩
      · rw [CC, if_pos z2, w1]
      · rw [if_pos z3, w2]
    · have z2 : ¬ v2 = 8 := by
        rw [o3]
        exact fun z => c8 ((i4_eq (b := 8) (by omega) (by omega)).mp z)
      have z3 : ¬ u2 = -1 := by
        rw [o4, m4_lt c8, i4_ne_m1 (by omega)]
        exact id
      obtain ⟨v6, R7, u6, mp7, q1, q2, q3, q4, q5⟩ := NUM hT f3 (lo := 0) (hi := 1000000) (lo8 := 0) (hi8 := 1000000) (fun _ => ⟨rfl, rfl⟩)
      obtain ⟨R', lY', fresh', mp', w1, w2, w3⟩ := PUMP_end hT hLC hLW hLM hN q3 (q4.trans hl6) (x1 := v1) (x2 := v2) (x3 := v3) (x4 := v4) (x5 := v5) (x6 := v6) (y1 := u1) (y2 := u2) (y3 := u3) (y4 := u4) (y5 := u5) (y6 := u6) (fun qq => by
        obtain ⟨j1, j2, j3, j4⟩ := q5 qq
        obtain ⟨t, -, t2, t3⟩ := to_n 0 1000000 (by decide) (by decide) j3 j4
        exact ⟨c, e, g, l, k, t, hc, o2, hec, ⟨y1, y2⟩, l2, k2, t2, p3, p2.trans p3, o3, o4, y3, m2.trans y3, l3, h2.trans l3, k3, g2.trans k3, t3, by rw [if_neg c8]; exact j2.trans t3⟩)
      refine ⟨R1, R', lY', fresh', mp', a1, ?_, ?_, w3⟩
      · rw [CC, if_neg z2, q1, sbind, w1]
      · rw [if_neg z3, q2, sbind, w2]
  · rcases f3 with ⟨s', hP'⟩ | hE
    · exact absurd hP'.2.2.2.2.1 q
    · refine ⟨R1, R6, lY, fresh, mp6, a1, ?_, ?_, Or.inl ⟨hE, hl6⟩⟩
      · by_cases z : v2 = 8
        · rw [CC, if_pos z]
          unfold f6_readPump_B82
          rw [C_semi_e hE, sbind, if_neg q]
        · rw [CC, if_neg z, C_number_e hE, sbind]
          unfold f6_readPump_B82
          dsimp only
          rw [C_semi_e hE, sbind, if_neg q]
      · by_cases z : u2 = -1
        · rw [if_pos z]
          unfold f10_readPump_B69
          rw [M_must_e hE, sbind, if_neg (err_ne hE).2.2]
        · rw [if_neg z, M_number_e hE, sbind]
          unfold f10_readPump_B69
          dsimp only
          rw [M_must_e hE, sbind, if_neg (err_ne hE).2.2]
end RD
