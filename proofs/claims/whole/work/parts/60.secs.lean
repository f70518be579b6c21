/-! the sections of a system text -/
theorem bit255 : bit 255 31 = false := by decide
theorem bitm1 : bit (-1) 31 = true := by decide
theorem chr_m1 {n : Nat} {b : Nat → Int32} {i : Nat} (h : chr n b i = -1) : n ≤ i := by
  refine Nat.le_of_not_lt (fun q => ?_)
  unfold chr at h
  rw [if_pos q] at h
  have e : bit (b i &&& 255) 31 = bit (-1) 31 := by rw [h]
  rw [bit_and, bit255, bitm1, Bool.and_false] at e
  exact Bool.noConfusion e
theorem kn_0 {x : Int32} (h : kn x = 0) : x = -1 := by
  unfold kn at h
  split at h
  · assumption
  · split at h
    · omega
    · split at h
      · omega
      · split at h <;> omega
theorem kn_end {n : Nat} {b : Nat → Int32} {i : Nat} (h : kn (chr n b i) = 0) : n ≤ i := chr_m1 (kn_0 h)
theorem isW_lt {n : Nat} {b : Nat → Int32} {i s : Nat} (hi : i < 13) (h : isW n b i s) : s < n := by
  obtain ⟨w1, w2, w3⟩ := words_ok i hi
  have e := h.2 0 w1
  rw [Nat.add_zero] at e
  rw [← e] at w3
  refine Nat.lt_of_not_le (fun q => ?_)
  rw [kn_n q] at w3
  omega
theorem sN_0 : sN 0 = 7 := by decide
theorem sN_1 : sN 1 = 4 := by decide
theorem sN_2 : sN 2 = 5 := by decide
theorem sN_3 : sN 3 = 6 := by decide
def PG2 (w : Nat → Int64) (mu : MU) (th : Int32) (r1 : Int32 × RR × LL) (r2 : Int32 × (Nat → Int64) × (Nat → Int64) × MU × Int32 × MP) : Prop :=
  (RR_errorCode r1.2.1 = MP_fault r2.2.2.2.2.2 ∧ RR_errorPosition r1.2.1 = MP_faultAt r2.2.2.2.2.2 ∧ MP_length r2.2.2.2.2.2 = 0 ∧ r2.2.2.2.2.1 = th) ∧
  ((r1.1 = 0 ∧ r2.1 = -1 ∧ r2.2.1 = w ∧ r2.2.2.2.1 = mu) ∨
   (r1.1 = 1 ∧ ∃ a og rl lk, 1 ≤ AS_nC a ∧ PLC a og rl lk r1.2.2 ∧ PLW a og rl lk ∧ RMs a r2.2.1 ∧ RMd a (d00 a og rl lk) r2.2.1 ∧ r2.1 = i4 (AS_nC a) ∧ r2.2.2.2.1 = MU_set_pastCount mu 0))
theorem WF_d00 {a : AS} {og rl lk : Nat → Nat} (h : PLW a og rl lk) : WFd a (d00 a og rl lk) := by
  obtain ⟨hW, g1, g2, g3⟩ := h
  have s0 : ∀ m, sum8 (fun _ => (0 : Int64)) m = 0 := by
    intro m
    induction m with
    | zero => rfl
    | succ m ih =>
      show sum8 (fun _ => (0 : Int64)) m + 0 = 0
      rw [ih]
      rfl
  refine ⟨fun c hc => ⟨?_, g1 c hc⟩, g2, g3, Nat.zero_le 10, s0 _, s0 _⟩
  show 1000000 * AS_vol a c < (PMAX + 1) * AS_vol a c
  have hv := hW.2.1 c hc
  exact Nat.mul_lt_mul_of_pos_right (by unfold PMAX; omega) (by omega)
section SC
variable {T : TT} {R : RR} {mp : MP} {n : Nat} {b : Nat → Int32} {lY : LL} {fresh w : Nat → Int64} {mu : MU} {th : Int32}
theorem SEC (hT : TXc T n b) {s : Nat} (hs : s ≤ n) (ht : TKc R n b s) : ∃ v, f6_section T R = some v ∧ ((isW n b 0 s ∧ v = 0) ∨ (¬ isW n b 0 s ∧ isW n b 1 s ∧ v = 1) ∨ (¬ isW n b 0 s ∧ ¬ isW n b 1 s ∧ isW n b 2 s ∧ v = 2) ∨ (¬ isW n b 0 s ∧ ¬ isW n b 1 s ∧ ¬ isW n b 2 s ∧ isW n b 3 s ∧ v = 3) ∨ (¬ isW n b 0 s ∧ ¬ isW n b 1 s ∧ ¬ isW n b 2 s ∧ ¬ isW n b 3 s ∧ v = -1)) := by
  obtain ⟨r0, a0, y0, n0⟩ := C_isWord hT hs ht (i := 0) (by omega) (words_ok 0 (by omega))
  obtain ⟨r1, a1, y1, n1⟩ := C_isWord hT hs ht (i := 1) (by omega) (words_ok 1 (by omega))
  obtain ⟨r2, a2, y2, n2⟩ := C_isWord hT hs ht (i := 2) (by omega) (words_ok 2 (by omega))
  obtain ⟨r3, a3, y3, n3⟩ := C_isWord hT hs ht (i := 3) (by omega) (words_ok 3 (by omega))
  unfold f6_section
  rw [a0, sbind]
  by_cases h0 : isW n b 0 s
  · rw [y0 h0, if_neg one_ne]
    exact ⟨_, rfl, Or.inl ⟨h0, rfl⟩⟩
  · rw [n0 h0, if_pos rfl, a1, sbind]
    by_cases h1 : isW n b 1 s
    · rw [y1 h1, if_neg one_ne]
      exact ⟨_, rfl, Or.inr (Or.inl ⟨h0, h1, rfl⟩)⟩
    · rw [n1 h1, if_pos rfl, a2, sbind]
      by_cases h2 : isW n b 2 s
      · rw [y2 h2, if_neg one_ne]
        exact ⟨_, rfl, Or.inr (Or.inr (Or.inl ⟨h0, h1, h2, rfl⟩))⟩
      · rw [n2 h2, if_pos rfl, a3, sbind]
        by_cases h3 : isW n b 3 s
        · rw [y3 h3, if_neg one_ne]
          exact ⟨_, rfl, Or.inr (Or.inr (Or.inr (Or.inl ⟨h0, h1, h2, h3, rfl⟩)))⟩
        · rw [n3 h3, if_pos rfl]
          exact ⟨_, rfl, Or.inr (Or.inr (Or.inr (Or.inr ⟨h0, h1, h2, h3, rfl⟩)))⟩
theorem B179_e (hE : ¬ RR_errorCode R = 0) : f6_parse_B179 T R lY = some (0, R, lY) := by
  unfold f6_parse_B179 f6_parse_B204 f2_fail
  by_cases c : LL_chambers lY = 0
  · rw [if_pos c, if_neg hE, sbind, if_neg hE]
  · rw [if_neg c, if_neg hE]
theorem PE (hE : ¬ RR_errorCode R = 0) {x1 : Int32} {j fu : Nat} (hj : j < 900) (hf : 0 < fu) : f6_parse_B18 T fu R lY x1 (i4 j) = some (0, R, lY) := by
  obtain ⟨q, rfl⟩ : ∃ q, fu = q + 1 := ⟨fu - 1, by omega⟩
  rw [f6_parse_B18, if_neg (show ¬ ((900 : Int32) ≤ i4 j) from fun z => by have := (i4_le (a := 900) (by omega) (by omega)).mp z; omega), B179_e hE, if_neg hE]
  split <;> rfl
theorem M130_e (hE : ERP R mp n b) : f10_parseSystem_B130 w fresh mu th mp = some (-1, w, fresh, mu, th, mp) := by
  unfold f10_parseSystem_B130
  rw [if_neg (err_ne hE).2.2]
theorem M105_e (hE : ERP R mp n b) {fu : Nat} (hf : 0 < fu) : f10_parseSystem_B105 fu w fresh mu th mp = some (-1, w, fresh, mu, th, mp) := by
  obtain ⟨q, rfl⟩ : ∃ q, fu = q + 1 := ⟨fu - 1, by omega⟩
  rw [f10_parseSystem_B105, if_neg (err_ne hE).2.1, M130_e hE]
theorem M81_e (hE : ERP R mp n b) {fu : Nat} (hf : 0 < fu) : f10_parseSystem_B81 fu w fresh mu th mp = some (-1, w, fresh, mu, th, mp) := by
  have := FU_eq
  obtain ⟨q, rfl⟩ : ∃ q, fu = q + 1 := ⟨fu - 1, by omega⟩
  rw [f10_parseSystem_B81, if_neg (err_ne hE).2.1, M105_e hE (by omega)]
theorem M57_e (hE : ERP R mp n b) {fu : Nat} (hf : 0 < fu) : f10_parseSystem_B57 fu w fresh mu th mp = some (-1, w, fresh, mu, th, mp) := by
  have := FU_eq
  obtain ⟨q, rfl⟩ : ∃ q, fu = q + 1 := ⟨fu - 1, by omega⟩
  rw [f10_parseSystem_B57, if_neg (err_ne hE).2.1, M81_e hE (by omega)]
theorem PG_e (hE : ERP R mp n b) (hl : MP_length mp = 0) : PG2 w mu th (0, R, lY) (-1, w, fresh, mu, th, mp) := by
  obtain ⟨s, c, h1, h2, h3, h4, h5, h6, h7, h8⟩ := hE
  exact ⟨⟨h6.trans h7.symm, h8.1, hl, rfl⟩, Or.inl ⟨rfl, rfl, rfl, rfl⟩⟩
theorem B87_0 {rec : RR → LL → Int32 → Int32 → Option (Int32 × RR × LL)} {x1 x2 : Int32} : f6_parse_B87 T rec R lY x1 x2 0 = if LL_chambers lY = 8 then (f2_fail R 4 (RR_start R)).bind fun u => rec u lY x1 (x2 + 1) else (f2_advance T R).bind fun u => (f6_readChamber T u lY).bind fun v => rec v.1 v.2 0 (x2 + 1) := by
  unfold f6_parse_B87 f6_isFull
  simp only [if_true, sbind]
  by_cases c : LL_chambers lY = 8
  · rw [if_pos c, if_neg one_ne, if_pos c]
  · rw [if_neg c, if_pos rfl, if_neg c]
theorem B87_1 {rec : RR → LL → Int32 → Int32 → Option (Int32 × RR × LL)} {x1 x2 : Int32} : f6_parse_B87 T rec R lY x1 x2 1 = if LL_pumps lY = 6 then (f2_fail R 4 (RR_start R)).bind fun u => rec u lY x1 (x2 + 1) else (f2_advance T R).bind fun u => (f6_readPump T u lY).bind fun v => rec v.1 v.2 1 (x2 + 1) := by
  have h0 : ((1 : Int32) = 0) = False := eq_false (by decide)
  unfold f6_parse_B87 f6_isFull
  simp only [h0, if_true, if_false, sbind]
  by_cases c : LL_pumps lY = 6
  · rw [if_pos c, if_neg one_ne, if_pos c]
  · rw [if_neg c, if_pos rfl, if_neg c]
theorem B87_2 {rec : RR → LL → Int32 → Int32 → Option (Int32 × RR × LL)} {x1 x2 : Int32} : f6_parse_B87 T rec R lY x1 x2 2 = if LL_valves lY = 10 then (f2_fail R 4 (RR_start R)).bind fun u => rec u lY x1 (x2 + 1) else (f2_advance T R).bind fun u => (f6_readValve T u lY).bind fun v => rec v.1 v.2 2 (x2 + 1) := by
  have h0 : ((2 : Int32) = 0) = False := eq_false (by decide)
  have h1 : ((2 : Int32) = 1) = False := eq_false (by decide)
  unfold f6_parse_B87 f6_isFull
  simp only [h0, h1, if_true, if_false, sbind]
  by_cases c : LL_valves lY = 10
  · rw [if_pos c, if_neg one_ne, if_pos c]
  · rw [if_neg c, if_pos rfl, if_neg c]
theorem B87_3 {rec : RR → LL → Int32 → Int32 → Option (Int32 × RR × LL)} {x1 x2 : Int32} : f6_parse_B87 T rec R lY x1 x2 3 = if LL_flanges lY = 24 then (f2_fail R 4 (RR_start R)).bind fun u => rec u lY x1 (x2 + 1) else (f2_advance T R).bind fun u => (f6_readFlange T u lY).bind fun v => rec v.1 v.2 3 (x2 + 1) := by
  have h0 : ((3 : Int32) = 0) = False := eq_false (by decide)
  have h1 : ((3 : Int32) = 1) = False := eq_false (by decide)
  have h2 : ((3 : Int32) = 2) = False := eq_false (by decide)
  unfold f6_parse_B87 f6_isFull
  simp only [h0, h1, h2, if_false, sbind]
  by_cases c : LL_flanges lY = 24
  · rw [if_pos c, if_neg one_ne, if_pos c]
  · rw [if_neg c, if_pos rfl, if_neg c]
theorem not_full4 {N m : Nat} {x y : Int32} (h : N < m) (hm : m < 1000) (hx : x = i4 m) (hy : y = i4 N) : ¬ y = x := by
  rw [hy, hx, i4_eq (by omega) (by omega)]
  omega
theorem PEND {a : AS} {og rl lk : Nat → Nat} {s : Nat} (h : LPz a og rl lk R lY fresh mp n b s) (hC : 1 ≤ AS_nC a) : ∃ r1 r2, f6_parse_B179 T R lY = some r1 ∧ f10_parseSystem_B130 w fresh mu th mp = some r2 ∧ PG2 w mu th r1 r2 := by
  obtain ⟨⟨g1, g2, g3, g4, g5, g6, g7⟩, hLC, hLW, hLM, hl⟩ := h
  have nn := hLW.1.1
  have hA : RMs a (cp256 fresh w) := RMs_256 hLW.1 hLM.1 (fun k hk => cp256_lt fresh w hk)
  have hB : RMd a (d00 a og rl lk) (cp256 fresh w) := RMd_256 hLW.1 (WF_d00 hLW) hLM.2.1 (fun k hk => cp256_lt fresh w hk)
  refine ⟨(1, R, lY), (i4 (AS_nC a), cp256 fresh w, fresh, MU_set_pastCount mu 0, th, mp), ?_, ?_, ⟨g5.trans g6.symm, g7, hl, rfl⟩, Or.inr ⟨rfl, a, og, rl, lk, hC, hLC, hLW, hA, hB, rfl, rfl⟩⟩
  · unfold f6_parse_B179 f6_parse_B204
    rw [hLC.1.1.1, if_neg (show ¬ i4 (AS_nC a) = 0 from fun z => by have := (i4_eq (b := 0) (by omega) (by omega)).mp z; omega), if_pos g5]
  · unfold f10_parseSystem_B130
    rw [if_pos (show MP_fault mp ≤ 0 by rw [g6]; exact Int32.le_refl _), M_cp_fresh_w, sbind, M_nC hA, sbind]
theorem le900 {j : Nat} (hj : j < 900) : ¬ ((900 : Int32) ≤ i4 j) := fun z => by have := (i4_le (a := 900) (by omega) (by omega)).mp z; omega
theorem L_F (hT : TXc T n b) : ∀ (r : Nat) (a : AS) (og rl lk : Nat → Nat) (R : RR) (lY : LL) (fresh : Nat → Int64) (mp : MP) (s fc fm k j : Nat), LPz a og rl lk R lY fresh mp n b s → AS_nF a + r = 24 → r + 1 < fm → 100 ≤ fc + j → j ≤ AS_nC a + AS_nP a + AS_nV a + AS_nF a → 1 ≤ AS_nC a → k ≤ 3 → (∀ i, i < 3 → isW n b i s → i < k) →
    ∃ r1 r2, f6_parse_B18 T fc R lY (i4 k) (i4 j) = some r1 ∧ f10_parseSystem_B105 fm w fresh mu th mp = some r2 ∧ PG2 w mu th r1 r2 := by
  intro r
  induction r using Nat.strongRecOn with
  | _ r ih =>
  intro a og rl lk R lY fresh mp s fc fm k j h hr hfm hfc hj hC hk hi
  have h' := h
  obtain ⟨hP, hLC, hLW, hLM, hl⟩ := h'
  have hP' := hP
  obtain ⟨g1, g2, g3, g4, g5, g6, g7⟩ := hP'
  have nn := hLW.1.1
  have hn := hT.1
  obtain ⟨qc, rfl⟩ : ∃ q, fc = q + 1 := ⟨fc - 1, by omega⟩
  obtain ⟨qm, rfl⟩ : ∃ q, fm = q + 1 := ⟨fm - 1, by omega⟩
  rw [f6_parse_B18, f10_parseSystem_B105, if_neg (le900 (by omega)), if_pos g6, g3.2.1, g4.1, g2.2.2.1]
  by_cases hs : n ≤ s
  · rw [if_pos (show i4 (kn (chr n b s)) = 0 by rw [kn_n hs]; rfl), if_pos ((i4_le (by omega) (by omega)).mpr hs)]
    exact PEND h hC
  · have hkl := kn_le (chr n b s)
    rw [if_neg (show ¬ i4 (kn (chr n b s)) = 0 from fun z => hs (kn_end ((i4_eq (b := 0) (by omega) (by omega)).mp z))), if_neg (show ¬ i4 n ≤ i4 s from fun z => hs ((i4_le (by omega) (by omega)).mp z)), if_pos g5]
    obtain ⟨v, e, hv⟩ := SEC hT g1 g2
    rw [e, sbind]
    by_cases hw : isW n b 3 s
    · have v3 : v = 3 := by
        rcases hv with ⟨c, -⟩ | ⟨-, c, -⟩ | ⟨-, -, c, -⟩ | ⟨-, -, -, -, c⟩ | ⟨-, -, -, c, -⟩
        · have h1 := c.1; have h2 := hw.1; rw [sN_0] at h1; rw [sN_3] at h2; omega
        · have h1 := c.1; have h2 := hw.1; rw [sN_1] at h1; rw [sN_3] at h2; omega
        · have h1 := c.1; have h2 := hw.1; rw [sN_2] at h1; rw [sN_3] at h2; omega
        · exact c
        · exact absurd hw c
      subst v3
      rw [if_neg (show ¬ (3 : Int32) < i4 k from fun z => by have := (i4_lt (a := 3) (by omega) (by omega)).mp z; omega), if_neg (show ¬ (3 : Int32) ≤ 0 by decide), hLC.1.1.1, if_neg (show ¬ i4 (AS_nC a) = 0 from fun z => by have := (i4_eq (b := 0) (by omega) (by omega)).mp z; omega), B87_3]
      by_cases hN : AS_nF a < 24
      · obtain ⟨R1, R', lY', fresh', mp', a1, a2, a3, a4⟩ := READ_F hT h hw hN
        rw [if_neg (show ¬ LL_flanges lY = 24 from not_full4 hN (by omega) rfl hLC.1.1.2.2.2), a1, sbind, a2, sbind, a3, sbind, ad1]
        dsimp only
        rcases a4 with ⟨hE, hl'⟩ | ⟨a', og', rl', lk', s', h2, c1, c2, c3, c4⟩
        · rw [PE (err_ne hE).1 (by omega) (by omega), M105_e hE (by omega)]
          exact ⟨_, _, rfl, rfl, PG_e hE hl'⟩
        · exact ih (r - 1) (by omega) a' og' rl' lk' R' lY' fresh' mp' s' qc qm 3 (j + 1) h2 (by omega) (by omega) (by omega) (by omega) (by omega) (by omega) (fun i hi2 _ => by omega)
      · have hN' : AS_nF a = 24 := by omega
        obtain ⟨R2, mp2, a1, a2, a3, a4⟩ := KE_F (c := 4) hP (fresh := fresh) (Or.inr ⟨rfl, hw, by rw [ix_3, hLM.1.1.2.2.2, hN']; rfl⟩)
        rw [if_pos (show LL_flanges lY = 24 by rw [hLC.1.1.2.2.2, hN']; rfl), show f2_fail R 4 (RR_start R) = some R2 from a1, sbind, a2, sbind, ad1]
        dsimp only
        rw [PE (err_ne a3).1 (by omega) (by omega), M105_e a3 (by omega)]
        exact ⟨_, _, rfl, rfl, PG_e a3 (a4.trans hl)⟩
    · have hlt : v < i4 k := by
        rcases hv with ⟨c, rfl⟩ | ⟨-, c, rfl⟩ | ⟨-, -, c, rfl⟩ | ⟨-, -, -, c, -⟩ | ⟨-, -, -, -, rfl⟩
        · exact (i4_lt (a := 0) (by omega) (by omega)).mpr (hi 0 (by omega) c)
        · exact (i4_lt (a := 1) (by omega) (by omega)).mpr (hi 1 (by omega) c)
        · exact (i4_lt (a := 2) (by omega) (by omega)).mpr (hi 2 (by omega) c)
        · exact absurd c hw
        · rw [Int32.lt_iff_toInt_lt, i4_toInt (by omega), show (-1 : Int32).toInt = -1 by decide]; omega
      obtain ⟨R2, mp2, a1, a2, a3, a4⟩ := KE_F (c := 1) hP (fresh := fresh) (Or.inl ⟨rfl, hw⟩)
      rw [if_pos hlt]
      unfold f6_parse_B69
      rw [show f2_fail R 1 (RR_start R) = some R2 from a1, sbind, a2, sbind, ad1]
      dsimp only
      rw [PE (err_ne a3).1 (by omega) (by omega), M105_e a3 (by omega)]
      exact ⟨_, _, rfl, rfl, PG_e a3 (a4.trans hl)⟩
theorem L_V (hT : TXc T n b) : ∀ (r : Nat) (a : AS) (og rl lk : Nat → Nat) (R : RR) (lY : LL) (fresh : Nat → Int64) (mp : MP) (s fc fm k j : Nat), LPz a og rl lk R lY fresh mp n b s → AS_nV a + r = 10 → r + 1 < fm → 100 ≤ fc + j → j ≤ AS_nC a + AS_nP a + AS_nV a + AS_nF a → 1 ≤ AS_nC a → k ≤ 2 → (∀ i, i < 2 → isW n b i s → i < k) →
    ∃ r1 r2, f6_parse_B18 T fc R lY (i4 k) (i4 j) = some r1 ∧ f10_parseSystem_B81 fm w fresh mu th mp = some r2 ∧ PG2 w mu th r1 r2 := by
  intro r
  induction r using Nat.strongRecOn with
  | _ r ih =>
  intro a og rl lk R lY fresh mp s fc fm k j h hr hfm hfc hj hC hk hi
  have h' := h
  obtain ⟨hP, hLC, hLW, hLM, hl⟩ := h'
  have hP' := hP
  obtain ⟨g1, g2, g3, g4, g5, g6, g7⟩ := hP'
  have nn := hLW.1.1
  have hn := hT.1
  have := FU_eq
  obtain ⟨qm, rfl⟩ : ∃ q, fm = q + 1 := ⟨fm - 1, by omega⟩
  obtain ⟨x, e1, p1, p2⟩ := M_isWord g3 g1 g4 (i := 22) (by omega) (len_ok 22 (by omega))
  rw [isW_eq sB_22] at p1 p2
  rw [f10_parseSystem_B81, if_pos g6, e1, sbind]
  by_cases hw : isW n b 2 s
  · rw [p1 hw, if_neg one_ne]
    have hs := isW_lt (by omega) hw
    have hkl := kn_le (chr n b s)
    obtain ⟨qc, rfl⟩ : ∃ q, fc = q + 1 := ⟨fc - 1, by omega⟩
    obtain ⟨v, e, hv⟩ := SEC hT g1 g2
    have v2 : v = 2 := by
      rcases hv with ⟨c, -⟩ | ⟨-, c, -⟩ | ⟨-, -, -, c⟩ | ⟨-, -, c, -, -⟩ | ⟨-, -, c, -, -⟩
      · have h1 := c.1; have h2 := hw.1; rw [sN_0] at h1; rw [sN_2] at h2; omega
      · have h1 := c.1; have h2 := hw.1; rw [sN_1] at h1; rw [sN_2] at h2; omega
      · exact c
      · exact absurd hw c
      · exact absurd hw c
    subst v2
    rw [f6_parse_B18, if_neg (le900 (by omega)), g2.2.2.1, if_neg (show ¬ i4 (kn (chr n b s)) = 0 from fun z => by have := kn_end ((i4_eq (b := 0) (by omega) (by omega)).mp z); omega), if_pos g5, e, sbind, if_neg (show ¬ (2 : Int32) < i4 k from fun z => by have := (i4_lt (a := 2) (by omega) (by omega)).mp z; omega), if_neg (show ¬ (2 : Int32) ≤ 0 by decide), hLC.1.1.1, if_neg (show ¬ i4 (AS_nC a) = 0 from fun z => by have := (i4_eq (b := 0) (by omega) (by omega)).mp z; omega), B87_2]
    by_cases hN : AS_nV a < 10
    · obtain ⟨R1, R', lY', fresh', mp', a1, a2, a3, a4⟩ := READ_V hT h hw hN
      rw [if_neg (show ¬ LL_valves lY = 10 from not_full4 hN (by omega) rfl hLC.1.1.2.2.1), a1, sbind, a2, sbind, a3, sbind, ad1]
      dsimp only
      rcases a4 with ⟨hE, hl'⟩ | ⟨a', og', rl', lk', s', h2, c1, c2, c3, c4⟩
      · rw [PE (err_ne hE).1 (by omega) (by omega), M81_e hE (by omega)]
        exact ⟨_, _, rfl, rfl, PG_e hE hl'⟩
      · exact ih (r - 1) (by omega) a' og' rl' lk' R' lY' fresh' mp' s' qc qm 2 (j + 1) h2 (by omega) (by omega) (by omega) (by omega) (by omega) (by omega) (fun i hi2 _ => by omega)
    · have hN' : AS_nV a = 10 := by omega
      obtain ⟨R2, mp2, a1, a2, a3, a4⟩ := KE_V (c := 4) hP (fresh := fresh) (Or.inr ⟨rfl, hw, by rw [ix_2, hLM.1.1.2.2.1, hN']; rfl⟩)
      rw [if_pos (show LL_valves lY = 10 by rw [hLC.1.1.2.2.1, hN']; rfl), show f2_fail R 4 (RR_start R) = some R2 from a1, sbind, a2, sbind, ad1]
      dsimp only
      rw [PE (err_ne a3).1 (by omega) (by omega), M81_e a3 (by omega)]
      exact ⟨_, _, rfl, rfl, PG_e a3 (a4.trans hl)⟩
  · rw [p2 hw, if_pos rfl]
    exact L_F hT (24 - AS_nF a) a og rl lk R lY fresh mp s fc FU k j h (by omega) (by omega) hfc hj hC (by omega) (fun i hi2 hw2 => by
      by_cases hq : i = 2
      · rw [hq] at hw2; exact absurd hw2 hw
      · exact hi i (by omega) hw2)
theorem L_P (hT : TXc T n b) : ∀ (r : Nat) (a : AS) (og rl lk : Nat → Nat) (R : RR) (lY : LL) (fresh : Nat → Int64) (mp : MP) (s fc fm k j : Nat), LPz a og rl lk R lY fresh mp n b s → AS_nP a + r = 6 → r + 1 < fm → 100 ≤ fc + j → j ≤ AS_nC a + AS_nP a + AS_nV a + AS_nF a → 1 ≤ AS_nC a → k ≤ 1 → (isW n b 0 s → 0 < k) →
    ∃ r1 r2, f6_parse_B18 T fc R lY (i4 k) (i4 j) = some r1 ∧ f10_parseSystem_B57 fm w fresh mu th mp = some r2 ∧ PG2 w mu th r1 r2 := by
  intro r
  induction r using Nat.strongRecOn with
  | _ r ih =>
  intro a og rl lk R lY fresh mp s fc fm k j h hr hfm hfc hj hC hk hi
  have h' := h
  obtain ⟨hP, hLC, hLW, hLM, hl⟩ := h'
  have hP' := hP
  obtain ⟨g1, g2, g3, g4, g5, g6, g7⟩ := hP'
  have nn := hLW.1.1
  have hn := hT.1
  have := FU_eq
  obtain ⟨qm, rfl⟩ : ∃ q, fm = q + 1 := ⟨fm - 1, by omega⟩
  obtain ⟨x, e1, p1, p2⟩ := M_isWord g3 g1 g4 (i := 20) (by omega) (len_ok 20 (by omega))
  rw [isW_eq sB_20] at p1 p2
  rw [f10_parseSystem_B57, if_pos g6, e1, sbind]
  by_cases hw : isW n b 1 s
  · rw [p1 hw, if_neg one_ne]
    have hs := isW_lt (by omega) hw
    have hkl := kn_le (chr n b s)
    obtain ⟨qc, rfl⟩ : ∃ q, fc = q + 1 := ⟨fc - 1, by omega⟩
    obtain ⟨v, e, hv⟩ := SEC hT g1 g2
    have v1 : v = 1 := by
      rcases hv with ⟨c, -⟩ | ⟨-, -, c⟩ | ⟨-, c, -, -⟩ | ⟨-, c, -, -, -⟩ | ⟨-, c, -, -, -⟩
      · have h1 := c.1; have h2 := hw.1; rw [sN_0] at h1; rw [sN_1] at h2; omega
      · exact c
      · exact absurd hw c
      · exact absurd hw c
      · exact absurd hw c
    subst v1
    rw [f6_parse_B18, if_neg (le900 (by omega)), g2.2.2.1, if_neg (show ¬ i4 (kn (chr n b s)) = 0 from fun z => by have := kn_end ((i4_eq (b := 0) (by omega) (by omega)).mp z); omega), if_pos g5, e, sbind, if_neg (show ¬ (1 : Int32) < i4 k from fun z => by have := (i4_lt (a := 1) (by omega) (by omega)).mp z; omega), if_neg (show ¬ (1 : Int32) ≤ 0 by decide), hLC.1.1.1, if_neg (show ¬ i4 (AS_nC a) = 0 from fun z => by have := (i4_eq (b := 0) (by omega) (by omega)).mp z; omega), B87_1]
    by_cases hN : AS_nP a < 6
    · obtain ⟨R1, R', lY', fresh', mp', a1, a2, a3, a4⟩ := READ_P hT h hw hN
      rw [if_neg (show ¬ LL_pumps lY = 6 from not_full4 hN (by omega) rfl hLC.1.1.2.1), a1, sbind, a2, sbind, a3, sbind, ad1]
      dsimp only
      rcases a4 with ⟨hE, hl'⟩ | ⟨a', og', rl', lk', s', h2, c1, c2, c3, c4⟩
      · rw [PE (err_ne hE).1 (by omega) (by omega), M57_e hE (by omega)]
        exact ⟨_, _, rfl, rfl, PG_e hE hl'⟩
      · exact ih (r - 1) (by omega) a' og' rl' lk' R' lY' fresh' mp' s' qc qm 1 (j + 1) h2 (by omega) (by omega) (by omega) (by omega) (by omega) (by omega) (fun _ => by omega)
    · have hN' : AS_nP a = 6 := by omega
      obtain ⟨R2, mp2, a1, a2, a3, a4⟩ := KE_P (c := 4) hP (fresh := fresh) (Or.inr ⟨rfl, hw, by rw [ix_1, hLM.1.1.2.1, hN']; rfl⟩)
      rw [if_pos (show LL_pumps lY = 6 by rw [hLC.1.1.2.1, hN']; rfl), show f2_fail R 4 (RR_start R) = some R2 from a1, sbind, a2, sbind, ad1]
      dsimp only
      rw [PE (err_ne a3).1 (by omega) (by omega), M57_e a3 (by omega)]
      exact ⟨_, _, rfl, rfl, PG_e a3 (a4.trans hl)⟩
  · rw [p2 hw, if_pos rfl]
    exact L_V hT (10 - AS_nV a) a og rl lk R lY fresh mp s fc FU k j h (by omega) (by omega) hfc hj hC (by omega) (fun i hi2 hw2 => by
      by_cases hq : i = 1
      · rw [hq] at hw2; exact absurd hw2 hw
      · have h0 : i = 0 := by omega
        rw [h0] at hw2
        have := hi hw2
        omega)
theorem L_C (hT : TXc T n b) : ∀ (r : Nat) (a : AS) (og rl lk : Nat → Nat) (R : RR) (lY : LL) (fresh : Nat → Int64) (mp : MP) (s fc fm j : Nat), LPz a og rl lk R lY fresh mp n b s → AS_nC a + r = 8 → r + 1 < fm → 100 ≤ fc + j → j ≤ AS_nC a + AS_nP a + AS_nV a + AS_nF a → (isW n b 0 s ∨ AS_nC a = 0) →
    ∃ r1 r2, f6_parse_B18 T fc R lY (i4 0) (i4 j) = some r1 ∧ f10_parseSystem_B36 fm w fresh mu th mp = some r2 ∧ PG2 w mu th r1 r2 := by
  intro r
  induction r using Nat.strongRecOn with
  | _ r ih =>
  intro a og rl lk R lY fresh mp s fc fm j h hr hfm hfc hj hi
  have h' := h
  obtain ⟨hP, hLC, hLW, hLM, hl⟩ := h'
  have hP' := hP
  obtain ⟨g1, g2, g3, g4, g5, g6, g7⟩ := hP'
  have nn := hLW.1.1
  have hn := hT.1
  have := FU_eq
  have hkl := kn_le (chr n b s)
  obtain ⟨qm, rfl⟩ : ∃ q, fm = q + 1 := ⟨fm - 1, by omega⟩
  obtain ⟨qc, rfl⟩ : ∃ q, fc = q + 1 := ⟨fc - 1, by omega⟩
  rw [f10_parseSystem_B36]
  by_cases hw : isW n b 0 s
  · have hs := isW_lt (by omega) hw
    obtain ⟨v, e, hv⟩ := SEC hT g1 g2
    have v0 : v = 0 := by
      rcases hv with ⟨-, c⟩ | ⟨c, -, -⟩ | ⟨c, -, -, -⟩ | ⟨c, -, -, -, -⟩ | ⟨c, -, -, -, -⟩
      · exact c
      · exact absurd hw c
      · exact absurd hw c
      · exact absurd hw c
      · exact absurd hw c
    subst v0
    rw [f6_parse_B18, if_neg (le900 (by omega)), g2.2.2.1, if_neg (show ¬ i4 (kn (chr n b s)) = 0 from fun z => by have := kn_end ((i4_eq (b := 0) (by omega) (by omega)).mp z); omega), if_pos g5, e, sbind, if_neg (show ¬ (0 : Int32) < i4 0 by decide), if_pos (show (0 : Int32) ≤ 0 by decide), B87_0]
    by_cases hN : AS_nC a < 8
    · obtain ⟨R1, R', lY', fresh', mp', a1, a2, a3, a4⟩ := READ_C hT h hw hN
      rw [if_neg (show ¬ LL_chambers lY = 8 from not_full4 hN (by omega) rfl hLC.1.1.1), a1, sbind, a2, sbind, a3, sbind, ad1]
      dsimp only
      rcases a4 with ⟨hE, hl'⟩ | ⟨a', og', rl', lk', s', h2, c1, c2, c3, c4⟩
      · rw [PE (err_ne hE).1 (by omega) (by omega), if_neg (err_ne hE).2.1, M57_e hE (by omega)]
        exact ⟨_, _, rfl, rfl, PG_e hE hl'⟩
      · have h2' := h2
        obtain ⟨⟨k1, k2, k3, k4, k5, k6, k7⟩, -⟩ := h2'
        obtain ⟨x, e1, p1, p2⟩ := M_isWord k3 k1 k4 (i := 18) (by omega) (len_ok 18 (by omega))
        rw [isW_eq sB_18] at p1 p2
        rw [if_pos k6, e1, sbind]
        by_cases hw2 : isW n b 0 s'
        · rw [p1 hw2, if_neg one_ne]
          exact ih (r - 1) (by omega) a' og' rl' lk' R' lY' fresh' mp' s' qc qm (j + 1) h2 (by omega) (by omega) (by omega) (by omega) (Or.inl hw2)
        · rw [p2 hw2, if_pos rfl]
          exact L_P hT (6 - AS_nP a') a' og' rl' lk' R' lY' fresh' mp' s' qc FU 0 (j + 1) h2 (by have := h2.2.2.1.1.1; omega) (by omega) (by omega) (by omega) (by omega) (by omega) (fun z => absurd z hw2)
    · have hN' : AS_nC a = 8 := by omega
      obtain ⟨R2, mp2, a1, a2, a3, a4⟩ := KE_C (c := 4) hP (fresh := fresh) (Or.inr ⟨rfl, hw, by rw [ix_0, hLM.1.1.1, hN']; rfl⟩)
      rw [if_pos (show LL_chambers lY = 8 by rw [hLC.1.1.1, hN']; rfl), show f2_fail R 4 (RR_start R) = some R2 from a1, sbind, a2, sbind, ad1]
      dsimp only
      rw [PE (err_ne a3).1 (by omega) (by omega), if_neg (err_ne a3).2.1, M57_e a3 (by omega)]
      exact ⟨_, _, rfl, rfl, PG_e a3 (a4.trans hl)⟩
  · have hC0 : AS_nC a = 0 := by
      rcases hi with c | c
      · exact absurd c hw
      · exact c
    have eC : LL_chambers lY = 0 := by rw [hLC.1.1.1, hC0]; rfl
    obtain ⟨R2, mp2, a1, a2, a3, a4⟩ := KE_C (c := 1) hP (fresh := fresh) (Or.inl ⟨rfl, hw⟩)
    have a1' : f2_fail R 1 (RR_start R) = some R2 := a1
    rw [a2, sbind]
    dsimp only
    rw [if_neg (err_ne a3).2.1, M57_e a3 (by omega)]
    have fin : f6_parse_B18 T (qc + 1) R lY (i4 0) (i4 j) = some (0, R2, lY) := by
      rw [f6_parse_B18, if_neg (le900 (by omega)), g2.2.2.1]
      by_cases hs : n ≤ s
      · rw [if_pos (show i4 (kn (chr n b s)) = 0 by rw [kn_n hs]; rfl)]
        unfold f6_parse_B179 f6_parse_B204
        rw [if_pos eC, a1', sbind, if_neg (err_ne a3).1]
      · obtain ⟨v, e, hv⟩ := SEC hT g1 g2
        rw [if_neg (show ¬ i4 (kn (chr n b s)) = 0 from fun z => hs (kn_end ((i4_eq (b := 0) (by omega) (by omega)).mp z))), if_pos g5, e, sbind]
        have q69 : f6_parse_B69 T (f6_parse_B18 T qc) R lY (i4 0) (i4 j) = some (0, R2, lY) := by
          unfold f6_parse_B69
          rw [a1', sbind, ad1, PE (err_ne a3).1 (by omega) (by omega)]
        rcases hv with ⟨c, -⟩ | ⟨-, c, rfl⟩ | ⟨-, -, c, rfl⟩ | ⟨-, -, -, c, rfl⟩ | ⟨-, -, -, -, rfl⟩
        · exact absurd c hw
        · rw [if_neg (show ¬ (1 : Int32) < i4 0 by decide), if_neg (show ¬ (1 : Int32) ≤ 0 by decide), if_pos eC, q69]
        · rw [if_neg (show ¬ (2 : Int32) < i4 0 by decide), if_neg (show ¬ (2 : Int32) ≤ 0 by decide), if_pos eC, q69]
        · rw [if_neg (show ¬ (3 : Int32) < i4 0 by decide), if_neg (show ¬ (3 : Int32) ≤ 0 by decide), if_pos eC, q69]
        · rw [if_pos (show (-1 : Int32) < i4 0 by decide), q69]
    exact ⟨_, _, fin, rfl, PG_e a3 (a4.trans hl)⟩
end SC
