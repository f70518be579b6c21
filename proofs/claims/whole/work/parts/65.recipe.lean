/-! a recipe, on both sides -/
theorem sB_24 : sB 24 = sB 5 := by decide
theorem sB_25 : sB 25 = sB 6 := by decide
theorem sB_26 : sB 26 = sB 7 := by decide
theorem sB_27 : sB 27 = sB 8 := by decide
theorem sB_28 : sB 28 = sB 9 := by decide
theorem sB_29 : sB 29 = sB 11 := by decide
theorem sB_30 : sB 30 = sB 10 := by decide
theorem sB_31 : sB 31 = sB 12 := by decide
theorem sN_10 : sN 10 = 5 := by decide
theorem sN_11 : sN 11 = 4 := by decide
/-- which number the two sides give a step -/
def STN (v v' : Int32) : Prop := (v = 0 ∧ v' = 0) ∨ (v = 1 ∧ v' = 1) ∨ (v = 2 ∧ v' = 2) ∨ (v = 3 ∧ v' = 3) ∨ (v = 4 ∧ v' = 4) ∨ (v = 5 ∧ v' = 6) ∨ (v = 6 ∧ v' = 5) ∨ (v = 7 ∧ v' = 7)
section RC
variable {T : TT} {n : Nat} {b : Nat → Int32} {lY : LL} {a : AS} {d : AD} {aside : Nat → Int64} {mu mu' : MU} {th x1 x2 : Int32}
theorem STEP {R : RR} {mp : MP} (hT : TXc T n b) {s : Nat} (h : OKQ R mp n b s) : ∃ v v', f3_step T R = some v ∧ f10_operation mp = some v' ∧ ((v = -1 ∧ v' = -1) ∨ (s < tE n b s ∧ STN v v')) := by
  obtain ⟨g1, g2, g3, g4, g5, g6⟩ := h
  obtain ⟨r5, a5, y5, n5⟩ := C_isWord hT g1 g2 (i := 5) (by omega) (words_ok 5 (by omega))
  obtain ⟨r6, a6, y6, n6⟩ := C_isWord hT g1 g2 (i := 6) (by omega) (words_ok 6 (by omega))
  obtain ⟨r7, a7, y7, n7⟩ := C_isWord hT g1 g2 (i := 7) (by omega) (words_ok 7 (by omega))
  obtain ⟨r8, a8, y8, n8⟩ := C_isWord hT g1 g2 (i := 8) (by omega) (words_ok 8 (by omega))
  obtain ⟨r9, a9, y9, n9⟩ := C_isWord hT g1 g2 (i := 9) (by omega) (words_ok 9 (by omega))
  obtain ⟨r10, a10, y10, n10⟩ := C_isWord hT g1 g2 (i := 10) (by omega) (words_ok 10 (by omega))
  obtain ⟨r11, a11, y11, n11⟩ := C_isWord hT g1 g2 (i := 11) (by omega) (words_ok 11 (by omega))
  obtain ⟨r12, a12, y12, n12⟩ := C_isWord hT g1 g2 (i := 12) (by omega) (words_ok 12 (by omega))
  obtain ⟨s5, b5, z5, o5⟩ := M_isWord g3 g1 g4 (i := 24) (by omega) (len_ok 24 (by omega))
  obtain ⟨s6, b6, z6, o6⟩ := M_isWord g3 g1 g4 (i := 25) (by omega) (len_ok 25 (by omega))
  obtain ⟨s7, b7, z7, o7⟩ := M_isWord g3 g1 g4 (i := 26) (by omega) (len_ok 26 (by omega))
  obtain ⟨s8, b8', z8', o8⟩ := M_isWord g3 g1 g4 (i := 27) (by omega) (len_ok 27 (by omega))
  obtain ⟨s9, b9, z9, o9⟩ := M_isWord g3 g1 g4 (i := 28) (by omega) (len_ok 28 (by omega))
  obtain ⟨s11, b11, z11, o11⟩ := M_isWord g3 g1 g4 (i := 29) (by omega) (len_ok 29 (by omega))
  obtain ⟨s10, b10, z10, o10⟩ := M_isWord g3 g1 g4 (i := 30) (by omega) (len_ok 30 (by omega))
  obtain ⟨s12, b12, z12, o12⟩ := M_isWord g3 g1 g4 (i := 31) (by omega) (len_ok 31 (by omega))
  rw [isW_eq sB_24] at z5 o5
  rw [isW_eq sB_25] at z6 o6
  rw [isW_eq sB_26] at z7 o7
  rw [isW_eq sB_27] at z8' o8
  rw [isW_eq sB_28] at z9 o9
  rw [isW_eq sB_29] at z11 o11
  rw [isW_eq sB_30] at z10 o10
  rw [isW_eq sB_31] at z12 o12
  have gr : ∀ i, i < 13 → isW n b i s → s < tE n b s := fun i hi hw => by
    have h1 := (words_ok i hi).1
    have h2 := hw.1
    omega
  unfold f3_step f10_operation
  rw [a5, sbind, b5, sbind]
  by_cases h5 : isW n b 5 s
  · rw [y5 h5, z5 h5, if_neg one_ne, if_neg one_ne]
    exact ⟨_, _, rfl, rfl, Or.inr ⟨gr 5 (by omega) h5, Or.inl ⟨rfl, rfl⟩⟩⟩
  rw [n5 h5, o5 h5, if_pos rfl, if_pos rfl, a6, sbind, b6, sbind]
  by_cases h6 : isW n b 6 s
  · rw [y6 h6, z6 h6, if_neg one_ne, if_neg one_ne]
    exact ⟨_, _, rfl, rfl, Or.inr ⟨gr 6 (by omega) h6, Or.inr (Or.inl ⟨rfl, rfl⟩)⟩⟩
  rw [n6 h6, o6 h6, if_pos rfl, if_pos rfl, a7, sbind, b7, sbind]
  by_cases h7 : isW n b 7 s
  · rw [y7 h7, z7 h7, if_neg one_ne, if_neg one_ne]
    exact ⟨_, _, rfl, rfl, Or.inr ⟨gr 7 (by omega) h7, Or.inr (Or.inr (Or.inl ⟨rfl, rfl⟩))⟩⟩
  rw [n7 h7, o7 h7, if_pos rfl, if_pos rfl, a8, sbind, b8', sbind]
  by_cases h8 : isW n b 8 s
  · rw [y8 h8, z8' h8, if_neg one_ne, if_neg one_ne]
    exact ⟨_, _, rfl, rfl, Or.inr ⟨gr 8 (by omega) h8, Or.inr (Or.inr (Or.inr (Or.inl ⟨rfl, rfl⟩)))⟩⟩
  rw [n8 h8, o8 h8, if_pos rfl, if_pos rfl, a9, sbind, b9, sbind]
  by_cases h9 : isW n b 9 s
  · rw [y9 h9, z9 h9, if_neg one_ne, if_neg one_ne]
    exact ⟨_, _, rfl, rfl, Or.inr ⟨gr 9 (by omega) h9, Or.inr (Or.inr (Or.inr (Or.inr (Or.inl ⟨rfl, rfl⟩))))⟩⟩
  rw [n9 h9, o9 h9, if_pos rfl, if_pos rfl, a10, sbind, b11, sbind]
  by_cases h10 : isW n b 10 s
  · have h11 : ¬ isW n b 11 s := fun z => by
      have q1 := h10.1
      have q2 := z.1
      rw [sN_10] at q1
      rw [sN_11] at q2
      omega
    rw [y10 h10, o11 h11, if_neg one_ne, if_pos rfl, b10, sbind, z10 h10, if_neg one_ne]
    exact ⟨_, _, rfl, rfl, Or.inr ⟨gr 10 (by omega) h10, Or.inr (Or.inr (Or.inr (Or.inr (Or.inr (Or.inl ⟨rfl, rfl⟩)))))⟩⟩
  rw [n10 h10, if_pos rfl, a11, sbind]
  by_cases h11 : isW n b 11 s
  · rw [y11 h11, z11 h11, if_neg one_ne, if_neg one_ne]
    exact ⟨_, _, rfl, rfl, Or.inr ⟨gr 11 (by omega) h11, Or.inr (Or.inr (Or.inr (Or.inr (Or.inr (Or.inr (Or.inl ⟨rfl, rfl⟩))))))⟩⟩
  rw [n11 h11, o11 h11, if_pos rfl, if_pos rfl, a12, sbind, b10, sbind, o10 h10, if_pos rfl, b12, sbind]
  by_cases h12 : isW n b 12 s
  · rw [y12 h12, z12 h12, if_neg one_ne, if_neg one_ne]
    exact ⟨_, _, rfl, rfl, Or.inr ⟨gr 12 (by omega) h12, Or.inr (Or.inr (Or.inr (Or.inr (Or.inr (Or.inr (Or.inr ⟨rfl, rfl⟩))))))⟩⟩
  rw [n12 h12, o12 h12, if_pos rfl, if_pos rfl]
  exact ⟨_, _, rfl, rfl, Or.inl ⟨rfl, rfl⟩⟩
/-- what a whole recipe leaves -/
def RRES (a : AS) (aside : Nat → Int64) (mu mu' : MU) (x1 x2 : Int32) (r1 : Int32 × RR × RC × SS) (r2 : Int32 × (Nat → Int64) × (Nat → Int64) × MU × Int32 × MP × MF) : Prop :=
  r1.1 = r2.1 ∧ MP_length r2.2.2.2.2.2.1 = 0 ∧ MP_fault r2.2.2.2.2.2.1 = x1 ∧ MP_faultAt r2.2.2.2.2.2.1 = x2 ∧
  ((¬ r1.1 < 0 ∧ (∃ d', WFd a d' ∧ RCd a d' r1.2.2.2 ∧ RMs a r2.2.1 ∧ RMd a d' r2.2.1) ∧ r2.2.2.2.1 = mu') ∨ (r1.1 < 0 ∧ SS_pressure r1.2.2.2 8 = i4 1000000 ∧ (∀ k, k < 256 → r2.2.1 k = aside k) ∧ r2.2.2.2.1 = mu))
theorem m1_neg0 : ∀ p, p < 901 → (-1 : Int32) - i4 p < 0 := by decide +kernel
theorem m1_neg {p : Nat} (hp : p ≤ 900) : (-1 : Int32) - i4 p < 0 := m1_neg0 p (by omega)
theorem M32_e {R : RR} {mp : MP} {mf : MF} {w : Nat → Int64} (hE : ERP R mp n b) (hl : MP_length mp = 0) {fm : Nat} (hf : 0 < fm) {S : SS} (h8 : SS_pressure S 8 = i4 1000000) {rec : RR → RC → SS → Int32 → Int32 → Option (Int32 × RR × RC × SS)} {rc : RC} {y1 y2 y3 : Int32} :
    ∃ r1 r2, f3_run_B73 T lY rec R rc S y1 y2 = some r1 ∧ f10_runRecipe_B32 fm w aside mu th mp mf x1 x2 y3 = some r2 ∧ RRES a aside mu mu' x1 x2 r1 r2 := by
  obtain ⟨e1, e2, e3⟩ := err_ne hE
  obtain ⟨q, rfl⟩ : ∃ q, fm = q + 1 := ⟨fm - 1, by omega⟩
  obtain ⟨s, c, h1, h2, h3, h4, h5, h6, h7, h8', p, hp, hpos⟩ := hE
  refine ⟨((-1) - RR_errorPosition R, R, rc, S), ((-1) - MP_faultAt mp, cp256 aside w, aside, mu, th, MP_set_faultAt (MP_set_fault mp x1) x2, mf), ?_, ?_, by show (-1) - RR_errorPosition R = (-1) - MP_faultAt mp; rw [h8'], hl, rfl, rfl, Or.inr ⟨?_, h8, fun k hk => cp256_lt _ _ hk, rfl⟩⟩
  · unfold f3_run_B73
    rw [if_neg e1]
  · rw [f10_runRecipe_B32, if_neg e2]
    unfold f10_runRecipe_B64 f10_runRecipe_B81 f10_runRecipe_B108
    rw [if_neg e2, if_neg e2, M_cp_aside_w, sbind]
  · show (-1) - RR_errorPosition R < 0
    rw [hpos]
    exact m1_neg hp
/-- from a step's semicolon on -/
theorem TAIL {s0 place j fc fm : Nat} {R R' : RR} {mp : MP} {mf : MF} {rc : RC} {S : SS} {w : Nat → Int64} {v v' t1 : Int32} (hsem : SEMR s0 R R' mp n b) (hl : MP_length mp = 0) (hpl : place ≤ 900) (hfm : 0 < fm) (h8 : SS_pressure S 8 = i4 1000000)
    (hx : RR_errorCode R = 0 → EXR_ a (f3_execute lY rc S v) (f10_does (MF_set_second mf t1) w v'))
    (IH : ∀ (s' : Nat) (R' : RR) (mp' : MP) (mf' : MF) (S' : SS) (w' : Nat → Int64) (d' : AD), s0 ≤ s' → OKQ R' mp' n b s' → MP_length mp' = 0 → WFd a d' → RCd a d' S' → RMs a w' → RMd a d' w' → ∃ r1 r2, f3_run_B11 T lY fc R' rc S' (i4 (j + 1)) (i4 (j + 1)) = some r1 ∧ f10_runRecipe_B32 fm w' aside mu th mp' mf' x1 x2 (i4 (j + 1)) = some r2 ∧ RRES a aside mu mu' x1 x2 r1 r2) :
    ∃ r1 r2, (if RR_errorCode R' = 0 then (f3_execute lY rc S v).bind fun u57 => if u57.1 = 0 then (f2_fail R' 1 (i4 place)).bind fun u70 => f3_run_B73 T lY (f3_run_B11 T lY fc) u70 rc u57.2 (i4 j) (i4 j) else f3_run_B73 T lY (f3_run_B11 T lY fc) R' rc u57.2 (i4 j) (i4 j) else f3_run_B73 T lY (f3_run_B11 T lY fc) R' rc S (i4 j) (i4 j)) = some r1 ∧
      ((f10_goesThrough_B55 w mp mf (i4 place) v' t1).bind fun u51 => (f10_goOn u51.2.1).bind fun u55 => f10_runRecipe_B32 fm u51.1 aside mu th u55 u51.2.2 x1 x2 (i4 j + 1)) = some r2 ∧ RRES a aside mu mu' x1 x2 r1 r2 := by
  unfold f10_goesThrough_B55 f10_goesThrough_B80
  rcases hsem with ⟨hE, rfl⟩ | ⟨mp2, q1, q2, q3, hE, q4⟩ | ⟨mp', s', s2, q1, q2, q3, hO, q4, q5, hO2⟩
  · obtain ⟨e1, e2, e3⟩ := err_ne hE
    rw [if_neg e1, if_neg e2, if_pos (show 0 < MP_fault mp by rw [Int32.lt_iff_toInt_lt]; rw [Int32.le_iff_toInt_le] at e3; omega), sbind]
    dsimp only
    rw [M_goOn_e hE, sbind]
    exact M32_e hE hl hfm h8
  · obtain ⟨e1, e2, e3⟩ := err_ne hE
    rw [if_neg e1, if_pos q1, q2, sbind, if_pos rfl, q3, sbind, if_pos (show 0 < MP_fault mp2 by rw [Int32.lt_iff_toInt_lt]; rw [Int32.le_iff_toInt_le] at e3; omega), sbind]
    dsimp only
    rw [M_goOn_e hE, sbind]
    exact M32_e hE (q4.trans hl) hfm h8
  · obtain ⟨g1, g2, g3, g4, g5, g6⟩ := hO2
    have r5 : RR_errorCode R' = 0 := hO.2.2.2.2.1
    rw [if_pos r5, if_pos q1, q2, sbind, if_neg one_ne, if_neg (show ¬ 0 < MP_fault mp by rw [q1]; decide)]
    rcases hx g5 with ⟨S', w', k1, k2, k3⟩ | ⟨S', w', d', k1, k2, k3, k4, k5, k6⟩
    · rw [k1, sbind, k2, sbind]
      dsimp only
      rw [if_pos rfl, if_pos rfl, sbind]
      dsimp only
      have hE2 : ERP (RR_set_errorPosition (RR_set_errorCode R' 1) (i4 place)) (MP_set_faultAt (MP_set_fault mp 1) (i4 place)) n b := ⟨s2, 1, g1, g3, g4, by omega, by omega, rfl, rfl, rfl, place, hpl, rfl⟩
      rw [show f2_fail R' 1 (i4 place) = some (RR_set_errorPosition (RR_set_errorCode R' 1) (i4 place)) by unfold f2_fail; rw [if_pos r5], sbind, M_goOn_e hE2, sbind]
      exact M32_e hE2 hl hfm k3
    · rw [k1, sbind, k2, sbind]
      dsimp only
      rw [if_neg one_ne, if_neg one_ne, sbind]
      dsimp only
      unfold f3_run_B73
      rw [if_pos r5, q3, sbind, ad1]
      exact IH s' R' mp' (MF_set_second mf t1) S' w' d' q4 hO (q5.trans hl) k3 k4 k5 k6
theorem le900' {j : Nat} (hj : j < 900) : ¬ ((900 : Int32) ≤ i4 j) := le900 hj
theorem RUN (hT : TXc T n b) (hW : WFs a) (hL : RCs a lY) (hpush : f10_push aside mu = some mu') : ∀ (r s j fc fm : Nat) (R : RR) (mp : MP) (rc : RC) (mf : MF) (S : SS) (w : Nat → Int64) (d : AD), s + r = n → j ≤ s → 1000 ≤ fc + j → 1000 ≤ fm + j → OKQ R mp n b s → MP_length mp = 0 → WFd a d → RCd a d S → RMs a w → RMd a d w →
    ∃ r1 r2, f3_run_B11 T lY fc R rc S (i4 j) (i4 j) = some r1 ∧ f10_runRecipe_B32 fm w aside mu th mp mf x1 x2 (i4 j) = some r2 ∧ RRES a aside mu mu' x1 x2 r1 r2 := by
  intro r
  induction r using Nat.strongRecOn with
  | _ r ih =>
  intro s j fc fm R mp rc mf S w d hr hj hfc hfm hO hl hD hS hA hB
  have hO' := hO
  obtain ⟨g1, g2, g3, g4, g5, g6⟩ := hO'
  have hn := hT.1
  have hkl := kn_le (chr n b s)
  obtain ⟨qc, rfl⟩ : ∃ q, fc = q + 1 := ⟨fc - 1, by omega⟩
  obtain ⟨qm, rfl⟩ : ∃ q, fm = q + 1 := ⟨fm - 1, by omega⟩
  rw [f3_run_B11, f10_runRecipe_B32, if_pos g6, g3.2.1, g4.1, g2.2.2.1, g2.1]
  by_cases hs : n ≤ s
  · rw [if_pos (show i4 (kn (chr n b s)) = 0 by rw [kn_n hs]; rfl), if_pos ((i4_le (by omega) (by omega)).mpr hs)]
    refine ⟨(i4 j, R, rc, S), (i4 j, w, aside, mu', th, MP_set_faultAt (MP_set_fault mp x1) x2, mf), by split <;> rfl, ?_, rfl, hl, rfl, rfl, Or.inl ⟨lt0_i4 (by omega), ⟨d, hD, hS, hA, hB⟩, rfl⟩⟩
    unfold f10_runRecipe_B64 f10_runRecipe_B81 f10_runRecipe_B108
    rw [if_pos g6, if_pos g6, hpush, sbind]
  · rw [if_neg (le900 (by omega)), if_neg (show ¬ i4 (kn (chr n b s)) = 0 from fun z => hs (kn_end ((i4_eq (b := 0) (by omega) (by omega)).mp z))), if_neg (show ¬ i4 n ≤ i4 s from fun z => hs ((i4_le (by omega) (by omega)).mp z))]
    obtain ⟨v, v', t1, t2, hv⟩ := STEP hT hO
    unfold f3_readStep f10_goesThrough
    rw [t1, sbind, t2, sbind, g4.1]
    rcases hv with ⟨rfl, rfl⟩ | ⟨hlt, hv⟩
    · obtain ⟨R2, mp2, a1, a2, hE, a4⟩ := err_nowQ (R' := R) hO (c := 1) (by omega) g5
      obtain ⟨e1, e2, e3⟩ := err_ne hE
      rw [if_pos rfl, if_pos rfl, g2.1, show f2_fail R 1 (i4 s) = some R2 from a1, sbind, sbind]
      dsimp only
      rw [if_neg e1, show f10_wrong mp 1 = some mp2 from a2, sbind]
      unfold f10_goesThrough_B20 f10_goesThrough_B55 f10_goesThrough_B80
      rw [M_goOn_e hE, sbind, M_number_e hE, sbind]
      dsimp only
      rw [if_pos (show (-1 : Int32) < 6 by decide), if_neg e2, if_pos (show 0 < MP_fault mp2 by rw [Int32.lt_iff_toInt_lt]; rw [Int32.le_iff_toInt_le] at e3; omega), sbind]
      dsimp only
      rw [M_goOn_e hE, sbind]
      exact M32_e hE (a4.trans hl) (by omega) hS.2.1.2
    · obtain ⟨R1, mp1, a1, a2, a3, a4⟩ := go_onQ hT hO
      have hnx : s + 1 ≤ tS n b (tE n b s) := by
        have h1 := tE_le (b := b) g1
        have h2 := tS_le (b := b) h1.2
        omega
      have hvn : ¬ v = -1 ∧ ¬ v' = -1 := by
        rcases hv with ⟨rfl, rfl⟩ | ⟨rfl, rfl⟩ | ⟨rfl, rfl⟩ | ⟨rfl, rfl⟩ | ⟨rfl, rfl⟩ | ⟨rfl, rfl⟩ | ⟨rfl, rfl⟩ | ⟨rfl, rfl⟩ <;> decide
      obtain ⟨n1, R2, u1, mp2, b1, b2, b3, b4, b5⟩ := NUMQ (s0 := s + 1) hT (Or.inl ⟨_, hnx, a3⟩) (lo := 0) (hi := 9999999) (lo8 := 0) (hi8 := 9999999) (fun _ => ⟨rfl, rfl⟩)
      rw [if_neg hvn.1, if_neg hvn.2, a1, sbind, b1, sbind]
      dsimp only
      unfold f10_goesThrough_B20
      rw [a2, sbind, b2, sbind]
      dsimp only
      have fin : ∀ (s' j' : Nat), s + 1 ≤ s' → j' = j + 1 → ∀ (R' : RR) (mp' : MP) (rc' : RC) (mf' : MF) (S' : SS) (w' : Nat → Int64) (d' : AD), OKQ R' mp' n b s' → MP_length mp' = 0 → WFd a d' → RCd a d' S' → RMs a w' → RMd a d' w' → ∃ r1 r2, f3_run_B11 T lY qc R' rc' S' (i4 j') (i4 j') = some r1 ∧ f10_runRecipe_B32 qm w' aside mu th mp' mf' x1 x2 (i4 j') = some r2 ∧ RRES a aside mu mu' x1 x2 r1 r2 := by
        intro s' j' h1 h2 R' mp' rc' mf' S' w' d' c1 c2 c3 c4 c5 c6
        have c1' := c1.1
        exact ih (n - s') (by omega) s' j' qc qm R' mp' rc' mf' S' w' d' (by omega) (by omega) (by omega) (by omega) c1 c2 c3 c4 c5 c6
      by_cases hv2 : v = 5 ∨ v = 7
      · have hv3 : ¬ v' < 6 := by
          rcases hv with ⟨rfl, rfl⟩ | ⟨rfl, rfl⟩ | ⟨rfl, rfl⟩ | ⟨rfl, rfl⟩ | ⟨rfl, rfl⟩ | ⟨rfl, rfl⟩ | ⟨rfl, rfl⟩ | ⟨rfl, rfl⟩ <;> revert hv2 <;> decide
        obtain ⟨n2, R3, u2, mp3, c1, c2, c3, c4, c5⟩ := NUMQ hT b3 (lo := 0) (hi := 9999999) (lo8 := 0) (hi8 := 9999999) (fun _ => ⟨rfl, rfl⟩)
        obtain ⟨R4, k1, k2⟩ := SEMQ hT c3
        have e60 : f3_readStep_B60 T R2 (RC_set_first rc n1) v = some (v, R4, RC_set_second (RC_set_first rc n1) n2) := by
          unfold f3_readStep_B60
          rw [c1, sbind]
          dsimp only
          rw [k1, sbind]
        have e5 : (if v = 5 then f3_readStep_B60 T R2 (RC_set_first rc n1) v else if v = 7 then f3_readStep_B60 T R2 (RC_set_first rc n1) v else (f2_readSemicolon T R2).bind fun u81 => some (v, u81, RC_set_second (RC_set_first rc n1) 0)) = some (v, R4, RC_set_second (RC_set_first rc n1) n2) := by
          rcases hv2 with q | q
          · rw [if_pos q, e60]
          · rw [e60, if_pos q]
            split <;> rfl
        rw [e5, sbind, if_neg hv3, c2, sbind]
        dsimp only
        refine TAIL k2 (by rw [c4, b4, a4]; exact hl) (by omega) (by omega) hS.2.1.2 (fun q => ?_) (fun s' R' mp' mf' S' w' d' z1 z2 z3 z4 z5 z6 z7 => fin s' (j + 1) z1 rfl R' mp' _ mf' S' w' d' z2 z3 z4 z5 z6 z7)
        obtain ⟨f1, f2, -, -⟩ := c5 q
        obtain ⟨-, f4, -, -⟩ := b5 f1
        have h1 : RC_first (RC_set_second (RC_set_first rc n1) n2) = MF_first (MF_set_second (MF_set_first mf u1) u2) := f4.symm
        have h2 : RC_second (RC_set_second (RC_set_first rc n1) n2) = MF_second (MF_set_second (MF_set_first mf u1) u2) := f2.symm
        rcases hv with ⟨rfl, rfl⟩ | ⟨rfl, rfl⟩ | ⟨rfl, rfl⟩ | ⟨rfl, rfl⟩ | ⟨rfl, rfl⟩ | ⟨rfl, rfl⟩ | ⟨rfl, rfl⟩ | ⟨rfl, rfl⟩
        · exact xq_0 hW hD hL hS hA hB h1
        · exact xq_1 hW hD hL hS hA hB h1
        · exact xq_2 hW hD hL hS hA hB h1
        · exact xq_3 hW hD hL hS hA hB h1
        · exact xq_4 hW hD hL hS hA hB h1
        · exact xq_5 hW hD hL hS hA hB h1 h2
        · exact xq_6 hW hD hL hS hA hB h1
        · exact xq_7 hW hD hL hS hA hB h1 h2
      · have hv3 : v' < 6 := by
          rcases hv with ⟨rfl, rfl⟩ | ⟨rfl, rfl⟩ | ⟨rfl, rfl⟩ | ⟨rfl, rfl⟩ | ⟨rfl, rfl⟩ | ⟨rfl, rfl⟩ | ⟨rfl, rfl⟩ | ⟨rfl, rfl⟩ <;> revert hv2 <;> decide
        obtain ⟨R4, k1, k2⟩ := SEMQ hT b3
        rw [if_neg (fun q => hv2 (Or.inl q)), if_neg (fun q => hv2 (Or.inr q)), k1, sbind, sbind, if_pos hv3]
        dsimp only
        refine TAIL k2 (by rw [b4, a4]; exact hl) (by omega) (by omega) hS.2.1.2 (fun q => ?_) (fun s' R' mp' mf' S' w' d' z1 z2 z3 z4 z5 z6 z7 => fin s' (j + 1) z1 rfl R' mp' _ mf' S' w' d' z2 z3 z4 z5 z6 z7)
        obtain ⟨-, f4, -, -⟩ := b5 q
        have h1 : RC_first (RC_set_second (RC_set_first rc n1) 0) = MF_first (MF_set_second (MF_set_first mf u1) 0) := f4.symm
        have h2 : RC_second (RC_set_second (RC_set_first rc n1) 0) = MF_second (MF_set_second (MF_set_first mf u1) 0) := rfl
        rcases hv with ⟨rfl, rfl⟩ | ⟨rfl, rfl⟩ | ⟨rfl, rfl⟩ | ⟨rfl, rfl⟩ | ⟨rfl, rfl⟩ | ⟨rfl, rfl⟩ | ⟨rfl, rfl⟩ | ⟨rfl, rfl⟩
        · exact xq_0 hW hD hL hS hA hB h1
        · exact xq_1 hW hD hL hS hA hB h1
        · exact xq_2 hW hD hL hS hA hB h1
        · exact xq_3 hW hD hL hS hA hB h1
        · exact xq_4 hW hD hL hS hA hB h1
        · exact xq_5 hW hD hL hS hA hB h1 h2
        · exact xq_6 hW hD hL hS hA hB h1
        · exact xq_7 hW hD hL hS hA hB h1 h2
theorem S_recipe {tp : TP} {st : Fin 12 → SS} {ee : EE} {mp : MP} {mf : MF} {rc : RC} {w : Nat → Int64} (R : RR) (hI : INVd a d lY tp st w mu) (hT : INVt T mp) (hE : INVe ee mp) : ∃ r1 r2, f9_runRecipe lY T R rc tp st = some r1 ∧ f10_runRecipe w aside mu th mp mf = some r2 ∧ r1.1 = r2.1 ∧ (∃ d', INVd a d' lY r1.2.2.2.2.1 r1.2.2.2.2.2 r2.2.1 r2.2.2.2.1) ∧ INVt r1.2.1 r2.2.2.2.2.2.1 ∧ INVe ee r2.2.2.2.2.2.1 := by
  have := FU_eq
  have hI' := hI
  obtain ⟨⟨hW, hD, hL, hS⟩, hA, hB, -, -, cnt, np, u1, u2, u3, u4, -⟩ := hI'
  obtain ⟨S0, e0, r0⟩ := C_begin hI
  obtain ⟨mu1, m1, -⟩ := M_push (aside := cp256 w aside) u1 u4
  obtain ⟨n, b, s, R', mp', hX, e1, e2, g1, g2, g3, g4, g5, g6, -, -, g9⟩ := BEGIN R hT
  obtain ⟨⟨v, R2, rc2, S2⟩, ⟨v2, w2, as2, mu2, th2, mp2, mf2⟩, k1, k2, q1, q2, q3, q4, q5⟩ := RUN (aside := cp256 w aside) (mu := mu) (mu' := mu1) (th := 0) (x1 := MP_fault mp) (x2 := MP_faultAt mp) hX hW hL m1 (n - s) s 0 FU FU R' mp' rc mf S0 w d (by omega) (Nat.zero_le s) (by omega) (by omega) ⟨g1, g2, g3, g4, g5, g6⟩ g9 hD r0 hA hB
  dsimp only at q1 q2 q3 q4 q5
  have hrun : f3_run T lY R rc S0 = some (v, R2, rc2, S2) := by
    unfold f3_run
    rw [e1, sbind]
    exact k1
  have hmod : f10_runRecipe w aside mu th mp mf = some (v2, w2, as2, mu2, th2, mp2, mf2) := by
    unfold f10_runRecipe
    rw [M_cp_w_aside, sbind, e2, sbind]
    exact k2
  have hTn : INVt (TT_set_length T 0) mp2 := ⟨0, Nat.zero_le 900, rfl, q2, fun i hi => absurd hi (Nat.not_lt_zero i)⟩
  have hEn : INVe ee mp2 := ⟨hE.1.trans q3.symm, hE.2.trans q4.symm⟩
  rcases q5 with ⟨c1, ⟨d', c2, c3, c4, c5⟩, c6⟩ | ⟨c1, c2, c3, c6⟩
  · obtain ⟨tp', mu', p1, p2, p3, p4⟩ := KEEP hI c2 c3 c4 c5 (fun k hk => cp256_lt w aside hk)
    have hmu : mu' = mu1 := by rw [p3] at m1; injection m1
    refine ⟨(v, TT_set_length T 0, R2, rc2, tp', updF st (TP_tr tp) S2), _, ?_, hmod, q1, ⟨d', ?_⟩, hTn, hEn⟩
    · unfold f9_runRecipe
      rw [e0, sbind, uF_self, hrun, sbind]
      dsimp only
      rw [if_neg c1, p1, sbind, uF_two]
    · show INVd a d' lY tp' (updF st (TP_tr tp) S2) w2 mu2
      rw [c6, ← hmu]
      exact p4
  · refine ⟨(v, TT_set_length T 0, R2, rc2, tp, updF st (TP_tr tp) S2), _, ?_, hmod, q1, ⟨d, ?_⟩, hTn, hEn⟩
    · unfold f9_runRecipe
      rw [e0, sbind, uF_self, hrun, sbind]
      dsimp only
      rw [if_pos c1, uF_two]
    · show INVd a d lY tp (updF st (TP_tr tp) S2) w2 mu2
      obtain ⟨i1, -, -, i4', i5, i6⟩ := SCR hI c2
      have e : ∀ k, k < 256 → w2 k = w k := fun k hk => (c3 k hk).trans (cp256_lt w aside hk)
      rw [c6]
      exact ⟨i1, RMs_256 hW hA e, RMd_256 hW hD hB e, i4', i5, i6⟩
end RC
