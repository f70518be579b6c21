/-! numbers and semicolons of a recipe -/
def OKQ (R : RR) (mp : MP) (n : Nat) (b : Nat → Int32) (s : Nat) : Prop := s ≤ n ∧ TKc R n b s ∧ TXm mp n b ∧ TKm mp n b s ∧ RR_errorCode R = 0 ∧ MP_fault mp = 0
def PRQ (s0 : Nat) (R : RR) (mp : MP) (n : Nat) (b : Nat → Int32) : Prop := (∃ s, s0 ≤ s ∧ OKQ R mp n b s) ∨ ERP R mp n b
theorem tSE {n : Nat} {b : Nat → Int32} {s : Nat} (h : s ≤ n) : s ≤ tS n b (tE n b s) := by
  have h1 := tE_le (b := b) h
  have h2 := tS_le (b := b) h1.2
  omega
section NQ
variable {T : TT} {R : RR} {mp : MP} {n : Nat} {b : Nat → Int32} {s0 : Nat}
theorem err_nowQ {s c : Nat} {R' : RR} (h : OKQ R mp n b s) (hc : 1 ≤ c ∧ c ≤ 4) (h1 : RR_errorCode R' = 0) : ∃ R2 mp2, f2_fail R' (i4 c) (i4 s) = some R2 ∧ f10_wrong mp (i4 c) = some mp2 ∧ ERP R2 mp2 n b ∧ MP_length mp2 = MP_length mp := by
  obtain ⟨g1, g2, g3, g4, g5, g6⟩ := h
  refine ⟨RR_set_errorPosition (RR_set_errorCode R' (i4 c)) (i4 s), MP_set_faultAt (MP_set_fault mp (i4 c)) (i4 s), ?_, ?_, ⟨s, c, g1, g3, g4, hc.1, hc.2, rfl, rfl, rfl, s, Nat.le_trans g1 g3.1, rfl⟩, rfl⟩
  · unfold f2_fail
    rw [if_pos h1]
  · unfold f10_wrong
    rw [g6, if_pos (Int32.le_refl _), g4.1]
theorem go_onQ (hT : TXc T n b) {s : Nat} (h : OKQ R mp n b s) : ∃ R' mp', f2_advance T R = some R' ∧ f10_goOn mp = some mp' ∧ OKQ R' mp' n b (tS n b (tE n b s)) ∧ MP_length mp' = MP_length mp := by
  obtain ⟨g1, g2, g3, g4, g5, g6⟩ := h
  have hE := tE_le (b := b) g1
  obtain ⟨R', e1, t1, x1, x2⟩ := C_advance hT hE.2 g2.2.1
  obtain ⟨mp', e2, t2, t3, y1, y2, y3⟩ := M_next g3 hE.2 g4.2
  refine ⟨R', mp', e1, ?_, ⟨(tS_le hE.2).2, t1, t2, t3, x1.trans g5, y2.trans g6⟩, y1⟩
  unfold f10_goOn
  rw [if_pos g6, e2, sbind]
theorem SEEQ {s : Nat} (h : OKQ R mp n b s) (lo hi : Int64) : ∃ v mp', f10_see mp lo hi = some (v, mp') ∧ MP_length mp' = MP_length mp ∧
    ((kn (chr n b s) = 2 ∧ tE n b s - s ≤ 7 ∧ v = RR_value R ∧ lo.toInt ≤ v.toInt ∧ v.toInt ≤ hi.toInt ∧ mp' = mp) ∨ (∃ c, 1 ≤ c ∧ c ≤ 4 ∧ f10_wrong mp (i4 c) = some mp' ∧ ((¬ kn (chr n b s) = 2 ∧ c = 1) ∨ (kn (chr n b s) = 2 ∧ c = 2 ∧ (7 < tE n b s - s ∨ ¬ (lo.toInt ≤ (RR_value R).toInt ∧ (RR_value R).toInt ≤ hi.toInt)))))) := by
  obtain ⟨g1, g2, g3, g4, g5, g6⟩ := h
  have hn := g3.1
  have := FU_eq
  have hE := tE_le (b := b) g1
  have hw : ∀ c : Nat, f10_wrong mp (i4 c) = some (MP_set_faultAt (MP_set_fault mp (i4 c)) (i4 s)) := by
    intro c
    unfold f10_wrong
    rw [g6, if_pos (Int32.le_refl _), g4.1]
  unfold f10_see
  rw [if_pos (show MP_fault mp ≤ 0 by rw [g6]; exact Int32.le_refl _), g4.1, M_digit g3 (by omega), sbind]
  by_cases hk : kn (chr n b s) = 2
  · rw [if_pos hk, if_neg one_ne, g4.2, i4_sub hE.1]
    by_cases hl : tE n b s - s ≤ 7
    · rw [if_pos (show i4 (tE n b s - s) ≤ (7 : Int32) from (i4_le (b := 7) (by omega) (by omega)).mpr hl), M_see56 g3 g1 g4 g6 lo hi (tE n b s - s) s FU 0 (by omega) (by omega)]
      have ev : vlN n b (tE n b s - s) s 0 = RR_value R := by
        rw [g2.2.2.2 hk]
        congr 1
        split <;> omega
      rw [ev]
      unfold f10_see_B95
      rw [if_pos g6]
      by_cases hr : lo.toInt ≤ (RR_value R).toInt ∧ (RR_value R).toInt ≤ hi.toInt
      · rw [M_in_y hr.1 hr.2, sbind, if_neg one_ne]
        exact ⟨_, _, rfl, rfl, Or.inl ⟨hk, hl, rfl, hr.1, hr.2, rfl⟩⟩
      · rw [M_in_n hr, sbind, if_pos rfl, show f10_wrong mp 2 = _ from hw 2, sbind]
        exact ⟨_, _, rfl, rfl, Or.inr ⟨2, by omega, by omega, hw 2, Or.inr ⟨hk, rfl, Or.inr hr⟩⟩⟩
    · rw [if_neg (show ¬ (i4 (tE n b s - s) ≤ (7 : Int32)) from fun z => hl ((i4_le (b := 7) (by omega) (by omega)).mp z)), show f10_wrong mp 2 = _ from hw 2, sbind, see56_e (mp := MP_set_faultAt (MP_set_fault mp (i4 2)) (i4 s)) (show ¬ i4 2 = 0 by decide)]
      exact ⟨_, _, rfl, rfl, Or.inr ⟨2, by omega, by omega, hw 2, Or.inr ⟨hk, rfl, Or.inl (by omega)⟩⟩⟩
  · rw [if_neg hk, if_pos rfl, show f10_wrong mp 1 = _ from hw 1, sbind, see56_e (mp := MP_set_faultAt (MP_set_fault mp (i4 1)) (i4 s)) (show ¬ i4 1 = 0 by decide)]
    exact ⟨_, _, rfl, rfl, Or.inr ⟨1, by omega, by omega, hw 1, Or.inl ⟨hk, rfl⟩⟩⟩
theorem NUMQ (hT : TXc T n b) (h : PRQ s0 R mp n b) {lo hi : Int32} {lo8 hi8 : Int64} (hr : RR_errorCode R = 0 → lo8.toInt = lo.toInt ∧ hi8.toInt = hi.toInt) :
    ∃ v R' v' mp', f2_readNumber T R lo hi = some (v, R') ∧ f10_number mp lo8 hi8 = some (v', mp') ∧ PRQ s0 R' mp' n b ∧ MP_length mp' = MP_length mp ∧ (RR_errorCode R' = 0 → RR_errorCode R = 0 ∧ v' = v ∧ lo.toInt ≤ v.toInt ∧ v.toInt ≤ hi.toInt) := by
  rcases h with ⟨s, hs0, h⟩ | h
  · have h' := h
    obtain ⟨g1, g2, g3, g4, g5, g6⟩ := h'
    have hE := tE_le (b := b) g1
    have hn := g3.1
    have hkl := kn_le (chr n b s)
    obtain ⟨r1, r2⟩ := hr g5
    obtain ⟨v, mp1, e1, el, hc⟩ := SEEQ h lo8 hi8
    have hkind : (RR_kind R = 2) ↔ kn (chr n b s) = 2 := by
      rw [g2.2.2.1]
      exact i4_eq (b := 2) (by omega) (by omega)
    unfold f2_readNumber f10_number
    rw [if_pos g5, e1, sbind, g2.1, g2.2.1, i4_sub hE.1]
    rcases hc with ⟨c1, c2, c3, c4, c5, rfl⟩ | ⟨c, c1, c2, c3, c4⟩
    · obtain ⟨R', mp', a1, a2, a3, a4⟩ := go_onQ hT h
      have k1 : ¬ (RR_value R < lo) := by rw [Int32.lt_iff_toInt_lt, ← r1, ← c3]; omega
      have k2 : RR_value R ≤ hi := by rw [Int32.le_iff_toInt_le, ← r2, ← c3]; omega
      rw [if_pos (hkind.mpr c1), if_neg (show ¬ ((7 : Int32) < i4 (tE n b s - s)) from fun z => by have := (i4_lt (a := 7) (by omega) (by omega)).mp z; omega), if_neg k1, if_pos k2, a1, sbind]
      refine ⟨_, _, v, mp', rfl, ?_, Or.inl ⟨_, Nat.le_trans hs0 (tSE g1), a3⟩, a4, fun _ => ⟨g5, c3, ?_, ?_⟩⟩
      · dsimp only
        rw [a2, sbind]
      · rw [← c3, ← r1]; exact c4
      · rw [← c3, ← r2]; exact c5
    · obtain ⟨R2, mp2, a1, a2, a3, a4⟩ := err_nowQ (R' := R) h ⟨c1, c2⟩ g5
      rw [c3] at a2
      obtain rfl : mp1 = mp2 := by injection a2
      have eM : (f10_goOn mp1).bind (fun u9 => some (v, u9)) = some (v, mp1) := by rw [M_goOn_e a3, sbind]
      have hne := (err_ne a3).1
      rcases c4 with ⟨q1, rfl⟩ | ⟨q1, rfl, q2⟩
      · rw [if_neg (fun z => q1 (hkind.mp z)), show f2_fail R 1 (i4 s) = _ from a1, sbind]
        exact ⟨_, _, v, mp1, rfl, eM, Or.inr a3, a4, fun z => absurd z hne⟩
      · rw [if_pos (hkind.mpr q1)]
        have fl : (f2_fail R 2 (i4 s)).bind (fun u64 => some ((0 : Int32), u64)) = some (0, R2) := by rw [show f2_fail R 2 (i4 s) = _ from a1, sbind]
        refine ⟨0, R2, v, mp1, ?_, eM, Or.inr a3, a4, fun z => absurd z hne⟩
        by_cases w1 : 7 < tE n b s - s
        · rw [if_pos (show (7 : Int32) < i4 (tE n b s - s) from (i4_lt (a := 7) (by omega) (by omega)).mpr w1)]
          exact fl
        · rw [if_neg (show ¬ ((7 : Int32) < i4 (tE n b s - s)) from fun z => w1 ((i4_lt (a := 7) (by omega) (by omega)).mp z))]
          by_cases w2 : RR_value R < lo
          · rw [if_pos w2]
            exact fl
          · rw [if_neg w2]
            rw [Int32.lt_iff_toInt_lt] at w2
            rw [if_neg (show ¬ (RR_value R ≤ hi) from fun z => by
              rw [Int32.le_iff_toInt_le] at z
              rcases q2 with q2 | q2
              · exact w1 q2
              · exact q2 ⟨by omega, by omega⟩)]
            exact fl
  · obtain ⟨e1, e2, e3⟩ := err_ne h
    refine ⟨0, R, 0, mp, ?_, ?_, Or.inr h, rfl, fun z => absurd z e1⟩
    · unfold f2_readNumber
      rw [if_neg e1]
    · unfold f10_number f10_see
      rw [if_neg e3, sbind]
      dsimp only
      rw [M_goOn_e h, sbind]
/-- a step's semicolon: the class passes it, the reference sees it -/
def SEMR (s0 : Nat) (R R' : RR) (mp : MP) (n : Nat) (b : Nat → Int32) : Prop :=
  (ERP R mp n b ∧ R' = R) ∨
  (∃ mp2, MP_fault mp = 0 ∧ f10_isWord mp 19 = some 0 ∧ f10_wrong mp 1 = some mp2 ∧ ERP R' mp2 n b ∧ MP_length mp2 = MP_length mp) ∨
  (∃ mp' s' s2, MP_fault mp = 0 ∧ f10_isWord mp 19 = some 1 ∧ f10_goOn mp = some mp' ∧ OKQ R' mp' n b s' ∧ s0 ≤ s' ∧ MP_length mp' = MP_length mp ∧ OKQ R mp n b s2)
theorem SEMQ (hT : TXc T n b) (h : PRQ s0 R mp n b) : ∃ R', f2_readSemicolon T R = some R' ∧ SEMR s0 R R' mp n b := by
  rcases h with ⟨s, hs0, h⟩ | h
  · have h' := h
    obtain ⟨g1, g2, g3, g4, g5, g6⟩ := h'
    have hkl := kn_le (chr n b s)
    obtain ⟨r, e, p1, p2⟩ := M_isWord g3 g1 g4 (i := 19) (by omega) (len_ok 19 (by omega))
    rw [semi_iff] at p1 p2
    unfold f2_readSemicolon
    rw [if_pos g5]
    by_cases hk : kn (chr n b s) = 3
    · obtain ⟨R', mp', a1, a2, a3, a4⟩ := go_onQ hT h
      rw [p1 hk] at e
      rw [if_pos (show RR_kind R = 3 by rw [g2.2.2.1, hk]; rfl), a1, sbind]
      exact ⟨R', rfl, Or.inr (Or.inr ⟨mp', _, s, g6, e, a2, a3, Nat.le_trans hs0 (tSE g1), a4, h⟩)⟩
    · obtain ⟨R2, mp2, a1, a2, a3, a4⟩ := err_nowQ (R' := R) h (c := 1) (by omega) g5
      rw [p2 hk] at e
      rw [if_neg (show ¬ (RR_kind R = 3) from fun z => hk (by
        have z2 : i4 (kn (chr n b s)) = (3 : Int32) := g2.2.2.1.symm.trans z
        exact (i4_eq (b := 3) (by omega) (by omega)).mp z2)), g2.1, show f2_fail R 1 (i4 s) = _ from a1, sbind]
      exact ⟨R2, rfl, Or.inr (Or.inl ⟨mp2, g6, e, a2, a3, a4⟩)⟩
  · refine ⟨R, ?_, Or.inl ⟨h, rfl⟩⟩
    unfold f2_readSemicolon
    rw [if_neg (err_ne h).1]
end NQ
