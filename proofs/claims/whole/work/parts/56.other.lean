/-! out, or another chamber -/
section OT
variable {T : TT} {R : RR} {mp : MP} {n : Nat} {b : Nat → Int32} {lY : LL} {fresh : Nat → Int64}
theorem cnt_hi {N : Nat} (hN : N ≤ 24) : (i8 N - 1).toInt = (i4 N - 1).toInt := by
  rw [i8_m1 (by omega)]
  exact (i4_neg_lt (x := N) (y := 1) (by omega) (by omega)).symm
/-- a chamber's number, if all is well -/
theorem CHAM (hT : TXc T n b) (h : PRP R mp n b) {N : Nat} (hN : N ≤ 8) (h1 : LL_chambers lY = i4 N) (h2 : fresh (ix 0) = i8 N) :
    ∃ v R' v' mp', f2_readNumber T R 0 (LL_chambers lY - 1) = some (v, R') ∧ f10_chamberHere fresh mp = some (v', mp') ∧ PRP R' mp' n b ∧ MP_length mp' = MP_length mp ∧ (RR_errorCode R' = 0 → RR_errorCode R = 0 ∧ v' = v ∧ ∃ c, c < N ∧ v = i4 c) := by
  obtain ⟨v, R', v', mp', e1, e2, e3, e4, e5⟩ := NUM hT h (lo := 0) (hi := LL_chambers lY - 1) (lo8 := 0) (hi8 := fresh (ix 0) - 1) (fun _ => ⟨rfl, by rw [h1, h2]; exact cnt_hi (by omega)⟩)
  refine ⟨v, R', v', mp', e1, ?_, e3, e4, fun q => ?_⟩
  · unfold f10_chamberHere
    rw [e2, sbind]
  · obtain ⟨q1, q2, q3, q4⟩ := e5 q
    refine ⟨q1, q2, n4 v, ?_, (i4_n4 (by rw [z4] at q3; exact q3)).symm⟩
    rw [h1, show (i4 N - 1 : Int32).toInt = (N : Int) - 1 from i4_neg_lt (x := N) (y := 1) (by omega) (by omega)] at q4
    rw [z4] at q3
    unfold n4
    omega
theorem OTHER (hT : TXc T n b) (h : PRP R mp n b) {N : Nat} (hN : N ≤ 8) (h1 : LL_chambers lY = i4 N) (h2 : fresh (ix 0) = i8 N) {x x' : Int32} (hx : RR_errorCode R = 0 → x' = x) :
    ∃ v R' v' mp', f6_readOtherSide T lY R x = some (v, R') ∧ f10_otherHere fresh mp x' = some (v', mp') ∧ PRP R' mp' n b ∧ MP_length mp' = MP_length mp ∧ (RR_errorCode R' = 0 → RR_errorCode R = 0 ∧ ∃ e, (e = 8 ∨ e < N) ∧ v = i4 e ∧ v' = m4 e ∧ (e = 8 ∨ v ≠ x)) := by
  rcases h with ⟨s, h⟩ | h
  · have h' := h
    obtain ⟨g1, g2, g3, g4, g5, g6, g7⟩ := h'
    have hE := tE_le (b := b) g1
    have hn := g3.1
    have hkl := kn_le (chr n b s)
    have hx0 := hx g5
    obtain ⟨r, w1, w2, w3⟩ := C_isWord hT g1 g2 (i := 4) (by omega) (words_ok 4 (by omega))
    obtain ⟨r', u1, u2, u3⟩ := M_isWord g3 g1 g4 (i := 21) (by omega) (len_ok 21 (by omega))
    rw [isW_eq sB_21] at u2 u3
    unfold f6_readOtherSide f10_otherHere
    rw [if_pos g5, w1, sbind, if_pos (show MP_fault mp ≤ 0 by rw [g6]; exact Int32.le_refl _), u1, sbind]
    by_cases hw : isW n b 4 s
    · obtain ⟨R', mp', a1, a2, a3, a4⟩ := go_on hT h
      rw [w2 hw, u2 hw, if_neg one_ne, if_neg one_ne, a1, sbind, a2, sbind]
      exact ⟨_, R', _, mp', rfl, rfl, Or.inl ⟨_, a3⟩, a4, fun _ => ⟨g5, 8, Or.inl rfl, rfl, rfl, Or.inl rfl⟩⟩
    · rw [w3 hw, u3 hw, if_pos rfl, if_pos rfl]
      obtain ⟨v, mp1, e1, el, hc⟩ := SEE h 0 (fresh (ix 0) - 1)
      have ehi : (fresh (ix 0) - 1).toInt = (i4 N - 1).toInt := by rw [h2]; exact cnt_hi (by omega)
      have ehi2 : (i4 N - 1).toInt = (N : Int) - 1 := i4_neg_lt (x := N) (y := 1) (by omega) (by omega)
      have hkind : (RR_kind R = 2) ↔ kn (chr n b s) = 2 := by
        rw [g2.2.2.1]
        exact i4_eq (b := 2) (by omega) (by omega)
      unfold f6_readOtherSide_B32 f2_readNumber
      rw [if_pos g5, h1, g2.1, g2.2.1, i4_sub hE.1, e1, sbind]
      rcases hc with ⟨c1, c2, c3, c4, c5, rfl⟩ | ⟨c, c1, c2, c3, c4⟩
      · obtain ⟨R', mp', a1, a2, a3, a4⟩ := go_on hT h
        have k1 : ¬ (RR_value R < 0) := by rw [Int32.lt_iff_toInt_lt, z4, ← c3]; rw [z8] at c4; omega
        have k2 : RR_value R ≤ i4 N - 1 := by rw [Int32.le_iff_toInt_le, ← ehi, ← c3]; omega
        rw [if_pos (hkind.mpr c1), if_neg (show ¬ ((7 : Int32) < i4 (tE n b s - s)) from fun z => by have := (i4_lt (a := 7) (by omega) (by omega)).mp z; omega), if_neg k1, if_pos k2, a1, sbind, sbind]
        dsimp only
        have r5 : RR_errorCode R' = 0 := a3.2.2.2.2.1
        rw [if_pos r5, if_pos g6, hx0, ← c3]
        by_cases hv : v = x
        · obtain ⟨R2, mp2, b1, b2, b3, b4⟩ := err_now (R' := R') h (c := 3) (by omega) r5
          rw [if_pos hv, show f2_fail R' 3 (i4 s) = _ from b1, sbind, if_pos hv, show f10_wrong mp1 3 = _ from b2, sbind, M_goOn_e b3, sbind]
          exact ⟨_, R2, _, mp2, rfl, rfl, Or.inr b3, b4, fun z => absurd z (err_ne b3).1⟩
        · rw [if_neg hv, if_neg hv, a2, sbind]
          have hv0 : 0 ≤ v.toInt := by rw [z8] at c4; exact c4
          have hvn : n4 v < N := by unfold n4; omega
          refine ⟨_, R', _, mp', rfl, rfl, Or.inl ⟨_, a3⟩, a4, fun _ => ⟨g5, n4 v, Or.inr hvn, (i4_n4 hv0).symm, ?_, Or.inr hv⟩⟩
          rw [m4_lt (show n4 v ≠ 8 by omega), i4_n4 hv0]
      · obtain ⟨R2, mp2, a1, a2, a3, a4⟩ := err_now (R' := R) h ⟨c1, c2⟩ g5
        rw [c3] at a2
        obtain rfl : mp1 = mp2 := by injection a2
        have hne := err_ne a3
        dsimp only
        rw [if_neg hne.2.1, M_goOn_e a3, sbind]
        have done : ∀ X : Option (Int32 × RR), X = some (0, R2) → ∃ v' R' w' mp', (X.bind fun u54 => if RR_errorCode u54.2 = 0 then if u54.1 = x then (f2_fail u54.2 3 (i4 s)).bind fun u79 => some (u54.1, u79) else some (u54.1, u54.2) else some (u54.1, u54.2)) = some (v', R') ∧ some (v, mp1) = some (w', mp') ∧ PRP R' mp' n b ∧ MP_length mp' = MP_length mp ∧ (RR_errorCode R' = 0 → RR_errorCode R = 0 ∧ ∃ e, (e = 8 ∨ e < N) ∧ v' = i4 e ∧ w' = m4 e ∧ (e = 8 ∨ v' ≠ x)) := by
          intro X hX
          rw [hX, sbind]
          dsimp only
          rw [if_neg hne.1]
          exact ⟨0, R2, v, mp1, rfl, rfl, Or.inr a3, a4, fun z => absurd z hne.1⟩
        refine done _ ?_
        rcases c4 with ⟨q1, rfl⟩ | ⟨q1, rfl, q2⟩
        · rw [if_neg (fun z => q1 (hkind.mp z)), show f2_fail R 1 (i4 s) = _ from a1, sbind]
        · rw [if_pos (hkind.mpr q1), show f2_fail R 2 (i4 s) = _ from a1, sbind]
          by_cases w1 : 7 < tE n b s - s
          · rw [if_pos (show (7 : Int32) < i4 (tE n b s - s) from (i4_lt (a := 7) (by omega) (by omega)).mpr w1)]
          · rw [if_neg (show ¬ ((7 : Int32) < i4 (tE n b s - s)) from fun z => w1 ((i4_lt (a := 7) (by omega) (by omega)).mp z))]
            by_cases w2 : RR_value R < 0
            · rw [if_pos w2]
            · rw [if_neg w2]
              rw [Int32.lt_iff_toInt_lt, z4] at w2
              rw [if_neg (show ¬ (RR_value R ≤ i4 N - 1) from fun z => by
                rw [Int32.le_iff_toInt_le] at z
                rcases q2 with q2 | q2
                · exact w1 q2
                · exact q2 ⟨by rw [z8]; omega, by omega⟩)]
  · obtain ⟨e1, e2, e3⟩ := err_ne h
    refine ⟨0, R, -1, mp, ?_, ?_, Or.inr h, rfl, fun z => absurd z e1⟩
    · unfold f6_readOtherSide f6_readOtherSide_B32 f2_readNumber
      rw [if_neg e1, if_neg e1, sbind]
      dsimp only
      rw [if_neg e1]
    · unfold f10_otherHere
      rw [if_neg e3]
end OT
