/-! the semicolon, the other side -/
theorem sB_18 : sB 18 = sB 0 := by decide
theorem sB_20 : sB 20 = sB 1 := by decide
theorem sB_22 : sB 22 = sB 2 := by decide
theorem sB_23 : sB 23 = sB 3 := by decide
theorem sB_21 : sB 21 = sB 4 := by decide
theorem words_ok : ∀ i, i < 13 → 0 < sN i ∧ sN i < 100 ∧ kn (sCh i 0) = 1 := by decide +kernel
theorem len_ok : ∀ i, i < 33 → sN i < 100 := by decide +kernel
theorem kn_3 (x : Int32) : kn x = 3 ↔ x = 59 := by
  refine ⟨fun h => ?_, fun h => by subst h; decide⟩
  unfold kn at h
  split at h
  · omega
  · split at h
    · omega
    · split at h
      · omega
      · split at h
        · assumption
        · omega
section MU2
variable {T : TT} {R : RR} {mp : MP} {n : Nat} {b : Nat → Int32}
theorem M_wrong_e (h : ERP R mp n b) (c : Int32) : f10_wrong mp c = some mp := by
  unfold f10_wrong
  rw [if_neg (err_ne h).2.2]
theorem M_word_e (h : ERP R mp n b) {i : Nat} (hi : i < 33) : ∃ r, f10_isWord mp i = some r := by
  obtain ⟨s, c, h1, h2, h3, -⟩ := h
  obtain ⟨r, e, -⟩ := M_isWord h2 h1 h3 hi (len_ok i hi)
  exact ⟨r, e⟩
theorem semi_iff {s : Nat} : isW n b 19 s ↔ kn (chr n b s) = 3 := by
  have e1 : sN 19 = 1 := by decide
  have e2 : sCh 19 0 = 59 := by decide
  unfold isW
  rw [e1, kn_3]
  refine ⟨fun h => ?_, fun h => ⟨?_, fun j hj => ?_⟩⟩
  · have := h.2 0 (by omega)
    rw [Nat.add_zero, e2] at this
    exact this
  · have k3 := (kn_3 _).mpr h
    have hs : s < n := by
      refine Nat.lt_of_not_le (fun q => ?_)
      rw [kn_n q] at k3
      omega
    unfold tE
    rw [if_neg (by omega), if_pos hs]
    omega
  · obtain rfl : j = 0 := by omega
    rw [Nat.add_zero, e2]
    exact h
theorem MUST (hT : TXc T n b) (h : PRP R mp n b) : ∃ R' mp', f2_readSemicolon T R = some R' ∧ f10_must mp 19 = some mp' ∧ PRP R' mp' n b ∧ MP_length mp' = MP_length mp ∧ (RR_errorCode R' = 0 → RR_errorCode R = 0) := by
  rcases h with ⟨s, h⟩ | h
  · have h' := h
    obtain ⟨g1, g2, g3, g4, g5, g6, g7⟩ := h'
    have hkl := kn_le (chr n b s)
    obtain ⟨r, e, p1, p2⟩ := M_isWord g3 g1 g4 (i := 19) (by omega) (len_ok 19 (by omega))
    rw [semi_iff] at p1 p2
    unfold f2_readSemicolon f10_must
    rw [if_pos g5, e, sbind]
    by_cases hk : kn (chr n b s) = 3
    · obtain ⟨R', mp', a1, a2, a3, a4⟩ := go_on hT h
      rw [if_pos (show RR_kind R = 3 by rw [g2.2.2.1, hk]; rfl), a1, sbind, p1 hk, if_neg one_ne, a2, sbind]
      exact ⟨R', mp', rfl, rfl, Or.inl ⟨_, a3⟩, a4, fun _ => g5⟩
    · obtain ⟨R2, mp2, a1, a2, a3, a4⟩ := err_now (R' := R) h (c := 1) (by omega) g5
      rw [if_neg (show ¬ (RR_kind R = 3) from fun z => hk (by
        have z2 : i4 (kn (chr n b s)) = (3 : Int32) := g2.2.2.1.symm.trans z
        exact (i4_eq (b := 3) (by omega) (by omega)).mp z2)), g2.1, show f2_fail R 1 (i4 s) = _ from a1, sbind, p2 hk, if_pos rfl, show f10_wrong mp 1 = _ from a2, sbind, M_goOn_e a3, sbind]
      exact ⟨R2, mp2, rfl, rfl, Or.inr a3, a4, fun z => absurd z (err_ne a3).1⟩
  · obtain ⟨r, e⟩ := M_word_e h (i := 19) (by omega)
    refine ⟨R, mp, ?_, ?_, Or.inr h, rfl, fun z => z⟩
    · unfold f2_readSemicolon
      rw [if_neg (err_ne h).1]
    · unfold f10_must
      rw [e, sbind, M_wrong_e h, sbind, M_goOn_e h, sbind]
      split <;> rfl
end MU2
