/-! the test's turn, the undo's turn -/
theorem tt_cases (x : Int32) : (∃ n, n < 1000 ∧ x = i4 n ∧ f9_isTestTicks x = some 1 ∧ f10_isTestTicks x = some 1) ∨ (f9_isTestTicks x = some 0 ∧ f10_isTestTicks x = some 0) := by
  have e2 : (2 : Int64).toInt = 2 := by decide
  have e998 : (998 : Int64).toInt = 998 := by decide
  rcases ticks_cases x with ⟨n, h1, h2, rfl⟩ | h
  · have em : i4 n - i4 n / 2 * 2 = i4 (n % 2) := i4_mod (b := 2) (by omega) (by omega)
    have ec : f9_isTestTicks (i4 n) = if i4 (n % 2) = 0 then some 1 else some 0 := by
      unfold f9_isTestTicks
      rw [C_isTicks_y h1 h2, sbind, if_neg one_ne, em]
    by_cases hm : n % 2 = 0
    · refine Or.inl ⟨n, by omega, rfl, ?_, ?_⟩
      · rw [ec, hm]; rfl
      · unfold f10_isTestTicks
        rw [M_in_y (by rw [e2, i4_toInt (by omega)]; omega) (by rw [e998, i4_toInt (by omega)]; omega), sbind, if_neg one_ne, em, hm]
        rfl
    · have hne : ¬ (i4 (n % 2) = 0) := fun q => hm ((i4_eq (b := 0) (by omega) (by omega)).mp q)
      refine Or.inr ⟨?_, ?_⟩
      · rw [ec, if_neg hne]
      · unfold f10_isTestTicks
        by_cases hr : 2 ≤ n ∧ n ≤ 998
        · rw [M_in_y (by rw [e2, i4_toInt (by omega)]; omega) (by rw [e998, i4_toInt (by omega)]; omega), sbind, if_neg one_ne, em, if_neg hne]
        · rw [M_in_n (by rw [e2, e998, i4_toInt (by omega)]; omega), sbind, if_pos rfl]
  · refine Or.inr ⟨?_, ?_⟩
    · unfold f9_isTestTicks
      rw [C_isTicks_n h, sbind, if_pos rfl]
    · unfold f10_isTestTicks
      rw [M_in_n (by rw [e2, e998]; omega), sbind, if_pos rfl]
section CH2
variable {a : AS} {d : AD} {lY : LL} {tp : TP} {st : Fin 12 → SS} {w aside : Nat → Int64} {mu : MU} {th : Int32} {ou : Nat → Int64}
theorem S_test (hI : INVd a d lY tp st w mu) (x y : Int32) : ∃ r1 r2, fL_test lY tp st ou x y = some r1 ∧ f10_test w aside mu th x y = some r2 ∧ GOODc a lY r1 r2 := by
  have hI' := hI
  obtain ⟨⟨hW, hD, hL, hS⟩, hA, hB, -⟩ := hI'
  have hN := hW.1
  rcases in_cases x (AS_nC a) with ⟨v, hv, hv2, rfl⟩ | hx
  · rcases tt_cases y with ⟨n, hn, rfl, t1, t2⟩ | ⟨t1, t2⟩
    · obtain ⟨r, s1, s2, s3⟩ := C_shut hW hL hS hv
      obtain ⟨r', m1, m2, m3⟩ := M_alone hW hA hB hv
      by_cases hq : aln a d v
      · rw [s2 hq] at s1
        rw [m2 hq] at m1
        obtain ⟨S0, e0, r0⟩ := C_begin hI
        obtain ⟨S1, e1, hS'⟩ := C_test hW hD hL r0 hv hn
        obtain ⟨w1, e2, hA', hB'⟩ := M_test hW hD hA hB hv hn
        have hD' := WF_tst hW hD v n
        obtain ⟨tp', mu', k1, k2, k3, k4⟩ := KEEP hI hD' hS' hA' hB' (fun k hk => cp256_lt w aside hk)
        refine YES_c k4 (v := i4 (tst1 a d v n)) (ou := ou) (aside' := cp256 w aside) ?_ ?_
        · unfold fL_test f9_test
          rw [C_hasC_y hW hL hv, sbind, if_neg one_ne, t1, sbind, if_neg one_ne, s1, sbind, if_neg one_ne, e0, sbind, uF_self, e1, sbind, k1, sbind, uF_two]
          rfl
        · unfold f10_test
          rw [M_isC_y hW hA hv, sbind, fails_y, sbind]
          dsimp only
          rw [if_pos rfl, t2, sbind, fails_y, sbind]
          dsimp only
          rw [if_pos rfl, m1, sbind, fails_y, sbind]
          dsimp only
          rw [if_pos rfl, M_remember k3, sbind, e2, sbind]
      · rw [s3 hq] at s1
        rw [m3 hq] at m1
        refine NO_c 3 (by decide) hI (ou := ou) (aside' := aside) ?_ ?_
        · unfold fL_test f9_test
          rw [C_hasC_y hW hL hv, sbind, if_neg one_ne, t1, sbind, if_neg one_ne, s1, sbind, if_pos rfl]
          rfl
        · unfold f10_test
          rw [M_isC_y hW hA hv, sbind, fails_y, sbind]
          dsimp only
          rw [if_pos rfl, t2, sbind, fails_y, sbind]
          dsimp only
          rw [if_pos rfl, m1, sbind, fails_n, sbind]
          dsimp only
          rw [if_neg one_ne]
    · refine NO_c 2 (by decide) hI (ou := ou) (aside' := aside) ?_ ?_
      · unfold fL_test f9_test
        rw [C_hasC_y hW hL hv, sbind, if_neg one_ne, t1, sbind, if_pos rfl]
        rfl
      · unfold f10_test
        rw [M_isC_y hW hA hv, sbind, fails_y, sbind]
        dsimp only
        rw [if_pos rfl, t2, sbind, fails_n, sbind]
        dsimp only
        rw [if_neg one_ne]
  · refine NO_c 1 (by decide) hI (ou := ou) (aside' := aside) ?_ ?_
    · unfold fL_test f9_test
      rw [C_hasC_n hW hL hx, sbind, if_pos rfl]
      rfl
    · unfold f10_test
      rw [M_isC_n hW hA hx, sbind, fails_n, sbind]
      dsimp only
      rw [if_neg one_ne]
theorem M_undo30 {c : Nat} (hc : c < 10) {mu : MU} (hm : MU_pastCount mu = i4 c) (th : Int32) : ∀ (n i fu : Nat) (w : Nat → Int64), i + n = 256 → n < fu →
    ∃ w', f10_undo_B30 fu w mu th (i4 i) = some (i4 c, w', mu, th) ∧ ∀ k, w' k = if i ≤ k ∧ k < 256 then MU_past mu (256 * c + k) else w k := by
  intro n
  induction n with
  | zero =>
    intro i fu w hi hf
    obtain ⟨k, rfl, -⟩ := fuS hf
    rw [f10_undo_B30, if_pos (show (256 : Int32) ≤ i4 i from (i4_le (a := 256) (by omega) (by omega)).mpr (by omega)), hm]
    exact ⟨w, rfl, fun k => by rw [if_neg (by omega)]⟩
  | succ n ih =>
    intro i fu w hi hf
    obtain ⟨k, rfl, -⟩ := fuS hf
    rw [f10_undo_B30, if_neg (show ¬ ((256 : Int32) ≤ i4 i) from fun h => by have := (i4_le (a := 256) (by omega) (by omega)).mp h; omega), hm, show (256 : Int32) * i4 c + i4 i = i4 (256 * c + i) by rw [show (256 : Int32) = i4 256 from rfl, i4_mul, i4_add], gdi _ (by omega) (by omega), gdi _ (by omega) (by omega), ix4 (by omega), ix4 (by omega), ad1]
    obtain ⟨w', e, h⟩ := ih (i + 1) k (vp_updL w i (MU_past mu (256 * c + i))) (by omega) (by omega)
    refine ⟨w', e, fun q => ?_⟩
    rw [h]
    by_cases h1 : q = i
    · rw [if_neg (by omega), if_pos (by omega), h1, updL_self]
    · rw [updL_ne _ _ h1]
      by_cases h2 : i ≤ q ∧ q < 256
      · rw [if_pos (by omega), if_pos h2]
      · rw [if_neg (by omega), if_neg h2]
theorem S_undo (hI : INVd a d lY tp st w mu) : ∃ r1 r2, fL_undo tp ou = some r1 ∧ f10_undo w mu th = some r2 ∧ r2.2.2.2 = r1.1 ∧ (r1.1 = 0 → r1.2.2 (ix 0) = r2.1.toInt64) ∧ ∃ d', INVd a d' lY r1.2.1 st r2.2.1 r2.2.2.1 := by
  obtain ⟨⟨hW, hD, hL, hS⟩, hA, hB, h8, ⟨hT1, hT2, hT3⟩, cnt, np, u1, u2, u3, u4, u5, u6⟩ := hI
  have FU4 := FU_eq
  by_cases h0 : cnt = 0
  · refine ⟨(1, tp, ou), (0, w, mu, 1), ?_, ?_, rfl, fun h => absurd h one_ne, d, ⟨hW, hD, hL, hS⟩, hA, hB, h8, ⟨hT1, hT2, hT3⟩, cnt, np, u1, u2, u3, u4, u5, u6⟩
    · unfold fL_undo f9_undo
      rw [u3, h0, if_pos (show i4 0 = (0 : Int32) from rfl)]
      rfl
    · unfold f10_undo
      rw [u4, h0, if_pos (show i4 0 = (0 : Int32) from rfl)]
      rfl
  · have hne : ¬ (i4 cnt = (0 : Int32)) := fun q => h0 ((i4_eq (b := 0) (by omega) (by omega)).mp q)
    have hc1 : i4 cnt - 1 = i4 (cnt - 1) := i4_sub (b := 1) (by omega)
    obtain ⟨w', e, hw⟩ := M_undo30 (c := cnt - 1) (mu := MU_set_pastCount mu (i4 (cnt - 1))) (by omega) rfl 0 256 0 FU w (by omega) (by omega)
    have hnp : i4 np + 10 - 1 - (i4 np + 10 - 1) / 10 * 10 = i4 ((np + 9) % 10) := by
      rw [show i4 np + 10 = i4 (np + 10) from i4_add np 10, show i4 (np + 10) - 1 = i4 (np + 9) from i4_sub (b := 1) (by omega)]
      exact i4_mod (b := 10) (by omega) (by omega)
    have hn9 : (np + 9) % 10 < 10 := by omega
    refine ⟨(0, (TP_past tp ((np + 9) % 10), TP_tr tp, updN (TP_past tp) ((np + 9) % 10) (TP_pr tp), i4 ((np + 9) % 10), i4 (cnt - 1)), vp_updL ou (ix 0) (i4 (cnt - 1)).toInt64), (i4 (cnt - 1), w', MU_set_pastCount mu (i4 (cnt - 1)), 0), ?_, ?_, rfl, fun _ => show vp_updL ou (ix 0) (i4 (cnt - 1)).toInt64 (ix 0) = (i4 (cnt - 1)).toInt64 from updL_self _ _ _, ?_⟩
    · unfold fL_undo f9_undo
      rw [u3, u5, hnp, hc1, if_neg hne, gdi _ hn9 (by omega), ix4 (by omega)]
      rfl
    · unfold f10_undo
      rw [u4, hc1, if_neg hne]
      exact e
    · obtain ⟨dk, k1, k2, k3, k4⟩ := u6 0 (by omega)
      have ew : ∀ k, k < 256 → w' k = MU_past mu (256 * (cnt - 1 - 0) + k) := fun k hk => by
        rw [hw, if_pos (by omega)]
        rfl
      refine ⟨dk, ⟨hW, k1, hL, ?_⟩, RMs_256 hW k3 ew, RMd_256 hW k1 k4 ew, h8, ⟨(hT2 _ hn9).2, fun k hk => ?_, fun k j hk hj hkj => ?_⟩, cnt - 1, (np + 9) % 10, by omega, hn9, rfl, rfl, rfl, fun k hk => ?_⟩
      · exact k2
      · show updN (TP_past tp) ((np + 9) % 10) (TP_pr tp) k ≠ TP_past tp ((np + 9) % 10) ∧ updN (TP_past tp) ((np + 9) % 10) (TP_pr tp) k ≠ TP_tr tp
        by_cases h : k = (np + 9) % 10
        · rw [h, updN_self]
          exact ⟨(hT2 _ hn9).1.symm, hT1⟩
        · rw [updN_ne _ _ h]
          exact ⟨hT3 k _ hk hn9 h, (hT2 k hk).2⟩
      · show updN (TP_past tp) ((np + 9) % 10) (TP_pr tp) k ≠ updN (TP_past tp) ((np + 9) % 10) (TP_pr tp) j
        by_cases h : k = (np + 9) % 10
        · rw [h, updN_self, updN_ne _ _ (by omega)]
          exact (hT2 j hj).1.symm
        · rw [updN_ne _ _ h]
          by_cases h2 : j = (np + 9) % 10
          · rw [h2, updN_self]
            exact (hT2 k hk).1
          · rw [updN_ne _ _ h2]
            exact hT3 k j hk hj hkj
      · obtain ⟨dj, j1, j2, j3, j4⟩ := u6 (k + 1) (by omega)
        have em : ∀ i, i < 256 → MU_past mu (256 * (cnt - 1 - 1 - k) + i) = MU_past mu (256 * (cnt - 1 - (k + 1)) + i) := fun i _ => by
          rw [show cnt - 1 - 1 - k = cnt - 1 - (k + 1) by omega]
        refine ⟨dj, j1, ?_, RMs_256 hW j3 em, RMd_256 hW j1 j4 em⟩
        show RCd a dj (st (updN (TP_past tp) ((np + 9) % 10) (TP_pr tp) (((np + 9) % 10 + 9 - k) % 10)))
        rw [show ((np + 9) % 10 + 9 - k) % 10 = (np + 9 - (k + 1)) % 10 by omega, updN_ne _ _ (by omega)]
        exact j2
theorem S_undoDepth (hI : INVd a d lY tp st w mu) : ∃ r1 r2, f9_undoDepth tp = some r1 ∧ f10_undoDepth mu th = some r2 ∧ r1 = r2.1 := by
  obtain ⟨-, -, -, -, -, cnt, np, u1, u2, u3, u4, u5, u6⟩ := hI
  exact ⟨_, _, rfl, rfl, u3.trans u4.symm⟩
end CH2
