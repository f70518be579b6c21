/-! the plain questions -/
theorem M_inN {q N : Nat} (hq : q ≤ N) (hN : N < 1000000) : f10_in (i4 q).toInt64 0 (i8 N) = some 1 :=
  M_in_y (by rw [z8, i4_toInt (by omega)]; omega) (by rw [i8_toInt (by omega), i4_toInt (by omega)]; omega)
theorem M_inN_n {x : Int32} {N : Nat} (hN : N < 1000000) (h : ¬ (0 ≤ x.toInt ∧ x.toInt ≤ N)) : f10_in x.toInt64 0 (i8 N) = some 0 :=
  M_in_n (by rw [z8, i8_toInt (by omega)]; exact h)
theorem ne_k {x : Int32} {N : Nat} (h : ¬ (0 ≤ x.toInt ∧ x.toInt ≤ N)) (k : Nat) (hk : k ≤ N) (hN : N < 1000000) : ¬ (x = i4 k) := fun e => h (by rw [e, i4_toInt (by omega)]; omega)
def GOODv (r1 : Int32 × (Nat → Int64)) (r2 : Int32 × (Int32)) : Prop := r2.2 = r1.1 ∧ (r1.1 = 0 → r1.2 (ix 0) = r2.1.toInt64)
section QU
variable {a : AS} {d : AD} {lY : LL} {tp : TP} {st : Fin 12 → SS} {w aside : Nat → Int64} {mu : MU} {th : Int32} {ou : Nat → Int64}
theorem NO_v {X1 : Option (Int32 × (Nat → Int64))} {X2 : Option (Int32 × (Int32))} (c : Int32) (hc : c ≠ 0) (h1 : X1 = some (c, ou)) (h2 : X2 = some (0, c)) : ∃ r1 r2, X1 = some r1 ∧ X2 = some r2 ∧ GOODv r1 r2 :=
  ⟨_, _, h1, h2, rfl, fun h => absurd h hc⟩
theorem YES_v {X1 : Option (Int32 × (Nat → Int64))} {X2 : Option (Int32 × (Int32))} (v : Int32) (h1 : X1 = some (0, vp_updL ou (ix 0) v.toInt64)) (h2 : X2 = some (v, 0)) : ∃ r1 r2, X1 = some r1 ∧ X2 = some r2 ∧ GOODv r1 r2 :=
  ⟨_, _, h1, h2, rfl, fun _ => show vp_updL ou (ix 0) v.toInt64 (ix 0) = v.toInt64 from updL_self _ _ _⟩
theorem C_sum_vt {S : SS} (hW : WFs a) (hD : WFd a d) (hS : RCd a d S) : f9_sum_vt S (i4 (AS_nV a)) = some (AD_vTs d).toInt32 := by
  have hN := hW.1
  have := FU_eq
  have key : ∀ (n v fu : Nat), v + n = AS_nV a → n < fu → f9_sum_vt_B4 S fu (i4 (AS_nV a)) (sum8 (AD_vT d) v).toInt32 (i4 v) = some (sum8 (AD_vT d) (AS_nV a)).toInt32 := by
    intro n
    induction n with
    | zero =>
      intro v fu hv hf
      obtain ⟨k, rfl, -⟩ := fuS hf
      rw [f9_sum_vt_B4, if_pos ((i4_le (by omega) (by omega)).mpr (by omega)), show v = AS_nV a by omega]
    | succ n ih =>
      intro v fu hv hf
      obtain ⟨k, rfl, -⟩ := fuS hf
      rw [f9_sum_vt_B4, if_neg (fun h => by have := (i4_le (by omega) (by omega)).mp h; omega), if_neg (show ¬ ((10 : Int32) ≤ i4 v) from fun h => by have := (i4_le (a := 10) (by omega) (by omega)).mp h; omega), gdi _ (by omega) (by omega), ix4 (by omega), (hS.2.2.2.2.2.1 v (by omega)).2, ← Int64.toInt32_add, ad1]
      exact ih (v + 1) k (by omega) (by omega)
  rw [← hD.2.2.2.2.1]
  exact key (AS_nV a) 0 FU (by omega) (by omega)
theorem C_sum_pt {S : SS} (hW : WFs a) (hD : WFd a d) (hS : RCd a d S) : f9_sum_pt S (i4 (AS_nP a)) = some (AD_pTs d).toInt32 := by
  have hN := hW.1
  have := FU_eq
  have key : ∀ (n v fu : Nat), v + n = AS_nP a → n < fu → f9_sum_pt_B4 S fu (i4 (AS_nP a)) (sum8 (AD_pT d) v).toInt32 (i4 v) = some (sum8 (AD_pT d) (AS_nP a)).toInt32 := by
    intro n
    induction n with
    | zero =>
      intro v fu hv hf
      obtain ⟨k, rfl, -⟩ := fuS hf
      rw [f9_sum_pt_B4, if_pos ((i4_le (by omega) (by omega)).mpr (by omega)), show v = AS_nP a by omega]
    | succ n ih =>
      intro v fu hv hf
      obtain ⟨k, rfl, -⟩ := fuS hf
      rw [f9_sum_pt_B4, if_neg (fun h => by have := (i4_le (by omega) (by omega)).mp h; omega), if_neg (show ¬ ((6 : Int32) ≤ i4 v) from fun h => by have := (i4_le (a := 6) (by omega) (by omega)).mp h; omega), gdi _ (by omega) (by omega), ix4 (by omega), (hS.2.2.2.2.2.2.1 v (by omega)).2, ← Int64.toInt32_add, ad1]
      exact ih (v + 1) k (by omega) (by omega)
  rw [← hD.2.2.2.2.2]
  exact key (AS_nP a) 0 FU (by omega) (by omega)
theorem told_m4 (e : Nat) (he : e = 8 ∨ e < 8) : f9_told (i4 e) = some (m4 e) := by
  unfold f9_told
  by_cases h : e = 8
  · subst h; rfl
  · rw [m4_lt h, if_neg (show ¬ (i4 e = (8 : Int32)) from fun q => h ((i4_eq (b := 8) (by omega) (by omega)).mp q))]
theorem S_count (hI : INVd a d lY tp st w mu) (x : Int32) : ∃ r1 r2, fL_count lY tp st ou x = some r1 ∧ f10_count w th x = some r2 ∧ GOODv r1 r2 := by
  obtain ⟨⟨hW, hD, hL, hS⟩, hA, hB, -⟩ := hI
  have hN := hW.1
  rcases upto_cases x 7 with ⟨q, hq, hq2, rfl⟩ | hx
  · have M : ∀ k, k ≤ 7 → f10_count w th (i4 k) = some ((w k).toInt32, 0) := fun k hk => by
      unfold f10_count
      rw [show f10_in (i4 k).toInt64 0 7 = some 1 from M_inN (N := 7) hk (by omega), sbind, fails_y, sbind]
      dsimp only
      rw [if_pos rfl, M_many w (by omega), sbind]
    rcases (show q = 0 ∨ q = 1 ∨ q = 2 ∨ q = 3 ∨ q = 4 ∨ q = 5 ∨ q = 6 ∨ q = 7 by omega) with rfl | rfl | rfl | rfl | rfl | rfl | rfl | rfl
    · refine YES_v (ou := ou) (i4 (AS_nC a)) ?_ ?_
      · unfold fL_count f9_count
        rw [if_pos (show i4 0 = (0 : Int32) from rfl), hL.1.1]
        rfl
      · rw [M 0 (by omega), hA.1.1, i8_to4]
    · refine YES_v (ou := ou) (i4 (AS_nP a)) ?_ ?_
      · unfold fL_count f9_count
        rw [if_neg (by decide), if_pos (show i4 1 = (1 : Int32) from rfl), hL.1.2.1]
        rfl
      · rw [M 1 (by omega), hA.1.2.1, i8_to4]
    · refine YES_v (ou := ou) (i4 (AS_nV a)) ?_ ?_
      · unfold fL_count f9_count
        rw [if_neg (by decide), if_neg (by decide), if_pos (show i4 2 = (2 : Int32) from rfl), hL.1.2.2.1]
        rfl
      · rw [M 2 (by omega), hA.1.2.2.1, i8_to4]
    · refine YES_v (ou := ou) (i4 (AS_nF a)) ?_ ?_
      · unfold fL_count f9_count
        rw [if_neg (by decide), if_neg (by decide), if_neg (by decide), if_pos (show i4 3 = (3 : Int32) from rfl), hL.1.2.2.2]
        rfl
      · rw [M 3 (by omega), hA.1.2.2.2, i8_to4]
    · refine YES_v (ou := ou) ((AD_tm d).toInt32) ?_ ?_
      · unfold fL_count f9_count
        rw [if_neg (by decide), if_neg (by decide), if_neg (by decide), if_neg (by decide), if_pos (show i4 4 = (4 : Int32) from rfl), hS.1]
        rfl
      · rw [M 4 (by omega), hB.1.1]
    · refine YES_v (ou := ou) ((AD_vTs d).toInt32) ?_ ?_
      · unfold fL_count f9_count
        rw [if_neg (by decide), if_neg (by decide), if_neg (by decide), if_neg (by decide), if_neg (by decide), if_pos (show i4 5 = (5 : Int32) from rfl), hL.1.2.2.1, C_sum_vt hW hD hS]
        rfl
      · rw [M 5 (by omega), hB.1.2.1]
    · refine YES_v (ou := ou) ((AD_pTs d).toInt32) ?_ ?_
      · unfold fL_count f9_count
        rw [if_neg (by decide), if_neg (by decide), if_neg (by decide), if_neg (by decide), if_neg (by decide), if_neg (by decide), if_pos (show i4 6 = (6 : Int32) from rfl), hL.1.2.1, C_sum_pt hW hD hS]
        rfl
      · rw [M 6 (by omega), hB.1.2.2.1]
    · refine YES_v (ou := ou) (i4 (AD_kt d)) ?_ ?_
      · unfold fL_count f9_count
        rw [if_neg (by decide), if_neg (by decide), if_neg (by decide), if_neg (by decide), if_neg (by decide), if_neg (by decide), if_neg (by decide), if_pos (show i4 7 = (7 : Int32) from rfl), hS.2.2.2.2.2.2.2.1]
        rfl
      · rw [M 7 (by omega), hB.1.2.2.2, i8_to4]
  · refine NO_v (ou := ou) 1 (by decide) ?_ ?_
    · unfold fL_count f9_count
      rw [if_neg (show ¬ (x = (0 : Int32)) from ne_k hx 0 (by omega) (by omega)), if_neg (show ¬ (x = (1 : Int32)) from ne_k hx 1 (by omega) (by omega)), if_neg (show ¬ (x = (2 : Int32)) from ne_k hx 2 (by omega) (by omega)), if_neg (show ¬ (x = (3 : Int32)) from ne_k hx 3 (by omega) (by omega)), if_neg (show ¬ (x = (4 : Int32)) from ne_k hx 4 (by omega) (by omega)), if_neg (show ¬ (x = (5 : Int32)) from ne_k hx 5 (by omega) (by omega)), if_neg (show ¬ (x = (6 : Int32)) from ne_k hx 6 (by omega) (by omega)), if_neg (show ¬ (x = (7 : Int32)) from ne_k hx 7 (by omega) (by omega))]
      rfl
    · unfold f10_count
      rw [show f10_in x.toInt64 0 7 = some 0 from M_inN_n (N := 7) (by omega) hx, sbind, fails_n, sbind]
      dsimp only
      rw [if_neg one_ne]
theorem S_chamber (hI : INVd a d lY tp st w mu) (x y : Int32) : ∃ r1 r2, fL_chamber lY tp st ou x y = some r1 ∧ f10_chamber w th x y = some r2 ∧ GOODv r1 r2 := by
  obtain ⟨⟨hW, hD, hL, hS⟩, hA, hB, -⟩ := hI
  have hN := hW.1
  rcases in_cases x (AS_nC a) with ⟨v, hv, hv2, rfl⟩ | hx
  · obtain ⟨e1, e2⟩ := hL.2.1 v hv
    obtain ⟨g1, g2⟩ := hA.2.1 v hv
    rcases upto_cases y 6 with ⟨q, hq, hq2, rfl⟩ | hy
    · rcases (show q = 0 ∨ q = 1 ∨ q = 2 ∨ q = 3 ∨ q = 4 ∨ q = 5 ∨ q = 6 by omega) with rfl | rfl | rfl | rfl | rfl | rfl | rfl
      · refine YES_v (ou := ou) (i4 (AS_vol a v)) ?_ ?_
        · unfold fL_chamber f9_chamber
          rw [C_hasC_y hW hL hv, sbind, if_neg one_ne, if_pos (show i4 0 = (0 : Int32) from rfl), gdi _ (by omega) (by omega), ix4 (by omega), e1]
          rfl
        · unfold f10_chamber
          rw [M_isC_y hW hA hv, sbind, fails_y, sbind]
          dsimp only
          rw [if_pos rfl, show f10_in (i4 0).toInt64 0 6 = some 1 from M_inN (N := 6) (by omega) (by omega), sbind, fails_y, sbind]
          dsimp only
          rw [if_pos rfl, if_neg (by decide), if_neg (by decide), if_neg (by decide), if_neg (by decide), at_c, sbind, show i4 (8 + 4 * v) + i4 0 = i4 (8 + 4 * v + 0) from i4_add _ _, gdi _ (by omega) (by omega), ix4 (by omega), (show w (8 + 4 * v + 0) = i8 (AS_vol a v) from g1), i8_to4]
      · refine YES_v (ou := ou) (i4 (AD_oug d v)) ?_ ?_
        · unfold fL_chamber f9_chamber
          rw [C_hasC_y hW hL hv, sbind, if_neg one_ne, if_neg (by decide), if_pos (show i4 1 = (1 : Int32) from rfl), gdi _ (by omega) (by omega), ix4 (by omega), hS.2.2.1 v hv]
          rfl
        · unfold f10_chamber
          rw [M_isC_y hW hA hv, sbind, fails_y, sbind]
          dsimp only
          rw [if_pos rfl, show f10_in (i4 1).toInt64 0 6 = some 1 from M_inN (N := 6) (by omega) (by omega), sbind, fails_y, sbind]
          dsimp only
          rw [if_pos rfl, if_neg (by decide), if_neg (by decide), if_neg (by decide), if_neg (by decide), at_c, sbind, show i4 (8 + 4 * v) + i4 1 = i4 (8 + 4 * v + 1) from i4_add _ _, gdi _ (by omega) (by omega), ix4 (by omega), (hB.2.1 v hv).1, i8_to4]
      · refine YES_v (ou := ou) (i4 (AS_dec a v)) ?_ ?_
        · unfold fL_chamber f9_chamber
          rw [C_hasC_y hW hL hv, sbind, if_neg one_ne, if_neg (by decide), if_neg (by decide), if_pos (show i4 2 = (2 : Int32) from rfl), gdi _ (by omega) (by omega), ix4 (by omega), e2]
          rfl
        · unfold f10_chamber
          rw [M_isC_y hW hA hv, sbind, fails_y, sbind]
          dsimp only
          rw [if_pos rfl, show f10_in (i4 2).toInt64 0 6 = some 1 from M_inN (N := 6) (by omega) (by omega), sbind, fails_y, sbind]
          dsimp only
          rw [if_pos rfl, if_neg (by decide), if_neg (by decide), if_neg (by decide), if_neg (by decide), at_c, sbind, show i4 (8 + 4 * v) + i4 2 = i4 (8 + 4 * v + 2) from i4_add _ _, gdi _ (by omega) (by omega), ix4 (by omega), g2, i8_to4]
      · refine YES_v (ou := ou) (i4 (prz a d v)) ?_ ?_
        · unfold fL_chamber f9_chamber
          rw [C_hasC_y hW hL hv, sbind, if_neg one_ne, if_neg (by decide), if_neg (by decide), if_neg (by decide), if_pos (show i4 3 = (3 : Int32) from rfl), gdi _ (by omega) (by omega), ix4 (by omega), C_pr hS (Or.inr hv)]
          rfl
        · unfold f10_chamber
          rw [M_isC_y hW hA hv, sbind, fails_y, sbind]
          dsimp only
          rw [if_pos rfl, show f10_in (i4 3).toInt64 0 6 = some 1 from M_inN (N := 6) (by omega) (by omega), sbind, fails_y, sbind]
          dsimp only
          rw [if_pos rfl, if_pos (show i4 3 = (3 : Int32) from rfl), M_prc hW hD hA hB hv, sbind, i8_to4]
      · refine YES_v (ou := ou) (i4 (lks a d v)) ?_ ?_
        · unfold fL_chamber f9_chamber
          rw [C_hasC_y hW hL hv, sbind, if_neg one_ne, if_neg (by decide), if_neg (by decide), if_neg (by decide), if_neg (by decide), if_pos (show i4 4 = (4 : Int32) from rfl), gdi _ (by omega) (by omega), ix4 (by omega), hS.2.2.2.1.1 v hv]
          rfl
        · unfold f10_chamber
          rw [M_isC_y hW hA hv, sbind, fails_y, sbind]
          dsimp only
          rw [if_pos rfl, show f10_in (i4 4).toInt64 0 6 = some 1 from M_inN (N := 6) (by omega) (by omega), sbind, fails_y, sbind]
          dsimp only
          rw [if_pos rfl, if_neg (by decide), if_pos (show i4 4 = (4 : Int32) from rfl), M_leaks hW hD hA hB (by omega), sbind, i8_to4]
      · refine YES_v (ou := ou) (mskN (touV a v) (AS_nV a)) ?_ ?_
        · unfold fL_chamber f9_chamber
          rw [C_hasC_y hW hL hv, sbind, if_neg one_ne, if_neg (by decide), if_neg (by decide), if_neg (by decide), if_neg (by decide), if_neg (by decide), if_pos (show i4 5 = (5 : Int32) from rfl), C_valvesOf hW hL hv]
          rfl
        · unfold f10_chamber
          rw [M_isC_y hW hA hv, sbind, fails_y, sbind]
          dsimp only
          rw [if_pos rfl, show f10_in (i4 5).toInt64 0 6 = some 1 from M_inN (N := 6) (by omega) (by omega), sbind, fails_y, sbind]
          dsimp only
          rw [if_pos rfl, if_neg (by decide), if_neg (by decide), if_pos (show i4 5 = (5 : Int32) from rfl), M_valvesOf hW hA hv, sbind]
      · refine YES_v (ou := ou) (mskN (touP a v) (AS_nP a)) ?_ ?_
        · unfold fL_chamber f9_chamber
          rw [C_hasC_y hW hL hv, sbind, if_neg one_ne, if_neg (by decide), if_neg (by decide), if_neg (by decide), if_neg (by decide), if_neg (by decide), if_neg (by decide), if_pos (show i4 6 = (6 : Int32) from rfl), C_pumpsOf hW hL hv]
          rfl
        · unfold f10_chamber
          rw [M_isC_y hW hA hv, sbind, fails_y, sbind]
          dsimp only
          rw [if_pos rfl, show f10_in (i4 6).toInt64 0 6 = some 1 from M_inN (N := 6) (by omega) (by omega), sbind, fails_y, sbind]
          dsimp only
          rw [if_pos rfl, if_neg (by decide), if_neg (by decide), if_neg (by decide), if_pos (show i4 6 = (6 : Int32) from rfl), M_pumpsOf hW hA hv, sbind]
    · refine NO_v (ou := ou) 2 (by decide) ?_ ?_
      · unfold fL_chamber f9_chamber
        rw [C_hasC_y hW hL hv, sbind, if_neg one_ne, if_neg (show ¬ (y = (0 : Int32)) from ne_k hy 0 (by omega) (by omega)), if_neg (show ¬ (y = (1 : Int32)) from ne_k hy 1 (by omega) (by omega)), if_neg (show ¬ (y = (2 : Int32)) from ne_k hy 2 (by omega) (by omega)), if_neg (show ¬ (y = (3 : Int32)) from ne_k hy 3 (by omega) (by omega)), if_neg (show ¬ (y = (4 : Int32)) from ne_k hy 4 (by omega) (by omega)), if_neg (show ¬ (y = (5 : Int32)) from ne_k hy 5 (by omega) (by omega)), if_neg (show ¬ (y = (6 : Int32)) from ne_k hy 6 (by omega) (by omega))]
        rfl
      · unfold f10_chamber
        rw [M_isC_y hW hA hv, sbind, fails_y, sbind]
        dsimp only
        rw [if_pos rfl, show f10_in y.toInt64 0 6 = some 0 from M_inN_n (N := 6) (by omega) hy, sbind, fails_n, sbind]
        dsimp only
        rw [if_neg one_ne]
  · refine NO_v (ou := ou) 1 (by decide) ?_ ?_
    · unfold fL_chamber f9_chamber
      rw [C_hasC_n hW hL hx, sbind, if_pos rfl]
      rfl
    · unfold f10_chamber
      rw [M_isC_n hW hA hx, sbind, fails_n, sbind]
      dsimp only
      rw [if_neg one_ne]
theorem S_pump (hI : INVd a d lY tp st w mu) (x y : Int32) : ∃ r1 r2, fL_pump lY tp st ou x y = some r1 ∧ f10_pump w th x y = some r2 ∧ GOODv r1 r2 := by
  obtain ⟨⟨hW, hD, hL, hS⟩, hA, hB, -⟩ := hI
  have hN := hW.1
  rcases in_cases x (AS_nP a) with ⟨v, hv, hv2, rfl⟩ | hx
  · obtain ⟨h1, h2, h3, h4, h5, h6, h7, h8⟩ := hW.2.2.1 v hv
    obtain ⟨e1, e2, e3, e4, e5, e6⟩ := hL.2.2.1 v hv
    obtain ⟨g1, g2, g3, g4, g5, g6⟩ := hA.2.2.1 v hv
    rcases upto_cases y 7 with ⟨q, hq, hq2, rfl⟩ | hy
    · rcases (show q = 0 ∨ q = 1 ∨ q = 2 ∨ q = 3 ∨ q = 4 ∨ q = 5 ∨ q = 6 ∨ q = 7 by omega) with rfl | rfl | rfl | rfl | rfl | rfl | rfl | rfl
      · refine YES_v (ou := ou) (i4 (AS_pC a v)) ?_ ?_
        · unfold fL_pump f9_pump
          rw [C_hasP_y hW hL hv, sbind, if_neg one_ne, if_pos (show i4 0 = (0 : Int32) from rfl), gdi _ (by omega) (by omega), ix4 (by omega), e1]
          rfl
        · unfold f10_pump
          rw [M_isP_y hW hA hv, sbind, fails_y, sbind]
          dsimp only
          rw [if_pos rfl, show f10_in (i4 0).toInt64 0 7 = some 1 from M_inN (N := 7) (by omega) (by omega), sbind, fails_y, sbind]
          dsimp only
          rw [if_pos rfl, M_ofPump w (j := 0) (by omega), (show w (40 + 8 * v + 0) = i8 (AS_pC a v) from g1), i8_to4, sbind]
      · refine YES_v (ou := ou) (m4 (AS_pE a v)) ?_ ?_
        · unfold fL_pump f9_pump
          rw [C_hasP_y hW hL hv, sbind, if_neg one_ne, if_neg (by decide), if_pos (show i4 1 = (1 : Int32) from rfl), gdi _ (by omega) (by omega), ix4 (by omega), e2, told_m4 _ (by omega)]
          rfl
        · unfold f10_pump
          rw [M_isP_y hW hA hv, sbind, fails_y, sbind]
          dsimp only
          rw [if_pos rfl, show f10_in (i4 1).toInt64 0 7 = some 1 from M_inN (N := 7) (by omega) (by omega), sbind, fails_y, sbind]
          dsimp only
          rw [if_pos rfl, M_ofPump w (j := 1) (by omega), g2, mE_to4, sbind]
      · refine YES_v (ou := ou) (i4 (AS_pS a v)) ?_ ?_
        · unfold fL_pump f9_pump
          rw [C_hasP_y hW hL hv, sbind, if_neg one_ne, if_neg (by decide), if_neg (by decide), if_pos (show i4 2 = (2 : Int32) from rfl), gdi _ (by omega) (by omega), ix4 (by omega), e3]
          rfl
        · unfold f10_pump
          rw [M_isP_y hW hA hv, sbind, fails_y, sbind]
          dsimp only
          rw [if_pos rfl, show f10_in (i4 2).toInt64 0 7 = some 1 from M_inN (N := 7) (by omega) (by omega), sbind, fails_y, sbind]
          dsimp only
          rw [if_pos rfl, M_ofPump w (j := 2) (by omega), g3, i8_to4, sbind]
      · refine YES_v (ou := ou) (i4 (AS_pL a v)) ?_ ?_
        · unfold fL_pump f9_pump
          rw [C_hasP_y hW hL hv, sbind, if_neg one_ne, if_neg (by decide), if_neg (by decide), if_neg (by decide), if_pos (show i4 3 = (3 : Int32) from rfl), gdi _ (by omega) (by omega), ix4 (by omega), e4]
          rfl
        · unfold f10_pump
          rw [M_isP_y hW hA hv, sbind, fails_y, sbind]
          dsimp only
          rw [if_pos rfl, show f10_in (i4 3).toInt64 0 7 = some 1 from M_inN (N := 7) (by omega) (by omega), sbind, fails_y, sbind]
          dsimp only
          rw [if_pos rfl, M_ofPump w (j := 3) (by omega), g4, i8_to4, sbind]
      · refine YES_v (ou := ou) (i4 (AS_pH a v)) ?_ ?_
        · unfold fL_pump f9_pump
          rw [C_hasP_y hW hL hv, sbind, if_neg one_ne, if_neg (by decide), if_neg (by decide), if_neg (by decide), if_neg (by decide), if_pos (show i4 4 = (4 : Int32) from rfl), gdi _ (by omega) (by omega), ix4 (by omega), e5]
          rfl
        · unfold f10_pump
          rw [M_isP_y hW hA hv, sbind, fails_y, sbind]
          dsimp only
          rw [if_pos rfl, show f10_in (i4 4).toInt64 0 7 = some 1 from M_inN (N := 7) (by omega) (by omega), sbind, fails_y, sbind]
          dsimp only
          rw [if_pos rfl, M_ofPump w (j := 4) (by omega), g5, i8_to4, sbind]
      · refine YES_v (ou := ou) (if AS_pE a v = 8 then -1 else i4 (AS_pB a v)) ?_ ?_
        · unfold fL_pump f9_pump
          rw [C_hasP_y hW hL hv, sbind, if_neg one_ne, if_neg (by decide), if_neg (by decide), if_neg (by decide), if_neg (by decide), if_neg (by decide), if_pos (show i4 5 = (5 : Int32) from rfl), gdi _ (by omega) (by omega), ix4 (by omega), e2]
          by_cases h8e : AS_pE a v = 8
          · rw [h8e, if_pos (show i4 8 = (8 : Int32) from rfl), if_pos rfl]
            rfl
          rw [if_neg (show ¬ (i4 (AS_pE a v) = (8 : Int32)) from fun q => h8e ((i4_eq (b := 8) (by omega) (by omega)).mp q)), if_neg h8e, e6 h8e]
          rfl
        · unfold f10_pump
          rw [M_isP_y hW hA hv, sbind, fails_y, sbind]
          dsimp only
          rw [if_pos rfl, show f10_in (i4 5).toInt64 0 7 = some 1 from M_inN (N := 7) (by omega) (by omega), sbind, fails_y, sbind]
          dsimp only
          rw [if_pos rfl, M_ofPump w (j := 5) (by omega), g6, sbind]
          by_cases h8e : AS_pE a v = 8
          · rw [if_pos h8e, if_pos h8e, m1_to4]
          rw [if_neg h8e, if_neg h8e, i8_to4]
      · refine YES_v (ou := ou) (if AD_run d v = true then 1 else 0) ?_ ?_
        · unfold fL_pump f9_pump
          rw [C_hasP_y hW hL hv, sbind, if_neg one_ne, if_neg (by decide), if_neg (by decide), if_neg (by decide), if_neg (by decide), if_neg (by decide), if_neg (by decide), if_pos (show i4 6 = (6 : Int32) from rfl), C_isRunning hW hS hv, sbind, bit01]
          rfl
        · unfold f10_pump
          rw [M_isP_y hW hA hv, sbind, fails_y, sbind]
          dsimp only
          rw [if_pos rfl, show f10_in (i4 6).toInt64 0 7 = some 1 from M_inN (N := 7) (by omega) (by omega), sbind, fails_y, sbind]
          dsimp only
          rw [if_pos rfl, M_ofPump w (j := 6) (by omega), (hB.2.2.1 v hv).1, show (b8 (AD_run d v)).toInt32 = (if AD_run d v = true then (1 : Int32) else 0) by cases AD_run d v <;> rfl, sbind]
      · refine YES_v (ou := ou) ((AD_pT d v).toInt32) ?_ ?_
        · unfold fL_pump f9_pump
          rw [C_hasP_y hW hL hv, sbind, if_neg one_ne, if_neg (by decide), if_neg (by decide), if_neg (by decide), if_neg (by decide), if_neg (by decide), if_neg (by decide), if_neg (by decide), if_pos (show i4 7 = (7 : Int32) from rfl), gdi _ (by omega) (by omega), ix4 (by omega), (hS.2.2.2.2.2.2.1 v hv).2]
          rfl
        · unfold f10_pump
          rw [M_isP_y hW hA hv, sbind, fails_y, sbind]
          dsimp only
          rw [if_pos rfl, show f10_in (i4 7).toInt64 0 7 = some 1 from M_inN (N := 7) (by omega) (by omega), sbind, fails_y, sbind]
          dsimp only
          rw [if_pos rfl, M_ofPump w (j := 7) (by omega), (hB.2.2.1 v hv).2, sbind]
    · refine NO_v (ou := ou) 2 (by decide) ?_ ?_
      · unfold fL_pump f9_pump
        rw [C_hasP_y hW hL hv, sbind, if_neg one_ne, if_neg (show ¬ (y = (0 : Int32)) from ne_k hy 0 (by omega) (by omega)), if_neg (show ¬ (y = (1 : Int32)) from ne_k hy 1 (by omega) (by omega)), if_neg (show ¬ (y = (2 : Int32)) from ne_k hy 2 (by omega) (by omega)), if_neg (show ¬ (y = (3 : Int32)) from ne_k hy 3 (by omega) (by omega)), if_neg (show ¬ (y = (4 : Int32)) from ne_k hy 4 (by omega) (by omega)), if_neg (show ¬ (y = (5 : Int32)) from ne_k hy 5 (by omega) (by omega)), if_neg (show ¬ (y = (6 : Int32)) from ne_k hy 6 (by omega) (by omega)), if_neg (show ¬ (y = (7 : Int32)) from ne_k hy 7 (by omega) (by omega))]
        rfl
      · unfold f10_pump
        rw [M_isP_y hW hA hv, sbind, fails_y, sbind]
        dsimp only
        rw [if_pos rfl, show f10_in y.toInt64 0 7 = some 0 from M_inN_n (N := 7) (by omega) hy, sbind, fails_n, sbind]
        dsimp only
        rw [if_neg one_ne]
  · refine NO_v (ou := ou) 1 (by decide) ?_ ?_
    · unfold fL_pump f9_pump
      rw [C_hasP_n hW hL hx, sbind, if_pos rfl]
      rfl
    · unfold f10_pump
      rw [M_isP_n hW hA hx, sbind, fails_n, sbind]
      dsimp only
      rw [if_neg one_ne]
theorem S_valve (hI : INVd a d lY tp st w mu) (x y : Int32) : ∃ r1 r2, fL_valve lY tp st ou x y = some r1 ∧ f10_valve w th x y = some r2 ∧ GOODv r1 r2 := by
  obtain ⟨⟨hW, hD, hL, hS⟩, hA, hB, -⟩ := hI
  have hN := hW.1
  rcases in_cases x (AS_nV a) with ⟨v, hv, hv2, rfl⟩ | hx
  · obtain ⟨h1, h2, h3, h4, h5⟩ := hW.2.2.2.1 v hv
    obtain ⟨e1, e2, e3⟩ := hL.2.2.2.1 v hv
    obtain ⟨g1, g2, g3⟩ := hA.2.2.2.1 v hv
    rcases upto_cases y 6 with ⟨q, hq, hq2, rfl⟩ | hy
    · rcases (show q = 0 ∨ q = 1 ∨ q = 2 ∨ q = 3 ∨ q = 4 ∨ q = 5 ∨ q = 6 by omega) with rfl | rfl | rfl | rfl | rfl | rfl | rfl
      · refine YES_v (ou := ou) (i4 (AS_vA a v)) ?_ ?_
        · unfold fL_valve f9_valve
          rw [C_hasV_y hW hL hv, sbind, if_neg one_ne, if_pos (show i4 0 = (0 : Int32) from rfl), gdi _ (by omega) (by omega), ix4 (by omega), e1]
          rfl
        · unfold f10_valve
          rw [M_isV_y hW hA hv, sbind, fails_y, sbind]
          dsimp only
          rw [if_pos rfl, show f10_in (i4 0).toInt64 0 6 = some 1 from M_inN (N := 6) (by omega) (by omega), sbind, fails_y, sbind]
          dsimp only
          rw [if_pos rfl, if_neg (by decide), M_ofValve w (j := 0) (by omega), (show w (88 + 6 * v + 0) = i8 (AS_vA a v) from g1), i8_to4, sbind]
      · refine YES_v (ou := ou) (m4 (AS_vB a v)) ?_ ?_
        · unfold fL_valve f9_valve
          rw [C_hasV_y hW hL hv, sbind, if_neg one_ne, if_neg (by decide), if_pos (show i4 1 = (1 : Int32) from rfl), gdi _ (by omega) (by omega), ix4 (by omega), e2, told_m4 _ (by omega)]
          rfl
        · unfold f10_valve
          rw [M_isV_y hW hA hv, sbind, fails_y, sbind]
          dsimp only
          rw [if_pos rfl, show f10_in (i4 1).toInt64 0 6 = some 1 from M_inN (N := 6) (by omega) (by omega), sbind, fails_y, sbind]
          dsimp only
          rw [if_pos rfl, if_neg (by decide), M_ofValve w (j := 1) (by omega), g2, mE_to4, sbind]
      · refine YES_v (ou := ou) (i4 (AS_vG a v)) ?_ ?_
        · unfold fL_valve f9_valve
          rw [C_hasV_y hW hL hv, sbind, if_neg one_ne, if_neg (by decide), if_neg (by decide), if_pos (show i4 2 = (2 : Int32) from rfl), gdi _ (by omega) (by omega), ix4 (by omega), e3]
          rfl
        · unfold f10_valve
          rw [M_isV_y hW hA hv, sbind, fails_y, sbind]
          dsimp only
          rw [if_pos rfl, show f10_in (i4 2).toInt64 0 6 = some 1 from M_inN (N := 6) (by omega) (by omega), sbind, fails_y, sbind]
          dsimp only
          rw [if_pos rfl, if_neg (by decide), M_ofValve w (j := 2) (by omega), g3, i8_to4, sbind]
      · refine YES_v (ou := ou) (i4 (AD_rul d v)) ?_ ?_
        · unfold fL_valve f9_valve
          rw [C_hasV_y hW hL hv, sbind, if_neg one_ne, if_neg (by decide), if_neg (by decide), if_neg (by decide), if_pos (show i4 3 = (3 : Int32) from rfl), gdi _ (by omega) (by omega), ix4 (by omega), hS.2.2.2.2.1 v hv]
          rfl
        · unfold f10_valve
          rw [M_isV_y hW hA hv, sbind, fails_y, sbind]
          dsimp only
          rw [if_pos rfl, show f10_in (i4 3).toInt64 0 6 = some 1 from M_inN (N := 6) (by omega) (by omega), sbind, fails_y, sbind]
          dsimp only
          rw [if_pos rfl, if_neg (by decide), M_ofValve w (j := 3) (by omega), (hB.2.2.2.1 v hv).1, i8_to4, sbind]
      · refine YES_v (ou := ou) (if AD_opn d v = true then 1 else 0) ?_ ?_
        · unfold fL_valve f9_valve
          rw [C_hasV_y hW hL hv, sbind, if_neg one_ne, if_neg (by decide), if_neg (by decide), if_neg (by decide), if_neg (by decide), if_pos (show i4 4 = (4 : Int32) from rfl), C_isOpen hW hS hv, sbind, bit01]
          rfl
        · unfold f10_valve
          rw [M_isV_y hW hA hv, sbind, fails_y, sbind]
          dsimp only
          rw [if_pos rfl, show f10_in (i4 4).toInt64 0 6 = some 1 from M_inN (N := 6) (by omega) (by omega), sbind, fails_y, sbind]
          dsimp only
          rw [if_pos rfl, if_neg (by decide), M_ofValve w (j := 4) (by omega), (hB.2.2.2.1 v hv).2.1, show (b8 (AD_opn d v)).toInt32 = (if AD_opn d v = true then (1 : Int32) else 0) by cases AD_opn d v <;> rfl, sbind]
      · refine YES_v (ou := ou) ((AD_vT d v).toInt32) ?_ ?_
        · unfold fL_valve f9_valve
          rw [C_hasV_y hW hL hv, sbind, if_neg one_ne, if_neg (by decide), if_neg (by decide), if_neg (by decide), if_neg (by decide), if_neg (by decide), if_pos (show i4 5 = (5 : Int32) from rfl), gdi _ (by omega) (by omega), ix4 (by omega), (hS.2.2.2.2.2.1 v hv).2]
          rfl
        · unfold f10_valve
          rw [M_isV_y hW hA hv, sbind, fails_y, sbind]
          dsimp only
          rw [if_pos rfl, show f10_in (i4 5).toInt64 0 6 = some 1 from M_inN (N := 6) (by omega) (by omega), sbind, fails_y, sbind]
          dsimp only
          rw [if_pos rfl, if_neg (by decide), M_ofValve w (j := 5) (by omega), (hB.2.2.2.1 v hv).2.2, sbind]
      · refine YES_v (ou := ou) (i4 (dif a d v)) ?_ ?_
        · unfold fL_valve f9_valve
          rw [C_hasV_y hW hL hv, sbind, if_neg one_ne, if_neg (by decide), if_neg (by decide), if_neg (by decide), if_neg (by decide), if_neg (by decide), if_neg (by decide), if_pos (show i4 6 = (6 : Int32) from rfl), C_dif hW hD hL hS hv]
          rfl
        · unfold f10_valve
          rw [M_isV_y hW hA hv, sbind, fails_y, sbind]
          dsimp only
          rw [if_pos rfl, show f10_in (i4 6).toInt64 0 6 = some 1 from M_inN (N := 6) (by omega) (by omega), sbind, fails_y, sbind]
          dsimp only
          rw [if_pos rfl, if_pos (by decide), M_dif hW hD hA hB hv, sbind, i8_to4]
    · refine NO_v (ou := ou) 2 (by decide) ?_ ?_
      · unfold fL_valve f9_valve
        rw [C_hasV_y hW hL hv, sbind, if_neg one_ne, if_neg (show ¬ (y = (0 : Int32)) from ne_k hy 0 (by omega) (by omega)), if_neg (show ¬ (y = (1 : Int32)) from ne_k hy 1 (by omega) (by omega)), if_neg (show ¬ (y = (2 : Int32)) from ne_k hy 2 (by omega) (by omega)), if_neg (show ¬ (y = (3 : Int32)) from ne_k hy 3 (by omega) (by omega)), if_neg (show ¬ (y = (4 : Int32)) from ne_k hy 4 (by omega) (by omega)), if_neg (show ¬ (y = (5 : Int32)) from ne_k hy 5 (by omega) (by omega)), if_neg (show ¬ (y = (6 : Int32)) from ne_k hy 6 (by omega) (by omega))]
        rfl
      · unfold f10_valve
        rw [M_isV_y hW hA hv, sbind, fails_y, sbind]
        dsimp only
        rw [if_pos rfl, show f10_in y.toInt64 0 6 = some 0 from M_inN_n (N := 6) (by omega) hy, sbind, fails_n, sbind]
        dsimp only
        rw [if_neg one_ne]
  · refine NO_v (ou := ou) 1 (by decide) ?_ ?_
    · unfold fL_valve f9_valve
      rw [C_hasV_n hW hL hx, sbind, if_pos rfl]
      rfl
    · unfold f10_valve
      rw [M_isV_n hW hA hx, sbind, fails_n, sbind]
      dsimp only
      rw [if_neg one_ne]
theorem S_flange (hI : INVd a d lY tp st w mu) (x y : Int32) : ∃ r1 r2, fL_flange lY tp st ou x y = some r1 ∧ f10_flange w th x y = some r2 ∧ GOODv r1 r2 := by
  obtain ⟨⟨hW, hD, hL, hS⟩, hA, hB, -⟩ := hI
  have hN := hW.1
  rcases in_cases x (AS_nF a) with ⟨v, hv, hv2, rfl⟩ | hx
  · have e1 := hL.2.2.2.2 v hv
    have g1 := hA.2.2.2.2 v hv
    rcases upto_cases y 1 with ⟨q, hq, hq2, rfl⟩ | hy
    · rcases (show q = 0 ∨ q = 1 by omega) with rfl | rfl
      · refine YES_v (ou := ou) (i4 (AS_fH a v)) ?_ ?_
        · unfold fL_flange f9_flange
          rw [C_hasF_y hW hL hv, sbind, if_neg one_ne, if_pos (show i4 0 = (0 : Int32) from rfl), gdi _ (by omega) (by omega), ix4 (by omega), e1]
          rfl
        · unfold f10_flange
          rw [M_isF_y hW hA hv, sbind, fails_y, sbind]
          dsimp only
          rw [if_pos rfl, show f10_in (i4 0).toInt64 0 1 = some 1 from M_inN (N := 1) (by omega) (by omega), sbind, fails_y, sbind]
          dsimp only
          rw [if_pos rfl, at_f, sbind, show i4 (148 + 2 * v) + i4 0 = i4 (148 + 2 * v + 0) from i4_add _ _, gdi _ (by omega) (by omega), ix4 (by omega), (show w (148 + 2 * v + 0) = i8 (AS_fH a v) from g1), i8_to4]
      · refine YES_v (ou := ou) (i4 (AD_lk d v)) ?_ ?_
        · unfold fL_flange f9_flange
          rw [C_hasF_y hW hL hv, sbind, if_neg one_ne, if_neg (by decide), if_pos (show i4 1 = (1 : Int32) from rfl), gdi _ (by omega) (by omega), ix4 (by omega), hS.2.2.2.1.2 v hv]
          rfl
        · unfold f10_flange
          rw [M_isF_y hW hA hv, sbind, fails_y, sbind]
          dsimp only
          rw [if_pos rfl, show f10_in (i4 1).toInt64 0 1 = some 1 from M_inN (N := 1) (by omega) (by omega), sbind, fails_y, sbind]
          dsimp only
          rw [if_pos rfl, at_f, sbind, show i4 (148 + 2 * v) + i4 1 = i4 (148 + 2 * v + 1) from i4_add _ _, gdi _ (by omega) (by omega), ix4 (by omega), hB.2.2.2.2.1 v hv, i8_to4]
    · refine NO_v (ou := ou) 2 (by decide) ?_ ?_
      · unfold fL_flange f9_flange
        rw [C_hasF_y hW hL hv, sbind, if_neg one_ne, if_neg (show ¬ (y = (0 : Int32)) from ne_k hy 0 (by omega) (by omega)), if_neg (show ¬ (y = (1 : Int32)) from ne_k hy 1 (by omega) (by omega))]
        rfl
      · unfold f10_flange
        rw [M_isF_y hW hA hv, sbind, fails_y, sbind]
        dsimp only
        rw [if_pos rfl, show f10_in y.toInt64 0 1 = some 0 from M_inN_n (N := 1) (by omega) hy, sbind, fails_n, sbind]
        dsimp only
        rw [if_neg one_ne]
  · refine NO_v (ou := ou) 1 (by decide) ?_ ?_
    · unfold fL_flange f9_flange
      rw [C_hasF_n hW hL hx, sbind, if_pos rfl]
      rfl
    · unfold f10_flange
      rw [M_isF_n hW hA hx, sbind, fails_n, sbind]
      dsimp only
      rw [if_neg one_ne]
theorem S_gas (hI : INVd a d lY tp st w mu) (x : Int32) : ∃ r1 r2, fL_gas lY tp st ou x = some r1 ∧ f10_gas w th x = some r2 ∧ r2.2 = r1.1 ∧ (r1.1 = 0 → r1.2 (ix 0) = r2.1) := by
  obtain ⟨⟨hW, hD, hL, hS⟩, hA, hB, -⟩ := hI
  have hN := hW.1
  rcases in_cases x (AS_nC a) with ⟨v, hv, hv2, rfl⟩ | hx
  · refine ⟨(0, vp_updL ou (ix 0) (i8 (AD_gas d v))), (i8 (AD_gas d v), 0), ?_, ?_, rfl, fun _ => show vp_updL ou (ix 0) (i8 (AD_gas d v)) (ix 0) = _ from updL_self _ _ _⟩
    · unfold fL_gas f9_gas
      rw [C_hasC_y hW hL hv, sbind, if_neg one_ne, gdi _ (by omega) (by omega), ix4 (by omega), (hS.2.1.1 v hv).1]
      rfl
    · unfold f10_gas
      rw [M_isC_y hW hA hv, sbind, fails_y, sbind]
      dsimp only
      rw [if_pos rfl, at_c, sbind, ad3, gdi _ (by omega) (by omega), ix4 (by omega), (hB.2.1 v hv).2]
  · refine ⟨(1, ou), (0, 1), ?_, ?_, rfl, fun h => absurd h one_ne⟩
    · unfold fL_gas f9_gas
      rw [C_hasC_n hW hL hx, sbind, if_pos rfl]
      rfl
    · unfold f10_gas
      rw [M_isC_n hW hA hx, sbind, fails_n, sbind]
      dsimp only
      rw [if_neg one_ne]
theorem S_mayOpen (hI : INVd a d lY tp st w mu) (x : Int32) : ∃ r1 r2, fL_mayOpen lY tp st ou x = some r1 ∧ f10_mayOpen w th x = some r2 ∧ GOODv r1 r2 := by
  obtain ⟨⟨hW, hD, hL, hS⟩, hA, hB, -⟩ := hI
  have hN := hW.1
  rcases in_cases x (AS_nV a) with ⟨v, hv, hv2, rfl⟩ | hx
  · refine YES_v (ou := ou) (if AD_opn d v = true then 1 else if dif a d v ≤ AD_rul d v then 0 else 2) ?_ ?_
    · unfold fL_mayOpen f9_mayOpen
      rw [C_hasV_y hW hL hv, sbind, if_neg one_ne, C_openBar hW hD hL hS hv]
      rfl
    · unfold f10_mayOpen
      rw [M_isV_y hW hA hv, sbind, fails_y, sbind]
      dsimp only
      rw [if_pos rfl, M_isOpen hW hB hv, sbind]
      by_cases hO : AD_opn d v = true
      · rw [if_pos hO, if_neg one_ne, if_pos hO]
      · rw [if_neg hO, if_pos rfl, if_neg hO, M_mayJoin hW hD hA hB hv, sbind]
        by_cases hR : dif a d v ≤ AD_rul d v
        · rw [if_neg (show ¬ AD_rul d v < dif a d v by omega), if_neg one_ne, if_pos hR]
        · rw [if_pos (show AD_rul d v < dif a d v by omega), if_pos rfl, if_neg hR]
  · refine NO_v (ou := ou) 1 (by decide) ?_ ?_
    · unfold fL_mayOpen f9_mayOpen
      rw [C_hasV_n hW hL hx, sbind, if_pos rfl]
      rfl
    · unfold f10_mayOpen
      rw [M_isV_n hW hA hx, sbind, fails_n, sbind]
      dsimp only
      rw [if_neg one_ne]
theorem S_mayStart (hI : INVd a d lY tp st w mu) (x : Int32) : ∃ r1 r2, fL_mayStart lY tp st ou x = some r1 ∧ f10_mayStart w th x = some r2 ∧ GOODv r1 r2 := by
  obtain ⟨⟨hW, hD, hL, hS⟩, hA, hB, -⟩ := hI
  have hN := hW.1
  rcases in_cases x (AS_nP a) with ⟨v, hv, hv2, rfl⟩ | hx
  · refine YES_v (ou := ou) (if AD_run d v = true then 1 else i4 (cnd a d v)) ?_ ?_
    · unfold fL_mayStart f9_mayStart
      rw [C_hasP_y hW hL hv, sbind, if_neg one_ne, C_startBar hW hD hL hS hv]
      rfl
    · unfold f10_mayStart
      rw [M_isP_y hW hA hv, sbind, fails_y, sbind]
      dsimp only
      rw [if_pos rfl, M_isRunning hW hB hv, sbind]
      by_cases hO : AD_run d v = true
      · rw [if_pos hO, if_neg one_ne, if_pos hO]
      · rw [if_neg hO, if_pos rfl, if_neg hO, M_isLowEnough hW hD hA hB hv, sbind]
        unfold cnd
        by_cases c1 : prz a d (AS_pC a v) ≤ AS_pH a v
        · rw [if_pos c1, if_neg one_ne, if_pos c1, M_isBacked hW hD hA hB hv, sbind]
          by_cases c2 : AS_pE a v = 8 ∨ prz a d (AS_pE a v) ≤ AS_pB a v
          · rw [if_pos c2, if_neg one_ne, if_pos c2]
            rfl
          · rw [if_neg c2, if_pos rfl, if_neg c2]
            rfl
        · rw [if_neg c1, if_pos rfl, if_neg c1]
          rfl
  · refine NO_v (ou := ou) 1 (by decide) ?_ ?_
    · unfold fL_mayStart f9_mayStart
      rw [C_hasP_n hW hL hx, sbind, if_pos rfl]
      rfl
    · unfold f10_mayStart
      rw [M_isP_n hW hA hx, sbind, fails_n, sbind]
      dsimp only
      rw [if_neg one_ne]
theorem C_slot {S : SS} {nx g : Nat} (hn : nx < 10) (hg : g < 10) (e : SS_next S = i4 nx) : f7_slot S (i4 g) = some (i4 (rg nx g)) := by
  unfold f7_slot rg
  rw [e, show i4 nx + 10 = i4 (nx + 10) from i4_add nx 10, show i4 (nx + 10) - 1 = i4 (nx + 9) from i4_sub (b := 1) (by omega), i4_sub (by omega)]
  exact congrArg some (i4_mod (b := 10) (by omega) (by omega))
theorem C_kept_n {S : SS} (hD : WFd a d) (hS : RCd a d S) {x : Int32} (h : ¬ (0 ≤ x.toInt ∧ x.toInt < AD_kt d)) : ¬ x < 0 → ¬ x < SS_kept S := by
  have hk := hD.2.2.2.1
  intro h1 h2
  rw [Int32.lt_iff_toInt_lt, z4] at h1
  rw [hS.2.2.2.2.2.2.2.1, Int32.lt_iff_toInt_lt, i4_toInt (by omega)] at h2
  omega
theorem M_noTest_y (hD : WFd a d) (hB : RMd a d w) {g : Nat} (hg : g < AD_kt d) : f10_isNoTest w th (i4 g) = some (0, 0) := by
  have hk := hD.2.2.2.1
  unfold f10_isNoTest
  rw [show w (ix 7) = i8 (AD_kt d) from hB.1.2.2.2, M_in_y (by rw [z8, i4_toInt (by omega)]; omega) (by rw [i8_m1 (by omega), i4_toInt (by omega)]; omega), sbind, fails_y, sbind]
  rfl
theorem M_noTest_n (hD : WFd a d) (hB : RMd a d w) {x : Int32} (h : ¬ (0 ≤ x.toInt ∧ x.toInt < AD_kt d)) : f10_isNoTest w th x = some (1, 1) := by
  have hk := hD.2.2.2.1
  unfold f10_isNoTest
  rw [show w (ix 7) = i8 (AD_kt d) from hB.1.2.2.2, M_in_n (by rw [i8_m1 (by omega), z8]; omega), sbind, fails_n, sbind]
  rfl
theorem at_t_add (g j : Nat) : i4 (196 + 6 * g) + i4 j = i4 (196 + 6 * g + j) := i4_add _ _
theorem S_rise (hI : INVd a d lY tp st w mu) (x y : Int32) : ∃ r1 r2, fL_rise tp st ou x y = some r1 ∧ f10_rise w th x y = some r2 ∧ GOODv r1 r2 := by
  obtain ⟨⟨hW, hD, hL, hS⟩, hA, hB, -⟩ := hI
  have hk := hD.2.2.2.1
  obtain ⟨t1, nx, t2, t3, t4⟩ := hS.2.2.2.2.2.2.2
  rcases in_cases x (AD_kt d) with ⟨g, hg, hg2, rfl⟩ | hx
  · have hlt : i4 g < SS_kept (st (TP_pr tp)) := by rw [t1]; exact (i4_lt (by omega) (by omega)).mpr hg
    rcases upto_cases y 3 with ⟨q, hq, hq2, rfl⟩ | hy
    · have hr : rg nx g < 10 := by unfold rg; omega
      refine YES_v (ou := ou) (AD_tF d g q).toInt32 ?_ ?_
      · unfold fL_rise f9_rise f7_fact
        rw [if_neg (lt0_i4 (by omega)), if_pos hlt, if_neg (lt0_i4 (by omega)), if_pos (show i4 q < (4 : Int32) from (i4_lt (b := 4) (by omega) (by omega)).mpr (by omega)), C_slot t2 (by omega) t3, sbind, show i4 (rg nx g) * 4 + i4 q = i4 (4 * rg nx g + q) by rw [show i4 (rg nx g) * 4 = i4 (rg nx g * 4) from i4_mul _ 4, i4_add, Nat.mul_comm], gdi _ (by omega) (by omega), ix4 (by omega), (t4 g hg).1 q (by omega)]
        rfl
      · unfold f10_rise
        rw [M_noTest_y hD hB hg, sbind]
        dsimp only
        rw [if_pos rfl, show f10_in (i4 q).toInt64 0 3 = some 1 from M_inN (N := 3) hq (by omega), sbind, fails_y, sbind]
        dsimp only
        rw [if_pos rfl, at_t, sbind, at_t_add, gdi _ (by omega) (by omega), ix4 (by omega), hB.2.2.2.2.2 g q hg (by omega)]
    · refine NO_v (ou := ou) 2 (by decide) ?_ ?_
      · unfold fL_rise f9_rise
        rw [if_neg (lt0_i4 (by omega)), if_pos hlt]
        by_cases q1 : y < 0
        · rw [if_pos q1]
          rfl
        · rw [if_neg q1]
          rw [Int32.lt_iff_toInt_lt, z4] at q1
          rw [if_neg (show ¬ (y < (4 : Int32)) from fun q => by rw [Int32.lt_iff_toInt_lt, show (4 : Int32).toInt = 4 by decide] at q; omega)]
          rfl
      · unfold f10_rise
        rw [M_noTest_y hD hB hg, sbind]
        dsimp only
        rw [if_pos rfl, show f10_in y.toInt64 0 3 = some 0 from M_inN_n (N := 3) (by omega) hy, sbind, fails_n, sbind]
        dsimp only
        rw [if_neg one_ne]
  · refine NO_v (ou := ou) 1 (by decide) ?_ ?_
    · unfold fL_rise f9_rise
      by_cases q1 : x < 0
      · rw [if_pos q1]
        rfl
      · rw [if_neg q1, if_neg (C_kept_n hD hS hx q1)]
        rfl
    · unfold f10_rise
      rw [M_noTest_n hD hB hx, sbind]
      dsimp only
      rw [if_neg one_ne]
theorem S_riseGas (hI : INVd a d lY tp st w mu) (x y : Int32) : ∃ r1 r2, fL_riseGas tp st ou x (if y = 0 then (0 : Int32) else (1 : Int32)) = some r1 ∧ f10_riseGas w th x (if y = 0 then (0 : Int32) else (1 : Int32)) = some r2 ∧ r2.2 = r1.1 ∧ (r1.1 = 0 → r1.2 (ix 0) = r2.1) := by
  obtain ⟨⟨hW, hD, hL, hS⟩, hA, hB, -⟩ := hI
  have hk := hD.2.2.2.1
  obtain ⟨t1, nx, t2, t3, t4⟩ := hS.2.2.2.2.2.2.2
  rcases in_cases x (AD_kt d) with ⟨g, hg, hg2, rfl⟩ | hx
  · have hlt : i4 g < SS_kept (st (TP_pr tp)) := by rw [t1]; exact (i4_lt (by omega) (by omega)).mpr hg
    have hr : rg nx g < 10 := by unfold rg; omega
    have main : ∀ (b : Int32) (k : Nat), k < 2 → (if b = 0 then (0 : Int32) else (1 : Int32)) = i4 k → (if b = 0 then (4 : Int32) else (5 : Int32)) = i4 (4 + k) → ∃ r1 r2, fL_riseGas tp st ou (i4 g) b = some r1 ∧ f10_riseGas w th (i4 g) b = some r2 ∧ r2.2 = r1.1 ∧ (r1.1 = 0 → r1.2 (ix 0) = r2.1) := by
      intro b k hk2 hb1 hb2
      refine ⟨(0, vp_updL ou (ix 0) (AD_tF d g (4 + k))), (AD_tF d g (4 + k), 0), ?_, ?_, rfl, fun _ => show vp_updL ou (ix 0) _ (ix 0) = _ from updL_self _ _ _⟩
      · unfold fL_riseGas f9_riseGas f7_riseOf
        rw [if_neg (lt0_i4 (by omega)), if_pos hlt, C_slot t2 (by omega) t3, sbind, hb1, show i4 (rg nx g) * 2 + i4 k = i4 (2 * rg nx g + k) by rw [show i4 (rg nx g) * 2 = i4 (rg nx g * 2) from i4_mul _ 2, i4_add, Nat.mul_comm], gdi _ (by omega) (by omega), ix4 (by omega)]
        rcases (show k = 0 ∨ k = 1 by omega) with rfl | rfl
        · rw [show 2 * rg nx g + 0 = 2 * rg nx g from rfl, (t4 g hg).2.1]
          rfl
        · rw [(t4 g hg).2.2]
          rfl
      · unfold f10_riseGas
        rw [M_noTest_y hD hB hg, sbind]
        dsimp only
        rw [if_pos rfl, at_t, sbind, hb2, at_t_add, gdi _ (by omega) (by omega), ix4 (by omega), hB.2.2.2.2.2 g (4 + k) hg (by omega)]
    by_cases hy : y = 0
    · rw [if_pos hy]
      exact main 0 0 (by omega) rfl rfl
    · rw [if_neg hy]
      exact main 1 1 (by omega) rfl rfl
  · refine ⟨(1, ou), (0, 1), ?_, ?_, rfl, fun h => absurd h one_ne⟩
    · unfold fL_riseGas f9_riseGas
      by_cases q1 : x < 0
      · rw [if_pos q1]
        rfl
      · rw [if_neg q1, if_neg (C_kept_n hD hS hx q1)]
        rfl
    · unfold f10_riseGas
      rw [M_noTest_n hD hB hx, sbind]
      dsimp only
      rw [if_neg one_ne]
end QU
