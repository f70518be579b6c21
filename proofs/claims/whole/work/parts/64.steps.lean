/-! a recipe's step, executed -/
def EXR_ (a : AS) (r1 : Option (Int32 × SS)) (r2 : Option (Int32 × (Nat → Int64))) : Prop :=
  (∃ S' w', r1 = some (0, S') ∧ r2 = some (0, w') ∧ SS_pressure S' 8 = i4 1000000) ∨ (∃ S' w' d', r1 = some (1, S') ∧ r2 = some (1, w') ∧ WFd a d' ∧ RCd a d' S' ∧ RMs a w' ∧ RMd a d' w')
section EX
variable {a : AS} {d : AD} {lY : LL} {S : SS} {w : Nat → Int64} {rc : RC} {mf : MF}
theorem xe_0 : f3_execute lY rc S 0 = (f1_hasValve lY (RC_first rc)).bind fun u => if u = 0 then some (0, S) else (f3_turnValve lY S 1 (RC_first rc)).bind fun u => if u.1 = 0 then some (0, u.2) else some (1, u.2) := by
  unfold f3_execute
  rw [if_pos rfl, if_pos rfl]
theorem xe_1 : f3_execute lY rc S 1 = (f1_hasValve lY (RC_first rc)).bind fun u => if u = 0 then some (0, S) else (f3_turnValve lY S 0 (RC_first rc)).bind fun u => if u.1 = 0 then some (0, u.2) else some (1, u.2) := by
  unfold f3_execute
  rw [if_neg (show ¬ (1 : Int32) = 0 by decide), if_pos rfl, if_neg (show ¬ (1 : Int32) = 0 by decide)]
theorem xe_2 : f3_execute lY rc S 2 = (f1_hasPump lY (RC_first rc)).bind fun u => if u = 0 then some (0, S) else (f3_switchPump lY S 1 (RC_first rc)).bind fun u => if u.1 = 0 then some (0, u.2) else some (1, u.2) := by
  unfold f3_execute
  rw [if_neg (show ¬ (2 : Int32) = 0 by decide), if_neg (show ¬ (2 : Int32) = 1 by decide), if_pos rfl, if_pos rfl]
theorem xe_3 : f3_execute lY rc S 3 = (f1_hasPump lY (RC_first rc)).bind fun u => if u = 0 then some (0, S) else (f3_switchPump lY S 0 (RC_first rc)).bind fun u => if u.1 = 0 then some (0, u.2) else some (1, u.2) := by
  unfold f3_execute
  rw [if_neg (show ¬ (3 : Int32) = 0 by decide), if_neg (show ¬ (3 : Int32) = 1 by decide), if_neg (show ¬ (3 : Int32) = 2 by decide), if_pos rfl, if_neg (show ¬ (3 : Int32) = 2 by decide)]
theorem xe_4 : f3_execute lY rc S 4 = (f9_isTicks (RC_first rc)).bind fun u => if u = 0 then some (0, S) else (f5_passTicks lY S (RC_first rc)).bind fun u => some (1, u.2) := by
  unfold f3_execute
  rw [if_neg (show ¬ (4 : Int32) = 0 by decide), if_neg (show ¬ (4 : Int32) = 1 by decide), if_neg (show ¬ (4 : Int32) = 2 by decide), if_neg (show ¬ (4 : Int32) = 3 by decide), if_pos rfl]
theorem xe_5 : f3_execute lY rc S 5 = (f1_hasChamber lY (RC_first rc)).bind fun u => if u = 0 then some (0, S) else (f9_isPressure (RC_second rc)).bind fun u => if u = 0 then some (0, S) else (f5_passUntilAtMost lY S (RC_first rc) (RC_second rc)).bind fun u => if u.1 = (-1) then some (0, u.2) else some (1, u.2) := by
  unfold f3_execute
  rw [if_neg (show ¬ (5 : Int32) = 0 by decide), if_neg (show ¬ (5 : Int32) = 1 by decide), if_neg (show ¬ (5 : Int32) = 2 by decide), if_neg (show ¬ (5 : Int32) = 3 by decide), if_neg (show ¬ (5 : Int32) = 4 by decide), if_pos rfl]
theorem xe_6 : f3_execute lY rc S 6 = (f1_hasFlange lY (RC_first rc)).bind fun u => if u = 0 then some (0, S) else (f5_putLeak lY S (RC_first rc) 0).bind fun u => some (1, u) := by
  unfold f3_execute
  rw [if_neg (show ¬ (6 : Int32) = 0 by decide), if_neg (show ¬ (6 : Int32) = 1 by decide), if_neg (show ¬ (6 : Int32) = 2 by decide), if_neg (show ¬ (6 : Int32) = 3 by decide), if_neg (show ¬ (6 : Int32) = 4 by decide), if_neg (show ¬ (6 : Int32) = 5 by decide), if_pos rfl]
theorem xe_7 : f3_execute lY rc S 7 = (f1_hasChamber lY (RC_first rc)).bind fun u => if u = 0 then some (0, S) else (f9_isTestTicks (RC_second rc)).bind fun u => if u = 0 then some (0, S) else (f5_isShutOff lY S (RC_first rc)).bind fun u => if u = 0 then some (0, S) else (f5_makeTest lY S (RC_first rc) (RC_second rc)).bind fun u => some (1, u.2) := by
  unfold f3_execute
  rw [if_neg (show ¬ (7 : Int32) = 0 by decide), if_neg (show ¬ (7 : Int32) = 1 by decide), if_neg (show ¬ (7 : Int32) = 2 by decide), if_neg (show ¬ (7 : Int32) = 3 by decide), if_neg (show ¬ (7 : Int32) = 4 by decide), if_neg (show ¬ (7 : Int32) = 5 by decide), if_neg (show ¬ (7 : Int32) = 6 by decide)]
theorem xd_0 : f10_does mf w 0 = (f10_isValve w (MF_first mf)).bind fun u => if u = 0 then some (0, w) else (f10_canOpen w (MF_first mf)).bind fun u => if u = 0 then some (0, w) else (f10_turn w (MF_first mf) 1).bind fun u => if u.1 < 0 then some (0, u.2) else some (1, u.2) := by
  unfold f10_does
  rw [if_pos rfl]
theorem xd_1 : f10_does mf w 1 = (f10_isValve w (MF_first mf)).bind fun u => if u = 0 then some (0, w) else (f10_isOpen w (MF_first mf)).bind fun u => if u = 0 then some (0, w) else (f10_turn w (MF_first mf) 0).bind fun u => if u.1 < 0 then some (0, u.2) else some (1, u.2) := by
  unfold f10_does
  rw [if_neg (show ¬ (1 : Int32) = 0 by decide), if_pos rfl]
theorem xd_2 : f10_does mf w 2 = (f10_isPump w (MF_first mf)).bind fun u => if u = 0 then some (0, w) else (f10_canStart w (MF_first mf)).bind fun u => if u = 0 then some (0, w) else (f10_run w (MF_first mf) 1).bind fun u => if u.1 < 0 then some (0, u.2) else some (1, u.2) := by
  unfold f10_does
  rw [if_neg (show ¬ (2 : Int32) = 0 by decide), if_neg (show ¬ (2 : Int32) = 1 by decide), if_pos rfl]
theorem xd_3 : f10_does mf w 3 = (f10_isPump w (MF_first mf)).bind fun u => if u = 0 then some (0, w) else (f10_isRunning w (MF_first mf)).bind fun u => if u = 0 then some (0, w) else (f10_run w (MF_first mf) 0).bind fun u => if u.1 < 0 then some (0, u.2) else some (1, u.2) := by
  unfold f10_does
  rw [if_neg (show ¬ (3 : Int32) = 0 by decide), if_neg (show ¬ (3 : Int32) = 1 by decide), if_neg (show ¬ (3 : Int32) = 2 by decide), if_pos rfl]
theorem xd_4 : f10_does mf w 4 = (f10_isTicks (MF_first mf)).bind fun u => if u = 0 then some (0, w) else (f10_passNow w (MF_first mf)).bind fun u => if u.1 < 0 then some (0, u.2) else some (1, u.2) := by
  unfold f10_does
  rw [if_neg (show ¬ (4 : Int32) = 0 by decide), if_neg (show ¬ (4 : Int32) = 1 by decide), if_neg (show ¬ (4 : Int32) = 2 by decide), if_neg (show ¬ (4 : Int32) = 3 by decide), if_pos rfl]
theorem xd_5 : f10_does mf w 5 = (f10_isFlange w (MF_first mf)).bind fun u => if u = 0 then some (0, w) else (f10_flangeAt (MF_first mf)).bind fun u => (f10_setNow w (u + 1) 0).bind fun u => if u.1 < 0 then some (0, u.2) else some (1, u.2) := by
  unfold f10_does
  rw [if_neg (show ¬ (5 : Int32) = 0 by decide), if_neg (show ¬ (5 : Int32) = 1 by decide), if_neg (show ¬ (5 : Int32) = 2 by decide), if_neg (show ¬ (5 : Int32) = 3 by decide), if_neg (show ¬ (5 : Int32) = 4 by decide), if_pos rfl]
theorem xd_6 : f10_does mf w 6 = (f10_isChamber w (MF_first mf)).bind fun u => if u = 0 then some (0, w) else (f10_isPressure (MF_second mf)).bind fun u => if u = 0 then some (0, w) else (f10_goDown w (MF_first mf) (MF_second mf)).bind fun u => if u.1 < 0 then some (0, u.2) else some (1, u.2) := by
  unfold f10_does
  rw [if_neg (show ¬ (6 : Int32) = 0 by decide), if_neg (show ¬ (6 : Int32) = 1 by decide), if_neg (show ¬ (6 : Int32) = 2 by decide), if_neg (show ¬ (6 : Int32) = 3 by decide), if_neg (show ¬ (6 : Int32) = 4 by decide), if_neg (show ¬ (6 : Int32) = 5 by decide), if_pos rfl]
theorem xd_7 : f10_does mf w 7 = (f10_isChamber w (MF_first mf)).bind fun u => if u = 0 then some (0, w) else (f10_isTestTicks (MF_second mf)).bind fun u => if u = 0 then some (0, w) else (f10_isAlone w (MF_first mf)).bind fun u => if u = 0 then some (0, w) else (f10_testNow w (MF_first mf) (MF_second mf)).bind fun u => if u.1 < 0 then some (0, u.2) else some (1, u.2) := by
  unfold f10_does
  rw [if_neg (show ¬ (7 : Int32) = 0 by decide), if_neg (show ¬ (7 : Int32) = 1 by decide), if_neg (show ¬ (7 : Int32) = 2 by decide), if_neg (show ¬ (7 : Int32) = 3 by decide), if_neg (show ¬ (7 : Int32) = 4 by decide), if_neg (show ¬ (7 : Int32) = 5 by decide), if_neg (show ¬ (7 : Int32) = 6 by decide)]
theorem b_not {r1 : Option (Int32 × SS)} {x : SS} (h : r1 = some (0, x)) : (r1.bind fun u => if u.1 = 0 then some ((0 : Int32), u.2) else some (1, u.2)) = some (0, x) := by
  rw [h, sbind]
  rfl
theorem b_yes {r1 : Option (Int32 × SS)} {x : SS} (h : r1 = some (1, x)) : (r1.bind fun u => if u.1 = 0 then some ((0 : Int32), u.2) else some (1, u.2)) = some (1, x) := by
  rw [h, sbind]
  rfl
theorem b_ge {r1 : Option (Int32 × (Nat → Int64))} {x : Nat → Int64} {m : Nat} (h : r1 = some (i4 m, x)) (hm : m < 2147483648) : (r1.bind fun u => if u.1 < 0 then some ((0 : Int32), u.2) else some (1, u.2)) = some (1, x) := by
  rw [h, sbind]
  dsimp only
  rw [if_neg (lt0_i4 hm)]
theorem M_turn (hW : WFs a) (hD : WFd a d) (hA : RMs a w) (hB : RMd a d w) {v : Nat} (hv : v < AS_nV a) (t : Bool) {x : Int32} (hx : x.toInt64 = b8 t) : f10_turn w (i4 v) x = some (i4 (dif a (AD_set_opn d (setN (AD_opn d) v t)) v), vp_updL w (88 + 6 * v + 4) (b8 t)) := by
  have hN := hW.1
  obtain ⟨hA', hB'⟩ := RM_opn hW hA hB hv t
  have hD' := WF_opn hD (setN (AD_opn d) v t)
  unfold f10_turn
  rw [at_v, sbind, ad4, gdi _ (by omega) (by omega), ix4 (by omega), hx, M_dif hW hD' hA' hB' hv, sbind, i8_to4]
theorem M_runs (hW : WFs a) (hD : WFd a d) (hA : RMs a w) (hB : RMd a d w) {v : Nat} (hv : v < AS_nP a) (t : Bool) {x : Int32} (hx : x.toInt64 = b8 t) : f10_run w (i4 v) x = some (i4 (prz a (AD_set_run d (setN (AD_run d) v t)) (AS_pC a v)), vp_updL w (40 + 8 * v + 6) (b8 t)) := by
  have hN := hW.1
  obtain ⟨hA', hB'⟩ := RM_run hW hA hB hv t
  have hD' := WF_run hD (setN (AD_run d) v t)
  have h1 := (hW.2.2.1 v hv).1
  unfold f10_run
  rw [at_p, sbind, ad6, gdi _ (by omega) (by omega), ix4 (by omega), hx, M_pC hW hA' hv, sbind, M_prc hW hD' hA' hB' h1, sbind, i8_to4]
theorem xq_0 (hW : WFs a) (hD : WFd a d) (hL : RCs a lY) (hS : RCd a d S) (hA : RMs a w) (hB : RMd a d w) (h1 : RC_first rc = MF_first mf) : EXR_ a (f3_execute lY rc S 0) (f10_does mf w 0) := by
  have hN := hW.1
  have h8 := hS.2.1.2
  rw [xe_0, xd_0, h1]
  rcases in_cases (MF_first mf) (AS_nV a) with ⟨v, hv, hv2, e⟩ | hx
  · rw [e, C_hasV_y hW hL hv, sbind, if_neg one_ne, M_isV_y hW hA hv, sbind, if_neg one_ne, M_canOpen hW hD hA hB hv]
    by_cases hO : AD_opn d v = true
    · have k : f3_turnValve lY S 1 (i4 v) = some (0, S) := by
        unfold f3_turnValve
        rw [if_neg one_ne, C_openBar hW hD hL hS hv, sbind, if_pos hO, if_neg one_ne]
      rw [b_not k, if_pos hO, sbind, if_pos rfl]
      exact Or.inl ⟨S, w, rfl, rfl, h8⟩
    · by_cases hR : dif a d v ≤ AD_rul d v
      · have k : f3_turnValve lY S 1 (i4 v) = some ((1 : Int32), SS_set_openValves S (SS_openValves S ||| (1 <<< (i4 v &&& 31)))) := by
          unfold f3_turnValve f3_turnValve_B25 f5_openValve
          rw [if_neg one_ne, C_openBar hW hD hL hS hv, sbind, if_neg hO, if_pos hR, if_pos rfl, if_neg one_ne, sbind]
        have hD' := WF_opn hD (setN (AD_opn d) v true)
        obtain ⟨hA', hB'⟩ := RM_opn hW hA hB hv true
        rw [b_yes k, if_neg hO, if_pos hR, sbind, if_neg one_ne, b_ge (M_turn hW hD hA hB hv true rfl) (by have := dif_le hW hD' hv; omega)]
        exact Or.inr ⟨_, _, _, rfl, rfl, hD', RC_opn1 hW hS hv, hA', hB'⟩
      · have k : f3_turnValve lY S 1 (i4 v) = some (0, S) := by
          unfold f3_turnValve
          rw [if_neg one_ne, C_openBar hW hD hL hS hv, sbind, if_neg hO, if_neg hR, if_neg (show ¬ (2 : Int32) = 0 by decide)]
        rw [b_not k, if_neg hO, if_neg hR, sbind, if_pos rfl]
        exact Or.inl ⟨S, w, rfl, rfl, h8⟩
  · rw [C_hasV_n hW hL hx, sbind, if_pos rfl, M_isV_n hW hA hx, sbind, if_pos rfl]
    exact Or.inl ⟨S, w, rfl, rfl, h8⟩
theorem xq_1 (hW : WFs a) (hD : WFd a d) (hL : RCs a lY) (hS : RCd a d S) (hA : RMs a w) (hB : RMd a d w) (h1 : RC_first rc = MF_first mf) : EXR_ a (f3_execute lY rc S 1) (f10_does mf w 1) := by
  have hN := hW.1
  have h8 := hS.2.1.2
  rw [xe_1, xd_1, h1]
  rcases in_cases (MF_first mf) (AS_nV a) with ⟨v, hv, hv2, e⟩ | hx
  · rw [e, C_hasV_y hW hL hv, sbind, if_neg one_ne, M_isV_y hW hA hv, sbind, if_neg one_ne, M_isOpen hW hB hv]
    by_cases hO : AD_opn d v = true
    · have k : f3_turnValve lY S 0 (i4 v) = some ((1 : Int32), SS_set_openValves S (SS_openValves S &&& ((1 <<< (i4 v &&& 31)) ^^^ (-1)))) := by
        unfold f3_turnValve f3_turnValve_B25 f5_closeValve
        rw [if_pos rfl, C_isOpen hW hS hv, sbind, if_pos hO, if_neg one_ne, if_pos rfl, sbind]
      have hD' := WF_opn hD (setN (AD_opn d) v false)
      obtain ⟨hA', hB'⟩ := RM_opn hW hA hB hv false
      rw [b_yes k, if_pos hO, sbind, if_neg one_ne, b_ge (M_turn hW hD hA hB hv false rfl) (by have := dif_le hW hD' hv; omega)]
      exact Or.inr ⟨_, _, _, rfl, rfl, hD', RC_opn0 hW hS hv, hA', hB'⟩
    · have k : f3_turnValve lY S 0 (i4 v) = some (0, S) := by
        unfold f3_turnValve
        rw [if_pos rfl, C_isOpen hW hS hv, sbind, if_neg hO, if_pos rfl]
      rw [b_not k, if_neg hO, sbind, if_pos rfl]
      exact Or.inl ⟨S, w, rfl, rfl, h8⟩
  · rw [C_hasV_n hW hL hx, sbind, if_pos rfl, M_isV_n hW hA hx, sbind, if_pos rfl]
    exact Or.inl ⟨S, w, rfl, rfl, h8⟩
theorem xq_2 (hW : WFs a) (hD : WFd a d) (hL : RCs a lY) (hS : RCd a d S) (hA : RMs a w) (hB : RMd a d w) (h1 : RC_first rc = MF_first mf) : EXR_ a (f3_execute lY rc S 2) (f10_does mf w 2) := by
  have hN := hW.1
  have h8 := hS.2.1.2
  rw [xe_2, xd_2, h1]
  rcases in_cases (MF_first mf) (AS_nP a) with ⟨v, hv, hv2, e⟩ | hx
  · rw [e, C_hasP_y hW hL hv, sbind, if_neg one_ne, M_isP_y hW hA hv, sbind, if_neg one_ne, M_canStart hW hD hA hB hv]
    by_cases hO : AD_run d v = true
    · have k : f3_switchPump lY S 1 (i4 v) = some (0, S) := by
        unfold f3_switchPump
        rw [if_neg one_ne, C_startBar hW hD hL hS hv, sbind, if_pos hO, if_neg one_ne]
      rw [b_not k, if_pos hO, sbind, if_pos rfl]
      exact Or.inl ⟨S, w, rfl, rfl, h8⟩
    · by_cases hR : cnd a d v = 0
      · have k : f3_switchPump lY S 1 (i4 v) = some ((1 : Int32), SS_set_runningPumps S (SS_runningPumps S ||| (1 <<< (i4 v &&& 31)))) := by
          unfold f3_switchPump f3_switchPump_B25 f5_startPump
          rw [if_neg one_ne, C_startBar hW hD hL hS hv, sbind, if_neg hO, hR, if_pos (show i4 0 = (0 : Int32) from rfl), if_neg one_ne, sbind]
        have hD' := WF_run hD (setN (AD_run d) v true)
        obtain ⟨hA', hB'⟩ := RM_run hW hA hB hv true
        have hp := prz_le hW hD' (Or.inr (hW.2.2.1 v hv).1)
        rw [b_yes k, if_neg hO, if_pos hR, sbind, if_neg one_ne, b_ge (M_runs hW hD hA hB hv true rfl) (by omega)]
        exact Or.inr ⟨_, _, _, rfl, rfl, hD', RC_run1 hW hS hv, hA', hB'⟩
      · have hcl : cnd a d v ≤ 3 := by unfold cnd; split <;> (try split) <;> omega
        have k : f3_switchPump lY S 1 (i4 v) = some (0, S) := by
          unfold f3_switchPump
          rw [if_neg one_ne, C_startBar hW hD hL hS hv, sbind, if_neg hO, if_neg (show ¬ (i4 (cnd a d v) = (0 : Int32)) from fun h => hR ((i4_eq (b := 0) (by omega) (by omega)).mp h))]
        rw [b_not k, if_neg hO, if_neg hR, sbind, if_pos rfl]
        exact Or.inl ⟨S, w, rfl, rfl, h8⟩
  · rw [C_hasP_n hW hL hx, sbind, if_pos rfl, M_isP_n hW hA hx, sbind, if_pos rfl]
    exact Or.inl ⟨S, w, rfl, rfl, h8⟩
theorem xq_3 (hW : WFs a) (hD : WFd a d) (hL : RCs a lY) (hS : RCd a d S) (hA : RMs a w) (hB : RMd a d w) (h1 : RC_first rc = MF_first mf) : EXR_ a (f3_execute lY rc S 3) (f10_does mf w 3) := by
  have hN := hW.1
  have h8 := hS.2.1.2
  rw [xe_3, xd_3, h1]
  rcases in_cases (MF_first mf) (AS_nP a) with ⟨v, hv, hv2, e⟩ | hx
  · rw [e, C_hasP_y hW hL hv, sbind, if_neg one_ne, M_isP_y hW hA hv, sbind, if_neg one_ne, M_isRunning hW hB hv]
    by_cases hO : AD_run d v = true
    · have k : f3_switchPump lY S 0 (i4 v) = some ((1 : Int32), SS_set_runningPumps S (SS_runningPumps S &&& ((1 <<< (i4 v &&& 31)) ^^^ (-1)))) := by
        unfold f3_switchPump f3_switchPump_B25 f5_stopPump
        rw [if_pos rfl, C_isRunning hW hS hv, sbind, if_pos hO, if_neg one_ne, if_pos rfl, sbind]
      have hD' := WF_run hD (setN (AD_run d) v false)
      obtain ⟨hA', hB'⟩ := RM_run hW hA hB hv false
      have hp := prz_le hW hD' (Or.inr (hW.2.2.1 v hv).1)
      rw [b_yes k, if_pos hO, sbind, if_neg one_ne, b_ge (M_runs hW hD hA hB hv false rfl) (by omega)]
      exact Or.inr ⟨_, _, _, rfl, rfl, hD', RC_run0 hW hS hv, hA', hB'⟩
    · have k : f3_switchPump lY S 0 (i4 v) = some (0, S) := by
        unfold f3_switchPump
        rw [if_pos rfl, C_isRunning hW hS hv, sbind, if_neg hO, if_pos rfl]
      rw [b_not k, if_neg hO, sbind, if_pos rfl]
      exact Or.inl ⟨S, w, rfl, rfl, h8⟩
  · rw [C_hasP_n hW hL hx, sbind, if_pos rfl, M_isP_n hW hA hx, sbind, if_pos rfl]
    exact Or.inl ⟨S, w, rfl, rfl, h8⟩
theorem xq_4 (hW : WFs a) (hD : WFd a d) (hL : RCs a lY) (hS : RCd a d S) (hA : RMs a w) (hB : RMd a d w) (h1 : RC_first rc = MF_first mf) : EXR_ a (f3_execute lY rc S 4) (f10_does mf w 4) := by
  have h8 := hS.2.1.2
  rw [xe_4, xd_4, h1]
  rcases ticks_cases (MF_first mf) with ⟨n, hn1, hn2, e⟩ | hx
  · obtain ⟨S1, e1, hS'⟩ := C_pass hW hD hL hS (N := n) (by omega)
    obtain ⟨w1, e2, hA', hB'⟩ := M_pass hW hD hA hB (N := n) (by omega)
    have hD' := WF_tks hW n (d, 0) hD
    have hc := cnt_tks hW n (d, 0)
    rw [e, C_isTicks_y hn1 hn2, sbind, if_neg one_ne, M_isTicks_y hn1 hn2, sbind, if_neg one_ne, e1, sbind, b_ge e2 (by have hc' : (tksN a n (d, 0)).2 ≤ 0 + 16 * n := hc; omega)]
    exact Or.inr ⟨_, _, _, rfl, rfl, hD', hS', hA', hB'⟩
  · rw [C_isTicks_n hx, sbind, if_pos rfl, M_isTicks_n hx, sbind, if_pos rfl]
    exact Or.inl ⟨S, w, rfl, rfl, h8⟩
theorem xq_5 (hW : WFs a) (hD : WFd a d) (hL : RCs a lY) (hS : RCd a d S) (hA : RMs a w) (hB : RMd a d w) (h1 : RC_first rc = MF_first mf) (h2 : RC_second rc = MF_second mf) : EXR_ a (f3_execute lY rc S 5) (f10_does mf w 6) := by
  have h8 := hS.2.1.2
  rw [xe_5, xd_6, h1, h2]
  rcases in_cases (MF_first mf) (AS_nC a) with ⟨v, hv, hv2, e⟩ | hx
  · rcases upto_cases (MF_second mf) 1000000 with ⟨q, hq, hq2, ey⟩ | hy
    · obtain ⟨S1, e1, p8, hS1⟩ := C_unt hW hD hL hS hv hq
      obtain ⟨w1, e2, hw1⟩ := M_unt hW hD hA hB hv hq
      rw [e, ey, C_hasC_y hW hL hv, sbind, if_neg one_ne, C_isPressure_y hq, sbind, if_neg one_ne, M_isC_y hW hA hv, sbind, if_neg one_ne, M_isPressure_y hq, sbind, if_neg one_ne, e1, sbind, e2, sbind]
      dsimp only
      cases hu : untN a v q 999 0 d with
      | none =>
        rw [if_pos (show ansN none = -1 from rfl), if_pos (show ansN none < 0 by decide)]
        exact Or.inl ⟨S1, w1, rfl, rfl, p8⟩
      | some m =>
        obtain ⟨hD', -, hm⟩ := WF_unt hW 999 0 d hD m.1 m.2 hu
        have hS' := hS1 m.1 m.2 hu
        obtain ⟨hA', hB'⟩ := hw1 m.1 m.2 hu
        rw [if_neg (show ¬ (ansN (some m) = -1) from show ¬ (i4 m.1 = -1) by rw [i4_ne_m1 (by omega)]; exact id), if_neg (show ¬ (ansN (some m) < 0) from show ¬ (i4 m.1 < 0) from lt0_i4 (by omega))]
        exact Or.inr ⟨_, _, _, rfl, rfl, hD', hS', hA', hB'⟩
    · rw [e, C_hasC_y hW hL hv, sbind, if_neg one_ne, C_isPressure_n hy, sbind, if_pos rfl, M_isC_y hW hA hv, sbind, if_neg one_ne, M_isPressure_n hy, sbind, if_pos rfl]
      exact Or.inl ⟨S, w, rfl, rfl, h8⟩
  · rw [C_hasC_n hW hL hx, sbind, if_pos rfl, M_isC_n hW hA hx, sbind, if_pos rfl]
    exact Or.inl ⟨S, w, rfl, rfl, h8⟩
theorem xq_6 (hW : WFs a) (hD : WFd a d) (hL : RCs a lY) (hS : RCd a d S) (hA : RMs a w) (hB : RMd a d w) (h1 : RC_first rc = MF_first mf) : EXR_ a (f3_execute lY rc S 6) (f10_does mf w 5) := by
  have hN := hW.1
  have h8 := hS.2.1.2
  rw [xe_6, xd_5, h1]
  rcases in_cases (MF_first mf) (AS_nF a) with ⟨v, hv, hv2, e⟩ | hx
  · obtain ⟨S1, e1, hS'⟩ := C_putLeak hW hL hS hv 0
    obtain ⟨hA', hB'⟩ := RM_lk hW hA hB hv 0
    have hD' := WF_lk hD (c := v) (Nat.zero_le 9999)
    have hl := hD.2.2.1 v hv
    have ks : f10_setNow w (i4 (148 + 2 * v + 1)) 0 = some (i4 (AD_lk d v), vp_updL w (148 + 2 * v + 1) (i8 0)) := by
      unfold f10_setNow
      rw [gdi _ (by omega) (by omega), ix4 (by omega), hB.2.2.2.2.1 v hv, i8_to4]
      rfl
    rw [e, C_hasF_y hW hL hv, sbind, if_neg one_ne, M_isF_y hW hA hv, sbind, if_neg one_ne, show f5_putLeak lY S (i4 v) 0 = some S1 from e1, sbind, at_f, sbind, ad1, b_ge ks (by omega)]
    exact Or.inr ⟨_, _, _, rfl, rfl, hD', hS', hA', hB'⟩
  · rw [C_hasF_n hW hL hx, sbind, if_pos rfl, M_isF_n hW hA hx, sbind, if_pos rfl]
    exact Or.inl ⟨S, w, rfl, rfl, h8⟩
theorem xq_7 (hW : WFs a) (hD : WFd a d) (hL : RCs a lY) (hS : RCd a d S) (hA : RMs a w) (hB : RMd a d w) (h1 : RC_first rc = MF_first mf) (h2 : RC_second rc = MF_second mf) : EXR_ a (f3_execute lY rc S 7) (f10_does mf w 7) := by
  have h8 := hS.2.1.2
  rw [xe_7, xd_7, h1, h2]
  rcases in_cases (MF_first mf) (AS_nC a) with ⟨v, hv, hv2, e⟩ | hx
  · rcases tt_cases (MF_second mf) with ⟨n, hn, ey, t1, t2⟩ | ⟨t1, t2⟩
    · obtain ⟨r, s1, s2, s3⟩ := C_shut hW hL hS hv
      obtain ⟨r', m1, m2, m3⟩ := M_alone hW hA hB hv
      rw [e, C_hasC_y hW hL hv, sbind, if_neg one_ne, t1, sbind, if_neg one_ne, s1, sbind, M_isC_y hW hA hv, sbind, if_neg one_ne, t2, sbind, if_neg one_ne, m1, sbind, ey]
      by_cases hq : aln a d v
      · obtain ⟨S1, e1, hS'⟩ := C_test hW hD hL hS hv hn
        obtain ⟨w1, e2, hA', hB'⟩ := M_test hW hD hA hB hv hn
        have hD' := WF_tst hW hD v n
        have hv3 : tst1 a d v n < 3 := vrd_le _ _ _
        rw [s2 hq, m2 hq, if_neg one_ne, if_neg one_ne, e1, sbind, b_ge e2 (by omega)]
        exact Or.inr ⟨_, _, _, rfl, rfl, hD', hS', hA', hB'⟩
      · rw [s3 hq, m3 hq, if_pos rfl, if_pos rfl]
        exact Or.inl ⟨S, w, rfl, rfl, h8⟩
    · rw [e, C_hasC_y hW hL hv, sbind, if_neg one_ne, t1, sbind, if_pos rfl, M_isC_y hW hA hv, sbind, if_neg one_ne, t2, sbind, if_pos rfl]
      exact Or.inl ⟨S, w, rfl, rfl, h8⟩
  · rw [C_hasC_n hW hL hx, sbind, if_pos rfl, M_isC_n hW hA hx, sbind, if_pos rfl]
    exact Or.inl ⟨S, w, rfl, rfl, h8⟩
end EX
