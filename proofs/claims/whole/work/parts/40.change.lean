/-! the changes, but the test -/
def GOODc (a : AS) (lY : LL) (r1 : Int32 × (TP) × (Fin 12 → SS) × (Nat → Int64)) (r2 : Int32 × (Nat → Int64) × (Nat → Int64) × (MU) × (Int32)) : Prop :=
  r2.2.2.2.2 = r1.1 ∧ (r1.1 = 0 → r1.2.2.2 (ix 0) = r2.1.toInt64) ∧ ∃ d', INVd a d' lY r1.2.1 r1.2.2.1 r2.2.1 r2.2.2.2.1
section CH
variable {a : AS} {d : AD} {lY : LL} {tp : TP} {st : Fin 12 → SS} {w aside : Nat → Int64} {mu : MU} {th : Int32} {ou : Nat → Int64}
theorem NO_c {X1 : Option (Int32 × (TP) × (Fin 12 → SS) × (Nat → Int64))} {X2 : Option (Int32 × (Nat → Int64) × (Nat → Int64) × (MU) × (Int32))} {st' : Fin 12 → SS} {w' aside' : Nat → Int64} (c : Int32) (hc : c ≠ 0) (hI : INVd a d lY tp st' w' mu) (h1 : X1 = some (c, tp, st', ou)) (h2 : X2 = some (0, w', aside', mu, c)) : ∃ r1 r2, X1 = some r1 ∧ X2 = some r2 ∧ GOODc a lY r1 r2 :=
  ⟨_, _, h1, h2, rfl, fun h => absurd h hc, d, hI⟩
theorem YES_c {X1 : Option (Int32 × (TP) × (Fin 12 → SS) × (Nat → Int64))} {X2 : Option (Int32 × (Nat → Int64) × (Nat → Int64) × (MU) × (Int32))} {tp' : TP} {st' : Fin 12 → SS} {w' aside' : Nat → Int64} {mu' : MU} {d' : AD} {v : Int32} (hI : INVd a d' lY tp' st' w' mu') (h1 : X1 = some (0, tp', st', vp_updL ou (ix 0) v.toInt64)) (h2 : X2 = some (v, w', aside', mu', 0)) : ∃ r1 r2, X1 = some r1 ∧ X2 = some r2 ∧ GOODc a lY r1 r2 :=
  ⟨_, _, h1, h2, rfl, fun _ => show vp_updL ou (ix 0) v.toInt64 (ix 0) = v.toInt64 from updL_self _ _ _, d', hI⟩
theorem C_openBar {ly : LL} {S : SS} (hW : WFs a) (hD : WFd a d) (hL : RCs a ly) (hS : RCd a d S) {v : Nat} (hv : v < AS_nV a) : f5_openingBar ly S (i4 v) = some (if AD_opn d v = true then 1 else if dif a d v ≤ AD_rul d v then 0 else 2) := by
  have hN := hW.1
  have h1 := dif_le hW hD hv
  have h2 := hD.2.1 v hv
  unfold f5_openingBar
  rw [C_isOpen hW hS hv, sbind]
  by_cases hO : AD_opn d v = true
  · rw [if_pos hO, if_neg one_ne, if_pos hO]
  · rw [if_neg hO, if_pos rfl, if_neg hO, C_dif hW hD hL hS hv, sbind, gdi _ (by omega) (by omega), ix4 (by omega), hS.2.2.2.2.1 v hv]
    congr 1
    by_cases c : dif a d v ≤ AD_rul d v
    · rw [if_pos c, if_pos ((i4_le (by omega) (by omega)).mpr c)]
    · rw [if_neg c, if_neg (fun h => c ((i4_le (by omega) (by omega)).mp h))]
theorem M_canOpen (hW : WFs a) (hD : WFd a d) (hA : RMs a w) (hB : RMd a d w) {v : Nat} (hv : v < AS_nV a) : f10_canOpen w (i4 v) = some (if AD_opn d v = true then 0 else if dif a d v ≤ AD_rul d v then 1 else 0) := by
  unfold f10_canOpen
  rw [M_isOpen hW hB hv, sbind]
  by_cases hO : AD_opn d v = true
  · rw [if_pos hO, if_neg one_ne, if_pos hO]
  · rw [if_neg hO, if_pos rfl, if_neg hO, M_mayJoin hW hD hA hB hv, sbind]
    by_cases c : dif a d v ≤ AD_rul d v
    · rw [if_pos c, if_neg (show ¬ AD_rul d v < dif a d v by omega), if_neg one_ne]
    · rw [if_neg c, if_pos (show AD_rul d v < dif a d v by omega), if_pos rfl]
theorem C_startBar {ly : LL} {S : SS} (hW : WFs a) (hD : WFd a d) (hL : RCs a ly) (hS : RCd a d S) {p : Nat} (hp : p < AS_nP a) : f5_startingBar ly S (i4 p) = some (if AD_run d p = true then 1 else i4 (cnd a d p)) := by
  unfold f5_startingBar
  rw [C_isRunning hW hS hp, sbind]
  by_cases hO : AD_run d p = true
  · rw [if_pos hO, if_neg one_ne, if_pos hO]
  · rw [if_neg hO, if_pos rfl, if_neg hO, C_cnd hW hD hL hS hp, sbind]
theorem M_canStart (hW : WFs a) (hD : WFd a d) (hA : RMs a w) (hB : RMd a d w) {p : Nat} (hp : p < AS_nP a) : f10_canStart w (i4 p) = some (if AD_run d p = true then 0 else if cnd a d p = 0 then 1 else 0) := by
  unfold f10_canStart
  rw [M_isRunning hW hB hp, sbind]
  by_cases hO : AD_run d p = true
  · rw [if_pos hO, if_neg one_ne, if_pos hO]
  · rw [if_neg hO, if_pos rfl, if_neg hO, M_isLowEnough hW hD hA hB hp, sbind]
    unfold cnd
    by_cases c : prz a d (AS_pC a p) ≤ AS_pH a p
    · rw [if_pos c, if_neg one_ne, if_pos c, M_isBacked hW hD hA hB hp, sbind]
      by_cases c2 : AS_pE a p = 8 ∨ prz a d (AS_pE a p) ≤ AS_pB a p
      · rw [if_pos c2, if_neg one_ne, if_pos c2, if_pos rfl]
      · rw [if_neg c2, if_pos rfl, if_neg c2, if_neg (by decide)]
    · rw [if_neg c, if_pos rfl, if_neg c, if_neg (by decide)]
theorem M_remember {w aside : Nat → Int64} {mu mu' : MU} (h : f10_push (cp256 w aside) mu = some mu') : f10_remember w aside mu = some (cp256 w aside, mu') := by
  unfold f10_remember
  rw [M_cp_w_aside, sbind, h, sbind]
theorem S_open (hI : INVd a d lY tp st w mu) (x : Int32) : ∃ r1 r2, fL_open lY tp st ou x = some r1 ∧ f10_open w aside mu th x = some r2 ∧ GOODc a lY r1 r2 := by
  have hI' := hI
  obtain ⟨⟨hW, hD, hL, hS⟩, hA, hB, -⟩ := hI'
  rcases in_cases x (AS_nV a) with ⟨v, hv, hv2, rfl⟩ | hx
  · have hN := hW.1
    by_cases hO : AD_opn d v = true
    · refine NO_c 2 (by decide) hI (ou := ou) (aside' := aside) ?_ ?_
      · unfold fL_open f9_open
        rw [C_hasV_y hW hL hv, sbind, if_neg one_ne, C_openBar hW hD hL hS hv, sbind, if_pos hO, if_neg one_ne]
        rfl
      · unfold f10_open
        rw [M_isV_y hW hA hv, sbind, fails_y, sbind]
        dsimp only
        rw [if_pos rfl, M_canOpen hW hD hA hB hv, if_pos hO, sbind, fails_n, sbind]
        dsimp only
        rw [if_neg one_ne]
    · by_cases hR : dif a d v ≤ AD_rul d v
      · obtain ⟨S0, e0, r0⟩ := C_begin hI
        obtain ⟨hA', hB'⟩ := RM_opn hW hA hB hv true
        have hS' := RC_opn1 hW r0 hv
        have hD' := WF_opn hD (setN (AD_opn d) v true)
        obtain ⟨tp', mu', k1, k2, k3, k4⟩ := KEEP hI hD' hS' hA' hB' (fun k hk => cp256_lt w aside hk)
        refine YES_c k4 (v := i4 (dif a (AD_set_opn d (setN (AD_opn d) v true)) v)) (ou := ou) (aside' := cp256 w aside) ?_ ?_
        · unfold fL_open f9_open
          rw [C_hasV_y hW hL hv, sbind, if_neg one_ne, C_openBar hW hD hL hS hv, sbind, if_neg hO, if_pos hR, if_pos rfl, e0, sbind, uF_self]
          unfold f5_openValve
          rw [sbind, k1, sbind, uF_two, k2, uF_self, C_dif hW hD' hL hS' hv]
          rfl
        · unfold f10_open
          rw [M_isV_y hW hA hv, sbind, fails_y, sbind]
          dsimp only
          rw [if_pos rfl, M_canOpen hW hD hA hB hv, if_neg hO, if_pos hR, sbind, fails_y, sbind]
          dsimp only
          rw [if_pos rfl, M_remember k3, sbind]
          unfold f10_turn
          rw [at_v, sbind, ad4, gdi _ (by omega) (by omega), ix4 (by omega), show (1 : Int32).toInt64 = b8 true from rfl, M_dif hW hD' hA' hB' hv, sbind, sbind, i8_to4]
      · refine NO_c 2 (by decide) hI (ou := ou) (aside' := aside) ?_ ?_
        · unfold fL_open f9_open
          rw [C_hasV_y hW hL hv, sbind, if_neg one_ne, C_openBar hW hD hL hS hv, sbind, if_neg hO, if_neg hR, if_neg (by decide)]
          rfl
        · unfold f10_open
          rw [M_isV_y hW hA hv, sbind, fails_y, sbind]
          dsimp only
          rw [if_pos rfl, M_canOpen hW hD hA hB hv, if_neg hO, if_neg hR, sbind, fails_n, sbind]
          dsimp only
          rw [if_neg one_ne]
  · refine NO_c 1 (by decide) hI (ou := ou) (aside' := aside) ?_ ?_
    · unfold fL_open f9_open
      rw [C_hasV_n hW hL hx, sbind, if_pos rfl]
      rfl
    · unfold f10_open
      rw [M_isV_n hW hA hx, sbind, fails_n, sbind]
      dsimp only
      rw [if_neg one_ne]
theorem S_close (hI : INVd a d lY tp st w mu) (x : Int32) : ∃ r1 r2, fL_close lY tp st ou x = some r1 ∧ f10_close w aside mu th x = some r2 ∧ GOODc a lY r1 r2 := by
  have hI' := hI
  obtain ⟨⟨hW, hD, hL, hS⟩, hA, hB, -⟩ := hI'
  have hN := hW.1
  rcases in_cases x (AS_nV a) with ⟨v, hv, hv2, rfl⟩ | hx
  · by_cases hO : AD_opn d v = true
    · obtain ⟨S0, e0, r0⟩ := C_begin hI
      obtain ⟨hA', hB'⟩ := RM_opn hW hA hB hv false
      have hS' := RC_opn0 hW r0 hv
      have hD' := WF_opn hD (setN (AD_opn d) v false)
      obtain ⟨tp', mu', k1, k2, k3, k4⟩ := KEEP hI hD' hS' hA' hB' (fun k hk => cp256_lt w aside hk)
      refine YES_c k4 (v := i4 (dif a (AD_set_opn d (setN (AD_opn d) v false)) v)) (ou := ou) (aside' := cp256 w aside) ?_ ?_
      · unfold fL_close f9_close
        rw [C_hasV_y hW hL hv, sbind, if_neg one_ne, C_isOpen hW hS hv, sbind, if_pos hO, if_neg one_ne, e0, sbind, uF_self]
        unfold f5_closeValve
        rw [sbind, k1, sbind, uF_two, k2, uF_self, C_dif hW hD' hL hS' hv]
        rfl
      · unfold f10_close
        rw [M_isV_y hW hA hv, sbind, fails_y, sbind]
        dsimp only
        rw [if_pos rfl, M_isOpen hW hB hv, if_pos hO, sbind, fails_y, sbind]
        dsimp only
        rw [if_pos rfl, M_remember k3, sbind]
        unfold f10_turn
        rw [at_v, sbind, ad4, gdi _ (by omega) (by omega), ix4 (by omega), show (0 : Int32).toInt64 = b8 false from rfl, M_dif hW hD' hA' hB' hv, sbind, sbind, i8_to4]
    · refine NO_c 2 (by decide) hI (ou := ou) (aside' := aside) ?_ ?_
      · unfold fL_close f9_close
        rw [C_hasV_y hW hL hv, sbind, if_neg one_ne, C_isOpen hW hS hv, sbind, if_neg hO, if_pos rfl]
        rfl
      · unfold f10_close
        rw [M_isV_y hW hA hv, sbind, fails_y, sbind]
        dsimp only
        rw [if_pos rfl, M_isOpen hW hB hv, if_neg hO, sbind, fails_n, sbind]
        dsimp only
        rw [if_neg one_ne]
  · refine NO_c 1 (by decide) hI (ou := ou) (aside' := aside) ?_ ?_
    · unfold fL_close f9_close
      rw [C_hasV_n hW hL hx, sbind, if_pos rfl]
      rfl
    · unfold f10_close
      rw [M_isV_n hW hA hx, sbind, fails_n, sbind]
      dsimp only
      rw [if_neg one_ne]
theorem S_stop (hI : INVd a d lY tp st w mu) (x : Int32) : ∃ r1 r2, fL_stop lY tp st ou x = some r1 ∧ f10_stop w aside mu th x = some r2 ∧ GOODc a lY r1 r2 := by
  have hI' := hI
  obtain ⟨⟨hW, hD, hL, hS⟩, hA, hB, -⟩ := hI'
  have hN := hW.1
  rcases in_cases x (AS_nP a) with ⟨v, hv, hv2, rfl⟩ | hx
  · by_cases hO : AD_run d v = true
    · obtain ⟨S0, e0, r0⟩ := C_begin hI
      obtain ⟨hA', hB'⟩ := RM_run hW hA hB hv false
      have hS' := RC_run0 hW r0 hv
      have hD' := WF_run hD (setN (AD_run d) v false)
      obtain ⟨tp', mu', k1, k2, k3, k4⟩ := KEEP hI hD' hS' hA' hB' (fun k hk => cp256_lt w aside hk)
      obtain ⟨h1, h2, h3, h4, h5, h6, h7, h8⟩ := hW.2.2.1 v hv
      obtain ⟨e1, e2, e3, e4, e5, e6⟩ := hL.2.2.1 v hv
      refine YES_c k4 (v := i4 (prz a d (AS_pC a v))) (ou := ou) (aside' := cp256 w aside) ?_ ?_
      · unfold fL_stop f9_stop
        rw [C_hasP_y hW hL hv, sbind, if_neg one_ne, C_isRunning hW hS hv, sbind, if_pos hO, if_neg one_ne, e0, sbind, uF_self]
        unfold f5_stopPump
        rw [sbind, k1, sbind, uF_two, k2, uF_self, gdi _ (by omega) (by omega), ix4 (by omega), e1, gdi _ (by omega) (by omega), ix4 (by omega), C_pr hS' (Or.inr h1)]
        rfl
      · unfold f10_stop
        rw [M_isP_y hW hA hv, sbind, fails_y, sbind]
        dsimp only
        rw [if_pos rfl, M_isRunning hW hB hv, if_pos hO, sbind, fails_y, sbind]
        dsimp only
        rw [if_pos rfl, M_remember k3, sbind]
        unfold f10_run
        rw [at_p, sbind, ad6, gdi _ (by omega) (by omega), ix4 (by omega), show (0 : Int32).toInt64 = b8 false from rfl, M_pC hW hA' hv, sbind, M_prc hW hD' hA' hB' h1, sbind, sbind, i8_to4]
        rfl
    · refine NO_c 2 (by decide) hI (ou := ou) (aside' := aside) ?_ ?_
      · unfold fL_stop f9_stop
        rw [C_hasP_y hW hL hv, sbind, if_neg one_ne, C_isRunning hW hS hv, sbind, if_neg hO, if_pos rfl]
        rfl
      · unfold f10_stop
        rw [M_isP_y hW hA hv, sbind, fails_y, sbind]
        dsimp only
        rw [if_pos rfl, M_isRunning hW hB hv, if_neg hO, sbind, fails_n, sbind]
        dsimp only
        rw [if_neg one_ne]
  · refine NO_c 1 (by decide) hI (ou := ou) (aside' := aside) ?_ ?_
    · unfold fL_stop f9_stop
      rw [C_hasP_n hW hL hx, sbind, if_pos rfl]
      rfl
    · unfold f10_stop
      rw [M_isP_n hW hA hx, sbind, fails_n, sbind]
      dsimp only
      rw [if_neg one_ne]
theorem S_start (hI : INVd a d lY tp st w mu) (x : Int32) : ∃ r1 r2, fL_start lY tp st ou x = some r1 ∧ f10_start w aside mu th x = some r2 ∧ GOODc a lY r1 r2 := by
  have hI' := hI
  obtain ⟨⟨hW, hD, hL, hS⟩, hA, hB, -⟩ := hI'
  have hN := hW.1
  rcases in_cases x (AS_nP a) with ⟨v, hv, hv2, rfl⟩ | hx
  · by_cases hO : AD_run d v = true
    · refine NO_c 2 (by decide) hI (ou := ou) (aside' := aside) ?_ ?_
      · unfold fL_start f9_start
        rw [C_hasP_y hW hL hv, sbind, if_neg one_ne, C_startBar hW hD hL hS hv, sbind, if_pos hO, if_neg one_ne]
        rfl
      · unfold f10_start
        rw [M_isP_y hW hA hv, sbind, fails_y, sbind]
        dsimp only
        rw [if_pos rfl, M_canStart hW hD hA hB hv, if_pos hO, sbind, fails_n, sbind]
        dsimp only
        rw [if_neg one_ne]
    · by_cases hc : cnd a d v = 0
      · obtain ⟨S0, e0, r0⟩ := C_begin hI
        obtain ⟨hA', hB'⟩ := RM_run hW hA hB hv true
        have hS' := RC_run1 hW r0 hv
        have hD' := WF_run hD (setN (AD_run d) v true)
        obtain ⟨tp', mu', k1, k2, k3, k4⟩ := KEEP hI hD' hS' hA' hB' (fun k hk => cp256_lt w aside hk)
        obtain ⟨h1, h2, h3, h4, h5, h6, h7, h8⟩ := hW.2.2.1 v hv
        obtain ⟨e1, e2, e3, e4, e5, e6⟩ := hL.2.2.1 v hv
        refine YES_c k4 (v := i4 (prz a d (AS_pC a v))) (ou := ou) (aside' := cp256 w aside) ?_ ?_
        · unfold fL_start f9_start
          rw [C_hasP_y hW hL hv, sbind, if_neg one_ne, C_startBar hW hD hL hS hv, sbind, if_neg hO, hc, if_pos (show i4 0 = (0 : Int32) from rfl), e0, sbind, uF_self]
          unfold f5_startPump
          rw [sbind, k1, sbind, uF_two, k2, uF_self, gdi _ (by omega) (by omega), ix4 (by omega), e1, gdi _ (by omega) (by omega), ix4 (by omega), C_pr hS' (Or.inr h1)]
          rfl
        · unfold f10_start
          rw [M_isP_y hW hA hv, sbind, fails_y, sbind]
          dsimp only
          rw [if_pos rfl, M_canStart hW hD hA hB hv, if_neg hO, if_pos hc, sbind, fails_y, sbind]
          dsimp only
          rw [if_pos rfl, M_remember k3, sbind]
          unfold f10_run
          rw [at_p, sbind, ad6, gdi _ (by omega) (by omega), ix4 (by omega), show (1 : Int32).toInt64 = b8 true from rfl, M_pC hW hA' hv, sbind, M_prc hW hD' hA' hB' h1, sbind, sbind, i8_to4]
          rfl
      · have hcl : cnd a d v ≤ 3 := by unfold cnd; split <;> (try split) <;> omega
        refine NO_c 2 (by decide) hI (ou := ou) (aside' := aside) ?_ ?_
        · unfold fL_start f9_start
          rw [C_hasP_y hW hL hv, sbind, if_neg one_ne, C_startBar hW hD hL hS hv, sbind, if_neg hO, if_neg (show ¬ (i4 (cnd a d v) = (0 : Int32)) from fun h => hc ((i4_eq (b := 0) (by omega) (by omega)).mp h))]
          rfl
        · unfold f10_start
          rw [M_isP_y hW hA hv, sbind, fails_y, sbind]
          dsimp only
          rw [if_pos rfl, M_canStart hW hD hA hB hv, if_neg hO, if_neg hc, sbind, fails_n, sbind]
          dsimp only
          rw [if_neg one_ne]
  · refine NO_c 1 (by decide) hI (ou := ou) (aside' := aside) ?_ ?_
    · unfold fL_start f9_start
      rw [C_hasP_n hW hL hx, sbind, if_pos rfl]
      rfl
    · unfold f10_start
      rw [M_isP_n hW hA hx, sbind, fails_n, sbind]
      dsimp only
      rw [if_neg one_ne]
theorem S_pass (hI : INVd a d lY tp st w mu) (x : Int32) : ∃ r1 r2, fL_pass lY tp st ou x = some r1 ∧ f10_pass w aside mu th x = some r2 ∧ GOODc a lY r1 r2 := by
  have hI' := hI
  obtain ⟨⟨hW, hD, hL, hS⟩, hA, hB, -⟩ := hI'
  have hN := hW.1
  rcases ticks_cases x with ⟨n, hn1, hn2, rfl⟩ | hx
  · obtain ⟨S0, e0, r0⟩ := C_begin hI
    obtain ⟨S1, e1, hS'⟩ := C_pass hW hD hL r0 (N := n) (by omega)
    obtain ⟨w1, e2, hA', hB'⟩ := M_pass hW hD hA hB (N := n) (by omega)
    have hD' := WF_tks hW n (d, 0) hD
    obtain ⟨tp', mu', k1, k2, k3, k4⟩ := KEEP hI hD' hS' hA' hB' (fun k hk => cp256_lt w aside hk)
    refine YES_c k4 (v := i4 (tksN a n (d, 0)).2) (ou := ou) (aside' := cp256 w aside) ?_ ?_
    · unfold fL_pass f9_pass
      rw [C_isTicks_y hn1 hn2, sbind, if_neg one_ne, e0, sbind, uF_self, e1, sbind, k1, sbind, uF_two]
      rfl
    · unfold f10_pass
      rw [M_isTicks_y hn1 hn2, sbind, fails_y, sbind]
      dsimp only
      rw [if_pos rfl, M_remember k3, sbind, e2, sbind]
  · refine NO_c 1 (by decide) hI (ou := ou) (aside' := aside) ?_ ?_
    · unfold fL_pass f9_pass
      rw [C_isTicks_n hx, sbind, if_pos rfl]
      rfl
    · unfold f10_pass
      rw [M_isTicks_n hx, sbind, fails_n, sbind]
      dsimp only
      rw [if_neg one_ne]
theorem S_passUntil (hI : INVd a d lY tp st w mu) (x y : Int32) : ∃ r1 r2, fL_passUntil lY tp st ou x y = some r1 ∧ f10_passUntil w aside mu th x y = some r2 ∧ GOODc a lY r1 r2 := by
  have hI' := hI
  obtain ⟨⟨hW, hD, hL, hS⟩, hA, hB, -⟩ := hI'
  have hN := hW.1
  rcases in_cases x (AS_nC a) with ⟨v, hv, hv2, rfl⟩ | hx
  · rcases upto_cases y 1000000 with ⟨q, hq, hq2, rfl⟩ | hy
    · obtain ⟨S0, e0, r0⟩ := C_begin hI
      obtain ⟨S1, e1, p8, hS1⟩ := C_unt hW hD hL r0 hv hq
      obtain ⟨w1, e2, hw1⟩ := M_unt hW hD hA hB hv hq
      cases hu : untN a v q 999 0 d with
      | none =>
        rw [hu] at e1 e2
        have hI2 : INVd a d lY tp (updF st (TP_tr tp) S1) (cp256 (cp256 w aside) w1) mu := by
          obtain ⟨i1, -, -, i4, i5, i6⟩ := SCR hI p8
          have e : ∀ k, k < 256 → cp256 (cp256 w aside) w1 k = w k := fun k hk => by rw [cp256_lt _ _ hk, cp256_lt _ _ hk]
          exact ⟨i1, RMs_256 hW hA e, RMd_256 hW hD hB e, i4, i5, i6⟩
        refine NO_c 3 (by decide) hI2 (ou := ou) (aside' := cp256 w aside) ?_ ?_
        · unfold fL_passUntil f9_passUntil
          rw [C_hasC_y hW hL hv, sbind, if_neg one_ne, C_isPressure_y hq, sbind, if_neg one_ne, e0, sbind, uF_self, e1, sbind, uF_two]
          rfl
        · unfold f10_passUntil
          rw [M_isC_y hW hA hv, sbind, fails_y, sbind]
          dsimp only
          rw [if_pos rfl, M_isPressure_y hq, sbind, fails_y, sbind]
          dsimp only
          rw [if_pos rfl, M_cp_w_aside, sbind, e2, sbind]
          dsimp only
          rw [if_pos (show ansN none = -1 from rfl), M_cp_aside_w, sbind]
          rfl
      | some m =>
        rw [hu] at e1 e2
        obtain ⟨hD', -, hm⟩ := WF_unt hW 999 0 d hD m.1 m.2 hu
        have hS' := hS1 m.1 m.2 hu
        obtain ⟨hA', hB'⟩ := hw1 m.1 m.2 hu
        obtain ⟨tp', mu', k1, k2, k3, k4⟩ := KEEP hI hD' hS' hA' hB' (fun k hk => cp256_lt w aside hk)
        have hne : ¬ (ansN (some m) = -1) := show ¬ (i4 m.1 = -1) by rw [i4_ne_m1 (by omega)]; exact id
        refine YES_c k4 (v := ansN (some m)) (ou := ou) (aside' := cp256 w aside) ?_ ?_
        · unfold fL_passUntil f9_passUntil
          rw [C_hasC_y hW hL hv, sbind, if_neg one_ne, C_isPressure_y hq, sbind, if_neg one_ne, e0, sbind, uF_self, e1, sbind, uF_two]
          dsimp only
          rw [if_neg hne, k1]
          rfl
        · unfold f10_passUntil
          rw [M_isC_y hW hA hv, sbind, fails_y, sbind]
          dsimp only
          rw [if_pos rfl, M_isPressure_y hq, sbind, fails_y, sbind]
          dsimp only
          rw [if_pos rfl, M_cp_w_aside, sbind, e2, sbind]
          dsimp only
          rw [if_neg hne, k3, sbind]
    · refine NO_c 2 (by decide) hI (ou := ou) (aside' := aside) ?_ ?_
      · unfold fL_passUntil f9_passUntil
        rw [C_hasC_y hW hL hv, sbind, if_neg one_ne, C_isPressure_n hy, sbind, if_pos rfl]
        rfl
      · unfold f10_passUntil
        rw [M_isC_y hW hA hv, sbind, fails_y, sbind]
        dsimp only
        rw [if_pos rfl, M_isPressure_n hy, sbind, fails_n, sbind]
        dsimp only
        rw [if_neg one_ne]
  · refine NO_c 1 (by decide) hI (ou := ou) (aside' := aside) ?_ ?_
    · unfold fL_passUntil f9_passUntil
      rw [C_hasC_n hW hL hx, sbind, if_pos rfl]
      rfl
    · unfold f10_passUntil
      rw [M_isC_n hW hA hx, sbind, fails_n, sbind]
      dsimp only
      rw [if_neg one_ne]
theorem C_changeLeak (hI : INVd a d lY tp st w mu) {f0 x : Nat} (h0 : f0 < AS_nF a) (hx : x ≤ 9999) (aside : Nat → Int64) :
    ∃ tp' st' mu', f9_changeLeak lY tp st (i4 f0) (i4 x) = some (i4 (AD_lk d f0), tp', st') ∧ f10_sets w aside mu (i4 (148 + 2 * f0 + 1)) (i4 x) = some (i4 (AD_lk d f0), vp_updL w (148 + 2 * f0 + 1) (i8 x), cp256 w aside, mu') ∧ INVd a (AD_set_lk d (setN (AD_lk d) f0 x)) lY tp' st' (vp_updL w (148 + 2 * f0 + 1) (i8 x)) mu' := by
  have hI' := hI
  obtain ⟨⟨hW, hD, hL, hS⟩, hA, hB, -⟩ := hI'
  have hN := hW.1
  obtain ⟨S0, e0, r0⟩ := C_begin hI
  obtain ⟨S1, e1, hS'⟩ := C_putLeak hW hL r0 h0 x
  obtain ⟨hA', hB'⟩ := RM_lk hW hA hB h0 x
  have hD' := WF_lk hD (c := f0) hx
  obtain ⟨tp', mu', k1, k2, k3, k4⟩ := KEEP hI hD' hS' hA' hB' (fun k hk => cp256_lt w aside hk)
  refine ⟨tp', _, mu', ?_, ?_, k4⟩
  · unfold f9_changeLeak
    rw [gdi _ (by omega) (by omega), e0, sbind, uF_self, e1, sbind, k1, sbind, ix4 (by omega), hS.2.2.2.1.2 f0 h0, uF_two]
  · unfold f10_sets
    rw [M_remember k3, sbind]
    unfold f10_setNow
    rw [gdi _ (by omega) (by omega), sbind, ix4 (by omega), i4_to8 (by omega), hB.2.2.2.2.1 f0 h0, i8_to4]
theorem S_seal (hI : INVd a d lY tp st w mu) (x : Int32) : ∃ r1 r2, fL_seal lY tp st ou x = some r1 ∧ f10_seal w aside mu th x = some r2 ∧ GOODc a lY r1 r2 := by
  have hI' := hI
  obtain ⟨⟨hW, hD, hL, hS⟩, hA, hB, -⟩ := hI'
  have hN := hW.1
  rcases in_cases x (AS_nF a) with ⟨v, hv, hv2, rfl⟩ | hx
  · obtain ⟨tp', st', mu', k1, k2, k4⟩ := C_changeLeak hI hv (x := 0) (by omega) aside
    refine YES_c k4 (v := i4 (AD_lk d v)) (ou := ou) (aside' := cp256 w aside) ?_ ?_
    · unfold fL_seal f9_seal
      rw [C_hasF_y hW hL hv, sbind, if_neg one_ne, show f9_changeLeak lY tp st (i4 v) 0 = _ from k1]
      rfl
    · unfold f10_seal
      rw [M_isF_y hW hA hv, sbind, fails_y, sbind]
      dsimp only
      rw [if_pos rfl, at_f, sbind, ad1, show f10_sets w aside mu (i4 (148 + 2 * v + 1)) 0 = _ from k2, sbind]
  · refine NO_c 1 (by decide) hI (ou := ou) (aside' := aside) ?_ ?_
    · unfold fL_seal f9_seal
      rw [C_hasF_n hW hL hx, sbind, if_pos rfl]
      rfl
    · unfold f10_seal
      rw [M_isF_n hW hA hx, sbind, fails_n, sbind]
      dsimp only
      rw [if_neg one_ne]
theorem S_setLeak (hI : INVd a d lY tp st w mu) (x y : Int32) : ∃ r1 r2, fL_setLeak lY tp st ou x y = some r1 ∧ f10_setLeak w aside mu th x y = some r2 ∧ GOODc a lY r1 r2 := by
  have hI' := hI
  obtain ⟨⟨hW, hD, hL, hS⟩, hA, hB, -⟩ := hI'
  have hN := hW.1
  rcases in_cases x (AS_nF a) with ⟨v, hv, hv2, rfl⟩ | hx
  · rcases upto_cases y 9999 with ⟨q, hq, hq2, rfl⟩ | hy
    · obtain ⟨tp', st', mu', k1, k2, k4⟩ := C_changeLeak hI hv hq aside
      refine YES_c k4 (v := i4 (AD_lk d v)) (ou := ou) (aside' := cp256 w aside) ?_ ?_
      · unfold fL_setLeak f9_setLeak
        rw [C_hasF_y hW hL hv, sbind, if_neg one_ne, if_neg (lt0_i4 (by omega)), if_pos (show i4 q ≤ (9999 : Int32) from (i4_le (b := 9999) (by omega) (by omega)).mpr (by omega)), k1]
        rfl
      · unfold f10_setLeak
        rw [M_isF_y hW hA hv, sbind, fails_y, sbind]
        dsimp only
        rw [if_pos rfl, M_in_y (by rw [z8, i4_toInt (by omega)]; omega) (by rw [show (9999 : Int64).toInt = 9999 by decide, i4_toInt (by omega)]; omega), sbind, fails_y, sbind]
        dsimp only
        rw [if_pos rfl, at_f, sbind, ad1, k2, sbind]
    · refine NO_c 2 (by decide) hI (ou := ou) (aside' := aside) ?_ ?_
      · unfold fL_setLeak f9_setLeak
        rw [C_hasF_y hW hL hv, sbind, if_neg one_ne]
        by_cases q1 : y < 0
        · rw [if_pos q1]
          rfl
        · rw [if_neg q1]
          rw [Int32.lt_iff_toInt_lt, z4] at q1
          rw [if_neg (show ¬ (y ≤ (9999 : Int32)) from fun q => by rw [Int32.le_iff_toInt_le, show (9999 : Int32).toInt = 9999 by decide] at q; omega)]
          rfl
      · unfold f10_setLeak
        rw [M_isF_y hW hA hv, sbind, fails_y, sbind]
        dsimp only
        rw [if_pos rfl, M_in_n (by rw [z8, show (9999 : Int64).toInt = 9999 by decide]; omega), sbind, fails_n, sbind]
        dsimp only
        rw [if_neg one_ne]
  · refine NO_c 1 (by decide) hI (ou := ou) (aside' := aside) ?_ ?_
    · unfold fL_setLeak f9_setLeak
      rw [C_hasF_n hW hL hx, sbind, if_pos rfl]
      rfl
    · unfold f10_setLeak
      rw [M_isF_n hW hA hx, sbind, fails_n, sbind]
      dsimp only
      rw [if_neg one_ne]
theorem S_setOutgassing (hI : INVd a d lY tp st w mu) (x y : Int32) : ∃ r1 r2, fL_setOutgassing lY tp st ou x y = some r1 ∧ f10_setOutgassing w aside mu th x y = some r2 ∧ GOODc a lY r1 r2 := by
  have hI' := hI
  obtain ⟨⟨hW, hD, hL, hS⟩, hA, hB, -⟩ := hI'
  have hN := hW.1
  rcases in_cases x (AS_nC a) with ⟨v, hv, hv2, rfl⟩ | hx
  · rcases upto_cases y 9999 with ⟨q, hq, hq2, rfl⟩ | hy
    · obtain ⟨S0, e0, r0⟩ := C_begin hI
      obtain ⟨hA', hB'⟩ := RM_oug hW hA hB hv q
      have hS' := RC_oug r0 (c0 := v) q
      have hD' := WF_oug hD (c := v) hq
      obtain ⟨tp', mu', k1, k2, k3, k4⟩ := KEEP hI hD' hS' hA' hB' (fun k hk => cp256_lt w aside hk)
      refine YES_c k4 (v := i4 (AD_oug d v)) (ou := ou) (aside' := cp256 w aside) ?_ ?_
      · unfold fL_setOutgassing f9_setOutgassing
        rw [C_hasC_y hW hL hv, sbind, if_neg one_ne, if_neg (lt0_i4 (by omega)), if_pos (show i4 q ≤ (9999 : Int32) from (i4_le (b := 9999) (by omega) (by omega)).mpr (by omega)), gdi _ (by omega) (by omega), e0, sbind, k1, sbind, uF_self, uF_two, ix4 (by omega), hS.2.2.1 v hv]
        rfl
      · unfold f10_setOutgassing
        rw [M_isC_y hW hA hv, sbind, fails_y, sbind]
        dsimp only
        rw [if_pos rfl, M_in_y (by rw [z8, i4_toInt (by omega)]; omega) (by rw [show (9999 : Int64).toInt = 9999 by decide, i4_toInt (by omega)]; omega), sbind, fails_y, sbind]
        dsimp only
        rw [if_pos rfl, at_c, sbind, ad1]
        unfold f10_sets
        rw [M_remember k3, sbind]
        unfold f10_setNow
        rw [gdi _ (by omega) (by omega), sbind, ix4 (by omega), i4_to8 (by omega), (hB.2.1 v hv).1, i8_to4]
        rfl
    · refine NO_c 2 (by decide) hI (ou := ou) (aside' := aside) ?_ ?_
      · unfold fL_setOutgassing f9_setOutgassing
        rw [C_hasC_y hW hL hv, sbind, if_neg one_ne]
        by_cases q1 : y < 0
        · rw [if_pos q1]
          rfl
        · rw [if_neg q1]
          rw [Int32.lt_iff_toInt_lt, z4] at q1
          rw [if_neg (show ¬ (y ≤ (9999 : Int32)) from fun q => by rw [Int32.le_iff_toInt_le, show (9999 : Int32).toInt = 9999 by decide] at q; omega)]
          rfl
      · unfold f10_setOutgassing
        rw [M_isC_y hW hA hv, sbind, fails_y, sbind]
        dsimp only
        rw [if_pos rfl, M_in_n (by rw [z8, show (9999 : Int64).toInt = 9999 by decide]; omega), sbind, fails_n, sbind]
        dsimp only
        rw [if_neg one_ne]
  · refine NO_c 1 (by decide) hI (ou := ou) (aside' := aside) ?_ ?_
    · unfold fL_setOutgassing f9_setOutgassing
      rw [C_hasC_n hW hL hx, sbind, if_pos rfl]
      rfl
    · unfold f10_setOutgassing
      rw [M_isC_n hW hA hx, sbind, fails_n, sbind]
      dsimp only
      rw [if_neg one_ne]
theorem S_setRule (hI : INVd a d lY tp st w mu) (x y : Int32) : ∃ r1 r2, fL_setRule lY tp st ou x y = some r1 ∧ f10_setRule w aside mu th x y = some r2 ∧ GOODc a lY r1 r2 := by
  have hI' := hI
  obtain ⟨⟨hW, hD, hL, hS⟩, hA, hB, -⟩ := hI'
  have hN := hW.1
  rcases in_cases x (AS_nV a) with ⟨v, hv, hv2, rfl⟩ | hx
  · rcases upto_cases y 1000000 with ⟨q, hq, hq2, rfl⟩ | hy
    · obtain ⟨S0, e0, r0⟩ := C_begin hI
      obtain ⟨hA', hB'⟩ := RM_rul hW hA hB hv q
      have hS' := RC_rul r0 (c0 := v) q
      have hD' := WF_rul hD (c := v) hq
      obtain ⟨tp', mu', k1, k2, k3, k4⟩ := KEEP hI hD' hS' hA' hB' (fun k hk => cp256_lt w aside hk)
      refine YES_c k4 (v := i4 (AD_rul d v)) (ou := ou) (aside' := cp256 w aside) ?_ ?_
      · unfold fL_setRule f9_setRule
        rw [C_hasV_y hW hL hv, sbind, if_neg one_ne, C_isPressure_y hq, sbind, if_neg one_ne, gdi _ (by omega) (by omega), e0, sbind, k1, sbind, uF_self, uF_two, ix4 (by omega), hS.2.2.2.2.1 v hv]
        rfl
      · unfold f10_setRule
        rw [M_isV_y hW hA hv, sbind, fails_y, sbind]
        dsimp only
        rw [if_pos rfl, M_isPressure_y hq, sbind, fails_y, sbind]
        dsimp only
        rw [if_pos rfl, at_v, sbind, ad3]
        unfold f10_sets
        rw [M_remember k3, sbind]
        unfold f10_setNow
        rw [gdi _ (by omega) (by omega), sbind, ix4 (by omega), i4_to8 (by omega), (hB.2.2.2.1 v hv).1, i8_to4]
        rfl
    · refine NO_c 2 (by decide) hI (ou := ou) (aside' := aside) ?_ ?_
      · unfold fL_setRule f9_setRule
        rw [C_hasV_y hW hL hv, sbind, if_neg one_ne, C_isPressure_n hy, sbind, if_pos rfl]
        rfl
      · unfold f10_setRule
        rw [M_isV_y hW hA hv, sbind, fails_y, sbind]
        dsimp only
        rw [if_pos rfl, M_isPressure_n hy, sbind, fails_n, sbind]
        dsimp only
        rw [if_neg one_ne]
  · refine NO_c 1 (by decide) hI (ou := ou) (aside' := aside) ?_ ?_
    · unfold fL_setRule f9_setRule
      rw [C_hasV_n hW hL hx, sbind, if_pos rfl]
      rfl
    · unfold f10_setRule
      rw [M_isV_n hW hA hx, sbind, fails_n, sbind]
      dsimp only
      rw [if_neg one_ne]
end CH
