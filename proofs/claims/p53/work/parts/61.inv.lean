/-! what holds between the law's calls -/
def IV (a : AS) (d : AD) (lY : LL) (tp : TP) (st : Fin 12 → SS) : Prop := (WFs a ∧ WFd a d ∧ RCs a lY ∧ RCd a d (st (TP_pr tp))) ∧ PR8 st ∧ DST tp
def UD (tp : TP) (cnt np : Nat) : Prop := cnt ≤ 10 ∧ np < 10 ∧ TP_undoable tp = i4 cnt ∧ TP_nextPast tp = i4 np
/-- what stood before the last change -/
def BK (a : AS) (d : AD) (tp : TP) (st : Fin 12 → SS) (np : Nat) : Prop := WFd a d ∧ RCd a d (st (TP_past tp ((np + 9) % 10)))
/-- apart from the trial state all is as it was -/
def SX (tp : TP) (st st' : Fin 12 → SS) : Prop := (∀ j, j ≠ TP_tr tp → st' j = st j) ∧ PR8 st'
theorem SX_rfl {tp : TP} {st : Fin 12 → SS} (h : PR8 st) : SX tp st st := ⟨fun _ _ => rfl, h⟩
theorem SX_tr {tp : TP} {st st1 st2 : Fin 12 → SS} (h1 : SX tp st st1) (h2 : SX tp st1 st2) : SX tp st st2 := ⟨fun j hj => (h2.1 j hj).trans (h1.1 j hj), h2.2⟩
theorem SX_upd {tp : TP} {st : Fin 12 → SS} (h : PR8 st) {S' : SS} (h8 : SS_pressure S' 8 = i4 1000000) : SX tp st (updF st (TP_tr tp) S') := by
  refine ⟨fun j hj => uF_ne _ _ hj, fun j => ?_⟩
  by_cases q : j = TP_tr tp
  · rw [q, uF_self]; exact h8
  · rw [uF_ne _ _ q]; exact h j
theorem IV_sx {a : AS} {d : AD} {lY : LL} {tp : TP} {st st' : Fin 12 → SS} (hI : IV a d lY tp st) (h : SX tp st st') : IV a d lY tp st' :=
  ⟨⟨hI.1.1, hI.1.2.1, hI.1.2.2.1, by rw [h.1 _ hI.2.2.1]; exact hI.1.2.2.2⟩, h.2, hI.2.2⟩
theorem BK_sx {a : AS} {d : AD} {tp : TP} {st st' : Fin 12 → SS} {np : Nat} (hT : DST tp) (hB : BK a d tp st np) (h : SX tp st st') : BK a d tp st' np :=
  ⟨hB.1, by rw [h.1 _ (hT.2.1 _ (by omega)).2]; exact hB.2⟩
/-- a change: the new state, what undo gives back -/
def CH (a : AS) (d d' : AD) (lY : LL) (cnt np : Nat) (tp' : TP) (st' : Fin 12 → SS) : Prop := IV a d' lY tp' st' ∧ UD tp' (cnt1 cnt) ((np + 1) % 10) ∧ BK a d tp' st' ((np + 1) % 10)
theorem V_begin {a : AS} {d : AD} {lY : LL} {tp : TP} {st : Fin 12 → SS} (hI : IV a d lY tp st) : ∃ S0, f9_beginTrial tp st = some (updF st (TP_tr tp) S0) ∧ RCd a d S0 := by
  obtain ⟨⟨hW, hD, hL, hS⟩, h8, hT⟩ := hI
  obtain ⟨S0, e0, r0⟩ := C_copy hW hD hS (h8 (TP_tr tp))
  refine ⟨S0, ?_, r0⟩
  unfold f9_beginTrial
  rw [gd_of (decide_eq_true hT.1), e0, sbind]
theorem V_keep {a : AS} {d d' : AD} {lY : LL} {tp : TP} {st : Fin 12 → SS} {cnt np : Nat} {S' : SS} (hI : IV a d lY tp st) (hU : UD tp cnt np) (hD' : WFd a d') (hS' : RCd a d' S') :
    ∃ tp', f9_keepTrial tp = some tp' ∧ TP_pr tp' = TP_tr tp ∧ CH a d d' lY cnt np tp' (updF st (TP_tr tp) S') := by
  obtain ⟨⟨hW, hD, hL, hS⟩, h8, ⟨hT1, hT2, hT3⟩⟩ := hI
  obtain ⟨u1, u2, u3, u5⟩ := hU
  have hc1 : cnt1 cnt ≤ 10 := by unfold cnt1; split <;> omega
  refine ⟨(TP_tr tp, TP_past tp np, updN (TP_past tp) np (TP_pr tp), i4 ((np + 1) % 10), i4 (cnt1 cnt)), ?_, rfl, ⟨⟨hW, hD', hL, ?_⟩, fun j => ?_, ⟨(hT2 np u2).2.symm, fun k hk => ?_, fun k j hk hj hkj => ?_⟩⟩, ⟨hc1, by omega, rfl, rfl⟩, hD, ?_⟩
  · unfold f9_keepTrial
    rw [u5, u3, gdi _ u2 (by omega), ix4 (by omega), ad1, ad1, show (10 : Int32) = i4 10 from rfl, i4_mod (by omega) (by omega)]
    congr 1
    have : (if i4 10 < i4 (cnt + 1) then i4 10 else i4 (cnt + 1)) = i4 (cnt1 cnt) := by
      unfold cnt1
      by_cases h : cnt = 10
      · subst h; rfl
      · rw [if_neg h, if_neg (fun q => by have := (i4_lt (by omega) (by omega)).mp q; omega)]
    rw [this]
    rfl
  · show RCd a d' (updF st (TP_tr tp) S' (TP_tr tp))
    rw [uF_self]; exact hS'
  · by_cases h : j = TP_tr tp
    · rw [h, uF_self]; exact hS'.2.1.2
    · rw [uF_ne _ _ h]; exact h8 j
  · show updN (TP_past tp) np (TP_pr tp) k ≠ TP_tr tp ∧ updN (TP_past tp) np (TP_pr tp) k ≠ TP_past tp np
    by_cases h : k = np
    · rw [h, updN_self]
      exact ⟨hT1, (hT2 np u2).1.symm⟩
    · rw [updN_ne _ _ h]
      exact ⟨(hT2 k hk).2, hT3 k np hk u2 h⟩
  · show updN (TP_past tp) np (TP_pr tp) k ≠ updN (TP_past tp) np (TP_pr tp) j
    by_cases h : k = np
    · rw [h, updN_self, updN_ne _ _ (by omega)]
      exact (hT2 j hj).1.symm
    · rw [updN_ne _ _ h]
      by_cases h2 : j = np
      · rw [h2, updN_self]
        exact (hT2 k hk).1
      · rw [updN_ne _ _ h2]
        exact hT3 k j hk hj hkj
  · show RCd a d (updF st (TP_tr tp) S' (updN (TP_past tp) np (TP_pr tp) (((np + 1) % 10 + 9) % 10)))
    rw [show ((np + 1) % 10 + 9) % 10 = np by omega, updN_self, uF_ne _ _ hT1]
    exact hS
theorem V_undo {a : AS} {d d0 : AD} {lY : LL} {tp : TP} {st : Fin 12 → SS} {cnt np : Nat} (hI : IV a d lY tp st) (hU : UD tp cnt np) (h0 : cnt ≠ 0) (hB : BK a d0 tp st np) :
    ∃ tp' np', f9_undo tp = some (i4 (cnt - 1), tp') ∧ IV a d0 lY tp' st ∧ UD tp' (cnt - 1) np' := by
  obtain ⟨⟨hW, hD, hL, hS⟩, h8, ⟨hT1, hT2, hT3⟩⟩ := hI
  obtain ⟨u1, u2, u3, u5⟩ := hU
  have hne : ¬ (i4 cnt = (0 : Int32)) := fun q => h0 ((i4_eq (b := 0) (by omega) (by omega)).mp q)
  have hc1 : i4 cnt - 1 = i4 (cnt - 1) := i4_sub (b := 1) (by omega)
  have hnp : i4 np + 10 - 1 - (i4 np + 10 - 1) / 10 * 10 = i4 ((np + 9) % 10) := by
    rw [show i4 np + 10 = i4 (np + 10) from i4_add np 10, show i4 (np + 10) - 1 = i4 (np + 9) from i4_sub (b := 1) (by omega)]
    exact i4_mod (b := 10) (by omega) (by omega)
  have hn9 : (np + 9) % 10 < 10 := by omega
  refine ⟨(TP_past tp ((np + 9) % 10), TP_tr tp, updN (TP_past tp) ((np + 9) % 10) (TP_pr tp), i4 ((np + 9) % 10), i4 (cnt - 1)), (np + 9) % 10, ?_, ⟨⟨hW, hB.1, hL, hB.2⟩, h8, (hT2 _ hn9).2, fun k hk => ?_, fun k j hk hj hkj => ?_⟩, by omega, hn9, rfl, rfl⟩
  · unfold f9_undo
    rw [u3, u5, hnp, hc1, if_neg hne, gdi _ hn9 (by omega), ix4 (by omega)]
    rfl
  · show updN (TP_past tp) ((np + 9) % 10) (TP_pr tp) k ≠ TP_past tp ((np + 9) % 10) ∧ updN (TP_past tp) ((np + 9) % 10) (TP_pr tp) k ≠ TP_tr tp
    by_cases h : k = (np + 9) % 10
    · rw [h, updN_self]
      exact ⟨(hT2 _ hn9).1.symm, hT1⟩
    · rw [updN_ne _ _ h]
      exact ⟨hT3 k _ hk hn9 h, (hT2 k hk).2⟩
  · show updN (TP_past tp) ((np + 9) % 10) (TP_pr tp) k ≠ updN (TP_past tp) ((np + 9) % 10) (TP_pr tp) j
    by_cases h : k = (np + 9) % 10
    · rw [h, updN_self, updN_ne _ _ (by omega)]
      exact (hT2 j hj).1.symm
    · rw [updN_ne _ _ h]
      by_cases h2 : j = (np + 9) % 10
      · rw [h2, updN_self]
        exact (hT2 k hk).1
      · rw [updN_ne _ _ h2]
        exact hT3 k j hk hj hkj
section CHG
variable {a : AS} {d : AD} {lY : LL} {tp : TP} {st : Fin 12 → SS} {cnt np : Nat}
theorem D_open (hI : IV a d lY tp st) (hU : UD tp cnt np) {v : Nat} (hv : v < AS_nV a) (hO : ¬ AD_opn d v = true) (hR : dif a d v ≤ AD_rul d v) :
    ∃ tp' st', f9_open lY tp st (i4 v) = some (i4 (dif a d v), tp', st') ∧ CH a d (AD_set_opn d (setN (AD_opn d) v true)) lY cnt np tp' st' := by
  have hI' := hI
  obtain ⟨⟨hW, hD, hL, hS⟩, -⟩ := hI'
  have hN := hW.1
  obtain ⟨S0, e0, r0⟩ := V_begin hI
  have hS' := RC_opn1 hW r0 hv
  have hD' := WF_opn hD (setN (AD_opn d) v true)
  obtain ⟨tp', k1, k2, k4⟩ := V_keep hI hU hD' hS'
  refine ⟨tp', _, ?_, k4⟩
  unfold f9_open
  rw [C_hasV_y hW hL hv, sbind, if_neg one_ne, C_openBar hW hD hL hS hv, sbind, if_neg hO, if_pos hR, if_pos rfl, e0, sbind, uF_self]
  unfold f5_openValve
  rw [sbind, k1, sbind, uF_two, k2, uF_self, C_dif hW hD' hL hS' hv]
  rfl
theorem D_close (hI : IV a d lY tp st) (hU : UD tp cnt np) {v : Nat} (hv : v < AS_nV a) (hO : AD_opn d v = true) :
    ∃ tp' st', f9_close lY tp st (i4 v) = some (i4 (dif a d v), tp', st') ∧ CH a d (AD_set_opn d (setN (AD_opn d) v false)) lY cnt np tp' st' := by
  have hI' := hI
  obtain ⟨⟨hW, hD, hL, hS⟩, -⟩ := hI'
  have hN := hW.1
  obtain ⟨S0, e0, r0⟩ := V_begin hI
  have hS' := RC_opn0 hW r0 hv
  have hD' := WF_opn hD (setN (AD_opn d) v false)
  obtain ⟨tp', k1, k2, k4⟩ := V_keep hI hU hD' hS'
  refine ⟨tp', _, ?_, k4⟩
  unfold f9_close
  rw [C_hasV_y hW hL hv, sbind, if_neg one_ne, C_isOpen hW hS hv, sbind, if_pos hO, if_neg one_ne, e0, sbind, uF_self]
  unfold f5_closeValve
  rw [sbind, k1, sbind, uF_two, k2, uF_self, C_dif hW hD' hL hS' hv]
  rfl
theorem D_start (hI : IV a d lY tp st) (hU : UD tp cnt np) {v : Nat} (hv : v < AS_nP a) (hO : ¬ AD_run d v = true) (hc : cnd a d v = 0) :
    ∃ tp' st', f9_start lY tp st (i4 v) = some (i4 (prz a d (AS_pC a v)), tp', st') ∧ CH a d (AD_set_run d (setN (AD_run d) v true)) lY cnt np tp' st' := by
  have hI' := hI
  obtain ⟨⟨hW, hD, hL, hS⟩, -⟩ := hI'
  have hN := hW.1
  obtain ⟨S0, e0, r0⟩ := V_begin hI
  have hS' := RC_run1 hW r0 hv
  have hD' := WF_run hD (setN (AD_run d) v true)
  obtain ⟨tp', k1, k2, k4⟩ := V_keep hI hU hD' hS'
  obtain ⟨h1, h2, h3, h4, h5, h6, h7, h8⟩ := hW.2.2.1 v hv
  obtain ⟨e1, e2, e3, e4, e5, e6⟩ := hL.2.2.1 v hv
  refine ⟨tp', _, ?_, k4⟩
  unfold f9_start
  rw [C_hasP_y hW hL hv, sbind, if_neg one_ne, C_startBar hW hD hL hS hv, sbind, if_neg hO, hc, if_pos (show i4 0 = (0 : Int32) from rfl), e0, sbind, uF_self]
  unfold f5_startPump
  rw [sbind, k1, sbind, uF_two, k2, uF_self, gdi _ (by omega) (by omega), ix4 (by omega), e1, gdi _ (by omega) (by omega), ix4 (by omega), C_pr hS' (Or.inr h1)]
  rfl
theorem D_stop (hI : IV a d lY tp st) (hU : UD tp cnt np) {v : Nat} (hv : v < AS_nP a) (hO : AD_run d v = true) :
    ∃ tp' st', f9_stop lY tp st (i4 v) = some (i4 (prz a d (AS_pC a v)), tp', st') ∧ CH a d (AD_set_run d (setN (AD_run d) v false)) lY cnt np tp' st' := by
  have hI' := hI
  obtain ⟨⟨hW, hD, hL, hS⟩, -⟩ := hI'
  have hN := hW.1
  obtain ⟨S0, e0, r0⟩ := V_begin hI
  have hS' := RC_run0 hW r0 hv
  have hD' := WF_run hD (setN (AD_run d) v false)
  obtain ⟨tp', k1, k2, k4⟩ := V_keep hI hU hD' hS'
  obtain ⟨h1, h2, h3, h4, h5, h6, h7, h8⟩ := hW.2.2.1 v hv
  obtain ⟨e1, e2, e3, e4, e5, e6⟩ := hL.2.2.1 v hv
  refine ⟨tp', _, ?_, k4⟩
  unfold f9_stop
  rw [C_hasP_y hW hL hv, sbind, if_neg one_ne, C_isRunning hW hS hv, sbind, if_pos hO, if_neg one_ne, e0, sbind, uF_self]
  unfold f5_stopPump
  rw [sbind, k1, sbind, uF_two, k2, uF_self, gdi _ (by omega) (by omega), ix4 (by omega), e1, gdi _ (by omega) (by omega), ix4 (by omega), C_pr hS' (Or.inr h1)]
  rfl
theorem D_pass (hI : IV a d lY tp st) (hU : UD tp cnt np) {n : Nat} (hn1 : 1 ≤ n) (hn2 : n ≤ 999) :
    ∃ tp' st', f9_pass lY tp st (i4 n) = some (i4 (tksN a n (d, 0)).2, tp', st') ∧ CH a d (tksN a n (d, 0)).1 lY cnt np tp' st' := by
  have hI' := hI
  obtain ⟨⟨hW, hD, hL, hS⟩, -⟩ := hI'
  have hN := hW.1
  obtain ⟨S0, e0, r0⟩ := V_begin hI
  obtain ⟨S1, e1, hS'⟩ := C_pass hW hD hL r0 (N := n) (by omega)
  have hD' := WF_tks hW n (d, 0) hD
  obtain ⟨tp', k1, k2, k4⟩ := V_keep hI hU hD' hS'
  refine ⟨tp', _, ?_, k4⟩
  unfold f9_pass
  rw [C_isTicks_y hn1 hn2, sbind, if_neg one_ne, e0, sbind, uF_self, e1, sbind, k1, sbind, uF_two]
theorem D_passUntil (hI : IV a d lY tp st) (hU : UD tp cnt np) {v q : Nat} (hv : v < AS_nC a) (hq : q ≤ 1000000) {m : Nat × AD} (hu : untN a v q 999 0 d = some m) :
    ∃ tp' st', f9_passUntil lY tp st (i4 v) (i4 q) = some (i4 m.1, tp', st') ∧ CH a d m.2 lY cnt np tp' st' := by
  have hI' := hI
  obtain ⟨⟨hW, hD, hL, hS⟩, -⟩ := hI'
  have hN := hW.1
  obtain ⟨S0, e0, r0⟩ := V_begin hI
  obtain ⟨S1, e1, p8, hS1⟩ := C_unt hW hD hL r0 hv hq
  rw [hu] at e1
  obtain ⟨hD', -, hm⟩ := WF_unt hW 999 0 d hD m.1 m.2 hu
  have hS' := hS1 m.1 m.2 hu
  obtain ⟨tp', k1, k2, k4⟩ := V_keep hI hU hD' hS'
  have hne : ¬ (ansN (some m) = -1) := show ¬ (i4 m.1 = -1) by rw [i4_ne_m1 (by omega)]; exact id
  refine ⟨tp', _, ?_, k4⟩
  unfold f9_passUntil
  rw [C_hasC_y hW hL hv, sbind, if_neg one_ne, C_isPressure_y hq, sbind, if_neg one_ne, e0, sbind, uF_self, e1, sbind, uF_two]
  dsimp only
  rw [if_neg hne, k1]
  rfl
theorem D_leak (hI : IV a d lY tp st) (hU : UD tp cnt np) {f0 x : Nat} (h0 : f0 < AS_nF a) (hx : x ≤ 9999) :
    ∃ tp' st', f9_changeLeak lY tp st (i4 f0) (i4 x) = some (i4 (AD_lk d f0), tp', st') ∧ CH a d (AD_set_lk d (setN (AD_lk d) f0 x)) lY cnt np tp' st' := by
  have hI' := hI
  obtain ⟨⟨hW, hD, hL, hS⟩, -⟩ := hI'
  have hN := hW.1
  obtain ⟨S0, e0, r0⟩ := V_begin hI
  obtain ⟨S1, e1, hS'⟩ := C_putLeak hW hL r0 h0 x
  have hD' := WF_lk hD (c := f0) hx
  obtain ⟨tp', k1, k2, k4⟩ := V_keep hI hU hD' hS'
  refine ⟨tp', _, ?_, k4⟩
  unfold f9_changeLeak
  rw [gdi _ (by omega) (by omega), e0, sbind, uF_self, e1, sbind, k1, sbind, ix4 (by omega), hS.2.2.2.1.2 f0 h0, uF_two]
theorem D_seal (hI : IV a d lY tp st) (hU : UD tp cnt np) {f0 : Nat} (h0 : f0 < AS_nF a) :
    ∃ tp' st', f9_seal lY tp st (i4 f0) = some (i4 (AD_lk d f0), tp', st') ∧ CH a d (AD_set_lk d (setN (AD_lk d) f0 0)) lY cnt np tp' st' := by
  obtain ⟨tp', st', e, k⟩ := D_leak hI hU h0 (x := 0) (by omega)
  refine ⟨tp', st', ?_, k⟩
  unfold f9_seal
  rw [C_hasF_y hI.1.1 hI.1.2.2.1 h0, sbind, if_neg one_ne, show f9_changeLeak lY tp st (i4 f0) 0 = _ from e, sbind]
theorem D_setLeak (hI : IV a d lY tp st) (hU : UD tp cnt np) {f0 x : Nat} (h0 : f0 < AS_nF a) (hx : x ≤ 9999) :
    ∃ tp' st', f9_setLeak lY tp st (i4 f0) (i4 x) = some (i4 (AD_lk d f0), tp', st') ∧ CH a d (AD_set_lk d (setN (AD_lk d) f0 x)) lY cnt np tp' st' := by
  obtain ⟨tp', st', e, k⟩ := D_leak hI hU h0 hx
  refine ⟨tp', st', ?_, k⟩
  unfold f9_setLeak
  rw [C_hasF_y hI.1.1 hI.1.2.2.1 h0, sbind, if_neg one_ne, if_neg (lt0_i4 (by omega)), if_pos (show i4 x ≤ 9999 from (i4_le (b := 9999) (by omega) (by omega)).mpr hx), e, sbind]
theorem D_setRule (hI : IV a d lY tp st) (hU : UD tp cnt np) {v x : Nat} (hv : v < AS_nV a) (hx : x ≤ 1000000) :
    ∃ tp' st', f9_setRule lY tp st (i4 v) (i4 x) = some (i4 (AD_rul d v), tp', st') ∧ CH a d (AD_set_rul d (setN (AD_rul d) v x)) lY cnt np tp' st' := by
  have hI' := hI
  obtain ⟨⟨hW, hD, hL, hS⟩, -⟩ := hI'
  have hN := hW.1
  obtain ⟨S0, e0, r0⟩ := V_begin hI
  have hS' := RC_rul r0 (c0 := v) x
  have hD' := WF_rul hD (c := v) hx
  obtain ⟨tp', k1, k2, k4⟩ := V_keep hI hU hD' hS'
  refine ⟨tp', _, ?_, k4⟩
  unfold f9_setRule
  rw [C_hasV_y hW hL hv, sbind, if_neg one_ne, C_isPressure_y hx, sbind, if_neg one_ne, gdi _ (by omega) (by omega), e0, sbind, k1, sbind, ix4 (by omega), hS.2.2.2.2.1 v hv, uF_self, uF_two]
theorem tt_y {n : Nat} (h1 : 1 ≤ n) (h2 : 2 * n ≤ 999) : f9_isTestTicks (i4 (2 * n)) = some 1 := by
  unfold f9_isTestTicks
  rw [C_isTicks_y (by omega) h2, sbind, if_neg one_ne, show (2 : Int32) = i4 2 from rfl, i4_mod (by omega) (by omega), show 2 * n % 2 = 0 by omega, if_pos (show i4 0 = (0 : Int32) from rfl)]
theorem D_test (hI : IV a d lY tp st) (hU : UD tp cnt np) {c n : Nat} (hc : c < AS_nC a) (h1 : 1 ≤ n) (h2 : 2 * n ≤ 999) (ha : aln a d c) :
    ∃ tp' st', f9_test lY tp st (i4 c) (i4 (2 * n)) = some (i4 (tst1 a d c (2 * n)), tp', st') ∧ CH a d (tst2 a d c (2 * n)) lY cnt np tp' st' := by
  have hI' := hI
  obtain ⟨⟨hW, hD, hL, hS⟩, -⟩ := hI'
  have hN := hW.1
  obtain ⟨S0, e0, r0⟩ := V_begin hI
  obtain ⟨S1, e1, hS'⟩ := C_test hW hD hL r0 hc (N := 2 * n) (by omega)
  have hD' := WF_tst hW hD c (2 * n)
  obtain ⟨tp', k1, k2, k4⟩ := V_keep hI hU hD' hS'
  obtain ⟨r, er, ry, -⟩ := C_shut hW hL hS hc
  refine ⟨tp', _, ?_, k4⟩
  unfold f9_test
  rw [C_hasC_y hW hL hc, sbind, if_neg one_ne, tt_y h1 h2, sbind, if_neg one_ne, er, sbind, ry ha, if_neg one_ne, e0, sbind, uF_self, e1, sbind, k1, sbind, uF_two]
end CHG
