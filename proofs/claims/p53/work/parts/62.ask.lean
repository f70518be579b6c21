/-! what the class answers, by what it holds -/
section ASK
variable {a : AS} {d : AD} {lY : LL} {tp : TP} {st : Fin 12 → SS}
theorem Q_gas (hI : IV a d lY tp st) {c : Nat} (hc : c < AS_nC a) : f9_gas lY tp st (i4 c) = some (i8 (AD_gas d c)) := by
  obtain ⟨⟨hW, hD, hL, hS⟩, -⟩ := hI
  have hN := hW.1
  unfold f9_gas
  rw [C_hasC_y hW hL hc, sbind, if_neg one_ne, gdi _ (by omega) (by omega), ix4 (by omega), (hS.2.1.1 c hc).1]
theorem Q_ch0 (hI : IV a d lY tp st) {c : Nat} (hc : c < AS_nC a) : f9_chamber lY tp st (i4 c) 0 = some (i4 (AS_vol a c)) := by
  obtain ⟨⟨hW, hD, hL, hS⟩, -⟩ := hI
  have hN := hW.1
  unfold f9_chamber
  rw [C_hasC_y hW hL hc, sbind, if_neg one_ne, if_pos rfl, gdi _ (by omega) (by omega), ix4 (by omega), (hL.2.1 c hc).1]
theorem Q_ch3 (hI : IV a d lY tp st) {c : Nat} (hc : c < AS_nC a) : f9_chamber lY tp st (i4 c) 3 = some (i4 (prz a d c)) := by
  obtain ⟨⟨hW, hD, hL, hS⟩, -⟩ := hI
  have hN := hW.1
  unfold f9_chamber
  rw [C_hasC_y hW hL hc, sbind, if_neg one_ne, if_neg (by decide), if_neg (by decide), if_neg (by decide), if_pos rfl, gdi _ (by omega) (by omega), ix4 (by omega), C_pr hS (Or.inr hc)]
theorem Q_ch4 (hI : IV a d lY tp st) {c : Nat} (hc : c < AS_nC a) : f9_chamber lY tp st (i4 c) 4 = some (i4 (lks a d c)) := by
  obtain ⟨⟨hW, hD, hL, hS⟩, -⟩ := hI
  have hN := hW.1
  unfold f9_chamber
  rw [C_hasC_y hW hL hc, sbind, if_neg one_ne, if_neg (by decide), if_neg (by decide), if_neg (by decide), if_neg (by decide), if_pos rfl, gdi _ (by omega) (by omega), ix4 (by omega), hS.2.2.2.1.1 c hc]
theorem Q_ch5 (hI : IV a d lY tp st) {c : Nat} (hc : c < AS_nC a) : f9_chamber lY tp st (i4 c) 5 = some (mskN (touV a c) (AS_nV a)) := by
  obtain ⟨⟨hW, hD, hL, hS⟩, -⟩ := hI
  have hN := hW.1
  unfold f9_chamber
  rw [C_hasC_y hW hL hc, sbind, if_neg one_ne, if_neg (by decide), if_neg (by decide), if_neg (by decide), if_neg (by decide), if_neg (by decide), if_pos rfl, C_valvesOf hW hL hc, sbind]
theorem Q_pu0 (hI : IV a d lY tp st) {p : Nat} (hp : p < AS_nP a) : f9_pump lY tp st (i4 p) 0 = some (i4 (AS_pC a p)) := by
  obtain ⟨⟨hW, hD, hL, hS⟩, -⟩ := hI
  have hN := hW.1
  unfold f9_pump
  rw [C_hasP_y hW hL hp, sbind, if_neg one_ne, if_pos rfl, gdi _ (by omega) (by omega), ix4 (by omega), (hL.2.2.1 p hp).1]
theorem Q_pu4 (hI : IV a d lY tp st) {p : Nat} (hp : p < AS_nP a) : f9_pump lY tp st (i4 p) 4 = some (i4 (AS_pH a p)) := by
  obtain ⟨⟨hW, hD, hL, hS⟩, -⟩ := hI
  have hN := hW.1
  unfold f9_pump
  rw [C_hasP_y hW hL hp, sbind, if_neg one_ne, if_neg (by decide), if_neg (by decide), if_neg (by decide), if_neg (by decide), if_pos rfl, gdi _ (by omega) (by omega), ix4 (by omega), (hL.2.2.1 p hp).2.2.2.2.1]
theorem Q_pu6 (hI : IV a d lY tp st) {p : Nat} (hp : p < AS_nP a) : f9_pump lY tp st (i4 p) 6 = some (if AD_run d p = true then 1 else 0) := by
  obtain ⟨⟨hW, hD, hL, hS⟩, -⟩ := hI
  have hN := hW.1
  unfold f9_pump
  rw [C_hasP_y hW hL hp, sbind, if_neg one_ne, if_neg (by decide), if_neg (by decide), if_neg (by decide), if_neg (by decide), if_neg (by decide), if_neg (by decide), if_pos rfl, C_isRunning hW hS hp, sbind, bit01]
theorem Q_pu7 (hI : IV a d lY tp st) {p : Nat} (hp : p < AS_nP a) : f9_pump lY tp st (i4 p) 7 = some (AD_pT d p).toInt32 := by
  obtain ⟨⟨hW, hD, hL, hS⟩, -⟩ := hI
  have hN := hW.1
  unfold f9_pump
  rw [C_hasP_y hW hL hp, sbind, if_neg one_ne, if_neg (by decide), if_neg (by decide), if_neg (by decide), if_neg (by decide), if_neg (by decide), if_neg (by decide), if_neg (by decide), if_pos rfl, gdi _ (by omega) (by omega), ix4 (by omega), (hS.2.2.2.2.2.2.1 p hp).2]
theorem Q_va3 (hI : IV a d lY tp st) {v : Nat} (hv : v < AS_nV a) : f9_valve lY tp st (i4 v) 3 = some (i4 (AD_rul d v)) := by
  obtain ⟨⟨hW, hD, hL, hS⟩, -⟩ := hI
  have hN := hW.1
  unfold f9_valve
  rw [C_hasV_y hW hL hv, sbind, if_neg one_ne, if_neg (by decide), if_neg (by decide), if_neg (by decide), if_pos rfl, gdi _ (by omega) (by omega), ix4 (by omega), hS.2.2.2.2.1 v hv]
theorem Q_va4 (hI : IV a d lY tp st) {v : Nat} (hv : v < AS_nV a) : f9_valve lY tp st (i4 v) 4 = some (if AD_opn d v = true then 1 else 0) := by
  obtain ⟨⟨hW, hD, hL, hS⟩, -⟩ := hI
  have hN := hW.1
  unfold f9_valve
  rw [C_hasV_y hW hL hv, sbind, if_neg one_ne, if_neg (by decide), if_neg (by decide), if_neg (by decide), if_neg (by decide), if_pos rfl, C_isOpen hW hS hv, sbind, bit01]
theorem Q_va5 (hI : IV a d lY tp st) {v : Nat} (hv : v < AS_nV a) : f9_valve lY tp st (i4 v) 5 = some (AD_vT d v).toInt32 := by
  obtain ⟨⟨hW, hD, hL, hS⟩, -⟩ := hI
  have hN := hW.1
  unfold f9_valve
  rw [C_hasV_y hW hL hv, sbind, if_neg one_ne, if_neg (by decide), if_neg (by decide), if_neg (by decide), if_neg (by decide), if_neg (by decide), if_pos rfl, gdi _ (by omega) (by omega), ix4 (by omega), (hS.2.2.2.2.2.1 v hv).2]
theorem Q_va6 (hI : IV a d lY tp st) {v : Nat} (hv : v < AS_nV a) : f9_valve lY tp st (i4 v) 6 = some (i4 (dif a d v)) := by
  obtain ⟨⟨hW, hD, hL, hS⟩, -⟩ := hI
  have hN := hW.1
  unfold f9_valve
  rw [C_hasV_y hW hL hv, sbind, if_neg one_ne, if_neg (by decide), if_neg (by decide), if_neg (by decide), if_neg (by decide), if_neg (by decide), if_neg (by decide), if_pos rfl, C_dif hW hD hL hS hv, sbind]
theorem Q_fl0 (hI : IV a d lY tp st) {f : Nat} (hf : f < AS_nF a) : f9_flange lY tp st (i4 f) 0 = some (i4 (AS_fH a f)) := by
  obtain ⟨⟨hW, hD, hL, hS⟩, -⟩ := hI
  have hN := hW.1
  unfold f9_flange
  rw [C_hasF_y hW hL hf, sbind, if_neg one_ne, if_pos rfl, gdi _ (by omega) (by omega), ix4 (by omega), hL.2.2.2.2 f hf]
theorem Q_fl1 (hI : IV a d lY tp st) {f : Nat} (hf : f < AS_nF a) : f9_flange lY tp st (i4 f) 1 = some (i4 (AD_lk d f)) := by
  obtain ⟨⟨hW, hD, hL, hS⟩, -⟩ := hI
  have hN := hW.1
  unfold f9_flange
  rw [C_hasF_y hW hL hf, sbind, if_neg one_ne, if_neg (by decide), if_pos rfl, gdi _ (by omega) (by omega), ix4 (by omega), hS.2.2.2.1.2 f hf]
theorem Q_n3 (hI : IV a d lY tp st) : f9_count lY tp st 3 = some (i4 (AS_nF a)) := by
  unfold f9_count
  rw [if_neg (by decide), if_neg (by decide), if_neg (by decide), if_pos rfl, hI.1.2.2.1.1.2.2.2]
theorem Q_n4 (hI : IV a d lY tp st) : f9_count lY tp st 4 = some (AD_tm d).toInt32 := by
  unfold f9_count
  rw [if_neg (by decide), if_neg (by decide), if_neg (by decide), if_neg (by decide), if_pos rfl, hI.1.2.2.2.1]
theorem Q_n5 (hI : IV a d lY tp st) : f9_count lY tp st 5 = some (AD_vTs d).toInt32 := by
  obtain ⟨⟨hW, hD, hL, hS⟩, -⟩ := hI
  unfold f9_count
  rw [if_neg (by decide), if_neg (by decide), if_neg (by decide), if_neg (by decide), if_neg (by decide), if_pos rfl, hL.1.2.2.1, C_sum_vt hW hD hS, sbind]
theorem Q_n6 (hI : IV a d lY tp st) : f9_count lY tp st 6 = some (AD_pTs d).toInt32 := by
  obtain ⟨⟨hW, hD, hL, hS⟩, -⟩ := hI
  unfold f9_count
  rw [if_neg (by decide), if_neg (by decide), if_neg (by decide), if_neg (by decide), if_neg (by decide), if_neg (by decide), if_pos rfl, hL.1.2.1, C_sum_pt hW hD hS, sbind]
theorem Q_n7 (hI : IV a d lY tp st) : f9_count lY tp st 7 = some (i4 (AD_kt d)) := by
  unfold f9_count
  rw [if_neg (by decide), if_neg (by decide), if_neg (by decide), if_neg (by decide), if_neg (by decide), if_neg (by decide), if_neg (by decide), if_pos rfl, hI.1.2.2.2.2.2.2.2.2.2.2.1]
theorem Q_mayOpen (hI : IV a d lY tp st) {v : Nat} (hv : v < AS_nV a) : f9_mayOpen lY tp st (i4 v) = some (if AD_opn d v = true then 1 else if dif a d v ≤ AD_rul d v then 0 else 2) := by
  obtain ⟨⟨hW, hD, hL, hS⟩, -⟩ := hI
  unfold f9_mayOpen
  rw [C_hasV_y hW hL hv, sbind, if_neg one_ne, C_openBar hW hD hL hS hv, sbind]
theorem Q_mayStart (hI : IV a d lY tp st) {p : Nat} (hp : p < AS_nP a) : f9_mayStart lY tp st (i4 p) = some (if AD_run d p = true then 1 else i4 (cnd a d p)) := by
  obtain ⟨⟨hW, hD, hL, hS⟩, -⟩ := hI
  unfold f9_mayStart
  rw [C_hasP_y hW hL hp, sbind, if_neg one_ne, C_startBar hW hD hL hS hp, sbind]
theorem Q_joined (hI : IV a d lY tp st) {c : Nat} (hc : c < AS_nC a) : f9_joined lY tp st (i4 c) = some (rch a (bit (SS_openValves (st (TP_pr tp)))) c 8 &&& 255) := by
  obtain ⟨⟨hW, hD, hL, hS⟩, -⟩ := hI
  unfold f9_joined
  rw [C_hasC_y hW hL hc, sbind, if_neg one_ne, C_reach hW hL, sbind]
theorem isB_if {p : Prop} [Decidable p] : isB (if p then (1 : Int32) else 0) = true := by
  split <;> rfl
theorem Q_vented (hI : IV a d lY tp st) {c : Nat} (hc : c < AS_nC a) : f9_isVented lY tp st (i4 c) = some (if bit (rch a (bit (SS_openValves (st (TP_pr tp)))) c 8) 8 = true then 1 else 0) := by
  obtain ⟨⟨hW, hD, hL, hS⟩, -⟩ := hI
  unfold f9_isVented
  rw [C_hasC_y hW hL hc, sbind, if_neg one_ne, C_reach hW hL, sbind, show (8 : Int32) = i4 8 from rfl, C_has _ (by omega), sbind, gd_of isB_if]
theorem Q_isolated (hI : IV a d lY tp st) {c : Nat} (hc : c < AS_nC a) : ∃ r, f9_isIsolated lY tp st (i4 c) = some r ∧ (aln a d c → r = 1) ∧ (¬ aln a d c → r = 0) := by
  obtain ⟨⟨hW, hD, hL, hS⟩, -⟩ := hI
  obtain ⟨r, e, h1, h0⟩ := C_shut hW hL hS hc
  refine ⟨r, ?_, h1, h0⟩
  have hb : isB r = true := by
    rcases Classical.em (aln a d c) with q | q
    · rw [h1 q]; rfl
    · rw [h0 q]; rfl
  unfold f9_isIsolated
  rw [C_hasC_y hW hL hc, sbind, if_neg one_ne, e, sbind, gd_of hb]
theorem Q_after (hI : IV a d lY tp st) {c n : Nat} (hc : c < AS_nC a) (h1 : 1 ≤ n) (h2 : n ≤ 999) : ∃ st', f9_pressureAfter lY tp st (i4 c) (i4 n) = some (i4 (prz a (tkD a n d) c), st') ∧ SX tp st st' := by
  have hI' := hI
  obtain ⟨⟨hW, hD, hL, hS⟩, h8, -⟩ := hI'
  have hN := hW.1
  obtain ⟨S0, e0, r0⟩ := V_begin hI
  obtain ⟨S1, e1, hS'⟩ := C_pass hW hD hL r0 (N := n) (by omega)
  refine ⟨_, ?_, SX_upd h8 hS'.2.1.2⟩
  unfold f9_pressureAfter
  rw [C_hasC_y hW hL hc, sbind, if_neg one_ne, C_isTicks_y h1 h2, sbind, if_neg one_ne, e0, sbind, uF_self, e1, sbind, gdi _ (by omega) (by omega), ix4 (by omega), uF_two]
  dsimp only
  rw [C_pr hS' (Or.inr hc), tks_tkD]
theorem Q_trips (hI : IV a d lY tp st) {n : Nat} (h1 : 1 ≤ n) (h2 : n ≤ 999) : ∃ st', f9_tripsIn lY tp st (i4 n) = some (i4 (tksN a n (d, 0)).2, st') ∧ SX tp st st' := by
  have hI' := hI
  obtain ⟨⟨hW, hD, hL, hS⟩, h8, -⟩ := hI'
  obtain ⟨S0, e0, r0⟩ := V_begin hI
  obtain ⟨S1, e1, hS'⟩ := C_pass hW hD hL r0 (N := n) (by omega)
  refine ⟨_, ?_, SX_upd h8 hS'.2.1.2⟩
  unfold f9_tripsIn
  rw [C_isTicks_y h1 h2, sbind, if_neg one_ne, e0, sbind, uF_self, e1, sbind, uF_two]
theorem Q_lowest (hI : IV a d lY tp st) {c n : Nat} (hc : c < AS_nC a) (h1 : 1 ≤ n) (h2 : n ≤ 999) : ∃ st', f9_lowest lY tp st (i4 c) (i4 n) = some (i4 (lws a c n d (prz a d c)), st') ∧ SX tp st st' := by
  have hI' := hI
  obtain ⟨⟨hW, hD, hL, hS⟩, h8, -⟩ := hI'
  have hN := hW.1
  have := FU_eq
  have hp := prz_le hW hD (e := c) (Or.inr hc)
  obtain ⟨S0, e0, r0⟩ := V_begin hI
  obtain ⟨S1, e1, p8⟩ := C_lowest0 (tp := tp) hW hL hc (N := n) (by omega) n 0 FU (prz a d c) d (updF st (TP_tr tp) S0) hD (by rw [uF_self]; exact r0) (by omega) (by omega) (by omega)
  refine ⟨_, ?_, SX_upd h8 p8⟩
  unfold f9_lowest
  rw [C_hasC_y hW hL hc, sbind, if_neg one_ne, C_isTicks_y h1 h2, sbind, if_neg one_ne, e0, sbind, gdi _ (by omega) (by omega), ix4 (by omega), uF_self, C_pr r0 (Or.inr hc), show f9_lowest_B51 lY tp FU _ _ _ _ 0 = _ from e1, uF_two]
theorem Q_mean (hI : IV a d lY tp st) {c n : Nat} (hc : c < AS_nC a) (h1 : 1 ≤ n) (h2 : n ≤ 999) : ∃ st', f9_meanPressure lY tp st (i4 c) (i4 n) = some (FP.ddiv (FP.l2d (mns a c n d 0)) (FP.i2d (i4 n)), st') ∧ SX tp st st' := by
  have hI' := hI
  obtain ⟨⟨hW, hD, hL, hS⟩, h8, -⟩ := hI'
  have hN := hW.1
  have := FU_eq
  obtain ⟨S0, e0, r0⟩ := V_begin hI
  obtain ⟨S1, e1, p8⟩ := C_mean0 (tp := tp) hW hL hc h1 h2 n 0 FU 0 d (updF st (TP_tr tp) S0) hD (by rw [uF_self]; exact r0) (by omega) (by omega)
  refine ⟨_, ?_, SX_upd h8 p8⟩
  unfold f9_meanPressure
  rw [C_hasC_y hW hL hc, sbind, if_neg one_ne, C_isTicks_y h1 h2, sbind, if_neg one_ne, e0, sbind, show f9_meanPressure_B43 lY tp FU _ _ _ 0 0 = _ from e1, uF_two]
theorem Q_ticksTo (hI : IV a d lY tp st) {v q : Nat} (hv : v < AS_nC a) (hq : q ≤ 1000000) {m : Nat × AD} (hu : untN a v q 999 0 d = some m) : ∃ st', f9_ticksTo lY tp st (i4 v) (i4 q) = some (i4 m.1, st') ∧ SX tp st st' := by
  have hI' := hI
  obtain ⟨⟨hW, hD, hL, hS⟩, h8, -⟩ := hI'
  have hN := hW.1
  obtain ⟨S0, e0, r0⟩ := V_begin hI
  obtain ⟨S1, e1, p8, hS1⟩ := C_unt hW hD hL r0 hv hq
  rw [hu] at e1
  obtain ⟨hD', -, hm⟩ := WF_unt hW 999 0 d hD m.1 m.2 hu
  have hne : ¬ (ansN (some m) = -1) := show ¬ (i4 m.1 = -1) by rw [i4_ne_m1 (by omega)]; exact id
  refine ⟨_, ?_, SX_upd h8 p8⟩
  unfold f9_ticksTo
  rw [C_hasC_y hW hL hv, sbind, if_neg one_ne, C_isPressure_y hq, sbind, if_neg one_ne, e0, sbind, uF_self, e1, sbind, uF_two]
  dsimp only
  rw [if_neg hne]
  rfl
theorem Q_report (hI : IV a d lY tp st) (rp : RP) : ∃ rp', f9_writeReport lY tp st rp = some (i4 (goN (lne a d) (AS_nC a) 0 (RP_bytes rp, 0)).2, rp') := by
  obtain ⟨⟨hW, hD, hL, hS⟩, -⟩ := hI
  have hN := hW.1
  have := FU_eq
  obtain ⟨rp', e, -⟩ := C_report0 hW hD hL hS (AS_nC a) 0 FU (RP_set_length rp 0) (RP_bytes rp, 0) (by omega) (by omega) ⟨rfl, fun i hi => absurd hi (by omega)⟩ (by show 0 ≤ _; omega)
  exact ⟨rp', e⟩
end ASK
