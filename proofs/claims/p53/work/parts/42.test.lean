/-! the rise test -/
def tkD (a : AS) : Nat → AD → AD
  | 0, d => d
  | n + 1, d => tkD a n (tic a (d, 0)).1
theorem tks_tkD (a : AS) : ∀ (n : Nat) (s : AD × Nat), (tksN a n s).1 = tkD a n s.1
  | 0, _ => rfl
  | n + 1, s => tks_tkD a n ((tic a (s.1, 0)).1, s.2 + (tic a (s.1, 0)).2)
def tstF (f : Nat → Nat → Int64) (c v n : Nat) (tm r1 r2 : Int64) : Nat → Nat → Int64 := fun g j =>
  if g = 0 then (if j = 0 then i8 c else if j = 1 then i8 v else if j = 2 then tm else if j = 3 then i8 n else if j = 4 then r1 else r2) else f (g - 1) j
def kt1 (k : Nat) : Nat := if k = 10 then 10 else k + 1
def addT (d : AD) (c v n : Nat) (r1 r2 : Int64) : AD := AD_set_tF (AD_set_kt d (kt1 (AD_kt d))) (tstF (AD_tF d) c v n (AD_tm d) r1 r2)
theorem WF_addT {a : AS} {d : AD} (hD : WFd a d) (c v n : Nat) (r1 r2 : Int64) : WFd a (addT d c v n r1 r2) := by
  refine ⟨hD.1, hD.2.1, hD.2.2.1, ?_, hD.2.2.2.2⟩
  have := hD.2.2.2.1
  show kt1 (AD_kt d) ≤ 10
  unfold kt1
  split <;> omega
theorem C_add0 {S : SS} {nx kt : Nat} (hn : nx < 10) (hk : kt ≤ 10) (e1 : SS_next S = i4 nx) (e2 : SS_kept S = i4 kt) (x1 x2 x3 x4 : Int32) (r1 r2 : Int64) :
    ∃ S', f7_add S x1 x2 x3 x4 r1 r2 = some S' ∧ SS_time S' = SS_time S ∧ SS_openValves S' = SS_openValves S ∧ SS_runningPumps S' = SS_runningPumps S ∧ SS_gas S' = SS_gas S ∧ SS_pressure S' = SS_pressure S ∧ SS_outgassing S' = SS_outgassing S ∧ SS_leakSum S' = SS_leakSum S ∧ SS_rule S' = SS_rule S ∧ SS_valveTrips S' = SS_valveTrips S ∧ SS_pumpTrips S' = SS_pumpTrips S ∧ SS_leak S' = SS_leak S ∧ SS_kept S' = i4 (kt1 kt) ∧ SS_next S' = i4 ((nx + 1) % 10) ∧
    SS_facts S' = upd (upd (upd (upd (SS_facts S) (nx * 4) x1) (nx * 4 + 1) x2) (nx * 4 + 2) x3) (nx * 4 + 3) x4 ∧ SS_rises S' = vp_updL (vp_updL (SS_rises S) (nx * 2) r1) (nx * 2 + 1) r2 := by
  have ek : (if (10 : Int32) < i4 kt + 1 then (10 : Int32) else i4 kt + 1) = i4 (kt1 kt) := by
    rw [ad1]
    unfold kt1
    by_cases h : kt = 10
    · subst h; rfl
    · rw [if_neg h, if_neg (show ¬ ((10 : Int32) < i4 (kt + 1)) from fun q => by have := (i4_lt (a := 10) (by omega) (by omega)).mp q; omega)]
  refine ⟨_, by
    unfold f7_add
    rw [e1, e2, show i4 nx * 4 = i4 (nx * 4) from i4_mul nx 4, show i4 nx * 2 = i4 (nx * 2) from i4_mul nx 2, ad1, ad1, ad2, ad3, ad1, gdi _ (by omega) (by omega), gdi _ (by omega) (by omega), gdi _ (by omega) (by omega), gdi _ (by omega) (by omega), gdi _ (by omega) (by omega), gdi _ (by omega) (by omega), ix4 (by omega), ix4 (by omega), ix4 (by omega), ix4 (by omega), ix4 (by omega), ix4 (by omega), show (10 : Int32) = i4 10 from rfl, i4_mod (by omega) (by omega), show i4 10 = (10 : Int32) from rfl, ek], ?_, ?_, ?_, ?_, ?_, ?_, ?_, ?_, ?_, ?_, ?_, ?_, ?_, ?_, ?_⟩ <;> simp only [SS_time_set_time, SS_openValves_set_time, SS_runningPumps_set_time, SS_gas_set_time, SS_pressure_set_time, SS_outgassing_set_time, SS_leakSum_set_time, SS_rule_set_time, SS_valveTrips_set_time, SS_pumpTrips_set_time, SS_leak_set_time, SS_kept_set_time, SS_next_set_time, SS_facts_set_time, SS_rises_set_time, SS_time_set_openValves, SS_openValves_set_openValves, SS_runningPumps_set_openValves, SS_gas_set_openValves, SS_pressure_set_openValves, SS_outgassing_set_openValves, SS_leakSum_set_openValves, SS_rule_set_openValves, SS_valveTrips_set_openValves, SS_pumpTrips_set_openValves, SS_leak_set_openValves, SS_kept_set_openValves, SS_next_set_openValves, SS_facts_set_openValves, SS_rises_set_openValves, SS_time_set_runningPumps, SS_openValves_set_runningPumps, SS_runningPumps_set_runningPumps, SS_gas_set_runningPumps, SS_pressure_set_runningPumps, SS_outgassing_set_runningPumps, SS_leakSum_set_runningPumps, SS_rule_set_runningPumps, SS_valveTrips_set_runningPumps, SS_pumpTrips_set_runningPumps, SS_leak_set_runningPumps, SS_kept_set_runningPumps, SS_next_set_runningPumps, SS_facts_set_runningPumps, SS_rises_set_runningPumps, SS_time_set_gas, SS_openValves_set_gas, SS_runningPumps_set_gas, SS_gas_set_gas, SS_pressure_set_gas, SS_outgassing_set_gas, SS_leakSum_set_gas, SS_rule_set_gas, SS_valveTrips_set_gas, SS_pumpTrips_set_gas, SS_leak_set_gas, SS_kept_set_gas, SS_next_set_gas, SS_facts_set_gas, SS_rises_set_gas, SS_time_set_pressure, SS_openValves_set_pressure, SS_runningPumps_set_pressure, SS_gas_set_pressure, SS_pressure_set_pressure, SS_outgassing_set_pressure, SS_leakSum_set_pressure, SS_rule_set_pressure, SS_valveTrips_set_pressure, SS_pumpTrips_set_pressure, SS_leak_set_pressure, SS_kept_set_pressure, SS_next_set_pressure, SS_facts_set_pressure, SS_rises_set_pressure, SS_time_set_outgassing, SS_openValves_set_outgassing, SS_runningPumps_set_outgassing, SS_gas_set_outgassing, SS_pressure_set_outgassing, SS_outgassing_set_outgassing, SS_leakSum_set_outgassing, SS_rule_set_outgassing, SS_valveTrips_set_outgassing, SS_pumpTrips_set_outgassing, SS_leak_set_outgassing, SS_kept_set_outgassing, SS_next_set_outgassing, SS_facts_set_outgassing, SS_rises_set_outgassing, SS_time_set_leakSum, SS_openValves_set_leakSum, SS_runningPumps_set_leakSum, SS_gas_set_leakSum, SS_pressure_set_leakSum, SS_outgassing_set_leakSum, SS_leakSum_set_leakSum, SS_rule_set_leakSum, SS_valveTrips_set_leakSum, SS_pumpTrips_set_leakSum, SS_leak_set_leakSum, SS_kept_set_leakSum, SS_next_set_leakSum, SS_facts_set_leakSum, SS_rises_set_leakSum, SS_time_set_rule, SS_openValves_set_rule, SS_runningPumps_set_rule, SS_gas_set_rule, SS_pressure_set_rule, SS_outgassing_set_rule, SS_leakSum_set_rule, SS_rule_set_rule, SS_valveTrips_set_rule, SS_pumpTrips_set_rule, SS_leak_set_rule, SS_kept_set_rule, SS_next_set_rule, SS_facts_set_rule, SS_rises_set_rule, SS_time_set_valveTrips, SS_openValves_set_valveTrips, SS_runningPumps_set_valveTrips, SS_gas_set_valveTrips, SS_pressure_set_valveTrips, SS_outgassing_set_valveTrips, SS_leakSum_set_valveTrips, SS_rule_set_valveTrips, SS_valveTrips_set_valveTrips, SS_pumpTrips_set_valveTrips, SS_leak_set_valveTrips, SS_kept_set_valveTrips, SS_next_set_valveTrips, SS_facts_set_valveTrips, SS_rises_set_valveTrips, SS_time_set_pumpTrips, SS_openValves_set_pumpTrips, SS_runningPumps_set_pumpTrips, SS_gas_set_pumpTrips, SS_pressure_set_pumpTrips, SS_outgassing_set_pumpTrips, SS_leakSum_set_pumpTrips, SS_rule_set_pumpTrips, SS_valveTrips_set_pumpTrips, SS_pumpTrips_set_pumpTrips, SS_leak_set_pumpTrips, SS_kept_set_pumpTrips, SS_next_set_pumpTrips, SS_facts_set_pumpTrips, SS_rises_set_pumpTrips, SS_time_set_leak, SS_openValves_set_leak, SS_runningPumps_set_leak, SS_gas_set_leak, SS_pressure_set_leak, SS_outgassing_set_leak, SS_leakSum_set_leak, SS_rule_set_leak, SS_valveTrips_set_leak, SS_pumpTrips_set_leak, SS_leak_set_leak, SS_kept_set_leak, SS_next_set_leak, SS_facts_set_leak, SS_rises_set_leak, SS_time_set_kept, SS_openValves_set_kept, SS_runningPumps_set_kept, SS_gas_set_kept, SS_pressure_set_kept, SS_outgassing_set_kept, SS_leakSum_set_kept, SS_rule_set_kept, SS_valveTrips_set_kept, SS_pumpTrips_set_kept, SS_leak_set_kept, SS_kept_set_kept, SS_next_set_kept, SS_facts_set_kept, SS_rises_set_kept, SS_time_set_next, SS_openValves_set_next, SS_runningPumps_set_next, SS_gas_set_next, SS_pressure_set_next, SS_outgassing_set_next, SS_leakSum_set_next, SS_rule_set_next, SS_valveTrips_set_next, SS_pumpTrips_set_next, SS_leak_set_next, SS_kept_set_next, SS_next_set_next, SS_facts_set_next, SS_rises_set_next, SS_time_set_facts, SS_openValves_set_facts, SS_runningPumps_set_facts, SS_gas_set_facts, SS_pressure_set_facts, SS_outgassing_set_facts, SS_leakSum_set_facts, SS_rule_set_facts, SS_valveTrips_set_facts, SS_pumpTrips_set_facts, SS_leak_set_facts, SS_kept_set_facts, SS_next_set_facts, SS_facts_set_facts, SS_rises_set_facts, SS_time_set_rises, SS_openValves_set_rises, SS_runningPumps_set_rises, SS_gas_set_rises, SS_pressure_set_rises, SS_outgassing_set_rises, SS_leakSum_set_rises, SS_rule_set_rises, SS_valveTrips_set_rises, SS_pumpTrips_set_rises, SS_leak_set_rises, SS_kept_set_rises, SS_next_set_rises, SS_facts_set_rises, SS_rises_set_rises]
theorem C_add {a : AS} {d : AD} {S : SS} (hW : WFs a) (hD : WFd a d) (hS : RCd a d S) {c v n : Nat} (r1 r2 : Int64) : ∃ S', f7_add S (i4 c) (i4 v) (SS_time S) (i4 n) r1 r2 = some S' ∧ RCd a (addT d c v n r1 r2) S' := by
  have hk := hD.2.2.2.1
  obtain ⟨h1, ⟨g1, g2⟩, h3, ⟨l1, l2⟩, h5, h6, h7, ⟨t1, nx, t2, t3, t4⟩⟩ := hS
  obtain ⟨S', e, qtime, qopen, qrun, qgas, qpr, qoug, qls, qrule, qvt, qpt, qlk, qk, qn, qf, qr⟩ := C_add0 t2 hk t3 t1 (i4 c) (i4 v) (SS_time S) (i4 n) r1 r2
  have hk1 : kt1 (AD_kt d) ≤ 10 ∧ kt1 (AD_kt d) ≤ AD_kt d + 1 := by unfold kt1; split <;> omega
  refine ⟨S', e, qtime.trans h1, ⟨fun c hc => ?_, ?_⟩, fun c hc => ?_, ⟨fun c hc => ?_, fun f hf => ?_⟩, fun v hv => ?_, fun v hv => ?_, fun p hp => ?_, qk, (nx + 1) % 10, by omega, qn, fun g hg => ?_⟩
  · rw [qgas, qpr]; exact g1 c hc
  · rw [qpr]; exact g2
  · rw [qoug]; exact h3 c hc
  · rw [qls]; exact l1 c hc
  · rw [qlk]; exact l2 f hf
  · rw [qrule]; exact h5 v hv
  · rw [qopen, qvt]; exact h6 v hv
  · rw [qrun, qpt]; exact h7 p hp
  · have hg' : g < kt1 (AD_kt d) := hg
    rw [qf, qr]
    show (∀ j, j < 4 → _ = (tstF (AD_tF d) c v n (AD_tm d) r1 r2 g j).toInt32) ∧ _ = tstF (AD_tF d) c v n (AD_tm d) r1 r2 g 4 ∧ _ = tstF (AD_tF d) c v n (AD_tm d) r1 r2 g 5
    unfold tstF
    by_cases h0 : g = 0
    · have hr : rg ((nx + 1) % 10) g = nx := by unfold rg; omega
      rw [if_pos h0, if_pos h0, hr]
      refine ⟨fun j hj => ?_, ?_, ?_⟩
      · rw [if_pos h0]
        rcases (show j = 0 ∨ j = 1 ∨ j = 2 ∨ j = 3 by omega) with rfl | rfl | rfl | rfl
        · rw [upd_ne _ _ (by omega), upd_ne _ _ (by omega), upd_ne _ _ (by omega), show 4 * nx + 0 = nx * 4 by omega, upd_self, if_pos rfl, i8_to4]
        · rw [upd_ne _ _ (by omega), upd_ne _ _ (by omega), show 4 * nx + 1 = nx * 4 + 1 by omega, upd_self, if_neg (by omega), if_pos rfl, i8_to4]
        · rw [upd_ne _ _ (by omega), show 4 * nx + 2 = nx * 4 + 2 by omega, upd_self, if_neg (by omega), if_neg (by omega), if_pos rfl, h1]
        · rw [show 4 * nx + 3 = nx * 4 + 3 by omega, upd_self, if_neg (by omega), if_neg (by omega), if_neg (by omega), if_pos rfl, i8_to4]
      · rw [updL_ne _ _ (by omega), show 2 * nx = nx * 2 by omega, updL_self]
        rfl
      · rw [show 2 * nx + 1 = nx * 2 + 1 by omega, updL_self]
        rfl
    · have hr : rg ((nx + 1) % 10) g = rg nx (g - 1) := by unfold rg; omega
      have hne : rg nx (g - 1) ≠ nx := by unfold rg; omega
      rw [if_neg h0, if_neg h0, hr]
      obtain ⟨o1, o2, o3⟩ := t4 (g - 1) (by omega)
      refine ⟨fun j hj => ?_, ?_, ?_⟩
      · rw [if_neg h0, upd_ne _ _ (by omega), upd_ne _ _ (by omega), upd_ne _ _ (by omega), upd_ne _ _ (by omega)]
        exact o1 j hj
      · rw [updL_ne _ _ (by omega), updL_ne _ _ (by omega)]
        exact o2
      · rw [updL_ne _ _ (by omega), updL_ne _ _ (by omega)]
        exact o3
def vrd (g0 g1 g2 : Nat) : Nat := if i8 g1 - i8 g0 = 0 ∧ i8 g2 - i8 g1 = 0 then 0 else if (i8 g2 - i8 g1) * 10 < (i8 g1 - i8 g0) * 9 then 1 else 2
section TS
variable {a : AS} {d : AD} {ly : LL} {S : SS}
theorem C_t43 (hW : WFs a) (hL : RCs a ly) {c : Nat} (hc : c < AS_nC a) {N h : Nat} (hh : h < 2147483648) {g0 g1 : Nat} : ∀ (n x fu : Nat) (d : AD) (S : SS), WFd a d → RCd a d S → x + n = h → n < fu →
    ∃ S', f5_makeTest_B43 ly fu S (i4 c) (i4 N) (i4 h) (i8 g0) (i8 g1) (i4 x) = some (i4 (vrd g0 g1 (AD_gas (tkD a n d) c)), S') ∧ RCd a (addT (tkD a n d) c (vrd g0 g1 (AD_gas (tkD a n d) c)) N (i8 g1 - i8 g0) (i8 (AD_gas (tkD a n d) c) - i8 g1)) S' := by
  intro n
  have hN := hW.1
  induction n with
  | zero =>
    intro x fu d S hD hS hx hf
    obtain ⟨k, rfl, -⟩ := fuS hf
    rw [f5_makeTest_B43, if_pos ((i4_le (by omega) (by omega)).mpr (by omega)), gdi _ (by omega) (by omega), ix4 (by omega), (hS.2.1.1 c hc).1]
    have fin : ∀ v, ∃ S', f5_makeTest_B120 ly S (i4 c) (i4 N) (i8 g1 - i8 g0) (i8 (AD_gas d c) - i8 g1) (i4 v) = some (i4 v, S') ∧ RCd a (addT d c v N (i8 g1 - i8 g0) (i8 (AD_gas d c) - i8 g1)) S' := by
      intro v
      obtain ⟨S', e, h⟩ := C_add hW hD hS (c := c) (v := v) (n := N) (i8 g1 - i8 g0) (i8 (AD_gas d c) - i8 g1)
      refine ⟨S', ?_, h⟩
      unfold f5_makeTest_B120
      rw [e, sbind]
    have fin2 : ¬ (i8 g1 - i8 g0 = 0 ∧ i8 (AD_gas d c) - i8 g1 = 0) → ∃ S', f5_makeTest_B101 ly S (i4 c) (i4 N) (i8 g1 - i8 g0) (i8 (AD_gas d c) - i8 g1) 1 = some (i4 (vrd g0 g1 (AD_gas d c)), S') ∧ RCd a (addT d c (vrd g0 g1 (AD_gas d c)) N (i8 g1 - i8 g0) (i8 (AD_gas d c) - i8 g1)) S' := by
      intro hn
      unfold f5_makeTest_B101 vrd
      rw [if_neg hn]
      by_cases q : (i8 (AD_gas d c) - i8 g1) * 10 < (i8 g1 - i8 g0) * 9
      · rw [if_pos q, if_pos q]
        exact fin 1
      · rw [if_neg q, if_neg q]
        exact fin 2
    show ∃ S', _ = some (i4 (vrd g0 g1 (AD_gas d c)), S') ∧ RCd a (addT d c (vrd g0 g1 (AD_gas d c)) N (i8 g1 - i8 g0) (i8 (AD_gas d c) - i8 g1)) S'
    by_cases q1 : i8 g1 - i8 g0 = 0
    · rw [if_pos q1]
      by_cases q2 : i8 (AD_gas d c) - i8 g1 = 0
      · rw [if_pos q2, show vrd g0 g1 (AD_gas d c) = 0 from if_pos ⟨q1, q2⟩]
        exact fin 0
      · rw [if_neg q2]
        exact fin2 (fun h => q2 h.2)
    · rw [if_neg q1]
      exact fin2 (fun h => q1 h.1)
  | succ n ih =>
    intro x fu d S hD hS hx hf
    obtain ⟨k, rfl, -⟩ := fuS hf
    obtain ⟨S1, e1, h1⟩ := C_tick hW hD hL hS
    rw [f5_makeTest_B43, if_neg (fun q => by have := (i4_le (by omega) (by omega)).mp q; omega), e1, sbind]
    dsimp only
    rw [ad1]
    exact ih (x + 1) k _ S1 (WF_tic (s := (d, 0)) hW hD) h1 (by omega) (by omega)
theorem tkD_add (a : AS) : ∀ (m n : Nat) (d : AD), tkD a n (tkD a m d) = tkD a (m + n) d
  | 0, n, d => by rw [Nat.zero_add]; rfl
  | m + 1, n, d => by rw [show m + 1 + n = (m + n) + 1 by omega]; exact tkD_add a m n _
theorem WF_tkD (hW : WFs a) (n : Nat) (d : AD) (hD : WFd a d) : WFd a (tkD a n d) := by
  have := WF_tks hW n (d, 0) hD
  rw [tks_tkD] at this
  exact this
theorem C_t15 (hW : WFs a) (hL : RCs a ly) {c : Nat} (hc : c < AS_nC a) {N h : Nat} (hh : h < 4000) {g0 : Nat} : ∀ (n x fu : Nat) (d : AD) (S : SS), WFd a d → RCd a d S → x + n = h → n < fu →
    ∃ S', f5_makeTest_B15 ly fu S (i4 c) (i4 N) (i4 h) (i8 g0) (i4 x) = some (i4 (vrd g0 (AD_gas (tkD a n d) c) (AD_gas (tkD a h (tkD a n d)) c)), S') ∧ RCd a (addT (tkD a h (tkD a n d)) c (vrd g0 (AD_gas (tkD a n d) c) (AD_gas (tkD a h (tkD a n d)) c)) N (i8 (AD_gas (tkD a n d) c) - i8 g0) (i8 (AD_gas (tkD a h (tkD a n d)) c) - i8 (AD_gas (tkD a n d) c))) S' := by
  intro n
  have hN := hW.1
  have := FU_eq
  induction n with
  | zero =>
    intro x fu d S hD hS hx hf
    obtain ⟨k, rfl, -⟩ := fuS hf
    rw [f5_makeTest_B15, if_pos ((i4_le (by omega) (by omega)).mpr (by omega)), gdi _ (by omega) (by omega), ix4 (by omega), (hS.2.1.1 c hc).1]
    exact C_t43 hW hL hc (h := h) (by omega) h 0 FU d S hD hS (by omega) (by omega)
  | succ n ih =>
    intro x fu d S hD hS hx hf
    obtain ⟨k, rfl, -⟩ := fuS hf
    obtain ⟨S1, e1, h1⟩ := C_tick hW hD hL hS
    rw [f5_makeTest_B15, if_neg (fun q => by have := (i4_le (by omega) (by omega)).mp q; omega), e1, sbind]
    dsimp only
    rw [ad1]
    exact ih (x + 1) k _ S1 (WF_tic (s := (d, 0)) hW hD) h1 (by omega) (by omega)
/-- what a test of c over N ticks leaves -/
def tst1 (a : AS) (d : AD) (c N : Nat) : Nat := vrd (AD_gas d c) (AD_gas (tkD a (N / 2) d) c) (AD_gas (tkD a (N / 2) (tkD a (N / 2) d)) c)
def tst2 (a : AS) (d : AD) (c N : Nat) : AD := addT (tkD a (N / 2) (tkD a (N / 2) d)) c (tst1 a d c N) N (i8 (AD_gas (tkD a (N / 2) d) c) - i8 (AD_gas d c)) (i8 (AD_gas (tkD a (N / 2) (tkD a (N / 2) d)) c) - i8 (AD_gas (tkD a (N / 2) d) c))
theorem WF_tst (hW : WFs a) (hD : WFd a d) (c N : Nat) : WFd a (tst2 a d c N) := WF_addT (WF_tkD hW _ _ (WF_tkD hW _ _ hD)) _ _ _ _ _
theorem C_test (hW : WFs a) (hD : WFd a d) (hL : RCs a ly) (hS : RCd a d S) {c N : Nat} (hc : c < AS_nC a) (hN : N < 1000) : ∃ S', f5_makeTest ly S (i4 c) (i4 N) = some (i4 (tst1 a d c N), S') ∧ RCd a (tst2 a d c N) S' := by
  have hC := hW.1
  have := FU_eq
  unfold f5_makeTest
  rw [gdi _ (by omega) (by omega), ix4 (by omega), (hS.2.1.1 c hc).1, show i4 N / 2 = i4 (N / 2) from i4_div (b := 2) (by omega) (by omega)]
  exact C_t15 hW hL hc (h := N / 2) (by omega) (N / 2) 0 FU d S hD hS (by omega) (by omega)
/-! the reference -/
def tstW (w : Nat → Int64) (x1 x2 : Int32) (r1 r2 : Int64) (v : Int32) : Nat → Int64 :=
  vp_updL (vp_updL (vp_updL (vp_updL (vp_updL (vp_updL (vp_updL w 196 x1.toInt64) 197 v.toInt64) 198 (w 4)) 199 x2.toInt64) 200 r1) 201 r2) 7 (if 10 < w 7 + 1 then 10 else w 7 + 1)
theorem dec4 {i : Nat} (h : 1 ≤ i) : i4 i + (-1) = i4 (i - 1) := by
  rw [← i4_sub h]
  exact (Int32.sub_eq_add_neg _ _).symm
theorem vrd_le (g0 g1 g2 : Nat) : vrd g0 g1 g2 < 3 := by unfold vrd; split <;> (try split) <;> omega
end TS

