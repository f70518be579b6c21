/-! copies, the past -/
theorem cpy_in {α : Type} {f g : Nat → α} {n j : Nat} (h : j < n) : va_cpy f g 0 0 n j = f j :=
  (pk_cpy_in (Nat.zero_le j) (by omega)).trans (congrArg f (by omega))
def cp256 (src dst : Nat → Int64) : Nat → Int64 := fun k => if k < 256 then src k else dst k
theorem cp256_lt (src dst : Nat → Int64) {k : Nat} (h : k < 256) : cp256 src dst k = src k := if_pos h
theorem M_cp_w_aside_B2 (src : Nat → Int64) : ∀ (n i fu : Nat) (dst : Nat → Int64), i + n = 256 → n < fu → f10_copy_w_aside_B2 src fu dst (i4 i) = some (fun k => if i ≤ k ∧ k < 256 then src k else dst k) := by
  intro n
  induction n with
  | zero =>
    intro i fu dst hi hf
    obtain ⟨k, rfl, -⟩ := fuS hf
    rw [f10_copy_w_aside_B2, if_pos (show (256 : Int32) ≤ i4 i from (i4_le (a := 256) (by omega) (by omega)).mpr (by omega))]
    congr 1
    funext q
    rw [if_neg (by omega)]
  | succ n ih =>
    intro i fu dst hi hf
    obtain ⟨k, rfl, -⟩ := fuS hf
    rw [f10_copy_w_aside_B2, if_neg (show ¬ ((256 : Int32) ≤ i4 i) from fun h => by have := (i4_le (a := 256) (by omega) (by omega)).mp h; omega), gdi _ (by omega) (by omega), ix4 (by omega), ad1, ih (i + 1) k _ (by omega) (by omega)]
    congr 1
    funext q
    by_cases h1 : q = i
    · rw [if_neg (by omega), if_pos (by omega), h1, updL_self]
    · rw [updL_ne _ _ h1]
      by_cases h2 : i ≤ q ∧ q < 256
      · rw [if_pos (by omega), if_pos h2]
      · rw [if_neg (by omega), if_neg h2]
theorem M_cp_w_aside (src dst : Nat → Int64) : f10_copy_w_aside src dst = some (cp256 src dst) := by
  have := FU_eq
  unfold f10_copy_w_aside
  rw [show f10_copy_w_aside_B2 src FU dst 0 = _ from M_cp_w_aside_B2 src 256 0 FU dst (by omega) (by omega)]
  congr 1
  funext q
  unfold cp256
  by_cases h : q < 256
  · rw [if_pos (by omega), if_pos h]
  · rw [if_neg (by omega), if_neg h]
theorem M_cp_aside_w_B2 (src : Nat → Int64) : ∀ (n i fu : Nat) (dst : Nat → Int64), i + n = 256 → n < fu → f10_copy_aside_w_B2 src fu dst (i4 i) = some (fun k => if i ≤ k ∧ k < 256 then src k else dst k) := by
  intro n
  induction n with
  | zero =>
    intro i fu dst hi hf
    obtain ⟨k, rfl, -⟩ := fuS hf
    rw [f10_copy_aside_w_B2, if_pos (show (256 : Int32) ≤ i4 i from (i4_le (a := 256) (by omega) (by omega)).mpr (by omega))]
    congr 1
    funext q
    rw [if_neg (by omega)]
  | succ n ih =>
    intro i fu dst hi hf
    obtain ⟨k, rfl, -⟩ := fuS hf
    rw [f10_copy_aside_w_B2, if_neg (show ¬ ((256 : Int32) ≤ i4 i) from fun h => by have := (i4_le (a := 256) (by omega) (by omega)).mp h; omega), gdi _ (by omega) (by omega), ix4 (by omega), ad1, ih (i + 1) k _ (by omega) (by omega)]
    congr 1
    funext q
    by_cases h1 : q = i
    · rw [if_neg (by omega), if_pos (by omega), h1, updL_self]
    · rw [updL_ne _ _ h1]
      by_cases h2 : i ≤ q ∧ q < 256
      · rw [if_pos (by omega), if_pos h2]
      · rw [if_neg (by omega), if_neg h2]
theorem M_cp_aside_w (src dst : Nat → Int64) : f10_copy_aside_w src dst = some (cp256 src dst) := by
  have := FU_eq
  unfold f10_copy_aside_w
  rw [show f10_copy_aside_w_B2 src FU dst 0 = _ from M_cp_aside_w_B2 src 256 0 FU dst (by omega) (by omega)]
  congr 1
  funext q
  unfold cp256
  by_cases h : q < 256
  · rw [if_pos (by omega), if_pos h]
  · rw [if_neg (by omega), if_neg h]
theorem M_cp_w_thought_B2 (src : Nat → Int64) : ∀ (n i fu : Nat) (dst : Nat → Int64), i + n = 256 → n < fu → f10_copy_w_thought_B2 src fu dst (i4 i) = some (fun k => if i ≤ k ∧ k < 256 then src k else dst k) := by
  intro n
  induction n with
  | zero =>
    intro i fu dst hi hf
    obtain ⟨k, rfl, -⟩ := fuS hf
    rw [f10_copy_w_thought_B2, if_pos (show (256 : Int32) ≤ i4 i from (i4_le (a := 256) (by omega) (by omega)).mpr (by omega))]
    congr 1
    funext q
    rw [if_neg (by omega)]
  | succ n ih =>
    intro i fu dst hi hf
    obtain ⟨k, rfl, -⟩ := fuS hf
    rw [f10_copy_w_thought_B2, if_neg (show ¬ ((256 : Int32) ≤ i4 i) from fun h => by have := (i4_le (a := 256) (by omega) (by omega)).mp h; omega), gdi _ (by omega) (by omega), ix4 (by omega), ad1, ih (i + 1) k _ (by omega) (by omega)]
    congr 1
    funext q
    by_cases h1 : q = i
    · rw [if_neg (by omega), if_pos (by omega), h1, updL_self]
    · rw [updL_ne _ _ h1]
      by_cases h2 : i ≤ q ∧ q < 256
      · rw [if_pos (by omega), if_pos h2]
      · rw [if_neg (by omega), if_neg h2]
theorem M_cp_w_thought (src dst : Nat → Int64) : f10_copy_w_thought src dst = some (cp256 src dst) := by
  have := FU_eq
  unfold f10_copy_w_thought
  rw [show f10_copy_w_thought_B2 src FU dst 0 = _ from M_cp_w_thought_B2 src 256 0 FU dst (by omega) (by omega)]
  congr 1
  funext q
  unfold cp256
  by_cases h : q < 256
  · rw [if_pos (by omega), if_pos h]
  · rw [if_neg (by omega), if_neg h]
theorem M_cp_thought_w_B2 (src : Nat → Int64) : ∀ (n i fu : Nat) (dst : Nat → Int64), i + n = 256 → n < fu → f10_copy_thought_w_B2 src fu dst (i4 i) = some (fun k => if i ≤ k ∧ k < 256 then src k else dst k) := by
  intro n
  induction n with
  | zero =>
    intro i fu dst hi hf
    obtain ⟨k, rfl, -⟩ := fuS hf
    rw [f10_copy_thought_w_B2, if_pos (show (256 : Int32) ≤ i4 i from (i4_le (a := 256) (by omega) (by omega)).mpr (by omega))]
    congr 1
    funext q
    rw [if_neg (by omega)]
  | succ n ih =>
    intro i fu dst hi hf
    obtain ⟨k, rfl, -⟩ := fuS hf
    rw [f10_copy_thought_w_B2, if_neg (show ¬ ((256 : Int32) ≤ i4 i) from fun h => by have := (i4_le (a := 256) (by omega) (by omega)).mp h; omega), gdi _ (by omega) (by omega), ix4 (by omega), ad1, ih (i + 1) k _ (by omega) (by omega)]
    congr 1
    funext q
    by_cases h1 : q = i
    · rw [if_neg (by omega), if_pos (by omega), h1, updL_self]
    · rw [updL_ne _ _ h1]
      by_cases h2 : i ≤ q ∧ q < 256
      · rw [if_pos (by omega), if_pos h2]
      · rw [if_neg (by omega), if_neg h2]
theorem M_cp_thought_w (src dst : Nat → Int64) : f10_copy_thought_w src dst = some (cp256 src dst) := by
  have := FU_eq
  unfold f10_copy_thought_w
  rw [show f10_copy_thought_w_B2 src FU dst 0 = _ from M_cp_thought_w_B2 src 256 0 FU dst (by omega) (by omega)]
  congr 1
  funext q
  unfold cp256
  by_cases h : q < 256
  · rw [if_pos (by omega), if_pos h]
  · rw [if_neg (by omega), if_neg h]
theorem M_cp_fresh_w_B2 (src : Nat → Int64) : ∀ (n i fu : Nat) (dst : Nat → Int64), i + n = 256 → n < fu → f10_copy_fresh_w_B2 src fu dst (i4 i) = some (fun k => if i ≤ k ∧ k < 256 then src k else dst k) := by
  intro n
  induction n with
  | zero =>
    intro i fu dst hi hf
    obtain ⟨k, rfl, -⟩ := fuS hf
    rw [f10_copy_fresh_w_B2, if_pos (show (256 : Int32) ≤ i4 i from (i4_le (a := 256) (by omega) (by omega)).mpr (by omega))]
    congr 1
    funext q
    rw [if_neg (by omega)]
  | succ n ih =>
    intro i fu dst hi hf
    obtain ⟨k, rfl, -⟩ := fuS hf
    rw [f10_copy_fresh_w_B2, if_neg (show ¬ ((256 : Int32) ≤ i4 i) from fun h => by have := (i4_le (a := 256) (by omega) (by omega)).mp h; omega), gdi _ (by omega) (by omega), ix4 (by omega), ad1, ih (i + 1) k _ (by omega) (by omega)]
    congr 1
    funext q
    by_cases h1 : q = i
    · rw [if_neg (by omega), if_pos (by omega), h1, updL_self]
    · rw [updL_ne _ _ h1]
      by_cases h2 : i ≤ q ∧ q < 256
      · rw [if_pos (by omega), if_pos h2]
      · rw [if_neg (by omega), if_neg h2]
theorem M_cp_fresh_w (src dst : Nat → Int64) : f10_copy_fresh_w src dst = some (cp256 src dst) := by
  have := FU_eq
  unfold f10_copy_fresh_w
  rw [show f10_copy_fresh_w_B2 src FU dst 0 = _ from M_cp_fresh_w_B2 src 256 0 FU dst (by omega) (by omega)]
  congr 1
  funext q
  unfold cp256
  by_cases h : q < 256
  · rw [if_pos (by omega), if_pos h]
  · rw [if_neg (by omega), if_neg h]
theorem RMs_256 {a : AS} {w w' : Nat → Int64} (hW : WFs a) (h : RMs a w) (e : ∀ k, k < 256 → w' k = w k) : RMs a w' :=
  RMs_congr hW h (fun k hk => e k (by unfold stat at hk; omega))
theorem RMd_256 {a : AS} {d : AD} {w w' : Nat → Int64} (hW : WFs a) (hD : WFd a d) (h : RMd a d w) (e : ∀ k, k < 256 → w' k = w k) : RMd a d w' := by
  have hN := hW.1
  have hk := hD.2.2.2.1
  obtain ⟨h1, h2, h3, h4, h5, h6⟩ := h
  refine ⟨⟨?_, ?_, ?_, ?_⟩, fun c hc => ⟨?_, ?_⟩, fun p hp => ⟨?_, ?_⟩, fun v hv => ⟨?_, ?_, ?_⟩, fun f hf => ?_, fun g j hg hj => ?_⟩
  · rw [e _ (by omega)]; exact h1.1
  · rw [e _ (by omega)]; exact h1.2.1
  · rw [e _ (by omega)]; exact h1.2.2.1
  · rw [e _ (by omega)]; exact h1.2.2.2
  · rw [e _ (by omega)]; exact (h2 c hc).1
  · rw [e _ (by omega)]; exact (h2 c hc).2
  · rw [e _ (by omega)]; exact (h3 p hp).1
  · rw [e _ (by omega)]; exact (h3 p hp).2
  · rw [e _ (by omega)]; exact (h4 v hv).1
  · rw [e _ (by omega)]; exact (h4 v hv).2.1
  · rw [e _ (by omega)]; exact (h4 v hv).2.2
  · rw [e _ (by omega)]; exact h5 f hf
  · rw [e _ (by omega)]; exact h6 g j hg hj
theorem C_copy0 (oS S : SS) : ∃ S', f5_copyFrom oS S = some S' ∧ SS_time S' = SS_time oS ∧ SS_openValves S' = SS_openValves oS ∧ SS_runningPumps S' = SS_runningPumps oS ∧ SS_gas S' = va_cpy (SS_gas oS) (SS_gas S) 0 0 8 ∧ SS_pressure S' = va_cpy (SS_pressure oS) (SS_pressure S) 0 0 8 ∧ SS_outgassing S' = va_cpy (SS_outgassing oS) (SS_outgassing S) 0 0 8 ∧ SS_leakSum S' = va_cpy (SS_leakSum oS) (SS_leakSum S) 0 0 8 ∧ SS_rule S' = va_cpy (SS_rule oS) (SS_rule S) 0 0 10 ∧ SS_valveTrips S' = va_cpy (SS_valveTrips oS) (SS_valveTrips S) 0 0 10 ∧ SS_pumpTrips S' = va_cpy (SS_pumpTrips oS) (SS_pumpTrips S) 0 0 6 ∧ SS_leak S' = va_cpy (SS_leak oS) (SS_leak S) 0 0 24 ∧ SS_kept S' = SS_kept oS ∧ SS_next S' = SS_next oS ∧ SS_facts S' = va_cpy (SS_facts oS) (SS_facts S) 0 0 40 ∧ SS_rises S' = va_cpy (SS_rises oS) (SS_rises S) 0 0 20 := by
  refine ⟨_, rfl, ?_, ?_, ?_, ?_, ?_, ?_, ?_, ?_, ?_, ?_, ?_, ?_, ?_, ?_, ?_⟩ <;> simp only [SS_time_set_time, SS_openValves_set_time, SS_runningPumps_set_time, SS_gas_set_time, SS_pressure_set_time, SS_outgassing_set_time, SS_leakSum_set_time, SS_rule_set_time, SS_valveTrips_set_time, SS_pumpTrips_set_time, SS_leak_set_time, SS_kept_set_time, SS_next_set_time, SS_facts_set_time, SS_rises_set_time, SS_time_set_openValves, SS_openValves_set_openValves, SS_runningPumps_set_openValves, SS_gas_set_openValves, SS_pressure_set_openValves, SS_outgassing_set_openValves, SS_leakSum_set_openValves, SS_rule_set_openValves, SS_valveTrips_set_openValves, SS_pumpTrips_set_openValves, SS_leak_set_openValves, SS_kept_set_openValves, SS_next_set_openValves, SS_facts_set_openValves, SS_rises_set_openValves, SS_time_set_runningPumps, SS_openValves_set_runningPumps, SS_runningPumps_set_runningPumps, SS_gas_set_runningPumps, SS_pressure_set_runningPumps, SS_outgassing_set_runningPumps, SS_leakSum_set_runningPumps, SS_rule_set_runningPumps, SS_valveTrips_set_runningPumps, SS_pumpTrips_set_runningPumps, SS_leak_set_runningPumps, SS_kept_set_runningPumps, SS_next_set_runningPumps, SS_facts_set_runningPumps, SS_rises_set_runningPumps, SS_time_set_gas, SS_openValves_set_gas, SS_runningPumps_set_gas, SS_gas_set_gas, SS_pressure_set_gas, SS_outgassing_set_gas, SS_leakSum_set_gas, SS_rule_set_gas, SS_valveTrips_set_gas, SS_pumpTrips_set_gas, SS_leak_set_gas, SS_kept_set_gas, SS_next_set_gas, SS_facts_set_gas, SS_rises_set_gas, SS_time_set_pressure, SS_openValves_set_pressure, SS_runningPumps_set_pressure, SS_gas_set_pressure, SS_pressure_set_pressure, SS_outgassing_set_pressure, SS_leakSum_set_pressure, SS_rule_set_pressure, SS_valveTrips_set_pressure, SS_pumpTrips_set_pressure, SS_leak_set_pressure, SS_kept_set_pressure, SS_next_set_pressure, SS_facts_set_pressure, SS_rises_set_pressure, SS_time_set_outgassing, SS_openValves_set_outgassing, SS_runningPumps_set_outgassing, SS_gas_set_outgassing, SS_pressure_set_outgassing, SS_outgassing_set_outgassing, SS_leakSum_set_outgassing, SS_rule_set_outgassing, SS_valveTrips_set_outgassing, SS_pumpTrips_set_outgassing, SS_leak_set_outgassing, SS_kept_set_outgassing, SS_next_set_outgassing, SS_facts_set_outgassing, SS_rises_set_outgassing, SS_time_set_leakSum, SS_openValves_set_leakSum, SS_runningPumps_set_leakSum, SS_gas_set_leakSum, SS_pressure_set_leakSum, SS_outgassing_set_leakSum, SS_leakSum_set_leakSum, SS_rule_set_leakSum, SS_valveTrips_set_leakSum, SS_pumpTrips_set_leakSum, SS_leak_set_leakSum, SS_kept_set_leakSum, SS_next_set_leakSum, SS_facts_set_leakSum, SS_rises_set_leakSum, SS_time_set_rule, SS_openValves_set_rule, SS_runningPumps_set_rule, SS_gas_set_rule, SS_pressure_set_rule, SS_outgassing_set_rule, SS_leakSum_set_rule, SS_rule_set_rule, SS_valveTrips_set_rule, SS_pumpTrips_set_rule, SS_leak_set_rule, SS_kept_set_rule, SS_next_set_rule, SS_facts_set_rule, SS_rises_set_rule, SS_time_set_valveTrips, SS_openValves_set_valveTrips, SS_runningPumps_set_valveTrips, SS_gas_set_valveTrips, SS_pressure_set_valveTrips, SS_outgassing_set_valveTrips, SS_leakSum_set_valveTrips, SS_rule_set_valveTrips, SS_valveTrips_set_valveTrips, SS_pumpTrips_set_valveTrips, SS_leak_set_valveTrips, SS_kept_set_valveTrips, SS_next_set_valveTrips, SS_facts_set_valveTrips, SS_rises_set_valveTrips, SS_time_set_pumpTrips, SS_openValves_set_pumpTrips, SS_runningPumps_set_pumpTrips, SS_gas_set_pumpTrips, SS_pressure_set_pumpTrips, SS_outgassing_set_pumpTrips, SS_leakSum_set_pumpTrips, SS_rule_set_pumpTrips, SS_valveTrips_set_pumpTrips, SS_pumpTrips_set_pumpTrips, SS_leak_set_pumpTrips, SS_kept_set_pumpTrips, SS_next_set_pumpTrips, SS_facts_set_pumpTrips, SS_rises_set_pumpTrips, SS_time_set_leak, SS_openValves_set_leak, SS_runningPumps_set_leak, SS_gas_set_leak, SS_pressure_set_leak, SS_outgassing_set_leak, SS_leakSum_set_leak, SS_rule_set_leak, SS_valveTrips_set_leak, SS_pumpTrips_set_leak, SS_leak_set_leak, SS_kept_set_leak, SS_next_set_leak, SS_facts_set_leak, SS_rises_set_leak, SS_time_set_kept, SS_openValves_set_kept, SS_runningPumps_set_kept, SS_gas_set_kept, SS_pressure_set_kept, SS_outgassing_set_kept, SS_leakSum_set_kept, SS_rule_set_kept, SS_valveTrips_set_kept, SS_pumpTrips_set_kept, SS_leak_set_kept, SS_kept_set_kept, SS_next_set_kept, SS_facts_set_kept, SS_rises_set_kept, SS_time_set_next, SS_openValves_set_next, SS_runningPumps_set_next, SS_gas_set_next, SS_pressure_set_next, SS_outgassing_set_next, SS_leakSum_set_next, SS_rule_set_next, SS_valveTrips_set_next, SS_pumpTrips_set_next, SS_leak_set_next, SS_kept_set_next, SS_next_set_next, SS_facts_set_next, SS_rises_set_next, SS_time_set_facts, SS_openValves_set_facts, SS_runningPumps_set_facts, SS_gas_set_facts, SS_pressure_set_facts, SS_outgassing_set_facts, SS_leakSum_set_facts, SS_rule_set_facts, SS_valveTrips_set_facts, SS_pumpTrips_set_facts, SS_leak_set_facts, SS_kept_set_facts, SS_next_set_facts, SS_facts_set_facts, SS_rises_set_facts, SS_time_set_rises, SS_openValves_set_rises, SS_runningPumps_set_rises, SS_gas_set_rises, SS_pressure_set_rises, SS_outgassing_set_rises, SS_leakSum_set_rises, SS_rule_set_rises, SS_valveTrips_set_rises, SS_pumpTrips_set_rises, SS_leak_set_rises, SS_kept_set_rises, SS_next_set_rises, SS_facts_set_rises, SS_rises_set_rises]
theorem C_copy {a : AS} {d : AD} {oS S : SS} (hW : WFs a) (hD : WFd a d) (h : RCd a d oS) (h8 : SS_pressure S 8 = i4 1000000) : ∃ S', f5_copyFrom oS S = some S' ∧ RCd a d S' := by
  have hN := hW.1
  have hk := hD.2.2.2.1
  obtain ⟨h1, ⟨g1, g2⟩, h3, ⟨l1, l2⟩, h5, h6, h7, ⟨t1, nx, t2, t3, t4⟩⟩ := h
  obtain ⟨S', e, qtime, qopen, qrun, qgas, qpr, qoug, qls, qrule, qvt, qpt, qlk, qk, qn, qf, qr⟩ := C_copy0 oS S
  refine ⟨S', e, qtime.trans h1, ⟨fun c hc => ⟨?_, ?_⟩, ?_⟩, fun c hc => ?_, ⟨fun c hc => ?_, fun f hf => ?_⟩, fun v hv => ?_, fun v hv => ⟨?_, ?_⟩, fun p hp => ⟨?_, ?_⟩, qk.trans t1, nx, t2, qn.trans t3, fun g hg => ⟨fun j hj => ?_, ?_, ?_⟩⟩
  · rw [qgas, cpy_in (by omega)]; exact (g1 c hc).1
  · rw [qpr, cpy_in (by omega)]; exact (g1 c hc).2
  · rw [qpr, pk_cpy_out (by omega)]; exact h8
  · rw [qoug, cpy_in (by omega)]; exact h3 c hc
  · rw [qls, cpy_in (by omega)]; exact l1 c hc
  · rw [qlk, cpy_in (by omega)]; exact l2 f hf
  · rw [qrule, cpy_in (by omega)]; exact h5 v hv
  · rw [qopen]; exact (h6 v hv).1
  · rw [qvt, cpy_in (by omega)]; exact (h6 v hv).2
  · rw [qrun]; exact (h7 p hp).1
  · rw [qpt, cpy_in (by omega)]; exact (h7 p hp).2
  · rw [qf, cpy_in (by unfold rg; omega)]; exact (t4 g hg).1 j hj
  · rw [qr, cpy_in (by unfold rg; omega)]; exact (t4 g hg).2.1
  · rw [qr, cpy_in (by unfold rg; omega)]; exact (t4 g hg).2.2
theorem uF_self {n : Nat} {α : Type} (f : Fin n → α) (j : Fin n) (x : α) : updF f j x j = x := if_pos rfl
theorem uF_ne {n : Nat} {α : Type} (f : Fin n → α) {i j : Fin n} (x : α) (h : i ≠ j) : updF f j x i = f i := if_neg h
theorem uF_two {n : Nat} {α : Type} (f : Fin n → α) (j : Fin n) (x y : α) : updF (updF f j x) j y = updF f j y := by
  funext i
  by_cases h : i = j
  · rw [h, uF_self, uF_self]
  · rw [uF_ne _ _ h, uF_ne _ _ h, uF_ne _ _ h]
theorem updN_self (p : Nat → Fin 12) (m : Nat) (e : Fin 12) : updN p m e m = e := if_pos rfl
theorem updN_ne (p : Nat → Fin 12) {m i : Nat} (e : Fin 12) (h : i ≠ m) : updN p m e i = p i := if_neg h
def PR8 (st : Fin 12 → SS) : Prop := ∀ j, SS_pressure (st j) 8 = i4 1000000
def DST (tp : TP) : Prop := TP_pr tp ≠ TP_tr tp ∧ (∀ k, k < 10 → TP_past tp k ≠ TP_pr tp ∧ TP_past tp k ≠ TP_tr tp) ∧ ∀ k j, k < 10 → j < 10 → k ≠ j → TP_past tp k ≠ TP_past tp j
/-- what was so many changes ago, on both sides -/
def UN1 (a : AS) (tp : TP) (st : Fin 12 → SS) (mu : MU) (cnt np k : Nat) : Prop :=
  ∃ d, WFd a d ∧ RCd a d (st (TP_past tp ((np + 9 - k) % 10))) ∧ RMs a (fun i => MU_past mu (256 * (cnt - 1 - k) + i)) ∧ RMd a d (fun i => MU_past mu (256 * (cnt - 1 - k) + i))
def UND (a : AS) (tp : TP) (st : Fin 12 → SS) (mu : MU) : Prop :=
  ∃ cnt np, cnt ≤ 10 ∧ np < 10 ∧ TP_undoable tp = i4 cnt ∧ MU_pastCount mu = i4 cnt ∧ TP_nextPast tp = i4 np ∧ ∀ k, k < cnt → UN1 a tp st mu cnt np k
def INVd (a : AS) (d : AD) (lY : LL) (tp : TP) (st : Fin 12 → SS) (w : Nat → Int64) (mu : MU) : Prop :=
  OKc a d lY (st (TP_pr tp)) ∧ RMs a w ∧ RMd a d w ∧ PR8 st ∧ DST tp ∧ UND a tp st mu
theorem C_begin {a : AS} {d : AD} {lY : LL} {tp : TP} {st : Fin 12 → SS} {w : Nat → Int64} {mu : MU} (hI : INVd a d lY tp st w mu) : ∃ S0, f9_beginTrial tp st = some (updF st (TP_tr tp) S0) ∧ RCd a d S0 := by
  obtain ⟨⟨hW, hD, hL, hS⟩, hA, hB, h8, hT, hU⟩ := hI
  obtain ⟨S0, e0, r0⟩ := C_copy hW hD hS (h8 (TP_tr tp))
  refine ⟨S0, ?_, r0⟩
  unfold f9_beginTrial
  rw [gd_of (decide_eq_true hT.1), e0, sbind]
/-- the trial state is scratch -/
theorem SCR {a : AS} {d : AD} {lY : LL} {tp : TP} {st : Fin 12 → SS} {w : Nat → Int64} {mu : MU} (hI : INVd a d lY tp st w mu) {S' : SS} (hS' : SS_pressure S' 8 = i4 1000000) : INVd a d lY tp (updF st (TP_tr tp) S') w mu := by
  obtain ⟨⟨hW, hD, hL, hS⟩, hA, hB, h8, hT, cnt, np, u1, u2, u3, u4, u5, u6⟩ := hI
  refine ⟨⟨hW, hD, hL, ?_⟩, hA, hB, fun j => ?_, hT, cnt, np, u1, u2, u3, u4, u5, fun k hk => ?_⟩
  · rw [uF_ne _ _ hT.1]; exact hS
  · by_cases h : j = TP_tr tp
    · rw [h, uF_self]; exact hS'
    · rw [uF_ne _ _ h]; exact h8 j
  · obtain ⟨dk, k1, k2, k3, k4⟩ := u6 k hk
    exact ⟨dk, k1, by rw [uF_ne _ _ (hT.2.1 _ (by omega)).2]; exact k2, k3, k4⟩
theorem M_push_B54 (aside : Nat → Int64) {c : Nat} (hc : c < 10) : ∀ (n i fu : Nat) (mu : MU), i + n = 256 → n < fu → MU_pastCount mu = i4 c →
    ∃ mu', f10_push_B54 aside fu mu (i4 i) = some mu' ∧ MU_pastCount mu' = i4 (c + 1) ∧ ∀ q, MU_past mu' q = if 256 * c + i ≤ q ∧ q < 256 * c + 256 then aside (q - 256 * c) else MU_past mu q := by
  intro n
  induction n with
  | zero =>
    intro i fu mu hi hf hm
    obtain ⟨k, rfl, -⟩ := fuS hf
    rw [f10_push_B54, if_pos (show (256 : Int32) ≤ i4 i from (i4_le (a := 256) (by omega) (by omega)).mpr (by omega)), hm, ad1]
    exact ⟨_, rfl, rfl, fun q => by rw [if_neg (by omega)]; rfl⟩
  | succ n ih =>
    intro i fu mu hi hf hm
    obtain ⟨k, rfl, -⟩ := fuS hf
    rw [f10_push_B54, if_neg (show ¬ ((256 : Int32) ≤ i4 i) from fun h => by have := (i4_le (a := 256) (by omega) (by omega)).mp h; omega), hm, show (256 : Int32) * i4 c + i4 i = i4 (256 * c + i) by rw [show (256 : Int32) = i4 256 from rfl, i4_mul, i4_add], gdi _ (by omega) (by omega), gdi _ (by omega) (by omega), ix4 (by omega), ix4 (by omega), ad1]
    obtain ⟨mu', e, e1, e2⟩ := ih (i + 1) k (MU_set_past mu (vp_updL (MU_past mu) (256 * c + i) (aside i))) (by omega) (by omega) hm
    refine ⟨mu', e, e1, fun q => ?_⟩
    rw [e2]
    show (if 256 * c + (i + 1) ≤ q ∧ q < 256 * c + 256 then aside (q - 256 * c) else vp_updL (MU_past mu) (256 * c + i) (aside i) q) = _
    by_cases h1 : q = 256 * c + i
    · rw [if_neg (by omega), if_pos (by omega), h1, updL_self, Nat.add_sub_cancel_left]
    · rw [updL_ne _ _ h1]
      by_cases h2 : 256 * c + i ≤ q ∧ q < 256 * c + 256
      · rw [if_pos (by omega), if_pos h2]
      · rw [if_neg (by omega), if_neg h2]
set_option maxRecDepth 20000 in
theorem M_push_B13 (aside : Nat → Int64) : ∀ (n i fu : Nat) (mu : MU), i + n = 2560 → 256 ≤ i → n < fu →
    ∃ mu', f10_push_B13 aside fu mu (i4 i) = f10_push_B54 aside FU (MU_set_pastCount mu' (MU_pastCount mu' - 1)) 0 ∧ MU_pastCount mu' = MU_pastCount mu ∧ ∀ q, MU_past mu' q = if i ≤ q + 256 ∧ q < 2304 then MU_past mu (q + 256) else MU_past mu q := by
  intro n
  induction n with
  | zero =>
    intro i fu mu hi h0 hf
    obtain ⟨k, rfl, -⟩ := fuS hf
    rw [f10_push_B13, if_pos (show (2560 : Int32) ≤ i4 i from (i4_le (a := 2560) (by omega) (by omega)).mpr (by omega))]
    exact ⟨mu, rfl, rfl, fun q => by rw [if_neg (by omega)]⟩
  | succ n ih =>
    intro i fu mu hi h0 hf
    obtain ⟨k, rfl, -⟩ := fuS hf
    rw [f10_push_B13, if_neg (show ¬ ((2560 : Int32) ≤ i4 i) from fun h => by have := (i4_le (a := 2560) (by omega) (by omega)).mp h; omega), show i4 i - (256 : Int32) = i4 (i - 256) from i4_sub h0, gdi _ (by omega) (by omega), gdi _ (by omega) (by omega), ix4 (by omega), ix4 (by omega), ad1]
    obtain ⟨mu', e, e1, e2⟩ := ih (i + 1) k (MU_set_past mu (vp_updL (MU_past mu) (i - 256) (MU_past mu i))) (by omega) (by omega) (by omega)
    refine ⟨mu', e, e1, fun q => ?_⟩
    rw [e2]
    show (if i + 1 ≤ q + 256 ∧ q < 2304 then vp_updL (MU_past mu) (i - 256) (MU_past mu i) (q + 256) else vp_updL (MU_past mu) (i - 256) (MU_past mu i) q) = _
    by_cases h1 : q = i - 256
    · rw [if_neg (by omega), if_pos (by omega), h1, updL_self, Nat.sub_add_cancel h0]
    · rw [updL_ne _ _ h1]
      by_cases h2 : i ≤ q + 256 ∧ q < 2304
      · rw [if_pos (by omega), if_pos h2, updL_ne _ _ (by omega)]
      · rw [if_neg (by omega), if_neg h2]
/-- how many changes can be taken back behind one more -/
def cnt1 (cnt : Nat) : Nat := if cnt = 10 then 10 else cnt + 1
set_option maxRecDepth 20000 in
theorem M_push {aside : Nat → Int64} {mu : MU} {cnt : Nat} (hc : cnt ≤ 10) (hm : MU_pastCount mu = i4 cnt) :
    ∃ mu', f10_push aside mu = some mu' ∧ MU_pastCount mu' = i4 (cnt1 cnt) ∧ (∀ i, i < 256 → MU_past mu' (256 * (cnt1 cnt - 1) + i) = aside i) ∧ ∀ k i, k + 1 < cnt1 cnt → i < 256 → MU_past mu' (256 * (cnt1 cnt - 2 - k) + i) = MU_past mu (256 * (cnt - 1 - k) + i) := by
  have := FU_eq
  unfold f10_push cnt1
  rw [hm]
  by_cases h : cnt = 10
  · subst h
    rw [if_pos (show i4 10 = (10 : Int32) from rfl), if_pos rfl]
    obtain ⟨m1, e, e1, e2⟩ := M_push_B13 aside 2304 256 FU mu (by omega) (by omega) (by omega)
    obtain ⟨m2, f, f1, f2⟩ := M_push_B54 aside (c := 9) (by omega) 256 0 FU (MU_set_pastCount m1 (MU_pastCount m1 - 1)) (by omega) (by omega) (by
      show MU_pastCount m1 - 1 = i4 9
      rw [e1, hm]
      rfl)
    refine ⟨m2, (show f10_push_B13 aside FU mu 256 = _ from e).trans f, f1, fun i hi => ?_, fun k i hk hi => ?_⟩
    · rw [f2, if_pos (by omega)]
      exact congrArg aside (by omega)
    · rw [f2, if_neg (by omega)]
      show MU_past m1 _ = _
      rw [e2, if_pos (by omega)]
      exact congrArg (MU_past mu) (by omega)
  · rw [if_neg (show ¬ (i4 cnt = (10 : Int32)) from fun q => h ((i4_eq (b := 10) (by omega) (by omega)).mp q)), if_neg h]
    obtain ⟨m2, f, f1, f2⟩ := M_push_B54 aside (c := cnt) (by omega) 256 0 FU mu (by omega) (by omega) hm
    refine ⟨m2, f, f1, fun i hi => ?_, fun k i hk hi => ?_⟩
    · rw [f2, if_pos (by omega)]
      exact congrArg aside (by omega)
    · rw [f2, if_neg (by omega)]
      exact congrArg (MU_past mu) (by omega)
theorem KEEP {a : AS} {d d' : AD} {lY : LL} {tp : TP} {st : Fin 12 → SS} {w w' aside : Nat → Int64} {mu : MU} {S' : SS} (hI : INVd a d lY tp st w mu) (hD' : WFd a d') (hS' : RCd a d' S') (hA' : RMs a w') (hB' : RMd a d' w') (ha : ∀ k, k < 256 → aside k = w k) :
    ∃ tp' mu', f9_keepTrial tp = some tp' ∧ TP_pr tp' = TP_tr tp ∧ f10_push aside mu = some mu' ∧ INVd a d' lY tp' (updF st (TP_tr tp) S') w' mu' := by
  obtain ⟨⟨hW, hD, hL, hS⟩, hA, hB, h8, ⟨hT1, hT2, hT3⟩, cnt, np, u1, u2, u3, u4, u5, u6⟩ := hI
  obtain ⟨mu', m1, m2, m3, m4⟩ := M_push (aside := aside) u1 u4
  refine ⟨(TP_tr tp, TP_past tp np, updN (TP_past tp) np (TP_pr tp), i4 ((np + 1) % 10), i4 (cnt1 cnt)), mu', ?_, rfl, m1, ⟨hW, hD', hL, ?_⟩, hA', hB', fun j => ?_, ⟨(hT2 np u2).2.symm, fun k hk => ?_, fun k j hk hj hkj => ?_⟩, cnt1 cnt, (np + 1) % 10, ?_, by omega, rfl, m2, rfl, fun k hk => ?_⟩
  · unfold f9_keepTrial
    rw [u5, u3, gdi _ u2 (by omega), ix4 (by omega), ad1, ad1, show (10 : Int32) = i4 10 from rfl, i4_mod (by omega) (by omega)]
    congr 1
    have : (if i4 10 < i4 (cnt + 1) then i4 10 else i4 (cnt + 1)) = i4 (cnt1 cnt) := by
      unfold cnt1
      by_cases h : cnt = 10
      · subst h; rfl
      · rw [if_neg h, if_neg (fun q => by have := (i4_lt (by omega) (by omega)).mp q; omega)]
    rw [this]
    rfl
  · show RCd a d' (updF st (TP_tr tp) S' (TP_tr tp))
    rw [uF_self]; exact hS'
  · by_cases h : j = TP_tr tp
    · rw [h, uF_self]; exact hS'.2.1.2
    · rw [uF_ne _ _ h]; exact h8 j
  · show updN (TP_past tp) np (TP_pr tp) k ≠ TP_tr tp ∧ updN (TP_past tp) np (TP_pr tp) k ≠ TP_past tp np
    by_cases h : k = np
    · rw [h, updN_self]
      exact ⟨hT1, (hT2 np u2).1.symm⟩
    · rw [updN_ne _ _ h]
      exact ⟨(hT2 k hk).2, hT3 k np hk u2 h⟩
  · show updN (TP_past tp) np (TP_pr tp) k ≠ updN (TP_past tp) np (TP_pr tp) j
    by_cases h : k = np
    · rw [h, updN_self, updN_ne _ _ (by omega)]
      exact (hT2 j hj).1.symm
    · rw [updN_ne _ _ h]
      by_cases h2 : j = np
      · rw [h2, updN_self]
        exact (hT2 k hk).1
      · rw [updN_ne _ _ h2]
        exact hT3 k j hk hj hkj
  · unfold cnt1; split <;> omega
  · have hc1 : cnt1 cnt ≤ 10 ∧ cnt1 cnt ≤ cnt + 1 := by unfold cnt1; split <;> omega
    by_cases h0 : k = 0
    · refine ⟨d, hD, ?_, ?_, ?_⟩
      · show RCd a d (updF st (TP_tr tp) S' (updN (TP_past tp) np (TP_pr tp) (((np + 1) % 10 + 9 - k) % 10)))
        rw [show ((np + 1) % 10 + 9 - k) % 10 = np by omega, updN_self, uF_ne _ _ hT1]
        exact hS
      · refine RMs_256 hW hA (fun i hi => ?_)
        show MU_past mu' (256 * (cnt1 cnt - 1 - k) + i) = w i
        rw [h0, Nat.sub_zero, m3 i hi, ha i hi]
      · refine RMd_256 hW hD hB (fun i hi => ?_)
        show MU_past mu' (256 * (cnt1 cnt - 1 - k) + i) = w i
        rw [h0, Nat.sub_zero, m3 i hi, ha i hi]
    · obtain ⟨dk, k1, k2, k3, k4⟩ := u6 (k - 1) (by omega)
      have em : ∀ i, i < 256 → MU_past mu' (256 * (cnt1 cnt - 1 - k) + i) = MU_past mu (256 * (cnt - 1 - (k - 1)) + i) := by
        intro i hi
        have := m4 (k - 1) i (by omega) hi
        rw [show cnt1 cnt - 1 - k = cnt1 cnt - 2 - (k - 1) by omega]
        exact this
      refine ⟨dk, k1, ?_, RMs_256 hW k3 em, RMd_256 hW k1 k4 em⟩
      show RCd a dk (updF st (TP_tr tp) S' (updN (TP_past tp) np (TP_pr tp) (((np + 1) % 10 + 9 - k) % 10)))
      rw [show ((np + 1) % 10 + 9 - k) % 10 = (np + 9 - (k - 1)) % 10 by omega, updN_ne _ _ (by omega), uF_ne _ _ (hT2 _ (by omega)).2]
      exact k2
