def d00 (a : AS) (og rl lk : Nat → Nat) : AD := (0, 0, 0, 0, fun c => 1000000 * AS_vol a c, og, rl, lk, fun _ => false, fun _ => false, fun _ => 0, fun _ => 0, fun _ _ => 0)
def PLC (a : AS) (og rl lk : Nat → Nat) (ly : LL) : Prop := RCs a ly ∧ (∀ c, c < AS_nC a → LL_firstOutgassing ly c = i4 (og c)) ∧ (∀ v, v < AS_nV a → LL_firstRule ly v = i4 (rl v)) ∧ (∀ f, f < AS_nF a → LL_firstLeak ly f = i4 (lk f))
def PLW (a : AS) (og rl lk : Nat → Nat) : Prop := WFs a ∧ (∀ c, c < AS_nC a → og c ≤ 9999) ∧ (∀ v, v < AS_nV a → rl v ≤ 1000000) ∧ (∀ f, f < AS_nF a → lk f ≤ 9999)
theorem WF_d00 {a : AS} {og rl lk : Nat → Nat} (h : PLW a og rl lk) : WFd a (d00 a og rl lk) := by
  obtain ⟨hW, g1, g2, g3⟩ := h
  have s0 : ∀ m, sum8 (fun _ => (0 : Int64)) m = 0 := by
    intro m
    induction m with
    | zero => rfl
    | succ m ih =>
      show sum8 (fun _ => (0 : Int64)) m + 0 = 0
      rw [ih]
      rfl
  refine ⟨fun c hc => ⟨?_, g1 c hc⟩, g2, g3, Nat.zero_le 10, s0 _, s0 _⟩
  show 1000000 * AS_vol a c < (PMAX + 1) * AS_vol a c
  have hv := hW.2.1 c hc
  exact Nat.mul_lt_mul_of_pos_right (by unfold PMAX; omega) (by omega)
/-! the state in which a new system begins -/
def RS0 (S : SS) : Prop := SS_time S = 0 ∧ SS_openValves S = 0 ∧ SS_runningPumps S = 0 ∧ SS_kept S = 0 ∧ SS_pressure S 8 = i4 1000000 ∧ ∃ nx, nx < 10 ∧ SS_next S = i4 nx
def RS1 (a : AS) (og : Nat → Nat) (m : Nat) (S : SS) : Prop := ∀ c, c < m → SS_gas S c = i8 (1000000 * AS_vol a c) ∧ SS_pressure S c = i4 (1000000 * AS_vol a c / AS_vol a c) ∧ SS_outgassing S c = i4 (og c)
def lkS (a : AS) (lk : Nat → Nat) (c m : Nat) : Nat := sumN (fun f => if AS_fH a f = c then lk f else 0) m
def RS2 (a : AS) (lk : Nat → Nat) (M m : Nat) (S : SS) : Prop := (∀ c, c < M → SS_leakSum S c = i4 (lkS a lk c m)) ∧ ∀ f, f < m → SS_leak S f = i4 (lk f)
def RS3 (m : Nat) (S : SS) : Prop := ∀ p, p < m → SS_pumpTrips S p = 0
def RS4 (rl : Nat → Nat) (m : Nat) (S : SS) : Prop := ∀ v, v < m → SS_rule S v = i4 (rl v) ∧ SS_valveTrips S v = 0
section RE
variable {a : AS} {og rl lk : Nat → Nat} {ly : LL}
theorem C_addGz {X : SS} {c v g : Nat} {x : Int64} (hc : c < 8) (hv : 1 ≤ v) (hv2 : v ≤ 999) (e : LL_volume ly c = i4 v) (hg : g < 4611686018427387904) (hx : SS_gas X c + x = i8 g) : f5_addGas ly X (i4 c) x = some (SS_set_pressure (SS_set_gas X (vp_updL (SS_gas X) c (i8 g))) (upd (SS_pressure X) c (i4 (g / v)))) := by
  unfold f5_addGas
  rw [if_neg (show ¬ (i4 c = (8 : Int32)) from fun h => by have := (i4_eq (b := 8) (by omega) (by omega)).mp h; omega), gdi _ (by omega) (by omega), ix4 (by omega), e,
    if_neg (show ¬ (i4 v ≤ (0 : Int32)) from fun h => by have := (i4_le (b := 0) (by omega) (by omega)).mp h; omega), i4_to8 (by omega), gd_of (i8_ne0 (by omega) (by omega)), gdi _ (by omega) (by omega), updL_self, hx, i8_div (by omega) (by omega), i8_to4]
theorem C_r25 (hW : PLW a og rl lk) (hL : PLC a og rl lk ly) : ∀ (r c fu : Nat) (S : SS), c + r = AS_nC a → r < fu → RS0 S → RS1 a og c S → RS2 a lk c 0 S → ∃ S', f5_reset_B25 ly fu S (i4 c) = f5_reset_B92 ly FU S' 0 ∧ RS0 S' ∧ RS1 a og (AS_nC a) S' ∧ RS2 a lk (AS_nC a) 0 S' := by
  have nn := hW.1.1
  intro r
  induction r with
  | zero =>
    intro c fu S hc hf h0 h1 h2
    obtain ⟨q, rfl, -⟩ := fuS hf
    have e : c = AS_nC a := by omega
    rw [f5_reset_B25, hL.1.1.1, if_pos ((i4_le (by omega) (by omega)).mpr (by omega))]
    rw [e] at h1 h2
    exact ⟨S, rfl, h0, h1, h2⟩
  | succ r ih =>
    intro c fu S hc hf h0 h1 h2
    obtain ⟨q, rfl, -⟩ := fuS hf
    have hc2 : c < AS_nC a := by omega
    have hv := hW.1.2.1 c hc2
    obtain ⟨X, hX⟩ : ∃ m, m = SS_set_gas S (vp_updL (SS_gas S) c 0) := ⟨_, rfl⟩
    obtain ⟨U, hU⟩ : ∃ m, m = SS_set_pressure (SS_set_gas X (vp_updL (SS_gas X) c (i8 (1000000 * AS_vol a c)))) (upd (SS_pressure X) c (i4 (1000000 * AS_vol a c / AS_vol a c))) := ⟨_, rfl⟩
    obtain ⟨S1, hS1⟩ : ∃ m, m = SS_set_leakSum (SS_set_outgassing U (upd (SS_outgassing U) c (i4 (og c)))) (upd (SS_leakSum U) c 0) := ⟨_, rfl⟩
    have hx : SS_gas X c + i8 (1000000 * AS_vol a c) = i8 (1000000 * AS_vol a c) := by rw [hX, SS_gas_set_gas, updL_self, Int64.zero_add]
    have em : i8 (AS_vol a c) * 1000000 = i8 (1000000 * AS_vol a c) := by rw [Nat.mul_comm]; exact i8_mul (AS_vol a c) 1000000
    have step : f5_reset_B25 ly (q + 1) S (i4 c) = f5_reset_B25 ly q S1 (i4 (c + 1)) := by
      rw [f5_reset_B25, hL.1.1.1, if_neg (fun z => by have := (i4_le (by omega) (by omega)).mp z; omega), gdi _ (by omega) (by omega), ix4 (by omega), (hL.1.2.1 c hc2).1, ← hX, i4_to8 (by omega), em, C_addGz (by omega) hv.1 hv.2.1 (hL.1.2.1 c hc2).1 (by omega) hx, sbind, ← hU, hL.2.1 c hc2, ← hS1, ad1]
    have qq : SS_time S1 = SS_time S ∧ SS_openValves S1 = SS_openValves S ∧ SS_runningPumps S1 = SS_runningPumps S ∧ SS_kept S1 = SS_kept S ∧ SS_next S1 = SS_next S ∧ SS_gas S1 = vp_updL (vp_updL (SS_gas S) c 0) c (i8 (1000000 * AS_vol a c)) ∧ SS_pressure S1 = upd (SS_pressure S) c (i4 (1000000 * AS_vol a c / AS_vol a c)) ∧ SS_outgassing S1 = upd (SS_outgassing S) c (i4 (og c)) ∧ SS_leakSum S1 = upd (SS_leakSum S) c 0 := by
      rw [hS1, hU, hX]
      refine ⟨?_, ?_, ?_, ?_, ?_, ?_, ?_, ?_, ?_⟩ <;> simp only [SS_time_set_time, SS_openValves_set_time, SS_runningPumps_set_time, SS_gas_set_time, SS_pressure_set_time, SS_outgassing_set_time, SS_leakSum_set_time, SS_rule_set_time, SS_valveTrips_set_time, SS_pumpTrips_set_time, SS_leak_set_time, SS_kept_set_time, SS_next_set_time, SS_facts_set_time, SS_rises_set_time, SS_time_set_openValves, SS_openValves_set_openValves, SS_runningPumps_set_openValves, SS_gas_set_openValves, SS_pressure_set_openValves, SS_outgassing_set_openValves, SS_leakSum_set_openValves, SS_rule_set_openValves, SS_valveTrips_set_openValves, SS_pumpTrips_set_openValves, SS_leak_set_openValves, SS_kept_set_openValves, SS_next_set_openValves, SS_facts_set_openValves, SS_rises_set_openValves, SS_time_set_runningPumps, SS_openValves_set_runningPumps, SS_runningPumps_set_runningPumps, SS_gas_set_runningPumps, SS_pressure_set_runningPumps, SS_outgassing_set_runningPumps, SS_leakSum_set_runningPumps, SS_rule_set_runningPumps, SS_valveTrips_set_runningPumps, SS_pumpTrips_set_runningPumps, SS_leak_set_runningPumps, SS_kept_set_runningPumps, SS_next_set_runningPumps, SS_facts_set_runningPumps, SS_rises_set_runningPumps, SS_time_set_gas, SS_openValves_set_gas, SS_runningPumps_set_gas, SS_gas_set_gas, SS_pressure_set_gas, SS_outgassing_set_gas, SS_leakSum_set_gas, SS_rule_set_gas, SS_valveTrips_set_gas, SS_pumpTrips_set_gas, SS_leak_set_gas, SS_kept_set_gas, SS_next_set_gas, SS_facts_set_gas, SS_rises_set_gas, SS_time_set_pressure, SS_openValves_set_pressure, SS_runningPumps_set_pressure, SS_gas_set_pressure, SS_pressure_set_pressure, SS_outgassing_set_pressure, SS_leakSum_set_pressure, SS_rule_set_pressure, SS_valveTrips_set_pressure, SS_pumpTrips_set_pressure, SS_leak_set_pressure, SS_kept_set_pressure, SS_next_set_pressure, SS_facts_set_pressure, SS_rises_set_pressure, SS_time_set_outgassing, SS_openValves_set_outgassing, SS_runningPumps_set_outgassing, SS_gas_set_outgassing, SS_pressure_set_outgassing, SS_outgassing_set_outgassing, SS_leakSum_set_outgassing, SS_rule_set_outgassing, SS_valveTrips_set_outgassing, SS_pumpTrips_set_outgassing, SS_leak_set_outgassing, SS_kept_set_outgassing, SS_next_set_outgassing, SS_facts_set_outgassing, SS_rises_set_outgassing, SS_time_set_leakSum, SS_openValves_set_leakSum, SS_runningPumps_set_leakSum, SS_gas_set_leakSum, SS_pressure_set_leakSum, SS_outgassing_set_leakSum, SS_leakSum_set_leakSum, SS_rule_set_leakSum, SS_valveTrips_set_leakSum, SS_pumpTrips_set_leakSum, SS_leak_set_leakSum, SS_kept_set_leakSum, SS_next_set_leakSum, SS_facts_set_leakSum, SS_rises_set_leakSum, SS_time_set_rule, SS_openValves_set_rule, SS_runningPumps_set_rule, SS_gas_set_rule, SS_pressure_set_rule, SS_outgassing_set_rule, SS_leakSum_set_rule, SS_rule_set_rule, SS_valveTrips_set_rule, SS_pumpTrips_set_rule, SS_leak_set_rule, SS_kept_set_rule, SS_next_set_rule, SS_facts_set_rule, SS_rises_set_rule, SS_time_set_valveTrips, SS_openValves_set_valveTrips, SS_runningPumps_set_valveTrips, SS_gas_set_valveTrips, SS_pressure_set_valveTrips, SS_outgassing_set_valveTrips, SS_leakSum_set_valveTrips, SS_rule_set_valveTrips, SS_valveTrips_set_valveTrips, SS_pumpTrips_set_valveTrips, SS_leak_set_valveTrips, SS_kept_set_valveTrips, SS_next_set_valveTrips, SS_facts_set_valveTrips, SS_rises_set_valveTrips, SS_time_set_pumpTrips, SS_openValves_set_pumpTrips, SS_runningPumps_set_pumpTrips, SS_gas_set_pumpTrips, SS_pressure_set_pumpTrips, SS_outgassing_set_pumpTrips, SS_leakSum_set_pumpTrips, SS_rule_set_pumpTrips, SS_valveTrips_set_pumpTrips, SS_pumpTrips_set_pumpTrips, SS_leak_set_pumpTrips, SS_kept_set_pumpTrips, SS_next_set_pumpTrips, SS_facts_set_pumpTrips, SS_rises_set_pumpTrips, SS_time_set_leak, SS_openValves_set_leak, SS_runningPumps_set_leak, SS_gas_set_leak, SS_pressure_set_leak, SS_outgassing_set_leak, SS_leakSum_set_leak, SS_rule_set_leak, SS_valveTrips_set_leak, SS_pumpTrips_set_leak, SS_leak_set_leak, SS_kept_set_leak, SS_next_set_leak, SS_facts_set_leak, SS_rises_set_leak, SS_time_set_kept, SS_openValves_set_kept, SS_runningPumps_set_kept, SS_gas_set_kept, SS_pressure_set_kept, SS_outgassing_set_kept, SS_leakSum_set_kept, SS_rule_set_kept, SS_valveTrips_set_kept, SS_pumpTrips_set_kept, SS_leak_set_kept, SS_kept_set_kept, SS_next_set_kept, SS_facts_set_kept, SS_rises_set_kept, SS_time_set_next, SS_openValves_set_next, SS_runningPumps_set_next, SS_gas_set_next, SS_pressure_set_next, SS_outgassing_set_next, SS_leakSum_set_next, SS_rule_set_next, SS_valveTrips_set_next, SS_pumpTrips_set_next, SS_leak_set_next, SS_kept_set_next, SS_next_set_next, SS_facts_set_next, SS_rises_set_next, SS_time_set_facts, SS_openValves_set_facts, SS_runningPumps_set_facts, SS_gas_set_facts, SS_pressure_set_facts, SS_outgassing_set_facts, SS_leakSum_set_facts, SS_rule_set_facts, SS_valveTrips_set_facts, SS_pumpTrips_set_facts, SS_leak_set_facts, SS_kept_set_facts, SS_next_set_facts, SS_facts_set_facts, SS_rises_set_facts, SS_time_set_rises, SS_openValves_set_rises, SS_runningPumps_set_rises, SS_gas_set_rises, SS_pressure_set_rises, SS_outgassing_set_rises, SS_leakSum_set_rises, SS_rule_set_rises, SS_valveTrips_set_rises, SS_pumpTrips_set_rises, SS_leak_set_rises, SS_kept_set_rises, SS_next_set_rises, SS_facts_set_rises, SS_rises_set_rises]
    clear hS1 hU hX hx
    obtain ⟨q1, q2, q3, q4, q5, q6, q7, q8, q9⟩ := qq
    rw [step]
    refine ih (c + 1) q S1 (by omega) (by omega) ⟨q1.trans h0.1, q2.trans h0.2.1, q3.trans h0.2.2.1, q4.trans h0.2.2.2.1, ?_, ?_⟩ (fun c' hc' => ?_) ⟨fun c' hc' => ?_, fun f hf => absurd hf (Nat.not_lt_zero f)⟩
    · rw [q7, upd_ne _ _ (by omega)]; exact h0.2.2.2.2.1
    · rw [q5]; exact h0.2.2.2.2.2
    · rw [q6, q7, q8]
      by_cases he : c' = c
      · rw [he, updL_self, upd_self, upd_self]; exact ⟨rfl, rfl, rfl⟩
      · rw [updL_ne _ _ he, updL_ne _ _ he, upd_ne _ _ he, upd_ne _ _ he]; exact h1 c' (by omega)
    · rw [q9]
      by_cases he : c' = c
      · rw [he, upd_self]; rfl
      · rw [upd_ne _ _ he]; exact h2.1 c' (by omega)
theorem C_r92 (hW : PLW a og rl lk) (hL : PLC a og rl lk ly) : ∀ (r p fu : Nat) (S : SS), p + r = AS_nP a → r < fu → RS0 S → RS1 a og (AS_nC a) S → RS2 a lk (AS_nC a) 0 S → RS3 p S → ∃ S', f5_reset_B92 ly fu S (i4 p) = f5_reset_B118 ly FU S' 0 ∧ RS0 S' ∧ RS1 a og (AS_nC a) S' ∧ RS2 a lk (AS_nC a) 0 S' ∧ RS3 (AS_nP a) S' := by
  have nn := hW.1.1
  intro r
  induction r with
  | zero =>
    intro c fu S hc hf h0 h1 h2 h3
    obtain ⟨q, rfl, -⟩ := fuS hf
    have e : c = AS_nP a := by omega
    rw [f5_reset_B92, hL.1.1.2.1, if_pos ((i4_le (by omega) (by omega)).mpr (by omega))]
    rw [e] at h3
    exact ⟨S, rfl, h0, h1, h2, h3⟩
  | succ r ih =>
    intro c fu S hc hf h0 h1 h2 h3
    obtain ⟨q, rfl, -⟩ := fuS hf
    obtain ⟨S1, hS1⟩ : ∃ m, m = SS_set_pumpTrips S (upd (SS_pumpTrips S) c 0) := ⟨_, rfl⟩
    have step : f5_reset_B92 ly (q + 1) S (i4 c) = f5_reset_B92 ly q S1 (i4 (c + 1)) := by
      rw [f5_reset_B92, hL.1.1.2.1, if_neg (fun z => by have := (i4_le (by omega) (by omega)).mp z; omega), gdi _ (by omega) (by omega), ix4 (by omega), ← hS1, ad1]
    have qq : SS_time S1 = SS_time S ∧ SS_openValves S1 = SS_openValves S ∧ SS_runningPumps S1 = SS_runningPumps S ∧ SS_kept S1 = SS_kept S ∧ SS_next S1 = SS_next S ∧ SS_gas S1 = SS_gas S ∧ SS_pressure S1 = SS_pressure S ∧ SS_outgassing S1 = SS_outgassing S ∧ SS_leakSum S1 = SS_leakSum S ∧ SS_pumpTrips S1 = upd (SS_pumpTrips S) c 0 := by
      rw [hS1]
      refine ⟨?_, ?_, ?_, ?_, ?_, ?_, ?_, ?_, ?_, ?_⟩ <;> simp only [SS_time_set_time, SS_openValves_set_time, SS_runningPumps_set_time, SS_gas_set_time, SS_pressure_set_time, SS_outgassing_set_time, SS_leakSum_set_time, SS_rule_set_time, SS_valveTrips_set_time, SS_pumpTrips_set_time, SS_leak_set_time, SS_kept_set_time, SS_next_set_time, SS_facts_set_time, SS_rises_set_time, SS_time_set_openValves, SS_openValves_set_openValves, SS_runningPumps_set_openValves, SS_gas_set_openValves, SS_pressure_set_openValves, SS_outgassing_set_openValves, SS_leakSum_set_openValves, SS_rule_set_openValves, SS_valveTrips_set_openValves, SS_pumpTrips_set_openValves, SS_leak_set_openValves, SS_kept_set_openValves, SS_next_set_openValves, SS_facts_set_openValves, SS_rises_set_openValves, SS_time_set_runningPumps, SS_openValves_set_runningPumps, SS_runningPumps_set_runningPumps, SS_gas_set_runningPumps, SS_pressure_set_runningPumps, SS_outgassing_set_runningPumps, SS_leakSum_set_runningPumps, SS_rule_set_runningPumps, SS_valveTrips_set_runningPumps, SS_pumpTrips_set_runningPumps, SS_leak_set_runningPumps, SS_kept_set_runningPumps, SS_next_set_runningPumps, SS_facts_set_runningPumps, SS_rises_set_runningPumps, SS_time_set_gas, SS_openValves_set_gas, SS_runningPumps_set_gas, SS_gas_set_gas, SS_pressure_set_gas, SS_outgassing_set_gas, SS_leakSum_set_gas, SS_rule_set_gas, SS_valveTrips_set_gas, SS_pumpTrips_set_gas, SS_leak_set_gas, SS_kept_set_gas, SS_next_set_gas, SS_facts_set_gas, SS_rises_set_gas, SS_time_set_pressure, SS_openValves_set_pressure, SS_runningPumps_set_pressure, SS_gas_set_pressure, SS_pressure_set_pressure, SS_outgassing_set_pressure, SS_leakSum_set_pressure, SS_rule_set_pressure, SS_valveTrips_set_pressure, SS_pumpTrips_set_pressure, SS_leak_set_pressure, SS_kept_set_pressure, SS_next_set_pressure, SS_facts_set_pressure, SS_rises_set_pressure, SS_time_set_outgassing, SS_openValves_set_outgassing, SS_runningPumps_set_outgassing, SS_gas_set_outgassing, SS_pressure_set_outgassing, SS_outgassing_set_outgassing, SS_leakSum_set_outgassing, SS_rule_set_outgassing, SS_valveTrips_set_outgassing, SS_pumpTrips_set_outgassing, SS_leak_set_outgassing, SS_kept_set_outgassing, SS_next_set_outgassing, SS_facts_set_outgassing, SS_rises_set_outgassing, SS_time_set_leakSum, SS_openValves_set_leakSum, SS_runningPumps_set_leakSum, SS_gas_set_leakSum, SS_pressure_set_leakSum, SS_outgassing_set_leakSum, SS_leakSum_set_leakSum, SS_rule_set_leakSum, SS_valveTrips_set_leakSum, SS_pumpTrips_set_leakSum, SS_leak_set_leakSum, SS_kept_set_leakSum, SS_next_set_leakSum, SS_facts_set_leakSum, SS_rises_set_leakSum, SS_time_set_rule, SS_openValves_set_rule, SS_runningPumps_set_rule, SS_gas_set_rule, SS_pressure_set_rule, SS_outgassing_set_rule, SS_leakSum_set_rule, SS_rule_set_rule, SS_valveTrips_set_rule, SS_pumpTrips_set_rule, SS_leak_set_rule, SS_kept_set_rule, SS_next_set_rule, SS_facts_set_rule, SS_rises_set_rule, SS_time_set_valveTrips, SS_openValves_set_valveTrips, SS_runningPumps_set_valveTrips, SS_gas_set_valveTrips, SS_pressure_set_valveTrips, SS_outgassing_set_valveTrips, SS_leakSum_set_valveTrips, SS_rule_set_valveTrips, SS_valveTrips_set_valveTrips, SS_pumpTrips_set_valveTrips, SS_leak_set_valveTrips, SS_kept_set_valveTrips, SS_next_set_valveTrips, SS_facts_set_valveTrips, SS_rises_set_valveTrips, SS_time_set_pumpTrips, SS_openValves_set_pumpTrips, SS_runningPumps_set_pumpTrips, SS_gas_set_pumpTrips, SS_pressure_set_pumpTrips, SS_outgassing_set_pumpTrips, SS_leakSum_set_pumpTrips, SS_rule_set_pumpTrips, SS_valveTrips_set_pumpTrips, SS_pumpTrips_set_pumpTrips, SS_leak_set_pumpTrips, SS_kept_set_pumpTrips, SS_next_set_pumpTrips, SS_facts_set_pumpTrips, SS_rises_set_pumpTrips, SS_time_set_leak, SS_openValves_set_leak, SS_runningPumps_set_leak, SS_gas_set_leak, SS_pressure_set_leak, SS_outgassing_set_leak, SS_leakSum_set_leak, SS_rule_set_leak, SS_valveTrips_set_leak, SS_pumpTrips_set_leak, SS_leak_set_leak, SS_kept_set_leak, SS_next_set_leak, SS_facts_set_leak, SS_rises_set_leak, SS_time_set_kept, SS_openValves_set_kept, SS_runningPumps_set_kept, SS_gas_set_kept, SS_pressure_set_kept, SS_outgassing_set_kept, SS_leakSum_set_kept, SS_rule_set_kept, SS_valveTrips_set_kept, SS_pumpTrips_set_kept, SS_leak_set_kept, SS_kept_set_kept, SS_next_set_kept, SS_facts_set_kept, SS_rises_set_kept, SS_time_set_next, SS_openValves_set_next, SS_runningPumps_set_next, SS_gas_set_next, SS_pressure_set_next, SS_outgassing_set_next, SS_leakSum_set_next, SS_rule_set_next, SS_valveTrips_set_next, SS_pumpTrips_set_next, SS_leak_set_next, SS_kept_set_next, SS_next_set_next, SS_facts_set_next, SS_rises_set_next, SS_time_set_facts, SS_openValves_set_facts, SS_runningPumps_set_facts, SS_gas_set_facts, SS_pressure_set_facts, SS_outgassing_set_facts, SS_leakSum_set_facts, SS_rule_set_facts, SS_valveTrips_set_facts, SS_pumpTrips_set_facts, SS_leak_set_facts, SS_kept_set_facts, SS_next_set_facts, SS_facts_set_facts, SS_rises_set_facts, SS_time_set_rises, SS_openValves_set_rises, SS_runningPumps_set_rises, SS_gas_set_rises, SS_pressure_set_rises, SS_outgassing_set_rises, SS_leakSum_set_rises, SS_rule_set_rises, SS_valveTrips_set_rises, SS_pumpTrips_set_rises, SS_leak_set_rises, SS_kept_set_rises, SS_next_set_rises, SS_facts_set_rises, SS_rises_set_rises]
    clear hS1
    obtain ⟨q1, q2, q3, q4, q5, q6, q7, q8, q9, q10⟩ := qq
    rw [step]
    refine ih (c + 1) q S1 (by omega) (by omega) ⟨q1.trans h0.1, q2.trans h0.2.1, q3.trans h0.2.2.1, q4.trans h0.2.2.2.1, ?_, ?_⟩ (fun c' hc' => ?_) ⟨fun c' hc' => ?_, fun f hf => absurd hf (Nat.not_lt_zero f)⟩ (fun c' hc' => ?_)
    · rw [q7]; exact h0.2.2.2.2.1
    · rw [q5]; exact h0.2.2.2.2.2
    · rw [q6, q7, q8]; exact h1 c' hc'
    · rw [q9]; exact h2.1 c' hc'
    · rw [q10]
      by_cases he : c' = c
      · rw [he, upd_self]
      · rw [upd_ne _ _ he]; exact h3 c' (by omega)
theorem C_r118 (hW : PLW a og rl lk) (hL : PLC a og rl lk ly) : ∀ (r p fu : Nat) (S : SS), p + r = AS_nV a → r < fu → RS0 S → RS1 a og (AS_nC a) S → RS2 a lk (AS_nC a) 0 S → RS3 (AS_nP a) S → RS4 rl p S → ∃ S', f5_reset_B118 ly fu S (i4 p) = f5_reset_B159 ly FU S' 0 ∧ RS0 S' ∧ RS1 a og (AS_nC a) S' ∧ RS2 a lk (AS_nC a) 0 S' ∧ RS3 (AS_nP a) S' ∧ RS4 rl (AS_nV a) S' := by
  have nn := hW.1.1
  intro r
  induction r with
  | zero =>
    intro c fu S hc hf h0 h1 h2 h3 h4
    obtain ⟨q, rfl, -⟩ := fuS hf
    have e : c = AS_nV a := by omega
    rw [f5_reset_B118, hL.1.1.2.2.1, if_pos ((i4_le (by omega) (by omega)).mpr (by omega))]
    rw [e] at h4
    exact ⟨S, rfl, h0, h1, h2, h3, h4⟩
  | succ r ih =>
    intro c fu S hc hf h0 h1 h2 h3 h4
    obtain ⟨q, rfl, -⟩ := fuS hf
    obtain ⟨S1, hS1⟩ : ∃ m, m = SS_set_valveTrips (SS_set_rule S (upd (SS_rule S) c (i4 (rl c)))) (upd (SS_valveTrips S) c 0) := ⟨_, rfl⟩
    have step : f5_reset_B118 ly (q + 1) S (i4 c) = f5_reset_B118 ly q S1 (i4 (c + 1)) := by
      rw [f5_reset_B118, hL.1.1.2.2.1, if_neg (fun z => by have := (i4_le (by omega) (by omega)).mp z; omega), gdi _ (by omega) (by omega), ix4 (by omega), hL.2.2.1 c (by omega), ← hS1, ad1]
    have qq : SS_time S1 = SS_time S ∧ SS_openValves S1 = SS_openValves S ∧ SS_runningPumps S1 = SS_runningPumps S ∧ SS_kept S1 = SS_kept S ∧ SS_next S1 = SS_next S ∧ SS_gas S1 = SS_gas S ∧ SS_pressure S1 = SS_pressure S ∧ SS_outgassing S1 = SS_outgassing S ∧ SS_leakSum S1 = SS_leakSum S ∧ SS_pumpTrips S1 = SS_pumpTrips S ∧ SS_rule S1 = upd (SS_rule S) c (i4 (rl c)) ∧ SS_valveTrips S1 = upd (SS_valveTrips S) c 0 := by
      rw [hS1]
      refine ⟨?_, ?_, ?_, ?_, ?_, ?_, ?_, ?_, ?_, ?_, ?_, ?_⟩ <;> simp only [SS_time_set_time, SS_openValves_set_time, SS_runningPumps_set_time, SS_gas_set_time, SS_pressure_set_time, SS_outgassing_set_time, SS_leakSum_set_time, SS_rule_set_time, SS_valveTrips_set_time, SS_pumpTrips_set_time, SS_leak_set_time, SS_kept_set_time, SS_next_set_time, SS_facts_set_time, SS_rises_set_time, SS_time_set_openValves, SS_openValves_set_openValves, SS_runningPumps_set_openValves, SS_gas_set_openValves, SS_pressure_set_openValves, SS_outgassing_set_openValves, SS_leakSum_set_openValves, SS_rule_set_openValves, SS_valveTrips_set_openValves, SS_pumpTrips_set_openValves, SS_leak_set_openValves, SS_kept_set_openValves, SS_next_set_openValves, SS_facts_set_openValves, SS_rises_set_openValves, SS_time_set_runningPumps, SS_openValves_set_runningPumps, SS_runningPumps_set_runningPumps, SS_gas_set_runningPumps, SS_pressure_set_runningPumps, SS_outgassing_set_runningPumps, SS_leakSum_set_runningPumps, SS_rule_set_runningPumps, SS_valveTrips_set_runningPumps, SS_pumpTrips_set_runningPumps, SS_leak_set_runningPumps, SS_kept_set_runningPumps, SS_next_set_runningPumps, SS_facts_set_runningPumps, SS_rises_set_runningPumps, SS_time_set_gas, SS_openValves_set_gas, SS_runningPumps_set_gas, SS_gas_set_gas, SS_pressure_set_gas, SS_outgassing_set_gas, SS_leakSum_set_gas, SS_rule_set_gas, SS_valveTrips_set_gas, SS_pumpTrips_set_gas, SS_leak_set_gas, SS_kept_set_gas, SS_next_set_gas, SS_facts_set_gas, SS_rises_set_gas, SS_time_set_pressure, SS_openValves_set_pressure, SS_runningPumps_set_pressure, SS_gas_set_pressure, SS_pressure_set_pressure, SS_outgassing_set_pressure, SS_leakSum_set_pressure, SS_rule_set_pressure, SS_valveTrips_set_pressure, SS_pumpTrips_set_pressure, SS_leak_set_pressure, SS_kept_set_pressure, SS_next_set_pressure, SS_facts_set_pressure, SS_rises_set_pressure, SS_time_set_outgassing, SS_openValves_set_outgassing, SS_runningPumps_set_outgassing, SS_gas_set_outgassing, SS_pressure_set_outgassing, SS_outgassing_set_outgassing, SS_leakSum_set_outgassing, SS_rule_set_outgassing, SS_valveTrips_set_outgassing, SS_pumpTrips_set_outgassing, SS_leak_set_outgassing, SS_kept_set_outgassing, SS_next_set_outgassing, SS_facts_set_outgassing, SS_rises_set_outgassing, SS_time_set_leakSum, SS_openValves_set_leakSum, SS_runningPumps_set_leakSum, SS_gas_set_leakSum, SS_pressure_set_leakSum, SS_outgassing_set_leakSum, SS_leakSum_set_leakSum, SS_rule_set_leakSum, SS_valveTrips_set_leakSum, SS_pumpTrips_set_leakSum, SS_leak_set_leakSum, SS_kept_set_leakSum, SS_next_set_leakSum, SS_facts_set_leakSum, SS_rises_set_leakSum, SS_time_set_rule, SS_openValves_set_rule, SS_runningPumps_set_rule, SS_gas_set_rule, SS_pressure_set_rule, SS_outgassing_set_rule, SS_leakSum_set_rule, SS_rule_set_rule, SS_valveTrips_set_rule, SS_pumpTrips_set_rule, SS_leak_set_rule, SS_kept_set_rule, SS_next_set_rule, SS_facts_set_rule, SS_rises_set_rule, SS_time_set_valveTrips, SS_openValves_set_valveTrips, SS_runningPumps_set_valveTrips, SS_gas_set_valveTrips, SS_pressure_set_valveTrips, SS_outgassing_set_valveTrips, SS_leakSum_set_valveTrips, SS_rule_set_valveTrips, SS_valveTrips_set_valveTrips, SS_pumpTrips_set_valveTrips, SS_leak_set_valveTrips, SS_kept_set_valveTrips, SS_next_set_valveTrips, SS_facts_set_valveTrips, SS_rises_set_valveTrips, SS_time_set_pumpTrips, SS_openValves_set_pumpTrips, SS_runningPumps_set_pumpTrips, SS_gas_set_pumpTrips, SS_pressure_set_pumpTrips, SS_outgassing_set_pumpTrips, SS_leakSum_set_pumpTrips, SS_rule_set_pumpTrips, SS_valveTrips_set_pumpTrips, SS_pumpTrips_set_pumpTrips, SS_leak_set_pumpTrips, SS_kept_set_pumpTrips, SS_next_set_pumpTrips, SS_facts_set_pumpTrips, SS_rises_set_pumpTrips, SS_time_set_leak, SS_openValves_set_leak, SS_runningPumps_set_leak, SS_gas_set_leak, SS_pressure_set_leak, SS_outgassing_set_leak, SS_leakSum_set_leak, SS_rule_set_leak, SS_valveTrips_set_leak, SS_pumpTrips_set_leak, SS_leak_set_leak, SS_kept_set_leak, SS_next_set_leak, SS_facts_set_leak, SS_rises_set_leak, SS_time_set_kept, SS_openValves_set_kept, SS_runningPumps_set_kept, SS_gas_set_kept, SS_pressure_set_kept, SS_outgassing_set_kept, SS_leakSum_set_kept, SS_rule_set_kept, SS_valveTrips_set_kept, SS_pumpTrips_set_kept, SS_leak_set_kept, SS_kept_set_kept, SS_next_set_kept, SS_facts_set_kept, SS_rises_set_kept, SS_time_set_next, SS_openValves_set_next, SS_runningPumps_set_next, SS_gas_set_next, SS_pressure_set_next, SS_outgassing_set_next, SS_leakSum_set_next, SS_rule_set_next, SS_valveTrips_set_next, SS_pumpTrips_set_next, SS_leak_set_next, SS_kept_set_next, SS_next_set_next, SS_facts_set_next, SS_rises_set_next, SS_time_set_facts, SS_openValves_set_facts, SS_runningPumps_set_facts, SS_gas_set_facts, SS_pressure_set_facts, SS_outgassing_set_facts, SS_leakSum_set_facts, SS_rule_set_facts, SS_valveTrips_set_facts, SS_pumpTrips_set_facts, SS_leak_set_facts, SS_kept_set_facts, SS_next_set_facts, SS_facts_set_facts, SS_rises_set_facts, SS_time_set_rises, SS_openValves_set_rises, SS_runningPumps_set_rises, SS_gas_set_rises, SS_pressure_set_rises, SS_outgassing_set_rises, SS_leakSum_set_rises, SS_rule_set_rises, SS_valveTrips_set_rises, SS_pumpTrips_set_rises, SS_leak_set_rises, SS_kept_set_rises, SS_next_set_rises, SS_facts_set_rises, SS_rises_set_rises]
    clear hS1
    obtain ⟨q1, q2, q3, q4, q5, q6, q7, q8, q9, q10, q11, q12⟩ := qq
    rw [step]
    refine ih (c + 1) q S1 (by omega) (by omega) ⟨q1.trans h0.1, q2.trans h0.2.1, q3.trans h0.2.2.1, q4.trans h0.2.2.2.1, ?_, ?_⟩ (fun c' hc' => ?_) ⟨fun c' hc' => ?_, fun f hf => absurd hf (Nat.not_lt_zero f)⟩ (fun c' hc' => ?_) (fun c' hc' => ?_)
    · rw [q7]; exact h0.2.2.2.2.1
    · rw [q5]; exact h0.2.2.2.2.2
    · rw [q6, q7, q8]; exact h1 c' hc'
    · rw [q9]; exact h2.1 c' hc'
    · rw [q10]; exact h3 c' hc'
    · rw [q11, q12]
      by_cases he : c' = c
      · rw [he, upd_self, upd_self]; exact ⟨rfl, rfl⟩
      · rw [upd_ne _ _ he, upd_ne _ _ he]; exact h4 c' (by omega)
theorem C_r159 (hW : PLW a og rl lk) (hL : PLC a og rl lk ly) : ∀ (r p fu : Nat) (S : SS), p + r = AS_nF a → r < fu → RS0 S → RS1 a og (AS_nC a) S → RS2 a lk (AS_nC a) p S → RS3 (AS_nP a) S → RS4 rl (AS_nV a) S → ∃ S', f5_reset_B159 ly fu S (i4 p) = some S' ∧ RS0 S' ∧ RS1 a og (AS_nC a) S' ∧ RS2 a lk (AS_nC a) (AS_nF a) S' ∧ RS3 (AS_nP a) S' ∧ RS4 rl (AS_nV a) S' := by
  have nn := hW.1.1
  intro r
  induction r with
  | zero =>
    intro c fu S hc hf h0 h1 h2 h3 h4
    obtain ⟨q, rfl, -⟩ := fuS hf
    have e : c = AS_nF a := by omega
    rw [f5_reset_B159, hL.1.1.2.2.2, if_pos ((i4_le (by omega) (by omega)).mpr (by omega))]
    rw [e] at h2
    exact ⟨S, rfl, h0, h1, h2, h3, h4⟩
  | succ r ih =>
    intro c fu S hc hf h0 h1 h2 h3 h4
    obtain ⟨q, rfl, -⟩ := fuS hf
    have hH := hW.1.2.2.2.2 c (by omega)
    have eH := hL.1.2.2.2.2 c (by omega)
    obtain ⟨X, hX⟩ : ∃ m, m = SS_set_leak S (upd (SS_leak S) c 0) := ⟨_, rfl⟩
    have xX : SS_leak X c = 0 := by rw [hX, SS_leak_set_leak, upd_self]
    have xS : SS_leakSum X = SS_leakSum S := by rw [hX, SS_leakSum_set_leak]
    obtain ⟨S1, hS1⟩ : ∃ m, m = SS_set_leak (SS_set_leakSum X (upd (SS_leakSum X) (AS_fH a c) (i4 (lkS a lk (AS_fH a c) c + lk c)))) (upd (SS_leak X) c (i4 (lk c))) := ⟨_, rfl⟩
    have step : f5_reset_B159 ly (q + 1) S (i4 c) = f5_reset_B159 ly q S1 (i4 (c + 1)) := by
      rw [f5_reset_B159, hL.1.1.2.2.2, if_neg (fun z => by have := (i4_le (by omega) (by omega)).mp z; omega), gdi _ (by omega) (by omega), ix4 (by omega), ← hX, hL.2.2.2 c (by omega)]
      unfold f5_putLeak
      rw [gdi _ (by omega) (by omega), ix4 (by omega), eH, gdi _ (by omega) (by omega), ix4 (by omega), xX, Int32.sub_zero, show SS_leakSum X (AS_fH a c) = i4 (lkS a lk (AS_fH a c) c) by rw [xS]; exact h2.1 _ hH, i4_add, sbind, ← hS1, ad1]
    have qq : SS_time S1 = SS_time S ∧ SS_openValves S1 = SS_openValves S ∧ SS_runningPumps S1 = SS_runningPumps S ∧ SS_kept S1 = SS_kept S ∧ SS_next S1 = SS_next S ∧ SS_gas S1 = SS_gas S ∧ SS_pressure S1 = SS_pressure S ∧ SS_outgassing S1 = SS_outgassing S ∧ SS_leakSum S1 = upd (SS_leakSum S) (AS_fH a c) (i4 (lkS a lk (AS_fH a c) c + lk c)) ∧ SS_pumpTrips S1 = SS_pumpTrips S ∧ SS_rule S1 = SS_rule S ∧ SS_valveTrips S1 = SS_valveTrips S ∧ SS_leak S1 = upd (upd (SS_leak S) c 0) c (i4 (lk c)) := by
      rw [hS1, hX]
      refine ⟨?_, ?_, ?_, ?_, ?_, ?_, ?_, ?_, ?_, ?_, ?_, ?_, ?_⟩ <;> simp only [SS_time_set_time, SS_openValves_set_time, SS_runningPumps_set_time, SS_gas_set_time, SS_pressure_set_time, SS_outgassing_set_time, SS_leakSum_set_time, SS_rule_set_time, SS_valveTrips_set_time, SS_pumpTrips_set_time, SS_leak_set_time, SS_kept_set_time, SS_next_set_time, SS_facts_set_time, SS_rises_set_time, SS_time_set_openValves, SS_openValves_set_openValves, SS_runningPumps_set_openValves, SS_gas_set_openValves, SS_pressure_set_openValves, SS_outgassing_set_openValves, SS_leakSum_set_openValves, SS_rule_set_openValves, SS_valveTrips_set_openValves, SS_pumpTrips_set_openValves, SS_leak_set_openValves, SS_kept_set_openValves, SS_next_set_openValves, SS_facts_set_openValves, SS_rises_set_openValves, SS_time_set_runningPumps, SS_openValves_set_runningPumps, SS_runningPumps_set_runningPumps, SS_gas_set_runningPumps, SS_pressure_set_runningPumps, SS_outgassing_set_runningPumps, SS_leakSum_set_runningPumps, SS_rule_set_runningPumps, SS_valveTrips_set_runningPumps, SS_pumpTrips_set_runningPumps, SS_leak_set_runningPumps, SS_kept_set_runningPumps, SS_next_set_runningPumps, SS_facts_set_runningPumps, SS_rises_set_runningPumps, SS_time_set_gas, SS_openValves_set_gas, SS_runningPumps_set_gas, SS_gas_set_gas, SS_pressure_set_gas, SS_outgassing_set_gas, SS_leakSum_set_gas, SS_rule_set_gas, SS_valveTrips_set_gas, SS_pumpTrips_set_gas, SS_leak_set_gas, SS_kept_set_gas, SS_next_set_gas, SS_facts_set_gas, SS_rises_set_gas, SS_time_set_pressure, SS_openValves_set_pressure, SS_runningPumps_set_pressure, SS_gas_set_pressure, SS_pressure_set_pressure, SS_outgassing_set_pressure, SS_leakSum_set_pressure, SS_rule_set_pressure, SS_valveTrips_set_pressure, SS_pumpTrips_set_pressure, SS_leak_set_pressure, SS_kept_set_pressure, SS_next_set_pressure, SS_facts_set_pressure, SS_rises_set_pressure, SS_time_set_outgassing, SS_openValves_set_outgassing, SS_runningPumps_set_outgassing, SS_gas_set_outgassing, SS_pressure_set_outgassing, SS_outgassing_set_outgassing, SS_leakSum_set_outgassing, SS_rule_set_outgassing, SS_valveTrips_set_outgassing, SS_pumpTrips_set_outgassing, SS_leak_set_outgassing, SS_kept_set_outgassing, SS_next_set_outgassing, SS_facts_set_outgassing, SS_rises_set_outgassing, SS_time_set_leakSum, SS_openValves_set_leakSum, SS_runningPumps_set_leakSum, SS_gas_set_leakSum, SS_pressure_set_leakSum, SS_outgassing_set_leakSum, SS_leakSum_set_leakSum, SS_rule_set_leakSum, SS_valveTrips_set_leakSum, SS_pumpTrips_set_leakSum, SS_leak_set_leakSum, SS_kept_set_leakSum, SS_next_set_leakSum, SS_facts_set_leakSum, SS_rises_set_leakSum, SS_time_set_rule, SS_openValves_set_rule, SS_runningPumps_set_rule, SS_gas_set_rule, SS_pressure_set_rule, SS_outgassing_set_rule, SS_leakSum_set_rule, SS_rule_set_rule, SS_valveTrips_set_rule, SS_pumpTrips_set_rule, SS_leak_set_rule, SS_kept_set_rule, SS_next_set_rule, SS_facts_set_rule, SS_rises_set_rule, SS_time_set_valveTrips, SS_openValves_set_valveTrips, SS_runningPumps_set_valveTrips, SS_gas_set_valveTrips, SS_pressure_set_valveTrips, SS_outgassing_set_valveTrips, SS_leakSum_set_valveTrips, SS_rule_set_valveTrips, SS_valveTrips_set_valveTrips, SS_pumpTrips_set_valveTrips, SS_leak_set_valveTrips, SS_kept_set_valveTrips, SS_next_set_valveTrips, SS_facts_set_valveTrips, SS_rises_set_valveTrips, SS_time_set_pumpTrips, SS_openValves_set_pumpTrips, SS_runningPumps_set_pumpTrips, SS_gas_set_pumpTrips, SS_pressure_set_pumpTrips, SS_outgassing_set_pumpTrips, SS_leakSum_set_pumpTrips, SS_rule_set_pumpTrips, SS_valveTrips_set_pumpTrips, SS_pumpTrips_set_pumpTrips, SS_leak_set_pumpTrips, SS_kept_set_pumpTrips, SS_next_set_pumpTrips, SS_facts_set_pumpTrips, SS_rises_set_pumpTrips, SS_time_set_leak, SS_openValves_set_leak, SS_runningPumps_set_leak, SS_gas_set_leak, SS_pressure_set_leak, SS_outgassing_set_leak, SS_leakSum_set_leak, SS_rule_set_leak, SS_valveTrips_set_leak, SS_pumpTrips_set_leak, SS_leak_set_leak, SS_kept_set_leak, SS_next_set_leak, SS_facts_set_leak, SS_rises_set_leak, SS_time_set_kept, SS_openValves_set_kept, SS_runningPumps_set_kept, SS_gas_set_kept, SS_pressure_set_kept, SS_outgassing_set_kept, SS_leakSum_set_kept, SS_rule_set_kept, SS_valveTrips_set_kept, SS_pumpTrips_set_kept, SS_leak_set_kept, SS_kept_set_kept, SS_next_set_kept, SS_facts_set_kept, SS_rises_set_kept, SS_time_set_next, SS_openValves_set_next, SS_runningPumps_set_next, SS_gas_set_next, SS_pressure_set_next, SS_outgassing_set_next, SS_leakSum_set_next, SS_rule_set_next, SS_valveTrips_set_next, SS_pumpTrips_set_next, SS_leak_set_next, SS_kept_set_next, SS_next_set_next, SS_facts_set_next, SS_rises_set_next, SS_time_set_facts, SS_openValves_set_facts, SS_runningPumps_set_facts, SS_gas_set_facts, SS_pressure_set_facts, SS_outgassing_set_facts, SS_leakSum_set_facts, SS_rule_set_facts, SS_valveTrips_set_facts, SS_pumpTrips_set_facts, SS_leak_set_facts, SS_kept_set_facts, SS_next_set_facts, SS_facts_set_facts, SS_rises_set_facts, SS_time_set_rises, SS_openValves_set_rises, SS_runningPumps_set_rises, SS_gas_set_rises, SS_pressure_set_rises, SS_outgassing_set_rises, SS_leakSum_set_rises, SS_rule_set_rises, SS_valveTrips_set_rises, SS_pumpTrips_set_rises, SS_leak_set_rises, SS_kept_set_rises, SS_next_set_rises, SS_facts_set_rises, SS_rises_set_rises]
    clear hS1 hX xX xS
    obtain ⟨q1, q2, q3, q4, q5, q6, q7, q8, q9, q10, q11, q12, q13⟩ := qq
    rw [step]
    refine ih (c + 1) q S1 (by omega) (by omega) ⟨q1.trans h0.1, q2.trans h0.2.1, q3.trans h0.2.2.1, q4.trans h0.2.2.2.1, ?_, ?_⟩ (fun c' hc' => ?_) ⟨fun c' hc' => ?_, fun f hf => ?_⟩ (fun c' hc' => ?_) (fun c' hc' => ?_)
    · rw [q7]; exact h0.2.2.2.2.1
    · rw [q5]; exact h0.2.2.2.2.2
    · rw [q6, q7, q8]; exact h1 c' hc'
    · rw [q9]
      show _ = i4 (lkS a lk c' c + (if AS_fH a c = c' then lk c else 0))
      by_cases he : c' = AS_fH a c
      · rw [he, upd_self, if_pos rfl]
      · rw [upd_ne _ _ he, if_neg (fun z => he z.symm)]; exact h2.1 c' hc'
    · rw [q13]
      by_cases he : f = c
      · rw [he, upd_self]
      · rw [upd_ne _ _ he, upd_ne _ _ he]; exact h2.2 f (by omega)
    · rw [q10]; exact h3 c' hc'
    · rw [q11, q12]; exact h4 c' hc'
theorem bit0 (j : Nat) : bit 0 j = false := bit_zero j
theorem C_reset (hW : PLW a og rl lk) (hL : PLC a og rl lk ly) {S : SS} (h8 : SS_pressure S 8 = i4 1000000) (hn : ∃ nx, nx < 10 ∧ SS_next S = i4 nx) : ∃ S', f5_reset ly S = some S' ∧ RCd a (d00 a og rl lk) S' ∧ SS_pressure S' 8 = i4 1000000 := by
  have nn := hW.1.1
  have := FU_eq
  obtain ⟨X, hX⟩ : ∃ m, m = SS_set_kept (SS_set_runningPumps (SS_set_openValves (SS_set_time S 0) 0) 0) 0 := ⟨_, rfl⟩
  have qq : SS_time X = 0 ∧ SS_openValves X = 0 ∧ SS_runningPumps X = 0 ∧ SS_kept X = 0 ∧ SS_next X = SS_next S ∧ SS_pressure X = SS_pressure S := by
    rw [hX]
    refine ⟨?_, ?_, ?_, ?_, ?_, ?_⟩ <;> simp only [SS_time_set_time, SS_openValves_set_time, SS_runningPumps_set_time, SS_gas_set_time, SS_pressure_set_time, SS_outgassing_set_time, SS_leakSum_set_time, SS_rule_set_time, SS_valveTrips_set_time, SS_pumpTrips_set_time, SS_leak_set_time, SS_kept_set_time, SS_next_set_time, SS_facts_set_time, SS_rises_set_time, SS_time_set_openValves, SS_openValves_set_openValves, SS_runningPumps_set_openValves, SS_gas_set_openValves, SS_pressure_set_openValves, SS_outgassing_set_openValves, SS_leakSum_set_openValves, SS_rule_set_openValves, SS_valveTrips_set_openValves, SS_pumpTrips_set_openValves, SS_leak_set_openValves, SS_kept_set_openValves, SS_next_set_openValves, SS_facts_set_openValves, SS_rises_set_openValves, SS_time_set_runningPumps, SS_openValves_set_runningPumps, SS_runningPumps_set_runningPumps, SS_gas_set_runningPumps, SS_pressure_set_runningPumps, SS_outgassing_set_runningPumps, SS_leakSum_set_runningPumps, SS_rule_set_runningPumps, SS_valveTrips_set_runningPumps, SS_pumpTrips_set_runningPumps, SS_leak_set_runningPumps, SS_kept_set_runningPumps, SS_next_set_runningPumps, SS_facts_set_runningPumps, SS_rises_set_runningPumps, SS_time_set_gas, SS_openValves_set_gas, SS_runningPumps_set_gas, SS_gas_set_gas, SS_pressure_set_gas, SS_outgassing_set_gas, SS_leakSum_set_gas, SS_rule_set_gas, SS_valveTrips_set_gas, SS_pumpTrips_set_gas, SS_leak_set_gas, SS_kept_set_gas, SS_next_set_gas, SS_facts_set_gas, SS_rises_set_gas, SS_time_set_pressure, SS_openValves_set_pressure, SS_runningPumps_set_pressure, SS_gas_set_pressure, SS_pressure_set_pressure, SS_outgassing_set_pressure, SS_leakSum_set_pressure, SS_rule_set_pressure, SS_valveTrips_set_pressure, SS_pumpTrips_set_pressure, SS_leak_set_pressure, SS_kept_set_pressure, SS_next_set_pressure, SS_facts_set_pressure, SS_rises_set_pressure, SS_time_set_outgassing, SS_openValves_set_outgassing, SS_runningPumps_set_outgassing, SS_gas_set_outgassing, SS_pressure_set_outgassing, SS_outgassing_set_outgassing, SS_leakSum_set_outgassing, SS_rule_set_outgassing, SS_valveTrips_set_outgassing, SS_pumpTrips_set_outgassing, SS_leak_set_outgassing, SS_kept_set_outgassing, SS_next_set_outgassing, SS_facts_set_outgassing, SS_rises_set_outgassing, SS_time_set_leakSum, SS_openValves_set_leakSum, SS_runningPumps_set_leakSum, SS_gas_set_leakSum, SS_pressure_set_leakSum, SS_outgassing_set_leakSum, SS_leakSum_set_leakSum, SS_rule_set_leakSum, SS_valveTrips_set_leakSum, SS_pumpTrips_set_leakSum, SS_leak_set_leakSum, SS_kept_set_leakSum, SS_next_set_leakSum, SS_facts_set_leakSum, SS_rises_set_leakSum, SS_time_set_rule, SS_openValves_set_rule, SS_runningPumps_set_rule, SS_gas_set_rule, SS_pressure_set_rule, SS_outgassing_set_rule, SS_leakSum_set_rule, SS_rule_set_rule, SS_valveTrips_set_rule, SS_pumpTrips_set_rule, SS_leak_set_rule, SS_kept_set_rule, SS_next_set_rule, SS_facts_set_rule, SS_rises_set_rule, SS_time_set_valveTrips, SS_openValves_set_valveTrips, SS_runningPumps_set_valveTrips, SS_gas_set_valveTrips, SS_pressure_set_valveTrips, SS_outgassing_set_valveTrips, SS_leakSum_set_valveTrips, SS_rule_set_valveTrips, SS_valveTrips_set_valveTrips, SS_pumpTrips_set_valveTrips, SS_leak_set_valveTrips, SS_kept_set_valveTrips, SS_next_set_valveTrips, SS_facts_set_valveTrips, SS_rises_set_valveTrips, SS_time_set_pumpTrips, SS_openValves_set_pumpTrips, SS_runningPumps_set_pumpTrips, SS_gas_set_pumpTrips, SS_pressure_set_pumpTrips, SS_outgassing_set_pumpTrips, SS_leakSum_set_pumpTrips, SS_rule_set_pumpTrips, SS_valveTrips_set_pumpTrips, SS_pumpTrips_set_pumpTrips, SS_leak_set_pumpTrips, SS_kept_set_pumpTrips, SS_next_set_pumpTrips, SS_facts_set_pumpTrips, SS_rises_set_pumpTrips, SS_time_set_leak, SS_openValves_set_leak, SS_runningPumps_set_leak, SS_gas_set_leak, SS_pressure_set_leak, SS_outgassing_set_leak, SS_leakSum_set_leak, SS_rule_set_leak, SS_valveTrips_set_leak, SS_pumpTrips_set_leak, SS_leak_set_leak, SS_kept_set_leak, SS_next_set_leak, SS_facts_set_leak, SS_rises_set_leak, SS_time_set_kept, SS_openValves_set_kept, SS_runningPumps_set_kept, SS_gas_set_kept, SS_pressure_set_kept, SS_outgassing_set_kept, SS_leakSum_set_kept, SS_rule_set_kept, SS_valveTrips_set_kept, SS_pumpTrips_set_kept, SS_leak_set_kept, SS_kept_set_kept, SS_next_set_kept, SS_facts_set_kept, SS_rises_set_kept, SS_time_set_next, SS_openValves_set_next, SS_runningPumps_set_next, SS_gas_set_next, SS_pressure_set_next, SS_outgassing_set_next, SS_leakSum_set_next, SS_rule_set_next, SS_valveTrips_set_next, SS_pumpTrips_set_next, SS_leak_set_next, SS_kept_set_next, SS_next_set_next, SS_facts_set_next, SS_rises_set_next, SS_time_set_facts, SS_openValves_set_facts, SS_runningPumps_set_facts, SS_gas_set_facts, SS_pressure_set_facts, SS_outgassing_set_facts, SS_leakSum_set_facts, SS_rule_set_facts, SS_valveTrips_set_facts, SS_pumpTrips_set_facts, SS_leak_set_facts, SS_kept_set_facts, SS_next_set_facts, SS_facts_set_facts, SS_rises_set_facts, SS_time_set_rises, SS_openValves_set_rises, SS_runningPumps_set_rises, SS_gas_set_rises, SS_pressure_set_rises, SS_outgassing_set_rises, SS_leakSum_set_rises, SS_rule_set_rises, SS_valveTrips_set_rises, SS_pumpTrips_set_rises, SS_leak_set_rises, SS_kept_set_rises, SS_next_set_rises, SS_facts_set_rises, SS_rises_set_rises]
  obtain ⟨q1, q2, q3, q4, q5, q6⟩ := qq
  obtain ⟨S1, e1, a0, a1, a2⟩ := C_r25 hW hL (AS_nC a) 0 FU X (by omega) (by omega) ⟨q1, q2, q3, q4, by rw [q6]; exact h8, by rw [q5]; exact hn⟩ (fun c hc => absurd hc (Nat.not_lt_zero c)) ⟨fun c hc => absurd hc (Nat.not_lt_zero c), fun c hc => absurd hc (Nat.not_lt_zero c)⟩
  obtain ⟨S2, e2, b0, b1, b2, b3⟩ := C_r92 hW hL (AS_nP a) 0 FU S1 (by omega) (by omega) a0 a1 a2 (fun c hc => absurd hc (Nat.not_lt_zero c))
  obtain ⟨S3, e3, c0, c1, c2, c3, c4⟩ := C_r118 hW hL (AS_nV a) 0 FU S2 (by omega) (by omega) b0 b1 b2 b3 (fun c hc => absurd hc (Nat.not_lt_zero c))
  obtain ⟨S4, e4, d0, d1, d2, d3, d4⟩ := C_r159 hW hL (AS_nF a) 0 FU S3 (by omega) (by omega) c0 c1 c2 c3 c4
  refine ⟨S4, ?_, ⟨d0.1, ⟨fun c hc => ⟨(d1 c hc).1, (d1 c hc).2.1⟩, d0.2.2.2.2.1⟩, fun c hc => (d1 c hc).2.2, ⟨d2.1, d2.2⟩, fun v hv => (d4 v hv).1, fun v hv => ⟨?_, (d4 v hv).2⟩, fun p hp => ⟨?_, d3 p hp⟩, d0.2.2.2.1, ?_⟩, d0.2.2.2.2.1⟩
  · unfold f5_reset
    rw [← hX, show f5_reset_B25 ly FU X 0 = _ from e1, show f5_reset_B92 ly FU S1 0 = _ from e2, show f5_reset_B118 ly FU S2 0 = _ from e3]
    exact e4
  · rw [d0.2.1]; exact bit_zero v
  · rw [d0.2.2.1]; exact bit_zero p
  · obtain ⟨nx, x1, x2⟩ := d0.2.2.2.2.2
    exact ⟨nx, x1, x2, fun g hg => absurd hg (Nat.not_lt_zero g)⟩
end RE

/-! the law's system, read and set up -/
def og0 (c : Nat) : Nat := [200, 0, 30].getD c 0
def rl0 (v : Nat) : Nat := [900000, 1000000, 1000000, 400000].getD v 0
def lk0 (f : Nat) : Nat := [50, 0, 7, 300, 12].getD f 0
theorem PLW0 : PLW A0 og0 rl0 lk0 := by
  unfold PLW
  exact ⟨WF_A0, by decide +kernel, by decide +kernel, by decide +kernel⟩
theorem PLC_E : PLC A0 og0 rl0 lk0 LLE := by
  unfold PLC RCs
  refine ⟨⟨⟨?_, ?_, ?_, ?_⟩, ?_, ?_, ?_, ?_⟩, ?_, ?_, ?_⟩ <;> decide +kernel
theorem cpy_at {α : Type} {f g : Nat → α} {n j : Nat} (h : j < n) : va_cpy f g 0 0 n j = f j := cpy_in h
theorem PLC_cp {ly ly0 : LL} (h : PLC A0 og0 rl0 lk0 ly) : ∃ ly', f1_copyFrom ly ly0 = some ly' ∧ LL_chambers ly' = 3 ∧ PLC A0 og0 rl0 lk0 ly' := by
  obtain ⟨⟨⟨h0, h1, h2, h3⟩, hc, hp, hv, hf⟩, g1, g2, g3⟩ := h
  have hC : AS_nC A0 ≤ 8 := by decide
  have hP : AS_nP A0 ≤ 6 := by decide
  have hV : AS_nV A0 ≤ 10 := by decide
  have hF : AS_nF A0 ≤ 24 := by decide
  refine ⟨_, rfl, h0, ⟨⟨h0, h1, h2, h3⟩, fun c q => ?_, fun p q => ?_, fun v q => ?_, fun f q => ?_⟩, fun c q => ?_, fun v q => ?_, fun f q => ?_⟩
  · obtain ⟨k1, k2⟩ := hc c q
    exact ⟨(cpy_in (by omega)).trans k1, (cpy_in (by omega)).trans k2⟩
  · obtain ⟨k1, k2, k3, k4, k5, k6⟩ := hp p q
    exact ⟨(cpy_in (by omega)).trans k1, (cpy_in (by omega)).trans k2, (cpy_in (by omega)).trans k3, (cpy_in (by omega)).trans k4, (cpy_in (by omega)).trans k5, fun r => (cpy_in (by omega)).trans (k6 r)⟩
  · obtain ⟨k1, k2, k3⟩ := hv v q
    exact ⟨(cpy_in (by omega)).trans k1, (cpy_in (by omega)).trans k2, (cpy_in (by omega)).trans k3⟩
  · exact (cpy_in (by omega)).trans (hf f q)
  · exact (cpy_in (by omega)).trans (g1 c q)
  · exact (cpy_in (by omega)).trans (g2 v q)
  · exact (cpy_in (by omega)).trans (g3 f q)
theorem S00_8 : SS_pressure S00 8 = i4 1000000 := by decide +kernel
theorem DST00 : DST TP00 := by
  unfold DST
  refine ⟨by decide +kernel, by decide +kernel, by decide +kernel⟩
theorem PARSED : ∃ r, f9_parseSystem TX R00 (fun _ => L00) TP00 EE00 (fun _ => S00) = some r ∧ r.1 = 3 ∧ f9_chamber (r.2.2.2.1 (0 : Fin 2)) r.2.2.2.2.1 r.2.2.2.2.2.2 0 3 = some 1000000 ∧ f9_chamber (r.2.2.2.1 (0 : Fin 2)) r.2.2.2.2.1 r.2.2.2.2.2.2 0 4 = some 62 ∧ f9_chamber (r.2.2.2.1 (0 : Fin 2)) r.2.2.2.2.1 r.2.2.2.2.2.2 1 5 = some 11 ∧ f9_mayOpen (r.2.2.2.1 (0 : Fin 2)) r.2.2.2.2.1 r.2.2.2.2.2.2 0 = some 0 ∧ f9_fewestValves (r.2.2.2.1 (0 : Fin 2)) 0 2 = some 2 ∧ f9_fewestValves (r.2.2.2.1 (0 : Fin 2)) 2 (-1) = some 2 ∧ ∃ d np, IV A0 d (r.2.2.2.1 (0 : Fin 2)) r.2.2.2.2.1 r.2.2.2.2.2.2 ∧ UD r.2.2.2.2.1 0 np := by
  obtain ⟨ly', e1, e2, h1⟩ := PLC_cp (ly0 := L00) PLC_E
  obtain ⟨S', e3, h2, h8⟩ := C_reset PLW0 h1 S00_8 ⟨0, by omega, rfl⟩
  have hE : f9_parseSystem TX R00 (fun _ => L00) TP00 EE00 (fun _ => S00) = some (LL_chambers ly', TT_set_length TX 0, RRE, updF (updF (fun _ => L00) (1 : Fin 2) LLE) (0 : Fin 2) ly', TP_set_undoable TP00 0, EE_set_pos (EE_set_code EE00 (RR_errorCode RRE)) (RR_errorPosition RRE), updF (fun _ => S00) (TP_pr TP00) S') := by
    unfold f9_parseSystem
    change (f6_parse TX R00 L00).bind _ = _
    rw [p_all', sbind]
    dsimp only
    rw [if_neg one_ne, uF_self, uF_ne _ _ (show (0 : Fin 2) ≠ 1 by decide), e1, sbind, e3, sbind]
  have hI : IV A0 (d00 A0 og0 rl0 lk0) ly' (TP_set_undoable TP00 0) (updF (fun _ => S00) (TP_pr TP00) S') := by
    refine ⟨⟨WF_A0, WF_d00 PLW0, h1.1, ?_⟩, fun j => ?_, DST00⟩
    · show RCd A0 _ (updF (fun _ => S00) (TP_pr TP00) S' (TP_pr TP00))
      rw [uF_self]; exact h2
    · by_cases q : j = TP_pr TP00
      · rw [q, uF_self]; exact h8
      · rw [uF_ne _ _ q]; exact S00_8
  refine ⟨_, hE, e2, ?_, ?_, ?_, ?_, ?_, ?_, d00 A0 og0 rl0 lk0, 0, ?_, ⟨by omega, by omega, rfl, rfl⟩⟩
  all_goals dsimp only
  all_goals rw [uF_self]
  · have k := Q_ch3 hI (c := 0) (by decide)
    rw [show i4 (prz A0 (d00 A0 og0 rl0 lk0) 0) = 1000000 by decide +kernel] at k
    exact k
  · have k := Q_ch4 hI (c := 0) (by decide)
    rw [show i4 (lks A0 (d00 A0 og0 rl0 lk0) 0) = 62 by decide +kernel] at k
    exact k
  · have k := Q_ch5 hI (c := 1) (by decide)
    rw [show mskN (touV A0 1) (AS_nV A0) = 11 by decide +kernel] at k
    exact k
  · have k := Q_mayOpen hI (v := 0) (by decide)
    rw [if_neg (show ¬ (AD_opn (d00 A0 og0 rl0 lk0) 0 = true) by decide), if_pos (show dif A0 (d00 A0 og0 rl0 lk0) 0 ≤ AD_rul (d00 A0 og0 rl0 lk0) 0 by decide +kernel)] at k
    exact k
  · have k := Q_fewest h1.1 (x := 0) (y := 2) (by omega) (by omega)
    rw [show fwv 0 2 = 2 by decide +kernel] at k
    exact k
  · have k := C_fewest0 WF_A0 h1.1 (t := 8) (by omega) rfl (c := 2) 9 0 FU (by omega) (by rw [FU_eq]; omega)
    have hv : firN (fun i => bit (rch A0 (bit ((1 <<< (i4 (AS_nV A0) &&& 31)) - 1)) 2 i) 8) 9 0 = 2 := by decide +kernel
    rw [hv] at k
    unfold f9_fewestValves f9_fewestValves_B43
    rw [show f1_hasChamber ly' 2 = some 1 from C_hasC_y WF_A0 h1.1 (n := 2) (by decide), sbind, if_neg one_ne, if_pos rfl, if_pos rfl]
    exact k
  · exact hI
