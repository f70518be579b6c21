/-! a system text, from its first byte to its end -/
def z0 : Nat → Nat := fun _ => 0
def AS00 : AS := (0, 0, 0, 0, z0, z0, z0, z0, z0, z0, z0, z0, z0, z0, z0, z0)
section PA
variable {T : TT} {R : RR} {mp : MP} {lY : LL} {w fresh : Nat → Int64} {mu : MU} {th : Int32}
theorem M_zero (w : Nat → Int64) (mu : MU) (th : Int32) (mp : MP) : ∀ (r i fu : Nat) (fr : Nat → Int64), i + r = 256 → r < fu → f10_parseSystem_B12 fu w fr mu th mp (i4 i) = (f10_begin mp).bind fun u33 => f10_parseSystem_B36 FU w (fun q => if i ≤ q ∧ q < 256 then 0 else fr q) mu th u33 := by
  intro r
  induction r with
  | zero =>
    intro i fu fr hi hf
    obtain ⟨k, rfl, -⟩ := fuS hf
    have e : (fun q => if i ≤ q ∧ q < 256 then (0 : Int64) else fr q) = fr := by
      funext q
      rw [if_neg (by omega)]
    rw [e, f10_parseSystem_B12, if_pos (show (256 : Int32) ≤ i4 i from (i4_le (a := 256) (by omega) (by omega)).mpr (by omega))]
  | succ r ih =>
    intro i fu fr hi hf
    obtain ⟨k, rfl, -⟩ := fuS hf
    have e : (fun q => if i + 1 ≤ q ∧ q < 256 then (0 : Int64) else vp_updL fr i 0 q) = (fun q => if i ≤ q ∧ q < 256 then (0 : Int64) else fr q) := by
      funext q
      by_cases h1 : q = i
      · rw [if_neg (by omega), if_pos (by omega), h1, updL_self]
      · rw [updL_ne _ _ h1]
        by_cases h2 : i ≤ q ∧ q < 256
        · rw [if_pos (by omega), if_pos h2]
        · rw [if_neg (by omega), if_neg h2]
    rw [f10_parseSystem_B12, if_neg (show ¬ ((256 : Int32) ≤ i4 i) from fun h => by have := (i4_le (a := 256) (by omega) (by omega)).mp h; omega), gdi _ (by omega) (by omega), ix4 (by omega), ad1, ih (i + 1) k _ (by omega) (by omega), e]
theorem BEGIN (R : RR) (hI : INVt T mp) : ∃ n b s R' mp', TXc T n b ∧ f2_begin T R = some R' ∧ f10_begin mp = some mp' ∧ s ≤ n ∧ TKc R' n b s ∧ TXm mp' n b ∧ TKm mp' n b s ∧ RR_errorCode R' = 0 ∧ MP_fault mp' = 0 ∧ RR_errorPosition R' = -1 ∧ MP_faultAt mp' = MP_faultAt mp ∧ MP_length mp' = 0 := by
  obtain ⟨n, h1, h2, h3, h4⟩ := hI
  have hT : TXc T n (TT_bytes T) := ⟨h1, h2, fun _ _ => rfl⟩
  obtain ⟨R', e1, t1, x1, x2⟩ := C_advance hT (Nat.zero_le n) (R := RR_set_errorPosition (RR_set_errorCode (RR_set_end_ R 0) 0) (-1)) (show RR_end_ (RR_set_errorPosition (RR_set_errorCode (RR_set_end_ R 0) 0) (-1)) = i4 0 from rfl)
  have hM : TXm (MP_set_fault (MP_set_to (MP_set_length (MP_set_end_ mp (MP_length mp)) 0) 0) 0) n (TT_bytes T) := ⟨h1, h3, fun i hi => (h4 i hi).symm⟩
  obtain ⟨mp', e2, t2, t3, y1, y2, y3⟩ := M_next hM (Nat.zero_le n) (show MP_to (MP_set_fault (MP_set_to (MP_set_length (MP_set_end_ mp (MP_length mp)) 0) 0) 0) = i4 0 from rfl)
  refine ⟨n, TT_bytes T, tS n (TT_bytes T) 0, R', mp', hT, ?_, ?_, (tS_le (Nat.zero_le n)).2, t1, t2, t3, x1.trans rfl, y2.trans rfl, x2.trans rfl, y3.trans rfl, y1.trans rfl⟩
  · unfold f2_begin
    rw [e1, sbind]
  · unfold f10_begin
    rw [e2, sbind]
theorem C_M_parse (hI : INVt T mp) (R : RR) (lY : LL) (w fresh : Nat → Int64) (mu : MU) (th : Int32) : ∃ r1 r2, f6_parse T R lY = some r1 ∧ f10_parseSystem w fresh mu th mp = some r2 ∧ PG2 w mu 0 r1 r2 := by
  have := FU_eq
  have hI1 : INVt T (MP_set_faultAt mp (-1)) := hI
  obtain ⟨n, b, s, R', mp', hT, e1, e2, g1, g2, g3, g4, g5, g6, g7, g8, g9⟩ := BEGIN R hI1
  have g78 : RR_errorPosition R' = MP_faultAt mp' := by rw [g7, g8]; rfl
  obtain ⟨l0, hl0⟩ : ∃ m, m = LL_set_flanges (LL_set_valves (LL_set_pumps (LL_set_chambers lY 0) 0) 0) 0 := ⟨_, rfl⟩
  have k1 : LL_chambers l0 = 0 := by rw [hl0, LL_chambers_set_flanges, LL_chambers_set_valves, LL_chambers_set_pumps, LL_chambers_set_chambers]
  have k2 : LL_pumps l0 = 0 := by rw [hl0, LL_pumps_set_flanges, LL_pumps_set_valves, LL_pumps_set_pumps]
  have k3 : LL_valves l0 = 0 := by rw [hl0, LL_valves_set_flanges, LL_valves_set_valves]
  have k4 : LL_flanges l0 = 0 := by rw [hl0, LL_flanges_set_flanges]
  have no : ∀ {P : Prop} (c : Nat), c < 0 → P := fun c h => absurd h (Nat.not_lt_zero c)
  have hLC : PLC AS00 z0 z0 z0 l0 := ⟨⟨⟨k1, k2, k3, k4⟩, fun c h => no c h, fun c h => no c h, fun c h => no c h, fun c h => no c h⟩, fun c h => no c h, fun c h => no c h, fun c h => no c h⟩
  have hLW : PLW AS00 z0 z0 z0 := ⟨⟨⟨Nat.zero_le 8, Nat.zero_le 6, Nat.zero_le 10, Nat.zero_le 24⟩, fun c h => no c h, fun c h => no c h, fun c h => no c h, fun c h => no c h⟩, fun c h => no c h, fun c h => no c h, fun c h => no c h⟩
  obtain ⟨fr, hfr⟩ : ∃ m : Nat → Int64, m = fun q => if 0 ≤ q ∧ q < 256 then 0 else fresh q := ⟨_, rfl⟩
  have z : ∀ q, q < 256 → fr q = 0 := fun q hq => by rw [hfr]; exact if_pos ⟨Nat.zero_le q, hq⟩
  have hLM : PLM AS00 z0 z0 z0 fr := ⟨⟨⟨z 0 (by omega), z 1 (by omega), z 2 (by omega), z 3 (by omega)⟩, fun c h => no c h, fun c h => no c h, fun c h => no c h, fun c h => no c h⟩, ⟨⟨z 4 (by omega), z 5 (by omega), z 6 (by omega), z 7 (by omega)⟩, fun c h => no c h, fun c h => no c h, fun c h => no c h, fun c h => no c h, fun c j h => no c h⟩, fun p _ h => ⟨z _ (by omega), z _ (by omega)⟩, fun v _ h => ⟨z _ (by omega), z _ (by omega)⟩⟩
  unfold f6_parse f1_clear f10_parseSystem
  rw [sbind, ← hl0, e1, sbind, show f10_parseSystem_B12 FU w fresh mu 0 (MP_set_faultAt mp (-1)) 0 = _ from M_zero w mu 0 (MP_set_faultAt mp (-1)) 256 0 FU fresh (by omega) (by omega), e2, sbind, ← hfr]
  exact L_C hT 8 AS00 z0 z0 z0 R' l0 fr mp' s FU FU 0 ⟨⟨g1, g2, g3, g4, g5, g6, g78⟩, hLC, hLW, hLM, g9⟩ rfl (by omega) (by omega) (Nat.zero_le _) (Or.inr rfl)
theorem C_copyL {a : AS} {og rl lk : Nat → Nat} {l1 : LL} (hW : PLW a og rl lk) (h : PLC a og rl lk l1) (l0 : LL) : ∃ l2, f1_copyFrom l1 l0 = some l2 ∧ PLC a og rl lk l2 := by
  have nn := hW.1.1
  obtain ⟨l2, e, q⟩ : ∃ l2, f1_copyFrom l1 l0 = some l2 ∧ (LL_chambers l2 = LL_chambers l1 ∧ LL_pumps l2 = LL_pumps l1 ∧ LL_valves l2 = LL_valves l1 ∧ LL_flanges l2 = LL_flanges l1 ∧ LL_volume l2 = va_cpy (LL_volume l1) (LL_volume l0) 0 0 8 ∧ LL_firstOutgassing l2 = va_cpy (LL_firstOutgassing l1) (LL_firstOutgassing l0) 0 0 8 ∧ LL_decay l2 = va_cpy (LL_decay l1) (LL_decay l0) 0 0 8 ∧ LL_pumpChamber l2 = va_cpy (LL_pumpChamber l1) (LL_pumpChamber l0) 0 0 6 ∧ LL_exhaust l2 = va_cpy (LL_exhaust l1) (LL_exhaust l0) 0 0 6 ∧ LL_speed l2 = va_cpy (LL_speed l1) (LL_speed l0) 0 0 6 ∧ LL_low l2 = va_cpy (LL_low l1) (LL_low l0) 0 0 6 ∧ LL_high l2 = va_cpy (LL_high l1) (LL_high l0) 0 0 6 ∧ LL_backing l2 = va_cpy (LL_backing l1) (LL_backing l0) 0 0 6 ∧ LL_valveChamber l2 = va_cpy (LL_valveChamber l1) (LL_valveChamber l0) 0 0 10 ∧ LL_otherSide l2 = va_cpy (LL_otherSide l1) (LL_otherSide l0) 0 0 10 ∧ LL_conductance l2 = va_cpy (LL_conductance l1) (LL_conductance l0) 0 0 10 ∧ LL_firstRule l2 = va_cpy (LL_firstRule l1) (LL_firstRule l0) 0 0 10 ∧ LL_flangeChamber l2 = va_cpy (LL_flangeChamber l1) (LL_flangeChamber l0) 0 0 24 ∧ LL_firstLeak l2 = va_cpy (LL_firstLeak l1) (LL_firstLeak l0) 0 0 24) := by
    refine ⟨_, rfl, ?_, ?_, ?_, ?_, ?_, ?_, ?_, ?_, ?_, ?_, ?_, ?_, ?_, ?_, ?_, ?_, ?_, ?_, ?_⟩ <;> simp only [LL_chambers_set_chambers, LL_pumps_set_chambers, LL_valves_set_chambers, LL_flanges_set_chambers, LL_volume_set_chambers, LL_firstOutgassing_set_chambers, LL_decay_set_chambers, LL_pumpChamber_set_chambers, LL_exhaust_set_chambers, LL_speed_set_chambers, LL_low_set_chambers, LL_high_set_chambers, LL_backing_set_chambers, LL_valveChamber_set_chambers, LL_otherSide_set_chambers, LL_conductance_set_chambers, LL_firstRule_set_chambers, LL_flangeChamber_set_chambers, LL_firstLeak_set_chambers, LL_chambers_set_pumps, LL_pumps_set_pumps, LL_valves_set_pumps, LL_flanges_set_pumps, LL_volume_set_pumps, LL_firstOutgassing_set_pumps, LL_decay_set_pumps, LL_pumpChamber_set_pumps, LL_exhaust_set_pumps, LL_speed_set_pumps, LL_low_set_pumps, LL_high_set_pumps, LL_backing_set_pumps, LL_valveChamber_set_pumps, LL_otherSide_set_pumps, LL_conductance_set_pumps, LL_firstRule_set_pumps, LL_flangeChamber_set_pumps, LL_firstLeak_set_pumps, LL_chambers_set_valves, LL_pumps_set_valves, LL_valves_set_valves, LL_flanges_set_valves, LL_volume_set_valves, LL_firstOutgassing_set_valves, LL_decay_set_valves, LL_pumpChamber_set_valves, LL_exhaust_set_valves, LL_speed_set_valves, LL_low_set_valves, LL_high_set_valves, LL_backing_set_valves, LL_valveChamber_set_valves, LL_otherSide_set_valves, LL_conductance_set_valves, LL_firstRule_set_valves, LL_flangeChamber_set_valves, LL_firstLeak_set_valves, LL_chambers_set_flanges, LL_pumps_set_flanges, LL_valves_set_flanges, LL_flanges_set_flanges, LL_volume_set_flanges, LL_firstOutgassing_set_flanges, LL_decay_set_flanges, LL_pumpChamber_set_flanges, LL_exhaust_set_flanges, LL_speed_set_flanges, LL_low_set_flanges, LL_high_set_flanges, LL_backing_set_flanges, LL_valveChamber_set_flanges, LL_otherSide_set_flanges, LL_conductance_set_flanges, LL_firstRule_set_flanges, LL_flangeChamber_set_flanges, LL_firstLeak_set_flanges, LL_chambers_set_volume, LL_pumps_set_volume, LL_valves_set_volume, LL_flanges_set_volume, LL_volume_set_volume, LL_firstOutgassing_set_volume, LL_decay_set_volume, LL_pumpChamber_set_volume, LL_exhaust_set_volume, LL_speed_set_volume, LL_low_set_volume, LL_high_set_volume, LL_backing_set_volume, LL_valveChamber_set_volume, LL_otherSide_set_volume, LL_conductance_set_volume, LL_firstRule_set_volume, LL_flangeChamber_set_volume, LL_firstLeak_set_volume, LL_chambers_set_firstOutgassing, LL_pumps_set_firstOutgassing, LL_valves_set_firstOutgassing, LL_flanges_set_firstOutgassing, LL_volume_set_firstOutgassing, LL_firstOutgassing_set_firstOutgassing, LL_decay_set_firstOutgassing, LL_pumpChamber_set_firstOutgassing, LL_exhaust_set_firstOutgassing, LL_speed_set_firstOutgassing, LL_low_set_firstOutgassing, LL_high_set_firstOutgassing, LL_backing_set_firstOutgassing, LL_valveChamber_set_firstOutgassing, LL_otherSide_set_firstOutgassing, LL_conductance_set_firstOutgassing, LL_firstRule_set_firstOutgassing, LL_flangeChamber_set_firstOutgassing, LL_firstLeak_set_firstOutgassing, LL_chambers_set_decay, LL_pumps_set_decay, LL_valves_set_decay, LL_flanges_set_decay, LL_volume_set_decay, LL_firstOutgassing_set_decay, LL_decay_set_decay, LL_pumpChamber_set_decay, LL_exhaust_set_decay, LL_speed_set_decay, LL_low_set_decay, LL_high_set_decay, LL_backing_set_decay, LL_valveChamber_set_decay, LL_otherSide_set_decay, LL_conductance_set_decay, LL_firstRule_set_decay, LL_flangeChamber_set_decay, LL_firstLeak_set_decay, LL_chambers_set_pumpChamber, LL_pumps_set_pumpChamber, LL_valves_set_pumpChamber, LL_flanges_set_pumpChamber, LL_volume_set_pumpChamber, LL_firstOutgassing_set_pumpChamber, LL_decay_set_pumpChamber, LL_pumpChamber_set_pumpChamber, LL_exhaust_set_pumpChamber, LL_speed_set_pumpChamber, LL_low_set_pumpChamber, LL_high_set_pumpChamber, LL_backing_set_pumpChamber, LL_valveChamber_set_pumpChamber, LL_otherSide_set_pumpChamber, LL_conductance_set_pumpChamber, LL_firstRule_set_pumpChamber, LL_flangeChamber_set_pumpChamber, LL_firstLeak_set_pumpChamber, LL_chambers_set_exhaust, LL_pumps_set_exhaust, LL_valves_set_exhaust, LL_flanges_set_exhaust, LL_volume_set_exhaust, LL_firstOutgassing_set_exhaust, LL_decay_set_exhaust, LL_pumpChamber_set_exhaust, LL_exhaust_set_exhaust, LL_speed_set_exhaust, LL_low_set_exhaust, LL_high_set_exhaust, LL_backing_set_exhaust, LL_valveChamber_set_exhaust, LL_otherSide_set_exhaust, LL_conductance_set_exhaust, LL_firstRule_set_exhaust, LL_flangeChamber_set_exhaust, LL_firstLeak_set_exhaust, LL_chambers_set_speed, LL_pumps_set_speed, LL_valves_set_speed, LL_flanges_set_speed, LL_volume_set_speed, LL_firstOutgassing_set_speed, LL_decay_set_speed, LL_pumpChamber_set_speed, LL_exhaust_set_speed, LL_speed_set_speed, LL_low_set_speed, LL_high_set_speed, LL_backing_set_speed, LL_valveChamber_set_speed, LL_otherSide_set_speed, LL_conductance_set_speed, LL_firstRule_set_speed, LL_flangeChamber_set_speed, LL_firstLeak_set_speed, LL_chambers_set_low, LL_pumps_set_low, LL_valves_set_low, LL_flanges_set_low, LL_volume_set_low, LL_firstOutgassing_set_low, LL_decay_set_low, LL_pumpChamber_set_low, LL_exhaust_set_low, LL_speed_set_low, LL_low_set_low, LL_high_set_low, LL_backing_set_low, LL_valveChamber_set_low, LL_otherSide_set_low, LL_conductance_set_low, LL_firstRule_set_low, LL_flangeChamber_set_low, LL_firstLeak_set_low, LL_chambers_set_high, LL_pumps_set_high, LL_valves_set_high, LL_flanges_set_high, LL_volume_set_high, LL_firstOutgassing_set_high, LL_decay_set_high, LL_pumpChamber_set_high, LL_exhaust_set_high, LL_speed_set_high, LL_low_set_high, LL_high_set_high, LL_backing_set_high, LL_valveChamber_set_high, LL_otherSide_set_high, LL_conductance_set_high, LL_firstRule_set_high, LL_flangeChamber_set_high, LL_firstLeak_set_high, LL_chambers_set_backing, LL_pumps_set_backing, LL_valves_set_backing, LL_flanges_set_backing, LL_volume_set_backing, LL_firstOutgassing_set_backing, LL_decay_set_backing, LL_pumpChamber_set_backing, LL_exhaust_set_backing, LL_speed_set_backing, LL_low_set_backing, LL_high_set_backing, LL_backing_set_backing, LL_valveChamber_set_backing, LL_otherSide_set_backing, LL_conductance_set_backing, LL_firstRule_set_backing, LL_flangeChamber_set_backing, LL_firstLeak_set_backing, LL_chambers_set_valveChamber, LL_pumps_set_valveChamber, LL_valves_set_valveChamber, LL_flanges_set_valveChamber, LL_volume_set_valveChamber, LL_firstOutgassing_set_valveChamber, LL_decay_set_valveChamber, LL_pumpChamber_set_valveChamber, LL_exhaust_set_valveChamber, LL_speed_set_valveChamber, LL_low_set_valveChamber, LL_high_set_valveChamber, LL_backing_set_valveChamber, LL_valveChamber_set_valveChamber, LL_otherSide_set_valveChamber, LL_conductance_set_valveChamber, LL_firstRule_set_valveChamber, LL_flangeChamber_set_valveChamber, LL_firstLeak_set_valveChamber, LL_chambers_set_otherSide, LL_pumps_set_otherSide, LL_valves_set_otherSide, LL_flanges_set_otherSide, LL_volume_set_otherSide, LL_firstOutgassing_set_otherSide, LL_decay_set_otherSide, LL_pumpChamber_set_otherSide, LL_exhaust_set_otherSide, LL_speed_set_otherSide, LL_low_set_otherSide, LL_high_set_otherSide, LL_backing_set_otherSide, LL_valveChamber_set_otherSide, LL_otherSide_set_otherSide, LL_conductance_set_otherSide, LL_firstRule_set_otherSide, LL_flangeChamber_set_otherSide, LL_firstLeak_set_otherSide, LL_chambers_set_conductance, LL_pumps_set_conductance, LL_valves_set_conductance, LL_flanges_set_conductance, LL_volume_set_conductance, LL_firstOutgassing_set_conductance, LL_decay_set_conductance, LL_pumpChamber_set_conductance, LL_exhaust_set_conductance, LL_speed_set_conductance, LL_low_set_conductance, LL_high_set_conductance, LL_backing_set_conductance, LL_valveChamber_set_conductance, LL_otherSide_set_conductance, LL_conductance_set_conductance, LL_firstRule_set_conductance, LL_flangeChamber_set_conductance, LL_firstLeak_set_conductance, LL_chambers_set_firstRule, LL_pumps_set_firstRule, LL_valves_set_firstRule, LL_flanges_set_firstRule, LL_volume_set_firstRule, LL_firstOutgassing_set_firstRule, LL_decay_set_firstRule, LL_pumpChamber_set_firstRule, LL_exhaust_set_firstRule, LL_speed_set_firstRule, LL_low_set_firstRule, LL_high_set_firstRule, LL_backing_set_firstRule, LL_valveChamber_set_firstRule, LL_otherSide_set_firstRule, LL_conductance_set_firstRule, LL_firstRule_set_firstRule, LL_flangeChamber_set_firstRule, LL_firstLeak_set_firstRule, LL_chambers_set_flangeChamber, LL_pumps_set_flangeChamber, LL_valves_set_flangeChamber, LL_flanges_set_flangeChamber, LL_volume_set_flangeChamber, LL_firstOutgassing_set_flangeChamber, LL_decay_set_flangeChamber, LL_pumpChamber_set_flangeChamber, LL_exhaust_set_flangeChamber, LL_speed_set_flangeChamber, LL_low_set_flangeChamber, LL_high_set_flangeChamber, LL_backing_set_flangeChamber, LL_valveChamber_set_flangeChamber, LL_otherSide_set_flangeChamber, LL_conductance_set_flangeChamber, LL_firstRule_set_flangeChamber, LL_flangeChamber_set_flangeChamber, LL_firstLeak_set_flangeChamber, LL_chambers_set_firstLeak, LL_pumps_set_firstLeak, LL_valves_set_firstLeak, LL_flanges_set_firstLeak, LL_volume_set_firstLeak, LL_firstOutgassing_set_firstLeak, LL_decay_set_firstLeak, LL_pumpChamber_set_firstLeak, LL_exhaust_set_firstLeak, LL_speed_set_firstLeak, LL_low_set_firstLeak, LL_high_set_firstLeak, LL_backing_set_firstLeak, LL_valveChamber_set_firstLeak, LL_otherSide_set_firstLeak, LL_conductance_set_firstLeak, LL_firstRule_set_firstLeak, LL_flangeChamber_set_firstLeak, LL_firstLeak_set_firstLeak]
  obtain ⟨q1, q2, q3, q4, q5, q6, q7, q8, q9, q10, q11, q12, q13, q14, q15, q16, q17, q18, q19⟩ := q
  obtain ⟨⟨⟨h0, h1, h2, h3⟩, hc, hp, hv, hf⟩, g1, g2, g3⟩ := h
  refine ⟨l2, e, ⟨⟨q1.trans h0, q2.trans h1, q3.trans h2, q4.trans h3⟩, fun c hc1 => ?_, fun p hp1 => ?_, fun v hv1 => ?_, fun f hf1 => ?_⟩, fun c hc1 => ?_, fun v hv1 => ?_, fun f hf1 => ?_⟩
  · rw [q5, q7, cpy_in (by omega), cpy_in (by omega)]; exact hc c hc1
  · rw [q8, q9, q10, q11, q12, q13, cpy_in (by omega), cpy_in (by omega), cpy_in (by omega), cpy_in (by omega), cpy_in (by omega), cpy_in (by omega)]; exact hp p hp1
  · rw [q14, q15, q16, cpy_in (by omega), cpy_in (by omega), cpy_in (by omega)]; exact hv v hv1
  · rw [q18, cpy_in (by omega)]; exact hf f hf1
  · rw [q6, cpy_in (by omega)]; exact g1 c hc1
  · rw [q17, cpy_in (by omega)]; exact g2 v hv1
  · rw [q19, cpy_in (by omega)]; exact g3 f hf1
theorem fin2_ne : (0 : Fin 2) ≠ 1 := by decide
theorem S_parse {a : AS} {d : AD} {ly : Fin 2 → LL} {tp : TP} {ee : EE} {st : Fin 12 → SS} (hI : INVd a d (ly 0) tp st w mu) (hT : INVt T mp) : ∃ r1 r2, f9_parseSystem T R ly tp ee st = some r1 ∧ f10_parseSystem w fresh mu th mp = some r2 ∧ r1.1 = r2.1 ∧ (∃ a' d', INVd a' d' (r1.2.2.2.1 0) r1.2.2.2.2.1 r1.2.2.2.2.2.2 r2.2.1 r2.2.2.2.1) ∧ INVt r1.2.1 r2.2.2.2.2.2 ∧ INVe r1.2.2.2.2.2.1 r2.2.2.2.2.2 := by
  obtain ⟨⟨v, R', lY'⟩, ⟨v2, w', fresh', mu', th', mp'⟩, e1, e2, ⟨x1, x2, x3, x4⟩, hc⟩ := C_M_parse hT R (ly 1) w fresh mu th
  dsimp only at x1 x2 x3 x4 hc
  have hTn : INVt (TT_set_length T 0) mp' := ⟨0, Nat.zero_le 900, rfl, x3, fun i hi => absurd hi (Nat.not_lt_zero i)⟩
  have hEn : INVe (EE_set_pos (EE_set_code ee (RR_errorCode R')) (RR_errorPosition R')) mp' := ⟨x1, x2⟩
  rcases hc with ⟨rfl, rfl, hw, hmu⟩ | ⟨rfl, a', og, rl, lk, hC, hLC, hLW, hA, hB, rfl, rfl⟩
  · refine ⟨(-1, TT_set_length T 0, R', updF ly 1 lY', tp, EE_set_pos (EE_set_code ee (RR_errorCode R')) (RR_errorPosition R'), st), _, ?_, e2, rfl, ⟨a, d, ?_⟩, hTn, hEn⟩
    · unfold f9_parseSystem
      rw [e1, sbind]
      dsimp only
      rw [if_pos rfl]
    · show INVd a d (updF ly 1 lY' 0) tp st w' mu'
      rw [uF_ne _ _ fin2_ne, hw, hmu]
      exact hI
  · have hD := WF_d00 hLW
    obtain ⟨⟨hW0, hD0, hL0, hS0⟩, hA0, hB0, h8, hDS, cnt, np, u1, u2, u3, u4, u5, u6⟩ := hI
    obtain ⟨l2, k1, k2⟩ := C_copyL hLW hLC (ly 0)
    obtain ⟨S', k3, k4, k5⟩ := C_reset hLW k2 (h8 (TP_pr tp)) (by
      obtain ⟨nx, y1, y2, -⟩ := hS0.2.2.2.2.2.2.2.2
      exact ⟨nx, y1, y2⟩)
    refine ⟨(i4 (AS_nC a'), TT_set_length T 0, R', updF (updF ly 1 lY') 0 l2, TP_set_undoable tp 0, EE_set_pos (EE_set_code ee (RR_errorCode R')) (RR_errorPosition R'), updF st (TP_pr tp) S'), _, ?_, e2, rfl, ⟨a', d00 a' og rl lk, ?_⟩, hTn, hEn⟩
    · unfold f9_parseSystem
      rw [e1, sbind]
      dsimp only
      rw [if_neg one_ne, uF_self, uF_ne _ _ fin2_ne, k1, sbind, k3, sbind, k2.1.1.1]
    · show INVd a' (d00 a' og rl lk) (updF (updF ly 1 lY') 0 l2 0) (TP_set_undoable tp 0) (updF st (TP_pr tp) S') w' (MU_set_pastCount mu 0)
      rw [uF_self]
      refine ⟨⟨hLW.1, hD, k2.1, ?_⟩, hA, hB, fun j => ?_, hDS, 0, np, Nat.zero_le 10, u2, rfl, rfl, u5, fun k hk => absurd hk (Nat.not_lt_zero k)⟩
      · show RCd a' (d00 a' og rl lk) (updF st (TP_pr tp) S' (TP_pr tp))
        rw [uF_self]; exact k4
      · by_cases h : j = TP_pr tp
        · rw [h, uF_self]; exact k5
        · rw [uF_ne _ _ h]; exact h8 j
end PA
