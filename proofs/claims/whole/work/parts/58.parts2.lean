/-! one valve, one pump, one chamber more -/
theorem m4_to8 (e : Nat) (he : e < 2147483648) : (m4 e).toInt64 = mE e := by
  unfold m4 mE
  split
  · exact m1_to8
  · exact i4_to8 he
def aV (a : AS) (x y g : Nat) : AS := AS_set_nV (AS_set_vG (AS_set_vB (AS_set_vA (a) (setN (AS_vA a) (AS_nV a) x)) (setN (AS_vB a) (AS_nV a) y)) (setN (AS_vG a) (AS_nV a) g)) (AS_nV a + 1)
theorem aV_nC (a : AS) (x y g : Nat) : AS_nC (aV a x y g) = AS_nC a := by unfold aV; rw [AS_nC_set_nV, AS_nC_set_vG, AS_nC_set_vB, AS_nC_set_vA]
theorem aV_nP (a : AS) (x y g : Nat) : AS_nP (aV a x y g) = AS_nP a := by unfold aV; rw [AS_nP_set_nV, AS_nP_set_vG, AS_nP_set_vB, AS_nP_set_vA]
theorem aV_nV (a : AS) (x y g : Nat) : AS_nV (aV a x y g) = AS_nV a + 1 := by unfold aV; rw [AS_nV_set_nV]
theorem aV_nF (a : AS) (x y g : Nat) : AS_nF (aV a x y g) = AS_nF a := by unfold aV; rw [AS_nF_set_nV, AS_nF_set_vG, AS_nF_set_vB, AS_nF_set_vA]
theorem aV_vol (a : AS) (x y g : Nat) : AS_vol (aV a x y g) = AS_vol a := by unfold aV; rw [AS_vol_set_nV, AS_vol_set_vG, AS_vol_set_vB, AS_vol_set_vA]
theorem aV_dec (a : AS) (x y g : Nat) : AS_dec (aV a x y g) = AS_dec a := by unfold aV; rw [AS_dec_set_nV, AS_dec_set_vG, AS_dec_set_vB, AS_dec_set_vA]
theorem aV_pC (a : AS) (x y g : Nat) : AS_pC (aV a x y g) = AS_pC a := by unfold aV; rw [AS_pC_set_nV, AS_pC_set_vG, AS_pC_set_vB, AS_pC_set_vA]
theorem aV_pE (a : AS) (x y g : Nat) : AS_pE (aV a x y g) = AS_pE a := by unfold aV; rw [AS_pE_set_nV, AS_pE_set_vG, AS_pE_set_vB, AS_pE_set_vA]
theorem aV_pS (a : AS) (x y g : Nat) : AS_pS (aV a x y g) = AS_pS a := by unfold aV; rw [AS_pS_set_nV, AS_pS_set_vG, AS_pS_set_vB, AS_pS_set_vA]
theorem aV_pL (a : AS) (x y g : Nat) : AS_pL (aV a x y g) = AS_pL a := by unfold aV; rw [AS_pL_set_nV, AS_pL_set_vG, AS_pL_set_vB, AS_pL_set_vA]
theorem aV_pH (a : AS) (x y g : Nat) : AS_pH (aV a x y g) = AS_pH a := by unfold aV; rw [AS_pH_set_nV, AS_pH_set_vG, AS_pH_set_vB, AS_pH_set_vA]
theorem aV_pB (a : AS) (x y g : Nat) : AS_pB (aV a x y g) = AS_pB a := by unfold aV; rw [AS_pB_set_nV, AS_pB_set_vG, AS_pB_set_vB, AS_pB_set_vA]
theorem aV_vA (a : AS) (x y g : Nat) : AS_vA (aV a x y g) = setN (AS_vA a) (AS_nV a) x := by unfold aV; rw [AS_vA_set_nV, AS_vA_set_vG, AS_vA_set_vB, AS_vA_set_vA]
theorem aV_vB (a : AS) (x y g : Nat) : AS_vB (aV a x y g) = setN (AS_vB a) (AS_nV a) y := by unfold aV; rw [AS_vB_set_nV, AS_vB_set_vG, AS_vB_set_vB]
theorem aV_vG (a : AS) (x y g : Nat) : AS_vG (aV a x y g) = setN (AS_vG a) (AS_nV a) g := by unfold aV; rw [AS_vG_set_nV, AS_vG_set_vG]
theorem aV_fH (a : AS) (x y g : Nat) : AS_fH (aV a x y g) = AS_fH a := by unfold aV; rw [AS_fH_set_nV, AS_fH_set_vG, AS_fH_set_vB, AS_fH_set_vA]
theorem C_addV {a : AS} {og rl lk : Nat → Nat} {ly : LL} (hN : AS_nV a < 10) (hQ : PLC a og rl lk ly) (x y g r : Nat) : ∃ ly', f1_addValve ly (i4 x) (i4 y) (i4 g) (i4 r) = some ly' ∧ PLC (aV a x y g) og (setN rl (AS_nV a) r) lk ly' := by
  obtain ⟨⟨⟨h0, h1, h2, h3⟩, hc, hp, hv, hf⟩, g1, g2, g3⟩ := hQ
  obtain ⟨ly', hly⟩ : ∃ m, m = LL_set_valves (LL_set_firstRule (LL_set_conductance (LL_set_otherSide (LL_set_valveChamber (ly) (upd (LL_valveChamber ly) (AS_nV a) (i4 x))) (upd (LL_otherSide ly) (AS_nV a) (i4 y))) (upd (LL_conductance ly) (AS_nV a) (i4 g))) (upd (LL_firstRule ly) (AS_nV a) (i4 r))) (i4 (AS_nV a + 1)) := ⟨_, rfl⟩
  obtain ⟨b, hb⟩ : ∃ m, m = aV a x y g := ⟨_, rfl⟩
  refine ⟨ly', ?_, ?_⟩
  · rw [hly]
    unfold f1_addValve
    rw [h2, if_pos (show i4 (AS_nV a) < (10 : Int32) from (i4_lt (b := 10) (by omega) (by omega)).mpr hN), gdi _ (by omega) (by omega), ix4 (by omega), ad1]
  rw [← hb]
  have q_chambers : LL_chambers ly' = LL_chambers ly := by rw [hly, LL_chambers_set_valves, LL_chambers_set_firstRule, LL_chambers_set_conductance, LL_chambers_set_otherSide, LL_chambers_set_valveChamber]
  have q_pumps : LL_pumps ly' = LL_pumps ly := by rw [hly, LL_pumps_set_valves, LL_pumps_set_firstRule, LL_pumps_set_conductance, LL_pumps_set_otherSide, LL_pumps_set_valveChamber]
  have q_valves : LL_valves ly' = i4 (AS_nV a + 1) := by rw [hly, LL_valves_set_valves]
  have q_flanges : LL_flanges ly' = LL_flanges ly := by rw [hly, LL_flanges_set_valves, LL_flanges_set_firstRule, LL_flanges_set_conductance, LL_flanges_set_otherSide, LL_flanges_set_valveChamber]
  have q_volume : LL_volume ly' = LL_volume ly := by rw [hly, LL_volume_set_valves, LL_volume_set_firstRule, LL_volume_set_conductance, LL_volume_set_otherSide, LL_volume_set_valveChamber]
  have q_firstOutgassing : LL_firstOutgassing ly' = LL_firstOutgassing ly := by rw [hly, LL_firstOutgassing_set_valves, LL_firstOutgassing_set_firstRule, LL_firstOutgassing_set_conductance, LL_firstOutgassing_set_otherSide, LL_firstOutgassing_set_valveChamber]
  have q_decay : LL_decay ly' = LL_decay ly := by rw [hly, LL_decay_set_valves, LL_decay_set_firstRule, LL_decay_set_conductance, LL_decay_set_otherSide, LL_decay_set_valveChamber]
  have q_pumpChamber : LL_pumpChamber ly' = LL_pumpChamber ly := by rw [hly, LL_pumpChamber_set_valves, LL_pumpChamber_set_firstRule, LL_pumpChamber_set_conductance, LL_pumpChamber_set_otherSide, LL_pumpChamber_set_valveChamber]
  have q_exhaust : LL_exhaust ly' = LL_exhaust ly := by rw [hly, LL_exhaust_set_valves, LL_exhaust_set_firstRule, LL_exhaust_set_conductance, LL_exhaust_set_otherSide, LL_exhaust_set_valveChamber]
  have q_speed : LL_speed ly' = LL_speed ly := by rw [hly, LL_speed_set_valves, LL_speed_set_firstRule, LL_speed_set_conductance, LL_speed_set_otherSide, LL_speed_set_valveChamber]
  have q_low : LL_low ly' = LL_low ly := by rw [hly, LL_low_set_valves, LL_low_set_firstRule, LL_low_set_conductance, LL_low_set_otherSide, LL_low_set_valveChamber]
  have q_high : LL_high ly' = LL_high ly := by rw [hly, LL_high_set_valves, LL_high_set_firstRule, LL_high_set_conductance, LL_high_set_otherSide, LL_high_set_valveChamber]
  have q_backing : LL_backing ly' = LL_backing ly := by rw [hly, LL_backing_set_valves, LL_backing_set_firstRule, LL_backing_set_conductance, LL_backing_set_otherSide, LL_backing_set_valveChamber]
  have q_valveChamber : LL_valveChamber ly' = upd (LL_valveChamber ly) (AS_nV a) (i4 x) := by rw [hly, LL_valveChamber_set_valves, LL_valveChamber_set_firstRule, LL_valveChamber_set_conductance, LL_valveChamber_set_otherSide, LL_valveChamber_set_valveChamber]
  have q_otherSide : LL_otherSide ly' = upd (LL_otherSide ly) (AS_nV a) (i4 y) := by rw [hly, LL_otherSide_set_valves, LL_otherSide_set_firstRule, LL_otherSide_set_conductance, LL_otherSide_set_otherSide]
  have q_conductance : LL_conductance ly' = upd (LL_conductance ly) (AS_nV a) (i4 g) := by rw [hly, LL_conductance_set_valves, LL_conductance_set_firstRule, LL_conductance_set_conductance]
  have q_firstRule : LL_firstRule ly' = upd (LL_firstRule ly) (AS_nV a) (i4 r) := by rw [hly, LL_firstRule_set_valves, LL_firstRule_set_firstRule]
  have q_flangeChamber : LL_flangeChamber ly' = LL_flangeChamber ly := by rw [hly, LL_flangeChamber_set_valves, LL_flangeChamber_set_firstRule, LL_flangeChamber_set_conductance, LL_flangeChamber_set_otherSide, LL_flangeChamber_set_valveChamber]
  have q_firstLeak : LL_firstLeak ly' = LL_firstLeak ly := by rw [hly, LL_firstLeak_set_valves, LL_firstLeak_set_firstRule, LL_firstLeak_set_conductance, LL_firstLeak_set_otherSide, LL_firstLeak_set_valveChamber]
  have p_nC : AS_nC b = AS_nC a := by rw [hb, aV_nC]
  have p_nP : AS_nP b = AS_nP a := by rw [hb, aV_nP]
  have p_nV : AS_nV b = AS_nV a + 1 := by rw [hb, aV_nV]
  have p_nF : AS_nF b = AS_nF a := by rw [hb, aV_nF]
  have p_vol : AS_vol b = AS_vol a := by rw [hb, aV_vol]
  have p_dec : AS_dec b = AS_dec a := by rw [hb, aV_dec]
  have p_pC : AS_pC b = AS_pC a := by rw [hb, aV_pC]
  have p_pE : AS_pE b = AS_pE a := by rw [hb, aV_pE]
  have p_pS : AS_pS b = AS_pS a := by rw [hb, aV_pS]
  have p_pL : AS_pL b = AS_pL a := by rw [hb, aV_pL]
  have p_pH : AS_pH b = AS_pH a := by rw [hb, aV_pH]
  have p_pB : AS_pB b = AS_pB a := by rw [hb, aV_pB]
  have p_vA : AS_vA b = setN (AS_vA a) (AS_nV a) x := by rw [hb, aV_vA]
  have p_vB : AS_vB b = setN (AS_vB a) (AS_nV a) y := by rw [hb, aV_vB]
  have p_vG : AS_vG b = setN (AS_vG a) (AS_nV a) g := by rw [hb, aV_vG]
  have p_fH : AS_fH b = AS_fH a := by rw [hb, aV_fH]
  clear hly hb
  refine ⟨⟨⟨?_, ?_, ?_, ?_⟩, fun c1 hc1 => ?_, fun p1 hp1 => ?_, fun v1 hv1 => ?_, fun f1 hf1 => ?_⟩, fun c1 hc1 => ?_, fun v1 hv1 => ?_, fun f1 hf1 => ?_⟩
  · rw [q_chambers, p_nC]; exact h0
  · rw [q_pumps, p_nP]; exact h1
  · rw [q_valves, p_nV]
  · rw [q_flanges, p_nF]; exact h3
  · rw [p_nC] at hc1
    rw [q_volume, q_decay, p_vol, p_dec]
    exact hc c1 hc1
  · rw [p_nP] at hp1
    rw [q_pumpChamber, q_exhaust, q_speed, q_low, q_high, q_backing, p_pC, p_pE, p_pS, p_pL, p_pH, p_pB]
    exact hp p1 hp1
  · rw [p_nV] at hv1
    rw [q_valveChamber, q_otherSide, q_conductance, p_vA, p_vB, p_vG]
    by_cases he : v1 = AS_nV a
    · rw [he]
      simp [upd_self, setN_self]
    · simp only [upd_ne _ _ he, setN_ne _ _ he]
      exact hv v1 (by omega)
  · rw [p_nF] at hf1
    rw [q_flangeChamber, p_fH]
    exact hf f1 hf1
  · rw [p_nC] at hc1
    rw [q_firstOutgassing]
    exact g1 c1 hc1
  · rw [p_nV] at hv1
    rw [q_firstRule]
    by_cases he : v1 = AS_nV a
    · rw [he, upd_self, setN_self]
    · rw [upd_ne _ _ he, setN_ne _ _ he]; exact g2 v1 (by omega)
  · rw [p_nF] at hf1
    rw [q_firstLeak]
    exact g3 f1 hf1
theorem W_addV {a : AS} {og rl lk : Nat → Nat} (hN : AS_nV a < 10) (hQ : PLW a og rl lk) {x y g r : Nat} (hx : x < AS_nC a) (hy : y = 8 ∨ y < AS_nC a) (hxy : y ≠ x) (hg : 1 ≤ g ∧ g ≤ 999) (hr : r ≤ 1000000) : PLW (aV a x y g) og (setN rl (AS_nV a) r) lk := by
  obtain ⟨⟨⟨n1, n2, n3, n4⟩, w1, w2, w3, w4⟩, g1, g2, g3⟩ := hQ
  obtain ⟨b, hb⟩ : ∃ m, m = aV a x y g := ⟨_, rfl⟩
  rw [← hb]
  have p_nC : AS_nC b = AS_nC a := by rw [hb, aV_nC]
  have p_nP : AS_nP b = AS_nP a := by rw [hb, aV_nP]
  have p_nV : AS_nV b = AS_nV a + 1 := by rw [hb, aV_nV]
  have p_nF : AS_nF b = AS_nF a := by rw [hb, aV_nF]
  have p_vol : AS_vol b = AS_vol a := by rw [hb, aV_vol]
  have p_dec : AS_dec b = AS_dec a := by rw [hb, aV_dec]
  have p_pC : AS_pC b = AS_pC a := by rw [hb, aV_pC]
  have p_pE : AS_pE b = AS_pE a := by rw [hb, aV_pE]
  have p_pS : AS_pS b = AS_pS a := by rw [hb, aV_pS]
  have p_pL : AS_pL b = AS_pL a := by rw [hb, aV_pL]
  have p_pH : AS_pH b = AS_pH a := by rw [hb, aV_pH]
  have p_pB : AS_pB b = AS_pB a := by rw [hb, aV_pB]
  have p_vA : AS_vA b = setN (AS_vA a) (AS_nV a) x := by rw [hb, aV_vA]
  have p_vB : AS_vB b = setN (AS_vB a) (AS_nV a) y := by rw [hb, aV_vB]
  have p_vG : AS_vG b = setN (AS_vG a) (AS_nV a) g := by rw [hb, aV_vG]
  have p_fH : AS_fH b = AS_fH a := by rw [hb, aV_fH]
  clear hb
  refine ⟨⟨⟨?_, ?_, ?_, ?_⟩, fun c1 hc1 => ?_, fun p1 hp1 => ?_, fun v1 hv1 => ?_, fun f1 hf1 => ?_⟩, fun c1 hc1 => ?_, fun v1 hv1 => ?_, fun f1 hf1 => ?_⟩
  · rw [p_nC]; omega
  · rw [p_nP]; omega
  · rw [p_nV]; omega
  · rw [p_nF]; omega
  · rw [p_nC] at hc1
    rw [p_vol, p_dec]
    exact w1 c1 hc1
  · rw [p_nP] at hp1
    rw [p_pC, p_pE, p_pS, p_pL, p_pH, p_pB, p_nC]
    exact w2 p1 hp1
  · rw [p_nV] at hv1
    rw [p_vA, p_vB, p_vG, p_nC]
    by_cases he : v1 = AS_nV a
    · simp only [he, setN_self]
      exact ⟨hx, hy, hxy, hg.1, hg.2⟩
    · simp only [setN_ne _ _ he]
      exact w3 v1 (by omega)
  · rw [p_nF] at hf1
    rw [p_fH, p_nC]
    exact w4 f1 hf1
  · rw [p_nC] at hc1
    exact g1 c1 hc1
  · rw [p_nV] at hv1
    by_cases he : v1 = AS_nV a
    · rw [he, setN_self]; exact hr
    · rw [setN_ne _ _ he]; exact g2 v1 (by omega)
  · rw [p_nF] at hf1
    exact g3 f1 hf1
theorem M_addV {a : AS} {og rl lk : Nat → Nat} {w : Nat → Int64} (hN : AS_nV a < 10) (hW : PLW a og rl lk) (hQ : PLM a og rl lk w) (x y g r : Nat) : PLM (aV a x y g) og (setN rl (AS_nV a) r) lk (vp_updL (vp_updL (vp_updL (vp_updL (vp_updL (w) (88 + 6 * AS_nV a) (i8 x)) (88 + 6 * AS_nV a + 1) (mE y)) (88 + 6 * AS_nV a + 2) (i8 g)) (88 + 6 * AS_nV a + 3) (i8 r)) 2 (i8 (AS_nV a + 1))) := by
  obtain ⟨n1, n2, n3, n4⟩ := hW.1.1
  obtain ⟨⟨⟨h0, h1, h2, h3⟩, hc, hp, hv, hf⟩, ⟨⟨d0, d1, d2, d3⟩, dc, dp, dv, df, dg⟩, zp, zv⟩ := hQ
  obtain ⟨w', hw'⟩ : ∃ m, m = vp_updL (vp_updL (vp_updL (vp_updL (vp_updL (w) (88 + 6 * AS_nV a) (i8 x)) (88 + 6 * AS_nV a + 1) (mE y)) (88 + 6 * AS_nV a + 2) (i8 g)) (88 + 6 * AS_nV a + 3) (i8 r)) 2 (i8 (AS_nV a + 1)) := ⟨_, rfl⟩
  obtain ⟨b, hb⟩ : ∃ m, m = aV a x y g := ⟨_, rfl⟩
  rw [← hb, ← hw']
  have lo : ∀ q, q ≠ 2 → q ≠ 88 + 6 * AS_nV a → q ≠ 88 + 6 * AS_nV a + 1 → q ≠ 88 + 6 * AS_nV a + 2 → q ≠ 88 + 6 * AS_nV a + 3 → w' q = w q := fun q kk k0 k1 k2 k3 => by rw [hw', updL_ne _ _ kk, updL_ne _ _ k3, updL_ne _ _ k2, updL_ne _ _ k1, updL_ne _ _ k0]
  have lc : w' 2 = i8 (AS_nV a + 1) := by rw [hw', updL_self]
  have l0 : w' (88 + 6 * AS_nV a) = i8 x := by rw [hw', updL_ne _ _ (by omega), updL_ne _ _ (by omega), updL_ne _ _ (by omega), updL_ne _ _ (by omega), updL_self]
  have l1 : w' (88 + 6 * AS_nV a + 1) = mE y := by rw [hw', updL_ne _ _ (by omega), updL_ne _ _ (by omega), updL_ne _ _ (by omega), updL_self]
  have l2 : w' (88 + 6 * AS_nV a + 2) = i8 g := by rw [hw', updL_ne _ _ (by omega), updL_ne _ _ (by omega), updL_self]
  have l3 : w' (88 + 6 * AS_nV a + 3) = i8 r := by rw [hw', updL_ne _ _ (by omega), updL_self]
  have p_nC : AS_nC b = AS_nC a := by rw [hb, aV_nC]
  have p_nP : AS_nP b = AS_nP a := by rw [hb, aV_nP]
  have p_nV : AS_nV b = AS_nV a + 1 := by rw [hb, aV_nV]
  have p_nF : AS_nF b = AS_nF a := by rw [hb, aV_nF]
  have p_vol : AS_vol b = AS_vol a := by rw [hb, aV_vol]
  have p_dec : AS_dec b = AS_dec a := by rw [hb, aV_dec]
  have p_pC : AS_pC b = AS_pC a := by rw [hb, aV_pC]
  have p_pE : AS_pE b = AS_pE a := by rw [hb, aV_pE]
  have p_pS : AS_pS b = AS_pS a := by rw [hb, aV_pS]
  have p_pL : AS_pL b = AS_pL a := by rw [hb, aV_pL]
  have p_pH : AS_pH b = AS_pH a := by rw [hb, aV_pH]
  have p_pB : AS_pB b = AS_pB a := by rw [hb, aV_pB]
  have p_vA : AS_vA b = setN (AS_vA a) (AS_nV a) x := by rw [hb, aV_vA]
  have p_vB : AS_vB b = setN (AS_vB a) (AS_nV a) y := by rw [hb, aV_vB]
  have p_vG : AS_vG b = setN (AS_vG a) (AS_nV a) g := by rw [hb, aV_vG]
  have p_fH : AS_fH b = AS_fH a := by rw [hb, aV_fH]
  clear hb hw'
  refine ⟨⟨⟨?_, ?_, ?_, ?_⟩, fun c1 hc1 => ?_, fun p1 hp1 => ?_, fun v1 hv1 => ?_, fun f1 hf1 => ?_⟩, ⟨⟨?_, ?_, ?_, ?_⟩, fun c1 hc1 => ?_, fun p1 hp1 => ?_, fun v1 hv1 => ?_, fun f1 hf1 => ?_, fun g j hg hj => ?_⟩, fun p1 y1 y2 => ?_, fun v1 y1 y2 => ?_⟩
  · rw [lo _ (by omega) (by omega) (by omega) (by omega) (by omega), p_nC]; exact h0
  · rw [lo _ (by omega) (by omega) (by omega) (by omega) (by omega), p_nP]; exact h1
  · rw [p_nV, lc]
  · rw [lo _ (by omega) (by omega) (by omega) (by omega) (by omega), p_nF]; exact h3
  · rw [p_nC] at hc1
    rw [p_vol, p_dec]
    refine ⟨?_, ?_⟩
    · rw [lo _ (by omega) (by omega) (by omega) (by omega) (by omega)]; exact (hc c1 (by omega)).1
    · rw [lo _ (by omega) (by omega) (by omega) (by omega) (by omega)]; exact (hc c1 (by omega)).2
  · rw [p_nP] at hp1
    rw [p_pC, p_pE, p_pS, p_pL, p_pH, p_pB]
    refine ⟨?_, ?_, ?_, ?_, ?_, ?_⟩
    · rw [lo _ (by omega) (by omega) (by omega) (by omega) (by omega)]; exact (hp p1 (by omega)).1
    · rw [lo _ (by omega) (by omega) (by omega) (by omega) (by omega)]; exact (hp p1 (by omega)).2.1
    · rw [lo _ (by omega) (by omega) (by omega) (by omega) (by omega)]; exact (hp p1 (by omega)).2.2.1
    · rw [lo _ (by omega) (by omega) (by omega) (by omega) (by omega)]; exact (hp p1 (by omega)).2.2.2.1
    · rw [lo _ (by omega) (by omega) (by omega) (by omega) (by omega)]; exact (hp p1 (by omega)).2.2.2.2.1
    · rw [lo _ (by omega) (by omega) (by omega) (by omega) (by omega)]; exact (hp p1 (by omega)).2.2.2.2.2
  · rw [p_nV] at hv1
    rw [p_vA, p_vB, p_vG]
    by_cases he : v1 = AS_nV a
    · subst he
      simp only [setN_self]
      exact ⟨l0, l1, l2⟩
    · simp only [setN_ne _ _ he]
      refine ⟨?_, ?_, ?_⟩
      · rw [lo _ (by omega) (by omega) (by omega) (by omega) (by omega)]; exact (hv v1 (by omega)).1
      · rw [lo _ (by omega) (by omega) (by omega) (by omega) (by omega)]; exact (hv v1 (by omega)).2.1
      · rw [lo _ (by omega) (by omega) (by omega) (by omega) (by omega)]; exact (hv v1 (by omega)).2.2
  · rw [p_nF] at hf1
    rw [p_fH]
    rw [lo _ (by omega) (by omega) (by omega) (by omega) (by omega)]; exact hf f1 (by omega)
  · rw [lo _ (by omega) (by omega) (by omega) (by omega) (by omega)]; exact d0
  · rw [lo _ (by omega) (by omega) (by omega) (by omega) (by omega)]; exact d1
  · rw [lo _ (by omega) (by omega) (by omega) (by omega) (by omega)]; exact d2
  · rw [lo _ (by omega) (by omega) (by omega) (by omega) (by omega)]; exact d3
  · rw [p_nC] at hc1
    show w' (8 + 4 * c1 + 1) = i8 (og c1) ∧ w' (8 + 4 * c1 + 3) = i8 (1000000 * AS_vol b c1)
    rw [p_vol]
    rw [lo _ (by omega) (by omega) (by omega) (by omega) (by omega), lo _ (by omega) (by omega) (by omega) (by omega) (by omega)]; exact dc c1 hc1
  · rw [p_nP] at hp1
    show w' (40 + 8 * p1 + 6) = 0 ∧ w' (40 + 8 * p1 + 7) = 0
    rw [lo _ (by omega) (by omega) (by omega) (by omega) (by omega), lo _ (by omega) (by omega) (by omega) (by omega) (by omega)]; exact dp p1 hp1
  · rw [p_nV] at hv1
    show w' (88 + 6 * v1 + 3) = i8 ((setN rl (AS_nV a) r) v1) ∧ w' (88 + 6 * v1 + 4) = 0 ∧ w' (88 + 6 * v1 + 5) = 0
    by_cases he : v1 = AS_nV a
    · have zz := zv v1 (by omega) (by omega)
      refine ⟨?_, ?_, ?_⟩
      · rw [he, setN_self]; exact l3
      · rw [lo _ (by omega) (by omega) (by omega) (by omega) (by omega)]; exact zz.1
      · rw [lo _ (by omega) (by omega) (by omega) (by omega) (by omega)]; exact zz.2
    · rw [setN_ne _ _ he, lo _ (by omega) (by omega) (by omega) (by omega) (by omega), lo _ (by omega) (by omega) (by omega) (by omega) (by omega), lo _ (by omega) (by omega) (by omega) (by omega) (by omega)]; exact dv v1 (by omega)
  · rw [p_nF] at hf1
    rw [lo _ (by omega) (by omega) (by omega) (by omega) (by omega)]; exact df f1 hf1
  · exact absurd hg (Nat.not_lt_zero g)
  · rw [p_nP] at y1
    rw [lo _ (by omega) (by omega) (by omega) (by omega) (by omega), lo _ (by omega) (by omega) (by omega) (by omega) (by omega)]; exact zp p1 (by omega) y2
  · rw [p_nV] at y1
    rw [lo _ (by omega) (by omega) (by omega) (by omega) (by omega), lo _ (by omega) (by omega) (by omega) (by omega) (by omega)]; exact zv v1 (by omega) y2
def aP (a : AS) (x y s l h k : Nat) : AS := AS_set_nP (AS_set_pB (AS_set_pH (AS_set_pL (AS_set_pS (AS_set_pE (AS_set_pC (a) (setN (AS_pC a) (AS_nP a) x)) (setN (AS_pE a) (AS_nP a) y)) (setN (AS_pS a) (AS_nP a) s)) (setN (AS_pL a) (AS_nP a) l)) (setN (AS_pH a) (AS_nP a) h)) (setN (AS_pB a) (AS_nP a) k)) (AS_nP a + 1)
theorem aP_nC (a : AS) (x y s l h k : Nat) : AS_nC (aP a x y s l h k) = AS_nC a := by unfold aP; rw [AS_nC_set_nP, AS_nC_set_pB, AS_nC_set_pH, AS_nC_set_pL, AS_nC_set_pS, AS_nC_set_pE, AS_nC_set_pC]
theorem aP_nP (a : AS) (x y s l h k : Nat) : AS_nP (aP a x y s l h k) = AS_nP a + 1 := by unfold aP; rw [AS_nP_set_nP]
theorem aP_nV (a : AS) (x y s l h k : Nat) : AS_nV (aP a x y s l h k) = AS_nV a := by unfold aP; rw [AS_nV_set_nP, AS_nV_set_pB, AS_nV_set_pH, AS_nV_set_pL, AS_nV_set_pS, AS_nV_set_pE, AS_nV_set_pC]
theorem aP_nF (a : AS) (x y s l h k : Nat) : AS_nF (aP a x y s l h k) = AS_nF a := by unfold aP; rw [AS_nF_set_nP, AS_nF_set_pB, AS_nF_set_pH, AS_nF_set_pL, AS_nF_set_pS, AS_nF_set_pE, AS_nF_set_pC]
theorem aP_vol (a : AS) (x y s l h k : Nat) : AS_vol (aP a x y s l h k) = AS_vol a := by unfold aP; rw [AS_vol_set_nP, AS_vol_set_pB, AS_vol_set_pH, AS_vol_set_pL, AS_vol_set_pS, AS_vol_set_pE, AS_vol_set_pC]
theorem aP_dec (a : AS) (x y s l h k : Nat) : AS_dec (aP a x y s l h k) = AS_dec a := by unfold aP; rw [AS_dec_set_nP, AS_dec_set_pB, AS_dec_set_pH, AS_dec_set_pL, AS_dec_set_pS, AS_dec_set_pE, AS_dec_set_pC]
theorem aP_pC (a : AS) (x y s l h k : Nat) : AS_pC (aP a x y s l h k) = setN (AS_pC a) (AS_nP a) x := by unfold aP; rw [AS_pC_set_nP, AS_pC_set_pB, AS_pC_set_pH, AS_pC_set_pL, AS_pC_set_pS, AS_pC_set_pE, AS_pC_set_pC]
theorem aP_pE (a : AS) (x y s l h k : Nat) : AS_pE (aP a x y s l h k) = setN (AS_pE a) (AS_nP a) y := by unfold aP; rw [AS_pE_set_nP, AS_pE_set_pB, AS_pE_set_pH, AS_pE_set_pL, AS_pE_set_pS, AS_pE_set_pE]
theorem aP_pS (a : AS) (x y s l h k : Nat) : AS_pS (aP a x y s l h k) = setN (AS_pS a) (AS_nP a) s := by unfold aP; rw [AS_pS_set_nP, AS_pS_set_pB, AS_pS_set_pH, AS_pS_set_pL, AS_pS_set_pS]
theorem aP_pL (a : AS) (x y s l h k : Nat) : AS_pL (aP a x y s l h k) = setN (AS_pL a) (AS_nP a) l := by unfold aP; rw [AS_pL_set_nP, AS_pL_set_pB, AS_pL_set_pH, AS_pL_set_pL]
theorem aP_pH (a : AS) (x y s l h k : Nat) : AS_pH (aP a x y s l h k) = setN (AS_pH a) (AS_nP a) h := by unfold aP; rw [AS_pH_set_nP, AS_pH_set_pB, AS_pH_set_pH]
theorem aP_pB (a : AS) (x y s l h k : Nat) : AS_pB (aP a x y s l h k) = setN (AS_pB a) (AS_nP a) k := by unfold aP; rw [AS_pB_set_nP, AS_pB_set_pB]
theorem aP_vA (a : AS) (x y s l h k : Nat) : AS_vA (aP a x y s l h k) = AS_vA a := by unfold aP; rw [AS_vA_set_nP, AS_vA_set_pB, AS_vA_set_pH, AS_vA_set_pL, AS_vA_set_pS, AS_vA_set_pE, AS_vA_set_pC]
theorem aP_vB (a : AS) (x y s l h k : Nat) : AS_vB (aP a x y s l h k) = AS_vB a := by unfold aP; rw [AS_vB_set_nP, AS_vB_set_pB, AS_vB_set_pH, AS_vB_set_pL, AS_vB_set_pS, AS_vB_set_pE, AS_vB_set_pC]
theorem aP_vG (a : AS) (x y s l h k : Nat) : AS_vG (aP a x y s l h k) = AS_vG a := by unfold aP; rw [AS_vG_set_nP, AS_vG_set_pB, AS_vG_set_pH, AS_vG_set_pL, AS_vG_set_pS, AS_vG_set_pE, AS_vG_set_pC]
theorem aP_fH (a : AS) (x y s l h k : Nat) : AS_fH (aP a x y s l h k) = AS_fH a := by unfold aP; rw [AS_fH_set_nP, AS_fH_set_pB, AS_fH_set_pH, AS_fH_set_pL, AS_fH_set_pS, AS_fH_set_pE, AS_fH_set_pC]
theorem C_addP {a : AS} {og rl lk : Nat → Nat} {ly : LL} (hN : AS_nP a < 6) (hQ : PLC a og rl lk ly) (x y s l h k : Nat) : ∃ ly', f1_addPump ly (i4 x) (i4 y) (i4 s) (i4 l) (i4 h) (i4 k) = some ly' ∧ PLC (aP a x y s l h k) og rl lk ly' := by
  obtain ⟨⟨⟨h0, h1, h2, h3⟩, hc, hp, hv, hf⟩, g1, g2, g3⟩ := hQ
  obtain ⟨ly', hly⟩ : ∃ m, m = LL_set_pumps (LL_set_backing (LL_set_high (LL_set_low (LL_set_speed (LL_set_exhaust (LL_set_pumpChamber (ly) (upd (LL_pumpChamber ly) (AS_nP a) (i4 x))) (upd (LL_exhaust ly) (AS_nP a) (i4 y))) (upd (LL_speed ly) (AS_nP a) (i4 s))) (upd (LL_low ly) (AS_nP a) (i4 l))) (upd (LL_high ly) (AS_nP a) (i4 h))) (upd (LL_backing ly) (AS_nP a) (i4 k))) (i4 (AS_nP a + 1)) := ⟨_, rfl⟩
  obtain ⟨b, hb⟩ : ∃ m, m = aP a x y s l h k := ⟨_, rfl⟩
  refine ⟨ly', ?_, ?_⟩
  · rw [hly]
    unfold f1_addPump
    rw [h1, if_pos (show i4 (AS_nP a) < (6 : Int32) from (i4_lt (b := 6) (by omega) (by omega)).mpr hN), gdi _ (by omega) (by omega), ix4 (by omega), ad1]
  rw [← hb]
  have q_chambers : LL_chambers ly' = LL_chambers ly := by rw [hly, LL_chambers_set_pumps, LL_chambers_set_backing, LL_chambers_set_high, LL_chambers_set_low, LL_chambers_set_speed, LL_chambers_set_exhaust, LL_chambers_set_pumpChamber]
  have q_pumps : LL_pumps ly' = i4 (AS_nP a + 1) := by rw [hly, LL_pumps_set_pumps]
  have q_valves : LL_valves ly' = LL_valves ly := by rw [hly, LL_valves_set_pumps, LL_valves_set_backing, LL_valves_set_high, LL_valves_set_low, LL_valves_set_speed, LL_valves_set_exhaust, LL_valves_set_pumpChamber]
  have q_flanges : LL_flanges ly' = LL_flanges ly := by rw [hly, LL_flanges_set_pumps, LL_flanges_set_backing, LL_flanges_set_high, LL_flanges_set_low, LL_flanges_set_speed, LL_flanges_set_exhaust, LL_flanges_set_pumpChamber]
  have q_volume : LL_volume ly' = LL_volume ly := by rw [hly, LL_volume_set_pumps, LL_volume_set_backing, LL_volume_set_high, LL_volume_set_low, LL_volume_set_speed, LL_volume_set_exhaust, LL_volume_set_pumpChamber]
  have q_firstOutgassing : LL_firstOutgassing ly' = LL_firstOutgassing ly := by rw [hly, LL_firstOutgassing_set_pumps, LL_firstOutgassing_set_backing, LL_firstOutgassing_set_high, LL_firstOutgassing_set_low, LL_firstOutgassing_set_speed, LL_firstOutgassing_set_exhaust, LL_firstOutgassing_set_pumpChamber]
  have q_decay : LL_decay ly' = LL_decay ly := by rw [hly, LL_decay_set_pumps, LL_decay_set_backing, LL_decay_set_high, LL_decay_set_low, LL_decay_set_speed, LL_decay_set_exhaust, LL_decay_set_pumpChamber]
  have q_pumpChamber : LL_pumpChamber ly' = upd (LL_pumpChamber ly) (AS_nP a) (i4 x) := by rw [hly, LL_pumpChamber_set_pumps, LL_pumpChamber_set_backing, LL_pumpChamber_set_high, LL_pumpChamber_set_low, LL_pumpChamber_set_speed, LL_pumpChamber_set_exhaust, LL_pumpChamber_set_pumpChamber]
  have q_exhaust : LL_exhaust ly' = upd (LL_exhaust ly) (AS_nP a) (i4 y) := by rw [hly, LL_exhaust_set_pumps, LL_exhaust_set_backing, LL_exhaust_set_high, LL_exhaust_set_low, LL_exhaust_set_speed, LL_exhaust_set_exhaust]
  have q_speed : LL_speed ly' = upd (LL_speed ly) (AS_nP a) (i4 s) := by rw [hly, LL_speed_set_pumps, LL_speed_set_backing, LL_speed_set_high, LL_speed_set_low, LL_speed_set_speed]
  have q_low : LL_low ly' = upd (LL_low ly) (AS_nP a) (i4 l) := by rw [hly, LL_low_set_pumps, LL_low_set_backing, LL_low_set_high, LL_low_set_low]
  have q_high : LL_high ly' = upd (LL_high ly) (AS_nP a) (i4 h) := by rw [hly, LL_high_set_pumps, LL_high_set_backing, LL_high_set_high]
  have q_backing : LL_backing ly' = upd (LL_backing ly) (AS_nP a) (i4 k) := by rw [hly, LL_backing_set_pumps, LL_backing_set_backing]
  have q_valveChamber : LL_valveChamber ly' = LL_valveChamber ly := by rw [hly, LL_valveChamber_set_pumps, LL_valveChamber_set_backing, LL_valveChamber_set_high, LL_valveChamber_set_low, LL_valveChamber_set_speed, LL_valveChamber_set_exhaust, LL_valveChamber_set_pumpChamber]
  have q_otherSide : LL_otherSide ly' = LL_otherSide ly := by rw [hly, LL_otherSide_set_pumps, LL_otherSide_set_backing, LL_otherSide_set_high, LL_otherSide_set_low, LL_otherSide_set_speed, LL_otherSide_set_exhaust, LL_otherSide_set_pumpChamber]
  have q_conductance : LL_conductance ly' = LL_conductance ly := by rw [hly, LL_conductance_set_pumps, LL_conductance_set_backing, LL_conductance_set_high, LL_conductance_set_low, LL_conductance_set_speed, LL_conductance_set_exhaust, LL_conductance_set_pumpChamber]
  have q_firstRule : LL_firstRule ly' = LL_firstRule ly := by rw [hly, LL_firstRule_set_pumps, LL_firstRule_set_backing, LL_firstRule_set_high, LL_firstRule_set_low, LL_firstRule_set_speed, LL_firstRule_set_exhaust, LL_firstRule_set_pumpChamber]
  have q_flangeChamber : LL_flangeChamber ly' = LL_flangeChamber ly := by rw [hly, LL_flangeChamber_set_pumps, LL_flangeChamber_set_backing, LL_flangeChamber_set_high, LL_flangeChamber_set_low, LL_flangeChamber_set_speed, LL_flangeChamber_set_exhaust, LL_flangeChamber_set_pumpChamber]
  have q_firstLeak : LL_firstLeak ly' = LL_firstLeak ly := by rw [hly, LL_firstLeak_set_pumps, LL_firstLeak_set_backing, LL_firstLeak_set_high, LL_firstLeak_set_low, LL_firstLeak_set_speed, LL_firstLeak_set_exhaust, LL_firstLeak_set_pumpChamber]
  have p_nC : AS_nC b = AS_nC a := by rw [hb, aP_nC]
  have p_nP : AS_nP b = AS_nP a + 1 := by rw [hb, aP_nP]
  have p_nV : AS_nV b = AS_nV a := by rw [hb, aP_nV]
  have p_nF : AS_nF b = AS_nF a := by rw [hb, aP_nF]
  have p_vol : AS_vol b = AS_vol a := by rw [hb, aP_vol]
  have p_dec : AS_dec b = AS_dec a := by rw [hb, aP_dec]
  have p_pC : AS_pC b = setN (AS_pC a) (AS_nP a) x := by rw [hb, aP_pC]
  have p_pE : AS_pE b = setN (AS_pE a) (AS_nP a) y := by rw [hb, aP_pE]
  have p_pS : AS_pS b = setN (AS_pS a) (AS_nP a) s := by rw [hb, aP_pS]
  have p_pL : AS_pL b = setN (AS_pL a) (AS_nP a) l := by rw [hb, aP_pL]
  have p_pH : AS_pH b = setN (AS_pH a) (AS_nP a) h := by rw [hb, aP_pH]
  have p_pB : AS_pB b = setN (AS_pB a) (AS_nP a) k := by rw [hb, aP_pB]
  have p_vA : AS_vA b = AS_vA a := by rw [hb, aP_vA]
  have p_vB : AS_vB b = AS_vB a := by rw [hb, aP_vB]
  have p_vG : AS_vG b = AS_vG a := by rw [hb, aP_vG]
  have p_fH : AS_fH b = AS_fH a := by rw [hb, aP_fH]
  clear hly hb
  refine ⟨⟨⟨?_, ?_, ?_, ?_⟩, fun c1 hc1 => ?_, fun p1 hp1 => ?_, fun v1 hv1 => ?_, fun f1 hf1 => ?_⟩, fun c1 hc1 => ?_, fun v1 hv1 => ?_, fun f1 hf1 => ?_⟩
  · rw [q_chambers, p_nC]; exact h0
  · rw [q_pumps, p_nP]
  · rw [q_valves, p_nV]; exact h2
  · rw [q_flanges, p_nF]; exact h3
  · rw [p_nC] at hc1
    rw [q_volume, q_decay, p_vol, p_dec]
    exact hc c1 hc1
  · rw [p_nP] at hp1
    rw [q_pumpChamber, q_exhaust, q_speed, q_low, q_high, q_backing, p_pC, p_pE, p_pS, p_pL, p_pH, p_pB]
    by_cases he : p1 = AS_nP a
    · rw [he]
      simp [upd_self, setN_self]
    · simp only [upd_ne _ _ he, setN_ne _ _ he]
      exact hp p1 (by omega)
  · rw [p_nV] at hv1
    rw [q_valveChamber, q_otherSide, q_conductance, p_vA, p_vB, p_vG]
    exact hv v1 hv1
  · rw [p_nF] at hf1
    rw [q_flangeChamber, p_fH]
    exact hf f1 hf1
  · rw [p_nC] at hc1
    rw [q_firstOutgassing]
    exact g1 c1 hc1
  · rw [p_nV] at hv1
    rw [q_firstRule]
    exact g2 v1 hv1
  · rw [p_nF] at hf1
    rw [q_firstLeak]
    exact g3 f1 hf1
theorem W_addP {a : AS} {og rl lk : Nat → Nat} (hN : AS_nP a < 6) (hQ : PLW a og rl lk) {x y s l h k : Nat} (hx : x < AS_nC a) (hy : y = 8 ∨ y < AS_nC a) (hxy : y ≠ x) (hs : 1 ≤ s ∧ s ≤ 999) (hl : l ≤ 1000000) (hh : h ≤ 1000000) (hk : k ≤ 1000000) : PLW (aP a x y s l h k) og rl lk := by
  obtain ⟨⟨⟨n1, n2, n3, n4⟩, w1, w2, w3, w4⟩, g1, g2, g3⟩ := hQ
  obtain ⟨b, hb⟩ : ∃ m, m = aP a x y s l h k := ⟨_, rfl⟩
  rw [← hb]
  have p_nC : AS_nC b = AS_nC a := by rw [hb, aP_nC]
  have p_nP : AS_nP b = AS_nP a + 1 := by rw [hb, aP_nP]
  have p_nV : AS_nV b = AS_nV a := by rw [hb, aP_nV]
  have p_nF : AS_nF b = AS_nF a := by rw [hb, aP_nF]
  have p_vol : AS_vol b = AS_vol a := by rw [hb, aP_vol]
  have p_dec : AS_dec b = AS_dec a := by rw [hb, aP_dec]
  have p_pC : AS_pC b = setN (AS_pC a) (AS_nP a) x := by rw [hb, aP_pC]
  have p_pE : AS_pE b = setN (AS_pE a) (AS_nP a) y := by rw [hb, aP_pE]
  have p_pS : AS_pS b = setN (AS_pS a) (AS_nP a) s := by rw [hb, aP_pS]
  have p_pL : AS_pL b = setN (AS_pL a) (AS_nP a) l := by rw [hb, aP_pL]
  have p_pH : AS_pH b = setN (AS_pH a) (AS_nP a) h := by rw [hb, aP_pH]
  have p_pB : AS_pB b = setN (AS_pB a) (AS_nP a) k := by rw [hb, aP_pB]
  have p_vA : AS_vA b = AS_vA a := by rw [hb, aP_vA]
  have p_vB : AS_vB b = AS_vB a := by rw [hb, aP_vB]
  have p_vG : AS_vG b = AS_vG a := by rw [hb, aP_vG]
  have p_fH : AS_fH b = AS_fH a := by rw [hb, aP_fH]
  clear hb
  refine ⟨⟨⟨?_, ?_, ?_, ?_⟩, fun c1 hc1 => ?_, fun p1 hp1 => ?_, fun v1 hv1 => ?_, fun f1 hf1 => ?_⟩, fun c1 hc1 => ?_, fun v1 hv1 => ?_, fun f1 hf1 => ?_⟩
  · rw [p_nC]; omega
  · rw [p_nP]; omega
  · rw [p_nV]; omega
  · rw [p_nF]; omega
  · rw [p_nC] at hc1
    rw [p_vol, p_dec]
    exact w1 c1 hc1
  · rw [p_nP] at hp1
    rw [p_pC, p_pE, p_pS, p_pL, p_pH, p_pB, p_nC]
    by_cases he : p1 = AS_nP a
    · simp only [he, setN_self]
      exact ⟨hx, hy, hxy, hs.1, hs.2, hl, hh, hk⟩
    · simp only [setN_ne _ _ he]
      exact w2 p1 (by omega)
  · rw [p_nV] at hv1
    rw [p_vA, p_vB, p_vG, p_nC]
    exact w3 v1 hv1
  · rw [p_nF] at hf1
    rw [p_fH, p_nC]
    exact w4 f1 hf1
  · rw [p_nC] at hc1
    exact g1 c1 hc1
  · rw [p_nV] at hv1
    exact g2 v1 hv1
  · rw [p_nF] at hf1
    exact g3 f1 hf1
theorem M_addP {a : AS} {og rl lk : Nat → Nat} {w : Nat → Int64} (hN : AS_nP a < 6) (hW : PLW a og rl lk) (hQ : PLM a og rl lk w) (x y s l h k : Nat) : PLM (aP a x y s l h k) og rl lk (vp_updL (vp_updL (vp_updL (vp_updL (vp_updL (vp_updL (vp_updL (w) (40 + 8 * AS_nP a) (i8 x)) (40 + 8 * AS_nP a + 1) (mE y)) (40 + 8 * AS_nP a + 2) (i8 s)) (40 + 8 * AS_nP a + 3) (i8 l)) (40 + 8 * AS_nP a + 4) (i8 h)) (40 + 8 * AS_nP a + 5) ((if y = 8 then -1 else i8 k))) 1 (i8 (AS_nP a + 1))) := by
  obtain ⟨n1, n2, n3, n4⟩ := hW.1.1
  obtain ⟨⟨⟨h0, h1, h2, h3⟩, hc, hp, hv, hf⟩, ⟨⟨d0, d1, d2, d3⟩, dc, dp, dv, df, dg⟩, zp, zv⟩ := hQ
  obtain ⟨w', hw'⟩ : ∃ m, m = vp_updL (vp_updL (vp_updL (vp_updL (vp_updL (vp_updL (vp_updL (w) (40 + 8 * AS_nP a) (i8 x)) (40 + 8 * AS_nP a + 1) (mE y)) (40 + 8 * AS_nP a + 2) (i8 s)) (40 + 8 * AS_nP a + 3) (i8 l)) (40 + 8 * AS_nP a + 4) (i8 h)) (40 + 8 * AS_nP a + 5) ((if y = 8 then -1 else i8 k))) 1 (i8 (AS_nP a + 1)) := ⟨_, rfl⟩
  obtain ⟨b, hb⟩ : ∃ m, m = aP a x y s l h k := ⟨_, rfl⟩
  rw [← hb, ← hw']
  have lo : ∀ q, q ≠ 1 → q ≠ 40 + 8 * AS_nP a → q ≠ 40 + 8 * AS_nP a + 1 → q ≠ 40 + 8 * AS_nP a + 2 → q ≠ 40 + 8 * AS_nP a + 3 → q ≠ 40 + 8 * AS_nP a + 4 → q ≠ 40 + 8 * AS_nP a + 5 → w' q = w q := fun q kk k0 k1 k2 k3 k4 k5 => by rw [hw', updL_ne _ _ kk, updL_ne _ _ k5, updL_ne _ _ k4, updL_ne _ _ k3, updL_ne _ _ k2, updL_ne _ _ k1, updL_ne _ _ k0]
  have lc : w' 1 = i8 (AS_nP a + 1) := by rw [hw', updL_self]
  have l0 : w' (40 + 8 * AS_nP a) = i8 x := by rw [hw', updL_ne _ _ (by omega), updL_ne _ _ (by omega), updL_ne _ _ (by omega), updL_ne _ _ (by omega), updL_ne _ _ (by omega), updL_ne _ _ (by omega), updL_self]
  have l1 : w' (40 + 8 * AS_nP a + 1) = mE y := by rw [hw', updL_ne _ _ (by omega), updL_ne _ _ (by omega), updL_ne _ _ (by omega), updL_ne _ _ (by omega), updL_ne _ _ (by omega), updL_self]
  have l2 : w' (40 + 8 * AS_nP a + 2) = i8 s := by rw [hw', updL_ne _ _ (by omega), updL_ne _ _ (by omega), updL_ne _ _ (by omega), updL_ne _ _ (by omega), updL_self]
  have l3 : w' (40 + 8 * AS_nP a + 3) = i8 l := by rw [hw', updL_ne _ _ (by omega), updL_ne _ _ (by omega), updL_ne _ _ (by omega), updL_self]
  have l4 : w' (40 + 8 * AS_nP a + 4) = i8 h := by rw [hw', updL_ne _ _ (by omega), updL_ne _ _ (by omega), updL_self]
  have l5 : w' (40 + 8 * AS_nP a + 5) = (if y = 8 then -1 else i8 k) := by rw [hw', updL_ne _ _ (by omega), updL_self]
  have p_nC : AS_nC b = AS_nC a := by rw [hb, aP_nC]
  have p_nP : AS_nP b = AS_nP a + 1 := by rw [hb, aP_nP]
  have p_nV : AS_nV b = AS_nV a := by rw [hb, aP_nV]
  have p_nF : AS_nF b = AS_nF a := by rw [hb, aP_nF]
  have p_vol : AS_vol b = AS_vol a := by rw [hb, aP_vol]
  have p_dec : AS_dec b = AS_dec a := by rw [hb, aP_dec]
  have p_pC : AS_pC b = setN (AS_pC a) (AS_nP a) x := by rw [hb, aP_pC]
  have p_pE : AS_pE b = setN (AS_pE a) (AS_nP a) y := by rw [hb, aP_pE]
  have p_pS : AS_pS b = setN (AS_pS a) (AS_nP a) s := by rw [hb, aP_pS]
  have p_pL : AS_pL b = setN (AS_pL a) (AS_nP a) l := by rw [hb, aP_pL]
  have p_pH : AS_pH b = setN (AS_pH a) (AS_nP a) h := by rw [hb, aP_pH]
  have p_pB : AS_pB b = setN (AS_pB a) (AS_nP a) k := by rw [hb, aP_pB]
  have p_vA : AS_vA b = AS_vA a := by rw [hb, aP_vA]
  have p_vB : AS_vB b = AS_vB a := by rw [hb, aP_vB]
  have p_vG : AS_vG b = AS_vG a := by rw [hb, aP_vG]
  have p_fH : AS_fH b = AS_fH a := by rw [hb, aP_fH]
  clear hb hw'
  refine ⟨⟨⟨?_, ?_, ?_, ?_⟩, fun c1 hc1 => ?_, fun p1 hp1 => ?_, fun v1 hv1 => ?_, fun f1 hf1 => ?_⟩, ⟨⟨?_, ?_, ?_, ?_⟩, fun c1 hc1 => ?_, fun p1 hp1 => ?_, fun v1 hv1 => ?_, fun f1 hf1 => ?_, fun g j hg hj => ?_⟩, fun p1 y1 y2 => ?_, fun v1 y1 y2 => ?_⟩
  · rw [lo _ (by omega) (by omega) (by omega) (by omega) (by omega) (by omega) (by omega), p_nC]; exact h0
  · rw [p_nP, lc]
  · rw [lo _ (by omega) (by omega) (by omega) (by omega) (by omega) (by omega) (by omega), p_nV]; exact h2
  · rw [lo _ (by omega) (by omega) (by omega) (by omega) (by omega) (by omega) (by omega), p_nF]; exact h3
  · rw [p_nC] at hc1
    rw [p_vol, p_dec]
    refine ⟨?_, ?_⟩
    · rw [lo _ (by omega) (by omega) (by omega) (by omega) (by omega) (by omega) (by omega)]; exact (hc c1 (by omega)).1
    · rw [lo _ (by omega) (by omega) (by omega) (by omega) (by omega) (by omega) (by omega)]; exact (hc c1 (by omega)).2
  · rw [p_nP] at hp1
    rw [p_pC, p_pE, p_pS, p_pL, p_pH, p_pB]
    by_cases he : p1 = AS_nP a
    · subst he
      simp only [setN_self]
      exact ⟨l0, l1, l2, l3, l4, l5⟩
    · simp only [setN_ne _ _ he]
      refine ⟨?_, ?_, ?_, ?_, ?_, ?_⟩
      · rw [lo _ (by omega) (by omega) (by omega) (by omega) (by omega) (by omega) (by omega)]; exact (hp p1 (by omega)).1
      · rw [lo _ (by omega) (by omega) (by omega) (by omega) (by omega) (by omega) (by omega)]; exact (hp p1 (by omega)).2.1
      · rw [lo _ (by omega) (by omega) (by omega) (by omega) (by omega) (by omega) (by omega)]; exact (hp p1 (by omega)).2.2.1
      · rw [lo _ (by omega) (by omega) (by omega) (by omega) (by omega) (by omega) (by omega)]; exact (hp p1 (by omega)).2.2.2.1
      · rw [lo _ (by omega) (by omega) (by omega) (by omega) (by omega) (by omega) (by omega)]; exact (hp p1 (by omega)).2.2.2.2.1
      · rw [lo _ (by omega) (by omega) (by omega) (by omega) (by omega) (by omega) (by omega)]; exact (hp p1 (by omega)).2.2.2.2.2
  · rw [p_nV] at hv1
    rw [p_vA, p_vB, p_vG]
    refine ⟨?_, ?_, ?_⟩
    · rw [lo _ (by omega) (by omega) (by omega) (by omega) (by omega) (by omega) (by omega)]; exact (hv v1 (by omega)).1
    · rw [lo _ (by omega) (by omega) (by omega) (by omega) (by omega) (by omega) (by omega)]; exact (hv v1 (by omega)).2.1
    · rw [lo _ (by omega) (by omega) (by omega) (by omega) (by omega) (by omega) (by omega)]; exact (hv v1 (by omega)).2.2
  · rw [p_nF] at hf1
    rw [p_fH]
    rw [lo _ (by omega) (by omega) (by omega) (by omega) (by omega) (by omega) (by omega)]; exact hf f1 (by omega)
  · rw [lo _ (by omega) (by omega) (by omega) (by omega) (by omega) (by omega) (by omega)]; exact d0
  · rw [lo _ (by omega) (by omega) (by omega) (by omega) (by omega) (by omega) (by omega)]; exact d1
  · rw [lo _ (by omega) (by omega) (by omega) (by omega) (by omega) (by omega) (by omega)]; exact d2
  · rw [lo _ (by omega) (by omega) (by omega) (by omega) (by omega) (by omega) (by omega)]; exact d3
  · rw [p_nC] at hc1
    show w' (8 + 4 * c1 + 1) = i8 (og c1) ∧ w' (8 + 4 * c1 + 3) = i8 (1000000 * AS_vol b c1)
    rw [p_vol]
    rw [lo _ (by omega) (by omega) (by omega) (by omega) (by omega) (by omega) (by omega), lo _ (by omega) (by omega) (by omega) (by omega) (by omega) (by omega) (by omega)]; exact dc c1 hc1
  · rw [p_nP] at hp1
    show w' (40 + 8 * p1 + 6) = 0 ∧ w' (40 + 8 * p1 + 7) = 0
    rw [lo _ (by omega) (by omega) (by omega) (by omega) (by omega) (by omega) (by omega), lo _ (by omega) (by omega) (by omega) (by omega) (by omega) (by omega) (by omega)]
    by_cases he : p1 = AS_nP a
    · exact zp p1 (by omega) (by omega)
    · exact dp p1 (by omega)
  · rw [p_nV] at hv1
    show w' (88 + 6 * v1 + 3) = i8 (rl v1) ∧ w' (88 + 6 * v1 + 4) = 0 ∧ w' (88 + 6 * v1 + 5) = 0
    rw [lo _ (by omega) (by omega) (by omega) (by omega) (by omega) (by omega) (by omega), lo _ (by omega) (by omega) (by omega) (by omega) (by omega) (by omega) (by omega), lo _ (by omega) (by omega) (by omega) (by omega) (by omega) (by omega) (by omega)]; exact dv v1 hv1
  · rw [p_nF] at hf1
    rw [lo _ (by omega) (by omega) (by omega) (by omega) (by omega) (by omega) (by omega)]; exact df f1 hf1
  · exact absurd hg (Nat.not_lt_zero g)
  · rw [p_nP] at y1
    rw [lo _ (by omega) (by omega) (by omega) (by omega) (by omega) (by omega) (by omega), lo _ (by omega) (by omega) (by omega) (by omega) (by omega) (by omega) (by omega)]; exact zp p1 (by omega) y2
  · rw [p_nV] at y1
    rw [lo _ (by omega) (by omega) (by omega) (by omega) (by omega) (by omega) (by omega), lo _ (by omega) (by omega) (by omega) (by omega) (by omega) (by omega) (by omega)]; exact zv v1 (by omega) y2
def aC (a : AS) (v z : Nat) : AS := AS_set_nC (AS_set_dec (AS_set_vol (a) (setN (AS_vol a) (AS_nC a) v)) (setN (AS_dec a) (AS_nC a) z)) (AS_nC a + 1)
theorem aC_nC (a : AS) (v z : Nat) : AS_nC (aC a v z) = AS_nC a + 1 := by unfold aC; rw [AS_nC_set_nC]
theorem aC_nP (a : AS) (v z : Nat) : AS_nP (aC a v z) = AS_nP a := by unfold aC; rw [AS_nP_set_nC, AS_nP_set_dec, AS_nP_set_vol]
theorem aC_nV (a : AS) (v z : Nat) : AS_nV (aC a v z) = AS_nV a := by unfold aC; rw [AS_nV_set_nC, AS_nV_set_dec, AS_nV_set_vol]
theorem aC_nF (a : AS) (v z : Nat) : AS_nF (aC a v z) = AS_nF a := by unfold aC; rw [AS_nF_set_nC, AS_nF_set_dec, AS_nF_set_vol]
theorem aC_vol (a : AS) (v z : Nat) : AS_vol (aC a v z) = setN (AS_vol a) (AS_nC a) v := by unfold aC; rw [AS_vol_set_nC, AS_vol_set_dec, AS_vol_set_vol]
theorem aC_dec (a : AS) (v z : Nat) : AS_dec (aC a v z) = setN (AS_dec a) (AS_nC a) z := by unfold aC; rw [AS_dec_set_nC, AS_dec_set_dec]
theorem aC_pC (a : AS) (v z : Nat) : AS_pC (aC a v z) = AS_pC a := by unfold aC; rw [AS_pC_set_nC, AS_pC_set_dec, AS_pC_set_vol]
theorem aC_pE (a : AS) (v z : Nat) : AS_pE (aC a v z) = AS_pE a := by unfold aC; rw [AS_pE_set_nC, AS_pE_set_dec, AS_pE_set_vol]
theorem aC_pS (a : AS) (v z : Nat) : AS_pS (aC a v z) = AS_pS a := by unfold aC; rw [AS_pS_set_nC, AS_pS_set_dec, AS_pS_set_vol]
theorem aC_pL (a : AS) (v z : Nat) : AS_pL (aC a v z) = AS_pL a := by unfold aC; rw [AS_pL_set_nC, AS_pL_set_dec, AS_pL_set_vol]
theorem aC_pH (a : AS) (v z : Nat) : AS_pH (aC a v z) = AS_pH a := by unfold aC; rw [AS_pH_set_nC, AS_pH_set_dec, AS_pH_set_vol]
theorem aC_pB (a : AS) (v z : Nat) : AS_pB (aC a v z) = AS_pB a := by unfold aC; rw [AS_pB_set_nC, AS_pB_set_dec, AS_pB_set_vol]
theorem aC_vA (a : AS) (v z : Nat) : AS_vA (aC a v z) = AS_vA a := by unfold aC; rw [AS_vA_set_nC, AS_vA_set_dec, AS_vA_set_vol]
theorem aC_vB (a : AS) (v z : Nat) : AS_vB (aC a v z) = AS_vB a := by unfold aC; rw [AS_vB_set_nC, AS_vB_set_dec, AS_vB_set_vol]
theorem aC_vG (a : AS) (v z : Nat) : AS_vG (aC a v z) = AS_vG a := by unfold aC; rw [AS_vG_set_nC, AS_vG_set_dec, AS_vG_set_vol]
theorem aC_fH (a : AS) (v z : Nat) : AS_fH (aC a v z) = AS_fH a := by unfold aC; rw [AS_fH_set_nC, AS_fH_set_dec, AS_fH_set_vol]
theorem C_addC {a : AS} {og rl lk : Nat → Nat} {ly : LL} (hN : AS_nC a < 8) (hQ : PLC a og rl lk ly) (v q z : Nat) : ∃ ly', f1_addChamber ly (i4 v) (i4 q) (i4 z) = some ly' ∧ PLC (aC a v z) (setN og (AS_nC a) q) rl lk ly' := by
  obtain ⟨⟨⟨h0, h1, h2, h3⟩, hc, hp, hv, hf⟩, g1, g2, g3⟩ := hQ
  obtain ⟨ly', hly⟩ : ∃ m, m = LL_set_chambers (LL_set_decay (LL_set_firstOutgassing (LL_set_volume (ly) (upd (LL_volume ly) (AS_nC a) (i4 v))) (upd (LL_firstOutgassing ly) (AS_nC a) (i4 q))) (upd (LL_decay ly) (AS_nC a) (i4 z))) (i4 (AS_nC a + 1)) := ⟨_, rfl⟩
  obtain ⟨b, hb⟩ : ∃ m, m = aC a v z := ⟨_, rfl⟩
  refine ⟨ly', ?_, ?_⟩
  · rw [hly]
    unfold f1_addChamber
    rw [h0, if_pos (show i4 (AS_nC a) < (8 : Int32) from (i4_lt (b := 8) (by omega) (by omega)).mpr hN), gdi _ (by omega) (by omega), ix4 (by omega), ad1]
  rw [← hb]
  have q_chambers : LL_chambers ly' = i4 (AS_nC a + 1) := by rw [hly, LL_chambers_set_chambers]
  have q_pumps : LL_pumps ly' = LL_pumps ly := by rw [hly, LL_pumps_set_chambers, LL_pumps_set_decay, LL_pumps_set_firstOutgassing, LL_pumps_set_volume]
  have q_valves : LL_valves ly' = LL_valves ly := by rw [hly, LL_valves_set_chambers, LL_valves_set_decay, LL_valves_set_firstOutgassing, LL_valves_set_volume]
  have q_flanges : LL_flanges ly' = LL_flanges ly := by rw [hly, LL_flanges_set_chambers, LL_flanges_set_decay, LL_flanges_set_firstOutgassing, LL_flanges_set_volume]
  have q_volume : LL_volume ly' = upd (LL_volume ly) (AS_nC a) (i4 v) := by rw [hly, LL_volume_set_chambers, LL_volume_set_decay, LL_volume_set_firstOutgassing, LL_volume_set_volume]
  have q_firstOutgassing : LL_firstOutgassing ly' = upd (LL_firstOutgassing ly) (AS_nC a) (i4 q) := by rw [hly, LL_firstOutgassing_set_chambers, LL_firstOutgassing_set_decay, LL_firstOutgassing_set_firstOutgassing]
  have q_decay : LL_decay ly' = upd (LL_decay ly) (AS_nC a) (i4 z) := by rw [hly, LL_decay_set_chambers, LL_decay_set_decay]
  have q_pumpChamber : LL_pumpChamber ly' = LL_pumpChamber ly := by rw [hly, LL_pumpChamber_set_chambers, LL_pumpChamber_set_decay, LL_pumpChamber_set_firstOutgassing, LL_pumpChamber_set_volume]
  have q_exhaust : LL_exhaust ly' = LL_exhaust ly := by rw [hly, LL_exhaust_set_chambers, LL_exhaust_set_decay, LL_exhaust_set_firstOutgassing, LL_exhaust_set_volume]
  have q_speed : LL_speed ly' = LL_speed ly := by rw [hly, LL_speed_set_chambers, LL_speed_set_decay, LL_speed_set_firstOutgassing, LL_speed_set_volume]
  have q_low : LL_low ly' = LL_low ly := by rw [hly, LL_low_set_chambers, LL_low_set_decay, LL_low_set_firstOutgassing, LL_low_set_volume]
  have q_high : LL_high ly' = LL_high ly := by rw [hly, LL_high_set_chambers, LL_high_set_decay, LL_high_set_firstOutgassing, LL_high_set_volume]
  have q_backing : LL_backing ly' = LL_backing ly := by rw [hly, LL_backing_set_chambers, LL_backing_set_decay, LL_backing_set_firstOutgassing, LL_backing_set_volume]
  have q_valveChamber : LL_valveChamber ly' = LL_valveChamber ly := by rw [hly, LL_valveChamber_set_chambers, LL_valveChamber_set_decay, LL_valveChamber_set_firstOutgassing, LL_valveChamber_set_volume]
  have q_otherSide : LL_otherSide ly' = LL_otherSide ly := by rw [hly, LL_otherSide_set_chambers, LL_otherSide_set_decay, LL_otherSide_set_firstOutgassing, LL_otherSide_set_volume]
  have q_conductance : LL_conductance ly' = LL_conductance ly := by rw [hly, LL_conductance_set_chambers, LL_conductance_set_decay, LL_conductance_set_firstOutgassing, LL_conductance_set_volume]
  have q_firstRule : LL_firstRule ly' = LL_firstRule ly := by rw [hly, LL_firstRule_set_chambers, LL_firstRule_set_decay, LL_firstRule_set_firstOutgassing, LL_firstRule_set_volume]
  have q_flangeChamber : LL_flangeChamber ly' = LL_flangeChamber ly := by rw [hly, LL_flangeChamber_set_chambers, LL_flangeChamber_set_decay, LL_flangeChamber_set_firstOutgassing, LL_flangeChamber_set_volume]
  have q_firstLeak : LL_firstLeak ly' = LL_firstLeak ly := by rw [hly, LL_firstLeak_set_chambers, LL_firstLeak_set_decay, LL_firstLeak_set_firstOutgassing, LL_firstLeak_set_volume]
  have p_nC : AS_nC b = AS_nC a + 1 := by rw [hb, aC_nC]
  have p_nP : AS_nP b = AS_nP a := by rw [hb, aC_nP]
  have p_nV : AS_nV b = AS_nV a := by rw [hb, aC_nV]
  have p_nF : AS_nF b = AS_nF a := by rw [hb, aC_nF]
  have p_vol : AS_vol b = setN (AS_vol a) (AS_nC a) v := by rw [hb, aC_vol]
  have p_dec : AS_dec b = setN (AS_dec a) (AS_nC a) z := by rw [hb, aC_dec]
  have p_pC : AS_pC b = AS_pC a := by rw [hb, aC_pC]
  have p_pE : AS_pE b = AS_pE a := by rw [hb, aC_pE]
  have p_pS : AS_pS b = AS_pS a := by rw [hb, aC_pS]
  have p_pL : AS_pL b = AS_pL a := by rw [hb, aC_pL]
  have p_pH : AS_pH b = AS_pH a := by rw [hb, aC_pH]
  have p_pB : AS_pB b = AS_pB a := by rw [hb, aC_pB]
  have p_vA : AS_vA b = AS_vA a := by rw [hb, aC_vA]
  have p_vB : AS_vB b = AS_vB a := by rw [hb, aC_vB]
  have p_vG : AS_vG b = AS_vG a := by rw [hb, aC_vG]
  have p_fH : AS_fH b = AS_fH a := by rw [hb, aC_fH]
  clear hly hb
  refine ⟨⟨⟨?_, ?_, ?_, ?_⟩, fun c1 hc1 => ?_, fun p1 hp1 => ?_, fun v1 hv1 => ?_, fun f1 hf1 => ?_⟩, fun c1 hc1 => ?_, fun v1 hv1 => ?_, fun f1 hf1 => ?_⟩
  · rw [q_chambers, p_nC]
  · rw [q_pumps, p_nP]; exact h1
  · rw [q_valves, p_nV]; exact h2
  · rw [q_flanges, p_nF]; exact h3
  · rw [p_nC] at hc1
    rw [q_volume, q_decay, p_vol, p_dec]
    by_cases he : c1 = AS_nC a
    · rw [he]
      simp [upd_self, setN_self]
    · simp only [upd_ne _ _ he, setN_ne _ _ he]
      exact hc c1 (by omega)
  · rw [p_nP] at hp1
    rw [q_pumpChamber, q_exhaust, q_speed, q_low, q_high, q_backing, p_pC, p_pE, p_pS, p_pL, p_pH, p_pB]
    exact hp p1 hp1
  · rw [p_nV] at hv1
    rw [q_valveChamber, q_otherSide, q_conductance, p_vA, p_vB, p_vG]
    exact hv v1 hv1
  · rw [p_nF] at hf1
    rw [q_flangeChamber, p_fH]
    exact hf f1 hf1
  · rw [p_nC] at hc1
    rw [q_firstOutgassing]
    by_cases he : c1 = AS_nC a
    · rw [he, upd_self, setN_self]
    · rw [upd_ne _ _ he, setN_ne _ _ he]; exact g1 c1 (by omega)
  · rw [p_nV] at hv1
    rw [q_firstRule]
    exact g2 v1 hv1
  · rw [p_nF] at hf1
    rw [q_firstLeak]
    exact g3 f1 hf1
theorem W_addC {a : AS} {og rl lk : Nat → Nat} (hN : AS_nC a < 8) (hQ : PLW a og rl lk) {v q z : Nat} (hv : 1 ≤ v ∧ v ≤ 999) (hq : q ≤ 9999) (hz : z ≤ 999) : PLW (aC a v z) (setN og (AS_nC a) q) rl lk := by
  obtain ⟨⟨⟨n1, n2, n3, n4⟩, w1, w2, w3, w4⟩, g1, g2, g3⟩ := hQ
  obtain ⟨b, hb⟩ : ∃ m, m = aC a v z := ⟨_, rfl⟩
  rw [← hb]
  have p_nC : AS_nC b = AS_nC a + 1 := by rw [hb, aC_nC]
  have p_nP : AS_nP b = AS_nP a := by rw [hb, aC_nP]
  have p_nV : AS_nV b = AS_nV a := by rw [hb, aC_nV]
  have p_nF : AS_nF b = AS_nF a := by rw [hb, aC_nF]
  have p_vol : AS_vol b = setN (AS_vol a) (AS_nC a) v := by rw [hb, aC_vol]
  have p_dec : AS_dec b = setN (AS_dec a) (AS_nC a) z := by rw [hb, aC_dec]
  have p_pC : AS_pC b = AS_pC a := by rw [hb, aC_pC]
  have p_pE : AS_pE b = AS_pE a := by rw [hb, aC_pE]
  have p_pS : AS_pS b = AS_pS a := by rw [hb, aC_pS]
  have p_pL : AS_pL b = AS_pL a := by rw [hb, aC_pL]
  have p_pH : AS_pH b = AS_pH a := by rw [hb, aC_pH]
  have p_pB : AS_pB b = AS_pB a := by rw [hb, aC_pB]
  have p_vA : AS_vA b = AS_vA a := by rw [hb, aC_vA]
  have p_vB : AS_vB b = AS_vB a := by rw [hb, aC_vB]
  have p_vG : AS_vG b = AS_vG a := by rw [hb, aC_vG]
  have p_fH : AS_fH b = AS_fH a := by rw [hb, aC_fH]
  clear hb
  refine ⟨⟨⟨?_, ?_, ?_, ?_⟩, fun c1 hc1 => ?_, fun p1 hp1 => ?_, fun v1 hv1 => ?_, fun f1 hf1 => ?_⟩, fun c1 hc1 => ?_, fun v1 hv1 => ?_, fun f1 hf1 => ?_⟩
  · rw [p_nC]; omega
  · rw [p_nP]; omega
  · rw [p_nV]; omega
  · rw [p_nF]; omega
  · rw [p_nC] at hc1
    rw [p_vol, p_dec]
    by_cases he : c1 = AS_nC a
    · simp only [he, setN_self]
      exact ⟨hv.1, hv.2, hz⟩
    · simp only [setN_ne _ _ he]
      exact w1 c1 (by omega)
  · rw [p_nP] at hp1
    rw [p_pC, p_pE, p_pS, p_pL, p_pH, p_pB, p_nC]
    have := w2 p1 hp1
    omega
  · rw [p_nV] at hv1
    rw [p_vA, p_vB, p_vG, p_nC]
    have := w3 v1 hv1
    omega
  · rw [p_nF] at hf1
    rw [p_fH, p_nC]
    have := w4 f1 hf1
    omega
  · rw [p_nC] at hc1
    by_cases he : c1 = AS_nC a
    · rw [he, setN_self]; exact hq
    · rw [setN_ne _ _ he]; exact g1 c1 (by omega)
  · rw [p_nV] at hv1
    exact g2 v1 hv1
  · rw [p_nF] at hf1
    exact g3 f1 hf1
theorem M_addC {a : AS} {og rl lk : Nat → Nat} {w : Nat → Int64} (hN : AS_nC a < 8) (hW : PLW a og rl lk) (hQ : PLM a og rl lk w) (v q z : Nat) : PLM (aC a v z) (setN og (AS_nC a) q) rl lk (vp_updL (vp_updL (vp_updL (vp_updL (vp_updL (w) (8 + 4 * AS_nC a) (i8 v)) (8 + 4 * AS_nC a + 1) (i8 q)) (8 + 4 * AS_nC a + 2) (i8 z)) (8 + 4 * AS_nC a + 3) (i8 (1000000 * v))) 0 (i8 (AS_nC a + 1))) := by
  obtain ⟨n1, n2, n3, n4⟩ := hW.1.1
  obtain ⟨⟨⟨h0, h1, h2, h3⟩, hc, hp, hv, hf⟩, ⟨⟨d0, d1, d2, d3⟩, dc, dp, dv, df, dg⟩, zp, zv⟩ := hQ
  obtain ⟨w', hw'⟩ : ∃ m, m = vp_updL (vp_updL (vp_updL (vp_updL (vp_updL (w) (8 + 4 * AS_nC a) (i8 v)) (8 + 4 * AS_nC a + 1) (i8 q)) (8 + 4 * AS_nC a + 2) (i8 z)) (8 + 4 * AS_nC a + 3) (i8 (1000000 * v))) 0 (i8 (AS_nC a + 1)) := ⟨_, rfl⟩
  obtain ⟨b, hb⟩ : ∃ m, m = aC a v z := ⟨_, rfl⟩
  rw [← hb, ← hw']
  have lo : ∀ q, q ≠ 0 → q ≠ 8 + 4 * AS_nC a → q ≠ 8 + 4 * AS_nC a + 1 → q ≠ 8 + 4 * AS_nC a + 2 → q ≠ 8 + 4 * AS_nC a + 3 → w' q = w q := fun q kk k0 k1 k2 k3 => by rw [hw', updL_ne _ _ kk, updL_ne _ _ k3, updL_ne _ _ k2, updL_ne _ _ k1, updL_ne _ _ k0]
  have lc : w' 0 = i8 (AS_nC a + 1) := by rw [hw', updL_self]
  have l0 : w' (8 + 4 * AS_nC a) = i8 v := by rw [hw', updL_ne _ _ (by omega), updL_ne _ _ (by omega), updL_ne _ _ (by omega), updL_ne _ _ (by omega), updL_self]
  have l1 : w' (8 + 4 * AS_nC a + 1) = i8 q := by rw [hw', updL_ne _ _ (by omega), updL_ne _ _ (by omega), updL_ne _ _ (by omega), updL_self]
  have l2 : w' (8 + 4 * AS_nC a + 2) = i8 z := by rw [hw', updL_ne _ _ (by omega), updL_ne _ _ (by omega), updL_self]
  have l3 : w' (8 + 4 * AS_nC a + 3) = i8 (1000000 * v) := by rw [hw', updL_ne _ _ (by omega), updL_self]
  have p_nC : AS_nC b = AS_nC a + 1 := by rw [hb, aC_nC]
  have p_nP : AS_nP b = AS_nP a := by rw [hb, aC_nP]
  have p_nV : AS_nV b = AS_nV a := by rw [hb, aC_nV]
  have p_nF : AS_nF b = AS_nF a := by rw [hb, aC_nF]
  have p_vol : AS_vol b = setN (AS_vol a) (AS_nC a) v := by rw [hb, aC_vol]
  have p_dec : AS_dec b = setN (AS_dec a) (AS_nC a) z := by rw [hb, aC_dec]
  have p_pC : AS_pC b = AS_pC a := by rw [hb, aC_pC]
  have p_pE : AS_pE b = AS_pE a := by rw [hb, aC_pE]
  have p_pS : AS_pS b = AS_pS a := by rw [hb, aC_pS]
  have p_pL : AS_pL b = AS_pL a := by rw [hb, aC_pL]
  have p_pH : AS_pH b = AS_pH a := by rw [hb, aC_pH]
  have p_pB : AS_pB b = AS_pB a := by rw [hb, aC_pB]
  have p_vA : AS_vA b = AS_vA a := by rw [hb, aC_vA]
  have p_vB : AS_vB b = AS_vB a := by rw [hb, aC_vB]
  have p_vG : AS_vG b = AS_vG a := by rw [hb, aC_vG]
  have p_fH : AS_fH b = AS_fH a := by rw [hb, aC_fH]
  clear hb hw'
  refine ⟨⟨⟨?_, ?_, ?_, ?_⟩, fun c1 hc1 => ?_, fun p1 hp1 => ?_, fun v1 hv1 => ?_, fun f1 hf1 => ?_⟩, ⟨⟨?_, ?_, ?_, ?_⟩, fun c1 hc1 => ?_, fun p1 hp1 => ?_, fun v1 hv1 => ?_, fun f1 hf1 => ?_, fun g j hg hj => ?_⟩, fun p1 y1 y2 => ?_, fun v1 y1 y2 => ?_⟩
  · rw [p_nC, lc]
  · rw [lo _ (by omega) (by omega) (by omega) (by omega) (by omega), p_nP]; exact h1
  · rw [lo _ (by omega) (by omega) (by omega) (by omega) (by omega), p_nV]; exact h2
  · rw [lo _ (by omega) (by omega) (by omega) (by omega) (by omega), p_nF]; exact h3
  · rw [p_nC] at hc1
    rw [p_vol, p_dec]
    by_cases he : c1 = AS_nC a
    · subst he
      simp only [setN_self]
      exact ⟨l0, l2⟩
    · simp only [setN_ne _ _ he]
      refine ⟨?_, ?_⟩
      · rw [lo _ (by omega) (by omega) (by omega) (by omega) (by omega)]; exact (hc c1 (by omega)).1
      · rw [lo _ (by omega) (by omega) (by omega) (by omega) (by omega)]; exact (hc c1 (by omega)).2
  · rw [p_nP] at hp1
    rw [p_pC, p_pE, p_pS, p_pL, p_pH, p_pB]
    refine ⟨?_, ?_, ?_, ?_, ?_, ?_⟩
    · rw [lo _ (by omega) (by omega) (by omega) (by omega) (by omega)]; exact (hp p1 (by omega)).1
    · rw [lo _ (by omega) (by omega) (by omega) (by omega) (by omega)]; exact (hp p1 (by omega)).2.1
    · rw [lo _ (by omega) (by omega) (by omega) (by omega) (by omega)]; exact (hp p1 (by omega)).2.2.1
    · rw [lo _ (by omega) (by omega) (by omega) (by omega) (by omega)]; exact (hp p1 (by omega)).2.2.2.1
    · rw [lo _ (by omega) (by omega) (by omega) (by omega) (by omega)]; exact (hp p1 (by omega)).2.2.2.2.1
    · rw [lo _ (by omega) (by omega) (by omega) (by omega) (by omega)]; exact (hp p1 (by omega)).2.2.2.2.2
  · rw [p_nV] at hv1
    rw [p_vA, p_vB, p_vG]
    refine ⟨?_, ?_, ?_⟩
    · rw [lo _ (by omega) (by omega) (by omega) (by omega) (by omega)]; exact (hv v1 (by omega)).1
    · rw [lo _ (by omega) (by omega) (by omega) (by omega) (by omega)]; exact (hv v1 (by omega)).2.1
    · rw [lo _ (by omega) (by omega) (by omega) (by omega) (by omega)]; exact (hv v1 (by omega)).2.2
  · rw [p_nF] at hf1
    rw [p_fH]
    rw [lo _ (by omega) (by omega) (by omega) (by omega) (by omega)]; exact hf f1 (by omega)
  · rw [lo _ (by omega) (by omega) (by omega) (by omega) (by omega)]; exact d0
  · rw [lo _ (by omega) (by omega) (by omega) (by omega) (by omega)]; exact d1
  · rw [lo _ (by omega) (by omega) (by omega) (by omega) (by omega)]; exact d2
  · rw [lo _ (by omega) (by omega) (by omega) (by omega) (by omega)]; exact d3
  · rw [p_nC] at hc1
    show w' (8 + 4 * c1 + 1) = i8 ((setN og (AS_nC a) q) c1) ∧ w' (8 + 4 * c1 + 3) = i8 (1000000 * AS_vol b c1)
    rw [p_vol]
    by_cases he : c1 = AS_nC a
    · subst he
      simp only [setN_self]
      exact ⟨l1, l3⟩
    · simp only [setN_ne _ _ he]
      rw [lo _ (by omega) (by omega) (by omega) (by omega) (by omega), lo _ (by omega) (by omega) (by omega) (by omega) (by omega)]; exact dc c1 (by omega)
  · rw [p_nP] at hp1
    show w' (40 + 8 * p1 + 6) = 0 ∧ w' (40 + 8 * p1 + 7) = 0
    rw [lo _ (by omega) (by omega) (by omega) (by omega) (by omega), lo _ (by omega) (by omega) (by omega) (by omega) (by omega)]; exact dp p1 hp1
  · rw [p_nV] at hv1
    show w' (88 + 6 * v1 + 3) = i8 (rl v1) ∧ w' (88 + 6 * v1 + 4) = 0 ∧ w' (88 + 6 * v1 + 5) = 0
    rw [lo _ (by omega) (by omega) (by omega) (by omega) (by omega), lo _ (by omega) (by omega) (by omega) (by omega) (by omega), lo _ (by omega) (by omega) (by omega) (by omega) (by omega)]; exact dv v1 hv1
  · rw [p_nF] at hf1
    rw [lo _ (by omega) (by omega) (by omega) (by omega) (by omega)]; exact df f1 hf1
  · exact absurd hg (Nat.not_lt_zero g)
  · rw [p_nP] at y1
    rw [lo _ (by omega) (by omega) (by omega) (by omega) (by omega), lo _ (by omega) (by omega) (by omega) (by omega) (by omega)]; exact zp p1 (by omega) y2
  · rw [p_nV] at y1
    rw [lo _ (by omega) (by omega) (by omega) (by omega) (by omega), lo _ (by omega) (by omega) (by omega) (by omega) (by omega)]; exact zv v1 (by omega) y2
