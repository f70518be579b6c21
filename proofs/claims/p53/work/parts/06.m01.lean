/-! the methods do it -/
set_option maxRecDepth 100000 in
set_option maxHeartbeats 4000000 in
theorem K5_addGas {k : KT} {T : TT} {R : RR} {ly : Fin 2 → LL} {rc : RC} {hn : HN} {rp : RP} {tp : TP} {ee : EE} {st : Fin 12 → SS} {j : Fin 12} {S : SS} {x1 : Int32} {x2 : Int64} {r : (SS)} (hf : f5_addGas (ly (0 : Fin 2)) S x1 x2 = some r) : CT k strs yX5_addGas cX5_addGas 5 none (rmD 0 0 0) 0 0 [.ref (k.b + (45 + 12 * j.val)), .int x1, .long x2] (wAll k T R ly rc hn rp tp ee (updF st j S)) (none) (wAll k T R ly rc hn rp tp ee (updF st j r)) := by
  refine CT.of (by decide) (Nat.le_of_ble_eq_true rfl) ?_
  intro z X hQ
  show VW k z 0 0 (wAll k T R ly rc hn rp tp ee (updF st j S)) 0 [some (.ref (k.b + (45 + 12 * j.val))), some (.int x1), some (.long x2), none, none] []
  unfold f5_addGas at hf
  refine r_iload_n X (x := x1) dX5_addGas_0 rfl ?_
  refine r_bipush X (v := 8) dX5_addGas_1 rfl ?_
  refine r_icmp_ne X 7 dX5_addGas_3 rfl (fun c3 => ?_) (fun c3 => ?_)
  · replace hf := ifF hf c3
    refine r_aload_n X (x := k.b + (45 + 12 * j.val)) dX5_addGas_7 rfl ?_
    refine r_getfield X (v := .ref (k.b + (45 + 12 * j.val + 1))) clsX5 flX5_21 (Nat.le_of_ble_eq_true rfl) _ (o_st1 j _) rfl dX5_addGas_8 ?_
    refine r_iload_n X (x := x1) dX5_addGas_11 rfl ?_
    refine r_dup2 X dX5_addGas_12 rfl rfl ?_
    obtain ⟨g13, hf⟩ := gdS hf
    refine r_laload X (f := SS_gas S) _ (a_st1_gas j _) g13 dX5_addGas_13 ?_
    refine r_lload_n X (x := x2) dX5_addGas_14 rfl ?_
    refine r_ladd X dX5_addGas_15 ?_
    refine r_lastore X (f := SS_gas S) (ws1 := wAll k T R ly rc hn rp tp ee (updF st j (SS_set_gas S (vp_updL (SS_gas S) (ix x1) (((SS_gas S) (ix x1)) + x2))))) _ (a_st1_gas j _) g13 (s_st_gas j S (vp_updL (SS_gas S) (ix x1) (((SS_gas S) (ix x1)) + x2))) dX5_addGas_16 ?_
    refine r_aload_n X (x := k.b + (45 + 12 * j.val)) dX5_addGas_17 rfl ?_
    refine r_getfield X (v := .ref (k.b + (4 + 17 * (0 : Fin 2).val))) clsX5 flX5_54 (Nat.le_of_ble_eq_true rfl) _ (o_st1 j _) rfl dX5_addGas_18 ?_
    refine r_getfield X (v := .ref (k.b + (4 + 17 * (0 : Fin 2).val + 1))) clsX1 flX5_67 (Nat.le_of_ble_eq_true rfl) _ (o_lay (0 : Fin 2)) rfl dX5_addGas_21 ?_
    refine r_iload_n X (x := x1) dX5_addGas_24 rfl ?_
    refine r_iaload X (f := LL_volume (ly (0 : Fin 2))) _ (a_lay_volume (0 : Fin 2)) g13 dX5_addGas_25 ?_
    refine r_istore X [some (.ref (k.b + (45 + 12 * j.val))), some (.int x1), some (.long x2), none, some (.int ((LL_volume (ly (0 : Fin 2))) (ix x1)))] dX5_addGas_26 (Nat.le_of_ble_eq_true rfl) rfl ?_
    refine r_aload_n X (x := k.b + (45 + 12 * j.val)) dX5_addGas_28 rfl ?_
    refine r_getfield X (v := .ref (k.b + (45 + 12 * j.val + 2))) clsX5 flX5_25 (Nat.le_of_ble_eq_true rfl) _ (o_st1 j _) rfl dX5_addGas_29 ?_
    refine r_iload_n X (x := x1) dX5_addGas_32 rfl ?_
    refine r_iload X (x := (LL_volume (ly (0 : Fin 2))) (ix x1)) dX5_addGas_33 rfl ?_
    refine r_if_le X 52 dX5_addGas_35 rfl (fun c35 => ?_) (fun c35 => ?_)
    · replace hf := ifT hf c35
      refine r_iconst X (v := 0) dX5_addGas_52 rfl ?_
      obtain ⟨g53, hf⟩ := gdS hf
      refine r_iastore X (f := SS_pressure S) (ws1 := wAll k T R ly rc hn rp tp ee (updF st j (SS_set_pressure (SS_set_gas S (vp_updL (SS_gas S) (ix x1) (((SS_gas S) (ix x1)) + x2))) (upd (SS_pressure S) (ix x1) 0)))) _ (heI (a_st1_pressure j _) (SS_pressure_set_gas _ _)) g53 (s_st_pressure j (SS_set_gas S (vp_updL (SS_gas S) (ix x1) (((SS_gas S) (ix x1)) + x2))) (upd (SS_pressure S) (ix x1) 0)) dX5_addGas_53 ?_
      obtain rfl := Option.some.inj hf
      exact r_return X hQ rfl rfl (Nat.le_of_ble_eq_true rfl) (Nat.le_of_ble_eq_true rfl) dX5_addGas_54
    · replace hf := ifF hf c35
      refine r_aload_n X (x := k.b + (45 + 12 * j.val)) dX5_addGas_38 rfl ?_
      refine r_getfield X (v := .ref (k.b + (45 + 12 * j.val + 1))) clsX5 flX5_21 (Nat.le_of_ble_eq_true rfl) _ (o_st1 j _) rfl dX5_addGas_39 ?_
      refine r_iload_n X (x := x1) dX5_addGas_42 rfl ?_
      refine r_laload X (f := vp_updL (SS_gas S) (ix x1) (((SS_gas S) (ix x1)) + x2)) _ (heL (a_st1_gas j _) (SS_gas_set_gas _ _)) g13 dX5_addGas_43 ?_
      refine r_iload X (x := (LL_volume (ly (0 : Fin 2))) (ix x1)) dX5_addGas_44 rfl ?_
      refine r_i2l X dX5_addGas_46 ?_
      obtain ⟨g47z, hf⟩ := gdS hf
      refine r_ldiv X dX5_addGas_47 g47z ?_
      refine r_l2i X dX5_addGas_48 ?_
      refine r_goto X 53 dX5_addGas_49 rfl ?_
      obtain ⟨g53, hf⟩ := gdS hf
      refine r_iastore X (f := SS_pressure S) (ws1 := wAll k T R ly rc hn rp tp ee (updF st j (SS_set_pressure (SS_set_gas S (vp_updL (SS_gas S) (ix x1) (((SS_gas S) (ix x1)) + x2))) (upd (SS_pressure S) (ix x1) ((((vp_updL (SS_gas S) (ix x1) (((SS_gas S) (ix x1)) + x2)) (ix x1)) / (((LL_volume (ly (0 : Fin 2))) (ix x1)).toInt64)).toInt32))))) _ (heI (a_st1_pressure j _) (SS_pressure_set_gas _ _)) g53 (s_st_pressure j (SS_set_gas S (vp_updL (SS_gas S) (ix x1) (((SS_gas S) (ix x1)) + x2))) (upd (SS_pressure S) (ix x1) ((((vp_updL (SS_gas S) (ix x1) (((SS_gas S) (ix x1)) + x2)) (ix x1)) / (((LL_volume (ly (0 : Fin 2))) (ix x1)).toInt64)).toInt32))) dX5_addGas_53 ?_
      obtain rfl := Option.some.inj hf
      exact r_return X hQ rfl rfl (Nat.le_of_ble_eq_true rfl) (Nat.le_of_ble_eq_true rfl) dX5_addGas_54
  · replace hf := ifT hf c3
    obtain rfl := Option.some.inj hf
    exact r_return X hQ rfl rfl (Nat.le_of_ble_eq_true rfl) (Nat.le_of_ble_eq_true rfl) dX5_addGas_6
set_option maxRecDepth 100000 in
set_option maxHeartbeats 4000000 in
theorem K5_putLeak {k : KT} {T : TT} {R : RR} {ly : Fin 2 → LL} {rc : RC} {hn : HN} {rp : RP} {tp : TP} {ee : EE} {st : Fin 12 → SS} {j : Fin 12} {S : SS} {x1 : Int32} {x2 : Int32} {r : (SS)} (hf : f5_putLeak (ly (0 : Fin 2)) S x1 x2 = some r) : CT k strs yX5_putLeak cX5_putLeak 3 none (rmD 0 0 0) 0 0 [.ref (k.b + (45 + 12 * j.val)), .int x1, .int x2] (wAll k T R ly rc hn rp tp ee (updF st j S)) (none) (wAll k T R ly rc hn rp tp ee (updF st j r)) := by
  refine CT.of (by decide) (Nat.le_of_ble_eq_true rfl) ?_
  intro z X hQ
  show VW k z 0 0 (wAll k T R ly rc hn rp tp ee (updF st j S)) 0 [some (.ref (k.b + (45 + 12 * j.val))), some (.int x1), some (.int x2)] []
  unfold f5_putLeak at hf
  refine r_aload_n X (x := k.b + (45 + 12 * j.val)) dX5_putLeak_0 rfl ?_
  refine r_getfield X (v := .ref (k.b + (45 + 12 * j.val + 4))) clsX5 flX5_32 (Nat.le_of_ble_eq_true rfl) _ (o_st1 j _) rfl dX5_putLeak_1 ?_
  refine r_aload_n X (x := k.b + (45 + 12 * j.val)) dX5_putLeak_4 rfl ?_
  refine r_getfield X (v := .ref (k.b + (4 + 17 * (0 : Fin 2).val))) clsX5 flX5_54 (Nat.le_of_ble_eq_true rfl) _ (o_st1 j _) rfl dX5_putLeak_5 ?_
  refine r_getfield X (v := .ref (k.b + (4 + 17 * (0 : Fin 2).val + 14))) clsX1 flX5_108 (Nat.le_of_ble_eq_true rfl) _ (o_lay (0 : Fin 2)) rfl dX5_putLeak_8 ?_
  refine r_iload_n X (x := x1) dX5_putLeak_11 rfl ?_
  obtain ⟨g12, hf⟩ := gdS hf
  refine r_iaload X (f := LL_flangeChamber (ly (0 : Fin 2))) _ (a_lay_flangeChamber (0 : Fin 2)) g12 dX5_putLeak_12 ?_
  refine r_dup2 X dX5_putLeak_13 rfl rfl ?_
  obtain ⟨g14, hf⟩ := gdS hf
  refine r_iaload X (f := SS_leakSum S) _ (a_st1_leakSum j _) g14 dX5_putLeak_14 ?_
  refine r_iload_n X (x := x2) dX5_putLeak_15 rfl ?_
  refine r_aload_n X (x := k.b + (45 + 12 * j.val)) dX5_putLeak_16 rfl ?_
  refine r_getfield X (v := .ref (k.b + (45 + 12 * j.val + 8))) clsX5 flX5_44 (Nat.le_of_ble_eq_true rfl) _ (o_st1 j _) rfl dX5_putLeak_17 ?_
  refine r_iload_n X (x := x1) dX5_putLeak_20 rfl ?_
  refine r_iaload X (f := SS_leak S) _ (a_st1_leak j _) g12 dX5_putLeak_21 ?_
  refine r_isub X dX5_putLeak_22 ?_
  refine r_iadd X dX5_putLeak_23 ?_
  refine r_iastore X (f := SS_leakSum S) (ws1 := wAll k T R ly rc hn rp tp ee (updF st j (SS_set_leakSum S (upd (SS_leakSum S) (ix ((LL_flangeChamber (ly (0 : Fin 2))) (ix x1))) (((SS_leakSum S) (ix ((LL_flangeChamber (ly (0 : Fin 2))) (ix x1)))) + (x2 - ((SS_leak S) (ix x1)))))))) _ (a_st1_leakSum j _) g14 (s_st_leakSum j S (upd (SS_leakSum S) (ix ((LL_flangeChamber (ly (0 : Fin 2))) (ix x1))) (((SS_leakSum S) (ix ((LL_flangeChamber (ly (0 : Fin 2))) (ix x1)))) + (x2 - ((SS_leak S) (ix x1)))))) dX5_putLeak_24 ?_
  refine r_aload_n X (x := k.b + (45 + 12 * j.val)) dX5_putLeak_25 rfl ?_
  refine r_getfield X (v := .ref (k.b + (45 + 12 * j.val + 8))) clsX5 flX5_44 (Nat.le_of_ble_eq_true rfl) _ (o_st1 j _) rfl dX5_putLeak_26 ?_
  refine r_iload_n X (x := x1) dX5_putLeak_29 rfl ?_
  refine r_iload_n X (x := x2) dX5_putLeak_30 rfl ?_
  refine r_iastore X (f := SS_leak S) (ws1 := wAll k T R ly rc hn rp tp ee (updF st j (SS_set_leak (SS_set_leakSum S (upd (SS_leakSum S) (ix ((LL_flangeChamber (ly (0 : Fin 2))) (ix x1))) (((SS_leakSum S) (ix ((LL_flangeChamber (ly (0 : Fin 2))) (ix x1)))) + (x2 - ((SS_leak S) (ix x1)))))) (upd (SS_leak S) (ix x1) x2)))) _ (heI (a_st1_leak j _) (SS_leak_set_leakSum _ _)) g12 (s_st_leak j (SS_set_leakSum S (upd (SS_leakSum S) (ix ((LL_flangeChamber (ly (0 : Fin 2))) (ix x1))) (((SS_leakSum S) (ix ((LL_flangeChamber (ly (0 : Fin 2))) (ix x1)))) + (x2 - ((SS_leak S) (ix x1)))))) (upd (SS_leak S) (ix x1) x2)) dX5_putLeak_31 ?_
  obtain rfl := Option.some.inj hf
  exact r_return X hQ rfl rfl (Nat.le_of_ble_eq_true rfl) (Nat.le_of_ble_eq_true rfl) dX5_putLeak_32
set_option maxRecDepth 100000 in
set_option maxHeartbeats 4000000 in
theorem B5_reset_B159 {k : KT} {z : ZT} {T : TT} {R : RR} {ly : Fin 2 → LL} {rc : RC} {hn : HN} {rp : RP} {tp : TP} {ee : EE} {st : Fin 12 → SS} {j : Fin 12} {r : (SS)} (X : XX k strs z RX5 cX5_reset 2 none (rmD 1 0 0)) (hQ : zQ z = MQ (zB z) (Qof k (none) (wAll k T R ly rc hn rp tp ee (updF st j r))) (zA z) (zS z) 0 0 (kA k)) : ∀ (fu : Nat) (S : SS) (x1 : Int32), f5_reset_B159 (ly (0 : Fin 2)) fu S x1 = some r → VW k z 0 0 (wAll k T R ly rc hn rp tp ee (updF st j S)) 159 [some (.ref (k.b + (45 + 12 * j.val))), some (.int x1)] [] := by
  intro fu
  induction fu with
  | zero =>
    intro S x1 hf
    rw [f5_reset_B159] at hf
    cases hf
  | succ fu ih =>
    intro S x1 hf
    rw [f5_reset_B159] at hf
    refine r_iload_n X (x := x1) dX5_reset_159 rfl ?_
    refine r_aload_n X (x := k.b + (45 + 12 * j.val)) dX5_reset_160 rfl ?_
    refine r_getfield X (v := .ref (k.b + (4 + 17 * (0 : Fin 2).val))) clsX5 flX5_54 (Nat.le_of_ble_eq_true rfl) _ (o_st1 j _) rfl dX5_reset_161 ?_
    refine r_getfield X (v := .int (LL_flanges (ly (0 : Fin 2)))) clsX1 flX5_88 (Nat.le_of_ble_eq_true rfl) _ (o_lay (0 : Fin 2)) rfl dX5_reset_164 ?_
    refine r_icmp_ge X 197 dX5_reset_167 rfl (fun c167 => ?_) (fun c167 => ?_)
    · replace hf := ifT hf c167
      obtain rfl := Option.some.inj hf
      exact r_return X hQ rfl rfl (Nat.le_of_ble_eq_true rfl) (Nat.le_of_ble_eq_true rfl) dX5_reset_197
    · replace hf := ifF hf c167
      refine r_aload_n X (x := k.b + (45 + 12 * j.val)) dX5_reset_170 rfl ?_
      refine r_getfield X (v := .ref (k.b + (45 + 12 * j.val + 8))) clsX5 flX5_44 (Nat.le_of_ble_eq_true rfl) _ (o_st1 j _) rfl dX5_reset_171 ?_
      refine r_iload_n X (x := x1) dX5_reset_174 rfl ?_
      refine r_iconst X (v := 0) dX5_reset_175 rfl ?_
      obtain ⟨g176, hf⟩ := gdS hf
      refine r_iastore X (f := SS_leak S) (ws1 := wAll k T R ly rc hn rp tp ee (updF st j (SS_set_leak S (upd (SS_leak S) (ix x1) 0)))) _ (a_st1_leak j _) g176 (s_st_leak j S (upd (SS_leak S) (ix x1) 0)) dX5_reset_176 ?_
      refine r_aload_n X (x := k.b + (45 + 12 * j.val)) dX5_reset_177 rfl ?_
      refine r_iload_n X (x := x1) dX5_reset_178 rfl ?_
      refine r_aload_n X (x := k.b + (45 + 12 * j.val)) dX5_reset_179 rfl ?_
      refine r_getfield X (v := .ref (k.b + (4 + 17 * (0 : Fin 2).val))) clsX5 flX5_54 (Nat.le_of_ble_eq_true rfl) _ (o_st1 j _) rfl dX5_reset_180 ?_
      refine r_getfield X (v := .ref (k.b + (4 + 17 * (0 : Fin 2).val + 15))) clsX1 flX5_91 (Nat.le_of_ble_eq_true rfl) _ (o_lay (0 : Fin 2)) rfl dX5_reset_183 ?_
      refine r_iload_n X (x := x1) dX5_reset_186 rfl ?_
      refine r_iaload X (f := LL_firstLeak (ly (0 : Fin 2))) _ (a_lay_firstLeak (0 : Fin 2)) g176 dX5_reset_187 ?_
      obtain ⟨u188, h188, hf⟩ := bdS hf
      refine r_callV0 X [.int x1, .int ((LL_firstLeak (ly (0 : Fin 2))) (ix x1))] [] (K5_putLeak h188) lkX5_94 clsX5 rfl _ (o_st1 j _) (by decide) (Nat.le_of_ble_eq_true rfl) rfl rfl (Nat.le_of_ble_eq_true rfl) rfl rfl (Nat.zero_le _) (Nat.zero_le _) dX5_reset_188 ?_
      refine r_iinc X (x := x1) (v := x1 + 1) [some (.ref (k.b + (45 + 12 * j.val))), some (.int (x1 + 1))] dX5_reset_191 rfl rfl rfl ?_
      refine r_goto X 159 dX5_reset_194 rfl ?_
      exact ih u188 (x1 + 1) hf
set_option maxRecDepth 100000 in
set_option maxHeartbeats 4000000 in
theorem B5_reset_B118 {k : KT} {z : ZT} {T : TT} {R : RR} {ly : Fin 2 → LL} {rc : RC} {hn : HN} {rp : RP} {tp : TP} {ee : EE} {st : Fin 12 → SS} {j : Fin 12} {r : (SS)} (X : XX k strs z RX5 cX5_reset 2 none (rmD 1 0 0)) (hQ : zQ z = MQ (zB z) (Qof k (none) (wAll k T R ly rc hn rp tp ee (updF st j r))) (zA z) (zS z) 0 0 (kA k)) : ∀ (fu : Nat) (S : SS) (x1 : Int32), f5_reset_B118 (ly (0 : Fin 2)) fu S x1 = some r → VW k z 0 0 (wAll k T R ly rc hn rp tp ee (updF st j S)) 118 [some (.ref (k.b + (45 + 12 * j.val))), some (.int x1)] [] := by
  intro fu
  induction fu with
  | zero =>
    intro S x1 hf
    rw [f5_reset_B118] at hf
    cases hf
  | succ fu ih =>
    intro S x1 hf
    rw [f5_reset_B118] at hf
    refine r_iload_n X (x := x1) dX5_reset_118 rfl ?_
    refine r_aload_n X (x := k.b + (45 + 12 * j.val)) dX5_reset_119 rfl ?_
    refine r_getfield X (v := .ref (k.b + (4 + 17 * (0 : Fin 2).val))) clsX5 flX5_54 (Nat.le_of_ble_eq_true rfl) _ (o_st1 j _) rfl dX5_reset_120 ?_
    refine r_getfield X (v := .int (LL_valves (ly (0 : Fin 2)))) clsX1 flX5_82 (Nat.le_of_ble_eq_true rfl) _ (o_lay (0 : Fin 2)) rfl dX5_reset_123 ?_
    refine r_icmp_ge X 157 dX5_reset_126 rfl (fun c126 => ?_) (fun c126 => ?_)
    · replace hf := ifT hf c126
      refine r_iconst X (v := 0) dX5_reset_157 rfl ?_
      refine r_istore_n X [some (.ref (k.b + (45 + 12 * j.val))), some (.int 0)] dX5_reset_158 (Nat.le_of_ble_eq_true rfl) rfl ?_
      exact B5_reset_B159 X hQ FU S 0 hf
    · replace hf := ifF hf c126
      refine r_aload_n X (x := k.b + (45 + 12 * j.val)) dX5_reset_129 rfl ?_
      refine r_getfield X (v := .ref (k.b + (45 + 12 * j.val + 5))) clsX5 flX5_35 (Nat.le_of_ble_eq_true rfl) _ (o_st1 j _) rfl dX5_reset_130 ?_
      refine r_iload_n X (x := x1) dX5_reset_133 rfl ?_
      refine r_aload_n X (x := k.b + (45 + 12 * j.val)) dX5_reset_134 rfl ?_
      refine r_getfield X (v := .ref (k.b + (4 + 17 * (0 : Fin 2).val))) clsX5 flX5_54 (Nat.le_of_ble_eq_true rfl) _ (o_st1 j _) rfl dX5_reset_135 ?_
      refine r_getfield X (v := .ref (k.b + (4 + 17 * (0 : Fin 2).val + 13))) clsX1 flX5_85 (Nat.le_of_ble_eq_true rfl) _ (o_lay (0 : Fin 2)) rfl dX5_reset_138 ?_
      refine r_iload_n X (x := x1) dX5_reset_141 rfl ?_
      obtain ⟨g142, hf⟩ := gdS hf
      refine r_iaload X (f := LL_firstRule (ly (0 : Fin 2))) _ (a_lay_firstRule (0 : Fin 2)) g142 dX5_reset_142 ?_
      refine r_iastore X (f := SS_rule S) (ws1 := wAll k T R ly rc hn rp tp ee (updF st j (SS_set_rule S (upd (SS_rule S) (ix x1) ((LL_firstRule (ly (0 : Fin 2))) (ix x1)))))) _ (a_st1_rule j _) g142 (s_st_rule j S (upd (SS_rule S) (ix x1) ((LL_firstRule (ly (0 : Fin 2))) (ix x1)))) dX5_reset_143 ?_
      refine r_aload_n X (x := k.b + (45 + 12 * j.val)) dX5_reset_144 rfl ?_
      refine r_getfield X (v := .ref (k.b + (45 + 12 * j.val + 6))) clsX5 flX5_38 (Nat.le_of_ble_eq_true rfl) _ (o_st1 j _) rfl dX5_reset_145 ?_
      refine r_iload_n X (x := x1) dX5_reset_148 rfl ?_
      refine r_iconst X (v := 0) dX5_reset_149 rfl ?_
      refine r_iastore X (f := SS_valveTrips S) (ws1 := wAll k T R ly rc hn rp tp ee (updF st j (SS_set_valveTrips (SS_set_rule S (upd (SS_rule S) (ix x1) ((LL_firstRule (ly (0 : Fin 2))) (ix x1)))) (upd (SS_valveTrips S) (ix x1) 0)))) _ (heI (a_st1_valveTrips j _) (SS_valveTrips_set_rule _ _)) g142 (s_st_valveTrips j (SS_set_rule S (upd (SS_rule S) (ix x1) ((LL_firstRule (ly (0 : Fin 2))) (ix x1)))) (upd (SS_valveTrips S) (ix x1) 0)) dX5_reset_150 ?_
      refine r_iinc X (x := x1) (v := x1 + 1) [some (.ref (k.b + (45 + 12 * j.val))), some (.int (x1 + 1))] dX5_reset_151 rfl rfl rfl ?_
      refine r_goto X 118 dX5_reset_154 rfl ?_
      exact ih (SS_set_valveTrips (SS_set_rule S (upd (SS_rule S) (ix x1) ((LL_firstRule (ly (0 : Fin 2))) (ix x1)))) (upd (SS_valveTrips S) (ix x1) 0)) (x1 + 1) hf
set_option maxRecDepth 100000 in
set_option maxHeartbeats 4000000 in
theorem B5_reset_B92 {k : KT} {z : ZT} {T : TT} {R : RR} {ly : Fin 2 → LL} {rc : RC} {hn : HN} {rp : RP} {tp : TP} {ee : EE} {st : Fin 12 → SS} {j : Fin 12} {r : (SS)} (X : XX k strs z RX5 cX5_reset 2 none (rmD 1 0 0)) (hQ : zQ z = MQ (zB z) (Qof k (none) (wAll k T R ly rc hn rp tp ee (updF st j r))) (zA z) (zS z) 0 0 (kA k)) : ∀ (fu : Nat) (S : SS) (x1 : Int32), f5_reset_B92 (ly (0 : Fin 2)) fu S x1 = some r → VW k z 0 0 (wAll k T R ly rc hn rp tp ee (updF st j S)) 92 [some (.ref (k.b + (45 + 12 * j.val))), some (.int x1)] [] := by
  intro fu
  induction fu with
  | zero =>
    intro S x1 hf
    rw [f5_reset_B92] at hf
    cases hf
  | succ fu ih =>
    intro S x1 hf
    rw [f5_reset_B92] at hf
    refine r_iload_n X (x := x1) dX5_reset_92 rfl ?_
    refine r_aload_n X (x := k.b + (45 + 12 * j.val)) dX5_reset_93 rfl ?_
    refine r_getfield X (v := .ref (k.b + (4 + 17 * (0 : Fin 2).val))) clsX5 flX5_54 (Nat.le_of_ble_eq_true rfl) _ (o_st1 j _) rfl dX5_reset_94 ?_
    refine r_getfield X (v := .int (LL_pumps (ly (0 : Fin 2)))) clsX1 flX5_79 (Nat.le_of_ble_eq_true rfl) _ (o_lay (0 : Fin 2)) rfl dX5_reset_97 ?_
    refine r_icmp_ge X 116 dX5_reset_100 rfl (fun c100 => ?_) (fun c100 => ?_)
    · replace hf := ifT hf c100
      refine r_iconst X (v := 0) dX5_reset_116 rfl ?_
      refine r_istore_n X [some (.ref (k.b + (45 + 12 * j.val))), some (.int 0)] dX5_reset_117 (Nat.le_of_ble_eq_true rfl) rfl ?_
      exact B5_reset_B118 X hQ FU S 0 hf
    · replace hf := ifF hf c100
      refine r_aload_n X (x := k.b + (45 + 12 * j.val)) dX5_reset_103 rfl ?_
      refine r_getfield X (v := .ref (k.b + (45 + 12 * j.val + 7))) clsX5 flX5_41 (Nat.le_of_ble_eq_true rfl) _ (o_st1 j _) rfl dX5_reset_104 ?_
      refine r_iload_n X (x := x1) dX5_reset_107 rfl ?_
      refine r_iconst X (v := 0) dX5_reset_108 rfl ?_
      obtain ⟨g109, hf⟩ := gdS hf
      refine r_iastore X (f := SS_pumpTrips S) (ws1 := wAll k T R ly rc hn rp tp ee (updF st j (SS_set_pumpTrips S (upd (SS_pumpTrips S) (ix x1) 0)))) _ (a_st1_pumpTrips j _) g109 (s_st_pumpTrips j S (upd (SS_pumpTrips S) (ix x1) 0)) dX5_reset_109 ?_
      refine r_iinc X (x := x1) (v := x1 + 1) [some (.ref (k.b + (45 + 12 * j.val))), some (.int (x1 + 1))] dX5_reset_110 rfl rfl rfl ?_
      refine r_goto X 92 dX5_reset_113 rfl ?_
      exact ih (SS_set_pumpTrips S (upd (SS_pumpTrips S) (ix x1) 0)) (x1 + 1) hf
set_option maxRecDepth 100000 in
set_option maxHeartbeats 4000000 in
theorem B5_reset_B25 {k : KT} {z : ZT} {T : TT} {R : RR} {ly : Fin 2 → LL} {rc : RC} {hn : HN} {rp : RP} {tp : TP} {ee : EE} {st : Fin 12 → SS} {j : Fin 12} {r : (SS)} (X : XX k strs z RX5 cX5_reset 2 none (rmD 1 0 0)) (hQ : zQ z = MQ (zB z) (Qof k (none) (wAll k T R ly rc hn rp tp ee (updF st j r))) (zA z) (zS z) 0 0 (kA k)) : ∀ (fu : Nat) (S : SS) (x1 : Int32), f5_reset_B25 (ly (0 : Fin 2)) fu S x1 = some r → VW k z 0 0 (wAll k T R ly rc hn rp tp ee (updF st j S)) 25 [some (.ref (k.b + (45 + 12 * j.val))), some (.int x1)] [] := by
  intro fu
  induction fu with
  | zero =>
    intro S x1 hf
    rw [f5_reset_B25] at hf
    cases hf
  | succ fu ih =>
    intro S x1 hf
    rw [f5_reset_B25] at hf
    refine r_iload_n X (x := x1) dX5_reset_25 rfl ?_
    refine r_aload_n X (x := k.b + (45 + 12 * j.val)) dX5_reset_26 rfl ?_
    refine r_getfield X (v := .ref (k.b + (4 + 17 * (0 : Fin 2).val))) clsX5 flX5_54 (Nat.le_of_ble_eq_true rfl) _ (o_st1 j _) rfl dX5_reset_27 ?_
    refine r_getfield X (v := .int (LL_chambers (ly (0 : Fin 2)))) clsX1 flX5_62 (Nat.le_of_ble_eq_true rfl) _ (o_lay (0 : Fin 2)) rfl dX5_reset_30 ?_
    refine r_icmp_ge X 90 dX5_reset_33 rfl (fun c33 => ?_) (fun c33 => ?_)
    · replace hf := ifT hf c33
      refine r_iconst X (v := 0) dX5_reset_90 rfl ?_
      refine r_istore_n X [some (.ref (k.b + (45 + 12 * j.val))), some (.int 0)] dX5_reset_91 (Nat.le_of_ble_eq_true rfl) rfl ?_
      exact B5_reset_B92 X hQ FU S 0 hf
    · replace hf := ifF hf c33
      refine r_aload_n X (x := k.b + (45 + 12 * j.val)) dX5_reset_36 rfl ?_
      refine r_getfield X (v := .ref (k.b + (45 + 12 * j.val + 1))) clsX5 flX5_21 (Nat.le_of_ble_eq_true rfl) _ (o_st1 j _) rfl dX5_reset_37 ?_
      refine r_iload_n X (x := x1) dX5_reset_40 rfl ?_
      refine r_lconst X (v := 0) dX5_reset_41 rfl ?_
      obtain ⟨g42, hf⟩ := gdS hf
      refine r_lastore X (f := SS_gas S) (ws1 := wAll k T R ly rc hn rp tp ee (updF st j (SS_set_gas S (vp_updL (SS_gas S) (ix x1) 0)))) _ (a_st1_gas j _) g42 (s_st_gas j S (vp_updL (SS_gas S) (ix x1) 0)) dX5_reset_42 ?_
      refine r_aload_n X (x := k.b + (45 + 12 * j.val)) dX5_reset_43 rfl ?_
      refine r_iload_n X (x := x1) dX5_reset_44 rfl ?_
      refine r_aload_n X (x := k.b + (45 + 12 * j.val)) dX5_reset_45 rfl ?_
      refine r_getfield X (v := .ref (k.b + (4 + 17 * (0 : Fin 2).val))) clsX5 flX5_54 (Nat.le_of_ble_eq_true rfl) _ (o_st1 j _) rfl dX5_reset_46 ?_
      refine r_getfield X (v := .ref (k.b + (4 + 17 * (0 : Fin 2).val + 1))) clsX1 flX5_67 (Nat.le_of_ble_eq_true rfl) _ (o_lay (0 : Fin 2)) rfl dX5_reset_49 ?_
      refine r_iload_n X (x := x1) dX5_reset_52 rfl ?_
      refine r_iaload X (f := LL_volume (ly (0 : Fin 2))) _ (a_lay_volume (0 : Fin 2)) g42 dX5_reset_53 ?_
      refine r_i2l X dX5_reset_54 ?_
      refine r_ldc2 X (v := 1000000) coX5_70 dX5_reset_55 ?_
      refine r_lmul X dX5_reset_58 ?_
      obtain ⟨u59, h59, hf⟩ := bdS hf
      refine r_callV0 X [.int x1, .long ((((LL_volume (ly (0 : Fin 2))) (ix x1)).toInt64) * 1000000)] [] (K5_addGas h59) lkX5_72 clsX5 rfl _ (o_st1 j _) (by decide) (Nat.le_of_ble_eq_true rfl) rfl rfl (Nat.le_of_ble_eq_true rfl) rfl rfl (Nat.zero_le _) (Nat.zero_le _) dX5_reset_59 ?_
      refine r_aload_n X (x := k.b + (45 + 12 * j.val)) dX5_reset_62 rfl ?_
      refine r_getfield X (v := .ref (k.b + (45 + 12 * j.val + 3))) clsX5 flX5_29 (Nat.le_of_ble_eq_true rfl) _ (o_st1 j _) rfl dX5_reset_63 ?_
      refine r_iload_n X (x := x1) dX5_reset_66 rfl ?_
      refine r_aload_n X (x := k.b + (45 + 12 * j.val)) dX5_reset_67 rfl ?_
      refine r_getfield X (v := .ref (k.b + (4 + 17 * (0 : Fin 2).val))) clsX5 flX5_54 (Nat.le_of_ble_eq_true rfl) _ (o_st1 j _) rfl dX5_reset_68 ?_
      refine r_getfield X (v := .ref (k.b + (4 + 17 * (0 : Fin 2).val + 2))) clsX1 flX5_76 (Nat.le_of_ble_eq_true rfl) _ (o_lay (0 : Fin 2)) rfl dX5_reset_71 ?_
      refine r_iload_n X (x := x1) dX5_reset_74 rfl ?_
      refine r_iaload X (f := LL_firstOutgassing (ly (0 : Fin 2))) _ (a_lay_firstOutgassing (0 : Fin 2)) g42 dX5_reset_75 ?_
      refine r_iastore X (f := SS_outgassing u59) (ws1 := wAll k T R ly rc hn rp tp ee (updF st j (SS_set_outgassing u59 (upd (SS_outgassing u59) (ix x1) ((LL_firstOutgassing (ly (0 : Fin 2))) (ix x1)))))) _ (a_st1_outgassing j _) g42 (s_st_outgassing j u59 (upd (SS_outgassing u59) (ix x1) ((LL_firstOutgassing (ly (0 : Fin 2))) (ix x1)))) dX5_reset_76 ?_
      refine r_aload_n X (x := k.b + (45 + 12 * j.val)) dX5_reset_77 rfl ?_
      refine r_getfield X (v := .ref (k.b + (45 + 12 * j.val + 4))) clsX5 flX5_32 (Nat.le_of_ble_eq_true rfl) _ (o_st1 j _) rfl dX5_reset_78 ?_
      refine r_iload_n X (x := x1) dX5_reset_81 rfl ?_
      refine r_iconst X (v := 0) dX5_reset_82 rfl ?_
      refine r_iastore X (f := SS_leakSum u59) (ws1 := wAll k T R ly rc hn rp tp ee (updF st j (SS_set_leakSum (SS_set_outgassing u59 (upd (SS_outgassing u59) (ix x1) ((LL_firstOutgassing (ly (0 : Fin 2))) (ix x1)))) (upd (SS_leakSum u59) (ix x1) 0)))) _ (heI (a_st1_leakSum j _) (SS_leakSum_set_outgassing _ _)) g42 (s_st_leakSum j (SS_set_outgassing u59 (upd (SS_outgassing u59) (ix x1) ((LL_firstOutgassing (ly (0 : Fin 2))) (ix x1)))) (upd (SS_leakSum u59) (ix x1) 0)) dX5_reset_83 ?_
      refine r_iinc X (x := x1) (v := x1 + 1) [some (.ref (k.b + (45 + 12 * j.val))), some (.int (x1 + 1))] dX5_reset_84 rfl rfl rfl ?_
      refine r_goto X 25 dX5_reset_87 rfl ?_
      exact ih (SS_set_leakSum (SS_set_outgassing u59 (upd (SS_outgassing u59) (ix x1) ((LL_firstOutgassing (ly (0 : Fin 2))) (ix x1)))) (upd (SS_leakSum u59) (ix x1) 0)) (x1 + 1) hf
set_option maxRecDepth 100000 in
set_option maxHeartbeats 4000000 in
theorem K5_reset {k : KT} {T : TT} {R : RR} {ly : Fin 2 → LL} {rc : RC} {hn : HN} {rp : RP} {tp : TP} {ee : EE} {st : Fin 12 → SS} {j : Fin 12} {S : SS}  {r : (SS)} (hf : f5_reset (ly (0 : Fin 2)) S  = some r) : CT k strs yX5_reset cX5_reset 2 none (rmD 1 0 0) 0 0 [.ref (k.b + (45 + 12 * j.val))] (wAll k T R ly rc hn rp tp ee (updF st j S)) (none) (wAll k T R ly rc hn rp tp ee (updF st j r)) := by
  refine CT.of (by decide) (Nat.le_of_ble_eq_true rfl) ?_
  intro z X hQ
  show VW k z 0 0 (wAll k T R ly rc hn rp tp ee (updF st j S)) 0 [some (.ref (k.b + (45 + 12 * j.val))), none] []
  unfold f5_reset at hf
  refine r_aload_n X (x := k.b + (45 + 12 * j.val)) dX5_reset_0 rfl ?_
  refine r_iconst X (v := 0) dX5_reset_1 rfl ?_
  refine r_putfield X (ws1 := wAll k T R ly rc hn rp tp ee (updF st j (SS_set_time S 0))) clsX5 flX5_9 (Nat.le_of_ble_eq_true rfl) rfl rfl rfl _ (o_st1 j _) (Nat.le_of_ble_eq_true rfl) (s_st_time j S 0) dX5_reset_2 ?_
  refine r_aload_n X (x := k.b + (45 + 12 * j.val)) dX5_reset_5 rfl ?_
  refine r_iconst X (v := 0) dX5_reset_6 rfl ?_
  refine r_putfield X (ws1 := wAll k T R ly rc hn rp tp ee (updF st j (SS_set_openValves (SS_set_time S 0) 0))) clsX5 flX5_15 (Nat.le_of_ble_eq_true rfl) rfl rfl rfl _ (o_st1 j _) (Nat.le_of_ble_eq_true rfl) (s_st_openValves j (SS_set_time S 0) 0) dX5_reset_7 ?_
  refine r_aload_n X (x := k.b + (45 + 12 * j.val)) dX5_reset_10 rfl ?_
  refine r_iconst X (v := 0) dX5_reset_11 rfl ?_
  refine r_putfield X (ws1 := wAll k T R ly rc hn rp tp ee (updF st j (SS_set_runningPumps (SS_set_openValves (SS_set_time S 0) 0) 0))) clsX5 flX5_18 (Nat.le_of_ble_eq_true rfl) rfl rfl rfl _ (o_st1 j _) (Nat.le_of_ble_eq_true rfl) (s_st_runningPumps j (SS_set_openValves (SS_set_time S 0) 0) 0) dX5_reset_12 ?_
  refine r_aload_n X (x := k.b + (45 + 12 * j.val)) dX5_reset_15 rfl ?_
  refine r_getfield X (v := .ref (k.b + (45 + 12 * j.val + 9))) clsX5 flX5_50 (Nat.le_of_ble_eq_true rfl) _ (o_st1 j _) rfl dX5_reset_16 ?_
  refine r_iconst X (v := 0) dX5_reset_19 rfl ?_
  refine r_putfield X (ws1 := wAll k T R ly rc hn rp tp ee (updF st j (SS_set_kept (SS_set_runningPumps (SS_set_openValves (SS_set_time S 0) 0) 0) 0))) clsX7 flX5_59 (Nat.le_of_ble_eq_true rfl) rfl rfl rfl _ (o_tl1 j _) (Nat.le_of_ble_eq_true rfl) (s_st_kept j (SS_set_runningPumps (SS_set_openValves (SS_set_time S 0) 0) 0) 0) dX5_reset_20 ?_
  refine r_iconst X (v := 0) dX5_reset_23 rfl ?_
  refine r_istore_n X [some (.ref (k.b + (45 + 12 * j.val))), some (.int 0)] dX5_reset_24 (Nat.le_of_ble_eq_true rfl) rfl ?_
  exact B5_reset_B25 X hQ FU (SS_set_kept (SS_set_runningPumps (SS_set_openValves (SS_set_time S 0) 0) 0) 0) 0 hf
set_option maxRecDepth 100000 in
set_option maxHeartbeats 4000000 in
theorem K7_copyFrom {k : KT} {T : TT} {R : RR} {ly : Fin 2 → LL} {rc : RC} {hn : HN} {rp : RP} {tp : TP} {ee : EE} {st : Fin 12 → SS} {j : Fin 12} {i : Fin 12} {S : SS}  {r : (SS)} (hij : i ≠ j) (hf : f7_copyFrom (st i) S  = some r) : CT k strs yX7_copyFrom cX7_copyFrom 2 none (rmD 1 0 0) 0 0 [.ref (k.b + (45 + 12 * j.val + 9)), .ref (k.b + (45 + 12 * i.val + 9))] (wAll k T R ly rc hn rp tp ee (updF st j S)) (none) (wAll k T R ly rc hn rp tp ee (updF st j r)) := by
  refine CT.of (by decide) (Nat.le_of_ble_eq_true rfl) ?_
  intro z X hQ
  show VW k z 0 0 (wAll k T R ly rc hn rp tp ee (updF st j S)) 0 [some (.ref (k.b + (45 + 12 * j.val + 9))), some (.ref (k.b + (45 + 12 * i.val + 9)))] []
  unfold f7_copyFrom at hf
  refine r_aload_n X (x := k.b + (45 + 12 * j.val + 9)) dX7_copyFrom_0 rfl ?_
  refine r_aload_n X (x := k.b + (45 + 12 * i.val + 9)) dX7_copyFrom_1 rfl ?_
  refine r_getfield X (v := .int (SS_kept (st i))) clsX7 flX7_7 (Nat.le_of_ble_eq_true rfl) _ (o_tl2 hij _) rfl dX7_copyFrom_2 ?_
  refine r_putfield X (ws1 := wAll k T R ly rc hn rp tp ee (updF st j (SS_set_kept S (SS_kept (st i))))) clsX7 flX7_7 (Nat.le_of_ble_eq_true rfl) rfl rfl rfl _ (o_tl1 j _) (Nat.le_of_ble_eq_true rfl) (s_st_kept j S (SS_kept (st i))) dX7_copyFrom_5 ?_
  refine r_aload_n X (x := k.b + (45 + 12 * j.val + 9)) dX7_copyFrom_8 rfl ?_
  refine r_aload_n X (x := k.b + (45 + 12 * i.val + 9)) dX7_copyFrom_9 rfl ?_
  refine r_getfield X (v := .int (SS_next (st i))) clsX7 flX7_13 (Nat.le_of_ble_eq_true rfl) _ (o_tl2 hij _) rfl dX7_copyFrom_10 ?_
  refine r_putfield X (ws1 := wAll k T R ly rc hn rp tp ee (updF st j (SS_set_next (SS_set_kept S (SS_kept (st i))) (SS_next (st i))))) clsX7 flX7_13 (Nat.le_of_ble_eq_true rfl) rfl rfl rfl _ (o_tl1 j _) (Nat.le_of_ble_eq_true rfl) (s_st_next j (SS_set_kept S (SS_kept (st i))) (SS_next (st i))) dX7_copyFrom_13 ?_
  refine r_aload_n X (x := k.b + (45 + 12 * i.val + 9)) dX7_copyFrom_16 rfl ?_
  refine r_getfield X (v := .ref (k.b + (45 + 12 * i.val + 10))) clsX7 flX7_16 (Nat.le_of_ble_eq_true rfl) _ (o_tl2 hij _) rfl dX7_copyFrom_17 ?_
  refine r_iconst X (v := 0) dX7_copyFrom_20 rfl ?_
  refine r_aload_n X (x := k.b + (45 + 12 * j.val + 9)) dX7_copyFrom_21 rfl ?_
  refine r_getfield X (v := .ref (k.b + (45 + 12 * j.val + 10))) clsX7 flX7_16 (Nat.le_of_ble_eq_true rfl) _ (o_tl1 j _) rfl dX7_copyFrom_22 ?_
  refine r_iconst X (v := 0) dX7_copyFrom_25 rfl ?_
  refine r_bipush X (v := 40) dX7_copyFrom_26 rfl ?_
  refine r_copyi X (f := SS_facts (st i)) (g := SS_facts S) (m := 40) (ws1 := wAll k T R ly rc hn rp tp ee (updF st j (SS_set_facts (SS_set_next (SS_set_kept S (SS_kept (st i))) (SS_next (st i))) (va_cpy (SS_facts (st i)) (SS_facts S) 0 0 40)))) lkX7_24 _ _ (a_st2_facts hij _) (heI (a_st1_facts j _) ((SS_facts_set_next _ _).trans (SS_facts_set_kept _ _))) (by decide) (by decide) (Nat.le_of_ble_eq_true rfl) (Nat.le_of_ble_eq_true rfl) (s_st_facts j (SS_set_next (SS_set_kept S (SS_kept (st i))) (SS_next (st i))) (va_cpy (SS_facts (st i)) (SS_facts S) 0 0 40)) rfl (cpR (Nat.le_of_ble_eq_true rfl) (Nat.le_of_ble_eq_true rfl)) dX7_copyFrom_28 ?_
  refine r_aload_n X (x := k.b + (45 + 12 * i.val + 9)) dX7_copyFrom_31 rfl ?_
  refine r_getfield X (v := .ref (k.b + (45 + 12 * i.val + 11))) clsX7 flX7_20 (Nat.le_of_ble_eq_true rfl) _ (o_tl2 hij _) rfl dX7_copyFrom_32 ?_
  refine r_iconst X (v := 0) dX7_copyFrom_35 rfl ?_
  refine r_aload_n X (x := k.b + (45 + 12 * j.val + 9)) dX7_copyFrom_36 rfl ?_
  refine r_getfield X (v := .ref (k.b + (45 + 12 * j.val + 11))) clsX7 flX7_20 (Nat.le_of_ble_eq_true rfl) _ (o_tl1 j _) rfl dX7_copyFrom_37 ?_
  refine r_iconst X (v := 0) dX7_copyFrom_40 rfl ?_
  refine r_bipush X (v := 20) dX7_copyFrom_41 rfl ?_
  refine r_copyl X (f := SS_rises (st i)) (g := SS_rises S) (m := 20) (ws1 := wAll k T R ly rc hn rp tp ee (updF st j (SS_set_rises (SS_set_facts (SS_set_next (SS_set_kept S (SS_kept (st i))) (SS_next (st i))) (va_cpy (SS_facts (st i)) (SS_facts S) 0 0 40)) (va_cpy (SS_rises (st i)) (SS_rises S) 0 0 20)))) lkX7_24 _ _ (a_st2_rises hij _) (heL (a_st1_rises j _) ((SS_rises_set_facts _ _).trans ((SS_rises_set_next _ _).trans (SS_rises_set_kept _ _)))) (by decide) (by decide) (Nat.le_of_ble_eq_true rfl) (Nat.le_of_ble_eq_true rfl) (s_st_rises j (SS_set_facts (SS_set_next (SS_set_kept S (SS_kept (st i))) (SS_next (st i))) (va_cpy (SS_facts (st i)) (SS_facts S) 0 0 40)) (va_cpy (SS_rises (st i)) (SS_rises S) 0 0 20)) rfl (cpR (Nat.le_of_ble_eq_true rfl) (Nat.le_of_ble_eq_true rfl)) dX7_copyFrom_43 ?_
  obtain rfl := Option.some.inj hf
  exact r_return X hQ rfl rfl (Nat.le_of_ble_eq_true rfl) (Nat.le_of_ble_eq_true rfl) dX7_copyFrom_46
set_option maxRecDepth 100000 in
set_option maxHeartbeats 4000000 in
theorem K5_copyFrom {k : KT} {T : TT} {R : RR} {ly : Fin 2 → LL} {rc : RC} {hn : HN} {rp : RP} {tp : TP} {ee : EE} {st : Fin 12 → SS} {j : Fin 12} {i : Fin 12} {S : SS}  {r : (SS)} (hij : i ≠ j) (hf : f5_copyFrom (st i) S  = some r) : CT k strs yX5_copyFrom cX5_copyFrom 2 none (rmD 2 0 0) 0 0 [.ref (k.b + (45 + 12 * j.val)), .ref (k.b + (45 + 12 * i.val))] (wAll k T R ly rc hn rp tp ee (updF st j S)) (none) (wAll k T R ly rc hn rp tp ee (updF st j r)) := by
  refine CT.of (by decide) (Nat.le_of_ble_eq_true rfl) ?_
  intro z X hQ
  show VW k z 0 0 (wAll k T R ly rc hn rp tp ee (updF st j S)) 0 [some (.ref (k.b + (45 + 12 * j.val))), some (.ref (k.b + (45 + 12 * i.val)))] []
  unfold f5_copyFrom at hf
  refine r_aload_n X (x := k.b + (45 + 12 * j.val)) dX5_copyFrom_0 rfl ?_
  refine r_aload_n X (x := k.b + (45 + 12 * i.val)) dX5_copyFrom_1 rfl ?_
  refine r_getfield X (v := .int (SS_time (st i))) clsX5 flX5_9 (Nat.le_of_ble_eq_true rfl) _ (o_st2 hij _) rfl dX5_copyFrom_2 ?_
  refine r_putfield X (ws1 := wAll k T R ly rc hn rp tp ee (updF st j (SS_set_time S (SS_time (st i))))) clsX5 flX5_9 (Nat.le_of_ble_eq_true rfl) rfl rfl rfl _ (o_st1 j _) (Nat.le_of_ble_eq_true rfl) (s_st_time j S (SS_time (st i))) dX5_copyFrom_5 ?_
  refine r_aload_n X (x := k.b + (45 + 12 * j.val)) dX5_copyFrom_8 rfl ?_
  refine r_aload_n X (x := k.b + (45 + 12 * i.val)) dX5_copyFrom_9 rfl ?_
  refine r_getfield X (v := .int (SS_openValves (st i))) clsX5 flX5_15 (Nat.le_of_ble_eq_true rfl) _ (o_st2 hij _) rfl dX5_copyFrom_10 ?_
  refine r_putfield X (ws1 := wAll k T R ly rc hn rp tp ee (updF st j (SS_set_openValves (SS_set_time S (SS_time (st i))) (SS_openValves (st i))))) clsX5 flX5_15 (Nat.le_of_ble_eq_true rfl) rfl rfl rfl _ (o_st1 j _) (Nat.le_of_ble_eq_true rfl) (s_st_openValves j (SS_set_time S (SS_time (st i))) (SS_openValves (st i))) dX5_copyFrom_13 ?_
  refine r_aload_n X (x := k.b + (45 + 12 * j.val)) dX5_copyFrom_16 rfl ?_
  refine r_aload_n X (x := k.b + (45 + 12 * i.val)) dX5_copyFrom_17 rfl ?_
  refine r_getfield X (v := .int (SS_runningPumps (st i))) clsX5 flX5_18 (Nat.le_of_ble_eq_true rfl) _ (o_st2 hij _) rfl dX5_copyFrom_18 ?_
  refine r_putfield X (ws1 := wAll k T R ly rc hn rp tp ee (updF st j (SS_set_runningPumps (SS_set_openValves (SS_set_time S (SS_time (st i))) (SS_openValves (st i))) (SS_runningPumps (st i))))) clsX5 flX5_18 (Nat.le_of_ble_eq_true rfl) rfl rfl rfl _ (o_st1 j _) (Nat.le_of_ble_eq_true rfl) (s_st_runningPumps j (SS_set_openValves (SS_set_time S (SS_time (st i))) (SS_openValves (st i))) (SS_runningPumps (st i))) dX5_copyFrom_21 ?_
  refine r_aload_n X (x := k.b + (45 + 12 * i.val)) dX5_copyFrom_24 rfl ?_
  refine r_getfield X (v := .ref (k.b + (45 + 12 * i.val + 1))) clsX5 flX5_21 (Nat.le_of_ble_eq_true rfl) _ (o_st2 hij _) rfl dX5_copyFrom_25 ?_
  refine r_iconst X (v := 0) dX5_copyFrom_28 rfl ?_
  refine r_aload_n X (x := k.b + (45 + 12 * j.val)) dX5_copyFrom_29 rfl ?_
  refine r_getfield X (v := .ref (k.b + (45 + 12 * j.val + 1))) clsX5 flX5_21 (Nat.le_of_ble_eq_true rfl) _ (o_st1 j _) rfl dX5_copyFrom_30 ?_
  refine r_iconst X (v := 0) dX5_copyFrom_33 rfl ?_
  refine r_bipush X (v := 8) dX5_copyFrom_34 rfl ?_
  refine r_copyl X (f := SS_gas (st i)) (g := SS_gas S) (m := 8) (ws1 := wAll k T R ly rc hn rp tp ee (updF st j (SS_set_gas (SS_set_runningPumps (SS_set_openValves (SS_set_time S (SS_time (st i))) (SS_openValves (st i))) (SS_runningPumps (st i))) (va_cpy (SS_gas (st i)) (SS_gas S) 0 0 8)))) lkX5_98 _ _ (a_st2_gas hij _) (heL (a_st1_gas j _) ((SS_gas_set_runningPumps _ _).trans ((SS_gas_set_openValves _ _).trans (SS_gas_set_time _ _)))) (by decide) (by decide) (Nat.le_of_ble_eq_true rfl) (Nat.le_of_ble_eq_true rfl) (s_st_gas j (SS_set_runningPumps (SS_set_openValves (SS_set_time S (SS_time (st i))) (SS_openValves (st i))) (SS_runningPumps (st i))) (va_cpy (SS_gas (st i)) (SS_gas S) 0 0 8)) rfl (cpR (Nat.le_of_ble_eq_true rfl) (Nat.le_of_ble_eq_true rfl)) dX5_copyFrom_36 ?_
  refine r_aload_n X (x := k.b + (45 + 12 * i.val)) dX5_copyFrom_39 rfl ?_
  refine r_getfield X (v := .ref (k.b + (45 + 12 * i.val + 2))) clsX5 flX5_25 (Nat.le_of_ble_eq_true rfl) _ (o_st2 hij _) rfl dX5_copyFrom_40 ?_
  refine r_iconst X (v := 0) dX5_copyFrom_43 rfl ?_
  refine r_aload_n X (x := k.b + (45 + 12 * j.val)) dX5_copyFrom_44 rfl ?_
  refine r_getfield X (v := .ref (k.b + (45 + 12 * j.val + 2))) clsX5 flX5_25 (Nat.le_of_ble_eq_true rfl) _ (o_st1 j _) rfl dX5_copyFrom_45 ?_
  refine r_iconst X (v := 0) dX5_copyFrom_48 rfl ?_
  refine r_bipush X (v := 8) dX5_copyFrom_49 rfl ?_
  refine r_copyi X (f := SS_pressure (st i)) (g := SS_pressure S) (m := 8) (ws1 := wAll k T R ly rc hn rp tp ee (updF st j (SS_set_pressure (SS_set_gas (SS_set_runningPumps (SS_set_openValves (SS_set_time S (SS_time (st i))) (SS_openValves (st i))) (SS_runningPumps (st i))) (va_cpy (SS_gas (st i)) (SS_gas S) 0 0 8)) (va_cpy (SS_pressure (st i)) (SS_pressure S) 0 0 8)))) lkX5_98 _ _ (a_st2_pressure hij _) (heI (a_st1_pressure j _) ((SS_pressure_set_gas _ _).trans ((SS_pressure_set_runningPumps _ _).trans ((SS_pressure_set_openValves _ _).trans (SS_pressure_set_time _ _))))) (by decide) (by decide) (Nat.le_of_ble_eq_true rfl) (Nat.le_of_ble_eq_true rfl) (s_st_pressure j (SS_set_gas (SS_set_runningPumps (SS_set_openValves (SS_set_time S (SS_time (st i))) (SS_openValves (st i))) (SS_runningPumps (st i))) (va_cpy (SS_gas (st i)) (SS_gas S) 0 0 8)) (va_cpy (SS_pressure (st i)) (SS_pressure S) 0 0 8)) rfl (cpR (Nat.le_of_ble_eq_true rfl) (Nat.le_of_ble_eq_true rfl)) dX5_copyFrom_51 ?_
  refine r_aload_n X (x := k.b + (45 + 12 * i.val)) dX5_copyFrom_54 rfl ?_
  refine r_getfield X (v := .ref (k.b + (45 + 12 * i.val + 3))) clsX5 flX5_29 (Nat.le_of_ble_eq_true rfl) _ (o_st2 hij _) rfl dX5_copyFrom_55 ?_
  refine r_iconst X (v := 0) dX5_copyFrom_58 rfl ?_
  refine r_aload_n X (x := k.b + (45 + 12 * j.val)) dX5_copyFrom_59 rfl ?_
  refine r_getfield X (v := .ref (k.b + (45 + 12 * j.val + 3))) clsX5 flX5_29 (Nat.le_of_ble_eq_true rfl) _ (o_st1 j _) rfl dX5_copyFrom_60 ?_
  refine r_iconst X (v := 0) dX5_copyFrom_63 rfl ?_
  refine r_bipush X (v := 8) dX5_copyFrom_64 rfl ?_
  refine r_copyi X (f := SS_outgassing (st i)) (g := SS_outgassing S) (m := 8) (ws1 := wAll k T R ly rc hn rp tp ee (updF st j (SS_set_outgassing (SS_set_pressure (SS_set_gas (SS_set_runningPumps (SS_set_openValves (SS_set_time S (SS_time (st i))) (SS_openValves (st i))) (SS_runningPumps (st i))) (va_cpy (SS_gas (st i)) (SS_gas S) 0 0 8)) (va_cpy (SS_pressure (st i)) (SS_pressure S) 0 0 8)) (va_cpy (SS_outgassing (st i)) (SS_outgassing S) 0 0 8)))) lkX5_98 _ _ (a_st2_outgassing hij _) (heI (a_st1_outgassing j _) ((SS_outgassing_set_pressure _ _).trans ((SS_outgassing_set_gas _ _).trans ((SS_outgassing_set_runningPumps _ _).trans ((SS_outgassing_set_openValves _ _).trans (SS_outgassing_set_time _ _)))))) (by decide) (by decide) (Nat.le_of_ble_eq_true rfl) (Nat.le_of_ble_eq_true rfl) (s_st_outgassing j (SS_set_pressure (SS_set_gas (SS_set_runningPumps (SS_set_openValves (SS_set_time S (SS_time (st i))) (SS_openValves (st i))) (SS_runningPumps (st i))) (va_cpy (SS_gas (st i)) (SS_gas S) 0 0 8)) (va_cpy (SS_pressure (st i)) (SS_pressure S) 0 0 8)) (va_cpy (SS_outgassing (st i)) (SS_outgassing S) 0 0 8)) rfl (cpR (Nat.le_of_ble_eq_true rfl) (Nat.le_of_ble_eq_true rfl)) dX5_copyFrom_66 ?_
  refine r_aload_n X (x := k.b + (45 + 12 * i.val)) dX5_copyFrom_69 rfl ?_
  refine r_getfield X (v := .ref (k.b + (45 + 12 * i.val + 4))) clsX5 flX5_32 (Nat.le_of_ble_eq_true rfl) _ (o_st2 hij _) rfl dX5_copyFrom_70 ?_
  refine r_iconst X (v := 0) dX5_copyFrom_73 rfl ?_
  refine r_aload_n X (x := k.b + (45 + 12 * j.val)) dX5_copyFrom_74 rfl ?_
  refine r_getfield X (v := .ref (k.b + (45 + 12 * j.val + 4))) clsX5 flX5_32 (Nat.le_of_ble_eq_true rfl) _ (o_st1 j _) rfl dX5_copyFrom_75 ?_
  refine r_iconst X (v := 0) dX5_copyFrom_78 rfl ?_
  refine r_bipush X (v := 8) dX5_copyFrom_79 rfl ?_
  refine r_copyi X (f := SS_leakSum (st i)) (g := SS_leakSum S) (m := 8) (ws1 := wAll k T R ly rc hn rp tp ee (updF st j (SS_set_leakSum (SS_set_outgassing (SS_set_pressure (SS_set_gas (SS_set_runningPumps (SS_set_openValves (SS_set_time S (SS_time (st i))) (SS_openValves (st i))) (SS_runningPumps (st i))) (va_cpy (SS_gas (st i)) (SS_gas S) 0 0 8)) (va_cpy (SS_pressure (st i)) (SS_pressure S) 0 0 8)) (va_cpy (SS_outgassing (st i)) (SS_outgassing S) 0 0 8)) (va_cpy (SS_leakSum (st i)) (SS_leakSum S) 0 0 8)))) lkX5_98 _ _ (a_st2_leakSum hij _) (heI (a_st1_leakSum j _) ((SS_leakSum_set_outgassing _ _).trans ((SS_leakSum_set_pressure _ _).trans ((SS_leakSum_set_gas _ _).trans ((SS_leakSum_set_runningPumps _ _).trans ((SS_leakSum_set_openValves _ _).trans (SS_leakSum_set_time _ _))))))) (by decide) (by decide) (Nat.le_of_ble_eq_true rfl) (Nat.le_of_ble_eq_true rfl) (s_st_leakSum j (SS_set_outgassing (SS_set_pressure (SS_set_gas (SS_set_runningPumps (SS_set_openValves (SS_set_time S (SS_time (st i))) (SS_openValves (st i))) (SS_runningPumps (st i))) (va_cpy (SS_gas (st i)) (SS_gas S) 0 0 8)) (va_cpy (SS_pressure (st i)) (SS_pressure S) 0 0 8)) (va_cpy (SS_outgassing (st i)) (SS_outgassing S) 0 0 8)) (va_cpy (SS_leakSum (st i)) (SS_leakSum S) 0 0 8)) rfl (cpR (Nat.le_of_ble_eq_true rfl) (Nat.le_of_ble_eq_true rfl)) dX5_copyFrom_81 ?_
  refine r_aload_n X (x := k.b + (45 + 12 * i.val)) dX5_copyFrom_84 rfl ?_
  refine r_getfield X (v := .ref (k.b + (45 + 12 * i.val + 5))) clsX5 flX5_35 (Nat.le_of_ble_eq_true rfl) _ (o_st2 hij _) rfl dX5_copyFrom_85 ?_
  refine r_iconst X (v := 0) dX5_copyFrom_88 rfl ?_
  refine r_aload_n X (x := k.b + (45 + 12 * j.val)) dX5_copyFrom_89 rfl ?_
  refine r_getfield X (v := .ref (k.b + (45 + 12 * j.val + 5))) clsX5 flX5_35 (Nat.le_of_ble_eq_true rfl) _ (o_st1 j _) rfl dX5_copyFrom_90 ?_
  refine r_iconst X (v := 0) dX5_copyFrom_93 rfl ?_
  refine r_bipush X (v := 10) dX5_copyFrom_94 rfl ?_
  refine r_copyi X (f := SS_rule (st i)) (g := SS_rule S) (m := 10) (ws1 := wAll k T R ly rc hn rp tp ee (updF st j (SS_set_rule (SS_set_leakSum (SS_set_outgassing (SS_set_pressure (SS_set_gas (SS_set_runningPumps (SS_set_openValves (SS_set_time S (SS_time (st i))) (SS_openValves (st i))) (SS_runningPumps (st i))) (va_cpy (SS_gas (st i)) (SS_gas S) 0 0 8)) (va_cpy (SS_pressure (st i)) (SS_pressure S) 0 0 8)) (va_cpy (SS_outgassing (st i)) (SS_outgassing S) 0 0 8)) (va_cpy (SS_leakSum (st i)) (SS_leakSum S) 0 0 8)) (va_cpy (SS_rule (st i)) (SS_rule S) 0 0 10)))) lkX5_98 _ _ (a_st2_rule hij _) (heI (a_st1_rule j _) ((SS_rule_set_leakSum _ _).trans ((SS_rule_set_outgassing _ _).trans ((SS_rule_set_pressure _ _).trans ((SS_rule_set_gas _ _).trans ((SS_rule_set_runningPumps _ _).trans ((SS_rule_set_openValves _ _).trans (SS_rule_set_time _ _)))))))) (by decide) (by decide) (Nat.le_of_ble_eq_true rfl) (Nat.le_of_ble_eq_true rfl) (s_st_rule j (SS_set_leakSum (SS_set_outgassing (SS_set_pressure (SS_set_gas (SS_set_runningPumps (SS_set_openValves (SS_set_time S (SS_time (st i))) (SS_openValves (st i))) (SS_runningPumps (st i))) (va_cpy (SS_gas (st i)) (SS_gas S) 0 0 8)) (va_cpy (SS_pressure (st i)) (SS_pressure S) 0 0 8)) (va_cpy (SS_outgassing (st i)) (SS_outgassing S) 0 0 8)) (va_cpy (SS_leakSum (st i)) (SS_leakSum S) 0 0 8)) (va_cpy (SS_rule (st i)) (SS_rule S) 0 0 10)) rfl (cpR (Nat.le_of_ble_eq_true rfl) (Nat.le_of_ble_eq_true rfl)) dX5_copyFrom_96 ?_
  refine r_aload_n X (x := k.b + (45 + 12 * i.val)) dX5_copyFrom_99 rfl ?_
  refine r_getfield X (v := .ref (k.b + (45 + 12 * i.val + 6))) clsX5 flX5_38 (Nat.le_of_ble_eq_true rfl) _ (o_st2 hij _) rfl dX5_copyFrom_100 ?_
  refine r_iconst X (v := 0) dX5_copyFrom_103 rfl ?_
  refine r_aload_n X (x := k.b + (45 + 12 * j.val)) dX5_copyFrom_104 rfl ?_
  refine r_getfield X (v := .ref (k.b + (45 + 12 * j.val + 6))) clsX5 flX5_38 (Nat.le_of_ble_eq_true rfl) _ (o_st1 j _) rfl dX5_copyFrom_105 ?_
  refine r_iconst X (v := 0) dX5_copyFrom_108 rfl ?_
  refine r_bipush X (v := 10) dX5_copyFrom_109 rfl ?_
  refine r_copyi X (f := SS_valveTrips (st i)) (g := SS_valveTrips S) (m := 10) (ws1 := wAll k T R ly rc hn rp tp ee (updF st j (SS_set_valveTrips (SS_set_rule (SS_set_leakSum (SS_set_outgassing (SS_set_pressure (SS_set_gas (SS_set_runningPumps (SS_set_openValves (SS_set_time S (SS_time (st i))) (SS_openValves (st i))) (SS_runningPumps (st i))) (va_cpy (SS_gas (st i)) (SS_gas S) 0 0 8)) (va_cpy (SS_pressure (st i)) (SS_pressure S) 0 0 8)) (va_cpy (SS_outgassing (st i)) (SS_outgassing S) 0 0 8)) (va_cpy (SS_leakSum (st i)) (SS_leakSum S) 0 0 8)) (va_cpy (SS_rule (st i)) (SS_rule S) 0 0 10)) (va_cpy (SS_valveTrips (st i)) (SS_valveTrips S) 0 0 10)))) lkX5_98 _ _ (a_st2_valveTrips hij _) (heI (a_st1_valveTrips j _) ((SS_valveTrips_set_rule _ _).trans ((SS_valveTrips_set_leakSum _ _).trans ((SS_valveTrips_set_outgassing _ _).trans ((SS_valveTrips_set_pressure _ _).trans ((SS_valveTrips_set_gas _ _).trans ((SS_valveTrips_set_runningPumps _ _).trans ((SS_valveTrips_set_openValves _ _).trans (SS_valveTrips_set_time _ _))))))))) (by decide) (by decide) (Nat.le_of_ble_eq_true rfl) (Nat.le_of_ble_eq_true rfl) (s_st_valveTrips j (SS_set_rule (SS_set_leakSum (SS_set_outgassing (SS_set_pressure (SS_set_gas (SS_set_runningPumps (SS_set_openValves (SS_set_time S (SS_time (st i))) (SS_openValves (st i))) (SS_runningPumps (st i))) (va_cpy (SS_gas (st i)) (SS_gas S) 0 0 8)) (va_cpy (SS_pressure (st i)) (SS_pressure S) 0 0 8)) (va_cpy (SS_outgassing (st i)) (SS_outgassing S) 0 0 8)) (va_cpy (SS_leakSum (st i)) (SS_leakSum S) 0 0 8)) (va_cpy (SS_rule (st i)) (SS_rule S) 0 0 10)) (va_cpy (SS_valveTrips (st i)) (SS_valveTrips S) 0 0 10)) rfl (cpR (Nat.le_of_ble_eq_true rfl) (Nat.le_of_ble_eq_true rfl)) dX5_copyFrom_111 ?_
  refine r_aload_n X (x := k.b + (45 + 12 * i.val)) dX5_copyFrom_114 rfl ?_
  refine r_getfield X (v := .ref (k.b + (45 + 12 * i.val + 7))) clsX5 flX5_41 (Nat.le_of_ble_eq_true rfl) _ (o_st2 hij _) rfl dX5_copyFrom_115 ?_
  refine r_iconst X (v := 0) dX5_copyFrom_118 rfl ?_
  refine r_aload_n X (x := k.b + (45 + 12 * j.val)) dX5_copyFrom_119 rfl ?_
  refine r_getfield X (v := .ref (k.b + (45 + 12 * j.val + 7))) clsX5 flX5_41 (Nat.le_of_ble_eq_true rfl) _ (o_st1 j _) rfl dX5_copyFrom_120 ?_
  refine r_iconst X (v := 0) dX5_copyFrom_123 rfl ?_
  refine r_bipush X (v := 6) dX5_copyFrom_124 rfl ?_
  refine r_copyi X (f := SS_pumpTrips (st i)) (g := SS_pumpTrips S) (m := 6) (ws1 := wAll k T R ly rc hn rp tp ee (updF st j (SS_set_pumpTrips (SS_set_valveTrips (SS_set_rule (SS_set_leakSum (SS_set_outgassing (SS_set_pressure (SS_set_gas (SS_set_runningPumps (SS_set_openValves (SS_set_time S (SS_time (st i))) (SS_openValves (st i))) (SS_runningPumps (st i))) (va_cpy (SS_gas (st i)) (SS_gas S) 0 0 8)) (va_cpy (SS_pressure (st i)) (SS_pressure S) 0 0 8)) (va_cpy (SS_outgassing (st i)) (SS_outgassing S) 0 0 8)) (va_cpy (SS_leakSum (st i)) (SS_leakSum S) 0 0 8)) (va_cpy (SS_rule (st i)) (SS_rule S) 0 0 10)) (va_cpy (SS_valveTrips (st i)) (SS_valveTrips S) 0 0 10)) (va_cpy (SS_pumpTrips (st i)) (SS_pumpTrips S) 0 0 6)))) lkX5_98 _ _ (a_st2_pumpTrips hij _) (heI (a_st1_pumpTrips j _) ((SS_pumpTrips_set_valveTrips _ _).trans ((SS_pumpTrips_set_rule _ _).trans ((SS_pumpTrips_set_leakSum _ _).trans ((SS_pumpTrips_set_outgassing _ _).trans ((SS_pumpTrips_set_pressure _ _).trans ((SS_pumpTrips_set_gas _ _).trans ((SS_pumpTrips_set_runningPumps _ _).trans ((SS_pumpTrips_set_openValves _ _).trans (SS_pumpTrips_set_time _ _)))))))))) (by decide) (by decide) (Nat.le_of_ble_eq_true rfl) (Nat.le_of_ble_eq_true rfl) (s_st_pumpTrips j (SS_set_valveTrips (SS_set_rule (SS_set_leakSum (SS_set_outgassing (SS_set_pressure (SS_set_gas (SS_set_runningPumps (SS_set_openValves (SS_set_time S (SS_time (st i))) (SS_openValves (st i))) (SS_runningPumps (st i))) (va_cpy (SS_gas (st i)) (SS_gas S) 0 0 8)) (va_cpy (SS_pressure (st i)) (SS_pressure S) 0 0 8)) (va_cpy (SS_outgassing (st i)) (SS_outgassing S) 0 0 8)) (va_cpy (SS_leakSum (st i)) (SS_leakSum S) 0 0 8)) (va_cpy (SS_rule (st i)) (SS_rule S) 0 0 10)) (va_cpy (SS_valveTrips (st i)) (SS_valveTrips S) 0 0 10)) (va_cpy (SS_pumpTrips (st i)) (SS_pumpTrips S) 0 0 6)) rfl (cpR (Nat.le_of_ble_eq_true rfl) (Nat.le_of_ble_eq_true rfl)) dX5_copyFrom_126 ?_
  refine r_aload_n X (x := k.b + (45 + 12 * i.val)) dX5_copyFrom_129 rfl ?_
  refine r_getfield X (v := .ref (k.b + (45 + 12 * i.val + 8))) clsX5 flX5_44 (Nat.le_of_ble_eq_true rfl) _ (o_st2 hij _) rfl dX5_copyFrom_130 ?_
  refine r_iconst X (v := 0) dX5_copyFrom_133 rfl ?_
  refine r_aload_n X (x := k.b + (45 + 12 * j.val)) dX5_copyFrom_134 rfl ?_
  refine r_getfield X (v := .ref (k.b + (45 + 12 * j.val + 8))) clsX5 flX5_44 (Nat.le_of_ble_eq_true rfl) _ (o_st1 j _) rfl dX5_copyFrom_135 ?_
  refine r_iconst X (v := 0) dX5_copyFrom_138 rfl ?_
  refine r_bipush X (v := 24) dX5_copyFrom_139 rfl ?_
  refine r_copyi X (f := SS_leak (st i)) (g := SS_leak S) (m := 24) (ws1 := wAll k T R ly rc hn rp tp ee (updF st j (SS_set_leak (SS_set_pumpTrips (SS_set_valveTrips (SS_set_rule (SS_set_leakSum (SS_set_outgassing (SS_set_pressure (SS_set_gas (SS_set_runningPumps (SS_set_openValves (SS_set_time S (SS_time (st i))) (SS_openValves (st i))) (SS_runningPumps (st i))) (va_cpy (SS_gas (st i)) (SS_gas S) 0 0 8)) (va_cpy (SS_pressure (st i)) (SS_pressure S) 0 0 8)) (va_cpy (SS_outgassing (st i)) (SS_outgassing S) 0 0 8)) (va_cpy (SS_leakSum (st i)) (SS_leakSum S) 0 0 8)) (va_cpy (SS_rule (st i)) (SS_rule S) 0 0 10)) (va_cpy (SS_valveTrips (st i)) (SS_valveTrips S) 0 0 10)) (va_cpy (SS_pumpTrips (st i)) (SS_pumpTrips S) 0 0 6)) (va_cpy (SS_leak (st i)) (SS_leak S) 0 0 24)))) lkX5_98 _ _ (a_st2_leak hij _) (heI (a_st1_leak j _) ((SS_leak_set_pumpTrips _ _).trans ((SS_leak_set_valveTrips _ _).trans ((SS_leak_set_rule _ _).trans ((SS_leak_set_leakSum _ _).trans ((SS_leak_set_outgassing _ _).trans ((SS_leak_set_pressure _ _).trans ((SS_leak_set_gas _ _).trans ((SS_leak_set_runningPumps _ _).trans ((SS_leak_set_openValves _ _).trans (SS_leak_set_time _ _))))))))))) (by decide) (by decide) (Nat.le_of_ble_eq_true rfl) (Nat.le_of_ble_eq_true rfl) (s_st_leak j (SS_set_pumpTrips (SS_set_valveTrips (SS_set_rule (SS_set_leakSum (SS_set_outgassing (SS_set_pressure (SS_set_gas (SS_set_runningPumps (SS_set_openValves (SS_set_time S (SS_time (st i))) (SS_openValves (st i))) (SS_runningPumps (st i))) (va_cpy (SS_gas (st i)) (SS_gas S) 0 0 8)) (va_cpy (SS_pressure (st i)) (SS_pressure S) 0 0 8)) (va_cpy (SS_outgassing (st i)) (SS_outgassing S) 0 0 8)) (va_cpy (SS_leakSum (st i)) (SS_leakSum S) 0 0 8)) (va_cpy (SS_rule (st i)) (SS_rule S) 0 0 10)) (va_cpy (SS_valveTrips (st i)) (SS_valveTrips S) 0 0 10)) (va_cpy (SS_pumpTrips (st i)) (SS_pumpTrips S) 0 0 6)) (va_cpy (SS_leak (st i)) (SS_leak S) 0 0 24)) rfl (cpR (Nat.le_of_ble_eq_true rfl) (Nat.le_of_ble_eq_true rfl)) dX5_copyFrom_141 ?_
  refine r_aload_n X (x := k.b + (45 + 12 * j.val)) dX5_copyFrom_144 rfl ?_
  refine r_getfield X (v := .ref (k.b + (45 + 12 * j.val + 9))) clsX5 flX5_50 (Nat.le_of_ble_eq_true rfl) _ (o_st1 j _) rfl dX5_copyFrom_145 ?_
  refine r_aload_n X (x := k.b + (45 + 12 * i.val)) dX5_copyFrom_148 rfl ?_
  refine r_getfield X (v := .ref (k.b + (45 + 12 * i.val + 9))) clsX5 flX5_50 (Nat.le_of_ble_eq_true rfl) _ (o_st2 hij _) rfl dX5_copyFrom_149 ?_
  obtain ⟨u152, h152, hf⟩ := bdS hf
  refine r_callV0 X [.ref (k.b + (45 + 12 * i.val + 9))] [] (K7_copyFrom hij h152) lkX5_104 clsX7 rfl _ (o_tl1 j _) (by decide) (Nat.le_of_ble_eq_true rfl) rfl rfl (Nat.le_of_ble_eq_true rfl) rfl rfl (Nat.zero_le _) (Nat.zero_le _) dX5_copyFrom_152 ?_
  obtain rfl := Option.some.inj hf
  exact r_return X hQ rfl rfl (Nat.le_of_ble_eq_true rfl) (Nat.le_of_ble_eq_true rfl) dX5_copyFrom_155
set_option maxRecDepth 100000 in
set_option maxHeartbeats 4000000 in
theorem K5_isOpen {k : KT} {T : TT} {R : RR} {ly : Fin 2 → LL} {rc : RC} {hn : HN} {rp : RP} {tp : TP} {ee : EE} {st : Fin 12 → SS} {j : Fin 12} {S : SS} {x1 : Int32} {r : Int32} (hf : f5_isOpen S  x1 = some r) : CT k strs yX5_isOpen cX5_isOpen 2 (some .boolean) (rmD 0 0 0) 0 0 [.ref (k.b + (45 + 12 * j.val)), .int x1] (wAll k T R ly rc hn rp tp ee (updF st j S)) (some (.int r)) (wAll k T R ly rc hn rp tp ee (updF st j S)) := by
  refine CT.of (by decide) (Nat.le_of_ble_eq_true rfl) ?_
  intro z X hQ
  show VW k z 0 0 (wAll k T R ly rc hn rp tp ee (updF st j S)) 0 [some (.ref (k.b + (45 + 12 * j.val))), some (.int x1)] []
  unfold f5_isOpen at hf
  refine r_aload_n X (x := k.b + (45 + 12 * j.val)) dX5_isOpen_0 rfl ?_
  refine r_getfield X (v := .int (SS_openValves S)) clsX5 flX5_15 (Nat.le_of_ble_eq_true rfl) _ (o_st1 j _) rfl dX5_isOpen_1 ?_
  refine r_iload_n X (x := x1) dX5_isOpen_4 rfl ?_
  refine r_ishr X dX5_isOpen_5 ?_
  refine r_iconst X (v := 1) dX5_isOpen_6 rfl ?_
  refine r_iand X dX5_isOpen_7 ?_
  suffices K8 : VW k z 0 0 (wAll k T R ly rc hn rp tp ee (updF st j S)) 16 [some (.ref (k.b + (45 + 12 * j.val))), some (.int x1)] [.int (if (((SS_openValves S) >>> (x1 &&& 31)) &&& 1) = 0 then (0 : Int32) else (1 : Int32))] by
    refine r_if_eq X 15 dX5_isOpen_8 rfl (fun c8 => ?_) (fun c8 => ?_)
    · refine r_iconst X (v := 0) dX5_isOpen_15 rfl ?_
      rw [if_pos c8] at K8
      exact K8
    · refine r_iconst X (v := 1) dX5_isOpen_11 rfl ?_
      refine r_goto X 16 dX5_isOpen_12 rfl ?_
      rw [if_neg c8] at K8
      exact K8
  obtain rfl := Option.some.inj hf
  exact r_zreturn X hQ rfl rfl (Nat.le_of_ble_eq_true rfl) (Nat.le_of_ble_eq_true rfl) nb_if0 dX5_isOpen_16
set_option maxRecDepth 100000 in
set_option maxHeartbeats 4000000 in
theorem K5_isRunning {k : KT} {T : TT} {R : RR} {ly : Fin 2 → LL} {rc : RC} {hn : HN} {rp : RP} {tp : TP} {ee : EE} {st : Fin 12 → SS} {j : Fin 12} {S : SS} {x1 : Int32} {r : Int32} (hf : f5_isRunning S  x1 = some r) : CT k strs yX5_isRunning cX5_isRunning 2 (some .boolean) (rmD 0 0 0) 0 0 [.ref (k.b + (45 + 12 * j.val)), .int x1] (wAll k T R ly rc hn rp tp ee (updF st j S)) (some (.int r)) (wAll k T R ly rc hn rp tp ee (updF st j S)) := by
  refine CT.of (by decide) (Nat.le_of_ble_eq_true rfl) ?_
  intro z X hQ
  show VW k z 0 0 (wAll k T R ly rc hn rp tp ee (updF st j S)) 0 [some (.ref (k.b + (45 + 12 * j.val))), some (.int x1)] []
  unfold f5_isRunning at hf
  refine r_aload_n X (x := k.b + (45 + 12 * j.val)) dX5_isRunning_0 rfl ?_
  refine r_getfield X (v := .int (SS_runningPumps S)) clsX5 flX5_18 (Nat.le_of_ble_eq_true rfl) _ (o_st1 j _) rfl dX5_isRunning_1 ?_
  refine r_iload_n X (x := x1) dX5_isRunning_4 rfl ?_
  refine r_ishr X dX5_isRunning_5 ?_
  refine r_iconst X (v := 1) dX5_isRunning_6 rfl ?_
  refine r_iand X dX5_isRunning_7 ?_
  suffices K8 : VW k z 0 0 (wAll k T R ly rc hn rp tp ee (updF st j S)) 16 [some (.ref (k.b + (45 + 12 * j.val))), some (.int x1)] [.int (if (((SS_runningPumps S) >>> (x1 &&& 31)) &&& 1) = 0 then (0 : Int32) else (1 : Int32))] by
    refine r_if_eq X 15 dX5_isRunning_8 rfl (fun c8 => ?_) (fun c8 => ?_)
    · refine r_iconst X (v := 0) dX5_isRunning_15 rfl ?_
      rw [if_pos c8] at K8
      exact K8
    · refine r_iconst X (v := 1) dX5_isRunning_11 rfl ?_
      refine r_goto X 16 dX5_isRunning_12 rfl ?_
      rw [if_neg c8] at K8
      exact K8
  obtain rfl := Option.some.inj hf
  exact r_zreturn X hQ rfl rfl (Nat.le_of_ble_eq_true rfl) (Nat.le_of_ble_eq_true rfl) nb_if0 dX5_isRunning_16
set_option maxRecDepth 100000 in
set_option maxHeartbeats 4000000 in
theorem K5_openValve {k : KT} {T : TT} {R : RR} {ly : Fin 2 → LL} {rc : RC} {hn : HN} {rp : RP} {tp : TP} {ee : EE} {st : Fin 12 → SS} {j : Fin 12} {S : SS} {x1 : Int32} {r : (SS)} (hf : f5_openValve  S x1 = some r) : CT k strs yX5_openValve cX5_openValve 2 none (rmD 0 0 0) 0 0 [.ref (k.b + (45 + 12 * j.val)), .int x1] (wAll k T R ly rc hn rp tp ee (updF st j S)) (none) (wAll k T R ly rc hn rp tp ee (updF st j r)) := by
  refine CT.of (by decide) (Nat.le_of_ble_eq_true rfl) ?_
  intro z X hQ
  show VW k z 0 0 (wAll k T R ly rc hn rp tp ee (updF st j S)) 0 [some (.ref (k.b + (45 + 12 * j.val))), some (.int x1)] []
  unfold f5_openValve at hf
  refine r_aload_n X (x := k.b + (45 + 12 * j.val)) dX5_openValve_0 rfl ?_
  refine r_dup X dX5_openValve_1 rfl ?_
  refine r_getfield X (v := .int (SS_openValves S)) clsX5 flX5_15 (Nat.le_of_ble_eq_true rfl) _ (o_st1 j _) rfl dX5_openValve_2 ?_
  refine r_iconst X (v := 1) dX5_openValve_5 rfl ?_
  refine r_iload_n X (x := x1) dX5_openValve_6 rfl ?_
  refine r_ishl X dX5_openValve_7 ?_
  refine r_ior X dX5_openValve_8 ?_
  refine r_putfield X (ws1 := wAll k T R ly rc hn rp tp ee (updF st j (SS_set_openValves S ((SS_openValves S) ||| (1 <<< (x1 &&& 31)))))) clsX5 flX5_15 (Nat.le_of_ble_eq_true rfl) rfl rfl rfl _ (o_st1 j _) (Nat.le_of_ble_eq_true rfl) (s_st_openValves j S ((SS_openValves S) ||| (1 <<< (x1 &&& 31)))) dX5_openValve_9 ?_
  obtain rfl := Option.some.inj hf
  exact r_return X hQ rfl rfl (Nat.le_of_ble_eq_true rfl) (Nat.le_of_ble_eq_true rfl) dX5_openValve_12
set_option maxRecDepth 100000 in
set_option maxHeartbeats 4000000 in
theorem K5_closeValve {k : KT} {T : TT} {R : RR} {ly : Fin 2 → LL} {rc : RC} {hn : HN} {rp : RP} {tp : TP} {ee : EE} {st : Fin 12 → SS} {j : Fin 12} {S : SS} {x1 : Int32} {r : (SS)} (hf : f5_closeValve  S x1 = some r) : CT k strs yX5_closeValve cX5_closeValve 2 none (rmD 0 0 0) 0 0 [.ref (k.b + (45 + 12 * j.val)), .int x1] (wAll k T R ly rc hn rp tp ee (updF st j S)) (none) (wAll k T R ly rc hn rp tp ee (updF st j r)) := by
  refine CT.of (by decide) (Nat.le_of_ble_eq_true rfl) ?_
  intro z X hQ
  show VW k z 0 0 (wAll k T R ly rc hn rp tp ee (updF st j S)) 0 [some (.ref (k.b + (45 + 12 * j.val))), some (.int x1)] []
  unfold f5_closeValve at hf
  refine r_aload_n X (x := k.b + (45 + 12 * j.val)) dX5_closeValve_0 rfl ?_
  refine r_dup X dX5_closeValve_1 rfl ?_
  refine r_getfield X (v := .int (SS_openValves S)) clsX5 flX5_15 (Nat.le_of_ble_eq_true rfl) _ (o_st1 j _) rfl dX5_closeValve_2 ?_
  refine r_iconst X (v := 1) dX5_closeValve_5 rfl ?_
  refine r_iload_n X (x := x1) dX5_closeValve_6 rfl ?_
  refine r_ishl X dX5_closeValve_7 ?_
  refine r_iconst X (v := (-1)) dX5_closeValve_8 rfl ?_
  refine r_ixor X dX5_closeValve_9 ?_
  refine r_iand X dX5_closeValve_10 ?_
  refine r_putfield X (ws1 := wAll k T R ly rc hn rp tp ee (updF st j (SS_set_openValves S ((SS_openValves S) &&& ((1 <<< (x1 &&& 31)) ^^^ (-1)))))) clsX5 flX5_15 (Nat.le_of_ble_eq_true rfl) rfl rfl rfl _ (o_st1 j _) (Nat.le_of_ble_eq_true rfl) (s_st_openValves j S ((SS_openValves S) &&& ((1 <<< (x1 &&& 31)) ^^^ (-1)))) dX5_closeValve_11 ?_
  obtain rfl := Option.some.inj hf
  exact r_return X hQ rfl rfl (Nat.le_of_ble_eq_true rfl) (Nat.le_of_ble_eq_true rfl) dX5_closeValve_14
set_option maxRecDepth 100000 in
set_option maxHeartbeats 4000000 in
theorem K5_startPump {k : KT} {T : TT} {R : RR} {ly : Fin 2 → LL} {rc : RC} {hn : HN} {rp : RP} {tp : TP} {ee : EE} {st : Fin 12 → SS} {j : Fin 12} {S : SS} {x1 : Int32} {r : (SS)} (hf : f5_startPump  S x1 = some r) : CT k strs yX5_startPump cX5_startPump 2 none (rmD 0 0 0) 0 0 [.ref (k.b + (45 + 12 * j.val)), .int x1] (wAll k T R ly rc hn rp tp ee (updF st j S)) (none) (wAll k T R ly rc hn rp tp ee (updF st j r)) := by
  refine CT.of (by decide) (Nat.le_of_ble_eq_true rfl) ?_
  intro z X hQ
  show VW k z 0 0 (wAll k T R ly rc hn rp tp ee (updF st j S)) 0 [some (.ref (k.b + (45 + 12 * j.val))), some (.int x1)] []
  unfold f5_startPump at hf
  refine r_aload_n X (x := k.b + (45 + 12 * j.val)) dX5_startPump_0 rfl ?_
  refine r_dup X dX5_startPump_1 rfl ?_
  refine r_getfield X (v := .int (SS_runningPumps S)) clsX5 flX5_18 (Nat.le_of_ble_eq_true rfl) _ (o_st1 j _) rfl dX5_startPump_2 ?_
  refine r_iconst X (v := 1) dX5_startPump_5 rfl ?_
  refine r_iload_n X (x := x1) dX5_startPump_6 rfl ?_
  refine r_ishl X dX5_startPump_7 ?_
  refine r_ior X dX5_startPump_8 ?_
  refine r_putfield X (ws1 := wAll k T R ly rc hn rp tp ee (updF st j (SS_set_runningPumps S ((SS_runningPumps S) ||| (1 <<< (x1 &&& 31)))))) clsX5 flX5_18 (Nat.le_of_ble_eq_true rfl) rfl rfl rfl _ (o_st1 j _) (Nat.le_of_ble_eq_true rfl) (s_st_runningPumps j S ((SS_runningPumps S) ||| (1 <<< (x1 &&& 31)))) dX5_startPump_9 ?_
  obtain rfl := Option.some.inj hf
  exact r_return X hQ rfl rfl (Nat.le_of_ble_eq_true rfl) (Nat.le_of_ble_eq_true rfl) dX5_startPump_12
set_option maxRecDepth 100000 in
set_option maxHeartbeats 4000000 in
theorem K5_stopPump {k : KT} {T : TT} {R : RR} {ly : Fin 2 → LL} {rc : RC} {hn : HN} {rp : RP} {tp : TP} {ee : EE} {st : Fin 12 → SS} {j : Fin 12} {S : SS} {x1 : Int32} {r : (SS)} (hf : f5_stopPump  S x1 = some r) : CT k strs yX5_stopPump cX5_stopPump 2 none (rmD 0 0 0) 0 0 [.ref (k.b + (45 + 12 * j.val)), .int x1] (wAll k T R ly rc hn rp tp ee (updF st j S)) (none) (wAll k T R ly rc hn rp tp ee (updF st j r)) := by
  refine CT.of (by decide) (Nat.le_of_ble_eq_true rfl) ?_
  intro z X hQ
  show VW k z 0 0 (wAll k T R ly rc hn rp tp ee (updF st j S)) 0 [some (.ref (k.b + (45 + 12 * j.val))), some (.int x1)] []
  unfold f5_stopPump at hf
  refine r_aload_n X (x := k.b + (45 + 12 * j.val)) dX5_stopPump_0 rfl ?_
  refine r_dup X dX5_stopPump_1 rfl ?_
  refine r_getfield X (v := .int (SS_runningPumps S)) clsX5 flX5_18 (Nat.le_of_ble_eq_true rfl) _ (o_st1 j _) rfl dX5_stopPump_2 ?_
  refine r_iconst X (v := 1) dX5_stopPump_5 rfl ?_
  refine r_iload_n X (x := x1) dX5_stopPump_6 rfl ?_
  refine r_ishl X dX5_stopPump_7 ?_
  refine r_iconst X (v := (-1)) dX5_stopPump_8 rfl ?_
  refine r_ixor X dX5_stopPump_9 ?_
  refine r_iand X dX5_stopPump_10 ?_
  refine r_putfield X (ws1 := wAll k T R ly rc hn rp tp ee (updF st j (SS_set_runningPumps S ((SS_runningPumps S) &&& ((1 <<< (x1 &&& 31)) ^^^ (-1)))))) clsX5 flX5_18 (Nat.le_of_ble_eq_true rfl) rfl rfl rfl _ (o_st1 j _) (Nat.le_of_ble_eq_true rfl) (s_st_runningPumps j S ((SS_runningPumps S) &&& ((1 <<< (x1 &&& 31)) ^^^ (-1)))) dX5_stopPump_11 ?_
  obtain rfl := Option.some.inj hf
  exact r_return X hQ rfl rfl (Nat.le_of_ble_eq_true rfl) (Nat.le_of_ble_eq_true rfl) dX5_stopPump_14
set_option maxRecDepth 100000 in
set_option maxHeartbeats 4000000 in
theorem K5_difference {k : KT} {T : TT} {R : RR} {ly : Fin 2 → LL} {rc : RC} {hn : HN} {rp : RP} {tp : TP} {ee : EE} {st : Fin 12 → SS} {j : Fin 12} {S : SS} {x1 : Int32} {r : Int32} (hf : f5_difference (ly (0 : Fin 2)) S  x1 = some r) : CT k strs yX5_difference cX5_difference 2 (some .int) (rmD 1 0 0) 0 0 [.ref (k.b + (45 + 12 * j.val)), .int x1] (wAll k T R ly rc hn rp tp ee (updF st j S)) (some (.int r)) (wAll k T R ly rc hn rp tp ee (updF st j S)) := by
  refine CT.of (by decide) (Nat.le_of_ble_eq_true rfl) ?_
  intro z X hQ
  show VW k z 0 0 (wAll k T R ly rc hn rp tp ee (updF st j S)) 0 [some (.ref (k.b + (45 + 12 * j.val))), some (.int x1)] []
  unfold f5_difference at hf
  refine r_aload_n X (x := k.b + (45 + 12 * j.val)) dX5_difference_0 rfl ?_
  refine r_getfield X (v := .ref (k.b + (45 + 12 * j.val + 2))) clsX5 flX5_25 (Nat.le_of_ble_eq_true rfl) _ (o_st1 j _) rfl dX5_difference_1 ?_
  refine r_aload_n X (x := k.b + (45 + 12 * j.val)) dX5_difference_4 rfl ?_
  refine r_getfield X (v := .ref (k.b + (4 + 17 * (0 : Fin 2).val))) clsX5 flX5_54 (Nat.le_of_ble_eq_true rfl) _ (o_st1 j _) rfl dX5_difference_5 ?_
  refine r_getfield X (v := .ref (k.b + (4 + 17 * (0 : Fin 2).val + 10))) clsX1 flX5_111 (Nat.le_of_ble_eq_true rfl) _ (o_lay (0 : Fin 2)) rfl dX5_difference_8 ?_
  refine r_iload_n X (x := x1) dX5_difference_11 rfl ?_
  obtain ⟨g12, hf⟩ := gdS hf
  refine r_iaload X (f := LL_valveChamber (ly (0 : Fin 2))) _ (a_lay_valveChamber (0 : Fin 2)) g12 dX5_difference_12 ?_
  obtain ⟨g13, hf⟩ := gdS hf
  refine r_iaload X (f := SS_pressure S) _ (a_st1_pressure j _) g13 dX5_difference_13 ?_
  refine r_aload_n X (x := k.b + (45 + 12 * j.val)) dX5_difference_14 rfl ?_
  refine r_getfield X (v := .ref (k.b + (45 + 12 * j.val + 2))) clsX5 flX5_25 (Nat.le_of_ble_eq_true rfl) _ (o_st1 j _) rfl dX5_difference_15 ?_
  refine r_aload_n X (x := k.b + (45 + 12 * j.val)) dX5_difference_18 rfl ?_
  refine r_getfield X (v := .ref (k.b + (4 + 17 * (0 : Fin 2).val))) clsX5 flX5_54 (Nat.le_of_ble_eq_true rfl) _ (o_st1 j _) rfl dX5_difference_19 ?_
  refine r_getfield X (v := .ref (k.b + (4 + 17 * (0 : Fin 2).val + 11))) clsX1 flX5_114 (Nat.le_of_ble_eq_true rfl) _ (o_lay (0 : Fin 2)) rfl dX5_difference_22 ?_
  refine r_iload_n X (x := x1) dX5_difference_25 rfl ?_
  refine r_iaload X (f := LL_otherSide (ly (0 : Fin 2))) _ (a_lay_otherSide (0 : Fin 2)) g12 dX5_difference_26 ?_
  obtain ⟨g27, hf⟩ := gdS hf
  refine r_iaload X (f := SS_pressure S) _ (a_st1_pressure j _) g27 dX5_difference_27 ?_
  refine r_isub X dX5_difference_28 ?_
  refine r_iabs X lkX5_117 rfl ⟨(Nat.le_of_ble_eq_true rfl), (Nat.le_of_ble_eq_true rfl)⟩ (Nat.zero_le _) (Nat.zero_le _) dX5_difference_29 ?_
  obtain rfl := Option.some.inj hf
  exact r_ireturn X hQ rfl rfl (Nat.le_of_ble_eq_true rfl) (Nat.le_of_ble_eq_true rfl) dX5_difference_32
set_option maxRecDepth 100000 in
set_option maxHeartbeats 4000000 in
theorem K5_openingBar {k : KT} {T : TT} {R : RR} {ly : Fin 2 → LL} {rc : RC} {hn : HN} {rp : RP} {tp : TP} {ee : EE} {st : Fin 12 → SS} {j : Fin 12} {S : SS} {x1 : Int32} {r : Int32} (hf : f5_openingBar (ly (0 : Fin 2)) S  x1 = some r) : CT k strs yX5_openingBar cX5_openingBar 2 (some .int) (rmD 2 0 0) 0 0 [.ref (k.b + (45 + 12 * j.val)), .int x1] (wAll k T R ly rc hn rp tp ee (updF st j S)) (some (.int r)) (wAll k T R ly rc hn rp tp ee (updF st j S)) := by
  refine CT.of (by decide) (Nat.le_of_ble_eq_true rfl) ?_
  intro z X hQ
  show VW k z 0 0 (wAll k T R ly rc hn rp tp ee (updF st j S)) 0 [some (.ref (k.b + (45 + 12 * j.val))), some (.int x1)] []
  unfold f5_openingBar at hf
  refine r_aload_n X (x := k.b + (45 + 12 * j.val)) dX5_openingBar_0 rfl ?_
  refine r_iload_n X (x := x1) dX5_openingBar_1 rfl ?_
  obtain ⟨u2, h2, hf⟩ := bdS hf
  refine r_callV0 X [.int x1] [] (K5_isOpen h2) lkX5_123 clsX5 rfl _ (o_st1 j _) (by decide) (Nat.le_of_ble_eq_true rfl) rfl rfl (Nat.le_of_ble_eq_true rfl) rfl rfl (Nat.zero_le _) (Nat.zero_le _) dX5_openingBar_2 ?_
  refine r_if_eq X 10 dX5_openingBar_5 rfl (fun c5 => ?_) (fun c5 => ?_)
  · replace hf := ifT hf c5
    refine r_aload_n X (x := k.b + (45 + 12 * j.val)) dX5_openingBar_10 rfl ?_
    refine r_iload_n X (x := x1) dX5_openingBar_11 rfl ?_
    obtain ⟨u12, h12, hf⟩ := bdS hf
    refine r_callV0 X [.int x1] [] (K5_difference h12) lkX5_127 clsX5 rfl _ (o_st1 j _) (by decide) (Nat.le_of_ble_eq_true rfl) rfl rfl (Nat.le_of_ble_eq_true rfl) rfl rfl (Nat.zero_le _) (Nat.zero_le _) dX5_openingBar_12 ?_
    refine r_aload_n X (x := k.b + (45 + 12 * j.val)) dX5_openingBar_15 rfl ?_
    refine r_getfield X (v := .ref (k.b + (45 + 12 * j.val + 5))) clsX5 flX5_35 (Nat.le_of_ble_eq_true rfl) _ (o_st1 j _) rfl dX5_openingBar_16 ?_
    refine r_iload_n X (x := x1) dX5_openingBar_19 rfl ?_
    obtain ⟨g20, hf⟩ := gdS hf
    refine r_iaload X (f := SS_rule S) _ (a_st1_rule j _) g20 dX5_openingBar_20 ?_
    suffices K21 : VW k z 0 0 (wAll k T R ly rc hn rp tp ee (updF st j S)) 29 [some (.ref (k.b + (45 + 12 * j.val))), some (.int x1)] [.int (if u12 ≤ ((SS_rule S) (ix x1)) then (0 : Int32) else (2 : Int32))] by
      refine r_icmp_le X 28 dX5_openingBar_21 rfl (fun c21 => ?_) (fun c21 => ?_)
      · refine r_iconst X (v := 0) dX5_openingBar_28 rfl ?_
        rw [if_pos c21] at K21
        exact K21
      · refine r_iconst X (v := 2) dX5_openingBar_24 rfl ?_
        refine r_goto X 29 dX5_openingBar_25 rfl ?_
        rw [if_neg c21] at K21
        exact K21
    obtain rfl := Option.some.inj hf
    exact r_ireturn X hQ rfl rfl (Nat.le_of_ble_eq_true rfl) (Nat.le_of_ble_eq_true rfl) dX5_openingBar_29
  · replace hf := ifF hf c5
    refine r_iconst X (v := 1) dX5_openingBar_8 rfl ?_
    obtain rfl := Option.some.inj hf
    exact r_ireturn X hQ rfl rfl (Nat.le_of_ble_eq_true rfl) (Nat.le_of_ble_eq_true rfl) dX5_openingBar_9
set_option maxRecDepth 100000 in
set_option maxHeartbeats 4000000 in
theorem K5_conditionBar {k : KT} {T : TT} {R : RR} {ly : Fin 2 → LL} {rc : RC} {hn : HN} {rp : RP} {tp : TP} {ee : EE} {st : Fin 12 → SS} {j : Fin 12} {S : SS} {x1 : Int32} {r : Int32} (hf : f5_conditionBar (ly (0 : Fin 2)) S  x1 = some r) : CT k strs yX5_conditionBar cX5_conditionBar 3 (some .int) (rmD 0 0 0) 0 0 [.ref (k.b + (45 + 12 * j.val)), .int x1] (wAll k T R ly rc hn rp tp ee (updF st j S)) (some (.int r)) (wAll k T R ly rc hn rp tp ee (updF st j S)) := by
  refine CT.of (by decide) (Nat.le_of_ble_eq_true rfl) ?_
  intro z X hQ
  show VW k z 0 0 (wAll k T R ly rc hn rp tp ee (updF st j S)) 0 [some (.ref (k.b + (45 + 12 * j.val))), some (.int x1), none] []
  unfold f5_conditionBar at hf
  refine r_aload_n X (x := k.b + (45 + 12 * j.val)) dX5_conditionBar_0 rfl ?_
  refine r_getfield X (v := .ref (k.b + (45 + 12 * j.val + 2))) clsX5 flX5_25 (Nat.le_of_ble_eq_true rfl) _ (o_st1 j _) rfl dX5_conditionBar_1 ?_
  refine r_aload_n X (x := k.b + (45 + 12 * j.val)) dX5_conditionBar_4 rfl ?_
  refine r_getfield X (v := .ref (k.b + (4 + 17 * (0 : Fin 2).val))) clsX5 flX5_54 (Nat.le_of_ble_eq_true rfl) _ (o_st1 j _) rfl dX5_conditionBar_5 ?_
  refine r_getfield X (v := .ref (k.b + (4 + 17 * (0 : Fin 2).val + 4))) clsX1 flX5_136 (Nat.le_of_ble_eq_true rfl) _ (o_lay (0 : Fin 2)) rfl dX5_conditionBar_8 ?_
  refine r_iload_n X (x := x1) dX5_conditionBar_11 rfl ?_
  obtain ⟨g12, hf⟩ := gdS hf
  refine r_iaload X (f := LL_pumpChamber (ly (0 : Fin 2))) _ (a_lay_pumpChamber (0 : Fin 2)) g12 dX5_conditionBar_12 ?_
  obtain ⟨g13, hf⟩ := gdS hf
  refine r_iaload X (f := SS_pressure S) _ (a_st1_pressure j _) g13 dX5_conditionBar_13 ?_
  refine r_aload_n X (x := k.b + (45 + 12 * j.val)) dX5_conditionBar_14 rfl ?_
  refine r_getfield X (v := .ref (k.b + (4 + 17 * (0 : Fin 2).val))) clsX5 flX5_54 (Nat.le_of_ble_eq_true rfl) _ (o_st1 j _) rfl dX5_conditionBar_15 ?_
  refine r_getfield X (v := .ref (k.b + (4 + 17 * (0 : Fin 2).val + 8))) clsX1 flX5_139 (Nat.le_of_ble_eq_true rfl) _ (o_lay (0 : Fin 2)) rfl dX5_conditionBar_18 ?_
  refine r_iload_n X (x := x1) dX5_conditionBar_21 rfl ?_
  refine r_iaload X (f := LL_high (ly (0 : Fin 2))) _ (a_lay_high (0 : Fin 2)) g12 dX5_conditionBar_22 ?_
  refine r_icmp_le X 28 dX5_conditionBar_23 rfl (fun c23 => ?_) (fun c23 => ?_)
  · replace hf := ifT hf c23
    refine r_aload_n X (x := k.b + (45 + 12 * j.val)) dX5_conditionBar_28 rfl ?_
    refine r_getfield X (v := .ref (k.b + (4 + 17 * (0 : Fin 2).val))) clsX5 flX5_54 (Nat.le_of_ble_eq_true rfl) _ (o_st1 j _) rfl dX5_conditionBar_29 ?_
    refine r_getfield X (v := .ref (k.b + (4 + 17 * (0 : Fin 2).val + 5))) clsX1 flX5_142 (Nat.le_of_ble_eq_true rfl) _ (o_lay (0 : Fin 2)) rfl dX5_conditionBar_32 ?_
    refine r_iload_n X (x := x1) dX5_conditionBar_35 rfl ?_
    refine r_iaload X (f := LL_exhaust (ly (0 : Fin 2))) _ (a_lay_exhaust (0 : Fin 2)) g12 dX5_conditionBar_36 ?_
    refine r_istore_n X [some (.ref (k.b + (45 + 12 * j.val))), some (.int x1), some (.int ((LL_exhaust (ly (0 : Fin 2))) (ix x1)))] dX5_conditionBar_37 (Nat.le_of_ble_eq_true rfl) rfl ?_
    refine r_iload_n X (x := (LL_exhaust (ly (0 : Fin 2))) (ix x1)) dX5_conditionBar_38 rfl ?_
    refine r_bipush X (v := 8) dX5_conditionBar_39 rfl ?_
    refine r_icmp_eq X 66 dX5_conditionBar_41 rfl (fun c41 => ?_) (fun c41 => ?_)
    · replace hf := ifT hf c41
      refine r_iconst X (v := 0) dX5_conditionBar_66 rfl ?_
      obtain rfl := Option.some.inj hf
      exact r_ireturn X hQ rfl rfl (Nat.le_of_ble_eq_true rfl) (Nat.le_of_ble_eq_true rfl) dX5_conditionBar_67
    · replace hf := ifF hf c41
      refine r_aload_n X (x := k.b + (45 + 12 * j.val)) dX5_conditionBar_44 rfl ?_
      refine r_getfield X (v := .ref (k.b + (45 + 12 * j.val + 2))) clsX5 flX5_25 (Nat.le_of_ble_eq_true rfl) _ (o_st1 j _) rfl dX5_conditionBar_45 ?_
      refine r_iload_n X (x := (LL_exhaust (ly (0 : Fin 2))) (ix x1)) dX5_conditionBar_48 rfl ?_
      obtain ⟨g49, hf⟩ := gdS hf
      refine r_iaload X (f := SS_pressure S) _ (a_st1_pressure j _) g49 dX5_conditionBar_49 ?_
      refine r_aload_n X (x := k.b + (45 + 12 * j.val)) dX5_conditionBar_50 rfl ?_
      refine r_getfield X (v := .ref (k.b + (4 + 17 * (0 : Fin 2).val))) clsX5 flX5_54 (Nat.le_of_ble_eq_true rfl) _ (o_st1 j _) rfl dX5_conditionBar_51 ?_
      refine r_getfield X (v := .ref (k.b + (4 + 17 * (0 : Fin 2).val + 9))) clsX1 flX5_145 (Nat.le_of_ble_eq_true rfl) _ (o_lay (0 : Fin 2)) rfl dX5_conditionBar_54 ?_
      refine r_iload_n X (x := x1) dX5_conditionBar_57 rfl ?_
      refine r_iaload X (f := LL_backing (ly (0 : Fin 2))) _ (a_lay_backing (0 : Fin 2)) g12 dX5_conditionBar_58 ?_
      refine r_icmp_le X 66 dX5_conditionBar_59 rfl (fun c59 => ?_) (fun c59 => ?_)
      · replace hf := ifT hf c59
        refine r_iconst X (v := 0) dX5_conditionBar_66 rfl ?_
        obtain rfl := Option.some.inj hf
        exact r_ireturn X hQ rfl rfl (Nat.le_of_ble_eq_true rfl) (Nat.le_of_ble_eq_true rfl) dX5_conditionBar_67
      · replace hf := ifF hf c59
        refine r_iconst X (v := 3) dX5_conditionBar_62 rfl ?_
        refine r_goto X 67 dX5_conditionBar_63 rfl ?_
        obtain rfl := Option.some.inj hf
        exact r_ireturn X hQ rfl rfl (Nat.le_of_ble_eq_true rfl) (Nat.le_of_ble_eq_true rfl) dX5_conditionBar_67
  · replace hf := ifF hf c23
    refine r_iconst X (v := 2) dX5_conditionBar_26 rfl ?_
    obtain rfl := Option.some.inj hf
    exact r_ireturn X hQ rfl rfl (Nat.le_of_ble_eq_true rfl) (Nat.le_of_ble_eq_true rfl) dX5_conditionBar_27
set_option maxRecDepth 100000 in
set_option maxHeartbeats 4000000 in
theorem K5_startingBar {k : KT} {T : TT} {R : RR} {ly : Fin 2 → LL} {rc : RC} {hn : HN} {rp : RP} {tp : TP} {ee : EE} {st : Fin 12 → SS} {j : Fin 12} {S : SS} {x1 : Int32} {r : Int32} (hf : f5_startingBar (ly (0 : Fin 2)) S  x1 = some r) : CT k strs yX5_startingBar cX5_startingBar 2 (some .int) (rmD 1 0 0) 0 0 [.ref (k.b + (45 + 12 * j.val)), .int x1] (wAll k T R ly rc hn rp tp ee (updF st j S)) (some (.int r)) (wAll k T R ly rc hn rp tp ee (updF st j S)) := by
  refine CT.of (by decide) (Nat.le_of_ble_eq_true rfl) ?_
  intro z X hQ
  show VW k z 0 0 (wAll k T R ly rc hn rp tp ee (updF st j S)) 0 [some (.ref (k.b + (45 + 12 * j.val))), some (.int x1)] []
  unfold f5_startingBar at hf
  refine r_aload_n X (x := k.b + (45 + 12 * j.val)) dX5_startingBar_0 rfl ?_
  refine r_iload_n X (x := x1) dX5_startingBar_1 rfl ?_
  obtain ⟨u2, h2, hf⟩ := bdS hf
  refine r_callV0 X [.int x1] [] (K5_isRunning h2) lkX5_130 clsX5 rfl _ (o_st1 j _) (by decide) (Nat.le_of_ble_eq_true rfl) rfl rfl (Nat.le_of_ble_eq_true rfl) rfl rfl (Nat.zero_le _) (Nat.zero_le _) dX5_startingBar_2 ?_
  refine r_if_eq X 12 dX5_startingBar_5 rfl (fun c5 => ?_) (fun c5 => ?_)
  · replace hf := ifT hf c5
    refine r_aload_n X (x := k.b + (45 + 12 * j.val)) dX5_startingBar_12 rfl ?_
    refine r_iload_n X (x := x1) dX5_startingBar_13 rfl ?_
    obtain ⟨u14, h14, hf⟩ := bdS hf
    refine r_callV0 X [.int x1] [] (K5_conditionBar h14) lkX5_133 clsX5 rfl _ (o_st1 j _) (by decide) (Nat.le_of_ble_eq_true rfl) rfl rfl (Nat.le_of_ble_eq_true rfl) rfl rfl (Nat.zero_le _) (Nat.zero_le _) dX5_startingBar_14 ?_
    obtain rfl := Option.some.inj hf
    exact r_ireturn X hQ rfl rfl (Nat.le_of_ble_eq_true rfl) (Nat.le_of_ble_eq_true rfl) dX5_startingBar_17
  · replace hf := ifF hf c5
    refine r_iconst X (v := 1) dX5_startingBar_8 rfl ?_
    refine r_goto X 17 dX5_startingBar_9 rfl ?_
    obtain rfl := Option.some.inj hf
    exact r_ireturn X hQ rfl rfl (Nat.le_of_ble_eq_true rfl) (Nat.le_of_ble_eq_true rfl) dX5_startingBar_17
set_option maxRecDepth 100000 in
set_option maxHeartbeats 4000000 in
theorem B5_isShutOff_B62 {k : KT} {z : ZT} {T : TT} {R : RR} {ly : Fin 2 → LL} {rc : RC} {hn : HN} {rp : RP} {tp : TP} {ee : EE} {st : Fin 12 → SS} {j : Fin 12} {S : SS} {r : Int32} (X : XX k strs z RX5 cX5_isShutOff 4 (some .boolean) (rmD 1 0 0)) (hQ : zQ z = MQ (zB z) (Qof k (some (.int r)) (wAll k T R ly rc hn rp tp ee (updF st j S))) (zA z) (zS z) 0 0 (kA k)) (rec : Int32 → Int32 → Option (Int32)) (hrec : ∀ (x1 : Int32) (x2 : Int32), rec x1 x2 = some r → VW k z 0 0 (wAll k T R ly rc hn rp tp ee (updF st j S)) 20 [some (.ref (k.b + (45 + 12 * j.val))), some (.int x1), some (.int x2), none] []) (x1 : Int32) (x2 : Int32) (t0 : Int32) (hf : f5_isShutOff_B62 (ly (0 : Fin 2)) S rec x1 x2 t0 = some r) : VW k z 0 0 (wAll k T R ly rc hn rp tp ee (updF st j S)) 62 [some (.ref (k.b + (45 + 12 * j.val))), some (.int x1), some (.int x2), none] [.int t0] := by
  unfold f5_isShutOff_B62 at hf
  refine r_istore_n X [some (.ref (k.b + (45 + 12 * j.val))), some (.int x1), some (.int x2), some (.int t0)] dX5_isShutOff_62 (Nat.le_of_ble_eq_true rfl) rfl ?_
  refine r_iload_n X (x := t0) dX5_isShutOff_63 rfl ?_
  refine r_if_eq X 77 dX5_isShutOff_64 rfl (fun c64 => ?_) (fun c64 => ?_)
  · replace hf := ifT hf c64
    refine r_iinc X (x := x2) (v := x2 + 1) [some (.ref (k.b + (45 + 12 * j.val))), some (.int x1), some (.int (x2 + 1)), some (.int t0)] dX5_isShutOff_77 rfl rfl rfl ?_
    refine r_goto X 20 dX5_isShutOff_80 rfl ?_
    refine VW.msk [true, true, true, false] rfl (lo' := [some (.ref (k.b + (45 + 12 * j.val))), some (.int x1), some (.int (x2 + 1)), none]) rfl ?_
    exact hrec x1 (x2 + 1) hf
  · replace hf := ifF hf c64
    refine r_aload_n X (x := k.b + (45 + 12 * j.val)) dX5_isShutOff_67 rfl ?_
    refine r_iload_n X (x := x2) dX5_isShutOff_68 rfl ?_
    obtain ⟨u69, h69, hf⟩ := bdS hf
    refine r_callV0 X [.int x2] [] (K5_isRunning h69) lkX5_130 clsX5 rfl _ (o_st1 j _) (by decide) (Nat.le_of_ble_eq_true rfl) rfl rfl (Nat.le_of_ble_eq_true rfl) rfl rfl (Nat.zero_le _) (Nat.zero_le _) dX5_isShutOff_69 ?_
    refine r_if_eq X 77 dX5_isShutOff_72 rfl (fun c72 => ?_) (fun c72 => ?_)
    · replace hf := ifT hf c72
      refine r_iinc X (x := x2) (v := x2 + 1) [some (.ref (k.b + (45 + 12 * j.val))), some (.int x1), some (.int (x2 + 1)), some (.int t0)] dX5_isShutOff_77 rfl rfl rfl ?_
      refine r_goto X 20 dX5_isShutOff_80 rfl ?_
      refine VW.msk [true, true, true, false] rfl (lo' := [some (.ref (k.b + (45 + 12 * j.val))), some (.int x1), some (.int (x2 + 1)), none]) rfl ?_
      exact hrec x1 (x2 + 1) hf
    · replace hf := ifF hf c72
      refine r_iconst X (v := 0) dX5_isShutOff_75 rfl ?_
      obtain rfl := Option.some.inj hf
      exact r_zreturn X hQ rfl rfl (Nat.le_of_ble_eq_true rfl) (Nat.le_of_ble_eq_true rfl) rfl dX5_isShutOff_76
set_option maxRecDepth 100000 in
set_option maxHeartbeats 4000000 in
theorem B5_isShutOff_B20 {k : KT} {z : ZT} {T : TT} {R : RR} {ly : Fin 2 → LL} {rc : RC} {hn : HN} {rp : RP} {tp : TP} {ee : EE} {st : Fin 12 → SS} {j : Fin 12} {S : SS} {r : Int32} (X : XX k strs z RX5 cX5_isShutOff 4 (some .boolean) (rmD 1 0 0)) (hQ : zQ z = MQ (zB z) (Qof k (some (.int r)) (wAll k T R ly rc hn rp tp ee (updF st j S))) (zA z) (zS z) 0 0 (kA k)) : ∀ (fu : Nat) (x1 : Int32) (x2 : Int32), f5_isShutOff_B20 (ly (0 : Fin 2)) S fu x1 x2 = some r → VW k z 0 0 (wAll k T R ly rc hn rp tp ee (updF st j S)) 20 [some (.ref (k.b + (45 + 12 * j.val))), some (.int x1), some (.int x2), none] [] := by
  intro fu
  induction fu with
  | zero =>
    intro x1 x2 hf
    rw [f5_isShutOff_B20] at hf
    cases hf
  | succ fu ih =>
    intro x1 x2 hf
    rw [f5_isShutOff_B20] at hf
    refine r_iload_n X (x := x2) dX5_isShutOff_20 rfl ?_
    refine r_aload_n X (x := k.b + (45 + 12 * j.val)) dX5_isShutOff_21 rfl ?_
    refine r_getfield X (v := .ref (k.b + (4 + 17 * (0 : Fin 2).val))) clsX5 flX5_54 (Nat.le_of_ble_eq_true rfl) _ (o_st1 j _) rfl dX5_isShutOff_22 ?_
    refine r_getfield X (v := .int (LL_pumps (ly (0 : Fin 2)))) clsX1 flX5_79 (Nat.le_of_ble_eq_true rfl) _ (o_lay (0 : Fin 2)) rfl dX5_isShutOff_25 ?_
    refine r_icmp_ge X 83 dX5_isShutOff_28 rfl (fun c28 => ?_) (fun c28 => ?_)
    · replace hf := ifT hf c28
      refine r_iconst X (v := 1) dX5_isShutOff_83 rfl ?_
      obtain rfl := Option.some.inj hf
      exact r_zreturn X hQ rfl rfl (Nat.le_of_ble_eq_true rfl) (Nat.le_of_ble_eq_true rfl) rfl dX5_isShutOff_84
    · replace hf := ifF hf c28
      refine r_aload_n X (x := k.b + (45 + 12 * j.val)) dX5_isShutOff_31 rfl ?_
      refine r_getfield X (v := .ref (k.b + (4 + 17 * (0 : Fin 2).val))) clsX5 flX5_54 (Nat.le_of_ble_eq_true rfl) _ (o_st1 j _) rfl dX5_isShutOff_32 ?_
      refine r_getfield X (v := .ref (k.b + (4 + 17 * (0 : Fin 2).val + 4))) clsX1 flX5_136 (Nat.le_of_ble_eq_true rfl) _ (o_lay (0 : Fin 2)) rfl dX5_isShutOff_35 ?_
      refine r_iload_n X (x := x2) dX5_isShutOff_38 rfl ?_
      obtain ⟨g39, hf⟩ := gdS hf
      refine r_iaload X (f := LL_pumpChamber (ly (0 : Fin 2))) _ (a_lay_pumpChamber (0 : Fin 2)) g39 dX5_isShutOff_39 ?_
      refine r_iload_n X (x := x1) dX5_isShutOff_40 rfl ?_
      refine r_icmp_eq X 57 dX5_isShutOff_41 rfl (fun c41 => ?_) (fun c41 => ?_)
      · replace hf := ifT hf c41
        refine r_iconst X (v := 1) dX5_isShutOff_57 rfl ?_
        refine r_goto X 62 dX5_isShutOff_58 rfl ?_
        exact B5_isShutOff_B62 X hQ (f5_isShutOff_B20 (ly (0 : Fin 2)) S fu) ih x1 x2 1 hf
      · replace hf := ifF hf c41
        refine r_aload_n X (x := k.b + (45 + 12 * j.val)) dX5_isShutOff_44 rfl ?_
        refine r_getfield X (v := .ref (k.b + (4 + 17 * (0 : Fin 2).val))) clsX5 flX5_54 (Nat.le_of_ble_eq_true rfl) _ (o_st1 j _) rfl dX5_isShutOff_45 ?_
        refine r_getfield X (v := .ref (k.b + (4 + 17 * (0 : Fin 2).val + 5))) clsX1 flX5_142 (Nat.le_of_ble_eq_true rfl) _ (o_lay (0 : Fin 2)) rfl dX5_isShutOff_48 ?_
        refine r_iload_n X (x := x2) dX5_isShutOff_51 rfl ?_
        refine r_iaload X (f := LL_exhaust (ly (0 : Fin 2))) _ (a_lay_exhaust (0 : Fin 2)) g39 dX5_isShutOff_52 ?_
        refine r_iload_n X (x := x1) dX5_isShutOff_53 rfl ?_
        refine r_icmp_ne X 61 dX5_isShutOff_54 rfl (fun c54 => ?_) (fun c54 => ?_)
        · replace hf := ifF hf c54
          refine r_iconst X (v := 0) dX5_isShutOff_61 rfl ?_
          exact B5_isShutOff_B62 X hQ (f5_isShutOff_B20 (ly (0 : Fin 2)) S fu) ih x1 x2 0 hf
        · replace hf := ifT hf c54
          refine r_iconst X (v := 1) dX5_isShutOff_57 rfl ?_
          refine r_goto X 62 dX5_isShutOff_58 rfl ?_
          exact B5_isShutOff_B62 X hQ (f5_isShutOff_B20 (ly (0 : Fin 2)) S fu) ih x1 x2 1 hf
set_option maxRecDepth 100000 in
set_option maxHeartbeats 4000000 in
theorem K5_isShutOff {k : KT} {T : TT} {R : RR} {ly : Fin 2 → LL} {rc : RC} {hn : HN} {rp : RP} {tp : TP} {ee : EE} {st : Fin 12 → SS} {j : Fin 12} {S : SS} {x1 : Int32} {r : Int32} (hf : f5_isShutOff (ly (0 : Fin 2)) S  x1 = some r) : CT k strs yX5_isShutOff cX5_isShutOff 4 (some .boolean) (rmD 1 0 0) 0 0 [.ref (k.b + (45 + 12 * j.val)), .int x1] (wAll k T R ly rc hn rp tp ee (updF st j S)) (some (.int r)) (wAll k T R ly rc hn rp tp ee (updF st j S)) := by
  refine CT.of (by decide) (Nat.le_of_ble_eq_true rfl) ?_
  intro z X hQ
  show VW k z 0 0 (wAll k T R ly rc hn rp tp ee (updF st j S)) 0 [some (.ref (k.b + (45 + 12 * j.val))), some (.int x1), none, none] []
  unfold f5_isShutOff at hf
  refine r_aload_n X (x := k.b + (45 + 12 * j.val)) dX5_isShutOff_0 rfl ?_
  refine r_getfield X (v := .ref (k.b + (4 + 17 * (0 : Fin 2).val))) clsX5 flX5_54 (Nat.le_of_ble_eq_true rfl) _ (o_st1 j _) rfl dX5_isShutOff_1 ?_
  refine r_iload_n X (x := x1) dX5_isShutOff_4 rfl ?_
  obtain ⟨u5, h5, hf⟩ := bdS hf
  refine r_callV0 X [.int x1] [] (K1_valvesOf h5) lkX5_148 clsX1 rfl _ (o_lay (0 : Fin 2)) (by decide) (Nat.le_of_ble_eq_true rfl) rfl rfl (Nat.le_of_ble_eq_true rfl) rfl rfl (Nat.zero_le _) (Nat.zero_le _) dX5_isShutOff_5 ?_
  refine r_aload_n X (x := k.b + (45 + 12 * j.val)) dX5_isShutOff_8 rfl ?_
  refine r_getfield X (v := .int (SS_openValves S)) clsX5 flX5_15 (Nat.le_of_ble_eq_true rfl) _ (o_st1 j _) rfl dX5_isShutOff_9 ?_
  refine r_iand X dX5_isShutOff_12 ?_
  refine r_if_eq X 18 dX5_isShutOff_13 rfl (fun c13 => ?_) (fun c13 => ?_)
  · replace hf := ifT hf c13
    refine r_iconst X (v := 0) dX5_isShutOff_18 rfl ?_
    refine r_istore_n X [some (.ref (k.b + (45 + 12 * j.val))), some (.int x1), some (.int 0), none] dX5_isShutOff_19 (Nat.le_of_ble_eq_true rfl) rfl ?_
    exact B5_isShutOff_B20 X hQ FU x1 0 hf
  · replace hf := ifF hf c13
    refine r_iconst X (v := 0) dX5_isShutOff_16 rfl ?_
    obtain rfl := Option.some.inj hf
    exact r_zreturn X hQ rfl rfl (Nat.le_of_ble_eq_true rfl) (Nat.le_of_ble_eq_true rfl) rfl dX5_isShutOff_17
set_option maxRecDepth 100000 in
set_option maxHeartbeats 4000000 in
theorem B5_reach_B6 {k : KT} {z : ZT} {T : TT} {R : RR} {ly : Fin 2 → LL} {rc : RC} {hn : HN} {rp : RP} {tp : TP} {ee : EE} {st : Fin 12 → SS} {j : Fin 12} {S : SS} {r : Int32} (X : XX k strs z RX5 cX5_reach 4 (some .int) (rmD 2 0 0)) (hQ : zQ z = MQ (zB z) (Qof k (some (.int r)) (wAll k T R ly rc hn rp tp ee (updF st j S))) (zA z) (zS z) 0 0 (kA k)) : ∀ (fu : Nat) (x2 : Int32) (x3 : Int32), f5_reach_B6 (ly (0 : Fin 2)) S fu x2 x3 = some r → VW k z 0 0 (wAll k T R ly rc hn rp tp ee (updF st j S)) 6 [some (.ref (k.b + (45 + 12 * j.val))), none, some (.int x2), some (.int x3)] [] := by
  intro fu
  induction fu with
  | zero =>
    intro x2 x3 hf
    rw [f5_reach_B6] at hf
    cases hf
  | succ fu ih =>
    intro x2 x3 hf
    rw [f5_reach_B6] at hf
    refine r_iload_n X (x := x3) dX5_reach_6 rfl ?_
    refine r_bipush X (v := 8) dX5_reach_7 rfl ?_
    refine r_icmp_ge X 31 dX5_reach_9 rfl (fun c9 => ?_) (fun c9 => ?_)
    · replace hf := ifT hf c9
      refine r_iload_n X (x := x2) dX5_reach_31 rfl ?_
      obtain rfl := Option.some.inj hf
      exact r_ireturn X hQ rfl rfl (Nat.le_of_ble_eq_true rfl) (Nat.le_of_ble_eq_true rfl) dX5_reach_32
    · replace hf := ifF hf c9
      refine r_aload_n X (x := k.b + (45 + 12 * j.val)) dX5_reach_12 rfl ?_
      refine r_getfield X (v := .ref (k.b + (4 + 17 * (0 : Fin 2).val))) clsX5 flX5_54 (Nat.le_of_ble_eq_true rfl) _ (o_st1 j _) rfl dX5_reach_13 ?_
      refine r_iload_n X (x := x2) dX5_reach_16 rfl ?_
      refine r_aload_n X (x := k.b + (45 + 12 * j.val)) dX5_reach_17 rfl ?_
      refine r_getfield X (v := .int (SS_openValves S)) clsX5 flX5_15 (Nat.le_of_ble_eq_true rfl) _ (o_st1 j _) rfl dX5_reach_18 ?_
      obtain ⟨u21, h21, hf⟩ := bdS hf
      refine r_callV0 X [.int x2, .int (SS_openValves S)] [] (K1_grown h21) lkX5_151 clsX1 rfl _ (o_lay (0 : Fin 2)) (by decide) (Nat.le_of_ble_eq_true rfl) rfl rfl (Nat.le_of_ble_eq_true rfl) rfl rfl (Nat.zero_le _) (Nat.zero_le _) dX5_reach_21 ?_
      refine r_istore_n X [some (.ref (k.b + (45 + 12 * j.val))), none, some (.int u21), some (.int x3)] dX5_reach_24 (Nat.le_of_ble_eq_true rfl) rfl ?_
      refine r_iinc X (x := x3) (v := x3 + 1) [some (.ref (k.b + (45 + 12 * j.val))), none, some (.int u21), some (.int (x3 + 1))] dX5_reach_25 rfl rfl rfl ?_
      refine r_goto X 6 dX5_reach_28 rfl ?_
      exact ih u21 (x3 + 1) hf
set_option maxRecDepth 100000 in
set_option maxHeartbeats 4000000 in
theorem K5_reach {k : KT} {T : TT} {R : RR} {ly : Fin 2 → LL} {rc : RC} {hn : HN} {rp : RP} {tp : TP} {ee : EE} {st : Fin 12 → SS} {j : Fin 12} {S : SS} {x1 : Int32} {r : Int32} (hf : f5_reach (ly (0 : Fin 2)) S  x1 = some r) : CT k strs yX5_reach cX5_reach 4 (some .int) (rmD 2 0 0) 0 0 [.ref (k.b + (45 + 12 * j.val)), .int x1] (wAll k T R ly rc hn rp tp ee (updF st j S)) (some (.int r)) (wAll k T R ly rc hn rp tp ee (updF st j S)) := by
  refine CT.of (by decide) (Nat.le_of_ble_eq_true rfl) ?_
  intro z X hQ
  show VW k z 0 0 (wAll k T R ly rc hn rp tp ee (updF st j S)) 0 [some (.ref (k.b + (45 + 12 * j.val))), some (.int x1), none, none] []
  unfold f5_reach at hf
  refine r_iconst X (v := 1) dX5_reach_0 rfl ?_
  refine r_iload_n X (x := x1) dX5_reach_1 rfl ?_
  refine r_ishl X dX5_reach_2 ?_
  refine r_istore_n X [some (.ref (k.b + (45 + 12 * j.val))), some (.int x1), some (.int (1 <<< (x1 &&& 31))), none] dX5_reach_3 (Nat.le_of_ble_eq_true rfl) rfl ?_
  refine r_iconst X (v := 0) dX5_reach_4 rfl ?_
  refine r_istore_n X [some (.ref (k.b + (45 + 12 * j.val))), some (.int x1), some (.int (1 <<< (x1 &&& 31))), some (.int 0)] dX5_reach_5 (Nat.le_of_ble_eq_true rfl) rfl ?_
  refine VW.msk [true, false, true, true] rfl (lo' := [some (.ref (k.b + (45 + 12 * j.val))), none, some (.int (1 <<< (x1 &&& 31))), some (.int 0)]) rfl ?_
  exact B5_reach_B6 X hQ FU (1 <<< (x1 &&& 31)) 0 hf
set_option maxRecDepth 100000 in
set_option maxHeartbeats 4000000 in
theorem B5_tripValves_B4 {k : KT} {z : ZT} {T : TT} {R : RR} {ly : Fin 2 → LL} {rc : RC} {hn : HN} {rp : RP} {tp : TP} {ee : EE} {st : Fin 12 → SS} {j : Fin 12} {r : Int32 × (SS)} (X : XX k strs z RX5 cX5_tripValves 3 (some .int) (rmD 2 0 0)) (hQ : zQ z = MQ (zB z) (Qof k (some (.int r.1)) (wAll k T R ly rc hn rp tp ee (updF st j r.2))) (zA z) (zS z) 0 0 (kA k)) : ∀ (fu : Nat) (S : SS) (x1 : Int32) (x2 : Int32), f5_tripValves_B4 (ly (0 : Fin 2)) fu S x1 x2 = some r → VW k z 0 0 (wAll k T R ly rc hn rp tp ee (updF st j S)) 4 [some (.ref (k.b + (45 + 12 * j.val))), some (.int x1), some (.int x2)] [] := by
  intro fu
  induction fu with
  | zero =>
    intro S x1 x2 hf
    rw [f5_tripValves_B4] at hf
    cases hf
  | succ fu ih =>
    intro S x1 x2 hf
    rw [f5_tripValves_B4] at hf
    refine r_iload_n X (x := x2) dX5_tripValves_4 rfl ?_
    refine r_aload_n X (x := k.b + (45 + 12 * j.val)) dX5_tripValves_5 rfl ?_
    refine r_getfield X (v := .ref (k.b + (4 + 17 * (0 : Fin 2).val))) clsX5 flX5_54 (Nat.le_of_ble_eq_true rfl) _ (o_st1 j _) rfl dX5_tripValves_6 ?_
    refine r_getfield X (v := .int (LL_valves (ly (0 : Fin 2)))) clsX1 flX5_82 (Nat.le_of_ble_eq_true rfl) _ (o_lay (0 : Fin 2)) rfl dX5_tripValves_9 ?_
    refine r_icmp_ge X 61 dX5_tripValves_12 rfl (fun c12 => ?_) (fun c12 => ?_)
    · replace hf := ifT hf c12
      refine r_iload_n X (x := x1) dX5_tripValves_61 rfl ?_
      obtain rfl := Option.some.inj hf
      exact r_ireturn X hQ rfl rfl (Nat.le_of_ble_eq_true rfl) (Nat.le_of_ble_eq_true rfl) dX5_tripValves_62
    · replace hf := ifF hf c12
      refine r_aload_n X (x := k.b + (45 + 12 * j.val)) dX5_tripValves_15 rfl ?_
      refine r_iload_n X (x := x2) dX5_tripValves_16 rfl ?_
      obtain ⟨u17, h17, hf⟩ := bdS hf
      refine r_callV0 X [.int x2] [] (K5_isOpen h17) lkX5_123 clsX5 rfl _ (o_st1 j _) (by decide) (Nat.le_of_ble_eq_true rfl) rfl rfl (Nat.le_of_ble_eq_true rfl) rfl rfl (Nat.zero_le _) (Nat.zero_le _) dX5_tripValves_17 ?_
      refine r_if_eq X 55 dX5_tripValves_20 rfl (fun c20 => ?_) (fun c20 => ?_)
      · replace hf := ifT hf c20
        refine r_iinc X (x := x2) (v := x2 + 1) [some (.ref (k.b + (45 + 12 * j.val))), some (.int x1), some (.int (x2 + 1))] dX5_tripValves_55 rfl rfl rfl ?_
        refine r_goto X 4 dX5_tripValves_58 rfl ?_
        exact ih S x1 (x2 + 1) hf
      · replace hf := ifF hf c20
        refine r_aload_n X (x := k.b + (45 + 12 * j.val)) dX5_tripValves_23 rfl ?_
        refine r_iload_n X (x := x2) dX5_tripValves_24 rfl ?_
        obtain ⟨u25, h25, hf⟩ := bdS hf
        refine r_callV0 X [.int x2] [] (K5_difference h25) lkX5_127 clsX5 rfl _ (o_st1 j _) (by decide) (Nat.le_of_ble_eq_true rfl) rfl rfl (Nat.le_of_ble_eq_true rfl) rfl rfl (Nat.zero_le _) (Nat.zero_le _) dX5_tripValves_25 ?_
        refine r_aload_n X (x := k.b + (45 + 12 * j.val)) dX5_tripValves_28 rfl ?_
        refine r_getfield X (v := .ref (k.b + (45 + 12 * j.val + 5))) clsX5 flX5_35 (Nat.le_of_ble_eq_true rfl) _ (o_st1 j _) rfl dX5_tripValves_29 ?_
        refine r_iload_n X (x := x2) dX5_tripValves_32 rfl ?_
        obtain ⟨g33, hf⟩ := gdS hf
        refine r_iaload X (f := SS_rule S) _ (a_st1_rule j _) g33 dX5_tripValves_33 ?_
        refine r_icmp_le X 55 dX5_tripValves_34 rfl (fun c34 => ?_) (fun c34 => ?_)
        · replace hf := ifT hf c34
          refine r_iinc X (x := x2) (v := x2 + 1) [some (.ref (k.b + (45 + 12 * j.val))), some (.int x1), some (.int (x2 + 1))] dX5_tripValves_55 rfl rfl rfl ?_
          refine r_goto X 4 dX5_tripValves_58 rfl ?_
          exact ih S x1 (x2 + 1) hf
        · replace hf := ifF hf c34
          refine r_aload_n X (x := k.b + (45 + 12 * j.val)) dX5_tripValves_37 rfl ?_
          refine r_iload_n X (x := x2) dX5_tripValves_38 rfl ?_
          obtain ⟨u39, h39, hf⟩ := bdS hf
          refine r_callV0 X [.int x2] [] (K5_closeValve h39) lkX5_179 clsX5 rfl _ (o_st1 j _) (by decide) (Nat.le_of_ble_eq_true rfl) rfl rfl (Nat.le_of_ble_eq_true rfl) rfl rfl (Nat.zero_le _) (Nat.zero_le _) dX5_tripValves_39 ?_
          refine r_aload_n X (x := k.b + (45 + 12 * j.val)) dX5_tripValves_42 rfl ?_
          refine r_getfield X (v := .ref (k.b + (45 + 12 * j.val + 6))) clsX5 flX5_38 (Nat.le_of_ble_eq_true rfl) _ (o_st1 j _) rfl dX5_tripValves_43 ?_
          refine r_iload_n X (x := x2) dX5_tripValves_46 rfl ?_
          refine r_dup2 X dX5_tripValves_47 rfl rfl ?_
          refine r_iaload X (f := SS_valveTrips u39) _ (a_st1_valveTrips j _) g33 dX5_tripValves_48 ?_
          refine r_iconst X (v := 1) dX5_tripValves_49 rfl ?_
          refine r_iadd X dX5_tripValves_50 ?_
          refine r_iastore X (f := SS_valveTrips u39) (ws1 := wAll k T R ly rc hn rp tp ee (updF st j (SS_set_valveTrips u39 (upd (SS_valveTrips u39) (ix x2) (((SS_valveTrips u39) (ix x2)) + 1))))) _ (a_st1_valveTrips j _) g33 (s_st_valveTrips j u39 (upd (SS_valveTrips u39) (ix x2) (((SS_valveTrips u39) (ix x2)) + 1))) dX5_tripValves_51 ?_
          refine r_iinc X (x := x1) (v := x1 + 1) [some (.ref (k.b + (45 + 12 * j.val))), some (.int (x1 + 1)), some (.int x2)] dX5_tripValves_52 rfl rfl rfl ?_
          refine r_iinc X (x := x2) (v := x2 + 1) [some (.ref (k.b + (45 + 12 * j.val))), some (.int (x1 + 1)), some (.int (x2 + 1))] dX5_tripValves_55 rfl rfl rfl ?_
          refine r_goto X 4 dX5_tripValves_58 rfl ?_
          exact ih (SS_set_valveTrips u39 (upd (SS_valveTrips u39) (ix x2) (((SS_valveTrips u39) (ix x2)) + 1))) (x1 + 1) (x2 + 1) hf
set_option maxRecDepth 100000 in
set_option maxHeartbeats 4000000 in
theorem K5_tripValves {k : KT} {T : TT} {R : RR} {ly : Fin 2 → LL} {rc : RC} {hn : HN} {rp : RP} {tp : TP} {ee : EE} {st : Fin 12 → SS} {j : Fin 12} {S : SS}  {r : Int32 × (SS)} (hf : f5_tripValves (ly (0 : Fin 2)) S  = some r) : CT k strs yX5_tripValves cX5_tripValves 3 (some .int) (rmD 2 0 0) 0 0 [.ref (k.b + (45 + 12 * j.val))] (wAll k T R ly rc hn rp tp ee (updF st j S)) (some (.int r.1)) (wAll k T R ly rc hn rp tp ee (updF st j r.2)) := by
  refine CT.of (by decide) (Nat.le_of_ble_eq_true rfl) ?_
  intro z X hQ
  show VW k z 0 0 (wAll k T R ly rc hn rp tp ee (updF st j S)) 0 [some (.ref (k.b + (45 + 12 * j.val))), none, none] []
  unfold f5_tripValves at hf
  refine r_iconst X (v := 0) dX5_tripValves_0 rfl ?_
  refine r_istore_n X [some (.ref (k.b + (45 + 12 * j.val))), some (.int 0), none] dX5_tripValves_1 (Nat.le_of_ble_eq_true rfl) rfl ?_
  refine r_iconst X (v := 0) dX5_tripValves_2 rfl ?_
  refine r_istore_n X [some (.ref (k.b + (45 + 12 * j.val))), some (.int 0), some (.int 0)] dX5_tripValves_3 (Nat.le_of_ble_eq_true rfl) rfl ?_
  exact B5_tripValves_B4 X hQ FU S 0 0 hf
set_option maxRecDepth 100000 in
set_option maxHeartbeats 4000000 in
theorem B5_letGasIn_B55 {k : KT} {z : ZT} {T : TT} {R : RR} {ly : Fin 2 → LL} {rc : RC} {hn : HN} {rp : RP} {tp : TP} {ee : EE} {st : Fin 12 → SS} {j : Fin 12} {r : (SS)} (X : XX k strs z RX5 cX5_letGasIn 4 none (rmD 1 0 0)) (hQ : zQ z = MQ (zB z) (Qof k (none) (wAll k T R ly rc hn rp tp ee (updF st j r))) (zA z) (zS z) 0 0 (kA k)) (rec : SS → Int32 → Option ((SS))) (hrec : ∀ (S : SS) (x1 : Int32), rec S x1 = some r → VW k z 0 0 (wAll k T R ly rc hn rp tp ee (updF st j S)) 2 [some (.ref (k.b + (45 + 12 * j.val))), some (.int x1), none, none] []) (S : SS) (x1 : Int32) (x2 : Int32) (hf : f5_letGasIn_B55 (ly (0 : Fin 2)) rec S x1 x2 = some r) : VW k z 0 0 (wAll k T R ly rc hn rp tp ee (updF st j S)) 55 [some (.ref (k.b + (45 + 12 * j.val))), some (.int x1), some (.int x2), none] [] := by
  unfold f5_letGasIn_B55 at hf
  refine r_aload_n X (x := k.b + (45 + 12 * j.val)) dX5_letGasIn_55 rfl ?_
  refine r_iload_n X (x := x1) dX5_letGasIn_56 rfl ?_
  refine r_iload_n X (x := x2) dX5_letGasIn_57 rfl ?_
  refine r_i2l X dX5_letGasIn_58 ?_
  obtain ⟨u59, h59, hf⟩ := bdS hf
  refine r_callV0 X [.int x1, .long x2.toInt64] [] (K5_addGas h59) lkX5_72 clsX5 rfl _ (o_st1 j _) (by decide) (Nat.le_of_ble_eq_true rfl) rfl rfl (Nat.le_of_ble_eq_true rfl) rfl rfl (Nat.zero_le _) (Nat.zero_le _) dX5_letGasIn_59 ?_
  refine r_aload_n X (x := k.b + (45 + 12 * j.val)) dX5_letGasIn_62 rfl ?_
  refine r_getfield X (v := .ref (k.b + (4 + 17 * (0 : Fin 2).val))) clsX5 flX5_54 (Nat.le_of_ble_eq_true rfl) _ (o_st1 j _) rfl dX5_letGasIn_63 ?_
  refine r_getfield X (v := .ref (k.b + (4 + 17 * (0 : Fin 2).val + 3))) clsX1 flX5_184 (Nat.le_of_ble_eq_true rfl) _ (o_lay (0 : Fin 2)) rfl dX5_letGasIn_66 ?_
  refine r_iload_n X (x := x1) dX5_letGasIn_69 rfl ?_
  obtain ⟨g70, hf⟩ := gdS hf
  refine r_iaload X (f := LL_decay (ly (0 : Fin 2))) _ (a_lay_decay (0 : Fin 2)) g70 dX5_letGasIn_70 ?_
  refine r_istore_n X [some (.ref (k.b + (45 + 12 * j.val))), some (.int x1), some (.int x2), some (.int ((LL_decay (ly (0 : Fin 2))) (ix x1)))] dX5_letGasIn_71 (Nat.le_of_ble_eq_true rfl) rfl ?_
  refine r_iload_n X (x := (LL_decay (ly (0 : Fin 2))) (ix x1)) dX5_letGasIn_72 rfl ?_
  refine r_if_le X 93 dX5_letGasIn_73 rfl (fun c73 => ?_) (fun c73 => ?_)
  · replace hf := ifT hf c73
    refine r_iinc X (x := x1) (v := x1 + 1) [some (.ref (k.b + (45 + 12 * j.val))), some (.int (x1 + 1)), some (.int x2), some (.int ((LL_decay (ly (0 : Fin 2))) (ix x1)))] dX5_letGasIn_93 rfl rfl rfl ?_
    refine r_goto X 2 dX5_letGasIn_96 rfl ?_
    refine VW.msk [true, true, false, false] rfl (lo' := [some (.ref (k.b + (45 + 12 * j.val))), some (.int (x1 + 1)), none, none]) rfl ?_
    exact hrec u59 (x1 + 1) hf
  · replace hf := ifF hf c73
    refine r_aload_n X (x := k.b + (45 + 12 * j.val)) dX5_letGasIn_76 rfl ?_
    refine r_getfield X (v := .ref (k.b + (45 + 12 * j.val + 3))) clsX5 flX5_29 (Nat.le_of_ble_eq_true rfl) _ (o_st1 j _) rfl dX5_letGasIn_77 ?_
    refine r_iload_n X (x := x1) dX5_letGasIn_80 rfl ?_
    refine r_dup2 X dX5_letGasIn_81 rfl rfl ?_
    refine r_iaload X (f := SS_outgassing u59) _ (a_st1_outgassing j _) g70 dX5_letGasIn_82 ?_
    refine r_aload_n X (x := k.b + (45 + 12 * j.val)) dX5_letGasIn_83 rfl ?_
    refine r_getfield X (v := .ref (k.b + (45 + 12 * j.val + 3))) clsX5 flX5_29 (Nat.le_of_ble_eq_true rfl) _ (o_st1 j _) rfl dX5_letGasIn_84 ?_
    refine r_iload_n X (x := x1) dX5_letGasIn_87 rfl ?_
    refine r_iaload X (f := SS_outgassing u59) _ (a_st1_outgassing j _) g70 dX5_letGasIn_88 ?_
    refine r_iload_n X (x := (LL_decay (ly (0 : Fin 2))) (ix x1)) dX5_letGasIn_89 rfl ?_
    obtain ⟨g90z, hf⟩ := gdS hf
    refine r_idiv X dX5_letGasIn_90 g90z ?_
    refine r_isub X dX5_letGasIn_91 ?_
    refine r_iastore X (f := SS_outgassing u59) (ws1 := wAll k T R ly rc hn rp tp ee (updF st j (SS_set_outgassing u59 (upd (SS_outgassing u59) (ix x1) (((SS_outgassing u59) (ix x1)) - (((SS_outgassing u59) (ix x1)) / ((LL_decay (ly (0 : Fin 2))) (ix x1)))))))) _ (a_st1_outgassing j _) g70 (s_st_outgassing j u59 (upd (SS_outgassing u59) (ix x1) (((SS_outgassing u59) (ix x1)) - (((SS_outgassing u59) (ix x1)) / ((LL_decay (ly (0 : Fin 2))) (ix x1)))))) dX5_letGasIn_92 ?_
    refine r_iinc X (x := x1) (v := x1 + 1) [some (.ref (k.b + (45 + 12 * j.val))), some (.int (x1 + 1)), some (.int x2), some (.int ((LL_decay (ly (0 : Fin 2))) (ix x1)))] dX5_letGasIn_93 rfl rfl rfl ?_
    refine r_goto X 2 dX5_letGasIn_96 rfl ?_
    refine VW.msk [true, true, false, false] rfl (lo' := [some (.ref (k.b + (45 + 12 * j.val))), some (.int (x1 + 1)), none, none]) rfl ?_
    exact hrec (SS_set_outgassing u59 (upd (SS_outgassing u59) (ix x1) (((SS_outgassing u59) (ix x1)) - (((SS_outgassing u59) (ix x1)) / ((LL_decay (ly (0 : Fin 2))) (ix x1)))))) (x1 + 1) hf
set_option maxRecDepth 100000 in
set_option maxHeartbeats 4000000 in
theorem B5_letGasIn_B35 {k : KT} {z : ZT} {T : TT} {R : RR} {ly : Fin 2 → LL} {rc : RC} {hn : HN} {rp : RP} {tp : TP} {ee : EE} {st : Fin 12 → SS} {j : Fin 12} {r : (SS)} (X : XX k strs z RX5 cX5_letGasIn 4 none (rmD 1 0 0)) (hQ : zQ z = MQ (zB z) (Qof k (none) (wAll k T R ly rc hn rp tp ee (updF st j r))) (zA z) (zS z) 0 0 (kA k)) (rec : SS → Int32 → Option ((SS))) (hrec : ∀ (S : SS) (x1 : Int32), rec S x1 = some r → VW k z 0 0 (wAll k T R ly rc hn rp tp ee (updF st j S)) 2 [some (.ref (k.b + (45 + 12 * j.val))), some (.int x1), none, none] []) (S : SS) (x1 : Int32) (x2 : Int32) (hf : f5_letGasIn_B35 (ly (0 : Fin 2)) rec S x1 x2 = some r) : VW k z 0 0 (wAll k T R ly rc hn rp tp ee (updF st j S)) 35 [some (.ref (k.b + (45 + 12 * j.val))), some (.int x1), some (.int x2), none] [] := by
  unfold f5_letGasIn_B35 at hf
  refine r_aload_n X (x := k.b + (45 + 12 * j.val)) dX5_letGasIn_35 rfl ?_
  refine r_getfield X (v := .ref (k.b + (45 + 12 * j.val + 2))) clsX5 flX5_25 (Nat.le_of_ble_eq_true rfl) _ (o_st1 j _) rfl dX5_letGasIn_36 ?_
  refine r_iload_n X (x := x1) dX5_letGasIn_39 rfl ?_
  obtain ⟨g40, hf⟩ := gdS hf
  refine r_iaload X (f := SS_pressure S) _ (a_st1_pressure j _) g40 dX5_letGasIn_40 ?_
  refine r_ldc X (v := 1000000) coX5_58 dX5_letGasIn_41 ?_
  refine r_icmp_ge X 55 dX5_letGasIn_43 rfl (fun c43 => ?_) (fun c43 => ?_)
  · replace hf := ifT hf c43
    exact B5_letGasIn_B55 X hQ rec hrec S x1 x2 hf
  · replace hf := ifF hf c43
    refine r_iload_n X (x := x2) dX5_letGasIn_46 rfl ?_
    refine r_aload_n X (x := k.b + (45 + 12 * j.val)) dX5_letGasIn_47 rfl ?_
    refine r_getfield X (v := .ref (k.b + (45 + 12 * j.val + 4))) clsX5 flX5_32 (Nat.le_of_ble_eq_true rfl) _ (o_st1 j _) rfl dX5_letGasIn_48 ?_
    refine r_iload_n X (x := x1) dX5_letGasIn_51 rfl ?_
    obtain ⟨g52, hf⟩ := gdS hf
    refine r_iaload X (f := SS_leakSum S) _ (a_st1_leakSum j _) g52 dX5_letGasIn_52 ?_
    refine r_iadd X dX5_letGasIn_53 ?_
    refine r_istore_n X [some (.ref (k.b + (45 + 12 * j.val))), some (.int x1), some (.int (x2 + ((SS_leakSum S) (ix x1)))), none] dX5_letGasIn_54 (Nat.le_of_ble_eq_true rfl) rfl ?_
    exact B5_letGasIn_B55 X hQ rec hrec S x1 (x2 + ((SS_leakSum S) (ix x1))) hf
set_option maxRecDepth 100000 in
set_option maxHeartbeats 4000000 in
theorem B5_letGasIn_B2 {k : KT} {z : ZT} {T : TT} {R : RR} {ly : Fin 2 → LL} {rc : RC} {hn : HN} {rp : RP} {tp : TP} {ee : EE} {st : Fin 12 → SS} {j : Fin 12} {r : (SS)} (X : XX k strs z RX5 cX5_letGasIn 4 none (rmD 1 0 0)) (hQ : zQ z = MQ (zB z) (Qof k (none) (wAll k T R ly rc hn rp tp ee (updF st j r))) (zA z) (zS z) 0 0 (kA k)) : ∀ (fu : Nat) (S : SS) (x1 : Int32), f5_letGasIn_B2 (ly (0 : Fin 2)) fu S x1 = some r → VW k z 0 0 (wAll k T R ly rc hn rp tp ee (updF st j S)) 2 [some (.ref (k.b + (45 + 12 * j.val))), some (.int x1), none, none] [] := by
  intro fu
  induction fu with
  | zero =>
    intro S x1 hf
    rw [f5_letGasIn_B2] at hf
    cases hf
  | succ fu ih =>
    intro S x1 hf
    rw [f5_letGasIn_B2] at hf
    refine r_iload_n X (x := x1) dX5_letGasIn_2 rfl ?_
    refine r_aload_n X (x := k.b + (45 + 12 * j.val)) dX5_letGasIn_3 rfl ?_
    refine r_getfield X (v := .ref (k.b + (4 + 17 * (0 : Fin 2).val))) clsX5 flX5_54 (Nat.le_of_ble_eq_true rfl) _ (o_st1 j _) rfl dX5_letGasIn_4 ?_
    refine r_getfield X (v := .int (LL_chambers (ly (0 : Fin 2)))) clsX1 flX5_62 (Nat.le_of_ble_eq_true rfl) _ (o_lay (0 : Fin 2)) rfl dX5_letGasIn_7 ?_
    refine r_icmp_ge X 99 dX5_letGasIn_10 rfl (fun c10 => ?_) (fun c10 => ?_)
    · replace hf := ifT hf c10
      obtain rfl := Option.some.inj hf
      exact r_return X hQ rfl rfl (Nat.le_of_ble_eq_true rfl) (Nat.le_of_ble_eq_true rfl) dX5_letGasIn_99
    · replace hf := ifF hf c10
      refine r_iconst X (v := 0) dX5_letGasIn_13 rfl ?_
      refine r_istore_n X [some (.ref (k.b + (45 + 12 * j.val))), some (.int x1), some (.int 0), none] dX5_letGasIn_14 (Nat.le_of_ble_eq_true rfl) rfl ?_
      refine r_aload_n X (x := k.b + (45 + 12 * j.val)) dX5_letGasIn_15 rfl ?_
      refine r_getfield X (v := .ref (k.b + (45 + 12 * j.val + 2))) clsX5 flX5_25 (Nat.le_of_ble_eq_true rfl) _ (o_st1 j _) rfl dX5_letGasIn_16 ?_
      refine r_iload_n X (x := x1) dX5_letGasIn_19 rfl ?_
      obtain ⟨g20, hf⟩ := gdS hf
      refine r_iaload X (f := SS_pressure S) _ (a_st1_pressure j _) g20 dX5_letGasIn_20 ?_
      refine r_ldc X (v := 1000000000) coX5_183 dX5_letGasIn_21 ?_
      refine r_icmp_ge X 35 dX5_letGasIn_23 rfl (fun c23 => ?_) (fun c23 => ?_)
      · replace hf := ifT hf c23
        exact B5_letGasIn_B35 X hQ (f5_letGasIn_B2 (ly (0 : Fin 2)) fu) ih S x1 0 hf
      · replace hf := ifF hf c23
        refine r_iload_n X (x := 0) dX5_letGasIn_26 rfl ?_
        refine r_aload_n X (x := k.b + (45 + 12 * j.val)) dX5_letGasIn_27 rfl ?_
        refine r_getfield X (v := .ref (k.b + (45 + 12 * j.val + 3))) clsX5 flX5_29 (Nat.le_of_ble_eq_true rfl) _ (o_st1 j _) rfl dX5_letGasIn_28 ?_
        refine r_iload_n X (x := x1) dX5_letGasIn_31 rfl ?_
        obtain ⟨g32, hf⟩ := gdS hf
        refine r_iaload X (f := SS_outgassing S) _ (a_st1_outgassing j _) g32 dX5_letGasIn_32 ?_
        refine r_iadd X dX5_letGasIn_33 ?_
        refine r_istore_n X [some (.ref (k.b + (45 + 12 * j.val))), some (.int x1), some (.int (0 + ((SS_outgassing S) (ix x1)))), none] dX5_letGasIn_34 (Nat.le_of_ble_eq_true rfl) rfl ?_
        exact B5_letGasIn_B35 X hQ (f5_letGasIn_B2 (ly (0 : Fin 2)) fu) ih S x1 (0 + ((SS_outgassing S) (ix x1))) hf
set_option maxRecDepth 100000 in
set_option maxHeartbeats 4000000 in
theorem K5_letGasIn {k : KT} {T : TT} {R : RR} {ly : Fin 2 → LL} {rc : RC} {hn : HN} {rp : RP} {tp : TP} {ee : EE} {st : Fin 12 → SS} {j : Fin 12} {S : SS}  {r : (SS)} (hf : f5_letGasIn (ly (0 : Fin 2)) S  = some r) : CT k strs yX5_letGasIn cX5_letGasIn 4 none (rmD 1 0 0) 0 0 [.ref (k.b + (45 + 12 * j.val))] (wAll k T R ly rc hn rp tp ee (updF st j S)) (none) (wAll k T R ly rc hn rp tp ee (updF st j r)) := by
  refine CT.of (by decide) (Nat.le_of_ble_eq_true rfl) ?_
  intro z X hQ
  show VW k z 0 0 (wAll k T R ly rc hn rp tp ee (updF st j S)) 0 [some (.ref (k.b + (45 + 12 * j.val))), none, none, none] []
  unfold f5_letGasIn at hf
  refine r_iconst X (v := 0) dX5_letGasIn_0 rfl ?_
  refine r_istore_n X [some (.ref (k.b + (45 + 12 * j.val))), some (.int 0), none, none] dX5_letGasIn_1 (Nat.le_of_ble_eq_true rfl) rfl ?_
  exact B5_letGasIn_B2 X hQ FU S 0 hf
set_option maxRecDepth 100000 in
set_option maxHeartbeats 4000000 in
theorem B5_flow_B87 {k : KT} {z : ZT} {T : TT} {R : RR} {ly : Fin 2 → LL} {rc : RC} {hn : HN} {rp : RP} {tp : TP} {ee : EE} {st : Fin 12 → SS} {j : Fin 12} {r : Int64} (X : XX k strs z RX5 cX5_flow 13 (some .long) (rmD 1 0 0)) (hQ : zQ z = MQ (zB z) (Qof k (some (.long r)) (wAll k T R ly rc hn rp tp ee st)) (zA z) (zS z) 0 0 (kA k)) (x1 : Int32) (x2 : Int64) (x7 : Int64) (hf : f5_flow_B87 (ly (0 : Fin 2)) x1 x2 x7 = some r) : VW k z 0 0 (wAll k T R ly rc hn rp tp ee st) 87 [some (.ref (k.b + (45 + 12 * j.val))), some (.int x1), some (.long x2), none, none, none, none, some (.long x7), none, none, none, none, none] [] := by
  unfold f5_flow_B87 at hf
  refine r_aload_n X (x := k.b + (45 + 12 * j.val)) dX5_flow_87 rfl ?_
  refine r_getfield X (v := .ref (k.b + (4 + 17 * (0 : Fin 2).val))) clsX5 flX5_54 (Nat.le_of_ble_eq_true rfl) _ (o_st j) rfl dX5_flow_88 ?_
  refine r_getfield X (v := .ref (k.b + (4 + 17 * (0 : Fin 2).val + 12))) clsX1 flX5_191 (Nat.le_of_ble_eq_true rfl) _ (o_lay (0 : Fin 2)) rfl dX5_flow_91 ?_
  refine r_iload_n X (x := x1) dX5_flow_94 rfl ?_
  obtain ⟨g95, hf⟩ := gdS hf
  refine r_iaload X (f := LL_conductance (ly (0 : Fin 2))) _ (a_lay_conductance (0 : Fin 2)) g95 dX5_flow_95 ?_
  refine r_i2l X dX5_flow_96 ?_
  refine r_lload_n X (x := x2) dX5_flow_97 rfl ?_
  refine r_lmul X dX5_flow_98 ?_
  refine r_lload X (x := x7) dX5_flow_99 rfl ?_
  refine r_lmin X lkX5_194 rfl ⟨(Nat.le_of_ble_eq_true rfl), (Nat.le_of_ble_eq_true rfl)⟩ (Nat.zero_le _) (Nat.zero_le _) dX5_flow_101 ?_
  obtain rfl := Option.some.inj hf
  exact r_lreturn X hQ rfl rfl (Nat.le_of_ble_eq_true rfl) (Nat.le_of_ble_eq_true rfl) dX5_flow_104
set_option maxRecDepth 100000 in
set_option maxHeartbeats 4000000 in
theorem K5_flow {k : KT} {T : TT} {R : RR} {ly : Fin 2 → LL} {rc : RC} {hn : HN} {rp : RP} {tp : TP} {ee : EE} {st : Fin 12 → SS} {j : Fin 12}  {x1 : Int32} {x2 : Int64} {r : Int64} (hf : f5_flow (ly (0 : Fin 2))  x1 x2 = some r) : CT k strs yX5_flow cX5_flow 13 (some .long) (rmD 1 0 0) 0 0 [.ref (k.b + (45 + 12 * j.val)), .int x1, .long x2] (wAll k T R ly rc hn rp tp ee st) (some (.long r)) (wAll k T R ly rc hn rp tp ee st) := by
  refine CT.of (by decide) (Nat.le_of_ble_eq_true rfl) ?_
  intro z X hQ
  show VW k z 0 0 (wAll k T R ly rc hn rp tp ee st) 0 [some (.ref (k.b + (45 + 12 * j.val))), some (.int x1), some (.long x2), none, none, none, none, none, none, none, none, none, none] []
  unfold f5_flow at hf
  refine r_aload_n X (x := k.b + (45 + 12 * j.val)) dX5_flow_0 rfl ?_
  refine r_getfield X (v := .ref (k.b + (4 + 17 * (0 : Fin 2).val))) clsX5 flX5_54 (Nat.le_of_ble_eq_true rfl) _ (o_st j) rfl dX5_flow_1 ?_
  refine r_getfield X (v := .ref (k.b + (4 + 17 * (0 : Fin 2).val + 1))) clsX1 flX5_67 (Nat.le_of_ble_eq_true rfl) _ (o_lay (0 : Fin 2)) rfl dX5_flow_4 ?_
  refine r_aload_n X (x := k.b + (45 + 12 * j.val)) dX5_flow_7 rfl ?_
  refine r_getfield X (v := .ref (k.b + (4 + 17 * (0 : Fin 2).val))) clsX5 flX5_54 (Nat.le_of_ble_eq_true rfl) _ (o_st j) rfl dX5_flow_8 ?_
  refine r_getfield X (v := .ref (k.b + (4 + 17 * (0 : Fin 2).val + 10))) clsX1 flX5_111 (Nat.le_of_ble_eq_true rfl) _ (o_lay (0 : Fin 2)) rfl dX5_flow_11 ?_
  refine r_iload_n X (x := x1) dX5_flow_14 rfl ?_
  obtain ⟨g15, hf⟩ := gdS hf
  refine r_iaload X (f := LL_valveChamber (ly (0 : Fin 2))) _ (a_lay_valveChamber (0 : Fin 2)) g15 dX5_flow_15 ?_
  obtain ⟨g16, hf⟩ := gdS hf
  refine r_iaload X (f := LL_volume (ly (0 : Fin 2))) _ (a_lay_volume (0 : Fin 2)) g16 dX5_flow_16 ?_
  refine r_i2l X dX5_flow_17 ?_
  refine r_lstore X [some (.ref (k.b + (45 + 12 * j.val))), some (.int x1), some (.long x2), none, some (.long (((LL_volume (ly (0 : Fin 2))) (ix ((LL_valveChamber (ly (0 : Fin 2))) (ix x1)))).toInt64)), none, none, none, none, none, none, none, none] dX5_flow_18 (Nat.le_of_ble_eq_true rfl) rfl ?_
  refine r_aload_n X (x := k.b + (45 + 12 * j.val)) dX5_flow_20 rfl ?_
  refine r_getfield X (v := .ref (k.b + (4 + 17 * (0 : Fin 2).val))) clsX5 flX5_54 (Nat.le_of_ble_eq_true rfl) _ (o_st j) rfl dX5_flow_21 ?_
  refine r_getfield X (v := .ref (k.b + (4 + 17 * (0 : Fin 2).val + 11))) clsX1 flX5_114 (Nat.le_of_ble_eq_true rfl) _ (o_lay (0 : Fin 2)) rfl dX5_flow_24 ?_
  refine r_iload_n X (x := x1) dX5_flow_27 rfl ?_
  refine r_iaload X (f := LL_otherSide (ly (0 : Fin 2))) _ (a_lay_otherSide (0 : Fin 2)) g15 dX5_flow_28 ?_
  refine r_istore X [some (.ref (k.b + (45 + 12 * j.val))), some (.int x1), some (.long x2), none, some (.long (((LL_volume (ly (0 : Fin 2))) (ix ((LL_valveChamber (ly (0 : Fin 2))) (ix x1)))).toInt64)), none, some (.int ((LL_otherSide (ly (0 : Fin 2))) (ix x1))), none, none, none, none, none, none] dX5_flow_29 (Nat.le_of_ble_eq_true rfl) rfl ?_
  refine r_lload_n X (x := x2) dX5_flow_31 rfl ?_
  refine r_lload X (x := ((LL_volume (ly (0 : Fin 2))) (ix ((LL_valveChamber (ly (0 : Fin 2))) (ix x1)))).toInt64) dX5_flow_32 rfl ?_
  refine r_lmul X dX5_flow_34 ?_
  refine r_lstore X [some (.ref (k.b + (45 + 12 * j.val))), some (.int x1), some (.long x2), none, some (.long (((LL_volume (ly (0 : Fin 2))) (ix ((LL_valveChamber (ly (0 : Fin 2))) (ix x1)))).toInt64)), none, some (.int ((LL_otherSide (ly (0 : Fin 2))) (ix x1))), some (.long (x2 * (((LL_volume (ly (0 : Fin 2))) (ix ((LL_valveChamber (ly (0 : Fin 2))) (ix x1)))).toInt64))), none, none, none, none, none] dX5_flow_35 (Nat.le_of_ble_eq_true rfl) rfl ?_
  refine r_iload X (x := (LL_otherSide (ly (0 : Fin 2))) (ix x1)) dX5_flow_37 rfl ?_
  refine r_bipush X (v := 8) dX5_flow_39 rfl ?_
  refine r_icmp_eq X 87 dX5_flow_41 rfl (fun c41 => ?_) (fun c41 => ?_)
  · replace hf := ifT hf c41
    refine VW.msk [true, true, true, false, false, false, false, true, false, false, false, false, false] rfl (lo' := [some (.ref (k.b + (45 + 12 * j.val))), some (.int x1), some (.long x2), none, none, none, none, some (.long (x2 * (((LL_volume (ly (0 : Fin 2))) (ix ((LL_valveChamber (ly (0 : Fin 2))) (ix x1)))).toInt64))), none, none, none, none, none]) rfl ?_
    exact B5_flow_B87 X hQ x1 x2 (x2 * (((LL_volume (ly (0 : Fin 2))) (ix ((LL_valveChamber (ly (0 : Fin 2))) (ix x1)))).toInt64)) hf
  · replace hf := ifF hf c41
    refine r_aload_n X (x := k.b + (45 + 12 * j.val)) dX5_flow_44 rfl ?_
    refine r_getfield X (v := .ref (k.b + (4 + 17 * (0 : Fin 2).val))) clsX5 flX5_54 (Nat.le_of_ble_eq_true rfl) _ (o_st j) rfl dX5_flow_45 ?_
    refine r_getfield X (v := .ref (k.b + (4 + 17 * (0 : Fin 2).val + 1))) clsX1 flX5_67 (Nat.le_of_ble_eq_true rfl) _ (o_lay (0 : Fin 2)) rfl dX5_flow_48 ?_
    refine r_iload X (x := (LL_otherSide (ly (0 : Fin 2))) (ix x1)) dX5_flow_51 rfl ?_
    obtain ⟨g53, hf⟩ := gdS hf
    refine r_iaload X (f := LL_volume (ly (0 : Fin 2))) _ (a_lay_volume (0 : Fin 2)) g53 dX5_flow_53 ?_
    refine r_i2l X dX5_flow_54 ?_
    refine r_lstore X [some (.ref (k.b + (45 + 12 * j.val))), some (.int x1), some (.long x2), none, some (.long (((LL_volume (ly (0 : Fin 2))) (ix ((LL_valveChamber (ly (0 : Fin 2))) (ix x1)))).toInt64)), none, some (.int ((LL_otherSide (ly (0 : Fin 2))) (ix x1))), some (.long (x2 * (((LL_volume (ly (0 : Fin 2))) (ix ((LL_valveChamber (ly (0 : Fin 2))) (ix x1)))).toInt64))), none, some (.long (((LL_volume (ly (0 : Fin 2))) (ix ((LL_otherSide (ly (0 : Fin 2))) (ix x1)))).toInt64)), none, none, none] dX5_flow_55 (Nat.le_of_ble_eq_true rfl) rfl ?_
    refine r_lload X (x := ((LL_volume (ly (0 : Fin 2))) (ix ((LL_valveChamber (ly (0 : Fin 2))) (ix x1)))).toInt64) dX5_flow_57 rfl ?_
    refine r_lload X (x := ((LL_volume (ly (0 : Fin 2))) (ix ((LL_otherSide (ly (0 : Fin 2))) (ix x1)))).toInt64) dX5_flow_59 rfl ?_
    refine r_ladd X dX5_flow_61 ?_
    refine r_lstore X [some (.ref (k.b + (45 + 12 * j.val))), some (.int x1), some (.long x2), none, some (.long (((LL_volume (ly (0 : Fin 2))) (ix ((LL_valveChamber (ly (0 : Fin 2))) (ix x1)))).toInt64)), none, some (.int ((LL_otherSide (ly (0 : Fin 2))) (ix x1))), some (.long (x2 * (((LL_volume (ly (0 : Fin 2))) (ix ((LL_valveChamber (ly (0 : Fin 2))) (ix x1)))).toInt64))), none, some (.long (((LL_volume (ly (0 : Fin 2))) (ix ((LL_otherSide (ly (0 : Fin 2))) (ix x1)))).toInt64)), none, some (.long ((((LL_volume (ly (0 : Fin 2))) (ix ((LL_valveChamber (ly (0 : Fin 2))) (ix x1)))).toInt64) + (((LL_volume (ly (0 : Fin 2))) (ix ((LL_otherSide (ly (0 : Fin 2))) (ix x1)))).toInt64))), none] dX5_flow_62 (Nat.le_of_ble_eq_true rfl) rfl ?_
    refine r_lload X (x := (((LL_volume (ly (0 : Fin 2))) (ix ((LL_valveChamber (ly (0 : Fin 2))) (ix x1)))).toInt64) + (((LL_volume (ly (0 : Fin 2))) (ix ((LL_otherSide (ly (0 : Fin 2))) (ix x1)))).toInt64)) dX5_flow_64 rfl ?_
    refine r_lconst X (v := 0) dX5_flow_66 rfl ?_
    refine r_lcmp_le X 84 dX5_flow_67 dX5_flow_68 rfl (fun c67 => ?_) (fun c67 => ?_)
    · replace hf := ifT hf c67
      refine r_lconst X (v := 0) dX5_flow_84 rfl ?_
      refine r_lstore X [some (.ref (k.b + (45 + 12 * j.val))), some (.int x1), some (.long x2), none, some (.long (((LL_volume (ly (0 : Fin 2))) (ix ((LL_valveChamber (ly (0 : Fin 2))) (ix x1)))).toInt64)), none, some (.int ((LL_otherSide (ly (0 : Fin 2))) (ix x1))), some (.long 0), none, some (.long (((LL_volume (ly (0 : Fin 2))) (ix ((LL_otherSide (ly (0 : Fin 2))) (ix x1)))).toInt64)), none, some (.long ((((LL_volume (ly (0 : Fin 2))) (ix ((LL_valveChamber (ly (0 : Fin 2))) (ix x1)))).toInt64) + (((LL_volume (ly (0 : Fin 2))) (ix ((LL_otherSide (ly (0 : Fin 2))) (ix x1)))).toInt64))), none] dX5_flow_85 (Nat.le_of_ble_eq_true rfl) rfl ?_
      refine VW.msk [true, true, true, false, false, false, false, true, false, false, false, false, false] rfl (lo' := [some (.ref (k.b + (45 + 12 * j.val))), some (.int x1), some (.long x2), none, none, none, none, some (.long 0), none, none, none, none, none]) rfl ?_
      exact B5_flow_B87 X hQ x1 x2 0 hf
    · replace hf := ifF hf c67
      refine r_lload_n X (x := x2) dX5_flow_71 rfl ?_
      refine r_lload X (x := ((LL_volume (ly (0 : Fin 2))) (ix ((LL_valveChamber (ly (0 : Fin 2))) (ix x1)))).toInt64) dX5_flow_72 rfl ?_
      refine r_lmul X dX5_flow_74 ?_
      refine r_lload X (x := ((LL_volume (ly (0 : Fin 2))) (ix ((LL_otherSide (ly (0 : Fin 2))) (ix x1)))).toInt64) dX5_flow_75 rfl ?_
      refine r_lmul X dX5_flow_77 ?_
      refine r_lload X (x := (((LL_volume (ly (0 : Fin 2))) (ix ((LL_valveChamber (ly (0 : Fin 2))) (ix x1)))).toInt64) + (((LL_volume (ly (0 : Fin 2))) (ix ((LL_otherSide (ly (0 : Fin 2))) (ix x1)))).toInt64)) dX5_flow_78 rfl ?_
      obtain ⟨g80z, hf⟩ := gdS hf
      refine r_ldiv X dX5_flow_80 g80z ?_
      refine r_goto X 85 dX5_flow_81 rfl ?_
      refine r_lstore X [some (.ref (k.b + (45 + 12 * j.val))), some (.int x1), some (.long x2), none, some (.long (((LL_volume (ly (0 : Fin 2))) (ix ((LL_valveChamber (ly (0 : Fin 2))) (ix x1)))).toInt64)), none, some (.int ((LL_otherSide (ly (0 : Fin 2))) (ix x1))), some (.long (((x2 * (((LL_volume (ly (0 : Fin 2))) (ix ((LL_valveChamber (ly (0 : Fin 2))) (ix x1)))).toInt64)) * (((LL_volume (ly (0 : Fin 2))) (ix ((LL_otherSide (ly (0 : Fin 2))) (ix x1)))).toInt64)) / ((((LL_volume (ly (0 : Fin 2))) (ix ((LL_valveChamber (ly (0 : Fin 2))) (ix x1)))).toInt64) + (((LL_volume (ly (0 : Fin 2))) (ix ((LL_otherSide (ly (0 : Fin 2))) (ix x1)))).toInt64)))), none, some (.long (((LL_volume (ly (0 : Fin 2))) (ix ((LL_otherSide (ly (0 : Fin 2))) (ix x1)))).toInt64)), none, some (.long ((((LL_volume (ly (0 : Fin 2))) (ix ((LL_valveChamber (ly (0 : Fin 2))) (ix x1)))).toInt64) + (((LL_volume (ly (0 : Fin 2))) (ix ((LL_otherSide (ly (0 : Fin 2))) (ix x1)))).toInt64))), none] dX5_flow_85 (Nat.le_of_ble_eq_true rfl) rfl ?_
      refine VW.msk [true, true, true, false, false, false, false, true, false, false, false, false, false] rfl (lo' := [some (.ref (k.b + (45 + 12 * j.val))), some (.int x1), some (.long x2), none, none, none, none, some (.long (((x2 * (((LL_volume (ly (0 : Fin 2))) (ix ((LL_valveChamber (ly (0 : Fin 2))) (ix x1)))).toInt64)) * (((LL_volume (ly (0 : Fin 2))) (ix ((LL_otherSide (ly (0 : Fin 2))) (ix x1)))).toInt64)) / ((((LL_volume (ly (0 : Fin 2))) (ix ((LL_valveChamber (ly (0 : Fin 2))) (ix x1)))).toInt64) + (((LL_volume (ly (0 : Fin 2))) (ix ((LL_otherSide (ly (0 : Fin 2))) (ix x1)))).toInt64)))), none, none, none, none, none]) rfl ?_
      exact B5_flow_B87 X hQ x1 x2 (((x2 * (((LL_volume (ly (0 : Fin 2))) (ix ((LL_valveChamber (ly (0 : Fin 2))) (ix x1)))).toInt64)) * (((LL_volume (ly (0 : Fin 2))) (ix ((LL_otherSide (ly (0 : Fin 2))) (ix x1)))).toInt64)) / ((((LL_volume (ly (0 : Fin 2))) (ix ((LL_valveChamber (ly (0 : Fin 2))) (ix x1)))).toInt64) + (((LL_volume (ly (0 : Fin 2))) (ix ((LL_otherSide (ly (0 : Fin 2))) (ix x1)))).toInt64))) hf
set_option maxRecDepth 100000 in
set_option maxHeartbeats 4000000 in
theorem B5_moveThroughValves_B79 {k : KT} {z : ZT} {T : TT} {R : RR} {ly : Fin 2 → LL} {rc : RC} {hn : HN} {rp : RP} {tp : TP} {ee : EE} {st : Fin 12 → SS} {j : Fin 12} {r : (SS)} (X : XX k strs z RX5 cX5_moveThroughValves 6 none (rmD 2 0 0)) (hQ : zQ z = MQ (zB z) (Qof k (none) (wAll k T R ly rc hn rp tp ee (updF st j r))) (zA z) (zS z) 0 0 (kA k)) (rec : SS → Int32 → Option ((SS))) (hrec : ∀ (S : SS) (x1 : Int32), rec S x1 = some r → VW k z 0 0 (wAll k T R ly rc hn rp tp ee (updF st j S)) 2 [some (.ref (k.b + (45 + 12 * j.val))), some (.int x1), none, none, none, none] []) (S : SS) (x1 : Int32) (x2 : Int32) (x3 : Int32) (hf : f5_moveThroughValves_B79 (ly (0 : Fin 2)) rec S x1 x2 x3 = some r) : VW k z 0 0 (wAll k T R ly rc hn rp tp ee (updF st j S)) 79 [some (.ref (k.b + (45 + 12 * j.val))), some (.int x1), some (.int x2), some (.int x3), none, none] [] := by
  unfold f5_moveThroughValves_B79 at hf
  refine r_aload_n X (x := k.b + (45 + 12 * j.val)) dX5_moveThroughValves_79 rfl ?_
  refine r_iload_n X (x := x1) dX5_moveThroughValves_80 rfl ?_
  refine r_aload_n X (x := k.b + (45 + 12 * j.val)) dX5_moveThroughValves_81 rfl ?_
  refine r_getfield X (v := .ref (k.b + (45 + 12 * j.val + 2))) clsX5 flX5_25 (Nat.le_of_ble_eq_true rfl) _ (o_st1 j _) rfl dX5_moveThroughValves_82 ?_
  refine r_iload_n X (x := x2) dX5_moveThroughValves_85 rfl ?_
  obtain ⟨g86, hf⟩ := gdS hf
  refine r_iaload X (f := SS_pressure S) _ (a_st1_pressure j _) g86 dX5_moveThroughValves_86 ?_
  refine r_i2l X dX5_moveThroughValves_87 ?_
  refine r_aload_n X (x := k.b + (45 + 12 * j.val)) dX5_moveThroughValves_88 rfl ?_
  refine r_getfield X (v := .ref (k.b + (45 + 12 * j.val + 2))) clsX5 flX5_25 (Nat.le_of_ble_eq_true rfl) _ (o_st1 j _) rfl dX5_moveThroughValves_89 ?_
  refine r_iload_n X (x := x3) dX5_moveThroughValves_92 rfl ?_
  obtain ⟨g93, hf⟩ := gdS hf
  refine r_iaload X (f := SS_pressure S) _ (a_st1_pressure j _) g93 dX5_moveThroughValves_93 ?_
  refine r_i2l X dX5_moveThroughValves_94 ?_
  refine r_lsub X dX5_moveThroughValves_95 ?_
  obtain ⟨u96, h96, hf⟩ := bdS hf
  refine r_callV0 X [.int x1, .long ((((SS_pressure S) (ix x2)).toInt64) - (((SS_pressure S) (ix x3)).toInt64))] [] (K5_flow h96) lkX5_187 clsX5 rfl _ (o_st1 j _) (by decide) (Nat.le_of_ble_eq_true rfl) rfl rfl (Nat.le_of_ble_eq_true rfl) rfl rfl (Nat.zero_le _) (Nat.zero_le _) dX5_moveThroughValves_96 ?_
  refine r_lstore X [some (.ref (k.b + (45 + 12 * j.val))), some (.int x1), some (.int x2), some (.int x3), some (.long u96), none] dX5_moveThroughValves_99 (Nat.le_of_ble_eq_true rfl) rfl ?_
  refine r_aload_n X (x := k.b + (45 + 12 * j.val)) dX5_moveThroughValves_101 rfl ?_
  refine r_iload_n X (x := x2) dX5_moveThroughValves_102 rfl ?_
  refine r_lload X (x := u96) dX5_moveThroughValves_103 rfl ?_
  refine r_lneg X dX5_moveThroughValves_105 ?_
  obtain ⟨u106, h106, hf⟩ := bdS hf
  refine r_callV0 X [.int x2, .long (-u96)] [] (K5_addGas h106) lkX5_72 clsX5 rfl _ (o_st1 j _) (by decide) (Nat.le_of_ble_eq_true rfl) rfl rfl (Nat.le_of_ble_eq_true rfl) rfl rfl (Nat.zero_le _) (Nat.zero_le _) dX5_moveThroughValves_106 ?_
  refine r_aload_n X (x := k.b + (45 + 12 * j.val)) dX5_moveThroughValves_109 rfl ?_
  refine r_iload_n X (x := x3) dX5_moveThroughValves_110 rfl ?_
  refine r_lload X (x := u96) dX5_moveThroughValves_111 rfl ?_
  obtain ⟨u113, h113, hf⟩ := bdS hf
  refine r_callV0 X [.int x3, .long u96] [] (K5_addGas h113) lkX5_72 clsX5 rfl _ (o_st1 j _) (by decide) (Nat.le_of_ble_eq_true rfl) rfl rfl (Nat.le_of_ble_eq_true rfl) rfl rfl (Nat.zero_le _) (Nat.zero_le _) dX5_moveThroughValves_113 ?_
  refine r_iinc X (x := x1) (v := x1 + 1) [some (.ref (k.b + (45 + 12 * j.val))), some (.int (x1 + 1)), some (.int x2), some (.int x3), some (.long u96), none] dX5_moveThroughValves_116 rfl rfl rfl ?_
  refine r_goto X 2 dX5_moveThroughValves_119 rfl ?_
  refine VW.msk [true, true, false, false, false, false] rfl (lo' := [some (.ref (k.b + (45 + 12 * j.val))), some (.int (x1 + 1)), none, none, none, none]) rfl ?_
  exact hrec u113 (x1 + 1) hf
set_option maxRecDepth 100000 in
set_option maxHeartbeats 4000000 in
theorem B5_moveThroughValves_B2 {k : KT} {z : ZT} {T : TT} {R : RR} {ly : Fin 2 → LL} {rc : RC} {hn : HN} {rp : RP} {tp : TP} {ee : EE} {st : Fin 12 → SS} {j : Fin 12} {r : (SS)} (X : XX k strs z RX5 cX5_moveThroughValves 6 none (rmD 2 0 0)) (hQ : zQ z = MQ (zB z) (Qof k (none) (wAll k T R ly rc hn rp tp ee (updF st j r))) (zA z) (zS z) 0 0 (kA k)) : ∀ (fu : Nat) (S : SS) (x1 : Int32), f5_moveThroughValves_B2 (ly (0 : Fin 2)) fu S x1 = some r → VW k z 0 0 (wAll k T R ly rc hn rp tp ee (updF st j S)) 2 [some (.ref (k.b + (45 + 12 * j.val))), some (.int x1), none, none, none, none] [] := by
  intro fu
  induction fu with
  | zero =>
    intro S x1 hf
    rw [f5_moveThroughValves_B2] at hf
    cases hf
  | succ fu ih =>
    intro S x1 hf
    rw [f5_moveThroughValves_B2] at hf
    refine r_iload_n X (x := x1) dX5_moveThroughValves_2 rfl ?_
    refine r_aload_n X (x := k.b + (45 + 12 * j.val)) dX5_moveThroughValves_3 rfl ?_
    refine r_getfield X (v := .ref (k.b + (4 + 17 * (0 : Fin 2).val))) clsX5 flX5_54 (Nat.le_of_ble_eq_true rfl) _ (o_st1 j _) rfl dX5_moveThroughValves_4 ?_
    refine r_getfield X (v := .int (LL_valves (ly (0 : Fin 2)))) clsX1 flX5_82 (Nat.le_of_ble_eq_true rfl) _ (o_lay (0 : Fin 2)) rfl dX5_moveThroughValves_7 ?_
    refine r_icmp_ge X 122 dX5_moveThroughValves_10 rfl (fun c10 => ?_) (fun c10 => ?_)
    · replace hf := ifT hf c10
      obtain rfl := Option.some.inj hf
      exact r_return X hQ rfl rfl (Nat.le_of_ble_eq_true rfl) (Nat.le_of_ble_eq_true rfl) dX5_moveThroughValves_122
    · replace hf := ifF hf c10
      refine r_aload_n X (x := k.b + (45 + 12 * j.val)) dX5_moveThroughValves_13 rfl ?_
      refine r_iload_n X (x := x1) dX5_moveThroughValves_14 rfl ?_
      obtain ⟨u15, h15, hf⟩ := bdS hf
      refine r_callV0 X [.int x1] [] (K5_isOpen h15) lkX5_123 clsX5 rfl _ (o_st1 j _) (by decide) (Nat.le_of_ble_eq_true rfl) rfl rfl (Nat.le_of_ble_eq_true rfl) rfl rfl (Nat.zero_le _) (Nat.zero_le _) dX5_moveThroughValves_15 ?_
      refine r_if_ne X 24 dX5_moveThroughValves_18 rfl (fun c18 => ?_) (fun c18 => ?_)
      · replace hf := ifF hf c18
        refine r_aload_n X (x := k.b + (45 + 12 * j.val)) dX5_moveThroughValves_24 rfl ?_
        refine r_getfield X (v := .ref (k.b + (4 + 17 * (0 : Fin 2).val))) clsX5 flX5_54 (Nat.le_of_ble_eq_true rfl) _ (o_st1 j _) rfl dX5_moveThroughValves_25 ?_
        refine r_getfield X (v := .ref (k.b + (4 + 17 * (0 : Fin 2).val + 10))) clsX1 flX5_111 (Nat.le_of_ble_eq_true rfl) _ (o_lay (0 : Fin 2)) rfl dX5_moveThroughValves_28 ?_
        refine r_iload_n X (x := x1) dX5_moveThroughValves_31 rfl ?_
        obtain ⟨g32, hf⟩ := gdS hf
        refine r_iaload X (f := LL_valveChamber (ly (0 : Fin 2))) _ (a_lay_valveChamber (0 : Fin 2)) g32 dX5_moveThroughValves_32 ?_
        refine r_istore_n X [some (.ref (k.b + (45 + 12 * j.val))), some (.int x1), some (.int ((LL_valveChamber (ly (0 : Fin 2))) (ix x1))), none, none, none] dX5_moveThroughValves_33 (Nat.le_of_ble_eq_true rfl) rfl ?_
        refine r_aload_n X (x := k.b + (45 + 12 * j.val)) dX5_moveThroughValves_34 rfl ?_
        refine r_getfield X (v := .ref (k.b + (4 + 17 * (0 : Fin 2).val))) clsX5 flX5_54 (Nat.le_of_ble_eq_true rfl) _ (o_st1 j _) rfl dX5_moveThroughValves_35 ?_
        refine r_getfield X (v := .ref (k.b + (4 + 17 * (0 : Fin 2).val + 11))) clsX1 flX5_114 (Nat.le_of_ble_eq_true rfl) _ (o_lay (0 : Fin 2)) rfl dX5_moveThroughValves_38 ?_
        refine r_iload_n X (x := x1) dX5_moveThroughValves_41 rfl ?_
        refine r_iaload X (f := LL_otherSide (ly (0 : Fin 2))) _ (a_lay_otherSide (0 : Fin 2)) g32 dX5_moveThroughValves_42 ?_
        refine r_istore_n X [some (.ref (k.b + (45 + 12 * j.val))), some (.int x1), some (.int ((LL_valveChamber (ly (0 : Fin 2))) (ix x1))), some (.int ((LL_otherSide (ly (0 : Fin 2))) (ix x1))), none, none] dX5_moveThroughValves_43 (Nat.le_of_ble_eq_true rfl) rfl ?_
        refine r_aload_n X (x := k.b + (45 + 12 * j.val)) dX5_moveThroughValves_44 rfl ?_
        refine r_getfield X (v := .ref (k.b + (45 + 12 * j.val + 2))) clsX5 flX5_25 (Nat.le_of_ble_eq_true rfl) _ (o_st1 j _) rfl dX5_moveThroughValves_45 ?_
        refine r_iload_n X (x := (LL_valveChamber (ly (0 : Fin 2))) (ix x1)) dX5_moveThroughValves_48 rfl ?_
        obtain ⟨g49, hf⟩ := gdS hf
        refine r_iaload X (f := SS_pressure S) _ (a_st1_pressure j _) g49 dX5_moveThroughValves_49 ?_
        refine r_aload_n X (x := k.b + (45 + 12 * j.val)) dX5_moveThroughValves_50 rfl ?_
        refine r_getfield X (v := .ref (k.b + (45 + 12 * j.val + 2))) clsX5 flX5_25 (Nat.le_of_ble_eq_true rfl) _ (o_st1 j _) rfl dX5_moveThroughValves_51 ?_
        refine r_iload_n X (x := (LL_otherSide (ly (0 : Fin 2))) (ix x1)) dX5_moveThroughValves_54 rfl ?_
        obtain ⟨g55, hf⟩ := gdS hf
        refine r_iaload X (f := SS_pressure S) _ (a_st1_pressure j _) g55 dX5_moveThroughValves_55 ?_
        refine r_icmp_ge X 79 dX5_moveThroughValves_56 rfl (fun c56 => ?_) (fun c56 => ?_)
        · replace hf := ifT hf c56
          exact B5_moveThroughValves_B79 X hQ (f5_moveThroughValves_B2 (ly (0 : Fin 2)) fu) ih S x1 ((LL_valveChamber (ly (0 : Fin 2))) (ix x1)) ((LL_otherSide (ly (0 : Fin 2))) (ix x1)) hf
        · replace hf := ifF hf c56
          refine r_aload_n X (x := k.b + (45 + 12 * j.val)) dX5_moveThroughValves_59 rfl ?_
          refine r_getfield X (v := .ref (k.b + (4 + 17 * (0 : Fin 2).val))) clsX5 flX5_54 (Nat.le_of_ble_eq_true rfl) _ (o_st1 j _) rfl dX5_moveThroughValves_60 ?_
          refine r_getfield X (v := .ref (k.b + (4 + 17 * (0 : Fin 2).val + 11))) clsX1 flX5_114 (Nat.le_of_ble_eq_true rfl) _ (o_lay (0 : Fin 2)) rfl dX5_moveThroughValves_63 ?_
          refine r_iload_n X (x := x1) dX5_moveThroughValves_66 rfl ?_
          refine r_iaload X (f := LL_otherSide (ly (0 : Fin 2))) _ (a_lay_otherSide (0 : Fin 2)) g32 dX5_moveThroughValves_67 ?_
          refine r_istore_n X [some (.ref (k.b + (45 + 12 * j.val))), some (.int x1), some (.int ((LL_otherSide (ly (0 : Fin 2))) (ix x1))), some (.int ((LL_otherSide (ly (0 : Fin 2))) (ix x1))), none, none] dX5_moveThroughValves_68 (Nat.le_of_ble_eq_true rfl) rfl ?_
          refine r_aload_n X (x := k.b + (45 + 12 * j.val)) dX5_moveThroughValves_69 rfl ?_
          refine r_getfield X (v := .ref (k.b + (4 + 17 * (0 : Fin 2).val))) clsX5 flX5_54 (Nat.le_of_ble_eq_true rfl) _ (o_st1 j _) rfl dX5_moveThroughValves_70 ?_
          refine r_getfield X (v := .ref (k.b + (4 + 17 * (0 : Fin 2).val + 10))) clsX1 flX5_111 (Nat.le_of_ble_eq_true rfl) _ (o_lay (0 : Fin 2)) rfl dX5_moveThroughValves_73 ?_
          refine r_iload_n X (x := x1) dX5_moveThroughValves_76 rfl ?_
          refine r_iaload X (f := LL_valveChamber (ly (0 : Fin 2))) _ (a_lay_valveChamber (0 : Fin 2)) g32 dX5_moveThroughValves_77 ?_
          refine r_istore_n X [some (.ref (k.b + (45 + 12 * j.val))), some (.int x1), some (.int ((LL_otherSide (ly (0 : Fin 2))) (ix x1))), some (.int ((LL_valveChamber (ly (0 : Fin 2))) (ix x1))), none, none] dX5_moveThroughValves_78 (Nat.le_of_ble_eq_true rfl) rfl ?_
          exact B5_moveThroughValves_B79 X hQ (f5_moveThroughValves_B2 (ly (0 : Fin 2)) fu) ih S x1 ((LL_otherSide (ly (0 : Fin 2))) (ix x1)) ((LL_valveChamber (ly (0 : Fin 2))) (ix x1)) hf
      · replace hf := ifT hf c18
        refine r_goto X 116 dX5_moveThroughValves_21 rfl ?_
        refine r_iinc X (x := x1) (v := x1 + 1) [some (.ref (k.b + (45 + 12 * j.val))), some (.int (x1 + 1)), none, none, none, none] dX5_moveThroughValves_116 rfl rfl rfl ?_
        refine r_goto X 2 dX5_moveThroughValves_119 rfl ?_
        exact ih S (x1 + 1) hf
set_option maxRecDepth 100000 in
set_option maxHeartbeats 4000000 in
theorem K5_moveThroughValves {k : KT} {T : TT} {R : RR} {ly : Fin 2 → LL} {rc : RC} {hn : HN} {rp : RP} {tp : TP} {ee : EE} {st : Fin 12 → SS} {j : Fin 12} {S : SS}  {r : (SS)} (hf : f5_moveThroughValves (ly (0 : Fin 2)) S  = some r) : CT k strs yX5_moveThroughValves cX5_moveThroughValves 6 none (rmD 2 0 0) 0 0 [.ref (k.b + (45 + 12 * j.val))] (wAll k T R ly rc hn rp tp ee (updF st j S)) (none) (wAll k T R ly rc hn rp tp ee (updF st j r)) := by
  refine CT.of (by decide) (Nat.le_of_ble_eq_true rfl) ?_
  intro z X hQ
  show VW k z 0 0 (wAll k T R ly rc hn rp tp ee (updF st j S)) 0 [some (.ref (k.b + (45 + 12 * j.val))), none, none, none, none, none] []
  unfold f5_moveThroughValves at hf
  refine r_iconst X (v := 0) dX5_moveThroughValves_0 rfl ?_
  refine r_istore_n X [some (.ref (k.b + (45 + 12 * j.val))), some (.int 0), none, none, none, none] dX5_moveThroughValves_1 (Nat.le_of_ble_eq_true rfl) rfl ?_
  exact B5_moveThroughValves_B2 X hQ FU S 0 hf
set_option maxRecDepth 100000 in
set_option maxHeartbeats 4000000 in
theorem B5_runPumps_B4 {k : KT} {z : ZT} {T : TT} {R : RR} {ly : Fin 2 → LL} {rc : RC} {hn : HN} {rp : RP} {tp : TP} {ee : EE} {st : Fin 12 → SS} {j : Fin 12} {r : Int32 × (SS)} (X : XX k strs z RX5 cX5_runPumps 6 (some .int) (rmD 1 0 0)) (hQ : zQ z = MQ (zB z) (Qof k (some (.int r.1)) (wAll k T R ly rc hn rp tp ee (updF st j r.2))) (zA z) (zS z) 0 0 (kA k)) : ∀ (fu : Nat) (S : SS) (x1 : Int32) (x2 : Int32), f5_runPumps_B4 (ly (0 : Fin 2)) fu S x1 x2 = some r → VW k z 0 0 (wAll k T R ly rc hn rp tp ee (updF st j S)) 4 [some (.ref (k.b + (45 + 12 * j.val))), some (.int x1), some (.int x2), none, none, none] [] := by
  intro fu
  induction fu with
  | zero =>
    intro S x1 x2 hf
    rw [f5_runPumps_B4] at hf
    cases hf
  | succ fu ih =>
    intro S x1 x2 hf
    rw [f5_runPumps_B4] at hf
    refine r_iload_n X (x := x2) dX5_runPumps_4 rfl ?_
    refine r_aload_n X (x := k.b + (45 + 12 * j.val)) dX5_runPumps_5 rfl ?_
    refine r_getfield X (v := .ref (k.b + (4 + 17 * (0 : Fin 2).val))) clsX5 flX5_54 (Nat.le_of_ble_eq_true rfl) _ (o_st1 j _) rfl dX5_runPumps_6 ?_
    refine r_getfield X (v := .int (LL_pumps (ly (0 : Fin 2)))) clsX1 flX5_79 (Nat.le_of_ble_eq_true rfl) _ (o_lay (0 : Fin 2)) rfl dX5_runPumps_9 ?_
    refine r_icmp_ge X 155 dX5_runPumps_12 rfl (fun c12 => ?_) (fun c12 => ?_)
    · replace hf := ifT hf c12
      refine r_iload_n X (x := x1) dX5_runPumps_155 rfl ?_
      obtain rfl := Option.some.inj hf
      exact r_ireturn X hQ rfl rfl (Nat.le_of_ble_eq_true rfl) (Nat.le_of_ble_eq_true rfl) dX5_runPumps_156
    · replace hf := ifF hf c12
      refine r_aload_n X (x := k.b + (45 + 12 * j.val)) dX5_runPumps_15 rfl ?_
      refine r_iload_n X (x := x2) dX5_runPumps_16 rfl ?_
      obtain ⟨u17, h17, hf⟩ := bdS hf
      refine r_callV0 X [.int x2] [] (K5_isRunning h17) lkX5_130 clsX5 rfl _ (o_st1 j _) (by decide) (Nat.le_of_ble_eq_true rfl) rfl rfl (Nat.le_of_ble_eq_true rfl) rfl rfl (Nat.zero_le _) (Nat.zero_le _) dX5_runPumps_17 ?_
      refine r_if_ne X 26 dX5_runPumps_20 rfl (fun c20 => ?_) (fun c20 => ?_)
      · replace hf := ifF hf c20
        refine r_aload_n X (x := k.b + (45 + 12 * j.val)) dX5_runPumps_26 rfl ?_
        refine r_getfield X (v := .ref (k.b + (4 + 17 * (0 : Fin 2).val))) clsX5 flX5_54 (Nat.le_of_ble_eq_true rfl) _ (o_st1 j _) rfl dX5_runPumps_27 ?_
        refine r_getfield X (v := .ref (k.b + (4 + 17 * (0 : Fin 2).val + 4))) clsX1 flX5_136 (Nat.le_of_ble_eq_true rfl) _ (o_lay (0 : Fin 2)) rfl dX5_runPumps_30 ?_
        refine r_iload_n X (x := x2) dX5_runPumps_33 rfl ?_
        obtain ⟨g34, hf⟩ := gdS hf
        refine r_iaload X (f := LL_pumpChamber (ly (0 : Fin 2))) _ (a_lay_pumpChamber (0 : Fin 2)) g34 dX5_runPumps_34 ?_
        refine r_istore_n X [some (.ref (k.b + (45 + 12 * j.val))), some (.int x1), some (.int x2), some (.int ((LL_pumpChamber (ly (0 : Fin 2))) (ix x2))), none, none] dX5_runPumps_35 (Nat.le_of_ble_eq_true rfl) rfl ?_
        refine r_aload_n X (x := k.b + (45 + 12 * j.val)) dX5_runPumps_36 rfl ?_
        refine r_iload_n X (x := x2) dX5_runPumps_37 rfl ?_
        obtain ⟨u38, h38, hf⟩ := bdS hf
        refine r_callV0 X [.int x2] [] (K5_conditionBar h38) lkX5_133 clsX5 rfl _ (o_st1 j _) (by decide) (Nat.le_of_ble_eq_true rfl) rfl rfl (Nat.le_of_ble_eq_true rfl) rfl rfl (Nat.zero_le _) (Nat.zero_le _) dX5_runPumps_38 ?_
        refine r_if_eq X 65 dX5_runPumps_41 rfl (fun c41 => ?_) (fun c41 => ?_)
        · replace hf := ifT hf c41
          refine r_aload_n X (x := k.b + (45 + 12 * j.val)) dX5_runPumps_65 rfl ?_
          refine r_getfield X (v := .ref (k.b + (45 + 12 * j.val + 2))) clsX5 flX5_25 (Nat.le_of_ble_eq_true rfl) _ (o_st1 j _) rfl dX5_runPumps_66 ?_
          refine r_iload_n X (x := (LL_pumpChamber (ly (0 : Fin 2))) (ix x2)) dX5_runPumps_69 rfl ?_
          obtain ⟨g70, hf⟩ := gdS hf
          refine r_iaload X (f := SS_pressure S) _ (a_st1_pressure j _) g70 dX5_runPumps_70 ?_
          refine r_aload_n X (x := k.b + (45 + 12 * j.val)) dX5_runPumps_71 rfl ?_
          refine r_getfield X (v := .ref (k.b + (4 + 17 * (0 : Fin 2).val))) clsX5 flX5_54 (Nat.le_of_ble_eq_true rfl) _ (o_st1 j _) rfl dX5_runPumps_72 ?_
          refine r_getfield X (v := .ref (k.b + (4 + 17 * (0 : Fin 2).val + 7))) clsX1 flX5_201 (Nat.le_of_ble_eq_true rfl) _ (o_lay (0 : Fin 2)) rfl dX5_runPumps_75 ?_
          refine r_iload_n X (x := x2) dX5_runPumps_78 rfl ?_
          refine r_iaload X (f := LL_low (ly (0 : Fin 2))) _ (a_lay_low (0 : Fin 2)) g34 dX5_runPumps_79 ?_
          refine r_icmp_le X 149 dX5_runPumps_80 rfl (fun c80 => ?_) (fun c80 => ?_)
          · replace hf := ifT hf c80
            refine r_iinc X (x := x2) (v := x2 + 1) [some (.ref (k.b + (45 + 12 * j.val))), some (.int x1), some (.int (x2 + 1)), some (.int ((LL_pumpChamber (ly (0 : Fin 2))) (ix x2))), none, none] dX5_runPumps_149 rfl rfl rfl ?_
            refine r_goto X 4 dX5_runPumps_152 rfl ?_
            refine VW.msk [true, true, true, false, false, false] rfl (lo' := [some (.ref (k.b + (45 + 12 * j.val))), some (.int x1), some (.int (x2 + 1)), none, none, none]) rfl ?_
            exact ih S x1 (x2 + 1) hf
          · replace hf := ifF hf c80
            refine r_aload_n X (x := k.b + (45 + 12 * j.val)) dX5_runPumps_83 rfl ?_
            refine r_getfield X (v := .ref (k.b + (4 + 17 * (0 : Fin 2).val))) clsX5 flX5_54 (Nat.le_of_ble_eq_true rfl) _ (o_st1 j _) rfl dX5_runPumps_84 ?_
            refine r_getfield X (v := .ref (k.b + (4 + 17 * (0 : Fin 2).val + 6))) clsX1 flX5_204 (Nat.le_of_ble_eq_true rfl) _ (o_lay (0 : Fin 2)) rfl dX5_runPumps_87 ?_
            refine r_iload_n X (x := x2) dX5_runPumps_90 rfl ?_
            refine r_iaload X (f := LL_speed (ly (0 : Fin 2))) _ (a_lay_speed (0 : Fin 2)) g34 dX5_runPumps_91 ?_
            refine r_i2l X dX5_runPumps_92 ?_
            refine r_aload_n X (x := k.b + (45 + 12 * j.val)) dX5_runPumps_93 rfl ?_
            refine r_getfield X (v := .ref (k.b + (45 + 12 * j.val + 2))) clsX5 flX5_25 (Nat.le_of_ble_eq_true rfl) _ (o_st1 j _) rfl dX5_runPumps_94 ?_
            refine r_iload_n X (x := (LL_pumpChamber (ly (0 : Fin 2))) (ix x2)) dX5_runPumps_97 rfl ?_
            refine r_iaload X (f := SS_pressure S) _ (a_st1_pressure j _) g70 dX5_runPumps_98 ?_
            refine r_aload_n X (x := k.b + (45 + 12 * j.val)) dX5_runPumps_99 rfl ?_
            refine r_getfield X (v := .ref (k.b + (4 + 17 * (0 : Fin 2).val))) clsX5 flX5_54 (Nat.le_of_ble_eq_true rfl) _ (o_st1 j _) rfl dX5_runPumps_100 ?_
            refine r_getfield X (v := .ref (k.b + (4 + 17 * (0 : Fin 2).val + 7))) clsX1 flX5_201 (Nat.le_of_ble_eq_true rfl) _ (o_lay (0 : Fin 2)) rfl dX5_runPumps_103 ?_
            refine r_iload_n X (x := x2) dX5_runPumps_106 rfl ?_
            refine r_iaload X (f := LL_low (ly (0 : Fin 2))) _ (a_lay_low (0 : Fin 2)) g34 dX5_runPumps_107 ?_
            refine r_isub X dX5_runPumps_108 ?_
            refine r_i2l X dX5_runPumps_109 ?_
            refine r_lmul X dX5_runPumps_110 ?_
            refine r_lstore X [some (.ref (k.b + (45 + 12 * j.val))), some (.int x1), some (.int x2), some (.int ((LL_pumpChamber (ly (0 : Fin 2))) (ix x2))), some (.long ((((LL_speed (ly (0 : Fin 2))) (ix x2)).toInt64) * ((((SS_pressure S) (ix ((LL_pumpChamber (ly (0 : Fin 2))) (ix x2)))) - ((LL_low (ly (0 : Fin 2))) (ix x2))).toInt64))), none] dX5_runPumps_111 (Nat.le_of_ble_eq_true rfl) rfl ?_
            refine r_lload X (x := (((LL_speed (ly (0 : Fin 2))) (ix x2)).toInt64) * ((((SS_pressure S) (ix ((LL_pumpChamber (ly (0 : Fin 2))) (ix x2)))) - ((LL_low (ly (0 : Fin 2))) (ix x2))).toInt64)) dX5_runPumps_113 rfl ?_
            refine r_aload_n X (x := k.b + (45 + 12 * j.val)) dX5_runPumps_115 rfl ?_
            refine r_getfield X (v := .ref (k.b + (45 + 12 * j.val + 1))) clsX5 flX5_21 (Nat.le_of_ble_eq_true rfl) _ (o_st1 j _) rfl dX5_runPumps_116 ?_
            refine r_iload_n X (x := (LL_pumpChamber (ly (0 : Fin 2))) (ix x2)) dX5_runPumps_119 rfl ?_
            obtain ⟨g120, hf⟩ := gdS hf
            refine r_laload X (f := SS_gas S) _ (a_st1_gas j _) g120 dX5_runPumps_120 ?_
            refine r_lmin X lkX5_194 rfl ⟨(Nat.le_of_ble_eq_true rfl), (Nat.le_of_ble_eq_true rfl)⟩ (Nat.zero_le _) (Nat.zero_le _) dX5_runPumps_121 ?_
            refine r_lstore X [some (.ref (k.b + (45 + 12 * j.val))), some (.int x1), some (.int x2), some (.int ((LL_pumpChamber (ly (0 : Fin 2))) (ix x2))), some (.long (if ((SS_gas S) (ix ((LL_pumpChamber (ly (0 : Fin 2))) (ix x2)))) < ((((LL_speed (ly (0 : Fin 2))) (ix x2)).toInt64) * ((((SS_pressure S) (ix ((LL_pumpChamber (ly (0 : Fin 2))) (ix x2)))) - ((LL_low (ly (0 : Fin 2))) (ix x2))).toInt64)) then ((SS_gas S) (ix ((LL_pumpChamber (ly (0 : Fin 2))) (ix x2)))) else ((((LL_speed (ly (0 : Fin 2))) (ix x2)).toInt64) * ((((SS_pressure S) (ix ((LL_pumpChamber (ly (0 : Fin 2))) (ix x2)))) - ((LL_low (ly (0 : Fin 2))) (ix x2))).toInt64)))), none] dX5_runPumps_124 (Nat.le_of_ble_eq_true rfl) rfl ?_
            refine r_aload_n X (x := k.b + (45 + 12 * j.val)) dX5_runPumps_126 rfl ?_
            refine r_iload_n X (x := (LL_pumpChamber (ly (0 : Fin 2))) (ix x2)) dX5_runPumps_127 rfl ?_
            refine r_lload X (x := (if ((SS_gas S) (ix ((LL_pumpChamber (ly (0 : Fin 2))) (ix x2)))) < ((((LL_speed (ly (0 : Fin 2))) (ix x2)).toInt64) * ((((SS_pressure S) (ix ((LL_pumpChamber (ly (0 : Fin 2))) (ix x2)))) - ((LL_low (ly (0 : Fin 2))) (ix x2))).toInt64)) then ((SS_gas S) (ix ((LL_pumpChamber (ly (0 : Fin 2))) (ix x2)))) else ((((LL_speed (ly (0 : Fin 2))) (ix x2)).toInt64) * ((((SS_pressure S) (ix ((LL_pumpChamber (ly (0 : Fin 2))) (ix x2)))) - ((LL_low (ly (0 : Fin 2))) (ix x2))).toInt64)))) dX5_runPumps_128 rfl ?_
            refine r_lneg X dX5_runPumps_130 ?_
            obtain ⟨u131, h131, hf⟩ := bdS hf
            refine r_callV0 X [.int ((LL_pumpChamber (ly (0 : Fin 2))) (ix x2)), .long (-(if ((SS_gas S) (ix ((LL_pumpChamber (ly (0 : Fin 2))) (ix x2)))) < ((((LL_speed (ly (0 : Fin 2))) (ix x2)).toInt64) * ((((SS_pressure S) (ix ((LL_pumpChamber (ly (0 : Fin 2))) (ix x2)))) - ((LL_low (ly (0 : Fin 2))) (ix x2))).toInt64)) then ((SS_gas S) (ix ((LL_pumpChamber (ly (0 : Fin 2))) (ix x2)))) else ((((LL_speed (ly (0 : Fin 2))) (ix x2)).toInt64) * ((((SS_pressure S) (ix ((LL_pumpChamber (ly (0 : Fin 2))) (ix x2)))) - ((LL_low (ly (0 : Fin 2))) (ix x2))).toInt64))))] [] (K5_addGas h131) lkX5_72 clsX5 rfl _ (o_st1 j _) (by decide) (Nat.le_of_ble_eq_true rfl) rfl rfl (Nat.le_of_ble_eq_true rfl) rfl rfl (Nat.zero_le _) (Nat.zero_le _) dX5_runPumps_131 ?_
            refine r_aload_n X (x := k.b + (45 + 12 * j.val)) dX5_runPumps_134 rfl ?_
            refine r_aload_n X (x := k.b + (45 + 12 * j.val)) dX5_runPumps_135 rfl ?_
            refine r_getfield X (v := .ref (k.b + (4 + 17 * (0 : Fin 2).val))) clsX5 flX5_54 (Nat.le_of_ble_eq_true rfl) _ (o_st1 j _) rfl dX5_runPumps_136 ?_
            refine r_getfield X (v := .ref (k.b + (4 + 17 * (0 : Fin 2).val + 5))) clsX1 flX5_142 (Nat.le_of_ble_eq_true rfl) _ (o_lay (0 : Fin 2)) rfl dX5_runPumps_139 ?_
            refine r_iload_n X (x := x2) dX5_runPumps_142 rfl ?_
            refine r_iaload X (f := LL_exhaust (ly (0 : Fin 2))) _ (a_lay_exhaust (0 : Fin 2)) g34 dX5_runPumps_143 ?_
            refine r_lload X (x := (if ((SS_gas S) (ix ((LL_pumpChamber (ly (0 : Fin 2))) (ix x2)))) < ((((LL_speed (ly (0 : Fin 2))) (ix x2)).toInt64) * ((((SS_pressure S) (ix ((LL_pumpChamber (ly (0 : Fin 2))) (ix x2)))) - ((LL_low (ly (0 : Fin 2))) (ix x2))).toInt64)) then ((SS_gas S) (ix ((LL_pumpChamber (ly (0 : Fin 2))) (ix x2)))) else ((((LL_speed (ly (0 : Fin 2))) (ix x2)).toInt64) * ((((SS_pressure S) (ix ((LL_pumpChamber (ly (0 : Fin 2))) (ix x2)))) - ((LL_low (ly (0 : Fin 2))) (ix x2))).toInt64)))) dX5_runPumps_144 rfl ?_
            obtain ⟨u146, h146, hf⟩ := bdS hf
            refine r_callV0 X [.int ((LL_exhaust (ly (0 : Fin 2))) (ix x2)), .long (if ((SS_gas S) (ix ((LL_pumpChamber (ly (0 : Fin 2))) (ix x2)))) < ((((LL_speed (ly (0 : Fin 2))) (ix x2)).toInt64) * ((((SS_pressure S) (ix ((LL_pumpChamber (ly (0 : Fin 2))) (ix x2)))) - ((LL_low (ly (0 : Fin 2))) (ix x2))).toInt64)) then ((SS_gas S) (ix ((LL_pumpChamber (ly (0 : Fin 2))) (ix x2)))) else ((((LL_speed (ly (0 : Fin 2))) (ix x2)).toInt64) * ((((SS_pressure S) (ix ((LL_pumpChamber (ly (0 : Fin 2))) (ix x2)))) - ((LL_low (ly (0 : Fin 2))) (ix x2))).toInt64)))] [] (K5_addGas h146) lkX5_72 clsX5 rfl _ (o_st1 j _) (by decide) (Nat.le_of_ble_eq_true rfl) rfl rfl (Nat.le_of_ble_eq_true rfl) rfl rfl (Nat.zero_le _) (Nat.zero_le _) dX5_runPumps_146 ?_
            refine r_iinc X (x := x2) (v := x2 + 1) [some (.ref (k.b + (45 + 12 * j.val))), some (.int x1), some (.int (x2 + 1)), some (.int ((LL_pumpChamber (ly (0 : Fin 2))) (ix x2))), some (.long (if ((SS_gas S) (ix ((LL_pumpChamber (ly (0 : Fin 2))) (ix x2)))) < ((((LL_speed (ly (0 : Fin 2))) (ix x2)).toInt64) * ((((SS_pressure S) (ix ((LL_pumpChamber (ly (0 : Fin 2))) (ix x2)))) - ((LL_low (ly (0 : Fin 2))) (ix x2))).toInt64)) then ((SS_gas S) (ix ((LL_pumpChamber (ly (0 : Fin 2))) (ix x2)))) else ((((LL_speed (ly (0 : Fin 2))) (ix x2)).toInt64) * ((((SS_pressure S) (ix ((LL_pumpChamber (ly (0 : Fin 2))) (ix x2)))) - ((LL_low (ly (0 : Fin 2))) (ix x2))).toInt64)))), none] dX5_runPumps_149 rfl rfl rfl ?_
            refine r_goto X 4 dX5_runPumps_152 rfl ?_
            refine VW.msk [true, true, true, false, false, false] rfl (lo' := [some (.ref (k.b + (45 + 12 * j.val))), some (.int x1), some (.int (x2 + 1)), none, none, none]) rfl ?_
            exact ih u146 x1 (x2 + 1) hf
        · replace hf := ifF hf c41
          refine r_aload_n X (x := k.b + (45 + 12 * j.val)) dX5_runPumps_44 rfl ?_
          refine r_iload_n X (x := x2) dX5_runPumps_45 rfl ?_
          obtain ⟨u46, h46, hf⟩ := bdS hf
          refine r_callV0 X [.int x2] [] (K5_stopPump h46) lkX5_198 clsX5 rfl _ (o_st1 j _) (by decide) (Nat.le_of_ble_eq_true rfl) rfl rfl (Nat.le_of_ble_eq_true rfl) rfl rfl (Nat.zero_le _) (Nat.zero_le _) dX5_runPumps_46 ?_
          refine r_aload_n X (x := k.b + (45 + 12 * j.val)) dX5_runPumps_49 rfl ?_
          refine r_getfield X (v := .ref (k.b + (45 + 12 * j.val + 7))) clsX5 flX5_41 (Nat.le_of_ble_eq_true rfl) _ (o_st1 j _) rfl dX5_runPumps_50 ?_
          refine r_iload_n X (x := x2) dX5_runPumps_53 rfl ?_
          refine r_dup2 X dX5_runPumps_54 rfl rfl ?_
          refine r_iaload X (f := SS_pumpTrips u46) _ (a_st1_pumpTrips j _) g34 dX5_runPumps_55 ?_
          refine r_iconst X (v := 1) dX5_runPumps_56 rfl ?_
          refine r_iadd X dX5_runPumps_57 ?_
          refine r_iastore X (f := SS_pumpTrips u46) (ws1 := wAll k T R ly rc hn rp tp ee (updF st j (SS_set_pumpTrips u46 (upd (SS_pumpTrips u46) (ix x2) (((SS_pumpTrips u46) (ix x2)) + 1))))) _ (a_st1_pumpTrips j _) g34 (s_st_pumpTrips j u46 (upd (SS_pumpTrips u46) (ix x2) (((SS_pumpTrips u46) (ix x2)) + 1))) dX5_runPumps_58 ?_
          refine r_iinc X (x := x1) (v := x1 + 1) [some (.ref (k.b + (45 + 12 * j.val))), some (.int (x1 + 1)), some (.int x2), some (.int ((LL_pumpChamber (ly (0 : Fin 2))) (ix x2))), none, none] dX5_runPumps_59 rfl rfl rfl ?_
          refine r_goto X 149 dX5_runPumps_62 rfl ?_
          refine r_iinc X (x := x2) (v := x2 + 1) [some (.ref (k.b + (45 + 12 * j.val))), some (.int (x1 + 1)), some (.int (x2 + 1)), some (.int ((LL_pumpChamber (ly (0 : Fin 2))) (ix x2))), none, none] dX5_runPumps_149 rfl rfl rfl ?_
          refine r_goto X 4 dX5_runPumps_152 rfl ?_
          refine VW.msk [true, true, true, false, false, false] rfl (lo' := [some (.ref (k.b + (45 + 12 * j.val))), some (.int (x1 + 1)), some (.int (x2 + 1)), none, none, none]) rfl ?_
          exact ih (SS_set_pumpTrips u46 (upd (SS_pumpTrips u46) (ix x2) (((SS_pumpTrips u46) (ix x2)) + 1))) (x1 + 1) (x2 + 1) hf
      · replace hf := ifT hf c20
        refine r_goto X 149 dX5_runPumps_23 rfl ?_
        refine r_iinc X (x := x2) (v := x2 + 1) [some (.ref (k.b + (45 + 12 * j.val))), some (.int x1), some (.int (x2 + 1)), none, none, none] dX5_runPumps_149 rfl rfl rfl ?_
        refine r_goto X 4 dX5_runPumps_152 rfl ?_
        exact ih S x1 (x2 + 1) hf
set_option maxRecDepth 100000 in
set_option maxHeartbeats 4000000 in
theorem K5_runPumps {k : KT} {T : TT} {R : RR} {ly : Fin 2 → LL} {rc : RC} {hn : HN} {rp : RP} {tp : TP} {ee : EE} {st : Fin 12 → SS} {j : Fin 12} {S : SS}  {r : Int32 × (SS)} (hf : f5_runPumps (ly (0 : Fin 2)) S  = some r) : CT k strs yX5_runPumps cX5_runPumps 6 (some .int) (rmD 1 0 0) 0 0 [.ref (k.b + (45 + 12 * j.val))] (wAll k T R ly rc hn rp tp ee (updF st j S)) (some (.int r.1)) (wAll k T R ly rc hn rp tp ee (updF st j r.2)) := by
  refine CT.of (by decide) (Nat.le_of_ble_eq_true rfl) ?_
  intro z X hQ
  show VW k z 0 0 (wAll k T R ly rc hn rp tp ee (updF st j S)) 0 [some (.ref (k.b + (45 + 12 * j.val))), none, none, none, none, none] []
  unfold f5_runPumps at hf
  refine r_iconst X (v := 0) dX5_runPumps_0 rfl ?_
  refine r_istore_n X [some (.ref (k.b + (45 + 12 * j.val))), some (.int 0), none, none, none, none] dX5_runPumps_1 (Nat.le_of_ble_eq_true rfl) rfl ?_
  refine r_iconst X (v := 0) dX5_runPumps_2 rfl ?_
  refine r_istore_n X [some (.ref (k.b + (45 + 12 * j.val))), some (.int 0), some (.int 0), none, none, none] dX5_runPumps_3 (Nat.le_of_ble_eq_true rfl) rfl ?_
  exact B5_runPumps_B4 X hQ FU S 0 0 hf
set_option maxRecDepth 100000 in
set_option maxHeartbeats 4000000 in
theorem K5_tick {k : KT} {T : TT} {R : RR} {ly : Fin 2 → LL} {rc : RC} {hn : HN} {rp : RP} {tp : TP} {ee : EE} {st : Fin 12 → SS} {j : Fin 12} {S : SS}  {r : Int32 × (SS)} (hf : f5_tick (ly (0 : Fin 2)) S  = some r) : CT k strs yX5_tick cX5_tick 2 (some .int) (rmD 3 0 0) 0 0 [.ref (k.b + (45 + 12 * j.val))] (wAll k T R ly rc hn rp tp ee (updF st j S)) (some (.int r.1)) (wAll k T R ly rc hn rp tp ee (updF st j r.2)) := by
  refine CT.of (by decide) (Nat.le_of_ble_eq_true rfl) ?_
  intro z X hQ
  show VW k z 0 0 (wAll k T R ly rc hn rp tp ee (updF st j S)) 0 [some (.ref (k.b + (45 + 12 * j.val))), none] []
  unfold f5_tick at hf
  refine r_aload_n X (x := k.b + (45 + 12 * j.val)) dX5_tick_0 rfl ?_
  obtain ⟨u1, h1, hf⟩ := bdS hf
  refine r_callV0 X [] [] (K5_tripValves h1) lkX5_167 clsX5 rfl _ (o_st1 j _) (by decide) (Nat.le_of_ble_eq_true rfl) rfl rfl (Nat.le_of_ble_eq_true rfl) rfl rfl (Nat.zero_le _) (Nat.zero_le _) dX5_tick_1 ?_
  refine r_istore_n X [some (.ref (k.b + (45 + 12 * j.val))), some (.int u1.1)] dX5_tick_4 (Nat.le_of_ble_eq_true rfl) rfl ?_
  refine r_aload_n X (x := k.b + (45 + 12 * j.val)) dX5_tick_5 rfl ?_
  obtain ⟨u6, h6, hf⟩ := bdS hf
  refine r_callV0 X [] [] (K5_letGasIn h6) lkX5_170 clsX5 rfl _ (o_st1 j _) (by decide) (Nat.le_of_ble_eq_true rfl) rfl rfl (Nat.le_of_ble_eq_true rfl) rfl rfl (Nat.zero_le _) (Nat.zero_le _) dX5_tick_6 ?_
  refine r_aload_n X (x := k.b + (45 + 12 * j.val)) dX5_tick_9 rfl ?_
  obtain ⟨u10, h10, hf⟩ := bdS hf
  refine r_callV0 X [] [] (K5_moveThroughValves h10) lkX5_173 clsX5 rfl _ (o_st1 j _) (by decide) (Nat.le_of_ble_eq_true rfl) rfl rfl (Nat.le_of_ble_eq_true rfl) rfl rfl (Nat.zero_le _) (Nat.zero_le _) dX5_tick_10 ?_
  refine r_iload_n X (x := u1.1) dX5_tick_13 rfl ?_
  refine r_aload_n X (x := k.b + (45 + 12 * j.val)) dX5_tick_14 rfl ?_
  obtain ⟨u15, h15, hf⟩ := bdS hf
  refine r_callV0 X [] [.int u1.1] (K5_runPumps h15) lkX5_176 clsX5 rfl _ (o_st1 j _) (by decide) (Nat.le_of_ble_eq_true rfl) rfl rfl (Nat.le_of_ble_eq_true rfl) rfl rfl (Nat.zero_le _) (Nat.zero_le _) dX5_tick_15 ?_
  refine r_iadd X dX5_tick_18 ?_
  refine r_istore_n X [some (.ref (k.b + (45 + 12 * j.val))), some (.int (u1.1 + u15.1))] dX5_tick_19 (Nat.le_of_ble_eq_true rfl) rfl ?_
  refine r_aload_n X (x := k.b + (45 + 12 * j.val)) dX5_tick_20 rfl ?_
  refine r_dup X dX5_tick_21 rfl ?_
  refine r_getfield X (v := .int (SS_time u15.2)) clsX5 flX5_9 (Nat.le_of_ble_eq_true rfl) _ (o_st1 j _) rfl dX5_tick_22 ?_
  refine r_iconst X (v := 1) dX5_tick_25 rfl ?_
  refine r_iadd X dX5_tick_26 ?_
  refine r_putfield X (ws1 := wAll k T R ly rc hn rp tp ee (updF st j (SS_set_time u15.2 ((SS_time u15.2) + 1)))) clsX5 flX5_9 (Nat.le_of_ble_eq_true rfl) rfl rfl rfl _ (o_st1 j _) (Nat.le_of_ble_eq_true rfl) (s_st_time j u15.2 ((SS_time u15.2) + 1)) dX5_tick_27 ?_
  refine r_iload_n X (x := u1.1 + u15.1) dX5_tick_30 rfl ?_
  obtain rfl := Option.some.inj hf
  exact r_ireturn X hQ rfl rfl (Nat.le_of_ble_eq_true rfl) (Nat.le_of_ble_eq_true rfl) dX5_tick_31
set_option maxRecDepth 100000 in
set_option maxHeartbeats 4000000 in
theorem B5_passTicks_B4 {k : KT} {z : ZT} {T : TT} {R : RR} {ly : Fin 2 → LL} {rc : RC} {hn : HN} {rp : RP} {tp : TP} {ee : EE} {st : Fin 12 → SS} {j : Fin 12} {r : Int32 × (SS)} (X : XX k strs z RX5 cX5_passTicks 4 (some .int) (rmD 4 0 0)) (hQ : zQ z = MQ (zB z) (Qof k (some (.int r.1)) (wAll k T R ly rc hn rp tp ee (updF st j r.2))) (zA z) (zS z) 0 0 (kA k)) : ∀ (fu : Nat) (S : SS) (x1 : Int32) (x2 : Int32) (x3 : Int32), f5_passTicks_B4 (ly (0 : Fin 2)) fu S x1 x2 x3 = some r → VW k z 0 0 (wAll k T R ly rc hn rp tp ee (updF st j S)) 4 [some (.ref (k.b + (45 + 12 * j.val))), some (.int x1), some (.int x2), some (.int x3)] [] := by
  intro fu
  induction fu with
  | zero =>
    intro S x1 x2 x3 hf
    rw [f5_passTicks_B4] at hf
    cases hf
  | succ fu ih =>
    intro S x1 x2 x3 hf
    rw [f5_passTicks_B4] at hf
    refine r_iload_n X (x := x3) dX5_passTicks_4 rfl ?_
    refine r_iload_n X (x := x1) dX5_passTicks_5 rfl ?_
    refine r_icmp_ge X 22 dX5_passTicks_6 rfl (fun c6 => ?_) (fun c6 => ?_)
    · replace hf := ifT hf c6
      refine r_iload_n X (x := x2) dX5_passTicks_22 rfl ?_
      obtain rfl := Option.some.inj hf
      exact r_ireturn X hQ rfl rfl (Nat.le_of_ble_eq_true rfl) (Nat.le_of_ble_eq_true rfl) dX5_passTicks_23
    · replace hf := ifF hf c6
      refine r_iload_n X (x := x2) dX5_passTicks_9 rfl ?_
      refine r_aload_n X (x := k.b + (45 + 12 * j.val)) dX5_passTicks_10 rfl ?_
      obtain ⟨u11, h11, hf⟩ := bdS hf
      refine r_callV0 X [] [.int x2] (K5_tick h11) lkX5_155 clsX5 rfl _ (o_st1 j _) (by decide) (Nat.le_of_ble_eq_true rfl) rfl rfl (Nat.le_of_ble_eq_true rfl) rfl rfl (Nat.zero_le _) (Nat.zero_le _) dX5_passTicks_11 ?_
      refine r_iadd X dX5_passTicks_14 ?_
      refine r_istore_n X [some (.ref (k.b + (45 + 12 * j.val))), some (.int x1), some (.int (x2 + u11.1)), some (.int x3)] dX5_passTicks_15 (Nat.le_of_ble_eq_true rfl) rfl ?_
      refine r_iinc X (x := x3) (v := x3 + 1) [some (.ref (k.b + (45 + 12 * j.val))), some (.int x1), some (.int (x2 + u11.1)), some (.int (x3 + 1))] dX5_passTicks_16 rfl rfl rfl ?_
      refine r_goto X 4 dX5_passTicks_19 rfl ?_
      exact ih u11.2 x1 (x2 + u11.1) (x3 + 1) hf
set_option maxRecDepth 100000 in
set_option maxHeartbeats 4000000 in
theorem K5_passTicks {k : KT} {T : TT} {R : RR} {ly : Fin 2 → LL} {rc : RC} {hn : HN} {rp : RP} {tp : TP} {ee : EE} {st : Fin 12 → SS} {j : Fin 12} {S : SS} {x1 : Int32} {r : Int32 × (SS)} (hf : f5_passTicks (ly (0 : Fin 2)) S x1 = some r) : CT k strs yX5_passTicks cX5_passTicks 4 (some .int) (rmD 4 0 0) 0 0 [.ref (k.b + (45 + 12 * j.val)), .int x1] (wAll k T R ly rc hn rp tp ee (updF st j S)) (some (.int r.1)) (wAll k T R ly rc hn rp tp ee (updF st j r.2)) := by
  refine CT.of (by decide) (Nat.le_of_ble_eq_true rfl) ?_
  intro z X hQ
  show VW k z 0 0 (wAll k T R ly rc hn rp tp ee (updF st j S)) 0 [some (.ref (k.b + (45 + 12 * j.val))), some (.int x1), none, none] []
  unfold f5_passTicks at hf
  refine r_iconst X (v := 0) dX5_passTicks_0 rfl ?_
  refine r_istore_n X [some (.ref (k.b + (45 + 12 * j.val))), some (.int x1), some (.int 0), none] dX5_passTicks_1 (Nat.le_of_ble_eq_true rfl) rfl ?_
  refine r_iconst X (v := 0) dX5_passTicks_2 rfl ?_
  refine r_istore_n X [some (.ref (k.b + (45 + 12 * j.val))), some (.int x1), some (.int 0), some (.int 0)] dX5_passTicks_3 (Nat.le_of_ble_eq_true rfl) rfl ?_
  exact B5_passTicks_B4 X hQ FU S x1 0 0 hf
set_option maxRecDepth 100000 in
set_option maxHeartbeats 4000000 in
theorem B5_passUntilAtMost_B2 {k : KT} {z : ZT} {T : TT} {R : RR} {ly : Fin 2 → LL} {rc : RC} {hn : HN} {rp : RP} {tp : TP} {ee : EE} {st : Fin 12 → SS} {j : Fin 12} {r : Int32 × (SS)} (X : XX k strs z RX5 cX5_passUntilAtMost 4 (some .int) (rmD 4 0 0)) (hQ : zQ z = MQ (zB z) (Qof k (some (.int r.1)) (wAll k T R ly rc hn rp tp ee (updF st j r.2))) (zA z) (zS z) 0 0 (kA k)) : ∀ (fu : Nat) (S : SS) (x1 : Int32) (x2 : Int32) (x3 : Int32), f5_passUntilAtMost_B2 (ly (0 : Fin 2)) fu S x1 x2 x3 = some r → VW k z 0 0 (wAll k T R ly rc hn rp tp ee (updF st j S)) 2 [some (.ref (k.b + (45 + 12 * j.val))), some (.int x1), some (.int x2), some (.int x3)] [] := by
  intro fu
  induction fu with
  | zero =>
    intro S x1 x2 x3 hf
    rw [f5_passUntilAtMost_B2] at hf
    cases hf
  | succ fu ih =>
    intro S x1 x2 x3 hf
    rw [f5_passUntilAtMost_B2] at hf
    refine r_iload_n X (x := x3) dX5_passUntilAtMost_2 rfl ?_
    refine r_sipush X (v := 999) dX5_passUntilAtMost_3 rfl ?_
    refine r_icmp_gt X 32 dX5_passUntilAtMost_6 rfl (fun c6 => ?_) (fun c6 => ?_)
    · replace hf := ifT hf c6
      refine r_iconst X (v := (-1)) dX5_passUntilAtMost_32 rfl ?_
      obtain rfl := Option.some.inj hf
      exact r_ireturn X hQ rfl rfl (Nat.le_of_ble_eq_true rfl) (Nat.le_of_ble_eq_true rfl) dX5_passUntilAtMost_33
    · replace hf := ifF hf c6
      refine r_aload_n X (x := k.b + (45 + 12 * j.val)) dX5_passUntilAtMost_9 rfl ?_
      refine r_getfield X (v := .ref (k.b + (45 + 12 * j.val + 2))) clsX5 flX5_25 (Nat.le_of_ble_eq_true rfl) _ (o_st1 j _) rfl dX5_passUntilAtMost_10 ?_
      refine r_iload_n X (x := x1) dX5_passUntilAtMost_13 rfl ?_
      obtain ⟨g14, hf⟩ := gdS hf
      refine r_iaload X (f := SS_pressure S) _ (a_st1_pressure j _) g14 dX5_passUntilAtMost_14 ?_
      refine r_iload_n X (x := x2) dX5_passUntilAtMost_15 rfl ?_
      refine r_icmp_gt X 21 dX5_passUntilAtMost_16 rfl (fun c16 => ?_) (fun c16 => ?_)
      · replace hf := ifT hf c16
        refine r_aload_n X (x := k.b + (45 + 12 * j.val)) dX5_passUntilAtMost_21 rfl ?_
        obtain ⟨u22, h22, hf⟩ := bdS hf
        refine r_callV0 X [] [] (K5_tick h22) lkX5_155 clsX5 rfl _ (o_st1 j _) (by decide) (Nat.le_of_ble_eq_true rfl) rfl rfl (Nat.le_of_ble_eq_true rfl) rfl rfl (Nat.zero_le _) (Nat.zero_le _) dX5_passUntilAtMost_22 ?_
        refine r_pop X dX5_passUntilAtMost_25 rfl ?_
        refine r_iinc X (x := x3) (v := x3 + 1) [some (.ref (k.b + (45 + 12 * j.val))), some (.int x1), some (.int x2), some (.int (x3 + 1))] dX5_passUntilAtMost_26 rfl rfl rfl ?_
        refine r_goto X 2 dX5_passUntilAtMost_29 rfl ?_
        exact ih u22.2 x1 x2 (x3 + 1) hf
      · replace hf := ifF hf c16
        refine r_iload_n X (x := x3) dX5_passUntilAtMost_19 rfl ?_
        obtain rfl := Option.some.inj hf
        exact r_ireturn X hQ rfl rfl (Nat.le_of_ble_eq_true rfl) (Nat.le_of_ble_eq_true rfl) dX5_passUntilAtMost_20
set_option maxRecDepth 100000 in
set_option maxHeartbeats 4000000 in
theorem K5_passUntilAtMost {k : KT} {T : TT} {R : RR} {ly : Fin 2 → LL} {rc : RC} {hn : HN} {rp : RP} {tp : TP} {ee : EE} {st : Fin 12 → SS} {j : Fin 12} {S : SS} {x1 : Int32} {x2 : Int32} {r : Int32 × (SS)} (hf : f5_passUntilAtMost (ly (0 : Fin 2)) S x1 x2 = some r) : CT k strs yX5_passUntilAtMost cX5_passUntilAtMost 4 (some .int) (rmD 4 0 0) 0 0 [.ref (k.b + (45 + 12 * j.val)), .int x1, .int x2] (wAll k T R ly rc hn rp tp ee (updF st j S)) (some (.int r.1)) (wAll k T R ly rc hn rp tp ee (updF st j r.2)) := by
  refine CT.of (by decide) (Nat.le_of_ble_eq_true rfl) ?_
  intro z X hQ
  show VW k z 0 0 (wAll k T R ly rc hn rp tp ee (updF st j S)) 0 [some (.ref (k.b + (45 + 12 * j.val))), some (.int x1), some (.int x2), none] []
  unfold f5_passUntilAtMost at hf
  refine r_iconst X (v := 0) dX5_passUntilAtMost_0 rfl ?_
  refine r_istore_n X [some (.ref (k.b + (45 + 12 * j.val))), some (.int x1), some (.int x2), some (.int 0)] dX5_passUntilAtMost_1 (Nat.le_of_ble_eq_true rfl) rfl ?_
  exact B5_passUntilAtMost_B2 X hQ FU S x1 x2 0 hf
set_option maxRecDepth 100000 in
set_option maxHeartbeats 4000000 in
theorem K7_add {k : KT} {T : TT} {R : RR} {ly : Fin 2 → LL} {rc : RC} {hn : HN} {rp : RP} {tp : TP} {ee : EE} {st : Fin 12 → SS} {j : Fin 12} {S : SS} {x1 : Int32} {x2 : Int32} {x3 : Int32} {x4 : Int32} {x5 : Int64} {x7 : Int64} {r : (SS)} (hf : f7_add  S x1 x2 x3 x4 x5 x7 = some r) : CT k strs yX7_add cX7_add 9 none (rmD 1 0 0) 0 0 [.ref (k.b + (45 + 12 * j.val + 9)), .int x1, .int x2, .int x3, .int x4, .long x5, .long x7] (wAll k T R ly rc hn rp tp ee (updF st j S)) (none) (wAll k T R ly rc hn rp tp ee (updF st j r)) := by
  refine CT.of (by decide) (Nat.le_of_ble_eq_true rfl) ?_
  intro z X hQ
  show VW k z 0 0 (wAll k T R ly rc hn rp tp ee (updF st j S)) 0 [some (.ref (k.b + (45 + 12 * j.val + 9))), some (.int x1), some (.int x2), some (.int x3), some (.int x4), some (.long x5), none, some (.long x7), none] []
  unfold f7_add at hf
  refine r_aload_n X (x := k.b + (45 + 12 * j.val + 9)) dX7_add_0 rfl ?_
  refine r_getfield X (v := .ref (k.b + (45 + 12 * j.val + 10))) clsX7 flX7_16 (Nat.le_of_ble_eq_true rfl) _ (o_tl1 j _) rfl dX7_add_1 ?_
  refine r_aload_n X (x := k.b + (45 + 12 * j.val + 9)) dX7_add_4 rfl ?_
  refine r_getfield X (v := .int (SS_next S)) clsX7 flX7_13 (Nat.le_of_ble_eq_true rfl) _ (o_tl1 j _) rfl dX7_add_5 ?_
  refine r_iconst X (v := 4) dX7_add_8 rfl ?_
  refine r_imul X dX7_add_9 ?_
  refine r_iload_n X (x := x1) dX7_add_10 rfl ?_
  obtain ⟨g11, hf⟩ := gdS hf
  refine r_iastore X (f := SS_facts S) (ws1 := wAll k T R ly rc hn rp tp ee (updF st j (SS_set_facts S (upd (SS_facts S) (ix ((SS_next S) * 4)) x1)))) _ (a_st1_facts j _) g11 (s_st_facts j S (upd (SS_facts S) (ix ((SS_next S) * 4)) x1)) dX7_add_11 ?_
  refine r_aload_n X (x := k.b + (45 + 12 * j.val + 9)) dX7_add_12 rfl ?_
  refine r_getfield X (v := .ref (k.b + (45 + 12 * j.val + 10))) clsX7 flX7_16 (Nat.le_of_ble_eq_true rfl) _ (o_tl1 j _) rfl dX7_add_13 ?_
  refine r_aload_n X (x := k.b + (45 + 12 * j.val + 9)) dX7_add_16 rfl ?_
  refine r_getfield X (v := .int (SS_next S)) clsX7 flX7_13 (Nat.le_of_ble_eq_true rfl) _ (o_tl1 j _) (hvI rfl (SS_next_set_facts _ _)) dX7_add_17 ?_
  refine r_iconst X (v := 4) dX7_add_20 rfl ?_
  refine r_imul X dX7_add_21 ?_
  refine r_iconst X (v := 1) dX7_add_22 rfl ?_
  refine r_iadd X dX7_add_23 ?_
  refine r_iload_n X (x := x2) dX7_add_24 rfl ?_
  obtain ⟨g25, hf⟩ := gdS hf
  refine r_iastore X (f := upd (SS_facts S) (ix ((SS_next S) * 4)) x1) (ws1 := wAll k T R ly rc hn rp tp ee (updF st j (SS_set_facts (SS_set_facts S (upd (SS_facts S) (ix ((SS_next S) * 4)) x1)) (upd (upd (SS_facts S) (ix ((SS_next S) * 4)) x1) (ix (((SS_next S) * 4) + 1)) x2)))) _ (heI (a_st1_facts j _) (SS_facts_set_facts _ _)) g25 (s_st_facts j (SS_set_facts S (upd (SS_facts S) (ix ((SS_next S) * 4)) x1)) (upd (upd (SS_facts S) (ix ((SS_next S) * 4)) x1) (ix (((SS_next S) * 4) + 1)) x2)) dX7_add_25 ?_
  refine r_aload_n X (x := k.b + (45 + 12 * j.val + 9)) dX7_add_26 rfl ?_
  refine r_getfield X (v := .ref (k.b + (45 + 12 * j.val + 10))) clsX7 flX7_16 (Nat.le_of_ble_eq_true rfl) _ (o_tl1 j _) rfl dX7_add_27 ?_
  refine r_aload_n X (x := k.b + (45 + 12 * j.val + 9)) dX7_add_30 rfl ?_
  refine r_getfield X (v := .int (SS_next S)) clsX7 flX7_13 (Nat.le_of_ble_eq_true rfl) _ (o_tl1 j _) (hvI rfl ((SS_next_set_facts _ _).trans (SS_next_set_facts _ _))) dX7_add_31 ?_
  refine r_iconst X (v := 4) dX7_add_34 rfl ?_
  refine r_imul X dX7_add_35 ?_
  refine r_iconst X (v := 2) dX7_add_36 rfl ?_
  refine r_iadd X dX7_add_37 ?_
  refine r_iload_n X (x := x3) dX7_add_38 rfl ?_
  obtain ⟨g39, hf⟩ := gdS hf
  refine r_iastore X (f := upd (upd (SS_facts S) (ix ((SS_next S) * 4)) x1) (ix (((SS_next S) * 4) + 1)) x2) (ws1 := wAll k T R ly rc hn rp tp ee (updF st j (SS_set_facts (SS_set_facts (SS_set_facts S (upd (SS_facts S) (ix ((SS_next S) * 4)) x1)) (upd (upd (SS_facts S) (ix ((SS_next S) * 4)) x1) (ix (((SS_next S) * 4) + 1)) x2)) (upd (upd (upd (SS_facts S) (ix ((SS_next S) * 4)) x1) (ix (((SS_next S) * 4) + 1)) x2) (ix (((SS_next S) * 4) + 2)) x3)))) _ (heI (a_st1_facts j _) (SS_facts_set_facts _ _)) g39 (s_st_facts j (SS_set_facts (SS_set_facts S (upd (SS_facts S) (ix ((SS_next S) * 4)) x1)) (upd (upd (SS_facts S) (ix ((SS_next S) * 4)) x1) (ix (((SS_next S) * 4) + 1)) x2)) (upd (upd (upd (SS_facts S) (ix ((SS_next S) * 4)) x1) (ix (((SS_next S) * 4) + 1)) x2) (ix (((SS_next S) * 4) + 2)) x3)) dX7_add_39 ?_
  refine r_aload_n X (x := k.b + (45 + 12 * j.val + 9)) dX7_add_40 rfl ?_
  refine r_getfield X (v := .ref (k.b + (45 + 12 * j.val + 10))) clsX7 flX7_16 (Nat.le_of_ble_eq_true rfl) _ (o_tl1 j _) rfl dX7_add_41 ?_
  refine r_aload_n X (x := k.b + (45 + 12 * j.val + 9)) dX7_add_44 rfl ?_
  refine r_getfield X (v := .int (SS_next S)) clsX7 flX7_13 (Nat.le_of_ble_eq_true rfl) _ (o_tl1 j _) (hvI rfl ((SS_next_set_facts _ _).trans ((SS_next_set_facts _ _).trans (SS_next_set_facts _ _)))) dX7_add_45 ?_
  refine r_iconst X (v := 4) dX7_add_48 rfl ?_
  refine r_imul X dX7_add_49 ?_
  refine r_iconst X (v := 3) dX7_add_50 rfl ?_
  refine r_iadd X dX7_add_51 ?_
  refine r_iload X (x := x4) dX7_add_52 rfl ?_
  obtain ⟨g54, hf⟩ := gdS hf
  refine r_iastore X (f := upd (upd (upd (SS_facts S) (ix ((SS_next S) * 4)) x1) (ix (((SS_next S) * 4) + 1)) x2) (ix (((SS_next S) * 4) + 2)) x3) (ws1 := wAll k T R ly rc hn rp tp ee (updF st j (SS_set_facts (SS_set_facts (SS_set_facts (SS_set_facts S (upd (SS_facts S) (ix ((SS_next S) * 4)) x1)) (upd (upd (SS_facts S) (ix ((SS_next S) * 4)) x1) (ix (((SS_next S) * 4) + 1)) x2)) (upd (upd (upd (SS_facts S) (ix ((SS_next S) * 4)) x1) (ix (((SS_next S) * 4) + 1)) x2) (ix (((SS_next S) * 4) + 2)) x3)) (upd (upd (upd (upd (SS_facts S) (ix ((SS_next S) * 4)) x1) (ix (((SS_next S) * 4) + 1)) x2) (ix (((SS_next S) * 4) + 2)) x3) (ix (((SS_next S) * 4) + 3)) x4)))) _ (heI (a_st1_facts j _) (SS_facts_set_facts _ _)) g54 (s_st_facts j (SS_set_facts (SS_set_facts (SS_set_facts S (upd (SS_facts S) (ix ((SS_next S) * 4)) x1)) (upd (upd (SS_facts S) (ix ((SS_next S) * 4)) x1) (ix (((SS_next S) * 4) + 1)) x2)) (upd (upd (upd (SS_facts S) (ix ((SS_next S) * 4)) x1) (ix (((SS_next S) * 4) + 1)) x2) (ix (((SS_next S) * 4) + 2)) x3)) (upd (upd (upd (upd (SS_facts S) (ix ((SS_next S) * 4)) x1) (ix (((SS_next S) * 4) + 1)) x2) (ix (((SS_next S) * 4) + 2)) x3) (ix (((SS_next S) * 4) + 3)) x4)) dX7_add_54 ?_
  refine r_aload_n X (x := k.b + (45 + 12 * j.val + 9)) dX7_add_55 rfl ?_
  refine r_getfield X (v := .ref (k.b + (45 + 12 * j.val + 11))) clsX7 flX7_20 (Nat.le_of_ble_eq_true rfl) _ (o_tl1 j _) rfl dX7_add_56 ?_
  refine r_aload_n X (x := k.b + (45 + 12 * j.val + 9)) dX7_add_59 rfl ?_
  refine r_getfield X (v := .int (SS_next S)) clsX7 flX7_13 (Nat.le_of_ble_eq_true rfl) _ (o_tl1 j _) (hvI rfl ((SS_next_set_facts _ _).trans ((SS_next_set_facts _ _).trans ((SS_next_set_facts _ _).trans (SS_next_set_facts _ _))))) dX7_add_60 ?_
  refine r_iconst X (v := 2) dX7_add_63 rfl ?_
  refine r_imul X dX7_add_64 ?_
  refine r_lload X (x := x5) dX7_add_65 rfl ?_
  obtain ⟨g67, hf⟩ := gdS hf
  refine r_lastore X (f := SS_rises S) (ws1 := wAll k T R ly rc hn rp tp ee (updF st j (SS_set_rises (SS_set_facts (SS_set_facts (SS_set_facts (SS_set_facts S (upd (SS_facts S) (ix ((SS_next S) * 4)) x1)) (upd (upd (SS_facts S) (ix ((SS_next S) * 4)) x1) (ix (((SS_next S) * 4) + 1)) x2)) (upd (upd (upd (SS_facts S) (ix ((SS_next S) * 4)) x1) (ix (((SS_next S) * 4) + 1)) x2) (ix (((SS_next S) * 4) + 2)) x3)) (upd (upd (upd (upd (SS_facts S) (ix ((SS_next S) * 4)) x1) (ix (((SS_next S) * 4) + 1)) x2) (ix (((SS_next S) * 4) + 2)) x3) (ix (((SS_next S) * 4) + 3)) x4)) (vp_updL (SS_rises S) (ix ((SS_next S) * 2)) x5)))) _ (heL (a_st1_rises j _) ((SS_rises_set_facts _ _).trans ((SS_rises_set_facts _ _).trans ((SS_rises_set_facts _ _).trans (SS_rises_set_facts _ _))))) g67 (s_st_rises j (SS_set_facts (SS_set_facts (SS_set_facts (SS_set_facts S (upd (SS_facts S) (ix ((SS_next S) * 4)) x1)) (upd (upd (SS_facts S) (ix ((SS_next S) * 4)) x1) (ix (((SS_next S) * 4) + 1)) x2)) (upd (upd (upd (SS_facts S) (ix ((SS_next S) * 4)) x1) (ix (((SS_next S) * 4) + 1)) x2) (ix (((SS_next S) * 4) + 2)) x3)) (upd (upd (upd (upd (SS_facts S) (ix ((SS_next S) * 4)) x1) (ix (((SS_next S) * 4) + 1)) x2) (ix (((SS_next S) * 4) + 2)) x3) (ix (((SS_next S) * 4) + 3)) x4)) (vp_updL (SS_rises S) (ix ((SS_next S) * 2)) x5)) dX7_add_67 ?_
  refine r_aload_n X (x := k.b + (45 + 12 * j.val + 9)) dX7_add_68 rfl ?_
  refine r_getfield X (v := .ref (k.b + (45 + 12 * j.val + 11))) clsX7 flX7_20 (Nat.le_of_ble_eq_true rfl) _ (o_tl1 j _) rfl dX7_add_69 ?_
  refine r_aload_n X (x := k.b + (45 + 12 * j.val + 9)) dX7_add_72 rfl ?_
  refine r_getfield X (v := .int (SS_next S)) clsX7 flX7_13 (Nat.le_of_ble_eq_true rfl) _ (o_tl1 j _) (hvI rfl ((SS_next_set_rises _ _).trans ((SS_next_set_facts _ _).trans ((SS_next_set_facts _ _).trans ((SS_next_set_facts _ _).trans (SS_next_set_facts _ _)))))) dX7_add_73 ?_
  refine r_iconst X (v := 2) dX7_add_76 rfl ?_
  refine r_imul X dX7_add_77 ?_
  refine r_iconst X (v := 1) dX7_add_78 rfl ?_
  refine r_iadd X dX7_add_79 ?_
  refine r_lload X (x := x7) dX7_add_80 rfl ?_
  obtain ⟨g82, hf⟩ := gdS hf
  refine r_lastore X (f := vp_updL (SS_rises S) (ix ((SS_next S) * 2)) x5) (ws1 := wAll k T R ly rc hn rp tp ee (updF st j (SS_set_rises (SS_set_rises (SS_set_facts (SS_set_facts (SS_set_facts (SS_set_facts S (upd (SS_facts S) (ix ((SS_next S) * 4)) x1)) (upd (upd (SS_facts S) (ix ((SS_next S) * 4)) x1) (ix (((SS_next S) * 4) + 1)) x2)) (upd (upd (upd (SS_facts S) (ix ((SS_next S) * 4)) x1) (ix (((SS_next S) * 4) + 1)) x2) (ix (((SS_next S) * 4) + 2)) x3)) (upd (upd (upd (upd (SS_facts S) (ix ((SS_next S) * 4)) x1) (ix (((SS_next S) * 4) + 1)) x2) (ix (((SS_next S) * 4) + 2)) x3) (ix (((SS_next S) * 4) + 3)) x4)) (vp_updL (SS_rises S) (ix ((SS_next S) * 2)) x5)) (vp_updL (vp_updL (SS_rises S) (ix ((SS_next S) * 2)) x5) (ix (((SS_next S) * 2) + 1)) x7)))) _ (heL (a_st1_rises j _) (SS_rises_set_rises _ _)) g82 (s_st_rises j (SS_set_rises (SS_set_facts (SS_set_facts (SS_set_facts (SS_set_facts S (upd (SS_facts S) (ix ((SS_next S) * 4)) x1)) (upd (upd (SS_facts S) (ix ((SS_next S) * 4)) x1) (ix (((SS_next S) * 4) + 1)) x2)) (upd (upd (upd (SS_facts S) (ix ((SS_next S) * 4)) x1) (ix (((SS_next S) * 4) + 1)) x2) (ix (((SS_next S) * 4) + 2)) x3)) (upd (upd (upd (upd (SS_facts S) (ix ((SS_next S) * 4)) x1) (ix (((SS_next S) * 4) + 1)) x2) (ix (((SS_next S) * 4) + 2)) x3) (ix (((SS_next S) * 4) + 3)) x4)) (vp_updL (SS_rises S) (ix ((SS_next S) * 2)) x5)) (vp_updL (vp_updL (SS_rises S) (ix ((SS_next S) * 2)) x5) (ix (((SS_next S) * 2) + 1)) x7)) dX7_add_82 ?_
  refine r_aload_n X (x := k.b + (45 + 12 * j.val + 9)) dX7_add_83 rfl ?_
  refine r_aload_n X (x := k.b + (45 + 12 * j.val + 9)) dX7_add_84 rfl ?_
  refine r_getfield X (v := .int (SS_next S)) clsX7 flX7_13 (Nat.le_of_ble_eq_true rfl) _ (o_tl1 j _) (hvI rfl ((SS_next_set_rises _ _).trans ((SS_next_set_rises _ _).trans ((SS_next_set_facts _ _).trans ((SS_next_set_facts _ _).trans ((SS_next_set_facts _ _).trans (SS_next_set_facts _ _))))))) dX7_add_85 ?_
  refine r_iconst X (v := 1) dX7_add_88 rfl ?_
  refine r_iadd X dX7_add_89 ?_
  refine r_bipush X (v := 10) dX7_add_90 rfl ?_
  refine r_irem X dX7_add_92 (by decide) ?_
  refine r_putfield X (ws1 := wAll k T R ly rc hn rp tp ee (updF st j (SS_set_next (SS_set_rises (SS_set_rises (SS_set_facts (SS_set_facts (SS_set_facts (SS_set_facts S (upd (SS_facts S) (ix ((SS_next S) * 4)) x1)) (upd (upd (SS_facts S) (ix ((SS_next S) * 4)) x1) (ix (((SS_next S) * 4) + 1)) x2)) (upd (upd (upd (SS_facts S) (ix ((SS_next S) * 4)) x1) (ix (((SS_next S) * 4) + 1)) x2) (ix (((SS_next S) * 4) + 2)) x3)) (upd (upd (upd (upd (SS_facts S) (ix ((SS_next S) * 4)) x1) (ix (((SS_next S) * 4) + 1)) x2) (ix (((SS_next S) * 4) + 2)) x3) (ix (((SS_next S) * 4) + 3)) x4)) (vp_updL (SS_rises S) (ix ((SS_next S) * 2)) x5)) (vp_updL (vp_updL (SS_rises S) (ix ((SS_next S) * 2)) x5) (ix (((SS_next S) * 2) + 1)) x7)) (((SS_next S) + 1) - ((SS_next S) + 1) / 10 * 10)))) clsX7 flX7_13 (Nat.le_of_ble_eq_true rfl) rfl rfl rfl _ (o_tl1 j _) (Nat.le_of_ble_eq_true rfl) (s_st_next j (SS_set_rises (SS_set_rises (SS_set_facts (SS_set_facts (SS_set_facts (SS_set_facts S (upd (SS_facts S) (ix ((SS_next S) * 4)) x1)) (upd (upd (SS_facts S) (ix ((SS_next S) * 4)) x1) (ix (((SS_next S) * 4) + 1)) x2)) (upd (upd (upd (SS_facts S) (ix ((SS_next S) * 4)) x1) (ix (((SS_next S) * 4) + 1)) x2) (ix (((SS_next S) * 4) + 2)) x3)) (upd (upd (upd (upd (SS_facts S) (ix ((SS_next S) * 4)) x1) (ix (((SS_next S) * 4) + 1)) x2) (ix (((SS_next S) * 4) + 2)) x3) (ix (((SS_next S) * 4) + 3)) x4)) (vp_updL (SS_rises S) (ix ((SS_next S) * 2)) x5)) (vp_updL (vp_updL (SS_rises S) (ix ((SS_next S) * 2)) x5) (ix (((SS_next S) * 2) + 1)) x7)) (((SS_next S) + 1) - ((SS_next S) + 1) / 10 * 10)) dX7_add_93 ?_
  refine r_aload_n X (x := k.b + (45 + 12 * j.val + 9)) dX7_add_96 rfl ?_
  refine r_aload_n X (x := k.b + (45 + 12 * j.val + 9)) dX7_add_97 rfl ?_
  refine r_getfield X (v := .int (SS_kept S)) clsX7 flX7_7 (Nat.le_of_ble_eq_true rfl) _ (o_tl1 j _) (hvI rfl ((SS_kept_set_next _ _).trans ((SS_kept_set_rises _ _).trans ((SS_kept_set_rises _ _).trans ((SS_kept_set_facts _ _).trans ((SS_kept_set_facts _ _).trans ((SS_kept_set_facts _ _).trans (SS_kept_set_facts _ _)))))))) dX7_add_98 ?_
  refine r_iconst X (v := 1) dX7_add_101 rfl ?_
  refine r_iadd X dX7_add_102 ?_
  refine r_bipush X (v := 10) dX7_add_103 rfl ?_
  refine r_imin X lkX7_30 rfl ⟨(Nat.le_of_ble_eq_true rfl), (Nat.le_of_ble_eq_true rfl)⟩ (Nat.zero_le _) (Nat.zero_le _) dX7_add_105 ?_
  refine r_putfield X (ws1 := wAll k T R ly rc hn rp tp ee (updF st j (SS_set_kept (SS_set_next (SS_set_rises (SS_set_rises (SS_set_facts (SS_set_facts (SS_set_facts (SS_set_facts S (upd (SS_facts S) (ix ((SS_next S) * 4)) x1)) (upd (upd (SS_facts S) (ix ((SS_next S) * 4)) x1) (ix (((SS_next S) * 4) + 1)) x2)) (upd (upd (upd (SS_facts S) (ix ((SS_next S) * 4)) x1) (ix (((SS_next S) * 4) + 1)) x2) (ix (((SS_next S) * 4) + 2)) x3)) (upd (upd (upd (upd (SS_facts S) (ix ((SS_next S) * 4)) x1) (ix (((SS_next S) * 4) + 1)) x2) (ix (((SS_next S) * 4) + 2)) x3) (ix (((SS_next S) * 4) + 3)) x4)) (vp_updL (SS_rises S) (ix ((SS_next S) * 2)) x5)) (vp_updL (vp_updL (SS_rises S) (ix ((SS_next S) * 2)) x5) (ix (((SS_next S) * 2) + 1)) x7)) (((SS_next S) + 1) - ((SS_next S) + 1) / 10 * 10)) (if 10 < ((SS_kept S) + 1) then 10 else ((SS_kept S) + 1))))) clsX7 flX7_7 (Nat.le_of_ble_eq_true rfl) rfl rfl rfl _ (o_tl1 j _) (Nat.le_of_ble_eq_true rfl) (s_st_kept j (SS_set_next (SS_set_rises (SS_set_rises (SS_set_facts (SS_set_facts (SS_set_facts (SS_set_facts S (upd (SS_facts S) (ix ((SS_next S) * 4)) x1)) (upd (upd (SS_facts S) (ix ((SS_next S) * 4)) x1) (ix (((SS_next S) * 4) + 1)) x2)) (upd (upd (upd (SS_facts S) (ix ((SS_next S) * 4)) x1) (ix (((SS_next S) * 4) + 1)) x2) (ix (((SS_next S) * 4) + 2)) x3)) (upd (upd (upd (upd (SS_facts S) (ix ((SS_next S) * 4)) x1) (ix (((SS_next S) * 4) + 1)) x2) (ix (((SS_next S) * 4) + 2)) x3) (ix (((SS_next S) * 4) + 3)) x4)) (vp_updL (SS_rises S) (ix ((SS_next S) * 2)) x5)) (vp_updL (vp_updL (SS_rises S) (ix ((SS_next S) * 2)) x5) (ix (((SS_next S) * 2) + 1)) x7)) (((SS_next S) + 1) - ((SS_next S) + 1) / 10 * 10)) (if 10 < ((SS_kept S) + 1) then 10 else ((SS_kept S) + 1))) dX7_add_108 ?_
  obtain rfl := Option.some.inj hf
  exact r_return X hQ rfl rfl (Nat.le_of_ble_eq_true rfl) (Nat.le_of_ble_eq_true rfl) dX7_add_111
set_option maxRecDepth 100000 in
set_option maxHeartbeats 4000000 in
theorem B5_makeTest_B120 {k : KT} {z : ZT} {T : TT} {R : RR} {ly : Fin 2 → LL} {rc : RC} {hn : HN} {rp : RP} {tp : TP} {ee : EE} {st : Fin 12 → SS} {j : Fin 12} {r : Int32 × (SS)} (X : XX k strs z RX5 cX5_makeTest 13 (some .int) (rmD 4 0 0)) (hQ : zQ z = MQ (zB z) (Qof k (some (.int r.1)) (wAll k T R ly rc hn rp tp ee (updF st j r.2))) (zA z) (zS z) 0 0 (kA k)) (S : SS) (x1 : Int32) (x2 : Int32) (x8 : Int64) (x10 : Int64) (x12 : Int32) (hf : f5_makeTest_B120 (ly (0 : Fin 2)) S x1 x2 x8 x10 x12 = some r) : VW k z 0 0 (wAll k T R ly rc hn rp tp ee (updF st j S)) 120 [some (.ref (k.b + (45 + 12 * j.val))), some (.int x1), some (.int x2), none, none, none, none, none, some (.long x8), none, some (.long x10), none, some (.int x12)] [] := by
  unfold f5_makeTest_B120 at hf
  refine r_aload_n X (x := k.b + (45 + 12 * j.val)) dX5_makeTest_120 rfl ?_
  refine r_getfield X (v := .ref (k.b + (45 + 12 * j.val + 9))) clsX5 flX5_50 (Nat.le_of_ble_eq_true rfl) _ (o_st1 j _) rfl dX5_makeTest_121 ?_
  refine r_iload_n X (x := x1) dX5_makeTest_124 rfl ?_
  refine r_iload X (x := x12) dX5_makeTest_125 rfl ?_
  refine r_aload_n X (x := k.b + (45 + 12 * j.val)) dX5_makeTest_127 rfl ?_
  refine r_getfield X (v := .int (SS_time S)) clsX5 flX5_9 (Nat.le_of_ble_eq_true rfl) _ (o_st1 j _) rfl dX5_makeTest_128 ?_
  refine r_iload_n X (x := x2) dX5_makeTest_131 rfl ?_
  refine r_lload X (x := x8) dX5_makeTest_132 rfl ?_
  refine r_lload X (x := x10) dX5_makeTest_134 rfl ?_
  obtain ⟨u136, h136, hf⟩ := bdS hf
  refine r_callV0 X [.int x1, .int x12, .int (SS_time S), .int x2, .long x8, .long x10] [] (K7_add h136) lkX5_163 clsX7 rfl _ (o_tl1 j _) (by decide) (Nat.le_of_ble_eq_true rfl) rfl rfl (Nat.le_of_ble_eq_true rfl) rfl rfl (Nat.zero_le _) (Nat.zero_le _) dX5_makeTest_136 ?_
  refine r_iload X (x := x12) dX5_makeTest_139 rfl ?_
  obtain rfl := Option.some.inj hf
  exact r_ireturn X hQ rfl rfl (Nat.le_of_ble_eq_true rfl) (Nat.le_of_ble_eq_true rfl) dX5_makeTest_141
set_option maxRecDepth 100000 in
set_option maxHeartbeats 4000000 in
theorem B5_makeTest_B101 {k : KT} {z : ZT} {T : TT} {R : RR} {ly : Fin 2 → LL} {rc : RC} {hn : HN} {rp : RP} {tp : TP} {ee : EE} {st : Fin 12 → SS} {j : Fin 12} {r : Int32 × (SS)} (X : XX k strs z RX5 cX5_makeTest 13 (some .int) (rmD 4 0 0)) (hQ : zQ z = MQ (zB z) (Qof k (some (.int r.1)) (wAll k T R ly rc hn rp tp ee (updF st j r.2))) (zA z) (zS z) 0 0 (kA k)) (S : SS) (x1 : Int32) (x2 : Int32) (x8 : Int64) (x10 : Int64) (x12 : Int32) (hf : f5_makeTest_B101 (ly (0 : Fin 2)) S x1 x2 x8 x10 x12 = some r) : VW k z 0 0 (wAll k T R ly rc hn rp tp ee (updF st j S)) 101 [some (.ref (k.b + (45 + 12 * j.val))), some (.int x1), some (.int x2), none, none, none, none, none, some (.long x8), none, some (.long x10), none, some (.int x12)] [] := by
  unfold f5_makeTest_B101 at hf
  refine r_lload X (x := x10) dX5_makeTest_101 rfl ?_
  refine r_ldc2 X (v := 10) coX5_159 dX5_makeTest_103 ?_
  refine r_lmul X dX5_makeTest_106 ?_
  refine r_lload X (x := x8) dX5_makeTest_107 rfl ?_
  refine r_ldc2 X (v := 9) coX5_161 dX5_makeTest_109 ?_
  refine r_lmul X dX5_makeTest_112 ?_
  refine r_lcmp_lt X 120 dX5_makeTest_113 dX5_makeTest_114 rfl (fun c113 => ?_) (fun c113 => ?_)
  · replace hf := ifT hf c113
    exact B5_makeTest_B120 X hQ S x1 x2 x8 x10 x12 hf
  · replace hf := ifF hf c113
    refine r_iconst X (v := 2) dX5_makeTest_117 rfl ?_
    refine r_istore X [some (.ref (k.b + (45 + 12 * j.val))), some (.int x1), some (.int x2), none, none, none, none, none, some (.long x8), none, some (.long x10), none, some (.int 2)] dX5_makeTest_118 (Nat.le_of_ble_eq_true rfl) rfl ?_
    exact B5_makeTest_B120 X hQ S x1 x2 x8 x10 2 hf
set_option maxRecDepth 100000 in
set_option maxHeartbeats 4000000 in
theorem B5_makeTest_B43 {k : KT} {z : ZT} {T : TT} {R : RR} {ly : Fin 2 → LL} {rc : RC} {hn : HN} {rp : RP} {tp : TP} {ee : EE} {st : Fin 12 → SS} {j : Fin 12} {r : Int32 × (SS)} (X : XX k strs z RX5 cX5_makeTest 13 (some .int) (rmD 4 0 0)) (hQ : zQ z = MQ (zB z) (Qof k (some (.int r.1)) (wAll k T R ly rc hn rp tp ee (updF st j r.2))) (zA z) (zS z) 0 0 (kA k)) : ∀ (fu : Nat) (S : SS) (x1 : Int32) (x2 : Int32) (x3 : Int32) (x4 : Int64) (x6 : Int64) (x8 : Int32), f5_makeTest_B43 (ly (0 : Fin 2)) fu S x1 x2 x3 x4 x6 x8 = some r → VW k z 0 0 (wAll k T R ly rc hn rp tp ee (updF st j S)) 43 [some (.ref (k.b + (45 + 12 * j.val))), some (.int x1), some (.int x2), some (.int x3), some (.long x4), none, some (.long x6), none, some (.int x8), none, none, none, none] [] := by
  intro fu
  induction fu with
  | zero =>
    intro S x1 x2 x3 x4 x6 x8 hf
    rw [f5_makeTest_B43] at hf
    cases hf
  | succ fu ih =>
    intro S x1 x2 x3 x4 x6 x8 hf
    rw [f5_makeTest_B43] at hf
    refine r_iload X (x := x8) dX5_makeTest_43 rfl ?_
    refine r_iload_n X (x := x3) dX5_makeTest_45 rfl ?_
    refine r_icmp_ge X 60 dX5_makeTest_46 rfl (fun c46 => ?_) (fun c46 => ?_)
    · replace hf := ifT hf c46
      refine r_lload X (x := x6) dX5_makeTest_60 rfl ?_
      refine r_lload X (x := x4) dX5_makeTest_62 rfl ?_
      refine r_lsub X dX5_makeTest_64 ?_
      refine r_lstore X [some (.ref (k.b + (45 + 12 * j.val))), some (.int x1), some (.int x2), some (.int x3), some (.long x4), none, some (.long x6), none, some (.long (x6 - x4)), none, none, none, none] dX5_makeTest_65 (Nat.le_of_ble_eq_true rfl) rfl ?_
      refine r_aload_n X (x := k.b + (45 + 12 * j.val)) dX5_makeTest_67 rfl ?_
      refine r_getfield X (v := .ref (k.b + (45 + 12 * j.val + 1))) clsX5 flX5_21 (Nat.le_of_ble_eq_true rfl) _ (o_st1 j _) rfl dX5_makeTest_68 ?_
      refine r_iload_n X (x := x1) dX5_makeTest_71 rfl ?_
      obtain ⟨g72, hf⟩ := gdS hf
      refine r_laload X (f := SS_gas S) _ (a_st1_gas j _) g72 dX5_makeTest_72 ?_
      refine r_lload X (x := x6) dX5_makeTest_73 rfl ?_
      refine r_lsub X dX5_makeTest_75 ?_
      refine r_lstore X [some (.ref (k.b + (45 + 12 * j.val))), some (.int x1), some (.int x2), some (.int x3), some (.long x4), none, some (.long x6), none, some (.long (x6 - x4)), none, some (.long (((SS_gas S) (ix x1)) - x6)), none, none] dX5_makeTest_76 (Nat.le_of_ble_eq_true rfl) rfl ?_
      refine r_iconst X (v := 1) dX5_makeTest_78 rfl ?_
      refine r_istore X [some (.ref (k.b + (45 + 12 * j.val))), some (.int x1), some (.int x2), some (.int x3), some (.long x4), none, some (.long x6), none, some (.long (x6 - x4)), none, some (.long (((SS_gas S) (ix x1)) - x6)), none, some (.int 1)] dX5_makeTest_79 (Nat.le_of_ble_eq_true rfl) rfl ?_
      refine r_lload X (x := x6 - x4) dX5_makeTest_81 rfl ?_
      refine r_lconst X (v := 0) dX5_makeTest_83 rfl ?_
      refine r_lcmp_ne X 101 dX5_makeTest_84 dX5_makeTest_85 rfl (fun c84 => ?_) (fun c84 => ?_)
      · replace hf := ifF hf c84
        refine VW.msk [true, true, true, false, false, false, false, false, true, false, true, false, true] rfl (lo' := [some (.ref (k.b + (45 + 12 * j.val))), some (.int x1), some (.int x2), none, none, none, none, none, some (.long (x6 - x4)), none, some (.long (((SS_gas S) (ix x1)) - x6)), none, some (.int 1)]) rfl ?_
        exact B5_makeTest_B101 X hQ S x1 x2 (x6 - x4) (((SS_gas S) (ix x1)) - x6) 1 hf
      · replace hf := ifT hf c84
        refine r_lload X (x := ((SS_gas S) (ix x1)) - x6) dX5_makeTest_88 rfl ?_
        refine r_lconst X (v := 0) dX5_makeTest_90 rfl ?_
        refine r_lcmp_ne X 101 dX5_makeTest_91 dX5_makeTest_92 rfl (fun c91 => ?_) (fun c91 => ?_)
        · replace hf := ifF hf c91
          refine VW.msk [true, true, true, false, false, false, false, false, true, false, true, false, true] rfl (lo' := [some (.ref (k.b + (45 + 12 * j.val))), some (.int x1), some (.int x2), none, none, none, none, none, some (.long (x6 - x4)), none, some (.long (((SS_gas S) (ix x1)) - x6)), none, some (.int 1)]) rfl ?_
          exact B5_makeTest_B101 X hQ S x1 x2 (x6 - x4) (((SS_gas S) (ix x1)) - x6) 1 hf
        · replace hf := ifT hf c91
          refine r_iconst X (v := 0) dX5_makeTest_95 rfl ?_
          refine r_istore X [some (.ref (k.b + (45 + 12 * j.val))), some (.int x1), some (.int x2), some (.int x3), some (.long x4), none, some (.long x6), none, some (.long (x6 - x4)), none, some (.long (((SS_gas S) (ix x1)) - x6)), none, some (.int 0)] dX5_makeTest_96 (Nat.le_of_ble_eq_true rfl) rfl ?_
          refine r_goto X 120 dX5_makeTest_98 rfl ?_
          refine VW.msk [true, true, true, false, false, false, false, false, true, false, true, false, true] rfl (lo' := [some (.ref (k.b + (45 + 12 * j.val))), some (.int x1), some (.int x2), none, none, none, none, none, some (.long (x6 - x4)), none, some (.long (((SS_gas S) (ix x1)) - x6)), none, some (.int 0)]) rfl ?_
          exact B5_makeTest_B120 X hQ S x1 x2 (x6 - x4) (((SS_gas S) (ix x1)) - x6) 0 hf
    · replace hf := ifF hf c46
      refine r_aload_n X (x := k.b + (45 + 12 * j.val)) dX5_makeTest_49 rfl ?_
      obtain ⟨u50, h50, hf⟩ := bdS hf
      refine r_callV0 X [] [] (K5_tick h50) lkX5_155 clsX5 rfl _ (o_st1 j _) (by decide) (Nat.le_of_ble_eq_true rfl) rfl rfl (Nat.le_of_ble_eq_true rfl) rfl rfl (Nat.zero_le _) (Nat.zero_le _) dX5_makeTest_50 ?_
      refine r_pop X dX5_makeTest_53 rfl ?_
      refine r_iinc X (x := x8) (v := x8 + 1) [some (.ref (k.b + (45 + 12 * j.val))), some (.int x1), some (.int x2), some (.int x3), some (.long x4), none, some (.long x6), none, some (.int (x8 + 1)), none, none, none, none] dX5_makeTest_54 rfl rfl rfl ?_
      refine r_goto X 43 dX5_makeTest_57 rfl ?_
      exact ih u50.2 x1 x2 x3 x4 x6 (x8 + 1) hf
set_option maxRecDepth 100000 in
set_option maxHeartbeats 4000000 in
theorem B5_makeTest_B15 {k : KT} {z : ZT} {T : TT} {R : RR} {ly : Fin 2 → LL} {rc : RC} {hn : HN} {rp : RP} {tp : TP} {ee : EE} {st : Fin 12 → SS} {j : Fin 12} {r : Int32 × (SS)} (X : XX k strs z RX5 cX5_makeTest 13 (some .int) (rmD 4 0 0)) (hQ : zQ z = MQ (zB z) (Qof k (some (.int r.1)) (wAll k T R ly rc hn rp tp ee (updF st j r.2))) (zA z) (zS z) 0 0 (kA k)) : ∀ (fu : Nat) (S : SS) (x1 : Int32) (x2 : Int32) (x3 : Int32) (x4 : Int64) (x6 : Int32), f5_makeTest_B15 (ly (0 : Fin 2)) fu S x1 x2 x3 x4 x6 = some r → VW k z 0 0 (wAll k T R ly rc hn rp tp ee (updF st j S)) 15 [some (.ref (k.b + (45 + 12 * j.val))), some (.int x1), some (.int x2), some (.int x3), some (.long x4), none, some (.int x6), none, none, none, none, none, none] [] := by
  intro fu
  induction fu with
  | zero =>
    intro S x1 x2 x3 x4 x6 hf
    rw [f5_makeTest_B15] at hf
    cases hf
  | succ fu ih =>
    intro S x1 x2 x3 x4 x6 hf
    rw [f5_makeTest_B15] at hf
    refine r_iload X (x := x6) dX5_makeTest_15 rfl ?_
    refine r_iload_n X (x := x3) dX5_makeTest_17 rfl ?_
    refine r_icmp_ge X 32 dX5_makeTest_18 rfl (fun c18 => ?_) (fun c18 => ?_)
    · replace hf := ifT hf c18
      refine r_aload_n X (x := k.b + (45 + 12 * j.val)) dX5_makeTest_32 rfl ?_
      refine r_getfield X (v := .ref (k.b + (45 + 12 * j.val + 1))) clsX5 flX5_21 (Nat.le_of_ble_eq_true rfl) _ (o_st1 j _) rfl dX5_makeTest_33 ?_
      refine r_iload_n X (x := x1) dX5_makeTest_36 rfl ?_
      obtain ⟨g37, hf⟩ := gdS hf
      refine r_laload X (f := SS_gas S) _ (a_st1_gas j _) g37 dX5_makeTest_37 ?_
      refine r_lstore X [some (.ref (k.b + (45 + 12 * j.val))), some (.int x1), some (.int x2), some (.int x3), some (.long x4), none, some (.long ((SS_gas S) (ix x1))), none, none, none, none, none, none] dX5_makeTest_38 (Nat.le_of_ble_eq_true rfl) rfl ?_
      refine r_iconst X (v := 0) dX5_makeTest_40 rfl ?_
      refine r_istore X [some (.ref (k.b + (45 + 12 * j.val))), some (.int x1), some (.int x2), some (.int x3), some (.long x4), none, some (.long ((SS_gas S) (ix x1))), none, some (.int 0), none, none, none, none] dX5_makeTest_41 (Nat.le_of_ble_eq_true rfl) rfl ?_
      exact B5_makeTest_B43 X hQ FU S x1 x2 x3 x4 ((SS_gas S) (ix x1)) 0 hf
    · replace hf := ifF hf c18
      refine r_aload_n X (x := k.b + (45 + 12 * j.val)) dX5_makeTest_21 rfl ?_
      obtain ⟨u22, h22, hf⟩ := bdS hf
      refine r_callV0 X [] [] (K5_tick h22) lkX5_155 clsX5 rfl _ (o_st1 j _) (by decide) (Nat.le_of_ble_eq_true rfl) rfl rfl (Nat.le_of_ble_eq_true rfl) rfl rfl (Nat.zero_le _) (Nat.zero_le _) dX5_makeTest_22 ?_
      refine r_pop X dX5_makeTest_25 rfl ?_
      refine r_iinc X (x := x6) (v := x6 + 1) [some (.ref (k.b + (45 + 12 * j.val))), some (.int x1), some (.int x2), some (.int x3), some (.long x4), none, some (.int (x6 + 1)), none, none, none, none, none, none] dX5_makeTest_26 rfl rfl rfl ?_
      refine r_goto X 15 dX5_makeTest_29 rfl ?_
      exact ih u22.2 x1 x2 x3 x4 (x6 + 1) hf
set_option maxRecDepth 100000 in
set_option maxHeartbeats 4000000 in
theorem K5_makeTest {k : KT} {T : TT} {R : RR} {ly : Fin 2 → LL} {rc : RC} {hn : HN} {rp : RP} {tp : TP} {ee : EE} {st : Fin 12 → SS} {j : Fin 12} {S : SS} {x1 : Int32} {x2 : Int32} {r : Int32 × (SS)} (hf : f5_makeTest (ly (0 : Fin 2)) S x1 x2 = some r) : CT k strs yX5_makeTest cX5_makeTest 13 (some .int) (rmD 4 0 0) 0 0 [.ref (k.b + (45 + 12 * j.val)), .int x1, .int x2] (wAll k T R ly rc hn rp tp ee (updF st j S)) (some (.int r.1)) (wAll k T R ly rc hn rp tp ee (updF st j r.2)) := by
  refine CT.of (by decide) (Nat.le_of_ble_eq_true rfl) ?_
  intro z X hQ
  show VW k z 0 0 (wAll k T R ly rc hn rp tp ee (updF st j S)) 0 [some (.ref (k.b + (45 + 12 * j.val))), some (.int x1), some (.int x2), none, none, none, none, none, none, none, none, none, none] []
  unfold f5_makeTest at hf
  refine r_iload_n X (x := x2) dX5_makeTest_0 rfl ?_
  refine r_iconst X (v := 2) dX5_makeTest_1 rfl ?_
  refine r_idiv X dX5_makeTest_2 (by decide) ?_
  refine r_istore_n X [some (.ref (k.b + (45 + 12 * j.val))), some (.int x1), some (.int x2), some (.int (x2 / 2)), none, none, none, none, none, none, none, none, none] dX5_makeTest_3 (Nat.le_of_ble_eq_true rfl) rfl ?_
  refine r_aload_n X (x := k.b + (45 + 12 * j.val)) dX5_makeTest_4 rfl ?_
  refine r_getfield X (v := .ref (k.b + (45 + 12 * j.val + 1))) clsX5 flX5_21 (Nat.le_of_ble_eq_true rfl) _ (o_st1 j _) rfl dX5_makeTest_5 ?_
  refine r_iload_n X (x := x1) dX5_makeTest_8 rfl ?_
  obtain ⟨g9, hf⟩ := gdS hf
  refine r_laload X (f := SS_gas S) _ (a_st1_gas j _) g9 dX5_makeTest_9 ?_
  refine r_lstore X [some (.ref (k.b + (45 + 12 * j.val))), some (.int x1), some (.int x2), some (.int (x2 / 2)), some (.long ((SS_gas S) (ix x1))), none, none, none, none, none, none, none, none] dX5_makeTest_10 (Nat.le_of_ble_eq_true rfl) rfl ?_
  refine r_iconst X (v := 0) dX5_makeTest_12 rfl ?_
  refine r_istore X [some (.ref (k.b + (45 + 12 * j.val))), some (.int x1), some (.int x2), some (.int (x2 / 2)), some (.long ((SS_gas S) (ix x1))), none, some (.int 0), none, none, none, none, none, none] dX5_makeTest_13 (Nat.le_of_ble_eq_true rfl) rfl ?_
  exact B5_makeTest_B15 X hQ FU S x1 x2 (x2 / 2) ((SS_gas S) (ix x1)) 0 hf
set_option maxRecDepth 100000 in
set_option maxHeartbeats 4000000 in
theorem K6_section {k : KT} {T : TT} {R : RR} {ly : Fin 2 → LL} {rc : RC} {hn : HN} {rp : RP} {tp : TP} {ee : EE} {st : Fin 12 → SS}   {r : Int32} (hf : f6_section T R   = some r) : CT k strs yX6_section cX6_section 1 (some .int) (rmD 5 0 0) 0 0 [.ref (k.b + (20))] (wAll k T R ly rc hn rp tp ee st) (some (.int r)) (wAll k T R ly rc hn rp tp ee st) := by
  refine CT.of (by decide) (Nat.le_of_ble_eq_true rfl) ?_
  intro z X hQ
  show VW k z 0 0 (wAll k T R ly rc hn rp tp ee st) 0 [some (.ref (k.b + (20)))] []
  unfold f6_section at hf
  refine r_aload_n X (x := k.b + (20)) dX6_section_0 rfl ?_
  refine r_getfield X (v := .ref (k.b + (3))) clsX6 flX6_18 (Nat.le_of_ble_eq_true rfl) _ o_parser rfl dX6_section_1 ?_
  refine r_ldcS X 0 rfl dX6_section_4 ?_
  obtain ⟨u6, h6, hf⟩ := bdS hf
  refine r_callV0 X [.ref (k.sK 0)] [] (K2_isWord h6) lkX6_72 clsX2 rfl _ o_reader (by decide) (Nat.le_of_ble_eq_true rfl) rfl rfl (Nat.le_of_ble_eq_true rfl) rfl rfl (Nat.zero_le _) (Nat.zero_le _) dX6_section_6 ?_
  refine r_if_eq X 14 dX6_section_9 rfl (fun c9 => ?_) (fun c9 => ?_)
  · replace hf := ifT hf c9
    refine r_aload_n X (x := k.b + (20)) dX6_section_14 rfl ?_
    refine r_getfield X (v := .ref (k.b + (3))) clsX6 flX6_18 (Nat.le_of_ble_eq_true rfl) _ o_parser rfl dX6_section_15 ?_
    refine r_ldcS X 1 rfl dX6_section_18 ?_
    obtain ⟨u20, h20, hf⟩ := bdS hf
    refine r_callV0 X [.ref (k.sK 1)] [] (K2_isWord h20) lkX6_72 clsX2 rfl _ o_reader (by decide) (Nat.le_of_ble_eq_true rfl) rfl rfl (Nat.le_of_ble_eq_true rfl) rfl rfl (Nat.zero_le _) (Nat.zero_le _) dX6_section_20 ?_
    refine r_if_eq X 28 dX6_section_23 rfl (fun c23 => ?_) (fun c23 => ?_)
    · replace hf := ifT hf c23
      refine r_aload_n X (x := k.b + (20)) dX6_section_28 rfl ?_
      refine r_getfield X (v := .ref (k.b + (3))) clsX6 flX6_18 (Nat.le_of_ble_eq_true rfl) _ o_parser rfl dX6_section_29 ?_
      refine r_ldcS X 2 rfl dX6_section_32 ?_
      obtain ⟨u34, h34, hf⟩ := bdS hf
      refine r_callV0 X [.ref (k.sK 2)] [] (K2_isWord h34) lkX6_72 clsX2 rfl _ o_reader (by decide) (Nat.le_of_ble_eq_true rfl) rfl rfl (Nat.le_of_ble_eq_true rfl) rfl rfl (Nat.zero_le _) (Nat.zero_le _) dX6_section_34 ?_
      refine r_if_eq X 42 dX6_section_37 rfl (fun c37 => ?_) (fun c37 => ?_)
      · replace hf := ifT hf c37
        refine r_aload_n X (x := k.b + (20)) dX6_section_42 rfl ?_
        refine r_getfield X (v := .ref (k.b + (3))) clsX6 flX6_18 (Nat.le_of_ble_eq_true rfl) _ o_parser rfl dX6_section_43 ?_
        refine r_ldcS X 3 rfl dX6_section_46 ?_
        obtain ⟨u48, h48, hf⟩ := bdS hf
        refine r_callV0 X [.ref (k.sK 3)] [] (K2_isWord h48) lkX6_72 clsX2 rfl _ o_reader (by decide) (Nat.le_of_ble_eq_true rfl) rfl rfl (Nat.le_of_ble_eq_true rfl) rfl rfl (Nat.zero_le _) (Nat.zero_le _) dX6_section_48 ?_
        suffices K51 : VW k z 0 0 (wAll k T R ly rc hn rp tp ee st) 59 [some (.ref (k.b + (20)))] [.int (if u48 = 0 then ((-1) : Int32) else (3 : Int32))] by
          refine r_if_eq X 58 dX6_section_51 rfl (fun c51 => ?_) (fun c51 => ?_)
          · refine r_iconst X (v := (-1)) dX6_section_58 rfl ?_
            rw [if_pos c51] at K51
            exact K51
          · refine r_iconst X (v := 3) dX6_section_54 rfl ?_
            refine r_goto X 59 dX6_section_55 rfl ?_
            rw [if_neg c51] at K51
            exact K51
        obtain rfl := Option.some.inj hf
        exact r_ireturn X hQ rfl rfl (Nat.le_of_ble_eq_true rfl) (Nat.le_of_ble_eq_true rfl) dX6_section_59
      · replace hf := ifF hf c37
        refine r_iconst X (v := 2) dX6_section_40 rfl ?_
        obtain rfl := Option.some.inj hf
        exact r_ireturn X hQ rfl rfl (Nat.le_of_ble_eq_true rfl) (Nat.le_of_ble_eq_true rfl) dX6_section_41
    · replace hf := ifF hf c23
      refine r_iconst X (v := 1) dX6_section_26 rfl ?_
      obtain rfl := Option.some.inj hf
      exact r_ireturn X hQ rfl rfl (Nat.le_of_ble_eq_true rfl) (Nat.le_of_ble_eq_true rfl) dX6_section_27
  · replace hf := ifF hf c9
    refine r_iconst X (v := 0) dX6_section_12 rfl ?_
    obtain rfl := Option.some.inj hf
    exact r_ireturn X hQ rfl rfl (Nat.le_of_ble_eq_true rfl) (Nat.le_of_ble_eq_true rfl) dX6_section_13
set_option maxRecDepth 100000 in
set_option maxHeartbeats 4000000 in
theorem K6_isFull {k : KT} {T : TT} {R : RR} {ly : Fin 2 → LL} {rc : RC} {hn : HN} {rp : RP} {tp : TP} {ee : EE} {st : Fin 12 → SS}  {x1 : Int32} {r : Int32} (hf : f6_isFull (ly (1 : Fin 2))  x1 = some r) : CT k strs yX6_isFull cX6_isFull 2 (some .boolean) (rmD 0 0 0) 0 0 [.ref (k.b + (20)), .int x1] (wAll k T R ly rc hn rp tp ee st) (some (.int r)) (wAll k T R ly rc hn rp tp ee st) := by
  refine CT.of (by decide) (Nat.le_of_ble_eq_true rfl) ?_
  intro z X hQ
  show VW k z 0 0 (wAll k T R ly rc hn rp tp ee st) 0 [some (.ref (k.b + (20))), some (.int x1)] []
  unfold f6_isFull at hf
  refine r_iload_n X (x := x1) dX6_isFull_0 rfl ?_
  by_cases c1_0 : x1 = 0
  · replace hf := ifT hf c1_0
    refine r_tswIn X (off := 27) 28 dX6_isFull_1 (by rw [c1_0]; decide) (by rw [c1_0]; decide) (by rw [c1_0]; rfl) rfl ?_
    refine r_aload_n X (x := k.b + (20)) dX6_isFull_28 rfl ?_
    refine r_getfield X (v := .ref (k.b + (4 + 17 * (1 : Fin 2).val))) clsX6 flX6_12 (Nat.le_of_ble_eq_true rfl) _ o_parser rfl dX6_isFull_29 ?_
    refine r_getfield X (v := .int (LL_chambers (ly (1 : Fin 2)))) clsX1 flX6_41 (Nat.le_of_ble_eq_true rfl) _ (o_lay (1 : Fin 2)) rfl dX6_isFull_32 ?_
    refine r_bipush X (v := 8) dX6_isFull_35 rfl ?_
    suffices K37 : VW k z 0 0 (wAll k T R ly rc hn rp tp ee st) 45 [some (.ref (k.b + (20))), some (.int x1)] [.int (if (LL_chambers (ly (1 : Fin 2))) = 8 then (1 : Int32) else (0 : Int32))] by
      refine r_icmp_ne X 44 dX6_isFull_37 rfl (fun c37 => ?_) (fun c37 => ?_)
      · refine r_iconst X (v := 0) dX6_isFull_44 rfl ?_
        rw [if_neg c37] at K37
        exact K37
      · refine r_iconst X (v := 1) dX6_isFull_40 rfl ?_
        refine r_goto X 45 dX6_isFull_41 rfl ?_
        rw [if_pos c37] at K37
        exact K37
    obtain rfl := Option.some.inj hf
    exact r_zreturn X hQ rfl rfl (Nat.le_of_ble_eq_true rfl) (Nat.le_of_ble_eq_true rfl) nb_if dX6_isFull_45
  replace hf := ifF hf c1_0
  by_cases c1_1 : x1 = 1
  · replace hf := ifT hf c1_1
    refine r_tswIn X (off := 45) 46 dX6_isFull_1 (by rw [c1_1]; decide) (by rw [c1_1]; decide) (by rw [c1_1]; rfl) rfl ?_
    refine r_aload_n X (x := k.b + (20)) dX6_isFull_46 rfl ?_
    refine r_getfield X (v := .ref (k.b + (4 + 17 * (1 : Fin 2).val))) clsX6 flX6_12 (Nat.le_of_ble_eq_true rfl) _ o_parser rfl dX6_isFull_47 ?_
    refine r_getfield X (v := .int (LL_pumps (ly (1 : Fin 2)))) clsX1 flX6_82 (Nat.le_of_ble_eq_true rfl) _ (o_lay (1 : Fin 2)) rfl dX6_isFull_50 ?_
    refine r_bipush X (v := 6) dX6_isFull_53 rfl ?_
    suffices K55 : VW k z 0 0 (wAll k T R ly rc hn rp tp ee st) 63 [some (.ref (k.b + (20))), some (.int x1)] [.int (if (LL_pumps (ly (1 : Fin 2))) = 6 then (1 : Int32) else (0 : Int32))] by
      refine r_icmp_ne X 62 dX6_isFull_55 rfl (fun c55 => ?_) (fun c55 => ?_)
      · refine r_iconst X (v := 0) dX6_isFull_62 rfl ?_
        rw [if_neg c55] at K55
        exact K55
      · refine r_iconst X (v := 1) dX6_isFull_58 rfl ?_
        refine r_goto X 63 dX6_isFull_59 rfl ?_
        rw [if_pos c55] at K55
        exact K55
    obtain rfl := Option.some.inj hf
    exact r_zreturn X hQ rfl rfl (Nat.le_of_ble_eq_true rfl) (Nat.le_of_ble_eq_true rfl) nb_if dX6_isFull_63
  replace hf := ifF hf c1_1
  by_cases c1_2 : x1 = 2
  · replace hf := ifT hf c1_2
    refine r_tswIn X (off := 63) 64 dX6_isFull_1 (by rw [c1_2]; decide) (by rw [c1_2]; decide) (by rw [c1_2]; rfl) rfl ?_
    refine r_aload_n X (x := k.b + (20)) dX6_isFull_64 rfl ?_
    refine r_getfield X (v := .ref (k.b + (4 + 17 * (1 : Fin 2).val))) clsX6 flX6_12 (Nat.le_of_ble_eq_true rfl) _ o_parser rfl dX6_isFull_65 ?_
    refine r_getfield X (v := .int (LL_valves (ly (1 : Fin 2)))) clsX1 flX6_85 (Nat.le_of_ble_eq_true rfl) _ (o_lay (1 : Fin 2)) rfl dX6_isFull_68 ?_
    refine r_bipush X (v := 10) dX6_isFull_71 rfl ?_
    suffices K73 : VW k z 0 0 (wAll k T R ly rc hn rp tp ee st) 81 [some (.ref (k.b + (20))), some (.int x1)] [.int (if (LL_valves (ly (1 : Fin 2))) = 10 then (1 : Int32) else (0 : Int32))] by
      refine r_icmp_ne X 80 dX6_isFull_73 rfl (fun c73 => ?_) (fun c73 => ?_)
      · refine r_iconst X (v := 0) dX6_isFull_80 rfl ?_
        rw [if_neg c73] at K73
        exact K73
      · refine r_iconst X (v := 1) dX6_isFull_76 rfl ?_
        refine r_goto X 81 dX6_isFull_77 rfl ?_
        rw [if_pos c73] at K73
        exact K73
    obtain rfl := Option.some.inj hf
    exact r_zreturn X hQ rfl rfl (Nat.le_of_ble_eq_true rfl) (Nat.le_of_ble_eq_true rfl) nb_if dX6_isFull_81
  replace hf := ifF hf c1_2
  refine r_tswOut X 82 dX6_isFull_1 (tsw_out (fun v hv1 hv2 => by
    rcases (show v = 0 ∨ v = 1 ∨ v = 2 by omega) with rfl | rfl | rfl
    · exact c1_0
    · exact c1_1
    · exact c1_2
    )) rfl ?_
  refine r_aload_n X (x := k.b + (20)) dX6_isFull_82 rfl ?_
  refine r_getfield X (v := .ref (k.b + (4 + 17 * (1 : Fin 2).val))) clsX6 flX6_12 (Nat.le_of_ble_eq_true rfl) _ o_parser rfl dX6_isFull_83 ?_
  refine r_getfield X (v := .int (LL_flanges (ly (1 : Fin 2)))) clsX1 flX6_88 (Nat.le_of_ble_eq_true rfl) _ (o_lay (1 : Fin 2)) rfl dX6_isFull_86 ?_
  refine r_bipush X (v := 24) dX6_isFull_89 rfl ?_
  suffices K91 : VW k z 0 0 (wAll k T R ly rc hn rp tp ee st) 99 [some (.ref (k.b + (20))), some (.int x1)] [.int (if (LL_flanges (ly (1 : Fin 2))) = 24 then (1 : Int32) else (0 : Int32))] by
    refine r_icmp_ne X 98 dX6_isFull_91 rfl (fun c91 => ?_) (fun c91 => ?_)
    · refine r_iconst X (v := 0) dX6_isFull_98 rfl ?_
      rw [if_neg c91] at K91
      exact K91
    · refine r_iconst X (v := 1) dX6_isFull_94 rfl ?_
      refine r_goto X 99 dX6_isFull_95 rfl ?_
      rw [if_pos c91] at K91
      exact K91
  obtain rfl := Option.some.inj hf
  exact r_zreturn X hQ rfl rfl (Nat.le_of_ble_eq_true rfl) (Nat.le_of_ble_eq_true rfl) nb_if dX6_isFull_99
set_option maxRecDepth 100000 in
set_option maxHeartbeats 4000000 in
theorem K6_readChamber {k : KT} {T : TT} {R : RR} {ly : Fin 2 → LL} {rc : RC} {hn : HN} {rp : RP} {tp : TP} {ee : EE} {st : Fin 12 → SS} {lY1 : LL}  {r : (RR) × (LL)} (hf : f6_readChamber T R lY1  = some r) : CT k strs yX6_readChamber cX6_readChamber 4 none (rmD 3 0 0) 0 0 [.ref (k.b + (20))] (wAll k T R (updF ly (1 : Fin 2) lY1) rc hn rp tp ee st) (none) (wAll k T r.1 (updF ly (1 : Fin 2) r.2) rc hn rp tp ee st) := by
  refine CT.of (by decide) (Nat.le_of_ble_eq_true rfl) ?_
  intro z X hQ
  show VW k z 0 0 (wAll k T R (updF ly (1 : Fin 2) lY1) rc hn rp tp ee st) 0 [some (.ref (k.b + (20))), none, none, none] []
  unfold f6_readChamber at hf
  refine r_aload_n X (x := k.b + (20)) dX6_readChamber_0 rfl ?_
  refine r_getfield X (v := .ref (k.b + (3))) clsX6 flX6_18 (Nat.le_of_ble_eq_true rfl) _ o_parser rfl dX6_readChamber_1 ?_
  refine r_iconst X (v := 1) dX6_readChamber_4 rfl ?_
  refine r_sipush X (v := 999) dX6_readChamber_5 rfl ?_
  obtain ⟨u8, h8, hf⟩ := bdS hf
  refine r_callV0 X [.int 1, .int 999] [] (K2_readNumber h8) lkX6_91 clsX2 rfl _ o_reader (by decide) (Nat.le_of_ble_eq_true rfl) rfl rfl (Nat.le_of_ble_eq_true rfl) rfl rfl (Nat.zero_le _) (Nat.zero_le _) dX6_readChamber_8 ?_
  refine r_istore_n X [some (.ref (k.b + (20))), some (.int u8.1), none, none] dX6_readChamber_11 (Nat.le_of_ble_eq_true rfl) rfl ?_
  refine r_aload_n X (x := k.b + (20)) dX6_readChamber_12 rfl ?_
  refine r_getfield X (v := .ref (k.b + (3))) clsX6 flX6_18 (Nat.le_of_ble_eq_true rfl) _ o_parser rfl dX6_readChamber_13 ?_
  refine r_iconst X (v := 0) dX6_readChamber_16 rfl ?_
  refine r_sipush X (v := 9999) dX6_readChamber_17 rfl ?_
  obtain ⟨u20, h20, hf⟩ := bdS hf
  refine r_callV0 X [.int 0, .int 9999] [] (K2_readNumber h20) lkX6_91 clsX2 rfl _ o_reader (by decide) (Nat.le_of_ble_eq_true rfl) rfl rfl (Nat.le_of_ble_eq_true rfl) rfl rfl (Nat.zero_le _) (Nat.zero_le _) dX6_readChamber_20 ?_
  refine r_istore_n X [some (.ref (k.b + (20))), some (.int u8.1), some (.int u20.1), none] dX6_readChamber_23 (Nat.le_of_ble_eq_true rfl) rfl ?_
  refine r_aload_n X (x := k.b + (20)) dX6_readChamber_24 rfl ?_
  refine r_getfield X (v := .ref (k.b + (3))) clsX6 flX6_18 (Nat.le_of_ble_eq_true rfl) _ o_parser rfl dX6_readChamber_25 ?_
  refine r_iconst X (v := 0) dX6_readChamber_28 rfl ?_
  refine r_sipush X (v := 999) dX6_readChamber_29 rfl ?_
  obtain ⟨u32, h32, hf⟩ := bdS hf
  refine r_callV0 X [.int 0, .int 999] [] (K2_readNumber h32) lkX6_91 clsX2 rfl _ o_reader (by decide) (Nat.le_of_ble_eq_true rfl) rfl rfl (Nat.le_of_ble_eq_true rfl) rfl rfl (Nat.zero_le _) (Nat.zero_le _) dX6_readChamber_32 ?_
  refine r_istore_n X [some (.ref (k.b + (20))), some (.int u8.1), some (.int u20.1), some (.int u32.1)] dX6_readChamber_35 (Nat.le_of_ble_eq_true rfl) rfl ?_
  refine r_aload_n X (x := k.b + (20)) dX6_readChamber_36 rfl ?_
  refine r_getfield X (v := .ref (k.b + (3))) clsX6 flX6_18 (Nat.le_of_ble_eq_true rfl) _ o_parser rfl dX6_readChamber_37 ?_
  obtain ⟨u40, h40, hf⟩ := bdS hf
  refine r_callV0 X [] [] (K2_readSemicolon h40) lkX6_95 clsX2 rfl _ o_reader (by decide) (Nat.le_of_ble_eq_true rfl) rfl rfl (Nat.le_of_ble_eq_true rfl) rfl rfl (Nat.zero_le _) (Nat.zero_le _) dX6_readChamber_40 ?_
  refine r_aload_n X (x := k.b + (20)) dX6_readChamber_43 rfl ?_
  refine r_getfield X (v := .ref (k.b + (3))) clsX6 flX6_18 (Nat.le_of_ble_eq_true rfl) _ o_parser rfl dX6_readChamber_44 ?_
  refine r_getfield X (v := .int (RR_errorCode u40)) clsX2 flX6_34 (Nat.le_of_ble_eq_true rfl) _ o_reader rfl dX6_readChamber_47 ?_
  refine r_if_ne X 63 dX6_readChamber_50 rfl (fun c50 => ?_) (fun c50 => ?_)
  · replace hf := ifF hf c50
    obtain rfl := Option.some.inj hf
    exact r_return X hQ rfl rfl (Nat.le_of_ble_eq_true rfl) (Nat.le_of_ble_eq_true rfl) dX6_readChamber_63
  · replace hf := ifT hf c50
    refine r_aload_n X (x := k.b + (20)) dX6_readChamber_53 rfl ?_
    refine r_getfield X (v := .ref (k.b + (4 + 17 * (1 : Fin 2).val))) clsX6 flX6_12 (Nat.le_of_ble_eq_true rfl) _ o_parser rfl dX6_readChamber_54 ?_
    refine r_iload_n X (x := u8.1) dX6_readChamber_57 rfl ?_
    refine r_iload_n X (x := u20.1) dX6_readChamber_58 rfl ?_
    refine r_iload_n X (x := u32.1) dX6_readChamber_59 rfl ?_
    obtain ⟨u60, h60, hf⟩ := bdS hf
    refine r_callV0 X [.int u8.1, .int u20.1, .int u32.1] [] (K1_addChamber h60) lkX6_98 clsX1 rfl _ (o_lay1 (1 : Fin 2) _) (by decide) (Nat.le_of_ble_eq_true rfl) rfl rfl (Nat.le_of_ble_eq_true rfl) rfl rfl (Nat.zero_le _) (Nat.zero_le _) dX6_readChamber_60 ?_
    obtain rfl := Option.some.inj hf
    exact r_return X hQ rfl rfl (Nat.le_of_ble_eq_true rfl) (Nat.le_of_ble_eq_true rfl) dX6_readChamber_63
