/-! the methods do it -/
set_option maxRecDepth 100000 in
set_option maxHeartbeats 4000000 in
theorem B9_settled_B36 {k : KT} {z : ZT} {T : TT} {R : RR} {ly : Fin 2 → LL} {rc : RC} {hn : HN} {rp : RP} {tp : TP} {ee : EE} {st : Fin 12 → SS} {r : Int32} (X : XX k strs z RX9 cX9_settled 7 (some .int) (rmD 3 0 0)) (hQ : zQ z = MQ (zB z) (Qof k (some (.int r)) (wAll k T R ly rc hn rp tp ee st)) (zA z) (zS z) 0 0 (kA k)) : ∀ (fu : Nat) (x2 : Int32) (x3 : Int64) (x5 : Int32) (x6 : Int32), f9_settled_B36 (ly (0 : Fin 2)) tp st fu x2 x3 x5 x6 = some r → VW k z 0 0 (wAll k T R ly rc hn rp tp ee st) 36 [some (.ref (k.b + (0))), none, some (.int x2), some (.long x3), none, some (.int x5), some (.int x6)] [] := by
  intro fu
  induction fu with
  | zero =>
    intro x2 x3 x5 x6 hf
    rw [f9_settled_B36] at hf
    cases hf
  | succ fu ih =>
    intro x2 x3 x5 x6 hf
    rw [f9_settled_B36] at hf
    refine r_iload X (x := x6) dX9_settled_36 rfl ?_
    refine r_aload_n X (x := k.b + (0)) dX9_settled_38 rfl ?_
    refine r_getfield X (v := .ref (k.b + (4 + 17 * (0 : Fin 2).val))) clsX9 flX9_28 (Nat.le_of_ble_eq_true rfl) _ o_main rfl dX9_settled_39 ?_
    refine r_getfield X (v := .int (LL_chambers (ly (0 : Fin 2)))) clsX1 flX9_125 (Nat.le_of_ble_eq_true rfl) _ (o_lay (0 : Fin 2)) rfl dX9_settled_42 ?_
    refine r_icmp_ge X 91 dX9_settled_45 rfl (fun c45 => ?_) (fun c45 => ?_)
    · replace hf := ifT hf c45
      refine r_iload X (x := x5) dX9_settled_91 rfl ?_
      refine r_if_le X 105 dX9_settled_93 rfl (fun c93 => ?_) (fun c93 => ?_)
      · replace hf := ifT hf c93
        refine r_iconst X (v := 0) dX9_settled_105 rfl ?_
        obtain rfl := Option.some.inj hf
        exact r_ireturn X hQ rfl rfl (Nat.le_of_ble_eq_true rfl) (Nat.le_of_ble_eq_true rfl) dX9_settled_106
      · replace hf := ifF hf c93
        refine r_lload_n X (x := x3) dX9_settled_96 rfl ?_
        refine r_iload X (x := x5) dX9_settled_97 rfl ?_
        refine r_i2l X dX9_settled_99 ?_
        obtain ⟨g100z, hf⟩ := gdS hf
        refine r_ldiv X dX9_settled_100 g100z ?_
        refine r_l2i X dX9_settled_101 ?_
        refine r_goto X 106 dX9_settled_102 rfl ?_
        obtain rfl := Option.some.inj hf
        exact r_ireturn X hQ rfl rfl (Nat.le_of_ble_eq_true rfl) (Nat.le_of_ble_eq_true rfl) dX9_settled_106
    · replace hf := ifF hf c45
      refine r_iload_n X (x := x2) dX9_settled_48 rfl ?_
      refine r_iload X (x := x6) dX9_settled_49 rfl ?_
      obtain ⟨u51, h51, hf⟩ := bdS hf
      refine r_callS0 X [.int x2, .int x6] [] (K9_has h51) lkX9_313 (by decide) (Nat.le_of_ble_eq_true rfl) rfl rfl (Nat.le_of_ble_eq_true rfl) rfl rfl (Nat.zero_le _) (Nat.zero_le _) dX9_settled_51 ?_
      refine r_if_eq X 85 dX9_settled_54 rfl (fun c54 => ?_) (fun c54 => ?_)
      · replace hf := ifT hf c54
        refine r_iinc X (x := x6) (v := x6 + 1) [some (.ref (k.b + (0))), none, some (.int x2), some (.long x3), none, some (.int x5), some (.int (x6 + 1))] dX9_settled_85 rfl rfl rfl ?_
        refine r_goto X 36 dX9_settled_88 rfl ?_
        exact ih x2 x3 x5 (x6 + 1) hf
      · replace hf := ifF hf c54
        refine r_lload_n X (x := x3) dX9_settled_57 rfl ?_
        refine r_aload_n X (x := k.b + (0)) dX9_settled_58 rfl ?_
        refine r_getfield X (v := .ref (k.b + (45 + 12 * (TP_pr tp).val))) clsX9 flX9_73 (Nat.le_of_ble_eq_true rfl) _ o_main rfl dX9_settled_59 ?_
        refine r_getfield X (v := .ref (k.b + (45 + 12 * (TP_pr tp).val + 1))) clsX5 flX9_266 (Nat.le_of_ble_eq_true rfl) _ (o_st (TP_pr tp)) rfl dX9_settled_62 ?_
        refine r_iload X (x := x6) dX9_settled_65 rfl ?_
        obtain ⟨g67, hf⟩ := gdS hf
        refine r_laload X (f := SS_gas (st (TP_pr tp))) _ (a_st_gas (TP_pr tp)) g67 dX9_settled_67 ?_
        refine r_ladd X dX9_settled_68 ?_
        refine r_lstore_n X [some (.ref (k.b + (0))), none, some (.int x2), some (.long (x3 + ((SS_gas (st (TP_pr tp))) (ix x6)))), none, some (.int x5), some (.int x6)] dX9_settled_69 (Nat.le_of_ble_eq_true rfl) rfl ?_
        refine r_iload X (x := x5) dX9_settled_70 rfl ?_
        refine r_aload_n X (x := k.b + (0)) dX9_settled_72 rfl ?_
        refine r_getfield X (v := .ref (k.b + (4 + 17 * (0 : Fin 2).val))) clsX9 flX9_28 (Nat.le_of_ble_eq_true rfl) _ o_main rfl dX9_settled_73 ?_
        refine r_getfield X (v := .ref (k.b + (4 + 17 * (0 : Fin 2).val + 1))) clsX1 flX9_251 (Nat.le_of_ble_eq_true rfl) _ (o_lay (0 : Fin 2)) rfl dX9_settled_76 ?_
        refine r_iload X (x := x6) dX9_settled_79 rfl ?_
        refine r_iaload X (f := LL_volume (ly (0 : Fin 2))) _ (a_lay_volume (0 : Fin 2)) g67 dX9_settled_81 ?_
        refine r_iadd X dX9_settled_82 ?_
        refine r_istore X [some (.ref (k.b + (0))), none, some (.int x2), some (.long (x3 + ((SS_gas (st (TP_pr tp))) (ix x6)))), none, some (.int (x5 + ((LL_volume (ly (0 : Fin 2))) (ix x6)))), some (.int x6)] dX9_settled_83 (Nat.le_of_ble_eq_true rfl) rfl ?_
        refine r_iinc X (x := x6) (v := x6 + 1) [some (.ref (k.b + (0))), none, some (.int x2), some (.long (x3 + ((SS_gas (st (TP_pr tp))) (ix x6)))), none, some (.int (x5 + ((LL_volume (ly (0 : Fin 2))) (ix x6)))), some (.int (x6 + 1))] dX9_settled_85 rfl rfl rfl ?_
        refine r_goto X 36 dX9_settled_88 rfl ?_
        exact ih x2 (x3 + ((SS_gas (st (TP_pr tp))) (ix x6))) (x5 + ((LL_volume (ly (0 : Fin 2))) (ix x6))) (x6 + 1) hf
set_option maxRecDepth 100000 in
set_option maxHeartbeats 4000000 in
theorem K9_settled {k : KT} {T : TT} {R : RR} {ly : Fin 2 → LL} {rc : RC} {hn : HN} {rp : RP} {tp : TP} {ee : EE} {st : Fin 12 → SS}  {x1 : Int32} {r : Int32} (hf : f9_settled (ly (0 : Fin 2)) tp st  x1 = some r) : CT k strs yX9_settled cX9_settled 7 (some .int) (rmD 3 0 0) 0 0 [.ref (k.b + (0)), .int x1] (wAll k T R ly rc hn rp tp ee st) (some (.int r)) (wAll k T R ly rc hn rp tp ee st) := by
  refine CT.of (by decide) (Nat.le_of_ble_eq_true rfl) ?_
  intro z X hQ
  show VW k z 0 0 (wAll k T R ly rc hn rp tp ee st) 0 [some (.ref (k.b + (0))), some (.int x1), none, none, none, none, none] []
  unfold f9_settled at hf
  refine r_aload_n X (x := k.b + (0)) dX9_settled_0 rfl ?_
  refine r_getfield X (v := .ref (k.b + (4 + 17 * (0 : Fin 2).val))) clsX9 flX9_28 (Nat.le_of_ble_eq_true rfl) _ o_main rfl dX9_settled_1 ?_
  refine r_iload_n X (x := x1) dX9_settled_4 rfl ?_
  obtain ⟨u5, h5, hf⟩ := bdS hf
  refine r_callV0 X [.int x1] [] (K1_hasChamber h5) lkX9_185 clsX1 rfl _ (o_lay (0 : Fin 2)) (by decide) (Nat.le_of_ble_eq_true rfl) rfl rfl (Nat.le_of_ble_eq_true rfl) rfl rfl (Nat.zero_le _) (Nat.zero_le _) dX9_settled_5 ?_
  refine r_if_ne X 19 dX9_settled_8 rfl (fun c8 => ?_) (fun c8 => ?_)
  · replace hf := ifF hf c8
    refine r_aload_n X (x := k.b + (0)) dX9_settled_19 rfl ?_
    refine r_getfield X (v := .ref (k.b + (45 + 12 * (TP_pr tp).val))) clsX9 flX9_73 (Nat.le_of_ble_eq_true rfl) _ o_main rfl dX9_settled_20 ?_
    refine r_iload_n X (x := x1) dX9_settled_23 rfl ?_
    obtain ⟨u24, h24, hf⟩ := bdS hf
    refine r_callV0 X [.int x1] [] (CT_unS (W := fun zz => wAll k T R ly rc hn rp tp ee zz) (W2 := fun zz => wAll k T R ly rc hn rp tp ee zz) (st := st) (TP_pr tp) (K5_reach h24)) lkX9_310 clsX5 rfl _ (o_st (TP_pr tp)) (by decide) (Nat.le_of_ble_eq_true rfl) rfl rfl (Nat.le_of_ble_eq_true rfl) rfl rfl (Nat.zero_le _) (Nat.zero_le _) dX9_settled_24 ?_
    refine r_istore_n X [some (.ref (k.b + (0))), some (.int x1), some (.int u24), none, none, none, none] dX9_settled_27 (Nat.le_of_ble_eq_true rfl) rfl ?_
    refine r_lconst X (v := 0) dX9_settled_28 rfl ?_
    refine r_lstore_n X [some (.ref (k.b + (0))), some (.int x1), some (.int u24), some (.long 0), none, none, none] dX9_settled_29 (Nat.le_of_ble_eq_true rfl) rfl ?_
    refine r_iconst X (v := 0) dX9_settled_30 rfl ?_
    refine r_istore X [some (.ref (k.b + (0))), some (.int x1), some (.int u24), some (.long 0), none, some (.int 0), none] dX9_settled_31 (Nat.le_of_ble_eq_true rfl) rfl ?_
    refine r_iconst X (v := 0) dX9_settled_33 rfl ?_
    refine r_istore X [some (.ref (k.b + (0))), some (.int x1), some (.int u24), some (.long 0), none, some (.int 0), some (.int 0)] dX9_settled_34 (Nat.le_of_ble_eq_true rfl) rfl ?_
    refine VW.msk [true, false, true, true, false, true, true] rfl (lo' := [some (.ref (k.b + (0))), none, some (.int u24), some (.long 0), none, some (.int 0), some (.int 0)]) rfl ?_
    exact B9_settled_B36 X hQ FU u24 0 0 0 hf
  · replace hf := ifT hf c8
    cases hf
set_option maxRecDepth 100000 in
set_option maxHeartbeats 4000000 in
theorem B9_openable_B4 {k : KT} {z : ZT} {T : TT} {R : RR} {ly : Fin 2 → LL} {rc : RC} {hn : HN} {rp : RP} {tp : TP} {ee : EE} {st : Fin 12 → SS} {r : Int32} (X : XX k strs z RX9 cX9_openable 3 (some .int) (rmD 3 0 0)) (hQ : zQ z = MQ (zB z) (Qof k (some (.int r)) (wAll k T R ly rc hn rp tp ee st)) (zA z) (zS z) 0 0 (kA k)) : ∀ (fu : Nat) (x1 : Int32) (x2 : Int32), f9_openable_B4 (ly (0 : Fin 2)) tp st fu x1 x2 = some r → VW k z 0 0 (wAll k T R ly rc hn rp tp ee st) 4 [some (.ref (k.b + (0))), some (.int x1), some (.int x2)] [] := by
  intro fu
  induction fu with
  | zero =>
    intro x1 x2 hf
    rw [f9_openable_B4] at hf
    cases hf
  | succ fu ih =>
    intro x1 x2 hf
    rw [f9_openable_B4] at hf
    refine r_iload_n X (x := x2) dX9_openable_4 rfl ?_
    refine r_aload_n X (x := k.b + (0)) dX9_openable_5 rfl ?_
    refine r_getfield X (v := .ref (k.b + (4 + 17 * (0 : Fin 2).val))) clsX9 flX9_28 (Nat.le_of_ble_eq_true rfl) _ o_main rfl dX9_openable_6 ?_
    refine r_getfield X (v := .int (LL_valves (ly (0 : Fin 2)))) clsX1 flX9_223 (Nat.le_of_ble_eq_true rfl) _ (o_lay (0 : Fin 2)) rfl dX9_openable_9 ?_
    refine r_icmp_ge X 38 dX9_openable_12 rfl (fun c12 => ?_) (fun c12 => ?_)
    · replace hf := ifT hf c12
      refine r_iload_n X (x := x1) dX9_openable_38 rfl ?_
      obtain rfl := Option.some.inj hf
      exact r_ireturn X hQ rfl rfl (Nat.le_of_ble_eq_true rfl) (Nat.le_of_ble_eq_true rfl) dX9_openable_39
    · replace hf := ifF hf c12
      refine r_aload_n X (x := k.b + (0)) dX9_openable_15 rfl ?_
      refine r_getfield X (v := .ref (k.b + (45 + 12 * (TP_pr tp).val))) clsX9 flX9_73 (Nat.le_of_ble_eq_true rfl) _ o_main rfl dX9_openable_16 ?_
      refine r_iload_n X (x := x2) dX9_openable_19 rfl ?_
      obtain ⟨u20, h20, hf⟩ := bdS hf
      refine r_callV0 X [.int x2] [] (CT_unS (W := fun zz => wAll k T R ly rc hn rp tp ee zz) (W2 := fun zz => wAll k T R ly rc hn rp tp ee zz) (st := st) (TP_pr tp) (K5_openingBar h20)) lkX9_135 clsX5 rfl _ (o_st (TP_pr tp)) (by decide) (Nat.le_of_ble_eq_true rfl) rfl rfl (Nat.le_of_ble_eq_true rfl) rfl rfl (Nat.zero_le _) (Nat.zero_le _) dX9_openable_20 ?_
      refine r_if_ne X 32 dX9_openable_23 rfl (fun c23 => ?_) (fun c23 => ?_)
      · replace hf := ifF hf c23
        refine r_iinc X (x := x2) (v := x2 + 1) [some (.ref (k.b + (0))), some (.int x1), some (.int (x2 + 1))] dX9_openable_32 rfl rfl rfl ?_
        refine r_goto X 4 dX9_openable_35 rfl ?_
        exact ih x1 (x2 + 1) hf
      · replace hf := ifT hf c23
        refine r_iload_n X (x := x1) dX9_openable_26 rfl ?_
        refine r_iconst X (v := 1) dX9_openable_27 rfl ?_
        refine r_iload_n X (x := x2) dX9_openable_28 rfl ?_
        refine r_ishl X dX9_openable_29 ?_
        refine r_ior X dX9_openable_30 ?_
        refine r_istore_n X [some (.ref (k.b + (0))), some (.int (x1 ||| (1 <<< (x2 &&& 31)))), some (.int x2)] dX9_openable_31 (Nat.le_of_ble_eq_true rfl) rfl ?_
        refine r_iinc X (x := x2) (v := x2 + 1) [some (.ref (k.b + (0))), some (.int (x1 ||| (1 <<< (x2 &&& 31)))), some (.int (x2 + 1))] dX9_openable_32 rfl rfl rfl ?_
        refine r_goto X 4 dX9_openable_35 rfl ?_
        exact ih (x1 ||| (1 <<< (x2 &&& 31))) (x2 + 1) hf
set_option maxRecDepth 100000 in
set_option maxHeartbeats 4000000 in
theorem K9_openable {k : KT} {T : TT} {R : RR} {ly : Fin 2 → LL} {rc : RC} {hn : HN} {rp : RP} {tp : TP} {ee : EE} {st : Fin 12 → SS}   {r : Int32} (hf : f9_openable (ly (0 : Fin 2)) tp st   = some r) : CT k strs yX9_openable cX9_openable 3 (some .int) (rmD 3 0 0) 0 0 [.ref (k.b + (0))] (wAll k T R ly rc hn rp tp ee st) (some (.int r)) (wAll k T R ly rc hn rp tp ee st) := by
  refine CT.of (by decide) (Nat.le_of_ble_eq_true rfl) ?_
  intro z X hQ
  show VW k z 0 0 (wAll k T R ly rc hn rp tp ee st) 0 [some (.ref (k.b + (0))), none, none] []
  unfold f9_openable at hf
  refine r_iconst X (v := 0) dX9_openable_0 rfl ?_
  refine r_istore_n X [some (.ref (k.b + (0))), some (.int 0), none] dX9_openable_1 (Nat.le_of_ble_eq_true rfl) rfl ?_
  refine r_iconst X (v := 0) dX9_openable_2 rfl ?_
  refine r_istore_n X [some (.ref (k.b + (0))), some (.int 0), some (.int 0)] dX9_openable_3 (Nat.le_of_ble_eq_true rfl) rfl ?_
  exact B9_openable_B4 X hQ FU 0 0 hf
set_option maxRecDepth 100000 in
set_option maxHeartbeats 4000000 in
theorem K9_pressureAfter {k : KT} {T : TT} {R : RR} {ly : Fin 2 → LL} {rc : RC} {hn : HN} {rp : RP} {tp : TP} {ee : EE} {st : Fin 12 → SS}  {x1 : Int32} {x2 : Int32} {r : Int32 × (Fin 12 → SS)} (hf : f9_pressureAfter (ly (0 : Fin 2)) tp st x1 x2 = some r) : CT k strs yX9_pressureAfter cX9_pressureAfter 3 (some .int) (rmD 5 0 0) 0 0 [.ref (k.b + (0)), .int x1, .int x2] (wAll k T R ly rc hn rp tp ee st) (some (.int r.1)) (wAll k T R ly rc hn rp tp ee r.2) := by
  refine CT.of (by decide) (Nat.le_of_ble_eq_true rfl) ?_
  intro z X hQ
  show VW k z 0 0 (wAll k T R ly rc hn rp tp ee st) 0 [some (.ref (k.b + (0))), some (.int x1), some (.int x2)] []
  unfold f9_pressureAfter at hf
  refine r_aload_n X (x := k.b + (0)) dX9_pressureAfter_0 rfl ?_
  refine r_getfield X (v := .ref (k.b + (4 + 17 * (0 : Fin 2).val))) clsX9 flX9_28 (Nat.le_of_ble_eq_true rfl) _ o_main rfl dX9_pressureAfter_1 ?_
  refine r_iload_n X (x := x1) dX9_pressureAfter_4 rfl ?_
  obtain ⟨u5, h5, hf⟩ := bdS hf
  refine r_callV0 X [.int x1] [] (K1_hasChamber h5) lkX9_185 clsX1 rfl _ (o_lay (0 : Fin 2)) (by decide) (Nat.le_of_ble_eq_true rfl) rfl rfl (Nat.le_of_ble_eq_true rfl) rfl rfl (Nat.zero_le _) (Nat.zero_le _) dX9_pressureAfter_5 ?_
  refine r_if_ne X 19 dX9_pressureAfter_8 rfl (fun c8 => ?_) (fun c8 => ?_)
  · replace hf := ifF hf c8
    refine r_iload_n X (x := x2) dX9_pressureAfter_19 rfl ?_
    obtain ⟨u20, h20, hf⟩ := bdS hf
    refine r_callS0 X [.int x2] [] (K9_isTicks h20) lkX9_179 (by decide) (Nat.le_of_ble_eq_true rfl) rfl rfl (Nat.le_of_ble_eq_true rfl) rfl rfl (Nat.zero_le _) (Nat.zero_le _) dX9_pressureAfter_20 ?_
    refine r_if_ne X 34 dX9_pressureAfter_23 rfl (fun c23 => ?_) (fun c23 => ?_)
    · replace hf := ifF hf c23
      refine r_aload_n X (x := k.b + (0)) dX9_pressureAfter_34 rfl ?_
      obtain ⟨u35, h35, hf⟩ := bdS hf
      refine r_callV0 X [] [] (K9_beginTrial h35) lkX9_139 clsX9 rfl _ o_main (by decide) (Nat.le_of_ble_eq_true rfl) rfl rfl (Nat.le_of_ble_eq_true rfl) rfl rfl (Nat.zero_le _) (Nat.zero_le _) dX9_pressureAfter_35 ?_
      refine r_aload_n X (x := k.b + (0)) dX9_pressureAfter_38 rfl ?_
      refine r_getfield X (v := .ref (k.b + (45 + 12 * (TP_tr tp).val))) clsX9 flX9_77 (Nat.le_of_ble_eq_true rfl) _ o_main rfl dX9_pressureAfter_39 ?_
      refine r_iload_n X (x := x2) dX9_pressureAfter_42 rfl ?_
      refine VW.foc (ws' := wAll k T R ly rc hn rp tp ee (updF u35 (TP_tr tp) (u35 (TP_tr tp)))) (by rw [updF_self]) ?_
      obtain ⟨u43, h43, hf⟩ := bdS hf
      refine r_callV0 X [.int x2] [] (K5_passTicks h43) lkX9_182 clsX5 rfl _ (o_st1 (TP_tr tp) _) (by decide) (Nat.le_of_ble_eq_true rfl) rfl rfl (Nat.le_of_ble_eq_true rfl) rfl rfl (Nat.zero_le _) (Nat.zero_le _) dX9_pressureAfter_43 ?_
      refine r_pop X dX9_pressureAfter_46 rfl ?_
      refine r_aload_n X (x := k.b + (0)) dX9_pressureAfter_47 rfl ?_
      refine r_getfield X (v := .ref (k.b + (45 + 12 * (TP_tr tp).val))) clsX9 flX9_77 (Nat.le_of_ble_eq_true rfl) _ o_main rfl dX9_pressureAfter_48 ?_
      refine r_getfield X (v := .ref (k.b + (45 + 12 * (TP_tr tp).val + 2))) clsX5 flX9_166 (Nat.le_of_ble_eq_true rfl) _ (o_st1 (TP_tr tp) _) rfl dX9_pressureAfter_51 ?_
      refine r_iload_n X (x := x1) dX9_pressureAfter_54 rfl ?_
      obtain ⟨g55, hf⟩ := gdS hf
      refine r_iaload X (f := SS_pressure u43.2) _ (a_st1_pressure (TP_tr tp) _) g55 dX9_pressureAfter_55 ?_
      obtain rfl := Option.some.inj hf
      exact r_ireturn X hQ rfl rfl (Nat.le_of_ble_eq_true rfl) (Nat.le_of_ble_eq_true rfl) dX9_pressureAfter_56
    · replace hf := ifT hf c23
      cases hf
  · replace hf := ifT hf c8
    cases hf
set_option maxRecDepth 100000 in
set_option maxHeartbeats 4000000 in
theorem B9_lowest_B51 {k : KT} {z : ZT} {T : TT} {R : RR} {ly : Fin 2 → LL} {rc : RC} {hn : HN} {rp : RP} {tp : TP} {ee : EE} {r : Int32 × (Fin 12 → SS)} (X : XX k strs z RX9 cX9_lowest 5 (some .int) (rmD 4 0 0)) (hQ : zQ z = MQ (zB z) (Qof k (some (.int r.1)) (wAll k T R ly rc hn rp tp ee r.2)) (zA z) (zS z) 0 0 (kA k)) : ∀ (fu : Nat) (st : Fin 12 → SS) (x1 : Int32) (x2 : Int32) (x3 : Int32) (x4 : Int32), f9_lowest_B51 (ly (0 : Fin 2)) tp fu st x1 x2 x3 x4 = some r → VW k z 0 0 (wAll k T R ly rc hn rp tp ee st) 51 [some (.ref (k.b + (0))), some (.int x1), some (.int x2), some (.int x3), some (.int x4)] [] := by
  intro fu
  induction fu with
  | zero =>
    intro st x1 x2 x3 x4 hf
    rw [f9_lowest_B51] at hf
    cases hf
  | succ fu ih =>
    intro st x1 x2 x3 x4 hf
    rw [f9_lowest_B51] at hf
    refine r_iload X (x := x4) dX9_lowest_51 rfl ?_
    refine r_iload_n X (x := x2) dX9_lowest_53 rfl ?_
    refine r_icmp_ge X 85 dX9_lowest_54 rfl (fun c54 => ?_) (fun c54 => ?_)
    · replace hf := ifT hf c54
      refine r_iload_n X (x := x3) dX9_lowest_85 rfl ?_
      obtain rfl := Option.some.inj hf
      exact r_ireturn X hQ rfl rfl (Nat.le_of_ble_eq_true rfl) (Nat.le_of_ble_eq_true rfl) dX9_lowest_86
    · replace hf := ifF hf c54
      refine r_aload_n X (x := k.b + (0)) dX9_lowest_57 rfl ?_
      refine r_getfield X (v := .ref (k.b + (45 + 12 * (TP_tr tp).val))) clsX9 flX9_77 (Nat.le_of_ble_eq_true rfl) _ o_main rfl dX9_lowest_58 ?_
      refine VW.foc (ws' := wAll k T R ly rc hn rp tp ee (updF st (TP_tr tp) (st (TP_tr tp)))) (by rw [updF_self]) ?_
      obtain ⟨u61, h61, hf⟩ := bdS hf
      refine r_callV0 X [] [] (K5_tick h61) lkX9_335 clsX5 rfl _ (o_st1 (TP_tr tp) _) (by decide) (Nat.le_of_ble_eq_true rfl) rfl rfl (Nat.le_of_ble_eq_true rfl) rfl rfl (Nat.zero_le _) (Nat.zero_le _) dX9_lowest_61 ?_
      refine r_pop X dX9_lowest_64 rfl ?_
      refine r_iload_n X (x := x3) dX9_lowest_65 rfl ?_
      refine r_aload_n X (x := k.b + (0)) dX9_lowest_66 rfl ?_
      refine r_getfield X (v := .ref (k.b + (45 + 12 * (TP_tr tp).val))) clsX9 flX9_77 (Nat.le_of_ble_eq_true rfl) _ o_main rfl dX9_lowest_67 ?_
      refine r_getfield X (v := .ref (k.b + (45 + 12 * (TP_tr tp).val + 2))) clsX5 flX9_166 (Nat.le_of_ble_eq_true rfl) _ (o_st1 (TP_tr tp) _) rfl dX9_lowest_70 ?_
      refine r_iload_n X (x := x1) dX9_lowest_73 rfl ?_
      obtain ⟨g74, hf⟩ := gdS hf
      refine r_iaload X (f := SS_pressure u61.2) _ (a_st1_pressure (TP_tr tp) _) g74 dX9_lowest_74 ?_
      refine r_imin X lkX9_317 rfl ⟨(Nat.le_of_ble_eq_true rfl), (Nat.le_of_ble_eq_true rfl)⟩ (Nat.zero_le _) (Nat.zero_le _) dX9_lowest_75 ?_
      refine r_istore_n X [some (.ref (k.b + (0))), some (.int x1), some (.int x2), some (.int (if ((SS_pressure u61.2) (ix x1)) < x3 then ((SS_pressure u61.2) (ix x1)) else x3)), some (.int x4)] dX9_lowest_78 (Nat.le_of_ble_eq_true rfl) rfl ?_
      refine r_iinc X (x := x4) (v := x4 + 1) [some (.ref (k.b + (0))), some (.int x1), some (.int x2), some (.int (if ((SS_pressure u61.2) (ix x1)) < x3 then ((SS_pressure u61.2) (ix x1)) else x3)), some (.int (x4 + 1))] dX9_lowest_79 rfl rfl rfl ?_
      refine r_goto X 51 dX9_lowest_82 rfl ?_
      exact ih (updF st (TP_tr tp) u61.2) x1 x2 (if ((SS_pressure u61.2) (ix x1)) < x3 then ((SS_pressure u61.2) (ix x1)) else x3) (x4 + 1) hf
set_option maxRecDepth 100000 in
set_option maxHeartbeats 4000000 in
theorem K9_lowest {k : KT} {T : TT} {R : RR} {ly : Fin 2 → LL} {rc : RC} {hn : HN} {rp : RP} {tp : TP} {ee : EE} {st : Fin 12 → SS}  {x1 : Int32} {x2 : Int32} {r : Int32 × (Fin 12 → SS)} (hf : f9_lowest (ly (0 : Fin 2)) tp st x1 x2 = some r) : CT k strs yX9_lowest cX9_lowest 5 (some .int) (rmD 4 0 0) 0 0 [.ref (k.b + (0)), .int x1, .int x2] (wAll k T R ly rc hn rp tp ee st) (some (.int r.1)) (wAll k T R ly rc hn rp tp ee r.2) := by
  refine CT.of (by decide) (Nat.le_of_ble_eq_true rfl) ?_
  intro z X hQ
  show VW k z 0 0 (wAll k T R ly rc hn rp tp ee st) 0 [some (.ref (k.b + (0))), some (.int x1), some (.int x2), none, none] []
  unfold f9_lowest at hf
  refine r_aload_n X (x := k.b + (0)) dX9_lowest_0 rfl ?_
  refine r_getfield X (v := .ref (k.b + (4 + 17 * (0 : Fin 2).val))) clsX9 flX9_28 (Nat.le_of_ble_eq_true rfl) _ o_main rfl dX9_lowest_1 ?_
  refine r_iload_n X (x := x1) dX9_lowest_4 rfl ?_
  obtain ⟨u5, h5, hf⟩ := bdS hf
  refine r_callV0 X [.int x1] [] (K1_hasChamber h5) lkX9_185 clsX1 rfl _ (o_lay (0 : Fin 2)) (by decide) (Nat.le_of_ble_eq_true rfl) rfl rfl (Nat.le_of_ble_eq_true rfl) rfl rfl (Nat.zero_le _) (Nat.zero_le _) dX9_lowest_5 ?_
  refine r_if_ne X 19 dX9_lowest_8 rfl (fun c8 => ?_) (fun c8 => ?_)
  · replace hf := ifF hf c8
    refine r_iload_n X (x := x2) dX9_lowest_19 rfl ?_
    obtain ⟨u20, h20, hf⟩ := bdS hf
    refine r_callS0 X [.int x2] [] (K9_isTicks h20) lkX9_179 (by decide) (Nat.le_of_ble_eq_true rfl) rfl rfl (Nat.le_of_ble_eq_true rfl) rfl rfl (Nat.zero_le _) (Nat.zero_le _) dX9_lowest_20 ?_
    refine r_if_ne X 34 dX9_lowest_23 rfl (fun c23 => ?_) (fun c23 => ?_)
    · replace hf := ifF hf c23
      refine r_aload_n X (x := k.b + (0)) dX9_lowest_34 rfl ?_
      obtain ⟨u35, h35, hf⟩ := bdS hf
      refine r_callV0 X [] [] (K9_beginTrial h35) lkX9_139 clsX9 rfl _ o_main (by decide) (Nat.le_of_ble_eq_true rfl) rfl rfl (Nat.le_of_ble_eq_true rfl) rfl rfl (Nat.zero_le _) (Nat.zero_le _) dX9_lowest_35 ?_
      refine r_aload_n X (x := k.b + (0)) dX9_lowest_38 rfl ?_
      refine r_getfield X (v := .ref (k.b + (45 + 12 * (TP_tr tp).val))) clsX9 flX9_77 (Nat.le_of_ble_eq_true rfl) _ o_main rfl dX9_lowest_39 ?_
      refine r_getfield X (v := .ref (k.b + (45 + 12 * (TP_tr tp).val + 2))) clsX5 flX9_166 (Nat.le_of_ble_eq_true rfl) _ (o_st (TP_tr tp)) rfl dX9_lowest_42 ?_
      refine r_iload_n X (x := x1) dX9_lowest_45 rfl ?_
      obtain ⟨g46, hf⟩ := gdS hf
      refine r_iaload X (f := SS_pressure (u35 (TP_tr tp))) _ (a_st_pressure (TP_tr tp)) g46 dX9_lowest_46 ?_
      refine r_istore_n X [some (.ref (k.b + (0))), some (.int x1), some (.int x2), some (.int ((SS_pressure (u35 (TP_tr tp))) (ix x1))), none] dX9_lowest_47 (Nat.le_of_ble_eq_true rfl) rfl ?_
      refine r_iconst X (v := 0) dX9_lowest_48 rfl ?_
      refine r_istore X [some (.ref (k.b + (0))), some (.int x1), some (.int x2), some (.int ((SS_pressure (u35 (TP_tr tp))) (ix x1))), some (.int 0)] dX9_lowest_49 (Nat.le_of_ble_eq_true rfl) rfl ?_
      exact B9_lowest_B51 X hQ FU u35 x1 x2 ((SS_pressure (u35 (TP_tr tp))) (ix x1)) 0 hf
    · replace hf := ifT hf c23
      cases hf
  · replace hf := ifT hf c8
    cases hf
set_option maxRecDepth 100000 in
set_option maxHeartbeats 4000000 in
theorem K9_ticksTo {k : KT} {T : TT} {R : RR} {ly : Fin 2 → LL} {rc : RC} {hn : HN} {rp : RP} {tp : TP} {ee : EE} {st : Fin 12 → SS}  {x1 : Int32} {x2 : Int32} {r : Int32 × (Fin 12 → SS)} (hf : f9_ticksTo (ly (0 : Fin 2)) tp st x1 x2 = some r) : CT k strs yX9_ticksTo cX9_ticksTo 4 (some .int) (rmD 5 0 0) 0 0 [.ref (k.b + (0)), .int x1, .int x2] (wAll k T R ly rc hn rp tp ee st) (some (.int r.1)) (wAll k T R ly rc hn rp tp ee r.2) := by
  refine CT.of (by decide) (Nat.le_of_ble_eq_true rfl) ?_
  intro z X hQ
  show VW k z 0 0 (wAll k T R ly rc hn rp tp ee st) 0 [some (.ref (k.b + (0))), some (.int x1), some (.int x2), none] []
  unfold f9_ticksTo at hf
  refine r_aload_n X (x := k.b + (0)) dX9_ticksTo_0 rfl ?_
  refine r_getfield X (v := .ref (k.b + (4 + 17 * (0 : Fin 2).val))) clsX9 flX9_28 (Nat.le_of_ble_eq_true rfl) _ o_main rfl dX9_ticksTo_1 ?_
  refine r_iload_n X (x := x1) dX9_ticksTo_4 rfl ?_
  obtain ⟨u5, h5, hf⟩ := bdS hf
  refine r_callV0 X [.int x1] [] (K1_hasChamber h5) lkX9_185 clsX1 rfl _ (o_lay (0 : Fin 2)) (by decide) (Nat.le_of_ble_eq_true rfl) rfl rfl (Nat.le_of_ble_eq_true rfl) rfl rfl (Nat.zero_le _) (Nat.zero_le _) dX9_ticksTo_5 ?_
  refine r_if_ne X 19 dX9_ticksTo_8 rfl (fun c8 => ?_) (fun c8 => ?_)
  · replace hf := ifF hf c8
    refine r_iload_n X (x := x2) dX9_ticksTo_19 rfl ?_
    obtain ⟨u20, h20, hf⟩ := bdS hf
    refine r_callS0 X [.int x2] [] (K9_isPressure h20) lkX9_188 (by decide) (Nat.le_of_ble_eq_true rfl) rfl rfl (Nat.le_of_ble_eq_true rfl) rfl rfl (Nat.zero_le _) (Nat.zero_le _) dX9_ticksTo_20 ?_
    refine r_if_ne X 34 dX9_ticksTo_23 rfl (fun c23 => ?_) (fun c23 => ?_)
    · replace hf := ifF hf c23
      refine r_aload_n X (x := k.b + (0)) dX9_ticksTo_34 rfl ?_
      obtain ⟨u35, h35, hf⟩ := bdS hf
      refine r_callV0 X [] [] (K9_beginTrial h35) lkX9_139 clsX9 rfl _ o_main (by decide) (Nat.le_of_ble_eq_true rfl) rfl rfl (Nat.le_of_ble_eq_true rfl) rfl rfl (Nat.zero_le _) (Nat.zero_le _) dX9_ticksTo_35 ?_
      refine r_aload_n X (x := k.b + (0)) dX9_ticksTo_38 rfl ?_
      refine r_getfield X (v := .ref (k.b + (45 + 12 * (TP_tr tp).val))) clsX9 flX9_77 (Nat.le_of_ble_eq_true rfl) _ o_main rfl dX9_ticksTo_39 ?_
      refine r_iload_n X (x := x1) dX9_ticksTo_42 rfl ?_
      refine r_iload_n X (x := x2) dX9_ticksTo_43 rfl ?_
      refine VW.foc (ws' := wAll k T R ly rc hn rp tp ee (updF u35 (TP_tr tp) (u35 (TP_tr tp)))) (by rw [updF_self]) ?_
      obtain ⟨u44, h44, hf⟩ := bdS hf
      refine r_callV0 X [.int x1, .int x2] [] (K5_passUntilAtMost h44) lkX9_191 clsX5 rfl _ (o_st1 (TP_tr tp) _) (by decide) (Nat.le_of_ble_eq_true rfl) rfl rfl (Nat.le_of_ble_eq_true rfl) rfl rfl (Nat.zero_le _) (Nat.zero_le _) dX9_ticksTo_44 ?_
      refine r_istore_n X [some (.ref (k.b + (0))), some (.int x1), some (.int x2), some (.int u44.1)] dX9_ticksTo_47 (Nat.le_of_ble_eq_true rfl) rfl ?_
      refine r_iload_n X (x := u44.1) dX9_ticksTo_48 rfl ?_
      refine r_iconst X (v := (-1)) dX9_ticksTo_49 rfl ?_
      refine r_icmp_ne X 61 dX9_ticksTo_50 rfl (fun c50 => ?_) (fun c50 => ?_)
      · replace hf := ifF hf c50
        refine r_iload_n X (x := u44.1) dX9_ticksTo_61 rfl ?_
        obtain rfl := Option.some.inj hf
        exact r_ireturn X hQ rfl rfl (Nat.le_of_ble_eq_true rfl) (Nat.le_of_ble_eq_true rfl) dX9_ticksTo_62
      · replace hf := ifT hf c50
        cases hf
    · replace hf := ifT hf c23
      cases hf
  · replace hf := ifT hf c8
    cases hf
set_option maxRecDepth 100000 in
set_option maxHeartbeats 4000000 in
theorem K9_tripsIn {k : KT} {T : TT} {R : RR} {ly : Fin 2 → LL} {rc : RC} {hn : HN} {rp : RP} {tp : TP} {ee : EE} {st : Fin 12 → SS}  {x1 : Int32} {r : Int32 × (Fin 12 → SS)} (hf : f9_tripsIn (ly (0 : Fin 2)) tp st x1 = some r) : CT k strs yX9_tripsIn cX9_tripsIn 2 (some .int) (rmD 5 0 0) 0 0 [.ref (k.b + (0)), .int x1] (wAll k T R ly rc hn rp tp ee st) (some (.int r.1)) (wAll k T R ly rc hn rp tp ee r.2) := by
  refine CT.of (by decide) (Nat.le_of_ble_eq_true rfl) ?_
  intro z X hQ
  show VW k z 0 0 (wAll k T R ly rc hn rp tp ee st) 0 [some (.ref (k.b + (0))), some (.int x1)] []
  unfold f9_tripsIn at hf
  refine r_iload_n X (x := x1) dX9_tripsIn_0 rfl ?_
  obtain ⟨u1, h1, hf⟩ := bdS hf
  refine r_callS0 X [.int x1] [] (K9_isTicks h1) lkX9_179 (by decide) (Nat.le_of_ble_eq_true rfl) rfl rfl (Nat.le_of_ble_eq_true rfl) rfl rfl (Nat.zero_le _) (Nat.zero_le _) dX9_tripsIn_1 ?_
  refine r_if_ne X 15 dX9_tripsIn_4 rfl (fun c4 => ?_) (fun c4 => ?_)
  · replace hf := ifF hf c4
    refine r_aload_n X (x := k.b + (0)) dX9_tripsIn_15 rfl ?_
    obtain ⟨u16, h16, hf⟩ := bdS hf
    refine r_callV0 X [] [] (K9_beginTrial h16) lkX9_139 clsX9 rfl _ o_main (by decide) (Nat.le_of_ble_eq_true rfl) rfl rfl (Nat.le_of_ble_eq_true rfl) rfl rfl (Nat.zero_le _) (Nat.zero_le _) dX9_tripsIn_16 ?_
    refine r_aload_n X (x := k.b + (0)) dX9_tripsIn_19 rfl ?_
    refine r_getfield X (v := .ref (k.b + (45 + 12 * (TP_tr tp).val))) clsX9 flX9_77 (Nat.le_of_ble_eq_true rfl) _ o_main rfl dX9_tripsIn_20 ?_
    refine r_iload_n X (x := x1) dX9_tripsIn_23 rfl ?_
    refine VW.foc (ws' := wAll k T R ly rc hn rp tp ee (updF u16 (TP_tr tp) (u16 (TP_tr tp)))) (by rw [updF_self]) ?_
    obtain ⟨u24, h24, hf⟩ := bdS hf
    refine r_callV0 X [.int x1] [] (K5_passTicks h24) lkX9_182 clsX5 rfl _ (o_st1 (TP_tr tp) _) (by decide) (Nat.le_of_ble_eq_true rfl) rfl rfl (Nat.le_of_ble_eq_true rfl) rfl rfl (Nat.zero_le _) (Nat.zero_le _) dX9_tripsIn_24 ?_
    obtain rfl := Option.some.inj hf
    exact r_ireturn X hQ rfl rfl (Nat.le_of_ble_eq_true rfl) (Nat.le_of_ble_eq_true rfl) dX9_tripsIn_27
  · replace hf := ifT hf c4
    cases hf
set_option maxRecDepth 100000 in
set_option maxHeartbeats 4000000 in
theorem B9_meanPressure_B43 {k : KT} {z : ZT} {T : TT} {R : RR} {ly : Fin 2 → LL} {rc : RC} {hn : HN} {rp : RP} {tp : TP} {ee : EE} {r : UInt64 × (Fin 12 → SS)} (X : XX k strs z RX9 cX9_meanPressure 6 (some .double) (rmD 4 0 0)) (hQ : zQ z = MQ (zB z) (Qof k (some (.double r.1)) (wAll k T R ly rc hn rp tp ee r.2)) (zA z) (zS z) 0 0 (kA k)) : ∀ (fu : Nat) (st : Fin 12 → SS) (x1 : Int32) (x2 : Int32) (x3 : Int64) (x5 : Int32), f9_meanPressure_B43 (ly (0 : Fin 2)) tp fu st x1 x2 x3 x5 = some r → VW k z 0 0 (wAll k T R ly rc hn rp tp ee st) 43 [some (.ref (k.b + (0))), some (.int x1), some (.int x2), some (.long x3), none, some (.int x5)] [] := by
  intro fu
  induction fu with
  | zero =>
    intro st x1 x2 x3 x5 hf
    rw [f9_meanPressure_B43] at hf
    cases hf
  | succ fu ih =>
    intro st x1 x2 x3 x5 hf
    rw [f9_meanPressure_B43] at hf
    refine r_iload X (x := x5) dX9_meanPressure_43 rfl ?_
    refine r_iload_n X (x := x2) dX9_meanPressure_45 rfl ?_
    refine r_icmp_ge X 76 dX9_meanPressure_46 rfl (fun c46 => ?_) (fun c46 => ?_)
    · replace hf := ifT hf c46
      refine r_lload_n X (x := x3) dX9_meanPressure_76 rfl ?_
      refine r_l2d X dX9_meanPressure_77 ?_
      refine r_iload_n X (x := x2) dX9_meanPressure_78 rfl ?_
      refine r_i2d X dX9_meanPressure_79 ?_
      obtain ⟨g80n, hf⟩ := gdS hf
      refine r_ddiv X dX9_meanPressure_80 (nn_of g80n) ?_
      obtain rfl := Option.some.inj hf
      exact r_dreturn X hQ rfl rfl (Nat.le_of_ble_eq_true rfl) (Nat.le_of_ble_eq_true rfl) dX9_meanPressure_81
    · replace hf := ifF hf c46
      refine r_aload_n X (x := k.b + (0)) dX9_meanPressure_49 rfl ?_
      refine r_getfield X (v := .ref (k.b + (45 + 12 * (TP_tr tp).val))) clsX9 flX9_77 (Nat.le_of_ble_eq_true rfl) _ o_main rfl dX9_meanPressure_50 ?_
      refine VW.foc (ws' := wAll k T R ly rc hn rp tp ee (updF st (TP_tr tp) (st (TP_tr tp)))) (by rw [updF_self]) ?_
      obtain ⟨u53, h53, hf⟩ := bdS hf
      refine r_callV0 X [] [] (K5_tick h53) lkX9_335 clsX5 rfl _ (o_st1 (TP_tr tp) _) (by decide) (Nat.le_of_ble_eq_true rfl) rfl rfl (Nat.le_of_ble_eq_true rfl) rfl rfl (Nat.zero_le _) (Nat.zero_le _) dX9_meanPressure_53 ?_
      refine r_pop X dX9_meanPressure_56 rfl ?_
      refine r_lload_n X (x := x3) dX9_meanPressure_57 rfl ?_
      refine r_aload_n X (x := k.b + (0)) dX9_meanPressure_58 rfl ?_
      refine r_getfield X (v := .ref (k.b + (45 + 12 * (TP_tr tp).val))) clsX9 flX9_77 (Nat.le_of_ble_eq_true rfl) _ o_main rfl dX9_meanPressure_59 ?_
      refine r_getfield X (v := .ref (k.b + (45 + 12 * (TP_tr tp).val + 2))) clsX5 flX9_166 (Nat.le_of_ble_eq_true rfl) _ (o_st1 (TP_tr tp) _) rfl dX9_meanPressure_62 ?_
      refine r_iload_n X (x := x1) dX9_meanPressure_65 rfl ?_
      obtain ⟨g66, hf⟩ := gdS hf
      refine r_iaload X (f := SS_pressure u53.2) _ (a_st1_pressure (TP_tr tp) _) g66 dX9_meanPressure_66 ?_
      refine r_i2l X dX9_meanPressure_67 ?_
      refine r_ladd X dX9_meanPressure_68 ?_
      refine r_lstore_n X [some (.ref (k.b + (0))), some (.int x1), some (.int x2), some (.long (x3 + (((SS_pressure u53.2) (ix x1)).toInt64))), none, some (.int x5)] dX9_meanPressure_69 (Nat.le_of_ble_eq_true rfl) rfl ?_
      refine r_iinc X (x := x5) (v := x5 + 1) [some (.ref (k.b + (0))), some (.int x1), some (.int x2), some (.long (x3 + (((SS_pressure u53.2) (ix x1)).toInt64))), none, some (.int (x5 + 1))] dX9_meanPressure_70 rfl rfl rfl ?_
      refine r_goto X 43 dX9_meanPressure_73 rfl ?_
      exact ih (updF st (TP_tr tp) u53.2) x1 x2 (x3 + (((SS_pressure u53.2) (ix x1)).toInt64)) (x5 + 1) hf
set_option maxRecDepth 100000 in
set_option maxHeartbeats 4000000 in
theorem K9_meanPressure {k : KT} {T : TT} {R : RR} {ly : Fin 2 → LL} {rc : RC} {hn : HN} {rp : RP} {tp : TP} {ee : EE} {st : Fin 12 → SS}  {x1 : Int32} {x2 : Int32} {r : UInt64 × (Fin 12 → SS)} (hf : f9_meanPressure (ly (0 : Fin 2)) tp st x1 x2 = some r) : CT k strs yX9_meanPressure cX9_meanPressure 6 (some .double) (rmD 4 0 0) 0 0 [.ref (k.b + (0)), .int x1, .int x2] (wAll k T R ly rc hn rp tp ee st) (some (.double r.1)) (wAll k T R ly rc hn rp tp ee r.2) := by
  refine CT.of (by decide) (Nat.le_of_ble_eq_true rfl) ?_
  intro z X hQ
  show VW k z 0 0 (wAll k T R ly rc hn rp tp ee st) 0 [some (.ref (k.b + (0))), some (.int x1), some (.int x2), none, none, none] []
  unfold f9_meanPressure at hf
  refine r_aload_n X (x := k.b + (0)) dX9_meanPressure_0 rfl ?_
  refine r_getfield X (v := .ref (k.b + (4 + 17 * (0 : Fin 2).val))) clsX9 flX9_28 (Nat.le_of_ble_eq_true rfl) _ o_main rfl dX9_meanPressure_1 ?_
  refine r_iload_n X (x := x1) dX9_meanPressure_4 rfl ?_
  obtain ⟨u5, h5, hf⟩ := bdS hf
  refine r_callV0 X [.int x1] [] (K1_hasChamber h5) lkX9_185 clsX1 rfl _ (o_lay (0 : Fin 2)) (by decide) (Nat.le_of_ble_eq_true rfl) rfl rfl (Nat.le_of_ble_eq_true rfl) rfl rfl (Nat.zero_le _) (Nat.zero_le _) dX9_meanPressure_5 ?_
  refine r_if_ne X 19 dX9_meanPressure_8 rfl (fun c8 => ?_) (fun c8 => ?_)
  · replace hf := ifF hf c8
    refine r_iload_n X (x := x2) dX9_meanPressure_19 rfl ?_
    obtain ⟨u20, h20, hf⟩ := bdS hf
    refine r_callS0 X [.int x2] [] (K9_isTicks h20) lkX9_179 (by decide) (Nat.le_of_ble_eq_true rfl) rfl rfl (Nat.le_of_ble_eq_true rfl) rfl rfl (Nat.zero_le _) (Nat.zero_le _) dX9_meanPressure_20 ?_
    refine r_if_ne X 34 dX9_meanPressure_23 rfl (fun c23 => ?_) (fun c23 => ?_)
    · replace hf := ifF hf c23
      refine r_aload_n X (x := k.b + (0)) dX9_meanPressure_34 rfl ?_
      obtain ⟨u35, h35, hf⟩ := bdS hf
      refine r_callV0 X [] [] (K9_beginTrial h35) lkX9_139 clsX9 rfl _ o_main (by decide) (Nat.le_of_ble_eq_true rfl) rfl rfl (Nat.le_of_ble_eq_true rfl) rfl rfl (Nat.zero_le _) (Nat.zero_le _) dX9_meanPressure_35 ?_
      refine r_lconst X (v := 0) dX9_meanPressure_38 rfl ?_
      refine r_lstore_n X [some (.ref (k.b + (0))), some (.int x1), some (.int x2), some (.long 0), none, none] dX9_meanPressure_39 (Nat.le_of_ble_eq_true rfl) rfl ?_
      refine r_iconst X (v := 0) dX9_meanPressure_40 rfl ?_
      refine r_istore X [some (.ref (k.b + (0))), some (.int x1), some (.int x2), some (.long 0), none, some (.int 0)] dX9_meanPressure_41 (Nat.le_of_ble_eq_true rfl) rfl ?_
      exact B9_meanPressure_B43 X hQ FU u35 x1 x2 0 0 hf
    · replace hf := ifT hf c23
      cases hf
  · replace hf := ifT hf c8
    cases hf
set_option maxRecDepth 100000 in
set_option maxHeartbeats 4000000 in
theorem B9_spray_B26 {k : KT} {z : ZT} {T : TT} {R : RR} {ly : Fin 2 → LL} {rc : RC} {hn : HN} {rp : RP} {tp : TP} {ee : EE} {st : Fin 12 → SS} {r : Int32} (X : XX k strs z RX9 cX9_spray 4 (some .int) (rmD 1 0 0)) (hQ : zQ z = MQ (zB z) (Qof k (some (.int r)) (wAll k T R ly rc hn rp tp ee st)) (zA z) (zS z) 0 0 (kA k)) : ∀ (fu : Nat) (x1 : Int32) (x2 : Int32) (x3 : Int32), f9_spray_B26 (ly (0 : Fin 2)) tp st fu x1 x2 x3 = some r → VW k z 0 0 (wAll k T R ly rc hn rp tp ee st) 26 [some (.ref (k.b + (0))), some (.int x1), some (.int x2), some (.int x3)] [] := by
  intro fu
  induction fu with
  | zero =>
    intro x1 x2 x3 hf
    rw [f9_spray_B26] at hf
    cases hf
  | succ fu ih =>
    intro x1 x2 x3 hf
    rw [f9_spray_B26] at hf
    refine r_iload_n X (x := x3) dX9_spray_26 rfl ?_
    refine r_aload_n X (x := k.b + (0)) dX9_spray_27 rfl ?_
    refine r_getfield X (v := .ref (k.b + (4 + 17 * (0 : Fin 2).val))) clsX9 flX9_28 (Nat.le_of_ble_eq_true rfl) _ o_main rfl dX9_spray_28 ?_
    refine r_getfield X (v := .int (LL_flanges (ly (0 : Fin 2)))) clsX1 flX9_226 (Nat.le_of_ble_eq_true rfl) _ (o_lay (0 : Fin 2)) rfl dX9_spray_31 ?_
    refine r_icmp_ge X 63 dX9_spray_34 rfl (fun c34 => ?_) (fun c34 => ?_)
    · replace hf := ifT hf c34
      refine r_iload_n X (x := x2) dX9_spray_63 rfl ?_
      obtain rfl := Option.some.inj hf
      exact r_ireturn X hQ rfl rfl (Nat.le_of_ble_eq_true rfl) (Nat.le_of_ble_eq_true rfl) dX9_spray_64
    · replace hf := ifF hf c34
      refine r_iload_n X (x := x1) dX9_spray_37 rfl ?_
      refine r_iload_n X (x := x3) dX9_spray_38 rfl ?_
      obtain ⟨u39, h39, hf⟩ := bdS hf
      refine r_callS0 X [.int x1, .int x3] [] (K9_has h39) lkX9_313 (by decide) (Nat.le_of_ble_eq_true rfl) rfl rfl (Nat.le_of_ble_eq_true rfl) rfl rfl (Nat.zero_le _) (Nat.zero_le _) dX9_spray_39 ?_
      refine r_if_eq X 57 dX9_spray_42 rfl (fun c42 => ?_) (fun c42 => ?_)
      · replace hf := ifT hf c42
        refine r_iinc X (x := x3) (v := x3 + 1) [some (.ref (k.b + (0))), some (.int x1), some (.int x2), some (.int (x3 + 1))] dX9_spray_57 rfl rfl rfl ?_
        refine r_goto X 26 dX9_spray_60 rfl ?_
        exact ih x1 x2 (x3 + 1) hf
      · replace hf := ifF hf c42
        refine r_iload_n X (x := x2) dX9_spray_45 rfl ?_
        refine r_aload_n X (x := k.b + (0)) dX9_spray_46 rfl ?_
        refine r_getfield X (v := .ref (k.b + (45 + 12 * (TP_pr tp).val))) clsX9 flX9_73 (Nat.le_of_ble_eq_true rfl) _ o_main rfl dX9_spray_47 ?_
        refine r_getfield X (v := .ref (k.b + (45 + 12 * (TP_pr tp).val + 8))) clsX5 flX9_300 (Nat.le_of_ble_eq_true rfl) _ (o_st (TP_pr tp)) rfl dX9_spray_50 ?_
        refine r_iload_n X (x := x3) dX9_spray_53 rfl ?_
        obtain ⟨g54, hf⟩ := gdS hf
        refine r_iaload X (f := SS_leak (st (TP_pr tp))) _ (a_st_leak (TP_pr tp)) g54 dX9_spray_54 ?_
        refine r_iadd X dX9_spray_55 ?_
        refine r_istore_n X [some (.ref (k.b + (0))), some (.int x1), some (.int (x2 + ((SS_leak (st (TP_pr tp))) (ix x3)))), some (.int x3)] dX9_spray_56 (Nat.le_of_ble_eq_true rfl) rfl ?_
        refine r_iinc X (x := x3) (v := x3 + 1) [some (.ref (k.b + (0))), some (.int x1), some (.int (x2 + ((SS_leak (st (TP_pr tp))) (ix x3)))), some (.int (x3 + 1))] dX9_spray_57 rfl rfl rfl ?_
        refine r_goto X 26 dX9_spray_60 rfl ?_
        exact ih x1 (x2 + ((SS_leak (st (TP_pr tp))) (ix x3))) (x3 + 1) hf
set_option maxRecDepth 100000 in
set_option maxHeartbeats 4000000 in
theorem K9_spray {k : KT} {T : TT} {R : RR} {ly : Fin 2 → LL} {rc : RC} {hn : HN} {rp : RP} {tp : TP} {ee : EE} {st : Fin 12 → SS}  {x1 : Int32} {r : Int32} (hf : f9_spray (ly (0 : Fin 2)) tp st  x1 = some r) : CT k strs yX9_spray cX9_spray 4 (some .int) (rmD 1 0 0) 0 0 [.ref (k.b + (0)), .int x1] (wAll k T R ly rc hn rp tp ee st) (some (.int r)) (wAll k T R ly rc hn rp tp ee st) := by
  refine CT.of (by decide) (Nat.le_of_ble_eq_true rfl) ?_
  intro z X hQ
  show VW k z 0 0 (wAll k T R ly rc hn rp tp ee st) 0 [some (.ref (k.b + (0))), some (.int x1), none, none] []
  unfold f9_spray at hf
  refine r_iload_n X (x := x1) dX9_spray_0 rfl ?_
  refine r_aload_n X (x := k.b + (0)) dX9_spray_1 rfl ?_
  refine r_getfield X (v := .ref (k.b + (4 + 17 * (0 : Fin 2).val))) clsX9 flX9_28 (Nat.le_of_ble_eq_true rfl) _ o_main rfl dX9_spray_2 ?_
  obtain ⟨u5, h5, hf⟩ := bdS hf
  refine r_callV0 X [] [.int x1] (K1_allFlanges h5) lkX9_338 clsX1 rfl _ (o_lay (0 : Fin 2)) (by decide) (Nat.le_of_ble_eq_true rfl) rfl rfl (Nat.le_of_ble_eq_true rfl) rfl rfl (Nat.zero_le _) (Nat.zero_le _) dX9_spray_5 ?_
  refine r_iconst X (v := (-1)) dX9_spray_8 rfl ?_
  refine r_ixor X dX9_spray_9 ?_
  refine r_iand X dX9_spray_10 ?_
  refine r_if_eq X 22 dX9_spray_11 rfl (fun c11 => ?_) (fun c11 => ?_)
  · replace hf := ifT hf c11
    refine r_iconst X (v := 0) dX9_spray_22 rfl ?_
    refine r_istore_n X [some (.ref (k.b + (0))), some (.int x1), some (.int 0), none] dX9_spray_23 (Nat.le_of_ble_eq_true rfl) rfl ?_
    refine r_iconst X (v := 0) dX9_spray_24 rfl ?_
    refine r_istore_n X [some (.ref (k.b + (0))), some (.int x1), some (.int 0), some (.int 0)] dX9_spray_25 (Nat.le_of_ble_eq_true rfl) rfl ?_
    exact B9_spray_B26 X hQ FU x1 0 0 hf
  · replace hf := ifF hf c11
    cases hf
set_option maxRecDepth 100000 in
set_option maxHeartbeats 4000000 in
theorem K9_sprays {k : KT} {T : TT} {R : RR} {ly : Fin 2 → LL} {rc : RC} {hn : HN} {rp : RP} {tp : TP} {ee : EE} {st : Fin 12 → SS}  {x1 : Int32} {x2 : Int32} {r : Int32 × (HN)} (hf : f9_sprays (ly (0 : Fin 2)) tp st hn x1 x2 = some r) : CT k strs yX9_sprays cX9_sprays 3 (some .int) (rmD 2 0 0) 0 0 [.ref (k.b + (0)), .int x1, .int x2] (wAll k T R ly rc hn rp tp ee st) (some (.int r.1)) (wAll k T R ly rc r.2 rp tp ee st) := by
  refine CT.of (by decide) (Nat.le_of_ble_eq_true rfl) ?_
  intro z X hQ
  show VW k z 0 0 (wAll k T R ly rc hn rp tp ee st) 0 [some (.ref (k.b + (0))), some (.int x1), some (.int x2)] []
  unfold f9_sprays at hf
  refine r_aload_n X (x := k.b + (0)) dX9_sprays_0 rfl ?_
  refine r_getfield X (v := .ref (k.b + (4 + 17 * (0 : Fin 2).val))) clsX9 flX9_28 (Nat.le_of_ble_eq_true rfl) _ o_main rfl dX9_sprays_1 ?_
  refine r_iload_n X (x := x1) dX9_sprays_4 rfl ?_
  obtain ⟨u5, h5, hf⟩ := bdS hf
  refine r_callV0 X [.int x1] [] (K1_hasChamber h5) lkX9_185 clsX1 rfl _ (o_lay (0 : Fin 2)) (by decide) (Nat.le_of_ble_eq_true rfl) rfl rfl (Nat.le_of_ble_eq_true rfl) rfl rfl (Nat.zero_le _) (Nat.zero_le _) dX9_sprays_5 ?_
  refine r_if_ne X 19 dX9_sprays_8 rfl (fun c8 => ?_) (fun c8 => ?_)
  · replace hf := ifF hf c8
    refine r_iload_n X (x := x2) dX9_sprays_19 rfl ?_
    refine r_iconst X (v := 1) dX9_sprays_20 rfl ?_
    refine r_icmp_lt X 31 dX9_sprays_21 rfl (fun c21 => ?_) (fun c21 => ?_)
    · replace hf := ifT hf c21
      cases hf
    · replace hf := ifF hf c21
      refine r_iload_n X (x := x2) dX9_sprays_24 rfl ?_
      refine r_sipush X (v := 9999) dX9_sprays_25 rfl ?_
      refine r_icmp_le X 39 dX9_sprays_28 rfl (fun c28 => ?_) (fun c28 => ?_)
      · replace hf := ifT hf c28
        refine r_aload_n X (x := k.b + (0)) dX9_sprays_39 rfl ?_
        refine r_getfield X (v := .ref (k.b + (38))) clsX9 flX9_53 (Nat.le_of_ble_eq_true rfl) _ o_main rfl dX9_sprays_40 ?_
        refine r_aload_n X (x := k.b + (0)) dX9_sprays_43 rfl ?_
        refine r_getfield X (v := .ref (k.b + (45 + 12 * (TP_pr tp).val))) clsX9 flX9_73 (Nat.le_of_ble_eq_true rfl) _ o_main rfl dX9_sprays_44 ?_
        refine r_iload_n X (x := x1) dX9_sprays_47 rfl ?_
        refine r_iload_n X (x := x2) dX9_sprays_48 rfl ?_
        obtain ⟨u49, h49, hf⟩ := bdS hf
        refine r_callV0 X [.ref (k.b + (45 + 12 * (TP_pr tp).val)), .int x1, .int x2] [] (CT_unS (W := fun zz => wAll k T R ly rc hn rp tp ee zz) (W2 := fun zz => wAll k T R ly rc u49 rp tp ee zz) (st := st) (TP_pr tp) (K0_run h49)) lkX9_341 clsX0 rfl _ o_hunt (by decide) (Nat.le_of_ble_eq_true rfl) rfl rfl (Nat.le_of_ble_eq_true rfl) rfl rfl (Nat.zero_le _) (Nat.zero_le _) dX9_sprays_49 ?_
        refine r_aload_n X (x := k.b + (0)) dX9_sprays_52 rfl ?_
        refine r_getfield X (v := .ref (k.b + (38))) clsX9 flX9_53 (Nat.le_of_ble_eq_true rfl) _ o_main rfl dX9_sprays_53 ?_
        refine r_getfield X (v := .int (HN_sprayed u49)) clsX0 flX9_344 (Nat.le_of_ble_eq_true rfl) _ o_hunt rfl dX9_sprays_56 ?_
        obtain rfl := Option.some.inj hf
        exact r_ireturn X hQ rfl rfl (Nat.le_of_ble_eq_true rfl) (Nat.le_of_ble_eq_true rfl) dX9_sprays_59
      · replace hf := ifF hf c28
        cases hf
  · replace hf := ifT hf c8
    cases hf
set_option maxRecDepth 100000 in
set_option maxHeartbeats 4000000 in
theorem K9_found {k : KT} {T : TT} {R : RR} {ly : Fin 2 → LL} {rc : RC} {hn : HN} {rp : RP} {tp : TP} {ee : EE} {st : Fin 12 → SS}  {x1 : Int32} {x2 : Int32} {r : Int32 × (HN)} (hf : f9_found (ly (0 : Fin 2)) tp st hn x1 x2 = some r) : CT k strs yX9_found cX9_found 3 (some .int) (rmD 2 0 0) 0 0 [.ref (k.b + (0)), .int x1, .int x2] (wAll k T R ly rc hn rp tp ee st) (some (.int r.1)) (wAll k T R ly rc r.2 rp tp ee st) := by
  refine CT.of (by decide) (Nat.le_of_ble_eq_true rfl) ?_
  intro z X hQ
  show VW k z 0 0 (wAll k T R ly rc hn rp tp ee st) 0 [some (.ref (k.b + (0))), some (.int x1), some (.int x2)] []
  unfold f9_found at hf
  refine r_aload_n X (x := k.b + (0)) dX9_found_0 rfl ?_
  refine r_getfield X (v := .ref (k.b + (4 + 17 * (0 : Fin 2).val))) clsX9 flX9_28 (Nat.le_of_ble_eq_true rfl) _ o_main rfl dX9_found_1 ?_
  refine r_iload_n X (x := x1) dX9_found_4 rfl ?_
  obtain ⟨u5, h5, hf⟩ := bdS hf
  refine r_callV0 X [.int x1] [] (K1_hasChamber h5) lkX9_185 clsX1 rfl _ (o_lay (0 : Fin 2)) (by decide) (Nat.le_of_ble_eq_true rfl) rfl rfl (Nat.le_of_ble_eq_true rfl) rfl rfl (Nat.zero_le _) (Nat.zero_le _) dX9_found_5 ?_
  refine r_if_ne X 19 dX9_found_8 rfl (fun c8 => ?_) (fun c8 => ?_)
  · replace hf := ifF hf c8
    refine r_iload_n X (x := x2) dX9_found_19 rfl ?_
    refine r_iconst X (v := 1) dX9_found_20 rfl ?_
    refine r_icmp_lt X 31 dX9_found_21 rfl (fun c21 => ?_) (fun c21 => ?_)
    · replace hf := ifT hf c21
      cases hf
    · replace hf := ifF hf c21
      refine r_iload_n X (x := x2) dX9_found_24 rfl ?_
      refine r_sipush X (v := 9999) dX9_found_25 rfl ?_
      refine r_icmp_le X 39 dX9_found_28 rfl (fun c28 => ?_) (fun c28 => ?_)
      · replace hf := ifT hf c28
        refine r_aload_n X (x := k.b + (0)) dX9_found_39 rfl ?_
        refine r_getfield X (v := .ref (k.b + (38))) clsX9 flX9_53 (Nat.le_of_ble_eq_true rfl) _ o_main rfl dX9_found_40 ?_
        refine r_aload_n X (x := k.b + (0)) dX9_found_43 rfl ?_
        refine r_getfield X (v := .ref (k.b + (45 + 12 * (TP_pr tp).val))) clsX9 flX9_73 (Nat.le_of_ble_eq_true rfl) _ o_main rfl dX9_found_44 ?_
        refine r_iload_n X (x := x1) dX9_found_47 rfl ?_
        refine r_iload_n X (x := x2) dX9_found_48 rfl ?_
        obtain ⟨u49, h49, hf⟩ := bdS hf
        refine r_callV0 X [.ref (k.b + (45 + 12 * (TP_pr tp).val)), .int x1, .int x2] [] (CT_unS (W := fun zz => wAll k T R ly rc hn rp tp ee zz) (W2 := fun zz => wAll k T R ly rc u49 rp tp ee zz) (st := st) (TP_pr tp) (K0_run h49)) lkX9_341 clsX0 rfl _ o_hunt (by decide) (Nat.le_of_ble_eq_true rfl) rfl rfl (Nat.le_of_ble_eq_true rfl) rfl rfl (Nat.zero_le _) (Nat.zero_le _) dX9_found_49 ?_
        refine r_aload_n X (x := k.b + (0)) dX9_found_52 rfl ?_
        refine r_getfield X (v := .ref (k.b + (38))) clsX9 flX9_53 (Nat.le_of_ble_eq_true rfl) _ o_main rfl dX9_found_53 ?_
        refine r_getfield X (v := .int (HN_foundSet u49)) clsX0 flX9_347 (Nat.le_of_ble_eq_true rfl) _ o_hunt rfl dX9_found_56 ?_
        obtain rfl := Option.some.inj hf
        exact r_ireturn X hQ rfl rfl (Nat.le_of_ble_eq_true rfl) (Nat.le_of_ble_eq_true rfl) dX9_found_59
      · replace hf := ifF hf c28
        cases hf
  · replace hf := ifT hf c8
    cases hf
set_option maxRecDepth 100000 in
set_option maxHeartbeats 4000000 in
theorem B9_writeReport_B10 {k : KT} {z : ZT} {T : TT} {R : RR} {ly : Fin 2 → LL} {rc : RC} {hn : HN} {tp : TP} {ee : EE} {st : Fin 12 → SS} {r : Int32 × (RP)} (X : XX k strs z RX9 cX9_writeReport 2 (some .int) (rmD 6 0 0)) (hQ : zQ z = MQ (zB z) (Qof k (some (.int r.1)) (wAll k T R ly rc hn r.2 tp ee st)) (zA z) (zS z) 0 0 (kA k)) : ∀ (fu : Nat) (rp : RP) (x1 : Int32), f9_writeReport_B10 (ly (0 : Fin 2)) tp st fu rp x1 = some r → VW k z 0 0 (wAll k T R ly rc hn rp tp ee st) 10 [some (.ref (k.b + (0))), some (.int x1)] [] := by
  intro fu
  induction fu with
  | zero =>
    intro rp x1 hf
    rw [f9_writeReport_B10] at hf
    cases hf
  | succ fu ih =>
    intro rp x1 hf
    rw [f9_writeReport_B10] at hf
    refine r_iload_n X (x := x1) dX9_writeReport_10 rfl ?_
    refine r_aload_n X (x := k.b + (0)) dX9_writeReport_11 rfl ?_
    refine r_getfield X (v := .ref (k.b + (4 + 17 * (0 : Fin 2).val))) clsX9 flX9_28 (Nat.le_of_ble_eq_true rfl) _ o_main rfl dX9_writeReport_12 ?_
    refine r_getfield X (v := .int (LL_chambers (ly (0 : Fin 2)))) clsX1 flX9_125 (Nat.le_of_ble_eq_true rfl) _ (o_lay (0 : Fin 2)) rfl dX9_writeReport_15 ?_
    refine r_icmp_ge X 137 dX9_writeReport_18 rfl (fun c18 => ?_) (fun c18 => ?_)
    · replace hf := ifT hf c18
      refine r_aload_n X (x := k.b + (0)) dX9_writeReport_137 rfl ?_
      refine r_getfield X (v := .ref (k.b + (42))) clsX9 flX9_60 (Nat.le_of_ble_eq_true rfl) _ o_main rfl dX9_writeReport_138 ?_
      refine r_getfield X (v := .int (RP_length rp)) clsX4 flX9_350 (Nat.le_of_ble_eq_true rfl) _ o_report rfl dX9_writeReport_141 ?_
      obtain rfl := Option.some.inj hf
      exact r_ireturn X hQ rfl rfl (Nat.le_of_ble_eq_true rfl) (Nat.le_of_ble_eq_true rfl) dX9_writeReport_144
    · replace hf := ifF hf c18
      refine r_aload_n X (x := k.b + (0)) dX9_writeReport_21 rfl ?_
      refine r_getfield X (v := .ref (k.b + (42))) clsX9 flX9_60 (Nat.le_of_ble_eq_true rfl) _ o_main rfl dX9_writeReport_22 ?_
      refine r_ldcwS X 5 rfl dX9_writeReport_25 ?_
      obtain ⟨u28, h28, hf⟩ := bdS hf
      refine r_callV0 X [.ref (k.sK 5)] [] (K4_addText h28) lkX9_353 clsX4 rfl _ o_report (by decide) (Nat.le_of_ble_eq_true rfl) rfl rfl (Nat.le_of_ble_eq_true rfl) rfl rfl (Nat.zero_le _) (Nat.zero_le _) dX9_writeReport_28 ?_
      refine r_aload_n X (x := k.b + (0)) dX9_writeReport_31 rfl ?_
      refine r_getfield X (v := .ref (k.b + (42))) clsX9 flX9_60 (Nat.le_of_ble_eq_true rfl) _ o_main rfl dX9_writeReport_32 ?_
      refine r_iload_n X (x := x1) dX9_writeReport_35 rfl ?_
      obtain ⟨u36, h36, hf⟩ := bdS hf
      refine r_callV0 X [.int x1] [] (K4_addNumber h36) lkX9_357 clsX4 rfl _ o_report (by decide) (Nat.le_of_ble_eq_true rfl) rfl rfl (Nat.le_of_ble_eq_true rfl) rfl rfl (Nat.zero_le _) (Nat.zero_le _) dX9_writeReport_36 ?_
      refine r_aload_n X (x := k.b + (0)) dX9_writeReport_39 rfl ?_
      refine r_getfield X (v := .ref (k.b + (42))) clsX9 flX9_60 (Nat.le_of_ble_eq_true rfl) _ o_main rfl dX9_writeReport_40 ?_
      refine r_ldcwS X 6 rfl dX9_writeReport_43 ?_
      obtain ⟨u46, h46, hf⟩ := bdS hf
      refine r_callV0 X [.ref (k.sK 6)] [] (K4_addText h46) lkX9_353 clsX4 rfl _ o_report (by decide) (Nat.le_of_ble_eq_true rfl) rfl rfl (Nat.le_of_ble_eq_true rfl) rfl rfl (Nat.zero_le _) (Nat.zero_le _) dX9_writeReport_46 ?_
      refine r_aload_n X (x := k.b + (0)) dX9_writeReport_49 rfl ?_
      refine r_getfield X (v := .ref (k.b + (42))) clsX9 flX9_60 (Nat.le_of_ble_eq_true rfl) _ o_main rfl dX9_writeReport_50 ?_
      refine r_aload_n X (x := k.b + (0)) dX9_writeReport_53 rfl ?_
      refine r_getfield X (v := .ref (k.b + (45 + 12 * (TP_pr tp).val))) clsX9 flX9_73 (Nat.le_of_ble_eq_true rfl) _ o_main rfl dX9_writeReport_54 ?_
      refine r_getfield X (v := .ref (k.b + (45 + 12 * (TP_pr tp).val + 2))) clsX5 flX9_166 (Nat.le_of_ble_eq_true rfl) _ (o_st (TP_pr tp)) rfl dX9_writeReport_57 ?_
      refine r_iload_n X (x := x1) dX9_writeReport_60 rfl ?_
      obtain ⟨g61, hf⟩ := gdS hf
      refine r_iaload X (f := SS_pressure (st (TP_pr tp))) _ (a_st_pressure (TP_pr tp)) g61 dX9_writeReport_61 ?_
      obtain ⟨u62, h62, hf⟩ := bdS hf
      refine r_callV0 X [.int ((SS_pressure (st (TP_pr tp))) (ix x1))] [] (K4_addNumber h62) lkX9_357 clsX4 rfl _ o_report (by decide) (Nat.le_of_ble_eq_true rfl) rfl rfl (Nat.le_of_ble_eq_true rfl) rfl rfl (Nat.zero_le _) (Nat.zero_le _) dX9_writeReport_62 ?_
      refine r_aload_n X (x := k.b + (0)) dX9_writeReport_65 rfl ?_
      refine r_getfield X (v := .ref (k.b + (42))) clsX9 flX9_60 (Nat.le_of_ble_eq_true rfl) _ o_main rfl dX9_writeReport_66 ?_
      refine r_ldcwS X 7 rfl dX9_writeReport_69 ?_
      refine r_aload_n X (x := k.b + (0)) dX9_writeReport_72 rfl ?_
      refine r_getfield X (v := .ref (k.b + (4 + 17 * (0 : Fin 2).val))) clsX9 flX9_28 (Nat.le_of_ble_eq_true rfl) _ o_main rfl dX9_writeReport_73 ?_
      refine r_iload_n X (x := x1) dX9_writeReport_76 rfl ?_
      obtain ⟨u77, h77, hf⟩ := bdS hf
      refine r_callV0 X [.int x1] [.ref (k.sK 7), .ref (k.b + (42))] (K1_valvesOf h77) lkX9_260 clsX1 rfl _ (o_lay (0 : Fin 2)) (by decide) (Nat.le_of_ble_eq_true rfl) rfl rfl (Nat.le_of_ble_eq_true rfl) rfl rfl (Nat.zero_le _) (Nat.zero_le _) dX9_writeReport_77 ?_
      refine r_aload_n X (x := k.b + (0)) dX9_writeReport_80 rfl ?_
      refine r_getfield X (v := .ref (k.b + (45 + 12 * (TP_pr tp).val))) clsX9 flX9_73 (Nat.le_of_ble_eq_true rfl) _ o_main rfl dX9_writeReport_81 ?_
      refine r_getfield X (v := .int (SS_openValves (st (TP_pr tp)))) clsX5 flX9_364 (Nat.le_of_ble_eq_true rfl) _ (o_st (TP_pr tp)) rfl dX9_writeReport_84 ?_
      refine r_iand X dX9_writeReport_87 ?_
      refine r_bipush X (v := 10) dX9_writeReport_88 rfl ?_
      obtain ⟨u90, h90, hf⟩ := bdS hf
      refine r_callV0 X [.ref (k.sK 7), .int (u77 &&& (SS_openValves (st (TP_pr tp)))), .int 10] [] (K4_addSet h90) lkX9_367 clsX4 rfl _ o_report (by decide) (Nat.le_of_ble_eq_true rfl) rfl rfl (Nat.le_of_ble_eq_true rfl) rfl rfl (Nat.zero_le _) (Nat.zero_le _) dX9_writeReport_90 ?_
      refine r_aload_n X (x := k.b + (0)) dX9_writeReport_93 rfl ?_
      refine r_getfield X (v := .ref (k.b + (42))) clsX9 flX9_60 (Nat.le_of_ble_eq_true rfl) _ o_main rfl dX9_writeReport_94 ?_
      refine r_ldcwS X 8 rfl dX9_writeReport_97 ?_
      refine r_aload_n X (x := k.b + (0)) dX9_writeReport_100 rfl ?_
      refine r_getfield X (v := .ref (k.b + (4 + 17 * (0 : Fin 2).val))) clsX9 flX9_28 (Nat.le_of_ble_eq_true rfl) _ o_main rfl dX9_writeReport_101 ?_
      refine r_iload_n X (x := x1) dX9_writeReport_104 rfl ?_
      obtain ⟨u105, h105, hf⟩ := bdS hf
      refine r_callV0 X [.int x1] [.ref (k.sK 8), .ref (k.b + (42))] (K1_pumpsOf h105) lkX9_263 clsX1 rfl _ (o_lay (0 : Fin 2)) (by decide) (Nat.le_of_ble_eq_true rfl) rfl rfl (Nat.le_of_ble_eq_true rfl) rfl rfl (Nat.zero_le _) (Nat.zero_le _) dX9_writeReport_105 ?_
      refine r_aload_n X (x := k.b + (0)) dX9_writeReport_108 rfl ?_
      refine r_getfield X (v := .ref (k.b + (45 + 12 * (TP_pr tp).val))) clsX9 flX9_73 (Nat.le_of_ble_eq_true rfl) _ o_main rfl dX9_writeReport_109 ?_
      refine r_getfield X (v := .int (SS_runningPumps (st (TP_pr tp)))) clsX5 flX9_373 (Nat.le_of_ble_eq_true rfl) _ (o_st (TP_pr tp)) rfl dX9_writeReport_112 ?_
      refine r_iand X dX9_writeReport_115 ?_
      refine r_bipush X (v := 6) dX9_writeReport_116 rfl ?_
      obtain ⟨u118, h118, hf⟩ := bdS hf
      refine r_callV0 X [.ref (k.sK 8), .int (u105 &&& (SS_runningPumps (st (TP_pr tp)))), .int 6] [] (K4_addSet h118) lkX9_367 clsX4 rfl _ o_report (by decide) (Nat.le_of_ble_eq_true rfl) rfl rfl (Nat.le_of_ble_eq_true rfl) rfl rfl (Nat.zero_le _) (Nat.zero_le _) dX9_writeReport_118 ?_
      refine r_aload_n X (x := k.b + (0)) dX9_writeReport_121 rfl ?_
      refine r_getfield X (v := .ref (k.b + (42))) clsX9 flX9_60 (Nat.le_of_ble_eq_true rfl) _ o_main rfl dX9_writeReport_122 ?_
      refine r_ldcwS X 9 rfl dX9_writeReport_125 ?_
      obtain ⟨u128, h128, hf⟩ := bdS hf
      refine r_callV0 X [.ref (k.sK 9)] [] (K4_addText h128) lkX9_353 clsX4 rfl _ o_report (by decide) (Nat.le_of_ble_eq_true rfl) rfl rfl (Nat.le_of_ble_eq_true rfl) rfl rfl (Nat.zero_le _) (Nat.zero_le _) dX9_writeReport_128 ?_
      refine r_iinc X (x := x1) (v := x1 + 1) [some (.ref (k.b + (0))), some (.int (x1 + 1))] dX9_writeReport_131 rfl rfl rfl ?_
      refine r_goto X 10 dX9_writeReport_134 rfl ?_
      exact ih u128 (x1 + 1) hf
set_option maxRecDepth 100000 in
set_option maxHeartbeats 4000000 in
theorem K9_writeReport {k : KT} {T : TT} {R : RR} {ly : Fin 2 → LL} {rc : RC} {hn : HN} {rp : RP} {tp : TP} {ee : EE} {st : Fin 12 → SS}   {r : Int32 × (RP)} (hf : f9_writeReport (ly (0 : Fin 2)) tp st rp  = some r) : CT k strs yX9_writeReport cX9_writeReport 2 (some .int) (rmD 6 0 0) 0 0 [.ref (k.b + (0))] (wAll k T R ly rc hn rp tp ee st) (some (.int r.1)) (wAll k T R ly rc hn r.2 tp ee st) := by
  refine CT.of (by decide) (Nat.le_of_ble_eq_true rfl) ?_
  intro z X hQ
  show VW k z 0 0 (wAll k T R ly rc hn rp tp ee st) 0 [some (.ref (k.b + (0))), none] []
  unfold f9_writeReport at hf
  refine r_aload_n X (x := k.b + (0)) dX9_writeReport_0 rfl ?_
  refine r_getfield X (v := .ref (k.b + (42))) clsX9 flX9_60 (Nat.le_of_ble_eq_true rfl) _ o_main rfl dX9_writeReport_1 ?_
  refine r_iconst X (v := 0) dX9_writeReport_4 rfl ?_
  refine r_putfield X (ws1 := wAll k T R ly rc hn (RP_set_length rp 0) tp ee st) clsX4 flX9_350 (Nat.le_of_ble_eq_true rfl) rfl rfl rfl _ o_report (Nat.le_of_ble_eq_true rfl) (s_rp_length 0) dX9_writeReport_5 ?_
  refine r_iconst X (v := 0) dX9_writeReport_8 rfl ?_
  refine r_istore_n X [some (.ref (k.b + (0))), some (.int 0)] dX9_writeReport_9 (Nat.le_of_ble_eq_true rfl) rfl ?_
  exact B9_writeReport_B10 X hQ FU (RP_set_length rp 0) 0 hf
set_option maxRecDepth 100000 in
set_option maxHeartbeats 4000000 in
theorem K9_undo {k : KT} {T : TT} {R : RR} {ly : Fin 2 → LL} {rc : RC} {hn : HN} {rp : RP} {tp : TP} {ee : EE} {st : Fin 12 → SS}   {r : Int32 × (TP)} (hf : f9_undo  tp  = some r) : CT k strs yX9_undo cX9_undo 2 (some .int) (rmD 0 0 0) 0 0 [.ref (k.b + (0))] (wAll k T R ly rc hn rp tp ee st) (some (.int r.1)) (wAll k T R ly rc hn rp r.2 ee st) := by
  refine CT.of (by decide) (Nat.le_of_ble_eq_true rfl) ?_
  intro z X hQ
  show VW k z 0 0 (wAll k T R ly rc hn rp tp ee st) 0 [some (.ref (k.b + (0))), none] []
  unfold f9_undo at hf
  refine r_aload_n X (x := k.b + (0)) dX9_undo_0 rfl ?_
  refine r_getfield X (v := .int (TP_undoable tp)) clsX9 flX9_84 (Nat.le_of_ble_eq_true rfl) _ o_main rfl dX9_undo_1 ?_
  refine r_if_ne X 15 dX9_undo_4 rfl (fun c4 => ?_) (fun c4 => ?_)
  · replace hf := ifF hf c4
    refine r_aload_n X (x := k.b + (0)) dX9_undo_15 rfl ?_
    refine r_aload_n X (x := k.b + (0)) dX9_undo_16 rfl ?_
    refine r_getfield X (v := .int (TP_nextPast tp)) clsX9 flX9_80 (Nat.le_of_ble_eq_true rfl) _ o_main rfl dX9_undo_17 ?_
    refine r_bipush X (v := 10) dX9_undo_20 rfl ?_
    refine r_iadd X dX9_undo_22 ?_
    refine r_iconst X (v := 1) dX9_undo_23 rfl ?_
    refine r_isub X dX9_undo_24 ?_
    refine r_bipush X (v := 10) dX9_undo_25 rfl ?_
    refine r_irem X dX9_undo_27 (by decide) ?_
    refine r_putfield X (ws1 := wAll k T R ly rc hn rp (TP_set_nextPast tp ((((TP_nextPast tp) + 10) - 1) - (((TP_nextPast tp) + 10) - 1) / 10 * 10)) ee st) clsX9 flX9_80 (Nat.le_of_ble_eq_true rfl) rfl rfl rfl _ o_main (Nat.le_of_ble_eq_true rfl) (s_tp_nextPast ((((TP_nextPast tp) + 10) - 1) - (((TP_nextPast tp) + 10) - 1) / 10 * 10)) dX9_undo_28 ?_
    refine r_aload_n X (x := k.b + (0)) dX9_undo_31 rfl ?_
    refine r_getfield X (v := .ref (k.b + (45 + 12 * (TP_pr tp).val))) clsX9 flX9_73 (Nat.le_of_ble_eq_true rfl) _ o_main rfl dX9_undo_32 ?_
    refine r_astore_n X [some (.ref (k.b + (0))), some (.ref (k.b + (45 + 12 * (TP_pr tp).val)))] dX9_undo_35 (Nat.le_of_ble_eq_true rfl) rfl ?_
    refine r_aload_n X (x := k.b + (0)) dX9_undo_36 rfl ?_
    refine r_aload_n X (x := k.b + (0)) dX9_undo_37 rfl ?_
    refine r_getfield X (v := .ref (k.b + (44))) clsX9 flX9_66 (Nat.le_of_ble_eq_true rfl) _ o_main rfl dX9_undo_38 ?_
    refine r_aload_n X (x := k.b + (0)) dX9_undo_41 rfl ?_
    refine r_getfield X (v := .int ((((TP_nextPast tp) + 10) - 1) - (((TP_nextPast tp) + 10) - 1) / 10 * 10)) clsX9 flX9_80 (Nat.le_of_ble_eq_true rfl) _ o_main (hvI rfl (TP_nextPast_set_nextPast _ _)) dX9_undo_42 ?_
    obtain ⟨g45, hf⟩ := gdS hf
    refine r_aaload X (v := .ref (k.b + (45 + 12 * ((TP_past tp) (ix ((((TP_nextPast tp) + 10) - 1) - (((TP_nextPast tp) + 10) - 1) / 10 * 10))).val))) _ a_past g45 rfl dX9_undo_45 ?_
    refine r_putfield X (ws1 := wAll k T R ly rc hn rp (TP_set_pr (TP_set_nextPast tp ((((TP_nextPast tp) + 10) - 1) - (((TP_nextPast tp) + 10) - 1) / 10 * 10)) ((TP_past tp) (ix ((((TP_nextPast tp) + 10) - 1) - (((TP_nextPast tp) + 10) - 1) / 10 * 10)))) ee st) clsX9 flX9_73 (Nat.le_of_ble_eq_true rfl) rfl rfl rfl _ o_main (Nat.le_of_ble_eq_true rfl) (s_tp_pr ((TP_past tp) (ix ((((TP_nextPast tp) + 10) - 1) - (((TP_nextPast tp) + 10) - 1) / 10 * 10)))) dX9_undo_46 ?_
    refine r_aload_n X (x := k.b + (0)) dX9_undo_49 rfl ?_
    refine r_getfield X (v := .ref (k.b + (44))) clsX9 flX9_66 (Nat.le_of_ble_eq_true rfl) _ o_main rfl dX9_undo_50 ?_
    refine r_aload_n X (x := k.b + (0)) dX9_undo_53 rfl ?_
    refine r_getfield X (v := .int ((((TP_nextPast tp) + 10) - 1) - (((TP_nextPast tp) + 10) - 1) / 10 * 10)) clsX9 flX9_80 (Nat.le_of_ble_eq_true rfl) _ o_main (hvI rfl ((TP_nextPast_set_pr _ _).trans (TP_nextPast_set_nextPast _ _))) dX9_undo_54 ?_
    refine r_aload_n X (x := k.b + (45 + 12 * (TP_pr tp).val)) dX9_undo_57 rfl ?_
    refine r_aastore X (ws1 := wAll k T R ly rc hn rp (TP_set_past (TP_set_pr (TP_set_nextPast tp ((((TP_nextPast tp) + 10) - 1) - (((TP_nextPast tp) + 10) - 1) / 10 * 10)) ((TP_past tp) (ix ((((TP_nextPast tp) + 10) - 1) - (((TP_nextPast tp) + 10) - 1) / 10 * 10)))) (updN (TP_past tp) (ix ((((TP_nextPast tp) + 10) - 1) - (((TP_nextPast tp) + 10) - 1) / 10 * 10)) (TP_pr tp))) ee st) _ _ a_past (o_st (TP_pr tp)) g45 (s_pastU _ _) dX9_undo_58 ?_
    refine r_aload_n X (x := k.b + (0)) dX9_undo_59 rfl ?_
    refine r_dup X dX9_undo_60 rfl ?_
    refine r_getfield X (v := .int (TP_undoable tp)) clsX9 flX9_84 (Nat.le_of_ble_eq_true rfl) _ o_main (hvI rfl ((TP_undoable_set_past _ _).trans ((TP_undoable_set_pr _ _).trans (TP_undoable_set_nextPast _ _)))) dX9_undo_61 ?_
    refine r_iconst X (v := 1) dX9_undo_64 rfl ?_
    refine r_isub X dX9_undo_65 ?_
    refine r_putfield X (ws1 := wAll k T R ly rc hn rp (TP_set_undoable (TP_set_past (TP_set_pr (TP_set_nextPast tp ((((TP_nextPast tp) + 10) - 1) - (((TP_nextPast tp) + 10) - 1) / 10 * 10)) ((TP_past tp) (ix ((((TP_nextPast tp) + 10) - 1) - (((TP_nextPast tp) + 10) - 1) / 10 * 10)))) (updN (TP_past tp) (ix ((((TP_nextPast tp) + 10) - 1) - (((TP_nextPast tp) + 10) - 1) / 10 * 10)) (TP_pr tp))) ((TP_undoable tp) - 1)) ee st) clsX9 flX9_84 (Nat.le_of_ble_eq_true rfl) rfl rfl rfl _ o_main (Nat.le_of_ble_eq_true rfl) (s_tp_undoable ((TP_undoable tp) - 1)) dX9_undo_66 ?_
    refine r_aload_n X (x := k.b + (0)) dX9_undo_69 rfl ?_
    refine r_getfield X (v := .int ((TP_undoable tp) - 1)) clsX9 flX9_84 (Nat.le_of_ble_eq_true rfl) _ o_main (hvI rfl (TP_undoable_set_undoable _ _)) dX9_undo_70 ?_
    obtain rfl := Option.some.inj hf
    exact r_ireturn X hQ rfl rfl (Nat.le_of_ble_eq_true rfl) (Nat.le_of_ble_eq_true rfl) dX9_undo_73
  · replace hf := ifT hf c4
    cases hf
set_option maxRecDepth 100000 in
set_option maxHeartbeats 4000000 in
theorem K9_undoDepth {k : KT} {T : TT} {R : RR} {ly : Fin 2 → LL} {rc : RC} {hn : HN} {rp : RP} {tp : TP} {ee : EE} {st : Fin 12 → SS}   {r : Int32} (hf : f9_undoDepth tp   = some r) : CT k strs yX9_undoDepth cX9_undoDepth 1 (some .int) (rmD 0 0 0) 0 0 [.ref (k.b + (0))] (wAll k T R ly rc hn rp tp ee st) (some (.int r)) (wAll k T R ly rc hn rp tp ee st) := by
  refine CT.of (by decide) (Nat.le_of_ble_eq_true rfl) ?_
  intro z X hQ
  show VW k z 0 0 (wAll k T R ly rc hn rp tp ee st) 0 [some (.ref (k.b + (0)))] []
  unfold f9_undoDepth at hf
  refine r_aload_n X (x := k.b + (0)) dX9_undoDepth_0 rfl ?_
  refine r_getfield X (v := .int (TP_undoable tp)) clsX9 flX9_84 (Nat.le_of_ble_eq_true rfl) _ o_main rfl dX9_undoDepth_1 ?_
  obtain rfl := Option.some.inj hf
  exact r_ireturn X hQ rfl rfl (Nat.le_of_ble_eq_true rfl) (Nat.le_of_ble_eq_true rfl) dX9_undoDepth_4
