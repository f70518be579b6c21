/-! the methods do it -/
set_option maxRecDepth 100000 in
set_option maxHeartbeats 4000000 in
theorem B6_readOtherSide_B32 {k : KT} {z : ZT} {T : TT} {ly : Fin 2 → LL} {rc : RC} {hn : HN} {rp : RP} {tp : TP} {ee : EE} {st : Fin 12 → SS} {r : Int32 × (RR)} (X : XX k strs z RX6 cX6_readOtherSide 4 (some .int) (rmD 5 0 0)) (hQ : zQ z = MQ (zB z) (Qof k (some (.int r.1)) (wAll k T r.2 ly rc hn rp tp ee st)) (zA z) (zS z) 0 0 (kA k)) (R : RR) (x1 : Int32) (hf : f6_readOtherSide_B32 T (ly (1 : Fin 2)) R x1 = some r) : VW k z 0 0 (wAll k T R ly rc hn rp tp ee st) 32 [some (.ref (k.b + (20))), some (.int x1), none, none] [] := by
  unfold f6_readOtherSide_B32 at hf
  refine r_aload_n X (x := k.b + (20)) dX6_readOtherSide_32 rfl ?_
  refine r_getfield X (v := .ref (k.b + (3))) clsX6 flX6_18 (Nat.le_of_ble_eq_true rfl) _ o_parser rfl dX6_readOtherSide_33 ?_
  refine r_getfield X (v := .int (RR_start R)) clsX2 flX6_44 (Nat.le_of_ble_eq_true rfl) _ o_reader rfl dX6_readOtherSide_36 ?_
  refine r_istore_n X [some (.ref (k.b + (20))), some (.int x1), some (.int (RR_start R)), none] dX6_readOtherSide_39 (Nat.le_of_ble_eq_true rfl) rfl ?_
  refine r_aload_n X (x := k.b + (20)) dX6_readOtherSide_40 rfl ?_
  refine r_getfield X (v := .ref (k.b + (3))) clsX6 flX6_18 (Nat.le_of_ble_eq_true rfl) _ o_parser rfl dX6_readOtherSide_41 ?_
  refine r_iconst X (v := 0) dX6_readOtherSide_44 rfl ?_
  refine r_aload_n X (x := k.b + (20)) dX6_readOtherSide_45 rfl ?_
  refine r_getfield X (v := .ref (k.b + (4 + 17 * (1 : Fin 2).val))) clsX6 flX6_12 (Nat.le_of_ble_eq_true rfl) _ o_parser rfl dX6_readOtherSide_46 ?_
  refine r_getfield X (v := .int (LL_chambers (ly (1 : Fin 2)))) clsX1 flX6_41 (Nat.le_of_ble_eq_true rfl) _ (o_lay (1 : Fin 2)) rfl dX6_readOtherSide_49 ?_
  refine r_iconst X (v := 1) dX6_readOtherSide_52 rfl ?_
  refine r_isub X dX6_readOtherSide_53 ?_
  obtain ⟨u54, h54, hf⟩ := bdS hf
  refine r_callV0 X [.int 0, .int ((LL_chambers (ly (1 : Fin 2))) - 1)] [] (K2_readNumber h54) lkX6_91 clsX2 rfl _ o_reader (by decide) (Nat.le_of_ble_eq_true rfl) rfl rfl (Nat.le_of_ble_eq_true rfl) rfl rfl (Nat.zero_le _) (Nat.zero_le _) dX6_readOtherSide_54 ?_
  refine r_istore_n X [some (.ref (k.b + (20))), some (.int x1), some (.int (RR_start R)), some (.int u54.1)] dX6_readOtherSide_57 (Nat.le_of_ble_eq_true rfl) rfl ?_
  refine r_aload_n X (x := k.b + (20)) dX6_readOtherSide_58 rfl ?_
  refine r_getfield X (v := .ref (k.b + (3))) clsX6 flX6_18 (Nat.le_of_ble_eq_true rfl) _ o_parser rfl dX6_readOtherSide_59 ?_
  refine r_getfield X (v := .int (RR_errorCode u54.2)) clsX2 flX6_34 (Nat.le_of_ble_eq_true rfl) _ o_reader rfl dX6_readOtherSide_62 ?_
  refine r_if_ne X 82 dX6_readOtherSide_65 rfl (fun c65 => ?_) (fun c65 => ?_)
  · replace hf := ifF hf c65
    refine r_iload_n X (x := u54.1) dX6_readOtherSide_82 rfl ?_
    obtain rfl := Option.some.inj hf
    exact r_ireturn X hQ rfl rfl (Nat.le_of_ble_eq_true rfl) (Nat.le_of_ble_eq_true rfl) dX6_readOtherSide_83
  · replace hf := ifT hf c65
    refine r_iload_n X (x := u54.1) dX6_readOtherSide_68 rfl ?_
    refine r_iload_n X (x := x1) dX6_readOtherSide_69 rfl ?_
    refine r_icmp_ne X 82 dX6_readOtherSide_70 rfl (fun c70 => ?_) (fun c70 => ?_)
    · replace hf := ifF hf c70
      refine r_iload_n X (x := u54.1) dX6_readOtherSide_82 rfl ?_
      obtain rfl := Option.some.inj hf
      exact r_ireturn X hQ rfl rfl (Nat.le_of_ble_eq_true rfl) (Nat.le_of_ble_eq_true rfl) dX6_readOtherSide_83
    · replace hf := ifT hf c70
      refine r_aload_n X (x := k.b + (20)) dX6_readOtherSide_73 rfl ?_
      refine r_getfield X (v := .ref (k.b + (3))) clsX6 flX6_18 (Nat.le_of_ble_eq_true rfl) _ o_parser rfl dX6_readOtherSide_74 ?_
      refine r_iconst X (v := 3) dX6_readOtherSide_77 rfl ?_
      refine r_iload_n X (x := RR_start R) dX6_readOtherSide_78 rfl ?_
      obtain ⟨u79, h79, hf⟩ := bdS hf
      refine r_callV0 X [.int 3, .int (RR_start R)] [] (K2_fail h79) lkX6_47 clsX2 rfl _ o_reader (by decide) (Nat.le_of_ble_eq_true rfl) rfl rfl (Nat.le_of_ble_eq_true rfl) rfl rfl (Nat.zero_le _) (Nat.zero_le _) dX6_readOtherSide_79 ?_
      refine r_iload_n X (x := u54.1) dX6_readOtherSide_82 rfl ?_
      obtain rfl := Option.some.inj hf
      exact r_ireturn X hQ rfl rfl (Nat.le_of_ble_eq_true rfl) (Nat.le_of_ble_eq_true rfl) dX6_readOtherSide_83
set_option maxRecDepth 100000 in
set_option maxHeartbeats 4000000 in
theorem K6_readOtherSide {k : KT} {T : TT} {R : RR} {ly : Fin 2 → LL} {rc : RC} {hn : HN} {rp : RP} {tp : TP} {ee : EE} {st : Fin 12 → SS}  {x1 : Int32} {r : Int32 × (RR)} (hf : f6_readOtherSide T (ly (1 : Fin 2)) R x1 = some r) : CT k strs yX6_readOtherSide cX6_readOtherSide 4 (some .int) (rmD 5 0 0) 0 0 [.ref (k.b + (20)), .int x1] (wAll k T R ly rc hn rp tp ee st) (some (.int r.1)) (wAll k T r.2 ly rc hn rp tp ee st) := by
  refine CT.of (by decide) (Nat.le_of_ble_eq_true rfl) ?_
  intro z X hQ
  show VW k z 0 0 (wAll k T R ly rc hn rp tp ee st) 0 [some (.ref (k.b + (20))), some (.int x1), none, none] []
  unfold f6_readOtherSide at hf
  refine r_aload_n X (x := k.b + (20)) dX6_readOtherSide_0 rfl ?_
  refine r_getfield X (v := .ref (k.b + (3))) clsX6 flX6_18 (Nat.le_of_ble_eq_true rfl) _ o_parser rfl dX6_readOtherSide_1 ?_
  refine r_getfield X (v := .int (RR_errorCode R)) clsX2 flX6_34 (Nat.le_of_ble_eq_true rfl) _ o_reader rfl dX6_readOtherSide_4 ?_
  refine r_if_ne X 32 dX6_readOtherSide_7 rfl (fun c7 => ?_) (fun c7 => ?_)
  · replace hf := ifF hf c7
    exact B6_readOtherSide_B32 X hQ R x1 hf
  · replace hf := ifT hf c7
    refine r_aload_n X (x := k.b + (20)) dX6_readOtherSide_10 rfl ?_
    refine r_getfield X (v := .ref (k.b + (3))) clsX6 flX6_18 (Nat.le_of_ble_eq_true rfl) _ o_parser rfl dX6_readOtherSide_11 ?_
    refine r_ldcS X 4 rfl dX6_readOtherSide_14 ?_
    obtain ⟨u16, h16, hf⟩ := bdS hf
    refine r_callV0 X [.ref (k.sK 4)] [] (K2_isWord h16) lkX6_72 clsX2 rfl _ o_reader (by decide) (Nat.le_of_ble_eq_true rfl) rfl rfl (Nat.le_of_ble_eq_true rfl) rfl rfl (Nat.zero_le _) (Nat.zero_le _) dX6_readOtherSide_16 ?_
    refine r_if_eq X 32 dX6_readOtherSide_19 rfl (fun c19 => ?_) (fun c19 => ?_)
    · replace hf := ifT hf c19
      exact B6_readOtherSide_B32 X hQ R x1 hf
    · replace hf := ifF hf c19
      refine r_aload_n X (x := k.b + (20)) dX6_readOtherSide_22 rfl ?_
      refine r_getfield X (v := .ref (k.b + (3))) clsX6 flX6_18 (Nat.le_of_ble_eq_true rfl) _ o_parser rfl dX6_readOtherSide_23 ?_
      obtain ⟨u26, h26, hf⟩ := bdS hf
      refine r_callV0 X [] [] (K2_advance h26) lkX6_55 clsX2 rfl _ o_reader (by decide) (Nat.le_of_ble_eq_true rfl) rfl rfl (Nat.le_of_ble_eq_true rfl) rfl rfl (Nat.zero_le _) (Nat.zero_le _) dX6_readOtherSide_26 ?_
      refine r_bipush X (v := 8) dX6_readOtherSide_29 rfl ?_
      obtain rfl := Option.some.inj hf
      exact r_ireturn X hQ rfl rfl (Nat.le_of_ble_eq_true rfl) (Nat.le_of_ble_eq_true rfl) dX6_readOtherSide_31
set_option maxRecDepth 100000 in
set_option maxHeartbeats 4000000 in
theorem B6_readPump_B82 {k : KT} {z : ZT} {T : TT} {ly : Fin 2 → LL} {rc : RC} {hn : HN} {rp : RP} {tp : TP} {ee : EE} {st : Fin 12 → SS} {r : (RR) × (LL)} (X : XX k strs z RX6 cX6_readPump 7 none (rmD 6 0 0)) (hQ : zQ z = MQ (zB z) (Qof k (none) (wAll k T r.1 (updF ly (1 : Fin 2) r.2) rc hn rp tp ee st)) (zA z) (zS z) 0 0 (kA k)) (R : RR) (lY1 : LL) (x1 : Int32) (x2 : Int32) (x3 : Int32) (x4 : Int32) (x5 : Int32) (t0 : Int32) (hf : f6_readPump_B82 T R lY1 x1 x2 x3 x4 x5 t0 = some r) : VW k z 0 0 (wAll k T R (updF ly (1 : Fin 2) lY1) rc hn rp tp ee st) 82 [some (.ref (k.b + (20))), some (.int x1), some (.int x2), some (.int x3), some (.int x4), some (.int x5), none] [.int t0] := by
  unfold f6_readPump_B82 at hf
  refine r_istore X [some (.ref (k.b + (20))), some (.int x1), some (.int x2), some (.int x3), some (.int x4), some (.int x5), some (.int t0)] dX6_readPump_82 (Nat.le_of_ble_eq_true rfl) rfl ?_
  refine r_aload_n X (x := k.b + (20)) dX6_readPump_84 rfl ?_
  refine r_getfield X (v := .ref (k.b + (3))) clsX6 flX6_18 (Nat.le_of_ble_eq_true rfl) _ o_parser rfl dX6_readPump_85 ?_
  obtain ⟨u88, h88, hf⟩ := bdS hf
  refine r_callV0 X [] [] (K2_readSemicolon h88) lkX6_95 clsX2 rfl _ o_reader (by decide) (Nat.le_of_ble_eq_true rfl) rfl rfl (Nat.le_of_ble_eq_true rfl) rfl rfl (Nat.zero_le _) (Nat.zero_le _) dX6_readPump_88 ?_
  refine r_aload_n X (x := k.b + (20)) dX6_readPump_91 rfl ?_
  refine r_getfield X (v := .ref (k.b + (3))) clsX6 flX6_18 (Nat.le_of_ble_eq_true rfl) _ o_parser rfl dX6_readPump_92 ?_
  refine r_getfield X (v := .int (RR_errorCode u88)) clsX2 flX6_34 (Nat.le_of_ble_eq_true rfl) _ o_reader rfl dX6_readPump_95 ?_
  refine r_if_ne X 117 dX6_readPump_98 rfl (fun c98 => ?_) (fun c98 => ?_)
  · replace hf := ifF hf c98
    obtain rfl := Option.some.inj hf
    exact r_return X hQ rfl rfl (Nat.le_of_ble_eq_true rfl) (Nat.le_of_ble_eq_true rfl) dX6_readPump_117
  · replace hf := ifT hf c98
    refine r_aload_n X (x := k.b + (20)) dX6_readPump_101 rfl ?_
    refine r_getfield X (v := .ref (k.b + (4 + 17 * (1 : Fin 2).val))) clsX6 flX6_12 (Nat.le_of_ble_eq_true rfl) _ o_parser rfl dX6_readPump_102 ?_
    refine r_iload_n X (x := x1) dX6_readPump_105 rfl ?_
    refine r_iload_n X (x := x2) dX6_readPump_106 rfl ?_
    refine r_iload_n X (x := x3) dX6_readPump_107 rfl ?_
    refine r_iload X (x := x4) dX6_readPump_108 rfl ?_
    refine r_iload X (x := x5) dX6_readPump_110 rfl ?_
    refine r_iload X (x := t0) dX6_readPump_112 rfl ?_
    obtain ⟨u114, h114, hf⟩ := bdS hf
    refine r_callV0 X [.int x1, .int x2, .int x3, .int x4, .int x5, .int t0] [] (K1_addPump h114) lkX6_107 clsX1 rfl _ (o_lay1 (1 : Fin 2) _) (by decide) (Nat.le_of_ble_eq_true rfl) rfl rfl (Nat.le_of_ble_eq_true rfl) rfl rfl (Nat.zero_le _) (Nat.zero_le _) dX6_readPump_114 ?_
    obtain rfl := Option.some.inj hf
    exact r_return X hQ rfl rfl (Nat.le_of_ble_eq_true rfl) (Nat.le_of_ble_eq_true rfl) dX6_readPump_117
set_option maxRecDepth 100000 in
set_option maxHeartbeats 4000000 in
theorem K6_readPump {k : KT} {T : TT} {R : RR} {ly : Fin 2 → LL} {rc : RC} {hn : HN} {rp : RP} {tp : TP} {ee : EE} {st : Fin 12 → SS} {lY1 : LL}  {r : (RR) × (LL)} (hf : f6_readPump T R lY1  = some r) : CT k strs yX6_readPump cX6_readPump 7 none (rmD 6 0 0) 0 0 [.ref (k.b + (20))] (wAll k T R (updF ly (1 : Fin 2) lY1) rc hn rp tp ee st) (none) (wAll k T r.1 (updF ly (1 : Fin 2) r.2) rc hn rp tp ee st) := by
  refine CT.of (by decide) (Nat.le_of_ble_eq_true rfl) ?_
  intro z X hQ
  show VW k z 0 0 (wAll k T R (updF ly (1 : Fin 2) lY1) rc hn rp tp ee st) 0 [some (.ref (k.b + (20))), none, none, none, none, none, none] []
  unfold f6_readPump at hf
  refine r_aload_n X (x := k.b + (20)) dX6_readPump_0 rfl ?_
  refine r_getfield X (v := .ref (k.b + (3))) clsX6 flX6_18 (Nat.le_of_ble_eq_true rfl) _ o_parser rfl dX6_readPump_1 ?_
  refine r_iconst X (v := 0) dX6_readPump_4 rfl ?_
  refine r_aload_n X (x := k.b + (20)) dX6_readPump_5 rfl ?_
  refine r_getfield X (v := .ref (k.b + (4 + 17 * (1 : Fin 2).val))) clsX6 flX6_12 (Nat.le_of_ble_eq_true rfl) _ o_parser rfl dX6_readPump_6 ?_
  refine r_getfield X (v := .int (LL_chambers lY1)) clsX1 flX6_41 (Nat.le_of_ble_eq_true rfl) _ (o_lay1 (1 : Fin 2) _) rfl dX6_readPump_9 ?_
  refine r_iconst X (v := 1) dX6_readPump_12 rfl ?_
  refine r_isub X dX6_readPump_13 ?_
  obtain ⟨u14, h14, hf⟩ := bdS hf
  refine r_callV0 X [.int 0, .int ((LL_chambers lY1) - 1)] [] (K2_readNumber h14) lkX6_91 clsX2 rfl _ o_reader (by decide) (Nat.le_of_ble_eq_true rfl) rfl rfl (Nat.le_of_ble_eq_true rfl) rfl rfl (Nat.zero_le _) (Nat.zero_le _) dX6_readPump_14 ?_
  refine r_istore_n X [some (.ref (k.b + (20))), some (.int u14.1), none, none, none, none, none] dX6_readPump_17 (Nat.le_of_ble_eq_true rfl) rfl ?_
  refine r_aload_n X (x := k.b + (20)) dX6_readPump_18 rfl ?_
  refine r_iload_n X (x := u14.1) dX6_readPump_19 rfl ?_
  obtain ⟨u20, h20, hf⟩ := bdS hf
  refine r_callV0 X [.int u14.1] [] (K6_readOtherSide h20) lkX6_102 clsX6 rfl _ o_parser (by decide) (Nat.le_of_ble_eq_true rfl) rfl rfl (Nat.le_of_ble_eq_true rfl) rfl rfl (Nat.zero_le _) (Nat.zero_le _) dX6_readPump_20 ?_
  refine r_istore_n X [some (.ref (k.b + (20))), some (.int u14.1), some (.int u20.1), none, none, none, none] dX6_readPump_23 (Nat.le_of_ble_eq_true rfl) rfl ?_
  refine r_aload_n X (x := k.b + (20)) dX6_readPump_24 rfl ?_
  refine r_getfield X (v := .ref (k.b + (3))) clsX6 flX6_18 (Nat.le_of_ble_eq_true rfl) _ o_parser rfl dX6_readPump_25 ?_
  refine r_iconst X (v := 1) dX6_readPump_28 rfl ?_
  refine r_sipush X (v := 999) dX6_readPump_29 rfl ?_
  obtain ⟨u32, h32, hf⟩ := bdS hf
  refine r_callV0 X [.int 1, .int 999] [] (K2_readNumber h32) lkX6_91 clsX2 rfl _ o_reader (by decide) (Nat.le_of_ble_eq_true rfl) rfl rfl (Nat.le_of_ble_eq_true rfl) rfl rfl (Nat.zero_le _) (Nat.zero_le _) dX6_readPump_32 ?_
  refine r_istore_n X [some (.ref (k.b + (20))), some (.int u14.1), some (.int u20.1), some (.int u32.1), none, none, none] dX6_readPump_35 (Nat.le_of_ble_eq_true rfl) rfl ?_
  refine r_aload_n X (x := k.b + (20)) dX6_readPump_36 rfl ?_
  refine r_getfield X (v := .ref (k.b + (3))) clsX6 flX6_18 (Nat.le_of_ble_eq_true rfl) _ o_parser rfl dX6_readPump_37 ?_
  refine r_iconst X (v := 0) dX6_readPump_40 rfl ?_
  refine r_ldc X (v := 1000000) coX6_106 dX6_readPump_41 ?_
  obtain ⟨u43, h43, hf⟩ := bdS hf
  refine r_callV0 X [.int 0, .int 1000000] [] (K2_readNumber h43) lkX6_91 clsX2 rfl _ o_reader (by decide) (Nat.le_of_ble_eq_true rfl) rfl rfl (Nat.le_of_ble_eq_true rfl) rfl rfl (Nat.zero_le _) (Nat.zero_le _) dX6_readPump_43 ?_
  refine r_istore X [some (.ref (k.b + (20))), some (.int u14.1), some (.int u20.1), some (.int u32.1), some (.int u43.1), none, none] dX6_readPump_46 (Nat.le_of_ble_eq_true rfl) rfl ?_
  refine r_aload_n X (x := k.b + (20)) dX6_readPump_48 rfl ?_
  refine r_getfield X (v := .ref (k.b + (3))) clsX6 flX6_18 (Nat.le_of_ble_eq_true rfl) _ o_parser rfl dX6_readPump_49 ?_
  refine r_iload X (x := u43.1) dX6_readPump_52 rfl ?_
  refine r_ldc X (v := 1000000) coX6_106 dX6_readPump_54 ?_
  obtain ⟨u56, h56, hf⟩ := bdS hf
  refine r_callV0 X [.int u43.1, .int 1000000] [] (K2_readNumber h56) lkX6_91 clsX2 rfl _ o_reader (by decide) (Nat.le_of_ble_eq_true rfl) rfl rfl (Nat.le_of_ble_eq_true rfl) rfl rfl (Nat.zero_le _) (Nat.zero_le _) dX6_readPump_56 ?_
  refine r_istore X [some (.ref (k.b + (20))), some (.int u14.1), some (.int u20.1), some (.int u32.1), some (.int u43.1), some (.int u56.1), none] dX6_readPump_59 (Nat.le_of_ble_eq_true rfl) rfl ?_
  refine r_iload_n X (x := u20.1) dX6_readPump_61 rfl ?_
  refine r_bipush X (v := 8) dX6_readPump_62 rfl ?_
  refine r_icmp_ne X 72 dX6_readPump_64 rfl (fun c64 => ?_) (fun c64 => ?_)
  · replace hf := ifF hf c64
    refine r_aload_n X (x := k.b + (20)) dX6_readPump_72 rfl ?_
    refine r_getfield X (v := .ref (k.b + (3))) clsX6 flX6_18 (Nat.le_of_ble_eq_true rfl) _ o_parser rfl dX6_readPump_73 ?_
    refine r_iconst X (v := 0) dX6_readPump_76 rfl ?_
    refine r_ldc X (v := 1000000) coX6_106 dX6_readPump_77 ?_
    obtain ⟨u79, h79, hf⟩ := bdS hf
    refine r_callV0 X [.int 0, .int 1000000] [] (K2_readNumber h79) lkX6_91 clsX2 rfl _ o_reader (by decide) (Nat.le_of_ble_eq_true rfl) rfl rfl (Nat.le_of_ble_eq_true rfl) rfl rfl (Nat.zero_le _) (Nat.zero_le _) dX6_readPump_79 ?_
    exact B6_readPump_B82 X hQ u79.2 lY1 u14.1 u20.1 u32.1 u43.1 u56.1 u79.1 hf
  · replace hf := ifT hf c64
    refine r_ldc X (v := 1000000) coX6_106 dX6_readPump_67 ?_
    refine r_goto X 82 dX6_readPump_69 rfl ?_
    exact B6_readPump_B82 X hQ u56.2 lY1 u14.1 u20.1 u32.1 u43.1 u56.1 1000000 hf
set_option maxRecDepth 100000 in
set_option maxHeartbeats 4000000 in
theorem K6_readValve {k : KT} {T : TT} {R : RR} {ly : Fin 2 → LL} {rc : RC} {hn : HN} {rp : RP} {tp : TP} {ee : EE} {st : Fin 12 → SS} {lY1 : LL}  {r : (RR) × (LL)} (hf : f6_readValve T R lY1  = some r) : CT k strs yX6_readValve cX6_readValve 5 none (rmD 6 0 0) 0 0 [.ref (k.b + (20))] (wAll k T R (updF ly (1 : Fin 2) lY1) rc hn rp tp ee st) (none) (wAll k T r.1 (updF ly (1 : Fin 2) r.2) rc hn rp tp ee st) := by
  refine CT.of (by decide) (Nat.le_of_ble_eq_true rfl) ?_
  intro z X hQ
  show VW k z 0 0 (wAll k T R (updF ly (1 : Fin 2) lY1) rc hn rp tp ee st) 0 [some (.ref (k.b + (20))), none, none, none, none] []
  unfold f6_readValve at hf
  refine r_aload_n X (x := k.b + (20)) dX6_readValve_0 rfl ?_
  refine r_getfield X (v := .ref (k.b + (3))) clsX6 flX6_18 (Nat.le_of_ble_eq_true rfl) _ o_parser rfl dX6_readValve_1 ?_
  refine r_iconst X (v := 0) dX6_readValve_4 rfl ?_
  refine r_aload_n X (x := k.b + (20)) dX6_readValve_5 rfl ?_
  refine r_getfield X (v := .ref (k.b + (4 + 17 * (1 : Fin 2).val))) clsX6 flX6_12 (Nat.le_of_ble_eq_true rfl) _ o_parser rfl dX6_readValve_6 ?_
  refine r_getfield X (v := .int (LL_chambers lY1)) clsX1 flX6_41 (Nat.le_of_ble_eq_true rfl) _ (o_lay1 (1 : Fin 2) _) rfl dX6_readValve_9 ?_
  refine r_iconst X (v := 1) dX6_readValve_12 rfl ?_
  refine r_isub X dX6_readValve_13 ?_
  obtain ⟨u14, h14, hf⟩ := bdS hf
  refine r_callV0 X [.int 0, .int ((LL_chambers lY1) - 1)] [] (K2_readNumber h14) lkX6_91 clsX2 rfl _ o_reader (by decide) (Nat.le_of_ble_eq_true rfl) rfl rfl (Nat.le_of_ble_eq_true rfl) rfl rfl (Nat.zero_le _) (Nat.zero_le _) dX6_readValve_14 ?_
  refine r_istore_n X [some (.ref (k.b + (20))), some (.int u14.1), none, none, none] dX6_readValve_17 (Nat.le_of_ble_eq_true rfl) rfl ?_
  refine r_aload_n X (x := k.b + (20)) dX6_readValve_18 rfl ?_
  refine r_iload_n X (x := u14.1) dX6_readValve_19 rfl ?_
  obtain ⟨u20, h20, hf⟩ := bdS hf
  refine r_callV0 X [.int u14.1] [] (K6_readOtherSide h20) lkX6_102 clsX6 rfl _ o_parser (by decide) (Nat.le_of_ble_eq_true rfl) rfl rfl (Nat.le_of_ble_eq_true rfl) rfl rfl (Nat.zero_le _) (Nat.zero_le _) dX6_readValve_20 ?_
  refine r_istore_n X [some (.ref (k.b + (20))), some (.int u14.1), some (.int u20.1), none, none] dX6_readValve_23 (Nat.le_of_ble_eq_true rfl) rfl ?_
  refine r_aload_n X (x := k.b + (20)) dX6_readValve_24 rfl ?_
  refine r_getfield X (v := .ref (k.b + (3))) clsX6 flX6_18 (Nat.le_of_ble_eq_true rfl) _ o_parser rfl dX6_readValve_25 ?_
  refine r_iconst X (v := 1) dX6_readValve_28 rfl ?_
  refine r_sipush X (v := 999) dX6_readValve_29 rfl ?_
  obtain ⟨u32, h32, hf⟩ := bdS hf
  refine r_callV0 X [.int 1, .int 999] [] (K2_readNumber h32) lkX6_91 clsX2 rfl _ o_reader (by decide) (Nat.le_of_ble_eq_true rfl) rfl rfl (Nat.le_of_ble_eq_true rfl) rfl rfl (Nat.zero_le _) (Nat.zero_le _) dX6_readValve_32 ?_
  refine r_istore_n X [some (.ref (k.b + (20))), some (.int u14.1), some (.int u20.1), some (.int u32.1), none] dX6_readValve_35 (Nat.le_of_ble_eq_true rfl) rfl ?_
  refine r_aload_n X (x := k.b + (20)) dX6_readValve_36 rfl ?_
  refine r_getfield X (v := .ref (k.b + (3))) clsX6 flX6_18 (Nat.le_of_ble_eq_true rfl) _ o_parser rfl dX6_readValve_37 ?_
  refine r_iconst X (v := 0) dX6_readValve_40 rfl ?_
  refine r_ldc X (v := 1000000) coX6_106 dX6_readValve_41 ?_
  obtain ⟨u43, h43, hf⟩ := bdS hf
  refine r_callV0 X [.int 0, .int 1000000] [] (K2_readNumber h43) lkX6_91 clsX2 rfl _ o_reader (by decide) (Nat.le_of_ble_eq_true rfl) rfl rfl (Nat.le_of_ble_eq_true rfl) rfl rfl (Nat.zero_le _) (Nat.zero_le _) dX6_readValve_43 ?_
  refine r_istore X [some (.ref (k.b + (20))), some (.int u14.1), some (.int u20.1), some (.int u32.1), some (.int u43.1)] dX6_readValve_46 (Nat.le_of_ble_eq_true rfl) rfl ?_
  refine r_aload_n X (x := k.b + (20)) dX6_readValve_48 rfl ?_
  refine r_getfield X (v := .ref (k.b + (3))) clsX6 flX6_18 (Nat.le_of_ble_eq_true rfl) _ o_parser rfl dX6_readValve_49 ?_
  obtain ⟨u52, h52, hf⟩ := bdS hf
  refine r_callV0 X [] [] (K2_readSemicolon h52) lkX6_95 clsX2 rfl _ o_reader (by decide) (Nat.le_of_ble_eq_true rfl) rfl rfl (Nat.le_of_ble_eq_true rfl) rfl rfl (Nat.zero_le _) (Nat.zero_le _) dX6_readValve_52 ?_
  refine r_aload_n X (x := k.b + (20)) dX6_readValve_55 rfl ?_
  refine r_getfield X (v := .ref (k.b + (3))) clsX6 flX6_18 (Nat.le_of_ble_eq_true rfl) _ o_parser rfl dX6_readValve_56 ?_
  refine r_getfield X (v := .int (RR_errorCode u52)) clsX2 flX6_34 (Nat.le_of_ble_eq_true rfl) _ o_reader rfl dX6_readValve_59 ?_
  refine r_if_ne X 77 dX6_readValve_62 rfl (fun c62 => ?_) (fun c62 => ?_)
  · replace hf := ifF hf c62
    obtain rfl := Option.some.inj hf
    exact r_return X hQ rfl rfl (Nat.le_of_ble_eq_true rfl) (Nat.le_of_ble_eq_true rfl) dX6_readValve_77
  · replace hf := ifT hf c62
    refine r_aload_n X (x := k.b + (20)) dX6_readValve_65 rfl ?_
    refine r_getfield X (v := .ref (k.b + (4 + 17 * (1 : Fin 2).val))) clsX6 flX6_12 (Nat.le_of_ble_eq_true rfl) _ o_parser rfl dX6_readValve_66 ?_
    refine r_iload_n X (x := u14.1) dX6_readValve_69 rfl ?_
    refine r_iload_n X (x := u20.1) dX6_readValve_70 rfl ?_
    refine r_iload_n X (x := u32.1) dX6_readValve_71 rfl ?_
    refine r_iload X (x := u43.1) dX6_readValve_72 rfl ?_
    obtain ⟨u74, h74, hf⟩ := bdS hf
    refine r_callV0 X [.int u14.1, .int u20.1, .int u32.1, .int u43.1] [] (K1_addValve h74) lkX6_111 clsX1 rfl _ (o_lay1 (1 : Fin 2) _) (by decide) (Nat.le_of_ble_eq_true rfl) rfl rfl (Nat.le_of_ble_eq_true rfl) rfl rfl (Nat.zero_le _) (Nat.zero_le _) dX6_readValve_74 ?_
    obtain rfl := Option.some.inj hf
    exact r_return X hQ rfl rfl (Nat.le_of_ble_eq_true rfl) (Nat.le_of_ble_eq_true rfl) dX6_readValve_77
set_option maxRecDepth 100000 in
set_option maxHeartbeats 4000000 in
theorem K6_readFlange {k : KT} {T : TT} {R : RR} {ly : Fin 2 → LL} {rc : RC} {hn : HN} {rp : RP} {tp : TP} {ee : EE} {st : Fin 12 → SS} {lY1 : LL}  {r : (RR) × (LL)} (hf : f6_readFlange T R lY1  = some r) : CT k strs yX6_readFlange cX6_readFlange 3 none (rmD 3 0 0) 0 0 [.ref (k.b + (20))] (wAll k T R (updF ly (1 : Fin 2) lY1) rc hn rp tp ee st) (none) (wAll k T r.1 (updF ly (1 : Fin 2) r.2) rc hn rp tp ee st) := by
  refine CT.of (by decide) (Nat.le_of_ble_eq_true rfl) ?_
  intro z X hQ
  show VW k z 0 0 (wAll k T R (updF ly (1 : Fin 2) lY1) rc hn rp tp ee st) 0 [some (.ref (k.b + (20))), none, none] []
  unfold f6_readFlange at hf
  refine r_aload_n X (x := k.b + (20)) dX6_readFlange_0 rfl ?_
  refine r_getfield X (v := .ref (k.b + (3))) clsX6 flX6_18 (Nat.le_of_ble_eq_true rfl) _ o_parser rfl dX6_readFlange_1 ?_
  refine r_iconst X (v := 0) dX6_readFlange_4 rfl ?_
  refine r_aload_n X (x := k.b + (20)) dX6_readFlange_5 rfl ?_
  refine r_getfield X (v := .ref (k.b + (4 + 17 * (1 : Fin 2).val))) clsX6 flX6_12 (Nat.le_of_ble_eq_true rfl) _ o_parser rfl dX6_readFlange_6 ?_
  refine r_getfield X (v := .int (LL_chambers lY1)) clsX1 flX6_41 (Nat.le_of_ble_eq_true rfl) _ (o_lay1 (1 : Fin 2) _) rfl dX6_readFlange_9 ?_
  refine r_iconst X (v := 1) dX6_readFlange_12 rfl ?_
  refine r_isub X dX6_readFlange_13 ?_
  obtain ⟨u14, h14, hf⟩ := bdS hf
  refine r_callV0 X [.int 0, .int ((LL_chambers lY1) - 1)] [] (K2_readNumber h14) lkX6_91 clsX2 rfl _ o_reader (by decide) (Nat.le_of_ble_eq_true rfl) rfl rfl (Nat.le_of_ble_eq_true rfl) rfl rfl (Nat.zero_le _) (Nat.zero_le _) dX6_readFlange_14 ?_
  refine r_istore_n X [some (.ref (k.b + (20))), some (.int u14.1), none] dX6_readFlange_17 (Nat.le_of_ble_eq_true rfl) rfl ?_
  refine r_aload_n X (x := k.b + (20)) dX6_readFlange_18 rfl ?_
  refine r_getfield X (v := .ref (k.b + (3))) clsX6 flX6_18 (Nat.le_of_ble_eq_true rfl) _ o_parser rfl dX6_readFlange_19 ?_
  refine r_iconst X (v := 0) dX6_readFlange_22 rfl ?_
  refine r_sipush X (v := 9999) dX6_readFlange_23 rfl ?_
  obtain ⟨u26, h26, hf⟩ := bdS hf
  refine r_callV0 X [.int 0, .int 9999] [] (K2_readNumber h26) lkX6_91 clsX2 rfl _ o_reader (by decide) (Nat.le_of_ble_eq_true rfl) rfl rfl (Nat.le_of_ble_eq_true rfl) rfl rfl (Nat.zero_le _) (Nat.zero_le _) dX6_readFlange_26 ?_
  refine r_istore_n X [some (.ref (k.b + (20))), some (.int u14.1), some (.int u26.1)] dX6_readFlange_29 (Nat.le_of_ble_eq_true rfl) rfl ?_
  refine r_aload_n X (x := k.b + (20)) dX6_readFlange_30 rfl ?_
  refine r_getfield X (v := .ref (k.b + (3))) clsX6 flX6_18 (Nat.le_of_ble_eq_true rfl) _ o_parser rfl dX6_readFlange_31 ?_
  obtain ⟨u34, h34, hf⟩ := bdS hf
  refine r_callV0 X [] [] (K2_readSemicolon h34) lkX6_95 clsX2 rfl _ o_reader (by decide) (Nat.le_of_ble_eq_true rfl) rfl rfl (Nat.le_of_ble_eq_true rfl) rfl rfl (Nat.zero_le _) (Nat.zero_le _) dX6_readFlange_34 ?_
  refine r_aload_n X (x := k.b + (20)) dX6_readFlange_37 rfl ?_
  refine r_getfield X (v := .ref (k.b + (3))) clsX6 flX6_18 (Nat.le_of_ble_eq_true rfl) _ o_parser rfl dX6_readFlange_38 ?_
  refine r_getfield X (v := .int (RR_errorCode u34)) clsX2 flX6_34 (Nat.le_of_ble_eq_true rfl) _ o_reader rfl dX6_readFlange_41 ?_
  refine r_if_ne X 56 dX6_readFlange_44 rfl (fun c44 => ?_) (fun c44 => ?_)
  · replace hf := ifF hf c44
    obtain rfl := Option.some.inj hf
    exact r_return X hQ rfl rfl (Nat.le_of_ble_eq_true rfl) (Nat.le_of_ble_eq_true rfl) dX6_readFlange_56
  · replace hf := ifT hf c44
    refine r_aload_n X (x := k.b + (20)) dX6_readFlange_47 rfl ?_
    refine r_getfield X (v := .ref (k.b + (4 + 17 * (1 : Fin 2).val))) clsX6 flX6_12 (Nat.le_of_ble_eq_true rfl) _ o_parser rfl dX6_readFlange_48 ?_
    refine r_iload_n X (x := u14.1) dX6_readFlange_51 rfl ?_
    refine r_iload_n X (x := u26.1) dX6_readFlange_52 rfl ?_
    obtain ⟨u53, h53, hf⟩ := bdS hf
    refine r_callV0 X [.int u14.1, .int u26.1] [] (K1_addFlange h53) lkX6_115 clsX1 rfl _ (o_lay1 (1 : Fin 2) _) (by decide) (Nat.le_of_ble_eq_true rfl) rfl rfl (Nat.le_of_ble_eq_true rfl) rfl rfl (Nat.zero_le _) (Nat.zero_le _) dX6_readFlange_53 ?_
    obtain rfl := Option.some.inj hf
    exact r_return X hQ rfl rfl (Nat.le_of_ble_eq_true rfl) (Nat.le_of_ble_eq_true rfl) dX6_readFlange_56
set_option maxRecDepth 100000 in
set_option maxHeartbeats 4000000 in
theorem B6_parse_B204 {k : KT} {z : ZT} {T : TT} {ly : Fin 2 → LL} {rc : RC} {hn : HN} {rp : RP} {tp : TP} {ee : EE} {st : Fin 12 → SS} {r : Int32 × (RR) × (LL)} (X : XX k strs z RX6 cX6_parse 4 (some .boolean) (rmD 7 0 0)) (hQ : zQ z = MQ (zB z) (Qof k (some (.int r.1)) (wAll k T r.2.1 (updF ly (1 : Fin 2) r.2.2) rc hn rp tp ee st)) (zA z) (zS z) 0 0 (kA k)) (R : RR) (lY1 : LL) (hf : f6_parse_B204 T R lY1 = some r) : VW k z 0 0 (wAll k T R (updF ly (1 : Fin 2) lY1) rc hn rp tp ee st) 204 [some (.ref (k.b + (20))), none, none, none] [] := by
  unfold f6_parse_B204 at hf
  refine r_aload_n X (x := k.b + (20)) dX6_parse_204 rfl ?_
  refine r_getfield X (v := .ref (k.b + (3))) clsX6 flX6_18 (Nat.le_of_ble_eq_true rfl) _ o_parser rfl dX6_parse_205 ?_
  refine r_getfield X (v := .int (RR_errorCode R)) clsX2 flX6_34 (Nat.le_of_ble_eq_true rfl) _ o_reader rfl dX6_parse_208 ?_
  suffices K211 : VW k z 0 0 (wAll k T R (updF ly (1 : Fin 2) lY1) rc hn rp tp ee st) 219 [some (.ref (k.b + (20))), none, none, none] [.int (if (RR_errorCode R) = 0 then (1 : Int32) else (0 : Int32))] by
    refine r_if_ne X 218 dX6_parse_211 rfl (fun c211 => ?_) (fun c211 => ?_)
    · refine r_iconst X (v := 0) dX6_parse_218 rfl ?_
      rw [if_neg c211] at K211
      exact K211
    · refine r_iconst X (v := 1) dX6_parse_214 rfl ?_
      refine r_goto X 219 dX6_parse_215 rfl ?_
      rw [if_pos c211] at K211
      exact K211
  obtain rfl := Option.some.inj hf
  exact r_zreturn X hQ rfl rfl (Nat.le_of_ble_eq_true rfl) (Nat.le_of_ble_eq_true rfl) nb_if dX6_parse_219
set_option maxRecDepth 100000 in
set_option maxHeartbeats 4000000 in
theorem B6_parse_B179 {k : KT} {z : ZT} {T : TT} {ly : Fin 2 → LL} {rc : RC} {hn : HN} {rp : RP} {tp : TP} {ee : EE} {st : Fin 12 → SS} {r : Int32 × (RR) × (LL)} (X : XX k strs z RX6 cX6_parse 4 (some .boolean) (rmD 7 0 0)) (hQ : zQ z = MQ (zB z) (Qof k (some (.int r.1)) (wAll k T r.2.1 (updF ly (1 : Fin 2) r.2.2) rc hn rp tp ee st)) (zA z) (zS z) 0 0 (kA k)) (R : RR) (lY1 : LL) (hf : f6_parse_B179 T R lY1 = some r) : VW k z 0 0 (wAll k T R (updF ly (1 : Fin 2) lY1) rc hn rp tp ee st) 179 [some (.ref (k.b + (20))), none, none, none] [] := by
  unfold f6_parse_B179 at hf
  refine r_aload_n X (x := k.b + (20)) dX6_parse_179 rfl ?_
  refine r_getfield X (v := .ref (k.b + (4 + 17 * (1 : Fin 2).val))) clsX6 flX6_12 (Nat.le_of_ble_eq_true rfl) _ o_parser rfl dX6_parse_180 ?_
  refine r_getfield X (v := .int (LL_chambers lY1)) clsX1 flX6_41 (Nat.le_of_ble_eq_true rfl) _ (o_lay1 (1 : Fin 2) _) rfl dX6_parse_183 ?_
  refine r_if_ne X 204 dX6_parse_186 rfl (fun c186 => ?_) (fun c186 => ?_)
  · replace hf := ifF hf c186
    exact B6_parse_B204 X hQ R lY1 hf
  · replace hf := ifT hf c186
    refine r_aload_n X (x := k.b + (20)) dX6_parse_189 rfl ?_
    refine r_getfield X (v := .ref (k.b + (3))) clsX6 flX6_18 (Nat.le_of_ble_eq_true rfl) _ o_parser rfl dX6_parse_190 ?_
    refine r_iconst X (v := 1) dX6_parse_193 rfl ?_
    refine r_aload_n X (x := k.b + (20)) dX6_parse_194 rfl ?_
    refine r_getfield X (v := .ref (k.b + (3))) clsX6 flX6_18 (Nat.le_of_ble_eq_true rfl) _ o_parser rfl dX6_parse_195 ?_
    refine r_getfield X (v := .int (RR_start R)) clsX2 flX6_44 (Nat.le_of_ble_eq_true rfl) _ o_reader rfl dX6_parse_198 ?_
    obtain ⟨u201, h201, hf⟩ := bdS hf
    refine r_callV0 X [.int 1, .int (RR_start R)] [] (K2_fail h201) lkX6_47 clsX2 rfl _ o_reader (by decide) (Nat.le_of_ble_eq_true rfl) rfl rfl (Nat.le_of_ble_eq_true rfl) rfl rfl (Nat.zero_le _) (Nat.zero_le _) dX6_parse_201 ?_
    exact B6_parse_B204 X hQ u201 lY1 hf
set_option maxRecDepth 100000 in
set_option maxHeartbeats 4000000 in
theorem B6_parse_B87 {k : KT} {z : ZT} {T : TT} {ly : Fin 2 → LL} {rc : RC} {hn : HN} {rp : RP} {tp : TP} {ee : EE} {st : Fin 12 → SS} {r : Int32 × (RR) × (LL)} (X : XX k strs z RX6 cX6_parse 4 (some .boolean) (rmD 7 0 0)) (hQ : zQ z = MQ (zB z) (Qof k (some (.int r.1)) (wAll k T r.2.1 (updF ly (1 : Fin 2) r.2.2) rc hn rp tp ee st)) (zA z) (zS z) 0 0 (kA k)) (rec : RR → LL → Int32 → Int32 → Option (Int32 × (RR) × (LL))) (hrec : ∀ (R : RR) (lY1 : LL) (x1 : Int32) (x2 : Int32), rec R lY1 x1 x2 = some r → VW k z 0 0 (wAll k T R (updF ly (1 : Fin 2) lY1) rc hn rp tp ee st) 18 [some (.ref (k.b + (20))), some (.int x1), some (.int x2), none] []) (R : RR) (lY1 : LL) (x1 : Int32) (x2 : Int32) (x3 : Int32) (hf : f6_parse_B87 T rec R lY1 x1 x2 x3 = some r) : VW k z 0 0 (wAll k T R (updF ly (1 : Fin 2) lY1) rc hn rp tp ee st) 87 [some (.ref (k.b + (20))), some (.int x1), some (.int x2), some (.int x3)] [] := by
  unfold f6_parse_B87 at hf
  refine r_aload_n X (x := k.b + (20)) dX6_parse_87 rfl ?_
  refine r_iload_n X (x := x3) dX6_parse_88 rfl ?_
  obtain ⟨u89, h89, hf⟩ := bdS hf
  refine r_callV0 X [.int x3] [] (K6_isFull h89) lkX6_51 clsX6 rfl _ o_parser (by decide) (Nat.le_of_ble_eq_true rfl) rfl rfl (Nat.le_of_ble_eq_true rfl) rfl rfl (Nat.zero_le _) (Nat.zero_le _) dX6_parse_89 ?_
  refine r_if_eq X 113 dX6_parse_92 rfl (fun c92 => ?_) (fun c92 => ?_)
  · replace hf := ifT hf c92
    refine r_iload_n X (x := x3) dX6_parse_113 rfl ?_
    refine r_istore_n X [some (.ref (k.b + (20))), some (.int x3), some (.int x2), some (.int x3)] dX6_parse_114 (Nat.le_of_ble_eq_true rfl) rfl ?_
    refine r_aload_n X (x := k.b + (20)) dX6_parse_115 rfl ?_
    refine r_getfield X (v := .ref (k.b + (3))) clsX6 flX6_18 (Nat.le_of_ble_eq_true rfl) _ o_parser rfl dX6_parse_116 ?_
    obtain ⟨u119, h119, hf⟩ := bdS hf
    refine r_callV0 X [] [] (K2_advance h119) lkX6_55 clsX2 rfl _ o_reader (by decide) (Nat.le_of_ble_eq_true rfl) rfl rfl (Nat.le_of_ble_eq_true rfl) rfl rfl (Nat.zero_le _) (Nat.zero_le _) dX6_parse_119 ?_
    refine r_iload_n X (x := x3) dX6_parse_122 rfl ?_
    by_cases c123_0 : x3 = 0
    · replace hf := ifT hf c123_0
      refine r_tswIn X (off := 25) 148 dX6_parse_123 (by rw [c123_0]; decide) (by rw [c123_0]; decide) (by rw [c123_0]; rfl) rfl ?_
      refine r_aload_n X (x := k.b + (20)) dX6_parse_148 rfl ?_
      obtain ⟨u149, h149, hf⟩ := bdS hf
      refine r_callV0 X [] [] (K6_readChamber h149) lkX6_58 clsX6 rfl _ o_parser (by decide) (Nat.le_of_ble_eq_true rfl) rfl rfl (Nat.le_of_ble_eq_true rfl) rfl rfl (Nat.zero_le _) (Nat.zero_le _) dX6_parse_149 ?_
      refine r_goto X 173 dX6_parse_152 rfl ?_
      refine r_iinc X (x := x2) (v := x2 + 1) [some (.ref (k.b + (20))), some (.int x3), some (.int (x2 + 1)), some (.int x3)] dX6_parse_173 rfl rfl rfl ?_
      refine r_goto X 18 dX6_parse_176 rfl ?_
      refine VW.msk [true, true, true, false] rfl (lo' := [some (.ref (k.b + (20))), some (.int x3), some (.int (x2 + 1)), none]) rfl ?_
      exact hrec u149.1 u149.2 x3 (x2 + 1) hf
    replace hf := ifF hf c123_0
    by_cases c123_1 : x3 = 1
    · replace hf := ifT hf c123_1
      refine r_tswIn X (off := 32) 155 dX6_parse_123 (by rw [c123_1]; decide) (by rw [c123_1]; decide) (by rw [c123_1]; rfl) rfl ?_
      refine r_aload_n X (x := k.b + (20)) dX6_parse_155 rfl ?_
      obtain ⟨u156, h156, hf⟩ := bdS hf
      refine r_callV0 X [] [] (K6_readPump h156) lkX6_61 clsX6 rfl _ o_parser (by decide) (Nat.le_of_ble_eq_true rfl) rfl rfl (Nat.le_of_ble_eq_true rfl) rfl rfl (Nat.zero_le _) (Nat.zero_le _) dX6_parse_156 ?_
      refine r_goto X 173 dX6_parse_159 rfl ?_
      refine r_iinc X (x := x2) (v := x2 + 1) [some (.ref (k.b + (20))), some (.int x3), some (.int (x2 + 1)), some (.int x3)] dX6_parse_173 rfl rfl rfl ?_
      refine r_goto X 18 dX6_parse_176 rfl ?_
      refine VW.msk [true, true, true, false] rfl (lo' := [some (.ref (k.b + (20))), some (.int x3), some (.int (x2 + 1)), none]) rfl ?_
      exact hrec u156.1 u156.2 x3 (x2 + 1) hf
    replace hf := ifF hf c123_1
    by_cases c123_2 : x3 = 2
    · replace hf := ifT hf c123_2
      refine r_tswIn X (off := 39) 162 dX6_parse_123 (by rw [c123_2]; decide) (by rw [c123_2]; decide) (by rw [c123_2]; rfl) rfl ?_
      refine r_aload_n X (x := k.b + (20)) dX6_parse_162 rfl ?_
      obtain ⟨u163, h163, hf⟩ := bdS hf
      refine r_callV0 X [] [] (K6_readValve h163) lkX6_64 clsX6 rfl _ o_parser (by decide) (Nat.le_of_ble_eq_true rfl) rfl rfl (Nat.le_of_ble_eq_true rfl) rfl rfl (Nat.zero_le _) (Nat.zero_le _) dX6_parse_163 ?_
      refine r_goto X 173 dX6_parse_166 rfl ?_
      refine r_iinc X (x := x2) (v := x2 + 1) [some (.ref (k.b + (20))), some (.int x3), some (.int (x2 + 1)), some (.int x3)] dX6_parse_173 rfl rfl rfl ?_
      refine r_goto X 18 dX6_parse_176 rfl ?_
      refine VW.msk [true, true, true, false] rfl (lo' := [some (.ref (k.b + (20))), some (.int x3), some (.int (x2 + 1)), none]) rfl ?_
      exact hrec u163.1 u163.2 x3 (x2 + 1) hf
    replace hf := ifF hf c123_2
    refine r_tswOut X 169 dX6_parse_123 (tsw_out (fun v hv1 hv2 => by
      rcases (show v = 0 ∨ v = 1 ∨ v = 2 by omega) with rfl | rfl | rfl
      · exact c123_0
      · exact c123_1
      · exact c123_2
      )) rfl ?_
    refine r_aload_n X (x := k.b + (20)) dX6_parse_169 rfl ?_
    obtain ⟨u170, h170, hf⟩ := bdS hf
    refine r_callV0 X [] [] (K6_readFlange h170) lkX6_67 clsX6 rfl _ o_parser (by decide) (Nat.le_of_ble_eq_true rfl) rfl rfl (Nat.le_of_ble_eq_true rfl) rfl rfl (Nat.zero_le _) (Nat.zero_le _) dX6_parse_170 ?_
    refine r_iinc X (x := x2) (v := x2 + 1) [some (.ref (k.b + (20))), some (.int x3), some (.int (x2 + 1)), some (.int x3)] dX6_parse_173 rfl rfl rfl ?_
    refine r_goto X 18 dX6_parse_176 rfl ?_
    refine VW.msk [true, true, true, false] rfl (lo' := [some (.ref (k.b + (20))), some (.int x3), some (.int (x2 + 1)), none]) rfl ?_
    exact hrec u170.1 u170.2 x3 (x2 + 1) hf
  · replace hf := ifF hf c92
    refine r_aload_n X (x := k.b + (20)) dX6_parse_95 rfl ?_
    refine r_getfield X (v := .ref (k.b + (3))) clsX6 flX6_18 (Nat.le_of_ble_eq_true rfl) _ o_parser rfl dX6_parse_96 ?_
    refine r_iconst X (v := 4) dX6_parse_99 rfl ?_
    refine r_aload_n X (x := k.b + (20)) dX6_parse_100 rfl ?_
    refine r_getfield X (v := .ref (k.b + (3))) clsX6 flX6_18 (Nat.le_of_ble_eq_true rfl) _ o_parser rfl dX6_parse_101 ?_
    refine r_getfield X (v := .int (RR_start R)) clsX2 flX6_44 (Nat.le_of_ble_eq_true rfl) _ o_reader rfl dX6_parse_104 ?_
    obtain ⟨u107, h107, hf⟩ := bdS hf
    refine r_callV0 X [.int 4, .int (RR_start R)] [] (K2_fail h107) lkX6_47 clsX2 rfl _ o_reader (by decide) (Nat.le_of_ble_eq_true rfl) rfl rfl (Nat.le_of_ble_eq_true rfl) rfl rfl (Nat.zero_le _) (Nat.zero_le _) dX6_parse_107 ?_
    refine r_goto X 173 dX6_parse_110 rfl ?_
    refine r_iinc X (x := x2) (v := x2 + 1) [some (.ref (k.b + (20))), some (.int x1), some (.int (x2 + 1)), some (.int x3)] dX6_parse_173 rfl rfl rfl ?_
    refine r_goto X 18 dX6_parse_176 rfl ?_
    refine VW.msk [true, true, true, false] rfl (lo' := [some (.ref (k.b + (20))), some (.int x1), some (.int (x2 + 1)), none]) rfl ?_
    exact hrec u107 lY1 x1 (x2 + 1) hf
set_option maxRecDepth 100000 in
set_option maxHeartbeats 4000000 in
theorem B6_parse_B69 {k : KT} {z : ZT} {T : TT} {ly : Fin 2 → LL} {rc : RC} {hn : HN} {rp : RP} {tp : TP} {ee : EE} {st : Fin 12 → SS} {r : Int32 × (RR) × (LL)} (X : XX k strs z RX6 cX6_parse 4 (some .boolean) (rmD 7 0 0)) (hQ : zQ z = MQ (zB z) (Qof k (some (.int r.1)) (wAll k T r.2.1 (updF ly (1 : Fin 2) r.2.2) rc hn rp tp ee st)) (zA z) (zS z) 0 0 (kA k)) (rec : RR → LL → Int32 → Int32 → Option (Int32 × (RR) × (LL))) (hrec : ∀ (R : RR) (lY1 : LL) (x1 : Int32) (x2 : Int32), rec R lY1 x1 x2 = some r → VW k z 0 0 (wAll k T R (updF ly (1 : Fin 2) lY1) rc hn rp tp ee st) 18 [some (.ref (k.b + (20))), some (.int x1), some (.int x2), none] []) (R : RR) (lY1 : LL) (x1 : Int32) (x2 : Int32) (hf : f6_parse_B69 T rec R lY1 x1 x2 = some r) : VW k z 0 0 (wAll k T R (updF ly (1 : Fin 2) lY1) rc hn rp tp ee st) 69 [some (.ref (k.b + (20))), some (.int x1), some (.int x2), none] [] := by
  unfold f6_parse_B69 at hf
  refine r_aload_n X (x := k.b + (20)) dX6_parse_69 rfl ?_
  refine r_getfield X (v := .ref (k.b + (3))) clsX6 flX6_18 (Nat.le_of_ble_eq_true rfl) _ o_parser rfl dX6_parse_70 ?_
  refine r_iconst X (v := 1) dX6_parse_73 rfl ?_
  refine r_aload_n X (x := k.b + (20)) dX6_parse_74 rfl ?_
  refine r_getfield X (v := .ref (k.b + (3))) clsX6 flX6_18 (Nat.le_of_ble_eq_true rfl) _ o_parser rfl dX6_parse_75 ?_
  refine r_getfield X (v := .int (RR_start R)) clsX2 flX6_44 (Nat.le_of_ble_eq_true rfl) _ o_reader rfl dX6_parse_78 ?_
  obtain ⟨u81, h81, hf⟩ := bdS hf
  refine r_callV0 X [.int 1, .int (RR_start R)] [] (K2_fail h81) lkX6_47 clsX2 rfl _ o_reader (by decide) (Nat.le_of_ble_eq_true rfl) rfl rfl (Nat.le_of_ble_eq_true rfl) rfl rfl (Nat.zero_le _) (Nat.zero_le _) dX6_parse_81 ?_
  refine r_goto X 173 dX6_parse_84 rfl ?_
  refine r_iinc X (x := x2) (v := x2 + 1) [some (.ref (k.b + (20))), some (.int x1), some (.int (x2 + 1)), none] dX6_parse_173 rfl rfl rfl ?_
  refine r_goto X 18 dX6_parse_176 rfl ?_
  exact hrec u81 lY1 x1 (x2 + 1) hf
set_option maxRecDepth 100000 in
set_option maxHeartbeats 4000000 in
theorem B6_parse_B18 {k : KT} {z : ZT} {T : TT} {ly : Fin 2 → LL} {rc : RC} {hn : HN} {rp : RP} {tp : TP} {ee : EE} {st : Fin 12 → SS} {r : Int32 × (RR) × (LL)} (X : XX k strs z RX6 cX6_parse 4 (some .boolean) (rmD 7 0 0)) (hQ : zQ z = MQ (zB z) (Qof k (some (.int r.1)) (wAll k T r.2.1 (updF ly (1 : Fin 2) r.2.2) rc hn rp tp ee st)) (zA z) (zS z) 0 0 (kA k)) : ∀ (fu : Nat) (R : RR) (lY1 : LL) (x1 : Int32) (x2 : Int32), f6_parse_B18 T fu R lY1 x1 x2 = some r → VW k z 0 0 (wAll k T R (updF ly (1 : Fin 2) lY1) rc hn rp tp ee st) 18 [some (.ref (k.b + (20))), some (.int x1), some (.int x2), none] [] := by
  intro fu
  induction fu with
  | zero =>
    intro R lY1 x1 x2 hf
    rw [f6_parse_B18] at hf
    cases hf
  | succ fu ih =>
    intro R lY1 x1 x2 hf
    rw [f6_parse_B18] at hf
    refine r_iload_n X (x := x2) dX6_parse_18 rfl ?_
    refine r_sipush X (v := 900) dX6_parse_19 rfl ?_
    refine r_icmp_ge X 179 dX6_parse_22 rfl (fun c22 => ?_) (fun c22 => ?_)
    · replace hf := ifT hf c22
      refine VW.msk [true, false, false, false] rfl (lo' := [some (.ref (k.b + (20))), none, none, none]) rfl ?_
      exact B6_parse_B179 X hQ R lY1 hf
    · replace hf := ifF hf c22
      refine r_aload_n X (x := k.b + (20)) dX6_parse_25 rfl ?_
      refine r_getfield X (v := .ref (k.b + (3))) clsX6 flX6_18 (Nat.le_of_ble_eq_true rfl) _ o_parser rfl dX6_parse_26 ?_
      refine r_getfield X (v := .int (RR_kind R)) clsX2 flX6_30 (Nat.le_of_ble_eq_true rfl) _ o_reader rfl dX6_parse_29 ?_
      refine r_if_eq X 179 dX6_parse_32 rfl (fun c32 => ?_) (fun c32 => ?_)
      · replace hf := ifT hf c32
        refine VW.msk [true, false, false, false] rfl (lo' := [some (.ref (k.b + (20))), none, none, none]) rfl ?_
        exact B6_parse_B179 X hQ R lY1 hf
      · replace hf := ifF hf c32
        refine r_aload_n X (x := k.b + (20)) dX6_parse_35 rfl ?_
        refine r_getfield X (v := .ref (k.b + (3))) clsX6 flX6_18 (Nat.le_of_ble_eq_true rfl) _ o_parser rfl dX6_parse_36 ?_
        refine r_getfield X (v := .int (RR_errorCode R)) clsX2 flX6_34 (Nat.le_of_ble_eq_true rfl) _ o_reader rfl dX6_parse_39 ?_
        refine r_if_ne X 179 dX6_parse_42 rfl (fun c42 => ?_) (fun c42 => ?_)
        · replace hf := ifF hf c42
          refine VW.msk [true, false, false, false] rfl (lo' := [some (.ref (k.b + (20))), none, none, none]) rfl ?_
          exact B6_parse_B179 X hQ R lY1 hf
        · replace hf := ifT hf c42
          refine r_aload_n X (x := k.b + (20)) dX6_parse_45 rfl ?_
          obtain ⟨u46, h46, hf⟩ := bdS hf
          refine r_callV0 X [] [] (K6_section h46) lkX6_37 clsX6 rfl _ o_parser (by decide) (Nat.le_of_ble_eq_true rfl) rfl rfl (Nat.le_of_ble_eq_true rfl) rfl rfl (Nat.zero_le _) (Nat.zero_le _) dX6_parse_46 ?_
          refine r_istore_n X [some (.ref (k.b + (20))), some (.int x1), some (.int x2), some (.int u46)] dX6_parse_49 (Nat.le_of_ble_eq_true rfl) rfl ?_
          refine r_iload_n X (x := u46) dX6_parse_50 rfl ?_
          refine r_iload_n X (x := x1) dX6_parse_51 rfl ?_
          refine r_icmp_lt X 69 dX6_parse_52 rfl (fun c52 => ?_) (fun c52 => ?_)
          · replace hf := ifT hf c52
            refine VW.msk [true, true, true, false] rfl (lo' := [some (.ref (k.b + (20))), some (.int x1), some (.int x2), none]) rfl ?_
            exact B6_parse_B69 X hQ (f6_parse_B18 T fu) ih R lY1 x1 x2 hf
          · replace hf := ifF hf c52
            refine r_iload_n X (x := u46) dX6_parse_55 rfl ?_
            refine r_if_le X 87 dX6_parse_56 rfl (fun c56 => ?_) (fun c56 => ?_)
            · replace hf := ifT hf c56
              exact B6_parse_B87 X hQ (f6_parse_B18 T fu) ih R lY1 x1 x2 u46 hf
            · replace hf := ifF hf c56
              refine r_aload_n X (x := k.b + (20)) dX6_parse_59 rfl ?_
              refine r_getfield X (v := .ref (k.b + (4 + 17 * (1 : Fin 2).val))) clsX6 flX6_12 (Nat.le_of_ble_eq_true rfl) _ o_parser rfl dX6_parse_60 ?_
              refine r_getfield X (v := .int (LL_chambers lY1)) clsX1 flX6_41 (Nat.le_of_ble_eq_true rfl) _ (o_lay1 (1 : Fin 2) _) rfl dX6_parse_63 ?_
              refine r_if_ne X 87 dX6_parse_66 rfl (fun c66 => ?_) (fun c66 => ?_)
              · replace hf := ifF hf c66
                exact B6_parse_B87 X hQ (f6_parse_B18 T fu) ih R lY1 x1 x2 u46 hf
              · replace hf := ifT hf c66
                refine VW.msk [true, true, true, false] rfl (lo' := [some (.ref (k.b + (20))), some (.int x1), some (.int x2), none]) rfl ?_
                exact B6_parse_B69 X hQ (f6_parse_B18 T fu) ih R lY1 x1 x2 hf
set_option maxRecDepth 100000 in
set_option maxHeartbeats 4000000 in
theorem K6_parse {k : KT} {T : TT} {R : RR} {ly : Fin 2 → LL} {rc : RC} {hn : HN} {rp : RP} {tp : TP} {ee : EE} {st : Fin 12 → SS} {lY1 : LL}  {r : Int32 × (RR) × (LL)} (hf : f6_parse T R lY1  = some r) : CT k strs yX6_parse cX6_parse 4 (some .boolean) (rmD 7 0 0) 0 0 [.ref (k.b + (20))] (wAll k T R (updF ly (1 : Fin 2) lY1) rc hn rp tp ee st) (some (.int r.1)) (wAll k T r.2.1 (updF ly (1 : Fin 2) r.2.2) rc hn rp tp ee st) := by
  refine CT.of (by decide) (Nat.le_of_ble_eq_true rfl) ?_
  intro z X hQ
  show VW k z 0 0 (wAll k T R (updF ly (1 : Fin 2) lY1) rc hn rp tp ee st) 0 [some (.ref (k.b + (20))), none, none, none] []
  unfold f6_parse at hf
  refine r_aload_n X (x := k.b + (20)) dX6_parse_0 rfl ?_
  refine r_getfield X (v := .ref (k.b + (4 + 17 * (1 : Fin 2).val))) clsX6 flX6_12 (Nat.le_of_ble_eq_true rfl) _ o_parser rfl dX6_parse_1 ?_
  obtain ⟨u4, h4, hf⟩ := bdS hf
  refine r_callV0 X [] [] (K1_clear h4) lkX6_22 clsX1 rfl _ (o_lay1 (1 : Fin 2) _) (by decide) (Nat.le_of_ble_eq_true rfl) rfl rfl (Nat.le_of_ble_eq_true rfl) rfl rfl (Nat.zero_le _) (Nat.zero_le _) dX6_parse_4 ?_
  refine r_aload_n X (x := k.b + (20)) dX6_parse_7 rfl ?_
  refine r_getfield X (v := .ref (k.b + (3))) clsX6 flX6_18 (Nat.le_of_ble_eq_true rfl) _ o_parser rfl dX6_parse_8 ?_
  obtain ⟨u11, h11, hf⟩ := bdS hf
  refine r_callV0 X [] [] (K2_begin h11) lkX6_25 clsX2 rfl _ o_reader (by decide) (Nat.le_of_ble_eq_true rfl) rfl rfl (Nat.le_of_ble_eq_true rfl) rfl rfl (Nat.zero_le _) (Nat.zero_le _) dX6_parse_11 ?_
  refine r_iconst X (v := 0) dX6_parse_14 rfl ?_
  refine r_istore_n X [some (.ref (k.b + (20))), some (.int 0), none, none] dX6_parse_15 (Nat.le_of_ble_eq_true rfl) rfl ?_
  refine r_iconst X (v := 0) dX6_parse_16 rfl ?_
  refine r_istore_n X [some (.ref (k.b + (20))), some (.int 0), some (.int 0), none] dX6_parse_17 (Nat.le_of_ble_eq_true rfl) rfl ?_
  exact B6_parse_B18 X hQ FU u11 u4 0 0 hf
set_option maxRecDepth 100000 in
set_option maxHeartbeats 4000000 in
theorem K7_slot {k : KT} {T : TT} {R : RR} {ly : Fin 2 → LL} {rc : RC} {hn : HN} {rp : RP} {tp : TP} {ee : EE} {st : Fin 12 → SS} {j : Fin 12} {S : SS} {x1 : Int32} {r : Int32} (hf : f7_slot S  x1 = some r) : CT k strs yX7_slot cX7_slot 2 (some .int) (rmD 0 0 0) 0 0 [.ref (k.b + (45 + 12 * j.val + 9)), .int x1] (wAll k T R ly rc hn rp tp ee (updF st j S)) (some (.int r)) (wAll k T R ly rc hn rp tp ee (updF st j S)) := by
  refine CT.of (by decide) (Nat.le_of_ble_eq_true rfl) ?_
  intro z X hQ
  show VW k z 0 0 (wAll k T R ly rc hn rp tp ee (updF st j S)) 0 [some (.ref (k.b + (45 + 12 * j.val + 9))), some (.int x1)] []
  unfold f7_slot at hf
  refine r_aload_n X (x := k.b + (45 + 12 * j.val + 9)) dX7_slot_0 rfl ?_
  refine r_getfield X (v := .int (SS_next S)) clsX7 flX7_13 (Nat.le_of_ble_eq_true rfl) _ (o_tl1 j _) rfl dX7_slot_1 ?_
  refine r_bipush X (v := 10) dX7_slot_4 rfl ?_
  refine r_iadd X dX7_slot_6 ?_
  refine r_iconst X (v := 1) dX7_slot_7 rfl ?_
  refine r_isub X dX7_slot_8 ?_
  refine r_iload_n X (x := x1) dX7_slot_9 rfl ?_
  refine r_isub X dX7_slot_10 ?_
  refine r_bipush X (v := 10) dX7_slot_11 rfl ?_
  refine r_irem X dX7_slot_13 (by decide) ?_
  obtain rfl := Option.some.inj hf
  exact r_ireturn X hQ rfl rfl (Nat.le_of_ble_eq_true rfl) (Nat.le_of_ble_eq_true rfl) dX7_slot_14
set_option maxRecDepth 100000 in
set_option maxHeartbeats 4000000 in
theorem K7_fact {k : KT} {T : TT} {R : RR} {ly : Fin 2 → LL} {rc : RC} {hn : HN} {rp : RP} {tp : TP} {ee : EE} {st : Fin 12 → SS} {j : Fin 12} {S : SS} {x1 : Int32} {x2 : Int32} {r : Int32} (hf : f7_fact S  x1 x2 = some r) : CT k strs yX7_fact cX7_fact 3 (some .int) (rmD 1 0 0) 0 0 [.ref (k.b + (45 + 12 * j.val + 9)), .int x1, .int x2] (wAll k T R ly rc hn rp tp ee (updF st j S)) (some (.int r)) (wAll k T R ly rc hn rp tp ee (updF st j S)) := by
  refine CT.of (by decide) (Nat.le_of_ble_eq_true rfl) ?_
  intro z X hQ
  show VW k z 0 0 (wAll k T R ly rc hn rp tp ee (updF st j S)) 0 [some (.ref (k.b + (45 + 12 * j.val + 9))), some (.int x1), some (.int x2)] []
  unfold f7_fact at hf
  refine r_aload_n X (x := k.b + (45 + 12 * j.val + 9)) dX7_fact_0 rfl ?_
  refine r_getfield X (v := .ref (k.b + (45 + 12 * j.val + 10))) clsX7 flX7_16 (Nat.le_of_ble_eq_true rfl) _ (o_tl1 j _) rfl dX7_fact_1 ?_
  refine r_aload_n X (x := k.b + (45 + 12 * j.val + 9)) dX7_fact_4 rfl ?_
  refine r_iload_n X (x := x1) dX7_fact_5 rfl ?_
  obtain ⟨u6, h6, hf⟩ := bdS hf
  refine r_callV0 X [.int x1] [.ref (k.b + (45 + 12 * j.val + 10))] (K7_slot h6) lkX7_36 clsX7 rfl _ (o_tl1 j _) (by decide) (Nat.le_of_ble_eq_true rfl) rfl rfl (Nat.le_of_ble_eq_true rfl) rfl rfl (Nat.zero_le _) (Nat.zero_le _) dX7_fact_6 ?_
  refine r_iconst X (v := 4) dX7_fact_9 rfl ?_
  refine r_imul X dX7_fact_10 ?_
  refine r_iload_n X (x := x2) dX7_fact_11 rfl ?_
  refine r_iadd X dX7_fact_12 ?_
  obtain ⟨g13, hf⟩ := gdS hf
  refine r_iaload X (f := SS_facts S) _ (a_st1_facts j _) g13 dX7_fact_13 ?_
  obtain rfl := Option.some.inj hf
  exact r_ireturn X hQ rfl rfl (Nat.le_of_ble_eq_true rfl) (Nat.le_of_ble_eq_true rfl) dX7_fact_14
set_option maxRecDepth 100000 in
set_option maxHeartbeats 4000000 in
theorem K7_riseOf {k : KT} {T : TT} {R : RR} {ly : Fin 2 → LL} {rc : RC} {hn : HN} {rp : RP} {tp : TP} {ee : EE} {st : Fin 12 → SS} {j : Fin 12} {S : SS} {x1 : Int32} {x2 : Int32} {r : Int64} (hf : f7_riseOf S  x1 x2 = some r) : CT k strs yX7_riseOf cX7_riseOf 3 (some .long) (rmD 1 0 0) 0 0 [.ref (k.b + (45 + 12 * j.val + 9)), .int x1, .int x2] (wAll k T R ly rc hn rp tp ee (updF st j S)) (some (.long r)) (wAll k T R ly rc hn rp tp ee (updF st j S)) := by
  refine CT.of (by decide) (Nat.le_of_ble_eq_true rfl) ?_
  intro z X hQ
  show VW k z 0 0 (wAll k T R ly rc hn rp tp ee (updF st j S)) 0 [some (.ref (k.b + (45 + 12 * j.val + 9))), some (.int x1), some (.int x2)] []
  unfold f7_riseOf at hf
  refine r_aload_n X (x := k.b + (45 + 12 * j.val + 9)) dX7_riseOf_0 rfl ?_
  refine r_getfield X (v := .ref (k.b + (45 + 12 * j.val + 11))) clsX7 flX7_20 (Nat.le_of_ble_eq_true rfl) _ (o_tl1 j _) rfl dX7_riseOf_1 ?_
  refine r_aload_n X (x := k.b + (45 + 12 * j.val + 9)) dX7_riseOf_4 rfl ?_
  refine r_iload_n X (x := x1) dX7_riseOf_5 rfl ?_
  obtain ⟨u6, h6, hf⟩ := bdS hf
  refine r_callV0 X [.int x1] [.ref (k.b + (45 + 12 * j.val + 11))] (K7_slot h6) lkX7_36 clsX7 rfl _ (o_tl1 j _) (by decide) (Nat.le_of_ble_eq_true rfl) rfl rfl (Nat.le_of_ble_eq_true rfl) rfl rfl (Nat.zero_le _) (Nat.zero_le _) dX7_riseOf_6 ?_
  refine r_iconst X (v := 2) dX7_riseOf_9 rfl ?_
  refine r_imul X dX7_riseOf_10 ?_
  refine r_iload_n X (x := x2) dX7_riseOf_11 rfl ?_
  suffices K12 : VW k z 0 0 (wAll k T R ly rc hn rp tp ee (updF st j S)) 20 [some (.ref (k.b + (45 + 12 * j.val + 9))), some (.int x1), some (.int x2)] [.int (if x2 = 0 then (0 : Int32) else (1 : Int32)), .int (u6 * 2), .ref (k.b + (45 + 12 * j.val + 11))] by
    refine r_if_eq X 19 dX7_riseOf_12 rfl (fun c12 => ?_) (fun c12 => ?_)
    · refine r_iconst X (v := 0) dX7_riseOf_19 rfl ?_
      rw [if_pos c12] at K12
      exact K12
    · refine r_iconst X (v := 1) dX7_riseOf_15 rfl ?_
      refine r_goto X 20 dX7_riseOf_16 rfl ?_
      rw [if_neg c12] at K12
      exact K12
  refine r_iadd X dX7_riseOf_20 ?_
  obtain ⟨g21, hf⟩ := gdS hf
  refine r_laload X (f := SS_rises S) _ (a_st1_rises j _) g21 dX7_riseOf_21 ?_
  obtain rfl := Option.some.inj hf
  exact r_lreturn X hQ rfl rfl (Nat.le_of_ble_eq_true rfl) (Nat.le_of_ble_eq_true rfl) dX7_riseOf_22
set_option maxRecDepth 100000 in
set_option maxHeartbeats 4000000 in
theorem B8_addWord_B3 {k : KT} {z : ZT} {R : RR} {ly : Fin 2 → LL} {rc : RC} {hn : HN} {rp : RP} {tp : TP} {ee : EE} {st : Fin 12 → SS} {r : (TT)} (X : XX k strs z RX8 cX8_addWord 3 none (rmD 0 0 0)) (hQ : zQ z = MQ (zB z) (Qof k (none) (wAll k r R ly rc hn rp tp ee st)) (zA z) (zS z) 0 0 (kA k)) : ∀ (fu : Nat) (T : TT) (x1 : Int32) (x2 : Int32), f8_addWord_B3  fu T x1 x2 = some r → VW k z 0 0 (wAll k T R ly rc hn rp tp ee st) 3 [some (.ref (k.b + (1))), some (.int x1), some (.int x2)] [] := by
  intro fu
  induction fu with
  | zero =>
    intro T x1 x2 hf
    rw [f8_addWord_B3] at hf
    cases hf
  | succ fu ih =>
    intro T x1 x2 hf
    rw [f8_addWord_B3] at hf
    refine r_iload_n X (x := x2) dX8_addWord_3 rfl ?_
    refine r_if_lt X 46 dX8_addWord_4 rfl (fun c4 => ?_) (fun c4 => ?_)
    · replace hf := ifT hf c4
      obtain rfl := Option.some.inj hf
      exact r_return X hQ rfl rfl (Nat.le_of_ble_eq_true rfl) (Nat.le_of_ble_eq_true rfl) dX8_addWord_46
    · replace hf := ifF hf c4
      refine r_aload_n X (x := k.b + (1)) dX8_addWord_7 rfl ?_
      refine r_getfield X (v := .int (TT_length T)) clsX8 flX8_15 (Nat.le_of_ble_eq_true rfl) _ o_text rfl dX8_addWord_8 ?_
      refine r_sipush X (v := 900) dX8_addWord_11 rfl ?_
      refine r_icmp_ge X 46 dX8_addWord_14 rfl (fun c14 => ?_) (fun c14 => ?_)
      · replace hf := ifT hf c14
        obtain rfl := Option.some.inj hf
        exact r_return X hQ rfl rfl (Nat.le_of_ble_eq_true rfl) (Nat.le_of_ble_eq_true rfl) dX8_addWord_46
      · replace hf := ifF hf c14
        refine r_aload_n X (x := k.b + (1)) dX8_addWord_17 rfl ?_
        refine r_getfield X (v := .ref (k.b + (2))) clsX8 flX8_9 (Nat.le_of_ble_eq_true rfl) _ o_text rfl dX8_addWord_18 ?_
        refine r_aload_n X (x := k.b + (1)) dX8_addWord_21 rfl ?_
        refine r_getfield X (v := .int (TT_length T)) clsX8 flX8_15 (Nat.le_of_ble_eq_true rfl) _ o_text rfl dX8_addWord_22 ?_
        refine r_iload_n X (x := x1) dX8_addWord_25 rfl ?_
        refine r_iload_n X (x := x2) dX8_addWord_26 rfl ?_
        refine r_iushr X dX8_addWord_27 ?_
        refine r_i2b X dX8_addWord_28 ?_
        obtain ⟨g29, hf⟩ := gdS hf
        refine r_bastore X (f := TT_bytes T) (ws1 := wAll k (TT_set_bytes T (upd (TT_bytes T) (ix (TT_length T)) (vp_nar .byte ((iushrF x1 x2).toInt8.toInt32)))) R ly rc hn rp tp ee st) _ a_T_bytes g29 (s_T_bytes (upd (TT_bytes T) (ix (TT_length T)) (vp_nar .byte ((iushrF x1 x2).toInt8.toInt32)))) dX8_addWord_29 ?_
        refine r_aload_n X (x := k.b + (1)) dX8_addWord_30 rfl ?_
        refine r_dup X dX8_addWord_31 rfl ?_
        refine r_getfield X (v := .int (TT_length T)) clsX8 flX8_15 (Nat.le_of_ble_eq_true rfl) _ o_text (hvI rfl (TT_length_set_bytes _ _)) dX8_addWord_32 ?_
        refine r_iconst X (v := 1) dX8_addWord_35 rfl ?_
        refine r_iadd X dX8_addWord_36 ?_
        refine r_putfield X (ws1 := wAll k (TT_set_length (TT_set_bytes T (upd (TT_bytes T) (ix (TT_length T)) (vp_nar .byte ((iushrF x1 x2).toInt8.toInt32)))) ((TT_length T) + 1)) R ly rc hn rp tp ee st) clsX8 flX8_15 (Nat.le_of_ble_eq_true rfl) rfl rfl rfl _ o_text (Nat.le_of_ble_eq_true rfl) (s_T_length ((TT_length T) + 1)) dX8_addWord_37 ?_
        refine r_iinc X (x := x2) (v := x2 + (-8)) [some (.ref (k.b + (1))), some (.int x1), some (.int (x2 + (-8)))] dX8_addWord_40 rfl rfl rfl ?_
        refine r_goto X 3 dX8_addWord_43 rfl ?_
        exact ih (TT_set_length (TT_set_bytes T (upd (TT_bytes T) (ix (TT_length T)) (vp_nar .byte ((iushrF x1 x2).toInt8.toInt32)))) ((TT_length T) + 1)) x1 (x2 + (-8)) hf
set_option maxRecDepth 100000 in
set_option maxHeartbeats 4000000 in
theorem K8_addWord {k : KT} {T : TT} {R : RR} {ly : Fin 2 → LL} {rc : RC} {hn : HN} {rp : RP} {tp : TP} {ee : EE} {st : Fin 12 → SS}  {x1 : Int32} {r : (TT)} (hf : f8_addWord  T x1 = some r) : CT k strs yX8_addWord cX8_addWord 3 none (rmD 0 0 0) 0 0 [.ref (k.b + (1)), .int x1] (wAll k T R ly rc hn rp tp ee st) (none) (wAll k r R ly rc hn rp tp ee st) := by
  refine CT.of (by decide) (Nat.le_of_ble_eq_true rfl) ?_
  intro z X hQ
  show VW k z 0 0 (wAll k T R ly rc hn rp tp ee st) 0 [some (.ref (k.b + (1))), some (.int x1), none] []
  unfold f8_addWord at hf
  refine r_bipush X (v := 24) dX8_addWord_0 rfl ?_
  refine r_istore_n X [some (.ref (k.b + (1))), some (.int x1), some (.int 24)] dX8_addWord_2 (Nat.le_of_ble_eq_true rfl) rfl ?_
  exact B8_addWord_B3 X hQ FU T x1 24 hf
set_option maxRecDepth 100000 in
set_option maxHeartbeats 4000000 in
theorem K9_appendText {k : KT} {T : TT} {R : RR} {ly : Fin 2 → LL} {rc : RC} {hn : HN} {rp : RP} {tp : TP} {ee : EE} {st : Fin 12 → SS}  {x1 : Int32} {x2 : Int32} {x3 : Int32} {x4 : Int32} {x5 : Int32} {r : Int32 × (TT)} (hf : f9_appendText  T x1 x2 x3 x4 x5 = some r) : CT k strs yX9_appendText cX9_appendText 6 (some .int) (rmD 1 0 0) 0 0 [.ref (k.b + (0)), .int x1, .int x2, .int x3, .int x4, .int x5] (wAll k T R ly rc hn rp tp ee st) (some (.int r.1)) (wAll k r.2 R ly rc hn rp tp ee st) := by
  refine CT.of (by decide) (Nat.le_of_ble_eq_true rfl) ?_
  intro z X hQ
  show VW k z 0 0 (wAll k T R ly rc hn rp tp ee st) 0 [some (.ref (k.b + (0))), some (.int x1), some (.int x2), some (.int x3), some (.int x4), some (.int x5)] []
  unfold f9_appendText at hf
  refine r_aload_n X (x := k.b + (0)) dX9_appendText_0 rfl ?_
  refine r_getfield X (v := .ref (k.b + (1))) clsX9 flX9_12 (Nat.le_of_ble_eq_true rfl) _ o_main rfl dX9_appendText_1 ?_
  refine r_getfield X (v := .int (TT_length T)) clsX8 flX9_93 (Nat.le_of_ble_eq_true rfl) _ o_text rfl dX9_appendText_4 ?_
  refine r_bipush X (v := 20) dX9_appendText_7 rfl ?_
  refine r_iadd X dX9_appendText_9 ?_
  refine r_sipush X (v := 900) dX9_appendText_10 rfl ?_
  refine r_icmp_le X 24 dX9_appendText_13 rfl (fun c13 => ?_) (fun c13 => ?_)
  · replace hf := ifT hf c13
    refine r_aload_n X (x := k.b + (0)) dX9_appendText_24 rfl ?_
    refine r_getfield X (v := .ref (k.b + (1))) clsX9 flX9_12 (Nat.le_of_ble_eq_true rfl) _ o_main rfl dX9_appendText_25 ?_
    refine r_iload_n X (x := x1) dX9_appendText_28 rfl ?_
    obtain ⟨u29, h29, hf⟩ := bdS hf
    refine r_callV0 X [.int x1] [] (K8_addWord h29) lkX9_99 clsX8 rfl _ o_text (by decide) (Nat.le_of_ble_eq_true rfl) rfl rfl (Nat.le_of_ble_eq_true rfl) rfl rfl (Nat.zero_le _) (Nat.zero_le _) dX9_appendText_29 ?_
    refine r_aload_n X (x := k.b + (0)) dX9_appendText_32 rfl ?_
    refine r_getfield X (v := .ref (k.b + (1))) clsX9 flX9_12 (Nat.le_of_ble_eq_true rfl) _ o_main rfl dX9_appendText_33 ?_
    refine r_iload_n X (x := x2) dX9_appendText_36 rfl ?_
    obtain ⟨u37, h37, hf⟩ := bdS hf
    refine r_callV0 X [.int x2] [] (K8_addWord h37) lkX9_99 clsX8 rfl _ o_text (by decide) (Nat.le_of_ble_eq_true rfl) rfl rfl (Nat.le_of_ble_eq_true rfl) rfl rfl (Nat.zero_le _) (Nat.zero_le _) dX9_appendText_37 ?_
    refine r_aload_n X (x := k.b + (0)) dX9_appendText_40 rfl ?_
    refine r_getfield X (v := .ref (k.b + (1))) clsX9 flX9_12 (Nat.le_of_ble_eq_true rfl) _ o_main rfl dX9_appendText_41 ?_
    refine r_iload_n X (x := x3) dX9_appendText_44 rfl ?_
    obtain ⟨u45, h45, hf⟩ := bdS hf
    refine r_callV0 X [.int x3] [] (K8_addWord h45) lkX9_99 clsX8 rfl _ o_text (by decide) (Nat.le_of_ble_eq_true rfl) rfl rfl (Nat.le_of_ble_eq_true rfl) rfl rfl (Nat.zero_le _) (Nat.zero_le _) dX9_appendText_45 ?_
    refine r_aload_n X (x := k.b + (0)) dX9_appendText_48 rfl ?_
    refine r_getfield X (v := .ref (k.b + (1))) clsX9 flX9_12 (Nat.le_of_ble_eq_true rfl) _ o_main rfl dX9_appendText_49 ?_
    refine r_iload X (x := x4) dX9_appendText_52 rfl ?_
    obtain ⟨u54, h54, hf⟩ := bdS hf
    refine r_callV0 X [.int x4] [] (K8_addWord h54) lkX9_99 clsX8 rfl _ o_text (by decide) (Nat.le_of_ble_eq_true rfl) rfl rfl (Nat.le_of_ble_eq_true rfl) rfl rfl (Nat.zero_le _) (Nat.zero_le _) dX9_appendText_54 ?_
    refine r_aload_n X (x := k.b + (0)) dX9_appendText_57 rfl ?_
    refine r_getfield X (v := .ref (k.b + (1))) clsX9 flX9_12 (Nat.le_of_ble_eq_true rfl) _ o_main rfl dX9_appendText_58 ?_
    refine r_iload X (x := x5) dX9_appendText_61 rfl ?_
    obtain ⟨u63, h63, hf⟩ := bdS hf
    refine r_callV0 X [.int x5] [] (K8_addWord h63) lkX9_99 clsX8 rfl _ o_text (by decide) (Nat.le_of_ble_eq_true rfl) rfl rfl (Nat.le_of_ble_eq_true rfl) rfl rfl (Nat.zero_le _) (Nat.zero_le _) dX9_appendText_63 ?_
    refine r_aload_n X (x := k.b + (0)) dX9_appendText_66 rfl ?_
    refine r_getfield X (v := .ref (k.b + (1))) clsX9 flX9_12 (Nat.le_of_ble_eq_true rfl) _ o_main rfl dX9_appendText_67 ?_
    refine r_getfield X (v := .int (TT_length u63)) clsX8 flX9_93 (Nat.le_of_ble_eq_true rfl) _ o_text rfl dX9_appendText_70 ?_
    obtain rfl := Option.some.inj hf
    exact r_ireturn X hQ rfl rfl (Nat.le_of_ble_eq_true rfl) (Nat.le_of_ble_eq_true rfl) dX9_appendText_73
  · replace hf := ifF hf c13
    cases hf
set_option maxRecDepth 100000 in
set_option maxHeartbeats 4000000 in
theorem K9_truncateText {k : KT} {T : TT} {R : RR} {ly : Fin 2 → LL} {rc : RC} {hn : HN} {rp : RP} {tp : TP} {ee : EE} {st : Fin 12 → SS}  {x1 : Int32} {r : Int32 × (TT)} (hf : f9_truncateText  T x1 = some r) : CT k strs yX9_truncateText cX9_truncateText 2 (some .int) (rmD 0 0 0) 0 0 [.ref (k.b + (0)), .int x1] (wAll k T R ly rc hn rp tp ee st) (some (.int r.1)) (wAll k r.2 R ly rc hn rp tp ee st) := by
  refine CT.of (by decide) (Nat.le_of_ble_eq_true rfl) ?_
  intro z X hQ
  show VW k z 0 0 (wAll k T R ly rc hn rp tp ee st) 0 [some (.ref (k.b + (0))), some (.int x1)] []
  unfold f9_truncateText at hf
  refine r_iload_n X (x := x1) dX9_truncateText_0 rfl ?_
  refine r_if_lt X 15 dX9_truncateText_1 rfl (fun c1 => ?_) (fun c1 => ?_)
  · replace hf := ifT hf c1
    cases hf
  · replace hf := ifF hf c1
    refine r_iload_n X (x := x1) dX9_truncateText_4 rfl ?_
    refine r_aload_n X (x := k.b + (0)) dX9_truncateText_5 rfl ?_
    refine r_getfield X (v := .ref (k.b + (1))) clsX9 flX9_12 (Nat.le_of_ble_eq_true rfl) _ o_main rfl dX9_truncateText_6 ?_
    refine r_getfield X (v := .int (TT_length T)) clsX8 flX9_93 (Nat.le_of_ble_eq_true rfl) _ o_text rfl dX9_truncateText_9 ?_
    refine r_icmp_le X 23 dX9_truncateText_12 rfl (fun c12 => ?_) (fun c12 => ?_)
    · replace hf := ifT hf c12
      refine r_aload_n X (x := k.b + (0)) dX9_truncateText_23 rfl ?_
      refine r_getfield X (v := .ref (k.b + (1))) clsX9 flX9_12 (Nat.le_of_ble_eq_true rfl) _ o_main rfl dX9_truncateText_24 ?_
      refine r_iload_n X (x := x1) dX9_truncateText_27 rfl ?_
      refine r_putfield X (ws1 := wAll k (TT_set_length T x1) R ly rc hn rp tp ee st) clsX8 flX9_93 (Nat.le_of_ble_eq_true rfl) rfl rfl rfl _ o_text (Nat.le_of_ble_eq_true rfl) (s_T_length x1) dX9_truncateText_28 ?_
      refine r_iload_n X (x := x1) dX9_truncateText_31 rfl ?_
      obtain rfl := Option.some.inj hf
      exact r_ireturn X hQ rfl rfl (Nat.le_of_ble_eq_true rfl) (Nat.le_of_ble_eq_true rfl) dX9_truncateText_32
    · replace hf := ifF hf c12
      cases hf
set_option maxRecDepth 100000 in
set_option maxHeartbeats 4000000 in
theorem K9_parseSystem {k : KT} {T : TT} {R : RR} {ly : Fin 2 → LL} {rc : RC} {hn : HN} {rp : RP} {tp : TP} {ee : EE} {st : Fin 12 → SS}   {r : Int32 × (TT) × (RR) × (Fin 2 → LL) × (TP) × (EE) × (Fin 12 → SS)} (hf : f9_parseSystem  T R ly tp ee st  = some r) : CT k strs yX9_parseSystem cX9_parseSystem 2 (some .int) (rmD 8 0 0) 0 0 [.ref (k.b + (0))] (wAll k T R ly rc hn rp tp ee st) (some (.int r.1)) (wAll k r.2.1 r.2.2.1 r.2.2.2.1 rc hn rp r.2.2.2.2.1 r.2.2.2.2.2.1 r.2.2.2.2.2.2) := by
  refine CT.of (by decide) (Nat.le_of_ble_eq_true rfl) ?_
  intro z X hQ
  show VW k z 0 0 (wAll k T R ly rc hn rp tp ee st) 0 [some (.ref (k.b + (0))), none] []
  unfold f9_parseSystem at hf
  refine r_aload_n X (x := k.b + (0)) dX9_parseSystem_0 rfl ?_
  refine r_getfield X (v := .ref (k.b + (20))) clsX9 flX9_37 (Nat.le_of_ble_eq_true rfl) _ o_main rfl dX9_parseSystem_1 ?_
  refine VW.foc (ws' := wAll k T R (updF ly (1 : Fin 2) (ly (1 : Fin 2))) rc hn rp tp ee st) (by rw [updF_self]) ?_
  obtain ⟨u4, h4, hf⟩ := bdS hf
  refine r_callV0 X [] [] (K6_parse h4) lkX9_106 clsX6 rfl _ o_parser (by decide) (Nat.le_of_ble_eq_true rfl) rfl rfl (Nat.le_of_ble_eq_true rfl) rfl rfl (Nat.zero_le _) (Nat.zero_le _) dX9_parseSystem_4 ?_
  refine r_istore_n X [some (.ref (k.b + (0))), some (.int u4.1)] dX9_parseSystem_7 (Nat.le_of_ble_eq_true rfl) rfl ?_
  refine r_aload_n X (x := k.b + (0)) dX9_parseSystem_8 rfl ?_
  refine r_aload_n X (x := k.b + (0)) dX9_parseSystem_9 rfl ?_
  refine r_getfield X (v := .ref (k.b + (3))) clsX9 flX9_21 (Nat.le_of_ble_eq_true rfl) _ o_main rfl dX9_parseSystem_10 ?_
  refine r_getfield X (v := .int (RR_errorCode u4.2.1)) clsX2 flX9_110 (Nat.le_of_ble_eq_true rfl) _ o_reader rfl dX9_parseSystem_13 ?_
  refine r_putfield X (ws1 := wAll k T u4.2.1 (updF ly (1 : Fin 2) u4.2.2) rc hn rp tp (EE_set_code ee (RR_errorCode u4.2.1)) st) clsX9 flX9_87 (Nat.le_of_ble_eq_true rfl) rfl rfl rfl _ o_main (Nat.le_of_ble_eq_true rfl) (s_ee_code (RR_errorCode u4.2.1)) dX9_parseSystem_16 ?_
  refine r_aload_n X (x := k.b + (0)) dX9_parseSystem_19 rfl ?_
  refine r_aload_n X (x := k.b + (0)) dX9_parseSystem_20 rfl ?_
  refine r_getfield X (v := .ref (k.b + (3))) clsX9 flX9_21 (Nat.le_of_ble_eq_true rfl) _ o_main rfl dX9_parseSystem_21 ?_
  refine r_getfield X (v := .int (RR_errorPosition u4.2.1)) clsX2 flX9_113 (Nat.le_of_ble_eq_true rfl) _ o_reader rfl dX9_parseSystem_24 ?_
  refine r_putfield X (ws1 := wAll k T u4.2.1 (updF ly (1 : Fin 2) u4.2.2) rc hn rp tp (EE_set_pos (EE_set_code ee (RR_errorCode u4.2.1)) (RR_errorPosition u4.2.1)) st) clsX9 flX9_90 (Nat.le_of_ble_eq_true rfl) rfl rfl rfl _ o_main (Nat.le_of_ble_eq_true rfl) (s_ee_pos (RR_errorPosition u4.2.1)) dX9_parseSystem_27 ?_
  refine r_aload_n X (x := k.b + (0)) dX9_parseSystem_30 rfl ?_
  refine r_getfield X (v := .ref (k.b + (1))) clsX9 flX9_12 (Nat.le_of_ble_eq_true rfl) _ o_main rfl dX9_parseSystem_31 ?_
  refine r_iconst X (v := 0) dX9_parseSystem_34 rfl ?_
  refine r_putfield X (ws1 := wAll k (TT_set_length T 0) u4.2.1 (updF ly (1 : Fin 2) u4.2.2) rc hn rp tp (EE_set_pos (EE_set_code ee (RR_errorCode u4.2.1)) (RR_errorPosition u4.2.1)) st) clsX8 flX9_93 (Nat.le_of_ble_eq_true rfl) rfl rfl rfl _ o_text (Nat.le_of_ble_eq_true rfl) (s_T_length 0) dX9_parseSystem_35 ?_
  refine r_iload_n X (x := u4.1) dX9_parseSystem_38 rfl ?_
  refine r_if_ne X 44 dX9_parseSystem_39 rfl (fun c39 => ?_) (fun c39 => ?_)
  · replace hf := ifF hf c39
    refine r_aload_n X (x := k.b + (0)) dX9_parseSystem_44 rfl ?_
    refine r_getfield X (v := .ref (k.b + (4 + 17 * (0 : Fin 2).val))) clsX9 flX9_28 (Nat.le_of_ble_eq_true rfl) _ o_main rfl dX9_parseSystem_45 ?_
    refine r_aload_n X (x := k.b + (0)) dX9_parseSystem_48 rfl ?_
    refine r_getfield X (v := .ref (k.b + (20))) clsX9 flX9_37 (Nat.le_of_ble_eq_true rfl) _ o_main rfl dX9_parseSystem_49 ?_
    refine r_getfield X (v := .ref (k.b + (4 + 17 * (1 : Fin 2).val))) clsX6 flX9_116 (Nat.le_of_ble_eq_true rfl) _ o_parser rfl dX9_parseSystem_52 ?_
    refine VW.foc (ws' := wAll k (TT_set_length T 0) u4.2.1 (updF (updF ly (1 : Fin 2) u4.2.2) (0 : Fin 2) ((updF ly (1 : Fin 2) u4.2.2) (0 : Fin 2))) rc hn rp tp (EE_set_pos (EE_set_code ee (RR_errorCode u4.2.1)) (RR_errorPosition u4.2.1)) st) (by rw [updF_self]) ?_
    obtain ⟨u55, h55, hf⟩ := bdS hf
    refine r_callV0 X [.ref (k.b + (4 + 17 * (1 : Fin 2).val))] [] (K1_copyFrom h55) lkX9_119 clsX1 rfl _ (o_lay1 (0 : Fin 2) _) (by decide) (Nat.le_of_ble_eq_true rfl) rfl rfl (Nat.le_of_ble_eq_true rfl) rfl rfl (Nat.zero_le _) (Nat.zero_le _) dX9_parseSystem_55 ?_
    refine r_aload_n X (x := k.b + (0)) dX9_parseSystem_58 rfl ?_
    refine r_getfield X (v := .ref (k.b + (45 + 12 * (TP_pr tp).val))) clsX9 flX9_73 (Nat.le_of_ble_eq_true rfl) _ o_main rfl dX9_parseSystem_59 ?_
    refine VW.foc (ws' := wAll k (TT_set_length T 0) u4.2.1 (updF (updF ly (1 : Fin 2) u4.2.2) (0 : Fin 2) u55) rc hn rp tp (EE_set_pos (EE_set_code ee (RR_errorCode u4.2.1)) (RR_errorPosition u4.2.1)) (updF st (TP_pr tp) (st (TP_pr tp)))) (by rw [updF_self]) ?_
    obtain ⟨u62, h62, hf⟩ := bdS hf
    refine r_callV0 X [] [] (K5_reset h62) lkX9_122 clsX5 rfl _ (o_st1 (TP_pr tp) _) (by decide) (Nat.le_of_ble_eq_true rfl) rfl rfl (Nat.le_of_ble_eq_true rfl) rfl rfl (Nat.zero_le _) (Nat.zero_le _) dX9_parseSystem_62 ?_
    refine r_aload_n X (x := k.b + (0)) dX9_parseSystem_65 rfl ?_
    refine r_iconst X (v := 0) dX9_parseSystem_66 rfl ?_
    refine r_putfield X (ws1 := wAll k (TT_set_length T 0) u4.2.1 (updF (updF ly (1 : Fin 2) u4.2.2) (0 : Fin 2) u55) rc hn rp (TP_set_undoable tp 0) (EE_set_pos (EE_set_code ee (RR_errorCode u4.2.1)) (RR_errorPosition u4.2.1)) (updF st (TP_pr tp) u62)) clsX9 flX9_84 (Nat.le_of_ble_eq_true rfl) rfl rfl rfl _ o_main (Nat.le_of_ble_eq_true rfl) (s_tp_undoable 0) dX9_parseSystem_67 ?_
    refine r_aload_n X (x := k.b + (0)) dX9_parseSystem_70 rfl ?_
    refine r_getfield X (v := .ref (k.b + (4 + 17 * (0 : Fin 2).val))) clsX9 flX9_28 (Nat.le_of_ble_eq_true rfl) _ o_main rfl dX9_parseSystem_71 ?_
    refine r_getfield X (v := .int (LL_chambers u55)) clsX1 flX9_125 (Nat.le_of_ble_eq_true rfl) _ (o_lay1 (0 : Fin 2) _) rfl dX9_parseSystem_74 ?_
    obtain rfl := Option.some.inj hf
    exact r_ireturn X hQ rfl rfl (Nat.le_of_ble_eq_true rfl) (Nat.le_of_ble_eq_true rfl) dX9_parseSystem_77
  · replace hf := ifT hf c39
    refine r_iconst X (v := (-1)) dX9_parseSystem_42 rfl ?_
    obtain rfl := Option.some.inj hf
    exact r_ireturn X hQ rfl rfl (Nat.le_of_ble_eq_true rfl) (Nat.le_of_ble_eq_true rfl) dX9_parseSystem_43
set_option maxRecDepth 100000 in
set_option maxHeartbeats 4000000 in
theorem K9_beginTrial {k : KT} {T : TT} {R : RR} {ly : Fin 2 → LL} {rc : RC} {hn : HN} {rp : RP} {tp : TP} {ee : EE} {st : Fin 12 → SS}   {r : (Fin 12 → SS)} (hf : f9_beginTrial tp st  = some r) : CT k strs yX9_beginTrial cX9_beginTrial 1 none (rmD 3 0 0) 0 0 [.ref (k.b + (0))] (wAll k T R ly rc hn rp tp ee st) (none) (wAll k T R ly rc hn rp tp ee r) := by
  refine CT.of (by decide) (Nat.le_of_ble_eq_true rfl) ?_
  intro z X hQ
  show VW k z 0 0 (wAll k T R ly rc hn rp tp ee st) 0 [some (.ref (k.b + (0)))] []
  unfold f9_beginTrial at hf
  refine r_aload_n X (x := k.b + (0)) dX9_beginTrial_0 rfl ?_
  refine r_getfield X (v := .ref (k.b + (45 + 12 * (TP_tr tp).val))) clsX9 flX9_77 (Nat.le_of_ble_eq_true rfl) _ o_main rfl dX9_beginTrial_1 ?_
  refine r_aload_n X (x := k.b + (0)) dX9_beginTrial_4 rfl ?_
  refine r_getfield X (v := .ref (k.b + (45 + 12 * (TP_pr tp).val))) clsX9 flX9_73 (Nat.le_of_ble_eq_true rfl) _ o_main rfl dX9_beginTrial_5 ?_
  refine VW.foc (ws' := wAll k T R ly rc hn rp tp ee (updF st (TP_tr tp) (st (TP_tr tp)))) (by rw [updF_self]) ?_
  obtain ⟨g8a, hf⟩ := gdS hf
  obtain ⟨u8, h8, hf⟩ := bdS hf
  refine r_callV0 X [.ref (k.b + (45 + 12 * (TP_pr tp).val))] [] (K5_copyFrom (of_decide_eq_true g8a) h8) lkX9_382 clsX5 rfl _ (o_st1 (TP_tr tp) _) (by decide) (Nat.le_of_ble_eq_true rfl) rfl rfl (Nat.le_of_ble_eq_true rfl) rfl rfl (Nat.zero_le _) (Nat.zero_le _) dX9_beginTrial_8 ?_
  obtain rfl := Option.some.inj hf
  exact r_return X hQ rfl rfl (Nat.le_of_ble_eq_true rfl) (Nat.le_of_ble_eq_true rfl) dX9_beginTrial_11
set_option maxRecDepth 100000 in
set_option maxHeartbeats 4000000 in
theorem K9_keepTrial {k : KT} {T : TT} {R : RR} {ly : Fin 2 → LL} {rc : RC} {hn : HN} {rp : RP} {tp : TP} {ee : EE} {st : Fin 12 → SS}   {r : (TP)} (hf : f9_keepTrial  tp  = some r) : CT k strs yX9_keepTrial cX9_keepTrial 2 none (rmD 1 0 0) 0 0 [.ref (k.b + (0))] (wAll k T R ly rc hn rp tp ee st) (none) (wAll k T R ly rc hn rp r ee st) := by
  refine CT.of (by decide) (Nat.le_of_ble_eq_true rfl) ?_
  intro z X hQ
  show VW k z 0 0 (wAll k T R ly rc hn rp tp ee st) 0 [some (.ref (k.b + (0))), none] []
  unfold f9_keepTrial at hf
  refine r_aload_n X (x := k.b + (0)) dX9_keepTrial_0 rfl ?_
  refine r_getfield X (v := .ref (k.b + (44))) clsX9 flX9_66 (Nat.le_of_ble_eq_true rfl) _ o_main rfl dX9_keepTrial_1 ?_
  refine r_aload_n X (x := k.b + (0)) dX9_keepTrial_4 rfl ?_
  refine r_getfield X (v := .int (TP_nextPast tp)) clsX9 flX9_80 (Nat.le_of_ble_eq_true rfl) _ o_main rfl dX9_keepTrial_5 ?_
  obtain ⟨g8, hf⟩ := gdS hf
  refine r_aaload X (v := .ref (k.b + (45 + 12 * ((TP_past tp) (ix (TP_nextPast tp))).val))) _ a_past g8 rfl dX9_keepTrial_8 ?_
  refine r_astore_n X [some (.ref (k.b + (0))), some (.ref (k.b + (45 + 12 * ((TP_past tp) (ix (TP_nextPast tp))).val)))] dX9_keepTrial_9 (Nat.le_of_ble_eq_true rfl) rfl ?_
  refine r_aload_n X (x := k.b + (0)) dX9_keepTrial_10 rfl ?_
  refine r_getfield X (v := .ref (k.b + (44))) clsX9 flX9_66 (Nat.le_of_ble_eq_true rfl) _ o_main rfl dX9_keepTrial_11 ?_
  refine r_aload_n X (x := k.b + (0)) dX9_keepTrial_14 rfl ?_
  refine r_getfield X (v := .int (TP_nextPast tp)) clsX9 flX9_80 (Nat.le_of_ble_eq_true rfl) _ o_main rfl dX9_keepTrial_15 ?_
  refine r_aload_n X (x := k.b + (0)) dX9_keepTrial_18 rfl ?_
  refine r_getfield X (v := .ref (k.b + (45 + 12 * (TP_pr tp).val))) clsX9 flX9_73 (Nat.le_of_ble_eq_true rfl) _ o_main rfl dX9_keepTrial_19 ?_
  refine r_aastore X (ws1 := wAll k T R ly rc hn rp (TP_set_past tp (updN (TP_past tp) (ix (TP_nextPast tp)) (TP_pr tp))) ee st) _ _ a_past (o_st (TP_pr tp)) g8 (s_pastU _ _) dX9_keepTrial_22 ?_
  refine r_aload_n X (x := k.b + (0)) dX9_keepTrial_23 rfl ?_
  refine r_aload_n X (x := k.b + (0)) dX9_keepTrial_24 rfl ?_
  refine r_getfield X (v := .ref (k.b + (45 + 12 * (TP_tr tp).val))) clsX9 flX9_77 (Nat.le_of_ble_eq_true rfl) _ o_main rfl dX9_keepTrial_25 ?_
  refine r_putfield X (ws1 := wAll k T R ly rc hn rp (TP_set_pr (TP_set_past tp (updN (TP_past tp) (ix (TP_nextPast tp)) (TP_pr tp))) (TP_tr tp)) ee st) clsX9 flX9_73 (Nat.le_of_ble_eq_true rfl) rfl rfl rfl _ o_main (Nat.le_of_ble_eq_true rfl) (s_tp_pr (TP_tr tp)) dX9_keepTrial_28 ?_
  refine r_aload_n X (x := k.b + (0)) dX9_keepTrial_31 rfl ?_
  refine r_aload_n X (x := k.b + (45 + 12 * ((TP_past tp) (ix (TP_nextPast tp))).val)) dX9_keepTrial_32 rfl ?_
  refine r_putfield X (ws1 := wAll k T R ly rc hn rp (TP_set_tr (TP_set_pr (TP_set_past tp (updN (TP_past tp) (ix (TP_nextPast tp)) (TP_pr tp))) (TP_tr tp)) ((TP_past tp) (ix (TP_nextPast tp)))) ee st) clsX9 flX9_77 (Nat.le_of_ble_eq_true rfl) rfl rfl rfl _ o_main (Nat.le_of_ble_eq_true rfl) (s_tp_tr ((TP_past tp) (ix (TP_nextPast tp)))) dX9_keepTrial_33 ?_
  refine r_aload_n X (x := k.b + (0)) dX9_keepTrial_36 rfl ?_
  refine r_aload_n X (x := k.b + (0)) dX9_keepTrial_37 rfl ?_
  refine r_getfield X (v := .int (TP_nextPast tp)) clsX9 flX9_80 (Nat.le_of_ble_eq_true rfl) _ o_main (hvI rfl ((TP_nextPast_set_tr _ _).trans ((TP_nextPast_set_pr _ _).trans (TP_nextPast_set_past _ _)))) dX9_keepTrial_38 ?_
  refine r_iconst X (v := 1) dX9_keepTrial_41 rfl ?_
  refine r_iadd X dX9_keepTrial_42 ?_
  refine r_bipush X (v := 10) dX9_keepTrial_43 rfl ?_
  refine r_irem X dX9_keepTrial_45 (by decide) ?_
  refine r_putfield X (ws1 := wAll k T R ly rc hn rp (TP_set_nextPast (TP_set_tr (TP_set_pr (TP_set_past tp (updN (TP_past tp) (ix (TP_nextPast tp)) (TP_pr tp))) (TP_tr tp)) ((TP_past tp) (ix (TP_nextPast tp)))) (((TP_nextPast tp) + 1) - ((TP_nextPast tp) + 1) / 10 * 10)) ee st) clsX9 flX9_80 (Nat.le_of_ble_eq_true rfl) rfl rfl rfl _ o_main (Nat.le_of_ble_eq_true rfl) (s_tp_nextPast (((TP_nextPast tp) + 1) - ((TP_nextPast tp) + 1) / 10 * 10)) dX9_keepTrial_46 ?_
  refine r_aload_n X (x := k.b + (0)) dX9_keepTrial_49 rfl ?_
  refine r_aload_n X (x := k.b + (0)) dX9_keepTrial_50 rfl ?_
  refine r_getfield X (v := .int (TP_undoable tp)) clsX9 flX9_84 (Nat.le_of_ble_eq_true rfl) _ o_main (hvI rfl ((TP_undoable_set_nextPast _ _).trans ((TP_undoable_set_tr _ _).trans ((TP_undoable_set_pr _ _).trans (TP_undoable_set_past _ _))))) dX9_keepTrial_51 ?_
  refine r_iconst X (v := 1) dX9_keepTrial_54 rfl ?_
  refine r_iadd X dX9_keepTrial_55 ?_
  refine r_bipush X (v := 10) dX9_keepTrial_56 rfl ?_
  refine r_imin X lkX9_317 rfl ⟨(Nat.le_of_ble_eq_true rfl), (Nat.le_of_ble_eq_true rfl)⟩ (Nat.zero_le _) (Nat.zero_le _) dX9_keepTrial_58 ?_
  refine r_putfield X (ws1 := wAll k T R ly rc hn rp (TP_set_undoable (TP_set_nextPast (TP_set_tr (TP_set_pr (TP_set_past tp (updN (TP_past tp) (ix (TP_nextPast tp)) (TP_pr tp))) (TP_tr tp)) ((TP_past tp) (ix (TP_nextPast tp)))) (((TP_nextPast tp) + 1) - ((TP_nextPast tp) + 1) / 10 * 10)) (if 10 < ((TP_undoable tp) + 1) then 10 else ((TP_undoable tp) + 1))) ee st) clsX9 flX9_84 (Nat.le_of_ble_eq_true rfl) rfl rfl rfl _ o_main (Nat.le_of_ble_eq_true rfl) (s_tp_undoable (if 10 < ((TP_undoable tp) + 1) then 10 else ((TP_undoable tp) + 1))) dX9_keepTrial_61 ?_
  obtain rfl := Option.some.inj hf
  exact r_return X hQ rfl rfl (Nat.le_of_ble_eq_true rfl) (Nat.le_of_ble_eq_true rfl) dX9_keepTrial_64
set_option maxRecDepth 100000 in
set_option maxHeartbeats 4000000 in
theorem K9_open {k : KT} {T : TT} {R : RR} {ly : Fin 2 → LL} {rc : RC} {hn : HN} {rp : RP} {tp : TP} {ee : EE} {st : Fin 12 → SS}  {x1 : Int32} {r : Int32 × (TP) × (Fin 12 → SS)} (hf : f9_open (ly (0 : Fin 2)) tp st x1 = some r) : CT k strs yX9_open cX9_open 2 (some .int) (rmD 4 0 0) 0 0 [.ref (k.b + (0)), .int x1] (wAll k T R ly rc hn rp tp ee st) (some (.int r.1)) (wAll k T R ly rc hn rp r.2.1 ee r.2.2) := by
  refine CT.of (by decide) (Nat.le_of_ble_eq_true rfl) ?_
  intro z X hQ
  show VW k z 0 0 (wAll k T R ly rc hn rp tp ee st) 0 [some (.ref (k.b + (0))), some (.int x1)] []
  unfold f9_open at hf
  refine r_aload_n X (x := k.b + (0)) dX9_open_0 rfl ?_
  refine r_getfield X (v := .ref (k.b + (4 + 17 * (0 : Fin 2).val))) clsX9 flX9_28 (Nat.le_of_ble_eq_true rfl) _ o_main rfl dX9_open_1 ?_
  refine r_iload_n X (x := x1) dX9_open_4 rfl ?_
  obtain ⟨u5, h5, hf⟩ := bdS hf
  refine r_callV0 X [.int x1] [] (K1_hasValve h5) lkX9_128 clsX1 rfl _ (o_lay (0 : Fin 2)) (by decide) (Nat.le_of_ble_eq_true rfl) rfl rfl (Nat.le_of_ble_eq_true rfl) rfl rfl (Nat.zero_le _) (Nat.zero_le _) dX9_open_5 ?_
  refine r_if_ne X 19 dX9_open_8 rfl (fun c8 => ?_) (fun c8 => ?_)
  · replace hf := ifF hf c8
    refine r_aload_n X (x := k.b + (0)) dX9_open_19 rfl ?_
    refine r_getfield X (v := .ref (k.b + (45 + 12 * (TP_pr tp).val))) clsX9 flX9_73 (Nat.le_of_ble_eq_true rfl) _ o_main rfl dX9_open_20 ?_
    refine r_iload_n X (x := x1) dX9_open_23 rfl ?_
    obtain ⟨u24, h24, hf⟩ := bdS hf
    refine r_callV0 X [.int x1] [] (CT_unS (W := fun zz => wAll k T R ly rc hn rp tp ee zz) (W2 := fun zz => wAll k T R ly rc hn rp tp ee zz) (st := st) (TP_pr tp) (K5_openingBar h24)) lkX9_135 clsX5 rfl _ (o_st (TP_pr tp)) (by decide) (Nat.le_of_ble_eq_true rfl) rfl rfl (Nat.le_of_ble_eq_true rfl) rfl rfl (Nat.zero_le _) (Nat.zero_le _) dX9_open_24 ?_
    refine r_if_eq X 38 dX9_open_27 rfl (fun c27 => ?_) (fun c27 => ?_)
    · replace hf := ifT hf c27
      refine r_aload_n X (x := k.b + (0)) dX9_open_38 rfl ?_
      obtain ⟨u39, h39, hf⟩ := bdS hf
      refine r_callV0 X [] [] (K9_beginTrial h39) lkX9_139 clsX9 rfl _ o_main (by decide) (Nat.le_of_ble_eq_true rfl) rfl rfl (Nat.le_of_ble_eq_true rfl) rfl rfl (Nat.zero_le _) (Nat.zero_le _) dX9_open_39 ?_
      refine r_aload_n X (x := k.b + (0)) dX9_open_42 rfl ?_
      refine r_getfield X (v := .ref (k.b + (45 + 12 * (TP_tr tp).val))) clsX9 flX9_77 (Nat.le_of_ble_eq_true rfl) _ o_main rfl dX9_open_43 ?_
      refine r_iload_n X (x := x1) dX9_open_46 rfl ?_
      refine VW.foc (ws' := wAll k T R ly rc hn rp tp ee (updF u39 (TP_tr tp) (u39 (TP_tr tp)))) (by rw [updF_self]) ?_
      obtain ⟨u47, h47, hf⟩ := bdS hf
      refine r_callV0 X [.int x1] [] (K5_openValve h47) lkX9_142 clsX5 rfl _ (o_st1 (TP_tr tp) _) (by decide) (Nat.le_of_ble_eq_true rfl) rfl rfl (Nat.le_of_ble_eq_true rfl) rfl rfl (Nat.zero_le _) (Nat.zero_le _) dX9_open_47 ?_
      refine r_aload_n X (x := k.b + (0)) dX9_open_50 rfl ?_
      obtain ⟨u51, h51, hf⟩ := bdS hf
      refine r_callV0 X [] [] (K9_keepTrial h51) lkX9_145 clsX9 rfl _ o_main (by decide) (Nat.le_of_ble_eq_true rfl) rfl rfl (Nat.le_of_ble_eq_true rfl) rfl rfl (Nat.zero_le _) (Nat.zero_le _) dX9_open_51 ?_
      refine r_aload_n X (x := k.b + (0)) dX9_open_54 rfl ?_
      refine r_getfield X (v := .ref (k.b + (45 + 12 * (TP_pr u51).val))) clsX9 flX9_73 (Nat.le_of_ble_eq_true rfl) _ o_main rfl dX9_open_55 ?_
      refine r_iload_n X (x := x1) dX9_open_58 rfl ?_
      obtain ⟨u59, h59, hf⟩ := bdS hf
      refine r_callV0 X [.int x1] [] (CT_unS (W := fun zz => wAll k T R ly rc hn rp u51 ee zz) (W2 := fun zz => wAll k T R ly rc hn rp u51 ee zz) (st := (updF u39 (TP_tr tp) u47)) (TP_pr u51) (K5_difference h59)) lkX9_148 clsX5 rfl _ (o_st (TP_pr u51)) (by decide) (Nat.le_of_ble_eq_true rfl) rfl rfl (Nat.le_of_ble_eq_true rfl) rfl rfl (Nat.zero_le _) (Nat.zero_le _) dX9_open_59 ?_
      obtain rfl := Option.some.inj hf
      exact r_ireturn X hQ rfl rfl (Nat.le_of_ble_eq_true rfl) (Nat.le_of_ble_eq_true rfl) dX9_open_62
    · replace hf := ifF hf c27
      cases hf
  · replace hf := ifT hf c8
    cases hf
set_option maxRecDepth 100000 in
set_option maxHeartbeats 4000000 in
theorem K9_close {k : KT} {T : TT} {R : RR} {ly : Fin 2 → LL} {rc : RC} {hn : HN} {rp : RP} {tp : TP} {ee : EE} {st : Fin 12 → SS}  {x1 : Int32} {r : Int32 × (TP) × (Fin 12 → SS)} (hf : f9_close (ly (0 : Fin 2)) tp st x1 = some r) : CT k strs yX9_close cX9_close 2 (some .int) (rmD 4 0 0) 0 0 [.ref (k.b + (0)), .int x1] (wAll k T R ly rc hn rp tp ee st) (some (.int r.1)) (wAll k T R ly rc hn rp r.2.1 ee r.2.2) := by
  refine CT.of (by decide) (Nat.le_of_ble_eq_true rfl) ?_
  intro z X hQ
  show VW k z 0 0 (wAll k T R ly rc hn rp tp ee st) 0 [some (.ref (k.b + (0))), some (.int x1)] []
  unfold f9_close at hf
  refine r_aload_n X (x := k.b + (0)) dX9_close_0 rfl ?_
  refine r_getfield X (v := .ref (k.b + (4 + 17 * (0 : Fin 2).val))) clsX9 flX9_28 (Nat.le_of_ble_eq_true rfl) _ o_main rfl dX9_close_1 ?_
  refine r_iload_n X (x := x1) dX9_close_4 rfl ?_
  obtain ⟨u5, h5, hf⟩ := bdS hf
  refine r_callV0 X [.int x1] [] (K1_hasValve h5) lkX9_128 clsX1 rfl _ (o_lay (0 : Fin 2)) (by decide) (Nat.le_of_ble_eq_true rfl) rfl rfl (Nat.le_of_ble_eq_true rfl) rfl rfl (Nat.zero_le _) (Nat.zero_le _) dX9_close_5 ?_
  refine r_if_ne X 19 dX9_close_8 rfl (fun c8 => ?_) (fun c8 => ?_)
  · replace hf := ifF hf c8
    refine r_aload_n X (x := k.b + (0)) dX9_close_19 rfl ?_
    refine r_getfield X (v := .ref (k.b + (45 + 12 * (TP_pr tp).val))) clsX9 flX9_73 (Nat.le_of_ble_eq_true rfl) _ o_main rfl dX9_close_20 ?_
    refine r_iload_n X (x := x1) dX9_close_23 rfl ?_
    obtain ⟨u24, h24, hf⟩ := bdS hf
    refine r_callV0 X [.int x1] [] (CT_unS (W := fun zz => wAll k T R ly rc hn rp tp ee zz) (W2 := fun zz => wAll k T R ly rc hn rp tp ee zz) (st := st) (TP_pr tp) (K5_isOpen h24)) lkX9_151 clsX5 rfl _ (o_st (TP_pr tp)) (by decide) (Nat.le_of_ble_eq_true rfl) rfl rfl (Nat.le_of_ble_eq_true rfl) rfl rfl (Nat.zero_le _) (Nat.zero_le _) dX9_close_24 ?_
    refine r_if_ne X 38 dX9_close_27 rfl (fun c27 => ?_) (fun c27 => ?_)
    · replace hf := ifF hf c27
      refine r_aload_n X (x := k.b + (0)) dX9_close_38 rfl ?_
      obtain ⟨u39, h39, hf⟩ := bdS hf
      refine r_callV0 X [] [] (K9_beginTrial h39) lkX9_139 clsX9 rfl _ o_main (by decide) (Nat.le_of_ble_eq_true rfl) rfl rfl (Nat.le_of_ble_eq_true rfl) rfl rfl (Nat.zero_le _) (Nat.zero_le _) dX9_close_39 ?_
      refine r_aload_n X (x := k.b + (0)) dX9_close_42 rfl ?_
      refine r_getfield X (v := .ref (k.b + (45 + 12 * (TP_tr tp).val))) clsX9 flX9_77 (Nat.le_of_ble_eq_true rfl) _ o_main rfl dX9_close_43 ?_
      refine r_iload_n X (x := x1) dX9_close_46 rfl ?_
      refine VW.foc (ws' := wAll k T R ly rc hn rp tp ee (updF u39 (TP_tr tp) (u39 (TP_tr tp)))) (by rw [updF_self]) ?_
      obtain ⟨u47, h47, hf⟩ := bdS hf
      refine r_callV0 X [.int x1] [] (K5_closeValve h47) lkX9_154 clsX5 rfl _ (o_st1 (TP_tr tp) _) (by decide) (Nat.le_of_ble_eq_true rfl) rfl rfl (Nat.le_of_ble_eq_true rfl) rfl rfl (Nat.zero_le _) (Nat.zero_le _) dX9_close_47 ?_
      refine r_aload_n X (x := k.b + (0)) dX9_close_50 rfl ?_
      obtain ⟨u51, h51, hf⟩ := bdS hf
      refine r_callV0 X [] [] (K9_keepTrial h51) lkX9_145 clsX9 rfl _ o_main (by decide) (Nat.le_of_ble_eq_true rfl) rfl rfl (Nat.le_of_ble_eq_true rfl) rfl rfl (Nat.zero_le _) (Nat.zero_le _) dX9_close_51 ?_
      refine r_aload_n X (x := k.b + (0)) dX9_close_54 rfl ?_
      refine r_getfield X (v := .ref (k.b + (45 + 12 * (TP_pr u51).val))) clsX9 flX9_73 (Nat.le_of_ble_eq_true rfl) _ o_main rfl dX9_close_55 ?_
      refine r_iload_n X (x := x1) dX9_close_58 rfl ?_
      obtain ⟨u59, h59, hf⟩ := bdS hf
      refine r_callV0 X [.int x1] [] (CT_unS (W := fun zz => wAll k T R ly rc hn rp u51 ee zz) (W2 := fun zz => wAll k T R ly rc hn rp u51 ee zz) (st := (updF u39 (TP_tr tp) u47)) (TP_pr u51) (K5_difference h59)) lkX9_148 clsX5 rfl _ (o_st (TP_pr u51)) (by decide) (Nat.le_of_ble_eq_true rfl) rfl rfl (Nat.le_of_ble_eq_true rfl) rfl rfl (Nat.zero_le _) (Nat.zero_le _) dX9_close_59 ?_
      obtain rfl := Option.some.inj hf
      exact r_ireturn X hQ rfl rfl (Nat.le_of_ble_eq_true rfl) (Nat.le_of_ble_eq_true rfl) dX9_close_62
    · replace hf := ifT hf c27
      cases hf
  · replace hf := ifT hf c8
    cases hf
set_option maxRecDepth 100000 in
set_option maxHeartbeats 4000000 in
theorem K9_start {k : KT} {T : TT} {R : RR} {ly : Fin 2 → LL} {rc : RC} {hn : HN} {rp : RP} {tp : TP} {ee : EE} {st : Fin 12 → SS}  {x1 : Int32} {r : Int32 × (TP) × (Fin 12 → SS)} (hf : f9_start (ly (0 : Fin 2)) tp st x1 = some r) : CT k strs yX9_start cX9_start 2 (some .int) (rmD 4 0 0) 0 0 [.ref (k.b + (0)), .int x1] (wAll k T R ly rc hn rp tp ee st) (some (.int r.1)) (wAll k T R ly rc hn rp r.2.1 ee r.2.2) := by
  refine CT.of (by decide) (Nat.le_of_ble_eq_true rfl) ?_
  intro z X hQ
  show VW k z 0 0 (wAll k T R ly rc hn rp tp ee st) 0 [some (.ref (k.b + (0))), some (.int x1)] []
  unfold f9_start at hf
  refine r_aload_n X (x := k.b + (0)) dX9_start_0 rfl ?_
  refine r_getfield X (v := .ref (k.b + (4 + 17 * (0 : Fin 2).val))) clsX9 flX9_28 (Nat.le_of_ble_eq_true rfl) _ o_main rfl dX9_start_1 ?_
  refine r_iload_n X (x := x1) dX9_start_4 rfl ?_
  obtain ⟨u5, h5, hf⟩ := bdS hf
  refine r_callV0 X [.int x1] [] (K1_hasPump h5) lkX9_157 clsX1 rfl _ (o_lay (0 : Fin 2)) (by decide) (Nat.le_of_ble_eq_true rfl) rfl rfl (Nat.le_of_ble_eq_true rfl) rfl rfl (Nat.zero_le _) (Nat.zero_le _) dX9_start_5 ?_
  refine r_if_ne X 19 dX9_start_8 rfl (fun c8 => ?_) (fun c8 => ?_)
  · replace hf := ifF hf c8
    refine r_aload_n X (x := k.b + (0)) dX9_start_19 rfl ?_
    refine r_getfield X (v := .ref (k.b + (45 + 12 * (TP_pr tp).val))) clsX9 flX9_73 (Nat.le_of_ble_eq_true rfl) _ o_main rfl dX9_start_20 ?_
    refine r_iload_n X (x := x1) dX9_start_23 rfl ?_
    obtain ⟨u24, h24, hf⟩ := bdS hf
    refine r_callV0 X [.int x1] [] (CT_unS (W := fun zz => wAll k T R ly rc hn rp tp ee zz) (W2 := fun zz => wAll k T R ly rc hn rp tp ee zz) (st := st) (TP_pr tp) (K5_startingBar h24)) lkX9_160 clsX5 rfl _ (o_st (TP_pr tp)) (by decide) (Nat.le_of_ble_eq_true rfl) rfl rfl (Nat.le_of_ble_eq_true rfl) rfl rfl (Nat.zero_le _) (Nat.zero_le _) dX9_start_24 ?_
    refine r_if_eq X 38 dX9_start_27 rfl (fun c27 => ?_) (fun c27 => ?_)
    · replace hf := ifT hf c27
      refine r_aload_n X (x := k.b + (0)) dX9_start_38 rfl ?_
      obtain ⟨u39, h39, hf⟩ := bdS hf
      refine r_callV0 X [] [] (K9_beginTrial h39) lkX9_139 clsX9 rfl _ o_main (by decide) (Nat.le_of_ble_eq_true rfl) rfl rfl (Nat.le_of_ble_eq_true rfl) rfl rfl (Nat.zero_le _) (Nat.zero_le _) dX9_start_39 ?_
      refine r_aload_n X (x := k.b + (0)) dX9_start_42 rfl ?_
      refine r_getfield X (v := .ref (k.b + (45 + 12 * (TP_tr tp).val))) clsX9 flX9_77 (Nat.le_of_ble_eq_true rfl) _ o_main rfl dX9_start_43 ?_
      refine r_iload_n X (x := x1) dX9_start_46 rfl ?_
      refine VW.foc (ws' := wAll k T R ly rc hn rp tp ee (updF u39 (TP_tr tp) (u39 (TP_tr tp)))) (by rw [updF_self]) ?_
      obtain ⟨u47, h47, hf⟩ := bdS hf
      refine r_callV0 X [.int x1] [] (K5_startPump h47) lkX9_163 clsX5 rfl _ (o_st1 (TP_tr tp) _) (by decide) (Nat.le_of_ble_eq_true rfl) rfl rfl (Nat.le_of_ble_eq_true rfl) rfl rfl (Nat.zero_le _) (Nat.zero_le _) dX9_start_47 ?_
      refine r_aload_n X (x := k.b + (0)) dX9_start_50 rfl ?_
      obtain ⟨u51, h51, hf⟩ := bdS hf
      refine r_callV0 X [] [] (K9_keepTrial h51) lkX9_145 clsX9 rfl _ o_main (by decide) (Nat.le_of_ble_eq_true rfl) rfl rfl (Nat.le_of_ble_eq_true rfl) rfl rfl (Nat.zero_le _) (Nat.zero_le _) dX9_start_51 ?_
      refine r_aload_n X (x := k.b + (0)) dX9_start_54 rfl ?_
      refine r_getfield X (v := .ref (k.b + (45 + 12 * (TP_pr u51).val))) clsX9 flX9_73 (Nat.le_of_ble_eq_true rfl) _ o_main rfl dX9_start_55 ?_
      refine r_getfield X (v := .ref (k.b + (45 + 12 * (TP_pr u51).val + 2))) clsX5 flX9_166 (Nat.le_of_ble_eq_true rfl) _ (o_st (TP_pr u51)) rfl dX9_start_58 ?_
      refine r_aload_n X (x := k.b + (0)) dX9_start_61 rfl ?_
      refine r_getfield X (v := .ref (k.b + (4 + 17 * (0 : Fin 2).val))) clsX9 flX9_28 (Nat.le_of_ble_eq_true rfl) _ o_main rfl dX9_start_62 ?_
      refine r_getfield X (v := .ref (k.b + (4 + 17 * (0 : Fin 2).val + 4))) clsX1 flX9_170 (Nat.le_of_ble_eq_true rfl) _ (o_lay (0 : Fin 2)) rfl dX9_start_65 ?_
      refine r_iload_n X (x := x1) dX9_start_68 rfl ?_
      obtain ⟨g69, hf⟩ := gdS hf
      refine r_iaload X (f := LL_pumpChamber (ly (0 : Fin 2))) _ (a_lay_pumpChamber (0 : Fin 2)) g69 dX9_start_69 ?_
      obtain ⟨g70, hf⟩ := gdS hf
      refine r_iaload X (f := SS_pressure ((updF u39 (TP_tr tp) u47) (TP_pr u51))) _ (a_st_pressure (TP_pr u51)) g70 dX9_start_70 ?_
      obtain rfl := Option.some.inj hf
      exact r_ireturn X hQ rfl rfl (Nat.le_of_ble_eq_true rfl) (Nat.le_of_ble_eq_true rfl) dX9_start_71
    · replace hf := ifF hf c27
      cases hf
  · replace hf := ifT hf c8
    cases hf
set_option maxRecDepth 100000 in
set_option maxHeartbeats 4000000 in
theorem K9_stop {k : KT} {T : TT} {R : RR} {ly : Fin 2 → LL} {rc : RC} {hn : HN} {rp : RP} {tp : TP} {ee : EE} {st : Fin 12 → SS}  {x1 : Int32} {r : Int32 × (TP) × (Fin 12 → SS)} (hf : f9_stop (ly (0 : Fin 2)) tp st x1 = some r) : CT k strs yX9_stop cX9_stop 2 (some .int) (rmD 4 0 0) 0 0 [.ref (k.b + (0)), .int x1] (wAll k T R ly rc hn rp tp ee st) (some (.int r.1)) (wAll k T R ly rc hn rp r.2.1 ee r.2.2) := by
  refine CT.of (by decide) (Nat.le_of_ble_eq_true rfl) ?_
  intro z X hQ
  show VW k z 0 0 (wAll k T R ly rc hn rp tp ee st) 0 [some (.ref (k.b + (0))), some (.int x1)] []
  unfold f9_stop at hf
  refine r_aload_n X (x := k.b + (0)) dX9_stop_0 rfl ?_
  refine r_getfield X (v := .ref (k.b + (4 + 17 * (0 : Fin 2).val))) clsX9 flX9_28 (Nat.le_of_ble_eq_true rfl) _ o_main rfl dX9_stop_1 ?_
  refine r_iload_n X (x := x1) dX9_stop_4 rfl ?_
  obtain ⟨u5, h5, hf⟩ := bdS hf
  refine r_callV0 X [.int x1] [] (K1_hasPump h5) lkX9_157 clsX1 rfl _ (o_lay (0 : Fin 2)) (by decide) (Nat.le_of_ble_eq_true rfl) rfl rfl (Nat.le_of_ble_eq_true rfl) rfl rfl (Nat.zero_le _) (Nat.zero_le _) dX9_stop_5 ?_
  refine r_if_ne X 19 dX9_stop_8 rfl (fun c8 => ?_) (fun c8 => ?_)
  · replace hf := ifF hf c8
    refine r_aload_n X (x := k.b + (0)) dX9_stop_19 rfl ?_
    refine r_getfield X (v := .ref (k.b + (45 + 12 * (TP_pr tp).val))) clsX9 flX9_73 (Nat.le_of_ble_eq_true rfl) _ o_main rfl dX9_stop_20 ?_
    refine r_iload_n X (x := x1) dX9_stop_23 rfl ?_
    obtain ⟨u24, h24, hf⟩ := bdS hf
    refine r_callV0 X [.int x1] [] (CT_unS (W := fun zz => wAll k T R ly rc hn rp tp ee zz) (W2 := fun zz => wAll k T R ly rc hn rp tp ee zz) (st := st) (TP_pr tp) (K5_isRunning h24)) lkX9_173 clsX5 rfl _ (o_st (TP_pr tp)) (by decide) (Nat.le_of_ble_eq_true rfl) rfl rfl (Nat.le_of_ble_eq_true rfl) rfl rfl (Nat.zero_le _) (Nat.zero_le _) dX9_stop_24 ?_
    refine r_if_ne X 38 dX9_stop_27 rfl (fun c27 => ?_) (fun c27 => ?_)
    · replace hf := ifF hf c27
      refine r_aload_n X (x := k.b + (0)) dX9_stop_38 rfl ?_
      obtain ⟨u39, h39, hf⟩ := bdS hf
      refine r_callV0 X [] [] (K9_beginTrial h39) lkX9_139 clsX9 rfl _ o_main (by decide) (Nat.le_of_ble_eq_true rfl) rfl rfl (Nat.le_of_ble_eq_true rfl) rfl rfl (Nat.zero_le _) (Nat.zero_le _) dX9_stop_39 ?_
      refine r_aload_n X (x := k.b + (0)) dX9_stop_42 rfl ?_
      refine r_getfield X (v := .ref (k.b + (45 + 12 * (TP_tr tp).val))) clsX9 flX9_77 (Nat.le_of_ble_eq_true rfl) _ o_main rfl dX9_stop_43 ?_
      refine r_iload_n X (x := x1) dX9_stop_46 rfl ?_
      refine VW.foc (ws' := wAll k T R ly rc hn rp tp ee (updF u39 (TP_tr tp) (u39 (TP_tr tp)))) (by rw [updF_self]) ?_
      obtain ⟨u47, h47, hf⟩ := bdS hf
      refine r_callV0 X [.int x1] [] (K5_stopPump h47) lkX9_176 clsX5 rfl _ (o_st1 (TP_tr tp) _) (by decide) (Nat.le_of_ble_eq_true rfl) rfl rfl (Nat.le_of_ble_eq_true rfl) rfl rfl (Nat.zero_le _) (Nat.zero_le _) dX9_stop_47 ?_
      refine r_aload_n X (x := k.b + (0)) dX9_stop_50 rfl ?_
      obtain ⟨u51, h51, hf⟩ := bdS hf
      refine r_callV0 X [] [] (K9_keepTrial h51) lkX9_145 clsX9 rfl _ o_main (by decide) (Nat.le_of_ble_eq_true rfl) rfl rfl (Nat.le_of_ble_eq_true rfl) rfl rfl (Nat.zero_le _) (Nat.zero_le _) dX9_stop_51 ?_
      refine r_aload_n X (x := k.b + (0)) dX9_stop_54 rfl ?_
      refine r_getfield X (v := .ref (k.b + (45 + 12 * (TP_pr u51).val))) clsX9 flX9_73 (Nat.le_of_ble_eq_true rfl) _ o_main rfl dX9_stop_55 ?_
      refine r_getfield X (v := .ref (k.b + (45 + 12 * (TP_pr u51).val + 2))) clsX5 flX9_166 (Nat.le_of_ble_eq_true rfl) _ (o_st (TP_pr u51)) rfl dX9_stop_58 ?_
      refine r_aload_n X (x := k.b + (0)) dX9_stop_61 rfl ?_
      refine r_getfield X (v := .ref (k.b + (4 + 17 * (0 : Fin 2).val))) clsX9 flX9_28 (Nat.le_of_ble_eq_true rfl) _ o_main rfl dX9_stop_62 ?_
      refine r_getfield X (v := .ref (k.b + (4 + 17 * (0 : Fin 2).val + 4))) clsX1 flX9_170 (Nat.le_of_ble_eq_true rfl) _ (o_lay (0 : Fin 2)) rfl dX9_stop_65 ?_
      refine r_iload_n X (x := x1) dX9_stop_68 rfl ?_
      obtain ⟨g69, hf⟩ := gdS hf
      refine r_iaload X (f := LL_pumpChamber (ly (0 : Fin 2))) _ (a_lay_pumpChamber (0 : Fin 2)) g69 dX9_stop_69 ?_
      obtain ⟨g70, hf⟩ := gdS hf
      refine r_iaload X (f := SS_pressure ((updF u39 (TP_tr tp) u47) (TP_pr u51))) _ (a_st_pressure (TP_pr u51)) g70 dX9_stop_70 ?_
      obtain rfl := Option.some.inj hf
      exact r_ireturn X hQ rfl rfl (Nat.le_of_ble_eq_true rfl) (Nat.le_of_ble_eq_true rfl) dX9_stop_71
    · replace hf := ifT hf c27
      cases hf
  · replace hf := ifT hf c8
    cases hf
set_option maxRecDepth 100000 in
set_option maxHeartbeats 4000000 in
theorem K9_isTicks {k : KT} {T : TT} {R : RR} {ly : Fin 2 → LL} {rc : RC} {hn : HN} {rp : RP} {tp : TP} {ee : EE} {st : Fin 12 → SS}  {x0 : Int32} {r : Int32} (hf : f9_isTicks   x0 = some r) : CT k strs yX9_isTicks cX9_isTicks 1 (some .boolean) (rmD 0 0 0) 0 0 [.int x0] (wAll k T R ly rc hn rp tp ee st) (some (.int r)) (wAll k T R ly rc hn rp tp ee st) := by
  refine CT.of (by decide) (Nat.le_of_ble_eq_true rfl) ?_
  intro z X hQ
  show VW k z 0 0 (wAll k T R ly rc hn rp tp ee st) 0 [some (.int x0)] []
  unfold f9_isTicks at hf
  refine r_iload_n X (x := x0) dX9_isTicks_0 rfl ?_
  refine r_iconst X (v := 1) dX9_isTicks_1 rfl ?_
  refine r_icmp_lt X 16 dX9_isTicks_2 rfl (fun c2 => ?_) (fun c2 => ?_)
  · replace hf := ifT hf c2
    refine r_iconst X (v := 0) dX9_isTicks_16 rfl ?_
    obtain rfl := Option.some.inj hf
    exact r_zreturn X hQ rfl rfl (Nat.le_of_ble_eq_true rfl) (Nat.le_of_ble_eq_true rfl) rfl dX9_isTicks_17
  · replace hf := ifF hf c2
    refine r_iload_n X (x := x0) dX9_isTicks_5 rfl ?_
    refine r_sipush X (v := 999) dX9_isTicks_6 rfl ?_
    refine r_icmp_gt X 16 dX9_isTicks_9 rfl (fun c9 => ?_) (fun c9 => ?_)
    · replace hf := ifT hf c9
      refine r_iconst X (v := 0) dX9_isTicks_16 rfl ?_
      obtain rfl := Option.some.inj hf
      exact r_zreturn X hQ rfl rfl (Nat.le_of_ble_eq_true rfl) (Nat.le_of_ble_eq_true rfl) rfl dX9_isTicks_17
    · replace hf := ifF hf c9
      refine r_iconst X (v := 1) dX9_isTicks_12 rfl ?_
      refine r_goto X 17 dX9_isTicks_13 rfl ?_
      obtain rfl := Option.some.inj hf
      exact r_zreturn X hQ rfl rfl (Nat.le_of_ble_eq_true rfl) (Nat.le_of_ble_eq_true rfl) rfl dX9_isTicks_17
set_option maxRecDepth 100000 in
set_option maxHeartbeats 4000000 in
theorem K9_pass {k : KT} {T : TT} {R : RR} {ly : Fin 2 → LL} {rc : RC} {hn : HN} {rp : RP} {tp : TP} {ee : EE} {st : Fin 12 → SS}  {x1 : Int32} {r : Int32 × (TP) × (Fin 12 → SS)} (hf : f9_pass (ly (0 : Fin 2)) tp st x1 = some r) : CT k strs yX9_pass cX9_pass 3 (some .int) (rmD 5 0 0) 0 0 [.ref (k.b + (0)), .int x1] (wAll k T R ly rc hn rp tp ee st) (some (.int r.1)) (wAll k T R ly rc hn rp r.2.1 ee r.2.2) := by
  refine CT.of (by decide) (Nat.le_of_ble_eq_true rfl) ?_
  intro z X hQ
  show VW k z 0 0 (wAll k T R ly rc hn rp tp ee st) 0 [some (.ref (k.b + (0))), some (.int x1), none] []
  unfold f9_pass at hf
  refine r_iload_n X (x := x1) dX9_pass_0 rfl ?_
  obtain ⟨u1, h1, hf⟩ := bdS hf
  refine r_callS0 X [.int x1] [] (K9_isTicks h1) lkX9_179 (by decide) (Nat.le_of_ble_eq_true rfl) rfl rfl (Nat.le_of_ble_eq_true rfl) rfl rfl (Nat.zero_le _) (Nat.zero_le _) dX9_pass_1 ?_
  refine r_if_ne X 15 dX9_pass_4 rfl (fun c4 => ?_) (fun c4 => ?_)
  · replace hf := ifF hf c4
    refine r_aload_n X (x := k.b + (0)) dX9_pass_15 rfl ?_
    obtain ⟨u16, h16, hf⟩ := bdS hf
    refine r_callV0 X [] [] (K9_beginTrial h16) lkX9_139 clsX9 rfl _ o_main (by decide) (Nat.le_of_ble_eq_true rfl) rfl rfl (Nat.le_of_ble_eq_true rfl) rfl rfl (Nat.zero_le _) (Nat.zero_le _) dX9_pass_16 ?_
    refine r_aload_n X (x := k.b + (0)) dX9_pass_19 rfl ?_
    refine r_getfield X (v := .ref (k.b + (45 + 12 * (TP_tr tp).val))) clsX9 flX9_77 (Nat.le_of_ble_eq_true rfl) _ o_main rfl dX9_pass_20 ?_
    refine r_iload_n X (x := x1) dX9_pass_23 rfl ?_
    refine VW.foc (ws' := wAll k T R ly rc hn rp tp ee (updF u16 (TP_tr tp) (u16 (TP_tr tp)))) (by rw [updF_self]) ?_
    obtain ⟨u24, h24, hf⟩ := bdS hf
    refine r_callV0 X [.int x1] [] (K5_passTicks h24) lkX9_182 clsX5 rfl _ (o_st1 (TP_tr tp) _) (by decide) (Nat.le_of_ble_eq_true rfl) rfl rfl (Nat.le_of_ble_eq_true rfl) rfl rfl (Nat.zero_le _) (Nat.zero_le _) dX9_pass_24 ?_
    refine r_istore_n X [some (.ref (k.b + (0))), some (.int x1), some (.int u24.1)] dX9_pass_27 (Nat.le_of_ble_eq_true rfl) rfl ?_
    refine r_aload_n X (x := k.b + (0)) dX9_pass_28 rfl ?_
    obtain ⟨u29, h29, hf⟩ := bdS hf
    refine r_callV0 X [] [] (K9_keepTrial h29) lkX9_145 clsX9 rfl _ o_main (by decide) (Nat.le_of_ble_eq_true rfl) rfl rfl (Nat.le_of_ble_eq_true rfl) rfl rfl (Nat.zero_le _) (Nat.zero_le _) dX9_pass_29 ?_
    refine r_iload_n X (x := u24.1) dX9_pass_32 rfl ?_
    obtain rfl := Option.some.inj hf
    exact r_ireturn X hQ rfl rfl (Nat.le_of_ble_eq_true rfl) (Nat.le_of_ble_eq_true rfl) dX9_pass_33
  · replace hf := ifT hf c4
    cases hf
set_option maxRecDepth 100000 in
set_option maxHeartbeats 4000000 in
theorem K9_isPressure {k : KT} {T : TT} {R : RR} {ly : Fin 2 → LL} {rc : RC} {hn : HN} {rp : RP} {tp : TP} {ee : EE} {st : Fin 12 → SS}  {x0 : Int32} {r : Int32} (hf : f9_isPressure   x0 = some r) : CT k strs yX9_isPressure cX9_isPressure 1 (some .boolean) (rmD 0 0 0) 0 0 [.int x0] (wAll k T R ly rc hn rp tp ee st) (some (.int r)) (wAll k T R ly rc hn rp tp ee st) := by
  refine CT.of (by decide) (Nat.le_of_ble_eq_true rfl) ?_
  intro z X hQ
  show VW k z 0 0 (wAll k T R ly rc hn rp tp ee st) 0 [some (.int x0)] []
  unfold f9_isPressure at hf
  refine r_iload_n X (x := x0) dX9_isPressure_0 rfl ?_
  refine r_if_lt X 15 dX9_isPressure_1 rfl (fun c1 => ?_) (fun c1 => ?_)
  · replace hf := ifT hf c1
    refine r_iconst X (v := 0) dX9_isPressure_15 rfl ?_
    obtain rfl := Option.some.inj hf
    exact r_zreturn X hQ rfl rfl (Nat.le_of_ble_eq_true rfl) (Nat.le_of_ble_eq_true rfl) rfl dX9_isPressure_16
  · replace hf := ifF hf c1
    refine r_iload_n X (x := x0) dX9_isPressure_4 rfl ?_
    refine r_ldcw X (v := 1000000) coX9_389 dX9_isPressure_5 ?_
    refine r_icmp_gt X 15 dX9_isPressure_8 rfl (fun c8 => ?_) (fun c8 => ?_)
    · replace hf := ifT hf c8
      refine r_iconst X (v := 0) dX9_isPressure_15 rfl ?_
      obtain rfl := Option.some.inj hf
      exact r_zreturn X hQ rfl rfl (Nat.le_of_ble_eq_true rfl) (Nat.le_of_ble_eq_true rfl) rfl dX9_isPressure_16
    · replace hf := ifF hf c8
      refine r_iconst X (v := 1) dX9_isPressure_11 rfl ?_
      refine r_goto X 16 dX9_isPressure_12 rfl ?_
      obtain rfl := Option.some.inj hf
      exact r_zreturn X hQ rfl rfl (Nat.le_of_ble_eq_true rfl) (Nat.le_of_ble_eq_true rfl) rfl dX9_isPressure_16
set_option maxRecDepth 100000 in
set_option maxHeartbeats 4000000 in
theorem K9_passUntil {k : KT} {T : TT} {R : RR} {ly : Fin 2 → LL} {rc : RC} {hn : HN} {rp : RP} {tp : TP} {ee : EE} {st : Fin 12 → SS}  {x1 : Int32} {x2 : Int32} {r : Int32 × (TP) × (Fin 12 → SS)} (hf : f9_passUntil (ly (0 : Fin 2)) tp st x1 x2 = some r) : CT k strs yX9_passUntil cX9_passUntil 4 (some .int) (rmD 5 0 0) 0 0 [.ref (k.b + (0)), .int x1, .int x2] (wAll k T R ly rc hn rp tp ee st) (some (.int r.1)) (wAll k T R ly rc hn rp r.2.1 ee r.2.2) := by
  refine CT.of (by decide) (Nat.le_of_ble_eq_true rfl) ?_
  intro z X hQ
  show VW k z 0 0 (wAll k T R ly rc hn rp tp ee st) 0 [some (.ref (k.b + (0))), some (.int x1), some (.int x2), none] []
  unfold f9_passUntil at hf
  refine r_aload_n X (x := k.b + (0)) dX9_passUntil_0 rfl ?_
  refine r_getfield X (v := .ref (k.b + (4 + 17 * (0 : Fin 2).val))) clsX9 flX9_28 (Nat.le_of_ble_eq_true rfl) _ o_main rfl dX9_passUntil_1 ?_
  refine r_iload_n X (x := x1) dX9_passUntil_4 rfl ?_
  obtain ⟨u5, h5, hf⟩ := bdS hf
  refine r_callV0 X [.int x1] [] (K1_hasChamber h5) lkX9_185 clsX1 rfl _ (o_lay (0 : Fin 2)) (by decide) (Nat.le_of_ble_eq_true rfl) rfl rfl (Nat.le_of_ble_eq_true rfl) rfl rfl (Nat.zero_le _) (Nat.zero_le _) dX9_passUntil_5 ?_
  refine r_if_ne X 19 dX9_passUntil_8 rfl (fun c8 => ?_) (fun c8 => ?_)
  · replace hf := ifF hf c8
    refine r_iload_n X (x := x2) dX9_passUntil_19 rfl ?_
    obtain ⟨u20, h20, hf⟩ := bdS hf
    refine r_callS0 X [.int x2] [] (K9_isPressure h20) lkX9_188 (by decide) (Nat.le_of_ble_eq_true rfl) rfl rfl (Nat.le_of_ble_eq_true rfl) rfl rfl (Nat.zero_le _) (Nat.zero_le _) dX9_passUntil_20 ?_
    refine r_if_ne X 34 dX9_passUntil_23 rfl (fun c23 => ?_) (fun c23 => ?_)
    · replace hf := ifF hf c23
      refine r_aload_n X (x := k.b + (0)) dX9_passUntil_34 rfl ?_
      obtain ⟨u35, h35, hf⟩ := bdS hf
      refine r_callV0 X [] [] (K9_beginTrial h35) lkX9_139 clsX9 rfl _ o_main (by decide) (Nat.le_of_ble_eq_true rfl) rfl rfl (Nat.le_of_ble_eq_true rfl) rfl rfl (Nat.zero_le _) (Nat.zero_le _) dX9_passUntil_35 ?_
      refine r_aload_n X (x := k.b + (0)) dX9_passUntil_38 rfl ?_
      refine r_getfield X (v := .ref (k.b + (45 + 12 * (TP_tr tp).val))) clsX9 flX9_77 (Nat.le_of_ble_eq_true rfl) _ o_main rfl dX9_passUntil_39 ?_
      refine r_iload_n X (x := x1) dX9_passUntil_42 rfl ?_
      refine r_iload_n X (x := x2) dX9_passUntil_43 rfl ?_
      refine VW.foc (ws' := wAll k T R ly rc hn rp tp ee (updF u35 (TP_tr tp) (u35 (TP_tr tp)))) (by rw [updF_self]) ?_
      obtain ⟨u44, h44, hf⟩ := bdS hf
      refine r_callV0 X [.int x1, .int x2] [] (K5_passUntilAtMost h44) lkX9_191 clsX5 rfl _ (o_st1 (TP_tr tp) _) (by decide) (Nat.le_of_ble_eq_true rfl) rfl rfl (Nat.le_of_ble_eq_true rfl) rfl rfl (Nat.zero_le _) (Nat.zero_le _) dX9_passUntil_44 ?_
      refine r_istore_n X [some (.ref (k.b + (0))), some (.int x1), some (.int x2), some (.int u44.1)] dX9_passUntil_47 (Nat.le_of_ble_eq_true rfl) rfl ?_
      refine r_iload_n X (x := u44.1) dX9_passUntil_48 rfl ?_
      refine r_iconst X (v := (-1)) dX9_passUntil_49 rfl ?_
      refine r_icmp_ne X 61 dX9_passUntil_50 rfl (fun c50 => ?_) (fun c50 => ?_)
      · replace hf := ifF hf c50
        refine r_aload_n X (x := k.b + (0)) dX9_passUntil_61 rfl ?_
        obtain ⟨u62, h62, hf⟩ := bdS hf
        refine r_callV0 X [] [] (K9_keepTrial h62) lkX9_145 clsX9 rfl _ o_main (by decide) (Nat.le_of_ble_eq_true rfl) rfl rfl (Nat.le_of_ble_eq_true rfl) rfl rfl (Nat.zero_le _) (Nat.zero_le _) dX9_passUntil_62 ?_
        refine r_iload_n X (x := u44.1) dX9_passUntil_65 rfl ?_
        obtain rfl := Option.some.inj hf
        exact r_ireturn X hQ rfl rfl (Nat.le_of_ble_eq_true rfl) (Nat.le_of_ble_eq_true rfl) dX9_passUntil_66
      · replace hf := ifT hf c50
        cases hf
    · replace hf := ifT hf c23
      cases hf
  · replace hf := ifT hf c8
    cases hf
set_option maxRecDepth 100000 in
set_option maxHeartbeats 4000000 in
theorem K9_changeLeak {k : KT} {T : TT} {R : RR} {ly : Fin 2 → LL} {rc : RC} {hn : HN} {rp : RP} {tp : TP} {ee : EE} {st : Fin 12 → SS}  {x1 : Int32} {x2 : Int32} {r : Int32 × (TP) × (Fin 12 → SS)} (hf : f9_changeLeak (ly (0 : Fin 2)) tp st x1 x2 = some r) : CT k strs yX9_changeLeak cX9_changeLeak 4 (some .int) (rmD 4 0 0) 0 0 [.ref (k.b + (0)), .int x1, .int x2] (wAll k T R ly rc hn rp tp ee st) (some (.int r.1)) (wAll k T R ly rc hn rp r.2.1 ee r.2.2) := by
  refine CT.of (by decide) (Nat.le_of_ble_eq_true rfl) ?_
  intro z X hQ
  show VW k z 0 0 (wAll k T R ly rc hn rp tp ee st) 0 [some (.ref (k.b + (0))), some (.int x1), some (.int x2), none] []
  unfold f9_changeLeak at hf
  refine r_aload_n X (x := k.b + (0)) dX9_changeLeak_0 rfl ?_
  refine r_getfield X (v := .ref (k.b + (45 + 12 * (TP_pr tp).val))) clsX9 flX9_73 (Nat.le_of_ble_eq_true rfl) _ o_main rfl dX9_changeLeak_1 ?_
  refine r_getfield X (v := .ref (k.b + (45 + 12 * (TP_pr tp).val + 8))) clsX5 flX9_300 (Nat.le_of_ble_eq_true rfl) _ (o_st (TP_pr tp)) rfl dX9_changeLeak_4 ?_
  refine r_iload_n X (x := x1) dX9_changeLeak_7 rfl ?_
  obtain ⟨g8, hf⟩ := gdS hf
  refine r_iaload X (f := SS_leak (st (TP_pr tp))) _ (a_st_leak (TP_pr tp)) g8 dX9_changeLeak_8 ?_
  refine r_istore_n X [some (.ref (k.b + (0))), some (.int x1), some (.int x2), some (.int ((SS_leak (st (TP_pr tp))) (ix x1)))] dX9_changeLeak_9 (Nat.le_of_ble_eq_true rfl) rfl ?_
  refine r_aload_n X (x := k.b + (0)) dX9_changeLeak_10 rfl ?_
  obtain ⟨u11, h11, hf⟩ := bdS hf
  refine r_callV0 X [] [] (K9_beginTrial h11) lkX9_139 clsX9 rfl _ o_main (by decide) (Nat.le_of_ble_eq_true rfl) rfl rfl (Nat.le_of_ble_eq_true rfl) rfl rfl (Nat.zero_le _) (Nat.zero_le _) dX9_changeLeak_11 ?_
  refine r_aload_n X (x := k.b + (0)) dX9_changeLeak_14 rfl ?_
  refine r_getfield X (v := .ref (k.b + (45 + 12 * (TP_tr tp).val))) clsX9 flX9_77 (Nat.le_of_ble_eq_true rfl) _ o_main rfl dX9_changeLeak_15 ?_
  refine r_iload_n X (x := x1) dX9_changeLeak_18 rfl ?_
  refine r_iload_n X (x := x2) dX9_changeLeak_19 rfl ?_
  refine VW.foc (ws' := wAll k T R ly rc hn rp tp ee (updF u11 (TP_tr tp) (u11 (TP_tr tp)))) (by rw [updF_self]) ?_
  obtain ⟨u20, h20, hf⟩ := bdS hf
  refine r_callV0 X [.int x1, .int x2] [] (K5_putLeak h20) lkX9_385 clsX5 rfl _ (o_st1 (TP_tr tp) _) (by decide) (Nat.le_of_ble_eq_true rfl) rfl rfl (Nat.le_of_ble_eq_true rfl) rfl rfl (Nat.zero_le _) (Nat.zero_le _) dX9_changeLeak_20 ?_
  refine r_aload_n X (x := k.b + (0)) dX9_changeLeak_23 rfl ?_
  obtain ⟨u24, h24, hf⟩ := bdS hf
  refine r_callV0 X [] [] (K9_keepTrial h24) lkX9_145 clsX9 rfl _ o_main (by decide) (Nat.le_of_ble_eq_true rfl) rfl rfl (Nat.le_of_ble_eq_true rfl) rfl rfl (Nat.zero_le _) (Nat.zero_le _) dX9_changeLeak_24 ?_
  refine r_iload_n X (x := (SS_leak (st (TP_pr tp))) (ix x1)) dX9_changeLeak_27 rfl ?_
  obtain rfl := Option.some.inj hf
  exact r_ireturn X hQ rfl rfl (Nat.le_of_ble_eq_true rfl) (Nat.le_of_ble_eq_true rfl) dX9_changeLeak_28
set_option maxRecDepth 100000 in
set_option maxHeartbeats 4000000 in
theorem K9_seal {k : KT} {T : TT} {R : RR} {ly : Fin 2 → LL} {rc : RC} {hn : HN} {rp : RP} {tp : TP} {ee : EE} {st : Fin 12 → SS}  {x1 : Int32} {r : Int32 × (TP) × (Fin 12 → SS)} (hf : f9_seal (ly (0 : Fin 2)) tp st x1 = some r) : CT k strs yX9_seal cX9_seal 2 (some .int) (rmD 5 0 0) 0 0 [.ref (k.b + (0)), .int x1] (wAll k T R ly rc hn rp tp ee st) (some (.int r.1)) (wAll k T R ly rc hn rp r.2.1 ee r.2.2) := by
  refine CT.of (by decide) (Nat.le_of_ble_eq_true rfl) ?_
  intro z X hQ
  show VW k z 0 0 (wAll k T R ly rc hn rp tp ee st) 0 [some (.ref (k.b + (0))), some (.int x1)] []
  unfold f9_seal at hf
  refine r_aload_n X (x := k.b + (0)) dX9_seal_0 rfl ?_
  refine r_getfield X (v := .ref (k.b + (4 + 17 * (0 : Fin 2).val))) clsX9 flX9_28 (Nat.le_of_ble_eq_true rfl) _ o_main rfl dX9_seal_1 ?_
  refine r_iload_n X (x := x1) dX9_seal_4 rfl ?_
  obtain ⟨u5, h5, hf⟩ := bdS hf
  refine r_callV0 X [.int x1] [] (K1_hasFlange h5) lkX9_195 clsX1 rfl _ (o_lay (0 : Fin 2)) (by decide) (Nat.le_of_ble_eq_true rfl) rfl rfl (Nat.le_of_ble_eq_true rfl) rfl rfl (Nat.zero_le _) (Nat.zero_le _) dX9_seal_5 ?_
  refine r_if_ne X 19 dX9_seal_8 rfl (fun c8 => ?_) (fun c8 => ?_)
  · replace hf := ifF hf c8
    refine r_aload_n X (x := k.b + (0)) dX9_seal_19 rfl ?_
    refine r_iload_n X (x := x1) dX9_seal_20 rfl ?_
    refine r_iconst X (v := 0) dX9_seal_21 rfl ?_
    obtain ⟨u22, h22, hf⟩ := bdS hf
    refine r_callV0 X [.int x1, .int 0] [] (K9_changeLeak h22) lkX9_198 clsX9 rfl _ o_main (by decide) (Nat.le_of_ble_eq_true rfl) rfl rfl (Nat.le_of_ble_eq_true rfl) rfl rfl (Nat.zero_le _) (Nat.zero_le _) dX9_seal_22 ?_
    obtain rfl := Option.some.inj hf
    exact r_ireturn X hQ rfl rfl (Nat.le_of_ble_eq_true rfl) (Nat.le_of_ble_eq_true rfl) dX9_seal_25
  · replace hf := ifT hf c8
    cases hf
set_option maxRecDepth 100000 in
set_option maxHeartbeats 4000000 in
theorem K9_setLeak {k : KT} {T : TT} {R : RR} {ly : Fin 2 → LL} {rc : RC} {hn : HN} {rp : RP} {tp : TP} {ee : EE} {st : Fin 12 → SS}  {x1 : Int32} {x2 : Int32} {r : Int32 × (TP) × (Fin 12 → SS)} (hf : f9_setLeak (ly (0 : Fin 2)) tp st x1 x2 = some r) : CT k strs yX9_setLeak cX9_setLeak 3 (some .int) (rmD 5 0 0) 0 0 [.ref (k.b + (0)), .int x1, .int x2] (wAll k T R ly rc hn rp tp ee st) (some (.int r.1)) (wAll k T R ly rc hn rp r.2.1 ee r.2.2) := by
  refine CT.of (by decide) (Nat.le_of_ble_eq_true rfl) ?_
  intro z X hQ
  show VW k z 0 0 (wAll k T R ly rc hn rp tp ee st) 0 [some (.ref (k.b + (0))), some (.int x1), some (.int x2)] []
  unfold f9_setLeak at hf
  refine r_aload_n X (x := k.b + (0)) dX9_setLeak_0 rfl ?_
  refine r_getfield X (v := .ref (k.b + (4 + 17 * (0 : Fin 2).val))) clsX9 flX9_28 (Nat.le_of_ble_eq_true rfl) _ o_main rfl dX9_setLeak_1 ?_
  refine r_iload_n X (x := x1) dX9_setLeak_4 rfl ?_
  obtain ⟨u5, h5, hf⟩ := bdS hf
  refine r_callV0 X [.int x1] [] (K1_hasFlange h5) lkX9_195 clsX1 rfl _ (o_lay (0 : Fin 2)) (by decide) (Nat.le_of_ble_eq_true rfl) rfl rfl (Nat.le_of_ble_eq_true rfl) rfl rfl (Nat.zero_le _) (Nat.zero_le _) dX9_setLeak_5 ?_
  refine r_if_ne X 19 dX9_setLeak_8 rfl (fun c8 => ?_) (fun c8 => ?_)
  · replace hf := ifF hf c8
    refine r_iload_n X (x := x2) dX9_setLeak_19 rfl ?_
    refine r_if_lt X 30 dX9_setLeak_20 rfl (fun c20 => ?_) (fun c20 => ?_)
    · replace hf := ifT hf c20
      cases hf
    · replace hf := ifF hf c20
      refine r_iload_n X (x := x2) dX9_setLeak_23 rfl ?_
      refine r_sipush X (v := 9999) dX9_setLeak_24 rfl ?_
      refine r_icmp_le X 38 dX9_setLeak_27 rfl (fun c27 => ?_) (fun c27 => ?_)
      · replace hf := ifT hf c27
        refine r_aload_n X (x := k.b + (0)) dX9_setLeak_38 rfl ?_
        refine r_iload_n X (x := x1) dX9_setLeak_39 rfl ?_
        refine r_iload_n X (x := x2) dX9_setLeak_40 rfl ?_
        obtain ⟨u41, h41, hf⟩ := bdS hf
        refine r_callV0 X [.int x1, .int x2] [] (K9_changeLeak h41) lkX9_198 clsX9 rfl _ o_main (by decide) (Nat.le_of_ble_eq_true rfl) rfl rfl (Nat.le_of_ble_eq_true rfl) rfl rfl (Nat.zero_le _) (Nat.zero_le _) dX9_setLeak_41 ?_
        obtain rfl := Option.some.inj hf
        exact r_ireturn X hQ rfl rfl (Nat.le_of_ble_eq_true rfl) (Nat.le_of_ble_eq_true rfl) dX9_setLeak_44
      · replace hf := ifF hf c27
        cases hf
  · replace hf := ifT hf c8
    cases hf
set_option maxRecDepth 100000 in
set_option maxHeartbeats 4000000 in
theorem K9_setRule {k : KT} {T : TT} {R : RR} {ly : Fin 2 → LL} {rc : RC} {hn : HN} {rp : RP} {tp : TP} {ee : EE} {st : Fin 12 → SS}  {x1 : Int32} {x2 : Int32} {r : Int32 × (TP) × (Fin 12 → SS)} (hf : f9_setRule (ly (0 : Fin 2)) tp st x1 x2 = some r) : CT k strs yX9_setRule cX9_setRule 4 (some .int) (rmD 4 0 0) 0 0 [.ref (k.b + (0)), .int x1, .int x2] (wAll k T R ly rc hn rp tp ee st) (some (.int r.1)) (wAll k T R ly rc hn rp r.2.1 ee r.2.2) := by
  refine CT.of (by decide) (Nat.le_of_ble_eq_true rfl) ?_
  intro z X hQ
  show VW k z 0 0 (wAll k T R ly rc hn rp tp ee st) 0 [some (.ref (k.b + (0))), some (.int x1), some (.int x2), none] []
  unfold f9_setRule at hf
  refine r_aload_n X (x := k.b + (0)) dX9_setRule_0 rfl ?_
  refine r_getfield X (v := .ref (k.b + (4 + 17 * (0 : Fin 2).val))) clsX9 flX9_28 (Nat.le_of_ble_eq_true rfl) _ o_main rfl dX9_setRule_1 ?_
  refine r_iload_n X (x := x1) dX9_setRule_4 rfl ?_
  obtain ⟨u5, h5, hf⟩ := bdS hf
  refine r_callV0 X [.int x1] [] (K1_hasValve h5) lkX9_128 clsX1 rfl _ (o_lay (0 : Fin 2)) (by decide) (Nat.le_of_ble_eq_true rfl) rfl rfl (Nat.le_of_ble_eq_true rfl) rfl rfl (Nat.zero_le _) (Nat.zero_le _) dX9_setRule_5 ?_
  refine r_if_ne X 19 dX9_setRule_8 rfl (fun c8 => ?_) (fun c8 => ?_)
  · replace hf := ifF hf c8
    refine r_iload_n X (x := x2) dX9_setRule_19 rfl ?_
    obtain ⟨u20, h20, hf⟩ := bdS hf
    refine r_callS0 X [.int x2] [] (K9_isPressure h20) lkX9_188 (by decide) (Nat.le_of_ble_eq_true rfl) rfl rfl (Nat.le_of_ble_eq_true rfl) rfl rfl (Nat.zero_le _) (Nat.zero_le _) dX9_setRule_20 ?_
    refine r_if_ne X 34 dX9_setRule_23 rfl (fun c23 => ?_) (fun c23 => ?_)
    · replace hf := ifF hf c23
      refine r_aload_n X (x := k.b + (0)) dX9_setRule_34 rfl ?_
      refine r_getfield X (v := .ref (k.b + (45 + 12 * (TP_pr tp).val))) clsX9 flX9_73 (Nat.le_of_ble_eq_true rfl) _ o_main rfl dX9_setRule_35 ?_
      refine r_getfield X (v := .ref (k.b + (45 + 12 * (TP_pr tp).val + 5))) clsX5 flX9_204 (Nat.le_of_ble_eq_true rfl) _ (o_st (TP_pr tp)) rfl dX9_setRule_38 ?_
      refine r_iload_n X (x := x1) dX9_setRule_41 rfl ?_
      obtain ⟨g42, hf⟩ := gdS hf
      refine r_iaload X (f := SS_rule (st (TP_pr tp))) _ (a_st_rule (TP_pr tp)) g42 dX9_setRule_42 ?_
      refine r_istore_n X [some (.ref (k.b + (0))), some (.int x1), some (.int x2), some (.int ((SS_rule (st (TP_pr tp))) (ix x1)))] dX9_setRule_43 (Nat.le_of_ble_eq_true rfl) rfl ?_
      refine r_aload_n X (x := k.b + (0)) dX9_setRule_44 rfl ?_
      obtain ⟨u45, h45, hf⟩ := bdS hf
      refine r_callV0 X [] [] (K9_beginTrial h45) lkX9_139 clsX9 rfl _ o_main (by decide) (Nat.le_of_ble_eq_true rfl) rfl rfl (Nat.le_of_ble_eq_true rfl) rfl rfl (Nat.zero_le _) (Nat.zero_le _) dX9_setRule_45 ?_
      refine r_aload_n X (x := k.b + (0)) dX9_setRule_48 rfl ?_
      refine r_getfield X (v := .ref (k.b + (45 + 12 * (TP_tr tp).val))) clsX9 flX9_77 (Nat.le_of_ble_eq_true rfl) _ o_main rfl dX9_setRule_49 ?_
      refine r_getfield X (v := .ref (k.b + (45 + 12 * (TP_tr tp).val + 5))) clsX5 flX9_204 (Nat.le_of_ble_eq_true rfl) _ (o_st (TP_tr tp)) rfl dX9_setRule_52 ?_
      refine r_iload_n X (x := x1) dX9_setRule_55 rfl ?_
      refine r_iload_n X (x := x2) dX9_setRule_56 rfl ?_
      refine VW.foc (ws' := wAll k T R ly rc hn rp tp ee (updF u45 (TP_tr tp) (u45 (TP_tr tp)))) (by rw [updF_self]) ?_
      refine r_iastore X (f := SS_rule (u45 (TP_tr tp))) (ws1 := wAll k T R ly rc hn rp tp ee (updF u45 (TP_tr tp) (SS_set_rule (u45 (TP_tr tp)) (upd (SS_rule (u45 (TP_tr tp))) (ix x1) x2)))) _ (a_st1_rule (TP_tr tp) _) g42 (s_st_rule (TP_tr tp) (u45 (TP_tr tp)) (upd (SS_rule (u45 (TP_tr tp))) (ix x1) x2)) dX9_setRule_57 ?_
      refine r_aload_n X (x := k.b + (0)) dX9_setRule_58 rfl ?_
      obtain ⟨u59, h59, hf⟩ := bdS hf
      refine r_callV0 X [] [] (K9_keepTrial h59) lkX9_145 clsX9 rfl _ o_main (by decide) (Nat.le_of_ble_eq_true rfl) rfl rfl (Nat.le_of_ble_eq_true rfl) rfl rfl (Nat.zero_le _) (Nat.zero_le _) dX9_setRule_59 ?_
      refine r_iload_n X (x := (SS_rule (st (TP_pr tp))) (ix x1)) dX9_setRule_62 rfl ?_
      obtain rfl := Option.some.inj hf
      exact r_ireturn X hQ rfl rfl (Nat.le_of_ble_eq_true rfl) (Nat.le_of_ble_eq_true rfl) dX9_setRule_63
    · replace hf := ifT hf c23
      cases hf
  · replace hf := ifT hf c8
    cases hf
set_option maxRecDepth 100000 in
set_option maxHeartbeats 4000000 in
theorem K9_isTestTicks {k : KT} {T : TT} {R : RR} {ly : Fin 2 → LL} {rc : RC} {hn : HN} {rp : RP} {tp : TP} {ee : EE} {st : Fin 12 → SS}  {x0 : Int32} {r : Int32} (hf : f9_isTestTicks   x0 = some r) : CT k strs yX9_isTestTicks cX9_isTestTicks 1 (some .boolean) (rmD 1 0 0) 0 0 [.int x0] (wAll k T R ly rc hn rp tp ee st) (some (.int r)) (wAll k T R ly rc hn rp tp ee st) := by
  refine CT.of (by decide) (Nat.le_of_ble_eq_true rfl) ?_
  intro z X hQ
  show VW k z 0 0 (wAll k T R ly rc hn rp tp ee st) 0 [some (.int x0)] []
  unfold f9_isTestTicks at hf
  refine r_iload_n X (x := x0) dX9_isTestTicks_0 rfl ?_
  obtain ⟨u1, h1, hf⟩ := bdS hf
  refine r_callS0 X [.int x0] [] (K9_isTicks h1) lkX9_179 (by decide) (Nat.le_of_ble_eq_true rfl) rfl rfl (Nat.le_of_ble_eq_true rfl) rfl rfl (Nat.zero_le _) (Nat.zero_le _) dX9_isTestTicks_1 ?_
  refine r_if_eq X 17 dX9_isTestTicks_4 rfl (fun c4 => ?_) (fun c4 => ?_)
  · replace hf := ifT hf c4
    refine r_iconst X (v := 0) dX9_isTestTicks_17 rfl ?_
    obtain rfl := Option.some.inj hf
    exact r_zreturn X hQ rfl rfl (Nat.le_of_ble_eq_true rfl) (Nat.le_of_ble_eq_true rfl) rfl dX9_isTestTicks_18
  · replace hf := ifF hf c4
    refine r_iload_n X (x := x0) dX9_isTestTicks_7 rfl ?_
    refine r_iconst X (v := 2) dX9_isTestTicks_8 rfl ?_
    refine r_irem X dX9_isTestTicks_9 (by decide) ?_
    refine r_if_ne X 17 dX9_isTestTicks_10 rfl (fun c10 => ?_) (fun c10 => ?_)
    · replace hf := ifF hf c10
      refine r_iconst X (v := 0) dX9_isTestTicks_17 rfl ?_
      obtain rfl := Option.some.inj hf
      exact r_zreturn X hQ rfl rfl (Nat.le_of_ble_eq_true rfl) (Nat.le_of_ble_eq_true rfl) rfl dX9_isTestTicks_18
    · replace hf := ifT hf c10
      refine r_iconst X (v := 1) dX9_isTestTicks_13 rfl ?_
      refine r_goto X 18 dX9_isTestTicks_14 rfl ?_
      obtain rfl := Option.some.inj hf
      exact r_zreturn X hQ rfl rfl (Nat.le_of_ble_eq_true rfl) (Nat.le_of_ble_eq_true rfl) rfl dX9_isTestTicks_18
set_option maxRecDepth 100000 in
set_option maxHeartbeats 4000000 in
theorem K9_test {k : KT} {T : TT} {R : RR} {ly : Fin 2 → LL} {rc : RC} {hn : HN} {rp : RP} {tp : TP} {ee : EE} {st : Fin 12 → SS}  {x1 : Int32} {x2 : Int32} {r : Int32 × (TP) × (Fin 12 → SS)} (hf : f9_test (ly (0 : Fin 2)) tp st x1 x2 = some r) : CT k strs yX9_test cX9_test 4 (some .int) (rmD 5 0 0) 0 0 [.ref (k.b + (0)), .int x1, .int x2] (wAll k T R ly rc hn rp tp ee st) (some (.int r.1)) (wAll k T R ly rc hn rp r.2.1 ee r.2.2) := by
  refine CT.of (by decide) (Nat.le_of_ble_eq_true rfl) ?_
  intro z X hQ
  show VW k z 0 0 (wAll k T R ly rc hn rp tp ee st) 0 [some (.ref (k.b + (0))), some (.int x1), some (.int x2), none] []
  unfold f9_test at hf
  refine r_aload_n X (x := k.b + (0)) dX9_test_0 rfl ?_
  refine r_getfield X (v := .ref (k.b + (4 + 17 * (0 : Fin 2).val))) clsX9 flX9_28 (Nat.le_of_ble_eq_true rfl) _ o_main rfl dX9_test_1 ?_
  refine r_iload_n X (x := x1) dX9_test_4 rfl ?_
  obtain ⟨u5, h5, hf⟩ := bdS hf
  refine r_callV0 X [.int x1] [] (K1_hasChamber h5) lkX9_185 clsX1 rfl _ (o_lay (0 : Fin 2)) (by decide) (Nat.le_of_ble_eq_true rfl) rfl rfl (Nat.le_of_ble_eq_true rfl) rfl rfl (Nat.zero_le _) (Nat.zero_le _) dX9_test_5 ?_
  refine r_if_ne X 19 dX9_test_8 rfl (fun c8 => ?_) (fun c8 => ?_)
  · replace hf := ifF hf c8
    refine r_iload_n X (x := x2) dX9_test_19 rfl ?_
    obtain ⟨u20, h20, hf⟩ := bdS hf
    refine r_callS0 X [.int x2] [] (K9_isTestTicks h20) lkX9_207 (by decide) (Nat.le_of_ble_eq_true rfl) rfl rfl (Nat.le_of_ble_eq_true rfl) rfl rfl (Nat.zero_le _) (Nat.zero_le _) dX9_test_20 ?_
    refine r_if_ne X 34 dX9_test_23 rfl (fun c23 => ?_) (fun c23 => ?_)
    · replace hf := ifF hf c23
      refine r_aload_n X (x := k.b + (0)) dX9_test_34 rfl ?_
      refine r_getfield X (v := .ref (k.b + (45 + 12 * (TP_pr tp).val))) clsX9 flX9_73 (Nat.le_of_ble_eq_true rfl) _ o_main rfl dX9_test_35 ?_
      refine r_iload_n X (x := x1) dX9_test_38 rfl ?_
      obtain ⟨u39, h39, hf⟩ := bdS hf
      refine r_callV0 X [.int x1] [] (CT_unS (W := fun zz => wAll k T R ly rc hn rp tp ee zz) (W2 := fun zz => wAll k T R ly rc hn rp tp ee zz) (st := st) (TP_pr tp) (K5_isShutOff h39)) lkX9_210 clsX5 rfl _ (o_st (TP_pr tp)) (by decide) (Nat.le_of_ble_eq_true rfl) rfl rfl (Nat.le_of_ble_eq_true rfl) rfl rfl (Nat.zero_le _) (Nat.zero_le _) dX9_test_39 ?_
      refine r_if_ne X 53 dX9_test_42 rfl (fun c42 => ?_) (fun c42 => ?_)
      · replace hf := ifF hf c42
        refine r_aload_n X (x := k.b + (0)) dX9_test_53 rfl ?_
        obtain ⟨u54, h54, hf⟩ := bdS hf
        refine r_callV0 X [] [] (K9_beginTrial h54) lkX9_139 clsX9 rfl _ o_main (by decide) (Nat.le_of_ble_eq_true rfl) rfl rfl (Nat.le_of_ble_eq_true rfl) rfl rfl (Nat.zero_le _) (Nat.zero_le _) dX9_test_54 ?_
        refine r_aload_n X (x := k.b + (0)) dX9_test_57 rfl ?_
        refine r_getfield X (v := .ref (k.b + (45 + 12 * (TP_tr tp).val))) clsX9 flX9_77 (Nat.le_of_ble_eq_true rfl) _ o_main rfl dX9_test_58 ?_
        refine r_iload_n X (x := x1) dX9_test_61 rfl ?_
        refine r_iload_n X (x := x2) dX9_test_62 rfl ?_
        refine VW.foc (ws' := wAll k T R ly rc hn rp tp ee (updF u54 (TP_tr tp) (u54 (TP_tr tp)))) (by rw [updF_self]) ?_
        obtain ⟨u63, h63, hf⟩ := bdS hf
        refine r_callV0 X [.int x1, .int x2] [] (K5_makeTest h63) lkX9_213 clsX5 rfl _ (o_st1 (TP_tr tp) _) (by decide) (Nat.le_of_ble_eq_true rfl) rfl rfl (Nat.le_of_ble_eq_true rfl) rfl rfl (Nat.zero_le _) (Nat.zero_le _) dX9_test_63 ?_
        refine r_istore_n X [some (.ref (k.b + (0))), some (.int x1), some (.int x2), some (.int u63.1)] dX9_test_66 (Nat.le_of_ble_eq_true rfl) rfl ?_
        refine r_aload_n X (x := k.b + (0)) dX9_test_67 rfl ?_
        obtain ⟨u68, h68, hf⟩ := bdS hf
        refine r_callV0 X [] [] (K9_keepTrial h68) lkX9_145 clsX9 rfl _ o_main (by decide) (Nat.le_of_ble_eq_true rfl) rfl rfl (Nat.le_of_ble_eq_true rfl) rfl rfl (Nat.zero_le _) (Nat.zero_le _) dX9_test_68 ?_
        refine r_iload_n X (x := u63.1) dX9_test_71 rfl ?_
        obtain rfl := Option.some.inj hf
        exact r_ireturn X hQ rfl rfl (Nat.le_of_ble_eq_true rfl) (Nat.le_of_ble_eq_true rfl) dX9_test_72
      · replace hf := ifT hf c42
        cases hf
    · replace hf := ifT hf c23
      cases hf
  · replace hf := ifT hf c8
    cases hf
set_option maxRecDepth 100000 in
set_option maxHeartbeats 4000000 in
theorem B9_sum_vt_B4 {k : KT} {z : ZT} {T : TT} {R : RR} {ly : Fin 2 → LL} {rc : RC} {hn : HN} {rp : RP} {tp : TP} {ee : EE} {st : Fin 12 → SS} {j : Fin 12} {S : SS} {r : Int32} (X : XX k strs z RX9 cX9_sum 4 (some .int) (rmD 0 0 0)) (hQ : zQ z = MQ (zB z) (Qof k (some (.int r)) (wAll k T R ly rc hn rp tp ee (updF st j S))) (zA z) (zS z) 0 0 (kA k)) : ∀ (fu : Nat) (x1 : Int32) (x2 : Int32) (x3 : Int32), f9_sum_vt_B4 S fu x1 x2 x3 = some r → VW k z 0 0 (wAll k T R ly rc hn rp tp ee (updF st j S)) 4 [some (.ref (k.b + (45 + 12 * j.val + 6))), some (.int x1), some (.int x2), some (.int x3)] [] := by
  intro fu
  induction fu with
  | zero =>
    intro x1 x2 x3 hf
    rw [f9_sum_vt_B4] at hf
    cases hf
  | succ fu ih =>
    intro x1 x2 x3 hf
    rw [f9_sum_vt_B4] at hf
    refine r_iload_n X (x := x3) dX9_sum_4 rfl ?_
    refine r_iload_n X (x := x1) dX9_sum_5 rfl ?_
    refine r_icmp_ge X 27 dX9_sum_6 rfl (fun c6 => ?_) (fun c6 => ?_)
    · replace hf := ifT hf c6
      refine r_iload_n X (x := x2) dX9_sum_27 rfl ?_
      obtain rfl := Option.some.inj hf
      exact r_ireturn X hQ rfl rfl (Nat.le_of_ble_eq_true rfl) (Nat.le_of_ble_eq_true rfl) dX9_sum_28
    · replace hf := ifF hf c6
      refine r_iload_n X (x := x3) dX9_sum_9 rfl ?_
      refine r_aload_n X (x := k.b + (45 + 12 * j.val + 6)) dX9_sum_10 rfl ?_
      refine r_alen X (t0 := 0) _ (a_st1_valveTrips j _) rfl dX9_sum_11 ?_
      refine r_icmp_ge X 27 dX9_sum_12 rfl (fun c12 => ?_) (fun c12 => ?_)
      · replace hf := ifT hf c12
        refine r_iload_n X (x := x2) dX9_sum_27 rfl ?_
        obtain rfl := Option.some.inj hf
        exact r_ireturn X hQ rfl rfl (Nat.le_of_ble_eq_true rfl) (Nat.le_of_ble_eq_true rfl) dX9_sum_28
      · replace hf := ifF hf c12
        refine r_iload_n X (x := x2) dX9_sum_15 rfl ?_
        refine r_aload_n X (x := k.b + (45 + 12 * j.val + 6)) dX9_sum_16 rfl ?_
        refine r_iload_n X (x := x3) dX9_sum_17 rfl ?_
        obtain ⟨g18, hf⟩ := gdS hf
        refine r_iaload X (f := SS_valveTrips S) _ (a_st1_valveTrips j _) g18 dX9_sum_18 ?_
        refine r_iadd X dX9_sum_19 ?_
        refine r_istore_n X [some (.ref (k.b + (45 + 12 * j.val + 6))), some (.int x1), some (.int (x2 + ((SS_valveTrips S) (ix x3)))), some (.int x3)] dX9_sum_20 (Nat.le_of_ble_eq_true rfl) rfl ?_
        refine r_iinc X (x := x3) (v := x3 + 1) [some (.ref (k.b + (45 + 12 * j.val + 6))), some (.int x1), some (.int (x2 + ((SS_valveTrips S) (ix x3)))), some (.int (x3 + 1))] dX9_sum_21 rfl rfl rfl ?_
        refine r_goto X 4 dX9_sum_24 rfl ?_
        exact ih x1 (x2 + ((SS_valveTrips S) (ix x3))) (x3 + 1) hf
set_option maxRecDepth 100000 in
set_option maxHeartbeats 4000000 in
theorem K9_sum_vt {k : KT} {T : TT} {R : RR} {ly : Fin 2 → LL} {rc : RC} {hn : HN} {rp : RP} {tp : TP} {ee : EE} {st : Fin 12 → SS} {j : Fin 12} {S : SS} {x1 : Int32} {r : Int32} (hf : f9_sum_vt S  x1 = some r) : CT k strs yX9_sum cX9_sum 4 (some .int) (rmD 0 0 0) 0 0 [.ref (k.b + (45 + 12 * j.val + 6)), .int x1] (wAll k T R ly rc hn rp tp ee (updF st j S)) (some (.int r)) (wAll k T R ly rc hn rp tp ee (updF st j S)) := by
  refine CT.of (by decide) (Nat.le_of_ble_eq_true rfl) ?_
  intro z X hQ
  show VW k z 0 0 (wAll k T R ly rc hn rp tp ee (updF st j S)) 0 [some (.ref (k.b + (45 + 12 * j.val + 6))), some (.int x1), none, none] []
  unfold f9_sum_vt at hf
  refine r_iconst X (v := 0) dX9_sum_0 rfl ?_
  refine r_istore_n X [some (.ref (k.b + (45 + 12 * j.val + 6))), some (.int x1), some (.int 0), none] dX9_sum_1 (Nat.le_of_ble_eq_true rfl) rfl ?_
  refine r_iconst X (v := 0) dX9_sum_2 rfl ?_
  refine r_istore_n X [some (.ref (k.b + (45 + 12 * j.val + 6))), some (.int x1), some (.int 0), some (.int 0)] dX9_sum_3 (Nat.le_of_ble_eq_true rfl) rfl ?_
  exact B9_sum_vt_B4 X hQ FU x1 0 0 hf
set_option maxRecDepth 100000 in
set_option maxHeartbeats 4000000 in
theorem B9_sum_pt_B4 {k : KT} {z : ZT} {T : TT} {R : RR} {ly : Fin 2 → LL} {rc : RC} {hn : HN} {rp : RP} {tp : TP} {ee : EE} {st : Fin 12 → SS} {j : Fin 12} {S : SS} {r : Int32} (X : XX k strs z RX9 cX9_sum 4 (some .int) (rmD 0 0 0)) (hQ : zQ z = MQ (zB z) (Qof k (some (.int r)) (wAll k T R ly rc hn rp tp ee (updF st j S))) (zA z) (zS z) 0 0 (kA k)) : ∀ (fu : Nat) (x1 : Int32) (x2 : Int32) (x3 : Int32), f9_sum_pt_B4 S fu x1 x2 x3 = some r → VW k z 0 0 (wAll k T R ly rc hn rp tp ee (updF st j S)) 4 [some (.ref (k.b + (45 + 12 * j.val + 7))), some (.int x1), some (.int x2), some (.int x3)] [] := by
  intro fu
  induction fu with
  | zero =>
    intro x1 x2 x3 hf
    rw [f9_sum_pt_B4] at hf
    cases hf
  | succ fu ih =>
    intro x1 x2 x3 hf
    rw [f9_sum_pt_B4] at hf
    refine r_iload_n X (x := x3) dX9_sum_4 rfl ?_
    refine r_iload_n X (x := x1) dX9_sum_5 rfl ?_
    refine r_icmp_ge X 27 dX9_sum_6 rfl (fun c6 => ?_) (fun c6 => ?_)
    · replace hf := ifT hf c6
      refine r_iload_n X (x := x2) dX9_sum_27 rfl ?_
      obtain rfl := Option.some.inj hf
      exact r_ireturn X hQ rfl rfl (Nat.le_of_ble_eq_true rfl) (Nat.le_of_ble_eq_true rfl) dX9_sum_28
    · replace hf := ifF hf c6
      refine r_iload_n X (x := x3) dX9_sum_9 rfl ?_
      refine r_aload_n X (x := k.b + (45 + 12 * j.val + 7)) dX9_sum_10 rfl ?_
      refine r_alen X (t0 := 0) _ (a_st1_pumpTrips j _) rfl dX9_sum_11 ?_
      refine r_icmp_ge X 27 dX9_sum_12 rfl (fun c12 => ?_) (fun c12 => ?_)
      · replace hf := ifT hf c12
        refine r_iload_n X (x := x2) dX9_sum_27 rfl ?_
        obtain rfl := Option.some.inj hf
        exact r_ireturn X hQ rfl rfl (Nat.le_of_ble_eq_true rfl) (Nat.le_of_ble_eq_true rfl) dX9_sum_28
      · replace hf := ifF hf c12
        refine r_iload_n X (x := x2) dX9_sum_15 rfl ?_
        refine r_aload_n X (x := k.b + (45 + 12 * j.val + 7)) dX9_sum_16 rfl ?_
        refine r_iload_n X (x := x3) dX9_sum_17 rfl ?_
        obtain ⟨g18, hf⟩ := gdS hf
        refine r_iaload X (f := SS_pumpTrips S) _ (a_st1_pumpTrips j _) g18 dX9_sum_18 ?_
        refine r_iadd X dX9_sum_19 ?_
        refine r_istore_n X [some (.ref (k.b + (45 + 12 * j.val + 7))), some (.int x1), some (.int (x2 + ((SS_pumpTrips S) (ix x3)))), some (.int x3)] dX9_sum_20 (Nat.le_of_ble_eq_true rfl) rfl ?_
        refine r_iinc X (x := x3) (v := x3 + 1) [some (.ref (k.b + (45 + 12 * j.val + 7))), some (.int x1), some (.int (x2 + ((SS_pumpTrips S) (ix x3)))), some (.int (x3 + 1))] dX9_sum_21 rfl rfl rfl ?_
        refine r_goto X 4 dX9_sum_24 rfl ?_
        exact ih x1 (x2 + ((SS_pumpTrips S) (ix x3))) (x3 + 1) hf
set_option maxRecDepth 100000 in
set_option maxHeartbeats 4000000 in
theorem K9_sum_pt {k : KT} {T : TT} {R : RR} {ly : Fin 2 → LL} {rc : RC} {hn : HN} {rp : RP} {tp : TP} {ee : EE} {st : Fin 12 → SS} {j : Fin 12} {S : SS} {x1 : Int32} {r : Int32} (hf : f9_sum_pt S  x1 = some r) : CT k strs yX9_sum cX9_sum 4 (some .int) (rmD 0 0 0) 0 0 [.ref (k.b + (45 + 12 * j.val + 7)), .int x1] (wAll k T R ly rc hn rp tp ee (updF st j S)) (some (.int r)) (wAll k T R ly rc hn rp tp ee (updF st j S)) := by
  refine CT.of (by decide) (Nat.le_of_ble_eq_true rfl) ?_
  intro z X hQ
  show VW k z 0 0 (wAll k T R ly rc hn rp tp ee (updF st j S)) 0 [some (.ref (k.b + (45 + 12 * j.val + 7))), some (.int x1), none, none] []
  unfold f9_sum_pt at hf
  refine r_iconst X (v := 0) dX9_sum_0 rfl ?_
  refine r_istore_n X [some (.ref (k.b + (45 + 12 * j.val + 7))), some (.int x1), some (.int 0), none] dX9_sum_1 (Nat.le_of_ble_eq_true rfl) rfl ?_
  refine r_iconst X (v := 0) dX9_sum_2 rfl ?_
  refine r_istore_n X [some (.ref (k.b + (45 + 12 * j.val + 7))), some (.int x1), some (.int 0), some (.int 0)] dX9_sum_3 (Nat.le_of_ble_eq_true rfl) rfl ?_
  exact B9_sum_pt_B4 X hQ FU x1 0 0 hf
set_option maxRecDepth 100000 in
set_option maxHeartbeats 4000000 in
theorem K9_count {k : KT} {T : TT} {R : RR} {ly : Fin 2 → LL} {rc : RC} {hn : HN} {rp : RP} {tp : TP} {ee : EE} {st : Fin 12 → SS}  {x1 : Int32} {r : Int32} (hf : f9_count (ly (0 : Fin 2)) tp st  x1 = some r) : CT k strs yX9_count cX9_count 2 (some .int) (rmD 1 0 0) 0 0 [.ref (k.b + (0)), .int x1] (wAll k T R ly rc hn rp tp ee st) (some (.int r)) (wAll k T R ly rc hn rp tp ee st) := by
  refine CT.of (by decide) (Nat.le_of_ble_eq_true rfl) ?_
  intro z X hQ
  show VW k z 0 0 (wAll k T R ly rc hn rp tp ee st) 0 [some (.ref (k.b + (0))), some (.int x1)] []
  unfold f9_count at hf
  refine r_iload_n X (x := x1) dX9_count_0 rfl ?_
  by_cases c1_0 : x1 = 0
  · replace hf := ifT hf c1_0
    refine r_tswIn X (off := 47) 48 dX9_count_1 (by rw [c1_0]; decide) (by rw [c1_0]; decide) (by rw [c1_0]; rfl) rfl ?_
    refine r_aload_n X (x := k.b + (0)) dX9_count_48 rfl ?_
    refine r_getfield X (v := .ref (k.b + (4 + 17 * (0 : Fin 2).val))) clsX9 flX9_28 (Nat.le_of_ble_eq_true rfl) _ o_main rfl dX9_count_49 ?_
    refine r_getfield X (v := .int (LL_chambers (ly (0 : Fin 2)))) clsX1 flX9_125 (Nat.le_of_ble_eq_true rfl) _ (o_lay (0 : Fin 2)) rfl dX9_count_52 ?_
    obtain rfl := Option.some.inj hf
    exact r_ireturn X hQ rfl rfl (Nat.le_of_ble_eq_true rfl) (Nat.le_of_ble_eq_true rfl) dX9_count_55
  replace hf := ifF hf c1_0
  by_cases c1_1 : x1 = 1
  · replace hf := ifT hf c1_1
    refine r_tswIn X (off := 55) 56 dX9_count_1 (by rw [c1_1]; decide) (by rw [c1_1]; decide) (by rw [c1_1]; rfl) rfl ?_
    refine r_aload_n X (x := k.b + (0)) dX9_count_56 rfl ?_
    refine r_getfield X (v := .ref (k.b + (4 + 17 * (0 : Fin 2).val))) clsX9 flX9_28 (Nat.le_of_ble_eq_true rfl) _ o_main rfl dX9_count_57 ?_
    refine r_getfield X (v := .int (LL_pumps (ly (0 : Fin 2)))) clsX1 flX9_220 (Nat.le_of_ble_eq_true rfl) _ (o_lay (0 : Fin 2)) rfl dX9_count_60 ?_
    obtain rfl := Option.some.inj hf
    exact r_ireturn X hQ rfl rfl (Nat.le_of_ble_eq_true rfl) (Nat.le_of_ble_eq_true rfl) dX9_count_63
  replace hf := ifF hf c1_1
  by_cases c1_2 : x1 = 2
  · replace hf := ifT hf c1_2
    refine r_tswIn X (off := 63) 64 dX9_count_1 (by rw [c1_2]; decide) (by rw [c1_2]; decide) (by rw [c1_2]; rfl) rfl ?_
    refine r_aload_n X (x := k.b + (0)) dX9_count_64 rfl ?_
    refine r_getfield X (v := .ref (k.b + (4 + 17 * (0 : Fin 2).val))) clsX9 flX9_28 (Nat.le_of_ble_eq_true rfl) _ o_main rfl dX9_count_65 ?_
    refine r_getfield X (v := .int (LL_valves (ly (0 : Fin 2)))) clsX1 flX9_223 (Nat.le_of_ble_eq_true rfl) _ (o_lay (0 : Fin 2)) rfl dX9_count_68 ?_
    obtain rfl := Option.some.inj hf
    exact r_ireturn X hQ rfl rfl (Nat.le_of_ble_eq_true rfl) (Nat.le_of_ble_eq_true rfl) dX9_count_71
  replace hf := ifF hf c1_2
  by_cases c1_3 : x1 = 3
  · replace hf := ifT hf c1_3
    refine r_tswIn X (off := 71) 72 dX9_count_1 (by rw [c1_3]; decide) (by rw [c1_3]; decide) (by rw [c1_3]; rfl) rfl ?_
    refine r_aload_n X (x := k.b + (0)) dX9_count_72 rfl ?_
    refine r_getfield X (v := .ref (k.b + (4 + 17 * (0 : Fin 2).val))) clsX9 flX9_28 (Nat.le_of_ble_eq_true rfl) _ o_main rfl dX9_count_73 ?_
    refine r_getfield X (v := .int (LL_flanges (ly (0 : Fin 2)))) clsX1 flX9_226 (Nat.le_of_ble_eq_true rfl) _ (o_lay (0 : Fin 2)) rfl dX9_count_76 ?_
    obtain rfl := Option.some.inj hf
    exact r_ireturn X hQ rfl rfl (Nat.le_of_ble_eq_true rfl) (Nat.le_of_ble_eq_true rfl) dX9_count_79
  replace hf := ifF hf c1_3
  by_cases c1_4 : x1 = 4
  · replace hf := ifT hf c1_4
    refine r_tswIn X (off := 79) 80 dX9_count_1 (by rw [c1_4]; decide) (by rw [c1_4]; decide) (by rw [c1_4]; rfl) rfl ?_
    refine r_aload_n X (x := k.b + (0)) dX9_count_80 rfl ?_
    refine r_getfield X (v := .ref (k.b + (45 + 12 * (TP_pr tp).val))) clsX9 flX9_73 (Nat.le_of_ble_eq_true rfl) _ o_main rfl dX9_count_81 ?_
    refine r_getfield X (v := .int (SS_time (st (TP_pr tp)))) clsX5 flX9_229 (Nat.le_of_ble_eq_true rfl) _ (o_st (TP_pr tp)) rfl dX9_count_84 ?_
    obtain rfl := Option.some.inj hf
    exact r_ireturn X hQ rfl rfl (Nat.le_of_ble_eq_true rfl) (Nat.le_of_ble_eq_true rfl) dX9_count_87
  replace hf := ifF hf c1_4
  by_cases c1_5 : x1 = 5
  · replace hf := ifT hf c1_5
    refine r_tswIn X (off := 87) 88 dX9_count_1 (by rw [c1_5]; decide) (by rw [c1_5]; decide) (by rw [c1_5]; rfl) rfl ?_
    refine r_aload_n X (x := k.b + (0)) dX9_count_88 rfl ?_
    refine r_getfield X (v := .ref (k.b + (45 + 12 * (TP_pr tp).val))) clsX9 flX9_73 (Nat.le_of_ble_eq_true rfl) _ o_main rfl dX9_count_89 ?_
    refine r_getfield X (v := .ref (k.b + (45 + 12 * (TP_pr tp).val + 6))) clsX5 flX9_232 (Nat.le_of_ble_eq_true rfl) _ (o_st (TP_pr tp)) rfl dX9_count_92 ?_
    refine r_aload_n X (x := k.b + (0)) dX9_count_95 rfl ?_
    refine r_getfield X (v := .ref (k.b + (4 + 17 * (0 : Fin 2).val))) clsX9 flX9_28 (Nat.le_of_ble_eq_true rfl) _ o_main rfl dX9_count_96 ?_
    refine r_getfield X (v := .int (LL_valves (ly (0 : Fin 2)))) clsX1 flX9_223 (Nat.le_of_ble_eq_true rfl) _ (o_lay (0 : Fin 2)) rfl dX9_count_99 ?_
    obtain ⟨u102, h102, hf⟩ := bdS hf
    refine r_callS0 X [.ref (k.b + (45 + 12 * (TP_pr tp).val + 6)), .int (LL_valves (ly (0 : Fin 2)))] [] (CT_unS (W := fun zz => wAll k T R ly rc hn rp tp ee zz) (W2 := fun zz => wAll k T R ly rc hn rp tp ee zz) (st := st) (TP_pr tp) (K9_sum_vt h102)) lkX9_235 (by decide) (Nat.le_of_ble_eq_true rfl) rfl rfl (Nat.le_of_ble_eq_true rfl) rfl rfl (Nat.zero_le _) (Nat.zero_le _) dX9_count_102 ?_
    obtain rfl := Option.some.inj hf
    exact r_ireturn X hQ rfl rfl (Nat.le_of_ble_eq_true rfl) (Nat.le_of_ble_eq_true rfl) dX9_count_105
  replace hf := ifF hf c1_5
  by_cases c1_6 : x1 = 6
  · replace hf := ifT hf c1_6
    refine r_tswIn X (off := 105) 106 dX9_count_1 (by rw [c1_6]; decide) (by rw [c1_6]; decide) (by rw [c1_6]; rfl) rfl ?_
    refine r_aload_n X (x := k.b + (0)) dX9_count_106 rfl ?_
    refine r_getfield X (v := .ref (k.b + (45 + 12 * (TP_pr tp).val))) clsX9 flX9_73 (Nat.le_of_ble_eq_true rfl) _ o_main rfl dX9_count_107 ?_
    refine r_getfield X (v := .ref (k.b + (45 + 12 * (TP_pr tp).val + 7))) clsX5 flX9_239 (Nat.le_of_ble_eq_true rfl) _ (o_st (TP_pr tp)) rfl dX9_count_110 ?_
    refine r_aload_n X (x := k.b + (0)) dX9_count_113 rfl ?_
    refine r_getfield X (v := .ref (k.b + (4 + 17 * (0 : Fin 2).val))) clsX9 flX9_28 (Nat.le_of_ble_eq_true rfl) _ o_main rfl dX9_count_114 ?_
    refine r_getfield X (v := .int (LL_pumps (ly (0 : Fin 2)))) clsX1 flX9_220 (Nat.le_of_ble_eq_true rfl) _ (o_lay (0 : Fin 2)) rfl dX9_count_117 ?_
    obtain ⟨u120, h120, hf⟩ := bdS hf
    refine r_callS0 X [.ref (k.b + (45 + 12 * (TP_pr tp).val + 7)), .int (LL_pumps (ly (0 : Fin 2)))] [] (CT_unS (W := fun zz => wAll k T R ly rc hn rp tp ee zz) (W2 := fun zz => wAll k T R ly rc hn rp tp ee zz) (st := st) (TP_pr tp) (K9_sum_pt h120)) lkX9_235 (by decide) (Nat.le_of_ble_eq_true rfl) rfl rfl (Nat.le_of_ble_eq_true rfl) rfl rfl (Nat.zero_le _) (Nat.zero_le _) dX9_count_120 ?_
    obtain rfl := Option.some.inj hf
    exact r_ireturn X hQ rfl rfl (Nat.le_of_ble_eq_true rfl) (Nat.le_of_ble_eq_true rfl) dX9_count_123
  replace hf := ifF hf c1_6
  by_cases c1_7 : x1 = 7
  · replace hf := ifT hf c1_7
    refine r_tswIn X (off := 123) 124 dX9_count_1 (by rw [c1_7]; decide) (by rw [c1_7]; decide) (by rw [c1_7]; rfl) rfl ?_
    refine r_aload_n X (x := k.b + (0)) dX9_count_124 rfl ?_
    refine r_getfield X (v := .ref (k.b + (45 + 12 * (TP_pr tp).val))) clsX9 flX9_73 (Nat.le_of_ble_eq_true rfl) _ o_main rfl dX9_count_125 ?_
    refine r_getfield X (v := .ref (k.b + (45 + 12 * (TP_pr tp).val + 9))) clsX5 flX9_242 (Nat.le_of_ble_eq_true rfl) _ (o_st (TP_pr tp)) rfl dX9_count_128 ?_
    refine r_getfield X (v := .int (SS_kept (st (TP_pr tp)))) clsX7 flX9_246 (Nat.le_of_ble_eq_true rfl) _ (o_tl (TP_pr tp)) rfl dX9_count_131 ?_
    obtain rfl := Option.some.inj hf
    exact r_ireturn X hQ rfl rfl (Nat.le_of_ble_eq_true rfl) (Nat.le_of_ble_eq_true rfl) dX9_count_134
  replace hf := ifF hf c1_7
  refine r_tswOut X 135 dX9_count_1 (tsw_out (fun v hv1 hv2 => by
    rcases (show v = 0 ∨ v = 1 ∨ v = 2 ∨ v = 3 ∨ v = 4 ∨ v = 5 ∨ v = 6 ∨ v = 7 by omega) with rfl | rfl | rfl | rfl | rfl | rfl | rfl | rfl
    · exact c1_0
    · exact c1_1
    · exact c1_2
    · exact c1_3
    · exact c1_4
    · exact c1_5
    · exact c1_6
    · exact c1_7
    )) rfl ?_
  cases hf
set_option maxRecDepth 100000 in
set_option maxHeartbeats 4000000 in
theorem K9_chamber {k : KT} {T : TT} {R : RR} {ly : Fin 2 → LL} {rc : RC} {hn : HN} {rp : RP} {tp : TP} {ee : EE} {st : Fin 12 → SS}  {x1 : Int32} {x2 : Int32} {r : Int32} (hf : f9_chamber (ly (0 : Fin 2)) tp st  x1 x2 = some r) : CT k strs yX9_chamber cX9_chamber 3 (some .int) (rmD 1 0 0) 0 0 [.ref (k.b + (0)), .int x1, .int x2] (wAll k T R ly rc hn rp tp ee st) (some (.int r)) (wAll k T R ly rc hn rp tp ee st) := by
  refine CT.of (by decide) (Nat.le_of_ble_eq_true rfl) ?_
  intro z X hQ
  show VW k z 0 0 (wAll k T R ly rc hn rp tp ee st) 0 [some (.ref (k.b + (0))), some (.int x1), some (.int x2)] []
  unfold f9_chamber at hf
  refine r_aload_n X (x := k.b + (0)) dX9_chamber_0 rfl ?_
  refine r_getfield X (v := .ref (k.b + (4 + 17 * (0 : Fin 2).val))) clsX9 flX9_28 (Nat.le_of_ble_eq_true rfl) _ o_main rfl dX9_chamber_1 ?_
  refine r_iload_n X (x := x1) dX9_chamber_4 rfl ?_
  obtain ⟨u5, h5, hf⟩ := bdS hf
  refine r_callV0 X [.int x1] [] (K1_hasChamber h5) lkX9_185 clsX1 rfl _ (o_lay (0 : Fin 2)) (by decide) (Nat.le_of_ble_eq_true rfl) rfl rfl (Nat.le_of_ble_eq_true rfl) rfl rfl (Nat.zero_le _) (Nat.zero_le _) dX9_chamber_5 ?_
  refine r_if_ne X 19 dX9_chamber_8 rfl (fun c8 => ?_) (fun c8 => ?_)
  · replace hf := ifF hf c8
    refine r_iload_n X (x := x2) dX9_chamber_19 rfl ?_
    by_cases c20_0 : x2 = 0
    · replace hf := ifT hf c20_0
      refine r_tswIn X (off := 44) 64 dX9_chamber_20 (by rw [c20_0]; decide) (by rw [c20_0]; decide) (by rw [c20_0]; rfl) rfl ?_
      refine r_aload_n X (x := k.b + (0)) dX9_chamber_64 rfl ?_
      refine r_getfield X (v := .ref (k.b + (4 + 17 * (0 : Fin 2).val))) clsX9 flX9_28 (Nat.le_of_ble_eq_true rfl) _ o_main rfl dX9_chamber_65 ?_
      refine r_getfield X (v := .ref (k.b + (4 + 17 * (0 : Fin 2).val + 1))) clsX1 flX9_251 (Nat.le_of_ble_eq_true rfl) _ (o_lay (0 : Fin 2)) rfl dX9_chamber_68 ?_
      refine r_iload_n X (x := x1) dX9_chamber_71 rfl ?_
      obtain ⟨g72, hf⟩ := gdS hf
      refine r_iaload X (f := LL_volume (ly (0 : Fin 2))) _ (a_lay_volume (0 : Fin 2)) g72 dX9_chamber_72 ?_
      obtain rfl := Option.some.inj hf
      exact r_ireturn X hQ rfl rfl (Nat.le_of_ble_eq_true rfl) (Nat.le_of_ble_eq_true rfl) dX9_chamber_73
    replace hf := ifF hf c20_0
    by_cases c20_1 : x2 = 1
    · replace hf := ifT hf c20_1
      refine r_tswIn X (off := 54) 74 dX9_chamber_20 (by rw [c20_1]; decide) (by rw [c20_1]; decide) (by rw [c20_1]; rfl) rfl ?_
      refine r_aload_n X (x := k.b + (0)) dX9_chamber_74 rfl ?_
      refine r_getfield X (v := .ref (k.b + (45 + 12 * (TP_pr tp).val))) clsX9 flX9_73 (Nat.le_of_ble_eq_true rfl) _ o_main rfl dX9_chamber_75 ?_
      refine r_getfield X (v := .ref (k.b + (45 + 12 * (TP_pr tp).val + 3))) clsX5 flX9_201 (Nat.le_of_ble_eq_true rfl) _ (o_st (TP_pr tp)) rfl dX9_chamber_78 ?_
      refine r_iload_n X (x := x1) dX9_chamber_81 rfl ?_
      obtain ⟨g82, hf⟩ := gdS hf
      refine r_iaload X (f := SS_outgassing (st (TP_pr tp))) _ (a_st_outgassing (TP_pr tp)) g82 dX9_chamber_82 ?_
      obtain rfl := Option.some.inj hf
      exact r_ireturn X hQ rfl rfl (Nat.le_of_ble_eq_true rfl) (Nat.le_of_ble_eq_true rfl) dX9_chamber_83
    replace hf := ifF hf c20_1
    by_cases c20_2 : x2 = 2
    · replace hf := ifT hf c20_2
      refine r_tswIn X (off := 64) 84 dX9_chamber_20 (by rw [c20_2]; decide) (by rw [c20_2]; decide) (by rw [c20_2]; rfl) rfl ?_
      refine r_aload_n X (x := k.b + (0)) dX9_chamber_84 rfl ?_
      refine r_getfield X (v := .ref (k.b + (4 + 17 * (0 : Fin 2).val))) clsX9 flX9_28 (Nat.le_of_ble_eq_true rfl) _ o_main rfl dX9_chamber_85 ?_
      refine r_getfield X (v := .ref (k.b + (4 + 17 * (0 : Fin 2).val + 3))) clsX1 flX9_254 (Nat.le_of_ble_eq_true rfl) _ (o_lay (0 : Fin 2)) rfl dX9_chamber_88 ?_
      refine r_iload_n X (x := x1) dX9_chamber_91 rfl ?_
      obtain ⟨g92, hf⟩ := gdS hf
      refine r_iaload X (f := LL_decay (ly (0 : Fin 2))) _ (a_lay_decay (0 : Fin 2)) g92 dX9_chamber_92 ?_
      obtain rfl := Option.some.inj hf
      exact r_ireturn X hQ rfl rfl (Nat.le_of_ble_eq_true rfl) (Nat.le_of_ble_eq_true rfl) dX9_chamber_93
    replace hf := ifF hf c20_2
    by_cases c20_3 : x2 = 3
    · replace hf := ifT hf c20_3
      refine r_tswIn X (off := 74) 94 dX9_chamber_20 (by rw [c20_3]; decide) (by rw [c20_3]; decide) (by rw [c20_3]; rfl) rfl ?_
      refine r_aload_n X (x := k.b + (0)) dX9_chamber_94 rfl ?_
      refine r_getfield X (v := .ref (k.b + (45 + 12 * (TP_pr tp).val))) clsX9 flX9_73 (Nat.le_of_ble_eq_true rfl) _ o_main rfl dX9_chamber_95 ?_
      refine r_getfield X (v := .ref (k.b + (45 + 12 * (TP_pr tp).val + 2))) clsX5 flX9_166 (Nat.le_of_ble_eq_true rfl) _ (o_st (TP_pr tp)) rfl dX9_chamber_98 ?_
      refine r_iload_n X (x := x1) dX9_chamber_101 rfl ?_
      obtain ⟨g102, hf⟩ := gdS hf
      refine r_iaload X (f := SS_pressure (st (TP_pr tp))) _ (a_st_pressure (TP_pr tp)) g102 dX9_chamber_102 ?_
      obtain rfl := Option.some.inj hf
      exact r_ireturn X hQ rfl rfl (Nat.le_of_ble_eq_true rfl) (Nat.le_of_ble_eq_true rfl) dX9_chamber_103
    replace hf := ifF hf c20_3
    by_cases c20_4 : x2 = 4
    · replace hf := ifT hf c20_4
      refine r_tswIn X (off := 84) 104 dX9_chamber_20 (by rw [c20_4]; decide) (by rw [c20_4]; decide) (by rw [c20_4]; rfl) rfl ?_
      refine r_aload_n X (x := k.b + (0)) dX9_chamber_104 rfl ?_
      refine r_getfield X (v := .ref (k.b + (45 + 12 * (TP_pr tp).val))) clsX9 flX9_73 (Nat.le_of_ble_eq_true rfl) _ o_main rfl dX9_chamber_105 ?_
      refine r_getfield X (v := .ref (k.b + (45 + 12 * (TP_pr tp).val + 4))) clsX5 flX9_257 (Nat.le_of_ble_eq_true rfl) _ (o_st (TP_pr tp)) rfl dX9_chamber_108 ?_
      refine r_iload_n X (x := x1) dX9_chamber_111 rfl ?_
      obtain ⟨g112, hf⟩ := gdS hf
      refine r_iaload X (f := SS_leakSum (st (TP_pr tp))) _ (a_st_leakSum (TP_pr tp)) g112 dX9_chamber_112 ?_
      obtain rfl := Option.some.inj hf
      exact r_ireturn X hQ rfl rfl (Nat.le_of_ble_eq_true rfl) (Nat.le_of_ble_eq_true rfl) dX9_chamber_113
    replace hf := ifF hf c20_4
    by_cases c20_5 : x2 = 5
    · replace hf := ifT hf c20_5
      refine r_tswIn X (off := 94) 114 dX9_chamber_20 (by rw [c20_5]; decide) (by rw [c20_5]; decide) (by rw [c20_5]; rfl) rfl ?_
      refine r_aload_n X (x := k.b + (0)) dX9_chamber_114 rfl ?_
      refine r_getfield X (v := .ref (k.b + (4 + 17 * (0 : Fin 2).val))) clsX9 flX9_28 (Nat.le_of_ble_eq_true rfl) _ o_main rfl dX9_chamber_115 ?_
      refine r_iload_n X (x := x1) dX9_chamber_118 rfl ?_
      obtain ⟨u119, h119, hf⟩ := bdS hf
      refine r_callV0 X [.int x1] [] (K1_valvesOf h119) lkX9_260 clsX1 rfl _ (o_lay (0 : Fin 2)) (by decide) (Nat.le_of_ble_eq_true rfl) rfl rfl (Nat.le_of_ble_eq_true rfl) rfl rfl (Nat.zero_le _) (Nat.zero_le _) dX9_chamber_119 ?_
      obtain rfl := Option.some.inj hf
      exact r_ireturn X hQ rfl rfl (Nat.le_of_ble_eq_true rfl) (Nat.le_of_ble_eq_true rfl) dX9_chamber_122
    replace hf := ifF hf c20_5
    by_cases c20_6 : x2 = 6
    · replace hf := ifT hf c20_6
      refine r_tswIn X (off := 103) 123 dX9_chamber_20 (by rw [c20_6]; decide) (by rw [c20_6]; decide) (by rw [c20_6]; rfl) rfl ?_
      refine r_aload_n X (x := k.b + (0)) dX9_chamber_123 rfl ?_
      refine r_getfield X (v := .ref (k.b + (4 + 17 * (0 : Fin 2).val))) clsX9 flX9_28 (Nat.le_of_ble_eq_true rfl) _ o_main rfl dX9_chamber_124 ?_
      refine r_iload_n X (x := x1) dX9_chamber_127 rfl ?_
      obtain ⟨u128, h128, hf⟩ := bdS hf
      refine r_callV0 X [.int x1] [] (K1_pumpsOf h128) lkX9_263 clsX1 rfl _ (o_lay (0 : Fin 2)) (by decide) (Nat.le_of_ble_eq_true rfl) rfl rfl (Nat.le_of_ble_eq_true rfl) rfl rfl (Nat.zero_le _) (Nat.zero_le _) dX9_chamber_128 ?_
      obtain rfl := Option.some.inj hf
      exact r_ireturn X hQ rfl rfl (Nat.le_of_ble_eq_true rfl) (Nat.le_of_ble_eq_true rfl) dX9_chamber_131
    replace hf := ifF hf c20_6
    refine r_tswOut X 132 dX9_chamber_20 (tsw_out (fun v hv1 hv2 => by
      rcases (show v = 0 ∨ v = 1 ∨ v = 2 ∨ v = 3 ∨ v = 4 ∨ v = 5 ∨ v = 6 by omega) with rfl | rfl | rfl | rfl | rfl | rfl | rfl
      · exact c20_0
      · exact c20_1
      · exact c20_2
      · exact c20_3
      · exact c20_4
      · exact c20_5
      · exact c20_6
      )) rfl ?_
    cases hf
  · replace hf := ifT hf c8
    cases hf
set_option maxRecDepth 100000 in
set_option maxHeartbeats 4000000 in
theorem K9_gas {k : KT} {T : TT} {R : RR} {ly : Fin 2 → LL} {rc : RC} {hn : HN} {rp : RP} {tp : TP} {ee : EE} {st : Fin 12 → SS}  {x1 : Int32} {r : Int64} (hf : f9_gas (ly (0 : Fin 2)) tp st  x1 = some r) : CT k strs yX9_gas cX9_gas 2 (some .long) (rmD 1 0 0) 0 0 [.ref (k.b + (0)), .int x1] (wAll k T R ly rc hn rp tp ee st) (some (.long r)) (wAll k T R ly rc hn rp tp ee st) := by
  refine CT.of (by decide) (Nat.le_of_ble_eq_true rfl) ?_
  intro z X hQ
  show VW k z 0 0 (wAll k T R ly rc hn rp tp ee st) 0 [some (.ref (k.b + (0))), some (.int x1)] []
  unfold f9_gas at hf
  refine r_aload_n X (x := k.b + (0)) dX9_gas_0 rfl ?_
  refine r_getfield X (v := .ref (k.b + (4 + 17 * (0 : Fin 2).val))) clsX9 flX9_28 (Nat.le_of_ble_eq_true rfl) _ o_main rfl dX9_gas_1 ?_
  refine r_iload_n X (x := x1) dX9_gas_4 rfl ?_
  obtain ⟨u5, h5, hf⟩ := bdS hf
  refine r_callV0 X [.int x1] [] (K1_hasChamber h5) lkX9_185 clsX1 rfl _ (o_lay (0 : Fin 2)) (by decide) (Nat.le_of_ble_eq_true rfl) rfl rfl (Nat.le_of_ble_eq_true rfl) rfl rfl (Nat.zero_le _) (Nat.zero_le _) dX9_gas_5 ?_
  refine r_if_ne X 19 dX9_gas_8 rfl (fun c8 => ?_) (fun c8 => ?_)
  · replace hf := ifF hf c8
    refine r_aload_n X (x := k.b + (0)) dX9_gas_19 rfl ?_
    refine r_getfield X (v := .ref (k.b + (45 + 12 * (TP_pr tp).val))) clsX9 flX9_73 (Nat.le_of_ble_eq_true rfl) _ o_main rfl dX9_gas_20 ?_
    refine r_getfield X (v := .ref (k.b + (45 + 12 * (TP_pr tp).val + 1))) clsX5 flX9_266 (Nat.le_of_ble_eq_true rfl) _ (o_st (TP_pr tp)) rfl dX9_gas_23 ?_
    refine r_iload_n X (x := x1) dX9_gas_26 rfl ?_
    obtain ⟨g27, hf⟩ := gdS hf
    refine r_laload X (f := SS_gas (st (TP_pr tp))) _ (a_st_gas (TP_pr tp)) g27 dX9_gas_27 ?_
    obtain rfl := Option.some.inj hf
    exact r_lreturn X hQ rfl rfl (Nat.le_of_ble_eq_true rfl) (Nat.le_of_ble_eq_true rfl) dX9_gas_28
  · replace hf := ifT hf c8
    cases hf
set_option maxRecDepth 100000 in
set_option maxHeartbeats 4000000 in
theorem K9_told {k : KT} {T : TT} {R : RR} {ly : Fin 2 → LL} {rc : RC} {hn : HN} {rp : RP} {tp : TP} {ee : EE} {st : Fin 12 → SS}  {x0 : Int32} {r : Int32} (hf : f9_told   x0 = some r) : CT k strs yX9_told cX9_told 1 (some .int) (rmD 0 0 0) 0 0 [.int x0] (wAll k T R ly rc hn rp tp ee st) (some (.int r)) (wAll k T R ly rc hn rp tp ee st) := by
  refine CT.of (by decide) (Nat.le_of_ble_eq_true rfl) ?_
  intro z X hQ
  show VW k z 0 0 (wAll k T R ly rc hn rp tp ee st) 0 [some (.int x0)] []
  unfold f9_told at hf
  refine r_iload_n X (x := x0) dX9_told_0 rfl ?_
  refine r_bipush X (v := 8) dX9_told_1 rfl ?_
  suffices K3 : VW k z 0 0 (wAll k T R ly rc hn rp tp ee st) 11 [some (.int x0)] [.int (if x0 = 8 then ((-1) : Int32) else (x0 : Int32))] by
    refine r_icmp_ne X 10 dX9_told_3 rfl (fun c3 => ?_) (fun c3 => ?_)
    · refine r_iload_n X (x := x0) dX9_told_10 rfl ?_
      rw [if_neg c3] at K3
      exact K3
    · refine r_iconst X (v := (-1)) dX9_told_6 rfl ?_
      refine r_goto X 11 dX9_told_7 rfl ?_
      rw [if_pos c3] at K3
      exact K3
  obtain rfl := Option.some.inj hf
  exact r_ireturn X hQ rfl rfl (Nat.le_of_ble_eq_true rfl) (Nat.le_of_ble_eq_true rfl) dX9_told_11
set_option maxRecDepth 100000 in
set_option maxHeartbeats 4000000 in
theorem K9_pump {k : KT} {T : TT} {R : RR} {ly : Fin 2 → LL} {rc : RC} {hn : HN} {rp : RP} {tp : TP} {ee : EE} {st : Fin 12 → SS}  {x1 : Int32} {x2 : Int32} {r : Int32} (hf : f9_pump (ly (0 : Fin 2)) tp st  x1 x2 = some r) : CT k strs yX9_pump cX9_pump 3 (some .int) (rmD 1 0 0) 0 0 [.ref (k.b + (0)), .int x1, .int x2] (wAll k T R ly rc hn rp tp ee st) (some (.int r)) (wAll k T R ly rc hn rp tp ee st) := by
  refine CT.of (by decide) (Nat.le_of_ble_eq_true rfl) ?_
  intro z X hQ
  show VW k z 0 0 (wAll k T R ly rc hn rp tp ee st) 0 [some (.ref (k.b + (0))), some (.int x1), some (.int x2)] []
  unfold f9_pump at hf
  refine r_aload_n X (x := k.b + (0)) dX9_pump_0 rfl ?_
  refine r_getfield X (v := .ref (k.b + (4 + 17 * (0 : Fin 2).val))) clsX9 flX9_28 (Nat.le_of_ble_eq_true rfl) _ o_main rfl dX9_pump_1 ?_
  refine r_iload_n X (x := x1) dX9_pump_4 rfl ?_
  obtain ⟨u5, h5, hf⟩ := bdS hf
  refine r_callV0 X [.int x1] [] (K1_hasPump h5) lkX9_157 clsX1 rfl _ (o_lay (0 : Fin 2)) (by decide) (Nat.le_of_ble_eq_true rfl) rfl rfl (Nat.le_of_ble_eq_true rfl) rfl rfl (Nat.zero_le _) (Nat.zero_le _) dX9_pump_5 ?_
  refine r_if_ne X 19 dX9_pump_8 rfl (fun c8 => ?_) (fun c8 => ?_)
  · replace hf := ifF hf c8
    refine r_iload_n X (x := x2) dX9_pump_19 rfl ?_
    by_cases c20_0 : x2 = 0
    · replace hf := ifT hf c20_0
      refine r_tswIn X (off := 48) 68 dX9_pump_20 (by rw [c20_0]; decide) (by rw [c20_0]; decide) (by rw [c20_0]; rfl) rfl ?_
      refine r_aload_n X (x := k.b + (0)) dX9_pump_68 rfl ?_
      refine r_getfield X (v := .ref (k.b + (4 + 17 * (0 : Fin 2).val))) clsX9 flX9_28 (Nat.le_of_ble_eq_true rfl) _ o_main rfl dX9_pump_69 ?_
      refine r_getfield X (v := .ref (k.b + (4 + 17 * (0 : Fin 2).val + 4))) clsX1 flX9_170 (Nat.le_of_ble_eq_true rfl) _ (o_lay (0 : Fin 2)) rfl dX9_pump_72 ?_
      refine r_iload_n X (x := x1) dX9_pump_75 rfl ?_
      obtain ⟨g76, hf⟩ := gdS hf
      refine r_iaload X (f := LL_pumpChamber (ly (0 : Fin 2))) _ (a_lay_pumpChamber (0 : Fin 2)) g76 dX9_pump_76 ?_
      obtain rfl := Option.some.inj hf
      exact r_ireturn X hQ rfl rfl (Nat.le_of_ble_eq_true rfl) (Nat.le_of_ble_eq_true rfl) dX9_pump_77
    replace hf := ifF hf c20_0
    by_cases c20_1 : x2 = 1
    · replace hf := ifT hf c20_1
      refine r_tswIn X (off := 58) 78 dX9_pump_20 (by rw [c20_1]; decide) (by rw [c20_1]; decide) (by rw [c20_1]; rfl) rfl ?_
      refine r_aload_n X (x := k.b + (0)) dX9_pump_78 rfl ?_
      refine r_getfield X (v := .ref (k.b + (4 + 17 * (0 : Fin 2).val))) clsX9 flX9_28 (Nat.le_of_ble_eq_true rfl) _ o_main rfl dX9_pump_79 ?_
      refine r_getfield X (v := .ref (k.b + (4 + 17 * (0 : Fin 2).val + 5))) clsX1 flX9_270 (Nat.le_of_ble_eq_true rfl) _ (o_lay (0 : Fin 2)) rfl dX9_pump_82 ?_
      refine r_iload_n X (x := x1) dX9_pump_85 rfl ?_
      obtain ⟨g86, hf⟩ := gdS hf
      refine r_iaload X (f := LL_exhaust (ly (0 : Fin 2))) _ (a_lay_exhaust (0 : Fin 2)) g86 dX9_pump_86 ?_
      obtain ⟨u87, h87, hf⟩ := bdS hf
      refine r_callS0 X [.int ((LL_exhaust (ly (0 : Fin 2))) (ix x1))] [] (K9_told h87) lkX9_273 (by decide) (Nat.le_of_ble_eq_true rfl) rfl rfl (Nat.le_of_ble_eq_true rfl) rfl rfl (Nat.zero_le _) (Nat.zero_le _) dX9_pump_87 ?_
      obtain rfl := Option.some.inj hf
      exact r_ireturn X hQ rfl rfl (Nat.le_of_ble_eq_true rfl) (Nat.le_of_ble_eq_true rfl) dX9_pump_90
    replace hf := ifF hf c20_1
    by_cases c20_2 : x2 = 2
    · replace hf := ifT hf c20_2
      refine r_tswIn X (off := 71) 91 dX9_pump_20 (by rw [c20_2]; decide) (by rw [c20_2]; decide) (by rw [c20_2]; rfl) rfl ?_
      refine r_aload_n X (x := k.b + (0)) dX9_pump_91 rfl ?_
      refine r_getfield X (v := .ref (k.b + (4 + 17 * (0 : Fin 2).val))) clsX9 flX9_28 (Nat.le_of_ble_eq_true rfl) _ o_main rfl dX9_pump_92 ?_
      refine r_getfield X (v := .ref (k.b + (4 + 17 * (0 : Fin 2).val + 6))) clsX1 flX9_276 (Nat.le_of_ble_eq_true rfl) _ (o_lay (0 : Fin 2)) rfl dX9_pump_95 ?_
      refine r_iload_n X (x := x1) dX9_pump_98 rfl ?_
      obtain ⟨g99, hf⟩ := gdS hf
      refine r_iaload X (f := LL_speed (ly (0 : Fin 2))) _ (a_lay_speed (0 : Fin 2)) g99 dX9_pump_99 ?_
      obtain rfl := Option.some.inj hf
      exact r_ireturn X hQ rfl rfl (Nat.le_of_ble_eq_true rfl) (Nat.le_of_ble_eq_true rfl) dX9_pump_100
    replace hf := ifF hf c20_2
    by_cases c20_3 : x2 = 3
    · replace hf := ifT hf c20_3
      refine r_tswIn X (off := 81) 101 dX9_pump_20 (by rw [c20_3]; decide) (by rw [c20_3]; decide) (by rw [c20_3]; rfl) rfl ?_
      refine r_aload_n X (x := k.b + (0)) dX9_pump_101 rfl ?_
      refine r_getfield X (v := .ref (k.b + (4 + 17 * (0 : Fin 2).val))) clsX9 flX9_28 (Nat.le_of_ble_eq_true rfl) _ o_main rfl dX9_pump_102 ?_
      refine r_getfield X (v := .ref (k.b + (4 + 17 * (0 : Fin 2).val + 7))) clsX1 flX9_279 (Nat.le_of_ble_eq_true rfl) _ (o_lay (0 : Fin 2)) rfl dX9_pump_105 ?_
      refine r_iload_n X (x := x1) dX9_pump_108 rfl ?_
      obtain ⟨g109, hf⟩ := gdS hf
      refine r_iaload X (f := LL_low (ly (0 : Fin 2))) _ (a_lay_low (0 : Fin 2)) g109 dX9_pump_109 ?_
      obtain rfl := Option.some.inj hf
      exact r_ireturn X hQ rfl rfl (Nat.le_of_ble_eq_true rfl) (Nat.le_of_ble_eq_true rfl) dX9_pump_110
    replace hf := ifF hf c20_3
    by_cases c20_4 : x2 = 4
    · replace hf := ifT hf c20_4
      refine r_tswIn X (off := 91) 111 dX9_pump_20 (by rw [c20_4]; decide) (by rw [c20_4]; decide) (by rw [c20_4]; rfl) rfl ?_
      refine r_aload_n X (x := k.b + (0)) dX9_pump_111 rfl ?_
      refine r_getfield X (v := .ref (k.b + (4 + 17 * (0 : Fin 2).val))) clsX9 flX9_28 (Nat.le_of_ble_eq_true rfl) _ o_main rfl dX9_pump_112 ?_
      refine r_getfield X (v := .ref (k.b + (4 + 17 * (0 : Fin 2).val + 8))) clsX1 flX9_282 (Nat.le_of_ble_eq_true rfl) _ (o_lay (0 : Fin 2)) rfl dX9_pump_115 ?_
      refine r_iload_n X (x := x1) dX9_pump_118 rfl ?_
      obtain ⟨g119, hf⟩ := gdS hf
      refine r_iaload X (f := LL_high (ly (0 : Fin 2))) _ (a_lay_high (0 : Fin 2)) g119 dX9_pump_119 ?_
      obtain rfl := Option.some.inj hf
      exact r_ireturn X hQ rfl rfl (Nat.le_of_ble_eq_true rfl) (Nat.le_of_ble_eq_true rfl) dX9_pump_120
    replace hf := ifF hf c20_4
    by_cases c20_5 : x2 = 5
    · replace hf := ifT hf c20_5
      refine r_tswIn X (off := 101) 121 dX9_pump_20 (by rw [c20_5]; decide) (by rw [c20_5]; decide) (by rw [c20_5]; rfl) rfl ?_
      refine r_aload_n X (x := k.b + (0)) dX9_pump_121 rfl ?_
      refine r_getfield X (v := .ref (k.b + (4 + 17 * (0 : Fin 2).val))) clsX9 flX9_28 (Nat.le_of_ble_eq_true rfl) _ o_main rfl dX9_pump_122 ?_
      refine r_getfield X (v := .ref (k.b + (4 + 17 * (0 : Fin 2).val + 5))) clsX1 flX9_270 (Nat.le_of_ble_eq_true rfl) _ (o_lay (0 : Fin 2)) rfl dX9_pump_125 ?_
      refine r_iload_n X (x := x1) dX9_pump_128 rfl ?_
      obtain ⟨g129, hf⟩ := gdS hf
      refine r_iaload X (f := LL_exhaust (ly (0 : Fin 2))) _ (a_lay_exhaust (0 : Fin 2)) g129 dX9_pump_129 ?_
      refine r_bipush X (v := 8) dX9_pump_130 rfl ?_
      refine r_icmp_ne X 139 dX9_pump_132 rfl (fun c132 => ?_) (fun c132 => ?_)
      · replace hf := ifF hf c132
        refine r_aload_n X (x := k.b + (0)) dX9_pump_139 rfl ?_
        refine r_getfield X (v := .ref (k.b + (4 + 17 * (0 : Fin 2).val))) clsX9 flX9_28 (Nat.le_of_ble_eq_true rfl) _ o_main rfl dX9_pump_140 ?_
        refine r_getfield X (v := .ref (k.b + (4 + 17 * (0 : Fin 2).val + 9))) clsX1 flX9_285 (Nat.le_of_ble_eq_true rfl) _ (o_lay (0 : Fin 2)) rfl dX9_pump_143 ?_
        refine r_iload_n X (x := x1) dX9_pump_146 rfl ?_
        refine r_iaload X (f := LL_backing (ly (0 : Fin 2))) _ (a_lay_backing (0 : Fin 2)) g129 dX9_pump_147 ?_
        obtain rfl := Option.some.inj hf
        exact r_ireturn X hQ rfl rfl (Nat.le_of_ble_eq_true rfl) (Nat.le_of_ble_eq_true rfl) dX9_pump_148
      · replace hf := ifT hf c132
        refine r_iconst X (v := (-1)) dX9_pump_135 rfl ?_
        refine r_goto X 148 dX9_pump_136 rfl ?_
        obtain rfl := Option.some.inj hf
        exact r_ireturn X hQ rfl rfl (Nat.le_of_ble_eq_true rfl) (Nat.le_of_ble_eq_true rfl) dX9_pump_148
    replace hf := ifF hf c20_5
    by_cases c20_6 : x2 = 6
    · replace hf := ifT hf c20_6
      refine r_tswIn X (off := 129) 149 dX9_pump_20 (by rw [c20_6]; decide) (by rw [c20_6]; decide) (by rw [c20_6]; rfl) rfl ?_
      refine r_aload_n X (x := k.b + (0)) dX9_pump_149 rfl ?_
      refine r_getfield X (v := .ref (k.b + (45 + 12 * (TP_pr tp).val))) clsX9 flX9_73 (Nat.le_of_ble_eq_true rfl) _ o_main rfl dX9_pump_150 ?_
      refine r_iload_n X (x := x1) dX9_pump_153 rfl ?_
      obtain ⟨u154, h154, hf⟩ := bdS hf
      refine r_callV0 X [.int x1] [] (CT_unS (W := fun zz => wAll k T R ly rc hn rp tp ee zz) (W2 := fun zz => wAll k T R ly rc hn rp tp ee zz) (st := st) (TP_pr tp) (K5_isRunning h154)) lkX9_173 clsX5 rfl _ (o_st (TP_pr tp)) (by decide) (Nat.le_of_ble_eq_true rfl) rfl rfl (Nat.le_of_ble_eq_true rfl) rfl rfl (Nat.zero_le _) (Nat.zero_le _) dX9_pump_154 ?_
      suffices K157 : VW k z 0 0 (wAll k T R ly rc hn rp tp ee st) 165 [some (.ref (k.b + (0))), some (.int x1), some (.int x2)] [.int (if u154 = 0 then (0 : Int32) else (1 : Int32))] by
        refine r_if_eq X 164 dX9_pump_157 rfl (fun c157 => ?_) (fun c157 => ?_)
        · refine r_iconst X (v := 0) dX9_pump_164 rfl ?_
          rw [if_pos c157] at K157
          exact K157
        · refine r_iconst X (v := 1) dX9_pump_160 rfl ?_
          refine r_goto X 165 dX9_pump_161 rfl ?_
          rw [if_neg c157] at K157
          exact K157
      obtain rfl := Option.some.inj hf
      exact r_ireturn X hQ rfl rfl (Nat.le_of_ble_eq_true rfl) (Nat.le_of_ble_eq_true rfl) dX9_pump_165
    replace hf := ifF hf c20_6
    by_cases c20_7 : x2 = 7
    · replace hf := ifT hf c20_7
      refine r_tswIn X (off := 146) 166 dX9_pump_20 (by rw [c20_7]; decide) (by rw [c20_7]; decide) (by rw [c20_7]; rfl) rfl ?_
      refine r_aload_n X (x := k.b + (0)) dX9_pump_166 rfl ?_
      refine r_getfield X (v := .ref (k.b + (45 + 12 * (TP_pr tp).val))) clsX9 flX9_73 (Nat.le_of_ble_eq_true rfl) _ o_main rfl dX9_pump_167 ?_
      refine r_getfield X (v := .ref (k.b + (45 + 12 * (TP_pr tp).val + 7))) clsX5 flX9_239 (Nat.le_of_ble_eq_true rfl) _ (o_st (TP_pr tp)) rfl dX9_pump_170 ?_
      refine r_iload_n X (x := x1) dX9_pump_173 rfl ?_
      obtain ⟨g174, hf⟩ := gdS hf
      refine r_iaload X (f := SS_pumpTrips (st (TP_pr tp))) _ (a_st_pumpTrips (TP_pr tp)) g174 dX9_pump_174 ?_
      obtain rfl := Option.some.inj hf
      exact r_ireturn X hQ rfl rfl (Nat.le_of_ble_eq_true rfl) (Nat.le_of_ble_eq_true rfl) dX9_pump_175
    replace hf := ifF hf c20_7
    refine r_tswOut X 176 dX9_pump_20 (tsw_out (fun v hv1 hv2 => by
      rcases (show v = 0 ∨ v = 1 ∨ v = 2 ∨ v = 3 ∨ v = 4 ∨ v = 5 ∨ v = 6 ∨ v = 7 by omega) with rfl | rfl | rfl | rfl | rfl | rfl | rfl | rfl
      · exact c20_0
      · exact c20_1
      · exact c20_2
      · exact c20_3
      · exact c20_4
      · exact c20_5
      · exact c20_6
      · exact c20_7
      )) rfl ?_
    cases hf
  · replace hf := ifT hf c8
    cases hf
set_option maxRecDepth 100000 in
set_option maxHeartbeats 4000000 in
theorem K9_valve {k : KT} {T : TT} {R : RR} {ly : Fin 2 → LL} {rc : RC} {hn : HN} {rp : RP} {tp : TP} {ee : EE} {st : Fin 12 → SS}  {x1 : Int32} {x2 : Int32} {r : Int32} (hf : f9_valve (ly (0 : Fin 2)) tp st  x1 x2 = some r) : CT k strs yX9_valve cX9_valve 3 (some .int) (rmD 2 0 0) 0 0 [.ref (k.b + (0)), .int x1, .int x2] (wAll k T R ly rc hn rp tp ee st) (some (.int r)) (wAll k T R ly rc hn rp tp ee st) := by
  refine CT.of (by decide) (Nat.le_of_ble_eq_true rfl) ?_
  intro z X hQ
  show VW k z 0 0 (wAll k T R ly rc hn rp tp ee st) 0 [some (.ref (k.b + (0))), some (.int x1), some (.int x2)] []
  unfold f9_valve at hf
  refine r_aload_n X (x := k.b + (0)) dX9_valve_0 rfl ?_
  refine r_getfield X (v := .ref (k.b + (4 + 17 * (0 : Fin 2).val))) clsX9 flX9_28 (Nat.le_of_ble_eq_true rfl) _ o_main rfl dX9_valve_1 ?_
  refine r_iload_n X (x := x1) dX9_valve_4 rfl ?_
  obtain ⟨u5, h5, hf⟩ := bdS hf
  refine r_callV0 X [.int x1] [] (K1_hasValve h5) lkX9_128 clsX1 rfl _ (o_lay (0 : Fin 2)) (by decide) (Nat.le_of_ble_eq_true rfl) rfl rfl (Nat.le_of_ble_eq_true rfl) rfl rfl (Nat.zero_le _) (Nat.zero_le _) dX9_valve_5 ?_
  refine r_if_ne X 19 dX9_valve_8 rfl (fun c8 => ?_) (fun c8 => ?_)
  · replace hf := ifF hf c8
    refine r_iload_n X (x := x2) dX9_valve_19 rfl ?_
    by_cases c20_0 : x2 = 0
    · replace hf := ifT hf c20_0
      refine r_tswIn X (off := 44) 64 dX9_valve_20 (by rw [c20_0]; decide) (by rw [c20_0]; decide) (by rw [c20_0]; rfl) rfl ?_
      refine r_aload_n X (x := k.b + (0)) dX9_valve_64 rfl ?_
      refine r_getfield X (v := .ref (k.b + (4 + 17 * (0 : Fin 2).val))) clsX9 flX9_28 (Nat.le_of_ble_eq_true rfl) _ o_main rfl dX9_valve_65 ?_
      refine r_getfield X (v := .ref (k.b + (4 + 17 * (0 : Fin 2).val + 10))) clsX1 flX9_288 (Nat.le_of_ble_eq_true rfl) _ (o_lay (0 : Fin 2)) rfl dX9_valve_68 ?_
      refine r_iload_n X (x := x1) dX9_valve_71 rfl ?_
      obtain ⟨g72, hf⟩ := gdS hf
      refine r_iaload X (f := LL_valveChamber (ly (0 : Fin 2))) _ (a_lay_valveChamber (0 : Fin 2)) g72 dX9_valve_72 ?_
      obtain rfl := Option.some.inj hf
      exact r_ireturn X hQ rfl rfl (Nat.le_of_ble_eq_true rfl) (Nat.le_of_ble_eq_true rfl) dX9_valve_73
    replace hf := ifF hf c20_0
    by_cases c20_1 : x2 = 1
    · replace hf := ifT hf c20_1
      refine r_tswIn X (off := 54) 74 dX9_valve_20 (by rw [c20_1]; decide) (by rw [c20_1]; decide) (by rw [c20_1]; rfl) rfl ?_
      refine r_aload_n X (x := k.b + (0)) dX9_valve_74 rfl ?_
      refine r_getfield X (v := .ref (k.b + (4 + 17 * (0 : Fin 2).val))) clsX9 flX9_28 (Nat.le_of_ble_eq_true rfl) _ o_main rfl dX9_valve_75 ?_
      refine r_getfield X (v := .ref (k.b + (4 + 17 * (0 : Fin 2).val + 11))) clsX1 flX9_291 (Nat.le_of_ble_eq_true rfl) _ (o_lay (0 : Fin 2)) rfl dX9_valve_78 ?_
      refine r_iload_n X (x := x1) dX9_valve_81 rfl ?_
      obtain ⟨g82, hf⟩ := gdS hf
      refine r_iaload X (f := LL_otherSide (ly (0 : Fin 2))) _ (a_lay_otherSide (0 : Fin 2)) g82 dX9_valve_82 ?_
      obtain ⟨u83, h83, hf⟩ := bdS hf
      refine r_callS0 X [.int ((LL_otherSide (ly (0 : Fin 2))) (ix x1))] [] (K9_told h83) lkX9_273 (by decide) (Nat.le_of_ble_eq_true rfl) rfl rfl (Nat.le_of_ble_eq_true rfl) rfl rfl (Nat.zero_le _) (Nat.zero_le _) dX9_valve_83 ?_
      obtain rfl := Option.some.inj hf
      exact r_ireturn X hQ rfl rfl (Nat.le_of_ble_eq_true rfl) (Nat.le_of_ble_eq_true rfl) dX9_valve_86
    replace hf := ifF hf c20_1
    by_cases c20_2 : x2 = 2
    · replace hf := ifT hf c20_2
      refine r_tswIn X (off := 67) 87 dX9_valve_20 (by rw [c20_2]; decide) (by rw [c20_2]; decide) (by rw [c20_2]; rfl) rfl ?_
      refine r_aload_n X (x := k.b + (0)) dX9_valve_87 rfl ?_
      refine r_getfield X (v := .ref (k.b + (4 + 17 * (0 : Fin 2).val))) clsX9 flX9_28 (Nat.le_of_ble_eq_true rfl) _ o_main rfl dX9_valve_88 ?_
      refine r_getfield X (v := .ref (k.b + (4 + 17 * (0 : Fin 2).val + 12))) clsX1 flX9_294 (Nat.le_of_ble_eq_true rfl) _ (o_lay (0 : Fin 2)) rfl dX9_valve_91 ?_
      refine r_iload_n X (x := x1) dX9_valve_94 rfl ?_
      obtain ⟨g95, hf⟩ := gdS hf
      refine r_iaload X (f := LL_conductance (ly (0 : Fin 2))) _ (a_lay_conductance (0 : Fin 2)) g95 dX9_valve_95 ?_
      obtain rfl := Option.some.inj hf
      exact r_ireturn X hQ rfl rfl (Nat.le_of_ble_eq_true rfl) (Nat.le_of_ble_eq_true rfl) dX9_valve_96
    replace hf := ifF hf c20_2
    by_cases c20_3 : x2 = 3
    · replace hf := ifT hf c20_3
      refine r_tswIn X (off := 77) 97 dX9_valve_20 (by rw [c20_3]; decide) (by rw [c20_3]; decide) (by rw [c20_3]; rfl) rfl ?_
      refine r_aload_n X (x := k.b + (0)) dX9_valve_97 rfl ?_
      refine r_getfield X (v := .ref (k.b + (45 + 12 * (TP_pr tp).val))) clsX9 flX9_73 (Nat.le_of_ble_eq_true rfl) _ o_main rfl dX9_valve_98 ?_
      refine r_getfield X (v := .ref (k.b + (45 + 12 * (TP_pr tp).val + 5))) clsX5 flX9_204 (Nat.le_of_ble_eq_true rfl) _ (o_st (TP_pr tp)) rfl dX9_valve_101 ?_
      refine r_iload_n X (x := x1) dX9_valve_104 rfl ?_
      obtain ⟨g105, hf⟩ := gdS hf
      refine r_iaload X (f := SS_rule (st (TP_pr tp))) _ (a_st_rule (TP_pr tp)) g105 dX9_valve_105 ?_
      obtain rfl := Option.some.inj hf
      exact r_ireturn X hQ rfl rfl (Nat.le_of_ble_eq_true rfl) (Nat.le_of_ble_eq_true rfl) dX9_valve_106
    replace hf := ifF hf c20_3
    by_cases c20_4 : x2 = 4
    · replace hf := ifT hf c20_4
      refine r_tswIn X (off := 87) 107 dX9_valve_20 (by rw [c20_4]; decide) (by rw [c20_4]; decide) (by rw [c20_4]; rfl) rfl ?_
      refine r_aload_n X (x := k.b + (0)) dX9_valve_107 rfl ?_
      refine r_getfield X (v := .ref (k.b + (45 + 12 * (TP_pr tp).val))) clsX9 flX9_73 (Nat.le_of_ble_eq_true rfl) _ o_main rfl dX9_valve_108 ?_
      refine r_iload_n X (x := x1) dX9_valve_111 rfl ?_
      obtain ⟨u112, h112, hf⟩ := bdS hf
      refine r_callV0 X [.int x1] [] (CT_unS (W := fun zz => wAll k T R ly rc hn rp tp ee zz) (W2 := fun zz => wAll k T R ly rc hn rp tp ee zz) (st := st) (TP_pr tp) (K5_isOpen h112)) lkX9_151 clsX5 rfl _ (o_st (TP_pr tp)) (by decide) (Nat.le_of_ble_eq_true rfl) rfl rfl (Nat.le_of_ble_eq_true rfl) rfl rfl (Nat.zero_le _) (Nat.zero_le _) dX9_valve_112 ?_
      suffices K115 : VW k z 0 0 (wAll k T R ly rc hn rp tp ee st) 123 [some (.ref (k.b + (0))), some (.int x1), some (.int x2)] [.int (if u112 = 0 then (0 : Int32) else (1 : Int32))] by
        refine r_if_eq X 122 dX9_valve_115 rfl (fun c115 => ?_) (fun c115 => ?_)
        · refine r_iconst X (v := 0) dX9_valve_122 rfl ?_
          rw [if_pos c115] at K115
          exact K115
        · refine r_iconst X (v := 1) dX9_valve_118 rfl ?_
          refine r_goto X 123 dX9_valve_119 rfl ?_
          rw [if_neg c115] at K115
          exact K115
      obtain rfl := Option.some.inj hf
      exact r_ireturn X hQ rfl rfl (Nat.le_of_ble_eq_true rfl) (Nat.le_of_ble_eq_true rfl) dX9_valve_123
    replace hf := ifF hf c20_4
    by_cases c20_5 : x2 = 5
    · replace hf := ifT hf c20_5
      refine r_tswIn X (off := 104) 124 dX9_valve_20 (by rw [c20_5]; decide) (by rw [c20_5]; decide) (by rw [c20_5]; rfl) rfl ?_
      refine r_aload_n X (x := k.b + (0)) dX9_valve_124 rfl ?_
      refine r_getfield X (v := .ref (k.b + (45 + 12 * (TP_pr tp).val))) clsX9 flX9_73 (Nat.le_of_ble_eq_true rfl) _ o_main rfl dX9_valve_125 ?_
      refine r_getfield X (v := .ref (k.b + (45 + 12 * (TP_pr tp).val + 6))) clsX5 flX9_232 (Nat.le_of_ble_eq_true rfl) _ (o_st (TP_pr tp)) rfl dX9_valve_128 ?_
      refine r_iload_n X (x := x1) dX9_valve_131 rfl ?_
      obtain ⟨g132, hf⟩ := gdS hf
      refine r_iaload X (f := SS_valveTrips (st (TP_pr tp))) _ (a_st_valveTrips (TP_pr tp)) g132 dX9_valve_132 ?_
      obtain rfl := Option.some.inj hf
      exact r_ireturn X hQ rfl rfl (Nat.le_of_ble_eq_true rfl) (Nat.le_of_ble_eq_true rfl) dX9_valve_133
    replace hf := ifF hf c20_5
    by_cases c20_6 : x2 = 6
    · replace hf := ifT hf c20_6
      refine r_tswIn X (off := 114) 134 dX9_valve_20 (by rw [c20_6]; decide) (by rw [c20_6]; decide) (by rw [c20_6]; rfl) rfl ?_
      refine r_aload_n X (x := k.b + (0)) dX9_valve_134 rfl ?_
      refine r_getfield X (v := .ref (k.b + (45 + 12 * (TP_pr tp).val))) clsX9 flX9_73 (Nat.le_of_ble_eq_true rfl) _ o_main rfl dX9_valve_135 ?_
      refine r_iload_n X (x := x1) dX9_valve_138 rfl ?_
      obtain ⟨u139, h139, hf⟩ := bdS hf
      refine r_callV0 X [.int x1] [] (CT_unS (W := fun zz => wAll k T R ly rc hn rp tp ee zz) (W2 := fun zz => wAll k T R ly rc hn rp tp ee zz) (st := st) (TP_pr tp) (K5_difference h139)) lkX9_148 clsX5 rfl _ (o_st (TP_pr tp)) (by decide) (Nat.le_of_ble_eq_true rfl) rfl rfl (Nat.le_of_ble_eq_true rfl) rfl rfl (Nat.zero_le _) (Nat.zero_le _) dX9_valve_139 ?_
      obtain rfl := Option.some.inj hf
      exact r_ireturn X hQ rfl rfl (Nat.le_of_ble_eq_true rfl) (Nat.le_of_ble_eq_true rfl) dX9_valve_142
    replace hf := ifF hf c20_6
    refine r_tswOut X 143 dX9_valve_20 (tsw_out (fun v hv1 hv2 => by
      rcases (show v = 0 ∨ v = 1 ∨ v = 2 ∨ v = 3 ∨ v = 4 ∨ v = 5 ∨ v = 6 by omega) with rfl | rfl | rfl | rfl | rfl | rfl | rfl
      · exact c20_0
      · exact c20_1
      · exact c20_2
      · exact c20_3
      · exact c20_4
      · exact c20_5
      · exact c20_6
      )) rfl ?_
    cases hf
  · replace hf := ifT hf c8
    cases hf
set_option maxRecDepth 100000 in
set_option maxHeartbeats 4000000 in
theorem K9_flange {k : KT} {T : TT} {R : RR} {ly : Fin 2 → LL} {rc : RC} {hn : HN} {rp : RP} {tp : TP} {ee : EE} {st : Fin 12 → SS}  {x1 : Int32} {x2 : Int32} {r : Int32} (hf : f9_flange (ly (0 : Fin 2)) tp st  x1 x2 = some r) : CT k strs yX9_flange cX9_flange 3 (some .int) (rmD 1 0 0) 0 0 [.ref (k.b + (0)), .int x1, .int x2] (wAll k T R ly rc hn rp tp ee st) (some (.int r)) (wAll k T R ly rc hn rp tp ee st) := by
  refine CT.of (by decide) (Nat.le_of_ble_eq_true rfl) ?_
  intro z X hQ
  show VW k z 0 0 (wAll k T R ly rc hn rp tp ee st) 0 [some (.ref (k.b + (0))), some (.int x1), some (.int x2)] []
  unfold f9_flange at hf
  refine r_aload_n X (x := k.b + (0)) dX9_flange_0 rfl ?_
  refine r_getfield X (v := .ref (k.b + (4 + 17 * (0 : Fin 2).val))) clsX9 flX9_28 (Nat.le_of_ble_eq_true rfl) _ o_main rfl dX9_flange_1 ?_
  refine r_iload_n X (x := x1) dX9_flange_4 rfl ?_
  obtain ⟨u5, h5, hf⟩ := bdS hf
  refine r_callV0 X [.int x1] [] (K1_hasFlange h5) lkX9_195 clsX1 rfl _ (o_lay (0 : Fin 2)) (by decide) (Nat.le_of_ble_eq_true rfl) rfl rfl (Nat.le_of_ble_eq_true rfl) rfl rfl (Nat.zero_le _) (Nat.zero_le _) dX9_flange_5 ?_
  refine r_if_ne X 19 dX9_flange_8 rfl (fun c8 => ?_) (fun c8 => ?_)
  · replace hf := ifF hf c8
    refine r_iload_n X (x := x2) dX9_flange_19 rfl ?_
    by_cases c20_0 : x2 = 0
    · replace hf := ifT hf c20_0
      refine r_lookup X (off := 28) 48 dX9_flange_20 rfl (by rw [c20_0]; rfl) rfl ?_
      refine r_aload_n X (x := k.b + (0)) dX9_flange_48 rfl ?_
      refine r_getfield X (v := .ref (k.b + (4 + 17 * (0 : Fin 2).val))) clsX9 flX9_28 (Nat.le_of_ble_eq_true rfl) _ o_main rfl dX9_flange_49 ?_
      refine r_getfield X (v := .ref (k.b + (4 + 17 * (0 : Fin 2).val + 14))) clsX1 flX9_297 (Nat.le_of_ble_eq_true rfl) _ (o_lay (0 : Fin 2)) rfl dX9_flange_52 ?_
      refine r_iload_n X (x := x1) dX9_flange_55 rfl ?_
      obtain ⟨g56, hf⟩ := gdS hf
      refine r_iaload X (f := LL_flangeChamber (ly (0 : Fin 2))) _ (a_lay_flangeChamber (0 : Fin 2)) g56 dX9_flange_56 ?_
      obtain rfl := Option.some.inj hf
      exact r_ireturn X hQ rfl rfl (Nat.le_of_ble_eq_true rfl) (Nat.le_of_ble_eq_true rfl) dX9_flange_57
    replace hf := ifF hf c20_0
    by_cases c20_1 : x2 = 1
    · replace hf := ifT hf c20_1
      refine r_lookup X (off := 38) 58 dX9_flange_20 rfl (by rw [c20_1]; rfl) rfl ?_
      refine r_aload_n X (x := k.b + (0)) dX9_flange_58 rfl ?_
      refine r_getfield X (v := .ref (k.b + (45 + 12 * (TP_pr tp).val))) clsX9 flX9_73 (Nat.le_of_ble_eq_true rfl) _ o_main rfl dX9_flange_59 ?_
      refine r_getfield X (v := .ref (k.b + (45 + 12 * (TP_pr tp).val + 8))) clsX5 flX9_300 (Nat.le_of_ble_eq_true rfl) _ (o_st (TP_pr tp)) rfl dX9_flange_62 ?_
      refine r_iload_n X (x := x1) dX9_flange_65 rfl ?_
      obtain ⟨g66, hf⟩ := gdS hf
      refine r_iaload X (f := SS_leak (st (TP_pr tp))) _ (a_st_leak (TP_pr tp)) g66 dX9_flange_66 ?_
      obtain rfl := Option.some.inj hf
      exact r_ireturn X hQ rfl rfl (Nat.le_of_ble_eq_true rfl) (Nat.le_of_ble_eq_true rfl) dX9_flange_67
    replace hf := ifF hf c20_1
    refine r_lookup X (off := 48) 68 dX9_flange_20 rfl (by
      dsimp only
      rw [lv_osw c20_0 (by decide)]
      rw [lv_osw c20_1 (by decide)]
      rfl
      ) rfl ?_
    cases hf
  · replace hf := ifT hf c8
    cases hf
set_option maxRecDepth 100000 in
set_option maxHeartbeats 4000000 in
theorem K9_rise {k : KT} {T : TT} {R : RR} {ly : Fin 2 → LL} {rc : RC} {hn : HN} {rp : RP} {tp : TP} {ee : EE} {st : Fin 12 → SS}  {x1 : Int32} {x2 : Int32} {r : Int32} (hf : f9_rise tp st  x1 x2 = some r) : CT k strs yX9_rise cX9_rise 3 (some .int) (rmD 2 0 0) 0 0 [.ref (k.b + (0)), .int x1, .int x2] (wAll k T R ly rc hn rp tp ee st) (some (.int r)) (wAll k T R ly rc hn rp tp ee st) := by
  refine CT.of (by decide) (Nat.le_of_ble_eq_true rfl) ?_
  intro z X hQ
  show VW k z 0 0 (wAll k T R ly rc hn rp tp ee st) 0 [some (.ref (k.b + (0))), some (.int x1), some (.int x2)] []
  unfold f9_rise at hf
  refine r_iload_n X (x := x1) dX9_rise_0 rfl ?_
  refine r_if_lt X 18 dX9_rise_1 rfl (fun c1 => ?_) (fun c1 => ?_)
  · replace hf := ifT hf c1
    cases hf
  · replace hf := ifF hf c1
    refine r_iload_n X (x := x1) dX9_rise_4 rfl ?_
    refine r_aload_n X (x := k.b + (0)) dX9_rise_5 rfl ?_
    refine r_getfield X (v := .ref (k.b + (45 + 12 * (TP_pr tp).val))) clsX9 flX9_73 (Nat.le_of_ble_eq_true rfl) _ o_main rfl dX9_rise_6 ?_
    refine r_getfield X (v := .ref (k.b + (45 + 12 * (TP_pr tp).val + 9))) clsX5 flX9_242 (Nat.le_of_ble_eq_true rfl) _ (o_st (TP_pr tp)) rfl dX9_rise_9 ?_
    refine r_getfield X (v := .int (SS_kept (st (TP_pr tp)))) clsX7 flX9_246 (Nat.le_of_ble_eq_true rfl) _ (o_tl (TP_pr tp)) rfl dX9_rise_12 ?_
    refine r_icmp_lt X 26 dX9_rise_15 rfl (fun c15 => ?_) (fun c15 => ?_)
    · replace hf := ifT hf c15
      refine r_iload_n X (x := x2) dX9_rise_26 rfl ?_
      refine r_if_lt X 35 dX9_rise_27 rfl (fun c27 => ?_) (fun c27 => ?_)
      · replace hf := ifT hf c27
        cases hf
      · replace hf := ifF hf c27
        refine r_iload_n X (x := x2) dX9_rise_30 rfl ?_
        refine r_iconst X (v := 4) dX9_rise_31 rfl ?_
        refine r_icmp_lt X 43 dX9_rise_32 rfl (fun c32 => ?_) (fun c32 => ?_)
        · replace hf := ifT hf c32
          refine r_aload_n X (x := k.b + (0)) dX9_rise_43 rfl ?_
          refine r_getfield X (v := .ref (k.b + (45 + 12 * (TP_pr tp).val))) clsX9 flX9_73 (Nat.le_of_ble_eq_true rfl) _ o_main rfl dX9_rise_44 ?_
          refine r_getfield X (v := .ref (k.b + (45 + 12 * (TP_pr tp).val + 9))) clsX5 flX9_242 (Nat.le_of_ble_eq_true rfl) _ (o_st (TP_pr tp)) rfl dX9_rise_47 ?_
          refine r_iload_n X (x := x1) dX9_rise_50 rfl ?_
          refine r_iload_n X (x := x2) dX9_rise_51 rfl ?_
          obtain ⟨u52, h52, hf⟩ := bdS hf
          refine r_callV0 X [.int x1, .int x2] [] (CT_unS (W := fun zz => wAll k T R ly rc hn rp tp ee zz) (W2 := fun zz => wAll k T R ly rc hn rp tp ee zz) (st := st) (TP_pr tp) (K7_fact h52)) lkX9_303 clsX7 rfl _ (o_tl (TP_pr tp)) (by decide) (Nat.le_of_ble_eq_true rfl) rfl rfl (Nat.le_of_ble_eq_true rfl) rfl rfl (Nat.zero_le _) (Nat.zero_le _) dX9_rise_52 ?_
          obtain rfl := Option.some.inj hf
          exact r_ireturn X hQ rfl rfl (Nat.le_of_ble_eq_true rfl) (Nat.le_of_ble_eq_true rfl) dX9_rise_55
        · replace hf := ifF hf c32
          cases hf
    · replace hf := ifF hf c15
      cases hf
set_option maxRecDepth 100000 in
set_option maxHeartbeats 4000000 in
theorem K9_riseGas {k : KT} {T : TT} {R : RR} {ly : Fin 2 → LL} {rc : RC} {hn : HN} {rp : RP} {tp : TP} {ee : EE} {st : Fin 12 → SS}  {x1 : Int32} {x2 : Int32} {r : Int64} (hf : f9_riseGas tp st  x1 x2 = some r) : CT k strs yX9_riseGas cX9_riseGas 3 (some .long) (rmD 2 0 0) 0 0 [.ref (k.b + (0)), .int x1, .int x2] (wAll k T R ly rc hn rp tp ee st) (some (.long r)) (wAll k T R ly rc hn rp tp ee st) := by
  refine CT.of (by decide) (Nat.le_of_ble_eq_true rfl) ?_
  intro z X hQ
  show VW k z 0 0 (wAll k T R ly rc hn rp tp ee st) 0 [some (.ref (k.b + (0))), some (.int x1), some (.int x2)] []
  unfold f9_riseGas at hf
  refine r_iload_n X (x := x1) dX9_riseGas_0 rfl ?_
  refine r_if_lt X 18 dX9_riseGas_1 rfl (fun c1 => ?_) (fun c1 => ?_)
  · replace hf := ifT hf c1
    cases hf
  · replace hf := ifF hf c1
    refine r_iload_n X (x := x1) dX9_riseGas_4 rfl ?_
    refine r_aload_n X (x := k.b + (0)) dX9_riseGas_5 rfl ?_
    refine r_getfield X (v := .ref (k.b + (45 + 12 * (TP_pr tp).val))) clsX9 flX9_73 (Nat.le_of_ble_eq_true rfl) _ o_main rfl dX9_riseGas_6 ?_
    refine r_getfield X (v := .ref (k.b + (45 + 12 * (TP_pr tp).val + 9))) clsX5 flX9_242 (Nat.le_of_ble_eq_true rfl) _ (o_st (TP_pr tp)) rfl dX9_riseGas_9 ?_
    refine r_getfield X (v := .int (SS_kept (st (TP_pr tp)))) clsX7 flX9_246 (Nat.le_of_ble_eq_true rfl) _ (o_tl (TP_pr tp)) rfl dX9_riseGas_12 ?_
    refine r_icmp_lt X 26 dX9_riseGas_15 rfl (fun c15 => ?_) (fun c15 => ?_)
    · replace hf := ifT hf c15
      refine r_aload_n X (x := k.b + (0)) dX9_riseGas_26 rfl ?_
      refine r_getfield X (v := .ref (k.b + (45 + 12 * (TP_pr tp).val))) clsX9 flX9_73 (Nat.le_of_ble_eq_true rfl) _ o_main rfl dX9_riseGas_27 ?_
      refine r_getfield X (v := .ref (k.b + (45 + 12 * (TP_pr tp).val + 9))) clsX5 flX9_242 (Nat.le_of_ble_eq_true rfl) _ (o_st (TP_pr tp)) rfl dX9_riseGas_30 ?_
      refine r_iload_n X (x := x1) dX9_riseGas_33 rfl ?_
      refine r_iload_n X (x := x2) dX9_riseGas_34 rfl ?_
      obtain ⟨u35, h35, hf⟩ := bdS hf
      refine r_callV0 X [.int x1, .int x2] [] (CT_unS (W := fun zz => wAll k T R ly rc hn rp tp ee zz) (W2 := fun zz => wAll k T R ly rc hn rp tp ee zz) (st := st) (TP_pr tp) (K7_riseOf h35)) lkX9_306 clsX7 rfl _ (o_tl (TP_pr tp)) (by decide) (Nat.le_of_ble_eq_true rfl) rfl rfl (Nat.le_of_ble_eq_true rfl) rfl rfl (Nat.zero_le _) (Nat.zero_le _) dX9_riseGas_35 ?_
      obtain rfl := Option.some.inj hf
      exact r_lreturn X hQ rfl rfl (Nat.le_of_ble_eq_true rfl) (Nat.le_of_ble_eq_true rfl) dX9_riseGas_38
    · replace hf := ifF hf c15
      cases hf
set_option maxRecDepth 100000 in
set_option maxHeartbeats 4000000 in
theorem K9_mayOpen {k : KT} {T : TT} {R : RR} {ly : Fin 2 → LL} {rc : RC} {hn : HN} {rp : RP} {tp : TP} {ee : EE} {st : Fin 12 → SS}  {x1 : Int32} {r : Int32} (hf : f9_mayOpen (ly (0 : Fin 2)) tp st  x1 = some r) : CT k strs yX9_mayOpen cX9_mayOpen 2 (some .int) (rmD 3 0 0) 0 0 [.ref (k.b + (0)), .int x1] (wAll k T R ly rc hn rp tp ee st) (some (.int r)) (wAll k T R ly rc hn rp tp ee st) := by
  refine CT.of (by decide) (Nat.le_of_ble_eq_true rfl) ?_
  intro z X hQ
  show VW k z 0 0 (wAll k T R ly rc hn rp tp ee st) 0 [some (.ref (k.b + (0))), some (.int x1)] []
  unfold f9_mayOpen at hf
  refine r_aload_n X (x := k.b + (0)) dX9_mayOpen_0 rfl ?_
  refine r_getfield X (v := .ref (k.b + (4 + 17 * (0 : Fin 2).val))) clsX9 flX9_28 (Nat.le_of_ble_eq_true rfl) _ o_main rfl dX9_mayOpen_1 ?_
  refine r_iload_n X (x := x1) dX9_mayOpen_4 rfl ?_
  obtain ⟨u5, h5, hf⟩ := bdS hf
  refine r_callV0 X [.int x1] [] (K1_hasValve h5) lkX9_128 clsX1 rfl _ (o_lay (0 : Fin 2)) (by decide) (Nat.le_of_ble_eq_true rfl) rfl rfl (Nat.le_of_ble_eq_true rfl) rfl rfl (Nat.zero_le _) (Nat.zero_le _) dX9_mayOpen_5 ?_
  refine r_if_ne X 19 dX9_mayOpen_8 rfl (fun c8 => ?_) (fun c8 => ?_)
  · replace hf := ifF hf c8
    refine r_aload_n X (x := k.b + (0)) dX9_mayOpen_19 rfl ?_
    refine r_getfield X (v := .ref (k.b + (45 + 12 * (TP_pr tp).val))) clsX9 flX9_73 (Nat.le_of_ble_eq_true rfl) _ o_main rfl dX9_mayOpen_20 ?_
    refine r_iload_n X (x := x1) dX9_mayOpen_23 rfl ?_
    obtain ⟨u24, h24, hf⟩ := bdS hf
    refine r_callV0 X [.int x1] [] (CT_unS (W := fun zz => wAll k T R ly rc hn rp tp ee zz) (W2 := fun zz => wAll k T R ly rc hn rp tp ee zz) (st := st) (TP_pr tp) (K5_openingBar h24)) lkX9_135 clsX5 rfl _ (o_st (TP_pr tp)) (by decide) (Nat.le_of_ble_eq_true rfl) rfl rfl (Nat.le_of_ble_eq_true rfl) rfl rfl (Nat.zero_le _) (Nat.zero_le _) dX9_mayOpen_24 ?_
    obtain rfl := Option.some.inj hf
    exact r_ireturn X hQ rfl rfl (Nat.le_of_ble_eq_true rfl) (Nat.le_of_ble_eq_true rfl) dX9_mayOpen_27
  · replace hf := ifT hf c8
    cases hf
set_option maxRecDepth 100000 in
set_option maxHeartbeats 4000000 in
theorem K9_mayStart {k : KT} {T : TT} {R : RR} {ly : Fin 2 → LL} {rc : RC} {hn : HN} {rp : RP} {tp : TP} {ee : EE} {st : Fin 12 → SS}  {x1 : Int32} {r : Int32} (hf : f9_mayStart (ly (0 : Fin 2)) tp st  x1 = some r) : CT k strs yX9_mayStart cX9_mayStart 2 (some .int) (rmD 2 0 0) 0 0 [.ref (k.b + (0)), .int x1] (wAll k T R ly rc hn rp tp ee st) (some (.int r)) (wAll k T R ly rc hn rp tp ee st) := by
  refine CT.of (by decide) (Nat.le_of_ble_eq_true rfl) ?_
  intro z X hQ
  show VW k z 0 0 (wAll k T R ly rc hn rp tp ee st) 0 [some (.ref (k.b + (0))), some (.int x1)] []
  unfold f9_mayStart at hf
  refine r_aload_n X (x := k.b + (0)) dX9_mayStart_0 rfl ?_
  refine r_getfield X (v := .ref (k.b + (4 + 17 * (0 : Fin 2).val))) clsX9 flX9_28 (Nat.le_of_ble_eq_true rfl) _ o_main rfl dX9_mayStart_1 ?_
  refine r_iload_n X (x := x1) dX9_mayStart_4 rfl ?_
  obtain ⟨u5, h5, hf⟩ := bdS hf
  refine r_callV0 X [.int x1] [] (K1_hasPump h5) lkX9_157 clsX1 rfl _ (o_lay (0 : Fin 2)) (by decide) (Nat.le_of_ble_eq_true rfl) rfl rfl (Nat.le_of_ble_eq_true rfl) rfl rfl (Nat.zero_le _) (Nat.zero_le _) dX9_mayStart_5 ?_
  refine r_if_ne X 19 dX9_mayStart_8 rfl (fun c8 => ?_) (fun c8 => ?_)
  · replace hf := ifF hf c8
    refine r_aload_n X (x := k.b + (0)) dX9_mayStart_19 rfl ?_
    refine r_getfield X (v := .ref (k.b + (45 + 12 * (TP_pr tp).val))) clsX9 flX9_73 (Nat.le_of_ble_eq_true rfl) _ o_main rfl dX9_mayStart_20 ?_
    refine r_iload_n X (x := x1) dX9_mayStart_23 rfl ?_
    obtain ⟨u24, h24, hf⟩ := bdS hf
    refine r_callV0 X [.int x1] [] (CT_unS (W := fun zz => wAll k T R ly rc hn rp tp ee zz) (W2 := fun zz => wAll k T R ly rc hn rp tp ee zz) (st := st) (TP_pr tp) (K5_startingBar h24)) lkX9_160 clsX5 rfl _ (o_st (TP_pr tp)) (by decide) (Nat.le_of_ble_eq_true rfl) rfl rfl (Nat.le_of_ble_eq_true rfl) rfl rfl (Nat.zero_le _) (Nat.zero_le _) dX9_mayStart_24 ?_
    obtain rfl := Option.some.inj hf
    exact r_ireturn X hQ rfl rfl (Nat.le_of_ble_eq_true rfl) (Nat.le_of_ble_eq_true rfl) dX9_mayStart_27
  · replace hf := ifT hf c8
    cases hf
set_option maxRecDepth 100000 in
set_option maxHeartbeats 4000000 in
theorem K9_joined {k : KT} {T : TT} {R : RR} {ly : Fin 2 → LL} {rc : RC} {hn : HN} {rp : RP} {tp : TP} {ee : EE} {st : Fin 12 → SS}  {x1 : Int32} {r : Int32} (hf : f9_joined (ly (0 : Fin 2)) tp st  x1 = some r) : CT k strs yX9_joined cX9_joined 2 (some .int) (rmD 3 0 0) 0 0 [.ref (k.b + (0)), .int x1] (wAll k T R ly rc hn rp tp ee st) (some (.int r)) (wAll k T R ly rc hn rp tp ee st) := by
  refine CT.of (by decide) (Nat.le_of_ble_eq_true rfl) ?_
  intro z X hQ
  show VW k z 0 0 (wAll k T R ly rc hn rp tp ee st) 0 [some (.ref (k.b + (0))), some (.int x1)] []
  unfold f9_joined at hf
  refine r_aload_n X (x := k.b + (0)) dX9_joined_0 rfl ?_
  refine r_getfield X (v := .ref (k.b + (4 + 17 * (0 : Fin 2).val))) clsX9 flX9_28 (Nat.le_of_ble_eq_true rfl) _ o_main rfl dX9_joined_1 ?_
  refine r_iload_n X (x := x1) dX9_joined_4 rfl ?_
  obtain ⟨u5, h5, hf⟩ := bdS hf
  refine r_callV0 X [.int x1] [] (K1_hasChamber h5) lkX9_185 clsX1 rfl _ (o_lay (0 : Fin 2)) (by decide) (Nat.le_of_ble_eq_true rfl) rfl rfl (Nat.le_of_ble_eq_true rfl) rfl rfl (Nat.zero_le _) (Nat.zero_le _) dX9_joined_5 ?_
  refine r_if_ne X 19 dX9_joined_8 rfl (fun c8 => ?_) (fun c8 => ?_)
  · replace hf := ifF hf c8
    refine r_aload_n X (x := k.b + (0)) dX9_joined_19 rfl ?_
    refine r_getfield X (v := .ref (k.b + (45 + 12 * (TP_pr tp).val))) clsX9 flX9_73 (Nat.le_of_ble_eq_true rfl) _ o_main rfl dX9_joined_20 ?_
    refine r_iload_n X (x := x1) dX9_joined_23 rfl ?_
    obtain ⟨u24, h24, hf⟩ := bdS hf
    refine r_callV0 X [.int x1] [] (CT_unS (W := fun zz => wAll k T R ly rc hn rp tp ee zz) (W2 := fun zz => wAll k T R ly rc hn rp tp ee zz) (st := st) (TP_pr tp) (K5_reach h24)) lkX9_310 clsX5 rfl _ (o_st (TP_pr tp)) (by decide) (Nat.le_of_ble_eq_true rfl) rfl rfl (Nat.le_of_ble_eq_true rfl) rfl rfl (Nat.zero_le _) (Nat.zero_le _) dX9_joined_24 ?_
    refine r_sipush X (v := 255) dX9_joined_27 rfl ?_
    refine r_iand X dX9_joined_30 ?_
    obtain rfl := Option.some.inj hf
    exact r_ireturn X hQ rfl rfl (Nat.le_of_ble_eq_true rfl) (Nat.le_of_ble_eq_true rfl) dX9_joined_31
  · replace hf := ifT hf c8
    cases hf
set_option maxRecDepth 100000 in
set_option maxHeartbeats 4000000 in
theorem K9_isVented {k : KT} {T : TT} {R : RR} {ly : Fin 2 → LL} {rc : RC} {hn : HN} {rp : RP} {tp : TP} {ee : EE} {st : Fin 12 → SS}  {x1 : Int32} {r : Int32} (hf : f9_isVented (ly (0 : Fin 2)) tp st  x1 = some r) : CT k strs yX9_isVented cX9_isVented 2 (some .boolean) (rmD 3 0 0) 0 0 [.ref (k.b + (0)), .int x1] (wAll k T R ly rc hn rp tp ee st) (some (.int r)) (wAll k T R ly rc hn rp tp ee st) := by
  refine CT.of (by decide) (Nat.le_of_ble_eq_true rfl) ?_
  intro z X hQ
  show VW k z 0 0 (wAll k T R ly rc hn rp tp ee st) 0 [some (.ref (k.b + (0))), some (.int x1)] []
  unfold f9_isVented at hf
  refine r_aload_n X (x := k.b + (0)) dX9_isVented_0 rfl ?_
  refine r_getfield X (v := .ref (k.b + (4 + 17 * (0 : Fin 2).val))) clsX9 flX9_28 (Nat.le_of_ble_eq_true rfl) _ o_main rfl dX9_isVented_1 ?_
  refine r_iload_n X (x := x1) dX9_isVented_4 rfl ?_
  obtain ⟨u5, h5, hf⟩ := bdS hf
  refine r_callV0 X [.int x1] [] (K1_hasChamber h5) lkX9_185 clsX1 rfl _ (o_lay (0 : Fin 2)) (by decide) (Nat.le_of_ble_eq_true rfl) rfl rfl (Nat.le_of_ble_eq_true rfl) rfl rfl (Nat.zero_le _) (Nat.zero_le _) dX9_isVented_5 ?_
  refine r_if_ne X 19 dX9_isVented_8 rfl (fun c8 => ?_) (fun c8 => ?_)
  · replace hf := ifF hf c8
    refine r_aload_n X (x := k.b + (0)) dX9_isVented_19 rfl ?_
    refine r_getfield X (v := .ref (k.b + (45 + 12 * (TP_pr tp).val))) clsX9 flX9_73 (Nat.le_of_ble_eq_true rfl) _ o_main rfl dX9_isVented_20 ?_
    refine r_iload_n X (x := x1) dX9_isVented_23 rfl ?_
    obtain ⟨u24, h24, hf⟩ := bdS hf
    refine r_callV0 X [.int x1] [] (CT_unS (W := fun zz => wAll k T R ly rc hn rp tp ee zz) (W2 := fun zz => wAll k T R ly rc hn rp tp ee zz) (st := st) (TP_pr tp) (K5_reach h24)) lkX9_310 clsX5 rfl _ (o_st (TP_pr tp)) (by decide) (Nat.le_of_ble_eq_true rfl) rfl rfl (Nat.le_of_ble_eq_true rfl) rfl rfl (Nat.zero_le _) (Nat.zero_le _) dX9_isVented_24 ?_
    refine r_bipush X (v := 8) dX9_isVented_27 rfl ?_
    obtain ⟨u29, h29, hf⟩ := bdS hf
    refine r_callS0 X [.int u24, .int 8] [] (K9_has h29) lkX9_313 (by decide) (Nat.le_of_ble_eq_true rfl) rfl rfl (Nat.le_of_ble_eq_true rfl) rfl rfl (Nat.zero_le _) (Nat.zero_le _) dX9_isVented_29 ?_
    obtain ⟨g32b, hf⟩ := gdS hf
    obtain rfl := Option.some.inj hf
    exact r_zreturn X hQ rfl rfl (Nat.le_of_ble_eq_true rfl) (Nat.le_of_ble_eq_true rfl) (nb_of g32b) dX9_isVented_32
  · replace hf := ifT hf c8
    cases hf
set_option maxRecDepth 100000 in
set_option maxHeartbeats 4000000 in
theorem B9_spread_B44 {k : KT} {z : ZT} {T : TT} {R : RR} {ly : Fin 2 → LL} {rc : RC} {hn : HN} {rp : RP} {tp : TP} {ee : EE} {st : Fin 12 → SS} {r : Int32} (X : XX k strs z RX9 cX9_spread 6 (some .int) (rmD 3 0 0)) (hQ : zQ z = MQ (zB z) (Qof k (some (.int r)) (wAll k T R ly rc hn rp tp ee st)) (zA z) (zS z) 0 0 (kA k)) : ∀ (fu : Nat) (x2 : Int32) (x3 : Int32) (x4 : Int32) (x5 : Int32), f9_spread_B44 (ly (0 : Fin 2)) tp st fu x2 x3 x4 x5 = some r → VW k z 0 0 (wAll k T R ly rc hn rp tp ee st) 44 [some (.ref (k.b + (0))), none, some (.int x2), some (.int x3), some (.int x4), some (.int x5)] [] := by
  intro fu
  induction fu with
  | zero =>
    intro x2 x3 x4 x5 hf
    rw [f9_spread_B44] at hf
    cases hf
  | succ fu ih =>
    intro x2 x3 x4 x5 hf
    rw [f9_spread_B44] at hf
    refine r_iload X (x := x5) dX9_spread_44 rfl ?_
    refine r_aload_n X (x := k.b + (0)) dX9_spread_46 rfl ?_
    refine r_getfield X (v := .ref (k.b + (4 + 17 * (0 : Fin 2).val))) clsX9 flX9_28 (Nat.le_of_ble_eq_true rfl) _ o_main rfl dX9_spread_47 ?_
    refine r_getfield X (v := .int (LL_chambers (ly (0 : Fin 2)))) clsX1 flX9_125 (Nat.le_of_ble_eq_true rfl) _ (o_lay (0 : Fin 2)) rfl dX9_spread_50 ?_
    refine r_icmp_ge X 103 dX9_spread_53 rfl (fun c53 => ?_) (fun c53 => ?_)
    · replace hf := ifT hf c53
      refine r_iload X (x := x4) dX9_spread_103 rfl ?_
      refine r_iload_n X (x := x3) dX9_spread_105 rfl ?_
      refine r_isub X dX9_spread_106 ?_
      obtain rfl := Option.some.inj hf
      exact r_ireturn X hQ rfl rfl (Nat.le_of_ble_eq_true rfl) (Nat.le_of_ble_eq_true rfl) dX9_spread_107
    · replace hf := ifF hf c53
      refine r_iload_n X (x := x2) dX9_spread_56 rfl ?_
      refine r_iload X (x := x5) dX9_spread_57 rfl ?_
      obtain ⟨u59, h59, hf⟩ := bdS hf
      refine r_callS0 X [.int x2, .int x5] [] (K9_has h59) lkX9_313 (by decide) (Nat.le_of_ble_eq_true rfl) rfl rfl (Nat.le_of_ble_eq_true rfl) rfl rfl (Nat.zero_le _) (Nat.zero_le _) dX9_spread_59 ?_
      refine r_if_eq X 97 dX9_spread_62 rfl (fun c62 => ?_) (fun c62 => ?_)
      · replace hf := ifT hf c62
        refine r_iinc X (x := x5) (v := x5 + 1) [some (.ref (k.b + (0))), none, some (.int x2), some (.int x3), some (.int x4), some (.int (x5 + 1))] dX9_spread_97 rfl rfl rfl ?_
        refine r_goto X 44 dX9_spread_100 rfl ?_
        exact ih x2 x3 x4 (x5 + 1) hf
      · replace hf := ifF hf c62
        refine r_iload_n X (x := x3) dX9_spread_65 rfl ?_
        refine r_aload_n X (x := k.b + (0)) dX9_spread_66 rfl ?_
        refine r_getfield X (v := .ref (k.b + (45 + 12 * (TP_pr tp).val))) clsX9 flX9_73 (Nat.le_of_ble_eq_true rfl) _ o_main rfl dX9_spread_67 ?_
        refine r_getfield X (v := .ref (k.b + (45 + 12 * (TP_pr tp).val + 2))) clsX5 flX9_166 (Nat.le_of_ble_eq_true rfl) _ (o_st (TP_pr tp)) rfl dX9_spread_70 ?_
        refine r_iload X (x := x5) dX9_spread_73 rfl ?_
        obtain ⟨g75, hf⟩ := gdS hf
        refine r_iaload X (f := SS_pressure (st (TP_pr tp))) _ (a_st_pressure (TP_pr tp)) g75 dX9_spread_75 ?_
        refine r_imin X lkX9_317 rfl ⟨(Nat.le_of_ble_eq_true rfl), (Nat.le_of_ble_eq_true rfl)⟩ (Nat.zero_le _) (Nat.zero_le _) dX9_spread_76 ?_
        refine r_istore_n X [some (.ref (k.b + (0))), none, some (.int x2), some (.int (if ((SS_pressure (st (TP_pr tp))) (ix x5)) < x3 then ((SS_pressure (st (TP_pr tp))) (ix x5)) else x3)), some (.int x4), some (.int x5)] dX9_spread_79 (Nat.le_of_ble_eq_true rfl) rfl ?_
        refine r_iload X (x := x4) dX9_spread_80 rfl ?_
        refine r_aload_n X (x := k.b + (0)) dX9_spread_82 rfl ?_
        refine r_getfield X (v := .ref (k.b + (45 + 12 * (TP_pr tp).val))) clsX9 flX9_73 (Nat.le_of_ble_eq_true rfl) _ o_main rfl dX9_spread_83 ?_
        refine r_getfield X (v := .ref (k.b + (45 + 12 * (TP_pr tp).val + 2))) clsX5 flX9_166 (Nat.le_of_ble_eq_true rfl) _ (o_st (TP_pr tp)) rfl dX9_spread_86 ?_
        refine r_iload X (x := x5) dX9_spread_89 rfl ?_
        refine r_iaload X (f := SS_pressure (st (TP_pr tp))) _ (a_st_pressure (TP_pr tp)) g75 dX9_spread_91 ?_
        refine r_imax X lkX9_322 rfl ⟨(Nat.le_of_ble_eq_true rfl), (Nat.le_of_ble_eq_true rfl)⟩ (Nat.zero_le _) (Nat.zero_le _) dX9_spread_92 ?_
        refine r_istore X [some (.ref (k.b + (0))), none, some (.int x2), some (.int (if ((SS_pressure (st (TP_pr tp))) (ix x5)) < x3 then ((SS_pressure (st (TP_pr tp))) (ix x5)) else x3)), some (.int (if x4 < ((SS_pressure (st (TP_pr tp))) (ix x5)) then ((SS_pressure (st (TP_pr tp))) (ix x5)) else x4)), some (.int x5)] dX9_spread_95 (Nat.le_of_ble_eq_true rfl) rfl ?_
        refine r_iinc X (x := x5) (v := x5 + 1) [some (.ref (k.b + (0))), none, some (.int x2), some (.int (if ((SS_pressure (st (TP_pr tp))) (ix x5)) < x3 then ((SS_pressure (st (TP_pr tp))) (ix x5)) else x3)), some (.int (if x4 < ((SS_pressure (st (TP_pr tp))) (ix x5)) then ((SS_pressure (st (TP_pr tp))) (ix x5)) else x4)), some (.int (x5 + 1))] dX9_spread_97 rfl rfl rfl ?_
        refine r_goto X 44 dX9_spread_100 rfl ?_
        exact ih x2 (if ((SS_pressure (st (TP_pr tp))) (ix x5)) < x3 then ((SS_pressure (st (TP_pr tp))) (ix x5)) else x3) (if x4 < ((SS_pressure (st (TP_pr tp))) (ix x5)) then ((SS_pressure (st (TP_pr tp))) (ix x5)) else x4) (x5 + 1) hf
set_option maxRecDepth 100000 in
set_option maxHeartbeats 4000000 in
theorem K9_spread {k : KT} {T : TT} {R : RR} {ly : Fin 2 → LL} {rc : RC} {hn : HN} {rp : RP} {tp : TP} {ee : EE} {st : Fin 12 → SS}  {x1 : Int32} {r : Int32} (hf : f9_spread (ly (0 : Fin 2)) tp st  x1 = some r) : CT k strs yX9_spread cX9_spread 6 (some .int) (rmD 3 0 0) 0 0 [.ref (k.b + (0)), .int x1] (wAll k T R ly rc hn rp tp ee st) (some (.int r)) (wAll k T R ly rc hn rp tp ee st) := by
  refine CT.of (by decide) (Nat.le_of_ble_eq_true rfl) ?_
  intro z X hQ
  show VW k z 0 0 (wAll k T R ly rc hn rp tp ee st) 0 [some (.ref (k.b + (0))), some (.int x1), none, none, none, none] []
  unfold f9_spread at hf
  refine r_aload_n X (x := k.b + (0)) dX9_spread_0 rfl ?_
  refine r_getfield X (v := .ref (k.b + (4 + 17 * (0 : Fin 2).val))) clsX9 flX9_28 (Nat.le_of_ble_eq_true rfl) _ o_main rfl dX9_spread_1 ?_
  refine r_iload_n X (x := x1) dX9_spread_4 rfl ?_
  obtain ⟨u5, h5, hf⟩ := bdS hf
  refine r_callV0 X [.int x1] [] (K1_hasChamber h5) lkX9_185 clsX1 rfl _ (o_lay (0 : Fin 2)) (by decide) (Nat.le_of_ble_eq_true rfl) rfl rfl (Nat.le_of_ble_eq_true rfl) rfl rfl (Nat.zero_le _) (Nat.zero_le _) dX9_spread_5 ?_
  refine r_if_ne X 19 dX9_spread_8 rfl (fun c8 => ?_) (fun c8 => ?_)
  · replace hf := ifF hf c8
    refine r_aload_n X (x := k.b + (0)) dX9_spread_19 rfl ?_
    refine r_getfield X (v := .ref (k.b + (45 + 12 * (TP_pr tp).val))) clsX9 flX9_73 (Nat.le_of_ble_eq_true rfl) _ o_main rfl dX9_spread_20 ?_
    refine r_iload_n X (x := x1) dX9_spread_23 rfl ?_
    obtain ⟨u24, h24, hf⟩ := bdS hf
    refine r_callV0 X [.int x1] [] (CT_unS (W := fun zz => wAll k T R ly rc hn rp tp ee zz) (W2 := fun zz => wAll k T R ly rc hn rp tp ee zz) (st := st) (TP_pr tp) (K5_reach h24)) lkX9_310 clsX5 rfl _ (o_st (TP_pr tp)) (by decide) (Nat.le_of_ble_eq_true rfl) rfl rfl (Nat.le_of_ble_eq_true rfl) rfl rfl (Nat.zero_le _) (Nat.zero_le _) dX9_spread_24 ?_
    refine r_istore_n X [some (.ref (k.b + (0))), some (.int x1), some (.int u24), none, none, none] dX9_spread_27 (Nat.le_of_ble_eq_true rfl) rfl ?_
    refine r_aload_n X (x := k.b + (0)) dX9_spread_28 rfl ?_
    refine r_getfield X (v := .ref (k.b + (45 + 12 * (TP_pr tp).val))) clsX9 flX9_73 (Nat.le_of_ble_eq_true rfl) _ o_main rfl dX9_spread_29 ?_
    refine r_getfield X (v := .ref (k.b + (45 + 12 * (TP_pr tp).val + 2))) clsX5 flX9_166 (Nat.le_of_ble_eq_true rfl) _ (o_st (TP_pr tp)) rfl dX9_spread_32 ?_
    refine r_iload_n X (x := x1) dX9_spread_35 rfl ?_
    obtain ⟨g36, hf⟩ := gdS hf
    refine r_iaload X (f := SS_pressure (st (TP_pr tp))) _ (a_st_pressure (TP_pr tp)) g36 dX9_spread_36 ?_
    refine r_istore_n X [some (.ref (k.b + (0))), some (.int x1), some (.int u24), some (.int ((SS_pressure (st (TP_pr tp))) (ix x1))), none, none] dX9_spread_37 (Nat.le_of_ble_eq_true rfl) rfl ?_
    refine r_iload_n X (x := (SS_pressure (st (TP_pr tp))) (ix x1)) dX9_spread_38 rfl ?_
    refine r_istore X [some (.ref (k.b + (0))), some (.int x1), some (.int u24), some (.int ((SS_pressure (st (TP_pr tp))) (ix x1))), some (.int ((SS_pressure (st (TP_pr tp))) (ix x1))), none] dX9_spread_39 (Nat.le_of_ble_eq_true rfl) rfl ?_
    refine r_iconst X (v := 0) dX9_spread_41 rfl ?_
    refine r_istore X [some (.ref (k.b + (0))), some (.int x1), some (.int u24), some (.int ((SS_pressure (st (TP_pr tp))) (ix x1))), some (.int ((SS_pressure (st (TP_pr tp))) (ix x1))), some (.int 0)] dX9_spread_42 (Nat.le_of_ble_eq_true rfl) rfl ?_
    refine VW.msk [true, false, true, true, true, true] rfl (lo' := [some (.ref (k.b + (0))), none, some (.int u24), some (.int ((SS_pressure (st (TP_pr tp))) (ix x1))), some (.int ((SS_pressure (st (TP_pr tp))) (ix x1))), some (.int 0)]) rfl ?_
    exact B9_spread_B44 X hQ FU u24 ((SS_pressure (st (TP_pr tp))) (ix x1)) ((SS_pressure (st (TP_pr tp))) (ix x1)) 0 hf
  · replace hf := ifT hf c8
    cases hf
set_option maxRecDepth 100000 in
set_option maxHeartbeats 4000000 in
theorem K9_isIsolated {k : KT} {T : TT} {R : RR} {ly : Fin 2 → LL} {rc : RC} {hn : HN} {rp : RP} {tp : TP} {ee : EE} {st : Fin 12 → SS}  {x1 : Int32} {r : Int32} (hf : f9_isIsolated (ly (0 : Fin 2)) tp st  x1 = some r) : CT k strs yX9_isIsolated cX9_isIsolated 2 (some .boolean) (rmD 2 0 0) 0 0 [.ref (k.b + (0)), .int x1] (wAll k T R ly rc hn rp tp ee st) (some (.int r)) (wAll k T R ly rc hn rp tp ee st) := by
  refine CT.of (by decide) (Nat.le_of_ble_eq_true rfl) ?_
  intro z X hQ
  show VW k z 0 0 (wAll k T R ly rc hn rp tp ee st) 0 [some (.ref (k.b + (0))), some (.int x1)] []
  unfold f9_isIsolated at hf
  refine r_aload_n X (x := k.b + (0)) dX9_isIsolated_0 rfl ?_
  refine r_getfield X (v := .ref (k.b + (4 + 17 * (0 : Fin 2).val))) clsX9 flX9_28 (Nat.le_of_ble_eq_true rfl) _ o_main rfl dX9_isIsolated_1 ?_
  refine r_iload_n X (x := x1) dX9_isIsolated_4 rfl ?_
  obtain ⟨u5, h5, hf⟩ := bdS hf
  refine r_callV0 X [.int x1] [] (K1_hasChamber h5) lkX9_185 clsX1 rfl _ (o_lay (0 : Fin 2)) (by decide) (Nat.le_of_ble_eq_true rfl) rfl rfl (Nat.le_of_ble_eq_true rfl) rfl rfl (Nat.zero_le _) (Nat.zero_le _) dX9_isIsolated_5 ?_
  refine r_if_ne X 19 dX9_isIsolated_8 rfl (fun c8 => ?_) (fun c8 => ?_)
  · replace hf := ifF hf c8
    refine r_aload_n X (x := k.b + (0)) dX9_isIsolated_19 rfl ?_
    refine r_getfield X (v := .ref (k.b + (45 + 12 * (TP_pr tp).val))) clsX9 flX9_73 (Nat.le_of_ble_eq_true rfl) _ o_main rfl dX9_isIsolated_20 ?_
    refine r_iload_n X (x := x1) dX9_isIsolated_23 rfl ?_
    obtain ⟨u24, h24, hf⟩ := bdS hf
    refine r_callV0 X [.int x1] [] (CT_unS (W := fun zz => wAll k T R ly rc hn rp tp ee zz) (W2 := fun zz => wAll k T R ly rc hn rp tp ee zz) (st := st) (TP_pr tp) (K5_isShutOff h24)) lkX9_210 clsX5 rfl _ (o_st (TP_pr tp)) (by decide) (Nat.le_of_ble_eq_true rfl) rfl rfl (Nat.le_of_ble_eq_true rfl) rfl rfl (Nat.zero_le _) (Nat.zero_le _) dX9_isIsolated_24 ?_
    obtain ⟨g27b, hf⟩ := gdS hf
    obtain rfl := Option.some.inj hf
    exact r_zreturn X hQ rfl rfl (Nat.le_of_ble_eq_true rfl) (Nat.le_of_ble_eq_true rfl) (nb_of g27b) dX9_isIsolated_27
  · replace hf := ifT hf c8
    cases hf
set_option maxRecDepth 100000 in
set_option maxHeartbeats 4000000 in
theorem B9_fewestValves_B63 {k : KT} {z : ZT} {T : TT} {R : RR} {ly : Fin 2 → LL} {rc : RC} {hn : HN} {rp : RP} {tp : TP} {ee : EE} {st : Fin 12 → SS} {r : Int32} (X : XX k strs z RX9 cX9_fewestValves 6 (some .int) (rmD 2 0 0)) (hQ : zQ z = MQ (zB z) (Qof k (some (.int r)) (wAll k T R ly rc hn rp tp ee st)) (zA z) (zS z) 0 0 (kA k)) : ∀ (fu : Nat) (x3 : Int32) (x4 : Int32) (x5 : Int32), f9_fewestValves_B63 (ly (0 : Fin 2)) fu x3 x4 x5 = some r → VW k z 0 0 (wAll k T R ly rc hn rp tp ee st) 63 [some (.ref (k.b + (0))), none, none, some (.int x3), some (.int x4), some (.int x5)] [] := by
  intro fu
  induction fu with
  | zero =>
    intro x3 x4 x5 hf
    rw [f9_fewestValves_B63] at hf
    cases hf
  | succ fu ih =>
    intro x3 x4 x5 hf
    rw [f9_fewestValves_B63] at hf
    refine r_iload X (x := x5) dX9_fewestValves_63 rfl ?_
    refine r_bipush X (v := 8) dX9_fewestValves_65 rfl ?_
    refine r_icmp_gt X 106 dX9_fewestValves_67 rfl (fun c67 => ?_) (fun c67 => ?_)
    · replace hf := ifT hf c67
      refine r_iconst X (v := (-1)) dX9_fewestValves_106 rfl ?_
      obtain rfl := Option.some.inj hf
      exact r_ireturn X hQ rfl rfl (Nat.le_of_ble_eq_true rfl) (Nat.le_of_ble_eq_true rfl) dX9_fewestValves_107
    · replace hf := ifF hf c67
      refine r_iload X (x := x4) dX9_fewestValves_70 rfl ?_
      refine r_iload_n X (x := x3) dX9_fewestValves_72 rfl ?_
      obtain ⟨u73, h73, hf⟩ := bdS hf
      refine r_callS0 X [.int x4, .int x3] [] (K9_has h73) lkX9_313 (by decide) (Nat.le_of_ble_eq_true rfl) rfl rfl (Nat.le_of_ble_eq_true rfl) rfl rfl (Nat.zero_le _) (Nat.zero_le _) dX9_fewestValves_73 ?_
      refine r_if_eq X 82 dX9_fewestValves_76 rfl (fun c76 => ?_) (fun c76 => ?_)
      · replace hf := ifT hf c76
        refine r_aload_n X (x := k.b + (0)) dX9_fewestValves_82 rfl ?_
        refine r_getfield X (v := .ref (k.b + (4 + 17 * (0 : Fin 2).val))) clsX9 flX9_28 (Nat.le_of_ble_eq_true rfl) _ o_main rfl dX9_fewestValves_83 ?_
        refine r_iload X (x := x4) dX9_fewestValves_86 rfl ?_
        refine r_aload_n X (x := k.b + (0)) dX9_fewestValves_88 rfl ?_
        refine r_getfield X (v := .ref (k.b + (4 + 17 * (0 : Fin 2).val))) clsX9 flX9_28 (Nat.le_of_ble_eq_true rfl) _ o_main rfl dX9_fewestValves_89 ?_
        obtain ⟨u92, h92, hf⟩ := bdS hf
        refine r_callV0 X [] [.int x4, .ref (k.b + (4 + 17 * (0 : Fin 2).val))] (K1_allValves h92) lkX9_325 clsX1 rfl _ (o_lay (0 : Fin 2)) (by decide) (Nat.le_of_ble_eq_true rfl) rfl rfl (Nat.le_of_ble_eq_true rfl) rfl rfl (Nat.zero_le _) (Nat.zero_le _) dX9_fewestValves_92 ?_
        obtain ⟨u95, h95, hf⟩ := bdS hf
        refine r_callV0 X [.int x4, .int u92] [] (K1_grown h95) lkX9_329 clsX1 rfl _ (o_lay (0 : Fin 2)) (by decide) (Nat.le_of_ble_eq_true rfl) rfl rfl (Nat.le_of_ble_eq_true rfl) rfl rfl (Nat.zero_le _) (Nat.zero_le _) dX9_fewestValves_95 ?_
        refine r_istore X [some (.ref (k.b + (0))), none, none, some (.int x3), some (.int u95), some (.int x5)] dX9_fewestValves_98 (Nat.le_of_ble_eq_true rfl) rfl ?_
        refine r_iinc X (x := x5) (v := x5 + 1) [some (.ref (k.b + (0))), none, none, some (.int x3), some (.int u95), some (.int (x5 + 1))] dX9_fewestValves_100 rfl rfl rfl ?_
        refine r_goto X 63 dX9_fewestValves_103 rfl ?_
        exact ih x3 u95 (x5 + 1) hf
      · replace hf := ifF hf c76
        refine r_iload X (x := x5) dX9_fewestValves_79 rfl ?_
        obtain rfl := Option.some.inj hf
        exact r_ireturn X hQ rfl rfl (Nat.le_of_ble_eq_true rfl) (Nat.le_of_ble_eq_true rfl) dX9_fewestValves_81
set_option maxRecDepth 100000 in
set_option maxHeartbeats 4000000 in
theorem B9_fewestValves_B43 {k : KT} {z : ZT} {T : TT} {R : RR} {ly : Fin 2 → LL} {rc : RC} {hn : HN} {rp : RP} {tp : TP} {ee : EE} {st : Fin 12 → SS} {r : Int32} (X : XX k strs z RX9 cX9_fewestValves 6 (some .int) (rmD 2 0 0)) (hQ : zQ z = MQ (zB z) (Qof k (some (.int r)) (wAll k T R ly rc hn rp tp ee st)) (zA z) (zS z) 0 0 (kA k)) (x1 : Int32) (x2 : Int32) (hf : f9_fewestValves_B43 (ly (0 : Fin 2)) x1 x2 = some r) : VW k z 0 0 (wAll k T R ly rc hn rp tp ee st) 43 [some (.ref (k.b + (0))), some (.int x1), some (.int x2), none, none, none] [] := by
  unfold f9_fewestValves_B43 at hf
  refine r_iload_n X (x := x2) dX9_fewestValves_43 rfl ?_
  refine r_iconst X (v := (-1)) dX9_fewestValves_44 rfl ?_
  suffices K45 : VW k z 0 0 (wAll k T R ly rc hn rp tp ee st) 54 [some (.ref (k.b + (0))), some (.int x1), some (.int x2), none, none, none] [.int (if x2 = (-1) then (8 : Int32) else (x2 : Int32))] by
    refine r_icmp_ne X 53 dX9_fewestValves_45 rfl (fun c45 => ?_) (fun c45 => ?_)
    · refine r_iload_n X (x := x2) dX9_fewestValves_53 rfl ?_
      rw [if_neg c45] at K45
      exact K45
    · refine r_bipush X (v := 8) dX9_fewestValves_48 rfl ?_
      refine r_goto X 54 dX9_fewestValves_50 rfl ?_
      rw [if_pos c45] at K45
      exact K45
  refine r_istore_n X [some (.ref (k.b + (0))), some (.int x1), some (.int x2), some (.int (if x2 = (-1) then (8 : Int32) else (x2 : Int32))), none, none] dX9_fewestValves_54 (Nat.le_of_ble_eq_true rfl) rfl ?_
  refine r_iconst X (v := 1) dX9_fewestValves_55 rfl ?_
  refine r_iload_n X (x := x1) dX9_fewestValves_56 rfl ?_
  refine r_ishl X dX9_fewestValves_57 ?_
  refine r_istore X [some (.ref (k.b + (0))), some (.int x1), some (.int x2), some (.int (if x2 = (-1) then (8 : Int32) else (x2 : Int32))), some (.int (1 <<< (x1 &&& 31))), none] dX9_fewestValves_58 (Nat.le_of_ble_eq_true rfl) rfl ?_
  refine r_iconst X (v := 0) dX9_fewestValves_60 rfl ?_
  refine r_istore X [some (.ref (k.b + (0))), some (.int x1), some (.int x2), some (.int (if x2 = (-1) then (8 : Int32) else (x2 : Int32))), some (.int (1 <<< (x1 &&& 31))), some (.int 0)] dX9_fewestValves_61 (Nat.le_of_ble_eq_true rfl) rfl ?_
  refine VW.msk [true, false, false, true, true, true] rfl (lo' := [some (.ref (k.b + (0))), none, none, some (.int (if x2 = (-1) then (8 : Int32) else (x2 : Int32))), some (.int (1 <<< (x1 &&& 31))), some (.int 0)]) rfl ?_
  exact B9_fewestValves_B63 X hQ FU (if x2 = (-1) then (8 : Int32) else (x2 : Int32)) (1 <<< (x1 &&& 31)) 0 hf
set_option maxRecDepth 100000 in
set_option maxHeartbeats 4000000 in
theorem K9_fewestValves {k : KT} {T : TT} {R : RR} {ly : Fin 2 → LL} {rc : RC} {hn : HN} {rp : RP} {tp : TP} {ee : EE} {st : Fin 12 → SS}  {x1 : Int32} {x2 : Int32} {r : Int32} (hf : f9_fewestValves (ly (0 : Fin 2))  x1 x2 = some r) : CT k strs yX9_fewestValves cX9_fewestValves 6 (some .int) (rmD 2 0 0) 0 0 [.ref (k.b + (0)), .int x1, .int x2] (wAll k T R ly rc hn rp tp ee st) (some (.int r)) (wAll k T R ly rc hn rp tp ee st) := by
  refine CT.of (by decide) (Nat.le_of_ble_eq_true rfl) ?_
  intro z X hQ
  show VW k z 0 0 (wAll k T R ly rc hn rp tp ee st) 0 [some (.ref (k.b + (0))), some (.int x1), some (.int x2), none, none, none] []
  unfold f9_fewestValves at hf
  refine r_aload_n X (x := k.b + (0)) dX9_fewestValves_0 rfl ?_
  refine r_getfield X (v := .ref (k.b + (4 + 17 * (0 : Fin 2).val))) clsX9 flX9_28 (Nat.le_of_ble_eq_true rfl) _ o_main rfl dX9_fewestValves_1 ?_
  refine r_iload_n X (x := x1) dX9_fewestValves_4 rfl ?_
  obtain ⟨u5, h5, hf⟩ := bdS hf
  refine r_callV0 X [.int x1] [] (K1_hasChamber h5) lkX9_185 clsX1 rfl _ (o_lay (0 : Fin 2)) (by decide) (Nat.le_of_ble_eq_true rfl) rfl rfl (Nat.le_of_ble_eq_true rfl) rfl rfl (Nat.zero_le _) (Nat.zero_le _) dX9_fewestValves_5 ?_
  refine r_if_ne X 19 dX9_fewestValves_8 rfl (fun c8 => ?_) (fun c8 => ?_)
  · replace hf := ifF hf c8
    refine r_iload_n X (x := x2) dX9_fewestValves_19 rfl ?_
    refine r_iconst X (v := (-1)) dX9_fewestValves_20 rfl ?_
    refine r_icmp_eq X 43 dX9_fewestValves_21 rfl (fun c21 => ?_) (fun c21 => ?_)
    · replace hf := ifT hf c21
      exact B9_fewestValves_B43 X hQ x1 x2 hf
    · replace hf := ifF hf c21
      refine r_aload_n X (x := k.b + (0)) dX9_fewestValves_24 rfl ?_
      refine r_getfield X (v := .ref (k.b + (4 + 17 * (0 : Fin 2).val))) clsX9 flX9_28 (Nat.le_of_ble_eq_true rfl) _ o_main rfl dX9_fewestValves_25 ?_
      refine r_iload_n X (x := x2) dX9_fewestValves_28 rfl ?_
      obtain ⟨u29, h29, hf⟩ := bdS hf
      refine r_callV0 X [.int x2] [] (K1_hasChamber h29) lkX9_185 clsX1 rfl _ (o_lay (0 : Fin 2)) (by decide) (Nat.le_of_ble_eq_true rfl) rfl rfl (Nat.le_of_ble_eq_true rfl) rfl rfl (Nat.zero_le _) (Nat.zero_le _) dX9_fewestValves_29 ?_
      refine r_if_ne X 43 dX9_fewestValves_32 rfl (fun c32 => ?_) (fun c32 => ?_)
      · replace hf := ifF hf c32
        exact B9_fewestValves_B43 X hQ x1 x2 hf
      · replace hf := ifT hf c32
        cases hf
  · replace hf := ifT hf c8
    cases hf
