/-! the methods do it -/
set_option maxRecDepth 100000 in
set_option maxHeartbeats 4000000 in
theorem B10_tick_B40 {k : KT} {z : ZT} {T : TT} {R : RR} {ly : Fin 2 → LL} {rc : RC} {hn : HN} {rp : RP} {tp : TP} {ee : EE} {st : Fin 12 → SS} {aside : Nat → Int64} {thought : Nat → Int64} {fresh : Nat → Int64} {mu : MU} {th : Int32} {mp : MP} {mf : MF} {mh : MH} {mg : MG} {ou : Nat → Int64} {od : Nat → UInt64} {r : (Nat → Int64)} (X : XX k strs z RX10 cX10_tick 2 none (rmD 6 0 0)) (hQ : zQ z = MQ (zB z) (Qof k (none) (wAll k T R ly rc hn rp tp ee st r aside thought fresh mu th mp mf mh mg ou od)) (zA z) (zS z) 0 0 (kA k)) : ∀ (fu : Nat) (w : Nat → Int64) (x1 : Int32), f10_tick_B40  fu w x1 = some r → VW k z 0 0 (wAll k T R ly rc hn rp tp ee st w aside thought fresh mu th mp mf mh mg ou od) 40 [some (.ref (k.b + (189))), some (.int x1)] [] := by
  intro fu
  induction fu with
  | zero =>
    intro w x1 hf
    rw [f10_tick_B40] at hf
    cases hf
  | succ fu ih =>
    intro w x1 hf
    rw [f10_tick_B40] at hf
    refine r_iload_n X (x := x1) dX10_tick_40 rfl ?_
    refine r_aload_n X (x := k.b + (189)) dX10_tick_41 rfl ?_
    refine r_iconst X (v := 1) dX10_tick_42 rfl ?_
    obtain ⟨u43, h43, hf⟩ := bdS hf
    refine r_callV0 X [.int 1] [.int x1] (K10_many h43) lkX10_93 clsX10 rfl _ o_model (by decide) (Nat.le_of_ble_eq_true rfl) rfl rfl (Nat.le_of_ble_eq_true rfl) rfl rfl (Nat.zero_le _) (Nat.zero_le _) dX10_tick_43 ?_
    refine r_icmp_ge X 68 dX10_tick_46 rfl (fun c46 => ?_) (fun c46 => ?_)
    · replace hf := ifT hf c46
      refine r_aload_n X (x := k.b + (189)) dX10_tick_68 rfl ?_
      refine r_getfield X (v := .ref (k.b + (190))) clsX10 flX10_7 (Nat.le_of_ble_eq_true rfl) _ o_model rfl dX10_tick_69 ?_
      refine r_iconst X (v := 4) dX10_tick_72 rfl ?_
      refine r_dup2 X dX10_tick_73 rfl rfl ?_
      refine r_laload X (f := w) _ a_m_w (by decide) dX10_tick_74 ?_
      refine r_lconst X (v := 1) dX10_tick_75 rfl ?_
      refine r_ladd X dX10_tick_76 ?_
      refine r_lastore X (f := w) (ws1 := wAll k T R ly rc hn rp tp ee st (vp_updL w (ix 4) ((w (ix 4)) + 1)) aside thought fresh mu th mp mf mh mg ou od) _ a_m_w (by decide) (s_w (vp_updL w (ix 4) ((w (ix 4)) + 1))) dX10_tick_77 ?_
      obtain rfl := Option.some.inj hf
      exact r_return X hQ rfl rfl (Nat.le_of_ble_eq_true rfl) (Nat.le_of_ble_eq_true rfl) dX10_tick_78
    · replace hf := ifF hf c46
      refine r_aload_n X (x := k.b + (189)) dX10_tick_49 rfl ?_
      refine r_iload_n X (x := x1) dX10_tick_50 rfl ?_
      obtain ⟨u51, h51, hf⟩ := bdS hf
      refine r_callV0 X [.int x1] [] (K10_isRunning h51) lkX10_135 clsX10 rfl _ o_model (by decide) (Nat.le_of_ble_eq_true rfl) rfl rfl (Nat.le_of_ble_eq_true rfl) rfl rfl (Nat.zero_le _) (Nat.zero_le _) dX10_tick_51 ?_
      refine r_if_eq X 62 dX10_tick_54 rfl (fun c54 => ?_) (fun c54 => ?_)
      · replace hf := ifT hf c54
        refine r_iinc X (x := x1) (v := x1 + 1) [some (.ref (k.b + (189))), some (.int (x1 + 1))] dX10_tick_62 rfl rfl rfl ?_
        refine r_goto X 40 dX10_tick_65 rfl ?_
        exact ih w (x1 + 1) hf
      · replace hf := ifF hf c54
        refine r_aload_n X (x := k.b + (189)) dX10_tick_57 rfl ?_
        refine r_iload_n X (x := x1) dX10_tick_58 rfl ?_
        obtain ⟨u59, h59, hf⟩ := bdS hf
        refine r_callV0 X [.int x1] [] (K10_pumpOut h59) lkX10_138 clsX10 rfl _ o_model (by decide) (Nat.le_of_ble_eq_true rfl) rfl rfl (Nat.le_of_ble_eq_true rfl) rfl rfl (Nat.zero_le _) (Nat.zero_le _) dX10_tick_59 ?_
        refine r_iinc X (x := x1) (v := x1 + 1) [some (.ref (k.b + (189))), some (.int (x1 + 1))] dX10_tick_62 rfl rfl rfl ?_
        refine r_goto X 40 dX10_tick_65 rfl ?_
        exact ih u59 (x1 + 1) hf
set_option maxRecDepth 100000 in
set_option maxHeartbeats 4000000 in
theorem B10_tick_B10 {k : KT} {z : ZT} {T : TT} {R : RR} {ly : Fin 2 → LL} {rc : RC} {hn : HN} {rp : RP} {tp : TP} {ee : EE} {st : Fin 12 → SS} {aside : Nat → Int64} {thought : Nat → Int64} {fresh : Nat → Int64} {mu : MU} {th : Int32} {mp : MP} {mf : MF} {mh : MH} {mg : MG} {ou : Nat → Int64} {od : Nat → UInt64} {r : (Nat → Int64)} (X : XX k strs z RX10 cX10_tick 2 none (rmD 6 0 0)) (hQ : zQ z = MQ (zB z) (Qof k (none) (wAll k T R ly rc hn rp tp ee st r aside thought fresh mu th mp mf mh mg ou od)) (zA z) (zS z) 0 0 (kA k)) : ∀ (fu : Nat) (w : Nat → Int64) (x1 : Int32), f10_tick_B10  fu w x1 = some r → VW k z 0 0 (wAll k T R ly rc hn rp tp ee st w aside thought fresh mu th mp mf mh mg ou od) 10 [some (.ref (k.b + (189))), some (.int x1)] [] := by
  intro fu
  induction fu with
  | zero =>
    intro w x1 hf
    rw [f10_tick_B10] at hf
    cases hf
  | succ fu ih =>
    intro w x1 hf
    rw [f10_tick_B10] at hf
    refine r_iload_n X (x := x1) dX10_tick_10 rfl ?_
    refine r_aload_n X (x := k.b + (189)) dX10_tick_11 rfl ?_
    refine r_iconst X (v := 2) dX10_tick_12 rfl ?_
    obtain ⟨u13, h13, hf⟩ := bdS hf
    refine r_callV0 X [.int 2] [.int x1] (K10_many h13) lkX10_93 clsX10 rfl _ o_model (by decide) (Nat.le_of_ble_eq_true rfl) rfl rfl (Nat.le_of_ble_eq_true rfl) rfl rfl (Nat.zero_le _) (Nat.zero_le _) dX10_tick_13 ?_
    refine r_icmp_ge X 38 dX10_tick_16 rfl (fun c16 => ?_) (fun c16 => ?_)
    · replace hf := ifT hf c16
      refine r_iconst X (v := 0) dX10_tick_38 rfl ?_
      refine r_istore_n X [some (.ref (k.b + (189))), some (.int 0)] dX10_tick_39 (Nat.le_of_ble_eq_true rfl) rfl ?_
      exact B10_tick_B40 X hQ FU w 0 hf
    · replace hf := ifF hf c16
      refine r_aload_n X (x := k.b + (189)) dX10_tick_19 rfl ?_
      refine r_iload_n X (x := x1) dX10_tick_20 rfl ?_
      obtain ⟨u21, h21, hf⟩ := bdS hf
      refine r_callV0 X [.int x1] [] (K10_isOpen h21) lkX10_99 clsX10 rfl _ o_model (by decide) (Nat.le_of_ble_eq_true rfl) rfl rfl (Nat.le_of_ble_eq_true rfl) rfl rfl (Nat.zero_le _) (Nat.zero_le _) dX10_tick_21 ?_
      refine r_if_eq X 32 dX10_tick_24 rfl (fun c24 => ?_) (fun c24 => ?_)
      · replace hf := ifT hf c24
        refine r_iinc X (x := x1) (v := x1 + 1) [some (.ref (k.b + (189))), some (.int (x1 + 1))] dX10_tick_32 rfl rfl rfl ?_
        refine r_goto X 10 dX10_tick_35 rfl ?_
        exact ih w (x1 + 1) hf
      · replace hf := ifF hf c24
        refine r_aload_n X (x := k.b + (189)) dX10_tick_27 rfl ?_
        refine r_iload_n X (x := x1) dX10_tick_28 rfl ?_
        obtain ⟨u29, h29, hf⟩ := bdS hf
        refine r_callV0 X [.int x1] [] (K10_flowThrough h29) lkX10_131 clsX10 rfl _ o_model (by decide) (Nat.le_of_ble_eq_true rfl) rfl rfl (Nat.le_of_ble_eq_true rfl) rfl rfl (Nat.zero_le _) (Nat.zero_le _) dX10_tick_29 ?_
        refine r_iinc X (x := x1) (v := x1 + 1) [some (.ref (k.b + (189))), some (.int (x1 + 1))] dX10_tick_32 rfl rfl rfl ?_
        refine r_goto X 10 dX10_tick_35 rfl ?_
        exact ih u29 (x1 + 1) hf
set_option maxRecDepth 100000 in
set_option maxHeartbeats 4000000 in
theorem K10_tick {k : KT} {T : TT} {R : RR} {ly : Fin 2 → LL} {rc : RC} {hn : HN} {rp : RP} {tp : TP} {ee : EE} {st : Fin 12 → SS} {w : Nat → Int64} {aside : Nat → Int64} {thought : Nat → Int64} {fresh : Nat → Int64} {mu : MU} {th : Int32} {mp : MP} {mf : MF} {mh : MH} {mg : MG} {ou : Nat → Int64} {od : Nat → UInt64}   {r : (Nat → Int64)} (hf : f10_tick  w  = some r) : CT k strs yX10_tick cX10_tick 2 none (rmD 6 0 0) 0 0 [.ref (k.b + (189))] (wAll k T R ly rc hn rp tp ee st w aside thought fresh mu th mp mf mh mg ou od) (none) (wAll k T R ly rc hn rp tp ee st r aside thought fresh mu th mp mf mh mg ou od) := by
  refine CT.of (by decide) (Nat.le_of_ble_eq_true rfl) ?_
  intro z X hQ
  show VW k z 0 0 (wAll k T R ly rc hn rp tp ee st w aside thought fresh mu th mp mf mh mg ou od) 0 [some (.ref (k.b + (189))), none] []
  unfold f10_tick at hf
  refine r_aload_n X (x := k.b + (189)) dX10_tick_0 rfl ?_
  obtain ⟨u1, h1, hf⟩ := bdS hf
  refine r_callV0 X [] [] (K10_tripValves h1) lkX10_125 clsX10 rfl _ o_model (by decide) (Nat.le_of_ble_eq_true rfl) rfl rfl (Nat.le_of_ble_eq_true rfl) rfl rfl (Nat.zero_le _) (Nat.zero_le _) dX10_tick_1 ?_
  refine r_aload_n X (x := k.b + (189)) dX10_tick_4 rfl ?_
  obtain ⟨u5, h5, hf⟩ := bdS hf
  refine r_callV0 X [] [] (K10_getGas h5) lkX10_128 clsX10 rfl _ o_model (by decide) (Nat.le_of_ble_eq_true rfl) rfl rfl (Nat.le_of_ble_eq_true rfl) rfl rfl (Nat.zero_le _) (Nat.zero_le _) dX10_tick_5 ?_
  refine r_iconst X (v := 0) dX10_tick_8 rfl ?_
  refine r_istore_n X [some (.ref (k.b + (189))), some (.int 0)] dX10_tick_9 (Nat.le_of_ble_eq_true rfl) rfl ?_
  exact B10_tick_B10 X hQ FU u5 0 hf
set_option maxRecDepth 100000 in
set_option maxHeartbeats 4000000 in
theorem K10_trips {k : KT} {T : TT} {R : RR} {ly : Fin 2 → LL} {rc : RC} {hn : HN} {rp : RP} {tp : TP} {ee : EE} {st : Fin 12 → SS} {w : Nat → Int64} {aside : Nat → Int64} {thought : Nat → Int64} {fresh : Nat → Int64} {mu : MU} {th : Int32} {mp : MP} {mf : MF} {mh : MH} {mg : MG} {ou : Nat → Int64} {od : Nat → UInt64}   {r : Int32} (hf : f10_trips w   = some r) : CT k strs yX10_trips cX10_trips 1 (some .int) (rmD 0 0 0) 0 0 [.ref (k.b + (189))] (wAll k T R ly rc hn rp tp ee st w aside thought fresh mu th mp mf mh mg ou od) (some (.int r)) (wAll k T R ly rc hn rp tp ee st w aside thought fresh mu th mp mf mh mg ou od) := by
  refine CT.of (by decide) (Nat.le_of_ble_eq_true rfl) ?_
  intro z X hQ
  show VW k z 0 0 (wAll k T R ly rc hn rp tp ee st w aside thought fresh mu th mp mf mh mg ou od) 0 [some (.ref (k.b + (189)))] []
  unfold f10_trips at hf
  refine r_aload_n X (x := k.b + (189)) dX10_trips_0 rfl ?_
  refine r_getfield X (v := .ref (k.b + (190))) clsX10 flX10_7 (Nat.le_of_ble_eq_true rfl) _ o_model rfl dX10_trips_1 ?_
  refine r_iconst X (v := 5) dX10_trips_4 rfl ?_
  refine r_laload X (f := w) _ a_m_w (by decide) dX10_trips_5 ?_
  refine r_aload_n X (x := k.b + (189)) dX10_trips_6 rfl ?_
  refine r_getfield X (v := .ref (k.b + (190))) clsX10 flX10_7 (Nat.le_of_ble_eq_true rfl) _ o_model rfl dX10_trips_7 ?_
  refine r_bipush X (v := 6) dX10_trips_10 rfl ?_
  refine r_laload X (f := w) _ a_m_w (by decide) dX10_trips_12 ?_
  refine r_ladd X dX10_trips_13 ?_
  refine r_l2i X dX10_trips_14 ?_
  obtain rfl := Option.some.inj hf
  exact r_ireturn X hQ rfl rfl (Nat.le_of_ble_eq_true rfl) (Nat.le_of_ble_eq_true rfl) dX10_trips_15
set_option maxRecDepth 100000 in
set_option maxHeartbeats 4000000 in
theorem B10_passNow_B7 {k : KT} {z : ZT} {T : TT} {R : RR} {ly : Fin 2 → LL} {rc : RC} {hn : HN} {rp : RP} {tp : TP} {ee : EE} {st : Fin 12 → SS} {aside : Nat → Int64} {thought : Nat → Int64} {fresh : Nat → Int64} {mu : MU} {th : Int32} {mp : MP} {mf : MF} {mh : MH} {mg : MG} {ou : Nat → Int64} {od : Nat → UInt64} {r : Int32 × (Nat → Int64)} (X : XX k strs z RX10 cX10_passNow 4 (some .int) (rmD 7 0 0)) (hQ : zQ z = MQ (zB z) (Qof k (some (.int r.1)) (wAll k T R ly rc hn rp tp ee st r.2 aside thought fresh mu th mp mf mh mg ou od)) (zA z) (zS z) 0 0 (kA k)) : ∀ (fu : Nat) (w : Nat → Int64) (x1 : Int32) (x2 : Int32) (x3 : Int32), f10_passNow_B7  fu w x1 x2 x3 = some r → VW k z 0 0 (wAll k T R ly rc hn rp tp ee st w aside thought fresh mu th mp mf mh mg ou od) 7 [some (.ref (k.b + (189))), some (.int x1), some (.int x2), some (.int x3)] [] := by
  intro fu
  induction fu with
  | zero =>
    intro w x1 x2 x3 hf
    rw [f10_passNow_B7] at hf
    cases hf
  | succ fu ih =>
    intro w x1 x2 x3 hf
    rw [f10_passNow_B7] at hf
    refine r_iload_n X (x := x3) dX10_passNow_7 rfl ?_
    refine r_iload_n X (x := x1) dX10_passNow_8 rfl ?_
    refine r_icmp_ge X 22 dX10_passNow_9 rfl (fun c9 => ?_) (fun c9 => ?_)
    · replace hf := ifT hf c9
      refine r_aload_n X (x := k.b + (189)) dX10_passNow_22 rfl ?_
      obtain ⟨u23, h23, hf⟩ := bdS hf
      refine r_callV0 X [] [] (K10_trips h23) lkX10_141 clsX10 rfl _ o_model (by decide) (Nat.le_of_ble_eq_true rfl) rfl rfl (Nat.le_of_ble_eq_true rfl) rfl rfl (Nat.zero_le _) (Nat.zero_le _) dX10_passNow_23 ?_
      refine r_iload_n X (x := x2) dX10_passNow_26 rfl ?_
      refine r_isub X dX10_passNow_27 ?_
      obtain rfl := Option.some.inj hf
      exact r_ireturn X hQ rfl rfl (Nat.le_of_ble_eq_true rfl) (Nat.le_of_ble_eq_true rfl) dX10_passNow_28
    · replace hf := ifF hf c9
      refine r_aload_n X (x := k.b + (189)) dX10_passNow_12 rfl ?_
      obtain ⟨u13, h13, hf⟩ := bdS hf
      refine r_callV0 X [] [] (K10_tick h13) lkX10_145 clsX10 rfl _ o_model (by decide) (Nat.le_of_ble_eq_true rfl) rfl rfl (Nat.le_of_ble_eq_true rfl) rfl rfl (Nat.zero_le _) (Nat.zero_le _) dX10_passNow_13 ?_
      refine r_iinc X (x := x3) (v := x3 + 1) [some (.ref (k.b + (189))), some (.int x1), some (.int x2), some (.int (x3 + 1))] dX10_passNow_16 rfl rfl rfl ?_
      refine r_goto X 7 dX10_passNow_19 rfl ?_
      exact ih u13 x1 x2 (x3 + 1) hf
set_option maxRecDepth 100000 in
set_option maxHeartbeats 4000000 in
theorem K10_passNow {k : KT} {T : TT} {R : RR} {ly : Fin 2 → LL} {rc : RC} {hn : HN} {rp : RP} {tp : TP} {ee : EE} {st : Fin 12 → SS} {w : Nat → Int64} {aside : Nat → Int64} {thought : Nat → Int64} {fresh : Nat → Int64} {mu : MU} {th : Int32} {mp : MP} {mf : MF} {mh : MH} {mg : MG} {ou : Nat → Int64} {od : Nat → UInt64}  {x1 : Int32} {r : Int32 × (Nat → Int64)} (hf : f10_passNow  w x1 = some r) : CT k strs yX10_passNow cX10_passNow 4 (some .int) (rmD 7 0 0) 0 0 [.ref (k.b + (189)), .int x1] (wAll k T R ly rc hn rp tp ee st w aside thought fresh mu th mp mf mh mg ou od) (some (.int r.1)) (wAll k T R ly rc hn rp tp ee st r.2 aside thought fresh mu th mp mf mh mg ou od) := by
  refine CT.of (by decide) (Nat.le_of_ble_eq_true rfl) ?_
  intro z X hQ
  show VW k z 0 0 (wAll k T R ly rc hn rp tp ee st w aside thought fresh mu th mp mf mh mg ou od) 0 [some (.ref (k.b + (189))), some (.int x1), none, none] []
  unfold f10_passNow at hf
  refine r_aload_n X (x := k.b + (189)) dX10_passNow_0 rfl ?_
  obtain ⟨u1, h1, hf⟩ := bdS hf
  refine r_callV0 X [] [] (K10_trips h1) lkX10_141 clsX10 rfl _ o_model (by decide) (Nat.le_of_ble_eq_true rfl) rfl rfl (Nat.le_of_ble_eq_true rfl) rfl rfl (Nat.zero_le _) (Nat.zero_le _) dX10_passNow_1 ?_
  refine r_istore_n X [some (.ref (k.b + (189))), some (.int x1), some (.int u1), none] dX10_passNow_4 (Nat.le_of_ble_eq_true rfl) rfl ?_
  refine r_iconst X (v := 0) dX10_passNow_5 rfl ?_
  refine r_istore_n X [some (.ref (k.b + (189))), some (.int x1), some (.int u1), some (.int 0)] dX10_passNow_6 (Nat.le_of_ble_eq_true rfl) rfl ?_
  exact B10_passNow_B7 X hQ FU w x1 u1 0 hf
set_option maxRecDepth 100000 in
set_option maxHeartbeats 4000000 in
theorem B10_goDown_B30 {k : KT} {z : ZT} {T : TT} {R : RR} {ly : Fin 2 → LL} {rc : RC} {hn : HN} {rp : RP} {tp : TP} {ee : EE} {st : Fin 12 → SS} {aside : Nat → Int64} {thought : Nat → Int64} {fresh : Nat → Int64} {mu : MU} {th : Int32} {mp : MP} {mf : MF} {mh : MH} {mg : MG} {ou : Nat → Int64} {od : Nat → UInt64} {r : Int32 × (Nat → Int64)} (X : XX k strs z RX10 cX10_goDown 4 (some .int) (rmD 7 0 0)) (hQ : zQ z = MQ (zB z) (Qof k (some (.int r.1)) (wAll k T R ly rc hn rp tp ee st r.2 aside thought fresh mu th mp mf mh mg ou od)) (zA z) (zS z) 0 0 (kA k)) (w : Nat → Int64) (x1 : Int32) (x2 : Int32) (x3 : Int32) (hf : f10_goDown_B30  w x1 x2 x3 = some r) : VW k z 0 0 (wAll k T R ly rc hn rp tp ee st w aside thought fresh mu th mp mf mh mg ou od) 30 [some (.ref (k.b + (189))), some (.int x1), some (.int x2), some (.int x3)] [] := by
  unfold f10_goDown_B30 at hf
  refine r_aload_n X (x := k.b + (189)) dX10_goDown_30 rfl ?_
  refine r_iload_n X (x := x1) dX10_goDown_31 rfl ?_
  obtain ⟨u32, h32, hf⟩ := bdS hf
  refine r_callV0 X [.int x1] [] (K10_pressure h32) lkX10_78 clsX10 rfl _ o_model (by decide) (Nat.le_of_ble_eq_true rfl) rfl rfl (Nat.le_of_ble_eq_true rfl) rfl rfl (Nat.zero_le _) (Nat.zero_le _) dX10_goDown_32 ?_
  refine r_iload_n X (x := x2) dX10_goDown_35 rfl ?_
  refine r_i2l X dX10_goDown_36 ?_
  suffices K37 : VW k z 0 0 (wAll k T R ly rc hn rp tp ee st w aside thought fresh mu th mp mf mh mg ou od) 46 [some (.ref (k.b + (189))), some (.int x1), some (.int x2), some (.int x3)] [.int (if x2.toInt64 < u32 then ((-1) : Int32) else (x3 : Int32))] by
    refine r_lcmp_gt X 45 dX10_goDown_37 dX10_goDown_38 rfl (fun c37 => ?_) (fun c37 => ?_)
    · refine r_iconst X (v := (-1)) dX10_goDown_45 rfl ?_
      rw [if_pos c37] at K37
      exact K37
    · refine r_iload_n X (x := x3) dX10_goDown_41 rfl ?_
      refine r_goto X 46 dX10_goDown_42 rfl ?_
      rw [if_neg c37] at K37
      exact K37
  obtain rfl := Option.some.inj hf
  exact r_ireturn X hQ rfl rfl (Nat.le_of_ble_eq_true rfl) (Nat.le_of_ble_eq_true rfl) dX10_goDown_46
set_option maxRecDepth 100000 in
set_option maxHeartbeats 4000000 in
theorem B10_goDown_B2 {k : KT} {z : ZT} {T : TT} {R : RR} {ly : Fin 2 → LL} {rc : RC} {hn : HN} {rp : RP} {tp : TP} {ee : EE} {st : Fin 12 → SS} {aside : Nat → Int64} {thought : Nat → Int64} {fresh : Nat → Int64} {mu : MU} {th : Int32} {mp : MP} {mf : MF} {mh : MH} {mg : MG} {ou : Nat → Int64} {od : Nat → UInt64} {r : Int32 × (Nat → Int64)} (X : XX k strs z RX10 cX10_goDown 4 (some .int) (rmD 7 0 0)) (hQ : zQ z = MQ (zB z) (Qof k (some (.int r.1)) (wAll k T R ly rc hn rp tp ee st r.2 aside thought fresh mu th mp mf mh mg ou od)) (zA z) (zS z) 0 0 (kA k)) : ∀ (fu : Nat) (w : Nat → Int64) (x1 : Int32) (x2 : Int32) (x3 : Int32), f10_goDown_B2  fu w x1 x2 x3 = some r → VW k z 0 0 (wAll k T R ly rc hn rp tp ee st w aside thought fresh mu th mp mf mh mg ou od) 2 [some (.ref (k.b + (189))), some (.int x1), some (.int x2), some (.int x3)] [] := by
  intro fu
  induction fu with
  | zero =>
    intro w x1 x2 x3 hf
    rw [f10_goDown_B2] at hf
    cases hf
  | succ fu ih =>
    intro w x1 x2 x3 hf
    rw [f10_goDown_B2] at hf
    refine r_iload_n X (x := x3) dX10_goDown_2 rfl ?_
    refine r_sipush X (v := 999) dX10_goDown_3 rfl ?_
    refine r_icmp_ge X 30 dX10_goDown_6 rfl (fun c6 => ?_) (fun c6 => ?_)
    · replace hf := ifT hf c6
      exact B10_goDown_B30 X hQ w x1 x2 x3 hf
    · replace hf := ifF hf c6
      refine r_aload_n X (x := k.b + (189)) dX10_goDown_9 rfl ?_
      refine r_iload_n X (x := x1) dX10_goDown_10 rfl ?_
      obtain ⟨u11, h11, hf⟩ := bdS hf
      refine r_callV0 X [.int x1] [] (K10_pressure h11) lkX10_78 clsX10 rfl _ o_model (by decide) (Nat.le_of_ble_eq_true rfl) rfl rfl (Nat.le_of_ble_eq_true rfl) rfl rfl (Nat.zero_le _) (Nat.zero_le _) dX10_goDown_11 ?_
      refine r_iload_n X (x := x2) dX10_goDown_14 rfl ?_
      refine r_i2l X dX10_goDown_15 ?_
      refine r_lcmp_le X 30 dX10_goDown_16 dX10_goDown_17 rfl (fun c16 => ?_) (fun c16 => ?_)
      · replace hf := ifT hf c16
        exact B10_goDown_B30 X hQ w x1 x2 x3 hf
      · replace hf := ifF hf c16
        refine r_aload_n X (x := k.b + (189)) dX10_goDown_20 rfl ?_
        obtain ⟨u21, h21, hf⟩ := bdS hf
        refine r_callV0 X [] [] (K10_tick h21) lkX10_145 clsX10 rfl _ o_model (by decide) (Nat.le_of_ble_eq_true rfl) rfl rfl (Nat.le_of_ble_eq_true rfl) rfl rfl (Nat.zero_le _) (Nat.zero_le _) dX10_goDown_21 ?_
        refine r_iinc X (x := x3) (v := x3 + 1) [some (.ref (k.b + (189))), some (.int x1), some (.int x2), some (.int (x3 + 1))] dX10_goDown_24 rfl rfl rfl ?_
        refine r_goto X 2 dX10_goDown_27 rfl ?_
        exact ih u21 x1 x2 (x3 + 1) hf
set_option maxRecDepth 100000 in
set_option maxHeartbeats 4000000 in
theorem K10_goDown {k : KT} {T : TT} {R : RR} {ly : Fin 2 → LL} {rc : RC} {hn : HN} {rp : RP} {tp : TP} {ee : EE} {st : Fin 12 → SS} {w : Nat → Int64} {aside : Nat → Int64} {thought : Nat → Int64} {fresh : Nat → Int64} {mu : MU} {th : Int32} {mp : MP} {mf : MF} {mh : MH} {mg : MG} {ou : Nat → Int64} {od : Nat → UInt64}  {x1 : Int32} {x2 : Int32} {r : Int32 × (Nat → Int64)} (hf : f10_goDown  w x1 x2 = some r) : CT k strs yX10_goDown cX10_goDown 4 (some .int) (rmD 7 0 0) 0 0 [.ref (k.b + (189)), .int x1, .int x2] (wAll k T R ly rc hn rp tp ee st w aside thought fresh mu th mp mf mh mg ou od) (some (.int r.1)) (wAll k T R ly rc hn rp tp ee st r.2 aside thought fresh mu th mp mf mh mg ou od) := by
  refine CT.of (by decide) (Nat.le_of_ble_eq_true rfl) ?_
  intro z X hQ
  show VW k z 0 0 (wAll k T R ly rc hn rp tp ee st w aside thought fresh mu th mp mf mh mg ou od) 0 [some (.ref (k.b + (189))), some (.int x1), some (.int x2), none] []
  unfold f10_goDown at hf
  refine r_iconst X (v := 0) dX10_goDown_0 rfl ?_
  refine r_istore_n X [some (.ref (k.b + (189))), some (.int x1), some (.int x2), some (.int 0)] dX10_goDown_1 (Nat.le_of_ble_eq_true rfl) rfl ?_
  exact B10_goDown_B2 X hQ FU w x1 x2 0 hf
set_option maxRecDepth 100000 in
set_option maxHeartbeats 4000000 in
theorem K10_canOpen {k : KT} {T : TT} {R : RR} {ly : Fin 2 → LL} {rc : RC} {hn : HN} {rp : RP} {tp : TP} {ee : EE} {st : Fin 12 → SS} {w : Nat → Int64} {aside : Nat → Int64} {thought : Nat → Int64} {fresh : Nat → Int64} {mu : MU} {th : Int32} {mp : MP} {mf : MF} {mh : MH} {mg : MG} {ou : Nat → Int64} {od : Nat → UInt64}  {x1 : Int32} {r : Int32} (hf : f10_canOpen w  x1 = some r) : CT k strs yX10_canOpen cX10_canOpen 2 (some .boolean) (rmD 5 0 0) 0 0 [.ref (k.b + (189)), .int x1] (wAll k T R ly rc hn rp tp ee st w aside thought fresh mu th mp mf mh mg ou od) (some (.int r)) (wAll k T R ly rc hn rp tp ee st w aside thought fresh mu th mp mf mh mg ou od) := by
  refine CT.of (by decide) (Nat.le_of_ble_eq_true rfl) ?_
  intro z X hQ
  show VW k z 0 0 (wAll k T R ly rc hn rp tp ee st w aside thought fresh mu th mp mf mh mg ou od) 0 [some (.ref (k.b + (189))), some (.int x1)] []
  unfold f10_canOpen at hf
  refine r_aload_n X (x := k.b + (189)) dX10_canOpen_0 rfl ?_
  refine r_iload_n X (x := x1) dX10_canOpen_1 rfl ?_
  obtain ⟨u2, h2, hf⟩ := bdS hf
  refine r_callV0 X [.int x1] [] (K10_isOpen h2) lkX10_99 clsX10 rfl _ o_model (by decide) (Nat.le_of_ble_eq_true rfl) rfl rfl (Nat.le_of_ble_eq_true rfl) rfl rfl (Nat.zero_le _) (Nat.zero_le _) dX10_canOpen_2 ?_
  refine r_if_ne X 20 dX10_canOpen_5 rfl (fun c5 => ?_) (fun c5 => ?_)
  · replace hf := ifF hf c5
    refine r_iconst X (v := 0) dX10_canOpen_20 rfl ?_
    obtain rfl := Option.some.inj hf
    exact r_zreturn X hQ rfl rfl (Nat.le_of_ble_eq_true rfl) (Nat.le_of_ble_eq_true rfl) rfl dX10_canOpen_21
  · replace hf := ifT hf c5
    refine r_aload_n X (x := k.b + (189)) dX10_canOpen_8 rfl ?_
    refine r_iload_n X (x := x1) dX10_canOpen_9 rfl ?_
    obtain ⟨u10, h10, hf⟩ := bdS hf
    refine r_callV0 X [.int x1] [] (K10_mayJoin h10) lkX10_103 clsX10 rfl _ o_model (by decide) (Nat.le_of_ble_eq_true rfl) rfl rfl (Nat.le_of_ble_eq_true rfl) rfl rfl (Nat.zero_le _) (Nat.zero_le _) dX10_canOpen_10 ?_
    refine r_if_eq X 20 dX10_canOpen_13 rfl (fun c13 => ?_) (fun c13 => ?_)
    · replace hf := ifT hf c13
      refine r_iconst X (v := 0) dX10_canOpen_20 rfl ?_
      obtain rfl := Option.some.inj hf
      exact r_zreturn X hQ rfl rfl (Nat.le_of_ble_eq_true rfl) (Nat.le_of_ble_eq_true rfl) rfl dX10_canOpen_21
    · replace hf := ifF hf c13
      refine r_iconst X (v := 1) dX10_canOpen_16 rfl ?_
      refine r_goto X 21 dX10_canOpen_17 rfl ?_
      obtain rfl := Option.some.inj hf
      exact r_zreturn X hQ rfl rfl (Nat.le_of_ble_eq_true rfl) (Nat.le_of_ble_eq_true rfl) rfl dX10_canOpen_21
set_option maxRecDepth 100000 in
set_option maxHeartbeats 4000000 in
theorem K10_turn {k : KT} {T : TT} {R : RR} {ly : Fin 2 → LL} {rc : RC} {hn : HN} {rp : RP} {tp : TP} {ee : EE} {st : Fin 12 → SS} {w : Nat → Int64} {aside : Nat → Int64} {thought : Nat → Int64} {fresh : Nat → Int64} {mu : MU} {th : Int32} {mp : MP} {mf : MF} {mh : MH} {mg : MG} {ou : Nat → Int64} {od : Nat → UInt64}  {x1 : Int32} {x2 : Int32} {r : Int32 × (Nat → Int64)} (hf : f10_turn  w x1 x2 = some r) : CT k strs yX10_turn cX10_turn 3 (some .int) (rmD 4 0 0) 0 0 [.ref (k.b + (189)), .int x1, .int x2] (wAll k T R ly rc hn rp tp ee st w aside thought fresh mu th mp mf mh mg ou od) (some (.int r.1)) (wAll k T R ly rc hn rp tp ee st r.2 aside thought fresh mu th mp mf mh mg ou od) := by
  refine CT.of (by decide) (Nat.le_of_ble_eq_true rfl) ?_
  intro z X hQ
  show VW k z 0 0 (wAll k T R ly rc hn rp tp ee st w aside thought fresh mu th mp mf mh mg ou od) 0 [some (.ref (k.b + (189))), some (.int x1), some (.int x2)] []
  unfold f10_turn at hf
  refine r_aload_n X (x := k.b + (189)) dX10_turn_0 rfl ?_
  refine r_getfield X (v := .ref (k.b + (190))) clsX10 flX10_7 (Nat.le_of_ble_eq_true rfl) _ o_model rfl dX10_turn_1 ?_
  refine r_iload_n X (x := x1) dX10_turn_4 rfl ?_
  obtain ⟨u5, h5, hf⟩ := bdS hf
  refine r_callS0 X [.int x1] [.ref (k.b + (190))] (K10_valveAt h5) lkX10_68 (by decide) (Nat.le_of_ble_eq_true rfl) rfl rfl (Nat.le_of_ble_eq_true rfl) rfl rfl (Nat.zero_le _) (Nat.zero_le _) dX10_turn_5 ?_
  refine r_iconst X (v := 4) dX10_turn_8 rfl ?_
  refine r_iadd X dX10_turn_9 ?_
  refine r_iload_n X (x := x2) dX10_turn_10 rfl ?_
  refine r_i2l X dX10_turn_11 ?_
  obtain ⟨g12, hf⟩ := gdS hf
  refine r_lastore X (f := w) (ws1 := wAll k T R ly rc hn rp tp ee st (vp_updL w (ix (u5 + 4)) x2.toInt64) aside thought fresh mu th mp mf mh mg ou od) _ a_m_w g12 (s_w (vp_updL w (ix (u5 + 4)) x2.toInt64)) dX10_turn_12 ?_
  refine r_aload_n X (x := k.b + (189)) dX10_turn_13 rfl ?_
  refine r_iload_n X (x := x1) dX10_turn_14 rfl ?_
  obtain ⟨u15, h15, hf⟩ := bdS hf
  refine r_callV0 X [.int x1] [] (K10_difference h15) lkX10_90 clsX10 rfl _ o_model (by decide) (Nat.le_of_ble_eq_true rfl) rfl rfl (Nat.le_of_ble_eq_true rfl) rfl rfl (Nat.zero_le _) (Nat.zero_le _) dX10_turn_15 ?_
  refine r_l2i X dX10_turn_18 ?_
  obtain rfl := Option.some.inj hf
  exact r_ireturn X hQ rfl rfl (Nat.le_of_ble_eq_true rfl) (Nat.le_of_ble_eq_true rfl) dX10_turn_19
set_option maxRecDepth 100000 in
set_option maxHeartbeats 4000000 in
theorem K10_open {k : KT} {T : TT} {R : RR} {ly : Fin 2 → LL} {rc : RC} {hn : HN} {rp : RP} {tp : TP} {ee : EE} {st : Fin 12 → SS} {w : Nat → Int64} {aside : Nat → Int64} {thought : Nat → Int64} {fresh : Nat → Int64} {mu : MU} {th : Int32} {mp : MP} {mf : MF} {mh : MH} {mg : MG} {ou : Nat → Int64} {od : Nat → UInt64}  {x1 : Int32} {r : Int32 × (Nat → Int64) × (Nat → Int64) × (MU) × (Int32)} (hf : f10_open  w aside mu th x1 = some r) : CT k strs yX10_open cX10_open 2 (some .int) (rmD 6 0 0) 0 0 [.ref (k.b + (189)), .int x1] (wAll k T R ly rc hn rp tp ee st w aside thought fresh mu th mp mf mh mg ou od) (some (.int r.1)) (wAll k T R ly rc hn rp tp ee st r.2.1 r.2.2.1 thought fresh r.2.2.2.1 r.2.2.2.2 mp mf mh mg ou od) := by
  refine CT.of (by decide) (Nat.le_of_ble_eq_true rfl) ?_
  intro z X hQ
  show VW k z 0 0 (wAll k T R ly rc hn rp tp ee st w aside thought fresh mu th mp mf mh mg ou od) 0 [some (.ref (k.b + (189))), some (.int x1)] []
  unfold f10_open at hf
  refine r_aload_n X (x := k.b + (189)) dX10_open_0 rfl ?_
  refine r_aload_n X (x := k.b + (189)) dX10_open_1 rfl ?_
  refine r_iload_n X (x := x1) dX10_open_2 rfl ?_
  obtain ⟨u3, h3, hf⟩ := bdS hf
  refine r_callV0 X [.int x1] [.ref (k.b + (189))] (K10_isValve h3) lkX10_148 clsX10 rfl _ o_model (by decide) (Nat.le_of_ble_eq_true rfl) rfl rfl (Nat.le_of_ble_eq_true rfl) rfl rfl (Nat.zero_le _) (Nat.zero_le _) dX10_open_3 ?_
  suffices K6 : VW k z 0 0 (wAll k T R ly rc hn rp tp ee st w aside thought fresh mu th mp mf mh mg ou od) 14 [some (.ref (k.b + (189))), some (.int x1)] [.int (if u3 = 0 then (1 : Int32) else (0 : Int32)), .ref (k.b + (189))] by
    refine r_if_ne X 13 dX10_open_6 rfl (fun c6 => ?_) (fun c6 => ?_)
    · refine r_iconst X (v := 0) dX10_open_13 rfl ?_
      rw [if_neg c6] at K6
      exact K6
    · refine r_iconst X (v := 1) dX10_open_9 rfl ?_
      refine r_goto X 14 dX10_open_10 rfl ?_
      rw [if_pos c6] at K6
      exact K6
  refine r_iconst X (v := 1) dX10_open_14 rfl ?_
  obtain ⟨u15, h15, hf⟩ := bdS hf
  refine r_callV0 X [.int (if u3 = 0 then (1 : Int32) else (0 : Int32)), .int 1] [] (K10_fails h15) lkX10_151 clsX10 rfl _ o_model (by decide) (Nat.le_of_ble_eq_true rfl) rfl rfl (Nat.le_of_ble_eq_true rfl) rfl rfl (Nat.zero_le _) (Nat.zero_le _) dX10_open_15 ?_
  refine r_if_ne X 42 dX10_open_18 rfl (fun c18 => ?_) (fun c18 => ?_)
  · replace hf := ifF hf c18
    refine r_iconst X (v := 0) dX10_open_42 rfl ?_
    obtain rfl := Option.some.inj hf
    exact r_ireturn X hQ rfl rfl (Nat.le_of_ble_eq_true rfl) (Nat.le_of_ble_eq_true rfl) dX10_open_43
  · replace hf := ifT hf c18
    refine r_aload_n X (x := k.b + (189)) dX10_open_21 rfl ?_
    refine r_aload_n X (x := k.b + (189)) dX10_open_22 rfl ?_
    refine r_iload_n X (x := x1) dX10_open_23 rfl ?_
    obtain ⟨u24, h24, hf⟩ := bdS hf
    refine r_callV0 X [.int x1] [.ref (k.b + (189))] (K10_canOpen h24) lkX10_155 clsX10 rfl _ o_model (by decide) (Nat.le_of_ble_eq_true rfl) rfl rfl (Nat.le_of_ble_eq_true rfl) rfl rfl (Nat.zero_le _) (Nat.zero_le _) dX10_open_24 ?_
    suffices K27 : VW k z 0 0 (wAll k T R ly rc hn rp tp ee st w aside thought fresh mu u15.2 mp mf mh mg ou od) 35 [some (.ref (k.b + (189))), some (.int x1)] [.int (if u24 = 0 then (1 : Int32) else (0 : Int32)), .ref (k.b + (189))] by
      refine r_if_ne X 34 dX10_open_27 rfl (fun c27 => ?_) (fun c27 => ?_)
      · refine r_iconst X (v := 0) dX10_open_34 rfl ?_
        rw [if_neg c27] at K27
        exact K27
      · refine r_iconst X (v := 1) dX10_open_30 rfl ?_
        refine r_goto X 35 dX10_open_31 rfl ?_
        rw [if_pos c27] at K27
        exact K27
    refine r_iconst X (v := 2) dX10_open_35 rfl ?_
    obtain ⟨u36, h36, hf⟩ := bdS hf
    refine r_callV0 X [.int (if u24 = 0 then (1 : Int32) else (0 : Int32)), .int 2] [] (K10_fails h36) lkX10_151 clsX10 rfl _ o_model (by decide) (Nat.le_of_ble_eq_true rfl) rfl rfl (Nat.le_of_ble_eq_true rfl) rfl rfl (Nat.zero_le _) (Nat.zero_le _) dX10_open_36 ?_
    refine r_if_eq X 44 dX10_open_39 rfl (fun c39 => ?_) (fun c39 => ?_)
    · replace hf := ifT hf c39
      refine r_aload_n X (x := k.b + (189)) dX10_open_44 rfl ?_
      obtain ⟨u45, h45, hf⟩ := bdS hf
      refine r_callV0 X [] [] (K10_remember h45) lkX10_158 clsX10 rfl _ o_model (by decide) (Nat.le_of_ble_eq_true rfl) rfl rfl (Nat.le_of_ble_eq_true rfl) rfl rfl (Nat.zero_le _) (Nat.zero_le _) dX10_open_45 ?_
      refine r_aload_n X (x := k.b + (189)) dX10_open_48 rfl ?_
      refine r_iload_n X (x := x1) dX10_open_49 rfl ?_
      refine r_iconst X (v := 1) dX10_open_50 rfl ?_
      obtain ⟨u51, h51, hf⟩ := bdS hf
      refine r_callV0 X [.int x1, .int 1] [] (K10_turn h51) lkX10_161 clsX10 rfl _ o_model (by decide) (Nat.le_of_ble_eq_true rfl) rfl rfl (Nat.le_of_ble_eq_true rfl) rfl rfl (Nat.zero_le _) (Nat.zero_le _) dX10_open_51 ?_
      obtain rfl := Option.some.inj hf
      exact r_ireturn X hQ rfl rfl (Nat.le_of_ble_eq_true rfl) (Nat.le_of_ble_eq_true rfl) dX10_open_54
    · replace hf := ifF hf c39
      refine r_iconst X (v := 0) dX10_open_42 rfl ?_
      obtain rfl := Option.some.inj hf
      exact r_ireturn X hQ rfl rfl (Nat.le_of_ble_eq_true rfl) (Nat.le_of_ble_eq_true rfl) dX10_open_43
set_option maxRecDepth 100000 in
set_option maxHeartbeats 4000000 in
theorem K10_close {k : KT} {T : TT} {R : RR} {ly : Fin 2 → LL} {rc : RC} {hn : HN} {rp : RP} {tp : TP} {ee : EE} {st : Fin 12 → SS} {w : Nat → Int64} {aside : Nat → Int64} {thought : Nat → Int64} {fresh : Nat → Int64} {mu : MU} {th : Int32} {mp : MP} {mf : MF} {mh : MH} {mg : MG} {ou : Nat → Int64} {od : Nat → UInt64}  {x1 : Int32} {r : Int32 × (Nat → Int64) × (Nat → Int64) × (MU) × (Int32)} (hf : f10_close  w aside mu th x1 = some r) : CT k strs yX10_close cX10_close 2 (some .int) (rmD 5 0 0) 0 0 [.ref (k.b + (189)), .int x1] (wAll k T R ly rc hn rp tp ee st w aside thought fresh mu th mp mf mh mg ou od) (some (.int r.1)) (wAll k T R ly rc hn rp tp ee st r.2.1 r.2.2.1 thought fresh r.2.2.2.1 r.2.2.2.2 mp mf mh mg ou od) := by
  refine CT.of (by decide) (Nat.le_of_ble_eq_true rfl) ?_
  intro z X hQ
  show VW k z 0 0 (wAll k T R ly rc hn rp tp ee st w aside thought fresh mu th mp mf mh mg ou od) 0 [some (.ref (k.b + (189))), some (.int x1)] []
  unfold f10_close at hf
  refine r_aload_n X (x := k.b + (189)) dX10_close_0 rfl ?_
  refine r_aload_n X (x := k.b + (189)) dX10_close_1 rfl ?_
  refine r_iload_n X (x := x1) dX10_close_2 rfl ?_
  obtain ⟨u3, h3, hf⟩ := bdS hf
  refine r_callV0 X [.int x1] [.ref (k.b + (189))] (K10_isValve h3) lkX10_148 clsX10 rfl _ o_model (by decide) (Nat.le_of_ble_eq_true rfl) rfl rfl (Nat.le_of_ble_eq_true rfl) rfl rfl (Nat.zero_le _) (Nat.zero_le _) dX10_close_3 ?_
  suffices K6 : VW k z 0 0 (wAll k T R ly rc hn rp tp ee st w aside thought fresh mu th mp mf mh mg ou od) 14 [some (.ref (k.b + (189))), some (.int x1)] [.int (if u3 = 0 then (1 : Int32) else (0 : Int32)), .ref (k.b + (189))] by
    refine r_if_ne X 13 dX10_close_6 rfl (fun c6 => ?_) (fun c6 => ?_)
    · refine r_iconst X (v := 0) dX10_close_13 rfl ?_
      rw [if_neg c6] at K6
      exact K6
    · refine r_iconst X (v := 1) dX10_close_9 rfl ?_
      refine r_goto X 14 dX10_close_10 rfl ?_
      rw [if_pos c6] at K6
      exact K6
  refine r_iconst X (v := 1) dX10_close_14 rfl ?_
  obtain ⟨u15, h15, hf⟩ := bdS hf
  refine r_callV0 X [.int (if u3 = 0 then (1 : Int32) else (0 : Int32)), .int 1] [] (K10_fails h15) lkX10_151 clsX10 rfl _ o_model (by decide) (Nat.le_of_ble_eq_true rfl) rfl rfl (Nat.le_of_ble_eq_true rfl) rfl rfl (Nat.zero_le _) (Nat.zero_le _) dX10_close_15 ?_
  refine r_if_ne X 42 dX10_close_18 rfl (fun c18 => ?_) (fun c18 => ?_)
  · replace hf := ifF hf c18
    refine r_iconst X (v := 0) dX10_close_42 rfl ?_
    obtain rfl := Option.some.inj hf
    exact r_ireturn X hQ rfl rfl (Nat.le_of_ble_eq_true rfl) (Nat.le_of_ble_eq_true rfl) dX10_close_43
  · replace hf := ifT hf c18
    refine r_aload_n X (x := k.b + (189)) dX10_close_21 rfl ?_
    refine r_aload_n X (x := k.b + (189)) dX10_close_22 rfl ?_
    refine r_iload_n X (x := x1) dX10_close_23 rfl ?_
    obtain ⟨u24, h24, hf⟩ := bdS hf
    refine r_callV0 X [.int x1] [.ref (k.b + (189))] (K10_isOpen h24) lkX10_99 clsX10 rfl _ o_model (by decide) (Nat.le_of_ble_eq_true rfl) rfl rfl (Nat.le_of_ble_eq_true rfl) rfl rfl (Nat.zero_le _) (Nat.zero_le _) dX10_close_24 ?_
    suffices K27 : VW k z 0 0 (wAll k T R ly rc hn rp tp ee st w aside thought fresh mu u15.2 mp mf mh mg ou od) 35 [some (.ref (k.b + (189))), some (.int x1)] [.int (if u24 = 0 then (1 : Int32) else (0 : Int32)), .ref (k.b + (189))] by
      refine r_if_ne X 34 dX10_close_27 rfl (fun c27 => ?_) (fun c27 => ?_)
      · refine r_iconst X (v := 0) dX10_close_34 rfl ?_
        rw [if_neg c27] at K27
        exact K27
      · refine r_iconst X (v := 1) dX10_close_30 rfl ?_
        refine r_goto X 35 dX10_close_31 rfl ?_
        rw [if_pos c27] at K27
        exact K27
    refine r_iconst X (v := 2) dX10_close_35 rfl ?_
    obtain ⟨u36, h36, hf⟩ := bdS hf
    refine r_callV0 X [.int (if u24 = 0 then (1 : Int32) else (0 : Int32)), .int 2] [] (K10_fails h36) lkX10_151 clsX10 rfl _ o_model (by decide) (Nat.le_of_ble_eq_true rfl) rfl rfl (Nat.le_of_ble_eq_true rfl) rfl rfl (Nat.zero_le _) (Nat.zero_le _) dX10_close_36 ?_
    refine r_if_eq X 44 dX10_close_39 rfl (fun c39 => ?_) (fun c39 => ?_)
    · replace hf := ifT hf c39
      refine r_aload_n X (x := k.b + (189)) dX10_close_44 rfl ?_
      obtain ⟨u45, h45, hf⟩ := bdS hf
      refine r_callV0 X [] [] (K10_remember h45) lkX10_158 clsX10 rfl _ o_model (by decide) (Nat.le_of_ble_eq_true rfl) rfl rfl (Nat.le_of_ble_eq_true rfl) rfl rfl (Nat.zero_le _) (Nat.zero_le _) dX10_close_45 ?_
      refine r_aload_n X (x := k.b + (189)) dX10_close_48 rfl ?_
      refine r_iload_n X (x := x1) dX10_close_49 rfl ?_
      refine r_iconst X (v := 0) dX10_close_50 rfl ?_
      obtain ⟨u51, h51, hf⟩ := bdS hf
      refine r_callV0 X [.int x1, .int 0] [] (K10_turn h51) lkX10_161 clsX10 rfl _ o_model (by decide) (Nat.le_of_ble_eq_true rfl) rfl rfl (Nat.le_of_ble_eq_true rfl) rfl rfl (Nat.zero_le _) (Nat.zero_le _) dX10_close_51 ?_
      obtain rfl := Option.some.inj hf
      exact r_ireturn X hQ rfl rfl (Nat.le_of_ble_eq_true rfl) (Nat.le_of_ble_eq_true rfl) dX10_close_54
    · replace hf := ifF hf c39
      refine r_iconst X (v := 0) dX10_close_42 rfl ?_
      obtain rfl := Option.some.inj hf
      exact r_ireturn X hQ rfl rfl (Nat.le_of_ble_eq_true rfl) (Nat.le_of_ble_eq_true rfl) dX10_close_43
set_option maxRecDepth 100000 in
set_option maxHeartbeats 4000000 in
theorem K10_canStart {k : KT} {T : TT} {R : RR} {ly : Fin 2 → LL} {rc : RC} {hn : HN} {rp : RP} {tp : TP} {ee : EE} {st : Fin 12 → SS} {w : Nat → Int64} {aside : Nat → Int64} {thought : Nat → Int64} {fresh : Nat → Int64} {mu : MU} {th : Int32} {mp : MP} {mf : MF} {mh : MH} {mg : MG} {ou : Nat → Int64} {od : Nat → UInt64}  {x1 : Int32} {r : Int32} (hf : f10_canStart w  x1 = some r) : CT k strs yX10_canStart cX10_canStart 2 (some .boolean) (rmD 4 0 0) 0 0 [.ref (k.b + (189)), .int x1] (wAll k T R ly rc hn rp tp ee st w aside thought fresh mu th mp mf mh mg ou od) (some (.int r)) (wAll k T R ly rc hn rp tp ee st w aside thought fresh mu th mp mf mh mg ou od) := by
  refine CT.of (by decide) (Nat.le_of_ble_eq_true rfl) ?_
  intro z X hQ
  show VW k z 0 0 (wAll k T R ly rc hn rp tp ee st w aside thought fresh mu th mp mf mh mg ou od) 0 [some (.ref (k.b + (189))), some (.int x1)] []
  unfold f10_canStart at hf
  refine r_aload_n X (x := k.b + (189)) dX10_canStart_0 rfl ?_
  refine r_iload_n X (x := x1) dX10_canStart_1 rfl ?_
  obtain ⟨u2, h2, hf⟩ := bdS hf
  refine r_callV0 X [.int x1] [] (K10_isRunning h2) lkX10_135 clsX10 rfl _ o_model (by decide) (Nat.le_of_ble_eq_true rfl) rfl rfl (Nat.le_of_ble_eq_true rfl) rfl rfl (Nat.zero_le _) (Nat.zero_le _) dX10_canStart_2 ?_
  refine r_if_ne X 28 dX10_canStart_5 rfl (fun c5 => ?_) (fun c5 => ?_)
  · replace hf := ifF hf c5
    refine r_iconst X (v := 0) dX10_canStart_28 rfl ?_
    obtain rfl := Option.some.inj hf
    exact r_zreturn X hQ rfl rfl (Nat.le_of_ble_eq_true rfl) (Nat.le_of_ble_eq_true rfl) rfl dX10_canStart_29
  · replace hf := ifT hf c5
    refine r_aload_n X (x := k.b + (189)) dX10_canStart_8 rfl ?_
    refine r_iload_n X (x := x1) dX10_canStart_9 rfl ?_
    obtain ⟨u10, h10, hf⟩ := bdS hf
    refine r_callV0 X [.int x1] [] (K10_isLowEnough h10) lkX10_119 clsX10 rfl _ o_model (by decide) (Nat.le_of_ble_eq_true rfl) rfl rfl (Nat.le_of_ble_eq_true rfl) rfl rfl (Nat.zero_le _) (Nat.zero_le _) dX10_canStart_10 ?_
    refine r_if_eq X 28 dX10_canStart_13 rfl (fun c13 => ?_) (fun c13 => ?_)
    · replace hf := ifT hf c13
      refine r_iconst X (v := 0) dX10_canStart_28 rfl ?_
      obtain rfl := Option.some.inj hf
      exact r_zreturn X hQ rfl rfl (Nat.le_of_ble_eq_true rfl) (Nat.le_of_ble_eq_true rfl) rfl dX10_canStart_29
    · replace hf := ifF hf c13
      refine r_aload_n X (x := k.b + (189)) dX10_canStart_16 rfl ?_
      refine r_iload_n X (x := x1) dX10_canStart_17 rfl ?_
      obtain ⟨u18, h18, hf⟩ := bdS hf
      refine r_callV0 X [.int x1] [] (K10_isBacked h18) lkX10_122 clsX10 rfl _ o_model (by decide) (Nat.le_of_ble_eq_true rfl) rfl rfl (Nat.le_of_ble_eq_true rfl) rfl rfl (Nat.zero_le _) (Nat.zero_le _) dX10_canStart_18 ?_
      refine r_if_eq X 28 dX10_canStart_21 rfl (fun c21 => ?_) (fun c21 => ?_)
      · replace hf := ifT hf c21
        refine r_iconst X (v := 0) dX10_canStart_28 rfl ?_
        obtain rfl := Option.some.inj hf
        exact r_zreturn X hQ rfl rfl (Nat.le_of_ble_eq_true rfl) (Nat.le_of_ble_eq_true rfl) rfl dX10_canStart_29
      · replace hf := ifF hf c21
        refine r_iconst X (v := 1) dX10_canStart_24 rfl ?_
        refine r_goto X 29 dX10_canStart_25 rfl ?_
        obtain rfl := Option.some.inj hf
        exact r_zreturn X hQ rfl rfl (Nat.le_of_ble_eq_true rfl) (Nat.le_of_ble_eq_true rfl) rfl dX10_canStart_29
set_option maxRecDepth 100000 in
set_option maxHeartbeats 4000000 in
theorem K10_run {k : KT} {T : TT} {R : RR} {ly : Fin 2 → LL} {rc : RC} {hn : HN} {rp : RP} {tp : TP} {ee : EE} {st : Fin 12 → SS} {w : Nat → Int64} {aside : Nat → Int64} {thought : Nat → Int64} {fresh : Nat → Int64} {mu : MU} {th : Int32} {mp : MP} {mf : MF} {mh : MH} {mg : MG} {ou : Nat → Int64} {od : Nat → UInt64}  {x1 : Int32} {x2 : Int32} {r : Int32 × (Nat → Int64)} (hf : f10_run  w x1 x2 = some r) : CT k strs yX10_run cX10_run 3 (some .int) (rmD 3 0 0) 0 0 [.ref (k.b + (189)), .int x1, .int x2] (wAll k T R ly rc hn rp tp ee st w aside thought fresh mu th mp mf mh mg ou od) (some (.int r.1)) (wAll k T R ly rc hn rp tp ee st r.2 aside thought fresh mu th mp mf mh mg ou od) := by
  refine CT.of (by decide) (Nat.le_of_ble_eq_true rfl) ?_
  intro z X hQ
  show VW k z 0 0 (wAll k T R ly rc hn rp tp ee st w aside thought fresh mu th mp mf mh mg ou od) 0 [some (.ref (k.b + (189))), some (.int x1), some (.int x2)] []
  unfold f10_run at hf
  refine r_aload_n X (x := k.b + (189)) dX10_run_0 rfl ?_
  refine r_getfield X (v := .ref (k.b + (190))) clsX10 flX10_7 (Nat.le_of_ble_eq_true rfl) _ o_model rfl dX10_run_1 ?_
  refine r_iload_n X (x := x1) dX10_run_4 rfl ?_
  obtain ⟨u5, h5, hf⟩ := bdS hf
  refine r_callS0 X [.int x1] [.ref (k.b + (190))] (K10_pumpAt h5) lkX10_71 (by decide) (Nat.le_of_ble_eq_true rfl) rfl rfl (Nat.le_of_ble_eq_true rfl) rfl rfl (Nat.zero_le _) (Nat.zero_le _) dX10_run_5 ?_
  refine r_bipush X (v := 6) dX10_run_8 rfl ?_
  refine r_iadd X dX10_run_10 ?_
  refine r_iload_n X (x := x2) dX10_run_11 rfl ?_
  refine r_i2l X dX10_run_12 ?_
  obtain ⟨g13, hf⟩ := gdS hf
  refine r_lastore X (f := w) (ws1 := wAll k T R ly rc hn rp tp ee st (vp_updL w (ix (u5 + 6)) x2.toInt64) aside thought fresh mu th mp mf mh mg ou od) _ a_m_w g13 (s_w (vp_updL w (ix (u5 + 6)) x2.toInt64)) dX10_run_13 ?_
  refine r_aload_n X (x := k.b + (189)) dX10_run_14 rfl ?_
  refine r_aload_n X (x := k.b + (189)) dX10_run_15 rfl ?_
  refine r_iload_n X (x := x1) dX10_run_16 rfl ?_
  refine r_iconst X (v := 0) dX10_run_17 rfl ?_
  obtain ⟨u18, h18, hf⟩ := bdS hf
  refine r_callV0 X [.int x1, .int 0] [.ref (k.b + (189))] (K10_ofPump h18) lkX10_87 clsX10 rfl _ o_model (by decide) (Nat.le_of_ble_eq_true rfl) rfl rfl (Nat.le_of_ble_eq_true rfl) rfl rfl (Nat.zero_le _) (Nat.zero_le _) dX10_run_18 ?_
  obtain ⟨u21, h21, hf⟩ := bdS hf
  refine r_callV0 X [.int u18] [] (K10_pressure h21) lkX10_78 clsX10 rfl _ o_model (by decide) (Nat.le_of_ble_eq_true rfl) rfl rfl (Nat.le_of_ble_eq_true rfl) rfl rfl (Nat.zero_le _) (Nat.zero_le _) dX10_run_21 ?_
  refine r_l2i X dX10_run_24 ?_
  obtain rfl := Option.some.inj hf
  exact r_ireturn X hQ rfl rfl (Nat.le_of_ble_eq_true rfl) (Nat.le_of_ble_eq_true rfl) dX10_run_25
set_option maxRecDepth 100000 in
set_option maxHeartbeats 4000000 in
theorem K10_start {k : KT} {T : TT} {R : RR} {ly : Fin 2 → LL} {rc : RC} {hn : HN} {rp : RP} {tp : TP} {ee : EE} {st : Fin 12 → SS} {w : Nat → Int64} {aside : Nat → Int64} {thought : Nat → Int64} {fresh : Nat → Int64} {mu : MU} {th : Int32} {mp : MP} {mf : MF} {mh : MH} {mg : MG} {ou : Nat → Int64} {od : Nat → UInt64}  {x1 : Int32} {r : Int32 × (Nat → Int64) × (Nat → Int64) × (MU) × (Int32)} (hf : f10_start  w aside mu th x1 = some r) : CT k strs yX10_start cX10_start 2 (some .int) (rmD 5 0 0) 0 0 [.ref (k.b + (189)), .int x1] (wAll k T R ly rc hn rp tp ee st w aside thought fresh mu th mp mf mh mg ou od) (some (.int r.1)) (wAll k T R ly rc hn rp tp ee st r.2.1 r.2.2.1 thought fresh r.2.2.2.1 r.2.2.2.2 mp mf mh mg ou od) := by
  refine CT.of (by decide) (Nat.le_of_ble_eq_true rfl) ?_
  intro z X hQ
  show VW k z 0 0 (wAll k T R ly rc hn rp tp ee st w aside thought fresh mu th mp mf mh mg ou od) 0 [some (.ref (k.b + (189))), some (.int x1)] []
  unfold f10_start at hf
  refine r_aload_n X (x := k.b + (189)) dX10_start_0 rfl ?_
  refine r_aload_n X (x := k.b + (189)) dX10_start_1 rfl ?_
  refine r_iload_n X (x := x1) dX10_start_2 rfl ?_
  obtain ⟨u3, h3, hf⟩ := bdS hf
  refine r_callV0 X [.int x1] [.ref (k.b + (189))] (K10_isPump h3) lkX10_164 clsX10 rfl _ o_model (by decide) (Nat.le_of_ble_eq_true rfl) rfl rfl (Nat.le_of_ble_eq_true rfl) rfl rfl (Nat.zero_le _) (Nat.zero_le _) dX10_start_3 ?_
  suffices K6 : VW k z 0 0 (wAll k T R ly rc hn rp tp ee st w aside thought fresh mu th mp mf mh mg ou od) 14 [some (.ref (k.b + (189))), some (.int x1)] [.int (if u3 = 0 then (1 : Int32) else (0 : Int32)), .ref (k.b + (189))] by
    refine r_if_ne X 13 dX10_start_6 rfl (fun c6 => ?_) (fun c6 => ?_)
    · refine r_iconst X (v := 0) dX10_start_13 rfl ?_
      rw [if_neg c6] at K6
      exact K6
    · refine r_iconst X (v := 1) dX10_start_9 rfl ?_
      refine r_goto X 14 dX10_start_10 rfl ?_
      rw [if_pos c6] at K6
      exact K6
  refine r_iconst X (v := 1) dX10_start_14 rfl ?_
  obtain ⟨u15, h15, hf⟩ := bdS hf
  refine r_callV0 X [.int (if u3 = 0 then (1 : Int32) else (0 : Int32)), .int 1] [] (K10_fails h15) lkX10_151 clsX10 rfl _ o_model (by decide) (Nat.le_of_ble_eq_true rfl) rfl rfl (Nat.le_of_ble_eq_true rfl) rfl rfl (Nat.zero_le _) (Nat.zero_le _) dX10_start_15 ?_
  refine r_if_ne X 42 dX10_start_18 rfl (fun c18 => ?_) (fun c18 => ?_)
  · replace hf := ifF hf c18
    refine r_iconst X (v := 0) dX10_start_42 rfl ?_
    obtain rfl := Option.some.inj hf
    exact r_ireturn X hQ rfl rfl (Nat.le_of_ble_eq_true rfl) (Nat.le_of_ble_eq_true rfl) dX10_start_43
  · replace hf := ifT hf c18
    refine r_aload_n X (x := k.b + (189)) dX10_start_21 rfl ?_
    refine r_aload_n X (x := k.b + (189)) dX10_start_22 rfl ?_
    refine r_iload_n X (x := x1) dX10_start_23 rfl ?_
    obtain ⟨u24, h24, hf⟩ := bdS hf
    refine r_callV0 X [.int x1] [.ref (k.b + (189))] (K10_canStart h24) lkX10_167 clsX10 rfl _ o_model (by decide) (Nat.le_of_ble_eq_true rfl) rfl rfl (Nat.le_of_ble_eq_true rfl) rfl rfl (Nat.zero_le _) (Nat.zero_le _) dX10_start_24 ?_
    suffices K27 : VW k z 0 0 (wAll k T R ly rc hn rp tp ee st w aside thought fresh mu u15.2 mp mf mh mg ou od) 35 [some (.ref (k.b + (189))), some (.int x1)] [.int (if u24 = 0 then (1 : Int32) else (0 : Int32)), .ref (k.b + (189))] by
      refine r_if_ne X 34 dX10_start_27 rfl (fun c27 => ?_) (fun c27 => ?_)
      · refine r_iconst X (v := 0) dX10_start_34 rfl ?_
        rw [if_neg c27] at K27
        exact K27
      · refine r_iconst X (v := 1) dX10_start_30 rfl ?_
        refine r_goto X 35 dX10_start_31 rfl ?_
        rw [if_pos c27] at K27
        exact K27
    refine r_iconst X (v := 2) dX10_start_35 rfl ?_
    obtain ⟨u36, h36, hf⟩ := bdS hf
    refine r_callV0 X [.int (if u24 = 0 then (1 : Int32) else (0 : Int32)), .int 2] [] (K10_fails h36) lkX10_151 clsX10 rfl _ o_model (by decide) (Nat.le_of_ble_eq_true rfl) rfl rfl (Nat.le_of_ble_eq_true rfl) rfl rfl (Nat.zero_le _) (Nat.zero_le _) dX10_start_36 ?_
    refine r_if_eq X 44 dX10_start_39 rfl (fun c39 => ?_) (fun c39 => ?_)
    · replace hf := ifT hf c39
      refine r_aload_n X (x := k.b + (189)) dX10_start_44 rfl ?_
      obtain ⟨u45, h45, hf⟩ := bdS hf
      refine r_callV0 X [] [] (K10_remember h45) lkX10_158 clsX10 rfl _ o_model (by decide) (Nat.le_of_ble_eq_true rfl) rfl rfl (Nat.le_of_ble_eq_true rfl) rfl rfl (Nat.zero_le _) (Nat.zero_le _) dX10_start_45 ?_
      refine r_aload_n X (x := k.b + (189)) dX10_start_48 rfl ?_
      refine r_iload_n X (x := x1) dX10_start_49 rfl ?_
      refine r_iconst X (v := 1) dX10_start_50 rfl ?_
      obtain ⟨u51, h51, hf⟩ := bdS hf
      refine r_callV0 X [.int x1, .int 1] [] (K10_run h51) lkX10_170 clsX10 rfl _ o_model (by decide) (Nat.le_of_ble_eq_true rfl) rfl rfl (Nat.le_of_ble_eq_true rfl) rfl rfl (Nat.zero_le _) (Nat.zero_le _) dX10_start_51 ?_
      obtain rfl := Option.some.inj hf
      exact r_ireturn X hQ rfl rfl (Nat.le_of_ble_eq_true rfl) (Nat.le_of_ble_eq_true rfl) dX10_start_54
    · replace hf := ifF hf c39
      refine r_iconst X (v := 0) dX10_start_42 rfl ?_
      obtain rfl := Option.some.inj hf
      exact r_ireturn X hQ rfl rfl (Nat.le_of_ble_eq_true rfl) (Nat.le_of_ble_eq_true rfl) dX10_start_43
set_option maxRecDepth 100000 in
set_option maxHeartbeats 4000000 in
theorem K10_stop {k : KT} {T : TT} {R : RR} {ly : Fin 2 → LL} {rc : RC} {hn : HN} {rp : RP} {tp : TP} {ee : EE} {st : Fin 12 → SS} {w : Nat → Int64} {aside : Nat → Int64} {thought : Nat → Int64} {fresh : Nat → Int64} {mu : MU} {th : Int32} {mp : MP} {mf : MF} {mh : MH} {mg : MG} {ou : Nat → Int64} {od : Nat → UInt64}  {x1 : Int32} {r : Int32 × (Nat → Int64) × (Nat → Int64) × (MU) × (Int32)} (hf : f10_stop  w aside mu th x1 = some r) : CT k strs yX10_stop cX10_stop 2 (some .int) (rmD 4 0 0) 0 0 [.ref (k.b + (189)), .int x1] (wAll k T R ly rc hn rp tp ee st w aside thought fresh mu th mp mf mh mg ou od) (some (.int r.1)) (wAll k T R ly rc hn rp tp ee st r.2.1 r.2.2.1 thought fresh r.2.2.2.1 r.2.2.2.2 mp mf mh mg ou od) := by
  refine CT.of (by decide) (Nat.le_of_ble_eq_true rfl) ?_
  intro z X hQ
  show VW k z 0 0 (wAll k T R ly rc hn rp tp ee st w aside thought fresh mu th mp mf mh mg ou od) 0 [some (.ref (k.b + (189))), some (.int x1)] []
  unfold f10_stop at hf
  refine r_aload_n X (x := k.b + (189)) dX10_stop_0 rfl ?_
  refine r_aload_n X (x := k.b + (189)) dX10_stop_1 rfl ?_
  refine r_iload_n X (x := x1) dX10_stop_2 rfl ?_
  obtain ⟨u3, h3, hf⟩ := bdS hf
  refine r_callV0 X [.int x1] [.ref (k.b + (189))] (K10_isPump h3) lkX10_164 clsX10 rfl _ o_model (by decide) (Nat.le_of_ble_eq_true rfl) rfl rfl (Nat.le_of_ble_eq_true rfl) rfl rfl (Nat.zero_le _) (Nat.zero_le _) dX10_stop_3 ?_
  suffices K6 : VW k z 0 0 (wAll k T R ly rc hn rp tp ee st w aside thought fresh mu th mp mf mh mg ou od) 14 [some (.ref (k.b + (189))), some (.int x1)] [.int (if u3 = 0 then (1 : Int32) else (0 : Int32)), .ref (k.b + (189))] by
    refine r_if_ne X 13 dX10_stop_6 rfl (fun c6 => ?_) (fun c6 => ?_)
    · refine r_iconst X (v := 0) dX10_stop_13 rfl ?_
      rw [if_neg c6] at K6
      exact K6
    · refine r_iconst X (v := 1) dX10_stop_9 rfl ?_
      refine r_goto X 14 dX10_stop_10 rfl ?_
      rw [if_pos c6] at K6
      exact K6
  refine r_iconst X (v := 1) dX10_stop_14 rfl ?_
  obtain ⟨u15, h15, hf⟩ := bdS hf
  refine r_callV0 X [.int (if u3 = 0 then (1 : Int32) else (0 : Int32)), .int 1] [] (K10_fails h15) lkX10_151 clsX10 rfl _ o_model (by decide) (Nat.le_of_ble_eq_true rfl) rfl rfl (Nat.le_of_ble_eq_true rfl) rfl rfl (Nat.zero_le _) (Nat.zero_le _) dX10_stop_15 ?_
  refine r_if_ne X 42 dX10_stop_18 rfl (fun c18 => ?_) (fun c18 => ?_)
  · replace hf := ifF hf c18
    refine r_iconst X (v := 0) dX10_stop_42 rfl ?_
    obtain rfl := Option.some.inj hf
    exact r_ireturn X hQ rfl rfl (Nat.le_of_ble_eq_true rfl) (Nat.le_of_ble_eq_true rfl) dX10_stop_43
  · replace hf := ifT hf c18
    refine r_aload_n X (x := k.b + (189)) dX10_stop_21 rfl ?_
    refine r_aload_n X (x := k.b + (189)) dX10_stop_22 rfl ?_
    refine r_iload_n X (x := x1) dX10_stop_23 rfl ?_
    obtain ⟨u24, h24, hf⟩ := bdS hf
    refine r_callV0 X [.int x1] [.ref (k.b + (189))] (K10_isRunning h24) lkX10_135 clsX10 rfl _ o_model (by decide) (Nat.le_of_ble_eq_true rfl) rfl rfl (Nat.le_of_ble_eq_true rfl) rfl rfl (Nat.zero_le _) (Nat.zero_le _) dX10_stop_24 ?_
    suffices K27 : VW k z 0 0 (wAll k T R ly rc hn rp tp ee st w aside thought fresh mu u15.2 mp mf mh mg ou od) 35 [some (.ref (k.b + (189))), some (.int x1)] [.int (if u24 = 0 then (1 : Int32) else (0 : Int32)), .ref (k.b + (189))] by
      refine r_if_ne X 34 dX10_stop_27 rfl (fun c27 => ?_) (fun c27 => ?_)
      · refine r_iconst X (v := 0) dX10_stop_34 rfl ?_
        rw [if_neg c27] at K27
        exact K27
      · refine r_iconst X (v := 1) dX10_stop_30 rfl ?_
        refine r_goto X 35 dX10_stop_31 rfl ?_
        rw [if_pos c27] at K27
        exact K27
    refine r_iconst X (v := 2) dX10_stop_35 rfl ?_
    obtain ⟨u36, h36, hf⟩ := bdS hf
    refine r_callV0 X [.int (if u24 = 0 then (1 : Int32) else (0 : Int32)), .int 2] [] (K10_fails h36) lkX10_151 clsX10 rfl _ o_model (by decide) (Nat.le_of_ble_eq_true rfl) rfl rfl (Nat.le_of_ble_eq_true rfl) rfl rfl (Nat.zero_le _) (Nat.zero_le _) dX10_stop_36 ?_
    refine r_if_eq X 44 dX10_stop_39 rfl (fun c39 => ?_) (fun c39 => ?_)
    · replace hf := ifT hf c39
      refine r_aload_n X (x := k.b + (189)) dX10_stop_44 rfl ?_
      obtain ⟨u45, h45, hf⟩ := bdS hf
      refine r_callV0 X [] [] (K10_remember h45) lkX10_158 clsX10 rfl _ o_model (by decide) (Nat.le_of_ble_eq_true rfl) rfl rfl (Nat.le_of_ble_eq_true rfl) rfl rfl (Nat.zero_le _) (Nat.zero_le _) dX10_stop_45 ?_
      refine r_aload_n X (x := k.b + (189)) dX10_stop_48 rfl ?_
      refine r_iload_n X (x := x1) dX10_stop_49 rfl ?_
      refine r_iconst X (v := 0) dX10_stop_50 rfl ?_
      obtain ⟨u51, h51, hf⟩ := bdS hf
      refine r_callV0 X [.int x1, .int 0] [] (K10_run h51) lkX10_170 clsX10 rfl _ o_model (by decide) (Nat.le_of_ble_eq_true rfl) rfl rfl (Nat.le_of_ble_eq_true rfl) rfl rfl (Nat.zero_le _) (Nat.zero_le _) dX10_stop_51 ?_
      obtain rfl := Option.some.inj hf
      exact r_ireturn X hQ rfl rfl (Nat.le_of_ble_eq_true rfl) (Nat.le_of_ble_eq_true rfl) dX10_stop_54
    · replace hf := ifF hf c39
      refine r_iconst X (v := 0) dX10_stop_42 rfl ?_
      obtain rfl := Option.some.inj hf
      exact r_ireturn X hQ rfl rfl (Nat.le_of_ble_eq_true rfl) (Nat.le_of_ble_eq_true rfl) dX10_stop_43
set_option maxRecDepth 100000 in
set_option maxHeartbeats 4000000 in
theorem K10_pass {k : KT} {T : TT} {R : RR} {ly : Fin 2 → LL} {rc : RC} {hn : HN} {rp : RP} {tp : TP} {ee : EE} {st : Fin 12 → SS} {w : Nat → Int64} {aside : Nat → Int64} {thought : Nat → Int64} {fresh : Nat → Int64} {mu : MU} {th : Int32} {mp : MP} {mf : MF} {mh : MH} {mg : MG} {ou : Nat → Int64} {od : Nat → UInt64}  {x1 : Int32} {r : Int32 × (Nat → Int64) × (Nat → Int64) × (MU) × (Int32)} (hf : f10_pass  w aside mu th x1 = some r) : CT k strs yX10_pass cX10_pass 2 (some .int) (rmD 8 0 0) 0 0 [.ref (k.b + (189)), .int x1] (wAll k T R ly rc hn rp tp ee st w aside thought fresh mu th mp mf mh mg ou od) (some (.int r.1)) (wAll k T R ly rc hn rp tp ee st r.2.1 r.2.2.1 thought fresh r.2.2.2.1 r.2.2.2.2 mp mf mh mg ou od) := by
  refine CT.of (by decide) (Nat.le_of_ble_eq_true rfl) ?_
  intro z X hQ
  show VW k z 0 0 (wAll k T R ly rc hn rp tp ee st w aside thought fresh mu th mp mf mh mg ou od) 0 [some (.ref (k.b + (189))), some (.int x1)] []
  unfold f10_pass at hf
  refine r_aload_n X (x := k.b + (189)) dX10_pass_0 rfl ?_
  refine r_iload_n X (x := x1) dX10_pass_1 rfl ?_
  obtain ⟨u2, h2, hf⟩ := bdS hf
  refine r_callS0 X [.int x1] [.ref (k.b + (189))] (K10_isTicks h2) lkX10_173 (by decide) (Nat.le_of_ble_eq_true rfl) rfl rfl (Nat.le_of_ble_eq_true rfl) rfl rfl (Nat.zero_le _) (Nat.zero_le _) dX10_pass_2 ?_
  suffices K5 : VW k z 0 0 (wAll k T R ly rc hn rp tp ee st w aside thought fresh mu th mp mf mh mg ou od) 13 [some (.ref (k.b + (189))), some (.int x1)] [.int (if u2 = 0 then (1 : Int32) else (0 : Int32)), .ref (k.b + (189))] by
    refine r_if_ne X 12 dX10_pass_5 rfl (fun c5 => ?_) (fun c5 => ?_)
    · refine r_iconst X (v := 0) dX10_pass_12 rfl ?_
      rw [if_neg c5] at K5
      exact K5
    · refine r_iconst X (v := 1) dX10_pass_8 rfl ?_
      refine r_goto X 13 dX10_pass_9 rfl ?_
      rw [if_pos c5] at K5
      exact K5
  refine r_iconst X (v := 1) dX10_pass_13 rfl ?_
  obtain ⟨u14, h14, hf⟩ := bdS hf
  refine r_callV0 X [.int (if u2 = 0 then (1 : Int32) else (0 : Int32)), .int 1] [] (K10_fails h14) lkX10_151 clsX10 rfl _ o_model (by decide) (Nat.le_of_ble_eq_true rfl) rfl rfl (Nat.le_of_ble_eq_true rfl) rfl rfl (Nat.zero_le _) (Nat.zero_le _) dX10_pass_14 ?_
  refine r_if_eq X 22 dX10_pass_17 rfl (fun c17 => ?_) (fun c17 => ?_)
  · replace hf := ifT hf c17
    refine r_aload_n X (x := k.b + (189)) dX10_pass_22 rfl ?_
    obtain ⟨u23, h23, hf⟩ := bdS hf
    refine r_callV0 X [] [] (K10_remember h23) lkX10_158 clsX10 rfl _ o_model (by decide) (Nat.le_of_ble_eq_true rfl) rfl rfl (Nat.le_of_ble_eq_true rfl) rfl rfl (Nat.zero_le _) (Nat.zero_le _) dX10_pass_23 ?_
    refine r_aload_n X (x := k.b + (189)) dX10_pass_26 rfl ?_
    refine r_iload_n X (x := x1) dX10_pass_27 rfl ?_
    obtain ⟨u28, h28, hf⟩ := bdS hf
    refine r_callV0 X [.int x1] [] (K10_passNow h28) lkX10_176 clsX10 rfl _ o_model (by decide) (Nat.le_of_ble_eq_true rfl) rfl rfl (Nat.le_of_ble_eq_true rfl) rfl rfl (Nat.zero_le _) (Nat.zero_le _) dX10_pass_28 ?_
    obtain rfl := Option.some.inj hf
    exact r_ireturn X hQ rfl rfl (Nat.le_of_ble_eq_true rfl) (Nat.le_of_ble_eq_true rfl) dX10_pass_31
  · replace hf := ifF hf c17
    refine r_iconst X (v := 0) dX10_pass_20 rfl ?_
    obtain rfl := Option.some.inj hf
    exact r_ireturn X hQ rfl rfl (Nat.le_of_ble_eq_true rfl) (Nat.le_of_ble_eq_true rfl) dX10_pass_21
set_option maxRecDepth 100000 in
set_option maxHeartbeats 4000000 in
theorem K10_passUntil {k : KT} {T : TT} {R : RR} {ly : Fin 2 → LL} {rc : RC} {hn : HN} {rp : RP} {tp : TP} {ee : EE} {st : Fin 12 → SS} {w : Nat → Int64} {aside : Nat → Int64} {thought : Nat → Int64} {fresh : Nat → Int64} {mu : MU} {th : Int32} {mp : MP} {mf : MF} {mh : MH} {mg : MG} {ou : Nat → Int64} {od : Nat → UInt64}  {x1 : Int32} {x2 : Int32} {r : Int32 × (Nat → Int64) × (Nat → Int64) × (MU) × (Int32)} (hf : f10_passUntil  w aside mu th x1 x2 = some r) : CT k strs yX10_passUntil cX10_passUntil 4 (some .int) (rmD 8 0 0) 0 0 [.ref (k.b + (189)), .int x1, .int x2] (wAll k T R ly rc hn rp tp ee st w aside thought fresh mu th mp mf mh mg ou od) (some (.int r.1)) (wAll k T R ly rc hn rp tp ee st r.2.1 r.2.2.1 thought fresh r.2.2.2.1 r.2.2.2.2 mp mf mh mg ou od) := by
  refine CT.of (by decide) (Nat.le_of_ble_eq_true rfl) ?_
  intro z X hQ
  show VW k z 0 0 (wAll k T R ly rc hn rp tp ee st w aside thought fresh mu th mp mf mh mg ou od) 0 [some (.ref (k.b + (189))), some (.int x1), some (.int x2), none] []
  unfold f10_passUntil at hf
  refine r_aload_n X (x := k.b + (189)) dX10_passUntil_0 rfl ?_
  refine r_aload_n X (x := k.b + (189)) dX10_passUntil_1 rfl ?_
  refine r_iload_n X (x := x1) dX10_passUntil_2 rfl ?_
  obtain ⟨u3, h3, hf⟩ := bdS hf
  refine r_callV0 X [.int x1] [.ref (k.b + (189))] (K10_isChamber h3) lkX10_179 clsX10 rfl _ o_model (by decide) (Nat.le_of_ble_eq_true rfl) rfl rfl (Nat.le_of_ble_eq_true rfl) rfl rfl (Nat.zero_le _) (Nat.zero_le _) dX10_passUntil_3 ?_
  suffices K6 : VW k z 0 0 (wAll k T R ly rc hn rp tp ee st w aside thought fresh mu th mp mf mh mg ou od) 14 [some (.ref (k.b + (189))), some (.int x1), some (.int x2), none] [.int (if u3 = 0 then (1 : Int32) else (0 : Int32)), .ref (k.b + (189))] by
    refine r_if_ne X 13 dX10_passUntil_6 rfl (fun c6 => ?_) (fun c6 => ?_)
    · refine r_iconst X (v := 0) dX10_passUntil_13 rfl ?_
      rw [if_neg c6] at K6
      exact K6
    · refine r_iconst X (v := 1) dX10_passUntil_9 rfl ?_
      refine r_goto X 14 dX10_passUntil_10 rfl ?_
      rw [if_pos c6] at K6
      exact K6
  refine r_iconst X (v := 1) dX10_passUntil_14 rfl ?_
  obtain ⟨u15, h15, hf⟩ := bdS hf
  refine r_callV0 X [.int (if u3 = 0 then (1 : Int32) else (0 : Int32)), .int 1] [] (K10_fails h15) lkX10_151 clsX10 rfl _ o_model (by decide) (Nat.le_of_ble_eq_true rfl) rfl rfl (Nat.le_of_ble_eq_true rfl) rfl rfl (Nat.zero_le _) (Nat.zero_le _) dX10_passUntil_15 ?_
  refine r_if_ne X 41 dX10_passUntil_18 rfl (fun c18 => ?_) (fun c18 => ?_)
  · replace hf := ifF hf c18
    refine r_iconst X (v := 0) dX10_passUntil_41 rfl ?_
    obtain rfl := Option.some.inj hf
    exact r_ireturn X hQ rfl rfl (Nat.le_of_ble_eq_true rfl) (Nat.le_of_ble_eq_true rfl) dX10_passUntil_42
  · replace hf := ifT hf c18
    refine r_aload_n X (x := k.b + (189)) dX10_passUntil_21 rfl ?_
    refine r_iload_n X (x := x2) dX10_passUntil_22 rfl ?_
    obtain ⟨u23, h23, hf⟩ := bdS hf
    refine r_callS0 X [.int x2] [.ref (k.b + (189))] (K10_isPressure h23) lkX10_182 (by decide) (Nat.le_of_ble_eq_true rfl) rfl rfl (Nat.le_of_ble_eq_true rfl) rfl rfl (Nat.zero_le _) (Nat.zero_le _) dX10_passUntil_23 ?_
    suffices K26 : VW k z 0 0 (wAll k T R ly rc hn rp tp ee st w aside thought fresh mu u15.2 mp mf mh mg ou od) 34 [some (.ref (k.b + (189))), some (.int x1), some (.int x2), none] [.int (if u23 = 0 then (1 : Int32) else (0 : Int32)), .ref (k.b + (189))] by
      refine r_if_ne X 33 dX10_passUntil_26 rfl (fun c26 => ?_) (fun c26 => ?_)
      · refine r_iconst X (v := 0) dX10_passUntil_33 rfl ?_
        rw [if_neg c26] at K26
        exact K26
      · refine r_iconst X (v := 1) dX10_passUntil_29 rfl ?_
        refine r_goto X 34 dX10_passUntil_30 rfl ?_
        rw [if_pos c26] at K26
        exact K26
    refine r_iconst X (v := 2) dX10_passUntil_34 rfl ?_
    obtain ⟨u35, h35, hf⟩ := bdS hf
    refine r_callV0 X [.int (if u23 = 0 then (1 : Int32) else (0 : Int32)), .int 2] [] (K10_fails h35) lkX10_151 clsX10 rfl _ o_model (by decide) (Nat.le_of_ble_eq_true rfl) rfl rfl (Nat.le_of_ble_eq_true rfl) rfl rfl (Nat.zero_le _) (Nat.zero_le _) dX10_passUntil_35 ?_
    refine r_if_eq X 43 dX10_passUntil_38 rfl (fun c38 => ?_) (fun c38 => ?_)
    · replace hf := ifT hf c38
      refine r_aload_n X (x := k.b + (189)) dX10_passUntil_43 rfl ?_
      refine r_getfield X (v := .ref (k.b + (190))) clsX10 flX10_7 (Nat.le_of_ble_eq_true rfl) _ o_model rfl dX10_passUntil_44 ?_
      refine r_aload_n X (x := k.b + (189)) dX10_passUntil_47 rfl ?_
      refine r_getfield X (v := .ref (k.b + (191))) clsX10 flX10_13 (Nat.le_of_ble_eq_true rfl) _ o_model rfl dX10_passUntil_48 ?_
      obtain ⟨u51, h51, hf⟩ := bdS hf
      refine r_callS0 X [.ref (k.b + (190)), .ref (k.b + (191))] [] (K10_copy_w_aside h51) lkX10_50 (by decide) (Nat.le_of_ble_eq_true rfl) rfl rfl (Nat.le_of_ble_eq_true rfl) rfl rfl (Nat.zero_le _) (Nat.zero_le _) dX10_passUntil_51 ?_
      refine r_aload_n X (x := k.b + (189)) dX10_passUntil_54 rfl ?_
      refine r_iload_n X (x := x1) dX10_passUntil_55 rfl ?_
      refine r_iload_n X (x := x2) dX10_passUntil_56 rfl ?_
      obtain ⟨u57, h57, hf⟩ := bdS hf
      refine r_callV0 X [.int x1, .int x2] [] (K10_goDown h57) lkX10_185 clsX10 rfl _ o_model (by decide) (Nat.le_of_ble_eq_true rfl) rfl rfl (Nat.le_of_ble_eq_true rfl) rfl rfl (Nat.zero_le _) (Nat.zero_le _) dX10_passUntil_57 ?_
      refine r_istore_n X [some (.ref (k.b + (189))), some (.int x1), some (.int x2), some (.int u57.1)] dX10_passUntil_60 (Nat.le_of_ble_eq_true rfl) rfl ?_
      refine r_iload_n X (x := u57.1) dX10_passUntil_61 rfl ?_
      refine r_iconst X (v := (-1)) dX10_passUntil_62 rfl ?_
      refine r_icmp_ne X 83 dX10_passUntil_63 rfl (fun c63 => ?_) (fun c63 => ?_)
      · replace hf := ifF hf c63
        refine r_aload_n X (x := k.b + (189)) dX10_passUntil_83 rfl ?_
        obtain ⟨u84, h84, hf⟩ := bdS hf
        refine r_callV0 X [] [] (K10_push h84) lkX10_54 clsX10 rfl _ o_model (by decide) (Nat.le_of_ble_eq_true rfl) rfl rfl (Nat.le_of_ble_eq_true rfl) rfl rfl (Nat.zero_le _) (Nat.zero_le _) dX10_passUntil_84 ?_
        refine r_iload_n X (x := u57.1) dX10_passUntil_87 rfl ?_
        obtain rfl := Option.some.inj hf
        exact r_ireturn X hQ rfl rfl (Nat.le_of_ble_eq_true rfl) (Nat.le_of_ble_eq_true rfl) dX10_passUntil_88
      · replace hf := ifT hf c63
        refine r_aload_n X (x := k.b + (189)) dX10_passUntil_66 rfl ?_
        refine r_getfield X (v := .ref (k.b + (191))) clsX10 flX10_13 (Nat.le_of_ble_eq_true rfl) _ o_model rfl dX10_passUntil_67 ?_
        refine r_aload_n X (x := k.b + (189)) dX10_passUntil_70 rfl ?_
        refine r_getfield X (v := .ref (k.b + (190))) clsX10 flX10_7 (Nat.le_of_ble_eq_true rfl) _ o_model rfl dX10_passUntil_71 ?_
        obtain ⟨u74, h74, hf⟩ := bdS hf
        refine r_callS0 X [.ref (k.b + (191)), .ref (k.b + (190))] [] (K10_copy_aside_w h74) lkX10_50 (by decide) (Nat.le_of_ble_eq_true rfl) rfl rfl (Nat.le_of_ble_eq_true rfl) rfl rfl (Nat.zero_le _) (Nat.zero_le _) dX10_passUntil_74 ?_
        refine r_aload_n X (x := k.b + (189)) dX10_passUntil_77 rfl ?_
        refine r_iconst X (v := 3) dX10_passUntil_78 rfl ?_
        obtain ⟨u79, h79, hf⟩ := bdS hf
        refine r_callV0 X [.int 3] [] (K10_no h79) lkX10_57 clsX10 rfl _ o_model (by decide) (Nat.le_of_ble_eq_true rfl) rfl rfl (Nat.le_of_ble_eq_true rfl) rfl rfl (Nat.zero_le _) (Nat.zero_le _) dX10_passUntil_79 ?_
        obtain rfl := Option.some.inj hf
        exact r_ireturn X hQ rfl rfl (Nat.le_of_ble_eq_true rfl) (Nat.le_of_ble_eq_true rfl) dX10_passUntil_82
    · replace hf := ifF hf c38
      refine r_iconst X (v := 0) dX10_passUntil_41 rfl ?_
      obtain rfl := Option.some.inj hf
      exact r_ireturn X hQ rfl rfl (Nat.le_of_ble_eq_true rfl) (Nat.le_of_ble_eq_true rfl) dX10_passUntil_42
set_option maxRecDepth 100000 in
set_option maxHeartbeats 4000000 in
theorem K10_setNow {k : KT} {T : TT} {R : RR} {ly : Fin 2 → LL} {rc : RC} {hn : HN} {rp : RP} {tp : TP} {ee : EE} {st : Fin 12 → SS} {w : Nat → Int64} {aside : Nat → Int64} {thought : Nat → Int64} {fresh : Nat → Int64} {mu : MU} {th : Int32} {mp : MP} {mf : MF} {mh : MH} {mg : MG} {ou : Nat → Int64} {od : Nat → UInt64}  {x1 : Int32} {x2 : Int32} {r : Int32 × (Nat → Int64)} (hf : f10_setNow  w x1 x2 = some r) : CT k strs yX10_setNow cX10_setNow 4 (some .int) (rmD 0 0 0) 0 0 [.ref (k.b + (189)), .int x1, .int x2] (wAll k T R ly rc hn rp tp ee st w aside thought fresh mu th mp mf mh mg ou od) (some (.int r.1)) (wAll k T R ly rc hn rp tp ee st r.2 aside thought fresh mu th mp mf mh mg ou od) := by
  refine CT.of (by decide) (Nat.le_of_ble_eq_true rfl) ?_
  intro z X hQ
  show VW k z 0 0 (wAll k T R ly rc hn rp tp ee st w aside thought fresh mu th mp mf mh mg ou od) 0 [some (.ref (k.b + (189))), some (.int x1), some (.int x2), none] []
  unfold f10_setNow at hf
  refine r_aload_n X (x := k.b + (189)) dX10_setNow_0 rfl ?_
  refine r_getfield X (v := .ref (k.b + (190))) clsX10 flX10_7 (Nat.le_of_ble_eq_true rfl) _ o_model rfl dX10_setNow_1 ?_
  refine r_iload_n X (x := x1) dX10_setNow_4 rfl ?_
  obtain ⟨g5, hf⟩ := gdS hf
  refine r_laload X (f := w) _ a_m_w g5 dX10_setNow_5 ?_
  refine r_l2i X dX10_setNow_6 ?_
  refine r_istore_n X [some (.ref (k.b + (189))), some (.int x1), some (.int x2), some (.int ((w (ix x1)).toInt32))] dX10_setNow_7 (Nat.le_of_ble_eq_true rfl) rfl ?_
  refine r_aload_n X (x := k.b + (189)) dX10_setNow_8 rfl ?_
  refine r_getfield X (v := .ref (k.b + (190))) clsX10 flX10_7 (Nat.le_of_ble_eq_true rfl) _ o_model rfl dX10_setNow_9 ?_
  refine r_iload_n X (x := x1) dX10_setNow_12 rfl ?_
  refine r_iload_n X (x := x2) dX10_setNow_13 rfl ?_
  refine r_i2l X dX10_setNow_14 ?_
  refine r_lastore X (f := w) (ws1 := wAll k T R ly rc hn rp tp ee st (vp_updL w (ix x1) x2.toInt64) aside thought fresh mu th mp mf mh mg ou od) _ a_m_w g5 (s_w (vp_updL w (ix x1) x2.toInt64)) dX10_setNow_15 ?_
  refine r_iload_n X (x := (w (ix x1)).toInt32) dX10_setNow_16 rfl ?_
  obtain rfl := Option.some.inj hf
  exact r_ireturn X hQ rfl rfl (Nat.le_of_ble_eq_true rfl) (Nat.le_of_ble_eq_true rfl) dX10_setNow_17
set_option maxRecDepth 100000 in
set_option maxHeartbeats 4000000 in
theorem K10_sets {k : KT} {T : TT} {R : RR} {ly : Fin 2 → LL} {rc : RC} {hn : HN} {rp : RP} {tp : TP} {ee : EE} {st : Fin 12 → SS} {w : Nat → Int64} {aside : Nat → Int64} {thought : Nat → Int64} {fresh : Nat → Int64} {mu : MU} {th : Int32} {mp : MP} {mf : MF} {mh : MH} {mg : MG} {ou : Nat → Int64} {od : Nat → UInt64}  {x1 : Int32} {x2 : Int32} {r : Int32 × (Nat → Int64) × (Nat → Int64) × (MU)} (hf : f10_sets  w aside mu x1 x2 = some r) : CT k strs yX10_sets cX10_sets 3 (some .int) (rmD 2 0 0) 0 0 [.ref (k.b + (189)), .int x1, .int x2] (wAll k T R ly rc hn rp tp ee st w aside thought fresh mu th mp mf mh mg ou od) (some (.int r.1)) (wAll k T R ly rc hn rp tp ee st r.2.1 r.2.2.1 thought fresh r.2.2.2 th mp mf mh mg ou od) := by
  refine CT.of (by decide) (Nat.le_of_ble_eq_true rfl) ?_
  intro z X hQ
  show VW k z 0 0 (wAll k T R ly rc hn rp tp ee st w aside thought fresh mu th mp mf mh mg ou od) 0 [some (.ref (k.b + (189))), some (.int x1), some (.int x2)] []
  unfold f10_sets at hf
  refine r_aload_n X (x := k.b + (189)) dX10_sets_0 rfl ?_
  obtain ⟨u1, h1, hf⟩ := bdS hf
  refine r_callV0 X [] [] (K10_remember h1) lkX10_158 clsX10 rfl _ o_model (by decide) (Nat.le_of_ble_eq_true rfl) rfl rfl (Nat.le_of_ble_eq_true rfl) rfl rfl (Nat.zero_le _) (Nat.zero_le _) dX10_sets_1 ?_
  refine r_aload_n X (x := k.b + (189)) dX10_sets_4 rfl ?_
  refine r_iload_n X (x := x1) dX10_sets_5 rfl ?_
  refine r_iload_n X (x := x2) dX10_sets_6 rfl ?_
  obtain ⟨u7, h7, hf⟩ := bdS hf
  refine r_callV0 X [.int x1, .int x2] [] (K10_setNow h7) lkX10_188 clsX10 rfl _ o_model (by decide) (Nat.le_of_ble_eq_true rfl) rfl rfl (Nat.le_of_ble_eq_true rfl) rfl rfl (Nat.zero_le _) (Nat.zero_le _) dX10_sets_7 ?_
  obtain rfl := Option.some.inj hf
  exact r_ireturn X hQ rfl rfl (Nat.le_of_ble_eq_true rfl) (Nat.le_of_ble_eq_true rfl) dX10_sets_10
set_option maxRecDepth 100000 in
set_option maxHeartbeats 4000000 in
theorem K10_seal {k : KT} {T : TT} {R : RR} {ly : Fin 2 → LL} {rc : RC} {hn : HN} {rp : RP} {tp : TP} {ee : EE} {st : Fin 12 → SS} {w : Nat → Int64} {aside : Nat → Int64} {thought : Nat → Int64} {fresh : Nat → Int64} {mu : MU} {th : Int32} {mp : MP} {mf : MF} {mh : MH} {mg : MG} {ou : Nat → Int64} {od : Nat → UInt64}  {x1 : Int32} {r : Int32 × (Nat → Int64) × (Nat → Int64) × (MU) × (Int32)} (hf : f10_seal  w aside mu th x1 = some r) : CT k strs yX10_seal cX10_seal 2 (some .int) (rmD 3 0 0) 0 0 [.ref (k.b + (189)), .int x1] (wAll k T R ly rc hn rp tp ee st w aside thought fresh mu th mp mf mh mg ou od) (some (.int r.1)) (wAll k T R ly rc hn rp tp ee st r.2.1 r.2.2.1 thought fresh r.2.2.2.1 r.2.2.2.2 mp mf mh mg ou od) := by
  refine CT.of (by decide) (Nat.le_of_ble_eq_true rfl) ?_
  intro z X hQ
  show VW k z 0 0 (wAll k T R ly rc hn rp tp ee st w aside thought fresh mu th mp mf mh mg ou od) 0 [some (.ref (k.b + (189))), some (.int x1)] []
  unfold f10_seal at hf
  refine r_aload_n X (x := k.b + (189)) dX10_seal_0 rfl ?_
  refine r_aload_n X (x := k.b + (189)) dX10_seal_1 rfl ?_
  refine r_iload_n X (x := x1) dX10_seal_2 rfl ?_
  obtain ⟨u3, h3, hf⟩ := bdS hf
  refine r_callV0 X [.int x1] [.ref (k.b + (189))] (K10_isFlange h3) lkX10_191 clsX10 rfl _ o_model (by decide) (Nat.le_of_ble_eq_true rfl) rfl rfl (Nat.le_of_ble_eq_true rfl) rfl rfl (Nat.zero_le _) (Nat.zero_le _) dX10_seal_3 ?_
  suffices K6 : VW k z 0 0 (wAll k T R ly rc hn rp tp ee st w aside thought fresh mu th mp mf mh mg ou od) 14 [some (.ref (k.b + (189))), some (.int x1)] [.int (if u3 = 0 then (1 : Int32) else (0 : Int32)), .ref (k.b + (189))] by
    refine r_if_ne X 13 dX10_seal_6 rfl (fun c6 => ?_) (fun c6 => ?_)
    · refine r_iconst X (v := 0) dX10_seal_13 rfl ?_
      rw [if_neg c6] at K6
      exact K6
    · refine r_iconst X (v := 1) dX10_seal_9 rfl ?_
      refine r_goto X 14 dX10_seal_10 rfl ?_
      rw [if_pos c6] at K6
      exact K6
  refine r_iconst X (v := 1) dX10_seal_14 rfl ?_
  obtain ⟨u15, h15, hf⟩ := bdS hf
  refine r_callV0 X [.int (if u3 = 0 then (1 : Int32) else (0 : Int32)), .int 1] [] (K10_fails h15) lkX10_151 clsX10 rfl _ o_model (by decide) (Nat.le_of_ble_eq_true rfl) rfl rfl (Nat.le_of_ble_eq_true rfl) rfl rfl (Nat.zero_le _) (Nat.zero_le _) dX10_seal_15 ?_
  refine r_if_eq X 25 dX10_seal_18 rfl (fun c18 => ?_) (fun c18 => ?_)
  · replace hf := ifT hf c18
    refine r_aload_n X (x := k.b + (189)) dX10_seal_25 rfl ?_
    refine r_iload_n X (x := x1) dX10_seal_26 rfl ?_
    obtain ⟨u27, h27, hf⟩ := bdS hf
    refine r_callS0 X [.int x1] [.ref (k.b + (189))] (K10_flangeAt h27) lkX10_96 (by decide) (Nat.le_of_ble_eq_true rfl) rfl rfl (Nat.le_of_ble_eq_true rfl) rfl rfl (Nat.zero_le _) (Nat.zero_le _) dX10_seal_27 ?_
    refine r_iconst X (v := 1) dX10_seal_30 rfl ?_
    refine r_iadd X dX10_seal_31 ?_
    refine r_iconst X (v := 0) dX10_seal_32 rfl ?_
    obtain ⟨u33, h33, hf⟩ := bdS hf
    refine r_callV0 X [.int (u27 + 1), .int 0] [] (K10_sets h33) lkX10_194 clsX10 rfl _ o_model (by decide) (Nat.le_of_ble_eq_true rfl) rfl rfl (Nat.le_of_ble_eq_true rfl) rfl rfl (Nat.zero_le _) (Nat.zero_le _) dX10_seal_33 ?_
    obtain rfl := Option.some.inj hf
    exact r_ireturn X hQ rfl rfl (Nat.le_of_ble_eq_true rfl) (Nat.le_of_ble_eq_true rfl) dX10_seal_36
  · replace hf := ifF hf c18
    refine r_iconst X (v := 0) dX10_seal_21 rfl ?_
    refine r_goto X 36 dX10_seal_22 rfl ?_
    obtain rfl := Option.some.inj hf
    exact r_ireturn X hQ rfl rfl (Nat.le_of_ble_eq_true rfl) (Nat.le_of_ble_eq_true rfl) dX10_seal_36
set_option maxRecDepth 100000 in
set_option maxHeartbeats 4000000 in
theorem K10_setLeak {k : KT} {T : TT} {R : RR} {ly : Fin 2 → LL} {rc : RC} {hn : HN} {rp : RP} {tp : TP} {ee : EE} {st : Fin 12 → SS} {w : Nat → Int64} {aside : Nat → Int64} {thought : Nat → Int64} {fresh : Nat → Int64} {mu : MU} {th : Int32} {mp : MP} {mf : MF} {mh : MH} {mg : MG} {ou : Nat → Int64} {od : Nat → UInt64}  {x1 : Int32} {x2 : Int32} {r : Int32 × (Nat → Int64) × (Nat → Int64) × (MU) × (Int32)} (hf : f10_setLeak  w aside mu th x1 x2 = some r) : CT k strs yX10_setLeak cX10_setLeak 3 (some .int) (rmD 3 0 0) 0 0 [.ref (k.b + (189)), .int x1, .int x2] (wAll k T R ly rc hn rp tp ee st w aside thought fresh mu th mp mf mh mg ou od) (some (.int r.1)) (wAll k T R ly rc hn rp tp ee st r.2.1 r.2.2.1 thought fresh r.2.2.2.1 r.2.2.2.2 mp mf mh mg ou od) := by
  refine CT.of (by decide) (Nat.le_of_ble_eq_true rfl) ?_
  intro z X hQ
  show VW k z 0 0 (wAll k T R ly rc hn rp tp ee st w aside thought fresh mu th mp mf mh mg ou od) 0 [some (.ref (k.b + (189))), some (.int x1), some (.int x2)] []
  unfold f10_setLeak at hf
  refine r_aload_n X (x := k.b + (189)) dX10_setLeak_0 rfl ?_
  refine r_aload_n X (x := k.b + (189)) dX10_setLeak_1 rfl ?_
  refine r_iload_n X (x := x1) dX10_setLeak_2 rfl ?_
  obtain ⟨u3, h3, hf⟩ := bdS hf
  refine r_callV0 X [.int x1] [.ref (k.b + (189))] (K10_isFlange h3) lkX10_191 clsX10 rfl _ o_model (by decide) (Nat.le_of_ble_eq_true rfl) rfl rfl (Nat.le_of_ble_eq_true rfl) rfl rfl (Nat.zero_le _) (Nat.zero_le _) dX10_setLeak_3 ?_
  suffices K6 : VW k z 0 0 (wAll k T R ly rc hn rp tp ee st w aside thought fresh mu th mp mf mh mg ou od) 14 [some (.ref (k.b + (189))), some (.int x1), some (.int x2)] [.int (if u3 = 0 then (1 : Int32) else (0 : Int32)), .ref (k.b + (189))] by
    refine r_if_ne X 13 dX10_setLeak_6 rfl (fun c6 => ?_) (fun c6 => ?_)
    · refine r_iconst X (v := 0) dX10_setLeak_13 rfl ?_
      rw [if_neg c6] at K6
      exact K6
    · refine r_iconst X (v := 1) dX10_setLeak_9 rfl ?_
      refine r_goto X 14 dX10_setLeak_10 rfl ?_
      rw [if_pos c6] at K6
      exact K6
  refine r_iconst X (v := 1) dX10_setLeak_14 rfl ?_
  obtain ⟨u15, h15, hf⟩ := bdS hf
  refine r_callV0 X [.int (if u3 = 0 then (1 : Int32) else (0 : Int32)), .int 1] [] (K10_fails h15) lkX10_151 clsX10 rfl _ o_model (by decide) (Nat.le_of_ble_eq_true rfl) rfl rfl (Nat.le_of_ble_eq_true rfl) rfl rfl (Nat.zero_le _) (Nat.zero_le _) dX10_setLeak_15 ?_
  refine r_if_ne X 46 dX10_setLeak_18 rfl (fun c18 => ?_) (fun c18 => ?_)
  · replace hf := ifF hf c18
    refine r_iconst X (v := 0) dX10_setLeak_46 rfl ?_
    refine r_goto X 61 dX10_setLeak_47 rfl ?_
    obtain rfl := Option.some.inj hf
    exact r_ireturn X hQ rfl rfl (Nat.le_of_ble_eq_true rfl) (Nat.le_of_ble_eq_true rfl) dX10_setLeak_61
  · replace hf := ifT hf c18
    refine r_aload_n X (x := k.b + (189)) dX10_setLeak_21 rfl ?_
    refine r_iload_n X (x := x2) dX10_setLeak_22 rfl ?_
    refine r_i2l X dX10_setLeak_23 ?_
    refine r_lconst X (v := 0) dX10_setLeak_24 rfl ?_
    refine r_ldc2 X (v := 9999) coX10_197 dX10_setLeak_25 ?_
    obtain ⟨u28, h28, hf⟩ := bdS hf
    refine r_callS0 X [.long x2.toInt64, .long 0, .long 9999] [.ref (k.b + (189))] (K10_in h28) lkX10_39 (by decide) (Nat.le_of_ble_eq_true rfl) rfl rfl (Nat.le_of_ble_eq_true rfl) rfl rfl (Nat.zero_le _) (Nat.zero_le _) dX10_setLeak_28 ?_
    suffices K31 : VW k z 0 0 (wAll k T R ly rc hn rp tp ee st w aside thought fresh mu u15.2 mp mf mh mg ou od) 39 [some (.ref (k.b + (189))), some (.int x1), some (.int x2)] [.int (if u28 = 0 then (1 : Int32) else (0 : Int32)), .ref (k.b + (189))] by
      refine r_if_ne X 38 dX10_setLeak_31 rfl (fun c31 => ?_) (fun c31 => ?_)
      · refine r_iconst X (v := 0) dX10_setLeak_38 rfl ?_
        rw [if_neg c31] at K31
        exact K31
      · refine r_iconst X (v := 1) dX10_setLeak_34 rfl ?_
        refine r_goto X 39 dX10_setLeak_35 rfl ?_
        rw [if_pos c31] at K31
        exact K31
    refine r_iconst X (v := 2) dX10_setLeak_39 rfl ?_
    obtain ⟨u40, h40, hf⟩ := bdS hf
    refine r_callV0 X [.int (if u28 = 0 then (1 : Int32) else (0 : Int32)), .int 2] [] (K10_fails h40) lkX10_151 clsX10 rfl _ o_model (by decide) (Nat.le_of_ble_eq_true rfl) rfl rfl (Nat.le_of_ble_eq_true rfl) rfl rfl (Nat.zero_le _) (Nat.zero_le _) dX10_setLeak_40 ?_
    refine r_if_eq X 50 dX10_setLeak_43 rfl (fun c43 => ?_) (fun c43 => ?_)
    · replace hf := ifT hf c43
      refine r_aload_n X (x := k.b + (189)) dX10_setLeak_50 rfl ?_
      refine r_iload_n X (x := x1) dX10_setLeak_51 rfl ?_
      obtain ⟨u52, h52, hf⟩ := bdS hf
      refine r_callS0 X [.int x1] [.ref (k.b + (189))] (K10_flangeAt h52) lkX10_96 (by decide) (Nat.le_of_ble_eq_true rfl) rfl rfl (Nat.le_of_ble_eq_true rfl) rfl rfl (Nat.zero_le _) (Nat.zero_le _) dX10_setLeak_52 ?_
      refine r_iconst X (v := 1) dX10_setLeak_55 rfl ?_
      refine r_iadd X dX10_setLeak_56 ?_
      refine r_iload_n X (x := x2) dX10_setLeak_57 rfl ?_
      obtain ⟨u58, h58, hf⟩ := bdS hf
      refine r_callV0 X [.int (u52 + 1), .int x2] [] (K10_sets h58) lkX10_194 clsX10 rfl _ o_model (by decide) (Nat.le_of_ble_eq_true rfl) rfl rfl (Nat.le_of_ble_eq_true rfl) rfl rfl (Nat.zero_le _) (Nat.zero_le _) dX10_setLeak_58 ?_
      obtain rfl := Option.some.inj hf
      exact r_ireturn X hQ rfl rfl (Nat.le_of_ble_eq_true rfl) (Nat.le_of_ble_eq_true rfl) dX10_setLeak_61
    · replace hf := ifF hf c43
      refine r_iconst X (v := 0) dX10_setLeak_46 rfl ?_
      refine r_goto X 61 dX10_setLeak_47 rfl ?_
      obtain rfl := Option.some.inj hf
      exact r_ireturn X hQ rfl rfl (Nat.le_of_ble_eq_true rfl) (Nat.le_of_ble_eq_true rfl) dX10_setLeak_61
set_option maxRecDepth 100000 in
set_option maxHeartbeats 4000000 in
theorem K10_setOutgassing {k : KT} {T : TT} {R : RR} {ly : Fin 2 → LL} {rc : RC} {hn : HN} {rp : RP} {tp : TP} {ee : EE} {st : Fin 12 → SS} {w : Nat → Int64} {aside : Nat → Int64} {thought : Nat → Int64} {fresh : Nat → Int64} {mu : MU} {th : Int32} {mp : MP} {mf : MF} {mh : MH} {mg : MG} {ou : Nat → Int64} {od : Nat → UInt64}  {x1 : Int32} {x2 : Int32} {r : Int32 × (Nat → Int64) × (Nat → Int64) × (MU) × (Int32)} (hf : f10_setOutgassing  w aside mu th x1 x2 = some r) : CT k strs yX10_setOutgassing cX10_setOutgassing 3 (some .int) (rmD 3 0 0) 0 0 [.ref (k.b + (189)), .int x1, .int x2] (wAll k T R ly rc hn rp tp ee st w aside thought fresh mu th mp mf mh mg ou od) (some (.int r.1)) (wAll k T R ly rc hn rp tp ee st r.2.1 r.2.2.1 thought fresh r.2.2.2.1 r.2.2.2.2 mp mf mh mg ou od) := by
  refine CT.of (by decide) (Nat.le_of_ble_eq_true rfl) ?_
  intro z X hQ
  show VW k z 0 0 (wAll k T R ly rc hn rp tp ee st w aside thought fresh mu th mp mf mh mg ou od) 0 [some (.ref (k.b + (189))), some (.int x1), some (.int x2)] []
  unfold f10_setOutgassing at hf
  refine r_aload_n X (x := k.b + (189)) dX10_setOutgassing_0 rfl ?_
  refine r_aload_n X (x := k.b + (189)) dX10_setOutgassing_1 rfl ?_
  refine r_iload_n X (x := x1) dX10_setOutgassing_2 rfl ?_
  obtain ⟨u3, h3, hf⟩ := bdS hf
  refine r_callV0 X [.int x1] [.ref (k.b + (189))] (K10_isChamber h3) lkX10_179 clsX10 rfl _ o_model (by decide) (Nat.le_of_ble_eq_true rfl) rfl rfl (Nat.le_of_ble_eq_true rfl) rfl rfl (Nat.zero_le _) (Nat.zero_le _) dX10_setOutgassing_3 ?_
  suffices K6 : VW k z 0 0 (wAll k T R ly rc hn rp tp ee st w aside thought fresh mu th mp mf mh mg ou od) 14 [some (.ref (k.b + (189))), some (.int x1), some (.int x2)] [.int (if u3 = 0 then (1 : Int32) else (0 : Int32)), .ref (k.b + (189))] by
    refine r_if_ne X 13 dX10_setOutgassing_6 rfl (fun c6 => ?_) (fun c6 => ?_)
    · refine r_iconst X (v := 0) dX10_setOutgassing_13 rfl ?_
      rw [if_neg c6] at K6
      exact K6
    · refine r_iconst X (v := 1) dX10_setOutgassing_9 rfl ?_
      refine r_goto X 14 dX10_setOutgassing_10 rfl ?_
      rw [if_pos c6] at K6
      exact K6
  refine r_iconst X (v := 1) dX10_setOutgassing_14 rfl ?_
  obtain ⟨u15, h15, hf⟩ := bdS hf
  refine r_callV0 X [.int (if u3 = 0 then (1 : Int32) else (0 : Int32)), .int 1] [] (K10_fails h15) lkX10_151 clsX10 rfl _ o_model (by decide) (Nat.le_of_ble_eq_true rfl) rfl rfl (Nat.le_of_ble_eq_true rfl) rfl rfl (Nat.zero_le _) (Nat.zero_le _) dX10_setOutgassing_15 ?_
  refine r_if_ne X 46 dX10_setOutgassing_18 rfl (fun c18 => ?_) (fun c18 => ?_)
  · replace hf := ifF hf c18
    refine r_iconst X (v := 0) dX10_setOutgassing_46 rfl ?_
    refine r_goto X 61 dX10_setOutgassing_47 rfl ?_
    obtain rfl := Option.some.inj hf
    exact r_ireturn X hQ rfl rfl (Nat.le_of_ble_eq_true rfl) (Nat.le_of_ble_eq_true rfl) dX10_setOutgassing_61
  · replace hf := ifT hf c18
    refine r_aload_n X (x := k.b + (189)) dX10_setOutgassing_21 rfl ?_
    refine r_iload_n X (x := x2) dX10_setOutgassing_22 rfl ?_
    refine r_i2l X dX10_setOutgassing_23 ?_
    refine r_lconst X (v := 0) dX10_setOutgassing_24 rfl ?_
    refine r_ldc2 X (v := 9999) coX10_197 dX10_setOutgassing_25 ?_
    obtain ⟨u28, h28, hf⟩ := bdS hf
    refine r_callS0 X [.long x2.toInt64, .long 0, .long 9999] [.ref (k.b + (189))] (K10_in h28) lkX10_39 (by decide) (Nat.le_of_ble_eq_true rfl) rfl rfl (Nat.le_of_ble_eq_true rfl) rfl rfl (Nat.zero_le _) (Nat.zero_le _) dX10_setOutgassing_28 ?_
    suffices K31 : VW k z 0 0 (wAll k T R ly rc hn rp tp ee st w aside thought fresh mu u15.2 mp mf mh mg ou od) 39 [some (.ref (k.b + (189))), some (.int x1), some (.int x2)] [.int (if u28 = 0 then (1 : Int32) else (0 : Int32)), .ref (k.b + (189))] by
      refine r_if_ne X 38 dX10_setOutgassing_31 rfl (fun c31 => ?_) (fun c31 => ?_)
      · refine r_iconst X (v := 0) dX10_setOutgassing_38 rfl ?_
        rw [if_neg c31] at K31
        exact K31
      · refine r_iconst X (v := 1) dX10_setOutgassing_34 rfl ?_
        refine r_goto X 39 dX10_setOutgassing_35 rfl ?_
        rw [if_pos c31] at K31
        exact K31
    refine r_iconst X (v := 2) dX10_setOutgassing_39 rfl ?_
    obtain ⟨u40, h40, hf⟩ := bdS hf
    refine r_callV0 X [.int (if u28 = 0 then (1 : Int32) else (0 : Int32)), .int 2] [] (K10_fails h40) lkX10_151 clsX10 rfl _ o_model (by decide) (Nat.le_of_ble_eq_true rfl) rfl rfl (Nat.le_of_ble_eq_true rfl) rfl rfl (Nat.zero_le _) (Nat.zero_le _) dX10_setOutgassing_40 ?_
    refine r_if_eq X 50 dX10_setOutgassing_43 rfl (fun c43 => ?_) (fun c43 => ?_)
    · replace hf := ifT hf c43
      refine r_aload_n X (x := k.b + (189)) dX10_setOutgassing_50 rfl ?_
      refine r_iload_n X (x := x1) dX10_setOutgassing_51 rfl ?_
      obtain ⟨u52, h52, hf⟩ := bdS hf
      refine r_callS0 X [.int x1] [.ref (k.b + (189))] (K10_chamberAt h52) lkX10_61 (by decide) (Nat.le_of_ble_eq_true rfl) rfl rfl (Nat.le_of_ble_eq_true rfl) rfl rfl (Nat.zero_le _) (Nat.zero_le _) dX10_setOutgassing_52 ?_
      refine r_iconst X (v := 1) dX10_setOutgassing_55 rfl ?_
      refine r_iadd X dX10_setOutgassing_56 ?_
      refine r_iload_n X (x := x2) dX10_setOutgassing_57 rfl ?_
      obtain ⟨u58, h58, hf⟩ := bdS hf
      refine r_callV0 X [.int (u52 + 1), .int x2] [] (K10_sets h58) lkX10_194 clsX10 rfl _ o_model (by decide) (Nat.le_of_ble_eq_true rfl) rfl rfl (Nat.le_of_ble_eq_true rfl) rfl rfl (Nat.zero_le _) (Nat.zero_le _) dX10_setOutgassing_58 ?_
      obtain rfl := Option.some.inj hf
      exact r_ireturn X hQ rfl rfl (Nat.le_of_ble_eq_true rfl) (Nat.le_of_ble_eq_true rfl) dX10_setOutgassing_61
    · replace hf := ifF hf c43
      refine r_iconst X (v := 0) dX10_setOutgassing_46 rfl ?_
      refine r_goto X 61 dX10_setOutgassing_47 rfl ?_
      obtain rfl := Option.some.inj hf
      exact r_ireturn X hQ rfl rfl (Nat.le_of_ble_eq_true rfl) (Nat.le_of_ble_eq_true rfl) dX10_setOutgassing_61
set_option maxRecDepth 100000 in
set_option maxHeartbeats 4000000 in
theorem K10_setRule {k : KT} {T : TT} {R : RR} {ly : Fin 2 → LL} {rc : RC} {hn : HN} {rp : RP} {tp : TP} {ee : EE} {st : Fin 12 → SS} {w : Nat → Int64} {aside : Nat → Int64} {thought : Nat → Int64} {fresh : Nat → Int64} {mu : MU} {th : Int32} {mp : MP} {mf : MF} {mh : MH} {mg : MG} {ou : Nat → Int64} {od : Nat → UInt64}  {x1 : Int32} {x2 : Int32} {r : Int32 × (Nat → Int64) × (Nat → Int64) × (MU) × (Int32)} (hf : f10_setRule  w aside mu th x1 x2 = some r) : CT k strs yX10_setRule cX10_setRule 3 (some .int) (rmD 3 0 0) 0 0 [.ref (k.b + (189)), .int x1, .int x2] (wAll k T R ly rc hn rp tp ee st w aside thought fresh mu th mp mf mh mg ou od) (some (.int r.1)) (wAll k T R ly rc hn rp tp ee st r.2.1 r.2.2.1 thought fresh r.2.2.2.1 r.2.2.2.2 mp mf mh mg ou od) := by
  refine CT.of (by decide) (Nat.le_of_ble_eq_true rfl) ?_
  intro z X hQ
  show VW k z 0 0 (wAll k T R ly rc hn rp tp ee st w aside thought fresh mu th mp mf mh mg ou od) 0 [some (.ref (k.b + (189))), some (.int x1), some (.int x2)] []
  unfold f10_setRule at hf
  refine r_aload_n X (x := k.b + (189)) dX10_setRule_0 rfl ?_
  refine r_aload_n X (x := k.b + (189)) dX10_setRule_1 rfl ?_
  refine r_iload_n X (x := x1) dX10_setRule_2 rfl ?_
  obtain ⟨u3, h3, hf⟩ := bdS hf
  refine r_callV0 X [.int x1] [.ref (k.b + (189))] (K10_isValve h3) lkX10_148 clsX10 rfl _ o_model (by decide) (Nat.le_of_ble_eq_true rfl) rfl rfl (Nat.le_of_ble_eq_true rfl) rfl rfl (Nat.zero_le _) (Nat.zero_le _) dX10_setRule_3 ?_
  suffices K6 : VW k z 0 0 (wAll k T R ly rc hn rp tp ee st w aside thought fresh mu th mp mf mh mg ou od) 14 [some (.ref (k.b + (189))), some (.int x1), some (.int x2)] [.int (if u3 = 0 then (1 : Int32) else (0 : Int32)), .ref (k.b + (189))] by
    refine r_if_ne X 13 dX10_setRule_6 rfl (fun c6 => ?_) (fun c6 => ?_)
    · refine r_iconst X (v := 0) dX10_setRule_13 rfl ?_
      rw [if_neg c6] at K6
      exact K6
    · refine r_iconst X (v := 1) dX10_setRule_9 rfl ?_
      refine r_goto X 14 dX10_setRule_10 rfl ?_
      rw [if_pos c6] at K6
      exact K6
  refine r_iconst X (v := 1) dX10_setRule_14 rfl ?_
  obtain ⟨u15, h15, hf⟩ := bdS hf
  refine r_callV0 X [.int (if u3 = 0 then (1 : Int32) else (0 : Int32)), .int 1] [] (K10_fails h15) lkX10_151 clsX10 rfl _ o_model (by decide) (Nat.le_of_ble_eq_true rfl) rfl rfl (Nat.le_of_ble_eq_true rfl) rfl rfl (Nat.zero_le _) (Nat.zero_le _) dX10_setRule_15 ?_
  refine r_if_ne X 41 dX10_setRule_18 rfl (fun c18 => ?_) (fun c18 => ?_)
  · replace hf := ifF hf c18
    refine r_iconst X (v := 0) dX10_setRule_41 rfl ?_
    refine r_goto X 56 dX10_setRule_42 rfl ?_
    obtain rfl := Option.some.inj hf
    exact r_ireturn X hQ rfl rfl (Nat.le_of_ble_eq_true rfl) (Nat.le_of_ble_eq_true rfl) dX10_setRule_56
  · replace hf := ifT hf c18
    refine r_aload_n X (x := k.b + (189)) dX10_setRule_21 rfl ?_
    refine r_iload_n X (x := x2) dX10_setRule_22 rfl ?_
    obtain ⟨u23, h23, hf⟩ := bdS hf
    refine r_callS0 X [.int x2] [.ref (k.b + (189))] (K10_isPressure h23) lkX10_182 (by decide) (Nat.le_of_ble_eq_true rfl) rfl rfl (Nat.le_of_ble_eq_true rfl) rfl rfl (Nat.zero_le _) (Nat.zero_le _) dX10_setRule_23 ?_
    suffices K26 : VW k z 0 0 (wAll k T R ly rc hn rp tp ee st w aside thought fresh mu u15.2 mp mf mh mg ou od) 34 [some (.ref (k.b + (189))), some (.int x1), some (.int x2)] [.int (if u23 = 0 then (1 : Int32) else (0 : Int32)), .ref (k.b + (189))] by
      refine r_if_ne X 33 dX10_setRule_26 rfl (fun c26 => ?_) (fun c26 => ?_)
      · refine r_iconst X (v := 0) dX10_setRule_33 rfl ?_
        rw [if_neg c26] at K26
        exact K26
      · refine r_iconst X (v := 1) dX10_setRule_29 rfl ?_
        refine r_goto X 34 dX10_setRule_30 rfl ?_
        rw [if_pos c26] at K26
        exact K26
    refine r_iconst X (v := 2) dX10_setRule_34 rfl ?_
    obtain ⟨u35, h35, hf⟩ := bdS hf
    refine r_callV0 X [.int (if u23 = 0 then (1 : Int32) else (0 : Int32)), .int 2] [] (K10_fails h35) lkX10_151 clsX10 rfl _ o_model (by decide) (Nat.le_of_ble_eq_true rfl) rfl rfl (Nat.le_of_ble_eq_true rfl) rfl rfl (Nat.zero_le _) (Nat.zero_le _) dX10_setRule_35 ?_
    refine r_if_eq X 45 dX10_setRule_38 rfl (fun c38 => ?_) (fun c38 => ?_)
    · replace hf := ifT hf c38
      refine r_aload_n X (x := k.b + (189)) dX10_setRule_45 rfl ?_
      refine r_iload_n X (x := x1) dX10_setRule_46 rfl ?_
      obtain ⟨u47, h47, hf⟩ := bdS hf
      refine r_callS0 X [.int x1] [.ref (k.b + (189))] (K10_valveAt h47) lkX10_68 (by decide) (Nat.le_of_ble_eq_true rfl) rfl rfl (Nat.le_of_ble_eq_true rfl) rfl rfl (Nat.zero_le _) (Nat.zero_le _) dX10_setRule_47 ?_
      refine r_iconst X (v := 3) dX10_setRule_50 rfl ?_
      refine r_iadd X dX10_setRule_51 ?_
      refine r_iload_n X (x := x2) dX10_setRule_52 rfl ?_
      obtain ⟨u53, h53, hf⟩ := bdS hf
      refine r_callV0 X [.int (u47 + 3), .int x2] [] (K10_sets h53) lkX10_194 clsX10 rfl _ o_model (by decide) (Nat.le_of_ble_eq_true rfl) rfl rfl (Nat.le_of_ble_eq_true rfl) rfl rfl (Nat.zero_le _) (Nat.zero_le _) dX10_setRule_53 ?_
      obtain rfl := Option.some.inj hf
      exact r_ireturn X hQ rfl rfl (Nat.le_of_ble_eq_true rfl) (Nat.le_of_ble_eq_true rfl) dX10_setRule_56
    · replace hf := ifF hf c38
      refine r_iconst X (v := 0) dX10_setRule_41 rfl ?_
      refine r_goto X 56 dX10_setRule_42 rfl ?_
      obtain rfl := Option.some.inj hf
      exact r_ireturn X hQ rfl rfl (Nat.le_of_ble_eq_true rfl) (Nat.le_of_ble_eq_true rfl) dX10_setRule_56
set_option maxRecDepth 100000 in
set_option maxHeartbeats 4000000 in
theorem B10_isAlone_B49 {k : KT} {z : ZT} {T : TT} {R : RR} {ly : Fin 2 → LL} {rc : RC} {hn : HN} {rp : RP} {tp : TP} {ee : EE} {st : Fin 12 → SS} {w : Nat → Int64} {aside : Nat → Int64} {thought : Nat → Int64} {fresh : Nat → Int64} {mu : MU} {th : Int32} {mp : MP} {mf : MF} {mh : MH} {mg : MG} {ou : Nat → Int64} {od : Nat → UInt64} {r : Int32} (X : XX k strs z RX10 cX10_isAlone 3 (some .boolean) (rmD 3 0 0)) (hQ : zQ z = MQ (zB z) (Qof k (some (.int r)) (wAll k T R ly rc hn rp tp ee st w aside thought fresh mu th mp mf mh mg ou od)) (zA z) (zS z) 0 0 (kA k)) : ∀ (fu : Nat) (x1 : Int32) (x2 : Int32), f10_isAlone_B49 w fu x1 x2 = some r → VW k z 0 0 (wAll k T R ly rc hn rp tp ee st w aside thought fresh mu th mp mf mh mg ou od) 49 [some (.ref (k.b + (189))), some (.int x1), some (.int x2)] [] := by
  intro fu
  induction fu with
  | zero =>
    intro x1 x2 hf
    rw [f10_isAlone_B49] at hf
    cases hf
  | succ fu ih =>
    intro x1 x2 hf
    rw [f10_isAlone_B49] at hf
    refine r_iload_n X (x := x2) dX10_isAlone_49 rfl ?_
    refine r_aload_n X (x := k.b + (189)) dX10_isAlone_50 rfl ?_
    refine r_iconst X (v := 1) dX10_isAlone_51 rfl ?_
    obtain ⟨u52, h52, hf⟩ := bdS hf
    refine r_callV0 X [.int 1] [.int x2] (K10_many h52) lkX10_93 clsX10 rfl _ o_model (by decide) (Nat.le_of_ble_eq_true rfl) rfl rfl (Nat.le_of_ble_eq_true rfl) rfl rfl (Nat.zero_le _) (Nat.zero_le _) dX10_isAlone_52 ?_
    refine r_icmp_ge X 94 dX10_isAlone_55 rfl (fun c55 => ?_) (fun c55 => ?_)
    · replace hf := ifT hf c55
      refine r_iconst X (v := 1) dX10_isAlone_94 rfl ?_
      obtain rfl := Option.some.inj hf
      exact r_zreturn X hQ rfl rfl (Nat.le_of_ble_eq_true rfl) (Nat.le_of_ble_eq_true rfl) rfl dX10_isAlone_95
    · replace hf := ifF hf c55
      refine r_aload_n X (x := k.b + (189)) dX10_isAlone_58 rfl ?_
      refine r_iload_n X (x := x2) dX10_isAlone_59 rfl ?_
      obtain ⟨u60, h60, hf⟩ := bdS hf
      refine r_callV0 X [.int x2] [] (K10_isRunning h60) lkX10_135 clsX10 rfl _ o_model (by decide) (Nat.le_of_ble_eq_true rfl) rfl rfl (Nat.le_of_ble_eq_true rfl) rfl rfl (Nat.zero_le _) (Nat.zero_le _) dX10_isAlone_60 ?_
      refine r_if_eq X 88 dX10_isAlone_63 rfl (fun c63 => ?_) (fun c63 => ?_)
      · replace hf := ifT hf c63
        refine r_iinc X (x := x2) (v := x2 + 1) [some (.ref (k.b + (189))), some (.int x1), some (.int (x2 + 1))] dX10_isAlone_88 rfl rfl rfl ?_
        refine r_goto X 49 dX10_isAlone_91 rfl ?_
        exact ih x1 (x2 + 1) hf
      · replace hf := ifF hf c63
        refine r_aload_n X (x := k.b + (189)) dX10_isAlone_66 rfl ?_
        refine r_iload_n X (x := x2) dX10_isAlone_67 rfl ?_
        refine r_iconst X (v := 0) dX10_isAlone_68 rfl ?_
        obtain ⟨u69, h69, hf⟩ := bdS hf
        refine r_callV0 X [.int x2, .int 0] [] (K10_ofPump h69) lkX10_87 clsX10 rfl _ o_model (by decide) (Nat.le_of_ble_eq_true rfl) rfl rfl (Nat.le_of_ble_eq_true rfl) rfl rfl (Nat.zero_le _) (Nat.zero_le _) dX10_isAlone_69 ?_
        refine r_iload_n X (x := x1) dX10_isAlone_72 rfl ?_
        refine r_icmp_eq X 86 dX10_isAlone_73 rfl (fun c73 => ?_) (fun c73 => ?_)
        · replace hf := ifT hf c73
          refine r_iconst X (v := 0) dX10_isAlone_86 rfl ?_
          obtain rfl := Option.some.inj hf
          exact r_zreturn X hQ rfl rfl (Nat.le_of_ble_eq_true rfl) (Nat.le_of_ble_eq_true rfl) rfl dX10_isAlone_87
        · replace hf := ifF hf c73
          refine r_aload_n X (x := k.b + (189)) dX10_isAlone_76 rfl ?_
          refine r_iload_n X (x := x2) dX10_isAlone_77 rfl ?_
          refine r_iconst X (v := 1) dX10_isAlone_78 rfl ?_
          obtain ⟨u79, h79, hf⟩ := bdS hf
          refine r_callV0 X [.int x2, .int 1] [] (K10_ofPump h79) lkX10_87 clsX10 rfl _ o_model (by decide) (Nat.le_of_ble_eq_true rfl) rfl rfl (Nat.le_of_ble_eq_true rfl) rfl rfl (Nat.zero_le _) (Nat.zero_le _) dX10_isAlone_79 ?_
          refine r_iload_n X (x := x1) dX10_isAlone_82 rfl ?_
          refine r_icmp_ne X 88 dX10_isAlone_83 rfl (fun c83 => ?_) (fun c83 => ?_)
          · replace hf := ifF hf c83
            refine r_iinc X (x := x2) (v := x2 + 1) [some (.ref (k.b + (189))), some (.int x1), some (.int (x2 + 1))] dX10_isAlone_88 rfl rfl rfl ?_
            refine r_goto X 49 dX10_isAlone_91 rfl ?_
            exact ih x1 (x2 + 1) hf
          · replace hf := ifT hf c83
            refine r_iconst X (v := 0) dX10_isAlone_86 rfl ?_
            obtain rfl := Option.some.inj hf
            exact r_zreturn X hQ rfl rfl (Nat.le_of_ble_eq_true rfl) (Nat.le_of_ble_eq_true rfl) rfl dX10_isAlone_87
set_option maxRecDepth 100000 in
set_option maxHeartbeats 4000000 in
theorem B10_isAlone_B2 {k : KT} {z : ZT} {T : TT} {R : RR} {ly : Fin 2 → LL} {rc : RC} {hn : HN} {rp : RP} {tp : TP} {ee : EE} {st : Fin 12 → SS} {w : Nat → Int64} {aside : Nat → Int64} {thought : Nat → Int64} {fresh : Nat → Int64} {mu : MU} {th : Int32} {mp : MP} {mf : MF} {mh : MH} {mg : MG} {ou : Nat → Int64} {od : Nat → UInt64} {r : Int32} (X : XX k strs z RX10 cX10_isAlone 3 (some .boolean) (rmD 3 0 0)) (hQ : zQ z = MQ (zB z) (Qof k (some (.int r)) (wAll k T R ly rc hn rp tp ee st w aside thought fresh mu th mp mf mh mg ou od)) (zA z) (zS z) 0 0 (kA k)) : ∀ (fu : Nat) (x1 : Int32) (x2 : Int32), f10_isAlone_B2 w fu x1 x2 = some r → VW k z 0 0 (wAll k T R ly rc hn rp tp ee st w aside thought fresh mu th mp mf mh mg ou od) 2 [some (.ref (k.b + (189))), some (.int x1), some (.int x2)] [] := by
  intro fu
  induction fu with
  | zero =>
    intro x1 x2 hf
    rw [f10_isAlone_B2] at hf
    cases hf
  | succ fu ih =>
    intro x1 x2 hf
    rw [f10_isAlone_B2] at hf
    refine r_iload_n X (x := x2) dX10_isAlone_2 rfl ?_
    refine r_aload_n X (x := k.b + (189)) dX10_isAlone_3 rfl ?_
    refine r_iconst X (v := 2) dX10_isAlone_4 rfl ?_
    obtain ⟨u5, h5, hf⟩ := bdS hf
    refine r_callV0 X [.int 2] [.int x2] (K10_many h5) lkX10_93 clsX10 rfl _ o_model (by decide) (Nat.le_of_ble_eq_true rfl) rfl rfl (Nat.le_of_ble_eq_true rfl) rfl rfl (Nat.zero_le _) (Nat.zero_le _) dX10_isAlone_5 ?_
    refine r_icmp_ge X 47 dX10_isAlone_8 rfl (fun c8 => ?_) (fun c8 => ?_)
    · replace hf := ifT hf c8
      refine r_iconst X (v := 0) dX10_isAlone_47 rfl ?_
      refine r_istore_n X [some (.ref (k.b + (189))), some (.int x1), some (.int 0)] dX10_isAlone_48 (Nat.le_of_ble_eq_true rfl) rfl ?_
      exact B10_isAlone_B49 X hQ FU x1 0 hf
    · replace hf := ifF hf c8
      refine r_aload_n X (x := k.b + (189)) dX10_isAlone_11 rfl ?_
      refine r_iload_n X (x := x2) dX10_isAlone_12 rfl ?_
      obtain ⟨u13, h13, hf⟩ := bdS hf
      refine r_callV0 X [.int x2] [] (K10_isOpen h13) lkX10_99 clsX10 rfl _ o_model (by decide) (Nat.le_of_ble_eq_true rfl) rfl rfl (Nat.le_of_ble_eq_true rfl) rfl rfl (Nat.zero_le _) (Nat.zero_le _) dX10_isAlone_13 ?_
      refine r_if_eq X 41 dX10_isAlone_16 rfl (fun c16 => ?_) (fun c16 => ?_)
      · replace hf := ifT hf c16
        refine r_iinc X (x := x2) (v := x2 + 1) [some (.ref (k.b + (189))), some (.int x1), some (.int (x2 + 1))] dX10_isAlone_41 rfl rfl rfl ?_
        refine r_goto X 2 dX10_isAlone_44 rfl ?_
        exact ih x1 (x2 + 1) hf
      · replace hf := ifF hf c16
        refine r_aload_n X (x := k.b + (189)) dX10_isAlone_19 rfl ?_
        refine r_iload_n X (x := x2) dX10_isAlone_20 rfl ?_
        refine r_iconst X (v := 0) dX10_isAlone_21 rfl ?_
        obtain ⟨u22, h22, hf⟩ := bdS hf
        refine r_callV0 X [.int x2, .int 0] [] (K10_ofValve h22) lkX10_74 clsX10 rfl _ o_model (by decide) (Nat.le_of_ble_eq_true rfl) rfl rfl (Nat.le_of_ble_eq_true rfl) rfl rfl (Nat.zero_le _) (Nat.zero_le _) dX10_isAlone_22 ?_
        refine r_iload_n X (x := x1) dX10_isAlone_25 rfl ?_
        refine r_icmp_eq X 39 dX10_isAlone_26 rfl (fun c26 => ?_) (fun c26 => ?_)
        · replace hf := ifT hf c26
          refine r_iconst X (v := 0) dX10_isAlone_39 rfl ?_
          obtain rfl := Option.some.inj hf
          exact r_zreturn X hQ rfl rfl (Nat.le_of_ble_eq_true rfl) (Nat.le_of_ble_eq_true rfl) rfl dX10_isAlone_40
        · replace hf := ifF hf c26
          refine r_aload_n X (x := k.b + (189)) dX10_isAlone_29 rfl ?_
          refine r_iload_n X (x := x2) dX10_isAlone_30 rfl ?_
          refine r_iconst X (v := 1) dX10_isAlone_31 rfl ?_
          obtain ⟨u32, h32, hf⟩ := bdS hf
          refine r_callV0 X [.int x2, .int 1] [] (K10_ofValve h32) lkX10_74 clsX10 rfl _ o_model (by decide) (Nat.le_of_ble_eq_true rfl) rfl rfl (Nat.le_of_ble_eq_true rfl) rfl rfl (Nat.zero_le _) (Nat.zero_le _) dX10_isAlone_32 ?_
          refine r_iload_n X (x := x1) dX10_isAlone_35 rfl ?_
          refine r_icmp_ne X 41 dX10_isAlone_36 rfl (fun c36 => ?_) (fun c36 => ?_)
          · replace hf := ifF hf c36
            refine r_iinc X (x := x2) (v := x2 + 1) [some (.ref (k.b + (189))), some (.int x1), some (.int (x2 + 1))] dX10_isAlone_41 rfl rfl rfl ?_
            refine r_goto X 2 dX10_isAlone_44 rfl ?_
            exact ih x1 (x2 + 1) hf
          · replace hf := ifT hf c36
            refine r_iconst X (v := 0) dX10_isAlone_39 rfl ?_
            obtain rfl := Option.some.inj hf
            exact r_zreturn X hQ rfl rfl (Nat.le_of_ble_eq_true rfl) (Nat.le_of_ble_eq_true rfl) rfl dX10_isAlone_40
set_option maxRecDepth 100000 in
set_option maxHeartbeats 4000000 in
theorem K10_isAlone {k : KT} {T : TT} {R : RR} {ly : Fin 2 → LL} {rc : RC} {hn : HN} {rp : RP} {tp : TP} {ee : EE} {st : Fin 12 → SS} {w : Nat → Int64} {aside : Nat → Int64} {thought : Nat → Int64} {fresh : Nat → Int64} {mu : MU} {th : Int32} {mp : MP} {mf : MF} {mh : MH} {mg : MG} {ou : Nat → Int64} {od : Nat → UInt64}  {x1 : Int32} {r : Int32} (hf : f10_isAlone w  x1 = some r) : CT k strs yX10_isAlone cX10_isAlone 3 (some .boolean) (rmD 3 0 0) 0 0 [.ref (k.b + (189)), .int x1] (wAll k T R ly rc hn rp tp ee st w aside thought fresh mu th mp mf mh mg ou od) (some (.int r)) (wAll k T R ly rc hn rp tp ee st w aside thought fresh mu th mp mf mh mg ou od) := by
  refine CT.of (by decide) (Nat.le_of_ble_eq_true rfl) ?_
  intro z X hQ
  show VW k z 0 0 (wAll k T R ly rc hn rp tp ee st w aside thought fresh mu th mp mf mh mg ou od) 0 [some (.ref (k.b + (189))), some (.int x1), none] []
  unfold f10_isAlone at hf
  refine r_iconst X (v := 0) dX10_isAlone_0 rfl ?_
  refine r_istore_n X [some (.ref (k.b + (189))), some (.int x1), some (.int 0)] dX10_isAlone_1 (Nat.le_of_ble_eq_true rfl) rfl ?_
  exact B10_isAlone_B2 X hQ FU x1 0 hf
set_option maxRecDepth 100000 in
set_option maxHeartbeats 4000000 in
theorem K10_isTestTicks {k : KT} {T : TT} {R : RR} {ly : Fin 2 → LL} {rc : RC} {hn : HN} {rp : RP} {tp : TP} {ee : EE} {st : Fin 12 → SS} {w : Nat → Int64} {aside : Nat → Int64} {thought : Nat → Int64} {fresh : Nat → Int64} {mu : MU} {th : Int32} {mp : MP} {mf : MF} {mh : MH} {mg : MG} {ou : Nat → Int64} {od : Nat → UInt64}  {x0 : Int32} {r : Int32} (hf : f10_isTestTicks   x0 = some r) : CT k strs yX10_isTestTicks cX10_isTestTicks 1 (some .boolean) (rmD 1 0 0) 0 0 [.int x0] (wAll k T R ly rc hn rp tp ee st w aside thought fresh mu th mp mf mh mg ou od) (some (.int r)) (wAll k T R ly rc hn rp tp ee st w aside thought fresh mu th mp mf mh mg ou od) := by
  refine CT.of (by decide) (Nat.le_of_ble_eq_true rfl) ?_
  intro z X hQ
  show VW k z 0 0 (wAll k T R ly rc hn rp tp ee st w aside thought fresh mu th mp mf mh mg ou od) 0 [some (.int x0)] []
  unfold f10_isTestTicks at hf
  refine r_iload_n X (x := x0) dX10_isTestTicks_0 rfl ?_
  refine r_i2l X dX10_isTestTicks_1 ?_
  refine r_ldc2 X (v := 2) coX10_199 dX10_isTestTicks_2 ?_
  refine r_ldc2 X (v := 998) coX10_201 dX10_isTestTicks_5 ?_
  obtain ⟨u8, h8, hf⟩ := bdS hf
  refine r_callS0 X [.long x0.toInt64, .long 2, .long 998] [] (K10_in h8) lkX10_39 (by decide) (Nat.le_of_ble_eq_true rfl) rfl rfl (Nat.le_of_ble_eq_true rfl) rfl rfl (Nat.zero_le _) (Nat.zero_le _) dX10_isTestTicks_8 ?_
  refine r_if_eq X 24 dX10_isTestTicks_11 rfl (fun c11 => ?_) (fun c11 => ?_)
  · replace hf := ifT hf c11
    refine r_iconst X (v := 0) dX10_isTestTicks_24 rfl ?_
    obtain rfl := Option.some.inj hf
    exact r_zreturn X hQ rfl rfl (Nat.le_of_ble_eq_true rfl) (Nat.le_of_ble_eq_true rfl) rfl dX10_isTestTicks_25
  · replace hf := ifF hf c11
    refine r_iload_n X (x := x0) dX10_isTestTicks_14 rfl ?_
    refine r_iconst X (v := 2) dX10_isTestTicks_15 rfl ?_
    refine r_irem X dX10_isTestTicks_16 (by decide) ?_
    refine r_if_ne X 24 dX10_isTestTicks_17 rfl (fun c17 => ?_) (fun c17 => ?_)
    · replace hf := ifF hf c17
      refine r_iconst X (v := 0) dX10_isTestTicks_24 rfl ?_
      obtain rfl := Option.some.inj hf
      exact r_zreturn X hQ rfl rfl (Nat.le_of_ble_eq_true rfl) (Nat.le_of_ble_eq_true rfl) rfl dX10_isTestTicks_25
    · replace hf := ifT hf c17
      refine r_iconst X (v := 1) dX10_isTestTicks_20 rfl ?_
      refine r_goto X 25 dX10_isTestTicks_21 rfl ?_
      obtain rfl := Option.some.inj hf
      exact r_zreturn X hQ rfl rfl (Nat.le_of_ble_eq_true rfl) (Nat.le_of_ble_eq_true rfl) rfl dX10_isTestTicks_25
set_option maxRecDepth 100000 in
set_option maxHeartbeats 4000000 in
theorem K10_riseIn {k : KT} {T : TT} {R : RR} {ly : Fin 2 → LL} {rc : RC} {hn : HN} {rp : RP} {tp : TP} {ee : EE} {st : Fin 12 → SS} {w : Nat → Int64} {aside : Nat → Int64} {thought : Nat → Int64} {fresh : Nat → Int64} {mu : MU} {th : Int32} {mp : MP} {mf : MF} {mh : MH} {mg : MG} {ou : Nat → Int64} {od : Nat → UInt64}  {x1 : Int32} {x2 : Int32} {r : Int64 × (Nat → Int64)} (hf : f10_riseIn  w x1 x2 = some r) : CT k strs yX10_riseIn cX10_riseIn 6 (some .long) (rmD 8 0 0) 0 0 [.ref (k.b + (189)), .int x1, .int x2] (wAll k T R ly rc hn rp tp ee st w aside thought fresh mu th mp mf mh mg ou od) (some (.long r.1)) (wAll k T R ly rc hn rp tp ee st r.2 aside thought fresh mu th mp mf mh mg ou od) := by
  refine CT.of (by decide) (Nat.le_of_ble_eq_true rfl) ?_
  intro z X hQ
  show VW k z 0 0 (wAll k T R ly rc hn rp tp ee st w aside thought fresh mu th mp mf mh mg ou od) 0 [some (.ref (k.b + (189))), some (.int x1), some (.int x2), none, none, none] []
  unfold f10_riseIn at hf
  refine r_aload_n X (x := k.b + (189)) dX10_riseIn_0 rfl ?_
  refine r_getfield X (v := .ref (k.b + (190))) clsX10 flX10_7 (Nat.le_of_ble_eq_true rfl) _ o_model rfl dX10_riseIn_1 ?_
  refine r_iload_n X (x := x1) dX10_riseIn_4 rfl ?_
  obtain ⟨u5, h5, hf⟩ := bdS hf
  refine r_callS0 X [.int x1] [.ref (k.b + (190))] (K10_chamberAt h5) lkX10_61 (by decide) (Nat.le_of_ble_eq_true rfl) rfl rfl (Nat.le_of_ble_eq_true rfl) rfl rfl (Nat.zero_le _) (Nat.zero_le _) dX10_riseIn_5 ?_
  refine r_iconst X (v := 3) dX10_riseIn_8 rfl ?_
  refine r_iadd X dX10_riseIn_9 ?_
  obtain ⟨g10, hf⟩ := gdS hf
  refine r_laload X (f := w) _ a_m_w g10 dX10_riseIn_10 ?_
  refine r_lstore_n X [some (.ref (k.b + (189))), some (.int x1), some (.int x2), some (.long (w (ix (u5 + 3)))), none, none] dX10_riseIn_11 (Nat.le_of_ble_eq_true rfl) rfl ?_
  refine r_aload_n X (x := k.b + (189)) dX10_riseIn_12 rfl ?_
  refine r_iload_n X (x := x2) dX10_riseIn_13 rfl ?_
  obtain ⟨u14, h14, hf⟩ := bdS hf
  refine r_callV0 X [.int x2] [] (K10_passNow h14) lkX10_176 clsX10 rfl _ o_model (by decide) (Nat.le_of_ble_eq_true rfl) rfl rfl (Nat.le_of_ble_eq_true rfl) rfl rfl (Nat.zero_le _) (Nat.zero_le _) dX10_riseIn_14 ?_
  refine r_istore X [some (.ref (k.b + (189))), some (.int x1), some (.int x2), some (.long (w (ix (u5 + 3)))), none, some (.int u14.1)] dX10_riseIn_17 (Nat.le_of_ble_eq_true rfl) rfl ?_
  refine r_aload_n X (x := k.b + (189)) dX10_riseIn_19 rfl ?_
  refine r_getfield X (v := .ref (k.b + (190))) clsX10 flX10_7 (Nat.le_of_ble_eq_true rfl) _ o_model rfl dX10_riseIn_20 ?_
  refine r_iload_n X (x := x1) dX10_riseIn_23 rfl ?_
  obtain ⟨u24, h24, hf⟩ := bdS hf
  refine r_callS0 X [.int x1] [.ref (k.b + (190))] (K10_chamberAt h24) lkX10_61 (by decide) (Nat.le_of_ble_eq_true rfl) rfl rfl (Nat.le_of_ble_eq_true rfl) rfl rfl (Nat.zero_le _) (Nat.zero_le _) dX10_riseIn_24 ?_
  refine r_iconst X (v := 3) dX10_riseIn_27 rfl ?_
  refine r_iadd X dX10_riseIn_28 ?_
  obtain ⟨g29, hf⟩ := gdS hf
  refine r_laload X (f := u14.2) _ a_m_w g29 dX10_riseIn_29 ?_
  refine r_lload_n X (x := w (ix (u5 + 3))) dX10_riseIn_30 rfl ?_
  refine r_lsub X dX10_riseIn_31 ?_
  obtain rfl := Option.some.inj hf
  exact r_lreturn X hQ rfl rfl (Nat.le_of_ble_eq_true rfl) (Nat.le_of_ble_eq_true rfl) dX10_riseIn_32
set_option maxRecDepth 100000 in
set_option maxHeartbeats 4000000 in
theorem B10_testNow_B67 {k : KT} {z : ZT} {T : TT} {R : RR} {ly : Fin 2 → LL} {rc : RC} {hn : HN} {rp : RP} {tp : TP} {ee : EE} {st : Fin 12 → SS} {aside : Nat → Int64} {thought : Nat → Int64} {fresh : Nat → Int64} {mu : MU} {th : Int32} {mp : MP} {mf : MF} {mh : MH} {mg : MG} {ou : Nat → Int64} {od : Nat → UInt64} {r : Int32 × (Nat → Int64)} (X : XX k strs z RX10 cX10_testNow 9 (some .int) (rmD 9 0 0)) (hQ : zQ z = MQ (zB z) (Qof k (some (.int r.1)) (wAll k T R ly rc hn rp tp ee st r.2 aside thought fresh mu th mp mf mh mg ou od)) (zA z) (zS z) 0 0 (kA k)) : ∀ (fu : Nat) (w : Nat → Int64) (x1 : Int32) (x2 : Int32) (x3 : Int64) (x5 : Int64) (x7 : Int32) (x8 : Int32), f10_testNow_B67  fu w x1 x2 x3 x5 x7 x8 = some r → VW k z 0 0 (wAll k T R ly rc hn rp tp ee st w aside thought fresh mu th mp mf mh mg ou od) 67 [some (.ref (k.b + (189))), some (.int x1), some (.int x2), some (.long x3), none, some (.long x5), none, some (.int x7), some (.int x8)] [] := by
  intro fu
  induction fu with
  | zero =>
    intro w x1 x2 x3 x5 x7 x8 hf
    rw [f10_testNow_B67] at hf
    cases hf
  | succ fu ih =>
    intro w x1 x2 x3 x5 x7 x8 hf
    rw [f10_testNow_B67] at hf
    refine r_iload X (x := x8) dX10_testNow_67 rfl ?_
    refine r_iconst X (v := 1) dX10_testNow_69 rfl ?_
    obtain ⟨u70, h70, hf⟩ := bdS hf
    refine r_callS0 X [.int 1] [.int x8] (K10_testAt h70) lkX10_211 (by decide) (Nat.le_of_ble_eq_true rfl) rfl rfl (Nat.le_of_ble_eq_true rfl) rfl rfl (Nat.zero_le _) (Nat.zero_le _) dX10_testNow_70 ?_
    refine r_icmp_lt X 99 dX10_testNow_73 rfl (fun c73 => ?_) (fun c73 => ?_)
    · replace hf := ifT hf c73
      refine r_aload_n X (x := k.b + (189)) dX10_testNow_99 rfl ?_
      refine r_getfield X (v := .ref (k.b + (190))) clsX10 flX10_7 (Nat.le_of_ble_eq_true rfl) _ o_model rfl dX10_testNow_100 ?_
      refine r_sipush X (v := 196) dX10_testNow_103 rfl ?_
      refine r_iload_n X (x := x1) dX10_testNow_106 rfl ?_
      refine r_i2l X dX10_testNow_107 ?_
      refine r_lastore X (f := w) (ws1 := wAll k T R ly rc hn rp tp ee st (vp_updL w (ix 196) x1.toInt64) aside thought fresh mu th mp mf mh mg ou od) _ a_m_w (by decide) (s_w (vp_updL w (ix 196) x1.toInt64)) dX10_testNow_108 ?_
      refine r_aload_n X (x := k.b + (189)) dX10_testNow_109 rfl ?_
      refine r_getfield X (v := .ref (k.b + (190))) clsX10 flX10_7 (Nat.le_of_ble_eq_true rfl) _ o_model rfl dX10_testNow_110 ?_
      refine r_sipush X (v := 197) dX10_testNow_113 rfl ?_
      refine r_iload X (x := x7) dX10_testNow_116 rfl ?_
      refine r_i2l X dX10_testNow_118 ?_
      refine r_lastore X (f := vp_updL w (ix 196) x1.toInt64) (ws1 := wAll k T R ly rc hn rp tp ee st (vp_updL (vp_updL w (ix 196) x1.toInt64) (ix 197) x7.toInt64) aside thought fresh mu th mp mf mh mg ou od) _ a_m_w (by decide) (s_w (vp_updL (vp_updL w (ix 196) x1.toInt64) (ix 197) x7.toInt64)) dX10_testNow_119 ?_
      refine r_aload_n X (x := k.b + (189)) dX10_testNow_120 rfl ?_
      refine r_getfield X (v := .ref (k.b + (190))) clsX10 flX10_7 (Nat.le_of_ble_eq_true rfl) _ o_model rfl dX10_testNow_121 ?_
      refine r_sipush X (v := 198) dX10_testNow_124 rfl ?_
      refine r_aload_n X (x := k.b + (189)) dX10_testNow_127 rfl ?_
      refine r_getfield X (v := .ref (k.b + (190))) clsX10 flX10_7 (Nat.le_of_ble_eq_true rfl) _ o_model rfl dX10_testNow_128 ?_
      refine r_iconst X (v := 4) dX10_testNow_131 rfl ?_
      refine r_laload X (f := vp_updL (vp_updL w (ix 196) x1.toInt64) (ix 197) x7.toInt64) _ a_m_w (by decide) dX10_testNow_132 ?_
      refine r_lastore X (f := vp_updL (vp_updL w (ix 196) x1.toInt64) (ix 197) x7.toInt64) (ws1 := wAll k T R ly rc hn rp tp ee st (vp_updL (vp_updL (vp_updL w (ix 196) x1.toInt64) (ix 197) x7.toInt64) (ix 198) ((vp_updL (vp_updL w (ix 196) x1.toInt64) (ix 197) x7.toInt64) (ix 4))) aside thought fresh mu th mp mf mh mg ou od) _ a_m_w (by decide) (s_w (vp_updL (vp_updL (vp_updL w (ix 196) x1.toInt64) (ix 197) x7.toInt64) (ix 198) ((vp_updL (vp_updL w (ix 196) x1.toInt64) (ix 197) x7.toInt64) (ix 4)))) dX10_testNow_133 ?_
      refine r_aload_n X (x := k.b + (189)) dX10_testNow_134 rfl ?_
      refine r_getfield X (v := .ref (k.b + (190))) clsX10 flX10_7 (Nat.le_of_ble_eq_true rfl) _ o_model rfl dX10_testNow_135 ?_
      refine r_sipush X (v := 199) dX10_testNow_138 rfl ?_
      refine r_iload_n X (x := x2) dX10_testNow_141 rfl ?_
      refine r_i2l X dX10_testNow_142 ?_
      refine r_lastore X (f := vp_updL (vp_updL (vp_updL w (ix 196) x1.toInt64) (ix 197) x7.toInt64) (ix 198) ((vp_updL (vp_updL w (ix 196) x1.toInt64) (ix 197) x7.toInt64) (ix 4))) (ws1 := wAll k T R ly rc hn rp tp ee st (vp_updL (vp_updL (vp_updL (vp_updL w (ix 196) x1.toInt64) (ix 197) x7.toInt64) (ix 198) ((vp_updL (vp_updL w (ix 196) x1.toInt64) (ix 197) x7.toInt64) (ix 4))) (ix 199) x2.toInt64) aside thought fresh mu th mp mf mh mg ou od) _ a_m_w (by decide) (s_w (vp_updL (vp_updL (vp_updL (vp_updL w (ix 196) x1.toInt64) (ix 197) x7.toInt64) (ix 198) ((vp_updL (vp_updL w (ix 196) x1.toInt64) (ix 197) x7.toInt64) (ix 4))) (ix 199) x2.toInt64)) dX10_testNow_143 ?_
      refine r_aload_n X (x := k.b + (189)) dX10_testNow_144 rfl ?_
      refine r_getfield X (v := .ref (k.b + (190))) clsX10 flX10_7 (Nat.le_of_ble_eq_true rfl) _ o_model rfl dX10_testNow_145 ?_
      refine r_sipush X (v := 200) dX10_testNow_148 rfl ?_
      refine r_lload_n X (x := x3) dX10_testNow_151 rfl ?_
      refine r_lastore X (f := vp_updL (vp_updL (vp_updL (vp_updL w (ix 196) x1.toInt64) (ix 197) x7.toInt64) (ix 198) ((vp_updL (vp_updL w (ix 196) x1.toInt64) (ix 197) x7.toInt64) (ix 4))) (ix 199) x2.toInt64) (ws1 := wAll k T R ly rc hn rp tp ee st (vp_updL (vp_updL (vp_updL (vp_updL (vp_updL w (ix 196) x1.toInt64) (ix 197) x7.toInt64) (ix 198) ((vp_updL (vp_updL w (ix 196) x1.toInt64) (ix 197) x7.toInt64) (ix 4))) (ix 199) x2.toInt64) (ix 200) x3) aside thought fresh mu th mp mf mh mg ou od) _ a_m_w (by decide) (s_w (vp_updL (vp_updL (vp_updL (vp_updL (vp_updL w (ix 196) x1.toInt64) (ix 197) x7.toInt64) (ix 198) ((vp_updL (vp_updL w (ix 196) x1.toInt64) (ix 197) x7.toInt64) (ix 4))) (ix 199) x2.toInt64) (ix 200) x3)) dX10_testNow_152 ?_
      refine r_aload_n X (x := k.b + (189)) dX10_testNow_153 rfl ?_
      refine r_getfield X (v := .ref (k.b + (190))) clsX10 flX10_7 (Nat.le_of_ble_eq_true rfl) _ o_model rfl dX10_testNow_154 ?_
      refine r_sipush X (v := 201) dX10_testNow_157 rfl ?_
      refine r_lload X (x := x5) dX10_testNow_160 rfl ?_
      refine r_lastore X (f := vp_updL (vp_updL (vp_updL (vp_updL (vp_updL w (ix 196) x1.toInt64) (ix 197) x7.toInt64) (ix 198) ((vp_updL (vp_updL w (ix 196) x1.toInt64) (ix 197) x7.toInt64) (ix 4))) (ix 199) x2.toInt64) (ix 200) x3) (ws1 := wAll k T R ly rc hn rp tp ee st (vp_updL (vp_updL (vp_updL (vp_updL (vp_updL (vp_updL w (ix 196) x1.toInt64) (ix 197) x7.toInt64) (ix 198) ((vp_updL (vp_updL w (ix 196) x1.toInt64) (ix 197) x7.toInt64) (ix 4))) (ix 199) x2.toInt64) (ix 200) x3) (ix 201) x5) aside thought fresh mu th mp mf mh mg ou od) _ a_m_w (by decide) (s_w (vp_updL (vp_updL (vp_updL (vp_updL (vp_updL (vp_updL w (ix 196) x1.toInt64) (ix 197) x7.toInt64) (ix 198) ((vp_updL (vp_updL w (ix 196) x1.toInt64) (ix 197) x7.toInt64) (ix 4))) (ix 199) x2.toInt64) (ix 200) x3) (ix 201) x5)) dX10_testNow_162 ?_
      refine r_aload_n X (x := k.b + (189)) dX10_testNow_163 rfl ?_
      refine r_getfield X (v := .ref (k.b + (190))) clsX10 flX10_7 (Nat.le_of_ble_eq_true rfl) _ o_model rfl dX10_testNow_164 ?_
      refine r_bipush X (v := 7) dX10_testNow_167 rfl ?_
      refine r_aload_n X (x := k.b + (189)) dX10_testNow_169 rfl ?_
      refine r_getfield X (v := .ref (k.b + (190))) clsX10 flX10_7 (Nat.le_of_ble_eq_true rfl) _ o_model rfl dX10_testNow_170 ?_
      refine r_bipush X (v := 7) dX10_testNow_173 rfl ?_
      refine r_laload X (f := vp_updL (vp_updL (vp_updL (vp_updL (vp_updL (vp_updL w (ix 196) x1.toInt64) (ix 197) x7.toInt64) (ix 198) ((vp_updL (vp_updL w (ix 196) x1.toInt64) (ix 197) x7.toInt64) (ix 4))) (ix 199) x2.toInt64) (ix 200) x3) (ix 201) x5) _ a_m_w (by decide) dX10_testNow_175 ?_
      refine r_lconst X (v := 1) dX10_testNow_176 rfl ?_
      refine r_ladd X dX10_testNow_177 ?_
      refine r_ldc2 X (v := 10) coX10_207 dX10_testNow_178 ?_
      refine r_lmin X lkX10_111 rfl ⟨(Nat.le_of_ble_eq_true rfl), (Nat.le_of_ble_eq_true rfl)⟩ (Nat.zero_le _) (Nat.zero_le _) dX10_testNow_181 ?_
      refine r_lastore X (f := vp_updL (vp_updL (vp_updL (vp_updL (vp_updL (vp_updL w (ix 196) x1.toInt64) (ix 197) x7.toInt64) (ix 198) ((vp_updL (vp_updL w (ix 196) x1.toInt64) (ix 197) x7.toInt64) (ix 4))) (ix 199) x2.toInt64) (ix 200) x3) (ix 201) x5) (ws1 := wAll k T R ly rc hn rp tp ee st (vp_updL (vp_updL (vp_updL (vp_updL (vp_updL (vp_updL (vp_updL w (ix 196) x1.toInt64) (ix 197) x7.toInt64) (ix 198) ((vp_updL (vp_updL w (ix 196) x1.toInt64) (ix 197) x7.toInt64) (ix 4))) (ix 199) x2.toInt64) (ix 200) x3) (ix 201) x5) (ix 7) (if 10 < (((vp_updL (vp_updL (vp_updL (vp_updL (vp_updL (vp_updL w (ix 196) x1.toInt64) (ix 197) x7.toInt64) (ix 198) ((vp_updL (vp_updL w (ix 196) x1.toInt64) (ix 197) x7.toInt64) (ix 4))) (ix 199) x2.toInt64) (ix 200) x3) (ix 201) x5) (ix 7)) + 1) then 10 else (((vp_updL (vp_updL (vp_updL (vp_updL (vp_updL (vp_updL w (ix 196) x1.toInt64) (ix 197) x7.toInt64) (ix 198) ((vp_updL (vp_updL w (ix 196) x1.toInt64) (ix 197) x7.toInt64) (ix 4))) (ix 199) x2.toInt64) (ix 200) x3) (ix 201) x5) (ix 7)) + 1))) aside thought fresh mu th mp mf mh mg ou od) _ a_m_w (by decide) (s_w (vp_updL (vp_updL (vp_updL (vp_updL (vp_updL (vp_updL (vp_updL w (ix 196) x1.toInt64) (ix 197) x7.toInt64) (ix 198) ((vp_updL (vp_updL w (ix 196) x1.toInt64) (ix 197) x7.toInt64) (ix 4))) (ix 199) x2.toInt64) (ix 200) x3) (ix 201) x5) (ix 7) (if 10 < (((vp_updL (vp_updL (vp_updL (vp_updL (vp_updL (vp_updL w (ix 196) x1.toInt64) (ix 197) x7.toInt64) (ix 198) ((vp_updL (vp_updL w (ix 196) x1.toInt64) (ix 197) x7.toInt64) (ix 4))) (ix 199) x2.toInt64) (ix 200) x3) (ix 201) x5) (ix 7)) + 1) then 10 else (((vp_updL (vp_updL (vp_updL (vp_updL (vp_updL (vp_updL w (ix 196) x1.toInt64) (ix 197) x7.toInt64) (ix 198) ((vp_updL (vp_updL w (ix 196) x1.toInt64) (ix 197) x7.toInt64) (ix 4))) (ix 199) x2.toInt64) (ix 200) x3) (ix 201) x5) (ix 7)) + 1)))) dX10_testNow_184 ?_
      refine r_iload X (x := x7) dX10_testNow_185 rfl ?_
      obtain rfl := Option.some.inj hf
      exact r_ireturn X hQ rfl rfl (Nat.le_of_ble_eq_true rfl) (Nat.le_of_ble_eq_true rfl) dX10_testNow_187
    · replace hf := ifF hf c73
      refine r_aload_n X (x := k.b + (189)) dX10_testNow_76 rfl ?_
      refine r_getfield X (v := .ref (k.b + (190))) clsX10 flX10_7 (Nat.le_of_ble_eq_true rfl) _ o_model rfl dX10_testNow_77 ?_
      refine r_iload X (x := x8) dX10_testNow_80 rfl ?_
      refine r_aload_n X (x := k.b + (189)) dX10_testNow_82 rfl ?_
      refine r_getfield X (v := .ref (k.b + (190))) clsX10 flX10_7 (Nat.le_of_ble_eq_true rfl) _ o_model rfl dX10_testNow_83 ?_
      refine r_iload X (x := x8) dX10_testNow_86 rfl ?_
      refine r_bipush X (v := 6) dX10_testNow_88 rfl ?_
      refine r_isub X dX10_testNow_90 ?_
      obtain ⟨g91, hf⟩ := gdS hf
      refine r_laload X (f := w) _ a_m_w g91 dX10_testNow_91 ?_
      obtain ⟨g92, hf⟩ := gdS hf
      refine r_lastore X (f := w) (ws1 := wAll k T R ly rc hn rp tp ee st (vp_updL w (ix x8) (w (ix (x8 - 6)))) aside thought fresh mu th mp mf mh mg ou od) _ a_m_w g92 (s_w (vp_updL w (ix x8) (w (ix (x8 - 6))))) dX10_testNow_92 ?_
      refine r_iinc X (x := x8) (v := x8 + (-1)) [some (.ref (k.b + (189))), some (.int x1), some (.int x2), some (.long x3), none, some (.long x5), none, some (.int x7), some (.int (x8 + (-1)))] dX10_testNow_93 rfl rfl rfl ?_
      refine r_goto X 67 dX10_testNow_96 rfl ?_
      exact ih (vp_updL w (ix x8) (w (ix (x8 - 6)))) x1 x2 x3 x5 x7 (x8 + (-1)) hf
set_option maxRecDepth 100000 in
set_option maxHeartbeats 4000000 in
theorem B10_testNow_B36 {k : KT} {z : ZT} {T : TT} {R : RR} {ly : Fin 2 → LL} {rc : RC} {hn : HN} {rp : RP} {tp : TP} {ee : EE} {st : Fin 12 → SS} {aside : Nat → Int64} {thought : Nat → Int64} {fresh : Nat → Int64} {mu : MU} {th : Int32} {mp : MP} {mf : MF} {mh : MH} {mg : MG} {ou : Nat → Int64} {od : Nat → UInt64} {r : Int32 × (Nat → Int64)} (X : XX k strs z RX10 cX10_testNow 9 (some .int) (rmD 9 0 0)) (hQ : zQ z = MQ (zB z) (Qof k (some (.int r.1)) (wAll k T R ly rc hn rp tp ee st r.2 aside thought fresh mu th mp mf mh mg ou od)) (zA z) (zS z) 0 0 (kA k)) (w : Nat → Int64) (x1 : Int32) (x2 : Int32) (x3 : Int64) (x5 : Int64) (hf : f10_testNow_B36  w x1 x2 x3 x5 = some r) : VW k z 0 0 (wAll k T R ly rc hn rp tp ee st w aside thought fresh mu th mp mf mh mg ou od) 36 [some (.ref (k.b + (189))), some (.int x1), some (.int x2), some (.long x3), none, some (.long x5), none, none, none] [] := by
  unfold f10_testNow_B36 at hf
  refine r_lload X (x := x5) dX10_testNow_36 rfl ?_
  refine r_ldc2 X (v := 10) coX10_207 dX10_testNow_38 ?_
  refine r_lmul X dX10_testNow_41 ?_
  refine r_lload_n X (x := x3) dX10_testNow_42 rfl ?_
  refine r_ldc2 X (v := 9) coX10_209 dX10_testNow_43 ?_
  refine r_lmul X dX10_testNow_46 ?_
  refine r_lcmp_lt X 55 dX10_testNow_47 dX10_testNow_48 rfl (fun c47 => ?_) (fun c47 => ?_)
  · replace hf := ifT hf c47
    refine r_iconst X (v := 1) dX10_testNow_55 rfl ?_
    refine r_istore X [some (.ref (k.b + (189))), some (.int x1), some (.int x2), some (.long x3), none, some (.long x5), none, some (.int 1), none] dX10_testNow_56 (Nat.le_of_ble_eq_true rfl) rfl ?_
    refine r_bipush X (v := 10) dX10_testNow_58 rfl ?_
    obtain ⟨u60, h60, hf⟩ := bdS hf
    refine r_callS0 X [.int 10] [] (K10_testAt h60) lkX10_211 (by decide) (Nat.le_of_ble_eq_true rfl) rfl rfl (Nat.le_of_ble_eq_true rfl) rfl rfl (Nat.zero_le _) (Nat.zero_le _) dX10_testNow_60 ?_
    refine r_iconst X (v := 1) dX10_testNow_63 rfl ?_
    refine r_isub X dX10_testNow_64 ?_
    refine r_istore X [some (.ref (k.b + (189))), some (.int x1), some (.int x2), some (.long x3), none, some (.long x5), none, some (.int 1), some (.int (u60 - 1))] dX10_testNow_65 (Nat.le_of_ble_eq_true rfl) rfl ?_
    exact B10_testNow_B67 X hQ FU w x1 x2 x3 x5 1 (u60 - 1) hf
  · replace hf := ifF hf c47
    refine r_iconst X (v := 2) dX10_testNow_51 rfl ?_
    refine r_goto X 56 dX10_testNow_52 rfl ?_
    refine r_istore X [some (.ref (k.b + (189))), some (.int x1), some (.int x2), some (.long x3), none, some (.long x5), none, some (.int 2), none] dX10_testNow_56 (Nat.le_of_ble_eq_true rfl) rfl ?_
    refine r_bipush X (v := 10) dX10_testNow_58 rfl ?_
    obtain ⟨u60, h60, hf⟩ := bdS hf
    refine r_callS0 X [.int 10] [] (K10_testAt h60) lkX10_211 (by decide) (Nat.le_of_ble_eq_true rfl) rfl rfl (Nat.le_of_ble_eq_true rfl) rfl rfl (Nat.zero_le _) (Nat.zero_le _) dX10_testNow_60 ?_
    refine r_iconst X (v := 1) dX10_testNow_63 rfl ?_
    refine r_isub X dX10_testNow_64 ?_
    refine r_istore X [some (.ref (k.b + (189))), some (.int x1), some (.int x2), some (.long x3), none, some (.long x5), none, some (.int 2), some (.int (u60 - 1))] dX10_testNow_65 (Nat.le_of_ble_eq_true rfl) rfl ?_
    exact B10_testNow_B67 X hQ FU w x1 x2 x3 x5 2 (u60 - 1) hf
set_option maxRecDepth 100000 in
set_option maxHeartbeats 4000000 in
theorem K10_testNow {k : KT} {T : TT} {R : RR} {ly : Fin 2 → LL} {rc : RC} {hn : HN} {rp : RP} {tp : TP} {ee : EE} {st : Fin 12 → SS} {w : Nat → Int64} {aside : Nat → Int64} {thought : Nat → Int64} {fresh : Nat → Int64} {mu : MU} {th : Int32} {mp : MP} {mf : MF} {mh : MH} {mg : MG} {ou : Nat → Int64} {od : Nat → UInt64}  {x1 : Int32} {x2 : Int32} {r : Int32 × (Nat → Int64)} (hf : f10_testNow  w x1 x2 = some r) : CT k strs yX10_testNow cX10_testNow 9 (some .int) (rmD 9 0 0) 0 0 [.ref (k.b + (189)), .int x1, .int x2] (wAll k T R ly rc hn rp tp ee st w aside thought fresh mu th mp mf mh mg ou od) (some (.int r.1)) (wAll k T R ly rc hn rp tp ee st r.2 aside thought fresh mu th mp mf mh mg ou od) := by
  refine CT.of (by decide) (Nat.le_of_ble_eq_true rfl) ?_
  intro z X hQ
  show VW k z 0 0 (wAll k T R ly rc hn rp tp ee st w aside thought fresh mu th mp mf mh mg ou od) 0 [some (.ref (k.b + (189))), some (.int x1), some (.int x2), none, none, none, none, none, none] []
  unfold f10_testNow at hf
  refine r_aload_n X (x := k.b + (189)) dX10_testNow_0 rfl ?_
  refine r_iload_n X (x := x1) dX10_testNow_1 rfl ?_
  refine r_iload_n X (x := x2) dX10_testNow_2 rfl ?_
  refine r_iconst X (v := 2) dX10_testNow_3 rfl ?_
  refine r_idiv X dX10_testNow_4 (by decide) ?_
  obtain ⟨u5, h5, hf⟩ := bdS hf
  refine r_callV0 X [.int x1, .int (x2 / 2)] [] (K10_riseIn h5) lkX10_203 clsX10 rfl _ o_model (by decide) (Nat.le_of_ble_eq_true rfl) rfl rfl (Nat.le_of_ble_eq_true rfl) rfl rfl (Nat.zero_le _) (Nat.zero_le _) dX10_testNow_5 ?_
  refine r_lstore_n X [some (.ref (k.b + (189))), some (.int x1), some (.int x2), some (.long u5.1), none, none, none, none, none] dX10_testNow_8 (Nat.le_of_ble_eq_true rfl) rfl ?_
  refine r_aload_n X (x := k.b + (189)) dX10_testNow_9 rfl ?_
  refine r_iload_n X (x := x1) dX10_testNow_10 rfl ?_
  refine r_iload_n X (x := x2) dX10_testNow_11 rfl ?_
  refine r_iconst X (v := 2) dX10_testNow_12 rfl ?_
  refine r_idiv X dX10_testNow_13 (by decide) ?_
  obtain ⟨u14, h14, hf⟩ := bdS hf
  refine r_callV0 X [.int x1, .int (x2 / 2)] [] (K10_riseIn h14) lkX10_203 clsX10 rfl _ o_model (by decide) (Nat.le_of_ble_eq_true rfl) rfl rfl (Nat.le_of_ble_eq_true rfl) rfl rfl (Nat.zero_le _) (Nat.zero_le _) dX10_testNow_14 ?_
  refine r_lstore X [some (.ref (k.b + (189))), some (.int x1), some (.int x2), some (.long u5.1), none, some (.long u14.1), none, none, none] dX10_testNow_17 (Nat.le_of_ble_eq_true rfl) rfl ?_
  refine r_lload_n X (x := u5.1) dX10_testNow_19 rfl ?_
  refine r_lconst X (v := 0) dX10_testNow_20 rfl ?_
  refine r_lcmp_ne X 36 dX10_testNow_21 dX10_testNow_22 rfl (fun c21 => ?_) (fun c21 => ?_)
  · replace hf := ifF hf c21
    exact B10_testNow_B36 X hQ u14.2 x1 x2 u5.1 u14.1 hf
  · replace hf := ifT hf c21
    refine r_lload X (x := u14.1) dX10_testNow_25 rfl ?_
    refine r_lconst X (v := 0) dX10_testNow_27 rfl ?_
    refine r_lcmp_ne X 36 dX10_testNow_28 dX10_testNow_29 rfl (fun c28 => ?_) (fun c28 => ?_)
    · replace hf := ifF hf c28
      exact B10_testNow_B36 X hQ u14.2 x1 x2 u5.1 u14.1 hf
    · replace hf := ifT hf c28
      refine r_iconst X (v := 0) dX10_testNow_32 rfl ?_
      refine r_goto X 56 dX10_testNow_33 rfl ?_
      refine r_istore X [some (.ref (k.b + (189))), some (.int x1), some (.int x2), some (.long u5.1), none, some (.long u14.1), none, some (.int 0), none] dX10_testNow_56 (Nat.le_of_ble_eq_true rfl) rfl ?_
      refine r_bipush X (v := 10) dX10_testNow_58 rfl ?_
      obtain ⟨u60, h60, hf⟩ := bdS hf
      refine r_callS0 X [.int 10] [] (K10_testAt h60) lkX10_211 (by decide) (Nat.le_of_ble_eq_true rfl) rfl rfl (Nat.le_of_ble_eq_true rfl) rfl rfl (Nat.zero_le _) (Nat.zero_le _) dX10_testNow_60 ?_
      refine r_iconst X (v := 1) dX10_testNow_63 rfl ?_
      refine r_isub X dX10_testNow_64 ?_
      refine r_istore X [some (.ref (k.b + (189))), some (.int x1), some (.int x2), some (.long u5.1), none, some (.long u14.1), none, some (.int 0), some (.int (u60 - 1))] dX10_testNow_65 (Nat.le_of_ble_eq_true rfl) rfl ?_
      exact B10_testNow_B67 X hQ FU u14.2 x1 x2 u5.1 u14.1 0 (u60 - 1) hf
set_option maxRecDepth 100000 in
set_option maxHeartbeats 4000000 in
theorem K10_test {k : KT} {T : TT} {R : RR} {ly : Fin 2 → LL} {rc : RC} {hn : HN} {rp : RP} {tp : TP} {ee : EE} {st : Fin 12 → SS} {w : Nat → Int64} {aside : Nat → Int64} {thought : Nat → Int64} {fresh : Nat → Int64} {mu : MU} {th : Int32} {mp : MP} {mf : MF} {mh : MH} {mg : MG} {ou : Nat → Int64} {od : Nat → UInt64}  {x1 : Int32} {x2 : Int32} {r : Int32 × (Nat → Int64) × (Nat → Int64) × (MU) × (Int32)} (hf : f10_test  w aside mu th x1 x2 = some r) : CT k strs yX10_test cX10_test 3 (some .int) (rmD 10 0 0) 0 0 [.ref (k.b + (189)), .int x1, .int x2] (wAll k T R ly rc hn rp tp ee st w aside thought fresh mu th mp mf mh mg ou od) (some (.int r.1)) (wAll k T R ly rc hn rp tp ee st r.2.1 r.2.2.1 thought fresh r.2.2.2.1 r.2.2.2.2 mp mf mh mg ou od) := by
  refine CT.of (by decide) (Nat.le_of_ble_eq_true rfl) ?_
  intro z X hQ
  show VW k z 0 0 (wAll k T R ly rc hn rp tp ee st w aside thought fresh mu th mp mf mh mg ou od) 0 [some (.ref (k.b + (189))), some (.int x1), some (.int x2)] []
  unfold f10_test at hf
  refine r_aload_n X (x := k.b + (189)) dX10_test_0 rfl ?_
  refine r_aload_n X (x := k.b + (189)) dX10_test_1 rfl ?_
  refine r_iload_n X (x := x1) dX10_test_2 rfl ?_
  obtain ⟨u3, h3, hf⟩ := bdS hf
  refine r_callV0 X [.int x1] [.ref (k.b + (189))] (K10_isChamber h3) lkX10_179 clsX10 rfl _ o_model (by decide) (Nat.le_of_ble_eq_true rfl) rfl rfl (Nat.le_of_ble_eq_true rfl) rfl rfl (Nat.zero_le _) (Nat.zero_le _) dX10_test_3 ?_
  suffices K6 : VW k z 0 0 (wAll k T R ly rc hn rp tp ee st w aside thought fresh mu th mp mf mh mg ou od) 14 [some (.ref (k.b + (189))), some (.int x1), some (.int x2)] [.int (if u3 = 0 then (1 : Int32) else (0 : Int32)), .ref (k.b + (189))] by
    refine r_if_ne X 13 dX10_test_6 rfl (fun c6 => ?_) (fun c6 => ?_)
    · refine r_iconst X (v := 0) dX10_test_13 rfl ?_
      rw [if_neg c6] at K6
      exact K6
    · refine r_iconst X (v := 1) dX10_test_9 rfl ?_
      refine r_goto X 14 dX10_test_10 rfl ?_
      rw [if_pos c6] at K6
      exact K6
  refine r_iconst X (v := 1) dX10_test_14 rfl ?_
  obtain ⟨u15, h15, hf⟩ := bdS hf
  refine r_callV0 X [.int (if u3 = 0 then (1 : Int32) else (0 : Int32)), .int 1] [] (K10_fails h15) lkX10_151 clsX10 rfl _ o_model (by decide) (Nat.le_of_ble_eq_true rfl) rfl rfl (Nat.le_of_ble_eq_true rfl) rfl rfl (Nat.zero_le _) (Nat.zero_le _) dX10_test_15 ?_
  refine r_if_ne X 62 dX10_test_18 rfl (fun c18 => ?_) (fun c18 => ?_)
  · replace hf := ifF hf c18
    refine r_iconst X (v := 0) dX10_test_62 rfl ?_
    obtain rfl := Option.some.inj hf
    exact r_ireturn X hQ rfl rfl (Nat.le_of_ble_eq_true rfl) (Nat.le_of_ble_eq_true rfl) dX10_test_63
  · replace hf := ifT hf c18
    refine r_aload_n X (x := k.b + (189)) dX10_test_21 rfl ?_
    refine r_iload_n X (x := x2) dX10_test_22 rfl ?_
    obtain ⟨u23, h23, hf⟩ := bdS hf
    refine r_callS0 X [.int x2] [.ref (k.b + (189))] (K10_isTestTicks h23) lkX10_214 (by decide) (Nat.le_of_ble_eq_true rfl) rfl rfl (Nat.le_of_ble_eq_true rfl) rfl rfl (Nat.zero_le _) (Nat.zero_le _) dX10_test_23 ?_
    suffices K26 : VW k z 0 0 (wAll k T R ly rc hn rp tp ee st w aside thought fresh mu u15.2 mp mf mh mg ou od) 34 [some (.ref (k.b + (189))), some (.int x1), some (.int x2)] [.int (if u23 = 0 then (1 : Int32) else (0 : Int32)), .ref (k.b + (189))] by
      refine r_if_ne X 33 dX10_test_26 rfl (fun c26 => ?_) (fun c26 => ?_)
      · refine r_iconst X (v := 0) dX10_test_33 rfl ?_
        rw [if_neg c26] at K26
        exact K26
      · refine r_iconst X (v := 1) dX10_test_29 rfl ?_
        refine r_goto X 34 dX10_test_30 rfl ?_
        rw [if_pos c26] at K26
        exact K26
    refine r_iconst X (v := 2) dX10_test_34 rfl ?_
    obtain ⟨u35, h35, hf⟩ := bdS hf
    refine r_callV0 X [.int (if u23 = 0 then (1 : Int32) else (0 : Int32)), .int 2] [] (K10_fails h35) lkX10_151 clsX10 rfl _ o_model (by decide) (Nat.le_of_ble_eq_true rfl) rfl rfl (Nat.le_of_ble_eq_true rfl) rfl rfl (Nat.zero_le _) (Nat.zero_le _) dX10_test_35 ?_
    refine r_if_ne X 62 dX10_test_38 rfl (fun c38 => ?_) (fun c38 => ?_)
    · replace hf := ifF hf c38
      refine r_iconst X (v := 0) dX10_test_62 rfl ?_
      obtain rfl := Option.some.inj hf
      exact r_ireturn X hQ rfl rfl (Nat.le_of_ble_eq_true rfl) (Nat.le_of_ble_eq_true rfl) dX10_test_63
    · replace hf := ifT hf c38
      refine r_aload_n X (x := k.b + (189)) dX10_test_41 rfl ?_
      refine r_aload_n X (x := k.b + (189)) dX10_test_42 rfl ?_
      refine r_iload_n X (x := x1) dX10_test_43 rfl ?_
      obtain ⟨u44, h44, hf⟩ := bdS hf
      refine r_callV0 X [.int x1] [.ref (k.b + (189))] (K10_isAlone h44) lkX10_217 clsX10 rfl _ o_model (by decide) (Nat.le_of_ble_eq_true rfl) rfl rfl (Nat.le_of_ble_eq_true rfl) rfl rfl (Nat.zero_le _) (Nat.zero_le _) dX10_test_44 ?_
      suffices K47 : VW k z 0 0 (wAll k T R ly rc hn rp tp ee st w aside thought fresh mu u35.2 mp mf mh mg ou od) 55 [some (.ref (k.b + (189))), some (.int x1), some (.int x2)] [.int (if u44 = 0 then (1 : Int32) else (0 : Int32)), .ref (k.b + (189))] by
        refine r_if_ne X 54 dX10_test_47 rfl (fun c47 => ?_) (fun c47 => ?_)
        · refine r_iconst X (v := 0) dX10_test_54 rfl ?_
          rw [if_neg c47] at K47
          exact K47
        · refine r_iconst X (v := 1) dX10_test_50 rfl ?_
          refine r_goto X 55 dX10_test_51 rfl ?_
          rw [if_pos c47] at K47
          exact K47
      refine r_iconst X (v := 3) dX10_test_55 rfl ?_
      obtain ⟨u56, h56, hf⟩ := bdS hf
      refine r_callV0 X [.int (if u44 = 0 then (1 : Int32) else (0 : Int32)), .int 3] [] (K10_fails h56) lkX10_151 clsX10 rfl _ o_model (by decide) (Nat.le_of_ble_eq_true rfl) rfl rfl (Nat.le_of_ble_eq_true rfl) rfl rfl (Nat.zero_le _) (Nat.zero_le _) dX10_test_56 ?_
      refine r_if_eq X 64 dX10_test_59 rfl (fun c59 => ?_) (fun c59 => ?_)
      · replace hf := ifT hf c59
        refine r_aload_n X (x := k.b + (189)) dX10_test_64 rfl ?_
        obtain ⟨u65, h65, hf⟩ := bdS hf
        refine r_callV0 X [] [] (K10_remember h65) lkX10_158 clsX10 rfl _ o_model (by decide) (Nat.le_of_ble_eq_true rfl) rfl rfl (Nat.le_of_ble_eq_true rfl) rfl rfl (Nat.zero_le _) (Nat.zero_le _) dX10_test_65 ?_
        refine r_aload_n X (x := k.b + (189)) dX10_test_68 rfl ?_
        refine r_iload_n X (x := x1) dX10_test_69 rfl ?_
        refine r_iload_n X (x := x2) dX10_test_70 rfl ?_
        obtain ⟨u71, h71, hf⟩ := bdS hf
        refine r_callV0 X [.int x1, .int x2] [] (K10_testNow h71) lkX10_220 clsX10 rfl _ o_model (by decide) (Nat.le_of_ble_eq_true rfl) rfl rfl (Nat.le_of_ble_eq_true rfl) rfl rfl (Nat.zero_le _) (Nat.zero_le _) dX10_test_71 ?_
        obtain rfl := Option.some.inj hf
        exact r_ireturn X hQ rfl rfl (Nat.le_of_ble_eq_true rfl) (Nat.le_of_ble_eq_true rfl) dX10_test_74
      · replace hf := ifF hf c59
        refine r_iconst X (v := 0) dX10_test_62 rfl ?_
        obtain rfl := Option.some.inj hf
        exact r_ireturn X hQ rfl rfl (Nat.le_of_ble_eq_true rfl) (Nat.le_of_ble_eq_true rfl) dX10_test_63
set_option maxRecDepth 100000 in
set_option maxHeartbeats 4000000 in
theorem B10_bring_B2 {k : KT} {z : ZT} {T : TT} {R : RR} {ly : Fin 2 → LL} {rc : RC} {hn : HN} {rp : RP} {tp : TP} {ee : EE} {st : Fin 12 → SS} {w : Nat → Int64} {aside : Nat → Int64} {thought : Nat → Int64} {fresh : Nat → Int64} {mu : MU} {th : Int32} {mf : MF} {mh : MH} {mg : MG} {ou : Nat → Int64} {od : Nat → UInt64} {r : (MP)} (X : XX k strs z RX10 cX10_bring 3 none (rmD 0 0 0)) (hQ : zQ z = MQ (zB z) (Qof k (none) (wAll k T R ly rc hn rp tp ee st w aside thought fresh mu th r mf mh mg ou od)) (zA z) (zS z) 0 0 (kA k)) : ∀ (fu : Nat) (mp : MP) (x1 : Int32) (x2 : Int32), f10_bring_B2  fu mp x1 x2 = some r → VW k z 0 0 (wAll k T R ly rc hn rp tp ee st w aside thought fresh mu th mp mf mh mg ou od) 2 [some (.ref (k.b + (189))), some (.int x1), some (.int x2)] [] := by
  intro fu
  induction fu with
  | zero =>
    intro mp x1 x2 hf
    rw [f10_bring_B2] at hf
    cases hf
  | succ fu ih =>
    intro mp x1 x2 hf
    rw [f10_bring_B2] at hf
    refine r_iload_n X (x := x2) dX10_bring_2 rfl ?_
    refine r_if_lt X 35 dX10_bring_3 rfl (fun c3 => ?_) (fun c3 => ?_)
    · replace hf := ifT hf c3
      obtain rfl := Option.some.inj hf
      exact r_return X hQ rfl rfl (Nat.le_of_ble_eq_true rfl) (Nat.le_of_ble_eq_true rfl) dX10_bring_35
    · replace hf := ifF hf c3
      refine r_aload_n X (x := k.b + (189)) dX10_bring_6 rfl ?_
      refine r_getfield X (v := .ref (k.b + (195))) clsX10 flX10_25 (Nat.le_of_ble_eq_true rfl) _ o_model rfl dX10_bring_7 ?_
      refine r_aload_n X (x := k.b + (189)) dX10_bring_10 rfl ?_
      refine r_dup X dX10_bring_11 rfl ?_
      refine r_getfield X (v := .int (MP_length mp)) clsX10 flX10_223 (Nat.le_of_ble_eq_true rfl) _ o_model rfl dX10_bring_12 ?_
      refine r_dup_x1 X dX10_bring_15 rfl rfl ?_
      refine r_iconst X (v := 1) dX10_bring_16 rfl ?_
      refine r_iadd X dX10_bring_17 ?_
      refine r_putfield X (ws1 := wAll k T R ly rc hn rp tp ee st w aside thought fresh mu th (MP_set_length mp ((MP_length mp) + 1)) mf mh mg ou od) clsX10 flX10_223 (Nat.le_of_ble_eq_true rfl) rfl rfl rfl _ o_model (Nat.le_of_ble_eq_true rfl) (s_mp_length ((MP_length mp) + 1)) dX10_bring_18 ?_
      refine r_iload_n X (x := x1) dX10_bring_21 rfl ?_
      refine r_bipush X (v := 8) dX10_bring_22 rfl ?_
      refine r_iload_n X (x := x2) dX10_bring_24 rfl ?_
      refine r_imul X dX10_bring_25 ?_
      refine r_ishr X dX10_bring_26 ?_
      refine r_i2b X dX10_bring_27 ?_
      obtain ⟨g28, hf⟩ := gdS hf
      refine r_bastore X (f := MP_text mp) (ws1 := wAll k T R ly rc hn rp tp ee st w aside thought fresh mu th (MP_set_text (MP_set_length mp ((MP_length mp) + 1)) (upd (MP_text mp) (ix (MP_length mp)) (vp_nar .byte ((x1 >>> ((8 * x2) &&& 31)).toInt8.toInt32)))) mf mh mg ou od) _ (heI a_m_text (MP_text_set_length _ _)) g28 (s_mp_text (upd (MP_text mp) (ix (MP_length mp)) (vp_nar .byte ((x1 >>> ((8 * x2) &&& 31)).toInt8.toInt32)))) dX10_bring_28 ?_
      refine r_iinc X (x := x2) (v := x2 + (-1)) [some (.ref (k.b + (189))), some (.int x1), some (.int (x2 + (-1)))] dX10_bring_29 rfl rfl rfl ?_
      refine r_goto X 2 dX10_bring_32 rfl ?_
      exact ih (MP_set_text (MP_set_length mp ((MP_length mp) + 1)) (upd (MP_text mp) (ix (MP_length mp)) (vp_nar .byte ((x1 >>> ((8 * x2) &&& 31)).toInt8.toInt32)))) x1 (x2 + (-1)) hf
set_option maxRecDepth 100000 in
set_option maxHeartbeats 4000000 in
theorem K10_bring {k : KT} {T : TT} {R : RR} {ly : Fin 2 → LL} {rc : RC} {hn : HN} {rp : RP} {tp : TP} {ee : EE} {st : Fin 12 → SS} {w : Nat → Int64} {aside : Nat → Int64} {thought : Nat → Int64} {fresh : Nat → Int64} {mu : MU} {th : Int32} {mp : MP} {mf : MF} {mh : MH} {mg : MG} {ou : Nat → Int64} {od : Nat → UInt64}  {x1 : Int32} {r : (MP)} (hf : f10_bring  mp x1 = some r) : CT k strs yX10_bring cX10_bring 3 none (rmD 0 0 0) 0 0 [.ref (k.b + (189)), .int x1] (wAll k T R ly rc hn rp tp ee st w aside thought fresh mu th mp mf mh mg ou od) (none) (wAll k T R ly rc hn rp tp ee st w aside thought fresh mu th r mf mh mg ou od) := by
  refine CT.of (by decide) (Nat.le_of_ble_eq_true rfl) ?_
  intro z X hQ
  show VW k z 0 0 (wAll k T R ly rc hn rp tp ee st w aside thought fresh mu th mp mf mh mg ou od) 0 [some (.ref (k.b + (189))), some (.int x1), none] []
  unfold f10_bring at hf
  refine r_iconst X (v := 3) dX10_bring_0 rfl ?_
  refine r_istore_n X [some (.ref (k.b + (189))), some (.int x1), some (.int 3)] dX10_bring_1 (Nat.le_of_ble_eq_true rfl) rfl ?_
  exact B10_bring_B2 X hQ FU mp x1 3 hf
set_option maxRecDepth 100000 in
set_option maxHeartbeats 4000000 in
theorem K10_appendText {k : KT} {T : TT} {R : RR} {ly : Fin 2 → LL} {rc : RC} {hn : HN} {rp : RP} {tp : TP} {ee : EE} {st : Fin 12 → SS} {w : Nat → Int64} {aside : Nat → Int64} {thought : Nat → Int64} {fresh : Nat → Int64} {mu : MU} {th : Int32} {mp : MP} {mf : MF} {mh : MH} {mg : MG} {ou : Nat → Int64} {od : Nat → UInt64}  {x1 : Int32} {x2 : Int32} {x3 : Int32} {x4 : Int32} {x5 : Int32} {r : Int32 × (Int32) × (MP)} (hf : f10_appendText  th mp x1 x2 x3 x4 x5 = some r) : CT k strs yX10_appendText cX10_appendText 6 (some .int) (rmD 1 0 0) 0 0 [.ref (k.b + (189)), .int x1, .int x2, .int x3, .int x4, .int x5] (wAll k T R ly rc hn rp tp ee st w aside thought fresh mu th mp mf mh mg ou od) (some (.int r.1)) (wAll k T R ly rc hn rp tp ee st w aside thought fresh mu r.2.1 r.2.2 mf mh mg ou od) := by
  refine CT.of (by decide) (Nat.le_of_ble_eq_true rfl) ?_
  intro z X hQ
  show VW k z 0 0 (wAll k T R ly rc hn rp tp ee st w aside thought fresh mu th mp mf mh mg ou od) 0 [some (.ref (k.b + (189))), some (.int x1), some (.int x2), some (.int x3), some (.int x4), some (.int x5)] []
  unfold f10_appendText at hf
  refine r_aload_n X (x := k.b + (189)) dX10_appendText_0 rfl ?_
  refine r_getfield X (v := .int (MP_length mp)) clsX10 flX10_223 (Nat.le_of_ble_eq_true rfl) _ o_model rfl dX10_appendText_1 ?_
  refine r_bipush X (v := 20) dX10_appendText_4 rfl ?_
  refine r_iadd X dX10_appendText_6 ?_
  refine r_sipush X (v := 900) dX10_appendText_7 rfl ?_
  refine r_icmp_le X 19 dX10_appendText_10 rfl (fun c10 => ?_) (fun c10 => ?_)
  · replace hf := ifT hf c10
    refine r_aload_n X (x := k.b + (189)) dX10_appendText_19 rfl ?_
    refine r_iconst X (v := 0) dX10_appendText_20 rfl ?_
    refine r_putfield X (ws1 := wAll k T R ly rc hn rp tp ee st w aside thought fresh mu 0 mp mf mh mg ou od) clsX10 flX10_36 (Nat.le_of_ble_eq_true rfl) rfl rfl rfl _ o_model (Nat.le_of_ble_eq_true rfl) (s_th 0) dX10_appendText_21 ?_
    refine r_aload_n X (x := k.b + (189)) dX10_appendText_24 rfl ?_
    refine r_iload_n X (x := x1) dX10_appendText_25 rfl ?_
    obtain ⟨u26, h26, hf⟩ := bdS hf
    refine r_callV0 X [.int x1] [] (K10_bring h26) lkX10_226 clsX10 rfl _ o_model (by decide) (Nat.le_of_ble_eq_true rfl) rfl rfl (Nat.le_of_ble_eq_true rfl) rfl rfl (Nat.zero_le _) (Nat.zero_le _) dX10_appendText_26 ?_
    refine r_aload_n X (x := k.b + (189)) dX10_appendText_29 rfl ?_
    refine r_iload_n X (x := x2) dX10_appendText_30 rfl ?_
    obtain ⟨u31, h31, hf⟩ := bdS hf
    refine r_callV0 X [.int x2] [] (K10_bring h31) lkX10_226 clsX10 rfl _ o_model (by decide) (Nat.le_of_ble_eq_true rfl) rfl rfl (Nat.le_of_ble_eq_true rfl) rfl rfl (Nat.zero_le _) (Nat.zero_le _) dX10_appendText_31 ?_
    refine r_aload_n X (x := k.b + (189)) dX10_appendText_34 rfl ?_
    refine r_iload_n X (x := x3) dX10_appendText_35 rfl ?_
    obtain ⟨u36, h36, hf⟩ := bdS hf
    refine r_callV0 X [.int x3] [] (K10_bring h36) lkX10_226 clsX10 rfl _ o_model (by decide) (Nat.le_of_ble_eq_true rfl) rfl rfl (Nat.le_of_ble_eq_true rfl) rfl rfl (Nat.zero_le _) (Nat.zero_le _) dX10_appendText_36 ?_
    refine r_aload_n X (x := k.b + (189)) dX10_appendText_39 rfl ?_
    refine r_iload X (x := x4) dX10_appendText_40 rfl ?_
    obtain ⟨u42, h42, hf⟩ := bdS hf
    refine r_callV0 X [.int x4] [] (K10_bring h42) lkX10_226 clsX10 rfl _ o_model (by decide) (Nat.le_of_ble_eq_true rfl) rfl rfl (Nat.le_of_ble_eq_true rfl) rfl rfl (Nat.zero_le _) (Nat.zero_le _) dX10_appendText_42 ?_
    refine r_aload_n X (x := k.b + (189)) dX10_appendText_45 rfl ?_
    refine r_iload X (x := x5) dX10_appendText_46 rfl ?_
    obtain ⟨u48, h48, hf⟩ := bdS hf
    refine r_callV0 X [.int x5] [] (K10_bring h48) lkX10_226 clsX10 rfl _ o_model (by decide) (Nat.le_of_ble_eq_true rfl) rfl rfl (Nat.le_of_ble_eq_true rfl) rfl rfl (Nat.zero_le _) (Nat.zero_le _) dX10_appendText_48 ?_
    refine r_aload_n X (x := k.b + (189)) dX10_appendText_51 rfl ?_
    refine r_getfield X (v := .int (MP_length u48)) clsX10 flX10_223 (Nat.le_of_ble_eq_true rfl) _ o_model rfl dX10_appendText_52 ?_
    obtain rfl := Option.some.inj hf
    exact r_ireturn X hQ rfl rfl (Nat.le_of_ble_eq_true rfl) (Nat.le_of_ble_eq_true rfl) dX10_appendText_55
  · replace hf := ifF hf c10
    refine r_aload_n X (x := k.b + (189)) dX10_appendText_13 rfl ?_
    refine r_iconst X (v := 1) dX10_appendText_14 rfl ?_
    obtain ⟨u15, h15, hf⟩ := bdS hf
    refine r_callV0 X [.int 1] [] (K10_no h15) lkX10_57 clsX10 rfl _ o_model (by decide) (Nat.le_of_ble_eq_true rfl) rfl rfl (Nat.le_of_ble_eq_true rfl) rfl rfl (Nat.zero_le _) (Nat.zero_le _) dX10_appendText_15 ?_
    obtain rfl := Option.some.inj hf
    exact r_ireturn X hQ rfl rfl (Nat.le_of_ble_eq_true rfl) (Nat.le_of_ble_eq_true rfl) dX10_appendText_18
set_option maxRecDepth 100000 in
set_option maxHeartbeats 4000000 in
theorem K10_truncateText {k : KT} {T : TT} {R : RR} {ly : Fin 2 → LL} {rc : RC} {hn : HN} {rp : RP} {tp : TP} {ee : EE} {st : Fin 12 → SS} {w : Nat → Int64} {aside : Nat → Int64} {thought : Nat → Int64} {fresh : Nat → Int64} {mu : MU} {th : Int32} {mp : MP} {mf : MF} {mh : MH} {mg : MG} {ou : Nat → Int64} {od : Nat → UInt64}  {x1 : Int32} {r : Int32 × (Int32) × (MP)} (hf : f10_truncateText  th mp x1 = some r) : CT k strs yX10_truncateText cX10_truncateText 2 (some .int) (rmD 1 0 0) 0 0 [.ref (k.b + (189)), .int x1] (wAll k T R ly rc hn rp tp ee st w aside thought fresh mu th mp mf mh mg ou od) (some (.int r.1)) (wAll k T R ly rc hn rp tp ee st w aside thought fresh mu r.2.1 r.2.2 mf mh mg ou od) := by
  refine CT.of (by decide) (Nat.le_of_ble_eq_true rfl) ?_
  intro z X hQ
  show VW k z 0 0 (wAll k T R ly rc hn rp tp ee st w aside thought fresh mu th mp mf mh mg ou od) 0 [some (.ref (k.b + (189))), some (.int x1)] []
  unfold f10_truncateText at hf
  refine r_iload_n X (x := x1) dX10_truncateText_0 rfl ?_
  refine r_i2l X dX10_truncateText_1 ?_
  refine r_lconst X (v := 0) dX10_truncateText_2 rfl ?_
  refine r_aload_n X (x := k.b + (189)) dX10_truncateText_3 rfl ?_
  refine r_getfield X (v := .int (MP_length mp)) clsX10 flX10_223 (Nat.le_of_ble_eq_true rfl) _ o_model rfl dX10_truncateText_4 ?_
  refine r_i2l X dX10_truncateText_7 ?_
  obtain ⟨u8, h8, hf⟩ := bdS hf
  refine r_callS0 X [.long x1.toInt64, .long 0, .long ((MP_length mp).toInt64)] [] (K10_in h8) lkX10_39 (by decide) (Nat.le_of_ble_eq_true rfl) rfl rfl (Nat.le_of_ble_eq_true rfl) rfl rfl (Nat.zero_le _) (Nat.zero_le _) dX10_truncateText_8 ?_
  refine r_if_ne X 20 dX10_truncateText_11 rfl (fun c11 => ?_) (fun c11 => ?_)
  · replace hf := ifF hf c11
    refine r_aload_n X (x := k.b + (189)) dX10_truncateText_20 rfl ?_
    refine r_iconst X (v := 0) dX10_truncateText_21 rfl ?_
    refine r_putfield X (ws1 := wAll k T R ly rc hn rp tp ee st w aside thought fresh mu 0 mp mf mh mg ou od) clsX10 flX10_36 (Nat.le_of_ble_eq_true rfl) rfl rfl rfl _ o_model (Nat.le_of_ble_eq_true rfl) (s_th 0) dX10_truncateText_22 ?_
    refine r_aload_n X (x := k.b + (189)) dX10_truncateText_25 rfl ?_
    refine r_iload_n X (x := x1) dX10_truncateText_26 rfl ?_
    refine r_putfield X (ws1 := wAll k T R ly rc hn rp tp ee st w aside thought fresh mu 0 (MP_set_length mp x1) mf mh mg ou od) clsX10 flX10_223 (Nat.le_of_ble_eq_true rfl) rfl rfl rfl _ o_model (Nat.le_of_ble_eq_true rfl) (s_mp_length x1) dX10_truncateText_27 ?_
    refine r_iload_n X (x := x1) dX10_truncateText_30 rfl ?_
    obtain rfl := Option.some.inj hf
    exact r_ireturn X hQ rfl rfl (Nat.le_of_ble_eq_true rfl) (Nat.le_of_ble_eq_true rfl) dX10_truncateText_31
  · replace hf := ifT hf c11
    refine r_aload_n X (x := k.b + (189)) dX10_truncateText_14 rfl ?_
    refine r_iconst X (v := 1) dX10_truncateText_15 rfl ?_
    obtain ⟨u16, h16, hf⟩ := bdS hf
    refine r_callV0 X [.int 1] [] (K10_no h16) lkX10_57 clsX10 rfl _ o_model (by decide) (Nat.le_of_ble_eq_true rfl) rfl rfl (Nat.le_of_ble_eq_true rfl) rfl rfl (Nat.zero_le _) (Nat.zero_le _) dX10_truncateText_16 ?_
    obtain rfl := Option.some.inj hf
    exact r_ireturn X hQ rfl rfl (Nat.le_of_ble_eq_true rfl) (Nat.le_of_ble_eq_true rfl) dX10_truncateText_19
set_option maxRecDepth 100000 in
set_option maxHeartbeats 4000000 in
theorem K10_byteAt {k : KT} {T : TT} {R : RR} {ly : Fin 2 → LL} {rc : RC} {hn : HN} {rp : RP} {tp : TP} {ee : EE} {st : Fin 12 → SS} {w : Nat → Int64} {aside : Nat → Int64} {thought : Nat → Int64} {fresh : Nat → Int64} {mu : MU} {th : Int32} {mp : MP} {mf : MF} {mh : MH} {mg : MG} {ou : Nat → Int64} {od : Nat → UInt64}  {x1 : Int32} {r : Int32} (hf : f10_byteAt mp  x1 = some r) : CT k strs yX10_byteAt cX10_byteAt 2 (some .int) (rmD 0 0 0) 0 0 [.ref (k.b + (189)), .int x1] (wAll k T R ly rc hn rp tp ee st w aside thought fresh mu th mp mf mh mg ou od) (some (.int r)) (wAll k T R ly rc hn rp tp ee st w aside thought fresh mu th mp mf mh mg ou od) := by
  refine CT.of (by decide) (Nat.le_of_ble_eq_true rfl) ?_
  intro z X hQ
  show VW k z 0 0 (wAll k T R ly rc hn rp tp ee st w aside thought fresh mu th mp mf mh mg ou od) 0 [some (.ref (k.b + (189))), some (.int x1)] []
  unfold f10_byteAt at hf
  refine r_iload_n X (x := x1) dX10_byteAt_0 rfl ?_
  refine r_aload_n X (x := k.b + (189)) dX10_byteAt_1 rfl ?_
  refine r_getfield X (v := .int (MP_end_ mp)) clsX10 flX10_229 (Nat.le_of_ble_eq_true rfl) _ o_model rfl dX10_byteAt_2 ?_
  refine r_icmp_ge X 21 dX10_byteAt_5 rfl (fun c5 => ?_) (fun c5 => ?_)
  · replace hf := ifT hf c5
    refine r_iconst X (v := (-1)) dX10_byteAt_21 rfl ?_
    obtain rfl := Option.some.inj hf
    exact r_ireturn X hQ rfl rfl (Nat.le_of_ble_eq_true rfl) (Nat.le_of_ble_eq_true rfl) dX10_byteAt_22
  · replace hf := ifF hf c5
    refine r_aload_n X (x := k.b + (189)) dX10_byteAt_8 rfl ?_
    refine r_getfield X (v := .ref (k.b + (195))) clsX10 flX10_25 (Nat.le_of_ble_eq_true rfl) _ o_model rfl dX10_byteAt_9 ?_
    refine r_iload_n X (x := x1) dX10_byteAt_12 rfl ?_
    obtain ⟨g13, hf⟩ := gdS hf
    refine r_baload X (f := MP_text mp) _ a_m_text g13 dX10_byteAt_13 ?_
    refine r_sipush X (v := 255) dX10_byteAt_14 rfl ?_
    refine r_iand X dX10_byteAt_17 ?_
    refine r_goto X 22 dX10_byteAt_18 rfl ?_
    obtain rfl := Option.some.inj hf
    exact r_ireturn X hQ rfl rfl (Nat.le_of_ble_eq_true rfl) (Nat.le_of_ble_eq_true rfl) dX10_byteAt_22
set_option maxRecDepth 100000 in
set_option maxHeartbeats 4000000 in
theorem K10_isLetterAt {k : KT} {T : TT} {R : RR} {ly : Fin 2 → LL} {rc : RC} {hn : HN} {rp : RP} {tp : TP} {ee : EE} {st : Fin 12 → SS} {w : Nat → Int64} {aside : Nat → Int64} {thought : Nat → Int64} {fresh : Nat → Int64} {mu : MU} {th : Int32} {mp : MP} {mf : MF} {mh : MH} {mg : MG} {ou : Nat → Int64} {od : Nat → UInt64}  {x1 : Int32} {r : Int32} (hf : f10_isLetterAt mp  x1 = some r) : CT k strs yX10_isLetterAt cX10_isLetterAt 2 (some .boolean) (rmD 1 0 0) 0 0 [.ref (k.b + (189)), .int x1] (wAll k T R ly rc hn rp tp ee st w aside thought fresh mu th mp mf mh mg ou od) (some (.int r)) (wAll k T R ly rc hn rp tp ee st w aside thought fresh mu th mp mf mh mg ou od) := by
  refine CT.of (by decide) (Nat.le_of_ble_eq_true rfl) ?_
  intro z X hQ
  show VW k z 0 0 (wAll k T R ly rc hn rp tp ee st w aside thought fresh mu th mp mf mh mg ou od) 0 [some (.ref (k.b + (189))), some (.int x1)] []
  unfold f10_isLetterAt at hf
  refine r_aload_n X (x := k.b + (189)) dX10_isLetterAt_0 rfl ?_
  refine r_iload_n X (x := x1) dX10_isLetterAt_1 rfl ?_
  obtain ⟨u2, h2, hf⟩ := bdS hf
  refine r_callV0 X [.int x1] [] (K10_byteAt h2) lkX10_232 clsX10 rfl _ o_model (by decide) (Nat.le_of_ble_eq_true rfl) rfl rfl (Nat.le_of_ble_eq_true rfl) rfl rfl (Nat.zero_le _) (Nat.zero_le _) dX10_isLetterAt_2 ?_
  refine r_i2l X dX10_isLetterAt_5 ?_
  refine r_ldc2 X (v := 97) coX10_235 dX10_isLetterAt_6 ?_
  refine r_ldc2 X (v := 122) coX10_237 dX10_isLetterAt_9 ?_
  obtain ⟨u12, h12, hf⟩ := bdS hf
  refine r_callS0 X [.long u2.toInt64, .long 97, .long 122] [] (K10_in h12) lkX10_39 (by decide) (Nat.le_of_ble_eq_true rfl) rfl rfl (Nat.le_of_ble_eq_true rfl) rfl rfl (Nat.zero_le _) (Nat.zero_le _) dX10_isLetterAt_12 ?_
  obtain ⟨g15b, hf⟩ := gdS hf
  obtain rfl := Option.some.inj hf
  exact r_zreturn X hQ rfl rfl (Nat.le_of_ble_eq_true rfl) (Nat.le_of_ble_eq_true rfl) (nb_of g15b) dX10_isLetterAt_15
set_option maxRecDepth 100000 in
set_option maxHeartbeats 4000000 in
theorem K10_isDigitAt {k : KT} {T : TT} {R : RR} {ly : Fin 2 → LL} {rc : RC} {hn : HN} {rp : RP} {tp : TP} {ee : EE} {st : Fin 12 → SS} {w : Nat → Int64} {aside : Nat → Int64} {thought : Nat → Int64} {fresh : Nat → Int64} {mu : MU} {th : Int32} {mp : MP} {mf : MF} {mh : MH} {mg : MG} {ou : Nat → Int64} {od : Nat → UInt64}  {x1 : Int32} {r : Int32} (hf : f10_isDigitAt mp  x1 = some r) : CT k strs yX10_isDigitAt cX10_isDigitAt 2 (some .boolean) (rmD 1 0 0) 0 0 [.ref (k.b + (189)), .int x1] (wAll k T R ly rc hn rp tp ee st w aside thought fresh mu th mp mf mh mg ou od) (some (.int r)) (wAll k T R ly rc hn rp tp ee st w aside thought fresh mu th mp mf mh mg ou od) := by
  refine CT.of (by decide) (Nat.le_of_ble_eq_true rfl) ?_
  intro z X hQ
  show VW k z 0 0 (wAll k T R ly rc hn rp tp ee st w aside thought fresh mu th mp mf mh mg ou od) 0 [some (.ref (k.b + (189))), some (.int x1)] []
  unfold f10_isDigitAt at hf
  refine r_aload_n X (x := k.b + (189)) dX10_isDigitAt_0 rfl ?_
  refine r_iload_n X (x := x1) dX10_isDigitAt_1 rfl ?_
  obtain ⟨u2, h2, hf⟩ := bdS hf
  refine r_callV0 X [.int x1] [] (K10_byteAt h2) lkX10_232 clsX10 rfl _ o_model (by decide) (Nat.le_of_ble_eq_true rfl) rfl rfl (Nat.le_of_ble_eq_true rfl) rfl rfl (Nat.zero_le _) (Nat.zero_le _) dX10_isDigitAt_2 ?_
  refine r_i2l X dX10_isDigitAt_5 ?_
  refine r_ldc2 X (v := 48) coX10_239 dX10_isDigitAt_6 ?_
  refine r_ldc2 X (v := 57) coX10_241 dX10_isDigitAt_9 ?_
  obtain ⟨u12, h12, hf⟩ := bdS hf
  refine r_callS0 X [.long u2.toInt64, .long 48, .long 57] [] (K10_in h12) lkX10_39 (by decide) (Nat.le_of_ble_eq_true rfl) rfl rfl (Nat.le_of_ble_eq_true rfl) rfl rfl (Nat.zero_le _) (Nat.zero_le _) dX10_isDigitAt_12 ?_
  obtain ⟨g15b, hf⟩ := gdS hf
  obtain rfl := Option.some.inj hf
  exact r_zreturn X hQ rfl rfl (Nat.le_of_ble_eq_true rfl) (Nat.le_of_ble_eq_true rfl) (nb_of g15b) dX10_isDigitAt_15
set_option maxRecDepth 100000 in
set_option maxHeartbeats 4000000 in
theorem B10_next_B101 {k : KT} {z : ZT} {T : TT} {R : RR} {ly : Fin 2 → LL} {rc : RC} {hn : HN} {rp : RP} {tp : TP} {ee : EE} {st : Fin 12 → SS} {w : Nat → Int64} {aside : Nat → Int64} {thought : Nat → Int64} {fresh : Nat → Int64} {mu : MU} {th : Int32} {mf : MF} {mh : MH} {mg : MG} {ou : Nat → Int64} {od : Nat → UInt64} {r : (MP)} (X : XX k strs z RX10 cX10_next 1 none (rmD 2 0 0)) (hQ : zQ z = MQ (zB z) (Qof k (none) (wAll k T R ly rc hn rp tp ee st w aside thought fresh mu th r mf mh mg ou od)) (zA z) (zS z) 0 0 (kA k)) : ∀ (fu : Nat) (mp : MP), f10_next_B101  fu mp = some r → VW k z 0 0 (wAll k T R ly rc hn rp tp ee st w aside thought fresh mu th mp mf mh mg ou od) 101 [some (.ref (k.b + (189)))] [] := by
  intro fu
  induction fu with
  | zero =>
    intro mp hf
    rw [f10_next_B101] at hf
    cases hf
  | succ fu ih =>
    intro mp hf
    rw [f10_next_B101] at hf
    refine r_aload_n X (x := k.b + (189)) dX10_next_101 rfl ?_
    refine r_aload_n X (x := k.b + (189)) dX10_next_102 rfl ?_
    refine r_getfield X (v := .int (MP_to mp)) clsX10 flX10_243 (Nat.le_of_ble_eq_true rfl) _ o_model rfl dX10_next_103 ?_
    obtain ⟨u106, h106, hf⟩ := bdS hf
    refine r_callV0 X [.int (MP_to mp)] [] (K10_isDigitAt h106) lkX10_252 clsX10 rfl _ o_model (by decide) (Nat.le_of_ble_eq_true rfl) rfl rfl (Nat.le_of_ble_eq_true rfl) rfl rfl (Nat.zero_le _) (Nat.zero_le _) dX10_next_106 ?_
    refine r_if_eq X 146 dX10_next_109 rfl (fun c109 => ?_) (fun c109 => ?_)
    · replace hf := ifT hf c109
      obtain rfl := Option.some.inj hf
      exact r_return X hQ rfl rfl (Nat.le_of_ble_eq_true rfl) (Nat.le_of_ble_eq_true rfl) dX10_next_146
    · replace hf := ifF hf c109
      refine r_aload_n X (x := k.b + (189)) dX10_next_112 rfl ?_
      refine r_dup X dX10_next_113 rfl ?_
      refine r_getfield X (v := .int (MP_to mp)) clsX10 flX10_243 (Nat.le_of_ble_eq_true rfl) _ o_model rfl dX10_next_114 ?_
      refine r_iconst X (v := 1) dX10_next_117 rfl ?_
      refine r_iadd X dX10_next_118 ?_
      refine r_putfield X (ws1 := wAll k T R ly rc hn rp tp ee st w aside thought fresh mu th (MP_set_to mp ((MP_to mp) + 1)) mf mh mg ou od) clsX10 flX10_243 (Nat.le_of_ble_eq_true rfl) rfl rfl rfl _ o_model (Nat.le_of_ble_eq_true rfl) (s_mp_to ((MP_to mp) + 1)) dX10_next_119 ?_
      refine r_goto X 101 dX10_next_122 rfl ?_
      exact ih (MP_set_to mp ((MP_to mp) + 1)) hf
set_option maxRecDepth 100000 in
set_option maxHeartbeats 4000000 in
theorem B10_next_B66 {k : KT} {z : ZT} {T : TT} {R : RR} {ly : Fin 2 → LL} {rc : RC} {hn : HN} {rp : RP} {tp : TP} {ee : EE} {st : Fin 12 → SS} {w : Nat → Int64} {aside : Nat → Int64} {thought : Nat → Int64} {fresh : Nat → Int64} {mu : MU} {th : Int32} {mf : MF} {mh : MH} {mg : MG} {ou : Nat → Int64} {od : Nat → UInt64} {r : (MP)} (X : XX k strs z RX10 cX10_next 1 none (rmD 2 0 0)) (hQ : zQ z = MQ (zB z) (Qof k (none) (wAll k T R ly rc hn rp tp ee st w aside thought fresh mu th r mf mh mg ou od)) (zA z) (zS z) 0 0 (kA k)) : ∀ (fu : Nat) (mp : MP), f10_next_B66  fu mp = some r → VW k z 0 0 (wAll k T R ly rc hn rp tp ee st w aside thought fresh mu th mp mf mh mg ou od) 66 [some (.ref (k.b + (189)))] [] := by
  intro fu
  induction fu with
  | zero =>
    intro mp hf
    rw [f10_next_B66] at hf
    cases hf
  | succ fu ih =>
    intro mp hf
    rw [f10_next_B66] at hf
    refine r_aload_n X (x := k.b + (189)) dX10_next_66 rfl ?_
    refine r_aload_n X (x := k.b + (189)) dX10_next_67 rfl ?_
    refine r_getfield X (v := .int (MP_to mp)) clsX10 flX10_243 (Nat.le_of_ble_eq_true rfl) _ o_model rfl dX10_next_68 ?_
    obtain ⟨u71, h71, hf⟩ := bdS hf
    refine r_callV0 X [.int (MP_to mp)] [] (K10_isLetterAt h71) lkX10_249 clsX10 rfl _ o_model (by decide) (Nat.le_of_ble_eq_true rfl) rfl rfl (Nat.le_of_ble_eq_true rfl) rfl rfl (Nat.zero_le _) (Nat.zero_le _) dX10_next_71 ?_
    refine r_if_eq X 146 dX10_next_74 rfl (fun c74 => ?_) (fun c74 => ?_)
    · replace hf := ifT hf c74
      obtain rfl := Option.some.inj hf
      exact r_return X hQ rfl rfl (Nat.le_of_ble_eq_true rfl) (Nat.le_of_ble_eq_true rfl) dX10_next_146
    · replace hf := ifF hf c74
      refine r_aload_n X (x := k.b + (189)) dX10_next_77 rfl ?_
      refine r_dup X dX10_next_78 rfl ?_
      refine r_getfield X (v := .int (MP_to mp)) clsX10 flX10_243 (Nat.le_of_ble_eq_true rfl) _ o_model rfl dX10_next_79 ?_
      refine r_iconst X (v := 1) dX10_next_82 rfl ?_
      refine r_iadd X dX10_next_83 ?_
      refine r_putfield X (ws1 := wAll k T R ly rc hn rp tp ee st w aside thought fresh mu th (MP_set_to mp ((MP_to mp) + 1)) mf mh mg ou od) clsX10 flX10_243 (Nat.le_of_ble_eq_true rfl) rfl rfl rfl _ o_model (Nat.le_of_ble_eq_true rfl) (s_mp_to ((MP_to mp) + 1)) dX10_next_84 ?_
      refine r_goto X 66 dX10_next_87 rfl ?_
      exact ih (MP_set_to mp ((MP_to mp) + 1)) hf
set_option maxRecDepth 100000 in
set_option maxHeartbeats 4000000 in
theorem B10_next_B8 {k : KT} {z : ZT} {T : TT} {R : RR} {ly : Fin 2 → LL} {rc : RC} {hn : HN} {rp : RP} {tp : TP} {ee : EE} {st : Fin 12 → SS} {w : Nat → Int64} {aside : Nat → Int64} {thought : Nat → Int64} {fresh : Nat → Int64} {mu : MU} {th : Int32} {mf : MF} {mh : MH} {mg : MG} {ou : Nat → Int64} {od : Nat → UInt64} {r : (MP)} (X : XX k strs z RX10 cX10_next 1 none (rmD 2 0 0)) (hQ : zQ z = MQ (zB z) (Qof k (none) (wAll k T R ly rc hn rp tp ee st w aside thought fresh mu th r mf mh mg ou od)) (zA z) (zS z) 0 0 (kA k)) : ∀ (fu : Nat) (mp : MP), f10_next_B8  fu mp = some r → VW k z 0 0 (wAll k T R ly rc hn rp tp ee st w aside thought fresh mu th mp mf mh mg ou od) 8 [some (.ref (k.b + (189)))] [] := by
  intro fu
  induction fu with
  | zero =>
    intro mp hf
    rw [f10_next_B8] at hf
    cases hf
  | succ fu ih =>
    intro mp hf
    rw [f10_next_B8] at hf
    refine r_aload_n X (x := k.b + (189)) dX10_next_8 rfl ?_
    refine r_aload_n X (x := k.b + (189)) dX10_next_9 rfl ?_
    refine r_getfield X (v := .int (MP_from mp)) clsX10 flX10_246 (Nat.le_of_ble_eq_true rfl) _ o_model rfl dX10_next_10 ?_
    obtain ⟨u13, h13, hf⟩ := bdS hf
    refine r_callV0 X [.int (MP_from mp)] [] (K10_byteAt h13) lkX10_232 clsX10 rfl _ o_model (by decide) (Nat.le_of_ble_eq_true rfl) rfl rfl (Nat.le_of_ble_eq_true rfl) rfl rfl (Nat.zero_le _) (Nat.zero_le _) dX10_next_13 ?_
    refine r_bipush X (v := 32) dX10_next_16 rfl ?_
    refine r_icmp_eq X 34 dX10_next_18 rfl (fun c18 => ?_) (fun c18 => ?_)
    · replace hf := ifT hf c18
      refine r_aload_n X (x := k.b + (189)) dX10_next_34 rfl ?_
      refine r_dup X dX10_next_35 rfl ?_
      refine r_getfield X (v := .int (MP_from mp)) clsX10 flX10_246 (Nat.le_of_ble_eq_true rfl) _ o_model rfl dX10_next_36 ?_
      refine r_iconst X (v := 1) dX10_next_39 rfl ?_
      refine r_iadd X dX10_next_40 ?_
      refine r_putfield X (ws1 := wAll k T R ly rc hn rp tp ee st w aside thought fresh mu th (MP_set_from mp ((MP_from mp) + 1)) mf mh mg ou od) clsX10 flX10_246 (Nat.le_of_ble_eq_true rfl) rfl rfl rfl _ o_model (Nat.le_of_ble_eq_true rfl) (s_mp_from ((MP_from mp) + 1)) dX10_next_41 ?_
      refine r_goto X 8 dX10_next_44 rfl ?_
      exact ih (MP_set_from mp ((MP_from mp) + 1)) hf
    · replace hf := ifF hf c18
      refine r_aload_n X (x := k.b + (189)) dX10_next_21 rfl ?_
      refine r_aload_n X (x := k.b + (189)) dX10_next_22 rfl ?_
      refine r_getfield X (v := .int (MP_from mp)) clsX10 flX10_246 (Nat.le_of_ble_eq_true rfl) _ o_model rfl dX10_next_23 ?_
      obtain ⟨u26, h26, hf⟩ := bdS hf
      refine r_callV0 X [.int (MP_from mp)] [] (K10_byteAt h26) lkX10_232 clsX10 rfl _ o_model (by decide) (Nat.le_of_ble_eq_true rfl) rfl rfl (Nat.le_of_ble_eq_true rfl) rfl rfl (Nat.zero_le _) (Nat.zero_le _) dX10_next_26 ?_
      refine r_bipush X (v := 10) dX10_next_29 rfl ?_
      refine r_icmp_ne X 47 dX10_next_31 rfl (fun c31 => ?_) (fun c31 => ?_)
      · replace hf := ifF hf c31
        refine r_aload_n X (x := k.b + (189)) dX10_next_47 rfl ?_
        refine r_aload_n X (x := k.b + (189)) dX10_next_48 rfl ?_
        refine r_getfield X (v := .int (MP_from mp)) clsX10 flX10_246 (Nat.le_of_ble_eq_true rfl) _ o_model rfl dX10_next_49 ?_
        refine r_putfield X (ws1 := wAll k T R ly rc hn rp tp ee st w aside thought fresh mu th (MP_set_to mp (MP_from mp)) mf mh mg ou od) clsX10 flX10_243 (Nat.le_of_ble_eq_true rfl) rfl rfl rfl _ o_model (Nat.le_of_ble_eq_true rfl) (s_mp_to (MP_from mp)) dX10_next_52 ?_
        refine r_aload_n X (x := k.b + (189)) dX10_next_55 rfl ?_
        refine r_aload_n X (x := k.b + (189)) dX10_next_56 rfl ?_
        refine r_getfield X (v := .int (MP_from mp)) clsX10 flX10_243 (Nat.le_of_ble_eq_true rfl) _ o_model (hvI rfl (MP_to_set_to _ _)) dX10_next_57 ?_
        obtain ⟨u60, h60, hf⟩ := bdS hf
        refine r_callV0 X [.int (MP_from mp)] [] (K10_isLetterAt h60) lkX10_249 clsX10 rfl _ o_model (by decide) (Nat.le_of_ble_eq_true rfl) rfl rfl (Nat.le_of_ble_eq_true rfl) rfl rfl (Nat.zero_le _) (Nat.zero_le _) dX10_next_60 ?_
        refine r_if_eq X 90 dX10_next_63 rfl (fun c63 => ?_) (fun c63 => ?_)
        · replace hf := ifT hf c63
          refine r_aload_n X (x := k.b + (189)) dX10_next_90 rfl ?_
          refine r_aload_n X (x := k.b + (189)) dX10_next_91 rfl ?_
          refine r_getfield X (v := .int (MP_from mp)) clsX10 flX10_243 (Nat.le_of_ble_eq_true rfl) _ o_model (hvI rfl (MP_to_set_to _ _)) dX10_next_92 ?_
          obtain ⟨u95, h95, hf⟩ := bdS hf
          refine r_callV0 X [.int (MP_from mp)] [] (K10_isDigitAt h95) lkX10_252 clsX10 rfl _ o_model (by decide) (Nat.le_of_ble_eq_true rfl) rfl rfl (Nat.le_of_ble_eq_true rfl) rfl rfl (Nat.zero_le _) (Nat.zero_le _) dX10_next_95 ?_
          refine r_if_eq X 125 dX10_next_98 rfl (fun c98 => ?_) (fun c98 => ?_)
          · replace hf := ifT hf c98
            refine r_aload_n X (x := k.b + (189)) dX10_next_125 rfl ?_
            refine r_getfield X (v := .int (MP_from mp)) clsX10 flX10_243 (Nat.le_of_ble_eq_true rfl) _ o_model (hvI rfl (MP_to_set_to _ _)) dX10_next_126 ?_
            refine r_aload_n X (x := k.b + (189)) dX10_next_129 rfl ?_
            refine r_getfield X (v := .int (MP_end_ mp)) clsX10 flX10_229 (Nat.le_of_ble_eq_true rfl) _ o_model (hvI rfl (MP_end__set_to _ _)) dX10_next_130 ?_
            refine r_icmp_ge X 146 dX10_next_133 rfl (fun c133 => ?_) (fun c133 => ?_)
            · replace hf := ifT hf c133
              obtain rfl := Option.some.inj hf
              exact r_return X hQ rfl rfl (Nat.le_of_ble_eq_true rfl) (Nat.le_of_ble_eq_true rfl) dX10_next_146
            · replace hf := ifF hf c133
              refine r_aload_n X (x := k.b + (189)) dX10_next_136 rfl ?_
              refine r_dup X dX10_next_137 rfl ?_
              refine r_getfield X (v := .int (MP_from mp)) clsX10 flX10_243 (Nat.le_of_ble_eq_true rfl) _ o_model (hvI rfl (MP_to_set_to _ _)) dX10_next_138 ?_
              refine r_iconst X (v := 1) dX10_next_141 rfl ?_
              refine r_iadd X dX10_next_142 ?_
              refine r_putfield X (ws1 := wAll k T R ly rc hn rp tp ee st w aside thought fresh mu th (MP_set_to (MP_set_to mp (MP_from mp)) ((MP_from mp) + 1)) mf mh mg ou od) clsX10 flX10_243 (Nat.le_of_ble_eq_true rfl) rfl rfl rfl _ o_model (Nat.le_of_ble_eq_true rfl) (s_mp_to ((MP_from mp) + 1)) dX10_next_143 ?_
              obtain rfl := Option.some.inj hf
              exact r_return X hQ rfl rfl (Nat.le_of_ble_eq_true rfl) (Nat.le_of_ble_eq_true rfl) dX10_next_146
          · replace hf := ifF hf c98
            exact B10_next_B101 X hQ FU (MP_set_to mp (MP_from mp)) hf
        · replace hf := ifF hf c63
          exact B10_next_B66 X hQ FU (MP_set_to mp (MP_from mp)) hf
      · replace hf := ifT hf c31
        refine r_aload_n X (x := k.b + (189)) dX10_next_34 rfl ?_
        refine r_dup X dX10_next_35 rfl ?_
        refine r_getfield X (v := .int (MP_from mp)) clsX10 flX10_246 (Nat.le_of_ble_eq_true rfl) _ o_model rfl dX10_next_36 ?_
        refine r_iconst X (v := 1) dX10_next_39 rfl ?_
        refine r_iadd X dX10_next_40 ?_
        refine r_putfield X (ws1 := wAll k T R ly rc hn rp tp ee st w aside thought fresh mu th (MP_set_from mp ((MP_from mp) + 1)) mf mh mg ou od) clsX10 flX10_246 (Nat.le_of_ble_eq_true rfl) rfl rfl rfl _ o_model (Nat.le_of_ble_eq_true rfl) (s_mp_from ((MP_from mp) + 1)) dX10_next_41 ?_
        refine r_goto X 8 dX10_next_44 rfl ?_
        exact ih (MP_set_from mp ((MP_from mp) + 1)) hf
set_option maxRecDepth 100000 in
set_option maxHeartbeats 4000000 in
theorem K10_next {k : KT} {T : TT} {R : RR} {ly : Fin 2 → LL} {rc : RC} {hn : HN} {rp : RP} {tp : TP} {ee : EE} {st : Fin 12 → SS} {w : Nat → Int64} {aside : Nat → Int64} {thought : Nat → Int64} {fresh : Nat → Int64} {mu : MU} {th : Int32} {mp : MP} {mf : MF} {mh : MH} {mg : MG} {ou : Nat → Int64} {od : Nat → UInt64}   {r : (MP)} (hf : f10_next  mp  = some r) : CT k strs yX10_next cX10_next 1 none (rmD 2 0 0) 0 0 [.ref (k.b + (189))] (wAll k T R ly rc hn rp tp ee st w aside thought fresh mu th mp mf mh mg ou od) (none) (wAll k T R ly rc hn rp tp ee st w aside thought fresh mu th r mf mh mg ou od) := by
  refine CT.of (by decide) (Nat.le_of_ble_eq_true rfl) ?_
  intro z X hQ
  show VW k z 0 0 (wAll k T R ly rc hn rp tp ee st w aside thought fresh mu th mp mf mh mg ou od) 0 [some (.ref (k.b + (189)))] []
  unfold f10_next at hf
  refine r_aload_n X (x := k.b + (189)) dX10_next_0 rfl ?_
  refine r_aload_n X (x := k.b + (189)) dX10_next_1 rfl ?_
  refine r_getfield X (v := .int (MP_to mp)) clsX10 flX10_243 (Nat.le_of_ble_eq_true rfl) _ o_model rfl dX10_next_2 ?_
  refine r_putfield X (ws1 := wAll k T R ly rc hn rp tp ee st w aside thought fresh mu th (MP_set_from mp (MP_to mp)) mf mh mg ou od) clsX10 flX10_246 (Nat.le_of_ble_eq_true rfl) rfl rfl rfl _ o_model (Nat.le_of_ble_eq_true rfl) (s_mp_from (MP_to mp)) dX10_next_5 ?_
  exact B10_next_B8 X hQ FU (MP_set_from mp (MP_to mp)) hf
set_option maxRecDepth 100000 in
set_option maxHeartbeats 4000000 in
theorem K10_wrong {k : KT} {T : TT} {R : RR} {ly : Fin 2 → LL} {rc : RC} {hn : HN} {rp : RP} {tp : TP} {ee : EE} {st : Fin 12 → SS} {w : Nat → Int64} {aside : Nat → Int64} {thought : Nat → Int64} {fresh : Nat → Int64} {mu : MU} {th : Int32} {mp : MP} {mf : MF} {mh : MH} {mg : MG} {ou : Nat → Int64} {od : Nat → UInt64}  {x1 : Int32} {r : (MP)} (hf : f10_wrong  mp x1 = some r) : CT k strs yX10_wrong cX10_wrong 2 none (rmD 0 0 0) 0 0 [.ref (k.b + (189)), .int x1] (wAll k T R ly rc hn rp tp ee st w aside thought fresh mu th mp mf mh mg ou od) (none) (wAll k T R ly rc hn rp tp ee st w aside thought fresh mu th r mf mh mg ou od) := by
  refine CT.of (by decide) (Nat.le_of_ble_eq_true rfl) ?_
  intro z X hQ
  show VW k z 0 0 (wAll k T R ly rc hn rp tp ee st w aside thought fresh mu th mp mf mh mg ou od) 0 [some (.ref (k.b + (189))), some (.int x1)] []
  unfold f10_wrong at hf
  refine r_aload_n X (x := k.b + (189)) dX10_wrong_0 rfl ?_
  refine r_getfield X (v := .int (MP_fault mp)) clsX10 flX10_255 (Nat.le_of_ble_eq_true rfl) _ o_model rfl dX10_wrong_1 ?_
  refine r_if_le X 8 dX10_wrong_4 rfl (fun c4 => ?_) (fun c4 => ?_)
  · replace hf := ifT hf c4
    refine r_aload_n X (x := k.b + (189)) dX10_wrong_8 rfl ?_
    refine r_iload_n X (x := x1) dX10_wrong_9 rfl ?_
    refine r_putfield X (ws1 := wAll k T R ly rc hn rp tp ee st w aside thought fresh mu th (MP_set_fault mp x1) mf mh mg ou od) clsX10 flX10_255 (Nat.le_of_ble_eq_true rfl) rfl rfl rfl _ o_model (Nat.le_of_ble_eq_true rfl) (s_mp_fault x1) dX10_wrong_10 ?_
    refine r_aload_n X (x := k.b + (189)) dX10_wrong_13 rfl ?_
    refine r_aload_n X (x := k.b + (189)) dX10_wrong_14 rfl ?_
    refine r_getfield X (v := .int (MP_from mp)) clsX10 flX10_246 (Nat.le_of_ble_eq_true rfl) _ o_model (hvI rfl (MP_from_set_fault _ _)) dX10_wrong_15 ?_
    refine r_putfield X (ws1 := wAll k T R ly rc hn rp tp ee st w aside thought fresh mu th (MP_set_faultAt (MP_set_fault mp x1) (MP_from mp)) mf mh mg ou od) clsX10 flX10_29 (Nat.le_of_ble_eq_true rfl) rfl rfl rfl _ o_model (Nat.le_of_ble_eq_true rfl) (s_mp_faultAt (MP_from mp)) dX10_wrong_18 ?_
    obtain rfl := Option.some.inj hf
    exact r_return X hQ rfl rfl (Nat.le_of_ble_eq_true rfl) (Nat.le_of_ble_eq_true rfl) dX10_wrong_21
  · replace hf := ifF hf c4
    obtain rfl := Option.some.inj hf
    exact r_return X hQ rfl rfl (Nat.le_of_ble_eq_true rfl) (Nat.le_of_ble_eq_true rfl) dX10_wrong_7
set_option maxRecDepth 100000 in
set_option maxHeartbeats 4000000 in
theorem B10_isWord_B24 {k : KT} {z : ZT} {T : TT} {R : RR} {ly : Fin 2 → LL} {rc : RC} {hn : HN} {rp : RP} {tp : TP} {ee : EE} {st : Fin 12 → SS} {w : Nat → Int64} {aside : Nat → Int64} {thought : Nat → Int64} {fresh : Nat → Int64} {mu : MU} {th : Int32} {mp : MP} {mf : MF} {mh : MH} {mg : MG} {ou : Nat → Int64} {od : Nat → UInt64} {r : Int32} (X : XX k strs z RX10 cX10_isWord 4 (some .boolean) (rmD 9 0 0)) (hQ : zQ z = MQ (zB z) (Qof k (some (.int r)) (wAll k T R ly rc hn rp tp ee st w aside thought fresh mu th mp mf mh mg ou od)) (zA z) (zS z) 0 0 (kA k)) : ∀ (fu : Nat) (s1 : Nat) (x2 : Int32) (x3 : Int32), f10_isWord_B24 mp fu s1 x2 x3 = some r → VW k z 0 0 (wAll k T R ly rc hn rp tp ee st w aside thought fresh mu th mp mf mh mg ou od) 24 [some (.ref (k.b + (189))), some (.ref (k.sK s1)), some (.int x2), some (.int x3)] [] := by
  intro fu
  induction fu with
  | zero =>
    intro s1 x2 x3 hf
    rw [f10_isWord_B24] at hf
    cases hf
  | succ fu ih =>
    intro s1 x2 x3 hf
    rw [f10_isWord_B24] at hf
    refine r_iload_n X (x := x3) dX10_isWord_24 rfl ?_
    refine r_aload_n X (x := k.sK s1) dX10_isWord_25 rfl ?_
    obtain ⟨g26s, hf⟩ := gdS hf
    refine r_strlen X (i := s1) (of_decide_eq_true g26s) lkX10_258 (Nat.le_of_ble_eq_true rfl) (Nat.le_of_ble_eq_true rfl) rfl (Nat.zero_le _) (Nat.zero_le _) dX10_isWord_26 ?_
    refine r_icmp_ge X 66 dX10_isWord_29 rfl (fun c29 => ?_) (fun c29 => ?_)
    · replace hf := ifT hf c29
      refine r_iload_n X (x := x2) dX10_isWord_66 rfl ?_
      obtain ⟨g67b, hf⟩ := gdS hf
      obtain rfl := Option.some.inj hf
      exact r_zreturn X hQ rfl rfl (Nat.le_of_ble_eq_true rfl) (Nat.le_of_ble_eq_true rfl) (nb_of g67b) dX10_isWord_67
    · replace hf := ifF hf c29
      refine r_iload_n X (x := x2) dX10_isWord_32 rfl ?_
      refine r_if_eq X 66 dX10_isWord_33 rfl (fun c33 => ?_) (fun c33 => ?_)
      · replace hf := ifT hf c33
        refine r_iload_n X (x := x2) dX10_isWord_66 rfl ?_
        obtain ⟨g67b, hf⟩ := gdS hf
        obtain rfl := Option.some.inj hf
        exact r_zreturn X hQ rfl rfl (Nat.le_of_ble_eq_true rfl) (Nat.le_of_ble_eq_true rfl) (nb_of g67b) dX10_isWord_67
      · replace hf := ifF hf c33
        refine r_aload_n X (x := k.b + (189)) dX10_isWord_36 rfl ?_
        refine r_aload_n X (x := k.b + (189)) dX10_isWord_37 rfl ?_
        refine r_getfield X (v := .int (MP_from mp)) clsX10 flX10_246 (Nat.le_of_ble_eq_true rfl) _ o_model rfl dX10_isWord_38 ?_
        refine r_iload_n X (x := x3) dX10_isWord_41 rfl ?_
        refine r_iadd X dX10_isWord_42 ?_
        obtain ⟨u43, h43, hf⟩ := bdS hf
        refine r_callV0 X [.int ((MP_from mp) + x3)] [] (K10_byteAt h43) lkX10_232 clsX10 rfl _ o_model (by decide) (Nat.le_of_ble_eq_true rfl) rfl rfl (Nat.le_of_ble_eq_true rfl) rfl rfl (Nat.zero_le _) (Nat.zero_le _) dX10_isWord_43 ?_
        refine r_aload_n X (x := k.sK s1) dX10_isWord_46 rfl ?_
        refine r_iload_n X (x := x3) dX10_isWord_47 rfl ?_
        obtain ⟨g48c, hf⟩ := gdS hf
        refine r_strch X (i := s1) (of_decide_eq_true g26s) lkX10_262 g48c (Nat.le_of_ble_eq_true rfl) (Nat.le_of_ble_eq_true rfl) rfl (Nat.zero_le _) (Nat.zero_le _) dX10_isWord_48 ?_
        suffices K51 : VW k z 0 0 (wAll k T R ly rc hn rp tp ee st w aside thought fresh mu th mp mf mh mg ou od) 59 [some (.ref (k.b + (189))), some (.ref (k.sK s1)), some (.int x2), some (.int x3)] [.int (if u43 = (sCh s1 (ix x3)) then (1 : Int32) else (0 : Int32))] by
          refine r_icmp_ne X 58 dX10_isWord_51 rfl (fun c51 => ?_) (fun c51 => ?_)
          · refine r_iconst X (v := 0) dX10_isWord_58 rfl ?_
            rw [if_neg c51] at K51
            exact K51
          · refine r_iconst X (v := 1) dX10_isWord_54 rfl ?_
            refine r_goto X 59 dX10_isWord_55 rfl ?_
            rw [if_pos c51] at K51
            exact K51
        refine r_istore_n X [some (.ref (k.b + (189))), some (.ref (k.sK s1)), some (.int (if u43 = (sCh s1 (ix x3)) then (1 : Int32) else (0 : Int32))), some (.int x3)] dX10_isWord_59 (Nat.le_of_ble_eq_true rfl) rfl ?_
        refine r_iinc X (x := x3) (v := x3 + 1) [some (.ref (k.b + (189))), some (.ref (k.sK s1)), some (.int (if u43 = (sCh s1 (ix x3)) then (1 : Int32) else (0 : Int32))), some (.int (x3 + 1))] dX10_isWord_60 rfl rfl rfl ?_
        refine r_goto X 24 dX10_isWord_63 rfl ?_
        exact ih s1 (if u43 = (sCh s1 (ix x3)) then (1 : Int32) else (0 : Int32)) (x3 + 1) hf
set_option maxRecDepth 100000 in
set_option maxHeartbeats 4000000 in
theorem K10_isWord {k : KT} {T : TT} {R : RR} {ly : Fin 2 → LL} {rc : RC} {hn : HN} {rp : RP} {tp : TP} {ee : EE} {st : Fin 12 → SS} {w : Nat → Int64} {aside : Nat → Int64} {thought : Nat → Int64} {fresh : Nat → Int64} {mu : MU} {th : Int32} {mp : MP} {mf : MF} {mh : MH} {mg : MG} {ou : Nat → Int64} {od : Nat → UInt64}  {s1 : Nat} {r : Int32} (hf : f10_isWord mp  s1 = some r) : CT k strs yX10_isWord cX10_isWord 4 (some .boolean) (rmD 9 0 0) 0 0 [.ref (k.b + (189)), .ref (k.sK s1)] (wAll k T R ly rc hn rp tp ee st w aside thought fresh mu th mp mf mh mg ou od) (some (.int r)) (wAll k T R ly rc hn rp tp ee st w aside thought fresh mu th mp mf mh mg ou od) := by
  refine CT.of (by decide) (Nat.le_of_ble_eq_true rfl) ?_
  intro z X hQ
  show VW k z 0 0 (wAll k T R ly rc hn rp tp ee st w aside thought fresh mu th mp mf mh mg ou od) 0 [some (.ref (k.b + (189))), some (.ref (k.sK s1)), none, none] []
  unfold f10_isWord at hf
  refine r_aload_n X (x := k.b + (189)) dX10_isWord_0 rfl ?_
  refine r_getfield X (v := .int (MP_to mp)) clsX10 flX10_243 (Nat.le_of_ble_eq_true rfl) _ o_model rfl dX10_isWord_1 ?_
  refine r_aload_n X (x := k.b + (189)) dX10_isWord_4 rfl ?_
  refine r_getfield X (v := .int (MP_from mp)) clsX10 flX10_246 (Nat.le_of_ble_eq_true rfl) _ o_model rfl dX10_isWord_5 ?_
  refine r_isub X dX10_isWord_8 ?_
  refine r_aload_n X (x := k.sK s1) dX10_isWord_9 rfl ?_
  obtain ⟨g10s, hf⟩ := gdS hf
  refine r_strlen X (i := s1) (of_decide_eq_true g10s) lkX10_258 (Nat.le_of_ble_eq_true rfl) (Nat.le_of_ble_eq_true rfl) rfl (Nat.zero_le _) (Nat.zero_le _) dX10_isWord_10 ?_
  suffices K13 : VW k z 0 0 (wAll k T R ly rc hn rp tp ee st w aside thought fresh mu th mp mf mh mg ou od) 21 [some (.ref (k.b + (189))), some (.ref (k.sK s1)), none, none] [.int (if ((MP_to mp) - (MP_from mp)) = (sLen s1) then (1 : Int32) else (0 : Int32))] by
    refine r_icmp_ne X 20 dX10_isWord_13 rfl (fun c13 => ?_) (fun c13 => ?_)
    · refine r_iconst X (v := 0) dX10_isWord_20 rfl ?_
      rw [if_neg c13] at K13
      exact K13
    · refine r_iconst X (v := 1) dX10_isWord_16 rfl ?_
      refine r_goto X 21 dX10_isWord_17 rfl ?_
      rw [if_pos c13] at K13
      exact K13
  refine r_istore_n X [some (.ref (k.b + (189))), some (.ref (k.sK s1)), some (.int (if ((MP_to mp) - (MP_from mp)) = (sLen s1) then (1 : Int32) else (0 : Int32))), none] dX10_isWord_21 (Nat.le_of_ble_eq_true rfl) rfl ?_
  refine r_iconst X (v := 0) dX10_isWord_22 rfl ?_
  refine r_istore_n X [some (.ref (k.b + (189))), some (.ref (k.sK s1)), some (.int (if ((MP_to mp) - (MP_from mp)) = (sLen s1) then (1 : Int32) else (0 : Int32))), some (.int 0)] dX10_isWord_23 (Nat.le_of_ble_eq_true rfl) rfl ?_
  exact B10_isWord_B24 X hQ FU s1 (if ((MP_to mp) - (MP_from mp)) = (sLen s1) then (1 : Int32) else (0 : Int32)) 0 hf
set_option maxRecDepth 100000 in
set_option maxHeartbeats 4000000 in
theorem K10_goOn {k : KT} {T : TT} {R : RR} {ly : Fin 2 → LL} {rc : RC} {hn : HN} {rp : RP} {tp : TP} {ee : EE} {st : Fin 12 → SS} {w : Nat → Int64} {aside : Nat → Int64} {thought : Nat → Int64} {fresh : Nat → Int64} {mu : MU} {th : Int32} {mp : MP} {mf : MF} {mh : MH} {mg : MG} {ou : Nat → Int64} {od : Nat → UInt64}   {r : (MP)} (hf : f10_goOn  mp  = some r) : CT k strs yX10_goOn cX10_goOn 1 none (rmD 3 0 0) 0 0 [.ref (k.b + (189))] (wAll k T R ly rc hn rp tp ee st w aside thought fresh mu th mp mf mh mg ou od) (none) (wAll k T R ly rc hn rp tp ee st w aside thought fresh mu th r mf mh mg ou od) := by
  refine CT.of (by decide) (Nat.le_of_ble_eq_true rfl) ?_
  intro z X hQ
  show VW k z 0 0 (wAll k T R ly rc hn rp tp ee st w aside thought fresh mu th mp mf mh mg ou od) 0 [some (.ref (k.b + (189)))] []
  unfold f10_goOn at hf
  refine r_aload_n X (x := k.b + (189)) dX10_goOn_0 rfl ?_
  refine r_getfield X (v := .int (MP_fault mp)) clsX10 flX10_255 (Nat.le_of_ble_eq_true rfl) _ o_model rfl dX10_goOn_1 ?_
  refine r_if_ne X 11 dX10_goOn_4 rfl (fun c4 => ?_) (fun c4 => ?_)
  · replace hf := ifF hf c4
    obtain rfl := Option.some.inj hf
    exact r_return X hQ rfl rfl (Nat.le_of_ble_eq_true rfl) (Nat.le_of_ble_eq_true rfl) dX10_goOn_11
  · replace hf := ifT hf c4
    refine r_aload_n X (x := k.b + (189)) dX10_goOn_7 rfl ?_
    obtain ⟨u8, h8, hf⟩ := bdS hf
    refine r_callV0 X [] [] (K10_next h8) lkX10_266 clsX10 rfl _ o_model (by decide) (Nat.le_of_ble_eq_true rfl) rfl rfl (Nat.le_of_ble_eq_true rfl) rfl rfl (Nat.zero_le _) (Nat.zero_le _) dX10_goOn_8 ?_
    obtain rfl := Option.some.inj hf
    exact r_return X hQ rfl rfl (Nat.le_of_ble_eq_true rfl) (Nat.le_of_ble_eq_true rfl) dX10_goOn_11
set_option maxRecDepth 100000 in
set_option maxHeartbeats 4000000 in
theorem B10_see_B95 {k : KT} {z : ZT} {T : TT} {R : RR} {ly : Fin 2 → LL} {rc : RC} {hn : HN} {rp : RP} {tp : TP} {ee : EE} {st : Fin 12 → SS} {w : Nat → Int64} {aside : Nat → Int64} {thought : Nat → Int64} {fresh : Nat → Int64} {mu : MU} {th : Int32} {mf : MF} {mh : MH} {mg : MG} {ou : Nat → Int64} {od : Nat → UInt64} {r : Int32 × (MP)} (X : XX k strs z RX10 cX10_see 7 (some .int) (rmD 2 0 0)) (hQ : zQ z = MQ (zB z) (Qof k (some (.int r.1)) (wAll k T R ly rc hn rp tp ee st w aside thought fresh mu th r.2 mf mh mg ou od)) (zA z) (zS z) 0 0 (kA k)) (mp : MP) (x1 : Int64) (x3 : Int64) (x5 : Int32) (hf : f10_see_B95  mp x1 x3 x5 = some r) : VW k z 0 0 (wAll k T R ly rc hn rp tp ee st w aside thought fresh mu th mp mf mh mg ou od) 95 [some (.ref (k.b + (189))), some (.long x1), none, some (.long x3), none, some (.int x5), none] [] := by
  unfold f10_see_B95 at hf
  refine r_aload_n X (x := k.b + (189)) dX10_see_95 rfl ?_
  refine r_getfield X (v := .int (MP_fault mp)) clsX10 flX10_255 (Nat.le_of_ble_eq_true rfl) _ o_model rfl dX10_see_96 ?_
  refine r_if_ne X 118 dX10_see_99 rfl (fun c99 => ?_) (fun c99 => ?_)
  · replace hf := ifF hf c99
    refine r_iload X (x := x5) dX10_see_118 rfl ?_
    obtain rfl := Option.some.inj hf
    exact r_ireturn X hQ rfl rfl (Nat.le_of_ble_eq_true rfl) (Nat.le_of_ble_eq_true rfl) dX10_see_120
  · replace hf := ifT hf c99
    refine r_iload X (x := x5) dX10_see_102 rfl ?_
    refine r_i2l X dX10_see_104 ?_
    refine r_lload_n X (x := x1) dX10_see_105 rfl ?_
    refine r_lload_n X (x := x3) dX10_see_106 rfl ?_
    obtain ⟨u107, h107, hf⟩ := bdS hf
    refine r_callS0 X [.long x5.toInt64, .long x1, .long x3] [] (K10_in h107) lkX10_39 (by decide) (Nat.le_of_ble_eq_true rfl) rfl rfl (Nat.le_of_ble_eq_true rfl) rfl rfl (Nat.zero_le _) (Nat.zero_le _) dX10_see_107 ?_
    refine r_if_ne X 118 dX10_see_110 rfl (fun c110 => ?_) (fun c110 => ?_)
    · replace hf := ifF hf c110
      refine r_iload X (x := x5) dX10_see_118 rfl ?_
      obtain rfl := Option.some.inj hf
      exact r_ireturn X hQ rfl rfl (Nat.le_of_ble_eq_true rfl) (Nat.le_of_ble_eq_true rfl) dX10_see_120
    · replace hf := ifT hf c110
      refine r_aload_n X (x := k.b + (189)) dX10_see_113 rfl ?_
      refine r_iconst X (v := 2) dX10_see_114 rfl ?_
      obtain ⟨u115, h115, hf⟩ := bdS hf
      refine r_callV0 X [.int 2] [] (K10_wrong h115) lkX10_269 clsX10 rfl _ o_model (by decide) (Nat.le_of_ble_eq_true rfl) rfl rfl (Nat.le_of_ble_eq_true rfl) rfl rfl (Nat.zero_le _) (Nat.zero_le _) dX10_see_115 ?_
      refine r_iload X (x := x5) dX10_see_118 rfl ?_
      obtain rfl := Option.some.inj hf
      exact r_ireturn X hQ rfl rfl (Nat.le_of_ble_eq_true rfl) (Nat.le_of_ble_eq_true rfl) dX10_see_120
set_option maxRecDepth 100000 in
set_option maxHeartbeats 4000000 in
theorem B10_see_B56 {k : KT} {z : ZT} {T : TT} {R : RR} {ly : Fin 2 → LL} {rc : RC} {hn : HN} {rp : RP} {tp : TP} {ee : EE} {st : Fin 12 → SS} {w : Nat → Int64} {aside : Nat → Int64} {thought : Nat → Int64} {fresh : Nat → Int64} {mu : MU} {th : Int32} {mf : MF} {mh : MH} {mg : MG} {ou : Nat → Int64} {od : Nat → UInt64} {r : Int32 × (MP)} (X : XX k strs z RX10 cX10_see 7 (some .int) (rmD 2 0 0)) (hQ : zQ z = MQ (zB z) (Qof k (some (.int r.1)) (wAll k T R ly rc hn rp tp ee st w aside thought fresh mu th r.2 mf mh mg ou od)) (zA z) (zS z) 0 0 (kA k)) : ∀ (fu : Nat) (mp : MP) (x1 : Int64) (x3 : Int64) (x5 : Int32) (x6 : Int32), f10_see_B56  fu mp x1 x3 x5 x6 = some r → VW k z 0 0 (wAll k T R ly rc hn rp tp ee st w aside thought fresh mu th mp mf mh mg ou od) 56 [some (.ref (k.b + (189))), some (.long x1), none, some (.long x3), none, some (.int x5), some (.int x6)] [] := by
  intro fu
  induction fu with
  | zero =>
    intro mp x1 x3 x5 x6 hf
    rw [f10_see_B56] at hf
    cases hf
  | succ fu ih =>
    intro mp x1 x3 x5 x6 hf
    rw [f10_see_B56] at hf
    refine r_iload X (x := x6) dX10_see_56 rfl ?_
    refine r_aload_n X (x := k.b + (189)) dX10_see_58 rfl ?_
    refine r_getfield X (v := .int (MP_to mp)) clsX10 flX10_243 (Nat.le_of_ble_eq_true rfl) _ o_model rfl dX10_see_59 ?_
    refine r_icmp_ge X 95 dX10_see_62 rfl (fun c62 => ?_) (fun c62 => ?_)
    · replace hf := ifT hf c62
      refine VW.msk [true, true, false, true, false, true, false] rfl (lo' := [some (.ref (k.b + (189))), some (.long x1), none, some (.long x3), none, some (.int x5), none]) rfl ?_
      exact B10_see_B95 X hQ mp x1 x3 x5 hf
    · replace hf := ifF hf c62
      refine r_aload_n X (x := k.b + (189)) dX10_see_65 rfl ?_
      refine r_getfield X (v := .int (MP_fault mp)) clsX10 flX10_255 (Nat.le_of_ble_eq_true rfl) _ o_model rfl dX10_see_66 ?_
      refine r_if_ne X 95 dX10_see_69 rfl (fun c69 => ?_) (fun c69 => ?_)
      · replace hf := ifF hf c69
        refine VW.msk [true, true, false, true, false, true, false] rfl (lo' := [some (.ref (k.b + (189))), some (.long x1), none, some (.long x3), none, some (.int x5), none]) rfl ?_
        exact B10_see_B95 X hQ mp x1 x3 x5 hf
      · replace hf := ifT hf c69
        refine r_bipush X (v := 10) dX10_see_72 rfl ?_
        refine r_iload X (x := x5) dX10_see_74 rfl ?_
        refine r_imul X dX10_see_76 ?_
        refine r_aload_n X (x := k.b + (189)) dX10_see_77 rfl ?_
        refine r_iload X (x := x6) dX10_see_78 rfl ?_
        obtain ⟨u80, h80, hf⟩ := bdS hf
        refine r_callV0 X [.int x6] [.int (10 * x5)] (K10_byteAt h80) lkX10_232 clsX10 rfl _ o_model (by decide) (Nat.le_of_ble_eq_true rfl) rfl rfl (Nat.le_of_ble_eq_true rfl) rfl rfl (Nat.zero_le _) (Nat.zero_le _) dX10_see_80 ?_
        refine r_iadd X dX10_see_83 ?_
        refine r_bipush X (v := 48) dX10_see_84 rfl ?_
        refine r_isub X dX10_see_86 ?_
        refine r_istore X [some (.ref (k.b + (189))), some (.long x1), none, some (.long x3), none, some (.int (((10 * x5) + u80) - 48)), some (.int x6)] dX10_see_87 (Nat.le_of_ble_eq_true rfl) rfl ?_
        refine r_iinc X (x := x6) (v := x6 + 1) [some (.ref (k.b + (189))), some (.long x1), none, some (.long x3), none, some (.int (((10 * x5) + u80) - 48)), some (.int (x6 + 1))] dX10_see_89 rfl rfl rfl ?_
        refine r_goto X 56 dX10_see_92 rfl ?_
        exact ih mp x1 x3 (((10 * x5) + u80) - 48) (x6 + 1) hf
set_option maxRecDepth 100000 in
set_option maxHeartbeats 4000000 in
theorem K10_see {k : KT} {T : TT} {R : RR} {ly : Fin 2 → LL} {rc : RC} {hn : HN} {rp : RP} {tp : TP} {ee : EE} {st : Fin 12 → SS} {w : Nat → Int64} {aside : Nat → Int64} {thought : Nat → Int64} {fresh : Nat → Int64} {mu : MU} {th : Int32} {mp : MP} {mf : MF} {mh : MH} {mg : MG} {ou : Nat → Int64} {od : Nat → UInt64}  {x1 : Int64} {x3 : Int64} {r : Int32 × (MP)} (hf : f10_see  mp x1 x3 = some r) : CT k strs yX10_see cX10_see 7 (some .int) (rmD 2 0 0) 0 0 [.ref (k.b + (189)), .long x1, .long x3] (wAll k T R ly rc hn rp tp ee st w aside thought fresh mu th mp mf mh mg ou od) (some (.int r.1)) (wAll k T R ly rc hn rp tp ee st w aside thought fresh mu th r.2 mf mh mg ou od) := by
  refine CT.of (by decide) (Nat.le_of_ble_eq_true rfl) ?_
  intro z X hQ
  show VW k z 0 0 (wAll k T R ly rc hn rp tp ee st w aside thought fresh mu th mp mf mh mg ou od) 0 [some (.ref (k.b + (189))), some (.long x1), none, some (.long x3), none, none, none] []
  unfold f10_see at hf
  refine r_aload_n X (x := k.b + (189)) dX10_see_0 rfl ?_
  refine r_getfield X (v := .int (MP_fault mp)) clsX10 flX10_255 (Nat.le_of_ble_eq_true rfl) _ o_model rfl dX10_see_1 ?_
  refine r_if_le X 9 dX10_see_4 rfl (fun c4 => ?_) (fun c4 => ?_)
  · replace hf := ifT hf c4
    refine r_iconst X (v := 0) dX10_see_9 rfl ?_
    refine r_istore X [some (.ref (k.b + (189))), some (.long x1), none, some (.long x3), none, some (.int 0), none] dX10_see_10 (Nat.le_of_ble_eq_true rfl) rfl ?_
    refine r_aload_n X (x := k.b + (189)) dX10_see_12 rfl ?_
    refine r_aload_n X (x := k.b + (189)) dX10_see_13 rfl ?_
    refine r_getfield X (v := .int (MP_from mp)) clsX10 flX10_246 (Nat.le_of_ble_eq_true rfl) _ o_model rfl dX10_see_14 ?_
    obtain ⟨u17, h17, hf⟩ := bdS hf
    refine r_callV0 X [.int (MP_from mp)] [] (K10_isDigitAt h17) lkX10_252 clsX10 rfl _ o_model (by decide) (Nat.le_of_ble_eq_true rfl) rfl rfl (Nat.le_of_ble_eq_true rfl) rfl rfl (Nat.zero_le _) (Nat.zero_le _) dX10_see_17 ?_
    refine r_if_ne X 31 dX10_see_20 rfl (fun c20 => ?_) (fun c20 => ?_)
    · replace hf := ifF hf c20
      refine r_aload_n X (x := k.b + (189)) dX10_see_31 rfl ?_
      refine r_getfield X (v := .int (MP_to mp)) clsX10 flX10_243 (Nat.le_of_ble_eq_true rfl) _ o_model rfl dX10_see_32 ?_
      refine r_aload_n X (x := k.b + (189)) dX10_see_35 rfl ?_
      refine r_getfield X (v := .int (MP_from mp)) clsX10 flX10_246 (Nat.le_of_ble_eq_true rfl) _ o_model rfl dX10_see_36 ?_
      refine r_isub X dX10_see_39 ?_
      refine r_bipush X (v := 7) dX10_see_40 rfl ?_
      refine r_icmp_le X 50 dX10_see_42 rfl (fun c42 => ?_) (fun c42 => ?_)
      · replace hf := ifT hf c42
        refine r_aload_n X (x := k.b + (189)) dX10_see_50 rfl ?_
        refine r_getfield X (v := .int (MP_from mp)) clsX10 flX10_246 (Nat.le_of_ble_eq_true rfl) _ o_model rfl dX10_see_51 ?_
        refine r_istore X [some (.ref (k.b + (189))), some (.long x1), none, some (.long x3), none, some (.int 0), some (.int (MP_from mp))] dX10_see_54 (Nat.le_of_ble_eq_true rfl) rfl ?_
        exact B10_see_B56 X hQ FU mp x1 x3 0 (MP_from mp) hf
      · replace hf := ifF hf c42
        refine r_aload_n X (x := k.b + (189)) dX10_see_45 rfl ?_
        refine r_iconst X (v := 2) dX10_see_46 rfl ?_
        obtain ⟨u47, h47, hf⟩ := bdS hf
        refine r_callV0 X [.int 2] [] (K10_wrong h47) lkX10_269 clsX10 rfl _ o_model (by decide) (Nat.le_of_ble_eq_true rfl) rfl rfl (Nat.le_of_ble_eq_true rfl) rfl rfl (Nat.zero_le _) (Nat.zero_le _) dX10_see_47 ?_
        refine r_aload_n X (x := k.b + (189)) dX10_see_50 rfl ?_
        refine r_getfield X (v := .int (MP_from u47)) clsX10 flX10_246 (Nat.le_of_ble_eq_true rfl) _ o_model rfl dX10_see_51 ?_
        refine r_istore X [some (.ref (k.b + (189))), some (.long x1), none, some (.long x3), none, some (.int 0), some (.int (MP_from u47))] dX10_see_54 (Nat.le_of_ble_eq_true rfl) rfl ?_
        exact B10_see_B56 X hQ FU u47 x1 x3 0 (MP_from u47) hf
    · replace hf := ifT hf c20
      refine r_aload_n X (x := k.b + (189)) dX10_see_23 rfl ?_
      refine r_iconst X (v := 1) dX10_see_24 rfl ?_
      obtain ⟨u25, h25, hf⟩ := bdS hf
      refine r_callV0 X [.int 1] [] (K10_wrong h25) lkX10_269 clsX10 rfl _ o_model (by decide) (Nat.le_of_ble_eq_true rfl) rfl rfl (Nat.le_of_ble_eq_true rfl) rfl rfl (Nat.zero_le _) (Nat.zero_le _) dX10_see_25 ?_
      refine r_goto X 50 dX10_see_28 rfl ?_
      refine r_aload_n X (x := k.b + (189)) dX10_see_50 rfl ?_
      refine r_getfield X (v := .int (MP_from u25)) clsX10 flX10_246 (Nat.le_of_ble_eq_true rfl) _ o_model rfl dX10_see_51 ?_
      refine r_istore X [some (.ref (k.b + (189))), some (.long x1), none, some (.long x3), none, some (.int 0), some (.int (MP_from u25))] dX10_see_54 (Nat.le_of_ble_eq_true rfl) rfl ?_
      exact B10_see_B56 X hQ FU u25 x1 x3 0 (MP_from u25) hf
  · replace hf := ifF hf c4
    refine r_iconst X (v := 0) dX10_see_7 rfl ?_
    obtain rfl := Option.some.inj hf
    exact r_ireturn X hQ rfl rfl (Nat.le_of_ble_eq_true rfl) (Nat.le_of_ble_eq_true rfl) dX10_see_8
set_option maxRecDepth 100000 in
set_option maxHeartbeats 4000000 in
theorem K10_number {k : KT} {T : TT} {R : RR} {ly : Fin 2 → LL} {rc : RC} {hn : HN} {rp : RP} {tp : TP} {ee : EE} {st : Fin 12 → SS} {w : Nat → Int64} {aside : Nat → Int64} {thought : Nat → Int64} {fresh : Nat → Int64} {mu : MU} {th : Int32} {mp : MP} {mf : MF} {mh : MH} {mg : MG} {ou : Nat → Int64} {od : Nat → UInt64}  {x1 : Int64} {x3 : Int64} {r : Int32 × (MP)} (hf : f10_number  mp x1 x3 = some r) : CT k strs yX10_number cX10_number 6 (some .int) (rmD 4 0 0) 0 0 [.ref (k.b + (189)), .long x1, .long x3] (wAll k T R ly rc hn rp tp ee st w aside thought fresh mu th mp mf mh mg ou od) (some (.int r.1)) (wAll k T R ly rc hn rp tp ee st w aside thought fresh mu th r.2 mf mh mg ou od) := by
  refine CT.of (by decide) (Nat.le_of_ble_eq_true rfl) ?_
  intro z X hQ
  show VW k z 0 0 (wAll k T R ly rc hn rp tp ee st w aside thought fresh mu th mp mf mh mg ou od) 0 [some (.ref (k.b + (189))), some (.long x1), none, some (.long x3), none, none] []
  unfold f10_number at hf
  refine r_aload_n X (x := k.b + (189)) dX10_number_0 rfl ?_
  refine r_lload_n X (x := x1) dX10_number_1 rfl ?_
  refine r_lload_n X (x := x3) dX10_number_2 rfl ?_
  obtain ⟨u3, h3, hf⟩ := bdS hf
  refine r_callV0 X [.long x1, .long x3] [] (K10_see h3) lkX10_272 clsX10 rfl _ o_model (by decide) (Nat.le_of_ble_eq_true rfl) rfl rfl (Nat.le_of_ble_eq_true rfl) rfl rfl (Nat.zero_le _) (Nat.zero_le _) dX10_number_3 ?_
  refine r_istore X [some (.ref (k.b + (189))), some (.long x1), none, some (.long x3), none, some (.int u3.1)] dX10_number_6 (Nat.le_of_ble_eq_true rfl) rfl ?_
  refine r_aload_n X (x := k.b + (189)) dX10_number_8 rfl ?_
  obtain ⟨u9, h9, hf⟩ := bdS hf
  refine r_callV0 X [] [] (K10_goOn h9) lkX10_276 clsX10 rfl _ o_model (by decide) (Nat.le_of_ble_eq_true rfl) rfl rfl (Nat.le_of_ble_eq_true rfl) rfl rfl (Nat.zero_le _) (Nat.zero_le _) dX10_number_9 ?_
  refine r_iload X (x := u3.1) dX10_number_12 rfl ?_
  obtain rfl := Option.some.inj hf
  exact r_ireturn X hQ rfl rfl (Nat.le_of_ble_eq_true rfl) (Nat.le_of_ble_eq_true rfl) dX10_number_14
set_option maxRecDepth 100000 in
set_option maxHeartbeats 4000000 in
theorem K10_must {k : KT} {T : TT} {R : RR} {ly : Fin 2 → LL} {rc : RC} {hn : HN} {rp : RP} {tp : TP} {ee : EE} {st : Fin 12 → SS} {w : Nat → Int64} {aside : Nat → Int64} {thought : Nat → Int64} {fresh : Nat → Int64} {mu : MU} {th : Int32} {mp : MP} {mf : MF} {mh : MH} {mg : MG} {ou : Nat → Int64} {od : Nat → UInt64}  {s1 : Nat} {r : (MP)} (hf : f10_must  mp s1 = some r) : CT k strs yX10_must cX10_must 2 none (rmD 10 0 0) 0 0 [.ref (k.b + (189)), .ref (k.sK s1)] (wAll k T R ly rc hn rp tp ee st w aside thought fresh mu th mp mf mh mg ou od) (none) (wAll k T R ly rc hn rp tp ee st w aside thought fresh mu th r mf mh mg ou od) := by
  refine CT.of (by decide) (Nat.le_of_ble_eq_true rfl) ?_
  intro z X hQ
  show VW k z 0 0 (wAll k T R ly rc hn rp tp ee st w aside thought fresh mu th mp mf mh mg ou od) 0 [some (.ref (k.b + (189))), some (.ref (k.sK s1))] []
  unfold f10_must at hf
  refine r_aload_n X (x := k.b + (189)) dX10_must_0 rfl ?_
  refine r_aload_n X (x := k.sK s1) dX10_must_1 rfl ?_
  obtain ⟨u2, h2, hf⟩ := bdS hf
  refine r_callV0 X [.ref (k.sK s1)] [] (K10_isWord h2) lkX10_279 clsX10 rfl _ o_model (by decide) (Nat.le_of_ble_eq_true rfl) rfl rfl (Nat.le_of_ble_eq_true rfl) rfl rfl (Nat.zero_le _) (Nat.zero_le _) dX10_must_2 ?_
  refine r_if_ne X 13 dX10_must_5 rfl (fun c5 => ?_) (fun c5 => ?_)
  · replace hf := ifF hf c5
    refine r_aload_n X (x := k.b + (189)) dX10_must_13 rfl ?_
    obtain ⟨u14, h14, hf⟩ := bdS hf
    refine r_callV0 X [] [] (K10_goOn h14) lkX10_276 clsX10 rfl _ o_model (by decide) (Nat.le_of_ble_eq_true rfl) rfl rfl (Nat.le_of_ble_eq_true rfl) rfl rfl (Nat.zero_le _) (Nat.zero_le _) dX10_must_14 ?_
    obtain rfl := Option.some.inj hf
    exact r_return X hQ rfl rfl (Nat.le_of_ble_eq_true rfl) (Nat.le_of_ble_eq_true rfl) dX10_must_17
  · replace hf := ifT hf c5
    refine r_aload_n X (x := k.b + (189)) dX10_must_8 rfl ?_
    refine r_iconst X (v := 1) dX10_must_9 rfl ?_
    obtain ⟨u10, h10, hf⟩ := bdS hf
    refine r_callV0 X [.int 1] [] (K10_wrong h10) lkX10_269 clsX10 rfl _ o_model (by decide) (Nat.le_of_ble_eq_true rfl) rfl rfl (Nat.le_of_ble_eq_true rfl) rfl rfl (Nat.zero_le _) (Nat.zero_le _) dX10_must_10 ?_
    refine r_aload_n X (x := k.b + (189)) dX10_must_13 rfl ?_
    obtain ⟨u14, h14, hf⟩ := bdS hf
    refine r_callV0 X [] [] (K10_goOn h14) lkX10_276 clsX10 rfl _ o_model (by decide) (Nat.le_of_ble_eq_true rfl) rfl rfl (Nat.le_of_ble_eq_true rfl) rfl rfl (Nat.zero_le _) (Nat.zero_le _) dX10_must_14 ?_
    obtain rfl := Option.some.inj hf
    exact r_return X hQ rfl rfl (Nat.le_of_ble_eq_true rfl) (Nat.le_of_ble_eq_true rfl) dX10_must_17
set_option maxRecDepth 100000 in
set_option maxHeartbeats 4000000 in
theorem K10_begin {k : KT} {T : TT} {R : RR} {ly : Fin 2 → LL} {rc : RC} {hn : HN} {rp : RP} {tp : TP} {ee : EE} {st : Fin 12 → SS} {w : Nat → Int64} {aside : Nat → Int64} {thought : Nat → Int64} {fresh : Nat → Int64} {mu : MU} {th : Int32} {mp : MP} {mf : MF} {mh : MH} {mg : MG} {ou : Nat → Int64} {od : Nat → UInt64}   {r : (MP)} (hf : f10_begin  mp  = some r) : CT k strs yX10_begin cX10_begin 1 none (rmD 3 0 0) 0 0 [.ref (k.b + (189))] (wAll k T R ly rc hn rp tp ee st w aside thought fresh mu th mp mf mh mg ou od) (none) (wAll k T R ly rc hn rp tp ee st w aside thought fresh mu th r mf mh mg ou od) := by
  refine CT.of (by decide) (Nat.le_of_ble_eq_true rfl) ?_
  intro z X hQ
  show VW k z 0 0 (wAll k T R ly rc hn rp tp ee st w aside thought fresh mu th mp mf mh mg ou od) 0 [some (.ref (k.b + (189)))] []
  unfold f10_begin at hf
  refine r_aload_n X (x := k.b + (189)) dX10_begin_0 rfl ?_
  refine r_aload_n X (x := k.b + (189)) dX10_begin_1 rfl ?_
  refine r_getfield X (v := .int (MP_length mp)) clsX10 flX10_223 (Nat.le_of_ble_eq_true rfl) _ o_model rfl dX10_begin_2 ?_
  refine r_putfield X (ws1 := wAll k T R ly rc hn rp tp ee st w aside thought fresh mu th (MP_set_end_ mp (MP_length mp)) mf mh mg ou od) clsX10 flX10_229 (Nat.le_of_ble_eq_true rfl) rfl rfl rfl _ o_model (Nat.le_of_ble_eq_true rfl) (s_mp_end_ (MP_length mp)) dX10_begin_5 ?_
  refine r_aload_n X (x := k.b + (189)) dX10_begin_8 rfl ?_
  refine r_iconst X (v := 0) dX10_begin_9 rfl ?_
  refine r_putfield X (ws1 := wAll k T R ly rc hn rp tp ee st w aside thought fresh mu th (MP_set_length (MP_set_end_ mp (MP_length mp)) 0) mf mh mg ou od) clsX10 flX10_223 (Nat.le_of_ble_eq_true rfl) rfl rfl rfl _ o_model (Nat.le_of_ble_eq_true rfl) (s_mp_length 0) dX10_begin_10 ?_
  refine r_aload_n X (x := k.b + (189)) dX10_begin_13 rfl ?_
  refine r_iconst X (v := 0) dX10_begin_14 rfl ?_
  refine r_putfield X (ws1 := wAll k T R ly rc hn rp tp ee st w aside thought fresh mu th (MP_set_to (MP_set_length (MP_set_end_ mp (MP_length mp)) 0) 0) mf mh mg ou od) clsX10 flX10_243 (Nat.le_of_ble_eq_true rfl) rfl rfl rfl _ o_model (Nat.le_of_ble_eq_true rfl) (s_mp_to 0) dX10_begin_15 ?_
  refine r_aload_n X (x := k.b + (189)) dX10_begin_18 rfl ?_
  refine r_iconst X (v := 0) dX10_begin_19 rfl ?_
  refine r_putfield X (ws1 := wAll k T R ly rc hn rp tp ee st w aside thought fresh mu th (MP_set_fault (MP_set_to (MP_set_length (MP_set_end_ mp (MP_length mp)) 0) 0) 0) mf mh mg ou od) clsX10 flX10_255 (Nat.le_of_ble_eq_true rfl) rfl rfl rfl _ o_model (Nat.le_of_ble_eq_true rfl) (s_mp_fault 0) dX10_begin_20 ?_
  refine r_aload_n X (x := k.b + (189)) dX10_begin_23 rfl ?_
  obtain ⟨u24, h24, hf⟩ := bdS hf
  refine r_callV0 X [] [] (K10_next h24) lkX10_266 clsX10 rfl _ o_model (by decide) (Nat.le_of_ble_eq_true rfl) rfl rfl (Nat.le_of_ble_eq_true rfl) rfl rfl (Nat.zero_le _) (Nat.zero_le _) dX10_begin_24 ?_
  obtain rfl := Option.some.inj hf
  exact r_return X hQ rfl rfl (Nat.le_of_ble_eq_true rfl) (Nat.le_of_ble_eq_true rfl) dX10_begin_27
set_option maxRecDepth 100000 in
set_option maxHeartbeats 4000000 in
theorem B10_keyword_B13 {k : KT} {z : ZT} {T : TT} {R : RR} {ly : Fin 2 → LL} {rc : RC} {hn : HN} {rp : RP} {tp : TP} {ee : EE} {st : Fin 12 → SS} {w : Nat → Int64} {aside : Nat → Int64} {thought : Nat → Int64} {fresh : Nat → Int64} {mu : MU} {th : Int32} {mf : MF} {mh : MH} {mg : MG} {ou : Nat → Int64} {od : Nat → UInt64} {r : (MP)} (X : XX k strs z RX10 cX10_keyword 4 none (rmD 10 0 0)) (hQ : zQ z = MQ (zB z) (Qof k (none) (wAll k T R ly rc hn rp tp ee st w aside thought fresh mu th r mf mh mg ou od)) (zA z) (zS z) 0 0 (kA k)) (mp : MP) (x2 : Int32) (x3 : Int32) (hf : f10_keyword_B13 fresh mp x2 x3 = some r) : VW k z 0 0 (wAll k T R ly rc hn rp tp ee st w aside thought fresh mu th mp mf mh mg ou od) 13 [some (.ref (k.b + (189))), none, some (.int x2), some (.int x3)] [] := by
  unfold f10_keyword_B13 at hf
  refine r_aload_n X (x := k.b + (189)) dX10_keyword_13 rfl ?_
  refine r_getfield X (v := .ref (k.b + (193))) clsX10 flX10_19 (Nat.le_of_ble_eq_true rfl) _ o_model rfl dX10_keyword_14 ?_
  refine r_iload_n X (x := x2) dX10_keyword_17 rfl ?_
  obtain ⟨g18, hf⟩ := gdS hf
  refine r_laload X (f := fresh) _ a_m_fresh g18 dX10_keyword_18 ?_
  refine r_iload_n X (x := x3) dX10_keyword_19 rfl ?_
  refine r_i2l X dX10_keyword_20 ?_
  refine r_lcmp_ne X 30 dX10_keyword_21 dX10_keyword_22 rfl (fun c21 => ?_) (fun c21 => ?_)
  · replace hf := ifF hf c21
    refine r_aload_n X (x := k.b + (189)) dX10_keyword_30 rfl ?_
    obtain ⟨u31, h31, hf⟩ := bdS hf
    refine r_callV0 X [] [] (K10_goOn h31) lkX10_276 clsX10 rfl _ o_model (by decide) (Nat.le_of_ble_eq_true rfl) rfl rfl (Nat.le_of_ble_eq_true rfl) rfl rfl (Nat.zero_le _) (Nat.zero_le _) dX10_keyword_31 ?_
    obtain rfl := Option.some.inj hf
    exact r_return X hQ rfl rfl (Nat.le_of_ble_eq_true rfl) (Nat.le_of_ble_eq_true rfl) dX10_keyword_34
  · replace hf := ifT hf c21
    refine r_aload_n X (x := k.b + (189)) dX10_keyword_25 rfl ?_
    refine r_iconst X (v := 4) dX10_keyword_26 rfl ?_
    obtain ⟨u27, h27, hf⟩ := bdS hf
    refine r_callV0 X [.int 4] [] (K10_wrong h27) lkX10_269 clsX10 rfl _ o_model (by decide) (Nat.le_of_ble_eq_true rfl) rfl rfl (Nat.le_of_ble_eq_true rfl) rfl rfl (Nat.zero_le _) (Nat.zero_le _) dX10_keyword_27 ?_
    refine r_aload_n X (x := k.b + (189)) dX10_keyword_30 rfl ?_
    obtain ⟨u31, h31, hf⟩ := bdS hf
    refine r_callV0 X [] [] (K10_goOn h31) lkX10_276 clsX10 rfl _ o_model (by decide) (Nat.le_of_ble_eq_true rfl) rfl rfl (Nat.le_of_ble_eq_true rfl) rfl rfl (Nat.zero_le _) (Nat.zero_le _) dX10_keyword_31 ?_
    obtain rfl := Option.some.inj hf
    exact r_return X hQ rfl rfl (Nat.le_of_ble_eq_true rfl) (Nat.le_of_ble_eq_true rfl) dX10_keyword_34
set_option maxRecDepth 100000 in
set_option maxHeartbeats 4000000 in
theorem K10_keyword {k : KT} {T : TT} {R : RR} {ly : Fin 2 → LL} {rc : RC} {hn : HN} {rp : RP} {tp : TP} {ee : EE} {st : Fin 12 → SS} {w : Nat → Int64} {aside : Nat → Int64} {thought : Nat → Int64} {fresh : Nat → Int64} {mu : MU} {th : Int32} {mp : MP} {mf : MF} {mh : MH} {mg : MG} {ou : Nat → Int64} {od : Nat → UInt64}  {s1 : Nat} {x2 : Int32} {x3 : Int32} {r : (MP)} (hf : f10_keyword fresh mp s1 x2 x3 = some r) : CT k strs yX10_keyword cX10_keyword 4 none (rmD 10 0 0) 0 0 [.ref (k.b + (189)), .ref (k.sK s1), .int x2, .int x3] (wAll k T R ly rc hn rp tp ee st w aside thought fresh mu th mp mf mh mg ou od) (none) (wAll k T R ly rc hn rp tp ee st w aside thought fresh mu th r mf mh mg ou od) := by
  refine CT.of (by decide) (Nat.le_of_ble_eq_true rfl) ?_
  intro z X hQ
  show VW k z 0 0 (wAll k T R ly rc hn rp tp ee st w aside thought fresh mu th mp mf mh mg ou od) 0 [some (.ref (k.b + (189))), some (.ref (k.sK s1)), some (.int x2), some (.int x3)] []
  unfold f10_keyword at hf
  refine r_aload_n X (x := k.b + (189)) dX10_keyword_0 rfl ?_
  refine r_aload_n X (x := k.sK s1) dX10_keyword_1 rfl ?_
  obtain ⟨u2, h2, hf⟩ := bdS hf
  refine r_callV0 X [.ref (k.sK s1)] [] (K10_isWord h2) lkX10_279 clsX10 rfl _ o_model (by decide) (Nat.le_of_ble_eq_true rfl) rfl rfl (Nat.le_of_ble_eq_true rfl) rfl rfl (Nat.zero_le _) (Nat.zero_le _) dX10_keyword_2 ?_
  refine r_if_ne X 13 dX10_keyword_5 rfl (fun c5 => ?_) (fun c5 => ?_)
  · replace hf := ifF hf c5
    refine VW.msk [true, false, true, true] rfl (lo' := [some (.ref (k.b + (189))), none, some (.int x2), some (.int x3)]) rfl ?_
    exact B10_keyword_B13 X hQ mp x2 x3 hf
  · replace hf := ifT hf c5
    refine r_aload_n X (x := k.b + (189)) dX10_keyword_8 rfl ?_
    refine r_iconst X (v := 1) dX10_keyword_9 rfl ?_
    obtain ⟨u10, h10, hf⟩ := bdS hf
    refine r_callV0 X [.int 1] [] (K10_wrong h10) lkX10_269 clsX10 rfl _ o_model (by decide) (Nat.le_of_ble_eq_true rfl) rfl rfl (Nat.le_of_ble_eq_true rfl) rfl rfl (Nat.zero_le _) (Nat.zero_le _) dX10_keyword_10 ?_
    refine VW.msk [true, false, true, true] rfl (lo' := [some (.ref (k.b + (189))), none, some (.int x2), some (.int x3)]) rfl ?_
    exact B10_keyword_B13 X hQ u10 x2 x3 hf
