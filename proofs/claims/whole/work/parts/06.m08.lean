/-! the methods do it -/
set_option maxRecDepth 100000 in
set_option maxHeartbeats 4000000 in
theorem B10_writeReport_B12 {k : KT} {z : ZT} {T : TT} {R : RR} {ly : Fin 2 → LL} {rc : RC} {hn : HN} {rp : RP} {tp : TP} {ee : EE} {st : Fin 12 → SS} {w : Nat → Int64} {aside : Nat → Int64} {thought : Nat → Int64} {fresh : Nat → Int64} {mu : MU} {mp : MP} {mf : MF} {mh : MH} {ou : Nat → Int64} {od : Nat → UInt64} {r : Int32 × (Int32) × (MG)} (X : XX k strs z RX10 cX10_writeReport 2 (some .int) (rmD 28 0 0)) (hQ : zQ z = MQ (zB z) (Qof k (some (.int r.1)) (wAll k T R ly rc hn rp tp ee st w aside thought fresh mu r.2.1 mp mf mh r.2.2 ou od)) (zA z) (zS z) 0 0 (kA k)) : ∀ (fu : Nat) (th : Int32) (mg : MG) (x1 : Int32), f10_writeReport_B12 w fu th mg x1 = some r → VW k z 0 0 (wAll k T R ly rc hn rp tp ee st w aside thought fresh mu th mp mf mh mg ou od) 12 [some (.ref (k.b + (189))), some (.int x1)] [] := by
  intro fu
  induction fu with
  | zero =>
    intro th mg x1 hf
    rw [f10_writeReport_B12] at hf
    cases hf
  | succ fu ih =>
    intro th mg x1 hf
    rw [f10_writeReport_B12] at hf
    refine r_iload_n X (x := x1) dX10_writeReport_12 rfl ?_
    refine r_aload_n X (x := k.b + (189)) dX10_writeReport_13 rfl ?_
    refine r_iconst X (v := 0) dX10_writeReport_14 rfl ?_
    obtain ⟨u15, h15, hf⟩ := bdS hf
    refine r_callV0 X [.int 0] [.int x1] (K10_many h15) lkX10_93 clsX10 rfl _ o_model (by decide) (Nat.le_of_ble_eq_true rfl) rfl rfl (Nat.le_of_ble_eq_true rfl) rfl rfl (Nat.zero_le _) (Nat.zero_le _) dX10_writeReport_15 ?_
    refine r_icmp_ge X 32 dX10_writeReport_18 rfl (fun c18 => ?_) (fun c18 => ?_)
    · replace hf := ifT hf c18
      refine r_aload_n X (x := k.b + (189)) dX10_writeReport_32 rfl ?_
      refine r_getfield X (v := .int (MG_pageLength mg)) clsX10 flX10_424 (Nat.le_of_ble_eq_true rfl) _ o_model rfl dX10_writeReport_33 ?_
      obtain rfl := Option.some.inj hf
      exact r_ireturn X hQ rfl rfl (Nat.le_of_ble_eq_true rfl) (Nat.le_of_ble_eq_true rfl) dX10_writeReport_36
    · replace hf := ifF hf c18
      refine r_aload_n X (x := k.b + (189)) dX10_writeReport_21 rfl ?_
      refine r_iload_n X (x := x1) dX10_writeReport_22 rfl ?_
      obtain ⟨u23, h23, hf⟩ := bdS hf
      refine r_callV0 X [.int x1] [] (K10_printChamber h23) lkX10_440 clsX10 rfl _ o_model (by decide) (Nat.le_of_ble_eq_true rfl) rfl rfl (Nat.le_of_ble_eq_true rfl) rfl rfl (Nat.zero_le _) (Nat.zero_le _) dX10_writeReport_23 ?_
      refine r_iinc X (x := x1) (v := x1 + 1) [some (.ref (k.b + (189))), some (.int (x1 + 1))] dX10_writeReport_26 rfl rfl rfl ?_
      refine r_goto X 12 dX10_writeReport_29 rfl ?_
      exact ih th u23 (x1 + 1) hf
set_option maxRecDepth 100000 in
set_option maxHeartbeats 4000000 in
theorem K10_writeReport {k : KT} {T : TT} {R : RR} {ly : Fin 2 → LL} {rc : RC} {hn : HN} {rp : RP} {tp : TP} {ee : EE} {st : Fin 12 → SS} {w : Nat → Int64} {aside : Nat → Int64} {thought : Nat → Int64} {fresh : Nat → Int64} {mu : MU} {th : Int32} {mp : MP} {mf : MF} {mh : MH} {mg : MG} {ou : Nat → Int64} {od : Nat → UInt64}   {r : Int32 × (Int32) × (MG)} (hf : f10_writeReport w th mg  = some r) : CT k strs yX10_writeReport cX10_writeReport 2 (some .int) (rmD 28 0 0) 0 0 [.ref (k.b + (189))] (wAll k T R ly rc hn rp tp ee st w aside thought fresh mu th mp mf mh mg ou od) (some (.int r.1)) (wAll k T R ly rc hn rp tp ee st w aside thought fresh mu r.2.1 mp mf mh r.2.2 ou od) := by
  refine CT.of (by decide) (Nat.le_of_ble_eq_true rfl) ?_
  intro z X hQ
  show VW k z 0 0 (wAll k T R ly rc hn rp tp ee st w aside thought fresh mu th mp mf mh mg ou od) 0 [some (.ref (k.b + (189))), none] []
  unfold f10_writeReport at hf
  refine r_aload_n X (x := k.b + (189)) dX10_writeReport_0 rfl ?_
  refine r_iconst X (v := 0) dX10_writeReport_1 rfl ?_
  refine r_putfield X (ws1 := wAll k T R ly rc hn rp tp ee st w aside thought fresh mu 0 mp mf mh mg ou od) clsX10 flX10_36 (Nat.le_of_ble_eq_true rfl) rfl rfl rfl _ o_model (Nat.le_of_ble_eq_true rfl) (s_th 0) dX10_writeReport_2 ?_
  refine r_aload_n X (x := k.b + (189)) dX10_writeReport_5 rfl ?_
  refine r_iconst X (v := 0) dX10_writeReport_6 rfl ?_
  refine r_putfield X (ws1 := wAll k T R ly rc hn rp tp ee st w aside thought fresh mu 0 mp mf mh (MG_set_pageLength mg 0) ou od) clsX10 flX10_424 (Nat.le_of_ble_eq_true rfl) rfl rfl rfl _ o_model (Nat.le_of_ble_eq_true rfl) (s_mg_pageLength 0) dX10_writeReport_7 ?_
  refine r_iconst X (v := 0) dX10_writeReport_10 rfl ?_
  refine r_istore_n X [some (.ref (k.b + (189))), some (.int 0)] dX10_writeReport_11 (Nat.le_of_ble_eq_true rfl) rfl ?_
  exact B10_writeReport_B12 X hQ FU 0 (MG_set_pageLength mg 0) 0 hf
set_option maxRecDepth 100000 in
set_option maxHeartbeats 4000000 in
theorem K10_reportByte {k : KT} {T : TT} {R : RR} {ly : Fin 2 → LL} {rc : RC} {hn : HN} {rp : RP} {tp : TP} {ee : EE} {st : Fin 12 → SS} {w : Nat → Int64} {aside : Nat → Int64} {thought : Nat → Int64} {fresh : Nat → Int64} {mu : MU} {th : Int32} {mp : MP} {mf : MF} {mh : MH} {mg : MG} {ou : Nat → Int64} {od : Nat → UInt64}  {x1 : Int32} {r : Int32 × (Int32)} (hf : f10_reportByte mg th x1 = some r) : CT k strs yX10_reportByte cX10_reportByte 2 (some .int) (rmD 1 0 0) 0 0 [.ref (k.b + (189)), .int x1] (wAll k T R ly rc hn rp tp ee st w aside thought fresh mu th mp mf mh mg ou od) (some (.int r.1)) (wAll k T R ly rc hn rp tp ee st w aside thought fresh mu r.2 mp mf mh mg ou od) := by
  refine CT.of (by decide) (Nat.le_of_ble_eq_true rfl) ?_
  intro z X hQ
  show VW k z 0 0 (wAll k T R ly rc hn rp tp ee st w aside thought fresh mu th mp mf mh mg ou od) 0 [some (.ref (k.b + (189))), some (.int x1)] []
  unfold f10_reportByte at hf
  refine r_aload_n X (x := k.b + (189)) dX10_reportByte_0 rfl ?_
  refine r_iload_n X (x := x1) dX10_reportByte_1 rfl ?_
  refine r_i2l X dX10_reportByte_2 ?_
  refine r_lconst X (v := 0) dX10_reportByte_3 rfl ?_
  refine r_aload_n X (x := k.b + (189)) dX10_reportByte_4 rfl ?_
  refine r_getfield X (v := .int (MG_pageLength mg)) clsX10 flX10_424 (Nat.le_of_ble_eq_true rfl) _ o_model rfl dX10_reportByte_5 ?_
  refine r_iconst X (v := 1) dX10_reportByte_8 rfl ?_
  refine r_isub X dX10_reportByte_9 ?_
  refine r_i2l X dX10_reportByte_10 ?_
  obtain ⟨u11, h11, hf⟩ := bdS hf
  refine r_callS0 X [.long x1.toInt64, .long 0, .long (((MG_pageLength mg) - 1).toInt64)] [.ref (k.b + (189))] (K10_in h11) lkX10_39 (by decide) (Nat.le_of_ble_eq_true rfl) rfl rfl (Nat.le_of_ble_eq_true rfl) rfl rfl (Nat.zero_le _) (Nat.zero_le _) dX10_reportByte_11 ?_
  suffices K14 : VW k z 0 0 (wAll k T R ly rc hn rp tp ee st w aside thought fresh mu th mp mf mh mg ou od) 22 [some (.ref (k.b + (189))), some (.int x1)] [.int (if u11 = 0 then (1 : Int32) else (0 : Int32)), .ref (k.b + (189))] by
    refine r_if_ne X 21 dX10_reportByte_14 rfl (fun c14 => ?_) (fun c14 => ?_)
    · refine r_iconst X (v := 0) dX10_reportByte_21 rfl ?_
      rw [if_neg c14] at K14
      exact K14
    · refine r_iconst X (v := 1) dX10_reportByte_17 rfl ?_
      refine r_goto X 22 dX10_reportByte_18 rfl ?_
      rw [if_pos c14] at K14
      exact K14
  refine r_iconst X (v := 1) dX10_reportByte_22 rfl ?_
  obtain ⟨u23, h23, hf⟩ := bdS hf
  refine r_callV0 X [.int (if u11 = 0 then (1 : Int32) else (0 : Int32)), .int 1] [] (K10_fails h23) lkX10_151 clsX10 rfl _ o_model (by decide) (Nat.le_of_ble_eq_true rfl) rfl rfl (Nat.le_of_ble_eq_true rfl) rfl rfl (Nat.zero_le _) (Nat.zero_le _) dX10_reportByte_23 ?_
  refine r_if_eq X 33 dX10_reportByte_26 rfl (fun c26 => ?_) (fun c26 => ?_)
  · replace hf := ifT hf c26
    refine r_aload_n X (x := k.b + (189)) dX10_reportByte_33 rfl ?_
    refine r_getfield X (v := .ref (k.b + (196))) clsX10 flX10_33 (Nat.le_of_ble_eq_true rfl) _ o_model rfl dX10_reportByte_34 ?_
    refine r_iload_n X (x := x1) dX10_reportByte_37 rfl ?_
    obtain ⟨g38, hf⟩ := gdS hf
    refine r_baload X (f := MG_page mg) _ a_m_page g38 dX10_reportByte_38 ?_
    obtain rfl := Option.some.inj hf
    exact r_ireturn X hQ rfl rfl (Nat.le_of_ble_eq_true rfl) (Nat.le_of_ble_eq_true rfl) dX10_reportByte_39
  · replace hf := ifF hf c26
    refine r_iconst X (v := 0) dX10_reportByte_29 rfl ?_
    refine r_goto X 39 dX10_reportByte_30 rfl ?_
    obtain rfl := Option.some.inj hf
    exact r_ireturn X hQ rfl rfl (Nat.le_of_ble_eq_true rfl) (Nat.le_of_ble_eq_true rfl) dX10_reportByte_39
