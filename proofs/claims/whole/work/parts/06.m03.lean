/-! the methods do it -/
set_option maxRecDepth 100000 in
set_option maxHeartbeats 4000000 in
theorem K9_pass {k : KT} {T : TT} {R : RR} {ly : Fin 2 → LL} {rc : RC} {hn : HN} {rp : RP} {tp : TP} {ee : EE} {st : Fin 12 → SS} {w : Nat → Int64} {aside : Nat → Int64} {thought : Nat → Int64} {fresh : Nat → Int64} {mu : MU} {th : Int32} {mp : MP} {mf : MF} {mh : MH} {mg : MG} {ou : Nat → Int64} {od : Nat → UInt64}  {x1 : Int32} {r : (Int32 ⊕ Nat) × (TP) × (Fin 12 → SS)} (hf : f9_pass (ly (0 : Fin 2)) tp st x1 = some r) : CX k strs yX9_pass cX9_pass 3 (some .int) (rmD 6 1 6) [.ref (k.b + (0)), .int x1] (wAll k T R ly rc hn rp tp ee st w aside thought fresh mu th mp mf mh mg ou od) (oI r.1) (wAll k T R ly rc hn rp r.2.1 ee r.2.2 w aside thought fresh mu th mp mf mh mg ou od) := by
  refine CX.of (by decide) (Nat.le_of_ble_eq_true rfl) ?_
  intro z X hT hQ
  show VW k z 0 0 (wAll k T R ly rc hn rp tp ee st w aside thought fresh mu th mp mf mh mg ou od) 0 [some (.ref (k.b + (0))), some (.int x1), none] []
  unfold f9_pass at hf
  refine r_iload_n X (x := x1) dX9_pass_0 rfl ?_
  obtain ⟨u1, h1, hf⟩ := bdS hf
  refine r_callS0 X [.int x1] [] (K9_isTicks h1) lkX9_179 (by decide) (Nat.le_of_ble_eq_true rfl) rfl rfl (Nat.le_of_ble_eq_true rfl) rfl rfl (Nat.zero_le _) (Nat.zero_le _) dX9_pass_1 ?_
  refine r_if_ne X 15 dX9_pass_4 rfl (fun c4 => ?_) (fun c4 => ?_)
  · replace hf := ifF hf c4
    refine r_aload_n X (x := k.b + (0)) dX9_pass_15 rfl ?_
    obtain ⟨u16, h16, hf⟩ := bdS hf
    refine r_callV0 X [] [] (K9_beginTrial h16) lkX9_139 clsX9 rfl _ o_main (by decide) (Nat.le_of_ble_eq_true rfl) rfl rfl (Nat.le_of_ble_eq_true rfl) rfl rfl (Nat.zero_le _) (Nat.zero_le _) dX9_pass_16 ?_
    refine r_aload_n X (x := k.b + (0)) dX9_pass_19 rfl ?_
    refine r_getfield X (v := .ref (k.b + (45 + 12 * (TP_tr tp).val))) clsX9 flX9_77 (Nat.le_of_ble_eq_true rfl) _ o_main rfl dX9_pass_20 ?_
    refine r_iload_n X (x := x1) dX9_pass_23 rfl ?_
    refine VW.foc (ws' := wAll k T R ly rc hn rp tp ee (updF u16 (TP_tr tp) (u16 (TP_tr tp))) w aside thought fresh mu th mp mf mh mg ou od) (by rw [updF_self]) ?_
    obtain ⟨u24, h24, hf⟩ := bdS hf
    refine r_callV0 X [.int x1] [] (K5_passTicks h24) lkX9_182 clsX5 rfl _ (o_st1 (TP_tr tp) _) (by decide) (Nat.le_of_ble_eq_true rfl) rfl rfl (Nat.le_of_ble_eq_true rfl) rfl rfl (Nat.zero_le _) (Nat.zero_le _) dX9_pass_24 ?_
    refine r_istore_n X [some (.ref (k.b + (0))), some (.int x1), some (.int u24.1)] dX9_pass_27 (Nat.le_of_ble_eq_true rfl) rfl ?_
    refine r_aload_n X (x := k.b + (0)) dX9_pass_28 rfl ?_
    obtain ⟨u29, h29, hf⟩ := bdS hf
    refine r_callV0 X [] [] (K9_keepTrial h29) lkX9_145 clsX9 rfl _ o_main (by decide) (Nat.le_of_ble_eq_true rfl) rfl rfl (Nat.le_of_ble_eq_true rfl) rfl rfl (Nat.zero_le _) (Nat.zero_le _) dX9_pass_29 ?_
    refine r_iload_n X (x := u24.1) dX9_pass_32 rfl ?_
    obtain rfl := Option.some.inj hf
    exact x_ireturn X hQ rfl rfl (Nat.le_of_ble_eq_true rfl) (Nat.le_of_ble_eq_true rfl) dX9_pass_33
  · replace hf := ifT hf c4
    obtain rfl := Option.some.inj hf
    exact r_throw X hT ltX9_1 (by decide) hQ rfl rfl (Nat.le_of_ble_eq_true rfl) (Nat.le_of_ble_eq_true rfl) rfl ⟨(Nat.le_of_ble_eq_true rfl), (Nat.le_of_ble_eq_true rfl), (Nat.le_of_ble_eq_true rfl), (Nat.le_of_ble_eq_true rfl)⟩ dX9_pass_7 dX9_pass_10 dX9_pass_11 dX9_pass_14
set_option maxRecDepth 100000 in
set_option maxHeartbeats 4000000 in
theorem K9_passUntil {k : KT} {T : TT} {R : RR} {ly : Fin 2 → LL} {rc : RC} {hn : HN} {rp : RP} {tp : TP} {ee : EE} {st : Fin 12 → SS} {w : Nat → Int64} {aside : Nat → Int64} {thought : Nat → Int64} {fresh : Nat → Int64} {mu : MU} {th : Int32} {mp : MP} {mf : MF} {mh : MH} {mg : MG} {ou : Nat → Int64} {od : Nat → UInt64}  {x1 : Int32} {x2 : Int32} {r : (Int32 ⊕ Nat) × (TP) × (Fin 12 → SS)} (hf : f9_passUntil (ly (0 : Fin 2)) tp st x1 x2 = some r) : CX k strs yX9_passUntil cX9_passUntil 4 (some .int) (rmD 6 1 6) [.ref (k.b + (0)), .int x1, .int x2] (wAll k T R ly rc hn rp tp ee st w aside thought fresh mu th mp mf mh mg ou od) (oI r.1) (wAll k T R ly rc hn rp r.2.1 ee r.2.2 w aside thought fresh mu th mp mf mh mg ou od) := by
  refine CX.of (by decide) (Nat.le_of_ble_eq_true rfl) ?_
  intro z X hT hQ
  show VW k z 0 0 (wAll k T R ly rc hn rp tp ee st w aside thought fresh mu th mp mf mh mg ou od) 0 [some (.ref (k.b + (0))), some (.int x1), some (.int x2), none] []
  unfold f9_passUntil at hf
  refine r_aload_n X (x := k.b + (0)) dX9_passUntil_0 rfl ?_
  refine r_getfield X (v := .ref (k.b + (4 + 17 * (0 : Fin 2).val))) clsX9 flX9_28 (Nat.le_of_ble_eq_true rfl) _ o_main rfl dX9_passUntil_1 ?_
  refine r_iload_n X (x := x1) dX9_passUntil_4 rfl ?_
  obtain ⟨u5, h5, hf⟩ := bdS hf
  refine r_callV0 X [.int x1] [] (K1_hasChamber h5) lkX9_185 clsX1 rfl _ (o_lay (0 : Fin 2)) (by decide) (Nat.le_of_ble_eq_true rfl) rfl rfl (Nat.le_of_ble_eq_true rfl) rfl rfl (Nat.zero_le _) (Nat.zero_le _) dX9_passUntil_5 ?_
  refine r_if_ne X 19 dX9_passUntil_8 rfl (fun c8 => ?_) (fun c8 => ?_)
  · replace hf := ifF hf c8
    refine r_iload_n X (x := x2) dX9_passUntil_19 rfl ?_
    obtain ⟨u20, h20, hf⟩ := bdS hf
    refine r_callS0 X [.int x2] [] (K9_isPressure h20) lkX9_188 (by decide) (Nat.le_of_ble_eq_true rfl) rfl rfl (Nat.le_of_ble_eq_true rfl) rfl rfl (Nat.zero_le _) (Nat.zero_le _) dX9_passUntil_20 ?_
    refine r_if_ne X 34 dX9_passUntil_23 rfl (fun c23 => ?_) (fun c23 => ?_)
    · replace hf := ifF hf c23
      refine r_aload_n X (x := k.b + (0)) dX9_passUntil_34 rfl ?_
      obtain ⟨u35, h35, hf⟩ := bdS hf
      refine r_callV0 X [] [] (K9_beginTrial h35) lkX9_139 clsX9 rfl _ o_main (by decide) (Nat.le_of_ble_eq_true rfl) rfl rfl (Nat.le_of_ble_eq_true rfl) rfl rfl (Nat.zero_le _) (Nat.zero_le _) dX9_passUntil_35 ?_
      refine r_aload_n X (x := k.b + (0)) dX9_passUntil_38 rfl ?_
      refine r_getfield X (v := .ref (k.b + (45 + 12 * (TP_tr tp).val))) clsX9 flX9_77 (Nat.le_of_ble_eq_true rfl) _ o_main rfl dX9_passUntil_39 ?_
      refine r_iload_n X (x := x1) dX9_passUntil_42 rfl ?_
      refine r_iload_n X (x := x2) dX9_passUntil_43 rfl ?_
      refine VW.foc (ws' := wAll k T R ly rc hn rp tp ee (updF u35 (TP_tr tp) (u35 (TP_tr tp))) w aside thought fresh mu th mp mf mh mg ou od) (by rw [updF_self]) ?_
      obtain ⟨u44, h44, hf⟩ := bdS hf
      refine r_callV0 X [.int x1, .int x2] [] (K5_passUntilAtMost h44) lkX9_191 clsX5 rfl _ (o_st1 (TP_tr tp) _) (by decide) (Nat.le_of_ble_eq_true rfl) rfl rfl (Nat.le_of_ble_eq_true rfl) rfl rfl (Nat.zero_le _) (Nat.zero_le _) dX9_passUntil_44 ?_
      refine r_istore_n X [some (.ref (k.b + (0))), some (.int x1), some (.int x2), some (.int u44.1)] dX9_passUntil_47 (Nat.le_of_ble_eq_true rfl) rfl ?_
      refine r_iload_n X (x := u44.1) dX9_passUntil_48 rfl ?_
      refine r_iconst X (v := (-1)) dX9_passUntil_49 rfl ?_
      refine r_icmp_ne X 61 dX9_passUntil_50 rfl (fun c50 => ?_) (fun c50 => ?_)
      · replace hf := ifF hf c50
        refine r_aload_n X (x := k.b + (0)) dX9_passUntil_61 rfl ?_
        obtain ⟨u62, h62, hf⟩ := bdS hf
        refine r_callV0 X [] [] (K9_keepTrial h62) lkX9_145 clsX9 rfl _ o_main (by decide) (Nat.le_of_ble_eq_true rfl) rfl rfl (Nat.le_of_ble_eq_true rfl) rfl rfl (Nat.zero_le _) (Nat.zero_le _) dX9_passUntil_62 ?_
        refine r_iload_n X (x := u44.1) dX9_passUntil_65 rfl ?_
        obtain rfl := Option.some.inj hf
        exact x_ireturn X hQ rfl rfl (Nat.le_of_ble_eq_true rfl) (Nat.le_of_ble_eq_true rfl) dX9_passUntil_66
      · replace hf := ifT hf c50
        obtain rfl := Option.some.inj hf
        exact r_throw X hT ltX9_0 (by decide) hQ rfl rfl (Nat.le_of_ble_eq_true rfl) (Nat.le_of_ble_eq_true rfl) rfl ⟨(Nat.le_of_ble_eq_true rfl), (Nat.le_of_ble_eq_true rfl), (Nat.le_of_ble_eq_true rfl), (Nat.le_of_ble_eq_true rfl)⟩ dX9_passUntil_53 dX9_passUntil_56 dX9_passUntil_57 dX9_passUntil_60
    · replace hf := ifT hf c23
      obtain rfl := Option.some.inj hf
      exact r_throw X hT ltX9_1 (by decide) hQ rfl rfl (Nat.le_of_ble_eq_true rfl) (Nat.le_of_ble_eq_true rfl) rfl ⟨(Nat.le_of_ble_eq_true rfl), (Nat.le_of_ble_eq_true rfl), (Nat.le_of_ble_eq_true rfl), (Nat.le_of_ble_eq_true rfl)⟩ dX9_passUntil_26 dX9_passUntil_29 dX9_passUntil_30 dX9_passUntil_33
  · replace hf := ifT hf c8
    obtain rfl := Option.some.inj hf
    exact r_throw X hT ltX9_2 (by decide) hQ rfl rfl (Nat.le_of_ble_eq_true rfl) (Nat.le_of_ble_eq_true rfl) rfl ⟨(Nat.le_of_ble_eq_true rfl), (Nat.le_of_ble_eq_true rfl), (Nat.le_of_ble_eq_true rfl), (Nat.le_of_ble_eq_true rfl)⟩ dX9_passUntil_11 dX9_passUntil_14 dX9_passUntil_15 dX9_passUntil_18
set_option maxRecDepth 100000 in
set_option maxHeartbeats 4000000 in
theorem K9_changeLeak {k : KT} {T : TT} {R : RR} {ly : Fin 2 → LL} {rc : RC} {hn : HN} {rp : RP} {tp : TP} {ee : EE} {st : Fin 12 → SS} {w : Nat → Int64} {aside : Nat → Int64} {thought : Nat → Int64} {fresh : Nat → Int64} {mu : MU} {th : Int32} {mp : MP} {mf : MF} {mh : MH} {mg : MG} {ou : Nat → Int64} {od : Nat → UInt64}  {x1 : Int32} {x2 : Int32} {r : Int32 × (TP) × (Fin 12 → SS)} (hf : f9_changeLeak (ly (0 : Fin 2)) tp st x1 x2 = some r) : CT k strs yX9_changeLeak cX9_changeLeak 4 (some .int) (rmD 4 0 0) 0 0 [.ref (k.b + (0)), .int x1, .int x2] (wAll k T R ly rc hn rp tp ee st w aside thought fresh mu th mp mf mh mg ou od) (some (.int r.1)) (wAll k T R ly rc hn rp r.2.1 ee r.2.2 w aside thought fresh mu th mp mf mh mg ou od) := by
  refine CT.of (by decide) (Nat.le_of_ble_eq_true rfl) ?_
  intro z X hQ
  show VW k z 0 0 (wAll k T R ly rc hn rp tp ee st w aside thought fresh mu th mp mf mh mg ou od) 0 [some (.ref (k.b + (0))), some (.int x1), some (.int x2), none] []
  unfold f9_changeLeak at hf
  refine r_aload_n X (x := k.b + (0)) dX9_changeLeak_0 rfl ?_
  refine r_getfield X (v := .ref (k.b + (45 + 12 * (TP_pr tp).val))) clsX9 flX9_73 (Nat.le_of_ble_eq_true rfl) _ o_main rfl dX9_changeLeak_1 ?_
  refine r_getfield X (v := .ref (k.b + (45 + 12 * (TP_pr tp).val + 8))) clsX5 flX9_300 (Nat.le_of_ble_eq_true rfl) _ (o_st (TP_pr tp)) rfl dX9_changeLeak_4 ?_
  refine r_iload_n X (x := x1) dX9_changeLeak_7 rfl ?_
  obtain ⟨g8, hf⟩ := gdS hf
  refine r_iaload X (f := SS_leak (st (TP_pr tp))) _ (a_st_leak (TP_pr tp)) g8 dX9_changeLeak_8 ?_
  refine r_istore_n X [some (.ref (k.b + (0))), some (.int x1), some (.int x2), some (.int ((SS_leak (st (TP_pr tp))) (ix x1)))] dX9_changeLeak_9 (Nat.le_of_ble_eq_true rfl) rfl ?_
  refine r_aload_n X (x := k.b + (0)) dX9_changeLeak_10 rfl ?_
  obtain ⟨u11, h11, hf⟩ := bdS hf
  refine r_callV0 X [] [] (K9_beginTrial h11) lkX9_139 clsX9 rfl _ o_main (by decide) (Nat.le_of_ble_eq_true rfl) rfl rfl (Nat.le_of_ble_eq_true rfl) rfl rfl (Nat.zero_le _) (Nat.zero_le _) dX9_changeLeak_11 ?_
  refine r_aload_n X (x := k.b + (0)) dX9_changeLeak_14 rfl ?_
  refine r_getfield X (v := .ref (k.b + (45 + 12 * (TP_tr tp).val))) clsX9 flX9_77 (Nat.le_of_ble_eq_true rfl) _ o_main rfl dX9_changeLeak_15 ?_
  refine r_iload_n X (x := x1) dX9_changeLeak_18 rfl ?_
  refine r_iload_n X (x := x2) dX9_changeLeak_19 rfl ?_
  refine VW.foc (ws' := wAll k T R ly rc hn rp tp ee (updF u11 (TP_tr tp) (u11 (TP_tr tp))) w aside thought fresh mu th mp mf mh mg ou od) (by rw [updF_self]) ?_
  obtain ⟨u20, h20, hf⟩ := bdS hf
  refine r_callV0 X [.int x1, .int x2] [] (K5_putLeak h20) lkX9_385 clsX5 rfl _ (o_st1 (TP_tr tp) _) (by decide) (Nat.le_of_ble_eq_true rfl) rfl rfl (Nat.le_of_ble_eq_true rfl) rfl rfl (Nat.zero_le _) (Nat.zero_le _) dX9_changeLeak_20 ?_
  refine r_aload_n X (x := k.b + (0)) dX9_changeLeak_23 rfl ?_
  obtain ⟨u24, h24, hf⟩ := bdS hf
  refine r_callV0 X [] [] (K9_keepTrial h24) lkX9_145 clsX9 rfl _ o_main (by decide) (Nat.le_of_ble_eq_true rfl) rfl rfl (Nat.le_of_ble_eq_true rfl) rfl rfl (Nat.zero_le _) (Nat.zero_le _) dX9_changeLeak_24 ?_
  refine r_iload_n X (x := (SS_leak (st (TP_pr tp))) (ix x1)) dX9_changeLeak_27 rfl ?_
  obtain rfl := Option.some.inj hf
  exact r_ireturn X hQ rfl rfl (Nat.le_of_ble_eq_true rfl) (Nat.le_of_ble_eq_true rfl) dX9_changeLeak_28
set_option maxRecDepth 100000 in
set_option maxHeartbeats 4000000 in
theorem K9_seal {k : KT} {T : TT} {R : RR} {ly : Fin 2 → LL} {rc : RC} {hn : HN} {rp : RP} {tp : TP} {ee : EE} {st : Fin 12 → SS} {w : Nat → Int64} {aside : Nat → Int64} {thought : Nat → Int64} {fresh : Nat → Int64} {mu : MU} {th : Int32} {mp : MP} {mf : MF} {mh : MH} {mg : MG} {ou : Nat → Int64} {od : Nat → UInt64}  {x1 : Int32} {r : (Int32 ⊕ Nat) × (TP) × (Fin 12 → SS)} (hf : f9_seal (ly (0 : Fin 2)) tp st x1 = some r) : CX k strs yX9_seal cX9_seal 2 (some .int) (rmD 6 1 6) [.ref (k.b + (0)), .int x1] (wAll k T R ly rc hn rp tp ee st w aside thought fresh mu th mp mf mh mg ou od) (oI r.1) (wAll k T R ly rc hn rp r.2.1 ee r.2.2 w aside thought fresh mu th mp mf mh mg ou od) := by
  refine CX.of (by decide) (Nat.le_of_ble_eq_true rfl) ?_
  intro z X hT hQ
  show VW k z 0 0 (wAll k T R ly rc hn rp tp ee st w aside thought fresh mu th mp mf mh mg ou od) 0 [some (.ref (k.b + (0))), some (.int x1)] []
  unfold f9_seal at hf
  refine r_aload_n X (x := k.b + (0)) dX9_seal_0 rfl ?_
  refine r_getfield X (v := .ref (k.b + (4 + 17 * (0 : Fin 2).val))) clsX9 flX9_28 (Nat.le_of_ble_eq_true rfl) _ o_main rfl dX9_seal_1 ?_
  refine r_iload_n X (x := x1) dX9_seal_4 rfl ?_
  obtain ⟨u5, h5, hf⟩ := bdS hf
  refine r_callV0 X [.int x1] [] (K1_hasFlange h5) lkX9_195 clsX1 rfl _ (o_lay (0 : Fin 2)) (by decide) (Nat.le_of_ble_eq_true rfl) rfl rfl (Nat.le_of_ble_eq_true rfl) rfl rfl (Nat.zero_le _) (Nat.zero_le _) dX9_seal_5 ?_
  refine r_if_ne X 19 dX9_seal_8 rfl (fun c8 => ?_) (fun c8 => ?_)
  · replace hf := ifF hf c8
    refine r_aload_n X (x := k.b + (0)) dX9_seal_19 rfl ?_
    refine r_iload_n X (x := x1) dX9_seal_20 rfl ?_
    refine r_iconst X (v := 0) dX9_seal_21 rfl ?_
    obtain ⟨u22, h22, hf⟩ := bdS hf
    refine r_callV0 X [.int x1, .int 0] [] (K9_changeLeak h22) lkX9_198 clsX9 rfl _ o_main (by decide) (Nat.le_of_ble_eq_true rfl) rfl rfl (Nat.le_of_ble_eq_true rfl) rfl rfl (Nat.zero_le _) (Nat.zero_le _) dX9_seal_22 ?_
    obtain rfl := Option.some.inj hf
    exact x_ireturn X hQ rfl rfl (Nat.le_of_ble_eq_true rfl) (Nat.le_of_ble_eq_true rfl) dX9_seal_25
  · replace hf := ifT hf c8
    obtain rfl := Option.some.inj hf
    exact r_throw X hT ltX9_2 (by decide) hQ rfl rfl (Nat.le_of_ble_eq_true rfl) (Nat.le_of_ble_eq_true rfl) rfl ⟨(Nat.le_of_ble_eq_true rfl), (Nat.le_of_ble_eq_true rfl), (Nat.le_of_ble_eq_true rfl), (Nat.le_of_ble_eq_true rfl)⟩ dX9_seal_11 dX9_seal_14 dX9_seal_15 dX9_seal_18
set_option maxRecDepth 100000 in
set_option maxHeartbeats 4000000 in
theorem K9_setLeak {k : KT} {T : TT} {R : RR} {ly : Fin 2 → LL} {rc : RC} {hn : HN} {rp : RP} {tp : TP} {ee : EE} {st : Fin 12 → SS} {w : Nat → Int64} {aside : Nat → Int64} {thought : Nat → Int64} {fresh : Nat → Int64} {mu : MU} {th : Int32} {mp : MP} {mf : MF} {mh : MH} {mg : MG} {ou : Nat → Int64} {od : Nat → UInt64}  {x1 : Int32} {x2 : Int32} {r : (Int32 ⊕ Nat) × (TP) × (Fin 12 → SS)} (hf : f9_setLeak (ly (0 : Fin 2)) tp st x1 x2 = some r) : CX k strs yX9_setLeak cX9_setLeak 3 (some .int) (rmD 6 1 6) [.ref (k.b + (0)), .int x1, .int x2] (wAll k T R ly rc hn rp tp ee st w aside thought fresh mu th mp mf mh mg ou od) (oI r.1) (wAll k T R ly rc hn rp r.2.1 ee r.2.2 w aside thought fresh mu th mp mf mh mg ou od) := by
  refine CX.of (by decide) (Nat.le_of_ble_eq_true rfl) ?_
  intro z X hT hQ
  show VW k z 0 0 (wAll k T R ly rc hn rp tp ee st w aside thought fresh mu th mp mf mh mg ou od) 0 [some (.ref (k.b + (0))), some (.int x1), some (.int x2)] []
  unfold f9_setLeak at hf
  refine r_aload_n X (x := k.b + (0)) dX9_setLeak_0 rfl ?_
  refine r_getfield X (v := .ref (k.b + (4 + 17 * (0 : Fin 2).val))) clsX9 flX9_28 (Nat.le_of_ble_eq_true rfl) _ o_main rfl dX9_setLeak_1 ?_
  refine r_iload_n X (x := x1) dX9_setLeak_4 rfl ?_
  obtain ⟨u5, h5, hf⟩ := bdS hf
  refine r_callV0 X [.int x1] [] (K1_hasFlange h5) lkX9_195 clsX1 rfl _ (o_lay (0 : Fin 2)) (by decide) (Nat.le_of_ble_eq_true rfl) rfl rfl (Nat.le_of_ble_eq_true rfl) rfl rfl (Nat.zero_le _) (Nat.zero_le _) dX9_setLeak_5 ?_
  refine r_if_ne X 19 dX9_setLeak_8 rfl (fun c8 => ?_) (fun c8 => ?_)
  · replace hf := ifF hf c8
    refine r_iload_n X (x := x2) dX9_setLeak_19 rfl ?_
    refine r_if_lt X 30 dX9_setLeak_20 rfl (fun c20 => ?_) (fun c20 => ?_)
    · replace hf := ifT hf c20
      obtain rfl := Option.some.inj hf
      exact r_throw X hT ltX9_1 (by decide) hQ rfl rfl (Nat.le_of_ble_eq_true rfl) (Nat.le_of_ble_eq_true rfl) rfl ⟨(Nat.le_of_ble_eq_true rfl), (Nat.le_of_ble_eq_true rfl), (Nat.le_of_ble_eq_true rfl), (Nat.le_of_ble_eq_true rfl)⟩ dX9_setLeak_30 dX9_setLeak_33 dX9_setLeak_34 dX9_setLeak_37
    · replace hf := ifF hf c20
      refine r_iload_n X (x := x2) dX9_setLeak_23 rfl ?_
      refine r_sipush X (v := 9999) dX9_setLeak_24 rfl ?_
      refine r_icmp_le X 38 dX9_setLeak_27 rfl (fun c27 => ?_) (fun c27 => ?_)
      · replace hf := ifT hf c27
        refine r_aload_n X (x := k.b + (0)) dX9_setLeak_38 rfl ?_
        refine r_iload_n X (x := x1) dX9_setLeak_39 rfl ?_
        refine r_iload_n X (x := x2) dX9_setLeak_40 rfl ?_
        obtain ⟨u41, h41, hf⟩ := bdS hf
        refine r_callV0 X [.int x1, .int x2] [] (K9_changeLeak h41) lkX9_198 clsX9 rfl _ o_main (by decide) (Nat.le_of_ble_eq_true rfl) rfl rfl (Nat.le_of_ble_eq_true rfl) rfl rfl (Nat.zero_le _) (Nat.zero_le _) dX9_setLeak_41 ?_
        obtain rfl := Option.some.inj hf
        exact x_ireturn X hQ rfl rfl (Nat.le_of_ble_eq_true rfl) (Nat.le_of_ble_eq_true rfl) dX9_setLeak_44
      · replace hf := ifF hf c27
        obtain rfl := Option.some.inj hf
        exact r_throw X hT ltX9_1 (by decide) hQ rfl rfl (Nat.le_of_ble_eq_true rfl) (Nat.le_of_ble_eq_true rfl) rfl ⟨(Nat.le_of_ble_eq_true rfl), (Nat.le_of_ble_eq_true rfl), (Nat.le_of_ble_eq_true rfl), (Nat.le_of_ble_eq_true rfl)⟩ dX9_setLeak_30 dX9_setLeak_33 dX9_setLeak_34 dX9_setLeak_37
  · replace hf := ifT hf c8
    obtain rfl := Option.some.inj hf
    exact r_throw X hT ltX9_2 (by decide) hQ rfl rfl (Nat.le_of_ble_eq_true rfl) (Nat.le_of_ble_eq_true rfl) rfl ⟨(Nat.le_of_ble_eq_true rfl), (Nat.le_of_ble_eq_true rfl), (Nat.le_of_ble_eq_true rfl), (Nat.le_of_ble_eq_true rfl)⟩ dX9_setLeak_11 dX9_setLeak_14 dX9_setLeak_15 dX9_setLeak_18
set_option maxRecDepth 100000 in
set_option maxHeartbeats 4000000 in
theorem K9_setOutgassing {k : KT} {T : TT} {R : RR} {ly : Fin 2 → LL} {rc : RC} {hn : HN} {rp : RP} {tp : TP} {ee : EE} {st : Fin 12 → SS} {w : Nat → Int64} {aside : Nat → Int64} {thought : Nat → Int64} {fresh : Nat → Int64} {mu : MU} {th : Int32} {mp : MP} {mf : MF} {mh : MH} {mg : MG} {ou : Nat → Int64} {od : Nat → UInt64}  {x1 : Int32} {x2 : Int32} {r : (Int32 ⊕ Nat) × (TP) × (Fin 12 → SS)} (hf : f9_setOutgassing (ly (0 : Fin 2)) tp st x1 x2 = some r) : CX k strs yX9_setOutgassing cX9_setOutgassing 4 (some .int) (rmD 6 1 6) [.ref (k.b + (0)), .int x1, .int x2] (wAll k T R ly rc hn rp tp ee st w aside thought fresh mu th mp mf mh mg ou od) (oI r.1) (wAll k T R ly rc hn rp r.2.1 ee r.2.2 w aside thought fresh mu th mp mf mh mg ou od) := by
  refine CX.of (by decide) (Nat.le_of_ble_eq_true rfl) ?_
  intro z X hT hQ
  show VW k z 0 0 (wAll k T R ly rc hn rp tp ee st w aside thought fresh mu th mp mf mh mg ou od) 0 [some (.ref (k.b + (0))), some (.int x1), some (.int x2), none] []
  unfold f9_setOutgassing at hf
  refine r_aload_n X (x := k.b + (0)) dX9_setOutgassing_0 rfl ?_
  refine r_getfield X (v := .ref (k.b + (4 + 17 * (0 : Fin 2).val))) clsX9 flX9_28 (Nat.le_of_ble_eq_true rfl) _ o_main rfl dX9_setOutgassing_1 ?_
  refine r_iload_n X (x := x1) dX9_setOutgassing_4 rfl ?_
  obtain ⟨u5, h5, hf⟩ := bdS hf
  refine r_callV0 X [.int x1] [] (K1_hasChamber h5) lkX9_185 clsX1 rfl _ (o_lay (0 : Fin 2)) (by decide) (Nat.le_of_ble_eq_true rfl) rfl rfl (Nat.le_of_ble_eq_true rfl) rfl rfl (Nat.zero_le _) (Nat.zero_le _) dX9_setOutgassing_5 ?_
  refine r_if_ne X 19 dX9_setOutgassing_8 rfl (fun c8 => ?_) (fun c8 => ?_)
  · replace hf := ifF hf c8
    refine r_iload_n X (x := x2) dX9_setOutgassing_19 rfl ?_
    refine r_if_lt X 30 dX9_setOutgassing_20 rfl (fun c20 => ?_) (fun c20 => ?_)
    · replace hf := ifT hf c20
      obtain rfl := Option.some.inj hf
      exact r_throw X hT ltX9_1 (by decide) hQ rfl rfl (Nat.le_of_ble_eq_true rfl) (Nat.le_of_ble_eq_true rfl) rfl ⟨(Nat.le_of_ble_eq_true rfl), (Nat.le_of_ble_eq_true rfl), (Nat.le_of_ble_eq_true rfl), (Nat.le_of_ble_eq_true rfl)⟩ dX9_setOutgassing_30 dX9_setOutgassing_33 dX9_setOutgassing_34 dX9_setOutgassing_37
    · replace hf := ifF hf c20
      refine r_iload_n X (x := x2) dX9_setOutgassing_23 rfl ?_
      refine r_sipush X (v := 9999) dX9_setOutgassing_24 rfl ?_
      refine r_icmp_le X 38 dX9_setOutgassing_27 rfl (fun c27 => ?_) (fun c27 => ?_)
      · replace hf := ifT hf c27
        refine r_aload_n X (x := k.b + (0)) dX9_setOutgassing_38 rfl ?_
        refine r_getfield X (v := .ref (k.b + (45 + 12 * (TP_pr tp).val))) clsX9 flX9_73 (Nat.le_of_ble_eq_true rfl) _ o_main rfl dX9_setOutgassing_39 ?_
        refine r_getfield X (v := .ref (k.b + (45 + 12 * (TP_pr tp).val + 3))) clsX5 flX9_201 (Nat.le_of_ble_eq_true rfl) _ (o_st (TP_pr tp)) rfl dX9_setOutgassing_42 ?_
        refine r_iload_n X (x := x1) dX9_setOutgassing_45 rfl ?_
        obtain ⟨g46, hf⟩ := gdS hf
        refine r_iaload X (f := SS_outgassing (st (TP_pr tp))) _ (a_st_outgassing (TP_pr tp)) g46 dX9_setOutgassing_46 ?_
        refine r_istore_n X [some (.ref (k.b + (0))), some (.int x1), some (.int x2), some (.int ((SS_outgassing (st (TP_pr tp))) (ix x1)))] dX9_setOutgassing_47 (Nat.le_of_ble_eq_true rfl) rfl ?_
        refine r_aload_n X (x := k.b + (0)) dX9_setOutgassing_48 rfl ?_
        obtain ⟨u49, h49, hf⟩ := bdS hf
        refine r_callV0 X [] [] (K9_beginTrial h49) lkX9_139 clsX9 rfl _ o_main (by decide) (Nat.le_of_ble_eq_true rfl) rfl rfl (Nat.le_of_ble_eq_true rfl) rfl rfl (Nat.zero_le _) (Nat.zero_le _) dX9_setOutgassing_49 ?_
        refine r_aload_n X (x := k.b + (0)) dX9_setOutgassing_52 rfl ?_
        refine r_getfield X (v := .ref (k.b + (45 + 12 * (TP_tr tp).val))) clsX9 flX9_77 (Nat.le_of_ble_eq_true rfl) _ o_main rfl dX9_setOutgassing_53 ?_
        refine r_getfield X (v := .ref (k.b + (45 + 12 * (TP_tr tp).val + 3))) clsX5 flX9_201 (Nat.le_of_ble_eq_true rfl) _ (o_st (TP_tr tp)) rfl dX9_setOutgassing_56 ?_
        refine r_iload_n X (x := x1) dX9_setOutgassing_59 rfl ?_
        refine r_iload_n X (x := x2) dX9_setOutgassing_60 rfl ?_
        refine VW.foc (ws' := wAll k T R ly rc hn rp tp ee (updF u49 (TP_tr tp) (u49 (TP_tr tp))) w aside thought fresh mu th mp mf mh mg ou od) (by rw [updF_self]) ?_
        refine r_iastore X (f := SS_outgassing (u49 (TP_tr tp))) (ws1 := wAll k T R ly rc hn rp tp ee (updF u49 (TP_tr tp) (SS_set_outgassing (u49 (TP_tr tp)) (upd (SS_outgassing (u49 (TP_tr tp))) (ix x1) x2))) w aside thought fresh mu th mp mf mh mg ou od) _ (a_st1_outgassing (TP_tr tp) _) g46 (s_st_outgassing (TP_tr tp) (u49 (TP_tr tp)) (upd (SS_outgassing (u49 (TP_tr tp))) (ix x1) x2)) dX9_setOutgassing_61 ?_
        refine r_aload_n X (x := k.b + (0)) dX9_setOutgassing_62 rfl ?_
        obtain ⟨u63, h63, hf⟩ := bdS hf
        refine r_callV0 X [] [] (K9_keepTrial h63) lkX9_145 clsX9 rfl _ o_main (by decide) (Nat.le_of_ble_eq_true rfl) rfl rfl (Nat.le_of_ble_eq_true rfl) rfl rfl (Nat.zero_le _) (Nat.zero_le _) dX9_setOutgassing_63 ?_
        refine r_iload_n X (x := (SS_outgassing (st (TP_pr tp))) (ix x1)) dX9_setOutgassing_66 rfl ?_
        obtain rfl := Option.some.inj hf
        exact x_ireturn X hQ rfl rfl (Nat.le_of_ble_eq_true rfl) (Nat.le_of_ble_eq_true rfl) dX9_setOutgassing_67
      · replace hf := ifF hf c27
        obtain rfl := Option.some.inj hf
        exact r_throw X hT ltX9_1 (by decide) hQ rfl rfl (Nat.le_of_ble_eq_true rfl) (Nat.le_of_ble_eq_true rfl) rfl ⟨(Nat.le_of_ble_eq_true rfl), (Nat.le_of_ble_eq_true rfl), (Nat.le_of_ble_eq_true rfl), (Nat.le_of_ble_eq_true rfl)⟩ dX9_setOutgassing_30 dX9_setOutgassing_33 dX9_setOutgassing_34 dX9_setOutgassing_37
  · replace hf := ifT hf c8
    obtain rfl := Option.some.inj hf
    exact r_throw X hT ltX9_2 (by decide) hQ rfl rfl (Nat.le_of_ble_eq_true rfl) (Nat.le_of_ble_eq_true rfl) rfl ⟨(Nat.le_of_ble_eq_true rfl), (Nat.le_of_ble_eq_true rfl), (Nat.le_of_ble_eq_true rfl), (Nat.le_of_ble_eq_true rfl)⟩ dX9_setOutgassing_11 dX9_setOutgassing_14 dX9_setOutgassing_15 dX9_setOutgassing_18
set_option maxRecDepth 100000 in
set_option maxHeartbeats 4000000 in
theorem K9_setRule {k : KT} {T : TT} {R : RR} {ly : Fin 2 → LL} {rc : RC} {hn : HN} {rp : RP} {tp : TP} {ee : EE} {st : Fin 12 → SS} {w : Nat → Int64} {aside : Nat → Int64} {thought : Nat → Int64} {fresh : Nat → Int64} {mu : MU} {th : Int32} {mp : MP} {mf : MF} {mh : MH} {mg : MG} {ou : Nat → Int64} {od : Nat → UInt64}  {x1 : Int32} {x2 : Int32} {r : (Int32 ⊕ Nat) × (TP) × (Fin 12 → SS)} (hf : f9_setRule (ly (0 : Fin 2)) tp st x1 x2 = some r) : CX k strs yX9_setRule cX9_setRule 4 (some .int) (rmD 6 1 6) [.ref (k.b + (0)), .int x1, .int x2] (wAll k T R ly rc hn rp tp ee st w aside thought fresh mu th mp mf mh mg ou od) (oI r.1) (wAll k T R ly rc hn rp r.2.1 ee r.2.2 w aside thought fresh mu th mp mf mh mg ou od) := by
  refine CX.of (by decide) (Nat.le_of_ble_eq_true rfl) ?_
  intro z X hT hQ
  show VW k z 0 0 (wAll k T R ly rc hn rp tp ee st w aside thought fresh mu th mp mf mh mg ou od) 0 [some (.ref (k.b + (0))), some (.int x1), some (.int x2), none] []
  unfold f9_setRule at hf
  refine r_aload_n X (x := k.b + (0)) dX9_setRule_0 rfl ?_
  refine r_getfield X (v := .ref (k.b + (4 + 17 * (0 : Fin 2).val))) clsX9 flX9_28 (Nat.le_of_ble_eq_true rfl) _ o_main rfl dX9_setRule_1 ?_
  refine r_iload_n X (x := x1) dX9_setRule_4 rfl ?_
  obtain ⟨u5, h5, hf⟩ := bdS hf
  refine r_callV0 X [.int x1] [] (K1_hasValve h5) lkX9_128 clsX1 rfl _ (o_lay (0 : Fin 2)) (by decide) (Nat.le_of_ble_eq_true rfl) rfl rfl (Nat.le_of_ble_eq_true rfl) rfl rfl (Nat.zero_le _) (Nat.zero_le _) dX9_setRule_5 ?_
  refine r_if_ne X 19 dX9_setRule_8 rfl (fun c8 => ?_) (fun c8 => ?_)
  · replace hf := ifF hf c8
    refine r_iload_n X (x := x2) dX9_setRule_19 rfl ?_
    obtain ⟨u20, h20, hf⟩ := bdS hf
    refine r_callS0 X [.int x2] [] (K9_isPressure h20) lkX9_188 (by decide) (Nat.le_of_ble_eq_true rfl) rfl rfl (Nat.le_of_ble_eq_true rfl) rfl rfl (Nat.zero_le _) (Nat.zero_le _) dX9_setRule_20 ?_
    refine r_if_ne X 34 dX9_setRule_23 rfl (fun c23 => ?_) (fun c23 => ?_)
    · replace hf := ifF hf c23
      refine r_aload_n X (x := k.b + (0)) dX9_setRule_34 rfl ?_
      refine r_getfield X (v := .ref (k.b + (45 + 12 * (TP_pr tp).val))) clsX9 flX9_73 (Nat.le_of_ble_eq_true rfl) _ o_main rfl dX9_setRule_35 ?_
      refine r_getfield X (v := .ref (k.b + (45 + 12 * (TP_pr tp).val + 5))) clsX5 flX9_204 (Nat.le_of_ble_eq_true rfl) _ (o_st (TP_pr tp)) rfl dX9_setRule_38 ?_
      refine r_iload_n X (x := x1) dX9_setRule_41 rfl ?_
      obtain ⟨g42, hf⟩ := gdS hf
      refine r_iaload X (f := SS_rule (st (TP_pr tp))) _ (a_st_rule (TP_pr tp)) g42 dX9_setRule_42 ?_
      refine r_istore_n X [some (.ref (k.b + (0))), some (.int x1), some (.int x2), some (.int ((SS_rule (st (TP_pr tp))) (ix x1)))] dX9_setRule_43 (Nat.le_of_ble_eq_true rfl) rfl ?_
      refine r_aload_n X (x := k.b + (0)) dX9_setRule_44 rfl ?_
      obtain ⟨u45, h45, hf⟩ := bdS hf
      refine r_callV0 X [] [] (K9_beginTrial h45) lkX9_139 clsX9 rfl _ o_main (by decide) (Nat.le_of_ble_eq_true rfl) rfl rfl (Nat.le_of_ble_eq_true rfl) rfl rfl (Nat.zero_le _) (Nat.zero_le _) dX9_setRule_45 ?_
      refine r_aload_n X (x := k.b + (0)) dX9_setRule_48 rfl ?_
      refine r_getfield X (v := .ref (k.b + (45 + 12 * (TP_tr tp).val))) clsX9 flX9_77 (Nat.le_of_ble_eq_true rfl) _ o_main rfl dX9_setRule_49 ?_
      refine r_getfield X (v := .ref (k.b + (45 + 12 * (TP_tr tp).val + 5))) clsX5 flX9_204 (Nat.le_of_ble_eq_true rfl) _ (o_st (TP_tr tp)) rfl dX9_setRule_52 ?_
      refine r_iload_n X (x := x1) dX9_setRule_55 rfl ?_
      refine r_iload_n X (x := x2) dX9_setRule_56 rfl ?_
      refine VW.foc (ws' := wAll k T R ly rc hn rp tp ee (updF u45 (TP_tr tp) (u45 (TP_tr tp))) w aside thought fresh mu th mp mf mh mg ou od) (by rw [updF_self]) ?_
      refine r_iastore X (f := SS_rule (u45 (TP_tr tp))) (ws1 := wAll k T R ly rc hn rp tp ee (updF u45 (TP_tr tp) (SS_set_rule (u45 (TP_tr tp)) (upd (SS_rule (u45 (TP_tr tp))) (ix x1) x2))) w aside thought fresh mu th mp mf mh mg ou od) _ (a_st1_rule (TP_tr tp) _) g42 (s_st_rule (TP_tr tp) (u45 (TP_tr tp)) (upd (SS_rule (u45 (TP_tr tp))) (ix x1) x2)) dX9_setRule_57 ?_
      refine r_aload_n X (x := k.b + (0)) dX9_setRule_58 rfl ?_
      obtain ⟨u59, h59, hf⟩ := bdS hf
      refine r_callV0 X [] [] (K9_keepTrial h59) lkX9_145 clsX9 rfl _ o_main (by decide) (Nat.le_of_ble_eq_true rfl) rfl rfl (Nat.le_of_ble_eq_true rfl) rfl rfl (Nat.zero_le _) (Nat.zero_le _) dX9_setRule_59 ?_
      refine r_iload_n X (x := (SS_rule (st (TP_pr tp))) (ix x1)) dX9_setRule_62 rfl ?_
      obtain rfl := Option.some.inj hf
      exact x_ireturn X hQ rfl rfl (Nat.le_of_ble_eq_true rfl) (Nat.le_of_ble_eq_true rfl) dX9_setRule_63
    · replace hf := ifT hf c23
      obtain rfl := Option.some.inj hf
      exact r_throw X hT ltX9_1 (by decide) hQ rfl rfl (Nat.le_of_ble_eq_true rfl) (Nat.le_of_ble_eq_true rfl) rfl ⟨(Nat.le_of_ble_eq_true rfl), (Nat.le_of_ble_eq_true rfl), (Nat.le_of_ble_eq_true rfl), (Nat.le_of_ble_eq_true rfl)⟩ dX9_setRule_26 dX9_setRule_29 dX9_setRule_30 dX9_setRule_33
  · replace hf := ifT hf c8
    obtain rfl := Option.some.inj hf
    exact r_throw X hT ltX9_2 (by decide) hQ rfl rfl (Nat.le_of_ble_eq_true rfl) (Nat.le_of_ble_eq_true rfl) rfl ⟨(Nat.le_of_ble_eq_true rfl), (Nat.le_of_ble_eq_true rfl), (Nat.le_of_ble_eq_true rfl), (Nat.le_of_ble_eq_true rfl)⟩ dX9_setRule_11 dX9_setRule_14 dX9_setRule_15 dX9_setRule_18
set_option maxRecDepth 100000 in
set_option maxHeartbeats 4000000 in
theorem K9_test {k : KT} {T : TT} {R : RR} {ly : Fin 2 → LL} {rc : RC} {hn : HN} {rp : RP} {tp : TP} {ee : EE} {st : Fin 12 → SS} {w : Nat → Int64} {aside : Nat → Int64} {thought : Nat → Int64} {fresh : Nat → Int64} {mu : MU} {th : Int32} {mp : MP} {mf : MF} {mh : MH} {mg : MG} {ou : Nat → Int64} {od : Nat → UInt64}  {x1 : Int32} {x2 : Int32} {r : (Int32 ⊕ Nat) × (TP) × (Fin 12 → SS)} (hf : f9_test (ly (0 : Fin 2)) tp st x1 x2 = some r) : CX k strs yX9_test cX9_test 4 (some .int) (rmD 6 1 6) [.ref (k.b + (0)), .int x1, .int x2] (wAll k T R ly rc hn rp tp ee st w aside thought fresh mu th mp mf mh mg ou od) (oI r.1) (wAll k T R ly rc hn rp r.2.1 ee r.2.2 w aside thought fresh mu th mp mf mh mg ou od) := by
  refine CX.of (by decide) (Nat.le_of_ble_eq_true rfl) ?_
  intro z X hT hQ
  show VW k z 0 0 (wAll k T R ly rc hn rp tp ee st w aside thought fresh mu th mp mf mh mg ou od) 0 [some (.ref (k.b + (0))), some (.int x1), some (.int x2), none] []
  unfold f9_test at hf
  refine r_aload_n X (x := k.b + (0)) dX9_test_0 rfl ?_
  refine r_getfield X (v := .ref (k.b + (4 + 17 * (0 : Fin 2).val))) clsX9 flX9_28 (Nat.le_of_ble_eq_true rfl) _ o_main rfl dX9_test_1 ?_
  refine r_iload_n X (x := x1) dX9_test_4 rfl ?_
  obtain ⟨u5, h5, hf⟩ := bdS hf
  refine r_callV0 X [.int x1] [] (K1_hasChamber h5) lkX9_185 clsX1 rfl _ (o_lay (0 : Fin 2)) (by decide) (Nat.le_of_ble_eq_true rfl) rfl rfl (Nat.le_of_ble_eq_true rfl) rfl rfl (Nat.zero_le _) (Nat.zero_le _) dX9_test_5 ?_
  refine r_if_ne X 19 dX9_test_8 rfl (fun c8 => ?_) (fun c8 => ?_)
  · replace hf := ifF hf c8
    refine r_iload_n X (x := x2) dX9_test_19 rfl ?_
    obtain ⟨u20, h20, hf⟩ := bdS hf
    refine r_callS0 X [.int x2] [] (K9_isTestTicks h20) lkX9_207 (by decide) (Nat.le_of_ble_eq_true rfl) rfl rfl (Nat.le_of_ble_eq_true rfl) rfl rfl (Nat.zero_le _) (Nat.zero_le _) dX9_test_20 ?_
    refine r_if_ne X 34 dX9_test_23 rfl (fun c23 => ?_) (fun c23 => ?_)
    · replace hf := ifF hf c23
      refine r_aload_n X (x := k.b + (0)) dX9_test_34 rfl ?_
      refine r_getfield X (v := .ref (k.b + (45 + 12 * (TP_pr tp).val))) clsX9 flX9_73 (Nat.le_of_ble_eq_true rfl) _ o_main rfl dX9_test_35 ?_
      refine r_iload_n X (x := x1) dX9_test_38 rfl ?_
      obtain ⟨u39, h39, hf⟩ := bdS hf
      refine r_callV0 X [.int x1] [] (CT_unS (W := fun zz => wAll k T R ly rc hn rp tp ee zz w aside thought fresh mu th mp mf mh mg ou od) (W2 := fun zz => wAll k T R ly rc hn rp tp ee zz w aside thought fresh mu th mp mf mh mg ou od) (st := st) (TP_pr tp) (K5_isShutOff h39)) lkX9_210 clsX5 rfl _ (o_st (TP_pr tp)) (by decide) (Nat.le_of_ble_eq_true rfl) rfl rfl (Nat.le_of_ble_eq_true rfl) rfl rfl (Nat.zero_le _) (Nat.zero_le _) dX9_test_39 ?_
      refine r_if_ne X 53 dX9_test_42 rfl (fun c42 => ?_) (fun c42 => ?_)
      · replace hf := ifF hf c42
        refine r_aload_n X (x := k.b + (0)) dX9_test_53 rfl ?_
        obtain ⟨u54, h54, hf⟩ := bdS hf
        refine r_callV0 X [] [] (K9_beginTrial h54) lkX9_139 clsX9 rfl _ o_main (by decide) (Nat.le_of_ble_eq_true rfl) rfl rfl (Nat.le_of_ble_eq_true rfl) rfl rfl (Nat.zero_le _) (Nat.zero_le _) dX9_test_54 ?_
        refine r_aload_n X (x := k.b + (0)) dX9_test_57 rfl ?_
        refine r_getfield X (v := .ref (k.b + (45 + 12 * (TP_tr tp).val))) clsX9 flX9_77 (Nat.le_of_ble_eq_true rfl) _ o_main rfl dX9_test_58 ?_
        refine r_iload_n X (x := x1) dX9_test_61 rfl ?_
        refine r_iload_n X (x := x2) dX9_test_62 rfl ?_
        refine VW.foc (ws' := wAll k T R ly rc hn rp tp ee (updF u54 (TP_tr tp) (u54 (TP_tr tp))) w aside thought fresh mu th mp mf mh mg ou od) (by rw [updF_self]) ?_
        obtain ⟨u63, h63, hf⟩ := bdS hf
        refine r_callV0 X [.int x1, .int x2] [] (K5_makeTest h63) lkX9_213 clsX5 rfl _ (o_st1 (TP_tr tp) _) (by decide) (Nat.le_of_ble_eq_true rfl) rfl rfl (Nat.le_of_ble_eq_true rfl) rfl rfl (Nat.zero_le _) (Nat.zero_le _) dX9_test_63 ?_
        refine r_istore_n X [some (.ref (k.b + (0))), some (.int x1), some (.int x2), some (.int u63.1)] dX9_test_66 (Nat.le_of_ble_eq_true rfl) rfl ?_
        refine r_aload_n X (x := k.b + (0)) dX9_test_67 rfl ?_
        obtain ⟨u68, h68, hf⟩ := bdS hf
        refine r_callV0 X [] [] (K9_keepTrial h68) lkX9_145 clsX9 rfl _ o_main (by decide) (Nat.le_of_ble_eq_true rfl) rfl rfl (Nat.le_of_ble_eq_true rfl) rfl rfl (Nat.zero_le _) (Nat.zero_le _) dX9_test_68 ?_
        refine r_iload_n X (x := u63.1) dX9_test_71 rfl ?_
        obtain rfl := Option.some.inj hf
        exact x_ireturn X hQ rfl rfl (Nat.le_of_ble_eq_true rfl) (Nat.le_of_ble_eq_true rfl) dX9_test_72
      · replace hf := ifT hf c42
        obtain rfl := Option.some.inj hf
        exact r_throw X hT ltX9_0 (by decide) hQ rfl rfl (Nat.le_of_ble_eq_true rfl) (Nat.le_of_ble_eq_true rfl) rfl ⟨(Nat.le_of_ble_eq_true rfl), (Nat.le_of_ble_eq_true rfl), (Nat.le_of_ble_eq_true rfl), (Nat.le_of_ble_eq_true rfl)⟩ dX9_test_45 dX9_test_48 dX9_test_49 dX9_test_52
    · replace hf := ifT hf c23
      obtain rfl := Option.some.inj hf
      exact r_throw X hT ltX9_1 (by decide) hQ rfl rfl (Nat.le_of_ble_eq_true rfl) (Nat.le_of_ble_eq_true rfl) rfl ⟨(Nat.le_of_ble_eq_true rfl), (Nat.le_of_ble_eq_true rfl), (Nat.le_of_ble_eq_true rfl), (Nat.le_of_ble_eq_true rfl)⟩ dX9_test_26 dX9_test_29 dX9_test_30 dX9_test_33
  · replace hf := ifT hf c8
    obtain rfl := Option.some.inj hf
    exact r_throw X hT ltX9_2 (by decide) hQ rfl rfl (Nat.le_of_ble_eq_true rfl) (Nat.le_of_ble_eq_true rfl) rfl ⟨(Nat.le_of_ble_eq_true rfl), (Nat.le_of_ble_eq_true rfl), (Nat.le_of_ble_eq_true rfl), (Nat.le_of_ble_eq_true rfl)⟩ dX9_test_11 dX9_test_14 dX9_test_15 dX9_test_18
set_option maxRecDepth 100000 in
set_option maxHeartbeats 4000000 in
theorem K9_runRecipe {k : KT} {T : TT} {R : RR} {ly : Fin 2 → LL} {rc : RC} {hn : HN} {rp : RP} {tp : TP} {ee : EE} {st : Fin 12 → SS} {w : Nat → Int64} {aside : Nat → Int64} {thought : Nat → Int64} {fresh : Nat → Int64} {mu : MU} {th : Int32} {mp : MP} {mf : MF} {mh : MH} {mg : MG} {ou : Nat → Int64} {od : Nat → UInt64}   {r : Int32 × (TT) × (RR) × (RC) × (TP) × (Fin 12 → SS)} (hf : f9_runRecipe (ly (0 : Fin 2)) T R rc tp st  = some r) : CT k strs yX9_runRecipe cX9_runRecipe 2 (some .int) (rmD 13 0 0) 0 0 [.ref (k.b + (0))] (wAll k T R ly rc hn rp tp ee st w aside thought fresh mu th mp mf mh mg ou od) (some (.int r.1)) (wAll k r.2.1 r.2.2.1 ly r.2.2.2.1 hn rp r.2.2.2.2.1 ee r.2.2.2.2.2 w aside thought fresh mu th mp mf mh mg ou od) := by
  refine CT.of (by decide) (Nat.le_of_ble_eq_true rfl) ?_
  intro z X hQ
  show VW k z 0 0 (wAll k T R ly rc hn rp tp ee st w aside thought fresh mu th mp mf mh mg ou od) 0 [some (.ref (k.b + (0))), none] []
  unfold f9_runRecipe at hf
  refine r_aload_n X (x := k.b + (0)) dX9_runRecipe_0 rfl ?_
  obtain ⟨u1, h1, hf⟩ := bdS hf
  refine r_callV0 X [] [] (K9_beginTrial h1) lkX9_139 clsX9 rfl _ o_main (by decide) (Nat.le_of_ble_eq_true rfl) rfl rfl (Nat.le_of_ble_eq_true rfl) rfl rfl (Nat.zero_le _) (Nat.zero_le _) dX9_runRecipe_1 ?_
  refine r_aload_n X (x := k.b + (0)) dX9_runRecipe_4 rfl ?_
  refine r_getfield X (v := .ref (k.b + (37))) clsX9 flX9_46 (Nat.le_of_ble_eq_true rfl) _ o_main rfl dX9_runRecipe_5 ?_
  refine r_aload_n X (x := k.b + (0)) dX9_runRecipe_8 rfl ?_
  refine r_getfield X (v := .ref (k.b + (45 + 12 * (TP_tr tp).val))) clsX9 flX9_77 (Nat.le_of_ble_eq_true rfl) _ o_main rfl dX9_runRecipe_9 ?_
  refine VW.foc (ws' := wAll k T R ly rc hn rp tp ee (updF u1 (TP_tr tp) (u1 (TP_tr tp))) w aside thought fresh mu th mp mf mh mg ou od) (by rw [updF_self]) ?_
  obtain ⟨u12, h12, hf⟩ := bdS hf
  refine r_callV0 X [.ref (k.b + (45 + 12 * (TP_tr tp).val))] [] (K3_run h12) lkX9_216 clsX3 rfl _ o_recipe (by decide) (Nat.le_of_ble_eq_true rfl) rfl rfl (Nat.le_of_ble_eq_true rfl) rfl rfl (Nat.zero_le _) (Nat.zero_le _) dX9_runRecipe_12 ?_
  refine r_istore_n X [some (.ref (k.b + (0))), some (.int u12.1)] dX9_runRecipe_15 (Nat.le_of_ble_eq_true rfl) rfl ?_
  refine r_aload_n X (x := k.b + (0)) dX9_runRecipe_16 rfl ?_
  refine r_getfield X (v := .ref (k.b + (1))) clsX9 flX9_12 (Nat.le_of_ble_eq_true rfl) _ o_main rfl dX9_runRecipe_17 ?_
  refine r_iconst X (v := 0) dX9_runRecipe_20 rfl ?_
  refine r_putfield X (ws1 := wAll k (TT_set_length T 0) u12.2.1 ly u12.2.2.1 hn rp tp ee (updF u1 (TP_tr tp) u12.2.2.2) w aside thought fresh mu th mp mf mh mg ou od) clsX8 flX9_93 (Nat.le_of_ble_eq_true rfl) rfl rfl rfl _ o_text (Nat.le_of_ble_eq_true rfl) (s_T_length 0) dX9_runRecipe_21 ?_
  refine r_iload_n X (x := u12.1) dX9_runRecipe_24 rfl ?_
  refine r_if_lt X 32 dX9_runRecipe_25 rfl (fun c25 => ?_) (fun c25 => ?_)
  · replace hf := ifT hf c25
    refine r_iload_n X (x := u12.1) dX9_runRecipe_32 rfl ?_
    obtain rfl := Option.some.inj hf
    exact r_ireturn X hQ rfl rfl (Nat.le_of_ble_eq_true rfl) (Nat.le_of_ble_eq_true rfl) dX9_runRecipe_33
  · replace hf := ifF hf c25
    refine r_aload_n X (x := k.b + (0)) dX9_runRecipe_28 rfl ?_
    obtain ⟨u29, h29, hf⟩ := bdS hf
    refine r_callV0 X [] [] (K9_keepTrial h29) lkX9_145 clsX9 rfl _ o_main (by decide) (Nat.le_of_ble_eq_true rfl) rfl rfl (Nat.le_of_ble_eq_true rfl) rfl rfl (Nat.zero_le _) (Nat.zero_le _) dX9_runRecipe_29 ?_
    refine r_iload_n X (x := u12.1) dX9_runRecipe_32 rfl ?_
    obtain rfl := Option.some.inj hf
    exact r_ireturn X hQ rfl rfl (Nat.le_of_ble_eq_true rfl) (Nat.le_of_ble_eq_true rfl) dX9_runRecipe_33
set_option maxRecDepth 100000 in
set_option maxHeartbeats 4000000 in
theorem B9_sum_vt_B4 {k : KT} {z : ZT} {T : TT} {R : RR} {ly : Fin 2 → LL} {rc : RC} {hn : HN} {rp : RP} {tp : TP} {ee : EE} {st : Fin 12 → SS} {w : Nat → Int64} {aside : Nat → Int64} {thought : Nat → Int64} {fresh : Nat → Int64} {mu : MU} {th : Int32} {mp : MP} {mf : MF} {mh : MH} {mg : MG} {ou : Nat → Int64} {od : Nat → UInt64} {j : Fin 12} {S : SS} {r : Int32} (X : XX k strs z RX9 cX9_sum 4 (some .int) (rmD 0 0 0)) (hQ : zQ z = MQ (zB z) (Qof k (some (.int r)) (wAll k T R ly rc hn rp tp ee (updF st j S) w aside thought fresh mu th mp mf mh mg ou od)) (zA z) (zS z) 0 0 (kA k)) : ∀ (fu : Nat) (x1 : Int32) (x2 : Int32) (x3 : Int32), f9_sum_vt_B4 S fu x1 x2 x3 = some r → VW k z 0 0 (wAll k T R ly rc hn rp tp ee (updF st j S) w aside thought fresh mu th mp mf mh mg ou od) 4 [some (.ref (k.b + (45 + 12 * j.val + 6))), some (.int x1), some (.int x2), some (.int x3)] [] := by
  intro fu
  induction fu with
  | zero =>
    intro x1 x2 x3 hf
    rw [f9_sum_vt_B4] at hf
    cases hf
  | succ fu ih =>
    intro x1 x2 x3 hf
    rw [f9_sum_vt_B4] at hf
    refine r_iload_n X (x := x3) dX9_sum_4 rfl ?_
    refine r_iload_n X (x := x1) dX9_sum_5 rfl ?_
    refine r_icmp_ge X 27 dX9_sum_6 rfl (fun c6 => ?_) (fun c6 => ?_)
    · replace hf := ifT hf c6
      refine r_iload_n X (x := x2) dX9_sum_27 rfl ?_
      obtain rfl := Option.some.inj hf
      exact r_ireturn X hQ rfl rfl (Nat.le_of_ble_eq_true rfl) (Nat.le_of_ble_eq_true rfl) dX9_sum_28
    · replace hf := ifF hf c6
      refine r_iload_n X (x := x3) dX9_sum_9 rfl ?_
      refine r_aload_n X (x := k.b + (45 + 12 * j.val + 6)) dX9_sum_10 rfl ?_
      refine r_alen X (t0 := 0) _ (a_st1_valveTrips j _) rfl dX9_sum_11 ?_
      refine r_icmp_ge X 27 dX9_sum_12 rfl (fun c12 => ?_) (fun c12 => ?_)
      · replace hf := ifT hf c12
        refine r_iload_n X (x := x2) dX9_sum_27 rfl ?_
        obtain rfl := Option.some.inj hf
        exact r_ireturn X hQ rfl rfl (Nat.le_of_ble_eq_true rfl) (Nat.le_of_ble_eq_true rfl) dX9_sum_28
      · replace hf := ifF hf c12
        refine r_iload_n X (x := x2) dX9_sum_15 rfl ?_
        refine r_aload_n X (x := k.b + (45 + 12 * j.val + 6)) dX9_sum_16 rfl ?_
        refine r_iload_n X (x := x3) dX9_sum_17 rfl ?_
        obtain ⟨g18, hf⟩ := gdS hf
        refine r_iaload X (f := SS_valveTrips S) _ (a_st1_valveTrips j _) g18 dX9_sum_18 ?_
        refine r_iadd X dX9_sum_19 ?_
        refine r_istore_n X [some (.ref (k.b + (45 + 12 * j.val + 6))), some (.int x1), some (.int (x2 + ((SS_valveTrips S) (ix x3)))), some (.int x3)] dX9_sum_20 (Nat.le_of_ble_eq_true rfl) rfl ?_
        refine r_iinc X (x := x3) (v := x3 + 1) [some (.ref (k.b + (45 + 12 * j.val + 6))), some (.int x1), some (.int (x2 + ((SS_valveTrips S) (ix x3)))), some (.int (x3 + 1))] dX9_sum_21 rfl rfl rfl ?_
        refine r_goto X 4 dX9_sum_24 rfl ?_
        exact ih x1 (x2 + ((SS_valveTrips S) (ix x3))) (x3 + 1) hf
set_option maxRecDepth 100000 in
set_option maxHeartbeats 4000000 in
theorem K9_sum_vt {k : KT} {T : TT} {R : RR} {ly : Fin 2 → LL} {rc : RC} {hn : HN} {rp : RP} {tp : TP} {ee : EE} {st : Fin 12 → SS} {w : Nat → Int64} {aside : Nat → Int64} {thought : Nat → Int64} {fresh : Nat → Int64} {mu : MU} {th : Int32} {mp : MP} {mf : MF} {mh : MH} {mg : MG} {ou : Nat → Int64} {od : Nat → UInt64} {j : Fin 12} {S : SS} {x1 : Int32} {r : Int32} (hf : f9_sum_vt S  x1 = some r) : CT k strs yX9_sum cX9_sum 4 (some .int) (rmD 0 0 0) 0 0 [.ref (k.b + (45 + 12 * j.val + 6)), .int x1] (wAll k T R ly rc hn rp tp ee (updF st j S) w aside thought fresh mu th mp mf mh mg ou od) (some (.int r)) (wAll k T R ly rc hn rp tp ee (updF st j S) w aside thought fresh mu th mp mf mh mg ou od) := by
  refine CT.of (by decide) (Nat.le_of_ble_eq_true rfl) ?_
  intro z X hQ
  show VW k z 0 0 (wAll k T R ly rc hn rp tp ee (updF st j S) w aside thought fresh mu th mp mf mh mg ou od) 0 [some (.ref (k.b + (45 + 12 * j.val + 6))), some (.int x1), none, none] []
  unfold f9_sum_vt at hf
  refine r_iconst X (v := 0) dX9_sum_0 rfl ?_
  refine r_istore_n X [some (.ref (k.b + (45 + 12 * j.val + 6))), some (.int x1), some (.int 0), none] dX9_sum_1 (Nat.le_of_ble_eq_true rfl) rfl ?_
  refine r_iconst X (v := 0) dX9_sum_2 rfl ?_
  refine r_istore_n X [some (.ref (k.b + (45 + 12 * j.val + 6))), some (.int x1), some (.int 0), some (.int 0)] dX9_sum_3 (Nat.le_of_ble_eq_true rfl) rfl ?_
  exact B9_sum_vt_B4 X hQ FU x1 0 0 hf
set_option maxRecDepth 100000 in
set_option maxHeartbeats 4000000 in
theorem B9_sum_pt_B4 {k : KT} {z : ZT} {T : TT} {R : RR} {ly : Fin 2 → LL} {rc : RC} {hn : HN} {rp : RP} {tp : TP} {ee : EE} {st : Fin 12 → SS} {w : Nat → Int64} {aside : Nat → Int64} {thought : Nat → Int64} {fresh : Nat → Int64} {mu : MU} {th : Int32} {mp : MP} {mf : MF} {mh : MH} {mg : MG} {ou : Nat → Int64} {od : Nat → UInt64} {j : Fin 12} {S : SS} {r : Int32} (X : XX k strs z RX9 cX9_sum 4 (some .int) (rmD 0 0 0)) (hQ : zQ z = MQ (zB z) (Qof k (some (.int r)) (wAll k T R ly rc hn rp tp ee (updF st j S) w aside thought fresh mu th mp mf mh mg ou od)) (zA z) (zS z) 0 0 (kA k)) : ∀ (fu : Nat) (x1 : Int32) (x2 : Int32) (x3 : Int32), f9_sum_pt_B4 S fu x1 x2 x3 = some r → VW k z 0 0 (wAll k T R ly rc hn rp tp ee (updF st j S) w aside thought fresh mu th mp mf mh mg ou od) 4 [some (.ref (k.b + (45 + 12 * j.val + 7))), some (.int x1), some (.int x2), some (.int x3)] [] := by
  intro fu
  induction fu with
  | zero =>
    intro x1 x2 x3 hf
    rw [f9_sum_pt_B4] at hf
    cases hf
  | succ fu ih =>
    intro x1 x2 x3 hf
    rw [f9_sum_pt_B4] at hf
    refine r_iload_n X (x := x3) dX9_sum_4 rfl ?_
    refine r_iload_n X (x := x1) dX9_sum_5 rfl ?_
    refine r_icmp_ge X 27 dX9_sum_6 rfl (fun c6 => ?_) (fun c6 => ?_)
    · replace hf := ifT hf c6
      refine r_iload_n X (x := x2) dX9_sum_27 rfl ?_
      obtain rfl := Option.some.inj hf
      exact r_ireturn X hQ rfl rfl (Nat.le_of_ble_eq_true rfl) (Nat.le_of_ble_eq_true rfl) dX9_sum_28
    · replace hf := ifF hf c6
      refine r_iload_n X (x := x3) dX9_sum_9 rfl ?_
      refine r_aload_n X (x := k.b + (45 + 12 * j.val + 7)) dX9_sum_10 rfl ?_
      refine r_alen X (t0 := 0) _ (a_st1_pumpTrips j _) rfl dX9_sum_11 ?_
      refine r_icmp_ge X 27 dX9_sum_12 rfl (fun c12 => ?_) (fun c12 => ?_)
      · replace hf := ifT hf c12
        refine r_iload_n X (x := x2) dX9_sum_27 rfl ?_
        obtain rfl := Option.some.inj hf
        exact r_ireturn X hQ rfl rfl (Nat.le_of_ble_eq_true rfl) (Nat.le_of_ble_eq_true rfl) dX9_sum_28
      · replace hf := ifF hf c12
        refine r_iload_n X (x := x2) dX9_sum_15 rfl ?_
        refine r_aload_n X (x := k.b + (45 + 12 * j.val + 7)) dX9_sum_16 rfl ?_
        refine r_iload_n X (x := x3) dX9_sum_17 rfl ?_
        obtain ⟨g18, hf⟩ := gdS hf
        refine r_iaload X (f := SS_pumpTrips S) _ (a_st1_pumpTrips j _) g18 dX9_sum_18 ?_
        refine r_iadd X dX9_sum_19 ?_
        refine r_istore_n X [some (.ref (k.b + (45 + 12 * j.val + 7))), some (.int x1), some (.int (x2 + ((SS_pumpTrips S) (ix x3)))), some (.int x3)] dX9_sum_20 (Nat.le_of_ble_eq_true rfl) rfl ?_
        refine r_iinc X (x := x3) (v := x3 + 1) [some (.ref (k.b + (45 + 12 * j.val + 7))), some (.int x1), some (.int (x2 + ((SS_pumpTrips S) (ix x3)))), some (.int (x3 + 1))] dX9_sum_21 rfl rfl rfl ?_
        refine r_goto X 4 dX9_sum_24 rfl ?_
        exact ih x1 (x2 + ((SS_pumpTrips S) (ix x3))) (x3 + 1) hf
set_option maxRecDepth 100000 in
set_option maxHeartbeats 4000000 in
theorem K9_sum_pt {k : KT} {T : TT} {R : RR} {ly : Fin 2 → LL} {rc : RC} {hn : HN} {rp : RP} {tp : TP} {ee : EE} {st : Fin 12 → SS} {w : Nat → Int64} {aside : Nat → Int64} {thought : Nat → Int64} {fresh : Nat → Int64} {mu : MU} {th : Int32} {mp : MP} {mf : MF} {mh : MH} {mg : MG} {ou : Nat → Int64} {od : Nat → UInt64} {j : Fin 12} {S : SS} {x1 : Int32} {r : Int32} (hf : f9_sum_pt S  x1 = some r) : CT k strs yX9_sum cX9_sum 4 (some .int) (rmD 0 0 0) 0 0 [.ref (k.b + (45 + 12 * j.val + 7)), .int x1] (wAll k T R ly rc hn rp tp ee (updF st j S) w aside thought fresh mu th mp mf mh mg ou od) (some (.int r)) (wAll k T R ly rc hn rp tp ee (updF st j S) w aside thought fresh mu th mp mf mh mg ou od) := by
  refine CT.of (by decide) (Nat.le_of_ble_eq_true rfl) ?_
  intro z X hQ
  show VW k z 0 0 (wAll k T R ly rc hn rp tp ee (updF st j S) w aside thought fresh mu th mp mf mh mg ou od) 0 [some (.ref (k.b + (45 + 12 * j.val + 7))), some (.int x1), none, none] []
  unfold f9_sum_pt at hf
  refine r_iconst X (v := 0) dX9_sum_0 rfl ?_
  refine r_istore_n X [some (.ref (k.b + (45 + 12 * j.val + 7))), some (.int x1), some (.int 0), none] dX9_sum_1 (Nat.le_of_ble_eq_true rfl) rfl ?_
  refine r_iconst X (v := 0) dX9_sum_2 rfl ?_
  refine r_istore_n X [some (.ref (k.b + (45 + 12 * j.val + 7))), some (.int x1), some (.int 0), some (.int 0)] dX9_sum_3 (Nat.le_of_ble_eq_true rfl) rfl ?_
  exact B9_sum_pt_B4 X hQ FU x1 0 0 hf
set_option maxRecDepth 100000 in
set_option maxHeartbeats 4000000 in
theorem K9_count {k : KT} {T : TT} {R : RR} {ly : Fin 2 → LL} {rc : RC} {hn : HN} {rp : RP} {tp : TP} {ee : EE} {st : Fin 12 → SS} {w : Nat → Int64} {aside : Nat → Int64} {thought : Nat → Int64} {fresh : Nat → Int64} {mu : MU} {th : Int32} {mp : MP} {mf : MF} {mh : MH} {mg : MG} {ou : Nat → Int64} {od : Nat → UInt64}  {x1 : Int32} {r : (Int32 ⊕ Nat)} (hf : f9_count (ly (0 : Fin 2)) tp st  x1 = some r) : CX k strs yX9_count cX9_count 2 (some .int) (rmD 6 1 6) [.ref (k.b + (0)), .int x1] (wAll k T R ly rc hn rp tp ee st w aside thought fresh mu th mp mf mh mg ou od) (oI r) (wAll k T R ly rc hn rp tp ee st w aside thought fresh mu th mp mf mh mg ou od) := by
  refine CX.of (by decide) (Nat.le_of_ble_eq_true rfl) ?_
  intro z X hT hQ
  show VW k z 0 0 (wAll k T R ly rc hn rp tp ee st w aside thought fresh mu th mp mf mh mg ou od) 0 [some (.ref (k.b + (0))), some (.int x1)] []
  unfold f9_count at hf
  refine r_iload_n X (x := x1) dX9_count_0 rfl ?_
  by_cases c1_0 : x1 = 0
  · replace hf := ifT hf c1_0
    refine r_tswIn X (off := 47) 48 dX9_count_1 (by rw [c1_0]; decide) (by rw [c1_0]; decide) (by rw [c1_0]; rfl) rfl ?_
    refine r_aload_n X (x := k.b + (0)) dX9_count_48 rfl ?_
    refine r_getfield X (v := .ref (k.b + (4 + 17 * (0 : Fin 2).val))) clsX9 flX9_28 (Nat.le_of_ble_eq_true rfl) _ o_main rfl dX9_count_49 ?_
    refine r_getfield X (v := .int (LL_chambers (ly (0 : Fin 2)))) clsX1 flX9_125 (Nat.le_of_ble_eq_true rfl) _ (o_lay (0 : Fin 2)) rfl dX9_count_52 ?_
    obtain rfl := Option.some.inj hf
    exact x_ireturn X hQ rfl rfl (Nat.le_of_ble_eq_true rfl) (Nat.le_of_ble_eq_true rfl) dX9_count_55
  replace hf := ifF hf c1_0
  by_cases c1_1 : x1 = 1
  · replace hf := ifT hf c1_1
    refine r_tswIn X (off := 55) 56 dX9_count_1 (by rw [c1_1]; decide) (by rw [c1_1]; decide) (by rw [c1_1]; rfl) rfl ?_
    refine r_aload_n X (x := k.b + (0)) dX9_count_56 rfl ?_
    refine r_getfield X (v := .ref (k.b + (4 + 17 * (0 : Fin 2).val))) clsX9 flX9_28 (Nat.le_of_ble_eq_true rfl) _ o_main rfl dX9_count_57 ?_
    refine r_getfield X (v := .int (LL_pumps (ly (0 : Fin 2)))) clsX1 flX9_220 (Nat.le_of_ble_eq_true rfl) _ (o_lay (0 : Fin 2)) rfl dX9_count_60 ?_
    obtain rfl := Option.some.inj hf
    exact x_ireturn X hQ rfl rfl (Nat.le_of_ble_eq_true rfl) (Nat.le_of_ble_eq_true rfl) dX9_count_63
  replace hf := ifF hf c1_1
  by_cases c1_2 : x1 = 2
  · replace hf := ifT hf c1_2
    refine r_tswIn X (off := 63) 64 dX9_count_1 (by rw [c1_2]; decide) (by rw [c1_2]; decide) (by rw [c1_2]; rfl) rfl ?_
    refine r_aload_n X (x := k.b + (0)) dX9_count_64 rfl ?_
    refine r_getfield X (v := .ref (k.b + (4 + 17 * (0 : Fin 2).val))) clsX9 flX9_28 (Nat.le_of_ble_eq_true rfl) _ o_main rfl dX9_count_65 ?_
    refine r_getfield X (v := .int (LL_valves (ly (0 : Fin 2)))) clsX1 flX9_223 (Nat.le_of_ble_eq_true rfl) _ (o_lay (0 : Fin 2)) rfl dX9_count_68 ?_
    obtain rfl := Option.some.inj hf
    exact x_ireturn X hQ rfl rfl (Nat.le_of_ble_eq_true rfl) (Nat.le_of_ble_eq_true rfl) dX9_count_71
  replace hf := ifF hf c1_2
  by_cases c1_3 : x1 = 3
  · replace hf := ifT hf c1_3
    refine r_tswIn X (off := 71) 72 dX9_count_1 (by rw [c1_3]; decide) (by rw [c1_3]; decide) (by rw [c1_3]; rfl) rfl ?_
    refine r_aload_n X (x := k.b + (0)) dX9_count_72 rfl ?_
    refine r_getfield X (v := .ref (k.b + (4 + 17 * (0 : Fin 2).val))) clsX9 flX9_28 (Nat.le_of_ble_eq_true rfl) _ o_main rfl dX9_count_73 ?_
    refine r_getfield X (v := .int (LL_flanges (ly (0 : Fin 2)))) clsX1 flX9_226 (Nat.le_of_ble_eq_true rfl) _ (o_lay (0 : Fin 2)) rfl dX9_count_76 ?_
    obtain rfl := Option.some.inj hf
    exact x_ireturn X hQ rfl rfl (Nat.le_of_ble_eq_true rfl) (Nat.le_of_ble_eq_true rfl) dX9_count_79
  replace hf := ifF hf c1_3
  by_cases c1_4 : x1 = 4
  · replace hf := ifT hf c1_4
    refine r_tswIn X (off := 79) 80 dX9_count_1 (by rw [c1_4]; decide) (by rw [c1_4]; decide) (by rw [c1_4]; rfl) rfl ?_
    refine r_aload_n X (x := k.b + (0)) dX9_count_80 rfl ?_
    refine r_getfield X (v := .ref (k.b + (45 + 12 * (TP_pr tp).val))) clsX9 flX9_73 (Nat.le_of_ble_eq_true rfl) _ o_main rfl dX9_count_81 ?_
    refine r_getfield X (v := .int (SS_time (st (TP_pr tp)))) clsX5 flX9_229 (Nat.le_of_ble_eq_true rfl) _ (o_st (TP_pr tp)) rfl dX9_count_84 ?_
    obtain rfl := Option.some.inj hf
    exact x_ireturn X hQ rfl rfl (Nat.le_of_ble_eq_true rfl) (Nat.le_of_ble_eq_true rfl) dX9_count_87
  replace hf := ifF hf c1_4
  by_cases c1_5 : x1 = 5
  · replace hf := ifT hf c1_5
    refine r_tswIn X (off := 87) 88 dX9_count_1 (by rw [c1_5]; decide) (by rw [c1_5]; decide) (by rw [c1_5]; rfl) rfl ?_
    refine r_aload_n X (x := k.b + (0)) dX9_count_88 rfl ?_
    refine r_getfield X (v := .ref (k.b + (45 + 12 * (TP_pr tp).val))) clsX9 flX9_73 (Nat.le_of_ble_eq_true rfl) _ o_main rfl dX9_count_89 ?_
    refine r_getfield X (v := .ref (k.b + (45 + 12 * (TP_pr tp).val + 6))) clsX5 flX9_232 (Nat.le_of_ble_eq_true rfl) _ (o_st (TP_pr tp)) rfl dX9_count_92 ?_
    refine r_aload_n X (x := k.b + (0)) dX9_count_95 rfl ?_
    refine r_getfield X (v := .ref (k.b + (4 + 17 * (0 : Fin 2).val))) clsX9 flX9_28 (Nat.le_of_ble_eq_true rfl) _ o_main rfl dX9_count_96 ?_
    refine r_getfield X (v := .int (LL_valves (ly (0 : Fin 2)))) clsX1 flX9_223 (Nat.le_of_ble_eq_true rfl) _ (o_lay (0 : Fin 2)) rfl dX9_count_99 ?_
    obtain ⟨u102, h102, hf⟩ := bdS hf
    refine r_callS0 X [.ref (k.b + (45 + 12 * (TP_pr tp).val + 6)), .int (LL_valves (ly (0 : Fin 2)))] [] (CT_unS (W := fun zz => wAll k T R ly rc hn rp tp ee zz w aside thought fresh mu th mp mf mh mg ou od) (W2 := fun zz => wAll k T R ly rc hn rp tp ee zz w aside thought fresh mu th mp mf mh mg ou od) (st := st) (TP_pr tp) (K9_sum_vt h102)) lkX9_235 (by decide) (Nat.le_of_ble_eq_true rfl) rfl rfl (Nat.le_of_ble_eq_true rfl) rfl rfl (Nat.zero_le _) (Nat.zero_le _) dX9_count_102 ?_
    obtain rfl := Option.some.inj hf
    exact x_ireturn X hQ rfl rfl (Nat.le_of_ble_eq_true rfl) (Nat.le_of_ble_eq_true rfl) dX9_count_105
  replace hf := ifF hf c1_5
  by_cases c1_6 : x1 = 6
  · replace hf := ifT hf c1_6
    refine r_tswIn X (off := 105) 106 dX9_count_1 (by rw [c1_6]; decide) (by rw [c1_6]; decide) (by rw [c1_6]; rfl) rfl ?_
    refine r_aload_n X (x := k.b + (0)) dX9_count_106 rfl ?_
    refine r_getfield X (v := .ref (k.b + (45 + 12 * (TP_pr tp).val))) clsX9 flX9_73 (Nat.le_of_ble_eq_true rfl) _ o_main rfl dX9_count_107 ?_
    refine r_getfield X (v := .ref (k.b + (45 + 12 * (TP_pr tp).val + 7))) clsX5 flX9_239 (Nat.le_of_ble_eq_true rfl) _ (o_st (TP_pr tp)) rfl dX9_count_110 ?_
    refine r_aload_n X (x := k.b + (0)) dX9_count_113 rfl ?_
    refine r_getfield X (v := .ref (k.b + (4 + 17 * (0 : Fin 2).val))) clsX9 flX9_28 (Nat.le_of_ble_eq_true rfl) _ o_main rfl dX9_count_114 ?_
    refine r_getfield X (v := .int (LL_pumps (ly (0 : Fin 2)))) clsX1 flX9_220 (Nat.le_of_ble_eq_true rfl) _ (o_lay (0 : Fin 2)) rfl dX9_count_117 ?_
    obtain ⟨u120, h120, hf⟩ := bdS hf
    refine r_callS0 X [.ref (k.b + (45 + 12 * (TP_pr tp).val + 7)), .int (LL_pumps (ly (0 : Fin 2)))] [] (CT_unS (W := fun zz => wAll k T R ly rc hn rp tp ee zz w aside thought fresh mu th mp mf mh mg ou od) (W2 := fun zz => wAll k T R ly rc hn rp tp ee zz w aside thought fresh mu th mp mf mh mg ou od) (st := st) (TP_pr tp) (K9_sum_pt h120)) lkX9_235 (by decide) (Nat.le_of_ble_eq_true rfl) rfl rfl (Nat.le_of_ble_eq_true rfl) rfl rfl (Nat.zero_le _) (Nat.zero_le _) dX9_count_120 ?_
    obtain rfl := Option.some.inj hf
    exact x_ireturn X hQ rfl rfl (Nat.le_of_ble_eq_true rfl) (Nat.le_of_ble_eq_true rfl) dX9_count_123
  replace hf := ifF hf c1_6
  by_cases c1_7 : x1 = 7
  · replace hf := ifT hf c1_7
    refine r_tswIn X (off := 123) 124 dX9_count_1 (by rw [c1_7]; decide) (by rw [c1_7]; decide) (by rw [c1_7]; rfl) rfl ?_
    refine r_aload_n X (x := k.b + (0)) dX9_count_124 rfl ?_
    refine r_getfield X (v := .ref (k.b + (45 + 12 * (TP_pr tp).val))) clsX9 flX9_73 (Nat.le_of_ble_eq_true rfl) _ o_main rfl dX9_count_125 ?_
    refine r_getfield X (v := .ref (k.b + (45 + 12 * (TP_pr tp).val + 9))) clsX5 flX9_242 (Nat.le_of_ble_eq_true rfl) _ (o_st (TP_pr tp)) rfl dX9_count_128 ?_
    refine r_getfield X (v := .int (SS_kept (st (TP_pr tp)))) clsX7 flX9_246 (Nat.le_of_ble_eq_true rfl) _ (o_tl (TP_pr tp)) rfl dX9_count_131 ?_
    obtain rfl := Option.some.inj hf
    exact x_ireturn X hQ rfl rfl (Nat.le_of_ble_eq_true rfl) (Nat.le_of_ble_eq_true rfl) dX9_count_134
  replace hf := ifF hf c1_7
  refine r_tswOut X 135 dX9_count_1 (tsw_out (fun v hv1 hv2 => by
    rcases (show v = 0 ∨ v = 1 ∨ v = 2 ∨ v = 3 ∨ v = 4 ∨ v = 5 ∨ v = 6 ∨ v = 7 by omega) with rfl | rfl | rfl | rfl | rfl | rfl | rfl | rfl
    · exact c1_0
    · exact c1_1
    · exact c1_2
    · exact c1_3
    · exact c1_4
    · exact c1_5
    · exact c1_6
    · exact c1_7
    )) rfl ?_
  obtain rfl := Option.some.inj hf
  exact r_throw X hT ltX9_1 (by decide) hQ rfl rfl (Nat.le_of_ble_eq_true rfl) (Nat.le_of_ble_eq_true rfl) rfl ⟨(Nat.le_of_ble_eq_true rfl), (Nat.le_of_ble_eq_true rfl), (Nat.le_of_ble_eq_true rfl), (Nat.le_of_ble_eq_true rfl)⟩ dX9_count_135 dX9_count_138 dX9_count_139 dX9_count_142
set_option maxRecDepth 100000 in
set_option maxHeartbeats 4000000 in
theorem K9_chamber {k : KT} {T : TT} {R : RR} {ly : Fin 2 → LL} {rc : RC} {hn : HN} {rp : RP} {tp : TP} {ee : EE} {st : Fin 12 → SS} {w : Nat → Int64} {aside : Nat → Int64} {thought : Nat → Int64} {fresh : Nat → Int64} {mu : MU} {th : Int32} {mp : MP} {mf : MF} {mh : MH} {mg : MG} {ou : Nat → Int64} {od : Nat → UInt64}  {x1 : Int32} {x2 : Int32} {r : (Int32 ⊕ Nat)} (hf : f9_chamber (ly (0 : Fin 2)) tp st  x1 x2 = some r) : CX k strs yX9_chamber cX9_chamber 3 (some .int) (rmD 6 1 6) [.ref (k.b + (0)), .int x1, .int x2] (wAll k T R ly rc hn rp tp ee st w aside thought fresh mu th mp mf mh mg ou od) (oI r) (wAll k T R ly rc hn rp tp ee st w aside thought fresh mu th mp mf mh mg ou od) := by
  refine CX.of (by decide) (Nat.le_of_ble_eq_true rfl) ?_
  intro z X hT hQ
  show VW k z 0 0 (wAll k T R ly rc hn rp tp ee st w aside thought fresh mu th mp mf mh mg ou od) 0 [some (.ref (k.b + (0))), some (.int x1), some (.int x2)] []
  unfold f9_chamber at hf
  refine r_aload_n X (x := k.b + (0)) dX9_chamber_0 rfl ?_
  refine r_getfield X (v := .ref (k.b + (4 + 17 * (0 : Fin 2).val))) clsX9 flX9_28 (Nat.le_of_ble_eq_true rfl) _ o_main rfl dX9_chamber_1 ?_
  refine r_iload_n X (x := x1) dX9_chamber_4 rfl ?_
  obtain ⟨u5, h5, hf⟩ := bdS hf
  refine r_callV0 X [.int x1] [] (K1_hasChamber h5) lkX9_185 clsX1 rfl _ (o_lay (0 : Fin 2)) (by decide) (Nat.le_of_ble_eq_true rfl) rfl rfl (Nat.le_of_ble_eq_true rfl) rfl rfl (Nat.zero_le _) (Nat.zero_le _) dX9_chamber_5 ?_
  refine r_if_ne X 19 dX9_chamber_8 rfl (fun c8 => ?_) (fun c8 => ?_)
  · replace hf := ifF hf c8
    refine r_iload_n X (x := x2) dX9_chamber_19 rfl ?_
    by_cases c20_0 : x2 = 0
    · replace hf := ifT hf c20_0
      refine r_tswIn X (off := 44) 64 dX9_chamber_20 (by rw [c20_0]; decide) (by rw [c20_0]; decide) (by rw [c20_0]; rfl) rfl ?_
      refine r_aload_n X (x := k.b + (0)) dX9_chamber_64 rfl ?_
      refine r_getfield X (v := .ref (k.b + (4 + 17 * (0 : Fin 2).val))) clsX9 flX9_28 (Nat.le_of_ble_eq_true rfl) _ o_main rfl dX9_chamber_65 ?_
      refine r_getfield X (v := .ref (k.b + (4 + 17 * (0 : Fin 2).val + 1))) clsX1 flX9_251 (Nat.le_of_ble_eq_true rfl) _ (o_lay (0 : Fin 2)) rfl dX9_chamber_68 ?_
      refine r_iload_n X (x := x1) dX9_chamber_71 rfl ?_
      obtain ⟨g72, hf⟩ := gdS hf
      refine r_iaload X (f := LL_volume (ly (0 : Fin 2))) _ (a_lay_volume (0 : Fin 2)) g72 dX9_chamber_72 ?_
      obtain rfl := Option.some.inj hf
      exact x_ireturn X hQ rfl rfl (Nat.le_of_ble_eq_true rfl) (Nat.le_of_ble_eq_true rfl) dX9_chamber_73
    replace hf := ifF hf c20_0
    by_cases c20_1 : x2 = 1
    · replace hf := ifT hf c20_1
      refine r_tswIn X (off := 54) 74 dX9_chamber_20 (by rw [c20_1]; decide) (by rw [c20_1]; decide) (by rw [c20_1]; rfl) rfl ?_
      refine r_aload_n X (x := k.b + (0)) dX9_chamber_74 rfl ?_
      refine r_getfield X (v := .ref (k.b + (45 + 12 * (TP_pr tp).val))) clsX9 flX9_73 (Nat.le_of_ble_eq_true rfl) _ o_main rfl dX9_chamber_75 ?_
      refine r_getfield X (v := .ref (k.b + (45 + 12 * (TP_pr tp).val + 3))) clsX5 flX9_201 (Nat.le_of_ble_eq_true rfl) _ (o_st (TP_pr tp)) rfl dX9_chamber_78 ?_
      refine r_iload_n X (x := x1) dX9_chamber_81 rfl ?_
      obtain ⟨g82, hf⟩ := gdS hf
      refine r_iaload X (f := SS_outgassing (st (TP_pr tp))) _ (a_st_outgassing (TP_pr tp)) g82 dX9_chamber_82 ?_
      obtain rfl := Option.some.inj hf
      exact x_ireturn X hQ rfl rfl (Nat.le_of_ble_eq_true rfl) (Nat.le_of_ble_eq_true rfl) dX9_chamber_83
    replace hf := ifF hf c20_1
    by_cases c20_2 : x2 = 2
    · replace hf := ifT hf c20_2
      refine r_tswIn X (off := 64) 84 dX9_chamber_20 (by rw [c20_2]; decide) (by rw [c20_2]; decide) (by rw [c20_2]; rfl) rfl ?_
      refine r_aload_n X (x := k.b + (0)) dX9_chamber_84 rfl ?_
      refine r_getfield X (v := .ref (k.b + (4 + 17 * (0 : Fin 2).val))) clsX9 flX9_28 (Nat.le_of_ble_eq_true rfl) _ o_main rfl dX9_chamber_85 ?_
      refine r_getfield X (v := .ref (k.b + (4 + 17 * (0 : Fin 2).val + 3))) clsX1 flX9_254 (Nat.le_of_ble_eq_true rfl) _ (o_lay (0 : Fin 2)) rfl dX9_chamber_88 ?_
      refine r_iload_n X (x := x1) dX9_chamber_91 rfl ?_
      obtain ⟨g92, hf⟩ := gdS hf
      refine r_iaload X (f := LL_decay (ly (0 : Fin 2))) _ (a_lay_decay (0 : Fin 2)) g92 dX9_chamber_92 ?_
      obtain rfl := Option.some.inj hf
      exact x_ireturn X hQ rfl rfl (Nat.le_of_ble_eq_true rfl) (Nat.le_of_ble_eq_true rfl) dX9_chamber_93
    replace hf := ifF hf c20_2
    by_cases c20_3 : x2 = 3
    · replace hf := ifT hf c20_3
      refine r_tswIn X (off := 74) 94 dX9_chamber_20 (by rw [c20_3]; decide) (by rw [c20_3]; decide) (by rw [c20_3]; rfl) rfl ?_
      refine r_aload_n X (x := k.b + (0)) dX9_chamber_94 rfl ?_
      refine r_getfield X (v := .ref (k.b + (45 + 12 * (TP_pr tp).val))) clsX9 flX9_73 (Nat.le_of_ble_eq_true rfl) _ o_main rfl dX9_chamber_95 ?_
      refine r_getfield X (v := .ref (k.b + (45 + 12 * (TP_pr tp).val + 2))) clsX5 flX9_166 (Nat.le_of_ble_eq_true rfl) _ (o_st (TP_pr tp)) rfl dX9_chamber_98 ?_
      refine r_iload_n X (x := x1) dX9_chamber_101 rfl ?_
      obtain ⟨g102, hf⟩ := gdS hf
      refine r_iaload X (f := SS_pressure (st (TP_pr tp))) _ (a_st_pressure (TP_pr tp)) g102 dX9_chamber_102 ?_
      obtain rfl := Option.some.inj hf
      exact x_ireturn X hQ rfl rfl (Nat.le_of_ble_eq_true rfl) (Nat.le_of_ble_eq_true rfl) dX9_chamber_103
    replace hf := ifF hf c20_3
    by_cases c20_4 : x2 = 4
    · replace hf := ifT hf c20_4
      refine r_tswIn X (off := 84) 104 dX9_chamber_20 (by rw [c20_4]; decide) (by rw [c20_4]; decide) (by rw [c20_4]; rfl) rfl ?_
      refine r_aload_n X (x := k.b + (0)) dX9_chamber_104 rfl ?_
      refine r_getfield X (v := .ref (k.b + (45 + 12 * (TP_pr tp).val))) clsX9 flX9_73 (Nat.le_of_ble_eq_true rfl) _ o_main rfl dX9_chamber_105 ?_
      refine r_getfield X (v := .ref (k.b + (45 + 12 * (TP_pr tp).val + 4))) clsX5 flX9_257 (Nat.le_of_ble_eq_true rfl) _ (o_st (TP_pr tp)) rfl dX9_chamber_108 ?_
      refine r_iload_n X (x := x1) dX9_chamber_111 rfl ?_
      obtain ⟨g112, hf⟩ := gdS hf
      refine r_iaload X (f := SS_leakSum (st (TP_pr tp))) _ (a_st_leakSum (TP_pr tp)) g112 dX9_chamber_112 ?_
      obtain rfl := Option.some.inj hf
      exact x_ireturn X hQ rfl rfl (Nat.le_of_ble_eq_true rfl) (Nat.le_of_ble_eq_true rfl) dX9_chamber_113
    replace hf := ifF hf c20_4
    by_cases c20_5 : x2 = 5
    · replace hf := ifT hf c20_5
      refine r_tswIn X (off := 94) 114 dX9_chamber_20 (by rw [c20_5]; decide) (by rw [c20_5]; decide) (by rw [c20_5]; rfl) rfl ?_
      refine r_aload_n X (x := k.b + (0)) dX9_chamber_114 rfl ?_
      refine r_getfield X (v := .ref (k.b + (4 + 17 * (0 : Fin 2).val))) clsX9 flX9_28 (Nat.le_of_ble_eq_true rfl) _ o_main rfl dX9_chamber_115 ?_
      refine r_iload_n X (x := x1) dX9_chamber_118 rfl ?_
      obtain ⟨u119, h119, hf⟩ := bdS hf
      refine r_callV0 X [.int x1] [] (K1_valvesOf h119) lkX9_260 clsX1 rfl _ (o_lay (0 : Fin 2)) (by decide) (Nat.le_of_ble_eq_true rfl) rfl rfl (Nat.le_of_ble_eq_true rfl) rfl rfl (Nat.zero_le _) (Nat.zero_le _) dX9_chamber_119 ?_
      obtain rfl := Option.some.inj hf
      exact x_ireturn X hQ rfl rfl (Nat.le_of_ble_eq_true rfl) (Nat.le_of_ble_eq_true rfl) dX9_chamber_122
    replace hf := ifF hf c20_5
    by_cases c20_6 : x2 = 6
    · replace hf := ifT hf c20_6
      refine r_tswIn X (off := 103) 123 dX9_chamber_20 (by rw [c20_6]; decide) (by rw [c20_6]; decide) (by rw [c20_6]; rfl) rfl ?_
      refine r_aload_n X (x := k.b + (0)) dX9_chamber_123 rfl ?_
      refine r_getfield X (v := .ref (k.b + (4 + 17 * (0 : Fin 2).val))) clsX9 flX9_28 (Nat.le_of_ble_eq_true rfl) _ o_main rfl dX9_chamber_124 ?_
      refine r_iload_n X (x := x1) dX9_chamber_127 rfl ?_
      obtain ⟨u128, h128, hf⟩ := bdS hf
      refine r_callV0 X [.int x1] [] (K1_pumpsOf h128) lkX9_263 clsX1 rfl _ (o_lay (0 : Fin 2)) (by decide) (Nat.le_of_ble_eq_true rfl) rfl rfl (Nat.le_of_ble_eq_true rfl) rfl rfl (Nat.zero_le _) (Nat.zero_le _) dX9_chamber_128 ?_
      obtain rfl := Option.some.inj hf
      exact x_ireturn X hQ rfl rfl (Nat.le_of_ble_eq_true rfl) (Nat.le_of_ble_eq_true rfl) dX9_chamber_131
    replace hf := ifF hf c20_6
    refine r_tswOut X 132 dX9_chamber_20 (tsw_out (fun v hv1 hv2 => by
      rcases (show v = 0 ∨ v = 1 ∨ v = 2 ∨ v = 3 ∨ v = 4 ∨ v = 5 ∨ v = 6 by omega) with rfl | rfl | rfl | rfl | rfl | rfl | rfl
      · exact c20_0
      · exact c20_1
      · exact c20_2
      · exact c20_3
      · exact c20_4
      · exact c20_5
      · exact c20_6
      )) rfl ?_
    obtain rfl := Option.some.inj hf
    exact r_throw X hT ltX9_1 (by decide) hQ rfl rfl (Nat.le_of_ble_eq_true rfl) (Nat.le_of_ble_eq_true rfl) rfl ⟨(Nat.le_of_ble_eq_true rfl), (Nat.le_of_ble_eq_true rfl), (Nat.le_of_ble_eq_true rfl), (Nat.le_of_ble_eq_true rfl)⟩ dX9_chamber_132 dX9_chamber_135 dX9_chamber_136 dX9_chamber_139
  · replace hf := ifT hf c8
    obtain rfl := Option.some.inj hf
    exact r_throw X hT ltX9_2 (by decide) hQ rfl rfl (Nat.le_of_ble_eq_true rfl) (Nat.le_of_ble_eq_true rfl) rfl ⟨(Nat.le_of_ble_eq_true rfl), (Nat.le_of_ble_eq_true rfl), (Nat.le_of_ble_eq_true rfl), (Nat.le_of_ble_eq_true rfl)⟩ dX9_chamber_11 dX9_chamber_14 dX9_chamber_15 dX9_chamber_18
set_option maxRecDepth 100000 in
set_option maxHeartbeats 4000000 in
theorem K9_gas {k : KT} {T : TT} {R : RR} {ly : Fin 2 → LL} {rc : RC} {hn : HN} {rp : RP} {tp : TP} {ee : EE} {st : Fin 12 → SS} {w : Nat → Int64} {aside : Nat → Int64} {thought : Nat → Int64} {fresh : Nat → Int64} {mu : MU} {th : Int32} {mp : MP} {mf : MF} {mh : MH} {mg : MG} {ou : Nat → Int64} {od : Nat → UInt64}  {x1 : Int32} {r : (Int64 ⊕ Nat)} (hf : f9_gas (ly (0 : Fin 2)) tp st  x1 = some r) : CX k strs yX9_gas cX9_gas 2 (some .long) (rmD 6 1 6) [.ref (k.b + (0)), .int x1] (wAll k T R ly rc hn rp tp ee st w aside thought fresh mu th mp mf mh mg ou od) (oL r) (wAll k T R ly rc hn rp tp ee st w aside thought fresh mu th mp mf mh mg ou od) := by
  refine CX.of (by decide) (Nat.le_of_ble_eq_true rfl) ?_
  intro z X hT hQ
  show VW k z 0 0 (wAll k T R ly rc hn rp tp ee st w aside thought fresh mu th mp mf mh mg ou od) 0 [some (.ref (k.b + (0))), some (.int x1)] []
  unfold f9_gas at hf
  refine r_aload_n X (x := k.b + (0)) dX9_gas_0 rfl ?_
  refine r_getfield X (v := .ref (k.b + (4 + 17 * (0 : Fin 2).val))) clsX9 flX9_28 (Nat.le_of_ble_eq_true rfl) _ o_main rfl dX9_gas_1 ?_
  refine r_iload_n X (x := x1) dX9_gas_4 rfl ?_
  obtain ⟨u5, h5, hf⟩ := bdS hf
  refine r_callV0 X [.int x1] [] (K1_hasChamber h5) lkX9_185 clsX1 rfl _ (o_lay (0 : Fin 2)) (by decide) (Nat.le_of_ble_eq_true rfl) rfl rfl (Nat.le_of_ble_eq_true rfl) rfl rfl (Nat.zero_le _) (Nat.zero_le _) dX9_gas_5 ?_
  refine r_if_ne X 19 dX9_gas_8 rfl (fun c8 => ?_) (fun c8 => ?_)
  · replace hf := ifF hf c8
    refine r_aload_n X (x := k.b + (0)) dX9_gas_19 rfl ?_
    refine r_getfield X (v := .ref (k.b + (45 + 12 * (TP_pr tp).val))) clsX9 flX9_73 (Nat.le_of_ble_eq_true rfl) _ o_main rfl dX9_gas_20 ?_
    refine r_getfield X (v := .ref (k.b + (45 + 12 * (TP_pr tp).val + 1))) clsX5 flX9_266 (Nat.le_of_ble_eq_true rfl) _ (o_st (TP_pr tp)) rfl dX9_gas_23 ?_
    refine r_iload_n X (x := x1) dX9_gas_26 rfl ?_
    obtain ⟨g27, hf⟩ := gdS hf
    refine r_laload X (f := SS_gas (st (TP_pr tp))) _ (a_st_gas (TP_pr tp)) g27 dX9_gas_27 ?_
    obtain rfl := Option.some.inj hf
    exact x_lreturn X hQ rfl rfl (Nat.le_of_ble_eq_true rfl) (Nat.le_of_ble_eq_true rfl) dX9_gas_28
  · replace hf := ifT hf c8
    obtain rfl := Option.some.inj hf
    exact r_throw X hT ltX9_2 (by decide) hQ rfl rfl (Nat.le_of_ble_eq_true rfl) (Nat.le_of_ble_eq_true rfl) rfl ⟨(Nat.le_of_ble_eq_true rfl), (Nat.le_of_ble_eq_true rfl), (Nat.le_of_ble_eq_true rfl), (Nat.le_of_ble_eq_true rfl)⟩ dX9_gas_11 dX9_gas_14 dX9_gas_15 dX9_gas_18
set_option maxRecDepth 100000 in
set_option maxHeartbeats 4000000 in
theorem K9_told {k : KT} {T : TT} {R : RR} {ly : Fin 2 → LL} {rc : RC} {hn : HN} {rp : RP} {tp : TP} {ee : EE} {st : Fin 12 → SS} {w : Nat → Int64} {aside : Nat → Int64} {thought : Nat → Int64} {fresh : Nat → Int64} {mu : MU} {th : Int32} {mp : MP} {mf : MF} {mh : MH} {mg : MG} {ou : Nat → Int64} {od : Nat → UInt64}  {x0 : Int32} {r : Int32} (hf : f9_told   x0 = some r) : CT k strs yX9_told cX9_told 1 (some .int) (rmD 0 0 0) 0 0 [.int x0] (wAll k T R ly rc hn rp tp ee st w aside thought fresh mu th mp mf mh mg ou od) (some (.int r)) (wAll k T R ly rc hn rp tp ee st w aside thought fresh mu th mp mf mh mg ou od) := by
  refine CT.of (by decide) (Nat.le_of_ble_eq_true rfl) ?_
  intro z X hQ
  show VW k z 0 0 (wAll k T R ly rc hn rp tp ee st w aside thought fresh mu th mp mf mh mg ou od) 0 [some (.int x0)] []
  unfold f9_told at hf
  refine r_iload_n X (x := x0) dX9_told_0 rfl ?_
  refine r_bipush X (v := 8) dX9_told_1 rfl ?_
  suffices K3 : VW k z 0 0 (wAll k T R ly rc hn rp tp ee st w aside thought fresh mu th mp mf mh mg ou od) 11 [some (.int x0)] [.int (if x0 = 8 then ((-1) : Int32) else (x0 : Int32))] by
    refine r_icmp_ne X 10 dX9_told_3 rfl (fun c3 => ?_) (fun c3 => ?_)
    · refine r_iload_n X (x := x0) dX9_told_10 rfl ?_
      rw [if_neg c3] at K3
      exact K3
    · refine r_iconst X (v := (-1)) dX9_told_6 rfl ?_
      refine r_goto X 11 dX9_told_7 rfl ?_
      rw [if_pos c3] at K3
      exact K3
  obtain rfl := Option.some.inj hf
  exact r_ireturn X hQ rfl rfl (Nat.le_of_ble_eq_true rfl) (Nat.le_of_ble_eq_true rfl) dX9_told_11
set_option maxRecDepth 100000 in
set_option maxHeartbeats 4000000 in
theorem K9_pump {k : KT} {T : TT} {R : RR} {ly : Fin 2 → LL} {rc : RC} {hn : HN} {rp : RP} {tp : TP} {ee : EE} {st : Fin 12 → SS} {w : Nat → Int64} {aside : Nat → Int64} {thought : Nat → Int64} {fresh : Nat → Int64} {mu : MU} {th : Int32} {mp : MP} {mf : MF} {mh : MH} {mg : MG} {ou : Nat → Int64} {od : Nat → UInt64}  {x1 : Int32} {x2 : Int32} {r : (Int32 ⊕ Nat)} (hf : f9_pump (ly (0 : Fin 2)) tp st  x1 x2 = some r) : CX k strs yX9_pump cX9_pump 3 (some .int) (rmD 6 1 6) [.ref (k.b + (0)), .int x1, .int x2] (wAll k T R ly rc hn rp tp ee st w aside thought fresh mu th mp mf mh mg ou od) (oI r) (wAll k T R ly rc hn rp tp ee st w aside thought fresh mu th mp mf mh mg ou od) := by
  refine CX.of (by decide) (Nat.le_of_ble_eq_true rfl) ?_
  intro z X hT hQ
  show VW k z 0 0 (wAll k T R ly rc hn rp tp ee st w aside thought fresh mu th mp mf mh mg ou od) 0 [some (.ref (k.b + (0))), some (.int x1), some (.int x2)] []
  unfold f9_pump at hf
  refine r_aload_n X (x := k.b + (0)) dX9_pump_0 rfl ?_
  refine r_getfield X (v := .ref (k.b + (4 + 17 * (0 : Fin 2).val))) clsX9 flX9_28 (Nat.le_of_ble_eq_true rfl) _ o_main rfl dX9_pump_1 ?_
  refine r_iload_n X (x := x1) dX9_pump_4 rfl ?_
  obtain ⟨u5, h5, hf⟩ := bdS hf
  refine r_callV0 X [.int x1] [] (K1_hasPump h5) lkX9_157 clsX1 rfl _ (o_lay (0 : Fin 2)) (by decide) (Nat.le_of_ble_eq_true rfl) rfl rfl (Nat.le_of_ble_eq_true rfl) rfl rfl (Nat.zero_le _) (Nat.zero_le _) dX9_pump_5 ?_
  refine r_if_ne X 19 dX9_pump_8 rfl (fun c8 => ?_) (fun c8 => ?_)
  · replace hf := ifF hf c8
    refine r_iload_n X (x := x2) dX9_pump_19 rfl ?_
    by_cases c20_0 : x2 = 0
    · replace hf := ifT hf c20_0
      refine r_tswIn X (off := 48) 68 dX9_pump_20 (by rw [c20_0]; decide) (by rw [c20_0]; decide) (by rw [c20_0]; rfl) rfl ?_
      refine r_aload_n X (x := k.b + (0)) dX9_pump_68 rfl ?_
      refine r_getfield X (v := .ref (k.b + (4 + 17 * (0 : Fin 2).val))) clsX9 flX9_28 (Nat.le_of_ble_eq_true rfl) _ o_main rfl dX9_pump_69 ?_
      refine r_getfield X (v := .ref (k.b + (4 + 17 * (0 : Fin 2).val + 4))) clsX1 flX9_170 (Nat.le_of_ble_eq_true rfl) _ (o_lay (0 : Fin 2)) rfl dX9_pump_72 ?_
      refine r_iload_n X (x := x1) dX9_pump_75 rfl ?_
      obtain ⟨g76, hf⟩ := gdS hf
      refine r_iaload X (f := LL_pumpChamber (ly (0 : Fin 2))) _ (a_lay_pumpChamber (0 : Fin 2)) g76 dX9_pump_76 ?_
      obtain rfl := Option.some.inj hf
      exact x_ireturn X hQ rfl rfl (Nat.le_of_ble_eq_true rfl) (Nat.le_of_ble_eq_true rfl) dX9_pump_77
    replace hf := ifF hf c20_0
    by_cases c20_1 : x2 = 1
    · replace hf := ifT hf c20_1
      refine r_tswIn X (off := 58) 78 dX9_pump_20 (by rw [c20_1]; decide) (by rw [c20_1]; decide) (by rw [c20_1]; rfl) rfl ?_
      refine r_aload_n X (x := k.b + (0)) dX9_pump_78 rfl ?_
      refine r_getfield X (v := .ref (k.b + (4 + 17 * (0 : Fin 2).val))) clsX9 flX9_28 (Nat.le_of_ble_eq_true rfl) _ o_main rfl dX9_pump_79 ?_
      refine r_getfield X (v := .ref (k.b + (4 + 17 * (0 : Fin 2).val + 5))) clsX1 flX9_270 (Nat.le_of_ble_eq_true rfl) _ (o_lay (0 : Fin 2)) rfl dX9_pump_82 ?_
      refine r_iload_n X (x := x1) dX9_pump_85 rfl ?_
      obtain ⟨g86, hf⟩ := gdS hf
      refine r_iaload X (f := LL_exhaust (ly (0 : Fin 2))) _ (a_lay_exhaust (0 : Fin 2)) g86 dX9_pump_86 ?_
      obtain ⟨u87, h87, hf⟩ := bdS hf
      refine r_callS0 X [.int ((LL_exhaust (ly (0 : Fin 2))) (ix x1))] [] (K9_told h87) lkX9_273 (by decide) (Nat.le_of_ble_eq_true rfl) rfl rfl (Nat.le_of_ble_eq_true rfl) rfl rfl (Nat.zero_le _) (Nat.zero_le _) dX9_pump_87 ?_
      obtain rfl := Option.some.inj hf
      exact x_ireturn X hQ rfl rfl (Nat.le_of_ble_eq_true rfl) (Nat.le_of_ble_eq_true rfl) dX9_pump_90
    replace hf := ifF hf c20_1
    by_cases c20_2 : x2 = 2
    · replace hf := ifT hf c20_2
      refine r_tswIn X (off := 71) 91 dX9_pump_20 (by rw [c20_2]; decide) (by rw [c20_2]; decide) (by rw [c20_2]; rfl) rfl ?_
      refine r_aload_n X (x := k.b + (0)) dX9_pump_91 rfl ?_
      refine r_getfield X (v := .ref (k.b + (4 + 17 * (0 : Fin 2).val))) clsX9 flX9_28 (Nat.le_of_ble_eq_true rfl) _ o_main rfl dX9_pump_92 ?_
      refine r_getfield X (v := .ref (k.b + (4 + 17 * (0 : Fin 2).val + 6))) clsX1 flX9_276 (Nat.le_of_ble_eq_true rfl) _ (o_lay (0 : Fin 2)) rfl dX9_pump_95 ?_
      refine r_iload_n X (x := x1) dX9_pump_98 rfl ?_
      obtain ⟨g99, hf⟩ := gdS hf
      refine r_iaload X (f := LL_speed (ly (0 : Fin 2))) _ (a_lay_speed (0 : Fin 2)) g99 dX9_pump_99 ?_
      obtain rfl := Option.some.inj hf
      exact x_ireturn X hQ rfl rfl (Nat.le_of_ble_eq_true rfl) (Nat.le_of_ble_eq_true rfl) dX9_pump_100
    replace hf := ifF hf c20_2
    by_cases c20_3 : x2 = 3
    · replace hf := ifT hf c20_3
      refine r_tswIn X (off := 81) 101 dX9_pump_20 (by rw [c20_3]; decide) (by rw [c20_3]; decide) (by rw [c20_3]; rfl) rfl ?_
      refine r_aload_n X (x := k.b + (0)) dX9_pump_101 rfl ?_
      refine r_getfield X (v := .ref (k.b + (4 + 17 * (0 : Fin 2).val))) clsX9 flX9_28 (Nat.le_of_ble_eq_true rfl) _ o_main rfl dX9_pump_102 ?_
      refine r_getfield X (v := .ref (k.b + (4 + 17 * (0 : Fin 2).val + 7))) clsX1 flX9_279 (Nat.le_of_ble_eq_true rfl) _ (o_lay (0 : Fin 2)) rfl dX9_pump_105 ?_
      refine r_iload_n X (x := x1) dX9_pump_108 rfl ?_
      obtain ⟨g109, hf⟩ := gdS hf
      refine r_iaload X (f := LL_low (ly (0 : Fin 2))) _ (a_lay_low (0 : Fin 2)) g109 dX9_pump_109 ?_
      obtain rfl := Option.some.inj hf
      exact x_ireturn X hQ rfl rfl (Nat.le_of_ble_eq_true rfl) (Nat.le_of_ble_eq_true rfl) dX9_pump_110
    replace hf := ifF hf c20_3
    by_cases c20_4 : x2 = 4
    · replace hf := ifT hf c20_4
      refine r_tswIn X (off := 91) 111 dX9_pump_20 (by rw [c20_4]; decide) (by rw [c20_4]; decide) (by rw [c20_4]; rfl) rfl ?_
      refine r_aload_n X (x := k.b + (0)) dX9_pump_111 rfl ?_
      refine r_getfield X (v := .ref (k.b + (4 + 17 * (0 : Fin 2).val))) clsX9 flX9_28 (Nat.le_of_ble_eq_true rfl) _ o_main rfl dX9_pump_112 ?_
      refine r_getfield X (v := .ref (k.b + (4 + 17 * (0 : Fin 2).val + 8))) clsX1 flX9_282 (Nat.le_of_ble_eq_true rfl) _ (o_lay (0 : Fin 2)) rfl dX9_pump_115 ?_
      refine r_iload_n X (x := x1) dX9_pump_118 rfl ?_
      obtain ⟨g119, hf⟩ := gdS hf
      refine r_iaload X (f := LL_high (ly (0 : Fin 2))) _ (a_lay_high (0 : Fin 2)) g119 dX9_pump_119 ?_
      obtain rfl := Option.some.inj hf
      exact x_ireturn X hQ rfl rfl (Nat.le_of_ble_eq_true rfl) (Nat.le_of_ble_eq_true rfl) dX9_pump_120
    replace hf := ifF hf c20_4
    by_cases c20_5 : x2 = 5
    · replace hf := ifT hf c20_5
      refine r_tswIn X (off := 101) 121 dX9_pump_20 (by rw [c20_5]; decide) (by rw [c20_5]; decide) (by rw [c20_5]; rfl) rfl ?_
      refine r_aload_n X (x := k.b + (0)) dX9_pump_121 rfl ?_
      refine r_getfield X (v := .ref (k.b + (4 + 17 * (0 : Fin 2).val))) clsX9 flX9_28 (Nat.le_of_ble_eq_true rfl) _ o_main rfl dX9_pump_122 ?_
      refine r_getfield X (v := .ref (k.b + (4 + 17 * (0 : Fin 2).val + 5))) clsX1 flX9_270 (Nat.le_of_ble_eq_true rfl) _ (o_lay (0 : Fin 2)) rfl dX9_pump_125 ?_
      refine r_iload_n X (x := x1) dX9_pump_128 rfl ?_
      obtain ⟨g129, hf⟩ := gdS hf
      refine r_iaload X (f := LL_exhaust (ly (0 : Fin 2))) _ (a_lay_exhaust (0 : Fin 2)) g129 dX9_pump_129 ?_
      refine r_bipush X (v := 8) dX9_pump_130 rfl ?_
      refine r_icmp_ne X 139 dX9_pump_132 rfl (fun c132 => ?_) (fun c132 => ?_)
      · replace hf := ifF hf c132
        refine r_aload_n X (x := k.b + (0)) dX9_pump_139 rfl ?_
        refine r_getfield X (v := .ref (k.b + (4 + 17 * (0 : Fin 2).val))) clsX9 flX9_28 (Nat.le_of_ble_eq_true rfl) _ o_main rfl dX9_pump_140 ?_
        refine r_getfield X (v := .ref (k.b + (4 + 17 * (0 : Fin 2).val + 9))) clsX1 flX9_285 (Nat.le_of_ble_eq_true rfl) _ (o_lay (0 : Fin 2)) rfl dX9_pump_143 ?_
        refine r_iload_n X (x := x1) dX9_pump_146 rfl ?_
        refine r_iaload X (f := LL_backing (ly (0 : Fin 2))) _ (a_lay_backing (0 : Fin 2)) g129 dX9_pump_147 ?_
        obtain rfl := Option.some.inj hf
        exact x_ireturn X hQ rfl rfl (Nat.le_of_ble_eq_true rfl) (Nat.le_of_ble_eq_true rfl) dX9_pump_148
      · replace hf := ifT hf c132
        refine r_iconst X (v := (-1)) dX9_pump_135 rfl ?_
        refine r_goto X 148 dX9_pump_136 rfl ?_
        obtain rfl := Option.some.inj hf
        exact x_ireturn X hQ rfl rfl (Nat.le_of_ble_eq_true rfl) (Nat.le_of_ble_eq_true rfl) dX9_pump_148
    replace hf := ifF hf c20_5
    by_cases c20_6 : x2 = 6
    · replace hf := ifT hf c20_6
      refine r_tswIn X (off := 129) 149 dX9_pump_20 (by rw [c20_6]; decide) (by rw [c20_6]; decide) (by rw [c20_6]; rfl) rfl ?_
      refine r_aload_n X (x := k.b + (0)) dX9_pump_149 rfl ?_
      refine r_getfield X (v := .ref (k.b + (45 + 12 * (TP_pr tp).val))) clsX9 flX9_73 (Nat.le_of_ble_eq_true rfl) _ o_main rfl dX9_pump_150 ?_
      refine r_iload_n X (x := x1) dX9_pump_153 rfl ?_
      obtain ⟨u154, h154, hf⟩ := bdS hf
      refine r_callV0 X [.int x1] [] (CT_unS (W := fun zz => wAll k T R ly rc hn rp tp ee zz w aside thought fresh mu th mp mf mh mg ou od) (W2 := fun zz => wAll k T R ly rc hn rp tp ee zz w aside thought fresh mu th mp mf mh mg ou od) (st := st) (TP_pr tp) (K5_isRunning h154)) lkX9_173 clsX5 rfl _ (o_st (TP_pr tp)) (by decide) (Nat.le_of_ble_eq_true rfl) rfl rfl (Nat.le_of_ble_eq_true rfl) rfl rfl (Nat.zero_le _) (Nat.zero_le _) dX9_pump_154 ?_
      suffices K157 : VW k z 0 0 (wAll k T R ly rc hn rp tp ee st w aside thought fresh mu th mp mf mh mg ou od) 165 [some (.ref (k.b + (0))), some (.int x1), some (.int x2)] [.int (if u154 = 0 then (0 : Int32) else (1 : Int32))] by
        refine r_if_eq X 164 dX9_pump_157 rfl (fun c157 => ?_) (fun c157 => ?_)
        · refine r_iconst X (v := 0) dX9_pump_164 rfl ?_
          rw [if_pos c157] at K157
          exact K157
        · refine r_iconst X (v := 1) dX9_pump_160 rfl ?_
          refine r_goto X 165 dX9_pump_161 rfl ?_
          rw [if_neg c157] at K157
          exact K157
      obtain rfl := Option.some.inj hf
      exact x_ireturn X hQ rfl rfl (Nat.le_of_ble_eq_true rfl) (Nat.le_of_ble_eq_true rfl) dX9_pump_165
    replace hf := ifF hf c20_6
    by_cases c20_7 : x2 = 7
    · replace hf := ifT hf c20_7
      refine r_tswIn X (off := 146) 166 dX9_pump_20 (by rw [c20_7]; decide) (by rw [c20_7]; decide) (by rw [c20_7]; rfl) rfl ?_
      refine r_aload_n X (x := k.b + (0)) dX9_pump_166 rfl ?_
      refine r_getfield X (v := .ref (k.b + (45 + 12 * (TP_pr tp).val))) clsX9 flX9_73 (Nat.le_of_ble_eq_true rfl) _ o_main rfl dX9_pump_167 ?_
      refine r_getfield X (v := .ref (k.b + (45 + 12 * (TP_pr tp).val + 7))) clsX5 flX9_239 (Nat.le_of_ble_eq_true rfl) _ (o_st (TP_pr tp)) rfl dX9_pump_170 ?_
      refine r_iload_n X (x := x1) dX9_pump_173 rfl ?_
      obtain ⟨g174, hf⟩ := gdS hf
      refine r_iaload X (f := SS_pumpTrips (st (TP_pr tp))) _ (a_st_pumpTrips (TP_pr tp)) g174 dX9_pump_174 ?_
      obtain rfl := Option.some.inj hf
      exact x_ireturn X hQ rfl rfl (Nat.le_of_ble_eq_true rfl) (Nat.le_of_ble_eq_true rfl) dX9_pump_175
    replace hf := ifF hf c20_7
    refine r_tswOut X 176 dX9_pump_20 (tsw_out (fun v hv1 hv2 => by
      rcases (show v = 0 ∨ v = 1 ∨ v = 2 ∨ v = 3 ∨ v = 4 ∨ v = 5 ∨ v = 6 ∨ v = 7 by omega) with rfl | rfl | rfl | rfl | rfl | rfl | rfl | rfl
      · exact c20_0
      · exact c20_1
      · exact c20_2
      · exact c20_3
      · exact c20_4
      · exact c20_5
      · exact c20_6
      · exact c20_7
      )) rfl ?_
    obtain rfl := Option.some.inj hf
    exact r_throw X hT ltX9_1 (by decide) hQ rfl rfl (Nat.le_of_ble_eq_true rfl) (Nat.le_of_ble_eq_true rfl) rfl ⟨(Nat.le_of_ble_eq_true rfl), (Nat.le_of_ble_eq_true rfl), (Nat.le_of_ble_eq_true rfl), (Nat.le_of_ble_eq_true rfl)⟩ dX9_pump_176 dX9_pump_179 dX9_pump_180 dX9_pump_183
  · replace hf := ifT hf c8
    obtain rfl := Option.some.inj hf
    exact r_throw X hT ltX9_2 (by decide) hQ rfl rfl (Nat.le_of_ble_eq_true rfl) (Nat.le_of_ble_eq_true rfl) rfl ⟨(Nat.le_of_ble_eq_true rfl), (Nat.le_of_ble_eq_true rfl), (Nat.le_of_ble_eq_true rfl), (Nat.le_of_ble_eq_true rfl)⟩ dX9_pump_11 dX9_pump_14 dX9_pump_15 dX9_pump_18
set_option maxRecDepth 100000 in
set_option maxHeartbeats 4000000 in
theorem K9_valve {k : KT} {T : TT} {R : RR} {ly : Fin 2 → LL} {rc : RC} {hn : HN} {rp : RP} {tp : TP} {ee : EE} {st : Fin 12 → SS} {w : Nat → Int64} {aside : Nat → Int64} {thought : Nat → Int64} {fresh : Nat → Int64} {mu : MU} {th : Int32} {mp : MP} {mf : MF} {mh : MH} {mg : MG} {ou : Nat → Int64} {od : Nat → UInt64}  {x1 : Int32} {x2 : Int32} {r : (Int32 ⊕ Nat)} (hf : f9_valve (ly (0 : Fin 2)) tp st  x1 x2 = some r) : CX k strs yX9_valve cX9_valve 3 (some .int) (rmD 6 1 6) [.ref (k.b + (0)), .int x1, .int x2] (wAll k T R ly rc hn rp tp ee st w aside thought fresh mu th mp mf mh mg ou od) (oI r) (wAll k T R ly rc hn rp tp ee st w aside thought fresh mu th mp mf mh mg ou od) := by
  refine CX.of (by decide) (Nat.le_of_ble_eq_true rfl) ?_
  intro z X hT hQ
  show VW k z 0 0 (wAll k T R ly rc hn rp tp ee st w aside thought fresh mu th mp mf mh mg ou od) 0 [some (.ref (k.b + (0))), some (.int x1), some (.int x2)] []
  unfold f9_valve at hf
  refine r_aload_n X (x := k.b + (0)) dX9_valve_0 rfl ?_
  refine r_getfield X (v := .ref (k.b + (4 + 17 * (0 : Fin 2).val))) clsX9 flX9_28 (Nat.le_of_ble_eq_true rfl) _ o_main rfl dX9_valve_1 ?_
  refine r_iload_n X (x := x1) dX9_valve_4 rfl ?_
  obtain ⟨u5, h5, hf⟩ := bdS hf
  refine r_callV0 X [.int x1] [] (K1_hasValve h5) lkX9_128 clsX1 rfl _ (o_lay (0 : Fin 2)) (by decide) (Nat.le_of_ble_eq_true rfl) rfl rfl (Nat.le_of_ble_eq_true rfl) rfl rfl (Nat.zero_le _) (Nat.zero_le _) dX9_valve_5 ?_
  refine r_if_ne X 19 dX9_valve_8 rfl (fun c8 => ?_) (fun c8 => ?_)
  · replace hf := ifF hf c8
    refine r_iload_n X (x := x2) dX9_valve_19 rfl ?_
    by_cases c20_0 : x2 = 0
    · replace hf := ifT hf c20_0
      refine r_tswIn X (off := 44) 64 dX9_valve_20 (by rw [c20_0]; decide) (by rw [c20_0]; decide) (by rw [c20_0]; rfl) rfl ?_
      refine r_aload_n X (x := k.b + (0)) dX9_valve_64 rfl ?_
      refine r_getfield X (v := .ref (k.b + (4 + 17 * (0 : Fin 2).val))) clsX9 flX9_28 (Nat.le_of_ble_eq_true rfl) _ o_main rfl dX9_valve_65 ?_
      refine r_getfield X (v := .ref (k.b + (4 + 17 * (0 : Fin 2).val + 10))) clsX1 flX9_288 (Nat.le_of_ble_eq_true rfl) _ (o_lay (0 : Fin 2)) rfl dX9_valve_68 ?_
      refine r_iload_n X (x := x1) dX9_valve_71 rfl ?_
      obtain ⟨g72, hf⟩ := gdS hf
      refine r_iaload X (f := LL_valveChamber (ly (0 : Fin 2))) _ (a_lay_valveChamber (0 : Fin 2)) g72 dX9_valve_72 ?_
      obtain rfl := Option.some.inj hf
      exact x_ireturn X hQ rfl rfl (Nat.le_of_ble_eq_true rfl) (Nat.le_of_ble_eq_true rfl) dX9_valve_73
    replace hf := ifF hf c20_0
    by_cases c20_1 : x2 = 1
    · replace hf := ifT hf c20_1
      refine r_tswIn X (off := 54) 74 dX9_valve_20 (by rw [c20_1]; decide) (by rw [c20_1]; decide) (by rw [c20_1]; rfl) rfl ?_
      refine r_aload_n X (x := k.b + (0)) dX9_valve_74 rfl ?_
      refine r_getfield X (v := .ref (k.b + (4 + 17 * (0 : Fin 2).val))) clsX9 flX9_28 (Nat.le_of_ble_eq_true rfl) _ o_main rfl dX9_valve_75 ?_
      refine r_getfield X (v := .ref (k.b + (4 + 17 * (0 : Fin 2).val + 11))) clsX1 flX9_291 (Nat.le_of_ble_eq_true rfl) _ (o_lay (0 : Fin 2)) rfl dX9_valve_78 ?_
      refine r_iload_n X (x := x1) dX9_valve_81 rfl ?_
      obtain ⟨g82, hf⟩ := gdS hf
      refine r_iaload X (f := LL_otherSide (ly (0 : Fin 2))) _ (a_lay_otherSide (0 : Fin 2)) g82 dX9_valve_82 ?_
      obtain ⟨u83, h83, hf⟩ := bdS hf
      refine r_callS0 X [.int ((LL_otherSide (ly (0 : Fin 2))) (ix x1))] [] (K9_told h83) lkX9_273 (by decide) (Nat.le_of_ble_eq_true rfl) rfl rfl (Nat.le_of_ble_eq_true rfl) rfl rfl (Nat.zero_le _) (Nat.zero_le _) dX9_valve_83 ?_
      obtain rfl := Option.some.inj hf
      exact x_ireturn X hQ rfl rfl (Nat.le_of_ble_eq_true rfl) (Nat.le_of_ble_eq_true rfl) dX9_valve_86
    replace hf := ifF hf c20_1
    by_cases c20_2 : x2 = 2
    · replace hf := ifT hf c20_2
      refine r_tswIn X (off := 67) 87 dX9_valve_20 (by rw [c20_2]; decide) (by rw [c20_2]; decide) (by rw [c20_2]; rfl) rfl ?_
      refine r_aload_n X (x := k.b + (0)) dX9_valve_87 rfl ?_
      refine r_getfield X (v := .ref (k.b + (4 + 17 * (0 : Fin 2).val))) clsX9 flX9_28 (Nat.le_of_ble_eq_true rfl) _ o_main rfl dX9_valve_88 ?_
      refine r_getfield X (v := .ref (k.b + (4 + 17 * (0 : Fin 2).val + 12))) clsX1 flX9_294 (Nat.le_of_ble_eq_true rfl) _ (o_lay (0 : Fin 2)) rfl dX9_valve_91 ?_
      refine r_iload_n X (x := x1) dX9_valve_94 rfl ?_
      obtain ⟨g95, hf⟩ := gdS hf
      refine r_iaload X (f := LL_conductance (ly (0 : Fin 2))) _ (a_lay_conductance (0 : Fin 2)) g95 dX9_valve_95 ?_
      obtain rfl := Option.some.inj hf
      exact x_ireturn X hQ rfl rfl (Nat.le_of_ble_eq_true rfl) (Nat.le_of_ble_eq_true rfl) dX9_valve_96
    replace hf := ifF hf c20_2
    by_cases c20_3 : x2 = 3
    · replace hf := ifT hf c20_3
      refine r_tswIn X (off := 77) 97 dX9_valve_20 (by rw [c20_3]; decide) (by rw [c20_3]; decide) (by rw [c20_3]; rfl) rfl ?_
      refine r_aload_n X (x := k.b + (0)) dX9_valve_97 rfl ?_
      refine r_getfield X (v := .ref (k.b + (45 + 12 * (TP_pr tp).val))) clsX9 flX9_73 (Nat.le_of_ble_eq_true rfl) _ o_main rfl dX9_valve_98 ?_
      refine r_getfield X (v := .ref (k.b + (45 + 12 * (TP_pr tp).val + 5))) clsX5 flX9_204 (Nat.le_of_ble_eq_true rfl) _ (o_st (TP_pr tp)) rfl dX9_valve_101 ?_
      refine r_iload_n X (x := x1) dX9_valve_104 rfl ?_
      obtain ⟨g105, hf⟩ := gdS hf
      refine r_iaload X (f := SS_rule (st (TP_pr tp))) _ (a_st_rule (TP_pr tp)) g105 dX9_valve_105 ?_
      obtain rfl := Option.some.inj hf
      exact x_ireturn X hQ rfl rfl (Nat.le_of_ble_eq_true rfl) (Nat.le_of_ble_eq_true rfl) dX9_valve_106
    replace hf := ifF hf c20_3
    by_cases c20_4 : x2 = 4
    · replace hf := ifT hf c20_4
      refine r_tswIn X (off := 87) 107 dX9_valve_20 (by rw [c20_4]; decide) (by rw [c20_4]; decide) (by rw [c20_4]; rfl) rfl ?_
      refine r_aload_n X (x := k.b + (0)) dX9_valve_107 rfl ?_
      refine r_getfield X (v := .ref (k.b + (45 + 12 * (TP_pr tp).val))) clsX9 flX9_73 (Nat.le_of_ble_eq_true rfl) _ o_main rfl dX9_valve_108 ?_
      refine r_iload_n X (x := x1) dX9_valve_111 rfl ?_
      obtain ⟨u112, h112, hf⟩ := bdS hf
      refine r_callV0 X [.int x1] [] (CT_unS (W := fun zz => wAll k T R ly rc hn rp tp ee zz w aside thought fresh mu th mp mf mh mg ou od) (W2 := fun zz => wAll k T R ly rc hn rp tp ee zz w aside thought fresh mu th mp mf mh mg ou od) (st := st) (TP_pr tp) (K5_isOpen h112)) lkX9_151 clsX5 rfl _ (o_st (TP_pr tp)) (by decide) (Nat.le_of_ble_eq_true rfl) rfl rfl (Nat.le_of_ble_eq_true rfl) rfl rfl (Nat.zero_le _) (Nat.zero_le _) dX9_valve_112 ?_
      suffices K115 : VW k z 0 0 (wAll k T R ly rc hn rp tp ee st w aside thought fresh mu th mp mf mh mg ou od) 123 [some (.ref (k.b + (0))), some (.int x1), some (.int x2)] [.int (if u112 = 0 then (0 : Int32) else (1 : Int32))] by
        refine r_if_eq X 122 dX9_valve_115 rfl (fun c115 => ?_) (fun c115 => ?_)
        · refine r_iconst X (v := 0) dX9_valve_122 rfl ?_
          rw [if_pos c115] at K115
          exact K115
        · refine r_iconst X (v := 1) dX9_valve_118 rfl ?_
          refine r_goto X 123 dX9_valve_119 rfl ?_
          rw [if_neg c115] at K115
          exact K115
      obtain rfl := Option.some.inj hf
      exact x_ireturn X hQ rfl rfl (Nat.le_of_ble_eq_true rfl) (Nat.le_of_ble_eq_true rfl) dX9_valve_123
    replace hf := ifF hf c20_4
    by_cases c20_5 : x2 = 5
    · replace hf := ifT hf c20_5
      refine r_tswIn X (off := 104) 124 dX9_valve_20 (by rw [c20_5]; decide) (by rw [c20_5]; decide) (by rw [c20_5]; rfl) rfl ?_
      refine r_aload_n X (x := k.b + (0)) dX9_valve_124 rfl ?_
      refine r_getfield X (v := .ref (k.b + (45 + 12 * (TP_pr tp).val))) clsX9 flX9_73 (Nat.le_of_ble_eq_true rfl) _ o_main rfl dX9_valve_125 ?_
      refine r_getfield X (v := .ref (k.b + (45 + 12 * (TP_pr tp).val + 6))) clsX5 flX9_232 (Nat.le_of_ble_eq_true rfl) _ (o_st (TP_pr tp)) rfl dX9_valve_128 ?_
      refine r_iload_n X (x := x1) dX9_valve_131 rfl ?_
      obtain ⟨g132, hf⟩ := gdS hf
      refine r_iaload X (f := SS_valveTrips (st (TP_pr tp))) _ (a_st_valveTrips (TP_pr tp)) g132 dX9_valve_132 ?_
      obtain rfl := Option.some.inj hf
      exact x_ireturn X hQ rfl rfl (Nat.le_of_ble_eq_true rfl) (Nat.le_of_ble_eq_true rfl) dX9_valve_133
    replace hf := ifF hf c20_5
    by_cases c20_6 : x2 = 6
    · replace hf := ifT hf c20_6
      refine r_tswIn X (off := 114) 134 dX9_valve_20 (by rw [c20_6]; decide) (by rw [c20_6]; decide) (by rw [c20_6]; rfl) rfl ?_
      refine r_aload_n X (x := k.b + (0)) dX9_valve_134 rfl ?_
      refine r_getfield X (v := .ref (k.b + (45 + 12 * (TP_pr tp).val))) clsX9 flX9_73 (Nat.le_of_ble_eq_true rfl) _ o_main rfl dX9_valve_135 ?_
      refine r_iload_n X (x := x1) dX9_valve_138 rfl ?_
      obtain ⟨u139, h139, hf⟩ := bdS hf
      refine r_callV0 X [.int x1] [] (CT_unS (W := fun zz => wAll k T R ly rc hn rp tp ee zz w aside thought fresh mu th mp mf mh mg ou od) (W2 := fun zz => wAll k T R ly rc hn rp tp ee zz w aside thought fresh mu th mp mf mh mg ou od) (st := st) (TP_pr tp) (K5_difference h139)) lkX9_148 clsX5 rfl _ (o_st (TP_pr tp)) (by decide) (Nat.le_of_ble_eq_true rfl) rfl rfl (Nat.le_of_ble_eq_true rfl) rfl rfl (Nat.zero_le _) (Nat.zero_le _) dX9_valve_139 ?_
      obtain rfl := Option.some.inj hf
      exact x_ireturn X hQ rfl rfl (Nat.le_of_ble_eq_true rfl) (Nat.le_of_ble_eq_true rfl) dX9_valve_142
    replace hf := ifF hf c20_6
    refine r_tswOut X 143 dX9_valve_20 (tsw_out (fun v hv1 hv2 => by
      rcases (show v = 0 ∨ v = 1 ∨ v = 2 ∨ v = 3 ∨ v = 4 ∨ v = 5 ∨ v = 6 by omega) with rfl | rfl | rfl | rfl | rfl | rfl | rfl
      · exact c20_0
      · exact c20_1
      · exact c20_2
      · exact c20_3
      · exact c20_4
      · exact c20_5
      · exact c20_6
      )) rfl ?_
    obtain rfl := Option.some.inj hf
    exact r_throw X hT ltX9_1 (by decide) hQ rfl rfl (Nat.le_of_ble_eq_true rfl) (Nat.le_of_ble_eq_true rfl) rfl ⟨(Nat.le_of_ble_eq_true rfl), (Nat.le_of_ble_eq_true rfl), (Nat.le_of_ble_eq_true rfl), (Nat.le_of_ble_eq_true rfl)⟩ dX9_valve_143 dX9_valve_146 dX9_valve_147 dX9_valve_150
  · replace hf := ifT hf c8
    obtain rfl := Option.some.inj hf
    exact r_throw X hT ltX9_2 (by decide) hQ rfl rfl (Nat.le_of_ble_eq_true rfl) (Nat.le_of_ble_eq_true rfl) rfl ⟨(Nat.le_of_ble_eq_true rfl), (Nat.le_of_ble_eq_true rfl), (Nat.le_of_ble_eq_true rfl), (Nat.le_of_ble_eq_true rfl)⟩ dX9_valve_11 dX9_valve_14 dX9_valve_15 dX9_valve_18
set_option maxRecDepth 100000 in
set_option maxHeartbeats 4000000 in
theorem K9_flange {k : KT} {T : TT} {R : RR} {ly : Fin 2 → LL} {rc : RC} {hn : HN} {rp : RP} {tp : TP} {ee : EE} {st : Fin 12 → SS} {w : Nat → Int64} {aside : Nat → Int64} {thought : Nat → Int64} {fresh : Nat → Int64} {mu : MU} {th : Int32} {mp : MP} {mf : MF} {mh : MH} {mg : MG} {ou : Nat → Int64} {od : Nat → UInt64}  {x1 : Int32} {x2 : Int32} {r : (Int32 ⊕ Nat)} (hf : f9_flange (ly (0 : Fin 2)) tp st  x1 x2 = some r) : CX k strs yX9_flange cX9_flange 3 (some .int) (rmD 6 1 6) [.ref (k.b + (0)), .int x1, .int x2] (wAll k T R ly rc hn rp tp ee st w aside thought fresh mu th mp mf mh mg ou od) (oI r) (wAll k T R ly rc hn rp tp ee st w aside thought fresh mu th mp mf mh mg ou od) := by
  refine CX.of (by decide) (Nat.le_of_ble_eq_true rfl) ?_
  intro z X hT hQ
  show VW k z 0 0 (wAll k T R ly rc hn rp tp ee st w aside thought fresh mu th mp mf mh mg ou od) 0 [some (.ref (k.b + (0))), some (.int x1), some (.int x2)] []
  unfold f9_flange at hf
  refine r_aload_n X (x := k.b + (0)) dX9_flange_0 rfl ?_
  refine r_getfield X (v := .ref (k.b + (4 + 17 * (0 : Fin 2).val))) clsX9 flX9_28 (Nat.le_of_ble_eq_true rfl) _ o_main rfl dX9_flange_1 ?_
  refine r_iload_n X (x := x1) dX9_flange_4 rfl ?_
  obtain ⟨u5, h5, hf⟩ := bdS hf
  refine r_callV0 X [.int x1] [] (K1_hasFlange h5) lkX9_195 clsX1 rfl _ (o_lay (0 : Fin 2)) (by decide) (Nat.le_of_ble_eq_true rfl) rfl rfl (Nat.le_of_ble_eq_true rfl) rfl rfl (Nat.zero_le _) (Nat.zero_le _) dX9_flange_5 ?_
  refine r_if_ne X 19 dX9_flange_8 rfl (fun c8 => ?_) (fun c8 => ?_)
  · replace hf := ifF hf c8
    refine r_iload_n X (x := x2) dX9_flange_19 rfl ?_
    by_cases c20_0 : x2 = 0
    · replace hf := ifT hf c20_0
      refine r_lookup X (off := 28) 48 dX9_flange_20 rfl (by rw [c20_0]; rfl) rfl ?_
      refine r_aload_n X (x := k.b + (0)) dX9_flange_48 rfl ?_
      refine r_getfield X (v := .ref (k.b + (4 + 17 * (0 : Fin 2).val))) clsX9 flX9_28 (Nat.le_of_ble_eq_true rfl) _ o_main rfl dX9_flange_49 ?_
      refine r_getfield X (v := .ref (k.b + (4 + 17 * (0 : Fin 2).val + 14))) clsX1 flX9_297 (Nat.le_of_ble_eq_true rfl) _ (o_lay (0 : Fin 2)) rfl dX9_flange_52 ?_
      refine r_iload_n X (x := x1) dX9_flange_55 rfl ?_
      obtain ⟨g56, hf⟩ := gdS hf
      refine r_iaload X (f := LL_flangeChamber (ly (0 : Fin 2))) _ (a_lay_flangeChamber (0 : Fin 2)) g56 dX9_flange_56 ?_
      obtain rfl := Option.some.inj hf
      exact x_ireturn X hQ rfl rfl (Nat.le_of_ble_eq_true rfl) (Nat.le_of_ble_eq_true rfl) dX9_flange_57
    replace hf := ifF hf c20_0
    by_cases c20_1 : x2 = 1
    · replace hf := ifT hf c20_1
      refine r_lookup X (off := 38) 58 dX9_flange_20 rfl (by rw [c20_1]; rfl) rfl ?_
      refine r_aload_n X (x := k.b + (0)) dX9_flange_58 rfl ?_
      refine r_getfield X (v := .ref (k.b + (45 + 12 * (TP_pr tp).val))) clsX9 flX9_73 (Nat.le_of_ble_eq_true rfl) _ o_main rfl dX9_flange_59 ?_
      refine r_getfield X (v := .ref (k.b + (45 + 12 * (TP_pr tp).val + 8))) clsX5 flX9_300 (Nat.le_of_ble_eq_true rfl) _ (o_st (TP_pr tp)) rfl dX9_flange_62 ?_
      refine r_iload_n X (x := x1) dX9_flange_65 rfl ?_
      obtain ⟨g66, hf⟩ := gdS hf
      refine r_iaload X (f := SS_leak (st (TP_pr tp))) _ (a_st_leak (TP_pr tp)) g66 dX9_flange_66 ?_
      obtain rfl := Option.some.inj hf
      exact x_ireturn X hQ rfl rfl (Nat.le_of_ble_eq_true rfl) (Nat.le_of_ble_eq_true rfl) dX9_flange_67
    replace hf := ifF hf c20_1
    refine r_lookup X (off := 48) 68 dX9_flange_20 rfl (by
      dsimp only
      rw [lv_osw c20_0 (by decide)]
      rw [lv_osw c20_1 (by decide)]
      rfl
      ) rfl ?_
    obtain rfl := Option.some.inj hf
    exact r_throw X hT ltX9_1 (by decide) hQ rfl rfl (Nat.le_of_ble_eq_true rfl) (Nat.le_of_ble_eq_true rfl) rfl ⟨(Nat.le_of_ble_eq_true rfl), (Nat.le_of_ble_eq_true rfl), (Nat.le_of_ble_eq_true rfl), (Nat.le_of_ble_eq_true rfl)⟩ dX9_flange_68 dX9_flange_71 dX9_flange_72 dX9_flange_75
  · replace hf := ifT hf c8
    obtain rfl := Option.some.inj hf
    exact r_throw X hT ltX9_2 (by decide) hQ rfl rfl (Nat.le_of_ble_eq_true rfl) (Nat.le_of_ble_eq_true rfl) rfl ⟨(Nat.le_of_ble_eq_true rfl), (Nat.le_of_ble_eq_true rfl), (Nat.le_of_ble_eq_true rfl), (Nat.le_of_ble_eq_true rfl)⟩ dX9_flange_11 dX9_flange_14 dX9_flange_15 dX9_flange_18
set_option maxRecDepth 100000 in
set_option maxHeartbeats 4000000 in
theorem K9_rise {k : KT} {T : TT} {R : RR} {ly : Fin 2 → LL} {rc : RC} {hn : HN} {rp : RP} {tp : TP} {ee : EE} {st : Fin 12 → SS} {w : Nat → Int64} {aside : Nat → Int64} {thought : Nat → Int64} {fresh : Nat → Int64} {mu : MU} {th : Int32} {mp : MP} {mf : MF} {mh : MH} {mg : MG} {ou : Nat → Int64} {od : Nat → UInt64}  {x1 : Int32} {x2 : Int32} {r : (Int32 ⊕ Nat)} (hf : f9_rise tp st  x1 x2 = some r) : CX k strs yX9_rise cX9_rise 3 (some .int) (rmD 6 1 6) [.ref (k.b + (0)), .int x1, .int x2] (wAll k T R ly rc hn rp tp ee st w aside thought fresh mu th mp mf mh mg ou od) (oI r) (wAll k T R ly rc hn rp tp ee st w aside thought fresh mu th mp mf mh mg ou od) := by
  refine CX.of (by decide) (Nat.le_of_ble_eq_true rfl) ?_
  intro z X hT hQ
  show VW k z 0 0 (wAll k T R ly rc hn rp tp ee st w aside thought fresh mu th mp mf mh mg ou od) 0 [some (.ref (k.b + (0))), some (.int x1), some (.int x2)] []
  unfold f9_rise at hf
  refine r_iload_n X (x := x1) dX9_rise_0 rfl ?_
  refine r_if_lt X 18 dX9_rise_1 rfl (fun c1 => ?_) (fun c1 => ?_)
  · replace hf := ifT hf c1
    obtain rfl := Option.some.inj hf
    exact r_throw X hT ltX9_2 (by decide) hQ rfl rfl (Nat.le_of_ble_eq_true rfl) (Nat.le_of_ble_eq_true rfl) rfl ⟨(Nat.le_of_ble_eq_true rfl), (Nat.le_of_ble_eq_true rfl), (Nat.le_of_ble_eq_true rfl), (Nat.le_of_ble_eq_true rfl)⟩ dX9_rise_18 dX9_rise_21 dX9_rise_22 dX9_rise_25
  · replace hf := ifF hf c1
    refine r_iload_n X (x := x1) dX9_rise_4 rfl ?_
    refine r_aload_n X (x := k.b + (0)) dX9_rise_5 rfl ?_
    refine r_getfield X (v := .ref (k.b + (45 + 12 * (TP_pr tp).val))) clsX9 flX9_73 (Nat.le_of_ble_eq_true rfl) _ o_main rfl dX9_rise_6 ?_
    refine r_getfield X (v := .ref (k.b + (45 + 12 * (TP_pr tp).val + 9))) clsX5 flX9_242 (Nat.le_of_ble_eq_true rfl) _ (o_st (TP_pr tp)) rfl dX9_rise_9 ?_
    refine r_getfield X (v := .int (SS_kept (st (TP_pr tp)))) clsX7 flX9_246 (Nat.le_of_ble_eq_true rfl) _ (o_tl (TP_pr tp)) rfl dX9_rise_12 ?_
    refine r_icmp_lt X 26 dX9_rise_15 rfl (fun c15 => ?_) (fun c15 => ?_)
    · replace hf := ifT hf c15
      refine r_iload_n X (x := x2) dX9_rise_26 rfl ?_
      refine r_if_lt X 35 dX9_rise_27 rfl (fun c27 => ?_) (fun c27 => ?_)
      · replace hf := ifT hf c27
        obtain rfl := Option.some.inj hf
        exact r_throw X hT ltX9_1 (by decide) hQ rfl rfl (Nat.le_of_ble_eq_true rfl) (Nat.le_of_ble_eq_true rfl) rfl ⟨(Nat.le_of_ble_eq_true rfl), (Nat.le_of_ble_eq_true rfl), (Nat.le_of_ble_eq_true rfl), (Nat.le_of_ble_eq_true rfl)⟩ dX9_rise_35 dX9_rise_38 dX9_rise_39 dX9_rise_42
      · replace hf := ifF hf c27
        refine r_iload_n X (x := x2) dX9_rise_30 rfl ?_
        refine r_iconst X (v := 4) dX9_rise_31 rfl ?_
        refine r_icmp_lt X 43 dX9_rise_32 rfl (fun c32 => ?_) (fun c32 => ?_)
        · replace hf := ifT hf c32
          refine r_aload_n X (x := k.b + (0)) dX9_rise_43 rfl ?_
          refine r_getfield X (v := .ref (k.b + (45 + 12 * (TP_pr tp).val))) clsX9 flX9_73 (Nat.le_of_ble_eq_true rfl) _ o_main rfl dX9_rise_44 ?_
          refine r_getfield X (v := .ref (k.b + (45 + 12 * (TP_pr tp).val + 9))) clsX5 flX9_242 (Nat.le_of_ble_eq_true rfl) _ (o_st (TP_pr tp)) rfl dX9_rise_47 ?_
          refine r_iload_n X (x := x1) dX9_rise_50 rfl ?_
          refine r_iload_n X (x := x2) dX9_rise_51 rfl ?_
          obtain ⟨u52, h52, hf⟩ := bdS hf
          refine r_callV0 X [.int x1, .int x2] [] (CT_unS (W := fun zz => wAll k T R ly rc hn rp tp ee zz w aside thought fresh mu th mp mf mh mg ou od) (W2 := fun zz => wAll k T R ly rc hn rp tp ee zz w aside thought fresh mu th mp mf mh mg ou od) (st := st) (TP_pr tp) (K7_fact h52)) lkX9_303 clsX7 rfl _ (o_tl (TP_pr tp)) (by decide) (Nat.le_of_ble_eq_true rfl) rfl rfl (Nat.le_of_ble_eq_true rfl) rfl rfl (Nat.zero_le _) (Nat.zero_le _) dX9_rise_52 ?_
          obtain rfl := Option.some.inj hf
          exact x_ireturn X hQ rfl rfl (Nat.le_of_ble_eq_true rfl) (Nat.le_of_ble_eq_true rfl) dX9_rise_55
        · replace hf := ifF hf c32
          obtain rfl := Option.some.inj hf
          exact r_throw X hT ltX9_1 (by decide) hQ rfl rfl (Nat.le_of_ble_eq_true rfl) (Nat.le_of_ble_eq_true rfl) rfl ⟨(Nat.le_of_ble_eq_true rfl), (Nat.le_of_ble_eq_true rfl), (Nat.le_of_ble_eq_true rfl), (Nat.le_of_ble_eq_true rfl)⟩ dX9_rise_35 dX9_rise_38 dX9_rise_39 dX9_rise_42
    · replace hf := ifF hf c15
      obtain rfl := Option.some.inj hf
      exact r_throw X hT ltX9_2 (by decide) hQ rfl rfl (Nat.le_of_ble_eq_true rfl) (Nat.le_of_ble_eq_true rfl) rfl ⟨(Nat.le_of_ble_eq_true rfl), (Nat.le_of_ble_eq_true rfl), (Nat.le_of_ble_eq_true rfl), (Nat.le_of_ble_eq_true rfl)⟩ dX9_rise_18 dX9_rise_21 dX9_rise_22 dX9_rise_25
set_option maxRecDepth 100000 in
set_option maxHeartbeats 4000000 in
theorem K9_riseGas {k : KT} {T : TT} {R : RR} {ly : Fin 2 → LL} {rc : RC} {hn : HN} {rp : RP} {tp : TP} {ee : EE} {st : Fin 12 → SS} {w : Nat → Int64} {aside : Nat → Int64} {thought : Nat → Int64} {fresh : Nat → Int64} {mu : MU} {th : Int32} {mp : MP} {mf : MF} {mh : MH} {mg : MG} {ou : Nat → Int64} {od : Nat → UInt64}  {x1 : Int32} {x2 : Int32} {r : (Int64 ⊕ Nat)} (hf : f9_riseGas tp st  x1 x2 = some r) : CX k strs yX9_riseGas cX9_riseGas 3 (some .long) (rmD 6 1 6) [.ref (k.b + (0)), .int x1, .int x2] (wAll k T R ly rc hn rp tp ee st w aside thought fresh mu th mp mf mh mg ou od) (oL r) (wAll k T R ly rc hn rp tp ee st w aside thought fresh mu th mp mf mh mg ou od) := by
  refine CX.of (by decide) (Nat.le_of_ble_eq_true rfl) ?_
  intro z X hT hQ
  show VW k z 0 0 (wAll k T R ly rc hn rp tp ee st w aside thought fresh mu th mp mf mh mg ou od) 0 [some (.ref (k.b + (0))), some (.int x1), some (.int x2)] []
  unfold f9_riseGas at hf
  refine r_iload_n X (x := x1) dX9_riseGas_0 rfl ?_
  refine r_if_lt X 18 dX9_riseGas_1 rfl (fun c1 => ?_) (fun c1 => ?_)
  · replace hf := ifT hf c1
    obtain rfl := Option.some.inj hf
    exact r_throw X hT ltX9_2 (by decide) hQ rfl rfl (Nat.le_of_ble_eq_true rfl) (Nat.le_of_ble_eq_true rfl) rfl ⟨(Nat.le_of_ble_eq_true rfl), (Nat.le_of_ble_eq_true rfl), (Nat.le_of_ble_eq_true rfl), (Nat.le_of_ble_eq_true rfl)⟩ dX9_riseGas_18 dX9_riseGas_21 dX9_riseGas_22 dX9_riseGas_25
  · replace hf := ifF hf c1
    refine r_iload_n X (x := x1) dX9_riseGas_4 rfl ?_
    refine r_aload_n X (x := k.b + (0)) dX9_riseGas_5 rfl ?_
    refine r_getfield X (v := .ref (k.b + (45 + 12 * (TP_pr tp).val))) clsX9 flX9_73 (Nat.le_of_ble_eq_true rfl) _ o_main rfl dX9_riseGas_6 ?_
    refine r_getfield X (v := .ref (k.b + (45 + 12 * (TP_pr tp).val + 9))) clsX5 flX9_242 (Nat.le_of_ble_eq_true rfl) _ (o_st (TP_pr tp)) rfl dX9_riseGas_9 ?_
    refine r_getfield X (v := .int (SS_kept (st (TP_pr tp)))) clsX7 flX9_246 (Nat.le_of_ble_eq_true rfl) _ (o_tl (TP_pr tp)) rfl dX9_riseGas_12 ?_
    refine r_icmp_lt X 26 dX9_riseGas_15 rfl (fun c15 => ?_) (fun c15 => ?_)
    · replace hf := ifT hf c15
      refine r_aload_n X (x := k.b + (0)) dX9_riseGas_26 rfl ?_
      refine r_getfield X (v := .ref (k.b + (45 + 12 * (TP_pr tp).val))) clsX9 flX9_73 (Nat.le_of_ble_eq_true rfl) _ o_main rfl dX9_riseGas_27 ?_
      refine r_getfield X (v := .ref (k.b + (45 + 12 * (TP_pr tp).val + 9))) clsX5 flX9_242 (Nat.le_of_ble_eq_true rfl) _ (o_st (TP_pr tp)) rfl dX9_riseGas_30 ?_
      refine r_iload_n X (x := x1) dX9_riseGas_33 rfl ?_
      refine r_iload_n X (x := x2) dX9_riseGas_34 rfl ?_
      obtain ⟨u35, h35, hf⟩ := bdS hf
      refine r_callV0 X [.int x1, .int x2] [] (CT_unS (W := fun zz => wAll k T R ly rc hn rp tp ee zz w aside thought fresh mu th mp mf mh mg ou od) (W2 := fun zz => wAll k T R ly rc hn rp tp ee zz w aside thought fresh mu th mp mf mh mg ou od) (st := st) (TP_pr tp) (K7_riseOf h35)) lkX9_306 clsX7 rfl _ (o_tl (TP_pr tp)) (by decide) (Nat.le_of_ble_eq_true rfl) rfl rfl (Nat.le_of_ble_eq_true rfl) rfl rfl (Nat.zero_le _) (Nat.zero_le _) dX9_riseGas_35 ?_
      obtain rfl := Option.some.inj hf
      exact x_lreturn X hQ rfl rfl (Nat.le_of_ble_eq_true rfl) (Nat.le_of_ble_eq_true rfl) dX9_riseGas_38
    · replace hf := ifF hf c15
      obtain rfl := Option.some.inj hf
      exact r_throw X hT ltX9_2 (by decide) hQ rfl rfl (Nat.le_of_ble_eq_true rfl) (Nat.le_of_ble_eq_true rfl) rfl ⟨(Nat.le_of_ble_eq_true rfl), (Nat.le_of_ble_eq_true rfl), (Nat.le_of_ble_eq_true rfl), (Nat.le_of_ble_eq_true rfl)⟩ dX9_riseGas_18 dX9_riseGas_21 dX9_riseGas_22 dX9_riseGas_25
set_option maxRecDepth 100000 in
set_option maxHeartbeats 4000000 in
theorem K9_mayOpen {k : KT} {T : TT} {R : RR} {ly : Fin 2 → LL} {rc : RC} {hn : HN} {rp : RP} {tp : TP} {ee : EE} {st : Fin 12 → SS} {w : Nat → Int64} {aside : Nat → Int64} {thought : Nat → Int64} {fresh : Nat → Int64} {mu : MU} {th : Int32} {mp : MP} {mf : MF} {mh : MH} {mg : MG} {ou : Nat → Int64} {od : Nat → UInt64}  {x1 : Int32} {r : (Int32 ⊕ Nat)} (hf : f9_mayOpen (ly (0 : Fin 2)) tp st  x1 = some r) : CX k strs yX9_mayOpen cX9_mayOpen 2 (some .int) (rmD 6 1 6) [.ref (k.b + (0)), .int x1] (wAll k T R ly rc hn rp tp ee st w aside thought fresh mu th mp mf mh mg ou od) (oI r) (wAll k T R ly rc hn rp tp ee st w aside thought fresh mu th mp mf mh mg ou od) := by
  refine CX.of (by decide) (Nat.le_of_ble_eq_true rfl) ?_
  intro z X hT hQ
  show VW k z 0 0 (wAll k T R ly rc hn rp tp ee st w aside thought fresh mu th mp mf mh mg ou od) 0 [some (.ref (k.b + (0))), some (.int x1)] []
  unfold f9_mayOpen at hf
  refine r_aload_n X (x := k.b + (0)) dX9_mayOpen_0 rfl ?_
  refine r_getfield X (v := .ref (k.b + (4 + 17 * (0 : Fin 2).val))) clsX9 flX9_28 (Nat.le_of_ble_eq_true rfl) _ o_main rfl dX9_mayOpen_1 ?_
  refine r_iload_n X (x := x1) dX9_mayOpen_4 rfl ?_
  obtain ⟨u5, h5, hf⟩ := bdS hf
  refine r_callV0 X [.int x1] [] (K1_hasValve h5) lkX9_128 clsX1 rfl _ (o_lay (0 : Fin 2)) (by decide) (Nat.le_of_ble_eq_true rfl) rfl rfl (Nat.le_of_ble_eq_true rfl) rfl rfl (Nat.zero_le _) (Nat.zero_le _) dX9_mayOpen_5 ?_
  refine r_if_ne X 19 dX9_mayOpen_8 rfl (fun c8 => ?_) (fun c8 => ?_)
  · replace hf := ifF hf c8
    refine r_aload_n X (x := k.b + (0)) dX9_mayOpen_19 rfl ?_
    refine r_getfield X (v := .ref (k.b + (45 + 12 * (TP_pr tp).val))) clsX9 flX9_73 (Nat.le_of_ble_eq_true rfl) _ o_main rfl dX9_mayOpen_20 ?_
    refine r_iload_n X (x := x1) dX9_mayOpen_23 rfl ?_
    obtain ⟨u24, h24, hf⟩ := bdS hf
    refine r_callV0 X [.int x1] [] (CT_unS (W := fun zz => wAll k T R ly rc hn rp tp ee zz w aside thought fresh mu th mp mf mh mg ou od) (W2 := fun zz => wAll k T R ly rc hn rp tp ee zz w aside thought fresh mu th mp mf mh mg ou od) (st := st) (TP_pr tp) (K5_openingBar h24)) lkX9_135 clsX5 rfl _ (o_st (TP_pr tp)) (by decide) (Nat.le_of_ble_eq_true rfl) rfl rfl (Nat.le_of_ble_eq_true rfl) rfl rfl (Nat.zero_le _) (Nat.zero_le _) dX9_mayOpen_24 ?_
    obtain rfl := Option.some.inj hf
    exact x_ireturn X hQ rfl rfl (Nat.le_of_ble_eq_true rfl) (Nat.le_of_ble_eq_true rfl) dX9_mayOpen_27
  · replace hf := ifT hf c8
    obtain rfl := Option.some.inj hf
    exact r_throw X hT ltX9_2 (by decide) hQ rfl rfl (Nat.le_of_ble_eq_true rfl) (Nat.le_of_ble_eq_true rfl) rfl ⟨(Nat.le_of_ble_eq_true rfl), (Nat.le_of_ble_eq_true rfl), (Nat.le_of_ble_eq_true rfl), (Nat.le_of_ble_eq_true rfl)⟩ dX9_mayOpen_11 dX9_mayOpen_14 dX9_mayOpen_15 dX9_mayOpen_18
set_option maxRecDepth 100000 in
set_option maxHeartbeats 4000000 in
theorem K9_mayStart {k : KT} {T : TT} {R : RR} {ly : Fin 2 → LL} {rc : RC} {hn : HN} {rp : RP} {tp : TP} {ee : EE} {st : Fin 12 → SS} {w : Nat → Int64} {aside : Nat → Int64} {thought : Nat → Int64} {fresh : Nat → Int64} {mu : MU} {th : Int32} {mp : MP} {mf : MF} {mh : MH} {mg : MG} {ou : Nat → Int64} {od : Nat → UInt64}  {x1 : Int32} {r : (Int32 ⊕ Nat)} (hf : f9_mayStart (ly (0 : Fin 2)) tp st  x1 = some r) : CX k strs yX9_mayStart cX9_mayStart 2 (some .int) (rmD 6 1 6) [.ref (k.b + (0)), .int x1] (wAll k T R ly rc hn rp tp ee st w aside thought fresh mu th mp mf mh mg ou od) (oI r) (wAll k T R ly rc hn rp tp ee st w aside thought fresh mu th mp mf mh mg ou od) := by
  refine CX.of (by decide) (Nat.le_of_ble_eq_true rfl) ?_
  intro z X hT hQ
  show VW k z 0 0 (wAll k T R ly rc hn rp tp ee st w aside thought fresh mu th mp mf mh mg ou od) 0 [some (.ref (k.b + (0))), some (.int x1)] []
  unfold f9_mayStart at hf
  refine r_aload_n X (x := k.b + (0)) dX9_mayStart_0 rfl ?_
  refine r_getfield X (v := .ref (k.b + (4 + 17 * (0 : Fin 2).val))) clsX9 flX9_28 (Nat.le_of_ble_eq_true rfl) _ o_main rfl dX9_mayStart_1 ?_
  refine r_iload_n X (x := x1) dX9_mayStart_4 rfl ?_
  obtain ⟨u5, h5, hf⟩ := bdS hf
  refine r_callV0 X [.int x1] [] (K1_hasPump h5) lkX9_157 clsX1 rfl _ (o_lay (0 : Fin 2)) (by decide) (Nat.le_of_ble_eq_true rfl) rfl rfl (Nat.le_of_ble_eq_true rfl) rfl rfl (Nat.zero_le _) (Nat.zero_le _) dX9_mayStart_5 ?_
  refine r_if_ne X 19 dX9_mayStart_8 rfl (fun c8 => ?_) (fun c8 => ?_)
  · replace hf := ifF hf c8
    refine r_aload_n X (x := k.b + (0)) dX9_mayStart_19 rfl ?_
    refine r_getfield X (v := .ref (k.b + (45 + 12 * (TP_pr tp).val))) clsX9 flX9_73 (Nat.le_of_ble_eq_true rfl) _ o_main rfl dX9_mayStart_20 ?_
    refine r_iload_n X (x := x1) dX9_mayStart_23 rfl ?_
    obtain ⟨u24, h24, hf⟩ := bdS hf
    refine r_callV0 X [.int x1] [] (CT_unS (W := fun zz => wAll k T R ly rc hn rp tp ee zz w aside thought fresh mu th mp mf mh mg ou od) (W2 := fun zz => wAll k T R ly rc hn rp tp ee zz w aside thought fresh mu th mp mf mh mg ou od) (st := st) (TP_pr tp) (K5_startingBar h24)) lkX9_160 clsX5 rfl _ (o_st (TP_pr tp)) (by decide) (Nat.le_of_ble_eq_true rfl) rfl rfl (Nat.le_of_ble_eq_true rfl) rfl rfl (Nat.zero_le _) (Nat.zero_le _) dX9_mayStart_24 ?_
    obtain rfl := Option.some.inj hf
    exact x_ireturn X hQ rfl rfl (Nat.le_of_ble_eq_true rfl) (Nat.le_of_ble_eq_true rfl) dX9_mayStart_27
  · replace hf := ifT hf c8
    obtain rfl := Option.some.inj hf
    exact r_throw X hT ltX9_2 (by decide) hQ rfl rfl (Nat.le_of_ble_eq_true rfl) (Nat.le_of_ble_eq_true rfl) rfl ⟨(Nat.le_of_ble_eq_true rfl), (Nat.le_of_ble_eq_true rfl), (Nat.le_of_ble_eq_true rfl), (Nat.le_of_ble_eq_true rfl)⟩ dX9_mayStart_11 dX9_mayStart_14 dX9_mayStart_15 dX9_mayStart_18
set_option maxRecDepth 100000 in
set_option maxHeartbeats 4000000 in
theorem K9_joined {k : KT} {T : TT} {R : RR} {ly : Fin 2 → LL} {rc : RC} {hn : HN} {rp : RP} {tp : TP} {ee : EE} {st : Fin 12 → SS} {w : Nat → Int64} {aside : Nat → Int64} {thought : Nat → Int64} {fresh : Nat → Int64} {mu : MU} {th : Int32} {mp : MP} {mf : MF} {mh : MH} {mg : MG} {ou : Nat → Int64} {od : Nat → UInt64}  {x1 : Int32} {r : (Int32 ⊕ Nat)} (hf : f9_joined (ly (0 : Fin 2)) tp st  x1 = some r) : CX k strs yX9_joined cX9_joined 2 (some .int) (rmD 6 1 6) [.ref (k.b + (0)), .int x1] (wAll k T R ly rc hn rp tp ee st w aside thought fresh mu th mp mf mh mg ou od) (oI r) (wAll k T R ly rc hn rp tp ee st w aside thought fresh mu th mp mf mh mg ou od) := by
  refine CX.of (by decide) (Nat.le_of_ble_eq_true rfl) ?_
  intro z X hT hQ
  show VW k z 0 0 (wAll k T R ly rc hn rp tp ee st w aside thought fresh mu th mp mf mh mg ou od) 0 [some (.ref (k.b + (0))), some (.int x1)] []
  unfold f9_joined at hf
  refine r_aload_n X (x := k.b + (0)) dX9_joined_0 rfl ?_
  refine r_getfield X (v := .ref (k.b + (4 + 17 * (0 : Fin 2).val))) clsX9 flX9_28 (Nat.le_of_ble_eq_true rfl) _ o_main rfl dX9_joined_1 ?_
  refine r_iload_n X (x := x1) dX9_joined_4 rfl ?_
  obtain ⟨u5, h5, hf⟩ := bdS hf
  refine r_callV0 X [.int x1] [] (K1_hasChamber h5) lkX9_185 clsX1 rfl _ (o_lay (0 : Fin 2)) (by decide) (Nat.le_of_ble_eq_true rfl) rfl rfl (Nat.le_of_ble_eq_true rfl) rfl rfl (Nat.zero_le _) (Nat.zero_le _) dX9_joined_5 ?_
  refine r_if_ne X 19 dX9_joined_8 rfl (fun c8 => ?_) (fun c8 => ?_)
  · replace hf := ifF hf c8
    refine r_aload_n X (x := k.b + (0)) dX9_joined_19 rfl ?_
    refine r_getfield X (v := .ref (k.b + (45 + 12 * (TP_pr tp).val))) clsX9 flX9_73 (Nat.le_of_ble_eq_true rfl) _ o_main rfl dX9_joined_20 ?_
    refine r_iload_n X (x := x1) dX9_joined_23 rfl ?_
    obtain ⟨u24, h24, hf⟩ := bdS hf
    refine r_callV0 X [.int x1] [] (CT_unS (W := fun zz => wAll k T R ly rc hn rp tp ee zz w aside thought fresh mu th mp mf mh mg ou od) (W2 := fun zz => wAll k T R ly rc hn rp tp ee zz w aside thought fresh mu th mp mf mh mg ou od) (st := st) (TP_pr tp) (K5_reach h24)) lkX9_310 clsX5 rfl _ (o_st (TP_pr tp)) (by decide) (Nat.le_of_ble_eq_true rfl) rfl rfl (Nat.le_of_ble_eq_true rfl) rfl rfl (Nat.zero_le _) (Nat.zero_le _) dX9_joined_24 ?_
    refine r_sipush X (v := 255) dX9_joined_27 rfl ?_
    refine r_iand X dX9_joined_30 ?_
    obtain rfl := Option.some.inj hf
    exact x_ireturn X hQ rfl rfl (Nat.le_of_ble_eq_true rfl) (Nat.le_of_ble_eq_true rfl) dX9_joined_31
  · replace hf := ifT hf c8
    obtain rfl := Option.some.inj hf
    exact r_throw X hT ltX9_2 (by decide) hQ rfl rfl (Nat.le_of_ble_eq_true rfl) (Nat.le_of_ble_eq_true rfl) rfl ⟨(Nat.le_of_ble_eq_true rfl), (Nat.le_of_ble_eq_true rfl), (Nat.le_of_ble_eq_true rfl), (Nat.le_of_ble_eq_true rfl)⟩ dX9_joined_11 dX9_joined_14 dX9_joined_15 dX9_joined_18
set_option maxRecDepth 100000 in
set_option maxHeartbeats 4000000 in
theorem K9_isVented {k : KT} {T : TT} {R : RR} {ly : Fin 2 → LL} {rc : RC} {hn : HN} {rp : RP} {tp : TP} {ee : EE} {st : Fin 12 → SS} {w : Nat → Int64} {aside : Nat → Int64} {thought : Nat → Int64} {fresh : Nat → Int64} {mu : MU} {th : Int32} {mp : MP} {mf : MF} {mh : MH} {mg : MG} {ou : Nat → Int64} {od : Nat → UInt64}  {x1 : Int32} {r : (Int32 ⊕ Nat)} (hf : f9_isVented (ly (0 : Fin 2)) tp st  x1 = some r) : CX k strs yX9_isVented cX9_isVented 2 (some .boolean) (rmD 6 1 6) [.ref (k.b + (0)), .int x1] (wAll k T R ly rc hn rp tp ee st w aside thought fresh mu th mp mf mh mg ou od) (oI r) (wAll k T R ly rc hn rp tp ee st w aside thought fresh mu th mp mf mh mg ou od) := by
  refine CX.of (by decide) (Nat.le_of_ble_eq_true rfl) ?_
  intro z X hT hQ
  show VW k z 0 0 (wAll k T R ly rc hn rp tp ee st w aside thought fresh mu th mp mf mh mg ou od) 0 [some (.ref (k.b + (0))), some (.int x1)] []
  unfold f9_isVented at hf
  refine r_aload_n X (x := k.b + (0)) dX9_isVented_0 rfl ?_
  refine r_getfield X (v := .ref (k.b + (4 + 17 * (0 : Fin 2).val))) clsX9 flX9_28 (Nat.le_of_ble_eq_true rfl) _ o_main rfl dX9_isVented_1 ?_
  refine r_iload_n X (x := x1) dX9_isVented_4 rfl ?_
  obtain ⟨u5, h5, hf⟩ := bdS hf
  refine r_callV0 X [.int x1] [] (K1_hasChamber h5) lkX9_185 clsX1 rfl _ (o_lay (0 : Fin 2)) (by decide) (Nat.le_of_ble_eq_true rfl) rfl rfl (Nat.le_of_ble_eq_true rfl) rfl rfl (Nat.zero_le _) (Nat.zero_le _) dX9_isVented_5 ?_
  refine r_if_ne X 19 dX9_isVented_8 rfl (fun c8 => ?_) (fun c8 => ?_)
  · replace hf := ifF hf c8
    refine r_aload_n X (x := k.b + (0)) dX9_isVented_19 rfl ?_
    refine r_getfield X (v := .ref (k.b + (45 + 12 * (TP_pr tp).val))) clsX9 flX9_73 (Nat.le_of_ble_eq_true rfl) _ o_main rfl dX9_isVented_20 ?_
    refine r_iload_n X (x := x1) dX9_isVented_23 rfl ?_
    obtain ⟨u24, h24, hf⟩ := bdS hf
    refine r_callV0 X [.int x1] [] (CT_unS (W := fun zz => wAll k T R ly rc hn rp tp ee zz w aside thought fresh mu th mp mf mh mg ou od) (W2 := fun zz => wAll k T R ly rc hn rp tp ee zz w aside thought fresh mu th mp mf mh mg ou od) (st := st) (TP_pr tp) (K5_reach h24)) lkX9_310 clsX5 rfl _ (o_st (TP_pr tp)) (by decide) (Nat.le_of_ble_eq_true rfl) rfl rfl (Nat.le_of_ble_eq_true rfl) rfl rfl (Nat.zero_le _) (Nat.zero_le _) dX9_isVented_24 ?_
    refine r_bipush X (v := 8) dX9_isVented_27 rfl ?_
    obtain ⟨u29, h29, hf⟩ := bdS hf
    refine r_callS0 X [.int u24, .int 8] [] (K9_has h29) lkX9_313 (by decide) (Nat.le_of_ble_eq_true rfl) rfl rfl (Nat.le_of_ble_eq_true rfl) rfl rfl (Nat.zero_le _) (Nat.zero_le _) dX9_isVented_29 ?_
    obtain ⟨g32b, hf⟩ := gdS hf
    obtain rfl := Option.some.inj hf
    exact x_zreturn X hQ rfl rfl (Nat.le_of_ble_eq_true rfl) (Nat.le_of_ble_eq_true rfl) (nb_of g32b) dX9_isVented_32
  · replace hf := ifT hf c8
    obtain rfl := Option.some.inj hf
    exact r_throw X hT ltX9_2 (by decide) hQ rfl rfl (Nat.le_of_ble_eq_true rfl) (Nat.le_of_ble_eq_true rfl) rfl ⟨(Nat.le_of_ble_eq_true rfl), (Nat.le_of_ble_eq_true rfl), (Nat.le_of_ble_eq_true rfl), (Nat.le_of_ble_eq_true rfl)⟩ dX9_isVented_11 dX9_isVented_14 dX9_isVented_15 dX9_isVented_18
set_option maxRecDepth 100000 in
set_option maxHeartbeats 4000000 in
theorem B9_spread_B44 {k : KT} {z : ZT} {T : TT} {R : RR} {ly : Fin 2 → LL} {rc : RC} {hn : HN} {rp : RP} {tp : TP} {ee : EE} {st : Fin 12 → SS} {w : Nat → Int64} {aside : Nat → Int64} {thought : Nat → Int64} {fresh : Nat → Int64} {mu : MU} {th : Int32} {mp : MP} {mf : MF} {mh : MH} {mg : MG} {ou : Nat → Int64} {od : Nat → UInt64} {r : (Int32 ⊕ Nat)} (X : XX k strs z RX9 cX9_spread 6 (some .int) (rmD 6 1 6)) (hT : ∀ x ∈ (zC z).exceptionTable.toList, False) (hQ : zQ z = vx_MQ (zB z) (QXof k (oI r) (wAll k T R ly rc hn rp tp ee st w aside thought fresh mu th mp mf mh mg ou od)) (XCof k (oI r) (wAll k T R ly rc hn rp tp ee st w aside thought fresh mu th mp mf mh mg ou od)) (zA z) (zS z) 1 6 (kA k)) : ∀ (fu : Nat) (x2 : Int32) (x3 : Int32) (x4 : Int32) (x5 : Int32), f9_spread_B44 (ly (0 : Fin 2)) tp st fu x2 x3 x4 x5 = some r → VW k z 0 0 (wAll k T R ly rc hn rp tp ee st w aside thought fresh mu th mp mf mh mg ou od) 44 [some (.ref (k.b + (0))), none, some (.int x2), some (.int x3), some (.int x4), some (.int x5)] [] := by
  intro fu
  induction fu with
  | zero =>
    intro x2 x3 x4 x5 hf
    rw [f9_spread_B44] at hf
    cases hf
  | succ fu ih =>
    intro x2 x3 x4 x5 hf
    rw [f9_spread_B44] at hf
    refine r_iload X (x := x5) dX9_spread_44 rfl ?_
    refine r_aload_n X (x := k.b + (0)) dX9_spread_46 rfl ?_
    refine r_getfield X (v := .ref (k.b + (4 + 17 * (0 : Fin 2).val))) clsX9 flX9_28 (Nat.le_of_ble_eq_true rfl) _ o_main rfl dX9_spread_47 ?_
    refine r_getfield X (v := .int (LL_chambers (ly (0 : Fin 2)))) clsX1 flX9_125 (Nat.le_of_ble_eq_true rfl) _ (o_lay (0 : Fin 2)) rfl dX9_spread_50 ?_
    refine r_icmp_ge X 103 dX9_spread_53 rfl (fun c53 => ?_) (fun c53 => ?_)
    · replace hf := ifT hf c53
      refine r_iload X (x := x4) dX9_spread_103 rfl ?_
      refine r_iload_n X (x := x3) dX9_spread_105 rfl ?_
      refine r_isub X dX9_spread_106 ?_
      obtain rfl := Option.some.inj hf
      exact x_ireturn X hQ rfl rfl (Nat.le_of_ble_eq_true rfl) (Nat.le_of_ble_eq_true rfl) dX9_spread_107
    · replace hf := ifF hf c53
      refine r_iload_n X (x := x2) dX9_spread_56 rfl ?_
      refine r_iload X (x := x5) dX9_spread_57 rfl ?_
      obtain ⟨u59, h59, hf⟩ := bdS hf
      refine r_callS0 X [.int x2, .int x5] [] (K9_has h59) lkX9_313 (by decide) (Nat.le_of_ble_eq_true rfl) rfl rfl (Nat.le_of_ble_eq_true rfl) rfl rfl (Nat.zero_le _) (Nat.zero_le _) dX9_spread_59 ?_
      refine r_if_eq X 97 dX9_spread_62 rfl (fun c62 => ?_) (fun c62 => ?_)
      · replace hf := ifT hf c62
        refine r_iinc X (x := x5) (v := x5 + 1) [some (.ref (k.b + (0))), none, some (.int x2), some (.int x3), some (.int x4), some (.int (x5 + 1))] dX9_spread_97 rfl rfl rfl ?_
        refine r_goto X 44 dX9_spread_100 rfl ?_
        exact ih x2 x3 x4 (x5 + 1) hf
      · replace hf := ifF hf c62
        refine r_iload_n X (x := x3) dX9_spread_65 rfl ?_
        refine r_aload_n X (x := k.b + (0)) dX9_spread_66 rfl ?_
        refine r_getfield X (v := .ref (k.b + (45 + 12 * (TP_pr tp).val))) clsX9 flX9_73 (Nat.le_of_ble_eq_true rfl) _ o_main rfl dX9_spread_67 ?_
        refine r_getfield X (v := .ref (k.b + (45 + 12 * (TP_pr tp).val + 2))) clsX5 flX9_166 (Nat.le_of_ble_eq_true rfl) _ (o_st (TP_pr tp)) rfl dX9_spread_70 ?_
        refine r_iload X (x := x5) dX9_spread_73 rfl ?_
        obtain ⟨g75, hf⟩ := gdS hf
        refine r_iaload X (f := SS_pressure (st (TP_pr tp))) _ (a_st_pressure (TP_pr tp)) g75 dX9_spread_75 ?_
        refine r_imin X lkX9_317 rfl ⟨(Nat.le_of_ble_eq_true rfl), (Nat.le_of_ble_eq_true rfl)⟩ (Nat.zero_le _) (Nat.zero_le _) dX9_spread_76 ?_
        refine r_istore_n X [some (.ref (k.b + (0))), none, some (.int x2), some (.int (if ((SS_pressure (st (TP_pr tp))) (ix x5)) < x3 then ((SS_pressure (st (TP_pr tp))) (ix x5)) else x3)), some (.int x4), some (.int x5)] dX9_spread_79 (Nat.le_of_ble_eq_true rfl) rfl ?_
        refine r_iload X (x := x4) dX9_spread_80 rfl ?_
        refine r_aload_n X (x := k.b + (0)) dX9_spread_82 rfl ?_
        refine r_getfield X (v := .ref (k.b + (45 + 12 * (TP_pr tp).val))) clsX9 flX9_73 (Nat.le_of_ble_eq_true rfl) _ o_main rfl dX9_spread_83 ?_
        refine r_getfield X (v := .ref (k.b + (45 + 12 * (TP_pr tp).val + 2))) clsX5 flX9_166 (Nat.le_of_ble_eq_true rfl) _ (o_st (TP_pr tp)) rfl dX9_spread_86 ?_
        refine r_iload X (x := x5) dX9_spread_89 rfl ?_
        refine r_iaload X (f := SS_pressure (st (TP_pr tp))) _ (a_st_pressure (TP_pr tp)) g75 dX9_spread_91 ?_
        refine r_imax X lkX9_322 rfl ⟨(Nat.le_of_ble_eq_true rfl), (Nat.le_of_ble_eq_true rfl)⟩ (Nat.zero_le _) (Nat.zero_le _) dX9_spread_92 ?_
        refine r_istore X [some (.ref (k.b + (0))), none, some (.int x2), some (.int (if ((SS_pressure (st (TP_pr tp))) (ix x5)) < x3 then ((SS_pressure (st (TP_pr tp))) (ix x5)) else x3)), some (.int (if x4 < ((SS_pressure (st (TP_pr tp))) (ix x5)) then ((SS_pressure (st (TP_pr tp))) (ix x5)) else x4)), some (.int x5)] dX9_spread_95 (Nat.le_of_ble_eq_true rfl) rfl ?_
        refine r_iinc X (x := x5) (v := x5 + 1) [some (.ref (k.b + (0))), none, some (.int x2), some (.int (if ((SS_pressure (st (TP_pr tp))) (ix x5)) < x3 then ((SS_pressure (st (TP_pr tp))) (ix x5)) else x3)), some (.int (if x4 < ((SS_pressure (st (TP_pr tp))) (ix x5)) then ((SS_pressure (st (TP_pr tp))) (ix x5)) else x4)), some (.int (x5 + 1))] dX9_spread_97 rfl rfl rfl ?_
        refine r_goto X 44 dX9_spread_100 rfl ?_
        exact ih x2 (if ((SS_pressure (st (TP_pr tp))) (ix x5)) < x3 then ((SS_pressure (st (TP_pr tp))) (ix x5)) else x3) (if x4 < ((SS_pressure (st (TP_pr tp))) (ix x5)) then ((SS_pressure (st (TP_pr tp))) (ix x5)) else x4) (x5 + 1) hf
set_option maxRecDepth 100000 in
set_option maxHeartbeats 4000000 in
theorem K9_spread {k : KT} {T : TT} {R : RR} {ly : Fin 2 → LL} {rc : RC} {hn : HN} {rp : RP} {tp : TP} {ee : EE} {st : Fin 12 → SS} {w : Nat → Int64} {aside : Nat → Int64} {thought : Nat → Int64} {fresh : Nat → Int64} {mu : MU} {th : Int32} {mp : MP} {mf : MF} {mh : MH} {mg : MG} {ou : Nat → Int64} {od : Nat → UInt64}  {x1 : Int32} {r : (Int32 ⊕ Nat)} (hf : f9_spread (ly (0 : Fin 2)) tp st  x1 = some r) : CX k strs yX9_spread cX9_spread 6 (some .int) (rmD 6 1 6) [.ref (k.b + (0)), .int x1] (wAll k T R ly rc hn rp tp ee st w aside thought fresh mu th mp mf mh mg ou od) (oI r) (wAll k T R ly rc hn rp tp ee st w aside thought fresh mu th mp mf mh mg ou od) := by
  refine CX.of (by decide) (Nat.le_of_ble_eq_true rfl) ?_
  intro z X hT hQ
  show VW k z 0 0 (wAll k T R ly rc hn rp tp ee st w aside thought fresh mu th mp mf mh mg ou od) 0 [some (.ref (k.b + (0))), some (.int x1), none, none, none, none] []
  unfold f9_spread at hf
  refine r_aload_n X (x := k.b + (0)) dX9_spread_0 rfl ?_
  refine r_getfield X (v := .ref (k.b + (4 + 17 * (0 : Fin 2).val))) clsX9 flX9_28 (Nat.le_of_ble_eq_true rfl) _ o_main rfl dX9_spread_1 ?_
  refine r_iload_n X (x := x1) dX9_spread_4 rfl ?_
  obtain ⟨u5, h5, hf⟩ := bdS hf
  refine r_callV0 X [.int x1] [] (K1_hasChamber h5) lkX9_185 clsX1 rfl _ (o_lay (0 : Fin 2)) (by decide) (Nat.le_of_ble_eq_true rfl) rfl rfl (Nat.le_of_ble_eq_true rfl) rfl rfl (Nat.zero_le _) (Nat.zero_le _) dX9_spread_5 ?_
  refine r_if_ne X 19 dX9_spread_8 rfl (fun c8 => ?_) (fun c8 => ?_)
  · replace hf := ifF hf c8
    refine r_aload_n X (x := k.b + (0)) dX9_spread_19 rfl ?_
    refine r_getfield X (v := .ref (k.b + (45 + 12 * (TP_pr tp).val))) clsX9 flX9_73 (Nat.le_of_ble_eq_true rfl) _ o_main rfl dX9_spread_20 ?_
    refine r_iload_n X (x := x1) dX9_spread_23 rfl ?_
    obtain ⟨u24, h24, hf⟩ := bdS hf
    refine r_callV0 X [.int x1] [] (CT_unS (W := fun zz => wAll k T R ly rc hn rp tp ee zz w aside thought fresh mu th mp mf mh mg ou od) (W2 := fun zz => wAll k T R ly rc hn rp tp ee zz w aside thought fresh mu th mp mf mh mg ou od) (st := st) (TP_pr tp) (K5_reach h24)) lkX9_310 clsX5 rfl _ (o_st (TP_pr tp)) (by decide) (Nat.le_of_ble_eq_true rfl) rfl rfl (Nat.le_of_ble_eq_true rfl) rfl rfl (Nat.zero_le _) (Nat.zero_le _) dX9_spread_24 ?_
    refine r_istore_n X [some (.ref (k.b + (0))), some (.int x1), some (.int u24), none, none, none] dX9_spread_27 (Nat.le_of_ble_eq_true rfl) rfl ?_
    refine r_aload_n X (x := k.b + (0)) dX9_spread_28 rfl ?_
    refine r_getfield X (v := .ref (k.b + (45 + 12 * (TP_pr tp).val))) clsX9 flX9_73 (Nat.le_of_ble_eq_true rfl) _ o_main rfl dX9_spread_29 ?_
    refine r_getfield X (v := .ref (k.b + (45 + 12 * (TP_pr tp).val + 2))) clsX5 flX9_166 (Nat.le_of_ble_eq_true rfl) _ (o_st (TP_pr tp)) rfl dX9_spread_32 ?_
    refine r_iload_n X (x := x1) dX9_spread_35 rfl ?_
    obtain ⟨g36, hf⟩ := gdS hf
    refine r_iaload X (f := SS_pressure (st (TP_pr tp))) _ (a_st_pressure (TP_pr tp)) g36 dX9_spread_36 ?_
    refine r_istore_n X [some (.ref (k.b + (0))), some (.int x1), some (.int u24), some (.int ((SS_pressure (st (TP_pr tp))) (ix x1))), none, none] dX9_spread_37 (Nat.le_of_ble_eq_true rfl) rfl ?_
    refine r_iload_n X (x := (SS_pressure (st (TP_pr tp))) (ix x1)) dX9_spread_38 rfl ?_
    refine r_istore X [some (.ref (k.b + (0))), some (.int x1), some (.int u24), some (.int ((SS_pressure (st (TP_pr tp))) (ix x1))), some (.int ((SS_pressure (st (TP_pr tp))) (ix x1))), none] dX9_spread_39 (Nat.le_of_ble_eq_true rfl) rfl ?_
    refine r_iconst X (v := 0) dX9_spread_41 rfl ?_
    refine r_istore X [some (.ref (k.b + (0))), some (.int x1), some (.int u24), some (.int ((SS_pressure (st (TP_pr tp))) (ix x1))), some (.int ((SS_pressure (st (TP_pr tp))) (ix x1))), some (.int 0)] dX9_spread_42 (Nat.le_of_ble_eq_true rfl) rfl ?_
    refine VW.msk [true, false, true, true, true, true] rfl (lo' := [some (.ref (k.b + (0))), none, some (.int u24), some (.int ((SS_pressure (st (TP_pr tp))) (ix x1))), some (.int ((SS_pressure (st (TP_pr tp))) (ix x1))), some (.int 0)]) rfl ?_
    exact B9_spread_B44 X hT hQ FU u24 ((SS_pressure (st (TP_pr tp))) (ix x1)) ((SS_pressure (st (TP_pr tp))) (ix x1)) 0 hf
  · replace hf := ifT hf c8
    obtain rfl := Option.some.inj hf
    exact r_throw X hT ltX9_2 (by decide) hQ rfl rfl (Nat.le_of_ble_eq_true rfl) (Nat.le_of_ble_eq_true rfl) rfl ⟨(Nat.le_of_ble_eq_true rfl), (Nat.le_of_ble_eq_true rfl), (Nat.le_of_ble_eq_true rfl), (Nat.le_of_ble_eq_true rfl)⟩ dX9_spread_11 dX9_spread_14 dX9_spread_15 dX9_spread_18
set_option maxRecDepth 100000 in
set_option maxHeartbeats 4000000 in
theorem K9_isIsolated {k : KT} {T : TT} {R : RR} {ly : Fin 2 → LL} {rc : RC} {hn : HN} {rp : RP} {tp : TP} {ee : EE} {st : Fin 12 → SS} {w : Nat → Int64} {aside : Nat → Int64} {thought : Nat → Int64} {fresh : Nat → Int64} {mu : MU} {th : Int32} {mp : MP} {mf : MF} {mh : MH} {mg : MG} {ou : Nat → Int64} {od : Nat → UInt64}  {x1 : Int32} {r : (Int32 ⊕ Nat)} (hf : f9_isIsolated (ly (0 : Fin 2)) tp st  x1 = some r) : CX k strs yX9_isIsolated cX9_isIsolated 2 (some .boolean) (rmD 6 1 6) [.ref (k.b + (0)), .int x1] (wAll k T R ly rc hn rp tp ee st w aside thought fresh mu th mp mf mh mg ou od) (oI r) (wAll k T R ly rc hn rp tp ee st w aside thought fresh mu th mp mf mh mg ou od) := by
  refine CX.of (by decide) (Nat.le_of_ble_eq_true rfl) ?_
  intro z X hT hQ
  show VW k z 0 0 (wAll k T R ly rc hn rp tp ee st w aside thought fresh mu th mp mf mh mg ou od) 0 [some (.ref (k.b + (0))), some (.int x1)] []
  unfold f9_isIsolated at hf
  refine r_aload_n X (x := k.b + (0)) dX9_isIsolated_0 rfl ?_
  refine r_getfield X (v := .ref (k.b + (4 + 17 * (0 : Fin 2).val))) clsX9 flX9_28 (Nat.le_of_ble_eq_true rfl) _ o_main rfl dX9_isIsolated_1 ?_
  refine r_iload_n X (x := x1) dX9_isIsolated_4 rfl ?_
  obtain ⟨u5, h5, hf⟩ := bdS hf
  refine r_callV0 X [.int x1] [] (K1_hasChamber h5) lkX9_185 clsX1 rfl _ (o_lay (0 : Fin 2)) (by decide) (Nat.le_of_ble_eq_true rfl) rfl rfl (Nat.le_of_ble_eq_true rfl) rfl rfl (Nat.zero_le _) (Nat.zero_le _) dX9_isIsolated_5 ?_
  refine r_if_ne X 19 dX9_isIsolated_8 rfl (fun c8 => ?_) (fun c8 => ?_)
  · replace hf := ifF hf c8
    refine r_aload_n X (x := k.b + (0)) dX9_isIsolated_19 rfl ?_
    refine r_getfield X (v := .ref (k.b + (45 + 12 * (TP_pr tp).val))) clsX9 flX9_73 (Nat.le_of_ble_eq_true rfl) _ o_main rfl dX9_isIsolated_20 ?_
    refine r_iload_n X (x := x1) dX9_isIsolated_23 rfl ?_
    obtain ⟨u24, h24, hf⟩ := bdS hf
    refine r_callV0 X [.int x1] [] (CT_unS (W := fun zz => wAll k T R ly rc hn rp tp ee zz w aside thought fresh mu th mp mf mh mg ou od) (W2 := fun zz => wAll k T R ly rc hn rp tp ee zz w aside thought fresh mu th mp mf mh mg ou od) (st := st) (TP_pr tp) (K5_isShutOff h24)) lkX9_210 clsX5 rfl _ (o_st (TP_pr tp)) (by decide) (Nat.le_of_ble_eq_true rfl) rfl rfl (Nat.le_of_ble_eq_true rfl) rfl rfl (Nat.zero_le _) (Nat.zero_le _) dX9_isIsolated_24 ?_
    obtain ⟨g27b, hf⟩ := gdS hf
    obtain rfl := Option.some.inj hf
    exact x_zreturn X hQ rfl rfl (Nat.le_of_ble_eq_true rfl) (Nat.le_of_ble_eq_true rfl) (nb_of g27b) dX9_isIsolated_27
  · replace hf := ifT hf c8
    obtain rfl := Option.some.inj hf
    exact r_throw X hT ltX9_2 (by decide) hQ rfl rfl (Nat.le_of_ble_eq_true rfl) (Nat.le_of_ble_eq_true rfl) rfl ⟨(Nat.le_of_ble_eq_true rfl), (Nat.le_of_ble_eq_true rfl), (Nat.le_of_ble_eq_true rfl), (Nat.le_of_ble_eq_true rfl)⟩ dX9_isIsolated_11 dX9_isIsolated_14 dX9_isIsolated_15 dX9_isIsolated_18
set_option maxRecDepth 100000 in
set_option maxHeartbeats 4000000 in
theorem B9_fewestValves_B63 {k : KT} {z : ZT} {T : TT} {R : RR} {ly : Fin 2 → LL} {rc : RC} {hn : HN} {rp : RP} {tp : TP} {ee : EE} {st : Fin 12 → SS} {w : Nat → Int64} {aside : Nat → Int64} {thought : Nat → Int64} {fresh : Nat → Int64} {mu : MU} {th : Int32} {mp : MP} {mf : MF} {mh : MH} {mg : MG} {ou : Nat → Int64} {od : Nat → UInt64} {r : (Int32 ⊕ Nat)} (X : XX k strs z RX9 cX9_fewestValves 6 (some .int) (rmD 6 1 6)) (hT : ∀ x ∈ (zC z).exceptionTable.toList, False) (hQ : zQ z = vx_MQ (zB z) (QXof k (oI r) (wAll k T R ly rc hn rp tp ee st w aside thought fresh mu th mp mf mh mg ou od)) (XCof k (oI r) (wAll k T R ly rc hn rp tp ee st w aside thought fresh mu th mp mf mh mg ou od)) (zA z) (zS z) 1 6 (kA k)) : ∀ (fu : Nat) (x3 : Int32) (x4 : Int32) (x5 : Int32), f9_fewestValves_B63 (ly (0 : Fin 2)) fu x3 x4 x5 = some r → VW k z 0 0 (wAll k T R ly rc hn rp tp ee st w aside thought fresh mu th mp mf mh mg ou od) 63 [some (.ref (k.b + (0))), none, none, some (.int x3), some (.int x4), some (.int x5)] [] := by
  intro fu
  induction fu with
  | zero =>
    intro x3 x4 x5 hf
    rw [f9_fewestValves_B63] at hf
    cases hf
  | succ fu ih =>
    intro x3 x4 x5 hf
    rw [f9_fewestValves_B63] at hf
    refine r_iload X (x := x5) dX9_fewestValves_63 rfl ?_
    refine r_bipush X (v := 8) dX9_fewestValves_65 rfl ?_
    refine r_icmp_gt X 106 dX9_fewestValves_67 rfl (fun c67 => ?_) (fun c67 => ?_)
    · replace hf := ifT hf c67
      refine r_iconst X (v := (-1)) dX9_fewestValves_106 rfl ?_
      obtain rfl := Option.some.inj hf
      exact x_ireturn X hQ rfl rfl (Nat.le_of_ble_eq_true rfl) (Nat.le_of_ble_eq_true rfl) dX9_fewestValves_107
    · replace hf := ifF hf c67
      refine r_iload X (x := x4) dX9_fewestValves_70 rfl ?_
      refine r_iload_n X (x := x3) dX9_fewestValves_72 rfl ?_
      obtain ⟨u73, h73, hf⟩ := bdS hf
      refine r_callS0 X [.int x4, .int x3] [] (K9_has h73) lkX9_313 (by decide) (Nat.le_of_ble_eq_true rfl) rfl rfl (Nat.le_of_ble_eq_true rfl) rfl rfl (Nat.zero_le _) (Nat.zero_le _) dX9_fewestValves_73 ?_
      refine r_if_eq X 82 dX9_fewestValves_76 rfl (fun c76 => ?_) (fun c76 => ?_)
      · replace hf := ifT hf c76
        refine r_aload_n X (x := k.b + (0)) dX9_fewestValves_82 rfl ?_
        refine r_getfield X (v := .ref (k.b + (4 + 17 * (0 : Fin 2).val))) clsX9 flX9_28 (Nat.le_of_ble_eq_true rfl) _ o_main rfl dX9_fewestValves_83 ?_
        refine r_iload X (x := x4) dX9_fewestValves_86 rfl ?_
        refine r_aload_n X (x := k.b + (0)) dX9_fewestValves_88 rfl ?_
        refine r_getfield X (v := .ref (k.b + (4 + 17 * (0 : Fin 2).val))) clsX9 flX9_28 (Nat.le_of_ble_eq_true rfl) _ o_main rfl dX9_fewestValves_89 ?_
        obtain ⟨u92, h92, hf⟩ := bdS hf
        refine r_callV0 X [] [.int x4, .ref (k.b + (4 + 17 * (0 : Fin 2).val))] (K1_allValves h92) lkX9_325 clsX1 rfl _ (o_lay (0 : Fin 2)) (by decide) (Nat.le_of_ble_eq_true rfl) rfl rfl (Nat.le_of_ble_eq_true rfl) rfl rfl (Nat.zero_le _) (Nat.zero_le _) dX9_fewestValves_92 ?_
        obtain ⟨u95, h95, hf⟩ := bdS hf
        refine r_callV0 X [.int x4, .int u92] [] (K1_grown h95) lkX9_329 clsX1 rfl _ (o_lay (0 : Fin 2)) (by decide) (Nat.le_of_ble_eq_true rfl) rfl rfl (Nat.le_of_ble_eq_true rfl) rfl rfl (Nat.zero_le _) (Nat.zero_le _) dX9_fewestValves_95 ?_
        refine r_istore X [some (.ref (k.b + (0))), none, none, some (.int x3), some (.int u95), some (.int x5)] dX9_fewestValves_98 (Nat.le_of_ble_eq_true rfl) rfl ?_
        refine r_iinc X (x := x5) (v := x5 + 1) [some (.ref (k.b + (0))), none, none, some (.int x3), some (.int u95), some (.int (x5 + 1))] dX9_fewestValves_100 rfl rfl rfl ?_
        refine r_goto X 63 dX9_fewestValves_103 rfl ?_
        exact ih x3 u95 (x5 + 1) hf
      · replace hf := ifF hf c76
        refine r_iload X (x := x5) dX9_fewestValves_79 rfl ?_
        obtain rfl := Option.some.inj hf
        exact x_ireturn X hQ rfl rfl (Nat.le_of_ble_eq_true rfl) (Nat.le_of_ble_eq_true rfl) dX9_fewestValves_81
set_option maxRecDepth 100000 in
set_option maxHeartbeats 4000000 in
theorem B9_fewestValves_B43 {k : KT} {z : ZT} {T : TT} {R : RR} {ly : Fin 2 → LL} {rc : RC} {hn : HN} {rp : RP} {tp : TP} {ee : EE} {st : Fin 12 → SS} {w : Nat → Int64} {aside : Nat → Int64} {thought : Nat → Int64} {fresh : Nat → Int64} {mu : MU} {th : Int32} {mp : MP} {mf : MF} {mh : MH} {mg : MG} {ou : Nat → Int64} {od : Nat → UInt64} {r : (Int32 ⊕ Nat)} (X : XX k strs z RX9 cX9_fewestValves 6 (some .int) (rmD 6 1 6)) (hT : ∀ x ∈ (zC z).exceptionTable.toList, False) (hQ : zQ z = vx_MQ (zB z) (QXof k (oI r) (wAll k T R ly rc hn rp tp ee st w aside thought fresh mu th mp mf mh mg ou od)) (XCof k (oI r) (wAll k T R ly rc hn rp tp ee st w aside thought fresh mu th mp mf mh mg ou od)) (zA z) (zS z) 1 6 (kA k)) (x1 : Int32) (x2 : Int32) (hf : f9_fewestValves_B43 (ly (0 : Fin 2)) x1 x2 = some r) : VW k z 0 0 (wAll k T R ly rc hn rp tp ee st w aside thought fresh mu th mp mf mh mg ou od) 43 [some (.ref (k.b + (0))), some (.int x1), some (.int x2), none, none, none] [] := by
  unfold f9_fewestValves_B43 at hf
  refine r_iload_n X (x := x2) dX9_fewestValves_43 rfl ?_
  refine r_iconst X (v := (-1)) dX9_fewestValves_44 rfl ?_
  suffices K45 : VW k z 0 0 (wAll k T R ly rc hn rp tp ee st w aside thought fresh mu th mp mf mh mg ou od) 54 [some (.ref (k.b + (0))), some (.int x1), some (.int x2), none, none, none] [.int (if x2 = (-1) then (8 : Int32) else (x2 : Int32))] by
    refine r_icmp_ne X 53 dX9_fewestValves_45 rfl (fun c45 => ?_) (fun c45 => ?_)
    · refine r_iload_n X (x := x2) dX9_fewestValves_53 rfl ?_
      rw [if_neg c45] at K45
      exact K45
    · refine r_bipush X (v := 8) dX9_fewestValves_48 rfl ?_
      refine r_goto X 54 dX9_fewestValves_50 rfl ?_
      rw [if_pos c45] at K45
      exact K45
  refine r_istore_n X [some (.ref (k.b + (0))), some (.int x1), some (.int x2), some (.int (if x2 = (-1) then (8 : Int32) else (x2 : Int32))), none, none] dX9_fewestValves_54 (Nat.le_of_ble_eq_true rfl) rfl ?_
  refine r_iconst X (v := 1) dX9_fewestValves_55 rfl ?_
  refine r_iload_n X (x := x1) dX9_fewestValves_56 rfl ?_
  refine r_ishl X dX9_fewestValves_57 ?_
  refine r_istore X [some (.ref (k.b + (0))), some (.int x1), some (.int x2), some (.int (if x2 = (-1) then (8 : Int32) else (x2 : Int32))), some (.int (1 <<< (x1 &&& 31))), none] dX9_fewestValves_58 (Nat.le_of_ble_eq_true rfl) rfl ?_
  refine r_iconst X (v := 0) dX9_fewestValves_60 rfl ?_
  refine r_istore X [some (.ref (k.b + (0))), some (.int x1), some (.int x2), some (.int (if x2 = (-1) then (8 : Int32) else (x2 : Int32))), some (.int (1 <<< (x1 &&& 31))), some (.int 0)] dX9_fewestValves_61 (Nat.le_of_ble_eq_true rfl) rfl ?_
  refine VW.msk [true, false, false, true, true, true] rfl (lo' := [some (.ref (k.b + (0))), none, none, some (.int (if x2 = (-1) then (8 : Int32) else (x2 : Int32))), some (.int (1 <<< (x1 &&& 31))), some (.int 0)]) rfl ?_
  exact B9_fewestValves_B63 X hT hQ FU (if x2 = (-1) then (8 : Int32) else (x2 : Int32)) (1 <<< (x1 &&& 31)) 0 hf
set_option maxRecDepth 100000 in
set_option maxHeartbeats 4000000 in
theorem K9_fewestValves {k : KT} {T : TT} {R : RR} {ly : Fin 2 → LL} {rc : RC} {hn : HN} {rp : RP} {tp : TP} {ee : EE} {st : Fin 12 → SS} {w : Nat → Int64} {aside : Nat → Int64} {thought : Nat → Int64} {fresh : Nat → Int64} {mu : MU} {th : Int32} {mp : MP} {mf : MF} {mh : MH} {mg : MG} {ou : Nat → Int64} {od : Nat → UInt64}  {x1 : Int32} {x2 : Int32} {r : (Int32 ⊕ Nat)} (hf : f9_fewestValves (ly (0 : Fin 2))  x1 x2 = some r) : CX k strs yX9_fewestValves cX9_fewestValves 6 (some .int) (rmD 6 1 6) [.ref (k.b + (0)), .int x1, .int x2] (wAll k T R ly rc hn rp tp ee st w aside thought fresh mu th mp mf mh mg ou od) (oI r) (wAll k T R ly rc hn rp tp ee st w aside thought fresh mu th mp mf mh mg ou od) := by
  refine CX.of (by decide) (Nat.le_of_ble_eq_true rfl) ?_
  intro z X hT hQ
  show VW k z 0 0 (wAll k T R ly rc hn rp tp ee st w aside thought fresh mu th mp mf mh mg ou od) 0 [some (.ref (k.b + (0))), some (.int x1), some (.int x2), none, none, none] []
  unfold f9_fewestValves at hf
  refine r_aload_n X (x := k.b + (0)) dX9_fewestValves_0 rfl ?_
  refine r_getfield X (v := .ref (k.b + (4 + 17 * (0 : Fin 2).val))) clsX9 flX9_28 (Nat.le_of_ble_eq_true rfl) _ o_main rfl dX9_fewestValves_1 ?_
  refine r_iload_n X (x := x1) dX9_fewestValves_4 rfl ?_
  obtain ⟨u5, h5, hf⟩ := bdS hf
  refine r_callV0 X [.int x1] [] (K1_hasChamber h5) lkX9_185 clsX1 rfl _ (o_lay (0 : Fin 2)) (by decide) (Nat.le_of_ble_eq_true rfl) rfl rfl (Nat.le_of_ble_eq_true rfl) rfl rfl (Nat.zero_le _) (Nat.zero_le _) dX9_fewestValves_5 ?_
  refine r_if_ne X 19 dX9_fewestValves_8 rfl (fun c8 => ?_) (fun c8 => ?_)
  · replace hf := ifF hf c8
    refine r_iload_n X (x := x2) dX9_fewestValves_19 rfl ?_
    refine r_iconst X (v := (-1)) dX9_fewestValves_20 rfl ?_
    refine r_icmp_eq X 43 dX9_fewestValves_21 rfl (fun c21 => ?_) (fun c21 => ?_)
    · replace hf := ifT hf c21
      exact B9_fewestValves_B43 X hT hQ x1 x2 hf
    · replace hf := ifF hf c21
      refine r_aload_n X (x := k.b + (0)) dX9_fewestValves_24 rfl ?_
      refine r_getfield X (v := .ref (k.b + (4 + 17 * (0 : Fin 2).val))) clsX9 flX9_28 (Nat.le_of_ble_eq_true rfl) _ o_main rfl dX9_fewestValves_25 ?_
      refine r_iload_n X (x := x2) dX9_fewestValves_28 rfl ?_
      obtain ⟨u29, h29, hf⟩ := bdS hf
      refine r_callV0 X [.int x2] [] (K1_hasChamber h29) lkX9_185 clsX1 rfl _ (o_lay (0 : Fin 2)) (by decide) (Nat.le_of_ble_eq_true rfl) rfl rfl (Nat.le_of_ble_eq_true rfl) rfl rfl (Nat.zero_le _) (Nat.zero_le _) dX9_fewestValves_29 ?_
      refine r_if_ne X 43 dX9_fewestValves_32 rfl (fun c32 => ?_) (fun c32 => ?_)
      · replace hf := ifF hf c32
        exact B9_fewestValves_B43 X hT hQ x1 x2 hf
      · replace hf := ifT hf c32
        obtain rfl := Option.some.inj hf
        exact r_throw X hT ltX9_1 (by decide) hQ rfl rfl (Nat.le_of_ble_eq_true rfl) (Nat.le_of_ble_eq_true rfl) rfl ⟨(Nat.le_of_ble_eq_true rfl), (Nat.le_of_ble_eq_true rfl), (Nat.le_of_ble_eq_true rfl), (Nat.le_of_ble_eq_true rfl)⟩ dX9_fewestValves_35 dX9_fewestValves_38 dX9_fewestValves_39 dX9_fewestValves_42
  · replace hf := ifT hf c8
    obtain rfl := Option.some.inj hf
    exact r_throw X hT ltX9_2 (by decide) hQ rfl rfl (Nat.le_of_ble_eq_true rfl) (Nat.le_of_ble_eq_true rfl) rfl ⟨(Nat.le_of_ble_eq_true rfl), (Nat.le_of_ble_eq_true rfl), (Nat.le_of_ble_eq_true rfl), (Nat.le_of_ble_eq_true rfl)⟩ dX9_fewestValves_11 dX9_fewestValves_14 dX9_fewestValves_15 dX9_fewestValves_18
set_option maxRecDepth 100000 in
set_option maxHeartbeats 4000000 in
theorem B9_settled_B36 {k : KT} {z : ZT} {T : TT} {R : RR} {ly : Fin 2 → LL} {rc : RC} {hn : HN} {rp : RP} {tp : TP} {ee : EE} {st : Fin 12 → SS} {w : Nat → Int64} {aside : Nat → Int64} {thought : Nat → Int64} {fresh : Nat → Int64} {mu : MU} {th : Int32} {mp : MP} {mf : MF} {mh : MH} {mg : MG} {ou : Nat → Int64} {od : Nat → UInt64} {r : (Int32 ⊕ Nat)} (X : XX k strs z RX9 cX9_settled 7 (some .int) (rmD 6 1 6)) (hT : ∀ x ∈ (zC z).exceptionTable.toList, False) (hQ : zQ z = vx_MQ (zB z) (QXof k (oI r) (wAll k T R ly rc hn rp tp ee st w aside thought fresh mu th mp mf mh mg ou od)) (XCof k (oI r) (wAll k T R ly rc hn rp tp ee st w aside thought fresh mu th mp mf mh mg ou od)) (zA z) (zS z) 1 6 (kA k)) : ∀ (fu : Nat) (x2 : Int32) (x3 : Int64) (x5 : Int32) (x6 : Int32), f9_settled_B36 (ly (0 : Fin 2)) tp st fu x2 x3 x5 x6 = some r → VW k z 0 0 (wAll k T R ly rc hn rp tp ee st w aside thought fresh mu th mp mf mh mg ou od) 36 [some (.ref (k.b + (0))), none, some (.int x2), some (.long x3), none, some (.int x5), some (.int x6)] [] := by
  intro fu
  induction fu with
  | zero =>
    intro x2 x3 x5 x6 hf
    rw [f9_settled_B36] at hf
    cases hf
  | succ fu ih =>
    intro x2 x3 x5 x6 hf
    rw [f9_settled_B36] at hf
    refine r_iload X (x := x6) dX9_settled_36 rfl ?_
    refine r_aload_n X (x := k.b + (0)) dX9_settled_38 rfl ?_
    refine r_getfield X (v := .ref (k.b + (4 + 17 * (0 : Fin 2).val))) clsX9 flX9_28 (Nat.le_of_ble_eq_true rfl) _ o_main rfl dX9_settled_39 ?_
    refine r_getfield X (v := .int (LL_chambers (ly (0 : Fin 2)))) clsX1 flX9_125 (Nat.le_of_ble_eq_true rfl) _ (o_lay (0 : Fin 2)) rfl dX9_settled_42 ?_
    refine r_icmp_ge X 91 dX9_settled_45 rfl (fun c45 => ?_) (fun c45 => ?_)
    · replace hf := ifT hf c45
      refine r_iload X (x := x5) dX9_settled_91 rfl ?_
      refine r_if_le X 105 dX9_settled_93 rfl (fun c93 => ?_) (fun c93 => ?_)
      · replace hf := ifT hf c93
        refine r_iconst X (v := 0) dX9_settled_105 rfl ?_
        obtain rfl := Option.some.inj hf
        exact x_ireturn X hQ rfl rfl (Nat.le_of_ble_eq_true rfl) (Nat.le_of_ble_eq_true rfl) dX9_settled_106
      · replace hf := ifF hf c93
        refine r_lload_n X (x := x3) dX9_settled_96 rfl ?_
        refine r_iload X (x := x5) dX9_settled_97 rfl ?_
        refine r_i2l X dX9_settled_99 ?_
        obtain ⟨g100z, hf⟩ := gdS hf
        refine r_ldiv X dX9_settled_100 g100z ?_
        refine r_l2i X dX9_settled_101 ?_
        refine r_goto X 106 dX9_settled_102 rfl ?_
        obtain rfl := Option.some.inj hf
        exact x_ireturn X hQ rfl rfl (Nat.le_of_ble_eq_true rfl) (Nat.le_of_ble_eq_true rfl) dX9_settled_106
    · replace hf := ifF hf c45
      refine r_iload_n X (x := x2) dX9_settled_48 rfl ?_
      refine r_iload X (x := x6) dX9_settled_49 rfl ?_
      obtain ⟨u51, h51, hf⟩ := bdS hf
      refine r_callS0 X [.int x2, .int x6] [] (K9_has h51) lkX9_313 (by decide) (Nat.le_of_ble_eq_true rfl) rfl rfl (Nat.le_of_ble_eq_true rfl) rfl rfl (Nat.zero_le _) (Nat.zero_le _) dX9_settled_51 ?_
      refine r_if_eq X 85 dX9_settled_54 rfl (fun c54 => ?_) (fun c54 => ?_)
      · replace hf := ifT hf c54
        refine r_iinc X (x := x6) (v := x6 + 1) [some (.ref (k.b + (0))), none, some (.int x2), some (.long x3), none, some (.int x5), some (.int (x6 + 1))] dX9_settled_85 rfl rfl rfl ?_
        refine r_goto X 36 dX9_settled_88 rfl ?_
        exact ih x2 x3 x5 (x6 + 1) hf
      · replace hf := ifF hf c54
        refine r_lload_n X (x := x3) dX9_settled_57 rfl ?_
        refine r_aload_n X (x := k.b + (0)) dX9_settled_58 rfl ?_
        refine r_getfield X (v := .ref (k.b + (45 + 12 * (TP_pr tp).val))) clsX9 flX9_73 (Nat.le_of_ble_eq_true rfl) _ o_main rfl dX9_settled_59 ?_
        refine r_getfield X (v := .ref (k.b + (45 + 12 * (TP_pr tp).val + 1))) clsX5 flX9_266 (Nat.le_of_ble_eq_true rfl) _ (o_st (TP_pr tp)) rfl dX9_settled_62 ?_
        refine r_iload X (x := x6) dX9_settled_65 rfl ?_
        obtain ⟨g67, hf⟩ := gdS hf
        refine r_laload X (f := SS_gas (st (TP_pr tp))) _ (a_st_gas (TP_pr tp)) g67 dX9_settled_67 ?_
        refine r_ladd X dX9_settled_68 ?_
        refine r_lstore_n X [some (.ref (k.b + (0))), none, some (.int x2), some (.long (x3 + ((SS_gas (st (TP_pr tp))) (ix x6)))), none, some (.int x5), some (.int x6)] dX9_settled_69 (Nat.le_of_ble_eq_true rfl) rfl ?_
        refine r_iload X (x := x5) dX9_settled_70 rfl ?_
        refine r_aload_n X (x := k.b + (0)) dX9_settled_72 rfl ?_
        refine r_getfield X (v := .ref (k.b + (4 + 17 * (0 : Fin 2).val))) clsX9 flX9_28 (Nat.le_of_ble_eq_true rfl) _ o_main rfl dX9_settled_73 ?_
        refine r_getfield X (v := .ref (k.b + (4 + 17 * (0 : Fin 2).val + 1))) clsX1 flX9_251 (Nat.le_of_ble_eq_true rfl) _ (o_lay (0 : Fin 2)) rfl dX9_settled_76 ?_
        refine r_iload X (x := x6) dX9_settled_79 rfl ?_
        refine r_iaload X (f := LL_volume (ly (0 : Fin 2))) _ (a_lay_volume (0 : Fin 2)) g67 dX9_settled_81 ?_
        refine r_iadd X dX9_settled_82 ?_
        refine r_istore X [some (.ref (k.b + (0))), none, some (.int x2), some (.long (x3 + ((SS_gas (st (TP_pr tp))) (ix x6)))), none, some (.int (x5 + ((LL_volume (ly (0 : Fin 2))) (ix x6)))), some (.int x6)] dX9_settled_83 (Nat.le_of_ble_eq_true rfl) rfl ?_
        refine r_iinc X (x := x6) (v := x6 + 1) [some (.ref (k.b + (0))), none, some (.int x2), some (.long (x3 + ((SS_gas (st (TP_pr tp))) (ix x6)))), none, some (.int (x5 + ((LL_volume (ly (0 : Fin 2))) (ix x6)))), some (.int (x6 + 1))] dX9_settled_85 rfl rfl rfl ?_
        refine r_goto X 36 dX9_settled_88 rfl ?_
        exact ih x2 (x3 + ((SS_gas (st (TP_pr tp))) (ix x6))) (x5 + ((LL_volume (ly (0 : Fin 2))) (ix x6))) (x6 + 1) hf
set_option maxRecDepth 100000 in
set_option maxHeartbeats 4000000 in
theorem K9_settled {k : KT} {T : TT} {R : RR} {ly : Fin 2 → LL} {rc : RC} {hn : HN} {rp : RP} {tp : TP} {ee : EE} {st : Fin 12 → SS} {w : Nat → Int64} {aside : Nat → Int64} {thought : Nat → Int64} {fresh : Nat → Int64} {mu : MU} {th : Int32} {mp : MP} {mf : MF} {mh : MH} {mg : MG} {ou : Nat → Int64} {od : Nat → UInt64}  {x1 : Int32} {r : (Int32 ⊕ Nat)} (hf : f9_settled (ly (0 : Fin 2)) tp st  x1 = some r) : CX k strs yX9_settled cX9_settled 7 (some .int) (rmD 6 1 6) [.ref (k.b + (0)), .int x1] (wAll k T R ly rc hn rp tp ee st w aside thought fresh mu th mp mf mh mg ou od) (oI r) (wAll k T R ly rc hn rp tp ee st w aside thought fresh mu th mp mf mh mg ou od) := by
  refine CX.of (by decide) (Nat.le_of_ble_eq_true rfl) ?_
  intro z X hT hQ
  show VW k z 0 0 (wAll k T R ly rc hn rp tp ee st w aside thought fresh mu th mp mf mh mg ou od) 0 [some (.ref (k.b + (0))), some (.int x1), none, none, none, none, none] []
  unfold f9_settled at hf
  refine r_aload_n X (x := k.b + (0)) dX9_settled_0 rfl ?_
  refine r_getfield X (v := .ref (k.b + (4 + 17 * (0 : Fin 2).val))) clsX9 flX9_28 (Nat.le_of_ble_eq_true rfl) _ o_main rfl dX9_settled_1 ?_
  refine r_iload_n X (x := x1) dX9_settled_4 rfl ?_
  obtain ⟨u5, h5, hf⟩ := bdS hf
  refine r_callV0 X [.int x1] [] (K1_hasChamber h5) lkX9_185 clsX1 rfl _ (o_lay (0 : Fin 2)) (by decide) (Nat.le_of_ble_eq_true rfl) rfl rfl (Nat.le_of_ble_eq_true rfl) rfl rfl (Nat.zero_le _) (Nat.zero_le _) dX9_settled_5 ?_
  refine r_if_ne X 19 dX9_settled_8 rfl (fun c8 => ?_) (fun c8 => ?_)
  · replace hf := ifF hf c8
    refine r_aload_n X (x := k.b + (0)) dX9_settled_19 rfl ?_
    refine r_getfield X (v := .ref (k.b + (45 + 12 * (TP_pr tp).val))) clsX9 flX9_73 (Nat.le_of_ble_eq_true rfl) _ o_main rfl dX9_settled_20 ?_
    refine r_iload_n X (x := x1) dX9_settled_23 rfl ?_
    obtain ⟨u24, h24, hf⟩ := bdS hf
    refine r_callV0 X [.int x1] [] (CT_unS (W := fun zz => wAll k T R ly rc hn rp tp ee zz w aside thought fresh mu th mp mf mh mg ou od) (W2 := fun zz => wAll k T R ly rc hn rp tp ee zz w aside thought fresh mu th mp mf mh mg ou od) (st := st) (TP_pr tp) (K5_reach h24)) lkX9_310 clsX5 rfl _ (o_st (TP_pr tp)) (by decide) (Nat.le_of_ble_eq_true rfl) rfl rfl (Nat.le_of_ble_eq_true rfl) rfl rfl (Nat.zero_le _) (Nat.zero_le _) dX9_settled_24 ?_
    refine r_istore_n X [some (.ref (k.b + (0))), some (.int x1), some (.int u24), none, none, none, none] dX9_settled_27 (Nat.le_of_ble_eq_true rfl) rfl ?_
    refine r_lconst X (v := 0) dX9_settled_28 rfl ?_
    refine r_lstore_n X [some (.ref (k.b + (0))), some (.int x1), some (.int u24), some (.long 0), none, none, none] dX9_settled_29 (Nat.le_of_ble_eq_true rfl) rfl ?_
    refine r_iconst X (v := 0) dX9_settled_30 rfl ?_
    refine r_istore X [some (.ref (k.b + (0))), some (.int x1), some (.int u24), some (.long 0), none, some (.int 0), none] dX9_settled_31 (Nat.le_of_ble_eq_true rfl) rfl ?_
    refine r_iconst X (v := 0) dX9_settled_33 rfl ?_
    refine r_istore X [some (.ref (k.b + (0))), some (.int x1), some (.int u24), some (.long 0), none, some (.int 0), some (.int 0)] dX9_settled_34 (Nat.le_of_ble_eq_true rfl) rfl ?_
    refine VW.msk [true, false, true, true, false, true, true] rfl (lo' := [some (.ref (k.b + (0))), none, some (.int u24), some (.long 0), none, some (.int 0), some (.int 0)]) rfl ?_
    exact B9_settled_B36 X hT hQ FU u24 0 0 0 hf
  · replace hf := ifT hf c8
    obtain rfl := Option.some.inj hf
    exact r_throw X hT ltX9_2 (by decide) hQ rfl rfl (Nat.le_of_ble_eq_true rfl) (Nat.le_of_ble_eq_true rfl) rfl ⟨(Nat.le_of_ble_eq_true rfl), (Nat.le_of_ble_eq_true rfl), (Nat.le_of_ble_eq_true rfl), (Nat.le_of_ble_eq_true rfl)⟩ dX9_settled_11 dX9_settled_14 dX9_settled_15 dX9_settled_18
set_option maxRecDepth 100000 in
set_option maxHeartbeats 4000000 in
theorem B9_openable_B4 {k : KT} {z : ZT} {T : TT} {R : RR} {ly : Fin 2 → LL} {rc : RC} {hn : HN} {rp : RP} {tp : TP} {ee : EE} {st : Fin 12 → SS} {w : Nat → Int64} {aside : Nat → Int64} {thought : Nat → Int64} {fresh : Nat → Int64} {mu : MU} {th : Int32} {mp : MP} {mf : MF} {mh : MH} {mg : MG} {ou : Nat → Int64} {od : Nat → UInt64} {r : Int32} (X : XX k strs z RX9 cX9_openable 3 (some .int) (rmD 3 0 0)) (hQ : zQ z = MQ (zB z) (Qof k (some (.int r)) (wAll k T R ly rc hn rp tp ee st w aside thought fresh mu th mp mf mh mg ou od)) (zA z) (zS z) 0 0 (kA k)) : ∀ (fu : Nat) (x1 : Int32) (x2 : Int32), f9_openable_B4 (ly (0 : Fin 2)) tp st fu x1 x2 = some r → VW k z 0 0 (wAll k T R ly rc hn rp tp ee st w aside thought fresh mu th mp mf mh mg ou od) 4 [some (.ref (k.b + (0))), some (.int x1), some (.int x2)] [] := by
  intro fu
  induction fu with
  | zero =>
    intro x1 x2 hf
    rw [f9_openable_B4] at hf
    cases hf
  | succ fu ih =>
    intro x1 x2 hf
    rw [f9_openable_B4] at hf
    refine r_iload_n X (x := x2) dX9_openable_4 rfl ?_
    refine r_aload_n X (x := k.b + (0)) dX9_openable_5 rfl ?_
    refine r_getfield X (v := .ref (k.b + (4 + 17 * (0 : Fin 2).val))) clsX9 flX9_28 (Nat.le_of_ble_eq_true rfl) _ o_main rfl dX9_openable_6 ?_
    refine r_getfield X (v := .int (LL_valves (ly (0 : Fin 2)))) clsX1 flX9_223 (Nat.le_of_ble_eq_true rfl) _ (o_lay (0 : Fin 2)) rfl dX9_openable_9 ?_
    refine r_icmp_ge X 38 dX9_openable_12 rfl (fun c12 => ?_) (fun c12 => ?_)
    · replace hf := ifT hf c12
      refine r_iload_n X (x := x1) dX9_openable_38 rfl ?_
      obtain rfl := Option.some.inj hf
      exact r_ireturn X hQ rfl rfl (Nat.le_of_ble_eq_true rfl) (Nat.le_of_ble_eq_true rfl) dX9_openable_39
    · replace hf := ifF hf c12
      refine r_aload_n X (x := k.b + (0)) dX9_openable_15 rfl ?_
      refine r_getfield X (v := .ref (k.b + (45 + 12 * (TP_pr tp).val))) clsX9 flX9_73 (Nat.le_of_ble_eq_true rfl) _ o_main rfl dX9_openable_16 ?_
      refine r_iload_n X (x := x2) dX9_openable_19 rfl ?_
      obtain ⟨u20, h20, hf⟩ := bdS hf
      refine r_callV0 X [.int x2] [] (CT_unS (W := fun zz => wAll k T R ly rc hn rp tp ee zz w aside thought fresh mu th mp mf mh mg ou od) (W2 := fun zz => wAll k T R ly rc hn rp tp ee zz w aside thought fresh mu th mp mf mh mg ou od) (st := st) (TP_pr tp) (K5_openingBar h20)) lkX9_135 clsX5 rfl _ (o_st (TP_pr tp)) (by decide) (Nat.le_of_ble_eq_true rfl) rfl rfl (Nat.le_of_ble_eq_true rfl) rfl rfl (Nat.zero_le _) (Nat.zero_le _) dX9_openable_20 ?_
      refine r_if_ne X 32 dX9_openable_23 rfl (fun c23 => ?_) (fun c23 => ?_)
      · replace hf := ifF hf c23
        refine r_iinc X (x := x2) (v := x2 + 1) [some (.ref (k.b + (0))), some (.int x1), some (.int (x2 + 1))] dX9_openable_32 rfl rfl rfl ?_
        refine r_goto X 4 dX9_openable_35 rfl ?_
        exact ih x1 (x2 + 1) hf
      · replace hf := ifT hf c23
        refine r_iload_n X (x := x1) dX9_openable_26 rfl ?_
        refine r_iconst X (v := 1) dX9_openable_27 rfl ?_
        refine r_iload_n X (x := x2) dX9_openable_28 rfl ?_
        refine r_ishl X dX9_openable_29 ?_
        refine r_ior X dX9_openable_30 ?_
        refine r_istore_n X [some (.ref (k.b + (0))), some (.int (x1 ||| (1 <<< (x2 &&& 31)))), some (.int x2)] dX9_openable_31 (Nat.le_of_ble_eq_true rfl) rfl ?_
        refine r_iinc X (x := x2) (v := x2 + 1) [some (.ref (k.b + (0))), some (.int (x1 ||| (1 <<< (x2 &&& 31)))), some (.int (x2 + 1))] dX9_openable_32 rfl rfl rfl ?_
        refine r_goto X 4 dX9_openable_35 rfl ?_
        exact ih (x1 ||| (1 <<< (x2 &&& 31))) (x2 + 1) hf
set_option maxRecDepth 100000 in
set_option maxHeartbeats 4000000 in
theorem K9_openable {k : KT} {T : TT} {R : RR} {ly : Fin 2 → LL} {rc : RC} {hn : HN} {rp : RP} {tp : TP} {ee : EE} {st : Fin 12 → SS} {w : Nat → Int64} {aside : Nat → Int64} {thought : Nat → Int64} {fresh : Nat → Int64} {mu : MU} {th : Int32} {mp : MP} {mf : MF} {mh : MH} {mg : MG} {ou : Nat → Int64} {od : Nat → UInt64}   {r : Int32} (hf : f9_openable (ly (0 : Fin 2)) tp st   = some r) : CT k strs yX9_openable cX9_openable 3 (some .int) (rmD 3 0 0) 0 0 [.ref (k.b + (0))] (wAll k T R ly rc hn rp tp ee st w aside thought fresh mu th mp mf mh mg ou od) (some (.int r)) (wAll k T R ly rc hn rp tp ee st w aside thought fresh mu th mp mf mh mg ou od) := by
  refine CT.of (by decide) (Nat.le_of_ble_eq_true rfl) ?_
  intro z X hQ
  show VW k z 0 0 (wAll k T R ly rc hn rp tp ee st w aside thought fresh mu th mp mf mh mg ou od) 0 [some (.ref (k.b + (0))), none, none] []
  unfold f9_openable at hf
  refine r_iconst X (v := 0) dX9_openable_0 rfl ?_
  refine r_istore_n X [some (.ref (k.b + (0))), some (.int 0), none] dX9_openable_1 (Nat.le_of_ble_eq_true rfl) rfl ?_
  refine r_iconst X (v := 0) dX9_openable_2 rfl ?_
  refine r_istore_n X [some (.ref (k.b + (0))), some (.int 0), some (.int 0)] dX9_openable_3 (Nat.le_of_ble_eq_true rfl) rfl ?_
  exact B9_openable_B4 X hQ FU 0 0 hf
set_option maxRecDepth 100000 in
set_option maxHeartbeats 4000000 in
theorem B9_widest_B6 {k : KT} {z : ZT} {T : TT} {R : RR} {ly : Fin 2 → LL} {rc : RC} {hn : HN} {rp : RP} {tp : TP} {ee : EE} {st : Fin 12 → SS} {w : Nat → Int64} {aside : Nat → Int64} {thought : Nat → Int64} {fresh : Nat → Int64} {mu : MU} {th : Int32} {mp : MP} {mf : MF} {mh : MH} {mg : MG} {ou : Nat → Int64} {od : Nat → UInt64} {r : (Int32 ⊕ Nat)} (X : XX k strs z RX9 cX9_widest 4 (some .int) (rmD 6 1 6)) (hT : ∀ x ∈ (zC z).exceptionTable.toList, False) (hQ : zQ z = vx_MQ (zB z) (QXof k (oI r) (wAll k T R ly rc hn rp tp ee st w aside thought fresh mu th mp mf mh mg ou od)) (XCof k (oI r) (wAll k T R ly rc hn rp tp ee st w aside thought fresh mu th mp mf mh mg ou od)) (zA z) (zS z) 1 6 (kA k)) : ∀ (fu : Nat) (x1 : Int32) (x2 : Int32) (x3 : Int32), f9_widest_B6 (ly (0 : Fin 2)) tp st fu x1 x2 x3 = some r → VW k z 0 0 (wAll k T R ly rc hn rp tp ee st w aside thought fresh mu th mp mf mh mg ou od) 6 [some (.ref (k.b + (0))), some (.int x1), some (.int x2), some (.int x3)] [] := by
  intro fu
  induction fu with
  | zero =>
    intro x1 x2 x3 hf
    rw [f9_widest_B6] at hf
    cases hf
  | succ fu ih =>
    intro x1 x2 x3 hf
    rw [f9_widest_B6] at hf
    refine r_iload_n X (x := x3) dX9_widest_6 rfl ?_
    refine r_aload_n X (x := k.b + (0)) dX9_widest_7 rfl ?_
    refine r_getfield X (v := .ref (k.b + (4 + 17 * (0 : Fin 2).val))) clsX9 flX9_28 (Nat.le_of_ble_eq_true rfl) _ o_main rfl dX9_widest_8 ?_
    refine r_getfield X (v := .int (LL_valves (ly (0 : Fin 2)))) clsX1 flX9_223 (Nat.le_of_ble_eq_true rfl) _ (o_lay (0 : Fin 2)) rfl dX9_widest_11 ?_
    refine r_icmp_ge X 57 dX9_widest_14 rfl (fun c14 => ?_) (fun c14 => ?_)
    · replace hf := ifT hf c14
      refine r_iload_n X (x := x1) dX9_widest_57 rfl ?_
      refine r_iconst X (v := (-1)) dX9_widest_58 rfl ?_
      refine r_icmp_ne X 70 dX9_widest_59 rfl (fun c59 => ?_) (fun c59 => ?_)
      · replace hf := ifF hf c59
        refine r_iload_n X (x := x1) dX9_widest_70 rfl ?_
        obtain rfl := Option.some.inj hf
        exact x_ireturn X hQ rfl rfl (Nat.le_of_ble_eq_true rfl) (Nat.le_of_ble_eq_true rfl) dX9_widest_71
      · replace hf := ifT hf c59
        obtain rfl := Option.some.inj hf
        exact r_throw X hT ltX9_3 (by decide) hQ rfl rfl (Nat.le_of_ble_eq_true rfl) (Nat.le_of_ble_eq_true rfl) rfl ⟨(Nat.le_of_ble_eq_true rfl), (Nat.le_of_ble_eq_true rfl), (Nat.le_of_ble_eq_true rfl), (Nat.le_of_ble_eq_true rfl)⟩ dX9_widest_62 dX9_widest_65 dX9_widest_66 dX9_widest_69
    · replace hf := ifF hf c14
      refine r_aload_n X (x := k.b + (0)) dX9_widest_17 rfl ?_
      refine r_getfield X (v := .ref (k.b + (45 + 12 * (TP_pr tp).val))) clsX9 flX9_73 (Nat.le_of_ble_eq_true rfl) _ o_main rfl dX9_widest_18 ?_
      refine r_iload_n X (x := x3) dX9_widest_21 rfl ?_
      obtain ⟨u22, h22, hf⟩ := bdS hf
      refine r_callV0 X [.int x3] [] (CT_unS (W := fun zz => wAll k T R ly rc hn rp tp ee zz w aside thought fresh mu th mp mf mh mg ou od) (W2 := fun zz => wAll k T R ly rc hn rp tp ee zz w aside thought fresh mu th mp mf mh mg ou od) (st := st) (TP_pr tp) (K5_isOpen h22)) lkX9_151 clsX5 rfl _ (o_st (TP_pr tp)) (by decide) (Nat.le_of_ble_eq_true rfl) rfl rfl (Nat.le_of_ble_eq_true rfl) rfl rfl (Nat.zero_le _) (Nat.zero_le _) dX9_widest_22 ?_
      refine r_if_ne X 51 dX9_widest_25 rfl (fun c25 => ?_) (fun c25 => ?_)
      · replace hf := ifF hf c25
        refine r_iinc X (x := x3) (v := x3 + 1) [some (.ref (k.b + (0))), some (.int x1), some (.int x2), some (.int (x3 + 1))] dX9_widest_51 rfl rfl rfl ?_
        refine r_goto X 6 dX9_widest_54 rfl ?_
        exact ih x1 x2 (x3 + 1) hf
      · replace hf := ifT hf c25
        refine r_aload_n X (x := k.b + (0)) dX9_widest_28 rfl ?_
        refine r_getfield X (v := .ref (k.b + (45 + 12 * (TP_pr tp).val))) clsX9 flX9_73 (Nat.le_of_ble_eq_true rfl) _ o_main rfl dX9_widest_29 ?_
        refine r_iload_n X (x := x3) dX9_widest_32 rfl ?_
        obtain ⟨u33, h33, hf⟩ := bdS hf
        refine r_callV0 X [.int x3] [] (CT_unS (W := fun zz => wAll k T R ly rc hn rp tp ee zz w aside thought fresh mu th mp mf mh mg ou od) (W2 := fun zz => wAll k T R ly rc hn rp tp ee zz w aside thought fresh mu th mp mf mh mg ou od) (st := st) (TP_pr tp) (K5_difference h33)) lkX9_148 clsX5 rfl _ (o_st (TP_pr tp)) (by decide) (Nat.le_of_ble_eq_true rfl) rfl rfl (Nat.le_of_ble_eq_true rfl) rfl rfl (Nat.zero_le _) (Nat.zero_le _) dX9_widest_33 ?_
        refine r_iload_n X (x := x2) dX9_widest_36 rfl ?_
        refine r_icmp_le X 51 dX9_widest_37 rfl (fun c37 => ?_) (fun c37 => ?_)
        · replace hf := ifT hf c37
          refine r_iinc X (x := x3) (v := x3 + 1) [some (.ref (k.b + (0))), some (.int x1), some (.int x2), some (.int (x3 + 1))] dX9_widest_51 rfl rfl rfl ?_
          refine r_goto X 6 dX9_widest_54 rfl ?_
          exact ih x1 x2 (x3 + 1) hf
        · replace hf := ifF hf c37
          refine r_iload_n X (x := x3) dX9_widest_40 rfl ?_
          refine r_istore_n X [some (.ref (k.b + (0))), some (.int x3), some (.int x2), some (.int x3)] dX9_widest_41 (Nat.le_of_ble_eq_true rfl) rfl ?_
          refine r_aload_n X (x := k.b + (0)) dX9_widest_42 rfl ?_
          refine r_getfield X (v := .ref (k.b + (45 + 12 * (TP_pr tp).val))) clsX9 flX9_73 (Nat.le_of_ble_eq_true rfl) _ o_main rfl dX9_widest_43 ?_
          refine r_iload_n X (x := x3) dX9_widest_46 rfl ?_
          obtain ⟨u47, h47, hf⟩ := bdS hf
          refine r_callV0 X [.int x3] [] (CT_unS (W := fun zz => wAll k T R ly rc hn rp tp ee zz w aside thought fresh mu th mp mf mh mg ou od) (W2 := fun zz => wAll k T R ly rc hn rp tp ee zz w aside thought fresh mu th mp mf mh mg ou od) (st := st) (TP_pr tp) (K5_difference h47)) lkX9_148 clsX5 rfl _ (o_st (TP_pr tp)) (by decide) (Nat.le_of_ble_eq_true rfl) rfl rfl (Nat.le_of_ble_eq_true rfl) rfl rfl (Nat.zero_le _) (Nat.zero_le _) dX9_widest_47 ?_
          refine r_istore_n X [some (.ref (k.b + (0))), some (.int x3), some (.int u47), some (.int x3)] dX9_widest_50 (Nat.le_of_ble_eq_true rfl) rfl ?_
          refine r_iinc X (x := x3) (v := x3 + 1) [some (.ref (k.b + (0))), some (.int x3), some (.int u47), some (.int (x3 + 1))] dX9_widest_51 rfl rfl rfl ?_
          refine r_goto X 6 dX9_widest_54 rfl ?_
          exact ih x3 u47 (x3 + 1) hf
set_option maxRecDepth 100000 in
set_option maxHeartbeats 4000000 in
theorem K9_widest {k : KT} {T : TT} {R : RR} {ly : Fin 2 → LL} {rc : RC} {hn : HN} {rp : RP} {tp : TP} {ee : EE} {st : Fin 12 → SS} {w : Nat → Int64} {aside : Nat → Int64} {thought : Nat → Int64} {fresh : Nat → Int64} {mu : MU} {th : Int32} {mp : MP} {mf : MF} {mh : MH} {mg : MG} {ou : Nat → Int64} {od : Nat → UInt64}   {r : (Int32 ⊕ Nat)} (hf : f9_widest (ly (0 : Fin 2)) tp st   = some r) : CX k strs yX9_widest cX9_widest 4 (some .int) (rmD 6 1 6) [.ref (k.b + (0))] (wAll k T R ly rc hn rp tp ee st w aside thought fresh mu th mp mf mh mg ou od) (oI r) (wAll k T R ly rc hn rp tp ee st w aside thought fresh mu th mp mf mh mg ou od) := by
  refine CX.of (by decide) (Nat.le_of_ble_eq_true rfl) ?_
  intro z X hT hQ
  show VW k z 0 0 (wAll k T R ly rc hn rp tp ee st w aside thought fresh mu th mp mf mh mg ou od) 0 [some (.ref (k.b + (0))), none, none, none] []
  unfold f9_widest at hf
  refine r_iconst X (v := (-1)) dX9_widest_0 rfl ?_
  refine r_istore_n X [some (.ref (k.b + (0))), some (.int (-1)), none, none] dX9_widest_1 (Nat.le_of_ble_eq_true rfl) rfl ?_
  refine r_iconst X (v := (-1)) dX9_widest_2 rfl ?_
  refine r_istore_n X [some (.ref (k.b + (0))), some (.int (-1)), some (.int (-1)), none] dX9_widest_3 (Nat.le_of_ble_eq_true rfl) rfl ?_
  refine r_iconst X (v := 0) dX9_widest_4 rfl ?_
  refine r_istore_n X [some (.ref (k.b + (0))), some (.int (-1)), some (.int (-1)), some (.int 0)] dX9_widest_5 (Nat.le_of_ble_eq_true rfl) rfl ?_
  exact B9_widest_B6 X hT hQ FU (-1) (-1) 0 hf
set_option maxRecDepth 100000 in
set_option maxHeartbeats 4000000 in
theorem K9_pressureAfter {k : KT} {T : TT} {R : RR} {ly : Fin 2 → LL} {rc : RC} {hn : HN} {rp : RP} {tp : TP} {ee : EE} {st : Fin 12 → SS} {w : Nat → Int64} {aside : Nat → Int64} {thought : Nat → Int64} {fresh : Nat → Int64} {mu : MU} {th : Int32} {mp : MP} {mf : MF} {mh : MH} {mg : MG} {ou : Nat → Int64} {od : Nat → UInt64}  {x1 : Int32} {x2 : Int32} {r : (Int32 ⊕ Nat) × (Fin 12 → SS)} (hf : f9_pressureAfter (ly (0 : Fin 2)) tp st x1 x2 = some r) : CX k strs yX9_pressureAfter cX9_pressureAfter 3 (some .int) (rmD 6 1 6) [.ref (k.b + (0)), .int x1, .int x2] (wAll k T R ly rc hn rp tp ee st w aside thought fresh mu th mp mf mh mg ou od) (oI r.1) (wAll k T R ly rc hn rp tp ee r.2 w aside thought fresh mu th mp mf mh mg ou od) := by
  refine CX.of (by decide) (Nat.le_of_ble_eq_true rfl) ?_
  intro z X hT hQ
  show VW k z 0 0 (wAll k T R ly rc hn rp tp ee st w aside thought fresh mu th mp mf mh mg ou od) 0 [some (.ref (k.b + (0))), some (.int x1), some (.int x2)] []
  unfold f9_pressureAfter at hf
  refine r_aload_n X (x := k.b + (0)) dX9_pressureAfter_0 rfl ?_
  refine r_getfield X (v := .ref (k.b + (4 + 17 * (0 : Fin 2).val))) clsX9 flX9_28 (Nat.le_of_ble_eq_true rfl) _ o_main rfl dX9_pressureAfter_1 ?_
  refine r_iload_n X (x := x1) dX9_pressureAfter_4 rfl ?_
  obtain ⟨u5, h5, hf⟩ := bdS hf
  refine r_callV0 X [.int x1] [] (K1_hasChamber h5) lkX9_185 clsX1 rfl _ (o_lay (0 : Fin 2)) (by decide) (Nat.le_of_ble_eq_true rfl) rfl rfl (Nat.le_of_ble_eq_true rfl) rfl rfl (Nat.zero_le _) (Nat.zero_le _) dX9_pressureAfter_5 ?_
  refine r_if_ne X 19 dX9_pressureAfter_8 rfl (fun c8 => ?_) (fun c8 => ?_)
  · replace hf := ifF hf c8
    refine r_iload_n X (x := x2) dX9_pressureAfter_19 rfl ?_
    obtain ⟨u20, h20, hf⟩ := bdS hf
    refine r_callS0 X [.int x2] [] (K9_isTicks h20) lkX9_179 (by decide) (Nat.le_of_ble_eq_true rfl) rfl rfl (Nat.le_of_ble_eq_true rfl) rfl rfl (Nat.zero_le _) (Nat.zero_le _) dX9_pressureAfter_20 ?_
    refine r_if_ne X 34 dX9_pressureAfter_23 rfl (fun c23 => ?_) (fun c23 => ?_)
    · replace hf := ifF hf c23
      refine r_aload_n X (x := k.b + (0)) dX9_pressureAfter_34 rfl ?_
      obtain ⟨u35, h35, hf⟩ := bdS hf
      refine r_callV0 X [] [] (K9_beginTrial h35) lkX9_139 clsX9 rfl _ o_main (by decide) (Nat.le_of_ble_eq_true rfl) rfl rfl (Nat.le_of_ble_eq_true rfl) rfl rfl (Nat.zero_le _) (Nat.zero_le _) dX9_pressureAfter_35 ?_
      refine r_aload_n X (x := k.b + (0)) dX9_pressureAfter_38 rfl ?_
      refine r_getfield X (v := .ref (k.b + (45 + 12 * (TP_tr tp).val))) clsX9 flX9_77 (Nat.le_of_ble_eq_true rfl) _ o_main rfl dX9_pressureAfter_39 ?_
      refine r_iload_n X (x := x2) dX9_pressureAfter_42 rfl ?_
      refine VW.foc (ws' := wAll k T R ly rc hn rp tp ee (updF u35 (TP_tr tp) (u35 (TP_tr tp))) w aside thought fresh mu th mp mf mh mg ou od) (by rw [updF_self]) ?_
      obtain ⟨u43, h43, hf⟩ := bdS hf
      refine r_callV0 X [.int x2] [] (K5_passTicks h43) lkX9_182 clsX5 rfl _ (o_st1 (TP_tr tp) _) (by decide) (Nat.le_of_ble_eq_true rfl) rfl rfl (Nat.le_of_ble_eq_true rfl) rfl rfl (Nat.zero_le _) (Nat.zero_le _) dX9_pressureAfter_43 ?_
      refine r_pop X dX9_pressureAfter_46 rfl ?_
      refine r_aload_n X (x := k.b + (0)) dX9_pressureAfter_47 rfl ?_
      refine r_getfield X (v := .ref (k.b + (45 + 12 * (TP_tr tp).val))) clsX9 flX9_77 (Nat.le_of_ble_eq_true rfl) _ o_main rfl dX9_pressureAfter_48 ?_
      refine r_getfield X (v := .ref (k.b + (45 + 12 * (TP_tr tp).val + 2))) clsX5 flX9_166 (Nat.le_of_ble_eq_true rfl) _ (o_st1 (TP_tr tp) _) rfl dX9_pressureAfter_51 ?_
      refine r_iload_n X (x := x1) dX9_pressureAfter_54 rfl ?_
      obtain ⟨g55, hf⟩ := gdS hf
      refine r_iaload X (f := SS_pressure u43.2) _ (a_st1_pressure (TP_tr tp) _) g55 dX9_pressureAfter_55 ?_
      obtain rfl := Option.some.inj hf
      exact x_ireturn X hQ rfl rfl (Nat.le_of_ble_eq_true rfl) (Nat.le_of_ble_eq_true rfl) dX9_pressureAfter_56
    · replace hf := ifT hf c23
      obtain rfl := Option.some.inj hf
      exact r_throw X hT ltX9_1 (by decide) hQ rfl rfl (Nat.le_of_ble_eq_true rfl) (Nat.le_of_ble_eq_true rfl) rfl ⟨(Nat.le_of_ble_eq_true rfl), (Nat.le_of_ble_eq_true rfl), (Nat.le_of_ble_eq_true rfl), (Nat.le_of_ble_eq_true rfl)⟩ dX9_pressureAfter_26 dX9_pressureAfter_29 dX9_pressureAfter_30 dX9_pressureAfter_33
  · replace hf := ifT hf c8
    obtain rfl := Option.some.inj hf
    exact r_throw X hT ltX9_2 (by decide) hQ rfl rfl (Nat.le_of_ble_eq_true rfl) (Nat.le_of_ble_eq_true rfl) rfl ⟨(Nat.le_of_ble_eq_true rfl), (Nat.le_of_ble_eq_true rfl), (Nat.le_of_ble_eq_true rfl), (Nat.le_of_ble_eq_true rfl)⟩ dX9_pressureAfter_11 dX9_pressureAfter_14 dX9_pressureAfter_15 dX9_pressureAfter_18
set_option maxRecDepth 100000 in
set_option maxHeartbeats 4000000 in
theorem B9_lowest_B51 {k : KT} {z : ZT} {T : TT} {R : RR} {ly : Fin 2 → LL} {rc : RC} {hn : HN} {rp : RP} {tp : TP} {ee : EE} {w : Nat → Int64} {aside : Nat → Int64} {thought : Nat → Int64} {fresh : Nat → Int64} {mu : MU} {th : Int32} {mp : MP} {mf : MF} {mh : MH} {mg : MG} {ou : Nat → Int64} {od : Nat → UInt64} {r : (Int32 ⊕ Nat) × (Fin 12 → SS)} (X : XX k strs z RX9 cX9_lowest 5 (some .int) (rmD 6 1 6)) (hT : ∀ x ∈ (zC z).exceptionTable.toList, False) (hQ : zQ z = vx_MQ (zB z) (QXof k (oI r.1) (wAll k T R ly rc hn rp tp ee r.2 w aside thought fresh mu th mp mf mh mg ou od)) (XCof k (oI r.1) (wAll k T R ly rc hn rp tp ee r.2 w aside thought fresh mu th mp mf mh mg ou od)) (zA z) (zS z) 1 6 (kA k)) : ∀ (fu : Nat) (st : Fin 12 → SS) (x1 : Int32) (x2 : Int32) (x3 : Int32) (x4 : Int32), f9_lowest_B51 (ly (0 : Fin 2)) tp fu st x1 x2 x3 x4 = some r → VW k z 0 0 (wAll k T R ly rc hn rp tp ee st w aside thought fresh mu th mp mf mh mg ou od) 51 [some (.ref (k.b + (0))), some (.int x1), some (.int x2), some (.int x3), some (.int x4)] [] := by
  intro fu
  induction fu with
  | zero =>
    intro st x1 x2 x3 x4 hf
    rw [f9_lowest_B51] at hf
    cases hf
  | succ fu ih =>
    intro st x1 x2 x3 x4 hf
    rw [f9_lowest_B51] at hf
    refine r_iload X (x := x4) dX9_lowest_51 rfl ?_
    refine r_iload_n X (x := x2) dX9_lowest_53 rfl ?_
    refine r_icmp_ge X 85 dX9_lowest_54 rfl (fun c54 => ?_) (fun c54 => ?_)
    · replace hf := ifT hf c54
      refine r_iload_n X (x := x3) dX9_lowest_85 rfl ?_
      obtain rfl := Option.some.inj hf
      exact x_ireturn X hQ rfl rfl (Nat.le_of_ble_eq_true rfl) (Nat.le_of_ble_eq_true rfl) dX9_lowest_86
    · replace hf := ifF hf c54
      refine r_aload_n X (x := k.b + (0)) dX9_lowest_57 rfl ?_
      refine r_getfield X (v := .ref (k.b + (45 + 12 * (TP_tr tp).val))) clsX9 flX9_77 (Nat.le_of_ble_eq_true rfl) _ o_main rfl dX9_lowest_58 ?_
      refine VW.foc (ws' := wAll k T R ly rc hn rp tp ee (updF st (TP_tr tp) (st (TP_tr tp))) w aside thought fresh mu th mp mf mh mg ou od) (by rw [updF_self]) ?_
      obtain ⟨u61, h61, hf⟩ := bdS hf
      refine r_callV0 X [] [] (K5_tick h61) lkX9_335 clsX5 rfl _ (o_st1 (TP_tr tp) _) (by decide) (Nat.le_of_ble_eq_true rfl) rfl rfl (Nat.le_of_ble_eq_true rfl) rfl rfl (Nat.zero_le _) (Nat.zero_le _) dX9_lowest_61 ?_
      refine r_pop X dX9_lowest_64 rfl ?_
      refine r_iload_n X (x := x3) dX9_lowest_65 rfl ?_
      refine r_aload_n X (x := k.b + (0)) dX9_lowest_66 rfl ?_
      refine r_getfield X (v := .ref (k.b + (45 + 12 * (TP_tr tp).val))) clsX9 flX9_77 (Nat.le_of_ble_eq_true rfl) _ o_main rfl dX9_lowest_67 ?_
      refine r_getfield X (v := .ref (k.b + (45 + 12 * (TP_tr tp).val + 2))) clsX5 flX9_166 (Nat.le_of_ble_eq_true rfl) _ (o_st1 (TP_tr tp) _) rfl dX9_lowest_70 ?_
      refine r_iload_n X (x := x1) dX9_lowest_73 rfl ?_
      obtain ⟨g74, hf⟩ := gdS hf
      refine r_iaload X (f := SS_pressure u61.2) _ (a_st1_pressure (TP_tr tp) _) g74 dX9_lowest_74 ?_
      refine r_imin X lkX9_317 rfl ⟨(Nat.le_of_ble_eq_true rfl), (Nat.le_of_ble_eq_true rfl)⟩ (Nat.zero_le _) (Nat.zero_le _) dX9_lowest_75 ?_
      refine r_istore_n X [some (.ref (k.b + (0))), some (.int x1), some (.int x2), some (.int (if ((SS_pressure u61.2) (ix x1)) < x3 then ((SS_pressure u61.2) (ix x1)) else x3)), some (.int x4)] dX9_lowest_78 (Nat.le_of_ble_eq_true rfl) rfl ?_
      refine r_iinc X (x := x4) (v := x4 + 1) [some (.ref (k.b + (0))), some (.int x1), some (.int x2), some (.int (if ((SS_pressure u61.2) (ix x1)) < x3 then ((SS_pressure u61.2) (ix x1)) else x3)), some (.int (x4 + 1))] dX9_lowest_79 rfl rfl rfl ?_
      refine r_goto X 51 dX9_lowest_82 rfl ?_
      exact ih (updF st (TP_tr tp) u61.2) x1 x2 (if ((SS_pressure u61.2) (ix x1)) < x3 then ((SS_pressure u61.2) (ix x1)) else x3) (x4 + 1) hf
set_option maxRecDepth 100000 in
set_option maxHeartbeats 4000000 in
theorem K9_lowest {k : KT} {T : TT} {R : RR} {ly : Fin 2 → LL} {rc : RC} {hn : HN} {rp : RP} {tp : TP} {ee : EE} {st : Fin 12 → SS} {w : Nat → Int64} {aside : Nat → Int64} {thought : Nat → Int64} {fresh : Nat → Int64} {mu : MU} {th : Int32} {mp : MP} {mf : MF} {mh : MH} {mg : MG} {ou : Nat → Int64} {od : Nat → UInt64}  {x1 : Int32} {x2 : Int32} {r : (Int32 ⊕ Nat) × (Fin 12 → SS)} (hf : f9_lowest (ly (0 : Fin 2)) tp st x1 x2 = some r) : CX k strs yX9_lowest cX9_lowest 5 (some .int) (rmD 6 1 6) [.ref (k.b + (0)), .int x1, .int x2] (wAll k T R ly rc hn rp tp ee st w aside thought fresh mu th mp mf mh mg ou od) (oI r.1) (wAll k T R ly rc hn rp tp ee r.2 w aside thought fresh mu th mp mf mh mg ou od) := by
  refine CX.of (by decide) (Nat.le_of_ble_eq_true rfl) ?_
  intro z X hT hQ
  show VW k z 0 0 (wAll k T R ly rc hn rp tp ee st w aside thought fresh mu th mp mf mh mg ou od) 0 [some (.ref (k.b + (0))), some (.int x1), some (.int x2), none, none] []
  unfold f9_lowest at hf
  refine r_aload_n X (x := k.b + (0)) dX9_lowest_0 rfl ?_
  refine r_getfield X (v := .ref (k.b + (4 + 17 * (0 : Fin 2).val))) clsX9 flX9_28 (Nat.le_of_ble_eq_true rfl) _ o_main rfl dX9_lowest_1 ?_
  refine r_iload_n X (x := x1) dX9_lowest_4 rfl ?_
  obtain ⟨u5, h5, hf⟩ := bdS hf
  refine r_callV0 X [.int x1] [] (K1_hasChamber h5) lkX9_185 clsX1 rfl _ (o_lay (0 : Fin 2)) (by decide) (Nat.le_of_ble_eq_true rfl) rfl rfl (Nat.le_of_ble_eq_true rfl) rfl rfl (Nat.zero_le _) (Nat.zero_le _) dX9_lowest_5 ?_
  refine r_if_ne X 19 dX9_lowest_8 rfl (fun c8 => ?_) (fun c8 => ?_)
  · replace hf := ifF hf c8
    refine r_iload_n X (x := x2) dX9_lowest_19 rfl ?_
    obtain ⟨u20, h20, hf⟩ := bdS hf
    refine r_callS0 X [.int x2] [] (K9_isTicks h20) lkX9_179 (by decide) (Nat.le_of_ble_eq_true rfl) rfl rfl (Nat.le_of_ble_eq_true rfl) rfl rfl (Nat.zero_le _) (Nat.zero_le _) dX9_lowest_20 ?_
    refine r_if_ne X 34 dX9_lowest_23 rfl (fun c23 => ?_) (fun c23 => ?_)
    · replace hf := ifF hf c23
      refine r_aload_n X (x := k.b + (0)) dX9_lowest_34 rfl ?_
      obtain ⟨u35, h35, hf⟩ := bdS hf
      refine r_callV0 X [] [] (K9_beginTrial h35) lkX9_139 clsX9 rfl _ o_main (by decide) (Nat.le_of_ble_eq_true rfl) rfl rfl (Nat.le_of_ble_eq_true rfl) rfl rfl (Nat.zero_le _) (Nat.zero_le _) dX9_lowest_35 ?_
      refine r_aload_n X (x := k.b + (0)) dX9_lowest_38 rfl ?_
      refine r_getfield X (v := .ref (k.b + (45 + 12 * (TP_tr tp).val))) clsX9 flX9_77 (Nat.le_of_ble_eq_true rfl) _ o_main rfl dX9_lowest_39 ?_
      refine r_getfield X (v := .ref (k.b + (45 + 12 * (TP_tr tp).val + 2))) clsX5 flX9_166 (Nat.le_of_ble_eq_true rfl) _ (o_st (TP_tr tp)) rfl dX9_lowest_42 ?_
      refine r_iload_n X (x := x1) dX9_lowest_45 rfl ?_
      obtain ⟨g46, hf⟩ := gdS hf
      refine r_iaload X (f := SS_pressure (u35 (TP_tr tp))) _ (a_st_pressure (TP_tr tp)) g46 dX9_lowest_46 ?_
      refine r_istore_n X [some (.ref (k.b + (0))), some (.int x1), some (.int x2), some (.int ((SS_pressure (u35 (TP_tr tp))) (ix x1))), none] dX9_lowest_47 (Nat.le_of_ble_eq_true rfl) rfl ?_
      refine r_iconst X (v := 0) dX9_lowest_48 rfl ?_
      refine r_istore X [some (.ref (k.b + (0))), some (.int x1), some (.int x2), some (.int ((SS_pressure (u35 (TP_tr tp))) (ix x1))), some (.int 0)] dX9_lowest_49 (Nat.le_of_ble_eq_true rfl) rfl ?_
      exact B9_lowest_B51 X hT hQ FU u35 x1 x2 ((SS_pressure (u35 (TP_tr tp))) (ix x1)) 0 hf
    · replace hf := ifT hf c23
      obtain rfl := Option.some.inj hf
      exact r_throw X hT ltX9_1 (by decide) hQ rfl rfl (Nat.le_of_ble_eq_true rfl) (Nat.le_of_ble_eq_true rfl) rfl ⟨(Nat.le_of_ble_eq_true rfl), (Nat.le_of_ble_eq_true rfl), (Nat.le_of_ble_eq_true rfl), (Nat.le_of_ble_eq_true rfl)⟩ dX9_lowest_26 dX9_lowest_29 dX9_lowest_30 dX9_lowest_33
  · replace hf := ifT hf c8
    obtain rfl := Option.some.inj hf
    exact r_throw X hT ltX9_2 (by decide) hQ rfl rfl (Nat.le_of_ble_eq_true rfl) (Nat.le_of_ble_eq_true rfl) rfl ⟨(Nat.le_of_ble_eq_true rfl), (Nat.le_of_ble_eq_true rfl), (Nat.le_of_ble_eq_true rfl), (Nat.le_of_ble_eq_true rfl)⟩ dX9_lowest_11 dX9_lowest_14 dX9_lowest_15 dX9_lowest_18
set_option maxRecDepth 100000 in
set_option maxHeartbeats 4000000 in
theorem K9_ticksTo {k : KT} {T : TT} {R : RR} {ly : Fin 2 → LL} {rc : RC} {hn : HN} {rp : RP} {tp : TP} {ee : EE} {st : Fin 12 → SS} {w : Nat → Int64} {aside : Nat → Int64} {thought : Nat → Int64} {fresh : Nat → Int64} {mu : MU} {th : Int32} {mp : MP} {mf : MF} {mh : MH} {mg : MG} {ou : Nat → Int64} {od : Nat → UInt64}  {x1 : Int32} {x2 : Int32} {r : (Int32 ⊕ Nat) × (Fin 12 → SS)} (hf : f9_ticksTo (ly (0 : Fin 2)) tp st x1 x2 = some r) : CX k strs yX9_ticksTo cX9_ticksTo 4 (some .int) (rmD 6 1 6) [.ref (k.b + (0)), .int x1, .int x2] (wAll k T R ly rc hn rp tp ee st w aside thought fresh mu th mp mf mh mg ou od) (oI r.1) (wAll k T R ly rc hn rp tp ee r.2 w aside thought fresh mu th mp mf mh mg ou od) := by
  refine CX.of (by decide) (Nat.le_of_ble_eq_true rfl) ?_
  intro z X hT hQ
  show VW k z 0 0 (wAll k T R ly rc hn rp tp ee st w aside thought fresh mu th mp mf mh mg ou od) 0 [some (.ref (k.b + (0))), some (.int x1), some (.int x2), none] []
  unfold f9_ticksTo at hf
  refine r_aload_n X (x := k.b + (0)) dX9_ticksTo_0 rfl ?_
  refine r_getfield X (v := .ref (k.b + (4 + 17 * (0 : Fin 2).val))) clsX9 flX9_28 (Nat.le_of_ble_eq_true rfl) _ o_main rfl dX9_ticksTo_1 ?_
  refine r_iload_n X (x := x1) dX9_ticksTo_4 rfl ?_
  obtain ⟨u5, h5, hf⟩ := bdS hf
  refine r_callV0 X [.int x1] [] (K1_hasChamber h5) lkX9_185 clsX1 rfl _ (o_lay (0 : Fin 2)) (by decide) (Nat.le_of_ble_eq_true rfl) rfl rfl (Nat.le_of_ble_eq_true rfl) rfl rfl (Nat.zero_le _) (Nat.zero_le _) dX9_ticksTo_5 ?_
  refine r_if_ne X 19 dX9_ticksTo_8 rfl (fun c8 => ?_) (fun c8 => ?_)
  · replace hf := ifF hf c8
    refine r_iload_n X (x := x2) dX9_ticksTo_19 rfl ?_
    obtain ⟨u20, h20, hf⟩ := bdS hf
    refine r_callS0 X [.int x2] [] (K9_isPressure h20) lkX9_188 (by decide) (Nat.le_of_ble_eq_true rfl) rfl rfl (Nat.le_of_ble_eq_true rfl) rfl rfl (Nat.zero_le _) (Nat.zero_le _) dX9_ticksTo_20 ?_
    refine r_if_ne X 34 dX9_ticksTo_23 rfl (fun c23 => ?_) (fun c23 => ?_)
    · replace hf := ifF hf c23
      refine r_aload_n X (x := k.b + (0)) dX9_ticksTo_34 rfl ?_
      obtain ⟨u35, h35, hf⟩ := bdS hf
      refine r_callV0 X [] [] (K9_beginTrial h35) lkX9_139 clsX9 rfl _ o_main (by decide) (Nat.le_of_ble_eq_true rfl) rfl rfl (Nat.le_of_ble_eq_true rfl) rfl rfl (Nat.zero_le _) (Nat.zero_le _) dX9_ticksTo_35 ?_
      refine r_aload_n X (x := k.b + (0)) dX9_ticksTo_38 rfl ?_
      refine r_getfield X (v := .ref (k.b + (45 + 12 * (TP_tr tp).val))) clsX9 flX9_77 (Nat.le_of_ble_eq_true rfl) _ o_main rfl dX9_ticksTo_39 ?_
      refine r_iload_n X (x := x1) dX9_ticksTo_42 rfl ?_
      refine r_iload_n X (x := x2) dX9_ticksTo_43 rfl ?_
      refine VW.foc (ws' := wAll k T R ly rc hn rp tp ee (updF u35 (TP_tr tp) (u35 (TP_tr tp))) w aside thought fresh mu th mp mf mh mg ou od) (by rw [updF_self]) ?_
      obtain ⟨u44, h44, hf⟩ := bdS hf
      refine r_callV0 X [.int x1, .int x2] [] (K5_passUntilAtMost h44) lkX9_191 clsX5 rfl _ (o_st1 (TP_tr tp) _) (by decide) (Nat.le_of_ble_eq_true rfl) rfl rfl (Nat.le_of_ble_eq_true rfl) rfl rfl (Nat.zero_le _) (Nat.zero_le _) dX9_ticksTo_44 ?_
      refine r_istore_n X [some (.ref (k.b + (0))), some (.int x1), some (.int x2), some (.int u44.1)] dX9_ticksTo_47 (Nat.le_of_ble_eq_true rfl) rfl ?_
      refine r_iload_n X (x := u44.1) dX9_ticksTo_48 rfl ?_
      refine r_iconst X (v := (-1)) dX9_ticksTo_49 rfl ?_
      refine r_icmp_ne X 61 dX9_ticksTo_50 rfl (fun c50 => ?_) (fun c50 => ?_)
      · replace hf := ifF hf c50
        refine r_iload_n X (x := u44.1) dX9_ticksTo_61 rfl ?_
        obtain rfl := Option.some.inj hf
        exact x_ireturn X hQ rfl rfl (Nat.le_of_ble_eq_true rfl) (Nat.le_of_ble_eq_true rfl) dX9_ticksTo_62
      · replace hf := ifT hf c50
        obtain rfl := Option.some.inj hf
        exact r_throw X hT ltX9_3 (by decide) hQ rfl rfl (Nat.le_of_ble_eq_true rfl) (Nat.le_of_ble_eq_true rfl) rfl ⟨(Nat.le_of_ble_eq_true rfl), (Nat.le_of_ble_eq_true rfl), (Nat.le_of_ble_eq_true rfl), (Nat.le_of_ble_eq_true rfl)⟩ dX9_ticksTo_53 dX9_ticksTo_56 dX9_ticksTo_57 dX9_ticksTo_60
    · replace hf := ifT hf c23
      obtain rfl := Option.some.inj hf
      exact r_throw X hT ltX9_1 (by decide) hQ rfl rfl (Nat.le_of_ble_eq_true rfl) (Nat.le_of_ble_eq_true rfl) rfl ⟨(Nat.le_of_ble_eq_true rfl), (Nat.le_of_ble_eq_true rfl), (Nat.le_of_ble_eq_true rfl), (Nat.le_of_ble_eq_true rfl)⟩ dX9_ticksTo_26 dX9_ticksTo_29 dX9_ticksTo_30 dX9_ticksTo_33
  · replace hf := ifT hf c8
    obtain rfl := Option.some.inj hf
    exact r_throw X hT ltX9_2 (by decide) hQ rfl rfl (Nat.le_of_ble_eq_true rfl) (Nat.le_of_ble_eq_true rfl) rfl ⟨(Nat.le_of_ble_eq_true rfl), (Nat.le_of_ble_eq_true rfl), (Nat.le_of_ble_eq_true rfl), (Nat.le_of_ble_eq_true rfl)⟩ dX9_ticksTo_11 dX9_ticksTo_14 dX9_ticksTo_15 dX9_ticksTo_18
set_option maxRecDepth 100000 in
set_option maxHeartbeats 4000000 in
theorem K9_tripsIn {k : KT} {T : TT} {R : RR} {ly : Fin 2 → LL} {rc : RC} {hn : HN} {rp : RP} {tp : TP} {ee : EE} {st : Fin 12 → SS} {w : Nat → Int64} {aside : Nat → Int64} {thought : Nat → Int64} {fresh : Nat → Int64} {mu : MU} {th : Int32} {mp : MP} {mf : MF} {mh : MH} {mg : MG} {ou : Nat → Int64} {od : Nat → UInt64}  {x1 : Int32} {r : (Int32 ⊕ Nat) × (Fin 12 → SS)} (hf : f9_tripsIn (ly (0 : Fin 2)) tp st x1 = some r) : CX k strs yX9_tripsIn cX9_tripsIn 2 (some .int) (rmD 6 1 6) [.ref (k.b + (0)), .int x1] (wAll k T R ly rc hn rp tp ee st w aside thought fresh mu th mp mf mh mg ou od) (oI r.1) (wAll k T R ly rc hn rp tp ee r.2 w aside thought fresh mu th mp mf mh mg ou od) := by
  refine CX.of (by decide) (Nat.le_of_ble_eq_true rfl) ?_
  intro z X hT hQ
  show VW k z 0 0 (wAll k T R ly rc hn rp tp ee st w aside thought fresh mu th mp mf mh mg ou od) 0 [some (.ref (k.b + (0))), some (.int x1)] []
  unfold f9_tripsIn at hf
  refine r_iload_n X (x := x1) dX9_tripsIn_0 rfl ?_
  obtain ⟨u1, h1, hf⟩ := bdS hf
  refine r_callS0 X [.int x1] [] (K9_isTicks h1) lkX9_179 (by decide) (Nat.le_of_ble_eq_true rfl) rfl rfl (Nat.le_of_ble_eq_true rfl) rfl rfl (Nat.zero_le _) (Nat.zero_le _) dX9_tripsIn_1 ?_
  refine r_if_ne X 15 dX9_tripsIn_4 rfl (fun c4 => ?_) (fun c4 => ?_)
  · replace hf := ifF hf c4
    refine r_aload_n X (x := k.b + (0)) dX9_tripsIn_15 rfl ?_
    obtain ⟨u16, h16, hf⟩ := bdS hf
    refine r_callV0 X [] [] (K9_beginTrial h16) lkX9_139 clsX9 rfl _ o_main (by decide) (Nat.le_of_ble_eq_true rfl) rfl rfl (Nat.le_of_ble_eq_true rfl) rfl rfl (Nat.zero_le _) (Nat.zero_le _) dX9_tripsIn_16 ?_
    refine r_aload_n X (x := k.b + (0)) dX9_tripsIn_19 rfl ?_
    refine r_getfield X (v := .ref (k.b + (45 + 12 * (TP_tr tp).val))) clsX9 flX9_77 (Nat.le_of_ble_eq_true rfl) _ o_main rfl dX9_tripsIn_20 ?_
    refine r_iload_n X (x := x1) dX9_tripsIn_23 rfl ?_
    refine VW.foc (ws' := wAll k T R ly rc hn rp tp ee (updF u16 (TP_tr tp) (u16 (TP_tr tp))) w aside thought fresh mu th mp mf mh mg ou od) (by rw [updF_self]) ?_
    obtain ⟨u24, h24, hf⟩ := bdS hf
    refine r_callV0 X [.int x1] [] (K5_passTicks h24) lkX9_182 clsX5 rfl _ (o_st1 (TP_tr tp) _) (by decide) (Nat.le_of_ble_eq_true rfl) rfl rfl (Nat.le_of_ble_eq_true rfl) rfl rfl (Nat.zero_le _) (Nat.zero_le _) dX9_tripsIn_24 ?_
    obtain rfl := Option.some.inj hf
    exact x_ireturn X hQ rfl rfl (Nat.le_of_ble_eq_true rfl) (Nat.le_of_ble_eq_true rfl) dX9_tripsIn_27
  · replace hf := ifT hf c4
    obtain rfl := Option.some.inj hf
    exact r_throw X hT ltX9_1 (by decide) hQ rfl rfl (Nat.le_of_ble_eq_true rfl) (Nat.le_of_ble_eq_true rfl) rfl ⟨(Nat.le_of_ble_eq_true rfl), (Nat.le_of_ble_eq_true rfl), (Nat.le_of_ble_eq_true rfl), (Nat.le_of_ble_eq_true rfl)⟩ dX9_tripsIn_7 dX9_tripsIn_10 dX9_tripsIn_11 dX9_tripsIn_14
set_option maxRecDepth 100000 in
set_option maxHeartbeats 4000000 in
theorem B9_meanPressure_B43 {k : KT} {z : ZT} {T : TT} {R : RR} {ly : Fin 2 → LL} {rc : RC} {hn : HN} {rp : RP} {tp : TP} {ee : EE} {w : Nat → Int64} {aside : Nat → Int64} {thought : Nat → Int64} {fresh : Nat → Int64} {mu : MU} {th : Int32} {mp : MP} {mf : MF} {mh : MH} {mg : MG} {ou : Nat → Int64} {od : Nat → UInt64} {r : (UInt64 ⊕ Nat) × (Fin 12 → SS)} (X : XX k strs z RX9 cX9_meanPressure 6 (some .double) (rmD 6 1 6)) (hT : ∀ x ∈ (zC z).exceptionTable.toList, False) (hQ : zQ z = vx_MQ (zB z) (QXof k (oD r.1) (wAll k T R ly rc hn rp tp ee r.2 w aside thought fresh mu th mp mf mh mg ou od)) (XCof k (oD r.1) (wAll k T R ly rc hn rp tp ee r.2 w aside thought fresh mu th mp mf mh mg ou od)) (zA z) (zS z) 1 6 (kA k)) : ∀ (fu : Nat) (st : Fin 12 → SS) (x1 : Int32) (x2 : Int32) (x3 : Int64) (x5 : Int32), f9_meanPressure_B43 (ly (0 : Fin 2)) tp fu st x1 x2 x3 x5 = some r → VW k z 0 0 (wAll k T R ly rc hn rp tp ee st w aside thought fresh mu th mp mf mh mg ou od) 43 [some (.ref (k.b + (0))), some (.int x1), some (.int x2), some (.long x3), none, some (.int x5)] [] := by
  intro fu
  induction fu with
  | zero =>
    intro st x1 x2 x3 x5 hf
    rw [f9_meanPressure_B43] at hf
    cases hf
  | succ fu ih =>
    intro st x1 x2 x3 x5 hf
    rw [f9_meanPressure_B43] at hf
    refine r_iload X (x := x5) dX9_meanPressure_43 rfl ?_
    refine r_iload_n X (x := x2) dX9_meanPressure_45 rfl ?_
    refine r_icmp_ge X 76 dX9_meanPressure_46 rfl (fun c46 => ?_) (fun c46 => ?_)
    · replace hf := ifT hf c46
      refine r_lload_n X (x := x3) dX9_meanPressure_76 rfl ?_
      refine r_l2d X dX9_meanPressure_77 ?_
      refine r_iload_n X (x := x2) dX9_meanPressure_78 rfl ?_
      refine r_i2d X dX9_meanPressure_79 ?_
      obtain ⟨g80n, hf⟩ := gdS hf
      refine r_ddiv X dX9_meanPressure_80 (nn_of g80n) ?_
      obtain rfl := Option.some.inj hf
      exact x_dreturn X hQ rfl rfl (Nat.le_of_ble_eq_true rfl) (Nat.le_of_ble_eq_true rfl) dX9_meanPressure_81
    · replace hf := ifF hf c46
      refine r_aload_n X (x := k.b + (0)) dX9_meanPressure_49 rfl ?_
      refine r_getfield X (v := .ref (k.b + (45 + 12 * (TP_tr tp).val))) clsX9 flX9_77 (Nat.le_of_ble_eq_true rfl) _ o_main rfl dX9_meanPressure_50 ?_
      refine VW.foc (ws' := wAll k T R ly rc hn rp tp ee (updF st (TP_tr tp) (st (TP_tr tp))) w aside thought fresh mu th mp mf mh mg ou od) (by rw [updF_self]) ?_
      obtain ⟨u53, h53, hf⟩ := bdS hf
      refine r_callV0 X [] [] (K5_tick h53) lkX9_335 clsX5 rfl _ (o_st1 (TP_tr tp) _) (by decide) (Nat.le_of_ble_eq_true rfl) rfl rfl (Nat.le_of_ble_eq_true rfl) rfl rfl (Nat.zero_le _) (Nat.zero_le _) dX9_meanPressure_53 ?_
      refine r_pop X dX9_meanPressure_56 rfl ?_
      refine r_lload_n X (x := x3) dX9_meanPressure_57 rfl ?_
      refine r_aload_n X (x := k.b + (0)) dX9_meanPressure_58 rfl ?_
      refine r_getfield X (v := .ref (k.b + (45 + 12 * (TP_tr tp).val))) clsX9 flX9_77 (Nat.le_of_ble_eq_true rfl) _ o_main rfl dX9_meanPressure_59 ?_
      refine r_getfield X (v := .ref (k.b + (45 + 12 * (TP_tr tp).val + 2))) clsX5 flX9_166 (Nat.le_of_ble_eq_true rfl) _ (o_st1 (TP_tr tp) _) rfl dX9_meanPressure_62 ?_
      refine r_iload_n X (x := x1) dX9_meanPressure_65 rfl ?_
      obtain ⟨g66, hf⟩ := gdS hf
      refine r_iaload X (f := SS_pressure u53.2) _ (a_st1_pressure (TP_tr tp) _) g66 dX9_meanPressure_66 ?_
      refine r_i2l X dX9_meanPressure_67 ?_
      refine r_ladd X dX9_meanPressure_68 ?_
      refine r_lstore_n X [some (.ref (k.b + (0))), some (.int x1), some (.int x2), some (.long (x3 + (((SS_pressure u53.2) (ix x1)).toInt64))), none, some (.int x5)] dX9_meanPressure_69 (Nat.le_of_ble_eq_true rfl) rfl ?_
      refine r_iinc X (x := x5) (v := x5 + 1) [some (.ref (k.b + (0))), some (.int x1), some (.int x2), some (.long (x3 + (((SS_pressure u53.2) (ix x1)).toInt64))), none, some (.int (x5 + 1))] dX9_meanPressure_70 rfl rfl rfl ?_
      refine r_goto X 43 dX9_meanPressure_73 rfl ?_
      exact ih (updF st (TP_tr tp) u53.2) x1 x2 (x3 + (((SS_pressure u53.2) (ix x1)).toInt64)) (x5 + 1) hf
set_option maxRecDepth 100000 in
set_option maxHeartbeats 4000000 in
theorem K9_meanPressure {k : KT} {T : TT} {R : RR} {ly : Fin 2 → LL} {rc : RC} {hn : HN} {rp : RP} {tp : TP} {ee : EE} {st : Fin 12 → SS} {w : Nat → Int64} {aside : Nat → Int64} {thought : Nat → Int64} {fresh : Nat → Int64} {mu : MU} {th : Int32} {mp : MP} {mf : MF} {mh : MH} {mg : MG} {ou : Nat → Int64} {od : Nat → UInt64}  {x1 : Int32} {x2 : Int32} {r : (UInt64 ⊕ Nat) × (Fin 12 → SS)} (hf : f9_meanPressure (ly (0 : Fin 2)) tp st x1 x2 = some r) : CX k strs yX9_meanPressure cX9_meanPressure 6 (some .double) (rmD 6 1 6) [.ref (k.b + (0)), .int x1, .int x2] (wAll k T R ly rc hn rp tp ee st w aside thought fresh mu th mp mf mh mg ou od) (oD r.1) (wAll k T R ly rc hn rp tp ee r.2 w aside thought fresh mu th mp mf mh mg ou od) := by
  refine CX.of (by decide) (Nat.le_of_ble_eq_true rfl) ?_
  intro z X hT hQ
  show VW k z 0 0 (wAll k T R ly rc hn rp tp ee st w aside thought fresh mu th mp mf mh mg ou od) 0 [some (.ref (k.b + (0))), some (.int x1), some (.int x2), none, none, none] []
  unfold f9_meanPressure at hf
  refine r_aload_n X (x := k.b + (0)) dX9_meanPressure_0 rfl ?_
  refine r_getfield X (v := .ref (k.b + (4 + 17 * (0 : Fin 2).val))) clsX9 flX9_28 (Nat.le_of_ble_eq_true rfl) _ o_main rfl dX9_meanPressure_1 ?_
  refine r_iload_n X (x := x1) dX9_meanPressure_4 rfl ?_
  obtain ⟨u5, h5, hf⟩ := bdS hf
  refine r_callV0 X [.int x1] [] (K1_hasChamber h5) lkX9_185 clsX1 rfl _ (o_lay (0 : Fin 2)) (by decide) (Nat.le_of_ble_eq_true rfl) rfl rfl (Nat.le_of_ble_eq_true rfl) rfl rfl (Nat.zero_le _) (Nat.zero_le _) dX9_meanPressure_5 ?_
  refine r_if_ne X 19 dX9_meanPressure_8 rfl (fun c8 => ?_) (fun c8 => ?_)
  · replace hf := ifF hf c8
    refine r_iload_n X (x := x2) dX9_meanPressure_19 rfl ?_
    obtain ⟨u20, h20, hf⟩ := bdS hf
    refine r_callS0 X [.int x2] [] (K9_isTicks h20) lkX9_179 (by decide) (Nat.le_of_ble_eq_true rfl) rfl rfl (Nat.le_of_ble_eq_true rfl) rfl rfl (Nat.zero_le _) (Nat.zero_le _) dX9_meanPressure_20 ?_
    refine r_if_ne X 34 dX9_meanPressure_23 rfl (fun c23 => ?_) (fun c23 => ?_)
    · replace hf := ifF hf c23
      refine r_aload_n X (x := k.b + (0)) dX9_meanPressure_34 rfl ?_
      obtain ⟨u35, h35, hf⟩ := bdS hf
      refine r_callV0 X [] [] (K9_beginTrial h35) lkX9_139 clsX9 rfl _ o_main (by decide) (Nat.le_of_ble_eq_true rfl) rfl rfl (Nat.le_of_ble_eq_true rfl) rfl rfl (Nat.zero_le _) (Nat.zero_le _) dX9_meanPressure_35 ?_
      refine r_lconst X (v := 0) dX9_meanPressure_38 rfl ?_
      refine r_lstore_n X [some (.ref (k.b + (0))), some (.int x1), some (.int x2), some (.long 0), none, none] dX9_meanPressure_39 (Nat.le_of_ble_eq_true rfl) rfl ?_
      refine r_iconst X (v := 0) dX9_meanPressure_40 rfl ?_
      refine r_istore X [some (.ref (k.b + (0))), some (.int x1), some (.int x2), some (.long 0), none, some (.int 0)] dX9_meanPressure_41 (Nat.le_of_ble_eq_true rfl) rfl ?_
      exact B9_meanPressure_B43 X hT hQ FU u35 x1 x2 0 0 hf
    · replace hf := ifT hf c23
      obtain rfl := Option.some.inj hf
      exact r_throw X hT ltX9_1 (by decide) hQ rfl rfl (Nat.le_of_ble_eq_true rfl) (Nat.le_of_ble_eq_true rfl) rfl ⟨(Nat.le_of_ble_eq_true rfl), (Nat.le_of_ble_eq_true rfl), (Nat.le_of_ble_eq_true rfl), (Nat.le_of_ble_eq_true rfl)⟩ dX9_meanPressure_26 dX9_meanPressure_29 dX9_meanPressure_30 dX9_meanPressure_33
  · replace hf := ifT hf c8
    obtain rfl := Option.some.inj hf
    exact r_throw X hT ltX9_2 (by decide) hQ rfl rfl (Nat.le_of_ble_eq_true rfl) (Nat.le_of_ble_eq_true rfl) rfl ⟨(Nat.le_of_ble_eq_true rfl), (Nat.le_of_ble_eq_true rfl), (Nat.le_of_ble_eq_true rfl), (Nat.le_of_ble_eq_true rfl)⟩ dX9_meanPressure_11 dX9_meanPressure_14 dX9_meanPressure_15 dX9_meanPressure_18
set_option maxRecDepth 100000 in
set_option maxHeartbeats 4000000 in
theorem B9_bestPump_B110 {k : KT} {z : ZT} {T : TT} {R : RR} {ly : Fin 2 → LL} {rc : RC} {hn : HN} {rp : RP} {tp : TP} {ee : EE} {w : Nat → Int64} {aside : Nat → Int64} {thought : Nat → Int64} {fresh : Nat → Int64} {mu : MU} {th : Int32} {mp : MP} {mf : MF} {mh : MH} {mg : MG} {ou : Nat → Int64} {od : Nat → UInt64} {r : (Int32 ⊕ Nat) × (Fin 12 → SS)} (X : XX k strs z RX9 cX9_bestPump 6 (some .int) (rmD 6 1 6)) (hT : ∀ x ∈ (zC z).exceptionTable.toList, False) (hQ : zQ z = vx_MQ (zB z) (QXof k (oI r.1) (wAll k T R ly rc hn rp tp ee r.2 w aside thought fresh mu th mp mf mh mg ou od)) (XCof k (oI r.1) (wAll k T R ly rc hn rp tp ee r.2 w aside thought fresh mu th mp mf mh mg ou od)) (zA z) (zS z) 1 6 (kA k)) (rec : (Fin 12 → SS) → Int32 → Int32 → Int32 → Int32 → Int32 → Option ((Int32 ⊕ Nat) × (Fin 12 → SS))) (hrec : ∀ (st : Fin 12 → SS) (x1 : Int32) (x2 : Int32) (x3 : Int32) (x4 : Int32) (x5 : Int32), rec st x1 x2 x3 x4 x5 = some r → VW k z 0 0 (wAll k T R ly rc hn rp tp ee st w aside thought fresh mu th mp mf mh mg ou od) 42 [some (.ref (k.b + (0))), some (.int x1), some (.int x2), some (.int x3), some (.int x4), some (.int x5)] []) (st : Fin 12 → SS) (x1 : Int32) (x2 : Int32) (x5 : Int32) (hf : f9_bestPump_B110 (ly (0 : Fin 2)) tp rec st x1 x2 x5 = some r) : VW k z 0 0 (wAll k T R ly rc hn rp tp ee st w aside thought fresh mu th mp mf mh mg ou od) 110 [some (.ref (k.b + (0))), some (.int x1), some (.int x2), none, none, some (.int x5)] [] := by
  unfold f9_bestPump_B110 at hf
  refine r_iload X (x := x5) dX9_bestPump_110 rfl ?_
  refine r_istore_n X [some (.ref (k.b + (0))), some (.int x1), some (.int x2), some (.int x5), none, some (.int x5)] dX9_bestPump_112 (Nat.le_of_ble_eq_true rfl) rfl ?_
  refine r_aload_n X (x := k.b + (0)) dX9_bestPump_113 rfl ?_
  refine r_getfield X (v := .ref (k.b + (45 + 12 * (TP_tr tp).val))) clsX9 flX9_77 (Nat.le_of_ble_eq_true rfl) _ o_main rfl dX9_bestPump_114 ?_
  refine r_getfield X (v := .ref (k.b + (45 + 12 * (TP_tr tp).val + 2))) clsX5 flX9_166 (Nat.le_of_ble_eq_true rfl) _ (o_st (TP_tr tp)) rfl dX9_bestPump_117 ?_
  refine r_iload_n X (x := x1) dX9_bestPump_120 rfl ?_
  obtain ⟨g121, hf⟩ := gdS hf
  refine r_iaload X (f := SS_pressure (st (TP_tr tp))) _ (a_st_pressure (TP_tr tp)) g121 dX9_bestPump_121 ?_
  refine r_istore X [some (.ref (k.b + (0))), some (.int x1), some (.int x2), some (.int x5), some (.int ((SS_pressure (st (TP_tr tp))) (ix x1))), some (.int x5)] dX9_bestPump_122 (Nat.le_of_ble_eq_true rfl) rfl ?_
  refine r_iinc X (x := x5) (v := x5 + 1) [some (.ref (k.b + (0))), some (.int x1), some (.int x2), some (.int x5), some (.int ((SS_pressure (st (TP_tr tp))) (ix x1))), some (.int (x5 + 1))] dX9_bestPump_124 rfl rfl rfl ?_
  refine r_goto X 42 dX9_bestPump_127 rfl ?_
  exact hrec st x1 x2 x5 ((SS_pressure (st (TP_tr tp))) (ix x1)) (x5 + 1) hf
set_option maxRecDepth 100000 in
set_option maxHeartbeats 4000000 in
theorem B9_bestPump_B42 {k : KT} {z : ZT} {T : TT} {R : RR} {ly : Fin 2 → LL} {rc : RC} {hn : HN} {rp : RP} {tp : TP} {ee : EE} {w : Nat → Int64} {aside : Nat → Int64} {thought : Nat → Int64} {fresh : Nat → Int64} {mu : MU} {th : Int32} {mp : MP} {mf : MF} {mh : MH} {mg : MG} {ou : Nat → Int64} {od : Nat → UInt64} {r : (Int32 ⊕ Nat) × (Fin 12 → SS)} (X : XX k strs z RX9 cX9_bestPump 6 (some .int) (rmD 6 1 6)) (hT : ∀ x ∈ (zC z).exceptionTable.toList, False) (hQ : zQ z = vx_MQ (zB z) (QXof k (oI r.1) (wAll k T R ly rc hn rp tp ee r.2 w aside thought fresh mu th mp mf mh mg ou od)) (XCof k (oI r.1) (wAll k T R ly rc hn rp tp ee r.2 w aside thought fresh mu th mp mf mh mg ou od)) (zA z) (zS z) 1 6 (kA k)) : ∀ (fu : Nat) (st : Fin 12 → SS) (x1 : Int32) (x2 : Int32) (x3 : Int32) (x4 : Int32) (x5 : Int32), f9_bestPump_B42 (ly (0 : Fin 2)) tp fu st x1 x2 x3 x4 x5 = some r → VW k z 0 0 (wAll k T R ly rc hn rp tp ee st w aside thought fresh mu th mp mf mh mg ou od) 42 [some (.ref (k.b + (0))), some (.int x1), some (.int x2), some (.int x3), some (.int x4), some (.int x5)] [] := by
  intro fu
  induction fu with
  | zero =>
    intro st x1 x2 x3 x4 x5 hf
    rw [f9_bestPump_B42] at hf
    cases hf
  | succ fu ih =>
    intro st x1 x2 x3 x4 x5 hf
    rw [f9_bestPump_B42] at hf
    refine r_iload X (x := x5) dX9_bestPump_42 rfl ?_
    refine r_aload_n X (x := k.b + (0)) dX9_bestPump_44 rfl ?_
    refine r_getfield X (v := .ref (k.b + (4 + 17 * (0 : Fin 2).val))) clsX9 flX9_28 (Nat.le_of_ble_eq_true rfl) _ o_main rfl dX9_bestPump_45 ?_
    refine r_getfield X (v := .int (LL_pumps (ly (0 : Fin 2)))) clsX1 flX9_220 (Nat.le_of_ble_eq_true rfl) _ (o_lay (0 : Fin 2)) rfl dX9_bestPump_48 ?_
    refine r_icmp_ge X 130 dX9_bestPump_51 rfl (fun c51 => ?_) (fun c51 => ?_)
    · replace hf := ifT hf c51
      refine r_iload_n X (x := x3) dX9_bestPump_130 rfl ?_
      refine r_iconst X (v := (-1)) dX9_bestPump_131 rfl ?_
      refine r_icmp_ne X 143 dX9_bestPump_132 rfl (fun c132 => ?_) (fun c132 => ?_)
      · replace hf := ifF hf c132
        refine r_iload_n X (x := x3) dX9_bestPump_143 rfl ?_
        obtain rfl := Option.some.inj hf
        exact x_ireturn X hQ rfl rfl (Nat.le_of_ble_eq_true rfl) (Nat.le_of_ble_eq_true rfl) dX9_bestPump_144
      · replace hf := ifT hf c132
        obtain rfl := Option.some.inj hf
        exact r_throw X hT ltX9_3 (by decide) hQ rfl rfl (Nat.le_of_ble_eq_true rfl) (Nat.le_of_ble_eq_true rfl) rfl ⟨(Nat.le_of_ble_eq_true rfl), (Nat.le_of_ble_eq_true rfl), (Nat.le_of_ble_eq_true rfl), (Nat.le_of_ble_eq_true rfl)⟩ dX9_bestPump_135 dX9_bestPump_138 dX9_bestPump_139 dX9_bestPump_142
    · replace hf := ifF hf c51
      refine r_aload_n X (x := k.b + (0)) dX9_bestPump_54 rfl ?_
      refine r_getfield X (v := .ref (k.b + (45 + 12 * (TP_pr tp).val))) clsX9 flX9_73 (Nat.le_of_ble_eq_true rfl) _ o_main rfl dX9_bestPump_55 ?_
      refine r_iload X (x := x5) dX9_bestPump_58 rfl ?_
      obtain ⟨u60, h60, hf⟩ := bdS hf
      refine r_callV0 X [.int x5] [] (CT_unS (W := fun zz => wAll k T R ly rc hn rp tp ee zz w aside thought fresh mu th mp mf mh mg ou od) (W2 := fun zz => wAll k T R ly rc hn rp tp ee zz w aside thought fresh mu th mp mf mh mg ou od) (st := st) (TP_pr tp) (K5_startingBar h60)) lkX9_160 clsX5 rfl _ (o_st (TP_pr tp)) (by decide) (Nat.le_of_ble_eq_true rfl) rfl rfl (Nat.le_of_ble_eq_true rfl) rfl rfl (Nat.zero_le _) (Nat.zero_le _) dX9_bestPump_60 ?_
      refine r_if_eq X 69 dX9_bestPump_63 rfl (fun c63 => ?_) (fun c63 => ?_)
      · replace hf := ifT hf c63
        refine r_aload_n X (x := k.b + (0)) dX9_bestPump_69 rfl ?_
        obtain ⟨u70, h70, hf⟩ := bdS hf
        refine r_callV0 X [] [] (K9_beginTrial h70) lkX9_139 clsX9 rfl _ o_main (by decide) (Nat.le_of_ble_eq_true rfl) rfl rfl (Nat.le_of_ble_eq_true rfl) rfl rfl (Nat.zero_le _) (Nat.zero_le _) dX9_bestPump_70 ?_
        refine r_aload_n X (x := k.b + (0)) dX9_bestPump_73 rfl ?_
        refine r_getfield X (v := .ref (k.b + (45 + 12 * (TP_tr tp).val))) clsX9 flX9_77 (Nat.le_of_ble_eq_true rfl) _ o_main rfl dX9_bestPump_74 ?_
        refine r_iload X (x := x5) dX9_bestPump_77 rfl ?_
        refine VW.foc (ws' := wAll k T R ly rc hn rp tp ee (updF u70 (TP_tr tp) (u70 (TP_tr tp))) w aside thought fresh mu th mp mf mh mg ou od) (by rw [updF_self]) ?_
        obtain ⟨u79, h79, hf⟩ := bdS hf
        refine r_callV0 X [.int x5] [] (K5_startPump h79) lkX9_163 clsX5 rfl _ (o_st1 (TP_tr tp) _) (by decide) (Nat.le_of_ble_eq_true rfl) rfl rfl (Nat.le_of_ble_eq_true rfl) rfl rfl (Nat.zero_le _) (Nat.zero_le _) dX9_bestPump_79 ?_
        refine r_aload_n X (x := k.b + (0)) dX9_bestPump_82 rfl ?_
        refine r_getfield X (v := .ref (k.b + (45 + 12 * (TP_tr tp).val))) clsX9 flX9_77 (Nat.le_of_ble_eq_true rfl) _ o_main rfl dX9_bestPump_83 ?_
        refine r_iload_n X (x := x2) dX9_bestPump_86 rfl ?_
        obtain ⟨u87, h87, hf⟩ := bdS hf
        refine r_callV0 X [.int x2] [] (K5_passTicks h87) lkX9_182 clsX5 rfl _ (o_st1 (TP_tr tp) _) (by decide) (Nat.le_of_ble_eq_true rfl) rfl rfl (Nat.le_of_ble_eq_true rfl) rfl rfl (Nat.zero_le _) (Nat.zero_le _) dX9_bestPump_87 ?_
        refine r_pop X dX9_bestPump_90 rfl ?_
        refine r_iload_n X (x := x3) dX9_bestPump_91 rfl ?_
        refine r_iconst X (v := (-1)) dX9_bestPump_92 rfl ?_
        refine r_icmp_eq X 110 dX9_bestPump_93 rfl (fun c93 => ?_) (fun c93 => ?_)
        · replace hf := ifT hf c93
          refine VW.msk [true, true, true, false, false, true] rfl (lo' := [some (.ref (k.b + (0))), some (.int x1), some (.int x2), none, none, some (.int x5)]) rfl ?_
          exact B9_bestPump_B110 X hT hQ (f9_bestPump_B42 (ly (0 : Fin 2)) tp fu) ih (updF u70 (TP_tr tp) u87.2) x1 x2 x5 hf
        · replace hf := ifF hf c93
          refine r_aload_n X (x := k.b + (0)) dX9_bestPump_96 rfl ?_
          refine r_getfield X (v := .ref (k.b + (45 + 12 * (TP_tr tp).val))) clsX9 flX9_77 (Nat.le_of_ble_eq_true rfl) _ o_main rfl dX9_bestPump_97 ?_
          refine r_getfield X (v := .ref (k.b + (45 + 12 * (TP_tr tp).val + 2))) clsX5 flX9_166 (Nat.le_of_ble_eq_true rfl) _ (o_st1 (TP_tr tp) _) rfl dX9_bestPump_100 ?_
          refine r_iload_n X (x := x1) dX9_bestPump_103 rfl ?_
          obtain ⟨g104, hf⟩ := gdS hf
          refine r_iaload X (f := SS_pressure u87.2) _ (a_st1_pressure (TP_tr tp) _) g104 dX9_bestPump_104 ?_
          refine r_iload X (x := x4) dX9_bestPump_105 rfl ?_
          refine r_icmp_ge X 124 dX9_bestPump_107 rfl (fun c107 => ?_) (fun c107 => ?_)
          · replace hf := ifT hf c107
            refine r_iinc X (x := x5) (v := x5 + 1) [some (.ref (k.b + (0))), some (.int x1), some (.int x2), some (.int x3), some (.int x4), some (.int (x5 + 1))] dX9_bestPump_124 rfl rfl rfl ?_
            refine r_goto X 42 dX9_bestPump_127 rfl ?_
            exact ih (updF u70 (TP_tr tp) u87.2) x1 x2 x3 x4 (x5 + 1) hf
          · replace hf := ifF hf c107
            refine VW.msk [true, true, true, false, false, true] rfl (lo' := [some (.ref (k.b + (0))), some (.int x1), some (.int x2), none, none, some (.int x5)]) rfl ?_
            exact B9_bestPump_B110 X hT hQ (f9_bestPump_B42 (ly (0 : Fin 2)) tp fu) ih (updF u70 (TP_tr tp) u87.2) x1 x2 x5 hf
      · replace hf := ifF hf c63
        refine r_goto X 124 dX9_bestPump_66 rfl ?_
        refine r_iinc X (x := x5) (v := x5 + 1) [some (.ref (k.b + (0))), some (.int x1), some (.int x2), some (.int x3), some (.int x4), some (.int (x5 + 1))] dX9_bestPump_124 rfl rfl rfl ?_
        refine r_goto X 42 dX9_bestPump_127 rfl ?_
        exact ih st x1 x2 x3 x4 (x5 + 1) hf
set_option maxRecDepth 100000 in
set_option maxHeartbeats 4000000 in
theorem K9_bestPump {k : KT} {T : TT} {R : RR} {ly : Fin 2 → LL} {rc : RC} {hn : HN} {rp : RP} {tp : TP} {ee : EE} {st : Fin 12 → SS} {w : Nat → Int64} {aside : Nat → Int64} {thought : Nat → Int64} {fresh : Nat → Int64} {mu : MU} {th : Int32} {mp : MP} {mf : MF} {mh : MH} {mg : MG} {ou : Nat → Int64} {od : Nat → UInt64}  {x1 : Int32} {x2 : Int32} {r : (Int32 ⊕ Nat) × (Fin 12 → SS)} (hf : f9_bestPump (ly (0 : Fin 2)) tp st x1 x2 = some r) : CX k strs yX9_bestPump cX9_bestPump 6 (some .int) (rmD 6 1 6) [.ref (k.b + (0)), .int x1, .int x2] (wAll k T R ly rc hn rp tp ee st w aside thought fresh mu th mp mf mh mg ou od) (oI r.1) (wAll k T R ly rc hn rp tp ee r.2 w aside thought fresh mu th mp mf mh mg ou od) := by
  refine CX.of (by decide) (Nat.le_of_ble_eq_true rfl) ?_
  intro z X hT hQ
  show VW k z 0 0 (wAll k T R ly rc hn rp tp ee st w aside thought fresh mu th mp mf mh mg ou od) 0 [some (.ref (k.b + (0))), some (.int x1), some (.int x2), none, none, none] []
  unfold f9_bestPump at hf
  refine r_aload_n X (x := k.b + (0)) dX9_bestPump_0 rfl ?_
  refine r_getfield X (v := .ref (k.b + (4 + 17 * (0 : Fin 2).val))) clsX9 flX9_28 (Nat.le_of_ble_eq_true rfl) _ o_main rfl dX9_bestPump_1 ?_
  refine r_iload_n X (x := x1) dX9_bestPump_4 rfl ?_
  obtain ⟨u5, h5, hf⟩ := bdS hf
  refine r_callV0 X [.int x1] [] (K1_hasChamber h5) lkX9_185 clsX1 rfl _ (o_lay (0 : Fin 2)) (by decide) (Nat.le_of_ble_eq_true rfl) rfl rfl (Nat.le_of_ble_eq_true rfl) rfl rfl (Nat.zero_le _) (Nat.zero_le _) dX9_bestPump_5 ?_
  refine r_if_ne X 19 dX9_bestPump_8 rfl (fun c8 => ?_) (fun c8 => ?_)
  · replace hf := ifF hf c8
    refine r_iload_n X (x := x2) dX9_bestPump_19 rfl ?_
    obtain ⟨u20, h20, hf⟩ := bdS hf
    refine r_callS0 X [.int x2] [] (K9_isTicks h20) lkX9_179 (by decide) (Nat.le_of_ble_eq_true rfl) rfl rfl (Nat.le_of_ble_eq_true rfl) rfl rfl (Nat.zero_le _) (Nat.zero_le _) dX9_bestPump_20 ?_
    refine r_if_ne X 34 dX9_bestPump_23 rfl (fun c23 => ?_) (fun c23 => ?_)
    · replace hf := ifF hf c23
      refine r_iconst X (v := (-1)) dX9_bestPump_34 rfl ?_
      refine r_istore_n X [some (.ref (k.b + (0))), some (.int x1), some (.int x2), some (.int (-1)), none, none] dX9_bestPump_35 (Nat.le_of_ble_eq_true rfl) rfl ?_
      refine r_iconst X (v := 0) dX9_bestPump_36 rfl ?_
      refine r_istore X [some (.ref (k.b + (0))), some (.int x1), some (.int x2), some (.int (-1)), some (.int 0), none] dX9_bestPump_37 (Nat.le_of_ble_eq_true rfl) rfl ?_
      refine r_iconst X (v := 0) dX9_bestPump_39 rfl ?_
      refine r_istore X [some (.ref (k.b + (0))), some (.int x1), some (.int x2), some (.int (-1)), some (.int 0), some (.int 0)] dX9_bestPump_40 (Nat.le_of_ble_eq_true rfl) rfl ?_
      exact B9_bestPump_B42 X hT hQ FU st x1 x2 (-1) 0 0 hf
    · replace hf := ifT hf c23
      obtain rfl := Option.some.inj hf
      exact r_throw X hT ltX9_1 (by decide) hQ rfl rfl (Nat.le_of_ble_eq_true rfl) (Nat.le_of_ble_eq_true rfl) rfl ⟨(Nat.le_of_ble_eq_true rfl), (Nat.le_of_ble_eq_true rfl), (Nat.le_of_ble_eq_true rfl), (Nat.le_of_ble_eq_true rfl)⟩ dX9_bestPump_26 dX9_bestPump_29 dX9_bestPump_30 dX9_bestPump_33
  · replace hf := ifT hf c8
    obtain rfl := Option.some.inj hf
    exact r_throw X hT ltX9_2 (by decide) hQ rfl rfl (Nat.le_of_ble_eq_true rfl) (Nat.le_of_ble_eq_true rfl) rfl ⟨(Nat.le_of_ble_eq_true rfl), (Nat.le_of_ble_eq_true rfl), (Nat.le_of_ble_eq_true rfl), (Nat.le_of_ble_eq_true rfl)⟩ dX9_bestPump_11 dX9_bestPump_14 dX9_bestPump_15 dX9_bestPump_18
