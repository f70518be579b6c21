/-! the methods do it -/
set_option maxRecDepth 100000 in
set_option maxHeartbeats 4000000 in
theorem K10_chamberHere {k : KT} {T : TT} {R : RR} {ly : Fin 2 → LL} {rc : RC} {hn : HN} {rp : RP} {tp : TP} {ee : EE} {st : Fin 12 → SS} {w : Nat → Int64} {aside : Nat → Int64} {thought : Nat → Int64} {fresh : Nat → Int64} {mu : MU} {th : Int32} {mp : MP} {mf : MF} {mh : MH} {mg : MG} {ou : Nat → Int64} {od : Nat → UInt64}   {r : Int32 × (MP)} (hf : f10_chamberHere fresh mp  = some r) : CT k strs yX10_chamberHere cX10_chamberHere 1 (some .int) (rmD 5 0 0) 0 0 [.ref (k.b + (189))] (wAll k T R ly rc hn rp tp ee st w aside thought fresh mu th mp mf mh mg ou od) (some (.int r.1)) (wAll k T R ly rc hn rp tp ee st w aside thought fresh mu th r.2 mf mh mg ou od) := by
  refine CT.of (by decide) (Nat.le_of_ble_eq_true rfl) ?_
  intro z X hQ
  show VW k z 0 0 (wAll k T R ly rc hn rp tp ee st w aside thought fresh mu th mp mf mh mg ou od) 0 [some (.ref (k.b + (189)))] []
  unfold f10_chamberHere at hf
  refine r_aload_n X (x := k.b + (189)) dX10_chamberHere_0 rfl ?_
  refine r_lconst X (v := 0) dX10_chamberHere_1 rfl ?_
  refine r_aload_n X (x := k.b + (189)) dX10_chamberHere_2 rfl ?_
  refine r_getfield X (v := .ref (k.b + (193))) clsX10 flX10_19 (Nat.le_of_ble_eq_true rfl) _ o_model rfl dX10_chamberHere_3 ?_
  refine r_iconst X (v := 0) dX10_chamberHere_6 rfl ?_
  refine r_laload X (f := fresh) _ a_m_fresh (by decide) dX10_chamberHere_7 ?_
  refine r_lconst X (v := 1) dX10_chamberHere_8 rfl ?_
  refine r_lsub X dX10_chamberHere_9 ?_
  obtain ⟨u10, h10, hf⟩ := bdS hf
  refine r_callV0 X [.long 0, .long ((fresh (ix 0)) - 1)] [] (K10_number h10) lkX10_283 clsX10 rfl _ o_model (by decide) (Nat.le_of_ble_eq_true rfl) rfl rfl (Nat.le_of_ble_eq_true rfl) rfl rfl (Nat.zero_le _) (Nat.zero_le _) dX10_chamberHere_10 ?_
  obtain rfl := Option.some.inj hf
  exact r_ireturn X hQ rfl rfl (Nat.le_of_ble_eq_true rfl) (Nat.le_of_ble_eq_true rfl) dX10_chamberHere_13
set_option maxRecDepth 100000 in
set_option maxHeartbeats 4000000 in
theorem K10_otherHere {k : KT} {T : TT} {R : RR} {ly : Fin 2 → LL} {rc : RC} {hn : HN} {rp : RP} {tp : TP} {ee : EE} {st : Fin 12 → SS} {w : Nat → Int64} {aside : Nat → Int64} {thought : Nat → Int64} {fresh : Nat → Int64} {mu : MU} {th : Int32} {mp : MP} {mf : MF} {mh : MH} {mg : MG} {ou : Nat → Int64} {od : Nat → UInt64}  {x1 : Int32} {r : Int32 × (MP)} (hf : f10_otherHere fresh mp x1 = some r) : CT k strs yX10_otherHere cX10_otherHere 3 (some .int) (rmD 10 0 0) 0 0 [.ref (k.b + (189)), .int x1] (wAll k T R ly rc hn rp tp ee st w aside thought fresh mu th mp mf mh mg ou od) (some (.int r.1)) (wAll k T R ly rc hn rp tp ee st w aside thought fresh mu th r.2 mf mh mg ou od) := by
  refine CT.of (by decide) (Nat.le_of_ble_eq_true rfl) ?_
  intro z X hQ
  show VW k z 0 0 (wAll k T R ly rc hn rp tp ee st w aside thought fresh mu th mp mf mh mg ou od) 0 [some (.ref (k.b + (189))), some (.int x1), none] []
  unfold f10_otherHere at hf
  refine r_aload_n X (x := k.b + (189)) dX10_otherHere_0 rfl ?_
  refine r_getfield X (v := .int (MP_fault mp)) clsX10 flX10_255 (Nat.le_of_ble_eq_true rfl) _ o_model rfl dX10_otherHere_1 ?_
  refine r_if_le X 9 dX10_otherHere_4 rfl (fun c4 => ?_) (fun c4 => ?_)
  · replace hf := ifT hf c4
    refine r_aload_n X (x := k.b + (189)) dX10_otherHere_9 rfl ?_
    refine r_ldcwS X 21 rfl dX10_otherHere_10 ?_
    obtain ⟨u13, h13, hf⟩ := bdS hf
    refine r_callV0 X [.ref (k.sK 21)] [] (K10_isWord h13) lkX10_279 clsX10 rfl _ o_model (by decide) (Nat.le_of_ble_eq_true rfl) rfl rfl (Nat.le_of_ble_eq_true rfl) rfl rfl (Nat.zero_le _) (Nat.zero_le _) dX10_otherHere_13 ?_
    refine r_if_eq X 25 dX10_otherHere_16 rfl (fun c16 => ?_) (fun c16 => ?_)
    · replace hf := ifT hf c16
      refine r_aload_n X (x := k.b + (189)) dX10_otherHere_25 rfl ?_
      refine r_lconst X (v := 0) dX10_otherHere_26 rfl ?_
      refine r_aload_n X (x := k.b + (189)) dX10_otherHere_27 rfl ?_
      refine r_getfield X (v := .ref (k.b + (193))) clsX10 flX10_19 (Nat.le_of_ble_eq_true rfl) _ o_model rfl dX10_otherHere_28 ?_
      refine r_iconst X (v := 0) dX10_otherHere_31 rfl ?_
      refine r_laload X (f := fresh) _ a_m_fresh (by decide) dX10_otherHere_32 ?_
      refine r_lconst X (v := 1) dX10_otherHere_33 rfl ?_
      refine r_lsub X dX10_otherHere_34 ?_
      obtain ⟨u35, h35, hf⟩ := bdS hf
      refine r_callV0 X [.long 0, .long ((fresh (ix 0)) - 1)] [] (K10_see h35) lkX10_272 clsX10 rfl _ o_model (by decide) (Nat.le_of_ble_eq_true rfl) rfl rfl (Nat.le_of_ble_eq_true rfl) rfl rfl (Nat.zero_le _) (Nat.zero_le _) dX10_otherHere_35 ?_
      refine r_istore_n X [some (.ref (k.b + (189))), some (.int x1), some (.int u35.1)] dX10_otherHere_38 (Nat.le_of_ble_eq_true rfl) rfl ?_
      refine r_aload_n X (x := k.b + (189)) dX10_otherHere_39 rfl ?_
      refine r_getfield X (v := .int (MP_fault u35.2)) clsX10 flX10_255 (Nat.le_of_ble_eq_true rfl) _ o_model rfl dX10_otherHere_40 ?_
      refine r_if_ne X 56 dX10_otherHere_43 rfl (fun c43 => ?_) (fun c43 => ?_)
      · replace hf := ifF hf c43
        refine r_aload_n X (x := k.b + (189)) dX10_otherHere_56 rfl ?_
        obtain ⟨u57, h57, hf⟩ := bdS hf
        refine r_callV0 X [] [] (K10_goOn h57) lkX10_276 clsX10 rfl _ o_model (by decide) (Nat.le_of_ble_eq_true rfl) rfl rfl (Nat.le_of_ble_eq_true rfl) rfl rfl (Nat.zero_le _) (Nat.zero_le _) dX10_otherHere_57 ?_
        refine r_iload_n X (x := u35.1) dX10_otherHere_60 rfl ?_
        obtain rfl := Option.some.inj hf
        exact r_ireturn X hQ rfl rfl (Nat.le_of_ble_eq_true rfl) (Nat.le_of_ble_eq_true rfl) dX10_otherHere_61
      · replace hf := ifT hf c43
        refine r_iload_n X (x := u35.1) dX10_otherHere_46 rfl ?_
        refine r_iload_n X (x := x1) dX10_otherHere_47 rfl ?_
        refine r_icmp_ne X 56 dX10_otherHere_48 rfl (fun c48 => ?_) (fun c48 => ?_)
        · replace hf := ifF hf c48
          refine r_aload_n X (x := k.b + (189)) dX10_otherHere_56 rfl ?_
          obtain ⟨u57, h57, hf⟩ := bdS hf
          refine r_callV0 X [] [] (K10_goOn h57) lkX10_276 clsX10 rfl _ o_model (by decide) (Nat.le_of_ble_eq_true rfl) rfl rfl (Nat.le_of_ble_eq_true rfl) rfl rfl (Nat.zero_le _) (Nat.zero_le _) dX10_otherHere_57 ?_
          refine r_iload_n X (x := u35.1) dX10_otherHere_60 rfl ?_
          obtain rfl := Option.some.inj hf
          exact r_ireturn X hQ rfl rfl (Nat.le_of_ble_eq_true rfl) (Nat.le_of_ble_eq_true rfl) dX10_otherHere_61
        · replace hf := ifT hf c48
          refine r_aload_n X (x := k.b + (189)) dX10_otherHere_51 rfl ?_
          refine r_iconst X (v := 3) dX10_otherHere_52 rfl ?_
          obtain ⟨u53, h53, hf⟩ := bdS hf
          refine r_callV0 X [.int 3] [] (K10_wrong h53) lkX10_269 clsX10 rfl _ o_model (by decide) (Nat.le_of_ble_eq_true rfl) rfl rfl (Nat.le_of_ble_eq_true rfl) rfl rfl (Nat.zero_le _) (Nat.zero_le _) dX10_otherHere_53 ?_
          refine r_aload_n X (x := k.b + (189)) dX10_otherHere_56 rfl ?_
          obtain ⟨u57, h57, hf⟩ := bdS hf
          refine r_callV0 X [] [] (K10_goOn h57) lkX10_276 clsX10 rfl _ o_model (by decide) (Nat.le_of_ble_eq_true rfl) rfl rfl (Nat.le_of_ble_eq_true rfl) rfl rfl (Nat.zero_le _) (Nat.zero_le _) dX10_otherHere_57 ?_
          refine r_iload_n X (x := u35.1) dX10_otherHere_60 rfl ?_
          obtain rfl := Option.some.inj hf
          exact r_ireturn X hQ rfl rfl (Nat.le_of_ble_eq_true rfl) (Nat.le_of_ble_eq_true rfl) dX10_otherHere_61
    · replace hf := ifF hf c16
      refine r_aload_n X (x := k.b + (189)) dX10_otherHere_19 rfl ?_
      obtain ⟨u20, h20, hf⟩ := bdS hf
      refine r_callV0 X [] [] (K10_goOn h20) lkX10_276 clsX10 rfl _ o_model (by decide) (Nat.le_of_ble_eq_true rfl) rfl rfl (Nat.le_of_ble_eq_true rfl) rfl rfl (Nat.zero_le _) (Nat.zero_le _) dX10_otherHere_20 ?_
      refine r_iconst X (v := (-1)) dX10_otherHere_23 rfl ?_
      obtain rfl := Option.some.inj hf
      exact r_ireturn X hQ rfl rfl (Nat.le_of_ble_eq_true rfl) (Nat.le_of_ble_eq_true rfl) dX10_otherHere_24
  · replace hf := ifF hf c4
    refine r_iconst X (v := (-1)) dX10_otherHere_7 rfl ?_
    obtain rfl := Option.some.inj hf
    exact r_ireturn X hQ rfl rfl (Nat.le_of_ble_eq_true rfl) (Nat.le_of_ble_eq_true rfl) dX10_otherHere_8
set_option maxRecDepth 100000 in
set_option maxHeartbeats 4000000 in
theorem K10_readChamber {k : KT} {T : TT} {R : RR} {ly : Fin 2 → LL} {rc : RC} {hn : HN} {rp : RP} {tp : TP} {ee : EE} {st : Fin 12 → SS} {w : Nat → Int64} {aside : Nat → Int64} {thought : Nat → Int64} {fresh : Nat → Int64} {mu : MU} {th : Int32} {mp : MP} {mf : MF} {mh : MH} {mg : MG} {ou : Nat → Int64} {od : Nat → UInt64}   {r : (Nat → Int64) × (MP)} (hf : f10_readChamber  fresh mp  = some r) : CT k strs yX10_readChamber cX10_readChamber 5 none (rmD 11 0 0) 0 0 [.ref (k.b + (189))] (wAll k T R ly rc hn rp tp ee st w aside thought fresh mu th mp mf mh mg ou od) (none) (wAll k T R ly rc hn rp tp ee st w aside thought r.1 mu th r.2 mf mh mg ou od) := by
  refine CT.of (by decide) (Nat.le_of_ble_eq_true rfl) ?_
  intro z X hQ
  show VW k z 0 0 (wAll k T R ly rc hn rp tp ee st w aside thought fresh mu th mp mf mh mg ou od) 0 [some (.ref (k.b + (189))), none, none, none, none] []
  unfold f10_readChamber at hf
  refine r_aload_n X (x := k.b + (189)) dX10_readChamber_0 rfl ?_
  refine r_ldcwS X 18 rfl dX10_readChamber_1 ?_
  refine r_iconst X (v := 0) dX10_readChamber_4 rfl ?_
  refine r_bipush X (v := 8) dX10_readChamber_5 rfl ?_
  obtain ⟨u7, h7, hf⟩ := bdS hf
  refine r_callV0 X [.ref (k.sK 18), .int 0, .int 8] [] (K10_keyword h7) lkX10_290 clsX10 rfl _ o_model (by decide) (Nat.le_of_ble_eq_true rfl) rfl rfl (Nat.le_of_ble_eq_true rfl) rfl rfl (Nat.zero_le _) (Nat.zero_le _) dX10_readChamber_7 ?_
  refine r_aload_n X (x := k.b + (189)) dX10_readChamber_10 rfl ?_
  refine r_lconst X (v := 1) dX10_readChamber_11 rfl ?_
  refine r_ldc2 X (v := 999) coX10_45 dX10_readChamber_12 ?_
  obtain ⟨u15, h15, hf⟩ := bdS hf
  refine r_callV0 X [.long 1, .long 999] [] (K10_number h15) lkX10_283 clsX10 rfl _ o_model (by decide) (Nat.le_of_ble_eq_true rfl) rfl rfl (Nat.le_of_ble_eq_true rfl) rfl rfl (Nat.zero_le _) (Nat.zero_le _) dX10_readChamber_15 ?_
  refine r_istore_n X [some (.ref (k.b + (189))), some (.int u15.1), none, none, none] dX10_readChamber_18 (Nat.le_of_ble_eq_true rfl) rfl ?_
  refine r_aload_n X (x := k.b + (189)) dX10_readChamber_19 rfl ?_
  refine r_lconst X (v := 0) dX10_readChamber_20 rfl ?_
  refine r_ldc2 X (v := 9999) coX10_197 dX10_readChamber_21 ?_
  obtain ⟨u24, h24, hf⟩ := bdS hf
  refine r_callV0 X [.long 0, .long 9999] [] (K10_number h24) lkX10_283 clsX10 rfl _ o_model (by decide) (Nat.le_of_ble_eq_true rfl) rfl rfl (Nat.le_of_ble_eq_true rfl) rfl rfl (Nat.zero_le _) (Nat.zero_le _) dX10_readChamber_24 ?_
  refine r_istore_n X [some (.ref (k.b + (189))), some (.int u15.1), some (.int u24.1), none, none] dX10_readChamber_27 (Nat.le_of_ble_eq_true rfl) rfl ?_
  refine r_aload_n X (x := k.b + (189)) dX10_readChamber_28 rfl ?_
  refine r_lconst X (v := 0) dX10_readChamber_29 rfl ?_
  refine r_ldc2 X (v := 999) coX10_45 dX10_readChamber_30 ?_
  obtain ⟨u33, h33, hf⟩ := bdS hf
  refine r_callV0 X [.long 0, .long 999] [] (K10_number h33) lkX10_283 clsX10 rfl _ o_model (by decide) (Nat.le_of_ble_eq_true rfl) rfl rfl (Nat.le_of_ble_eq_true rfl) rfl rfl (Nat.zero_le _) (Nat.zero_le _) dX10_readChamber_33 ?_
  refine r_istore_n X [some (.ref (k.b + (189))), some (.int u15.1), some (.int u24.1), some (.int u33.1), none] dX10_readChamber_36 (Nat.le_of_ble_eq_true rfl) rfl ?_
  refine r_aload_n X (x := k.b + (189)) dX10_readChamber_37 rfl ?_
  refine r_ldcwS X 19 rfl dX10_readChamber_38 ?_
  obtain ⟨u41, h41, hf⟩ := bdS hf
  refine r_callV0 X [.ref (k.sK 19)] [] (K10_must h41) lkX10_296 clsX10 rfl _ o_model (by decide) (Nat.le_of_ble_eq_true rfl) rfl rfl (Nat.le_of_ble_eq_true rfl) rfl rfl (Nat.zero_le _) (Nat.zero_le _) dX10_readChamber_41 ?_
  refine r_aload_n X (x := k.b + (189)) dX10_readChamber_44 rfl ?_
  refine r_getfield X (v := .int (MP_fault u41)) clsX10 flX10_255 (Nat.le_of_ble_eq_true rfl) _ o_model rfl dX10_readChamber_45 ?_
  refine r_if_le X 52 dX10_readChamber_48 rfl (fun c48 => ?_) (fun c48 => ?_)
  · replace hf := ifT hf c48
    refine r_aload_n X (x := k.b + (189)) dX10_readChamber_52 rfl ?_
    refine r_getfield X (v := .ref (k.b + (193))) clsX10 flX10_19 (Nat.le_of_ble_eq_true rfl) _ o_model rfl dX10_readChamber_53 ?_
    refine r_iconst X (v := 0) dX10_readChamber_56 rfl ?_
    refine r_laload X (f := fresh) _ a_m_fresh (by decide) dX10_readChamber_57 ?_
    refine r_l2i X dX10_readChamber_58 ?_
    obtain ⟨u59, h59, hf⟩ := bdS hf
    refine r_callS0 X [.int ((fresh (ix 0)).toInt32)] [] (K10_chamberAt h59) lkX10_61 (by decide) (Nat.le_of_ble_eq_true rfl) rfl rfl (Nat.le_of_ble_eq_true rfl) rfl rfl (Nat.zero_le _) (Nat.zero_le _) dX10_readChamber_59 ?_
    refine r_istore X [some (.ref (k.b + (189))), some (.int u15.1), some (.int u24.1), some (.int u33.1), some (.int u59)] dX10_readChamber_62 (Nat.le_of_ble_eq_true rfl) rfl ?_
    refine r_aload_n X (x := k.b + (189)) dX10_readChamber_64 rfl ?_
    refine r_getfield X (v := .ref (k.b + (193))) clsX10 flX10_19 (Nat.le_of_ble_eq_true rfl) _ o_model rfl dX10_readChamber_65 ?_
    refine r_iload X (x := u59) dX10_readChamber_68 rfl ?_
    refine r_iconst X (v := 0) dX10_readChamber_70 rfl ?_
    refine r_iadd X dX10_readChamber_71 ?_
    refine r_iload_n X (x := u15.1) dX10_readChamber_72 rfl ?_
    refine r_i2l X dX10_readChamber_73 ?_
    obtain ⟨g74, hf⟩ := gdS hf
    refine r_lastore X (f := fresh) (ws1 := wAll k T R ly rc hn rp tp ee st w aside thought (vp_updL fresh (ix (u59 + 0)) u15.1.toInt64) mu th u41 mf mh mg ou od) _ a_m_fresh g74 (s_fresh (vp_updL fresh (ix (u59 + 0)) u15.1.toInt64)) dX10_readChamber_74 ?_
    refine r_aload_n X (x := k.b + (189)) dX10_readChamber_75 rfl ?_
    refine r_getfield X (v := .ref (k.b + (193))) clsX10 flX10_19 (Nat.le_of_ble_eq_true rfl) _ o_model rfl dX10_readChamber_76 ?_
    refine r_iload X (x := u59) dX10_readChamber_79 rfl ?_
    refine r_iconst X (v := 1) dX10_readChamber_81 rfl ?_
    refine r_iadd X dX10_readChamber_82 ?_
    refine r_iload_n X (x := u24.1) dX10_readChamber_83 rfl ?_
    refine r_i2l X dX10_readChamber_84 ?_
    obtain ⟨g85, hf⟩ := gdS hf
    refine r_lastore X (f := vp_updL fresh (ix (u59 + 0)) u15.1.toInt64) (ws1 := wAll k T R ly rc hn rp tp ee st w aside thought (vp_updL (vp_updL fresh (ix (u59 + 0)) u15.1.toInt64) (ix (u59 + 1)) u24.1.toInt64) mu th u41 mf mh mg ou od) _ a_m_fresh g85 (s_fresh (vp_updL (vp_updL fresh (ix (u59 + 0)) u15.1.toInt64) (ix (u59 + 1)) u24.1.toInt64)) dX10_readChamber_85 ?_
    refine r_aload_n X (x := k.b + (189)) dX10_readChamber_86 rfl ?_
    refine r_getfield X (v := .ref (k.b + (193))) clsX10 flX10_19 (Nat.le_of_ble_eq_true rfl) _ o_model rfl dX10_readChamber_87 ?_
    refine r_iload X (x := u59) dX10_readChamber_90 rfl ?_
    refine r_iconst X (v := 2) dX10_readChamber_92 rfl ?_
    refine r_iadd X dX10_readChamber_93 ?_
    refine r_iload_n X (x := u33.1) dX10_readChamber_94 rfl ?_
    refine r_i2l X dX10_readChamber_95 ?_
    obtain ⟨g96, hf⟩ := gdS hf
    refine r_lastore X (f := vp_updL (vp_updL fresh (ix (u59 + 0)) u15.1.toInt64) (ix (u59 + 1)) u24.1.toInt64) (ws1 := wAll k T R ly rc hn rp tp ee st w aside thought (vp_updL (vp_updL (vp_updL fresh (ix (u59 + 0)) u15.1.toInt64) (ix (u59 + 1)) u24.1.toInt64) (ix (u59 + 2)) u33.1.toInt64) mu th u41 mf mh mg ou od) _ a_m_fresh g96 (s_fresh (vp_updL (vp_updL (vp_updL fresh (ix (u59 + 0)) u15.1.toInt64) (ix (u59 + 1)) u24.1.toInt64) (ix (u59 + 2)) u33.1.toInt64)) dX10_readChamber_96 ?_
    refine r_aload_n X (x := k.b + (189)) dX10_readChamber_97 rfl ?_
    refine r_getfield X (v := .ref (k.b + (193))) clsX10 flX10_19 (Nat.le_of_ble_eq_true rfl) _ o_model rfl dX10_readChamber_98 ?_
    refine r_iload X (x := u59) dX10_readChamber_101 rfl ?_
    refine r_iconst X (v := 3) dX10_readChamber_103 rfl ?_
    refine r_iadd X dX10_readChamber_104 ?_
    refine r_ldc2 X (v := 1000000) coX10_43 dX10_readChamber_105 ?_
    refine r_iload_n X (x := u15.1) dX10_readChamber_108 rfl ?_
    refine r_i2l X dX10_readChamber_109 ?_
    refine r_lmul X dX10_readChamber_110 ?_
    obtain ⟨g111, hf⟩ := gdS hf
    refine r_lastore X (f := vp_updL (vp_updL (vp_updL fresh (ix (u59 + 0)) u15.1.toInt64) (ix (u59 + 1)) u24.1.toInt64) (ix (u59 + 2)) u33.1.toInt64) (ws1 := wAll k T R ly rc hn rp tp ee st w aside thought (vp_updL (vp_updL (vp_updL (vp_updL fresh (ix (u59 + 0)) u15.1.toInt64) (ix (u59 + 1)) u24.1.toInt64) (ix (u59 + 2)) u33.1.toInt64) (ix (u59 + 3)) (1000000 * u15.1.toInt64)) mu th u41 mf mh mg ou od) _ a_m_fresh g111 (s_fresh (vp_updL (vp_updL (vp_updL (vp_updL fresh (ix (u59 + 0)) u15.1.toInt64) (ix (u59 + 1)) u24.1.toInt64) (ix (u59 + 2)) u33.1.toInt64) (ix (u59 + 3)) (1000000 * u15.1.toInt64))) dX10_readChamber_111 ?_
    refine r_aload_n X (x := k.b + (189)) dX10_readChamber_112 rfl ?_
    refine r_getfield X (v := .ref (k.b + (193))) clsX10 flX10_19 (Nat.le_of_ble_eq_true rfl) _ o_model rfl dX10_readChamber_113 ?_
    refine r_iconst X (v := 0) dX10_readChamber_116 rfl ?_
    refine r_dup2 X dX10_readChamber_117 rfl rfl ?_
    refine r_laload X (f := vp_updL (vp_updL (vp_updL (vp_updL fresh (ix (u59 + 0)) u15.1.toInt64) (ix (u59 + 1)) u24.1.toInt64) (ix (u59 + 2)) u33.1.toInt64) (ix (u59 + 3)) (1000000 * u15.1.toInt64)) _ a_m_fresh (by decide) dX10_readChamber_118 ?_
    refine r_lconst X (v := 1) dX10_readChamber_119 rfl ?_
    refine r_ladd X dX10_readChamber_120 ?_
    refine r_lastore X (f := vp_updL (vp_updL (vp_updL (vp_updL fresh (ix (u59 + 0)) u15.1.toInt64) (ix (u59 + 1)) u24.1.toInt64) (ix (u59 + 2)) u33.1.toInt64) (ix (u59 + 3)) (1000000 * u15.1.toInt64)) (ws1 := wAll k T R ly rc hn rp tp ee st w aside thought (vp_updL (vp_updL (vp_updL (vp_updL (vp_updL fresh (ix (u59 + 0)) u15.1.toInt64) (ix (u59 + 1)) u24.1.toInt64) (ix (u59 + 2)) u33.1.toInt64) (ix (u59 + 3)) (1000000 * u15.1.toInt64)) (ix 0) (((vp_updL (vp_updL (vp_updL (vp_updL fresh (ix (u59 + 0)) u15.1.toInt64) (ix (u59 + 1)) u24.1.toInt64) (ix (u59 + 2)) u33.1.toInt64) (ix (u59 + 3)) (1000000 * u15.1.toInt64)) (ix 0)) + 1)) mu th u41 mf mh mg ou od) _ a_m_fresh (by decide) (s_fresh (vp_updL (vp_updL (vp_updL (vp_updL (vp_updL fresh (ix (u59 + 0)) u15.1.toInt64) (ix (u59 + 1)) u24.1.toInt64) (ix (u59 + 2)) u33.1.toInt64) (ix (u59 + 3)) (1000000 * u15.1.toInt64)) (ix 0) (((vp_updL (vp_updL (vp_updL (vp_updL fresh (ix (u59 + 0)) u15.1.toInt64) (ix (u59 + 1)) u24.1.toInt64) (ix (u59 + 2)) u33.1.toInt64) (ix (u59 + 3)) (1000000 * u15.1.toInt64)) (ix 0)) + 1))) dX10_readChamber_121 ?_
    obtain rfl := Option.some.inj hf
    exact r_return X hQ rfl rfl (Nat.le_of_ble_eq_true rfl) (Nat.le_of_ble_eq_true rfl) dX10_readChamber_122
  · replace hf := ifF hf c48
    obtain rfl := Option.some.inj hf
    exact r_return X hQ rfl rfl (Nat.le_of_ble_eq_true rfl) (Nat.le_of_ble_eq_true rfl) dX10_readChamber_51
set_option maxRecDepth 100000 in
set_option maxHeartbeats 4000000 in
theorem B10_readPump_B69 {k : KT} {z : ZT} {T : TT} {R : RR} {ly : Fin 2 → LL} {rc : RC} {hn : HN} {rp : RP} {tp : TP} {ee : EE} {st : Fin 12 → SS} {w : Nat → Int64} {aside : Nat → Int64} {thought : Nat → Int64} {mu : MU} {th : Int32} {mf : MF} {mh : MH} {mg : MG} {ou : Nat → Int64} {od : Nat → UInt64} {r : (Nat → Int64) × (MP)} (X : XX k strs z RX10 cX10_readPump 8 none (rmD 11 0 0)) (hQ : zQ z = MQ (zB z) (Qof k (none) (wAll k T R ly rc hn rp tp ee st w aside thought r.1 mu th r.2 mf mh mg ou od)) (zA z) (zS z) 0 0 (kA k)) (fresh : Nat → Int64) (mp : MP) (x1 : Int32) (x2 : Int32) (x3 : Int32) (x4 : Int32) (x5 : Int32) (t0 : Int32) (hf : f10_readPump_B69  fresh mp x1 x2 x3 x4 x5 t0 = some r) : VW k z 0 0 (wAll k T R ly rc hn rp tp ee st w aside thought fresh mu th mp mf mh mg ou od) 69 [some (.ref (k.b + (189))), some (.int x1), some (.int x2), some (.int x3), some (.int x4), some (.int x5), none, none] [.int t0] := by
  unfold f10_readPump_B69 at hf
  refine r_istore X [some (.ref (k.b + (189))), some (.int x1), some (.int x2), some (.int x3), some (.int x4), some (.int x5), some (.int t0), none] dX10_readPump_69 (Nat.le_of_ble_eq_true rfl) rfl ?_
  refine r_aload_n X (x := k.b + (189)) dX10_readPump_71 rfl ?_
  refine r_ldcwS X 19 rfl dX10_readPump_72 ?_
  obtain ⟨u75, h75, hf⟩ := bdS hf
  refine r_callV0 X [.ref (k.sK 19)] [] (K10_must h75) lkX10_296 clsX10 rfl _ o_model (by decide) (Nat.le_of_ble_eq_true rfl) rfl rfl (Nat.le_of_ble_eq_true rfl) rfl rfl (Nat.zero_le _) (Nat.zero_le _) dX10_readPump_75 ?_
  refine r_aload_n X (x := k.b + (189)) dX10_readPump_78 rfl ?_
  refine r_getfield X (v := .int (MP_fault u75)) clsX10 flX10_255 (Nat.le_of_ble_eq_true rfl) _ o_model rfl dX10_readPump_79 ?_
  refine r_if_le X 86 dX10_readPump_82 rfl (fun c82 => ?_) (fun c82 => ?_)
  · replace hf := ifT hf c82
    refine r_aload_n X (x := k.b + (189)) dX10_readPump_86 rfl ?_
    refine r_getfield X (v := .ref (k.b + (193))) clsX10 flX10_19 (Nat.le_of_ble_eq_true rfl) _ o_model rfl dX10_readPump_87 ?_
    refine r_iconst X (v := 1) dX10_readPump_90 rfl ?_
    refine r_laload X (f := fresh) _ a_m_fresh (by decide) dX10_readPump_91 ?_
    refine r_l2i X dX10_readPump_92 ?_
    obtain ⟨u93, h93, hf⟩ := bdS hf
    refine r_callS0 X [.int ((fresh (ix 1)).toInt32)] [] (K10_pumpAt h93) lkX10_71 (by decide) (Nat.le_of_ble_eq_true rfl) rfl rfl (Nat.le_of_ble_eq_true rfl) rfl rfl (Nat.zero_le _) (Nat.zero_le _) dX10_readPump_93 ?_
    refine r_istore X [some (.ref (k.b + (189))), some (.int x1), some (.int x2), some (.int x3), some (.int x4), some (.int x5), some (.int t0), some (.int u93)] dX10_readPump_96 (Nat.le_of_ble_eq_true rfl) rfl ?_
    refine r_aload_n X (x := k.b + (189)) dX10_readPump_98 rfl ?_
    refine r_getfield X (v := .ref (k.b + (193))) clsX10 flX10_19 (Nat.le_of_ble_eq_true rfl) _ o_model rfl dX10_readPump_99 ?_
    refine r_iload X (x := u93) dX10_readPump_102 rfl ?_
    refine r_iconst X (v := 0) dX10_readPump_104 rfl ?_
    refine r_iadd X dX10_readPump_105 ?_
    refine r_iload_n X (x := x1) dX10_readPump_106 rfl ?_
    refine r_i2l X dX10_readPump_107 ?_
    obtain ⟨g108, hf⟩ := gdS hf
    refine r_lastore X (f := fresh) (ws1 := wAll k T R ly rc hn rp tp ee st w aside thought (vp_updL fresh (ix (u93 + 0)) x1.toInt64) mu th u75 mf mh mg ou od) _ a_m_fresh g108 (s_fresh (vp_updL fresh (ix (u93 + 0)) x1.toInt64)) dX10_readPump_108 ?_
    refine r_aload_n X (x := k.b + (189)) dX10_readPump_109 rfl ?_
    refine r_getfield X (v := .ref (k.b + (193))) clsX10 flX10_19 (Nat.le_of_ble_eq_true rfl) _ o_model rfl dX10_readPump_110 ?_
    refine r_iload X (x := u93) dX10_readPump_113 rfl ?_
    refine r_iconst X (v := 1) dX10_readPump_115 rfl ?_
    refine r_iadd X dX10_readPump_116 ?_
    refine r_iload_n X (x := x2) dX10_readPump_117 rfl ?_
    refine r_i2l X dX10_readPump_118 ?_
    obtain ⟨g119, hf⟩ := gdS hf
    refine r_lastore X (f := vp_updL fresh (ix (u93 + 0)) x1.toInt64) (ws1 := wAll k T R ly rc hn rp tp ee st w aside thought (vp_updL (vp_updL fresh (ix (u93 + 0)) x1.toInt64) (ix (u93 + 1)) x2.toInt64) mu th u75 mf mh mg ou od) _ a_m_fresh g119 (s_fresh (vp_updL (vp_updL fresh (ix (u93 + 0)) x1.toInt64) (ix (u93 + 1)) x2.toInt64)) dX10_readPump_119 ?_
    refine r_aload_n X (x := k.b + (189)) dX10_readPump_120 rfl ?_
    refine r_getfield X (v := .ref (k.b + (193))) clsX10 flX10_19 (Nat.le_of_ble_eq_true rfl) _ o_model rfl dX10_readPump_121 ?_
    refine r_iload X (x := u93) dX10_readPump_124 rfl ?_
    refine r_iconst X (v := 2) dX10_readPump_126 rfl ?_
    refine r_iadd X dX10_readPump_127 ?_
    refine r_iload_n X (x := x3) dX10_readPump_128 rfl ?_
    refine r_i2l X dX10_readPump_129 ?_
    obtain ⟨g130, hf⟩ := gdS hf
    refine r_lastore X (f := vp_updL (vp_updL fresh (ix (u93 + 0)) x1.toInt64) (ix (u93 + 1)) x2.toInt64) (ws1 := wAll k T R ly rc hn rp tp ee st w aside thought (vp_updL (vp_updL (vp_updL fresh (ix (u93 + 0)) x1.toInt64) (ix (u93 + 1)) x2.toInt64) (ix (u93 + 2)) x3.toInt64) mu th u75 mf mh mg ou od) _ a_m_fresh g130 (s_fresh (vp_updL (vp_updL (vp_updL fresh (ix (u93 + 0)) x1.toInt64) (ix (u93 + 1)) x2.toInt64) (ix (u93 + 2)) x3.toInt64)) dX10_readPump_130 ?_
    refine r_aload_n X (x := k.b + (189)) dX10_readPump_131 rfl ?_
    refine r_getfield X (v := .ref (k.b + (193))) clsX10 flX10_19 (Nat.le_of_ble_eq_true rfl) _ o_model rfl dX10_readPump_132 ?_
    refine r_iload X (x := u93) dX10_readPump_135 rfl ?_
    refine r_iconst X (v := 3) dX10_readPump_137 rfl ?_
    refine r_iadd X dX10_readPump_138 ?_
    refine r_iload X (x := x4) dX10_readPump_139 rfl ?_
    refine r_i2l X dX10_readPump_141 ?_
    obtain ⟨g142, hf⟩ := gdS hf
    refine r_lastore X (f := vp_updL (vp_updL (vp_updL fresh (ix (u93 + 0)) x1.toInt64) (ix (u93 + 1)) x2.toInt64) (ix (u93 + 2)) x3.toInt64) (ws1 := wAll k T R ly rc hn rp tp ee st w aside thought (vp_updL (vp_updL (vp_updL (vp_updL fresh (ix (u93 + 0)) x1.toInt64) (ix (u93 + 1)) x2.toInt64) (ix (u93 + 2)) x3.toInt64) (ix (u93 + 3)) x4.toInt64) mu th u75 mf mh mg ou od) _ a_m_fresh g142 (s_fresh (vp_updL (vp_updL (vp_updL (vp_updL fresh (ix (u93 + 0)) x1.toInt64) (ix (u93 + 1)) x2.toInt64) (ix (u93 + 2)) x3.toInt64) (ix (u93 + 3)) x4.toInt64)) dX10_readPump_142 ?_
    refine r_aload_n X (x := k.b + (189)) dX10_readPump_143 rfl ?_
    refine r_getfield X (v := .ref (k.b + (193))) clsX10 flX10_19 (Nat.le_of_ble_eq_true rfl) _ o_model rfl dX10_readPump_144 ?_
    refine r_iload X (x := u93) dX10_readPump_147 rfl ?_
    refine r_iconst X (v := 4) dX10_readPump_149 rfl ?_
    refine r_iadd X dX10_readPump_150 ?_
    refine r_iload X (x := x5) dX10_readPump_151 rfl ?_
    refine r_i2l X dX10_readPump_153 ?_
    obtain ⟨g154, hf⟩ := gdS hf
    refine r_lastore X (f := vp_updL (vp_updL (vp_updL (vp_updL fresh (ix (u93 + 0)) x1.toInt64) (ix (u93 + 1)) x2.toInt64) (ix (u93 + 2)) x3.toInt64) (ix (u93 + 3)) x4.toInt64) (ws1 := wAll k T R ly rc hn rp tp ee st w aside thought (vp_updL (vp_updL (vp_updL (vp_updL (vp_updL fresh (ix (u93 + 0)) x1.toInt64) (ix (u93 + 1)) x2.toInt64) (ix (u93 + 2)) x3.toInt64) (ix (u93 + 3)) x4.toInt64) (ix (u93 + 4)) x5.toInt64) mu th u75 mf mh mg ou od) _ a_m_fresh g154 (s_fresh (vp_updL (vp_updL (vp_updL (vp_updL (vp_updL fresh (ix (u93 + 0)) x1.toInt64) (ix (u93 + 1)) x2.toInt64) (ix (u93 + 2)) x3.toInt64) (ix (u93 + 3)) x4.toInt64) (ix (u93 + 4)) x5.toInt64)) dX10_readPump_154 ?_
    refine r_aload_n X (x := k.b + (189)) dX10_readPump_155 rfl ?_
    refine r_getfield X (v := .ref (k.b + (193))) clsX10 flX10_19 (Nat.le_of_ble_eq_true rfl) _ o_model rfl dX10_readPump_156 ?_
    refine r_iload X (x := u93) dX10_readPump_159 rfl ?_
    refine r_iconst X (v := 5) dX10_readPump_161 rfl ?_
    refine r_iadd X dX10_readPump_162 ?_
    refine r_iload X (x := t0) dX10_readPump_163 rfl ?_
    refine r_i2l X dX10_readPump_165 ?_
    obtain ⟨g166, hf⟩ := gdS hf
    refine r_lastore X (f := vp_updL (vp_updL (vp_updL (vp_updL (vp_updL fresh (ix (u93 + 0)) x1.toInt64) (ix (u93 + 1)) x2.toInt64) (ix (u93 + 2)) x3.toInt64) (ix (u93 + 3)) x4.toInt64) (ix (u93 + 4)) x5.toInt64) (ws1 := wAll k T R ly rc hn rp tp ee st w aside thought (vp_updL (vp_updL (vp_updL (vp_updL (vp_updL (vp_updL fresh (ix (u93 + 0)) x1.toInt64) (ix (u93 + 1)) x2.toInt64) (ix (u93 + 2)) x3.toInt64) (ix (u93 + 3)) x4.toInt64) (ix (u93 + 4)) x5.toInt64) (ix (u93 + 5)) t0.toInt64) mu th u75 mf mh mg ou od) _ a_m_fresh g166 (s_fresh (vp_updL (vp_updL (vp_updL (vp_updL (vp_updL (vp_updL fresh (ix (u93 + 0)) x1.toInt64) (ix (u93 + 1)) x2.toInt64) (ix (u93 + 2)) x3.toInt64) (ix (u93 + 3)) x4.toInt64) (ix (u93 + 4)) x5.toInt64) (ix (u93 + 5)) t0.toInt64)) dX10_readPump_166 ?_
    refine r_aload_n X (x := k.b + (189)) dX10_readPump_167 rfl ?_
    refine r_getfield X (v := .ref (k.b + (193))) clsX10 flX10_19 (Nat.le_of_ble_eq_true rfl) _ o_model rfl dX10_readPump_168 ?_
    refine r_iconst X (v := 1) dX10_readPump_171 rfl ?_
    refine r_dup2 X dX10_readPump_172 rfl rfl ?_
    refine r_laload X (f := vp_updL (vp_updL (vp_updL (vp_updL (vp_updL (vp_updL fresh (ix (u93 + 0)) x1.toInt64) (ix (u93 + 1)) x2.toInt64) (ix (u93 + 2)) x3.toInt64) (ix (u93 + 3)) x4.toInt64) (ix (u93 + 4)) x5.toInt64) (ix (u93 + 5)) t0.toInt64) _ a_m_fresh (by decide) dX10_readPump_173 ?_
    refine r_lconst X (v := 1) dX10_readPump_174 rfl ?_
    refine r_ladd X dX10_readPump_175 ?_
    refine r_lastore X (f := vp_updL (vp_updL (vp_updL (vp_updL (vp_updL (vp_updL fresh (ix (u93 + 0)) x1.toInt64) (ix (u93 + 1)) x2.toInt64) (ix (u93 + 2)) x3.toInt64) (ix (u93 + 3)) x4.toInt64) (ix (u93 + 4)) x5.toInt64) (ix (u93 + 5)) t0.toInt64) (ws1 := wAll k T R ly rc hn rp tp ee st w aside thought (vp_updL (vp_updL (vp_updL (vp_updL (vp_updL (vp_updL (vp_updL fresh (ix (u93 + 0)) x1.toInt64) (ix (u93 + 1)) x2.toInt64) (ix (u93 + 2)) x3.toInt64) (ix (u93 + 3)) x4.toInt64) (ix (u93 + 4)) x5.toInt64) (ix (u93 + 5)) t0.toInt64) (ix 1) (((vp_updL (vp_updL (vp_updL (vp_updL (vp_updL (vp_updL fresh (ix (u93 + 0)) x1.toInt64) (ix (u93 + 1)) x2.toInt64) (ix (u93 + 2)) x3.toInt64) (ix (u93 + 3)) x4.toInt64) (ix (u93 + 4)) x5.toInt64) (ix (u93 + 5)) t0.toInt64) (ix 1)) + 1)) mu th u75 mf mh mg ou od) _ a_m_fresh (by decide) (s_fresh (vp_updL (vp_updL (vp_updL (vp_updL (vp_updL (vp_updL (vp_updL fresh (ix (u93 + 0)) x1.toInt64) (ix (u93 + 1)) x2.toInt64) (ix (u93 + 2)) x3.toInt64) (ix (u93 + 3)) x4.toInt64) (ix (u93 + 4)) x5.toInt64) (ix (u93 + 5)) t0.toInt64) (ix 1) (((vp_updL (vp_updL (vp_updL (vp_updL (vp_updL (vp_updL fresh (ix (u93 + 0)) x1.toInt64) (ix (u93 + 1)) x2.toInt64) (ix (u93 + 2)) x3.toInt64) (ix (u93 + 3)) x4.toInt64) (ix (u93 + 4)) x5.toInt64) (ix (u93 + 5)) t0.toInt64) (ix 1)) + 1))) dX10_readPump_176 ?_
    obtain rfl := Option.some.inj hf
    exact r_return X hQ rfl rfl (Nat.le_of_ble_eq_true rfl) (Nat.le_of_ble_eq_true rfl) dX10_readPump_177
  · replace hf := ifF hf c82
    obtain rfl := Option.some.inj hf
    exact r_return X hQ rfl rfl (Nat.le_of_ble_eq_true rfl) (Nat.le_of_ble_eq_true rfl) dX10_readPump_85
set_option maxRecDepth 100000 in
set_option maxHeartbeats 4000000 in
theorem K10_readPump {k : KT} {T : TT} {R : RR} {ly : Fin 2 → LL} {rc : RC} {hn : HN} {rp : RP} {tp : TP} {ee : EE} {st : Fin 12 → SS} {w : Nat → Int64} {aside : Nat → Int64} {thought : Nat → Int64} {fresh : Nat → Int64} {mu : MU} {th : Int32} {mp : MP} {mf : MF} {mh : MH} {mg : MG} {ou : Nat → Int64} {od : Nat → UInt64}   {r : (Nat → Int64) × (MP)} (hf : f10_readPump  fresh mp  = some r) : CT k strs yX10_readPump cX10_readPump 8 none (rmD 11 0 0) 0 0 [.ref (k.b + (189))] (wAll k T R ly rc hn rp tp ee st w aside thought fresh mu th mp mf mh mg ou od) (none) (wAll k T R ly rc hn rp tp ee st w aside thought r.1 mu th r.2 mf mh mg ou od) := by
  refine CT.of (by decide) (Nat.le_of_ble_eq_true rfl) ?_
  intro z X hQ
  show VW k z 0 0 (wAll k T R ly rc hn rp tp ee st w aside thought fresh mu th mp mf mh mg ou od) 0 [some (.ref (k.b + (189))), none, none, none, none, none, none, none] []
  unfold f10_readPump at hf
  refine r_aload_n X (x := k.b + (189)) dX10_readPump_0 rfl ?_
  refine r_ldcwS X 20 rfl dX10_readPump_1 ?_
  refine r_iconst X (v := 1) dX10_readPump_4 rfl ?_
  refine r_bipush X (v := 6) dX10_readPump_5 rfl ?_
  obtain ⟨u7, h7, hf⟩ := bdS hf
  refine r_callV0 X [.ref (k.sK 20), .int 1, .int 6] [] (K10_keyword h7) lkX10_290 clsX10 rfl _ o_model (by decide) (Nat.le_of_ble_eq_true rfl) rfl rfl (Nat.le_of_ble_eq_true rfl) rfl rfl (Nat.zero_le _) (Nat.zero_le _) dX10_readPump_7 ?_
  refine r_aload_n X (x := k.b + (189)) dX10_readPump_10 rfl ?_
  obtain ⟨u11, h11, hf⟩ := bdS hf
  refine r_callV0 X [] [] (K10_chamberHere h11) lkX10_302 clsX10 rfl _ o_model (by decide) (Nat.le_of_ble_eq_true rfl) rfl rfl (Nat.le_of_ble_eq_true rfl) rfl rfl (Nat.zero_le _) (Nat.zero_le _) dX10_readPump_11 ?_
  refine r_istore_n X [some (.ref (k.b + (189))), some (.int u11.1), none, none, none, none, none, none] dX10_readPump_14 (Nat.le_of_ble_eq_true rfl) rfl ?_
  refine r_aload_n X (x := k.b + (189)) dX10_readPump_15 rfl ?_
  refine r_iload_n X (x := u11.1) dX10_readPump_16 rfl ?_
  obtain ⟨u17, h17, hf⟩ := bdS hf
  refine r_callV0 X [.int u11.1] [] (K10_otherHere h17) lkX10_305 clsX10 rfl _ o_model (by decide) (Nat.le_of_ble_eq_true rfl) rfl rfl (Nat.le_of_ble_eq_true rfl) rfl rfl (Nat.zero_le _) (Nat.zero_le _) dX10_readPump_17 ?_
  refine r_istore_n X [some (.ref (k.b + (189))), some (.int u11.1), some (.int u17.1), none, none, none, none, none] dX10_readPump_20 (Nat.le_of_ble_eq_true rfl) rfl ?_
  refine r_aload_n X (x := k.b + (189)) dX10_readPump_21 rfl ?_
  refine r_lconst X (v := 1) dX10_readPump_22 rfl ?_
  refine r_ldc2 X (v := 999) coX10_45 dX10_readPump_23 ?_
  obtain ⟨u26, h26, hf⟩ := bdS hf
  refine r_callV0 X [.long 1, .long 999] [] (K10_number h26) lkX10_283 clsX10 rfl _ o_model (by decide) (Nat.le_of_ble_eq_true rfl) rfl rfl (Nat.le_of_ble_eq_true rfl) rfl rfl (Nat.zero_le _) (Nat.zero_le _) dX10_readPump_26 ?_
  refine r_istore_n X [some (.ref (k.b + (189))), some (.int u11.1), some (.int u17.1), some (.int u26.1), none, none, none, none] dX10_readPump_29 (Nat.le_of_ble_eq_true rfl) rfl ?_
  refine r_aload_n X (x := k.b + (189)) dX10_readPump_30 rfl ?_
  refine r_lconst X (v := 0) dX10_readPump_31 rfl ?_
  refine r_ldc2 X (v := 1000000) coX10_43 dX10_readPump_32 ?_
  obtain ⟨u35, h35, hf⟩ := bdS hf
  refine r_callV0 X [.long 0, .long 1000000] [] (K10_number h35) lkX10_283 clsX10 rfl _ o_model (by decide) (Nat.le_of_ble_eq_true rfl) rfl rfl (Nat.le_of_ble_eq_true rfl) rfl rfl (Nat.zero_le _) (Nat.zero_le _) dX10_readPump_35 ?_
  refine r_istore X [some (.ref (k.b + (189))), some (.int u11.1), some (.int u17.1), some (.int u26.1), some (.int u35.1), none, none, none] dX10_readPump_38 (Nat.le_of_ble_eq_true rfl) rfl ?_
  refine r_aload_n X (x := k.b + (189)) dX10_readPump_40 rfl ?_
  refine r_iload X (x := u35.1) dX10_readPump_41 rfl ?_
  refine r_i2l X dX10_readPump_43 ?_
  refine r_ldc2 X (v := 1000000) coX10_43 dX10_readPump_44 ?_
  obtain ⟨u47, h47, hf⟩ := bdS hf
  refine r_callV0 X [.long u35.1.toInt64, .long 1000000] [] (K10_number h47) lkX10_283 clsX10 rfl _ o_model (by decide) (Nat.le_of_ble_eq_true rfl) rfl rfl (Nat.le_of_ble_eq_true rfl) rfl rfl (Nat.zero_le _) (Nat.zero_le _) dX10_readPump_47 ?_
  refine r_istore X [some (.ref (k.b + (189))), some (.int u11.1), some (.int u17.1), some (.int u26.1), some (.int u35.1), some (.int u47.1), none, none] dX10_readPump_50 (Nat.le_of_ble_eq_true rfl) rfl ?_
  refine r_iload_n X (x := u17.1) dX10_readPump_52 rfl ?_
  refine r_iconst X (v := (-1)) dX10_readPump_53 rfl ?_
  refine r_icmp_ne X 61 dX10_readPump_54 rfl (fun c54 => ?_) (fun c54 => ?_)
  · replace hf := ifF hf c54
    refine r_aload_n X (x := k.b + (189)) dX10_readPump_61 rfl ?_
    refine r_lconst X (v := 0) dX10_readPump_62 rfl ?_
    refine r_ldc2 X (v := 1000000) coX10_43 dX10_readPump_63 ?_
    obtain ⟨u66, h66, hf⟩ := bdS hf
    refine r_callV0 X [.long 0, .long 1000000] [] (K10_number h66) lkX10_283 clsX10 rfl _ o_model (by decide) (Nat.le_of_ble_eq_true rfl) rfl rfl (Nat.le_of_ble_eq_true rfl) rfl rfl (Nat.zero_le _) (Nat.zero_le _) dX10_readPump_66 ?_
    exact B10_readPump_B69 X hQ fresh u66.2 u11.1 u17.1 u26.1 u35.1 u47.1 u66.1 hf
  · replace hf := ifT hf c54
    refine r_iconst X (v := (-1)) dX10_readPump_57 rfl ?_
    refine r_goto X 69 dX10_readPump_58 rfl ?_
    exact B10_readPump_B69 X hQ fresh u47.2 u11.1 u17.1 u26.1 u35.1 u47.1 (-1) hf
set_option maxRecDepth 100000 in
set_option maxHeartbeats 4000000 in
theorem K10_readValve {k : KT} {T : TT} {R : RR} {ly : Fin 2 → LL} {rc : RC} {hn : HN} {rp : RP} {tp : TP} {ee : EE} {st : Fin 12 → SS} {w : Nat → Int64} {aside : Nat → Int64} {thought : Nat → Int64} {fresh : Nat → Int64} {mu : MU} {th : Int32} {mp : MP} {mf : MF} {mh : MH} {mg : MG} {ou : Nat → Int64} {od : Nat → UInt64}   {r : (Nat → Int64) × (MP)} (hf : f10_readValve  fresh mp  = some r) : CT k strs yX10_readValve cX10_readValve 6 none (rmD 11 0 0) 0 0 [.ref (k.b + (189))] (wAll k T R ly rc hn rp tp ee st w aside thought fresh mu th mp mf mh mg ou od) (none) (wAll k T R ly rc hn rp tp ee st w aside thought r.1 mu th r.2 mf mh mg ou od) := by
  refine CT.of (by decide) (Nat.le_of_ble_eq_true rfl) ?_
  intro z X hQ
  show VW k z 0 0 (wAll k T R ly rc hn rp tp ee st w aside thought fresh mu th mp mf mh mg ou od) 0 [some (.ref (k.b + (189))), none, none, none, none, none] []
  unfold f10_readValve at hf
  refine r_aload_n X (x := k.b + (189)) dX10_readValve_0 rfl ?_
  refine r_ldcwS X 22 rfl dX10_readValve_1 ?_
  refine r_iconst X (v := 2) dX10_readValve_4 rfl ?_
  refine r_bipush X (v := 10) dX10_readValve_5 rfl ?_
  obtain ⟨u7, h7, hf⟩ := bdS hf
  refine r_callV0 X [.ref (k.sK 22), .int 2, .int 10] [] (K10_keyword h7) lkX10_290 clsX10 rfl _ o_model (by decide) (Nat.le_of_ble_eq_true rfl) rfl rfl (Nat.le_of_ble_eq_true rfl) rfl rfl (Nat.zero_le _) (Nat.zero_le _) dX10_readValve_7 ?_
  refine r_aload_n X (x := k.b + (189)) dX10_readValve_10 rfl ?_
  obtain ⟨u11, h11, hf⟩ := bdS hf
  refine r_callV0 X [] [] (K10_chamberHere h11) lkX10_302 clsX10 rfl _ o_model (by decide) (Nat.le_of_ble_eq_true rfl) rfl rfl (Nat.le_of_ble_eq_true rfl) rfl rfl (Nat.zero_le _) (Nat.zero_le _) dX10_readValve_11 ?_
  refine r_istore_n X [some (.ref (k.b + (189))), some (.int u11.1), none, none, none, none] dX10_readValve_14 (Nat.le_of_ble_eq_true rfl) rfl ?_
  refine r_aload_n X (x := k.b + (189)) dX10_readValve_15 rfl ?_
  refine r_iload_n X (x := u11.1) dX10_readValve_16 rfl ?_
  obtain ⟨u17, h17, hf⟩ := bdS hf
  refine r_callV0 X [.int u11.1] [] (K10_otherHere h17) lkX10_305 clsX10 rfl _ o_model (by decide) (Nat.le_of_ble_eq_true rfl) rfl rfl (Nat.le_of_ble_eq_true rfl) rfl rfl (Nat.zero_le _) (Nat.zero_le _) dX10_readValve_17 ?_
  refine r_istore_n X [some (.ref (k.b + (189))), some (.int u11.1), some (.int u17.1), none, none, none] dX10_readValve_20 (Nat.le_of_ble_eq_true rfl) rfl ?_
  refine r_aload_n X (x := k.b + (189)) dX10_readValve_21 rfl ?_
  refine r_lconst X (v := 1) dX10_readValve_22 rfl ?_
  refine r_ldc2 X (v := 999) coX10_45 dX10_readValve_23 ?_
  obtain ⟨u26, h26, hf⟩ := bdS hf
  refine r_callV0 X [.long 1, .long 999] [] (K10_number h26) lkX10_283 clsX10 rfl _ o_model (by decide) (Nat.le_of_ble_eq_true rfl) rfl rfl (Nat.le_of_ble_eq_true rfl) rfl rfl (Nat.zero_le _) (Nat.zero_le _) dX10_readValve_26 ?_
  refine r_istore_n X [some (.ref (k.b + (189))), some (.int u11.1), some (.int u17.1), some (.int u26.1), none, none] dX10_readValve_29 (Nat.le_of_ble_eq_true rfl) rfl ?_
  refine r_aload_n X (x := k.b + (189)) dX10_readValve_30 rfl ?_
  refine r_lconst X (v := 0) dX10_readValve_31 rfl ?_
  refine r_ldc2 X (v := 1000000) coX10_43 dX10_readValve_32 ?_
  obtain ⟨u35, h35, hf⟩ := bdS hf
  refine r_callV0 X [.long 0, .long 1000000] [] (K10_number h35) lkX10_283 clsX10 rfl _ o_model (by decide) (Nat.le_of_ble_eq_true rfl) rfl rfl (Nat.le_of_ble_eq_true rfl) rfl rfl (Nat.zero_le _) (Nat.zero_le _) dX10_readValve_35 ?_
  refine r_istore X [some (.ref (k.b + (189))), some (.int u11.1), some (.int u17.1), some (.int u26.1), some (.int u35.1), none] dX10_readValve_38 (Nat.le_of_ble_eq_true rfl) rfl ?_
  refine r_aload_n X (x := k.b + (189)) dX10_readValve_40 rfl ?_
  refine r_ldcwS X 19 rfl dX10_readValve_41 ?_
  obtain ⟨u44, h44, hf⟩ := bdS hf
  refine r_callV0 X [.ref (k.sK 19)] [] (K10_must h44) lkX10_296 clsX10 rfl _ o_model (by decide) (Nat.le_of_ble_eq_true rfl) rfl rfl (Nat.le_of_ble_eq_true rfl) rfl rfl (Nat.zero_le _) (Nat.zero_le _) dX10_readValve_44 ?_
  refine r_aload_n X (x := k.b + (189)) dX10_readValve_47 rfl ?_
  refine r_getfield X (v := .int (MP_fault u44)) clsX10 flX10_255 (Nat.le_of_ble_eq_true rfl) _ o_model rfl dX10_readValve_48 ?_
  refine r_if_le X 55 dX10_readValve_51 rfl (fun c51 => ?_) (fun c51 => ?_)
  · replace hf := ifT hf c51
    refine r_aload_n X (x := k.b + (189)) dX10_readValve_55 rfl ?_
    refine r_getfield X (v := .ref (k.b + (193))) clsX10 flX10_19 (Nat.le_of_ble_eq_true rfl) _ o_model rfl dX10_readValve_56 ?_
    refine r_iconst X (v := 2) dX10_readValve_59 rfl ?_
    refine r_laload X (f := fresh) _ a_m_fresh (by decide) dX10_readValve_60 ?_
    refine r_l2i X dX10_readValve_61 ?_
    obtain ⟨u62, h62, hf⟩ := bdS hf
    refine r_callS0 X [.int ((fresh (ix 2)).toInt32)] [] (K10_valveAt h62) lkX10_68 (by decide) (Nat.le_of_ble_eq_true rfl) rfl rfl (Nat.le_of_ble_eq_true rfl) rfl rfl (Nat.zero_le _) (Nat.zero_le _) dX10_readValve_62 ?_
    refine r_istore X [some (.ref (k.b + (189))), some (.int u11.1), some (.int u17.1), some (.int u26.1), some (.int u35.1), some (.int u62)] dX10_readValve_65 (Nat.le_of_ble_eq_true rfl) rfl ?_
    refine r_aload_n X (x := k.b + (189)) dX10_readValve_67 rfl ?_
    refine r_getfield X (v := .ref (k.b + (193))) clsX10 flX10_19 (Nat.le_of_ble_eq_true rfl) _ o_model rfl dX10_readValve_68 ?_
    refine r_iload X (x := u62) dX10_readValve_71 rfl ?_
    refine r_iconst X (v := 0) dX10_readValve_73 rfl ?_
    refine r_iadd X dX10_readValve_74 ?_
    refine r_iload_n X (x := u11.1) dX10_readValve_75 rfl ?_
    refine r_i2l X dX10_readValve_76 ?_
    obtain ⟨g77, hf⟩ := gdS hf
    refine r_lastore X (f := fresh) (ws1 := wAll k T R ly rc hn rp tp ee st w aside thought (vp_updL fresh (ix (u62 + 0)) u11.1.toInt64) mu th u44 mf mh mg ou od) _ a_m_fresh g77 (s_fresh (vp_updL fresh (ix (u62 + 0)) u11.1.toInt64)) dX10_readValve_77 ?_
    refine r_aload_n X (x := k.b + (189)) dX10_readValve_78 rfl ?_
    refine r_getfield X (v := .ref (k.b + (193))) clsX10 flX10_19 (Nat.le_of_ble_eq_true rfl) _ o_model rfl dX10_readValve_79 ?_
    refine r_iload X (x := u62) dX10_readValve_82 rfl ?_
    refine r_iconst X (v := 1) dX10_readValve_84 rfl ?_
    refine r_iadd X dX10_readValve_85 ?_
    refine r_iload_n X (x := u17.1) dX10_readValve_86 rfl ?_
    refine r_i2l X dX10_readValve_87 ?_
    obtain ⟨g88, hf⟩ := gdS hf
    refine r_lastore X (f := vp_updL fresh (ix (u62 + 0)) u11.1.toInt64) (ws1 := wAll k T R ly rc hn rp tp ee st w aside thought (vp_updL (vp_updL fresh (ix (u62 + 0)) u11.1.toInt64) (ix (u62 + 1)) u17.1.toInt64) mu th u44 mf mh mg ou od) _ a_m_fresh g88 (s_fresh (vp_updL (vp_updL fresh (ix (u62 + 0)) u11.1.toInt64) (ix (u62 + 1)) u17.1.toInt64)) dX10_readValve_88 ?_
    refine r_aload_n X (x := k.b + (189)) dX10_readValve_89 rfl ?_
    refine r_getfield X (v := .ref (k.b + (193))) clsX10 flX10_19 (Nat.le_of_ble_eq_true rfl) _ o_model rfl dX10_readValve_90 ?_
    refine r_iload X (x := u62) dX10_readValve_93 rfl ?_
    refine r_iconst X (v := 2) dX10_readValve_95 rfl ?_
    refine r_iadd X dX10_readValve_96 ?_
    refine r_iload_n X (x := u26.1) dX10_readValve_97 rfl ?_
    refine r_i2l X dX10_readValve_98 ?_
    obtain ⟨g99, hf⟩ := gdS hf
    refine r_lastore X (f := vp_updL (vp_updL fresh (ix (u62 + 0)) u11.1.toInt64) (ix (u62 + 1)) u17.1.toInt64) (ws1 := wAll k T R ly rc hn rp tp ee st w aside thought (vp_updL (vp_updL (vp_updL fresh (ix (u62 + 0)) u11.1.toInt64) (ix (u62 + 1)) u17.1.toInt64) (ix (u62 + 2)) u26.1.toInt64) mu th u44 mf mh mg ou od) _ a_m_fresh g99 (s_fresh (vp_updL (vp_updL (vp_updL fresh (ix (u62 + 0)) u11.1.toInt64) (ix (u62 + 1)) u17.1.toInt64) (ix (u62 + 2)) u26.1.toInt64)) dX10_readValve_99 ?_
    refine r_aload_n X (x := k.b + (189)) dX10_readValve_100 rfl ?_
    refine r_getfield X (v := .ref (k.b + (193))) clsX10 flX10_19 (Nat.le_of_ble_eq_true rfl) _ o_model rfl dX10_readValve_101 ?_
    refine r_iload X (x := u62) dX10_readValve_104 rfl ?_
    refine r_iconst X (v := 3) dX10_readValve_106 rfl ?_
    refine r_iadd X dX10_readValve_107 ?_
    refine r_iload X (x := u35.1) dX10_readValve_108 rfl ?_
    refine r_i2l X dX10_readValve_110 ?_
    obtain ⟨g111, hf⟩ := gdS hf
    refine r_lastore X (f := vp_updL (vp_updL (vp_updL fresh (ix (u62 + 0)) u11.1.toInt64) (ix (u62 + 1)) u17.1.toInt64) (ix (u62 + 2)) u26.1.toInt64) (ws1 := wAll k T R ly rc hn rp tp ee st w aside thought (vp_updL (vp_updL (vp_updL (vp_updL fresh (ix (u62 + 0)) u11.1.toInt64) (ix (u62 + 1)) u17.1.toInt64) (ix (u62 + 2)) u26.1.toInt64) (ix (u62 + 3)) u35.1.toInt64) mu th u44 mf mh mg ou od) _ a_m_fresh g111 (s_fresh (vp_updL (vp_updL (vp_updL (vp_updL fresh (ix (u62 + 0)) u11.1.toInt64) (ix (u62 + 1)) u17.1.toInt64) (ix (u62 + 2)) u26.1.toInt64) (ix (u62 + 3)) u35.1.toInt64)) dX10_readValve_111 ?_
    refine r_aload_n X (x := k.b + (189)) dX10_readValve_112 rfl ?_
    refine r_getfield X (v := .ref (k.b + (193))) clsX10 flX10_19 (Nat.le_of_ble_eq_true rfl) _ o_model rfl dX10_readValve_113 ?_
    refine r_iconst X (v := 2) dX10_readValve_116 rfl ?_
    refine r_dup2 X dX10_readValve_117 rfl rfl ?_
    refine r_laload X (f := vp_updL (vp_updL (vp_updL (vp_updL fresh (ix (u62 + 0)) u11.1.toInt64) (ix (u62 + 1)) u17.1.toInt64) (ix (u62 + 2)) u26.1.toInt64) (ix (u62 + 3)) u35.1.toInt64) _ a_m_fresh (by decide) dX10_readValve_118 ?_
    refine r_lconst X (v := 1) dX10_readValve_119 rfl ?_
    refine r_ladd X dX10_readValve_120 ?_
    refine r_lastore X (f := vp_updL (vp_updL (vp_updL (vp_updL fresh (ix (u62 + 0)) u11.1.toInt64) (ix (u62 + 1)) u17.1.toInt64) (ix (u62 + 2)) u26.1.toInt64) (ix (u62 + 3)) u35.1.toInt64) (ws1 := wAll k T R ly rc hn rp tp ee st w aside thought (vp_updL (vp_updL (vp_updL (vp_updL (vp_updL fresh (ix (u62 + 0)) u11.1.toInt64) (ix (u62 + 1)) u17.1.toInt64) (ix (u62 + 2)) u26.1.toInt64) (ix (u62 + 3)) u35.1.toInt64) (ix 2) (((vp_updL (vp_updL (vp_updL (vp_updL fresh (ix (u62 + 0)) u11.1.toInt64) (ix (u62 + 1)) u17.1.toInt64) (ix (u62 + 2)) u26.1.toInt64) (ix (u62 + 3)) u35.1.toInt64) (ix 2)) + 1)) mu th u44 mf mh mg ou od) _ a_m_fresh (by decide) (s_fresh (vp_updL (vp_updL (vp_updL (vp_updL (vp_updL fresh (ix (u62 + 0)) u11.1.toInt64) (ix (u62 + 1)) u17.1.toInt64) (ix (u62 + 2)) u26.1.toInt64) (ix (u62 + 3)) u35.1.toInt64) (ix 2) (((vp_updL (vp_updL (vp_updL (vp_updL fresh (ix (u62 + 0)) u11.1.toInt64) (ix (u62 + 1)) u17.1.toInt64) (ix (u62 + 2)) u26.1.toInt64) (ix (u62 + 3)) u35.1.toInt64) (ix 2)) + 1))) dX10_readValve_121 ?_
    obtain rfl := Option.some.inj hf
    exact r_return X hQ rfl rfl (Nat.le_of_ble_eq_true rfl) (Nat.le_of_ble_eq_true rfl) dX10_readValve_122
  · replace hf := ifF hf c51
    obtain rfl := Option.some.inj hf
    exact r_return X hQ rfl rfl (Nat.le_of_ble_eq_true rfl) (Nat.le_of_ble_eq_true rfl) dX10_readValve_54
set_option maxRecDepth 100000 in
set_option maxHeartbeats 4000000 in
theorem K10_readFlange {k : KT} {T : TT} {R : RR} {ly : Fin 2 → LL} {rc : RC} {hn : HN} {rp : RP} {tp : TP} {ee : EE} {st : Fin 12 → SS} {w : Nat → Int64} {aside : Nat → Int64} {thought : Nat → Int64} {fresh : Nat → Int64} {mu : MU} {th : Int32} {mp : MP} {mf : MF} {mh : MH} {mg : MG} {ou : Nat → Int64} {od : Nat → UInt64}   {r : (Nat → Int64) × (MP)} (hf : f10_readFlange  fresh mp  = some r) : CT k strs yX10_readFlange cX10_readFlange 4 none (rmD 11 0 0) 0 0 [.ref (k.b + (189))] (wAll k T R ly rc hn rp tp ee st w aside thought fresh mu th mp mf mh mg ou od) (none) (wAll k T R ly rc hn rp tp ee st w aside thought r.1 mu th r.2 mf mh mg ou od) := by
  refine CT.of (by decide) (Nat.le_of_ble_eq_true rfl) ?_
  intro z X hQ
  show VW k z 0 0 (wAll k T R ly rc hn rp tp ee st w aside thought fresh mu th mp mf mh mg ou od) 0 [some (.ref (k.b + (189))), none, none, none] []
  unfold f10_readFlange at hf
  refine r_aload_n X (x := k.b + (189)) dX10_readFlange_0 rfl ?_
  refine r_ldcwS X 23 rfl dX10_readFlange_1 ?_
  refine r_iconst X (v := 3) dX10_readFlange_4 rfl ?_
  refine r_bipush X (v := 24) dX10_readFlange_5 rfl ?_
  obtain ⟨u7, h7, hf⟩ := bdS hf
  refine r_callV0 X [.ref (k.sK 23), .int 3, .int 24] [] (K10_keyword h7) lkX10_290 clsX10 rfl _ o_model (by decide) (Nat.le_of_ble_eq_true rfl) rfl rfl (Nat.le_of_ble_eq_true rfl) rfl rfl (Nat.zero_le _) (Nat.zero_le _) dX10_readFlange_7 ?_
  refine r_aload_n X (x := k.b + (189)) dX10_readFlange_10 rfl ?_
  obtain ⟨u11, h11, hf⟩ := bdS hf
  refine r_callV0 X [] [] (K10_chamberHere h11) lkX10_302 clsX10 rfl _ o_model (by decide) (Nat.le_of_ble_eq_true rfl) rfl rfl (Nat.le_of_ble_eq_true rfl) rfl rfl (Nat.zero_le _) (Nat.zero_le _) dX10_readFlange_11 ?_
  refine r_istore_n X [some (.ref (k.b + (189))), some (.int u11.1), none, none] dX10_readFlange_14 (Nat.le_of_ble_eq_true rfl) rfl ?_
  refine r_aload_n X (x := k.b + (189)) dX10_readFlange_15 rfl ?_
  refine r_lconst X (v := 0) dX10_readFlange_16 rfl ?_
  refine r_ldc2 X (v := 9999) coX10_197 dX10_readFlange_17 ?_
  obtain ⟨u20, h20, hf⟩ := bdS hf
  refine r_callV0 X [.long 0, .long 9999] [] (K10_number h20) lkX10_283 clsX10 rfl _ o_model (by decide) (Nat.le_of_ble_eq_true rfl) rfl rfl (Nat.le_of_ble_eq_true rfl) rfl rfl (Nat.zero_le _) (Nat.zero_le _) dX10_readFlange_20 ?_
  refine r_istore_n X [some (.ref (k.b + (189))), some (.int u11.1), some (.int u20.1), none] dX10_readFlange_23 (Nat.le_of_ble_eq_true rfl) rfl ?_
  refine r_aload_n X (x := k.b + (189)) dX10_readFlange_24 rfl ?_
  refine r_ldcwS X 19 rfl dX10_readFlange_25 ?_
  obtain ⟨u28, h28, hf⟩ := bdS hf
  refine r_callV0 X [.ref (k.sK 19)] [] (K10_must h28) lkX10_296 clsX10 rfl _ o_model (by decide) (Nat.le_of_ble_eq_true rfl) rfl rfl (Nat.le_of_ble_eq_true rfl) rfl rfl (Nat.zero_le _) (Nat.zero_le _) dX10_readFlange_28 ?_
  refine r_aload_n X (x := k.b + (189)) dX10_readFlange_31 rfl ?_
  refine r_getfield X (v := .int (MP_fault u28)) clsX10 flX10_255 (Nat.le_of_ble_eq_true rfl) _ o_model rfl dX10_readFlange_32 ?_
  refine r_if_le X 39 dX10_readFlange_35 rfl (fun c35 => ?_) (fun c35 => ?_)
  · replace hf := ifT hf c35
    refine r_aload_n X (x := k.b + (189)) dX10_readFlange_39 rfl ?_
    refine r_getfield X (v := .ref (k.b + (193))) clsX10 flX10_19 (Nat.le_of_ble_eq_true rfl) _ o_model rfl dX10_readFlange_40 ?_
    refine r_iconst X (v := 3) dX10_readFlange_43 rfl ?_
    refine r_laload X (f := fresh) _ a_m_fresh (by decide) dX10_readFlange_44 ?_
    refine r_l2i X dX10_readFlange_45 ?_
    obtain ⟨u46, h46, hf⟩ := bdS hf
    refine r_callS0 X [.int ((fresh (ix 3)).toInt32)] [] (K10_flangeAt h46) lkX10_96 (by decide) (Nat.le_of_ble_eq_true rfl) rfl rfl (Nat.le_of_ble_eq_true rfl) rfl rfl (Nat.zero_le _) (Nat.zero_le _) dX10_readFlange_46 ?_
    refine r_istore_n X [some (.ref (k.b + (189))), some (.int u11.1), some (.int u20.1), some (.int u46)] dX10_readFlange_49 (Nat.le_of_ble_eq_true rfl) rfl ?_
    refine r_aload_n X (x := k.b + (189)) dX10_readFlange_50 rfl ?_
    refine r_getfield X (v := .ref (k.b + (193))) clsX10 flX10_19 (Nat.le_of_ble_eq_true rfl) _ o_model rfl dX10_readFlange_51 ?_
    refine r_iload_n X (x := u46) dX10_readFlange_54 rfl ?_
    refine r_iconst X (v := 0) dX10_readFlange_55 rfl ?_
    refine r_iadd X dX10_readFlange_56 ?_
    refine r_iload_n X (x := u11.1) dX10_readFlange_57 rfl ?_
    refine r_i2l X dX10_readFlange_58 ?_
    obtain ⟨g59, hf⟩ := gdS hf
    refine r_lastore X (f := fresh) (ws1 := wAll k T R ly rc hn rp tp ee st w aside thought (vp_updL fresh (ix (u46 + 0)) u11.1.toInt64) mu th u28 mf mh mg ou od) _ a_m_fresh g59 (s_fresh (vp_updL fresh (ix (u46 + 0)) u11.1.toInt64)) dX10_readFlange_59 ?_
    refine r_aload_n X (x := k.b + (189)) dX10_readFlange_60 rfl ?_
    refine r_getfield X (v := .ref (k.b + (193))) clsX10 flX10_19 (Nat.le_of_ble_eq_true rfl) _ o_model rfl dX10_readFlange_61 ?_
    refine r_iload_n X (x := u46) dX10_readFlange_64 rfl ?_
    refine r_iconst X (v := 1) dX10_readFlange_65 rfl ?_
    refine r_iadd X dX10_readFlange_66 ?_
    refine r_iload_n X (x := u20.1) dX10_readFlange_67 rfl ?_
    refine r_i2l X dX10_readFlange_68 ?_
    obtain ⟨g69, hf⟩ := gdS hf
    refine r_lastore X (f := vp_updL fresh (ix (u46 + 0)) u11.1.toInt64) (ws1 := wAll k T R ly rc hn rp tp ee st w aside thought (vp_updL (vp_updL fresh (ix (u46 + 0)) u11.1.toInt64) (ix (u46 + 1)) u20.1.toInt64) mu th u28 mf mh mg ou od) _ a_m_fresh g69 (s_fresh (vp_updL (vp_updL fresh (ix (u46 + 0)) u11.1.toInt64) (ix (u46 + 1)) u20.1.toInt64)) dX10_readFlange_69 ?_
    refine r_aload_n X (x := k.b + (189)) dX10_readFlange_70 rfl ?_
    refine r_getfield X (v := .ref (k.b + (193))) clsX10 flX10_19 (Nat.le_of_ble_eq_true rfl) _ o_model rfl dX10_readFlange_71 ?_
    refine r_iconst X (v := 3) dX10_readFlange_74 rfl ?_
    refine r_dup2 X dX10_readFlange_75 rfl rfl ?_
    refine r_laload X (f := vp_updL (vp_updL fresh (ix (u46 + 0)) u11.1.toInt64) (ix (u46 + 1)) u20.1.toInt64) _ a_m_fresh (by decide) dX10_readFlange_76 ?_
    refine r_lconst X (v := 1) dX10_readFlange_77 rfl ?_
    refine r_ladd X dX10_readFlange_78 ?_
    refine r_lastore X (f := vp_updL (vp_updL fresh (ix (u46 + 0)) u11.1.toInt64) (ix (u46 + 1)) u20.1.toInt64) (ws1 := wAll k T R ly rc hn rp tp ee st w aside thought (vp_updL (vp_updL (vp_updL fresh (ix (u46 + 0)) u11.1.toInt64) (ix (u46 + 1)) u20.1.toInt64) (ix 3) (((vp_updL (vp_updL fresh (ix (u46 + 0)) u11.1.toInt64) (ix (u46 + 1)) u20.1.toInt64) (ix 3)) + 1)) mu th u28 mf mh mg ou od) _ a_m_fresh (by decide) (s_fresh (vp_updL (vp_updL (vp_updL fresh (ix (u46 + 0)) u11.1.toInt64) (ix (u46 + 1)) u20.1.toInt64) (ix 3) (((vp_updL (vp_updL fresh (ix (u46 + 0)) u11.1.toInt64) (ix (u46 + 1)) u20.1.toInt64) (ix 3)) + 1))) dX10_readFlange_79 ?_
    obtain rfl := Option.some.inj hf
    exact r_return X hQ rfl rfl (Nat.le_of_ble_eq_true rfl) (Nat.le_of_ble_eq_true rfl) dX10_readFlange_80
  · replace hf := ifF hf c35
    obtain rfl := Option.some.inj hf
    exact r_return X hQ rfl rfl (Nat.le_of_ble_eq_true rfl) (Nat.le_of_ble_eq_true rfl) dX10_readFlange_38
set_option maxRecDepth 100000 in
set_option maxHeartbeats 4000000 in
theorem B10_parseSystem_B130 {k : KT} {z : ZT} {T : TT} {R : RR} {ly : Fin 2 → LL} {rc : RC} {hn : HN} {rp : RP} {tp : TP} {ee : EE} {st : Fin 12 → SS} {aside : Nat → Int64} {thought : Nat → Int64} {mf : MF} {mh : MH} {mg : MG} {ou : Nat → Int64} {od : Nat → UInt64} {r : Int32 × (Nat → Int64) × (Nat → Int64) × (MU) × (Int32) × (MP)} (X : XX k strs z RX10 cX10_parseSystem 2 (some .int) (rmD 12 0 0)) (hQ : zQ z = MQ (zB z) (Qof k (some (.int r.1)) (wAll k T R ly rc hn rp tp ee st r.2.1 aside thought r.2.2.1 r.2.2.2.1 r.2.2.2.2.1 r.2.2.2.2.2 mf mh mg ou od)) (zA z) (zS z) 0 0 (kA k)) (w : Nat → Int64) (fresh : Nat → Int64) (mu : MU) (th : Int32) (mp : MP) (hf : f10_parseSystem_B130  w fresh mu th mp = some r) : VW k z 0 0 (wAll k T R ly rc hn rp tp ee st w aside thought fresh mu th mp mf mh mg ou od) 130 [some (.ref (k.b + (189))), none] [] := by
  unfold f10_parseSystem_B130 at hf
  refine r_aload_n X (x := k.b + (189)) dX10_parseSystem_130 rfl ?_
  refine r_getfield X (v := .int (MP_fault mp)) clsX10 flX10_255 (Nat.le_of_ble_eq_true rfl) _ o_model rfl dX10_parseSystem_131 ?_
  refine r_if_le X 139 dX10_parseSystem_134 rfl (fun c134 => ?_) (fun c134 => ?_)
  · replace hf := ifT hf c134
    refine r_aload_n X (x := k.b + (189)) dX10_parseSystem_139 rfl ?_
    refine r_getfield X (v := .ref (k.b + (193))) clsX10 flX10_19 (Nat.le_of_ble_eq_true rfl) _ o_model rfl dX10_parseSystem_140 ?_
    refine r_aload_n X (x := k.b + (189)) dX10_parseSystem_143 rfl ?_
    refine r_getfield X (v := .ref (k.b + (190))) clsX10 flX10_7 (Nat.le_of_ble_eq_true rfl) _ o_model rfl dX10_parseSystem_144 ?_
    obtain ⟨u147, h147, hf⟩ := bdS hf
    refine r_callS0 X [.ref (k.b + (193)), .ref (k.b + (190))] [] (K10_copy_fresh_w h147) lkX10_50 (by decide) (Nat.le_of_ble_eq_true rfl) rfl rfl (Nat.le_of_ble_eq_true rfl) rfl rfl (Nat.zero_le _) (Nat.zero_le _) dX10_parseSystem_147 ?_
    refine r_aload_n X (x := k.b + (189)) dX10_parseSystem_150 rfl ?_
    refine r_iconst X (v := 0) dX10_parseSystem_151 rfl ?_
    refine r_putfield X (ws1 := wAll k T R ly rc hn rp tp ee st u147 aside thought fresh (MU_set_pastCount mu 0) th mp mf mh mg ou od) clsX10 flX10_47 (Nat.le_of_ble_eq_true rfl) rfl rfl rfl _ o_model (Nat.le_of_ble_eq_true rfl) (s_mu_pastCount 0) dX10_parseSystem_152 ?_
    refine r_aload_n X (x := k.b + (189)) dX10_parseSystem_155 rfl ?_
    refine r_iconst X (v := 0) dX10_parseSystem_156 rfl ?_
    obtain ⟨u157, h157, hf⟩ := bdS hf
    refine r_callV0 X [.int 0] [] (K10_many h157) lkX10_93 clsX10 rfl _ o_model (by decide) (Nat.le_of_ble_eq_true rfl) rfl rfl (Nat.le_of_ble_eq_true rfl) rfl rfl (Nat.zero_le _) (Nat.zero_le _) dX10_parseSystem_157 ?_
    obtain rfl := Option.some.inj hf
    exact r_ireturn X hQ rfl rfl (Nat.le_of_ble_eq_true rfl) (Nat.le_of_ble_eq_true rfl) dX10_parseSystem_160
  · replace hf := ifF hf c134
    refine r_iconst X (v := (-1)) dX10_parseSystem_137 rfl ?_
    obtain rfl := Option.some.inj hf
    exact r_ireturn X hQ rfl rfl (Nat.le_of_ble_eq_true rfl) (Nat.le_of_ble_eq_true rfl) dX10_parseSystem_138
set_option maxRecDepth 100000 in
set_option maxHeartbeats 4000000 in
theorem B10_parseSystem_B105 {k : KT} {z : ZT} {T : TT} {R : RR} {ly : Fin 2 → LL} {rc : RC} {hn : HN} {rp : RP} {tp : TP} {ee : EE} {st : Fin 12 → SS} {aside : Nat → Int64} {thought : Nat → Int64} {mf : MF} {mh : MH} {mg : MG} {ou : Nat → Int64} {od : Nat → UInt64} {r : Int32 × (Nat → Int64) × (Nat → Int64) × (MU) × (Int32) × (MP)} (X : XX k strs z RX10 cX10_parseSystem 2 (some .int) (rmD 12 0 0)) (hQ : zQ z = MQ (zB z) (Qof k (some (.int r.1)) (wAll k T R ly rc hn rp tp ee st r.2.1 aside thought r.2.2.1 r.2.2.2.1 r.2.2.2.2.1 r.2.2.2.2.2 mf mh mg ou od)) (zA z) (zS z) 0 0 (kA k)) : ∀ (fu : Nat) (w : Nat → Int64) (fresh : Nat → Int64) (mu : MU) (th : Int32) (mp : MP), f10_parseSystem_B105  fu w fresh mu th mp = some r → VW k z 0 0 (wAll k T R ly rc hn rp tp ee st w aside thought fresh mu th mp mf mh mg ou od) 105 [some (.ref (k.b + (189))), none] [] := by
  intro fu
  induction fu with
  | zero =>
    intro w fresh mu th mp hf
    rw [f10_parseSystem_B105] at hf
    cases hf
  | succ fu ih =>
    intro w fresh mu th mp hf
    rw [f10_parseSystem_B105] at hf
    refine r_aload_n X (x := k.b + (189)) dX10_parseSystem_105 rfl ?_
    refine r_getfield X (v := .int (MP_fault mp)) clsX10 flX10_255 (Nat.le_of_ble_eq_true rfl) _ o_model rfl dX10_parseSystem_106 ?_
    refine r_if_ne X 130 dX10_parseSystem_109 rfl (fun c109 => ?_) (fun c109 => ?_)
    · replace hf := ifF hf c109
      exact B10_parseSystem_B130 X hQ w fresh mu th mp hf
    · replace hf := ifT hf c109
      refine r_aload_n X (x := k.b + (189)) dX10_parseSystem_112 rfl ?_
      refine r_getfield X (v := .int (MP_from mp)) clsX10 flX10_246 (Nat.le_of_ble_eq_true rfl) _ o_model rfl dX10_parseSystem_113 ?_
      refine r_aload_n X (x := k.b + (189)) dX10_parseSystem_116 rfl ?_
      refine r_getfield X (v := .int (MP_end_ mp)) clsX10 flX10_229 (Nat.le_of_ble_eq_true rfl) _ o_model rfl dX10_parseSystem_117 ?_
      refine r_icmp_ge X 130 dX10_parseSystem_120 rfl (fun c120 => ?_) (fun c120 => ?_)
      · replace hf := ifT hf c120
        exact B10_parseSystem_B130 X hQ w fresh mu th mp hf
      · replace hf := ifF hf c120
        refine r_aload_n X (x := k.b + (189)) dX10_parseSystem_123 rfl ?_
        obtain ⟨u124, h124, hf⟩ := bdS hf
        refine r_callV0 X [] [] (K10_readFlange h124) lkX10_324 clsX10 rfl _ o_model (by decide) (Nat.le_of_ble_eq_true rfl) rfl rfl (Nat.le_of_ble_eq_true rfl) rfl rfl (Nat.zero_le _) (Nat.zero_le _) dX10_parseSystem_124 ?_
        refine r_goto X 105 dX10_parseSystem_127 rfl ?_
        exact ih w u124.1 mu th u124.2 hf
set_option maxRecDepth 100000 in
set_option maxHeartbeats 4000000 in
theorem B10_parseSystem_B81 {k : KT} {z : ZT} {T : TT} {R : RR} {ly : Fin 2 → LL} {rc : RC} {hn : HN} {rp : RP} {tp : TP} {ee : EE} {st : Fin 12 → SS} {aside : Nat → Int64} {thought : Nat → Int64} {mf : MF} {mh : MH} {mg : MG} {ou : Nat → Int64} {od : Nat → UInt64} {r : Int32 × (Nat → Int64) × (Nat → Int64) × (MU) × (Int32) × (MP)} (X : XX k strs z RX10 cX10_parseSystem 2 (some .int) (rmD 12 0 0)) (hQ : zQ z = MQ (zB z) (Qof k (some (.int r.1)) (wAll k T R ly rc hn rp tp ee st r.2.1 aside thought r.2.2.1 r.2.2.2.1 r.2.2.2.2.1 r.2.2.2.2.2 mf mh mg ou od)) (zA z) (zS z) 0 0 (kA k)) : ∀ (fu : Nat) (w : Nat → Int64) (fresh : Nat → Int64) (mu : MU) (th : Int32) (mp : MP), f10_parseSystem_B81  fu w fresh mu th mp = some r → VW k z 0 0 (wAll k T R ly rc hn rp tp ee st w aside thought fresh mu th mp mf mh mg ou od) 81 [some (.ref (k.b + (189))), none] [] := by
  intro fu
  induction fu with
  | zero =>
    intro w fresh mu th mp hf
    rw [f10_parseSystem_B81] at hf
    cases hf
  | succ fu ih =>
    intro w fresh mu th mp hf
    rw [f10_parseSystem_B81] at hf
    refine r_aload_n X (x := k.b + (189)) dX10_parseSystem_81 rfl ?_
    refine r_getfield X (v := .int (MP_fault mp)) clsX10 flX10_255 (Nat.le_of_ble_eq_true rfl) _ o_model rfl dX10_parseSystem_82 ?_
    refine r_if_ne X 105 dX10_parseSystem_85 rfl (fun c85 => ?_) (fun c85 => ?_)
    · replace hf := ifF hf c85
      exact B10_parseSystem_B105 X hQ FU w fresh mu th mp hf
    · replace hf := ifT hf c85
      refine r_aload_n X (x := k.b + (189)) dX10_parseSystem_88 rfl ?_
      refine r_ldcwS X 22 rfl dX10_parseSystem_89 ?_
      obtain ⟨u92, h92, hf⟩ := bdS hf
      refine r_callV0 X [.ref (k.sK 22)] [] (K10_isWord h92) lkX10_279 clsX10 rfl _ o_model (by decide) (Nat.le_of_ble_eq_true rfl) rfl rfl (Nat.le_of_ble_eq_true rfl) rfl rfl (Nat.zero_le _) (Nat.zero_le _) dX10_parseSystem_92 ?_
      refine r_if_eq X 105 dX10_parseSystem_95 rfl (fun c95 => ?_) (fun c95 => ?_)
      · replace hf := ifT hf c95
        exact B10_parseSystem_B105 X hQ FU w fresh mu th mp hf
      · replace hf := ifF hf c95
        refine r_aload_n X (x := k.b + (189)) dX10_parseSystem_98 rfl ?_
        obtain ⟨u99, h99, hf⟩ := bdS hf
        refine r_callV0 X [] [] (K10_readValve h99) lkX10_321 clsX10 rfl _ o_model (by decide) (Nat.le_of_ble_eq_true rfl) rfl rfl (Nat.le_of_ble_eq_true rfl) rfl rfl (Nat.zero_le _) (Nat.zero_le _) dX10_parseSystem_99 ?_
        refine r_goto X 81 dX10_parseSystem_102 rfl ?_
        exact ih w u99.1 mu th u99.2 hf
set_option maxRecDepth 100000 in
set_option maxHeartbeats 4000000 in
theorem B10_parseSystem_B57 {k : KT} {z : ZT} {T : TT} {R : RR} {ly : Fin 2 → LL} {rc : RC} {hn : HN} {rp : RP} {tp : TP} {ee : EE} {st : Fin 12 → SS} {aside : Nat → Int64} {thought : Nat → Int64} {mf : MF} {mh : MH} {mg : MG} {ou : Nat → Int64} {od : Nat → UInt64} {r : Int32 × (Nat → Int64) × (Nat → Int64) × (MU) × (Int32) × (MP)} (X : XX k strs z RX10 cX10_parseSystem 2 (some .int) (rmD 12 0 0)) (hQ : zQ z = MQ (zB z) (Qof k (some (.int r.1)) (wAll k T R ly rc hn rp tp ee st r.2.1 aside thought r.2.2.1 r.2.2.2.1 r.2.2.2.2.1 r.2.2.2.2.2 mf mh mg ou od)) (zA z) (zS z) 0 0 (kA k)) : ∀ (fu : Nat) (w : Nat → Int64) (fresh : Nat → Int64) (mu : MU) (th : Int32) (mp : MP), f10_parseSystem_B57  fu w fresh mu th mp = some r → VW k z 0 0 (wAll k T R ly rc hn rp tp ee st w aside thought fresh mu th mp mf mh mg ou od) 57 [some (.ref (k.b + (189))), none] [] := by
  intro fu
  induction fu with
  | zero =>
    intro w fresh mu th mp hf
    rw [f10_parseSystem_B57] at hf
    cases hf
  | succ fu ih =>
    intro w fresh mu th mp hf
    rw [f10_parseSystem_B57] at hf
    refine r_aload_n X (x := k.b + (189)) dX10_parseSystem_57 rfl ?_
    refine r_getfield X (v := .int (MP_fault mp)) clsX10 flX10_255 (Nat.le_of_ble_eq_true rfl) _ o_model rfl dX10_parseSystem_58 ?_
    refine r_if_ne X 81 dX10_parseSystem_61 rfl (fun c61 => ?_) (fun c61 => ?_)
    · replace hf := ifF hf c61
      exact B10_parseSystem_B81 X hQ FU w fresh mu th mp hf
    · replace hf := ifT hf c61
      refine r_aload_n X (x := k.b + (189)) dX10_parseSystem_64 rfl ?_
      refine r_ldcwS X 20 rfl dX10_parseSystem_65 ?_
      obtain ⟨u68, h68, hf⟩ := bdS hf
      refine r_callV0 X [.ref (k.sK 20)] [] (K10_isWord h68) lkX10_279 clsX10 rfl _ o_model (by decide) (Nat.le_of_ble_eq_true rfl) rfl rfl (Nat.le_of_ble_eq_true rfl) rfl rfl (Nat.zero_le _) (Nat.zero_le _) dX10_parseSystem_68 ?_
      refine r_if_eq X 81 dX10_parseSystem_71 rfl (fun c71 => ?_) (fun c71 => ?_)
      · replace hf := ifT hf c71
        exact B10_parseSystem_B81 X hQ FU w fresh mu th mp hf
      · replace hf := ifF hf c71
        refine r_aload_n X (x := k.b + (189)) dX10_parseSystem_74 rfl ?_
        obtain ⟨u75, h75, hf⟩ := bdS hf
        refine r_callV0 X [] [] (K10_readPump h75) lkX10_318 clsX10 rfl _ o_model (by decide) (Nat.le_of_ble_eq_true rfl) rfl rfl (Nat.le_of_ble_eq_true rfl) rfl rfl (Nat.zero_le _) (Nat.zero_le _) dX10_parseSystem_75 ?_
        refine r_goto X 57 dX10_parseSystem_78 rfl ?_
        exact ih w u75.1 mu th u75.2 hf
set_option maxRecDepth 100000 in
set_option maxHeartbeats 4000000 in
theorem B10_parseSystem_B36 {k : KT} {z : ZT} {T : TT} {R : RR} {ly : Fin 2 → LL} {rc : RC} {hn : HN} {rp : RP} {tp : TP} {ee : EE} {st : Fin 12 → SS} {aside : Nat → Int64} {thought : Nat → Int64} {mf : MF} {mh : MH} {mg : MG} {ou : Nat → Int64} {od : Nat → UInt64} {r : Int32 × (Nat → Int64) × (Nat → Int64) × (MU) × (Int32) × (MP)} (X : XX k strs z RX10 cX10_parseSystem 2 (some .int) (rmD 12 0 0)) (hQ : zQ z = MQ (zB z) (Qof k (some (.int r.1)) (wAll k T R ly rc hn rp tp ee st r.2.1 aside thought r.2.2.1 r.2.2.2.1 r.2.2.2.2.1 r.2.2.2.2.2 mf mh mg ou od)) (zA z) (zS z) 0 0 (kA k)) : ∀ (fu : Nat) (w : Nat → Int64) (fresh : Nat → Int64) (mu : MU) (th : Int32) (mp : MP), f10_parseSystem_B36  fu w fresh mu th mp = some r → VW k z 0 0 (wAll k T R ly rc hn rp tp ee st w aside thought fresh mu th mp mf mh mg ou od) 36 [some (.ref (k.b + (189))), none] [] := by
  intro fu
  induction fu with
  | zero =>
    intro w fresh mu th mp hf
    rw [f10_parseSystem_B36] at hf
    cases hf
  | succ fu ih =>
    intro w fresh mu th mp hf
    rw [f10_parseSystem_B36] at hf
    refine r_aload_n X (x := k.b + (189)) dX10_parseSystem_36 rfl ?_
    obtain ⟨u37, h37, hf⟩ := bdS hf
    refine r_callV0 X [] [] (K10_readChamber h37) lkX10_315 clsX10 rfl _ o_model (by decide) (Nat.le_of_ble_eq_true rfl) rfl rfl (Nat.le_of_ble_eq_true rfl) rfl rfl (Nat.zero_le _) (Nat.zero_le _) dX10_parseSystem_37 ?_
    refine r_aload_n X (x := k.b + (189)) dX10_parseSystem_40 rfl ?_
    refine r_getfield X (v := .int (MP_fault u37.2)) clsX10 flX10_255 (Nat.le_of_ble_eq_true rfl) _ o_model rfl dX10_parseSystem_41 ?_
    refine r_if_ne X 57 dX10_parseSystem_44 rfl (fun c44 => ?_) (fun c44 => ?_)
    · replace hf := ifF hf c44
      exact B10_parseSystem_B57 X hQ FU w u37.1 mu th u37.2 hf
    · replace hf := ifT hf c44
      refine r_aload_n X (x := k.b + (189)) dX10_parseSystem_47 rfl ?_
      refine r_ldcwS X 18 rfl dX10_parseSystem_48 ?_
      obtain ⟨u51, h51, hf⟩ := bdS hf
      refine r_callV0 X [.ref (k.sK 18)] [] (K10_isWord h51) lkX10_279 clsX10 rfl _ o_model (by decide) (Nat.le_of_ble_eq_true rfl) rfl rfl (Nat.le_of_ble_eq_true rfl) rfl rfl (Nat.zero_le _) (Nat.zero_le _) dX10_parseSystem_51 ?_
      refine r_if_ne X 36 dX10_parseSystem_54 rfl (fun c54 => ?_) (fun c54 => ?_)
      · replace hf := ifF hf c54
        exact ih w u37.1 mu th u37.2 hf
      · replace hf := ifT hf c54
        exact B10_parseSystem_B57 X hQ FU w u37.1 mu th u37.2 hf
set_option maxRecDepth 100000 in
set_option maxHeartbeats 4000000 in
theorem B10_parseSystem_B12 {k : KT} {z : ZT} {T : TT} {R : RR} {ly : Fin 2 → LL} {rc : RC} {hn : HN} {rp : RP} {tp : TP} {ee : EE} {st : Fin 12 → SS} {aside : Nat → Int64} {thought : Nat → Int64} {mf : MF} {mh : MH} {mg : MG} {ou : Nat → Int64} {od : Nat → UInt64} {r : Int32 × (Nat → Int64) × (Nat → Int64) × (MU) × (Int32) × (MP)} (X : XX k strs z RX10 cX10_parseSystem 2 (some .int) (rmD 12 0 0)) (hQ : zQ z = MQ (zB z) (Qof k (some (.int r.1)) (wAll k T R ly rc hn rp tp ee st r.2.1 aside thought r.2.2.1 r.2.2.2.1 r.2.2.2.2.1 r.2.2.2.2.2 mf mh mg ou od)) (zA z) (zS z) 0 0 (kA k)) : ∀ (fu : Nat) (w : Nat → Int64) (fresh : Nat → Int64) (mu : MU) (th : Int32) (mp : MP) (x1 : Int32), f10_parseSystem_B12  fu w fresh mu th mp x1 = some r → VW k z 0 0 (wAll k T R ly rc hn rp tp ee st w aside thought fresh mu th mp mf mh mg ou od) 12 [some (.ref (k.b + (189))), some (.int x1)] [] := by
  intro fu
  induction fu with
  | zero =>
    intro w fresh mu th mp x1 hf
    rw [f10_parseSystem_B12] at hf
    cases hf
  | succ fu ih =>
    intro w fresh mu th mp x1 hf
    rw [f10_parseSystem_B12] at hf
    refine r_iload_n X (x := x1) dX10_parseSystem_12 rfl ?_
    refine r_sipush X (v := 256) dX10_parseSystem_13 rfl ?_
    refine r_icmp_ge X 32 dX10_parseSystem_16 rfl (fun c16 => ?_) (fun c16 => ?_)
    · replace hf := ifT hf c16
      refine r_aload_n X (x := k.b + (189)) dX10_parseSystem_32 rfl ?_
      obtain ⟨u33, h33, hf⟩ := bdS hf
      refine r_callV0 X [] [] (K10_begin h33) lkX10_312 clsX10 rfl _ o_model (by decide) (Nat.le_of_ble_eq_true rfl) rfl rfl (Nat.le_of_ble_eq_true rfl) rfl rfl (Nat.zero_le _) (Nat.zero_le _) dX10_parseSystem_33 ?_
      refine VW.msk [true, false] rfl (lo' := [some (.ref (k.b + (189))), none]) rfl ?_
      exact B10_parseSystem_B36 X hQ FU w fresh mu th u33 hf
    · replace hf := ifF hf c16
      refine r_aload_n X (x := k.b + (189)) dX10_parseSystem_19 rfl ?_
      refine r_getfield X (v := .ref (k.b + (193))) clsX10 flX10_19 (Nat.le_of_ble_eq_true rfl) _ o_model rfl dX10_parseSystem_20 ?_
      refine r_iload_n X (x := x1) dX10_parseSystem_23 rfl ?_
      refine r_lconst X (v := 0) dX10_parseSystem_24 rfl ?_
      obtain ⟨g25, hf⟩ := gdS hf
      refine r_lastore X (f := fresh) (ws1 := wAll k T R ly rc hn rp tp ee st w aside thought (vp_updL fresh (ix x1) 0) mu th mp mf mh mg ou od) _ a_m_fresh g25 (s_fresh (vp_updL fresh (ix x1) 0)) dX10_parseSystem_25 ?_
      refine r_iinc X (x := x1) (v := x1 + 1) [some (.ref (k.b + (189))), some (.int (x1 + 1))] dX10_parseSystem_26 rfl rfl rfl ?_
      refine r_goto X 12 dX10_parseSystem_29 rfl ?_
      exact ih w (vp_updL fresh (ix x1) 0) mu th mp (x1 + 1) hf
set_option maxRecDepth 100000 in
set_option maxHeartbeats 4000000 in
theorem K10_parseSystem {k : KT} {T : TT} {R : RR} {ly : Fin 2 → LL} {rc : RC} {hn : HN} {rp : RP} {tp : TP} {ee : EE} {st : Fin 12 → SS} {w : Nat → Int64} {aside : Nat → Int64} {thought : Nat → Int64} {fresh : Nat → Int64} {mu : MU} {th : Int32} {mp : MP} {mf : MF} {mh : MH} {mg : MG} {ou : Nat → Int64} {od : Nat → UInt64}   {r : Int32 × (Nat → Int64) × (Nat → Int64) × (MU) × (Int32) × (MP)} (hf : f10_parseSystem  w fresh mu th mp  = some r) : CT k strs yX10_parseSystem cX10_parseSystem 2 (some .int) (rmD 12 0 0) 0 0 [.ref (k.b + (189))] (wAll k T R ly rc hn rp tp ee st w aside thought fresh mu th mp mf mh mg ou od) (some (.int r.1)) (wAll k T R ly rc hn rp tp ee st r.2.1 aside thought r.2.2.1 r.2.2.2.1 r.2.2.2.2.1 r.2.2.2.2.2 mf mh mg ou od) := by
  refine CT.of (by decide) (Nat.le_of_ble_eq_true rfl) ?_
  intro z X hQ
  show VW k z 0 0 (wAll k T R ly rc hn rp tp ee st w aside thought fresh mu th mp mf mh mg ou od) 0 [some (.ref (k.b + (189))), none] []
  unfold f10_parseSystem at hf
  refine r_aload_n X (x := k.b + (189)) dX10_parseSystem_0 rfl ?_
  refine r_iconst X (v := 0) dX10_parseSystem_1 rfl ?_
  refine r_putfield X (ws1 := wAll k T R ly rc hn rp tp ee st w aside thought fresh mu 0 mp mf mh mg ou od) clsX10 flX10_36 (Nat.le_of_ble_eq_true rfl) rfl rfl rfl _ o_model (Nat.le_of_ble_eq_true rfl) (s_th 0) dX10_parseSystem_2 ?_
  refine r_aload_n X (x := k.b + (189)) dX10_parseSystem_5 rfl ?_
  refine r_iconst X (v := (-1)) dX10_parseSystem_6 rfl ?_
  refine r_putfield X (ws1 := wAll k T R ly rc hn rp tp ee st w aside thought fresh mu 0 (MP_set_faultAt mp (-1)) mf mh mg ou od) clsX10 flX10_29 (Nat.le_of_ble_eq_true rfl) rfl rfl rfl _ o_model (Nat.le_of_ble_eq_true rfl) (s_mp_faultAt (-1)) dX10_parseSystem_7 ?_
  refine r_iconst X (v := 0) dX10_parseSystem_10 rfl ?_
  refine r_istore_n X [some (.ref (k.b + (189))), some (.int 0)] dX10_parseSystem_11 (Nat.le_of_ble_eq_true rfl) rfl ?_
  exact B10_parseSystem_B12 X hQ FU w fresh mu 0 (MP_set_faultAt mp (-1)) 0 hf
set_option maxRecDepth 100000 in
set_option maxHeartbeats 4000000 in
theorem K10_errorCode {k : KT} {T : TT} {R : RR} {ly : Fin 2 → LL} {rc : RC} {hn : HN} {rp : RP} {tp : TP} {ee : EE} {st : Fin 12 → SS} {w : Nat → Int64} {aside : Nat → Int64} {thought : Nat → Int64} {fresh : Nat → Int64} {mu : MU} {th : Int32} {mp : MP} {mf : MF} {mh : MH} {mg : MG} {ou : Nat → Int64} {od : Nat → UInt64}   {r : Int32 × (Int32)} (hf : f10_errorCode mp th  = some r) : CT k strs yX10_errorCode cX10_errorCode 1 (some .int) (rmD 0 0 0) 0 0 [.ref (k.b + (189))] (wAll k T R ly rc hn rp tp ee st w aside thought fresh mu th mp mf mh mg ou od) (some (.int r.1)) (wAll k T R ly rc hn rp tp ee st w aside thought fresh mu r.2 mp mf mh mg ou od) := by
  refine CT.of (by decide) (Nat.le_of_ble_eq_true rfl) ?_
  intro z X hQ
  show VW k z 0 0 (wAll k T R ly rc hn rp tp ee st w aside thought fresh mu th mp mf mh mg ou od) 0 [some (.ref (k.b + (189)))] []
  unfold f10_errorCode at hf
  refine r_aload_n X (x := k.b + (189)) dX10_errorCode_0 rfl ?_
  refine r_iconst X (v := 0) dX10_errorCode_1 rfl ?_
  refine r_putfield X (ws1 := wAll k T R ly rc hn rp tp ee st w aside thought fresh mu 0 mp mf mh mg ou od) clsX10 flX10_36 (Nat.le_of_ble_eq_true rfl) rfl rfl rfl _ o_model (Nat.le_of_ble_eq_true rfl) (s_th 0) dX10_errorCode_2 ?_
  refine r_aload_n X (x := k.b + (189)) dX10_errorCode_5 rfl ?_
  refine r_getfield X (v := .int (MP_fault mp)) clsX10 flX10_255 (Nat.le_of_ble_eq_true rfl) _ o_model rfl dX10_errorCode_6 ?_
  obtain rfl := Option.some.inj hf
  exact r_ireturn X hQ rfl rfl (Nat.le_of_ble_eq_true rfl) (Nat.le_of_ble_eq_true rfl) dX10_errorCode_9
set_option maxRecDepth 100000 in
set_option maxHeartbeats 4000000 in
theorem K10_errorPosition {k : KT} {T : TT} {R : RR} {ly : Fin 2 → LL} {rc : RC} {hn : HN} {rp : RP} {tp : TP} {ee : EE} {st : Fin 12 → SS} {w : Nat → Int64} {aside : Nat → Int64} {thought : Nat → Int64} {fresh : Nat → Int64} {mu : MU} {th : Int32} {mp : MP} {mf : MF} {mh : MH} {mg : MG} {ou : Nat → Int64} {od : Nat → UInt64}   {r : Int32 × (Int32)} (hf : f10_errorPosition mp th  = some r) : CT k strs yX10_errorPosition cX10_errorPosition 1 (some .int) (rmD 0 0 0) 0 0 [.ref (k.b + (189))] (wAll k T R ly rc hn rp tp ee st w aside thought fresh mu th mp mf mh mg ou od) (some (.int r.1)) (wAll k T R ly rc hn rp tp ee st w aside thought fresh mu r.2 mp mf mh mg ou od) := by
  refine CT.of (by decide) (Nat.le_of_ble_eq_true rfl) ?_
  intro z X hQ
  show VW k z 0 0 (wAll k T R ly rc hn rp tp ee st w aside thought fresh mu th mp mf mh mg ou od) 0 [some (.ref (k.b + (189)))] []
  unfold f10_errorPosition at hf
  refine r_aload_n X (x := k.b + (189)) dX10_errorPosition_0 rfl ?_
  refine r_iconst X (v := 0) dX10_errorPosition_1 rfl ?_
  refine r_putfield X (ws1 := wAll k T R ly rc hn rp tp ee st w aside thought fresh mu 0 mp mf mh mg ou od) clsX10 flX10_36 (Nat.le_of_ble_eq_true rfl) rfl rfl rfl _ o_model (Nat.le_of_ble_eq_true rfl) (s_th 0) dX10_errorPosition_2 ?_
  refine r_aload_n X (x := k.b + (189)) dX10_errorPosition_5 rfl ?_
  refine r_getfield X (v := .int (MP_faultAt mp)) clsX10 flX10_29 (Nat.le_of_ble_eq_true rfl) _ o_model rfl dX10_errorPosition_6 ?_
  obtain rfl := Option.some.inj hf
  exact r_ireturn X hQ rfl rfl (Nat.le_of_ble_eq_true rfl) (Nat.le_of_ble_eq_true rfl) dX10_errorPosition_9
set_option maxRecDepth 100000 in
set_option maxHeartbeats 4000000 in
theorem K10_operation {k : KT} {T : TT} {R : RR} {ly : Fin 2 → LL} {rc : RC} {hn : HN} {rp : RP} {tp : TP} {ee : EE} {st : Fin 12 → SS} {w : Nat → Int64} {aside : Nat → Int64} {thought : Nat → Int64} {fresh : Nat → Int64} {mu : MU} {th : Int32} {mp : MP} {mf : MF} {mh : MH} {mg : MG} {ou : Nat → Int64} {od : Nat → UInt64}   {r : Int32} (hf : f10_operation mp   = some r) : CT k strs yX10_operation cX10_operation 1 (some .int) (rmD 10 0 0) 0 0 [.ref (k.b + (189))] (wAll k T R ly rc hn rp tp ee st w aside thought fresh mu th mp mf mh mg ou od) (some (.int r)) (wAll k T R ly rc hn rp tp ee st w aside thought fresh mu th mp mf mh mg ou od) := by
  refine CT.of (by decide) (Nat.le_of_ble_eq_true rfl) ?_
  intro z X hQ
  show VW k z 0 0 (wAll k T R ly rc hn rp tp ee st w aside thought fresh mu th mp mf mh mg ou od) 0 [some (.ref (k.b + (189)))] []
  unfold f10_operation at hf
  refine r_aload_n X (x := k.b + (189)) dX10_operation_0 rfl ?_
  refine r_ldcwS X 24 rfl dX10_operation_1 ?_
  obtain ⟨u4, h4, hf⟩ := bdS hf
  refine r_callV0 X [.ref (k.sK 24)] [] (K10_isWord h4) lkX10_279 clsX10 rfl _ o_model (by decide) (Nat.le_of_ble_eq_true rfl) rfl rfl (Nat.le_of_ble_eq_true rfl) rfl rfl (Nat.zero_le _) (Nat.zero_le _) dX10_operation_4 ?_
  refine r_if_eq X 12 dX10_operation_7 rfl (fun c7 => ?_) (fun c7 => ?_)
  · replace hf := ifT hf c7
    refine r_aload_n X (x := k.b + (189)) dX10_operation_12 rfl ?_
    refine r_ldcwS X 25 rfl dX10_operation_13 ?_
    obtain ⟨u16, h16, hf⟩ := bdS hf
    refine r_callV0 X [.ref (k.sK 25)] [] (K10_isWord h16) lkX10_279 clsX10 rfl _ o_model (by decide) (Nat.le_of_ble_eq_true rfl) rfl rfl (Nat.le_of_ble_eq_true rfl) rfl rfl (Nat.zero_le _) (Nat.zero_le _) dX10_operation_16 ?_
    refine r_if_eq X 24 dX10_operation_19 rfl (fun c19 => ?_) (fun c19 => ?_)
    · replace hf := ifT hf c19
      refine r_aload_n X (x := k.b + (189)) dX10_operation_24 rfl ?_
      refine r_ldcwS X 26 rfl dX10_operation_25 ?_
      obtain ⟨u28, h28, hf⟩ := bdS hf
      refine r_callV0 X [.ref (k.sK 26)] [] (K10_isWord h28) lkX10_279 clsX10 rfl _ o_model (by decide) (Nat.le_of_ble_eq_true rfl) rfl rfl (Nat.le_of_ble_eq_true rfl) rfl rfl (Nat.zero_le _) (Nat.zero_le _) dX10_operation_28 ?_
      refine r_if_eq X 36 dX10_operation_31 rfl (fun c31 => ?_) (fun c31 => ?_)
      · replace hf := ifT hf c31
        refine r_aload_n X (x := k.b + (189)) dX10_operation_36 rfl ?_
        refine r_ldcwS X 27 rfl dX10_operation_37 ?_
        obtain ⟨u40, h40, hf⟩ := bdS hf
        refine r_callV0 X [.ref (k.sK 27)] [] (K10_isWord h40) lkX10_279 clsX10 rfl _ o_model (by decide) (Nat.le_of_ble_eq_true rfl) rfl rfl (Nat.le_of_ble_eq_true rfl) rfl rfl (Nat.zero_le _) (Nat.zero_le _) dX10_operation_40 ?_
        refine r_if_eq X 48 dX10_operation_43 rfl (fun c43 => ?_) (fun c43 => ?_)
        · replace hf := ifT hf c43
          refine r_aload_n X (x := k.b + (189)) dX10_operation_48 rfl ?_
          refine r_ldcwS X 28 rfl dX10_operation_49 ?_
          obtain ⟨u52, h52, hf⟩ := bdS hf
          refine r_callV0 X [.ref (k.sK 28)] [] (K10_isWord h52) lkX10_279 clsX10 rfl _ o_model (by decide) (Nat.le_of_ble_eq_true rfl) rfl rfl (Nat.le_of_ble_eq_true rfl) rfl rfl (Nat.zero_le _) (Nat.zero_le _) dX10_operation_52 ?_
          refine r_if_eq X 60 dX10_operation_55 rfl (fun c55 => ?_) (fun c55 => ?_)
          · replace hf := ifT hf c55
            refine r_aload_n X (x := k.b + (189)) dX10_operation_60 rfl ?_
            refine r_ldcwS X 29 rfl dX10_operation_61 ?_
            obtain ⟨u64, h64, hf⟩ := bdS hf
            refine r_callV0 X [.ref (k.sK 29)] [] (K10_isWord h64) lkX10_279 clsX10 rfl _ o_model (by decide) (Nat.le_of_ble_eq_true rfl) rfl rfl (Nat.le_of_ble_eq_true rfl) rfl rfl (Nat.zero_le _) (Nat.zero_le _) dX10_operation_64 ?_
            refine r_if_eq X 72 dX10_operation_67 rfl (fun c67 => ?_) (fun c67 => ?_)
            · replace hf := ifT hf c67
              refine r_aload_n X (x := k.b + (189)) dX10_operation_72 rfl ?_
              refine r_ldcwS X 30 rfl dX10_operation_73 ?_
              obtain ⟨u76, h76, hf⟩ := bdS hf
              refine r_callV0 X [.ref (k.sK 30)] [] (K10_isWord h76) lkX10_279 clsX10 rfl _ o_model (by decide) (Nat.le_of_ble_eq_true rfl) rfl rfl (Nat.le_of_ble_eq_true rfl) rfl rfl (Nat.zero_le _) (Nat.zero_le _) dX10_operation_76 ?_
              refine r_if_eq X 87 dX10_operation_79 rfl (fun c79 => ?_) (fun c79 => ?_)
              · replace hf := ifT hf c79
                refine r_aload_n X (x := k.b + (189)) dX10_operation_87 rfl ?_
                refine r_ldcwS X 31 rfl dX10_operation_88 ?_
                obtain ⟨u91, h91, hf⟩ := bdS hf
                refine r_callV0 X [.ref (k.sK 31)] [] (K10_isWord h91) lkX10_279 clsX10 rfl _ o_model (by decide) (Nat.le_of_ble_eq_true rfl) rfl rfl (Nat.le_of_ble_eq_true rfl) rfl rfl (Nat.zero_le _) (Nat.zero_le _) dX10_operation_91 ?_
                refine r_if_eq X 102 dX10_operation_94 rfl (fun c94 => ?_) (fun c94 => ?_)
                · replace hf := ifT hf c94
                  refine r_iconst X (v := (-1)) dX10_operation_102 rfl ?_
                  obtain rfl := Option.some.inj hf
                  exact r_ireturn X hQ rfl rfl (Nat.le_of_ble_eq_true rfl) (Nat.le_of_ble_eq_true rfl) dX10_operation_103
                · replace hf := ifF hf c94
                  refine r_bipush X (v := 7) dX10_operation_97 rfl ?_
                  refine r_goto X 103 dX10_operation_99 rfl ?_
                  obtain rfl := Option.some.inj hf
                  exact r_ireturn X hQ rfl rfl (Nat.le_of_ble_eq_true rfl) (Nat.le_of_ble_eq_true rfl) dX10_operation_103
              · replace hf := ifF hf c79
                refine r_bipush X (v := 6) dX10_operation_82 rfl ?_
                refine r_goto X 103 dX10_operation_84 rfl ?_
                obtain rfl := Option.some.inj hf
                exact r_ireturn X hQ rfl rfl (Nat.le_of_ble_eq_true rfl) (Nat.le_of_ble_eq_true rfl) dX10_operation_103
            · replace hf := ifF hf c67
              refine r_iconst X (v := 5) dX10_operation_70 rfl ?_
              obtain rfl := Option.some.inj hf
              exact r_ireturn X hQ rfl rfl (Nat.le_of_ble_eq_true rfl) (Nat.le_of_ble_eq_true rfl) dX10_operation_71
          · replace hf := ifF hf c55
            refine r_iconst X (v := 4) dX10_operation_58 rfl ?_
            obtain rfl := Option.some.inj hf
            exact r_ireturn X hQ rfl rfl (Nat.le_of_ble_eq_true rfl) (Nat.le_of_ble_eq_true rfl) dX10_operation_59
        · replace hf := ifF hf c43
          refine r_iconst X (v := 3) dX10_operation_46 rfl ?_
          obtain rfl := Option.some.inj hf
          exact r_ireturn X hQ rfl rfl (Nat.le_of_ble_eq_true rfl) (Nat.le_of_ble_eq_true rfl) dX10_operation_47
      · replace hf := ifF hf c31
        refine r_iconst X (v := 2) dX10_operation_34 rfl ?_
        obtain rfl := Option.some.inj hf
        exact r_ireturn X hQ rfl rfl (Nat.le_of_ble_eq_true rfl) (Nat.le_of_ble_eq_true rfl) dX10_operation_35
    · replace hf := ifF hf c19
      refine r_iconst X (v := 1) dX10_operation_22 rfl ?_
      obtain rfl := Option.some.inj hf
      exact r_ireturn X hQ rfl rfl (Nat.le_of_ble_eq_true rfl) (Nat.le_of_ble_eq_true rfl) dX10_operation_23
  · replace hf := ifF hf c7
    refine r_iconst X (v := 0) dX10_operation_10 rfl ?_
    obtain rfl := Option.some.inj hf
    exact r_ireturn X hQ rfl rfl (Nat.le_of_ble_eq_true rfl) (Nat.le_of_ble_eq_true rfl) dX10_operation_11
set_option maxRecDepth 100000 in
set_option maxHeartbeats 4000000 in
theorem K10_does {k : KT} {T : TT} {R : RR} {ly : Fin 2 → LL} {rc : RC} {hn : HN} {rp : RP} {tp : TP} {ee : EE} {st : Fin 12 → SS} {w : Nat → Int64} {aside : Nat → Int64} {thought : Nat → Int64} {fresh : Nat → Int64} {mu : MU} {th : Int32} {mp : MP} {mf : MF} {mh : MH} {mg : MG} {ou : Nat → Int64} {od : Nat → UInt64}  {x1 : Int32} {r : Int32 × (Nat → Int64)} (hf : f10_does mf w x1 = some r) : CT k strs yX10_does cX10_does 2 (some .boolean) (rmD 10 0 0) 0 0 [.ref (k.b + (189)), .int x1] (wAll k T R ly rc hn rp tp ee st w aside thought fresh mu th mp mf mh mg ou od) (some (.int r.1)) (wAll k T R ly rc hn rp tp ee st r.2 aside thought fresh mu th mp mf mh mg ou od) := by
  refine CT.of (by decide) (Nat.le_of_ble_eq_true rfl) ?_
  intro z X hQ
  show VW k z 0 0 (wAll k T R ly rc hn rp tp ee st w aside thought fresh mu th mp mf mh mg ou od) 0 [some (.ref (k.b + (189))), some (.int x1)] []
  unfold f10_does at hf
  refine r_iload_n X (x := x1) dX10_does_0 rfl ?_
  by_cases c1_0 : x1 = 0
  · replace hf := ifT hf c1_0
    refine r_tswIn X (off := 43) 44 dX10_does_1 (by rw [c1_0]; decide) (by rw [c1_0]; decide) (by rw [c1_0]; rfl) rfl ?_
    refine r_aload_n X (x := k.b + (189)) dX10_does_44 rfl ?_
    refine r_aload_n X (x := k.b + (189)) dX10_does_45 rfl ?_
    refine r_getfield X (v := .int (MF_first mf)) clsX10 flX10_343 (Nat.le_of_ble_eq_true rfl) _ o_model rfl dX10_does_46 ?_
    obtain ⟨u49, h49, hf⟩ := bdS hf
    refine r_callV0 X [.int (MF_first mf)] [] (K10_isValve h49) lkX10_148 clsX10 rfl _ o_model (by decide) (Nat.le_of_ble_eq_true rfl) rfl rfl (Nat.le_of_ble_eq_true rfl) rfl rfl (Nat.zero_le _) (Nat.zero_le _) dX10_does_49 ?_
    refine r_if_eq X 82 dX10_does_52 rfl (fun c52 => ?_) (fun c52 => ?_)
    · replace hf := ifT hf c52
      refine r_iconst X (v := 0) dX10_does_82 rfl ?_
      obtain rfl := Option.some.inj hf
      exact r_zreturn X hQ rfl rfl (Nat.le_of_ble_eq_true rfl) (Nat.le_of_ble_eq_true rfl) rfl dX10_does_83
    · replace hf := ifF hf c52
      refine r_aload_n X (x := k.b + (189)) dX10_does_55 rfl ?_
      refine r_aload_n X (x := k.b + (189)) dX10_does_56 rfl ?_
      refine r_getfield X (v := .int (MF_first mf)) clsX10 flX10_343 (Nat.le_of_ble_eq_true rfl) _ o_model rfl dX10_does_57 ?_
      obtain ⟨u60, h60, hf⟩ := bdS hf
      refine r_callV0 X [.int (MF_first mf)] [] (K10_canOpen h60) lkX10_155 clsX10 rfl _ o_model (by decide) (Nat.le_of_ble_eq_true rfl) rfl rfl (Nat.le_of_ble_eq_true rfl) rfl rfl (Nat.zero_le _) (Nat.zero_le _) dX10_does_60 ?_
      refine r_if_eq X 82 dX10_does_63 rfl (fun c63 => ?_) (fun c63 => ?_)
      · replace hf := ifT hf c63
        refine r_iconst X (v := 0) dX10_does_82 rfl ?_
        obtain rfl := Option.some.inj hf
        exact r_zreturn X hQ rfl rfl (Nat.le_of_ble_eq_true rfl) (Nat.le_of_ble_eq_true rfl) rfl dX10_does_83
      · replace hf := ifF hf c63
        refine r_aload_n X (x := k.b + (189)) dX10_does_66 rfl ?_
        refine r_aload_n X (x := k.b + (189)) dX10_does_67 rfl ?_
        refine r_getfield X (v := .int (MF_first mf)) clsX10 flX10_343 (Nat.le_of_ble_eq_true rfl) _ o_model rfl dX10_does_68 ?_
        refine r_iconst X (v := 1) dX10_does_71 rfl ?_
        obtain ⟨u72, h72, hf⟩ := bdS hf
        refine r_callV0 X [.int (MF_first mf), .int 1] [] (K10_turn h72) lkX10_161 clsX10 rfl _ o_model (by decide) (Nat.le_of_ble_eq_true rfl) rfl rfl (Nat.le_of_ble_eq_true rfl) rfl rfl (Nat.zero_le _) (Nat.zero_le _) dX10_does_72 ?_
        refine r_if_lt X 82 dX10_does_75 rfl (fun c75 => ?_) (fun c75 => ?_)
        · replace hf := ifT hf c75
          refine r_iconst X (v := 0) dX10_does_82 rfl ?_
          obtain rfl := Option.some.inj hf
          exact r_zreturn X hQ rfl rfl (Nat.le_of_ble_eq_true rfl) (Nat.le_of_ble_eq_true rfl) rfl dX10_does_83
        · replace hf := ifF hf c75
          refine r_iconst X (v := 1) dX10_does_78 rfl ?_
          refine r_goto X 83 dX10_does_79 rfl ?_
          obtain rfl := Option.some.inj hf
          exact r_zreturn X hQ rfl rfl (Nat.le_of_ble_eq_true rfl) (Nat.le_of_ble_eq_true rfl) rfl dX10_does_83
  replace hf := ifF hf c1_0
  by_cases c1_1 : x1 = 1
  · replace hf := ifT hf c1_1
    refine r_tswIn X (off := 83) 84 dX10_does_1 (by rw [c1_1]; decide) (by rw [c1_1]; decide) (by rw [c1_1]; rfl) rfl ?_
    refine r_aload_n X (x := k.b + (189)) dX10_does_84 rfl ?_
    refine r_aload_n X (x := k.b + (189)) dX10_does_85 rfl ?_
    refine r_getfield X (v := .int (MF_first mf)) clsX10 flX10_343 (Nat.le_of_ble_eq_true rfl) _ o_model rfl dX10_does_86 ?_
    obtain ⟨u89, h89, hf⟩ := bdS hf
    refine r_callV0 X [.int (MF_first mf)] [] (K10_isValve h89) lkX10_148 clsX10 rfl _ o_model (by decide) (Nat.le_of_ble_eq_true rfl) rfl rfl (Nat.le_of_ble_eq_true rfl) rfl rfl (Nat.zero_le _) (Nat.zero_le _) dX10_does_89 ?_
    refine r_if_eq X 122 dX10_does_92 rfl (fun c92 => ?_) (fun c92 => ?_)
    · replace hf := ifT hf c92
      refine r_iconst X (v := 0) dX10_does_122 rfl ?_
      obtain rfl := Option.some.inj hf
      exact r_zreturn X hQ rfl rfl (Nat.le_of_ble_eq_true rfl) (Nat.le_of_ble_eq_true rfl) rfl dX10_does_123
    · replace hf := ifF hf c92
      refine r_aload_n X (x := k.b + (189)) dX10_does_95 rfl ?_
      refine r_aload_n X (x := k.b + (189)) dX10_does_96 rfl ?_
      refine r_getfield X (v := .int (MF_first mf)) clsX10 flX10_343 (Nat.le_of_ble_eq_true rfl) _ o_model rfl dX10_does_97 ?_
      obtain ⟨u100, h100, hf⟩ := bdS hf
      refine r_callV0 X [.int (MF_first mf)] [] (K10_isOpen h100) lkX10_99 clsX10 rfl _ o_model (by decide) (Nat.le_of_ble_eq_true rfl) rfl rfl (Nat.le_of_ble_eq_true rfl) rfl rfl (Nat.zero_le _) (Nat.zero_le _) dX10_does_100 ?_
      refine r_if_eq X 122 dX10_does_103 rfl (fun c103 => ?_) (fun c103 => ?_)
      · replace hf := ifT hf c103
        refine r_iconst X (v := 0) dX10_does_122 rfl ?_
        obtain rfl := Option.some.inj hf
        exact r_zreturn X hQ rfl rfl (Nat.le_of_ble_eq_true rfl) (Nat.le_of_ble_eq_true rfl) rfl dX10_does_123
      · replace hf := ifF hf c103
        refine r_aload_n X (x := k.b + (189)) dX10_does_106 rfl ?_
        refine r_aload_n X (x := k.b + (189)) dX10_does_107 rfl ?_
        refine r_getfield X (v := .int (MF_first mf)) clsX10 flX10_343 (Nat.le_of_ble_eq_true rfl) _ o_model rfl dX10_does_108 ?_
        refine r_iconst X (v := 0) dX10_does_111 rfl ?_
        obtain ⟨u112, h112, hf⟩ := bdS hf
        refine r_callV0 X [.int (MF_first mf), .int 0] [] (K10_turn h112) lkX10_161 clsX10 rfl _ o_model (by decide) (Nat.le_of_ble_eq_true rfl) rfl rfl (Nat.le_of_ble_eq_true rfl) rfl rfl (Nat.zero_le _) (Nat.zero_le _) dX10_does_112 ?_
        refine r_if_lt X 122 dX10_does_115 rfl (fun c115 => ?_) (fun c115 => ?_)
        · replace hf := ifT hf c115
          refine r_iconst X (v := 0) dX10_does_122 rfl ?_
          obtain rfl := Option.some.inj hf
          exact r_zreturn X hQ rfl rfl (Nat.le_of_ble_eq_true rfl) (Nat.le_of_ble_eq_true rfl) rfl dX10_does_123
        · replace hf := ifF hf c115
          refine r_iconst X (v := 1) dX10_does_118 rfl ?_
          refine r_goto X 123 dX10_does_119 rfl ?_
          obtain rfl := Option.some.inj hf
          exact r_zreturn X hQ rfl rfl (Nat.le_of_ble_eq_true rfl) (Nat.le_of_ble_eq_true rfl) rfl dX10_does_123
  replace hf := ifF hf c1_1
  by_cases c1_2 : x1 = 2
  · replace hf := ifT hf c1_2
    refine r_tswIn X (off := 123) 124 dX10_does_1 (by rw [c1_2]; decide) (by rw [c1_2]; decide) (by rw [c1_2]; rfl) rfl ?_
    refine r_aload_n X (x := k.b + (189)) dX10_does_124 rfl ?_
    refine r_aload_n X (x := k.b + (189)) dX10_does_125 rfl ?_
    refine r_getfield X (v := .int (MF_first mf)) clsX10 flX10_343 (Nat.le_of_ble_eq_true rfl) _ o_model rfl dX10_does_126 ?_
    obtain ⟨u129, h129, hf⟩ := bdS hf
    refine r_callV0 X [.int (MF_first mf)] [] (K10_isPump h129) lkX10_164 clsX10 rfl _ o_model (by decide) (Nat.le_of_ble_eq_true rfl) rfl rfl (Nat.le_of_ble_eq_true rfl) rfl rfl (Nat.zero_le _) (Nat.zero_le _) dX10_does_129 ?_
    refine r_if_eq X 162 dX10_does_132 rfl (fun c132 => ?_) (fun c132 => ?_)
    · replace hf := ifT hf c132
      refine r_iconst X (v := 0) dX10_does_162 rfl ?_
      obtain rfl := Option.some.inj hf
      exact r_zreturn X hQ rfl rfl (Nat.le_of_ble_eq_true rfl) (Nat.le_of_ble_eq_true rfl) rfl dX10_does_163
    · replace hf := ifF hf c132
      refine r_aload_n X (x := k.b + (189)) dX10_does_135 rfl ?_
      refine r_aload_n X (x := k.b + (189)) dX10_does_136 rfl ?_
      refine r_getfield X (v := .int (MF_first mf)) clsX10 flX10_343 (Nat.le_of_ble_eq_true rfl) _ o_model rfl dX10_does_137 ?_
      obtain ⟨u140, h140, hf⟩ := bdS hf
      refine r_callV0 X [.int (MF_first mf)] [] (K10_canStart h140) lkX10_167 clsX10 rfl _ o_model (by decide) (Nat.le_of_ble_eq_true rfl) rfl rfl (Nat.le_of_ble_eq_true rfl) rfl rfl (Nat.zero_le _) (Nat.zero_le _) dX10_does_140 ?_
      refine r_if_eq X 162 dX10_does_143 rfl (fun c143 => ?_) (fun c143 => ?_)
      · replace hf := ifT hf c143
        refine r_iconst X (v := 0) dX10_does_162 rfl ?_
        obtain rfl := Option.some.inj hf
        exact r_zreturn X hQ rfl rfl (Nat.le_of_ble_eq_true rfl) (Nat.le_of_ble_eq_true rfl) rfl dX10_does_163
      · replace hf := ifF hf c143
        refine r_aload_n X (x := k.b + (189)) dX10_does_146 rfl ?_
        refine r_aload_n X (x := k.b + (189)) dX10_does_147 rfl ?_
        refine r_getfield X (v := .int (MF_first mf)) clsX10 flX10_343 (Nat.le_of_ble_eq_true rfl) _ o_model rfl dX10_does_148 ?_
        refine r_iconst X (v := 1) dX10_does_151 rfl ?_
        obtain ⟨u152, h152, hf⟩ := bdS hf
        refine r_callV0 X [.int (MF_first mf), .int 1] [] (K10_run h152) lkX10_170 clsX10 rfl _ o_model (by decide) (Nat.le_of_ble_eq_true rfl) rfl rfl (Nat.le_of_ble_eq_true rfl) rfl rfl (Nat.zero_le _) (Nat.zero_le _) dX10_does_152 ?_
        refine r_if_lt X 162 dX10_does_155 rfl (fun c155 => ?_) (fun c155 => ?_)
        · replace hf := ifT hf c155
          refine r_iconst X (v := 0) dX10_does_162 rfl ?_
          obtain rfl := Option.some.inj hf
          exact r_zreturn X hQ rfl rfl (Nat.le_of_ble_eq_true rfl) (Nat.le_of_ble_eq_true rfl) rfl dX10_does_163
        · replace hf := ifF hf c155
          refine r_iconst X (v := 1) dX10_does_158 rfl ?_
          refine r_goto X 163 dX10_does_159 rfl ?_
          obtain rfl := Option.some.inj hf
          exact r_zreturn X hQ rfl rfl (Nat.le_of_ble_eq_true rfl) (Nat.le_of_ble_eq_true rfl) rfl dX10_does_163
  replace hf := ifF hf c1_2
  by_cases c1_3 : x1 = 3
  · replace hf := ifT hf c1_3
    refine r_tswIn X (off := 163) 164 dX10_does_1 (by rw [c1_3]; decide) (by rw [c1_3]; decide) (by rw [c1_3]; rfl) rfl ?_
    refine r_aload_n X (x := k.b + (189)) dX10_does_164 rfl ?_
    refine r_aload_n X (x := k.b + (189)) dX10_does_165 rfl ?_
    refine r_getfield X (v := .int (MF_first mf)) clsX10 flX10_343 (Nat.le_of_ble_eq_true rfl) _ o_model rfl dX10_does_166 ?_
    obtain ⟨u169, h169, hf⟩ := bdS hf
    refine r_callV0 X [.int (MF_first mf)] [] (K10_isPump h169) lkX10_164 clsX10 rfl _ o_model (by decide) (Nat.le_of_ble_eq_true rfl) rfl rfl (Nat.le_of_ble_eq_true rfl) rfl rfl (Nat.zero_le _) (Nat.zero_le _) dX10_does_169 ?_
    refine r_if_eq X 202 dX10_does_172 rfl (fun c172 => ?_) (fun c172 => ?_)
    · replace hf := ifT hf c172
      refine r_iconst X (v := 0) dX10_does_202 rfl ?_
      obtain rfl := Option.some.inj hf
      exact r_zreturn X hQ rfl rfl (Nat.le_of_ble_eq_true rfl) (Nat.le_of_ble_eq_true rfl) rfl dX10_does_203
    · replace hf := ifF hf c172
      refine r_aload_n X (x := k.b + (189)) dX10_does_175 rfl ?_
      refine r_aload_n X (x := k.b + (189)) dX10_does_176 rfl ?_
      refine r_getfield X (v := .int (MF_first mf)) clsX10 flX10_343 (Nat.le_of_ble_eq_true rfl) _ o_model rfl dX10_does_177 ?_
      obtain ⟨u180, h180, hf⟩ := bdS hf
      refine r_callV0 X [.int (MF_first mf)] [] (K10_isRunning h180) lkX10_135 clsX10 rfl _ o_model (by decide) (Nat.le_of_ble_eq_true rfl) rfl rfl (Nat.le_of_ble_eq_true rfl) rfl rfl (Nat.zero_le _) (Nat.zero_le _) dX10_does_180 ?_
      refine r_if_eq X 202 dX10_does_183 rfl (fun c183 => ?_) (fun c183 => ?_)
      · replace hf := ifT hf c183
        refine r_iconst X (v := 0) dX10_does_202 rfl ?_
        obtain rfl := Option.some.inj hf
        exact r_zreturn X hQ rfl rfl (Nat.le_of_ble_eq_true rfl) (Nat.le_of_ble_eq_true rfl) rfl dX10_does_203
      · replace hf := ifF hf c183
        refine r_aload_n X (x := k.b + (189)) dX10_does_186 rfl ?_
        refine r_aload_n X (x := k.b + (189)) dX10_does_187 rfl ?_
        refine r_getfield X (v := .int (MF_first mf)) clsX10 flX10_343 (Nat.le_of_ble_eq_true rfl) _ o_model rfl dX10_does_188 ?_
        refine r_iconst X (v := 0) dX10_does_191 rfl ?_
        obtain ⟨u192, h192, hf⟩ := bdS hf
        refine r_callV0 X [.int (MF_first mf), .int 0] [] (K10_run h192) lkX10_170 clsX10 rfl _ o_model (by decide) (Nat.le_of_ble_eq_true rfl) rfl rfl (Nat.le_of_ble_eq_true rfl) rfl rfl (Nat.zero_le _) (Nat.zero_le _) dX10_does_192 ?_
        refine r_if_lt X 202 dX10_does_195 rfl (fun c195 => ?_) (fun c195 => ?_)
        · replace hf := ifT hf c195
          refine r_iconst X (v := 0) dX10_does_202 rfl ?_
          obtain rfl := Option.some.inj hf
          exact r_zreturn X hQ rfl rfl (Nat.le_of_ble_eq_true rfl) (Nat.le_of_ble_eq_true rfl) rfl dX10_does_203
        · replace hf := ifF hf c195
          refine r_iconst X (v := 1) dX10_does_198 rfl ?_
          refine r_goto X 203 dX10_does_199 rfl ?_
          obtain rfl := Option.some.inj hf
          exact r_zreturn X hQ rfl rfl (Nat.le_of_ble_eq_true rfl) (Nat.le_of_ble_eq_true rfl) rfl dX10_does_203
  replace hf := ifF hf c1_3
  by_cases c1_4 : x1 = 4
  · replace hf := ifT hf c1_4
    refine r_tswIn X (off := 203) 204 dX10_does_1 (by rw [c1_4]; decide) (by rw [c1_4]; decide) (by rw [c1_4]; rfl) rfl ?_
    refine r_aload_n X (x := k.b + (189)) dX10_does_204 rfl ?_
    refine r_getfield X (v := .int (MF_first mf)) clsX10 flX10_343 (Nat.le_of_ble_eq_true rfl) _ o_model rfl dX10_does_205 ?_
    obtain ⟨u208, h208, hf⟩ := bdS hf
    refine r_callS0 X [.int (MF_first mf)] [] (K10_isTicks h208) lkX10_173 (by decide) (Nat.le_of_ble_eq_true rfl) rfl rfl (Nat.le_of_ble_eq_true rfl) rfl rfl (Nat.zero_le _) (Nat.zero_le _) dX10_does_208 ?_
    refine r_if_eq X 229 dX10_does_211 rfl (fun c211 => ?_) (fun c211 => ?_)
    · replace hf := ifT hf c211
      refine r_iconst X (v := 0) dX10_does_229 rfl ?_
      obtain rfl := Option.some.inj hf
      exact r_zreturn X hQ rfl rfl (Nat.le_of_ble_eq_true rfl) (Nat.le_of_ble_eq_true rfl) rfl dX10_does_230
    · replace hf := ifF hf c211
      refine r_aload_n X (x := k.b + (189)) dX10_does_214 rfl ?_
      refine r_aload_n X (x := k.b + (189)) dX10_does_215 rfl ?_
      refine r_getfield X (v := .int (MF_first mf)) clsX10 flX10_343 (Nat.le_of_ble_eq_true rfl) _ o_model rfl dX10_does_216 ?_
      obtain ⟨u219, h219, hf⟩ := bdS hf
      refine r_callV0 X [.int (MF_first mf)] [] (K10_passNow h219) lkX10_176 clsX10 rfl _ o_model (by decide) (Nat.le_of_ble_eq_true rfl) rfl rfl (Nat.le_of_ble_eq_true rfl) rfl rfl (Nat.zero_le _) (Nat.zero_le _) dX10_does_219 ?_
      refine r_if_lt X 229 dX10_does_222 rfl (fun c222 => ?_) (fun c222 => ?_)
      · replace hf := ifT hf c222
        refine r_iconst X (v := 0) dX10_does_229 rfl ?_
        obtain rfl := Option.some.inj hf
        exact r_zreturn X hQ rfl rfl (Nat.le_of_ble_eq_true rfl) (Nat.le_of_ble_eq_true rfl) rfl dX10_does_230
      · replace hf := ifF hf c222
        refine r_iconst X (v := 1) dX10_does_225 rfl ?_
        refine r_goto X 230 dX10_does_226 rfl ?_
        obtain rfl := Option.some.inj hf
        exact r_zreturn X hQ rfl rfl (Nat.le_of_ble_eq_true rfl) (Nat.le_of_ble_eq_true rfl) rfl dX10_does_230
  replace hf := ifF hf c1_4
  by_cases c1_5 : x1 = 5
  · replace hf := ifT hf c1_5
    refine r_tswIn X (off := 230) 231 dX10_does_1 (by rw [c1_5]; decide) (by rw [c1_5]; decide) (by rw [c1_5]; rfl) rfl ?_
    refine r_aload_n X (x := k.b + (189)) dX10_does_231 rfl ?_
    refine r_aload_n X (x := k.b + (189)) dX10_does_232 rfl ?_
    refine r_getfield X (v := .int (MF_first mf)) clsX10 flX10_343 (Nat.le_of_ble_eq_true rfl) _ o_model rfl dX10_does_233 ?_
    obtain ⟨u236, h236, hf⟩ := bdS hf
    refine r_callV0 X [.int (MF_first mf)] [] (K10_isFlange h236) lkX10_191 clsX10 rfl _ o_model (by decide) (Nat.le_of_ble_eq_true rfl) rfl rfl (Nat.le_of_ble_eq_true rfl) rfl rfl (Nat.zero_le _) (Nat.zero_le _) dX10_does_236 ?_
    refine r_if_eq X 263 dX10_does_239 rfl (fun c239 => ?_) (fun c239 => ?_)
    · replace hf := ifT hf c239
      refine r_iconst X (v := 0) dX10_does_263 rfl ?_
      obtain rfl := Option.some.inj hf
      exact r_zreturn X hQ rfl rfl (Nat.le_of_ble_eq_true rfl) (Nat.le_of_ble_eq_true rfl) rfl dX10_does_264
    · replace hf := ifF hf c239
      refine r_aload_n X (x := k.b + (189)) dX10_does_242 rfl ?_
      refine r_aload_n X (x := k.b + (189)) dX10_does_243 rfl ?_
      refine r_getfield X (v := .int (MF_first mf)) clsX10 flX10_343 (Nat.le_of_ble_eq_true rfl) _ o_model rfl dX10_does_244 ?_
      obtain ⟨u247, h247, hf⟩ := bdS hf
      refine r_callS0 X [.int (MF_first mf)] [.ref (k.b + (189))] (K10_flangeAt h247) lkX10_96 (by decide) (Nat.le_of_ble_eq_true rfl) rfl rfl (Nat.le_of_ble_eq_true rfl) rfl rfl (Nat.zero_le _) (Nat.zero_le _) dX10_does_247 ?_
      refine r_iconst X (v := 1) dX10_does_250 rfl ?_
      refine r_iadd X dX10_does_251 ?_
      refine r_iconst X (v := 0) dX10_does_252 rfl ?_
      obtain ⟨u253, h253, hf⟩ := bdS hf
      refine r_callV0 X [.int (u247 + 1), .int 0] [] (K10_setNow h253) lkX10_188 clsX10 rfl _ o_model (by decide) (Nat.le_of_ble_eq_true rfl) rfl rfl (Nat.le_of_ble_eq_true rfl) rfl rfl (Nat.zero_le _) (Nat.zero_le _) dX10_does_253 ?_
      refine r_if_lt X 263 dX10_does_256 rfl (fun c256 => ?_) (fun c256 => ?_)
      · replace hf := ifT hf c256
        refine r_iconst X (v := 0) dX10_does_263 rfl ?_
        obtain rfl := Option.some.inj hf
        exact r_zreturn X hQ rfl rfl (Nat.le_of_ble_eq_true rfl) (Nat.le_of_ble_eq_true rfl) rfl dX10_does_264
      · replace hf := ifF hf c256
        refine r_iconst X (v := 1) dX10_does_259 rfl ?_
        refine r_goto X 264 dX10_does_260 rfl ?_
        obtain rfl := Option.some.inj hf
        exact r_zreturn X hQ rfl rfl (Nat.le_of_ble_eq_true rfl) (Nat.le_of_ble_eq_true rfl) rfl dX10_does_264
  replace hf := ifF hf c1_5
  by_cases c1_6 : x1 = 6
  · replace hf := ifT hf c1_6
    refine r_tswIn X (off := 264) 265 dX10_does_1 (by rw [c1_6]; decide) (by rw [c1_6]; decide) (by rw [c1_6]; rfl) rfl ?_
    refine r_aload_n X (x := k.b + (189)) dX10_does_265 rfl ?_
    refine r_aload_n X (x := k.b + (189)) dX10_does_266 rfl ?_
    refine r_getfield X (v := .int (MF_first mf)) clsX10 flX10_343 (Nat.le_of_ble_eq_true rfl) _ o_model rfl dX10_does_267 ?_
    obtain ⟨u270, h270, hf⟩ := bdS hf
    refine r_callV0 X [.int (MF_first mf)] [] (K10_isChamber h270) lkX10_179 clsX10 rfl _ o_model (by decide) (Nat.le_of_ble_eq_true rfl) rfl rfl (Nat.le_of_ble_eq_true rfl) rfl rfl (Nat.zero_le _) (Nat.zero_le _) dX10_does_270 ?_
    refine r_if_eq X 305 dX10_does_273 rfl (fun c273 => ?_) (fun c273 => ?_)
    · replace hf := ifT hf c273
      refine r_iconst X (v := 0) dX10_does_305 rfl ?_
      obtain rfl := Option.some.inj hf
      exact r_zreturn X hQ rfl rfl (Nat.le_of_ble_eq_true rfl) (Nat.le_of_ble_eq_true rfl) rfl dX10_does_306
    · replace hf := ifF hf c273
      refine r_aload_n X (x := k.b + (189)) dX10_does_276 rfl ?_
      refine r_getfield X (v := .int (MF_second mf)) clsX10 flX10_346 (Nat.le_of_ble_eq_true rfl) _ o_model rfl dX10_does_277 ?_
      obtain ⟨u280, h280, hf⟩ := bdS hf
      refine r_callS0 X [.int (MF_second mf)] [] (K10_isPressure h280) lkX10_182 (by decide) (Nat.le_of_ble_eq_true rfl) rfl rfl (Nat.le_of_ble_eq_true rfl) rfl rfl (Nat.zero_le _) (Nat.zero_le _) dX10_does_280 ?_
      refine r_if_eq X 305 dX10_does_283 rfl (fun c283 => ?_) (fun c283 => ?_)
      · replace hf := ifT hf c283
        refine r_iconst X (v := 0) dX10_does_305 rfl ?_
        obtain rfl := Option.some.inj hf
        exact r_zreturn X hQ rfl rfl (Nat.le_of_ble_eq_true rfl) (Nat.le_of_ble_eq_true rfl) rfl dX10_does_306
      · replace hf := ifF hf c283
        refine r_aload_n X (x := k.b + (189)) dX10_does_286 rfl ?_
        refine r_aload_n X (x := k.b + (189)) dX10_does_287 rfl ?_
        refine r_getfield X (v := .int (MF_first mf)) clsX10 flX10_343 (Nat.le_of_ble_eq_true rfl) _ o_model rfl dX10_does_288 ?_
        refine r_aload_n X (x := k.b + (189)) dX10_does_291 rfl ?_
        refine r_getfield X (v := .int (MF_second mf)) clsX10 flX10_346 (Nat.le_of_ble_eq_true rfl) _ o_model rfl dX10_does_292 ?_
        obtain ⟨u295, h295, hf⟩ := bdS hf
        refine r_callV0 X [.int (MF_first mf), .int (MF_second mf)] [] (K10_goDown h295) lkX10_185 clsX10 rfl _ o_model (by decide) (Nat.le_of_ble_eq_true rfl) rfl rfl (Nat.le_of_ble_eq_true rfl) rfl rfl (Nat.zero_le _) (Nat.zero_le _) dX10_does_295 ?_
        refine r_if_lt X 305 dX10_does_298 rfl (fun c298 => ?_) (fun c298 => ?_)
        · replace hf := ifT hf c298
          refine r_iconst X (v := 0) dX10_does_305 rfl ?_
          obtain rfl := Option.some.inj hf
          exact r_zreturn X hQ rfl rfl (Nat.le_of_ble_eq_true rfl) (Nat.le_of_ble_eq_true rfl) rfl dX10_does_306
        · replace hf := ifF hf c298
          refine r_iconst X (v := 1) dX10_does_301 rfl ?_
          refine r_goto X 306 dX10_does_302 rfl ?_
          obtain rfl := Option.some.inj hf
          exact r_zreturn X hQ rfl rfl (Nat.le_of_ble_eq_true rfl) (Nat.le_of_ble_eq_true rfl) rfl dX10_does_306
  replace hf := ifF hf c1_6
  refine r_tswOut X 307 dX10_does_1 (tsw_out (fun v hv1 hv2 => by
    rcases (show v = 0 ∨ v = 1 ∨ v = 2 ∨ v = 3 ∨ v = 4 ∨ v = 5 ∨ v = 6 by omega) with rfl | rfl | rfl | rfl | rfl | rfl | rfl
    · exact c1_0
    · exact c1_1
    · exact c1_2
    · exact c1_3
    · exact c1_4
    · exact c1_5
    · exact c1_6
    )) rfl ?_
  refine r_aload_n X (x := k.b + (189)) dX10_does_307 rfl ?_
  refine r_aload_n X (x := k.b + (189)) dX10_does_308 rfl ?_
  refine r_getfield X (v := .int (MF_first mf)) clsX10 flX10_343 (Nat.le_of_ble_eq_true rfl) _ o_model rfl dX10_does_309 ?_
  obtain ⟨u312, h312, hf⟩ := bdS hf
  refine r_callV0 X [.int (MF_first mf)] [] (K10_isChamber h312) lkX10_179 clsX10 rfl _ o_model (by decide) (Nat.le_of_ble_eq_true rfl) rfl rfl (Nat.le_of_ble_eq_true rfl) rfl rfl (Nat.zero_le _) (Nat.zero_le _) dX10_does_312 ?_
  refine r_if_eq X 358 dX10_does_315 rfl (fun c315 => ?_) (fun c315 => ?_)
  · replace hf := ifT hf c315
    refine r_iconst X (v := 0) dX10_does_358 rfl ?_
    obtain rfl := Option.some.inj hf
    exact r_zreturn X hQ rfl rfl (Nat.le_of_ble_eq_true rfl) (Nat.le_of_ble_eq_true rfl) rfl dX10_does_359
  · replace hf := ifF hf c315
    refine r_aload_n X (x := k.b + (189)) dX10_does_318 rfl ?_
    refine r_getfield X (v := .int (MF_second mf)) clsX10 flX10_346 (Nat.le_of_ble_eq_true rfl) _ o_model rfl dX10_does_319 ?_
    obtain ⟨u322, h322, hf⟩ := bdS hf
    refine r_callS0 X [.int (MF_second mf)] [] (K10_isTestTicks h322) lkX10_214 (by decide) (Nat.le_of_ble_eq_true rfl) rfl rfl (Nat.le_of_ble_eq_true rfl) rfl rfl (Nat.zero_le _) (Nat.zero_le _) dX10_does_322 ?_
    refine r_if_eq X 358 dX10_does_325 rfl (fun c325 => ?_) (fun c325 => ?_)
    · replace hf := ifT hf c325
      refine r_iconst X (v := 0) dX10_does_358 rfl ?_
      obtain rfl := Option.some.inj hf
      exact r_zreturn X hQ rfl rfl (Nat.le_of_ble_eq_true rfl) (Nat.le_of_ble_eq_true rfl) rfl dX10_does_359
    · replace hf := ifF hf c325
      refine r_aload_n X (x := k.b + (189)) dX10_does_328 rfl ?_
      refine r_aload_n X (x := k.b + (189)) dX10_does_329 rfl ?_
      refine r_getfield X (v := .int (MF_first mf)) clsX10 flX10_343 (Nat.le_of_ble_eq_true rfl) _ o_model rfl dX10_does_330 ?_
      obtain ⟨u333, h333, hf⟩ := bdS hf
      refine r_callV0 X [.int (MF_first mf)] [] (K10_isAlone h333) lkX10_217 clsX10 rfl _ o_model (by decide) (Nat.le_of_ble_eq_true rfl) rfl rfl (Nat.le_of_ble_eq_true rfl) rfl rfl (Nat.zero_le _) (Nat.zero_le _) dX10_does_333 ?_
      refine r_if_eq X 358 dX10_does_336 rfl (fun c336 => ?_) (fun c336 => ?_)
      · replace hf := ifT hf c336
        refine r_iconst X (v := 0) dX10_does_358 rfl ?_
        obtain rfl := Option.some.inj hf
        exact r_zreturn X hQ rfl rfl (Nat.le_of_ble_eq_true rfl) (Nat.le_of_ble_eq_true rfl) rfl dX10_does_359
      · replace hf := ifF hf c336
        refine r_aload_n X (x := k.b + (189)) dX10_does_339 rfl ?_
        refine r_aload_n X (x := k.b + (189)) dX10_does_340 rfl ?_
        refine r_getfield X (v := .int (MF_first mf)) clsX10 flX10_343 (Nat.le_of_ble_eq_true rfl) _ o_model rfl dX10_does_341 ?_
        refine r_aload_n X (x := k.b + (189)) dX10_does_344 rfl ?_
        refine r_getfield X (v := .int (MF_second mf)) clsX10 flX10_346 (Nat.le_of_ble_eq_true rfl) _ o_model rfl dX10_does_345 ?_
        obtain ⟨u348, h348, hf⟩ := bdS hf
        refine r_callV0 X [.int (MF_first mf), .int (MF_second mf)] [] (K10_testNow h348) lkX10_220 clsX10 rfl _ o_model (by decide) (Nat.le_of_ble_eq_true rfl) rfl rfl (Nat.le_of_ble_eq_true rfl) rfl rfl (Nat.zero_le _) (Nat.zero_le _) dX10_does_348 ?_
        refine r_if_lt X 358 dX10_does_351 rfl (fun c351 => ?_) (fun c351 => ?_)
        · replace hf := ifT hf c351
          refine r_iconst X (v := 0) dX10_does_358 rfl ?_
          obtain rfl := Option.some.inj hf
          exact r_zreturn X hQ rfl rfl (Nat.le_of_ble_eq_true rfl) (Nat.le_of_ble_eq_true rfl) rfl dX10_does_359
        · replace hf := ifF hf c351
          refine r_iconst X (v := 1) dX10_does_354 rfl ?_
          refine r_goto X 359 dX10_does_355 rfl ?_
          obtain rfl := Option.some.inj hf
          exact r_zreturn X hQ rfl rfl (Nat.le_of_ble_eq_true rfl) (Nat.le_of_ble_eq_true rfl) rfl dX10_does_359
set_option maxRecDepth 100000 in
set_option maxHeartbeats 4000000 in
theorem B10_goesThrough_B80 {k : KT} {z : ZT} {T : TT} {R : RR} {ly : Fin 2 → LL} {rc : RC} {hn : HN} {rp : RP} {tp : TP} {ee : EE} {st : Fin 12 → SS} {aside : Nat → Int64} {thought : Nat → Int64} {fresh : Nat → Int64} {mu : MU} {th : Int32} {mh : MH} {mg : MG} {ou : Nat → Int64} {od : Nat → UInt64} {r : (Nat → Int64) × (MP) × (MF)} (X : XX k strs z RX10 cX10_goesThrough 3 none (rmD 11 0 0)) (hQ : zQ z = MQ (zB z) (Qof k (none) (wAll k T R ly rc hn rp tp ee st r.1 aside thought fresh mu th r.2.1 r.2.2 mh mg ou od)) (zA z) (zS z) 0 0 (kA k)) (w : Nat → Int64) (mp : MP) (mf : MF) (x1 : Int32) (x2 : Int32) (hf : f10_goesThrough_B80  w mp mf x1 x2 = some r) : VW k z 0 0 (wAll k T R ly rc hn rp tp ee st w aside thought fresh mu th mp mf mh mg ou od) 80 [some (.ref (k.b + (189))), some (.int x1), some (.int x2)] [] := by
  unfold f10_goesThrough_B80 at hf
  refine r_aload_n X (x := k.b + (189)) dX10_goesThrough_80 rfl ?_
  refine r_getfield X (v := .int (MP_fault mp)) clsX10 flX10_255 (Nat.le_of_ble_eq_true rfl) _ o_model rfl dX10_goesThrough_81 ?_
  refine r_if_gt X 95 dX10_goesThrough_84 rfl (fun c84 => ?_) (fun c84 => ?_)
  · replace hf := ifT hf c84
    obtain rfl := Option.some.inj hf
    exact r_return X hQ rfl rfl (Nat.le_of_ble_eq_true rfl) (Nat.le_of_ble_eq_true rfl) dX10_goesThrough_95
  · replace hf := ifF hf c84
    refine r_aload_n X (x := k.b + (189)) dX10_goesThrough_87 rfl ?_
    refine r_iload_n X (x := x2) dX10_goesThrough_88 rfl ?_
    obtain ⟨u89, h89, hf⟩ := bdS hf
    refine r_callV0 X [.int x2] [] (K10_does h89) lkX10_354 clsX10 rfl _ o_model (by decide) (Nat.le_of_ble_eq_true rfl) rfl rfl (Nat.le_of_ble_eq_true rfl) rfl rfl (Nat.zero_le _) (Nat.zero_le _) dX10_goesThrough_89 ?_
    refine r_if_eq X 96 dX10_goesThrough_92 rfl (fun c92 => ?_) (fun c92 => ?_)
    · replace hf := ifT hf c92
      refine r_aload_n X (x := k.b + (189)) dX10_goesThrough_96 rfl ?_
      refine r_iconst X (v := 1) dX10_goesThrough_97 rfl ?_
      refine r_putfield X (ws1 := wAll k T R ly rc hn rp tp ee st u89.2 aside thought fresh mu th (MP_set_fault mp 1) mf mh mg ou od) clsX10 flX10_255 (Nat.le_of_ble_eq_true rfl) rfl rfl rfl _ o_model (Nat.le_of_ble_eq_true rfl) (s_mp_fault 1) dX10_goesThrough_98 ?_
      refine r_aload_n X (x := k.b + (189)) dX10_goesThrough_101 rfl ?_
      refine r_iload_n X (x := x1) dX10_goesThrough_102 rfl ?_
      refine r_putfield X (ws1 := wAll k T R ly rc hn rp tp ee st u89.2 aside thought fresh mu th (MP_set_faultAt (MP_set_fault mp 1) x1) mf mh mg ou od) clsX10 flX10_29 (Nat.le_of_ble_eq_true rfl) rfl rfl rfl _ o_model (Nat.le_of_ble_eq_true rfl) (s_mp_faultAt x1) dX10_goesThrough_103 ?_
      obtain rfl := Option.some.inj hf
      exact r_return X hQ rfl rfl (Nat.le_of_ble_eq_true rfl) (Nat.le_of_ble_eq_true rfl) dX10_goesThrough_106
    · replace hf := ifF hf c92
      obtain rfl := Option.some.inj hf
      exact r_return X hQ rfl rfl (Nat.le_of_ble_eq_true rfl) (Nat.le_of_ble_eq_true rfl) dX10_goesThrough_95
set_option maxRecDepth 100000 in
set_option maxHeartbeats 4000000 in
theorem B10_goesThrough_B55 {k : KT} {z : ZT} {T : TT} {R : RR} {ly : Fin 2 → LL} {rc : RC} {hn : HN} {rp : RP} {tp : TP} {ee : EE} {st : Fin 12 → SS} {aside : Nat → Int64} {thought : Nat → Int64} {fresh : Nat → Int64} {mu : MU} {th : Int32} {mh : MH} {mg : MG} {ou : Nat → Int64} {od : Nat → UInt64} {r : (Nat → Int64) × (MP) × (MF)} (X : XX k strs z RX10 cX10_goesThrough 3 none (rmD 11 0 0)) (hQ : zQ z = MQ (zB z) (Qof k (none) (wAll k T R ly rc hn rp tp ee st r.1 aside thought fresh mu th r.2.1 r.2.2 mh mg ou od)) (zA z) (zS z) 0 0 (kA k)) (w : Nat → Int64) (mp : MP) (mf : MF) (x1 : Int32) (x2 : Int32) (t1 : Int32) (hf : f10_goesThrough_B55  w mp mf x1 x2 t1 = some r) : VW k z 0 0 (wAll k T R ly rc hn rp tp ee st w aside thought fresh mu th mp mf mh mg ou od) 55 [some (.ref (k.b + (189))), some (.int x1), some (.int x2)] [.int t1, .ref (k.b + (189))] := by
  unfold f10_goesThrough_B55 at hf
  refine r_putfield X (ws1 := wAll k T R ly rc hn rp tp ee st w aside thought fresh mu th mp (MF_set_second mf t1) mh mg ou od) clsX10 flX10_346 (Nat.le_of_ble_eq_true rfl) rfl rfl rfl _ o_model (Nat.le_of_ble_eq_true rfl) (s_mf_second t1) dX10_goesThrough_55 ?_
  refine r_aload_n X (x := k.b + (189)) dX10_goesThrough_58 rfl ?_
  refine r_getfield X (v := .int (MP_fault mp)) clsX10 flX10_255 (Nat.le_of_ble_eq_true rfl) _ o_model rfl dX10_goesThrough_59 ?_
  refine r_if_ne X 80 dX10_goesThrough_62 rfl (fun c62 => ?_) (fun c62 => ?_)
  · replace hf := ifF hf c62
    exact B10_goesThrough_B80 X hQ w mp (MF_set_second mf t1) x1 x2 hf
  · replace hf := ifT hf c62
    refine r_aload_n X (x := k.b + (189)) dX10_goesThrough_65 rfl ?_
    refine r_ldcwS X 19 rfl dX10_goesThrough_66 ?_
    obtain ⟨u69, h69, hf⟩ := bdS hf
    refine r_callV0 X [.ref (k.sK 19)] [] (K10_isWord h69) lkX10_279 clsX10 rfl _ o_model (by decide) (Nat.le_of_ble_eq_true rfl) rfl rfl (Nat.le_of_ble_eq_true rfl) rfl rfl (Nat.zero_le _) (Nat.zero_le _) dX10_goesThrough_69 ?_
    refine r_if_ne X 80 dX10_goesThrough_72 rfl (fun c72 => ?_) (fun c72 => ?_)
    · replace hf := ifF hf c72
      exact B10_goesThrough_B80 X hQ w mp (MF_set_second mf t1) x1 x2 hf
    · replace hf := ifT hf c72
      refine r_aload_n X (x := k.b + (189)) dX10_goesThrough_75 rfl ?_
      refine r_iconst X (v := 1) dX10_goesThrough_76 rfl ?_
      obtain ⟨u77, h77, hf⟩ := bdS hf
      refine r_callV0 X [.int 1] [] (K10_wrong h77) lkX10_269 clsX10 rfl _ o_model (by decide) (Nat.le_of_ble_eq_true rfl) rfl rfl (Nat.le_of_ble_eq_true rfl) rfl rfl (Nat.zero_le _) (Nat.zero_le _) dX10_goesThrough_77 ?_
      exact B10_goesThrough_B80 X hQ w u77 (MF_set_second mf t1) x1 x2 hf
set_option maxRecDepth 100000 in
set_option maxHeartbeats 4000000 in
theorem B10_goesThrough_B20 {k : KT} {z : ZT} {T : TT} {R : RR} {ly : Fin 2 → LL} {rc : RC} {hn : HN} {rp : RP} {tp : TP} {ee : EE} {st : Fin 12 → SS} {aside : Nat → Int64} {thought : Nat → Int64} {fresh : Nat → Int64} {mu : MU} {th : Int32} {mh : MH} {mg : MG} {ou : Nat → Int64} {od : Nat → UInt64} {r : (Nat → Int64) × (MP) × (MF)} (X : XX k strs z RX10 cX10_goesThrough 3 none (rmD 11 0 0)) (hQ : zQ z = MQ (zB z) (Qof k (none) (wAll k T R ly rc hn rp tp ee st r.1 aside thought fresh mu th r.2.1 r.2.2 mh mg ou od)) (zA z) (zS z) 0 0 (kA k)) (w : Nat → Int64) (mp : MP) (mf : MF) (x1 : Int32) (x2 : Int32) (hf : f10_goesThrough_B20  w mp mf x1 x2 = some r) : VW k z 0 0 (wAll k T R ly rc hn rp tp ee st w aside thought fresh mu th mp mf mh mg ou od) 20 [some (.ref (k.b + (189))), some (.int x1), some (.int x2)] [] := by
  unfold f10_goesThrough_B20 at hf
  refine r_aload_n X (x := k.b + (189)) dX10_goesThrough_20 rfl ?_
  obtain ⟨u21, h21, hf⟩ := bdS hf
  refine r_callV0 X [] [] (K10_goOn h21) lkX10_276 clsX10 rfl _ o_model (by decide) (Nat.le_of_ble_eq_true rfl) rfl rfl (Nat.le_of_ble_eq_true rfl) rfl rfl (Nat.zero_le _) (Nat.zero_le _) dX10_goesThrough_21 ?_
  refine r_aload_n X (x := k.b + (189)) dX10_goesThrough_24 rfl ?_
  refine r_aload_n X (x := k.b + (189)) dX10_goesThrough_25 rfl ?_
  refine r_lconst X (v := 0) dX10_goesThrough_26 rfl ?_
  refine r_ldc2 X (v := 9999999) coX10_352 dX10_goesThrough_27 ?_
  obtain ⟨u30, h30, hf⟩ := bdS hf
  refine r_callV0 X [.long 0, .long 9999999] [.ref (k.b + (189))] (K10_number h30) lkX10_283 clsX10 rfl _ o_model (by decide) (Nat.le_of_ble_eq_true rfl) rfl rfl (Nat.le_of_ble_eq_true rfl) rfl rfl (Nat.zero_le _) (Nat.zero_le _) dX10_goesThrough_30 ?_
  refine r_putfield X (ws1 := wAll k T R ly rc hn rp tp ee st w aside thought fresh mu th u30.2 (MF_set_first mf u30.1) mh mg ou od) clsX10 flX10_343 (Nat.le_of_ble_eq_true rfl) rfl rfl rfl _ o_model (Nat.le_of_ble_eq_true rfl) (s_mf_first u30.1) dX10_goesThrough_33 ?_
  refine r_aload_n X (x := k.b + (189)) dX10_goesThrough_36 rfl ?_
  refine r_iload_n X (x := x2) dX10_goesThrough_37 rfl ?_
  refine r_bipush X (v := 6) dX10_goesThrough_38 rfl ?_
  refine r_icmp_lt X 54 dX10_goesThrough_40 rfl (fun c40 => ?_) (fun c40 => ?_)
  · replace hf := ifT hf c40
    refine r_iconst X (v := 0) dX10_goesThrough_54 rfl ?_
    exact B10_goesThrough_B55 X hQ w u30.2 (MF_set_first mf u30.1) x1 x2 0 hf
  · replace hf := ifF hf c40
    refine r_aload_n X (x := k.b + (189)) dX10_goesThrough_43 rfl ?_
    refine r_lconst X (v := 0) dX10_goesThrough_44 rfl ?_
    refine r_ldc2 X (v := 9999999) coX10_352 dX10_goesThrough_45 ?_
    obtain ⟨u48, h48, hf⟩ := bdS hf
    refine r_callV0 X [.long 0, .long 9999999] [.ref (k.b + (189))] (K10_number h48) lkX10_283 clsX10 rfl _ o_model (by decide) (Nat.le_of_ble_eq_true rfl) rfl rfl (Nat.le_of_ble_eq_true rfl) rfl rfl (Nat.zero_le _) (Nat.zero_le _) dX10_goesThrough_48 ?_
    refine r_goto X 55 dX10_goesThrough_51 rfl ?_
    exact B10_goesThrough_B55 X hQ w u48.2 (MF_set_first mf u30.1) x1 x2 u48.1 hf
set_option maxRecDepth 100000 in
set_option maxHeartbeats 4000000 in
theorem K10_goesThrough {k : KT} {T : TT} {R : RR} {ly : Fin 2 → LL} {rc : RC} {hn : HN} {rp : RP} {tp : TP} {ee : EE} {st : Fin 12 → SS} {w : Nat → Int64} {aside : Nat → Int64} {thought : Nat → Int64} {fresh : Nat → Int64} {mu : MU} {th : Int32} {mp : MP} {mf : MF} {mh : MH} {mg : MG} {ou : Nat → Int64} {od : Nat → UInt64}   {r : (Nat → Int64) × (MP) × (MF)} (hf : f10_goesThrough  w mp mf  = some r) : CT k strs yX10_goesThrough cX10_goesThrough 3 none (rmD 11 0 0) 0 0 [.ref (k.b + (189))] (wAll k T R ly rc hn rp tp ee st w aside thought fresh mu th mp mf mh mg ou od) (none) (wAll k T R ly rc hn rp tp ee st r.1 aside thought fresh mu th r.2.1 r.2.2 mh mg ou od) := by
  refine CT.of (by decide) (Nat.le_of_ble_eq_true rfl) ?_
  intro z X hQ
  show VW k z 0 0 (wAll k T R ly rc hn rp tp ee st w aside thought fresh mu th mp mf mh mg ou od) 0 [some (.ref (k.b + (189))), none, none] []
  unfold f10_goesThrough at hf
  refine r_aload_n X (x := k.b + (189)) dX10_goesThrough_0 rfl ?_
  refine r_getfield X (v := .int (MP_from mp)) clsX10 flX10_246 (Nat.le_of_ble_eq_true rfl) _ o_model rfl dX10_goesThrough_1 ?_
  refine r_istore_n X [some (.ref (k.b + (189))), some (.int (MP_from mp)), none] dX10_goesThrough_4 (Nat.le_of_ble_eq_true rfl) rfl ?_
  refine r_aload_n X (x := k.b + (189)) dX10_goesThrough_5 rfl ?_
  obtain ⟨u6, h6, hf⟩ := bdS hf
  refine r_callV0 X [] [] (K10_operation h6) lkX10_349 clsX10 rfl _ o_model (by decide) (Nat.le_of_ble_eq_true rfl) rfl rfl (Nat.le_of_ble_eq_true rfl) rfl rfl (Nat.zero_le _) (Nat.zero_le _) dX10_goesThrough_6 ?_
  refine r_istore_n X [some (.ref (k.b + (189))), some (.int (MP_from mp)), some (.int u6)] dX10_goesThrough_9 (Nat.le_of_ble_eq_true rfl) rfl ?_
  refine r_iload_n X (x := u6) dX10_goesThrough_10 rfl ?_
  refine r_iconst X (v := (-1)) dX10_goesThrough_11 rfl ?_
  refine r_icmp_ne X 20 dX10_goesThrough_12 rfl (fun c12 => ?_) (fun c12 => ?_)
  · replace hf := ifF hf c12
    exact B10_goesThrough_B20 X hQ w mp mf (MP_from mp) u6 hf
  · replace hf := ifT hf c12
    refine r_aload_n X (x := k.b + (189)) dX10_goesThrough_15 rfl ?_
    refine r_iconst X (v := 1) dX10_goesThrough_16 rfl ?_
    obtain ⟨u17, h17, hf⟩ := bdS hf
    refine r_callV0 X [.int 1] [] (K10_wrong h17) lkX10_269 clsX10 rfl _ o_model (by decide) (Nat.le_of_ble_eq_true rfl) rfl rfl (Nat.le_of_ble_eq_true rfl) rfl rfl (Nat.zero_le _) (Nat.zero_le _) dX10_goesThrough_17 ?_
    exact B10_goesThrough_B20 X hQ w u17 mf (MP_from mp) u6 hf
set_option maxRecDepth 100000 in
set_option maxHeartbeats 4000000 in
theorem B10_runRecipe_B108 {k : KT} {z : ZT} {T : TT} {R : RR} {ly : Fin 2 → LL} {rc : RC} {hn : HN} {rp : RP} {tp : TP} {ee : EE} {st : Fin 12 → SS} {thought : Nat → Int64} {fresh : Nat → Int64} {mh : MH} {mg : MG} {ou : Nat → Int64} {od : Nat → UInt64} {r : Int32 × (Nat → Int64) × (Nat → Int64) × (MU) × (Int32) × (MP) × (MF)} (X : XX k strs z RX10 cX10_runRecipe 5 (some .int) (rmD 12 0 0)) (hQ : zQ z = MQ (zB z) (Qof k (some (.int r.1)) (wAll k T R ly rc hn rp tp ee st r.2.1 r.2.2.1 thought fresh r.2.2.2.1 r.2.2.2.2.1 r.2.2.2.2.2.1 r.2.2.2.2.2.2 mh mg ou od)) (zA z) (zS z) 0 0 (kA k)) (w : Nat → Int64) (aside : Nat → Int64) (mu : MU) (th : Int32) (mp : MP) (mf : MF) (x1 : Int32) (x2 : Int32) (x4 : Int32) (hf : f10_runRecipe_B108  w aside mu th mp mf x1 x2 x4 = some r) : VW k z 0 0 (wAll k T R ly rc hn rp tp ee st w aside thought fresh mu th mp mf mh mg ou od) 108 [some (.ref (k.b + (189))), some (.int x1), some (.int x2), none, some (.int x4)] [] := by
  unfold f10_runRecipe_B108 at hf
  refine r_aload_n X (x := k.b + (189)) dX10_runRecipe_108 rfl ?_
  refine r_iload_n X (x := x1) dX10_runRecipe_109 rfl ?_
  refine r_putfield X (ws1 := wAll k T R ly rc hn rp tp ee st w aside thought fresh mu th (MP_set_fault mp x1) mf mh mg ou od) clsX10 flX10_255 (Nat.le_of_ble_eq_true rfl) rfl rfl rfl _ o_model (Nat.le_of_ble_eq_true rfl) (s_mp_fault x1) dX10_runRecipe_110 ?_
  refine r_aload_n X (x := k.b + (189)) dX10_runRecipe_113 rfl ?_
  refine r_iload_n X (x := x2) dX10_runRecipe_114 rfl ?_
  refine r_putfield X (ws1 := wAll k T R ly rc hn rp tp ee st w aside thought fresh mu th (MP_set_faultAt (MP_set_fault mp x1) x2) mf mh mg ou od) clsX10 flX10_29 (Nat.le_of_ble_eq_true rfl) rfl rfl rfl _ o_model (Nat.le_of_ble_eq_true rfl) (s_mp_faultAt x2) dX10_runRecipe_115 ?_
  refine r_iload X (x := x4) dX10_runRecipe_118 rfl ?_
  obtain rfl := Option.some.inj hf
  exact r_ireturn X hQ rfl rfl (Nat.le_of_ble_eq_true rfl) (Nat.le_of_ble_eq_true rfl) dX10_runRecipe_120
set_option maxRecDepth 100000 in
set_option maxHeartbeats 4000000 in
theorem B10_runRecipe_B81 {k : KT} {z : ZT} {T : TT} {R : RR} {ly : Fin 2 → LL} {rc : RC} {hn : HN} {rp : RP} {tp : TP} {ee : EE} {st : Fin 12 → SS} {thought : Nat → Int64} {fresh : Nat → Int64} {mh : MH} {mg : MG} {ou : Nat → Int64} {od : Nat → UInt64} {r : Int32 × (Nat → Int64) × (Nat → Int64) × (MU) × (Int32) × (MP) × (MF)} (X : XX k strs z RX10 cX10_runRecipe 5 (some .int) (rmD 12 0 0)) (hQ : zQ z = MQ (zB z) (Qof k (some (.int r.1)) (wAll k T R ly rc hn rp tp ee st r.2.1 r.2.2.1 thought fresh r.2.2.2.1 r.2.2.2.2.1 r.2.2.2.2.2.1 r.2.2.2.2.2.2 mh mg ou od)) (zA z) (zS z) 0 0 (kA k)) (w : Nat → Int64) (aside : Nat → Int64) (mu : MU) (th : Int32) (mp : MP) (mf : MF) (x1 : Int32) (x2 : Int32) (t0 : Int32) (hf : f10_runRecipe_B81  w aside mu th mp mf x1 x2 t0 = some r) : VW k z 0 0 (wAll k T R ly rc hn rp tp ee st w aside thought fresh mu th mp mf mh mg ou od) 81 [some (.ref (k.b + (189))), some (.int x1), some (.int x2), none, none] [.int t0] := by
  unfold f10_runRecipe_B81 at hf
  refine r_istore X [some (.ref (k.b + (189))), some (.int x1), some (.int x2), none, some (.int t0)] dX10_runRecipe_81 (Nat.le_of_ble_eq_true rfl) rfl ?_
  refine r_aload_n X (x := k.b + (189)) dX10_runRecipe_83 rfl ?_
  refine r_getfield X (v := .int (MP_fault mp)) clsX10 flX10_255 (Nat.le_of_ble_eq_true rfl) _ o_model rfl dX10_runRecipe_84 ?_
  refine r_if_ne X 97 dX10_runRecipe_87 rfl (fun c87 => ?_) (fun c87 => ?_)
  · replace hf := ifF hf c87
    refine r_aload_n X (x := k.b + (189)) dX10_runRecipe_97 rfl ?_
    refine r_getfield X (v := .ref (k.b + (191))) clsX10 flX10_13 (Nat.le_of_ble_eq_true rfl) _ o_model rfl dX10_runRecipe_98 ?_
    refine r_aload_n X (x := k.b + (189)) dX10_runRecipe_101 rfl ?_
    refine r_getfield X (v := .ref (k.b + (190))) clsX10 flX10_7 (Nat.le_of_ble_eq_true rfl) _ o_model rfl dX10_runRecipe_102 ?_
    obtain ⟨u105, h105, hf⟩ := bdS hf
    refine r_callS0 X [.ref (k.b + (191)), .ref (k.b + (190))] [] (K10_copy_aside_w h105) lkX10_50 (by decide) (Nat.le_of_ble_eq_true rfl) rfl rfl (Nat.le_of_ble_eq_true rfl) rfl rfl (Nat.zero_le _) (Nat.zero_le _) dX10_runRecipe_105 ?_
    exact B10_runRecipe_B108 X hQ u105 aside mu th mp mf x1 x2 t0 hf
  · replace hf := ifT hf c87
    refine r_aload_n X (x := k.b + (189)) dX10_runRecipe_90 rfl ?_
    obtain ⟨u91, h91, hf⟩ := bdS hf
    refine r_callV0 X [] [] (K10_push h91) lkX10_54 clsX10 rfl _ o_model (by decide) (Nat.le_of_ble_eq_true rfl) rfl rfl (Nat.le_of_ble_eq_true rfl) rfl rfl (Nat.zero_le _) (Nat.zero_le _) dX10_runRecipe_91 ?_
    refine r_goto X 108 dX10_runRecipe_94 rfl ?_
    exact B10_runRecipe_B108 X hQ w aside u91 th mp mf x1 x2 t0 hf
set_option maxRecDepth 100000 in
set_option maxHeartbeats 4000000 in
theorem B10_runRecipe_B64 {k : KT} {z : ZT} {T : TT} {R : RR} {ly : Fin 2 → LL} {rc : RC} {hn : HN} {rp : RP} {tp : TP} {ee : EE} {st : Fin 12 → SS} {thought : Nat → Int64} {fresh : Nat → Int64} {mh : MH} {mg : MG} {ou : Nat → Int64} {od : Nat → UInt64} {r : Int32 × (Nat → Int64) × (Nat → Int64) × (MU) × (Int32) × (MP) × (MF)} (X : XX k strs z RX10 cX10_runRecipe 5 (some .int) (rmD 12 0 0)) (hQ : zQ z = MQ (zB z) (Qof k (some (.int r.1)) (wAll k T R ly rc hn rp tp ee st r.2.1 r.2.2.1 thought fresh r.2.2.2.1 r.2.2.2.2.1 r.2.2.2.2.2.1 r.2.2.2.2.2.2 mh mg ou od)) (zA z) (zS z) 0 0 (kA k)) (w : Nat → Int64) (aside : Nat → Int64) (mu : MU) (th : Int32) (mp : MP) (mf : MF) (x1 : Int32) (x2 : Int32) (x3 : Int32) (hf : f10_runRecipe_B64  w aside mu th mp mf x1 x2 x3 = some r) : VW k z 0 0 (wAll k T R ly rc hn rp tp ee st w aside thought fresh mu th mp mf mh mg ou od) 64 [some (.ref (k.b + (189))), some (.int x1), some (.int x2), some (.int x3), none] [] := by
  unfold f10_runRecipe_B64 at hf
  refine r_aload_n X (x := k.b + (189)) dX10_runRecipe_64 rfl ?_
  refine r_getfield X (v := .int (MP_fault mp)) clsX10 flX10_255 (Nat.le_of_ble_eq_true rfl) _ o_model rfl dX10_runRecipe_65 ?_
  refine r_if_ne X 75 dX10_runRecipe_68 rfl (fun c68 => ?_) (fun c68 => ?_)
  · replace hf := ifF hf c68
    refine r_iconst X (v := (-1)) dX10_runRecipe_75 rfl ?_
    refine r_aload_n X (x := k.b + (189)) dX10_runRecipe_76 rfl ?_
    refine r_getfield X (v := .int (MP_faultAt mp)) clsX10 flX10_29 (Nat.le_of_ble_eq_true rfl) _ o_model rfl dX10_runRecipe_77 ?_
    refine r_isub X dX10_runRecipe_80 ?_
    refine VW.msk [true, true, true, false, false] rfl (lo' := [some (.ref (k.b + (189))), some (.int x1), some (.int x2), none, none]) rfl ?_
    exact B10_runRecipe_B81 X hQ w aside mu th mp mf x1 x2 ((-1) - (MP_faultAt mp)) hf
  · replace hf := ifT hf c68
    refine r_iload_n X (x := x3) dX10_runRecipe_71 rfl ?_
    refine r_goto X 81 dX10_runRecipe_72 rfl ?_
    refine VW.msk [true, true, true, false, false] rfl (lo' := [some (.ref (k.b + (189))), some (.int x1), some (.int x2), none, none]) rfl ?_
    exact B10_runRecipe_B81 X hQ w aside mu th mp mf x1 x2 x3 hf
set_option maxRecDepth 100000 in
set_option maxHeartbeats 4000000 in
theorem B10_runRecipe_B32 {k : KT} {z : ZT} {T : TT} {R : RR} {ly : Fin 2 → LL} {rc : RC} {hn : HN} {rp : RP} {tp : TP} {ee : EE} {st : Fin 12 → SS} {thought : Nat → Int64} {fresh : Nat → Int64} {mh : MH} {mg : MG} {ou : Nat → Int64} {od : Nat → UInt64} {r : Int32 × (Nat → Int64) × (Nat → Int64) × (MU) × (Int32) × (MP) × (MF)} (X : XX k strs z RX10 cX10_runRecipe 5 (some .int) (rmD 12 0 0)) (hQ : zQ z = MQ (zB z) (Qof k (some (.int r.1)) (wAll k T R ly rc hn rp tp ee st r.2.1 r.2.2.1 thought fresh r.2.2.2.1 r.2.2.2.2.1 r.2.2.2.2.2.1 r.2.2.2.2.2.2 mh mg ou od)) (zA z) (zS z) 0 0 (kA k)) : ∀ (fu : Nat) (w : Nat → Int64) (aside : Nat → Int64) (mu : MU) (th : Int32) (mp : MP) (mf : MF) (x1 : Int32) (x2 : Int32) (x3 : Int32), f10_runRecipe_B32  fu w aside mu th mp mf x1 x2 x3 = some r → VW k z 0 0 (wAll k T R ly rc hn rp tp ee st w aside thought fresh mu th mp mf mh mg ou od) 32 [some (.ref (k.b + (189))), some (.int x1), some (.int x2), some (.int x3), none] [] := by
  intro fu
  induction fu with
  | zero =>
    intro w aside mu th mp mf x1 x2 x3 hf
    rw [f10_runRecipe_B32] at hf
    cases hf
  | succ fu ih =>
    intro w aside mu th mp mf x1 x2 x3 hf
    rw [f10_runRecipe_B32] at hf
    refine r_aload_n X (x := k.b + (189)) dX10_runRecipe_32 rfl ?_
    refine r_getfield X (v := .int (MP_fault mp)) clsX10 flX10_255 (Nat.le_of_ble_eq_true rfl) _ o_model rfl dX10_runRecipe_33 ?_
    refine r_if_ne X 64 dX10_runRecipe_36 rfl (fun c36 => ?_) (fun c36 => ?_)
    · replace hf := ifF hf c36
      exact B10_runRecipe_B64 X hQ w aside mu th mp mf x1 x2 x3 hf
    · replace hf := ifT hf c36
      refine r_aload_n X (x := k.b + (189)) dX10_runRecipe_39 rfl ?_
      refine r_getfield X (v := .int (MP_from mp)) clsX10 flX10_246 (Nat.le_of_ble_eq_true rfl) _ o_model rfl dX10_runRecipe_40 ?_
      refine r_aload_n X (x := k.b + (189)) dX10_runRecipe_43 rfl ?_
      refine r_getfield X (v := .int (MP_end_ mp)) clsX10 flX10_229 (Nat.le_of_ble_eq_true rfl) _ o_model rfl dX10_runRecipe_44 ?_
      refine r_icmp_ge X 64 dX10_runRecipe_47 rfl (fun c47 => ?_) (fun c47 => ?_)
      · replace hf := ifT hf c47
        exact B10_runRecipe_B64 X hQ w aside mu th mp mf x1 x2 x3 hf
      · replace hf := ifF hf c47
        refine r_aload_n X (x := k.b + (189)) dX10_runRecipe_50 rfl ?_
        obtain ⟨u51, h51, hf⟩ := bdS hf
        refine r_callV0 X [] [] (K10_goesThrough h51) lkX10_357 clsX10 rfl _ o_model (by decide) (Nat.le_of_ble_eq_true rfl) rfl rfl (Nat.le_of_ble_eq_true rfl) rfl rfl (Nat.zero_le _) (Nat.zero_le _) dX10_runRecipe_51 ?_
        refine r_aload_n X (x := k.b + (189)) dX10_runRecipe_54 rfl ?_
        obtain ⟨u55, h55, hf⟩ := bdS hf
        refine r_callV0 X [] [] (K10_goOn h55) lkX10_276 clsX10 rfl _ o_model (by decide) (Nat.le_of_ble_eq_true rfl) rfl rfl (Nat.le_of_ble_eq_true rfl) rfl rfl (Nat.zero_le _) (Nat.zero_le _) dX10_runRecipe_55 ?_
        refine r_iinc X (x := x3) (v := x3 + 1) [some (.ref (k.b + (189))), some (.int x1), some (.int x2), some (.int (x3 + 1)), none] dX10_runRecipe_58 rfl rfl rfl ?_
        refine r_goto X 32 dX10_runRecipe_61 rfl ?_
        exact ih u51.1 aside mu th u55 u51.2.2 x1 x2 (x3 + 1) hf
set_option maxRecDepth 100000 in
set_option maxHeartbeats 4000000 in
theorem K10_runRecipe {k : KT} {T : TT} {R : RR} {ly : Fin 2 → LL} {rc : RC} {hn : HN} {rp : RP} {tp : TP} {ee : EE} {st : Fin 12 → SS} {w : Nat → Int64} {aside : Nat → Int64} {thought : Nat → Int64} {fresh : Nat → Int64} {mu : MU} {th : Int32} {mp : MP} {mf : MF} {mh : MH} {mg : MG} {ou : Nat → Int64} {od : Nat → UInt64}   {r : Int32 × (Nat → Int64) × (Nat → Int64) × (MU) × (Int32) × (MP) × (MF)} (hf : f10_runRecipe  w aside mu th mp mf  = some r) : CT k strs yX10_runRecipe cX10_runRecipe 5 (some .int) (rmD 12 0 0) 0 0 [.ref (k.b + (189))] (wAll k T R ly rc hn rp tp ee st w aside thought fresh mu th mp mf mh mg ou od) (some (.int r.1)) (wAll k T R ly rc hn rp tp ee st r.2.1 r.2.2.1 thought fresh r.2.2.2.1 r.2.2.2.2.1 r.2.2.2.2.2.1 r.2.2.2.2.2.2 mh mg ou od) := by
  refine CT.of (by decide) (Nat.le_of_ble_eq_true rfl) ?_
  intro z X hQ
  show VW k z 0 0 (wAll k T R ly rc hn rp tp ee st w aside thought fresh mu th mp mf mh mg ou od) 0 [some (.ref (k.b + (189))), none, none, none, none] []
  unfold f10_runRecipe at hf
  refine r_aload_n X (x := k.b + (189)) dX10_runRecipe_0 rfl ?_
  refine r_iconst X (v := 0) dX10_runRecipe_1 rfl ?_
  refine r_putfield X (ws1 := wAll k T R ly rc hn rp tp ee st w aside thought fresh mu 0 mp mf mh mg ou od) clsX10 flX10_36 (Nat.le_of_ble_eq_true rfl) rfl rfl rfl _ o_model (Nat.le_of_ble_eq_true rfl) (s_th 0) dX10_runRecipe_2 ?_
  refine r_aload_n X (x := k.b + (189)) dX10_runRecipe_5 rfl ?_
  refine r_getfield X (v := .int (MP_fault mp)) clsX10 flX10_255 (Nat.le_of_ble_eq_true rfl) _ o_model rfl dX10_runRecipe_6 ?_
  refine r_istore_n X [some (.ref (k.b + (189))), some (.int (MP_fault mp)), none, none, none] dX10_runRecipe_9 (Nat.le_of_ble_eq_true rfl) rfl ?_
  refine r_aload_n X (x := k.b + (189)) dX10_runRecipe_10 rfl ?_
  refine r_getfield X (v := .int (MP_faultAt mp)) clsX10 flX10_29 (Nat.le_of_ble_eq_true rfl) _ o_model rfl dX10_runRecipe_11 ?_
  refine r_istore_n X [some (.ref (k.b + (189))), some (.int (MP_fault mp)), some (.int (MP_faultAt mp)), none, none] dX10_runRecipe_14 (Nat.le_of_ble_eq_true rfl) rfl ?_
  refine r_aload_n X (x := k.b + (189)) dX10_runRecipe_15 rfl ?_
  refine r_getfield X (v := .ref (k.b + (190))) clsX10 flX10_7 (Nat.le_of_ble_eq_true rfl) _ o_model rfl dX10_runRecipe_16 ?_
  refine r_aload_n X (x := k.b + (189)) dX10_runRecipe_19 rfl ?_
  refine r_getfield X (v := .ref (k.b + (191))) clsX10 flX10_13 (Nat.le_of_ble_eq_true rfl) _ o_model rfl dX10_runRecipe_20 ?_
  obtain ⟨u23, h23, hf⟩ := bdS hf
  refine r_callS0 X [.ref (k.b + (190)), .ref (k.b + (191))] [] (K10_copy_w_aside h23) lkX10_50 (by decide) (Nat.le_of_ble_eq_true rfl) rfl rfl (Nat.le_of_ble_eq_true rfl) rfl rfl (Nat.zero_le _) (Nat.zero_le _) dX10_runRecipe_23 ?_
  refine r_aload_n X (x := k.b + (189)) dX10_runRecipe_26 rfl ?_
  obtain ⟨u27, h27, hf⟩ := bdS hf
  refine r_callV0 X [] [] (K10_begin h27) lkX10_312 clsX10 rfl _ o_model (by decide) (Nat.le_of_ble_eq_true rfl) rfl rfl (Nat.le_of_ble_eq_true rfl) rfl rfl (Nat.zero_le _) (Nat.zero_le _) dX10_runRecipe_27 ?_
  refine r_iconst X (v := 0) dX10_runRecipe_30 rfl ?_
  refine r_istore_n X [some (.ref (k.b + (189))), some (.int (MP_fault mp)), some (.int (MP_faultAt mp)), some (.int 0), none] dX10_runRecipe_31 (Nat.le_of_ble_eq_true rfl) rfl ?_
  exact B10_runRecipe_B32 X hQ FU w u23 mu 0 u27 mf (MP_fault mp) (MP_faultAt mp) 0 hf
set_option maxRecDepth 100000 in
set_option maxHeartbeats 4000000 in
theorem K10_count {k : KT} {T : TT} {R : RR} {ly : Fin 2 → LL} {rc : RC} {hn : HN} {rp : RP} {tp : TP} {ee : EE} {st : Fin 12 → SS} {w : Nat → Int64} {aside : Nat → Int64} {thought : Nat → Int64} {fresh : Nat → Int64} {mu : MU} {th : Int32} {mp : MP} {mf : MF} {mh : MH} {mg : MG} {ou : Nat → Int64} {od : Nat → UInt64}  {x1 : Int32} {r : Int32 × (Int32)} (hf : f10_count w th x1 = some r) : CT k strs yX10_count cX10_count 2 (some .int) (rmD 1 0 0) 0 0 [.ref (k.b + (189)), .int x1] (wAll k T R ly rc hn rp tp ee st w aside thought fresh mu th mp mf mh mg ou od) (some (.int r.1)) (wAll k T R ly rc hn rp tp ee st w aside thought fresh mu r.2 mp mf mh mg ou od) := by
  refine CT.of (by decide) (Nat.le_of_ble_eq_true rfl) ?_
  intro z X hQ
  show VW k z 0 0 (wAll k T R ly rc hn rp tp ee st w aside thought fresh mu th mp mf mh mg ou od) 0 [some (.ref (k.b + (189))), some (.int x1)] []
  unfold f10_count at hf
  refine r_aload_n X (x := k.b + (189)) dX10_count_0 rfl ?_
  refine r_iload_n X (x := x1) dX10_count_1 rfl ?_
  refine r_i2l X dX10_count_2 ?_
  refine r_lconst X (v := 0) dX10_count_3 rfl ?_
  refine r_ldc2 X (v := 7) coX10_360 dX10_count_4 ?_
  obtain ⟨u7, h7, hf⟩ := bdS hf
  refine r_callS0 X [.long x1.toInt64, .long 0, .long 7] [.ref (k.b + (189))] (K10_in h7) lkX10_39 (by decide) (Nat.le_of_ble_eq_true rfl) rfl rfl (Nat.le_of_ble_eq_true rfl) rfl rfl (Nat.zero_le _) (Nat.zero_le _) dX10_count_7 ?_
  suffices K10 : VW k z 0 0 (wAll k T R ly rc hn rp tp ee st w aside thought fresh mu th mp mf mh mg ou od) 18 [some (.ref (k.b + (189))), some (.int x1)] [.int (if u7 = 0 then (1 : Int32) else (0 : Int32)), .ref (k.b + (189))] by
    refine r_if_ne X 17 dX10_count_10 rfl (fun c10 => ?_) (fun c10 => ?_)
    · refine r_iconst X (v := 0) dX10_count_17 rfl ?_
      rw [if_neg c10] at K10
      exact K10
    · refine r_iconst X (v := 1) dX10_count_13 rfl ?_
      refine r_goto X 18 dX10_count_14 rfl ?_
      rw [if_pos c10] at K10
      exact K10
  refine r_iconst X (v := 1) dX10_count_18 rfl ?_
  obtain ⟨u19, h19, hf⟩ := bdS hf
  refine r_callV0 X [.int (if u7 = 0 then (1 : Int32) else (0 : Int32)), .int 1] [] (K10_fails h19) lkX10_151 clsX10 rfl _ o_model (by decide) (Nat.le_of_ble_eq_true rfl) rfl rfl (Nat.le_of_ble_eq_true rfl) rfl rfl (Nat.zero_le _) (Nat.zero_le _) dX10_count_19 ?_
  refine r_if_eq X 29 dX10_count_22 rfl (fun c22 => ?_) (fun c22 => ?_)
  · replace hf := ifT hf c22
    refine r_aload_n X (x := k.b + (189)) dX10_count_29 rfl ?_
    refine r_iload_n X (x := x1) dX10_count_30 rfl ?_
    obtain ⟨u31, h31, hf⟩ := bdS hf
    refine r_callV0 X [.int x1] [] (K10_many h31) lkX10_93 clsX10 rfl _ o_model (by decide) (Nat.le_of_ble_eq_true rfl) rfl rfl (Nat.le_of_ble_eq_true rfl) rfl rfl (Nat.zero_le _) (Nat.zero_le _) dX10_count_31 ?_
    obtain rfl := Option.some.inj hf
    exact r_ireturn X hQ rfl rfl (Nat.le_of_ble_eq_true rfl) (Nat.le_of_ble_eq_true rfl) dX10_count_34
  · replace hf := ifF hf c22
    refine r_iconst X (v := 0) dX10_count_25 rfl ?_
    refine r_goto X 34 dX10_count_26 rfl ?_
    obtain rfl := Option.some.inj hf
    exact r_ireturn X hQ rfl rfl (Nat.le_of_ble_eq_true rfl) (Nat.le_of_ble_eq_true rfl) dX10_count_34
set_option maxRecDepth 100000 in
set_option maxHeartbeats 4000000 in
theorem B10_valvesOf_B34 {k : KT} {z : ZT} {T : TT} {R : RR} {ly : Fin 2 → LL} {rc : RC} {hn : HN} {rp : RP} {tp : TP} {ee : EE} {st : Fin 12 → SS} {w : Nat → Int64} {aside : Nat → Int64} {thought : Nat → Int64} {fresh : Nat → Int64} {mu : MU} {th : Int32} {mp : MP} {mf : MF} {mh : MH} {mg : MG} {ou : Nat → Int64} {od : Nat → UInt64} {r : Int32} (X : XX k strs z RX10 cX10_valvesOf 4 (some .int) (rmD 2 0 0)) (hQ : zQ z = MQ (zB z) (Qof k (some (.int r)) (wAll k T R ly rc hn rp tp ee st w aside thought fresh mu th mp mf mh mg ou od)) (zA z) (zS z) 0 0 (kA k)) (rec : Int32 → Int32 → Int32 → Option (Int32)) (hrec : ∀ (x1 : Int32) (x2 : Int32) (x3 : Int32), rec x1 x2 x3 = some r → VW k z 0 0 (wAll k T R ly rc hn rp tp ee st w aside thought fresh mu th mp mf mh mg ou od) 4 [some (.ref (k.b + (189))), some (.int x1), some (.int x2), some (.int x3)] []) (x1 : Int32) (x3 : Int32) (t0 : Int32) (hf : f10_valvesOf_B34 w rec x1 x3 t0 = some r) : VW k z 0 0 (wAll k T R ly rc hn rp tp ee st w aside thought fresh mu th mp mf mh mg ou od) 34 [some (.ref (k.b + (189))), some (.int x1), none, some (.int x3)] [.int t0] := by
  unfold f10_valvesOf_B34 at hf
  refine r_iconst X (v := 1) dX10_valvesOf_34 rfl ?_
  refine r_iload_n X (x := x3) dX10_valvesOf_35 rfl ?_
  refine r_ishl X dX10_valvesOf_36 ?_
  refine r_goto X 41 dX10_valvesOf_37 rfl ?_
  refine r_ior X dX10_valvesOf_41 ?_
  refine r_istore_n X [some (.ref (k.b + (189))), some (.int x1), some (.int (t0 ||| (1 <<< (x3 &&& 31)))), some (.int x3)] dX10_valvesOf_42 (Nat.le_of_ble_eq_true rfl) rfl ?_
  refine r_iinc X (x := x3) (v := x3 + 1) [some (.ref (k.b + (189))), some (.int x1), some (.int (t0 ||| (1 <<< (x3 &&& 31)))), some (.int (x3 + 1))] dX10_valvesOf_43 rfl rfl rfl ?_
  refine r_goto X 4 dX10_valvesOf_46 rfl ?_
  exact hrec x1 (t0 ||| (1 <<< (x3 &&& 31))) (x3 + 1) hf
set_option maxRecDepth 100000 in
set_option maxHeartbeats 4000000 in
theorem B10_valvesOf_B4 {k : KT} {z : ZT} {T : TT} {R : RR} {ly : Fin 2 → LL} {rc : RC} {hn : HN} {rp : RP} {tp : TP} {ee : EE} {st : Fin 12 → SS} {w : Nat → Int64} {aside : Nat → Int64} {thought : Nat → Int64} {fresh : Nat → Int64} {mu : MU} {th : Int32} {mp : MP} {mf : MF} {mh : MH} {mg : MG} {ou : Nat → Int64} {od : Nat → UInt64} {r : Int32} (X : XX k strs z RX10 cX10_valvesOf 4 (some .int) (rmD 2 0 0)) (hQ : zQ z = MQ (zB z) (Qof k (some (.int r)) (wAll k T R ly rc hn rp tp ee st w aside thought fresh mu th mp mf mh mg ou od)) (zA z) (zS z) 0 0 (kA k)) : ∀ (fu : Nat) (x1 : Int32) (x2 : Int32) (x3 : Int32), f10_valvesOf_B4 w fu x1 x2 x3 = some r → VW k z 0 0 (wAll k T R ly rc hn rp tp ee st w aside thought fresh mu th mp mf mh mg ou od) 4 [some (.ref (k.b + (189))), some (.int x1), some (.int x2), some (.int x3)] [] := by
  intro fu
  induction fu with
  | zero =>
    intro x1 x2 x3 hf
    rw [f10_valvesOf_B4] at hf
    cases hf
  | succ fu ih =>
    intro x1 x2 x3 hf
    rw [f10_valvesOf_B4] at hf
    refine r_iload_n X (x := x3) dX10_valvesOf_4 rfl ?_
    refine r_aload_n X (x := k.b + (189)) dX10_valvesOf_5 rfl ?_
    refine r_iconst X (v := 2) dX10_valvesOf_6 rfl ?_
    obtain ⟨u7, h7, hf⟩ := bdS hf
    refine r_callV0 X [.int 2] [.int x3] (K10_many h7) lkX10_93 clsX10 rfl _ o_model (by decide) (Nat.le_of_ble_eq_true rfl) rfl rfl (Nat.le_of_ble_eq_true rfl) rfl rfl (Nat.zero_le _) (Nat.zero_le _) dX10_valvesOf_7 ?_
    refine r_icmp_ge X 49 dX10_valvesOf_10 rfl (fun c10 => ?_) (fun c10 => ?_)
    · replace hf := ifT hf c10
      refine r_iload_n X (x := x2) dX10_valvesOf_49 rfl ?_
      obtain rfl := Option.some.inj hf
      exact r_ireturn X hQ rfl rfl (Nat.le_of_ble_eq_true rfl) (Nat.le_of_ble_eq_true rfl) dX10_valvesOf_50
    · replace hf := ifF hf c10
      refine r_iload_n X (x := x2) dX10_valvesOf_13 rfl ?_
      refine r_aload_n X (x := k.b + (189)) dX10_valvesOf_14 rfl ?_
      refine r_iload_n X (x := x3) dX10_valvesOf_15 rfl ?_
      refine r_iconst X (v := 0) dX10_valvesOf_16 rfl ?_
      obtain ⟨u17, h17, hf⟩ := bdS hf
      refine r_callV0 X [.int x3, .int 0] [.int x2] (K10_ofValve h17) lkX10_74 clsX10 rfl _ o_model (by decide) (Nat.le_of_ble_eq_true rfl) rfl rfl (Nat.le_of_ble_eq_true rfl) rfl rfl (Nat.zero_le _) (Nat.zero_le _) dX10_valvesOf_17 ?_
      refine r_iload_n X (x := x1) dX10_valvesOf_20 rfl ?_
      refine r_icmp_eq X 34 dX10_valvesOf_21 rfl (fun c21 => ?_) (fun c21 => ?_)
      · replace hf := ifT hf c21
        refine VW.msk [true, true, false, true] rfl (lo' := [some (.ref (k.b + (189))), some (.int x1), none, some (.int x3)]) rfl ?_
        exact B10_valvesOf_B34 X hQ (f10_valvesOf_B4 w fu) ih x1 x3 x2 hf
      · replace hf := ifF hf c21
        refine r_aload_n X (x := k.b + (189)) dX10_valvesOf_24 rfl ?_
        refine r_iload_n X (x := x3) dX10_valvesOf_25 rfl ?_
        refine r_iconst X (v := 1) dX10_valvesOf_26 rfl ?_
        obtain ⟨u27, h27, hf⟩ := bdS hf
        refine r_callV0 X [.int x3, .int 1] [.int x2] (K10_ofValve h27) lkX10_74 clsX10 rfl _ o_model (by decide) (Nat.le_of_ble_eq_true rfl) rfl rfl (Nat.le_of_ble_eq_true rfl) rfl rfl (Nat.zero_le _) (Nat.zero_le _) dX10_valvesOf_27 ?_
        refine r_iload_n X (x := x1) dX10_valvesOf_30 rfl ?_
        refine r_icmp_ne X 40 dX10_valvesOf_31 rfl (fun c31 => ?_) (fun c31 => ?_)
        · replace hf := ifF hf c31
          refine r_iconst X (v := 0) dX10_valvesOf_40 rfl ?_
          refine r_ior X dX10_valvesOf_41 ?_
          refine r_istore_n X [some (.ref (k.b + (189))), some (.int x1), some (.int (x2 ||| 0)), some (.int x3)] dX10_valvesOf_42 (Nat.le_of_ble_eq_true rfl) rfl ?_
          refine r_iinc X (x := x3) (v := x3 + 1) [some (.ref (k.b + (189))), some (.int x1), some (.int (x2 ||| 0)), some (.int (x3 + 1))] dX10_valvesOf_43 rfl rfl rfl ?_
          refine r_goto X 4 dX10_valvesOf_46 rfl ?_
          exact ih x1 (x2 ||| 0) (x3 + 1) hf
        · replace hf := ifT hf c31
          refine VW.msk [true, true, false, true] rfl (lo' := [some (.ref (k.b + (189))), some (.int x1), none, some (.int x3)]) rfl ?_
          exact B10_valvesOf_B34 X hQ (f10_valvesOf_B4 w fu) ih x1 x3 x2 hf
set_option maxRecDepth 100000 in
set_option maxHeartbeats 4000000 in
theorem K10_valvesOf {k : KT} {T : TT} {R : RR} {ly : Fin 2 → LL} {rc : RC} {hn : HN} {rp : RP} {tp : TP} {ee : EE} {st : Fin 12 → SS} {w : Nat → Int64} {aside : Nat → Int64} {thought : Nat → Int64} {fresh : Nat → Int64} {mu : MU} {th : Int32} {mp : MP} {mf : MF} {mh : MH} {mg : MG} {ou : Nat → Int64} {od : Nat → UInt64}  {x1 : Int32} {r : Int32} (hf : f10_valvesOf w  x1 = some r) : CT k strs yX10_valvesOf cX10_valvesOf 4 (some .int) (rmD 2 0 0) 0 0 [.ref (k.b + (189)), .int x1] (wAll k T R ly rc hn rp tp ee st w aside thought fresh mu th mp mf mh mg ou od) (some (.int r)) (wAll k T R ly rc hn rp tp ee st w aside thought fresh mu th mp mf mh mg ou od) := by
  refine CT.of (by decide) (Nat.le_of_ble_eq_true rfl) ?_
  intro z X hQ
  show VW k z 0 0 (wAll k T R ly rc hn rp tp ee st w aside thought fresh mu th mp mf mh mg ou od) 0 [some (.ref (k.b + (189))), some (.int x1), none, none] []
  unfold f10_valvesOf at hf
  refine r_iconst X (v := 0) dX10_valvesOf_0 rfl ?_
  refine r_istore_n X [some (.ref (k.b + (189))), some (.int x1), some (.int 0), none] dX10_valvesOf_1 (Nat.le_of_ble_eq_true rfl) rfl ?_
  refine r_iconst X (v := 0) dX10_valvesOf_2 rfl ?_
  refine r_istore_n X [some (.ref (k.b + (189))), some (.int x1), some (.int 0), some (.int 0)] dX10_valvesOf_3 (Nat.le_of_ble_eq_true rfl) rfl ?_
  exact B10_valvesOf_B4 X hQ FU x1 0 0 hf
set_option maxRecDepth 100000 in
set_option maxHeartbeats 4000000 in
theorem B10_pumpsOf_B4 {k : KT} {z : ZT} {T : TT} {R : RR} {ly : Fin 2 → LL} {rc : RC} {hn : HN} {rp : RP} {tp : TP} {ee : EE} {st : Fin 12 → SS} {w : Nat → Int64} {aside : Nat → Int64} {thought : Nat → Int64} {fresh : Nat → Int64} {mu : MU} {th : Int32} {mp : MP} {mf : MF} {mh : MH} {mg : MG} {ou : Nat → Int64} {od : Nat → UInt64} {r : Int32} (X : XX k strs z RX10 cX10_pumpsOf 4 (some .int) (rmD 2 0 0)) (hQ : zQ z = MQ (zB z) (Qof k (some (.int r)) (wAll k T R ly rc hn rp tp ee st w aside thought fresh mu th mp mf mh mg ou od)) (zA z) (zS z) 0 0 (kA k)) : ∀ (fu : Nat) (x1 : Int32) (x2 : Int32) (x3 : Int32), f10_pumpsOf_B4 w fu x1 x2 x3 = some r → VW k z 0 0 (wAll k T R ly rc hn rp tp ee st w aside thought fresh mu th mp mf mh mg ou od) 4 [some (.ref (k.b + (189))), some (.int x1), some (.int x2), some (.int x3)] [] := by
  intro fu
  induction fu with
  | zero =>
    intro x1 x2 x3 hf
    rw [f10_pumpsOf_B4] at hf
    cases hf
  | succ fu ih =>
    intro x1 x2 x3 hf
    rw [f10_pumpsOf_B4] at hf
    refine r_iload_n X (x := x3) dX10_pumpsOf_4 rfl ?_
    refine r_aload_n X (x := k.b + (189)) dX10_pumpsOf_5 rfl ?_
    refine r_iconst X (v := 1) dX10_pumpsOf_6 rfl ?_
    obtain ⟨u7, h7, hf⟩ := bdS hf
    refine r_callV0 X [.int 1] [.int x3] (K10_many h7) lkX10_93 clsX10 rfl _ o_model (by decide) (Nat.le_of_ble_eq_true rfl) rfl rfl (Nat.le_of_ble_eq_true rfl) rfl rfl (Nat.zero_le _) (Nat.zero_le _) dX10_pumpsOf_7 ?_
    refine r_icmp_ge X 39 dX10_pumpsOf_10 rfl (fun c10 => ?_) (fun c10 => ?_)
    · replace hf := ifT hf c10
      refine r_iload_n X (x := x2) dX10_pumpsOf_39 rfl ?_
      obtain rfl := Option.some.inj hf
      exact r_ireturn X hQ rfl rfl (Nat.le_of_ble_eq_true rfl) (Nat.le_of_ble_eq_true rfl) dX10_pumpsOf_40
    · replace hf := ifF hf c10
      refine r_iload_n X (x := x2) dX10_pumpsOf_13 rfl ?_
      refine r_aload_n X (x := k.b + (189)) dX10_pumpsOf_14 rfl ?_
      refine r_iload_n X (x := x3) dX10_pumpsOf_15 rfl ?_
      refine r_iconst X (v := 0) dX10_pumpsOf_16 rfl ?_
      obtain ⟨u17, h17, hf⟩ := bdS hf
      refine r_callV0 X [.int x3, .int 0] [.int x2] (K10_ofPump h17) lkX10_87 clsX10 rfl _ o_model (by decide) (Nat.le_of_ble_eq_true rfl) rfl rfl (Nat.le_of_ble_eq_true rfl) rfl rfl (Nat.zero_le _) (Nat.zero_le _) dX10_pumpsOf_17 ?_
      refine r_iload_n X (x := x1) dX10_pumpsOf_20 rfl ?_
      suffices K21 : VW k z 0 0 (wAll k T R ly rc hn rp tp ee st w aside thought fresh mu th mp mf mh mg ou od) 31 [some (.ref (k.b + (189))), some (.int x1), some (.int x2), some (.int x3)] [.int (if u17 = x1 then (1 <<< (x3 &&& 31) : Int32) else (0 : Int32)), .int x2] by
        refine r_icmp_ne X 30 dX10_pumpsOf_21 rfl (fun c21 => ?_) (fun c21 => ?_)
        · refine r_iconst X (v := 0) dX10_pumpsOf_30 rfl ?_
          rw [if_neg c21] at K21
          exact K21
        · refine r_iconst X (v := 1) dX10_pumpsOf_24 rfl ?_
          refine r_iload_n X (x := x3) dX10_pumpsOf_25 rfl ?_
          refine r_ishl X dX10_pumpsOf_26 ?_
          refine r_goto X 31 dX10_pumpsOf_27 rfl ?_
          rw [if_pos c21] at K21
          exact K21
      refine r_ior X dX10_pumpsOf_31 ?_
      refine r_istore_n X [some (.ref (k.b + (189))), some (.int x1), some (.int (x2 ||| (if u17 = x1 then (1 <<< (x3 &&& 31) : Int32) else (0 : Int32)))), some (.int x3)] dX10_pumpsOf_32 (Nat.le_of_ble_eq_true rfl) rfl ?_
      refine r_iinc X (x := x3) (v := x3 + 1) [some (.ref (k.b + (189))), some (.int x1), some (.int (x2 ||| (if u17 = x1 then (1 <<< (x3 &&& 31) : Int32) else (0 : Int32)))), some (.int (x3 + 1))] dX10_pumpsOf_33 rfl rfl rfl ?_
      refine r_goto X 4 dX10_pumpsOf_36 rfl ?_
      exact ih x1 (x2 ||| (if u17 = x1 then (1 <<< (x3 &&& 31) : Int32) else (0 : Int32))) (x3 + 1) hf
set_option maxRecDepth 100000 in
set_option maxHeartbeats 4000000 in
theorem K10_pumpsOf {k : KT} {T : TT} {R : RR} {ly : Fin 2 → LL} {rc : RC} {hn : HN} {rp : RP} {tp : TP} {ee : EE} {st : Fin 12 → SS} {w : Nat → Int64} {aside : Nat → Int64} {thought : Nat → Int64} {fresh : Nat → Int64} {mu : MU} {th : Int32} {mp : MP} {mf : MF} {mh : MH} {mg : MG} {ou : Nat → Int64} {od : Nat → UInt64}  {x1 : Int32} {r : Int32} (hf : f10_pumpsOf w  x1 = some r) : CT k strs yX10_pumpsOf cX10_pumpsOf 4 (some .int) (rmD 2 0 0) 0 0 [.ref (k.b + (189)), .int x1] (wAll k T R ly rc hn rp tp ee st w aside thought fresh mu th mp mf mh mg ou od) (some (.int r)) (wAll k T R ly rc hn rp tp ee st w aside thought fresh mu th mp mf mh mg ou od) := by
  refine CT.of (by decide) (Nat.le_of_ble_eq_true rfl) ?_
  intro z X hQ
  show VW k z 0 0 (wAll k T R ly rc hn rp tp ee st w aside thought fresh mu th mp mf mh mg ou od) 0 [some (.ref (k.b + (189))), some (.int x1), none, none] []
  unfold f10_pumpsOf at hf
  refine r_iconst X (v := 0) dX10_pumpsOf_0 rfl ?_
  refine r_istore_n X [some (.ref (k.b + (189))), some (.int x1), some (.int 0), none] dX10_pumpsOf_1 (Nat.le_of_ble_eq_true rfl) rfl ?_
  refine r_iconst X (v := 0) dX10_pumpsOf_2 rfl ?_
  refine r_istore_n X [some (.ref (k.b + (189))), some (.int x1), some (.int 0), some (.int 0)] dX10_pumpsOf_3 (Nat.le_of_ble_eq_true rfl) rfl ?_
  exact B10_pumpsOf_B4 X hQ FU x1 0 0 hf
set_option maxRecDepth 100000 in
set_option maxHeartbeats 4000000 in
theorem K10_chamber {k : KT} {T : TT} {R : RR} {ly : Fin 2 → LL} {rc : RC} {hn : HN} {rp : RP} {tp : TP} {ee : EE} {st : Fin 12 → SS} {w : Nat → Int64} {aside : Nat → Int64} {thought : Nat → Int64} {fresh : Nat → Int64} {mu : MU} {th : Int32} {mp : MP} {mf : MF} {mh : MH} {mg : MG} {ou : Nat → Int64} {od : Nat → UInt64}  {x1 : Int32} {x2 : Int32} {r : Int32 × (Int32)} (hf : f10_chamber w th x1 x2 = some r) : CT k strs yX10_chamber cX10_chamber 3 (some .int) (rmD 3 0 0) 0 0 [.ref (k.b + (189)), .int x1, .int x2] (wAll k T R ly rc hn rp tp ee st w aside thought fresh mu th mp mf mh mg ou od) (some (.int r.1)) (wAll k T R ly rc hn rp tp ee st w aside thought fresh mu r.2 mp mf mh mg ou od) := by
  refine CT.of (by decide) (Nat.le_of_ble_eq_true rfl) ?_
  intro z X hQ
  show VW k z 0 0 (wAll k T R ly rc hn rp tp ee st w aside thought fresh mu th mp mf mh mg ou od) 0 [some (.ref (k.b + (189))), some (.int x1), some (.int x2)] []
  unfold f10_chamber at hf
  refine r_aload_n X (x := k.b + (189)) dX10_chamber_0 rfl ?_
  refine r_aload_n X (x := k.b + (189)) dX10_chamber_1 rfl ?_
  refine r_iload_n X (x := x1) dX10_chamber_2 rfl ?_
  obtain ⟨u3, h3, hf⟩ := bdS hf
  refine r_callV0 X [.int x1] [.ref (k.b + (189))] (K10_isChamber h3) lkX10_179 clsX10 rfl _ o_model (by decide) (Nat.le_of_ble_eq_true rfl) rfl rfl (Nat.le_of_ble_eq_true rfl) rfl rfl (Nat.zero_le _) (Nat.zero_le _) dX10_chamber_3 ?_
  suffices K6 : VW k z 0 0 (wAll k T R ly rc hn rp tp ee st w aside thought fresh mu th mp mf mh mg ou od) 14 [some (.ref (k.b + (189))), some (.int x1), some (.int x2)] [.int (if u3 = 0 then (1 : Int32) else (0 : Int32)), .ref (k.b + (189))] by
    refine r_if_ne X 13 dX10_chamber_6 rfl (fun c6 => ?_) (fun c6 => ?_)
    · refine r_iconst X (v := 0) dX10_chamber_13 rfl ?_
      rw [if_neg c6] at K6
      exact K6
    · refine r_iconst X (v := 1) dX10_chamber_9 rfl ?_
      refine r_goto X 14 dX10_chamber_10 rfl ?_
      rw [if_pos c6] at K6
      exact K6
  refine r_iconst X (v := 1) dX10_chamber_14 rfl ?_
  obtain ⟨u15, h15, hf⟩ := bdS hf
  refine r_callV0 X [.int (if u3 = 0 then (1 : Int32) else (0 : Int32)), .int 1] [] (K10_fails h15) lkX10_151 clsX10 rfl _ o_model (by decide) (Nat.le_of_ble_eq_true rfl) rfl rfl (Nat.le_of_ble_eq_true rfl) rfl rfl (Nat.zero_le _) (Nat.zero_le _) dX10_chamber_15 ?_
  refine r_if_ne X 46 dX10_chamber_18 rfl (fun c18 => ?_) (fun c18 => ?_)
  · replace hf := ifF hf c18
    refine r_iconst X (v := 0) dX10_chamber_46 rfl ?_
    obtain rfl := Option.some.inj hf
    exact r_ireturn X hQ rfl rfl (Nat.le_of_ble_eq_true rfl) (Nat.le_of_ble_eq_true rfl) dX10_chamber_47
  · replace hf := ifT hf c18
    refine r_aload_n X (x := k.b + (189)) dX10_chamber_21 rfl ?_
    refine r_iload_n X (x := x2) dX10_chamber_22 rfl ?_
    refine r_i2l X dX10_chamber_23 ?_
    refine r_lconst X (v := 0) dX10_chamber_24 rfl ?_
    refine r_ldc2 X (v := 6) coX10_362 dX10_chamber_25 ?_
    obtain ⟨u28, h28, hf⟩ := bdS hf
    refine r_callS0 X [.long x2.toInt64, .long 0, .long 6] [.ref (k.b + (189))] (K10_in h28) lkX10_39 (by decide) (Nat.le_of_ble_eq_true rfl) rfl rfl (Nat.le_of_ble_eq_true rfl) rfl rfl (Nat.zero_le _) (Nat.zero_le _) dX10_chamber_28 ?_
    suffices K31 : VW k z 0 0 (wAll k T R ly rc hn rp tp ee st w aside thought fresh mu u15.2 mp mf mh mg ou od) 39 [some (.ref (k.b + (189))), some (.int x1), some (.int x2)] [.int (if u28 = 0 then (1 : Int32) else (0 : Int32)), .ref (k.b + (189))] by
      refine r_if_ne X 38 dX10_chamber_31 rfl (fun c31 => ?_) (fun c31 => ?_)
      · refine r_iconst X (v := 0) dX10_chamber_38 rfl ?_
        rw [if_neg c31] at K31
        exact K31
      · refine r_iconst X (v := 1) dX10_chamber_34 rfl ?_
        refine r_goto X 39 dX10_chamber_35 rfl ?_
        rw [if_pos c31] at K31
        exact K31
    refine r_iconst X (v := 2) dX10_chamber_39 rfl ?_
    obtain ⟨u40, h40, hf⟩ := bdS hf
    refine r_callV0 X [.int (if u28 = 0 then (1 : Int32) else (0 : Int32)), .int 2] [] (K10_fails h40) lkX10_151 clsX10 rfl _ o_model (by decide) (Nat.le_of_ble_eq_true rfl) rfl rfl (Nat.le_of_ble_eq_true rfl) rfl rfl (Nat.zero_le _) (Nat.zero_le _) dX10_chamber_40 ?_
    refine r_if_eq X 48 dX10_chamber_43 rfl (fun c43 => ?_) (fun c43 => ?_)
    · replace hf := ifT hf c43
      refine r_iload_n X (x := x2) dX10_chamber_48 rfl ?_
      by_cases c49_0 : x2 = 3
      · replace hf := ifT hf c49_0
        refine r_tswIn X (off := 31) 80 dX10_chamber_49 (by rw [c49_0]; decide) (by rw [c49_0]; decide) (by rw [c49_0]; rfl) rfl ?_
        refine r_aload_n X (x := k.b + (189)) dX10_chamber_80 rfl ?_
        refine r_iload_n X (x := x1) dX10_chamber_81 rfl ?_
        obtain ⟨u82, h82, hf⟩ := bdS hf
        refine r_callV0 X [.int x1] [] (K10_pressure h82) lkX10_78 clsX10 rfl _ o_model (by decide) (Nat.le_of_ble_eq_true rfl) rfl rfl (Nat.le_of_ble_eq_true rfl) rfl rfl (Nat.zero_le _) (Nat.zero_le _) dX10_chamber_82 ?_
        refine r_l2i X dX10_chamber_85 ?_
        obtain rfl := Option.some.inj hf
        exact r_ireturn X hQ rfl rfl (Nat.le_of_ble_eq_true rfl) (Nat.le_of_ble_eq_true rfl) dX10_chamber_86
      replace hf := ifF hf c49_0
      by_cases c49_1 : x2 = 4
      · replace hf := ifT hf c49_1
        refine r_tswIn X (off := 38) 87 dX10_chamber_49 (by rw [c49_1]; decide) (by rw [c49_1]; decide) (by rw [c49_1]; rfl) rfl ?_
        refine r_aload_n X (x := k.b + (189)) dX10_chamber_87 rfl ?_
        refine r_iload_n X (x := x1) dX10_chamber_88 rfl ?_
        obtain ⟨u89, h89, hf⟩ := bdS hf
        refine r_callV0 X [.int x1] [] (K10_leaks h89) lkX10_108 clsX10 rfl _ o_model (by decide) (Nat.le_of_ble_eq_true rfl) rfl rfl (Nat.le_of_ble_eq_true rfl) rfl rfl (Nat.zero_le _) (Nat.zero_le _) dX10_chamber_89 ?_
        refine r_l2i X dX10_chamber_92 ?_
        obtain rfl := Option.some.inj hf
        exact r_ireturn X hQ rfl rfl (Nat.le_of_ble_eq_true rfl) (Nat.le_of_ble_eq_true rfl) dX10_chamber_93
      replace hf := ifF hf c49_1
      by_cases c49_2 : x2 = 5
      · replace hf := ifT hf c49_2
        refine r_tswIn X (off := 45) 94 dX10_chamber_49 (by rw [c49_2]; decide) (by rw [c49_2]; decide) (by rw [c49_2]; rfl) rfl ?_
        refine r_aload_n X (x := k.b + (189)) dX10_chamber_94 rfl ?_
        refine r_iload_n X (x := x1) dX10_chamber_95 rfl ?_
        obtain ⟨u96, h96, hf⟩ := bdS hf
        refine r_callV0 X [.int x1] [] (K10_valvesOf h96) lkX10_364 clsX10 rfl _ o_model (by decide) (Nat.le_of_ble_eq_true rfl) rfl rfl (Nat.le_of_ble_eq_true rfl) rfl rfl (Nat.zero_le _) (Nat.zero_le _) dX10_chamber_96 ?_
        obtain rfl := Option.some.inj hf
        exact r_ireturn X hQ rfl rfl (Nat.le_of_ble_eq_true rfl) (Nat.le_of_ble_eq_true rfl) dX10_chamber_99
      replace hf := ifF hf c49_2
      by_cases c49_3 : x2 = 6
      · replace hf := ifT hf c49_3
        refine r_tswIn X (off := 51) 100 dX10_chamber_49 (by rw [c49_3]; decide) (by rw [c49_3]; decide) (by rw [c49_3]; rfl) rfl ?_
        refine r_aload_n X (x := k.b + (189)) dX10_chamber_100 rfl ?_
        refine r_iload_n X (x := x1) dX10_chamber_101 rfl ?_
        obtain ⟨u102, h102, hf⟩ := bdS hf
        refine r_callV0 X [.int x1] [] (K10_pumpsOf h102) lkX10_367 clsX10 rfl _ o_model (by decide) (Nat.le_of_ble_eq_true rfl) rfl rfl (Nat.le_of_ble_eq_true rfl) rfl rfl (Nat.zero_le _) (Nat.zero_le _) dX10_chamber_102 ?_
        obtain rfl := Option.some.inj hf
        exact r_ireturn X hQ rfl rfl (Nat.le_of_ble_eq_true rfl) (Nat.le_of_ble_eq_true rfl) dX10_chamber_105
      replace hf := ifF hf c49_3
      refine r_tswOut X 106 dX10_chamber_49 (tsw_out (fun v hv1 hv2 => by
        rcases (show v = 3 ∨ v = 4 ∨ v = 5 ∨ v = 6 by omega) with rfl | rfl | rfl | rfl
        · exact c49_0
        · exact c49_1
        · exact c49_2
        · exact c49_3
        )) rfl ?_
      refine r_aload_n X (x := k.b + (189)) dX10_chamber_106 rfl ?_
      refine r_getfield X (v := .ref (k.b + (190))) clsX10 flX10_7 (Nat.le_of_ble_eq_true rfl) _ o_model rfl dX10_chamber_107 ?_
      refine r_iload_n X (x := x1) dX10_chamber_110 rfl ?_
      obtain ⟨u111, h111, hf⟩ := bdS hf
      refine r_callS0 X [.int x1] [.ref (k.b + (190))] (K10_chamberAt h111) lkX10_61 (by decide) (Nat.le_of_ble_eq_true rfl) rfl rfl (Nat.le_of_ble_eq_true rfl) rfl rfl (Nat.zero_le _) (Nat.zero_le _) dX10_chamber_111 ?_
      refine r_iload_n X (x := x2) dX10_chamber_114 rfl ?_
      refine r_iadd X dX10_chamber_115 ?_
      obtain ⟨g116, hf⟩ := gdS hf
      refine r_laload X (f := w) _ a_m_w g116 dX10_chamber_116 ?_
      refine r_l2i X dX10_chamber_117 ?_
      obtain rfl := Option.some.inj hf
      exact r_ireturn X hQ rfl rfl (Nat.le_of_ble_eq_true rfl) (Nat.le_of_ble_eq_true rfl) dX10_chamber_118
    · replace hf := ifF hf c43
      refine r_iconst X (v := 0) dX10_chamber_46 rfl ?_
      obtain rfl := Option.some.inj hf
      exact r_ireturn X hQ rfl rfl (Nat.le_of_ble_eq_true rfl) (Nat.le_of_ble_eq_true rfl) dX10_chamber_47
set_option maxRecDepth 100000 in
set_option maxHeartbeats 4000000 in
theorem K10_gas {k : KT} {T : TT} {R : RR} {ly : Fin 2 → LL} {rc : RC} {hn : HN} {rp : RP} {tp : TP} {ee : EE} {st : Fin 12 → SS} {w : Nat → Int64} {aside : Nat → Int64} {thought : Nat → Int64} {fresh : Nat → Int64} {mu : MU} {th : Int32} {mp : MP} {mf : MF} {mh : MH} {mg : MG} {ou : Nat → Int64} {od : Nat → UInt64}  {x1 : Int32} {r : Int64 × (Int32)} (hf : f10_gas w th x1 = some r) : CT k strs yX10_gas cX10_gas 2 (some .long) (rmD 2 0 0) 0 0 [.ref (k.b + (189)), .int x1] (wAll k T R ly rc hn rp tp ee st w aside thought fresh mu th mp mf mh mg ou od) (some (.long r.1)) (wAll k T R ly rc hn rp tp ee st w aside thought fresh mu r.2 mp mf mh mg ou od) := by
  refine CT.of (by decide) (Nat.le_of_ble_eq_true rfl) ?_
  intro z X hQ
  show VW k z 0 0 (wAll k T R ly rc hn rp tp ee st w aside thought fresh mu th mp mf mh mg ou od) 0 [some (.ref (k.b + (189))), some (.int x1)] []
  unfold f10_gas at hf
  refine r_aload_n X (x := k.b + (189)) dX10_gas_0 rfl ?_
  refine r_aload_n X (x := k.b + (189)) dX10_gas_1 rfl ?_
  refine r_iload_n X (x := x1) dX10_gas_2 rfl ?_
  obtain ⟨u3, h3, hf⟩ := bdS hf
  refine r_callV0 X [.int x1] [.ref (k.b + (189))] (K10_isChamber h3) lkX10_179 clsX10 rfl _ o_model (by decide) (Nat.le_of_ble_eq_true rfl) rfl rfl (Nat.le_of_ble_eq_true rfl) rfl rfl (Nat.zero_le _) (Nat.zero_le _) dX10_gas_3 ?_
  suffices K6 : VW k z 0 0 (wAll k T R ly rc hn rp tp ee st w aside thought fresh mu th mp mf mh mg ou od) 14 [some (.ref (k.b + (189))), some (.int x1)] [.int (if u3 = 0 then (1 : Int32) else (0 : Int32)), .ref (k.b + (189))] by
    refine r_if_ne X 13 dX10_gas_6 rfl (fun c6 => ?_) (fun c6 => ?_)
    · refine r_iconst X (v := 0) dX10_gas_13 rfl ?_
      rw [if_neg c6] at K6
      exact K6
    · refine r_iconst X (v := 1) dX10_gas_9 rfl ?_
      refine r_goto X 14 dX10_gas_10 rfl ?_
      rw [if_pos c6] at K6
      exact K6
  refine r_iconst X (v := 1) dX10_gas_14 rfl ?_
  obtain ⟨u15, h15, hf⟩ := bdS hf
  refine r_callV0 X [.int (if u3 = 0 then (1 : Int32) else (0 : Int32)), .int 1] [] (K10_fails h15) lkX10_151 clsX10 rfl _ o_model (by decide) (Nat.le_of_ble_eq_true rfl) rfl rfl (Nat.le_of_ble_eq_true rfl) rfl rfl (Nat.zero_le _) (Nat.zero_le _) dX10_gas_15 ?_
  refine r_if_eq X 25 dX10_gas_18 rfl (fun c18 => ?_) (fun c18 => ?_)
  · replace hf := ifT hf c18
    refine r_aload_n X (x := k.b + (189)) dX10_gas_25 rfl ?_
    refine r_getfield X (v := .ref (k.b + (190))) clsX10 flX10_7 (Nat.le_of_ble_eq_true rfl) _ o_model rfl dX10_gas_26 ?_
    refine r_iload_n X (x := x1) dX10_gas_29 rfl ?_
    obtain ⟨u30, h30, hf⟩ := bdS hf
    refine r_callS0 X [.int x1] [.ref (k.b + (190))] (K10_chamberAt h30) lkX10_61 (by decide) (Nat.le_of_ble_eq_true rfl) rfl rfl (Nat.le_of_ble_eq_true rfl) rfl rfl (Nat.zero_le _) (Nat.zero_le _) dX10_gas_30 ?_
    refine r_iconst X (v := 3) dX10_gas_33 rfl ?_
    refine r_iadd X dX10_gas_34 ?_
    obtain ⟨g35, hf⟩ := gdS hf
    refine r_laload X (f := w) _ a_m_w g35 dX10_gas_35 ?_
    obtain rfl := Option.some.inj hf
    exact r_lreturn X hQ rfl rfl (Nat.le_of_ble_eq_true rfl) (Nat.le_of_ble_eq_true rfl) dX10_gas_36
  · replace hf := ifF hf c18
    refine r_lconst X (v := 0) dX10_gas_21 rfl ?_
    refine r_goto X 36 dX10_gas_22 rfl ?_
    obtain rfl := Option.some.inj hf
    exact r_lreturn X hQ rfl rfl (Nat.le_of_ble_eq_true rfl) (Nat.le_of_ble_eq_true rfl) dX10_gas_36
set_option maxRecDepth 100000 in
set_option maxHeartbeats 4000000 in
theorem K10_pump {k : KT} {T : TT} {R : RR} {ly : Fin 2 → LL} {rc : RC} {hn : HN} {rp : RP} {tp : TP} {ee : EE} {st : Fin 12 → SS} {w : Nat → Int64} {aside : Nat → Int64} {thought : Nat → Int64} {fresh : Nat → Int64} {mu : MU} {th : Int32} {mp : MP} {mf : MF} {mh : MH} {mg : MG} {ou : Nat → Int64} {od : Nat → UInt64}  {x1 : Int32} {x2 : Int32} {r : Int32 × (Int32)} (hf : f10_pump w th x1 x2 = some r) : CT k strs yX10_pump cX10_pump 3 (some .int) (rmD 2 0 0) 0 0 [.ref (k.b + (189)), .int x1, .int x2] (wAll k T R ly rc hn rp tp ee st w aside thought fresh mu th mp mf mh mg ou od) (some (.int r.1)) (wAll k T R ly rc hn rp tp ee st w aside thought fresh mu r.2 mp mf mh mg ou od) := by
  refine CT.of (by decide) (Nat.le_of_ble_eq_true rfl) ?_
  intro z X hQ
  show VW k z 0 0 (wAll k T R ly rc hn rp tp ee st w aside thought fresh mu th mp mf mh mg ou od) 0 [some (.ref (k.b + (189))), some (.int x1), some (.int x2)] []
  unfold f10_pump at hf
  refine r_aload_n X (x := k.b + (189)) dX10_pump_0 rfl ?_
  refine r_aload_n X (x := k.b + (189)) dX10_pump_1 rfl ?_
  refine r_iload_n X (x := x1) dX10_pump_2 rfl ?_
  obtain ⟨u3, h3, hf⟩ := bdS hf
  refine r_callV0 X [.int x1] [.ref (k.b + (189))] (K10_isPump h3) lkX10_164 clsX10 rfl _ o_model (by decide) (Nat.le_of_ble_eq_true rfl) rfl rfl (Nat.le_of_ble_eq_true rfl) rfl rfl (Nat.zero_le _) (Nat.zero_le _) dX10_pump_3 ?_
  suffices K6 : VW k z 0 0 (wAll k T R ly rc hn rp tp ee st w aside thought fresh mu th mp mf mh mg ou od) 14 [some (.ref (k.b + (189))), some (.int x1), some (.int x2)] [.int (if u3 = 0 then (1 : Int32) else (0 : Int32)), .ref (k.b + (189))] by
    refine r_if_ne X 13 dX10_pump_6 rfl (fun c6 => ?_) (fun c6 => ?_)
    · refine r_iconst X (v := 0) dX10_pump_13 rfl ?_
      rw [if_neg c6] at K6
      exact K6
    · refine r_iconst X (v := 1) dX10_pump_9 rfl ?_
      refine r_goto X 14 dX10_pump_10 rfl ?_
      rw [if_pos c6] at K6
      exact K6
  refine r_iconst X (v := 1) dX10_pump_14 rfl ?_
  obtain ⟨u15, h15, hf⟩ := bdS hf
  refine r_callV0 X [.int (if u3 = 0 then (1 : Int32) else (0 : Int32)), .int 1] [] (K10_fails h15) lkX10_151 clsX10 rfl _ o_model (by decide) (Nat.le_of_ble_eq_true rfl) rfl rfl (Nat.le_of_ble_eq_true rfl) rfl rfl (Nat.zero_le _) (Nat.zero_le _) dX10_pump_15 ?_
  refine r_if_ne X 46 dX10_pump_18 rfl (fun c18 => ?_) (fun c18 => ?_)
  · replace hf := ifF hf c18
    refine r_iconst X (v := 0) dX10_pump_46 rfl ?_
    refine r_goto X 56 dX10_pump_47 rfl ?_
    obtain rfl := Option.some.inj hf
    exact r_ireturn X hQ rfl rfl (Nat.le_of_ble_eq_true rfl) (Nat.le_of_ble_eq_true rfl) dX10_pump_56
  · replace hf := ifT hf c18
    refine r_aload_n X (x := k.b + (189)) dX10_pump_21 rfl ?_
    refine r_iload_n X (x := x2) dX10_pump_22 rfl ?_
    refine r_i2l X dX10_pump_23 ?_
    refine r_lconst X (v := 0) dX10_pump_24 rfl ?_
    refine r_ldc2 X (v := 7) coX10_360 dX10_pump_25 ?_
    obtain ⟨u28, h28, hf⟩ := bdS hf
    refine r_callS0 X [.long x2.toInt64, .long 0, .long 7] [.ref (k.b + (189))] (K10_in h28) lkX10_39 (by decide) (Nat.le_of_ble_eq_true rfl) rfl rfl (Nat.le_of_ble_eq_true rfl) rfl rfl (Nat.zero_le _) (Nat.zero_le _) dX10_pump_28 ?_
    suffices K31 : VW k z 0 0 (wAll k T R ly rc hn rp tp ee st w aside thought fresh mu u15.2 mp mf mh mg ou od) 39 [some (.ref (k.b + (189))), some (.int x1), some (.int x2)] [.int (if u28 = 0 then (1 : Int32) else (0 : Int32)), .ref (k.b + (189))] by
      refine r_if_ne X 38 dX10_pump_31 rfl (fun c31 => ?_) (fun c31 => ?_)
      · refine r_iconst X (v := 0) dX10_pump_38 rfl ?_
        rw [if_neg c31] at K31
        exact K31
      · refine r_iconst X (v := 1) dX10_pump_34 rfl ?_
        refine r_goto X 39 dX10_pump_35 rfl ?_
        rw [if_pos c31] at K31
        exact K31
    refine r_iconst X (v := 2) dX10_pump_39 rfl ?_
    obtain ⟨u40, h40, hf⟩ := bdS hf
    refine r_callV0 X [.int (if u28 = 0 then (1 : Int32) else (0 : Int32)), .int 2] [] (K10_fails h40) lkX10_151 clsX10 rfl _ o_model (by decide) (Nat.le_of_ble_eq_true rfl) rfl rfl (Nat.le_of_ble_eq_true rfl) rfl rfl (Nat.zero_le _) (Nat.zero_le _) dX10_pump_40 ?_
    refine r_if_eq X 50 dX10_pump_43 rfl (fun c43 => ?_) (fun c43 => ?_)
    · replace hf := ifT hf c43
      refine r_aload_n X (x := k.b + (189)) dX10_pump_50 rfl ?_
      refine r_iload_n X (x := x1) dX10_pump_51 rfl ?_
      refine r_iload_n X (x := x2) dX10_pump_52 rfl ?_
      obtain ⟨u53, h53, hf⟩ := bdS hf
      refine r_callV0 X [.int x1, .int x2] [] (K10_ofPump h53) lkX10_87 clsX10 rfl _ o_model (by decide) (Nat.le_of_ble_eq_true rfl) rfl rfl (Nat.le_of_ble_eq_true rfl) rfl rfl (Nat.zero_le _) (Nat.zero_le _) dX10_pump_53 ?_
      obtain rfl := Option.some.inj hf
      exact r_ireturn X hQ rfl rfl (Nat.le_of_ble_eq_true rfl) (Nat.le_of_ble_eq_true rfl) dX10_pump_56
    · replace hf := ifF hf c43
      refine r_iconst X (v := 0) dX10_pump_46 rfl ?_
      refine r_goto X 56 dX10_pump_47 rfl ?_
      obtain rfl := Option.some.inj hf
      exact r_ireturn X hQ rfl rfl (Nat.le_of_ble_eq_true rfl) (Nat.le_of_ble_eq_true rfl) dX10_pump_56
set_option maxRecDepth 100000 in
set_option maxHeartbeats 4000000 in
theorem K10_valve {k : KT} {T : TT} {R : RR} {ly : Fin 2 → LL} {rc : RC} {hn : HN} {rp : RP} {tp : TP} {ee : EE} {st : Fin 12 → SS} {w : Nat → Int64} {aside : Nat → Int64} {thought : Nat → Int64} {fresh : Nat → Int64} {mu : MU} {th : Int32} {mp : MP} {mf : MF} {mh : MH} {mg : MG} {ou : Nat → Int64} {od : Nat → UInt64}  {x1 : Int32} {x2 : Int32} {r : Int32 × (Int32)} (hf : f10_valve w th x1 x2 = some r) : CT k strs yX10_valve cX10_valve 3 (some .int) (rmD 4 0 0) 0 0 [.ref (k.b + (189)), .int x1, .int x2] (wAll k T R ly rc hn rp tp ee st w aside thought fresh mu th mp mf mh mg ou od) (some (.int r.1)) (wAll k T R ly rc hn rp tp ee st w aside thought fresh mu r.2 mp mf mh mg ou od) := by
  refine CT.of (by decide) (Nat.le_of_ble_eq_true rfl) ?_
  intro z X hQ
  show VW k z 0 0 (wAll k T R ly rc hn rp tp ee st w aside thought fresh mu th mp mf mh mg ou od) 0 [some (.ref (k.b + (189))), some (.int x1), some (.int x2)] []
  unfold f10_valve at hf
  refine r_aload_n X (x := k.b + (189)) dX10_valve_0 rfl ?_
  refine r_aload_n X (x := k.b + (189)) dX10_valve_1 rfl ?_
  refine r_iload_n X (x := x1) dX10_valve_2 rfl ?_
  obtain ⟨u3, h3, hf⟩ := bdS hf
  refine r_callV0 X [.int x1] [.ref (k.b + (189))] (K10_isValve h3) lkX10_148 clsX10 rfl _ o_model (by decide) (Nat.le_of_ble_eq_true rfl) rfl rfl (Nat.le_of_ble_eq_true rfl) rfl rfl (Nat.zero_le _) (Nat.zero_le _) dX10_valve_3 ?_
  suffices K6 : VW k z 0 0 (wAll k T R ly rc hn rp tp ee st w aside thought fresh mu th mp mf mh mg ou od) 14 [some (.ref (k.b + (189))), some (.int x1), some (.int x2)] [.int (if u3 = 0 then (1 : Int32) else (0 : Int32)), .ref (k.b + (189))] by
    refine r_if_ne X 13 dX10_valve_6 rfl (fun c6 => ?_) (fun c6 => ?_)
    · refine r_iconst X (v := 0) dX10_valve_13 rfl ?_
      rw [if_neg c6] at K6
      exact K6
    · refine r_iconst X (v := 1) dX10_valve_9 rfl ?_
      refine r_goto X 14 dX10_valve_10 rfl ?_
      rw [if_pos c6] at K6
      exact K6
  refine r_iconst X (v := 1) dX10_valve_14 rfl ?_
  obtain ⟨u15, h15, hf⟩ := bdS hf
  refine r_callV0 X [.int (if u3 = 0 then (1 : Int32) else (0 : Int32)), .int 1] [] (K10_fails h15) lkX10_151 clsX10 rfl _ o_model (by decide) (Nat.le_of_ble_eq_true rfl) rfl rfl (Nat.le_of_ble_eq_true rfl) rfl rfl (Nat.zero_le _) (Nat.zero_le _) dX10_valve_15 ?_
  refine r_if_ne X 46 dX10_valve_18 rfl (fun c18 => ?_) (fun c18 => ?_)
  · replace hf := ifF hf c18
    refine r_iconst X (v := 0) dX10_valve_46 rfl ?_
    obtain rfl := Option.some.inj hf
    exact r_ireturn X hQ rfl rfl (Nat.le_of_ble_eq_true rfl) (Nat.le_of_ble_eq_true rfl) dX10_valve_47
  · replace hf := ifT hf c18
    refine r_aload_n X (x := k.b + (189)) dX10_valve_21 rfl ?_
    refine r_iload_n X (x := x2) dX10_valve_22 rfl ?_
    refine r_i2l X dX10_valve_23 ?_
    refine r_lconst X (v := 0) dX10_valve_24 rfl ?_
    refine r_ldc2 X (v := 6) coX10_362 dX10_valve_25 ?_
    obtain ⟨u28, h28, hf⟩ := bdS hf
    refine r_callS0 X [.long x2.toInt64, .long 0, .long 6] [.ref (k.b + (189))] (K10_in h28) lkX10_39 (by decide) (Nat.le_of_ble_eq_true rfl) rfl rfl (Nat.le_of_ble_eq_true rfl) rfl rfl (Nat.zero_le _) (Nat.zero_le _) dX10_valve_28 ?_
    suffices K31 : VW k z 0 0 (wAll k T R ly rc hn rp tp ee st w aside thought fresh mu u15.2 mp mf mh mg ou od) 39 [some (.ref (k.b + (189))), some (.int x1), some (.int x2)] [.int (if u28 = 0 then (1 : Int32) else (0 : Int32)), .ref (k.b + (189))] by
      refine r_if_ne X 38 dX10_valve_31 rfl (fun c31 => ?_) (fun c31 => ?_)
      · refine r_iconst X (v := 0) dX10_valve_38 rfl ?_
        rw [if_neg c31] at K31
        exact K31
      · refine r_iconst X (v := 1) dX10_valve_34 rfl ?_
        refine r_goto X 39 dX10_valve_35 rfl ?_
        rw [if_pos c31] at K31
        exact K31
    refine r_iconst X (v := 2) dX10_valve_39 rfl ?_
    obtain ⟨u40, h40, hf⟩ := bdS hf
    refine r_callV0 X [.int (if u28 = 0 then (1 : Int32) else (0 : Int32)), .int 2] [] (K10_fails h40) lkX10_151 clsX10 rfl _ o_model (by decide) (Nat.le_of_ble_eq_true rfl) rfl rfl (Nat.le_of_ble_eq_true rfl) rfl rfl (Nat.zero_le _) (Nat.zero_le _) dX10_valve_40 ?_
    refine r_if_eq X 48 dX10_valve_43 rfl (fun c43 => ?_) (fun c43 => ?_)
    · replace hf := ifT hf c43
      refine r_iload_n X (x := x2) dX10_valve_48 rfl ?_
      refine r_bipush X (v := 6) dX10_valve_49 rfl ?_
      refine r_icmp_ge X 63 dX10_valve_51 rfl (fun c51 => ?_) (fun c51 => ?_)
      · replace hf := ifT hf c51
        refine r_aload_n X (x := k.b + (189)) dX10_valve_63 rfl ?_
        refine r_iload_n X (x := x1) dX10_valve_64 rfl ?_
        obtain ⟨u65, h65, hf⟩ := bdS hf
        refine r_callV0 X [.int x1] [] (K10_difference h65) lkX10_90 clsX10 rfl _ o_model (by decide) (Nat.le_of_ble_eq_true rfl) rfl rfl (Nat.le_of_ble_eq_true rfl) rfl rfl (Nat.zero_le _) (Nat.zero_le _) dX10_valve_65 ?_
        refine r_l2i X dX10_valve_68 ?_
        obtain rfl := Option.some.inj hf
        exact r_ireturn X hQ rfl rfl (Nat.le_of_ble_eq_true rfl) (Nat.le_of_ble_eq_true rfl) dX10_valve_69
      · replace hf := ifF hf c51
        refine r_aload_n X (x := k.b + (189)) dX10_valve_54 rfl ?_
        refine r_iload_n X (x := x1) dX10_valve_55 rfl ?_
        refine r_iload_n X (x := x2) dX10_valve_56 rfl ?_
        obtain ⟨u57, h57, hf⟩ := bdS hf
        refine r_callV0 X [.int x1, .int x2] [] (K10_ofValve h57) lkX10_74 clsX10 rfl _ o_model (by decide) (Nat.le_of_ble_eq_true rfl) rfl rfl (Nat.le_of_ble_eq_true rfl) rfl rfl (Nat.zero_le _) (Nat.zero_le _) dX10_valve_57 ?_
        refine r_goto X 69 dX10_valve_60 rfl ?_
        obtain rfl := Option.some.inj hf
        exact r_ireturn X hQ rfl rfl (Nat.le_of_ble_eq_true rfl) (Nat.le_of_ble_eq_true rfl) dX10_valve_69
    · replace hf := ifF hf c43
      refine r_iconst X (v := 0) dX10_valve_46 rfl ?_
      obtain rfl := Option.some.inj hf
      exact r_ireturn X hQ rfl rfl (Nat.le_of_ble_eq_true rfl) (Nat.le_of_ble_eq_true rfl) dX10_valve_47
set_option maxRecDepth 100000 in
set_option maxHeartbeats 4000000 in
theorem K10_flange {k : KT} {T : TT} {R : RR} {ly : Fin 2 → LL} {rc : RC} {hn : HN} {rp : RP} {tp : TP} {ee : EE} {st : Fin 12 → SS} {w : Nat → Int64} {aside : Nat → Int64} {thought : Nat → Int64} {fresh : Nat → Int64} {mu : MU} {th : Int32} {mp : MP} {mf : MF} {mh : MH} {mg : MG} {ou : Nat → Int64} {od : Nat → UInt64}  {x1 : Int32} {x2 : Int32} {r : Int32 × (Int32)} (hf : f10_flange w th x1 x2 = some r) : CT k strs yX10_flange cX10_flange 3 (some .int) (rmD 2 0 0) 0 0 [.ref (k.b + (189)), .int x1, .int x2] (wAll k T R ly rc hn rp tp ee st w aside thought fresh mu th mp mf mh mg ou od) (some (.int r.1)) (wAll k T R ly rc hn rp tp ee st w aside thought fresh mu r.2 mp mf mh mg ou od) := by
  refine CT.of (by decide) (Nat.le_of_ble_eq_true rfl) ?_
  intro z X hQ
  show VW k z 0 0 (wAll k T R ly rc hn rp tp ee st w aside thought fresh mu th mp mf mh mg ou od) 0 [some (.ref (k.b + (189))), some (.int x1), some (.int x2)] []
  unfold f10_flange at hf
  refine r_aload_n X (x := k.b + (189)) dX10_flange_0 rfl ?_
  refine r_aload_n X (x := k.b + (189)) dX10_flange_1 rfl ?_
  refine r_iload_n X (x := x1) dX10_flange_2 rfl ?_
  obtain ⟨u3, h3, hf⟩ := bdS hf
  refine r_callV0 X [.int x1] [.ref (k.b + (189))] (K10_isFlange h3) lkX10_191 clsX10 rfl _ o_model (by decide) (Nat.le_of_ble_eq_true rfl) rfl rfl (Nat.le_of_ble_eq_true rfl) rfl rfl (Nat.zero_le _) (Nat.zero_le _) dX10_flange_3 ?_
  suffices K6 : VW k z 0 0 (wAll k T R ly rc hn rp tp ee st w aside thought fresh mu th mp mf mh mg ou od) 14 [some (.ref (k.b + (189))), some (.int x1), some (.int x2)] [.int (if u3 = 0 then (1 : Int32) else (0 : Int32)), .ref (k.b + (189))] by
    refine r_if_ne X 13 dX10_flange_6 rfl (fun c6 => ?_) (fun c6 => ?_)
    · refine r_iconst X (v := 0) dX10_flange_13 rfl ?_
      rw [if_neg c6] at K6
      exact K6
    · refine r_iconst X (v := 1) dX10_flange_9 rfl ?_
      refine r_goto X 14 dX10_flange_10 rfl ?_
      rw [if_pos c6] at K6
      exact K6
  refine r_iconst X (v := 1) dX10_flange_14 rfl ?_
  obtain ⟨u15, h15, hf⟩ := bdS hf
  refine r_callV0 X [.int (if u3 = 0 then (1 : Int32) else (0 : Int32)), .int 1] [] (K10_fails h15) lkX10_151 clsX10 rfl _ o_model (by decide) (Nat.le_of_ble_eq_true rfl) rfl rfl (Nat.le_of_ble_eq_true rfl) rfl rfl (Nat.zero_le _) (Nat.zero_le _) dX10_flange_15 ?_
  refine r_if_ne X 44 dX10_flange_18 rfl (fun c18 => ?_) (fun c18 => ?_)
  · replace hf := ifF hf c18
    refine r_iconst X (v := 0) dX10_flange_44 rfl ?_
    refine r_goto X 60 dX10_flange_45 rfl ?_
    obtain rfl := Option.some.inj hf
    exact r_ireturn X hQ rfl rfl (Nat.le_of_ble_eq_true rfl) (Nat.le_of_ble_eq_true rfl) dX10_flange_60
  · replace hf := ifT hf c18
    refine r_aload_n X (x := k.b + (189)) dX10_flange_21 rfl ?_
    refine r_iload_n X (x := x2) dX10_flange_22 rfl ?_
    refine r_i2l X dX10_flange_23 ?_
    refine r_lconst X (v := 0) dX10_flange_24 rfl ?_
    refine r_lconst X (v := 1) dX10_flange_25 rfl ?_
    obtain ⟨u26, h26, hf⟩ := bdS hf
    refine r_callS0 X [.long x2.toInt64, .long 0, .long 1] [.ref (k.b + (189))] (K10_in h26) lkX10_39 (by decide) (Nat.le_of_ble_eq_true rfl) rfl rfl (Nat.le_of_ble_eq_true rfl) rfl rfl (Nat.zero_le _) (Nat.zero_le _) dX10_flange_26 ?_
    suffices K29 : VW k z 0 0 (wAll k T R ly rc hn rp tp ee st w aside thought fresh mu u15.2 mp mf mh mg ou od) 37 [some (.ref (k.b + (189))), some (.int x1), some (.int x2)] [.int (if u26 = 0 then (1 : Int32) else (0 : Int32)), .ref (k.b + (189))] by
      refine r_if_ne X 36 dX10_flange_29 rfl (fun c29 => ?_) (fun c29 => ?_)
      · refine r_iconst X (v := 0) dX10_flange_36 rfl ?_
        rw [if_neg c29] at K29
        exact K29
      · refine r_iconst X (v := 1) dX10_flange_32 rfl ?_
        refine r_goto X 37 dX10_flange_33 rfl ?_
        rw [if_pos c29] at K29
        exact K29
    refine r_iconst X (v := 2) dX10_flange_37 rfl ?_
    obtain ⟨u38, h38, hf⟩ := bdS hf
    refine r_callV0 X [.int (if u26 = 0 then (1 : Int32) else (0 : Int32)), .int 2] [] (K10_fails h38) lkX10_151 clsX10 rfl _ o_model (by decide) (Nat.le_of_ble_eq_true rfl) rfl rfl (Nat.le_of_ble_eq_true rfl) rfl rfl (Nat.zero_le _) (Nat.zero_le _) dX10_flange_38 ?_
    refine r_if_eq X 48 dX10_flange_41 rfl (fun c41 => ?_) (fun c41 => ?_)
    · replace hf := ifT hf c41
      refine r_aload_n X (x := k.b + (189)) dX10_flange_48 rfl ?_
      refine r_getfield X (v := .ref (k.b + (190))) clsX10 flX10_7 (Nat.le_of_ble_eq_true rfl) _ o_model rfl dX10_flange_49 ?_
      refine r_iload_n X (x := x1) dX10_flange_52 rfl ?_
      obtain ⟨u53, h53, hf⟩ := bdS hf
      refine r_callS0 X [.int x1] [.ref (k.b + (190))] (K10_flangeAt h53) lkX10_96 (by decide) (Nat.le_of_ble_eq_true rfl) rfl rfl (Nat.le_of_ble_eq_true rfl) rfl rfl (Nat.zero_le _) (Nat.zero_le _) dX10_flange_53 ?_
      refine r_iload_n X (x := x2) dX10_flange_56 rfl ?_
      refine r_iadd X dX10_flange_57 ?_
      obtain ⟨g58, hf⟩ := gdS hf
      refine r_laload X (f := w) _ a_m_w g58 dX10_flange_58 ?_
      refine r_l2i X dX10_flange_59 ?_
      obtain rfl := Option.some.inj hf
      exact r_ireturn X hQ rfl rfl (Nat.le_of_ble_eq_true rfl) (Nat.le_of_ble_eq_true rfl) dX10_flange_60
    · replace hf := ifF hf c41
      refine r_iconst X (v := 0) dX10_flange_44 rfl ?_
      refine r_goto X 60 dX10_flange_45 rfl ?_
      obtain rfl := Option.some.inj hf
      exact r_ireturn X hQ rfl rfl (Nat.le_of_ble_eq_true rfl) (Nat.le_of_ble_eq_true rfl) dX10_flange_60
set_option maxRecDepth 100000 in
set_option maxHeartbeats 4000000 in
theorem K10_isNoTest {k : KT} {T : TT} {R : RR} {ly : Fin 2 → LL} {rc : RC} {hn : HN} {rp : RP} {tp : TP} {ee : EE} {st : Fin 12 → SS} {w : Nat → Int64} {aside : Nat → Int64} {thought : Nat → Int64} {fresh : Nat → Int64} {mu : MU} {th : Int32} {mp : MP} {mf : MF} {mh : MH} {mg : MG} {ou : Nat → Int64} {od : Nat → UInt64}  {x1 : Int32} {r : Int32 × (Int32)} (hf : f10_isNoTest w th x1 = some r) : CT k strs yX10_isNoTest cX10_isNoTest 2 (some .boolean) (rmD 1 0 0) 0 0 [.ref (k.b + (189)), .int x1] (wAll k T R ly rc hn rp tp ee st w aside thought fresh mu th mp mf mh mg ou od) (some (.int r.1)) (wAll k T R ly rc hn rp tp ee st w aside thought fresh mu r.2 mp mf mh mg ou od) := by
  refine CT.of (by decide) (Nat.le_of_ble_eq_true rfl) ?_
  intro z X hQ
  show VW k z 0 0 (wAll k T R ly rc hn rp tp ee st w aside thought fresh mu th mp mf mh mg ou od) 0 [some (.ref (k.b + (189))), some (.int x1)] []
  unfold f10_isNoTest at hf
  refine r_aload_n X (x := k.b + (189)) dX10_isNoTest_0 rfl ?_
  refine r_iload_n X (x := x1) dX10_isNoTest_1 rfl ?_
  refine r_i2l X dX10_isNoTest_2 ?_
  refine r_lconst X (v := 0) dX10_isNoTest_3 rfl ?_
  refine r_aload_n X (x := k.b + (189)) dX10_isNoTest_4 rfl ?_
  refine r_getfield X (v := .ref (k.b + (190))) clsX10 flX10_7 (Nat.le_of_ble_eq_true rfl) _ o_model rfl dX10_isNoTest_5 ?_
  refine r_bipush X (v := 7) dX10_isNoTest_8 rfl ?_
  refine r_laload X (f := w) _ a_m_w (by decide) dX10_isNoTest_10 ?_
  refine r_lconst X (v := 1) dX10_isNoTest_11 rfl ?_
  refine r_lsub X dX10_isNoTest_12 ?_
  obtain ⟨u13, h13, hf⟩ := bdS hf
  refine r_callS0 X [.long x1.toInt64, .long 0, .long ((w (ix 7)) - 1)] [.ref (k.b + (189))] (K10_in h13) lkX10_39 (by decide) (Nat.le_of_ble_eq_true rfl) rfl rfl (Nat.le_of_ble_eq_true rfl) rfl rfl (Nat.zero_le _) (Nat.zero_le _) dX10_isNoTest_13 ?_
  suffices K16 : VW k z 0 0 (wAll k T R ly rc hn rp tp ee st w aside thought fresh mu th mp mf mh mg ou od) 24 [some (.ref (k.b + (189))), some (.int x1)] [.int (if u13 = 0 then (1 : Int32) else (0 : Int32)), .ref (k.b + (189))] by
    refine r_if_ne X 23 dX10_isNoTest_16 rfl (fun c16 => ?_) (fun c16 => ?_)
    · refine r_iconst X (v := 0) dX10_isNoTest_23 rfl ?_
      rw [if_neg c16] at K16
      exact K16
    · refine r_iconst X (v := 1) dX10_isNoTest_19 rfl ?_
      refine r_goto X 24 dX10_isNoTest_20 rfl ?_
      rw [if_pos c16] at K16
      exact K16
  refine r_iconst X (v := 1) dX10_isNoTest_24 rfl ?_
  obtain ⟨u25, h25, hf⟩ := bdS hf
  refine r_callV0 X [.int (if u13 = 0 then (1 : Int32) else (0 : Int32)), .int 1] [] (K10_fails h25) lkX10_151 clsX10 rfl _ o_model (by decide) (Nat.le_of_ble_eq_true rfl) rfl rfl (Nat.le_of_ble_eq_true rfl) rfl rfl (Nat.zero_le _) (Nat.zero_le _) dX10_isNoTest_25 ?_
  obtain ⟨g28b, hf⟩ := gdS hf
  obtain rfl := Option.some.inj hf
  exact r_zreturn X hQ rfl rfl (Nat.le_of_ble_eq_true rfl) (Nat.le_of_ble_eq_true rfl) (nb_of g28b) dX10_isNoTest_28
set_option maxRecDepth 100000 in
set_option maxHeartbeats 4000000 in
theorem K10_rise {k : KT} {T : TT} {R : RR} {ly : Fin 2 → LL} {rc : RC} {hn : HN} {rp : RP} {tp : TP} {ee : EE} {st : Fin 12 → SS} {w : Nat → Int64} {aside : Nat → Int64} {thought : Nat → Int64} {fresh : Nat → Int64} {mu : MU} {th : Int32} {mp : MP} {mf : MF} {mh : MH} {mg : MG} {ou : Nat → Int64} {od : Nat → UInt64}  {x1 : Int32} {x2 : Int32} {r : Int32 × (Int32)} (hf : f10_rise w th x1 x2 = some r) : CT k strs yX10_rise cX10_rise 3 (some .int) (rmD 2 0 0) 0 0 [.ref (k.b + (189)), .int x1, .int x2] (wAll k T R ly rc hn rp tp ee st w aside thought fresh mu th mp mf mh mg ou od) (some (.int r.1)) (wAll k T R ly rc hn rp tp ee st w aside thought fresh mu r.2 mp mf mh mg ou od) := by
  refine CT.of (by decide) (Nat.le_of_ble_eq_true rfl) ?_
  intro z X hQ
  show VW k z 0 0 (wAll k T R ly rc hn rp tp ee st w aside thought fresh mu th mp mf mh mg ou od) 0 [some (.ref (k.b + (189))), some (.int x1), some (.int x2)] []
  unfold f10_rise at hf
  refine r_aload_n X (x := k.b + (189)) dX10_rise_0 rfl ?_
  refine r_iload_n X (x := x1) dX10_rise_1 rfl ?_
  obtain ⟨u2, h2, hf⟩ := bdS hf
  refine r_callV0 X [.int x1] [] (K10_isNoTest h2) lkX10_370 clsX10 rfl _ o_model (by decide) (Nat.le_of_ble_eq_true rfl) rfl rfl (Nat.le_of_ble_eq_true rfl) rfl rfl (Nat.zero_le _) (Nat.zero_le _) dX10_rise_2 ?_
  refine r_if_ne X 33 dX10_rise_5 rfl (fun c5 => ?_) (fun c5 => ?_)
  · replace hf := ifF hf c5
    refine r_iconst X (v := 0) dX10_rise_33 rfl ?_
    refine r_goto X 49 dX10_rise_34 rfl ?_
    obtain rfl := Option.some.inj hf
    exact r_ireturn X hQ rfl rfl (Nat.le_of_ble_eq_true rfl) (Nat.le_of_ble_eq_true rfl) dX10_rise_49
  · replace hf := ifT hf c5
    refine r_aload_n X (x := k.b + (189)) dX10_rise_8 rfl ?_
    refine r_iload_n X (x := x2) dX10_rise_9 rfl ?_
    refine r_i2l X dX10_rise_10 ?_
    refine r_lconst X (v := 0) dX10_rise_11 rfl ?_
    refine r_ldc2 X (v := 3) coX10_373 dX10_rise_12 ?_
    obtain ⟨u15, h15, hf⟩ := bdS hf
    refine r_callS0 X [.long x2.toInt64, .long 0, .long 3] [.ref (k.b + (189))] (K10_in h15) lkX10_39 (by decide) (Nat.le_of_ble_eq_true rfl) rfl rfl (Nat.le_of_ble_eq_true rfl) rfl rfl (Nat.zero_le _) (Nat.zero_le _) dX10_rise_15 ?_
    suffices K18 : VW k z 0 0 (wAll k T R ly rc hn rp tp ee st w aside thought fresh mu u2.2 mp mf mh mg ou od) 26 [some (.ref (k.b + (189))), some (.int x1), some (.int x2)] [.int (if u15 = 0 then (1 : Int32) else (0 : Int32)), .ref (k.b + (189))] by
      refine r_if_ne X 25 dX10_rise_18 rfl (fun c18 => ?_) (fun c18 => ?_)
      · refine r_iconst X (v := 0) dX10_rise_25 rfl ?_
        rw [if_neg c18] at K18
        exact K18
      · refine r_iconst X (v := 1) dX10_rise_21 rfl ?_
        refine r_goto X 26 dX10_rise_22 rfl ?_
        rw [if_pos c18] at K18
        exact K18
    refine r_iconst X (v := 2) dX10_rise_26 rfl ?_
    obtain ⟨u27, h27, hf⟩ := bdS hf
    refine r_callV0 X [.int (if u15 = 0 then (1 : Int32) else (0 : Int32)), .int 2] [] (K10_fails h27) lkX10_151 clsX10 rfl _ o_model (by decide) (Nat.le_of_ble_eq_true rfl) rfl rfl (Nat.le_of_ble_eq_true rfl) rfl rfl (Nat.zero_le _) (Nat.zero_le _) dX10_rise_27 ?_
    refine r_if_eq X 37 dX10_rise_30 rfl (fun c30 => ?_) (fun c30 => ?_)
    · replace hf := ifT hf c30
      refine r_aload_n X (x := k.b + (189)) dX10_rise_37 rfl ?_
      refine r_getfield X (v := .ref (k.b + (190))) clsX10 flX10_7 (Nat.le_of_ble_eq_true rfl) _ o_model rfl dX10_rise_38 ?_
      refine r_iload_n X (x := x1) dX10_rise_41 rfl ?_
      obtain ⟨u42, h42, hf⟩ := bdS hf
      refine r_callS0 X [.int x1] [.ref (k.b + (190))] (K10_testAt h42) lkX10_211 (by decide) (Nat.le_of_ble_eq_true rfl) rfl rfl (Nat.le_of_ble_eq_true rfl) rfl rfl (Nat.zero_le _) (Nat.zero_le _) dX10_rise_42 ?_
      refine r_iload_n X (x := x2) dX10_rise_45 rfl ?_
      refine r_iadd X dX10_rise_46 ?_
      obtain ⟨g47, hf⟩ := gdS hf
      refine r_laload X (f := w) _ a_m_w g47 dX10_rise_47 ?_
      refine r_l2i X dX10_rise_48 ?_
      obtain rfl := Option.some.inj hf
      exact r_ireturn X hQ rfl rfl (Nat.le_of_ble_eq_true rfl) (Nat.le_of_ble_eq_true rfl) dX10_rise_49
    · replace hf := ifF hf c30
      refine r_iconst X (v := 0) dX10_rise_33 rfl ?_
      refine r_goto X 49 dX10_rise_34 rfl ?_
      obtain rfl := Option.some.inj hf
      exact r_ireturn X hQ rfl rfl (Nat.le_of_ble_eq_true rfl) (Nat.le_of_ble_eq_true rfl) dX10_rise_49
set_option maxRecDepth 100000 in
set_option maxHeartbeats 4000000 in
theorem K10_riseGas {k : KT} {T : TT} {R : RR} {ly : Fin 2 → LL} {rc : RC} {hn : HN} {rp : RP} {tp : TP} {ee : EE} {st : Fin 12 → SS} {w : Nat → Int64} {aside : Nat → Int64} {thought : Nat → Int64} {fresh : Nat → Int64} {mu : MU} {th : Int32} {mp : MP} {mf : MF} {mh : MH} {mg : MG} {ou : Nat → Int64} {od : Nat → UInt64}  {x1 : Int32} {x2 : Int32} {r : Int64 × (Int32)} (hf : f10_riseGas w th x1 x2 = some r) : CT k strs yX10_riseGas cX10_riseGas 3 (some .long) (rmD 2 0 0) 0 0 [.ref (k.b + (189)), .int x1, .int x2] (wAll k T R ly rc hn rp tp ee st w aside thought fresh mu th mp mf mh mg ou od) (some (.long r.1)) (wAll k T R ly rc hn rp tp ee st w aside thought fresh mu r.2 mp mf mh mg ou od) := by
  refine CT.of (by decide) (Nat.le_of_ble_eq_true rfl) ?_
  intro z X hQ
  show VW k z 0 0 (wAll k T R ly rc hn rp tp ee st w aside thought fresh mu th mp mf mh mg ou od) 0 [some (.ref (k.b + (189))), some (.int x1), some (.int x2)] []
  unfold f10_riseGas at hf
  refine r_aload_n X (x := k.b + (189)) dX10_riseGas_0 rfl ?_
  refine r_iload_n X (x := x1) dX10_riseGas_1 rfl ?_
  obtain ⟨u2, h2, hf⟩ := bdS hf
  refine r_callV0 X [.int x1] [] (K10_isNoTest h2) lkX10_370 clsX10 rfl _ o_model (by decide) (Nat.le_of_ble_eq_true rfl) rfl rfl (Nat.le_of_ble_eq_true rfl) rfl rfl (Nat.zero_le _) (Nat.zero_le _) dX10_riseGas_2 ?_
  refine r_if_eq X 12 dX10_riseGas_5 rfl (fun c5 => ?_) (fun c5 => ?_)
  · replace hf := ifT hf c5
    refine r_aload_n X (x := k.b + (189)) dX10_riseGas_12 rfl ?_
    refine r_getfield X (v := .ref (k.b + (190))) clsX10 flX10_7 (Nat.le_of_ble_eq_true rfl) _ o_model rfl dX10_riseGas_13 ?_
    refine r_iload_n X (x := x1) dX10_riseGas_16 rfl ?_
    obtain ⟨u17, h17, hf⟩ := bdS hf
    refine r_callS0 X [.int x1] [.ref (k.b + (190))] (K10_testAt h17) lkX10_211 (by decide) (Nat.le_of_ble_eq_true rfl) rfl rfl (Nat.le_of_ble_eq_true rfl) rfl rfl (Nat.zero_le _) (Nat.zero_le _) dX10_riseGas_17 ?_
    refine r_iload_n X (x := x2) dX10_riseGas_20 rfl ?_
    suffices K21 : VW k z 0 0 (wAll k T R ly rc hn rp tp ee st w aside thought fresh mu u2.2 mp mf mh mg ou od) 29 [some (.ref (k.b + (189))), some (.int x1), some (.int x2)] [.int (if x2 = 0 then (4 : Int32) else (5 : Int32)), .int u17, .ref (k.b + (190))] by
      refine r_if_eq X 28 dX10_riseGas_21 rfl (fun c21 => ?_) (fun c21 => ?_)
      · refine r_iconst X (v := 4) dX10_riseGas_28 rfl ?_
        rw [if_pos c21] at K21
        exact K21
      · refine r_iconst X (v := 5) dX10_riseGas_24 rfl ?_
        refine r_goto X 29 dX10_riseGas_25 rfl ?_
        rw [if_neg c21] at K21
        exact K21
    refine r_iadd X dX10_riseGas_29 ?_
    obtain ⟨g30, hf⟩ := gdS hf
    refine r_laload X (f := w) _ a_m_w g30 dX10_riseGas_30 ?_
    obtain rfl := Option.some.inj hf
    exact r_lreturn X hQ rfl rfl (Nat.le_of_ble_eq_true rfl) (Nat.le_of_ble_eq_true rfl) dX10_riseGas_31
  · replace hf := ifF hf c5
    refine r_lconst X (v := 0) dX10_riseGas_8 rfl ?_
    refine r_goto X 31 dX10_riseGas_9 rfl ?_
    obtain rfl := Option.some.inj hf
    exact r_lreturn X hQ rfl rfl (Nat.le_of_ble_eq_true rfl) (Nat.le_of_ble_eq_true rfl) dX10_riseGas_31
set_option maxRecDepth 100000 in
set_option maxHeartbeats 4000000 in
theorem K10_mayOpen {k : KT} {T : TT} {R : RR} {ly : Fin 2 → LL} {rc : RC} {hn : HN} {rp : RP} {tp : TP} {ee : EE} {st : Fin 12 → SS} {w : Nat → Int64} {aside : Nat → Int64} {thought : Nat → Int64} {fresh : Nat → Int64} {mu : MU} {th : Int32} {mp : MP} {mf : MF} {mh : MH} {mg : MG} {ou : Nat → Int64} {od : Nat → UInt64}  {x1 : Int32} {r : Int32 × (Int32)} (hf : f10_mayOpen w th x1 = some r) : CT k strs yX10_mayOpen cX10_mayOpen 2 (some .int) (rmD 5 0 0) 0 0 [.ref (k.b + (189)), .int x1] (wAll k T R ly rc hn rp tp ee st w aside thought fresh mu th mp mf mh mg ou od) (some (.int r.1)) (wAll k T R ly rc hn rp tp ee st w aside thought fresh mu r.2 mp mf mh mg ou od) := by
  refine CT.of (by decide) (Nat.le_of_ble_eq_true rfl) ?_
  intro z X hQ
  show VW k z 0 0 (wAll k T R ly rc hn rp tp ee st w aside thought fresh mu th mp mf mh mg ou od) 0 [some (.ref (k.b + (189))), some (.int x1)] []
  unfold f10_mayOpen at hf
  refine r_aload_n X (x := k.b + (189)) dX10_mayOpen_0 rfl ?_
  refine r_aload_n X (x := k.b + (189)) dX10_mayOpen_1 rfl ?_
  refine r_iload_n X (x := x1) dX10_mayOpen_2 rfl ?_
  obtain ⟨u3, h3, hf⟩ := bdS hf
  refine r_callV0 X [.int x1] [.ref (k.b + (189))] (K10_isValve h3) lkX10_148 clsX10 rfl _ o_model (by decide) (Nat.le_of_ble_eq_true rfl) rfl rfl (Nat.le_of_ble_eq_true rfl) rfl rfl (Nat.zero_le _) (Nat.zero_le _) dX10_mayOpen_3 ?_
  suffices K6 : VW k z 0 0 (wAll k T R ly rc hn rp tp ee st w aside thought fresh mu th mp mf mh mg ou od) 14 [some (.ref (k.b + (189))), some (.int x1)] [.int (if u3 = 0 then (1 : Int32) else (0 : Int32)), .ref (k.b + (189))] by
    refine r_if_ne X 13 dX10_mayOpen_6 rfl (fun c6 => ?_) (fun c6 => ?_)
    · refine r_iconst X (v := 0) dX10_mayOpen_13 rfl ?_
      rw [if_neg c6] at K6
      exact K6
    · refine r_iconst X (v := 1) dX10_mayOpen_9 rfl ?_
      refine r_goto X 14 dX10_mayOpen_10 rfl ?_
      rw [if_pos c6] at K6
      exact K6
  refine r_iconst X (v := 1) dX10_mayOpen_14 rfl ?_
  obtain ⟨u15, h15, hf⟩ := bdS hf
  refine r_callV0 X [.int (if u3 = 0 then (1 : Int32) else (0 : Int32)), .int 1] [] (K10_fails h15) lkX10_151 clsX10 rfl _ o_model (by decide) (Nat.le_of_ble_eq_true rfl) rfl rfl (Nat.le_of_ble_eq_true rfl) rfl rfl (Nat.zero_le _) (Nat.zero_le _) dX10_mayOpen_15 ?_
  refine r_if_eq X 23 dX10_mayOpen_18 rfl (fun c18 => ?_) (fun c18 => ?_)
  · replace hf := ifT hf c18
    refine r_aload_n X (x := k.b + (189)) dX10_mayOpen_23 rfl ?_
    refine r_iload_n X (x := x1) dX10_mayOpen_24 rfl ?_
    obtain ⟨u25, h25, hf⟩ := bdS hf
    refine r_callV0 X [.int x1] [] (K10_isOpen h25) lkX10_99 clsX10 rfl _ o_model (by decide) (Nat.le_of_ble_eq_true rfl) rfl rfl (Nat.le_of_ble_eq_true rfl) rfl rfl (Nat.zero_le _) (Nat.zero_le _) dX10_mayOpen_25 ?_
    refine r_if_eq X 35 dX10_mayOpen_28 rfl (fun c28 => ?_) (fun c28 => ?_)
    · replace hf := ifT hf c28
      refine r_aload_n X (x := k.b + (189)) dX10_mayOpen_35 rfl ?_
      refine r_iload_n X (x := x1) dX10_mayOpen_36 rfl ?_
      obtain ⟨u37, h37, hf⟩ := bdS hf
      refine r_callV0 X [.int x1] [] (K10_mayJoin h37) lkX10_103 clsX10 rfl _ o_model (by decide) (Nat.le_of_ble_eq_true rfl) rfl rfl (Nat.le_of_ble_eq_true rfl) rfl rfl (Nat.zero_le _) (Nat.zero_le _) dX10_mayOpen_37 ?_
      refine r_if_eq X 47 dX10_mayOpen_40 rfl (fun c40 => ?_) (fun c40 => ?_)
      · replace hf := ifT hf c40
        refine r_iconst X (v := 2) dX10_mayOpen_47 rfl ?_
        obtain rfl := Option.some.inj hf
        exact r_ireturn X hQ rfl rfl (Nat.le_of_ble_eq_true rfl) (Nat.le_of_ble_eq_true rfl) dX10_mayOpen_48
      · replace hf := ifF hf c40
        refine r_iconst X (v := 0) dX10_mayOpen_43 rfl ?_
        refine r_goto X 48 dX10_mayOpen_44 rfl ?_
        obtain rfl := Option.some.inj hf
        exact r_ireturn X hQ rfl rfl (Nat.le_of_ble_eq_true rfl) (Nat.le_of_ble_eq_true rfl) dX10_mayOpen_48
    · replace hf := ifF hf c28
      refine r_iconst X (v := 1) dX10_mayOpen_31 rfl ?_
      refine r_goto X 48 dX10_mayOpen_32 rfl ?_
      obtain rfl := Option.some.inj hf
      exact r_ireturn X hQ rfl rfl (Nat.le_of_ble_eq_true rfl) (Nat.le_of_ble_eq_true rfl) dX10_mayOpen_48
  · replace hf := ifF hf c18
    refine r_iconst X (v := 0) dX10_mayOpen_21 rfl ?_
    obtain rfl := Option.some.inj hf
    exact r_ireturn X hQ rfl rfl (Nat.le_of_ble_eq_true rfl) (Nat.le_of_ble_eq_true rfl) dX10_mayOpen_22
set_option maxRecDepth 100000 in
set_option maxHeartbeats 4000000 in
theorem K10_mayStart {k : KT} {T : TT} {R : RR} {ly : Fin 2 → LL} {rc : RC} {hn : HN} {rp : RP} {tp : TP} {ee : EE} {st : Fin 12 → SS} {w : Nat → Int64} {aside : Nat → Int64} {thought : Nat → Int64} {fresh : Nat → Int64} {mu : MU} {th : Int32} {mp : MP} {mf : MF} {mh : MH} {mg : MG} {ou : Nat → Int64} {od : Nat → UInt64}  {x1 : Int32} {r : Int32 × (Int32)} (hf : f10_mayStart w th x1 = some r) : CT k strs yX10_mayStart cX10_mayStart 2 (some .int) (rmD 4 0 0) 0 0 [.ref (k.b + (189)), .int x1] (wAll k T R ly rc hn rp tp ee st w aside thought fresh mu th mp mf mh mg ou od) (some (.int r.1)) (wAll k T R ly rc hn rp tp ee st w aside thought fresh mu r.2 mp mf mh mg ou od) := by
  refine CT.of (by decide) (Nat.le_of_ble_eq_true rfl) ?_
  intro z X hQ
  show VW k z 0 0 (wAll k T R ly rc hn rp tp ee st w aside thought fresh mu th mp mf mh mg ou od) 0 [some (.ref (k.b + (189))), some (.int x1)] []
  unfold f10_mayStart at hf
  refine r_aload_n X (x := k.b + (189)) dX10_mayStart_0 rfl ?_
  refine r_aload_n X (x := k.b + (189)) dX10_mayStart_1 rfl ?_
  refine r_iload_n X (x := x1) dX10_mayStart_2 rfl ?_
  obtain ⟨u3, h3, hf⟩ := bdS hf
  refine r_callV0 X [.int x1] [.ref (k.b + (189))] (K10_isPump h3) lkX10_164 clsX10 rfl _ o_model (by decide) (Nat.le_of_ble_eq_true rfl) rfl rfl (Nat.le_of_ble_eq_true rfl) rfl rfl (Nat.zero_le _) (Nat.zero_le _) dX10_mayStart_3 ?_
  suffices K6 : VW k z 0 0 (wAll k T R ly rc hn rp tp ee st w aside thought fresh mu th mp mf mh mg ou od) 14 [some (.ref (k.b + (189))), some (.int x1)] [.int (if u3 = 0 then (1 : Int32) else (0 : Int32)), .ref (k.b + (189))] by
    refine r_if_ne X 13 dX10_mayStart_6 rfl (fun c6 => ?_) (fun c6 => ?_)
    · refine r_iconst X (v := 0) dX10_mayStart_13 rfl ?_
      rw [if_neg c6] at K6
      exact K6
    · refine r_iconst X (v := 1) dX10_mayStart_9 rfl ?_
      refine r_goto X 14 dX10_mayStart_10 rfl ?_
      rw [if_pos c6] at K6
      exact K6
  refine r_iconst X (v := 1) dX10_mayStart_14 rfl ?_
  obtain ⟨u15, h15, hf⟩ := bdS hf
  refine r_callV0 X [.int (if u3 = 0 then (1 : Int32) else (0 : Int32)), .int 1] [] (K10_fails h15) lkX10_151 clsX10 rfl _ o_model (by decide) (Nat.le_of_ble_eq_true rfl) rfl rfl (Nat.le_of_ble_eq_true rfl) rfl rfl (Nat.zero_le _) (Nat.zero_le _) dX10_mayStart_15 ?_
  refine r_if_eq X 23 dX10_mayStart_18 rfl (fun c18 => ?_) (fun c18 => ?_)
  · replace hf := ifT hf c18
    refine r_aload_n X (x := k.b + (189)) dX10_mayStart_23 rfl ?_
    refine r_iload_n X (x := x1) dX10_mayStart_24 rfl ?_
    obtain ⟨u25, h25, hf⟩ := bdS hf
    refine r_callV0 X [.int x1] [] (K10_isRunning h25) lkX10_135 clsX10 rfl _ o_model (by decide) (Nat.le_of_ble_eq_true rfl) rfl rfl (Nat.le_of_ble_eq_true rfl) rfl rfl (Nat.zero_le _) (Nat.zero_le _) dX10_mayStart_25 ?_
    refine r_if_eq X 35 dX10_mayStart_28 rfl (fun c28 => ?_) (fun c28 => ?_)
    · replace hf := ifT hf c28
      refine r_aload_n X (x := k.b + (189)) dX10_mayStart_35 rfl ?_
      refine r_iload_n X (x := x1) dX10_mayStart_36 rfl ?_
      obtain ⟨u37, h37, hf⟩ := bdS hf
      refine r_callV0 X [.int x1] [] (K10_isLowEnough h37) lkX10_119 clsX10 rfl _ o_model (by decide) (Nat.le_of_ble_eq_true rfl) rfl rfl (Nat.le_of_ble_eq_true rfl) rfl rfl (Nat.zero_le _) (Nat.zero_le _) dX10_mayStart_37 ?_
      refine r_if_ne X 47 dX10_mayStart_40 rfl (fun c40 => ?_) (fun c40 => ?_)
      · replace hf := ifF hf c40
        refine r_aload_n X (x := k.b + (189)) dX10_mayStart_47 rfl ?_
        refine r_iload_n X (x := x1) dX10_mayStart_48 rfl ?_
        obtain ⟨u49, h49, hf⟩ := bdS hf
        refine r_callV0 X [.int x1] [] (K10_isBacked h49) lkX10_122 clsX10 rfl _ o_model (by decide) (Nat.le_of_ble_eq_true rfl) rfl rfl (Nat.le_of_ble_eq_true rfl) rfl rfl (Nat.zero_le _) (Nat.zero_le _) dX10_mayStart_49 ?_
        refine r_if_eq X 59 dX10_mayStart_52 rfl (fun c52 => ?_) (fun c52 => ?_)
        · replace hf := ifT hf c52
          refine r_iconst X (v := 3) dX10_mayStart_59 rfl ?_
          obtain rfl := Option.some.inj hf
          exact r_ireturn X hQ rfl rfl (Nat.le_of_ble_eq_true rfl) (Nat.le_of_ble_eq_true rfl) dX10_mayStart_60
        · replace hf := ifF hf c52
          refine r_iconst X (v := 0) dX10_mayStart_55 rfl ?_
          refine r_goto X 60 dX10_mayStart_56 rfl ?_
          obtain rfl := Option.some.inj hf
          exact r_ireturn X hQ rfl rfl (Nat.le_of_ble_eq_true rfl) (Nat.le_of_ble_eq_true rfl) dX10_mayStart_60
      · replace hf := ifT hf c40
        refine r_iconst X (v := 2) dX10_mayStart_43 rfl ?_
        refine r_goto X 60 dX10_mayStart_44 rfl ?_
        obtain rfl := Option.some.inj hf
        exact r_ireturn X hQ rfl rfl (Nat.le_of_ble_eq_true rfl) (Nat.le_of_ble_eq_true rfl) dX10_mayStart_60
    · replace hf := ifF hf c28
      refine r_iconst X (v := 1) dX10_mayStart_31 rfl ?_
      refine r_goto X 60 dX10_mayStart_32 rfl ?_
      obtain rfl := Option.some.inj hf
      exact r_ireturn X hQ rfl rfl (Nat.le_of_ble_eq_true rfl) (Nat.le_of_ble_eq_true rfl) dX10_mayStart_60
  · replace hf := ifF hf c18
    refine r_iconst X (v := 0) dX10_mayStart_21 rfl ?_
    obtain rfl := Option.some.inj hf
    exact r_ireturn X hQ rfl rfl (Nat.le_of_ble_eq_true rfl) (Nat.le_of_ble_eq_true rfl) dX10_mayStart_22
set_option maxRecDepth 100000 in
set_option maxHeartbeats 4000000 in
theorem B10_beside_B72 {k : KT} {z : ZT} {T : TT} {R : RR} {ly : Fin 2 → LL} {rc : RC} {hn : HN} {rp : RP} {tp : TP} {ee : EE} {st : Fin 12 → SS} {w : Nat → Int64} {aside : Nat → Int64} {thought : Nat → Int64} {fresh : Nat → Int64} {mu : MU} {th : Int32} {mp : MP} {mf : MF} {mh : MH} {mg : MG} {ou : Nat → Int64} {od : Nat → UInt64} {r : Int32} (X : XX k strs z RX10 cX10_beside 7 (some .int) (rmD 3 0 0)) (hQ : zQ z = MQ (zB z) (Qof k (some (.int r)) (wAll k T R ly rc hn rp tp ee st w aside thought fresh mu th mp mf mh mg ou od)) (zA z) (zS z) 0 0 (kA k)) (rec : Int32 → Int32 → Int32 → Int32 → Option (Int32)) (hrec : ∀ (x1 : Int32) (x2 : Int32) (x3 : Int32) (x4 : Int32), rec x1 x2 x3 x4 = some r → VW k z 0 0 (wAll k T R ly rc hn rp tp ee st w aside thought fresh mu th mp mf mh mg ou od) 5 [some (.ref (k.b + (189))), some (.int x1), some (.int x2), some (.int x3), some (.int x4), none, none] []) (x1 : Int32) (x2 : Int32) (x3 : Int32) (x4 : Int32) (x5 : Int32) (x6 : Int32) (hf : f10_beside_B72 w rec x1 x2 x3 x4 x5 x6 = some r) : VW k z 0 0 (wAll k T R ly rc hn rp tp ee st w aside thought fresh mu th mp mf mh mg ou od) 72 [some (.ref (k.b + (189))), some (.int x1), some (.int x2), some (.int x3), some (.int x4), some (.int x5), some (.int x6)] [] := by
  unfold f10_beside_B72 at hf
  refine r_iload_n X (x := x1) dX10_beside_72 rfl ?_
  refine r_iload X (x := x6) dX10_beside_73 rfl ?_
  refine r_ishr X dX10_beside_75 ?_
  refine r_iconst X (v := 1) dX10_beside_76 rfl ?_
  refine r_iand X dX10_beside_77 ?_
  refine r_iconst X (v := 1) dX10_beside_78 rfl ?_
  refine r_icmp_ne X 89 dX10_beside_79 rfl (fun c79 => ?_) (fun c79 => ?_)
  · replace hf := ifF hf c79
    refine r_iinc X (x := x4) (v := x4 + 1) [some (.ref (k.b + (189))), some (.int x1), some (.int x2), some (.int x3), some (.int (x4 + 1)), some (.int x5), some (.int x6)] dX10_beside_89 rfl rfl rfl ?_
    refine r_goto X 5 dX10_beside_92 rfl ?_
    refine VW.msk [true, true, true, true, true, false, false] rfl (lo' := [some (.ref (k.b + (189))), some (.int x1), some (.int x2), some (.int x3), some (.int (x4 + 1)), none, none]) rfl ?_
    exact hrec x1 x2 x3 (x4 + 1) hf
  · replace hf := ifT hf c79
    refine r_iload_n X (x := x3) dX10_beside_82 rfl ?_
    refine r_iconst X (v := 1) dX10_beside_83 rfl ?_
    refine r_iload X (x := x5) dX10_beside_84 rfl ?_
    refine r_ishl X dX10_beside_86 ?_
    refine r_ior X dX10_beside_87 ?_
    refine r_istore_n X [some (.ref (k.b + (189))), some (.int x1), some (.int x2), some (.int (x3 ||| (1 <<< (x5 &&& 31)))), some (.int x4), some (.int x5), some (.int x6)] dX10_beside_88 (Nat.le_of_ble_eq_true rfl) rfl ?_
    refine r_iinc X (x := x4) (v := x4 + 1) [some (.ref (k.b + (189))), some (.int x1), some (.int x2), some (.int (x3 ||| (1 <<< (x5 &&& 31)))), some (.int (x4 + 1)), some (.int x5), some (.int x6)] dX10_beside_89 rfl rfl rfl ?_
    refine r_goto X 5 dX10_beside_92 rfl ?_
    refine VW.msk [true, true, true, true, true, false, false] rfl (lo' := [some (.ref (k.b + (189))), some (.int x1), some (.int x2), some (.int (x3 ||| (1 <<< (x5 &&& 31)))), some (.int (x4 + 1)), none, none]) rfl ?_
    exact hrec x1 x2 (x3 ||| (1 <<< (x5 &&& 31))) (x4 + 1) hf
set_option maxRecDepth 100000 in
set_option maxHeartbeats 4000000 in
theorem B10_beside_B55 {k : KT} {z : ZT} {T : TT} {R : RR} {ly : Fin 2 → LL} {rc : RC} {hn : HN} {rp : RP} {tp : TP} {ee : EE} {st : Fin 12 → SS} {w : Nat → Int64} {aside : Nat → Int64} {thought : Nat → Int64} {fresh : Nat → Int64} {mu : MU} {th : Int32} {mp : MP} {mf : MF} {mh : MH} {mg : MG} {ou : Nat → Int64} {od : Nat → UInt64} {r : Int32} (X : XX k strs z RX10 cX10_beside 7 (some .int) (rmD 3 0 0)) (hQ : zQ z = MQ (zB z) (Qof k (some (.int r)) (wAll k T R ly rc hn rp tp ee st w aside thought fresh mu th mp mf mh mg ou od)) (zA z) (zS z) 0 0 (kA k)) (rec : Int32 → Int32 → Int32 → Int32 → Option (Int32)) (hrec : ∀ (x1 : Int32) (x2 : Int32) (x3 : Int32) (x4 : Int32), rec x1 x2 x3 x4 = some r → VW k z 0 0 (wAll k T R ly rc hn rp tp ee st w aside thought fresh mu th mp mf mh mg ou od) 5 [some (.ref (k.b + (189))), some (.int x1), some (.int x2), some (.int x3), some (.int x4), none, none] []) (x1 : Int32) (x2 : Int32) (x3 : Int32) (x4 : Int32) (x5 : Int32) (x6 : Int32) (hf : f10_beside_B55 w rec x1 x2 x3 x4 x5 x6 = some r) : VW k z 0 0 (wAll k T R ly rc hn rp tp ee st w aside thought fresh mu th mp mf mh mg ou od) 55 [some (.ref (k.b + (189))), some (.int x1), some (.int x2), some (.int x3), some (.int x4), some (.int x5), some (.int x6)] [] := by
  unfold f10_beside_B55 at hf
  refine r_iload_n X (x := x1) dX10_beside_55 rfl ?_
  refine r_iload X (x := x5) dX10_beside_56 rfl ?_
  refine r_ishr X dX10_beside_58 ?_
  refine r_iconst X (v := 1) dX10_beside_59 rfl ?_
  refine r_iand X dX10_beside_60 ?_
  refine r_iconst X (v := 1) dX10_beside_61 rfl ?_
  refine r_icmp_ne X 72 dX10_beside_62 rfl (fun c62 => ?_) (fun c62 => ?_)
  · replace hf := ifF hf c62
    exact B10_beside_B72 X hQ rec hrec x1 x2 x3 x4 x5 x6 hf
  · replace hf := ifT hf c62
    refine r_iload_n X (x := x3) dX10_beside_65 rfl ?_
    refine r_iconst X (v := 1) dX10_beside_66 rfl ?_
    refine r_iload X (x := x6) dX10_beside_67 rfl ?_
    refine r_ishl X dX10_beside_69 ?_
    refine r_ior X dX10_beside_70 ?_
    refine r_istore_n X [some (.ref (k.b + (189))), some (.int x1), some (.int x2), some (.int (x3 ||| (1 <<< (x6 &&& 31)))), some (.int x4), some (.int x5), some (.int x6)] dX10_beside_71 (Nat.le_of_ble_eq_true rfl) rfl ?_
    exact B10_beside_B72 X hQ rec hrec x1 x2 (x3 ||| (1 <<< (x6 &&& 31))) x4 x5 x6 hf
set_option maxRecDepth 100000 in
set_option maxHeartbeats 4000000 in
theorem B10_beside_B5 {k : KT} {z : ZT} {T : TT} {R : RR} {ly : Fin 2 → LL} {rc : RC} {hn : HN} {rp : RP} {tp : TP} {ee : EE} {st : Fin 12 → SS} {w : Nat → Int64} {aside : Nat → Int64} {thought : Nat → Int64} {fresh : Nat → Int64} {mu : MU} {th : Int32} {mp : MP} {mf : MF} {mh : MH} {mg : MG} {ou : Nat → Int64} {od : Nat → UInt64} {r : Int32} (X : XX k strs z RX10 cX10_beside 7 (some .int) (rmD 3 0 0)) (hQ : zQ z = MQ (zB z) (Qof k (some (.int r)) (wAll k T R ly rc hn rp tp ee st w aside thought fresh mu th mp mf mh mg ou od)) (zA z) (zS z) 0 0 (kA k)) : ∀ (fu : Nat) (x1 : Int32) (x2 : Int32) (x3 : Int32) (x4 : Int32), f10_beside_B5 w fu x1 x2 x3 x4 = some r → VW k z 0 0 (wAll k T R ly rc hn rp tp ee st w aside thought fresh mu th mp mf mh mg ou od) 5 [some (.ref (k.b + (189))), some (.int x1), some (.int x2), some (.int x3), some (.int x4), none, none] [] := by
  intro fu
  induction fu with
  | zero =>
    intro x1 x2 x3 x4 hf
    rw [f10_beside_B5] at hf
    cases hf
  | succ fu ih =>
    intro x1 x2 x3 x4 hf
    rw [f10_beside_B5] at hf
    refine r_iload X (x := x4) dX10_beside_5 rfl ?_
    refine r_aload_n X (x := k.b + (189)) dX10_beside_7 rfl ?_
    refine r_iconst X (v := 2) dX10_beside_8 rfl ?_
    obtain ⟨u9, h9, hf⟩ := bdS hf
    refine r_callV0 X [.int 2] [.int x4] (K10_many h9) lkX10_93 clsX10 rfl _ o_model (by decide) (Nat.le_of_ble_eq_true rfl) rfl rfl (Nat.le_of_ble_eq_true rfl) rfl rfl (Nat.zero_le _) (Nat.zero_le _) dX10_beside_9 ?_
    refine r_icmp_ge X 95 dX10_beside_12 rfl (fun c12 => ?_) (fun c12 => ?_)
    · replace hf := ifT hf c12
      refine r_iload_n X (x := x3) dX10_beside_95 rfl ?_
      obtain rfl := Option.some.inj hf
      exact r_ireturn X hQ rfl rfl (Nat.le_of_ble_eq_true rfl) (Nat.le_of_ble_eq_true rfl) dX10_beside_96
    · replace hf := ifF hf c12
      refine r_aload_n X (x := k.b + (189)) dX10_beside_15 rfl ?_
      refine r_iload X (x := x4) dX10_beside_16 rfl ?_
      refine r_iconst X (v := 0) dX10_beside_18 rfl ?_
      obtain ⟨u19, h19, hf⟩ := bdS hf
      refine r_callV0 X [.int x4, .int 0] [] (K10_ofValve h19) lkX10_74 clsX10 rfl _ o_model (by decide) (Nat.le_of_ble_eq_true rfl) rfl rfl (Nat.le_of_ble_eq_true rfl) rfl rfl (Nat.zero_le _) (Nat.zero_le _) dX10_beside_19 ?_
      refine r_istore X [some (.ref (k.b + (189))), some (.int x1), some (.int x2), some (.int x3), some (.int x4), some (.int u19), none] dX10_beside_22 (Nat.le_of_ble_eq_true rfl) rfl ?_
      refine r_aload_n X (x := k.b + (189)) dX10_beside_24 rfl ?_
      refine r_iload X (x := x4) dX10_beside_25 rfl ?_
      refine r_iconst X (v := 1) dX10_beside_27 rfl ?_
      obtain ⟨u28, h28, hf⟩ := bdS hf
      refine r_callV0 X [.int x4, .int 1] [] (K10_ofValve h28) lkX10_74 clsX10 rfl _ o_model (by decide) (Nat.le_of_ble_eq_true rfl) rfl rfl (Nat.le_of_ble_eq_true rfl) rfl rfl (Nat.zero_le _) (Nat.zero_le _) dX10_beside_28 ?_
      refine r_istore X [some (.ref (k.b + (189))), some (.int x1), some (.int x2), some (.int x3), some (.int x4), some (.int u19), some (.int u28)] dX10_beside_31 (Nat.le_of_ble_eq_true rfl) rfl ?_
      refine r_iload X (x := u28) dX10_beside_33 rfl ?_
      refine r_iconst X (v := (-1)) dX10_beside_35 rfl ?_
      refine r_icmp_eq X 89 dX10_beside_36 rfl (fun c36 => ?_) (fun c36 => ?_)
      · replace hf := ifT hf c36
        refine r_iinc X (x := x4) (v := x4 + 1) [some (.ref (k.b + (189))), some (.int x1), some (.int x2), some (.int x3), some (.int (x4 + 1)), some (.int u19), some (.int u28)] dX10_beside_89 rfl rfl rfl ?_
        refine r_goto X 5 dX10_beside_92 rfl ?_
        refine VW.msk [true, true, true, true, true, false, false] rfl (lo' := [some (.ref (k.b + (189))), some (.int x1), some (.int x2), some (.int x3), some (.int (x4 + 1)), none, none]) rfl ?_
        exact ih x1 x2 x3 (x4 + 1) hf
      · replace hf := ifF hf c36
        refine r_iload_n X (x := x2) dX10_beside_39 rfl ?_
        refine r_if_ne X 55 dX10_beside_40 rfl (fun c40 => ?_) (fun c40 => ?_)
        · replace hf := ifF hf c40
          exact B10_beside_B55 X hQ (f10_beside_B5 w fu) ih x1 x2 x3 x4 u19 u28 hf
        · replace hf := ifT hf c40
          refine r_aload_n X (x := k.b + (189)) dX10_beside_43 rfl ?_
          refine r_iload X (x := x4) dX10_beside_44 rfl ?_
          obtain ⟨u46, h46, hf⟩ := bdS hf
          refine r_callV0 X [.int x4] [] (K10_isOpen h46) lkX10_99 clsX10 rfl _ o_model (by decide) (Nat.le_of_ble_eq_true rfl) rfl rfl (Nat.le_of_ble_eq_true rfl) rfl rfl (Nat.zero_le _) (Nat.zero_le _) dX10_beside_46 ?_
          refine r_if_ne X 55 dX10_beside_49 rfl (fun c49 => ?_) (fun c49 => ?_)
          · replace hf := ifF hf c49
            exact B10_beside_B55 X hQ (f10_beside_B5 w fu) ih x1 x2 x3 x4 u19 u28 hf
          · replace hf := ifT hf c49
            refine r_goto X 89 dX10_beside_52 rfl ?_
            refine r_iinc X (x := x4) (v := x4 + 1) [some (.ref (k.b + (189))), some (.int x1), some (.int x2), some (.int x3), some (.int (x4 + 1)), some (.int u19), some (.int u28)] dX10_beside_89 rfl rfl rfl ?_
            refine r_goto X 5 dX10_beside_92 rfl ?_
            refine VW.msk [true, true, true, true, true, false, false] rfl (lo' := [some (.ref (k.b + (189))), some (.int x1), some (.int x2), some (.int x3), some (.int (x4 + 1)), none, none]) rfl ?_
            exact ih x1 x2 x3 (x4 + 1) hf
set_option maxRecDepth 100000 in
set_option maxHeartbeats 4000000 in
theorem K10_beside {k : KT} {T : TT} {R : RR} {ly : Fin 2 → LL} {rc : RC} {hn : HN} {rp : RP} {tp : TP} {ee : EE} {st : Fin 12 → SS} {w : Nat → Int64} {aside : Nat → Int64} {thought : Nat → Int64} {fresh : Nat → Int64} {mu : MU} {th : Int32} {mp : MP} {mf : MF} {mh : MH} {mg : MG} {ou : Nat → Int64} {od : Nat → UInt64}  {x1 : Int32} {x2 : Int32} {r : Int32} (hf : f10_beside w  x1 x2 = some r) : CT k strs yX10_beside cX10_beside 7 (some .int) (rmD 3 0 0) 0 0 [.ref (k.b + (189)), .int x1, .int x2] (wAll k T R ly rc hn rp tp ee st w aside thought fresh mu th mp mf mh mg ou od) (some (.int r)) (wAll k T R ly rc hn rp tp ee st w aside thought fresh mu th mp mf mh mg ou od) := by
  refine CT.of (by decide) (Nat.le_of_ble_eq_true rfl) ?_
  intro z X hQ
  show VW k z 0 0 (wAll k T R ly rc hn rp tp ee st w aside thought fresh mu th mp mf mh mg ou od) 0 [some (.ref (k.b + (189))), some (.int x1), some (.int x2), none, none, none, none] []
  unfold f10_beside at hf
  refine r_iload_n X (x := x1) dX10_beside_0 rfl ?_
  refine r_istore_n X [some (.ref (k.b + (189))), some (.int x1), some (.int x2), some (.int x1), none, none, none] dX10_beside_1 (Nat.le_of_ble_eq_true rfl) rfl ?_
  refine r_iconst X (v := 0) dX10_beside_2 rfl ?_
  refine r_istore X [some (.ref (k.b + (189))), some (.int x1), some (.int x2), some (.int x1), some (.int 0), none, none] dX10_beside_3 (Nat.le_of_ble_eq_true rfl) rfl ?_
  exact B10_beside_B5 X hQ FU x1 x2 x1 0 hf
