/-! the methods do it -/
set_option maxRecDepth 100000 in
set_option maxHeartbeats 4000000 in
theorem B9_bestValve_B110 {k : KT} {z : ZT} {T : TT} {R : RR} {ly : Fin 2 → LL} {rc : RC} {hn : HN} {rp : RP} {tp : TP} {ee : EE} {w : Nat → Int64} {aside : Nat → Int64} {thought : Nat → Int64} {fresh : Nat → Int64} {mu : MU} {th : Int32} {mp : MP} {mf : MF} {mh : MH} {mg : MG} {ou : Nat → Int64} {od : Nat → UInt64} {r : (Int32 ⊕ Nat) × (Fin 12 → SS)} (X : XX k strs z RX9 cX9_bestValve 6 (some .int) (rmD 6 1 6)) (hT : ∀ x ∈ (zC z).exceptionTable.toList, False) (hQ : zQ z = vx_MQ (zB z) (QXof k (oI r.1) (wAll k T R ly rc hn rp tp ee r.2 w aside thought fresh mu th mp mf mh mg ou od)) (XCof k (oI r.1) (wAll k T R ly rc hn rp tp ee r.2 w aside thought fresh mu th mp mf mh mg ou od)) (zA z) (zS z) 1 6 (kA k)) (rec : (Fin 12 → SS) → Int32 → Int32 → Int32 → Int32 → Int32 → Option ((Int32 ⊕ Nat) × (Fin 12 → SS))) (hrec : ∀ (st : Fin 12 → SS) (x1 : Int32) (x2 : Int32) (x3 : Int32) (x4 : Int32) (x5 : Int32), rec st x1 x2 x3 x4 x5 = some r → VW k z 0 0 (wAll k T R ly rc hn rp tp ee st w aside thought fresh mu th mp mf mh mg ou od) 42 [some (.ref (k.b + (0))), some (.int x1), some (.int x2), some (.int x3), some (.int x4), some (.int x5)] []) (st : Fin 12 → SS) (x1 : Int32) (x2 : Int32) (x5 : Int32) (hf : f9_bestValve_B110 (ly (0 : Fin 2)) tp rec st x1 x2 x5 = some r) : VW k z 0 0 (wAll k T R ly rc hn rp tp ee st w aside thought fresh mu th mp mf mh mg ou od) 110 [some (.ref (k.b + (0))), some (.int x1), some (.int x2), none, none, some (.int x5)] [] := by
  unfold f9_bestValve_B110 at hf
  refine r_iload X (x := x5) dX9_bestValve_110 rfl ?_
  refine r_istore_n X [some (.ref (k.b + (0))), some (.int x1), some (.int x2), some (.int x5), none, some (.int x5)] dX9_bestValve_112 (Nat.le_of_ble_eq_true rfl) rfl ?_
  refine r_aload_n X (x := k.b + (0)) dX9_bestValve_113 rfl ?_
  refine r_getfield X (v := .ref (k.b + (45 + 12 * (TP_tr tp).val))) clsX9 flX9_77 (Nat.le_of_ble_eq_true rfl) _ o_main rfl dX9_bestValve_114 ?_
  refine r_getfield X (v := .ref (k.b + (45 + 12 * (TP_tr tp).val + 2))) clsX5 flX9_166 (Nat.le_of_ble_eq_true rfl) _ (o_st (TP_tr tp)) rfl dX9_bestValve_117 ?_
  refine r_iload_n X (x := x1) dX9_bestValve_120 rfl ?_
  obtain ⟨g121, hf⟩ := gdS hf
  refine r_iaload X (f := SS_pressure (st (TP_tr tp))) _ (a_st_pressure (TP_tr tp)) g121 dX9_bestValve_121 ?_
  refine r_istore X [some (.ref (k.b + (0))), some (.int x1), some (.int x2), some (.int x5), some (.int ((SS_pressure (st (TP_tr tp))) (ix x1))), some (.int x5)] dX9_bestValve_122 (Nat.le_of_ble_eq_true rfl) rfl ?_
  refine r_iinc X (x := x5) (v := x5 + 1) [some (.ref (k.b + (0))), some (.int x1), some (.int x2), some (.int x5), some (.int ((SS_pressure (st (TP_tr tp))) (ix x1))), some (.int (x5 + 1))] dX9_bestValve_124 rfl rfl rfl ?_
  refine r_goto X 42 dX9_bestValve_127 rfl ?_
  exact hrec st x1 x2 x5 ((SS_pressure (st (TP_tr tp))) (ix x1)) (x5 + 1) hf
set_option maxRecDepth 100000 in
set_option maxHeartbeats 4000000 in
theorem B9_bestValve_B42 {k : KT} {z : ZT} {T : TT} {R : RR} {ly : Fin 2 → LL} {rc : RC} {hn : HN} {rp : RP} {tp : TP} {ee : EE} {w : Nat → Int64} {aside : Nat → Int64} {thought : Nat → Int64} {fresh : Nat → Int64} {mu : MU} {th : Int32} {mp : MP} {mf : MF} {mh : MH} {mg : MG} {ou : Nat → Int64} {od : Nat → UInt64} {r : (Int32 ⊕ Nat) × (Fin 12 → SS)} (X : XX k strs z RX9 cX9_bestValve 6 (some .int) (rmD 6 1 6)) (hT : ∀ x ∈ (zC z).exceptionTable.toList, False) (hQ : zQ z = vx_MQ (zB z) (QXof k (oI r.1) (wAll k T R ly rc hn rp tp ee r.2 w aside thought fresh mu th mp mf mh mg ou od)) (XCof k (oI r.1) (wAll k T R ly rc hn rp tp ee r.2 w aside thought fresh mu th mp mf mh mg ou od)) (zA z) (zS z) 1 6 (kA k)) : ∀ (fu : Nat) (st : Fin 12 → SS) (x1 : Int32) (x2 : Int32) (x3 : Int32) (x4 : Int32) (x5 : Int32), f9_bestValve_B42 (ly (0 : Fin 2)) tp fu st x1 x2 x3 x4 x5 = some r → VW k z 0 0 (wAll k T R ly rc hn rp tp ee st w aside thought fresh mu th mp mf mh mg ou od) 42 [some (.ref (k.b + (0))), some (.int x1), some (.int x2), some (.int x3), some (.int x4), some (.int x5)] [] := by
  intro fu
  induction fu with
  | zero =>
    intro st x1 x2 x3 x4 x5 hf
    rw [f9_bestValve_B42] at hf
    cases hf
  | succ fu ih =>
    intro st x1 x2 x3 x4 x5 hf
    rw [f9_bestValve_B42] at hf
    refine r_iload X (x := x5) dX9_bestValve_42 rfl ?_
    refine r_aload_n X (x := k.b + (0)) dX9_bestValve_44 rfl ?_
    refine r_getfield X (v := .ref (k.b + (4 + 17 * (0 : Fin 2).val))) clsX9 flX9_28 (Nat.le_of_ble_eq_true rfl) _ o_main rfl dX9_bestValve_45 ?_
    refine r_getfield X (v := .int (LL_valves (ly (0 : Fin 2)))) clsX1 flX9_223 (Nat.le_of_ble_eq_true rfl) _ (o_lay (0 : Fin 2)) rfl dX9_bestValve_48 ?_
    refine r_icmp_ge X 130 dX9_bestValve_51 rfl (fun c51 => ?_) (fun c51 => ?_)
    · replace hf := ifT hf c51
      refine r_iload_n X (x := x3) dX9_bestValve_130 rfl ?_
      refine r_iconst X (v := (-1)) dX9_bestValve_131 rfl ?_
      refine r_icmp_ne X 143 dX9_bestValve_132 rfl (fun c132 => ?_) (fun c132 => ?_)
      · replace hf := ifF hf c132
        refine r_iload_n X (x := x3) dX9_bestValve_143 rfl ?_
        obtain rfl := Option.some.inj hf
        exact x_ireturn X hQ rfl rfl (Nat.le_of_ble_eq_true rfl) (Nat.le_of_ble_eq_true rfl) dX9_bestValve_144
      · replace hf := ifT hf c132
        obtain rfl := Option.some.inj hf
        exact r_throw X hT ltX9_3 (by decide) hQ rfl rfl (Nat.le_of_ble_eq_true rfl) (Nat.le_of_ble_eq_true rfl) rfl ⟨(Nat.le_of_ble_eq_true rfl), (Nat.le_of_ble_eq_true rfl), (Nat.le_of_ble_eq_true rfl), (Nat.le_of_ble_eq_true rfl)⟩ dX9_bestValve_135 dX9_bestValve_138 dX9_bestValve_139 dX9_bestValve_142
    · replace hf := ifF hf c51
      refine r_aload_n X (x := k.b + (0)) dX9_bestValve_54 rfl ?_
      refine r_getfield X (v := .ref (k.b + (45 + 12 * (TP_pr tp).val))) clsX9 flX9_73 (Nat.le_of_ble_eq_true rfl) _ o_main rfl dX9_bestValve_55 ?_
      refine r_iload X (x := x5) dX9_bestValve_58 rfl ?_
      obtain ⟨u60, h60, hf⟩ := bdS hf
      refine r_callV0 X [.int x5] [] (CT_unS (W := fun zz => wAll k T R ly rc hn rp tp ee zz w aside thought fresh mu th mp mf mh mg ou od) (W2 := fun zz => wAll k T R ly rc hn rp tp ee zz w aside thought fresh mu th mp mf mh mg ou od) (st := st) (TP_pr tp) (K5_openingBar h60)) lkX9_135 clsX5 rfl _ (o_st (TP_pr tp)) (by decide) (Nat.le_of_ble_eq_true rfl) rfl rfl (Nat.le_of_ble_eq_true rfl) rfl rfl (Nat.zero_le _) (Nat.zero_le _) dX9_bestValve_60 ?_
      refine r_if_eq X 69 dX9_bestValve_63 rfl (fun c63 => ?_) (fun c63 => ?_)
      · replace hf := ifT hf c63
        refine r_aload_n X (x := k.b + (0)) dX9_bestValve_69 rfl ?_
        obtain ⟨u70, h70, hf⟩ := bdS hf
        refine r_callV0 X [] [] (K9_beginTrial h70) lkX9_139 clsX9 rfl _ o_main (by decide) (Nat.le_of_ble_eq_true rfl) rfl rfl (Nat.le_of_ble_eq_true rfl) rfl rfl (Nat.zero_le _) (Nat.zero_le _) dX9_bestValve_70 ?_
        refine r_aload_n X (x := k.b + (0)) dX9_bestValve_73 rfl ?_
        refine r_getfield X (v := .ref (k.b + (45 + 12 * (TP_tr tp).val))) clsX9 flX9_77 (Nat.le_of_ble_eq_true rfl) _ o_main rfl dX9_bestValve_74 ?_
        refine r_iload X (x := x5) dX9_bestValve_77 rfl ?_
        refine VW.foc (ws' := wAll k T R ly rc hn rp tp ee (updF u70 (TP_tr tp) (u70 (TP_tr tp))) w aside thought fresh mu th mp mf mh mg ou od) (by rw [updF_self]) ?_
        obtain ⟨u79, h79, hf⟩ := bdS hf
        refine r_callV0 X [.int x5] [] (K5_openValve h79) lkX9_142 clsX5 rfl _ (o_st1 (TP_tr tp) _) (by decide) (Nat.le_of_ble_eq_true rfl) rfl rfl (Nat.le_of_ble_eq_true rfl) rfl rfl (Nat.zero_le _) (Nat.zero_le _) dX9_bestValve_79 ?_
        refine r_aload_n X (x := k.b + (0)) dX9_bestValve_82 rfl ?_
        refine r_getfield X (v := .ref (k.b + (45 + 12 * (TP_tr tp).val))) clsX9 flX9_77 (Nat.le_of_ble_eq_true rfl) _ o_main rfl dX9_bestValve_83 ?_
        refine r_iload_n X (x := x2) dX9_bestValve_86 rfl ?_
        obtain ⟨u87, h87, hf⟩ := bdS hf
        refine r_callV0 X [.int x2] [] (K5_passTicks h87) lkX9_182 clsX5 rfl _ (o_st1 (TP_tr tp) _) (by decide) (Nat.le_of_ble_eq_true rfl) rfl rfl (Nat.le_of_ble_eq_true rfl) rfl rfl (Nat.zero_le _) (Nat.zero_le _) dX9_bestValve_87 ?_
        refine r_pop X dX9_bestValve_90 rfl ?_
        refine r_iload_n X (x := x3) dX9_bestValve_91 rfl ?_
        refine r_iconst X (v := (-1)) dX9_bestValve_92 rfl ?_
        refine r_icmp_eq X 110 dX9_bestValve_93 rfl (fun c93 => ?_) (fun c93 => ?_)
        · replace hf := ifT hf c93
          refine VW.msk [true, true, true, false, false, true] rfl (lo' := [some (.ref (k.b + (0))), some (.int x1), some (.int x2), none, none, some (.int x5)]) rfl ?_
          exact B9_bestValve_B110 X hT hQ (f9_bestValve_B42 (ly (0 : Fin 2)) tp fu) ih (updF u70 (TP_tr tp) u87.2) x1 x2 x5 hf
        · replace hf := ifF hf c93
          refine r_aload_n X (x := k.b + (0)) dX9_bestValve_96 rfl ?_
          refine r_getfield X (v := .ref (k.b + (45 + 12 * (TP_tr tp).val))) clsX9 flX9_77 (Nat.le_of_ble_eq_true rfl) _ o_main rfl dX9_bestValve_97 ?_
          refine r_getfield X (v := .ref (k.b + (45 + 12 * (TP_tr tp).val + 2))) clsX5 flX9_166 (Nat.le_of_ble_eq_true rfl) _ (o_st1 (TP_tr tp) _) rfl dX9_bestValve_100 ?_
          refine r_iload_n X (x := x1) dX9_bestValve_103 rfl ?_
          obtain ⟨g104, hf⟩ := gdS hf
          refine r_iaload X (f := SS_pressure u87.2) _ (a_st1_pressure (TP_tr tp) _) g104 dX9_bestValve_104 ?_
          refine r_iload X (x := x4) dX9_bestValve_105 rfl ?_
          refine r_icmp_ge X 124 dX9_bestValve_107 rfl (fun c107 => ?_) (fun c107 => ?_)
          · replace hf := ifT hf c107
            refine r_iinc X (x := x5) (v := x5 + 1) [some (.ref (k.b + (0))), some (.int x1), some (.int x2), some (.int x3), some (.int x4), some (.int (x5 + 1))] dX9_bestValve_124 rfl rfl rfl ?_
            refine r_goto X 42 dX9_bestValve_127 rfl ?_
            exact ih (updF u70 (TP_tr tp) u87.2) x1 x2 x3 x4 (x5 + 1) hf
          · replace hf := ifF hf c107
            refine VW.msk [true, true, true, false, false, true] rfl (lo' := [some (.ref (k.b + (0))), some (.int x1), some (.int x2), none, none, some (.int x5)]) rfl ?_
            exact B9_bestValve_B110 X hT hQ (f9_bestValve_B42 (ly (0 : Fin 2)) tp fu) ih (updF u70 (TP_tr tp) u87.2) x1 x2 x5 hf
      · replace hf := ifF hf c63
        refine r_goto X 124 dX9_bestValve_66 rfl ?_
        refine r_iinc X (x := x5) (v := x5 + 1) [some (.ref (k.b + (0))), some (.int x1), some (.int x2), some (.int x3), some (.int x4), some (.int (x5 + 1))] dX9_bestValve_124 rfl rfl rfl ?_
        refine r_goto X 42 dX9_bestValve_127 rfl ?_
        exact ih st x1 x2 x3 x4 (x5 + 1) hf
set_option maxRecDepth 100000 in
set_option maxHeartbeats 4000000 in
theorem K9_bestValve {k : KT} {T : TT} {R : RR} {ly : Fin 2 → LL} {rc : RC} {hn : HN} {rp : RP} {tp : TP} {ee : EE} {st : Fin 12 → SS} {w : Nat → Int64} {aside : Nat → Int64} {thought : Nat → Int64} {fresh : Nat → Int64} {mu : MU} {th : Int32} {mp : MP} {mf : MF} {mh : MH} {mg : MG} {ou : Nat → Int64} {od : Nat → UInt64}  {x1 : Int32} {x2 : Int32} {r : (Int32 ⊕ Nat) × (Fin 12 → SS)} (hf : f9_bestValve (ly (0 : Fin 2)) tp st x1 x2 = some r) : CX k strs yX9_bestValve cX9_bestValve 6 (some .int) (rmD 6 1 6) [.ref (k.b + (0)), .int x1, .int x2] (wAll k T R ly rc hn rp tp ee st w aside thought fresh mu th mp mf mh mg ou od) (oI r.1) (wAll k T R ly rc hn rp tp ee r.2 w aside thought fresh mu th mp mf mh mg ou od) := by
  refine CX.of (by decide) (Nat.le_of_ble_eq_true rfl) ?_
  intro z X hT hQ
  show VW k z 0 0 (wAll k T R ly rc hn rp tp ee st w aside thought fresh mu th mp mf mh mg ou od) 0 [some (.ref (k.b + (0))), some (.int x1), some (.int x2), none, none, none] []
  unfold f9_bestValve at hf
  refine r_aload_n X (x := k.b + (0)) dX9_bestValve_0 rfl ?_
  refine r_getfield X (v := .ref (k.b + (4 + 17 * (0 : Fin 2).val))) clsX9 flX9_28 (Nat.le_of_ble_eq_true rfl) _ o_main rfl dX9_bestValve_1 ?_
  refine r_iload_n X (x := x1) dX9_bestValve_4 rfl ?_
  obtain ⟨u5, h5, hf⟩ := bdS hf
  refine r_callV0 X [.int x1] [] (K1_hasChamber h5) lkX9_185 clsX1 rfl _ (o_lay (0 : Fin 2)) (by decide) (Nat.le_of_ble_eq_true rfl) rfl rfl (Nat.le_of_ble_eq_true rfl) rfl rfl (Nat.zero_le _) (Nat.zero_le _) dX9_bestValve_5 ?_
  refine r_if_ne X 19 dX9_bestValve_8 rfl (fun c8 => ?_) (fun c8 => ?_)
  · replace hf := ifF hf c8
    refine r_iload_n X (x := x2) dX9_bestValve_19 rfl ?_
    obtain ⟨u20, h20, hf⟩ := bdS hf
    refine r_callS0 X [.int x2] [] (K9_isTicks h20) lkX9_179 (by decide) (Nat.le_of_ble_eq_true rfl) rfl rfl (Nat.le_of_ble_eq_true rfl) rfl rfl (Nat.zero_le _) (Nat.zero_le _) dX9_bestValve_20 ?_
    refine r_if_ne X 34 dX9_bestValve_23 rfl (fun c23 => ?_) (fun c23 => ?_)
    · replace hf := ifF hf c23
      refine r_iconst X (v := (-1)) dX9_bestValve_34 rfl ?_
      refine r_istore_n X [some (.ref (k.b + (0))), some (.int x1), some (.int x2), some (.int (-1)), none, none] dX9_bestValve_35 (Nat.le_of_ble_eq_true rfl) rfl ?_
      refine r_iconst X (v := 0) dX9_bestValve_36 rfl ?_
      refine r_istore X [some (.ref (k.b + (0))), some (.int x1), some (.int x2), some (.int (-1)), some (.int 0), none] dX9_bestValve_37 (Nat.le_of_ble_eq_true rfl) rfl ?_
      refine r_iconst X (v := 0) dX9_bestValve_39 rfl ?_
      refine r_istore X [some (.ref (k.b + (0))), some (.int x1), some (.int x2), some (.int (-1)), some (.int 0), some (.int 0)] dX9_bestValve_40 (Nat.le_of_ble_eq_true rfl) rfl ?_
      exact B9_bestValve_B42 X hT hQ FU st x1 x2 (-1) 0 0 hf
    · replace hf := ifT hf c23
      obtain rfl := Option.some.inj hf
      exact r_throw X hT ltX9_1 (by decide) hQ rfl rfl (Nat.le_of_ble_eq_true rfl) (Nat.le_of_ble_eq_true rfl) rfl ⟨(Nat.le_of_ble_eq_true rfl), (Nat.le_of_ble_eq_true rfl), (Nat.le_of_ble_eq_true rfl), (Nat.le_of_ble_eq_true rfl)⟩ dX9_bestValve_26 dX9_bestValve_29 dX9_bestValve_30 dX9_bestValve_33
  · replace hf := ifT hf c8
    obtain rfl := Option.some.inj hf
    exact r_throw X hT ltX9_2 (by decide) hQ rfl rfl (Nat.le_of_ble_eq_true rfl) (Nat.le_of_ble_eq_true rfl) rfl ⟨(Nat.le_of_ble_eq_true rfl), (Nat.le_of_ble_eq_true rfl), (Nat.le_of_ble_eq_true rfl), (Nat.le_of_ble_eq_true rfl)⟩ dX9_bestValve_11 dX9_bestValve_14 dX9_bestValve_15 dX9_bestValve_18
set_option maxRecDepth 100000 in
set_option maxHeartbeats 4000000 in
theorem B9_spray_B26 {k : KT} {z : ZT} {T : TT} {R : RR} {ly : Fin 2 → LL} {rc : RC} {hn : HN} {rp : RP} {tp : TP} {ee : EE} {st : Fin 12 → SS} {w : Nat → Int64} {aside : Nat → Int64} {thought : Nat → Int64} {fresh : Nat → Int64} {mu : MU} {th : Int32} {mp : MP} {mf : MF} {mh : MH} {mg : MG} {ou : Nat → Int64} {od : Nat → UInt64} {r : (Int32 ⊕ Nat)} (X : XX k strs z RX9 cX9_spray 4 (some .int) (rmD 6 1 6)) (hT : ∀ x ∈ (zC z).exceptionTable.toList, False) (hQ : zQ z = vx_MQ (zB z) (QXof k (oI r) (wAll k T R ly rc hn rp tp ee st w aside thought fresh mu th mp mf mh mg ou od)) (XCof k (oI r) (wAll k T R ly rc hn rp tp ee st w aside thought fresh mu th mp mf mh mg ou od)) (zA z) (zS z) 1 6 (kA k)) : ∀ (fu : Nat) (x1 : Int32) (x2 : Int32) (x3 : Int32), f9_spray_B26 (ly (0 : Fin 2)) tp st fu x1 x2 x3 = some r → VW k z 0 0 (wAll k T R ly rc hn rp tp ee st w aside thought fresh mu th mp mf mh mg ou od) 26 [some (.ref (k.b + (0))), some (.int x1), some (.int x2), some (.int x3)] [] := by
  intro fu
  induction fu with
  | zero =>
    intro x1 x2 x3 hf
    rw [f9_spray_B26] at hf
    cases hf
  | succ fu ih =>
    intro x1 x2 x3 hf
    rw [f9_spray_B26] at hf
    refine r_iload_n X (x := x3) dX9_spray_26 rfl ?_
    refine r_aload_n X (x := k.b + (0)) dX9_spray_27 rfl ?_
    refine r_getfield X (v := .ref (k.b + (4 + 17 * (0 : Fin 2).val))) clsX9 flX9_28 (Nat.le_of_ble_eq_true rfl) _ o_main rfl dX9_spray_28 ?_
    refine r_getfield X (v := .int (LL_flanges (ly (0 : Fin 2)))) clsX1 flX9_226 (Nat.le_of_ble_eq_true rfl) _ (o_lay (0 : Fin 2)) rfl dX9_spray_31 ?_
    refine r_icmp_ge X 63 dX9_spray_34 rfl (fun c34 => ?_) (fun c34 => ?_)
    · replace hf := ifT hf c34
      refine r_iload_n X (x := x2) dX9_spray_63 rfl ?_
      obtain rfl := Option.some.inj hf
      exact x_ireturn X hQ rfl rfl (Nat.le_of_ble_eq_true rfl) (Nat.le_of_ble_eq_true rfl) dX9_spray_64
    · replace hf := ifF hf c34
      refine r_iload_n X (x := x1) dX9_spray_37 rfl ?_
      refine r_iload_n X (x := x3) dX9_spray_38 rfl ?_
      obtain ⟨u39, h39, hf⟩ := bdS hf
      refine r_callS0 X [.int x1, .int x3] [] (K9_has h39) lkX9_313 (by decide) (Nat.le_of_ble_eq_true rfl) rfl rfl (Nat.le_of_ble_eq_true rfl) rfl rfl (Nat.zero_le _) (Nat.zero_le _) dX9_spray_39 ?_
      refine r_if_eq X 57 dX9_spray_42 rfl (fun c42 => ?_) (fun c42 => ?_)
      · replace hf := ifT hf c42
        refine r_iinc X (x := x3) (v := x3 + 1) [some (.ref (k.b + (0))), some (.int x1), some (.int x2), some (.int (x3 + 1))] dX9_spray_57 rfl rfl rfl ?_
        refine r_goto X 26 dX9_spray_60 rfl ?_
        exact ih x1 x2 (x3 + 1) hf
      · replace hf := ifF hf c42
        refine r_iload_n X (x := x2) dX9_spray_45 rfl ?_
        refine r_aload_n X (x := k.b + (0)) dX9_spray_46 rfl ?_
        refine r_getfield X (v := .ref (k.b + (45 + 12 * (TP_pr tp).val))) clsX9 flX9_73 (Nat.le_of_ble_eq_true rfl) _ o_main rfl dX9_spray_47 ?_
        refine r_getfield X (v := .ref (k.b + (45 + 12 * (TP_pr tp).val + 8))) clsX5 flX9_300 (Nat.le_of_ble_eq_true rfl) _ (o_st (TP_pr tp)) rfl dX9_spray_50 ?_
        refine r_iload_n X (x := x3) dX9_spray_53 rfl ?_
        obtain ⟨g54, hf⟩ := gdS hf
        refine r_iaload X (f := SS_leak (st (TP_pr tp))) _ (a_st_leak (TP_pr tp)) g54 dX9_spray_54 ?_
        refine r_iadd X dX9_spray_55 ?_
        refine r_istore_n X [some (.ref (k.b + (0))), some (.int x1), some (.int (x2 + ((SS_leak (st (TP_pr tp))) (ix x3)))), some (.int x3)] dX9_spray_56 (Nat.le_of_ble_eq_true rfl) rfl ?_
        refine r_iinc X (x := x3) (v := x3 + 1) [some (.ref (k.b + (0))), some (.int x1), some (.int (x2 + ((SS_leak (st (TP_pr tp))) (ix x3)))), some (.int (x3 + 1))] dX9_spray_57 rfl rfl rfl ?_
        refine r_goto X 26 dX9_spray_60 rfl ?_
        exact ih x1 (x2 + ((SS_leak (st (TP_pr tp))) (ix x3))) (x3 + 1) hf
set_option maxRecDepth 100000 in
set_option maxHeartbeats 4000000 in
theorem K9_spray {k : KT} {T : TT} {R : RR} {ly : Fin 2 → LL} {rc : RC} {hn : HN} {rp : RP} {tp : TP} {ee : EE} {st : Fin 12 → SS} {w : Nat → Int64} {aside : Nat → Int64} {thought : Nat → Int64} {fresh : Nat → Int64} {mu : MU} {th : Int32} {mp : MP} {mf : MF} {mh : MH} {mg : MG} {ou : Nat → Int64} {od : Nat → UInt64}  {x1 : Int32} {r : (Int32 ⊕ Nat)} (hf : f9_spray (ly (0 : Fin 2)) tp st  x1 = some r) : CX k strs yX9_spray cX9_spray 4 (some .int) (rmD 6 1 6) [.ref (k.b + (0)), .int x1] (wAll k T R ly rc hn rp tp ee st w aside thought fresh mu th mp mf mh mg ou od) (oI r) (wAll k T R ly rc hn rp tp ee st w aside thought fresh mu th mp mf mh mg ou od) := by
  refine CX.of (by decide) (Nat.le_of_ble_eq_true rfl) ?_
  intro z X hT hQ
  show VW k z 0 0 (wAll k T R ly rc hn rp tp ee st w aside thought fresh mu th mp mf mh mg ou od) 0 [some (.ref (k.b + (0))), some (.int x1), none, none] []
  unfold f9_spray at hf
  refine r_iload_n X (x := x1) dX9_spray_0 rfl ?_
  refine r_aload_n X (x := k.b + (0)) dX9_spray_1 rfl ?_
  refine r_getfield X (v := .ref (k.b + (4 + 17 * (0 : Fin 2).val))) clsX9 flX9_28 (Nat.le_of_ble_eq_true rfl) _ o_main rfl dX9_spray_2 ?_
  obtain ⟨u5, h5, hf⟩ := bdS hf
  refine r_callV0 X [] [.int x1] (K1_allFlanges h5) lkX9_338 clsX1 rfl _ (o_lay (0 : Fin 2)) (by decide) (Nat.le_of_ble_eq_true rfl) rfl rfl (Nat.le_of_ble_eq_true rfl) rfl rfl (Nat.zero_le _) (Nat.zero_le _) dX9_spray_5 ?_
  refine r_iconst X (v := (-1)) dX9_spray_8 rfl ?_
  refine r_ixor X dX9_spray_9 ?_
  refine r_iand X dX9_spray_10 ?_
  refine r_if_eq X 22 dX9_spray_11 rfl (fun c11 => ?_) (fun c11 => ?_)
  · replace hf := ifT hf c11
    refine r_iconst X (v := 0) dX9_spray_22 rfl ?_
    refine r_istore_n X [some (.ref (k.b + (0))), some (.int x1), some (.int 0), none] dX9_spray_23 (Nat.le_of_ble_eq_true rfl) rfl ?_
    refine r_iconst X (v := 0) dX9_spray_24 rfl ?_
    refine r_istore_n X [some (.ref (k.b + (0))), some (.int x1), some (.int 0), some (.int 0)] dX9_spray_25 (Nat.le_of_ble_eq_true rfl) rfl ?_
    exact B9_spray_B26 X hT hQ FU x1 0 0 hf
  · replace hf := ifF hf c11
    obtain rfl := Option.some.inj hf
    exact r_throw X hT ltX9_1 (by decide) hQ rfl rfl (Nat.le_of_ble_eq_true rfl) (Nat.le_of_ble_eq_true rfl) rfl ⟨(Nat.le_of_ble_eq_true rfl), (Nat.le_of_ble_eq_true rfl), (Nat.le_of_ble_eq_true rfl), (Nat.le_of_ble_eq_true rfl)⟩ dX9_spray_14 dX9_spray_17 dX9_spray_18 dX9_spray_21
set_option maxRecDepth 100000 in
set_option maxHeartbeats 4000000 in
theorem K9_sprays {k : KT} {T : TT} {R : RR} {ly : Fin 2 → LL} {rc : RC} {hn : HN} {rp : RP} {tp : TP} {ee : EE} {st : Fin 12 → SS} {w : Nat → Int64} {aside : Nat → Int64} {thought : Nat → Int64} {fresh : Nat → Int64} {mu : MU} {th : Int32} {mp : MP} {mf : MF} {mh : MH} {mg : MG} {ou : Nat → Int64} {od : Nat → UInt64}  {x1 : Int32} {x2 : Int32} {r : (Int32 ⊕ Nat) × (HN)} (hf : f9_sprays (ly (0 : Fin 2)) tp st hn x1 x2 = some r) : CX k strs yX9_sprays cX9_sprays 3 (some .int) (rmD 6 1 6) [.ref (k.b + (0)), .int x1, .int x2] (wAll k T R ly rc hn rp tp ee st w aside thought fresh mu th mp mf mh mg ou od) (oI r.1) (wAll k T R ly rc r.2 rp tp ee st w aside thought fresh mu th mp mf mh mg ou od) := by
  refine CX.of (by decide) (Nat.le_of_ble_eq_true rfl) ?_
  intro z X hT hQ
  show VW k z 0 0 (wAll k T R ly rc hn rp tp ee st w aside thought fresh mu th mp mf mh mg ou od) 0 [some (.ref (k.b + (0))), some (.int x1), some (.int x2)] []
  unfold f9_sprays at hf
  refine r_aload_n X (x := k.b + (0)) dX9_sprays_0 rfl ?_
  refine r_getfield X (v := .ref (k.b + (4 + 17 * (0 : Fin 2).val))) clsX9 flX9_28 (Nat.le_of_ble_eq_true rfl) _ o_main rfl dX9_sprays_1 ?_
  refine r_iload_n X (x := x1) dX9_sprays_4 rfl ?_
  obtain ⟨u5, h5, hf⟩ := bdS hf
  refine r_callV0 X [.int x1] [] (K1_hasChamber h5) lkX9_185 clsX1 rfl _ (o_lay (0 : Fin 2)) (by decide) (Nat.le_of_ble_eq_true rfl) rfl rfl (Nat.le_of_ble_eq_true rfl) rfl rfl (Nat.zero_le _) (Nat.zero_le _) dX9_sprays_5 ?_
  refine r_if_ne X 19 dX9_sprays_8 rfl (fun c8 => ?_) (fun c8 => ?_)
  · replace hf := ifF hf c8
    refine r_iload_n X (x := x2) dX9_sprays_19 rfl ?_
    refine r_iconst X (v := 1) dX9_sprays_20 rfl ?_
    refine r_icmp_lt X 31 dX9_sprays_21 rfl (fun c21 => ?_) (fun c21 => ?_)
    · replace hf := ifT hf c21
      obtain rfl := Option.some.inj hf
      exact r_throw X hT ltX9_1 (by decide) hQ rfl rfl (Nat.le_of_ble_eq_true rfl) (Nat.le_of_ble_eq_true rfl) rfl ⟨(Nat.le_of_ble_eq_true rfl), (Nat.le_of_ble_eq_true rfl), (Nat.le_of_ble_eq_true rfl), (Nat.le_of_ble_eq_true rfl)⟩ dX9_sprays_31 dX9_sprays_34 dX9_sprays_35 dX9_sprays_38
    · replace hf := ifF hf c21
      refine r_iload_n X (x := x2) dX9_sprays_24 rfl ?_
      refine r_sipush X (v := 9999) dX9_sprays_25 rfl ?_
      refine r_icmp_le X 39 dX9_sprays_28 rfl (fun c28 => ?_) (fun c28 => ?_)
      · replace hf := ifT hf c28
        refine r_aload_n X (x := k.b + (0)) dX9_sprays_39 rfl ?_
        refine r_getfield X (v := .ref (k.b + (38))) clsX9 flX9_53 (Nat.le_of_ble_eq_true rfl) _ o_main rfl dX9_sprays_40 ?_
        refine r_aload_n X (x := k.b + (0)) dX9_sprays_43 rfl ?_
        refine r_getfield X (v := .ref (k.b + (45 + 12 * (TP_pr tp).val))) clsX9 flX9_73 (Nat.le_of_ble_eq_true rfl) _ o_main rfl dX9_sprays_44 ?_
        refine r_iload_n X (x := x1) dX9_sprays_47 rfl ?_
        refine r_iload_n X (x := x2) dX9_sprays_48 rfl ?_
        obtain ⟨u49, h49, hf⟩ := bdS hf
        refine r_callV0 X [.ref (k.b + (45 + 12 * (TP_pr tp).val)), .int x1, .int x2] [] (CT_unS (W := fun zz => wAll k T R ly rc hn rp tp ee zz w aside thought fresh mu th mp mf mh mg ou od) (W2 := fun zz => wAll k T R ly rc u49 rp tp ee zz w aside thought fresh mu th mp mf mh mg ou od) (st := st) (TP_pr tp) (K0_run h49)) lkX9_341 clsX0 rfl _ o_hunt (by decide) (Nat.le_of_ble_eq_true rfl) rfl rfl (Nat.le_of_ble_eq_true rfl) rfl rfl (Nat.zero_le _) (Nat.zero_le _) dX9_sprays_49 ?_
        refine r_aload_n X (x := k.b + (0)) dX9_sprays_52 rfl ?_
        refine r_getfield X (v := .ref (k.b + (38))) clsX9 flX9_53 (Nat.le_of_ble_eq_true rfl) _ o_main rfl dX9_sprays_53 ?_
        refine r_getfield X (v := .int (HN_sprayed u49)) clsX0 flX9_344 (Nat.le_of_ble_eq_true rfl) _ o_hunt rfl dX9_sprays_56 ?_
        obtain rfl := Option.some.inj hf
        exact x_ireturn X hQ rfl rfl (Nat.le_of_ble_eq_true rfl) (Nat.le_of_ble_eq_true rfl) dX9_sprays_59
      · replace hf := ifF hf c28
        obtain rfl := Option.some.inj hf
        exact r_throw X hT ltX9_1 (by decide) hQ rfl rfl (Nat.le_of_ble_eq_true rfl) (Nat.le_of_ble_eq_true rfl) rfl ⟨(Nat.le_of_ble_eq_true rfl), (Nat.le_of_ble_eq_true rfl), (Nat.le_of_ble_eq_true rfl), (Nat.le_of_ble_eq_true rfl)⟩ dX9_sprays_31 dX9_sprays_34 dX9_sprays_35 dX9_sprays_38
  · replace hf := ifT hf c8
    obtain rfl := Option.some.inj hf
    exact r_throw X hT ltX9_2 (by decide) hQ rfl rfl (Nat.le_of_ble_eq_true rfl) (Nat.le_of_ble_eq_true rfl) rfl ⟨(Nat.le_of_ble_eq_true rfl), (Nat.le_of_ble_eq_true rfl), (Nat.le_of_ble_eq_true rfl), (Nat.le_of_ble_eq_true rfl)⟩ dX9_sprays_11 dX9_sprays_14 dX9_sprays_15 dX9_sprays_18
set_option maxRecDepth 100000 in
set_option maxHeartbeats 4000000 in
theorem K9_found {k : KT} {T : TT} {R : RR} {ly : Fin 2 → LL} {rc : RC} {hn : HN} {rp : RP} {tp : TP} {ee : EE} {st : Fin 12 → SS} {w : Nat → Int64} {aside : Nat → Int64} {thought : Nat → Int64} {fresh : Nat → Int64} {mu : MU} {th : Int32} {mp : MP} {mf : MF} {mh : MH} {mg : MG} {ou : Nat → Int64} {od : Nat → UInt64}  {x1 : Int32} {x2 : Int32} {r : (Int32 ⊕ Nat) × (HN)} (hf : f9_found (ly (0 : Fin 2)) tp st hn x1 x2 = some r) : CX k strs yX9_found cX9_found 3 (some .int) (rmD 6 1 6) [.ref (k.b + (0)), .int x1, .int x2] (wAll k T R ly rc hn rp tp ee st w aside thought fresh mu th mp mf mh mg ou od) (oI r.1) (wAll k T R ly rc r.2 rp tp ee st w aside thought fresh mu th mp mf mh mg ou od) := by
  refine CX.of (by decide) (Nat.le_of_ble_eq_true rfl) ?_
  intro z X hT hQ
  show VW k z 0 0 (wAll k T R ly rc hn rp tp ee st w aside thought fresh mu th mp mf mh mg ou od) 0 [some (.ref (k.b + (0))), some (.int x1), some (.int x2)] []
  unfold f9_found at hf
  refine r_aload_n X (x := k.b + (0)) dX9_found_0 rfl ?_
  refine r_getfield X (v := .ref (k.b + (4 + 17 * (0 : Fin 2).val))) clsX9 flX9_28 (Nat.le_of_ble_eq_true rfl) _ o_main rfl dX9_found_1 ?_
  refine r_iload_n X (x := x1) dX9_found_4 rfl ?_
  obtain ⟨u5, h5, hf⟩ := bdS hf
  refine r_callV0 X [.int x1] [] (K1_hasChamber h5) lkX9_185 clsX1 rfl _ (o_lay (0 : Fin 2)) (by decide) (Nat.le_of_ble_eq_true rfl) rfl rfl (Nat.le_of_ble_eq_true rfl) rfl rfl (Nat.zero_le _) (Nat.zero_le _) dX9_found_5 ?_
  refine r_if_ne X 19 dX9_found_8 rfl (fun c8 => ?_) (fun c8 => ?_)
  · replace hf := ifF hf c8
    refine r_iload_n X (x := x2) dX9_found_19 rfl ?_
    refine r_iconst X (v := 1) dX9_found_20 rfl ?_
    refine r_icmp_lt X 31 dX9_found_21 rfl (fun c21 => ?_) (fun c21 => ?_)
    · replace hf := ifT hf c21
      obtain rfl := Option.some.inj hf
      exact r_throw X hT ltX9_1 (by decide) hQ rfl rfl (Nat.le_of_ble_eq_true rfl) (Nat.le_of_ble_eq_true rfl) rfl ⟨(Nat.le_of_ble_eq_true rfl), (Nat.le_of_ble_eq_true rfl), (Nat.le_of_ble_eq_true rfl), (Nat.le_of_ble_eq_true rfl)⟩ dX9_found_31 dX9_found_34 dX9_found_35 dX9_found_38
    · replace hf := ifF hf c21
      refine r_iload_n X (x := x2) dX9_found_24 rfl ?_
      refine r_sipush X (v := 9999) dX9_found_25 rfl ?_
      refine r_icmp_le X 39 dX9_found_28 rfl (fun c28 => ?_) (fun c28 => ?_)
      · replace hf := ifT hf c28
        refine r_aload_n X (x := k.b + (0)) dX9_found_39 rfl ?_
        refine r_getfield X (v := .ref (k.b + (38))) clsX9 flX9_53 (Nat.le_of_ble_eq_true rfl) _ o_main rfl dX9_found_40 ?_
        refine r_aload_n X (x := k.b + (0)) dX9_found_43 rfl ?_
        refine r_getfield X (v := .ref (k.b + (45 + 12 * (TP_pr tp).val))) clsX9 flX9_73 (Nat.le_of_ble_eq_true rfl) _ o_main rfl dX9_found_44 ?_
        refine r_iload_n X (x := x1) dX9_found_47 rfl ?_
        refine r_iload_n X (x := x2) dX9_found_48 rfl ?_
        obtain ⟨u49, h49, hf⟩ := bdS hf
        refine r_callV0 X [.ref (k.b + (45 + 12 * (TP_pr tp).val)), .int x1, .int x2] [] (CT_unS (W := fun zz => wAll k T R ly rc hn rp tp ee zz w aside thought fresh mu th mp mf mh mg ou od) (W2 := fun zz => wAll k T R ly rc u49 rp tp ee zz w aside thought fresh mu th mp mf mh mg ou od) (st := st) (TP_pr tp) (K0_run h49)) lkX9_341 clsX0 rfl _ o_hunt (by decide) (Nat.le_of_ble_eq_true rfl) rfl rfl (Nat.le_of_ble_eq_true rfl) rfl rfl (Nat.zero_le _) (Nat.zero_le _) dX9_found_49 ?_
        refine r_aload_n X (x := k.b + (0)) dX9_found_52 rfl ?_
        refine r_getfield X (v := .ref (k.b + (38))) clsX9 flX9_53 (Nat.le_of_ble_eq_true rfl) _ o_main rfl dX9_found_53 ?_
        refine r_getfield X (v := .int (HN_foundSet u49)) clsX0 flX9_347 (Nat.le_of_ble_eq_true rfl) _ o_hunt rfl dX9_found_56 ?_
        obtain rfl := Option.some.inj hf
        exact x_ireturn X hQ rfl rfl (Nat.le_of_ble_eq_true rfl) (Nat.le_of_ble_eq_true rfl) dX9_found_59
      · replace hf := ifF hf c28
        obtain rfl := Option.some.inj hf
        exact r_throw X hT ltX9_1 (by decide) hQ rfl rfl (Nat.le_of_ble_eq_true rfl) (Nat.le_of_ble_eq_true rfl) rfl ⟨(Nat.le_of_ble_eq_true rfl), (Nat.le_of_ble_eq_true rfl), (Nat.le_of_ble_eq_true rfl), (Nat.le_of_ble_eq_true rfl)⟩ dX9_found_31 dX9_found_34 dX9_found_35 dX9_found_38
  · replace hf := ifT hf c8
    obtain rfl := Option.some.inj hf
    exact r_throw X hT ltX9_2 (by decide) hQ rfl rfl (Nat.le_of_ble_eq_true rfl) (Nat.le_of_ble_eq_true rfl) rfl ⟨(Nat.le_of_ble_eq_true rfl), (Nat.le_of_ble_eq_true rfl), (Nat.le_of_ble_eq_true rfl), (Nat.le_of_ble_eq_true rfl)⟩ dX9_found_11 dX9_found_14 dX9_found_15 dX9_found_18
set_option maxRecDepth 100000 in
set_option maxHeartbeats 4000000 in
theorem B9_worstFlange_B22 {k : KT} {z : ZT} {T : TT} {R : RR} {ly : Fin 2 → LL} {rc : RC} {hn : HN} {rp : RP} {tp : TP} {ee : EE} {st : Fin 12 → SS} {w : Nat → Int64} {aside : Nat → Int64} {thought : Nat → Int64} {fresh : Nat → Int64} {mu : MU} {th : Int32} {mp : MP} {mf : MF} {mh : MH} {mg : MG} {ou : Nat → Int64} {od : Nat → UInt64} {r : (Int32 ⊕ Nat)} (X : XX k strs z RX9 cX9_worstFlange 3 (some .int) (rmD 6 1 6)) (hT : ∀ x ∈ (zC z).exceptionTable.toList, False) (hQ : zQ z = vx_MQ (zB z) (QXof k (oI r) (wAll k T R ly rc hn rp tp ee st w aside thought fresh mu th mp mf mh mg ou od)) (XCof k (oI r) (wAll k T R ly rc hn rp tp ee st w aside thought fresh mu th mp mf mh mg ou od)) (zA z) (zS z) 1 6 (kA k)) : ∀ (fu : Nat) (x1 : Int32) (x2 : Int32), f9_worstFlange_B22 (ly (0 : Fin 2)) tp st fu x1 x2 = some r → VW k z 0 0 (wAll k T R ly rc hn rp tp ee st w aside thought fresh mu th mp mf mh mg ou od) 22 [some (.ref (k.b + (0))), some (.int x1), some (.int x2)] [] := by
  intro fu
  induction fu with
  | zero =>
    intro x1 x2 hf
    rw [f9_worstFlange_B22] at hf
    cases hf
  | succ fu ih =>
    intro x1 x2 hf
    rw [f9_worstFlange_B22] at hf
    refine r_iload_n X (x := x2) dX9_worstFlange_22 rfl ?_
    refine r_aload_n X (x := k.b + (0)) dX9_worstFlange_23 rfl ?_
    refine r_getfield X (v := .ref (k.b + (4 + 17 * (0 : Fin 2).val))) clsX9 flX9_28 (Nat.le_of_ble_eq_true rfl) _ o_main rfl dX9_worstFlange_24 ?_
    refine r_getfield X (v := .int (LL_flanges (ly (0 : Fin 2)))) clsX1 flX9_226 (Nat.le_of_ble_eq_true rfl) _ (o_lay (0 : Fin 2)) rfl dX9_worstFlange_27 ?_
    refine r_icmp_ge X 62 dX9_worstFlange_30 rfl (fun c30 => ?_) (fun c30 => ?_)
    · replace hf := ifT hf c30
      refine r_iload_n X (x := x1) dX9_worstFlange_62 rfl ?_
      obtain rfl := Option.some.inj hf
      exact x_ireturn X hQ rfl rfl (Nat.le_of_ble_eq_true rfl) (Nat.le_of_ble_eq_true rfl) dX9_worstFlange_63
    · replace hf := ifF hf c30
      refine r_aload_n X (x := k.b + (0)) dX9_worstFlange_33 rfl ?_
      refine r_getfield X (v := .ref (k.b + (45 + 12 * (TP_pr tp).val))) clsX9 flX9_73 (Nat.le_of_ble_eq_true rfl) _ o_main rfl dX9_worstFlange_34 ?_
      refine r_getfield X (v := .ref (k.b + (45 + 12 * (TP_pr tp).val + 8))) clsX5 flX9_300 (Nat.le_of_ble_eq_true rfl) _ (o_st (TP_pr tp)) rfl dX9_worstFlange_37 ?_
      refine r_iload_n X (x := x2) dX9_worstFlange_40 rfl ?_
      obtain ⟨g41, hf⟩ := gdS hf
      refine r_iaload X (f := SS_leak (st (TP_pr tp))) _ (a_st_leak (TP_pr tp)) g41 dX9_worstFlange_41 ?_
      refine r_aload_n X (x := k.b + (0)) dX9_worstFlange_42 rfl ?_
      refine r_getfield X (v := .ref (k.b + (45 + 12 * (TP_pr tp).val))) clsX9 flX9_73 (Nat.le_of_ble_eq_true rfl) _ o_main rfl dX9_worstFlange_43 ?_
      refine r_getfield X (v := .ref (k.b + (45 + 12 * (TP_pr tp).val + 8))) clsX5 flX9_300 (Nat.le_of_ble_eq_true rfl) _ (o_st (TP_pr tp)) rfl dX9_worstFlange_46 ?_
      refine r_iload_n X (x := x1) dX9_worstFlange_49 rfl ?_
      obtain ⟨g50, hf⟩ := gdS hf
      refine r_iaload X (f := SS_leak (st (TP_pr tp))) _ (a_st_leak (TP_pr tp)) g50 dX9_worstFlange_50 ?_
      refine r_icmp_le X 56 dX9_worstFlange_51 rfl (fun c51 => ?_) (fun c51 => ?_)
      · replace hf := ifT hf c51
        refine r_iinc X (x := x2) (v := x2 + 1) [some (.ref (k.b + (0))), some (.int x1), some (.int (x2 + 1))] dX9_worstFlange_56 rfl rfl rfl ?_
        refine r_goto X 22 dX9_worstFlange_59 rfl ?_
        exact ih x1 (x2 + 1) hf
      · replace hf := ifF hf c51
        refine r_iload_n X (x := x2) dX9_worstFlange_54 rfl ?_
        refine r_istore_n X [some (.ref (k.b + (0))), some (.int x2), some (.int x2)] dX9_worstFlange_55 (Nat.le_of_ble_eq_true rfl) rfl ?_
        refine r_iinc X (x := x2) (v := x2 + 1) [some (.ref (k.b + (0))), some (.int x2), some (.int (x2 + 1))] dX9_worstFlange_56 rfl rfl rfl ?_
        refine r_goto X 22 dX9_worstFlange_59 rfl ?_
        exact ih x2 (x2 + 1) hf
set_option maxRecDepth 100000 in
set_option maxHeartbeats 4000000 in
theorem K9_worstFlange {k : KT} {T : TT} {R : RR} {ly : Fin 2 → LL} {rc : RC} {hn : HN} {rp : RP} {tp : TP} {ee : EE} {st : Fin 12 → SS} {w : Nat → Int64} {aside : Nat → Int64} {thought : Nat → Int64} {fresh : Nat → Int64} {mu : MU} {th : Int32} {mp : MP} {mf : MF} {mh : MH} {mg : MG} {ou : Nat → Int64} {od : Nat → UInt64}   {r : (Int32 ⊕ Nat)} (hf : f9_worstFlange (ly (0 : Fin 2)) tp st   = some r) : CX k strs yX9_worstFlange cX9_worstFlange 3 (some .int) (rmD 6 1 6) [.ref (k.b + (0))] (wAll k T R ly rc hn rp tp ee st w aside thought fresh mu th mp mf mh mg ou od) (oI r) (wAll k T R ly rc hn rp tp ee st w aside thought fresh mu th mp mf mh mg ou od) := by
  refine CX.of (by decide) (Nat.le_of_ble_eq_true rfl) ?_
  intro z X hT hQ
  show VW k z 0 0 (wAll k T R ly rc hn rp tp ee st w aside thought fresh mu th mp mf mh mg ou od) 0 [some (.ref (k.b + (0))), none, none] []
  unfold f9_worstFlange at hf
  refine r_aload_n X (x := k.b + (0)) dX9_worstFlange_0 rfl ?_
  refine r_getfield X (v := .ref (k.b + (4 + 17 * (0 : Fin 2).val))) clsX9 flX9_28 (Nat.le_of_ble_eq_true rfl) _ o_main rfl dX9_worstFlange_1 ?_
  refine r_getfield X (v := .int (LL_flanges (ly (0 : Fin 2)))) clsX1 flX9_226 (Nat.le_of_ble_eq_true rfl) _ (o_lay (0 : Fin 2)) rfl dX9_worstFlange_4 ?_
  refine r_if_ne X 18 dX9_worstFlange_7 rfl (fun c7 => ?_) (fun c7 => ?_)
  · replace hf := ifF hf c7
    refine r_iconst X (v := 0) dX9_worstFlange_18 rfl ?_
    refine r_istore_n X [some (.ref (k.b + (0))), some (.int 0), none] dX9_worstFlange_19 (Nat.le_of_ble_eq_true rfl) rfl ?_
    refine r_iconst X (v := 1) dX9_worstFlange_20 rfl ?_
    refine r_istore_n X [some (.ref (k.b + (0))), some (.int 0), some (.int 1)] dX9_worstFlange_21 (Nat.le_of_ble_eq_true rfl) rfl ?_
    exact B9_worstFlange_B22 X hT hQ FU 0 1 hf
  · replace hf := ifT hf c7
    obtain rfl := Option.some.inj hf
    exact r_throw X hT ltX9_3 (by decide) hQ rfl rfl (Nat.le_of_ble_eq_true rfl) (Nat.le_of_ble_eq_true rfl) rfl ⟨(Nat.le_of_ble_eq_true rfl), (Nat.le_of_ble_eq_true rfl), (Nat.le_of_ble_eq_true rfl), (Nat.le_of_ble_eq_true rfl)⟩ dX9_worstFlange_10 dX9_worstFlange_13 dX9_worstFlange_14 dX9_worstFlange_17
set_option maxRecDepth 100000 in
set_option maxHeartbeats 4000000 in
theorem B9_writeReport_B10 {k : KT} {z : ZT} {T : TT} {R : RR} {ly : Fin 2 → LL} {rc : RC} {hn : HN} {tp : TP} {ee : EE} {st : Fin 12 → SS} {w : Nat → Int64} {aside : Nat → Int64} {thought : Nat → Int64} {fresh : Nat → Int64} {mu : MU} {th : Int32} {mp : MP} {mf : MF} {mh : MH} {mg : MG} {ou : Nat → Int64} {od : Nat → UInt64} {r : Int32 × (RP)} (X : XX k strs z RX9 cX9_writeReport 2 (some .int) (rmD 11 0 0)) (hQ : zQ z = MQ (zB z) (Qof k (some (.int r.1)) (wAll k T R ly rc hn r.2 tp ee st w aside thought fresh mu th mp mf mh mg ou od)) (zA z) (zS z) 0 0 (kA k)) : ∀ (fu : Nat) (rp : RP) (x1 : Int32), f9_writeReport_B10 (ly (0 : Fin 2)) tp st fu rp x1 = some r → VW k z 0 0 (wAll k T R ly rc hn rp tp ee st w aside thought fresh mu th mp mf mh mg ou od) 10 [some (.ref (k.b + (0))), some (.int x1)] [] := by
  intro fu
  induction fu with
  | zero =>
    intro rp x1 hf
    rw [f9_writeReport_B10] at hf
    cases hf
  | succ fu ih =>
    intro rp x1 hf
    rw [f9_writeReport_B10] at hf
    refine r_iload_n X (x := x1) dX9_writeReport_10 rfl ?_
    refine r_aload_n X (x := k.b + (0)) dX9_writeReport_11 rfl ?_
    refine r_getfield X (v := .ref (k.b + (4 + 17 * (0 : Fin 2).val))) clsX9 flX9_28 (Nat.le_of_ble_eq_true rfl) _ o_main rfl dX9_writeReport_12 ?_
    refine r_getfield X (v := .int (LL_chambers (ly (0 : Fin 2)))) clsX1 flX9_125 (Nat.le_of_ble_eq_true rfl) _ (o_lay (0 : Fin 2)) rfl dX9_writeReport_15 ?_
    refine r_icmp_ge X 137 dX9_writeReport_18 rfl (fun c18 => ?_) (fun c18 => ?_)
    · replace hf := ifT hf c18
      refine r_aload_n X (x := k.b + (0)) dX9_writeReport_137 rfl ?_
      refine r_getfield X (v := .ref (k.b + (42))) clsX9 flX9_60 (Nat.le_of_ble_eq_true rfl) _ o_main rfl dX9_writeReport_138 ?_
      refine r_getfield X (v := .int (RP_length rp)) clsX4 flX9_350 (Nat.le_of_ble_eq_true rfl) _ o_report rfl dX9_writeReport_141 ?_
      obtain rfl := Option.some.inj hf
      exact r_ireturn X hQ rfl rfl (Nat.le_of_ble_eq_true rfl) (Nat.le_of_ble_eq_true rfl) dX9_writeReport_144
    · replace hf := ifF hf c18
      refine r_aload_n X (x := k.b + (0)) dX9_writeReport_21 rfl ?_
      refine r_getfield X (v := .ref (k.b + (42))) clsX9 flX9_60 (Nat.le_of_ble_eq_true rfl) _ o_main rfl dX9_writeReport_22 ?_
      refine r_ldcwS X 13 rfl dX9_writeReport_25 ?_
      obtain ⟨u28, h28, hf⟩ := bdS hf
      refine r_callV0 X [.ref (k.sK 13)] [] (K4_addText h28) lkX9_353 clsX4 rfl _ o_report (by decide) (Nat.le_of_ble_eq_true rfl) rfl rfl (Nat.le_of_ble_eq_true rfl) rfl rfl (Nat.zero_le _) (Nat.zero_le _) dX9_writeReport_28 ?_
      refine r_aload_n X (x := k.b + (0)) dX9_writeReport_31 rfl ?_
      refine r_getfield X (v := .ref (k.b + (42))) clsX9 flX9_60 (Nat.le_of_ble_eq_true rfl) _ o_main rfl dX9_writeReport_32 ?_
      refine r_iload_n X (x := x1) dX9_writeReport_35 rfl ?_
      obtain ⟨u36, h36, hf⟩ := bdS hf
      refine r_callV0 X [.int x1] [] (K4_addNumber h36) lkX9_357 clsX4 rfl _ o_report (by decide) (Nat.le_of_ble_eq_true rfl) rfl rfl (Nat.le_of_ble_eq_true rfl) rfl rfl (Nat.zero_le _) (Nat.zero_le _) dX9_writeReport_36 ?_
      refine r_aload_n X (x := k.b + (0)) dX9_writeReport_39 rfl ?_
      refine r_getfield X (v := .ref (k.b + (42))) clsX9 flX9_60 (Nat.le_of_ble_eq_true rfl) _ o_main rfl dX9_writeReport_40 ?_
      refine r_ldcwS X 14 rfl dX9_writeReport_43 ?_
      obtain ⟨u46, h46, hf⟩ := bdS hf
      refine r_callV0 X [.ref (k.sK 14)] [] (K4_addText h46) lkX9_353 clsX4 rfl _ o_report (by decide) (Nat.le_of_ble_eq_true rfl) rfl rfl (Nat.le_of_ble_eq_true rfl) rfl rfl (Nat.zero_le _) (Nat.zero_le _) dX9_writeReport_46 ?_
      refine r_aload_n X (x := k.b + (0)) dX9_writeReport_49 rfl ?_
      refine r_getfield X (v := .ref (k.b + (42))) clsX9 flX9_60 (Nat.le_of_ble_eq_true rfl) _ o_main rfl dX9_writeReport_50 ?_
      refine r_aload_n X (x := k.b + (0)) dX9_writeReport_53 rfl ?_
      refine r_getfield X (v := .ref (k.b + (45 + 12 * (TP_pr tp).val))) clsX9 flX9_73 (Nat.le_of_ble_eq_true rfl) _ o_main rfl dX9_writeReport_54 ?_
      refine r_getfield X (v := .ref (k.b + (45 + 12 * (TP_pr tp).val + 2))) clsX5 flX9_166 (Nat.le_of_ble_eq_true rfl) _ (o_st (TP_pr tp)) rfl dX9_writeReport_57 ?_
      refine r_iload_n X (x := x1) dX9_writeReport_60 rfl ?_
      obtain ⟨g61, hf⟩ := gdS hf
      refine r_iaload X (f := SS_pressure (st (TP_pr tp))) _ (a_st_pressure (TP_pr tp)) g61 dX9_writeReport_61 ?_
      obtain ⟨u62, h62, hf⟩ := bdS hf
      refine r_callV0 X [.int ((SS_pressure (st (TP_pr tp))) (ix x1))] [] (K4_addNumber h62) lkX9_357 clsX4 rfl _ o_report (by decide) (Nat.le_of_ble_eq_true rfl) rfl rfl (Nat.le_of_ble_eq_true rfl) rfl rfl (Nat.zero_le _) (Nat.zero_le _) dX9_writeReport_62 ?_
      refine r_aload_n X (x := k.b + (0)) dX9_writeReport_65 rfl ?_
      refine r_getfield X (v := .ref (k.b + (42))) clsX9 flX9_60 (Nat.le_of_ble_eq_true rfl) _ o_main rfl dX9_writeReport_66 ?_
      refine r_ldcwS X 15 rfl dX9_writeReport_69 ?_
      refine r_aload_n X (x := k.b + (0)) dX9_writeReport_72 rfl ?_
      refine r_getfield X (v := .ref (k.b + (4 + 17 * (0 : Fin 2).val))) clsX9 flX9_28 (Nat.le_of_ble_eq_true rfl) _ o_main rfl dX9_writeReport_73 ?_
      refine r_iload_n X (x := x1) dX9_writeReport_76 rfl ?_
      obtain ⟨u77, h77, hf⟩ := bdS hf
      refine r_callV0 X [.int x1] [.ref (k.sK 15), .ref (k.b + (42))] (K1_valvesOf h77) lkX9_260 clsX1 rfl _ (o_lay (0 : Fin 2)) (by decide) (Nat.le_of_ble_eq_true rfl) rfl rfl (Nat.le_of_ble_eq_true rfl) rfl rfl (Nat.zero_le _) (Nat.zero_le _) dX9_writeReport_77 ?_
      refine r_aload_n X (x := k.b + (0)) dX9_writeReport_80 rfl ?_
      refine r_getfield X (v := .ref (k.b + (45 + 12 * (TP_pr tp).val))) clsX9 flX9_73 (Nat.le_of_ble_eq_true rfl) _ o_main rfl dX9_writeReport_81 ?_
      refine r_getfield X (v := .int (SS_openValves (st (TP_pr tp)))) clsX5 flX9_364 (Nat.le_of_ble_eq_true rfl) _ (o_st (TP_pr tp)) rfl dX9_writeReport_84 ?_
      refine r_iand X dX9_writeReport_87 ?_
      refine r_bipush X (v := 10) dX9_writeReport_88 rfl ?_
      obtain ⟨u90, h90, hf⟩ := bdS hf
      refine r_callV0 X [.ref (k.sK 15), .int (u77 &&& (SS_openValves (st (TP_pr tp)))), .int 10] [] (K4_addSet h90) lkX9_367 clsX4 rfl _ o_report (by decide) (Nat.le_of_ble_eq_true rfl) rfl rfl (Nat.le_of_ble_eq_true rfl) rfl rfl (Nat.zero_le _) (Nat.zero_le _) dX9_writeReport_90 ?_
      refine r_aload_n X (x := k.b + (0)) dX9_writeReport_93 rfl ?_
      refine r_getfield X (v := .ref (k.b + (42))) clsX9 flX9_60 (Nat.le_of_ble_eq_true rfl) _ o_main rfl dX9_writeReport_94 ?_
      refine r_ldcwS X 16 rfl dX9_writeReport_97 ?_
      refine r_aload_n X (x := k.b + (0)) dX9_writeReport_100 rfl ?_
      refine r_getfield X (v := .ref (k.b + (4 + 17 * (0 : Fin 2).val))) clsX9 flX9_28 (Nat.le_of_ble_eq_true rfl) _ o_main rfl dX9_writeReport_101 ?_
      refine r_iload_n X (x := x1) dX9_writeReport_104 rfl ?_
      obtain ⟨u105, h105, hf⟩ := bdS hf
      refine r_callV0 X [.int x1] [.ref (k.sK 16), .ref (k.b + (42))] (K1_pumpsOf h105) lkX9_263 clsX1 rfl _ (o_lay (0 : Fin 2)) (by decide) (Nat.le_of_ble_eq_true rfl) rfl rfl (Nat.le_of_ble_eq_true rfl) rfl rfl (Nat.zero_le _) (Nat.zero_le _) dX9_writeReport_105 ?_
      refine r_aload_n X (x := k.b + (0)) dX9_writeReport_108 rfl ?_
      refine r_getfield X (v := .ref (k.b + (45 + 12 * (TP_pr tp).val))) clsX9 flX9_73 (Nat.le_of_ble_eq_true rfl) _ o_main rfl dX9_writeReport_109 ?_
      refine r_getfield X (v := .int (SS_runningPumps (st (TP_pr tp)))) clsX5 flX9_373 (Nat.le_of_ble_eq_true rfl) _ (o_st (TP_pr tp)) rfl dX9_writeReport_112 ?_
      refine r_iand X dX9_writeReport_115 ?_
      refine r_bipush X (v := 6) dX9_writeReport_116 rfl ?_
      obtain ⟨u118, h118, hf⟩ := bdS hf
      refine r_callV0 X [.ref (k.sK 16), .int (u105 &&& (SS_runningPumps (st (TP_pr tp)))), .int 6] [] (K4_addSet h118) lkX9_367 clsX4 rfl _ o_report (by decide) (Nat.le_of_ble_eq_true rfl) rfl rfl (Nat.le_of_ble_eq_true rfl) rfl rfl (Nat.zero_le _) (Nat.zero_le _) dX9_writeReport_118 ?_
      refine r_aload_n X (x := k.b + (0)) dX9_writeReport_121 rfl ?_
      refine r_getfield X (v := .ref (k.b + (42))) clsX9 flX9_60 (Nat.le_of_ble_eq_true rfl) _ o_main rfl dX9_writeReport_122 ?_
      refine r_ldcwS X 17 rfl dX9_writeReport_125 ?_
      obtain ⟨u128, h128, hf⟩ := bdS hf
      refine r_callV0 X [.ref (k.sK 17)] [] (K4_addText h128) lkX9_353 clsX4 rfl _ o_report (by decide) (Nat.le_of_ble_eq_true rfl) rfl rfl (Nat.le_of_ble_eq_true rfl) rfl rfl (Nat.zero_le _) (Nat.zero_le _) dX9_writeReport_128 ?_
      refine r_iinc X (x := x1) (v := x1 + 1) [some (.ref (k.b + (0))), some (.int (x1 + 1))] dX9_writeReport_131 rfl rfl rfl ?_
      refine r_goto X 10 dX9_writeReport_134 rfl ?_
      exact ih u128 (x1 + 1) hf
set_option maxRecDepth 100000 in
set_option maxHeartbeats 4000000 in
theorem K9_writeReport {k : KT} {T : TT} {R : RR} {ly : Fin 2 → LL} {rc : RC} {hn : HN} {rp : RP} {tp : TP} {ee : EE} {st : Fin 12 → SS} {w : Nat → Int64} {aside : Nat → Int64} {thought : Nat → Int64} {fresh : Nat → Int64} {mu : MU} {th : Int32} {mp : MP} {mf : MF} {mh : MH} {mg : MG} {ou : Nat → Int64} {od : Nat → UInt64}   {r : Int32 × (RP)} (hf : f9_writeReport (ly (0 : Fin 2)) tp st rp  = some r) : CT k strs yX9_writeReport cX9_writeReport 2 (some .int) (rmD 11 0 0) 0 0 [.ref (k.b + (0))] (wAll k T R ly rc hn rp tp ee st w aside thought fresh mu th mp mf mh mg ou od) (some (.int r.1)) (wAll k T R ly rc hn r.2 tp ee st w aside thought fresh mu th mp mf mh mg ou od) := by
  refine CT.of (by decide) (Nat.le_of_ble_eq_true rfl) ?_
  intro z X hQ
  show VW k z 0 0 (wAll k T R ly rc hn rp tp ee st w aside thought fresh mu th mp mf mh mg ou od) 0 [some (.ref (k.b + (0))), none] []
  unfold f9_writeReport at hf
  refine r_aload_n X (x := k.b + (0)) dX9_writeReport_0 rfl ?_
  refine r_getfield X (v := .ref (k.b + (42))) clsX9 flX9_60 (Nat.le_of_ble_eq_true rfl) _ o_main rfl dX9_writeReport_1 ?_
  refine r_iconst X (v := 0) dX9_writeReport_4 rfl ?_
  refine r_putfield X (ws1 := wAll k T R ly rc hn (RP_set_length rp 0) tp ee st w aside thought fresh mu th mp mf mh mg ou od) clsX4 flX9_350 (Nat.le_of_ble_eq_true rfl) rfl rfl rfl _ o_report (Nat.le_of_ble_eq_true rfl) (s_rp_length 0) dX9_writeReport_5 ?_
  refine r_iconst X (v := 0) dX9_writeReport_8 rfl ?_
  refine r_istore_n X [some (.ref (k.b + (0))), some (.int 0)] dX9_writeReport_9 (Nat.le_of_ble_eq_true rfl) rfl ?_
  exact B9_writeReport_B10 X hQ FU (RP_set_length rp 0) 0 hf
set_option maxRecDepth 100000 in
set_option maxHeartbeats 4000000 in
theorem K9_reportByte {k : KT} {T : TT} {R : RR} {ly : Fin 2 → LL} {rc : RC} {hn : HN} {rp : RP} {tp : TP} {ee : EE} {st : Fin 12 → SS} {w : Nat → Int64} {aside : Nat → Int64} {thought : Nat → Int64} {fresh : Nat → Int64} {mu : MU} {th : Int32} {mp : MP} {mf : MF} {mh : MH} {mg : MG} {ou : Nat → Int64} {od : Nat → UInt64}  {x1 : Int32} {r : (Int32 ⊕ Nat)} (hf : f9_reportByte rp  x1 = some r) : CX k strs yX9_reportByte cX9_reportByte 2 (some .int) (rmD 6 1 6) [.ref (k.b + (0)), .int x1] (wAll k T R ly rc hn rp tp ee st w aside thought fresh mu th mp mf mh mg ou od) (oI r) (wAll k T R ly rc hn rp tp ee st w aside thought fresh mu th mp mf mh mg ou od) := by
  refine CX.of (by decide) (Nat.le_of_ble_eq_true rfl) ?_
  intro z X hT hQ
  show VW k z 0 0 (wAll k T R ly rc hn rp tp ee st w aside thought fresh mu th mp mf mh mg ou od) 0 [some (.ref (k.b + (0))), some (.int x1)] []
  unfold f9_reportByte at hf
  refine r_iload_n X (x := x1) dX9_reportByte_0 rfl ?_
  refine r_if_lt X 15 dX9_reportByte_1 rfl (fun c1 => ?_) (fun c1 => ?_)
  · replace hf := ifT hf c1
    obtain rfl := Option.some.inj hf
    exact r_throw X hT ltX9_2 (by decide) hQ rfl rfl (Nat.le_of_ble_eq_true rfl) (Nat.le_of_ble_eq_true rfl) rfl ⟨(Nat.le_of_ble_eq_true rfl), (Nat.le_of_ble_eq_true rfl), (Nat.le_of_ble_eq_true rfl), (Nat.le_of_ble_eq_true rfl)⟩ dX9_reportByte_15 dX9_reportByte_18 dX9_reportByte_19 dX9_reportByte_22
  · replace hf := ifF hf c1
    refine r_iload_n X (x := x1) dX9_reportByte_4 rfl ?_
    refine r_aload_n X (x := k.b + (0)) dX9_reportByte_5 rfl ?_
    refine r_getfield X (v := .ref (k.b + (42))) clsX9 flX9_60 (Nat.le_of_ble_eq_true rfl) _ o_main rfl dX9_reportByte_6 ?_
    refine r_getfield X (v := .int (RP_length rp)) clsX4 flX9_350 (Nat.le_of_ble_eq_true rfl) _ o_report rfl dX9_reportByte_9 ?_
    refine r_icmp_lt X 23 dX9_reportByte_12 rfl (fun c12 => ?_) (fun c12 => ?_)
    · replace hf := ifT hf c12
      refine r_aload_n X (x := k.b + (0)) dX9_reportByte_23 rfl ?_
      refine r_getfield X (v := .ref (k.b + (42))) clsX9 flX9_60 (Nat.le_of_ble_eq_true rfl) _ o_main rfl dX9_reportByte_24 ?_
      refine r_getfield X (v := .ref (k.b + (43))) clsX4 flX9_378 (Nat.le_of_ble_eq_true rfl) _ o_report rfl dX9_reportByte_27 ?_
      refine r_iload_n X (x := x1) dX9_reportByte_30 rfl ?_
      obtain ⟨g31, hf⟩ := gdS hf
      refine r_baload X (f := RP_bytes rp) _ a_rp_bytes g31 dX9_reportByte_31 ?_
      obtain rfl := Option.some.inj hf
      exact x_ireturn X hQ rfl rfl (Nat.le_of_ble_eq_true rfl) (Nat.le_of_ble_eq_true rfl) dX9_reportByte_32
    · replace hf := ifF hf c12
      obtain rfl := Option.some.inj hf
      exact r_throw X hT ltX9_2 (by decide) hQ rfl rfl (Nat.le_of_ble_eq_true rfl) (Nat.le_of_ble_eq_true rfl) rfl ⟨(Nat.le_of_ble_eq_true rfl), (Nat.le_of_ble_eq_true rfl), (Nat.le_of_ble_eq_true rfl), (Nat.le_of_ble_eq_true rfl)⟩ dX9_reportByte_15 dX9_reportByte_18 dX9_reportByte_19 dX9_reportByte_22
set_option maxRecDepth 100000 in
set_option maxHeartbeats 4000000 in
theorem K9_undo {k : KT} {T : TT} {R : RR} {ly : Fin 2 → LL} {rc : RC} {hn : HN} {rp : RP} {tp : TP} {ee : EE} {st : Fin 12 → SS} {w : Nat → Int64} {aside : Nat → Int64} {thought : Nat → Int64} {fresh : Nat → Int64} {mu : MU} {th : Int32} {mp : MP} {mf : MF} {mh : MH} {mg : MG} {ou : Nat → Int64} {od : Nat → UInt64}   {r : (Int32 ⊕ Nat) × (TP)} (hf : f9_undo  tp  = some r) : CX k strs yX9_undo cX9_undo 2 (some .int) (rmD 6 1 6) [.ref (k.b + (0))] (wAll k T R ly rc hn rp tp ee st w aside thought fresh mu th mp mf mh mg ou od) (oI r.1) (wAll k T R ly rc hn rp r.2 ee st w aside thought fresh mu th mp mf mh mg ou od) := by
  refine CX.of (by decide) (Nat.le_of_ble_eq_true rfl) ?_
  intro z X hT hQ
  show VW k z 0 0 (wAll k T R ly rc hn rp tp ee st w aside thought fresh mu th mp mf mh mg ou od) 0 [some (.ref (k.b + (0))), none] []
  unfold f9_undo at hf
  refine r_aload_n X (x := k.b + (0)) dX9_undo_0 rfl ?_
  refine r_getfield X (v := .int (TP_undoable tp)) clsX9 flX9_84 (Nat.le_of_ble_eq_true rfl) _ o_main rfl dX9_undo_1 ?_
  refine r_if_ne X 15 dX9_undo_4 rfl (fun c4 => ?_) (fun c4 => ?_)
  · replace hf := ifF hf c4
    refine r_aload_n X (x := k.b + (0)) dX9_undo_15 rfl ?_
    refine r_aload_n X (x := k.b + (0)) dX9_undo_16 rfl ?_
    refine r_getfield X (v := .int (TP_nextPast tp)) clsX9 flX9_80 (Nat.le_of_ble_eq_true rfl) _ o_main rfl dX9_undo_17 ?_
    refine r_bipush X (v := 10) dX9_undo_20 rfl ?_
    refine r_iadd X dX9_undo_22 ?_
    refine r_iconst X (v := 1) dX9_undo_23 rfl ?_
    refine r_isub X dX9_undo_24 ?_
    refine r_bipush X (v := 10) dX9_undo_25 rfl ?_
    refine r_irem X dX9_undo_27 (by decide) ?_
    refine r_putfield X (ws1 := wAll k T R ly rc hn rp (TP_set_nextPast tp ((((TP_nextPast tp) + 10) - 1) - (((TP_nextPast tp) + 10) - 1) / 10 * 10)) ee st w aside thought fresh mu th mp mf mh mg ou od) clsX9 flX9_80 (Nat.le_of_ble_eq_true rfl) rfl rfl rfl _ o_main (Nat.le_of_ble_eq_true rfl) (s_tp_nextPast ((((TP_nextPast tp) + 10) - 1) - (((TP_nextPast tp) + 10) - 1) / 10 * 10)) dX9_undo_28 ?_
    refine r_aload_n X (x := k.b + (0)) dX9_undo_31 rfl ?_
    refine r_getfield X (v := .ref (k.b + (45 + 12 * (TP_pr tp).val))) clsX9 flX9_73 (Nat.le_of_ble_eq_true rfl) _ o_main rfl dX9_undo_32 ?_
    refine r_astore_n X [some (.ref (k.b + (0))), some (.ref (k.b + (45 + 12 * (TP_pr tp).val)))] dX9_undo_35 (Nat.le_of_ble_eq_true rfl) rfl ?_
    refine r_aload_n X (x := k.b + (0)) dX9_undo_36 rfl ?_
    refine r_aload_n X (x := k.b + (0)) dX9_undo_37 rfl ?_
    refine r_getfield X (v := .ref (k.b + (44))) clsX9 flX9_66 (Nat.le_of_ble_eq_true rfl) _ o_main rfl dX9_undo_38 ?_
    refine r_aload_n X (x := k.b + (0)) dX9_undo_41 rfl ?_
    refine r_getfield X (v := .int ((((TP_nextPast tp) + 10) - 1) - (((TP_nextPast tp) + 10) - 1) / 10 * 10)) clsX9 flX9_80 (Nat.le_of_ble_eq_true rfl) _ o_main (hvI rfl (TP_nextPast_set_nextPast _ _)) dX9_undo_42 ?_
    obtain ⟨g45, hf⟩ := gdS hf
    refine r_aaload X (v := .ref (k.b + (45 + 12 * ((TP_past tp) (ix ((((TP_nextPast tp) + 10) - 1) - (((TP_nextPast tp) + 10) - 1) / 10 * 10))).val))) _ a_past g45 rfl dX9_undo_45 ?_
    refine r_putfield X (ws1 := wAll k T R ly rc hn rp (TP_set_pr (TP_set_nextPast tp ((((TP_nextPast tp) + 10) - 1) - (((TP_nextPast tp) + 10) - 1) / 10 * 10)) ((TP_past tp) (ix ((((TP_nextPast tp) + 10) - 1) - (((TP_nextPast tp) + 10) - 1) / 10 * 10)))) ee st w aside thought fresh mu th mp mf mh mg ou od) clsX9 flX9_73 (Nat.le_of_ble_eq_true rfl) rfl rfl rfl _ o_main (Nat.le_of_ble_eq_true rfl) (s_tp_pr ((TP_past tp) (ix ((((TP_nextPast tp) + 10) - 1) - (((TP_nextPast tp) + 10) - 1) / 10 * 10)))) dX9_undo_46 ?_
    refine r_aload_n X (x := k.b + (0)) dX9_undo_49 rfl ?_
    refine r_getfield X (v := .ref (k.b + (44))) clsX9 flX9_66 (Nat.le_of_ble_eq_true rfl) _ o_main rfl dX9_undo_50 ?_
    refine r_aload_n X (x := k.b + (0)) dX9_undo_53 rfl ?_
    refine r_getfield X (v := .int ((((TP_nextPast tp) + 10) - 1) - (((TP_nextPast tp) + 10) - 1) / 10 * 10)) clsX9 flX9_80 (Nat.le_of_ble_eq_true rfl) _ o_main (hvI rfl ((TP_nextPast_set_pr _ _).trans (TP_nextPast_set_nextPast _ _))) dX9_undo_54 ?_
    refine r_aload_n X (x := k.b + (45 + 12 * (TP_pr tp).val)) dX9_undo_57 rfl ?_
    refine r_aastore X (ws1 := wAll k T R ly rc hn rp (TP_set_past (TP_set_pr (TP_set_nextPast tp ((((TP_nextPast tp) + 10) - 1) - (((TP_nextPast tp) + 10) - 1) / 10 * 10)) ((TP_past tp) (ix ((((TP_nextPast tp) + 10) - 1) - (((TP_nextPast tp) + 10) - 1) / 10 * 10)))) (updN (TP_past tp) (ix ((((TP_nextPast tp) + 10) - 1) - (((TP_nextPast tp) + 10) - 1) / 10 * 10)) (TP_pr tp))) ee st w aside thought fresh mu th mp mf mh mg ou od) _ _ a_past (o_st (TP_pr tp)) g45 (s_pastU _ _) dX9_undo_58 ?_
    refine r_aload_n X (x := k.b + (0)) dX9_undo_59 rfl ?_
    refine r_dup X dX9_undo_60 rfl ?_
    refine r_getfield X (v := .int (TP_undoable tp)) clsX9 flX9_84 (Nat.le_of_ble_eq_true rfl) _ o_main (hvI rfl ((TP_undoable_set_past _ _).trans ((TP_undoable_set_pr _ _).trans (TP_undoable_set_nextPast _ _)))) dX9_undo_61 ?_
    refine r_iconst X (v := 1) dX9_undo_64 rfl ?_
    refine r_isub X dX9_undo_65 ?_
    refine r_putfield X (ws1 := wAll k T R ly rc hn rp (TP_set_undoable (TP_set_past (TP_set_pr (TP_set_nextPast tp ((((TP_nextPast tp) + 10) - 1) - (((TP_nextPast tp) + 10) - 1) / 10 * 10)) ((TP_past tp) (ix ((((TP_nextPast tp) + 10) - 1) - (((TP_nextPast tp) + 10) - 1) / 10 * 10)))) (updN (TP_past tp) (ix ((((TP_nextPast tp) + 10) - 1) - (((TP_nextPast tp) + 10) - 1) / 10 * 10)) (TP_pr tp))) ((TP_undoable tp) - 1)) ee st w aside thought fresh mu th mp mf mh mg ou od) clsX9 flX9_84 (Nat.le_of_ble_eq_true rfl) rfl rfl rfl _ o_main (Nat.le_of_ble_eq_true rfl) (s_tp_undoable ((TP_undoable tp) - 1)) dX9_undo_66 ?_
    refine r_aload_n X (x := k.b + (0)) dX9_undo_69 rfl ?_
    refine r_getfield X (v := .int ((TP_undoable tp) - 1)) clsX9 flX9_84 (Nat.le_of_ble_eq_true rfl) _ o_main (hvI rfl (TP_undoable_set_undoable _ _)) dX9_undo_70 ?_
    obtain rfl := Option.some.inj hf
    exact x_ireturn X hQ rfl rfl (Nat.le_of_ble_eq_true rfl) (Nat.le_of_ble_eq_true rfl) dX9_undo_73
  · replace hf := ifT hf c4
    obtain rfl := Option.some.inj hf
    exact r_throw X hT ltX9_0 (by decide) hQ rfl rfl (Nat.le_of_ble_eq_true rfl) (Nat.le_of_ble_eq_true rfl) rfl ⟨(Nat.le_of_ble_eq_true rfl), (Nat.le_of_ble_eq_true rfl), (Nat.le_of_ble_eq_true rfl), (Nat.le_of_ble_eq_true rfl)⟩ dX9_undo_7 dX9_undo_10 dX9_undo_11 dX9_undo_14
set_option maxRecDepth 100000 in
set_option maxHeartbeats 4000000 in
theorem K9_undoDepth {k : KT} {T : TT} {R : RR} {ly : Fin 2 → LL} {rc : RC} {hn : HN} {rp : RP} {tp : TP} {ee : EE} {st : Fin 12 → SS} {w : Nat → Int64} {aside : Nat → Int64} {thought : Nat → Int64} {fresh : Nat → Int64} {mu : MU} {th : Int32} {mp : MP} {mf : MF} {mh : MH} {mg : MG} {ou : Nat → Int64} {od : Nat → UInt64}   {r : Int32} (hf : f9_undoDepth tp   = some r) : CT k strs yX9_undoDepth cX9_undoDepth 1 (some .int) (rmD 0 0 0) 0 0 [.ref (k.b + (0))] (wAll k T R ly rc hn rp tp ee st w aside thought fresh mu th mp mf mh mg ou od) (some (.int r)) (wAll k T R ly rc hn rp tp ee st w aside thought fresh mu th mp mf mh mg ou od) := by
  refine CT.of (by decide) (Nat.le_of_ble_eq_true rfl) ?_
  intro z X hQ
  show VW k z 0 0 (wAll k T R ly rc hn rp tp ee st w aside thought fresh mu th mp mf mh mg ou od) 0 [some (.ref (k.b + (0)))] []
  unfold f9_undoDepth at hf
  refine r_aload_n X (x := k.b + (0)) dX9_undoDepth_0 rfl ?_
  refine r_getfield X (v := .int (TP_undoable tp)) clsX9 flX9_84 (Nat.le_of_ble_eq_true rfl) _ o_main rfl dX9_undoDepth_1 ?_
  obtain rfl := Option.some.inj hf
  exact r_ireturn X hQ rfl rfl (Nat.le_of_ble_eq_true rfl) (Nat.le_of_ble_eq_true rfl) dX9_undoDepth_4
set_option maxRecDepth 100000 in
set_option maxHeartbeats 4000000 in
theorem K10_thrown {k : KT} {T : TT} {R : RR} {ly : Fin 2 → LL} {rc : RC} {hn : HN} {rp : RP} {tp : TP} {ee : EE} {st : Fin 12 → SS} {w : Nat → Int64} {aside : Nat → Int64} {thought : Nat → Int64} {fresh : Nat → Int64} {mu : MU} {th : Int32} {mp : MP} {mf : MF} {mh : MH} {mg : MG} {ou : Nat → Int64} {od : Nat → UInt64}   {r : Int32} (hf : f10_thrown th   = some r) : CT k strs yX10_thrown cX10_thrown 1 (some .int) (rmD 0 0 0) 0 0 [.ref (k.b + (189))] (wAll k T R ly rc hn rp tp ee st w aside thought fresh mu th mp mf mh mg ou od) (some (.int r)) (wAll k T R ly rc hn rp tp ee st w aside thought fresh mu th mp mf mh mg ou od) := by
  refine CT.of (by decide) (Nat.le_of_ble_eq_true rfl) ?_
  intro z X hQ
  show VW k z 0 0 (wAll k T R ly rc hn rp tp ee st w aside thought fresh mu th mp mf mh mg ou od) 0 [some (.ref (k.b + (189)))] []
  unfold f10_thrown at hf
  refine r_aload_n X (x := k.b + (189)) dX10_thrown_0 rfl ?_
  refine r_getfield X (v := .int th) clsX10 flX10_36 (Nat.le_of_ble_eq_true rfl) _ o_model rfl dX10_thrown_1 ?_
  obtain rfl := Option.some.inj hf
  exact r_ireturn X hQ rfl rfl (Nat.le_of_ble_eq_true rfl) (Nat.le_of_ble_eq_true rfl) dX10_thrown_4
set_option maxRecDepth 100000 in
set_option maxHeartbeats 4000000 in
theorem K10_in {k : KT} {T : TT} {R : RR} {ly : Fin 2 → LL} {rc : RC} {hn : HN} {rp : RP} {tp : TP} {ee : EE} {st : Fin 12 → SS} {w : Nat → Int64} {aside : Nat → Int64} {thought : Nat → Int64} {fresh : Nat → Int64} {mu : MU} {th : Int32} {mp : MP} {mf : MF} {mh : MH} {mg : MG} {ou : Nat → Int64} {od : Nat → UInt64}  {x0 : Int64} {x2 : Int64} {x4 : Int64} {r : Int32} (hf : f10_in   x0 x2 x4 = some r) : CT k strs yX10_in cX10_in 6 (some .boolean) (rmD 0 0 0) 0 0 [.long x0, .long x2, .long x4] (wAll k T R ly rc hn rp tp ee st w aside thought fresh mu th mp mf mh mg ou od) (some (.int r)) (wAll k T R ly rc hn rp tp ee st w aside thought fresh mu th mp mf mh mg ou od) := by
  refine CT.of (by decide) (Nat.le_of_ble_eq_true rfl) ?_
  intro z X hQ
  show VW k z 0 0 (wAll k T R ly rc hn rp tp ee st w aside thought fresh mu th mp mf mh mg ou od) 0 [some (.long x0), none, some (.long x2), none, some (.long x4), none] []
  unfold f10_in at hf
  refine r_lload_n X (x := x0) dX10_in_0 rfl ?_
  refine r_lload_n X (x := x2) dX10_in_1 rfl ?_
  refine r_lcmp_lt X 17 dX10_in_2 dX10_in_3 rfl (fun c2 => ?_) (fun c2 => ?_)
  · replace hf := ifT hf c2
    refine r_iconst X (v := 0) dX10_in_17 rfl ?_
    obtain rfl := Option.some.inj hf
    exact r_zreturn X hQ rfl rfl (Nat.le_of_ble_eq_true rfl) (Nat.le_of_ble_eq_true rfl) rfl dX10_in_18
  · replace hf := ifF hf c2
    refine r_lload_n X (x := x0) dX10_in_6 rfl ?_
    refine r_lload X (x := x4) dX10_in_7 rfl ?_
    refine r_lcmp_gt X 17 dX10_in_9 dX10_in_10 rfl (fun c9 => ?_) (fun c9 => ?_)
    · replace hf := ifT hf c9
      refine r_iconst X (v := 0) dX10_in_17 rfl ?_
      obtain rfl := Option.some.inj hf
      exact r_zreturn X hQ rfl rfl (Nat.le_of_ble_eq_true rfl) (Nat.le_of_ble_eq_true rfl) rfl dX10_in_18
    · replace hf := ifF hf c9
      refine r_iconst X (v := 1) dX10_in_13 rfl ?_
      refine r_goto X 18 dX10_in_14 rfl ?_
      obtain rfl := Option.some.inj hf
      exact r_zreturn X hQ rfl rfl (Nat.le_of_ble_eq_true rfl) (Nat.le_of_ble_eq_true rfl) rfl dX10_in_18
set_option maxRecDepth 100000 in
set_option maxHeartbeats 4000000 in
theorem K10_no {k : KT} {T : TT} {R : RR} {ly : Fin 2 → LL} {rc : RC} {hn : HN} {rp : RP} {tp : TP} {ee : EE} {st : Fin 12 → SS} {w : Nat → Int64} {aside : Nat → Int64} {thought : Nat → Int64} {fresh : Nat → Int64} {mu : MU} {th : Int32} {mp : MP} {mf : MF} {mh : MH} {mg : MG} {ou : Nat → Int64} {od : Nat → UInt64}  {x1 : Int32} {r : Int32 × (Int32)} (hf : f10_no  th x1 = some r) : CT k strs yX10_no cX10_no 2 (some .int) (rmD 0 0 0) 0 0 [.ref (k.b + (189)), .int x1] (wAll k T R ly rc hn rp tp ee st w aside thought fresh mu th mp mf mh mg ou od) (some (.int r.1)) (wAll k T R ly rc hn rp tp ee st w aside thought fresh mu r.2 mp mf mh mg ou od) := by
  refine CT.of (by decide) (Nat.le_of_ble_eq_true rfl) ?_
  intro z X hQ
  show VW k z 0 0 (wAll k T R ly rc hn rp tp ee st w aside thought fresh mu th mp mf mh mg ou od) 0 [some (.ref (k.b + (189))), some (.int x1)] []
  unfold f10_no at hf
  refine r_aload_n X (x := k.b + (189)) dX10_no_0 rfl ?_
  refine r_iload_n X (x := x1) dX10_no_1 rfl ?_
  refine r_putfield X (ws1 := wAll k T R ly rc hn rp tp ee st w aside thought fresh mu x1 mp mf mh mg ou od) clsX10 flX10_36 (Nat.le_of_ble_eq_true rfl) rfl rfl rfl _ o_model (Nat.le_of_ble_eq_true rfl) (s_th x1) dX10_no_2 ?_
  refine r_iconst X (v := 0) dX10_no_5 rfl ?_
  obtain rfl := Option.some.inj hf
  exact r_ireturn X hQ rfl rfl (Nat.le_of_ble_eq_true rfl) (Nat.le_of_ble_eq_true rfl) dX10_no_6
set_option maxRecDepth 100000 in
set_option maxHeartbeats 4000000 in
theorem K10_fails {k : KT} {T : TT} {R : RR} {ly : Fin 2 → LL} {rc : RC} {hn : HN} {rp : RP} {tp : TP} {ee : EE} {st : Fin 12 → SS} {w : Nat → Int64} {aside : Nat → Int64} {thought : Nat → Int64} {fresh : Nat → Int64} {mu : MU} {th : Int32} {mp : MP} {mf : MF} {mh : MH} {mg : MG} {ou : Nat → Int64} {od : Nat → UInt64}  {x1 : Int32} {x2 : Int32} {r : Int32 × (Int32)} (hf : f10_fails  th x1 x2 = some r) : CT k strs yX10_fails cX10_fails 3 (some .boolean) (rmD 0 0 0) 0 0 [.ref (k.b + (189)), .int x1, .int x2] (wAll k T R ly rc hn rp tp ee st w aside thought fresh mu th mp mf mh mg ou od) (some (.int r.1)) (wAll k T R ly rc hn rp tp ee st w aside thought fresh mu r.2 mp mf mh mg ou od) := by
  refine CT.of (by decide) (Nat.le_of_ble_eq_true rfl) ?_
  intro z X hQ
  show VW k z 0 0 (wAll k T R ly rc hn rp tp ee st w aside thought fresh mu th mp mf mh mg ou od) 0 [some (.ref (k.b + (189))), some (.int x1), some (.int x2)] []
  unfold f10_fails at hf
  refine r_aload_n X (x := k.b + (189)) dX10_fails_0 rfl ?_
  refine r_iload_n X (x := x1) dX10_fails_1 rfl ?_
  suffices K2 : VW k z 0 0 (wAll k T R ly rc hn rp tp ee st w aside thought fresh mu th mp mf mh mg ou od) 10 [some (.ref (k.b + (189))), some (.int x1), some (.int x2)] [.int (if x1 = 0 then (0 : Int32) else (x2 : Int32)), .ref (k.b + (189))] by
    refine r_if_eq X 9 dX10_fails_2 rfl (fun c2 => ?_) (fun c2 => ?_)
    · refine r_iconst X (v := 0) dX10_fails_9 rfl ?_
      rw [if_pos c2] at K2
      exact K2
    · refine r_iload_n X (x := x2) dX10_fails_5 rfl ?_
      refine r_goto X 10 dX10_fails_6 rfl ?_
      rw [if_neg c2] at K2
      exact K2
  refine r_putfield X (ws1 := wAll k T R ly rc hn rp tp ee st w aside thought fresh mu (if x1 = 0 then (0 : Int32) else (x2 : Int32)) mp mf mh mg ou od) clsX10 flX10_36 (Nat.le_of_ble_eq_true rfl) rfl rfl rfl _ o_model (Nat.le_of_ble_eq_true rfl) (s_th (if x1 = 0 then (0 : Int32) else (x2 : Int32))) dX10_fails_10 ?_
  refine r_iload_n X (x := x1) dX10_fails_13 rfl ?_
  obtain ⟨g14b, hf⟩ := gdS hf
  obtain rfl := Option.some.inj hf
  exact r_zreturn X hQ rfl rfl (Nat.le_of_ble_eq_true rfl) (Nat.le_of_ble_eq_true rfl) (nb_of g14b) dX10_fails_14
set_option maxRecDepth 100000 in
set_option maxHeartbeats 4000000 in
theorem K10_many {k : KT} {T : TT} {R : RR} {ly : Fin 2 → LL} {rc : RC} {hn : HN} {rp : RP} {tp : TP} {ee : EE} {st : Fin 12 → SS} {w : Nat → Int64} {aside : Nat → Int64} {thought : Nat → Int64} {fresh : Nat → Int64} {mu : MU} {th : Int32} {mp : MP} {mf : MF} {mh : MH} {mg : MG} {ou : Nat → Int64} {od : Nat → UInt64}  {x1 : Int32} {r : Int32} (hf : f10_many w  x1 = some r) : CT k strs yX10_many cX10_many 2 (some .int) (rmD 0 0 0) 0 0 [.ref (k.b + (189)), .int x1] (wAll k T R ly rc hn rp tp ee st w aside thought fresh mu th mp mf mh mg ou od) (some (.int r)) (wAll k T R ly rc hn rp tp ee st w aside thought fresh mu th mp mf mh mg ou od) := by
  refine CT.of (by decide) (Nat.le_of_ble_eq_true rfl) ?_
  intro z X hQ
  show VW k z 0 0 (wAll k T R ly rc hn rp tp ee st w aside thought fresh mu th mp mf mh mg ou od) 0 [some (.ref (k.b + (189))), some (.int x1)] []
  unfold f10_many at hf
  refine r_aload_n X (x := k.b + (189)) dX10_many_0 rfl ?_
  refine r_getfield X (v := .ref (k.b + (190))) clsX10 flX10_7 (Nat.le_of_ble_eq_true rfl) _ o_model rfl dX10_many_1 ?_
  refine r_iload_n X (x := x1) dX10_many_4 rfl ?_
  obtain ⟨g5, hf⟩ := gdS hf
  refine r_laload X (f := w) _ a_m_w g5 dX10_many_5 ?_
  refine r_l2i X dX10_many_6 ?_
  obtain rfl := Option.some.inj hf
  exact r_ireturn X hQ rfl rfl (Nat.le_of_ble_eq_true rfl) (Nat.le_of_ble_eq_true rfl) dX10_many_7
set_option maxRecDepth 100000 in
set_option maxHeartbeats 4000000 in
theorem K10_isChamber {k : KT} {T : TT} {R : RR} {ly : Fin 2 → LL} {rc : RC} {hn : HN} {rp : RP} {tp : TP} {ee : EE} {st : Fin 12 → SS} {w : Nat → Int64} {aside : Nat → Int64} {thought : Nat → Int64} {fresh : Nat → Int64} {mu : MU} {th : Int32} {mp : MP} {mf : MF} {mh : MH} {mg : MG} {ou : Nat → Int64} {od : Nat → UInt64}  {x1 : Int32} {r : Int32} (hf : f10_isChamber w  x1 = some r) : CT k strs yX10_isChamber cX10_isChamber 2 (some .boolean) (rmD 1 0 0) 0 0 [.ref (k.b + (189)), .int x1] (wAll k T R ly rc hn rp tp ee st w aside thought fresh mu th mp mf mh mg ou od) (some (.int r)) (wAll k T R ly rc hn rp tp ee st w aside thought fresh mu th mp mf mh mg ou od) := by
  refine CT.of (by decide) (Nat.le_of_ble_eq_true rfl) ?_
  intro z X hQ
  show VW k z 0 0 (wAll k T R ly rc hn rp tp ee st w aside thought fresh mu th mp mf mh mg ou od) 0 [some (.ref (k.b + (189))), some (.int x1)] []
  unfold f10_isChamber at hf
  refine r_iload_n X (x := x1) dX10_isChamber_0 rfl ?_
  refine r_i2l X dX10_isChamber_1 ?_
  refine r_lconst X (v := 0) dX10_isChamber_2 rfl ?_
  refine r_aload_n X (x := k.b + (189)) dX10_isChamber_3 rfl ?_
  refine r_getfield X (v := .ref (k.b + (190))) clsX10 flX10_7 (Nat.le_of_ble_eq_true rfl) _ o_model rfl dX10_isChamber_4 ?_
  refine r_iconst X (v := 0) dX10_isChamber_7 rfl ?_
  refine r_laload X (f := w) _ a_m_w (by decide) dX10_isChamber_8 ?_
  refine r_lconst X (v := 1) dX10_isChamber_9 rfl ?_
  refine r_lsub X dX10_isChamber_10 ?_
  obtain ⟨u11, h11, hf⟩ := bdS hf
  refine r_callS0 X [.long x1.toInt64, .long 0, .long ((w (ix 0)) - 1)] [] (K10_in h11) lkX10_39 (by decide) (Nat.le_of_ble_eq_true rfl) rfl rfl (Nat.le_of_ble_eq_true rfl) rfl rfl (Nat.zero_le _) (Nat.zero_le _) dX10_isChamber_11 ?_
  obtain ⟨g14b, hf⟩ := gdS hf
  obtain rfl := Option.some.inj hf
  exact r_zreturn X hQ rfl rfl (Nat.le_of_ble_eq_true rfl) (Nat.le_of_ble_eq_true rfl) (nb_of g14b) dX10_isChamber_14
set_option maxRecDepth 100000 in
set_option maxHeartbeats 4000000 in
theorem K10_isPump {k : KT} {T : TT} {R : RR} {ly : Fin 2 → LL} {rc : RC} {hn : HN} {rp : RP} {tp : TP} {ee : EE} {st : Fin 12 → SS} {w : Nat → Int64} {aside : Nat → Int64} {thought : Nat → Int64} {fresh : Nat → Int64} {mu : MU} {th : Int32} {mp : MP} {mf : MF} {mh : MH} {mg : MG} {ou : Nat → Int64} {od : Nat → UInt64}  {x1 : Int32} {r : Int32} (hf : f10_isPump w  x1 = some r) : CT k strs yX10_isPump cX10_isPump 2 (some .boolean) (rmD 1 0 0) 0 0 [.ref (k.b + (189)), .int x1] (wAll k T R ly rc hn rp tp ee st w aside thought fresh mu th mp mf mh mg ou od) (some (.int r)) (wAll k T R ly rc hn rp tp ee st w aside thought fresh mu th mp mf mh mg ou od) := by
  refine CT.of (by decide) (Nat.le_of_ble_eq_true rfl) ?_
  intro z X hQ
  show VW k z 0 0 (wAll k T R ly rc hn rp tp ee st w aside thought fresh mu th mp mf mh mg ou od) 0 [some (.ref (k.b + (189))), some (.int x1)] []
  unfold f10_isPump at hf
  refine r_iload_n X (x := x1) dX10_isPump_0 rfl ?_
  refine r_i2l X dX10_isPump_1 ?_
  refine r_lconst X (v := 0) dX10_isPump_2 rfl ?_
  refine r_aload_n X (x := k.b + (189)) dX10_isPump_3 rfl ?_
  refine r_getfield X (v := .ref (k.b + (190))) clsX10 flX10_7 (Nat.le_of_ble_eq_true rfl) _ o_model rfl dX10_isPump_4 ?_
  refine r_iconst X (v := 1) dX10_isPump_7 rfl ?_
  refine r_laload X (f := w) _ a_m_w (by decide) dX10_isPump_8 ?_
  refine r_lconst X (v := 1) dX10_isPump_9 rfl ?_
  refine r_lsub X dX10_isPump_10 ?_
  obtain ⟨u11, h11, hf⟩ := bdS hf
  refine r_callS0 X [.long x1.toInt64, .long 0, .long ((w (ix 1)) - 1)] [] (K10_in h11) lkX10_39 (by decide) (Nat.le_of_ble_eq_true rfl) rfl rfl (Nat.le_of_ble_eq_true rfl) rfl rfl (Nat.zero_le _) (Nat.zero_le _) dX10_isPump_11 ?_
  obtain ⟨g14b, hf⟩ := gdS hf
  obtain rfl := Option.some.inj hf
  exact r_zreturn X hQ rfl rfl (Nat.le_of_ble_eq_true rfl) (Nat.le_of_ble_eq_true rfl) (nb_of g14b) dX10_isPump_14
set_option maxRecDepth 100000 in
set_option maxHeartbeats 4000000 in
theorem K10_isValve {k : KT} {T : TT} {R : RR} {ly : Fin 2 → LL} {rc : RC} {hn : HN} {rp : RP} {tp : TP} {ee : EE} {st : Fin 12 → SS} {w : Nat → Int64} {aside : Nat → Int64} {thought : Nat → Int64} {fresh : Nat → Int64} {mu : MU} {th : Int32} {mp : MP} {mf : MF} {mh : MH} {mg : MG} {ou : Nat → Int64} {od : Nat → UInt64}  {x1 : Int32} {r : Int32} (hf : f10_isValve w  x1 = some r) : CT k strs yX10_isValve cX10_isValve 2 (some .boolean) (rmD 1 0 0) 0 0 [.ref (k.b + (189)), .int x1] (wAll k T R ly rc hn rp tp ee st w aside thought fresh mu th mp mf mh mg ou od) (some (.int r)) (wAll k T R ly rc hn rp tp ee st w aside thought fresh mu th mp mf mh mg ou od) := by
  refine CT.of (by decide) (Nat.le_of_ble_eq_true rfl) ?_
  intro z X hQ
  show VW k z 0 0 (wAll k T R ly rc hn rp tp ee st w aside thought fresh mu th mp mf mh mg ou od) 0 [some (.ref (k.b + (189))), some (.int x1)] []
  unfold f10_isValve at hf
  refine r_iload_n X (x := x1) dX10_isValve_0 rfl ?_
  refine r_i2l X dX10_isValve_1 ?_
  refine r_lconst X (v := 0) dX10_isValve_2 rfl ?_
  refine r_aload_n X (x := k.b + (189)) dX10_isValve_3 rfl ?_
  refine r_getfield X (v := .ref (k.b + (190))) clsX10 flX10_7 (Nat.le_of_ble_eq_true rfl) _ o_model rfl dX10_isValve_4 ?_
  refine r_iconst X (v := 2) dX10_isValve_7 rfl ?_
  refine r_laload X (f := w) _ a_m_w (by decide) dX10_isValve_8 ?_
  refine r_lconst X (v := 1) dX10_isValve_9 rfl ?_
  refine r_lsub X dX10_isValve_10 ?_
  obtain ⟨u11, h11, hf⟩ := bdS hf
  refine r_callS0 X [.long x1.toInt64, .long 0, .long ((w (ix 2)) - 1)] [] (K10_in h11) lkX10_39 (by decide) (Nat.le_of_ble_eq_true rfl) rfl rfl (Nat.le_of_ble_eq_true rfl) rfl rfl (Nat.zero_le _) (Nat.zero_le _) dX10_isValve_11 ?_
  obtain ⟨g14b, hf⟩ := gdS hf
  obtain rfl := Option.some.inj hf
  exact r_zreturn X hQ rfl rfl (Nat.le_of_ble_eq_true rfl) (Nat.le_of_ble_eq_true rfl) (nb_of g14b) dX10_isValve_14
set_option maxRecDepth 100000 in
set_option maxHeartbeats 4000000 in
theorem K10_isFlange {k : KT} {T : TT} {R : RR} {ly : Fin 2 → LL} {rc : RC} {hn : HN} {rp : RP} {tp : TP} {ee : EE} {st : Fin 12 → SS} {w : Nat → Int64} {aside : Nat → Int64} {thought : Nat → Int64} {fresh : Nat → Int64} {mu : MU} {th : Int32} {mp : MP} {mf : MF} {mh : MH} {mg : MG} {ou : Nat → Int64} {od : Nat → UInt64}  {x1 : Int32} {r : Int32} (hf : f10_isFlange w  x1 = some r) : CT k strs yX10_isFlange cX10_isFlange 2 (some .boolean) (rmD 1 0 0) 0 0 [.ref (k.b + (189)), .int x1] (wAll k T R ly rc hn rp tp ee st w aside thought fresh mu th mp mf mh mg ou od) (some (.int r)) (wAll k T R ly rc hn rp tp ee st w aside thought fresh mu th mp mf mh mg ou od) := by
  refine CT.of (by decide) (Nat.le_of_ble_eq_true rfl) ?_
  intro z X hQ
  show VW k z 0 0 (wAll k T R ly rc hn rp tp ee st w aside thought fresh mu th mp mf mh mg ou od) 0 [some (.ref (k.b + (189))), some (.int x1)] []
  unfold f10_isFlange at hf
  refine r_iload_n X (x := x1) dX10_isFlange_0 rfl ?_
  refine r_i2l X dX10_isFlange_1 ?_
  refine r_lconst X (v := 0) dX10_isFlange_2 rfl ?_
  refine r_aload_n X (x := k.b + (189)) dX10_isFlange_3 rfl ?_
  refine r_getfield X (v := .ref (k.b + (190))) clsX10 flX10_7 (Nat.le_of_ble_eq_true rfl) _ o_model rfl dX10_isFlange_4 ?_
  refine r_iconst X (v := 3) dX10_isFlange_7 rfl ?_
  refine r_laload X (f := w) _ a_m_w (by decide) dX10_isFlange_8 ?_
  refine r_lconst X (v := 1) dX10_isFlange_9 rfl ?_
  refine r_lsub X dX10_isFlange_10 ?_
  obtain ⟨u11, h11, hf⟩ := bdS hf
  refine r_callS0 X [.long x1.toInt64, .long 0, .long ((w (ix 3)) - 1)] [] (K10_in h11) lkX10_39 (by decide) (Nat.le_of_ble_eq_true rfl) rfl rfl (Nat.le_of_ble_eq_true rfl) rfl rfl (Nat.zero_le _) (Nat.zero_le _) dX10_isFlange_11 ?_
  obtain ⟨g14b, hf⟩ := gdS hf
  obtain rfl := Option.some.inj hf
  exact r_zreturn X hQ rfl rfl (Nat.le_of_ble_eq_true rfl) (Nat.le_of_ble_eq_true rfl) (nb_of g14b) dX10_isFlange_14
set_option maxRecDepth 100000 in
set_option maxHeartbeats 4000000 in
theorem K10_isPressure {k : KT} {T : TT} {R : RR} {ly : Fin 2 → LL} {rc : RC} {hn : HN} {rp : RP} {tp : TP} {ee : EE} {st : Fin 12 → SS} {w : Nat → Int64} {aside : Nat → Int64} {thought : Nat → Int64} {fresh : Nat → Int64} {mu : MU} {th : Int32} {mp : MP} {mf : MF} {mh : MH} {mg : MG} {ou : Nat → Int64} {od : Nat → UInt64}  {x0 : Int32} {r : Int32} (hf : f10_isPressure   x0 = some r) : CT k strs yX10_isPressure cX10_isPressure 1 (some .boolean) (rmD 1 0 0) 0 0 [.int x0] (wAll k T R ly rc hn rp tp ee st w aside thought fresh mu th mp mf mh mg ou od) (some (.int r)) (wAll k T R ly rc hn rp tp ee st w aside thought fresh mu th mp mf mh mg ou od) := by
  refine CT.of (by decide) (Nat.le_of_ble_eq_true rfl) ?_
  intro z X hQ
  show VW k z 0 0 (wAll k T R ly rc hn rp tp ee st w aside thought fresh mu th mp mf mh mg ou od) 0 [some (.int x0)] []
  unfold f10_isPressure at hf
  refine r_iload_n X (x := x0) dX10_isPressure_0 rfl ?_
  refine r_i2l X dX10_isPressure_1 ?_
  refine r_lconst X (v := 0) dX10_isPressure_2 rfl ?_
  refine r_ldc2 X (v := 1000000) coX10_43 dX10_isPressure_3 ?_
  obtain ⟨u6, h6, hf⟩ := bdS hf
  refine r_callS0 X [.long x0.toInt64, .long 0, .long 1000000] [] (K10_in h6) lkX10_39 (by decide) (Nat.le_of_ble_eq_true rfl) rfl rfl (Nat.le_of_ble_eq_true rfl) rfl rfl (Nat.zero_le _) (Nat.zero_le _) dX10_isPressure_6 ?_
  obtain ⟨g9b, hf⟩ := gdS hf
  obtain rfl := Option.some.inj hf
  exact r_zreturn X hQ rfl rfl (Nat.le_of_ble_eq_true rfl) (Nat.le_of_ble_eq_true rfl) (nb_of g9b) dX10_isPressure_9
set_option maxRecDepth 100000 in
set_option maxHeartbeats 4000000 in
theorem K10_isTicks {k : KT} {T : TT} {R : RR} {ly : Fin 2 → LL} {rc : RC} {hn : HN} {rp : RP} {tp : TP} {ee : EE} {st : Fin 12 → SS} {w : Nat → Int64} {aside : Nat → Int64} {thought : Nat → Int64} {fresh : Nat → Int64} {mu : MU} {th : Int32} {mp : MP} {mf : MF} {mh : MH} {mg : MG} {ou : Nat → Int64} {od : Nat → UInt64}  {x0 : Int32} {r : Int32} (hf : f10_isTicks   x0 = some r) : CT k strs yX10_isTicks cX10_isTicks 1 (some .boolean) (rmD 1 0 0) 0 0 [.int x0] (wAll k T R ly rc hn rp tp ee st w aside thought fresh mu th mp mf mh mg ou od) (some (.int r)) (wAll k T R ly rc hn rp tp ee st w aside thought fresh mu th mp mf mh mg ou od) := by
  refine CT.of (by decide) (Nat.le_of_ble_eq_true rfl) ?_
  intro z X hQ
  show VW k z 0 0 (wAll k T R ly rc hn rp tp ee st w aside thought fresh mu th mp mf mh mg ou od) 0 [some (.int x0)] []
  unfold f10_isTicks at hf
  refine r_iload_n X (x := x0) dX10_isTicks_0 rfl ?_
  refine r_i2l X dX10_isTicks_1 ?_
  refine r_lconst X (v := 1) dX10_isTicks_2 rfl ?_
  refine r_ldc2 X (v := 999) coX10_45 dX10_isTicks_3 ?_
  obtain ⟨u6, h6, hf⟩ := bdS hf
  refine r_callS0 X [.long x0.toInt64, .long 1, .long 999] [] (K10_in h6) lkX10_39 (by decide) (Nat.le_of_ble_eq_true rfl) rfl rfl (Nat.le_of_ble_eq_true rfl) rfl rfl (Nat.zero_le _) (Nat.zero_le _) dX10_isTicks_6 ?_
  obtain ⟨g9b, hf⟩ := gdS hf
  obtain rfl := Option.some.inj hf
  exact r_zreturn X hQ rfl rfl (Nat.le_of_ble_eq_true rfl) (Nat.le_of_ble_eq_true rfl) (nb_of g9b) dX10_isTicks_9
set_option maxRecDepth 100000 in
set_option maxHeartbeats 4000000 in
theorem K10_chamberAt {k : KT} {T : TT} {R : RR} {ly : Fin 2 → LL} {rc : RC} {hn : HN} {rp : RP} {tp : TP} {ee : EE} {st : Fin 12 → SS} {w : Nat → Int64} {aside : Nat → Int64} {thought : Nat → Int64} {fresh : Nat → Int64} {mu : MU} {th : Int32} {mp : MP} {mf : MF} {mh : MH} {mg : MG} {ou : Nat → Int64} {od : Nat → UInt64}  {x0 : Int32} {r : Int32} (hf : f10_chamberAt   x0 = some r) : CT k strs yX10_chamberAt cX10_chamberAt 1 (some .int) (rmD 0 0 0) 0 0 [.int x0] (wAll k T R ly rc hn rp tp ee st w aside thought fresh mu th mp mf mh mg ou od) (some (.int r)) (wAll k T R ly rc hn rp tp ee st w aside thought fresh mu th mp mf mh mg ou od) := by
  refine CT.of (by decide) (Nat.le_of_ble_eq_true rfl) ?_
  intro z X hQ
  show VW k z 0 0 (wAll k T R ly rc hn rp tp ee st w aside thought fresh mu th mp mf mh mg ou od) 0 [some (.int x0)] []
  unfold f10_chamberAt at hf
  refine r_bipush X (v := 8) dX10_chamberAt_0 rfl ?_
  refine r_iconst X (v := 4) dX10_chamberAt_2 rfl ?_
  refine r_iload_n X (x := x0) dX10_chamberAt_3 rfl ?_
  refine r_imul X dX10_chamberAt_4 ?_
  refine r_iadd X dX10_chamberAt_5 ?_
  obtain rfl := Option.some.inj hf
  exact r_ireturn X hQ rfl rfl (Nat.le_of_ble_eq_true rfl) (Nat.le_of_ble_eq_true rfl) dX10_chamberAt_6
set_option maxRecDepth 100000 in
set_option maxHeartbeats 4000000 in
theorem K10_pumpAt {k : KT} {T : TT} {R : RR} {ly : Fin 2 → LL} {rc : RC} {hn : HN} {rp : RP} {tp : TP} {ee : EE} {st : Fin 12 → SS} {w : Nat → Int64} {aside : Nat → Int64} {thought : Nat → Int64} {fresh : Nat → Int64} {mu : MU} {th : Int32} {mp : MP} {mf : MF} {mh : MH} {mg : MG} {ou : Nat → Int64} {od : Nat → UInt64}  {x0 : Int32} {r : Int32} (hf : f10_pumpAt   x0 = some r) : CT k strs yX10_pumpAt cX10_pumpAt 1 (some .int) (rmD 0 0 0) 0 0 [.int x0] (wAll k T R ly rc hn rp tp ee st w aside thought fresh mu th mp mf mh mg ou od) (some (.int r)) (wAll k T R ly rc hn rp tp ee st w aside thought fresh mu th mp mf mh mg ou od) := by
  refine CT.of (by decide) (Nat.le_of_ble_eq_true rfl) ?_
  intro z X hQ
  show VW k z 0 0 (wAll k T R ly rc hn rp tp ee st w aside thought fresh mu th mp mf mh mg ou od) 0 [some (.int x0)] []
  unfold f10_pumpAt at hf
  refine r_bipush X (v := 40) dX10_pumpAt_0 rfl ?_
  refine r_bipush X (v := 8) dX10_pumpAt_2 rfl ?_
  refine r_iload_n X (x := x0) dX10_pumpAt_4 rfl ?_
  refine r_imul X dX10_pumpAt_5 ?_
  refine r_iadd X dX10_pumpAt_6 ?_
  obtain rfl := Option.some.inj hf
  exact r_ireturn X hQ rfl rfl (Nat.le_of_ble_eq_true rfl) (Nat.le_of_ble_eq_true rfl) dX10_pumpAt_7
set_option maxRecDepth 100000 in
set_option maxHeartbeats 4000000 in
theorem K10_valveAt {k : KT} {T : TT} {R : RR} {ly : Fin 2 → LL} {rc : RC} {hn : HN} {rp : RP} {tp : TP} {ee : EE} {st : Fin 12 → SS} {w : Nat → Int64} {aside : Nat → Int64} {thought : Nat → Int64} {fresh : Nat → Int64} {mu : MU} {th : Int32} {mp : MP} {mf : MF} {mh : MH} {mg : MG} {ou : Nat → Int64} {od : Nat → UInt64}  {x0 : Int32} {r : Int32} (hf : f10_valveAt   x0 = some r) : CT k strs yX10_valveAt cX10_valveAt 1 (some .int) (rmD 0 0 0) 0 0 [.int x0] (wAll k T R ly rc hn rp tp ee st w aside thought fresh mu th mp mf mh mg ou od) (some (.int r)) (wAll k T R ly rc hn rp tp ee st w aside thought fresh mu th mp mf mh mg ou od) := by
  refine CT.of (by decide) (Nat.le_of_ble_eq_true rfl) ?_
  intro z X hQ
  show VW k z 0 0 (wAll k T R ly rc hn rp tp ee st w aside thought fresh mu th mp mf mh mg ou od) 0 [some (.int x0)] []
  unfold f10_valveAt at hf
  refine r_bipush X (v := 88) dX10_valveAt_0 rfl ?_
  refine r_bipush X (v := 6) dX10_valveAt_2 rfl ?_
  refine r_iload_n X (x := x0) dX10_valveAt_4 rfl ?_
  refine r_imul X dX10_valveAt_5 ?_
  refine r_iadd X dX10_valveAt_6 ?_
  obtain rfl := Option.some.inj hf
  exact r_ireturn X hQ rfl rfl (Nat.le_of_ble_eq_true rfl) (Nat.le_of_ble_eq_true rfl) dX10_valveAt_7
set_option maxRecDepth 100000 in
set_option maxHeartbeats 4000000 in
theorem K10_flangeAt {k : KT} {T : TT} {R : RR} {ly : Fin 2 → LL} {rc : RC} {hn : HN} {rp : RP} {tp : TP} {ee : EE} {st : Fin 12 → SS} {w : Nat → Int64} {aside : Nat → Int64} {thought : Nat → Int64} {fresh : Nat → Int64} {mu : MU} {th : Int32} {mp : MP} {mf : MF} {mh : MH} {mg : MG} {ou : Nat → Int64} {od : Nat → UInt64}  {x0 : Int32} {r : Int32} (hf : f10_flangeAt   x0 = some r) : CT k strs yX10_flangeAt cX10_flangeAt 1 (some .int) (rmD 0 0 0) 0 0 [.int x0] (wAll k T R ly rc hn rp tp ee st w aside thought fresh mu th mp mf mh mg ou od) (some (.int r)) (wAll k T R ly rc hn rp tp ee st w aside thought fresh mu th mp mf mh mg ou od) := by
  refine CT.of (by decide) (Nat.le_of_ble_eq_true rfl) ?_
  intro z X hQ
  show VW k z 0 0 (wAll k T R ly rc hn rp tp ee st w aside thought fresh mu th mp mf mh mg ou od) 0 [some (.int x0)] []
  unfold f10_flangeAt at hf
  refine r_sipush X (v := 148) dX10_flangeAt_0 rfl ?_
  refine r_iconst X (v := 2) dX10_flangeAt_3 rfl ?_
  refine r_iload_n X (x := x0) dX10_flangeAt_4 rfl ?_
  refine r_imul X dX10_flangeAt_5 ?_
  refine r_iadd X dX10_flangeAt_6 ?_
  obtain rfl := Option.some.inj hf
  exact r_ireturn X hQ rfl rfl (Nat.le_of_ble_eq_true rfl) (Nat.le_of_ble_eq_true rfl) dX10_flangeAt_7
set_option maxRecDepth 100000 in
set_option maxHeartbeats 4000000 in
theorem K10_testAt {k : KT} {T : TT} {R : RR} {ly : Fin 2 → LL} {rc : RC} {hn : HN} {rp : RP} {tp : TP} {ee : EE} {st : Fin 12 → SS} {w : Nat → Int64} {aside : Nat → Int64} {thought : Nat → Int64} {fresh : Nat → Int64} {mu : MU} {th : Int32} {mp : MP} {mf : MF} {mh : MH} {mg : MG} {ou : Nat → Int64} {od : Nat → UInt64}  {x0 : Int32} {r : Int32} (hf : f10_testAt   x0 = some r) : CT k strs yX10_testAt cX10_testAt 1 (some .int) (rmD 0 0 0) 0 0 [.int x0] (wAll k T R ly rc hn rp tp ee st w aside thought fresh mu th mp mf mh mg ou od) (some (.int r)) (wAll k T R ly rc hn rp tp ee st w aside thought fresh mu th mp mf mh mg ou od) := by
  refine CT.of (by decide) (Nat.le_of_ble_eq_true rfl) ?_
  intro z X hQ
  show VW k z 0 0 (wAll k T R ly rc hn rp tp ee st w aside thought fresh mu th mp mf mh mg ou od) 0 [some (.int x0)] []
  unfold f10_testAt at hf
  refine r_sipush X (v := 196) dX10_testAt_0 rfl ?_
  refine r_bipush X (v := 6) dX10_testAt_3 rfl ?_
  refine r_iload_n X (x := x0) dX10_testAt_5 rfl ?_
  refine r_imul X dX10_testAt_6 ?_
  refine r_iadd X dX10_testAt_7 ?_
  obtain rfl := Option.some.inj hf
  exact r_ireturn X hQ rfl rfl (Nat.le_of_ble_eq_true rfl) (Nat.le_of_ble_eq_true rfl) dX10_testAt_8
set_option maxRecDepth 100000 in
set_option maxHeartbeats 4000000 in
theorem B10_copy_w_aside_B2 {k : KT} {z : ZT} {T : TT} {R : RR} {ly : Fin 2 → LL} {rc : RC} {hn : HN} {rp : RP} {tp : TP} {ee : EE} {st : Fin 12 → SS} {w : Nat → Int64} {thought : Nat → Int64} {fresh : Nat → Int64} {mu : MU} {th : Int32} {mp : MP} {mf : MF} {mh : MH} {mg : MG} {ou : Nat → Int64} {od : Nat → UInt64} {r : (Nat → Int64)} (X : XX k strs z RX10 cX10_copy 3 none (rmD 0 0 0)) (hQ : zQ z = MQ (zB z) (Qof k (none) (wAll k T R ly rc hn rp tp ee st w r thought fresh mu th mp mf mh mg ou od)) (zA z) (zS z) 0 0 (kA k)) : ∀ (fu : Nat) (aside : Nat → Int64) (x2 : Int32), f10_copy_w_aside_B2 w fu aside x2 = some r → VW k z 0 0 (wAll k T R ly rc hn rp tp ee st w aside thought fresh mu th mp mf mh mg ou od) 2 [some (.ref (k.b + (190))), some (.ref (k.b + (191))), some (.int x2)] [] := by
  intro fu
  induction fu with
  | zero =>
    intro aside x2 hf
    rw [f10_copy_w_aside_B2] at hf
    cases hf
  | succ fu ih =>
    intro aside x2 hf
    rw [f10_copy_w_aside_B2] at hf
    refine r_iload_n X (x := x2) dX10_copy_2 rfl ?_
    refine r_sipush X (v := 256) dX10_copy_3 rfl ?_
    refine r_icmp_ge X 21 dX10_copy_6 rfl (fun c6 => ?_) (fun c6 => ?_)
    · replace hf := ifT hf c6
      obtain rfl := Option.some.inj hf
      exact r_return X hQ rfl rfl (Nat.le_of_ble_eq_true rfl) (Nat.le_of_ble_eq_true rfl) dX10_copy_21
    · replace hf := ifF hf c6
      refine r_aload_n X (x := k.b + (191)) dX10_copy_9 rfl ?_
      refine r_iload_n X (x := x2) dX10_copy_10 rfl ?_
      refine r_aload_n X (x := k.b + (190)) dX10_copy_11 rfl ?_
      refine r_iload_n X (x := x2) dX10_copy_12 rfl ?_
      obtain ⟨g13, hf⟩ := gdS hf
      refine r_laload X (f := w) _ a_m_w g13 dX10_copy_13 ?_
      refine r_lastore X (f := aside) (ws1 := wAll k T R ly rc hn rp tp ee st w (vp_updL aside (ix x2) (w (ix x2))) thought fresh mu th mp mf mh mg ou od) _ a_m_aside g13 (s_aside (vp_updL aside (ix x2) (w (ix x2)))) dX10_copy_14 ?_
      refine r_iinc X (x := x2) (v := x2 + 1) [some (.ref (k.b + (190))), some (.ref (k.b + (191))), some (.int (x2 + 1))] dX10_copy_15 rfl rfl rfl ?_
      refine r_goto X 2 dX10_copy_18 rfl ?_
      exact ih (vp_updL aside (ix x2) (w (ix x2))) (x2 + 1) hf
set_option maxRecDepth 100000 in
set_option maxHeartbeats 4000000 in
theorem K10_copy_w_aside {k : KT} {T : TT} {R : RR} {ly : Fin 2 → LL} {rc : RC} {hn : HN} {rp : RP} {tp : TP} {ee : EE} {st : Fin 12 → SS} {w : Nat → Int64} {aside : Nat → Int64} {thought : Nat → Int64} {fresh : Nat → Int64} {mu : MU} {th : Int32} {mp : MP} {mf : MF} {mh : MH} {mg : MG} {ou : Nat → Int64} {od : Nat → UInt64}   {r : (Nat → Int64)} (hf : f10_copy_w_aside w aside  = some r) : CT k strs yX10_copy cX10_copy 3 none (rmD 0 0 0) 0 0 [.ref (k.b + (190)), .ref (k.b + (191))] (wAll k T R ly rc hn rp tp ee st w aside thought fresh mu th mp mf mh mg ou od) (none) (wAll k T R ly rc hn rp tp ee st w r thought fresh mu th mp mf mh mg ou od) := by
  refine CT.of (by decide) (Nat.le_of_ble_eq_true rfl) ?_
  intro z X hQ
  show VW k z 0 0 (wAll k T R ly rc hn rp tp ee st w aside thought fresh mu th mp mf mh mg ou od) 0 [some (.ref (k.b + (190))), some (.ref (k.b + (191))), none] []
  unfold f10_copy_w_aside at hf
  refine r_iconst X (v := 0) dX10_copy_0 rfl ?_
  refine r_istore_n X [some (.ref (k.b + (190))), some (.ref (k.b + (191))), some (.int 0)] dX10_copy_1 (Nat.le_of_ble_eq_true rfl) rfl ?_
  exact B10_copy_w_aside_B2 X hQ FU aside 0 hf
set_option maxRecDepth 100000 in
set_option maxHeartbeats 4000000 in
theorem B10_copy_aside_w_B2 {k : KT} {z : ZT} {T : TT} {R : RR} {ly : Fin 2 → LL} {rc : RC} {hn : HN} {rp : RP} {tp : TP} {ee : EE} {st : Fin 12 → SS} {aside : Nat → Int64} {thought : Nat → Int64} {fresh : Nat → Int64} {mu : MU} {th : Int32} {mp : MP} {mf : MF} {mh : MH} {mg : MG} {ou : Nat → Int64} {od : Nat → UInt64} {r : (Nat → Int64)} (X : XX k strs z RX10 cX10_copy 3 none (rmD 0 0 0)) (hQ : zQ z = MQ (zB z) (Qof k (none) (wAll k T R ly rc hn rp tp ee st r aside thought fresh mu th mp mf mh mg ou od)) (zA z) (zS z) 0 0 (kA k)) : ∀ (fu : Nat) (w : Nat → Int64) (x2 : Int32), f10_copy_aside_w_B2 aside fu w x2 = some r → VW k z 0 0 (wAll k T R ly rc hn rp tp ee st w aside thought fresh mu th mp mf mh mg ou od) 2 [some (.ref (k.b + (191))), some (.ref (k.b + (190))), some (.int x2)] [] := by
  intro fu
  induction fu with
  | zero =>
    intro w x2 hf
    rw [f10_copy_aside_w_B2] at hf
    cases hf
  | succ fu ih =>
    intro w x2 hf
    rw [f10_copy_aside_w_B2] at hf
    refine r_iload_n X (x := x2) dX10_copy_2 rfl ?_
    refine r_sipush X (v := 256) dX10_copy_3 rfl ?_
    refine r_icmp_ge X 21 dX10_copy_6 rfl (fun c6 => ?_) (fun c6 => ?_)
    · replace hf := ifT hf c6
      obtain rfl := Option.some.inj hf
      exact r_return X hQ rfl rfl (Nat.le_of_ble_eq_true rfl) (Nat.le_of_ble_eq_true rfl) dX10_copy_21
    · replace hf := ifF hf c6
      refine r_aload_n X (x := k.b + (190)) dX10_copy_9 rfl ?_
      refine r_iload_n X (x := x2) dX10_copy_10 rfl ?_
      refine r_aload_n X (x := k.b + (191)) dX10_copy_11 rfl ?_
      refine r_iload_n X (x := x2) dX10_copy_12 rfl ?_
      obtain ⟨g13, hf⟩ := gdS hf
      refine r_laload X (f := aside) _ a_m_aside g13 dX10_copy_13 ?_
      refine r_lastore X (f := w) (ws1 := wAll k T R ly rc hn rp tp ee st (vp_updL w (ix x2) (aside (ix x2))) aside thought fresh mu th mp mf mh mg ou od) _ a_m_w g13 (s_w (vp_updL w (ix x2) (aside (ix x2)))) dX10_copy_14 ?_
      refine r_iinc X (x := x2) (v := x2 + 1) [some (.ref (k.b + (191))), some (.ref (k.b + (190))), some (.int (x2 + 1))] dX10_copy_15 rfl rfl rfl ?_
      refine r_goto X 2 dX10_copy_18 rfl ?_
      exact ih (vp_updL w (ix x2) (aside (ix x2))) (x2 + 1) hf
set_option maxRecDepth 100000 in
set_option maxHeartbeats 4000000 in
theorem K10_copy_aside_w {k : KT} {T : TT} {R : RR} {ly : Fin 2 → LL} {rc : RC} {hn : HN} {rp : RP} {tp : TP} {ee : EE} {st : Fin 12 → SS} {w : Nat → Int64} {aside : Nat → Int64} {thought : Nat → Int64} {fresh : Nat → Int64} {mu : MU} {th : Int32} {mp : MP} {mf : MF} {mh : MH} {mg : MG} {ou : Nat → Int64} {od : Nat → UInt64}   {r : (Nat → Int64)} (hf : f10_copy_aside_w aside w  = some r) : CT k strs yX10_copy cX10_copy 3 none (rmD 0 0 0) 0 0 [.ref (k.b + (191)), .ref (k.b + (190))] (wAll k T R ly rc hn rp tp ee st w aside thought fresh mu th mp mf mh mg ou od) (none) (wAll k T R ly rc hn rp tp ee st r aside thought fresh mu th mp mf mh mg ou od) := by
  refine CT.of (by decide) (Nat.le_of_ble_eq_true rfl) ?_
  intro z X hQ
  show VW k z 0 0 (wAll k T R ly rc hn rp tp ee st w aside thought fresh mu th mp mf mh mg ou od) 0 [some (.ref (k.b + (191))), some (.ref (k.b + (190))), none] []
  unfold f10_copy_aside_w at hf
  refine r_iconst X (v := 0) dX10_copy_0 rfl ?_
  refine r_istore_n X [some (.ref (k.b + (191))), some (.ref (k.b + (190))), some (.int 0)] dX10_copy_1 (Nat.le_of_ble_eq_true rfl) rfl ?_
  exact B10_copy_aside_w_B2 X hQ FU w 0 hf
set_option maxRecDepth 100000 in
set_option maxHeartbeats 4000000 in
theorem B10_copy_w_thought_B2 {k : KT} {z : ZT} {T : TT} {R : RR} {ly : Fin 2 → LL} {rc : RC} {hn : HN} {rp : RP} {tp : TP} {ee : EE} {st : Fin 12 → SS} {w : Nat → Int64} {aside : Nat → Int64} {fresh : Nat → Int64} {mu : MU} {th : Int32} {mp : MP} {mf : MF} {mh : MH} {mg : MG} {ou : Nat → Int64} {od : Nat → UInt64} {r : (Nat → Int64)} (X : XX k strs z RX10 cX10_copy 3 none (rmD 0 0 0)) (hQ : zQ z = MQ (zB z) (Qof k (none) (wAll k T R ly rc hn rp tp ee st w aside r fresh mu th mp mf mh mg ou od)) (zA z) (zS z) 0 0 (kA k)) : ∀ (fu : Nat) (thought : Nat → Int64) (x2 : Int32), f10_copy_w_thought_B2 w fu thought x2 = some r → VW k z 0 0 (wAll k T R ly rc hn rp tp ee st w aside thought fresh mu th mp mf mh mg ou od) 2 [some (.ref (k.b + (190))), some (.ref (k.b + (192))), some (.int x2)] [] := by
  intro fu
  induction fu with
  | zero =>
    intro thought x2 hf
    rw [f10_copy_w_thought_B2] at hf
    cases hf
  | succ fu ih =>
    intro thought x2 hf
    rw [f10_copy_w_thought_B2] at hf
    refine r_iload_n X (x := x2) dX10_copy_2 rfl ?_
    refine r_sipush X (v := 256) dX10_copy_3 rfl ?_
    refine r_icmp_ge X 21 dX10_copy_6 rfl (fun c6 => ?_) (fun c6 => ?_)
    · replace hf := ifT hf c6
      obtain rfl := Option.some.inj hf
      exact r_return X hQ rfl rfl (Nat.le_of_ble_eq_true rfl) (Nat.le_of_ble_eq_true rfl) dX10_copy_21
    · replace hf := ifF hf c6
      refine r_aload_n X (x := k.b + (192)) dX10_copy_9 rfl ?_
      refine r_iload_n X (x := x2) dX10_copy_10 rfl ?_
      refine r_aload_n X (x := k.b + (190)) dX10_copy_11 rfl ?_
      refine r_iload_n X (x := x2) dX10_copy_12 rfl ?_
      obtain ⟨g13, hf⟩ := gdS hf
      refine r_laload X (f := w) _ a_m_w g13 dX10_copy_13 ?_
      refine r_lastore X (f := thought) (ws1 := wAll k T R ly rc hn rp tp ee st w aside (vp_updL thought (ix x2) (w (ix x2))) fresh mu th mp mf mh mg ou od) _ a_m_thought g13 (s_thought (vp_updL thought (ix x2) (w (ix x2)))) dX10_copy_14 ?_
      refine r_iinc X (x := x2) (v := x2 + 1) [some (.ref (k.b + (190))), some (.ref (k.b + (192))), some (.int (x2 + 1))] dX10_copy_15 rfl rfl rfl ?_
      refine r_goto X 2 dX10_copy_18 rfl ?_
      exact ih (vp_updL thought (ix x2) (w (ix x2))) (x2 + 1) hf
set_option maxRecDepth 100000 in
set_option maxHeartbeats 4000000 in
theorem K10_copy_w_thought {k : KT} {T : TT} {R : RR} {ly : Fin 2 → LL} {rc : RC} {hn : HN} {rp : RP} {tp : TP} {ee : EE} {st : Fin 12 → SS} {w : Nat → Int64} {aside : Nat → Int64} {thought : Nat → Int64} {fresh : Nat → Int64} {mu : MU} {th : Int32} {mp : MP} {mf : MF} {mh : MH} {mg : MG} {ou : Nat → Int64} {od : Nat → UInt64}   {r : (Nat → Int64)} (hf : f10_copy_w_thought w thought  = some r) : CT k strs yX10_copy cX10_copy 3 none (rmD 0 0 0) 0 0 [.ref (k.b + (190)), .ref (k.b + (192))] (wAll k T R ly rc hn rp tp ee st w aside thought fresh mu th mp mf mh mg ou od) (none) (wAll k T R ly rc hn rp tp ee st w aside r fresh mu th mp mf mh mg ou od) := by
  refine CT.of (by decide) (Nat.le_of_ble_eq_true rfl) ?_
  intro z X hQ
  show VW k z 0 0 (wAll k T R ly rc hn rp tp ee st w aside thought fresh mu th mp mf mh mg ou od) 0 [some (.ref (k.b + (190))), some (.ref (k.b + (192))), none] []
  unfold f10_copy_w_thought at hf
  refine r_iconst X (v := 0) dX10_copy_0 rfl ?_
  refine r_istore_n X [some (.ref (k.b + (190))), some (.ref (k.b + (192))), some (.int 0)] dX10_copy_1 (Nat.le_of_ble_eq_true rfl) rfl ?_
  exact B10_copy_w_thought_B2 X hQ FU thought 0 hf
set_option maxRecDepth 100000 in
set_option maxHeartbeats 4000000 in
theorem B10_copy_thought_w_B2 {k : KT} {z : ZT} {T : TT} {R : RR} {ly : Fin 2 → LL} {rc : RC} {hn : HN} {rp : RP} {tp : TP} {ee : EE} {st : Fin 12 → SS} {aside : Nat → Int64} {thought : Nat → Int64} {fresh : Nat → Int64} {mu : MU} {th : Int32} {mp : MP} {mf : MF} {mh : MH} {mg : MG} {ou : Nat → Int64} {od : Nat → UInt64} {r : (Nat → Int64)} (X : XX k strs z RX10 cX10_copy 3 none (rmD 0 0 0)) (hQ : zQ z = MQ (zB z) (Qof k (none) (wAll k T R ly rc hn rp tp ee st r aside thought fresh mu th mp mf mh mg ou od)) (zA z) (zS z) 0 0 (kA k)) : ∀ (fu : Nat) (w : Nat → Int64) (x2 : Int32), f10_copy_thought_w_B2 thought fu w x2 = some r → VW k z 0 0 (wAll k T R ly rc hn rp tp ee st w aside thought fresh mu th mp mf mh mg ou od) 2 [some (.ref (k.b + (192))), some (.ref (k.b + (190))), some (.int x2)] [] := by
  intro fu
  induction fu with
  | zero =>
    intro w x2 hf
    rw [f10_copy_thought_w_B2] at hf
    cases hf
  | succ fu ih =>
    intro w x2 hf
    rw [f10_copy_thought_w_B2] at hf
    refine r_iload_n X (x := x2) dX10_copy_2 rfl ?_
    refine r_sipush X (v := 256) dX10_copy_3 rfl ?_
    refine r_icmp_ge X 21 dX10_copy_6 rfl (fun c6 => ?_) (fun c6 => ?_)
    · replace hf := ifT hf c6
      obtain rfl := Option.some.inj hf
      exact r_return X hQ rfl rfl (Nat.le_of_ble_eq_true rfl) (Nat.le_of_ble_eq_true rfl) dX10_copy_21
    · replace hf := ifF hf c6
      refine r_aload_n X (x := k.b + (190)) dX10_copy_9 rfl ?_
      refine r_iload_n X (x := x2) dX10_copy_10 rfl ?_
      refine r_aload_n X (x := k.b + (192)) dX10_copy_11 rfl ?_
      refine r_iload_n X (x := x2) dX10_copy_12 rfl ?_
      obtain ⟨g13, hf⟩ := gdS hf
      refine r_laload X (f := thought) _ a_m_thought g13 dX10_copy_13 ?_
      refine r_lastore X (f := w) (ws1 := wAll k T R ly rc hn rp tp ee st (vp_updL w (ix x2) (thought (ix x2))) aside thought fresh mu th mp mf mh mg ou od) _ a_m_w g13 (s_w (vp_updL w (ix x2) (thought (ix x2)))) dX10_copy_14 ?_
      refine r_iinc X (x := x2) (v := x2 + 1) [some (.ref (k.b + (192))), some (.ref (k.b + (190))), some (.int (x2 + 1))] dX10_copy_15 rfl rfl rfl ?_
      refine r_goto X 2 dX10_copy_18 rfl ?_
      exact ih (vp_updL w (ix x2) (thought (ix x2))) (x2 + 1) hf
set_option maxRecDepth 100000 in
set_option maxHeartbeats 4000000 in
theorem K10_copy_thought_w {k : KT} {T : TT} {R : RR} {ly : Fin 2 → LL} {rc : RC} {hn : HN} {rp : RP} {tp : TP} {ee : EE} {st : Fin 12 → SS} {w : Nat → Int64} {aside : Nat → Int64} {thought : Nat → Int64} {fresh : Nat → Int64} {mu : MU} {th : Int32} {mp : MP} {mf : MF} {mh : MH} {mg : MG} {ou : Nat → Int64} {od : Nat → UInt64}   {r : (Nat → Int64)} (hf : f10_copy_thought_w thought w  = some r) : CT k strs yX10_copy cX10_copy 3 none (rmD 0 0 0) 0 0 [.ref (k.b + (192)), .ref (k.b + (190))] (wAll k T R ly rc hn rp tp ee st w aside thought fresh mu th mp mf mh mg ou od) (none) (wAll k T R ly rc hn rp tp ee st r aside thought fresh mu th mp mf mh mg ou od) := by
  refine CT.of (by decide) (Nat.le_of_ble_eq_true rfl) ?_
  intro z X hQ
  show VW k z 0 0 (wAll k T R ly rc hn rp tp ee st w aside thought fresh mu th mp mf mh mg ou od) 0 [some (.ref (k.b + (192))), some (.ref (k.b + (190))), none] []
  unfold f10_copy_thought_w at hf
  refine r_iconst X (v := 0) dX10_copy_0 rfl ?_
  refine r_istore_n X [some (.ref (k.b + (192))), some (.ref (k.b + (190))), some (.int 0)] dX10_copy_1 (Nat.le_of_ble_eq_true rfl) rfl ?_
  exact B10_copy_thought_w_B2 X hQ FU w 0 hf
set_option maxRecDepth 100000 in
set_option maxHeartbeats 4000000 in
theorem B10_copy_fresh_w_B2 {k : KT} {z : ZT} {T : TT} {R : RR} {ly : Fin 2 → LL} {rc : RC} {hn : HN} {rp : RP} {tp : TP} {ee : EE} {st : Fin 12 → SS} {aside : Nat → Int64} {thought : Nat → Int64} {fresh : Nat → Int64} {mu : MU} {th : Int32} {mp : MP} {mf : MF} {mh : MH} {mg : MG} {ou : Nat → Int64} {od : Nat → UInt64} {r : (Nat → Int64)} (X : XX k strs z RX10 cX10_copy 3 none (rmD 0 0 0)) (hQ : zQ z = MQ (zB z) (Qof k (none) (wAll k T R ly rc hn rp tp ee st r aside thought fresh mu th mp mf mh mg ou od)) (zA z) (zS z) 0 0 (kA k)) : ∀ (fu : Nat) (w : Nat → Int64) (x2 : Int32), f10_copy_fresh_w_B2 fresh fu w x2 = some r → VW k z 0 0 (wAll k T R ly rc hn rp tp ee st w aside thought fresh mu th mp mf mh mg ou od) 2 [some (.ref (k.b + (193))), some (.ref (k.b + (190))), some (.int x2)] [] := by
  intro fu
  induction fu with
  | zero =>
    intro w x2 hf
    rw [f10_copy_fresh_w_B2] at hf
    cases hf
  | succ fu ih =>
    intro w x2 hf
    rw [f10_copy_fresh_w_B2] at hf
    refine r_iload_n X (x := x2) dX10_copy_2 rfl ?_
    refine r_sipush X (v := 256) dX10_copy_3 rfl ?_
    refine r_icmp_ge X 21 dX10_copy_6 rfl (fun c6 => ?_) (fun c6 => ?_)
    · replace hf := ifT hf c6
      obtain rfl := Option.some.inj hf
      exact r_return X hQ rfl rfl (Nat.le_of_ble_eq_true rfl) (Nat.le_of_ble_eq_true rfl) dX10_copy_21
    · replace hf := ifF hf c6
      refine r_aload_n X (x := k.b + (190)) dX10_copy_9 rfl ?_
      refine r_iload_n X (x := x2) dX10_copy_10 rfl ?_
      refine r_aload_n X (x := k.b + (193)) dX10_copy_11 rfl ?_
      refine r_iload_n X (x := x2) dX10_copy_12 rfl ?_
      obtain ⟨g13, hf⟩ := gdS hf
      refine r_laload X (f := fresh) _ a_m_fresh g13 dX10_copy_13 ?_
      refine r_lastore X (f := w) (ws1 := wAll k T R ly rc hn rp tp ee st (vp_updL w (ix x2) (fresh (ix x2))) aside thought fresh mu th mp mf mh mg ou od) _ a_m_w g13 (s_w (vp_updL w (ix x2) (fresh (ix x2)))) dX10_copy_14 ?_
      refine r_iinc X (x := x2) (v := x2 + 1) [some (.ref (k.b + (193))), some (.ref (k.b + (190))), some (.int (x2 + 1))] dX10_copy_15 rfl rfl rfl ?_
      refine r_goto X 2 dX10_copy_18 rfl ?_
      exact ih (vp_updL w (ix x2) (fresh (ix x2))) (x2 + 1) hf
set_option maxRecDepth 100000 in
set_option maxHeartbeats 4000000 in
theorem K10_copy_fresh_w {k : KT} {T : TT} {R : RR} {ly : Fin 2 → LL} {rc : RC} {hn : HN} {rp : RP} {tp : TP} {ee : EE} {st : Fin 12 → SS} {w : Nat → Int64} {aside : Nat → Int64} {thought : Nat → Int64} {fresh : Nat → Int64} {mu : MU} {th : Int32} {mp : MP} {mf : MF} {mh : MH} {mg : MG} {ou : Nat → Int64} {od : Nat → UInt64}   {r : (Nat → Int64)} (hf : f10_copy_fresh_w fresh w  = some r) : CT k strs yX10_copy cX10_copy 3 none (rmD 0 0 0) 0 0 [.ref (k.b + (193)), .ref (k.b + (190))] (wAll k T R ly rc hn rp tp ee st w aside thought fresh mu th mp mf mh mg ou od) (none) (wAll k T R ly rc hn rp tp ee st r aside thought fresh mu th mp mf mh mg ou od) := by
  refine CT.of (by decide) (Nat.le_of_ble_eq_true rfl) ?_
  intro z X hQ
  show VW k z 0 0 (wAll k T R ly rc hn rp tp ee st w aside thought fresh mu th mp mf mh mg ou od) 0 [some (.ref (k.b + (193))), some (.ref (k.b + (190))), none] []
  unfold f10_copy_fresh_w at hf
  refine r_iconst X (v := 0) dX10_copy_0 rfl ?_
  refine r_istore_n X [some (.ref (k.b + (193))), some (.ref (k.b + (190))), some (.int 0)] dX10_copy_1 (Nat.le_of_ble_eq_true rfl) rfl ?_
  exact B10_copy_fresh_w_B2 X hQ FU w 0 hf
set_option maxRecDepth 100000 in
set_option maxHeartbeats 4000000 in
theorem B10_push_B54 {k : KT} {z : ZT} {T : TT} {R : RR} {ly : Fin 2 → LL} {rc : RC} {hn : HN} {rp : RP} {tp : TP} {ee : EE} {st : Fin 12 → SS} {w : Nat → Int64} {aside : Nat → Int64} {thought : Nat → Int64} {fresh : Nat → Int64} {th : Int32} {mp : MP} {mf : MF} {mh : MH} {mg : MG} {ou : Nat → Int64} {od : Nat → UInt64} {r : (MU)} (X : XX k strs z RX10 cX10_push 2 none (rmD 0 0 0)) (hQ : zQ z = MQ (zB z) (Qof k (none) (wAll k T R ly rc hn rp tp ee st w aside thought fresh r th mp mf mh mg ou od)) (zA z) (zS z) 0 0 (kA k)) : ∀ (fu : Nat) (mu : MU) (x1 : Int32), f10_push_B54 aside fu mu x1 = some r → VW k z 0 0 (wAll k T R ly rc hn rp tp ee st w aside thought fresh mu th mp mf mh mg ou od) 54 [some (.ref (k.b + (189))), some (.int x1)] [] := by
  intro fu
  induction fu with
  | zero =>
    intro mu x1 hf
    rw [f10_push_B54] at hf
    cases hf
  | succ fu ih =>
    intro mu x1 hf
    rw [f10_push_B54] at hf
    refine r_iload_n X (x := x1) dX10_push_54 rfl ?_
    refine r_sipush X (v := 256) dX10_push_55 rfl ?_
    refine r_icmp_ge X 88 dX10_push_58 rfl (fun c58 => ?_) (fun c58 => ?_)
    · replace hf := ifT hf c58
      refine r_aload_n X (x := k.b + (189)) dX10_push_88 rfl ?_
      refine r_dup X dX10_push_89 rfl ?_
      refine r_getfield X (v := .int (MU_pastCount mu)) clsX10 flX10_47 (Nat.le_of_ble_eq_true rfl) _ o_model rfl dX10_push_90 ?_
      refine r_iconst X (v := 1) dX10_push_93 rfl ?_
      refine r_iadd X dX10_push_94 ?_
      refine r_putfield X (ws1 := wAll k T R ly rc hn rp tp ee st w aside thought fresh (MU_set_pastCount mu ((MU_pastCount mu) + 1)) th mp mf mh mg ou od) clsX10 flX10_47 (Nat.le_of_ble_eq_true rfl) rfl rfl rfl _ o_model (Nat.le_of_ble_eq_true rfl) (s_mu_pastCount ((MU_pastCount mu) + 1)) dX10_push_95 ?_
      obtain rfl := Option.some.inj hf
      exact r_return X hQ rfl rfl (Nat.le_of_ble_eq_true rfl) (Nat.le_of_ble_eq_true rfl) dX10_push_98
    · replace hf := ifF hf c58
      refine r_aload_n X (x := k.b + (189)) dX10_push_61 rfl ?_
      refine r_getfield X (v := .ref (k.b + (194))) clsX10 flX10_22 (Nat.le_of_ble_eq_true rfl) _ o_model rfl dX10_push_62 ?_
      refine r_sipush X (v := 256) dX10_push_65 rfl ?_
      refine r_aload_n X (x := k.b + (189)) dX10_push_68 rfl ?_
      refine r_getfield X (v := .int (MU_pastCount mu)) clsX10 flX10_47 (Nat.le_of_ble_eq_true rfl) _ o_model rfl dX10_push_69 ?_
      refine r_imul X dX10_push_72 ?_
      refine r_iload_n X (x := x1) dX10_push_73 rfl ?_
      refine r_iadd X dX10_push_74 ?_
      refine r_aload_n X (x := k.b + (189)) dX10_push_75 rfl ?_
      refine r_getfield X (v := .ref (k.b + (191))) clsX10 flX10_13 (Nat.le_of_ble_eq_true rfl) _ o_model rfl dX10_push_76 ?_
      refine r_iload_n X (x := x1) dX10_push_79 rfl ?_
      obtain ⟨g80, hf⟩ := gdS hf
      refine r_laload X (f := aside) _ a_m_aside g80 dX10_push_80 ?_
      obtain ⟨g81, hf⟩ := gdS hf
      refine r_lastore X (f := MU_past mu) (ws1 := wAll k T R ly rc hn rp tp ee st w aside thought fresh (MU_set_past mu (vp_updL (MU_past mu) (ix ((256 * (MU_pastCount mu)) + x1)) (aside (ix x1)))) th mp mf mh mg ou od) _ a_m_past g81 (s_mu_past (vp_updL (MU_past mu) (ix ((256 * (MU_pastCount mu)) + x1)) (aside (ix x1)))) dX10_push_81 ?_
      refine r_iinc X (x := x1) (v := x1 + 1) [some (.ref (k.b + (189))), some (.int (x1 + 1))] dX10_push_82 rfl rfl rfl ?_
      refine r_goto X 54 dX10_push_85 rfl ?_
      exact ih (MU_set_past mu (vp_updL (MU_past mu) (ix ((256 * (MU_pastCount mu)) + x1)) (aside (ix x1)))) (x1 + 1) hf
set_option maxRecDepth 100000 in
set_option maxHeartbeats 4000000 in
theorem B10_push_B13 {k : KT} {z : ZT} {T : TT} {R : RR} {ly : Fin 2 → LL} {rc : RC} {hn : HN} {rp : RP} {tp : TP} {ee : EE} {st : Fin 12 → SS} {w : Nat → Int64} {aside : Nat → Int64} {thought : Nat → Int64} {fresh : Nat → Int64} {th : Int32} {mp : MP} {mf : MF} {mh : MH} {mg : MG} {ou : Nat → Int64} {od : Nat → UInt64} {r : (MU)} (X : XX k strs z RX10 cX10_push 2 none (rmD 0 0 0)) (hQ : zQ z = MQ (zB z) (Qof k (none) (wAll k T R ly rc hn rp tp ee st w aside thought fresh r th mp mf mh mg ou od)) (zA z) (zS z) 0 0 (kA k)) : ∀ (fu : Nat) (mu : MU) (x1 : Int32), f10_push_B13 aside fu mu x1 = some r → VW k z 0 0 (wAll k T R ly rc hn rp tp ee st w aside thought fresh mu th mp mf mh mg ou od) 13 [some (.ref (k.b + (189))), some (.int x1)] [] := by
  intro fu
  induction fu with
  | zero =>
    intro mu x1 hf
    rw [f10_push_B13] at hf
    cases hf
  | succ fu ih =>
    intro mu x1 hf
    rw [f10_push_B13] at hf
    refine r_iload_n X (x := x1) dX10_push_13 rfl ?_
    refine r_sipush X (v := 2560) dX10_push_14 rfl ?_
    refine r_icmp_ge X 42 dX10_push_17 rfl (fun c17 => ?_) (fun c17 => ?_)
    · replace hf := ifT hf c17
      refine r_aload_n X (x := k.b + (189)) dX10_push_42 rfl ?_
      refine r_dup X dX10_push_43 rfl ?_
      refine r_getfield X (v := .int (MU_pastCount mu)) clsX10 flX10_47 (Nat.le_of_ble_eq_true rfl) _ o_model rfl dX10_push_44 ?_
      refine r_iconst X (v := 1) dX10_push_47 rfl ?_
      refine r_isub X dX10_push_48 ?_
      refine r_putfield X (ws1 := wAll k T R ly rc hn rp tp ee st w aside thought fresh (MU_set_pastCount mu ((MU_pastCount mu) - 1)) th mp mf mh mg ou od) clsX10 flX10_47 (Nat.le_of_ble_eq_true rfl) rfl rfl rfl _ o_model (Nat.le_of_ble_eq_true rfl) (s_mu_pastCount ((MU_pastCount mu) - 1)) dX10_push_49 ?_
      refine r_iconst X (v := 0) dX10_push_52 rfl ?_
      refine r_istore_n X [some (.ref (k.b + (189))), some (.int 0)] dX10_push_53 (Nat.le_of_ble_eq_true rfl) rfl ?_
      exact B10_push_B54 X hQ FU (MU_set_pastCount mu ((MU_pastCount mu) - 1)) 0 hf
    · replace hf := ifF hf c17
      refine r_aload_n X (x := k.b + (189)) dX10_push_20 rfl ?_
      refine r_getfield X (v := .ref (k.b + (194))) clsX10 flX10_22 (Nat.le_of_ble_eq_true rfl) _ o_model rfl dX10_push_21 ?_
      refine r_iload_n X (x := x1) dX10_push_24 rfl ?_
      refine r_sipush X (v := 256) dX10_push_25 rfl ?_
      refine r_isub X dX10_push_28 ?_
      refine r_aload_n X (x := k.b + (189)) dX10_push_29 rfl ?_
      refine r_getfield X (v := .ref (k.b + (194))) clsX10 flX10_22 (Nat.le_of_ble_eq_true rfl) _ o_model rfl dX10_push_30 ?_
      refine r_iload_n X (x := x1) dX10_push_33 rfl ?_
      obtain ⟨g34, hf⟩ := gdS hf
      refine r_laload X (f := MU_past mu) _ a_m_past g34 dX10_push_34 ?_
      obtain ⟨g35, hf⟩ := gdS hf
      refine r_lastore X (f := MU_past mu) (ws1 := wAll k T R ly rc hn rp tp ee st w aside thought fresh (MU_set_past mu (vp_updL (MU_past mu) (ix (x1 - 256)) ((MU_past mu) (ix x1)))) th mp mf mh mg ou od) _ a_m_past g35 (s_mu_past (vp_updL (MU_past mu) (ix (x1 - 256)) ((MU_past mu) (ix x1)))) dX10_push_35 ?_
      refine r_iinc X (x := x1) (v := x1 + 1) [some (.ref (k.b + (189))), some (.int (x1 + 1))] dX10_push_36 rfl rfl rfl ?_
      refine r_goto X 13 dX10_push_39 rfl ?_
      exact ih (MU_set_past mu (vp_updL (MU_past mu) (ix (x1 - 256)) ((MU_past mu) (ix x1)))) (x1 + 1) hf
set_option maxRecDepth 100000 in
set_option maxHeartbeats 4000000 in
theorem K10_push {k : KT} {T : TT} {R : RR} {ly : Fin 2 → LL} {rc : RC} {hn : HN} {rp : RP} {tp : TP} {ee : EE} {st : Fin 12 → SS} {w : Nat → Int64} {aside : Nat → Int64} {thought : Nat → Int64} {fresh : Nat → Int64} {mu : MU} {th : Int32} {mp : MP} {mf : MF} {mh : MH} {mg : MG} {ou : Nat → Int64} {od : Nat → UInt64}   {r : (MU)} (hf : f10_push aside mu  = some r) : CT k strs yX10_push cX10_push 2 none (rmD 0 0 0) 0 0 [.ref (k.b + (189))] (wAll k T R ly rc hn rp tp ee st w aside thought fresh mu th mp mf mh mg ou od) (none) (wAll k T R ly rc hn rp tp ee st w aside thought fresh r th mp mf mh mg ou od) := by
  refine CT.of (by decide) (Nat.le_of_ble_eq_true rfl) ?_
  intro z X hQ
  show VW k z 0 0 (wAll k T R ly rc hn rp tp ee st w aside thought fresh mu th mp mf mh mg ou od) 0 [some (.ref (k.b + (189))), none] []
  unfold f10_push at hf
  refine r_aload_n X (x := k.b + (189)) dX10_push_0 rfl ?_
  refine r_getfield X (v := .int (MU_pastCount mu)) clsX10 flX10_47 (Nat.le_of_ble_eq_true rfl) _ o_model rfl dX10_push_1 ?_
  refine r_bipush X (v := 10) dX10_push_4 rfl ?_
  refine r_icmp_ne X 52 dX10_push_6 rfl (fun c6 => ?_) (fun c6 => ?_)
  · replace hf := ifF hf c6
    refine r_iconst X (v := 0) dX10_push_52 rfl ?_
    refine r_istore_n X [some (.ref (k.b + (189))), some (.int 0)] dX10_push_53 (Nat.le_of_ble_eq_true rfl) rfl ?_
    exact B10_push_B54 X hQ FU mu 0 hf
  · replace hf := ifT hf c6
    refine r_sipush X (v := 256) dX10_push_9 rfl ?_
    refine r_istore_n X [some (.ref (k.b + (189))), some (.int 256)] dX10_push_12 (Nat.le_of_ble_eq_true rfl) rfl ?_
    exact B10_push_B13 X hQ FU mu 256 hf
set_option maxRecDepth 100000 in
set_option maxHeartbeats 4000000 in
theorem K10_remember {k : KT} {T : TT} {R : RR} {ly : Fin 2 → LL} {rc : RC} {hn : HN} {rp : RP} {tp : TP} {ee : EE} {st : Fin 12 → SS} {w : Nat → Int64} {aside : Nat → Int64} {thought : Nat → Int64} {fresh : Nat → Int64} {mu : MU} {th : Int32} {mp : MP} {mf : MF} {mh : MH} {mg : MG} {ou : Nat → Int64} {od : Nat → UInt64}   {r : (Nat → Int64) × (MU)} (hf : f10_remember w aside mu  = some r) : CT k strs yX10_remember cX10_remember 1 none (rmD 1 0 0) 0 0 [.ref (k.b + (189))] (wAll k T R ly rc hn rp tp ee st w aside thought fresh mu th mp mf mh mg ou od) (none) (wAll k T R ly rc hn rp tp ee st w r.1 thought fresh r.2 th mp mf mh mg ou od) := by
  refine CT.of (by decide) (Nat.le_of_ble_eq_true rfl) ?_
  intro z X hQ
  show VW k z 0 0 (wAll k T R ly rc hn rp tp ee st w aside thought fresh mu th mp mf mh mg ou od) 0 [some (.ref (k.b + (189)))] []
  unfold f10_remember at hf
  refine r_aload_n X (x := k.b + (189)) dX10_remember_0 rfl ?_
  refine r_getfield X (v := .ref (k.b + (190))) clsX10 flX10_7 (Nat.le_of_ble_eq_true rfl) _ o_model rfl dX10_remember_1 ?_
  refine r_aload_n X (x := k.b + (189)) dX10_remember_4 rfl ?_
  refine r_getfield X (v := .ref (k.b + (191))) clsX10 flX10_13 (Nat.le_of_ble_eq_true rfl) _ o_model rfl dX10_remember_5 ?_
  obtain ⟨u8, h8, hf⟩ := bdS hf
  refine r_callS0 X [.ref (k.b + (190)), .ref (k.b + (191))] [] (K10_copy_w_aside h8) lkX10_50 (by decide) (Nat.le_of_ble_eq_true rfl) rfl rfl (Nat.le_of_ble_eq_true rfl) rfl rfl (Nat.zero_le _) (Nat.zero_le _) dX10_remember_8 ?_
  refine r_aload_n X (x := k.b + (189)) dX10_remember_11 rfl ?_
  obtain ⟨u12, h12, hf⟩ := bdS hf
  refine r_callV0 X [] [] (K10_push h12) lkX10_54 clsX10 rfl _ o_model (by decide) (Nat.le_of_ble_eq_true rfl) rfl rfl (Nat.le_of_ble_eq_true rfl) rfl rfl (Nat.zero_le _) (Nat.zero_le _) dX10_remember_12 ?_
  obtain rfl := Option.some.inj hf
  exact r_return X hQ rfl rfl (Nat.le_of_ble_eq_true rfl) (Nat.le_of_ble_eq_true rfl) dX10_remember_15
set_option maxRecDepth 100000 in
set_option maxHeartbeats 4000000 in
theorem B10_undo_B30 {k : KT} {z : ZT} {T : TT} {R : RR} {ly : Fin 2 → LL} {rc : RC} {hn : HN} {rp : RP} {tp : TP} {ee : EE} {st : Fin 12 → SS} {aside : Nat → Int64} {thought : Nat → Int64} {fresh : Nat → Int64} {mp : MP} {mf : MF} {mh : MH} {mg : MG} {ou : Nat → Int64} {od : Nat → UInt64} {r : Int32 × (Nat → Int64) × (MU) × (Int32)} (X : XX k strs z RX10 cX10_undo 2 (some .int) (rmD 1 0 0)) (hQ : zQ z = MQ (zB z) (Qof k (some (.int r.1)) (wAll k T R ly rc hn rp tp ee st r.2.1 aside thought fresh r.2.2.1 r.2.2.2 mp mf mh mg ou od)) (zA z) (zS z) 0 0 (kA k)) : ∀ (fu : Nat) (w : Nat → Int64) (mu : MU) (th : Int32) (x1 : Int32), f10_undo_B30  fu w mu th x1 = some r → VW k z 0 0 (wAll k T R ly rc hn rp tp ee st w aside thought fresh mu th mp mf mh mg ou od) 30 [some (.ref (k.b + (189))), some (.int x1)] [] := by
  intro fu
  induction fu with
  | zero =>
    intro w mu th x1 hf
    rw [f10_undo_B30] at hf
    cases hf
  | succ fu ih =>
    intro w mu th x1 hf
    rw [f10_undo_B30] at hf
    refine r_iload_n X (x := x1) dX10_undo_30 rfl ?_
    refine r_sipush X (v := 256) dX10_undo_31 rfl ?_
    refine r_icmp_ge X 64 dX10_undo_34 rfl (fun c34 => ?_) (fun c34 => ?_)
    · replace hf := ifT hf c34
      refine r_aload_n X (x := k.b + (189)) dX10_undo_64 rfl ?_
      refine r_getfield X (v := .int (MU_pastCount mu)) clsX10 flX10_47 (Nat.le_of_ble_eq_true rfl) _ o_model rfl dX10_undo_65 ?_
      obtain rfl := Option.some.inj hf
      exact r_ireturn X hQ rfl rfl (Nat.le_of_ble_eq_true rfl) (Nat.le_of_ble_eq_true rfl) dX10_undo_68
    · replace hf := ifF hf c34
      refine r_aload_n X (x := k.b + (189)) dX10_undo_37 rfl ?_
      refine r_getfield X (v := .ref (k.b + (190))) clsX10 flX10_7 (Nat.le_of_ble_eq_true rfl) _ o_model rfl dX10_undo_38 ?_
      refine r_iload_n X (x := x1) dX10_undo_41 rfl ?_
      refine r_aload_n X (x := k.b + (189)) dX10_undo_42 rfl ?_
      refine r_getfield X (v := .ref (k.b + (194))) clsX10 flX10_22 (Nat.le_of_ble_eq_true rfl) _ o_model rfl dX10_undo_43 ?_
      refine r_sipush X (v := 256) dX10_undo_46 rfl ?_
      refine r_aload_n X (x := k.b + (189)) dX10_undo_49 rfl ?_
      refine r_getfield X (v := .int (MU_pastCount mu)) clsX10 flX10_47 (Nat.le_of_ble_eq_true rfl) _ o_model rfl dX10_undo_50 ?_
      refine r_imul X dX10_undo_53 ?_
      refine r_iload_n X (x := x1) dX10_undo_54 rfl ?_
      refine r_iadd X dX10_undo_55 ?_
      obtain ⟨g56, hf⟩ := gdS hf
      refine r_laload X (f := MU_past mu) _ a_m_past g56 dX10_undo_56 ?_
      obtain ⟨g57, hf⟩ := gdS hf
      refine r_lastore X (f := w) (ws1 := wAll k T R ly rc hn rp tp ee st (vp_updL w (ix x1) ((MU_past mu) (ix ((256 * (MU_pastCount mu)) + x1)))) aside thought fresh mu th mp mf mh mg ou od) _ a_m_w g57 (s_w (vp_updL w (ix x1) ((MU_past mu) (ix ((256 * (MU_pastCount mu)) + x1))))) dX10_undo_57 ?_
      refine r_iinc X (x := x1) (v := x1 + 1) [some (.ref (k.b + (189))), some (.int (x1 + 1))] dX10_undo_58 rfl rfl rfl ?_
      refine r_goto X 30 dX10_undo_61 rfl ?_
      exact ih (vp_updL w (ix x1) ((MU_past mu) (ix ((256 * (MU_pastCount mu)) + x1)))) mu th (x1 + 1) hf
set_option maxRecDepth 100000 in
set_option maxHeartbeats 4000000 in
theorem K10_undo {k : KT} {T : TT} {R : RR} {ly : Fin 2 → LL} {rc : RC} {hn : HN} {rp : RP} {tp : TP} {ee : EE} {st : Fin 12 → SS} {w : Nat → Int64} {aside : Nat → Int64} {thought : Nat → Int64} {fresh : Nat → Int64} {mu : MU} {th : Int32} {mp : MP} {mf : MF} {mh : MH} {mg : MG} {ou : Nat → Int64} {od : Nat → UInt64}   {r : Int32 × (Nat → Int64) × (MU) × (Int32)} (hf : f10_undo  w mu th  = some r) : CT k strs yX10_undo cX10_undo 2 (some .int) (rmD 1 0 0) 0 0 [.ref (k.b + (189))] (wAll k T R ly rc hn rp tp ee st w aside thought fresh mu th mp mf mh mg ou od) (some (.int r.1)) (wAll k T R ly rc hn rp tp ee st r.2.1 aside thought fresh r.2.2.1 r.2.2.2 mp mf mh mg ou od) := by
  refine CT.of (by decide) (Nat.le_of_ble_eq_true rfl) ?_
  intro z X hQ
  show VW k z 0 0 (wAll k T R ly rc hn rp tp ee st w aside thought fresh mu th mp mf mh mg ou od) 0 [some (.ref (k.b + (189))), none] []
  unfold f10_undo at hf
  refine r_aload_n X (x := k.b + (189)) dX10_undo_0 rfl ?_
  refine r_getfield X (v := .int (MU_pastCount mu)) clsX10 flX10_47 (Nat.le_of_ble_eq_true rfl) _ o_model rfl dX10_undo_1 ?_
  refine r_if_ne X 13 dX10_undo_4 rfl (fun c4 => ?_) (fun c4 => ?_)
  · replace hf := ifF hf c4
    refine r_aload_n X (x := k.b + (189)) dX10_undo_13 rfl ?_
    refine r_iconst X (v := 0) dX10_undo_14 rfl ?_
    refine r_putfield X (ws1 := wAll k T R ly rc hn rp tp ee st w aside thought fresh mu 0 mp mf mh mg ou od) clsX10 flX10_36 (Nat.le_of_ble_eq_true rfl) rfl rfl rfl _ o_model (Nat.le_of_ble_eq_true rfl) (s_th 0) dX10_undo_15 ?_
    refine r_aload_n X (x := k.b + (189)) dX10_undo_18 rfl ?_
    refine r_dup X dX10_undo_19 rfl ?_
    refine r_getfield X (v := .int (MU_pastCount mu)) clsX10 flX10_47 (Nat.le_of_ble_eq_true rfl) _ o_model rfl dX10_undo_20 ?_
    refine r_iconst X (v := 1) dX10_undo_23 rfl ?_
    refine r_isub X dX10_undo_24 ?_
    refine r_putfield X (ws1 := wAll k T R ly rc hn rp tp ee st w aside thought fresh (MU_set_pastCount mu ((MU_pastCount mu) - 1)) 0 mp mf mh mg ou od) clsX10 flX10_47 (Nat.le_of_ble_eq_true rfl) rfl rfl rfl _ o_model (Nat.le_of_ble_eq_true rfl) (s_mu_pastCount ((MU_pastCount mu) - 1)) dX10_undo_25 ?_
    refine r_iconst X (v := 0) dX10_undo_28 rfl ?_
    refine r_istore_n X [some (.ref (k.b + (189))), some (.int 0)] dX10_undo_29 (Nat.le_of_ble_eq_true rfl) rfl ?_
    exact B10_undo_B30 X hQ FU w (MU_set_pastCount mu ((MU_pastCount mu) - 1)) 0 0 hf
  · replace hf := ifT hf c4
    refine r_aload_n X (x := k.b + (189)) dX10_undo_7 rfl ?_
    refine r_iconst X (v := 1) dX10_undo_8 rfl ?_
    obtain ⟨u9, h9, hf⟩ := bdS hf
    refine r_callV0 X [.int 1] [] (K10_no h9) lkX10_57 clsX10 rfl _ o_model (by decide) (Nat.le_of_ble_eq_true rfl) rfl rfl (Nat.le_of_ble_eq_true rfl) rfl rfl (Nat.zero_le _) (Nat.zero_le _) dX10_undo_9 ?_
    obtain rfl := Option.some.inj hf
    exact r_ireturn X hQ rfl rfl (Nat.le_of_ble_eq_true rfl) (Nat.le_of_ble_eq_true rfl) dX10_undo_12
set_option maxRecDepth 100000 in
set_option maxHeartbeats 4000000 in
theorem K10_undoDepth {k : KT} {T : TT} {R : RR} {ly : Fin 2 → LL} {rc : RC} {hn : HN} {rp : RP} {tp : TP} {ee : EE} {st : Fin 12 → SS} {w : Nat → Int64} {aside : Nat → Int64} {thought : Nat → Int64} {fresh : Nat → Int64} {mu : MU} {th : Int32} {mp : MP} {mf : MF} {mh : MH} {mg : MG} {ou : Nat → Int64} {od : Nat → UInt64}   {r : Int32 × (Int32)} (hf : f10_undoDepth mu th  = some r) : CT k strs yX10_undoDepth cX10_undoDepth 1 (some .int) (rmD 0 0 0) 0 0 [.ref (k.b + (189))] (wAll k T R ly rc hn rp tp ee st w aside thought fresh mu th mp mf mh mg ou od) (some (.int r.1)) (wAll k T R ly rc hn rp tp ee st w aside thought fresh mu r.2 mp mf mh mg ou od) := by
  refine CT.of (by decide) (Nat.le_of_ble_eq_true rfl) ?_
  intro z X hQ
  show VW k z 0 0 (wAll k T R ly rc hn rp tp ee st w aside thought fresh mu th mp mf mh mg ou od) 0 [some (.ref (k.b + (189)))] []
  unfold f10_undoDepth at hf
  refine r_aload_n X (x := k.b + (189)) dX10_undoDepth_0 rfl ?_
  refine r_iconst X (v := 0) dX10_undoDepth_1 rfl ?_
  refine r_putfield X (ws1 := wAll k T R ly rc hn rp tp ee st w aside thought fresh mu 0 mp mf mh mg ou od) clsX10 flX10_36 (Nat.le_of_ble_eq_true rfl) rfl rfl rfl _ o_model (Nat.le_of_ble_eq_true rfl) (s_th 0) dX10_undoDepth_2 ?_
  refine r_aload_n X (x := k.b + (189)) dX10_undoDepth_5 rfl ?_
  refine r_getfield X (v := .int (MU_pastCount mu)) clsX10 flX10_47 (Nat.le_of_ble_eq_true rfl) _ o_model rfl dX10_undoDepth_6 ?_
  obtain rfl := Option.some.inj hf
  exact r_ireturn X hQ rfl rfl (Nat.le_of_ble_eq_true rfl) (Nat.le_of_ble_eq_true rfl) dX10_undoDepth_9
set_option maxRecDepth 100000 in
set_option maxHeartbeats 4000000 in
theorem K10_volume {k : KT} {T : TT} {R : RR} {ly : Fin 2 → LL} {rc : RC} {hn : HN} {rp : RP} {tp : TP} {ee : EE} {st : Fin 12 → SS} {w : Nat → Int64} {aside : Nat → Int64} {thought : Nat → Int64} {fresh : Nat → Int64} {mu : MU} {th : Int32} {mp : MP} {mf : MF} {mh : MH} {mg : MG} {ou : Nat → Int64} {od : Nat → UInt64}  {x1 : Int32} {r : Int64} (hf : f10_volume w  x1 = some r) : CT k strs yX10_volume cX10_volume 2 (some .long) (rmD 1 0 0) 0 0 [.ref (k.b + (189)), .int x1] (wAll k T R ly rc hn rp tp ee st w aside thought fresh mu th mp mf mh mg ou od) (some (.long r)) (wAll k T R ly rc hn rp tp ee st w aside thought fresh mu th mp mf mh mg ou od) := by
  refine CT.of (by decide) (Nat.le_of_ble_eq_true rfl) ?_
  intro z X hQ
  show VW k z 0 0 (wAll k T R ly rc hn rp tp ee st w aside thought fresh mu th mp mf mh mg ou od) 0 [some (.ref (k.b + (189))), some (.int x1)] []
  unfold f10_volume at hf
  refine r_aload_n X (x := k.b + (189)) dX10_volume_0 rfl ?_
  refine r_getfield X (v := .ref (k.b + (190))) clsX10 flX10_7 (Nat.le_of_ble_eq_true rfl) _ o_model rfl dX10_volume_1 ?_
  refine r_iload_n X (x := x1) dX10_volume_4 rfl ?_
  obtain ⟨u5, h5, hf⟩ := bdS hf
  refine r_callS0 X [.int x1] [.ref (k.b + (190))] (K10_chamberAt h5) lkX10_61 (by decide) (Nat.le_of_ble_eq_true rfl) rfl rfl (Nat.le_of_ble_eq_true rfl) rfl rfl (Nat.zero_le _) (Nat.zero_le _) dX10_volume_5 ?_
  refine r_iconst X (v := 0) dX10_volume_8 rfl ?_
  refine r_iadd X dX10_volume_9 ?_
  obtain ⟨g10, hf⟩ := gdS hf
  refine r_laload X (f := w) _ a_m_w g10 dX10_volume_10 ?_
  obtain rfl := Option.some.inj hf
  exact r_lreturn X hQ rfl rfl (Nat.le_of_ble_eq_true rfl) (Nat.le_of_ble_eq_true rfl) dX10_volume_11
set_option maxRecDepth 100000 in
set_option maxHeartbeats 4000000 in
theorem K10_pressure {k : KT} {T : TT} {R : RR} {ly : Fin 2 → LL} {rc : RC} {hn : HN} {rp : RP} {tp : TP} {ee : EE} {st : Fin 12 → SS} {w : Nat → Int64} {aside : Nat → Int64} {thought : Nat → Int64} {fresh : Nat → Int64} {mu : MU} {th : Int32} {mp : MP} {mf : MF} {mh : MH} {mg : MG} {ou : Nat → Int64} {od : Nat → UInt64}  {x1 : Int32} {r : Int64} (hf : f10_pressure w  x1 = some r) : CT k strs yX10_pressure cX10_pressure 2 (some .long) (rmD 2 0 0) 0 0 [.ref (k.b + (189)), .int x1] (wAll k T R ly rc hn rp tp ee st w aside thought fresh mu th mp mf mh mg ou od) (some (.long r)) (wAll k T R ly rc hn rp tp ee st w aside thought fresh mu th mp mf mh mg ou od) := by
  refine CT.of (by decide) (Nat.le_of_ble_eq_true rfl) ?_
  intro z X hQ
  show VW k z 0 0 (wAll k T R ly rc hn rp tp ee st w aside thought fresh mu th mp mf mh mg ou od) 0 [some (.ref (k.b + (189))), some (.int x1)] []
  unfold f10_pressure at hf
  refine r_iload_n X (x := x1) dX10_pressure_0 rfl ?_
  refine r_iconst X (v := (-1)) dX10_pressure_1 rfl ?_
  refine r_icmp_ne X 11 dX10_pressure_2 rfl (fun c2 => ?_) (fun c2 => ?_)
  · replace hf := ifF hf c2
    refine r_aload_n X (x := k.b + (189)) dX10_pressure_11 rfl ?_
    refine r_getfield X (v := .ref (k.b + (190))) clsX10 flX10_7 (Nat.le_of_ble_eq_true rfl) _ o_model rfl dX10_pressure_12 ?_
    refine r_iload_n X (x := x1) dX10_pressure_15 rfl ?_
    obtain ⟨u16, h16, hf⟩ := bdS hf
    refine r_callS0 X [.int x1] [.ref (k.b + (190))] (K10_chamberAt h16) lkX10_61 (by decide) (Nat.le_of_ble_eq_true rfl) rfl rfl (Nat.le_of_ble_eq_true rfl) rfl rfl (Nat.zero_le _) (Nat.zero_le _) dX10_pressure_16 ?_
    refine r_iconst X (v := 3) dX10_pressure_19 rfl ?_
    refine r_iadd X dX10_pressure_20 ?_
    obtain ⟨g21, hf⟩ := gdS hf
    refine r_laload X (f := w) _ a_m_w g21 dX10_pressure_21 ?_
    refine r_aload_n X (x := k.b + (189)) dX10_pressure_22 rfl ?_
    refine r_iload_n X (x := x1) dX10_pressure_23 rfl ?_
    obtain ⟨u24, h24, hf⟩ := bdS hf
    refine r_callV0 X [.int x1] [.long (w (ix (u16 + 3)))] (K10_volume h24) lkX10_64 clsX10 rfl _ o_model (by decide) (Nat.le_of_ble_eq_true rfl) rfl rfl (Nat.le_of_ble_eq_true rfl) rfl rfl (Nat.zero_le _) (Nat.zero_le _) dX10_pressure_24 ?_
    obtain ⟨g27z, hf⟩ := gdS hf
    refine r_ldiv X dX10_pressure_27 g27z ?_
    obtain rfl := Option.some.inj hf
    exact r_lreturn X hQ rfl rfl (Nat.le_of_ble_eq_true rfl) (Nat.le_of_ble_eq_true rfl) dX10_pressure_28
  · replace hf := ifT hf c2
    refine r_ldc2 X (v := 1000000) coX10_43 dX10_pressure_5 ?_
    refine r_goto X 28 dX10_pressure_8 rfl ?_
    obtain rfl := Option.some.inj hf
    exact r_lreturn X hQ rfl rfl (Nat.le_of_ble_eq_true rfl) (Nat.le_of_ble_eq_true rfl) dX10_pressure_28
set_option maxRecDepth 100000 in
set_option maxHeartbeats 4000000 in
theorem K10_ofValve {k : KT} {T : TT} {R : RR} {ly : Fin 2 → LL} {rc : RC} {hn : HN} {rp : RP} {tp : TP} {ee : EE} {st : Fin 12 → SS} {w : Nat → Int64} {aside : Nat → Int64} {thought : Nat → Int64} {fresh : Nat → Int64} {mu : MU} {th : Int32} {mp : MP} {mf : MF} {mh : MH} {mg : MG} {ou : Nat → Int64} {od : Nat → UInt64}  {x1 : Int32} {x2 : Int32} {r : Int32} (hf : f10_ofValve w  x1 x2 = some r) : CT k strs yX10_ofValve cX10_ofValve 3 (some .int) (rmD 1 0 0) 0 0 [.ref (k.b + (189)), .int x1, .int x2] (wAll k T R ly rc hn rp tp ee st w aside thought fresh mu th mp mf mh mg ou od) (some (.int r)) (wAll k T R ly rc hn rp tp ee st w aside thought fresh mu th mp mf mh mg ou od) := by
  refine CT.of (by decide) (Nat.le_of_ble_eq_true rfl) ?_
  intro z X hQ
  show VW k z 0 0 (wAll k T R ly rc hn rp tp ee st w aside thought fresh mu th mp mf mh mg ou od) 0 [some (.ref (k.b + (189))), some (.int x1), some (.int x2)] []
  unfold f10_ofValve at hf
  refine r_aload_n X (x := k.b + (189)) dX10_ofValve_0 rfl ?_
  refine r_getfield X (v := .ref (k.b + (190))) clsX10 flX10_7 (Nat.le_of_ble_eq_true rfl) _ o_model rfl dX10_ofValve_1 ?_
  refine r_iload_n X (x := x1) dX10_ofValve_4 rfl ?_
  obtain ⟨u5, h5, hf⟩ := bdS hf
  refine r_callS0 X [.int x1] [.ref (k.b + (190))] (K10_valveAt h5) lkX10_68 (by decide) (Nat.le_of_ble_eq_true rfl) rfl rfl (Nat.le_of_ble_eq_true rfl) rfl rfl (Nat.zero_le _) (Nat.zero_le _) dX10_ofValve_5 ?_
  refine r_iload_n X (x := x2) dX10_ofValve_8 rfl ?_
  refine r_iadd X dX10_ofValve_9 ?_
  obtain ⟨g10, hf⟩ := gdS hf
  refine r_laload X (f := w) _ a_m_w g10 dX10_ofValve_10 ?_
  refine r_l2i X dX10_ofValve_11 ?_
  obtain rfl := Option.some.inj hf
  exact r_ireturn X hQ rfl rfl (Nat.le_of_ble_eq_true rfl) (Nat.le_of_ble_eq_true rfl) dX10_ofValve_12
set_option maxRecDepth 100000 in
set_option maxHeartbeats 4000000 in
theorem K10_ofPump {k : KT} {T : TT} {R : RR} {ly : Fin 2 → LL} {rc : RC} {hn : HN} {rp : RP} {tp : TP} {ee : EE} {st : Fin 12 → SS} {w : Nat → Int64} {aside : Nat → Int64} {thought : Nat → Int64} {fresh : Nat → Int64} {mu : MU} {th : Int32} {mp : MP} {mf : MF} {mh : MH} {mg : MG} {ou : Nat → Int64} {od : Nat → UInt64}  {x1 : Int32} {x2 : Int32} {r : Int32} (hf : f10_ofPump w  x1 x2 = some r) : CT k strs yX10_ofPump cX10_ofPump 3 (some .int) (rmD 1 0 0) 0 0 [.ref (k.b + (189)), .int x1, .int x2] (wAll k T R ly rc hn rp tp ee st w aside thought fresh mu th mp mf mh mg ou od) (some (.int r)) (wAll k T R ly rc hn rp tp ee st w aside thought fresh mu th mp mf mh mg ou od) := by
  refine CT.of (by decide) (Nat.le_of_ble_eq_true rfl) ?_
  intro z X hQ
  show VW k z 0 0 (wAll k T R ly rc hn rp tp ee st w aside thought fresh mu th mp mf mh mg ou od) 0 [some (.ref (k.b + (189))), some (.int x1), some (.int x2)] []
  unfold f10_ofPump at hf
  refine r_aload_n X (x := k.b + (189)) dX10_ofPump_0 rfl ?_
  refine r_getfield X (v := .ref (k.b + (190))) clsX10 flX10_7 (Nat.le_of_ble_eq_true rfl) _ o_model rfl dX10_ofPump_1 ?_
  refine r_iload_n X (x := x1) dX10_ofPump_4 rfl ?_
  obtain ⟨u5, h5, hf⟩ := bdS hf
  refine r_callS0 X [.int x1] [.ref (k.b + (190))] (K10_pumpAt h5) lkX10_71 (by decide) (Nat.le_of_ble_eq_true rfl) rfl rfl (Nat.le_of_ble_eq_true rfl) rfl rfl (Nat.zero_le _) (Nat.zero_le _) dX10_ofPump_5 ?_
  refine r_iload_n X (x := x2) dX10_ofPump_8 rfl ?_
  refine r_iadd X dX10_ofPump_9 ?_
  obtain ⟨g10, hf⟩ := gdS hf
  refine r_laload X (f := w) _ a_m_w g10 dX10_ofPump_10 ?_
  refine r_l2i X dX10_ofPump_11 ?_
  obtain rfl := Option.some.inj hf
  exact r_ireturn X hQ rfl rfl (Nat.le_of_ble_eq_true rfl) (Nat.le_of_ble_eq_true rfl) dX10_ofPump_12
set_option maxRecDepth 100000 in
set_option maxHeartbeats 4000000 in
theorem K10_difference {k : KT} {T : TT} {R : RR} {ly : Fin 2 → LL} {rc : RC} {hn : HN} {rp : RP} {tp : TP} {ee : EE} {st : Fin 12 → SS} {w : Nat → Int64} {aside : Nat → Int64} {thought : Nat → Int64} {fresh : Nat → Int64} {mu : MU} {th : Int32} {mp : MP} {mf : MF} {mh : MH} {mg : MG} {ou : Nat → Int64} {od : Nat → UInt64}  {x1 : Int32} {r : Int64} (hf : f10_difference w  x1 = some r) : CT k strs yX10_difference cX10_difference 2 (some .long) (rmD 3 0 0) 0 0 [.ref (k.b + (189)), .int x1] (wAll k T R ly rc hn rp tp ee st w aside thought fresh mu th mp mf mh mg ou od) (some (.long r)) (wAll k T R ly rc hn rp tp ee st w aside thought fresh mu th mp mf mh mg ou od) := by
  refine CT.of (by decide) (Nat.le_of_ble_eq_true rfl) ?_
  intro z X hQ
  show VW k z 0 0 (wAll k T R ly rc hn rp tp ee st w aside thought fresh mu th mp mf mh mg ou od) 0 [some (.ref (k.b + (189))), some (.int x1)] []
  unfold f10_difference at hf
  refine r_aload_n X (x := k.b + (189)) dX10_difference_0 rfl ?_
  refine r_aload_n X (x := k.b + (189)) dX10_difference_1 rfl ?_
  refine r_iload_n X (x := x1) dX10_difference_2 rfl ?_
  refine r_iconst X (v := 0) dX10_difference_3 rfl ?_
  obtain ⟨u4, h4, hf⟩ := bdS hf
  refine r_callV0 X [.int x1, .int 0] [.ref (k.b + (189))] (K10_ofValve h4) lkX10_74 clsX10 rfl _ o_model (by decide) (Nat.le_of_ble_eq_true rfl) rfl rfl (Nat.le_of_ble_eq_true rfl) rfl rfl (Nat.zero_le _) (Nat.zero_le _) dX10_difference_4 ?_
  obtain ⟨u7, h7, hf⟩ := bdS hf
  refine r_callV0 X [.int u4] [] (K10_pressure h7) lkX10_78 clsX10 rfl _ o_model (by decide) (Nat.le_of_ble_eq_true rfl) rfl rfl (Nat.le_of_ble_eq_true rfl) rfl rfl (Nat.zero_le _) (Nat.zero_le _) dX10_difference_7 ?_
  refine r_aload_n X (x := k.b + (189)) dX10_difference_10 rfl ?_
  refine r_aload_n X (x := k.b + (189)) dX10_difference_11 rfl ?_
  refine r_iload_n X (x := x1) dX10_difference_12 rfl ?_
  refine r_iconst X (v := 1) dX10_difference_13 rfl ?_
  obtain ⟨u14, h14, hf⟩ := bdS hf
  refine r_callV0 X [.int x1, .int 1] [.ref (k.b + (189)), .long u7] (K10_ofValve h14) lkX10_74 clsX10 rfl _ o_model (by decide) (Nat.le_of_ble_eq_true rfl) rfl rfl (Nat.le_of_ble_eq_true rfl) rfl rfl (Nat.zero_le _) (Nat.zero_le _) dX10_difference_14 ?_
  obtain ⟨u17, h17, hf⟩ := bdS hf
  refine r_callV0 X [.int u14] [.long u7] (K10_pressure h17) lkX10_78 clsX10 rfl _ o_model (by decide) (Nat.le_of_ble_eq_true rfl) rfl rfl (Nat.le_of_ble_eq_true rfl) rfl rfl (Nat.zero_le _) (Nat.zero_le _) dX10_difference_17 ?_
  refine r_lsub X dX10_difference_20 ?_
  refine r_labs X lkX10_81 rfl ⟨(Nat.le_of_ble_eq_true rfl), (Nat.le_of_ble_eq_true rfl)⟩ (Nat.zero_le _) (Nat.zero_le _) dX10_difference_21 ?_
  obtain rfl := Option.some.inj hf
  exact r_lreturn X hQ rfl rfl (Nat.le_of_ble_eq_true rfl) (Nat.le_of_ble_eq_true rfl) dX10_difference_24
set_option maxRecDepth 100000 in
set_option maxHeartbeats 4000000 in
theorem K10_isOpen {k : KT} {T : TT} {R : RR} {ly : Fin 2 → LL} {rc : RC} {hn : HN} {rp : RP} {tp : TP} {ee : EE} {st : Fin 12 → SS} {w : Nat → Int64} {aside : Nat → Int64} {thought : Nat → Int64} {fresh : Nat → Int64} {mu : MU} {th : Int32} {mp : MP} {mf : MF} {mh : MH} {mg : MG} {ou : Nat → Int64} {od : Nat → UInt64}  {x1 : Int32} {r : Int32} (hf : f10_isOpen w  x1 = some r) : CT k strs yX10_isOpen cX10_isOpen 2 (some .boolean) (rmD 2 0 0) 0 0 [.ref (k.b + (189)), .int x1] (wAll k T R ly rc hn rp tp ee st w aside thought fresh mu th mp mf mh mg ou od) (some (.int r)) (wAll k T R ly rc hn rp tp ee st w aside thought fresh mu th mp mf mh mg ou od) := by
  refine CT.of (by decide) (Nat.le_of_ble_eq_true rfl) ?_
  intro z X hQ
  show VW k z 0 0 (wAll k T R ly rc hn rp tp ee st w aside thought fresh mu th mp mf mh mg ou od) 0 [some (.ref (k.b + (189))), some (.int x1)] []
  unfold f10_isOpen at hf
  refine r_aload_n X (x := k.b + (189)) dX10_isOpen_0 rfl ?_
  refine r_iload_n X (x := x1) dX10_isOpen_1 rfl ?_
  refine r_iconst X (v := 4) dX10_isOpen_2 rfl ?_
  obtain ⟨u3, h3, hf⟩ := bdS hf
  refine r_callV0 X [.int x1, .int 4] [] (K10_ofValve h3) lkX10_74 clsX10 rfl _ o_model (by decide) (Nat.le_of_ble_eq_true rfl) rfl rfl (Nat.le_of_ble_eq_true rfl) rfl rfl (Nat.zero_le _) (Nat.zero_le _) dX10_isOpen_3 ?_
  refine r_iconst X (v := 1) dX10_isOpen_6 rfl ?_
  suffices K7 : VW k z 0 0 (wAll k T R ly rc hn rp tp ee st w aside thought fresh mu th mp mf mh mg ou od) 15 [some (.ref (k.b + (189))), some (.int x1)] [.int (if u3 = 1 then (1 : Int32) else (0 : Int32))] by
    refine r_icmp_ne X 14 dX10_isOpen_7 rfl (fun c7 => ?_) (fun c7 => ?_)
    · refine r_iconst X (v := 0) dX10_isOpen_14 rfl ?_
      rw [if_neg c7] at K7
      exact K7
    · refine r_iconst X (v := 1) dX10_isOpen_10 rfl ?_
      refine r_goto X 15 dX10_isOpen_11 rfl ?_
      rw [if_pos c7] at K7
      exact K7
  obtain rfl := Option.some.inj hf
  exact r_zreturn X hQ rfl rfl (Nat.le_of_ble_eq_true rfl) (Nat.le_of_ble_eq_true rfl) nb_if dX10_isOpen_15
set_option maxRecDepth 100000 in
set_option maxHeartbeats 4000000 in
theorem K10_isRunning {k : KT} {T : TT} {R : RR} {ly : Fin 2 → LL} {rc : RC} {hn : HN} {rp : RP} {tp : TP} {ee : EE} {st : Fin 12 → SS} {w : Nat → Int64} {aside : Nat → Int64} {thought : Nat → Int64} {fresh : Nat → Int64} {mu : MU} {th : Int32} {mp : MP} {mf : MF} {mh : MH} {mg : MG} {ou : Nat → Int64} {od : Nat → UInt64}  {x1 : Int32} {r : Int32} (hf : f10_isRunning w  x1 = some r) : CT k strs yX10_isRunning cX10_isRunning 2 (some .boolean) (rmD 2 0 0) 0 0 [.ref (k.b + (189)), .int x1] (wAll k T R ly rc hn rp tp ee st w aside thought fresh mu th mp mf mh mg ou od) (some (.int r)) (wAll k T R ly rc hn rp tp ee st w aside thought fresh mu th mp mf mh mg ou od) := by
  refine CT.of (by decide) (Nat.le_of_ble_eq_true rfl) ?_
  intro z X hQ
  show VW k z 0 0 (wAll k T R ly rc hn rp tp ee st w aside thought fresh mu th mp mf mh mg ou od) 0 [some (.ref (k.b + (189))), some (.int x1)] []
  unfold f10_isRunning at hf
  refine r_aload_n X (x := k.b + (189)) dX10_isRunning_0 rfl ?_
  refine r_iload_n X (x := x1) dX10_isRunning_1 rfl ?_
  refine r_bipush X (v := 6) dX10_isRunning_2 rfl ?_
  obtain ⟨u4, h4, hf⟩ := bdS hf
  refine r_callV0 X [.int x1, .int 6] [] (K10_ofPump h4) lkX10_87 clsX10 rfl _ o_model (by decide) (Nat.le_of_ble_eq_true rfl) rfl rfl (Nat.le_of_ble_eq_true rfl) rfl rfl (Nat.zero_le _) (Nat.zero_le _) dX10_isRunning_4 ?_
  refine r_iconst X (v := 1) dX10_isRunning_7 rfl ?_
  suffices K8 : VW k z 0 0 (wAll k T R ly rc hn rp tp ee st w aside thought fresh mu th mp mf mh mg ou od) 16 [some (.ref (k.b + (189))), some (.int x1)] [.int (if u4 = 1 then (1 : Int32) else (0 : Int32))] by
    refine r_icmp_ne X 15 dX10_isRunning_8 rfl (fun c8 => ?_) (fun c8 => ?_)
    · refine r_iconst X (v := 0) dX10_isRunning_15 rfl ?_
      rw [if_neg c8] at K8
      exact K8
    · refine r_iconst X (v := 1) dX10_isRunning_11 rfl ?_
      refine r_goto X 16 dX10_isRunning_12 rfl ?_
      rw [if_pos c8] at K8
      exact K8
  obtain rfl := Option.some.inj hf
  exact r_zreturn X hQ rfl rfl (Nat.le_of_ble_eq_true rfl) (Nat.le_of_ble_eq_true rfl) nb_if dX10_isRunning_16
set_option maxRecDepth 100000 in
set_option maxHeartbeats 4000000 in
theorem K10_mayJoin {k : KT} {T : TT} {R : RR} {ly : Fin 2 → LL} {rc : RC} {hn : HN} {rp : RP} {tp : TP} {ee : EE} {st : Fin 12 → SS} {w : Nat → Int64} {aside : Nat → Int64} {thought : Nat → Int64} {fresh : Nat → Int64} {mu : MU} {th : Int32} {mp : MP} {mf : MF} {mh : MH} {mg : MG} {ou : Nat → Int64} {od : Nat → UInt64}  {x1 : Int32} {r : Int32} (hf : f10_mayJoin w  x1 = some r) : CT k strs yX10_mayJoin cX10_mayJoin 2 (some .boolean) (rmD 4 0 0) 0 0 [.ref (k.b + (189)), .int x1] (wAll k T R ly rc hn rp tp ee st w aside thought fresh mu th mp mf mh mg ou od) (some (.int r)) (wAll k T R ly rc hn rp tp ee st w aside thought fresh mu th mp mf mh mg ou od) := by
  refine CT.of (by decide) (Nat.le_of_ble_eq_true rfl) ?_
  intro z X hQ
  show VW k z 0 0 (wAll k T R ly rc hn rp tp ee st w aside thought fresh mu th mp mf mh mg ou od) 0 [some (.ref (k.b + (189))), some (.int x1)] []
  unfold f10_mayJoin at hf
  refine r_aload_n X (x := k.b + (189)) dX10_mayJoin_0 rfl ?_
  refine r_iload_n X (x := x1) dX10_mayJoin_1 rfl ?_
  obtain ⟨u2, h2, hf⟩ := bdS hf
  refine r_callV0 X [.int x1] [] (K10_difference h2) lkX10_90 clsX10 rfl _ o_model (by decide) (Nat.le_of_ble_eq_true rfl) rfl rfl (Nat.le_of_ble_eq_true rfl) rfl rfl (Nat.zero_le _) (Nat.zero_le _) dX10_mayJoin_2 ?_
  refine r_aload_n X (x := k.b + (189)) dX10_mayJoin_5 rfl ?_
  refine r_getfield X (v := .ref (k.b + (190))) clsX10 flX10_7 (Nat.le_of_ble_eq_true rfl) _ o_model rfl dX10_mayJoin_6 ?_
  refine r_iload_n X (x := x1) dX10_mayJoin_9 rfl ?_
  obtain ⟨u10, h10, hf⟩ := bdS hf
  refine r_callS0 X [.int x1] [.ref (k.b + (190)), .long u2] (K10_valveAt h10) lkX10_68 (by decide) (Nat.le_of_ble_eq_true rfl) rfl rfl (Nat.le_of_ble_eq_true rfl) rfl rfl (Nat.zero_le _) (Nat.zero_le _) dX10_mayJoin_10 ?_
  refine r_iconst X (v := 3) dX10_mayJoin_13 rfl ?_
  refine r_iadd X dX10_mayJoin_14 ?_
  obtain ⟨g15, hf⟩ := gdS hf
  refine r_laload X (f := w) _ a_m_w g15 dX10_mayJoin_15 ?_
  suffices K16 : VW k z 0 0 (wAll k T R ly rc hn rp tp ee st w aside thought fresh mu th mp mf mh mg ou od) 25 [some (.ref (k.b + (189))), some (.int x1)] [.int (if (w (ix (u10 + 3))) < u2 then (0 : Int32) else (1 : Int32))] by
    refine r_lcmp_gt X 24 dX10_mayJoin_16 dX10_mayJoin_17 rfl (fun c16 => ?_) (fun c16 => ?_)
    · refine r_iconst X (v := 0) dX10_mayJoin_24 rfl ?_
      rw [if_pos c16] at K16
      exact K16
    · refine r_iconst X (v := 1) dX10_mayJoin_20 rfl ?_
      refine r_goto X 25 dX10_mayJoin_21 rfl ?_
      rw [if_neg c16] at K16
      exact K16
  obtain rfl := Option.some.inj hf
  exact r_zreturn X hQ rfl rfl (Nat.le_of_ble_eq_true rfl) (Nat.le_of_ble_eq_true rfl) nb_if0 dX10_mayJoin_25
set_option maxRecDepth 100000 in
set_option maxHeartbeats 4000000 in
theorem K10_isLowEnough {k : KT} {T : TT} {R : RR} {ly : Fin 2 → LL} {rc : RC} {hn : HN} {rp : RP} {tp : TP} {ee : EE} {st : Fin 12 → SS} {w : Nat → Int64} {aside : Nat → Int64} {thought : Nat → Int64} {fresh : Nat → Int64} {mu : MU} {th : Int32} {mp : MP} {mf : MF} {mh : MH} {mg : MG} {ou : Nat → Int64} {od : Nat → UInt64}  {x1 : Int32} {r : Int32} (hf : f10_isLowEnough w  x1 = some r) : CT k strs yX10_isLowEnough cX10_isLowEnough 2 (some .boolean) (rmD 3 0 0) 0 0 [.ref (k.b + (189)), .int x1] (wAll k T R ly rc hn rp tp ee st w aside thought fresh mu th mp mf mh mg ou od) (some (.int r)) (wAll k T R ly rc hn rp tp ee st w aside thought fresh mu th mp mf mh mg ou od) := by
  refine CT.of (by decide) (Nat.le_of_ble_eq_true rfl) ?_
  intro z X hQ
  show VW k z 0 0 (wAll k T R ly rc hn rp tp ee st w aside thought fresh mu th mp mf mh mg ou od) 0 [some (.ref (k.b + (189))), some (.int x1)] []
  unfold f10_isLowEnough at hf
  refine r_aload_n X (x := k.b + (189)) dX10_isLowEnough_0 rfl ?_
  refine r_aload_n X (x := k.b + (189)) dX10_isLowEnough_1 rfl ?_
  refine r_iload_n X (x := x1) dX10_isLowEnough_2 rfl ?_
  refine r_iconst X (v := 0) dX10_isLowEnough_3 rfl ?_
  obtain ⟨u4, h4, hf⟩ := bdS hf
  refine r_callV0 X [.int x1, .int 0] [.ref (k.b + (189))] (K10_ofPump h4) lkX10_87 clsX10 rfl _ o_model (by decide) (Nat.le_of_ble_eq_true rfl) rfl rfl (Nat.le_of_ble_eq_true rfl) rfl rfl (Nat.zero_le _) (Nat.zero_le _) dX10_isLowEnough_4 ?_
  obtain ⟨u7, h7, hf⟩ := bdS hf
  refine r_callV0 X [.int u4] [] (K10_pressure h7) lkX10_78 clsX10 rfl _ o_model (by decide) (Nat.le_of_ble_eq_true rfl) rfl rfl (Nat.le_of_ble_eq_true rfl) rfl rfl (Nat.zero_le _) (Nat.zero_le _) dX10_isLowEnough_7 ?_
  refine r_aload_n X (x := k.b + (189)) dX10_isLowEnough_10 rfl ?_
  refine r_getfield X (v := .ref (k.b + (190))) clsX10 flX10_7 (Nat.le_of_ble_eq_true rfl) _ o_model rfl dX10_isLowEnough_11 ?_
  refine r_iload_n X (x := x1) dX10_isLowEnough_14 rfl ?_
  obtain ⟨u15, h15, hf⟩ := bdS hf
  refine r_callS0 X [.int x1] [.ref (k.b + (190)), .long u7] (K10_pumpAt h15) lkX10_71 (by decide) (Nat.le_of_ble_eq_true rfl) rfl rfl (Nat.le_of_ble_eq_true rfl) rfl rfl (Nat.zero_le _) (Nat.zero_le _) dX10_isLowEnough_15 ?_
  refine r_iconst X (v := 4) dX10_isLowEnough_18 rfl ?_
  refine r_iadd X dX10_isLowEnough_19 ?_
  obtain ⟨g20, hf⟩ := gdS hf
  refine r_laload X (f := w) _ a_m_w g20 dX10_isLowEnough_20 ?_
  suffices K21 : VW k z 0 0 (wAll k T R ly rc hn rp tp ee st w aside thought fresh mu th mp mf mh mg ou od) 30 [some (.ref (k.b + (189))), some (.int x1)] [.int (if (w (ix (u15 + 4))) < u7 then (0 : Int32) else (1 : Int32))] by
    refine r_lcmp_gt X 29 dX10_isLowEnough_21 dX10_isLowEnough_22 rfl (fun c21 => ?_) (fun c21 => ?_)
    · refine r_iconst X (v := 0) dX10_isLowEnough_29 rfl ?_
      rw [if_pos c21] at K21
      exact K21
    · refine r_iconst X (v := 1) dX10_isLowEnough_25 rfl ?_
      refine r_goto X 30 dX10_isLowEnough_26 rfl ?_
      rw [if_neg c21] at K21
      exact K21
  obtain rfl := Option.some.inj hf
  exact r_zreturn X hQ rfl rfl (Nat.le_of_ble_eq_true rfl) (Nat.le_of_ble_eq_true rfl) nb_if0 dX10_isLowEnough_30
set_option maxRecDepth 100000 in
set_option maxHeartbeats 4000000 in
theorem K10_isBacked {k : KT} {T : TT} {R : RR} {ly : Fin 2 → LL} {rc : RC} {hn : HN} {rp : RP} {tp : TP} {ee : EE} {st : Fin 12 → SS} {w : Nat → Int64} {aside : Nat → Int64} {thought : Nat → Int64} {fresh : Nat → Int64} {mu : MU} {th : Int32} {mp : MP} {mf : MF} {mh : MH} {mg : MG} {ou : Nat → Int64} {od : Nat → UInt64}  {x1 : Int32} {r : Int32} (hf : f10_isBacked w  x1 = some r) : CT k strs yX10_isBacked cX10_isBacked 3 (some .boolean) (rmD 3 0 0) 0 0 [.ref (k.b + (189)), .int x1] (wAll k T R ly rc hn rp tp ee st w aside thought fresh mu th mp mf mh mg ou od) (some (.int r)) (wAll k T R ly rc hn rp tp ee st w aside thought fresh mu th mp mf mh mg ou od) := by
  refine CT.of (by decide) (Nat.le_of_ble_eq_true rfl) ?_
  intro z X hQ
  show VW k z 0 0 (wAll k T R ly rc hn rp tp ee st w aside thought fresh mu th mp mf mh mg ou od) 0 [some (.ref (k.b + (189))), some (.int x1), none] []
  unfold f10_isBacked at hf
  refine r_aload_n X (x := k.b + (189)) dX10_isBacked_0 rfl ?_
  refine r_iload_n X (x := x1) dX10_isBacked_1 rfl ?_
  refine r_iconst X (v := 1) dX10_isBacked_2 rfl ?_
  obtain ⟨u3, h3, hf⟩ := bdS hf
  refine r_callV0 X [.int x1, .int 1] [] (K10_ofPump h3) lkX10_87 clsX10 rfl _ o_model (by decide) (Nat.le_of_ble_eq_true rfl) rfl rfl (Nat.le_of_ble_eq_true rfl) rfl rfl (Nat.zero_le _) (Nat.zero_le _) dX10_isBacked_3 ?_
  refine r_istore_n X [some (.ref (k.b + (189))), some (.int x1), some (.int u3)] dX10_isBacked_6 (Nat.le_of_ble_eq_true rfl) rfl ?_
  refine r_iload_n X (x := u3) dX10_isBacked_7 rfl ?_
  refine r_iconst X (v := (-1)) dX10_isBacked_8 rfl ?_
  refine r_icmp_eq X 32 dX10_isBacked_9 rfl (fun c9 => ?_) (fun c9 => ?_)
  · replace hf := ifT hf c9
    refine r_iconst X (v := 1) dX10_isBacked_32 rfl ?_
    refine r_goto X 37 dX10_isBacked_33 rfl ?_
    obtain rfl := Option.some.inj hf
    exact r_zreturn X hQ rfl rfl (Nat.le_of_ble_eq_true rfl) (Nat.le_of_ble_eq_true rfl) rfl dX10_isBacked_37
  · replace hf := ifF hf c9
    refine r_aload_n X (x := k.b + (189)) dX10_isBacked_12 rfl ?_
    refine r_iload_n X (x := u3) dX10_isBacked_13 rfl ?_
    obtain ⟨u14, h14, hf⟩ := bdS hf
    refine r_callV0 X [.int u3] [] (K10_pressure h14) lkX10_78 clsX10 rfl _ o_model (by decide) (Nat.le_of_ble_eq_true rfl) rfl rfl (Nat.le_of_ble_eq_true rfl) rfl rfl (Nat.zero_le _) (Nat.zero_le _) dX10_isBacked_14 ?_
    refine r_aload_n X (x := k.b + (189)) dX10_isBacked_17 rfl ?_
    refine r_getfield X (v := .ref (k.b + (190))) clsX10 flX10_7 (Nat.le_of_ble_eq_true rfl) _ o_model rfl dX10_isBacked_18 ?_
    refine r_iload_n X (x := x1) dX10_isBacked_21 rfl ?_
    obtain ⟨u22, h22, hf⟩ := bdS hf
    refine r_callS0 X [.int x1] [.ref (k.b + (190)), .long u14] (K10_pumpAt h22) lkX10_71 (by decide) (Nat.le_of_ble_eq_true rfl) rfl rfl (Nat.le_of_ble_eq_true rfl) rfl rfl (Nat.zero_le _) (Nat.zero_le _) dX10_isBacked_22 ?_
    refine r_iconst X (v := 5) dX10_isBacked_25 rfl ?_
    refine r_iadd X dX10_isBacked_26 ?_
    obtain ⟨g27, hf⟩ := gdS hf
    refine r_laload X (f := w) _ a_m_w g27 dX10_isBacked_27 ?_
    refine r_lcmp_gt X 36 dX10_isBacked_28 dX10_isBacked_29 rfl (fun c28 => ?_) (fun c28 => ?_)
    · replace hf := ifT hf c28
      refine r_iconst X (v := 0) dX10_isBacked_36 rfl ?_
      obtain rfl := Option.some.inj hf
      exact r_zreturn X hQ rfl rfl (Nat.le_of_ble_eq_true rfl) (Nat.le_of_ble_eq_true rfl) rfl dX10_isBacked_37
    · replace hf := ifF hf c28
      refine r_iconst X (v := 1) dX10_isBacked_32 rfl ?_
      refine r_goto X 37 dX10_isBacked_33 rfl ?_
      obtain rfl := Option.some.inj hf
      exact r_zreturn X hQ rfl rfl (Nat.le_of_ble_eq_true rfl) (Nat.le_of_ble_eq_true rfl) rfl dX10_isBacked_37
set_option maxRecDepth 100000 in
set_option maxHeartbeats 4000000 in
theorem B10_leaks_B5 {k : KT} {z : ZT} {T : TT} {R : RR} {ly : Fin 2 → LL} {rc : RC} {hn : HN} {rp : RP} {tp : TP} {ee : EE} {st : Fin 12 → SS} {w : Nat → Int64} {aside : Nat → Int64} {thought : Nat → Int64} {fresh : Nat → Int64} {mu : MU} {th : Int32} {mp : MP} {mf : MF} {mh : MH} {mg : MG} {ou : Nat → Int64} {od : Nat → UInt64} {r : Int64} (X : XX k strs z RX10 cX10_leaks 5 (some .long) (rmD 1 0 0)) (hQ : zQ z = MQ (zB z) (Qof k (some (.long r)) (wAll k T R ly rc hn rp tp ee st w aside thought fresh mu th mp mf mh mg ou od)) (zA z) (zS z) 0 0 (kA k)) : ∀ (fu : Nat) (x1 : Int32) (x2 : Int64) (x4 : Int32), f10_leaks_B5 w fu x1 x2 x4 = some r → VW k z 0 0 (wAll k T R ly rc hn rp tp ee st w aside thought fresh mu th mp mf mh mg ou od) 5 [some (.ref (k.b + (189))), some (.int x1), some (.long x2), none, some (.int x4)] [] := by
  intro fu
  induction fu with
  | zero =>
    intro x1 x2 x4 hf
    rw [f10_leaks_B5] at hf
    cases hf
  | succ fu ih =>
    intro x1 x2 x4 hf
    rw [f10_leaks_B5] at hf
    refine r_iload X (x := x4) dX10_leaks_5 rfl ?_
    refine r_aload_n X (x := k.b + (189)) dX10_leaks_7 rfl ?_
    refine r_iconst X (v := 3) dX10_leaks_8 rfl ?_
    obtain ⟨u9, h9, hf⟩ := bdS hf
    refine r_callV0 X [.int 3] [.int x4] (K10_many h9) lkX10_93 clsX10 rfl _ o_model (by decide) (Nat.le_of_ble_eq_true rfl) rfl rfl (Nat.le_of_ble_eq_true rfl) rfl rfl (Nat.zero_le _) (Nat.zero_le _) dX10_leaks_9 ?_
    refine r_icmp_ge X 58 dX10_leaks_12 rfl (fun c12 => ?_) (fun c12 => ?_)
    · replace hf := ifT hf c12
      refine r_lload_n X (x := x2) dX10_leaks_58 rfl ?_
      obtain rfl := Option.some.inj hf
      exact r_lreturn X hQ rfl rfl (Nat.le_of_ble_eq_true rfl) (Nat.le_of_ble_eq_true rfl) dX10_leaks_59
    · replace hf := ifF hf c12
      refine r_lload_n X (x := x2) dX10_leaks_15 rfl ?_
      refine r_aload_n X (x := k.b + (189)) dX10_leaks_16 rfl ?_
      refine r_getfield X (v := .ref (k.b + (190))) clsX10 flX10_7 (Nat.le_of_ble_eq_true rfl) _ o_model rfl dX10_leaks_17 ?_
      refine r_iload X (x := x4) dX10_leaks_20 rfl ?_
      obtain ⟨u22, h22, hf⟩ := bdS hf
      refine r_callS0 X [.int x4] [.ref (k.b + (190)), .long x2] (K10_flangeAt h22) lkX10_96 (by decide) (Nat.le_of_ble_eq_true rfl) rfl rfl (Nat.le_of_ble_eq_true rfl) rfl rfl (Nat.zero_le _) (Nat.zero_le _) dX10_leaks_22 ?_
      refine r_iconst X (v := 0) dX10_leaks_25 rfl ?_
      refine r_iadd X dX10_leaks_26 ?_
      obtain ⟨g27, hf⟩ := gdS hf
      refine r_laload X (f := w) _ a_m_w g27 dX10_leaks_27 ?_
      refine r_iload_n X (x := x1) dX10_leaks_28 rfl ?_
      refine r_i2l X dX10_leaks_29 ?_
      refine r_lcmp_ne X 49 dX10_leaks_30 dX10_leaks_31 rfl (fun c30 => ?_) (fun c30 => ?_)
      · replace hf := ifF hf c30
        refine r_lconst X (v := 0) dX10_leaks_49 rfl ?_
        refine r_ladd X dX10_leaks_50 ?_
        refine r_lstore_n X [some (.ref (k.b + (189))), some (.int x1), some (.long (x2 + 0)), none, some (.int x4)] dX10_leaks_51 (Nat.le_of_ble_eq_true rfl) rfl ?_
        refine r_iinc X (x := x4) (v := x4 + 1) [some (.ref (k.b + (189))), some (.int x1), some (.long (x2 + 0)), none, some (.int (x4 + 1))] dX10_leaks_52 rfl rfl rfl ?_
        refine r_goto X 5 dX10_leaks_55 rfl ?_
        exact ih x1 (x2 + 0) (x4 + 1) hf
      · replace hf := ifT hf c30
        refine r_aload_n X (x := k.b + (189)) dX10_leaks_34 rfl ?_
        refine r_getfield X (v := .ref (k.b + (190))) clsX10 flX10_7 (Nat.le_of_ble_eq_true rfl) _ o_model rfl dX10_leaks_35 ?_
        refine r_iload X (x := x4) dX10_leaks_38 rfl ?_
        obtain ⟨u40, h40, hf⟩ := bdS hf
        refine r_callS0 X [.int x4] [.ref (k.b + (190)), .long x2] (K10_flangeAt h40) lkX10_96 (by decide) (Nat.le_of_ble_eq_true rfl) rfl rfl (Nat.le_of_ble_eq_true rfl) rfl rfl (Nat.zero_le _) (Nat.zero_le _) dX10_leaks_40 ?_
        refine r_iconst X (v := 1) dX10_leaks_43 rfl ?_
        refine r_iadd X dX10_leaks_44 ?_
        obtain ⟨g45, hf⟩ := gdS hf
        refine r_laload X (f := w) _ a_m_w g45 dX10_leaks_45 ?_
        refine r_goto X 50 dX10_leaks_46 rfl ?_
        refine r_ladd X dX10_leaks_50 ?_
        refine r_lstore_n X [some (.ref (k.b + (189))), some (.int x1), some (.long (x2 + (w (ix (u40 + 1))))), none, some (.int x4)] dX10_leaks_51 (Nat.le_of_ble_eq_true rfl) rfl ?_
        refine r_iinc X (x := x4) (v := x4 + 1) [some (.ref (k.b + (189))), some (.int x1), some (.long (x2 + (w (ix (u40 + 1))))), none, some (.int (x4 + 1))] dX10_leaks_52 rfl rfl rfl ?_
        refine r_goto X 5 dX10_leaks_55 rfl ?_
        exact ih x1 (x2 + (w (ix (u40 + 1)))) (x4 + 1) hf
set_option maxRecDepth 100000 in
set_option maxHeartbeats 4000000 in
theorem K10_leaks {k : KT} {T : TT} {R : RR} {ly : Fin 2 → LL} {rc : RC} {hn : HN} {rp : RP} {tp : TP} {ee : EE} {st : Fin 12 → SS} {w : Nat → Int64} {aside : Nat → Int64} {thought : Nat → Int64} {fresh : Nat → Int64} {mu : MU} {th : Int32} {mp : MP} {mf : MF} {mh : MH} {mg : MG} {ou : Nat → Int64} {od : Nat → UInt64}  {x1 : Int32} {r : Int64} (hf : f10_leaks w  x1 = some r) : CT k strs yX10_leaks cX10_leaks 5 (some .long) (rmD 1 0 0) 0 0 [.ref (k.b + (189)), .int x1] (wAll k T R ly rc hn rp tp ee st w aside thought fresh mu th mp mf mh mg ou od) (some (.long r)) (wAll k T R ly rc hn rp tp ee st w aside thought fresh mu th mp mf mh mg ou od) := by
  refine CT.of (by decide) (Nat.le_of_ble_eq_true rfl) ?_
  intro z X hQ
  show VW k z 0 0 (wAll k T R ly rc hn rp tp ee st w aside thought fresh mu th mp mf mh mg ou od) 0 [some (.ref (k.b + (189))), some (.int x1), none, none, none] []
  unfold f10_leaks at hf
  refine r_lconst X (v := 0) dX10_leaks_0 rfl ?_
  refine r_lstore_n X [some (.ref (k.b + (189))), some (.int x1), some (.long 0), none, none] dX10_leaks_1 (Nat.le_of_ble_eq_true rfl) rfl ?_
  refine r_iconst X (v := 0) dX10_leaks_2 rfl ?_
  refine r_istore X [some (.ref (k.b + (189))), some (.int x1), some (.long 0), none, some (.int 0)] dX10_leaks_3 (Nat.le_of_ble_eq_true rfl) rfl ?_
  exact B10_leaks_B5 X hQ FU x1 0 0 hf
set_option maxRecDepth 100000 in
set_option maxHeartbeats 4000000 in
theorem B10_tripValves_B2 {k : KT} {z : ZT} {T : TT} {R : RR} {ly : Fin 2 → LL} {rc : RC} {hn : HN} {rp : RP} {tp : TP} {ee : EE} {st : Fin 12 → SS} {aside : Nat → Int64} {thought : Nat → Int64} {fresh : Nat → Int64} {mu : MU} {th : Int32} {mp : MP} {mf : MF} {mh : MH} {mg : MG} {ou : Nat → Int64} {od : Nat → UInt64} {r : (Nat → Int64)} (X : XX k strs z RX10 cX10_tripValves 2 none (rmD 5 0 0)) (hQ : zQ z = MQ (zB z) (Qof k (none) (wAll k T R ly rc hn rp tp ee st r aside thought fresh mu th mp mf mh mg ou od)) (zA z) (zS z) 0 0 (kA k)) : ∀ (fu : Nat) (w : Nat → Int64) (x1 : Int32), f10_tripValves_B2  fu w x1 = some r → VW k z 0 0 (wAll k T R ly rc hn rp tp ee st w aside thought fresh mu th mp mf mh mg ou od) 2 [some (.ref (k.b + (189))), some (.int x1)] [] := by
  intro fu
  induction fu with
  | zero =>
    intro w x1 hf
    rw [f10_tripValves_B2] at hf
    cases hf
  | succ fu ih =>
    intro w x1 hf
    rw [f10_tripValves_B2] at hf
    refine r_iload_n X (x := x1) dX10_tripValves_2 rfl ?_
    refine r_aload_n X (x := k.b + (189)) dX10_tripValves_3 rfl ?_
    refine r_iconst X (v := 2) dX10_tripValves_4 rfl ?_
    obtain ⟨u5, h5, hf⟩ := bdS hf
    refine r_callV0 X [.int 2] [.int x1] (K10_many h5) lkX10_93 clsX10 rfl _ o_model (by decide) (Nat.le_of_ble_eq_true rfl) rfl rfl (Nat.le_of_ble_eq_true rfl) rfl rfl (Nat.zero_le _) (Nat.zero_le _) dX10_tripValves_5 ?_
    refine r_icmp_ge X 73 dX10_tripValves_8 rfl (fun c8 => ?_) (fun c8 => ?_)
    · replace hf := ifT hf c8
      obtain rfl := Option.some.inj hf
      exact r_return X hQ rfl rfl (Nat.le_of_ble_eq_true rfl) (Nat.le_of_ble_eq_true rfl) dX10_tripValves_73
    · replace hf := ifF hf c8
      refine r_aload_n X (x := k.b + (189)) dX10_tripValves_11 rfl ?_
      refine r_iload_n X (x := x1) dX10_tripValves_12 rfl ?_
      obtain ⟨u13, h13, hf⟩ := bdS hf
      refine r_callV0 X [.int x1] [] (K10_isOpen h13) lkX10_99 clsX10 rfl _ o_model (by decide) (Nat.le_of_ble_eq_true rfl) rfl rfl (Nat.le_of_ble_eq_true rfl) rfl rfl (Nat.zero_le _) (Nat.zero_le _) dX10_tripValves_13 ?_
      refine r_if_eq X 67 dX10_tripValves_16 rfl (fun c16 => ?_) (fun c16 => ?_)
      · replace hf := ifT hf c16
        refine r_iinc X (x := x1) (v := x1 + 1) [some (.ref (k.b + (189))), some (.int (x1 + 1))] dX10_tripValves_67 rfl rfl rfl ?_
        refine r_goto X 2 dX10_tripValves_70 rfl ?_
        exact ih w (x1 + 1) hf
      · replace hf := ifF hf c16
        refine r_aload_n X (x := k.b + (189)) dX10_tripValves_19 rfl ?_
        refine r_iload_n X (x := x1) dX10_tripValves_20 rfl ?_
        obtain ⟨u21, h21, hf⟩ := bdS hf
        refine r_callV0 X [.int x1] [] (K10_mayJoin h21) lkX10_103 clsX10 rfl _ o_model (by decide) (Nat.le_of_ble_eq_true rfl) rfl rfl (Nat.le_of_ble_eq_true rfl) rfl rfl (Nat.zero_le _) (Nat.zero_le _) dX10_tripValves_21 ?_
        refine r_if_eq X 30 dX10_tripValves_24 rfl (fun c24 => ?_) (fun c24 => ?_)
        · replace hf := ifT hf c24
          refine r_aload_n X (x := k.b + (189)) dX10_tripValves_30 rfl ?_
          refine r_getfield X (v := .ref (k.b + (190))) clsX10 flX10_7 (Nat.le_of_ble_eq_true rfl) _ o_model rfl dX10_tripValves_31 ?_
          refine r_iload_n X (x := x1) dX10_tripValves_34 rfl ?_
          obtain ⟨u35, h35, hf⟩ := bdS hf
          refine r_callS0 X [.int x1] [.ref (k.b + (190))] (K10_valveAt h35) lkX10_68 (by decide) (Nat.le_of_ble_eq_true rfl) rfl rfl (Nat.le_of_ble_eq_true rfl) rfl rfl (Nat.zero_le _) (Nat.zero_le _) dX10_tripValves_35 ?_
          refine r_iconst X (v := 4) dX10_tripValves_38 rfl ?_
          refine r_iadd X dX10_tripValves_39 ?_
          refine r_lconst X (v := 0) dX10_tripValves_40 rfl ?_
          obtain ⟨g41, hf⟩ := gdS hf
          refine r_lastore X (f := w) (ws1 := wAll k T R ly rc hn rp tp ee st (vp_updL w (ix (u35 + 4)) 0) aside thought fresh mu th mp mf mh mg ou od) _ a_m_w g41 (s_w (vp_updL w (ix (u35 + 4)) 0)) dX10_tripValves_41 ?_
          refine r_aload_n X (x := k.b + (189)) dX10_tripValves_42 rfl ?_
          refine r_getfield X (v := .ref (k.b + (190))) clsX10 flX10_7 (Nat.le_of_ble_eq_true rfl) _ o_model rfl dX10_tripValves_43 ?_
          refine r_iload_n X (x := x1) dX10_tripValves_46 rfl ?_
          obtain ⟨u47, h47, hf⟩ := bdS hf
          refine r_callS0 X [.int x1] [.ref (k.b + (190))] (K10_valveAt h47) lkX10_68 (by decide) (Nat.le_of_ble_eq_true rfl) rfl rfl (Nat.le_of_ble_eq_true rfl) rfl rfl (Nat.zero_le _) (Nat.zero_le _) dX10_tripValves_47 ?_
          refine r_iconst X (v := 5) dX10_tripValves_50 rfl ?_
          refine r_iadd X dX10_tripValves_51 ?_
          refine r_dup2 X dX10_tripValves_52 rfl rfl ?_
          obtain ⟨g53, hf⟩ := gdS hf
          refine r_laload X (f := vp_updL w (ix (u35 + 4)) 0) _ a_m_w g53 dX10_tripValves_53 ?_
          refine r_lconst X (v := 1) dX10_tripValves_54 rfl ?_
          refine r_ladd X dX10_tripValves_55 ?_
          refine r_lastore X (f := vp_updL w (ix (u35 + 4)) 0) (ws1 := wAll k T R ly rc hn rp tp ee st (vp_updL (vp_updL w (ix (u35 + 4)) 0) (ix (u47 + 5)) (((vp_updL w (ix (u35 + 4)) 0) (ix (u47 + 5))) + 1)) aside thought fresh mu th mp mf mh mg ou od) _ a_m_w g53 (s_w (vp_updL (vp_updL w (ix (u35 + 4)) 0) (ix (u47 + 5)) (((vp_updL w (ix (u35 + 4)) 0) (ix (u47 + 5))) + 1))) dX10_tripValves_56 ?_
          refine r_aload_n X (x := k.b + (189)) dX10_tripValves_57 rfl ?_
          refine r_getfield X (v := .ref (k.b + (190))) clsX10 flX10_7 (Nat.le_of_ble_eq_true rfl) _ o_model rfl dX10_tripValves_58 ?_
          refine r_iconst X (v := 5) dX10_tripValves_61 rfl ?_
          refine r_dup2 X dX10_tripValves_62 rfl rfl ?_
          refine r_laload X (f := vp_updL (vp_updL w (ix (u35 + 4)) 0) (ix (u47 + 5)) (((vp_updL w (ix (u35 + 4)) 0) (ix (u47 + 5))) + 1)) _ a_m_w (by decide) dX10_tripValves_63 ?_
          refine r_lconst X (v := 1) dX10_tripValves_64 rfl ?_
          refine r_ladd X dX10_tripValves_65 ?_
          refine r_lastore X (f := vp_updL (vp_updL w (ix (u35 + 4)) 0) (ix (u47 + 5)) (((vp_updL w (ix (u35 + 4)) 0) (ix (u47 + 5))) + 1)) (ws1 := wAll k T R ly rc hn rp tp ee st (vp_updL (vp_updL (vp_updL w (ix (u35 + 4)) 0) (ix (u47 + 5)) (((vp_updL w (ix (u35 + 4)) 0) (ix (u47 + 5))) + 1)) (ix 5) (((vp_updL (vp_updL w (ix (u35 + 4)) 0) (ix (u47 + 5)) (((vp_updL w (ix (u35 + 4)) 0) (ix (u47 + 5))) + 1)) (ix 5)) + 1)) aside thought fresh mu th mp mf mh mg ou od) _ a_m_w (by decide) (s_w (vp_updL (vp_updL (vp_updL w (ix (u35 + 4)) 0) (ix (u47 + 5)) (((vp_updL w (ix (u35 + 4)) 0) (ix (u47 + 5))) + 1)) (ix 5) (((vp_updL (vp_updL w (ix (u35 + 4)) 0) (ix (u47 + 5)) (((vp_updL w (ix (u35 + 4)) 0) (ix (u47 + 5))) + 1)) (ix 5)) + 1))) dX10_tripValves_66 ?_
          refine r_iinc X (x := x1) (v := x1 + 1) [some (.ref (k.b + (189))), some (.int (x1 + 1))] dX10_tripValves_67 rfl rfl rfl ?_
          refine r_goto X 2 dX10_tripValves_70 rfl ?_
          exact ih (vp_updL (vp_updL (vp_updL w (ix (u35 + 4)) 0) (ix (u47 + 5)) (((vp_updL w (ix (u35 + 4)) 0) (ix (u47 + 5))) + 1)) (ix 5) (((vp_updL (vp_updL w (ix (u35 + 4)) 0) (ix (u47 + 5)) (((vp_updL w (ix (u35 + 4)) 0) (ix (u47 + 5))) + 1)) (ix 5)) + 1)) (x1 + 1) hf
        · replace hf := ifF hf c24
          refine r_goto X 67 dX10_tripValves_27 rfl ?_
          refine r_iinc X (x := x1) (v := x1 + 1) [some (.ref (k.b + (189))), some (.int (x1 + 1))] dX10_tripValves_67 rfl rfl rfl ?_
          refine r_goto X 2 dX10_tripValves_70 rfl ?_
          exact ih w (x1 + 1) hf
set_option maxRecDepth 100000 in
set_option maxHeartbeats 4000000 in
theorem K10_tripValves {k : KT} {T : TT} {R : RR} {ly : Fin 2 → LL} {rc : RC} {hn : HN} {rp : RP} {tp : TP} {ee : EE} {st : Fin 12 → SS} {w : Nat → Int64} {aside : Nat → Int64} {thought : Nat → Int64} {fresh : Nat → Int64} {mu : MU} {th : Int32} {mp : MP} {mf : MF} {mh : MH} {mg : MG} {ou : Nat → Int64} {od : Nat → UInt64}   {r : (Nat → Int64)} (hf : f10_tripValves  w  = some r) : CT k strs yX10_tripValves cX10_tripValves 2 none (rmD 5 0 0) 0 0 [.ref (k.b + (189))] (wAll k T R ly rc hn rp tp ee st w aside thought fresh mu th mp mf mh mg ou od) (none) (wAll k T R ly rc hn rp tp ee st r aside thought fresh mu th mp mf mh mg ou od) := by
  refine CT.of (by decide) (Nat.le_of_ble_eq_true rfl) ?_
  intro z X hQ
  show VW k z 0 0 (wAll k T R ly rc hn rp tp ee st w aside thought fresh mu th mp mf mh mg ou od) 0 [some (.ref (k.b + (189))), none] []
  unfold f10_tripValves at hf
  refine r_iconst X (v := 0) dX10_tripValves_0 rfl ?_
  refine r_istore_n X [some (.ref (k.b + (189))), some (.int 0)] dX10_tripValves_1 (Nat.le_of_ble_eq_true rfl) rfl ?_
  exact B10_tripValves_B2 X hQ FU w 0 hf
set_option maxRecDepth 100000 in
set_option maxHeartbeats 4000000 in
theorem B10_getGas_B73 {k : KT} {z : ZT} {T : TT} {R : RR} {ly : Fin 2 → LL} {rc : RC} {hn : HN} {rp : RP} {tp : TP} {ee : EE} {st : Fin 12 → SS} {aside : Nat → Int64} {thought : Nat → Int64} {fresh : Nat → Int64} {mu : MU} {th : Int32} {mp : MP} {mf : MF} {mh : MH} {mg : MG} {ou : Nat → Int64} {od : Nat → UInt64} {r : (Nat → Int64)} (X : XX k strs z RX10 cX10_getGas 5 none (rmD 3 0 0)) (hQ : zQ z = MQ (zB z) (Qof k (none) (wAll k T R ly rc hn rp tp ee st r aside thought fresh mu th mp mf mh mg ou od)) (zA z) (zS z) 0 0 (kA k)) (rec : (Nat → Int64) → Int32 → Option ((Nat → Int64))) (hrec : ∀ (w : Nat → Int64) (x1 : Int32), rec w x1 = some r → VW k z 0 0 (wAll k T R ly rc hn rp tp ee st w aside thought fresh mu th mp mf mh mg ou od) 2 [some (.ref (k.b + (189))), some (.int x1), none, none, none] []) (w : Nat → Int64) (x1 : Int32) (x2 : Int32) (hf : f10_getGas_B73  rec w x1 x2 = some r) : VW k z 0 0 (wAll k T R ly rc hn rp tp ee st w aside thought fresh mu th mp mf mh mg ou od) 73 [some (.ref (k.b + (189))), some (.int x1), some (.int x2), none, none] [] := by
  unfold f10_getGas_B73 at hf
  refine r_aload_n X (x := k.b + (189)) dX10_getGas_73 rfl ?_
  refine r_getfield X (v := .ref (k.b + (190))) clsX10 flX10_7 (Nat.le_of_ble_eq_true rfl) _ o_model rfl dX10_getGas_74 ?_
  refine r_iload_n X (x := x2) dX10_getGas_77 rfl ?_
  refine r_iconst X (v := 2) dX10_getGas_78 rfl ?_
  refine r_iadd X dX10_getGas_79 ?_
  obtain ⟨g80, hf⟩ := gdS hf
  refine r_laload X (f := w) _ a_m_w g80 dX10_getGas_80 ?_
  refine r_lconst X (v := 0) dX10_getGas_81 rfl ?_
  refine r_lcmp_le X 114 dX10_getGas_82 dX10_getGas_83 rfl (fun c82 => ?_) (fun c82 => ?_)
  · replace hf := ifT hf c82
    refine r_iinc X (x := x1) (v := x1 + 1) [some (.ref (k.b + (189))), some (.int (x1 + 1)), some (.int x2), none, none] dX10_getGas_114 rfl rfl rfl ?_
    refine r_goto X 2 dX10_getGas_117 rfl ?_
    refine VW.msk [true, true, false, false, false] rfl (lo' := [some (.ref (k.b + (189))), some (.int (x1 + 1)), none, none, none]) rfl ?_
    exact hrec w (x1 + 1) hf
  · replace hf := ifF hf c82
    refine r_aload_n X (x := k.b + (189)) dX10_getGas_86 rfl ?_
    refine r_getfield X (v := .ref (k.b + (190))) clsX10 flX10_7 (Nat.le_of_ble_eq_true rfl) _ o_model rfl dX10_getGas_87 ?_
    refine r_iload_n X (x := x2) dX10_getGas_90 rfl ?_
    refine r_iconst X (v := 1) dX10_getGas_91 rfl ?_
    refine r_iadd X dX10_getGas_92 ?_
    refine r_dup2 X dX10_getGas_93 rfl rfl ?_
    obtain ⟨g94, hf⟩ := gdS hf
    refine r_laload X (f := w) _ a_m_w g94 dX10_getGas_94 ?_
    refine r_aload_n X (x := k.b + (189)) dX10_getGas_95 rfl ?_
    refine r_getfield X (v := .ref (k.b + (190))) clsX10 flX10_7 (Nat.le_of_ble_eq_true rfl) _ o_model rfl dX10_getGas_96 ?_
    refine r_iload_n X (x := x2) dX10_getGas_99 rfl ?_
    refine r_iconst X (v := 1) dX10_getGas_100 rfl ?_
    refine r_iadd X dX10_getGas_101 ?_
    refine r_laload X (f := w) _ a_m_w g94 dX10_getGas_102 ?_
    refine r_aload_n X (x := k.b + (189)) dX10_getGas_103 rfl ?_
    refine r_getfield X (v := .ref (k.b + (190))) clsX10 flX10_7 (Nat.le_of_ble_eq_true rfl) _ o_model rfl dX10_getGas_104 ?_
    refine r_iload_n X (x := x2) dX10_getGas_107 rfl ?_
    refine r_iconst X (v := 2) dX10_getGas_108 rfl ?_
    refine r_iadd X dX10_getGas_109 ?_
    refine r_laload X (f := w) _ a_m_w g80 dX10_getGas_110 ?_
    obtain ⟨g111z, hf⟩ := gdS hf
    refine r_ldiv X dX10_getGas_111 g111z ?_
    refine r_lsub X dX10_getGas_112 ?_
    refine r_lastore X (f := w) (ws1 := wAll k T R ly rc hn rp tp ee st (vp_updL w (ix (x2 + 1)) ((w (ix (x2 + 1))) - ((w (ix (x2 + 1))) / (w (ix (x2 + 2)))))) aside thought fresh mu th mp mf mh mg ou od) _ a_m_w g94 (s_w (vp_updL w (ix (x2 + 1)) ((w (ix (x2 + 1))) - ((w (ix (x2 + 1))) / (w (ix (x2 + 2))))))) dX10_getGas_113 ?_
    refine r_iinc X (x := x1) (v := x1 + 1) [some (.ref (k.b + (189))), some (.int (x1 + 1)), some (.int x2), none, none] dX10_getGas_114 rfl rfl rfl ?_
    refine r_goto X 2 dX10_getGas_117 rfl ?_
    refine VW.msk [true, true, false, false, false] rfl (lo' := [some (.ref (k.b + (189))), some (.int (x1 + 1)), none, none, none]) rfl ?_
    exact hrec (vp_updL w (ix (x2 + 1)) ((w (ix (x2 + 1))) - ((w (ix (x2 + 1))) / (w (ix (x2 + 2)))))) (x1 + 1) hf
set_option maxRecDepth 100000 in
set_option maxHeartbeats 4000000 in
theorem B10_getGas_B49 {k : KT} {z : ZT} {T : TT} {R : RR} {ly : Fin 2 → LL} {rc : RC} {hn : HN} {rp : RP} {tp : TP} {ee : EE} {st : Fin 12 → SS} {aside : Nat → Int64} {thought : Nat → Int64} {fresh : Nat → Int64} {mu : MU} {th : Int32} {mp : MP} {mf : MF} {mh : MH} {mg : MG} {ou : Nat → Int64} {od : Nat → UInt64} {r : (Nat → Int64)} (X : XX k strs z RX10 cX10_getGas 5 none (rmD 3 0 0)) (hQ : zQ z = MQ (zB z) (Qof k (none) (wAll k T R ly rc hn rp tp ee st r aside thought fresh mu th mp mf mh mg ou od)) (zA z) (zS z) 0 0 (kA k)) (rec : (Nat → Int64) → Int32 → Option ((Nat → Int64))) (hrec : ∀ (w : Nat → Int64) (x1 : Int32), rec w x1 = some r → VW k z 0 0 (wAll k T R ly rc hn rp tp ee st w aside thought fresh mu th mp mf mh mg ou od) 2 [some (.ref (k.b + (189))), some (.int x1), none, none, none] []) (w : Nat → Int64) (x1 : Int32) (x2 : Int32) (x3 : Int64) (hf : f10_getGas_B49  rec w x1 x2 x3 = some r) : VW k z 0 0 (wAll k T R ly rc hn rp tp ee st w aside thought fresh mu th mp mf mh mg ou od) 49 [some (.ref (k.b + (189))), some (.int x1), some (.int x2), some (.long x3), none] [] := by
  unfold f10_getGas_B49 at hf
  refine r_lload_n X (x := x3) dX10_getGas_49 rfl ?_
  refine r_ldc2 X (v := 1000000) coX10_43 dX10_getGas_50 ?_
  refine r_lcmp_ge X 73 dX10_getGas_53 dX10_getGas_54 rfl (fun c53 => ?_) (fun c53 => ?_)
  · replace hf := ifT hf c53
    refine VW.msk [true, true, true, false, false] rfl (lo' := [some (.ref (k.b + (189))), some (.int x1), some (.int x2), none, none]) rfl ?_
    exact B10_getGas_B73 X hQ rec hrec w x1 x2 hf
  · replace hf := ifF hf c53
    refine r_aload_n X (x := k.b + (189)) dX10_getGas_57 rfl ?_
    refine r_getfield X (v := .ref (k.b + (190))) clsX10 flX10_7 (Nat.le_of_ble_eq_true rfl) _ o_model rfl dX10_getGas_58 ?_
    refine r_iload_n X (x := x2) dX10_getGas_61 rfl ?_
    refine r_iconst X (v := 3) dX10_getGas_62 rfl ?_
    refine r_iadd X dX10_getGas_63 ?_
    refine r_dup2 X dX10_getGas_64 rfl rfl ?_
    obtain ⟨g65, hf⟩ := gdS hf
    refine r_laload X (f := w) _ a_m_w g65 dX10_getGas_65 ?_
    refine r_aload_n X (x := k.b + (189)) dX10_getGas_66 rfl ?_
    refine r_iload_n X (x := x1) dX10_getGas_67 rfl ?_
    obtain ⟨u68, h68, hf⟩ := bdS hf
    refine r_callV0 X [.int x1] [.long (w (ix (x2 + 3))), .int (x2 + 3), .ref (k.b + (190))] (K10_leaks h68) lkX10_108 clsX10 rfl _ o_model (by decide) (Nat.le_of_ble_eq_true rfl) rfl rfl (Nat.le_of_ble_eq_true rfl) rfl rfl (Nat.zero_le _) (Nat.zero_le _) dX10_getGas_68 ?_
    refine r_ladd X dX10_getGas_71 ?_
    refine r_lastore X (f := w) (ws1 := wAll k T R ly rc hn rp tp ee st (vp_updL w (ix (x2 + 3)) ((w (ix (x2 + 3))) + u68)) aside thought fresh mu th mp mf mh mg ou od) _ a_m_w g65 (s_w (vp_updL w (ix (x2 + 3)) ((w (ix (x2 + 3))) + u68))) dX10_getGas_72 ?_
    refine VW.msk [true, true, true, false, false] rfl (lo' := [some (.ref (k.b + (189))), some (.int x1), some (.int x2), none, none]) rfl ?_
    exact B10_getGas_B73 X hQ rec hrec (vp_updL w (ix (x2 + 3)) ((w (ix (x2 + 3))) + u68)) x1 x2 hf
set_option maxRecDepth 100000 in
set_option maxHeartbeats 4000000 in
theorem B10_getGas_B2 {k : KT} {z : ZT} {T : TT} {R : RR} {ly : Fin 2 → LL} {rc : RC} {hn : HN} {rp : RP} {tp : TP} {ee : EE} {st : Fin 12 → SS} {aside : Nat → Int64} {thought : Nat → Int64} {fresh : Nat → Int64} {mu : MU} {th : Int32} {mp : MP} {mf : MF} {mh : MH} {mg : MG} {ou : Nat → Int64} {od : Nat → UInt64} {r : (Nat → Int64)} (X : XX k strs z RX10 cX10_getGas 5 none (rmD 3 0 0)) (hQ : zQ z = MQ (zB z) (Qof k (none) (wAll k T R ly rc hn rp tp ee st r aside thought fresh mu th mp mf mh mg ou od)) (zA z) (zS z) 0 0 (kA k)) : ∀ (fu : Nat) (w : Nat → Int64) (x1 : Int32), f10_getGas_B2  fu w x1 = some r → VW k z 0 0 (wAll k T R ly rc hn rp tp ee st w aside thought fresh mu th mp mf mh mg ou od) 2 [some (.ref (k.b + (189))), some (.int x1), none, none, none] [] := by
  intro fu
  induction fu with
  | zero =>
    intro w x1 hf
    rw [f10_getGas_B2] at hf
    cases hf
  | succ fu ih =>
    intro w x1 hf
    rw [f10_getGas_B2] at hf
    refine r_iload_n X (x := x1) dX10_getGas_2 rfl ?_
    refine r_aload_n X (x := k.b + (189)) dX10_getGas_3 rfl ?_
    refine r_iconst X (v := 0) dX10_getGas_4 rfl ?_
    obtain ⟨u5, h5, hf⟩ := bdS hf
    refine r_callV0 X [.int 0] [.int x1] (K10_many h5) lkX10_93 clsX10 rfl _ o_model (by decide) (Nat.le_of_ble_eq_true rfl) rfl rfl (Nat.le_of_ble_eq_true rfl) rfl rfl (Nat.zero_le _) (Nat.zero_le _) dX10_getGas_5 ?_
    refine r_icmp_ge X 120 dX10_getGas_8 rfl (fun c8 => ?_) (fun c8 => ?_)
    · replace hf := ifT hf c8
      obtain rfl := Option.some.inj hf
      exact r_return X hQ rfl rfl (Nat.le_of_ble_eq_true rfl) (Nat.le_of_ble_eq_true rfl) dX10_getGas_120
    · replace hf := ifF hf c8
      refine r_iload_n X (x := x1) dX10_getGas_11 rfl ?_
      obtain ⟨u12, h12, hf⟩ := bdS hf
      refine r_callS0 X [.int x1] [] (K10_chamberAt h12) lkX10_61 (by decide) (Nat.le_of_ble_eq_true rfl) rfl rfl (Nat.le_of_ble_eq_true rfl) rfl rfl (Nat.zero_le _) (Nat.zero_le _) dX10_getGas_12 ?_
      refine r_istore_n X [some (.ref (k.b + (189))), some (.int x1), some (.int u12), none, none] dX10_getGas_15 (Nat.le_of_ble_eq_true rfl) rfl ?_
      refine r_aload_n X (x := k.b + (189)) dX10_getGas_16 rfl ?_
      refine r_iload_n X (x := x1) dX10_getGas_17 rfl ?_
      obtain ⟨u18, h18, hf⟩ := bdS hf
      refine r_callV0 X [.int x1] [] (K10_pressure h18) lkX10_78 clsX10 rfl _ o_model (by decide) (Nat.le_of_ble_eq_true rfl) rfl rfl (Nat.le_of_ble_eq_true rfl) rfl rfl (Nat.zero_le _) (Nat.zero_le _) dX10_getGas_18 ?_
      refine r_lstore_n X [some (.ref (k.b + (189))), some (.int x1), some (.int u12), some (.long u18), none] dX10_getGas_21 (Nat.le_of_ble_eq_true rfl) rfl ?_
      refine r_lload_n X (x := u18) dX10_getGas_22 rfl ?_
      refine r_ldc2 X (v := 1000000000) coX10_106 dX10_getGas_23 ?_
      refine r_lcmp_ge X 49 dX10_getGas_26 dX10_getGas_27 rfl (fun c26 => ?_) (fun c26 => ?_)
      · replace hf := ifT hf c26
        exact B10_getGas_B49 X hQ (f10_getGas_B2 fu) ih w x1 u12 u18 hf
      · replace hf := ifF hf c26
        refine r_aload_n X (x := k.b + (189)) dX10_getGas_30 rfl ?_
        refine r_getfield X (v := .ref (k.b + (190))) clsX10 flX10_7 (Nat.le_of_ble_eq_true rfl) _ o_model rfl dX10_getGas_31 ?_
        refine r_iload_n X (x := u12) dX10_getGas_34 rfl ?_
        refine r_iconst X (v := 3) dX10_getGas_35 rfl ?_
        refine r_iadd X dX10_getGas_36 ?_
        refine r_dup2 X dX10_getGas_37 rfl rfl ?_
        obtain ⟨g38, hf⟩ := gdS hf
        refine r_laload X (f := w) _ a_m_w g38 dX10_getGas_38 ?_
        refine r_aload_n X (x := k.b + (189)) dX10_getGas_39 rfl ?_
        refine r_getfield X (v := .ref (k.b + (190))) clsX10 flX10_7 (Nat.le_of_ble_eq_true rfl) _ o_model rfl dX10_getGas_40 ?_
        refine r_iload_n X (x := u12) dX10_getGas_43 rfl ?_
        refine r_iconst X (v := 1) dX10_getGas_44 rfl ?_
        refine r_iadd X dX10_getGas_45 ?_
        obtain ⟨g46, hf⟩ := gdS hf
        refine r_laload X (f := w) _ a_m_w g46 dX10_getGas_46 ?_
        refine r_ladd X dX10_getGas_47 ?_
        refine r_lastore X (f := w) (ws1 := wAll k T R ly rc hn rp tp ee st (vp_updL w (ix (u12 + 3)) ((w (ix (u12 + 3))) + (w (ix (u12 + 1))))) aside thought fresh mu th mp mf mh mg ou od) _ a_m_w g38 (s_w (vp_updL w (ix (u12 + 3)) ((w (ix (u12 + 3))) + (w (ix (u12 + 1)))))) dX10_getGas_48 ?_
        exact B10_getGas_B49 X hQ (f10_getGas_B2 fu) ih (vp_updL w (ix (u12 + 3)) ((w (ix (u12 + 3))) + (w (ix (u12 + 1))))) x1 u12 u18 hf
set_option maxRecDepth 100000 in
set_option maxHeartbeats 4000000 in
theorem K10_getGas {k : KT} {T : TT} {R : RR} {ly : Fin 2 → LL} {rc : RC} {hn : HN} {rp : RP} {tp : TP} {ee : EE} {st : Fin 12 → SS} {w : Nat → Int64} {aside : Nat → Int64} {thought : Nat → Int64} {fresh : Nat → Int64} {mu : MU} {th : Int32} {mp : MP} {mf : MF} {mh : MH} {mg : MG} {ou : Nat → Int64} {od : Nat → UInt64}   {r : (Nat → Int64)} (hf : f10_getGas  w  = some r) : CT k strs yX10_getGas cX10_getGas 5 none (rmD 3 0 0) 0 0 [.ref (k.b + (189))] (wAll k T R ly rc hn rp tp ee st w aside thought fresh mu th mp mf mh mg ou od) (none) (wAll k T R ly rc hn rp tp ee st r aside thought fresh mu th mp mf mh mg ou od) := by
  refine CT.of (by decide) (Nat.le_of_ble_eq_true rfl) ?_
  intro z X hQ
  show VW k z 0 0 (wAll k T R ly rc hn rp tp ee st w aside thought fresh mu th mp mf mh mg ou od) 0 [some (.ref (k.b + (189))), none, none, none, none] []
  unfold f10_getGas at hf
  refine r_iconst X (v := 0) dX10_getGas_0 rfl ?_
  refine r_istore_n X [some (.ref (k.b + (189))), some (.int 0), none, none, none] dX10_getGas_1 (Nat.le_of_ble_eq_true rfl) rfl ?_
  exact B10_getGas_B2 X hQ FU w 0 hf
set_option maxRecDepth 100000 in
set_option maxHeartbeats 4000000 in
theorem K10_give {k : KT} {T : TT} {R : RR} {ly : Fin 2 → LL} {rc : RC} {hn : HN} {rp : RP} {tp : TP} {ee : EE} {st : Fin 12 → SS} {w : Nat → Int64} {aside : Nat → Int64} {thought : Nat → Int64} {fresh : Nat → Int64} {mu : MU} {th : Int32} {mp : MP} {mf : MF} {mh : MH} {mg : MG} {ou : Nat → Int64} {od : Nat → UInt64}  {x1 : Int32} {x2 : Int64} {r : (Nat → Int64)} (hf : f10_give  w x1 x2 = some r) : CT k strs yX10_give cX10_give 4 none (rmD 1 0 0) 0 0 [.ref (k.b + (189)), .int x1, .long x2] (wAll k T R ly rc hn rp tp ee st w aside thought fresh mu th mp mf mh mg ou od) (none) (wAll k T R ly rc hn rp tp ee st r aside thought fresh mu th mp mf mh mg ou od) := by
  refine CT.of (by decide) (Nat.le_of_ble_eq_true rfl) ?_
  intro z X hQ
  show VW k z 0 0 (wAll k T R ly rc hn rp tp ee st w aside thought fresh mu th mp mf mh mg ou od) 0 [some (.ref (k.b + (189))), some (.int x1), some (.long x2), none] []
  unfold f10_give at hf
  refine r_iload_n X (x := x1) dX10_give_0 rfl ?_
  refine r_iconst X (v := (-1)) dX10_give_1 rfl ?_
  refine r_icmp_eq X 20 dX10_give_2 rfl (fun c2 => ?_) (fun c2 => ?_)
  · replace hf := ifT hf c2
    obtain rfl := Option.some.inj hf
    exact r_return X hQ rfl rfl (Nat.le_of_ble_eq_true rfl) (Nat.le_of_ble_eq_true rfl) dX10_give_20
  · replace hf := ifF hf c2
    refine r_aload_n X (x := k.b + (189)) dX10_give_5 rfl ?_
    refine r_getfield X (v := .ref (k.b + (190))) clsX10 flX10_7 (Nat.le_of_ble_eq_true rfl) _ o_model rfl dX10_give_6 ?_
    refine r_iload_n X (x := x1) dX10_give_9 rfl ?_
    obtain ⟨u10, h10, hf⟩ := bdS hf
    refine r_callS0 X [.int x1] [.ref (k.b + (190))] (K10_chamberAt h10) lkX10_61 (by decide) (Nat.le_of_ble_eq_true rfl) rfl rfl (Nat.le_of_ble_eq_true rfl) rfl rfl (Nat.zero_le _) (Nat.zero_le _) dX10_give_10 ?_
    refine r_iconst X (v := 3) dX10_give_13 rfl ?_
    refine r_iadd X dX10_give_14 ?_
    refine r_dup2 X dX10_give_15 rfl rfl ?_
    obtain ⟨g16, hf⟩ := gdS hf
    refine r_laload X (f := w) _ a_m_w g16 dX10_give_16 ?_
    refine r_lload_n X (x := x2) dX10_give_17 rfl ?_
    refine r_ladd X dX10_give_18 ?_
    refine r_lastore X (f := w) (ws1 := wAll k T R ly rc hn rp tp ee st (vp_updL w (ix (u10 + 3)) ((w (ix (u10 + 3))) + x2)) aside thought fresh mu th mp mf mh mg ou od) _ a_m_w g16 (s_w (vp_updL w (ix (u10 + 3)) ((w (ix (u10 + 3))) + x2))) dX10_give_19 ?_
    obtain rfl := Option.some.inj hf
    exact r_return X hQ rfl rfl (Nat.le_of_ble_eq_true rfl) (Nat.le_of_ble_eq_true rfl) dX10_give_20
set_option maxRecDepth 100000 in
set_option maxHeartbeats 4000000 in
theorem B10_flowThrough_B61 {k : KT} {z : ZT} {T : TT} {R : RR} {ly : Fin 2 → LL} {rc : RC} {hn : HN} {rp : RP} {tp : TP} {ee : EE} {st : Fin 12 → SS} {aside : Nat → Int64} {thought : Nat → Int64} {fresh : Nat → Int64} {mu : MU} {th : Int32} {mp : MP} {mf : MF} {mh : MH} {mg : MG} {ou : Nat → Int64} {od : Nat → UInt64} {r : (Nat → Int64)} (X : XX k strs z RX10 cX10_flowThrough 13 none (rmD 4 0 0)) (hQ : zQ z = MQ (zB z) (Qof k (none) (wAll k T R ly rc hn rp tp ee st r aside thought fresh mu th mp mf mh mg ou od)) (zA z) (zS z) 0 0 (kA k)) (w : Nat → Int64) (x1 : Int32) (x2 : Int32) (x3 : Int32) (x4 : Int64) (t0 : Int64) (hf : f10_flowThrough_B61  w x1 x2 x3 x4 t0 = some r) : VW k z 0 0 (wAll k T R ly rc hn rp tp ee st w aside thought fresh mu th mp mf mh mg ou od) 61 [some (.ref (k.b + (189))), some (.int x1), some (.int x2), some (.int x3), some (.long x4), none, none, none, none, none, none, none, none] [.long t0] := by
  unfold f10_flowThrough_B61 at hf
  refine r_lstore X [some (.ref (k.b + (189))), some (.int x1), some (.int x2), some (.int x3), some (.long x4), none, none, none, some (.long t0), none, none, none, none] dX10_flowThrough_61 (Nat.le_of_ble_eq_true rfl) rfl ?_
  refine r_aload_n X (x := k.b + (189)) dX10_flowThrough_63 rfl ?_
  refine r_getfield X (v := .ref (k.b + (190))) clsX10 flX10_7 (Nat.le_of_ble_eq_true rfl) _ o_model rfl dX10_flowThrough_64 ?_
  refine r_iload_n X (x := x1) dX10_flowThrough_67 rfl ?_
  obtain ⟨u68, h68, hf⟩ := bdS hf
  refine r_callS0 X [.int x1] [.ref (k.b + (190))] (K10_valveAt h68) lkX10_68 (by decide) (Nat.le_of_ble_eq_true rfl) rfl rfl (Nat.le_of_ble_eq_true rfl) rfl rfl (Nat.zero_le _) (Nat.zero_le _) dX10_flowThrough_68 ?_
  refine r_iconst X (v := 2) dX10_flowThrough_71 rfl ?_
  refine r_iadd X dX10_flowThrough_72 ?_
  obtain ⟨g73, hf⟩ := gdS hf
  refine r_laload X (f := w) _ a_m_w g73 dX10_flowThrough_73 ?_
  refine r_lload X (x := x4) dX10_flowThrough_74 rfl ?_
  refine r_lmul X dX10_flowThrough_76 ?_
  refine r_lload X (x := t0) dX10_flowThrough_77 rfl ?_
  refine r_lmin X lkX10_111 rfl ⟨(Nat.le_of_ble_eq_true rfl), (Nat.le_of_ble_eq_true rfl)⟩ (Nat.zero_le _) (Nat.zero_le _) dX10_flowThrough_79 ?_
  refine r_lstore X [some (.ref (k.b + (189))), some (.int x1), some (.int x2), some (.int x3), some (.long x4), none, none, none, some (.long t0), none, some (.long (if t0 < ((w (ix (u68 + 2))) * x4) then t0 else ((w (ix (u68 + 2))) * x4))), none, none] dX10_flowThrough_82 (Nat.le_of_ble_eq_true rfl) rfl ?_
  refine r_aload_n X (x := k.b + (189)) dX10_flowThrough_84 rfl ?_
  refine r_iload_n X (x := x2) dX10_flowThrough_85 rfl ?_
  obtain ⟨u86, h86, hf⟩ := bdS hf
  refine r_callV0 X [.int x2] [] (K10_pressure h86) lkX10_78 clsX10 rfl _ o_model (by decide) (Nat.le_of_ble_eq_true rfl) rfl rfl (Nat.le_of_ble_eq_true rfl) rfl rfl (Nat.zero_le _) (Nat.zero_le _) dX10_flowThrough_86 ?_
  refine r_aload_n X (x := k.b + (189)) dX10_flowThrough_89 rfl ?_
  refine r_iload_n X (x := x3) dX10_flowThrough_90 rfl ?_
  obtain ⟨u91, h91, hf⟩ := bdS hf
  refine r_callV0 X [.int x3] [.long u86] (K10_pressure h91) lkX10_78 clsX10 rfl _ o_model (by decide) (Nat.le_of_ble_eq_true rfl) rfl rfl (Nat.le_of_ble_eq_true rfl) rfl rfl (Nat.zero_le _) (Nat.zero_le _) dX10_flowThrough_91 ?_
  suffices K94 : VW k z 0 0 (wAll k T R ly rc hn rp tp ee st w aside thought fresh mu th mp mf mh mg ou od) 103 [some (.ref (k.b + (189))), some (.int x1), some (.int x2), some (.int x3), some (.long x4), none, none, none, some (.long t0), none, some (.long (if t0 < ((w (ix (u68 + 2))) * x4) then t0 else ((w (ix (u68 + 2))) * x4))), none, none] [.int (if u86 ≤ u91 then (0 : Int32) else (1 : Int32))] by
    refine r_lcmp_le X 102 dX10_flowThrough_94 dX10_flowThrough_95 rfl (fun c94 => ?_) (fun c94 => ?_)
    · refine r_iconst X (v := 0) dX10_flowThrough_102 rfl ?_
      rw [if_pos c94] at K94
      exact K94
    · refine r_iconst X (v := 1) dX10_flowThrough_98 rfl ?_
      refine r_goto X 103 dX10_flowThrough_99 rfl ?_
      rw [if_neg c94] at K94
      exact K94
  refine r_istore X [some (.ref (k.b + (189))), some (.int x1), some (.int x2), some (.int x3), some (.long x4), none, none, none, some (.long t0), none, some (.long (if t0 < ((w (ix (u68 + 2))) * x4) then t0 else ((w (ix (u68 + 2))) * x4))), none, some (.int (if u86 ≤ u91 then (0 : Int32) else (1 : Int32)))] dX10_flowThrough_103 (Nat.le_of_ble_eq_true rfl) rfl ?_
  refine r_aload_n X (x := k.b + (189)) dX10_flowThrough_105 rfl ?_
  refine r_iload_n X (x := x2) dX10_flowThrough_106 rfl ?_
  refine r_iload X (x := (if u86 ≤ u91 then (0 : Int32) else (1 : Int32))) dX10_flowThrough_107 rfl ?_
  suffices K109 : VW k z 0 0 (wAll k T R ly rc hn rp tp ee st w aside thought fresh mu th mp mf mh mg ou od) 120 [some (.ref (k.b + (189))), some (.int x1), some (.int x2), some (.int x3), some (.long x4), none, none, none, some (.long t0), none, some (.long (if t0 < ((w (ix (u68 + 2))) * x4) then t0 else ((w (ix (u68 + 2))) * x4))), none, some (.int (if u86 ≤ u91 then (0 : Int32) else (1 : Int32)))] [.long (if (if u86 ≤ u91 then (0 : Int32) else (1 : Int32)) = 0 then ((if t0 < ((w (ix (u68 + 2))) * x4) then t0 else ((w (ix (u68 + 2))) * x4)) : Int64) else (-(if t0 < ((w (ix (u68 + 2))) * x4) then t0 else ((w (ix (u68 + 2))) * x4)) : Int64)), .int x2, .ref (k.b + (189))] by
    refine r_if_eq X 118 dX10_flowThrough_109 rfl (fun c109 => ?_) (fun c109 => ?_)
    · refine r_lload X (x := (if t0 < ((w (ix (u68 + 2))) * x4) then t0 else ((w (ix (u68 + 2))) * x4))) dX10_flowThrough_118 rfl ?_
      rw [if_pos c109] at K109
      exact K109
    · refine r_lload X (x := (if t0 < ((w (ix (u68 + 2))) * x4) then t0 else ((w (ix (u68 + 2))) * x4))) dX10_flowThrough_112 rfl ?_
      refine r_lneg X dX10_flowThrough_114 ?_
      refine r_goto X 120 dX10_flowThrough_115 rfl ?_
      rw [if_neg c109] at K109
      exact K109
  obtain ⟨u120, h120, hf⟩ := bdS hf
  refine r_callV0 X [.int x2, .long (if (if u86 ≤ u91 then (0 : Int32) else (1 : Int32)) = 0 then ((if t0 < ((w (ix (u68 + 2))) * x4) then t0 else ((w (ix (u68 + 2))) * x4)) : Int64) else (-(if t0 < ((w (ix (u68 + 2))) * x4) then t0 else ((w (ix (u68 + 2))) * x4)) : Int64))] [] (K10_give h120) lkX10_115 clsX10 rfl _ o_model (by decide) (Nat.le_of_ble_eq_true rfl) rfl rfl (Nat.le_of_ble_eq_true rfl) rfl rfl (Nat.zero_le _) (Nat.zero_le _) dX10_flowThrough_120 ?_
  refine r_aload_n X (x := k.b + (189)) dX10_flowThrough_123 rfl ?_
  refine r_iload_n X (x := x3) dX10_flowThrough_124 rfl ?_
  refine r_iload X (x := (if u86 ≤ u91 then (0 : Int32) else (1 : Int32))) dX10_flowThrough_125 rfl ?_
  suffices K127 : VW k z 0 0 (wAll k T R ly rc hn rp tp ee st u120 aside thought fresh mu th mp mf mh mg ou od) 138 [some (.ref (k.b + (189))), some (.int x1), some (.int x2), some (.int x3), some (.long x4), none, none, none, some (.long t0), none, some (.long (if t0 < ((w (ix (u68 + 2))) * x4) then t0 else ((w (ix (u68 + 2))) * x4))), none, some (.int (if u86 ≤ u91 then (0 : Int32) else (1 : Int32)))] [.long (if (if u86 ≤ u91 then (0 : Int32) else (1 : Int32)) = 0 then (-(if t0 < ((w (ix (u68 + 2))) * x4) then t0 else ((w (ix (u68 + 2))) * x4)) : Int64) else ((if t0 < ((w (ix (u68 + 2))) * x4) then t0 else ((w (ix (u68 + 2))) * x4)) : Int64)), .int x3, .ref (k.b + (189))] by
    refine r_if_eq X 135 dX10_flowThrough_127 rfl (fun c127 => ?_) (fun c127 => ?_)
    · refine r_lload X (x := (if t0 < ((w (ix (u68 + 2))) * x4) then t0 else ((w (ix (u68 + 2))) * x4))) dX10_flowThrough_135 rfl ?_
      refine r_lneg X dX10_flowThrough_137 ?_
      rw [if_pos c127] at K127
      exact K127
    · refine r_lload X (x := (if t0 < ((w (ix (u68 + 2))) * x4) then t0 else ((w (ix (u68 + 2))) * x4))) dX10_flowThrough_130 rfl ?_
      refine r_goto X 138 dX10_flowThrough_132 rfl ?_
      rw [if_neg c127] at K127
      exact K127
  obtain ⟨u138, h138, hf⟩ := bdS hf
  refine r_callV0 X [.int x3, .long (if (if u86 ≤ u91 then (0 : Int32) else (1 : Int32)) = 0 then (-(if t0 < ((w (ix (u68 + 2))) * x4) then t0 else ((w (ix (u68 + 2))) * x4)) : Int64) else ((if t0 < ((w (ix (u68 + 2))) * x4) then t0 else ((w (ix (u68 + 2))) * x4)) : Int64))] [] (K10_give h138) lkX10_115 clsX10 rfl _ o_model (by decide) (Nat.le_of_ble_eq_true rfl) rfl rfl (Nat.le_of_ble_eq_true rfl) rfl rfl (Nat.zero_le _) (Nat.zero_le _) dX10_flowThrough_138 ?_
  obtain rfl := Option.some.inj hf
  exact r_return X hQ rfl rfl (Nat.le_of_ble_eq_true rfl) (Nat.le_of_ble_eq_true rfl) dX10_flowThrough_141
set_option maxRecDepth 100000 in
set_option maxHeartbeats 4000000 in
theorem K10_flowThrough {k : KT} {T : TT} {R : RR} {ly : Fin 2 → LL} {rc : RC} {hn : HN} {rp : RP} {tp : TP} {ee : EE} {st : Fin 12 → SS} {w : Nat → Int64} {aside : Nat → Int64} {thought : Nat → Int64} {fresh : Nat → Int64} {mu : MU} {th : Int32} {mp : MP} {mf : MF} {mh : MH} {mg : MG} {ou : Nat → Int64} {od : Nat → UInt64}  {x1 : Int32} {r : (Nat → Int64)} (hf : f10_flowThrough  w x1 = some r) : CT k strs yX10_flowThrough cX10_flowThrough 13 none (rmD 4 0 0) 0 0 [.ref (k.b + (189)), .int x1] (wAll k T R ly rc hn rp tp ee st w aside thought fresh mu th mp mf mh mg ou od) (none) (wAll k T R ly rc hn rp tp ee st r aside thought fresh mu th mp mf mh mg ou od) := by
  refine CT.of (by decide) (Nat.le_of_ble_eq_true rfl) ?_
  intro z X hQ
  show VW k z 0 0 (wAll k T R ly rc hn rp tp ee st w aside thought fresh mu th mp mf mh mg ou od) 0 [some (.ref (k.b + (189))), some (.int x1), none, none, none, none, none, none, none, none, none, none, none] []
  unfold f10_flowThrough at hf
  refine r_aload_n X (x := k.b + (189)) dX10_flowThrough_0 rfl ?_
  refine r_iload_n X (x := x1) dX10_flowThrough_1 rfl ?_
  refine r_iconst X (v := 0) dX10_flowThrough_2 rfl ?_
  obtain ⟨u3, h3, hf⟩ := bdS hf
  refine r_callV0 X [.int x1, .int 0] [] (K10_ofValve h3) lkX10_74 clsX10 rfl _ o_model (by decide) (Nat.le_of_ble_eq_true rfl) rfl rfl (Nat.le_of_ble_eq_true rfl) rfl rfl (Nat.zero_le _) (Nat.zero_le _) dX10_flowThrough_3 ?_
  refine r_istore_n X [some (.ref (k.b + (189))), some (.int x1), some (.int u3), none, none, none, none, none, none, none, none, none, none] dX10_flowThrough_6 (Nat.le_of_ble_eq_true rfl) rfl ?_
  refine r_aload_n X (x := k.b + (189)) dX10_flowThrough_7 rfl ?_
  refine r_iload_n X (x := x1) dX10_flowThrough_8 rfl ?_
  refine r_iconst X (v := 1) dX10_flowThrough_9 rfl ?_
  obtain ⟨u10, h10, hf⟩ := bdS hf
  refine r_callV0 X [.int x1, .int 1] [] (K10_ofValve h10) lkX10_74 clsX10 rfl _ o_model (by decide) (Nat.le_of_ble_eq_true rfl) rfl rfl (Nat.le_of_ble_eq_true rfl) rfl rfl (Nat.zero_le _) (Nat.zero_le _) dX10_flowThrough_10 ?_
  refine r_istore_n X [some (.ref (k.b + (189))), some (.int x1), some (.int u3), some (.int u10), none, none, none, none, none, none, none, none, none] dX10_flowThrough_13 (Nat.le_of_ble_eq_true rfl) rfl ?_
  refine r_aload_n X (x := k.b + (189)) dX10_flowThrough_14 rfl ?_
  refine r_iload_n X (x := x1) dX10_flowThrough_15 rfl ?_
  obtain ⟨u16, h16, hf⟩ := bdS hf
  refine r_callV0 X [.int x1] [] (K10_difference h16) lkX10_90 clsX10 rfl _ o_model (by decide) (Nat.le_of_ble_eq_true rfl) rfl rfl (Nat.le_of_ble_eq_true rfl) rfl rfl (Nat.zero_le _) (Nat.zero_le _) dX10_flowThrough_16 ?_
  refine r_lstore X [some (.ref (k.b + (189))), some (.int x1), some (.int u3), some (.int u10), some (.long u16), none, none, none, none, none, none, none, none] dX10_flowThrough_19 (Nat.le_of_ble_eq_true rfl) rfl ?_
  refine r_aload_n X (x := k.b + (189)) dX10_flowThrough_21 rfl ?_
  refine r_iload_n X (x := u3) dX10_flowThrough_22 rfl ?_
  obtain ⟨u23, h23, hf⟩ := bdS hf
  refine r_callV0 X [.int u3] [] (K10_volume h23) lkX10_64 clsX10 rfl _ o_model (by decide) (Nat.le_of_ble_eq_true rfl) rfl rfl (Nat.le_of_ble_eq_true rfl) rfl rfl (Nat.zero_le _) (Nat.zero_le _) dX10_flowThrough_23 ?_
  refine r_lstore X [some (.ref (k.b + (189))), some (.int x1), some (.int u3), some (.int u10), some (.long u16), none, some (.long u23), none, none, none, none, none, none] dX10_flowThrough_26 (Nat.le_of_ble_eq_true rfl) rfl ?_
  refine r_iload_n X (x := u10) dX10_flowThrough_28 rfl ?_
  refine r_iconst X (v := (-1)) dX10_flowThrough_29 rfl ?_
  refine r_icmp_ne X 41 dX10_flowThrough_30 rfl (fun c30 => ?_) (fun c30 => ?_)
  · replace hf := ifF hf c30
    refine r_lload X (x := u16) dX10_flowThrough_41 rfl ?_
    refine r_lload X (x := u23) dX10_flowThrough_43 rfl ?_
    refine r_lmul X dX10_flowThrough_45 ?_
    refine r_aload_n X (x := k.b + (189)) dX10_flowThrough_46 rfl ?_
    refine r_iload_n X (x := u10) dX10_flowThrough_47 rfl ?_
    obtain ⟨u48, h48, hf⟩ := bdS hf
    refine r_callV0 X [.int u10] [.long (u16 * u23)] (K10_volume h48) lkX10_64 clsX10 rfl _ o_model (by decide) (Nat.le_of_ble_eq_true rfl) rfl rfl (Nat.le_of_ble_eq_true rfl) rfl rfl (Nat.zero_le _) (Nat.zero_le _) dX10_flowThrough_48 ?_
    refine r_lmul X dX10_flowThrough_51 ?_
    refine r_lload X (x := u23) dX10_flowThrough_52 rfl ?_
    refine r_aload_n X (x := k.b + (189)) dX10_flowThrough_54 rfl ?_
    refine r_iload_n X (x := u10) dX10_flowThrough_55 rfl ?_
    obtain ⟨u56, h56, hf⟩ := bdS hf
    refine r_callV0 X [.int u10] [.long u23, .long ((u16 * u23) * u48)] (K10_volume h56) lkX10_64 clsX10 rfl _ o_model (by decide) (Nat.le_of_ble_eq_true rfl) rfl rfl (Nat.le_of_ble_eq_true rfl) rfl rfl (Nat.zero_le _) (Nat.zero_le _) dX10_flowThrough_56 ?_
    refine r_ladd X dX10_flowThrough_59 ?_
    obtain ⟨g60z, hf⟩ := gdS hf
    refine r_ldiv X dX10_flowThrough_60 g60z ?_
    refine VW.msk [true, true, true, true, true, false, false, false, false, false, false, false, false] rfl (lo' := [some (.ref (k.b + (189))), some (.int x1), some (.int u3), some (.int u10), some (.long u16), none, none, none, none, none, none, none, none]) rfl ?_
    exact B10_flowThrough_B61 X hQ w x1 u3 u10 u16 (((u16 * u23) * u48) / (u23 + u56)) hf
  · replace hf := ifT hf c30
    refine r_lload X (x := u16) dX10_flowThrough_33 rfl ?_
    refine r_lload X (x := u23) dX10_flowThrough_35 rfl ?_
    refine r_lmul X dX10_flowThrough_37 ?_
    refine r_goto X 61 dX10_flowThrough_38 rfl ?_
    refine VW.msk [true, true, true, true, true, false, false, false, false, false, false, false, false] rfl (lo' := [some (.ref (k.b + (189))), some (.int x1), some (.int u3), some (.int u10), some (.long u16), none, none, none, none, none, none, none, none]) rfl ?_
    exact B10_flowThrough_B61 X hQ w x1 u3 u10 u16 (u16 * u23) hf
set_option maxRecDepth 100000 in
set_option maxHeartbeats 4000000 in
theorem B10_pumpOut_B23 {k : KT} {z : ZT} {T : TT} {R : RR} {ly : Fin 2 → LL} {rc : RC} {hn : HN} {rp : RP} {tp : TP} {ee : EE} {st : Fin 12 → SS} {aside : Nat → Int64} {thought : Nat → Int64} {fresh : Nat → Int64} {mu : MU} {th : Int32} {mp : MP} {mf : MF} {mh : MH} {mg : MG} {ou : Nat → Int64} {od : Nat → UInt64} {r : (Nat → Int64)} (X : XX k strs z RX10 cX10_pumpOut 7 none (rmD 4 0 0)) (hQ : zQ z = MQ (zB z) (Qof k (none) (wAll k T R ly rc hn rp tp ee st r aside thought fresh mu th mp mf mh mg ou od)) (zA z) (zS z) 0 0 (kA k)) (w : Nat → Int64) (x1 : Int32) (hf : f10_pumpOut_B23  w x1 = some r) : VW k z 0 0 (wAll k T R ly rc hn rp tp ee st w aside thought fresh mu th mp mf mh mg ou od) 23 [some (.ref (k.b + (189))), some (.int x1), none, none, none, none, none] [] := by
  unfold f10_pumpOut_B23 at hf
  refine r_aload_n X (x := k.b + (189)) dX10_pumpOut_23 rfl ?_
  refine r_getfield X (v := .ref (k.b + (190))) clsX10 flX10_7 (Nat.le_of_ble_eq_true rfl) _ o_model rfl dX10_pumpOut_24 ?_
  refine r_iload_n X (x := x1) dX10_pumpOut_27 rfl ?_
  obtain ⟨u28, h28, hf⟩ := bdS hf
  refine r_callS0 X [.int x1] [.ref (k.b + (190))] (K10_pumpAt h28) lkX10_71 (by decide) (Nat.le_of_ble_eq_true rfl) rfl rfl (Nat.le_of_ble_eq_true rfl) rfl rfl (Nat.zero_le _) (Nat.zero_le _) dX10_pumpOut_28 ?_
  refine r_bipush X (v := 6) dX10_pumpOut_31 rfl ?_
  refine r_iadd X dX10_pumpOut_33 ?_
  refine r_lconst X (v := 0) dX10_pumpOut_34 rfl ?_
  obtain ⟨g35, hf⟩ := gdS hf
  refine r_lastore X (f := w) (ws1 := wAll k T R ly rc hn rp tp ee st (vp_updL w (ix (u28 + 6)) 0) aside thought fresh mu th mp mf mh mg ou od) _ a_m_w g35 (s_w (vp_updL w (ix (u28 + 6)) 0)) dX10_pumpOut_35 ?_
  refine r_aload_n X (x := k.b + (189)) dX10_pumpOut_36 rfl ?_
  refine r_getfield X (v := .ref (k.b + (190))) clsX10 flX10_7 (Nat.le_of_ble_eq_true rfl) _ o_model rfl dX10_pumpOut_37 ?_
  refine r_iload_n X (x := x1) dX10_pumpOut_40 rfl ?_
  obtain ⟨u41, h41, hf⟩ := bdS hf
  refine r_callS0 X [.int x1] [.ref (k.b + (190))] (K10_pumpAt h41) lkX10_71 (by decide) (Nat.le_of_ble_eq_true rfl) rfl rfl (Nat.le_of_ble_eq_true rfl) rfl rfl (Nat.zero_le _) (Nat.zero_le _) dX10_pumpOut_41 ?_
  refine r_bipush X (v := 7) dX10_pumpOut_44 rfl ?_
  refine r_iadd X dX10_pumpOut_46 ?_
  refine r_dup2 X dX10_pumpOut_47 rfl rfl ?_
  obtain ⟨g48, hf⟩ := gdS hf
  refine r_laload X (f := vp_updL w (ix (u28 + 6)) 0) _ a_m_w g48 dX10_pumpOut_48 ?_
  refine r_lconst X (v := 1) dX10_pumpOut_49 rfl ?_
  refine r_ladd X dX10_pumpOut_50 ?_
  refine r_lastore X (f := vp_updL w (ix (u28 + 6)) 0) (ws1 := wAll k T R ly rc hn rp tp ee st (vp_updL (vp_updL w (ix (u28 + 6)) 0) (ix (u41 + 7)) (((vp_updL w (ix (u28 + 6)) 0) (ix (u41 + 7))) + 1)) aside thought fresh mu th mp mf mh mg ou od) _ a_m_w g48 (s_w (vp_updL (vp_updL w (ix (u28 + 6)) 0) (ix (u41 + 7)) (((vp_updL w (ix (u28 + 6)) 0) (ix (u41 + 7))) + 1))) dX10_pumpOut_51 ?_
  refine r_aload_n X (x := k.b + (189)) dX10_pumpOut_52 rfl ?_
  refine r_getfield X (v := .ref (k.b + (190))) clsX10 flX10_7 (Nat.le_of_ble_eq_true rfl) _ o_model rfl dX10_pumpOut_53 ?_
  refine r_bipush X (v := 6) dX10_pumpOut_56 rfl ?_
  refine r_dup2 X dX10_pumpOut_58 rfl rfl ?_
  refine r_laload X (f := vp_updL (vp_updL w (ix (u28 + 6)) 0) (ix (u41 + 7)) (((vp_updL w (ix (u28 + 6)) 0) (ix (u41 + 7))) + 1)) _ a_m_w (by decide) dX10_pumpOut_59 ?_
  refine r_lconst X (v := 1) dX10_pumpOut_60 rfl ?_
  refine r_ladd X dX10_pumpOut_61 ?_
  refine r_lastore X (f := vp_updL (vp_updL w (ix (u28 + 6)) 0) (ix (u41 + 7)) (((vp_updL w (ix (u28 + 6)) 0) (ix (u41 + 7))) + 1)) (ws1 := wAll k T R ly rc hn rp tp ee st (vp_updL (vp_updL (vp_updL w (ix (u28 + 6)) 0) (ix (u41 + 7)) (((vp_updL w (ix (u28 + 6)) 0) (ix (u41 + 7))) + 1)) (ix 6) (((vp_updL (vp_updL w (ix (u28 + 6)) 0) (ix (u41 + 7)) (((vp_updL w (ix (u28 + 6)) 0) (ix (u41 + 7))) + 1)) (ix 6)) + 1)) aside thought fresh mu th mp mf mh mg ou od) _ a_m_w (by decide) (s_w (vp_updL (vp_updL (vp_updL w (ix (u28 + 6)) 0) (ix (u41 + 7)) (((vp_updL w (ix (u28 + 6)) 0) (ix (u41 + 7))) + 1)) (ix 6) (((vp_updL (vp_updL w (ix (u28 + 6)) 0) (ix (u41 + 7)) (((vp_updL w (ix (u28 + 6)) 0) (ix (u41 + 7))) + 1)) (ix 6)) + 1))) dX10_pumpOut_62 ?_
  obtain rfl := Option.some.inj hf
  exact r_return X hQ rfl rfl (Nat.le_of_ble_eq_true rfl) (Nat.le_of_ble_eq_true rfl) dX10_pumpOut_63
set_option maxRecDepth 100000 in
set_option maxHeartbeats 4000000 in
theorem K10_pumpOut {k : KT} {T : TT} {R : RR} {ly : Fin 2 → LL} {rc : RC} {hn : HN} {rp : RP} {tp : TP} {ee : EE} {st : Fin 12 → SS} {w : Nat → Int64} {aside : Nat → Int64} {thought : Nat → Int64} {fresh : Nat → Int64} {mu : MU} {th : Int32} {mp : MP} {mf : MF} {mh : MH} {mg : MG} {ou : Nat → Int64} {od : Nat → UInt64}  {x1 : Int32} {r : (Nat → Int64)} (hf : f10_pumpOut  w x1 = some r) : CT k strs yX10_pumpOut cX10_pumpOut 7 none (rmD 4 0 0) 0 0 [.ref (k.b + (189)), .int x1] (wAll k T R ly rc hn rp tp ee st w aside thought fresh mu th mp mf mh mg ou od) (none) (wAll k T R ly rc hn rp tp ee st r aside thought fresh mu th mp mf mh mg ou od) := by
  refine CT.of (by decide) (Nat.le_of_ble_eq_true rfl) ?_
  intro z X hQ
  show VW k z 0 0 (wAll k T R ly rc hn rp tp ee st w aside thought fresh mu th mp mf mh mg ou od) 0 [some (.ref (k.b + (189))), some (.int x1), none, none, none, none, none] []
  unfold f10_pumpOut at hf
  refine r_aload_n X (x := k.b + (189)) dX10_pumpOut_0 rfl ?_
  refine r_iload_n X (x := x1) dX10_pumpOut_1 rfl ?_
  refine r_iconst X (v := 0) dX10_pumpOut_2 rfl ?_
  obtain ⟨u3, h3, hf⟩ := bdS hf
  refine r_callV0 X [.int x1, .int 0] [] (K10_ofPump h3) lkX10_87 clsX10 rfl _ o_model (by decide) (Nat.le_of_ble_eq_true rfl) rfl rfl (Nat.le_of_ble_eq_true rfl) rfl rfl (Nat.zero_le _) (Nat.zero_le _) dX10_pumpOut_3 ?_
  refine r_istore_n X [some (.ref (k.b + (189))), some (.int x1), some (.int u3), none, none, none, none] dX10_pumpOut_6 (Nat.le_of_ble_eq_true rfl) rfl ?_
  refine r_aload_n X (x := k.b + (189)) dX10_pumpOut_7 rfl ?_
  refine r_iload_n X (x := x1) dX10_pumpOut_8 rfl ?_
  obtain ⟨u9, h9, hf⟩ := bdS hf
  refine r_callV0 X [.int x1] [] (K10_isLowEnough h9) lkX10_119 clsX10 rfl _ o_model (by decide) (Nat.le_of_ble_eq_true rfl) rfl rfl (Nat.le_of_ble_eq_true rfl) rfl rfl (Nat.zero_le _) (Nat.zero_le _) dX10_pumpOut_9 ?_
  refine r_if_eq X 23 dX10_pumpOut_12 rfl (fun c12 => ?_) (fun c12 => ?_)
  · replace hf := ifT hf c12
    refine VW.msk [true, true, false, false, false, false, false] rfl (lo' := [some (.ref (k.b + (189))), some (.int x1), none, none, none, none, none]) rfl ?_
    exact B10_pumpOut_B23 X hQ w x1 hf
  · replace hf := ifF hf c12
    refine r_aload_n X (x := k.b + (189)) dX10_pumpOut_15 rfl ?_
    refine r_iload_n X (x := x1) dX10_pumpOut_16 rfl ?_
    obtain ⟨u17, h17, hf⟩ := bdS hf
    refine r_callV0 X [.int x1] [] (K10_isBacked h17) lkX10_122 clsX10 rfl _ o_model (by decide) (Nat.le_of_ble_eq_true rfl) rfl rfl (Nat.le_of_ble_eq_true rfl) rfl rfl (Nat.zero_le _) (Nat.zero_le _) dX10_pumpOut_17 ?_
    refine r_if_ne X 64 dX10_pumpOut_20 rfl (fun c20 => ?_) (fun c20 => ?_)
    · replace hf := ifF hf c20
      refine r_aload_n X (x := k.b + (189)) dX10_pumpOut_64 rfl ?_
      refine r_iload_n X (x := u3) dX10_pumpOut_65 rfl ?_
      obtain ⟨u66, h66, hf⟩ := bdS hf
      refine r_callV0 X [.int u3] [] (K10_pressure h66) lkX10_78 clsX10 rfl _ o_model (by decide) (Nat.le_of_ble_eq_true rfl) rfl rfl (Nat.le_of_ble_eq_true rfl) rfl rfl (Nat.zero_le _) (Nat.zero_le _) dX10_pumpOut_66 ?_
      refine r_aload_n X (x := k.b + (189)) dX10_pumpOut_69 rfl ?_
      refine r_getfield X (v := .ref (k.b + (190))) clsX10 flX10_7 (Nat.le_of_ble_eq_true rfl) _ o_model rfl dX10_pumpOut_70 ?_
      refine r_iload_n X (x := x1) dX10_pumpOut_73 rfl ?_
      obtain ⟨u74, h74, hf⟩ := bdS hf
      refine r_callS0 X [.int x1] [.ref (k.b + (190)), .long u66] (K10_pumpAt h74) lkX10_71 (by decide) (Nat.le_of_ble_eq_true rfl) rfl rfl (Nat.le_of_ble_eq_true rfl) rfl rfl (Nat.zero_le _) (Nat.zero_le _) dX10_pumpOut_74 ?_
      refine r_iconst X (v := 3) dX10_pumpOut_77 rfl ?_
      refine r_iadd X dX10_pumpOut_78 ?_
      obtain ⟨g79, hf⟩ := gdS hf
      refine r_laload X (f := w) _ a_m_w g79 dX10_pumpOut_79 ?_
      refine r_lsub X dX10_pumpOut_80 ?_
      refine r_lstore_n X [some (.ref (k.b + (189))), some (.int x1), some (.int u3), some (.long (u66 - (w (ix (u74 + 3))))), none, none, none] dX10_pumpOut_81 (Nat.le_of_ble_eq_true rfl) rfl ?_
      refine r_lload_n X (x := u66 - (w (ix (u74 + 3)))) dX10_pumpOut_82 rfl ?_
      refine r_lconst X (v := 0) dX10_pumpOut_83 rfl ?_
      refine r_lcmp_gt X 89 dX10_pumpOut_84 dX10_pumpOut_85 rfl (fun c84 => ?_) (fun c84 => ?_)
      · replace hf := ifT hf c84
        refine r_aload_n X (x := k.b + (189)) dX10_pumpOut_89 rfl ?_
        refine r_getfield X (v := .ref (k.b + (190))) clsX10 flX10_7 (Nat.le_of_ble_eq_true rfl) _ o_model rfl dX10_pumpOut_90 ?_
        refine r_iload_n X (x := x1) dX10_pumpOut_93 rfl ?_
        obtain ⟨u94, h94, hf⟩ := bdS hf
        refine r_callS0 X [.int x1] [.ref (k.b + (190))] (K10_pumpAt h94) lkX10_71 (by decide) (Nat.le_of_ble_eq_true rfl) rfl rfl (Nat.le_of_ble_eq_true rfl) rfl rfl (Nat.zero_le _) (Nat.zero_le _) dX10_pumpOut_94 ?_
        refine r_iconst X (v := 2) dX10_pumpOut_97 rfl ?_
        refine r_iadd X dX10_pumpOut_98 ?_
        obtain ⟨g99, hf⟩ := gdS hf
        refine r_laload X (f := w) _ a_m_w g99 dX10_pumpOut_99 ?_
        refine r_lload_n X (x := u66 - (w (ix (u74 + 3)))) dX10_pumpOut_100 rfl ?_
        refine r_lmul X dX10_pumpOut_101 ?_
        refine r_aload_n X (x := k.b + (189)) dX10_pumpOut_102 rfl ?_
        refine r_getfield X (v := .ref (k.b + (190))) clsX10 flX10_7 (Nat.le_of_ble_eq_true rfl) _ o_model rfl dX10_pumpOut_103 ?_
        refine r_iload_n X (x := u3) dX10_pumpOut_106 rfl ?_
        obtain ⟨u107, h107, hf⟩ := bdS hf
        refine r_callS0 X [.int u3] [.ref (k.b + (190)), .long ((w (ix (u94 + 2))) * (u66 - (w (ix (u74 + 3)))))] (K10_chamberAt h107) lkX10_61 (by decide) (Nat.le_of_ble_eq_true rfl) rfl rfl (Nat.le_of_ble_eq_true rfl) rfl rfl (Nat.zero_le _) (Nat.zero_le _) dX10_pumpOut_107 ?_
        refine r_iconst X (v := 3) dX10_pumpOut_110 rfl ?_
        refine r_iadd X dX10_pumpOut_111 ?_
        obtain ⟨g112, hf⟩ := gdS hf
        refine r_laload X (f := w) _ a_m_w g112 dX10_pumpOut_112 ?_
        refine r_lmin X lkX10_111 rfl ⟨(Nat.le_of_ble_eq_true rfl), (Nat.le_of_ble_eq_true rfl)⟩ (Nat.zero_le _) (Nat.zero_le _) dX10_pumpOut_113 ?_
        refine r_lstore X [some (.ref (k.b + (189))), some (.int x1), some (.int u3), some (.long (u66 - (w (ix (u74 + 3))))), none, some (.long (if (w (ix (u107 + 3))) < ((w (ix (u94 + 2))) * (u66 - (w (ix (u74 + 3))))) then (w (ix (u107 + 3))) else ((w (ix (u94 + 2))) * (u66 - (w (ix (u74 + 3))))))), none] dX10_pumpOut_116 (Nat.le_of_ble_eq_true rfl) rfl ?_
        refine r_aload_n X (x := k.b + (189)) dX10_pumpOut_118 rfl ?_
        refine r_iload_n X (x := u3) dX10_pumpOut_119 rfl ?_
        refine r_lload X (x := (if (w (ix (u107 + 3))) < ((w (ix (u94 + 2))) * (u66 - (w (ix (u74 + 3))))) then (w (ix (u107 + 3))) else ((w (ix (u94 + 2))) * (u66 - (w (ix (u74 + 3))))))) dX10_pumpOut_120 rfl ?_
        refine r_lneg X dX10_pumpOut_122 ?_
        obtain ⟨u123, h123, hf⟩ := bdS hf
        refine r_callV0 X [.int u3, .long (-(if (w (ix (u107 + 3))) < ((w (ix (u94 + 2))) * (u66 - (w (ix (u74 + 3))))) then (w (ix (u107 + 3))) else ((w (ix (u94 + 2))) * (u66 - (w (ix (u74 + 3)))))))] [] (K10_give h123) lkX10_115 clsX10 rfl _ o_model (by decide) (Nat.le_of_ble_eq_true rfl) rfl rfl (Nat.le_of_ble_eq_true rfl) rfl rfl (Nat.zero_le _) (Nat.zero_le _) dX10_pumpOut_123 ?_
        refine r_aload_n X (x := k.b + (189)) dX10_pumpOut_126 rfl ?_
        refine r_aload_n X (x := k.b + (189)) dX10_pumpOut_127 rfl ?_
        refine r_iload_n X (x := x1) dX10_pumpOut_128 rfl ?_
        refine r_iconst X (v := 1) dX10_pumpOut_129 rfl ?_
        obtain ⟨u130, h130, hf⟩ := bdS hf
        refine r_callV0 X [.int x1, .int 1] [.ref (k.b + (189))] (K10_ofPump h130) lkX10_87 clsX10 rfl _ o_model (by decide) (Nat.le_of_ble_eq_true rfl) rfl rfl (Nat.le_of_ble_eq_true rfl) rfl rfl (Nat.zero_le _) (Nat.zero_le _) dX10_pumpOut_130 ?_
        refine r_lload X (x := (if (w (ix (u107 + 3))) < ((w (ix (u94 + 2))) * (u66 - (w (ix (u74 + 3))))) then (w (ix (u107 + 3))) else ((w (ix (u94 + 2))) * (u66 - (w (ix (u74 + 3))))))) dX10_pumpOut_133 rfl ?_
        obtain ⟨u135, h135, hf⟩ := bdS hf
        refine r_callV0 X [.int u130, .long (if (w (ix (u107 + 3))) < ((w (ix (u94 + 2))) * (u66 - (w (ix (u74 + 3))))) then (w (ix (u107 + 3))) else ((w (ix (u94 + 2))) * (u66 - (w (ix (u74 + 3))))))] [] (K10_give h135) lkX10_115 clsX10 rfl _ o_model (by decide) (Nat.le_of_ble_eq_true rfl) rfl rfl (Nat.le_of_ble_eq_true rfl) rfl rfl (Nat.zero_le _) (Nat.zero_le _) dX10_pumpOut_135 ?_
        obtain rfl := Option.some.inj hf
        exact r_return X hQ rfl rfl (Nat.le_of_ble_eq_true rfl) (Nat.le_of_ble_eq_true rfl) dX10_pumpOut_138
      · replace hf := ifF hf c84
        obtain rfl := Option.some.inj hf
        exact r_return X hQ rfl rfl (Nat.le_of_ble_eq_true rfl) (Nat.le_of_ble_eq_true rfl) dX10_pumpOut_88
    · replace hf := ifT hf c20
      refine VW.msk [true, true, false, false, false, false, false] rfl (lo' := [some (.ref (k.b + (189))), some (.int x1), none, none, none, none, none]) rfl ?_
      exact B10_pumpOut_B23 X hQ w x1 hf
