/-! the methods do it -/
set_option maxRecDepth 100000 in
set_option maxHeartbeats 4000000 in
theorem B10_joinedWith_B6 {k : KT} {z : ZT} {T : TT} {R : RR} {ly : Fin 2 → LL} {rc : RC} {hn : HN} {rp : RP} {tp : TP} {ee : EE} {st : Fin 12 → SS} {w : Nat → Int64} {aside : Nat → Int64} {thought : Nat → Int64} {fresh : Nat → Int64} {mu : MU} {th : Int32} {mp : MP} {mf : MF} {mh : MH} {mg : MG} {ou : Nat → Int64} {od : Nat → UInt64} {r : Int32} (X : XX k strs z RX10 cX10_joinedWith 4 (some .int) (rmD 4 0 0)) (hQ : zQ z = MQ (zB z) (Qof k (some (.int r)) (wAll k T R ly rc hn rp tp ee st w aside thought fresh mu th mp mf mh mg ou od)) (zA z) (zS z) 0 0 (kA k)) : ∀ (fu : Nat) (x2 : Int32) (x3 : Int32), f10_joinedWith_B6 w fu x2 x3 = some r → VW k z 0 0 (wAll k T R ly rc hn rp tp ee st w aside thought fresh mu th mp mf mh mg ou od) 6 [some (.ref (k.b + (189))), none, some (.int x2), some (.int x3)] [] := by
  intro fu
  induction fu with
  | zero =>
    intro x2 x3 hf
    rw [f10_joinedWith_B6] at hf
    cases hf
  | succ fu ih =>
    intro x2 x3 hf
    rw [f10_joinedWith_B6] at hf
    refine r_iload_n X (x := x3) dX10_joinedWith_6 rfl ?_
    refine r_iload_n X (x := x2) dX10_joinedWith_7 rfl ?_
    refine r_icmp_eq X 23 dX10_joinedWith_8 rfl (fun c8 => ?_) (fun c8 => ?_)
    · replace hf := ifT hf c8
      refine r_iload_n X (x := x2) dX10_joinedWith_23 rfl ?_
      obtain rfl := Option.some.inj hf
      exact r_ireturn X hQ rfl rfl (Nat.le_of_ble_eq_true rfl) (Nat.le_of_ble_eq_true rfl) dX10_joinedWith_24
    · replace hf := ifF hf c8
      refine r_iload_n X (x := x3) dX10_joinedWith_11 rfl ?_
      refine r_istore_n X [some (.ref (k.b + (189))), none, some (.int x3), some (.int x3)] dX10_joinedWith_12 (Nat.le_of_ble_eq_true rfl) rfl ?_
      refine r_aload_n X (x := k.b + (189)) dX10_joinedWith_13 rfl ?_
      refine r_iload_n X (x := x3) dX10_joinedWith_14 rfl ?_
      refine r_iconst X (v := 0) dX10_joinedWith_15 rfl ?_
      obtain ⟨u16, h16, hf⟩ := bdS hf
      refine r_callV0 X [.int x3, .int 0] [] (K10_beside h16) lkX10_375 clsX10 rfl _ o_model (by decide) (Nat.le_of_ble_eq_true rfl) rfl rfl (Nat.le_of_ble_eq_true rfl) rfl rfl (Nat.zero_le _) (Nat.zero_le _) dX10_joinedWith_16 ?_
      refine r_istore_n X [some (.ref (k.b + (189))), none, some (.int x3), some (.int u16)] dX10_joinedWith_19 (Nat.le_of_ble_eq_true rfl) rfl ?_
      refine r_goto X 6 dX10_joinedWith_20 rfl ?_
      exact ih x3 u16 hf
set_option maxRecDepth 100000 in
set_option maxHeartbeats 4000000 in
theorem K10_joinedWith {k : KT} {T : TT} {R : RR} {ly : Fin 2 → LL} {rc : RC} {hn : HN} {rp : RP} {tp : TP} {ee : EE} {st : Fin 12 → SS} {w : Nat → Int64} {aside : Nat → Int64} {thought : Nat → Int64} {fresh : Nat → Int64} {mu : MU} {th : Int32} {mp : MP} {mf : MF} {mh : MH} {mg : MG} {ou : Nat → Int64} {od : Nat → UInt64}  {x1 : Int32} {r : Int32} (hf : f10_joinedWith w  x1 = some r) : CT k strs yX10_joinedWith cX10_joinedWith 4 (some .int) (rmD 4 0 0) 0 0 [.ref (k.b + (189)), .int x1] (wAll k T R ly rc hn rp tp ee st w aside thought fresh mu th mp mf mh mg ou od) (some (.int r)) (wAll k T R ly rc hn rp tp ee st w aside thought fresh mu th mp mf mh mg ou od) := by
  refine CT.of (by decide) (Nat.le_of_ble_eq_true rfl) ?_
  intro z X hQ
  show VW k z 0 0 (wAll k T R ly rc hn rp tp ee st w aside thought fresh mu th mp mf mh mg ou od) 0 [some (.ref (k.b + (189))), some (.int x1), none, none] []
  unfold f10_joinedWith at hf
  refine r_iconst X (v := 0) dX10_joinedWith_0 rfl ?_
  refine r_istore_n X [some (.ref (k.b + (189))), some (.int x1), some (.int 0), none] dX10_joinedWith_1 (Nat.le_of_ble_eq_true rfl) rfl ?_
  refine r_iconst X (v := 1) dX10_joinedWith_2 rfl ?_
  refine r_iload_n X (x := x1) dX10_joinedWith_3 rfl ?_
  refine r_ishl X dX10_joinedWith_4 ?_
  refine r_istore_n X [some (.ref (k.b + (189))), some (.int x1), some (.int 0), some (.int (1 <<< (x1 &&& 31)))] dX10_joinedWith_5 (Nat.le_of_ble_eq_true rfl) rfl ?_
  refine VW.msk [true, false, true, true] rfl (lo' := [some (.ref (k.b + (189))), none, some (.int 0), some (.int (1 <<< (x1 &&& 31)))]) rfl ?_
  exact B10_joinedWith_B6 X hQ FU 0 (1 <<< (x1 &&& 31)) hf
set_option maxRecDepth 100000 in
set_option maxHeartbeats 4000000 in
theorem K10_joined {k : KT} {T : TT} {R : RR} {ly : Fin 2 → LL} {rc : RC} {hn : HN} {rp : RP} {tp : TP} {ee : EE} {st : Fin 12 → SS} {w : Nat → Int64} {aside : Nat → Int64} {thought : Nat → Int64} {fresh : Nat → Int64} {mu : MU} {th : Int32} {mp : MP} {mf : MF} {mh : MH} {mg : MG} {ou : Nat → Int64} {od : Nat → UInt64}  {x1 : Int32} {r : Int32 × (Int32)} (hf : f10_joined w th x1 = some r) : CT k strs yX10_joined cX10_joined 2 (some .int) (rmD 5 0 0) 0 0 [.ref (k.b + (189)), .int x1] (wAll k T R ly rc hn rp tp ee st w aside thought fresh mu th mp mf mh mg ou od) (some (.int r.1)) (wAll k T R ly rc hn rp tp ee st w aside thought fresh mu r.2 mp mf mh mg ou od) := by
  refine CT.of (by decide) (Nat.le_of_ble_eq_true rfl) ?_
  intro z X hQ
  show VW k z 0 0 (wAll k T R ly rc hn rp tp ee st w aside thought fresh mu th mp mf mh mg ou od) 0 [some (.ref (k.b + (189))), some (.int x1)] []
  unfold f10_joined at hf
  refine r_aload_n X (x := k.b + (189)) dX10_joined_0 rfl ?_
  refine r_aload_n X (x := k.b + (189)) dX10_joined_1 rfl ?_
  refine r_iload_n X (x := x1) dX10_joined_2 rfl ?_
  obtain ⟨u3, h3, hf⟩ := bdS hf
  refine r_callV0 X [.int x1] [.ref (k.b + (189))] (K10_isChamber h3) lkX10_179 clsX10 rfl _ o_model (by decide) (Nat.le_of_ble_eq_true rfl) rfl rfl (Nat.le_of_ble_eq_true rfl) rfl rfl (Nat.zero_le _) (Nat.zero_le _) dX10_joined_3 ?_
  suffices K6 : VW k z 0 0 (wAll k T R ly rc hn rp tp ee st w aside thought fresh mu th mp mf mh mg ou od) 14 [some (.ref (k.b + (189))), some (.int x1)] [.int (if u3 = 0 then (1 : Int32) else (0 : Int32)), .ref (k.b + (189))] by
    refine r_if_ne X 13 dX10_joined_6 rfl (fun c6 => ?_) (fun c6 => ?_)
    · refine r_iconst X (v := 0) dX10_joined_13 rfl ?_
      rw [if_neg c6] at K6
      exact K6
    · refine r_iconst X (v := 1) dX10_joined_9 rfl ?_
      refine r_goto X 14 dX10_joined_10 rfl ?_
      rw [if_pos c6] at K6
      exact K6
  refine r_iconst X (v := 1) dX10_joined_14 rfl ?_
  obtain ⟨u15, h15, hf⟩ := bdS hf
  refine r_callV0 X [.int (if u3 = 0 then (1 : Int32) else (0 : Int32)), .int 1] [] (K10_fails h15) lkX10_151 clsX10 rfl _ o_model (by decide) (Nat.le_of_ble_eq_true rfl) rfl rfl (Nat.le_of_ble_eq_true rfl) rfl rfl (Nat.zero_le _) (Nat.zero_le _) dX10_joined_15 ?_
  refine r_if_eq X 25 dX10_joined_18 rfl (fun c18 => ?_) (fun c18 => ?_)
  · replace hf := ifT hf c18
    refine r_aload_n X (x := k.b + (189)) dX10_joined_25 rfl ?_
    refine r_iload_n X (x := x1) dX10_joined_26 rfl ?_
    obtain ⟨u27, h27, hf⟩ := bdS hf
    refine r_callV0 X [.int x1] [] (K10_joinedWith h27) lkX10_379 clsX10 rfl _ o_model (by decide) (Nat.le_of_ble_eq_true rfl) rfl rfl (Nat.le_of_ble_eq_true rfl) rfl rfl (Nat.zero_le _) (Nat.zero_le _) dX10_joined_27 ?_
    obtain rfl := Option.some.inj hf
    exact r_ireturn X hQ rfl rfl (Nat.le_of_ble_eq_true rfl) (Nat.le_of_ble_eq_true rfl) dX10_joined_30
  · replace hf := ifF hf c18
    refine r_iconst X (v := 0) dX10_joined_21 rfl ?_
    refine r_goto X 30 dX10_joined_22 rfl ?_
    obtain rfl := Option.some.inj hf
    exact r_ireturn X hQ rfl rfl (Nat.le_of_ble_eq_true rfl) (Nat.le_of_ble_eq_true rfl) dX10_joined_30
set_option maxRecDepth 100000 in
set_option maxHeartbeats 4000000 in
theorem B10_leadsOut_B33 {k : KT} {z : ZT} {T : TT} {R : RR} {ly : Fin 2 → LL} {rc : RC} {hn : HN} {rp : RP} {tp : TP} {ee : EE} {st : Fin 12 → SS} {w : Nat → Int64} {aside : Nat → Int64} {thought : Nat → Int64} {fresh : Nat → Int64} {mu : MU} {th : Int32} {mp : MP} {mf : MF} {mh : MH} {mg : MG} {ou : Nat → Int64} {od : Nat → UInt64} {r : Int32} (X : XX k strs z RX10 cX10_leadsOut 4 (some .boolean) (rmD 3 0 0)) (hQ : zQ z = MQ (zB z) (Qof k (some (.int r)) (wAll k T R ly rc hn rp tp ee st w aside thought fresh mu th mp mf mh mg ou od)) (zA z) (zS z) 0 0 (kA k)) (rec : Int32 → Int32 → Int32 → Option (Int32)) (hrec : ∀ (x1 : Int32) (x2 : Int32) (x3 : Int32), rec x1 x2 x3 = some r → VW k z 0 0 (wAll k T R ly rc hn rp tp ee st w aside thought fresh mu th mp mf mh mg ou od) 2 [some (.ref (k.b + (189))), some (.int x1), some (.int x2), some (.int x3)] []) (x1 : Int32) (x2 : Int32) (x3 : Int32) (hf : f10_leadsOut_B33 w rec x1 x2 x3 = some r) : VW k z 0 0 (wAll k T R ly rc hn rp tp ee st w aside thought fresh mu th mp mf mh mg ou od) 33 [some (.ref (k.b + (189))), some (.int x1), some (.int x2), some (.int x3)] [] := by
  unfold f10_leadsOut_B33 at hf
  refine r_iload_n X (x := x1) dX10_leadsOut_33 rfl ?_
  refine r_aload_n X (x := k.b + (189)) dX10_leadsOut_34 rfl ?_
  refine r_iload_n X (x := x3) dX10_leadsOut_35 rfl ?_
  refine r_iconst X (v := 0) dX10_leadsOut_36 rfl ?_
  obtain ⟨u37, h37, hf⟩ := bdS hf
  refine r_callV0 X [.int x3, .int 0] [.int x1] (K10_ofValve h37) lkX10_74 clsX10 rfl _ o_model (by decide) (Nat.le_of_ble_eq_true rfl) rfl rfl (Nat.le_of_ble_eq_true rfl) rfl rfl (Nat.zero_le _) (Nat.zero_le _) dX10_leadsOut_37 ?_
  refine r_ishr X dX10_leadsOut_40 ?_
  refine r_iconst X (v := 1) dX10_leadsOut_41 rfl ?_
  refine r_iand X dX10_leadsOut_42 ?_
  refine r_iconst X (v := 1) dX10_leadsOut_43 rfl ?_
  refine r_icmp_ne X 49 dX10_leadsOut_44 rfl (fun c44 => ?_) (fun c44 => ?_)
  · replace hf := ifF hf c44
    refine r_iinc X (x := x3) (v := x3 + 1) [some (.ref (k.b + (189))), some (.int x1), some (.int x2), some (.int (x3 + 1))] dX10_leadsOut_49 rfl rfl rfl ?_
    refine r_goto X 2 dX10_leadsOut_52 rfl ?_
    exact hrec x1 x2 (x3 + 1) hf
  · replace hf := ifT hf c44
    refine r_iconst X (v := 1) dX10_leadsOut_47 rfl ?_
    obtain rfl := Option.some.inj hf
    exact r_zreturn X hQ rfl rfl (Nat.le_of_ble_eq_true rfl) (Nat.le_of_ble_eq_true rfl) rfl dX10_leadsOut_48
set_option maxRecDepth 100000 in
set_option maxHeartbeats 4000000 in
theorem B10_leadsOut_B2 {k : KT} {z : ZT} {T : TT} {R : RR} {ly : Fin 2 → LL} {rc : RC} {hn : HN} {rp : RP} {tp : TP} {ee : EE} {st : Fin 12 → SS} {w : Nat → Int64} {aside : Nat → Int64} {thought : Nat → Int64} {fresh : Nat → Int64} {mu : MU} {th : Int32} {mp : MP} {mf : MF} {mh : MH} {mg : MG} {ou : Nat → Int64} {od : Nat → UInt64} {r : Int32} (X : XX k strs z RX10 cX10_leadsOut 4 (some .boolean) (rmD 3 0 0)) (hQ : zQ z = MQ (zB z) (Qof k (some (.int r)) (wAll k T R ly rc hn rp tp ee st w aside thought fresh mu th mp mf mh mg ou od)) (zA z) (zS z) 0 0 (kA k)) : ∀ (fu : Nat) (x1 : Int32) (x2 : Int32) (x3 : Int32), f10_leadsOut_B2 w fu x1 x2 x3 = some r → VW k z 0 0 (wAll k T R ly rc hn rp tp ee st w aside thought fresh mu th mp mf mh mg ou od) 2 [some (.ref (k.b + (189))), some (.int x1), some (.int x2), some (.int x3)] [] := by
  intro fu
  induction fu with
  | zero =>
    intro x1 x2 x3 hf
    rw [f10_leadsOut_B2] at hf
    cases hf
  | succ fu ih =>
    intro x1 x2 x3 hf
    rw [f10_leadsOut_B2] at hf
    refine r_iload_n X (x := x3) dX10_leadsOut_2 rfl ?_
    refine r_aload_n X (x := k.b + (189)) dX10_leadsOut_3 rfl ?_
    refine r_iconst X (v := 2) dX10_leadsOut_4 rfl ?_
    obtain ⟨u5, h5, hf⟩ := bdS hf
    refine r_callV0 X [.int 2] [.int x3] (K10_many h5) lkX10_93 clsX10 rfl _ o_model (by decide) (Nat.le_of_ble_eq_true rfl) rfl rfl (Nat.le_of_ble_eq_true rfl) rfl rfl (Nat.zero_le _) (Nat.zero_le _) dX10_leadsOut_5 ?_
    refine r_icmp_ge X 55 dX10_leadsOut_8 rfl (fun c8 => ?_) (fun c8 => ?_)
    · replace hf := ifT hf c8
      refine r_iconst X (v := 0) dX10_leadsOut_55 rfl ?_
      obtain rfl := Option.some.inj hf
      exact r_zreturn X hQ rfl rfl (Nat.le_of_ble_eq_true rfl) (Nat.le_of_ble_eq_true rfl) rfl dX10_leadsOut_56
    · replace hf := ifF hf c8
      refine r_aload_n X (x := k.b + (189)) dX10_leadsOut_11 rfl ?_
      refine r_iload_n X (x := x3) dX10_leadsOut_12 rfl ?_
      refine r_iconst X (v := 1) dX10_leadsOut_13 rfl ?_
      obtain ⟨u14, h14, hf⟩ := bdS hf
      refine r_callV0 X [.int x3, .int 1] [] (K10_ofValve h14) lkX10_74 clsX10 rfl _ o_model (by decide) (Nat.le_of_ble_eq_true rfl) rfl rfl (Nat.le_of_ble_eq_true rfl) rfl rfl (Nat.zero_le _) (Nat.zero_le _) dX10_leadsOut_14 ?_
      refine r_iconst X (v := (-1)) dX10_leadsOut_17 rfl ?_
      refine r_icmp_ne X 49 dX10_leadsOut_18 rfl (fun c18 => ?_) (fun c18 => ?_)
      · replace hf := ifF hf c18
        refine r_iinc X (x := x3) (v := x3 + 1) [some (.ref (k.b + (189))), some (.int x1), some (.int x2), some (.int (x3 + 1))] dX10_leadsOut_49 rfl rfl rfl ?_
        refine r_goto X 2 dX10_leadsOut_52 rfl ?_
        exact ih x1 x2 (x3 + 1) hf
      · replace hf := ifT hf c18
        refine r_iload_n X (x := x2) dX10_leadsOut_21 rfl ?_
        refine r_if_ne X 33 dX10_leadsOut_22 rfl (fun c22 => ?_) (fun c22 => ?_)
        · replace hf := ifF hf c22
          exact B10_leadsOut_B33 X hQ (f10_leadsOut_B2 w fu) ih x1 x2 x3 hf
        · replace hf := ifT hf c22
          refine r_aload_n X (x := k.b + (189)) dX10_leadsOut_25 rfl ?_
          refine r_iload_n X (x := x3) dX10_leadsOut_26 rfl ?_
          obtain ⟨u27, h27, hf⟩ := bdS hf
          refine r_callV0 X [.int x3] [] (K10_isOpen h27) lkX10_99 clsX10 rfl _ o_model (by decide) (Nat.le_of_ble_eq_true rfl) rfl rfl (Nat.le_of_ble_eq_true rfl) rfl rfl (Nat.zero_le _) (Nat.zero_le _) dX10_leadsOut_27 ?_
          refine r_if_eq X 49 dX10_leadsOut_30 rfl (fun c30 => ?_) (fun c30 => ?_)
          · replace hf := ifT hf c30
            refine r_iinc X (x := x3) (v := x3 + 1) [some (.ref (k.b + (189))), some (.int x1), some (.int x2), some (.int (x3 + 1))] dX10_leadsOut_49 rfl rfl rfl ?_
            refine r_goto X 2 dX10_leadsOut_52 rfl ?_
            exact ih x1 x2 (x3 + 1) hf
          · replace hf := ifF hf c30
            exact B10_leadsOut_B33 X hQ (f10_leadsOut_B2 w fu) ih x1 x2 x3 hf
set_option maxRecDepth 100000 in
set_option maxHeartbeats 4000000 in
theorem K10_leadsOut {k : KT} {T : TT} {R : RR} {ly : Fin 2 → LL} {rc : RC} {hn : HN} {rp : RP} {tp : TP} {ee : EE} {st : Fin 12 → SS} {w : Nat → Int64} {aside : Nat → Int64} {thought : Nat → Int64} {fresh : Nat → Int64} {mu : MU} {th : Int32} {mp : MP} {mf : MF} {mh : MH} {mg : MG} {ou : Nat → Int64} {od : Nat → UInt64}  {x1 : Int32} {x2 : Int32} {r : Int32} (hf : f10_leadsOut w  x1 x2 = some r) : CT k strs yX10_leadsOut cX10_leadsOut 4 (some .boolean) (rmD 3 0 0) 0 0 [.ref (k.b + (189)), .int x1, .int x2] (wAll k T R ly rc hn rp tp ee st w aside thought fresh mu th mp mf mh mg ou od) (some (.int r)) (wAll k T R ly rc hn rp tp ee st w aside thought fresh mu th mp mf mh mg ou od) := by
  refine CT.of (by decide) (Nat.le_of_ble_eq_true rfl) ?_
  intro z X hQ
  show VW k z 0 0 (wAll k T R ly rc hn rp tp ee st w aside thought fresh mu th mp mf mh mg ou od) 0 [some (.ref (k.b + (189))), some (.int x1), some (.int x2), none] []
  unfold f10_leadsOut at hf
  refine r_iconst X (v := 0) dX10_leadsOut_0 rfl ?_
  refine r_istore_n X [some (.ref (k.b + (189))), some (.int x1), some (.int x2), some (.int 0)] dX10_leadsOut_1 (Nat.le_of_ble_eq_true rfl) rfl ?_
  exact B10_leadsOut_B2 X hQ FU x1 x2 0 hf
set_option maxRecDepth 100000 in
set_option maxHeartbeats 4000000 in
theorem K10_isVented {k : KT} {T : TT} {R : RR} {ly : Fin 2 → LL} {rc : RC} {hn : HN} {rp : RP} {tp : TP} {ee : EE} {st : Fin 12 → SS} {w : Nat → Int64} {aside : Nat → Int64} {thought : Nat → Int64} {fresh : Nat → Int64} {mu : MU} {th : Int32} {mp : MP} {mf : MF} {mh : MH} {mg : MG} {ou : Nat → Int64} {od : Nat → UInt64}  {x1 : Int32} {r : Int32 × (Int32)} (hf : f10_isVented w th x1 = some r) : CT k strs yX10_isVented cX10_isVented 2 (some .boolean) (rmD 5 0 0) 0 0 [.ref (k.b + (189)), .int x1] (wAll k T R ly rc hn rp tp ee st w aside thought fresh mu th mp mf mh mg ou od) (some (.int r.1)) (wAll k T R ly rc hn rp tp ee st w aside thought fresh mu r.2 mp mf mh mg ou od) := by
  refine CT.of (by decide) (Nat.le_of_ble_eq_true rfl) ?_
  intro z X hQ
  show VW k z 0 0 (wAll k T R ly rc hn rp tp ee st w aside thought fresh mu th mp mf mh mg ou od) 0 [some (.ref (k.b + (189))), some (.int x1)] []
  unfold f10_isVented at hf
  refine r_aload_n X (x := k.b + (189)) dX10_isVented_0 rfl ?_
  refine r_aload_n X (x := k.b + (189)) dX10_isVented_1 rfl ?_
  refine r_iload_n X (x := x1) dX10_isVented_2 rfl ?_
  obtain ⟨u3, h3, hf⟩ := bdS hf
  refine r_callV0 X [.int x1] [.ref (k.b + (189))] (K10_isChamber h3) lkX10_179 clsX10 rfl _ o_model (by decide) (Nat.le_of_ble_eq_true rfl) rfl rfl (Nat.le_of_ble_eq_true rfl) rfl rfl (Nat.zero_le _) (Nat.zero_le _) dX10_isVented_3 ?_
  suffices K6 : VW k z 0 0 (wAll k T R ly rc hn rp tp ee st w aside thought fresh mu th mp mf mh mg ou od) 14 [some (.ref (k.b + (189))), some (.int x1)] [.int (if u3 = 0 then (1 : Int32) else (0 : Int32)), .ref (k.b + (189))] by
    refine r_if_ne X 13 dX10_isVented_6 rfl (fun c6 => ?_) (fun c6 => ?_)
    · refine r_iconst X (v := 0) dX10_isVented_13 rfl ?_
      rw [if_neg c6] at K6
      exact K6
    · refine r_iconst X (v := 1) dX10_isVented_9 rfl ?_
      refine r_goto X 14 dX10_isVented_10 rfl ?_
      rw [if_pos c6] at K6
      exact K6
  refine r_iconst X (v := 1) dX10_isVented_14 rfl ?_
  obtain ⟨u15, h15, hf⟩ := bdS hf
  refine r_callV0 X [.int (if u3 = 0 then (1 : Int32) else (0 : Int32)), .int 1] [] (K10_fails h15) lkX10_151 clsX10 rfl _ o_model (by decide) (Nat.le_of_ble_eq_true rfl) rfl rfl (Nat.le_of_ble_eq_true rfl) rfl rfl (Nat.zero_le _) (Nat.zero_le _) dX10_isVented_15 ?_
  refine r_if_ne X 38 dX10_isVented_18 rfl (fun c18 => ?_) (fun c18 => ?_)
  · replace hf := ifF hf c18
    refine r_iconst X (v := 0) dX10_isVented_38 rfl ?_
    obtain rfl := Option.some.inj hf
    exact r_zreturn X hQ rfl rfl (Nat.le_of_ble_eq_true rfl) (Nat.le_of_ble_eq_true rfl) rfl dX10_isVented_39
  · replace hf := ifT hf c18
    refine r_aload_n X (x := k.b + (189)) dX10_isVented_21 rfl ?_
    refine r_aload_n X (x := k.b + (189)) dX10_isVented_22 rfl ?_
    refine r_iload_n X (x := x1) dX10_isVented_23 rfl ?_
    obtain ⟨u24, h24, hf⟩ := bdS hf
    refine r_callV0 X [.int x1] [.ref (k.b + (189))] (K10_joinedWith h24) lkX10_379 clsX10 rfl _ o_model (by decide) (Nat.le_of_ble_eq_true rfl) rfl rfl (Nat.le_of_ble_eq_true rfl) rfl rfl (Nat.zero_le _) (Nat.zero_le _) dX10_isVented_24 ?_
    refine r_iconst X (v := 0) dX10_isVented_27 rfl ?_
    obtain ⟨u28, h28, hf⟩ := bdS hf
    refine r_callV0 X [.int u24, .int 0] [] (K10_leadsOut h28) lkX10_382 clsX10 rfl _ o_model (by decide) (Nat.le_of_ble_eq_true rfl) rfl rfl (Nat.le_of_ble_eq_true rfl) rfl rfl (Nat.zero_le _) (Nat.zero_le _) dX10_isVented_28 ?_
    refine r_if_eq X 38 dX10_isVented_31 rfl (fun c31 => ?_) (fun c31 => ?_)
    · replace hf := ifT hf c31
      refine r_iconst X (v := 0) dX10_isVented_38 rfl ?_
      obtain rfl := Option.some.inj hf
      exact r_zreturn X hQ rfl rfl (Nat.le_of_ble_eq_true rfl) (Nat.le_of_ble_eq_true rfl) rfl dX10_isVented_39
    · replace hf := ifF hf c31
      refine r_iconst X (v := 1) dX10_isVented_34 rfl ?_
      refine r_goto X 39 dX10_isVented_35 rfl ?_
      obtain rfl := Option.some.inj hf
      exact r_zreturn X hQ rfl rfl (Nat.le_of_ble_eq_true rfl) (Nat.le_of_ble_eq_true rfl) rfl dX10_isVented_39
set_option maxRecDepth 100000 in
set_option maxHeartbeats 4000000 in
theorem B10_spread_B41 {k : KT} {z : ZT} {T : TT} {R : RR} {ly : Fin 2 → LL} {rc : RC} {hn : HN} {rp : RP} {tp : TP} {ee : EE} {st : Fin 12 → SS} {w : Nat → Int64} {aside : Nat → Int64} {thought : Nat → Int64} {fresh : Nat → Int64} {mu : MU} {mp : MP} {mf : MF} {mh : MH} {mg : MG} {ou : Nat → Int64} {od : Nat → UInt64} {r : Int32 × (Int32)} (X : XX k strs z RX10 cX10_spread 8 (some .int) (rmD 5 0 0)) (hQ : zQ z = MQ (zB z) (Qof k (some (.int r.1)) (wAll k T R ly rc hn rp tp ee st w aside thought fresh mu r.2 mp mf mh mg ou od)) (zA z) (zS z) 0 0 (kA k)) : ∀ (fu : Nat) (th : Int32) (x2 : Int32) (x3 : Int64) (x5 : Int64) (x7 : Int32), f10_spread_B41 w fu th x2 x3 x5 x7 = some r → VW k z 0 0 (wAll k T R ly rc hn rp tp ee st w aside thought fresh mu th mp mf mh mg ou od) 41 [some (.ref (k.b + (189))), none, some (.int x2), some (.long x3), none, some (.long x5), none, some (.int x7)] [] := by
  intro fu
  induction fu with
  | zero =>
    intro th x2 x3 x5 x7 hf
    rw [f10_spread_B41] at hf
    cases hf
  | succ fu ih =>
    intro th x2 x3 x5 x7 hf
    rw [f10_spread_B41] at hf
    refine r_iload X (x := x7) dX10_spread_41 rfl ?_
    refine r_aload_n X (x := k.b + (189)) dX10_spread_43 rfl ?_
    refine r_iconst X (v := 0) dX10_spread_44 rfl ?_
    obtain ⟨u45, h45, hf⟩ := bdS hf
    refine r_callV0 X [.int 0] [.int x7] (K10_many h45) lkX10_93 clsX10 rfl _ o_model (by decide) (Nat.le_of_ble_eq_true rfl) rfl rfl (Nat.le_of_ble_eq_true rfl) rfl rfl (Nat.zero_le _) (Nat.zero_le _) dX10_spread_45 ?_
    refine r_icmp_ge X 93 dX10_spread_48 rfl (fun c48 => ?_) (fun c48 => ?_)
    · replace hf := ifT hf c48
      refine r_lload X (x := x5) dX10_spread_93 rfl ?_
      refine r_lload_n X (x := x3) dX10_spread_95 rfl ?_
      refine r_lsub X dX10_spread_96 ?_
      refine r_l2i X dX10_spread_97 ?_
      obtain rfl := Option.some.inj hf
      exact r_ireturn X hQ rfl rfl (Nat.le_of_ble_eq_true rfl) (Nat.le_of_ble_eq_true rfl) dX10_spread_98
    · replace hf := ifF hf c48
      refine r_iload_n X (x := x2) dX10_spread_51 rfl ?_
      refine r_iload X (x := x7) dX10_spread_52 rfl ?_
      refine r_ishr X dX10_spread_54 ?_
      refine r_iconst X (v := 1) dX10_spread_55 rfl ?_
      refine r_iand X dX10_spread_56 ?_
      refine r_if_ne X 63 dX10_spread_57 rfl (fun c57 => ?_) (fun c57 => ?_)
      · replace hf := ifF hf c57
        refine r_lload_n X (x := x3) dX10_spread_63 rfl ?_
        refine r_aload_n X (x := k.b + (189)) dX10_spread_64 rfl ?_
        refine r_iload X (x := x7) dX10_spread_65 rfl ?_
        obtain ⟨u67, h67, hf⟩ := bdS hf
        refine r_callV0 X [.int x7] [.long x3] (K10_pressure h67) lkX10_78 clsX10 rfl _ o_model (by decide) (Nat.le_of_ble_eq_true rfl) rfl rfl (Nat.le_of_ble_eq_true rfl) rfl rfl (Nat.zero_le _) (Nat.zero_le _) dX10_spread_67 ?_
        refine r_lmin X lkX10_111 rfl ⟨(Nat.le_of_ble_eq_true rfl), (Nat.le_of_ble_eq_true rfl)⟩ (Nat.zero_le _) (Nat.zero_le _) dX10_spread_70 ?_
        refine r_lstore_n X [some (.ref (k.b + (189))), none, some (.int x2), some (.long (if u67 < x3 then u67 else x3)), none, some (.long x5), none, some (.int x7)] dX10_spread_73 (Nat.le_of_ble_eq_true rfl) rfl ?_
        refine r_lload X (x := x5) dX10_spread_74 rfl ?_
        refine r_aload_n X (x := k.b + (189)) dX10_spread_76 rfl ?_
        refine r_iload X (x := x7) dX10_spread_77 rfl ?_
        obtain ⟨u79, h79, hf⟩ := bdS hf
        refine r_callV0 X [.int x7] [.long x5] (K10_pressure h79) lkX10_78 clsX10 rfl _ o_model (by decide) (Nat.le_of_ble_eq_true rfl) rfl rfl (Nat.le_of_ble_eq_true rfl) rfl rfl (Nat.zero_le _) (Nat.zero_le _) dX10_spread_79 ?_
        refine r_lmax X lkX10_386 rfl ⟨(Nat.le_of_ble_eq_true rfl), (Nat.le_of_ble_eq_true rfl)⟩ (Nat.zero_le _) (Nat.zero_le _) dX10_spread_82 ?_
        refine r_lstore X [some (.ref (k.b + (189))), none, some (.int x2), some (.long (if u67 < x3 then u67 else x3)), none, some (.long (if u79 < x5 then x5 else u79)), none, some (.int x7)] dX10_spread_85 (Nat.le_of_ble_eq_true rfl) rfl ?_
        refine r_iinc X (x := x7) (v := x7 + 1) [some (.ref (k.b + (189))), none, some (.int x2), some (.long (if u67 < x3 then u67 else x3)), none, some (.long (if u79 < x5 then x5 else u79)), none, some (.int (x7 + 1))] dX10_spread_87 rfl rfl rfl ?_
        refine r_goto X 41 dX10_spread_90 rfl ?_
        exact ih th x2 (if u67 < x3 then u67 else x3) (if u79 < x5 then x5 else u79) (x7 + 1) hf
      · replace hf := ifT hf c57
        refine r_goto X 87 dX10_spread_60 rfl ?_
        refine r_iinc X (x := x7) (v := x7 + 1) [some (.ref (k.b + (189))), none, some (.int x2), some (.long x3), none, some (.long x5), none, some (.int (x7 + 1))] dX10_spread_87 rfl rfl rfl ?_
        refine r_goto X 41 dX10_spread_90 rfl ?_
        exact ih th x2 x3 x5 (x7 + 1) hf
set_option maxRecDepth 100000 in
set_option maxHeartbeats 4000000 in
theorem K10_spread {k : KT} {T : TT} {R : RR} {ly : Fin 2 → LL} {rc : RC} {hn : HN} {rp : RP} {tp : TP} {ee : EE} {st : Fin 12 → SS} {w : Nat → Int64} {aside : Nat → Int64} {thought : Nat → Int64} {fresh : Nat → Int64} {mu : MU} {th : Int32} {mp : MP} {mf : MF} {mh : MH} {mg : MG} {ou : Nat → Int64} {od : Nat → UInt64}  {x1 : Int32} {r : Int32 × (Int32)} (hf : f10_spread w th x1 = some r) : CT k strs yX10_spread cX10_spread 8 (some .int) (rmD 5 0 0) 0 0 [.ref (k.b + (189)), .int x1] (wAll k T R ly rc hn rp tp ee st w aside thought fresh mu th mp mf mh mg ou od) (some (.int r.1)) (wAll k T R ly rc hn rp tp ee st w aside thought fresh mu r.2 mp mf mh mg ou od) := by
  refine CT.of (by decide) (Nat.le_of_ble_eq_true rfl) ?_
  intro z X hQ
  show VW k z 0 0 (wAll k T R ly rc hn rp tp ee st w aside thought fresh mu th mp mf mh mg ou od) 0 [some (.ref (k.b + (189))), some (.int x1), none, none, none, none, none, none] []
  unfold f10_spread at hf
  refine r_aload_n X (x := k.b + (189)) dX10_spread_0 rfl ?_
  refine r_aload_n X (x := k.b + (189)) dX10_spread_1 rfl ?_
  refine r_iload_n X (x := x1) dX10_spread_2 rfl ?_
  obtain ⟨u3, h3, hf⟩ := bdS hf
  refine r_callV0 X [.int x1] [.ref (k.b + (189))] (K10_isChamber h3) lkX10_179 clsX10 rfl _ o_model (by decide) (Nat.le_of_ble_eq_true rfl) rfl rfl (Nat.le_of_ble_eq_true rfl) rfl rfl (Nat.zero_le _) (Nat.zero_le _) dX10_spread_3 ?_
  suffices K6 : VW k z 0 0 (wAll k T R ly rc hn rp tp ee st w aside thought fresh mu th mp mf mh mg ou od) 14 [some (.ref (k.b + (189))), some (.int x1), none, none, none, none, none, none] [.int (if u3 = 0 then (1 : Int32) else (0 : Int32)), .ref (k.b + (189))] by
    refine r_if_ne X 13 dX10_spread_6 rfl (fun c6 => ?_) (fun c6 => ?_)
    · refine r_iconst X (v := 0) dX10_spread_13 rfl ?_
      rw [if_neg c6] at K6
      exact K6
    · refine r_iconst X (v := 1) dX10_spread_9 rfl ?_
      refine r_goto X 14 dX10_spread_10 rfl ?_
      rw [if_pos c6] at K6
      exact K6
  refine r_iconst X (v := 1) dX10_spread_14 rfl ?_
  obtain ⟨u15, h15, hf⟩ := bdS hf
  refine r_callV0 X [.int (if u3 = 0 then (1 : Int32) else (0 : Int32)), .int 1] [] (K10_fails h15) lkX10_151 clsX10 rfl _ o_model (by decide) (Nat.le_of_ble_eq_true rfl) rfl rfl (Nat.le_of_ble_eq_true rfl) rfl rfl (Nat.zero_le _) (Nat.zero_le _) dX10_spread_15 ?_
  refine r_if_eq X 23 dX10_spread_18 rfl (fun c18 => ?_) (fun c18 => ?_)
  · replace hf := ifT hf c18
    refine r_aload_n X (x := k.b + (189)) dX10_spread_23 rfl ?_
    refine r_iload_n X (x := x1) dX10_spread_24 rfl ?_
    obtain ⟨u25, h25, hf⟩ := bdS hf
    refine r_callV0 X [.int x1] [] (K10_joinedWith h25) lkX10_379 clsX10 rfl _ o_model (by decide) (Nat.le_of_ble_eq_true rfl) rfl rfl (Nat.le_of_ble_eq_true rfl) rfl rfl (Nat.zero_le _) (Nat.zero_le _) dX10_spread_25 ?_
    refine r_istore_n X [some (.ref (k.b + (189))), some (.int x1), some (.int u25), none, none, none, none, none] dX10_spread_28 (Nat.le_of_ble_eq_true rfl) rfl ?_
    refine r_aload_n X (x := k.b + (189)) dX10_spread_29 rfl ?_
    refine r_iload_n X (x := x1) dX10_spread_30 rfl ?_
    obtain ⟨u31, h31, hf⟩ := bdS hf
    refine r_callV0 X [.int x1] [] (K10_pressure h31) lkX10_78 clsX10 rfl _ o_model (by decide) (Nat.le_of_ble_eq_true rfl) rfl rfl (Nat.le_of_ble_eq_true rfl) rfl rfl (Nat.zero_le _) (Nat.zero_le _) dX10_spread_31 ?_
    refine r_lstore_n X [some (.ref (k.b + (189))), some (.int x1), some (.int u25), some (.long u31), none, none, none, none] dX10_spread_34 (Nat.le_of_ble_eq_true rfl) rfl ?_
    refine r_lload_n X (x := u31) dX10_spread_35 rfl ?_
    refine r_lstore X [some (.ref (k.b + (189))), some (.int x1), some (.int u25), some (.long u31), none, some (.long u31), none, none] dX10_spread_36 (Nat.le_of_ble_eq_true rfl) rfl ?_
    refine r_iconst X (v := 0) dX10_spread_38 rfl ?_
    refine r_istore X [some (.ref (k.b + (189))), some (.int x1), some (.int u25), some (.long u31), none, some (.long u31), none, some (.int 0)] dX10_spread_39 (Nat.le_of_ble_eq_true rfl) rfl ?_
    refine VW.msk [true, false, true, true, false, true, false, true] rfl (lo' := [some (.ref (k.b + (189))), none, some (.int u25), some (.long u31), none, some (.long u31), none, some (.int 0)]) rfl ?_
    exact B10_spread_B41 X hQ FU u15.2 u25 u31 u31 0 hf
  · replace hf := ifF hf c18
    refine r_iconst X (v := 0) dX10_spread_21 rfl ?_
    obtain rfl := Option.some.inj hf
    exact r_ireturn X hQ rfl rfl (Nat.le_of_ble_eq_true rfl) (Nat.le_of_ble_eq_true rfl) dX10_spread_22
set_option maxRecDepth 100000 in
set_option maxHeartbeats 4000000 in
theorem K10_isIsolated {k : KT} {T : TT} {R : RR} {ly : Fin 2 → LL} {rc : RC} {hn : HN} {rp : RP} {tp : TP} {ee : EE} {st : Fin 12 → SS} {w : Nat → Int64} {aside : Nat → Int64} {thought : Nat → Int64} {fresh : Nat → Int64} {mu : MU} {th : Int32} {mp : MP} {mf : MF} {mh : MH} {mg : MG} {ou : Nat → Int64} {od : Nat → UInt64}  {x1 : Int32} {r : Int32 × (Int32)} (hf : f10_isIsolated w th x1 = some r) : CT k strs yX10_isIsolated cX10_isIsolated 2 (some .boolean) (rmD 4 0 0) 0 0 [.ref (k.b + (189)), .int x1] (wAll k T R ly rc hn rp tp ee st w aside thought fresh mu th mp mf mh mg ou od) (some (.int r.1)) (wAll k T R ly rc hn rp tp ee st w aside thought fresh mu r.2 mp mf mh mg ou od) := by
  refine CT.of (by decide) (Nat.le_of_ble_eq_true rfl) ?_
  intro z X hQ
  show VW k z 0 0 (wAll k T R ly rc hn rp tp ee st w aside thought fresh mu th mp mf mh mg ou od) 0 [some (.ref (k.b + (189))), some (.int x1)] []
  unfold f10_isIsolated at hf
  refine r_aload_n X (x := k.b + (189)) dX10_isIsolated_0 rfl ?_
  refine r_aload_n X (x := k.b + (189)) dX10_isIsolated_1 rfl ?_
  refine r_iload_n X (x := x1) dX10_isIsolated_2 rfl ?_
  obtain ⟨u3, h3, hf⟩ := bdS hf
  refine r_callV0 X [.int x1] [.ref (k.b + (189))] (K10_isChamber h3) lkX10_179 clsX10 rfl _ o_model (by decide) (Nat.le_of_ble_eq_true rfl) rfl rfl (Nat.le_of_ble_eq_true rfl) rfl rfl (Nat.zero_le _) (Nat.zero_le _) dX10_isIsolated_3 ?_
  suffices K6 : VW k z 0 0 (wAll k T R ly rc hn rp tp ee st w aside thought fresh mu th mp mf mh mg ou od) 14 [some (.ref (k.b + (189))), some (.int x1)] [.int (if u3 = 0 then (1 : Int32) else (0 : Int32)), .ref (k.b + (189))] by
    refine r_if_ne X 13 dX10_isIsolated_6 rfl (fun c6 => ?_) (fun c6 => ?_)
    · refine r_iconst X (v := 0) dX10_isIsolated_13 rfl ?_
      rw [if_neg c6] at K6
      exact K6
    · refine r_iconst X (v := 1) dX10_isIsolated_9 rfl ?_
      refine r_goto X 14 dX10_isIsolated_10 rfl ?_
      rw [if_pos c6] at K6
      exact K6
  refine r_iconst X (v := 1) dX10_isIsolated_14 rfl ?_
  obtain ⟨u15, h15, hf⟩ := bdS hf
  refine r_callV0 X [.int (if u3 = 0 then (1 : Int32) else (0 : Int32)), .int 1] [] (K10_fails h15) lkX10_151 clsX10 rfl _ o_model (by decide) (Nat.le_of_ble_eq_true rfl) rfl rfl (Nat.le_of_ble_eq_true rfl) rfl rfl (Nat.zero_le _) (Nat.zero_le _) dX10_isIsolated_15 ?_
  refine r_if_ne X 33 dX10_isIsolated_18 rfl (fun c18 => ?_) (fun c18 => ?_)
  · replace hf := ifF hf c18
    refine r_iconst X (v := 0) dX10_isIsolated_33 rfl ?_
    obtain rfl := Option.some.inj hf
    exact r_zreturn X hQ rfl rfl (Nat.le_of_ble_eq_true rfl) (Nat.le_of_ble_eq_true rfl) rfl dX10_isIsolated_34
  · replace hf := ifT hf c18
    refine r_aload_n X (x := k.b + (189)) dX10_isIsolated_21 rfl ?_
    refine r_iload_n X (x := x1) dX10_isIsolated_22 rfl ?_
    obtain ⟨u23, h23, hf⟩ := bdS hf
    refine r_callV0 X [.int x1] [] (K10_isAlone h23) lkX10_217 clsX10 rfl _ o_model (by decide) (Nat.le_of_ble_eq_true rfl) rfl rfl (Nat.le_of_ble_eq_true rfl) rfl rfl (Nat.zero_le _) (Nat.zero_le _) dX10_isIsolated_23 ?_
    refine r_if_eq X 33 dX10_isIsolated_26 rfl (fun c26 => ?_) (fun c26 => ?_)
    · replace hf := ifT hf c26
      refine r_iconst X (v := 0) dX10_isIsolated_33 rfl ?_
      obtain rfl := Option.some.inj hf
      exact r_zreturn X hQ rfl rfl (Nat.le_of_ble_eq_true rfl) (Nat.le_of_ble_eq_true rfl) rfl dX10_isIsolated_34
    · replace hf := ifF hf c26
      refine r_iconst X (v := 1) dX10_isIsolated_29 rfl ?_
      refine r_goto X 34 dX10_isIsolated_30 rfl ?_
      obtain rfl := Option.some.inj hf
      exact r_zreturn X hQ rfl rfl (Nat.le_of_ble_eq_true rfl) (Nat.le_of_ble_eq_true rfl) rfl dX10_isIsolated_34
set_option maxRecDepth 100000 in
set_option maxHeartbeats 4000000 in
theorem B10_fewestValves_B80 {k : KT} {z : ZT} {T : TT} {R : RR} {ly : Fin 2 → LL} {rc : RC} {hn : HN} {rp : RP} {tp : TP} {ee : EE} {st : Fin 12 → SS} {w : Nat → Int64} {aside : Nat → Int64} {thought : Nat → Int64} {fresh : Nat → Int64} {mu : MU} {mp : MP} {mf : MF} {mh : MH} {mg : MG} {ou : Nat → Int64} {od : Nat → UInt64} {r : Int32 × (Int32)} (X : XX k strs z RX10 cX10_fewestValves 5 (some .int) (rmD 4 0 0)) (hQ : zQ z = MQ (zB z) (Qof k (some (.int r.1)) (wAll k T R ly rc hn rp tp ee st w aside thought fresh mu r.2 mp mf mh mg ou od)) (zA z) (zS z) 0 0 (kA k)) (rec : Int32 → Int32 → Int32 → Int32 → Option (Int32 × (Int32))) (hrec : ∀ (th : Int32) (x2 : Int32) (x3 : Int32) (x4 : Int32), rec th x2 x3 x4 = some r → VW k z 0 0 (wAll k T R ly rc hn rp tp ee st w aside thought fresh mu th mp mf mh mg ou od) 56 [some (.ref (k.b + (189))), none, some (.int x2), some (.int x3), some (.int x4)] []) (th : Int32) (x2 : Int32) (x3 : Int32) (x4 : Int32) (hf : f10_fewestValves_B80 w rec th x2 x3 x4 = some r) : VW k z 0 0 (wAll k T R ly rc hn rp tp ee st w aside thought fresh mu th mp mf mh mg ou od) 80 [some (.ref (k.b + (189))), none, some (.int x2), some (.int x3), some (.int x4)] [] := by
  unfold f10_fewestValves_B80 at hf
  refine r_iload_n X (x := x2) dX10_fewestValves_80 rfl ?_
  refine r_iconst X (v := (-1)) dX10_fewestValves_81 rfl ?_
  refine r_icmp_ne X 99 dX10_fewestValves_82 rfl (fun c82 => ?_) (fun c82 => ?_)
  · replace hf := ifF hf c82
    refine r_aload_n X (x := k.b + (189)) dX10_fewestValves_99 rfl ?_
    refine r_iload_n X (x := x3) dX10_fewestValves_100 rfl ?_
    refine r_iconst X (v := 1) dX10_fewestValves_101 rfl ?_
    obtain ⟨u102, h102, hf⟩ := bdS hf
    refine r_callV0 X [.int x3, .int 1] [] (K10_beside h102) lkX10_375 clsX10 rfl _ o_model (by decide) (Nat.le_of_ble_eq_true rfl) rfl rfl (Nat.le_of_ble_eq_true rfl) rfl rfl (Nat.zero_le _) (Nat.zero_le _) dX10_fewestValves_102 ?_
    refine r_istore_n X [some (.ref (k.b + (189))), none, some (.int x2), some (.int u102), some (.int x4)] dX10_fewestValves_105 (Nat.le_of_ble_eq_true rfl) rfl ?_
    refine r_iinc X (x := x4) (v := x4 + 1) [some (.ref (k.b + (189))), none, some (.int x2), some (.int u102), some (.int (x4 + 1))] dX10_fewestValves_106 rfl rfl rfl ?_
    refine r_goto X 56 dX10_fewestValves_109 rfl ?_
    exact hrec th x2 u102 (x4 + 1) hf
  · replace hf := ifT hf c82
    refine r_aload_n X (x := k.b + (189)) dX10_fewestValves_85 rfl ?_
    refine r_iload_n X (x := x3) dX10_fewestValves_86 rfl ?_
    refine r_iconst X (v := 1) dX10_fewestValves_87 rfl ?_
    obtain ⟨u88, h88, hf⟩ := bdS hf
    refine r_callV0 X [.int x3, .int 1] [] (K10_leadsOut h88) lkX10_382 clsX10 rfl _ o_model (by decide) (Nat.le_of_ble_eq_true rfl) rfl rfl (Nat.le_of_ble_eq_true rfl) rfl rfl (Nat.zero_le _) (Nat.zero_le _) dX10_fewestValves_88 ?_
    refine r_if_eq X 99 dX10_fewestValves_91 rfl (fun c91 => ?_) (fun c91 => ?_)
    · replace hf := ifT hf c91
      refine r_aload_n X (x := k.b + (189)) dX10_fewestValves_99 rfl ?_
      refine r_iload_n X (x := x3) dX10_fewestValves_100 rfl ?_
      refine r_iconst X (v := 1) dX10_fewestValves_101 rfl ?_
      obtain ⟨u102, h102, hf⟩ := bdS hf
      refine r_callV0 X [.int x3, .int 1] [] (K10_beside h102) lkX10_375 clsX10 rfl _ o_model (by decide) (Nat.le_of_ble_eq_true rfl) rfl rfl (Nat.le_of_ble_eq_true rfl) rfl rfl (Nat.zero_le _) (Nat.zero_le _) dX10_fewestValves_102 ?_
      refine r_istore_n X [some (.ref (k.b + (189))), none, some (.int x2), some (.int u102), some (.int x4)] dX10_fewestValves_105 (Nat.le_of_ble_eq_true rfl) rfl ?_
      refine r_iinc X (x := x4) (v := x4 + 1) [some (.ref (k.b + (189))), none, some (.int x2), some (.int u102), some (.int (x4 + 1))] dX10_fewestValves_106 rfl rfl rfl ?_
      refine r_goto X 56 dX10_fewestValves_109 rfl ?_
      exact hrec th x2 u102 (x4 + 1) hf
    · replace hf := ifF hf c91
      refine r_iload X (x := x4) dX10_fewestValves_94 rfl ?_
      refine r_iconst X (v := 1) dX10_fewestValves_96 rfl ?_
      refine r_iadd X dX10_fewestValves_97 ?_
      obtain rfl := Option.some.inj hf
      exact r_ireturn X hQ rfl rfl (Nat.le_of_ble_eq_true rfl) (Nat.le_of_ble_eq_true rfl) dX10_fewestValves_98
set_option maxRecDepth 100000 in
set_option maxHeartbeats 4000000 in
theorem B10_fewestValves_B56 {k : KT} {z : ZT} {T : TT} {R : RR} {ly : Fin 2 → LL} {rc : RC} {hn : HN} {rp : RP} {tp : TP} {ee : EE} {st : Fin 12 → SS} {w : Nat → Int64} {aside : Nat → Int64} {thought : Nat → Int64} {fresh : Nat → Int64} {mu : MU} {mp : MP} {mf : MF} {mh : MH} {mg : MG} {ou : Nat → Int64} {od : Nat → UInt64} {r : Int32 × (Int32)} (X : XX k strs z RX10 cX10_fewestValves 5 (some .int) (rmD 4 0 0)) (hQ : zQ z = MQ (zB z) (Qof k (some (.int r.1)) (wAll k T R ly rc hn rp tp ee st w aside thought fresh mu r.2 mp mf mh mg ou od)) (zA z) (zS z) 0 0 (kA k)) : ∀ (fu : Nat) (th : Int32) (x2 : Int32) (x3 : Int32) (x4 : Int32), f10_fewestValves_B56 w fu th x2 x3 x4 = some r → VW k z 0 0 (wAll k T R ly rc hn rp tp ee st w aside thought fresh mu th mp mf mh mg ou od) 56 [some (.ref (k.b + (189))), none, some (.int x2), some (.int x3), some (.int x4)] [] := by
  intro fu
  induction fu with
  | zero =>
    intro th x2 x3 x4 hf
    rw [f10_fewestValves_B56] at hf
    cases hf
  | succ fu ih =>
    intro th x2 x3 x4 hf
    rw [f10_fewestValves_B56] at hf
    refine r_iload X (x := x4) dX10_fewestValves_56 rfl ?_
    refine r_bipush X (v := 8) dX10_fewestValves_58 rfl ?_
    refine r_icmp_gt X 112 dX10_fewestValves_60 rfl (fun c60 => ?_) (fun c60 => ?_)
    · replace hf := ifT hf c60
      refine r_iconst X (v := (-1)) dX10_fewestValves_112 rfl ?_
      obtain rfl := Option.some.inj hf
      exact r_ireturn X hQ rfl rfl (Nat.le_of_ble_eq_true rfl) (Nat.le_of_ble_eq_true rfl) dX10_fewestValves_113
    · replace hf := ifF hf c60
      refine r_iload_n X (x := x2) dX10_fewestValves_63 rfl ?_
      refine r_iconst X (v := (-1)) dX10_fewestValves_64 rfl ?_
      refine r_icmp_eq X 80 dX10_fewestValves_65 rfl (fun c65 => ?_) (fun c65 => ?_)
      · replace hf := ifT hf c65
        exact B10_fewestValves_B80 X hQ (f10_fewestValves_B56 w fu) ih th x2 x3 x4 hf
      · replace hf := ifF hf c65
        refine r_iload_n X (x := x3) dX10_fewestValves_68 rfl ?_
        refine r_iload_n X (x := x2) dX10_fewestValves_69 rfl ?_
        refine r_ishr X dX10_fewestValves_70 ?_
        refine r_iconst X (v := 1) dX10_fewestValves_71 rfl ?_
        refine r_iand X dX10_fewestValves_72 ?_
        refine r_iconst X (v := 1) dX10_fewestValves_73 rfl ?_
        refine r_icmp_ne X 80 dX10_fewestValves_74 rfl (fun c74 => ?_) (fun c74 => ?_)
        · replace hf := ifF hf c74
          exact B10_fewestValves_B80 X hQ (f10_fewestValves_B56 w fu) ih th x2 x3 x4 hf
        · replace hf := ifT hf c74
          refine r_iload X (x := x4) dX10_fewestValves_77 rfl ?_
          obtain rfl := Option.some.inj hf
          exact r_ireturn X hQ rfl rfl (Nat.le_of_ble_eq_true rfl) (Nat.le_of_ble_eq_true rfl) dX10_fewestValves_79
set_option maxRecDepth 100000 in
set_option maxHeartbeats 4000000 in
theorem B10_fewestValves_B40 {k : KT} {z : ZT} {T : TT} {R : RR} {ly : Fin 2 → LL} {rc : RC} {hn : HN} {rp : RP} {tp : TP} {ee : EE} {st : Fin 12 → SS} {w : Nat → Int64} {aside : Nat → Int64} {thought : Nat → Int64} {fresh : Nat → Int64} {mu : MU} {mp : MP} {mf : MF} {mh : MH} {mg : MG} {ou : Nat → Int64} {od : Nat → UInt64} {r : Int32 × (Int32)} (X : XX k strs z RX10 cX10_fewestValves 5 (some .int) (rmD 4 0 0)) (hQ : zQ z = MQ (zB z) (Qof k (some (.int r.1)) (wAll k T R ly rc hn rp tp ee st w aside thought fresh mu r.2 mp mf mh mg ou od)) (zA z) (zS z) 0 0 (kA k)) (th : Int32) (x1 : Int32) (x2 : Int32) (t1 : Int32) (hf : f10_fewestValves_B40 w th x1 x2 t1 = some r) : VW k z 0 0 (wAll k T R ly rc hn rp tp ee st w aside thought fresh mu th mp mf mh mg ou od) 40 [some (.ref (k.b + (189))), some (.int x1), some (.int x2), none, none] [.int t1, .ref (k.b + (189))] := by
  unfold f10_fewestValves_B40 at hf
  refine r_iconst X (v := 2) dX10_fewestValves_40 rfl ?_
  obtain ⟨u41, h41, hf⟩ := bdS hf
  refine r_callV0 X [.int t1, .int 2] [] (K10_fails h41) lkX10_151 clsX10 rfl _ o_model (by decide) (Nat.le_of_ble_eq_true rfl) rfl rfl (Nat.le_of_ble_eq_true rfl) rfl rfl (Nat.zero_le _) (Nat.zero_le _) dX10_fewestValves_41 ?_
  refine r_if_eq X 49 dX10_fewestValves_44 rfl (fun c44 => ?_) (fun c44 => ?_)
  · replace hf := ifT hf c44
    refine r_iconst X (v := 1) dX10_fewestValves_49 rfl ?_
    refine r_iload_n X (x := x1) dX10_fewestValves_50 rfl ?_
    refine r_ishl X dX10_fewestValves_51 ?_
    refine r_istore_n X [some (.ref (k.b + (189))), some (.int x1), some (.int x2), some (.int (1 <<< (x1 &&& 31))), none] dX10_fewestValves_52 (Nat.le_of_ble_eq_true rfl) rfl ?_
    refine r_iconst X (v := 0) dX10_fewestValves_53 rfl ?_
    refine r_istore X [some (.ref (k.b + (189))), some (.int x1), some (.int x2), some (.int (1 <<< (x1 &&& 31))), some (.int 0)] dX10_fewestValves_54 (Nat.le_of_ble_eq_true rfl) rfl ?_
    refine VW.msk [true, false, true, true, true] rfl (lo' := [some (.ref (k.b + (189))), none, some (.int x2), some (.int (1 <<< (x1 &&& 31))), some (.int 0)]) rfl ?_
    exact B10_fewestValves_B56 X hQ FU u41.2 x2 (1 <<< (x1 &&& 31)) 0 hf
  · replace hf := ifF hf c44
    refine r_iconst X (v := 0) dX10_fewestValves_47 rfl ?_
    obtain rfl := Option.some.inj hf
    exact r_ireturn X hQ rfl rfl (Nat.le_of_ble_eq_true rfl) (Nat.le_of_ble_eq_true rfl) dX10_fewestValves_48
set_option maxRecDepth 100000 in
set_option maxHeartbeats 4000000 in
theorem K10_fewestValves {k : KT} {T : TT} {R : RR} {ly : Fin 2 → LL} {rc : RC} {hn : HN} {rp : RP} {tp : TP} {ee : EE} {st : Fin 12 → SS} {w : Nat → Int64} {aside : Nat → Int64} {thought : Nat → Int64} {fresh : Nat → Int64} {mu : MU} {th : Int32} {mp : MP} {mf : MF} {mh : MH} {mg : MG} {ou : Nat → Int64} {od : Nat → UInt64}  {x1 : Int32} {x2 : Int32} {r : Int32 × (Int32)} (hf : f10_fewestValves w th x1 x2 = some r) : CT k strs yX10_fewestValves cX10_fewestValves 5 (some .int) (rmD 4 0 0) 0 0 [.ref (k.b + (189)), .int x1, .int x2] (wAll k T R ly rc hn rp tp ee st w aside thought fresh mu th mp mf mh mg ou od) (some (.int r.1)) (wAll k T R ly rc hn rp tp ee st w aside thought fresh mu r.2 mp mf mh mg ou od) := by
  refine CT.of (by decide) (Nat.le_of_ble_eq_true rfl) ?_
  intro z X hQ
  show VW k z 0 0 (wAll k T R ly rc hn rp tp ee st w aside thought fresh mu th mp mf mh mg ou od) 0 [some (.ref (k.b + (189))), some (.int x1), some (.int x2), none, none] []
  unfold f10_fewestValves at hf
  refine r_aload_n X (x := k.b + (189)) dX10_fewestValves_0 rfl ?_
  refine r_aload_n X (x := k.b + (189)) dX10_fewestValves_1 rfl ?_
  refine r_iload_n X (x := x1) dX10_fewestValves_2 rfl ?_
  obtain ⟨u3, h3, hf⟩ := bdS hf
  refine r_callV0 X [.int x1] [.ref (k.b + (189))] (K10_isChamber h3) lkX10_179 clsX10 rfl _ o_model (by decide) (Nat.le_of_ble_eq_true rfl) rfl rfl (Nat.le_of_ble_eq_true rfl) rfl rfl (Nat.zero_le _) (Nat.zero_le _) dX10_fewestValves_3 ?_
  suffices K6 : VW k z 0 0 (wAll k T R ly rc hn rp tp ee st w aside thought fresh mu th mp mf mh mg ou od) 14 [some (.ref (k.b + (189))), some (.int x1), some (.int x2), none, none] [.int (if u3 = 0 then (1 : Int32) else (0 : Int32)), .ref (k.b + (189))] by
    refine r_if_ne X 13 dX10_fewestValves_6 rfl (fun c6 => ?_) (fun c6 => ?_)
    · refine r_iconst X (v := 0) dX10_fewestValves_13 rfl ?_
      rw [if_neg c6] at K6
      exact K6
    · refine r_iconst X (v := 1) dX10_fewestValves_9 rfl ?_
      refine r_goto X 14 dX10_fewestValves_10 rfl ?_
      rw [if_pos c6] at K6
      exact K6
  refine r_iconst X (v := 1) dX10_fewestValves_14 rfl ?_
  obtain ⟨u15, h15, hf⟩ := bdS hf
  refine r_callV0 X [.int (if u3 = 0 then (1 : Int32) else (0 : Int32)), .int 1] [] (K10_fails h15) lkX10_151 clsX10 rfl _ o_model (by decide) (Nat.le_of_ble_eq_true rfl) rfl rfl (Nat.le_of_ble_eq_true rfl) rfl rfl (Nat.zero_le _) (Nat.zero_le _) dX10_fewestValves_15 ?_
  refine r_if_ne X 47 dX10_fewestValves_18 rfl (fun c18 => ?_) (fun c18 => ?_)
  · replace hf := ifF hf c18
    refine r_iconst X (v := 0) dX10_fewestValves_47 rfl ?_
    obtain rfl := Option.some.inj hf
    exact r_ireturn X hQ rfl rfl (Nat.le_of_ble_eq_true rfl) (Nat.le_of_ble_eq_true rfl) dX10_fewestValves_48
  · replace hf := ifT hf c18
    refine r_aload_n X (x := k.b + (189)) dX10_fewestValves_21 rfl ?_
    refine r_iload_n X (x := x2) dX10_fewestValves_22 rfl ?_
    refine r_iconst X (v := (-1)) dX10_fewestValves_23 rfl ?_
    refine r_icmp_eq X 39 dX10_fewestValves_24 rfl (fun c24 => ?_) (fun c24 => ?_)
    · replace hf := ifT hf c24
      refine r_iconst X (v := 0) dX10_fewestValves_39 rfl ?_
      exact B10_fewestValves_B40 X hQ u15.2 x1 x2 0 hf
    · replace hf := ifF hf c24
      refine r_aload_n X (x := k.b + (189)) dX10_fewestValves_27 rfl ?_
      refine r_iload_n X (x := x2) dX10_fewestValves_28 rfl ?_
      obtain ⟨u29, h29, hf⟩ := bdS hf
      refine r_callV0 X [.int x2] [.ref (k.b + (189))] (K10_isChamber h29) lkX10_179 clsX10 rfl _ o_model (by decide) (Nat.le_of_ble_eq_true rfl) rfl rfl (Nat.le_of_ble_eq_true rfl) rfl rfl (Nat.zero_le _) (Nat.zero_le _) dX10_fewestValves_29 ?_
      refine r_if_ne X 39 dX10_fewestValves_32 rfl (fun c32 => ?_) (fun c32 => ?_)
      · replace hf := ifF hf c32
        refine r_iconst X (v := 0) dX10_fewestValves_39 rfl ?_
        exact B10_fewestValves_B40 X hQ u15.2 x1 x2 0 hf
      · replace hf := ifT hf c32
        refine r_iconst X (v := 1) dX10_fewestValves_35 rfl ?_
        refine r_goto X 40 dX10_fewestValves_36 rfl ?_
        exact B10_fewestValves_B40 X hQ u15.2 x1 x2 1 hf
set_option maxRecDepth 100000 in
set_option maxHeartbeats 4000000 in
theorem B10_settled_B74 {k : KT} {z : ZT} {T : TT} {R : RR} {ly : Fin 2 → LL} {rc : RC} {hn : HN} {rp : RP} {tp : TP} {ee : EE} {st : Fin 12 → SS} {w : Nat → Int64} {aside : Nat → Int64} {thought : Nat → Int64} {fresh : Nat → Int64} {mu : MU} {mp : MP} {mf : MF} {mh : MH} {mg : MG} {ou : Nat → Int64} {od : Nat → UInt64} {r : Int32 × (Int32)} (X : XX k strs z RX10 cX10_settled 8 (some .int) (rmD 5 0 0)) (hQ : zQ z = MQ (zB z) (Qof k (some (.int r.1)) (wAll k T R ly rc hn rp tp ee st w aside thought fresh mu r.2 mp mf mh mg ou od)) (zA z) (zS z) 0 0 (kA k)) (rec : Int32 → Int32 → Int64 → Int64 → Int32 → Option (Int32 × (Int32))) (hrec : ∀ (th : Int32) (x2 : Int32) (x3 : Int64) (x5 : Int64) (x7 : Int32), rec th x2 x3 x5 x7 = some r → VW k z 0 0 (wAll k T R ly rc hn rp tp ee st w aside thought fresh mu th mp mf mh mg ou od) 37 [some (.ref (k.b + (189))), none, some (.int x2), some (.long x3), none, some (.long x5), none, some (.int x7)] []) (th : Int32) (x2 : Int32) (x5 : Int64) (x7 : Int32) (t0 : Int64) (t1 : Int64) (hf : f10_settled_B74 w rec th x2 x5 x7 t0 t1 = some r) : VW k z 0 0 (wAll k T R ly rc hn rp tp ee st w aside thought fresh mu th mp mf mh mg ou od) 74 [some (.ref (k.b + (189))), none, some (.int x2), none, none, some (.long x5), none, some (.int x7)] [.long t1, .long t0] := by
  unfold f10_settled_B74 at hf
  refine r_ladd X dX10_settled_74 ?_
  refine r_lstore_n X [some (.ref (k.b + (189))), none, some (.int x2), some (.long (t0 + t1)), none, some (.long x5), none, some (.int x7)] dX10_settled_75 (Nat.le_of_ble_eq_true rfl) rfl ?_
  refine r_lload X (x := x5) dX10_settled_76 rfl ?_
  refine r_iload_n X (x := x2) dX10_settled_78 rfl ?_
  refine r_iload X (x := x7) dX10_settled_79 rfl ?_
  refine r_ishr X dX10_settled_81 ?_
  refine r_iconst X (v := 1) dX10_settled_82 rfl ?_
  refine r_iand X dX10_settled_83 ?_
  refine r_iconst X (v := 1) dX10_settled_84 rfl ?_
  refine r_icmp_ne X 97 dX10_settled_85 rfl (fun c85 => ?_) (fun c85 => ?_)
  · replace hf := ifF hf c85
    refine r_lconst X (v := 0) dX10_settled_97 rfl ?_
    refine r_ladd X dX10_settled_98 ?_
    refine r_lstore X [some (.ref (k.b + (189))), none, some (.int x2), some (.long (t0 + t1)), none, some (.long (x5 + 0)), none, some (.int x7)] dX10_settled_99 (Nat.le_of_ble_eq_true rfl) rfl ?_
    refine r_iinc X (x := x7) (v := x7 + 1) [some (.ref (k.b + (189))), none, some (.int x2), some (.long (t0 + t1)), none, some (.long (x5 + 0)), none, some (.int (x7 + 1))] dX10_settled_101 rfl rfl rfl ?_
    refine r_goto X 37 dX10_settled_104 rfl ?_
    exact hrec th x2 (t0 + t1) (x5 + 0) (x7 + 1) hf
  · replace hf := ifT hf c85
    refine r_aload_n X (x := k.b + (189)) dX10_settled_88 rfl ?_
    refine r_iload X (x := x7) dX10_settled_89 rfl ?_
    obtain ⟨u91, h91, hf⟩ := bdS hf
    refine r_callV0 X [.int x7] [.long x5] (K10_volume h91) lkX10_64 clsX10 rfl _ o_model (by decide) (Nat.le_of_ble_eq_true rfl) rfl rfl (Nat.le_of_ble_eq_true rfl) rfl rfl (Nat.zero_le _) (Nat.zero_le _) dX10_settled_91 ?_
    refine r_goto X 98 dX10_settled_94 rfl ?_
    refine r_ladd X dX10_settled_98 ?_
    refine r_lstore X [some (.ref (k.b + (189))), none, some (.int x2), some (.long (t0 + t1)), none, some (.long (x5 + u91)), none, some (.int x7)] dX10_settled_99 (Nat.le_of_ble_eq_true rfl) rfl ?_
    refine r_iinc X (x := x7) (v := x7 + 1) [some (.ref (k.b + (189))), none, some (.int x2), some (.long (t0 + t1)), none, some (.long (x5 + u91)), none, some (.int (x7 + 1))] dX10_settled_101 rfl rfl rfl ?_
    refine r_goto X 37 dX10_settled_104 rfl ?_
    exact hrec th x2 (t0 + t1) (x5 + u91) (x7 + 1) hf
set_option maxRecDepth 100000 in
set_option maxHeartbeats 4000000 in
theorem B10_settled_B37 {k : KT} {z : ZT} {T : TT} {R : RR} {ly : Fin 2 → LL} {rc : RC} {hn : HN} {rp : RP} {tp : TP} {ee : EE} {st : Fin 12 → SS} {w : Nat → Int64} {aside : Nat → Int64} {thought : Nat → Int64} {fresh : Nat → Int64} {mu : MU} {mp : MP} {mf : MF} {mh : MH} {mg : MG} {ou : Nat → Int64} {od : Nat → UInt64} {r : Int32 × (Int32)} (X : XX k strs z RX10 cX10_settled 8 (some .int) (rmD 5 0 0)) (hQ : zQ z = MQ (zB z) (Qof k (some (.int r.1)) (wAll k T R ly rc hn rp tp ee st w aside thought fresh mu r.2 mp mf mh mg ou od)) (zA z) (zS z) 0 0 (kA k)) : ∀ (fu : Nat) (th : Int32) (x2 : Int32) (x3 : Int64) (x5 : Int64) (x7 : Int32), f10_settled_B37 w fu th x2 x3 x5 x7 = some r → VW k z 0 0 (wAll k T R ly rc hn rp tp ee st w aside thought fresh mu th mp mf mh mg ou od) 37 [some (.ref (k.b + (189))), none, some (.int x2), some (.long x3), none, some (.long x5), none, some (.int x7)] [] := by
  intro fu
  induction fu with
  | zero =>
    intro th x2 x3 x5 x7 hf
    rw [f10_settled_B37] at hf
    cases hf
  | succ fu ih =>
    intro th x2 x3 x5 x7 hf
    rw [f10_settled_B37] at hf
    refine r_iload X (x := x7) dX10_settled_37 rfl ?_
    refine r_aload_n X (x := k.b + (189)) dX10_settled_39 rfl ?_
    refine r_iconst X (v := 0) dX10_settled_40 rfl ?_
    obtain ⟨u41, h41, hf⟩ := bdS hf
    refine r_callV0 X [.int 0] [.int x7] (K10_many h41) lkX10_93 clsX10 rfl _ o_model (by decide) (Nat.le_of_ble_eq_true rfl) rfl rfl (Nat.le_of_ble_eq_true rfl) rfl rfl (Nat.zero_le _) (Nat.zero_le _) dX10_settled_41 ?_
    refine r_icmp_ge X 107 dX10_settled_44 rfl (fun c44 => ?_) (fun c44 => ?_)
    · replace hf := ifT hf c44
      refine r_lload_n X (x := x3) dX10_settled_107 rfl ?_
      refine r_lload X (x := x5) dX10_settled_108 rfl ?_
      obtain ⟨g110z, hf⟩ := gdS hf
      refine r_ldiv X dX10_settled_110 g110z ?_
      refine r_l2i X dX10_settled_111 ?_
      obtain rfl := Option.some.inj hf
      exact r_ireturn X hQ rfl rfl (Nat.le_of_ble_eq_true rfl) (Nat.le_of_ble_eq_true rfl) dX10_settled_112
    · replace hf := ifF hf c44
      refine r_lload_n X (x := x3) dX10_settled_47 rfl ?_
      refine r_iload_n X (x := x2) dX10_settled_48 rfl ?_
      refine r_iload X (x := x7) dX10_settled_49 rfl ?_
      refine r_ishr X dX10_settled_51 ?_
      refine r_iconst X (v := 1) dX10_settled_52 rfl ?_
      refine r_iand X dX10_settled_53 ?_
      refine r_iconst X (v := 1) dX10_settled_54 rfl ?_
      refine r_icmp_ne X 73 dX10_settled_55 rfl (fun c55 => ?_) (fun c55 => ?_)
      · replace hf := ifF hf c55
        refine r_lconst X (v := 0) dX10_settled_73 rfl ?_
        refine VW.msk [true, false, true, false, false, true, false, true] rfl (lo' := [some (.ref (k.b + (189))), none, some (.int x2), none, none, some (.long x5), none, some (.int x7)]) rfl ?_
        exact B10_settled_B74 X hQ (f10_settled_B37 w fu) ih th x2 x5 x7 x3 0 hf
      · replace hf := ifT hf c55
        refine r_aload_n X (x := k.b + (189)) dX10_settled_58 rfl ?_
        refine r_getfield X (v := .ref (k.b + (190))) clsX10 flX10_7 (Nat.le_of_ble_eq_true rfl) _ o_model rfl dX10_settled_59 ?_
        refine r_iload X (x := x7) dX10_settled_62 rfl ?_
        obtain ⟨u64, h64, hf⟩ := bdS hf
        refine r_callS0 X [.int x7] [.ref (k.b + (190)), .long x3] (K10_chamberAt h64) lkX10_61 (by decide) (Nat.le_of_ble_eq_true rfl) rfl rfl (Nat.le_of_ble_eq_true rfl) rfl rfl (Nat.zero_le _) (Nat.zero_le _) dX10_settled_64 ?_
        refine r_iconst X (v := 3) dX10_settled_67 rfl ?_
        refine r_iadd X dX10_settled_68 ?_
        obtain ⟨g69, hf⟩ := gdS hf
        refine r_laload X (f := w) _ a_m_w g69 dX10_settled_69 ?_
        refine r_goto X 74 dX10_settled_70 rfl ?_
        refine VW.msk [true, false, true, false, false, true, false, true] rfl (lo' := [some (.ref (k.b + (189))), none, some (.int x2), none, none, some (.long x5), none, some (.int x7)]) rfl ?_
        exact B10_settled_B74 X hQ (f10_settled_B37 w fu) ih th x2 x5 x7 x3 (w (ix (u64 + 3))) hf
set_option maxRecDepth 100000 in
set_option maxHeartbeats 4000000 in
theorem K10_settled {k : KT} {T : TT} {R : RR} {ly : Fin 2 → LL} {rc : RC} {hn : HN} {rp : RP} {tp : TP} {ee : EE} {st : Fin 12 → SS} {w : Nat → Int64} {aside : Nat → Int64} {thought : Nat → Int64} {fresh : Nat → Int64} {mu : MU} {th : Int32} {mp : MP} {mf : MF} {mh : MH} {mg : MG} {ou : Nat → Int64} {od : Nat → UInt64}  {x1 : Int32} {r : Int32 × (Int32)} (hf : f10_settled w th x1 = some r) : CT k strs yX10_settled cX10_settled 8 (some .int) (rmD 5 0 0) 0 0 [.ref (k.b + (189)), .int x1] (wAll k T R ly rc hn rp tp ee st w aside thought fresh mu th mp mf mh mg ou od) (some (.int r.1)) (wAll k T R ly rc hn rp tp ee st w aside thought fresh mu r.2 mp mf mh mg ou od) := by
  refine CT.of (by decide) (Nat.le_of_ble_eq_true rfl) ?_
  intro z X hQ
  show VW k z 0 0 (wAll k T R ly rc hn rp tp ee st w aside thought fresh mu th mp mf mh mg ou od) 0 [some (.ref (k.b + (189))), some (.int x1), none, none, none, none, none, none] []
  unfold f10_settled at hf
  refine r_aload_n X (x := k.b + (189)) dX10_settled_0 rfl ?_
  refine r_aload_n X (x := k.b + (189)) dX10_settled_1 rfl ?_
  refine r_iload_n X (x := x1) dX10_settled_2 rfl ?_
  obtain ⟨u3, h3, hf⟩ := bdS hf
  refine r_callV0 X [.int x1] [.ref (k.b + (189))] (K10_isChamber h3) lkX10_179 clsX10 rfl _ o_model (by decide) (Nat.le_of_ble_eq_true rfl) rfl rfl (Nat.le_of_ble_eq_true rfl) rfl rfl (Nat.zero_le _) (Nat.zero_le _) dX10_settled_3 ?_
  suffices K6 : VW k z 0 0 (wAll k T R ly rc hn rp tp ee st w aside thought fresh mu th mp mf mh mg ou od) 14 [some (.ref (k.b + (189))), some (.int x1), none, none, none, none, none, none] [.int (if u3 = 0 then (1 : Int32) else (0 : Int32)), .ref (k.b + (189))] by
    refine r_if_ne X 13 dX10_settled_6 rfl (fun c6 => ?_) (fun c6 => ?_)
    · refine r_iconst X (v := 0) dX10_settled_13 rfl ?_
      rw [if_neg c6] at K6
      exact K6
    · refine r_iconst X (v := 1) dX10_settled_9 rfl ?_
      refine r_goto X 14 dX10_settled_10 rfl ?_
      rw [if_pos c6] at K6
      exact K6
  refine r_iconst X (v := 1) dX10_settled_14 rfl ?_
  obtain ⟨u15, h15, hf⟩ := bdS hf
  refine r_callV0 X [.int (if u3 = 0 then (1 : Int32) else (0 : Int32)), .int 1] [] (K10_fails h15) lkX10_151 clsX10 rfl _ o_model (by decide) (Nat.le_of_ble_eq_true rfl) rfl rfl (Nat.le_of_ble_eq_true rfl) rfl rfl (Nat.zero_le _) (Nat.zero_le _) dX10_settled_15 ?_
  refine r_if_eq X 23 dX10_settled_18 rfl (fun c18 => ?_) (fun c18 => ?_)
  · replace hf := ifT hf c18
    refine r_aload_n X (x := k.b + (189)) dX10_settled_23 rfl ?_
    refine r_iload_n X (x := x1) dX10_settled_24 rfl ?_
    obtain ⟨u25, h25, hf⟩ := bdS hf
    refine r_callV0 X [.int x1] [] (K10_joinedWith h25) lkX10_379 clsX10 rfl _ o_model (by decide) (Nat.le_of_ble_eq_true rfl) rfl rfl (Nat.le_of_ble_eq_true rfl) rfl rfl (Nat.zero_le _) (Nat.zero_le _) dX10_settled_25 ?_
    refine r_istore_n X [some (.ref (k.b + (189))), some (.int x1), some (.int u25), none, none, none, none, none] dX10_settled_28 (Nat.le_of_ble_eq_true rfl) rfl ?_
    refine r_lconst X (v := 0) dX10_settled_29 rfl ?_
    refine r_lstore_n X [some (.ref (k.b + (189))), some (.int x1), some (.int u25), some (.long 0), none, none, none, none] dX10_settled_30 (Nat.le_of_ble_eq_true rfl) rfl ?_
    refine r_lconst X (v := 0) dX10_settled_31 rfl ?_
    refine r_lstore X [some (.ref (k.b + (189))), some (.int x1), some (.int u25), some (.long 0), none, some (.long 0), none, none] dX10_settled_32 (Nat.le_of_ble_eq_true rfl) rfl ?_
    refine r_iconst X (v := 0) dX10_settled_34 rfl ?_
    refine r_istore X [some (.ref (k.b + (189))), some (.int x1), some (.int u25), some (.long 0), none, some (.long 0), none, some (.int 0)] dX10_settled_35 (Nat.le_of_ble_eq_true rfl) rfl ?_
    refine VW.msk [true, false, true, true, false, true, false, true] rfl (lo' := [some (.ref (k.b + (189))), none, some (.int u25), some (.long 0), none, some (.long 0), none, some (.int 0)]) rfl ?_
    exact B10_settled_B37 X hQ FU u15.2 u25 0 0 0 hf
  · replace hf := ifF hf c18
    refine r_iconst X (v := 0) dX10_settled_21 rfl ?_
    obtain rfl := Option.some.inj hf
    exact r_ireturn X hQ rfl rfl (Nat.le_of_ble_eq_true rfl) (Nat.le_of_ble_eq_true rfl) dX10_settled_22
set_option maxRecDepth 100000 in
set_option maxHeartbeats 4000000 in
theorem B10_openable_B9 {k : KT} {z : ZT} {T : TT} {R : RR} {ly : Fin 2 → LL} {rc : RC} {hn : HN} {rp : RP} {tp : TP} {ee : EE} {st : Fin 12 → SS} {w : Nat → Int64} {aside : Nat → Int64} {thought : Nat → Int64} {fresh : Nat → Int64} {mu : MU} {mp : MP} {mf : MF} {mh : MH} {mg : MG} {ou : Nat → Int64} {od : Nat → UInt64} {r : Int32 × (Int32)} (X : XX k strs z RX10 cX10_openable 3 (some .int) (rmD 6 0 0)) (hQ : zQ z = MQ (zB z) (Qof k (some (.int r.1)) (wAll k T R ly rc hn rp tp ee st w aside thought fresh mu r.2 mp mf mh mg ou od)) (zA z) (zS z) 0 0 (kA k)) : ∀ (fu : Nat) (th : Int32) (x1 : Int32) (x2 : Int32), f10_openable_B9 w fu th x1 x2 = some r → VW k z 0 0 (wAll k T R ly rc hn rp tp ee st w aside thought fresh mu th mp mf mh mg ou od) 9 [some (.ref (k.b + (189))), some (.int x1), some (.int x2)] [] := by
  intro fu
  induction fu with
  | zero =>
    intro th x1 x2 hf
    rw [f10_openable_B9] at hf
    cases hf
  | succ fu ih =>
    intro th x1 x2 hf
    rw [f10_openable_B9] at hf
    refine r_iload_n X (x := x2) dX10_openable_9 rfl ?_
    refine r_aload_n X (x := k.b + (189)) dX10_openable_10 rfl ?_
    refine r_iconst X (v := 2) dX10_openable_11 rfl ?_
    obtain ⟨u12, h12, hf⟩ := bdS hf
    refine r_callV0 X [.int 2] [.int x2] (K10_many h12) lkX10_93 clsX10 rfl _ o_model (by decide) (Nat.le_of_ble_eq_true rfl) rfl rfl (Nat.le_of_ble_eq_true rfl) rfl rfl (Nat.zero_le _) (Nat.zero_le _) dX10_openable_12 ?_
    refine r_icmp_ge X 42 dX10_openable_15 rfl (fun c15 => ?_) (fun c15 => ?_)
    · replace hf := ifT hf c15
      refine r_iload_n X (x := x1) dX10_openable_42 rfl ?_
      obtain rfl := Option.some.inj hf
      exact r_ireturn X hQ rfl rfl (Nat.le_of_ble_eq_true rfl) (Nat.le_of_ble_eq_true rfl) dX10_openable_43
    · replace hf := ifF hf c15
      refine r_iload_n X (x := x1) dX10_openable_18 rfl ?_
      refine r_aload_n X (x := k.b + (189)) dX10_openable_19 rfl ?_
      refine r_iload_n X (x := x2) dX10_openable_20 rfl ?_
      obtain ⟨u21, h21, hf⟩ := bdS hf
      refine r_callV0 X [.int x2] [.int x1] (K10_canOpen h21) lkX10_155 clsX10 rfl _ o_model (by decide) (Nat.le_of_ble_eq_true rfl) rfl rfl (Nat.le_of_ble_eq_true rfl) rfl rfl (Nat.zero_le _) (Nat.zero_le _) dX10_openable_21 ?_
      suffices K24 : VW k z 0 0 (wAll k T R ly rc hn rp tp ee st w aside thought fresh mu th mp mf mh mg ou od) 34 [some (.ref (k.b + (189))), some (.int x1), some (.int x2)] [.int (if u21 = 0 then (0 : Int32) else (1 <<< (x2 &&& 31) : Int32)), .int x1] by
        refine r_if_eq X 33 dX10_openable_24 rfl (fun c24 => ?_) (fun c24 => ?_)
        · refine r_iconst X (v := 0) dX10_openable_33 rfl ?_
          rw [if_pos c24] at K24
          exact K24
        · refine r_iconst X (v := 1) dX10_openable_27 rfl ?_
          refine r_iload_n X (x := x2) dX10_openable_28 rfl ?_
          refine r_ishl X dX10_openable_29 ?_
          refine r_goto X 34 dX10_openable_30 rfl ?_
          rw [if_neg c24] at K24
          exact K24
      refine r_ior X dX10_openable_34 ?_
      refine r_istore_n X [some (.ref (k.b + (189))), some (.int (x1 ||| (if u21 = 0 then (0 : Int32) else (1 <<< (x2 &&& 31) : Int32)))), some (.int x2)] dX10_openable_35 (Nat.le_of_ble_eq_true rfl) rfl ?_
      refine r_iinc X (x := x2) (v := x2 + 1) [some (.ref (k.b + (189))), some (.int (x1 ||| (if u21 = 0 then (0 : Int32) else (1 <<< (x2 &&& 31) : Int32)))), some (.int (x2 + 1))] dX10_openable_36 rfl rfl rfl ?_
      refine r_goto X 9 dX10_openable_39 rfl ?_
      exact ih th (x1 ||| (if u21 = 0 then (0 : Int32) else (1 <<< (x2 &&& 31) : Int32))) (x2 + 1) hf
set_option maxRecDepth 100000 in
set_option maxHeartbeats 4000000 in
theorem K10_openable {k : KT} {T : TT} {R : RR} {ly : Fin 2 → LL} {rc : RC} {hn : HN} {rp : RP} {tp : TP} {ee : EE} {st : Fin 12 → SS} {w : Nat → Int64} {aside : Nat → Int64} {thought : Nat → Int64} {fresh : Nat → Int64} {mu : MU} {th : Int32} {mp : MP} {mf : MF} {mh : MH} {mg : MG} {ou : Nat → Int64} {od : Nat → UInt64}   {r : Int32 × (Int32)} (hf : f10_openable w th  = some r) : CT k strs yX10_openable cX10_openable 3 (some .int) (rmD 6 0 0) 0 0 [.ref (k.b + (189))] (wAll k T R ly rc hn rp tp ee st w aside thought fresh mu th mp mf mh mg ou od) (some (.int r.1)) (wAll k T R ly rc hn rp tp ee st w aside thought fresh mu r.2 mp mf mh mg ou od) := by
  refine CT.of (by decide) (Nat.le_of_ble_eq_true rfl) ?_
  intro z X hQ
  show VW k z 0 0 (wAll k T R ly rc hn rp tp ee st w aside thought fresh mu th mp mf mh mg ou od) 0 [some (.ref (k.b + (189))), none, none] []
  unfold f10_openable at hf
  refine r_aload_n X (x := k.b + (189)) dX10_openable_0 rfl ?_
  refine r_iconst X (v := 0) dX10_openable_1 rfl ?_
  refine r_putfield X (ws1 := wAll k T R ly rc hn rp tp ee st w aside thought fresh mu 0 mp mf mh mg ou od) clsX10 flX10_36 (Nat.le_of_ble_eq_true rfl) rfl rfl rfl _ o_model (Nat.le_of_ble_eq_true rfl) (s_th 0) dX10_openable_2 ?_
  refine r_iconst X (v := 0) dX10_openable_5 rfl ?_
  refine r_istore_n X [some (.ref (k.b + (189))), some (.int 0), none] dX10_openable_6 (Nat.le_of_ble_eq_true rfl) rfl ?_
  refine r_iconst X (v := 0) dX10_openable_7 rfl ?_
  refine r_istore_n X [some (.ref (k.b + (189))), some (.int 0), some (.int 0)] dX10_openable_8 (Nat.le_of_ble_eq_true rfl) rfl ?_
  exact B10_openable_B9 X hQ FU 0 0 0 hf
set_option maxRecDepth 100000 in
set_option maxHeartbeats 4000000 in
theorem B10_widest_B4 {k : KT} {z : ZT} {T : TT} {R : RR} {ly : Fin 2 → LL} {rc : RC} {hn : HN} {rp : RP} {tp : TP} {ee : EE} {st : Fin 12 → SS} {w : Nat → Int64} {aside : Nat → Int64} {thought : Nat → Int64} {fresh : Nat → Int64} {mu : MU} {mp : MP} {mf : MF} {mh : MH} {mg : MG} {ou : Nat → Int64} {od : Nat → UInt64} {r : Int32 × (Int32)} (X : XX k strs z RX10 cX10_widest 3 (some .int) (rmD 4 0 0)) (hQ : zQ z = MQ (zB z) (Qof k (some (.int r.1)) (wAll k T R ly rc hn rp tp ee st w aside thought fresh mu r.2 mp mf mh mg ou od)) (zA z) (zS z) 0 0 (kA k)) : ∀ (fu : Nat) (th : Int32) (x1 : Int32) (x2 : Int32), f10_widest_B4 w fu th x1 x2 = some r → VW k z 0 0 (wAll k T R ly rc hn rp tp ee st w aside thought fresh mu th mp mf mh mg ou od) 4 [some (.ref (k.b + (189))), some (.int x1), some (.int x2)] [] := by
  intro fu
  induction fu with
  | zero =>
    intro th x1 x2 hf
    rw [f10_widest_B4] at hf
    cases hf
  | succ fu ih =>
    intro th x1 x2 hf
    rw [f10_widest_B4] at hf
    refine r_iload_n X (x := x2) dX10_widest_4 rfl ?_
    refine r_aload_n X (x := k.b + (189)) dX10_widest_5 rfl ?_
    refine r_iconst X (v := 2) dX10_widest_6 rfl ?_
    obtain ⟨u7, h7, hf⟩ := bdS hf
    refine r_callV0 X [.int 2] [.int x2] (K10_many h7) lkX10_93 clsX10 rfl _ o_model (by decide) (Nat.le_of_ble_eq_true rfl) rfl rfl (Nat.le_of_ble_eq_true rfl) rfl rfl (Nat.zero_le _) (Nat.zero_le _) dX10_widest_7 ?_
    refine r_icmp_ge X 48 dX10_widest_10 rfl (fun c10 => ?_) (fun c10 => ?_)
    · replace hf := ifT hf c10
      refine r_aload_n X (x := k.b + (189)) dX10_widest_48 rfl ?_
      refine r_iload_n X (x := x1) dX10_widest_49 rfl ?_
      refine r_iconst X (v := (-1)) dX10_widest_50 rfl ?_
      suffices K51 : VW k z 0 0 (wAll k T R ly rc hn rp tp ee st w aside thought fresh mu th mp mf mh mg ou od) 59 [some (.ref (k.b + (189))), some (.int x1), some (.int x2)] [.int (if x1 = (-1) then (1 : Int32) else (0 : Int32)), .ref (k.b + (189))] by
        refine r_icmp_ne X 58 dX10_widest_51 rfl (fun c51 => ?_) (fun c51 => ?_)
        · refine r_iconst X (v := 0) dX10_widest_58 rfl ?_
          rw [if_neg c51] at K51
          exact K51
        · refine r_iconst X (v := 1) dX10_widest_54 rfl ?_
          refine r_goto X 59 dX10_widest_55 rfl ?_
          rw [if_pos c51] at K51
          exact K51
      refine r_iconst X (v := 1) dX10_widest_59 rfl ?_
      obtain ⟨u60, h60, hf⟩ := bdS hf
      refine r_callV0 X [.int (if x1 = (-1) then (1 : Int32) else (0 : Int32)), .int 1] [] (K10_fails h60) lkX10_151 clsX10 rfl _ o_model (by decide) (Nat.le_of_ble_eq_true rfl) rfl rfl (Nat.le_of_ble_eq_true rfl) rfl rfl (Nat.zero_le _) (Nat.zero_le _) dX10_widest_60 ?_
      suffices K63 : VW k z 0 0 (wAll k T R ly rc hn rp tp ee st w aside thought fresh mu u60.2 mp mf mh mg ou od) 71 [some (.ref (k.b + (189))), some (.int x1), some (.int x2)] [.int (if u60.1 = 0 then (x1 : Int32) else (0 : Int32))] by
        refine r_if_eq X 70 dX10_widest_63 rfl (fun c63 => ?_) (fun c63 => ?_)
        · refine r_iload_n X (x := x1) dX10_widest_70 rfl ?_
          rw [if_pos c63] at K63
          exact K63
        · refine r_iconst X (v := 0) dX10_widest_66 rfl ?_
          refine r_goto X 71 dX10_widest_67 rfl ?_
          rw [if_neg c63] at K63
          exact K63
      obtain rfl := Option.some.inj hf
      exact r_ireturn X hQ rfl rfl (Nat.le_of_ble_eq_true rfl) (Nat.le_of_ble_eq_true rfl) dX10_widest_71
    · replace hf := ifF hf c10
      refine r_aload_n X (x := k.b + (189)) dX10_widest_13 rfl ?_
      refine r_iload_n X (x := x2) dX10_widest_14 rfl ?_
      obtain ⟨u15, h15, hf⟩ := bdS hf
      refine r_callV0 X [.int x2] [] (K10_isOpen h15) lkX10_99 clsX10 rfl _ o_model (by decide) (Nat.le_of_ble_eq_true rfl) rfl rfl (Nat.le_of_ble_eq_true rfl) rfl rfl (Nat.zero_le _) (Nat.zero_le _) dX10_widest_15 ?_
      refine r_if_ne X 42 dX10_widest_18 rfl (fun c18 => ?_) (fun c18 => ?_)
      · replace hf := ifF hf c18
        refine r_iinc X (x := x2) (v := x2 + 1) [some (.ref (k.b + (189))), some (.int x1), some (.int (x2 + 1))] dX10_widest_42 rfl rfl rfl ?_
        refine r_goto X 4 dX10_widest_45 rfl ?_
        exact ih th x1 (x2 + 1) hf
      · replace hf := ifT hf c18
        refine r_iload_n X (x := x1) dX10_widest_21 rfl ?_
        refine r_iconst X (v := (-1)) dX10_widest_22 rfl ?_
        refine r_icmp_eq X 40 dX10_widest_23 rfl (fun c23 => ?_) (fun c23 => ?_)
        · replace hf := ifT hf c23
          refine r_iload_n X (x := x2) dX10_widest_40 rfl ?_
          refine r_istore_n X [some (.ref (k.b + (189))), some (.int x2), some (.int x2)] dX10_widest_41 (Nat.le_of_ble_eq_true rfl) rfl ?_
          refine r_iinc X (x := x2) (v := x2 + 1) [some (.ref (k.b + (189))), some (.int x2), some (.int (x2 + 1))] dX10_widest_42 rfl rfl rfl ?_
          refine r_goto X 4 dX10_widest_45 rfl ?_
          exact ih th x2 (x2 + 1) hf
        · replace hf := ifF hf c23
          refine r_aload_n X (x := k.b + (189)) dX10_widest_26 rfl ?_
          refine r_iload_n X (x := x2) dX10_widest_27 rfl ?_
          obtain ⟨u28, h28, hf⟩ := bdS hf
          refine r_callV0 X [.int x2] [] (K10_difference h28) lkX10_90 clsX10 rfl _ o_model (by decide) (Nat.le_of_ble_eq_true rfl) rfl rfl (Nat.le_of_ble_eq_true rfl) rfl rfl (Nat.zero_le _) (Nat.zero_le _) dX10_widest_28 ?_
          refine r_aload_n X (x := k.b + (189)) dX10_widest_31 rfl ?_
          refine r_iload_n X (x := x1) dX10_widest_32 rfl ?_
          obtain ⟨u33, h33, hf⟩ := bdS hf
          refine r_callV0 X [.int x1] [.long u28] (K10_difference h33) lkX10_90 clsX10 rfl _ o_model (by decide) (Nat.le_of_ble_eq_true rfl) rfl rfl (Nat.le_of_ble_eq_true rfl) rfl rfl (Nat.zero_le _) (Nat.zero_le _) dX10_widest_33 ?_
          refine r_lcmp_le X 42 dX10_widest_36 dX10_widest_37 rfl (fun c36 => ?_) (fun c36 => ?_)
          · replace hf := ifT hf c36
            refine r_iinc X (x := x2) (v := x2 + 1) [some (.ref (k.b + (189))), some (.int x1), some (.int (x2 + 1))] dX10_widest_42 rfl rfl rfl ?_
            refine r_goto X 4 dX10_widest_45 rfl ?_
            exact ih th x1 (x2 + 1) hf
          · replace hf := ifF hf c36
            refine r_iload_n X (x := x2) dX10_widest_40 rfl ?_
            refine r_istore_n X [some (.ref (k.b + (189))), some (.int x2), some (.int x2)] dX10_widest_41 (Nat.le_of_ble_eq_true rfl) rfl ?_
            refine r_iinc X (x := x2) (v := x2 + 1) [some (.ref (k.b + (189))), some (.int x2), some (.int (x2 + 1))] dX10_widest_42 rfl rfl rfl ?_
            refine r_goto X 4 dX10_widest_45 rfl ?_
            exact ih th x2 (x2 + 1) hf
set_option maxRecDepth 100000 in
set_option maxHeartbeats 4000000 in
theorem K10_widest {k : KT} {T : TT} {R : RR} {ly : Fin 2 → LL} {rc : RC} {hn : HN} {rp : RP} {tp : TP} {ee : EE} {st : Fin 12 → SS} {w : Nat → Int64} {aside : Nat → Int64} {thought : Nat → Int64} {fresh : Nat → Int64} {mu : MU} {th : Int32} {mp : MP} {mf : MF} {mh : MH} {mg : MG} {ou : Nat → Int64} {od : Nat → UInt64}   {r : Int32 × (Int32)} (hf : f10_widest w th  = some r) : CT k strs yX10_widest cX10_widest 3 (some .int) (rmD 4 0 0) 0 0 [.ref (k.b + (189))] (wAll k T R ly rc hn rp tp ee st w aside thought fresh mu th mp mf mh mg ou od) (some (.int r.1)) (wAll k T R ly rc hn rp tp ee st w aside thought fresh mu r.2 mp mf mh mg ou od) := by
  refine CT.of (by decide) (Nat.le_of_ble_eq_true rfl) ?_
  intro z X hQ
  show VW k z 0 0 (wAll k T R ly rc hn rp tp ee st w aside thought fresh mu th mp mf mh mg ou od) 0 [some (.ref (k.b + (189))), none, none] []
  unfold f10_widest at hf
  refine r_iconst X (v := (-1)) dX10_widest_0 rfl ?_
  refine r_istore_n X [some (.ref (k.b + (189))), some (.int (-1)), none] dX10_widest_1 (Nat.le_of_ble_eq_true rfl) rfl ?_
  refine r_iconst X (v := 0) dX10_widest_2 rfl ?_
  refine r_istore_n X [some (.ref (k.b + (189))), some (.int (-1)), some (.int 0)] dX10_widest_3 (Nat.le_of_ble_eq_true rfl) rfl ?_
  exact B10_widest_B4 X hQ FU th (-1) 0 hf
set_option maxRecDepth 100000 in
set_option maxHeartbeats 4000000 in
theorem K10_isNoLook {k : KT} {T : TT} {R : RR} {ly : Fin 2 → LL} {rc : RC} {hn : HN} {rp : RP} {tp : TP} {ee : EE} {st : Fin 12 → SS} {w : Nat → Int64} {aside : Nat → Int64} {thought : Nat → Int64} {fresh : Nat → Int64} {mu : MU} {th : Int32} {mp : MP} {mf : MF} {mh : MH} {mg : MG} {ou : Nat → Int64} {od : Nat → UInt64}  {x1 : Int32} {x2 : Int32} {r : Int32 × (Int32)} (hf : f10_isNoLook w th x1 x2 = some r) : CT k strs yX10_isNoLook cX10_isNoLook 3 (some .boolean) (rmD 2 0 0) 0 0 [.ref (k.b + (189)), .int x1, .int x2] (wAll k T R ly rc hn rp tp ee st w aside thought fresh mu th mp mf mh mg ou od) (some (.int r.1)) (wAll k T R ly rc hn rp tp ee st w aside thought fresh mu r.2 mp mf mh mg ou od) := by
  refine CT.of (by decide) (Nat.le_of_ble_eq_true rfl) ?_
  intro z X hQ
  show VW k z 0 0 (wAll k T R ly rc hn rp tp ee st w aside thought fresh mu th mp mf mh mg ou od) 0 [some (.ref (k.b + (189))), some (.int x1), some (.int x2)] []
  unfold f10_isNoLook at hf
  refine r_aload_n X (x := k.b + (189)) dX10_isNoLook_0 rfl ?_
  refine r_aload_n X (x := k.b + (189)) dX10_isNoLook_1 rfl ?_
  refine r_iload_n X (x := x1) dX10_isNoLook_2 rfl ?_
  obtain ⟨u3, h3, hf⟩ := bdS hf
  refine r_callV0 X [.int x1] [.ref (k.b + (189))] (K10_isChamber h3) lkX10_179 clsX10 rfl _ o_model (by decide) (Nat.le_of_ble_eq_true rfl) rfl rfl (Nat.le_of_ble_eq_true rfl) rfl rfl (Nat.zero_le _) (Nat.zero_le _) dX10_isNoLook_3 ?_
  suffices K6 : VW k z 0 0 (wAll k T R ly rc hn rp tp ee st w aside thought fresh mu th mp mf mh mg ou od) 14 [some (.ref (k.b + (189))), some (.int x1), some (.int x2)] [.int (if u3 = 0 then (1 : Int32) else (0 : Int32)), .ref (k.b + (189))] by
    refine r_if_ne X 13 dX10_isNoLook_6 rfl (fun c6 => ?_) (fun c6 => ?_)
    · refine r_iconst X (v := 0) dX10_isNoLook_13 rfl ?_
      rw [if_neg c6] at K6
      exact K6
    · refine r_iconst X (v := 1) dX10_isNoLook_9 rfl ?_
      refine r_goto X 14 dX10_isNoLook_10 rfl ?_
      rw [if_pos c6] at K6
      exact K6
  refine r_iconst X (v := 1) dX10_isNoLook_14 rfl ?_
  obtain ⟨u15, h15, hf⟩ := bdS hf
  refine r_callV0 X [.int (if u3 = 0 then (1 : Int32) else (0 : Int32)), .int 1] [] (K10_fails h15) lkX10_151 clsX10 rfl _ o_model (by decide) (Nat.le_of_ble_eq_true rfl) rfl rfl (Nat.le_of_ble_eq_true rfl) rfl rfl (Nat.zero_le _) (Nat.zero_le _) dX10_isNoLook_15 ?_
  refine r_if_ne X 41 dX10_isNoLook_18 rfl (fun c18 => ?_) (fun c18 => ?_)
  · replace hf := ifF hf c18
    refine r_iconst X (v := 1) dX10_isNoLook_41 rfl ?_
    refine r_goto X 46 dX10_isNoLook_42 rfl ?_
    obtain rfl := Option.some.inj hf
    exact r_zreturn X hQ rfl rfl (Nat.le_of_ble_eq_true rfl) (Nat.le_of_ble_eq_true rfl) rfl dX10_isNoLook_46
  · replace hf := ifT hf c18
    refine r_aload_n X (x := k.b + (189)) dX10_isNoLook_21 rfl ?_
    refine r_iload_n X (x := x2) dX10_isNoLook_22 rfl ?_
    obtain ⟨u23, h23, hf⟩ := bdS hf
    refine r_callS0 X [.int x2] [.ref (k.b + (189))] (K10_isTicks h23) lkX10_173 (by decide) (Nat.le_of_ble_eq_true rfl) rfl rfl (Nat.le_of_ble_eq_true rfl) rfl rfl (Nat.zero_le _) (Nat.zero_le _) dX10_isNoLook_23 ?_
    suffices K26 : VW k z 0 0 (wAll k T R ly rc hn rp tp ee st w aside thought fresh mu u15.2 mp mf mh mg ou od) 34 [some (.ref (k.b + (189))), some (.int x1), some (.int x2)] [.int (if u23 = 0 then (1 : Int32) else (0 : Int32)), .ref (k.b + (189))] by
      refine r_if_ne X 33 dX10_isNoLook_26 rfl (fun c26 => ?_) (fun c26 => ?_)
      · refine r_iconst X (v := 0) dX10_isNoLook_33 rfl ?_
        rw [if_neg c26] at K26
        exact K26
      · refine r_iconst X (v := 1) dX10_isNoLook_29 rfl ?_
        refine r_goto X 34 dX10_isNoLook_30 rfl ?_
        rw [if_pos c26] at K26
        exact K26
    refine r_iconst X (v := 2) dX10_isNoLook_34 rfl ?_
    obtain ⟨u35, h35, hf⟩ := bdS hf
    refine r_callV0 X [.int (if u23 = 0 then (1 : Int32) else (0 : Int32)), .int 2] [] (K10_fails h35) lkX10_151 clsX10 rfl _ o_model (by decide) (Nat.le_of_ble_eq_true rfl) rfl rfl (Nat.le_of_ble_eq_true rfl) rfl rfl (Nat.zero_le _) (Nat.zero_le _) dX10_isNoLook_35 ?_
    refine r_if_eq X 45 dX10_isNoLook_38 rfl (fun c38 => ?_) (fun c38 => ?_)
    · replace hf := ifT hf c38
      refine r_iconst X (v := 0) dX10_isNoLook_45 rfl ?_
      obtain rfl := Option.some.inj hf
      exact r_zreturn X hQ rfl rfl (Nat.le_of_ble_eq_true rfl) (Nat.le_of_ble_eq_true rfl) rfl dX10_isNoLook_46
    · replace hf := ifF hf c38
      refine r_iconst X (v := 1) dX10_isNoLook_41 rfl ?_
      refine r_goto X 46 dX10_isNoLook_42 rfl ?_
      obtain rfl := Option.some.inj hf
      exact r_zreturn X hQ rfl rfl (Nat.le_of_ble_eq_true rfl) (Nat.le_of_ble_eq_true rfl) rfl dX10_isNoLook_46
set_option maxRecDepth 100000 in
set_option maxHeartbeats 4000000 in
theorem K10_think {k : KT} {T : TT} {R : RR} {ly : Fin 2 → LL} {rc : RC} {hn : HN} {rp : RP} {tp : TP} {ee : EE} {st : Fin 12 → SS} {w : Nat → Int64} {aside : Nat → Int64} {thought : Nat → Int64} {fresh : Nat → Int64} {mu : MU} {th : Int32} {mp : MP} {mf : MF} {mh : MH} {mg : MG} {ou : Nat → Int64} {od : Nat → UInt64}   {r : (Nat → Int64)} (hf : f10_think w thought  = some r) : CT k strs yX10_think cX10_think 1 none (rmD 1 0 0) 0 0 [.ref (k.b + (189))] (wAll k T R ly rc hn rp tp ee st w aside thought fresh mu th mp mf mh mg ou od) (none) (wAll k T R ly rc hn rp tp ee st w aside r fresh mu th mp mf mh mg ou od) := by
  refine CT.of (by decide) (Nat.le_of_ble_eq_true rfl) ?_
  intro z X hQ
  show VW k z 0 0 (wAll k T R ly rc hn rp tp ee st w aside thought fresh mu th mp mf mh mg ou od) 0 [some (.ref (k.b + (189)))] []
  unfold f10_think at hf
  refine r_aload_n X (x := k.b + (189)) dX10_think_0 rfl ?_
  refine r_getfield X (v := .ref (k.b + (190))) clsX10 flX10_7 (Nat.le_of_ble_eq_true rfl) _ o_model rfl dX10_think_1 ?_
  refine r_aload_n X (x := k.b + (189)) dX10_think_4 rfl ?_
  refine r_getfield X (v := .ref (k.b + (192))) clsX10 flX10_16 (Nat.le_of_ble_eq_true rfl) _ o_model rfl dX10_think_5 ?_
  obtain ⟨u8, h8, hf⟩ := bdS hf
  refine r_callS0 X [.ref (k.b + (190)), .ref (k.b + (192))] [] (K10_copy_w_thought h8) lkX10_50 (by decide) (Nat.le_of_ble_eq_true rfl) rfl rfl (Nat.le_of_ble_eq_true rfl) rfl rfl (Nat.zero_le _) (Nat.zero_le _) dX10_think_8 ?_
  obtain rfl := Option.some.inj hf
  exact r_return X hQ rfl rfl (Nat.le_of_ble_eq_true rfl) (Nat.le_of_ble_eq_true rfl) dX10_think_11
set_option maxRecDepth 100000 in
set_option maxHeartbeats 4000000 in
theorem K10_wake {k : KT} {T : TT} {R : RR} {ly : Fin 2 → LL} {rc : RC} {hn : HN} {rp : RP} {tp : TP} {ee : EE} {st : Fin 12 → SS} {w : Nat → Int64} {aside : Nat → Int64} {thought : Nat → Int64} {fresh : Nat → Int64} {mu : MU} {th : Int32} {mp : MP} {mf : MF} {mh : MH} {mg : MG} {ou : Nat → Int64} {od : Nat → UInt64}   {r : (Nat → Int64)} (hf : f10_wake thought w  = some r) : CT k strs yX10_wake cX10_wake 1 none (rmD 1 0 0) 0 0 [.ref (k.b + (189))] (wAll k T R ly rc hn rp tp ee st w aside thought fresh mu th mp mf mh mg ou od) (none) (wAll k T R ly rc hn rp tp ee st r aside thought fresh mu th mp mf mh mg ou od) := by
  refine CT.of (by decide) (Nat.le_of_ble_eq_true rfl) ?_
  intro z X hQ
  show VW k z 0 0 (wAll k T R ly rc hn rp tp ee st w aside thought fresh mu th mp mf mh mg ou od) 0 [some (.ref (k.b + (189)))] []
  unfold f10_wake at hf
  refine r_aload_n X (x := k.b + (189)) dX10_wake_0 rfl ?_
  refine r_getfield X (v := .ref (k.b + (192))) clsX10 flX10_16 (Nat.le_of_ble_eq_true rfl) _ o_model rfl dX10_wake_1 ?_
  refine r_aload_n X (x := k.b + (189)) dX10_wake_4 rfl ?_
  refine r_getfield X (v := .ref (k.b + (190))) clsX10 flX10_7 (Nat.le_of_ble_eq_true rfl) _ o_model rfl dX10_wake_5 ?_
  obtain ⟨u8, h8, hf⟩ := bdS hf
  refine r_callS0 X [.ref (k.b + (192)), .ref (k.b + (190))] [] (K10_copy_thought_w h8) lkX10_50 (by decide) (Nat.le_of_ble_eq_true rfl) rfl rfl (Nat.le_of_ble_eq_true rfl) rfl rfl (Nat.zero_le _) (Nat.zero_le _) dX10_wake_8 ?_
  obtain rfl := Option.some.inj hf
  exact r_return X hQ rfl rfl (Nat.le_of_ble_eq_true rfl) (Nat.le_of_ble_eq_true rfl) dX10_wake_11
set_option maxRecDepth 100000 in
set_option maxHeartbeats 4000000 in
theorem K10_pressureIn {k : KT} {T : TT} {R : RR} {ly : Fin 2 → LL} {rc : RC} {hn : HN} {rp : RP} {tp : TP} {ee : EE} {st : Fin 12 → SS} {w : Nat → Int64} {aside : Nat → Int64} {thought : Nat → Int64} {fresh : Nat → Int64} {mu : MU} {th : Int32} {mp : MP} {mf : MF} {mh : MH} {mg : MG} {ou : Nat → Int64} {od : Nat → UInt64}  {x1 : Int32} {x2 : Int32} {r : Int64 × (Nat → Int64)} (hf : f10_pressureIn  w x1 x2 = some r) : CT k strs yX10_pressureIn cX10_pressureIn 4 (some .long) (rmD 8 0 0) 0 0 [.ref (k.b + (189)), .int x1, .int x2] (wAll k T R ly rc hn rp tp ee st w aside thought fresh mu th mp mf mh mg ou od) (some (.long r.1)) (wAll k T R ly rc hn rp tp ee st r.2 aside thought fresh mu th mp mf mh mg ou od) := by
  refine CT.of (by decide) (Nat.le_of_ble_eq_true rfl) ?_
  intro z X hQ
  show VW k z 0 0 (wAll k T R ly rc hn rp tp ee st w aside thought fresh mu th mp mf mh mg ou od) 0 [some (.ref (k.b + (189))), some (.int x1), some (.int x2), none] []
  unfold f10_pressureIn at hf
  refine r_aload_n X (x := k.b + (189)) dX10_pressureIn_0 rfl ?_
  refine r_iload_n X (x := x2) dX10_pressureIn_1 rfl ?_
  obtain ⟨u2, h2, hf⟩ := bdS hf
  refine r_callV0 X [.int x2] [] (K10_passNow h2) lkX10_176 clsX10 rfl _ o_model (by decide) (Nat.le_of_ble_eq_true rfl) rfl rfl (Nat.le_of_ble_eq_true rfl) rfl rfl (Nat.zero_le _) (Nat.zero_le _) dX10_pressureIn_2 ?_
  refine r_istore_n X [some (.ref (k.b + (189))), some (.int x1), some (.int x2), some (.int u2.1)] dX10_pressureIn_5 (Nat.le_of_ble_eq_true rfl) rfl ?_
  refine r_aload_n X (x := k.b + (189)) dX10_pressureIn_6 rfl ?_
  refine r_iload_n X (x := x1) dX10_pressureIn_7 rfl ?_
  obtain ⟨u8, h8, hf⟩ := bdS hf
  refine r_callV0 X [.int x1] [] (K10_pressure h8) lkX10_78 clsX10 rfl _ o_model (by decide) (Nat.le_of_ble_eq_true rfl) rfl rfl (Nat.le_of_ble_eq_true rfl) rfl rfl (Nat.zero_le _) (Nat.zero_le _) dX10_pressureIn_8 ?_
  obtain rfl := Option.some.inj hf
  exact r_lreturn X hQ rfl rfl (Nat.le_of_ble_eq_true rfl) (Nat.le_of_ble_eq_true rfl) dX10_pressureIn_11
set_option maxRecDepth 100000 in
set_option maxHeartbeats 4000000 in
theorem K10_pressureAfter {k : KT} {T : TT} {R : RR} {ly : Fin 2 → LL} {rc : RC} {hn : HN} {rp : RP} {tp : TP} {ee : EE} {st : Fin 12 → SS} {w : Nat → Int64} {aside : Nat → Int64} {thought : Nat → Int64} {fresh : Nat → Int64} {mu : MU} {th : Int32} {mp : MP} {mf : MF} {mh : MH} {mg : MG} {ou : Nat → Int64} {od : Nat → UInt64}  {x1 : Int32} {x2 : Int32} {r : Int32 × (Nat → Int64) × (Nat → Int64) × (Int32)} (hf : f10_pressureAfter  w thought th x1 x2 = some r) : CT k strs yX10_pressureAfter cX10_pressureAfter 5 (some .int) (rmD 9 0 0) 0 0 [.ref (k.b + (189)), .int x1, .int x2] (wAll k T R ly rc hn rp tp ee st w aside thought fresh mu th mp mf mh mg ou od) (some (.int r.1)) (wAll k T R ly rc hn rp tp ee st r.2.1 aside r.2.2.1 fresh mu r.2.2.2 mp mf mh mg ou od) := by
  refine CT.of (by decide) (Nat.le_of_ble_eq_true rfl) ?_
  intro z X hQ
  show VW k z 0 0 (wAll k T R ly rc hn rp tp ee st w aside thought fresh mu th mp mf mh mg ou od) 0 [some (.ref (k.b + (189))), some (.int x1), some (.int x2), none, none] []
  unfold f10_pressureAfter at hf
  refine r_aload_n X (x := k.b + (189)) dX10_pressureAfter_0 rfl ?_
  refine r_iload_n X (x := x1) dX10_pressureAfter_1 rfl ?_
  refine r_iload_n X (x := x2) dX10_pressureAfter_2 rfl ?_
  obtain ⟨u3, h3, hf⟩ := bdS hf
  refine r_callV0 X [.int x1, .int x2] [] (K10_isNoLook h3) lkX10_389 clsX10 rfl _ o_model (by decide) (Nat.le_of_ble_eq_true rfl) rfl rfl (Nat.le_of_ble_eq_true rfl) rfl rfl (Nat.zero_le _) (Nat.zero_le _) dX10_pressureAfter_3 ?_
  refine r_if_eq X 11 dX10_pressureAfter_6 rfl (fun c6 => ?_) (fun c6 => ?_)
  · replace hf := ifT hf c6
    refine r_aload_n X (x := k.b + (189)) dX10_pressureAfter_11 rfl ?_
    obtain ⟨u12, h12, hf⟩ := bdS hf
    refine r_callV0 X [] [] (K10_think h12) lkX10_393 clsX10 rfl _ o_model (by decide) (Nat.le_of_ble_eq_true rfl) rfl rfl (Nat.le_of_ble_eq_true rfl) rfl rfl (Nat.zero_le _) (Nat.zero_le _) dX10_pressureAfter_12 ?_
    refine r_aload_n X (x := k.b + (189)) dX10_pressureAfter_15 rfl ?_
    refine r_iload_n X (x := x1) dX10_pressureAfter_16 rfl ?_
    refine r_iload_n X (x := x2) dX10_pressureAfter_17 rfl ?_
    obtain ⟨u18, h18, hf⟩ := bdS hf
    refine r_callV0 X [.int x1, .int x2] [] (K10_pressureIn h18) lkX10_396 clsX10 rfl _ o_model (by decide) (Nat.le_of_ble_eq_true rfl) rfl rfl (Nat.le_of_ble_eq_true rfl) rfl rfl (Nat.zero_le _) (Nat.zero_le _) dX10_pressureAfter_18 ?_
    refine r_lstore_n X [some (.ref (k.b + (189))), some (.int x1), some (.int x2), some (.long u18.1), none] dX10_pressureAfter_21 (Nat.le_of_ble_eq_true rfl) rfl ?_
    refine r_aload_n X (x := k.b + (189)) dX10_pressureAfter_22 rfl ?_
    obtain ⟨u23, h23, hf⟩ := bdS hf
    refine r_callV0 X [] [] (K10_wake h23) lkX10_399 clsX10 rfl _ o_model (by decide) (Nat.le_of_ble_eq_true rfl) rfl rfl (Nat.le_of_ble_eq_true rfl) rfl rfl (Nat.zero_le _) (Nat.zero_le _) dX10_pressureAfter_23 ?_
    refine r_lload_n X (x := u18.1) dX10_pressureAfter_26 rfl ?_
    refine r_l2i X dX10_pressureAfter_27 ?_
    obtain rfl := Option.some.inj hf
    exact r_ireturn X hQ rfl rfl (Nat.le_of_ble_eq_true rfl) (Nat.le_of_ble_eq_true rfl) dX10_pressureAfter_28
  · replace hf := ifF hf c6
    refine r_iconst X (v := 0) dX10_pressureAfter_9 rfl ?_
    obtain rfl := Option.some.inj hf
    exact r_ireturn X hQ rfl rfl (Nat.le_of_ble_eq_true rfl) (Nat.le_of_ble_eq_true rfl) dX10_pressureAfter_10
set_option maxRecDepth 100000 in
set_option maxHeartbeats 4000000 in
theorem B10_lowest_B24 {k : KT} {z : ZT} {T : TT} {R : RR} {ly : Fin 2 → LL} {rc : RC} {hn : HN} {rp : RP} {tp : TP} {ee : EE} {st : Fin 12 → SS} {aside : Nat → Int64} {fresh : Nat → Int64} {mu : MU} {mp : MP} {mf : MF} {mh : MH} {mg : MG} {ou : Nat → Int64} {od : Nat → UInt64} {r : Int32 × (Nat → Int64) × (Nat → Int64) × (Int32)} (X : XX k strs z RX10 cX10_lowest 6 (some .int) (rmD 9 0 0)) (hQ : zQ z = MQ (zB z) (Qof k (some (.int r.1)) (wAll k T R ly rc hn rp tp ee st r.2.1 aside r.2.2.1 fresh mu r.2.2.2 mp mf mh mg ou od)) (zA z) (zS z) 0 0 (kA k)) : ∀ (fu : Nat) (w : Nat → Int64) (thought : Nat → Int64) (th : Int32) (x1 : Int32) (x2 : Int32) (x3 : Int64) (x5 : Int32), f10_lowest_B24  fu w thought th x1 x2 x3 x5 = some r → VW k z 0 0 (wAll k T R ly rc hn rp tp ee st w aside thought fresh mu th mp mf mh mg ou od) 24 [some (.ref (k.b + (189))), some (.int x1), some (.int x2), some (.long x3), none, some (.int x5)] [] := by
  intro fu
  induction fu with
  | zero =>
    intro w thought th x1 x2 x3 x5 hf
    rw [f10_lowest_B24] at hf
    cases hf
  | succ fu ih =>
    intro w thought th x1 x2 x3 x5 hf
    rw [f10_lowest_B24] at hf
    refine r_iload X (x := x5) dX10_lowest_24 rfl ?_
    refine r_iload_n X (x := x2) dX10_lowest_26 rfl ?_
    refine r_icmp_ge X 47 dX10_lowest_27 rfl (fun c27 => ?_) (fun c27 => ?_)
    · replace hf := ifT hf c27
      refine r_aload_n X (x := k.b + (189)) dX10_lowest_47 rfl ?_
      obtain ⟨u48, h48, hf⟩ := bdS hf
      refine r_callV0 X [] [] (K10_wake h48) lkX10_399 clsX10 rfl _ o_model (by decide) (Nat.le_of_ble_eq_true rfl) rfl rfl (Nat.le_of_ble_eq_true rfl) rfl rfl (Nat.zero_le _) (Nat.zero_le _) dX10_lowest_48 ?_
      refine r_lload_n X (x := x3) dX10_lowest_51 rfl ?_
      refine r_l2i X dX10_lowest_52 ?_
      obtain rfl := Option.some.inj hf
      exact r_ireturn X hQ rfl rfl (Nat.le_of_ble_eq_true rfl) (Nat.le_of_ble_eq_true rfl) dX10_lowest_53
    · replace hf := ifF hf c27
      refine r_lload_n X (x := x3) dX10_lowest_30 rfl ?_
      refine r_aload_n X (x := k.b + (189)) dX10_lowest_31 rfl ?_
      refine r_iload_n X (x := x1) dX10_lowest_32 rfl ?_
      refine r_iconst X (v := 1) dX10_lowest_33 rfl ?_
      obtain ⟨u34, h34, hf⟩ := bdS hf
      refine r_callV0 X [.int x1, .int 1] [.long x3] (K10_pressureIn h34) lkX10_396 clsX10 rfl _ o_model (by decide) (Nat.le_of_ble_eq_true rfl) rfl rfl (Nat.le_of_ble_eq_true rfl) rfl rfl (Nat.zero_le _) (Nat.zero_le _) dX10_lowest_34 ?_
      refine r_lmin X lkX10_111 rfl ⟨(Nat.le_of_ble_eq_true rfl), (Nat.le_of_ble_eq_true rfl)⟩ (Nat.zero_le _) (Nat.zero_le _) dX10_lowest_37 ?_
      refine r_lstore_n X [some (.ref (k.b + (189))), some (.int x1), some (.int x2), some (.long (if u34.1 < x3 then u34.1 else x3)), none, some (.int x5)] dX10_lowest_40 (Nat.le_of_ble_eq_true rfl) rfl ?_
      refine r_iinc X (x := x5) (v := x5 + 1) [some (.ref (k.b + (189))), some (.int x1), some (.int x2), some (.long (if u34.1 < x3 then u34.1 else x3)), none, some (.int (x5 + 1))] dX10_lowest_41 rfl rfl rfl ?_
      refine r_goto X 24 dX10_lowest_44 rfl ?_
      exact ih u34.2 thought th x1 x2 (if u34.1 < x3 then u34.1 else x3) (x5 + 1) hf
set_option maxRecDepth 100000 in
set_option maxHeartbeats 4000000 in
theorem K10_lowest {k : KT} {T : TT} {R : RR} {ly : Fin 2 → LL} {rc : RC} {hn : HN} {rp : RP} {tp : TP} {ee : EE} {st : Fin 12 → SS} {w : Nat → Int64} {aside : Nat → Int64} {thought : Nat → Int64} {fresh : Nat → Int64} {mu : MU} {th : Int32} {mp : MP} {mf : MF} {mh : MH} {mg : MG} {ou : Nat → Int64} {od : Nat → UInt64}  {x1 : Int32} {x2 : Int32} {r : Int32 × (Nat → Int64) × (Nat → Int64) × (Int32)} (hf : f10_lowest  w thought th x1 x2 = some r) : CT k strs yX10_lowest cX10_lowest 6 (some .int) (rmD 9 0 0) 0 0 [.ref (k.b + (189)), .int x1, .int x2] (wAll k T R ly rc hn rp tp ee st w aside thought fresh mu th mp mf mh mg ou od) (some (.int r.1)) (wAll k T R ly rc hn rp tp ee st r.2.1 aside r.2.2.1 fresh mu r.2.2.2 mp mf mh mg ou od) := by
  refine CT.of (by decide) (Nat.le_of_ble_eq_true rfl) ?_
  intro z X hQ
  show VW k z 0 0 (wAll k T R ly rc hn rp tp ee st w aside thought fresh mu th mp mf mh mg ou od) 0 [some (.ref (k.b + (189))), some (.int x1), some (.int x2), none, none, none] []
  unfold f10_lowest at hf
  refine r_aload_n X (x := k.b + (189)) dX10_lowest_0 rfl ?_
  refine r_iload_n X (x := x1) dX10_lowest_1 rfl ?_
  refine r_iload_n X (x := x2) dX10_lowest_2 rfl ?_
  obtain ⟨u3, h3, hf⟩ := bdS hf
  refine r_callV0 X [.int x1, .int x2] [] (K10_isNoLook h3) lkX10_389 clsX10 rfl _ o_model (by decide) (Nat.le_of_ble_eq_true rfl) rfl rfl (Nat.le_of_ble_eq_true rfl) rfl rfl (Nat.zero_le _) (Nat.zero_le _) dX10_lowest_3 ?_
  refine r_if_eq X 11 dX10_lowest_6 rfl (fun c6 => ?_) (fun c6 => ?_)
  · replace hf := ifT hf c6
    refine r_aload_n X (x := k.b + (189)) dX10_lowest_11 rfl ?_
    obtain ⟨u12, h12, hf⟩ := bdS hf
    refine r_callV0 X [] [] (K10_think h12) lkX10_393 clsX10 rfl _ o_model (by decide) (Nat.le_of_ble_eq_true rfl) rfl rfl (Nat.le_of_ble_eq_true rfl) rfl rfl (Nat.zero_le _) (Nat.zero_le _) dX10_lowest_12 ?_
    refine r_aload_n X (x := k.b + (189)) dX10_lowest_15 rfl ?_
    refine r_iload_n X (x := x1) dX10_lowest_16 rfl ?_
    obtain ⟨u17, h17, hf⟩ := bdS hf
    refine r_callV0 X [.int x1] [] (K10_pressure h17) lkX10_78 clsX10 rfl _ o_model (by decide) (Nat.le_of_ble_eq_true rfl) rfl rfl (Nat.le_of_ble_eq_true rfl) rfl rfl (Nat.zero_le _) (Nat.zero_le _) dX10_lowest_17 ?_
    refine r_lstore_n X [some (.ref (k.b + (189))), some (.int x1), some (.int x2), some (.long u17), none, none] dX10_lowest_20 (Nat.le_of_ble_eq_true rfl) rfl ?_
    refine r_iconst X (v := 0) dX10_lowest_21 rfl ?_
    refine r_istore X [some (.ref (k.b + (189))), some (.int x1), some (.int x2), some (.long u17), none, some (.int 0)] dX10_lowest_22 (Nat.le_of_ble_eq_true rfl) rfl ?_
    exact B10_lowest_B24 X hQ FU w u12 u3.2 x1 x2 u17 0 hf
  · replace hf := ifF hf c6
    refine r_iconst X (v := 0) dX10_lowest_9 rfl ?_
    obtain rfl := Option.some.inj hf
    exact r_ireturn X hQ rfl rfl (Nat.le_of_ble_eq_true rfl) (Nat.le_of_ble_eq_true rfl) dX10_lowest_10
set_option maxRecDepth 100000 in
set_option maxHeartbeats 4000000 in
theorem K10_ticksTo {k : KT} {T : TT} {R : RR} {ly : Fin 2 → LL} {rc : RC} {hn : HN} {rp : RP} {tp : TP} {ee : EE} {st : Fin 12 → SS} {w : Nat → Int64} {aside : Nat → Int64} {thought : Nat → Int64} {fresh : Nat → Int64} {mu : MU} {th : Int32} {mp : MP} {mf : MF} {mh : MH} {mg : MG} {ou : Nat → Int64} {od : Nat → UInt64}  {x1 : Int32} {x2 : Int32} {r : Int32 × (Nat → Int64) × (Nat → Int64) × (Int32)} (hf : f10_ticksTo  w thought th x1 x2 = some r) : CT k strs yX10_ticksTo cX10_ticksTo 4 (some .int) (rmD 8 0 0) 0 0 [.ref (k.b + (189)), .int x1, .int x2] (wAll k T R ly rc hn rp tp ee st w aside thought fresh mu th mp mf mh mg ou od) (some (.int r.1)) (wAll k T R ly rc hn rp tp ee st r.2.1 aside r.2.2.1 fresh mu r.2.2.2 mp mf mh mg ou od) := by
  refine CT.of (by decide) (Nat.le_of_ble_eq_true rfl) ?_
  intro z X hQ
  show VW k z 0 0 (wAll k T R ly rc hn rp tp ee st w aside thought fresh mu th mp mf mh mg ou od) 0 [some (.ref (k.b + (189))), some (.int x1), some (.int x2), none] []
  unfold f10_ticksTo at hf
  refine r_aload_n X (x := k.b + (189)) dX10_ticksTo_0 rfl ?_
  refine r_aload_n X (x := k.b + (189)) dX10_ticksTo_1 rfl ?_
  refine r_iload_n X (x := x1) dX10_ticksTo_2 rfl ?_
  obtain ⟨u3, h3, hf⟩ := bdS hf
  refine r_callV0 X [.int x1] [.ref (k.b + (189))] (K10_isChamber h3) lkX10_179 clsX10 rfl _ o_model (by decide) (Nat.le_of_ble_eq_true rfl) rfl rfl (Nat.le_of_ble_eq_true rfl) rfl rfl (Nat.zero_le _) (Nat.zero_le _) dX10_ticksTo_3 ?_
  suffices K6 : VW k z 0 0 (wAll k T R ly rc hn rp tp ee st w aside thought fresh mu th mp mf mh mg ou od) 14 [some (.ref (k.b + (189))), some (.int x1), some (.int x2), none] [.int (if u3 = 0 then (1 : Int32) else (0 : Int32)), .ref (k.b + (189))] by
    refine r_if_ne X 13 dX10_ticksTo_6 rfl (fun c6 => ?_) (fun c6 => ?_)
    · refine r_iconst X (v := 0) dX10_ticksTo_13 rfl ?_
      rw [if_neg c6] at K6
      exact K6
    · refine r_iconst X (v := 1) dX10_ticksTo_9 rfl ?_
      refine r_goto X 14 dX10_ticksTo_10 rfl ?_
      rw [if_pos c6] at K6
      exact K6
  refine r_iconst X (v := 1) dX10_ticksTo_14 rfl ?_
  obtain ⟨u15, h15, hf⟩ := bdS hf
  refine r_callV0 X [.int (if u3 = 0 then (1 : Int32) else (0 : Int32)), .int 1] [] (K10_fails h15) lkX10_151 clsX10 rfl _ o_model (by decide) (Nat.le_of_ble_eq_true rfl) rfl rfl (Nat.le_of_ble_eq_true rfl) rfl rfl (Nat.zero_le _) (Nat.zero_le _) dX10_ticksTo_15 ?_
  refine r_if_ne X 41 dX10_ticksTo_18 rfl (fun c18 => ?_) (fun c18 => ?_)
  · replace hf := ifF hf c18
    refine r_iconst X (v := 0) dX10_ticksTo_41 rfl ?_
    obtain rfl := Option.some.inj hf
    exact r_ireturn X hQ rfl rfl (Nat.le_of_ble_eq_true rfl) (Nat.le_of_ble_eq_true rfl) dX10_ticksTo_42
  · replace hf := ifT hf c18
    refine r_aload_n X (x := k.b + (189)) dX10_ticksTo_21 rfl ?_
    refine r_iload_n X (x := x2) dX10_ticksTo_22 rfl ?_
    obtain ⟨u23, h23, hf⟩ := bdS hf
    refine r_callS0 X [.int x2] [.ref (k.b + (189))] (K10_isPressure h23) lkX10_182 (by decide) (Nat.le_of_ble_eq_true rfl) rfl rfl (Nat.le_of_ble_eq_true rfl) rfl rfl (Nat.zero_le _) (Nat.zero_le _) dX10_ticksTo_23 ?_
    suffices K26 : VW k z 0 0 (wAll k T R ly rc hn rp tp ee st w aside thought fresh mu u15.2 mp mf mh mg ou od) 34 [some (.ref (k.b + (189))), some (.int x1), some (.int x2), none] [.int (if u23 = 0 then (1 : Int32) else (0 : Int32)), .ref (k.b + (189))] by
      refine r_if_ne X 33 dX10_ticksTo_26 rfl (fun c26 => ?_) (fun c26 => ?_)
      · refine r_iconst X (v := 0) dX10_ticksTo_33 rfl ?_
        rw [if_neg c26] at K26
        exact K26
      · refine r_iconst X (v := 1) dX10_ticksTo_29 rfl ?_
        refine r_goto X 34 dX10_ticksTo_30 rfl ?_
        rw [if_pos c26] at K26
        exact K26
    refine r_iconst X (v := 2) dX10_ticksTo_34 rfl ?_
    obtain ⟨u35, h35, hf⟩ := bdS hf
    refine r_callV0 X [.int (if u23 = 0 then (1 : Int32) else (0 : Int32)), .int 2] [] (K10_fails h35) lkX10_151 clsX10 rfl _ o_model (by decide) (Nat.le_of_ble_eq_true rfl) rfl rfl (Nat.le_of_ble_eq_true rfl) rfl rfl (Nat.zero_le _) (Nat.zero_le _) dX10_ticksTo_35 ?_
    refine r_if_eq X 43 dX10_ticksTo_38 rfl (fun c38 => ?_) (fun c38 => ?_)
    · replace hf := ifT hf c38
      refine r_aload_n X (x := k.b + (189)) dX10_ticksTo_43 rfl ?_
      obtain ⟨u44, h44, hf⟩ := bdS hf
      refine r_callV0 X [] [] (K10_think h44) lkX10_393 clsX10 rfl _ o_model (by decide) (Nat.le_of_ble_eq_true rfl) rfl rfl (Nat.le_of_ble_eq_true rfl) rfl rfl (Nat.zero_le _) (Nat.zero_le _) dX10_ticksTo_44 ?_
      refine r_aload_n X (x := k.b + (189)) dX10_ticksTo_47 rfl ?_
      refine r_iload_n X (x := x1) dX10_ticksTo_48 rfl ?_
      refine r_iload_n X (x := x2) dX10_ticksTo_49 rfl ?_
      obtain ⟨u50, h50, hf⟩ := bdS hf
      refine r_callV0 X [.int x1, .int x2] [] (K10_goDown h50) lkX10_185 clsX10 rfl _ o_model (by decide) (Nat.le_of_ble_eq_true rfl) rfl rfl (Nat.le_of_ble_eq_true rfl) rfl rfl (Nat.zero_le _) (Nat.zero_le _) dX10_ticksTo_50 ?_
      refine r_istore_n X [some (.ref (k.b + (189))), some (.int x1), some (.int x2), some (.int u50.1)] dX10_ticksTo_53 (Nat.le_of_ble_eq_true rfl) rfl ?_
      refine r_aload_n X (x := k.b + (189)) dX10_ticksTo_54 rfl ?_
      obtain ⟨u55, h55, hf⟩ := bdS hf
      refine r_callV0 X [] [] (K10_wake h55) lkX10_399 clsX10 rfl _ o_model (by decide) (Nat.le_of_ble_eq_true rfl) rfl rfl (Nat.le_of_ble_eq_true rfl) rfl rfl (Nat.zero_le _) (Nat.zero_le _) dX10_ticksTo_55 ?_
      refine r_aload_n X (x := k.b + (189)) dX10_ticksTo_58 rfl ?_
      refine r_iload_n X (x := u50.1) dX10_ticksTo_59 rfl ?_
      refine r_iconst X (v := (-1)) dX10_ticksTo_60 rfl ?_
      suffices K61 : VW k z 0 0 (wAll k T R ly rc hn rp tp ee st u55 aside u44 fresh mu u35.2 mp mf mh mg ou od) 69 [some (.ref (k.b + (189))), some (.int x1), some (.int x2), some (.int u50.1)] [.int (if u50.1 = (-1) then (1 : Int32) else (0 : Int32)), .ref (k.b + (189))] by
        refine r_icmp_ne X 68 dX10_ticksTo_61 rfl (fun c61 => ?_) (fun c61 => ?_)
        · refine r_iconst X (v := 0) dX10_ticksTo_68 rfl ?_
          rw [if_neg c61] at K61
          exact K61
        · refine r_iconst X (v := 1) dX10_ticksTo_64 rfl ?_
          refine r_goto X 69 dX10_ticksTo_65 rfl ?_
          rw [if_pos c61] at K61
          exact K61
      refine r_iconst X (v := 3) dX10_ticksTo_69 rfl ?_
      obtain ⟨u70, h70, hf⟩ := bdS hf
      refine r_callV0 X [.int (if u50.1 = (-1) then (1 : Int32) else (0 : Int32)), .int 3] [] (K10_fails h70) lkX10_151 clsX10 rfl _ o_model (by decide) (Nat.le_of_ble_eq_true rfl) rfl rfl (Nat.le_of_ble_eq_true rfl) rfl rfl (Nat.zero_le _) (Nat.zero_le _) dX10_ticksTo_70 ?_
      suffices K73 : VW k z 0 0 (wAll k T R ly rc hn rp tp ee st u55 aside u44 fresh mu u70.2 mp mf mh mg ou od) 81 [some (.ref (k.b + (189))), some (.int x1), some (.int x2), some (.int u50.1)] [.int (if u70.1 = 0 then (u50.1 : Int32) else (0 : Int32))] by
        refine r_if_eq X 80 dX10_ticksTo_73 rfl (fun c73 => ?_) (fun c73 => ?_)
        · refine r_iload_n X (x := u50.1) dX10_ticksTo_80 rfl ?_
          rw [if_pos c73] at K73
          exact K73
        · refine r_iconst X (v := 0) dX10_ticksTo_76 rfl ?_
          refine r_goto X 81 dX10_ticksTo_77 rfl ?_
          rw [if_neg c73] at K73
          exact K73
      obtain rfl := Option.some.inj hf
      exact r_ireturn X hQ rfl rfl (Nat.le_of_ble_eq_true rfl) (Nat.le_of_ble_eq_true rfl) dX10_ticksTo_81
    · replace hf := ifF hf c38
      refine r_iconst X (v := 0) dX10_ticksTo_41 rfl ?_
      obtain rfl := Option.some.inj hf
      exact r_ireturn X hQ rfl rfl (Nat.le_of_ble_eq_true rfl) (Nat.le_of_ble_eq_true rfl) dX10_ticksTo_42
set_option maxRecDepth 100000 in
set_option maxHeartbeats 4000000 in
theorem K10_tripsIn {k : KT} {T : TT} {R : RR} {ly : Fin 2 → LL} {rc : RC} {hn : HN} {rp : RP} {tp : TP} {ee : EE} {st : Fin 12 → SS} {w : Nat → Int64} {aside : Nat → Int64} {thought : Nat → Int64} {fresh : Nat → Int64} {mu : MU} {th : Int32} {mp : MP} {mf : MF} {mh : MH} {mg : MG} {ou : Nat → Int64} {od : Nat → UInt64}  {x1 : Int32} {r : Int32 × (Nat → Int64) × (Nat → Int64) × (Int32)} (hf : f10_tripsIn  w thought th x1 = some r) : CT k strs yX10_tripsIn cX10_tripsIn 3 (some .int) (rmD 8 0 0) 0 0 [.ref (k.b + (189)), .int x1] (wAll k T R ly rc hn rp tp ee st w aside thought fresh mu th mp mf mh mg ou od) (some (.int r.1)) (wAll k T R ly rc hn rp tp ee st r.2.1 aside r.2.2.1 fresh mu r.2.2.2 mp mf mh mg ou od) := by
  refine CT.of (by decide) (Nat.le_of_ble_eq_true rfl) ?_
  intro z X hQ
  show VW k z 0 0 (wAll k T R ly rc hn rp tp ee st w aside thought fresh mu th mp mf mh mg ou od) 0 [some (.ref (k.b + (189))), some (.int x1), none] []
  unfold f10_tripsIn at hf
  refine r_aload_n X (x := k.b + (189)) dX10_tripsIn_0 rfl ?_
  refine r_iload_n X (x := x1) dX10_tripsIn_1 rfl ?_
  obtain ⟨u2, h2, hf⟩ := bdS hf
  refine r_callS0 X [.int x1] [.ref (k.b + (189))] (K10_isTicks h2) lkX10_173 (by decide) (Nat.le_of_ble_eq_true rfl) rfl rfl (Nat.le_of_ble_eq_true rfl) rfl rfl (Nat.zero_le _) (Nat.zero_le _) dX10_tripsIn_2 ?_
  suffices K5 : VW k z 0 0 (wAll k T R ly rc hn rp tp ee st w aside thought fresh mu th mp mf mh mg ou od) 13 [some (.ref (k.b + (189))), some (.int x1), none] [.int (if u2 = 0 then (1 : Int32) else (0 : Int32)), .ref (k.b + (189))] by
    refine r_if_ne X 12 dX10_tripsIn_5 rfl (fun c5 => ?_) (fun c5 => ?_)
    · refine r_iconst X (v := 0) dX10_tripsIn_12 rfl ?_
      rw [if_neg c5] at K5
      exact K5
    · refine r_iconst X (v := 1) dX10_tripsIn_8 rfl ?_
      refine r_goto X 13 dX10_tripsIn_9 rfl ?_
      rw [if_pos c5] at K5
      exact K5
  refine r_iconst X (v := 1) dX10_tripsIn_13 rfl ?_
  obtain ⟨u14, h14, hf⟩ := bdS hf
  refine r_callV0 X [.int (if u2 = 0 then (1 : Int32) else (0 : Int32)), .int 1] [] (K10_fails h14) lkX10_151 clsX10 rfl _ o_model (by decide) (Nat.le_of_ble_eq_true rfl) rfl rfl (Nat.le_of_ble_eq_true rfl) rfl rfl (Nat.zero_le _) (Nat.zero_le _) dX10_tripsIn_14 ?_
  refine r_if_eq X 22 dX10_tripsIn_17 rfl (fun c17 => ?_) (fun c17 => ?_)
  · replace hf := ifT hf c17
    refine r_aload_n X (x := k.b + (189)) dX10_tripsIn_22 rfl ?_
    obtain ⟨u23, h23, hf⟩ := bdS hf
    refine r_callV0 X [] [] (K10_think h23) lkX10_393 clsX10 rfl _ o_model (by decide) (Nat.le_of_ble_eq_true rfl) rfl rfl (Nat.le_of_ble_eq_true rfl) rfl rfl (Nat.zero_le _) (Nat.zero_le _) dX10_tripsIn_23 ?_
    refine r_aload_n X (x := k.b + (189)) dX10_tripsIn_26 rfl ?_
    refine r_iload_n X (x := x1) dX10_tripsIn_27 rfl ?_
    obtain ⟨u28, h28, hf⟩ := bdS hf
    refine r_callV0 X [.int x1] [] (K10_passNow h28) lkX10_176 clsX10 rfl _ o_model (by decide) (Nat.le_of_ble_eq_true rfl) rfl rfl (Nat.le_of_ble_eq_true rfl) rfl rfl (Nat.zero_le _) (Nat.zero_le _) dX10_tripsIn_28 ?_
    refine r_istore_n X [some (.ref (k.b + (189))), some (.int x1), some (.int u28.1)] dX10_tripsIn_31 (Nat.le_of_ble_eq_true rfl) rfl ?_
    refine r_aload_n X (x := k.b + (189)) dX10_tripsIn_32 rfl ?_
    obtain ⟨u33, h33, hf⟩ := bdS hf
    refine r_callV0 X [] [] (K10_wake h33) lkX10_399 clsX10 rfl _ o_model (by decide) (Nat.le_of_ble_eq_true rfl) rfl rfl (Nat.le_of_ble_eq_true rfl) rfl rfl (Nat.zero_le _) (Nat.zero_le _) dX10_tripsIn_33 ?_
    refine r_iload_n X (x := u28.1) dX10_tripsIn_36 rfl ?_
    obtain rfl := Option.some.inj hf
    exact r_ireturn X hQ rfl rfl (Nat.le_of_ble_eq_true rfl) (Nat.le_of_ble_eq_true rfl) dX10_tripsIn_37
  · replace hf := ifF hf c17
    refine r_iconst X (v := 0) dX10_tripsIn_20 rfl ?_
    obtain rfl := Option.some.inj hf
    exact r_ireturn X hQ rfl rfl (Nat.le_of_ble_eq_true rfl) (Nat.le_of_ble_eq_true rfl) dX10_tripsIn_21
set_option maxRecDepth 100000 in
set_option maxHeartbeats 4000000 in
theorem B10_meanPressure_B20 {k : KT} {z : ZT} {T : TT} {R : RR} {ly : Fin 2 → LL} {rc : RC} {hn : HN} {rp : RP} {tp : TP} {ee : EE} {st : Fin 12 → SS} {aside : Nat → Int64} {fresh : Nat → Int64} {mu : MU} {mp : MP} {mf : MF} {mh : MH} {mg : MG} {ou : Nat → Int64} {od : Nat → UInt64} {r : UInt64 × (Nat → Int64) × (Nat → Int64) × (Int32)} (X : XX k strs z RX10 cX10_meanPressure 6 (some .double) (rmD 9 0 0)) (hQ : zQ z = MQ (zB z) (Qof k (some (.double r.1)) (wAll k T R ly rc hn rp tp ee st r.2.1 aside r.2.2.1 fresh mu r.2.2.2 mp mf mh mg ou od)) (zA z) (zS z) 0 0 (kA k)) : ∀ (fu : Nat) (w : Nat → Int64) (thought : Nat → Int64) (th : Int32) (x1 : Int32) (x2 : Int32) (x3 : Int64) (x5 : Int32), f10_meanPressure_B20  fu w thought th x1 x2 x3 x5 = some r → VW k z 0 0 (wAll k T R ly rc hn rp tp ee st w aside thought fresh mu th mp mf mh mg ou od) 20 [some (.ref (k.b + (189))), some (.int x1), some (.int x2), some (.long x3), none, some (.int x5)] [] := by
  intro fu
  induction fu with
  | zero =>
    intro w thought th x1 x2 x3 x5 hf
    rw [f10_meanPressure_B20] at hf
    cases hf
  | succ fu ih =>
    intro w thought th x1 x2 x3 x5 hf
    rw [f10_meanPressure_B20] at hf
    refine r_iload X (x := x5) dX10_meanPressure_20 rfl ?_
    refine r_iload_n X (x := x2) dX10_meanPressure_22 rfl ?_
    refine r_icmp_ge X 41 dX10_meanPressure_23 rfl (fun c23 => ?_) (fun c23 => ?_)
    · replace hf := ifT hf c23
      refine r_aload_n X (x := k.b + (189)) dX10_meanPressure_41 rfl ?_
      obtain ⟨u42, h42, hf⟩ := bdS hf
      refine r_callV0 X [] [] (K10_wake h42) lkX10_399 clsX10 rfl _ o_model (by decide) (Nat.le_of_ble_eq_true rfl) rfl rfl (Nat.le_of_ble_eq_true rfl) rfl rfl (Nat.zero_le _) (Nat.zero_le _) dX10_meanPressure_42 ?_
      refine r_lload_n X (x := x3) dX10_meanPressure_45 rfl ?_
      refine r_l2d X dX10_meanPressure_46 ?_
      refine r_iload_n X (x := x2) dX10_meanPressure_47 rfl ?_
      refine r_i2d X dX10_meanPressure_48 ?_
      obtain ⟨g49n, hf⟩ := gdS hf
      refine r_ddiv X dX10_meanPressure_49 (nn_of g49n) ?_
      obtain rfl := Option.some.inj hf
      exact r_dreturn X hQ rfl rfl (Nat.le_of_ble_eq_true rfl) (Nat.le_of_ble_eq_true rfl) dX10_meanPressure_50
    · replace hf := ifF hf c23
      refine r_lload_n X (x := x3) dX10_meanPressure_26 rfl ?_
      refine r_aload_n X (x := k.b + (189)) dX10_meanPressure_27 rfl ?_
      refine r_iload_n X (x := x1) dX10_meanPressure_28 rfl ?_
      refine r_iconst X (v := 1) dX10_meanPressure_29 rfl ?_
      obtain ⟨u30, h30, hf⟩ := bdS hf
      refine r_callV0 X [.int x1, .int 1] [.long x3] (K10_pressureIn h30) lkX10_396 clsX10 rfl _ o_model (by decide) (Nat.le_of_ble_eq_true rfl) rfl rfl (Nat.le_of_ble_eq_true rfl) rfl rfl (Nat.zero_le _) (Nat.zero_le _) dX10_meanPressure_30 ?_
      refine r_ladd X dX10_meanPressure_33 ?_
      refine r_lstore_n X [some (.ref (k.b + (189))), some (.int x1), some (.int x2), some (.long (x3 + u30.1)), none, some (.int x5)] dX10_meanPressure_34 (Nat.le_of_ble_eq_true rfl) rfl ?_
      refine r_iinc X (x := x5) (v := x5 + 1) [some (.ref (k.b + (189))), some (.int x1), some (.int x2), some (.long (x3 + u30.1)), none, some (.int (x5 + 1))] dX10_meanPressure_35 rfl rfl rfl ?_
      refine r_goto X 20 dX10_meanPressure_38 rfl ?_
      exact ih u30.2 thought th x1 x2 (x3 + u30.1) (x5 + 1) hf
set_option maxRecDepth 100000 in
set_option maxHeartbeats 4000000 in
theorem K10_meanPressure {k : KT} {T : TT} {R : RR} {ly : Fin 2 → LL} {rc : RC} {hn : HN} {rp : RP} {tp : TP} {ee : EE} {st : Fin 12 → SS} {w : Nat → Int64} {aside : Nat → Int64} {thought : Nat → Int64} {fresh : Nat → Int64} {mu : MU} {th : Int32} {mp : MP} {mf : MF} {mh : MH} {mg : MG} {ou : Nat → Int64} {od : Nat → UInt64}  {x1 : Int32} {x2 : Int32} {r : UInt64 × (Nat → Int64) × (Nat → Int64) × (Int32)} (hf : f10_meanPressure  w thought th x1 x2 = some r) : CT k strs yX10_meanPressure cX10_meanPressure 6 (some .double) (rmD 9 0 0) 0 0 [.ref (k.b + (189)), .int x1, .int x2] (wAll k T R ly rc hn rp tp ee st w aside thought fresh mu th mp mf mh mg ou od) (some (.double r.1)) (wAll k T R ly rc hn rp tp ee st r.2.1 aside r.2.2.1 fresh mu r.2.2.2 mp mf mh mg ou od) := by
  refine CT.of (by decide) (Nat.le_of_ble_eq_true rfl) ?_
  intro z X hQ
  show VW k z 0 0 (wAll k T R ly rc hn rp tp ee st w aside thought fresh mu th mp mf mh mg ou od) 0 [some (.ref (k.b + (189))), some (.int x1), some (.int x2), none, none, none] []
  unfold f10_meanPressure at hf
  refine r_aload_n X (x := k.b + (189)) dX10_meanPressure_0 rfl ?_
  refine r_iload_n X (x := x1) dX10_meanPressure_1 rfl ?_
  refine r_iload_n X (x := x2) dX10_meanPressure_2 rfl ?_
  obtain ⟨u3, h3, hf⟩ := bdS hf
  refine r_callV0 X [.int x1, .int x2] [] (K10_isNoLook h3) lkX10_389 clsX10 rfl _ o_model (by decide) (Nat.le_of_ble_eq_true rfl) rfl rfl (Nat.le_of_ble_eq_true rfl) rfl rfl (Nat.zero_le _) (Nat.zero_le _) dX10_meanPressure_3 ?_
  refine r_if_eq X 11 dX10_meanPressure_6 rfl (fun c6 => ?_) (fun c6 => ?_)
  · replace hf := ifT hf c6
    refine r_aload_n X (x := k.b + (189)) dX10_meanPressure_11 rfl ?_
    obtain ⟨u12, h12, hf⟩ := bdS hf
    refine r_callV0 X [] [] (K10_think h12) lkX10_393 clsX10 rfl _ o_model (by decide) (Nat.le_of_ble_eq_true rfl) rfl rfl (Nat.le_of_ble_eq_true rfl) rfl rfl (Nat.zero_le _) (Nat.zero_le _) dX10_meanPressure_12 ?_
    refine r_lconst X (v := 0) dX10_meanPressure_15 rfl ?_
    refine r_lstore_n X [some (.ref (k.b + (189))), some (.int x1), some (.int x2), some (.long 0), none, none] dX10_meanPressure_16 (Nat.le_of_ble_eq_true rfl) rfl ?_
    refine r_iconst X (v := 0) dX10_meanPressure_17 rfl ?_
    refine r_istore X [some (.ref (k.b + (189))), some (.int x1), some (.int x2), some (.long 0), none, some (.int 0)] dX10_meanPressure_18 (Nat.le_of_ble_eq_true rfl) rfl ?_
    exact B10_meanPressure_B20 X hQ FU w u12 u3.2 x1 x2 0 0 hf
  · replace hf := ifF hf c6
    refine r_dconst0 X dX10_meanPressure_9 ?_
    obtain rfl := Option.some.inj hf
    exact r_dreturn X hQ rfl rfl (Nat.le_of_ble_eq_true rfl) (Nat.le_of_ble_eq_true rfl) dX10_meanPressure_10
set_option maxRecDepth 100000 in
set_option maxHeartbeats 4000000 in
theorem B10_bestPump_B23 {k : KT} {z : ZT} {T : TT} {R : RR} {ly : Fin 2 → LL} {rc : RC} {hn : HN} {rp : RP} {tp : TP} {ee : EE} {st : Fin 12 → SS} {aside : Nat → Int64} {fresh : Nat → Int64} {mu : MU} {mp : MP} {mf : MF} {mh : MH} {mg : MG} {ou : Nat → Int64} {od : Nat → UInt64} {r : Int32 × (Nat → Int64) × (Nat → Int64) × (Int32)} (X : XX k strs z RX10 cX10_bestPump 10 (some .int) (rmD 9 0 0)) (hQ : zQ z = MQ (zB z) (Qof k (some (.int r.1)) (wAll k T R ly rc hn rp tp ee st r.2.1 aside r.2.2.1 fresh mu r.2.2.2 mp mf mh mg ou od)) (zA z) (zS z) 0 0 (kA k)) : ∀ (fu : Nat) (w : Nat → Int64) (thought : Nat → Int64) (th : Int32) (x1 : Int32) (x2 : Int32) (x3 : Int32) (x4 : Int64) (x6 : Int32), f10_bestPump_B23  fu w thought th x1 x2 x3 x4 x6 = some r → VW k z 0 0 (wAll k T R ly rc hn rp tp ee st w aside thought fresh mu th mp mf mh mg ou od) 23 [some (.ref (k.b + (189))), some (.int x1), some (.int x2), some (.int x3), some (.long x4), none, some (.int x6), none, none, none] [] := by
  intro fu
  induction fu with
  | zero =>
    intro w thought th x1 x2 x3 x4 x6 hf
    rw [f10_bestPump_B23] at hf
    cases hf
  | succ fu ih =>
    intro w thought th x1 x2 x3 x4 x6 hf
    rw [f10_bestPump_B23] at hf
    refine r_iload X (x := x6) dX10_bestPump_23 rfl ?_
    refine r_aload_n X (x := k.b + (189)) dX10_bestPump_25 rfl ?_
    refine r_iconst X (v := 1) dX10_bestPump_26 rfl ?_
    obtain ⟨u27, h27, hf⟩ := bdS hf
    refine r_callV0 X [.int 1] [.int x6] (K10_many h27) lkX10_93 clsX10 rfl _ o_model (by decide) (Nat.le_of_ble_eq_true rfl) rfl rfl (Nat.le_of_ble_eq_true rfl) rfl rfl (Nat.zero_le _) (Nat.zero_le _) dX10_bestPump_27 ?_
    refine r_icmp_ge X 95 dX10_bestPump_30 rfl (fun c30 => ?_) (fun c30 => ?_)
    · replace hf := ifT hf c30
      refine r_aload_n X (x := k.b + (189)) dX10_bestPump_95 rfl ?_
      refine r_iload_n X (x := x3) dX10_bestPump_96 rfl ?_
      refine r_iconst X (v := (-1)) dX10_bestPump_97 rfl ?_
      suffices K98 : VW k z 0 0 (wAll k T R ly rc hn rp tp ee st w aside thought fresh mu th mp mf mh mg ou od) 106 [some (.ref (k.b + (189))), some (.int x1), some (.int x2), some (.int x3), some (.long x4), none, some (.int x6), none, none, none] [.int (if x3 = (-1) then (1 : Int32) else (0 : Int32)), .ref (k.b + (189))] by
        refine r_icmp_ne X 105 dX10_bestPump_98 rfl (fun c98 => ?_) (fun c98 => ?_)
        · refine r_iconst X (v := 0) dX10_bestPump_105 rfl ?_
          rw [if_neg c98] at K98
          exact K98
        · refine r_iconst X (v := 1) dX10_bestPump_101 rfl ?_
          refine r_goto X 106 dX10_bestPump_102 rfl ?_
          rw [if_pos c98] at K98
          exact K98
      refine r_iconst X (v := 3) dX10_bestPump_106 rfl ?_
      obtain ⟨u107, h107, hf⟩ := bdS hf
      refine r_callV0 X [.int (if x3 = (-1) then (1 : Int32) else (0 : Int32)), .int 3] [] (K10_fails h107) lkX10_151 clsX10 rfl _ o_model (by decide) (Nat.le_of_ble_eq_true rfl) rfl rfl (Nat.le_of_ble_eq_true rfl) rfl rfl (Nat.zero_le _) (Nat.zero_le _) dX10_bestPump_107 ?_
      suffices K110 : VW k z 0 0 (wAll k T R ly rc hn rp tp ee st w aside thought fresh mu u107.2 mp mf mh mg ou od) 118 [some (.ref (k.b + (189))), some (.int x1), some (.int x2), some (.int x3), some (.long x4), none, some (.int x6), none, none, none] [.int (if u107.1 = 0 then (x3 : Int32) else (0 : Int32))] by
        refine r_if_eq X 117 dX10_bestPump_110 rfl (fun c110 => ?_) (fun c110 => ?_)
        · refine r_iload_n X (x := x3) dX10_bestPump_117 rfl ?_
          rw [if_pos c110] at K110
          exact K110
        · refine r_iconst X (v := 0) dX10_bestPump_113 rfl ?_
          refine r_goto X 118 dX10_bestPump_114 rfl ?_
          rw [if_neg c110] at K110
          exact K110
      obtain rfl := Option.some.inj hf
      exact r_ireturn X hQ rfl rfl (Nat.le_of_ble_eq_true rfl) (Nat.le_of_ble_eq_true rfl) dX10_bestPump_118
    · replace hf := ifF hf c30
      refine r_aload_n X (x := k.b + (189)) dX10_bestPump_33 rfl ?_
      refine r_iload X (x := x6) dX10_bestPump_34 rfl ?_
      obtain ⟨u36, h36, hf⟩ := bdS hf
      refine r_callV0 X [.int x6] [] (K10_canStart h36) lkX10_167 clsX10 rfl _ o_model (by decide) (Nat.le_of_ble_eq_true rfl) rfl rfl (Nat.le_of_ble_eq_true rfl) rfl rfl (Nat.zero_le _) (Nat.zero_le _) dX10_bestPump_36 ?_
      refine r_if_ne X 45 dX10_bestPump_39 rfl (fun c39 => ?_) (fun c39 => ?_)
      · replace hf := ifF hf c39
        refine r_aload_n X (x := k.b + (189)) dX10_bestPump_45 rfl ?_
        refine r_iload X (x := x6) dX10_bestPump_46 rfl ?_
        refine r_iconst X (v := 1) dX10_bestPump_48 rfl ?_
        obtain ⟨u49, h49, hf⟩ := bdS hf
        refine r_callV0 X [.int x6, .int 1] [] (K10_run h49) lkX10_170 clsX10 rfl _ o_model (by decide) (Nat.le_of_ble_eq_true rfl) rfl rfl (Nat.le_of_ble_eq_true rfl) rfl rfl (Nat.zero_le _) (Nat.zero_le _) dX10_bestPump_49 ?_
        refine r_istore X [some (.ref (k.b + (189))), some (.int x1), some (.int x2), some (.int x3), some (.long x4), none, some (.int x6), some (.int u49.1), none, none] dX10_bestPump_52 (Nat.le_of_ble_eq_true rfl) rfl ?_
        refine r_aload_n X (x := k.b + (189)) dX10_bestPump_54 rfl ?_
        refine r_iload_n X (x := x1) dX10_bestPump_55 rfl ?_
        refine r_iload_n X (x := x2) dX10_bestPump_56 rfl ?_
        obtain ⟨u57, h57, hf⟩ := bdS hf
        refine r_callV0 X [.int x1, .int x2] [] (K10_pressureIn h57) lkX10_396 clsX10 rfl _ o_model (by decide) (Nat.le_of_ble_eq_true rfl) rfl rfl (Nat.le_of_ble_eq_true rfl) rfl rfl (Nat.zero_le _) (Nat.zero_le _) dX10_bestPump_57 ?_
        refine r_lstore X [some (.ref (k.b + (189))), some (.int x1), some (.int x2), some (.int x3), some (.long x4), none, some (.int x6), some (.int u49.1), some (.long u57.1), none] dX10_bestPump_60 (Nat.le_of_ble_eq_true rfl) rfl ?_
        refine r_aload_n X (x := k.b + (189)) dX10_bestPump_62 rfl ?_
        obtain ⟨u63, h63, hf⟩ := bdS hf
        refine r_callV0 X [] [] (K10_wake h63) lkX10_399 clsX10 rfl _ o_model (by decide) (Nat.le_of_ble_eq_true rfl) rfl rfl (Nat.le_of_ble_eq_true rfl) rfl rfl (Nat.zero_le _) (Nat.zero_le _) dX10_bestPump_63 ?_
        refine r_iload_n X (x := x3) dX10_bestPump_66 rfl ?_
        refine r_iconst X (v := (-1)) dX10_bestPump_67 rfl ?_
        refine r_icmp_eq X 82 dX10_bestPump_68 rfl (fun c68 => ?_) (fun c68 => ?_)
        · replace hf := ifT hf c68
          refine r_iload X (x := x6) dX10_bestPump_82 rfl ?_
          refine r_istore_n X [some (.ref (k.b + (189))), some (.int x1), some (.int x2), some (.int x6), some (.long x4), none, some (.int x6), some (.int u49.1), some (.long u57.1), none] dX10_bestPump_84 (Nat.le_of_ble_eq_true rfl) rfl ?_
          refine r_lload X (x := u57.1) dX10_bestPump_85 rfl ?_
          refine r_lstore X [some (.ref (k.b + (189))), some (.int x1), some (.int x2), some (.int x6), some (.long u57.1), none, some (.int x6), some (.int u49.1), some (.long u57.1), none] dX10_bestPump_87 (Nat.le_of_ble_eq_true rfl) rfl ?_
          refine r_iinc X (x := x6) (v := x6 + 1) [some (.ref (k.b + (189))), some (.int x1), some (.int x2), some (.int x6), some (.long u57.1), none, some (.int (x6 + 1)), some (.int u49.1), some (.long u57.1), none] dX10_bestPump_89 rfl rfl rfl ?_
          refine r_goto X 23 dX10_bestPump_92 rfl ?_
          refine VW.msk [true, true, true, true, true, false, true, false, false, false] rfl (lo' := [some (.ref (k.b + (189))), some (.int x1), some (.int x2), some (.int x6), some (.long u57.1), none, some (.int (x6 + 1)), none, none, none]) rfl ?_
          exact ih u63 thought th x1 x2 x6 u57.1 (x6 + 1) hf
        · replace hf := ifF hf c68
          refine r_lload X (x := u57.1) dX10_bestPump_71 rfl ?_
          refine r_lload X (x := x4) dX10_bestPump_73 rfl ?_
          refine r_lcmp_lt X 82 dX10_bestPump_75 dX10_bestPump_76 rfl (fun c75 => ?_) (fun c75 => ?_)
          · replace hf := ifT hf c75
            refine r_iload X (x := x6) dX10_bestPump_82 rfl ?_
            refine r_istore_n X [some (.ref (k.b + (189))), some (.int x1), some (.int x2), some (.int x6), some (.long x4), none, some (.int x6), some (.int u49.1), some (.long u57.1), none] dX10_bestPump_84 (Nat.le_of_ble_eq_true rfl) rfl ?_
            refine r_lload X (x := u57.1) dX10_bestPump_85 rfl ?_
            refine r_lstore X [some (.ref (k.b + (189))), some (.int x1), some (.int x2), some (.int x6), some (.long u57.1), none, some (.int x6), some (.int u49.1), some (.long u57.1), none] dX10_bestPump_87 (Nat.le_of_ble_eq_true rfl) rfl ?_
            refine r_iinc X (x := x6) (v := x6 + 1) [some (.ref (k.b + (189))), some (.int x1), some (.int x2), some (.int x6), some (.long u57.1), none, some (.int (x6 + 1)), some (.int u49.1), some (.long u57.1), none] dX10_bestPump_89 rfl rfl rfl ?_
            refine r_goto X 23 dX10_bestPump_92 rfl ?_
            refine VW.msk [true, true, true, true, true, false, true, false, false, false] rfl (lo' := [some (.ref (k.b + (189))), some (.int x1), some (.int x2), some (.int x6), some (.long u57.1), none, some (.int (x6 + 1)), none, none, none]) rfl ?_
            exact ih u63 thought th x1 x2 x6 u57.1 (x6 + 1) hf
          · replace hf := ifF hf c75
            refine r_goto X 89 dX10_bestPump_79 rfl ?_
            refine r_iinc X (x := x6) (v := x6 + 1) [some (.ref (k.b + (189))), some (.int x1), some (.int x2), some (.int x3), some (.long x4), none, some (.int (x6 + 1)), some (.int u49.1), some (.long u57.1), none] dX10_bestPump_89 rfl rfl rfl ?_
            refine r_goto X 23 dX10_bestPump_92 rfl ?_
            refine VW.msk [true, true, true, true, true, false, true, false, false, false] rfl (lo' := [some (.ref (k.b + (189))), some (.int x1), some (.int x2), some (.int x3), some (.long x4), none, some (.int (x6 + 1)), none, none, none]) rfl ?_
            exact ih u63 thought th x1 x2 x3 x4 (x6 + 1) hf
      · replace hf := ifT hf c39
        refine r_goto X 89 dX10_bestPump_42 rfl ?_
        refine r_iinc X (x := x6) (v := x6 + 1) [some (.ref (k.b + (189))), some (.int x1), some (.int x2), some (.int x3), some (.long x4), none, some (.int (x6 + 1)), none, none, none] dX10_bestPump_89 rfl rfl rfl ?_
        refine r_goto X 23 dX10_bestPump_92 rfl ?_
        exact ih w thought th x1 x2 x3 x4 (x6 + 1) hf
set_option maxRecDepth 100000 in
set_option maxHeartbeats 4000000 in
theorem K10_bestPump {k : KT} {T : TT} {R : RR} {ly : Fin 2 → LL} {rc : RC} {hn : HN} {rp : RP} {tp : TP} {ee : EE} {st : Fin 12 → SS} {w : Nat → Int64} {aside : Nat → Int64} {thought : Nat → Int64} {fresh : Nat → Int64} {mu : MU} {th : Int32} {mp : MP} {mf : MF} {mh : MH} {mg : MG} {ou : Nat → Int64} {od : Nat → UInt64}  {x1 : Int32} {x2 : Int32} {r : Int32 × (Nat → Int64) × (Nat → Int64) × (Int32)} (hf : f10_bestPump  w thought th x1 x2 = some r) : CT k strs yX10_bestPump cX10_bestPump 10 (some .int) (rmD 9 0 0) 0 0 [.ref (k.b + (189)), .int x1, .int x2] (wAll k T R ly rc hn rp tp ee st w aside thought fresh mu th mp mf mh mg ou od) (some (.int r.1)) (wAll k T R ly rc hn rp tp ee st r.2.1 aside r.2.2.1 fresh mu r.2.2.2 mp mf mh mg ou od) := by
  refine CT.of (by decide) (Nat.le_of_ble_eq_true rfl) ?_
  intro z X hQ
  show VW k z 0 0 (wAll k T R ly rc hn rp tp ee st w aside thought fresh mu th mp mf mh mg ou od) 0 [some (.ref (k.b + (189))), some (.int x1), some (.int x2), none, none, none, none, none, none, none] []
  unfold f10_bestPump at hf
  refine r_aload_n X (x := k.b + (189)) dX10_bestPump_0 rfl ?_
  refine r_iload_n X (x := x1) dX10_bestPump_1 rfl ?_
  refine r_iload_n X (x := x2) dX10_bestPump_2 rfl ?_
  obtain ⟨u3, h3, hf⟩ := bdS hf
  refine r_callV0 X [.int x1, .int x2] [] (K10_isNoLook h3) lkX10_389 clsX10 rfl _ o_model (by decide) (Nat.le_of_ble_eq_true rfl) rfl rfl (Nat.le_of_ble_eq_true rfl) rfl rfl (Nat.zero_le _) (Nat.zero_le _) dX10_bestPump_3 ?_
  refine r_if_eq X 11 dX10_bestPump_6 rfl (fun c6 => ?_) (fun c6 => ?_)
  · replace hf := ifT hf c6
    refine r_aload_n X (x := k.b + (189)) dX10_bestPump_11 rfl ?_
    obtain ⟨u12, h12, hf⟩ := bdS hf
    refine r_callV0 X [] [] (K10_think h12) lkX10_393 clsX10 rfl _ o_model (by decide) (Nat.le_of_ble_eq_true rfl) rfl rfl (Nat.le_of_ble_eq_true rfl) rfl rfl (Nat.zero_le _) (Nat.zero_le _) dX10_bestPump_12 ?_
    refine r_iconst X (v := (-1)) dX10_bestPump_15 rfl ?_
    refine r_istore_n X [some (.ref (k.b + (189))), some (.int x1), some (.int x2), some (.int (-1)), none, none, none, none, none, none] dX10_bestPump_16 (Nat.le_of_ble_eq_true rfl) rfl ?_
    refine r_lconst X (v := 0) dX10_bestPump_17 rfl ?_
    refine r_lstore X [some (.ref (k.b + (189))), some (.int x1), some (.int x2), some (.int (-1)), some (.long 0), none, none, none, none, none] dX10_bestPump_18 (Nat.le_of_ble_eq_true rfl) rfl ?_
    refine r_iconst X (v := 0) dX10_bestPump_20 rfl ?_
    refine r_istore X [some (.ref (k.b + (189))), some (.int x1), some (.int x2), some (.int (-1)), some (.long 0), none, some (.int 0), none, none, none] dX10_bestPump_21 (Nat.le_of_ble_eq_true rfl) rfl ?_
    exact B10_bestPump_B23 X hQ FU w u12 u3.2 x1 x2 (-1) 0 0 hf
  · replace hf := ifF hf c6
    refine r_iconst X (v := 0) dX10_bestPump_9 rfl ?_
    obtain rfl := Option.some.inj hf
    exact r_ireturn X hQ rfl rfl (Nat.le_of_ble_eq_true rfl) (Nat.le_of_ble_eq_true rfl) dX10_bestPump_10
set_option maxRecDepth 100000 in
set_option maxHeartbeats 4000000 in
theorem B10_bestValve_B23 {k : KT} {z : ZT} {T : TT} {R : RR} {ly : Fin 2 → LL} {rc : RC} {hn : HN} {rp : RP} {tp : TP} {ee : EE} {st : Fin 12 → SS} {aside : Nat → Int64} {fresh : Nat → Int64} {mu : MU} {mp : MP} {mf : MF} {mh : MH} {mg : MG} {ou : Nat → Int64} {od : Nat → UInt64} {r : Int32 × (Nat → Int64) × (Nat → Int64) × (Int32)} (X : XX k strs z RX10 cX10_bestValve 10 (some .int) (rmD 9 0 0)) (hQ : zQ z = MQ (zB z) (Qof k (some (.int r.1)) (wAll k T R ly rc hn rp tp ee st r.2.1 aside r.2.2.1 fresh mu r.2.2.2 mp mf mh mg ou od)) (zA z) (zS z) 0 0 (kA k)) : ∀ (fu : Nat) (w : Nat → Int64) (thought : Nat → Int64) (th : Int32) (x1 : Int32) (x2 : Int32) (x3 : Int32) (x4 : Int64) (x6 : Int32), f10_bestValve_B23  fu w thought th x1 x2 x3 x4 x6 = some r → VW k z 0 0 (wAll k T R ly rc hn rp tp ee st w aside thought fresh mu th mp mf mh mg ou od) 23 [some (.ref (k.b + (189))), some (.int x1), some (.int x2), some (.int x3), some (.long x4), none, some (.int x6), none, none, none] [] := by
  intro fu
  induction fu with
  | zero =>
    intro w thought th x1 x2 x3 x4 x6 hf
    rw [f10_bestValve_B23] at hf
    cases hf
  | succ fu ih =>
    intro w thought th x1 x2 x3 x4 x6 hf
    rw [f10_bestValve_B23] at hf
    refine r_iload X (x := x6) dX10_bestValve_23 rfl ?_
    refine r_aload_n X (x := k.b + (189)) dX10_bestValve_25 rfl ?_
    refine r_iconst X (v := 2) dX10_bestValve_26 rfl ?_
    obtain ⟨u27, h27, hf⟩ := bdS hf
    refine r_callV0 X [.int 2] [.int x6] (K10_many h27) lkX10_93 clsX10 rfl _ o_model (by decide) (Nat.le_of_ble_eq_true rfl) rfl rfl (Nat.le_of_ble_eq_true rfl) rfl rfl (Nat.zero_le _) (Nat.zero_le _) dX10_bestValve_27 ?_
    refine r_icmp_ge X 95 dX10_bestValve_30 rfl (fun c30 => ?_) (fun c30 => ?_)
    · replace hf := ifT hf c30
      refine r_aload_n X (x := k.b + (189)) dX10_bestValve_95 rfl ?_
      refine r_iload_n X (x := x3) dX10_bestValve_96 rfl ?_
      refine r_iconst X (v := (-1)) dX10_bestValve_97 rfl ?_
      suffices K98 : VW k z 0 0 (wAll k T R ly rc hn rp tp ee st w aside thought fresh mu th mp mf mh mg ou od) 106 [some (.ref (k.b + (189))), some (.int x1), some (.int x2), some (.int x3), some (.long x4), none, some (.int x6), none, none, none] [.int (if x3 = (-1) then (1 : Int32) else (0 : Int32)), .ref (k.b + (189))] by
        refine r_icmp_ne X 105 dX10_bestValve_98 rfl (fun c98 => ?_) (fun c98 => ?_)
        · refine r_iconst X (v := 0) dX10_bestValve_105 rfl ?_
          rw [if_neg c98] at K98
          exact K98
        · refine r_iconst X (v := 1) dX10_bestValve_101 rfl ?_
          refine r_goto X 106 dX10_bestValve_102 rfl ?_
          rw [if_pos c98] at K98
          exact K98
      refine r_iconst X (v := 3) dX10_bestValve_106 rfl ?_
      obtain ⟨u107, h107, hf⟩ := bdS hf
      refine r_callV0 X [.int (if x3 = (-1) then (1 : Int32) else (0 : Int32)), .int 3] [] (K10_fails h107) lkX10_151 clsX10 rfl _ o_model (by decide) (Nat.le_of_ble_eq_true rfl) rfl rfl (Nat.le_of_ble_eq_true rfl) rfl rfl (Nat.zero_le _) (Nat.zero_le _) dX10_bestValve_107 ?_
      suffices K110 : VW k z 0 0 (wAll k T R ly rc hn rp tp ee st w aside thought fresh mu u107.2 mp mf mh mg ou od) 118 [some (.ref (k.b + (189))), some (.int x1), some (.int x2), some (.int x3), some (.long x4), none, some (.int x6), none, none, none] [.int (if u107.1 = 0 then (x3 : Int32) else (0 : Int32))] by
        refine r_if_eq X 117 dX10_bestValve_110 rfl (fun c110 => ?_) (fun c110 => ?_)
        · refine r_iload_n X (x := x3) dX10_bestValve_117 rfl ?_
          rw [if_pos c110] at K110
          exact K110
        · refine r_iconst X (v := 0) dX10_bestValve_113 rfl ?_
          refine r_goto X 118 dX10_bestValve_114 rfl ?_
          rw [if_neg c110] at K110
          exact K110
      obtain rfl := Option.some.inj hf
      exact r_ireturn X hQ rfl rfl (Nat.le_of_ble_eq_true rfl) (Nat.le_of_ble_eq_true rfl) dX10_bestValve_118
    · replace hf := ifF hf c30
      refine r_aload_n X (x := k.b + (189)) dX10_bestValve_33 rfl ?_
      refine r_iload X (x := x6) dX10_bestValve_34 rfl ?_
      obtain ⟨u36, h36, hf⟩ := bdS hf
      refine r_callV0 X [.int x6] [] (K10_canOpen h36) lkX10_155 clsX10 rfl _ o_model (by decide) (Nat.le_of_ble_eq_true rfl) rfl rfl (Nat.le_of_ble_eq_true rfl) rfl rfl (Nat.zero_le _) (Nat.zero_le _) dX10_bestValve_36 ?_
      refine r_if_ne X 45 dX10_bestValve_39 rfl (fun c39 => ?_) (fun c39 => ?_)
      · replace hf := ifF hf c39
        refine r_aload_n X (x := k.b + (189)) dX10_bestValve_45 rfl ?_
        refine r_iload X (x := x6) dX10_bestValve_46 rfl ?_
        refine r_iconst X (v := 1) dX10_bestValve_48 rfl ?_
        obtain ⟨u49, h49, hf⟩ := bdS hf
        refine r_callV0 X [.int x6, .int 1] [] (K10_turn h49) lkX10_161 clsX10 rfl _ o_model (by decide) (Nat.le_of_ble_eq_true rfl) rfl rfl (Nat.le_of_ble_eq_true rfl) rfl rfl (Nat.zero_le _) (Nat.zero_le _) dX10_bestValve_49 ?_
        refine r_istore X [some (.ref (k.b + (189))), some (.int x1), some (.int x2), some (.int x3), some (.long x4), none, some (.int x6), some (.int u49.1), none, none] dX10_bestValve_52 (Nat.le_of_ble_eq_true rfl) rfl ?_
        refine r_aload_n X (x := k.b + (189)) dX10_bestValve_54 rfl ?_
        refine r_iload_n X (x := x1) dX10_bestValve_55 rfl ?_
        refine r_iload_n X (x := x2) dX10_bestValve_56 rfl ?_
        obtain ⟨u57, h57, hf⟩ := bdS hf
        refine r_callV0 X [.int x1, .int x2] [] (K10_pressureIn h57) lkX10_396 clsX10 rfl _ o_model (by decide) (Nat.le_of_ble_eq_true rfl) rfl rfl (Nat.le_of_ble_eq_true rfl) rfl rfl (Nat.zero_le _) (Nat.zero_le _) dX10_bestValve_57 ?_
        refine r_lstore X [some (.ref (k.b + (189))), some (.int x1), some (.int x2), some (.int x3), some (.long x4), none, some (.int x6), some (.int u49.1), some (.long u57.1), none] dX10_bestValve_60 (Nat.le_of_ble_eq_true rfl) rfl ?_
        refine r_aload_n X (x := k.b + (189)) dX10_bestValve_62 rfl ?_
        obtain ⟨u63, h63, hf⟩ := bdS hf
        refine r_callV0 X [] [] (K10_wake h63) lkX10_399 clsX10 rfl _ o_model (by decide) (Nat.le_of_ble_eq_true rfl) rfl rfl (Nat.le_of_ble_eq_true rfl) rfl rfl (Nat.zero_le _) (Nat.zero_le _) dX10_bestValve_63 ?_
        refine r_iload_n X (x := x3) dX10_bestValve_66 rfl ?_
        refine r_iconst X (v := (-1)) dX10_bestValve_67 rfl ?_
        refine r_icmp_eq X 82 dX10_bestValve_68 rfl (fun c68 => ?_) (fun c68 => ?_)
        · replace hf := ifT hf c68
          refine r_iload X (x := x6) dX10_bestValve_82 rfl ?_
          refine r_istore_n X [some (.ref (k.b + (189))), some (.int x1), some (.int x2), some (.int x6), some (.long x4), none, some (.int x6), some (.int u49.1), some (.long u57.1), none] dX10_bestValve_84 (Nat.le_of_ble_eq_true rfl) rfl ?_
          refine r_lload X (x := u57.1) dX10_bestValve_85 rfl ?_
          refine r_lstore X [some (.ref (k.b + (189))), some (.int x1), some (.int x2), some (.int x6), some (.long u57.1), none, some (.int x6), some (.int u49.1), some (.long u57.1), none] dX10_bestValve_87 (Nat.le_of_ble_eq_true rfl) rfl ?_
          refine r_iinc X (x := x6) (v := x6 + 1) [some (.ref (k.b + (189))), some (.int x1), some (.int x2), some (.int x6), some (.long u57.1), none, some (.int (x6 + 1)), some (.int u49.1), some (.long u57.1), none] dX10_bestValve_89 rfl rfl rfl ?_
          refine r_goto X 23 dX10_bestValve_92 rfl ?_
          refine VW.msk [true, true, true, true, true, false, true, false, false, false] rfl (lo' := [some (.ref (k.b + (189))), some (.int x1), some (.int x2), some (.int x6), some (.long u57.1), none, some (.int (x6 + 1)), none, none, none]) rfl ?_
          exact ih u63 thought th x1 x2 x6 u57.1 (x6 + 1) hf
        · replace hf := ifF hf c68
          refine r_lload X (x := u57.1) dX10_bestValve_71 rfl ?_
          refine r_lload X (x := x4) dX10_bestValve_73 rfl ?_
          refine r_lcmp_lt X 82 dX10_bestValve_75 dX10_bestValve_76 rfl (fun c75 => ?_) (fun c75 => ?_)
          · replace hf := ifT hf c75
            refine r_iload X (x := x6) dX10_bestValve_82 rfl ?_
            refine r_istore_n X [some (.ref (k.b + (189))), some (.int x1), some (.int x2), some (.int x6), some (.long x4), none, some (.int x6), some (.int u49.1), some (.long u57.1), none] dX10_bestValve_84 (Nat.le_of_ble_eq_true rfl) rfl ?_
            refine r_lload X (x := u57.1) dX10_bestValve_85 rfl ?_
            refine r_lstore X [some (.ref (k.b + (189))), some (.int x1), some (.int x2), some (.int x6), some (.long u57.1), none, some (.int x6), some (.int u49.1), some (.long u57.1), none] dX10_bestValve_87 (Nat.le_of_ble_eq_true rfl) rfl ?_
            refine r_iinc X (x := x6) (v := x6 + 1) [some (.ref (k.b + (189))), some (.int x1), some (.int x2), some (.int x6), some (.long u57.1), none, some (.int (x6 + 1)), some (.int u49.1), some (.long u57.1), none] dX10_bestValve_89 rfl rfl rfl ?_
            refine r_goto X 23 dX10_bestValve_92 rfl ?_
            refine VW.msk [true, true, true, true, true, false, true, false, false, false] rfl (lo' := [some (.ref (k.b + (189))), some (.int x1), some (.int x2), some (.int x6), some (.long u57.1), none, some (.int (x6 + 1)), none, none, none]) rfl ?_
            exact ih u63 thought th x1 x2 x6 u57.1 (x6 + 1) hf
          · replace hf := ifF hf c75
            refine r_goto X 89 dX10_bestValve_79 rfl ?_
            refine r_iinc X (x := x6) (v := x6 + 1) [some (.ref (k.b + (189))), some (.int x1), some (.int x2), some (.int x3), some (.long x4), none, some (.int (x6 + 1)), some (.int u49.1), some (.long u57.1), none] dX10_bestValve_89 rfl rfl rfl ?_
            refine r_goto X 23 dX10_bestValve_92 rfl ?_
            refine VW.msk [true, true, true, true, true, false, true, false, false, false] rfl (lo' := [some (.ref (k.b + (189))), some (.int x1), some (.int x2), some (.int x3), some (.long x4), none, some (.int (x6 + 1)), none, none, none]) rfl ?_
            exact ih u63 thought th x1 x2 x3 x4 (x6 + 1) hf
      · replace hf := ifT hf c39
        refine r_goto X 89 dX10_bestValve_42 rfl ?_
        refine r_iinc X (x := x6) (v := x6 + 1) [some (.ref (k.b + (189))), some (.int x1), some (.int x2), some (.int x3), some (.long x4), none, some (.int (x6 + 1)), none, none, none] dX10_bestValve_89 rfl rfl rfl ?_
        refine r_goto X 23 dX10_bestValve_92 rfl ?_
        exact ih w thought th x1 x2 x3 x4 (x6 + 1) hf
set_option maxRecDepth 100000 in
set_option maxHeartbeats 4000000 in
theorem K10_bestValve {k : KT} {T : TT} {R : RR} {ly : Fin 2 → LL} {rc : RC} {hn : HN} {rp : RP} {tp : TP} {ee : EE} {st : Fin 12 → SS} {w : Nat → Int64} {aside : Nat → Int64} {thought : Nat → Int64} {fresh : Nat → Int64} {mu : MU} {th : Int32} {mp : MP} {mf : MF} {mh : MH} {mg : MG} {ou : Nat → Int64} {od : Nat → UInt64}  {x1 : Int32} {x2 : Int32} {r : Int32 × (Nat → Int64) × (Nat → Int64) × (Int32)} (hf : f10_bestValve  w thought th x1 x2 = some r) : CT k strs yX10_bestValve cX10_bestValve 10 (some .int) (rmD 9 0 0) 0 0 [.ref (k.b + (189)), .int x1, .int x2] (wAll k T R ly rc hn rp tp ee st w aside thought fresh mu th mp mf mh mg ou od) (some (.int r.1)) (wAll k T R ly rc hn rp tp ee st r.2.1 aside r.2.2.1 fresh mu r.2.2.2 mp mf mh mg ou od) := by
  refine CT.of (by decide) (Nat.le_of_ble_eq_true rfl) ?_
  intro z X hQ
  show VW k z 0 0 (wAll k T R ly rc hn rp tp ee st w aside thought fresh mu th mp mf mh mg ou od) 0 [some (.ref (k.b + (189))), some (.int x1), some (.int x2), none, none, none, none, none, none, none] []
  unfold f10_bestValve at hf
  refine r_aload_n X (x := k.b + (189)) dX10_bestValve_0 rfl ?_
  refine r_iload_n X (x := x1) dX10_bestValve_1 rfl ?_
  refine r_iload_n X (x := x2) dX10_bestValve_2 rfl ?_
  obtain ⟨u3, h3, hf⟩ := bdS hf
  refine r_callV0 X [.int x1, .int x2] [] (K10_isNoLook h3) lkX10_389 clsX10 rfl _ o_model (by decide) (Nat.le_of_ble_eq_true rfl) rfl rfl (Nat.le_of_ble_eq_true rfl) rfl rfl (Nat.zero_le _) (Nat.zero_le _) dX10_bestValve_3 ?_
  refine r_if_eq X 11 dX10_bestValve_6 rfl (fun c6 => ?_) (fun c6 => ?_)
  · replace hf := ifT hf c6
    refine r_aload_n X (x := k.b + (189)) dX10_bestValve_11 rfl ?_
    obtain ⟨u12, h12, hf⟩ := bdS hf
    refine r_callV0 X [] [] (K10_think h12) lkX10_393 clsX10 rfl _ o_model (by decide) (Nat.le_of_ble_eq_true rfl) rfl rfl (Nat.le_of_ble_eq_true rfl) rfl rfl (Nat.zero_le _) (Nat.zero_le _) dX10_bestValve_12 ?_
    refine r_iconst X (v := (-1)) dX10_bestValve_15 rfl ?_
    refine r_istore_n X [some (.ref (k.b + (189))), some (.int x1), some (.int x2), some (.int (-1)), none, none, none, none, none, none] dX10_bestValve_16 (Nat.le_of_ble_eq_true rfl) rfl ?_
    refine r_lconst X (v := 0) dX10_bestValve_17 rfl ?_
    refine r_lstore X [some (.ref (k.b + (189))), some (.int x1), some (.int x2), some (.int (-1)), some (.long 0), none, none, none, none, none] dX10_bestValve_18 (Nat.le_of_ble_eq_true rfl) rfl ?_
    refine r_iconst X (v := 0) dX10_bestValve_20 rfl ?_
    refine r_istore X [some (.ref (k.b + (189))), some (.int x1), some (.int x2), some (.int (-1)), some (.long 0), none, some (.int 0), none, none, none] dX10_bestValve_21 (Nat.le_of_ble_eq_true rfl) rfl ?_
    exact B10_bestValve_B23 X hQ FU w u12 u3.2 x1 x2 (-1) 0 0 hf
  · replace hf := ifF hf c6
    refine r_iconst X (v := 0) dX10_bestValve_9 rfl ?_
    obtain rfl := Option.some.inj hf
    exact r_ireturn X hQ rfl rfl (Nat.le_of_ble_eq_true rfl) (Nat.le_of_ble_eq_true rfl) dX10_bestValve_10
set_option maxRecDepth 100000 in
set_option maxHeartbeats 4000000 in
theorem B10_leaksOf_B5 {k : KT} {z : ZT} {T : TT} {R : RR} {ly : Fin 2 → LL} {rc : RC} {hn : HN} {rp : RP} {tp : TP} {ee : EE} {st : Fin 12 → SS} {w : Nat → Int64} {aside : Nat → Int64} {thought : Nat → Int64} {fresh : Nat → Int64} {mu : MU} {th : Int32} {mp : MP} {mf : MF} {mh : MH} {mg : MG} {ou : Nat → Int64} {od : Nat → UInt64} {r : Int64} (X : XX k strs z RX10 cX10_leaksOf 5 (some .long) (rmD 1 0 0)) (hQ : zQ z = MQ (zB z) (Qof k (some (.long r)) (wAll k T R ly rc hn rp tp ee st w aside thought fresh mu th mp mf mh mg ou od)) (zA z) (zS z) 0 0 (kA k)) : ∀ (fu : Nat) (x1 : Int32) (x2 : Int64) (x4 : Int32), f10_leaksOf_B5 w fu x1 x2 x4 = some r → VW k z 0 0 (wAll k T R ly rc hn rp tp ee st w aside thought fresh mu th mp mf mh mg ou od) 5 [some (.ref (k.b + (189))), some (.int x1), some (.long x2), none, some (.int x4)] [] := by
  intro fu
  induction fu with
  | zero =>
    intro x1 x2 x4 hf
    rw [f10_leaksOf_B5] at hf
    cases hf
  | succ fu ih =>
    intro x1 x2 x4 hf
    rw [f10_leaksOf_B5] at hf
    refine r_iload X (x := x4) dX10_leaksOf_5 rfl ?_
    refine r_aload_n X (x := k.b + (189)) dX10_leaksOf_7 rfl ?_
    refine r_iconst X (v := 3) dX10_leaksOf_8 rfl ?_
    obtain ⟨u9, h9, hf⟩ := bdS hf
    refine r_callV0 X [.int 3] [.int x4] (K10_many h9) lkX10_93 clsX10 rfl _ o_model (by decide) (Nat.le_of_ble_eq_true rfl) rfl rfl (Nat.le_of_ble_eq_true rfl) rfl rfl (Nat.zero_le _) (Nat.zero_le _) dX10_leaksOf_9 ?_
    refine r_icmp_ge X 50 dX10_leaksOf_12 rfl (fun c12 => ?_) (fun c12 => ?_)
    · replace hf := ifT hf c12
      refine r_lload_n X (x := x2) dX10_leaksOf_50 rfl ?_
      obtain rfl := Option.some.inj hf
      exact r_lreturn X hQ rfl rfl (Nat.le_of_ble_eq_true rfl) (Nat.le_of_ble_eq_true rfl) dX10_leaksOf_51
    · replace hf := ifF hf c12
      refine r_lload_n X (x := x2) dX10_leaksOf_15 rfl ?_
      refine r_iload_n X (x := x1) dX10_leaksOf_16 rfl ?_
      refine r_iload X (x := x4) dX10_leaksOf_17 rfl ?_
      refine r_ishr X dX10_leaksOf_19 ?_
      refine r_iconst X (v := 1) dX10_leaksOf_20 rfl ?_
      refine r_iand X dX10_leaksOf_21 ?_
      refine r_iconst X (v := 1) dX10_leaksOf_22 rfl ?_
      refine r_icmp_ne X 41 dX10_leaksOf_23 rfl (fun c23 => ?_) (fun c23 => ?_)
      · replace hf := ifF hf c23
        refine r_lconst X (v := 0) dX10_leaksOf_41 rfl ?_
        refine r_ladd X dX10_leaksOf_42 ?_
        refine r_lstore_n X [some (.ref (k.b + (189))), some (.int x1), some (.long (x2 + 0)), none, some (.int x4)] dX10_leaksOf_43 (Nat.le_of_ble_eq_true rfl) rfl ?_
        refine r_iinc X (x := x4) (v := x4 + 1) [some (.ref (k.b + (189))), some (.int x1), some (.long (x2 + 0)), none, some (.int (x4 + 1))] dX10_leaksOf_44 rfl rfl rfl ?_
        refine r_goto X 5 dX10_leaksOf_47 rfl ?_
        exact ih x1 (x2 + 0) (x4 + 1) hf
      · replace hf := ifT hf c23
        refine r_aload_n X (x := k.b + (189)) dX10_leaksOf_26 rfl ?_
        refine r_getfield X (v := .ref (k.b + (190))) clsX10 flX10_7 (Nat.le_of_ble_eq_true rfl) _ o_model rfl dX10_leaksOf_27 ?_
        refine r_iload X (x := x4) dX10_leaksOf_30 rfl ?_
        obtain ⟨u32, h32, hf⟩ := bdS hf
        refine r_callS0 X [.int x4] [.ref (k.b + (190)), .long x2] (K10_flangeAt h32) lkX10_96 (by decide) (Nat.le_of_ble_eq_true rfl) rfl rfl (Nat.le_of_ble_eq_true rfl) rfl rfl (Nat.zero_le _) (Nat.zero_le _) dX10_leaksOf_32 ?_
        refine r_iconst X (v := 1) dX10_leaksOf_35 rfl ?_
        refine r_iadd X dX10_leaksOf_36 ?_
        obtain ⟨g37, hf⟩ := gdS hf
        refine r_laload X (f := w) _ a_m_w g37 dX10_leaksOf_37 ?_
        refine r_goto X 42 dX10_leaksOf_38 rfl ?_
        refine r_ladd X dX10_leaksOf_42 ?_
        refine r_lstore_n X [some (.ref (k.b + (189))), some (.int x1), some (.long (x2 + (w (ix (u32 + 1))))), none, some (.int x4)] dX10_leaksOf_43 (Nat.le_of_ble_eq_true rfl) rfl ?_
        refine r_iinc X (x := x4) (v := x4 + 1) [some (.ref (k.b + (189))), some (.int x1), some (.long (x2 + (w (ix (u32 + 1))))), none, some (.int (x4 + 1))] dX10_leaksOf_44 rfl rfl rfl ?_
        refine r_goto X 5 dX10_leaksOf_47 rfl ?_
        exact ih x1 (x2 + (w (ix (u32 + 1)))) (x4 + 1) hf
set_option maxRecDepth 100000 in
set_option maxHeartbeats 4000000 in
theorem K10_leaksOf {k : KT} {T : TT} {R : RR} {ly : Fin 2 → LL} {rc : RC} {hn : HN} {rp : RP} {tp : TP} {ee : EE} {st : Fin 12 → SS} {w : Nat → Int64} {aside : Nat → Int64} {thought : Nat → Int64} {fresh : Nat → Int64} {mu : MU} {th : Int32} {mp : MP} {mf : MF} {mh : MH} {mg : MG} {ou : Nat → Int64} {od : Nat → UInt64}  {x1 : Int32} {r : Int64} (hf : f10_leaksOf w  x1 = some r) : CT k strs yX10_leaksOf cX10_leaksOf 5 (some .long) (rmD 1 0 0) 0 0 [.ref (k.b + (189)), .int x1] (wAll k T R ly rc hn rp tp ee st w aside thought fresh mu th mp mf mh mg ou od) (some (.long r)) (wAll k T R ly rc hn rp tp ee st w aside thought fresh mu th mp mf mh mg ou od) := by
  refine CT.of (by decide) (Nat.le_of_ble_eq_true rfl) ?_
  intro z X hQ
  show VW k z 0 0 (wAll k T R ly rc hn rp tp ee st w aside thought fresh mu th mp mf mh mg ou od) 0 [some (.ref (k.b + (189))), some (.int x1), none, none, none] []
  unfold f10_leaksOf at hf
  refine r_lconst X (v := 0) dX10_leaksOf_0 rfl ?_
  refine r_lstore_n X [some (.ref (k.b + (189))), some (.int x1), some (.long 0), none, none] dX10_leaksOf_1 (Nat.le_of_ble_eq_true rfl) rfl ?_
  refine r_iconst X (v := 0) dX10_leaksOf_2 rfl ?_
  refine r_istore X [some (.ref (k.b + (189))), some (.int x1), some (.long 0), none, some (.int 0)] dX10_leaksOf_3 (Nat.le_of_ble_eq_true rfl) rfl ?_
  exact B10_leaksOf_B5 X hQ FU x1 0 0 hf
set_option maxRecDepth 100000 in
set_option maxHeartbeats 4000000 in
theorem K10_spray {k : KT} {T : TT} {R : RR} {ly : Fin 2 → LL} {rc : RC} {hn : HN} {rp : RP} {tp : TP} {ee : EE} {st : Fin 12 → SS} {w : Nat → Int64} {aside : Nat → Int64} {thought : Nat → Int64} {fresh : Nat → Int64} {mu : MU} {th : Int32} {mp : MP} {mf : MF} {mh : MH} {mg : MG} {ou : Nat → Int64} {od : Nat → UInt64}  {x1 : Int32} {r : Int32 × (Int32)} (hf : f10_spray w th x1 = some r) : CT k strs yX10_spray cX10_spray 2 (some .int) (rmD 2 0 0) 0 0 [.ref (k.b + (189)), .int x1] (wAll k T R ly rc hn rp tp ee st w aside thought fresh mu th mp mf mh mg ou od) (some (.int r.1)) (wAll k T R ly rc hn rp tp ee st w aside thought fresh mu r.2 mp mf mh mg ou od) := by
  refine CT.of (by decide) (Nat.le_of_ble_eq_true rfl) ?_
  intro z X hQ
  show VW k z 0 0 (wAll k T R ly rc hn rp tp ee st w aside thought fresh mu th mp mf mh mg ou od) 0 [some (.ref (k.b + (189))), some (.int x1)] []
  unfold f10_spray at hf
  refine r_aload_n X (x := k.b + (189)) dX10_spray_0 rfl ?_
  refine r_iload_n X (x := x1) dX10_spray_1 rfl ?_
  refine r_i2l X dX10_spray_2 ?_
  refine r_lconst X (v := 0) dX10_spray_3 rfl ?_
  refine r_lconst X (v := 1) dX10_spray_4 rfl ?_
  refine r_aload_n X (x := k.b + (189)) dX10_spray_5 rfl ?_
  refine r_getfield X (v := .ref (k.b + (190))) clsX10 flX10_7 (Nat.le_of_ble_eq_true rfl) _ o_model rfl dX10_spray_6 ?_
  refine r_iconst X (v := 3) dX10_spray_9 rfl ?_
  refine r_laload X (f := w) _ a_m_w (by decide) dX10_spray_10 ?_
  refine r_l2i X dX10_spray_11 ?_
  refine r_lshl X dX10_spray_12 ?_
  refine r_lconst X (v := 1) dX10_spray_13 rfl ?_
  refine r_lsub X dX10_spray_14 ?_
  obtain ⟨u15, h15, hf⟩ := bdS hf
  refine r_callS0 X [.long x1.toInt64, .long 0, .long ((1 <<< (((w (ix 3)).toInt32).toInt64 &&& 63)) - 1)] [.ref (k.b + (189))] (K10_in h15) lkX10_39 (by decide) (Nat.le_of_ble_eq_true rfl) rfl rfl (Nat.le_of_ble_eq_true rfl) rfl rfl (Nat.zero_le _) (Nat.zero_le _) dX10_spray_15 ?_
  suffices K18 : VW k z 0 0 (wAll k T R ly rc hn rp tp ee st w aside thought fresh mu th mp mf mh mg ou od) 26 [some (.ref (k.b + (189))), some (.int x1)] [.int (if u15 = 0 then (1 : Int32) else (0 : Int32)), .ref (k.b + (189))] by
    refine r_if_ne X 25 dX10_spray_18 rfl (fun c18 => ?_) (fun c18 => ?_)
    · refine r_iconst X (v := 0) dX10_spray_25 rfl ?_
      rw [if_neg c18] at K18
      exact K18
    · refine r_iconst X (v := 1) dX10_spray_21 rfl ?_
      refine r_goto X 26 dX10_spray_22 rfl ?_
      rw [if_pos c18] at K18
      exact K18
  refine r_iconst X (v := 1) dX10_spray_26 rfl ?_
  obtain ⟨u27, h27, hf⟩ := bdS hf
  refine r_callV0 X [.int (if u15 = 0 then (1 : Int32) else (0 : Int32)), .int 1] [] (K10_fails h27) lkX10_151 clsX10 rfl _ o_model (by decide) (Nat.le_of_ble_eq_true rfl) rfl rfl (Nat.le_of_ble_eq_true rfl) rfl rfl (Nat.zero_le _) (Nat.zero_le _) dX10_spray_27 ?_
  refine r_if_eq X 37 dX10_spray_30 rfl (fun c30 => ?_) (fun c30 => ?_)
  · replace hf := ifT hf c30
    refine r_aload_n X (x := k.b + (189)) dX10_spray_37 rfl ?_
    refine r_iload_n X (x := x1) dX10_spray_38 rfl ?_
    obtain ⟨u39, h39, hf⟩ := bdS hf
    refine r_callV0 X [.int x1] [] (K10_leaksOf h39) lkX10_402 clsX10 rfl _ o_model (by decide) (Nat.le_of_ble_eq_true rfl) rfl rfl (Nat.le_of_ble_eq_true rfl) rfl rfl (Nat.zero_le _) (Nat.zero_le _) dX10_spray_39 ?_
    refine r_l2i X dX10_spray_42 ?_
    obtain rfl := Option.some.inj hf
    exact r_ireturn X hQ rfl rfl (Nat.le_of_ble_eq_true rfl) (Nat.le_of_ble_eq_true rfl) dX10_spray_43
  · replace hf := ifF hf c30
    refine r_iconst X (v := 0) dX10_spray_33 rfl ?_
    refine r_goto X 43 dX10_spray_34 rfl ?_
    obtain rfl := Option.some.inj hf
    exact r_ireturn X hQ rfl rfl (Nat.le_of_ble_eq_true rfl) (Nat.le_of_ble_eq_true rfl) dX10_spray_43
set_option maxRecDepth 100000 in
set_option maxHeartbeats 4000000 in
theorem B10_sizeOf_B4 {k : KT} {z : ZT} {T : TT} {R : RR} {ly : Fin 2 → LL} {rc : RC} {hn : HN} {rp : RP} {tp : TP} {ee : EE} {st : Fin 12 → SS} {w : Nat → Int64} {aside : Nat → Int64} {thought : Nat → Int64} {fresh : Nat → Int64} {mu : MU} {th : Int32} {mp : MP} {mf : MF} {mh : MH} {mg : MG} {ou : Nat → Int64} {od : Nat → UInt64} {r : Int32} (X : XX k strs z RX10 cX10_sizeOf 3 (some .int) (rmD 0 0 0)) (hQ : zQ z = MQ (zB z) (Qof k (some (.int r)) (wAll k T R ly rc hn rp tp ee st w aside thought fresh mu th mp mf mh mg ou od)) (zA z) (zS z) 0 0 (kA k)) : ∀ (fu : Nat) (x0 : Int32) (x1 : Int32) (x2 : Int32), f10_sizeOf_B4  fu x0 x1 x2 = some r → VW k z 0 0 (wAll k T R ly rc hn rp tp ee st w aside thought fresh mu th mp mf mh mg ou od) 4 [some (.int x0), some (.int x1), some (.int x2)] [] := by
  intro fu
  induction fu with
  | zero =>
    intro x0 x1 x2 hf
    rw [f10_sizeOf_B4] at hf
    cases hf
  | succ fu ih =>
    intro x0 x1 x2 hf
    rw [f10_sizeOf_B4] at hf
    refine r_iload_n X (x := x2) dX10_sizeOf_4 rfl ?_
    refine r_bipush X (v := 24) dX10_sizeOf_5 rfl ?_
    refine r_icmp_ge X 24 dX10_sizeOf_7 rfl (fun c7 => ?_) (fun c7 => ?_)
    · replace hf := ifT hf c7
      refine r_iload_n X (x := x1) dX10_sizeOf_24 rfl ?_
      obtain rfl := Option.some.inj hf
      exact r_ireturn X hQ rfl rfl (Nat.le_of_ble_eq_true rfl) (Nat.le_of_ble_eq_true rfl) dX10_sizeOf_25
    · replace hf := ifF hf c7
      refine r_iload_n X (x := x1) dX10_sizeOf_10 rfl ?_
      refine r_iload_n X (x := x0) dX10_sizeOf_11 rfl ?_
      refine r_iload_n X (x := x2) dX10_sizeOf_12 rfl ?_
      refine r_ishr X dX10_sizeOf_13 ?_
      refine r_iconst X (v := 1) dX10_sizeOf_14 rfl ?_
      refine r_iand X dX10_sizeOf_15 ?_
      refine r_iadd X dX10_sizeOf_16 ?_
      refine r_istore_n X [some (.int x0), some (.int (x1 + ((x0 >>> (x2 &&& 31)) &&& 1))), some (.int x2)] dX10_sizeOf_17 (Nat.le_of_ble_eq_true rfl) rfl ?_
      refine r_iinc X (x := x2) (v := x2 + 1) [some (.int x0), some (.int (x1 + ((x0 >>> (x2 &&& 31)) &&& 1))), some (.int (x2 + 1))] dX10_sizeOf_18 rfl rfl rfl ?_
      refine r_goto X 4 dX10_sizeOf_21 rfl ?_
      exact ih x0 (x1 + ((x0 >>> (x2 &&& 31)) &&& 1)) (x2 + 1) hf
set_option maxRecDepth 100000 in
set_option maxHeartbeats 4000000 in
theorem K10_sizeOf {k : KT} {T : TT} {R : RR} {ly : Fin 2 → LL} {rc : RC} {hn : HN} {rp : RP} {tp : TP} {ee : EE} {st : Fin 12 → SS} {w : Nat → Int64} {aside : Nat → Int64} {thought : Nat → Int64} {fresh : Nat → Int64} {mu : MU} {th : Int32} {mp : MP} {mf : MF} {mh : MH} {mg : MG} {ou : Nat → Int64} {od : Nat → UInt64}  {x0 : Int32} {r : Int32} (hf : f10_sizeOf   x0 = some r) : CT k strs yX10_sizeOf cX10_sizeOf 3 (some .int) (rmD 0 0 0) 0 0 [.int x0] (wAll k T R ly rc hn rp tp ee st w aside thought fresh mu th mp mf mh mg ou od) (some (.int r)) (wAll k T R ly rc hn rp tp ee st w aside thought fresh mu th mp mf mh mg ou od) := by
  refine CT.of (by decide) (Nat.le_of_ble_eq_true rfl) ?_
  intro z X hQ
  show VW k z 0 0 (wAll k T R ly rc hn rp tp ee st w aside thought fresh mu th mp mf mh mg ou od) 0 [some (.int x0), none, none] []
  unfold f10_sizeOf at hf
  refine r_iconst X (v := 0) dX10_sizeOf_0 rfl ?_
  refine r_istore_n X [some (.int x0), some (.int 0), none] dX10_sizeOf_1 (Nat.le_of_ble_eq_true rfl) rfl ?_
  refine r_iconst X (v := 0) dX10_sizeOf_2 rfl ?_
  refine r_istore_n X [some (.int x0), some (.int 0), some (.int 0)] dX10_sizeOf_3 (Nat.le_of_ble_eq_true rfl) rfl ?_
  exact B10_sizeOf_B4 X hQ FU x0 0 0 hf
set_option maxRecDepth 100000 in
set_option maxHeartbeats 4000000 in
theorem B10_firstOnes_B4 {k : KT} {z : ZT} {T : TT} {R : RR} {ly : Fin 2 → LL} {rc : RC} {hn : HN} {rp : RP} {tp : TP} {ee : EE} {st : Fin 12 → SS} {w : Nat → Int64} {aside : Nat → Int64} {thought : Nat → Int64} {fresh : Nat → Int64} {mu : MU} {th : Int32} {mp : MP} {mf : MF} {mh : MH} {mg : MG} {ou : Nat → Int64} {od : Nat → UInt64} {r : Int32} (X : XX k strs z RX10 cX10_firstOnes 4 (some .int) (rmD 1 0 0)) (hQ : zQ z = MQ (zB z) (Qof k (some (.int r)) (wAll k T R ly rc hn rp tp ee st w aside thought fresh mu th mp mf mh mg ou od)) (zA z) (zS z) 0 0 (kA k)) : ∀ (fu : Nat) (x0 : Int32) (x1 : Int32) (x2 : Int32) (x3 : Int32), f10_firstOnes_B4  fu x0 x1 x2 x3 = some r → VW k z 0 0 (wAll k T R ly rc hn rp tp ee st w aside thought fresh mu th mp mf mh mg ou od) 4 [some (.int x0), some (.int x1), some (.int x2), some (.int x3)] [] := by
  intro fu
  induction fu with
  | zero =>
    intro x0 x1 x2 x3 hf
    rw [f10_firstOnes_B4] at hf
    cases hf
  | succ fu ih =>
    intro x0 x1 x2 x3 hf
    rw [f10_firstOnes_B4] at hf
    refine r_iload_n X (x := x3) dX10_firstOnes_4 rfl ?_
    refine r_bipush X (v := 24) dX10_firstOnes_5 rfl ?_
    refine r_icmp_ge X 43 dX10_firstOnes_7 rfl (fun c7 => ?_) (fun c7 => ?_)
    · replace hf := ifT hf c7
      refine r_iload_n X (x := x2) dX10_firstOnes_43 rfl ?_
      obtain rfl := Option.some.inj hf
      exact r_ireturn X hQ rfl rfl (Nat.le_of_ble_eq_true rfl) (Nat.le_of_ble_eq_true rfl) dX10_firstOnes_44
    · replace hf := ifF hf c7
      refine r_iload_n X (x := x2) dX10_firstOnes_10 rfl ?_
      refine r_iload_n X (x := x0) dX10_firstOnes_11 rfl ?_
      refine r_iload_n X (x := x3) dX10_firstOnes_12 rfl ?_
      refine r_ishr X dX10_firstOnes_13 ?_
      refine r_iconst X (v := 1) dX10_firstOnes_14 rfl ?_
      refine r_iand X dX10_firstOnes_15 ?_
      refine r_iconst X (v := 1) dX10_firstOnes_16 rfl ?_
      refine r_icmp_ne X 34 dX10_firstOnes_17 rfl (fun c17 => ?_) (fun c17 => ?_)
      · replace hf := ifF hf c17
        refine r_iconst X (v := 0) dX10_firstOnes_34 rfl ?_
        refine r_ior X dX10_firstOnes_35 ?_
        refine r_istore_n X [some (.int x0), some (.int x1), some (.int (x2 ||| 0)), some (.int x3)] dX10_firstOnes_36 (Nat.le_of_ble_eq_true rfl) rfl ?_
        refine r_iinc X (x := x3) (v := x3 + 1) [some (.int x0), some (.int x1), some (.int (x2 ||| 0)), some (.int (x3 + 1))] dX10_firstOnes_37 rfl rfl rfl ?_
        refine r_goto X 4 dX10_firstOnes_40 rfl ?_
        exact ih x0 x1 (x2 ||| 0) (x3 + 1) hf
      · replace hf := ifT hf c17
        refine r_iload_n X (x := x2) dX10_firstOnes_20 rfl ?_
        obtain ⟨u21, h21, hf⟩ := bdS hf
        refine r_callS0 X [.int x2] [.int x2] (K10_sizeOf h21) lkX10_405 (by decide) (Nat.le_of_ble_eq_true rfl) rfl rfl (Nat.le_of_ble_eq_true rfl) rfl rfl (Nat.zero_le _) (Nat.zero_le _) dX10_firstOnes_21 ?_
        refine r_iload_n X (x := x1) dX10_firstOnes_24 rfl ?_
        refine r_icmp_ge X 34 dX10_firstOnes_25 rfl (fun c25 => ?_) (fun c25 => ?_)
        · replace hf := ifT hf c25
          refine r_iconst X (v := 0) dX10_firstOnes_34 rfl ?_
          refine r_ior X dX10_firstOnes_35 ?_
          refine r_istore_n X [some (.int x0), some (.int x1), some (.int (x2 ||| 0)), some (.int x3)] dX10_firstOnes_36 (Nat.le_of_ble_eq_true rfl) rfl ?_
          refine r_iinc X (x := x3) (v := x3 + 1) [some (.int x0), some (.int x1), some (.int (x2 ||| 0)), some (.int (x3 + 1))] dX10_firstOnes_37 rfl rfl rfl ?_
          refine r_goto X 4 dX10_firstOnes_40 rfl ?_
          exact ih x0 x1 (x2 ||| 0) (x3 + 1) hf
        · replace hf := ifF hf c25
          refine r_iconst X (v := 1) dX10_firstOnes_28 rfl ?_
          refine r_iload_n X (x := x3) dX10_firstOnes_29 rfl ?_
          refine r_ishl X dX10_firstOnes_30 ?_
          refine r_goto X 35 dX10_firstOnes_31 rfl ?_
          refine r_ior X dX10_firstOnes_35 ?_
          refine r_istore_n X [some (.int x0), some (.int x1), some (.int (x2 ||| (1 <<< (x3 &&& 31)))), some (.int x3)] dX10_firstOnes_36 (Nat.le_of_ble_eq_true rfl) rfl ?_
          refine r_iinc X (x := x3) (v := x3 + 1) [some (.int x0), some (.int x1), some (.int (x2 ||| (1 <<< (x3 &&& 31)))), some (.int (x3 + 1))] dX10_firstOnes_37 rfl rfl rfl ?_
          refine r_goto X 4 dX10_firstOnes_40 rfl ?_
          exact ih x0 x1 (x2 ||| (1 <<< (x3 &&& 31))) (x3 + 1) hf
set_option maxRecDepth 100000 in
set_option maxHeartbeats 4000000 in
theorem K10_firstOnes {k : KT} {T : TT} {R : RR} {ly : Fin 2 → LL} {rc : RC} {hn : HN} {rp : RP} {tp : TP} {ee : EE} {st : Fin 12 → SS} {w : Nat → Int64} {aside : Nat → Int64} {thought : Nat → Int64} {fresh : Nat → Int64} {mu : MU} {th : Int32} {mp : MP} {mf : MF} {mh : MH} {mg : MG} {ou : Nat → Int64} {od : Nat → UInt64}  {x0 : Int32} {x1 : Int32} {r : Int32} (hf : f10_firstOnes   x0 x1 = some r) : CT k strs yX10_firstOnes cX10_firstOnes 4 (some .int) (rmD 1 0 0) 0 0 [.int x0, .int x1] (wAll k T R ly rc hn rp tp ee st w aside thought fresh mu th mp mf mh mg ou od) (some (.int r)) (wAll k T R ly rc hn rp tp ee st w aside thought fresh mu th mp mf mh mg ou od) := by
  refine CT.of (by decide) (Nat.le_of_ble_eq_true rfl) ?_
  intro z X hQ
  show VW k z 0 0 (wAll k T R ly rc hn rp tp ee st w aside thought fresh mu th mp mf mh mg ou od) 0 [some (.int x0), some (.int x1), none, none] []
  unfold f10_firstOnes at hf
  refine r_iconst X (v := 0) dX10_firstOnes_0 rfl ?_
  refine r_istore_n X [some (.int x0), some (.int x1), some (.int 0), none] dX10_firstOnes_1 (Nat.le_of_ble_eq_true rfl) rfl ?_
  refine r_iconst X (v := 0) dX10_firstOnes_2 rfl ?_
  refine r_istore_n X [some (.int x0), some (.int x1), some (.int 0), some (.int 0)] dX10_firstOnes_3 (Nat.le_of_ble_eq_true rfl) rfl ?_
  exact B10_firstOnes_B4 X hQ FU x0 x1 0 0 hf
set_option maxRecDepth 100000 in
set_option maxHeartbeats 4000000 in
theorem K10_hunt {k : KT} (fu : Nat) : ∀ {T : TT} {R : RR} {ly : Fin 2 → LL} {rc : RC} {hn : HN} {rp : RP} {tp : TP} {ee : EE} {st : Fin 12 → SS} {w : Nat → Int64} {aside : Nat → Int64} {thought : Nat → Int64} {fresh : Nat → Int64} {mu : MU} {th : Int32} {mp : MP} {mf : MF} {mh : MH} {mg : MG} {ou : Nat → Int64} {od : Nat → UInt64}  {x1 : Int32} {x2 : Int32} {r : (MH)} (hf : f10_hunt w fu mh x1 x2 = some r), CT k strs yX10_hunt cX10_hunt 4 none (rmD (2 + fu) 0 0) 0 0 [.ref (k.b + (189)), .int x1, .int x2] (wAll k T R ly rc hn rp tp ee st w aside thought fresh mu th mp mf mh mg ou od) (none) (wAll k T R ly rc hn rp tp ee st w aside thought fresh mu th mp mf r mg ou od) := by
  induction fu with
  | zero =>
    intros
    rename_i hf
    cases hf
  | succ fu ih =>
    intro T R ly rc hn rp tp ee st w aside thought fresh mu th mp mf mh mg ou od x1 x2 r hf
    refine CT.of (by decide) (Nat.le_of_ble_eq_true rfl) ?_
    intro z X hQ
    show VW k z 0 0 (wAll k T R ly rc hn rp tp ee st w aside thought fresh mu th mp mf mh mg ou od) 0 [some (.ref (k.b + (189))), some (.int x1), some (.int x2), none] []
    rw [f10_hunt] at hf
    refine r_iload_n X (x := x1) dX10_hunt_0 rfl ?_
    refine r_if_ne X 5 dX10_hunt_1 rfl (fun c1 => ?_) (fun c1 => ?_)
    · replace hf := ifF hf c1
      refine r_aload_n X (x := k.b + (189)) dX10_hunt_5 rfl ?_
      refine r_dup X dX10_hunt_6 rfl ?_
      refine r_getfield X (v := .int (MH_sprayed mh)) clsX10 flX10_408 (Nat.le_of_ble_eq_true rfl) _ o_model rfl dX10_hunt_7 ?_
      refine r_iconst X (v := 1) dX10_hunt_10 rfl ?_
      refine r_iadd X dX10_hunt_11 ?_
      refine r_putfield X (ws1 := wAll k T R ly rc hn rp tp ee st w aside thought fresh mu th mp mf (MH_set_sprayed mh ((MH_sprayed mh) + 1)) mg ou od) clsX10 flX10_408 (Nat.le_of_ble_eq_true rfl) rfl rfl rfl _ o_model (Nat.le_of_ble_eq_true rfl) (s_mh_sprayed ((MH_sprayed mh) + 1)) dX10_hunt_12 ?_
      refine r_aload_n X (x := k.b + (189)) dX10_hunt_15 rfl ?_
      refine r_iload_n X (x := x1) dX10_hunt_16 rfl ?_
      obtain ⟨u17, h17, hf⟩ := bdS hf
      refine r_callV0 X [.int x1] [] (K10_leaksOf h17) lkX10_402 clsX10 rfl _ o_model (by omega) (Nat.le_of_ble_eq_true rfl) rfl rfl (Nat.le_of_ble_eq_true rfl) rfl rfl (Nat.zero_le _) (Nat.zero_le _) dX10_hunt_17 ?_
      refine r_iload_n X (x := x2) dX10_hunt_20 rfl ?_
      refine r_i2l X dX10_hunt_21 ?_
      refine r_lcmp_ge X 27 dX10_hunt_22 dX10_hunt_23 rfl (fun c22 => ?_) (fun c22 => ?_)
      · replace hf := ifT hf c22
        refine r_iload_n X (x := x1) dX10_hunt_27 rfl ?_
        obtain ⟨u28, h28, hf⟩ := bdS hf
        refine r_callS0 X [.int x1] [] (K10_sizeOf h28) lkX10_405 (by omega) (Nat.le_of_ble_eq_true rfl) rfl rfl (Nat.le_of_ble_eq_true rfl) rfl rfl (Nat.zero_le _) (Nat.zero_le _) dX10_hunt_28 ?_
        refine r_iconst X (v := 1) dX10_hunt_31 rfl ?_
        refine r_icmp_ne X 46 dX10_hunt_32 rfl (fun c32 => ?_) (fun c32 => ?_)
        · replace hf := ifF hf c32
          refine r_iload_n X (x := x1) dX10_hunt_46 rfl ?_
          refine r_iload_n X (x := x1) dX10_hunt_47 rfl ?_
          obtain ⟨u48, h48, hf⟩ := bdS hf
          refine r_callS0 X [.int x1] [.int x1] (K10_sizeOf h48) lkX10_405 (by omega) (Nat.le_of_ble_eq_true rfl) rfl rfl (Nat.le_of_ble_eq_true rfl) rfl rfl (Nat.zero_le _) (Nat.zero_le _) dX10_hunt_48 ?_
          refine r_iconst X (v := 1) dX10_hunt_51 rfl ?_
          refine r_iadd X dX10_hunt_52 ?_
          refine r_iconst X (v := 2) dX10_hunt_53 rfl ?_
          refine r_idiv X dX10_hunt_54 (by decide) ?_
          obtain ⟨u55, h55, hf⟩ := bdS hf
          refine r_callS0 X [.int x1, .int ((u48 + 1) / 2)] [] (K10_firstOnes h55) lkX10_414 (by omega) (Nat.le_of_ble_eq_true rfl) rfl rfl (Nat.le_of_ble_eq_true rfl) rfl rfl (Nat.zero_le _) (Nat.zero_le _) dX10_hunt_55 ?_
          refine r_istore_n X [some (.ref (k.b + (189))), some (.int x1), some (.int x2), some (.int u55)] dX10_hunt_58 (Nat.le_of_ble_eq_true rfl) rfl ?_
          refine r_aload_n X (x := k.b + (189)) dX10_hunt_59 rfl ?_
          refine r_iload_n X (x := u55) dX10_hunt_60 rfl ?_
          refine r_iload_n X (x := x2) dX10_hunt_61 rfl ?_
          obtain ⟨u62, h62, hf⟩ := bdS hf
          refine r_callV0 X [.int u55, .int x2] [] (ih h62) lkX10_417 clsX10 rfl _ o_model (by omega) (Nat.le_of_ble_eq_true rfl) rfl rfl (Nat.le_of_ble_eq_true rfl) rfl rfl (Nat.zero_le _) (Nat.zero_le _) dX10_hunt_62 ?_
          refine r_aload_n X (x := k.b + (189)) dX10_hunt_65 rfl ?_
          refine r_iload_n X (x := x1) dX10_hunt_66 rfl ?_
          refine r_iload_n X (x := u55) dX10_hunt_67 rfl ?_
          refine r_iconst X (v := (-1)) dX10_hunt_68 rfl ?_
          refine r_ixor X dX10_hunt_69 ?_
          refine r_iand X dX10_hunt_70 ?_
          refine r_iload_n X (x := x2) dX10_hunt_71 rfl ?_
          obtain ⟨u72, h72, hf⟩ := bdS hf
          refine r_callV0 X [.int (x1 &&& (u55 ^^^ (-1))), .int x2] [] (ih h72) lkX10_417 clsX10 rfl _ o_model (by omega) (Nat.le_of_ble_eq_true rfl) rfl rfl (Nat.le_of_ble_eq_true rfl) rfl rfl (Nat.zero_le _) (Nat.zero_le _) dX10_hunt_72 ?_
          obtain rfl := Option.some.inj hf
          exact r_return X hQ rfl rfl (Nat.le_of_ble_eq_true rfl) (Nat.le_of_ble_eq_true rfl) dX10_hunt_75
        · replace hf := ifT hf c32
          refine r_aload_n X (x := k.b + (189)) dX10_hunt_35 rfl ?_
          refine r_dup X dX10_hunt_36 rfl ?_
          refine r_getfield X (v := .int (MH_foundSet mh)) clsX10 flX10_411 (Nat.le_of_ble_eq_true rfl) _ o_model (hvI rfl (MH_foundSet_set_sprayed _ _)) dX10_hunt_37 ?_
          refine r_iload_n X (x := x1) dX10_hunt_40 rfl ?_
          refine r_ior X dX10_hunt_41 ?_
          refine r_putfield X (ws1 := wAll k T R ly rc hn rp tp ee st w aside thought fresh mu th mp mf (MH_set_foundSet (MH_set_sprayed mh ((MH_sprayed mh) + 1)) ((MH_foundSet mh) ||| x1)) mg ou od) clsX10 flX10_411 (Nat.le_of_ble_eq_true rfl) rfl rfl rfl _ o_model (Nat.le_of_ble_eq_true rfl) (s_mh_foundSet ((MH_foundSet mh) ||| x1)) dX10_hunt_42 ?_
          obtain rfl := Option.some.inj hf
          exact r_return X hQ rfl rfl (Nat.le_of_ble_eq_true rfl) (Nat.le_of_ble_eq_true rfl) dX10_hunt_45
      · replace hf := ifF hf c22
        obtain rfl := Option.some.inj hf
        exact r_return X hQ rfl rfl (Nat.le_of_ble_eq_true rfl) (Nat.le_of_ble_eq_true rfl) dX10_hunt_26
    · replace hf := ifT hf c1
      obtain rfl := Option.some.inj hf
      exact r_return X hQ rfl rfl (Nat.le_of_ble_eq_true rfl) (Nat.le_of_ble_eq_true rfl) dX10_hunt_4
set_option maxRecDepth 100000 in
set_option maxHeartbeats 4000000 in
theorem B10_isNoHunt_B53 {k : KT} {z : ZT} {T : TT} {R : RR} {ly : Fin 2 → LL} {rc : RC} {hn : HN} {rp : RP} {tp : TP} {ee : EE} {st : Fin 12 → SS} {w : Nat → Int64} {aside : Nat → Int64} {thought : Nat → Int64} {fresh : Nat → Int64} {mu : MU} {mp : MP} {mf : MF} {mg : MG} {ou : Nat → Int64} {od : Nat → UInt64} {r : Int32 × (Int32) × (MH)} (X : XX k strs z RX10 cX10_isNoHunt 5 (some .boolean) (rmD 15 0 0)) (hQ : zQ z = MQ (zB z) (Qof k (some (.int r.1)) (wAll k T R ly rc hn rp tp ee st w aside thought fresh mu r.2.1 mp mf r.2.2 mg ou od)) (zA z) (zS z) 0 0 (kA k)) : ∀ (fu : Nat) (th : Int32) (mh : MH) (x1 : Int32) (x2 : Int32) (x3 : Int32) (x4 : Int32), f10_isNoHunt_B53 w fu th mh x1 x2 x3 x4 = some r → VW k z 0 0 (wAll k T R ly rc hn rp tp ee st w aside thought fresh mu th mp mf mh mg ou od) 53 [some (.ref (k.b + (189))), some (.int x1), some (.int x2), some (.int x3), some (.int x4)] [] := by
  intro fu
  induction fu with
  | zero =>
    intro th mh x1 x2 x3 x4 hf
    rw [f10_isNoHunt_B53] at hf
    cases hf
  | succ fu ih =>
    intro th mh x1 x2 x3 x4 hf
    rw [f10_isNoHunt_B53] at hf
    refine r_iload X (x := x4) dX10_isNoHunt_53 rfl ?_
    refine r_aload_n X (x := k.b + (189)) dX10_isNoHunt_55 rfl ?_
    refine r_iconst X (v := 3) dX10_isNoHunt_56 rfl ?_
    obtain ⟨u57, h57, hf⟩ := bdS hf
    refine r_callV0 X [.int 3] [.int x4] (K10_many h57) lkX10_93 clsX10 rfl _ o_model (by decide) (Nat.le_of_ble_eq_true rfl) rfl rfl (Nat.le_of_ble_eq_true rfl) rfl rfl (Nat.zero_le _) (Nat.zero_le _) dX10_isNoHunt_57 ?_
    refine r_icmp_ge X 98 dX10_isNoHunt_60 rfl (fun c60 => ?_) (fun c60 => ?_)
    · replace hf := ifT hf c60
      refine r_aload_n X (x := k.b + (189)) dX10_isNoHunt_98 rfl ?_
      refine r_iconst X (v := 0) dX10_isNoHunt_99 rfl ?_
      refine r_putfield X (ws1 := wAll k T R ly rc hn rp tp ee st w aside thought fresh mu th mp mf (MH_set_sprayed mh 0) mg ou od) clsX10 flX10_408 (Nat.le_of_ble_eq_true rfl) rfl rfl rfl _ o_model (Nat.le_of_ble_eq_true rfl) (s_mh_sprayed 0) dX10_isNoHunt_100 ?_
      refine r_aload_n X (x := k.b + (189)) dX10_isNoHunt_103 rfl ?_
      refine r_iconst X (v := 0) dX10_isNoHunt_104 rfl ?_
      refine r_putfield X (ws1 := wAll k T R ly rc hn rp tp ee st w aside thought fresh mu th mp mf (MH_set_foundSet (MH_set_sprayed mh 0) 0) mg ou od) clsX10 flX10_411 (Nat.le_of_ble_eq_true rfl) rfl rfl rfl _ o_model (Nat.le_of_ble_eq_true rfl) (s_mh_foundSet 0) dX10_isNoHunt_105 ?_
      refine r_aload_n X (x := k.b + (189)) dX10_isNoHunt_108 rfl ?_
      refine r_iload_n X (x := x3) dX10_isNoHunt_109 rfl ?_
      refine r_iload_n X (x := x2) dX10_isNoHunt_110 rfl ?_
      obtain ⟨u111, h111, hf⟩ := bdS hf
      refine r_callV0 X [.int x3, .int x2] [] (K10_hunt 12 h111) lkX10_417 clsX10 rfl _ o_model (by decide) (Nat.le_of_ble_eq_true rfl) rfl rfl (Nat.le_of_ble_eq_true rfl) rfl rfl (Nat.zero_le _) (Nat.zero_le _) dX10_isNoHunt_111 ?_
      refine r_iconst X (v := 0) dX10_isNoHunt_114 rfl ?_
      obtain rfl := Option.some.inj hf
      exact r_zreturn X hQ rfl rfl (Nat.le_of_ble_eq_true rfl) (Nat.le_of_ble_eq_true rfl) rfl dX10_isNoHunt_115
    · replace hf := ifF hf c60
      refine r_iload_n X (x := x3) dX10_isNoHunt_63 rfl ?_
      refine r_aload_n X (x := k.b + (189)) dX10_isNoHunt_64 rfl ?_
      refine r_getfield X (v := .ref (k.b + (190))) clsX10 flX10_7 (Nat.le_of_ble_eq_true rfl) _ o_model rfl dX10_isNoHunt_65 ?_
      refine r_iload X (x := x4) dX10_isNoHunt_68 rfl ?_
      obtain ⟨u70, h70, hf⟩ := bdS hf
      refine r_callS0 X [.int x4] [.ref (k.b + (190)), .int x3] (K10_flangeAt h70) lkX10_96 (by decide) (Nat.le_of_ble_eq_true rfl) rfl rfl (Nat.le_of_ble_eq_true rfl) rfl rfl (Nat.zero_le _) (Nat.zero_le _) dX10_isNoHunt_70 ?_
      refine r_iconst X (v := 0) dX10_isNoHunt_73 rfl ?_
      refine r_iadd X dX10_isNoHunt_74 ?_
      obtain ⟨g75, hf⟩ := gdS hf
      refine r_laload X (f := w) _ a_m_w g75 dX10_isNoHunt_75 ?_
      refine r_iload_n X (x := x1) dX10_isNoHunt_76 rfl ?_
      refine r_i2l X dX10_isNoHunt_77 ?_
      suffices K78 : VW k z 0 0 (wAll k T R ly rc hn rp tp ee st w aside thought fresh mu th mp mf mh mg ou od) 90 [some (.ref (k.b + (189))), some (.int x1), some (.int x2), some (.int x3), some (.int x4)] [.int (if (w (ix (u70 + 0))) = x1.toInt64 then (1 <<< (x4 &&& 31) : Int32) else (0 : Int32)), .int x3] by
        refine r_lcmp_ne X 89 dX10_isNoHunt_78 dX10_isNoHunt_79 rfl (fun c78 => ?_) (fun c78 => ?_)
        · refine r_iconst X (v := 0) dX10_isNoHunt_89 rfl ?_
          rw [if_neg c78] at K78
          exact K78
        · refine r_iconst X (v := 1) dX10_isNoHunt_82 rfl ?_
          refine r_iload X (x := x4) dX10_isNoHunt_83 rfl ?_
          refine r_ishl X dX10_isNoHunt_85 ?_
          refine r_goto X 90 dX10_isNoHunt_86 rfl ?_
          rw [if_pos c78] at K78
          exact K78
      refine r_ior X dX10_isNoHunt_90 ?_
      refine r_istore_n X [some (.ref (k.b + (189))), some (.int x1), some (.int x2), some (.int (x3 ||| (if (w (ix (u70 + 0))) = x1.toInt64 then (1 <<< (x4 &&& 31) : Int32) else (0 : Int32)))), some (.int x4)] dX10_isNoHunt_91 (Nat.le_of_ble_eq_true rfl) rfl ?_
      refine r_iinc X (x := x4) (v := x4 + 1) [some (.ref (k.b + (189))), some (.int x1), some (.int x2), some (.int (x3 ||| (if (w (ix (u70 + 0))) = x1.toInt64 then (1 <<< (x4 &&& 31) : Int32) else (0 : Int32)))), some (.int (x4 + 1))] dX10_isNoHunt_92 rfl rfl rfl ?_
      refine r_goto X 53 dX10_isNoHunt_95 rfl ?_
      exact ih th mh x1 x2 (x3 ||| (if (w (ix (u70 + 0))) = x1.toInt64 then (1 <<< (x4 &&& 31) : Int32) else (0 : Int32))) (x4 + 1) hf
set_option maxRecDepth 100000 in
set_option maxHeartbeats 4000000 in
theorem K10_isNoHunt {k : KT} {T : TT} {R : RR} {ly : Fin 2 → LL} {rc : RC} {hn : HN} {rp : RP} {tp : TP} {ee : EE} {st : Fin 12 → SS} {w : Nat → Int64} {aside : Nat → Int64} {thought : Nat → Int64} {fresh : Nat → Int64} {mu : MU} {th : Int32} {mp : MP} {mf : MF} {mh : MH} {mg : MG} {ou : Nat → Int64} {od : Nat → UInt64}  {x1 : Int32} {x2 : Int32} {r : Int32 × (Int32) × (MH)} (hf : f10_isNoHunt w th mh x1 x2 = some r) : CT k strs yX10_isNoHunt cX10_isNoHunt 5 (some .boolean) (rmD 15 0 0) 0 0 [.ref (k.b + (189)), .int x1, .int x2] (wAll k T R ly rc hn rp tp ee st w aside thought fresh mu th mp mf mh mg ou od) (some (.int r.1)) (wAll k T R ly rc hn rp tp ee st w aside thought fresh mu r.2.1 mp mf r.2.2 mg ou od) := by
  refine CT.of (by decide) (Nat.le_of_ble_eq_true rfl) ?_
  intro z X hQ
  show VW k z 0 0 (wAll k T R ly rc hn rp tp ee st w aside thought fresh mu th mp mf mh mg ou od) 0 [some (.ref (k.b + (189))), some (.int x1), some (.int x2), none, none] []
  unfold f10_isNoHunt at hf
  refine r_aload_n X (x := k.b + (189)) dX10_isNoHunt_0 rfl ?_
  refine r_aload_n X (x := k.b + (189)) dX10_isNoHunt_1 rfl ?_
  refine r_iload_n X (x := x1) dX10_isNoHunt_2 rfl ?_
  obtain ⟨u3, h3, hf⟩ := bdS hf
  refine r_callV0 X [.int x1] [.ref (k.b + (189))] (K10_isChamber h3) lkX10_179 clsX10 rfl _ o_model (by decide) (Nat.le_of_ble_eq_true rfl) rfl rfl (Nat.le_of_ble_eq_true rfl) rfl rfl (Nat.zero_le _) (Nat.zero_le _) dX10_isNoHunt_3 ?_
  suffices K6 : VW k z 0 0 (wAll k T R ly rc hn rp tp ee st w aside thought fresh mu th mp mf mh mg ou od) 14 [some (.ref (k.b + (189))), some (.int x1), some (.int x2), none, none] [.int (if u3 = 0 then (1 : Int32) else (0 : Int32)), .ref (k.b + (189))] by
    refine r_if_ne X 13 dX10_isNoHunt_6 rfl (fun c6 => ?_) (fun c6 => ?_)
    · refine r_iconst X (v := 0) dX10_isNoHunt_13 rfl ?_
      rw [if_neg c6] at K6
      exact K6
    · refine r_iconst X (v := 1) dX10_isNoHunt_9 rfl ?_
      refine r_goto X 14 dX10_isNoHunt_10 rfl ?_
      rw [if_pos c6] at K6
      exact K6
  refine r_iconst X (v := 1) dX10_isNoHunt_14 rfl ?_
  obtain ⟨u15, h15, hf⟩ := bdS hf
  refine r_callV0 X [.int (if u3 = 0 then (1 : Int32) else (0 : Int32)), .int 1] [] (K10_fails h15) lkX10_151 clsX10 rfl _ o_model (by decide) (Nat.le_of_ble_eq_true rfl) rfl rfl (Nat.le_of_ble_eq_true rfl) rfl rfl (Nat.zero_le _) (Nat.zero_le _) dX10_isNoHunt_15 ?_
  refine r_if_ne X 46 dX10_isNoHunt_18 rfl (fun c18 => ?_) (fun c18 => ?_)
  · replace hf := ifF hf c18
    refine r_iconst X (v := 1) dX10_isNoHunt_46 rfl ?_
    obtain rfl := Option.some.inj hf
    exact r_zreturn X hQ rfl rfl (Nat.le_of_ble_eq_true rfl) (Nat.le_of_ble_eq_true rfl) rfl dX10_isNoHunt_47
  · replace hf := ifT hf c18
    refine r_aload_n X (x := k.b + (189)) dX10_isNoHunt_21 rfl ?_
    refine r_iload_n X (x := x2) dX10_isNoHunt_22 rfl ?_
    refine r_i2l X dX10_isNoHunt_23 ?_
    refine r_lconst X (v := 1) dX10_isNoHunt_24 rfl ?_
    refine r_ldc2 X (v := 9999) coX10_197 dX10_isNoHunt_25 ?_
    obtain ⟨u28, h28, hf⟩ := bdS hf
    refine r_callS0 X [.long x2.toInt64, .long 1, .long 9999] [.ref (k.b + (189))] (K10_in h28) lkX10_39 (by decide) (Nat.le_of_ble_eq_true rfl) rfl rfl (Nat.le_of_ble_eq_true rfl) rfl rfl (Nat.zero_le _) (Nat.zero_le _) dX10_isNoHunt_28 ?_
    suffices K31 : VW k z 0 0 (wAll k T R ly rc hn rp tp ee st w aside thought fresh mu u15.2 mp mf mh mg ou od) 39 [some (.ref (k.b + (189))), some (.int x1), some (.int x2), none, none] [.int (if u28 = 0 then (1 : Int32) else (0 : Int32)), .ref (k.b + (189))] by
      refine r_if_ne X 38 dX10_isNoHunt_31 rfl (fun c31 => ?_) (fun c31 => ?_)
      · refine r_iconst X (v := 0) dX10_isNoHunt_38 rfl ?_
        rw [if_neg c31] at K31
        exact K31
      · refine r_iconst X (v := 1) dX10_isNoHunt_34 rfl ?_
        refine r_goto X 39 dX10_isNoHunt_35 rfl ?_
        rw [if_pos c31] at K31
        exact K31
    refine r_iconst X (v := 2) dX10_isNoHunt_39 rfl ?_
    obtain ⟨u40, h40, hf⟩ := bdS hf
    refine r_callV0 X [.int (if u28 = 0 then (1 : Int32) else (0 : Int32)), .int 2] [] (K10_fails h40) lkX10_151 clsX10 rfl _ o_model (by decide) (Nat.le_of_ble_eq_true rfl) rfl rfl (Nat.le_of_ble_eq_true rfl) rfl rfl (Nat.zero_le _) (Nat.zero_le _) dX10_isNoHunt_40 ?_
    refine r_if_eq X 48 dX10_isNoHunt_43 rfl (fun c43 => ?_) (fun c43 => ?_)
    · replace hf := ifT hf c43
      refine r_iconst X (v := 0) dX10_isNoHunt_48 rfl ?_
      refine r_istore_n X [some (.ref (k.b + (189))), some (.int x1), some (.int x2), some (.int 0), none] dX10_isNoHunt_49 (Nat.le_of_ble_eq_true rfl) rfl ?_
      refine r_iconst X (v := 0) dX10_isNoHunt_50 rfl ?_
      refine r_istore X [some (.ref (k.b + (189))), some (.int x1), some (.int x2), some (.int 0), some (.int 0)] dX10_isNoHunt_51 (Nat.le_of_ble_eq_true rfl) rfl ?_
      exact B10_isNoHunt_B53 X hQ FU u40.2 mh x1 x2 0 0 hf
    · replace hf := ifF hf c43
      refine r_iconst X (v := 1) dX10_isNoHunt_46 rfl ?_
      obtain rfl := Option.some.inj hf
      exact r_zreturn X hQ rfl rfl (Nat.le_of_ble_eq_true rfl) (Nat.le_of_ble_eq_true rfl) rfl dX10_isNoHunt_47
set_option maxRecDepth 100000 in
set_option maxHeartbeats 4000000 in
theorem K10_sprays {k : KT} {T : TT} {R : RR} {ly : Fin 2 → LL} {rc : RC} {hn : HN} {rp : RP} {tp : TP} {ee : EE} {st : Fin 12 → SS} {w : Nat → Int64} {aside : Nat → Int64} {thought : Nat → Int64} {fresh : Nat → Int64} {mu : MU} {th : Int32} {mp : MP} {mf : MF} {mh : MH} {mg : MG} {ou : Nat → Int64} {od : Nat → UInt64}  {x1 : Int32} {x2 : Int32} {r : Int32 × (Int32) × (MH)} (hf : f10_sprays w th mh x1 x2 = some r) : CT k strs yX10_sprays cX10_sprays 3 (some .int) (rmD 16 0 0) 0 0 [.ref (k.b + (189)), .int x1, .int x2] (wAll k T R ly rc hn rp tp ee st w aside thought fresh mu th mp mf mh mg ou od) (some (.int r.1)) (wAll k T R ly rc hn rp tp ee st w aside thought fresh mu r.2.1 mp mf r.2.2 mg ou od) := by
  refine CT.of (by decide) (Nat.le_of_ble_eq_true rfl) ?_
  intro z X hQ
  show VW k z 0 0 (wAll k T R ly rc hn rp tp ee st w aside thought fresh mu th mp mf mh mg ou od) 0 [some (.ref (k.b + (189))), some (.int x1), some (.int x2)] []
  unfold f10_sprays at hf
  refine r_aload_n X (x := k.b + (189)) dX10_sprays_0 rfl ?_
  refine r_iload_n X (x := x1) dX10_sprays_1 rfl ?_
  refine r_iload_n X (x := x2) dX10_sprays_2 rfl ?_
  obtain ⟨u3, h3, hf⟩ := bdS hf
  refine r_callV0 X [.int x1, .int x2] [] (K10_isNoHunt h3) lkX10_421 clsX10 rfl _ o_model (by decide) (Nat.le_of_ble_eq_true rfl) rfl rfl (Nat.le_of_ble_eq_true rfl) rfl rfl (Nat.zero_le _) (Nat.zero_le _) dX10_sprays_3 ?_
  refine r_if_eq X 13 dX10_sprays_6 rfl (fun c6 => ?_) (fun c6 => ?_)
  · replace hf := ifT hf c6
    refine r_aload_n X (x := k.b + (189)) dX10_sprays_13 rfl ?_
    refine r_getfield X (v := .int (MH_sprayed u3.2.2)) clsX10 flX10_408 (Nat.le_of_ble_eq_true rfl) _ o_model rfl dX10_sprays_14 ?_
    obtain rfl := Option.some.inj hf
    exact r_ireturn X hQ rfl rfl (Nat.le_of_ble_eq_true rfl) (Nat.le_of_ble_eq_true rfl) dX10_sprays_17
  · replace hf := ifF hf c6
    refine r_iconst X (v := 0) dX10_sprays_9 rfl ?_
    refine r_goto X 17 dX10_sprays_10 rfl ?_
    obtain rfl := Option.some.inj hf
    exact r_ireturn X hQ rfl rfl (Nat.le_of_ble_eq_true rfl) (Nat.le_of_ble_eq_true rfl) dX10_sprays_17
set_option maxRecDepth 100000 in
set_option maxHeartbeats 4000000 in
theorem K10_found {k : KT} {T : TT} {R : RR} {ly : Fin 2 → LL} {rc : RC} {hn : HN} {rp : RP} {tp : TP} {ee : EE} {st : Fin 12 → SS} {w : Nat → Int64} {aside : Nat → Int64} {thought : Nat → Int64} {fresh : Nat → Int64} {mu : MU} {th : Int32} {mp : MP} {mf : MF} {mh : MH} {mg : MG} {ou : Nat → Int64} {od : Nat → UInt64}  {x1 : Int32} {x2 : Int32} {r : Int32 × (Int32) × (MH)} (hf : f10_found w th mh x1 x2 = some r) : CT k strs yX10_found cX10_found 3 (some .int) (rmD 16 0 0) 0 0 [.ref (k.b + (189)), .int x1, .int x2] (wAll k T R ly rc hn rp tp ee st w aside thought fresh mu th mp mf mh mg ou od) (some (.int r.1)) (wAll k T R ly rc hn rp tp ee st w aside thought fresh mu r.2.1 mp mf r.2.2 mg ou od) := by
  refine CT.of (by decide) (Nat.le_of_ble_eq_true rfl) ?_
  intro z X hQ
  show VW k z 0 0 (wAll k T R ly rc hn rp tp ee st w aside thought fresh mu th mp mf mh mg ou od) 0 [some (.ref (k.b + (189))), some (.int x1), some (.int x2)] []
  unfold f10_found at hf
  refine r_aload_n X (x := k.b + (189)) dX10_found_0 rfl ?_
  refine r_iload_n X (x := x1) dX10_found_1 rfl ?_
  refine r_iload_n X (x := x2) dX10_found_2 rfl ?_
  obtain ⟨u3, h3, hf⟩ := bdS hf
  refine r_callV0 X [.int x1, .int x2] [] (K10_isNoHunt h3) lkX10_421 clsX10 rfl _ o_model (by decide) (Nat.le_of_ble_eq_true rfl) rfl rfl (Nat.le_of_ble_eq_true rfl) rfl rfl (Nat.zero_le _) (Nat.zero_le _) dX10_found_3 ?_
  refine r_if_eq X 13 dX10_found_6 rfl (fun c6 => ?_) (fun c6 => ?_)
  · replace hf := ifT hf c6
    refine r_aload_n X (x := k.b + (189)) dX10_found_13 rfl ?_
    refine r_getfield X (v := .int (MH_foundSet u3.2.2)) clsX10 flX10_411 (Nat.le_of_ble_eq_true rfl) _ o_model rfl dX10_found_14 ?_
    obtain rfl := Option.some.inj hf
    exact r_ireturn X hQ rfl rfl (Nat.le_of_ble_eq_true rfl) (Nat.le_of_ble_eq_true rfl) dX10_found_17
  · replace hf := ifF hf c6
    refine r_iconst X (v := 0) dX10_found_9 rfl ?_
    refine r_goto X 17 dX10_found_10 rfl ?_
    obtain rfl := Option.some.inj hf
    exact r_ireturn X hQ rfl rfl (Nat.le_of_ble_eq_true rfl) (Nat.le_of_ble_eq_true rfl) dX10_found_17
set_option maxRecDepth 100000 in
set_option maxHeartbeats 4000000 in
theorem B10_worstFlange_B30 {k : KT} {z : ZT} {T : TT} {R : RR} {ly : Fin 2 → LL} {rc : RC} {hn : HN} {rp : RP} {tp : TP} {ee : EE} {st : Fin 12 → SS} {w : Nat → Int64} {aside : Nat → Int64} {thought : Nat → Int64} {fresh : Nat → Int64} {mu : MU} {mp : MP} {mf : MF} {mh : MH} {mg : MG} {ou : Nat → Int64} {od : Nat → UInt64} {r : Int32 × (Int32)} (X : XX k strs z RX10 cX10_worstFlange 3 (some .int) (rmD 1 0 0)) (hQ : zQ z = MQ (zB z) (Qof k (some (.int r.1)) (wAll k T R ly rc hn rp tp ee st w aside thought fresh mu r.2 mp mf mh mg ou od)) (zA z) (zS z) 0 0 (kA k)) : ∀ (fu : Nat) (th : Int32) (x1 : Int32) (x2 : Int32), f10_worstFlange_B30 w fu th x1 x2 = some r → VW k z 0 0 (wAll k T R ly rc hn rp tp ee st w aside thought fresh mu th mp mf mh mg ou od) 30 [some (.ref (k.b + (189))), some (.int x1), some (.int x2)] [] := by
  intro fu
  induction fu with
  | zero =>
    intro th x1 x2 hf
    rw [f10_worstFlange_B30] at hf
    cases hf
  | succ fu ih =>
    intro th x1 x2 hf
    rw [f10_worstFlange_B30] at hf
    refine r_iload_n X (x := x2) dX10_worstFlange_30 rfl ?_
    refine r_aload_n X (x := k.b + (189)) dX10_worstFlange_31 rfl ?_
    refine r_iconst X (v := 3) dX10_worstFlange_32 rfl ?_
    obtain ⟨u33, h33, hf⟩ := bdS hf
    refine r_callV0 X [.int 3] [.int x2] (K10_many h33) lkX10_93 clsX10 rfl _ o_model (by decide) (Nat.le_of_ble_eq_true rfl) rfl rfl (Nat.le_of_ble_eq_true rfl) rfl rfl (Nat.zero_le _) (Nat.zero_le _) dX10_worstFlange_33 ?_
    refine r_icmp_ge X 77 dX10_worstFlange_36 rfl (fun c36 => ?_) (fun c36 => ?_)
    · replace hf := ifT hf c36
      refine r_iload_n X (x := x1) dX10_worstFlange_77 rfl ?_
      obtain rfl := Option.some.inj hf
      exact r_ireturn X hQ rfl rfl (Nat.le_of_ble_eq_true rfl) (Nat.le_of_ble_eq_true rfl) dX10_worstFlange_78
    · replace hf := ifF hf c36
      refine r_aload_n X (x := k.b + (189)) dX10_worstFlange_39 rfl ?_
      refine r_getfield X (v := .ref (k.b + (190))) clsX10 flX10_7 (Nat.le_of_ble_eq_true rfl) _ o_model rfl dX10_worstFlange_40 ?_
      refine r_iload_n X (x := x2) dX10_worstFlange_43 rfl ?_
      obtain ⟨u44, h44, hf⟩ := bdS hf
      refine r_callS0 X [.int x2] [.ref (k.b + (190))] (K10_flangeAt h44) lkX10_96 (by decide) (Nat.le_of_ble_eq_true rfl) rfl rfl (Nat.le_of_ble_eq_true rfl) rfl rfl (Nat.zero_le _) (Nat.zero_le _) dX10_worstFlange_44 ?_
      refine r_iconst X (v := 1) dX10_worstFlange_47 rfl ?_
      refine r_iadd X dX10_worstFlange_48 ?_
      obtain ⟨g49, hf⟩ := gdS hf
      refine r_laload X (f := w) _ a_m_w g49 dX10_worstFlange_49 ?_
      refine r_aload_n X (x := k.b + (189)) dX10_worstFlange_50 rfl ?_
      refine r_getfield X (v := .ref (k.b + (190))) clsX10 flX10_7 (Nat.le_of_ble_eq_true rfl) _ o_model rfl dX10_worstFlange_51 ?_
      refine r_iload_n X (x := x1) dX10_worstFlange_54 rfl ?_
      obtain ⟨u55, h55, hf⟩ := bdS hf
      refine r_callS0 X [.int x1] [.ref (k.b + (190)), .long (w (ix (u44 + 1)))] (K10_flangeAt h55) lkX10_96 (by decide) (Nat.le_of_ble_eq_true rfl) rfl rfl (Nat.le_of_ble_eq_true rfl) rfl rfl (Nat.zero_le _) (Nat.zero_le _) dX10_worstFlange_55 ?_
      refine r_iconst X (v := 1) dX10_worstFlange_58 rfl ?_
      refine r_iadd X dX10_worstFlange_59 ?_
      obtain ⟨g60, hf⟩ := gdS hf
      refine r_laload X (f := w) _ a_m_w g60 dX10_worstFlange_60 ?_
      suffices K61 : VW k z 0 0 (wAll k T R ly rc hn rp tp ee st w aside thought fresh mu th mp mf mh mg ou od) 70 [some (.ref (k.b + (189))), some (.int x1), some (.int x2)] [.int (if (w (ix (u44 + 1))) ≤ (w (ix (u55 + 1))) then (x1 : Int32) else (x2 : Int32))] by
        refine r_lcmp_le X 69 dX10_worstFlange_61 dX10_worstFlange_62 rfl (fun c61 => ?_) (fun c61 => ?_)
        · refine r_iload_n X (x := x1) dX10_worstFlange_69 rfl ?_
          rw [if_pos c61] at K61
          exact K61
        · refine r_iload_n X (x := x2) dX10_worstFlange_65 rfl ?_
          refine r_goto X 70 dX10_worstFlange_66 rfl ?_
          rw [if_neg c61] at K61
          exact K61
      refine r_istore_n X [some (.ref (k.b + (189))), some (.int (if (w (ix (u44 + 1))) ≤ (w (ix (u55 + 1))) then (x1 : Int32) else (x2 : Int32))), some (.int x2)] dX10_worstFlange_70 (Nat.le_of_ble_eq_true rfl) rfl ?_
      refine r_iinc X (x := x2) (v := x2 + 1) [some (.ref (k.b + (189))), some (.int (if (w (ix (u44 + 1))) ≤ (w (ix (u55 + 1))) then (x1 : Int32) else (x2 : Int32))), some (.int (x2 + 1))] dX10_worstFlange_71 rfl rfl rfl ?_
      refine r_goto X 30 dX10_worstFlange_74 rfl ?_
      exact ih th (if (w (ix (u44 + 1))) ≤ (w (ix (u55 + 1))) then (x1 : Int32) else (x2 : Int32)) (x2 + 1) hf
set_option maxRecDepth 100000 in
set_option maxHeartbeats 4000000 in
theorem K10_worstFlange {k : KT} {T : TT} {R : RR} {ly : Fin 2 → LL} {rc : RC} {hn : HN} {rp : RP} {tp : TP} {ee : EE} {st : Fin 12 → SS} {w : Nat → Int64} {aside : Nat → Int64} {thought : Nat → Int64} {fresh : Nat → Int64} {mu : MU} {th : Int32} {mp : MP} {mf : MF} {mh : MH} {mg : MG} {ou : Nat → Int64} {od : Nat → UInt64}   {r : Int32 × (Int32)} (hf : f10_worstFlange w th  = some r) : CT k strs yX10_worstFlange cX10_worstFlange 3 (some .int) (rmD 1 0 0) 0 0 [.ref (k.b + (189))] (wAll k T R ly rc hn rp tp ee st w aside thought fresh mu th mp mf mh mg ou od) (some (.int r.1)) (wAll k T R ly rc hn rp tp ee st w aside thought fresh mu r.2 mp mf mh mg ou od) := by
  refine CT.of (by decide) (Nat.le_of_ble_eq_true rfl) ?_
  intro z X hQ
  show VW k z 0 0 (wAll k T R ly rc hn rp tp ee st w aside thought fresh mu th mp mf mh mg ou od) 0 [some (.ref (k.b + (189))), none, none] []
  unfold f10_worstFlange at hf
  refine r_aload_n X (x := k.b + (189)) dX10_worstFlange_0 rfl ?_
  refine r_aload_n X (x := k.b + (189)) dX10_worstFlange_1 rfl ?_
  refine r_getfield X (v := .ref (k.b + (190))) clsX10 flX10_7 (Nat.le_of_ble_eq_true rfl) _ o_model rfl dX10_worstFlange_2 ?_
  refine r_iconst X (v := 3) dX10_worstFlange_5 rfl ?_
  refine r_laload X (f := w) _ a_m_w (by decide) dX10_worstFlange_6 ?_
  refine r_lconst X (v := 0) dX10_worstFlange_7 rfl ?_
  suffices K8 : VW k z 0 0 (wAll k T R ly rc hn rp tp ee st w aside thought fresh mu th mp mf mh mg ou od) 17 [some (.ref (k.b + (189))), none, none] [.int (if (w (ix 3)) = 0 then (1 : Int32) else (0 : Int32)), .ref (k.b + (189))] by
    refine r_lcmp_ne X 16 dX10_worstFlange_8 dX10_worstFlange_9 rfl (fun c8 => ?_) (fun c8 => ?_)
    · refine r_iconst X (v := 0) dX10_worstFlange_16 rfl ?_
      rw [if_neg c8] at K8
      exact K8
    · refine r_iconst X (v := 1) dX10_worstFlange_12 rfl ?_
      refine r_goto X 17 dX10_worstFlange_13 rfl ?_
      rw [if_pos c8] at K8
      exact K8
  refine r_iconst X (v := 1) dX10_worstFlange_17 rfl ?_
  obtain ⟨u18, h18, hf⟩ := bdS hf
  refine r_callV0 X [.int (if (w (ix 3)) = 0 then (1 : Int32) else (0 : Int32)), .int 1] [] (K10_fails h18) lkX10_151 clsX10 rfl _ o_model (by decide) (Nat.le_of_ble_eq_true rfl) rfl rfl (Nat.le_of_ble_eq_true rfl) rfl rfl (Nat.zero_le _) (Nat.zero_le _) dX10_worstFlange_18 ?_
  refine r_if_eq X 26 dX10_worstFlange_21 rfl (fun c21 => ?_) (fun c21 => ?_)
  · replace hf := ifT hf c21
    refine r_iconst X (v := 0) dX10_worstFlange_26 rfl ?_
    refine r_istore_n X [some (.ref (k.b + (189))), some (.int 0), none] dX10_worstFlange_27 (Nat.le_of_ble_eq_true rfl) rfl ?_
    refine r_iconst X (v := 1) dX10_worstFlange_28 rfl ?_
    refine r_istore_n X [some (.ref (k.b + (189))), some (.int 0), some (.int 1)] dX10_worstFlange_29 (Nat.le_of_ble_eq_true rfl) rfl ?_
    exact B10_worstFlange_B30 X hQ FU u18.2 0 1 hf
  · replace hf := ifF hf c21
    refine r_iconst X (v := 0) dX10_worstFlange_24 rfl ?_
    obtain rfl := Option.some.inj hf
    exact r_ireturn X hQ rfl rfl (Nat.le_of_ble_eq_true rfl) (Nat.le_of_ble_eq_true rfl) dX10_worstFlange_25
set_option maxRecDepth 100000 in
set_option maxHeartbeats 4000000 in
theorem K10_print {k : KT} {T : TT} {R : RR} {ly : Fin 2 → LL} {rc : RC} {hn : HN} {rp : RP} {tp : TP} {ee : EE} {st : Fin 12 → SS} {w : Nat → Int64} {aside : Nat → Int64} {thought : Nat → Int64} {fresh : Nat → Int64} {mu : MU} {th : Int32} {mp : MP} {mf : MF} {mh : MH} {mg : MG} {ou : Nat → Int64} {od : Nat → UInt64}  {x1 : Int32} {r : (MG)} (hf : f10_print  mg x1 = some r) : CT k strs yX10_print cX10_print 2 none (rmD 0 0 0) 0 0 [.ref (k.b + (189)), .int x1] (wAll k T R ly rc hn rp tp ee st w aside thought fresh mu th mp mf mh mg ou od) (none) (wAll k T R ly rc hn rp tp ee st w aside thought fresh mu th mp mf mh r ou od) := by
  refine CT.of (by decide) (Nat.le_of_ble_eq_true rfl) ?_
  intro z X hQ
  show VW k z 0 0 (wAll k T R ly rc hn rp tp ee st w aside thought fresh mu th mp mf mh mg ou od) 0 [some (.ref (k.b + (189))), some (.int x1)] []
  unfold f10_print at hf
  refine r_aload_n X (x := k.b + (189)) dX10_print_0 rfl ?_
  refine r_getfield X (v := .ref (k.b + (196))) clsX10 flX10_33 (Nat.le_of_ble_eq_true rfl) _ o_model rfl dX10_print_1 ?_
  refine r_aload_n X (x := k.b + (189)) dX10_print_4 rfl ?_
  refine r_getfield X (v := .int (MG_pageLength mg)) clsX10 flX10_424 (Nat.le_of_ble_eq_true rfl) _ o_model rfl dX10_print_5 ?_
  refine r_iload_n X (x := x1) dX10_print_8 rfl ?_
  refine r_i2b X dX10_print_9 ?_
  obtain ⟨g10, hf⟩ := gdS hf
  refine r_bastore X (f := MG_page mg) (ws1 := wAll k T R ly rc hn rp tp ee st w aside thought fresh mu th mp mf mh (MG_set_page mg (upd (MG_page mg) (ix (MG_pageLength mg)) (vp_nar .byte x1.toInt8.toInt32))) ou od) _ a_m_page g10 (s_mg_page (upd (MG_page mg) (ix (MG_pageLength mg)) (vp_nar .byte x1.toInt8.toInt32))) dX10_print_10 ?_
  refine r_aload_n X (x := k.b + (189)) dX10_print_11 rfl ?_
  refine r_dup X dX10_print_12 rfl ?_
  refine r_getfield X (v := .int (MG_pageLength mg)) clsX10 flX10_424 (Nat.le_of_ble_eq_true rfl) _ o_model (hvI rfl (MG_pageLength_set_page _ _)) dX10_print_13 ?_
  refine r_iconst X (v := 1) dX10_print_16 rfl ?_
  refine r_iadd X dX10_print_17 ?_
  refine r_putfield X (ws1 := wAll k T R ly rc hn rp tp ee st w aside thought fresh mu th mp mf mh (MG_set_pageLength (MG_set_page mg (upd (MG_page mg) (ix (MG_pageLength mg)) (vp_nar .byte x1.toInt8.toInt32))) ((MG_pageLength mg) + 1)) ou od) clsX10 flX10_424 (Nat.le_of_ble_eq_true rfl) rfl rfl rfl _ o_model (Nat.le_of_ble_eq_true rfl) (s_mg_pageLength ((MG_pageLength mg) + 1)) dX10_print_18 ?_
  obtain rfl := Option.some.inj hf
  exact r_return X hQ rfl rfl (Nat.le_of_ble_eq_true rfl) (Nat.le_of_ble_eq_true rfl) dX10_print_21
set_option maxRecDepth 100000 in
set_option maxHeartbeats 4000000 in
theorem K10_printNumber {k : KT} (fu : Nat) : ∀ {T : TT} {R : RR} {ly : Fin 2 → LL} {rc : RC} {hn : HN} {rp : RP} {tp : TP} {ee : EE} {st : Fin 12 → SS} {w : Nat → Int64} {aside : Nat → Int64} {thought : Nat → Int64} {fresh : Nat → Int64} {mu : MU} {th : Int32} {mp : MP} {mf : MF} {mh : MH} {mg : MG} {ou : Nat → Int64} {od : Nat → UInt64}  {x1 : Int64} {r : (MG)} (hf : f10_printNumber  fu mg x1 = some r), CT k strs yX10_printNumber cX10_printNumber 3 none (rmD (1 + fu) 0 0) 0 0 [.ref (k.b + (189)), .long x1] (wAll k T R ly rc hn rp tp ee st w aside thought fresh mu th mp mf mh mg ou od) (none) (wAll k T R ly rc hn rp tp ee st w aside thought fresh mu th mp mf mh r ou od) := by
  induction fu with
  | zero =>
    intros
    rename_i hf
    cases hf
  | succ fu ih =>
    intro T R ly rc hn rp tp ee st w aside thought fresh mu th mp mf mh mg ou od x1 r hf
    refine CT.of (by decide) (Nat.le_of_ble_eq_true rfl) ?_
    intro z X hQ
    show VW k z 0 0 (wAll k T R ly rc hn rp tp ee st w aside thought fresh mu th mp mf mh mg ou od) 0 [some (.ref (k.b + (189))), some (.long x1), none] []
    rw [f10_printNumber] at hf
    refine r_lload_n X (x := x1) dX10_printNumber_0 rfl ?_
    refine r_ldc2 X (v := 9) coX10_209 dX10_printNumber_1 ?_
    refine r_lcmp_le X 17 dX10_printNumber_4 dX10_printNumber_5 rfl (fun c4 => ?_) (fun c4 => ?_)
    · replace hf := ifT hf c4
      refine r_aload_n X (x := k.b + (189)) dX10_printNumber_17 rfl ?_
      refine r_ldc2 X (v := 48) coX10_239 dX10_printNumber_18 ?_
      refine r_lload_n X (x := x1) dX10_printNumber_21 rfl ?_
      refine r_ldc2 X (v := 10) coX10_207 dX10_printNumber_22 ?_
      refine r_lrem X dX10_printNumber_25 (by decide) ?_
      refine r_ladd X dX10_printNumber_26 ?_
      refine r_l2i X dX10_printNumber_27 ?_
      obtain ⟨u28, h28, hf⟩ := bdS hf
      refine r_callV0 X [.int ((48 + (x1 - x1 / 10 * 10)).toInt32)] [] (K10_print h28) lkX10_431 clsX10 rfl _ o_model (by omega) (Nat.le_of_ble_eq_true rfl) rfl rfl (Nat.le_of_ble_eq_true rfl) rfl rfl (Nat.zero_le _) (Nat.zero_le _) dX10_printNumber_28 ?_
      obtain rfl := Option.some.inj hf
      exact r_return X hQ rfl rfl (Nat.le_of_ble_eq_true rfl) (Nat.le_of_ble_eq_true rfl) dX10_printNumber_31
    · replace hf := ifF hf c4
      refine r_aload_n X (x := k.b + (189)) dX10_printNumber_8 rfl ?_
      refine r_lload_n X (x := x1) dX10_printNumber_9 rfl ?_
      refine r_ldc2 X (v := 10) coX10_207 dX10_printNumber_10 ?_
      refine r_ldiv X dX10_printNumber_13 (by decide) ?_
      obtain ⟨u14, h14, hf⟩ := bdS hf
      refine r_callV0 X [.long (x1 / 10)] [] (ih h14) lkX10_427 clsX10 rfl _ o_model (by omega) (Nat.le_of_ble_eq_true rfl) rfl rfl (Nat.le_of_ble_eq_true rfl) rfl rfl (Nat.zero_le _) (Nat.zero_le _) dX10_printNumber_14 ?_
      refine r_aload_n X (x := k.b + (189)) dX10_printNumber_17 rfl ?_
      refine r_ldc2 X (v := 48) coX10_239 dX10_printNumber_18 ?_
      refine r_lload_n X (x := x1) dX10_printNumber_21 rfl ?_
      refine r_ldc2 X (v := 10) coX10_207 dX10_printNumber_22 ?_
      refine r_lrem X dX10_printNumber_25 (by decide) ?_
      refine r_ladd X dX10_printNumber_26 ?_
      refine r_l2i X dX10_printNumber_27 ?_
      obtain ⟨u28, h28, hf⟩ := bdS hf
      refine r_callV0 X [.int ((48 + (x1 - x1 / 10 * 10)).toInt32)] [] (K10_print h28) lkX10_431 clsX10 rfl _ o_model (by omega) (Nat.le_of_ble_eq_true rfl) rfl rfl (Nat.le_of_ble_eq_true rfl) rfl rfl (Nat.zero_le _) (Nat.zero_le _) dX10_printNumber_28 ?_
      obtain rfl := Option.some.inj hf
      exact r_return X hQ rfl rfl (Nat.le_of_ble_eq_true rfl) (Nat.le_of_ble_eq_true rfl) dX10_printNumber_31
set_option maxRecDepth 100000 in
set_option maxHeartbeats 4000000 in
theorem K10_printMark {k : KT} {T : TT} {R : RR} {ly : Fin 2 → LL} {rc : RC} {hn : HN} {rp : RP} {tp : TP} {ee : EE} {st : Fin 12 → SS} {w : Nat → Int64} {aside : Nat → Int64} {thought : Nat → Int64} {fresh : Nat → Int64} {mu : MU} {th : Int32} {mp : MP} {mf : MF} {mh : MH} {mg : MG} {ou : Nat → Int64} {od : Nat → UInt64}  {x1 : Int32} {x2 : Int32} {r : (MG)} (hf : f10_printMark  mg x1 x2 = some r) : CT k strs yX10_printMark cX10_printMark 3 none (rmD 26 0 0) 0 0 [.ref (k.b + (189)), .int x1, .int x2] (wAll k T R ly rc hn rp tp ee st w aside thought fresh mu th mp mf mh mg ou od) (none) (wAll k T R ly rc hn rp tp ee st w aside thought fresh mu th mp mf mh r ou od) := by
  refine CT.of (by decide) (Nat.le_of_ble_eq_true rfl) ?_
  intro z X hQ
  show VW k z 0 0 (wAll k T R ly rc hn rp tp ee st w aside thought fresh mu th mp mf mh mg ou od) 0 [some (.ref (k.b + (189))), some (.int x1), some (.int x2)] []
  unfold f10_printMark at hf
  refine r_aload_n X (x := k.b + (189)) dX10_printMark_0 rfl ?_
  refine r_bipush X (v := 32) dX10_printMark_1 rfl ?_
  obtain ⟨u3, h3, hf⟩ := bdS hf
  refine r_callV0 X [.int 32] [] (K10_print h3) lkX10_431 clsX10 rfl _ o_model (by decide) (Nat.le_of_ble_eq_true rfl) rfl rfl (Nat.le_of_ble_eq_true rfl) rfl rfl (Nat.zero_le _) (Nat.zero_le _) dX10_printMark_3 ?_
  refine r_aload_n X (x := k.b + (189)) dX10_printMark_6 rfl ?_
  refine r_iload_n X (x := x1) dX10_printMark_7 rfl ?_
  obtain ⟨u8, h8, hf⟩ := bdS hf
  refine r_callV0 X [.int x1] [] (K10_print h8) lkX10_431 clsX10 rfl _ o_model (by decide) (Nat.le_of_ble_eq_true rfl) rfl rfl (Nat.le_of_ble_eq_true rfl) rfl rfl (Nat.zero_le _) (Nat.zero_le _) dX10_printMark_8 ?_
  refine r_aload_n X (x := k.b + (189)) dX10_printMark_11 rfl ?_
  refine r_iload_n X (x := x2) dX10_printMark_12 rfl ?_
  refine r_i2l X dX10_printMark_13 ?_
  obtain ⟨u14, h14, hf⟩ := bdS hf
  refine r_callV0 X [.long x2.toInt64] [] (K10_printNumber 24 h14) lkX10_427 clsX10 rfl _ o_model (by decide) (Nat.le_of_ble_eq_true rfl) rfl rfl (Nat.le_of_ble_eq_true rfl) rfl rfl (Nat.zero_le _) (Nat.zero_le _) dX10_printMark_14 ?_
  obtain rfl := Option.some.inj hf
  exact r_return X hQ rfl rfl (Nat.le_of_ble_eq_true rfl) (Nat.le_of_ble_eq_true rfl) dX10_printMark_17
set_option maxRecDepth 100000 in
set_option maxHeartbeats 4000000 in
theorem B10_printChamber_B97 {k : KT} {z : ZT} {T : TT} {R : RR} {ly : Fin 2 → LL} {rc : RC} {hn : HN} {rp : RP} {tp : TP} {ee : EE} {st : Fin 12 → SS} {w : Nat → Int64} {aside : Nat → Int64} {thought : Nat → Int64} {fresh : Nat → Int64} {mu : MU} {th : Int32} {mp : MP} {mf : MF} {mh : MH} {ou : Nat → Int64} {od : Nat → UInt64} {r : (MG)} (X : XX k strs z RX10 cX10_printChamber 4 none (rmD 27 0 0)) (hQ : zQ z = MQ (zB z) (Qof k (none) (wAll k T R ly rc hn rp tp ee st w aside thought fresh mu th mp mf mh r ou od)) (zA z) (zS z) 0 0 (kA k)) : ∀ (fu : Nat) (mg : MG) (x1 : Int32) (x3 : Int32), f10_printChamber_B97 w fu mg x1 x3 = some r → VW k z 0 0 (wAll k T R ly rc hn rp tp ee st w aside thought fresh mu th mp mf mh mg ou od) 97 [some (.ref (k.b + (189))), some (.int x1), none, some (.int x3)] [] := by
  intro fu
  induction fu with
  | zero =>
    intro mg x1 x3 hf
    rw [f10_printChamber_B97] at hf
    cases hf
  | succ fu ih =>
    intro mg x1 x3 hf
    rw [f10_printChamber_B97] at hf
    refine r_iload_n X (x := x3) dX10_printChamber_97 rfl ?_
    refine r_aload_n X (x := k.b + (189)) dX10_printChamber_98 rfl ?_
    refine r_iconst X (v := 1) dX10_printChamber_99 rfl ?_
    obtain ⟨u100, h100, hf⟩ := bdS hf
    refine r_callV0 X [.int 1] [.int x3] (K10_many h100) lkX10_93 clsX10 rfl _ o_model (by decide) (Nat.le_of_ble_eq_true rfl) rfl rfl (Nat.le_of_ble_eq_true rfl) rfl rfl (Nat.zero_le _) (Nat.zero_le _) dX10_printChamber_100 ?_
    refine r_icmp_ge X 137 dX10_printChamber_103 rfl (fun c103 => ?_) (fun c103 => ?_)
    · replace hf := ifT hf c103
      refine r_aload_n X (x := k.b + (189)) dX10_printChamber_137 rfl ?_
      refine r_bipush X (v := 10) dX10_printChamber_138 rfl ?_
      obtain ⟨u140, h140, hf⟩ := bdS hf
      refine r_callV0 X [.int 10] [] (K10_print h140) lkX10_431 clsX10 rfl _ o_model (by decide) (Nat.le_of_ble_eq_true rfl) rfl rfl (Nat.le_of_ble_eq_true rfl) rfl rfl (Nat.zero_le _) (Nat.zero_le _) dX10_printChamber_140 ?_
      obtain rfl := Option.some.inj hf
      exact r_return X hQ rfl rfl (Nat.le_of_ble_eq_true rfl) (Nat.le_of_ble_eq_true rfl) dX10_printChamber_143
    · replace hf := ifF hf c103
      refine r_aload_n X (x := k.b + (189)) dX10_printChamber_106 rfl ?_
      refine r_iload_n X (x := x3) dX10_printChamber_107 rfl ?_
      obtain ⟨u108, h108, hf⟩ := bdS hf
      refine r_callV0 X [.int x3] [] (K10_isRunning h108) lkX10_135 clsX10 rfl _ o_model (by decide) (Nat.le_of_ble_eq_true rfl) rfl rfl (Nat.le_of_ble_eq_true rfl) rfl rfl (Nat.zero_le _) (Nat.zero_le _) dX10_printChamber_108 ?_
      refine r_if_eq X 131 dX10_printChamber_111 rfl (fun c111 => ?_) (fun c111 => ?_)
      · replace hf := ifT hf c111
        refine r_iinc X (x := x3) (v := x3 + 1) [some (.ref (k.b + (189))), some (.int x1), none, some (.int (x3 + 1))] dX10_printChamber_131 rfl rfl rfl ?_
        refine r_goto X 97 dX10_printChamber_134 rfl ?_
        exact ih mg x1 (x3 + 1) hf
      · replace hf := ifF hf c111
        refine r_aload_n X (x := k.b + (189)) dX10_printChamber_114 rfl ?_
        refine r_iload_n X (x := x3) dX10_printChamber_115 rfl ?_
        refine r_iconst X (v := 0) dX10_printChamber_116 rfl ?_
        obtain ⟨u117, h117, hf⟩ := bdS hf
        refine r_callV0 X [.int x3, .int 0] [] (K10_ofPump h117) lkX10_87 clsX10 rfl _ o_model (by decide) (Nat.le_of_ble_eq_true rfl) rfl rfl (Nat.le_of_ble_eq_true rfl) rfl rfl (Nat.zero_le _) (Nat.zero_le _) dX10_printChamber_117 ?_
        refine r_iload_n X (x := x1) dX10_printChamber_120 rfl ?_
        refine r_icmp_ne X 131 dX10_printChamber_121 rfl (fun c121 => ?_) (fun c121 => ?_)
        · replace hf := ifF hf c121
          refine r_iinc X (x := x3) (v := x3 + 1) [some (.ref (k.b + (189))), some (.int x1), none, some (.int (x3 + 1))] dX10_printChamber_131 rfl rfl rfl ?_
          refine r_goto X 97 dX10_printChamber_134 rfl ?_
          exact ih mg x1 (x3 + 1) hf
        · replace hf := ifT hf c121
          refine r_aload_n X (x := k.b + (189)) dX10_printChamber_124 rfl ?_
          refine r_bipush X (v := 112) dX10_printChamber_125 rfl ?_
          refine r_iload_n X (x := x3) dX10_printChamber_127 rfl ?_
          obtain ⟨u128, h128, hf⟩ := bdS hf
          refine r_callV0 X [.int 112, .int x3] [] (K10_printMark h128) lkX10_436 clsX10 rfl _ o_model (by decide) (Nat.le_of_ble_eq_true rfl) rfl rfl (Nat.le_of_ble_eq_true rfl) rfl rfl (Nat.zero_le _) (Nat.zero_le _) dX10_printChamber_128 ?_
          refine r_iinc X (x := x3) (v := x3 + 1) [some (.ref (k.b + (189))), some (.int x1), none, some (.int (x3 + 1))] dX10_printChamber_131 rfl rfl rfl ?_
          refine r_goto X 97 dX10_printChamber_134 rfl ?_
          exact ih u128 x1 (x3 + 1) hf
set_option maxRecDepth 100000 in
set_option maxHeartbeats 4000000 in
theorem B10_printChamber_B52 {k : KT} {z : ZT} {T : TT} {R : RR} {ly : Fin 2 → LL} {rc : RC} {hn : HN} {rp : RP} {tp : TP} {ee : EE} {st : Fin 12 → SS} {w : Nat → Int64} {aside : Nat → Int64} {thought : Nat → Int64} {fresh : Nat → Int64} {mu : MU} {th : Int32} {mp : MP} {mf : MF} {mh : MH} {ou : Nat → Int64} {od : Nat → UInt64} {r : (MG)} (X : XX k strs z RX10 cX10_printChamber 4 none (rmD 27 0 0)) (hQ : zQ z = MQ (zB z) (Qof k (none) (wAll k T R ly rc hn rp tp ee st w aside thought fresh mu th mp mf mh r ou od)) (zA z) (zS z) 0 0 (kA k)) : ∀ (fu : Nat) (mg : MG) (x1 : Int32) (x3 : Int32), f10_printChamber_B52 w fu mg x1 x3 = some r → VW k z 0 0 (wAll k T R ly rc hn rp tp ee st w aside thought fresh mu th mp mf mh mg ou od) 52 [some (.ref (k.b + (189))), some (.int x1), none, some (.int x3)] [] := by
  intro fu
  induction fu with
  | zero =>
    intro mg x1 x3 hf
    rw [f10_printChamber_B52] at hf
    cases hf
  | succ fu ih =>
    intro mg x1 x3 hf
    rw [f10_printChamber_B52] at hf
    refine r_iload_n X (x := x3) dX10_printChamber_52 rfl ?_
    refine r_aload_n X (x := k.b + (189)) dX10_printChamber_53 rfl ?_
    refine r_iconst X (v := 2) dX10_printChamber_54 rfl ?_
    obtain ⟨u55, h55, hf⟩ := bdS hf
    refine r_callV0 X [.int 2] [.int x3] (K10_many h55) lkX10_93 clsX10 rfl _ o_model (by decide) (Nat.le_of_ble_eq_true rfl) rfl rfl (Nat.le_of_ble_eq_true rfl) rfl rfl (Nat.zero_le _) (Nat.zero_le _) dX10_printChamber_55 ?_
    refine r_icmp_ge X 95 dX10_printChamber_58 rfl (fun c58 => ?_) (fun c58 => ?_)
    · replace hf := ifT hf c58
      refine r_iconst X (v := 0) dX10_printChamber_95 rfl ?_
      refine r_istore_n X [some (.ref (k.b + (189))), some (.int x1), none, some (.int 0)] dX10_printChamber_96 (Nat.le_of_ble_eq_true rfl) rfl ?_
      exact B10_printChamber_B97 X hQ FU mg x1 0 hf
    · replace hf := ifF hf c58
      refine r_aload_n X (x := k.b + (189)) dX10_printChamber_61 rfl ?_
      refine r_iload_n X (x := x3) dX10_printChamber_62 rfl ?_
      obtain ⟨u63, h63, hf⟩ := bdS hf
      refine r_callV0 X [.int x3] [] (K10_isOpen h63) lkX10_99 clsX10 rfl _ o_model (by decide) (Nat.le_of_ble_eq_true rfl) rfl rfl (Nat.le_of_ble_eq_true rfl) rfl rfl (Nat.zero_le _) (Nat.zero_le _) dX10_printChamber_63 ?_
      refine r_if_eq X 89 dX10_printChamber_66 rfl (fun c66 => ?_) (fun c66 => ?_)
      · replace hf := ifT hf c66
        refine r_iinc X (x := x3) (v := x3 + 1) [some (.ref (k.b + (189))), some (.int x1), none, some (.int (x3 + 1))] dX10_printChamber_89 rfl rfl rfl ?_
        refine r_goto X 52 dX10_printChamber_92 rfl ?_
        exact ih mg x1 (x3 + 1) hf
      · replace hf := ifF hf c66
        refine r_aload_n X (x := k.b + (189)) dX10_printChamber_69 rfl ?_
        refine r_iload_n X (x := x1) dX10_printChamber_70 rfl ?_
        obtain ⟨u71, h71, hf⟩ := bdS hf
        refine r_callV0 X [.int x1] [] (K10_valvesOf h71) lkX10_364 clsX10 rfl _ o_model (by decide) (Nat.le_of_ble_eq_true rfl) rfl rfl (Nat.le_of_ble_eq_true rfl) rfl rfl (Nat.zero_le _) (Nat.zero_le _) dX10_printChamber_71 ?_
        refine r_iload_n X (x := x3) dX10_printChamber_74 rfl ?_
        refine r_ishr X dX10_printChamber_75 ?_
        refine r_iconst X (v := 1) dX10_printChamber_76 rfl ?_
        refine r_iand X dX10_printChamber_77 ?_
        refine r_iconst X (v := 1) dX10_printChamber_78 rfl ?_
        refine r_icmp_ne X 89 dX10_printChamber_79 rfl (fun c79 => ?_) (fun c79 => ?_)
        · replace hf := ifF hf c79
          refine r_iinc X (x := x3) (v := x3 + 1) [some (.ref (k.b + (189))), some (.int x1), none, some (.int (x3 + 1))] dX10_printChamber_89 rfl rfl rfl ?_
          refine r_goto X 52 dX10_printChamber_92 rfl ?_
          exact ih mg x1 (x3 + 1) hf
        · replace hf := ifT hf c79
          refine r_aload_n X (x := k.b + (189)) dX10_printChamber_82 rfl ?_
          refine r_bipush X (v := 118) dX10_printChamber_83 rfl ?_
          refine r_iload_n X (x := x3) dX10_printChamber_85 rfl ?_
          obtain ⟨u86, h86, hf⟩ := bdS hf
          refine r_callV0 X [.int 118, .int x3] [] (K10_printMark h86) lkX10_436 clsX10 rfl _ o_model (by decide) (Nat.le_of_ble_eq_true rfl) rfl rfl (Nat.le_of_ble_eq_true rfl) rfl rfl (Nat.zero_le _) (Nat.zero_le _) dX10_printChamber_86 ?_
          refine r_iinc X (x := x3) (v := x3 + 1) [some (.ref (k.b + (189))), some (.int x1), none, some (.int (x3 + 1))] dX10_printChamber_89 rfl rfl rfl ?_
          refine r_goto X 52 dX10_printChamber_92 rfl ?_
          exact ih u86 x1 (x3 + 1) hf
set_option maxRecDepth 100000 in
set_option maxHeartbeats 4000000 in
theorem B10_printChamber_B6 {k : KT} {z : ZT} {T : TT} {R : RR} {ly : Fin 2 → LL} {rc : RC} {hn : HN} {rp : RP} {tp : TP} {ee : EE} {st : Fin 12 → SS} {w : Nat → Int64} {aside : Nat → Int64} {thought : Nat → Int64} {fresh : Nat → Int64} {mu : MU} {th : Int32} {mp : MP} {mf : MF} {mh : MH} {ou : Nat → Int64} {od : Nat → UInt64} {r : (MG)} (X : XX k strs z RX10 cX10_printChamber 4 none (rmD 27 0 0)) (hQ : zQ z = MQ (zB z) (Qof k (none) (wAll k T R ly rc hn rp tp ee st w aside thought fresh mu th mp mf mh r ou od)) (zA z) (zS z) 0 0 (kA k)) : ∀ (fu : Nat) (mg : MG) (x1 : Int32) (x3 : Int32), f10_printChamber_B6 w fu mg x1 x3 = some r → VW k z 0 0 (wAll k T R ly rc hn rp tp ee st w aside thought fresh mu th mp mf mh mg ou od) 6 [some (.ref (k.b + (189))), some (.int x1), some (.ref (k.sK 32)), some (.int x3)] [] := by
  intro fu
  induction fu with
  | zero =>
    intro mg x1 x3 hf
    rw [f10_printChamber_B6] at hf
    cases hf
  | succ fu ih =>
    intro mg x1 x3 hf
    rw [f10_printChamber_B6] at hf
    refine r_iload_n X (x := x3) dX10_printChamber_6 rfl ?_
    refine r_aload_n X (x := k.sK 32) dX10_printChamber_7 rfl ?_
    refine r_strlen X (i := 32) (by decide) lkX10_258 (Nat.le_of_ble_eq_true rfl) (Nat.le_of_ble_eq_true rfl) rfl (Nat.zero_le _) (Nat.zero_le _) dX10_printChamber_8 ?_
    refine r_icmp_ge X 29 dX10_printChamber_11 rfl (fun c11 => ?_) (fun c11 => ?_)
    · replace hf := ifT hf c11
      refine r_aload_n X (x := k.b + (189)) dX10_printChamber_29 rfl ?_
      refine r_iload_n X (x := x1) dX10_printChamber_30 rfl ?_
      refine r_i2l X dX10_printChamber_31 ?_
      obtain ⟨u32, h32, hf⟩ := bdS hf
      refine r_callV0 X [.long x1.toInt64] [] (K10_printNumber 24 h32) lkX10_427 clsX10 rfl _ o_model (by decide) (Nat.le_of_ble_eq_true rfl) rfl rfl (Nat.le_of_ble_eq_true rfl) rfl rfl (Nat.zero_le _) (Nat.zero_le _) dX10_printChamber_32 ?_
      refine r_aload_n X (x := k.b + (189)) dX10_printChamber_35 rfl ?_
      refine r_bipush X (v := 32) dX10_printChamber_36 rfl ?_
      obtain ⟨u38, h38, hf⟩ := bdS hf
      refine r_callV0 X [.int 32] [] (K10_print h38) lkX10_431 clsX10 rfl _ o_model (by decide) (Nat.le_of_ble_eq_true rfl) rfl rfl (Nat.le_of_ble_eq_true rfl) rfl rfl (Nat.zero_le _) (Nat.zero_le _) dX10_printChamber_38 ?_
      refine r_aload_n X (x := k.b + (189)) dX10_printChamber_41 rfl ?_
      refine r_aload_n X (x := k.b + (189)) dX10_printChamber_42 rfl ?_
      refine r_iload_n X (x := x1) dX10_printChamber_43 rfl ?_
      obtain ⟨u44, h44, hf⟩ := bdS hf
      refine r_callV0 X [.int x1] [.ref (k.b + (189))] (K10_pressure h44) lkX10_78 clsX10 rfl _ o_model (by decide) (Nat.le_of_ble_eq_true rfl) rfl rfl (Nat.le_of_ble_eq_true rfl) rfl rfl (Nat.zero_le _) (Nat.zero_le _) dX10_printChamber_44 ?_
      obtain ⟨u47, h47, hf⟩ := bdS hf
      refine r_callV0 X [.long u44] [] (K10_printNumber 24 h47) lkX10_427 clsX10 rfl _ o_model (by decide) (Nat.le_of_ble_eq_true rfl) rfl rfl (Nat.le_of_ble_eq_true rfl) rfl rfl (Nat.zero_le _) (Nat.zero_le _) dX10_printChamber_47 ?_
      refine r_iconst X (v := 0) dX10_printChamber_50 rfl ?_
      refine r_istore_n X [some (.ref (k.b + (189))), some (.int x1), some (.ref (k.sK 32)), some (.int 0)] dX10_printChamber_51 (Nat.le_of_ble_eq_true rfl) rfl ?_
      refine VW.msk [true, true, false, true] rfl (lo' := [some (.ref (k.b + (189))), some (.int x1), none, some (.int 0)]) rfl ?_
      exact B10_printChamber_B52 X hQ FU u47 x1 0 hf
    · replace hf := ifF hf c11
      refine r_aload_n X (x := k.b + (189)) dX10_printChamber_14 rfl ?_
      refine r_aload_n X (x := k.sK 32) dX10_printChamber_15 rfl ?_
      refine r_iload_n X (x := x3) dX10_printChamber_16 rfl ?_
      obtain ⟨g17c, hf⟩ := gdS hf
      refine r_strch X (i := 32) (by decide) lkX10_262 g17c (Nat.le_of_ble_eq_true rfl) (Nat.le_of_ble_eq_true rfl) rfl (Nat.zero_le _) (Nat.zero_le _) dX10_printChamber_17 ?_
      obtain ⟨u20, h20, hf⟩ := bdS hf
      refine r_callV0 X [.int (sCh 32 (ix x3))] [] (K10_print h20) lkX10_431 clsX10 rfl _ o_model (by decide) (Nat.le_of_ble_eq_true rfl) rfl rfl (Nat.le_of_ble_eq_true rfl) rfl rfl (Nat.zero_le _) (Nat.zero_le _) dX10_printChamber_20 ?_
      refine r_iinc X (x := x3) (v := x3 + 1) [some (.ref (k.b + (189))), some (.int x1), some (.ref (k.sK 32)), some (.int (x3 + 1))] dX10_printChamber_23 rfl rfl rfl ?_
      refine r_goto X 6 dX10_printChamber_26 rfl ?_
      exact ih u20 x1 (x3 + 1) hf
set_option maxRecDepth 100000 in
set_option maxHeartbeats 4000000 in
theorem K10_printChamber {k : KT} {T : TT} {R : RR} {ly : Fin 2 → LL} {rc : RC} {hn : HN} {rp : RP} {tp : TP} {ee : EE} {st : Fin 12 → SS} {w : Nat → Int64} {aside : Nat → Int64} {thought : Nat → Int64} {fresh : Nat → Int64} {mu : MU} {th : Int32} {mp : MP} {mf : MF} {mh : MH} {mg : MG} {ou : Nat → Int64} {od : Nat → UInt64}  {x1 : Int32} {r : (MG)} (hf : f10_printChamber w mg x1 = some r) : CT k strs yX10_printChamber cX10_printChamber 4 none (rmD 27 0 0) 0 0 [.ref (k.b + (189)), .int x1] (wAll k T R ly rc hn rp tp ee st w aside thought fresh mu th mp mf mh mg ou od) (none) (wAll k T R ly rc hn rp tp ee st w aside thought fresh mu th mp mf mh r ou od) := by
  refine CT.of (by decide) (Nat.le_of_ble_eq_true rfl) ?_
  intro z X hQ
  show VW k z 0 0 (wAll k T R ly rc hn rp tp ee st w aside thought fresh mu th mp mf mh mg ou od) 0 [some (.ref (k.b + (189))), some (.int x1), none, none] []
  unfold f10_printChamber at hf
  refine r_ldcwS X 32 rfl dX10_printChamber_0 ?_
  refine r_astore_n X [some (.ref (k.b + (189))), some (.int x1), some (.ref (k.sK 32)), none] dX10_printChamber_3 (Nat.le_of_ble_eq_true rfl) rfl ?_
  refine r_iconst X (v := 0) dX10_printChamber_4 rfl ?_
  refine r_istore_n X [some (.ref (k.b + (189))), some (.int x1), some (.ref (k.sK 32)), some (.int 0)] dX10_printChamber_5 (Nat.le_of_ble_eq_true rfl) rfl ?_
  exact B10_printChamber_B6 X hQ FU mg x1 0 hf
