/-! the methods do it -/
set_option maxRecDepth 100000 in
set_option maxHeartbeats 4000000 in
theorem B3_run_B73 {k : KT} {z : ZT} {T : TT} {ly : Fin 2 → LL} {hn : HN} {rp : RP} {tp : TP} {ee : EE} {st : Fin 12 → SS} {w : Nat → Int64} {aside : Nat → Int64} {thought : Nat → Int64} {fresh : Nat → Int64} {mu : MU} {th : Int32} {mp : MP} {mf : MF} {mh : MH} {mg : MG} {ou : Nat → Int64} {od : Nat → UInt64} {j : Fin 12} {r : Int32 × (RR) × (RC) × (SS)} (X : XX k strs z RX3 cX3_run 6 (some .int) (rmD 12 0 0)) (hQ : zQ z = MQ (zB z) (Qof k (some (.int r.1)) (wAll k T r.2.1 ly r.2.2.1 hn rp tp ee (updF st j r.2.2.2) w aside thought fresh mu th mp mf mh mg ou od)) (zA z) (zS z) 0 0 (kA k)) (rec : RR → RC → SS → Int32 → Int32 → Option (Int32 × (RR) × (RC) × (SS))) (hrec : ∀ (R : RR) (rc : RC) (S : SS) (x2 : Int32) (x3 : Int32), rec R rc S x2 x3 = some r → VW k z 0 0 (wAll k T R ly rc hn rp tp ee (updF st j S) w aside thought fresh mu th mp mf mh mg ou od) 11 [some (.ref (k.b + (37))), some (.ref (k.b + (45 + 12 * j.val))), some (.int x2), some (.int x3), none, none] []) (R : RR) (rc : RC) (S : SS) (x2 : Int32) (x3 : Int32) (hf : f3_run_B73 T (ly (0 : Fin 2)) rec R rc S x2 x3 = some r) : VW k z 0 0 (wAll k T R ly rc hn rp tp ee (updF st j S) w aside thought fresh mu th mp mf mh mg ou od) 73 [some (.ref (k.b + (37))), some (.ref (k.b + (45 + 12 * j.val))), some (.int x2), some (.int x3), none, none] [] := by
  unfold f3_run_B73 at hf
  refine r_aload_n X (x := k.b + (37)) dX3_run_73 rfl ?_
  refine r_getfield X (v := .ref (k.b + (3))) clsX3 flX3_18 (Nat.le_of_ble_eq_true rfl) _ o_recipe rfl dX3_run_74 ?_
  refine r_getfield X (v := .int (RR_errorCode R)) clsX2 flX3_41 (Nat.le_of_ble_eq_true rfl) _ o_reader rfl dX3_run_77 ?_
  refine r_if_eq X 93 dX3_run_80 rfl (fun c80 => ?_) (fun c80 => ?_)
  · replace hf := ifT hf c80
    refine r_iinc X (x := x2) (v := x2 + 1) [some (.ref (k.b + (37))), some (.ref (k.b + (45 + 12 * j.val))), some (.int (x2 + 1)), some (.int x3), none, none] dX3_run_93 rfl rfl rfl ?_
    refine r_iinc X (x := x3) (v := x3 + 1) [some (.ref (k.b + (37))), some (.ref (k.b + (45 + 12 * j.val))), some (.int (x2 + 1)), some (.int (x3 + 1)), none, none] dX3_run_96 rfl rfl rfl ?_
    refine r_goto X 11 dX3_run_99 rfl ?_
    exact hrec R rc S (x2 + 1) (x3 + 1) hf
  · replace hf := ifF hf c80
    refine r_iconst X (v := (-1)) dX3_run_83 rfl ?_
    refine r_aload_n X (x := k.b + (37)) dX3_run_84 rfl ?_
    refine r_getfield X (v := .ref (k.b + (3))) clsX3 flX3_18 (Nat.le_of_ble_eq_true rfl) _ o_recipe rfl dX3_run_85 ?_
    refine r_getfield X (v := .int (RR_errorPosition R)) clsX2 flX3_52 (Nat.le_of_ble_eq_true rfl) _ o_reader rfl dX3_run_88 ?_
    refine r_isub X dX3_run_91 ?_
    obtain rfl := Option.some.inj hf
    exact r_ireturn X hQ rfl rfl (Nat.le_of_ble_eq_true rfl) (Nat.le_of_ble_eq_true rfl) dX3_run_92
set_option maxRecDepth 100000 in
set_option maxHeartbeats 4000000 in
theorem B3_run_B11 {k : KT} {z : ZT} {T : TT} {ly : Fin 2 → LL} {hn : HN} {rp : RP} {tp : TP} {ee : EE} {st : Fin 12 → SS} {w : Nat → Int64} {aside : Nat → Int64} {thought : Nat → Int64} {fresh : Nat → Int64} {mu : MU} {th : Int32} {mp : MP} {mf : MF} {mh : MH} {mg : MG} {ou : Nat → Int64} {od : Nat → UInt64} {j : Fin 12} {r : Int32 × (RR) × (RC) × (SS)} (X : XX k strs z RX3 cX3_run 6 (some .int) (rmD 12 0 0)) (hQ : zQ z = MQ (zB z) (Qof k (some (.int r.1)) (wAll k T r.2.1 ly r.2.2.1 hn rp tp ee (updF st j r.2.2.2) w aside thought fresh mu th mp mf mh mg ou od)) (zA z) (zS z) 0 0 (kA k)) : ∀ (fu : Nat) (R : RR) (rc : RC) (S : SS) (x2 : Int32) (x3 : Int32), f3_run_B11 T (ly (0 : Fin 2)) fu R rc S x2 x3 = some r → VW k z 0 0 (wAll k T R ly rc hn rp tp ee (updF st j S) w aside thought fresh mu th mp mf mh mg ou od) 11 [some (.ref (k.b + (37))), some (.ref (k.b + (45 + 12 * j.val))), some (.int x2), some (.int x3), none, none] [] := by
  intro fu
  induction fu with
  | zero =>
    intro R rc S x2 x3 hf
    rw [f3_run_B11] at hf
    cases hf
  | succ fu ih =>
    intro R rc S x2 x3 hf
    rw [f3_run_B11] at hf
    refine r_iload_n X (x := x3) dX3_run_11 rfl ?_
    refine r_sipush X (v := 900) dX3_run_12 rfl ?_
    refine r_icmp_ge X 102 dX3_run_15 rfl (fun c15 => ?_) (fun c15 => ?_)
    · replace hf := ifT hf c15
      refine r_iload_n X (x := x2) dX3_run_102 rfl ?_
      obtain rfl := Option.some.inj hf
      exact r_ireturn X hQ rfl rfl (Nat.le_of_ble_eq_true rfl) (Nat.le_of_ble_eq_true rfl) dX3_run_103
    · replace hf := ifF hf c15
      refine r_aload_n X (x := k.b + (37)) dX3_run_18 rfl ?_
      refine r_getfield X (v := .ref (k.b + (3))) clsX3 flX3_18 (Nat.le_of_ble_eq_true rfl) _ o_recipe rfl dX3_run_19 ?_
      refine r_getfield X (v := .int (RR_kind R)) clsX2 flX3_31 (Nat.le_of_ble_eq_true rfl) _ o_reader rfl dX3_run_22 ?_
      refine r_if_eq X 102 dX3_run_25 rfl (fun c25 => ?_) (fun c25 => ?_)
      · replace hf := ifT hf c25
        refine r_iload_n X (x := x2) dX3_run_102 rfl ?_
        obtain rfl := Option.some.inj hf
        exact r_ireturn X hQ rfl rfl (Nat.le_of_ble_eq_true rfl) (Nat.le_of_ble_eq_true rfl) dX3_run_103
      · replace hf := ifF hf c25
        refine r_aload_n X (x := k.b + (37)) dX3_run_28 rfl ?_
        refine r_getfield X (v := .ref (k.b + (3))) clsX3 flX3_18 (Nat.le_of_ble_eq_true rfl) _ o_recipe rfl dX3_run_29 ?_
        refine r_getfield X (v := .int (RR_start R)) clsX2 flX3_34 (Nat.le_of_ble_eq_true rfl) _ o_reader rfl dX3_run_32 ?_
        refine r_istore X [some (.ref (k.b + (37))), some (.ref (k.b + (45 + 12 * j.val))), some (.int x2), some (.int x3), some (.int (RR_start R)), none] dX3_run_35 (Nat.le_of_ble_eq_true rfl) rfl ?_
        refine r_aload_n X (x := k.b + (37)) dX3_run_37 rfl ?_
        obtain ⟨u38, h38, hf⟩ := bdS hf
        refine r_callV0 X [] [] (K3_readStep h38) lkX3_37 clsX3 rfl _ o_recipe (by decide) (Nat.le_of_ble_eq_true rfl) rfl rfl (Nat.le_of_ble_eq_true rfl) rfl rfl (Nat.zero_le _) (Nat.zero_le _) dX3_run_38 ?_
        refine r_istore X [some (.ref (k.b + (37))), some (.ref (k.b + (45 + 12 * j.val))), some (.int x2), some (.int x3), some (.int (RR_start R)), some (.int u38.1)] dX3_run_41 (Nat.le_of_ble_eq_true rfl) rfl ?_
        refine r_aload_n X (x := k.b + (37)) dX3_run_43 rfl ?_
        refine r_getfield X (v := .ref (k.b + (3))) clsX3 flX3_18 (Nat.le_of_ble_eq_true rfl) _ o_recipe rfl dX3_run_44 ?_
        refine r_getfield X (v := .int (RR_errorCode u38.2.1)) clsX2 flX3_41 (Nat.le_of_ble_eq_true rfl) _ o_reader rfl dX3_run_47 ?_
        refine r_if_ne X 73 dX3_run_50 rfl (fun c50 => ?_) (fun c50 => ?_)
        · replace hf := ifF hf c50
          refine VW.msk [true, true, true, true, false, false] rfl (lo' := [some (.ref (k.b + (37))), some (.ref (k.b + (45 + 12 * j.val))), some (.int x2), some (.int x3), none, none]) rfl ?_
          exact B3_run_B73 X hQ (f3_run_B11 T (ly (0 : Fin 2)) fu) ih u38.2.1 u38.2.2 S x2 x3 hf
        · replace hf := ifT hf c50
          refine r_aload_n X (x := k.b + (37)) dX3_run_53 rfl ?_
          refine r_aload_n X (x := k.b + (45 + 12 * j.val)) dX3_run_54 rfl ?_
          refine r_iload X (x := u38.1) dX3_run_55 rfl ?_
          obtain ⟨u57, h57, hf⟩ := bdS hf
          refine r_callV0 X [.ref (k.b + (45 + 12 * j.val)), .int u38.1] [] (K3_execute h57) lkX3_44 clsX3 rfl _ o_recipe (by decide) (Nat.le_of_ble_eq_true rfl) rfl rfl (Nat.le_of_ble_eq_true rfl) rfl rfl (Nat.zero_le _) (Nat.zero_le _) dX3_run_57 ?_
          refine r_if_ne X 73 dX3_run_60 rfl (fun c60 => ?_) (fun c60 => ?_)
          · replace hf := ifF hf c60
            refine VW.msk [true, true, true, true, false, false] rfl (lo' := [some (.ref (k.b + (37))), some (.ref (k.b + (45 + 12 * j.val))), some (.int x2), some (.int x3), none, none]) rfl ?_
            exact B3_run_B73 X hQ (f3_run_B11 T (ly (0 : Fin 2)) fu) ih u38.2.1 u38.2.2 u57.2 x2 x3 hf
          · replace hf := ifT hf c60
            refine r_aload_n X (x := k.b + (37)) dX3_run_63 rfl ?_
            refine r_getfield X (v := .ref (k.b + (3))) clsX3 flX3_18 (Nat.le_of_ble_eq_true rfl) _ o_recipe rfl dX3_run_64 ?_
            refine r_iconst X (v := 1) dX3_run_67 rfl ?_
            refine r_iload X (x := RR_start R) dX3_run_68 rfl ?_
            obtain ⟨u70, h70, hf⟩ := bdS hf
            refine r_callV0 X [.int 1, .int (RR_start R)] [] (K2_fail h70) lkX3_48 clsX2 rfl _ o_reader (by decide) (Nat.le_of_ble_eq_true rfl) rfl rfl (Nat.le_of_ble_eq_true rfl) rfl rfl (Nat.zero_le _) (Nat.zero_le _) dX3_run_70 ?_
            refine VW.msk [true, true, true, true, false, false] rfl (lo' := [some (.ref (k.b + (37))), some (.ref (k.b + (45 + 12 * j.val))), some (.int x2), some (.int x3), none, none]) rfl ?_
            exact B3_run_B73 X hQ (f3_run_B11 T (ly (0 : Fin 2)) fu) ih u70 u38.2.2 u57.2 x2 x3 hf
set_option maxRecDepth 100000 in
set_option maxHeartbeats 4000000 in
theorem K3_run {k : KT} {T : TT} {R : RR} {ly : Fin 2 → LL} {rc : RC} {hn : HN} {rp : RP} {tp : TP} {ee : EE} {st : Fin 12 → SS} {w : Nat → Int64} {aside : Nat → Int64} {thought : Nat → Int64} {fresh : Nat → Int64} {mu : MU} {th : Int32} {mp : MP} {mf : MF} {mh : MH} {mg : MG} {ou : Nat → Int64} {od : Nat → UInt64} {j : Fin 12} {S : SS}  {r : Int32 × (RR) × (RC) × (SS)} (hf : f3_run T (ly (0 : Fin 2)) R rc S  = some r) : CT k strs yX3_run cX3_run 6 (some .int) (rmD 12 0 0) 0 0 [.ref (k.b + (37)), .ref (k.b + (45 + 12 * j.val))] (wAll k T R ly rc hn rp tp ee (updF st j S) w aside thought fresh mu th mp mf mh mg ou od) (some (.int r.1)) (wAll k T r.2.1 ly r.2.2.1 hn rp tp ee (updF st j r.2.2.2) w aside thought fresh mu th mp mf mh mg ou od) := by
  refine CT.of (by decide) (Nat.le_of_ble_eq_true rfl) ?_
  intro z X hQ
  show VW k z 0 0 (wAll k T R ly rc hn rp tp ee (updF st j S) w aside thought fresh mu th mp mf mh mg ou od) 0 [some (.ref (k.b + (37))), some (.ref (k.b + (45 + 12 * j.val))), none, none, none, none] []
  unfold f3_run at hf
  refine r_iconst X (v := 0) dX3_run_0 rfl ?_
  refine r_istore_n X [some (.ref (k.b + (37))), some (.ref (k.b + (45 + 12 * j.val))), some (.int 0), none, none, none] dX3_run_1 (Nat.le_of_ble_eq_true rfl) rfl ?_
  refine r_aload_n X (x := k.b + (37)) dX3_run_2 rfl ?_
  refine r_getfield X (v := .ref (k.b + (3))) clsX3 flX3_18 (Nat.le_of_ble_eq_true rfl) _ o_recipe rfl dX3_run_3 ?_
  obtain ⟨u6, h6, hf⟩ := bdS hf
  refine r_callV0 X [] [] (K2_begin h6) lkX3_26 clsX2 rfl _ o_reader (by decide) (Nat.le_of_ble_eq_true rfl) rfl rfl (Nat.le_of_ble_eq_true rfl) rfl rfl (Nat.zero_le _) (Nat.zero_le _) dX3_run_6 ?_
  refine r_iconst X (v := 0) dX3_run_9 rfl ?_
  refine r_istore_n X [some (.ref (k.b + (37))), some (.ref (k.b + (45 + 12 * j.val))), some (.int 0), some (.int 0), none, none] dX3_run_10 (Nat.le_of_ble_eq_true rfl) rfl ?_
  exact B3_run_B11 X hQ FU u6 rc S 0 0 hf
set_option maxRecDepth 100000 in
set_option maxHeartbeats 4000000 in
theorem K4_addByte {k : KT} {T : TT} {R : RR} {ly : Fin 2 → LL} {rc : RC} {hn : HN} {rp : RP} {tp : TP} {ee : EE} {st : Fin 12 → SS} {w : Nat → Int64} {aside : Nat → Int64} {thought : Nat → Int64} {fresh : Nat → Int64} {mu : MU} {th : Int32} {mp : MP} {mf : MF} {mh : MH} {mg : MG} {ou : Nat → Int64} {od : Nat → UInt64}  {x1 : Int32} {r : (RP)} (hf : f4_addByte  rp x1 = some r) : CT k strs yX4_addByte cX4_addByte 2 none (rmD 0 0 0) 0 0 [.ref (k.b + (42)), .int x1] (wAll k T R ly rc hn rp tp ee st w aside thought fresh mu th mp mf mh mg ou od) (none) (wAll k T R ly rc hn r tp ee st w aside thought fresh mu th mp mf mh mg ou od) := by
  refine CT.of (by decide) (Nat.le_of_ble_eq_true rfl) ?_
  intro z X hQ
  show VW k z 0 0 (wAll k T R ly rc hn rp tp ee st w aside thought fresh mu th mp mf mh mg ou od) 0 [some (.ref (k.b + (42))), some (.int x1)] []
  unfold f4_addByte at hf
  refine r_aload_n X (x := k.b + (42)) dX4_addByte_0 rfl ?_
  refine r_getfield X (v := .int (RP_length rp)) clsX4 flX4_13 (Nat.le_of_ble_eq_true rfl) _ o_report rfl dX4_addByte_1 ?_
  refine r_sipush X (v := 246) dX4_addByte_4 rfl ?_
  refine r_icmp_ge X 31 dX4_addByte_7 rfl (fun c7 => ?_) (fun c7 => ?_)
  · replace hf := ifT hf c7
    obtain rfl := Option.some.inj hf
    exact r_return X hQ rfl rfl (Nat.le_of_ble_eq_true rfl) (Nat.le_of_ble_eq_true rfl) dX4_addByte_31
  · replace hf := ifF hf c7
    refine r_aload_n X (x := k.b + (42)) dX4_addByte_10 rfl ?_
    refine r_getfield X (v := .ref (k.b + (43))) clsX4 flX4_9 (Nat.le_of_ble_eq_true rfl) _ o_report rfl dX4_addByte_11 ?_
    refine r_aload_n X (x := k.b + (42)) dX4_addByte_14 rfl ?_
    refine r_getfield X (v := .int (RP_length rp)) clsX4 flX4_13 (Nat.le_of_ble_eq_true rfl) _ o_report rfl dX4_addByte_15 ?_
    refine r_iload_n X (x := x1) dX4_addByte_18 rfl ?_
    refine r_i2b X dX4_addByte_19 ?_
    obtain ⟨g20, hf⟩ := gdS hf
    refine r_bastore X (f := RP_bytes rp) (ws1 := wAll k T R ly rc hn (RP_set_bytes rp (upd (RP_bytes rp) (ix (RP_length rp)) (vp_nar .byte x1.toInt8.toInt32))) tp ee st w aside thought fresh mu th mp mf mh mg ou od) _ a_rp_bytes g20 (s_rp_bytes (upd (RP_bytes rp) (ix (RP_length rp)) (vp_nar .byte x1.toInt8.toInt32))) dX4_addByte_20 ?_
    refine r_aload_n X (x := k.b + (42)) dX4_addByte_21 rfl ?_
    refine r_dup X dX4_addByte_22 rfl ?_
    refine r_getfield X (v := .int (RP_length rp)) clsX4 flX4_13 (Nat.le_of_ble_eq_true rfl) _ o_report (hvI rfl (RP_length_set_bytes _ _)) dX4_addByte_23 ?_
    refine r_iconst X (v := 1) dX4_addByte_26 rfl ?_
    refine r_iadd X dX4_addByte_27 ?_
    refine r_putfield X (ws1 := wAll k T R ly rc hn (RP_set_length (RP_set_bytes rp (upd (RP_bytes rp) (ix (RP_length rp)) (vp_nar .byte x1.toInt8.toInt32))) ((RP_length rp) + 1)) tp ee st w aside thought fresh mu th mp mf mh mg ou od) clsX4 flX4_13 (Nat.le_of_ble_eq_true rfl) rfl rfl rfl _ o_report (Nat.le_of_ble_eq_true rfl) (s_rp_length ((RP_length rp) + 1)) dX4_addByte_28 ?_
    obtain rfl := Option.some.inj hf
    exact r_return X hQ rfl rfl (Nat.le_of_ble_eq_true rfl) (Nat.le_of_ble_eq_true rfl) dX4_addByte_31
set_option maxRecDepth 100000 in
set_option maxHeartbeats 4000000 in
theorem B4_addText_B2 {k : KT} {z : ZT} {T : TT} {R : RR} {ly : Fin 2 → LL} {rc : RC} {hn : HN} {tp : TP} {ee : EE} {st : Fin 12 → SS} {w : Nat → Int64} {aside : Nat → Int64} {thought : Nat → Int64} {fresh : Nat → Int64} {mu : MU} {th : Int32} {mp : MP} {mf : MF} {mh : MH} {mg : MG} {ou : Nat → Int64} {od : Nat → UInt64} {r : (RP)} (X : XX k strs z RX4 cX4_addText 3 none (rmD 9 0 0)) (hQ : zQ z = MQ (zB z) (Qof k (none) (wAll k T R ly rc hn r tp ee st w aside thought fresh mu th mp mf mh mg ou od)) (zA z) (zS z) 0 0 (kA k)) : ∀ (fu : Nat) (rp : RP) (s1 : Nat) (x2 : Int32), f4_addText_B2  fu rp s1 x2 = some r → VW k z 0 0 (wAll k T R ly rc hn rp tp ee st w aside thought fresh mu th mp mf mh mg ou od) 2 [some (.ref (k.b + (42))), some (.ref (k.sK s1)), some (.int x2)] [] := by
  intro fu
  induction fu with
  | zero =>
    intro rp s1 x2 hf
    rw [f4_addText_B2] at hf
    cases hf
  | succ fu ih =>
    intro rp s1 x2 hf
    rw [f4_addText_B2] at hf
    refine r_iload_n X (x := x2) dX4_addText_2 rfl ?_
    refine r_aload_n X (x := k.sK s1) dX4_addText_3 rfl ?_
    obtain ⟨g4s, hf⟩ := gdS hf
    refine r_strlen X (i := s1) (of_decide_eq_true g4s) lkX4_17 (Nat.le_of_ble_eq_true rfl) (Nat.le_of_ble_eq_true rfl) rfl (Nat.zero_le _) (Nat.zero_le _) dX4_addText_4 ?_
    refine r_icmp_ge X 25 dX4_addText_7 rfl (fun c7 => ?_) (fun c7 => ?_)
    · replace hf := ifT hf c7
      obtain rfl := Option.some.inj hf
      exact r_return X hQ rfl rfl (Nat.le_of_ble_eq_true rfl) (Nat.le_of_ble_eq_true rfl) dX4_addText_25
    · replace hf := ifF hf c7
      refine r_aload_n X (x := k.b + (42)) dX4_addText_10 rfl ?_
      refine r_aload_n X (x := k.sK s1) dX4_addText_11 rfl ?_
      refine r_iload_n X (x := x2) dX4_addText_12 rfl ?_
      obtain ⟨g13c, hf⟩ := gdS hf
      refine r_strch X (i := s1) (of_decide_eq_true g4s) lkX4_22 g13c (Nat.le_of_ble_eq_true rfl) (Nat.le_of_ble_eq_true rfl) rfl (Nat.zero_le _) (Nat.zero_le _) dX4_addText_13 ?_
      obtain ⟨u16, h16, hf⟩ := bdS hf
      refine r_callV0 X [.int (sCh s1 (ix x2))] [] (K4_addByte h16) lkX4_26 clsX4 rfl _ o_report (by decide) (Nat.le_of_ble_eq_true rfl) rfl rfl (Nat.le_of_ble_eq_true rfl) rfl rfl (Nat.zero_le _) (Nat.zero_le _) dX4_addText_16 ?_
      refine r_iinc X (x := x2) (v := x2 + 1) [some (.ref (k.b + (42))), some (.ref (k.sK s1)), some (.int (x2 + 1))] dX4_addText_19 rfl rfl rfl ?_
      refine r_goto X 2 dX4_addText_22 rfl ?_
      exact ih u16 s1 (x2 + 1) hf
set_option maxRecDepth 100000 in
set_option maxHeartbeats 4000000 in
theorem K4_addText {k : KT} {T : TT} {R : RR} {ly : Fin 2 → LL} {rc : RC} {hn : HN} {rp : RP} {tp : TP} {ee : EE} {st : Fin 12 → SS} {w : Nat → Int64} {aside : Nat → Int64} {thought : Nat → Int64} {fresh : Nat → Int64} {mu : MU} {th : Int32} {mp : MP} {mf : MF} {mh : MH} {mg : MG} {ou : Nat → Int64} {od : Nat → UInt64}  {s1 : Nat} {r : (RP)} (hf : f4_addText  rp s1 = some r) : CT k strs yX4_addText cX4_addText 3 none (rmD 9 0 0) 0 0 [.ref (k.b + (42)), .ref (k.sK s1)] (wAll k T R ly rc hn rp tp ee st w aside thought fresh mu th mp mf mh mg ou od) (none) (wAll k T R ly rc hn r tp ee st w aside thought fresh mu th mp mf mh mg ou od) := by
  refine CT.of (by decide) (Nat.le_of_ble_eq_true rfl) ?_
  intro z X hQ
  show VW k z 0 0 (wAll k T R ly rc hn rp tp ee st w aside thought fresh mu th mp mf mh mg ou od) 0 [some (.ref (k.b + (42))), some (.ref (k.sK s1)), none] []
  unfold f4_addText at hf
  refine r_iconst X (v := 0) dX4_addText_0 rfl ?_
  refine r_istore_n X [some (.ref (k.b + (42))), some (.ref (k.sK s1)), some (.int 0)] dX4_addText_1 (Nat.le_of_ble_eq_true rfl) rfl ?_
  exact B4_addText_B2 X hQ FU rp s1 0 hf
set_option maxRecDepth 100000 in
set_option maxHeartbeats 4000000 in
theorem B4_addNumber_B24 {k : KT} {z : ZT} {T : TT} {R : RR} {ly : Fin 2 → LL} {rc : RC} {hn : HN} {tp : TP} {ee : EE} {st : Fin 12 → SS} {w : Nat → Int64} {aside : Nat → Int64} {thought : Nat → Int64} {fresh : Nat → Int64} {mu : MU} {th : Int32} {mp : MP} {mf : MF} {mh : MH} {mg : MG} {ou : Nat → Int64} {od : Nat → UInt64} {r : (RP)} (X : XX k strs z RX4 cX4_addNumber 3 none (rmD 1 0 0)) (hQ : zQ z = MQ (zB z) (Qof k (none) (wAll k T R ly rc hn r tp ee st w aside thought fresh mu th mp mf mh mg ou od)) (zA z) (zS z) 0 0 (kA k)) : ∀ (fu : Nat) (rp : RP) (x1 : Int32) (x2 : Int32), f4_addNumber_B24  fu rp x1 x2 = some r → VW k z 0 0 (wAll k T R ly rc hn rp tp ee st w aside thought fresh mu th mp mf mh mg ou od) 24 [some (.ref (k.b + (42))), some (.int x1), some (.int x2)] [] := by
  intro fu
  induction fu with
  | zero =>
    intro rp x1 x2 hf
    rw [f4_addNumber_B24] at hf
    cases hf
  | succ fu ih =>
    intro rp x1 x2 hf
    rw [f4_addNumber_B24] at hf
    refine r_iload_n X (x := x2) dX4_addNumber_24 rfl ?_
    refine r_if_le X 49 dX4_addNumber_25 rfl (fun c25 => ?_) (fun c25 => ?_)
    · replace hf := ifT hf c25
      obtain rfl := Option.some.inj hf
      exact r_return X hQ rfl rfl (Nat.le_of_ble_eq_true rfl) (Nat.le_of_ble_eq_true rfl) dX4_addNumber_49
    · replace hf := ifF hf c25
      refine r_aload_n X (x := k.b + (42)) dX4_addNumber_28 rfl ?_
      refine r_bipush X (v := 48) dX4_addNumber_29 rfl ?_
      refine r_iload_n X (x := x1) dX4_addNumber_31 rfl ?_
      refine r_iload_n X (x := x2) dX4_addNumber_32 rfl ?_
      obtain ⟨g33z, hf⟩ := gdS hf
      refine r_idiv X dX4_addNumber_33 g33z ?_
      refine r_bipush X (v := 10) dX4_addNumber_34 rfl ?_
      refine r_irem X dX4_addNumber_36 (by decide) ?_
      refine r_iadd X dX4_addNumber_37 ?_
      obtain ⟨u38, h38, hf⟩ := bdS hf
      refine r_callV0 X [.int (48 + ((x1 / x2) - (x1 / x2) / 10 * 10))] [] (K4_addByte h38) lkX4_26 clsX4 rfl _ o_report (by decide) (Nat.le_of_ble_eq_true rfl) rfl rfl (Nat.le_of_ble_eq_true rfl) rfl rfl (Nat.zero_le _) (Nat.zero_le _) dX4_addNumber_38 ?_
      refine r_iload_n X (x := x2) dX4_addNumber_41 rfl ?_
      refine r_bipush X (v := 10) dX4_addNumber_42 rfl ?_
      refine r_idiv X dX4_addNumber_44 (by decide) ?_
      refine r_istore_n X [some (.ref (k.b + (42))), some (.int x1), some (.int (x2 / 10))] dX4_addNumber_45 (Nat.le_of_ble_eq_true rfl) rfl ?_
      refine r_goto X 24 dX4_addNumber_46 rfl ?_
      exact ih u38 x1 (x2 / 10) hf
set_option maxRecDepth 100000 in
set_option maxHeartbeats 4000000 in
theorem B4_addNumber_B2 {k : KT} {z : ZT} {T : TT} {R : RR} {ly : Fin 2 → LL} {rc : RC} {hn : HN} {tp : TP} {ee : EE} {st : Fin 12 → SS} {w : Nat → Int64} {aside : Nat → Int64} {thought : Nat → Int64} {fresh : Nat → Int64} {mu : MU} {th : Int32} {mp : MP} {mf : MF} {mh : MH} {mg : MG} {ou : Nat → Int64} {od : Nat → UInt64} {r : (RP)} (X : XX k strs z RX4 cX4_addNumber 3 none (rmD 1 0 0)) (hQ : zQ z = MQ (zB z) (Qof k (none) (wAll k T R ly rc hn r tp ee st w aside thought fresh mu th mp mf mh mg ou od)) (zA z) (zS z) 0 0 (kA k)) : ∀ (fu : Nat) (rp : RP) (x1 : Int32) (x2 : Int32), f4_addNumber_B2  fu rp x1 x2 = some r → VW k z 0 0 (wAll k T R ly rc hn rp tp ee st w aside thought fresh mu th mp mf mh mg ou od) 2 [some (.ref (k.b + (42))), some (.int x1), some (.int x2)] [] := by
  intro fu
  induction fu with
  | zero =>
    intro rp x1 x2 hf
    rw [f4_addNumber_B2] at hf
    cases hf
  | succ fu ih =>
    intro rp x1 x2 hf
    rw [f4_addNumber_B2] at hf
    refine r_iload_n X (x := x2) dX4_addNumber_2 rfl ?_
    refine r_ldc X (v := 1000000000) coX4_30 dX4_addNumber_3 ?_
    refine r_icmp_ge X 24 dX4_addNumber_5 rfl (fun c5 => ?_) (fun c5 => ?_)
    · replace hf := ifT hf c5
      exact B4_addNumber_B24 X hQ FU rp x1 x2 hf
    · replace hf := ifF hf c5
      refine r_iload_n X (x := x1) dX4_addNumber_8 rfl ?_
      refine r_iload_n X (x := x2) dX4_addNumber_9 rfl ?_
      obtain ⟨g10z, hf⟩ := gdS hf
      refine r_idiv X dX4_addNumber_10 g10z ?_
      refine r_bipush X (v := 10) dX4_addNumber_11 rfl ?_
      refine r_icmp_lt X 24 dX4_addNumber_13 rfl (fun c13 => ?_) (fun c13 => ?_)
      · replace hf := ifT hf c13
        exact B4_addNumber_B24 X hQ FU rp x1 x2 hf
      · replace hf := ifF hf c13
        refine r_iload_n X (x := x2) dX4_addNumber_16 rfl ?_
        refine r_bipush X (v := 10) dX4_addNumber_17 rfl ?_
        refine r_imul X dX4_addNumber_19 ?_
        refine r_istore_n X [some (.ref (k.b + (42))), some (.int x1), some (.int (x2 * 10))] dX4_addNumber_20 (Nat.le_of_ble_eq_true rfl) rfl ?_
        refine r_goto X 2 dX4_addNumber_21 rfl ?_
        exact ih rp x1 (x2 * 10) hf
set_option maxRecDepth 100000 in
set_option maxHeartbeats 4000000 in
theorem K4_addNumber {k : KT} {T : TT} {R : RR} {ly : Fin 2 → LL} {rc : RC} {hn : HN} {rp : RP} {tp : TP} {ee : EE} {st : Fin 12 → SS} {w : Nat → Int64} {aside : Nat → Int64} {thought : Nat → Int64} {fresh : Nat → Int64} {mu : MU} {th : Int32} {mp : MP} {mf : MF} {mh : MH} {mg : MG} {ou : Nat → Int64} {od : Nat → UInt64}  {x1 : Int32} {r : (RP)} (hf : f4_addNumber  rp x1 = some r) : CT k strs yX4_addNumber cX4_addNumber 3 none (rmD 1 0 0) 0 0 [.ref (k.b + (42)), .int x1] (wAll k T R ly rc hn rp tp ee st w aside thought fresh mu th mp mf mh mg ou od) (none) (wAll k T R ly rc hn r tp ee st w aside thought fresh mu th mp mf mh mg ou od) := by
  refine CT.of (by decide) (Nat.le_of_ble_eq_true rfl) ?_
  intro z X hQ
  show VW k z 0 0 (wAll k T R ly rc hn rp tp ee st w aside thought fresh mu th mp mf mh mg ou od) 0 [some (.ref (k.b + (42))), some (.int x1), none] []
  unfold f4_addNumber at hf
  refine r_iconst X (v := 1) dX4_addNumber_0 rfl ?_
  refine r_istore_n X [some (.ref (k.b + (42))), some (.int x1), some (.int 1)] dX4_addNumber_1 (Nat.le_of_ble_eq_true rfl) rfl ?_
  exact B4_addNumber_B2 X hQ FU rp x1 1 hf
set_option maxRecDepth 100000 in
set_option maxHeartbeats 4000000 in
theorem B4_addSet_B3 {k : KT} {z : ZT} {T : TT} {R : RR} {ly : Fin 2 → LL} {rc : RC} {hn : HN} {tp : TP} {ee : EE} {st : Fin 12 → SS} {w : Nat → Int64} {aside : Nat → Int64} {thought : Nat → Int64} {fresh : Nat → Int64} {mu : MU} {th : Int32} {mp : MP} {mf : MF} {mh : MH} {mg : MG} {ou : Nat → Int64} {od : Nat → UInt64} {r : (RP)} (X : XX k strs z RX4 cX4_addSet 5 none (rmD 10 0 0)) (hQ : zQ z = MQ (zB z) (Qof k (none) (wAll k T R ly rc hn r tp ee st w aside thought fresh mu th mp mf mh mg ou od)) (zA z) (zS z) 0 0 (kA k)) : ∀ (fu : Nat) (rp : RP) (s1 : Nat) (x2 : Int32) (x3 : Int32) (x4 : Int32), f4_addSet_B3  fu rp s1 x2 x3 x4 = some r → VW k z 0 0 (wAll k T R ly rc hn rp tp ee st w aside thought fresh mu th mp mf mh mg ou od) 3 [some (.ref (k.b + (42))), some (.ref (k.sK s1)), some (.int x2), some (.int x3), some (.int x4)] [] := by
  intro fu
  induction fu with
  | zero =>
    intro rp s1 x2 x3 x4 hf
    rw [f4_addSet_B3] at hf
    cases hf
  | succ fu ih =>
    intro rp s1 x2 x3 x4 hf
    rw [f4_addSet_B3] at hf
    refine r_iload X (x := x4) dX4_addSet_3 rfl ?_
    refine r_iload_n X (x := x3) dX4_addSet_5 rfl ?_
    refine r_icmp_ge X 35 dX4_addSet_6 rfl (fun c6 => ?_) (fun c6 => ?_)
    · replace hf := ifT hf c6
      obtain rfl := Option.some.inj hf
      exact r_return X hQ rfl rfl (Nat.le_of_ble_eq_true rfl) (Nat.le_of_ble_eq_true rfl) dX4_addSet_35
    · replace hf := ifF hf c6
      refine r_iload_n X (x := x2) dX4_addSet_9 rfl ?_
      refine r_iload X (x := x4) dX4_addSet_10 rfl ?_
      obtain ⟨u12, h12, hf⟩ := bdS hf
      refine r_callSN0 X [.int x2, .int x4] [] (K9_has h12) lkX4_31 (by decide) (Nat.le_of_ble_eq_true rfl) rfl rfl (Nat.le_of_ble_eq_true rfl) rfl rfl (Nat.zero_le _) (Nat.zero_le _) dX4_addSet_12 ?_
      refine r_if_eq X 29 dX4_addSet_15 rfl (fun c15 => ?_) (fun c15 => ?_)
      · replace hf := ifT hf c15
        refine r_iinc X (x := x4) (v := x4 + 1) [some (.ref (k.b + (42))), some (.ref (k.sK s1)), some (.int x2), some (.int x3), some (.int (x4 + 1))] dX4_addSet_29 rfl rfl rfl ?_
        refine r_goto X 3 dX4_addSet_32 rfl ?_
        exact ih rp s1 x2 x3 (x4 + 1) hf
      · replace hf := ifF hf c15
        refine r_aload_n X (x := k.b + (42)) dX4_addSet_18 rfl ?_
        refine r_aload_n X (x := k.sK s1) dX4_addSet_19 rfl ?_
        obtain ⟨u20, h20, hf⟩ := bdS hf
        refine r_callV0 X [.ref (k.sK s1)] [] (K4_addText h20) lkX4_37 clsX4 rfl _ o_report (by decide) (Nat.le_of_ble_eq_true rfl) rfl rfl (Nat.le_of_ble_eq_true rfl) rfl rfl (Nat.zero_le _) (Nat.zero_le _) dX4_addSet_20 ?_
        refine r_aload_n X (x := k.b + (42)) dX4_addSet_23 rfl ?_
        refine r_iload X (x := x4) dX4_addSet_24 rfl ?_
        obtain ⟨u26, h26, hf⟩ := bdS hf
        refine r_callV0 X [.int x4] [] (K4_addNumber h26) lkX4_41 clsX4 rfl _ o_report (by decide) (Nat.le_of_ble_eq_true rfl) rfl rfl (Nat.le_of_ble_eq_true rfl) rfl rfl (Nat.zero_le _) (Nat.zero_le _) dX4_addSet_26 ?_
        refine r_iinc X (x := x4) (v := x4 + 1) [some (.ref (k.b + (42))), some (.ref (k.sK s1)), some (.int x2), some (.int x3), some (.int (x4 + 1))] dX4_addSet_29 rfl rfl rfl ?_
        refine r_goto X 3 dX4_addSet_32 rfl ?_
        exact ih u26 s1 x2 x3 (x4 + 1) hf
set_option maxRecDepth 100000 in
set_option maxHeartbeats 4000000 in
theorem K4_addSet {k : KT} {T : TT} {R : RR} {ly : Fin 2 → LL} {rc : RC} {hn : HN} {rp : RP} {tp : TP} {ee : EE} {st : Fin 12 → SS} {w : Nat → Int64} {aside : Nat → Int64} {thought : Nat → Int64} {fresh : Nat → Int64} {mu : MU} {th : Int32} {mp : MP} {mf : MF} {mh : MH} {mg : MG} {ou : Nat → Int64} {od : Nat → UInt64}  {s1 : Nat} {x2 : Int32} {x3 : Int32} {r : (RP)} (hf : f4_addSet  rp s1 x2 x3 = some r) : CT k strs yX4_addSet cX4_addSet 5 none (rmD 10 0 0) 0 0 [.ref (k.b + (42)), .ref (k.sK s1), .int x2, .int x3] (wAll k T R ly rc hn rp tp ee st w aside thought fresh mu th mp mf mh mg ou od) (none) (wAll k T R ly rc hn r tp ee st w aside thought fresh mu th mp mf mh mg ou od) := by
  refine CT.of (by decide) (Nat.le_of_ble_eq_true rfl) ?_
  intro z X hQ
  show VW k z 0 0 (wAll k T R ly rc hn rp tp ee st w aside thought fresh mu th mp mf mh mg ou od) 0 [some (.ref (k.b + (42))), some (.ref (k.sK s1)), some (.int x2), some (.int x3), none] []
  unfold f4_addSet at hf
  refine r_iconst X (v := 0) dX4_addSet_0 rfl ?_
  refine r_istore X [some (.ref (k.b + (42))), some (.ref (k.sK s1)), some (.int x2), some (.int x3), some (.int 0)] dX4_addSet_1 (Nat.le_of_ble_eq_true rfl) rfl ?_
  exact B4_addSet_B3 X hQ FU rp s1 x2 x3 0 hf
set_option maxRecDepth 100000 in
set_option maxHeartbeats 4000000 in
theorem B5_reset_B159 {k : KT} {z : ZT} {T : TT} {R : RR} {ly : Fin 2 → LL} {rc : RC} {hn : HN} {rp : RP} {tp : TP} {ee : EE} {st : Fin 12 → SS} {w : Nat → Int64} {aside : Nat → Int64} {thought : Nat → Int64} {fresh : Nat → Int64} {mu : MU} {th : Int32} {mp : MP} {mf : MF} {mh : MH} {mg : MG} {ou : Nat → Int64} {od : Nat → UInt64} {j : Fin 12} {r : (SS)} (X : XX k strs z RX5 cX5_reset 2 none (rmD 1 0 0)) (hQ : zQ z = MQ (zB z) (Qof k (none) (wAll k T R ly rc hn rp tp ee (updF st j r) w aside thought fresh mu th mp mf mh mg ou od)) (zA z) (zS z) 0 0 (kA k)) : ∀ (fu : Nat) (S : SS) (x1 : Int32), f5_reset_B159 (ly (0 : Fin 2)) fu S x1 = some r → VW k z 0 0 (wAll k T R ly rc hn rp tp ee (updF st j S) w aside thought fresh mu th mp mf mh mg ou od) 159 [some (.ref (k.b + (45 + 12 * j.val))), some (.int x1)] [] := by
  intro fu
  induction fu with
  | zero =>
    intro S x1 hf
    rw [f5_reset_B159] at hf
    cases hf
  | succ fu ih =>
    intro S x1 hf
    rw [f5_reset_B159] at hf
    refine r_iload_n X (x := x1) dX5_reset_159 rfl ?_
    refine r_aload_n X (x := k.b + (45 + 12 * j.val)) dX5_reset_160 rfl ?_
    refine r_getfield X (v := .ref (k.b + (4 + 17 * (0 : Fin 2).val))) clsX5 flX5_54 (Nat.le_of_ble_eq_true rfl) _ (o_st1 j _) rfl dX5_reset_161 ?_
    refine r_getfield X (v := .int (LL_flanges (ly (0 : Fin 2)))) clsX1 flX5_88 (Nat.le_of_ble_eq_true rfl) _ (o_lay (0 : Fin 2)) rfl dX5_reset_164 ?_
    refine r_icmp_ge X 197 dX5_reset_167 rfl (fun c167 => ?_) (fun c167 => ?_)
    · replace hf := ifT hf c167
      obtain rfl := Option.some.inj hf
      exact r_return X hQ rfl rfl (Nat.le_of_ble_eq_true rfl) (Nat.le_of_ble_eq_true rfl) dX5_reset_197
    · replace hf := ifF hf c167
      refine r_aload_n X (x := k.b + (45 + 12 * j.val)) dX5_reset_170 rfl ?_
      refine r_getfield X (v := .ref (k.b + (45 + 12 * j.val + 8))) clsX5 flX5_44 (Nat.le_of_ble_eq_true rfl) _ (o_st1 j _) rfl dX5_reset_171 ?_
      refine r_iload_n X (x := x1) dX5_reset_174 rfl ?_
      refine r_iconst X (v := 0) dX5_reset_175 rfl ?_
      obtain ⟨g176, hf⟩ := gdS hf
      refine r_iastore X (f := SS_leak S) (ws1 := wAll k T R ly rc hn rp tp ee (updF st j (SS_set_leak S (upd (SS_leak S) (ix x1) 0))) w aside thought fresh mu th mp mf mh mg ou od) _ (a_st1_leak j _) g176 (s_st_leak j S (upd (SS_leak S) (ix x1) 0)) dX5_reset_176 ?_
      refine r_aload_n X (x := k.b + (45 + 12 * j.val)) dX5_reset_177 rfl ?_
      refine r_iload_n X (x := x1) dX5_reset_178 rfl ?_
      refine r_aload_n X (x := k.b + (45 + 12 * j.val)) dX5_reset_179 rfl ?_
      refine r_getfield X (v := .ref (k.b + (4 + 17 * (0 : Fin 2).val))) clsX5 flX5_54 (Nat.le_of_ble_eq_true rfl) _ (o_st1 j _) rfl dX5_reset_180 ?_
      refine r_getfield X (v := .ref (k.b + (4 + 17 * (0 : Fin 2).val + 15))) clsX1 flX5_91 (Nat.le_of_ble_eq_true rfl) _ (o_lay (0 : Fin 2)) rfl dX5_reset_183 ?_
      refine r_iload_n X (x := x1) dX5_reset_186 rfl ?_
      refine r_iaload X (f := LL_firstLeak (ly (0 : Fin 2))) _ (a_lay_firstLeak (0 : Fin 2)) g176 dX5_reset_187 ?_
      obtain ⟨u188, h188, hf⟩ := bdS hf
      refine r_callV0 X [.int x1, .int ((LL_firstLeak (ly (0 : Fin 2))) (ix x1))] [] (K5_putLeak h188) lkX5_94 clsX5 rfl _ (o_st1 j _) (by decide) (Nat.le_of_ble_eq_true rfl) rfl rfl (Nat.le_of_ble_eq_true rfl) rfl rfl (Nat.zero_le _) (Nat.zero_le _) dX5_reset_188 ?_
      refine r_iinc X (x := x1) (v := x1 + 1) [some (.ref (k.b + (45 + 12 * j.val))), some (.int (x1 + 1))] dX5_reset_191 rfl rfl rfl ?_
      refine r_goto X 159 dX5_reset_194 rfl ?_
      exact ih u188 (x1 + 1) hf
set_option maxRecDepth 100000 in
set_option maxHeartbeats 4000000 in
theorem B5_reset_B118 {k : KT} {z : ZT} {T : TT} {R : RR} {ly : Fin 2 → LL} {rc : RC} {hn : HN} {rp : RP} {tp : TP} {ee : EE} {st : Fin 12 → SS} {w : Nat → Int64} {aside : Nat → Int64} {thought : Nat → Int64} {fresh : Nat → Int64} {mu : MU} {th : Int32} {mp : MP} {mf : MF} {mh : MH} {mg : MG} {ou : Nat → Int64} {od : Nat → UInt64} {j : Fin 12} {r : (SS)} (X : XX k strs z RX5 cX5_reset 2 none (rmD 1 0 0)) (hQ : zQ z = MQ (zB z) (Qof k (none) (wAll k T R ly rc hn rp tp ee (updF st j r) w aside thought fresh mu th mp mf mh mg ou od)) (zA z) (zS z) 0 0 (kA k)) : ∀ (fu : Nat) (S : SS) (x1 : Int32), f5_reset_B118 (ly (0 : Fin 2)) fu S x1 = some r → VW k z 0 0 (wAll k T R ly rc hn rp tp ee (updF st j S) w aside thought fresh mu th mp mf mh mg ou od) 118 [some (.ref (k.b + (45 + 12 * j.val))), some (.int x1)] [] := by
  intro fu
  induction fu with
  | zero =>
    intro S x1 hf
    rw [f5_reset_B118] at hf
    cases hf
  | succ fu ih =>
    intro S x1 hf
    rw [f5_reset_B118] at hf
    refine r_iload_n X (x := x1) dX5_reset_118 rfl ?_
    refine r_aload_n X (x := k.b + (45 + 12 * j.val)) dX5_reset_119 rfl ?_
    refine r_getfield X (v := .ref (k.b + (4 + 17 * (0 : Fin 2).val))) clsX5 flX5_54 (Nat.le_of_ble_eq_true rfl) _ (o_st1 j _) rfl dX5_reset_120 ?_
    refine r_getfield X (v := .int (LL_valves (ly (0 : Fin 2)))) clsX1 flX5_82 (Nat.le_of_ble_eq_true rfl) _ (o_lay (0 : Fin 2)) rfl dX5_reset_123 ?_
    refine r_icmp_ge X 157 dX5_reset_126 rfl (fun c126 => ?_) (fun c126 => ?_)
    · replace hf := ifT hf c126
      refine r_iconst X (v := 0) dX5_reset_157 rfl ?_
      refine r_istore_n X [some (.ref (k.b + (45 + 12 * j.val))), some (.int 0)] dX5_reset_158 (Nat.le_of_ble_eq_true rfl) rfl ?_
      exact B5_reset_B159 X hQ FU S 0 hf
    · replace hf := ifF hf c126
      refine r_aload_n X (x := k.b + (45 + 12 * j.val)) dX5_reset_129 rfl ?_
      refine r_getfield X (v := .ref (k.b + (45 + 12 * j.val + 5))) clsX5 flX5_35 (Nat.le_of_ble_eq_true rfl) _ (o_st1 j _) rfl dX5_reset_130 ?_
      refine r_iload_n X (x := x1) dX5_reset_133 rfl ?_
      refine r_aload_n X (x := k.b + (45 + 12 * j.val)) dX5_reset_134 rfl ?_
      refine r_getfield X (v := .ref (k.b + (4 + 17 * (0 : Fin 2).val))) clsX5 flX5_54 (Nat.le_of_ble_eq_true rfl) _ (o_st1 j _) rfl dX5_reset_135 ?_
      refine r_getfield X (v := .ref (k.b + (4 + 17 * (0 : Fin 2).val + 13))) clsX1 flX5_85 (Nat.le_of_ble_eq_true rfl) _ (o_lay (0 : Fin 2)) rfl dX5_reset_138 ?_
      refine r_iload_n X (x := x1) dX5_reset_141 rfl ?_
      obtain ⟨g142, hf⟩ := gdS hf
      refine r_iaload X (f := LL_firstRule (ly (0 : Fin 2))) _ (a_lay_firstRule (0 : Fin 2)) g142 dX5_reset_142 ?_
      refine r_iastore X (f := SS_rule S) (ws1 := wAll k T R ly rc hn rp tp ee (updF st j (SS_set_rule S (upd (SS_rule S) (ix x1) ((LL_firstRule (ly (0 : Fin 2))) (ix x1))))) w aside thought fresh mu th mp mf mh mg ou od) _ (a_st1_rule j _) g142 (s_st_rule j S (upd (SS_rule S) (ix x1) ((LL_firstRule (ly (0 : Fin 2))) (ix x1)))) dX5_reset_143 ?_
      refine r_aload_n X (x := k.b + (45 + 12 * j.val)) dX5_reset_144 rfl ?_
      refine r_getfield X (v := .ref (k.b + (45 + 12 * j.val + 6))) clsX5 flX5_38 (Nat.le_of_ble_eq_true rfl) _ (o_st1 j _) rfl dX5_reset_145 ?_
      refine r_iload_n X (x := x1) dX5_reset_148 rfl ?_
      refine r_iconst X (v := 0) dX5_reset_149 rfl ?_
      refine r_iastore X (f := SS_valveTrips S) (ws1 := wAll k T R ly rc hn rp tp ee (updF st j (SS_set_valveTrips (SS_set_rule S (upd (SS_rule S) (ix x1) ((LL_firstRule (ly (0 : Fin 2))) (ix x1)))) (upd (SS_valveTrips S) (ix x1) 0))) w aside thought fresh mu th mp mf mh mg ou od) _ (heI (a_st1_valveTrips j _) (SS_valveTrips_set_rule _ _)) g142 (s_st_valveTrips j (SS_set_rule S (upd (SS_rule S) (ix x1) ((LL_firstRule (ly (0 : Fin 2))) (ix x1)))) (upd (SS_valveTrips S) (ix x1) 0)) dX5_reset_150 ?_
      refine r_iinc X (x := x1) (v := x1 + 1) [some (.ref (k.b + (45 + 12 * j.val))), some (.int (x1 + 1))] dX5_reset_151 rfl rfl rfl ?_
      refine r_goto X 118 dX5_reset_154 rfl ?_
      exact ih (SS_set_valveTrips (SS_set_rule S (upd (SS_rule S) (ix x1) ((LL_firstRule (ly (0 : Fin 2))) (ix x1)))) (upd (SS_valveTrips S) (ix x1) 0)) (x1 + 1) hf
set_option maxRecDepth 100000 in
set_option maxHeartbeats 4000000 in
theorem B5_reset_B92 {k : KT} {z : ZT} {T : TT} {R : RR} {ly : Fin 2 → LL} {rc : RC} {hn : HN} {rp : RP} {tp : TP} {ee : EE} {st : Fin 12 → SS} {w : Nat → Int64} {aside : Nat → Int64} {thought : Nat → Int64} {fresh : Nat → Int64} {mu : MU} {th : Int32} {mp : MP} {mf : MF} {mh : MH} {mg : MG} {ou : Nat → Int64} {od : Nat → UInt64} {j : Fin 12} {r : (SS)} (X : XX k strs z RX5 cX5_reset 2 none (rmD 1 0 0)) (hQ : zQ z = MQ (zB z) (Qof k (none) (wAll k T R ly rc hn rp tp ee (updF st j r) w aside thought fresh mu th mp mf mh mg ou od)) (zA z) (zS z) 0 0 (kA k)) : ∀ (fu : Nat) (S : SS) (x1 : Int32), f5_reset_B92 (ly (0 : Fin 2)) fu S x1 = some r → VW k z 0 0 (wAll k T R ly rc hn rp tp ee (updF st j S) w aside thought fresh mu th mp mf mh mg ou od) 92 [some (.ref (k.b + (45 + 12 * j.val))), some (.int x1)] [] := by
  intro fu
  induction fu with
  | zero =>
    intro S x1 hf
    rw [f5_reset_B92] at hf
    cases hf
  | succ fu ih =>
    intro S x1 hf
    rw [f5_reset_B92] at hf
    refine r_iload_n X (x := x1) dX5_reset_92 rfl ?_
    refine r_aload_n X (x := k.b + (45 + 12 * j.val)) dX5_reset_93 rfl ?_
    refine r_getfield X (v := .ref (k.b + (4 + 17 * (0 : Fin 2).val))) clsX5 flX5_54 (Nat.le_of_ble_eq_true rfl) _ (o_st1 j _) rfl dX5_reset_94 ?_
    refine r_getfield X (v := .int (LL_pumps (ly (0 : Fin 2)))) clsX1 flX5_79 (Nat.le_of_ble_eq_true rfl) _ (o_lay (0 : Fin 2)) rfl dX5_reset_97 ?_
    refine r_icmp_ge X 116 dX5_reset_100 rfl (fun c100 => ?_) (fun c100 => ?_)
    · replace hf := ifT hf c100
      refine r_iconst X (v := 0) dX5_reset_116 rfl ?_
      refine r_istore_n X [some (.ref (k.b + (45 + 12 * j.val))), some (.int 0)] dX5_reset_117 (Nat.le_of_ble_eq_true rfl) rfl ?_
      exact B5_reset_B118 X hQ FU S 0 hf
    · replace hf := ifF hf c100
      refine r_aload_n X (x := k.b + (45 + 12 * j.val)) dX5_reset_103 rfl ?_
      refine r_getfield X (v := .ref (k.b + (45 + 12 * j.val + 7))) clsX5 flX5_41 (Nat.le_of_ble_eq_true rfl) _ (o_st1 j _) rfl dX5_reset_104 ?_
      refine r_iload_n X (x := x1) dX5_reset_107 rfl ?_
      refine r_iconst X (v := 0) dX5_reset_108 rfl ?_
      obtain ⟨g109, hf⟩ := gdS hf
      refine r_iastore X (f := SS_pumpTrips S) (ws1 := wAll k T R ly rc hn rp tp ee (updF st j (SS_set_pumpTrips S (upd (SS_pumpTrips S) (ix x1) 0))) w aside thought fresh mu th mp mf mh mg ou od) _ (a_st1_pumpTrips j _) g109 (s_st_pumpTrips j S (upd (SS_pumpTrips S) (ix x1) 0)) dX5_reset_109 ?_
      refine r_iinc X (x := x1) (v := x1 + 1) [some (.ref (k.b + (45 + 12 * j.val))), some (.int (x1 + 1))] dX5_reset_110 rfl rfl rfl ?_
      refine r_goto X 92 dX5_reset_113 rfl ?_
      exact ih (SS_set_pumpTrips S (upd (SS_pumpTrips S) (ix x1) 0)) (x1 + 1) hf
set_option maxRecDepth 100000 in
set_option maxHeartbeats 4000000 in
theorem B5_reset_B25 {k : KT} {z : ZT} {T : TT} {R : RR} {ly : Fin 2 → LL} {rc : RC} {hn : HN} {rp : RP} {tp : TP} {ee : EE} {st : Fin 12 → SS} {w : Nat → Int64} {aside : Nat → Int64} {thought : Nat → Int64} {fresh : Nat → Int64} {mu : MU} {th : Int32} {mp : MP} {mf : MF} {mh : MH} {mg : MG} {ou : Nat → Int64} {od : Nat → UInt64} {j : Fin 12} {r : (SS)} (X : XX k strs z RX5 cX5_reset 2 none (rmD 1 0 0)) (hQ : zQ z = MQ (zB z) (Qof k (none) (wAll k T R ly rc hn rp tp ee (updF st j r) w aside thought fresh mu th mp mf mh mg ou od)) (zA z) (zS z) 0 0 (kA k)) : ∀ (fu : Nat) (S : SS) (x1 : Int32), f5_reset_B25 (ly (0 : Fin 2)) fu S x1 = some r → VW k z 0 0 (wAll k T R ly rc hn rp tp ee (updF st j S) w aside thought fresh mu th mp mf mh mg ou od) 25 [some (.ref (k.b + (45 + 12 * j.val))), some (.int x1)] [] := by
  intro fu
  induction fu with
  | zero =>
    intro S x1 hf
    rw [f5_reset_B25] at hf
    cases hf
  | succ fu ih =>
    intro S x1 hf
    rw [f5_reset_B25] at hf
    refine r_iload_n X (x := x1) dX5_reset_25 rfl ?_
    refine r_aload_n X (x := k.b + (45 + 12 * j.val)) dX5_reset_26 rfl ?_
    refine r_getfield X (v := .ref (k.b + (4 + 17 * (0 : Fin 2).val))) clsX5 flX5_54 (Nat.le_of_ble_eq_true rfl) _ (o_st1 j _) rfl dX5_reset_27 ?_
    refine r_getfield X (v := .int (LL_chambers (ly (0 : Fin 2)))) clsX1 flX5_62 (Nat.le_of_ble_eq_true rfl) _ (o_lay (0 : Fin 2)) rfl dX5_reset_30 ?_
    refine r_icmp_ge X 90 dX5_reset_33 rfl (fun c33 => ?_) (fun c33 => ?_)
    · replace hf := ifT hf c33
      refine r_iconst X (v := 0) dX5_reset_90 rfl ?_
      refine r_istore_n X [some (.ref (k.b + (45 + 12 * j.val))), some (.int 0)] dX5_reset_91 (Nat.le_of_ble_eq_true rfl) rfl ?_
      exact B5_reset_B92 X hQ FU S 0 hf
    · replace hf := ifF hf c33
      refine r_aload_n X (x := k.b + (45 + 12 * j.val)) dX5_reset_36 rfl ?_
      refine r_getfield X (v := .ref (k.b + (45 + 12 * j.val + 1))) clsX5 flX5_21 (Nat.le_of_ble_eq_true rfl) _ (o_st1 j _) rfl dX5_reset_37 ?_
      refine r_iload_n X (x := x1) dX5_reset_40 rfl ?_
      refine r_lconst X (v := 0) dX5_reset_41 rfl ?_
      obtain ⟨g42, hf⟩ := gdS hf
      refine r_lastore X (f := SS_gas S) (ws1 := wAll k T R ly rc hn rp tp ee (updF st j (SS_set_gas S (vp_updL (SS_gas S) (ix x1) 0))) w aside thought fresh mu th mp mf mh mg ou od) _ (a_st1_gas j _) g42 (s_st_gas j S (vp_updL (SS_gas S) (ix x1) 0)) dX5_reset_42 ?_
      refine r_aload_n X (x := k.b + (45 + 12 * j.val)) dX5_reset_43 rfl ?_
      refine r_iload_n X (x := x1) dX5_reset_44 rfl ?_
      refine r_aload_n X (x := k.b + (45 + 12 * j.val)) dX5_reset_45 rfl ?_
      refine r_getfield X (v := .ref (k.b + (4 + 17 * (0 : Fin 2).val))) clsX5 flX5_54 (Nat.le_of_ble_eq_true rfl) _ (o_st1 j _) rfl dX5_reset_46 ?_
      refine r_getfield X (v := .ref (k.b + (4 + 17 * (0 : Fin 2).val + 1))) clsX1 flX5_67 (Nat.le_of_ble_eq_true rfl) _ (o_lay (0 : Fin 2)) rfl dX5_reset_49 ?_
      refine r_iload_n X (x := x1) dX5_reset_52 rfl ?_
      refine r_iaload X (f := LL_volume (ly (0 : Fin 2))) _ (a_lay_volume (0 : Fin 2)) g42 dX5_reset_53 ?_
      refine r_i2l X dX5_reset_54 ?_
      refine r_ldc2 X (v := 1000000) coX5_70 dX5_reset_55 ?_
      refine r_lmul X dX5_reset_58 ?_
      obtain ⟨u59, h59, hf⟩ := bdS hf
      refine r_callV0 X [.int x1, .long ((((LL_volume (ly (0 : Fin 2))) (ix x1)).toInt64) * 1000000)] [] (K5_addGas h59) lkX5_72 clsX5 rfl _ (o_st1 j _) (by decide) (Nat.le_of_ble_eq_true rfl) rfl rfl (Nat.le_of_ble_eq_true rfl) rfl rfl (Nat.zero_le _) (Nat.zero_le _) dX5_reset_59 ?_
      refine r_aload_n X (x := k.b + (45 + 12 * j.val)) dX5_reset_62 rfl ?_
      refine r_getfield X (v := .ref (k.b + (45 + 12 * j.val + 3))) clsX5 flX5_29 (Nat.le_of_ble_eq_true rfl) _ (o_st1 j _) rfl dX5_reset_63 ?_
      refine r_iload_n X (x := x1) dX5_reset_66 rfl ?_
      refine r_aload_n X (x := k.b + (45 + 12 * j.val)) dX5_reset_67 rfl ?_
      refine r_getfield X (v := .ref (k.b + (4 + 17 * (0 : Fin 2).val))) clsX5 flX5_54 (Nat.le_of_ble_eq_true rfl) _ (o_st1 j _) rfl dX5_reset_68 ?_
      refine r_getfield X (v := .ref (k.b + (4 + 17 * (0 : Fin 2).val + 2))) clsX1 flX5_76 (Nat.le_of_ble_eq_true rfl) _ (o_lay (0 : Fin 2)) rfl dX5_reset_71 ?_
      refine r_iload_n X (x := x1) dX5_reset_74 rfl ?_
      refine r_iaload X (f := LL_firstOutgassing (ly (0 : Fin 2))) _ (a_lay_firstOutgassing (0 : Fin 2)) g42 dX5_reset_75 ?_
      refine r_iastore X (f := SS_outgassing u59) (ws1 := wAll k T R ly rc hn rp tp ee (updF st j (SS_set_outgassing u59 (upd (SS_outgassing u59) (ix x1) ((LL_firstOutgassing (ly (0 : Fin 2))) (ix x1))))) w aside thought fresh mu th mp mf mh mg ou od) _ (a_st1_outgassing j _) g42 (s_st_outgassing j u59 (upd (SS_outgassing u59) (ix x1) ((LL_firstOutgassing (ly (0 : Fin 2))) (ix x1)))) dX5_reset_76 ?_
      refine r_aload_n X (x := k.b + (45 + 12 * j.val)) dX5_reset_77 rfl ?_
      refine r_getfield X (v := .ref (k.b + (45 + 12 * j.val + 4))) clsX5 flX5_32 (Nat.le_of_ble_eq_true rfl) _ (o_st1 j _) rfl dX5_reset_78 ?_
      refine r_iload_n X (x := x1) dX5_reset_81 rfl ?_
      refine r_iconst X (v := 0) dX5_reset_82 rfl ?_
      refine r_iastore X (f := SS_leakSum u59) (ws1 := wAll k T R ly rc hn rp tp ee (updF st j (SS_set_leakSum (SS_set_outgassing u59 (upd (SS_outgassing u59) (ix x1) ((LL_firstOutgassing (ly (0 : Fin 2))) (ix x1)))) (upd (SS_leakSum u59) (ix x1) 0))) w aside thought fresh mu th mp mf mh mg ou od) _ (heI (a_st1_leakSum j _) (SS_leakSum_set_outgassing _ _)) g42 (s_st_leakSum j (SS_set_outgassing u59 (upd (SS_outgassing u59) (ix x1) ((LL_firstOutgassing (ly (0 : Fin 2))) (ix x1)))) (upd (SS_leakSum u59) (ix x1) 0)) dX5_reset_83 ?_
      refine r_iinc X (x := x1) (v := x1 + 1) [some (.ref (k.b + (45 + 12 * j.val))), some (.int (x1 + 1))] dX5_reset_84 rfl rfl rfl ?_
      refine r_goto X 25 dX5_reset_87 rfl ?_
      exact ih (SS_set_leakSum (SS_set_outgassing u59 (upd (SS_outgassing u59) (ix x1) ((LL_firstOutgassing (ly (0 : Fin 2))) (ix x1)))) (upd (SS_leakSum u59) (ix x1) 0)) (x1 + 1) hf
set_option maxRecDepth 100000 in
set_option maxHeartbeats 4000000 in
theorem K5_reset {k : KT} {T : TT} {R : RR} {ly : Fin 2 → LL} {rc : RC} {hn : HN} {rp : RP} {tp : TP} {ee : EE} {st : Fin 12 → SS} {w : Nat → Int64} {aside : Nat → Int64} {thought : Nat → Int64} {fresh : Nat → Int64} {mu : MU} {th : Int32} {mp : MP} {mf : MF} {mh : MH} {mg : MG} {ou : Nat → Int64} {od : Nat → UInt64} {j : Fin 12} {S : SS}  {r : (SS)} (hf : f5_reset (ly (0 : Fin 2)) S  = some r) : CT k strs yX5_reset cX5_reset 2 none (rmD 1 0 0) 0 0 [.ref (k.b + (45 + 12 * j.val))] (wAll k T R ly rc hn rp tp ee (updF st j S) w aside thought fresh mu th mp mf mh mg ou od) (none) (wAll k T R ly rc hn rp tp ee (updF st j r) w aside thought fresh mu th mp mf mh mg ou od) := by
  refine CT.of (by decide) (Nat.le_of_ble_eq_true rfl) ?_
  intro z X hQ
  show VW k z 0 0 (wAll k T R ly rc hn rp tp ee (updF st j S) w aside thought fresh mu th mp mf mh mg ou od) 0 [some (.ref (k.b + (45 + 12 * j.val))), none] []
  unfold f5_reset at hf
  refine r_aload_n X (x := k.b + (45 + 12 * j.val)) dX5_reset_0 rfl ?_
  refine r_iconst X (v := 0) dX5_reset_1 rfl ?_
  refine r_putfield X (ws1 := wAll k T R ly rc hn rp tp ee (updF st j (SS_set_time S 0)) w aside thought fresh mu th mp mf mh mg ou od) clsX5 flX5_9 (Nat.le_of_ble_eq_true rfl) rfl rfl rfl _ (o_st1 j _) (Nat.le_of_ble_eq_true rfl) (s_st_time j S 0) dX5_reset_2 ?_
  refine r_aload_n X (x := k.b + (45 + 12 * j.val)) dX5_reset_5 rfl ?_
  refine r_iconst X (v := 0) dX5_reset_6 rfl ?_
  refine r_putfield X (ws1 := wAll k T R ly rc hn rp tp ee (updF st j (SS_set_openValves (SS_set_time S 0) 0)) w aside thought fresh mu th mp mf mh mg ou od) clsX5 flX5_15 (Nat.le_of_ble_eq_true rfl) rfl rfl rfl _ (o_st1 j _) (Nat.le_of_ble_eq_true rfl) (s_st_openValves j (SS_set_time S 0) 0) dX5_reset_7 ?_
  refine r_aload_n X (x := k.b + (45 + 12 * j.val)) dX5_reset_10 rfl ?_
  refine r_iconst X (v := 0) dX5_reset_11 rfl ?_
  refine r_putfield X (ws1 := wAll k T R ly rc hn rp tp ee (updF st j (SS_set_runningPumps (SS_set_openValves (SS_set_time S 0) 0) 0)) w aside thought fresh mu th mp mf mh mg ou od) clsX5 flX5_18 (Nat.le_of_ble_eq_true rfl) rfl rfl rfl _ (o_st1 j _) (Nat.le_of_ble_eq_true rfl) (s_st_runningPumps j (SS_set_openValves (SS_set_time S 0) 0) 0) dX5_reset_12 ?_
  refine r_aload_n X (x := k.b + (45 + 12 * j.val)) dX5_reset_15 rfl ?_
  refine r_getfield X (v := .ref (k.b + (45 + 12 * j.val + 9))) clsX5 flX5_50 (Nat.le_of_ble_eq_true rfl) _ (o_st1 j _) rfl dX5_reset_16 ?_
  refine r_iconst X (v := 0) dX5_reset_19 rfl ?_
  refine r_putfield X (ws1 := wAll k T R ly rc hn rp tp ee (updF st j (SS_set_kept (SS_set_runningPumps (SS_set_openValves (SS_set_time S 0) 0) 0) 0)) w aside thought fresh mu th mp mf mh mg ou od) clsX7 flX5_59 (Nat.le_of_ble_eq_true rfl) rfl rfl rfl _ (o_tl1 j _) (Nat.le_of_ble_eq_true rfl) (s_st_kept j (SS_set_runningPumps (SS_set_openValves (SS_set_time S 0) 0) 0) 0) dX5_reset_20 ?_
  refine r_iconst X (v := 0) dX5_reset_23 rfl ?_
  refine r_istore_n X [some (.ref (k.b + (45 + 12 * j.val))), some (.int 0)] dX5_reset_24 (Nat.le_of_ble_eq_true rfl) rfl ?_
  exact B5_reset_B25 X hQ FU (SS_set_kept (SS_set_runningPumps (SS_set_openValves (SS_set_time S 0) 0) 0) 0) 0 hf
set_option maxRecDepth 100000 in
set_option maxHeartbeats 4000000 in
theorem K7_copyFrom {k : KT} {T : TT} {R : RR} {ly : Fin 2 → LL} {rc : RC} {hn : HN} {rp : RP} {tp : TP} {ee : EE} {st : Fin 12 → SS} {w : Nat → Int64} {aside : Nat → Int64} {thought : Nat → Int64} {fresh : Nat → Int64} {mu : MU} {th : Int32} {mp : MP} {mf : MF} {mh : MH} {mg : MG} {ou : Nat → Int64} {od : Nat → UInt64} {j : Fin 12} {i : Fin 12} {S : SS}  {r : (SS)} (hij : i ≠ j) (hf : f7_copyFrom (st i) S  = some r) : CT k strs yX7_copyFrom cX7_copyFrom 2 none (rmD 1 0 0) 0 0 [.ref (k.b + (45 + 12 * j.val + 9)), .ref (k.b + (45 + 12 * i.val + 9))] (wAll k T R ly rc hn rp tp ee (updF st j S) w aside thought fresh mu th mp mf mh mg ou od) (none) (wAll k T R ly rc hn rp tp ee (updF st j r) w aside thought fresh mu th mp mf mh mg ou od) := by
  refine CT.of (by decide) (Nat.le_of_ble_eq_true rfl) ?_
  intro z X hQ
  show VW k z 0 0 (wAll k T R ly rc hn rp tp ee (updF st j S) w aside thought fresh mu th mp mf mh mg ou od) 0 [some (.ref (k.b + (45 + 12 * j.val + 9))), some (.ref (k.b + (45 + 12 * i.val + 9)))] []
  unfold f7_copyFrom at hf
  refine r_aload_n X (x := k.b + (45 + 12 * j.val + 9)) dX7_copyFrom_0 rfl ?_
  refine r_aload_n X (x := k.b + (45 + 12 * i.val + 9)) dX7_copyFrom_1 rfl ?_
  refine r_getfield X (v := .int (SS_kept (st i))) clsX7 flX7_7 (Nat.le_of_ble_eq_true rfl) _ (o_tl2 hij _) rfl dX7_copyFrom_2 ?_
  refine r_putfield X (ws1 := wAll k T R ly rc hn rp tp ee (updF st j (SS_set_kept S (SS_kept (st i)))) w aside thought fresh mu th mp mf mh mg ou od) clsX7 flX7_7 (Nat.le_of_ble_eq_true rfl) rfl rfl rfl _ (o_tl1 j _) (Nat.le_of_ble_eq_true rfl) (s_st_kept j S (SS_kept (st i))) dX7_copyFrom_5 ?_
  refine r_aload_n X (x := k.b + (45 + 12 * j.val + 9)) dX7_copyFrom_8 rfl ?_
  refine r_aload_n X (x := k.b + (45 + 12 * i.val + 9)) dX7_copyFrom_9 rfl ?_
  refine r_getfield X (v := .int (SS_next (st i))) clsX7 flX7_13 (Nat.le_of_ble_eq_true rfl) _ (o_tl2 hij _) rfl dX7_copyFrom_10 ?_
  refine r_putfield X (ws1 := wAll k T R ly rc hn rp tp ee (updF st j (SS_set_next (SS_set_kept S (SS_kept (st i))) (SS_next (st i)))) w aside thought fresh mu th mp mf mh mg ou od) clsX7 flX7_13 (Nat.le_of_ble_eq_true rfl) rfl rfl rfl _ (o_tl1 j _) (Nat.le_of_ble_eq_true rfl) (s_st_next j (SS_set_kept S (SS_kept (st i))) (SS_next (st i))) dX7_copyFrom_13 ?_
  refine r_aload_n X (x := k.b + (45 + 12 * i.val + 9)) dX7_copyFrom_16 rfl ?_
  refine r_getfield X (v := .ref (k.b + (45 + 12 * i.val + 10))) clsX7 flX7_16 (Nat.le_of_ble_eq_true rfl) _ (o_tl2 hij _) rfl dX7_copyFrom_17 ?_
  refine r_iconst X (v := 0) dX7_copyFrom_20 rfl ?_
  refine r_aload_n X (x := k.b + (45 + 12 * j.val + 9)) dX7_copyFrom_21 rfl ?_
  refine r_getfield X (v := .ref (k.b + (45 + 12 * j.val + 10))) clsX7 flX7_16 (Nat.le_of_ble_eq_true rfl) _ (o_tl1 j _) rfl dX7_copyFrom_22 ?_
  refine r_iconst X (v := 0) dX7_copyFrom_25 rfl ?_
  refine r_bipush X (v := 40) dX7_copyFrom_26 rfl ?_
  refine r_copyi X (f := SS_facts (st i)) (g := SS_facts S) (m := 40) (ws1 := wAll k T R ly rc hn rp tp ee (updF st j (SS_set_facts (SS_set_next (SS_set_kept S (SS_kept (st i))) (SS_next (st i))) (va_cpy (SS_facts (st i)) (SS_facts S) 0 0 40))) w aside thought fresh mu th mp mf mh mg ou od) lkX7_24 _ _ (a_st2_facts hij _) (heI (a_st1_facts j _) ((SS_facts_set_next _ _).trans (SS_facts_set_kept _ _))) (by decide) (by decide) (Nat.le_of_ble_eq_true rfl) (Nat.le_of_ble_eq_true rfl) (s_st_facts j (SS_set_next (SS_set_kept S (SS_kept (st i))) (SS_next (st i))) (va_cpy (SS_facts (st i)) (SS_facts S) 0 0 40)) rfl (cpR (Nat.le_of_ble_eq_true rfl) (Nat.le_of_ble_eq_true rfl)) dX7_copyFrom_28 ?_
  refine r_aload_n X (x := k.b + (45 + 12 * i.val + 9)) dX7_copyFrom_31 rfl ?_
  refine r_getfield X (v := .ref (k.b + (45 + 12 * i.val + 11))) clsX7 flX7_20 (Nat.le_of_ble_eq_true rfl) _ (o_tl2 hij _) rfl dX7_copyFrom_32 ?_
  refine r_iconst X (v := 0) dX7_copyFrom_35 rfl ?_
  refine r_aload_n X (x := k.b + (45 + 12 * j.val + 9)) dX7_copyFrom_36 rfl ?_
  refine r_getfield X (v := .ref (k.b + (45 + 12 * j.val + 11))) clsX7 flX7_20 (Nat.le_of_ble_eq_true rfl) _ (o_tl1 j _) rfl dX7_copyFrom_37 ?_
  refine r_iconst X (v := 0) dX7_copyFrom_40 rfl ?_
  refine r_bipush X (v := 20) dX7_copyFrom_41 rfl ?_
  refine r_copyl X (f := SS_rises (st i)) (g := SS_rises S) (m := 20) (ws1 := wAll k T R ly rc hn rp tp ee (updF st j (SS_set_rises (SS_set_facts (SS_set_next (SS_set_kept S (SS_kept (st i))) (SS_next (st i))) (va_cpy (SS_facts (st i)) (SS_facts S) 0 0 40)) (va_cpy (SS_rises (st i)) (SS_rises S) 0 0 20))) w aside thought fresh mu th mp mf mh mg ou od) lkX7_24 _ _ (a_st2_rises hij _) (heL (a_st1_rises j _) ((SS_rises_set_facts _ _).trans ((SS_rises_set_next _ _).trans (SS_rises_set_kept _ _)))) (by decide) (by decide) (Nat.le_of_ble_eq_true rfl) (Nat.le_of_ble_eq_true rfl) (s_st_rises j (SS_set_facts (SS_set_next (SS_set_kept S (SS_kept (st i))) (SS_next (st i))) (va_cpy (SS_facts (st i)) (SS_facts S) 0 0 40)) (va_cpy (SS_rises (st i)) (SS_rises S) 0 0 20)) rfl (cpR (Nat.le_of_ble_eq_true rfl) (Nat.le_of_ble_eq_true rfl)) dX7_copyFrom_43 ?_
  obtain rfl := Option.some.inj hf
  exact r_return X hQ rfl rfl (Nat.le_of_ble_eq_true rfl) (Nat.le_of_ble_eq_true rfl) dX7_copyFrom_46
set_option maxRecDepth 100000 in
set_option maxHeartbeats 4000000 in
theorem K5_copyFrom {k : KT} {T : TT} {R : RR} {ly : Fin 2 → LL} {rc : RC} {hn : HN} {rp : RP} {tp : TP} {ee : EE} {st : Fin 12 → SS} {w : Nat → Int64} {aside : Nat → Int64} {thought : Nat → Int64} {fresh : Nat → Int64} {mu : MU} {th : Int32} {mp : MP} {mf : MF} {mh : MH} {mg : MG} {ou : Nat → Int64} {od : Nat → UInt64} {j : Fin 12} {i : Fin 12} {S : SS}  {r : (SS)} (hij : i ≠ j) (hf : f5_copyFrom (st i) S  = some r) : CT k strs yX5_copyFrom cX5_copyFrom 2 none (rmD 2 0 0) 0 0 [.ref (k.b + (45 + 12 * j.val)), .ref (k.b + (45 + 12 * i.val))] (wAll k T R ly rc hn rp tp ee (updF st j S) w aside thought fresh mu th mp mf mh mg ou od) (none) (wAll k T R ly rc hn rp tp ee (updF st j r) w aside thought fresh mu th mp mf mh mg ou od) := by
  refine CT.of (by decide) (Nat.le_of_ble_eq_true rfl) ?_
  intro z X hQ
  show VW k z 0 0 (wAll k T R ly rc hn rp tp ee (updF st j S) w aside thought fresh mu th mp mf mh mg ou od) 0 [some (.ref (k.b + (45 + 12 * j.val))), some (.ref (k.b + (45 + 12 * i.val)))] []
  unfold f5_copyFrom at hf
  refine r_aload_n X (x := k.b + (45 + 12 * j.val)) dX5_copyFrom_0 rfl ?_
  refine r_aload_n X (x := k.b + (45 + 12 * i.val)) dX5_copyFrom_1 rfl ?_
  refine r_getfield X (v := .int (SS_time (st i))) clsX5 flX5_9 (Nat.le_of_ble_eq_true rfl) _ (o_st2 hij _) rfl dX5_copyFrom_2 ?_
  refine r_putfield X (ws1 := wAll k T R ly rc hn rp tp ee (updF st j (SS_set_time S (SS_time (st i)))) w aside thought fresh mu th mp mf mh mg ou od) clsX5 flX5_9 (Nat.le_of_ble_eq_true rfl) rfl rfl rfl _ (o_st1 j _) (Nat.le_of_ble_eq_true rfl) (s_st_time j S (SS_time (st i))) dX5_copyFrom_5 ?_
  refine r_aload_n X (x := k.b + (45 + 12 * j.val)) dX5_copyFrom_8 rfl ?_
  refine r_aload_n X (x := k.b + (45 + 12 * i.val)) dX5_copyFrom_9 rfl ?_
  refine r_getfield X (v := .int (SS_openValves (st i))) clsX5 flX5_15 (Nat.le_of_ble_eq_true rfl) _ (o_st2 hij _) rfl dX5_copyFrom_10 ?_
  refine r_putfield X (ws1 := wAll k T R ly rc hn rp tp ee (updF st j (SS_set_openValves (SS_set_time S (SS_time (st i))) (SS_openValves (st i)))) w aside thought fresh mu th mp mf mh mg ou od) clsX5 flX5_15 (Nat.le_of_ble_eq_true rfl) rfl rfl rfl _ (o_st1 j _) (Nat.le_of_ble_eq_true rfl) (s_st_openValves j (SS_set_time S (SS_time (st i))) (SS_openValves (st i))) dX5_copyFrom_13 ?_
  refine r_aload_n X (x := k.b + (45 + 12 * j.val)) dX5_copyFrom_16 rfl ?_
  refine r_aload_n X (x := k.b + (45 + 12 * i.val)) dX5_copyFrom_17 rfl ?_
  refine r_getfield X (v := .int (SS_runningPumps (st i))) clsX5 flX5_18 (Nat.le_of_ble_eq_true rfl) _ (o_st2 hij _) rfl dX5_copyFrom_18 ?_
  refine r_putfield X (ws1 := wAll k T R ly rc hn rp tp ee (updF st j (SS_set_runningPumps (SS_set_openValves (SS_set_time S (SS_time (st i))) (SS_openValves (st i))) (SS_runningPumps (st i)))) w aside thought fresh mu th mp mf mh mg ou od) clsX5 flX5_18 (Nat.le_of_ble_eq_true rfl) rfl rfl rfl _ (o_st1 j _) (Nat.le_of_ble_eq_true rfl) (s_st_runningPumps j (SS_set_openValves (SS_set_time S (SS_time (st i))) (SS_openValves (st i))) (SS_runningPumps (st i))) dX5_copyFrom_21 ?_
  refine r_aload_n X (x := k.b + (45 + 12 * i.val)) dX5_copyFrom_24 rfl ?_
  refine r_getfield X (v := .ref (k.b + (45 + 12 * i.val + 1))) clsX5 flX5_21 (Nat.le_of_ble_eq_true rfl) _ (o_st2 hij _) rfl dX5_copyFrom_25 ?_
  refine r_iconst X (v := 0) dX5_copyFrom_28 rfl ?_
  refine r_aload_n X (x := k.b + (45 + 12 * j.val)) dX5_copyFrom_29 rfl ?_
  refine r_getfield X (v := .ref (k.b + (45 + 12 * j.val + 1))) clsX5 flX5_21 (Nat.le_of_ble_eq_true rfl) _ (o_st1 j _) rfl dX5_copyFrom_30 ?_
  refine r_iconst X (v := 0) dX5_copyFrom_33 rfl ?_
  refine r_bipush X (v := 8) dX5_copyFrom_34 rfl ?_
  refine r_copyl X (f := SS_gas (st i)) (g := SS_gas S) (m := 8) (ws1 := wAll k T R ly rc hn rp tp ee (updF st j (SS_set_gas (SS_set_runningPumps (SS_set_openValves (SS_set_time S (SS_time (st i))) (SS_openValves (st i))) (SS_runningPumps (st i))) (va_cpy (SS_gas (st i)) (SS_gas S) 0 0 8))) w aside thought fresh mu th mp mf mh mg ou od) lkX5_98 _ _ (a_st2_gas hij _) (heL (a_st1_gas j _) ((SS_gas_set_runningPumps _ _).trans ((SS_gas_set_openValves _ _).trans (SS_gas_set_time _ _)))) (by decide) (by decide) (Nat.le_of_ble_eq_true rfl) (Nat.le_of_ble_eq_true rfl) (s_st_gas j (SS_set_runningPumps (SS_set_openValves (SS_set_time S (SS_time (st i))) (SS_openValves (st i))) (SS_runningPumps (st i))) (va_cpy (SS_gas (st i)) (SS_gas S) 0 0 8)) rfl (cpR (Nat.le_of_ble_eq_true rfl) (Nat.le_of_ble_eq_true rfl)) dX5_copyFrom_36 ?_
  refine r_aload_n X (x := k.b + (45 + 12 * i.val)) dX5_copyFrom_39 rfl ?_
  refine r_getfield X (v := .ref (k.b + (45 + 12 * i.val + 2))) clsX5 flX5_25 (Nat.le_of_ble_eq_true rfl) _ (o_st2 hij _) rfl dX5_copyFrom_40 ?_
  refine r_iconst X (v := 0) dX5_copyFrom_43 rfl ?_
  refine r_aload_n X (x := k.b + (45 + 12 * j.val)) dX5_copyFrom_44 rfl ?_
  refine r_getfield X (v := .ref (k.b + (45 + 12 * j.val + 2))) clsX5 flX5_25 (Nat.le_of_ble_eq_true rfl) _ (o_st1 j _) rfl dX5_copyFrom_45 ?_
  refine r_iconst X (v := 0) dX5_copyFrom_48 rfl ?_
  refine r_bipush X (v := 8) dX5_copyFrom_49 rfl ?_
  refine r_copyi X (f := SS_pressure (st i)) (g := SS_pressure S) (m := 8) (ws1 := wAll k T R ly rc hn rp tp ee (updF st j (SS_set_pressure (SS_set_gas (SS_set_runningPumps (SS_set_openValves (SS_set_time S (SS_time (st i))) (SS_openValves (st i))) (SS_runningPumps (st i))) (va_cpy (SS_gas (st i)) (SS_gas S) 0 0 8)) (va_cpy (SS_pressure (st i)) (SS_pressure S) 0 0 8))) w aside thought fresh mu th mp mf mh mg ou od) lkX5_98 _ _ (a_st2_pressure hij _) (heI (a_st1_pressure j _) ((SS_pressure_set_gas _ _).trans ((SS_pressure_set_runningPumps _ _).trans ((SS_pressure_set_openValves _ _).trans (SS_pressure_set_time _ _))))) (by decide) (by decide) (Nat.le_of_ble_eq_true rfl) (Nat.le_of_ble_eq_true rfl) (s_st_pressure j (SS_set_gas (SS_set_runningPumps (SS_set_openValves (SS_set_time S (SS_time (st i))) (SS_openValves (st i))) (SS_runningPumps (st i))) (va_cpy (SS_gas (st i)) (SS_gas S) 0 0 8)) (va_cpy (SS_pressure (st i)) (SS_pressure S) 0 0 8)) rfl (cpR (Nat.le_of_ble_eq_true rfl) (Nat.le_of_ble_eq_true rfl)) dX5_copyFrom_51 ?_
  refine r_aload_n X (x := k.b + (45 + 12 * i.val)) dX5_copyFrom_54 rfl ?_
  refine r_getfield X (v := .ref (k.b + (45 + 12 * i.val + 3))) clsX5 flX5_29 (Nat.le_of_ble_eq_true rfl) _ (o_st2 hij _) rfl dX5_copyFrom_55 ?_
  refine r_iconst X (v := 0) dX5_copyFrom_58 rfl ?_
  refine r_aload_n X (x := k.b + (45 + 12 * j.val)) dX5_copyFrom_59 rfl ?_
  refine r_getfield X (v := .ref (k.b + (45 + 12 * j.val + 3))) clsX5 flX5_29 (Nat.le_of_ble_eq_true rfl) _ (o_st1 j _) rfl dX5_copyFrom_60 ?_
  refine r_iconst X (v := 0) dX5_copyFrom_63 rfl ?_
  refine r_bipush X (v := 8) dX5_copyFrom_64 rfl ?_
  refine r_copyi X (f := SS_outgassing (st i)) (g := SS_outgassing S) (m := 8) (ws1 := wAll k T R ly rc hn rp tp ee (updF st j (SS_set_outgassing (SS_set_pressure (SS_set_gas (SS_set_runningPumps (SS_set_openValves (SS_set_time S (SS_time (st i))) (SS_openValves (st i))) (SS_runningPumps (st i))) (va_cpy (SS_gas (st i)) (SS_gas S) 0 0 8)) (va_cpy (SS_pressure (st i)) (SS_pressure S) 0 0 8)) (va_cpy (SS_outgassing (st i)) (SS_outgassing S) 0 0 8))) w aside thought fresh mu th mp mf mh mg ou od) lkX5_98 _ _ (a_st2_outgassing hij _) (heI (a_st1_outgassing j _) ((SS_outgassing_set_pressure _ _).trans ((SS_outgassing_set_gas _ _).trans ((SS_outgassing_set_runningPumps _ _).trans ((SS_outgassing_set_openValves _ _).trans (SS_outgassing_set_time _ _)))))) (by decide) (by decide) (Nat.le_of_ble_eq_true rfl) (Nat.le_of_ble_eq_true rfl) (s_st_outgassing j (SS_set_pressure (SS_set_gas (SS_set_runningPumps (SS_set_openValves (SS_set_time S (SS_time (st i))) (SS_openValves (st i))) (SS_runningPumps (st i))) (va_cpy (SS_gas (st i)) (SS_gas S) 0 0 8)) (va_cpy (SS_pressure (st i)) (SS_pressure S) 0 0 8)) (va_cpy (SS_outgassing (st i)) (SS_outgassing S) 0 0 8)) rfl (cpR (Nat.le_of_ble_eq_true rfl) (Nat.le_of_ble_eq_true rfl)) dX5_copyFrom_66 ?_
  refine r_aload_n X (x := k.b + (45 + 12 * i.val)) dX5_copyFrom_69 rfl ?_
  refine r_getfield X (v := .ref (k.b + (45 + 12 * i.val + 4))) clsX5 flX5_32 (Nat.le_of_ble_eq_true rfl) _ (o_st2 hij _) rfl dX5_copyFrom_70 ?_
  refine r_iconst X (v := 0) dX5_copyFrom_73 rfl ?_
  refine r_aload_n X (x := k.b + (45 + 12 * j.val)) dX5_copyFrom_74 rfl ?_
  refine r_getfield X (v := .ref (k.b + (45 + 12 * j.val + 4))) clsX5 flX5_32 (Nat.le_of_ble_eq_true rfl) _ (o_st1 j _) rfl dX5_copyFrom_75 ?_
  refine r_iconst X (v := 0) dX5_copyFrom_78 rfl ?_
  refine r_bipush X (v := 8) dX5_copyFrom_79 rfl ?_
  refine r_copyi X (f := SS_leakSum (st i)) (g := SS_leakSum S) (m := 8) (ws1 := wAll k T R ly rc hn rp tp ee (updF st j (SS_set_leakSum (SS_set_outgassing (SS_set_pressure (SS_set_gas (SS_set_runningPumps (SS_set_openValves (SS_set_time S (SS_time (st i))) (SS_openValves (st i))) (SS_runningPumps (st i))) (va_cpy (SS_gas (st i)) (SS_gas S) 0 0 8)) (va_cpy (SS_pressure (st i)) (SS_pressure S) 0 0 8)) (va_cpy (SS_outgassing (st i)) (SS_outgassing S) 0 0 8)) (va_cpy (SS_leakSum (st i)) (SS_leakSum S) 0 0 8))) w aside thought fresh mu th mp mf mh mg ou od) lkX5_98 _ _ (a_st2_leakSum hij _) (heI (a_st1_leakSum j _) ((SS_leakSum_set_outgassing _ _).trans ((SS_leakSum_set_pressure _ _).trans ((SS_leakSum_set_gas _ _).trans ((SS_leakSum_set_runningPumps _ _).trans ((SS_leakSum_set_openValves _ _).trans (SS_leakSum_set_time _ _))))))) (by decide) (by decide) (Nat.le_of_ble_eq_true rfl) (Nat.le_of_ble_eq_true rfl) (s_st_leakSum j (SS_set_outgassing (SS_set_pressure (SS_set_gas (SS_set_runningPumps (SS_set_openValves (SS_set_time S (SS_time (st i))) (SS_openValves (st i))) (SS_runningPumps (st i))) (va_cpy (SS_gas (st i)) (SS_gas S) 0 0 8)) (va_cpy (SS_pressure (st i)) (SS_pressure S) 0 0 8)) (va_cpy (SS_outgassing (st i)) (SS_outgassing S) 0 0 8)) (va_cpy (SS_leakSum (st i)) (SS_leakSum S) 0 0 8)) rfl (cpR (Nat.le_of_ble_eq_true rfl) (Nat.le_of_ble_eq_true rfl)) dX5_copyFrom_81 ?_
  refine r_aload_n X (x := k.b + (45 + 12 * i.val)) dX5_copyFrom_84 rfl ?_
  refine r_getfield X (v := .ref (k.b + (45 + 12 * i.val + 5))) clsX5 flX5_35 (Nat.le_of_ble_eq_true rfl) _ (o_st2 hij _) rfl dX5_copyFrom_85 ?_
  refine r_iconst X (v := 0) dX5_copyFrom_88 rfl ?_
  refine r_aload_n X (x := k.b + (45 + 12 * j.val)) dX5_copyFrom_89 rfl ?_
  refine r_getfield X (v := .ref (k.b + (45 + 12 * j.val + 5))) clsX5 flX5_35 (Nat.le_of_ble_eq_true rfl) _ (o_st1 j _) rfl dX5_copyFrom_90 ?_
  refine r_iconst X (v := 0) dX5_copyFrom_93 rfl ?_
  refine r_bipush X (v := 10) dX5_copyFrom_94 rfl ?_
  refine r_copyi X (f := SS_rule (st i)) (g := SS_rule S) (m := 10) (ws1 := wAll k T R ly rc hn rp tp ee (updF st j (SS_set_rule (SS_set_leakSum (SS_set_outgassing (SS_set_pressure (SS_set_gas (SS_set_runningPumps (SS_set_openValves (SS_set_time S (SS_time (st i))) (SS_openValves (st i))) (SS_runningPumps (st i))) (va_cpy (SS_gas (st i)) (SS_gas S) 0 0 8)) (va_cpy (SS_pressure (st i)) (SS_pressure S) 0 0 8)) (va_cpy (SS_outgassing (st i)) (SS_outgassing S) 0 0 8)) (va_cpy (SS_leakSum (st i)) (SS_leakSum S) 0 0 8)) (va_cpy (SS_rule (st i)) (SS_rule S) 0 0 10))) w aside thought fresh mu th mp mf mh mg ou od) lkX5_98 _ _ (a_st2_rule hij _) (heI (a_st1_rule j _) ((SS_rule_set_leakSum _ _).trans ((SS_rule_set_outgassing _ _).trans ((SS_rule_set_pressure _ _).trans ((SS_rule_set_gas _ _).trans ((SS_rule_set_runningPumps _ _).trans ((SS_rule_set_openValves _ _).trans (SS_rule_set_time _ _)))))))) (by decide) (by decide) (Nat.le_of_ble_eq_true rfl) (Nat.le_of_ble_eq_true rfl) (s_st_rule j (SS_set_leakSum (SS_set_outgassing (SS_set_pressure (SS_set_gas (SS_set_runningPumps (SS_set_openValves (SS_set_time S (SS_time (st i))) (SS_openValves (st i))) (SS_runningPumps (st i))) (va_cpy (SS_gas (st i)) (SS_gas S) 0 0 8)) (va_cpy (SS_pressure (st i)) (SS_pressure S) 0 0 8)) (va_cpy (SS_outgassing (st i)) (SS_outgassing S) 0 0 8)) (va_cpy (SS_leakSum (st i)) (SS_leakSum S) 0 0 8)) (va_cpy (SS_rule (st i)) (SS_rule S) 0 0 10)) rfl (cpR (Nat.le_of_ble_eq_true rfl) (Nat.le_of_ble_eq_true rfl)) dX5_copyFrom_96 ?_
  refine r_aload_n X (x := k.b + (45 + 12 * i.val)) dX5_copyFrom_99 rfl ?_
  refine r_getfield X (v := .ref (k.b + (45 + 12 * i.val + 6))) clsX5 flX5_38 (Nat.le_of_ble_eq_true rfl) _ (o_st2 hij _) rfl dX5_copyFrom_100 ?_
  refine r_iconst X (v := 0) dX5_copyFrom_103 rfl ?_
  refine r_aload_n X (x := k.b + (45 + 12 * j.val)) dX5_copyFrom_104 rfl ?_
  refine r_getfield X (v := .ref (k.b + (45 + 12 * j.val + 6))) clsX5 flX5_38 (Nat.le_of_ble_eq_true rfl) _ (o_st1 j _) rfl dX5_copyFrom_105 ?_
  refine r_iconst X (v := 0) dX5_copyFrom_108 rfl ?_
  refine r_bipush X (v := 10) dX5_copyFrom_109 rfl ?_
  refine r_copyi X (f := SS_valveTrips (st i)) (g := SS_valveTrips S) (m := 10) (ws1 := wAll k T R ly rc hn rp tp ee (updF st j (SS_set_valveTrips (SS_set_rule (SS_set_leakSum (SS_set_outgassing (SS_set_pressure (SS_set_gas (SS_set_runningPumps (SS_set_openValves (SS_set_time S (SS_time (st i))) (SS_openValves (st i))) (SS_runningPumps (st i))) (va_cpy (SS_gas (st i)) (SS_gas S) 0 0 8)) (va_cpy (SS_pressure (st i)) (SS_pressure S) 0 0 8)) (va_cpy (SS_outgassing (st i)) (SS_outgassing S) 0 0 8)) (va_cpy (SS_leakSum (st i)) (SS_leakSum S) 0 0 8)) (va_cpy (SS_rule (st i)) (SS_rule S) 0 0 10)) (va_cpy (SS_valveTrips (st i)) (SS_valveTrips S) 0 0 10))) w aside thought fresh mu th mp mf mh mg ou od) lkX5_98 _ _ (a_st2_valveTrips hij _) (heI (a_st1_valveTrips j _) ((SS_valveTrips_set_rule _ _).trans ((SS_valveTrips_set_leakSum _ _).trans ((SS_valveTrips_set_outgassing _ _).trans ((SS_valveTrips_set_pressure _ _).trans ((SS_valveTrips_set_gas _ _).trans ((SS_valveTrips_set_runningPumps _ _).trans ((SS_valveTrips_set_openValves _ _).trans (SS_valveTrips_set_time _ _))))))))) (by decide) (by decide) (Nat.le_of_ble_eq_true rfl) (Nat.le_of_ble_eq_true rfl) (s_st_valveTrips j (SS_set_rule (SS_set_leakSum (SS_set_outgassing (SS_set_pressure (SS_set_gas (SS_set_runningPumps (SS_set_openValves (SS_set_time S (SS_time (st i))) (SS_openValves (st i))) (SS_runningPumps (st i))) (va_cpy (SS_gas (st i)) (SS_gas S) 0 0 8)) (va_cpy (SS_pressure (st i)) (SS_pressure S) 0 0 8)) (va_cpy (SS_outgassing (st i)) (SS_outgassing S) 0 0 8)) (va_cpy (SS_leakSum (st i)) (SS_leakSum S) 0 0 8)) (va_cpy (SS_rule (st i)) (SS_rule S) 0 0 10)) (va_cpy (SS_valveTrips (st i)) (SS_valveTrips S) 0 0 10)) rfl (cpR (Nat.le_of_ble_eq_true rfl) (Nat.le_of_ble_eq_true rfl)) dX5_copyFrom_111 ?_
  refine r_aload_n X (x := k.b + (45 + 12 * i.val)) dX5_copyFrom_114 rfl ?_
  refine r_getfield X (v := .ref (k.b + (45 + 12 * i.val + 7))) clsX5 flX5_41 (Nat.le_of_ble_eq_true rfl) _ (o_st2 hij _) rfl dX5_copyFrom_115 ?_
  refine r_iconst X (v := 0) dX5_copyFrom_118 rfl ?_
  refine r_aload_n X (x := k.b + (45 + 12 * j.val)) dX5_copyFrom_119 rfl ?_
  refine r_getfield X (v := .ref (k.b + (45 + 12 * j.val + 7))) clsX5 flX5_41 (Nat.le_of_ble_eq_true rfl) _ (o_st1 j _) rfl dX5_copyFrom_120 ?_
  refine r_iconst X (v := 0) dX5_copyFrom_123 rfl ?_
  refine r_bipush X (v := 6) dX5_copyFrom_124 rfl ?_
  refine r_copyi X (f := SS_pumpTrips (st i)) (g := SS_pumpTrips S) (m := 6) (ws1 := wAll k T R ly rc hn rp tp ee (updF st j (SS_set_pumpTrips (SS_set_valveTrips (SS_set_rule (SS_set_leakSum (SS_set_outgassing (SS_set_pressure (SS_set_gas (SS_set_runningPumps (SS_set_openValves (SS_set_time S (SS_time (st i))) (SS_openValves (st i))) (SS_runningPumps (st i))) (va_cpy (SS_gas (st i)) (SS_gas S) 0 0 8)) (va_cpy (SS_pressure (st i)) (SS_pressure S) 0 0 8)) (va_cpy (SS_outgassing (st i)) (SS_outgassing S) 0 0 8)) (va_cpy (SS_leakSum (st i)) (SS_leakSum S) 0 0 8)) (va_cpy (SS_rule (st i)) (SS_rule S) 0 0 10)) (va_cpy (SS_valveTrips (st i)) (SS_valveTrips S) 0 0 10)) (va_cpy (SS_pumpTrips (st i)) (SS_pumpTrips S) 0 0 6))) w aside thought fresh mu th mp mf mh mg ou od) lkX5_98 _ _ (a_st2_pumpTrips hij _) (heI (a_st1_pumpTrips j _) ((SS_pumpTrips_set_valveTrips _ _).trans ((SS_pumpTrips_set_rule _ _).trans ((SS_pumpTrips_set_leakSum _ _).trans ((SS_pumpTrips_set_outgassing _ _).trans ((SS_pumpTrips_set_pressure _ _).trans ((SS_pumpTrips_set_gas _ _).trans ((SS_pumpTrips_set_runningPumps _ _).trans ((SS_pumpTrips_set_openValves _ _).trans (SS_pumpTrips_set_time _ _)))))))))) (by decide) (by decide) (Nat.le_of_ble_eq_true rfl) (Nat.le_of_ble_eq_true rfl) (s_st_pumpTrips j (SS_set_valveTrips (SS_set_rule (SS_set_leakSum (SS_set_outgassing (SS_set_pressure (SS_set_gas (SS_set_runningPumps (SS_set_openValves (SS_set_time S (SS_time (st i))) (SS_openValves (st i))) (SS_runningPumps (st i))) (va_cpy (SS_gas (st i)) (SS_gas S) 0 0 8)) (va_cpy (SS_pressure (st i)) (SS_pressure S) 0 0 8)) (va_cpy (SS_outgassing (st i)) (SS_outgassing S) 0 0 8)) (va_cpy (SS_leakSum (st i)) (SS_leakSum S) 0 0 8)) (va_cpy (SS_rule (st i)) (SS_rule S) 0 0 10)) (va_cpy (SS_valveTrips (st i)) (SS_valveTrips S) 0 0 10)) (va_cpy (SS_pumpTrips (st i)) (SS_pumpTrips S) 0 0 6)) rfl (cpR (Nat.le_of_ble_eq_true rfl) (Nat.le_of_ble_eq_true rfl)) dX5_copyFrom_126 ?_
  refine r_aload_n X (x := k.b + (45 + 12 * i.val)) dX5_copyFrom_129 rfl ?_
  refine r_getfield X (v := .ref (k.b + (45 + 12 * i.val + 8))) clsX5 flX5_44 (Nat.le_of_ble_eq_true rfl) _ (o_st2 hij _) rfl dX5_copyFrom_130 ?_
  refine r_iconst X (v := 0) dX5_copyFrom_133 rfl ?_
  refine r_aload_n X (x := k.b + (45 + 12 * j.val)) dX5_copyFrom_134 rfl ?_
  refine r_getfield X (v := .ref (k.b + (45 + 12 * j.val + 8))) clsX5 flX5_44 (Nat.le_of_ble_eq_true rfl) _ (o_st1 j _) rfl dX5_copyFrom_135 ?_
  refine r_iconst X (v := 0) dX5_copyFrom_138 rfl ?_
  refine r_bipush X (v := 24) dX5_copyFrom_139 rfl ?_
  refine r_copyi X (f := SS_leak (st i)) (g := SS_leak S) (m := 24) (ws1 := wAll k T R ly rc hn rp tp ee (updF st j (SS_set_leak (SS_set_pumpTrips (SS_set_valveTrips (SS_set_rule (SS_set_leakSum (SS_set_outgassing (SS_set_pressure (SS_set_gas (SS_set_runningPumps (SS_set_openValves (SS_set_time S (SS_time (st i))) (SS_openValves (st i))) (SS_runningPumps (st i))) (va_cpy (SS_gas (st i)) (SS_gas S) 0 0 8)) (va_cpy (SS_pressure (st i)) (SS_pressure S) 0 0 8)) (va_cpy (SS_outgassing (st i)) (SS_outgassing S) 0 0 8)) (va_cpy (SS_leakSum (st i)) (SS_leakSum S) 0 0 8)) (va_cpy (SS_rule (st i)) (SS_rule S) 0 0 10)) (va_cpy (SS_valveTrips (st i)) (SS_valveTrips S) 0 0 10)) (va_cpy (SS_pumpTrips (st i)) (SS_pumpTrips S) 0 0 6)) (va_cpy (SS_leak (st i)) (SS_leak S) 0 0 24))) w aside thought fresh mu th mp mf mh mg ou od) lkX5_98 _ _ (a_st2_leak hij _) (heI (a_st1_leak j _) ((SS_leak_set_pumpTrips _ _).trans ((SS_leak_set_valveTrips _ _).trans ((SS_leak_set_rule _ _).trans ((SS_leak_set_leakSum _ _).trans ((SS_leak_set_outgassing _ _).trans ((SS_leak_set_pressure _ _).trans ((SS_leak_set_gas _ _).trans ((SS_leak_set_runningPumps _ _).trans ((SS_leak_set_openValves _ _).trans (SS_leak_set_time _ _))))))))))) (by decide) (by decide) (Nat.le_of_ble_eq_true rfl) (Nat.le_of_ble_eq_true rfl) (s_st_leak j (SS_set_pumpTrips (SS_set_valveTrips (SS_set_rule (SS_set_leakSum (SS_set_outgassing (SS_set_pressure (SS_set_gas (SS_set_runningPumps (SS_set_openValves (SS_set_time S (SS_time (st i))) (SS_openValves (st i))) (SS_runningPumps (st i))) (va_cpy (SS_gas (st i)) (SS_gas S) 0 0 8)) (va_cpy (SS_pressure (st i)) (SS_pressure S) 0 0 8)) (va_cpy (SS_outgassing (st i)) (SS_outgassing S) 0 0 8)) (va_cpy (SS_leakSum (st i)) (SS_leakSum S) 0 0 8)) (va_cpy (SS_rule (st i)) (SS_rule S) 0 0 10)) (va_cpy (SS_valveTrips (st i)) (SS_valveTrips S) 0 0 10)) (va_cpy (SS_pumpTrips (st i)) (SS_pumpTrips S) 0 0 6)) (va_cpy (SS_leak (st i)) (SS_leak S) 0 0 24)) rfl (cpR (Nat.le_of_ble_eq_true rfl) (Nat.le_of_ble_eq_true rfl)) dX5_copyFrom_141 ?_
  refine r_aload_n X (x := k.b + (45 + 12 * j.val)) dX5_copyFrom_144 rfl ?_
  refine r_getfield X (v := .ref (k.b + (45 + 12 * j.val + 9))) clsX5 flX5_50 (Nat.le_of_ble_eq_true rfl) _ (o_st1 j _) rfl dX5_copyFrom_145 ?_
  refine r_aload_n X (x := k.b + (45 + 12 * i.val)) dX5_copyFrom_148 rfl ?_
  refine r_getfield X (v := .ref (k.b + (45 + 12 * i.val + 9))) clsX5 flX5_50 (Nat.le_of_ble_eq_true rfl) _ (o_st2 hij _) rfl dX5_copyFrom_149 ?_
  obtain ⟨u152, h152, hf⟩ := bdS hf
  refine r_callV0 X [.ref (k.b + (45 + 12 * i.val + 9))] [] (K7_copyFrom hij h152) lkX5_104 clsX7 rfl _ (o_tl1 j _) (by decide) (Nat.le_of_ble_eq_true rfl) rfl rfl (Nat.le_of_ble_eq_true rfl) rfl rfl (Nat.zero_le _) (Nat.zero_le _) dX5_copyFrom_152 ?_
  obtain rfl := Option.some.inj hf
  exact r_return X hQ rfl rfl (Nat.le_of_ble_eq_true rfl) (Nat.le_of_ble_eq_true rfl) dX5_copyFrom_155
set_option maxRecDepth 100000 in
set_option maxHeartbeats 4000000 in
theorem B5_reach_B6 {k : KT} {z : ZT} {T : TT} {R : RR} {ly : Fin 2 → LL} {rc : RC} {hn : HN} {rp : RP} {tp : TP} {ee : EE} {st : Fin 12 → SS} {w : Nat → Int64} {aside : Nat → Int64} {thought : Nat → Int64} {fresh : Nat → Int64} {mu : MU} {th : Int32} {mp : MP} {mf : MF} {mh : MH} {mg : MG} {ou : Nat → Int64} {od : Nat → UInt64} {j : Fin 12} {S : SS} {r : Int32} (X : XX k strs z RX5 cX5_reach 4 (some .int) (rmD 2 0 0)) (hQ : zQ z = MQ (zB z) (Qof k (some (.int r)) (wAll k T R ly rc hn rp tp ee (updF st j S) w aside thought fresh mu th mp mf mh mg ou od)) (zA z) (zS z) 0 0 (kA k)) : ∀ (fu : Nat) (x2 : Int32) (x3 : Int32), f5_reach_B6 (ly (0 : Fin 2)) S fu x2 x3 = some r → VW k z 0 0 (wAll k T R ly rc hn rp tp ee (updF st j S) w aside thought fresh mu th mp mf mh mg ou od) 6 [some (.ref (k.b + (45 + 12 * j.val))), none, some (.int x2), some (.int x3)] [] := by
  intro fu
  induction fu with
  | zero =>
    intro x2 x3 hf
    rw [f5_reach_B6] at hf
    cases hf
  | succ fu ih =>
    intro x2 x3 hf
    rw [f5_reach_B6] at hf
    refine r_iload_n X (x := x3) dX5_reach_6 rfl ?_
    refine r_bipush X (v := 8) dX5_reach_7 rfl ?_
    refine r_icmp_ge X 31 dX5_reach_9 rfl (fun c9 => ?_) (fun c9 => ?_)
    · replace hf := ifT hf c9
      refine r_iload_n X (x := x2) dX5_reach_31 rfl ?_
      obtain rfl := Option.some.inj hf
      exact r_ireturn X hQ rfl rfl (Nat.le_of_ble_eq_true rfl) (Nat.le_of_ble_eq_true rfl) dX5_reach_32
    · replace hf := ifF hf c9
      refine r_aload_n X (x := k.b + (45 + 12 * j.val)) dX5_reach_12 rfl ?_
      refine r_getfield X (v := .ref (k.b + (4 + 17 * (0 : Fin 2).val))) clsX5 flX5_54 (Nat.le_of_ble_eq_true rfl) _ (o_st1 j _) rfl dX5_reach_13 ?_
      refine r_iload_n X (x := x2) dX5_reach_16 rfl ?_
      refine r_aload_n X (x := k.b + (45 + 12 * j.val)) dX5_reach_17 rfl ?_
      refine r_getfield X (v := .int (SS_openValves S)) clsX5 flX5_15 (Nat.le_of_ble_eq_true rfl) _ (o_st1 j _) rfl dX5_reach_18 ?_
      obtain ⟨u21, h21, hf⟩ := bdS hf
      refine r_callV0 X [.int x2, .int (SS_openValves S)] [] (K1_grown h21) lkX5_151 clsX1 rfl _ (o_lay (0 : Fin 2)) (by decide) (Nat.le_of_ble_eq_true rfl) rfl rfl (Nat.le_of_ble_eq_true rfl) rfl rfl (Nat.zero_le _) (Nat.zero_le _) dX5_reach_21 ?_
      refine r_istore_n X [some (.ref (k.b + (45 + 12 * j.val))), none, some (.int u21), some (.int x3)] dX5_reach_24 (Nat.le_of_ble_eq_true rfl) rfl ?_
      refine r_iinc X (x := x3) (v := x3 + 1) [some (.ref (k.b + (45 + 12 * j.val))), none, some (.int u21), some (.int (x3 + 1))] dX5_reach_25 rfl rfl rfl ?_
      refine r_goto X 6 dX5_reach_28 rfl ?_
      exact ih u21 (x3 + 1) hf
set_option maxRecDepth 100000 in
set_option maxHeartbeats 4000000 in
theorem K5_reach {k : KT} {T : TT} {R : RR} {ly : Fin 2 → LL} {rc : RC} {hn : HN} {rp : RP} {tp : TP} {ee : EE} {st : Fin 12 → SS} {w : Nat → Int64} {aside : Nat → Int64} {thought : Nat → Int64} {fresh : Nat → Int64} {mu : MU} {th : Int32} {mp : MP} {mf : MF} {mh : MH} {mg : MG} {ou : Nat → Int64} {od : Nat → UInt64} {j : Fin 12} {S : SS} {x1 : Int32} {r : Int32} (hf : f5_reach (ly (0 : Fin 2)) S  x1 = some r) : CT k strs yX5_reach cX5_reach 4 (some .int) (rmD 2 0 0) 0 0 [.ref (k.b + (45 + 12 * j.val)), .int x1] (wAll k T R ly rc hn rp tp ee (updF st j S) w aside thought fresh mu th mp mf mh mg ou od) (some (.int r)) (wAll k T R ly rc hn rp tp ee (updF st j S) w aside thought fresh mu th mp mf mh mg ou od) := by
  refine CT.of (by decide) (Nat.le_of_ble_eq_true rfl) ?_
  intro z X hQ
  show VW k z 0 0 (wAll k T R ly rc hn rp tp ee (updF st j S) w aside thought fresh mu th mp mf mh mg ou od) 0 [some (.ref (k.b + (45 + 12 * j.val))), some (.int x1), none, none] []
  unfold f5_reach at hf
  refine r_iconst X (v := 1) dX5_reach_0 rfl ?_
  refine r_iload_n X (x := x1) dX5_reach_1 rfl ?_
  refine r_ishl X dX5_reach_2 ?_
  refine r_istore_n X [some (.ref (k.b + (45 + 12 * j.val))), some (.int x1), some (.int (1 <<< (x1 &&& 31))), none] dX5_reach_3 (Nat.le_of_ble_eq_true rfl) rfl ?_
  refine r_iconst X (v := 0) dX5_reach_4 rfl ?_
  refine r_istore_n X [some (.ref (k.b + (45 + 12 * j.val))), some (.int x1), some (.int (1 <<< (x1 &&& 31))), some (.int 0)] dX5_reach_5 (Nat.le_of_ble_eq_true rfl) rfl ?_
  refine VW.msk [true, false, true, true] rfl (lo' := [some (.ref (k.b + (45 + 12 * j.val))), none, some (.int (1 <<< (x1 &&& 31))), some (.int 0)]) rfl ?_
  exact B5_reach_B6 X hQ FU (1 <<< (x1 &&& 31)) 0 hf
set_option maxRecDepth 100000 in
set_option maxHeartbeats 4000000 in
theorem K6_section {k : KT} {T : TT} {R : RR} {ly : Fin 2 → LL} {rc : RC} {hn : HN} {rp : RP} {tp : TP} {ee : EE} {st : Fin 12 → SS} {w : Nat → Int64} {aside : Nat → Int64} {thought : Nat → Int64} {fresh : Nat → Int64} {mu : MU} {th : Int32} {mp : MP} {mf : MF} {mh : MH} {mg : MG} {ou : Nat → Int64} {od : Nat → UInt64}   {r : Int32} (hf : f6_section T R   = some r) : CT k strs yX6_section cX6_section 1 (some .int) (rmD 10 0 0) 0 0 [.ref (k.b + (20))] (wAll k T R ly rc hn rp tp ee st w aside thought fresh mu th mp mf mh mg ou od) (some (.int r)) (wAll k T R ly rc hn rp tp ee st w aside thought fresh mu th mp mf mh mg ou od) := by
  refine CT.of (by decide) (Nat.le_of_ble_eq_true rfl) ?_
  intro z X hQ
  show VW k z 0 0 (wAll k T R ly rc hn rp tp ee st w aside thought fresh mu th mp mf mh mg ou od) 0 [some (.ref (k.b + (20)))] []
  unfold f6_section at hf
  refine r_aload_n X (x := k.b + (20)) dX6_section_0 rfl ?_
  refine r_getfield X (v := .ref (k.b + (3))) clsX6 flX6_18 (Nat.le_of_ble_eq_true rfl) _ o_parser rfl dX6_section_1 ?_
  refine r_ldcS X 0 rfl dX6_section_4 ?_
  obtain ⟨u6, h6, hf⟩ := bdS hf
  refine r_callV0 X [.ref (k.sK 0)] [] (K2_isWord h6) lkX6_72 clsX2 rfl _ o_reader (by decide) (Nat.le_of_ble_eq_true rfl) rfl rfl (Nat.le_of_ble_eq_true rfl) rfl rfl (Nat.zero_le _) (Nat.zero_le _) dX6_section_6 ?_
  refine r_if_eq X 14 dX6_section_9 rfl (fun c9 => ?_) (fun c9 => ?_)
  · replace hf := ifT hf c9
    refine r_aload_n X (x := k.b + (20)) dX6_section_14 rfl ?_
    refine r_getfield X (v := .ref (k.b + (3))) clsX6 flX6_18 (Nat.le_of_ble_eq_true rfl) _ o_parser rfl dX6_section_15 ?_
    refine r_ldcS X 1 rfl dX6_section_18 ?_
    obtain ⟨u20, h20, hf⟩ := bdS hf
    refine r_callV0 X [.ref (k.sK 1)] [] (K2_isWord h20) lkX6_72 clsX2 rfl _ o_reader (by decide) (Nat.le_of_ble_eq_true rfl) rfl rfl (Nat.le_of_ble_eq_true rfl) rfl rfl (Nat.zero_le _) (Nat.zero_le _) dX6_section_20 ?_
    refine r_if_eq X 28 dX6_section_23 rfl (fun c23 => ?_) (fun c23 => ?_)
    · replace hf := ifT hf c23
      refine r_aload_n X (x := k.b + (20)) dX6_section_28 rfl ?_
      refine r_getfield X (v := .ref (k.b + (3))) clsX6 flX6_18 (Nat.le_of_ble_eq_true rfl) _ o_parser rfl dX6_section_29 ?_
      refine r_ldcS X 2 rfl dX6_section_32 ?_
      obtain ⟨u34, h34, hf⟩ := bdS hf
      refine r_callV0 X [.ref (k.sK 2)] [] (K2_isWord h34) lkX6_72 clsX2 rfl _ o_reader (by decide) (Nat.le_of_ble_eq_true rfl) rfl rfl (Nat.le_of_ble_eq_true rfl) rfl rfl (Nat.zero_le _) (Nat.zero_le _) dX6_section_34 ?_
      refine r_if_eq X 42 dX6_section_37 rfl (fun c37 => ?_) (fun c37 => ?_)
      · replace hf := ifT hf c37
        refine r_aload_n X (x := k.b + (20)) dX6_section_42 rfl ?_
        refine r_getfield X (v := .ref (k.b + (3))) clsX6 flX6_18 (Nat.le_of_ble_eq_true rfl) _ o_parser rfl dX6_section_43 ?_
        refine r_ldcS X 3 rfl dX6_section_46 ?_
        obtain ⟨u48, h48, hf⟩ := bdS hf
        refine r_callV0 X [.ref (k.sK 3)] [] (K2_isWord h48) lkX6_72 clsX2 rfl _ o_reader (by decide) (Nat.le_of_ble_eq_true rfl) rfl rfl (Nat.le_of_ble_eq_true rfl) rfl rfl (Nat.zero_le _) (Nat.zero_le _) dX6_section_48 ?_
        suffices K51 : VW k z 0 0 (wAll k T R ly rc hn rp tp ee st w aside thought fresh mu th mp mf mh mg ou od) 59 [some (.ref (k.b + (20)))] [.int (if u48 = 0 then ((-1) : Int32) else (3 : Int32))] by
          refine r_if_eq X 58 dX6_section_51 rfl (fun c51 => ?_) (fun c51 => ?_)
          · refine r_iconst X (v := (-1)) dX6_section_58 rfl ?_
            rw [if_pos c51] at K51
            exact K51
          · refine r_iconst X (v := 3) dX6_section_54 rfl ?_
            refine r_goto X 59 dX6_section_55 rfl ?_
            rw [if_neg c51] at K51
            exact K51
        obtain rfl := Option.some.inj hf
        exact r_ireturn X hQ rfl rfl (Nat.le_of_ble_eq_true rfl) (Nat.le_of_ble_eq_true rfl) dX6_section_59
      · replace hf := ifF hf c37
        refine r_iconst X (v := 2) dX6_section_40 rfl ?_
        obtain rfl := Option.some.inj hf
        exact r_ireturn X hQ rfl rfl (Nat.le_of_ble_eq_true rfl) (Nat.le_of_ble_eq_true rfl) dX6_section_41
    · replace hf := ifF hf c23
      refine r_iconst X (v := 1) dX6_section_26 rfl ?_
      obtain rfl := Option.some.inj hf
      exact r_ireturn X hQ rfl rfl (Nat.le_of_ble_eq_true rfl) (Nat.le_of_ble_eq_true rfl) dX6_section_27
  · replace hf := ifF hf c9
    refine r_iconst X (v := 0) dX6_section_12 rfl ?_
    obtain rfl := Option.some.inj hf
    exact r_ireturn X hQ rfl rfl (Nat.le_of_ble_eq_true rfl) (Nat.le_of_ble_eq_true rfl) dX6_section_13
set_option maxRecDepth 100000 in
set_option maxHeartbeats 4000000 in
theorem K6_isFull {k : KT} {T : TT} {R : RR} {ly : Fin 2 → LL} {rc : RC} {hn : HN} {rp : RP} {tp : TP} {ee : EE} {st : Fin 12 → SS} {w : Nat → Int64} {aside : Nat → Int64} {thought : Nat → Int64} {fresh : Nat → Int64} {mu : MU} {th : Int32} {mp : MP} {mf : MF} {mh : MH} {mg : MG} {ou : Nat → Int64} {od : Nat → UInt64}  {x1 : Int32} {r : Int32} (hf : f6_isFull (ly (1 : Fin 2))  x1 = some r) : CT k strs yX6_isFull cX6_isFull 2 (some .boolean) (rmD 0 0 0) 0 0 [.ref (k.b + (20)), .int x1] (wAll k T R ly rc hn rp tp ee st w aside thought fresh mu th mp mf mh mg ou od) (some (.int r)) (wAll k T R ly rc hn rp tp ee st w aside thought fresh mu th mp mf mh mg ou od) := by
  refine CT.of (by decide) (Nat.le_of_ble_eq_true rfl) ?_
  intro z X hQ
  show VW k z 0 0 (wAll k T R ly rc hn rp tp ee st w aside thought fresh mu th mp mf mh mg ou od) 0 [some (.ref (k.b + (20))), some (.int x1)] []
  unfold f6_isFull at hf
  refine r_iload_n X (x := x1) dX6_isFull_0 rfl ?_
  by_cases c1_0 : x1 = 0
  · replace hf := ifT hf c1_0
    refine r_tswIn X (off := 27) 28 dX6_isFull_1 (by rw [c1_0]; decide) (by rw [c1_0]; decide) (by rw [c1_0]; rfl) rfl ?_
    refine r_aload_n X (x := k.b + (20)) dX6_isFull_28 rfl ?_
    refine r_getfield X (v := .ref (k.b + (4 + 17 * (1 : Fin 2).val))) clsX6 flX6_12 (Nat.le_of_ble_eq_true rfl) _ o_parser rfl dX6_isFull_29 ?_
    refine r_getfield X (v := .int (LL_chambers (ly (1 : Fin 2)))) clsX1 flX6_41 (Nat.le_of_ble_eq_true rfl) _ (o_lay (1 : Fin 2)) rfl dX6_isFull_32 ?_
    refine r_bipush X (v := 8) dX6_isFull_35 rfl ?_
    suffices K37 : VW k z 0 0 (wAll k T R ly rc hn rp tp ee st w aside thought fresh mu th mp mf mh mg ou od) 45 [some (.ref (k.b + (20))), some (.int x1)] [.int (if (LL_chambers (ly (1 : Fin 2))) = 8 then (1 : Int32) else (0 : Int32))] by
      refine r_icmp_ne X 44 dX6_isFull_37 rfl (fun c37 => ?_) (fun c37 => ?_)
      · refine r_iconst X (v := 0) dX6_isFull_44 rfl ?_
        rw [if_neg c37] at K37
        exact K37
      · refine r_iconst X (v := 1) dX6_isFull_40 rfl ?_
        refine r_goto X 45 dX6_isFull_41 rfl ?_
        rw [if_pos c37] at K37
        exact K37
    obtain rfl := Option.some.inj hf
    exact r_zreturn X hQ rfl rfl (Nat.le_of_ble_eq_true rfl) (Nat.le_of_ble_eq_true rfl) nb_if dX6_isFull_45
  replace hf := ifF hf c1_0
  by_cases c1_1 : x1 = 1
  · replace hf := ifT hf c1_1
    refine r_tswIn X (off := 45) 46 dX6_isFull_1 (by rw [c1_1]; decide) (by rw [c1_1]; decide) (by rw [c1_1]; rfl) rfl ?_
    refine r_aload_n X (x := k.b + (20)) dX6_isFull_46 rfl ?_
    refine r_getfield X (v := .ref (k.b + (4 + 17 * (1 : Fin 2).val))) clsX6 flX6_12 (Nat.le_of_ble_eq_true rfl) _ o_parser rfl dX6_isFull_47 ?_
    refine r_getfield X (v := .int (LL_pumps (ly (1 : Fin 2)))) clsX1 flX6_82 (Nat.le_of_ble_eq_true rfl) _ (o_lay (1 : Fin 2)) rfl dX6_isFull_50 ?_
    refine r_bipush X (v := 6) dX6_isFull_53 rfl ?_
    suffices K55 : VW k z 0 0 (wAll k T R ly rc hn rp tp ee st w aside thought fresh mu th mp mf mh mg ou od) 63 [some (.ref (k.b + (20))), some (.int x1)] [.int (if (LL_pumps (ly (1 : Fin 2))) = 6 then (1 : Int32) else (0 : Int32))] by
      refine r_icmp_ne X 62 dX6_isFull_55 rfl (fun c55 => ?_) (fun c55 => ?_)
      · refine r_iconst X (v := 0) dX6_isFull_62 rfl ?_
        rw [if_neg c55] at K55
        exact K55
      · refine r_iconst X (v := 1) dX6_isFull_58 rfl ?_
        refine r_goto X 63 dX6_isFull_59 rfl ?_
        rw [if_pos c55] at K55
        exact K55
    obtain rfl := Option.some.inj hf
    exact r_zreturn X hQ rfl rfl (Nat.le_of_ble_eq_true rfl) (Nat.le_of_ble_eq_true rfl) nb_if dX6_isFull_63
  replace hf := ifF hf c1_1
  by_cases c1_2 : x1 = 2
  · replace hf := ifT hf c1_2
    refine r_tswIn X (off := 63) 64 dX6_isFull_1 (by rw [c1_2]; decide) (by rw [c1_2]; decide) (by rw [c1_2]; rfl) rfl ?_
    refine r_aload_n X (x := k.b + (20)) dX6_isFull_64 rfl ?_
    refine r_getfield X (v := .ref (k.b + (4 + 17 * (1 : Fin 2).val))) clsX6 flX6_12 (Nat.le_of_ble_eq_true rfl) _ o_parser rfl dX6_isFull_65 ?_
    refine r_getfield X (v := .int (LL_valves (ly (1 : Fin 2)))) clsX1 flX6_85 (Nat.le_of_ble_eq_true rfl) _ (o_lay (1 : Fin 2)) rfl dX6_isFull_68 ?_
    refine r_bipush X (v := 10) dX6_isFull_71 rfl ?_
    suffices K73 : VW k z 0 0 (wAll k T R ly rc hn rp tp ee st w aside thought fresh mu th mp mf mh mg ou od) 81 [some (.ref (k.b + (20))), some (.int x1)] [.int (if (LL_valves (ly (1 : Fin 2))) = 10 then (1 : Int32) else (0 : Int32))] by
      refine r_icmp_ne X 80 dX6_isFull_73 rfl (fun c73 => ?_) (fun c73 => ?_)
      · refine r_iconst X (v := 0) dX6_isFull_80 rfl ?_
        rw [if_neg c73] at K73
        exact K73
      · refine r_iconst X (v := 1) dX6_isFull_76 rfl ?_
        refine r_goto X 81 dX6_isFull_77 rfl ?_
        rw [if_pos c73] at K73
        exact K73
    obtain rfl := Option.some.inj hf
    exact r_zreturn X hQ rfl rfl (Nat.le_of_ble_eq_true rfl) (Nat.le_of_ble_eq_true rfl) nb_if dX6_isFull_81
  replace hf := ifF hf c1_2
  refine r_tswOut X 82 dX6_isFull_1 (tsw_out (fun v hv1 hv2 => by
    rcases (show v = 0 ∨ v = 1 ∨ v = 2 by omega) with rfl | rfl | rfl
    · exact c1_0
    · exact c1_1
    · exact c1_2
    )) rfl ?_
  refine r_aload_n X (x := k.b + (20)) dX6_isFull_82 rfl ?_
  refine r_getfield X (v := .ref (k.b + (4 + 17 * (1 : Fin 2).val))) clsX6 flX6_12 (Nat.le_of_ble_eq_true rfl) _ o_parser rfl dX6_isFull_83 ?_
  refine r_getfield X (v := .int (LL_flanges (ly (1 : Fin 2)))) clsX1 flX6_88 (Nat.le_of_ble_eq_true rfl) _ (o_lay (1 : Fin 2)) rfl dX6_isFull_86 ?_
  refine r_bipush X (v := 24) dX6_isFull_89 rfl ?_
  suffices K91 : VW k z 0 0 (wAll k T R ly rc hn rp tp ee st w aside thought fresh mu th mp mf mh mg ou od) 99 [some (.ref (k.b + (20))), some (.int x1)] [.int (if (LL_flanges (ly (1 : Fin 2))) = 24 then (1 : Int32) else (0 : Int32))] by
    refine r_icmp_ne X 98 dX6_isFull_91 rfl (fun c91 => ?_) (fun c91 => ?_)
    · refine r_iconst X (v := 0) dX6_isFull_98 rfl ?_
      rw [if_neg c91] at K91
      exact K91
    · refine r_iconst X (v := 1) dX6_isFull_94 rfl ?_
      refine r_goto X 99 dX6_isFull_95 rfl ?_
      rw [if_pos c91] at K91
      exact K91
  obtain rfl := Option.some.inj hf
  exact r_zreturn X hQ rfl rfl (Nat.le_of_ble_eq_true rfl) (Nat.le_of_ble_eq_true rfl) nb_if dX6_isFull_99
set_option maxRecDepth 100000 in
set_option maxHeartbeats 4000000 in
theorem K6_readChamber {k : KT} {T : TT} {R : RR} {ly : Fin 2 → LL} {rc : RC} {hn : HN} {rp : RP} {tp : TP} {ee : EE} {st : Fin 12 → SS} {w : Nat → Int64} {aside : Nat → Int64} {thought : Nat → Int64} {fresh : Nat → Int64} {mu : MU} {th : Int32} {mp : MP} {mf : MF} {mh : MH} {mg : MG} {ou : Nat → Int64} {od : Nat → UInt64} {lY1 : LL}  {r : (RR) × (LL)} (hf : f6_readChamber T R lY1  = some r) : CT k strs yX6_readChamber cX6_readChamber 4 none (rmD 3 0 0) 0 0 [.ref (k.b + (20))] (wAll k T R (updF ly (1 : Fin 2) lY1) rc hn rp tp ee st w aside thought fresh mu th mp mf mh mg ou od) (none) (wAll k T r.1 (updF ly (1 : Fin 2) r.2) rc hn rp tp ee st w aside thought fresh mu th mp mf mh mg ou od) := by
  refine CT.of (by decide) (Nat.le_of_ble_eq_true rfl) ?_
  intro z X hQ
  show VW k z 0 0 (wAll k T R (updF ly (1 : Fin 2) lY1) rc hn rp tp ee st w aside thought fresh mu th mp mf mh mg ou od) 0 [some (.ref (k.b + (20))), none, none, none] []
  unfold f6_readChamber at hf
  refine r_aload_n X (x := k.b + (20)) dX6_readChamber_0 rfl ?_
  refine r_getfield X (v := .ref (k.b + (3))) clsX6 flX6_18 (Nat.le_of_ble_eq_true rfl) _ o_parser rfl dX6_readChamber_1 ?_
  refine r_iconst X (v := 1) dX6_readChamber_4 rfl ?_
  refine r_sipush X (v := 999) dX6_readChamber_5 rfl ?_
  obtain ⟨u8, h8, hf⟩ := bdS hf
  refine r_callV0 X [.int 1, .int 999] [] (K2_readNumber h8) lkX6_91 clsX2 rfl _ o_reader (by decide) (Nat.le_of_ble_eq_true rfl) rfl rfl (Nat.le_of_ble_eq_true rfl) rfl rfl (Nat.zero_le _) (Nat.zero_le _) dX6_readChamber_8 ?_
  refine r_istore_n X [some (.ref (k.b + (20))), some (.int u8.1), none, none] dX6_readChamber_11 (Nat.le_of_ble_eq_true rfl) rfl ?_
  refine r_aload_n X (x := k.b + (20)) dX6_readChamber_12 rfl ?_
  refine r_getfield X (v := .ref (k.b + (3))) clsX6 flX6_18 (Nat.le_of_ble_eq_true rfl) _ o_parser rfl dX6_readChamber_13 ?_
  refine r_iconst X (v := 0) dX6_readChamber_16 rfl ?_
  refine r_sipush X (v := 9999) dX6_readChamber_17 rfl ?_
  obtain ⟨u20, h20, hf⟩ := bdS hf
  refine r_callV0 X [.int 0, .int 9999] [] (K2_readNumber h20) lkX6_91 clsX2 rfl _ o_reader (by decide) (Nat.le_of_ble_eq_true rfl) rfl rfl (Nat.le_of_ble_eq_true rfl) rfl rfl (Nat.zero_le _) (Nat.zero_le _) dX6_readChamber_20 ?_
  refine r_istore_n X [some (.ref (k.b + (20))), some (.int u8.1), some (.int u20.1), none] dX6_readChamber_23 (Nat.le_of_ble_eq_true rfl) rfl ?_
  refine r_aload_n X (x := k.b + (20)) dX6_readChamber_24 rfl ?_
  refine r_getfield X (v := .ref (k.b + (3))) clsX6 flX6_18 (Nat.le_of_ble_eq_true rfl) _ o_parser rfl dX6_readChamber_25 ?_
  refine r_iconst X (v := 0) dX6_readChamber_28 rfl ?_
  refine r_sipush X (v := 999) dX6_readChamber_29 rfl ?_
  obtain ⟨u32, h32, hf⟩ := bdS hf
  refine r_callV0 X [.int 0, .int 999] [] (K2_readNumber h32) lkX6_91 clsX2 rfl _ o_reader (by decide) (Nat.le_of_ble_eq_true rfl) rfl rfl (Nat.le_of_ble_eq_true rfl) rfl rfl (Nat.zero_le _) (Nat.zero_le _) dX6_readChamber_32 ?_
  refine r_istore_n X [some (.ref (k.b + (20))), some (.int u8.1), some (.int u20.1), some (.int u32.1)] dX6_readChamber_35 (Nat.le_of_ble_eq_true rfl) rfl ?_
  refine r_aload_n X (x := k.b + (20)) dX6_readChamber_36 rfl ?_
  refine r_getfield X (v := .ref (k.b + (3))) clsX6 flX6_18 (Nat.le_of_ble_eq_true rfl) _ o_parser rfl dX6_readChamber_37 ?_
  obtain ⟨u40, h40, hf⟩ := bdS hf
  refine r_callV0 X [] [] (K2_readSemicolon h40) lkX6_95 clsX2 rfl _ o_reader (by decide) (Nat.le_of_ble_eq_true rfl) rfl rfl (Nat.le_of_ble_eq_true rfl) rfl rfl (Nat.zero_le _) (Nat.zero_le _) dX6_readChamber_40 ?_
  refine r_aload_n X (x := k.b + (20)) dX6_readChamber_43 rfl ?_
  refine r_getfield X (v := .ref (k.b + (3))) clsX6 flX6_18 (Nat.le_of_ble_eq_true rfl) _ o_parser rfl dX6_readChamber_44 ?_
  refine r_getfield X (v := .int (RR_errorCode u40)) clsX2 flX6_34 (Nat.le_of_ble_eq_true rfl) _ o_reader rfl dX6_readChamber_47 ?_
  refine r_if_ne X 63 dX6_readChamber_50 rfl (fun c50 => ?_) (fun c50 => ?_)
  · replace hf := ifF hf c50
    obtain rfl := Option.some.inj hf
    exact r_return X hQ rfl rfl (Nat.le_of_ble_eq_true rfl) (Nat.le_of_ble_eq_true rfl) dX6_readChamber_63
  · replace hf := ifT hf c50
    refine r_aload_n X (x := k.b + (20)) dX6_readChamber_53 rfl ?_
    refine r_getfield X (v := .ref (k.b + (4 + 17 * (1 : Fin 2).val))) clsX6 flX6_12 (Nat.le_of_ble_eq_true rfl) _ o_parser rfl dX6_readChamber_54 ?_
    refine r_iload_n X (x := u8.1) dX6_readChamber_57 rfl ?_
    refine r_iload_n X (x := u20.1) dX6_readChamber_58 rfl ?_
    refine r_iload_n X (x := u32.1) dX6_readChamber_59 rfl ?_
    obtain ⟨u60, h60, hf⟩ := bdS hf
    refine r_callV0 X [.int u8.1, .int u20.1, .int u32.1] [] (K1_addChamber h60) lkX6_98 clsX1 rfl _ (o_lay1 (1 : Fin 2) _) (by decide) (Nat.le_of_ble_eq_true rfl) rfl rfl (Nat.le_of_ble_eq_true rfl) rfl rfl (Nat.zero_le _) (Nat.zero_le _) dX6_readChamber_60 ?_
    obtain rfl := Option.some.inj hf
    exact r_return X hQ rfl rfl (Nat.le_of_ble_eq_true rfl) (Nat.le_of_ble_eq_true rfl) dX6_readChamber_63
set_option maxRecDepth 100000 in
set_option maxHeartbeats 4000000 in
theorem B6_readOtherSide_B32 {k : KT} {z : ZT} {T : TT} {ly : Fin 2 → LL} {rc : RC} {hn : HN} {rp : RP} {tp : TP} {ee : EE} {st : Fin 12 → SS} {w : Nat → Int64} {aside : Nat → Int64} {thought : Nat → Int64} {fresh : Nat → Int64} {mu : MU} {th : Int32} {mp : MP} {mf : MF} {mh : MH} {mg : MG} {ou : Nat → Int64} {od : Nat → UInt64} {r : Int32 × (RR)} (X : XX k strs z RX6 cX6_readOtherSide 4 (some .int) (rmD 10 0 0)) (hQ : zQ z = MQ (zB z) (Qof k (some (.int r.1)) (wAll k T r.2 ly rc hn rp tp ee st w aside thought fresh mu th mp mf mh mg ou od)) (zA z) (zS z) 0 0 (kA k)) (R : RR) (x1 : Int32) (hf : f6_readOtherSide_B32 T (ly (1 : Fin 2)) R x1 = some r) : VW k z 0 0 (wAll k T R ly rc hn rp tp ee st w aside thought fresh mu th mp mf mh mg ou od) 32 [some (.ref (k.b + (20))), some (.int x1), none, none] [] := by
  unfold f6_readOtherSide_B32 at hf
  refine r_aload_n X (x := k.b + (20)) dX6_readOtherSide_32 rfl ?_
  refine r_getfield X (v := .ref (k.b + (3))) clsX6 flX6_18 (Nat.le_of_ble_eq_true rfl) _ o_parser rfl dX6_readOtherSide_33 ?_
  refine r_getfield X (v := .int (RR_start R)) clsX2 flX6_44 (Nat.le_of_ble_eq_true rfl) _ o_reader rfl dX6_readOtherSide_36 ?_
  refine r_istore_n X [some (.ref (k.b + (20))), some (.int x1), some (.int (RR_start R)), none] dX6_readOtherSide_39 (Nat.le_of_ble_eq_true rfl) rfl ?_
  refine r_aload_n X (x := k.b + (20)) dX6_readOtherSide_40 rfl ?_
  refine r_getfield X (v := .ref (k.b + (3))) clsX6 flX6_18 (Nat.le_of_ble_eq_true rfl) _ o_parser rfl dX6_readOtherSide_41 ?_
  refine r_iconst X (v := 0) dX6_readOtherSide_44 rfl ?_
  refine r_aload_n X (x := k.b + (20)) dX6_readOtherSide_45 rfl ?_
  refine r_getfield X (v := .ref (k.b + (4 + 17 * (1 : Fin 2).val))) clsX6 flX6_12 (Nat.le_of_ble_eq_true rfl) _ o_parser rfl dX6_readOtherSide_46 ?_
  refine r_getfield X (v := .int (LL_chambers (ly (1 : Fin 2)))) clsX1 flX6_41 (Nat.le_of_ble_eq_true rfl) _ (o_lay (1 : Fin 2)) rfl dX6_readOtherSide_49 ?_
  refine r_iconst X (v := 1) dX6_readOtherSide_52 rfl ?_
  refine r_isub X dX6_readOtherSide_53 ?_
  obtain ⟨u54, h54, hf⟩ := bdS hf
  refine r_callV0 X [.int 0, .int ((LL_chambers (ly (1 : Fin 2))) - 1)] [] (K2_readNumber h54) lkX6_91 clsX2 rfl _ o_reader (by decide) (Nat.le_of_ble_eq_true rfl) rfl rfl (Nat.le_of_ble_eq_true rfl) rfl rfl (Nat.zero_le _) (Nat.zero_le _) dX6_readOtherSide_54 ?_
  refine r_istore_n X [some (.ref (k.b + (20))), some (.int x1), some (.int (RR_start R)), some (.int u54.1)] dX6_readOtherSide_57 (Nat.le_of_ble_eq_true rfl) rfl ?_
  refine r_aload_n X (x := k.b + (20)) dX6_readOtherSide_58 rfl ?_
  refine r_getfield X (v := .ref (k.b + (3))) clsX6 flX6_18 (Nat.le_of_ble_eq_true rfl) _ o_parser rfl dX6_readOtherSide_59 ?_
  refine r_getfield X (v := .int (RR_errorCode u54.2)) clsX2 flX6_34 (Nat.le_of_ble_eq_true rfl) _ o_reader rfl dX6_readOtherSide_62 ?_
  refine r_if_ne X 82 dX6_readOtherSide_65 rfl (fun c65 => ?_) (fun c65 => ?_)
  · replace hf := ifF hf c65
    refine r_iload_n X (x := u54.1) dX6_readOtherSide_82 rfl ?_
    obtain rfl := Option.some.inj hf
    exact r_ireturn X hQ rfl rfl (Nat.le_of_ble_eq_true rfl) (Nat.le_of_ble_eq_true rfl) dX6_readOtherSide_83
  · replace hf := ifT hf c65
    refine r_iload_n X (x := u54.1) dX6_readOtherSide_68 rfl ?_
    refine r_iload_n X (x := x1) dX6_readOtherSide_69 rfl ?_
    refine r_icmp_ne X 82 dX6_readOtherSide_70 rfl (fun c70 => ?_) (fun c70 => ?_)
    · replace hf := ifF hf c70
      refine r_iload_n X (x := u54.1) dX6_readOtherSide_82 rfl ?_
      obtain rfl := Option.some.inj hf
      exact r_ireturn X hQ rfl rfl (Nat.le_of_ble_eq_true rfl) (Nat.le_of_ble_eq_true rfl) dX6_readOtherSide_83
    · replace hf := ifT hf c70
      refine r_aload_n X (x := k.b + (20)) dX6_readOtherSide_73 rfl ?_
      refine r_getfield X (v := .ref (k.b + (3))) clsX6 flX6_18 (Nat.le_of_ble_eq_true rfl) _ o_parser rfl dX6_readOtherSide_74 ?_
      refine r_iconst X (v := 3) dX6_readOtherSide_77 rfl ?_
      refine r_iload_n X (x := RR_start R) dX6_readOtherSide_78 rfl ?_
      obtain ⟨u79, h79, hf⟩ := bdS hf
      refine r_callV0 X [.int 3, .int (RR_start R)] [] (K2_fail h79) lkX6_47 clsX2 rfl _ o_reader (by decide) (Nat.le_of_ble_eq_true rfl) rfl rfl (Nat.le_of_ble_eq_true rfl) rfl rfl (Nat.zero_le _) (Nat.zero_le _) dX6_readOtherSide_79 ?_
      refine r_iload_n X (x := u54.1) dX6_readOtherSide_82 rfl ?_
      obtain rfl := Option.some.inj hf
      exact r_ireturn X hQ rfl rfl (Nat.le_of_ble_eq_true rfl) (Nat.le_of_ble_eq_true rfl) dX6_readOtherSide_83
set_option maxRecDepth 100000 in
set_option maxHeartbeats 4000000 in
theorem K6_readOtherSide {k : KT} {T : TT} {R : RR} {ly : Fin 2 → LL} {rc : RC} {hn : HN} {rp : RP} {tp : TP} {ee : EE} {st : Fin 12 → SS} {w : Nat → Int64} {aside : Nat → Int64} {thought : Nat → Int64} {fresh : Nat → Int64} {mu : MU} {th : Int32} {mp : MP} {mf : MF} {mh : MH} {mg : MG} {ou : Nat → Int64} {od : Nat → UInt64}  {x1 : Int32} {r : Int32 × (RR)} (hf : f6_readOtherSide T (ly (1 : Fin 2)) R x1 = some r) : CT k strs yX6_readOtherSide cX6_readOtherSide 4 (some .int) (rmD 10 0 0) 0 0 [.ref (k.b + (20)), .int x1] (wAll k T R ly rc hn rp tp ee st w aside thought fresh mu th mp mf mh mg ou od) (some (.int r.1)) (wAll k T r.2 ly rc hn rp tp ee st w aside thought fresh mu th mp mf mh mg ou od) := by
  refine CT.of (by decide) (Nat.le_of_ble_eq_true rfl) ?_
  intro z X hQ
  show VW k z 0 0 (wAll k T R ly rc hn rp tp ee st w aside thought fresh mu th mp mf mh mg ou od) 0 [some (.ref (k.b + (20))), some (.int x1), none, none] []
  unfold f6_readOtherSide at hf
  refine r_aload_n X (x := k.b + (20)) dX6_readOtherSide_0 rfl ?_
  refine r_getfield X (v := .ref (k.b + (3))) clsX6 flX6_18 (Nat.le_of_ble_eq_true rfl) _ o_parser rfl dX6_readOtherSide_1 ?_
  refine r_getfield X (v := .int (RR_errorCode R)) clsX2 flX6_34 (Nat.le_of_ble_eq_true rfl) _ o_reader rfl dX6_readOtherSide_4 ?_
  refine r_if_ne X 32 dX6_readOtherSide_7 rfl (fun c7 => ?_) (fun c7 => ?_)
  · replace hf := ifF hf c7
    exact B6_readOtherSide_B32 X hQ R x1 hf
  · replace hf := ifT hf c7
    refine r_aload_n X (x := k.b + (20)) dX6_readOtherSide_10 rfl ?_
    refine r_getfield X (v := .ref (k.b + (3))) clsX6 flX6_18 (Nat.le_of_ble_eq_true rfl) _ o_parser rfl dX6_readOtherSide_11 ?_
    refine r_ldcS X 4 rfl dX6_readOtherSide_14 ?_
    obtain ⟨u16, h16, hf⟩ := bdS hf
    refine r_callV0 X [.ref (k.sK 4)] [] (K2_isWord h16) lkX6_72 clsX2 rfl _ o_reader (by decide) (Nat.le_of_ble_eq_true rfl) rfl rfl (Nat.le_of_ble_eq_true rfl) rfl rfl (Nat.zero_le _) (Nat.zero_le _) dX6_readOtherSide_16 ?_
    refine r_if_eq X 32 dX6_readOtherSide_19 rfl (fun c19 => ?_) (fun c19 => ?_)
    · replace hf := ifT hf c19
      exact B6_readOtherSide_B32 X hQ R x1 hf
    · replace hf := ifF hf c19
      refine r_aload_n X (x := k.b + (20)) dX6_readOtherSide_22 rfl ?_
      refine r_getfield X (v := .ref (k.b + (3))) clsX6 flX6_18 (Nat.le_of_ble_eq_true rfl) _ o_parser rfl dX6_readOtherSide_23 ?_
      obtain ⟨u26, h26, hf⟩ := bdS hf
      refine r_callV0 X [] [] (K2_advance h26) lkX6_55 clsX2 rfl _ o_reader (by decide) (Nat.le_of_ble_eq_true rfl) rfl rfl (Nat.le_of_ble_eq_true rfl) rfl rfl (Nat.zero_le _) (Nat.zero_le _) dX6_readOtherSide_26 ?_
      refine r_bipush X (v := 8) dX6_readOtherSide_29 rfl ?_
      obtain rfl := Option.some.inj hf
      exact r_ireturn X hQ rfl rfl (Nat.le_of_ble_eq_true rfl) (Nat.le_of_ble_eq_true rfl) dX6_readOtherSide_31
set_option maxRecDepth 100000 in
set_option maxHeartbeats 4000000 in
theorem B6_readPump_B82 {k : KT} {z : ZT} {T : TT} {ly : Fin 2 → LL} {rc : RC} {hn : HN} {rp : RP} {tp : TP} {ee : EE} {st : Fin 12 → SS} {w : Nat → Int64} {aside : Nat → Int64} {thought : Nat → Int64} {fresh : Nat → Int64} {mu : MU} {th : Int32} {mp : MP} {mf : MF} {mh : MH} {mg : MG} {ou : Nat → Int64} {od : Nat → UInt64} {r : (RR) × (LL)} (X : XX k strs z RX6 cX6_readPump 7 none (rmD 11 0 0)) (hQ : zQ z = MQ (zB z) (Qof k (none) (wAll k T r.1 (updF ly (1 : Fin 2) r.2) rc hn rp tp ee st w aside thought fresh mu th mp mf mh mg ou od)) (zA z) (zS z) 0 0 (kA k)) (R : RR) (lY1 : LL) (x1 : Int32) (x2 : Int32) (x3 : Int32) (x4 : Int32) (x5 : Int32) (t0 : Int32) (hf : f6_readPump_B82 T R lY1 x1 x2 x3 x4 x5 t0 = some r) : VW k z 0 0 (wAll k T R (updF ly (1 : Fin 2) lY1) rc hn rp tp ee st w aside thought fresh mu th mp mf mh mg ou od) 82 [some (.ref (k.b + (20))), some (.int x1), some (.int x2), some (.int x3), some (.int x4), some (.int x5), none] [.int t0] := by
  unfold f6_readPump_B82 at hf
  refine r_istore X [some (.ref (k.b + (20))), some (.int x1), some (.int x2), some (.int x3), some (.int x4), some (.int x5), some (.int t0)] dX6_readPump_82 (Nat.le_of_ble_eq_true rfl) rfl ?_
  refine r_aload_n X (x := k.b + (20)) dX6_readPump_84 rfl ?_
  refine r_getfield X (v := .ref (k.b + (3))) clsX6 flX6_18 (Nat.le_of_ble_eq_true rfl) _ o_parser rfl dX6_readPump_85 ?_
  obtain ⟨u88, h88, hf⟩ := bdS hf
  refine r_callV0 X [] [] (K2_readSemicolon h88) lkX6_95 clsX2 rfl _ o_reader (by decide) (Nat.le_of_ble_eq_true rfl) rfl rfl (Nat.le_of_ble_eq_true rfl) rfl rfl (Nat.zero_le _) (Nat.zero_le _) dX6_readPump_88 ?_
  refine r_aload_n X (x := k.b + (20)) dX6_readPump_91 rfl ?_
  refine r_getfield X (v := .ref (k.b + (3))) clsX6 flX6_18 (Nat.le_of_ble_eq_true rfl) _ o_parser rfl dX6_readPump_92 ?_
  refine r_getfield X (v := .int (RR_errorCode u88)) clsX2 flX6_34 (Nat.le_of_ble_eq_true rfl) _ o_reader rfl dX6_readPump_95 ?_
  refine r_if_ne X 117 dX6_readPump_98 rfl (fun c98 => ?_) (fun c98 => ?_)
  · replace hf := ifF hf c98
    obtain rfl := Option.some.inj hf
    exact r_return X hQ rfl rfl (Nat.le_of_ble_eq_true rfl) (Nat.le_of_ble_eq_true rfl) dX6_readPump_117
  · replace hf := ifT hf c98
    refine r_aload_n X (x := k.b + (20)) dX6_readPump_101 rfl ?_
    refine r_getfield X (v := .ref (k.b + (4 + 17 * (1 : Fin 2).val))) clsX6 flX6_12 (Nat.le_of_ble_eq_true rfl) _ o_parser rfl dX6_readPump_102 ?_
    refine r_iload_n X (x := x1) dX6_readPump_105 rfl ?_
    refine r_iload_n X (x := x2) dX6_readPump_106 rfl ?_
    refine r_iload_n X (x := x3) dX6_readPump_107 rfl ?_
    refine r_iload X (x := x4) dX6_readPump_108 rfl ?_
    refine r_iload X (x := x5) dX6_readPump_110 rfl ?_
    refine r_iload X (x := t0) dX6_readPump_112 rfl ?_
    obtain ⟨u114, h114, hf⟩ := bdS hf
    refine r_callV0 X [.int x1, .int x2, .int x3, .int x4, .int x5, .int t0] [] (K1_addPump h114) lkX6_107 clsX1 rfl _ (o_lay1 (1 : Fin 2) _) (by decide) (Nat.le_of_ble_eq_true rfl) rfl rfl (Nat.le_of_ble_eq_true rfl) rfl rfl (Nat.zero_le _) (Nat.zero_le _) dX6_readPump_114 ?_
    obtain rfl := Option.some.inj hf
    exact r_return X hQ rfl rfl (Nat.le_of_ble_eq_true rfl) (Nat.le_of_ble_eq_true rfl) dX6_readPump_117
set_option maxRecDepth 100000 in
set_option maxHeartbeats 4000000 in
theorem K6_readPump {k : KT} {T : TT} {R : RR} {ly : Fin 2 → LL} {rc : RC} {hn : HN} {rp : RP} {tp : TP} {ee : EE} {st : Fin 12 → SS} {w : Nat → Int64} {aside : Nat → Int64} {thought : Nat → Int64} {fresh : Nat → Int64} {mu : MU} {th : Int32} {mp : MP} {mf : MF} {mh : MH} {mg : MG} {ou : Nat → Int64} {od : Nat → UInt64} {lY1 : LL}  {r : (RR) × (LL)} (hf : f6_readPump T R lY1  = some r) : CT k strs yX6_readPump cX6_readPump 7 none (rmD 11 0 0) 0 0 [.ref (k.b + (20))] (wAll k T R (updF ly (1 : Fin 2) lY1) rc hn rp tp ee st w aside thought fresh mu th mp mf mh mg ou od) (none) (wAll k T r.1 (updF ly (1 : Fin 2) r.2) rc hn rp tp ee st w aside thought fresh mu th mp mf mh mg ou od) := by
  refine CT.of (by decide) (Nat.le_of_ble_eq_true rfl) ?_
  intro z X hQ
  show VW k z 0 0 (wAll k T R (updF ly (1 : Fin 2) lY1) rc hn rp tp ee st w aside thought fresh mu th mp mf mh mg ou od) 0 [some (.ref (k.b + (20))), none, none, none, none, none, none] []
  unfold f6_readPump at hf
  refine r_aload_n X (x := k.b + (20)) dX6_readPump_0 rfl ?_
  refine r_getfield X (v := .ref (k.b + (3))) clsX6 flX6_18 (Nat.le_of_ble_eq_true rfl) _ o_parser rfl dX6_readPump_1 ?_
  refine r_iconst X (v := 0) dX6_readPump_4 rfl ?_
  refine r_aload_n X (x := k.b + (20)) dX6_readPump_5 rfl ?_
  refine r_getfield X (v := .ref (k.b + (4 + 17 * (1 : Fin 2).val))) clsX6 flX6_12 (Nat.le_of_ble_eq_true rfl) _ o_parser rfl dX6_readPump_6 ?_
  refine r_getfield X (v := .int (LL_chambers lY1)) clsX1 flX6_41 (Nat.le_of_ble_eq_true rfl) _ (o_lay1 (1 : Fin 2) _) rfl dX6_readPump_9 ?_
  refine r_iconst X (v := 1) dX6_readPump_12 rfl ?_
  refine r_isub X dX6_readPump_13 ?_
  obtain ⟨u14, h14, hf⟩ := bdS hf
  refine r_callV0 X [.int 0, .int ((LL_chambers lY1) - 1)] [] (K2_readNumber h14) lkX6_91 clsX2 rfl _ o_reader (by decide) (Nat.le_of_ble_eq_true rfl) rfl rfl (Nat.le_of_ble_eq_true rfl) rfl rfl (Nat.zero_le _) (Nat.zero_le _) dX6_readPump_14 ?_
  refine r_istore_n X [some (.ref (k.b + (20))), some (.int u14.1), none, none, none, none, none] dX6_readPump_17 (Nat.le_of_ble_eq_true rfl) rfl ?_
  refine r_aload_n X (x := k.b + (20)) dX6_readPump_18 rfl ?_
  refine r_iload_n X (x := u14.1) dX6_readPump_19 rfl ?_
  obtain ⟨u20, h20, hf⟩ := bdS hf
  refine r_callV0 X [.int u14.1] [] (K6_readOtherSide h20) lkX6_102 clsX6 rfl _ o_parser (by decide) (Nat.le_of_ble_eq_true rfl) rfl rfl (Nat.le_of_ble_eq_true rfl) rfl rfl (Nat.zero_le _) (Nat.zero_le _) dX6_readPump_20 ?_
  refine r_istore_n X [some (.ref (k.b + (20))), some (.int u14.1), some (.int u20.1), none, none, none, none] dX6_readPump_23 (Nat.le_of_ble_eq_true rfl) rfl ?_
  refine r_aload_n X (x := k.b + (20)) dX6_readPump_24 rfl ?_
  refine r_getfield X (v := .ref (k.b + (3))) clsX6 flX6_18 (Nat.le_of_ble_eq_true rfl) _ o_parser rfl dX6_readPump_25 ?_
  refine r_iconst X (v := 1) dX6_readPump_28 rfl ?_
  refine r_sipush X (v := 999) dX6_readPump_29 rfl ?_
  obtain ⟨u32, h32, hf⟩ := bdS hf
  refine r_callV0 X [.int 1, .int 999] [] (K2_readNumber h32) lkX6_91 clsX2 rfl _ o_reader (by decide) (Nat.le_of_ble_eq_true rfl) rfl rfl (Nat.le_of_ble_eq_true rfl) rfl rfl (Nat.zero_le _) (Nat.zero_le _) dX6_readPump_32 ?_
  refine r_istore_n X [some (.ref (k.b + (20))), some (.int u14.1), some (.int u20.1), some (.int u32.1), none, none, none] dX6_readPump_35 (Nat.le_of_ble_eq_true rfl) rfl ?_
  refine r_aload_n X (x := k.b + (20)) dX6_readPump_36 rfl ?_
  refine r_getfield X (v := .ref (k.b + (3))) clsX6 flX6_18 (Nat.le_of_ble_eq_true rfl) _ o_parser rfl dX6_readPump_37 ?_
  refine r_iconst X (v := 0) dX6_readPump_40 rfl ?_
  refine r_ldc X (v := 1000000) coX6_106 dX6_readPump_41 ?_
  obtain ⟨u43, h43, hf⟩ := bdS hf
  refine r_callV0 X [.int 0, .int 1000000] [] (K2_readNumber h43) lkX6_91 clsX2 rfl _ o_reader (by decide) (Nat.le_of_ble_eq_true rfl) rfl rfl (Nat.le_of_ble_eq_true rfl) rfl rfl (Nat.zero_le _) (Nat.zero_le _) dX6_readPump_43 ?_
  refine r_istore X [some (.ref (k.b + (20))), some (.int u14.1), some (.int u20.1), some (.int u32.1), some (.int u43.1), none, none] dX6_readPump_46 (Nat.le_of_ble_eq_true rfl) rfl ?_
  refine r_aload_n X (x := k.b + (20)) dX6_readPump_48 rfl ?_
  refine r_getfield X (v := .ref (k.b + (3))) clsX6 flX6_18 (Nat.le_of_ble_eq_true rfl) _ o_parser rfl dX6_readPump_49 ?_
  refine r_iload X (x := u43.1) dX6_readPump_52 rfl ?_
  refine r_ldc X (v := 1000000) coX6_106 dX6_readPump_54 ?_
  obtain ⟨u56, h56, hf⟩ := bdS hf
  refine r_callV0 X [.int u43.1, .int 1000000] [] (K2_readNumber h56) lkX6_91 clsX2 rfl _ o_reader (by decide) (Nat.le_of_ble_eq_true rfl) rfl rfl (Nat.le_of_ble_eq_true rfl) rfl rfl (Nat.zero_le _) (Nat.zero_le _) dX6_readPump_56 ?_
  refine r_istore X [some (.ref (k.b + (20))), some (.int u14.1), some (.int u20.1), some (.int u32.1), some (.int u43.1), some (.int u56.1), none] dX6_readPump_59 (Nat.le_of_ble_eq_true rfl) rfl ?_
  refine r_iload_n X (x := u20.1) dX6_readPump_61 rfl ?_
  refine r_bipush X (v := 8) dX6_readPump_62 rfl ?_
  refine r_icmp_ne X 72 dX6_readPump_64 rfl (fun c64 => ?_) (fun c64 => ?_)
  · replace hf := ifF hf c64
    refine r_aload_n X (x := k.b + (20)) dX6_readPump_72 rfl ?_
    refine r_getfield X (v := .ref (k.b + (3))) clsX6 flX6_18 (Nat.le_of_ble_eq_true rfl) _ o_parser rfl dX6_readPump_73 ?_
    refine r_iconst X (v := 0) dX6_readPump_76 rfl ?_
    refine r_ldc X (v := 1000000) coX6_106 dX6_readPump_77 ?_
    obtain ⟨u79, h79, hf⟩ := bdS hf
    refine r_callV0 X [.int 0, .int 1000000] [] (K2_readNumber h79) lkX6_91 clsX2 rfl _ o_reader (by decide) (Nat.le_of_ble_eq_true rfl) rfl rfl (Nat.le_of_ble_eq_true rfl) rfl rfl (Nat.zero_le _) (Nat.zero_le _) dX6_readPump_79 ?_
    exact B6_readPump_B82 X hQ u79.2 lY1 u14.1 u20.1 u32.1 u43.1 u56.1 u79.1 hf
  · replace hf := ifT hf c64
    refine r_ldc X (v := 1000000) coX6_106 dX6_readPump_67 ?_
    refine r_goto X 82 dX6_readPump_69 rfl ?_
    exact B6_readPump_B82 X hQ u56.2 lY1 u14.1 u20.1 u32.1 u43.1 u56.1 1000000 hf
set_option maxRecDepth 100000 in
set_option maxHeartbeats 4000000 in
theorem K6_readValve {k : KT} {T : TT} {R : RR} {ly : Fin 2 → LL} {rc : RC} {hn : HN} {rp : RP} {tp : TP} {ee : EE} {st : Fin 12 → SS} {w : Nat → Int64} {aside : Nat → Int64} {thought : Nat → Int64} {fresh : Nat → Int64} {mu : MU} {th : Int32} {mp : MP} {mf : MF} {mh : MH} {mg : MG} {ou : Nat → Int64} {od : Nat → UInt64} {lY1 : LL}  {r : (RR) × (LL)} (hf : f6_readValve T R lY1  = some r) : CT k strs yX6_readValve cX6_readValve 5 none (rmD 11 0 0) 0 0 [.ref (k.b + (20))] (wAll k T R (updF ly (1 : Fin 2) lY1) rc hn rp tp ee st w aside thought fresh mu th mp mf mh mg ou od) (none) (wAll k T r.1 (updF ly (1 : Fin 2) r.2) rc hn rp tp ee st w aside thought fresh mu th mp mf mh mg ou od) := by
  refine CT.of (by decide) (Nat.le_of_ble_eq_true rfl) ?_
  intro z X hQ
  show VW k z 0 0 (wAll k T R (updF ly (1 : Fin 2) lY1) rc hn rp tp ee st w aside thought fresh mu th mp mf mh mg ou od) 0 [some (.ref (k.b + (20))), none, none, none, none] []
  unfold f6_readValve at hf
  refine r_aload_n X (x := k.b + (20)) dX6_readValve_0 rfl ?_
  refine r_getfield X (v := .ref (k.b + (3))) clsX6 flX6_18 (Nat.le_of_ble_eq_true rfl) _ o_parser rfl dX6_readValve_1 ?_
  refine r_iconst X (v := 0) dX6_readValve_4 rfl ?_
  refine r_aload_n X (x := k.b + (20)) dX6_readValve_5 rfl ?_
  refine r_getfield X (v := .ref (k.b + (4 + 17 * (1 : Fin 2).val))) clsX6 flX6_12 (Nat.le_of_ble_eq_true rfl) _ o_parser rfl dX6_readValve_6 ?_
  refine r_getfield X (v := .int (LL_chambers lY1)) clsX1 flX6_41 (Nat.le_of_ble_eq_true rfl) _ (o_lay1 (1 : Fin 2) _) rfl dX6_readValve_9 ?_
  refine r_iconst X (v := 1) dX6_readValve_12 rfl ?_
  refine r_isub X dX6_readValve_13 ?_
  obtain ⟨u14, h14, hf⟩ := bdS hf
  refine r_callV0 X [.int 0, .int ((LL_chambers lY1) - 1)] [] (K2_readNumber h14) lkX6_91 clsX2 rfl _ o_reader (by decide) (Nat.le_of_ble_eq_true rfl) rfl rfl (Nat.le_of_ble_eq_true rfl) rfl rfl (Nat.zero_le _) (Nat.zero_le _) dX6_readValve_14 ?_
  refine r_istore_n X [some (.ref (k.b + (20))), some (.int u14.1), none, none, none] dX6_readValve_17 (Nat.le_of_ble_eq_true rfl) rfl ?_
  refine r_aload_n X (x := k.b + (20)) dX6_readValve_18 rfl ?_
  refine r_iload_n X (x := u14.1) dX6_readValve_19 rfl ?_
  obtain ⟨u20, h20, hf⟩ := bdS hf
  refine r_callV0 X [.int u14.1] [] (K6_readOtherSide h20) lkX6_102 clsX6 rfl _ o_parser (by decide) (Nat.le_of_ble_eq_true rfl) rfl rfl (Nat.le_of_ble_eq_true rfl) rfl rfl (Nat.zero_le _) (Nat.zero_le _) dX6_readValve_20 ?_
  refine r_istore_n X [some (.ref (k.b + (20))), some (.int u14.1), some (.int u20.1), none, none] dX6_readValve_23 (Nat.le_of_ble_eq_true rfl) rfl ?_
  refine r_aload_n X (x := k.b + (20)) dX6_readValve_24 rfl ?_
  refine r_getfield X (v := .ref (k.b + (3))) clsX6 flX6_18 (Nat.le_of_ble_eq_true rfl) _ o_parser rfl dX6_readValve_25 ?_
  refine r_iconst X (v := 1) dX6_readValve_28 rfl ?_
  refine r_sipush X (v := 999) dX6_readValve_29 rfl ?_
  obtain ⟨u32, h32, hf⟩ := bdS hf
  refine r_callV0 X [.int 1, .int 999] [] (K2_readNumber h32) lkX6_91 clsX2 rfl _ o_reader (by decide) (Nat.le_of_ble_eq_true rfl) rfl rfl (Nat.le_of_ble_eq_true rfl) rfl rfl (Nat.zero_le _) (Nat.zero_le _) dX6_readValve_32 ?_
  refine r_istore_n X [some (.ref (k.b + (20))), some (.int u14.1), some (.int u20.1), some (.int u32.1), none] dX6_readValve_35 (Nat.le_of_ble_eq_true rfl) rfl ?_
  refine r_aload_n X (x := k.b + (20)) dX6_readValve_36 rfl ?_
  refine r_getfield X (v := .ref (k.b + (3))) clsX6 flX6_18 (Nat.le_of_ble_eq_true rfl) _ o_parser rfl dX6_readValve_37 ?_
  refine r_iconst X (v := 0) dX6_readValve_40 rfl ?_
  refine r_ldc X (v := 1000000) coX6_106 dX6_readValve_41 ?_
  obtain ⟨u43, h43, hf⟩ := bdS hf
  refine r_callV0 X [.int 0, .int 1000000] [] (K2_readNumber h43) lkX6_91 clsX2 rfl _ o_reader (by decide) (Nat.le_of_ble_eq_true rfl) rfl rfl (Nat.le_of_ble_eq_true rfl) rfl rfl (Nat.zero_le _) (Nat.zero_le _) dX6_readValve_43 ?_
  refine r_istore X [some (.ref (k.b + (20))), some (.int u14.1), some (.int u20.1), some (.int u32.1), some (.int u43.1)] dX6_readValve_46 (Nat.le_of_ble_eq_true rfl) rfl ?_
  refine r_aload_n X (x := k.b + (20)) dX6_readValve_48 rfl ?_
  refine r_getfield X (v := .ref (k.b + (3))) clsX6 flX6_18 (Nat.le_of_ble_eq_true rfl) _ o_parser rfl dX6_readValve_49 ?_
  obtain ⟨u52, h52, hf⟩ := bdS hf
  refine r_callV0 X [] [] (K2_readSemicolon h52) lkX6_95 clsX2 rfl _ o_reader (by decide) (Nat.le_of_ble_eq_true rfl) rfl rfl (Nat.le_of_ble_eq_true rfl) rfl rfl (Nat.zero_le _) (Nat.zero_le _) dX6_readValve_52 ?_
  refine r_aload_n X (x := k.b + (20)) dX6_readValve_55 rfl ?_
  refine r_getfield X (v := .ref (k.b + (3))) clsX6 flX6_18 (Nat.le_of_ble_eq_true rfl) _ o_parser rfl dX6_readValve_56 ?_
  refine r_getfield X (v := .int (RR_errorCode u52)) clsX2 flX6_34 (Nat.le_of_ble_eq_true rfl) _ o_reader rfl dX6_readValve_59 ?_
  refine r_if_ne X 77 dX6_readValve_62 rfl (fun c62 => ?_) (fun c62 => ?_)
  · replace hf := ifF hf c62
    obtain rfl := Option.some.inj hf
    exact r_return X hQ rfl rfl (Nat.le_of_ble_eq_true rfl) (Nat.le_of_ble_eq_true rfl) dX6_readValve_77
  · replace hf := ifT hf c62
    refine r_aload_n X (x := k.b + (20)) dX6_readValve_65 rfl ?_
    refine r_getfield X (v := .ref (k.b + (4 + 17 * (1 : Fin 2).val))) clsX6 flX6_12 (Nat.le_of_ble_eq_true rfl) _ o_parser rfl dX6_readValve_66 ?_
    refine r_iload_n X (x := u14.1) dX6_readValve_69 rfl ?_
    refine r_iload_n X (x := u20.1) dX6_readValve_70 rfl ?_
    refine r_iload_n X (x := u32.1) dX6_readValve_71 rfl ?_
    refine r_iload X (x := u43.1) dX6_readValve_72 rfl ?_
    obtain ⟨u74, h74, hf⟩ := bdS hf
    refine r_callV0 X [.int u14.1, .int u20.1, .int u32.1, .int u43.1] [] (K1_addValve h74) lkX6_111 clsX1 rfl _ (o_lay1 (1 : Fin 2) _) (by decide) (Nat.le_of_ble_eq_true rfl) rfl rfl (Nat.le_of_ble_eq_true rfl) rfl rfl (Nat.zero_le _) (Nat.zero_le _) dX6_readValve_74 ?_
    obtain rfl := Option.some.inj hf
    exact r_return X hQ rfl rfl (Nat.le_of_ble_eq_true rfl) (Nat.le_of_ble_eq_true rfl) dX6_readValve_77
set_option maxRecDepth 100000 in
set_option maxHeartbeats 4000000 in
theorem K6_readFlange {k : KT} {T : TT} {R : RR} {ly : Fin 2 → LL} {rc : RC} {hn : HN} {rp : RP} {tp : TP} {ee : EE} {st : Fin 12 → SS} {w : Nat → Int64} {aside : Nat → Int64} {thought : Nat → Int64} {fresh : Nat → Int64} {mu : MU} {th : Int32} {mp : MP} {mf : MF} {mh : MH} {mg : MG} {ou : Nat → Int64} {od : Nat → UInt64} {lY1 : LL}  {r : (RR) × (LL)} (hf : f6_readFlange T R lY1  = some r) : CT k strs yX6_readFlange cX6_readFlange 3 none (rmD 3 0 0) 0 0 [.ref (k.b + (20))] (wAll k T R (updF ly (1 : Fin 2) lY1) rc hn rp tp ee st w aside thought fresh mu th mp mf mh mg ou od) (none) (wAll k T r.1 (updF ly (1 : Fin 2) r.2) rc hn rp tp ee st w aside thought fresh mu th mp mf mh mg ou od) := by
  refine CT.of (by decide) (Nat.le_of_ble_eq_true rfl) ?_
  intro z X hQ
  show VW k z 0 0 (wAll k T R (updF ly (1 : Fin 2) lY1) rc hn rp tp ee st w aside thought fresh mu th mp mf mh mg ou od) 0 [some (.ref (k.b + (20))), none, none] []
  unfold f6_readFlange at hf
  refine r_aload_n X (x := k.b + (20)) dX6_readFlange_0 rfl ?_
  refine r_getfield X (v := .ref (k.b + (3))) clsX6 flX6_18 (Nat.le_of_ble_eq_true rfl) _ o_parser rfl dX6_readFlange_1 ?_
  refine r_iconst X (v := 0) dX6_readFlange_4 rfl ?_
  refine r_aload_n X (x := k.b + (20)) dX6_readFlange_5 rfl ?_
  refine r_getfield X (v := .ref (k.b + (4 + 17 * (1 : Fin 2).val))) clsX6 flX6_12 (Nat.le_of_ble_eq_true rfl) _ o_parser rfl dX6_readFlange_6 ?_
  refine r_getfield X (v := .int (LL_chambers lY1)) clsX1 flX6_41 (Nat.le_of_ble_eq_true rfl) _ (o_lay1 (1 : Fin 2) _) rfl dX6_readFlange_9 ?_
  refine r_iconst X (v := 1) dX6_readFlange_12 rfl ?_
  refine r_isub X dX6_readFlange_13 ?_
  obtain ⟨u14, h14, hf⟩ := bdS hf
  refine r_callV0 X [.int 0, .int ((LL_chambers lY1) - 1)] [] (K2_readNumber h14) lkX6_91 clsX2 rfl _ o_reader (by decide) (Nat.le_of_ble_eq_true rfl) rfl rfl (Nat.le_of_ble_eq_true rfl) rfl rfl (Nat.zero_le _) (Nat.zero_le _) dX6_readFlange_14 ?_
  refine r_istore_n X [some (.ref (k.b + (20))), some (.int u14.1), none] dX6_readFlange_17 (Nat.le_of_ble_eq_true rfl) rfl ?_
  refine r_aload_n X (x := k.b + (20)) dX6_readFlange_18 rfl ?_
  refine r_getfield X (v := .ref (k.b + (3))) clsX6 flX6_18 (Nat.le_of_ble_eq_true rfl) _ o_parser rfl dX6_readFlange_19 ?_
  refine r_iconst X (v := 0) dX6_readFlange_22 rfl ?_
  refine r_sipush X (v := 9999) dX6_readFlange_23 rfl ?_
  obtain ⟨u26, h26, hf⟩ := bdS hf
  refine r_callV0 X [.int 0, .int 9999] [] (K2_readNumber h26) lkX6_91 clsX2 rfl _ o_reader (by decide) (Nat.le_of_ble_eq_true rfl) rfl rfl (Nat.le_of_ble_eq_true rfl) rfl rfl (Nat.zero_le _) (Nat.zero_le _) dX6_readFlange_26 ?_
  refine r_istore_n X [some (.ref (k.b + (20))), some (.int u14.1), some (.int u26.1)] dX6_readFlange_29 (Nat.le_of_ble_eq_true rfl) rfl ?_
  refine r_aload_n X (x := k.b + (20)) dX6_readFlange_30 rfl ?_
  refine r_getfield X (v := .ref (k.b + (3))) clsX6 flX6_18 (Nat.le_of_ble_eq_true rfl) _ o_parser rfl dX6_readFlange_31 ?_
  obtain ⟨u34, h34, hf⟩ := bdS hf
  refine r_callV0 X [] [] (K2_readSemicolon h34) lkX6_95 clsX2 rfl _ o_reader (by decide) (Nat.le_of_ble_eq_true rfl) rfl rfl (Nat.le_of_ble_eq_true rfl) rfl rfl (Nat.zero_le _) (Nat.zero_le _) dX6_readFlange_34 ?_
  refine r_aload_n X (x := k.b + (20)) dX6_readFlange_37 rfl ?_
  refine r_getfield X (v := .ref (k.b + (3))) clsX6 flX6_18 (Nat.le_of_ble_eq_true rfl) _ o_parser rfl dX6_readFlange_38 ?_
  refine r_getfield X (v := .int (RR_errorCode u34)) clsX2 flX6_34 (Nat.le_of_ble_eq_true rfl) _ o_reader rfl dX6_readFlange_41 ?_
  refine r_if_ne X 56 dX6_readFlange_44 rfl (fun c44 => ?_) (fun c44 => ?_)
  · replace hf := ifF hf c44
    obtain rfl := Option.some.inj hf
    exact r_return X hQ rfl rfl (Nat.le_of_ble_eq_true rfl) (Nat.le_of_ble_eq_true rfl) dX6_readFlange_56
  · replace hf := ifT hf c44
    refine r_aload_n X (x := k.b + (20)) dX6_readFlange_47 rfl ?_
    refine r_getfield X (v := .ref (k.b + (4 + 17 * (1 : Fin 2).val))) clsX6 flX6_12 (Nat.le_of_ble_eq_true rfl) _ o_parser rfl dX6_readFlange_48 ?_
    refine r_iload_n X (x := u14.1) dX6_readFlange_51 rfl ?_
    refine r_iload_n X (x := u26.1) dX6_readFlange_52 rfl ?_
    obtain ⟨u53, h53, hf⟩ := bdS hf
    refine r_callV0 X [.int u14.1, .int u26.1] [] (K1_addFlange h53) lkX6_115 clsX1 rfl _ (o_lay1 (1 : Fin 2) _) (by decide) (Nat.le_of_ble_eq_true rfl) rfl rfl (Nat.le_of_ble_eq_true rfl) rfl rfl (Nat.zero_le _) (Nat.zero_le _) dX6_readFlange_53 ?_
    obtain rfl := Option.some.inj hf
    exact r_return X hQ rfl rfl (Nat.le_of_ble_eq_true rfl) (Nat.le_of_ble_eq_true rfl) dX6_readFlange_56
set_option maxRecDepth 100000 in
set_option maxHeartbeats 4000000 in
theorem B6_parse_B204 {k : KT} {z : ZT} {T : TT} {ly : Fin 2 → LL} {rc : RC} {hn : HN} {rp : RP} {tp : TP} {ee : EE} {st : Fin 12 → SS} {w : Nat → Int64} {aside : Nat → Int64} {thought : Nat → Int64} {fresh : Nat → Int64} {mu : MU} {th : Int32} {mp : MP} {mf : MF} {mh : MH} {mg : MG} {ou : Nat → Int64} {od : Nat → UInt64} {r : Int32 × (RR) × (LL)} (X : XX k strs z RX6 cX6_parse 4 (some .boolean) (rmD 12 0 0)) (hQ : zQ z = MQ (zB z) (Qof k (some (.int r.1)) (wAll k T r.2.1 (updF ly (1 : Fin 2) r.2.2) rc hn rp tp ee st w aside thought fresh mu th mp mf mh mg ou od)) (zA z) (zS z) 0 0 (kA k)) (R : RR) (lY1 : LL) (hf : f6_parse_B204 T R lY1 = some r) : VW k z 0 0 (wAll k T R (updF ly (1 : Fin 2) lY1) rc hn rp tp ee st w aside thought fresh mu th mp mf mh mg ou od) 204 [some (.ref (k.b + (20))), none, none, none] [] := by
  unfold f6_parse_B204 at hf
  refine r_aload_n X (x := k.b + (20)) dX6_parse_204 rfl ?_
  refine r_getfield X (v := .ref (k.b + (3))) clsX6 flX6_18 (Nat.le_of_ble_eq_true rfl) _ o_parser rfl dX6_parse_205 ?_
  refine r_getfield X (v := .int (RR_errorCode R)) clsX2 flX6_34 (Nat.le_of_ble_eq_true rfl) _ o_reader rfl dX6_parse_208 ?_
  suffices K211 : VW k z 0 0 (wAll k T R (updF ly (1 : Fin 2) lY1) rc hn rp tp ee st w aside thought fresh mu th mp mf mh mg ou od) 219 [some (.ref (k.b + (20))), none, none, none] [.int (if (RR_errorCode R) = 0 then (1 : Int32) else (0 : Int32))] by
    refine r_if_ne X 218 dX6_parse_211 rfl (fun c211 => ?_) (fun c211 => ?_)
    · refine r_iconst X (v := 0) dX6_parse_218 rfl ?_
      rw [if_neg c211] at K211
      exact K211
    · refine r_iconst X (v := 1) dX6_parse_214 rfl ?_
      refine r_goto X 219 dX6_parse_215 rfl ?_
      rw [if_pos c211] at K211
      exact K211
  obtain rfl := Option.some.inj hf
  exact r_zreturn X hQ rfl rfl (Nat.le_of_ble_eq_true rfl) (Nat.le_of_ble_eq_true rfl) nb_if dX6_parse_219
set_option maxRecDepth 100000 in
set_option maxHeartbeats 4000000 in
theorem B6_parse_B179 {k : KT} {z : ZT} {T : TT} {ly : Fin 2 → LL} {rc : RC} {hn : HN} {rp : RP} {tp : TP} {ee : EE} {st : Fin 12 → SS} {w : Nat → Int64} {aside : Nat → Int64} {thought : Nat → Int64} {fresh : Nat → Int64} {mu : MU} {th : Int32} {mp : MP} {mf : MF} {mh : MH} {mg : MG} {ou : Nat → Int64} {od : Nat → UInt64} {r : Int32 × (RR) × (LL)} (X : XX k strs z RX6 cX6_parse 4 (some .boolean) (rmD 12 0 0)) (hQ : zQ z = MQ (zB z) (Qof k (some (.int r.1)) (wAll k T r.2.1 (updF ly (1 : Fin 2) r.2.2) rc hn rp tp ee st w aside thought fresh mu th mp mf mh mg ou od)) (zA z) (zS z) 0 0 (kA k)) (R : RR) (lY1 : LL) (hf : f6_parse_B179 T R lY1 = some r) : VW k z 0 0 (wAll k T R (updF ly (1 : Fin 2) lY1) rc hn rp tp ee st w aside thought fresh mu th mp mf mh mg ou od) 179 [some (.ref (k.b + (20))), none, none, none] [] := by
  unfold f6_parse_B179 at hf
  refine r_aload_n X (x := k.b + (20)) dX6_parse_179 rfl ?_
  refine r_getfield X (v := .ref (k.b + (4 + 17 * (1 : Fin 2).val))) clsX6 flX6_12 (Nat.le_of_ble_eq_true rfl) _ o_parser rfl dX6_parse_180 ?_
  refine r_getfield X (v := .int (LL_chambers lY1)) clsX1 flX6_41 (Nat.le_of_ble_eq_true rfl) _ (o_lay1 (1 : Fin 2) _) rfl dX6_parse_183 ?_
  refine r_if_ne X 204 dX6_parse_186 rfl (fun c186 => ?_) (fun c186 => ?_)
  · replace hf := ifF hf c186
    exact B6_parse_B204 X hQ R lY1 hf
  · replace hf := ifT hf c186
    refine r_aload_n X (x := k.b + (20)) dX6_parse_189 rfl ?_
    refine r_getfield X (v := .ref (k.b + (3))) clsX6 flX6_18 (Nat.le_of_ble_eq_true rfl) _ o_parser rfl dX6_parse_190 ?_
    refine r_iconst X (v := 1) dX6_parse_193 rfl ?_
    refine r_aload_n X (x := k.b + (20)) dX6_parse_194 rfl ?_
    refine r_getfield X (v := .ref (k.b + (3))) clsX6 flX6_18 (Nat.le_of_ble_eq_true rfl) _ o_parser rfl dX6_parse_195 ?_
    refine r_getfield X (v := .int (RR_start R)) clsX2 flX6_44 (Nat.le_of_ble_eq_true rfl) _ o_reader rfl dX6_parse_198 ?_
    obtain ⟨u201, h201, hf⟩ := bdS hf
    refine r_callV0 X [.int 1, .int (RR_start R)] [] (K2_fail h201) lkX6_47 clsX2 rfl _ o_reader (by decide) (Nat.le_of_ble_eq_true rfl) rfl rfl (Nat.le_of_ble_eq_true rfl) rfl rfl (Nat.zero_le _) (Nat.zero_le _) dX6_parse_201 ?_
    exact B6_parse_B204 X hQ u201 lY1 hf
set_option maxRecDepth 100000 in
set_option maxHeartbeats 4000000 in
theorem B6_parse_B87 {k : KT} {z : ZT} {T : TT} {ly : Fin 2 → LL} {rc : RC} {hn : HN} {rp : RP} {tp : TP} {ee : EE} {st : Fin 12 → SS} {w : Nat → Int64} {aside : Nat → Int64} {thought : Nat → Int64} {fresh : Nat → Int64} {mu : MU} {th : Int32} {mp : MP} {mf : MF} {mh : MH} {mg : MG} {ou : Nat → Int64} {od : Nat → UInt64} {r : Int32 × (RR) × (LL)} (X : XX k strs z RX6 cX6_parse 4 (some .boolean) (rmD 12 0 0)) (hQ : zQ z = MQ (zB z) (Qof k (some (.int r.1)) (wAll k T r.2.1 (updF ly (1 : Fin 2) r.2.2) rc hn rp tp ee st w aside thought fresh mu th mp mf mh mg ou od)) (zA z) (zS z) 0 0 (kA k)) (rec : RR → LL → Int32 → Int32 → Option (Int32 × (RR) × (LL))) (hrec : ∀ (R : RR) (lY1 : LL) (x1 : Int32) (x2 : Int32), rec R lY1 x1 x2 = some r → VW k z 0 0 (wAll k T R (updF ly (1 : Fin 2) lY1) rc hn rp tp ee st w aside thought fresh mu th mp mf mh mg ou od) 18 [some (.ref (k.b + (20))), some (.int x1), some (.int x2), none] []) (R : RR) (lY1 : LL) (x1 : Int32) (x2 : Int32) (x3 : Int32) (hf : f6_parse_B87 T rec R lY1 x1 x2 x3 = some r) : VW k z 0 0 (wAll k T R (updF ly (1 : Fin 2) lY1) rc hn rp tp ee st w aside thought fresh mu th mp mf mh mg ou od) 87 [some (.ref (k.b + (20))), some (.int x1), some (.int x2), some (.int x3)] [] := by
  unfold f6_parse_B87 at hf
  refine r_aload_n X (x := k.b + (20)) dX6_parse_87 rfl ?_
  refine r_iload_n X (x := x3) dX6_parse_88 rfl ?_
  obtain ⟨u89, h89, hf⟩ := bdS hf
  refine r_callV0 X [.int x3] [] (K6_isFull h89) lkX6_51 clsX6 rfl _ o_parser (by decide) (Nat.le_of_ble_eq_true rfl) rfl rfl (Nat.le_of_ble_eq_true rfl) rfl rfl (Nat.zero_le _) (Nat.zero_le _) dX6_parse_89 ?_
  refine r_if_eq X 113 dX6_parse_92 rfl (fun c92 => ?_) (fun c92 => ?_)
  · replace hf := ifT hf c92
    refine r_iload_n X (x := x3) dX6_parse_113 rfl ?_
    refine r_istore_n X [some (.ref (k.b + (20))), some (.int x3), some (.int x2), some (.int x3)] dX6_parse_114 (Nat.le_of_ble_eq_true rfl) rfl ?_
    refine r_aload_n X (x := k.b + (20)) dX6_parse_115 rfl ?_
    refine r_getfield X (v := .ref (k.b + (3))) clsX6 flX6_18 (Nat.le_of_ble_eq_true rfl) _ o_parser rfl dX6_parse_116 ?_
    obtain ⟨u119, h119, hf⟩ := bdS hf
    refine r_callV0 X [] [] (K2_advance h119) lkX6_55 clsX2 rfl _ o_reader (by decide) (Nat.le_of_ble_eq_true rfl) rfl rfl (Nat.le_of_ble_eq_true rfl) rfl rfl (Nat.zero_le _) (Nat.zero_le _) dX6_parse_119 ?_
    refine r_iload_n X (x := x3) dX6_parse_122 rfl ?_
    by_cases c123_0 : x3 = 0
    · replace hf := ifT hf c123_0
      refine r_tswIn X (off := 25) 148 dX6_parse_123 (by rw [c123_0]; decide) (by rw [c123_0]; decide) (by rw [c123_0]; rfl) rfl ?_
      refine r_aload_n X (x := k.b + (20)) dX6_parse_148 rfl ?_
      obtain ⟨u149, h149, hf⟩ := bdS hf
      refine r_callV0 X [] [] (K6_readChamber h149) lkX6_58 clsX6 rfl _ o_parser (by decide) (Nat.le_of_ble_eq_true rfl) rfl rfl (Nat.le_of_ble_eq_true rfl) rfl rfl (Nat.zero_le _) (Nat.zero_le _) dX6_parse_149 ?_
      refine r_goto X 173 dX6_parse_152 rfl ?_
      refine r_iinc X (x := x2) (v := x2 + 1) [some (.ref (k.b + (20))), some (.int x3), some (.int (x2 + 1)), some (.int x3)] dX6_parse_173 rfl rfl rfl ?_
      refine r_goto X 18 dX6_parse_176 rfl ?_
      refine VW.msk [true, true, true, false] rfl (lo' := [some (.ref (k.b + (20))), some (.int x3), some (.int (x2 + 1)), none]) rfl ?_
      exact hrec u149.1 u149.2 x3 (x2 + 1) hf
    replace hf := ifF hf c123_0
    by_cases c123_1 : x3 = 1
    · replace hf := ifT hf c123_1
      refine r_tswIn X (off := 32) 155 dX6_parse_123 (by rw [c123_1]; decide) (by rw [c123_1]; decide) (by rw [c123_1]; rfl) rfl ?_
      refine r_aload_n X (x := k.b + (20)) dX6_parse_155 rfl ?_
      obtain ⟨u156, h156, hf⟩ := bdS hf
      refine r_callV0 X [] [] (K6_readPump h156) lkX6_61 clsX6 rfl _ o_parser (by decide) (Nat.le_of_ble_eq_true rfl) rfl rfl (Nat.le_of_ble_eq_true rfl) rfl rfl (Nat.zero_le _) (Nat.zero_le _) dX6_parse_156 ?_
      refine r_goto X 173 dX6_parse_159 rfl ?_
      refine r_iinc X (x := x2) (v := x2 + 1) [some (.ref (k.b + (20))), some (.int x3), some (.int (x2 + 1)), some (.int x3)] dX6_parse_173 rfl rfl rfl ?_
      refine r_goto X 18 dX6_parse_176 rfl ?_
      refine VW.msk [true, true, true, false] rfl (lo' := [some (.ref (k.b + (20))), some (.int x3), some (.int (x2 + 1)), none]) rfl ?_
      exact hrec u156.1 u156.2 x3 (x2 + 1) hf
    replace hf := ifF hf c123_1
    by_cases c123_2 : x3 = 2
    · replace hf := ifT hf c123_2
      refine r_tswIn X (off := 39) 162 dX6_parse_123 (by rw [c123_2]; decide) (by rw [c123_2]; decide) (by rw [c123_2]; rfl) rfl ?_
      refine r_aload_n X (x := k.b + (20)) dX6_parse_162 rfl ?_
      obtain ⟨u163, h163, hf⟩ := bdS hf
      refine r_callV0 X [] [] (K6_readValve h163) lkX6_64 clsX6 rfl _ o_parser (by decide) (Nat.le_of_ble_eq_true rfl) rfl rfl (Nat.le_of_ble_eq_true rfl) rfl rfl (Nat.zero_le _) (Nat.zero_le _) dX6_parse_163 ?_
      refine r_goto X 173 dX6_parse_166 rfl ?_
      refine r_iinc X (x := x2) (v := x2 + 1) [some (.ref (k.b + (20))), some (.int x3), some (.int (x2 + 1)), some (.int x3)] dX6_parse_173 rfl rfl rfl ?_
      refine r_goto X 18 dX6_parse_176 rfl ?_
      refine VW.msk [true, true, true, false] rfl (lo' := [some (.ref (k.b + (20))), some (.int x3), some (.int (x2 + 1)), none]) rfl ?_
      exact hrec u163.1 u163.2 x3 (x2 + 1) hf
    replace hf := ifF hf c123_2
    refine r_tswOut X 169 dX6_parse_123 (tsw_out (fun v hv1 hv2 => by
      rcases (show v = 0 ∨ v = 1 ∨ v = 2 by omega) with rfl | rfl | rfl
      · exact c123_0
      · exact c123_1
      · exact c123_2
      )) rfl ?_
    refine r_aload_n X (x := k.b + (20)) dX6_parse_169 rfl ?_
    obtain ⟨u170, h170, hf⟩ := bdS hf
    refine r_callV0 X [] [] (K6_readFlange h170) lkX6_67 clsX6 rfl _ o_parser (by decide) (Nat.le_of_ble_eq_true rfl) rfl rfl (Nat.le_of_ble_eq_true rfl) rfl rfl (Nat.zero_le _) (Nat.zero_le _) dX6_parse_170 ?_
    refine r_iinc X (x := x2) (v := x2 + 1) [some (.ref (k.b + (20))), some (.int x3), some (.int (x2 + 1)), some (.int x3)] dX6_parse_173 rfl rfl rfl ?_
    refine r_goto X 18 dX6_parse_176 rfl ?_
    refine VW.msk [true, true, true, false] rfl (lo' := [some (.ref (k.b + (20))), some (.int x3), some (.int (x2 + 1)), none]) rfl ?_
    exact hrec u170.1 u170.2 x3 (x2 + 1) hf
  · replace hf := ifF hf c92
    refine r_aload_n X (x := k.b + (20)) dX6_parse_95 rfl ?_
    refine r_getfield X (v := .ref (k.b + (3))) clsX6 flX6_18 (Nat.le_of_ble_eq_true rfl) _ o_parser rfl dX6_parse_96 ?_
    refine r_iconst X (v := 4) dX6_parse_99 rfl ?_
    refine r_aload_n X (x := k.b + (20)) dX6_parse_100 rfl ?_
    refine r_getfield X (v := .ref (k.b + (3))) clsX6 flX6_18 (Nat.le_of_ble_eq_true rfl) _ o_parser rfl dX6_parse_101 ?_
    refine r_getfield X (v := .int (RR_start R)) clsX2 flX6_44 (Nat.le_of_ble_eq_true rfl) _ o_reader rfl dX6_parse_104 ?_
    obtain ⟨u107, h107, hf⟩ := bdS hf
    refine r_callV0 X [.int 4, .int (RR_start R)] [] (K2_fail h107) lkX6_47 clsX2 rfl _ o_reader (by decide) (Nat.le_of_ble_eq_true rfl) rfl rfl (Nat.le_of_ble_eq_true rfl) rfl rfl (Nat.zero_le _) (Nat.zero_le _) dX6_parse_107 ?_
    refine r_goto X 173 dX6_parse_110 rfl ?_
    refine r_iinc X (x := x2) (v := x2 + 1) [some (.ref (k.b + (20))), some (.int x1), some (.int (x2 + 1)), some (.int x3)] dX6_parse_173 rfl rfl rfl ?_
    refine r_goto X 18 dX6_parse_176 rfl ?_
    refine VW.msk [true, true, true, false] rfl (lo' := [some (.ref (k.b + (20))), some (.int x1), some (.int (x2 + 1)), none]) rfl ?_
    exact hrec u107 lY1 x1 (x2 + 1) hf
set_option maxRecDepth 100000 in
set_option maxHeartbeats 4000000 in
theorem B6_parse_B69 {k : KT} {z : ZT} {T : TT} {ly : Fin 2 → LL} {rc : RC} {hn : HN} {rp : RP} {tp : TP} {ee : EE} {st : Fin 12 → SS} {w : Nat → Int64} {aside : Nat → Int64} {thought : Nat → Int64} {fresh : Nat → Int64} {mu : MU} {th : Int32} {mp : MP} {mf : MF} {mh : MH} {mg : MG} {ou : Nat → Int64} {od : Nat → UInt64} {r : Int32 × (RR) × (LL)} (X : XX k strs z RX6 cX6_parse 4 (some .boolean) (rmD 12 0 0)) (hQ : zQ z = MQ (zB z) (Qof k (some (.int r.1)) (wAll k T r.2.1 (updF ly (1 : Fin 2) r.2.2) rc hn rp tp ee st w aside thought fresh mu th mp mf mh mg ou od)) (zA z) (zS z) 0 0 (kA k)) (rec : RR → LL → Int32 → Int32 → Option (Int32 × (RR) × (LL))) (hrec : ∀ (R : RR) (lY1 : LL) (x1 : Int32) (x2 : Int32), rec R lY1 x1 x2 = some r → VW k z 0 0 (wAll k T R (updF ly (1 : Fin 2) lY1) rc hn rp tp ee st w aside thought fresh mu th mp mf mh mg ou od) 18 [some (.ref (k.b + (20))), some (.int x1), some (.int x2), none] []) (R : RR) (lY1 : LL) (x1 : Int32) (x2 : Int32) (hf : f6_parse_B69 T rec R lY1 x1 x2 = some r) : VW k z 0 0 (wAll k T R (updF ly (1 : Fin 2) lY1) rc hn rp tp ee st w aside thought fresh mu th mp mf mh mg ou od) 69 [some (.ref (k.b + (20))), some (.int x1), some (.int x2), none] [] := by
  unfold f6_parse_B69 at hf
  refine r_aload_n X (x := k.b + (20)) dX6_parse_69 rfl ?_
  refine r_getfield X (v := .ref (k.b + (3))) clsX6 flX6_18 (Nat.le_of_ble_eq_true rfl) _ o_parser rfl dX6_parse_70 ?_
  refine r_iconst X (v := 1) dX6_parse_73 rfl ?_
  refine r_aload_n X (x := k.b + (20)) dX6_parse_74 rfl ?_
  refine r_getfield X (v := .ref (k.b + (3))) clsX6 flX6_18 (Nat.le_of_ble_eq_true rfl) _ o_parser rfl dX6_parse_75 ?_
  refine r_getfield X (v := .int (RR_start R)) clsX2 flX6_44 (Nat.le_of_ble_eq_true rfl) _ o_reader rfl dX6_parse_78 ?_
  obtain ⟨u81, h81, hf⟩ := bdS hf
  refine r_callV0 X [.int 1, .int (RR_start R)] [] (K2_fail h81) lkX6_47 clsX2 rfl _ o_reader (by decide) (Nat.le_of_ble_eq_true rfl) rfl rfl (Nat.le_of_ble_eq_true rfl) rfl rfl (Nat.zero_le _) (Nat.zero_le _) dX6_parse_81 ?_
  refine r_goto X 173 dX6_parse_84 rfl ?_
  refine r_iinc X (x := x2) (v := x2 + 1) [some (.ref (k.b + (20))), some (.int x1), some (.int (x2 + 1)), none] dX6_parse_173 rfl rfl rfl ?_
  refine r_goto X 18 dX6_parse_176 rfl ?_
  exact hrec u81 lY1 x1 (x2 + 1) hf
set_option maxRecDepth 100000 in
set_option maxHeartbeats 4000000 in
theorem B6_parse_B18 {k : KT} {z : ZT} {T : TT} {ly : Fin 2 → LL} {rc : RC} {hn : HN} {rp : RP} {tp : TP} {ee : EE} {st : Fin 12 → SS} {w : Nat → Int64} {aside : Nat → Int64} {thought : Nat → Int64} {fresh : Nat → Int64} {mu : MU} {th : Int32} {mp : MP} {mf : MF} {mh : MH} {mg : MG} {ou : Nat → Int64} {od : Nat → UInt64} {r : Int32 × (RR) × (LL)} (X : XX k strs z RX6 cX6_parse 4 (some .boolean) (rmD 12 0 0)) (hQ : zQ z = MQ (zB z) (Qof k (some (.int r.1)) (wAll k T r.2.1 (updF ly (1 : Fin 2) r.2.2) rc hn rp tp ee st w aside thought fresh mu th mp mf mh mg ou od)) (zA z) (zS z) 0 0 (kA k)) : ∀ (fu : Nat) (R : RR) (lY1 : LL) (x1 : Int32) (x2 : Int32), f6_parse_B18 T fu R lY1 x1 x2 = some r → VW k z 0 0 (wAll k T R (updF ly (1 : Fin 2) lY1) rc hn rp tp ee st w aside thought fresh mu th mp mf mh mg ou od) 18 [some (.ref (k.b + (20))), some (.int x1), some (.int x2), none] [] := by
  intro fu
  induction fu with
  | zero =>
    intro R lY1 x1 x2 hf
    rw [f6_parse_B18] at hf
    cases hf
  | succ fu ih =>
    intro R lY1 x1 x2 hf
    rw [f6_parse_B18] at hf
    refine r_iload_n X (x := x2) dX6_parse_18 rfl ?_
    refine r_sipush X (v := 900) dX6_parse_19 rfl ?_
    refine r_icmp_ge X 179 dX6_parse_22 rfl (fun c22 => ?_) (fun c22 => ?_)
    · replace hf := ifT hf c22
      refine VW.msk [true, false, false, false] rfl (lo' := [some (.ref (k.b + (20))), none, none, none]) rfl ?_
      exact B6_parse_B179 X hQ R lY1 hf
    · replace hf := ifF hf c22
      refine r_aload_n X (x := k.b + (20)) dX6_parse_25 rfl ?_
      refine r_getfield X (v := .ref (k.b + (3))) clsX6 flX6_18 (Nat.le_of_ble_eq_true rfl) _ o_parser rfl dX6_parse_26 ?_
      refine r_getfield X (v := .int (RR_kind R)) clsX2 flX6_30 (Nat.le_of_ble_eq_true rfl) _ o_reader rfl dX6_parse_29 ?_
      refine r_if_eq X 179 dX6_parse_32 rfl (fun c32 => ?_) (fun c32 => ?_)
      · replace hf := ifT hf c32
        refine VW.msk [true, false, false, false] rfl (lo' := [some (.ref (k.b + (20))), none, none, none]) rfl ?_
        exact B6_parse_B179 X hQ R lY1 hf
      · replace hf := ifF hf c32
        refine r_aload_n X (x := k.b + (20)) dX6_parse_35 rfl ?_
        refine r_getfield X (v := .ref (k.b + (3))) clsX6 flX6_18 (Nat.le_of_ble_eq_true rfl) _ o_parser rfl dX6_parse_36 ?_
        refine r_getfield X (v := .int (RR_errorCode R)) clsX2 flX6_34 (Nat.le_of_ble_eq_true rfl) _ o_reader rfl dX6_parse_39 ?_
        refine r_if_ne X 179 dX6_parse_42 rfl (fun c42 => ?_) (fun c42 => ?_)
        · replace hf := ifF hf c42
          refine VW.msk [true, false, false, false] rfl (lo' := [some (.ref (k.b + (20))), none, none, none]) rfl ?_
          exact B6_parse_B179 X hQ R lY1 hf
        · replace hf := ifT hf c42
          refine r_aload_n X (x := k.b + (20)) dX6_parse_45 rfl ?_
          obtain ⟨u46, h46, hf⟩ := bdS hf
          refine r_callV0 X [] [] (K6_section h46) lkX6_37 clsX6 rfl _ o_parser (by decide) (Nat.le_of_ble_eq_true rfl) rfl rfl (Nat.le_of_ble_eq_true rfl) rfl rfl (Nat.zero_le _) (Nat.zero_le _) dX6_parse_46 ?_
          refine r_istore_n X [some (.ref (k.b + (20))), some (.int x1), some (.int x2), some (.int u46)] dX6_parse_49 (Nat.le_of_ble_eq_true rfl) rfl ?_
          refine r_iload_n X (x := u46) dX6_parse_50 rfl ?_
          refine r_iload_n X (x := x1) dX6_parse_51 rfl ?_
          refine r_icmp_lt X 69 dX6_parse_52 rfl (fun c52 => ?_) (fun c52 => ?_)
          · replace hf := ifT hf c52
            refine VW.msk [true, true, true, false] rfl (lo' := [some (.ref (k.b + (20))), some (.int x1), some (.int x2), none]) rfl ?_
            exact B6_parse_B69 X hQ (f6_parse_B18 T fu) ih R lY1 x1 x2 hf
          · replace hf := ifF hf c52
            refine r_iload_n X (x := u46) dX6_parse_55 rfl ?_
            refine r_if_le X 87 dX6_parse_56 rfl (fun c56 => ?_) (fun c56 => ?_)
            · replace hf := ifT hf c56
              exact B6_parse_B87 X hQ (f6_parse_B18 T fu) ih R lY1 x1 x2 u46 hf
            · replace hf := ifF hf c56
              refine r_aload_n X (x := k.b + (20)) dX6_parse_59 rfl ?_
              refine r_getfield X (v := .ref (k.b + (4 + 17 * (1 : Fin 2).val))) clsX6 flX6_12 (Nat.le_of_ble_eq_true rfl) _ o_parser rfl dX6_parse_60 ?_
              refine r_getfield X (v := .int (LL_chambers lY1)) clsX1 flX6_41 (Nat.le_of_ble_eq_true rfl) _ (o_lay1 (1 : Fin 2) _) rfl dX6_parse_63 ?_
              refine r_if_ne X 87 dX6_parse_66 rfl (fun c66 => ?_) (fun c66 => ?_)
              · replace hf := ifF hf c66
                exact B6_parse_B87 X hQ (f6_parse_B18 T fu) ih R lY1 x1 x2 u46 hf
              · replace hf := ifT hf c66
                refine VW.msk [true, true, true, false] rfl (lo' := [some (.ref (k.b + (20))), some (.int x1), some (.int x2), none]) rfl ?_
                exact B6_parse_B69 X hQ (f6_parse_B18 T fu) ih R lY1 x1 x2 hf
set_option maxRecDepth 100000 in
set_option maxHeartbeats 4000000 in
theorem K6_parse {k : KT} {T : TT} {R : RR} {ly : Fin 2 → LL} {rc : RC} {hn : HN} {rp : RP} {tp : TP} {ee : EE} {st : Fin 12 → SS} {w : Nat → Int64} {aside : Nat → Int64} {thought : Nat → Int64} {fresh : Nat → Int64} {mu : MU} {th : Int32} {mp : MP} {mf : MF} {mh : MH} {mg : MG} {ou : Nat → Int64} {od : Nat → UInt64} {lY1 : LL}  {r : Int32 × (RR) × (LL)} (hf : f6_parse T R lY1  = some r) : CT k strs yX6_parse cX6_parse 4 (some .boolean) (rmD 12 0 0) 0 0 [.ref (k.b + (20))] (wAll k T R (updF ly (1 : Fin 2) lY1) rc hn rp tp ee st w aside thought fresh mu th mp mf mh mg ou od) (some (.int r.1)) (wAll k T r.2.1 (updF ly (1 : Fin 2) r.2.2) rc hn rp tp ee st w aside thought fresh mu th mp mf mh mg ou od) := by
  refine CT.of (by decide) (Nat.le_of_ble_eq_true rfl) ?_
  intro z X hQ
  show VW k z 0 0 (wAll k T R (updF ly (1 : Fin 2) lY1) rc hn rp tp ee st w aside thought fresh mu th mp mf mh mg ou od) 0 [some (.ref (k.b + (20))), none, none, none] []
  unfold f6_parse at hf
  refine r_aload_n X (x := k.b + (20)) dX6_parse_0 rfl ?_
  refine r_getfield X (v := .ref (k.b + (4 + 17 * (1 : Fin 2).val))) clsX6 flX6_12 (Nat.le_of_ble_eq_true rfl) _ o_parser rfl dX6_parse_1 ?_
  obtain ⟨u4, h4, hf⟩ := bdS hf
  refine r_callV0 X [] [] (K1_clear h4) lkX6_22 clsX1 rfl _ (o_lay1 (1 : Fin 2) _) (by decide) (Nat.le_of_ble_eq_true rfl) rfl rfl (Nat.le_of_ble_eq_true rfl) rfl rfl (Nat.zero_le _) (Nat.zero_le _) dX6_parse_4 ?_
  refine r_aload_n X (x := k.b + (20)) dX6_parse_7 rfl ?_
  refine r_getfield X (v := .ref (k.b + (3))) clsX6 flX6_18 (Nat.le_of_ble_eq_true rfl) _ o_parser rfl dX6_parse_8 ?_
  obtain ⟨u11, h11, hf⟩ := bdS hf
  refine r_callV0 X [] [] (K2_begin h11) lkX6_25 clsX2 rfl _ o_reader (by decide) (Nat.le_of_ble_eq_true rfl) rfl rfl (Nat.le_of_ble_eq_true rfl) rfl rfl (Nat.zero_le _) (Nat.zero_le _) dX6_parse_11 ?_
  refine r_iconst X (v := 0) dX6_parse_14 rfl ?_
  refine r_istore_n X [some (.ref (k.b + (20))), some (.int 0), none, none] dX6_parse_15 (Nat.le_of_ble_eq_true rfl) rfl ?_
  refine r_iconst X (v := 0) dX6_parse_16 rfl ?_
  refine r_istore_n X [some (.ref (k.b + (20))), some (.int 0), some (.int 0), none] dX6_parse_17 (Nat.le_of_ble_eq_true rfl) rfl ?_
  exact B6_parse_B18 X hQ FU u11 u4 0 0 hf
set_option maxRecDepth 100000 in
set_option maxHeartbeats 4000000 in
theorem K7_slot {k : KT} {T : TT} {R : RR} {ly : Fin 2 → LL} {rc : RC} {hn : HN} {rp : RP} {tp : TP} {ee : EE} {st : Fin 12 → SS} {w : Nat → Int64} {aside : Nat → Int64} {thought : Nat → Int64} {fresh : Nat → Int64} {mu : MU} {th : Int32} {mp : MP} {mf : MF} {mh : MH} {mg : MG} {ou : Nat → Int64} {od : Nat → UInt64} {j : Fin 12} {S : SS} {x1 : Int32} {r : Int32} (hf : f7_slot S  x1 = some r) : CT k strs yX7_slot cX7_slot 2 (some .int) (rmD 0 0 0) 0 0 [.ref (k.b + (45 + 12 * j.val + 9)), .int x1] (wAll k T R ly rc hn rp tp ee (updF st j S) w aside thought fresh mu th mp mf mh mg ou od) (some (.int r)) (wAll k T R ly rc hn rp tp ee (updF st j S) w aside thought fresh mu th mp mf mh mg ou od) := by
  refine CT.of (by decide) (Nat.le_of_ble_eq_true rfl) ?_
  intro z X hQ
  show VW k z 0 0 (wAll k T R ly rc hn rp tp ee (updF st j S) w aside thought fresh mu th mp mf mh mg ou od) 0 [some (.ref (k.b + (45 + 12 * j.val + 9))), some (.int x1)] []
  unfold f7_slot at hf
  refine r_aload_n X (x := k.b + (45 + 12 * j.val + 9)) dX7_slot_0 rfl ?_
  refine r_getfield X (v := .int (SS_next S)) clsX7 flX7_13 (Nat.le_of_ble_eq_true rfl) _ (o_tl1 j _) rfl dX7_slot_1 ?_
  refine r_bipush X (v := 10) dX7_slot_4 rfl ?_
  refine r_iadd X dX7_slot_6 ?_
  refine r_iconst X (v := 1) dX7_slot_7 rfl ?_
  refine r_isub X dX7_slot_8 ?_
  refine r_iload_n X (x := x1) dX7_slot_9 rfl ?_
  refine r_isub X dX7_slot_10 ?_
  refine r_bipush X (v := 10) dX7_slot_11 rfl ?_
  refine r_irem X dX7_slot_13 (by decide) ?_
  obtain rfl := Option.some.inj hf
  exact r_ireturn X hQ rfl rfl (Nat.le_of_ble_eq_true rfl) (Nat.le_of_ble_eq_true rfl) dX7_slot_14
set_option maxRecDepth 100000 in
set_option maxHeartbeats 4000000 in
theorem K7_fact {k : KT} {T : TT} {R : RR} {ly : Fin 2 → LL} {rc : RC} {hn : HN} {rp : RP} {tp : TP} {ee : EE} {st : Fin 12 → SS} {w : Nat → Int64} {aside : Nat → Int64} {thought : Nat → Int64} {fresh : Nat → Int64} {mu : MU} {th : Int32} {mp : MP} {mf : MF} {mh : MH} {mg : MG} {ou : Nat → Int64} {od : Nat → UInt64} {j : Fin 12} {S : SS} {x1 : Int32} {x2 : Int32} {r : Int32} (hf : f7_fact S  x1 x2 = some r) : CT k strs yX7_fact cX7_fact 3 (some .int) (rmD 1 0 0) 0 0 [.ref (k.b + (45 + 12 * j.val + 9)), .int x1, .int x2] (wAll k T R ly rc hn rp tp ee (updF st j S) w aside thought fresh mu th mp mf mh mg ou od) (some (.int r)) (wAll k T R ly rc hn rp tp ee (updF st j S) w aside thought fresh mu th mp mf mh mg ou od) := by
  refine CT.of (by decide) (Nat.le_of_ble_eq_true rfl) ?_
  intro z X hQ
  show VW k z 0 0 (wAll k T R ly rc hn rp tp ee (updF st j S) w aside thought fresh mu th mp mf mh mg ou od) 0 [some (.ref (k.b + (45 + 12 * j.val + 9))), some (.int x1), some (.int x2)] []
  unfold f7_fact at hf
  refine r_aload_n X (x := k.b + (45 + 12 * j.val + 9)) dX7_fact_0 rfl ?_
  refine r_getfield X (v := .ref (k.b + (45 + 12 * j.val + 10))) clsX7 flX7_16 (Nat.le_of_ble_eq_true rfl) _ (o_tl1 j _) rfl dX7_fact_1 ?_
  refine r_aload_n X (x := k.b + (45 + 12 * j.val + 9)) dX7_fact_4 rfl ?_
  refine r_iload_n X (x := x1) dX7_fact_5 rfl ?_
  obtain ⟨u6, h6, hf⟩ := bdS hf
  refine r_callV0 X [.int x1] [.ref (k.b + (45 + 12 * j.val + 10))] (K7_slot h6) lkX7_36 clsX7 rfl _ (o_tl1 j _) (by decide) (Nat.le_of_ble_eq_true rfl) rfl rfl (Nat.le_of_ble_eq_true rfl) rfl rfl (Nat.zero_le _) (Nat.zero_le _) dX7_fact_6 ?_
  refine r_iconst X (v := 4) dX7_fact_9 rfl ?_
  refine r_imul X dX7_fact_10 ?_
  refine r_iload_n X (x := x2) dX7_fact_11 rfl ?_
  refine r_iadd X dX7_fact_12 ?_
  obtain ⟨g13, hf⟩ := gdS hf
  refine r_iaload X (f := SS_facts S) _ (a_st1_facts j _) g13 dX7_fact_13 ?_
  obtain rfl := Option.some.inj hf
  exact r_ireturn X hQ rfl rfl (Nat.le_of_ble_eq_true rfl) (Nat.le_of_ble_eq_true rfl) dX7_fact_14
set_option maxRecDepth 100000 in
set_option maxHeartbeats 4000000 in
theorem K7_riseOf {k : KT} {T : TT} {R : RR} {ly : Fin 2 → LL} {rc : RC} {hn : HN} {rp : RP} {tp : TP} {ee : EE} {st : Fin 12 → SS} {w : Nat → Int64} {aside : Nat → Int64} {thought : Nat → Int64} {fresh : Nat → Int64} {mu : MU} {th : Int32} {mp : MP} {mf : MF} {mh : MH} {mg : MG} {ou : Nat → Int64} {od : Nat → UInt64} {j : Fin 12} {S : SS} {x1 : Int32} {x2 : Int32} {r : Int64} (hf : f7_riseOf S  x1 x2 = some r) : CT k strs yX7_riseOf cX7_riseOf 3 (some .long) (rmD 1 0 0) 0 0 [.ref (k.b + (45 + 12 * j.val + 9)), .int x1, .int x2] (wAll k T R ly rc hn rp tp ee (updF st j S) w aside thought fresh mu th mp mf mh mg ou od) (some (.long r)) (wAll k T R ly rc hn rp tp ee (updF st j S) w aside thought fresh mu th mp mf mh mg ou od) := by
  refine CT.of (by decide) (Nat.le_of_ble_eq_true rfl) ?_
  intro z X hQ
  show VW k z 0 0 (wAll k T R ly rc hn rp tp ee (updF st j S) w aside thought fresh mu th mp mf mh mg ou od) 0 [some (.ref (k.b + (45 + 12 * j.val + 9))), some (.int x1), some (.int x2)] []
  unfold f7_riseOf at hf
  refine r_aload_n X (x := k.b + (45 + 12 * j.val + 9)) dX7_riseOf_0 rfl ?_
  refine r_getfield X (v := .ref (k.b + (45 + 12 * j.val + 11))) clsX7 flX7_20 (Nat.le_of_ble_eq_true rfl) _ (o_tl1 j _) rfl dX7_riseOf_1 ?_
  refine r_aload_n X (x := k.b + (45 + 12 * j.val + 9)) dX7_riseOf_4 rfl ?_
  refine r_iload_n X (x := x1) dX7_riseOf_5 rfl ?_
  obtain ⟨u6, h6, hf⟩ := bdS hf
  refine r_callV0 X [.int x1] [.ref (k.b + (45 + 12 * j.val + 11))] (K7_slot h6) lkX7_36 clsX7 rfl _ (o_tl1 j _) (by decide) (Nat.le_of_ble_eq_true rfl) rfl rfl (Nat.le_of_ble_eq_true rfl) rfl rfl (Nat.zero_le _) (Nat.zero_le _) dX7_riseOf_6 ?_
  refine r_iconst X (v := 2) dX7_riseOf_9 rfl ?_
  refine r_imul X dX7_riseOf_10 ?_
  refine r_iload_n X (x := x2) dX7_riseOf_11 rfl ?_
  suffices K12 : VW k z 0 0 (wAll k T R ly rc hn rp tp ee (updF st j S) w aside thought fresh mu th mp mf mh mg ou od) 20 [some (.ref (k.b + (45 + 12 * j.val + 9))), some (.int x1), some (.int x2)] [.int (if x2 = 0 then (0 : Int32) else (1 : Int32)), .int (u6 * 2), .ref (k.b + (45 + 12 * j.val + 11))] by
    refine r_if_eq X 19 dX7_riseOf_12 rfl (fun c12 => ?_) (fun c12 => ?_)
    · refine r_iconst X (v := 0) dX7_riseOf_19 rfl ?_
      rw [if_pos c12] at K12
      exact K12
    · refine r_iconst X (v := 1) dX7_riseOf_15 rfl ?_
      refine r_goto X 20 dX7_riseOf_16 rfl ?_
      rw [if_neg c12] at K12
      exact K12
  refine r_iadd X dX7_riseOf_20 ?_
  obtain ⟨g21, hf⟩ := gdS hf
  refine r_laload X (f := SS_rises S) _ (a_st1_rises j _) g21 dX7_riseOf_21 ?_
  obtain rfl := Option.some.inj hf
  exact r_lreturn X hQ rfl rfl (Nat.le_of_ble_eq_true rfl) (Nat.le_of_ble_eq_true rfl) dX7_riseOf_22
set_option maxRecDepth 100000 in
set_option maxHeartbeats 4000000 in
theorem B8_addWord_B3 {k : KT} {z : ZT} {R : RR} {ly : Fin 2 → LL} {rc : RC} {hn : HN} {rp : RP} {tp : TP} {ee : EE} {st : Fin 12 → SS} {w : Nat → Int64} {aside : Nat → Int64} {thought : Nat → Int64} {fresh : Nat → Int64} {mu : MU} {th : Int32} {mp : MP} {mf : MF} {mh : MH} {mg : MG} {ou : Nat → Int64} {od : Nat → UInt64} {r : (TT)} (X : XX k strs z RX8 cX8_addWord 3 none (rmD 0 0 0)) (hQ : zQ z = MQ (zB z) (Qof k (none) (wAll k r R ly rc hn rp tp ee st w aside thought fresh mu th mp mf mh mg ou od)) (zA z) (zS z) 0 0 (kA k)) : ∀ (fu : Nat) (T : TT) (x1 : Int32) (x2 : Int32), f8_addWord_B3  fu T x1 x2 = some r → VW k z 0 0 (wAll k T R ly rc hn rp tp ee st w aside thought fresh mu th mp mf mh mg ou od) 3 [some (.ref (k.b + (1))), some (.int x1), some (.int x2)] [] := by
  intro fu
  induction fu with
  | zero =>
    intro T x1 x2 hf
    rw [f8_addWord_B3] at hf
    cases hf
  | succ fu ih =>
    intro T x1 x2 hf
    rw [f8_addWord_B3] at hf
    refine r_iload_n X (x := x2) dX8_addWord_3 rfl ?_
    refine r_if_lt X 46 dX8_addWord_4 rfl (fun c4 => ?_) (fun c4 => ?_)
    · replace hf := ifT hf c4
      obtain rfl := Option.some.inj hf
      exact r_return X hQ rfl rfl (Nat.le_of_ble_eq_true rfl) (Nat.le_of_ble_eq_true rfl) dX8_addWord_46
    · replace hf := ifF hf c4
      refine r_aload_n X (x := k.b + (1)) dX8_addWord_7 rfl ?_
      refine r_getfield X (v := .int (TT_length T)) clsX8 flX8_15 (Nat.le_of_ble_eq_true rfl) _ o_text rfl dX8_addWord_8 ?_
      refine r_sipush X (v := 900) dX8_addWord_11 rfl ?_
      refine r_icmp_ge X 46 dX8_addWord_14 rfl (fun c14 => ?_) (fun c14 => ?_)
      · replace hf := ifT hf c14
        obtain rfl := Option.some.inj hf
        exact r_return X hQ rfl rfl (Nat.le_of_ble_eq_true rfl) (Nat.le_of_ble_eq_true rfl) dX8_addWord_46
      · replace hf := ifF hf c14
        refine r_aload_n X (x := k.b + (1)) dX8_addWord_17 rfl ?_
        refine r_getfield X (v := .ref (k.b + (2))) clsX8 flX8_9 (Nat.le_of_ble_eq_true rfl) _ o_text rfl dX8_addWord_18 ?_
        refine r_aload_n X (x := k.b + (1)) dX8_addWord_21 rfl ?_
        refine r_getfield X (v := .int (TT_length T)) clsX8 flX8_15 (Nat.le_of_ble_eq_true rfl) _ o_text rfl dX8_addWord_22 ?_
        refine r_iload_n X (x := x1) dX8_addWord_25 rfl ?_
        refine r_iload_n X (x := x2) dX8_addWord_26 rfl ?_
        refine r_iushr X dX8_addWord_27 ?_
        refine r_i2b X dX8_addWord_28 ?_
        obtain ⟨g29, hf⟩ := gdS hf
        refine r_bastore X (f := TT_bytes T) (ws1 := wAll k (TT_set_bytes T (upd (TT_bytes T) (ix (TT_length T)) (vp_nar .byte ((iushrF x1 x2).toInt8.toInt32)))) R ly rc hn rp tp ee st w aside thought fresh mu th mp mf mh mg ou od) _ a_T_bytes g29 (s_T_bytes (upd (TT_bytes T) (ix (TT_length T)) (vp_nar .byte ((iushrF x1 x2).toInt8.toInt32)))) dX8_addWord_29 ?_
        refine r_aload_n X (x := k.b + (1)) dX8_addWord_30 rfl ?_
        refine r_dup X dX8_addWord_31 rfl ?_
        refine r_getfield X (v := .int (TT_length T)) clsX8 flX8_15 (Nat.le_of_ble_eq_true rfl) _ o_text (hvI rfl (TT_length_set_bytes _ _)) dX8_addWord_32 ?_
        refine r_iconst X (v := 1) dX8_addWord_35 rfl ?_
        refine r_iadd X dX8_addWord_36 ?_
        refine r_putfield X (ws1 := wAll k (TT_set_length (TT_set_bytes T (upd (TT_bytes T) (ix (TT_length T)) (vp_nar .byte ((iushrF x1 x2).toInt8.toInt32)))) ((TT_length T) + 1)) R ly rc hn rp tp ee st w aside thought fresh mu th mp mf mh mg ou od) clsX8 flX8_15 (Nat.le_of_ble_eq_true rfl) rfl rfl rfl _ o_text (Nat.le_of_ble_eq_true rfl) (s_T_length ((TT_length T) + 1)) dX8_addWord_37 ?_
        refine r_iinc X (x := x2) (v := x2 + (-8)) [some (.ref (k.b + (1))), some (.int x1), some (.int (x2 + (-8)))] dX8_addWord_40 rfl rfl rfl ?_
        refine r_goto X 3 dX8_addWord_43 rfl ?_
        exact ih (TT_set_length (TT_set_bytes T (upd (TT_bytes T) (ix (TT_length T)) (vp_nar .byte ((iushrF x1 x2).toInt8.toInt32)))) ((TT_length T) + 1)) x1 (x2 + (-8)) hf
set_option maxRecDepth 100000 in
set_option maxHeartbeats 4000000 in
theorem K8_addWord {k : KT} {T : TT} {R : RR} {ly : Fin 2 → LL} {rc : RC} {hn : HN} {rp : RP} {tp : TP} {ee : EE} {st : Fin 12 → SS} {w : Nat → Int64} {aside : Nat → Int64} {thought : Nat → Int64} {fresh : Nat → Int64} {mu : MU} {th : Int32} {mp : MP} {mf : MF} {mh : MH} {mg : MG} {ou : Nat → Int64} {od : Nat → UInt64}  {x1 : Int32} {r : (TT)} (hf : f8_addWord  T x1 = some r) : CT k strs yX8_addWord cX8_addWord 3 none (rmD 0 0 0) 0 0 [.ref (k.b + (1)), .int x1] (wAll k T R ly rc hn rp tp ee st w aside thought fresh mu th mp mf mh mg ou od) (none) (wAll k r R ly rc hn rp tp ee st w aside thought fresh mu th mp mf mh mg ou od) := by
  refine CT.of (by decide) (Nat.le_of_ble_eq_true rfl) ?_
  intro z X hQ
  show VW k z 0 0 (wAll k T R ly rc hn rp tp ee st w aside thought fresh mu th mp mf mh mg ou od) 0 [some (.ref (k.b + (1))), some (.int x1), none] []
  unfold f8_addWord at hf
  refine r_bipush X (v := 24) dX8_addWord_0 rfl ?_
  refine r_istore_n X [some (.ref (k.b + (1))), some (.int x1), some (.int 24)] dX8_addWord_2 (Nat.le_of_ble_eq_true rfl) rfl ?_
  exact B8_addWord_B3 X hQ FU T x1 24 hf
set_option maxRecDepth 100000 in
set_option maxHeartbeats 4000000 in
theorem K9_appendText {k : KT} {T : TT} {R : RR} {ly : Fin 2 → LL} {rc : RC} {hn : HN} {rp : RP} {tp : TP} {ee : EE} {st : Fin 12 → SS} {w : Nat → Int64} {aside : Nat → Int64} {thought : Nat → Int64} {fresh : Nat → Int64} {mu : MU} {th : Int32} {mp : MP} {mf : MF} {mh : MH} {mg : MG} {ou : Nat → Int64} {od : Nat → UInt64}  {x1 : Int32} {x2 : Int32} {x3 : Int32} {x4 : Int32} {x5 : Int32} {r : (Int32 ⊕ Nat) × (TT)} (hf : f9_appendText  T x1 x2 x3 x4 x5 = some r) : CX k strs yX9_appendText cX9_appendText 6 (some .int) (rmD 6 1 6) [.ref (k.b + (0)), .int x1, .int x2, .int x3, .int x4, .int x5] (wAll k T R ly rc hn rp tp ee st w aside thought fresh mu th mp mf mh mg ou od) (oI r.1) (wAll k r.2 R ly rc hn rp tp ee st w aside thought fresh mu th mp mf mh mg ou od) := by
  refine CX.of (by decide) (Nat.le_of_ble_eq_true rfl) ?_
  intro z X hT hQ
  show VW k z 0 0 (wAll k T R ly rc hn rp tp ee st w aside thought fresh mu th mp mf mh mg ou od) 0 [some (.ref (k.b + (0))), some (.int x1), some (.int x2), some (.int x3), some (.int x4), some (.int x5)] []
  unfold f9_appendText at hf
  refine r_aload_n X (x := k.b + (0)) dX9_appendText_0 rfl ?_
  refine r_getfield X (v := .ref (k.b + (1))) clsX9 flX9_12 (Nat.le_of_ble_eq_true rfl) _ o_main rfl dX9_appendText_1 ?_
  refine r_getfield X (v := .int (TT_length T)) clsX8 flX9_93 (Nat.le_of_ble_eq_true rfl) _ o_text rfl dX9_appendText_4 ?_
  refine r_bipush X (v := 20) dX9_appendText_7 rfl ?_
  refine r_iadd X dX9_appendText_9 ?_
  refine r_sipush X (v := 900) dX9_appendText_10 rfl ?_
  refine r_icmp_le X 24 dX9_appendText_13 rfl (fun c13 => ?_) (fun c13 => ?_)
  · replace hf := ifT hf c13
    refine r_aload_n X (x := k.b + (0)) dX9_appendText_24 rfl ?_
    refine r_getfield X (v := .ref (k.b + (1))) clsX9 flX9_12 (Nat.le_of_ble_eq_true rfl) _ o_main rfl dX9_appendText_25 ?_
    refine r_iload_n X (x := x1) dX9_appendText_28 rfl ?_
    obtain ⟨u29, h29, hf⟩ := bdS hf
    refine r_callV0 X [.int x1] [] (K8_addWord h29) lkX9_99 clsX8 rfl _ o_text (by decide) (Nat.le_of_ble_eq_true rfl) rfl rfl (Nat.le_of_ble_eq_true rfl) rfl rfl (Nat.zero_le _) (Nat.zero_le _) dX9_appendText_29 ?_
    refine r_aload_n X (x := k.b + (0)) dX9_appendText_32 rfl ?_
    refine r_getfield X (v := .ref (k.b + (1))) clsX9 flX9_12 (Nat.le_of_ble_eq_true rfl) _ o_main rfl dX9_appendText_33 ?_
    refine r_iload_n X (x := x2) dX9_appendText_36 rfl ?_
    obtain ⟨u37, h37, hf⟩ := bdS hf
    refine r_callV0 X [.int x2] [] (K8_addWord h37) lkX9_99 clsX8 rfl _ o_text (by decide) (Nat.le_of_ble_eq_true rfl) rfl rfl (Nat.le_of_ble_eq_true rfl) rfl rfl (Nat.zero_le _) (Nat.zero_le _) dX9_appendText_37 ?_
    refine r_aload_n X (x := k.b + (0)) dX9_appendText_40 rfl ?_
    refine r_getfield X (v := .ref (k.b + (1))) clsX9 flX9_12 (Nat.le_of_ble_eq_true rfl) _ o_main rfl dX9_appendText_41 ?_
    refine r_iload_n X (x := x3) dX9_appendText_44 rfl ?_
    obtain ⟨u45, h45, hf⟩ := bdS hf
    refine r_callV0 X [.int x3] [] (K8_addWord h45) lkX9_99 clsX8 rfl _ o_text (by decide) (Nat.le_of_ble_eq_true rfl) rfl rfl (Nat.le_of_ble_eq_true rfl) rfl rfl (Nat.zero_le _) (Nat.zero_le _) dX9_appendText_45 ?_
    refine r_aload_n X (x := k.b + (0)) dX9_appendText_48 rfl ?_
    refine r_getfield X (v := .ref (k.b + (1))) clsX9 flX9_12 (Nat.le_of_ble_eq_true rfl) _ o_main rfl dX9_appendText_49 ?_
    refine r_iload X (x := x4) dX9_appendText_52 rfl ?_
    obtain ⟨u54, h54, hf⟩ := bdS hf
    refine r_callV0 X [.int x4] [] (K8_addWord h54) lkX9_99 clsX8 rfl _ o_text (by decide) (Nat.le_of_ble_eq_true rfl) rfl rfl (Nat.le_of_ble_eq_true rfl) rfl rfl (Nat.zero_le _) (Nat.zero_le _) dX9_appendText_54 ?_
    refine r_aload_n X (x := k.b + (0)) dX9_appendText_57 rfl ?_
    refine r_getfield X (v := .ref (k.b + (1))) clsX9 flX9_12 (Nat.le_of_ble_eq_true rfl) _ o_main rfl dX9_appendText_58 ?_
    refine r_iload X (x := x5) dX9_appendText_61 rfl ?_
    obtain ⟨u63, h63, hf⟩ := bdS hf
    refine r_callV0 X [.int x5] [] (K8_addWord h63) lkX9_99 clsX8 rfl _ o_text (by decide) (Nat.le_of_ble_eq_true rfl) rfl rfl (Nat.le_of_ble_eq_true rfl) rfl rfl (Nat.zero_le _) (Nat.zero_le _) dX9_appendText_63 ?_
    refine r_aload_n X (x := k.b + (0)) dX9_appendText_66 rfl ?_
    refine r_getfield X (v := .ref (k.b + (1))) clsX9 flX9_12 (Nat.le_of_ble_eq_true rfl) _ o_main rfl dX9_appendText_67 ?_
    refine r_getfield X (v := .int (TT_length u63)) clsX8 flX9_93 (Nat.le_of_ble_eq_true rfl) _ o_text rfl dX9_appendText_70 ?_
    obtain rfl := Option.some.inj hf
    exact x_ireturn X hQ rfl rfl (Nat.le_of_ble_eq_true rfl) (Nat.le_of_ble_eq_true rfl) dX9_appendText_73
  · replace hf := ifF hf c13
    obtain rfl := Option.some.inj hf
    exact r_throw X hT ltX9_0 (by decide) hQ rfl rfl (Nat.le_of_ble_eq_true rfl) (Nat.le_of_ble_eq_true rfl) rfl ⟨(Nat.le_of_ble_eq_true rfl), (Nat.le_of_ble_eq_true rfl), (Nat.le_of_ble_eq_true rfl), (Nat.le_of_ble_eq_true rfl)⟩ dX9_appendText_16 dX9_appendText_19 dX9_appendText_20 dX9_appendText_23
set_option maxRecDepth 100000 in
set_option maxHeartbeats 4000000 in
theorem K9_truncateText {k : KT} {T : TT} {R : RR} {ly : Fin 2 → LL} {rc : RC} {hn : HN} {rp : RP} {tp : TP} {ee : EE} {st : Fin 12 → SS} {w : Nat → Int64} {aside : Nat → Int64} {thought : Nat → Int64} {fresh : Nat → Int64} {mu : MU} {th : Int32} {mp : MP} {mf : MF} {mh : MH} {mg : MG} {ou : Nat → Int64} {od : Nat → UInt64}  {x1 : Int32} {r : (Int32 ⊕ Nat) × (TT)} (hf : f9_truncateText  T x1 = some r) : CX k strs yX9_truncateText cX9_truncateText 2 (some .int) (rmD 6 1 6) [.ref (k.b + (0)), .int x1] (wAll k T R ly rc hn rp tp ee st w aside thought fresh mu th mp mf mh mg ou od) (oI r.1) (wAll k r.2 R ly rc hn rp tp ee st w aside thought fresh mu th mp mf mh mg ou od) := by
  refine CX.of (by decide) (Nat.le_of_ble_eq_true rfl) ?_
  intro z X hT hQ
  show VW k z 0 0 (wAll k T R ly rc hn rp tp ee st w aside thought fresh mu th mp mf mh mg ou od) 0 [some (.ref (k.b + (0))), some (.int x1)] []
  unfold f9_truncateText at hf
  refine r_iload_n X (x := x1) dX9_truncateText_0 rfl ?_
  refine r_if_lt X 15 dX9_truncateText_1 rfl (fun c1 => ?_) (fun c1 => ?_)
  · replace hf := ifT hf c1
    obtain rfl := Option.some.inj hf
    exact r_throw X hT ltX9_1 (by decide) hQ rfl rfl (Nat.le_of_ble_eq_true rfl) (Nat.le_of_ble_eq_true rfl) rfl ⟨(Nat.le_of_ble_eq_true rfl), (Nat.le_of_ble_eq_true rfl), (Nat.le_of_ble_eq_true rfl), (Nat.le_of_ble_eq_true rfl)⟩ dX9_truncateText_15 dX9_truncateText_18 dX9_truncateText_19 dX9_truncateText_22
  · replace hf := ifF hf c1
    refine r_iload_n X (x := x1) dX9_truncateText_4 rfl ?_
    refine r_aload_n X (x := k.b + (0)) dX9_truncateText_5 rfl ?_
    refine r_getfield X (v := .ref (k.b + (1))) clsX9 flX9_12 (Nat.le_of_ble_eq_true rfl) _ o_main rfl dX9_truncateText_6 ?_
    refine r_getfield X (v := .int (TT_length T)) clsX8 flX9_93 (Nat.le_of_ble_eq_true rfl) _ o_text rfl dX9_truncateText_9 ?_
    refine r_icmp_le X 23 dX9_truncateText_12 rfl (fun c12 => ?_) (fun c12 => ?_)
    · replace hf := ifT hf c12
      refine r_aload_n X (x := k.b + (0)) dX9_truncateText_23 rfl ?_
      refine r_getfield X (v := .ref (k.b + (1))) clsX9 flX9_12 (Nat.le_of_ble_eq_true rfl) _ o_main rfl dX9_truncateText_24 ?_
      refine r_iload_n X (x := x1) dX9_truncateText_27 rfl ?_
      refine r_putfield X (ws1 := wAll k (TT_set_length T x1) R ly rc hn rp tp ee st w aside thought fresh mu th mp mf mh mg ou od) clsX8 flX9_93 (Nat.le_of_ble_eq_true rfl) rfl rfl rfl _ o_text (Nat.le_of_ble_eq_true rfl) (s_T_length x1) dX9_truncateText_28 ?_
      refine r_iload_n X (x := x1) dX9_truncateText_31 rfl ?_
      obtain rfl := Option.some.inj hf
      exact x_ireturn X hQ rfl rfl (Nat.le_of_ble_eq_true rfl) (Nat.le_of_ble_eq_true rfl) dX9_truncateText_32
    · replace hf := ifF hf c12
      obtain rfl := Option.some.inj hf
      exact r_throw X hT ltX9_1 (by decide) hQ rfl rfl (Nat.le_of_ble_eq_true rfl) (Nat.le_of_ble_eq_true rfl) rfl ⟨(Nat.le_of_ble_eq_true rfl), (Nat.le_of_ble_eq_true rfl), (Nat.le_of_ble_eq_true rfl), (Nat.le_of_ble_eq_true rfl)⟩ dX9_truncateText_15 dX9_truncateText_18 dX9_truncateText_19 dX9_truncateText_22
set_option maxRecDepth 100000 in
set_option maxHeartbeats 4000000 in
theorem K9_parseSystem {k : KT} {T : TT} {R : RR} {ly : Fin 2 → LL} {rc : RC} {hn : HN} {rp : RP} {tp : TP} {ee : EE} {st : Fin 12 → SS} {w : Nat → Int64} {aside : Nat → Int64} {thought : Nat → Int64} {fresh : Nat → Int64} {mu : MU} {th : Int32} {mp : MP} {mf : MF} {mh : MH} {mg : MG} {ou : Nat → Int64} {od : Nat → UInt64}   {r : Int32 × (TT) × (RR) × (Fin 2 → LL) × (TP) × (EE) × (Fin 12 → SS)} (hf : f9_parseSystem  T R ly tp ee st  = some r) : CT k strs yX9_parseSystem cX9_parseSystem 2 (some .int) (rmD 13 0 0) 0 0 [.ref (k.b + (0))] (wAll k T R ly rc hn rp tp ee st w aside thought fresh mu th mp mf mh mg ou od) (some (.int r.1)) (wAll k r.2.1 r.2.2.1 r.2.2.2.1 rc hn rp r.2.2.2.2.1 r.2.2.2.2.2.1 r.2.2.2.2.2.2 w aside thought fresh mu th mp mf mh mg ou od) := by
  refine CT.of (by decide) (Nat.le_of_ble_eq_true rfl) ?_
  intro z X hQ
  show VW k z 0 0 (wAll k T R ly rc hn rp tp ee st w aside thought fresh mu th mp mf mh mg ou od) 0 [some (.ref (k.b + (0))), none] []
  unfold f9_parseSystem at hf
  refine r_aload_n X (x := k.b + (0)) dX9_parseSystem_0 rfl ?_
  refine r_getfield X (v := .ref (k.b + (20))) clsX9 flX9_37 (Nat.le_of_ble_eq_true rfl) _ o_main rfl dX9_parseSystem_1 ?_
  refine VW.foc (ws' := wAll k T R (updF ly (1 : Fin 2) (ly (1 : Fin 2))) rc hn rp tp ee st w aside thought fresh mu th mp mf mh mg ou od) (by rw [updF_self]) ?_
  obtain ⟨u4, h4, hf⟩ := bdS hf
  refine r_callV0 X [] [] (K6_parse h4) lkX9_106 clsX6 rfl _ o_parser (by decide) (Nat.le_of_ble_eq_true rfl) rfl rfl (Nat.le_of_ble_eq_true rfl) rfl rfl (Nat.zero_le _) (Nat.zero_le _) dX9_parseSystem_4 ?_
  refine r_istore_n X [some (.ref (k.b + (0))), some (.int u4.1)] dX9_parseSystem_7 (Nat.le_of_ble_eq_true rfl) rfl ?_
  refine r_aload_n X (x := k.b + (0)) dX9_parseSystem_8 rfl ?_
  refine r_aload_n X (x := k.b + (0)) dX9_parseSystem_9 rfl ?_
  refine r_getfield X (v := .ref (k.b + (3))) clsX9 flX9_21 (Nat.le_of_ble_eq_true rfl) _ o_main rfl dX9_parseSystem_10 ?_
  refine r_getfield X (v := .int (RR_errorCode u4.2.1)) clsX2 flX9_110 (Nat.le_of_ble_eq_true rfl) _ o_reader rfl dX9_parseSystem_13 ?_
  refine r_putfield X (ws1 := wAll k T u4.2.1 (updF ly (1 : Fin 2) u4.2.2) rc hn rp tp (EE_set_code ee (RR_errorCode u4.2.1)) st w aside thought fresh mu th mp mf mh mg ou od) clsX9 flX9_87 (Nat.le_of_ble_eq_true rfl) rfl rfl rfl _ o_main (Nat.le_of_ble_eq_true rfl) (s_ee_code (RR_errorCode u4.2.1)) dX9_parseSystem_16 ?_
  refine r_aload_n X (x := k.b + (0)) dX9_parseSystem_19 rfl ?_
  refine r_aload_n X (x := k.b + (0)) dX9_parseSystem_20 rfl ?_
  refine r_getfield X (v := .ref (k.b + (3))) clsX9 flX9_21 (Nat.le_of_ble_eq_true rfl) _ o_main rfl dX9_parseSystem_21 ?_
  refine r_getfield X (v := .int (RR_errorPosition u4.2.1)) clsX2 flX9_113 (Nat.le_of_ble_eq_true rfl) _ o_reader rfl dX9_parseSystem_24 ?_
  refine r_putfield X (ws1 := wAll k T u4.2.1 (updF ly (1 : Fin 2) u4.2.2) rc hn rp tp (EE_set_pos (EE_set_code ee (RR_errorCode u4.2.1)) (RR_errorPosition u4.2.1)) st w aside thought fresh mu th mp mf mh mg ou od) clsX9 flX9_90 (Nat.le_of_ble_eq_true rfl) rfl rfl rfl _ o_main (Nat.le_of_ble_eq_true rfl) (s_ee_pos (RR_errorPosition u4.2.1)) dX9_parseSystem_27 ?_
  refine r_aload_n X (x := k.b + (0)) dX9_parseSystem_30 rfl ?_
  refine r_getfield X (v := .ref (k.b + (1))) clsX9 flX9_12 (Nat.le_of_ble_eq_true rfl) _ o_main rfl dX9_parseSystem_31 ?_
  refine r_iconst X (v := 0) dX9_parseSystem_34 rfl ?_
  refine r_putfield X (ws1 := wAll k (TT_set_length T 0) u4.2.1 (updF ly (1 : Fin 2) u4.2.2) rc hn rp tp (EE_set_pos (EE_set_code ee (RR_errorCode u4.2.1)) (RR_errorPosition u4.2.1)) st w aside thought fresh mu th mp mf mh mg ou od) clsX8 flX9_93 (Nat.le_of_ble_eq_true rfl) rfl rfl rfl _ o_text (Nat.le_of_ble_eq_true rfl) (s_T_length 0) dX9_parseSystem_35 ?_
  refine r_iload_n X (x := u4.1) dX9_parseSystem_38 rfl ?_
  refine r_if_ne X 44 dX9_parseSystem_39 rfl (fun c39 => ?_) (fun c39 => ?_)
  · replace hf := ifF hf c39
    refine r_aload_n X (x := k.b + (0)) dX9_parseSystem_44 rfl ?_
    refine r_getfield X (v := .ref (k.b + (4 + 17 * (0 : Fin 2).val))) clsX9 flX9_28 (Nat.le_of_ble_eq_true rfl) _ o_main rfl dX9_parseSystem_45 ?_
    refine r_aload_n X (x := k.b + (0)) dX9_parseSystem_48 rfl ?_
    refine r_getfield X (v := .ref (k.b + (20))) clsX9 flX9_37 (Nat.le_of_ble_eq_true rfl) _ o_main rfl dX9_parseSystem_49 ?_
    refine r_getfield X (v := .ref (k.b + (4 + 17 * (1 : Fin 2).val))) clsX6 flX9_116 (Nat.le_of_ble_eq_true rfl) _ o_parser rfl dX9_parseSystem_52 ?_
    refine VW.foc (ws' := wAll k (TT_set_length T 0) u4.2.1 (updF (updF ly (1 : Fin 2) u4.2.2) (0 : Fin 2) ((updF ly (1 : Fin 2) u4.2.2) (0 : Fin 2))) rc hn rp tp (EE_set_pos (EE_set_code ee (RR_errorCode u4.2.1)) (RR_errorPosition u4.2.1)) st w aside thought fresh mu th mp mf mh mg ou od) (by rw [updF_self]) ?_
    obtain ⟨u55, h55, hf⟩ := bdS hf
    refine r_callV0 X [.ref (k.b + (4 + 17 * (1 : Fin 2).val))] [] (K1_copyFrom h55) lkX9_119 clsX1 rfl _ (o_lay1 (0 : Fin 2) _) (by decide) (Nat.le_of_ble_eq_true rfl) rfl rfl (Nat.le_of_ble_eq_true rfl) rfl rfl (Nat.zero_le _) (Nat.zero_le _) dX9_parseSystem_55 ?_
    refine r_aload_n X (x := k.b + (0)) dX9_parseSystem_58 rfl ?_
    refine r_getfield X (v := .ref (k.b + (45 + 12 * (TP_pr tp).val))) clsX9 flX9_73 (Nat.le_of_ble_eq_true rfl) _ o_main rfl dX9_parseSystem_59 ?_
    refine VW.foc (ws' := wAll k (TT_set_length T 0) u4.2.1 (updF (updF ly (1 : Fin 2) u4.2.2) (0 : Fin 2) u55) rc hn rp tp (EE_set_pos (EE_set_code ee (RR_errorCode u4.2.1)) (RR_errorPosition u4.2.1)) (updF st (TP_pr tp) (st (TP_pr tp))) w aside thought fresh mu th mp mf mh mg ou od) (by rw [updF_self]) ?_
    obtain ⟨u62, h62, hf⟩ := bdS hf
    refine r_callV0 X [] [] (K5_reset h62) lkX9_122 clsX5 rfl _ (o_st1 (TP_pr tp) _) (by decide) (Nat.le_of_ble_eq_true rfl) rfl rfl (Nat.le_of_ble_eq_true rfl) rfl rfl (Nat.zero_le _) (Nat.zero_le _) dX9_parseSystem_62 ?_
    refine r_aload_n X (x := k.b + (0)) dX9_parseSystem_65 rfl ?_
    refine r_iconst X (v := 0) dX9_parseSystem_66 rfl ?_
    refine r_putfield X (ws1 := wAll k (TT_set_length T 0) u4.2.1 (updF (updF ly (1 : Fin 2) u4.2.2) (0 : Fin 2) u55) rc hn rp (TP_set_undoable tp 0) (EE_set_pos (EE_set_code ee (RR_errorCode u4.2.1)) (RR_errorPosition u4.2.1)) (updF st (TP_pr tp) u62) w aside thought fresh mu th mp mf mh mg ou od) clsX9 flX9_84 (Nat.le_of_ble_eq_true rfl) rfl rfl rfl _ o_main (Nat.le_of_ble_eq_true rfl) (s_tp_undoable 0) dX9_parseSystem_67 ?_
    refine r_aload_n X (x := k.b + (0)) dX9_parseSystem_70 rfl ?_
    refine r_getfield X (v := .ref (k.b + (4 + 17 * (0 : Fin 2).val))) clsX9 flX9_28 (Nat.le_of_ble_eq_true rfl) _ o_main rfl dX9_parseSystem_71 ?_
    refine r_getfield X (v := .int (LL_chambers u55)) clsX1 flX9_125 (Nat.le_of_ble_eq_true rfl) _ (o_lay1 (0 : Fin 2) _) rfl dX9_parseSystem_74 ?_
    obtain rfl := Option.some.inj hf
    exact r_ireturn X hQ rfl rfl (Nat.le_of_ble_eq_true rfl) (Nat.le_of_ble_eq_true rfl) dX9_parseSystem_77
  · replace hf := ifT hf c39
    refine r_iconst X (v := (-1)) dX9_parseSystem_42 rfl ?_
    obtain rfl := Option.some.inj hf
    exact r_ireturn X hQ rfl rfl (Nat.le_of_ble_eq_true rfl) (Nat.le_of_ble_eq_true rfl) dX9_parseSystem_43
set_option maxRecDepth 100000 in
set_option maxHeartbeats 4000000 in
theorem K9_errorCode {k : KT} {T : TT} {R : RR} {ly : Fin 2 → LL} {rc : RC} {hn : HN} {rp : RP} {tp : TP} {ee : EE} {st : Fin 12 → SS} {w : Nat → Int64} {aside : Nat → Int64} {thought : Nat → Int64} {fresh : Nat → Int64} {mu : MU} {th : Int32} {mp : MP} {mf : MF} {mh : MH} {mg : MG} {ou : Nat → Int64} {od : Nat → UInt64}   {r : Int32} (hf : f9_errorCode ee   = some r) : CT k strs yX9_errorCode cX9_errorCode 1 (some .int) (rmD 0 0 0) 0 0 [.ref (k.b + (0))] (wAll k T R ly rc hn rp tp ee st w aside thought fresh mu th mp mf mh mg ou od) (some (.int r)) (wAll k T R ly rc hn rp tp ee st w aside thought fresh mu th mp mf mh mg ou od) := by
  refine CT.of (by decide) (Nat.le_of_ble_eq_true rfl) ?_
  intro z X hQ
  show VW k z 0 0 (wAll k T R ly rc hn rp tp ee st w aside thought fresh mu th mp mf mh mg ou od) 0 [some (.ref (k.b + (0)))] []
  unfold f9_errorCode at hf
  refine r_aload_n X (x := k.b + (0)) dX9_errorCode_0 rfl ?_
  refine r_getfield X (v := .int (EE_code ee)) clsX9 flX9_87 (Nat.le_of_ble_eq_true rfl) _ o_main rfl dX9_errorCode_1 ?_
  obtain rfl := Option.some.inj hf
  exact r_ireturn X hQ rfl rfl (Nat.le_of_ble_eq_true rfl) (Nat.le_of_ble_eq_true rfl) dX9_errorCode_4
set_option maxRecDepth 100000 in
set_option maxHeartbeats 4000000 in
theorem K9_errorPosition {k : KT} {T : TT} {R : RR} {ly : Fin 2 → LL} {rc : RC} {hn : HN} {rp : RP} {tp : TP} {ee : EE} {st : Fin 12 → SS} {w : Nat → Int64} {aside : Nat → Int64} {thought : Nat → Int64} {fresh : Nat → Int64} {mu : MU} {th : Int32} {mp : MP} {mf : MF} {mh : MH} {mg : MG} {ou : Nat → Int64} {od : Nat → UInt64}   {r : Int32} (hf : f9_errorPosition ee   = some r) : CT k strs yX9_errorPosition cX9_errorPosition 1 (some .int) (rmD 0 0 0) 0 0 [.ref (k.b + (0))] (wAll k T R ly rc hn rp tp ee st w aside thought fresh mu th mp mf mh mg ou od) (some (.int r)) (wAll k T R ly rc hn rp tp ee st w aside thought fresh mu th mp mf mh mg ou od) := by
  refine CT.of (by decide) (Nat.le_of_ble_eq_true rfl) ?_
  intro z X hQ
  show VW k z 0 0 (wAll k T R ly rc hn rp tp ee st w aside thought fresh mu th mp mf mh mg ou od) 0 [some (.ref (k.b + (0)))] []
  unfold f9_errorPosition at hf
  refine r_aload_n X (x := k.b + (0)) dX9_errorPosition_0 rfl ?_
  refine r_getfield X (v := .int (EE_pos ee)) clsX9 flX9_90 (Nat.le_of_ble_eq_true rfl) _ o_main rfl dX9_errorPosition_1 ?_
  obtain rfl := Option.some.inj hf
  exact r_ireturn X hQ rfl rfl (Nat.le_of_ble_eq_true rfl) (Nat.le_of_ble_eq_true rfl) dX9_errorPosition_4
set_option maxRecDepth 100000 in
set_option maxHeartbeats 4000000 in
theorem K9_beginTrial {k : KT} {T : TT} {R : RR} {ly : Fin 2 → LL} {rc : RC} {hn : HN} {rp : RP} {tp : TP} {ee : EE} {st : Fin 12 → SS} {w : Nat → Int64} {aside : Nat → Int64} {thought : Nat → Int64} {fresh : Nat → Int64} {mu : MU} {th : Int32} {mp : MP} {mf : MF} {mh : MH} {mg : MG} {ou : Nat → Int64} {od : Nat → UInt64}   {r : (Fin 12 → SS)} (hf : f9_beginTrial tp st  = some r) : CT k strs yX9_beginTrial cX9_beginTrial 1 none (rmD 3 0 0) 0 0 [.ref (k.b + (0))] (wAll k T R ly rc hn rp tp ee st w aside thought fresh mu th mp mf mh mg ou od) (none) (wAll k T R ly rc hn rp tp ee r w aside thought fresh mu th mp mf mh mg ou od) := by
  refine CT.of (by decide) (Nat.le_of_ble_eq_true rfl) ?_
  intro z X hQ
  show VW k z 0 0 (wAll k T R ly rc hn rp tp ee st w aside thought fresh mu th mp mf mh mg ou od) 0 [some (.ref (k.b + (0)))] []
  unfold f9_beginTrial at hf
  refine r_aload_n X (x := k.b + (0)) dX9_beginTrial_0 rfl ?_
  refine r_getfield X (v := .ref (k.b + (45 + 12 * (TP_tr tp).val))) clsX9 flX9_77 (Nat.le_of_ble_eq_true rfl) _ o_main rfl dX9_beginTrial_1 ?_
  refine r_aload_n X (x := k.b + (0)) dX9_beginTrial_4 rfl ?_
  refine r_getfield X (v := .ref (k.b + (45 + 12 * (TP_pr tp).val))) clsX9 flX9_73 (Nat.le_of_ble_eq_true rfl) _ o_main rfl dX9_beginTrial_5 ?_
  refine VW.foc (ws' := wAll k T R ly rc hn rp tp ee (updF st (TP_tr tp) (st (TP_tr tp))) w aside thought fresh mu th mp mf mh mg ou od) (by rw [updF_self]) ?_
  obtain ⟨g8a, hf⟩ := gdS hf
  obtain ⟨u8, h8, hf⟩ := bdS hf
  refine r_callV0 X [.ref (k.b + (45 + 12 * (TP_pr tp).val))] [] (K5_copyFrom (of_decide_eq_true g8a) h8) lkX9_382 clsX5 rfl _ (o_st1 (TP_tr tp) _) (by decide) (Nat.le_of_ble_eq_true rfl) rfl rfl (Nat.le_of_ble_eq_true rfl) rfl rfl (Nat.zero_le _) (Nat.zero_le _) dX9_beginTrial_8 ?_
  obtain rfl := Option.some.inj hf
  exact r_return X hQ rfl rfl (Nat.le_of_ble_eq_true rfl) (Nat.le_of_ble_eq_true rfl) dX9_beginTrial_11
set_option maxRecDepth 100000 in
set_option maxHeartbeats 4000000 in
theorem K9_keepTrial {k : KT} {T : TT} {R : RR} {ly : Fin 2 → LL} {rc : RC} {hn : HN} {rp : RP} {tp : TP} {ee : EE} {st : Fin 12 → SS} {w : Nat → Int64} {aside : Nat → Int64} {thought : Nat → Int64} {fresh : Nat → Int64} {mu : MU} {th : Int32} {mp : MP} {mf : MF} {mh : MH} {mg : MG} {ou : Nat → Int64} {od : Nat → UInt64}   {r : (TP)} (hf : f9_keepTrial  tp  = some r) : CT k strs yX9_keepTrial cX9_keepTrial 2 none (rmD 1 0 0) 0 0 [.ref (k.b + (0))] (wAll k T R ly rc hn rp tp ee st w aside thought fresh mu th mp mf mh mg ou od) (none) (wAll k T R ly rc hn rp r ee st w aside thought fresh mu th mp mf mh mg ou od) := by
  refine CT.of (by decide) (Nat.le_of_ble_eq_true rfl) ?_
  intro z X hQ
  show VW k z 0 0 (wAll k T R ly rc hn rp tp ee st w aside thought fresh mu th mp mf mh mg ou od) 0 [some (.ref (k.b + (0))), none] []
  unfold f9_keepTrial at hf
  refine r_aload_n X (x := k.b + (0)) dX9_keepTrial_0 rfl ?_
  refine r_getfield X (v := .ref (k.b + (44))) clsX9 flX9_66 (Nat.le_of_ble_eq_true rfl) _ o_main rfl dX9_keepTrial_1 ?_
  refine r_aload_n X (x := k.b + (0)) dX9_keepTrial_4 rfl ?_
  refine r_getfield X (v := .int (TP_nextPast tp)) clsX9 flX9_80 (Nat.le_of_ble_eq_true rfl) _ o_main rfl dX9_keepTrial_5 ?_
  obtain ⟨g8, hf⟩ := gdS hf
  refine r_aaload X (v := .ref (k.b + (45 + 12 * ((TP_past tp) (ix (TP_nextPast tp))).val))) _ a_past g8 rfl dX9_keepTrial_8 ?_
  refine r_astore_n X [some (.ref (k.b + (0))), some (.ref (k.b + (45 + 12 * ((TP_past tp) (ix (TP_nextPast tp))).val)))] dX9_keepTrial_9 (Nat.le_of_ble_eq_true rfl) rfl ?_
  refine r_aload_n X (x := k.b + (0)) dX9_keepTrial_10 rfl ?_
  refine r_getfield X (v := .ref (k.b + (44))) clsX9 flX9_66 (Nat.le_of_ble_eq_true rfl) _ o_main rfl dX9_keepTrial_11 ?_
  refine r_aload_n X (x := k.b + (0)) dX9_keepTrial_14 rfl ?_
  refine r_getfield X (v := .int (TP_nextPast tp)) clsX9 flX9_80 (Nat.le_of_ble_eq_true rfl) _ o_main rfl dX9_keepTrial_15 ?_
  refine r_aload_n X (x := k.b + (0)) dX9_keepTrial_18 rfl ?_
  refine r_getfield X (v := .ref (k.b + (45 + 12 * (TP_pr tp).val))) clsX9 flX9_73 (Nat.le_of_ble_eq_true rfl) _ o_main rfl dX9_keepTrial_19 ?_
  refine r_aastore X (ws1 := wAll k T R ly rc hn rp (TP_set_past tp (updN (TP_past tp) (ix (TP_nextPast tp)) (TP_pr tp))) ee st w aside thought fresh mu th mp mf mh mg ou od) _ _ a_past (o_st (TP_pr tp)) g8 (s_pastU _ _) dX9_keepTrial_22 ?_
  refine r_aload_n X (x := k.b + (0)) dX9_keepTrial_23 rfl ?_
  refine r_aload_n X (x := k.b + (0)) dX9_keepTrial_24 rfl ?_
  refine r_getfield X (v := .ref (k.b + (45 + 12 * (TP_tr tp).val))) clsX9 flX9_77 (Nat.le_of_ble_eq_true rfl) _ o_main rfl dX9_keepTrial_25 ?_
  refine r_putfield X (ws1 := wAll k T R ly rc hn rp (TP_set_pr (TP_set_past tp (updN (TP_past tp) (ix (TP_nextPast tp)) (TP_pr tp))) (TP_tr tp)) ee st w aside thought fresh mu th mp mf mh mg ou od) clsX9 flX9_73 (Nat.le_of_ble_eq_true rfl) rfl rfl rfl _ o_main (Nat.le_of_ble_eq_true rfl) (s_tp_pr (TP_tr tp)) dX9_keepTrial_28 ?_
  refine r_aload_n X (x := k.b + (0)) dX9_keepTrial_31 rfl ?_
  refine r_aload_n X (x := k.b + (45 + 12 * ((TP_past tp) (ix (TP_nextPast tp))).val)) dX9_keepTrial_32 rfl ?_
  refine r_putfield X (ws1 := wAll k T R ly rc hn rp (TP_set_tr (TP_set_pr (TP_set_past tp (updN (TP_past tp) (ix (TP_nextPast tp)) (TP_pr tp))) (TP_tr tp)) ((TP_past tp) (ix (TP_nextPast tp)))) ee st w aside thought fresh mu th mp mf mh mg ou od) clsX9 flX9_77 (Nat.le_of_ble_eq_true rfl) rfl rfl rfl _ o_main (Nat.le_of_ble_eq_true rfl) (s_tp_tr ((TP_past tp) (ix (TP_nextPast tp)))) dX9_keepTrial_33 ?_
  refine r_aload_n X (x := k.b + (0)) dX9_keepTrial_36 rfl ?_
  refine r_aload_n X (x := k.b + (0)) dX9_keepTrial_37 rfl ?_
  refine r_getfield X (v := .int (TP_nextPast tp)) clsX9 flX9_80 (Nat.le_of_ble_eq_true rfl) _ o_main (hvI rfl ((TP_nextPast_set_tr _ _).trans ((TP_nextPast_set_pr _ _).trans (TP_nextPast_set_past _ _)))) dX9_keepTrial_38 ?_
  refine r_iconst X (v := 1) dX9_keepTrial_41 rfl ?_
  refine r_iadd X dX9_keepTrial_42 ?_
  refine r_bipush X (v := 10) dX9_keepTrial_43 rfl ?_
  refine r_irem X dX9_keepTrial_45 (by decide) ?_
  refine r_putfield X (ws1 := wAll k T R ly rc hn rp (TP_set_nextPast (TP_set_tr (TP_set_pr (TP_set_past tp (updN (TP_past tp) (ix (TP_nextPast tp)) (TP_pr tp))) (TP_tr tp)) ((TP_past tp) (ix (TP_nextPast tp)))) (((TP_nextPast tp) + 1) - ((TP_nextPast tp) + 1) / 10 * 10)) ee st w aside thought fresh mu th mp mf mh mg ou od) clsX9 flX9_80 (Nat.le_of_ble_eq_true rfl) rfl rfl rfl _ o_main (Nat.le_of_ble_eq_true rfl) (s_tp_nextPast (((TP_nextPast tp) + 1) - ((TP_nextPast tp) + 1) / 10 * 10)) dX9_keepTrial_46 ?_
  refine r_aload_n X (x := k.b + (0)) dX9_keepTrial_49 rfl ?_
  refine r_aload_n X (x := k.b + (0)) dX9_keepTrial_50 rfl ?_
  refine r_getfield X (v := .int (TP_undoable tp)) clsX9 flX9_84 (Nat.le_of_ble_eq_true rfl) _ o_main (hvI rfl ((TP_undoable_set_nextPast _ _).trans ((TP_undoable_set_tr _ _).trans ((TP_undoable_set_pr _ _).trans (TP_undoable_set_past _ _))))) dX9_keepTrial_51 ?_
  refine r_iconst X (v := 1) dX9_keepTrial_54 rfl ?_
  refine r_iadd X dX9_keepTrial_55 ?_
  refine r_bipush X (v := 10) dX9_keepTrial_56 rfl ?_
  refine r_imin X lkX9_317 rfl ⟨(Nat.le_of_ble_eq_true rfl), (Nat.le_of_ble_eq_true rfl)⟩ (Nat.zero_le _) (Nat.zero_le _) dX9_keepTrial_58 ?_
  refine r_putfield X (ws1 := wAll k T R ly rc hn rp (TP_set_undoable (TP_set_nextPast (TP_set_tr (TP_set_pr (TP_set_past tp (updN (TP_past tp) (ix (TP_nextPast tp)) (TP_pr tp))) (TP_tr tp)) ((TP_past tp) (ix (TP_nextPast tp)))) (((TP_nextPast tp) + 1) - ((TP_nextPast tp) + 1) / 10 * 10)) (if 10 < ((TP_undoable tp) + 1) then 10 else ((TP_undoable tp) + 1))) ee st w aside thought fresh mu th mp mf mh mg ou od) clsX9 flX9_84 (Nat.le_of_ble_eq_true rfl) rfl rfl rfl _ o_main (Nat.le_of_ble_eq_true rfl) (s_tp_undoable (if 10 < ((TP_undoable tp) + 1) then 10 else ((TP_undoable tp) + 1))) dX9_keepTrial_61 ?_
  obtain rfl := Option.some.inj hf
  exact r_return X hQ rfl rfl (Nat.le_of_ble_eq_true rfl) (Nat.le_of_ble_eq_true rfl) dX9_keepTrial_64
set_option maxRecDepth 100000 in
set_option maxHeartbeats 4000000 in
theorem K9_open {k : KT} {T : TT} {R : RR} {ly : Fin 2 → LL} {rc : RC} {hn : HN} {rp : RP} {tp : TP} {ee : EE} {st : Fin 12 → SS} {w : Nat → Int64} {aside : Nat → Int64} {thought : Nat → Int64} {fresh : Nat → Int64} {mu : MU} {th : Int32} {mp : MP} {mf : MF} {mh : MH} {mg : MG} {ou : Nat → Int64} {od : Nat → UInt64}  {x1 : Int32} {r : (Int32 ⊕ Nat) × (TP) × (Fin 12 → SS)} (hf : f9_open (ly (0 : Fin 2)) tp st x1 = some r) : CX k strs yX9_open cX9_open 2 (some .int) (rmD 6 1 6) [.ref (k.b + (0)), .int x1] (wAll k T R ly rc hn rp tp ee st w aside thought fresh mu th mp mf mh mg ou od) (oI r.1) (wAll k T R ly rc hn rp r.2.1 ee r.2.2 w aside thought fresh mu th mp mf mh mg ou od) := by
  refine CX.of (by decide) (Nat.le_of_ble_eq_true rfl) ?_
  intro z X hT hQ
  show VW k z 0 0 (wAll k T R ly rc hn rp tp ee st w aside thought fresh mu th mp mf mh mg ou od) 0 [some (.ref (k.b + (0))), some (.int x1)] []
  unfold f9_open at hf
  refine r_aload_n X (x := k.b + (0)) dX9_open_0 rfl ?_
  refine r_getfield X (v := .ref (k.b + (4 + 17 * (0 : Fin 2).val))) clsX9 flX9_28 (Nat.le_of_ble_eq_true rfl) _ o_main rfl dX9_open_1 ?_
  refine r_iload_n X (x := x1) dX9_open_4 rfl ?_
  obtain ⟨u5, h5, hf⟩ := bdS hf
  refine r_callV0 X [.int x1] [] (K1_hasValve h5) lkX9_128 clsX1 rfl _ (o_lay (0 : Fin 2)) (by decide) (Nat.le_of_ble_eq_true rfl) rfl rfl (Nat.le_of_ble_eq_true rfl) rfl rfl (Nat.zero_le _) (Nat.zero_le _) dX9_open_5 ?_
  refine r_if_ne X 19 dX9_open_8 rfl (fun c8 => ?_) (fun c8 => ?_)
  · replace hf := ifF hf c8
    refine r_aload_n X (x := k.b + (0)) dX9_open_19 rfl ?_
    refine r_getfield X (v := .ref (k.b + (45 + 12 * (TP_pr tp).val))) clsX9 flX9_73 (Nat.le_of_ble_eq_true rfl) _ o_main rfl dX9_open_20 ?_
    refine r_iload_n X (x := x1) dX9_open_23 rfl ?_
    obtain ⟨u24, h24, hf⟩ := bdS hf
    refine r_callV0 X [.int x1] [] (CT_unS (W := fun zz => wAll k T R ly rc hn rp tp ee zz w aside thought fresh mu th mp mf mh mg ou od) (W2 := fun zz => wAll k T R ly rc hn rp tp ee zz w aside thought fresh mu th mp mf mh mg ou od) (st := st) (TP_pr tp) (K5_openingBar h24)) lkX9_135 clsX5 rfl _ (o_st (TP_pr tp)) (by decide) (Nat.le_of_ble_eq_true rfl) rfl rfl (Nat.le_of_ble_eq_true rfl) rfl rfl (Nat.zero_le _) (Nat.zero_le _) dX9_open_24 ?_
    refine r_if_eq X 38 dX9_open_27 rfl (fun c27 => ?_) (fun c27 => ?_)
    · replace hf := ifT hf c27
      refine r_aload_n X (x := k.b + (0)) dX9_open_38 rfl ?_
      obtain ⟨u39, h39, hf⟩ := bdS hf
      refine r_callV0 X [] [] (K9_beginTrial h39) lkX9_139 clsX9 rfl _ o_main (by decide) (Nat.le_of_ble_eq_true rfl) rfl rfl (Nat.le_of_ble_eq_true rfl) rfl rfl (Nat.zero_le _) (Nat.zero_le _) dX9_open_39 ?_
      refine r_aload_n X (x := k.b + (0)) dX9_open_42 rfl ?_
      refine r_getfield X (v := .ref (k.b + (45 + 12 * (TP_tr tp).val))) clsX9 flX9_77 (Nat.le_of_ble_eq_true rfl) _ o_main rfl dX9_open_43 ?_
      refine r_iload_n X (x := x1) dX9_open_46 rfl ?_
      refine VW.foc (ws' := wAll k T R ly rc hn rp tp ee (updF u39 (TP_tr tp) (u39 (TP_tr tp))) w aside thought fresh mu th mp mf mh mg ou od) (by rw [updF_self]) ?_
      obtain ⟨u47, h47, hf⟩ := bdS hf
      refine r_callV0 X [.int x1] [] (K5_openValve h47) lkX9_142 clsX5 rfl _ (o_st1 (TP_tr tp) _) (by decide) (Nat.le_of_ble_eq_true rfl) rfl rfl (Nat.le_of_ble_eq_true rfl) rfl rfl (Nat.zero_le _) (Nat.zero_le _) dX9_open_47 ?_
      refine r_aload_n X (x := k.b + (0)) dX9_open_50 rfl ?_
      obtain ⟨u51, h51, hf⟩ := bdS hf
      refine r_callV0 X [] [] (K9_keepTrial h51) lkX9_145 clsX9 rfl _ o_main (by decide) (Nat.le_of_ble_eq_true rfl) rfl rfl (Nat.le_of_ble_eq_true rfl) rfl rfl (Nat.zero_le _) (Nat.zero_le _) dX9_open_51 ?_
      refine r_aload_n X (x := k.b + (0)) dX9_open_54 rfl ?_
      refine r_getfield X (v := .ref (k.b + (45 + 12 * (TP_pr u51).val))) clsX9 flX9_73 (Nat.le_of_ble_eq_true rfl) _ o_main rfl dX9_open_55 ?_
      refine r_iload_n X (x := x1) dX9_open_58 rfl ?_
      obtain ⟨u59, h59, hf⟩ := bdS hf
      refine r_callV0 X [.int x1] [] (CT_unS (W := fun zz => wAll k T R ly rc hn rp u51 ee zz w aside thought fresh mu th mp mf mh mg ou od) (W2 := fun zz => wAll k T R ly rc hn rp u51 ee zz w aside thought fresh mu th mp mf mh mg ou od) (st := (updF u39 (TP_tr tp) u47)) (TP_pr u51) (K5_difference h59)) lkX9_148 clsX5 rfl _ (o_st (TP_pr u51)) (by decide) (Nat.le_of_ble_eq_true rfl) rfl rfl (Nat.le_of_ble_eq_true rfl) rfl rfl (Nat.zero_le _) (Nat.zero_le _) dX9_open_59 ?_
      obtain rfl := Option.some.inj hf
      exact x_ireturn X hQ rfl rfl (Nat.le_of_ble_eq_true rfl) (Nat.le_of_ble_eq_true rfl) dX9_open_62
    · replace hf := ifF hf c27
      obtain rfl := Option.some.inj hf
      exact r_throw X hT ltX9_0 (by decide) hQ rfl rfl (Nat.le_of_ble_eq_true rfl) (Nat.le_of_ble_eq_true rfl) rfl ⟨(Nat.le_of_ble_eq_true rfl), (Nat.le_of_ble_eq_true rfl), (Nat.le_of_ble_eq_true rfl), (Nat.le_of_ble_eq_true rfl)⟩ dX9_open_30 dX9_open_33 dX9_open_34 dX9_open_37
  · replace hf := ifT hf c8
    obtain rfl := Option.some.inj hf
    exact r_throw X hT ltX9_2 (by decide) hQ rfl rfl (Nat.le_of_ble_eq_true rfl) (Nat.le_of_ble_eq_true rfl) rfl ⟨(Nat.le_of_ble_eq_true rfl), (Nat.le_of_ble_eq_true rfl), (Nat.le_of_ble_eq_true rfl), (Nat.le_of_ble_eq_true rfl)⟩ dX9_open_11 dX9_open_14 dX9_open_15 dX9_open_18
set_option maxRecDepth 100000 in
set_option maxHeartbeats 4000000 in
theorem K9_close {k : KT} {T : TT} {R : RR} {ly : Fin 2 → LL} {rc : RC} {hn : HN} {rp : RP} {tp : TP} {ee : EE} {st : Fin 12 → SS} {w : Nat → Int64} {aside : Nat → Int64} {thought : Nat → Int64} {fresh : Nat → Int64} {mu : MU} {th : Int32} {mp : MP} {mf : MF} {mh : MH} {mg : MG} {ou : Nat → Int64} {od : Nat → UInt64}  {x1 : Int32} {r : (Int32 ⊕ Nat) × (TP) × (Fin 12 → SS)} (hf : f9_close (ly (0 : Fin 2)) tp st x1 = some r) : CX k strs yX9_close cX9_close 2 (some .int) (rmD 6 1 6) [.ref (k.b + (0)), .int x1] (wAll k T R ly rc hn rp tp ee st w aside thought fresh mu th mp mf mh mg ou od) (oI r.1) (wAll k T R ly rc hn rp r.2.1 ee r.2.2 w aside thought fresh mu th mp mf mh mg ou od) := by
  refine CX.of (by decide) (Nat.le_of_ble_eq_true rfl) ?_
  intro z X hT hQ
  show VW k z 0 0 (wAll k T R ly rc hn rp tp ee st w aside thought fresh mu th mp mf mh mg ou od) 0 [some (.ref (k.b + (0))), some (.int x1)] []
  unfold f9_close at hf
  refine r_aload_n X (x := k.b + (0)) dX9_close_0 rfl ?_
  refine r_getfield X (v := .ref (k.b + (4 + 17 * (0 : Fin 2).val))) clsX9 flX9_28 (Nat.le_of_ble_eq_true rfl) _ o_main rfl dX9_close_1 ?_
  refine r_iload_n X (x := x1) dX9_close_4 rfl ?_
  obtain ⟨u5, h5, hf⟩ := bdS hf
  refine r_callV0 X [.int x1] [] (K1_hasValve h5) lkX9_128 clsX1 rfl _ (o_lay (0 : Fin 2)) (by decide) (Nat.le_of_ble_eq_true rfl) rfl rfl (Nat.le_of_ble_eq_true rfl) rfl rfl (Nat.zero_le _) (Nat.zero_le _) dX9_close_5 ?_
  refine r_if_ne X 19 dX9_close_8 rfl (fun c8 => ?_) (fun c8 => ?_)
  · replace hf := ifF hf c8
    refine r_aload_n X (x := k.b + (0)) dX9_close_19 rfl ?_
    refine r_getfield X (v := .ref (k.b + (45 + 12 * (TP_pr tp).val))) clsX9 flX9_73 (Nat.le_of_ble_eq_true rfl) _ o_main rfl dX9_close_20 ?_
    refine r_iload_n X (x := x1) dX9_close_23 rfl ?_
    obtain ⟨u24, h24, hf⟩ := bdS hf
    refine r_callV0 X [.int x1] [] (CT_unS (W := fun zz => wAll k T R ly rc hn rp tp ee zz w aside thought fresh mu th mp mf mh mg ou od) (W2 := fun zz => wAll k T R ly rc hn rp tp ee zz w aside thought fresh mu th mp mf mh mg ou od) (st := st) (TP_pr tp) (K5_isOpen h24)) lkX9_151 clsX5 rfl _ (o_st (TP_pr tp)) (by decide) (Nat.le_of_ble_eq_true rfl) rfl rfl (Nat.le_of_ble_eq_true rfl) rfl rfl (Nat.zero_le _) (Nat.zero_le _) dX9_close_24 ?_
    refine r_if_ne X 38 dX9_close_27 rfl (fun c27 => ?_) (fun c27 => ?_)
    · replace hf := ifF hf c27
      refine r_aload_n X (x := k.b + (0)) dX9_close_38 rfl ?_
      obtain ⟨u39, h39, hf⟩ := bdS hf
      refine r_callV0 X [] [] (K9_beginTrial h39) lkX9_139 clsX9 rfl _ o_main (by decide) (Nat.le_of_ble_eq_true rfl) rfl rfl (Nat.le_of_ble_eq_true rfl) rfl rfl (Nat.zero_le _) (Nat.zero_le _) dX9_close_39 ?_
      refine r_aload_n X (x := k.b + (0)) dX9_close_42 rfl ?_
      refine r_getfield X (v := .ref (k.b + (45 + 12 * (TP_tr tp).val))) clsX9 flX9_77 (Nat.le_of_ble_eq_true rfl) _ o_main rfl dX9_close_43 ?_
      refine r_iload_n X (x := x1) dX9_close_46 rfl ?_
      refine VW.foc (ws' := wAll k T R ly rc hn rp tp ee (updF u39 (TP_tr tp) (u39 (TP_tr tp))) w aside thought fresh mu th mp mf mh mg ou od) (by rw [updF_self]) ?_
      obtain ⟨u47, h47, hf⟩ := bdS hf
      refine r_callV0 X [.int x1] [] (K5_closeValve h47) lkX9_154 clsX5 rfl _ (o_st1 (TP_tr tp) _) (by decide) (Nat.le_of_ble_eq_true rfl) rfl rfl (Nat.le_of_ble_eq_true rfl) rfl rfl (Nat.zero_le _) (Nat.zero_le _) dX9_close_47 ?_
      refine r_aload_n X (x := k.b + (0)) dX9_close_50 rfl ?_
      obtain ⟨u51, h51, hf⟩ := bdS hf
      refine r_callV0 X [] [] (K9_keepTrial h51) lkX9_145 clsX9 rfl _ o_main (by decide) (Nat.le_of_ble_eq_true rfl) rfl rfl (Nat.le_of_ble_eq_true rfl) rfl rfl (Nat.zero_le _) (Nat.zero_le _) dX9_close_51 ?_
      refine r_aload_n X (x := k.b + (0)) dX9_close_54 rfl ?_
      refine r_getfield X (v := .ref (k.b + (45 + 12 * (TP_pr u51).val))) clsX9 flX9_73 (Nat.le_of_ble_eq_true rfl) _ o_main rfl dX9_close_55 ?_
      refine r_iload_n X (x := x1) dX9_close_58 rfl ?_
      obtain ⟨u59, h59, hf⟩ := bdS hf
      refine r_callV0 X [.int x1] [] (CT_unS (W := fun zz => wAll k T R ly rc hn rp u51 ee zz w aside thought fresh mu th mp mf mh mg ou od) (W2 := fun zz => wAll k T R ly rc hn rp u51 ee zz w aside thought fresh mu th mp mf mh mg ou od) (st := (updF u39 (TP_tr tp) u47)) (TP_pr u51) (K5_difference h59)) lkX9_148 clsX5 rfl _ (o_st (TP_pr u51)) (by decide) (Nat.le_of_ble_eq_true rfl) rfl rfl (Nat.le_of_ble_eq_true rfl) rfl rfl (Nat.zero_le _) (Nat.zero_le _) dX9_close_59 ?_
      obtain rfl := Option.some.inj hf
      exact x_ireturn X hQ rfl rfl (Nat.le_of_ble_eq_true rfl) (Nat.le_of_ble_eq_true rfl) dX9_close_62
    · replace hf := ifT hf c27
      obtain rfl := Option.some.inj hf
      exact r_throw X hT ltX9_0 (by decide) hQ rfl rfl (Nat.le_of_ble_eq_true rfl) (Nat.le_of_ble_eq_true rfl) rfl ⟨(Nat.le_of_ble_eq_true rfl), (Nat.le_of_ble_eq_true rfl), (Nat.le_of_ble_eq_true rfl), (Nat.le_of_ble_eq_true rfl)⟩ dX9_close_30 dX9_close_33 dX9_close_34 dX9_close_37
  · replace hf := ifT hf c8
    obtain rfl := Option.some.inj hf
    exact r_throw X hT ltX9_2 (by decide) hQ rfl rfl (Nat.le_of_ble_eq_true rfl) (Nat.le_of_ble_eq_true rfl) rfl ⟨(Nat.le_of_ble_eq_true rfl), (Nat.le_of_ble_eq_true rfl), (Nat.le_of_ble_eq_true rfl), (Nat.le_of_ble_eq_true rfl)⟩ dX9_close_11 dX9_close_14 dX9_close_15 dX9_close_18
set_option maxRecDepth 100000 in
set_option maxHeartbeats 4000000 in
theorem K9_start {k : KT} {T : TT} {R : RR} {ly : Fin 2 → LL} {rc : RC} {hn : HN} {rp : RP} {tp : TP} {ee : EE} {st : Fin 12 → SS} {w : Nat → Int64} {aside : Nat → Int64} {thought : Nat → Int64} {fresh : Nat → Int64} {mu : MU} {th : Int32} {mp : MP} {mf : MF} {mh : MH} {mg : MG} {ou : Nat → Int64} {od : Nat → UInt64}  {x1 : Int32} {r : (Int32 ⊕ Nat) × (TP) × (Fin 12 → SS)} (hf : f9_start (ly (0 : Fin 2)) tp st x1 = some r) : CX k strs yX9_start cX9_start 2 (some .int) (rmD 6 1 6) [.ref (k.b + (0)), .int x1] (wAll k T R ly rc hn rp tp ee st w aside thought fresh mu th mp mf mh mg ou od) (oI r.1) (wAll k T R ly rc hn rp r.2.1 ee r.2.2 w aside thought fresh mu th mp mf mh mg ou od) := by
  refine CX.of (by decide) (Nat.le_of_ble_eq_true rfl) ?_
  intro z X hT hQ
  show VW k z 0 0 (wAll k T R ly rc hn rp tp ee st w aside thought fresh mu th mp mf mh mg ou od) 0 [some (.ref (k.b + (0))), some (.int x1)] []
  unfold f9_start at hf
  refine r_aload_n X (x := k.b + (0)) dX9_start_0 rfl ?_
  refine r_getfield X (v := .ref (k.b + (4 + 17 * (0 : Fin 2).val))) clsX9 flX9_28 (Nat.le_of_ble_eq_true rfl) _ o_main rfl dX9_start_1 ?_
  refine r_iload_n X (x := x1) dX9_start_4 rfl ?_
  obtain ⟨u5, h5, hf⟩ := bdS hf
  refine r_callV0 X [.int x1] [] (K1_hasPump h5) lkX9_157 clsX1 rfl _ (o_lay (0 : Fin 2)) (by decide) (Nat.le_of_ble_eq_true rfl) rfl rfl (Nat.le_of_ble_eq_true rfl) rfl rfl (Nat.zero_le _) (Nat.zero_le _) dX9_start_5 ?_
  refine r_if_ne X 19 dX9_start_8 rfl (fun c8 => ?_) (fun c8 => ?_)
  · replace hf := ifF hf c8
    refine r_aload_n X (x := k.b + (0)) dX9_start_19 rfl ?_
    refine r_getfield X (v := .ref (k.b + (45 + 12 * (TP_pr tp).val))) clsX9 flX9_73 (Nat.le_of_ble_eq_true rfl) _ o_main rfl dX9_start_20 ?_
    refine r_iload_n X (x := x1) dX9_start_23 rfl ?_
    obtain ⟨u24, h24, hf⟩ := bdS hf
    refine r_callV0 X [.int x1] [] (CT_unS (W := fun zz => wAll k T R ly rc hn rp tp ee zz w aside thought fresh mu th mp mf mh mg ou od) (W2 := fun zz => wAll k T R ly rc hn rp tp ee zz w aside thought fresh mu th mp mf mh mg ou od) (st := st) (TP_pr tp) (K5_startingBar h24)) lkX9_160 clsX5 rfl _ (o_st (TP_pr tp)) (by decide) (Nat.le_of_ble_eq_true rfl) rfl rfl (Nat.le_of_ble_eq_true rfl) rfl rfl (Nat.zero_le _) (Nat.zero_le _) dX9_start_24 ?_
    refine r_if_eq X 38 dX9_start_27 rfl (fun c27 => ?_) (fun c27 => ?_)
    · replace hf := ifT hf c27
      refine r_aload_n X (x := k.b + (0)) dX9_start_38 rfl ?_
      obtain ⟨u39, h39, hf⟩ := bdS hf
      refine r_callV0 X [] [] (K9_beginTrial h39) lkX9_139 clsX9 rfl _ o_main (by decide) (Nat.le_of_ble_eq_true rfl) rfl rfl (Nat.le_of_ble_eq_true rfl) rfl rfl (Nat.zero_le _) (Nat.zero_le _) dX9_start_39 ?_
      refine r_aload_n X (x := k.b + (0)) dX9_start_42 rfl ?_
      refine r_getfield X (v := .ref (k.b + (45 + 12 * (TP_tr tp).val))) clsX9 flX9_77 (Nat.le_of_ble_eq_true rfl) _ o_main rfl dX9_start_43 ?_
      refine r_iload_n X (x := x1) dX9_start_46 rfl ?_
      refine VW.foc (ws' := wAll k T R ly rc hn rp tp ee (updF u39 (TP_tr tp) (u39 (TP_tr tp))) w aside thought fresh mu th mp mf mh mg ou od) (by rw [updF_self]) ?_
      obtain ⟨u47, h47, hf⟩ := bdS hf
      refine r_callV0 X [.int x1] [] (K5_startPump h47) lkX9_163 clsX5 rfl _ (o_st1 (TP_tr tp) _) (by decide) (Nat.le_of_ble_eq_true rfl) rfl rfl (Nat.le_of_ble_eq_true rfl) rfl rfl (Nat.zero_le _) (Nat.zero_le _) dX9_start_47 ?_
      refine r_aload_n X (x := k.b + (0)) dX9_start_50 rfl ?_
      obtain ⟨u51, h51, hf⟩ := bdS hf
      refine r_callV0 X [] [] (K9_keepTrial h51) lkX9_145 clsX9 rfl _ o_main (by decide) (Nat.le_of_ble_eq_true rfl) rfl rfl (Nat.le_of_ble_eq_true rfl) rfl rfl (Nat.zero_le _) (Nat.zero_le _) dX9_start_51 ?_
      refine r_aload_n X (x := k.b + (0)) dX9_start_54 rfl ?_
      refine r_getfield X (v := .ref (k.b + (45 + 12 * (TP_pr u51).val))) clsX9 flX9_73 (Nat.le_of_ble_eq_true rfl) _ o_main rfl dX9_start_55 ?_
      refine r_getfield X (v := .ref (k.b + (45 + 12 * (TP_pr u51).val + 2))) clsX5 flX9_166 (Nat.le_of_ble_eq_true rfl) _ (o_st (TP_pr u51)) rfl dX9_start_58 ?_
      refine r_aload_n X (x := k.b + (0)) dX9_start_61 rfl ?_
      refine r_getfield X (v := .ref (k.b + (4 + 17 * (0 : Fin 2).val))) clsX9 flX9_28 (Nat.le_of_ble_eq_true rfl) _ o_main rfl dX9_start_62 ?_
      refine r_getfield X (v := .ref (k.b + (4 + 17 * (0 : Fin 2).val + 4))) clsX1 flX9_170 (Nat.le_of_ble_eq_true rfl) _ (o_lay (0 : Fin 2)) rfl dX9_start_65 ?_
      refine r_iload_n X (x := x1) dX9_start_68 rfl ?_
      obtain ⟨g69, hf⟩ := gdS hf
      refine r_iaload X (f := LL_pumpChamber (ly (0 : Fin 2))) _ (a_lay_pumpChamber (0 : Fin 2)) g69 dX9_start_69 ?_
      obtain ⟨g70, hf⟩ := gdS hf
      refine r_iaload X (f := SS_pressure ((updF u39 (TP_tr tp) u47) (TP_pr u51))) _ (a_st_pressure (TP_pr u51)) g70 dX9_start_70 ?_
      obtain rfl := Option.some.inj hf
      exact x_ireturn X hQ rfl rfl (Nat.le_of_ble_eq_true rfl) (Nat.le_of_ble_eq_true rfl) dX9_start_71
    · replace hf := ifF hf c27
      obtain rfl := Option.some.inj hf
      exact r_throw X hT ltX9_0 (by decide) hQ rfl rfl (Nat.le_of_ble_eq_true rfl) (Nat.le_of_ble_eq_true rfl) rfl ⟨(Nat.le_of_ble_eq_true rfl), (Nat.le_of_ble_eq_true rfl), (Nat.le_of_ble_eq_true rfl), (Nat.le_of_ble_eq_true rfl)⟩ dX9_start_30 dX9_start_33 dX9_start_34 dX9_start_37
  · replace hf := ifT hf c8
    obtain rfl := Option.some.inj hf
    exact r_throw X hT ltX9_2 (by decide) hQ rfl rfl (Nat.le_of_ble_eq_true rfl) (Nat.le_of_ble_eq_true rfl) rfl ⟨(Nat.le_of_ble_eq_true rfl), (Nat.le_of_ble_eq_true rfl), (Nat.le_of_ble_eq_true rfl), (Nat.le_of_ble_eq_true rfl)⟩ dX9_start_11 dX9_start_14 dX9_start_15 dX9_start_18
set_option maxRecDepth 100000 in
set_option maxHeartbeats 4000000 in
theorem K9_stop {k : KT} {T : TT} {R : RR} {ly : Fin 2 → LL} {rc : RC} {hn : HN} {rp : RP} {tp : TP} {ee : EE} {st : Fin 12 → SS} {w : Nat → Int64} {aside : Nat → Int64} {thought : Nat → Int64} {fresh : Nat → Int64} {mu : MU} {th : Int32} {mp : MP} {mf : MF} {mh : MH} {mg : MG} {ou : Nat → Int64} {od : Nat → UInt64}  {x1 : Int32} {r : (Int32 ⊕ Nat) × (TP) × (Fin 12 → SS)} (hf : f9_stop (ly (0 : Fin 2)) tp st x1 = some r) : CX k strs yX9_stop cX9_stop 2 (some .int) (rmD 6 1 6) [.ref (k.b + (0)), .int x1] (wAll k T R ly rc hn rp tp ee st w aside thought fresh mu th mp mf mh mg ou od) (oI r.1) (wAll k T R ly rc hn rp r.2.1 ee r.2.2 w aside thought fresh mu th mp mf mh mg ou od) := by
  refine CX.of (by decide) (Nat.le_of_ble_eq_true rfl) ?_
  intro z X hT hQ
  show VW k z 0 0 (wAll k T R ly rc hn rp tp ee st w aside thought fresh mu th mp mf mh mg ou od) 0 [some (.ref (k.b + (0))), some (.int x1)] []
  unfold f9_stop at hf
  refine r_aload_n X (x := k.b + (0)) dX9_stop_0 rfl ?_
  refine r_getfield X (v := .ref (k.b + (4 + 17 * (0 : Fin 2).val))) clsX9 flX9_28 (Nat.le_of_ble_eq_true rfl) _ o_main rfl dX9_stop_1 ?_
  refine r_iload_n X (x := x1) dX9_stop_4 rfl ?_
  obtain ⟨u5, h5, hf⟩ := bdS hf
  refine r_callV0 X [.int x1] [] (K1_hasPump h5) lkX9_157 clsX1 rfl _ (o_lay (0 : Fin 2)) (by decide) (Nat.le_of_ble_eq_true rfl) rfl rfl (Nat.le_of_ble_eq_true rfl) rfl rfl (Nat.zero_le _) (Nat.zero_le _) dX9_stop_5 ?_
  refine r_if_ne X 19 dX9_stop_8 rfl (fun c8 => ?_) (fun c8 => ?_)
  · replace hf := ifF hf c8
    refine r_aload_n X (x := k.b + (0)) dX9_stop_19 rfl ?_
    refine r_getfield X (v := .ref (k.b + (45 + 12 * (TP_pr tp).val))) clsX9 flX9_73 (Nat.le_of_ble_eq_true rfl) _ o_main rfl dX9_stop_20 ?_
    refine r_iload_n X (x := x1) dX9_stop_23 rfl ?_
    obtain ⟨u24, h24, hf⟩ := bdS hf
    refine r_callV0 X [.int x1] [] (CT_unS (W := fun zz => wAll k T R ly rc hn rp tp ee zz w aside thought fresh mu th mp mf mh mg ou od) (W2 := fun zz => wAll k T R ly rc hn rp tp ee zz w aside thought fresh mu th mp mf mh mg ou od) (st := st) (TP_pr tp) (K5_isRunning h24)) lkX9_173 clsX5 rfl _ (o_st (TP_pr tp)) (by decide) (Nat.le_of_ble_eq_true rfl) rfl rfl (Nat.le_of_ble_eq_true rfl) rfl rfl (Nat.zero_le _) (Nat.zero_le _) dX9_stop_24 ?_
    refine r_if_ne X 38 dX9_stop_27 rfl (fun c27 => ?_) (fun c27 => ?_)
    · replace hf := ifF hf c27
      refine r_aload_n X (x := k.b + (0)) dX9_stop_38 rfl ?_
      obtain ⟨u39, h39, hf⟩ := bdS hf
      refine r_callV0 X [] [] (K9_beginTrial h39) lkX9_139 clsX9 rfl _ o_main (by decide) (Nat.le_of_ble_eq_true rfl) rfl rfl (Nat.le_of_ble_eq_true rfl) rfl rfl (Nat.zero_le _) (Nat.zero_le _) dX9_stop_39 ?_
      refine r_aload_n X (x := k.b + (0)) dX9_stop_42 rfl ?_
      refine r_getfield X (v := .ref (k.b + (45 + 12 * (TP_tr tp).val))) clsX9 flX9_77 (Nat.le_of_ble_eq_true rfl) _ o_main rfl dX9_stop_43 ?_
      refine r_iload_n X (x := x1) dX9_stop_46 rfl ?_
      refine VW.foc (ws' := wAll k T R ly rc hn rp tp ee (updF u39 (TP_tr tp) (u39 (TP_tr tp))) w aside thought fresh mu th mp mf mh mg ou od) (by rw [updF_self]) ?_
      obtain ⟨u47, h47, hf⟩ := bdS hf
      refine r_callV0 X [.int x1] [] (K5_stopPump h47) lkX9_176 clsX5 rfl _ (o_st1 (TP_tr tp) _) (by decide) (Nat.le_of_ble_eq_true rfl) rfl rfl (Nat.le_of_ble_eq_true rfl) rfl rfl (Nat.zero_le _) (Nat.zero_le _) dX9_stop_47 ?_
      refine r_aload_n X (x := k.b + (0)) dX9_stop_50 rfl ?_
      obtain ⟨u51, h51, hf⟩ := bdS hf
      refine r_callV0 X [] [] (K9_keepTrial h51) lkX9_145 clsX9 rfl _ o_main (by decide) (Nat.le_of_ble_eq_true rfl) rfl rfl (Nat.le_of_ble_eq_true rfl) rfl rfl (Nat.zero_le _) (Nat.zero_le _) dX9_stop_51 ?_
      refine r_aload_n X (x := k.b + (0)) dX9_stop_54 rfl ?_
      refine r_getfield X (v := .ref (k.b + (45 + 12 * (TP_pr u51).val))) clsX9 flX9_73 (Nat.le_of_ble_eq_true rfl) _ o_main rfl dX9_stop_55 ?_
      refine r_getfield X (v := .ref (k.b + (45 + 12 * (TP_pr u51).val + 2))) clsX5 flX9_166 (Nat.le_of_ble_eq_true rfl) _ (o_st (TP_pr u51)) rfl dX9_stop_58 ?_
      refine r_aload_n X (x := k.b + (0)) dX9_stop_61 rfl ?_
      refine r_getfield X (v := .ref (k.b + (4 + 17 * (0 : Fin 2).val))) clsX9 flX9_28 (Nat.le_of_ble_eq_true rfl) _ o_main rfl dX9_stop_62 ?_
      refine r_getfield X (v := .ref (k.b + (4 + 17 * (0 : Fin 2).val + 4))) clsX1 flX9_170 (Nat.le_of_ble_eq_true rfl) _ (o_lay (0 : Fin 2)) rfl dX9_stop_65 ?_
      refine r_iload_n X (x := x1) dX9_stop_68 rfl ?_
      obtain ⟨g69, hf⟩ := gdS hf
      refine r_iaload X (f := LL_pumpChamber (ly (0 : Fin 2))) _ (a_lay_pumpChamber (0 : Fin 2)) g69 dX9_stop_69 ?_
      obtain ⟨g70, hf⟩ := gdS hf
      refine r_iaload X (f := SS_pressure ((updF u39 (TP_tr tp) u47) (TP_pr u51))) _ (a_st_pressure (TP_pr u51)) g70 dX9_stop_70 ?_
      obtain rfl := Option.some.inj hf
      exact x_ireturn X hQ rfl rfl (Nat.le_of_ble_eq_true rfl) (Nat.le_of_ble_eq_true rfl) dX9_stop_71
    · replace hf := ifT hf c27
      obtain rfl := Option.some.inj hf
      exact r_throw X hT ltX9_0 (by decide) hQ rfl rfl (Nat.le_of_ble_eq_true rfl) (Nat.le_of_ble_eq_true rfl) rfl ⟨(Nat.le_of_ble_eq_true rfl), (Nat.le_of_ble_eq_true rfl), (Nat.le_of_ble_eq_true rfl), (Nat.le_of_ble_eq_true rfl)⟩ dX9_stop_30 dX9_stop_33 dX9_stop_34 dX9_stop_37
  · replace hf := ifT hf c8
    obtain rfl := Option.some.inj hf
    exact r_throw X hT ltX9_2 (by decide) hQ rfl rfl (Nat.le_of_ble_eq_true rfl) (Nat.le_of_ble_eq_true rfl) rfl ⟨(Nat.le_of_ble_eq_true rfl), (Nat.le_of_ble_eq_true rfl), (Nat.le_of_ble_eq_true rfl), (Nat.le_of_ble_eq_true rfl)⟩ dX9_stop_11 dX9_stop_14 dX9_stop_15 dX9_stop_18
