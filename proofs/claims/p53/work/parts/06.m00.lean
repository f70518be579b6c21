/-! the methods do it -/
set_option maxRecDepth 100000 in
set_option maxHeartbeats 4000000 in
theorem B0_collect_B5 {k : KT} {z : ZT} {T : TT} {R : RR} {ly : Fin 2 → LL} {rc : RC} {rp : RP} {tp : TP} {ee : EE} {st : Fin 12 → SS} {r : Int32 × (HN)} (X : XX k strs z RX0 cX0_collect 5 (some .int) (rmD 0 0 0)) (hQ : zQ z = MQ (zB z) (Qof k (some (.int r.1)) (wAll k T R ly rc r.2 rp tp ee st)) (zA z) (zS z) 0 0 (kA k)) : ∀ (fu : Nat) (hn : HN) (x2 : Int32) (x3 : Int32) (x4 : Int32), f0_collect_B5 (ly (0 : Fin 2)) fu hn x2 x3 x4 = some r → VW k z 0 0 (wAll k T R ly rc hn rp tp ee st) 5 [some (.ref (k.b + (38))), some (.ref (k.b + (4 + 17 * (0 : Fin 2).val))), some (.int x2), some (.int x3), some (.int x4)] [] := by
  intro fu
  induction fu with
  | zero =>
    intro hn x2 x3 x4 hf
    rw [f0_collect_B5] at hf
    cases hf
  | succ fu ih =>
    intro hn x2 x3 x4 hf
    rw [f0_collect_B5] at hf
    refine r_iload X (x := x4) dX0_collect_5 rfl ?_
    refine r_aload_n X (x := k.b + (4 + 17 * (0 : Fin 2).val)) dX0_collect_7 rfl ?_
    refine r_getfield X (v := .int (LL_flanges (ly (0 : Fin 2)))) clsX1 flX0_52 (Nat.le_of_ble_eq_true rfl) _ (o_lay (0 : Fin 2)) rfl dX0_collect_8 ?_
    refine r_icmp_ge X 42 dX0_collect_11 rfl (fun c11 => ?_) (fun c11 => ?_)
    · replace hf := ifT hf c11
      refine r_iload_n X (x := x3) dX0_collect_42 rfl ?_
      obtain rfl := Option.some.inj hf
      exact r_ireturn X hQ rfl rfl (Nat.le_of_ble_eq_true rfl) (Nat.le_of_ble_eq_true rfl) dX0_collect_43
    · replace hf := ifF hf c11
      refine r_aload_n X (x := k.b + (4 + 17 * (0 : Fin 2).val)) dX0_collect_14 rfl ?_
      refine r_getfield X (v := .ref (k.b + (4 + 17 * (0 : Fin 2).val + 14))) clsX1 flX0_57 (Nat.le_of_ble_eq_true rfl) _ (o_lay (0 : Fin 2)) rfl dX0_collect_15 ?_
      refine r_iload X (x := x4) dX0_collect_18 rfl ?_
      obtain ⟨g20, hf⟩ := gdS hf
      refine r_iaload X (f := LL_flangeChamber (ly (0 : Fin 2))) _ (a_lay_flangeChamber (0 : Fin 2)) g20 dX0_collect_20 ?_
      refine r_iload_n X (x := x2) dX0_collect_21 rfl ?_
      refine r_icmp_ne X 36 dX0_collect_22 rfl (fun c22 => ?_) (fun c22 => ?_)
      · replace hf := ifF hf c22
        refine r_iinc X (x := x4) (v := x4 + 1) [some (.ref (k.b + (38))), some (.ref (k.b + (4 + 17 * (0 : Fin 2).val))), some (.int x2), some (.int x3), some (.int (x4 + 1))] dX0_collect_36 rfl rfl rfl ?_
        refine r_goto X 5 dX0_collect_39 rfl ?_
        exact ih hn x2 x3 (x4 + 1) hf
      · replace hf := ifT hf c22
        refine r_aload_n X (x := k.b + (38)) dX0_collect_25 rfl ?_
        refine r_getfield X (v := .ref (k.b + (39))) clsX0 flX0_9 (Nat.le_of_ble_eq_true rfl) _ o_hunt rfl dX0_collect_26 ?_
        refine r_iload_n X (x := x3) dX0_collect_29 rfl ?_
        refine r_iload X (x := x4) dX0_collect_30 rfl ?_
        obtain ⟨g32, hf⟩ := gdS hf
        refine r_iastore X (f := HN_numbers hn) (ws1 := wAll k T R ly rc (HN_set_numbers hn (upd (HN_numbers hn) (ix x3) x4)) rp tp ee st) _ a_hn_numbers g32 (s_hn_numbers (upd (HN_numbers hn) (ix x3) x4)) dX0_collect_32 ?_
        refine r_iinc X (x := x3) (v := x3 + 1) [some (.ref (k.b + (38))), some (.ref (k.b + (4 + 17 * (0 : Fin 2).val))), some (.int x2), some (.int (x3 + 1)), some (.int x4)] dX0_collect_33 rfl rfl rfl ?_
        refine r_iinc X (x := x4) (v := x4 + 1) [some (.ref (k.b + (38))), some (.ref (k.b + (4 + 17 * (0 : Fin 2).val))), some (.int x2), some (.int (x3 + 1)), some (.int (x4 + 1))] dX0_collect_36 rfl rfl rfl ?_
        refine r_goto X 5 dX0_collect_39 rfl ?_
        exact ih (HN_set_numbers hn (upd (HN_numbers hn) (ix x3) x4)) x2 (x3 + 1) (x4 + 1) hf
set_option maxRecDepth 100000 in
set_option maxHeartbeats 4000000 in
theorem K0_collect {k : KT} {T : TT} {R : RR} {ly : Fin 2 → LL} {rc : RC} {hn : HN} {rp : RP} {tp : TP} {ee : EE} {st : Fin 12 → SS}  {x2 : Int32} {r : Int32 × (HN)} (hf : f0_collect (ly (0 : Fin 2)) hn x2 = some r) : CT k strs yX0_collect cX0_collect 5 (some .int) (rmD 0 0 0) 0 0 [.ref (k.b + (38)), .ref (k.b + (4 + 17 * (0 : Fin 2).val)), .int x2] (wAll k T R ly rc hn rp tp ee st) (some (.int r.1)) (wAll k T R ly rc r.2 rp tp ee st) := by
  refine CT.of (by decide) (Nat.le_of_ble_eq_true rfl) ?_
  intro z X hQ
  show VW k z 0 0 (wAll k T R ly rc hn rp tp ee st) 0 [some (.ref (k.b + (38))), some (.ref (k.b + (4 + 17 * (0 : Fin 2).val))), some (.int x2), none, none] []
  unfold f0_collect at hf
  refine r_iconst X (v := 0) dX0_collect_0 rfl ?_
  refine r_istore_n X [some (.ref (k.b + (38))), some (.ref (k.b + (4 + 17 * (0 : Fin 2).val))), some (.int x2), some (.int 0), none] dX0_collect_1 (Nat.le_of_ble_eq_true rfl) rfl ?_
  refine r_iconst X (v := 0) dX0_collect_2 rfl ?_
  refine r_istore X [some (.ref (k.b + (38))), some (.ref (k.b + (4 + 17 * (0 : Fin 2).val))), some (.int x2), some (.int 0), some (.int 0)] dX0_collect_3 (Nat.le_of_ble_eq_true rfl) rfl ?_
  exact B0_collect_B5 X hQ FU hn x2 0 0 hf
set_option maxRecDepth 100000 in
set_option maxHeartbeats 4000000 in
theorem K0_addGroup {k : KT} {T : TT} {R : RR} {ly : Fin 2 → LL} {rc : RC} {hn : HN} {rp : RP} {tp : TP} {ee : EE} {st : Fin 12 → SS}  {x1 : Int32} {x2 : Int32} {r : (HN)} (hf : f0_addGroup  hn x1 x2 = some r) : CT k strs yX0_addGroup cX0_addGroup 3 none (rmD 0 0 0) 0 0 [.ref (k.b + (38)), .int x1, .int x2] (wAll k T R ly rc hn rp tp ee st) (none) (wAll k T R ly rc r rp tp ee st) := by
  refine CT.of (by decide) (Nat.le_of_ble_eq_true rfl) ?_
  intro z X hQ
  show VW k z 0 0 (wAll k T R ly rc hn rp tp ee st) 0 [some (.ref (k.b + (38))), some (.int x1), some (.int x2)] []
  unfold f0_addGroup at hf
  refine r_iload_n X (x := x2) dX0_addGroup_0 rfl ?_
  refine r_if_le X 43 dX0_addGroup_1 rfl (fun c1 => ?_) (fun c1 => ?_)
  · replace hf := ifT hf c1
    obtain rfl := Option.some.inj hf
    exact r_return X hQ rfl rfl (Nat.le_of_ble_eq_true rfl) (Nat.le_of_ble_eq_true rfl) dX0_addGroup_43
  · replace hf := ifF hf c1
    refine r_aload_n X (x := k.b + (38)) dX0_addGroup_4 rfl ?_
    refine r_getfield X (v := .int (HN_groups hn)) clsX0 flX0_21 (Nat.le_of_ble_eq_true rfl) _ o_hunt rfl dX0_addGroup_5 ?_
    refine r_bipush X (v := 47) dX0_addGroup_8 rfl ?_
    refine r_icmp_ge X 43 dX0_addGroup_10 rfl (fun c10 => ?_) (fun c10 => ?_)
    · replace hf := ifT hf c10
      obtain rfl := Option.some.inj hf
      exact r_return X hQ rfl rfl (Nat.le_of_ble_eq_true rfl) (Nat.le_of_ble_eq_true rfl) dX0_addGroup_43
    · replace hf := ifF hf c10
      refine r_aload_n X (x := k.b + (38)) dX0_addGroup_13 rfl ?_
      refine r_getfield X (v := .ref (k.b + (40))) clsX0 flX0_15 (Nat.le_of_ble_eq_true rfl) _ o_hunt rfl dX0_addGroup_14 ?_
      refine r_aload_n X (x := k.b + (38)) dX0_addGroup_17 rfl ?_
      refine r_getfield X (v := .int (HN_groups hn)) clsX0 flX0_21 (Nat.le_of_ble_eq_true rfl) _ o_hunt rfl dX0_addGroup_18 ?_
      refine r_iload_n X (x := x1) dX0_addGroup_21 rfl ?_
      obtain ⟨g22, hf⟩ := gdS hf
      refine r_iastore X (f := HN_froms hn) (ws1 := wAll k T R ly rc (HN_set_froms hn (upd (HN_froms hn) (ix (HN_groups hn)) x1)) rp tp ee st) _ a_hn_froms g22 (s_hn_froms (upd (HN_froms hn) (ix (HN_groups hn)) x1)) dX0_addGroup_22 ?_
      refine r_aload_n X (x := k.b + (38)) dX0_addGroup_23 rfl ?_
      refine r_getfield X (v := .ref (k.b + (41))) clsX0 flX0_18 (Nat.le_of_ble_eq_true rfl) _ o_hunt rfl dX0_addGroup_24 ?_
      refine r_aload_n X (x := k.b + (38)) dX0_addGroup_27 rfl ?_
      refine r_getfield X (v := .int (HN_groups hn)) clsX0 flX0_21 (Nat.le_of_ble_eq_true rfl) _ o_hunt (hvI rfl (HN_groups_set_froms _ _)) dX0_addGroup_28 ?_
      refine r_iload_n X (x := x2) dX0_addGroup_31 rfl ?_
      refine r_iastore X (f := HN_sizes hn) (ws1 := wAll k T R ly rc (HN_set_sizes (HN_set_froms hn (upd (HN_froms hn) (ix (HN_groups hn)) x1)) (upd (HN_sizes hn) (ix (HN_groups hn)) x2)) rp tp ee st) _ (heI a_hn_sizes (HN_sizes_set_froms _ _)) g22 (s_hn_sizes (upd (HN_sizes hn) (ix (HN_groups hn)) x2)) dX0_addGroup_32 ?_
      refine r_aload_n X (x := k.b + (38)) dX0_addGroup_33 rfl ?_
      refine r_dup X dX0_addGroup_34 rfl ?_
      refine r_getfield X (v := .int (HN_groups hn)) clsX0 flX0_21 (Nat.le_of_ble_eq_true rfl) _ o_hunt (hvI rfl ((HN_groups_set_sizes _ _).trans (HN_groups_set_froms _ _))) dX0_addGroup_35 ?_
      refine r_iconst X (v := 1) dX0_addGroup_38 rfl ?_
      refine r_iadd X dX0_addGroup_39 ?_
      refine r_putfield X (ws1 := wAll k T R ly rc (HN_set_groups (HN_set_sizes (HN_set_froms hn (upd (HN_froms hn) (ix (HN_groups hn)) x1)) (upd (HN_sizes hn) (ix (HN_groups hn)) x2)) ((HN_groups hn) + 1)) rp tp ee st) clsX0 flX0_21 (Nat.le_of_ble_eq_true rfl) rfl rfl rfl _ o_hunt (Nat.le_of_ble_eq_true rfl) (s_hn_groups ((HN_groups hn) + 1)) dX0_addGroup_40 ?_
      obtain rfl := Option.some.inj hf
      exact r_return X hQ rfl rfl (Nat.le_of_ble_eq_true rfl) (Nat.le_of_ble_eq_true rfl) dX0_addGroup_43
set_option maxRecDepth 100000 in
set_option maxHeartbeats 4000000 in
theorem B0_sumOf_B10 {k : KT} {z : ZT} {T : TT} {R : RR} {ly : Fin 2 → LL} {rc : RC} {hn : HN} {rp : RP} {tp : TP} {ee : EE} {st : Fin 12 → SS} {j : Fin 12} {S : SS} {r : Int32} (X : XX k strs z RX0 cX0_sumOf 5 (some .int) (rmD 0 0 0)) (hQ : zQ z = MQ (zB z) (Qof k (some (.int r)) (wAll k T R ly rc hn rp tp ee (updF st j S))) (zA z) (zS z) 0 0 (kA k)) : ∀ (fu : Nat) (x2 : Int32) (x3 : Int32) (x4 : Int32), f0_sumOf_B10 hn S fu x2 x3 x4 = some r → VW k z 0 0 (wAll k T R ly rc hn rp tp ee (updF st j S)) 10 [some (.ref (k.b + (38))), some (.ref (k.b + (45 + 12 * j.val + 8))), some (.int x2), some (.int x3), some (.int x4)] [] := by
  intro fu
  induction fu with
  | zero =>
    intro x2 x3 x4 hf
    rw [f0_sumOf_B10] at hf
    cases hf
  | succ fu ih =>
    intro x2 x3 x4 hf
    rw [f0_sumOf_B10] at hf
    refine r_iload X (x := x4) dX0_sumOf_10 rfl ?_
    refine r_aload_n X (x := k.b + (38)) dX0_sumOf_12 rfl ?_
    refine r_getfield X (v := .ref (k.b + (40))) clsX0 flX0_15 (Nat.le_of_ble_eq_true rfl) _ o_hunt rfl dX0_sumOf_13 ?_
    refine r_iload_n X (x := x2) dX0_sumOf_16 rfl ?_
    obtain ⟨g17, hf⟩ := gdS hf
    refine r_iaload X (f := HN_froms hn) _ a_hn_froms g17 dX0_sumOf_17 ?_
    refine r_aload_n X (x := k.b + (38)) dX0_sumOf_18 rfl ?_
    refine r_getfield X (v := .ref (k.b + (41))) clsX0 flX0_18 (Nat.le_of_ble_eq_true rfl) _ o_hunt rfl dX0_sumOf_19 ?_
    refine r_iload_n X (x := x2) dX0_sumOf_22 rfl ?_
    refine r_iaload X (f := HN_sizes hn) _ a_hn_sizes g17 dX0_sumOf_23 ?_
    refine r_iadd X dX0_sumOf_24 ?_
    refine r_icmp_ge X 46 dX0_sumOf_25 rfl (fun c25 => ?_) (fun c25 => ?_)
    · replace hf := ifT hf c25
      refine r_iload_n X (x := x3) dX0_sumOf_46 rfl ?_
      obtain rfl := Option.some.inj hf
      exact r_ireturn X hQ rfl rfl (Nat.le_of_ble_eq_true rfl) (Nat.le_of_ble_eq_true rfl) dX0_sumOf_47
    · replace hf := ifF hf c25
      refine r_iload_n X (x := x3) dX0_sumOf_28 rfl ?_
      refine r_aload_n X (x := k.b + (45 + 12 * j.val + 8)) dX0_sumOf_29 rfl ?_
      refine r_aload_n X (x := k.b + (38)) dX0_sumOf_30 rfl ?_
      refine r_getfield X (v := .ref (k.b + (39))) clsX0 flX0_9 (Nat.le_of_ble_eq_true rfl) _ o_hunt rfl dX0_sumOf_31 ?_
      refine r_iload X (x := x4) dX0_sumOf_34 rfl ?_
      obtain ⟨g36, hf⟩ := gdS hf
      refine r_iaload X (f := HN_numbers hn) _ a_hn_numbers g36 dX0_sumOf_36 ?_
      obtain ⟨g37, hf⟩ := gdS hf
      refine r_iaload X (f := SS_leak S) _ (a_st1_leak j _) g37 dX0_sumOf_37 ?_
      refine r_iadd X dX0_sumOf_38 ?_
      refine r_istore_n X [some (.ref (k.b + (38))), some (.ref (k.b + (45 + 12 * j.val + 8))), some (.int x2), some (.int (x3 + ((SS_leak S) (ix ((HN_numbers hn) (ix x4)))))), some (.int x4)] dX0_sumOf_39 (Nat.le_of_ble_eq_true rfl) rfl ?_
      refine r_iinc X (x := x4) (v := x4 + 1) [some (.ref (k.b + (38))), some (.ref (k.b + (45 + 12 * j.val + 8))), some (.int x2), some (.int (x3 + ((SS_leak S) (ix ((HN_numbers hn) (ix x4)))))), some (.int (x4 + 1))] dX0_sumOf_40 rfl rfl rfl ?_
      refine r_goto X 10 dX0_sumOf_43 rfl ?_
      exact ih x2 (x3 + ((SS_leak S) (ix ((HN_numbers hn) (ix x4))))) (x4 + 1) hf
set_option maxRecDepth 100000 in
set_option maxHeartbeats 4000000 in
theorem K0_sumOf {k : KT} {T : TT} {R : RR} {ly : Fin 2 → LL} {rc : RC} {hn : HN} {rp : RP} {tp : TP} {ee : EE} {st : Fin 12 → SS} {j : Fin 12} {S : SS} {x2 : Int32} {r : Int32} (hf : f0_sumOf hn S  x2 = some r) : CT k strs yX0_sumOf cX0_sumOf 5 (some .int) (rmD 0 0 0) 0 0 [.ref (k.b + (38)), .ref (k.b + (45 + 12 * j.val + 8)), .int x2] (wAll k T R ly rc hn rp tp ee (updF st j S)) (some (.int r)) (wAll k T R ly rc hn rp tp ee (updF st j S)) := by
  refine CT.of (by decide) (Nat.le_of_ble_eq_true rfl) ?_
  intro z X hQ
  show VW k z 0 0 (wAll k T R ly rc hn rp tp ee (updF st j S)) 0 [some (.ref (k.b + (38))), some (.ref (k.b + (45 + 12 * j.val + 8))), some (.int x2), none, none] []
  unfold f0_sumOf at hf
  refine r_iconst X (v := 0) dX0_sumOf_0 rfl ?_
  refine r_istore_n X [some (.ref (k.b + (38))), some (.ref (k.b + (45 + 12 * j.val + 8))), some (.int x2), some (.int 0), none] dX0_sumOf_1 (Nat.le_of_ble_eq_true rfl) rfl ?_
  refine r_aload_n X (x := k.b + (38)) dX0_sumOf_2 rfl ?_
  refine r_getfield X (v := .ref (k.b + (40))) clsX0 flX0_15 (Nat.le_of_ble_eq_true rfl) _ o_hunt rfl dX0_sumOf_3 ?_
  refine r_iload_n X (x := x2) dX0_sumOf_6 rfl ?_
  obtain ⟨g7, hf⟩ := gdS hf
  refine r_iaload X (f := HN_froms hn) _ a_hn_froms g7 dX0_sumOf_7 ?_
  refine r_istore X [some (.ref (k.b + (38))), some (.ref (k.b + (45 + 12 * j.val + 8))), some (.int x2), some (.int 0), some (.int ((HN_froms hn) (ix x2)))] dX0_sumOf_8 (Nat.le_of_ble_eq_true rfl) rfl ?_
  exact B0_sumOf_B10 X hQ FU x2 0 ((HN_froms hn) (ix x2)) hf
set_option maxRecDepth 100000 in
set_option maxHeartbeats 4000000 in
theorem B0_run_B32 {k : KT} {z : ZT} {T : TT} {R : RR} {ly : Fin 2 → LL} {rc : RC} {rp : RP} {tp : TP} {ee : EE} {st : Fin 12 → SS} {j : Fin 12} {S : SS} {r : (HN)} (X : XX k strs z RX0 cX0_run 7 none (rmD 1 0 0)) (hQ : zQ z = MQ (zB z) (Qof k (none) (wAll k T R ly rc r rp tp ee (updF st j S))) (zA z) (zS z) 0 0 (kA k)) : ∀ (fu : Nat) (hn : HN) (x3 : Int32) (x4 : Int32), f0_run_B32 (ly (0 : Fin 2)) S fu hn x3 x4 = some r → VW k z 0 0 (wAll k T R ly rc hn rp tp ee (updF st j S)) 32 [some (.ref (k.b + (38))), some (.ref (k.b + (45 + 12 * j.val))), none, some (.int x3), some (.int x4), none, none] [] := by
  intro fu
  induction fu with
  | zero =>
    intro hn x3 x4 hf
    rw [f0_run_B32] at hf
    cases hf
  | succ fu ih =>
    intro hn x3 x4 hf
    rw [f0_run_B32] at hf
    refine r_iload X (x := x4) dX0_run_32 rfl ?_
    refine r_aload_n X (x := k.b + (38)) dX0_run_34 rfl ?_
    refine r_getfield X (v := .int (HN_groups hn)) clsX0 flX0_21 (Nat.le_of_ble_eq_true rfl) _ o_hunt rfl dX0_run_35 ?_
    refine r_icmp_ge X 170 dX0_run_38 rfl (fun c38 => ?_) (fun c38 => ?_)
    · replace hf := ifT hf c38
      obtain rfl := Option.some.inj hf
      exact r_return X hQ rfl rfl (Nat.le_of_ble_eq_true rfl) (Nat.le_of_ble_eq_true rfl) dX0_run_170
    · replace hf := ifF hf c38
      refine r_iload X (x := x4) dX0_run_41 rfl ?_
      refine r_bipush X (v := 47) dX0_run_43 rfl ?_
      refine r_icmp_ge X 170 dX0_run_45 rfl (fun c45 => ?_) (fun c45 => ?_)
      · replace hf := ifT hf c45
        obtain rfl := Option.some.inj hf
        exact r_return X hQ rfl rfl (Nat.le_of_ble_eq_true rfl) (Nat.le_of_ble_eq_true rfl) dX0_run_170
      · replace hf := ifF hf c45
        refine r_aload_n X (x := k.b + (38)) dX0_run_48 rfl ?_
        refine r_dup X dX0_run_49 rfl ?_
        refine r_getfield X (v := .int (HN_sprayed hn)) clsX0 flX0_25 (Nat.le_of_ble_eq_true rfl) _ o_hunt rfl dX0_run_50 ?_
        refine r_iconst X (v := 1) dX0_run_53 rfl ?_
        refine r_iadd X dX0_run_54 ?_
        refine r_putfield X (ws1 := wAll k T R ly rc (HN_set_sprayed hn ((HN_sprayed hn) + 1)) rp tp ee (updF st j S)) clsX0 flX0_25 (Nat.le_of_ble_eq_true rfl) rfl rfl rfl _ o_hunt (Nat.le_of_ble_eq_true rfl) (s_hn_sprayed ((HN_sprayed hn) + 1)) dX0_run_55 ?_
        refine r_aload_n X (x := k.b + (38)) dX0_run_58 rfl ?_
        refine r_aload_n X (x := k.b + (45 + 12 * j.val)) dX0_run_59 rfl ?_
        refine r_getfield X (v := .ref (k.b + (45 + 12 * j.val + 8))) clsX5 flX0_45 (Nat.le_of_ble_eq_true rfl) _ (o_st1 j _) rfl dX0_run_60 ?_
        refine r_iload X (x := x4) dX0_run_63 rfl ?_
        obtain ⟨u65, h65, hf⟩ := bdS hf
        refine r_callV0 X [.ref (k.b + (45 + 12 * j.val + 8)), .int x4] [] (K0_sumOf h65) lkX0_48 clsX0 rfl _ o_hunt (by decide) (Nat.le_of_ble_eq_true rfl) rfl rfl (Nat.le_of_ble_eq_true rfl) rfl rfl (Nat.zero_le _) (Nat.zero_le _) dX0_run_65 ?_
        refine r_iload_n X (x := x3) dX0_run_68 rfl ?_
        refine r_icmp_ge X 75 dX0_run_69 rfl (fun c69 => ?_) (fun c69 => ?_)
        · replace hf := ifT hf c69
          refine r_aload_n X (x := k.b + (38)) dX0_run_75 rfl ?_
          refine r_getfield X (v := .ref (k.b + (41))) clsX0 flX0_18 (Nat.le_of_ble_eq_true rfl) _ o_hunt rfl dX0_run_76 ?_
          refine r_iload X (x := x4) dX0_run_79 rfl ?_
          obtain ⟨g81, hf⟩ := gdS hf
          refine r_iaload X (f := HN_sizes hn) _ (heI a_hn_sizes (HN_sizes_set_sprayed _ _)) g81 dX0_run_81 ?_
          refine r_iconst X (v := 1) dX0_run_82 rfl ?_
          refine r_icmp_ne X 112 dX0_run_83 rfl (fun c83 => ?_) (fun c83 => ?_)
          · replace hf := ifF hf c83
            refine r_aload_n X (x := k.b + (38)) dX0_run_112 rfl ?_
            refine r_getfield X (v := .ref (k.b + (41))) clsX0 flX0_18 (Nat.le_of_ble_eq_true rfl) _ o_hunt rfl dX0_run_113 ?_
            refine r_iload X (x := x4) dX0_run_116 rfl ?_
            refine r_iaload X (f := HN_sizes hn) _ (heI a_hn_sizes (HN_sizes_set_sprayed _ _)) g81 dX0_run_118 ?_
            refine r_iconst X (v := 2) dX0_run_119 rfl ?_
            refine r_idiv X dX0_run_120 (by decide) ?_
            refine r_istore X [some (.ref (k.b + (38))), some (.ref (k.b + (45 + 12 * j.val))), none, some (.int x3), some (.int x4), some (.int (((HN_sizes hn) (ix x4)) / 2)), none] dX0_run_121 (Nat.le_of_ble_eq_true rfl) rfl ?_
            refine r_aload_n X (x := k.b + (38)) dX0_run_123 rfl ?_
            refine r_getfield X (v := .ref (k.b + (41))) clsX0 flX0_18 (Nat.le_of_ble_eq_true rfl) _ o_hunt rfl dX0_run_124 ?_
            refine r_iload X (x := x4) dX0_run_127 rfl ?_
            refine r_iaload X (f := HN_sizes hn) _ (heI a_hn_sizes (HN_sizes_set_sprayed _ _)) g81 dX0_run_129 ?_
            refine r_iload X (x := ((HN_sizes hn) (ix x4)) / 2) dX0_run_130 rfl ?_
            refine r_isub X dX0_run_132 ?_
            refine r_istore X [some (.ref (k.b + (38))), some (.ref (k.b + (45 + 12 * j.val))), none, some (.int x3), some (.int x4), some (.int (((HN_sizes hn) (ix x4)) / 2)), some (.int (((HN_sizes hn) (ix x4)) - (((HN_sizes hn) (ix x4)) / 2)))] dX0_run_133 (Nat.le_of_ble_eq_true rfl) rfl ?_
            refine r_aload_n X (x := k.b + (38)) dX0_run_135 rfl ?_
            refine r_aload_n X (x := k.b + (38)) dX0_run_136 rfl ?_
            refine r_getfield X (v := .ref (k.b + (40))) clsX0 flX0_15 (Nat.le_of_ble_eq_true rfl) _ o_hunt rfl dX0_run_137 ?_
            refine r_iload X (x := x4) dX0_run_140 rfl ?_
            refine r_iaload X (f := HN_froms hn) _ (heI a_hn_froms (HN_froms_set_sprayed _ _)) g81 dX0_run_142 ?_
            refine r_iload X (x := ((HN_sizes hn) (ix x4)) - (((HN_sizes hn) (ix x4)) / 2)) dX0_run_143 rfl ?_
            obtain ⟨u145, h145, hf⟩ := bdS hf
            refine r_callV0 X [.int ((HN_froms hn) (ix x4)), .int (((HN_sizes hn) (ix x4)) - (((HN_sizes hn) (ix x4)) / 2))] [] (K0_addGroup h145) lkX0_41 clsX0 rfl _ o_hunt (by decide) (Nat.le_of_ble_eq_true rfl) rfl rfl (Nat.le_of_ble_eq_true rfl) rfl rfl (Nat.zero_le _) (Nat.zero_le _) dX0_run_145 ?_
            refine r_aload_n X (x := k.b + (38)) dX0_run_148 rfl ?_
            refine r_aload_n X (x := k.b + (38)) dX0_run_149 rfl ?_
            refine r_getfield X (v := .ref (k.b + (40))) clsX0 flX0_15 (Nat.le_of_ble_eq_true rfl) _ o_hunt rfl dX0_run_150 ?_
            refine r_iload X (x := x4) dX0_run_153 rfl ?_
            refine r_iaload X (f := HN_froms u145) _ a_hn_froms g81 dX0_run_155 ?_
            refine r_iload X (x := ((HN_sizes hn) (ix x4)) - (((HN_sizes hn) (ix x4)) / 2)) dX0_run_156 rfl ?_
            refine r_iadd X dX0_run_158 ?_
            refine r_iload X (x := ((HN_sizes hn) (ix x4)) / 2) dX0_run_159 rfl ?_
            obtain ⟨u161, h161, hf⟩ := bdS hf
            refine r_callV0 X [.int (((HN_froms u145) (ix x4)) + (((HN_sizes hn) (ix x4)) - (((HN_sizes hn) (ix x4)) / 2))), .int (((HN_sizes hn) (ix x4)) / 2)] [] (K0_addGroup h161) lkX0_41 clsX0 rfl _ o_hunt (by decide) (Nat.le_of_ble_eq_true rfl) rfl rfl (Nat.le_of_ble_eq_true rfl) rfl rfl (Nat.zero_le _) (Nat.zero_le _) dX0_run_161 ?_
            refine r_iinc X (x := x4) (v := x4 + 1) [some (.ref (k.b + (38))), some (.ref (k.b + (45 + 12 * j.val))), none, some (.int x3), some (.int (x4 + 1)), some (.int (((HN_sizes hn) (ix x4)) / 2)), some (.int (((HN_sizes hn) (ix x4)) - (((HN_sizes hn) (ix x4)) / 2)))] dX0_run_164 rfl rfl rfl ?_
            refine r_goto X 32 dX0_run_167 rfl ?_
            refine VW.msk [true, true, false, true, true, false, false] rfl (lo' := [some (.ref (k.b + (38))), some (.ref (k.b + (45 + 12 * j.val))), none, some (.int x3), some (.int (x4 + 1)), none, none]) rfl ?_
            exact ih u161 x3 (x4 + 1) hf
          · replace hf := ifT hf c83
            refine r_aload_n X (x := k.b + (38)) dX0_run_86 rfl ?_
            refine r_dup X dX0_run_87 rfl ?_
            refine r_getfield X (v := .int (HN_foundSet hn)) clsX0 flX0_28 (Nat.le_of_ble_eq_true rfl) _ o_hunt (hvI rfl (HN_foundSet_set_sprayed _ _)) dX0_run_88 ?_
            refine r_iconst X (v := 1) dX0_run_91 rfl ?_
            refine r_aload_n X (x := k.b + (38)) dX0_run_92 rfl ?_
            refine r_getfield X (v := .ref (k.b + (39))) clsX0 flX0_9 (Nat.le_of_ble_eq_true rfl) _ o_hunt rfl dX0_run_93 ?_
            refine r_aload_n X (x := k.b + (38)) dX0_run_96 rfl ?_
            refine r_getfield X (v := .ref (k.b + (40))) clsX0 flX0_15 (Nat.le_of_ble_eq_true rfl) _ o_hunt rfl dX0_run_97 ?_
            refine r_iload X (x := x4) dX0_run_100 rfl ?_
            refine r_iaload X (f := HN_froms hn) _ (heI a_hn_froms (HN_froms_set_sprayed _ _)) g81 dX0_run_102 ?_
            obtain ⟨g103, hf⟩ := gdS hf
            refine r_iaload X (f := HN_numbers hn) _ (heI a_hn_numbers (HN_numbers_set_sprayed _ _)) g103 dX0_run_103 ?_
            refine r_ishl X dX0_run_104 ?_
            refine r_ior X dX0_run_105 ?_
            refine r_putfield X (ws1 := wAll k T R ly rc (HN_set_foundSet (HN_set_sprayed hn ((HN_sprayed hn) + 1)) ((HN_foundSet hn) ||| (1 <<< (((HN_numbers hn) (ix ((HN_froms hn) (ix x4)))) &&& 31)))) rp tp ee (updF st j S)) clsX0 flX0_28 (Nat.le_of_ble_eq_true rfl) rfl rfl rfl _ o_hunt (Nat.le_of_ble_eq_true rfl) (s_hn_foundSet ((HN_foundSet hn) ||| (1 <<< (((HN_numbers hn) (ix ((HN_froms hn) (ix x4)))) &&& 31)))) dX0_run_106 ?_
            refine r_goto X 164 dX0_run_109 rfl ?_
            refine r_iinc X (x := x4) (v := x4 + 1) [some (.ref (k.b + (38))), some (.ref (k.b + (45 + 12 * j.val))), none, some (.int x3), some (.int (x4 + 1)), none, none] dX0_run_164 rfl rfl rfl ?_
            refine r_goto X 32 dX0_run_167 rfl ?_
            exact ih (HN_set_foundSet (HN_set_sprayed hn ((HN_sprayed hn) + 1)) ((HN_foundSet hn) ||| (1 <<< (((HN_numbers hn) (ix ((HN_froms hn) (ix x4)))) &&& 31)))) x3 (x4 + 1) hf
        · replace hf := ifF hf c69
          refine r_goto X 164 dX0_run_72 rfl ?_
          refine r_iinc X (x := x4) (v := x4 + 1) [some (.ref (k.b + (38))), some (.ref (k.b + (45 + 12 * j.val))), none, some (.int x3), some (.int (x4 + 1)), none, none] dX0_run_164 rfl rfl rfl ?_
          refine r_goto X 32 dX0_run_167 rfl ?_
          exact ih (HN_set_sprayed hn ((HN_sprayed hn) + 1)) x3 (x4 + 1) hf
set_option maxRecDepth 100000 in
set_option maxHeartbeats 4000000 in
theorem K0_run {k : KT} {T : TT} {R : RR} {ly : Fin 2 → LL} {rc : RC} {hn : HN} {rp : RP} {tp : TP} {ee : EE} {st : Fin 12 → SS} {j : Fin 12} {S : SS} {x2 : Int32} {x3 : Int32} {r : (HN)} (hf : f0_run (ly (0 : Fin 2)) S hn x2 x3 = some r) : CT k strs yX0_run cX0_run 7 none (rmD 1 0 0) 0 0 [.ref (k.b + (38)), .ref (k.b + (45 + 12 * j.val)), .int x2, .int x3] (wAll k T R ly rc hn rp tp ee (updF st j S)) (none) (wAll k T R ly rc r rp tp ee (updF st j S)) := by
  refine CT.of (by decide) (Nat.le_of_ble_eq_true rfl) ?_
  intro z X hQ
  show VW k z 0 0 (wAll k T R ly rc hn rp tp ee (updF st j S)) 0 [some (.ref (k.b + (38))), some (.ref (k.b + (45 + 12 * j.val))), some (.int x2), some (.int x3), none, none, none] []
  unfold f0_run at hf
  refine r_aload_n X (x := k.b + (38)) dX0_run_0 rfl ?_
  refine r_iconst X (v := 0) dX0_run_1 rfl ?_
  refine r_putfield X (ws1 := wAll k T R ly rc (HN_set_groups hn 0) rp tp ee (updF st j S)) clsX0 flX0_21 (Nat.le_of_ble_eq_true rfl) rfl rfl rfl _ o_hunt (Nat.le_of_ble_eq_true rfl) (s_hn_groups 0) dX0_run_2 ?_
  refine r_aload_n X (x := k.b + (38)) dX0_run_5 rfl ?_
  refine r_iconst X (v := 0) dX0_run_6 rfl ?_
  refine r_putfield X (ws1 := wAll k T R ly rc (HN_set_sprayed (HN_set_groups hn 0) 0) rp tp ee (updF st j S)) clsX0 flX0_25 (Nat.le_of_ble_eq_true rfl) rfl rfl rfl _ o_hunt (Nat.le_of_ble_eq_true rfl) (s_hn_sprayed 0) dX0_run_7 ?_
  refine r_aload_n X (x := k.b + (38)) dX0_run_10 rfl ?_
  refine r_iconst X (v := 0) dX0_run_11 rfl ?_
  refine r_putfield X (ws1 := wAll k T R ly rc (HN_set_foundSet (HN_set_sprayed (HN_set_groups hn 0) 0) 0) rp tp ee (updF st j S)) clsX0 flX0_28 (Nat.le_of_ble_eq_true rfl) rfl rfl rfl _ o_hunt (Nat.le_of_ble_eq_true rfl) (s_hn_foundSet 0) dX0_run_12 ?_
  refine r_aload_n X (x := k.b + (38)) dX0_run_15 rfl ?_
  refine r_iconst X (v := 0) dX0_run_16 rfl ?_
  refine r_aload_n X (x := k.b + (38)) dX0_run_17 rfl ?_
  refine r_aload_n X (x := k.b + (45 + 12 * j.val)) dX0_run_18 rfl ?_
  refine r_getfield X (v := .ref (k.b + (4 + 17 * (0 : Fin 2).val))) clsX5 flX0_31 (Nat.le_of_ble_eq_true rfl) _ (o_st1 j _) rfl dX0_run_19 ?_
  refine r_iload_n X (x := x2) dX0_run_22 rfl ?_
  obtain ⟨u23, h23, hf⟩ := bdS hf
  refine r_callV0 X [.ref (k.b + (4 + 17 * (0 : Fin 2).val)), .int x2] [.int 0, .ref (k.b + (38))] (K0_collect h23) lkX0_37 clsX0 rfl _ o_hunt (by decide) (Nat.le_of_ble_eq_true rfl) rfl rfl (Nat.le_of_ble_eq_true rfl) rfl rfl (Nat.zero_le _) (Nat.zero_le _) dX0_run_23 ?_
  obtain ⟨u26, h26, hf⟩ := bdS hf
  refine r_callV0 X [.int 0, .int u23.1] [] (K0_addGroup h26) lkX0_41 clsX0 rfl _ o_hunt (by decide) (Nat.le_of_ble_eq_true rfl) rfl rfl (Nat.le_of_ble_eq_true rfl) rfl rfl (Nat.zero_le _) (Nat.zero_le _) dX0_run_26 ?_
  refine r_iconst X (v := 0) dX0_run_29 rfl ?_
  refine r_istore X [some (.ref (k.b + (38))), some (.ref (k.b + (45 + 12 * j.val))), some (.int x2), some (.int x3), some (.int 0), none, none] dX0_run_30 (Nat.le_of_ble_eq_true rfl) rfl ?_
  refine VW.msk [true, true, false, true, true, false, false] rfl (lo' := [some (.ref (k.b + (38))), some (.ref (k.b + (45 + 12 * j.val))), none, some (.int x3), some (.int 0), none, none]) rfl ?_
  exact B0_run_B32 X hQ FU u26 x3 0 hf
set_option maxRecDepth 100000 in
set_option maxHeartbeats 4000000 in
theorem K1_clear {k : KT} {T : TT} {R : RR} {ly : Fin 2 → LL} {rc : RC} {hn : HN} {rp : RP} {tp : TP} {ee : EE} {st : Fin 12 → SS} {i : Fin 2} {lYi : LL}  {r : (LL)} (hf : f1_clear  lYi  = some r) : CT k strs yX1_clear cX1_clear 1 none (rmD 0 0 0) 0 0 [.ref (k.b + (4 + 17 * i.val))] (wAll k T R (updF ly i lYi) rc hn rp tp ee st) (none) (wAll k T R (updF ly i r) rc hn rp tp ee st) := by
  refine CT.of (by decide) (Nat.le_of_ble_eq_true rfl) ?_
  intro z X hQ
  show VW k z 0 0 (wAll k T R (updF ly i lYi) rc hn rp tp ee st) 0 [some (.ref (k.b + (4 + 17 * i.val)))] []
  unfold f1_clear at hf
  refine r_aload_n X (x := k.b + (4 + 17 * i.val)) dX1_clear_0 rfl ?_
  refine r_iconst X (v := 0) dX1_clear_1 rfl ?_
  refine r_putfield X (ws1 := wAll k T R (updF ly i (LL_set_chambers lYi 0)) rc hn rp tp ee st) clsX1 flX1_9 (Nat.le_of_ble_eq_true rfl) rfl rfl rfl _ (o_lay1 i _) (Nat.le_of_ble_eq_true rfl) (s_lay_chambers i lYi 0) dX1_clear_2 ?_
  refine r_aload_n X (x := k.b + (4 + 17 * i.val)) dX1_clear_5 rfl ?_
  refine r_iconst X (v := 0) dX1_clear_6 rfl ?_
  refine r_putfield X (ws1 := wAll k T R (updF ly i (LL_set_pumps (LL_set_chambers lYi 0) 0)) rc hn rp tp ee st) clsX1 flX1_15 (Nat.le_of_ble_eq_true rfl) rfl rfl rfl _ (o_lay1 i _) (Nat.le_of_ble_eq_true rfl) (s_lay_pumps i (LL_set_chambers lYi 0) 0) dX1_clear_7 ?_
  refine r_aload_n X (x := k.b + (4 + 17 * i.val)) dX1_clear_10 rfl ?_
  refine r_iconst X (v := 0) dX1_clear_11 rfl ?_
  refine r_putfield X (ws1 := wAll k T R (updF ly i (LL_set_valves (LL_set_pumps (LL_set_chambers lYi 0) 0) 0)) rc hn rp tp ee st) clsX1 flX1_18 (Nat.le_of_ble_eq_true rfl) rfl rfl rfl _ (o_lay1 i _) (Nat.le_of_ble_eq_true rfl) (s_lay_valves i (LL_set_pumps (LL_set_chambers lYi 0) 0) 0) dX1_clear_12 ?_
  refine r_aload_n X (x := k.b + (4 + 17 * i.val)) dX1_clear_15 rfl ?_
  refine r_iconst X (v := 0) dX1_clear_16 rfl ?_
  refine r_putfield X (ws1 := wAll k T R (updF ly i (LL_set_flanges (LL_set_valves (LL_set_pumps (LL_set_chambers lYi 0) 0) 0) 0)) rc hn rp tp ee st) clsX1 flX1_21 (Nat.le_of_ble_eq_true rfl) rfl rfl rfl _ (o_lay1 i _) (Nat.le_of_ble_eq_true rfl) (s_lay_flanges i (LL_set_valves (LL_set_pumps (LL_set_chambers lYi 0) 0) 0) 0) dX1_clear_17 ?_
  obtain rfl := Option.some.inj hf
  exact r_return X hQ rfl rfl (Nat.le_of_ble_eq_true rfl) (Nat.le_of_ble_eq_true rfl) dX1_clear_20
set_option maxRecDepth 100000 in
set_option maxHeartbeats 4000000 in
theorem K1_copyFrom {k : KT} {T : TT} {R : RR} {ly : Fin 2 → LL} {rc : RC} {hn : HN} {rp : RP} {tp : TP} {ee : EE} {st : Fin 12 → SS} {lY0 : LL}  {r : (LL)} (hf : f1_copyFrom (ly (1 : Fin 2)) lY0  = some r) : CT k strs yX1_copyFrom cX1_copyFrom 2 none (rmD 1 0 0) 0 0 [.ref (k.b + (4 + 17 * (0 : Fin 2).val)), .ref (k.b + (4 + 17 * (1 : Fin 2).val))] (wAll k T R (updF ly (0 : Fin 2) lY0) rc hn rp tp ee st) (none) (wAll k T R (updF ly (0 : Fin 2) r) rc hn rp tp ee st) := by
  refine CT.of (by decide) (Nat.le_of_ble_eq_true rfl) ?_
  intro z X hQ
  show VW k z 0 0 (wAll k T R (updF ly (0 : Fin 2) lY0) rc hn rp tp ee st) 0 [some (.ref (k.b + (4 + 17 * (0 : Fin 2).val))), some (.ref (k.b + (4 + 17 * (1 : Fin 2).val)))] []
  unfold f1_copyFrom at hf
  refine r_aload_n X (x := k.b + (4 + 17 * (0 : Fin 2).val)) dX1_copyFrom_0 rfl ?_
  refine r_aload_n X (x := k.b + (4 + 17 * (1 : Fin 2).val)) dX1_copyFrom_1 rfl ?_
  refine r_getfield X (v := .int (LL_chambers (ly (1 : Fin 2)))) clsX1 flX1_9 (Nat.le_of_ble_eq_true rfl) _ (o_lay (1 : Fin 2)) rfl dX1_copyFrom_2 ?_
  refine r_putfield X (ws1 := wAll k T R (updF ly (0 : Fin 2) (LL_set_chambers lY0 (LL_chambers (ly (1 : Fin 2))))) rc hn rp tp ee st) clsX1 flX1_9 (Nat.le_of_ble_eq_true rfl) rfl rfl rfl _ (o_lay1 (0 : Fin 2) _) (Nat.le_of_ble_eq_true rfl) (s_lay_chambers (0 : Fin 2) lY0 (LL_chambers (ly (1 : Fin 2)))) dX1_copyFrom_5 ?_
  refine r_aload_n X (x := k.b + (4 + 17 * (0 : Fin 2).val)) dX1_copyFrom_8 rfl ?_
  refine r_aload_n X (x := k.b + (4 + 17 * (1 : Fin 2).val)) dX1_copyFrom_9 rfl ?_
  refine r_getfield X (v := .int (LL_pumps (ly (1 : Fin 2)))) clsX1 flX1_15 (Nat.le_of_ble_eq_true rfl) _ (o_lay (1 : Fin 2)) rfl dX1_copyFrom_10 ?_
  refine r_putfield X (ws1 := wAll k T R (updF ly (0 : Fin 2) (LL_set_pumps (LL_set_chambers lY0 (LL_chambers (ly (1 : Fin 2)))) (LL_pumps (ly (1 : Fin 2))))) rc hn rp tp ee st) clsX1 flX1_15 (Nat.le_of_ble_eq_true rfl) rfl rfl rfl _ (o_lay1 (0 : Fin 2) _) (Nat.le_of_ble_eq_true rfl) (s_lay_pumps (0 : Fin 2) (LL_set_chambers lY0 (LL_chambers (ly (1 : Fin 2)))) (LL_pumps (ly (1 : Fin 2)))) dX1_copyFrom_13 ?_
  refine r_aload_n X (x := k.b + (4 + 17 * (0 : Fin 2).val)) dX1_copyFrom_16 rfl ?_
  refine r_aload_n X (x := k.b + (4 + 17 * (1 : Fin 2).val)) dX1_copyFrom_17 rfl ?_
  refine r_getfield X (v := .int (LL_valves (ly (1 : Fin 2)))) clsX1 flX1_18 (Nat.le_of_ble_eq_true rfl) _ (o_lay (1 : Fin 2)) rfl dX1_copyFrom_18 ?_
  refine r_putfield X (ws1 := wAll k T R (updF ly (0 : Fin 2) (LL_set_valves (LL_set_pumps (LL_set_chambers lY0 (LL_chambers (ly (1 : Fin 2)))) (LL_pumps (ly (1 : Fin 2)))) (LL_valves (ly (1 : Fin 2))))) rc hn rp tp ee st) clsX1 flX1_18 (Nat.le_of_ble_eq_true rfl) rfl rfl rfl _ (o_lay1 (0 : Fin 2) _) (Nat.le_of_ble_eq_true rfl) (s_lay_valves (0 : Fin 2) (LL_set_pumps (LL_set_chambers lY0 (LL_chambers (ly (1 : Fin 2)))) (LL_pumps (ly (1 : Fin 2)))) (LL_valves (ly (1 : Fin 2)))) dX1_copyFrom_21 ?_
  refine r_aload_n X (x := k.b + (4 + 17 * (0 : Fin 2).val)) dX1_copyFrom_24 rfl ?_
  refine r_aload_n X (x := k.b + (4 + 17 * (1 : Fin 2).val)) dX1_copyFrom_25 rfl ?_
  refine r_getfield X (v := .int (LL_flanges (ly (1 : Fin 2)))) clsX1 flX1_21 (Nat.le_of_ble_eq_true rfl) _ (o_lay (1 : Fin 2)) rfl dX1_copyFrom_26 ?_
  refine r_putfield X (ws1 := wAll k T R (updF ly (0 : Fin 2) (LL_set_flanges (LL_set_valves (LL_set_pumps (LL_set_chambers lY0 (LL_chambers (ly (1 : Fin 2)))) (LL_pumps (ly (1 : Fin 2)))) (LL_valves (ly (1 : Fin 2)))) (LL_flanges (ly (1 : Fin 2))))) rc hn rp tp ee st) clsX1 flX1_21 (Nat.le_of_ble_eq_true rfl) rfl rfl rfl _ (o_lay1 (0 : Fin 2) _) (Nat.le_of_ble_eq_true rfl) (s_lay_flanges (0 : Fin 2) (LL_set_valves (LL_set_pumps (LL_set_chambers lY0 (LL_chambers (ly (1 : Fin 2)))) (LL_pumps (ly (1 : Fin 2)))) (LL_valves (ly (1 : Fin 2)))) (LL_flanges (ly (1 : Fin 2)))) dX1_copyFrom_29 ?_
  refine r_aload_n X (x := k.b + (4 + 17 * (1 : Fin 2).val)) dX1_copyFrom_32 rfl ?_
  refine r_getfield X (v := .ref (k.b + (4 + 17 * (1 : Fin 2).val + 1))) clsX1 flX1_24 (Nat.le_of_ble_eq_true rfl) _ (o_lay (1 : Fin 2)) rfl dX1_copyFrom_33 ?_
  refine r_iconst X (v := 0) dX1_copyFrom_36 rfl ?_
  refine r_aload_n X (x := k.b + (4 + 17 * (0 : Fin 2).val)) dX1_copyFrom_37 rfl ?_
  refine r_getfield X (v := .ref (k.b + (4 + 17 * (0 : Fin 2).val + 1))) clsX1 flX1_24 (Nat.le_of_ble_eq_true rfl) _ (o_lay1 (0 : Fin 2) _) rfl dX1_copyFrom_38 ?_
  refine r_iconst X (v := 0) dX1_copyFrom_41 rfl ?_
  refine r_bipush X (v := 8) dX1_copyFrom_42 rfl ?_
  refine r_copyi X (f := LL_volume (ly (1 : Fin 2))) (g := LL_volume lY0) (m := 8) (ws1 := wAll k T R (updF ly (0 : Fin 2) (LL_set_volume (LL_set_flanges (LL_set_valves (LL_set_pumps (LL_set_chambers lY0 (LL_chambers (ly (1 : Fin 2)))) (LL_pumps (ly (1 : Fin 2)))) (LL_valves (ly (1 : Fin 2)))) (LL_flanges (ly (1 : Fin 2)))) (va_cpy (LL_volume (ly (1 : Fin 2))) (LL_volume lY0) 0 0 8))) rc hn rp tp ee st) lkX1_70 _ _ (a_lay_volume (1 : Fin 2)) (heI (a_lay1_volume (0 : Fin 2) _) ((LL_volume_set_flanges _ _).trans ((LL_volume_set_valves _ _).trans ((LL_volume_set_pumps _ _).trans (LL_volume_set_chambers _ _))))) (by decide) (by decide) (Nat.le_of_ble_eq_true rfl) (Nat.le_of_ble_eq_true rfl) (s_lay_volume (0 : Fin 2) (LL_set_flanges (LL_set_valves (LL_set_pumps (LL_set_chambers lY0 (LL_chambers (ly (1 : Fin 2)))) (LL_pumps (ly (1 : Fin 2)))) (LL_valves (ly (1 : Fin 2)))) (LL_flanges (ly (1 : Fin 2)))) (va_cpy (LL_volume (ly (1 : Fin 2))) (LL_volume lY0) 0 0 8)) rfl (cpR (Nat.le_of_ble_eq_true rfl) (Nat.le_of_ble_eq_true rfl)) dX1_copyFrom_44 ?_
  refine r_aload_n X (x := k.b + (4 + 17 * (1 : Fin 2).val)) dX1_copyFrom_47 rfl ?_
  refine r_getfield X (v := .ref (k.b + (4 + 17 * (1 : Fin 2).val + 2))) clsX1 flX1_28 (Nat.le_of_ble_eq_true rfl) _ (o_lay (1 : Fin 2)) rfl dX1_copyFrom_48 ?_
  refine r_iconst X (v := 0) dX1_copyFrom_51 rfl ?_
  refine r_aload_n X (x := k.b + (4 + 17 * (0 : Fin 2).val)) dX1_copyFrom_52 rfl ?_
  refine r_getfield X (v := .ref (k.b + (4 + 17 * (0 : Fin 2).val + 2))) clsX1 flX1_28 (Nat.le_of_ble_eq_true rfl) _ (o_lay1 (0 : Fin 2) _) rfl dX1_copyFrom_53 ?_
  refine r_iconst X (v := 0) dX1_copyFrom_56 rfl ?_
  refine r_bipush X (v := 8) dX1_copyFrom_57 rfl ?_
  refine r_copyi X (f := LL_firstOutgassing (ly (1 : Fin 2))) (g := LL_firstOutgassing lY0) (m := 8) (ws1 := wAll k T R (updF ly (0 : Fin 2) (LL_set_firstOutgassing (LL_set_volume (LL_set_flanges (LL_set_valves (LL_set_pumps (LL_set_chambers lY0 (LL_chambers (ly (1 : Fin 2)))) (LL_pumps (ly (1 : Fin 2)))) (LL_valves (ly (1 : Fin 2)))) (LL_flanges (ly (1 : Fin 2)))) (va_cpy (LL_volume (ly (1 : Fin 2))) (LL_volume lY0) 0 0 8)) (va_cpy (LL_firstOutgassing (ly (1 : Fin 2))) (LL_firstOutgassing lY0) 0 0 8))) rc hn rp tp ee st) lkX1_70 _ _ (a_lay_firstOutgassing (1 : Fin 2)) (heI (a_lay1_firstOutgassing (0 : Fin 2) _) ((LL_firstOutgassing_set_volume _ _).trans ((LL_firstOutgassing_set_flanges _ _).trans ((LL_firstOutgassing_set_valves _ _).trans ((LL_firstOutgassing_set_pumps _ _).trans (LL_firstOutgassing_set_chambers _ _)))))) (by decide) (by decide) (Nat.le_of_ble_eq_true rfl) (Nat.le_of_ble_eq_true rfl) (s_lay_firstOutgassing (0 : Fin 2) (LL_set_volume (LL_set_flanges (LL_set_valves (LL_set_pumps (LL_set_chambers lY0 (LL_chambers (ly (1 : Fin 2)))) (LL_pumps (ly (1 : Fin 2)))) (LL_valves (ly (1 : Fin 2)))) (LL_flanges (ly (1 : Fin 2)))) (va_cpy (LL_volume (ly (1 : Fin 2))) (LL_volume lY0) 0 0 8)) (va_cpy (LL_firstOutgassing (ly (1 : Fin 2))) (LL_firstOutgassing lY0) 0 0 8)) rfl (cpR (Nat.le_of_ble_eq_true rfl) (Nat.le_of_ble_eq_true rfl)) dX1_copyFrom_59 ?_
  refine r_aload_n X (x := k.b + (4 + 17 * (1 : Fin 2).val)) dX1_copyFrom_62 rfl ?_
  refine r_getfield X (v := .ref (k.b + (4 + 17 * (1 : Fin 2).val + 3))) clsX1 flX1_31 (Nat.le_of_ble_eq_true rfl) _ (o_lay (1 : Fin 2)) rfl dX1_copyFrom_63 ?_
  refine r_iconst X (v := 0) dX1_copyFrom_66 rfl ?_
  refine r_aload_n X (x := k.b + (4 + 17 * (0 : Fin 2).val)) dX1_copyFrom_67 rfl ?_
  refine r_getfield X (v := .ref (k.b + (4 + 17 * (0 : Fin 2).val + 3))) clsX1 flX1_31 (Nat.le_of_ble_eq_true rfl) _ (o_lay1 (0 : Fin 2) _) rfl dX1_copyFrom_68 ?_
  refine r_iconst X (v := 0) dX1_copyFrom_71 rfl ?_
  refine r_bipush X (v := 8) dX1_copyFrom_72 rfl ?_
  refine r_copyi X (f := LL_decay (ly (1 : Fin 2))) (g := LL_decay lY0) (m := 8) (ws1 := wAll k T R (updF ly (0 : Fin 2) (LL_set_decay (LL_set_firstOutgassing (LL_set_volume (LL_set_flanges (LL_set_valves (LL_set_pumps (LL_set_chambers lY0 (LL_chambers (ly (1 : Fin 2)))) (LL_pumps (ly (1 : Fin 2)))) (LL_valves (ly (1 : Fin 2)))) (LL_flanges (ly (1 : Fin 2)))) (va_cpy (LL_volume (ly (1 : Fin 2))) (LL_volume lY0) 0 0 8)) (va_cpy (LL_firstOutgassing (ly (1 : Fin 2))) (LL_firstOutgassing lY0) 0 0 8)) (va_cpy (LL_decay (ly (1 : Fin 2))) (LL_decay lY0) 0 0 8))) rc hn rp tp ee st) lkX1_70 _ _ (a_lay_decay (1 : Fin 2)) (heI (a_lay1_decay (0 : Fin 2) _) ((LL_decay_set_firstOutgassing _ _).trans ((LL_decay_set_volume _ _).trans ((LL_decay_set_flanges _ _).trans ((LL_decay_set_valves _ _).trans ((LL_decay_set_pumps _ _).trans (LL_decay_set_chambers _ _))))))) (by decide) (by decide) (Nat.le_of_ble_eq_true rfl) (Nat.le_of_ble_eq_true rfl) (s_lay_decay (0 : Fin 2) (LL_set_firstOutgassing (LL_set_volume (LL_set_flanges (LL_set_valves (LL_set_pumps (LL_set_chambers lY0 (LL_chambers (ly (1 : Fin 2)))) (LL_pumps (ly (1 : Fin 2)))) (LL_valves (ly (1 : Fin 2)))) (LL_flanges (ly (1 : Fin 2)))) (va_cpy (LL_volume (ly (1 : Fin 2))) (LL_volume lY0) 0 0 8)) (va_cpy (LL_firstOutgassing (ly (1 : Fin 2))) (LL_firstOutgassing lY0) 0 0 8)) (va_cpy (LL_decay (ly (1 : Fin 2))) (LL_decay lY0) 0 0 8)) rfl (cpR (Nat.le_of_ble_eq_true rfl) (Nat.le_of_ble_eq_true rfl)) dX1_copyFrom_74 ?_
  refine r_aload_n X (x := k.b + (4 + 17 * (1 : Fin 2).val)) dX1_copyFrom_77 rfl ?_
  refine r_getfield X (v := .ref (k.b + (4 + 17 * (1 : Fin 2).val + 4))) clsX1 flX1_34 (Nat.le_of_ble_eq_true rfl) _ (o_lay (1 : Fin 2)) rfl dX1_copyFrom_78 ?_
  refine r_iconst X (v := 0) dX1_copyFrom_81 rfl ?_
  refine r_aload_n X (x := k.b + (4 + 17 * (0 : Fin 2).val)) dX1_copyFrom_82 rfl ?_
  refine r_getfield X (v := .ref (k.b + (4 + 17 * (0 : Fin 2).val + 4))) clsX1 flX1_34 (Nat.le_of_ble_eq_true rfl) _ (o_lay1 (0 : Fin 2) _) rfl dX1_copyFrom_83 ?_
  refine r_iconst X (v := 0) dX1_copyFrom_86 rfl ?_
  refine r_bipush X (v := 6) dX1_copyFrom_87 rfl ?_
  refine r_copyi X (f := LL_pumpChamber (ly (1 : Fin 2))) (g := LL_pumpChamber lY0) (m := 6) (ws1 := wAll k T R (updF ly (0 : Fin 2) (LL_set_pumpChamber (LL_set_decay (LL_set_firstOutgassing (LL_set_volume (LL_set_flanges (LL_set_valves (LL_set_pumps (LL_set_chambers lY0 (LL_chambers (ly (1 : Fin 2)))) (LL_pumps (ly (1 : Fin 2)))) (LL_valves (ly (1 : Fin 2)))) (LL_flanges (ly (1 : Fin 2)))) (va_cpy (LL_volume (ly (1 : Fin 2))) (LL_volume lY0) 0 0 8)) (va_cpy (LL_firstOutgassing (ly (1 : Fin 2))) (LL_firstOutgassing lY0) 0 0 8)) (va_cpy (LL_decay (ly (1 : Fin 2))) (LL_decay lY0) 0 0 8)) (va_cpy (LL_pumpChamber (ly (1 : Fin 2))) (LL_pumpChamber lY0) 0 0 6))) rc hn rp tp ee st) lkX1_70 _ _ (a_lay_pumpChamber (1 : Fin 2)) (heI (a_lay1_pumpChamber (0 : Fin 2) _) ((LL_pumpChamber_set_decay _ _).trans ((LL_pumpChamber_set_firstOutgassing _ _).trans ((LL_pumpChamber_set_volume _ _).trans ((LL_pumpChamber_set_flanges _ _).trans ((LL_pumpChamber_set_valves _ _).trans ((LL_pumpChamber_set_pumps _ _).trans (LL_pumpChamber_set_chambers _ _)))))))) (by decide) (by decide) (Nat.le_of_ble_eq_true rfl) (Nat.le_of_ble_eq_true rfl) (s_lay_pumpChamber (0 : Fin 2) (LL_set_decay (LL_set_firstOutgassing (LL_set_volume (LL_set_flanges (LL_set_valves (LL_set_pumps (LL_set_chambers lY0 (LL_chambers (ly (1 : Fin 2)))) (LL_pumps (ly (1 : Fin 2)))) (LL_valves (ly (1 : Fin 2)))) (LL_flanges (ly (1 : Fin 2)))) (va_cpy (LL_volume (ly (1 : Fin 2))) (LL_volume lY0) 0 0 8)) (va_cpy (LL_firstOutgassing (ly (1 : Fin 2))) (LL_firstOutgassing lY0) 0 0 8)) (va_cpy (LL_decay (ly (1 : Fin 2))) (LL_decay lY0) 0 0 8)) (va_cpy (LL_pumpChamber (ly (1 : Fin 2))) (LL_pumpChamber lY0) 0 0 6)) rfl (cpR (Nat.le_of_ble_eq_true rfl) (Nat.le_of_ble_eq_true rfl)) dX1_copyFrom_89 ?_
  refine r_aload_n X (x := k.b + (4 + 17 * (1 : Fin 2).val)) dX1_copyFrom_92 rfl ?_
  refine r_getfield X (v := .ref (k.b + (4 + 17 * (1 : Fin 2).val + 5))) clsX1 flX1_37 (Nat.le_of_ble_eq_true rfl) _ (o_lay (1 : Fin 2)) rfl dX1_copyFrom_93 ?_
  refine r_iconst X (v := 0) dX1_copyFrom_96 rfl ?_
  refine r_aload_n X (x := k.b + (4 + 17 * (0 : Fin 2).val)) dX1_copyFrom_97 rfl ?_
  refine r_getfield X (v := .ref (k.b + (4 + 17 * (0 : Fin 2).val + 5))) clsX1 flX1_37 (Nat.le_of_ble_eq_true rfl) _ (o_lay1 (0 : Fin 2) _) rfl dX1_copyFrom_98 ?_
  refine r_iconst X (v := 0) dX1_copyFrom_101 rfl ?_
  refine r_bipush X (v := 6) dX1_copyFrom_102 rfl ?_
  refine r_copyi X (f := LL_exhaust (ly (1 : Fin 2))) (g := LL_exhaust lY0) (m := 6) (ws1 := wAll k T R (updF ly (0 : Fin 2) (LL_set_exhaust (LL_set_pumpChamber (LL_set_decay (LL_set_firstOutgassing (LL_set_volume (LL_set_flanges (LL_set_valves (LL_set_pumps (LL_set_chambers lY0 (LL_chambers (ly (1 : Fin 2)))) (LL_pumps (ly (1 : Fin 2)))) (LL_valves (ly (1 : Fin 2)))) (LL_flanges (ly (1 : Fin 2)))) (va_cpy (LL_volume (ly (1 : Fin 2))) (LL_volume lY0) 0 0 8)) (va_cpy (LL_firstOutgassing (ly (1 : Fin 2))) (LL_firstOutgassing lY0) 0 0 8)) (va_cpy (LL_decay (ly (1 : Fin 2))) (LL_decay lY0) 0 0 8)) (va_cpy (LL_pumpChamber (ly (1 : Fin 2))) (LL_pumpChamber lY0) 0 0 6)) (va_cpy (LL_exhaust (ly (1 : Fin 2))) (LL_exhaust lY0) 0 0 6))) rc hn rp tp ee st) lkX1_70 _ _ (a_lay_exhaust (1 : Fin 2)) (heI (a_lay1_exhaust (0 : Fin 2) _) ((LL_exhaust_set_pumpChamber _ _).trans ((LL_exhaust_set_decay _ _).trans ((LL_exhaust_set_firstOutgassing _ _).trans ((LL_exhaust_set_volume _ _).trans ((LL_exhaust_set_flanges _ _).trans ((LL_exhaust_set_valves _ _).trans ((LL_exhaust_set_pumps _ _).trans (LL_exhaust_set_chambers _ _))))))))) (by decide) (by decide) (Nat.le_of_ble_eq_true rfl) (Nat.le_of_ble_eq_true rfl) (s_lay_exhaust (0 : Fin 2) (LL_set_pumpChamber (LL_set_decay (LL_set_firstOutgassing (LL_set_volume (LL_set_flanges (LL_set_valves (LL_set_pumps (LL_set_chambers lY0 (LL_chambers (ly (1 : Fin 2)))) (LL_pumps (ly (1 : Fin 2)))) (LL_valves (ly (1 : Fin 2)))) (LL_flanges (ly (1 : Fin 2)))) (va_cpy (LL_volume (ly (1 : Fin 2))) (LL_volume lY0) 0 0 8)) (va_cpy (LL_firstOutgassing (ly (1 : Fin 2))) (LL_firstOutgassing lY0) 0 0 8)) (va_cpy (LL_decay (ly (1 : Fin 2))) (LL_decay lY0) 0 0 8)) (va_cpy (LL_pumpChamber (ly (1 : Fin 2))) (LL_pumpChamber lY0) 0 0 6)) (va_cpy (LL_exhaust (ly (1 : Fin 2))) (LL_exhaust lY0) 0 0 6)) rfl (cpR (Nat.le_of_ble_eq_true rfl) (Nat.le_of_ble_eq_true rfl)) dX1_copyFrom_104 ?_
  refine r_aload_n X (x := k.b + (4 + 17 * (1 : Fin 2).val)) dX1_copyFrom_107 rfl ?_
  refine r_getfield X (v := .ref (k.b + (4 + 17 * (1 : Fin 2).val + 6))) clsX1 flX1_40 (Nat.le_of_ble_eq_true rfl) _ (o_lay (1 : Fin 2)) rfl dX1_copyFrom_108 ?_
  refine r_iconst X (v := 0) dX1_copyFrom_111 rfl ?_
  refine r_aload_n X (x := k.b + (4 + 17 * (0 : Fin 2).val)) dX1_copyFrom_112 rfl ?_
  refine r_getfield X (v := .ref (k.b + (4 + 17 * (0 : Fin 2).val + 6))) clsX1 flX1_40 (Nat.le_of_ble_eq_true rfl) _ (o_lay1 (0 : Fin 2) _) rfl dX1_copyFrom_113 ?_
  refine r_iconst X (v := 0) dX1_copyFrom_116 rfl ?_
  refine r_bipush X (v := 6) dX1_copyFrom_117 rfl ?_
  refine r_copyi X (f := LL_speed (ly (1 : Fin 2))) (g := LL_speed lY0) (m := 6) (ws1 := wAll k T R (updF ly (0 : Fin 2) (LL_set_speed (LL_set_exhaust (LL_set_pumpChamber (LL_set_decay (LL_set_firstOutgassing (LL_set_volume (LL_set_flanges (LL_set_valves (LL_set_pumps (LL_set_chambers lY0 (LL_chambers (ly (1 : Fin 2)))) (LL_pumps (ly (1 : Fin 2)))) (LL_valves (ly (1 : Fin 2)))) (LL_flanges (ly (1 : Fin 2)))) (va_cpy (LL_volume (ly (1 : Fin 2))) (LL_volume lY0) 0 0 8)) (va_cpy (LL_firstOutgassing (ly (1 : Fin 2))) (LL_firstOutgassing lY0) 0 0 8)) (va_cpy (LL_decay (ly (1 : Fin 2))) (LL_decay lY0) 0 0 8)) (va_cpy (LL_pumpChamber (ly (1 : Fin 2))) (LL_pumpChamber lY0) 0 0 6)) (va_cpy (LL_exhaust (ly (1 : Fin 2))) (LL_exhaust lY0) 0 0 6)) (va_cpy (LL_speed (ly (1 : Fin 2))) (LL_speed lY0) 0 0 6))) rc hn rp tp ee st) lkX1_70 _ _ (a_lay_speed (1 : Fin 2)) (heI (a_lay1_speed (0 : Fin 2) _) ((LL_speed_set_exhaust _ _).trans ((LL_speed_set_pumpChamber _ _).trans ((LL_speed_set_decay _ _).trans ((LL_speed_set_firstOutgassing _ _).trans ((LL_speed_set_volume _ _).trans ((LL_speed_set_flanges _ _).trans ((LL_speed_set_valves _ _).trans ((LL_speed_set_pumps _ _).trans (LL_speed_set_chambers _ _)))))))))) (by decide) (by decide) (Nat.le_of_ble_eq_true rfl) (Nat.le_of_ble_eq_true rfl) (s_lay_speed (0 : Fin 2) (LL_set_exhaust (LL_set_pumpChamber (LL_set_decay (LL_set_firstOutgassing (LL_set_volume (LL_set_flanges (LL_set_valves (LL_set_pumps (LL_set_chambers lY0 (LL_chambers (ly (1 : Fin 2)))) (LL_pumps (ly (1 : Fin 2)))) (LL_valves (ly (1 : Fin 2)))) (LL_flanges (ly (1 : Fin 2)))) (va_cpy (LL_volume (ly (1 : Fin 2))) (LL_volume lY0) 0 0 8)) (va_cpy (LL_firstOutgassing (ly (1 : Fin 2))) (LL_firstOutgassing lY0) 0 0 8)) (va_cpy (LL_decay (ly (1 : Fin 2))) (LL_decay lY0) 0 0 8)) (va_cpy (LL_pumpChamber (ly (1 : Fin 2))) (LL_pumpChamber lY0) 0 0 6)) (va_cpy (LL_exhaust (ly (1 : Fin 2))) (LL_exhaust lY0) 0 0 6)) (va_cpy (LL_speed (ly (1 : Fin 2))) (LL_speed lY0) 0 0 6)) rfl (cpR (Nat.le_of_ble_eq_true rfl) (Nat.le_of_ble_eq_true rfl)) dX1_copyFrom_119 ?_
  refine r_aload_n X (x := k.b + (4 + 17 * (1 : Fin 2).val)) dX1_copyFrom_122 rfl ?_
  refine r_getfield X (v := .ref (k.b + (4 + 17 * (1 : Fin 2).val + 7))) clsX1 flX1_43 (Nat.le_of_ble_eq_true rfl) _ (o_lay (1 : Fin 2)) rfl dX1_copyFrom_123 ?_
  refine r_iconst X (v := 0) dX1_copyFrom_126 rfl ?_
  refine r_aload_n X (x := k.b + (4 + 17 * (0 : Fin 2).val)) dX1_copyFrom_127 rfl ?_
  refine r_getfield X (v := .ref (k.b + (4 + 17 * (0 : Fin 2).val + 7))) clsX1 flX1_43 (Nat.le_of_ble_eq_true rfl) _ (o_lay1 (0 : Fin 2) _) rfl dX1_copyFrom_128 ?_
  refine r_iconst X (v := 0) dX1_copyFrom_131 rfl ?_
  refine r_bipush X (v := 6) dX1_copyFrom_132 rfl ?_
  refine r_copyi X (f := LL_low (ly (1 : Fin 2))) (g := LL_low lY0) (m := 6) (ws1 := wAll k T R (updF ly (0 : Fin 2) (LL_set_low (LL_set_speed (LL_set_exhaust (LL_set_pumpChamber (LL_set_decay (LL_set_firstOutgassing (LL_set_volume (LL_set_flanges (LL_set_valves (LL_set_pumps (LL_set_chambers lY0 (LL_chambers (ly (1 : Fin 2)))) (LL_pumps (ly (1 : Fin 2)))) (LL_valves (ly (1 : Fin 2)))) (LL_flanges (ly (1 : Fin 2)))) (va_cpy (LL_volume (ly (1 : Fin 2))) (LL_volume lY0) 0 0 8)) (va_cpy (LL_firstOutgassing (ly (1 : Fin 2))) (LL_firstOutgassing lY0) 0 0 8)) (va_cpy (LL_decay (ly (1 : Fin 2))) (LL_decay lY0) 0 0 8)) (va_cpy (LL_pumpChamber (ly (1 : Fin 2))) (LL_pumpChamber lY0) 0 0 6)) (va_cpy (LL_exhaust (ly (1 : Fin 2))) (LL_exhaust lY0) 0 0 6)) (va_cpy (LL_speed (ly (1 : Fin 2))) (LL_speed lY0) 0 0 6)) (va_cpy (LL_low (ly (1 : Fin 2))) (LL_low lY0) 0 0 6))) rc hn rp tp ee st) lkX1_70 _ _ (a_lay_low (1 : Fin 2)) (heI (a_lay1_low (0 : Fin 2) _) ((LL_low_set_speed _ _).trans ((LL_low_set_exhaust _ _).trans ((LL_low_set_pumpChamber _ _).trans ((LL_low_set_decay _ _).trans ((LL_low_set_firstOutgassing _ _).trans ((LL_low_set_volume _ _).trans ((LL_low_set_flanges _ _).trans ((LL_low_set_valves _ _).trans ((LL_low_set_pumps _ _).trans (LL_low_set_chambers _ _))))))))))) (by decide) (by decide) (Nat.le_of_ble_eq_true rfl) (Nat.le_of_ble_eq_true rfl) (s_lay_low (0 : Fin 2) (LL_set_speed (LL_set_exhaust (LL_set_pumpChamber (LL_set_decay (LL_set_firstOutgassing (LL_set_volume (LL_set_flanges (LL_set_valves (LL_set_pumps (LL_set_chambers lY0 (LL_chambers (ly (1 : Fin 2)))) (LL_pumps (ly (1 : Fin 2)))) (LL_valves (ly (1 : Fin 2)))) (LL_flanges (ly (1 : Fin 2)))) (va_cpy (LL_volume (ly (1 : Fin 2))) (LL_volume lY0) 0 0 8)) (va_cpy (LL_firstOutgassing (ly (1 : Fin 2))) (LL_firstOutgassing lY0) 0 0 8)) (va_cpy (LL_decay (ly (1 : Fin 2))) (LL_decay lY0) 0 0 8)) (va_cpy (LL_pumpChamber (ly (1 : Fin 2))) (LL_pumpChamber lY0) 0 0 6)) (va_cpy (LL_exhaust (ly (1 : Fin 2))) (LL_exhaust lY0) 0 0 6)) (va_cpy (LL_speed (ly (1 : Fin 2))) (LL_speed lY0) 0 0 6)) (va_cpy (LL_low (ly (1 : Fin 2))) (LL_low lY0) 0 0 6)) rfl (cpR (Nat.le_of_ble_eq_true rfl) (Nat.le_of_ble_eq_true rfl)) dX1_copyFrom_134 ?_
  refine r_aload_n X (x := k.b + (4 + 17 * (1 : Fin 2).val)) dX1_copyFrom_137 rfl ?_
  refine r_getfield X (v := .ref (k.b + (4 + 17 * (1 : Fin 2).val + 8))) clsX1 flX1_46 (Nat.le_of_ble_eq_true rfl) _ (o_lay (1 : Fin 2)) rfl dX1_copyFrom_138 ?_
  refine r_iconst X (v := 0) dX1_copyFrom_141 rfl ?_
  refine r_aload_n X (x := k.b + (4 + 17 * (0 : Fin 2).val)) dX1_copyFrom_142 rfl ?_
  refine r_getfield X (v := .ref (k.b + (4 + 17 * (0 : Fin 2).val + 8))) clsX1 flX1_46 (Nat.le_of_ble_eq_true rfl) _ (o_lay1 (0 : Fin 2) _) rfl dX1_copyFrom_143 ?_
  refine r_iconst X (v := 0) dX1_copyFrom_146 rfl ?_
  refine r_bipush X (v := 6) dX1_copyFrom_147 rfl ?_
  refine r_copyi X (f := LL_high (ly (1 : Fin 2))) (g := LL_high lY0) (m := 6) (ws1 := wAll k T R (updF ly (0 : Fin 2) (LL_set_high (LL_set_low (LL_set_speed (LL_set_exhaust (LL_set_pumpChamber (LL_set_decay (LL_set_firstOutgassing (LL_set_volume (LL_set_flanges (LL_set_valves (LL_set_pumps (LL_set_chambers lY0 (LL_chambers (ly (1 : Fin 2)))) (LL_pumps (ly (1 : Fin 2)))) (LL_valves (ly (1 : Fin 2)))) (LL_flanges (ly (1 : Fin 2)))) (va_cpy (LL_volume (ly (1 : Fin 2))) (LL_volume lY0) 0 0 8)) (va_cpy (LL_firstOutgassing (ly (1 : Fin 2))) (LL_firstOutgassing lY0) 0 0 8)) (va_cpy (LL_decay (ly (1 : Fin 2))) (LL_decay lY0) 0 0 8)) (va_cpy (LL_pumpChamber (ly (1 : Fin 2))) (LL_pumpChamber lY0) 0 0 6)) (va_cpy (LL_exhaust (ly (1 : Fin 2))) (LL_exhaust lY0) 0 0 6)) (va_cpy (LL_speed (ly (1 : Fin 2))) (LL_speed lY0) 0 0 6)) (va_cpy (LL_low (ly (1 : Fin 2))) (LL_low lY0) 0 0 6)) (va_cpy (LL_high (ly (1 : Fin 2))) (LL_high lY0) 0 0 6))) rc hn rp tp ee st) lkX1_70 _ _ (a_lay_high (1 : Fin 2)) (heI (a_lay1_high (0 : Fin 2) _) ((LL_high_set_low _ _).trans ((LL_high_set_speed _ _).trans ((LL_high_set_exhaust _ _).trans ((LL_high_set_pumpChamber _ _).trans ((LL_high_set_decay _ _).trans ((LL_high_set_firstOutgassing _ _).trans ((LL_high_set_volume _ _).trans ((LL_high_set_flanges _ _).trans ((LL_high_set_valves _ _).trans ((LL_high_set_pumps _ _).trans (LL_high_set_chambers _ _)))))))))))) (by decide) (by decide) (Nat.le_of_ble_eq_true rfl) (Nat.le_of_ble_eq_true rfl) (s_lay_high (0 : Fin 2) (LL_set_low (LL_set_speed (LL_set_exhaust (LL_set_pumpChamber (LL_set_decay (LL_set_firstOutgassing (LL_set_volume (LL_set_flanges (LL_set_valves (LL_set_pumps (LL_set_chambers lY0 (LL_chambers (ly (1 : Fin 2)))) (LL_pumps (ly (1 : Fin 2)))) (LL_valves (ly (1 : Fin 2)))) (LL_flanges (ly (1 : Fin 2)))) (va_cpy (LL_volume (ly (1 : Fin 2))) (LL_volume lY0) 0 0 8)) (va_cpy (LL_firstOutgassing (ly (1 : Fin 2))) (LL_firstOutgassing lY0) 0 0 8)) (va_cpy (LL_decay (ly (1 : Fin 2))) (LL_decay lY0) 0 0 8)) (va_cpy (LL_pumpChamber (ly (1 : Fin 2))) (LL_pumpChamber lY0) 0 0 6)) (va_cpy (LL_exhaust (ly (1 : Fin 2))) (LL_exhaust lY0) 0 0 6)) (va_cpy (LL_speed (ly (1 : Fin 2))) (LL_speed lY0) 0 0 6)) (va_cpy (LL_low (ly (1 : Fin 2))) (LL_low lY0) 0 0 6)) (va_cpy (LL_high (ly (1 : Fin 2))) (LL_high lY0) 0 0 6)) rfl (cpR (Nat.le_of_ble_eq_true rfl) (Nat.le_of_ble_eq_true rfl)) dX1_copyFrom_149 ?_
  refine r_aload_n X (x := k.b + (4 + 17 * (1 : Fin 2).val)) dX1_copyFrom_152 rfl ?_
  refine r_getfield X (v := .ref (k.b + (4 + 17 * (1 : Fin 2).val + 9))) clsX1 flX1_49 (Nat.le_of_ble_eq_true rfl) _ (o_lay (1 : Fin 2)) rfl dX1_copyFrom_153 ?_
  refine r_iconst X (v := 0) dX1_copyFrom_156 rfl ?_
  refine r_aload_n X (x := k.b + (4 + 17 * (0 : Fin 2).val)) dX1_copyFrom_157 rfl ?_
  refine r_getfield X (v := .ref (k.b + (4 + 17 * (0 : Fin 2).val + 9))) clsX1 flX1_49 (Nat.le_of_ble_eq_true rfl) _ (o_lay1 (0 : Fin 2) _) rfl dX1_copyFrom_158 ?_
  refine r_iconst X (v := 0) dX1_copyFrom_161 rfl ?_
  refine r_bipush X (v := 6) dX1_copyFrom_162 rfl ?_
  refine r_copyi X (f := LL_backing (ly (1 : Fin 2))) (g := LL_backing lY0) (m := 6) (ws1 := wAll k T R (updF ly (0 : Fin 2) (LL_set_backing (LL_set_high (LL_set_low (LL_set_speed (LL_set_exhaust (LL_set_pumpChamber (LL_set_decay (LL_set_firstOutgassing (LL_set_volume (LL_set_flanges (LL_set_valves (LL_set_pumps (LL_set_chambers lY0 (LL_chambers (ly (1 : Fin 2)))) (LL_pumps (ly (1 : Fin 2)))) (LL_valves (ly (1 : Fin 2)))) (LL_flanges (ly (1 : Fin 2)))) (va_cpy (LL_volume (ly (1 : Fin 2))) (LL_volume lY0) 0 0 8)) (va_cpy (LL_firstOutgassing (ly (1 : Fin 2))) (LL_firstOutgassing lY0) 0 0 8)) (va_cpy (LL_decay (ly (1 : Fin 2))) (LL_decay lY0) 0 0 8)) (va_cpy (LL_pumpChamber (ly (1 : Fin 2))) (LL_pumpChamber lY0) 0 0 6)) (va_cpy (LL_exhaust (ly (1 : Fin 2))) (LL_exhaust lY0) 0 0 6)) (va_cpy (LL_speed (ly (1 : Fin 2))) (LL_speed lY0) 0 0 6)) (va_cpy (LL_low (ly (1 : Fin 2))) (LL_low lY0) 0 0 6)) (va_cpy (LL_high (ly (1 : Fin 2))) (LL_high lY0) 0 0 6)) (va_cpy (LL_backing (ly (1 : Fin 2))) (LL_backing lY0) 0 0 6))) rc hn rp tp ee st) lkX1_70 _ _ (a_lay_backing (1 : Fin 2)) (heI (a_lay1_backing (0 : Fin 2) _) ((LL_backing_set_high _ _).trans ((LL_backing_set_low _ _).trans ((LL_backing_set_speed _ _).trans ((LL_backing_set_exhaust _ _).trans ((LL_backing_set_pumpChamber _ _).trans ((LL_backing_set_decay _ _).trans ((LL_backing_set_firstOutgassing _ _).trans ((LL_backing_set_volume _ _).trans ((LL_backing_set_flanges _ _).trans ((LL_backing_set_valves _ _).trans ((LL_backing_set_pumps _ _).trans (LL_backing_set_chambers _ _))))))))))))) (by decide) (by decide) (Nat.le_of_ble_eq_true rfl) (Nat.le_of_ble_eq_true rfl) (s_lay_backing (0 : Fin 2) (LL_set_high (LL_set_low (LL_set_speed (LL_set_exhaust (LL_set_pumpChamber (LL_set_decay (LL_set_firstOutgassing (LL_set_volume (LL_set_flanges (LL_set_valves (LL_set_pumps (LL_set_chambers lY0 (LL_chambers (ly (1 : Fin 2)))) (LL_pumps (ly (1 : Fin 2)))) (LL_valves (ly (1 : Fin 2)))) (LL_flanges (ly (1 : Fin 2)))) (va_cpy (LL_volume (ly (1 : Fin 2))) (LL_volume lY0) 0 0 8)) (va_cpy (LL_firstOutgassing (ly (1 : Fin 2))) (LL_firstOutgassing lY0) 0 0 8)) (va_cpy (LL_decay (ly (1 : Fin 2))) (LL_decay lY0) 0 0 8)) (va_cpy (LL_pumpChamber (ly (1 : Fin 2))) (LL_pumpChamber lY0) 0 0 6)) (va_cpy (LL_exhaust (ly (1 : Fin 2))) (LL_exhaust lY0) 0 0 6)) (va_cpy (LL_speed (ly (1 : Fin 2))) (LL_speed lY0) 0 0 6)) (va_cpy (LL_low (ly (1 : Fin 2))) (LL_low lY0) 0 0 6)) (va_cpy (LL_high (ly (1 : Fin 2))) (LL_high lY0) 0 0 6)) (va_cpy (LL_backing (ly (1 : Fin 2))) (LL_backing lY0) 0 0 6)) rfl (cpR (Nat.le_of_ble_eq_true rfl) (Nat.le_of_ble_eq_true rfl)) dX1_copyFrom_164 ?_
  refine r_aload_n X (x := k.b + (4 + 17 * (1 : Fin 2).val)) dX1_copyFrom_167 rfl ?_
  refine r_getfield X (v := .ref (k.b + (4 + 17 * (1 : Fin 2).val + 10))) clsX1 flX1_52 (Nat.le_of_ble_eq_true rfl) _ (o_lay (1 : Fin 2)) rfl dX1_copyFrom_168 ?_
  refine r_iconst X (v := 0) dX1_copyFrom_171 rfl ?_
  refine r_aload_n X (x := k.b + (4 + 17 * (0 : Fin 2).val)) dX1_copyFrom_172 rfl ?_
  refine r_getfield X (v := .ref (k.b + (4 + 17 * (0 : Fin 2).val + 10))) clsX1 flX1_52 (Nat.le_of_ble_eq_true rfl) _ (o_lay1 (0 : Fin 2) _) rfl dX1_copyFrom_173 ?_
  refine r_iconst X (v := 0) dX1_copyFrom_176 rfl ?_
  refine r_bipush X (v := 10) dX1_copyFrom_177 rfl ?_
  refine r_copyi X (f := LL_valveChamber (ly (1 : Fin 2))) (g := LL_valveChamber lY0) (m := 10) (ws1 := wAll k T R (updF ly (0 : Fin 2) (LL_set_valveChamber (LL_set_backing (LL_set_high (LL_set_low (LL_set_speed (LL_set_exhaust (LL_set_pumpChamber (LL_set_decay (LL_set_firstOutgassing (LL_set_volume (LL_set_flanges (LL_set_valves (LL_set_pumps (LL_set_chambers lY0 (LL_chambers (ly (1 : Fin 2)))) (LL_pumps (ly (1 : Fin 2)))) (LL_valves (ly (1 : Fin 2)))) (LL_flanges (ly (1 : Fin 2)))) (va_cpy (LL_volume (ly (1 : Fin 2))) (LL_volume lY0) 0 0 8)) (va_cpy (LL_firstOutgassing (ly (1 : Fin 2))) (LL_firstOutgassing lY0) 0 0 8)) (va_cpy (LL_decay (ly (1 : Fin 2))) (LL_decay lY0) 0 0 8)) (va_cpy (LL_pumpChamber (ly (1 : Fin 2))) (LL_pumpChamber lY0) 0 0 6)) (va_cpy (LL_exhaust (ly (1 : Fin 2))) (LL_exhaust lY0) 0 0 6)) (va_cpy (LL_speed (ly (1 : Fin 2))) (LL_speed lY0) 0 0 6)) (va_cpy (LL_low (ly (1 : Fin 2))) (LL_low lY0) 0 0 6)) (va_cpy (LL_high (ly (1 : Fin 2))) (LL_high lY0) 0 0 6)) (va_cpy (LL_backing (ly (1 : Fin 2))) (LL_backing lY0) 0 0 6)) (va_cpy (LL_valveChamber (ly (1 : Fin 2))) (LL_valveChamber lY0) 0 0 10))) rc hn rp tp ee st) lkX1_70 _ _ (a_lay_valveChamber (1 : Fin 2)) (heI (a_lay1_valveChamber (0 : Fin 2) _) ((LL_valveChamber_set_backing _ _).trans ((LL_valveChamber_set_high _ _).trans ((LL_valveChamber_set_low _ _).trans ((LL_valveChamber_set_speed _ _).trans ((LL_valveChamber_set_exhaust _ _).trans ((LL_valveChamber_set_pumpChamber _ _).trans ((LL_valveChamber_set_decay _ _).trans ((LL_valveChamber_set_firstOutgassing _ _).trans ((LL_valveChamber_set_volume _ _).trans ((LL_valveChamber_set_flanges _ _).trans ((LL_valveChamber_set_valves _ _).trans ((LL_valveChamber_set_pumps _ _).trans (LL_valveChamber_set_chambers _ _)))))))))))))) (by decide) (by decide) (Nat.le_of_ble_eq_true rfl) (Nat.le_of_ble_eq_true rfl) (s_lay_valveChamber (0 : Fin 2) (LL_set_backing (LL_set_high (LL_set_low (LL_set_speed (LL_set_exhaust (LL_set_pumpChamber (LL_set_decay (LL_set_firstOutgassing (LL_set_volume (LL_set_flanges (LL_set_valves (LL_set_pumps (LL_set_chambers lY0 (LL_chambers (ly (1 : Fin 2)))) (LL_pumps (ly (1 : Fin 2)))) (LL_valves (ly (1 : Fin 2)))) (LL_flanges (ly (1 : Fin 2)))) (va_cpy (LL_volume (ly (1 : Fin 2))) (LL_volume lY0) 0 0 8)) (va_cpy (LL_firstOutgassing (ly (1 : Fin 2))) (LL_firstOutgassing lY0) 0 0 8)) (va_cpy (LL_decay (ly (1 : Fin 2))) (LL_decay lY0) 0 0 8)) (va_cpy (LL_pumpChamber (ly (1 : Fin 2))) (LL_pumpChamber lY0) 0 0 6)) (va_cpy (LL_exhaust (ly (1 : Fin 2))) (LL_exhaust lY0) 0 0 6)) (va_cpy (LL_speed (ly (1 : Fin 2))) (LL_speed lY0) 0 0 6)) (va_cpy (LL_low (ly (1 : Fin 2))) (LL_low lY0) 0 0 6)) (va_cpy (LL_high (ly (1 : Fin 2))) (LL_high lY0) 0 0 6)) (va_cpy (LL_backing (ly (1 : Fin 2))) (LL_backing lY0) 0 0 6)) (va_cpy (LL_valveChamber (ly (1 : Fin 2))) (LL_valveChamber lY0) 0 0 10)) rfl (cpR (Nat.le_of_ble_eq_true rfl) (Nat.le_of_ble_eq_true rfl)) dX1_copyFrom_179 ?_
  refine r_aload_n X (x := k.b + (4 + 17 * (1 : Fin 2).val)) dX1_copyFrom_182 rfl ?_
  refine r_getfield X (v := .ref (k.b + (4 + 17 * (1 : Fin 2).val + 11))) clsX1 flX1_55 (Nat.le_of_ble_eq_true rfl) _ (o_lay (1 : Fin 2)) rfl dX1_copyFrom_183 ?_
  refine r_iconst X (v := 0) dX1_copyFrom_186 rfl ?_
  refine r_aload_n X (x := k.b + (4 + 17 * (0 : Fin 2).val)) dX1_copyFrom_187 rfl ?_
  refine r_getfield X (v := .ref (k.b + (4 + 17 * (0 : Fin 2).val + 11))) clsX1 flX1_55 (Nat.le_of_ble_eq_true rfl) _ (o_lay1 (0 : Fin 2) _) rfl dX1_copyFrom_188 ?_
  refine r_iconst X (v := 0) dX1_copyFrom_191 rfl ?_
  refine r_bipush X (v := 10) dX1_copyFrom_192 rfl ?_
  refine r_copyi X (f := LL_otherSide (ly (1 : Fin 2))) (g := LL_otherSide lY0) (m := 10) (ws1 := wAll k T R (updF ly (0 : Fin 2) (LL_set_otherSide (LL_set_valveChamber (LL_set_backing (LL_set_high (LL_set_low (LL_set_speed (LL_set_exhaust (LL_set_pumpChamber (LL_set_decay (LL_set_firstOutgassing (LL_set_volume (LL_set_flanges (LL_set_valves (LL_set_pumps (LL_set_chambers lY0 (LL_chambers (ly (1 : Fin 2)))) (LL_pumps (ly (1 : Fin 2)))) (LL_valves (ly (1 : Fin 2)))) (LL_flanges (ly (1 : Fin 2)))) (va_cpy (LL_volume (ly (1 : Fin 2))) (LL_volume lY0) 0 0 8)) (va_cpy (LL_firstOutgassing (ly (1 : Fin 2))) (LL_firstOutgassing lY0) 0 0 8)) (va_cpy (LL_decay (ly (1 : Fin 2))) (LL_decay lY0) 0 0 8)) (va_cpy (LL_pumpChamber (ly (1 : Fin 2))) (LL_pumpChamber lY0) 0 0 6)) (va_cpy (LL_exhaust (ly (1 : Fin 2))) (LL_exhaust lY0) 0 0 6)) (va_cpy (LL_speed (ly (1 : Fin 2))) (LL_speed lY0) 0 0 6)) (va_cpy (LL_low (ly (1 : Fin 2))) (LL_low lY0) 0 0 6)) (va_cpy (LL_high (ly (1 : Fin 2))) (LL_high lY0) 0 0 6)) (va_cpy (LL_backing (ly (1 : Fin 2))) (LL_backing lY0) 0 0 6)) (va_cpy (LL_valveChamber (ly (1 : Fin 2))) (LL_valveChamber lY0) 0 0 10)) (va_cpy (LL_otherSide (ly (1 : Fin 2))) (LL_otherSide lY0) 0 0 10))) rc hn rp tp ee st) lkX1_70 _ _ (a_lay_otherSide (1 : Fin 2)) (heI (a_lay1_otherSide (0 : Fin 2) _) ((LL_otherSide_set_valveChamber _ _).trans ((LL_otherSide_set_backing _ _).trans ((LL_otherSide_set_high _ _).trans ((LL_otherSide_set_low _ _).trans ((LL_otherSide_set_speed _ _).trans ((LL_otherSide_set_exhaust _ _).trans ((LL_otherSide_set_pumpChamber _ _).trans ((LL_otherSide_set_decay _ _).trans ((LL_otherSide_set_firstOutgassing _ _).trans ((LL_otherSide_set_volume _ _).trans ((LL_otherSide_set_flanges _ _).trans ((LL_otherSide_set_valves _ _).trans ((LL_otherSide_set_pumps _ _).trans (LL_otherSide_set_chambers _ _))))))))))))))) (by decide) (by decide) (Nat.le_of_ble_eq_true rfl) (Nat.le_of_ble_eq_true rfl) (s_lay_otherSide (0 : Fin 2) (LL_set_valveChamber (LL_set_backing (LL_set_high (LL_set_low (LL_set_speed (LL_set_exhaust (LL_set_pumpChamber (LL_set_decay (LL_set_firstOutgassing (LL_set_volume (LL_set_flanges (LL_set_valves (LL_set_pumps (LL_set_chambers lY0 (LL_chambers (ly (1 : Fin 2)))) (LL_pumps (ly (1 : Fin 2)))) (LL_valves (ly (1 : Fin 2)))) (LL_flanges (ly (1 : Fin 2)))) (va_cpy (LL_volume (ly (1 : Fin 2))) (LL_volume lY0) 0 0 8)) (va_cpy (LL_firstOutgassing (ly (1 : Fin 2))) (LL_firstOutgassing lY0) 0 0 8)) (va_cpy (LL_decay (ly (1 : Fin 2))) (LL_decay lY0) 0 0 8)) (va_cpy (LL_pumpChamber (ly (1 : Fin 2))) (LL_pumpChamber lY0) 0 0 6)) (va_cpy (LL_exhaust (ly (1 : Fin 2))) (LL_exhaust lY0) 0 0 6)) (va_cpy (LL_speed (ly (1 : Fin 2))) (LL_speed lY0) 0 0 6)) (va_cpy (LL_low (ly (1 : Fin 2))) (LL_low lY0) 0 0 6)) (va_cpy (LL_high (ly (1 : Fin 2))) (LL_high lY0) 0 0 6)) (va_cpy (LL_backing (ly (1 : Fin 2))) (LL_backing lY0) 0 0 6)) (va_cpy (LL_valveChamber (ly (1 : Fin 2))) (LL_valveChamber lY0) 0 0 10)) (va_cpy (LL_otherSide (ly (1 : Fin 2))) (LL_otherSide lY0) 0 0 10)) rfl (cpR (Nat.le_of_ble_eq_true rfl) (Nat.le_of_ble_eq_true rfl)) dX1_copyFrom_194 ?_
  refine r_aload_n X (x := k.b + (4 + 17 * (1 : Fin 2).val)) dX1_copyFrom_197 rfl ?_
  refine r_getfield X (v := .ref (k.b + (4 + 17 * (1 : Fin 2).val + 12))) clsX1 flX1_58 (Nat.le_of_ble_eq_true rfl) _ (o_lay (1 : Fin 2)) rfl dX1_copyFrom_198 ?_
  refine r_iconst X (v := 0) dX1_copyFrom_201 rfl ?_
  refine r_aload_n X (x := k.b + (4 + 17 * (0 : Fin 2).val)) dX1_copyFrom_202 rfl ?_
  refine r_getfield X (v := .ref (k.b + (4 + 17 * (0 : Fin 2).val + 12))) clsX1 flX1_58 (Nat.le_of_ble_eq_true rfl) _ (o_lay1 (0 : Fin 2) _) rfl dX1_copyFrom_203 ?_
  refine r_iconst X (v := 0) dX1_copyFrom_206 rfl ?_
  refine r_bipush X (v := 10) dX1_copyFrom_207 rfl ?_
  refine r_copyi X (f := LL_conductance (ly (1 : Fin 2))) (g := LL_conductance lY0) (m := 10) (ws1 := wAll k T R (updF ly (0 : Fin 2) (LL_set_conductance (LL_set_otherSide (LL_set_valveChamber (LL_set_backing (LL_set_high (LL_set_low (LL_set_speed (LL_set_exhaust (LL_set_pumpChamber (LL_set_decay (LL_set_firstOutgassing (LL_set_volume (LL_set_flanges (LL_set_valves (LL_set_pumps (LL_set_chambers lY0 (LL_chambers (ly (1 : Fin 2)))) (LL_pumps (ly (1 : Fin 2)))) (LL_valves (ly (1 : Fin 2)))) (LL_flanges (ly (1 : Fin 2)))) (va_cpy (LL_volume (ly (1 : Fin 2))) (LL_volume lY0) 0 0 8)) (va_cpy (LL_firstOutgassing (ly (1 : Fin 2))) (LL_firstOutgassing lY0) 0 0 8)) (va_cpy (LL_decay (ly (1 : Fin 2))) (LL_decay lY0) 0 0 8)) (va_cpy (LL_pumpChamber (ly (1 : Fin 2))) (LL_pumpChamber lY0) 0 0 6)) (va_cpy (LL_exhaust (ly (1 : Fin 2))) (LL_exhaust lY0) 0 0 6)) (va_cpy (LL_speed (ly (1 : Fin 2))) (LL_speed lY0) 0 0 6)) (va_cpy (LL_low (ly (1 : Fin 2))) (LL_low lY0) 0 0 6)) (va_cpy (LL_high (ly (1 : Fin 2))) (LL_high lY0) 0 0 6)) (va_cpy (LL_backing (ly (1 : Fin 2))) (LL_backing lY0) 0 0 6)) (va_cpy (LL_valveChamber (ly (1 : Fin 2))) (LL_valveChamber lY0) 0 0 10)) (va_cpy (LL_otherSide (ly (1 : Fin 2))) (LL_otherSide lY0) 0 0 10)) (va_cpy (LL_conductance (ly (1 : Fin 2))) (LL_conductance lY0) 0 0 10))) rc hn rp tp ee st) lkX1_70 _ _ (a_lay_conductance (1 : Fin 2)) (heI (a_lay1_conductance (0 : Fin 2) _) ((LL_conductance_set_otherSide _ _).trans ((LL_conductance_set_valveChamber _ _).trans ((LL_conductance_set_backing _ _).trans ((LL_conductance_set_high _ _).trans ((LL_conductance_set_low _ _).trans ((LL_conductance_set_speed _ _).trans ((LL_conductance_set_exhaust _ _).trans ((LL_conductance_set_pumpChamber _ _).trans ((LL_conductance_set_decay _ _).trans ((LL_conductance_set_firstOutgassing _ _).trans ((LL_conductance_set_volume _ _).trans ((LL_conductance_set_flanges _ _).trans ((LL_conductance_set_valves _ _).trans ((LL_conductance_set_pumps _ _).trans (LL_conductance_set_chambers _ _)))))))))))))))) (by decide) (by decide) (Nat.le_of_ble_eq_true rfl) (Nat.le_of_ble_eq_true rfl) (s_lay_conductance (0 : Fin 2) (LL_set_otherSide (LL_set_valveChamber (LL_set_backing (LL_set_high (LL_set_low (LL_set_speed (LL_set_exhaust (LL_set_pumpChamber (LL_set_decay (LL_set_firstOutgassing (LL_set_volume (LL_set_flanges (LL_set_valves (LL_set_pumps (LL_set_chambers lY0 (LL_chambers (ly (1 : Fin 2)))) (LL_pumps (ly (1 : Fin 2)))) (LL_valves (ly (1 : Fin 2)))) (LL_flanges (ly (1 : Fin 2)))) (va_cpy (LL_volume (ly (1 : Fin 2))) (LL_volume lY0) 0 0 8)) (va_cpy (LL_firstOutgassing (ly (1 : Fin 2))) (LL_firstOutgassing lY0) 0 0 8)) (va_cpy (LL_decay (ly (1 : Fin 2))) (LL_decay lY0) 0 0 8)) (va_cpy (LL_pumpChamber (ly (1 : Fin 2))) (LL_pumpChamber lY0) 0 0 6)) (va_cpy (LL_exhaust (ly (1 : Fin 2))) (LL_exhaust lY0) 0 0 6)) (va_cpy (LL_speed (ly (1 : Fin 2))) (LL_speed lY0) 0 0 6)) (va_cpy (LL_low (ly (1 : Fin 2))) (LL_low lY0) 0 0 6)) (va_cpy (LL_high (ly (1 : Fin 2))) (LL_high lY0) 0 0 6)) (va_cpy (LL_backing (ly (1 : Fin 2))) (LL_backing lY0) 0 0 6)) (va_cpy (LL_valveChamber (ly (1 : Fin 2))) (LL_valveChamber lY0) 0 0 10)) (va_cpy (LL_otherSide (ly (1 : Fin 2))) (LL_otherSide lY0) 0 0 10)) (va_cpy (LL_conductance (ly (1 : Fin 2))) (LL_conductance lY0) 0 0 10)) rfl (cpR (Nat.le_of_ble_eq_true rfl) (Nat.le_of_ble_eq_true rfl)) dX1_copyFrom_209 ?_
  refine r_aload_n X (x := k.b + (4 + 17 * (1 : Fin 2).val)) dX1_copyFrom_212 rfl ?_
  refine r_getfield X (v := .ref (k.b + (4 + 17 * (1 : Fin 2).val + 13))) clsX1 flX1_61 (Nat.le_of_ble_eq_true rfl) _ (o_lay (1 : Fin 2)) rfl dX1_copyFrom_213 ?_
  refine r_iconst X (v := 0) dX1_copyFrom_216 rfl ?_
  refine r_aload_n X (x := k.b + (4 + 17 * (0 : Fin 2).val)) dX1_copyFrom_217 rfl ?_
  refine r_getfield X (v := .ref (k.b + (4 + 17 * (0 : Fin 2).val + 13))) clsX1 flX1_61 (Nat.le_of_ble_eq_true rfl) _ (o_lay1 (0 : Fin 2) _) rfl dX1_copyFrom_218 ?_
  refine r_iconst X (v := 0) dX1_copyFrom_221 rfl ?_
  refine r_bipush X (v := 10) dX1_copyFrom_222 rfl ?_
  refine r_copyi X (f := LL_firstRule (ly (1 : Fin 2))) (g := LL_firstRule lY0) (m := 10) (ws1 := wAll k T R (updF ly (0 : Fin 2) (LL_set_firstRule (LL_set_conductance (LL_set_otherSide (LL_set_valveChamber (LL_set_backing (LL_set_high (LL_set_low (LL_set_speed (LL_set_exhaust (LL_set_pumpChamber (LL_set_decay (LL_set_firstOutgassing (LL_set_volume (LL_set_flanges (LL_set_valves (LL_set_pumps (LL_set_chambers lY0 (LL_chambers (ly (1 : Fin 2)))) (LL_pumps (ly (1 : Fin 2)))) (LL_valves (ly (1 : Fin 2)))) (LL_flanges (ly (1 : Fin 2)))) (va_cpy (LL_volume (ly (1 : Fin 2))) (LL_volume lY0) 0 0 8)) (va_cpy (LL_firstOutgassing (ly (1 : Fin 2))) (LL_firstOutgassing lY0) 0 0 8)) (va_cpy (LL_decay (ly (1 : Fin 2))) (LL_decay lY0) 0 0 8)) (va_cpy (LL_pumpChamber (ly (1 : Fin 2))) (LL_pumpChamber lY0) 0 0 6)) (va_cpy (LL_exhaust (ly (1 : Fin 2))) (LL_exhaust lY0) 0 0 6)) (va_cpy (LL_speed (ly (1 : Fin 2))) (LL_speed lY0) 0 0 6)) (va_cpy (LL_low (ly (1 : Fin 2))) (LL_low lY0) 0 0 6)) (va_cpy (LL_high (ly (1 : Fin 2))) (LL_high lY0) 0 0 6)) (va_cpy (LL_backing (ly (1 : Fin 2))) (LL_backing lY0) 0 0 6)) (va_cpy (LL_valveChamber (ly (1 : Fin 2))) (LL_valveChamber lY0) 0 0 10)) (va_cpy (LL_otherSide (ly (1 : Fin 2))) (LL_otherSide lY0) 0 0 10)) (va_cpy (LL_conductance (ly (1 : Fin 2))) (LL_conductance lY0) 0 0 10)) (va_cpy (LL_firstRule (ly (1 : Fin 2))) (LL_firstRule lY0) 0 0 10))) rc hn rp tp ee st) lkX1_70 _ _ (a_lay_firstRule (1 : Fin 2)) (heI (a_lay1_firstRule (0 : Fin 2) _) ((LL_firstRule_set_conductance _ _).trans ((LL_firstRule_set_otherSide _ _).trans ((LL_firstRule_set_valveChamber _ _).trans ((LL_firstRule_set_backing _ _).trans ((LL_firstRule_set_high _ _).trans ((LL_firstRule_set_low _ _).trans ((LL_firstRule_set_speed _ _).trans ((LL_firstRule_set_exhaust _ _).trans ((LL_firstRule_set_pumpChamber _ _).trans ((LL_firstRule_set_decay _ _).trans ((LL_firstRule_set_firstOutgassing _ _).trans ((LL_firstRule_set_volume _ _).trans ((LL_firstRule_set_flanges _ _).trans ((LL_firstRule_set_valves _ _).trans ((LL_firstRule_set_pumps _ _).trans (LL_firstRule_set_chambers _ _))))))))))))))))) (by decide) (by decide) (Nat.le_of_ble_eq_true rfl) (Nat.le_of_ble_eq_true rfl) (s_lay_firstRule (0 : Fin 2) (LL_set_conductance (LL_set_otherSide (LL_set_valveChamber (LL_set_backing (LL_set_high (LL_set_low (LL_set_speed (LL_set_exhaust (LL_set_pumpChamber (LL_set_decay (LL_set_firstOutgassing (LL_set_volume (LL_set_flanges (LL_set_valves (LL_set_pumps (LL_set_chambers lY0 (LL_chambers (ly (1 : Fin 2)))) (LL_pumps (ly (1 : Fin 2)))) (LL_valves (ly (1 : Fin 2)))) (LL_flanges (ly (1 : Fin 2)))) (va_cpy (LL_volume (ly (1 : Fin 2))) (LL_volume lY0) 0 0 8)) (va_cpy (LL_firstOutgassing (ly (1 : Fin 2))) (LL_firstOutgassing lY0) 0 0 8)) (va_cpy (LL_decay (ly (1 : Fin 2))) (LL_decay lY0) 0 0 8)) (va_cpy (LL_pumpChamber (ly (1 : Fin 2))) (LL_pumpChamber lY0) 0 0 6)) (va_cpy (LL_exhaust (ly (1 : Fin 2))) (LL_exhaust lY0) 0 0 6)) (va_cpy (LL_speed (ly (1 : Fin 2))) (LL_speed lY0) 0 0 6)) (va_cpy (LL_low (ly (1 : Fin 2))) (LL_low lY0) 0 0 6)) (va_cpy (LL_high (ly (1 : Fin 2))) (LL_high lY0) 0 0 6)) (va_cpy (LL_backing (ly (1 : Fin 2))) (LL_backing lY0) 0 0 6)) (va_cpy (LL_valveChamber (ly (1 : Fin 2))) (LL_valveChamber lY0) 0 0 10)) (va_cpy (LL_otherSide (ly (1 : Fin 2))) (LL_otherSide lY0) 0 0 10)) (va_cpy (LL_conductance (ly (1 : Fin 2))) (LL_conductance lY0) 0 0 10)) (va_cpy (LL_firstRule (ly (1 : Fin 2))) (LL_firstRule lY0) 0 0 10)) rfl (cpR (Nat.le_of_ble_eq_true rfl) (Nat.le_of_ble_eq_true rfl)) dX1_copyFrom_224 ?_
  refine r_aload_n X (x := k.b + (4 + 17 * (1 : Fin 2).val)) dX1_copyFrom_227 rfl ?_
  refine r_getfield X (v := .ref (k.b + (4 + 17 * (1 : Fin 2).val + 14))) clsX1 flX1_64 (Nat.le_of_ble_eq_true rfl) _ (o_lay (1 : Fin 2)) rfl dX1_copyFrom_228 ?_
  refine r_iconst X (v := 0) dX1_copyFrom_231 rfl ?_
  refine r_aload_n X (x := k.b + (4 + 17 * (0 : Fin 2).val)) dX1_copyFrom_232 rfl ?_
  refine r_getfield X (v := .ref (k.b + (4 + 17 * (0 : Fin 2).val + 14))) clsX1 flX1_64 (Nat.le_of_ble_eq_true rfl) _ (o_lay1 (0 : Fin 2) _) rfl dX1_copyFrom_233 ?_
  refine r_iconst X (v := 0) dX1_copyFrom_236 rfl ?_
  refine r_bipush X (v := 24) dX1_copyFrom_237 rfl ?_
  refine r_copyi X (f := LL_flangeChamber (ly (1 : Fin 2))) (g := LL_flangeChamber lY0) (m := 24) (ws1 := wAll k T R (updF ly (0 : Fin 2) (LL_set_flangeChamber (LL_set_firstRule (LL_set_conductance (LL_set_otherSide (LL_set_valveChamber (LL_set_backing (LL_set_high (LL_set_low (LL_set_speed (LL_set_exhaust (LL_set_pumpChamber (LL_set_decay (LL_set_firstOutgassing (LL_set_volume (LL_set_flanges (LL_set_valves (LL_set_pumps (LL_set_chambers lY0 (LL_chambers (ly (1 : Fin 2)))) (LL_pumps (ly (1 : Fin 2)))) (LL_valves (ly (1 : Fin 2)))) (LL_flanges (ly (1 : Fin 2)))) (va_cpy (LL_volume (ly (1 : Fin 2))) (LL_volume lY0) 0 0 8)) (va_cpy (LL_firstOutgassing (ly (1 : Fin 2))) (LL_firstOutgassing lY0) 0 0 8)) (va_cpy (LL_decay (ly (1 : Fin 2))) (LL_decay lY0) 0 0 8)) (va_cpy (LL_pumpChamber (ly (1 : Fin 2))) (LL_pumpChamber lY0) 0 0 6)) (va_cpy (LL_exhaust (ly (1 : Fin 2))) (LL_exhaust lY0) 0 0 6)) (va_cpy (LL_speed (ly (1 : Fin 2))) (LL_speed lY0) 0 0 6)) (va_cpy (LL_low (ly (1 : Fin 2))) (LL_low lY0) 0 0 6)) (va_cpy (LL_high (ly (1 : Fin 2))) (LL_high lY0) 0 0 6)) (va_cpy (LL_backing (ly (1 : Fin 2))) (LL_backing lY0) 0 0 6)) (va_cpy (LL_valveChamber (ly (1 : Fin 2))) (LL_valveChamber lY0) 0 0 10)) (va_cpy (LL_otherSide (ly (1 : Fin 2))) (LL_otherSide lY0) 0 0 10)) (va_cpy (LL_conductance (ly (1 : Fin 2))) (LL_conductance lY0) 0 0 10)) (va_cpy (LL_firstRule (ly (1 : Fin 2))) (LL_firstRule lY0) 0 0 10)) (va_cpy (LL_flangeChamber (ly (1 : Fin 2))) (LL_flangeChamber lY0) 0 0 24))) rc hn rp tp ee st) lkX1_70 _ _ (a_lay_flangeChamber (1 : Fin 2)) (heI (a_lay1_flangeChamber (0 : Fin 2) _) ((LL_flangeChamber_set_firstRule _ _).trans ((LL_flangeChamber_set_conductance _ _).trans ((LL_flangeChamber_set_otherSide _ _).trans ((LL_flangeChamber_set_valveChamber _ _).trans ((LL_flangeChamber_set_backing _ _).trans ((LL_flangeChamber_set_high _ _).trans ((LL_flangeChamber_set_low _ _).trans ((LL_flangeChamber_set_speed _ _).trans ((LL_flangeChamber_set_exhaust _ _).trans ((LL_flangeChamber_set_pumpChamber _ _).trans ((LL_flangeChamber_set_decay _ _).trans ((LL_flangeChamber_set_firstOutgassing _ _).trans ((LL_flangeChamber_set_volume _ _).trans ((LL_flangeChamber_set_flanges _ _).trans ((LL_flangeChamber_set_valves _ _).trans ((LL_flangeChamber_set_pumps _ _).trans (LL_flangeChamber_set_chambers _ _)))))))))))))))))) (by decide) (by decide) (Nat.le_of_ble_eq_true rfl) (Nat.le_of_ble_eq_true rfl) (s_lay_flangeChamber (0 : Fin 2) (LL_set_firstRule (LL_set_conductance (LL_set_otherSide (LL_set_valveChamber (LL_set_backing (LL_set_high (LL_set_low (LL_set_speed (LL_set_exhaust (LL_set_pumpChamber (LL_set_decay (LL_set_firstOutgassing (LL_set_volume (LL_set_flanges (LL_set_valves (LL_set_pumps (LL_set_chambers lY0 (LL_chambers (ly (1 : Fin 2)))) (LL_pumps (ly (1 : Fin 2)))) (LL_valves (ly (1 : Fin 2)))) (LL_flanges (ly (1 : Fin 2)))) (va_cpy (LL_volume (ly (1 : Fin 2))) (LL_volume lY0) 0 0 8)) (va_cpy (LL_firstOutgassing (ly (1 : Fin 2))) (LL_firstOutgassing lY0) 0 0 8)) (va_cpy (LL_decay (ly (1 : Fin 2))) (LL_decay lY0) 0 0 8)) (va_cpy (LL_pumpChamber (ly (1 : Fin 2))) (LL_pumpChamber lY0) 0 0 6)) (va_cpy (LL_exhaust (ly (1 : Fin 2))) (LL_exhaust lY0) 0 0 6)) (va_cpy (LL_speed (ly (1 : Fin 2))) (LL_speed lY0) 0 0 6)) (va_cpy (LL_low (ly (1 : Fin 2))) (LL_low lY0) 0 0 6)) (va_cpy (LL_high (ly (1 : Fin 2))) (LL_high lY0) 0 0 6)) (va_cpy (LL_backing (ly (1 : Fin 2))) (LL_backing lY0) 0 0 6)) (va_cpy (LL_valveChamber (ly (1 : Fin 2))) (LL_valveChamber lY0) 0 0 10)) (va_cpy (LL_otherSide (ly (1 : Fin 2))) (LL_otherSide lY0) 0 0 10)) (va_cpy (LL_conductance (ly (1 : Fin 2))) (LL_conductance lY0) 0 0 10)) (va_cpy (LL_firstRule (ly (1 : Fin 2))) (LL_firstRule lY0) 0 0 10)) (va_cpy (LL_flangeChamber (ly (1 : Fin 2))) (LL_flangeChamber lY0) 0 0 24)) rfl (cpR (Nat.le_of_ble_eq_true rfl) (Nat.le_of_ble_eq_true rfl)) dX1_copyFrom_239 ?_
  refine r_aload_n X (x := k.b + (4 + 17 * (1 : Fin 2).val)) dX1_copyFrom_242 rfl ?_
  refine r_getfield X (v := .ref (k.b + (4 + 17 * (1 : Fin 2).val + 15))) clsX1 flX1_67 (Nat.le_of_ble_eq_true rfl) _ (o_lay (1 : Fin 2)) rfl dX1_copyFrom_243 ?_
  refine r_iconst X (v := 0) dX1_copyFrom_246 rfl ?_
  refine r_aload_n X (x := k.b + (4 + 17 * (0 : Fin 2).val)) dX1_copyFrom_247 rfl ?_
  refine r_getfield X (v := .ref (k.b + (4 + 17 * (0 : Fin 2).val + 15))) clsX1 flX1_67 (Nat.le_of_ble_eq_true rfl) _ (o_lay1 (0 : Fin 2) _) rfl dX1_copyFrom_248 ?_
  refine r_iconst X (v := 0) dX1_copyFrom_251 rfl ?_
  refine r_bipush X (v := 24) dX1_copyFrom_252 rfl ?_
  refine r_copyi X (f := LL_firstLeak (ly (1 : Fin 2))) (g := LL_firstLeak lY0) (m := 24) (ws1 := wAll k T R (updF ly (0 : Fin 2) (LL_set_firstLeak (LL_set_flangeChamber (LL_set_firstRule (LL_set_conductance (LL_set_otherSide (LL_set_valveChamber (LL_set_backing (LL_set_high (LL_set_low (LL_set_speed (LL_set_exhaust (LL_set_pumpChamber (LL_set_decay (LL_set_firstOutgassing (LL_set_volume (LL_set_flanges (LL_set_valves (LL_set_pumps (LL_set_chambers lY0 (LL_chambers (ly (1 : Fin 2)))) (LL_pumps (ly (1 : Fin 2)))) (LL_valves (ly (1 : Fin 2)))) (LL_flanges (ly (1 : Fin 2)))) (va_cpy (LL_volume (ly (1 : Fin 2))) (LL_volume lY0) 0 0 8)) (va_cpy (LL_firstOutgassing (ly (1 : Fin 2))) (LL_firstOutgassing lY0) 0 0 8)) (va_cpy (LL_decay (ly (1 : Fin 2))) (LL_decay lY0) 0 0 8)) (va_cpy (LL_pumpChamber (ly (1 : Fin 2))) (LL_pumpChamber lY0) 0 0 6)) (va_cpy (LL_exhaust (ly (1 : Fin 2))) (LL_exhaust lY0) 0 0 6)) (va_cpy (LL_speed (ly (1 : Fin 2))) (LL_speed lY0) 0 0 6)) (va_cpy (LL_low (ly (1 : Fin 2))) (LL_low lY0) 0 0 6)) (va_cpy (LL_high (ly (1 : Fin 2))) (LL_high lY0) 0 0 6)) (va_cpy (LL_backing (ly (1 : Fin 2))) (LL_backing lY0) 0 0 6)) (va_cpy (LL_valveChamber (ly (1 : Fin 2))) (LL_valveChamber lY0) 0 0 10)) (va_cpy (LL_otherSide (ly (1 : Fin 2))) (LL_otherSide lY0) 0 0 10)) (va_cpy (LL_conductance (ly (1 : Fin 2))) (LL_conductance lY0) 0 0 10)) (va_cpy (LL_firstRule (ly (1 : Fin 2))) (LL_firstRule lY0) 0 0 10)) (va_cpy (LL_flangeChamber (ly (1 : Fin 2))) (LL_flangeChamber lY0) 0 0 24)) (va_cpy (LL_firstLeak (ly (1 : Fin 2))) (LL_firstLeak lY0) 0 0 24))) rc hn rp tp ee st) lkX1_70 _ _ (a_lay_firstLeak (1 : Fin 2)) (heI (a_lay1_firstLeak (0 : Fin 2) _) ((LL_firstLeak_set_flangeChamber _ _).trans ((LL_firstLeak_set_firstRule _ _).trans ((LL_firstLeak_set_conductance _ _).trans ((LL_firstLeak_set_otherSide _ _).trans ((LL_firstLeak_set_valveChamber _ _).trans ((LL_firstLeak_set_backing _ _).trans ((LL_firstLeak_set_high _ _).trans ((LL_firstLeak_set_low _ _).trans ((LL_firstLeak_set_speed _ _).trans ((LL_firstLeak_set_exhaust _ _).trans ((LL_firstLeak_set_pumpChamber _ _).trans ((LL_firstLeak_set_decay _ _).trans ((LL_firstLeak_set_firstOutgassing _ _).trans ((LL_firstLeak_set_volume _ _).trans ((LL_firstLeak_set_flanges _ _).trans ((LL_firstLeak_set_valves _ _).trans ((LL_firstLeak_set_pumps _ _).trans (LL_firstLeak_set_chambers _ _))))))))))))))))))) (by decide) (by decide) (Nat.le_of_ble_eq_true rfl) (Nat.le_of_ble_eq_true rfl) (s_lay_firstLeak (0 : Fin 2) (LL_set_flangeChamber (LL_set_firstRule (LL_set_conductance (LL_set_otherSide (LL_set_valveChamber (LL_set_backing (LL_set_high (LL_set_low (LL_set_speed (LL_set_exhaust (LL_set_pumpChamber (LL_set_decay (LL_set_firstOutgassing (LL_set_volume (LL_set_flanges (LL_set_valves (LL_set_pumps (LL_set_chambers lY0 (LL_chambers (ly (1 : Fin 2)))) (LL_pumps (ly (1 : Fin 2)))) (LL_valves (ly (1 : Fin 2)))) (LL_flanges (ly (1 : Fin 2)))) (va_cpy (LL_volume (ly (1 : Fin 2))) (LL_volume lY0) 0 0 8)) (va_cpy (LL_firstOutgassing (ly (1 : Fin 2))) (LL_firstOutgassing lY0) 0 0 8)) (va_cpy (LL_decay (ly (1 : Fin 2))) (LL_decay lY0) 0 0 8)) (va_cpy (LL_pumpChamber (ly (1 : Fin 2))) (LL_pumpChamber lY0) 0 0 6)) (va_cpy (LL_exhaust (ly (1 : Fin 2))) (LL_exhaust lY0) 0 0 6)) (va_cpy (LL_speed (ly (1 : Fin 2))) (LL_speed lY0) 0 0 6)) (va_cpy (LL_low (ly (1 : Fin 2))) (LL_low lY0) 0 0 6)) (va_cpy (LL_high (ly (1 : Fin 2))) (LL_high lY0) 0 0 6)) (va_cpy (LL_backing (ly (1 : Fin 2))) (LL_backing lY0) 0 0 6)) (va_cpy (LL_valveChamber (ly (1 : Fin 2))) (LL_valveChamber lY0) 0 0 10)) (va_cpy (LL_otherSide (ly (1 : Fin 2))) (LL_otherSide lY0) 0 0 10)) (va_cpy (LL_conductance (ly (1 : Fin 2))) (LL_conductance lY0) 0 0 10)) (va_cpy (LL_firstRule (ly (1 : Fin 2))) (LL_firstRule lY0) 0 0 10)) (va_cpy (LL_flangeChamber (ly (1 : Fin 2))) (LL_flangeChamber lY0) 0 0 24)) (va_cpy (LL_firstLeak (ly (1 : Fin 2))) (LL_firstLeak lY0) 0 0 24)) rfl (cpR (Nat.le_of_ble_eq_true rfl) (Nat.le_of_ble_eq_true rfl)) dX1_copyFrom_254 ?_
  obtain rfl := Option.some.inj hf
  exact r_return X hQ rfl rfl (Nat.le_of_ble_eq_true rfl) (Nat.le_of_ble_eq_true rfl) dX1_copyFrom_257
set_option maxRecDepth 100000 in
set_option maxHeartbeats 4000000 in
theorem K1_hasChamber {k : KT} {T : TT} {R : RR} {ly : Fin 2 → LL} {rc : RC} {hn : HN} {rp : RP} {tp : TP} {ee : EE} {st : Fin 12 → SS} {i : Fin 2}  {x1 : Int32} {r : Int32} (hf : f1_hasChamber (ly i)  x1 = some r) : CT k strs yX1_hasChamber cX1_hasChamber 2 (some .boolean) (rmD 0 0 0) 0 0 [.ref (k.b + (4 + 17 * i.val)), .int x1] (wAll k T R ly rc hn rp tp ee st) (some (.int r)) (wAll k T R ly rc hn rp tp ee st) := by
  refine CT.of (by decide) (Nat.le_of_ble_eq_true rfl) ?_
  intro z X hQ
  show VW k z 0 0 (wAll k T R ly rc hn rp tp ee st) 0 [some (.ref (k.b + (4 + 17 * i.val))), some (.int x1)] []
  unfold f1_hasChamber at hf
  refine r_iload_n X (x := x1) dX1_hasChamber_0 rfl ?_
  refine r_if_lt X 16 dX1_hasChamber_1 rfl (fun c1 => ?_) (fun c1 => ?_)
  · replace hf := ifT hf c1
    refine r_iconst X (v := 0) dX1_hasChamber_16 rfl ?_
    obtain rfl := Option.some.inj hf
    exact r_zreturn X hQ rfl rfl (Nat.le_of_ble_eq_true rfl) (Nat.le_of_ble_eq_true rfl) rfl dX1_hasChamber_17
  · replace hf := ifF hf c1
    refine r_iload_n X (x := x1) dX1_hasChamber_4 rfl ?_
    refine r_aload_n X (x := k.b + (4 + 17 * i.val)) dX1_hasChamber_5 rfl ?_
    refine r_getfield X (v := .int (LL_chambers (ly i))) clsX1 flX1_9 (Nat.le_of_ble_eq_true rfl) _ (o_lay i) rfl dX1_hasChamber_6 ?_
    refine r_icmp_ge X 16 dX1_hasChamber_9 rfl (fun c9 => ?_) (fun c9 => ?_)
    · replace hf := ifT hf c9
      refine r_iconst X (v := 0) dX1_hasChamber_16 rfl ?_
      obtain rfl := Option.some.inj hf
      exact r_zreturn X hQ rfl rfl (Nat.le_of_ble_eq_true rfl) (Nat.le_of_ble_eq_true rfl) rfl dX1_hasChamber_17
    · replace hf := ifF hf c9
      refine r_iconst X (v := 1) dX1_hasChamber_12 rfl ?_
      refine r_goto X 17 dX1_hasChamber_13 rfl ?_
      obtain rfl := Option.some.inj hf
      exact r_zreturn X hQ rfl rfl (Nat.le_of_ble_eq_true rfl) (Nat.le_of_ble_eq_true rfl) rfl dX1_hasChamber_17
set_option maxRecDepth 100000 in
set_option maxHeartbeats 4000000 in
theorem K1_hasPump {k : KT} {T : TT} {R : RR} {ly : Fin 2 → LL} {rc : RC} {hn : HN} {rp : RP} {tp : TP} {ee : EE} {st : Fin 12 → SS} {i : Fin 2}  {x1 : Int32} {r : Int32} (hf : f1_hasPump (ly i)  x1 = some r) : CT k strs yX1_hasPump cX1_hasPump 2 (some .boolean) (rmD 0 0 0) 0 0 [.ref (k.b + (4 + 17 * i.val)), .int x1] (wAll k T R ly rc hn rp tp ee st) (some (.int r)) (wAll k T R ly rc hn rp tp ee st) := by
  refine CT.of (by decide) (Nat.le_of_ble_eq_true rfl) ?_
  intro z X hQ
  show VW k z 0 0 (wAll k T R ly rc hn rp tp ee st) 0 [some (.ref (k.b + (4 + 17 * i.val))), some (.int x1)] []
  unfold f1_hasPump at hf
  refine r_iload_n X (x := x1) dX1_hasPump_0 rfl ?_
  refine r_if_lt X 16 dX1_hasPump_1 rfl (fun c1 => ?_) (fun c1 => ?_)
  · replace hf := ifT hf c1
    refine r_iconst X (v := 0) dX1_hasPump_16 rfl ?_
    obtain rfl := Option.some.inj hf
    exact r_zreturn X hQ rfl rfl (Nat.le_of_ble_eq_true rfl) (Nat.le_of_ble_eq_true rfl) rfl dX1_hasPump_17
  · replace hf := ifF hf c1
    refine r_iload_n X (x := x1) dX1_hasPump_4 rfl ?_
    refine r_aload_n X (x := k.b + (4 + 17 * i.val)) dX1_hasPump_5 rfl ?_
    refine r_getfield X (v := .int (LL_pumps (ly i))) clsX1 flX1_15 (Nat.le_of_ble_eq_true rfl) _ (o_lay i) rfl dX1_hasPump_6 ?_
    refine r_icmp_ge X 16 dX1_hasPump_9 rfl (fun c9 => ?_) (fun c9 => ?_)
    · replace hf := ifT hf c9
      refine r_iconst X (v := 0) dX1_hasPump_16 rfl ?_
      obtain rfl := Option.some.inj hf
      exact r_zreturn X hQ rfl rfl (Nat.le_of_ble_eq_true rfl) (Nat.le_of_ble_eq_true rfl) rfl dX1_hasPump_17
    · replace hf := ifF hf c9
      refine r_iconst X (v := 1) dX1_hasPump_12 rfl ?_
      refine r_goto X 17 dX1_hasPump_13 rfl ?_
      obtain rfl := Option.some.inj hf
      exact r_zreturn X hQ rfl rfl (Nat.le_of_ble_eq_true rfl) (Nat.le_of_ble_eq_true rfl) rfl dX1_hasPump_17
set_option maxRecDepth 100000 in
set_option maxHeartbeats 4000000 in
theorem K1_hasValve {k : KT} {T : TT} {R : RR} {ly : Fin 2 → LL} {rc : RC} {hn : HN} {rp : RP} {tp : TP} {ee : EE} {st : Fin 12 → SS} {i : Fin 2}  {x1 : Int32} {r : Int32} (hf : f1_hasValve (ly i)  x1 = some r) : CT k strs yX1_hasValve cX1_hasValve 2 (some .boolean) (rmD 0 0 0) 0 0 [.ref (k.b + (4 + 17 * i.val)), .int x1] (wAll k T R ly rc hn rp tp ee st) (some (.int r)) (wAll k T R ly rc hn rp tp ee st) := by
  refine CT.of (by decide) (Nat.le_of_ble_eq_true rfl) ?_
  intro z X hQ
  show VW k z 0 0 (wAll k T R ly rc hn rp tp ee st) 0 [some (.ref (k.b + (4 + 17 * i.val))), some (.int x1)] []
  unfold f1_hasValve at hf
  refine r_iload_n X (x := x1) dX1_hasValve_0 rfl ?_
  refine r_if_lt X 16 dX1_hasValve_1 rfl (fun c1 => ?_) (fun c1 => ?_)
  · replace hf := ifT hf c1
    refine r_iconst X (v := 0) dX1_hasValve_16 rfl ?_
    obtain rfl := Option.some.inj hf
    exact r_zreturn X hQ rfl rfl (Nat.le_of_ble_eq_true rfl) (Nat.le_of_ble_eq_true rfl) rfl dX1_hasValve_17
  · replace hf := ifF hf c1
    refine r_iload_n X (x := x1) dX1_hasValve_4 rfl ?_
    refine r_aload_n X (x := k.b + (4 + 17 * i.val)) dX1_hasValve_5 rfl ?_
    refine r_getfield X (v := .int (LL_valves (ly i))) clsX1 flX1_18 (Nat.le_of_ble_eq_true rfl) _ (o_lay i) rfl dX1_hasValve_6 ?_
    refine r_icmp_ge X 16 dX1_hasValve_9 rfl (fun c9 => ?_) (fun c9 => ?_)
    · replace hf := ifT hf c9
      refine r_iconst X (v := 0) dX1_hasValve_16 rfl ?_
      obtain rfl := Option.some.inj hf
      exact r_zreturn X hQ rfl rfl (Nat.le_of_ble_eq_true rfl) (Nat.le_of_ble_eq_true rfl) rfl dX1_hasValve_17
    · replace hf := ifF hf c9
      refine r_iconst X (v := 1) dX1_hasValve_12 rfl ?_
      refine r_goto X 17 dX1_hasValve_13 rfl ?_
      obtain rfl := Option.some.inj hf
      exact r_zreturn X hQ rfl rfl (Nat.le_of_ble_eq_true rfl) (Nat.le_of_ble_eq_true rfl) rfl dX1_hasValve_17
set_option maxRecDepth 100000 in
set_option maxHeartbeats 4000000 in
theorem K1_hasFlange {k : KT} {T : TT} {R : RR} {ly : Fin 2 → LL} {rc : RC} {hn : HN} {rp : RP} {tp : TP} {ee : EE} {st : Fin 12 → SS} {i : Fin 2}  {x1 : Int32} {r : Int32} (hf : f1_hasFlange (ly i)  x1 = some r) : CT k strs yX1_hasFlange cX1_hasFlange 2 (some .boolean) (rmD 0 0 0) 0 0 [.ref (k.b + (4 + 17 * i.val)), .int x1] (wAll k T R ly rc hn rp tp ee st) (some (.int r)) (wAll k T R ly rc hn rp tp ee st) := by
  refine CT.of (by decide) (Nat.le_of_ble_eq_true rfl) ?_
  intro z X hQ
  show VW k z 0 0 (wAll k T R ly rc hn rp tp ee st) 0 [some (.ref (k.b + (4 + 17 * i.val))), some (.int x1)] []
  unfold f1_hasFlange at hf
  refine r_iload_n X (x := x1) dX1_hasFlange_0 rfl ?_
  refine r_if_lt X 16 dX1_hasFlange_1 rfl (fun c1 => ?_) (fun c1 => ?_)
  · replace hf := ifT hf c1
    refine r_iconst X (v := 0) dX1_hasFlange_16 rfl ?_
    obtain rfl := Option.some.inj hf
    exact r_zreturn X hQ rfl rfl (Nat.le_of_ble_eq_true rfl) (Nat.le_of_ble_eq_true rfl) rfl dX1_hasFlange_17
  · replace hf := ifF hf c1
    refine r_iload_n X (x := x1) dX1_hasFlange_4 rfl ?_
    refine r_aload_n X (x := k.b + (4 + 17 * i.val)) dX1_hasFlange_5 rfl ?_
    refine r_getfield X (v := .int (LL_flanges (ly i))) clsX1 flX1_21 (Nat.le_of_ble_eq_true rfl) _ (o_lay i) rfl dX1_hasFlange_6 ?_
    refine r_icmp_ge X 16 dX1_hasFlange_9 rfl (fun c9 => ?_) (fun c9 => ?_)
    · replace hf := ifT hf c9
      refine r_iconst X (v := 0) dX1_hasFlange_16 rfl ?_
      obtain rfl := Option.some.inj hf
      exact r_zreturn X hQ rfl rfl (Nat.le_of_ble_eq_true rfl) (Nat.le_of_ble_eq_true rfl) rfl dX1_hasFlange_17
    · replace hf := ifF hf c9
      refine r_iconst X (v := 1) dX1_hasFlange_12 rfl ?_
      refine r_goto X 17 dX1_hasFlange_13 rfl ?_
      obtain rfl := Option.some.inj hf
      exact r_zreturn X hQ rfl rfl (Nat.le_of_ble_eq_true rfl) (Nat.le_of_ble_eq_true rfl) rfl dX1_hasFlange_17
set_option maxRecDepth 100000 in
set_option maxHeartbeats 4000000 in
theorem K1_allValves {k : KT} {T : TT} {R : RR} {ly : Fin 2 → LL} {rc : RC} {hn : HN} {rp : RP} {tp : TP} {ee : EE} {st : Fin 12 → SS} {i : Fin 2}   {r : Int32} (hf : f1_allValves (ly i)   = some r) : CT k strs yX1_allValves cX1_allValves 1 (some .int) (rmD 0 0 0) 0 0 [.ref (k.b + (4 + 17 * i.val))] (wAll k T R ly rc hn rp tp ee st) (some (.int r)) (wAll k T R ly rc hn rp tp ee st) := by
  refine CT.of (by decide) (Nat.le_of_ble_eq_true rfl) ?_
  intro z X hQ
  show VW k z 0 0 (wAll k T R ly rc hn rp tp ee st) 0 [some (.ref (k.b + (4 + 17 * i.val)))] []
  unfold f1_allValves at hf
  refine r_iconst X (v := 1) dX1_allValves_0 rfl ?_
  refine r_aload_n X (x := k.b + (4 + 17 * i.val)) dX1_allValves_1 rfl ?_
  refine r_getfield X (v := .int (LL_valves (ly i))) clsX1 flX1_18 (Nat.le_of_ble_eq_true rfl) _ (o_lay i) rfl dX1_allValves_2 ?_
  refine r_ishl X dX1_allValves_5 ?_
  refine r_iconst X (v := 1) dX1_allValves_6 rfl ?_
  refine r_isub X dX1_allValves_7 ?_
  obtain rfl := Option.some.inj hf
  exact r_ireturn X hQ rfl rfl (Nat.le_of_ble_eq_true rfl) (Nat.le_of_ble_eq_true rfl) dX1_allValves_8
set_option maxRecDepth 100000 in
set_option maxHeartbeats 4000000 in
theorem K1_allFlanges {k : KT} {T : TT} {R : RR} {ly : Fin 2 → LL} {rc : RC} {hn : HN} {rp : RP} {tp : TP} {ee : EE} {st : Fin 12 → SS} {i : Fin 2}   {r : Int32} (hf : f1_allFlanges (ly i)   = some r) : CT k strs yX1_allFlanges cX1_allFlanges 1 (some .int) (rmD 0 0 0) 0 0 [.ref (k.b + (4 + 17 * i.val))] (wAll k T R ly rc hn rp tp ee st) (some (.int r)) (wAll k T R ly rc hn rp tp ee st) := by
  refine CT.of (by decide) (Nat.le_of_ble_eq_true rfl) ?_
  intro z X hQ
  show VW k z 0 0 (wAll k T R ly rc hn rp tp ee st) 0 [some (.ref (k.b + (4 + 17 * i.val)))] []
  unfold f1_allFlanges at hf
  refine r_iconst X (v := 1) dX1_allFlanges_0 rfl ?_
  refine r_aload_n X (x := k.b + (4 + 17 * i.val)) dX1_allFlanges_1 rfl ?_
  refine r_getfield X (v := .int (LL_flanges (ly i))) clsX1 flX1_21 (Nat.le_of_ble_eq_true rfl) _ (o_lay i) rfl dX1_allFlanges_2 ?_
  refine r_ishl X dX1_allFlanges_5 ?_
  refine r_iconst X (v := 1) dX1_allFlanges_6 rfl ?_
  refine r_isub X dX1_allFlanges_7 ?_
  obtain rfl := Option.some.inj hf
  exact r_ireturn X hQ rfl rfl (Nat.le_of_ble_eq_true rfl) (Nat.le_of_ble_eq_true rfl) dX1_allFlanges_8
set_option maxRecDepth 100000 in
set_option maxHeartbeats 4000000 in
theorem B1_valvesOf_B32 {k : KT} {z : ZT} {T : TT} {R : RR} {ly : Fin 2 → LL} {rc : RC} {hn : HN} {rp : RP} {tp : TP} {ee : EE} {st : Fin 12 → SS} {i : Fin 2} {r : Int32} (X : XX k strs z RX1 cX1_valvesOf 4 (some .int) (rmD 0 0 0)) (hQ : zQ z = MQ (zB z) (Qof k (some (.int r)) (wAll k T R ly rc hn rp tp ee st)) (zA z) (zS z) 0 0 (kA k)) (rec : Int32 → Int32 → Int32 → Option (Int32)) (hrec : ∀ (x1 : Int32) (x2 : Int32) (x3 : Int32), rec x1 x2 x3 = some r → VW k z 0 0 (wAll k T R ly rc hn rp tp ee st) 4 [some (.ref (k.b + (4 + 17 * i.val))), some (.int x1), some (.int x2), some (.int x3)] []) (x1 : Int32) (x2 : Int32) (x3 : Int32) (hf : f1_valvesOf_B32 (ly i) rec x1 x2 x3 = some r) : VW k z 0 0 (wAll k T R ly rc hn rp tp ee st) 32 [some (.ref (k.b + (4 + 17 * i.val))), some (.int x1), some (.int x2), some (.int x3)] [] := by
  unfold f1_valvesOf_B32 at hf
  refine r_iload_n X (x := x2) dX1_valvesOf_32 rfl ?_
  refine r_iconst X (v := 1) dX1_valvesOf_33 rfl ?_
  refine r_iload_n X (x := x3) dX1_valvesOf_34 rfl ?_
  refine r_ishl X dX1_valvesOf_35 ?_
  refine r_ior X dX1_valvesOf_36 ?_
  refine r_istore_n X [some (.ref (k.b + (4 + 17 * i.val))), some (.int x1), some (.int (x2 ||| (1 <<< (x3 &&& 31)))), some (.int x3)] dX1_valvesOf_37 (Nat.le_of_ble_eq_true rfl) rfl ?_
  refine r_iinc X (x := x3) (v := x3 + 1) [some (.ref (k.b + (4 + 17 * i.val))), some (.int x1), some (.int (x2 ||| (1 <<< (x3 &&& 31)))), some (.int (x3 + 1))] dX1_valvesOf_38 rfl rfl rfl ?_
  refine r_goto X 4 dX1_valvesOf_41 rfl ?_
  exact hrec x1 (x2 ||| (1 <<< (x3 &&& 31))) (x3 + 1) hf
set_option maxRecDepth 100000 in
set_option maxHeartbeats 4000000 in
theorem B1_valvesOf_B4 {k : KT} {z : ZT} {T : TT} {R : RR} {ly : Fin 2 → LL} {rc : RC} {hn : HN} {rp : RP} {tp : TP} {ee : EE} {st : Fin 12 → SS} {i : Fin 2} {r : Int32} (X : XX k strs z RX1 cX1_valvesOf 4 (some .int) (rmD 0 0 0)) (hQ : zQ z = MQ (zB z) (Qof k (some (.int r)) (wAll k T R ly rc hn rp tp ee st)) (zA z) (zS z) 0 0 (kA k)) : ∀ (fu : Nat) (x1 : Int32) (x2 : Int32) (x3 : Int32), f1_valvesOf_B4 (ly i) fu x1 x2 x3 = some r → VW k z 0 0 (wAll k T R ly rc hn rp tp ee st) 4 [some (.ref (k.b + (4 + 17 * i.val))), some (.int x1), some (.int x2), some (.int x3)] [] := by
  intro fu
  induction fu with
  | zero =>
    intro x1 x2 x3 hf
    rw [f1_valvesOf_B4] at hf
    cases hf
  | succ fu ih =>
    intro x1 x2 x3 hf
    rw [f1_valvesOf_B4] at hf
    refine r_iload_n X (x := x3) dX1_valvesOf_4 rfl ?_
    refine r_aload_n X (x := k.b + (4 + 17 * i.val)) dX1_valvesOf_5 rfl ?_
    refine r_getfield X (v := .int (LL_valves (ly i))) clsX1 flX1_18 (Nat.le_of_ble_eq_true rfl) _ (o_lay i) rfl dX1_valvesOf_6 ?_
    refine r_icmp_ge X 44 dX1_valvesOf_9 rfl (fun c9 => ?_) (fun c9 => ?_)
    · replace hf := ifT hf c9
      refine r_iload_n X (x := x2) dX1_valvesOf_44 rfl ?_
      obtain rfl := Option.some.inj hf
      exact r_ireturn X hQ rfl rfl (Nat.le_of_ble_eq_true rfl) (Nat.le_of_ble_eq_true rfl) dX1_valvesOf_45
    · replace hf := ifF hf c9
      refine r_aload_n X (x := k.b + (4 + 17 * i.val)) dX1_valvesOf_12 rfl ?_
      refine r_getfield X (v := .ref (k.b + (4 + 17 * i.val + 10))) clsX1 flX1_52 (Nat.le_of_ble_eq_true rfl) _ (o_lay i) rfl dX1_valvesOf_13 ?_
      refine r_iload_n X (x := x3) dX1_valvesOf_16 rfl ?_
      obtain ⟨g17, hf⟩ := gdS hf
      refine r_iaload X (f := LL_valveChamber (ly i)) _ (a_lay_valveChamber i) g17 dX1_valvesOf_17 ?_
      refine r_iload_n X (x := x1) dX1_valvesOf_18 rfl ?_
      refine r_icmp_eq X 32 dX1_valvesOf_19 rfl (fun c19 => ?_) (fun c19 => ?_)
      · replace hf := ifT hf c19
        exact B1_valvesOf_B32 X hQ (f1_valvesOf_B4 (ly i) fu) ih x1 x2 x3 hf
      · replace hf := ifF hf c19
        refine r_aload_n X (x := k.b + (4 + 17 * i.val)) dX1_valvesOf_22 rfl ?_
        refine r_getfield X (v := .ref (k.b + (4 + 17 * i.val + 11))) clsX1 flX1_55 (Nat.le_of_ble_eq_true rfl) _ (o_lay i) rfl dX1_valvesOf_23 ?_
        refine r_iload_n X (x := x3) dX1_valvesOf_26 rfl ?_
        refine r_iaload X (f := LL_otherSide (ly i)) _ (a_lay_otherSide i) g17 dX1_valvesOf_27 ?_
        refine r_iload_n X (x := x1) dX1_valvesOf_28 rfl ?_
        refine r_icmp_ne X 38 dX1_valvesOf_29 rfl (fun c29 => ?_) (fun c29 => ?_)
        · replace hf := ifF hf c29
          refine r_iinc X (x := x3) (v := x3 + 1) [some (.ref (k.b + (4 + 17 * i.val))), some (.int x1), some (.int x2), some (.int (x3 + 1))] dX1_valvesOf_38 rfl rfl rfl ?_
          refine r_goto X 4 dX1_valvesOf_41 rfl ?_
          exact ih x1 x2 (x3 + 1) hf
        · replace hf := ifT hf c29
          exact B1_valvesOf_B32 X hQ (f1_valvesOf_B4 (ly i) fu) ih x1 x2 x3 hf
set_option maxRecDepth 100000 in
set_option maxHeartbeats 4000000 in
theorem K1_valvesOf {k : KT} {T : TT} {R : RR} {ly : Fin 2 → LL} {rc : RC} {hn : HN} {rp : RP} {tp : TP} {ee : EE} {st : Fin 12 → SS} {i : Fin 2}  {x1 : Int32} {r : Int32} (hf : f1_valvesOf (ly i)  x1 = some r) : CT k strs yX1_valvesOf cX1_valvesOf 4 (some .int) (rmD 0 0 0) 0 0 [.ref (k.b + (4 + 17 * i.val)), .int x1] (wAll k T R ly rc hn rp tp ee st) (some (.int r)) (wAll k T R ly rc hn rp tp ee st) := by
  refine CT.of (by decide) (Nat.le_of_ble_eq_true rfl) ?_
  intro z X hQ
  show VW k z 0 0 (wAll k T R ly rc hn rp tp ee st) 0 [some (.ref (k.b + (4 + 17 * i.val))), some (.int x1), none, none] []
  unfold f1_valvesOf at hf
  refine r_iconst X (v := 0) dX1_valvesOf_0 rfl ?_
  refine r_istore_n X [some (.ref (k.b + (4 + 17 * i.val))), some (.int x1), some (.int 0), none] dX1_valvesOf_1 (Nat.le_of_ble_eq_true rfl) rfl ?_
  refine r_iconst X (v := 0) dX1_valvesOf_2 rfl ?_
  refine r_istore_n X [some (.ref (k.b + (4 + 17 * i.val))), some (.int x1), some (.int 0), some (.int 0)] dX1_valvesOf_3 (Nat.le_of_ble_eq_true rfl) rfl ?_
  exact B1_valvesOf_B4 X hQ FU x1 0 0 hf
set_option maxRecDepth 100000 in
set_option maxHeartbeats 4000000 in
theorem B1_pumpsOf_B4 {k : KT} {z : ZT} {T : TT} {R : RR} {ly : Fin 2 → LL} {rc : RC} {hn : HN} {rp : RP} {tp : TP} {ee : EE} {st : Fin 12 → SS} {i : Fin 2} {r : Int32} (X : XX k strs z RX1 cX1_pumpsOf 4 (some .int) (rmD 0 0 0)) (hQ : zQ z = MQ (zB z) (Qof k (some (.int r)) (wAll k T R ly rc hn rp tp ee st)) (zA z) (zS z) 0 0 (kA k)) : ∀ (fu : Nat) (x1 : Int32) (x2 : Int32) (x3 : Int32), f1_pumpsOf_B4 (ly i) fu x1 x2 x3 = some r → VW k z 0 0 (wAll k T R ly rc hn rp tp ee st) 4 [some (.ref (k.b + (4 + 17 * i.val))), some (.int x1), some (.int x2), some (.int x3)] [] := by
  intro fu
  induction fu with
  | zero =>
    intro x1 x2 x3 hf
    rw [f1_pumpsOf_B4] at hf
    cases hf
  | succ fu ih =>
    intro x1 x2 x3 hf
    rw [f1_pumpsOf_B4] at hf
    refine r_iload_n X (x := x3) dX1_pumpsOf_4 rfl ?_
    refine r_aload_n X (x := k.b + (4 + 17 * i.val)) dX1_pumpsOf_5 rfl ?_
    refine r_getfield X (v := .int (LL_pumps (ly i))) clsX1 flX1_15 (Nat.le_of_ble_eq_true rfl) _ (o_lay i) rfl dX1_pumpsOf_6 ?_
    refine r_icmp_ge X 34 dX1_pumpsOf_9 rfl (fun c9 => ?_) (fun c9 => ?_)
    · replace hf := ifT hf c9
      refine r_iload_n X (x := x2) dX1_pumpsOf_34 rfl ?_
      obtain rfl := Option.some.inj hf
      exact r_ireturn X hQ rfl rfl (Nat.le_of_ble_eq_true rfl) (Nat.le_of_ble_eq_true rfl) dX1_pumpsOf_35
    · replace hf := ifF hf c9
      refine r_aload_n X (x := k.b + (4 + 17 * i.val)) dX1_pumpsOf_12 rfl ?_
      refine r_getfield X (v := .ref (k.b + (4 + 17 * i.val + 4))) clsX1 flX1_34 (Nat.le_of_ble_eq_true rfl) _ (o_lay i) rfl dX1_pumpsOf_13 ?_
      refine r_iload_n X (x := x3) dX1_pumpsOf_16 rfl ?_
      obtain ⟨g17, hf⟩ := gdS hf
      refine r_iaload X (f := LL_pumpChamber (ly i)) _ (a_lay_pumpChamber i) g17 dX1_pumpsOf_17 ?_
      refine r_iload_n X (x := x1) dX1_pumpsOf_18 rfl ?_
      refine r_icmp_ne X 28 dX1_pumpsOf_19 rfl (fun c19 => ?_) (fun c19 => ?_)
      · replace hf := ifF hf c19
        refine r_iinc X (x := x3) (v := x3 + 1) [some (.ref (k.b + (4 + 17 * i.val))), some (.int x1), some (.int x2), some (.int (x3 + 1))] dX1_pumpsOf_28 rfl rfl rfl ?_
        refine r_goto X 4 dX1_pumpsOf_31 rfl ?_
        exact ih x1 x2 (x3 + 1) hf
      · replace hf := ifT hf c19
        refine r_iload_n X (x := x2) dX1_pumpsOf_22 rfl ?_
        refine r_iconst X (v := 1) dX1_pumpsOf_23 rfl ?_
        refine r_iload_n X (x := x3) dX1_pumpsOf_24 rfl ?_
        refine r_ishl X dX1_pumpsOf_25 ?_
        refine r_ior X dX1_pumpsOf_26 ?_
        refine r_istore_n X [some (.ref (k.b + (4 + 17 * i.val))), some (.int x1), some (.int (x2 ||| (1 <<< (x3 &&& 31)))), some (.int x3)] dX1_pumpsOf_27 (Nat.le_of_ble_eq_true rfl) rfl ?_
        refine r_iinc X (x := x3) (v := x3 + 1) [some (.ref (k.b + (4 + 17 * i.val))), some (.int x1), some (.int (x2 ||| (1 <<< (x3 &&& 31)))), some (.int (x3 + 1))] dX1_pumpsOf_28 rfl rfl rfl ?_
        refine r_goto X 4 dX1_pumpsOf_31 rfl ?_
        exact ih x1 (x2 ||| (1 <<< (x3 &&& 31))) (x3 + 1) hf
set_option maxRecDepth 100000 in
set_option maxHeartbeats 4000000 in
theorem K1_pumpsOf {k : KT} {T : TT} {R : RR} {ly : Fin 2 → LL} {rc : RC} {hn : HN} {rp : RP} {tp : TP} {ee : EE} {st : Fin 12 → SS} {i : Fin 2}  {x1 : Int32} {r : Int32} (hf : f1_pumpsOf (ly i)  x1 = some r) : CT k strs yX1_pumpsOf cX1_pumpsOf 4 (some .int) (rmD 0 0 0) 0 0 [.ref (k.b + (4 + 17 * i.val)), .int x1] (wAll k T R ly rc hn rp tp ee st) (some (.int r)) (wAll k T R ly rc hn rp tp ee st) := by
  refine CT.of (by decide) (Nat.le_of_ble_eq_true rfl) ?_
  intro z X hQ
  show VW k z 0 0 (wAll k T R ly rc hn rp tp ee st) 0 [some (.ref (k.b + (4 + 17 * i.val))), some (.int x1), none, none] []
  unfold f1_pumpsOf at hf
  refine r_iconst X (v := 0) dX1_pumpsOf_0 rfl ?_
  refine r_istore_n X [some (.ref (k.b + (4 + 17 * i.val))), some (.int x1), some (.int 0), none] dX1_pumpsOf_1 (Nat.le_of_ble_eq_true rfl) rfl ?_
  refine r_iconst X (v := 0) dX1_pumpsOf_2 rfl ?_
  refine r_istore_n X [some (.ref (k.b + (4 + 17 * i.val))), some (.int x1), some (.int 0), some (.int 0)] dX1_pumpsOf_3 (Nat.le_of_ble_eq_true rfl) rfl ?_
  exact B1_pumpsOf_B4 X hQ FU x1 0 0 hf
set_option maxRecDepth 100000 in
set_option maxHeartbeats 4000000 in
theorem K9_has {k : KT} {T : TT} {R : RR} {ly : Fin 2 → LL} {rc : RC} {hn : HN} {rp : RP} {tp : TP} {ee : EE} {st : Fin 12 → SS}  {x0 : Int32} {x1 : Int32} {r : Int32} (hf : f9_has   x0 x1 = some r) : CT k strs yX9_has cX9_has 2 (some .boolean) (rmD 0 0 0) 0 0 [.int x0, .int x1] (wAll k T R ly rc hn rp tp ee st) (some (.int r)) (wAll k T R ly rc hn rp tp ee st) := by
  refine CT.of (by decide) (Nat.le_of_ble_eq_true rfl) ?_
  intro z X hQ
  show VW k z 0 0 (wAll k T R ly rc hn rp tp ee st) 0 [some (.int x0), some (.int x1)] []
  unfold f9_has at hf
  refine r_iload_n X (x := x0) dX9_has_0 rfl ?_
  refine r_iload_n X (x := x1) dX9_has_1 rfl ?_
  refine r_ishr X dX9_has_2 ?_
  refine r_iconst X (v := 1) dX9_has_3 rfl ?_
  refine r_iand X dX9_has_4 ?_
  suffices K5 : VW k z 0 0 (wAll k T R ly rc hn rp tp ee st) 13 [some (.int x0), some (.int x1)] [.int (if ((x0 >>> (x1 &&& 31)) &&& 1) = 0 then (0 : Int32) else (1 : Int32))] by
    refine r_if_eq X 12 dX9_has_5 rfl (fun c5 => ?_) (fun c5 => ?_)
    · refine r_iconst X (v := 0) dX9_has_12 rfl ?_
      rw [if_pos c5] at K5
      exact K5
    · refine r_iconst X (v := 1) dX9_has_8 rfl ?_
      refine r_goto X 13 dX9_has_9 rfl ?_
      rw [if_neg c5] at K5
      exact K5
  obtain rfl := Option.some.inj hf
  exact r_zreturn X hQ rfl rfl (Nat.le_of_ble_eq_true rfl) (Nat.le_of_ble_eq_true rfl) nb_if0 dX9_has_13
set_option maxRecDepth 100000 in
set_option maxHeartbeats 4000000 in
theorem B1_grown_B52 {k : KT} {z : ZT} {T : TT} {R : RR} {ly : Fin 2 → LL} {rc : RC} {hn : HN} {rp : RP} {tp : TP} {ee : EE} {st : Fin 12 → SS} {i : Fin 2} {r : Int32} (X : XX k strs z RX1 cX1_grown 5 (some .int) (rmD 1 0 0)) (hQ : zQ z = MQ (zB z) (Qof k (some (.int r)) (wAll k T R ly rc hn rp tp ee st)) (zA z) (zS z) 0 0 (kA k)) (rec : Int32 → Int32 → Int32 → Int32 → Option (Int32)) (hrec : ∀ (x1 : Int32) (x2 : Int32) (x3 : Int32) (x4 : Int32), rec x1 x2 x3 x4 = some r → VW k z 0 0 (wAll k T R ly rc hn rp tp ee st) 5 [some (.ref (k.b + (4 + 17 * i.val))), some (.int x1), some (.int x2), some (.int x3), some (.int x4)] []) (x1 : Int32) (x2 : Int32) (x3 : Int32) (x4 : Int32) (hf : f1_grown_B52 (ly i) rec x1 x2 x3 x4 = some r) : VW k z 0 0 (wAll k T R ly rc hn rp tp ee st) 52 [some (.ref (k.b + (4 + 17 * i.val))), some (.int x1), some (.int x2), some (.int x3), some (.int x4)] [] := by
  unfold f1_grown_B52 at hf
  refine r_aload_n X (x := k.b + (4 + 17 * i.val)) dX1_grown_52 rfl ?_
  refine r_getfield X (v := .ref (k.b + (4 + 17 * i.val + 11))) clsX1 flX1_55 (Nat.le_of_ble_eq_true rfl) _ (o_lay i) rfl dX1_grown_53 ?_
  refine r_iload X (x := x4) dX1_grown_56 rfl ?_
  obtain ⟨g58, hf⟩ := gdS hf
  refine r_iaload X (f := LL_otherSide (ly i)) _ (a_lay_otherSide i) g58 dX1_grown_58 ?_
  refine r_bipush X (v := 8) dX1_grown_59 rfl ?_
  refine r_icmp_eq X 90 dX1_grown_61 rfl (fun c61 => ?_) (fun c61 => ?_)
  · replace hf := ifT hf c61
    refine r_iinc X (x := x4) (v := x4 + 1) [some (.ref (k.b + (4 + 17 * i.val))), some (.int x1), some (.int x2), some (.int x3), some (.int (x4 + 1))] dX1_grown_90 rfl rfl rfl ?_
    refine r_goto X 5 dX1_grown_93 rfl ?_
    exact hrec x1 x2 x3 (x4 + 1) hf
  · replace hf := ifF hf c61
    refine r_iload_n X (x := x1) dX1_grown_64 rfl ?_
    refine r_aload_n X (x := k.b + (4 + 17 * i.val)) dX1_grown_65 rfl ?_
    refine r_getfield X (v := .ref (k.b + (4 + 17 * i.val + 11))) clsX1 flX1_55 (Nat.le_of_ble_eq_true rfl) _ (o_lay i) rfl dX1_grown_66 ?_
    refine r_iload X (x := x4) dX1_grown_69 rfl ?_
    refine r_iaload X (f := LL_otherSide (ly i)) _ (a_lay_otherSide i) g58 dX1_grown_71 ?_
    obtain ⟨u72, h72, hf⟩ := bdS hf
    refine r_callSN0 X [.int x1, .int ((LL_otherSide (ly i)) (ix x4))] [] (K9_has h72) lkX1_76 (by decide) (Nat.le_of_ble_eq_true rfl) rfl rfl (Nat.le_of_ble_eq_true rfl) rfl rfl (Nat.zero_le _) (Nat.zero_le _) dX1_grown_72 ?_
    refine r_if_eq X 90 dX1_grown_75 rfl (fun c75 => ?_) (fun c75 => ?_)
    · replace hf := ifT hf c75
      refine r_iinc X (x := x4) (v := x4 + 1) [some (.ref (k.b + (4 + 17 * i.val))), some (.int x1), some (.int x2), some (.int x3), some (.int (x4 + 1))] dX1_grown_90 rfl rfl rfl ?_
      refine r_goto X 5 dX1_grown_93 rfl ?_
      exact hrec x1 x2 x3 (x4 + 1) hf
    · replace hf := ifF hf c75
      refine r_iload_n X (x := x3) dX1_grown_78 rfl ?_
      refine r_iconst X (v := 1) dX1_grown_79 rfl ?_
      refine r_aload_n X (x := k.b + (4 + 17 * i.val)) dX1_grown_80 rfl ?_
      refine r_getfield X (v := .ref (k.b + (4 + 17 * i.val + 10))) clsX1 flX1_52 (Nat.le_of_ble_eq_true rfl) _ (o_lay i) rfl dX1_grown_81 ?_
      refine r_iload X (x := x4) dX1_grown_84 rfl ?_
      refine r_iaload X (f := LL_valveChamber (ly i)) _ (a_lay_valveChamber i) g58 dX1_grown_86 ?_
      refine r_ishl X dX1_grown_87 ?_
      refine r_ior X dX1_grown_88 ?_
      refine r_istore_n X [some (.ref (k.b + (4 + 17 * i.val))), some (.int x1), some (.int x2), some (.int (x3 ||| (1 <<< (((LL_valveChamber (ly i)) (ix x4)) &&& 31)))), some (.int x4)] dX1_grown_89 (Nat.le_of_ble_eq_true rfl) rfl ?_
      refine r_iinc X (x := x4) (v := x4 + 1) [some (.ref (k.b + (4 + 17 * i.val))), some (.int x1), some (.int x2), some (.int (x3 ||| (1 <<< (((LL_valveChamber (ly i)) (ix x4)) &&& 31)))), some (.int (x4 + 1))] dX1_grown_90 rfl rfl rfl ?_
      refine r_goto X 5 dX1_grown_93 rfl ?_
      exact hrec x1 x2 (x3 ||| (1 <<< (((LL_valveChamber (ly i)) (ix x4)) &&& 31))) (x4 + 1) hf
set_option maxRecDepth 100000 in
set_option maxHeartbeats 4000000 in
theorem B1_grown_B5 {k : KT} {z : ZT} {T : TT} {R : RR} {ly : Fin 2 → LL} {rc : RC} {hn : HN} {rp : RP} {tp : TP} {ee : EE} {st : Fin 12 → SS} {i : Fin 2} {r : Int32} (X : XX k strs z RX1 cX1_grown 5 (some .int) (rmD 1 0 0)) (hQ : zQ z = MQ (zB z) (Qof k (some (.int r)) (wAll k T R ly rc hn rp tp ee st)) (zA z) (zS z) 0 0 (kA k)) : ∀ (fu : Nat) (x1 : Int32) (x2 : Int32) (x3 : Int32) (x4 : Int32), f1_grown_B5 (ly i) fu x1 x2 x3 x4 = some r → VW k z 0 0 (wAll k T R ly rc hn rp tp ee st) 5 [some (.ref (k.b + (4 + 17 * i.val))), some (.int x1), some (.int x2), some (.int x3), some (.int x4)] [] := by
  intro fu
  induction fu with
  | zero =>
    intro x1 x2 x3 x4 hf
    rw [f1_grown_B5] at hf
    cases hf
  | succ fu ih =>
    intro x1 x2 x3 x4 hf
    rw [f1_grown_B5] at hf
    refine r_iload X (x := x4) dX1_grown_5 rfl ?_
    refine r_aload_n X (x := k.b + (4 + 17 * i.val)) dX1_grown_7 rfl ?_
    refine r_getfield X (v := .int (LL_valves (ly i))) clsX1 flX1_18 (Nat.le_of_ble_eq_true rfl) _ (o_lay i) rfl dX1_grown_8 ?_
    refine r_icmp_ge X 96 dX1_grown_11 rfl (fun c11 => ?_) (fun c11 => ?_)
    · replace hf := ifT hf c11
      refine r_iload_n X (x := x3) dX1_grown_96 rfl ?_
      obtain rfl := Option.some.inj hf
      exact r_ireturn X hQ rfl rfl (Nat.le_of_ble_eq_true rfl) (Nat.le_of_ble_eq_true rfl) dX1_grown_97
    · replace hf := ifF hf c11
      refine r_iload_n X (x := x2) dX1_grown_14 rfl ?_
      refine r_iload X (x := x4) dX1_grown_15 rfl ?_
      obtain ⟨u17, h17, hf⟩ := bdS hf
      refine r_callSN0 X [.int x2, .int x4] [] (K9_has h17) lkX1_76 (by decide) (Nat.le_of_ble_eq_true rfl) rfl rfl (Nat.le_of_ble_eq_true rfl) rfl rfl (Nat.zero_le _) (Nat.zero_le _) dX1_grown_17 ?_
      refine r_if_ne X 26 dX1_grown_20 rfl (fun c20 => ?_) (fun c20 => ?_)
      · replace hf := ifF hf c20
        refine r_iload_n X (x := x1) dX1_grown_26 rfl ?_
        refine r_aload_n X (x := k.b + (4 + 17 * i.val)) dX1_grown_27 rfl ?_
        refine r_getfield X (v := .ref (k.b + (4 + 17 * i.val + 10))) clsX1 flX1_52 (Nat.le_of_ble_eq_true rfl) _ (o_lay i) rfl dX1_grown_28 ?_
        refine r_iload X (x := x4) dX1_grown_31 rfl ?_
        obtain ⟨g33, hf⟩ := gdS hf
        refine r_iaload X (f := LL_valveChamber (ly i)) _ (a_lay_valveChamber i) g33 dX1_grown_33 ?_
        obtain ⟨u34, h34, hf⟩ := bdS hf
        refine r_callSN0 X [.int x1, .int ((LL_valveChamber (ly i)) (ix x4))] [] (K9_has h34) lkX1_76 (by decide) (Nat.le_of_ble_eq_true rfl) rfl rfl (Nat.le_of_ble_eq_true rfl) rfl rfl (Nat.zero_le _) (Nat.zero_le _) dX1_grown_34 ?_
        refine r_if_eq X 52 dX1_grown_37 rfl (fun c37 => ?_) (fun c37 => ?_)
        · replace hf := ifT hf c37
          exact B1_grown_B52 X hQ (f1_grown_B5 (ly i) fu) ih x1 x2 x3 x4 hf
        · replace hf := ifF hf c37
          refine r_iload_n X (x := x3) dX1_grown_40 rfl ?_
          refine r_iconst X (v := 1) dX1_grown_41 rfl ?_
          refine r_aload_n X (x := k.b + (4 + 17 * i.val)) dX1_grown_42 rfl ?_
          refine r_getfield X (v := .ref (k.b + (4 + 17 * i.val + 11))) clsX1 flX1_55 (Nat.le_of_ble_eq_true rfl) _ (o_lay i) rfl dX1_grown_43 ?_
          refine r_iload X (x := x4) dX1_grown_46 rfl ?_
          refine r_iaload X (f := LL_otherSide (ly i)) _ (a_lay_otherSide i) g33 dX1_grown_48 ?_
          refine r_ishl X dX1_grown_49 ?_
          refine r_ior X dX1_grown_50 ?_
          refine r_istore_n X [some (.ref (k.b + (4 + 17 * i.val))), some (.int x1), some (.int x2), some (.int (x3 ||| (1 <<< (((LL_otherSide (ly i)) (ix x4)) &&& 31)))), some (.int x4)] dX1_grown_51 (Nat.le_of_ble_eq_true rfl) rfl ?_
          exact B1_grown_B52 X hQ (f1_grown_B5 (ly i) fu) ih x1 x2 (x3 ||| (1 <<< (((LL_otherSide (ly i)) (ix x4)) &&& 31))) x4 hf
      · replace hf := ifT hf c20
        refine r_goto X 90 dX1_grown_23 rfl ?_
        refine r_iinc X (x := x4) (v := x4 + 1) [some (.ref (k.b + (4 + 17 * i.val))), some (.int x1), some (.int x2), some (.int x3), some (.int (x4 + 1))] dX1_grown_90 rfl rfl rfl ?_
        refine r_goto X 5 dX1_grown_93 rfl ?_
        exact ih x1 x2 x3 (x4 + 1) hf
set_option maxRecDepth 100000 in
set_option maxHeartbeats 4000000 in
theorem K1_grown {k : KT} {T : TT} {R : RR} {ly : Fin 2 → LL} {rc : RC} {hn : HN} {rp : RP} {tp : TP} {ee : EE} {st : Fin 12 → SS} {i : Fin 2}  {x1 : Int32} {x2 : Int32} {r : Int32} (hf : f1_grown (ly i)  x1 x2 = some r) : CT k strs yX1_grown cX1_grown 5 (some .int) (rmD 1 0 0) 0 0 [.ref (k.b + (4 + 17 * i.val)), .int x1, .int x2] (wAll k T R ly rc hn rp tp ee st) (some (.int r)) (wAll k T R ly rc hn rp tp ee st) := by
  refine CT.of (by decide) (Nat.le_of_ble_eq_true rfl) ?_
  intro z X hQ
  show VW k z 0 0 (wAll k T R ly rc hn rp tp ee st) 0 [some (.ref (k.b + (4 + 17 * i.val))), some (.int x1), some (.int x2), none, none] []
  unfold f1_grown at hf
  refine r_iload_n X (x := x1) dX1_grown_0 rfl ?_
  refine r_istore_n X [some (.ref (k.b + (4 + 17 * i.val))), some (.int x1), some (.int x2), some (.int x1), none] dX1_grown_1 (Nat.le_of_ble_eq_true rfl) rfl ?_
  refine r_iconst X (v := 0) dX1_grown_2 rfl ?_
  refine r_istore X [some (.ref (k.b + (4 + 17 * i.val))), some (.int x1), some (.int x2), some (.int x1), some (.int 0)] dX1_grown_3 (Nat.le_of_ble_eq_true rfl) rfl ?_
  exact B1_grown_B5 X hQ FU x1 x2 x1 0 hf
set_option maxRecDepth 100000 in
set_option maxHeartbeats 4000000 in
theorem K1_addChamber {k : KT} {T : TT} {R : RR} {ly : Fin 2 → LL} {rc : RC} {hn : HN} {rp : RP} {tp : TP} {ee : EE} {st : Fin 12 → SS} {i : Fin 2} {lYi : LL} {x1 : Int32} {x2 : Int32} {x3 : Int32} {r : (LL)} (hf : f1_addChamber  lYi x1 x2 x3 = some r) : CT k strs yX1_addChamber cX1_addChamber 4 none (rmD 0 0 0) 0 0 [.ref (k.b + (4 + 17 * i.val)), .int x1, .int x2, .int x3] (wAll k T R (updF ly i lYi) rc hn rp tp ee st) (none) (wAll k T R (updF ly i r) rc hn rp tp ee st) := by
  refine CT.of (by decide) (Nat.le_of_ble_eq_true rfl) ?_
  intro z X hQ
  show VW k z 0 0 (wAll k T R (updF ly i lYi) rc hn rp tp ee st) 0 [some (.ref (k.b + (4 + 17 * i.val))), some (.int x1), some (.int x2), some (.int x3)] []
  unfold f1_addChamber at hf
  refine r_aload_n X (x := k.b + (4 + 17 * i.val)) dX1_addChamber_0 rfl ?_
  refine r_getfield X (v := .int (LL_chambers lYi)) clsX1 flX1_9 (Nat.le_of_ble_eq_true rfl) _ (o_lay1 i _) rfl dX1_addChamber_1 ?_
  refine r_bipush X (v := 8) dX1_addChamber_4 rfl ?_
  refine r_icmp_lt X 10 dX1_addChamber_6 rfl (fun c6 => ?_) (fun c6 => ?_)
  · replace hf := ifT hf c6
    refine r_aload_n X (x := k.b + (4 + 17 * i.val)) dX1_addChamber_10 rfl ?_
    refine r_getfield X (v := .ref (k.b + (4 + 17 * i.val + 1))) clsX1 flX1_24 (Nat.le_of_ble_eq_true rfl) _ (o_lay1 i _) rfl dX1_addChamber_11 ?_
    refine r_aload_n X (x := k.b + (4 + 17 * i.val)) dX1_addChamber_14 rfl ?_
    refine r_getfield X (v := .int (LL_chambers lYi)) clsX1 flX1_9 (Nat.le_of_ble_eq_true rfl) _ (o_lay1 i _) rfl dX1_addChamber_15 ?_
    refine r_iload_n X (x := x1) dX1_addChamber_18 rfl ?_
    obtain ⟨g19, hf⟩ := gdS hf
    refine r_iastore X (f := LL_volume lYi) (ws1 := wAll k T R (updF ly i (LL_set_volume lYi (upd (LL_volume lYi) (ix (LL_chambers lYi)) x1))) rc hn rp tp ee st) _ (a_lay1_volume i _) g19 (s_lay_volume i lYi (upd (LL_volume lYi) (ix (LL_chambers lYi)) x1)) dX1_addChamber_19 ?_
    refine r_aload_n X (x := k.b + (4 + 17 * i.val)) dX1_addChamber_20 rfl ?_
    refine r_getfield X (v := .ref (k.b + (4 + 17 * i.val + 2))) clsX1 flX1_28 (Nat.le_of_ble_eq_true rfl) _ (o_lay1 i _) rfl dX1_addChamber_21 ?_
    refine r_aload_n X (x := k.b + (4 + 17 * i.val)) dX1_addChamber_24 rfl ?_
    refine r_getfield X (v := .int (LL_chambers lYi)) clsX1 flX1_9 (Nat.le_of_ble_eq_true rfl) _ (o_lay1 i _) (hvI rfl (LL_chambers_set_volume _ _)) dX1_addChamber_25 ?_
    refine r_iload_n X (x := x2) dX1_addChamber_28 rfl ?_
    refine r_iastore X (f := LL_firstOutgassing lYi) (ws1 := wAll k T R (updF ly i (LL_set_firstOutgassing (LL_set_volume lYi (upd (LL_volume lYi) (ix (LL_chambers lYi)) x1)) (upd (LL_firstOutgassing lYi) (ix (LL_chambers lYi)) x2))) rc hn rp tp ee st) _ (heI (a_lay1_firstOutgassing i _) (LL_firstOutgassing_set_volume _ _)) g19 (s_lay_firstOutgassing i (LL_set_volume lYi (upd (LL_volume lYi) (ix (LL_chambers lYi)) x1)) (upd (LL_firstOutgassing lYi) (ix (LL_chambers lYi)) x2)) dX1_addChamber_29 ?_
    refine r_aload_n X (x := k.b + (4 + 17 * i.val)) dX1_addChamber_30 rfl ?_
    refine r_getfield X (v := .ref (k.b + (4 + 17 * i.val + 3))) clsX1 flX1_31 (Nat.le_of_ble_eq_true rfl) _ (o_lay1 i _) rfl dX1_addChamber_31 ?_
    refine r_aload_n X (x := k.b + (4 + 17 * i.val)) dX1_addChamber_34 rfl ?_
    refine r_getfield X (v := .int (LL_chambers lYi)) clsX1 flX1_9 (Nat.le_of_ble_eq_true rfl) _ (o_lay1 i _) (hvI rfl ((LL_chambers_set_firstOutgassing _ _).trans (LL_chambers_set_volume _ _))) dX1_addChamber_35 ?_
    refine r_iload_n X (x := x3) dX1_addChamber_38 rfl ?_
    refine r_iastore X (f := LL_decay lYi) (ws1 := wAll k T R (updF ly i (LL_set_decay (LL_set_firstOutgassing (LL_set_volume lYi (upd (LL_volume lYi) (ix (LL_chambers lYi)) x1)) (upd (LL_firstOutgassing lYi) (ix (LL_chambers lYi)) x2)) (upd (LL_decay lYi) (ix (LL_chambers lYi)) x3))) rc hn rp tp ee st) _ (heI (a_lay1_decay i _) ((LL_decay_set_firstOutgassing _ _).trans (LL_decay_set_volume _ _))) g19 (s_lay_decay i (LL_set_firstOutgassing (LL_set_volume lYi (upd (LL_volume lYi) (ix (LL_chambers lYi)) x1)) (upd (LL_firstOutgassing lYi) (ix (LL_chambers lYi)) x2)) (upd (LL_decay lYi) (ix (LL_chambers lYi)) x3)) dX1_addChamber_39 ?_
    refine r_aload_n X (x := k.b + (4 + 17 * i.val)) dX1_addChamber_40 rfl ?_
    refine r_dup X dX1_addChamber_41 rfl ?_
    refine r_getfield X (v := .int (LL_chambers lYi)) clsX1 flX1_9 (Nat.le_of_ble_eq_true rfl) _ (o_lay1 i _) (hvI rfl ((LL_chambers_set_decay _ _).trans ((LL_chambers_set_firstOutgassing _ _).trans (LL_chambers_set_volume _ _)))) dX1_addChamber_42 ?_
    refine r_iconst X (v := 1) dX1_addChamber_45 rfl ?_
    refine r_iadd X dX1_addChamber_46 ?_
    refine r_putfield X (ws1 := wAll k T R (updF ly i (LL_set_chambers (LL_set_decay (LL_set_firstOutgassing (LL_set_volume lYi (upd (LL_volume lYi) (ix (LL_chambers lYi)) x1)) (upd (LL_firstOutgassing lYi) (ix (LL_chambers lYi)) x2)) (upd (LL_decay lYi) (ix (LL_chambers lYi)) x3)) ((LL_chambers lYi) + 1))) rc hn rp tp ee st) clsX1 flX1_9 (Nat.le_of_ble_eq_true rfl) rfl rfl rfl _ (o_lay1 i _) (Nat.le_of_ble_eq_true rfl) (s_lay_chambers i (LL_set_decay (LL_set_firstOutgassing (LL_set_volume lYi (upd (LL_volume lYi) (ix (LL_chambers lYi)) x1)) (upd (LL_firstOutgassing lYi) (ix (LL_chambers lYi)) x2)) (upd (LL_decay lYi) (ix (LL_chambers lYi)) x3)) ((LL_chambers lYi) + 1)) dX1_addChamber_47 ?_
    obtain rfl := Option.some.inj hf
    exact r_return X hQ rfl rfl (Nat.le_of_ble_eq_true rfl) (Nat.le_of_ble_eq_true rfl) dX1_addChamber_50
  · replace hf := ifF hf c6
    obtain rfl := Option.some.inj hf
    exact r_return X hQ rfl rfl (Nat.le_of_ble_eq_true rfl) (Nat.le_of_ble_eq_true rfl) dX1_addChamber_9
set_option maxRecDepth 100000 in
set_option maxHeartbeats 4000000 in
theorem K1_addPump {k : KT} {T : TT} {R : RR} {ly : Fin 2 → LL} {rc : RC} {hn : HN} {rp : RP} {tp : TP} {ee : EE} {st : Fin 12 → SS} {i : Fin 2} {lYi : LL} {x1 : Int32} {x2 : Int32} {x3 : Int32} {x4 : Int32} {x5 : Int32} {x6 : Int32} {r : (LL)} (hf : f1_addPump  lYi x1 x2 x3 x4 x5 x6 = some r) : CT k strs yX1_addPump cX1_addPump 7 none (rmD 0 0 0) 0 0 [.ref (k.b + (4 + 17 * i.val)), .int x1, .int x2, .int x3, .int x4, .int x5, .int x6] (wAll k T R (updF ly i lYi) rc hn rp tp ee st) (none) (wAll k T R (updF ly i r) rc hn rp tp ee st) := by
  refine CT.of (by decide) (Nat.le_of_ble_eq_true rfl) ?_
  intro z X hQ
  show VW k z 0 0 (wAll k T R (updF ly i lYi) rc hn rp tp ee st) 0 [some (.ref (k.b + (4 + 17 * i.val))), some (.int x1), some (.int x2), some (.int x3), some (.int x4), some (.int x5), some (.int x6)] []
  unfold f1_addPump at hf
  refine r_aload_n X (x := k.b + (4 + 17 * i.val)) dX1_addPump_0 rfl ?_
  refine r_getfield X (v := .int (LL_pumps lYi)) clsX1 flX1_15 (Nat.le_of_ble_eq_true rfl) _ (o_lay1 i _) rfl dX1_addPump_1 ?_
  refine r_bipush X (v := 6) dX1_addPump_4 rfl ?_
  refine r_icmp_lt X 10 dX1_addPump_6 rfl (fun c6 => ?_) (fun c6 => ?_)
  · replace hf := ifT hf c6
    refine r_aload_n X (x := k.b + (4 + 17 * i.val)) dX1_addPump_10 rfl ?_
    refine r_getfield X (v := .ref (k.b + (4 + 17 * i.val + 4))) clsX1 flX1_34 (Nat.le_of_ble_eq_true rfl) _ (o_lay1 i _) rfl dX1_addPump_11 ?_
    refine r_aload_n X (x := k.b + (4 + 17 * i.val)) dX1_addPump_14 rfl ?_
    refine r_getfield X (v := .int (LL_pumps lYi)) clsX1 flX1_15 (Nat.le_of_ble_eq_true rfl) _ (o_lay1 i _) rfl dX1_addPump_15 ?_
    refine r_iload_n X (x := x1) dX1_addPump_18 rfl ?_
    obtain ⟨g19, hf⟩ := gdS hf
    refine r_iastore X (f := LL_pumpChamber lYi) (ws1 := wAll k T R (updF ly i (LL_set_pumpChamber lYi (upd (LL_pumpChamber lYi) (ix (LL_pumps lYi)) x1))) rc hn rp tp ee st) _ (a_lay1_pumpChamber i _) g19 (s_lay_pumpChamber i lYi (upd (LL_pumpChamber lYi) (ix (LL_pumps lYi)) x1)) dX1_addPump_19 ?_
    refine r_aload_n X (x := k.b + (4 + 17 * i.val)) dX1_addPump_20 rfl ?_
    refine r_getfield X (v := .ref (k.b + (4 + 17 * i.val + 5))) clsX1 flX1_37 (Nat.le_of_ble_eq_true rfl) _ (o_lay1 i _) rfl dX1_addPump_21 ?_
    refine r_aload_n X (x := k.b + (4 + 17 * i.val)) dX1_addPump_24 rfl ?_
    refine r_getfield X (v := .int (LL_pumps lYi)) clsX1 flX1_15 (Nat.le_of_ble_eq_true rfl) _ (o_lay1 i _) (hvI rfl (LL_pumps_set_pumpChamber _ _)) dX1_addPump_25 ?_
    refine r_iload_n X (x := x2) dX1_addPump_28 rfl ?_
    refine r_iastore X (f := LL_exhaust lYi) (ws1 := wAll k T R (updF ly i (LL_set_exhaust (LL_set_pumpChamber lYi (upd (LL_pumpChamber lYi) (ix (LL_pumps lYi)) x1)) (upd (LL_exhaust lYi) (ix (LL_pumps lYi)) x2))) rc hn rp tp ee st) _ (heI (a_lay1_exhaust i _) (LL_exhaust_set_pumpChamber _ _)) g19 (s_lay_exhaust i (LL_set_pumpChamber lYi (upd (LL_pumpChamber lYi) (ix (LL_pumps lYi)) x1)) (upd (LL_exhaust lYi) (ix (LL_pumps lYi)) x2)) dX1_addPump_29 ?_
    refine r_aload_n X (x := k.b + (4 + 17 * i.val)) dX1_addPump_30 rfl ?_
    refine r_getfield X (v := .ref (k.b + (4 + 17 * i.val + 6))) clsX1 flX1_40 (Nat.le_of_ble_eq_true rfl) _ (o_lay1 i _) rfl dX1_addPump_31 ?_
    refine r_aload_n X (x := k.b + (4 + 17 * i.val)) dX1_addPump_34 rfl ?_
    refine r_getfield X (v := .int (LL_pumps lYi)) clsX1 flX1_15 (Nat.le_of_ble_eq_true rfl) _ (o_lay1 i _) (hvI rfl ((LL_pumps_set_exhaust _ _).trans (LL_pumps_set_pumpChamber _ _))) dX1_addPump_35 ?_
    refine r_iload_n X (x := x3) dX1_addPump_38 rfl ?_
    refine r_iastore X (f := LL_speed lYi) (ws1 := wAll k T R (updF ly i (LL_set_speed (LL_set_exhaust (LL_set_pumpChamber lYi (upd (LL_pumpChamber lYi) (ix (LL_pumps lYi)) x1)) (upd (LL_exhaust lYi) (ix (LL_pumps lYi)) x2)) (upd (LL_speed lYi) (ix (LL_pumps lYi)) x3))) rc hn rp tp ee st) _ (heI (a_lay1_speed i _) ((LL_speed_set_exhaust _ _).trans (LL_speed_set_pumpChamber _ _))) g19 (s_lay_speed i (LL_set_exhaust (LL_set_pumpChamber lYi (upd (LL_pumpChamber lYi) (ix (LL_pumps lYi)) x1)) (upd (LL_exhaust lYi) (ix (LL_pumps lYi)) x2)) (upd (LL_speed lYi) (ix (LL_pumps lYi)) x3)) dX1_addPump_39 ?_
    refine r_aload_n X (x := k.b + (4 + 17 * i.val)) dX1_addPump_40 rfl ?_
    refine r_getfield X (v := .ref (k.b + (4 + 17 * i.val + 7))) clsX1 flX1_43 (Nat.le_of_ble_eq_true rfl) _ (o_lay1 i _) rfl dX1_addPump_41 ?_
    refine r_aload_n X (x := k.b + (4 + 17 * i.val)) dX1_addPump_44 rfl ?_
    refine r_getfield X (v := .int (LL_pumps lYi)) clsX1 flX1_15 (Nat.le_of_ble_eq_true rfl) _ (o_lay1 i _) (hvI rfl ((LL_pumps_set_speed _ _).trans ((LL_pumps_set_exhaust _ _).trans (LL_pumps_set_pumpChamber _ _)))) dX1_addPump_45 ?_
    refine r_iload X (x := x4) dX1_addPump_48 rfl ?_
    refine r_iastore X (f := LL_low lYi) (ws1 := wAll k T R (updF ly i (LL_set_low (LL_set_speed (LL_set_exhaust (LL_set_pumpChamber lYi (upd (LL_pumpChamber lYi) (ix (LL_pumps lYi)) x1)) (upd (LL_exhaust lYi) (ix (LL_pumps lYi)) x2)) (upd (LL_speed lYi) (ix (LL_pumps lYi)) x3)) (upd (LL_low lYi) (ix (LL_pumps lYi)) x4))) rc hn rp tp ee st) _ (heI (a_lay1_low i _) ((LL_low_set_speed _ _).trans ((LL_low_set_exhaust _ _).trans (LL_low_set_pumpChamber _ _)))) g19 (s_lay_low i (LL_set_speed (LL_set_exhaust (LL_set_pumpChamber lYi (upd (LL_pumpChamber lYi) (ix (LL_pumps lYi)) x1)) (upd (LL_exhaust lYi) (ix (LL_pumps lYi)) x2)) (upd (LL_speed lYi) (ix (LL_pumps lYi)) x3)) (upd (LL_low lYi) (ix (LL_pumps lYi)) x4)) dX1_addPump_50 ?_
    refine r_aload_n X (x := k.b + (4 + 17 * i.val)) dX1_addPump_51 rfl ?_
    refine r_getfield X (v := .ref (k.b + (4 + 17 * i.val + 8))) clsX1 flX1_46 (Nat.le_of_ble_eq_true rfl) _ (o_lay1 i _) rfl dX1_addPump_52 ?_
    refine r_aload_n X (x := k.b + (4 + 17 * i.val)) dX1_addPump_55 rfl ?_
    refine r_getfield X (v := .int (LL_pumps lYi)) clsX1 flX1_15 (Nat.le_of_ble_eq_true rfl) _ (o_lay1 i _) (hvI rfl ((LL_pumps_set_low _ _).trans ((LL_pumps_set_speed _ _).trans ((LL_pumps_set_exhaust _ _).trans (LL_pumps_set_pumpChamber _ _))))) dX1_addPump_56 ?_
    refine r_iload X (x := x5) dX1_addPump_59 rfl ?_
    refine r_iastore X (f := LL_high lYi) (ws1 := wAll k T R (updF ly i (LL_set_high (LL_set_low (LL_set_speed (LL_set_exhaust (LL_set_pumpChamber lYi (upd (LL_pumpChamber lYi) (ix (LL_pumps lYi)) x1)) (upd (LL_exhaust lYi) (ix (LL_pumps lYi)) x2)) (upd (LL_speed lYi) (ix (LL_pumps lYi)) x3)) (upd (LL_low lYi) (ix (LL_pumps lYi)) x4)) (upd (LL_high lYi) (ix (LL_pumps lYi)) x5))) rc hn rp tp ee st) _ (heI (a_lay1_high i _) ((LL_high_set_low _ _).trans ((LL_high_set_speed _ _).trans ((LL_high_set_exhaust _ _).trans (LL_high_set_pumpChamber _ _))))) g19 (s_lay_high i (LL_set_low (LL_set_speed (LL_set_exhaust (LL_set_pumpChamber lYi (upd (LL_pumpChamber lYi) (ix (LL_pumps lYi)) x1)) (upd (LL_exhaust lYi) (ix (LL_pumps lYi)) x2)) (upd (LL_speed lYi) (ix (LL_pumps lYi)) x3)) (upd (LL_low lYi) (ix (LL_pumps lYi)) x4)) (upd (LL_high lYi) (ix (LL_pumps lYi)) x5)) dX1_addPump_61 ?_
    refine r_aload_n X (x := k.b + (4 + 17 * i.val)) dX1_addPump_62 rfl ?_
    refine r_getfield X (v := .ref (k.b + (4 + 17 * i.val + 9))) clsX1 flX1_49 (Nat.le_of_ble_eq_true rfl) _ (o_lay1 i _) rfl dX1_addPump_63 ?_
    refine r_aload_n X (x := k.b + (4 + 17 * i.val)) dX1_addPump_66 rfl ?_
    refine r_getfield X (v := .int (LL_pumps lYi)) clsX1 flX1_15 (Nat.le_of_ble_eq_true rfl) _ (o_lay1 i _) (hvI rfl ((LL_pumps_set_high _ _).trans ((LL_pumps_set_low _ _).trans ((LL_pumps_set_speed _ _).trans ((LL_pumps_set_exhaust _ _).trans (LL_pumps_set_pumpChamber _ _)))))) dX1_addPump_67 ?_
    refine r_iload X (x := x6) dX1_addPump_70 rfl ?_
    refine r_iastore X (f := LL_backing lYi) (ws1 := wAll k T R (updF ly i (LL_set_backing (LL_set_high (LL_set_low (LL_set_speed (LL_set_exhaust (LL_set_pumpChamber lYi (upd (LL_pumpChamber lYi) (ix (LL_pumps lYi)) x1)) (upd (LL_exhaust lYi) (ix (LL_pumps lYi)) x2)) (upd (LL_speed lYi) (ix (LL_pumps lYi)) x3)) (upd (LL_low lYi) (ix (LL_pumps lYi)) x4)) (upd (LL_high lYi) (ix (LL_pumps lYi)) x5)) (upd (LL_backing lYi) (ix (LL_pumps lYi)) x6))) rc hn rp tp ee st) _ (heI (a_lay1_backing i _) ((LL_backing_set_high _ _).trans ((LL_backing_set_low _ _).trans ((LL_backing_set_speed _ _).trans ((LL_backing_set_exhaust _ _).trans (LL_backing_set_pumpChamber _ _)))))) g19 (s_lay_backing i (LL_set_high (LL_set_low (LL_set_speed (LL_set_exhaust (LL_set_pumpChamber lYi (upd (LL_pumpChamber lYi) (ix (LL_pumps lYi)) x1)) (upd (LL_exhaust lYi) (ix (LL_pumps lYi)) x2)) (upd (LL_speed lYi) (ix (LL_pumps lYi)) x3)) (upd (LL_low lYi) (ix (LL_pumps lYi)) x4)) (upd (LL_high lYi) (ix (LL_pumps lYi)) x5)) (upd (LL_backing lYi) (ix (LL_pumps lYi)) x6)) dX1_addPump_72 ?_
    refine r_aload_n X (x := k.b + (4 + 17 * i.val)) dX1_addPump_73 rfl ?_
    refine r_dup X dX1_addPump_74 rfl ?_
    refine r_getfield X (v := .int (LL_pumps lYi)) clsX1 flX1_15 (Nat.le_of_ble_eq_true rfl) _ (o_lay1 i _) (hvI rfl ((LL_pumps_set_backing _ _).trans ((LL_pumps_set_high _ _).trans ((LL_pumps_set_low _ _).trans ((LL_pumps_set_speed _ _).trans ((LL_pumps_set_exhaust _ _).trans (LL_pumps_set_pumpChamber _ _))))))) dX1_addPump_75 ?_
    refine r_iconst X (v := 1) dX1_addPump_78 rfl ?_
    refine r_iadd X dX1_addPump_79 ?_
    refine r_putfield X (ws1 := wAll k T R (updF ly i (LL_set_pumps (LL_set_backing (LL_set_high (LL_set_low (LL_set_speed (LL_set_exhaust (LL_set_pumpChamber lYi (upd (LL_pumpChamber lYi) (ix (LL_pumps lYi)) x1)) (upd (LL_exhaust lYi) (ix (LL_pumps lYi)) x2)) (upd (LL_speed lYi) (ix (LL_pumps lYi)) x3)) (upd (LL_low lYi) (ix (LL_pumps lYi)) x4)) (upd (LL_high lYi) (ix (LL_pumps lYi)) x5)) (upd (LL_backing lYi) (ix (LL_pumps lYi)) x6)) ((LL_pumps lYi) + 1))) rc hn rp tp ee st) clsX1 flX1_15 (Nat.le_of_ble_eq_true rfl) rfl rfl rfl _ (o_lay1 i _) (Nat.le_of_ble_eq_true rfl) (s_lay_pumps i (LL_set_backing (LL_set_high (LL_set_low (LL_set_speed (LL_set_exhaust (LL_set_pumpChamber lYi (upd (LL_pumpChamber lYi) (ix (LL_pumps lYi)) x1)) (upd (LL_exhaust lYi) (ix (LL_pumps lYi)) x2)) (upd (LL_speed lYi) (ix (LL_pumps lYi)) x3)) (upd (LL_low lYi) (ix (LL_pumps lYi)) x4)) (upd (LL_high lYi) (ix (LL_pumps lYi)) x5)) (upd (LL_backing lYi) (ix (LL_pumps lYi)) x6)) ((LL_pumps lYi) + 1)) dX1_addPump_80 ?_
    obtain rfl := Option.some.inj hf
    exact r_return X hQ rfl rfl (Nat.le_of_ble_eq_true rfl) (Nat.le_of_ble_eq_true rfl) dX1_addPump_83
  · replace hf := ifF hf c6
    obtain rfl := Option.some.inj hf
    exact r_return X hQ rfl rfl (Nat.le_of_ble_eq_true rfl) (Nat.le_of_ble_eq_true rfl) dX1_addPump_9
set_option maxRecDepth 100000 in
set_option maxHeartbeats 4000000 in
theorem K1_addValve {k : KT} {T : TT} {R : RR} {ly : Fin 2 → LL} {rc : RC} {hn : HN} {rp : RP} {tp : TP} {ee : EE} {st : Fin 12 → SS} {i : Fin 2} {lYi : LL} {x1 : Int32} {x2 : Int32} {x3 : Int32} {x4 : Int32} {r : (LL)} (hf : f1_addValve  lYi x1 x2 x3 x4 = some r) : CT k strs yX1_addValve cX1_addValve 5 none (rmD 0 0 0) 0 0 [.ref (k.b + (4 + 17 * i.val)), .int x1, .int x2, .int x3, .int x4] (wAll k T R (updF ly i lYi) rc hn rp tp ee st) (none) (wAll k T R (updF ly i r) rc hn rp tp ee st) := by
  refine CT.of (by decide) (Nat.le_of_ble_eq_true rfl) ?_
  intro z X hQ
  show VW k z 0 0 (wAll k T R (updF ly i lYi) rc hn rp tp ee st) 0 [some (.ref (k.b + (4 + 17 * i.val))), some (.int x1), some (.int x2), some (.int x3), some (.int x4)] []
  unfold f1_addValve at hf
  refine r_aload_n X (x := k.b + (4 + 17 * i.val)) dX1_addValve_0 rfl ?_
  refine r_getfield X (v := .int (LL_valves lYi)) clsX1 flX1_18 (Nat.le_of_ble_eq_true rfl) _ (o_lay1 i _) rfl dX1_addValve_1 ?_
  refine r_bipush X (v := 10) dX1_addValve_4 rfl ?_
  refine r_icmp_lt X 10 dX1_addValve_6 rfl (fun c6 => ?_) (fun c6 => ?_)
  · replace hf := ifT hf c6
    refine r_aload_n X (x := k.b + (4 + 17 * i.val)) dX1_addValve_10 rfl ?_
    refine r_getfield X (v := .ref (k.b + (4 + 17 * i.val + 10))) clsX1 flX1_52 (Nat.le_of_ble_eq_true rfl) _ (o_lay1 i _) rfl dX1_addValve_11 ?_
    refine r_aload_n X (x := k.b + (4 + 17 * i.val)) dX1_addValve_14 rfl ?_
    refine r_getfield X (v := .int (LL_valves lYi)) clsX1 flX1_18 (Nat.le_of_ble_eq_true rfl) _ (o_lay1 i _) rfl dX1_addValve_15 ?_
    refine r_iload_n X (x := x1) dX1_addValve_18 rfl ?_
    obtain ⟨g19, hf⟩ := gdS hf
    refine r_iastore X (f := LL_valveChamber lYi) (ws1 := wAll k T R (updF ly i (LL_set_valveChamber lYi (upd (LL_valveChamber lYi) (ix (LL_valves lYi)) x1))) rc hn rp tp ee st) _ (a_lay1_valveChamber i _) g19 (s_lay_valveChamber i lYi (upd (LL_valveChamber lYi) (ix (LL_valves lYi)) x1)) dX1_addValve_19 ?_
    refine r_aload_n X (x := k.b + (4 + 17 * i.val)) dX1_addValve_20 rfl ?_
    refine r_getfield X (v := .ref (k.b + (4 + 17 * i.val + 11))) clsX1 flX1_55 (Nat.le_of_ble_eq_true rfl) _ (o_lay1 i _) rfl dX1_addValve_21 ?_
    refine r_aload_n X (x := k.b + (4 + 17 * i.val)) dX1_addValve_24 rfl ?_
    refine r_getfield X (v := .int (LL_valves lYi)) clsX1 flX1_18 (Nat.le_of_ble_eq_true rfl) _ (o_lay1 i _) (hvI rfl (LL_valves_set_valveChamber _ _)) dX1_addValve_25 ?_
    refine r_iload_n X (x := x2) dX1_addValve_28 rfl ?_
    refine r_iastore X (f := LL_otherSide lYi) (ws1 := wAll k T R (updF ly i (LL_set_otherSide (LL_set_valveChamber lYi (upd (LL_valveChamber lYi) (ix (LL_valves lYi)) x1)) (upd (LL_otherSide lYi) (ix (LL_valves lYi)) x2))) rc hn rp tp ee st) _ (heI (a_lay1_otherSide i _) (LL_otherSide_set_valveChamber _ _)) g19 (s_lay_otherSide i (LL_set_valveChamber lYi (upd (LL_valveChamber lYi) (ix (LL_valves lYi)) x1)) (upd (LL_otherSide lYi) (ix (LL_valves lYi)) x2)) dX1_addValve_29 ?_
    refine r_aload_n X (x := k.b + (4 + 17 * i.val)) dX1_addValve_30 rfl ?_
    refine r_getfield X (v := .ref (k.b + (4 + 17 * i.val + 12))) clsX1 flX1_58 (Nat.le_of_ble_eq_true rfl) _ (o_lay1 i _) rfl dX1_addValve_31 ?_
    refine r_aload_n X (x := k.b + (4 + 17 * i.val)) dX1_addValve_34 rfl ?_
    refine r_getfield X (v := .int (LL_valves lYi)) clsX1 flX1_18 (Nat.le_of_ble_eq_true rfl) _ (o_lay1 i _) (hvI rfl ((LL_valves_set_otherSide _ _).trans (LL_valves_set_valveChamber _ _))) dX1_addValve_35 ?_
    refine r_iload_n X (x := x3) dX1_addValve_38 rfl ?_
    refine r_iastore X (f := LL_conductance lYi) (ws1 := wAll k T R (updF ly i (LL_set_conductance (LL_set_otherSide (LL_set_valveChamber lYi (upd (LL_valveChamber lYi) (ix (LL_valves lYi)) x1)) (upd (LL_otherSide lYi) (ix (LL_valves lYi)) x2)) (upd (LL_conductance lYi) (ix (LL_valves lYi)) x3))) rc hn rp tp ee st) _ (heI (a_lay1_conductance i _) ((LL_conductance_set_otherSide _ _).trans (LL_conductance_set_valveChamber _ _))) g19 (s_lay_conductance i (LL_set_otherSide (LL_set_valveChamber lYi (upd (LL_valveChamber lYi) (ix (LL_valves lYi)) x1)) (upd (LL_otherSide lYi) (ix (LL_valves lYi)) x2)) (upd (LL_conductance lYi) (ix (LL_valves lYi)) x3)) dX1_addValve_39 ?_
    refine r_aload_n X (x := k.b + (4 + 17 * i.val)) dX1_addValve_40 rfl ?_
    refine r_getfield X (v := .ref (k.b + (4 + 17 * i.val + 13))) clsX1 flX1_61 (Nat.le_of_ble_eq_true rfl) _ (o_lay1 i _) rfl dX1_addValve_41 ?_
    refine r_aload_n X (x := k.b + (4 + 17 * i.val)) dX1_addValve_44 rfl ?_
    refine r_getfield X (v := .int (LL_valves lYi)) clsX1 flX1_18 (Nat.le_of_ble_eq_true rfl) _ (o_lay1 i _) (hvI rfl ((LL_valves_set_conductance _ _).trans ((LL_valves_set_otherSide _ _).trans (LL_valves_set_valveChamber _ _)))) dX1_addValve_45 ?_
    refine r_iload X (x := x4) dX1_addValve_48 rfl ?_
    refine r_iastore X (f := LL_firstRule lYi) (ws1 := wAll k T R (updF ly i (LL_set_firstRule (LL_set_conductance (LL_set_otherSide (LL_set_valveChamber lYi (upd (LL_valveChamber lYi) (ix (LL_valves lYi)) x1)) (upd (LL_otherSide lYi) (ix (LL_valves lYi)) x2)) (upd (LL_conductance lYi) (ix (LL_valves lYi)) x3)) (upd (LL_firstRule lYi) (ix (LL_valves lYi)) x4))) rc hn rp tp ee st) _ (heI (a_lay1_firstRule i _) ((LL_firstRule_set_conductance _ _).trans ((LL_firstRule_set_otherSide _ _).trans (LL_firstRule_set_valveChamber _ _)))) g19 (s_lay_firstRule i (LL_set_conductance (LL_set_otherSide (LL_set_valveChamber lYi (upd (LL_valveChamber lYi) (ix (LL_valves lYi)) x1)) (upd (LL_otherSide lYi) (ix (LL_valves lYi)) x2)) (upd (LL_conductance lYi) (ix (LL_valves lYi)) x3)) (upd (LL_firstRule lYi) (ix (LL_valves lYi)) x4)) dX1_addValve_50 ?_
    refine r_aload_n X (x := k.b + (4 + 17 * i.val)) dX1_addValve_51 rfl ?_
    refine r_dup X dX1_addValve_52 rfl ?_
    refine r_getfield X (v := .int (LL_valves lYi)) clsX1 flX1_18 (Nat.le_of_ble_eq_true rfl) _ (o_lay1 i _) (hvI rfl ((LL_valves_set_firstRule _ _).trans ((LL_valves_set_conductance _ _).trans ((LL_valves_set_otherSide _ _).trans (LL_valves_set_valveChamber _ _))))) dX1_addValve_53 ?_
    refine r_iconst X (v := 1) dX1_addValve_56 rfl ?_
    refine r_iadd X dX1_addValve_57 ?_
    refine r_putfield X (ws1 := wAll k T R (updF ly i (LL_set_valves (LL_set_firstRule (LL_set_conductance (LL_set_otherSide (LL_set_valveChamber lYi (upd (LL_valveChamber lYi) (ix (LL_valves lYi)) x1)) (upd (LL_otherSide lYi) (ix (LL_valves lYi)) x2)) (upd (LL_conductance lYi) (ix (LL_valves lYi)) x3)) (upd (LL_firstRule lYi) (ix (LL_valves lYi)) x4)) ((LL_valves lYi) + 1))) rc hn rp tp ee st) clsX1 flX1_18 (Nat.le_of_ble_eq_true rfl) rfl rfl rfl _ (o_lay1 i _) (Nat.le_of_ble_eq_true rfl) (s_lay_valves i (LL_set_firstRule (LL_set_conductance (LL_set_otherSide (LL_set_valveChamber lYi (upd (LL_valveChamber lYi) (ix (LL_valves lYi)) x1)) (upd (LL_otherSide lYi) (ix (LL_valves lYi)) x2)) (upd (LL_conductance lYi) (ix (LL_valves lYi)) x3)) (upd (LL_firstRule lYi) (ix (LL_valves lYi)) x4)) ((LL_valves lYi) + 1)) dX1_addValve_58 ?_
    obtain rfl := Option.some.inj hf
    exact r_return X hQ rfl rfl (Nat.le_of_ble_eq_true rfl) (Nat.le_of_ble_eq_true rfl) dX1_addValve_61
  · replace hf := ifF hf c6
    obtain rfl := Option.some.inj hf
    exact r_return X hQ rfl rfl (Nat.le_of_ble_eq_true rfl) (Nat.le_of_ble_eq_true rfl) dX1_addValve_9
set_option maxRecDepth 100000 in
set_option maxHeartbeats 4000000 in
theorem K1_addFlange {k : KT} {T : TT} {R : RR} {ly : Fin 2 → LL} {rc : RC} {hn : HN} {rp : RP} {tp : TP} {ee : EE} {st : Fin 12 → SS} {i : Fin 2} {lYi : LL} {x1 : Int32} {x2 : Int32} {r : (LL)} (hf : f1_addFlange  lYi x1 x2 = some r) : CT k strs yX1_addFlange cX1_addFlange 3 none (rmD 0 0 0) 0 0 [.ref (k.b + (4 + 17 * i.val)), .int x1, .int x2] (wAll k T R (updF ly i lYi) rc hn rp tp ee st) (none) (wAll k T R (updF ly i r) rc hn rp tp ee st) := by
  refine CT.of (by decide) (Nat.le_of_ble_eq_true rfl) ?_
  intro z X hQ
  show VW k z 0 0 (wAll k T R (updF ly i lYi) rc hn rp tp ee st) 0 [some (.ref (k.b + (4 + 17 * i.val))), some (.int x1), some (.int x2)] []
  unfold f1_addFlange at hf
  refine r_aload_n X (x := k.b + (4 + 17 * i.val)) dX1_addFlange_0 rfl ?_
  refine r_getfield X (v := .int (LL_flanges lYi)) clsX1 flX1_21 (Nat.le_of_ble_eq_true rfl) _ (o_lay1 i _) rfl dX1_addFlange_1 ?_
  refine r_bipush X (v := 24) dX1_addFlange_4 rfl ?_
  refine r_icmp_lt X 10 dX1_addFlange_6 rfl (fun c6 => ?_) (fun c6 => ?_)
  · replace hf := ifT hf c6
    refine r_aload_n X (x := k.b + (4 + 17 * i.val)) dX1_addFlange_10 rfl ?_
    refine r_getfield X (v := .ref (k.b + (4 + 17 * i.val + 14))) clsX1 flX1_64 (Nat.le_of_ble_eq_true rfl) _ (o_lay1 i _) rfl dX1_addFlange_11 ?_
    refine r_aload_n X (x := k.b + (4 + 17 * i.val)) dX1_addFlange_14 rfl ?_
    refine r_getfield X (v := .int (LL_flanges lYi)) clsX1 flX1_21 (Nat.le_of_ble_eq_true rfl) _ (o_lay1 i _) rfl dX1_addFlange_15 ?_
    refine r_iload_n X (x := x1) dX1_addFlange_18 rfl ?_
    obtain ⟨g19, hf⟩ := gdS hf
    refine r_iastore X (f := LL_flangeChamber lYi) (ws1 := wAll k T R (updF ly i (LL_set_flangeChamber lYi (upd (LL_flangeChamber lYi) (ix (LL_flanges lYi)) x1))) rc hn rp tp ee st) _ (a_lay1_flangeChamber i _) g19 (s_lay_flangeChamber i lYi (upd (LL_flangeChamber lYi) (ix (LL_flanges lYi)) x1)) dX1_addFlange_19 ?_
    refine r_aload_n X (x := k.b + (4 + 17 * i.val)) dX1_addFlange_20 rfl ?_
    refine r_getfield X (v := .ref (k.b + (4 + 17 * i.val + 15))) clsX1 flX1_67 (Nat.le_of_ble_eq_true rfl) _ (o_lay1 i _) rfl dX1_addFlange_21 ?_
    refine r_aload_n X (x := k.b + (4 + 17 * i.val)) dX1_addFlange_24 rfl ?_
    refine r_getfield X (v := .int (LL_flanges lYi)) clsX1 flX1_21 (Nat.le_of_ble_eq_true rfl) _ (o_lay1 i _) (hvI rfl (LL_flanges_set_flangeChamber _ _)) dX1_addFlange_25 ?_
    refine r_iload_n X (x := x2) dX1_addFlange_28 rfl ?_
    refine r_iastore X (f := LL_firstLeak lYi) (ws1 := wAll k T R (updF ly i (LL_set_firstLeak (LL_set_flangeChamber lYi (upd (LL_flangeChamber lYi) (ix (LL_flanges lYi)) x1)) (upd (LL_firstLeak lYi) (ix (LL_flanges lYi)) x2))) rc hn rp tp ee st) _ (heI (a_lay1_firstLeak i _) (LL_firstLeak_set_flangeChamber _ _)) g19 (s_lay_firstLeak i (LL_set_flangeChamber lYi (upd (LL_flangeChamber lYi) (ix (LL_flanges lYi)) x1)) (upd (LL_firstLeak lYi) (ix (LL_flanges lYi)) x2)) dX1_addFlange_29 ?_
    refine r_aload_n X (x := k.b + (4 + 17 * i.val)) dX1_addFlange_30 rfl ?_
    refine r_dup X dX1_addFlange_31 rfl ?_
    refine r_getfield X (v := .int (LL_flanges lYi)) clsX1 flX1_21 (Nat.le_of_ble_eq_true rfl) _ (o_lay1 i _) (hvI rfl ((LL_flanges_set_firstLeak _ _).trans (LL_flanges_set_flangeChamber _ _))) dX1_addFlange_32 ?_
    refine r_iconst X (v := 1) dX1_addFlange_35 rfl ?_
    refine r_iadd X dX1_addFlange_36 ?_
    refine r_putfield X (ws1 := wAll k T R (updF ly i (LL_set_flanges (LL_set_firstLeak (LL_set_flangeChamber lYi (upd (LL_flangeChamber lYi) (ix (LL_flanges lYi)) x1)) (upd (LL_firstLeak lYi) (ix (LL_flanges lYi)) x2)) ((LL_flanges lYi) + 1))) rc hn rp tp ee st) clsX1 flX1_21 (Nat.le_of_ble_eq_true rfl) rfl rfl rfl _ (o_lay1 i _) (Nat.le_of_ble_eq_true rfl) (s_lay_flanges i (LL_set_firstLeak (LL_set_flangeChamber lYi (upd (LL_flangeChamber lYi) (ix (LL_flanges lYi)) x1)) (upd (LL_firstLeak lYi) (ix (LL_flanges lYi)) x2)) ((LL_flanges lYi) + 1)) dX1_addFlange_37 ?_
    obtain rfl := Option.some.inj hf
    exact r_return X hQ rfl rfl (Nat.le_of_ble_eq_true rfl) (Nat.le_of_ble_eq_true rfl) dX1_addFlange_40
  · replace hf := ifF hf c6
    obtain rfl := Option.some.inj hf
    exact r_return X hQ rfl rfl (Nat.le_of_ble_eq_true rfl) (Nat.le_of_ble_eq_true rfl) dX1_addFlange_9
set_option maxRecDepth 100000 in
set_option maxHeartbeats 4000000 in
theorem K8_byteAt {k : KT} {T : TT} {R : RR} {ly : Fin 2 → LL} {rc : RC} {hn : HN} {rp : RP} {tp : TP} {ee : EE} {st : Fin 12 → SS}  {x1 : Int32} {r : Int32} (hf : f8_byteAt T  x1 = some r) : CT k strs yX8_byteAt cX8_byteAt 2 (some .int) (rmD 0 0 0) 0 0 [.ref (k.b + (1)), .int x1] (wAll k T R ly rc hn rp tp ee st) (some (.int r)) (wAll k T R ly rc hn rp tp ee st) := by
  refine CT.of (by decide) (Nat.le_of_ble_eq_true rfl) ?_
  intro z X hQ
  show VW k z 0 0 (wAll k T R ly rc hn rp tp ee st) 0 [some (.ref (k.b + (1))), some (.int x1)] []
  unfold f8_byteAt at hf
  refine r_iload_n X (x := x1) dX8_byteAt_0 rfl ?_
  refine r_if_lt X 25 dX8_byteAt_1 rfl (fun c1 => ?_) (fun c1 => ?_)
  · replace hf := ifT hf c1
    refine r_iconst X (v := (-1)) dX8_byteAt_25 rfl ?_
    obtain rfl := Option.some.inj hf
    exact r_ireturn X hQ rfl rfl (Nat.le_of_ble_eq_true rfl) (Nat.le_of_ble_eq_true rfl) dX8_byteAt_26
  · replace hf := ifF hf c1
    refine r_iload_n X (x := x1) dX8_byteAt_4 rfl ?_
    refine r_aload_n X (x := k.b + (1)) dX8_byteAt_5 rfl ?_
    refine r_getfield X (v := .int (TT_length T)) clsX8 flX8_15 (Nat.le_of_ble_eq_true rfl) _ o_text rfl dX8_byteAt_6 ?_
    refine r_icmp_ge X 25 dX8_byteAt_9 rfl (fun c9 => ?_) (fun c9 => ?_)
    · replace hf := ifT hf c9
      refine r_iconst X (v := (-1)) dX8_byteAt_25 rfl ?_
      obtain rfl := Option.some.inj hf
      exact r_ireturn X hQ rfl rfl (Nat.le_of_ble_eq_true rfl) (Nat.le_of_ble_eq_true rfl) dX8_byteAt_26
    · replace hf := ifF hf c9
      refine r_aload_n X (x := k.b + (1)) dX8_byteAt_12 rfl ?_
      refine r_getfield X (v := .ref (k.b + (2))) clsX8 flX8_9 (Nat.le_of_ble_eq_true rfl) _ o_text rfl dX8_byteAt_13 ?_
      refine r_iload_n X (x := x1) dX8_byteAt_16 rfl ?_
      obtain ⟨g17, hf⟩ := gdS hf
      refine r_baload X (f := TT_bytes T) _ a_T_bytes g17 dX8_byteAt_17 ?_
      refine r_sipush X (v := 255) dX8_byteAt_18 rfl ?_
      refine r_iand X dX8_byteAt_21 ?_
      refine r_goto X 26 dX8_byteAt_22 rfl ?_
      obtain rfl := Option.some.inj hf
      exact r_ireturn X hQ rfl rfl (Nat.le_of_ble_eq_true rfl) (Nat.le_of_ble_eq_true rfl) dX8_byteAt_26
set_option maxRecDepth 100000 in
set_option maxHeartbeats 4000000 in
theorem B2_kindOf_B35 {k : KT} {z : ZT} {T : TT} {R : RR} {ly : Fin 2 → LL} {rc : RC} {hn : HN} {rp : RP} {tp : TP} {ee : EE} {st : Fin 12 → SS} {r : Int32} (X : XX k strs z RX2 cX2_kindOf 1 (some .int) (rmD 0 0 0)) (hQ : zQ z = MQ (zB z) (Qof k (some (.int r)) (wAll k T R ly rc hn rp tp ee st)) (zA z) (zS z) 0 0 (kA k)) (x0 : Int32) (hf : f2_kindOf_B35  x0 = some r) : VW k z 0 0 (wAll k T R ly rc hn rp tp ee st) 35 [some (.int x0)] [] := by
  unfold f2_kindOf_B35 at hf
  refine r_iload_n X (x := x0) dX2_kindOf_35 rfl ?_
  refine r_bipush X (v := 59) dX2_kindOf_36 rfl ?_
  suffices K38 : VW k z 0 0 (wAll k T R ly rc hn rp tp ee st) 46 [some (.int x0)] [.int (if x0 = 59 then (3 : Int32) else (4 : Int32))] by
    refine r_icmp_ne X 45 dX2_kindOf_38 rfl (fun c38 => ?_) (fun c38 => ?_)
    · refine r_iconst X (v := 4) dX2_kindOf_45 rfl ?_
      rw [if_neg c38] at K38
      exact K38
    · refine r_iconst X (v := 3) dX2_kindOf_41 rfl ?_
      refine r_goto X 46 dX2_kindOf_42 rfl ?_
      rw [if_pos c38] at K38
      exact K38
  obtain rfl := Option.some.inj hf
  exact r_ireturn X hQ rfl rfl (Nat.le_of_ble_eq_true rfl) (Nat.le_of_ble_eq_true rfl) dX2_kindOf_46
set_option maxRecDepth 100000 in
set_option maxHeartbeats 4000000 in
theorem B2_kindOf_B21 {k : KT} {z : ZT} {T : TT} {R : RR} {ly : Fin 2 → LL} {rc : RC} {hn : HN} {rp : RP} {tp : TP} {ee : EE} {st : Fin 12 → SS} {r : Int32} (X : XX k strs z RX2 cX2_kindOf 1 (some .int) (rmD 0 0 0)) (hQ : zQ z = MQ (zB z) (Qof k (some (.int r)) (wAll k T R ly rc hn rp tp ee st)) (zA z) (zS z) 0 0 (kA k)) (x0 : Int32) (hf : f2_kindOf_B21  x0 = some r) : VW k z 0 0 (wAll k T R ly rc hn rp tp ee st) 21 [some (.int x0)] [] := by
  unfold f2_kindOf_B21 at hf
  refine r_iload_n X (x := x0) dX2_kindOf_21 rfl ?_
  refine r_bipush X (v := 48) dX2_kindOf_22 rfl ?_
  refine r_icmp_lt X 35 dX2_kindOf_24 rfl (fun c24 => ?_) (fun c24 => ?_)
  · replace hf := ifT hf c24
    exact B2_kindOf_B35 X hQ x0 hf
  · replace hf := ifF hf c24
    refine r_iload_n X (x := x0) dX2_kindOf_27 rfl ?_
    refine r_bipush X (v := 57) dX2_kindOf_28 rfl ?_
    refine r_icmp_gt X 35 dX2_kindOf_30 rfl (fun c30 => ?_) (fun c30 => ?_)
    · replace hf := ifT hf c30
      exact B2_kindOf_B35 X hQ x0 hf
    · replace hf := ifF hf c30
      refine r_iconst X (v := 2) dX2_kindOf_33 rfl ?_
      obtain rfl := Option.some.inj hf
      exact r_ireturn X hQ rfl rfl (Nat.le_of_ble_eq_true rfl) (Nat.le_of_ble_eq_true rfl) dX2_kindOf_34
set_option maxRecDepth 100000 in
set_option maxHeartbeats 4000000 in
theorem K2_kindOf {k : KT} {T : TT} {R : RR} {ly : Fin 2 → LL} {rc : RC} {hn : HN} {rp : RP} {tp : TP} {ee : EE} {st : Fin 12 → SS}  {x0 : Int32} {r : Int32} (hf : f2_kindOf   x0 = some r) : CT k strs yX2_kindOf cX2_kindOf 1 (some .int) (rmD 0 0 0) 0 0 [.int x0] (wAll k T R ly rc hn rp tp ee st) (some (.int r)) (wAll k T R ly rc hn rp tp ee st) := by
  refine CT.of (by decide) (Nat.le_of_ble_eq_true rfl) ?_
  intro z X hQ
  show VW k z 0 0 (wAll k T R ly rc hn rp tp ee st) 0 [some (.int x0)] []
  unfold f2_kindOf at hf
  refine r_iload_n X (x := x0) dX2_kindOf_0 rfl ?_
  refine r_iconst X (v := (-1)) dX2_kindOf_1 rfl ?_
  refine r_icmp_ne X 7 dX2_kindOf_2 rfl (fun c2 => ?_) (fun c2 => ?_)
  · replace hf := ifF hf c2
    refine r_iload_n X (x := x0) dX2_kindOf_7 rfl ?_
    refine r_bipush X (v := 97) dX2_kindOf_8 rfl ?_
    refine r_icmp_lt X 21 dX2_kindOf_10 rfl (fun c10 => ?_) (fun c10 => ?_)
    · replace hf := ifT hf c10
      exact B2_kindOf_B21 X hQ x0 hf
    · replace hf := ifF hf c10
      refine r_iload_n X (x := x0) dX2_kindOf_13 rfl ?_
      refine r_bipush X (v := 122) dX2_kindOf_14 rfl ?_
      refine r_icmp_gt X 21 dX2_kindOf_16 rfl (fun c16 => ?_) (fun c16 => ?_)
      · replace hf := ifT hf c16
        exact B2_kindOf_B21 X hQ x0 hf
      · replace hf := ifF hf c16
        refine r_iconst X (v := 1) dX2_kindOf_19 rfl ?_
        obtain rfl := Option.some.inj hf
        exact r_ireturn X hQ rfl rfl (Nat.le_of_ble_eq_true rfl) (Nat.le_of_ble_eq_true rfl) dX2_kindOf_20
  · replace hf := ifT hf c2
    refine r_iconst X (v := 0) dX2_kindOf_5 rfl ?_
    obtain rfl := Option.some.inj hf
    exact r_ireturn X hQ rfl rfl (Nat.le_of_ble_eq_true rfl) (Nat.le_of_ble_eq_true rfl) dX2_kindOf_6
set_option maxRecDepth 100000 in
set_option maxHeartbeats 4000000 in
theorem B2_advance_B179 {k : KT} {z : ZT} {T : TT} {ly : Fin 2 → LL} {rc : RC} {hn : HN} {rp : RP} {tp : TP} {ee : EE} {st : Fin 12 → SS} {r : (RR)} (X : XX k strs z RX2 cX2_advance 2 none (rmD 1 0 0)) (hQ : zQ z = MQ (zB z) (Qof k (none) (wAll k T r ly rc hn rp tp ee st)) (zA z) (zS z) 0 0 (kA k)) : ∀ (fu : Nat) (R : RR) (x1 : Int32), f2_advance_B179 T fu R x1 = some r → VW k z 0 0 (wAll k T R ly rc hn rp tp ee st) 179 [some (.ref (k.b + (3))), some (.int x1)] [] := by
  intro fu
  induction fu with
  | zero =>
    intro R x1 hf
    rw [f2_advance_B179] at hf
    cases hf
  | succ fu ih =>
    intro R x1 hf
    rw [f2_advance_B179] at hf
    refine r_aload_n X (x := k.b + (3)) dX2_advance_179 rfl ?_
    refine r_getfield X (v := .int (RR_kind R)) clsX2 flX2_11 (Nat.le_of_ble_eq_true rfl) _ o_reader rfl dX2_advance_180 ?_
    refine r_iconst X (v := 2) dX2_advance_183 rfl ?_
    refine r_icmp_ne X 235 dX2_advance_184 rfl (fun c184 => ?_) (fun c184 => ?_)
    · replace hf := ifF hf c184
      obtain rfl := Option.some.inj hf
      exact r_return X hQ rfl rfl (Nat.le_of_ble_eq_true rfl) (Nat.le_of_ble_eq_true rfl) dX2_advance_235
    · replace hf := ifT hf c184
      refine r_iload_n X (x := x1) dX2_advance_187 rfl ?_
      refine r_aload_n X (x := k.b + (3)) dX2_advance_188 rfl ?_
      refine r_getfield X (v := .int (RR_end_ R)) clsX2 flX2_18 (Nat.le_of_ble_eq_true rfl) _ o_reader rfl dX2_advance_189 ?_
      refine r_icmp_ge X 235 dX2_advance_192 rfl (fun c192 => ?_) (fun c192 => ?_)
      · replace hf := ifT hf c192
        obtain rfl := Option.some.inj hf
        exact r_return X hQ rfl rfl (Nat.le_of_ble_eq_true rfl) (Nat.le_of_ble_eq_true rfl) dX2_advance_235
      · replace hf := ifF hf c192
        refine r_iload_n X (x := x1) dX2_advance_195 rfl ?_
        refine r_aload_n X (x := k.b + (3)) dX2_advance_196 rfl ?_
        refine r_getfield X (v := .int (RR_start R)) clsX2 flX2_15 (Nat.le_of_ble_eq_true rfl) _ o_reader rfl dX2_advance_197 ?_
        refine r_bipush X (v := 7) dX2_advance_200 rfl ?_
        refine r_iadd X dX2_advance_202 ?_
        refine r_icmp_ge X 235 dX2_advance_203 rfl (fun c203 => ?_) (fun c203 => ?_)
        · replace hf := ifT hf c203
          obtain rfl := Option.some.inj hf
          exact r_return X hQ rfl rfl (Nat.le_of_ble_eq_true rfl) (Nat.le_of_ble_eq_true rfl) dX2_advance_235
        · replace hf := ifF hf c203
          refine r_aload_n X (x := k.b + (3)) dX2_advance_206 rfl ?_
          refine r_aload_n X (x := k.b + (3)) dX2_advance_207 rfl ?_
          refine r_getfield X (v := .int (RR_value R)) clsX2 flX2_21 (Nat.le_of_ble_eq_true rfl) _ o_reader rfl dX2_advance_208 ?_
          refine r_bipush X (v := 10) dX2_advance_211 rfl ?_
          refine r_imul X dX2_advance_213 ?_
          refine r_aload_n X (x := k.b + (3)) dX2_advance_214 rfl ?_
          refine r_getfield X (v := .ref (k.b + (1))) clsX2 flX2_30 (Nat.le_of_ble_eq_true rfl) _ o_reader rfl dX2_advance_215 ?_
          refine r_iload_n X (x := x1) dX2_advance_218 rfl ?_
          obtain ⟨u219, h219, hf⟩ := bdS hf
          refine r_callV0 X [.int x1] [.int ((RR_value R) * 10), .ref (k.b + (3))] (K8_byteAt h219) lkX2_42 clsX8 rfl _ o_text (by decide) (Nat.le_of_ble_eq_true rfl) rfl rfl (Nat.le_of_ble_eq_true rfl) rfl rfl (Nat.zero_le _) (Nat.zero_le _) dX2_advance_219 ?_
          refine r_iadd X dX2_advance_222 ?_
          refine r_bipush X (v := 48) dX2_advance_223 rfl ?_
          refine r_isub X dX2_advance_225 ?_
          refine r_putfield X (ws1 := wAll k T (RR_set_value R ((((RR_value R) * 10) + u219) - 48)) ly rc hn rp tp ee st) clsX2 flX2_21 (Nat.le_of_ble_eq_true rfl) rfl rfl rfl _ o_reader (Nat.le_of_ble_eq_true rfl) (s_R_value ((((RR_value R) * 10) + u219) - 48)) dX2_advance_226 ?_
          refine r_iinc X (x := x1) (v := x1 + 1) [some (.ref (k.b + (3))), some (.int (x1 + 1))] dX2_advance_229 rfl rfl rfl ?_
          refine r_goto X 179 dX2_advance_232 rfl ?_
          exact ih (RR_set_value R ((((RR_value R) * 10) + u219) - 48)) (x1 + 1) hf
set_option maxRecDepth 100000 in
set_option maxHeartbeats 4000000 in
theorem B2_advance_B121 {k : KT} {z : ZT} {T : TT} {ly : Fin 2 → LL} {rc : RC} {hn : HN} {rp : RP} {tp : TP} {ee : EE} {st : Fin 12 → SS} {r : (RR)} (X : XX k strs z RX2 cX2_advance 2 none (rmD 1 0 0)) (hQ : zQ z = MQ (zB z) (Qof k (none) (wAll k T r ly rc hn rp tp ee st)) (zA z) (zS z) 0 0 (kA k)) : ∀ (fu : Nat) (R : RR), f2_advance_B121 T fu R = some r → VW k z 0 0 (wAll k T R ly rc hn rp tp ee st) 121 [some (.ref (k.b + (3))), none] [] := by
  intro fu
  induction fu with
  | zero =>
    intro R hf
    rw [f2_advance_B121] at hf
    cases hf
  | succ fu ih =>
    intro R hf
    rw [f2_advance_B121] at hf
    refine r_aload_n X (x := k.b + (3)) dX2_advance_121 rfl ?_
    refine r_getfield X (v := .int (RR_end_ R)) clsX2 flX2_18 (Nat.le_of_ble_eq_true rfl) _ o_reader rfl dX2_advance_122 ?_
    refine r_aload_n X (x := k.b + (3)) dX2_advance_125 rfl ?_
    refine r_getfield X (v := .ref (k.b + (1))) clsX2 flX2_30 (Nat.le_of_ble_eq_true rfl) _ o_reader rfl dX2_advance_126 ?_
    refine r_getfield X (v := .int (TT_length T)) clsX8 flX2_37 (Nat.le_of_ble_eq_true rfl) _ o_text rfl dX2_advance_129 ?_
    refine r_icmp_ge X 169 dX2_advance_132 rfl (fun c132 => ?_) (fun c132 => ?_)
    · replace hf := ifT hf c132
      refine r_aload_n X (x := k.b + (3)) dX2_advance_169 rfl ?_
      refine r_iconst X (v := 0) dX2_advance_170 rfl ?_
      refine r_putfield X (ws1 := wAll k T (RR_set_value R 0) ly rc hn rp tp ee st) clsX2 flX2_21 (Nat.le_of_ble_eq_true rfl) rfl rfl rfl _ o_reader (Nat.le_of_ble_eq_true rfl) (s_R_value 0) dX2_advance_171 ?_
      refine r_aload_n X (x := k.b + (3)) dX2_advance_174 rfl ?_
      refine r_getfield X (v := .int (RR_start R)) clsX2 flX2_15 (Nat.le_of_ble_eq_true rfl) _ o_reader (hvI rfl (RR_start_set_value _ _)) dX2_advance_175 ?_
      refine r_istore_n X [some (.ref (k.b + (3))), some (.int (RR_start R))] dX2_advance_178 (Nat.le_of_ble_eq_true rfl) rfl ?_
      exact B2_advance_B179 X hQ FU (RR_set_value R 0) (RR_start R) hf
    · replace hf := ifF hf c132
      refine r_aload_n X (x := k.b + (3)) dX2_advance_135 rfl ?_
      refine r_getfield X (v := .ref (k.b + (1))) clsX2 flX2_30 (Nat.le_of_ble_eq_true rfl) _ o_reader rfl dX2_advance_136 ?_
      refine r_aload_n X (x := k.b + (3)) dX2_advance_139 rfl ?_
      refine r_getfield X (v := .int (RR_end_ R)) clsX2 flX2_18 (Nat.le_of_ble_eq_true rfl) _ o_reader rfl dX2_advance_140 ?_
      obtain ⟨u143, h143, hf⟩ := bdS hf
      refine r_callV0 X [.int (RR_end_ R)] [] (K8_byteAt h143) lkX2_42 clsX8 rfl _ o_text (by decide) (Nat.le_of_ble_eq_true rfl) rfl rfl (Nat.le_of_ble_eq_true rfl) rfl rfl (Nat.zero_le _) (Nat.zero_le _) dX2_advance_143 ?_
      obtain ⟨u146, h146, hf⟩ := bdS hf
      refine r_callS0 X [.int u143] [] (K2_kindOf h146) lkX2_46 (by decide) (Nat.le_of_ble_eq_true rfl) rfl rfl (Nat.le_of_ble_eq_true rfl) rfl rfl (Nat.zero_le _) (Nat.zero_le _) dX2_advance_146 ?_
      refine r_aload_n X (x := k.b + (3)) dX2_advance_149 rfl ?_
      refine r_getfield X (v := .int (RR_kind R)) clsX2 flX2_11 (Nat.le_of_ble_eq_true rfl) _ o_reader rfl dX2_advance_150 ?_
      refine r_icmp_ne X 169 dX2_advance_153 rfl (fun c153 => ?_) (fun c153 => ?_)
      · replace hf := ifF hf c153
        refine r_aload_n X (x := k.b + (3)) dX2_advance_169 rfl ?_
        refine r_iconst X (v := 0) dX2_advance_170 rfl ?_
        refine r_putfield X (ws1 := wAll k T (RR_set_value R 0) ly rc hn rp tp ee st) clsX2 flX2_21 (Nat.le_of_ble_eq_true rfl) rfl rfl rfl _ o_reader (Nat.le_of_ble_eq_true rfl) (s_R_value 0) dX2_advance_171 ?_
        refine r_aload_n X (x := k.b + (3)) dX2_advance_174 rfl ?_
        refine r_getfield X (v := .int (RR_start R)) clsX2 flX2_15 (Nat.le_of_ble_eq_true rfl) _ o_reader (hvI rfl (RR_start_set_value _ _)) dX2_advance_175 ?_
        refine r_istore_n X [some (.ref (k.b + (3))), some (.int (RR_start R))] dX2_advance_178 (Nat.le_of_ble_eq_true rfl) rfl ?_
        exact B2_advance_B179 X hQ FU (RR_set_value R 0) (RR_start R) hf
      · replace hf := ifT hf c153
        refine r_aload_n X (x := k.b + (3)) dX2_advance_156 rfl ?_
        refine r_dup X dX2_advance_157 rfl ?_
        refine r_getfield X (v := .int (RR_end_ R)) clsX2 flX2_18 (Nat.le_of_ble_eq_true rfl) _ o_reader rfl dX2_advance_158 ?_
        refine r_iconst X (v := 1) dX2_advance_161 rfl ?_
        refine r_iadd X dX2_advance_162 ?_
        refine r_putfield X (ws1 := wAll k T (RR_set_end_ R ((RR_end_ R) + 1)) ly rc hn rp tp ee st) clsX2 flX2_18 (Nat.le_of_ble_eq_true rfl) rfl rfl rfl _ o_reader (Nat.le_of_ble_eq_true rfl) (s_R_end_ ((RR_end_ R) + 1)) dX2_advance_163 ?_
        refine r_goto X 121 dX2_advance_166 rfl ?_
        exact ih (RR_set_end_ R ((RR_end_ R) + 1)) hf
set_option maxRecDepth 100000 in
set_option maxHeartbeats 4000000 in
theorem B2_advance_B67 {k : KT} {z : ZT} {T : TT} {ly : Fin 2 → LL} {rc : RC} {hn : HN} {rp : RP} {tp : TP} {ee : EE} {st : Fin 12 → SS} {r : (RR)} (X : XX k strs z RX2 cX2_advance 2 none (rmD 1 0 0)) (hQ : zQ z = MQ (zB z) (Qof k (none) (wAll k T r ly rc hn rp tp ee st)) (zA z) (zS z) 0 0 (kA k)) (R : RR) (hf : f2_advance_B67 T R = some r) : VW k z 0 0 (wAll k T R ly rc hn rp tp ee st) 67 [some (.ref (k.b + (3))), none] [] := by
  unfold f2_advance_B67 at hf
  refine r_aload_n X (x := k.b + (3)) dX2_advance_67 rfl ?_
  refine r_aload_n X (x := k.b + (3)) dX2_advance_68 rfl ?_
  refine r_getfield X (v := .ref (k.b + (1))) clsX2 flX2_30 (Nat.le_of_ble_eq_true rfl) _ o_reader rfl dX2_advance_69 ?_
  refine r_aload_n X (x := k.b + (3)) dX2_advance_72 rfl ?_
  refine r_getfield X (v := .int (RR_start R)) clsX2 flX2_15 (Nat.le_of_ble_eq_true rfl) _ o_reader rfl dX2_advance_73 ?_
  obtain ⟨u76, h76, hf⟩ := bdS hf
  refine r_callV0 X [.int (RR_start R)] [.ref (k.b + (3))] (K8_byteAt h76) lkX2_42 clsX8 rfl _ o_text (by decide) (Nat.le_of_ble_eq_true rfl) rfl rfl (Nat.le_of_ble_eq_true rfl) rfl rfl (Nat.zero_le _) (Nat.zero_le _) dX2_advance_76 ?_
  obtain ⟨u79, h79, hf⟩ := bdS hf
  refine r_callS0 X [.int u76] [.ref (k.b + (3))] (K2_kindOf h79) lkX2_46 (by decide) (Nat.le_of_ble_eq_true rfl) rfl rfl (Nat.le_of_ble_eq_true rfl) rfl rfl (Nat.zero_le _) (Nat.zero_le _) dX2_advance_79 ?_
  refine r_putfield X (ws1 := wAll k T (RR_set_kind R u79) ly rc hn rp tp ee st) clsX2 flX2_11 (Nat.le_of_ble_eq_true rfl) rfl rfl rfl _ o_reader (Nat.le_of_ble_eq_true rfl) (s_R_kind u79) dX2_advance_82 ?_
  refine r_aload_n X (x := k.b + (3)) dX2_advance_85 rfl ?_
  refine r_aload_n X (x := k.b + (3)) dX2_advance_86 rfl ?_
  refine r_getfield X (v := .int (RR_start R)) clsX2 flX2_15 (Nat.le_of_ble_eq_true rfl) _ o_reader (hvI rfl (RR_start_set_kind _ _)) dX2_advance_87 ?_
  refine r_iconst X (v := 1) dX2_advance_90 rfl ?_
  refine r_iadd X dX2_advance_91 ?_
  refine r_aload_n X (x := k.b + (3)) dX2_advance_92 rfl ?_
  refine r_getfield X (v := .ref (k.b + (1))) clsX2 flX2_30 (Nat.le_of_ble_eq_true rfl) _ o_reader rfl dX2_advance_93 ?_
  refine r_getfield X (v := .int (TT_length T)) clsX8 flX2_37 (Nat.le_of_ble_eq_true rfl) _ o_text rfl dX2_advance_96 ?_
  refine r_imin X lkX2_49 rfl ⟨(Nat.le_of_ble_eq_true rfl), (Nat.le_of_ble_eq_true rfl)⟩ (Nat.zero_le _) (Nat.zero_le _) dX2_advance_99 ?_
  refine r_putfield X (ws1 := wAll k T (RR_set_end_ (RR_set_kind R u79) (if (TT_length T) < ((RR_start R) + 1) then (TT_length T) else ((RR_start R) + 1))) ly rc hn rp tp ee st) clsX2 flX2_18 (Nat.le_of_ble_eq_true rfl) rfl rfl rfl _ o_reader (Nat.le_of_ble_eq_true rfl) (s_R_end_ (if (TT_length T) < ((RR_start R) + 1) then (TT_length T) else ((RR_start R) + 1))) dX2_advance_102 ?_
  refine r_aload_n X (x := k.b + (3)) dX2_advance_105 rfl ?_
  refine r_getfield X (v := .int u79) clsX2 flX2_11 (Nat.le_of_ble_eq_true rfl) _ o_reader (hvI rfl ((RR_kind_set_end_ _ _).trans (RR_kind_set_kind _ _))) dX2_advance_106 ?_
  refine r_iconst X (v := 1) dX2_advance_109 rfl ?_
  refine r_icmp_eq X 121 dX2_advance_110 rfl (fun c110 => ?_) (fun c110 => ?_)
  · replace hf := ifT hf c110
    exact B2_advance_B121 X hQ FU (RR_set_end_ (RR_set_kind R u79) (if (TT_length T) < ((RR_start R) + 1) then (TT_length T) else ((RR_start R) + 1))) hf
  · replace hf := ifF hf c110
    refine r_aload_n X (x := k.b + (3)) dX2_advance_113 rfl ?_
    refine r_getfield X (v := .int u79) clsX2 flX2_11 (Nat.le_of_ble_eq_true rfl) _ o_reader (hvI rfl ((RR_kind_set_end_ _ _).trans (RR_kind_set_kind _ _))) dX2_advance_114 ?_
    refine r_iconst X (v := 2) dX2_advance_117 rfl ?_
    refine r_icmp_ne X 169 dX2_advance_118 rfl (fun c118 => ?_) (fun c118 => ?_)
    · replace hf := ifF hf c118
      refine r_aload_n X (x := k.b + (3)) dX2_advance_169 rfl ?_
      refine r_iconst X (v := 0) dX2_advance_170 rfl ?_
      refine r_putfield X (ws1 := wAll k T (RR_set_value (RR_set_end_ (RR_set_kind R u79) (if (TT_length T) < ((RR_start R) + 1) then (TT_length T) else ((RR_start R) + 1))) 0) ly rc hn rp tp ee st) clsX2 flX2_21 (Nat.le_of_ble_eq_true rfl) rfl rfl rfl _ o_reader (Nat.le_of_ble_eq_true rfl) (s_R_value 0) dX2_advance_171 ?_
      refine r_aload_n X (x := k.b + (3)) dX2_advance_174 rfl ?_
      refine r_getfield X (v := .int (RR_start R)) clsX2 flX2_15 (Nat.le_of_ble_eq_true rfl) _ o_reader (hvI rfl ((RR_start_set_value _ _).trans ((RR_start_set_end_ _ _).trans (RR_start_set_kind _ _)))) dX2_advance_175 ?_
      refine r_istore_n X [some (.ref (k.b + (3))), some (.int (RR_start R))] dX2_advance_178 (Nat.le_of_ble_eq_true rfl) rfl ?_
      exact B2_advance_B179 X hQ FU (RR_set_value (RR_set_end_ (RR_set_kind R u79) (if (TT_length T) < ((RR_start R) + 1) then (TT_length T) else ((RR_start R) + 1))) 0) (RR_start R) hf
    · replace hf := ifT hf c118
      exact B2_advance_B121 X hQ FU (RR_set_end_ (RR_set_kind R u79) (if (TT_length T) < ((RR_start R) + 1) then (TT_length T) else ((RR_start R) + 1))) hf
set_option maxRecDepth 100000 in
set_option maxHeartbeats 4000000 in
theorem B2_advance_B8 {k : KT} {z : ZT} {T : TT} {ly : Fin 2 → LL} {rc : RC} {hn : HN} {rp : RP} {tp : TP} {ee : EE} {st : Fin 12 → SS} {r : (RR)} (X : XX k strs z RX2 cX2_advance 2 none (rmD 1 0 0)) (hQ : zQ z = MQ (zB z) (Qof k (none) (wAll k T r ly rc hn rp tp ee st)) (zA z) (zS z) 0 0 (kA k)) : ∀ (fu : Nat) (R : RR), f2_advance_B8 T fu R = some r → VW k z 0 0 (wAll k T R ly rc hn rp tp ee st) 8 [some (.ref (k.b + (3))), none] [] := by
  intro fu
  induction fu with
  | zero =>
    intro R hf
    rw [f2_advance_B8] at hf
    cases hf
  | succ fu ih =>
    intro R hf
    rw [f2_advance_B8] at hf
    refine r_aload_n X (x := k.b + (3)) dX2_advance_8 rfl ?_
    refine r_getfield X (v := .int (RR_start R)) clsX2 flX2_15 (Nat.le_of_ble_eq_true rfl) _ o_reader rfl dX2_advance_9 ?_
    refine r_aload_n X (x := k.b + (3)) dX2_advance_12 rfl ?_
    refine r_getfield X (v := .ref (k.b + (1))) clsX2 flX2_30 (Nat.le_of_ble_eq_true rfl) _ o_reader rfl dX2_advance_13 ?_
    refine r_getfield X (v := .int (TT_length T)) clsX8 flX2_37 (Nat.le_of_ble_eq_true rfl) _ o_text rfl dX2_advance_16 ?_
    refine r_icmp_ge X 67 dX2_advance_19 rfl (fun c19 => ?_) (fun c19 => ?_)
    · replace hf := ifT hf c19
      exact B2_advance_B67 X hQ R hf
    · replace hf := ifF hf c19
      refine r_aload_n X (x := k.b + (3)) dX2_advance_22 rfl ?_
      refine r_getfield X (v := .ref (k.b + (1))) clsX2 flX2_30 (Nat.le_of_ble_eq_true rfl) _ o_reader rfl dX2_advance_23 ?_
      refine r_aload_n X (x := k.b + (3)) dX2_advance_26 rfl ?_
      refine r_getfield X (v := .int (RR_start R)) clsX2 flX2_15 (Nat.le_of_ble_eq_true rfl) _ o_reader rfl dX2_advance_27 ?_
      obtain ⟨u30, h30, hf⟩ := bdS hf
      refine r_callV0 X [.int (RR_start R)] [] (K8_byteAt h30) lkX2_42 clsX8 rfl _ o_text (by decide) (Nat.le_of_ble_eq_true rfl) rfl rfl (Nat.le_of_ble_eq_true rfl) rfl rfl (Nat.zero_le _) (Nat.zero_le _) dX2_advance_30 ?_
      refine r_bipush X (v := 32) dX2_advance_33 rfl ?_
      refine r_icmp_eq X 54 dX2_advance_35 rfl (fun c35 => ?_) (fun c35 => ?_)
      · replace hf := ifT hf c35
        refine r_aload_n X (x := k.b + (3)) dX2_advance_54 rfl ?_
        refine r_dup X dX2_advance_55 rfl ?_
        refine r_getfield X (v := .int (RR_start R)) clsX2 flX2_15 (Nat.le_of_ble_eq_true rfl) _ o_reader rfl dX2_advance_56 ?_
        refine r_iconst X (v := 1) dX2_advance_59 rfl ?_
        refine r_iadd X dX2_advance_60 ?_
        refine r_putfield X (ws1 := wAll k T (RR_set_start R ((RR_start R) + 1)) ly rc hn rp tp ee st) clsX2 flX2_15 (Nat.le_of_ble_eq_true rfl) rfl rfl rfl _ o_reader (Nat.le_of_ble_eq_true rfl) (s_R_start ((RR_start R) + 1)) dX2_advance_61 ?_
        refine r_goto X 8 dX2_advance_64 rfl ?_
        exact ih (RR_set_start R ((RR_start R) + 1)) hf
      · replace hf := ifF hf c35
        refine r_aload_n X (x := k.b + (3)) dX2_advance_38 rfl ?_
        refine r_getfield X (v := .ref (k.b + (1))) clsX2 flX2_30 (Nat.le_of_ble_eq_true rfl) _ o_reader rfl dX2_advance_39 ?_
        refine r_aload_n X (x := k.b + (3)) dX2_advance_42 rfl ?_
        refine r_getfield X (v := .int (RR_start R)) clsX2 flX2_15 (Nat.le_of_ble_eq_true rfl) _ o_reader rfl dX2_advance_43 ?_
        obtain ⟨u46, h46, hf⟩ := bdS hf
        refine r_callV0 X [.int (RR_start R)] [] (K8_byteAt h46) lkX2_42 clsX8 rfl _ o_text (by decide) (Nat.le_of_ble_eq_true rfl) rfl rfl (Nat.le_of_ble_eq_true rfl) rfl rfl (Nat.zero_le _) (Nat.zero_le _) dX2_advance_46 ?_
        refine r_bipush X (v := 10) dX2_advance_49 rfl ?_
        refine r_icmp_ne X 67 dX2_advance_51 rfl (fun c51 => ?_) (fun c51 => ?_)
        · replace hf := ifF hf c51
          exact B2_advance_B67 X hQ R hf
        · replace hf := ifT hf c51
          refine r_aload_n X (x := k.b + (3)) dX2_advance_54 rfl ?_
          refine r_dup X dX2_advance_55 rfl ?_
          refine r_getfield X (v := .int (RR_start R)) clsX2 flX2_15 (Nat.le_of_ble_eq_true rfl) _ o_reader rfl dX2_advance_56 ?_
          refine r_iconst X (v := 1) dX2_advance_59 rfl ?_
          refine r_iadd X dX2_advance_60 ?_
          refine r_putfield X (ws1 := wAll k T (RR_set_start R ((RR_start R) + 1)) ly rc hn rp tp ee st) clsX2 flX2_15 (Nat.le_of_ble_eq_true rfl) rfl rfl rfl _ o_reader (Nat.le_of_ble_eq_true rfl) (s_R_start ((RR_start R) + 1)) dX2_advance_61 ?_
          refine r_goto X 8 dX2_advance_64 rfl ?_
          exact ih (RR_set_start R ((RR_start R) + 1)) hf
set_option maxRecDepth 100000 in
set_option maxHeartbeats 4000000 in
theorem K2_advance {k : KT} {T : TT} {R : RR} {ly : Fin 2 → LL} {rc : RC} {hn : HN} {rp : RP} {tp : TP} {ee : EE} {st : Fin 12 → SS}   {r : (RR)} (hf : f2_advance T R  = some r) : CT k strs yX2_advance cX2_advance 2 none (rmD 1 0 0) 0 0 [.ref (k.b + (3))] (wAll k T R ly rc hn rp tp ee st) (none) (wAll k T r ly rc hn rp tp ee st) := by
  refine CT.of (by decide) (Nat.le_of_ble_eq_true rfl) ?_
  intro z X hQ
  show VW k z 0 0 (wAll k T R ly rc hn rp tp ee st) 0 [some (.ref (k.b + (3))), none] []
  unfold f2_advance at hf
  refine r_aload_n X (x := k.b + (3)) dX2_advance_0 rfl ?_
  refine r_aload_n X (x := k.b + (3)) dX2_advance_1 rfl ?_
  refine r_getfield X (v := .int (RR_end_ R)) clsX2 flX2_18 (Nat.le_of_ble_eq_true rfl) _ o_reader rfl dX2_advance_2 ?_
  refine r_putfield X (ws1 := wAll k T (RR_set_start R (RR_end_ R)) ly rc hn rp tp ee st) clsX2 flX2_15 (Nat.le_of_ble_eq_true rfl) rfl rfl rfl _ o_reader (Nat.le_of_ble_eq_true rfl) (s_R_start (RR_end_ R)) dX2_advance_5 ?_
  exact B2_advance_B8 X hQ FU (RR_set_start R (RR_end_ R)) hf
set_option maxRecDepth 100000 in
set_option maxHeartbeats 4000000 in
theorem K2_begin {k : KT} {T : TT} {R : RR} {ly : Fin 2 → LL} {rc : RC} {hn : HN} {rp : RP} {tp : TP} {ee : EE} {st : Fin 12 → SS}   {r : (RR)} (hf : f2_begin T R  = some r) : CT k strs yX2_begin cX2_begin 1 none (rmD 2 0 0) 0 0 [.ref (k.b + (3))] (wAll k T R ly rc hn rp tp ee st) (none) (wAll k T r ly rc hn rp tp ee st) := by
  refine CT.of (by decide) (Nat.le_of_ble_eq_true rfl) ?_
  intro z X hQ
  show VW k z 0 0 (wAll k T R ly rc hn rp tp ee st) 0 [some (.ref (k.b + (3)))] []
  unfold f2_begin at hf
  refine r_aload_n X (x := k.b + (3)) dX2_begin_0 rfl ?_
  refine r_iconst X (v := 0) dX2_begin_1 rfl ?_
  refine r_putfield X (ws1 := wAll k T (RR_set_end_ R 0) ly rc hn rp tp ee st) clsX2 flX2_18 (Nat.le_of_ble_eq_true rfl) rfl rfl rfl _ o_reader (Nat.le_of_ble_eq_true rfl) (s_R_end_ 0) dX2_begin_2 ?_
  refine r_aload_n X (x := k.b + (3)) dX2_begin_5 rfl ?_
  refine r_iconst X (v := 0) dX2_begin_6 rfl ?_
  refine r_putfield X (ws1 := wAll k T (RR_set_errorCode (RR_set_end_ R 0) 0) ly rc hn rp tp ee st) clsX2 flX2_24 (Nat.le_of_ble_eq_true rfl) rfl rfl rfl _ o_reader (Nat.le_of_ble_eq_true rfl) (s_R_errorCode 0) dX2_begin_7 ?_
  refine r_aload_n X (x := k.b + (3)) dX2_begin_10 rfl ?_
  refine r_iconst X (v := (-1)) dX2_begin_11 rfl ?_
  refine r_putfield X (ws1 := wAll k T (RR_set_errorPosition (RR_set_errorCode (RR_set_end_ R 0) 0) (-1)) ly rc hn rp tp ee st) clsX2 flX2_27 (Nat.le_of_ble_eq_true rfl) rfl rfl rfl _ o_reader (Nat.le_of_ble_eq_true rfl) (s_R_errorPosition (-1)) dX2_begin_12 ?_
  refine r_aload_n X (x := k.b + (3)) dX2_begin_15 rfl ?_
  obtain ⟨u16, h16, hf⟩ := bdS hf
  refine r_callV0 X [] [] (K2_advance h16) lkX2_34 clsX2 rfl _ o_reader (by decide) (Nat.le_of_ble_eq_true rfl) rfl rfl (Nat.le_of_ble_eq_true rfl) rfl rfl (Nat.zero_le _) (Nat.zero_le _) dX2_begin_16 ?_
  obtain rfl := Option.some.inj hf
  exact r_return X hQ rfl rfl (Nat.le_of_ble_eq_true rfl) (Nat.le_of_ble_eq_true rfl) dX2_begin_19
set_option maxRecDepth 100000 in
set_option maxHeartbeats 4000000 in
theorem K2_fail {k : KT} {T : TT} {R : RR} {ly : Fin 2 → LL} {rc : RC} {hn : HN} {rp : RP} {tp : TP} {ee : EE} {st : Fin 12 → SS}  {x1 : Int32} {x2 : Int32} {r : (RR)} (hf : f2_fail  R x1 x2 = some r) : CT k strs yX2_fail cX2_fail 3 none (rmD 0 0 0) 0 0 [.ref (k.b + (3)), .int x1, .int x2] (wAll k T R ly rc hn rp tp ee st) (none) (wAll k T r ly rc hn rp tp ee st) := by
  refine CT.of (by decide) (Nat.le_of_ble_eq_true rfl) ?_
  intro z X hQ
  show VW k z 0 0 (wAll k T R ly rc hn rp tp ee st) 0 [some (.ref (k.b + (3))), some (.int x1), some (.int x2)] []
  unfold f2_fail at hf
  refine r_aload_n X (x := k.b + (3)) dX2_fail_0 rfl ?_
  refine r_getfield X (v := .int (RR_errorCode R)) clsX2 flX2_24 (Nat.le_of_ble_eq_true rfl) _ o_reader rfl dX2_fail_1 ?_
  refine r_if_ne X 17 dX2_fail_4 rfl (fun c4 => ?_) (fun c4 => ?_)
  · replace hf := ifF hf c4
    obtain rfl := Option.some.inj hf
    exact r_return X hQ rfl rfl (Nat.le_of_ble_eq_true rfl) (Nat.le_of_ble_eq_true rfl) dX2_fail_17
  · replace hf := ifT hf c4
    refine r_aload_n X (x := k.b + (3)) dX2_fail_7 rfl ?_
    refine r_iload_n X (x := x1) dX2_fail_8 rfl ?_
    refine r_putfield X (ws1 := wAll k T (RR_set_errorCode R x1) ly rc hn rp tp ee st) clsX2 flX2_24 (Nat.le_of_ble_eq_true rfl) rfl rfl rfl _ o_reader (Nat.le_of_ble_eq_true rfl) (s_R_errorCode x1) dX2_fail_9 ?_
    refine r_aload_n X (x := k.b + (3)) dX2_fail_12 rfl ?_
    refine r_iload_n X (x := x2) dX2_fail_13 rfl ?_
    refine r_putfield X (ws1 := wAll k T (RR_set_errorPosition (RR_set_errorCode R x1) x2) ly rc hn rp tp ee st) clsX2 flX2_27 (Nat.le_of_ble_eq_true rfl) rfl rfl rfl _ o_reader (Nat.le_of_ble_eq_true rfl) (s_R_errorPosition x2) dX2_fail_14 ?_
    obtain rfl := Option.some.inj hf
    exact r_return X hQ rfl rfl (Nat.le_of_ble_eq_true rfl) (Nat.le_of_ble_eq_true rfl) dX2_fail_17
set_option maxRecDepth 100000 in
set_option maxHeartbeats 4000000 in
theorem B2_isWord_B28 {k : KT} {z : ZT} {T : TT} {R : RR} {ly : Fin 2 → LL} {rc : RC} {hn : HN} {rp : RP} {tp : TP} {ee : EE} {st : Fin 12 → SS} {r : Int32} (X : XX k strs z RX2 cX2_isWord 3 (some .boolean) (rmD 4 0 0)) (hQ : zQ z = MQ (zB z) (Qof k (some (.int r)) (wAll k T R ly rc hn rp tp ee st)) (zA z) (zS z) 0 0 (kA k)) : ∀ (fu : Nat) (s1 : Nat) (x2 : Int32), f2_isWord_B28 T R fu s1 x2 = some r → VW k z 0 0 (wAll k T R ly rc hn rp tp ee st) 28 [some (.ref (k.b + (3))), some (.ref (k.sK s1)), some (.int x2)] [] := by
  intro fu
  induction fu with
  | zero =>
    intro s1 x2 hf
    rw [f2_isWord_B28] at hf
    cases hf
  | succ fu ih =>
    intro s1 x2 hf
    rw [f2_isWord_B28] at hf
    refine r_iload_n X (x := x2) dX2_isWord_28 rfl ?_
    refine r_aload_n X (x := k.sK s1) dX2_isWord_29 rfl ?_
    obtain ⟨g30s, hf⟩ := gdS hf
    refine r_strlen X (i := s1) (of_decide_eq_true g30s) lkX2_55 (Nat.le_of_ble_eq_true rfl) (Nat.le_of_ble_eq_true rfl) rfl (Nat.zero_le _) (Nat.zero_le _) dX2_isWord_30 ?_
    refine r_icmp_ge X 65 dX2_isWord_33 rfl (fun c33 => ?_) (fun c33 => ?_)
    · replace hf := ifT hf c33
      refine r_iconst X (v := 1) dX2_isWord_65 rfl ?_
      obtain rfl := Option.some.inj hf
      exact r_zreturn X hQ rfl rfl (Nat.le_of_ble_eq_true rfl) (Nat.le_of_ble_eq_true rfl) rfl dX2_isWord_66
    · replace hf := ifF hf c33
      refine r_aload_n X (x := k.b + (3)) dX2_isWord_36 rfl ?_
      refine r_getfield X (v := .ref (k.b + (1))) clsX2 flX2_30 (Nat.le_of_ble_eq_true rfl) _ o_reader rfl dX2_isWord_37 ?_
      refine r_aload_n X (x := k.b + (3)) dX2_isWord_40 rfl ?_
      refine r_getfield X (v := .int (RR_start R)) clsX2 flX2_15 (Nat.le_of_ble_eq_true rfl) _ o_reader rfl dX2_isWord_41 ?_
      refine r_iload_n X (x := x2) dX2_isWord_44 rfl ?_
      refine r_iadd X dX2_isWord_45 ?_
      obtain ⟨u46, h46, hf⟩ := bdS hf
      refine r_callV0 X [.int ((RR_start R) + x2)] [] (K8_byteAt h46) lkX2_42 clsX8 rfl _ o_text (by decide) (Nat.le_of_ble_eq_true rfl) rfl rfl (Nat.le_of_ble_eq_true rfl) rfl rfl (Nat.zero_le _) (Nat.zero_le _) dX2_isWord_46 ?_
      refine r_aload_n X (x := k.sK s1) dX2_isWord_49 rfl ?_
      refine r_iload_n X (x := x2) dX2_isWord_50 rfl ?_
      obtain ⟨g51c, hf⟩ := gdS hf
      refine r_strch X (i := s1) (of_decide_eq_true g30s) lkX2_60 g51c (Nat.le_of_ble_eq_true rfl) (Nat.le_of_ble_eq_true rfl) rfl (Nat.zero_le _) (Nat.zero_le _) dX2_isWord_51 ?_
      refine r_icmp_eq X 59 dX2_isWord_54 rfl (fun c54 => ?_) (fun c54 => ?_)
      · replace hf := ifT hf c54
        refine r_iinc X (x := x2) (v := x2 + 1) [some (.ref (k.b + (3))), some (.ref (k.sK s1)), some (.int (x2 + 1))] dX2_isWord_59 rfl rfl rfl ?_
        refine r_goto X 28 dX2_isWord_62 rfl ?_
        exact ih s1 (x2 + 1) hf
      · replace hf := ifF hf c54
        refine r_iconst X (v := 0) dX2_isWord_57 rfl ?_
        obtain rfl := Option.some.inj hf
        exact r_zreturn X hQ rfl rfl (Nat.le_of_ble_eq_true rfl) (Nat.le_of_ble_eq_true rfl) rfl dX2_isWord_58
set_option maxRecDepth 100000 in
set_option maxHeartbeats 4000000 in
theorem K2_isWord {k : KT} {T : TT} {R : RR} {ly : Fin 2 → LL} {rc : RC} {hn : HN} {rp : RP} {tp : TP} {ee : EE} {st : Fin 12 → SS}  {s1 : Nat} {r : Int32} (hf : f2_isWord T R  s1 = some r) : CT k strs yX2_isWord cX2_isWord 3 (some .boolean) (rmD 4 0 0) 0 0 [.ref (k.b + (3)), .ref (k.sK s1)] (wAll k T R ly rc hn rp tp ee st) (some (.int r)) (wAll k T R ly rc hn rp tp ee st) := by
  refine CT.of (by decide) (Nat.le_of_ble_eq_true rfl) ?_
  intro z X hQ
  show VW k z 0 0 (wAll k T R ly rc hn rp tp ee st) 0 [some (.ref (k.b + (3))), some (.ref (k.sK s1)), none] []
  unfold f2_isWord at hf
  refine r_aload_n X (x := k.b + (3)) dX2_isWord_0 rfl ?_
  refine r_getfield X (v := .int (RR_kind R)) clsX2 flX2_11 (Nat.le_of_ble_eq_true rfl) _ o_reader rfl dX2_isWord_1 ?_
  refine r_iconst X (v := 1) dX2_isWord_4 rfl ?_
  refine r_icmp_ne X 24 dX2_isWord_5 rfl (fun c5 => ?_) (fun c5 => ?_)
  · replace hf := ifF hf c5
    refine r_iconst X (v := 0) dX2_isWord_24 rfl ?_
    obtain rfl := Option.some.inj hf
    exact r_zreturn X hQ rfl rfl (Nat.le_of_ble_eq_true rfl) (Nat.le_of_ble_eq_true rfl) rfl dX2_isWord_25
  · replace hf := ifT hf c5
    refine r_aload_n X (x := k.b + (3)) dX2_isWord_8 rfl ?_
    refine r_getfield X (v := .int (RR_end_ R)) clsX2 flX2_18 (Nat.le_of_ble_eq_true rfl) _ o_reader rfl dX2_isWord_9 ?_
    refine r_aload_n X (x := k.b + (3)) dX2_isWord_12 rfl ?_
    refine r_getfield X (v := .int (RR_start R)) clsX2 flX2_15 (Nat.le_of_ble_eq_true rfl) _ o_reader rfl dX2_isWord_13 ?_
    refine r_isub X dX2_isWord_16 ?_
    refine r_aload_n X (x := k.sK s1) dX2_isWord_17 rfl ?_
    obtain ⟨g18s, hf⟩ := gdS hf
    refine r_strlen X (i := s1) (of_decide_eq_true g18s) lkX2_55 (Nat.le_of_ble_eq_true rfl) (Nat.le_of_ble_eq_true rfl) rfl (Nat.zero_le _) (Nat.zero_le _) dX2_isWord_18 ?_
    refine r_icmp_eq X 26 dX2_isWord_21 rfl (fun c21 => ?_) (fun c21 => ?_)
    · replace hf := ifT hf c21
      refine r_iconst X (v := 0) dX2_isWord_26 rfl ?_
      refine r_istore_n X [some (.ref (k.b + (3))), some (.ref (k.sK s1)), some (.int 0)] dX2_isWord_27 (Nat.le_of_ble_eq_true rfl) rfl ?_
      exact B2_isWord_B28 X hQ FU s1 0 hf
    · replace hf := ifF hf c21
      refine r_iconst X (v := 0) dX2_isWord_24 rfl ?_
      obtain rfl := Option.some.inj hf
      exact r_zreturn X hQ rfl rfl (Nat.le_of_ble_eq_true rfl) (Nat.le_of_ble_eq_true rfl) rfl dX2_isWord_25
set_option maxRecDepth 100000 in
set_option maxHeartbeats 4000000 in
theorem K2_readNumber {k : KT} {T : TT} {R : RR} {ly : Fin 2 → LL} {rc : RC} {hn : HN} {rp : RP} {tp : TP} {ee : EE} {st : Fin 12 → SS}  {x1 : Int32} {x2 : Int32} {r : Int32 × (RR)} (hf : f2_readNumber T R x1 x2 = some r) : CT k strs yX2_readNumber cX2_readNumber 4 (some .int) (rmD 2 0 0) 0 0 [.ref (k.b + (3)), .int x1, .int x2] (wAll k T R ly rc hn rp tp ee st) (some (.int r.1)) (wAll k T r.2 ly rc hn rp tp ee st) := by
  refine CT.of (by decide) (Nat.le_of_ble_eq_true rfl) ?_
  intro z X hQ
  show VW k z 0 0 (wAll k T R ly rc hn rp tp ee st) 0 [some (.ref (k.b + (3))), some (.int x1), some (.int x2), none] []
  unfold f2_readNumber at hf
  refine r_aload_n X (x := k.b + (3)) dX2_readNumber_0 rfl ?_
  refine r_getfield X (v := .int (RR_errorCode R)) clsX2 flX2_24 (Nat.le_of_ble_eq_true rfl) _ o_reader rfl dX2_readNumber_1 ?_
  refine r_if_eq X 9 dX2_readNumber_4 rfl (fun c4 => ?_) (fun c4 => ?_)
  · replace hf := ifT hf c4
    refine r_aload_n X (x := k.b + (3)) dX2_readNumber_9 rfl ?_
    refine r_getfield X (v := .int (RR_kind R)) clsX2 flX2_11 (Nat.le_of_ble_eq_true rfl) _ o_reader rfl dX2_readNumber_10 ?_
    refine r_iconst X (v := 2) dX2_readNumber_13 rfl ?_
    refine r_icmp_eq X 28 dX2_readNumber_14 rfl (fun c14 => ?_) (fun c14 => ?_)
    · replace hf := ifT hf c14
      refine r_aload_n X (x := k.b + (3)) dX2_readNumber_28 rfl ?_
      refine r_getfield X (v := .int (RR_end_ R)) clsX2 flX2_18 (Nat.le_of_ble_eq_true rfl) _ o_reader rfl dX2_readNumber_29 ?_
      refine r_aload_n X (x := k.b + (3)) dX2_readNumber_32 rfl ?_
      refine r_getfield X (v := .int (RR_start R)) clsX2 flX2_15 (Nat.le_of_ble_eq_true rfl) _ o_reader rfl dX2_readNumber_33 ?_
      refine r_isub X dX2_readNumber_36 ?_
      refine r_bipush X (v := 7) dX2_readNumber_37 rfl ?_
      refine r_icmp_gt X 58 dX2_readNumber_39 rfl (fun c39 => ?_) (fun c39 => ?_)
      · replace hf := ifT hf c39
        refine r_aload_n X (x := k.b + (3)) dX2_readNumber_58 rfl ?_
        refine r_iconst X (v := 2) dX2_readNumber_59 rfl ?_
        refine r_aload_n X (x := k.b + (3)) dX2_readNumber_60 rfl ?_
        refine r_getfield X (v := .int (RR_start R)) clsX2 flX2_15 (Nat.le_of_ble_eq_true rfl) _ o_reader rfl dX2_readNumber_61 ?_
        obtain ⟨u64, h64, hf⟩ := bdS hf
        refine r_callV0 X [.int 2, .int (RR_start R)] [] (K2_fail h64) lkX2_64 clsX2 rfl _ o_reader (by decide) (Nat.le_of_ble_eq_true rfl) rfl rfl (Nat.le_of_ble_eq_true rfl) rfl rfl (Nat.zero_le _) (Nat.zero_le _) dX2_readNumber_64 ?_
        refine r_iconst X (v := 0) dX2_readNumber_67 rfl ?_
        obtain rfl := Option.some.inj hf
        exact r_ireturn X hQ rfl rfl (Nat.le_of_ble_eq_true rfl) (Nat.le_of_ble_eq_true rfl) dX2_readNumber_68
      · replace hf := ifF hf c39
        refine r_aload_n X (x := k.b + (3)) dX2_readNumber_42 rfl ?_
        refine r_getfield X (v := .int (RR_value R)) clsX2 flX2_21 (Nat.le_of_ble_eq_true rfl) _ o_reader rfl dX2_readNumber_43 ?_
        refine r_iload_n X (x := x1) dX2_readNumber_46 rfl ?_
        refine r_icmp_lt X 58 dX2_readNumber_47 rfl (fun c47 => ?_) (fun c47 => ?_)
        · replace hf := ifT hf c47
          refine r_aload_n X (x := k.b + (3)) dX2_readNumber_58 rfl ?_
          refine r_iconst X (v := 2) dX2_readNumber_59 rfl ?_
          refine r_aload_n X (x := k.b + (3)) dX2_readNumber_60 rfl ?_
          refine r_getfield X (v := .int (RR_start R)) clsX2 flX2_15 (Nat.le_of_ble_eq_true rfl) _ o_reader rfl dX2_readNumber_61 ?_
          obtain ⟨u64, h64, hf⟩ := bdS hf
          refine r_callV0 X [.int 2, .int (RR_start R)] [] (K2_fail h64) lkX2_64 clsX2 rfl _ o_reader (by decide) (Nat.le_of_ble_eq_true rfl) rfl rfl (Nat.le_of_ble_eq_true rfl) rfl rfl (Nat.zero_le _) (Nat.zero_le _) dX2_readNumber_64 ?_
          refine r_iconst X (v := 0) dX2_readNumber_67 rfl ?_
          obtain rfl := Option.some.inj hf
          exact r_ireturn X hQ rfl rfl (Nat.le_of_ble_eq_true rfl) (Nat.le_of_ble_eq_true rfl) dX2_readNumber_68
        · replace hf := ifF hf c47
          refine r_aload_n X (x := k.b + (3)) dX2_readNumber_50 rfl ?_
          refine r_getfield X (v := .int (RR_value R)) clsX2 flX2_21 (Nat.le_of_ble_eq_true rfl) _ o_reader rfl dX2_readNumber_51 ?_
          refine r_iload_n X (x := x2) dX2_readNumber_54 rfl ?_
          refine r_icmp_le X 69 dX2_readNumber_55 rfl (fun c55 => ?_) (fun c55 => ?_)
          · replace hf := ifT hf c55
            refine r_aload_n X (x := k.b + (3)) dX2_readNumber_69 rfl ?_
            refine r_getfield X (v := .int (RR_value R)) clsX2 flX2_21 (Nat.le_of_ble_eq_true rfl) _ o_reader rfl dX2_readNumber_70 ?_
            refine r_istore_n X [some (.ref (k.b + (3))), some (.int x1), some (.int x2), some (.int (RR_value R))] dX2_readNumber_73 (Nat.le_of_ble_eq_true rfl) rfl ?_
            refine r_aload_n X (x := k.b + (3)) dX2_readNumber_74 rfl ?_
            obtain ⟨u75, h75, hf⟩ := bdS hf
            refine r_callV0 X [] [] (K2_advance h75) lkX2_34 clsX2 rfl _ o_reader (by decide) (Nat.le_of_ble_eq_true rfl) rfl rfl (Nat.le_of_ble_eq_true rfl) rfl rfl (Nat.zero_le _) (Nat.zero_le _) dX2_readNumber_75 ?_
            refine r_iload_n X (x := RR_value R) dX2_readNumber_78 rfl ?_
            obtain rfl := Option.some.inj hf
            exact r_ireturn X hQ rfl rfl (Nat.le_of_ble_eq_true rfl) (Nat.le_of_ble_eq_true rfl) dX2_readNumber_79
          · replace hf := ifF hf c55
            refine r_aload_n X (x := k.b + (3)) dX2_readNumber_58 rfl ?_
            refine r_iconst X (v := 2) dX2_readNumber_59 rfl ?_
            refine r_aload_n X (x := k.b + (3)) dX2_readNumber_60 rfl ?_
            refine r_getfield X (v := .int (RR_start R)) clsX2 flX2_15 (Nat.le_of_ble_eq_true rfl) _ o_reader rfl dX2_readNumber_61 ?_
            obtain ⟨u64, h64, hf⟩ := bdS hf
            refine r_callV0 X [.int 2, .int (RR_start R)] [] (K2_fail h64) lkX2_64 clsX2 rfl _ o_reader (by decide) (Nat.le_of_ble_eq_true rfl) rfl rfl (Nat.le_of_ble_eq_true rfl) rfl rfl (Nat.zero_le _) (Nat.zero_le _) dX2_readNumber_64 ?_
            refine r_iconst X (v := 0) dX2_readNumber_67 rfl ?_
            obtain rfl := Option.some.inj hf
            exact r_ireturn X hQ rfl rfl (Nat.le_of_ble_eq_true rfl) (Nat.le_of_ble_eq_true rfl) dX2_readNumber_68
    · replace hf := ifF hf c14
      refine r_aload_n X (x := k.b + (3)) dX2_readNumber_17 rfl ?_
      refine r_iconst X (v := 1) dX2_readNumber_18 rfl ?_
      refine r_aload_n X (x := k.b + (3)) dX2_readNumber_19 rfl ?_
      refine r_getfield X (v := .int (RR_start R)) clsX2 flX2_15 (Nat.le_of_ble_eq_true rfl) _ o_reader rfl dX2_readNumber_20 ?_
      obtain ⟨u23, h23, hf⟩ := bdS hf
      refine r_callV0 X [.int 1, .int (RR_start R)] [] (K2_fail h23) lkX2_64 clsX2 rfl _ o_reader (by decide) (Nat.le_of_ble_eq_true rfl) rfl rfl (Nat.le_of_ble_eq_true rfl) rfl rfl (Nat.zero_le _) (Nat.zero_le _) dX2_readNumber_23 ?_
      refine r_iconst X (v := 0) dX2_readNumber_26 rfl ?_
      obtain rfl := Option.some.inj hf
      exact r_ireturn X hQ rfl rfl (Nat.le_of_ble_eq_true rfl) (Nat.le_of_ble_eq_true rfl) dX2_readNumber_27
  · replace hf := ifF hf c4
    refine r_iconst X (v := 0) dX2_readNumber_7 rfl ?_
    obtain rfl := Option.some.inj hf
    exact r_ireturn X hQ rfl rfl (Nat.le_of_ble_eq_true rfl) (Nat.le_of_ble_eq_true rfl) dX2_readNumber_8
set_option maxRecDepth 100000 in
set_option maxHeartbeats 4000000 in
theorem K2_readSemicolon {k : KT} {T : TT} {R : RR} {ly : Fin 2 → LL} {rc : RC} {hn : HN} {rp : RP} {tp : TP} {ee : EE} {st : Fin 12 → SS}   {r : (RR)} (hf : f2_readSemicolon T R  = some r) : CT k strs yX2_readSemicolon cX2_readSemicolon 1 none (rmD 2 0 0) 0 0 [.ref (k.b + (3))] (wAll k T R ly rc hn rp tp ee st) (none) (wAll k T r ly rc hn rp tp ee st) := by
  refine CT.of (by decide) (Nat.le_of_ble_eq_true rfl) ?_
  intro z X hQ
  show VW k z 0 0 (wAll k T R ly rc hn rp tp ee st) 0 [some (.ref (k.b + (3)))] []
  unfold f2_readSemicolon at hf
  refine r_aload_n X (x := k.b + (3)) dX2_readSemicolon_0 rfl ?_
  refine r_getfield X (v := .int (RR_errorCode R)) clsX2 flX2_24 (Nat.le_of_ble_eq_true rfl) _ o_reader rfl dX2_readSemicolon_1 ?_
  refine r_if_eq X 8 dX2_readSemicolon_4 rfl (fun c4 => ?_) (fun c4 => ?_)
  · replace hf := ifT hf c4
    refine r_aload_n X (x := k.b + (3)) dX2_readSemicolon_8 rfl ?_
    refine r_getfield X (v := .int (RR_kind R)) clsX2 flX2_11 (Nat.le_of_ble_eq_true rfl) _ o_reader rfl dX2_readSemicolon_9 ?_
    refine r_iconst X (v := 3) dX2_readSemicolon_12 rfl ?_
    refine r_icmp_eq X 26 dX2_readSemicolon_13 rfl (fun c13 => ?_) (fun c13 => ?_)
    · replace hf := ifT hf c13
      refine r_aload_n X (x := k.b + (3)) dX2_readSemicolon_26 rfl ?_
      obtain ⟨u27, h27, hf⟩ := bdS hf
      refine r_callV0 X [] [] (K2_advance h27) lkX2_34 clsX2 rfl _ o_reader (by decide) (Nat.le_of_ble_eq_true rfl) rfl rfl (Nat.le_of_ble_eq_true rfl) rfl rfl (Nat.zero_le _) (Nat.zero_le _) dX2_readSemicolon_27 ?_
      obtain rfl := Option.some.inj hf
      exact r_return X hQ rfl rfl (Nat.le_of_ble_eq_true rfl) (Nat.le_of_ble_eq_true rfl) dX2_readSemicolon_30
    · replace hf := ifF hf c13
      refine r_aload_n X (x := k.b + (3)) dX2_readSemicolon_16 rfl ?_
      refine r_iconst X (v := 1) dX2_readSemicolon_17 rfl ?_
      refine r_aload_n X (x := k.b + (3)) dX2_readSemicolon_18 rfl ?_
      refine r_getfield X (v := .int (RR_start R)) clsX2 flX2_15 (Nat.le_of_ble_eq_true rfl) _ o_reader rfl dX2_readSemicolon_19 ?_
      obtain ⟨u22, h22, hf⟩ := bdS hf
      refine r_callV0 X [.int 1, .int (RR_start R)] [] (K2_fail h22) lkX2_64 clsX2 rfl _ o_reader (by decide) (Nat.le_of_ble_eq_true rfl) rfl rfl (Nat.le_of_ble_eq_true rfl) rfl rfl (Nat.zero_le _) (Nat.zero_le _) dX2_readSemicolon_22 ?_
      obtain rfl := Option.some.inj hf
      exact r_return X hQ rfl rfl (Nat.le_of_ble_eq_true rfl) (Nat.le_of_ble_eq_true rfl) dX2_readSemicolon_25
  · replace hf := ifF hf c4
    obtain rfl := Option.some.inj hf
    exact r_return X hQ rfl rfl (Nat.le_of_ble_eq_true rfl) (Nat.le_of_ble_eq_true rfl) dX2_readSemicolon_7
set_option maxRecDepth 100000 in
set_option maxHeartbeats 4000000 in
theorem K4_addByte {k : KT} {T : TT} {R : RR} {ly : Fin 2 → LL} {rc : RC} {hn : HN} {rp : RP} {tp : TP} {ee : EE} {st : Fin 12 → SS}  {x1 : Int32} {r : (RP)} (hf : f4_addByte  rp x1 = some r) : CT k strs yX4_addByte cX4_addByte 2 none (rmD 0 0 0) 0 0 [.ref (k.b + (42)), .int x1] (wAll k T R ly rc hn rp tp ee st) (none) (wAll k T R ly rc hn r tp ee st) := by
  refine CT.of (by decide) (Nat.le_of_ble_eq_true rfl) ?_
  intro z X hQ
  show VW k z 0 0 (wAll k T R ly rc hn rp tp ee st) 0 [some (.ref (k.b + (42))), some (.int x1)] []
  unfold f4_addByte at hf
  refine r_aload_n X (x := k.b + (42)) dX4_addByte_0 rfl ?_
  refine r_getfield X (v := .int (RP_length rp)) clsX4 flX4_13 (Nat.le_of_ble_eq_true rfl) _ o_report rfl dX4_addByte_1 ?_
  refine r_sipush X (v := 246) dX4_addByte_4 rfl ?_
  refine r_icmp_ge X 31 dX4_addByte_7 rfl (fun c7 => ?_) (fun c7 => ?_)
  · replace hf := ifT hf c7
    obtain rfl := Option.some.inj hf
    exact r_return X hQ rfl rfl (Nat.le_of_ble_eq_true rfl) (Nat.le_of_ble_eq_true rfl) dX4_addByte_31
  · replace hf := ifF hf c7
    refine r_aload_n X (x := k.b + (42)) dX4_addByte_10 rfl ?_
    refine r_getfield X (v := .ref (k.b + (43))) clsX4 flX4_9 (Nat.le_of_ble_eq_true rfl) _ o_report rfl dX4_addByte_11 ?_
    refine r_aload_n X (x := k.b + (42)) dX4_addByte_14 rfl ?_
    refine r_getfield X (v := .int (RP_length rp)) clsX4 flX4_13 (Nat.le_of_ble_eq_true rfl) _ o_report rfl dX4_addByte_15 ?_
    refine r_iload_n X (x := x1) dX4_addByte_18 rfl ?_
    refine r_i2b X dX4_addByte_19 ?_
    obtain ⟨g20, hf⟩ := gdS hf
    refine r_bastore X (f := RP_bytes rp) (ws1 := wAll k T R ly rc hn (RP_set_bytes rp (upd (RP_bytes rp) (ix (RP_length rp)) (vp_nar .byte x1.toInt8.toInt32))) tp ee st) _ a_rp_bytes g20 (s_rp_bytes (upd (RP_bytes rp) (ix (RP_length rp)) (vp_nar .byte x1.toInt8.toInt32))) dX4_addByte_20 ?_
    refine r_aload_n X (x := k.b + (42)) dX4_addByte_21 rfl ?_
    refine r_dup X dX4_addByte_22 rfl ?_
    refine r_getfield X (v := .int (RP_length rp)) clsX4 flX4_13 (Nat.le_of_ble_eq_true rfl) _ o_report (hvI rfl (RP_length_set_bytes _ _)) dX4_addByte_23 ?_
    refine r_iconst X (v := 1) dX4_addByte_26 rfl ?_
    refine r_iadd X dX4_addByte_27 ?_
    refine r_putfield X (ws1 := wAll k T R ly rc hn (RP_set_length (RP_set_bytes rp (upd (RP_bytes rp) (ix (RP_length rp)) (vp_nar .byte x1.toInt8.toInt32))) ((RP_length rp) + 1)) tp ee st) clsX4 flX4_13 (Nat.le_of_ble_eq_true rfl) rfl rfl rfl _ o_report (Nat.le_of_ble_eq_true rfl) (s_rp_length ((RP_length rp) + 1)) dX4_addByte_28 ?_
    obtain rfl := Option.some.inj hf
    exact r_return X hQ rfl rfl (Nat.le_of_ble_eq_true rfl) (Nat.le_of_ble_eq_true rfl) dX4_addByte_31
set_option maxRecDepth 100000 in
set_option maxHeartbeats 4000000 in
theorem B4_addText_B2 {k : KT} {z : ZT} {T : TT} {R : RR} {ly : Fin 2 → LL} {rc : RC} {hn : HN} {tp : TP} {ee : EE} {st : Fin 12 → SS} {r : (RP)} (X : XX k strs z RX4 cX4_addText 3 none (rmD 4 0 0)) (hQ : zQ z = MQ (zB z) (Qof k (none) (wAll k T R ly rc hn r tp ee st)) (zA z) (zS z) 0 0 (kA k)) : ∀ (fu : Nat) (rp : RP) (s1 : Nat) (x2 : Int32), f4_addText_B2  fu rp s1 x2 = some r → VW k z 0 0 (wAll k T R ly rc hn rp tp ee st) 2 [some (.ref (k.b + (42))), some (.ref (k.sK s1)), some (.int x2)] [] := by
  intro fu
  induction fu with
  | zero =>
    intro rp s1 x2 hf
    rw [f4_addText_B2] at hf
    cases hf
  | succ fu ih =>
    intro rp s1 x2 hf
    rw [f4_addText_B2] at hf
    refine r_iload_n X (x := x2) dX4_addText_2 rfl ?_
    refine r_aload_n X (x := k.sK s1) dX4_addText_3 rfl ?_
    obtain ⟨g4s, hf⟩ := gdS hf
    refine r_strlen X (i := s1) (of_decide_eq_true g4s) lkX4_17 (Nat.le_of_ble_eq_true rfl) (Nat.le_of_ble_eq_true rfl) rfl (Nat.zero_le _) (Nat.zero_le _) dX4_addText_4 ?_
    refine r_icmp_ge X 25 dX4_addText_7 rfl (fun c7 => ?_) (fun c7 => ?_)
    · replace hf := ifT hf c7
      obtain rfl := Option.some.inj hf
      exact r_return X hQ rfl rfl (Nat.le_of_ble_eq_true rfl) (Nat.le_of_ble_eq_true rfl) dX4_addText_25
    · replace hf := ifF hf c7
      refine r_aload_n X (x := k.b + (42)) dX4_addText_10 rfl ?_
      refine r_aload_n X (x := k.sK s1) dX4_addText_11 rfl ?_
      refine r_iload_n X (x := x2) dX4_addText_12 rfl ?_
      obtain ⟨g13c, hf⟩ := gdS hf
      refine r_strch X (i := s1) (of_decide_eq_true g4s) lkX4_22 g13c (Nat.le_of_ble_eq_true rfl) (Nat.le_of_ble_eq_true rfl) rfl (Nat.zero_le _) (Nat.zero_le _) dX4_addText_13 ?_
      obtain ⟨u16, h16, hf⟩ := bdS hf
      refine r_callV0 X [.int (sCh s1 (ix x2))] [] (K4_addByte h16) lkX4_26 clsX4 rfl _ o_report (by decide) (Nat.le_of_ble_eq_true rfl) rfl rfl (Nat.le_of_ble_eq_true rfl) rfl rfl (Nat.zero_le _) (Nat.zero_le _) dX4_addText_16 ?_
      refine r_iinc X (x := x2) (v := x2 + 1) [some (.ref (k.b + (42))), some (.ref (k.sK s1)), some (.int (x2 + 1))] dX4_addText_19 rfl rfl rfl ?_
      refine r_goto X 2 dX4_addText_22 rfl ?_
      exact ih u16 s1 (x2 + 1) hf
set_option maxRecDepth 100000 in
set_option maxHeartbeats 4000000 in
theorem K4_addText {k : KT} {T : TT} {R : RR} {ly : Fin 2 → LL} {rc : RC} {hn : HN} {rp : RP} {tp : TP} {ee : EE} {st : Fin 12 → SS}  {s1 : Nat} {r : (RP)} (hf : f4_addText  rp s1 = some r) : CT k strs yX4_addText cX4_addText 3 none (rmD 4 0 0) 0 0 [.ref (k.b + (42)), .ref (k.sK s1)] (wAll k T R ly rc hn rp tp ee st) (none) (wAll k T R ly rc hn r tp ee st) := by
  refine CT.of (by decide) (Nat.le_of_ble_eq_true rfl) ?_
  intro z X hQ
  show VW k z 0 0 (wAll k T R ly rc hn rp tp ee st) 0 [some (.ref (k.b + (42))), some (.ref (k.sK s1)), none] []
  unfold f4_addText at hf
  refine r_iconst X (v := 0) dX4_addText_0 rfl ?_
  refine r_istore_n X [some (.ref (k.b + (42))), some (.ref (k.sK s1)), some (.int 0)] dX4_addText_1 (Nat.le_of_ble_eq_true rfl) rfl ?_
  exact B4_addText_B2 X hQ FU rp s1 0 hf
set_option maxRecDepth 100000 in
set_option maxHeartbeats 4000000 in
theorem B4_addNumber_B24 {k : KT} {z : ZT} {T : TT} {R : RR} {ly : Fin 2 → LL} {rc : RC} {hn : HN} {tp : TP} {ee : EE} {st : Fin 12 → SS} {r : (RP)} (X : XX k strs z RX4 cX4_addNumber 3 none (rmD 1 0 0)) (hQ : zQ z = MQ (zB z) (Qof k (none) (wAll k T R ly rc hn r tp ee st)) (zA z) (zS z) 0 0 (kA k)) : ∀ (fu : Nat) (rp : RP) (x1 : Int32) (x2 : Int32), f4_addNumber_B24  fu rp x1 x2 = some r → VW k z 0 0 (wAll k T R ly rc hn rp tp ee st) 24 [some (.ref (k.b + (42))), some (.int x1), some (.int x2)] [] := by
  intro fu
  induction fu with
  | zero =>
    intro rp x1 x2 hf
    rw [f4_addNumber_B24] at hf
    cases hf
  | succ fu ih =>
    intro rp x1 x2 hf
    rw [f4_addNumber_B24] at hf
    refine r_iload_n X (x := x2) dX4_addNumber_24 rfl ?_
    refine r_if_le X 49 dX4_addNumber_25 rfl (fun c25 => ?_) (fun c25 => ?_)
    · replace hf := ifT hf c25
      obtain rfl := Option.some.inj hf
      exact r_return X hQ rfl rfl (Nat.le_of_ble_eq_true rfl) (Nat.le_of_ble_eq_true rfl) dX4_addNumber_49
    · replace hf := ifF hf c25
      refine r_aload_n X (x := k.b + (42)) dX4_addNumber_28 rfl ?_
      refine r_bipush X (v := 48) dX4_addNumber_29 rfl ?_
      refine r_iload_n X (x := x1) dX4_addNumber_31 rfl ?_
      refine r_iload_n X (x := x2) dX4_addNumber_32 rfl ?_
      obtain ⟨g33z, hf⟩ := gdS hf
      refine r_idiv X dX4_addNumber_33 g33z ?_
      refine r_bipush X (v := 10) dX4_addNumber_34 rfl ?_
      refine r_irem X dX4_addNumber_36 (by decide) ?_
      refine r_iadd X dX4_addNumber_37 ?_
      obtain ⟨u38, h38, hf⟩ := bdS hf
      refine r_callV0 X [.int (48 + ((x1 / x2) - (x1 / x2) / 10 * 10))] [] (K4_addByte h38) lkX4_26 clsX4 rfl _ o_report (by decide) (Nat.le_of_ble_eq_true rfl) rfl rfl (Nat.le_of_ble_eq_true rfl) rfl rfl (Nat.zero_le _) (Nat.zero_le _) dX4_addNumber_38 ?_
      refine r_iload_n X (x := x2) dX4_addNumber_41 rfl ?_
      refine r_bipush X (v := 10) dX4_addNumber_42 rfl ?_
      refine r_idiv X dX4_addNumber_44 (by decide) ?_
      refine r_istore_n X [some (.ref (k.b + (42))), some (.int x1), some (.int (x2 / 10))] dX4_addNumber_45 (Nat.le_of_ble_eq_true rfl) rfl ?_
      refine r_goto X 24 dX4_addNumber_46 rfl ?_
      exact ih u38 x1 (x2 / 10) hf
set_option maxRecDepth 100000 in
set_option maxHeartbeats 4000000 in
theorem B4_addNumber_B2 {k : KT} {z : ZT} {T : TT} {R : RR} {ly : Fin 2 → LL} {rc : RC} {hn : HN} {tp : TP} {ee : EE} {st : Fin 12 → SS} {r : (RP)} (X : XX k strs z RX4 cX4_addNumber 3 none (rmD 1 0 0)) (hQ : zQ z = MQ (zB z) (Qof k (none) (wAll k T R ly rc hn r tp ee st)) (zA z) (zS z) 0 0 (kA k)) : ∀ (fu : Nat) (rp : RP) (x1 : Int32) (x2 : Int32), f4_addNumber_B2  fu rp x1 x2 = some r → VW k z 0 0 (wAll k T R ly rc hn rp tp ee st) 2 [some (.ref (k.b + (42))), some (.int x1), some (.int x2)] [] := by
  intro fu
  induction fu with
  | zero =>
    intro rp x1 x2 hf
    rw [f4_addNumber_B2] at hf
    cases hf
  | succ fu ih =>
    intro rp x1 x2 hf
    rw [f4_addNumber_B2] at hf
    refine r_iload_n X (x := x2) dX4_addNumber_2 rfl ?_
    refine r_ldc X (v := 1000000000) coX4_30 dX4_addNumber_3 ?_
    refine r_icmp_ge X 24 dX4_addNumber_5 rfl (fun c5 => ?_) (fun c5 => ?_)
    · replace hf := ifT hf c5
      exact B4_addNumber_B24 X hQ FU rp x1 x2 hf
    · replace hf := ifF hf c5
      refine r_iload_n X (x := x1) dX4_addNumber_8 rfl ?_
      refine r_iload_n X (x := x2) dX4_addNumber_9 rfl ?_
      obtain ⟨g10z, hf⟩ := gdS hf
      refine r_idiv X dX4_addNumber_10 g10z ?_
      refine r_bipush X (v := 10) dX4_addNumber_11 rfl ?_
      refine r_icmp_lt X 24 dX4_addNumber_13 rfl (fun c13 => ?_) (fun c13 => ?_)
      · replace hf := ifT hf c13
        exact B4_addNumber_B24 X hQ FU rp x1 x2 hf
      · replace hf := ifF hf c13
        refine r_iload_n X (x := x2) dX4_addNumber_16 rfl ?_
        refine r_bipush X (v := 10) dX4_addNumber_17 rfl ?_
        refine r_imul X dX4_addNumber_19 ?_
        refine r_istore_n X [some (.ref (k.b + (42))), some (.int x1), some (.int (x2 * 10))] dX4_addNumber_20 (Nat.le_of_ble_eq_true rfl) rfl ?_
        refine r_goto X 2 dX4_addNumber_21 rfl ?_
        exact ih rp x1 (x2 * 10) hf
set_option maxRecDepth 100000 in
set_option maxHeartbeats 4000000 in
theorem K4_addNumber {k : KT} {T : TT} {R : RR} {ly : Fin 2 → LL} {rc : RC} {hn : HN} {rp : RP} {tp : TP} {ee : EE} {st : Fin 12 → SS}  {x1 : Int32} {r : (RP)} (hf : f4_addNumber  rp x1 = some r) : CT k strs yX4_addNumber cX4_addNumber 3 none (rmD 1 0 0) 0 0 [.ref (k.b + (42)), .int x1] (wAll k T R ly rc hn rp tp ee st) (none) (wAll k T R ly rc hn r tp ee st) := by
  refine CT.of (by decide) (Nat.le_of_ble_eq_true rfl) ?_
  intro z X hQ
  show VW k z 0 0 (wAll k T R ly rc hn rp tp ee st) 0 [some (.ref (k.b + (42))), some (.int x1), none] []
  unfold f4_addNumber at hf
  refine r_iconst X (v := 1) dX4_addNumber_0 rfl ?_
  refine r_istore_n X [some (.ref (k.b + (42))), some (.int x1), some (.int 1)] dX4_addNumber_1 (Nat.le_of_ble_eq_true rfl) rfl ?_
  exact B4_addNumber_B2 X hQ FU rp x1 1 hf
set_option maxRecDepth 100000 in
set_option maxHeartbeats 4000000 in
theorem B4_addSet_B3 {k : KT} {z : ZT} {T : TT} {R : RR} {ly : Fin 2 → LL} {rc : RC} {hn : HN} {tp : TP} {ee : EE} {st : Fin 12 → SS} {r : (RP)} (X : XX k strs z RX4 cX4_addSet 5 none (rmD 5 0 0)) (hQ : zQ z = MQ (zB z) (Qof k (none) (wAll k T R ly rc hn r tp ee st)) (zA z) (zS z) 0 0 (kA k)) : ∀ (fu : Nat) (rp : RP) (s1 : Nat) (x2 : Int32) (x3 : Int32) (x4 : Int32), f4_addSet_B3  fu rp s1 x2 x3 x4 = some r → VW k z 0 0 (wAll k T R ly rc hn rp tp ee st) 3 [some (.ref (k.b + (42))), some (.ref (k.sK s1)), some (.int x2), some (.int x3), some (.int x4)] [] := by
  intro fu
  induction fu with
  | zero =>
    intro rp s1 x2 x3 x4 hf
    rw [f4_addSet_B3] at hf
    cases hf
  | succ fu ih =>
    intro rp s1 x2 x3 x4 hf
    rw [f4_addSet_B3] at hf
    refine r_iload X (x := x4) dX4_addSet_3 rfl ?_
    refine r_iload_n X (x := x3) dX4_addSet_5 rfl ?_
    refine r_icmp_ge X 35 dX4_addSet_6 rfl (fun c6 => ?_) (fun c6 => ?_)
    · replace hf := ifT hf c6
      obtain rfl := Option.some.inj hf
      exact r_return X hQ rfl rfl (Nat.le_of_ble_eq_true rfl) (Nat.le_of_ble_eq_true rfl) dX4_addSet_35
    · replace hf := ifF hf c6
      refine r_iload_n X (x := x2) dX4_addSet_9 rfl ?_
      refine r_iload X (x := x4) dX4_addSet_10 rfl ?_
      obtain ⟨u12, h12, hf⟩ := bdS hf
      refine r_callSN0 X [.int x2, .int x4] [] (K9_has h12) lkX4_31 (by decide) (Nat.le_of_ble_eq_true rfl) rfl rfl (Nat.le_of_ble_eq_true rfl) rfl rfl (Nat.zero_le _) (Nat.zero_le _) dX4_addSet_12 ?_
      refine r_if_eq X 29 dX4_addSet_15 rfl (fun c15 => ?_) (fun c15 => ?_)
      · replace hf := ifT hf c15
        refine r_iinc X (x := x4) (v := x4 + 1) [some (.ref (k.b + (42))), some (.ref (k.sK s1)), some (.int x2), some (.int x3), some (.int (x4 + 1))] dX4_addSet_29 rfl rfl rfl ?_
        refine r_goto X 3 dX4_addSet_32 rfl ?_
        exact ih rp s1 x2 x3 (x4 + 1) hf
      · replace hf := ifF hf c15
        refine r_aload_n X (x := k.b + (42)) dX4_addSet_18 rfl ?_
        refine r_aload_n X (x := k.sK s1) dX4_addSet_19 rfl ?_
        obtain ⟨u20, h20, hf⟩ := bdS hf
        refine r_callV0 X [.ref (k.sK s1)] [] (K4_addText h20) lkX4_37 clsX4 rfl _ o_report (by decide) (Nat.le_of_ble_eq_true rfl) rfl rfl (Nat.le_of_ble_eq_true rfl) rfl rfl (Nat.zero_le _) (Nat.zero_le _) dX4_addSet_20 ?_
        refine r_aload_n X (x := k.b + (42)) dX4_addSet_23 rfl ?_
        refine r_iload X (x := x4) dX4_addSet_24 rfl ?_
        obtain ⟨u26, h26, hf⟩ := bdS hf
        refine r_callV0 X [.int x4] [] (K4_addNumber h26) lkX4_41 clsX4 rfl _ o_report (by decide) (Nat.le_of_ble_eq_true rfl) rfl rfl (Nat.le_of_ble_eq_true rfl) rfl rfl (Nat.zero_le _) (Nat.zero_le _) dX4_addSet_26 ?_
        refine r_iinc X (x := x4) (v := x4 + 1) [some (.ref (k.b + (42))), some (.ref (k.sK s1)), some (.int x2), some (.int x3), some (.int (x4 + 1))] dX4_addSet_29 rfl rfl rfl ?_
        refine r_goto X 3 dX4_addSet_32 rfl ?_
        exact ih u26 s1 x2 x3 (x4 + 1) hf
set_option maxRecDepth 100000 in
set_option maxHeartbeats 4000000 in
theorem K4_addSet {k : KT} {T : TT} {R : RR} {ly : Fin 2 → LL} {rc : RC} {hn : HN} {rp : RP} {tp : TP} {ee : EE} {st : Fin 12 → SS}  {s1 : Nat} {x2 : Int32} {x3 : Int32} {r : (RP)} (hf : f4_addSet  rp s1 x2 x3 = some r) : CT k strs yX4_addSet cX4_addSet 5 none (rmD 5 0 0) 0 0 [.ref (k.b + (42)), .ref (k.sK s1), .int x2, .int x3] (wAll k T R ly rc hn rp tp ee st) (none) (wAll k T R ly rc hn r tp ee st) := by
  refine CT.of (by decide) (Nat.le_of_ble_eq_true rfl) ?_
  intro z X hQ
  show VW k z 0 0 (wAll k T R ly rc hn rp tp ee st) 0 [some (.ref (k.b + (42))), some (.ref (k.sK s1)), some (.int x2), some (.int x3), none] []
  unfold f4_addSet at hf
  refine r_iconst X (v := 0) dX4_addSet_0 rfl ?_
  refine r_istore X [some (.ref (k.b + (42))), some (.ref (k.sK s1)), some (.int x2), some (.int x3), some (.int 0)] dX4_addSet_1 (Nat.le_of_ble_eq_true rfl) rfl ?_
  exact B4_addSet_B3 X hQ FU rp s1 x2 x3 0 hf
