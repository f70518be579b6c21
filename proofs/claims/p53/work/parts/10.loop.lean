/-! the law's own loop -/
set_option maxRecDepth 100000 in
set_option maxHeartbeats 4000000 in
theorem B_law_B1031 {k : KT} {z : ZT} {T : TT} {R : RR} {ly : Fin 2 → LL} {rc : RC} {ee : EE} {r : Int32 × (HN) × (RP) × (TP) × (Fin 12 → SS)} (X : XX k strs z RL cL_law 22 ret room_1) {b0 len : Nat} {xs : Nat → Int32} (hX : va_X b0 len xs (zS z) (zS z).heap) (hbl : b0 < (zS z).heap.size) (hbA : ¬ kA k b0) (hE : LEND k z) (hr1 : r.1 = 1) (rec : HN → RP → TP → (Fin 12 → SS) → Int32 → Int32 → Option (Int32 × (HN) × (RP) × (TP) × (Fin 12 → SS))) (hrec : ∀ (hn : HN) (rp : RP) (tp : TP) (st : Fin 12 → SS) (x2 : Int32) (x3 : Int32), rec hn rp tp st x2 x3 = some r → VW k z NC NS (wAll k T R ly rc hn rp tp ee st) 89 [some (.ref b0), some (.ref (k.b + (0))), some (.int x2), some (.int x3), none, none, none, none, none, none, none, none, none, none, none, none, none, none, none, none, none, none] []) (hn : HN) (rp : RP) (tp : TP) (st : Fin 12 → SS) (x2 : Int32) (x3 : Int32) (x4 : Int32) (x5 : Int32) (x6 : Int32) (x8 : Int32) (x10 : Int32) (x11 : Int32) (x12 : Int32) (x13 : Int32) (x14 : Int32) (x15 : Int32) (x16 : Int32) (x17 : Int64) (x19 : Int32) (hf : f_law_B1031 len xs (ly (0 : Fin 2)) rec hn rp tp st x2 x3 x4 x5 x6 x8 x10 x11 x12 x13 x14 x15 x16 x17 x19 = some r) : VW k z NC NS (wAll k T R ly rc hn rp tp ee st) 1031 [some (.ref b0), some (.ref (k.b + (0))), some (.int x2), some (.int x3), some (.int x4), some (.int x5), some (.int x6), none, some (.int x8), none, some (.int x10), some (.int x11), some (.int x12), some (.int x13), some (.int x14), some (.int x15), some (.int x16), some (.long x17), none, some (.int x19), none, none] [] := by
  unfold f_law_B1031 at hf
  refine r_iload X (x := x16) dL_law_1031 rfl ?_
  refine r_if_lt X 1053 dL_law_1033 rfl (fun c1033 => ?_) (fun c1033 => ?_)
  · replace hf := ifT hf c1033
    refine r_iconst X (v := 0) dL_law_1053 rfl ?_
    obtain rfl := Option.some.inj hf
    exact l_ret hE hr1 dL_law_1054
  · replace hf := ifF hf c1033
    refine r_aload_n X (x := k.b + (0)) dL_law_1036 rfl ?_
    obtain ⟨u1037, h1037, hf⟩ := bdS hf
    refine r_callV1 X [] [] (K9_undoDepth h1037) lkL_167 clsX9 rfl _ o_main (by decide) (Nat.le_of_ble_eq_true rfl) rfl rfl (Nat.le_of_ble_eq_true rfl) rfl rfl NC_le NS_le dL_law_1037 ?_
    refine r_iload_n X (x := x2) dL_law_1040 rfl ?_
    refine r_icmp_ne X 1053 dL_law_1041 rfl (fun c1041 => ?_) (fun c1041 => ?_)
    · replace hf := ifF hf c1041
      refine r_iconst X (v := 0) dL_law_1053 rfl ?_
      obtain rfl := Option.some.inj hf
      exact l_ret hE hr1 dL_law_1054
    · replace hf := ifT hf c1041
      refine r_aload_n X (x := k.b + (0)) dL_law_1044 rfl ?_
      refine r_iload X (x := x4) dL_law_1045 rfl ?_
      obtain ⟨u1047, h1047, hf⟩ := bdS hf
      refine r_callS1 X [.ref (k.b + (0)), .int x4] [] (K_holds h1047) lkL_170 (by decide) (Nat.le_of_ble_eq_true rfl) rfl rfl (Nat.le_of_ble_eq_true rfl) rfl rfl NC_le NS_le dL_law_1047 ?_
      refine r_if_ne X 1055 dL_law_1050 rfl (fun c1050 => ?_) (fun c1050 => ?_)
      · replace hf := ifF hf c1050
        refine r_iload X (x := x19) dL_law_1055 rfl ?_
        refine r_if_eq X 1160 dL_law_1057 rfl (fun c1057 => ?_) (fun c1057 => ?_)
        · replace hf := ifT hf c1057
          refine r_iinc X (x := x3) (v := x3 + 1) [some (.ref b0), some (.ref (k.b + (0))), some (.int x2), some (.int (x3 + 1)), some (.int x4), some (.int x5), some (.int x6), none, some (.int x8), none, some (.int x10), some (.int x11), some (.int x12), some (.int x13), some (.int x14), some (.int x15), some (.int x16), some (.long x17), none, some (.int x19), none, none] dL_law_1160 rfl rfl rfl ?_
          refine r_goto X 89 dL_law_1163 rfl ?_
          refine VW.msk [true, true, true, true, false, false, false, false, false, false, false, false, false, false, false, false, false, false, false, false, false, false] rfl (lo' := [some (.ref b0), some (.ref (k.b + (0))), some (.int x2), some (.int (x3 + 1)), none, none, none, none, none, none, none, none, none, none, none, none, none, none, none, none, none, none]) rfl ?_
          exact hrec u1047.2.1 rp tp u1047.2.2 x2 (x3 + 1) hf
        · replace hf := ifF hf c1057
          refine r_iload X (x := x4) dL_law_1060 rfl ?_
          refine r_bipush X (v := 29) dL_law_1062 rfl ?_
          refine r_iushr X dL_law_1064 ?_
          refine r_iconst X (v := 3) dL_law_1065 rfl ?_
          refine r_iand X dL_law_1066 ?_
          refine r_iconst X (v := 1) dL_law_1067 rfl ?_
          refine r_icmp_ne X 1160 dL_law_1068 rfl (fun c1068 => ?_) (fun c1068 => ?_)
          · replace hf := ifF hf c1068
            refine r_iinc X (x := x3) (v := x3 + 1) [some (.ref b0), some (.ref (k.b + (0))), some (.int x2), some (.int (x3 + 1)), some (.int x4), some (.int x5), some (.int x6), none, some (.int x8), none, some (.int x10), some (.int x11), some (.int x12), some (.int x13), some (.int x14), some (.int x15), some (.int x16), some (.long x17), none, some (.int x19), none, none] dL_law_1160 rfl rfl rfl ?_
            refine r_goto X 89 dL_law_1163 rfl ?_
            refine VW.msk [true, true, true, true, false, false, false, false, false, false, false, false, false, false, false, false, false, false, false, false, false, false] rfl (lo' := [some (.ref b0), some (.ref (k.b + (0))), some (.int x2), some (.int (x3 + 1)), none, none, none, none, none, none, none, none, none, none, none, none, none, none, none, none, none, none]) rfl ?_
            exact hrec u1047.2.1 rp tp u1047.2.2 x2 (x3 + 1) hf
          · replace hf := ifT hf c1068
            refine r_iinc X (x := x2) (v := x2 + (-1)) [some (.ref b0), some (.ref (k.b + (0))), some (.int (x2 + (-1))), some (.int x3), some (.int x4), some (.int x5), some (.int x6), none, some (.int x8), none, some (.int x10), some (.int x11), some (.int x12), some (.int x13), some (.int x14), some (.int x15), some (.int x16), some (.long x17), none, some (.int x19), none, none] dL_law_1071 rfl rfl rfl ?_
            refine r_aload_n X (x := k.b + (0)) dL_law_1074 rfl ?_
            obtain ⟨u1075, h1075, hf⟩ := bdS hf
            refine r_callV1 X [] [] (K9_undo h1075) lkL_174 clsX9 rfl _ o_main (by decide) (Nat.le_of_ble_eq_true rfl) rfl rfl (Nat.le_of_ble_eq_true rfl) rfl rfl NC_le NS_le dL_law_1075 ?_
            refine r_iload_n X (x := x2 + (-1)) dL_law_1078 rfl ?_
            refine r_icmp_ne X 1158 dL_law_1079 rfl (fun c1079 => ?_) (fun c1079 => ?_)
            · replace hf := ifF hf c1079
              refine r_iconst X (v := 0) dL_law_1158 rfl ?_
              obtain rfl := Option.some.inj hf
              exact l_ret hE hr1 dL_law_1159
            · replace hf := ifT hf c1079
              refine r_aload_n X (x := k.b + (0)) dL_law_1082 rfl ?_
              refine r_iconst X (v := 4) dL_law_1083 rfl ?_
              obtain ⟨u1084, h1084, hf⟩ := bdS hf
              refine r_callV1 X [.int 4] [] (K9_count h1084) lkL_78 clsX9 rfl _ o_main (by decide) (Nat.le_of_ble_eq_true rfl) rfl rfl (Nat.le_of_ble_eq_true rfl) rfl rfl NC_le NS_le dL_law_1084 ?_
              refine r_iload X (x := x11) dL_law_1087 rfl ?_
              refine r_icmp_ne X 1158 dL_law_1089 rfl (fun c1089 => ?_) (fun c1089 => ?_)
              · replace hf := ifF hf c1089
                refine r_iconst X (v := 0) dL_law_1158 rfl ?_
                obtain rfl := Option.some.inj hf
                exact l_ret hE hr1 dL_law_1159
              · replace hf := ifT hf c1089
                refine r_aload_n X (x := k.b + (0)) dL_law_1092 rfl ?_
                refine r_iconst X (v := 5) dL_law_1093 rfl ?_
                obtain ⟨u1094, h1094, hf⟩ := bdS hf
                refine r_callV1 X [.int 5] [] (K9_count h1094) lkL_78 clsX9 rfl _ o_main (by decide) (Nat.le_of_ble_eq_true rfl) rfl rfl (Nat.le_of_ble_eq_true rfl) rfl rfl NC_le NS_le dL_law_1094 ?_
                refine r_iload X (x := x12) dL_law_1097 rfl ?_
                refine r_icmp_ne X 1158 dL_law_1099 rfl (fun c1099 => ?_) (fun c1099 => ?_)
                · replace hf := ifF hf c1099
                  refine r_iconst X (v := 0) dL_law_1158 rfl ?_
                  obtain rfl := Option.some.inj hf
                  exact l_ret hE hr1 dL_law_1159
                · replace hf := ifT hf c1099
                  refine r_aload_n X (x := k.b + (0)) dL_law_1102 rfl ?_
                  refine r_bipush X (v := 6) dL_law_1103 rfl ?_
                  obtain ⟨u1105, h1105, hf⟩ := bdS hf
                  refine r_callV1 X [.int 6] [] (K9_count h1105) lkL_78 clsX9 rfl _ o_main (by decide) (Nat.le_of_ble_eq_true rfl) rfl rfl (Nat.le_of_ble_eq_true rfl) rfl rfl NC_le NS_le dL_law_1105 ?_
                  refine r_iload X (x := x13) dL_law_1108 rfl ?_
                  refine r_icmp_ne X 1158 dL_law_1110 rfl (fun c1110 => ?_) (fun c1110 => ?_)
                  · replace hf := ifF hf c1110
                    refine r_iconst X (v := 0) dL_law_1158 rfl ?_
                    obtain rfl := Option.some.inj hf
                    exact l_ret hE hr1 dL_law_1159
                  · replace hf := ifT hf c1110
                    refine r_aload_n X (x := k.b + (0)) dL_law_1113 rfl ?_
                    refine r_iload X (x := x8) dL_law_1114 rfl ?_
                    refine r_iconst X (v := 1) dL_law_1116 rfl ?_
                    obtain ⟨u1117, h1117, hf⟩ := bdS hf
                    refine r_callV1 X [.int x8, .int 1] [] (K9_flange h1117) lkL_81 clsX9 rfl _ o_main (by decide) (Nat.le_of_ble_eq_true rfl) rfl rfl (Nat.le_of_ble_eq_true rfl) rfl rfl NC_le NS_le dL_law_1117 ?_
                    refine r_iload X (x := x14) dL_law_1120 rfl ?_
                    refine r_icmp_ne X 1158 dL_law_1122 rfl (fun c1122 => ?_) (fun c1122 => ?_)
                    · replace hf := ifF hf c1122
                      refine r_iconst X (v := 0) dL_law_1158 rfl ?_
                      obtain rfl := Option.some.inj hf
                      exact l_ret hE hr1 dL_law_1159
                    · replace hf := ifT hf c1122
                      refine r_aload_n X (x := k.b + (0)) dL_law_1125 rfl ?_
                      refine r_iload X (x := x6) dL_law_1126 rfl ?_
                      refine r_iconst X (v := 3) dL_law_1128 rfl ?_
                      obtain ⟨u1129, h1129, hf⟩ := bdS hf
                      refine r_callV1 X [.int x6, .int 3] [] (K9_valve h1129) lkL_87 clsX9 rfl _ o_main (by decide) (Nat.le_of_ble_eq_true rfl) rfl rfl (Nat.le_of_ble_eq_true rfl) rfl rfl NC_le NS_le dL_law_1129 ?_
                      refine r_iload X (x := x15) dL_law_1132 rfl ?_
                      refine r_icmp_ne X 1158 dL_law_1134 rfl (fun c1134 => ?_) (fun c1134 => ?_)
                      · replace hf := ifF hf c1134
                        refine r_iconst X (v := 0) dL_law_1158 rfl ?_
                        obtain rfl := Option.some.inj hf
                        exact l_ret hE hr1 dL_law_1159
                      · replace hf := ifT hf c1134
                        refine r_aload_n X (x := k.b + (0)) dL_law_1137 rfl ?_
                        refine r_iload X (x := x5) dL_law_1138 rfl ?_
                        obtain ⟨u1140, h1140, hf⟩ := bdS hf
                        refine r_callV1 X [.int x5] [] (K9_gas h1140) lkL_34 clsX9 rfl _ o_main (by decide) (Nat.le_of_ble_eq_true rfl) rfl rfl (Nat.le_of_ble_eq_true rfl) rfl rfl NC_le NS_le dL_law_1140 ?_
                        refine r_lload X (x := x17) dL_law_1143 rfl ?_
                        refine r_lcmp_ne X 1158 dL_law_1145 dL_law_1146 rfl (fun c1145 => ?_) (fun c1145 => ?_)
                        · replace hf := ifF hf c1145
                          refine r_iconst X (v := 0) dL_law_1158 rfl ?_
                          obtain rfl := Option.some.inj hf
                          exact l_ret hE hr1 dL_law_1159
                        · replace hf := ifT hf c1145
                          refine r_aload_n X (x := k.b + (0)) dL_law_1149 rfl ?_
                          obtain ⟨u1150, h1150, hf⟩ := bdS hf
                          refine r_callV1 X [] [] (K9_writeReport h1150) lkL_119 clsX9 rfl _ o_main (by decide) (Nat.le_of_ble_eq_true rfl) rfl rfl (Nat.le_of_ble_eq_true rfl) rfl rfl NC_le NS_le dL_law_1150 ?_
                          refine r_iload X (x := x10) dL_law_1153 rfl ?_
                          refine r_icmp_eq X 1160 dL_law_1155 rfl (fun c1155 => ?_) (fun c1155 => ?_)
                          · replace hf := ifT hf c1155
                            refine r_iinc X (x := x3) (v := x3 + 1) [some (.ref b0), some (.ref (k.b + (0))), some (.int (x2 + (-1))), some (.int (x3 + 1)), some (.int x4), some (.int x5), some (.int x6), none, some (.int x8), none, some (.int x10), some (.int x11), some (.int x12), some (.int x13), some (.int x14), some (.int x15), some (.int x16), some (.long x17), none, some (.int x19), none, none] dL_law_1160 rfl rfl rfl ?_
                            refine r_goto X 89 dL_law_1163 rfl ?_
                            refine VW.msk [true, true, true, true, false, false, false, false, false, false, false, false, false, false, false, false, false, false, false, false, false, false] rfl (lo' := [some (.ref b0), some (.ref (k.b + (0))), some (.int (x2 + (-1))), some (.int (x3 + 1)), none, none, none, none, none, none, none, none, none, none, none, none, none, none, none, none, none, none]) rfl ?_
                            exact hrec u1047.2.1 u1150.2 u1075.2 u1047.2.2 (x2 + (-1)) (x3 + 1) hf
                          · replace hf := ifF hf c1155
                            refine r_iconst X (v := 0) dL_law_1158 rfl ?_
                            obtain rfl := Option.some.inj hf
                            exact l_ret hE hr1 dL_law_1159
      · replace hf := ifT hf c1050
        refine r_iconst X (v := 0) dL_law_1053 rfl ?_
        obtain rfl := Option.some.inj hf
        exact l_ret hE hr1 dL_law_1054
set_option maxRecDepth 100000 in
set_option maxHeartbeats 4000000 in
theorem B_law_B1017 {k : KT} {z : ZT} {T : TT} {R : RR} {ly : Fin 2 → LL} {rc : RC} {ee : EE} {r : Int32 × (HN) × (RP) × (TP) × (Fin 12 → SS)} (X : XX k strs z RL cL_law 22 ret room_1) {b0 len : Nat} {xs : Nat → Int32} (hX : va_X b0 len xs (zS z) (zS z).heap) (hbl : b0 < (zS z).heap.size) (hbA : ¬ kA k b0) (hE : LEND k z) (hr1 : r.1 = 1) (rec : HN → RP → TP → (Fin 12 → SS) → Int32 → Int32 → Option (Int32 × (HN) × (RP) × (TP) × (Fin 12 → SS))) (hrec : ∀ (hn : HN) (rp : RP) (tp : TP) (st : Fin 12 → SS) (x2 : Int32) (x3 : Int32), rec hn rp tp st x2 x3 = some r → VW k z NC NS (wAll k T R ly rc hn rp tp ee st) 89 [some (.ref b0), some (.ref (k.b + (0))), some (.int x2), some (.int x3), none, none, none, none, none, none, none, none, none, none, none, none, none, none, none, none, none, none] []) (hn : HN) (rp : RP) (tp : TP) (st : Fin 12 → SS) (x2 : Int32) (x3 : Int32) (x4 : Int32) (x5 : Int32) (x6 : Int32) (x8 : Int32) (x10 : Int32) (x11 : Int32) (x12 : Int32) (x13 : Int32) (x14 : Int32) (x15 : Int32) (x16 : Int32) (x17 : Int64) (x19 : Int32) (hf : f_law_B1017 len xs (ly (0 : Fin 2)) rec hn rp tp st x2 x3 x4 x5 x6 x8 x10 x11 x12 x13 x14 x15 x16 x17 x19 = some r) : VW k z NC NS (wAll k T R ly rc hn rp tp ee st) 1017 [some (.ref b0), some (.ref (k.b + (0))), some (.int x2), some (.int x3), some (.int x4), some (.int x5), some (.int x6), none, some (.int x8), none, some (.int x10), some (.int x11), some (.int x12), some (.int x13), some (.int x14), some (.int x15), some (.int x16), some (.long x17), none, some (.int x19), none, none] [] := by
  unfold f_law_B1017 at hf
  refine r_iload X (x := x19) dL_law_1017 rfl ?_
  refine r_if_eq X 1031 dL_law_1019 rfl (fun c1019 => ?_) (fun c1019 => ?_)
  · replace hf := ifT hf c1019
    exact B_law_B1031 X hX hbl hbA hE hr1 rec hrec hn rp tp st x2 x3 x4 x5 x6 x8 x10 x11 x12 x13 x14 x15 x16 x17 x19 hf
  · replace hf := ifF hf c1019
    refine r_bipush X (v := 10) dL_law_1022 rfl ?_
    refine r_iload_n X (x := x2) dL_law_1024 rfl ?_
    refine r_iconst X (v := 1) dL_law_1025 rfl ?_
    refine r_iadd X dL_law_1026 ?_
    refine r_imin X lkL_162 rfl ⟨(Nat.le_of_ble_eq_true rfl), (Nat.le_of_ble_eq_true rfl)⟩ NC_le NS_le dL_law_1027 ?_
    refine r_istore_n X [some (.ref b0), some (.ref (k.b + (0))), some (.int (if (x2 + 1) < 10 then (x2 + 1) else 10)), some (.int x3), some (.int x4), some (.int x5), some (.int x6), none, some (.int x8), none, some (.int x10), some (.int x11), some (.int x12), some (.int x13), some (.int x14), some (.int x15), some (.int x16), some (.long x17), none, some (.int x19), none, none] dL_law_1030 (Nat.le_of_ble_eq_true rfl) rfl ?_
    exact B_law_B1031 X hX hbl hbA hE hr1 rec hrec hn rp tp st (if (x2 + 1) < 10 then (x2 + 1) else 10) x3 x4 x5 x6 x8 x10 x11 x12 x13 x14 x15 x16 x17 x19 hf
set_option maxRecDepth 100000 in
set_option maxHeartbeats 4000000 in
theorem B_law_B873 {k : KT} {z : ZT} {T : TT} {R : RR} {ly : Fin 2 → LL} {rc : RC} {ee : EE} {r : Int32 × (HN) × (RP) × (TP) × (Fin 12 → SS)} (X : XX k strs z RL cL_law 22 ret room_1) {b0 len : Nat} {xs : Nat → Int32} (hX : va_X b0 len xs (zS z) (zS z).heap) (hbl : b0 < (zS z).heap.size) (hbA : ¬ kA k b0) (hE : LEND k z) (hr1 : r.1 = 1) (rec : HN → RP → TP → (Fin 12 → SS) → Int32 → Int32 → Option (Int32 × (HN) × (RP) × (TP) × (Fin 12 → SS))) (hrec : ∀ (hn : HN) (rp : RP) (tp : TP) (st : Fin 12 → SS) (x2 : Int32) (x3 : Int32), rec hn rp tp st x2 x3 = some r → VW k z NC NS (wAll k T R ly rc hn rp tp ee st) 89 [some (.ref b0), some (.ref (k.b + (0))), some (.int x2), some (.int x3), none, none, none, none, none, none, none, none, none, none, none, none, none, none, none, none, none, none] []) (hn : HN) (rp : RP) (tp : TP) (st : Fin 12 → SS) (x2 : Int32) (x3 : Int32) (x4 : Int32) (x5 : Int32) (x6 : Int32) (x8 : Int32) (x9 : Int32) (x10 : Int32) (x11 : Int32) (x12 : Int32) (x13 : Int32) (x14 : Int32) (x15 : Int32) (x17 : Int64) (x19 : Int32) (x20 : Int32) (t0 : Int32) (hf : f_law_B873 len xs (ly (0 : Fin 2)) rec hn rp tp st x2 x3 x4 x5 x6 x8 x9 x10 x11 x12 x13 x14 x15 x17 x19 x20 t0 = some r) : VW k z NC NS (wAll k T R ly rc hn rp tp ee st) 873 [some (.ref b0), some (.ref (k.b + (0))), some (.int x2), some (.int x3), some (.int x4), some (.int x5), some (.int x6), none, some (.int x8), some (.int x9), some (.int x10), some (.int x11), some (.int x12), some (.int x13), some (.int x14), some (.int x15), none, some (.long x17), none, some (.int x19), some (.int x20), none] [.int t0] := by
  unfold f_law_B873 at hf
  refine r_istore X [some (.ref b0), some (.ref (k.b + (0))), some (.int x2), some (.int x3), some (.int x4), some (.int x5), some (.int x6), none, some (.int x8), some (.int x9), some (.int x10), some (.int x11), some (.int x12), some (.int x13), some (.int x14), some (.int x15), some (.int t0), some (.long x17), none, some (.int x19), some (.int x20), none] dL_law_873 (Nat.le_of_ble_eq_true rfl) rfl ?_
  refine r_iload X (x := x19) dL_law_875 rfl ?_
  refine r_if_eq X 1017 dL_law_877 rfl (fun c877 => ?_) (fun c877 => ?_)
  · replace hf := ifT hf c877
    refine VW.msk [true, true, true, true, true, true, true, false, true, false, true, true, true, true, true, true, true, true, false, true, false, false] rfl (lo' := [some (.ref b0), some (.ref (k.b + (0))), some (.int x2), some (.int x3), some (.int x4), some (.int x5), some (.int x6), none, some (.int x8), none, some (.int x10), some (.int x11), some (.int x12), some (.int x13), some (.int x14), some (.int x15), some (.int t0), some (.long x17), none, some (.int x19), none, none]) rfl ?_
    exact B_law_B1017 X hX hbl hbA hE hr1 rec hrec hn rp tp st x2 x3 x4 x5 x6 x8 x10 x11 x12 x13 x14 x15 t0 x17 x19 hf
  · replace hf := ifF hf c877
    refine r_iload X (x := t0) dL_law_880 rfl ?_
    refine r_aload_n X (x := k.b + (0)) dL_law_882 rfl ?_
    refine r_iconst X (v := 0) dL_law_883 rfl ?_
    refine r_iconst X (v := 1) dL_law_884 rfl ?_
    obtain ⟨u885, h885, hf⟩ := bdS hf
    refine r_callV1 X [.int 0, .int 1] [.int t0] (K9_rise h885) lkL_155 clsX9 rfl _ o_main (by decide) (Nat.le_of_ble_eq_true rfl) rfl rfl (Nat.le_of_ble_eq_true rfl) rfl rfl NC_le NS_le dL_law_885 ?_
    refine r_icmp_ne X 1015 dL_law_888 rfl (fun c888 => ?_) (fun c888 => ?_)
    · replace hf := ifF hf c888
      refine r_iconst X (v := 0) dL_law_1015 rfl ?_
      obtain rfl := Option.some.inj hf
      exact l_ret hE hr1 dL_law_1016
    · replace hf := ifT hf c888
      refine r_aload_n X (x := k.b + (0)) dL_law_891 rfl ?_
      refine r_iconst X (v := 0) dL_law_892 rfl ?_
      refine r_iconst X (v := 0) dL_law_893 rfl ?_
      obtain ⟨u894, h894, hf⟩ := bdS hf
      refine r_callV1 X [.int 0, .int 0] [] (K9_rise h894) lkL_155 clsX9 rfl _ o_main (by decide) (Nat.le_of_ble_eq_true rfl) rfl rfl (Nat.le_of_ble_eq_true rfl) rfl rfl NC_le NS_le dL_law_894 ?_
      refine r_iload X (x := x5) dL_law_897 rfl ?_
      refine r_icmp_ne X 1015 dL_law_899 rfl (fun c899 => ?_) (fun c899 => ?_)
      · replace hf := ifF hf c899
        refine r_iconst X (v := 0) dL_law_1015 rfl ?_
        obtain rfl := Option.some.inj hf
        exact l_ret hE hr1 dL_law_1016
      · replace hf := ifT hf c899
        refine r_aload_n X (x := k.b + (0)) dL_law_902 rfl ?_
        refine r_iconst X (v := 0) dL_law_903 rfl ?_
        refine r_iconst X (v := 2) dL_law_904 rfl ?_
        obtain ⟨u905, h905, hf⟩ := bdS hf
        refine r_callV1 X [.int 0, .int 2] [] (K9_rise h905) lkL_155 clsX9 rfl _ o_main (by decide) (Nat.le_of_ble_eq_true rfl) rfl rfl (Nat.le_of_ble_eq_true rfl) rfl rfl NC_le NS_le dL_law_905 ?_
        refine r_aload_n X (x := k.b + (0)) dL_law_908 rfl ?_
        refine r_iconst X (v := 4) dL_law_909 rfl ?_
        obtain ⟨u910, h910, hf⟩ := bdS hf
        refine r_callV1 X [.int 4] [.int u905] (K9_count h910) lkL_78 clsX9 rfl _ o_main (by decide) (Nat.le_of_ble_eq_true rfl) rfl rfl (Nat.le_of_ble_eq_true rfl) rfl rfl NC_le NS_le dL_law_910 ?_
        refine r_icmp_ne X 1015 dL_law_913 rfl (fun c913 => ?_) (fun c913 => ?_)
        · replace hf := ifF hf c913
          refine r_iconst X (v := 0) dL_law_1015 rfl ?_
          obtain rfl := Option.some.inj hf
          exact l_ret hE hr1 dL_law_1016
        · replace hf := ifT hf c913
          refine r_aload_n X (x := k.b + (0)) dL_law_916 rfl ?_
          refine r_iconst X (v := 0) dL_law_917 rfl ?_
          refine r_iconst X (v := 3) dL_law_918 rfl ?_
          obtain ⟨u919, h919, hf⟩ := bdS hf
          refine r_callV1 X [.int 0, .int 3] [] (K9_rise h919) lkL_155 clsX9 rfl _ o_main (by decide) (Nat.le_of_ble_eq_true rfl) rfl rfl (Nat.le_of_ble_eq_true rfl) rfl rfl NC_le NS_le dL_law_919 ?_
          refine r_iconst X (v := 2) dL_law_922 rfl ?_
          refine r_iconst X (v := 2) dL_law_923 rfl ?_
          refine r_iload X (x := x9) dL_law_924 rfl ?_
          refine r_imul X dL_law_926 ?_
          refine r_iadd X dL_law_927 ?_
          refine r_icmp_ne X 1015 dL_law_928 rfl (fun c928 => ?_) (fun c928 => ?_)
          · replace hf := ifF hf c928
            refine r_iconst X (v := 0) dL_law_1015 rfl ?_
            obtain rfl := Option.some.inj hf
            exact l_ret hE hr1 dL_law_1016
          · replace hf := ifT hf c928
            refine r_aload_n X (x := k.b + (0)) dL_law_931 rfl ?_
            refine r_iload X (x := x5) dL_law_932 rfl ?_
            obtain ⟨u934, h934, hf⟩ := bdS hf
            refine r_callV1 X [.int x5] [] (K9_gas h934) lkL_34 clsX9 rfl _ o_main (by decide) (Nat.le_of_ble_eq_true rfl) rfl rfl (Nat.le_of_ble_eq_true rfl) rfl rfl NC_le NS_le dL_law_934 ?_
            refine r_lload X (x := x17) dL_law_937 rfl ?_
            refine r_lsub X dL_law_939 ?_
            refine r_aload_n X (x := k.b + (0)) dL_law_940 rfl ?_
            refine r_iconst X (v := 0) dL_law_941 rfl ?_
            refine r_iconst X (v := 0) dL_law_942 rfl ?_
            obtain ⟨u943, h943, hf⟩ := bdS hf
            refine r_callV1 X [.int 0, .int 0] [.long (u934 - x17)] (K9_riseGas h943) lkL_158 clsX9 rfl _ o_main (by decide) (Nat.le_of_ble_eq_true rfl) rfl rfl (Nat.le_of_ble_eq_true rfl) rfl rfl NC_le NS_le dL_law_943 ?_
            refine r_aload_n X (x := k.b + (0)) dL_law_946 rfl ?_
            refine r_iconst X (v := 0) dL_law_947 rfl ?_
            refine r_iconst X (v := 1) dL_law_948 rfl ?_
            obtain ⟨u949, h949, hf⟩ := bdS hf
            refine r_callV1 X [.int 0, .int 1] [.long u943, .long (u934 - x17)] (K9_riseGas h949) lkL_158 clsX9 rfl _ o_main (by decide) (Nat.le_of_ble_eq_true rfl) rfl rfl (Nat.le_of_ble_eq_true rfl) rfl rfl NC_le NS_le dL_law_949 ?_
            refine r_ladd X dL_law_952 ?_
            refine r_lcmp_ne X 1015 dL_law_953 dL_law_954 rfl (fun c953 => ?_) (fun c953 => ?_)
            · replace hf := ifF hf c953
              refine r_iconst X (v := 0) dL_law_1015 rfl ?_
              obtain rfl := Option.some.inj hf
              exact l_ret hE hr1 dL_law_1016
            · replace hf := ifT hf c953
              refine r_aload_n X (x := k.b + (0)) dL_law_957 rfl ?_
              refine r_bipush X (v := 7) dL_law_958 rfl ?_
              obtain ⟨u960, h960, hf⟩ := bdS hf
              refine r_callV1 X [.int 7] [] (K9_count h960) lkL_78 clsX9 rfl _ o_main (by decide) (Nat.le_of_ble_eq_true rfl) rfl rfl (Nat.le_of_ble_eq_true rfl) rfl rfl NC_le NS_le dL_law_960 ?_
              refine r_bipush X (v := 10) dL_law_963 rfl ?_
              refine r_iload X (x := x20) dL_law_965 rfl ?_
              refine r_iconst X (v := 1) dL_law_967 rfl ?_
              refine r_iadd X dL_law_968 ?_
              refine r_imin X lkL_162 rfl ⟨(Nat.le_of_ble_eq_true rfl), (Nat.le_of_ble_eq_true rfl)⟩ NC_le NS_le dL_law_969 ?_
              refine r_icmp_ne X 1015 dL_law_972 rfl (fun c972 => ?_) (fun c972 => ?_)
              · replace hf := ifF hf c972
                refine r_iconst X (v := 0) dL_law_1015 rfl ?_
                obtain rfl := Option.some.inj hf
                exact l_ret hE hr1 dL_law_1016
              · replace hf := ifT hf c972
                refine r_iload X (x := t0) dL_law_975 rfl ?_
                suffices K977 : VW k z NC NS (wAll k T R ly rc hn rp tp ee st) 985 [some (.ref b0), some (.ref (k.b + (0))), some (.int x2), some (.int x3), some (.int x4), some (.int x5), some (.int x6), none, some (.int x8), some (.int x9), some (.int x10), some (.int x11), some (.int x12), some (.int x13), some (.int x14), some (.int x15), some (.int t0), some (.long x17), none, some (.int x19), some (.int x20), none] [.int (if t0 = 0 then (1 : Int32) else (0 : Int32))] by
                  refine r_if_ne X 984 dL_law_977 rfl (fun c977 => ?_) (fun c977 => ?_)
                  · refine r_iconst X (v := 0) dL_law_984 rfl ?_
                    rw [if_neg c977] at K977
                    exact K977
                  · refine r_iconst X (v := 1) dL_law_980 rfl ?_
                    refine r_goto X 985 dL_law_981 rfl ?_
                    rw [if_pos c977] at K977
                    exact K977
                refine r_aload_n X (x := k.b + (0)) dL_law_985 rfl ?_
                refine r_iconst X (v := 0) dL_law_986 rfl ?_
                refine r_iconst X (v := 0) dL_law_987 rfl ?_
                obtain ⟨u988, h988, hf⟩ := bdS hf
                refine r_callV1 X [.int 0, .int 0] [.int (if t0 = 0 then (1 : Int32) else (0 : Int32))] (K9_riseGas h988) lkL_158 clsX9 rfl _ o_main (by decide) (Nat.le_of_ble_eq_true rfl) rfl rfl (Nat.le_of_ble_eq_true rfl) rfl rfl NC_le NS_le dL_law_988 ?_
                refine r_lconst X (v := 0) dL_law_991 rfl ?_
                refine r_lcmp_ne X 1011 dL_law_992 dL_law_993 rfl (fun c992 => ?_) (fun c992 => ?_)
                · replace hf := ifF hf c992
                  refine r_iconst X (v := 0) dL_law_1011 rfl ?_
                  refine r_icmp_eq X 1017 dL_law_1012 rfl (fun c1012 => ?_) (fun c1012 => ?_)
                  · replace hf := ifT hf c1012
                    refine VW.msk [true, true, true, true, true, true, true, false, true, false, true, true, true, true, true, true, true, true, false, true, false, false] rfl (lo' := [some (.ref b0), some (.ref (k.b + (0))), some (.int x2), some (.int x3), some (.int x4), some (.int x5), some (.int x6), none, some (.int x8), none, some (.int x10), some (.int x11), some (.int x12), some (.int x13), some (.int x14), some (.int x15), some (.int t0), some (.long x17), none, some (.int x19), none, none]) rfl ?_
                    exact B_law_B1017 X hX hbl hbA hE hr1 rec hrec hn rp tp st x2 x3 x4 x5 x6 x8 x10 x11 x12 x13 x14 x15 t0 x17 x19 hf
                  · replace hf := ifF hf c1012
                    refine r_iconst X (v := 0) dL_law_1015 rfl ?_
                    obtain rfl := Option.some.inj hf
                    exact l_ret hE hr1 dL_law_1016
                · replace hf := ifT hf c992
                  refine r_aload_n X (x := k.b + (0)) dL_law_996 rfl ?_
                  refine r_iconst X (v := 0) dL_law_997 rfl ?_
                  refine r_iconst X (v := 1) dL_law_998 rfl ?_
                  obtain ⟨u999, h999, hf⟩ := bdS hf
                  refine r_callV1 X [.int 0, .int 1] [.int (if t0 = 0 then (1 : Int32) else (0 : Int32))] (K9_riseGas h999) lkL_158 clsX9 rfl _ o_main (by decide) (Nat.le_of_ble_eq_true rfl) rfl rfl (Nat.le_of_ble_eq_true rfl) rfl rfl NC_le NS_le dL_law_999 ?_
                  refine r_lconst X (v := 0) dL_law_1002 rfl ?_
                  refine r_lcmp_ne X 1011 dL_law_1003 dL_law_1004 rfl (fun c1003 => ?_) (fun c1003 => ?_)
                  · replace hf := ifF hf c1003
                    refine r_iconst X (v := 0) dL_law_1011 rfl ?_
                    refine r_icmp_eq X 1017 dL_law_1012 rfl (fun c1012 => ?_) (fun c1012 => ?_)
                    · replace hf := ifT hf c1012
                      refine VW.msk [true, true, true, true, true, true, true, false, true, false, true, true, true, true, true, true, true, true, false, true, false, false] rfl (lo' := [some (.ref b0), some (.ref (k.b + (0))), some (.int x2), some (.int x3), some (.int x4), some (.int x5), some (.int x6), none, some (.int x8), none, some (.int x10), some (.int x11), some (.int x12), some (.int x13), some (.int x14), some (.int x15), some (.int t0), some (.long x17), none, some (.int x19), none, none]) rfl ?_
                      exact B_law_B1017 X hX hbl hbA hE hr1 rec hrec hn rp tp st x2 x3 x4 x5 x6 x8 x10 x11 x12 x13 x14 x15 t0 x17 x19 hf
                    · replace hf := ifF hf c1012
                      refine r_iconst X (v := 0) dL_law_1015 rfl ?_
                      obtain rfl := Option.some.inj hf
                      exact l_ret hE hr1 dL_law_1016
                  · replace hf := ifT hf c1003
                    refine r_iconst X (v := 1) dL_law_1007 rfl ?_
                    refine r_goto X 1012 dL_law_1008 rfl ?_
                    refine r_icmp_eq X 1017 dL_law_1012 rfl (fun c1012 => ?_) (fun c1012 => ?_)
                    · replace hf := ifT hf c1012
                      refine VW.msk [true, true, true, true, true, true, true, false, true, false, true, true, true, true, true, true, true, true, false, true, false, false] rfl (lo' := [some (.ref b0), some (.ref (k.b + (0))), some (.int x2), some (.int x3), some (.int x4), some (.int x5), some (.int x6), none, some (.int x8), none, some (.int x10), some (.int x11), some (.int x12), some (.int x13), some (.int x14), some (.int x15), some (.int t0), some (.long x17), none, some (.int x19), none, none]) rfl ?_
                      exact B_law_B1017 X hX hbl hbA hE hr1 rec hrec hn rp tp st x2 x3 x4 x5 x6 x8 x10 x11 x12 x13 x14 x15 t0 x17 x19 hf
                    · replace hf := ifF hf c1012
                      refine r_iconst X (v := 0) dL_law_1015 rfl ?_
                      obtain rfl := Option.some.inj hf
                      exact l_ret hE hr1 dL_law_1016
set_option maxRecDepth 100000 in
set_option maxHeartbeats 4000000 in
theorem B_law_B786 {k : KT} {z : ZT} {T : TT} {R : RR} {ly : Fin 2 → LL} {rc : RC} {ee : EE} {r : Int32 × (HN) × (RP) × (TP) × (Fin 12 → SS)} (X : XX k strs z RL cL_law 22 ret room_1) {b0 len : Nat} {xs : Nat → Int32} (hX : va_X b0 len xs (zS z) (zS z).heap) (hbl : b0 < (zS z).heap.size) (hbA : ¬ kA k b0) (hE : LEND k z) (hr1 : r.1 = 1) (rec : HN → RP → TP → (Fin 12 → SS) → Int32 → Int32 → Option (Int32 × (HN) × (RP) × (TP) × (Fin 12 → SS))) (hrec : ∀ (hn : HN) (rp : RP) (tp : TP) (st : Fin 12 → SS) (x2 : Int32) (x3 : Int32), rec hn rp tp st x2 x3 = some r → VW k z NC NS (wAll k T R ly rc hn rp tp ee st) 89 [some (.ref b0), some (.ref (k.b + (0))), some (.int x2), some (.int x3), none, none, none, none, none, none, none, none, none, none, none, none, none, none, none, none, none, none] []) (hn : HN) (rp : RP) (tp : TP) (st : Fin 12 → SS) (x2 : Int32) (x3 : Int32) (x4 : Int32) (x5 : Int32) (x6 : Int32) (x8 : Int32) (x9 : Int32) (x10 : Int32) (x11 : Int32) (x12 : Int32) (x13 : Int32) (x14 : Int32) (x15 : Int32) (x17 : Int64) (x19 : Int32) (x20 : Int32) (x21 : Int32) (t0 : Int32) (hf : f_law_B786 len xs (ly (0 : Fin 2)) rec hn rp tp st x2 x3 x4 x5 x6 x8 x9 x10 x11 x12 x13 x14 x15 x17 x19 x20 x21 t0 = some r) : VW k z NC NS (wAll k T R ly rc hn rp tp ee st) 786 [some (.ref b0), some (.ref (k.b + (0))), some (.int x2), some (.int x3), some (.int x4), some (.int x5), some (.int x6), none, some (.int x8), some (.int x9), some (.int x10), some (.int x11), some (.int x12), some (.int x13), some (.int x14), some (.int x15), none, some (.long x17), none, some (.int x19), some (.int x20), some (.int x21)] [.int t0] := by
  unfold f_law_B786 at hf
  refine r_istore X [some (.ref b0), some (.ref (k.b + (0))), some (.int x2), some (.int x3), some (.int x4), some (.int x5), some (.int x6), none, some (.int x8), some (.int x9), some (.int x10), some (.int x11), some (.int x12), some (.int x13), some (.int x14), some (.int x15), some (.int t0), some (.long x17), none, some (.int x19), some (.int x20), some (.int x21)] dL_law_786 (Nat.le_of_ble_eq_true rfl) rfl ?_
  refine r_iload X (x := x19) dL_law_788 rfl ?_
  refine r_if_eq X 1017 dL_law_790 rfl (fun c790 => ?_) (fun c790 => ?_)
  · replace hf := ifT hf c790
    refine VW.msk [true, true, true, true, true, true, true, false, true, false, true, true, true, true, true, true, true, true, false, true, false, false] rfl (lo' := [some (.ref b0), some (.ref (k.b + (0))), some (.int x2), some (.int x3), some (.int x4), some (.int x5), some (.int x6), none, some (.int x8), none, some (.int x10), some (.int x11), some (.int x12), some (.int x13), some (.int x14), some (.int x15), some (.int t0), some (.long x17), none, some (.int x19), none, none]) rfl ?_
    exact B_law_B1017 X hX hbl hbA hE hr1 rec hrec hn rp tp st x2 x3 x4 x5 x6 x8 x10 x11 x12 x13 x14 x15 t0 x17 x19 hf
  · replace hf := ifF hf c790
    refine r_iload X (x := t0) dL_law_793 rfl ?_
    refine r_iload X (x := x21) dL_law_795 rfl ?_
    refine r_icmp_ne X 834 dL_law_797 rfl (fun c797 => ?_) (fun c797 => ?_)
    · replace hf := ifF hf c797
      refine r_iconst X (v := 0) dL_law_834 rfl ?_
      obtain rfl := Option.some.inj hf
      exact l_ret hE hr1 dL_law_835
    · replace hf := ifT hf c797
      refine r_iload X (x := t0) dL_law_800 rfl ?_
      refine r_iconst X (v := 1) dL_law_802 rfl ?_
      refine r_iload X (x := x9) dL_law_803 rfl ?_
      refine r_iadd X dL_law_805 ?_
      refine r_icmp_gt X 834 dL_law_806 rfl (fun c806 => ?_) (fun c806 => ?_)
      · replace hf := ifT hf c806
        refine r_iconst X (v := 0) dL_law_834 rfl ?_
        obtain rfl := Option.some.inj hf
        exact l_ret hE hr1 dL_law_835
      · replace hf := ifF hf c806
        refine r_aload_n X (x := k.b + (0)) dL_law_809 rfl ?_
        refine r_iload X (x := x5) dL_law_810 rfl ?_
        refine r_iconst X (v := 3) dL_law_812 rfl ?_
        obtain ⟨u813, h813, hf⟩ := bdS hf
        refine r_callV1 X [.int x5, .int 3] [] (K9_chamber h813) lkL_27 clsX9 rfl _ o_main (by decide) (Nat.le_of_ble_eq_true rfl) rfl rfl (Nat.le_of_ble_eq_true rfl) rfl rfl NC_le NS_le dL_law_813 ?_
        refine r_iload X (x := x20) dL_law_816 rfl ?_
        refine r_icmp_gt X 834 dL_law_818 rfl (fun c818 => ?_) (fun c818 => ?_)
        · replace hf := ifT hf c818
          refine r_iconst X (v := 0) dL_law_834 rfl ?_
          obtain rfl := Option.some.inj hf
          exact l_ret hE hr1 dL_law_835
        · replace hf := ifF hf c818
          refine r_aload_n X (x := k.b + (0)) dL_law_821 rfl ?_
          refine r_iconst X (v := 4) dL_law_822 rfl ?_
          obtain ⟨u823, h823, hf⟩ := bdS hf
          refine r_callV1 X [.int 4] [] (K9_count h823) lkL_78 clsX9 rfl _ o_main (by decide) (Nat.le_of_ble_eq_true rfl) rfl rfl (Nat.le_of_ble_eq_true rfl) rfl rfl NC_le NS_le dL_law_823 ?_
          refine r_iload X (x := x11) dL_law_826 rfl ?_
          refine r_iload X (x := t0) dL_law_828 rfl ?_
          refine r_iadd X dL_law_830 ?_
          refine r_icmp_eq X 1017 dL_law_831 rfl (fun c831 => ?_) (fun c831 => ?_)
          · replace hf := ifT hf c831
            refine VW.msk [true, true, true, true, true, true, true, false, true, false, true, true, true, true, true, true, true, true, false, true, false, false] rfl (lo' := [some (.ref b0), some (.ref (k.b + (0))), some (.int x2), some (.int x3), some (.int x4), some (.int x5), some (.int x6), none, some (.int x8), none, some (.int x10), some (.int x11), some (.int x12), some (.int x13), some (.int x14), some (.int x15), some (.int t0), some (.long x17), none, some (.int x19), none, none]) rfl ?_
            exact B_law_B1017 X hX hbl hbA hE hr1 rec hrec hn rp tp st x2 x3 x4 x5 x6 x8 x10 x11 x12 x13 x14 x15 t0 x17 x19 hf
          · replace hf := ifF hf c831
            refine r_iconst X (v := 0) dL_law_834 rfl ?_
            obtain rfl := Option.some.inj hf
            exact l_ret hE hr1 dL_law_835
set_option maxRecDepth 100000 in
set_option maxHeartbeats 4000000 in
theorem B_law_B767 {k : KT} {z : ZT} {T : TT} {R : RR} {ly : Fin 2 → LL} {rc : RC} {ee : EE} {r : Int32 × (HN) × (RP) × (TP) × (Fin 12 → SS)} (X : XX k strs z RL cL_law 22 ret room_1) {b0 len : Nat} {xs : Nat → Int32} (hX : va_X b0 len xs (zS z) (zS z).heap) (hbl : b0 < (zS z).heap.size) (hbA : ¬ kA k b0) (hE : LEND k z) (hr1 : r.1 = 1) (rec : HN → RP → TP → (Fin 12 → SS) → Int32 → Int32 → Option (Int32 × (HN) × (RP) × (TP) × (Fin 12 → SS))) (hrec : ∀ (hn : HN) (rp : RP) (tp : TP) (st : Fin 12 → SS) (x2 : Int32) (x3 : Int32), rec hn rp tp st x2 x3 = some r → VW k z NC NS (wAll k T R ly rc hn rp tp ee st) 89 [some (.ref b0), some (.ref (k.b + (0))), some (.int x2), some (.int x3), none, none, none, none, none, none, none, none, none, none, none, none, none, none, none, none, none, none] []) (hn : HN) (rp : RP) (tp : TP) (st : Fin 12 → SS) (x2 : Int32) (x3 : Int32) (x4 : Int32) (x5 : Int32) (x6 : Int32) (x8 : Int32) (x9 : Int32) (x10 : Int32) (x11 : Int32) (x12 : Int32) (x13 : Int32) (x14 : Int32) (x15 : Int32) (x17 : Int64) (x19 : Int32) (x20 : Int32) (t0 : Int32) (hf : f_law_B767 len xs (ly (0 : Fin 2)) rec hn rp tp st x2 x3 x4 x5 x6 x8 x9 x10 x11 x12 x13 x14 x15 x17 x19 x20 t0 = some r) : VW k z NC NS (wAll k T R ly rc hn rp tp ee st) 767 [some (.ref b0), some (.ref (k.b + (0))), some (.int x2), some (.int x3), some (.int x4), some (.int x5), some (.int x6), none, some (.int x8), some (.int x9), some (.int x10), some (.int x11), some (.int x12), some (.int x13), some (.int x14), some (.int x15), none, some (.long x17), none, some (.int x19), some (.int x20), none] [.int t0] := by
  unfold f_law_B767 at hf
  refine r_istore X [some (.ref b0), some (.ref (k.b + (0))), some (.int x2), some (.int x3), some (.int x4), some (.int x5), some (.int x6), none, some (.int x8), some (.int x9), some (.int x10), some (.int x11), some (.int x12), some (.int x13), some (.int x14), some (.int x15), none, some (.long x17), none, some (.int x19), some (.int x20), some (.int t0)] dL_law_767 (Nat.le_of_ble_eq_true rfl) rfl ?_
  refine r_iload X (x := x19) dL_law_769 rfl ?_
  refine r_if_eq X 785 dL_law_771 rfl (fun c771 => ?_) (fun c771 => ?_)
  · replace hf := ifT hf c771
    refine r_iconst X (v := 0) dL_law_785 rfl ?_
    exact B_law_B786 X hX hbl hbA hE hr1 rec hrec hn rp tp st x2 x3 x4 x5 x6 x8 x9 x10 x11 x12 x13 x14 x15 x17 x19 x20 t0 0 hf
  · replace hf := ifF hf c771
    refine r_aload_n X (x := k.b + (0)) dL_law_774 rfl ?_
    refine r_iload X (x := x5) dL_law_775 rfl ?_
    refine r_iload X (x := x20) dL_law_777 rfl ?_
    obtain ⟨u779, h779, hf⟩ := bdS hf
    refine r_callV1 X [.int x5, .int x20] [] (K9_passUntil h779) lkL_149 clsX9 rfl _ o_main (by decide) (Nat.le_of_ble_eq_true rfl) rfl rfl (Nat.le_of_ble_eq_true rfl) rfl rfl NC_le NS_le dL_law_779 ?_
    refine r_goto X 786 dL_law_782 rfl ?_
    exact B_law_B786 X hX hbl hbA hE hr1 rec hrec hn rp u779.2.1 u779.2.2 x2 x3 x4 x5 x6 x8 x9 x10 x11 x12 x13 x14 x15 x17 x19 x20 t0 u779.1 hf
set_option maxRecDepth 100000 in
set_option maxHeartbeats 4000000 in
theorem B_law_B517 {k : KT} {z : ZT} {T : TT} {R : RR} {ly : Fin 2 → LL} {rc : RC} {ee : EE} {r : Int32 × (HN) × (RP) × (TP) × (Fin 12 → SS)} (X : XX k strs z RL cL_law 22 ret room_1) {b0 len : Nat} {xs : Nat → Int32} (hX : va_X b0 len xs (zS z) (zS z).heap) (hbl : b0 < (zS z).heap.size) (hbA : ¬ kA k b0) (hE : LEND k z) (hr1 : r.1 = 1) (rec : HN → RP → TP → (Fin 12 → SS) → Int32 → Int32 → Option (Int32 × (HN) × (RP) × (TP) × (Fin 12 → SS))) (hrec : ∀ (hn : HN) (rp : RP) (tp : TP) (st : Fin 12 → SS) (x2 : Int32) (x3 : Int32), rec hn rp tp st x2 x3 = some r → VW k z NC NS (wAll k T R ly rc hn rp tp ee st) 89 [some (.ref b0), some (.ref (k.b + (0))), some (.int x2), some (.int x3), none, none, none, none, none, none, none, none, none, none, none, none, none, none, none, none, none, none] []) (hn : HN) (rp : RP) (tp : TP) (st : Fin 12 → SS) (x2 : Int32) (x3 : Int32) (x4 : Int32) (x5 : Int32) (x6 : Int32) (x7 : Int32) (x8 : Int32) (x10 : Int32) (x11 : Int32) (x12 : Int32) (x13 : Int32) (x14 : Int32) (x15 : Int32) (x17 : Int64) (x19 : Int32) (t0 : Int32) (hf : f_law_B517 len xs (ly (0 : Fin 2)) rec hn rp tp st x2 x3 x4 x5 x6 x7 x8 x10 x11 x12 x13 x14 x15 x17 x19 t0 = some r) : VW k z NC NS (wAll k T R ly rc hn rp tp ee st) 517 [some (.ref b0), some (.ref (k.b + (0))), some (.int x2), some (.int x3), some (.int x4), some (.int x5), some (.int x6), some (.int x7), some (.int x8), none, some (.int x10), some (.int x11), some (.int x12), some (.int x13), some (.int x14), some (.int x15), none, some (.long x17), none, some (.int x19), none, none] [.int t0] := by
  unfold f_law_B517 at hf
  refine r_istore X [some (.ref b0), some (.ref (k.b + (0))), some (.int x2), some (.int x3), some (.int x4), some (.int x5), some (.int x6), some (.int x7), some (.int x8), none, some (.int x10), some (.int x11), some (.int x12), some (.int x13), some (.int x14), some (.int x15), some (.int t0), some (.long x17), none, some (.int x19), none, none] dL_law_517 (Nat.le_of_ble_eq_true rfl) rfl ?_
  refine r_iload X (x := x19) dL_law_519 rfl ?_
  refine r_if_eq X 1017 dL_law_521 rfl (fun c521 => ?_) (fun c521 => ?_)
  · replace hf := ifT hf c521
    refine VW.msk [true, true, true, true, true, true, true, false, true, false, true, true, true, true, true, true, true, true, false, true, false, false] rfl (lo' := [some (.ref b0), some (.ref (k.b + (0))), some (.int x2), some (.int x3), some (.int x4), some (.int x5), some (.int x6), none, some (.int x8), none, some (.int x10), some (.int x11), some (.int x12), some (.int x13), some (.int x14), some (.int x15), some (.int t0), some (.long x17), none, some (.int x19), none, none]) rfl ?_
    exact B_law_B1017 X hX hbl hbA hE hr1 rec hrec hn rp tp st x2 x3 x4 x5 x6 x8 x10 x11 x12 x13 x14 x15 t0 x17 x19 hf
  · replace hf := ifF hf c521
    refine r_aload_n X (x := k.b + (0)) dL_law_524 rfl ?_
    refine r_iload X (x := x7) dL_law_525 rfl ?_
    obtain ⟨u527, h527, hf⟩ := bdS hf
    refine r_callV1 X [.int x7] [] (K9_mayStart h527) lkL_93 clsX9 rfl _ o_main (by decide) (Nat.le_of_ble_eq_true rfl) rfl rfl (Nat.le_of_ble_eq_true rfl) rfl rfl NC_le NS_le dL_law_527 ?_
    refine r_iconst X (v := 1) dL_law_530 rfl ?_
    refine r_icmp_ne X 1017 dL_law_531 rfl (fun c531 => ?_) (fun c531 => ?_)
    · replace hf := ifF hf c531
      refine VW.msk [true, true, true, true, true, true, true, false, true, false, true, true, true, true, true, true, true, true, false, true, false, false] rfl (lo' := [some (.ref b0), some (.ref (k.b + (0))), some (.int x2), some (.int x3), some (.int x4), some (.int x5), some (.int x6), none, some (.int x8), none, some (.int x10), some (.int x11), some (.int x12), some (.int x13), some (.int x14), some (.int x15), some (.int t0), some (.long x17), none, some (.int x19), none, none]) rfl ?_
      exact B_law_B1017 X hX hbl hbA hE hr1 rec hrec hn rp tp st x2 x3 x4 x5 x6 x8 x10 x11 x12 x13 x14 x15 t0 x17 x19 hf
    · replace hf := ifT hf c531
      refine r_iconst X (v := 0) dL_law_534 rfl ?_
      obtain rfl := Option.some.inj hf
      exact l_ret hE hr1 dL_law_535
set_option maxRecDepth 100000 in
set_option maxHeartbeats 4000000 in
theorem B_law_B447 {k : KT} {z : ZT} {T : TT} {R : RR} {ly : Fin 2 → LL} {rc : RC} {ee : EE} {r : Int32 × (HN) × (RP) × (TP) × (Fin 12 → SS)} (X : XX k strs z RL cL_law 22 ret room_1) {b0 len : Nat} {xs : Nat → Int32} (hX : va_X b0 len xs (zS z) (zS z).heap) (hbl : b0 < (zS z).heap.size) (hbA : ¬ kA k b0) (hE : LEND k z) (hr1 : r.1 = 1) (rec : HN → RP → TP → (Fin 12 → SS) → Int32 → Int32 → Option (Int32 × (HN) × (RP) × (TP) × (Fin 12 → SS))) (hrec : ∀ (hn : HN) (rp : RP) (tp : TP) (st : Fin 12 → SS) (x2 : Int32) (x3 : Int32), rec hn rp tp st x2 x3 = some r → VW k z NC NS (wAll k T R ly rc hn rp tp ee st) 89 [some (.ref b0), some (.ref (k.b + (0))), some (.int x2), some (.int x3), none, none, none, none, none, none, none, none, none, none, none, none, none, none, none, none, none, none] []) (hn : HN) (rp : RP) (tp : TP) (st : Fin 12 → SS) (x2 : Int32) (x3 : Int32) (x4 : Int32) (x5 : Int32) (x6 : Int32) (x7 : Int32) (x8 : Int32) (x10 : Int32) (x11 : Int32) (x12 : Int32) (x13 : Int32) (x14 : Int32) (x15 : Int32) (x17 : Int64) (x19 : Int32) (t0 : Int32) (hf : f_law_B447 len xs (ly (0 : Fin 2)) rec hn rp tp st x2 x3 x4 x5 x6 x7 x8 x10 x11 x12 x13 x14 x15 x17 x19 t0 = some r) : VW k z NC NS (wAll k T R ly rc hn rp tp ee st) 447 [some (.ref b0), some (.ref (k.b + (0))), some (.int x2), some (.int x3), some (.int x4), some (.int x5), some (.int x6), some (.int x7), some (.int x8), none, some (.int x10), some (.int x11), some (.int x12), some (.int x13), some (.int x14), some (.int x15), none, some (.long x17), none, some (.int x19), none, none] [.int t0] := by
  unfold f_law_B447 at hf
  refine r_istore X [some (.ref b0), some (.ref (k.b + (0))), some (.int x2), some (.int x3), some (.int x4), some (.int x5), some (.int x6), some (.int x7), some (.int x8), none, some (.int x10), some (.int x11), some (.int x12), some (.int x13), some (.int x14), some (.int x15), some (.int t0), some (.long x17), none, some (.int x19), none, none] dL_law_447 (Nat.le_of_ble_eq_true rfl) rfl ?_
  refine r_iload X (x := x19) dL_law_449 rfl ?_
  refine r_if_eq X 1017 dL_law_451 rfl (fun c451 => ?_) (fun c451 => ?_)
  · replace hf := ifT hf c451
    refine VW.msk [true, true, true, true, true, true, true, false, true, false, true, true, true, true, true, true, true, true, false, true, false, false] rfl (lo' := [some (.ref b0), some (.ref (k.b + (0))), some (.int x2), some (.int x3), some (.int x4), some (.int x5), some (.int x6), none, some (.int x8), none, some (.int x10), some (.int x11), some (.int x12), some (.int x13), some (.int x14), some (.int x15), some (.int t0), some (.long x17), none, some (.int x19), none, none]) rfl ?_
    exact B_law_B1017 X hX hbl hbA hE hr1 rec hrec hn rp tp st x2 x3 x4 x5 x6 x8 x10 x11 x12 x13 x14 x15 t0 x17 x19 hf
  · replace hf := ifF hf c451
    refine r_iload X (x := t0) dL_law_454 rfl ?_
    refine r_aload_n X (x := k.b + (0)) dL_law_456 rfl ?_
    refine r_aload_n X (x := k.b + (0)) dL_law_457 rfl ?_
    refine r_iload X (x := x7) dL_law_458 rfl ?_
    refine r_iconst X (v := 0) dL_law_460 rfl ?_
    obtain ⟨u461, h461, hf⟩ := bdS hf
    refine r_callV1 X [.int x7, .int 0] [.ref (k.b + (0)), .int t0] (K9_pump h461) lkL_96 clsX9 rfl _ o_main (by decide) (Nat.le_of_ble_eq_true rfl) rfl rfl (Nat.le_of_ble_eq_true rfl) rfl rfl NC_le NS_le dL_law_461 ?_
    refine r_iconst X (v := 3) dL_law_464 rfl ?_
    obtain ⟨u465, h465, hf⟩ := bdS hf
    refine r_callV1 X [.int u461, .int 3] [.int t0] (K9_chamber h465) lkL_27 clsX9 rfl _ o_main (by decide) (Nat.le_of_ble_eq_true rfl) rfl rfl (Nat.le_of_ble_eq_true rfl) rfl rfl NC_le NS_le dL_law_465 ?_
    refine r_icmp_ne X 483 dL_law_468 rfl (fun c468 => ?_) (fun c468 => ?_)
    · replace hf := ifF hf c468
      refine r_iconst X (v := 0) dL_law_483 rfl ?_
      obtain rfl := Option.some.inj hf
      exact l_ret hE hr1 dL_law_484
    · replace hf := ifT hf c468
      refine r_aload_n X (x := k.b + (0)) dL_law_471 rfl ?_
      refine r_iload X (x := x7) dL_law_472 rfl ?_
      refine r_bipush X (v := 6) dL_law_474 rfl ?_
      obtain ⟨u476, h476, hf⟩ := bdS hf
      refine r_callV1 X [.int x7, .int 6] [] (K9_pump h476) lkL_96 clsX9 rfl _ o_main (by decide) (Nat.le_of_ble_eq_true rfl) rfl rfl (Nat.le_of_ble_eq_true rfl) rfl rfl NC_le NS_le dL_law_476 ?_
      refine r_iconst X (v := 1) dL_law_479 rfl ?_
      refine r_icmp_eq X 1017 dL_law_480 rfl (fun c480 => ?_) (fun c480 => ?_)
      · replace hf := ifT hf c480
        refine VW.msk [true, true, true, true, true, true, true, false, true, false, true, true, true, true, true, true, true, true, false, true, false, false] rfl (lo' := [some (.ref b0), some (.ref (k.b + (0))), some (.int x2), some (.int x3), some (.int x4), some (.int x5), some (.int x6), none, some (.int x8), none, some (.int x10), some (.int x11), some (.int x12), some (.int x13), some (.int x14), some (.int x15), some (.int t0), some (.long x17), none, some (.int x19), none, none]) rfl ?_
        exact B_law_B1017 X hX hbl hbA hE hr1 rec hrec hn rp tp st x2 x3 x4 x5 x6 x8 x10 x11 x12 x13 x14 x15 t0 x17 x19 hf
      · replace hf := ifF hf c480
        refine r_iconst X (v := 0) dL_law_483 rfl ?_
        obtain rfl := Option.some.inj hf
        exact l_ret hE hr1 dL_law_484
set_option maxRecDepth 100000 in
set_option maxHeartbeats 4000000 in
theorem B_law_B384 {k : KT} {z : ZT} {T : TT} {R : RR} {ly : Fin 2 → LL} {rc : RC} {ee : EE} {r : Int32 × (HN) × (RP) × (TP) × (Fin 12 → SS)} (X : XX k strs z RL cL_law 22 ret room_1) {b0 len : Nat} {xs : Nat → Int32} (hX : va_X b0 len xs (zS z) (zS z).heap) (hbl : b0 < (zS z).heap.size) (hbA : ¬ kA k b0) (hE : LEND k z) (hr1 : r.1 = 1) (rec : HN → RP → TP → (Fin 12 → SS) → Int32 → Int32 → Option (Int32 × (HN) × (RP) × (TP) × (Fin 12 → SS))) (hrec : ∀ (hn : HN) (rp : RP) (tp : TP) (st : Fin 12 → SS) (x2 : Int32) (x3 : Int32), rec hn rp tp st x2 x3 = some r → VW k z NC NS (wAll k T R ly rc hn rp tp ee st) 89 [some (.ref b0), some (.ref (k.b + (0))), some (.int x2), some (.int x3), none, none, none, none, none, none, none, none, none, none, none, none, none, none, none, none, none, none] []) (hn : HN) (rp : RP) (tp : TP) (st : Fin 12 → SS) (x2 : Int32) (x3 : Int32) (x4 : Int32) (x5 : Int32) (x6 : Int32) (x8 : Int32) (x10 : Int32) (x11 : Int32) (x12 : Int32) (x13 : Int32) (x14 : Int32) (x15 : Int32) (x17 : Int64) (x19 : Int32) (t0 : Int32) (hf : f_law_B384 len xs (ly (0 : Fin 2)) rec hn rp tp st x2 x3 x4 x5 x6 x8 x10 x11 x12 x13 x14 x15 x17 x19 t0 = some r) : VW k z NC NS (wAll k T R ly rc hn rp tp ee st) 384 [some (.ref b0), some (.ref (k.b + (0))), some (.int x2), some (.int x3), some (.int x4), some (.int x5), some (.int x6), none, some (.int x8), none, some (.int x10), some (.int x11), some (.int x12), some (.int x13), some (.int x14), some (.int x15), none, some (.long x17), none, some (.int x19), none, none] [.int t0] := by
  unfold f_law_B384 at hf
  refine r_istore X [some (.ref b0), some (.ref (k.b + (0))), some (.int x2), some (.int x3), some (.int x4), some (.int x5), some (.int x6), none, some (.int x8), none, some (.int x10), some (.int x11), some (.int x12), some (.int x13), some (.int x14), some (.int x15), some (.int t0), some (.long x17), none, some (.int x19), none, none] dL_law_384 (Nat.le_of_ble_eq_true rfl) rfl ?_
  refine r_iload X (x := x19) dL_law_386 rfl ?_
  refine r_if_eq X 1017 dL_law_388 rfl (fun c388 => ?_) (fun c388 => ?_)
  · replace hf := ifT hf c388
    exact B_law_B1017 X hX hbl hbA hE hr1 rec hrec hn rp tp st x2 x3 x4 x5 x6 x8 x10 x11 x12 x13 x14 x15 t0 x17 x19 hf
  · replace hf := ifF hf c388
    refine r_iload X (x := t0) dL_law_391 rfl ?_
    refine r_aload_n X (x := k.b + (0)) dL_law_393 rfl ?_
    refine r_iload X (x := x6) dL_law_394 rfl ?_
    refine r_bipush X (v := 6) dL_law_396 rfl ?_
    obtain ⟨u398, h398, hf⟩ := bdS hf
    refine r_callV1 X [.int x6, .int 6] [.int t0] (K9_valve h398) lkL_87 clsX9 rfl _ o_main (by decide) (Nat.le_of_ble_eq_true rfl) rfl rfl (Nat.le_of_ble_eq_true rfl) rfl rfl NC_le NS_le dL_law_398 ?_
    refine r_icmp_ne X 414 dL_law_401 rfl (fun c401 => ?_) (fun c401 => ?_)
    · replace hf := ifF hf c401
      refine r_iconst X (v := 0) dL_law_414 rfl ?_
      obtain rfl := Option.some.inj hf
      exact l_ret hE hr1 dL_law_415
    · replace hf := ifT hf c401
      refine r_aload_n X (x := k.b + (0)) dL_law_404 rfl ?_
      refine r_iload X (x := x6) dL_law_405 rfl ?_
      refine r_iconst X (v := 4) dL_law_407 rfl ?_
      obtain ⟨u408, h408, hf⟩ := bdS hf
      refine r_callV1 X [.int x6, .int 4] [] (K9_valve h408) lkL_87 clsX9 rfl _ o_main (by decide) (Nat.le_of_ble_eq_true rfl) rfl rfl (Nat.le_of_ble_eq_true rfl) rfl rfl NC_le NS_le dL_law_408 ?_
      refine r_if_eq X 1017 dL_law_411 rfl (fun c411 => ?_) (fun c411 => ?_)
      · replace hf := ifT hf c411
        exact B_law_B1017 X hX hbl hbA hE hr1 rec hrec hn rp tp st x2 x3 x4 x5 x6 x8 x10 x11 x12 x13 x14 x15 t0 x17 x19 hf
      · replace hf := ifF hf c411
        refine r_iconst X (v := 0) dL_law_414 rfl ?_
        obtain rfl := Option.some.inj hf
        exact l_ret hE hr1 dL_law_415
set_option maxRecDepth 100000 in
set_option maxHeartbeats 4000000 in
theorem B_law_B325 {k : KT} {z : ZT} {T : TT} {R : RR} {ly : Fin 2 → LL} {rc : RC} {ee : EE} {r : Int32 × (HN) × (RP) × (TP) × (Fin 12 → SS)} (X : XX k strs z RL cL_law 22 ret room_1) {b0 len : Nat} {xs : Nat → Int32} (hX : va_X b0 len xs (zS z) (zS z).heap) (hbl : b0 < (zS z).heap.size) (hbA : ¬ kA k b0) (hE : LEND k z) (hr1 : r.1 = 1) (rec : HN → RP → TP → (Fin 12 → SS) → Int32 → Int32 → Option (Int32 × (HN) × (RP) × (TP) × (Fin 12 → SS))) (hrec : ∀ (hn : HN) (rp : RP) (tp : TP) (st : Fin 12 → SS) (x2 : Int32) (x3 : Int32), rec hn rp tp st x2 x3 = some r → VW k z NC NS (wAll k T R ly rc hn rp tp ee st) 89 [some (.ref b0), some (.ref (k.b + (0))), some (.int x2), some (.int x3), none, none, none, none, none, none, none, none, none, none, none, none, none, none, none, none, none, none] []) (hn : HN) (rp : RP) (tp : TP) (st : Fin 12 → SS) (x2 : Int32) (x3 : Int32) (x4 : Int32) (x5 : Int32) (x6 : Int32) (x8 : Int32) (x10 : Int32) (x11 : Int32) (x12 : Int32) (x13 : Int32) (x14 : Int32) (x15 : Int32) (x17 : Int64) (x19 : Int32) (x20 : Int32) (t0 : Int32) (hf : f_law_B325 len xs (ly (0 : Fin 2)) rec hn rp tp st x2 x3 x4 x5 x6 x8 x10 x11 x12 x13 x14 x15 x17 x19 x20 t0 = some r) : VW k z NC NS (wAll k T R ly rc hn rp tp ee st) 325 [some (.ref b0), some (.ref (k.b + (0))), some (.int x2), some (.int x3), some (.int x4), some (.int x5), some (.int x6), none, some (.int x8), none, some (.int x10), some (.int x11), some (.int x12), some (.int x13), some (.int x14), some (.int x15), none, some (.long x17), none, some (.int x19), some (.int x20), none] [.int t0] := by
  unfold f_law_B325 at hf
  refine r_istore X [some (.ref b0), some (.ref (k.b + (0))), some (.int x2), some (.int x3), some (.int x4), some (.int x5), some (.int x6), none, some (.int x8), none, some (.int x10), some (.int x11), some (.int x12), some (.int x13), some (.int x14), some (.int x15), some (.int t0), some (.long x17), none, some (.int x19), some (.int x20), none] dL_law_325 (Nat.le_of_ble_eq_true rfl) rfl ?_
  refine r_iload X (x := x19) dL_law_327 rfl ?_
  refine r_if_eq X 1017 dL_law_329 rfl (fun c329 => ?_) (fun c329 => ?_)
  · replace hf := ifT hf c329
    refine VW.msk [true, true, true, true, true, true, true, false, true, false, true, true, true, true, true, true, true, true, false, true, false, false] rfl (lo' := [some (.ref b0), some (.ref (k.b + (0))), some (.int x2), some (.int x3), some (.int x4), some (.int x5), some (.int x6), none, some (.int x8), none, some (.int x10), some (.int x11), some (.int x12), some (.int x13), some (.int x14), some (.int x15), some (.int t0), some (.long x17), none, some (.int x19), none, none]) rfl ?_
    exact B_law_B1017 X hX hbl hbA hE hr1 rec hrec hn rp tp st x2 x3 x4 x5 x6 x8 x10 x11 x12 x13 x14 x15 t0 x17 x19 hf
  · replace hf := ifF hf c329
    refine r_iload X (x := t0) dL_law_332 rfl ?_
    refine r_iload X (x := x20) dL_law_334 rfl ?_
    refine r_icmp_ne X 350 dL_law_336 rfl (fun c336 => ?_) (fun c336 => ?_)
    · replace hf := ifF hf c336
      refine r_iconst X (v := 0) dL_law_350 rfl ?_
      obtain rfl := Option.some.inj hf
      exact l_ret hE hr1 dL_law_351
    · replace hf := ifT hf c336
      refine r_aload_n X (x := k.b + (0)) dL_law_339 rfl ?_
      refine r_iload X (x := x6) dL_law_340 rfl ?_
      refine r_iconst X (v := 4) dL_law_342 rfl ?_
      obtain ⟨u343, h343, hf⟩ := bdS hf
      refine r_callV1 X [.int x6, .int 4] [] (K9_valve h343) lkL_87 clsX9 rfl _ o_main (by decide) (Nat.le_of_ble_eq_true rfl) rfl rfl (Nat.le_of_ble_eq_true rfl) rfl rfl NC_le NS_le dL_law_343 ?_
      refine r_iconst X (v := 1) dL_law_346 rfl ?_
      refine r_icmp_eq X 1017 dL_law_347 rfl (fun c347 => ?_) (fun c347 => ?_)
      · replace hf := ifT hf c347
        refine VW.msk [true, true, true, true, true, true, true, false, true, false, true, true, true, true, true, true, true, true, false, true, false, false] rfl (lo' := [some (.ref b0), some (.ref (k.b + (0))), some (.int x2), some (.int x3), some (.int x4), some (.int x5), some (.int x6), none, some (.int x8), none, some (.int x10), some (.int x11), some (.int x12), some (.int x13), some (.int x14), some (.int x15), some (.int t0), some (.long x17), none, some (.int x19), none, none]) rfl ?_
        exact B_law_B1017 X hX hbl hbA hE hr1 rec hrec hn rp tp st x2 x3 x4 x5 x6 x8 x10 x11 x12 x13 x14 x15 t0 x17 x19 hf
      · replace hf := ifF hf c347
        refine r_iconst X (v := 0) dL_law_350 rfl ?_
        obtain rfl := Option.some.inj hf
        exact l_ret hE hr1 dL_law_351
set_option maxRecDepth 100000 in
set_option maxHeartbeats 4000000 in
theorem B_law_B89 {k : KT} {z : ZT} {T : TT} {R : RR} {ly : Fin 2 → LL} {rc : RC} {ee : EE} {r : Int32 × (HN) × (RP) × (TP) × (Fin 12 → SS)} (X : XX k strs z RL cL_law 22 ret room_1) {b0 len : Nat} {xs : Nat → Int32} (hX : va_X b0 len xs (zS z) (zS z).heap) (hbl : b0 < (zS z).heap.size) (hbA : ¬ kA k b0) (hE : LEND k z) (hr1 : r.1 = 1) : ∀ (fu : Nat) (hn : HN) (rp : RP) (tp : TP) (st : Fin 12 → SS) (x2 : Int32) (x3 : Int32), f_law_B89 len xs (ly (0 : Fin 2)) fu hn rp tp st x2 x3 = some r → VW k z NC NS (wAll k T R ly rc hn rp tp ee st) 89 [some (.ref b0), some (.ref (k.b + (0))), some (.int x2), some (.int x3), none, none, none, none, none, none, none, none, none, none, none, none, none, none, none, none, none, none] [] := by
  intro fu
  induction fu with
  | zero =>
    intro hn rp tp st x2 x3 hf
    rw [f_law_B89] at hf
    cases hf
  | succ fu ih =>
    intro hn rp tp st x2 x3 hf
    rw [f_law_B89] at hf
    refine r_iload_n X (x := x3) dL_law_89 rfl ?_
    refine r_bipush X (v := 14) dL_law_90 rfl ?_
    refine r_icmp_ge X 1166 dL_law_92 rfl (fun c92 => ?_) (fun c92 => ?_)
    · replace hf := ifT hf c92
      refine r_iconst X (v := 1) dL_law_1166 rfl ?_
      obtain rfl := Option.some.inj hf
      exact l_ret hE hr1 dL_law_1167
    · replace hf := ifF hf c92
      refine r_aload_n X (x := b0) dL_law_95 rfl ?_
      refine r_iload_n X (x := x3) dL_law_96 rfl ?_
      obtain ⟨u97, h97, hf⟩ := bdS hf
      refine r_cell X hX hbl hbA h97 lkL_115 (Nat.le_of_ble_eq_true rfl) rfl NC_le NS_le dL_law_97 ?_
      refine r_istore X [some (.ref b0), some (.ref (k.b + (0))), some (.int x2), some (.int x3), some (.int u97), none, none, none, none, none, none, none, none, none, none, none, none, none, none, none, none, none] dL_law_100 (Nat.le_of_ble_eq_true rfl) rfl ?_
      refine r_iload X (x := u97) dL_law_102 rfl ?_
      refine r_iconst X (v := 4) dL_law_104 rfl ?_
      refine r_iushr X dL_law_105 ?_
      refine r_iconst X (v := 3) dL_law_106 rfl ?_
      refine r_iand X dL_law_107 ?_
      refine r_iconst X (v := 3) dL_law_108 rfl ?_
      refine r_irem X dL_law_109 (by decide) ?_
      refine r_istore X [some (.ref b0), some (.ref (k.b + (0))), some (.int x2), some (.int x3), some (.int u97), some (.int (((iushrF u97 4) &&& 3) - ((iushrF u97 4) &&& 3) / 3 * 3)), none, none, none, none, none, none, none, none, none, none, none, none, none, none, none, none] dL_law_110 (Nat.le_of_ble_eq_true rfl) rfl ?_
      refine r_iload X (x := u97) dL_law_112 rfl ?_
      refine r_bipush X (v := 6) dL_law_114 rfl ?_
      refine r_iushr X dL_law_116 ?_
      refine r_iconst X (v := 3) dL_law_117 rfl ?_
      refine r_iand X dL_law_118 ?_
      refine r_istore X [some (.ref b0), some (.ref (k.b + (0))), some (.int x2), some (.int x3), some (.int u97), some (.int (((iushrF u97 4) &&& 3) - ((iushrF u97 4) &&& 3) / 3 * 3)), some (.int ((iushrF u97 6) &&& 3)), none, none, none, none, none, none, none, none, none, none, none, none, none, none, none] dL_law_119 (Nat.le_of_ble_eq_true rfl) rfl ?_
      refine r_iload X (x := u97) dL_law_121 rfl ?_
      refine r_bipush X (v := 8) dL_law_123 rfl ?_
      refine r_iushr X dL_law_125 ?_
      refine r_iconst X (v := 1) dL_law_126 rfl ?_
      refine r_iand X dL_law_127 ?_
      refine r_istore X [some (.ref b0), some (.ref (k.b + (0))), some (.int x2), some (.int x3), some (.int u97), some (.int (((iushrF u97 4) &&& 3) - ((iushrF u97 4) &&& 3) / 3 * 3)), some (.int ((iushrF u97 6) &&& 3)), some (.int ((iushrF u97 8) &&& 1)), none, none, none, none, none, none, none, none, none, none, none, none, none, none] dL_law_128 (Nat.le_of_ble_eq_true rfl) rfl ?_
      refine r_iload X (x := u97) dL_law_130 rfl ?_
      refine r_bipush X (v := 9) dL_law_132 rfl ?_
      refine r_iushr X dL_law_134 ?_
      refine r_bipush X (v := 7) dL_law_135 rfl ?_
      refine r_iand X dL_law_137 ?_
      refine r_iconst X (v := 5) dL_law_138 rfl ?_
      refine r_irem X dL_law_139 (by decide) ?_
      refine r_istore X [some (.ref b0), some (.ref (k.b + (0))), some (.int x2), some (.int x3), some (.int u97), some (.int (((iushrF u97 4) &&& 3) - ((iushrF u97 4) &&& 3) / 3 * 3)), some (.int ((iushrF u97 6) &&& 3)), some (.int ((iushrF u97 8) &&& 1)), some (.int (((iushrF u97 9) &&& 7) - ((iushrF u97 9) &&& 7) / 5 * 5)), none, none, none, none, none, none, none, none, none, none, none, none, none] dL_law_140 (Nat.le_of_ble_eq_true rfl) rfl ?_
      refine r_iload X (x := u97) dL_law_142 rfl ?_
      refine r_bipush X (v := 12) dL_law_144 rfl ?_
      refine r_iushr X dL_law_146 ?_
      refine r_bipush X (v := 63) dL_law_147 rfl ?_
      refine r_iand X dL_law_149 ?_
      refine r_istore X [some (.ref b0), some (.ref (k.b + (0))), some (.int x2), some (.int x3), some (.int u97), some (.int (((iushrF u97 4) &&& 3) - ((iushrF u97 4) &&& 3) / 3 * 3)), some (.int ((iushrF u97 6) &&& 3)), some (.int ((iushrF u97 8) &&& 1)), some (.int (((iushrF u97 9) &&& 7) - ((iushrF u97 9) &&& 7) / 5 * 5)), some (.int ((iushrF u97 12) &&& 63)), none, none, none, none, none, none, none, none, none, none, none, none] dL_law_150 (Nat.le_of_ble_eq_true rfl) rfl ?_
      refine r_aload_n X (x := k.b + (0)) dL_law_152 rfl ?_
      obtain ⟨u153, h153, hf⟩ := bdS hf
      refine r_callV1 X [] [] (K9_writeReport h153) lkL_119 clsX9 rfl _ o_main (by decide) (Nat.le_of_ble_eq_true rfl) rfl rfl (Nat.le_of_ble_eq_true rfl) rfl rfl NC_le NS_le dL_law_153 ?_
      refine r_istore X [some (.ref b0), some (.ref (k.b + (0))), some (.int x2), some (.int x3), some (.int u97), some (.int (((iushrF u97 4) &&& 3) - ((iushrF u97 4) &&& 3) / 3 * 3)), some (.int ((iushrF u97 6) &&& 3)), some (.int ((iushrF u97 8) &&& 1)), some (.int (((iushrF u97 9) &&& 7) - ((iushrF u97 9) &&& 7) / 5 * 5)), some (.int ((iushrF u97 12) &&& 63)), some (.int u153.1), none, none, none, none, none, none, none, none, none, none, none] dL_law_156 (Nat.le_of_ble_eq_true rfl) rfl ?_
      refine r_aload_n X (x := k.b + (0)) dL_law_158 rfl ?_
      refine r_iconst X (v := 4) dL_law_159 rfl ?_
      obtain ⟨u160, h160, hf⟩ := bdS hf
      refine r_callV1 X [.int 4] [] (K9_count h160) lkL_78 clsX9 rfl _ o_main (by decide) (Nat.le_of_ble_eq_true rfl) rfl rfl (Nat.le_of_ble_eq_true rfl) rfl rfl NC_le NS_le dL_law_160 ?_
      refine r_istore X [some (.ref b0), some (.ref (k.b + (0))), some (.int x2), some (.int x3), some (.int u97), some (.int (((iushrF u97 4) &&& 3) - ((iushrF u97 4) &&& 3) / 3 * 3)), some (.int ((iushrF u97 6) &&& 3)), some (.int ((iushrF u97 8) &&& 1)), some (.int (((iushrF u97 9) &&& 7) - ((iushrF u97 9) &&& 7) / 5 * 5)), some (.int ((iushrF u97 12) &&& 63)), some (.int u153.1), some (.int u160), none, none, none, none, none, none, none, none, none, none] dL_law_163 (Nat.le_of_ble_eq_true rfl) rfl ?_
      refine r_aload_n X (x := k.b + (0)) dL_law_165 rfl ?_
      refine r_iconst X (v := 5) dL_law_166 rfl ?_
      obtain ⟨u167, h167, hf⟩ := bdS hf
      refine r_callV1 X [.int 5] [] (K9_count h167) lkL_78 clsX9 rfl _ o_main (by decide) (Nat.le_of_ble_eq_true rfl) rfl rfl (Nat.le_of_ble_eq_true rfl) rfl rfl NC_le NS_le dL_law_167 ?_
      refine r_istore X [some (.ref b0), some (.ref (k.b + (0))), some (.int x2), some (.int x3), some (.int u97), some (.int (((iushrF u97 4) &&& 3) - ((iushrF u97 4) &&& 3) / 3 * 3)), some (.int ((iushrF u97 6) &&& 3)), some (.int ((iushrF u97 8) &&& 1)), some (.int (((iushrF u97 9) &&& 7) - ((iushrF u97 9) &&& 7) / 5 * 5)), some (.int ((iushrF u97 12) &&& 63)), some (.int u153.1), some (.int u160), some (.int u167), none, none, none, none, none, none, none, none, none] dL_law_170 (Nat.le_of_ble_eq_true rfl) rfl ?_
      refine r_aload_n X (x := k.b + (0)) dL_law_172 rfl ?_
      refine r_bipush X (v := 6) dL_law_173 rfl ?_
      obtain ⟨u175, h175, hf⟩ := bdS hf
      refine r_callV1 X [.int 6] [] (K9_count h175) lkL_78 clsX9 rfl _ o_main (by decide) (Nat.le_of_ble_eq_true rfl) rfl rfl (Nat.le_of_ble_eq_true rfl) rfl rfl NC_le NS_le dL_law_175 ?_
      refine r_istore X [some (.ref b0), some (.ref (k.b + (0))), some (.int x2), some (.int x3), some (.int u97), some (.int (((iushrF u97 4) &&& 3) - ((iushrF u97 4) &&& 3) / 3 * 3)), some (.int ((iushrF u97 6) &&& 3)), some (.int ((iushrF u97 8) &&& 1)), some (.int (((iushrF u97 9) &&& 7) - ((iushrF u97 9) &&& 7) / 5 * 5)), some (.int ((iushrF u97 12) &&& 63)), some (.int u153.1), some (.int u160), some (.int u167), some (.int u175), none, none, none, none, none, none, none, none] dL_law_178 (Nat.le_of_ble_eq_true rfl) rfl ?_
      refine r_aload_n X (x := k.b + (0)) dL_law_180 rfl ?_
      refine r_iload X (x := ((iushrF u97 9) &&& 7) - ((iushrF u97 9) &&& 7) / 5 * 5) dL_law_181 rfl ?_
      refine r_iconst X (v := 1) dL_law_183 rfl ?_
      obtain ⟨u184, h184, hf⟩ := bdS hf
      refine r_callV1 X [.int (((iushrF u97 9) &&& 7) - ((iushrF u97 9) &&& 7) / 5 * 5), .int 1] [] (K9_flange h184) lkL_81 clsX9 rfl _ o_main (by decide) (Nat.le_of_ble_eq_true rfl) rfl rfl (Nat.le_of_ble_eq_true rfl) rfl rfl NC_le NS_le dL_law_184 ?_
      refine r_istore X [some (.ref b0), some (.ref (k.b + (0))), some (.int x2), some (.int x3), some (.int u97), some (.int (((iushrF u97 4) &&& 3) - ((iushrF u97 4) &&& 3) / 3 * 3)), some (.int ((iushrF u97 6) &&& 3)), some (.int ((iushrF u97 8) &&& 1)), some (.int (((iushrF u97 9) &&& 7) - ((iushrF u97 9) &&& 7) / 5 * 5)), some (.int ((iushrF u97 12) &&& 63)), some (.int u153.1), some (.int u160), some (.int u167), some (.int u175), some (.int u184), none, none, none, none, none, none, none] dL_law_187 (Nat.le_of_ble_eq_true rfl) rfl ?_
      refine r_aload_n X (x := k.b + (0)) dL_law_189 rfl ?_
      refine r_iload X (x := (iushrF u97 6) &&& 3) dL_law_190 rfl ?_
      refine r_iconst X (v := 3) dL_law_192 rfl ?_
      obtain ⟨u193, h193, hf⟩ := bdS hf
      refine r_callV1 X [.int ((iushrF u97 6) &&& 3), .int 3] [] (K9_valve h193) lkL_87 clsX9 rfl _ o_main (by decide) (Nat.le_of_ble_eq_true rfl) rfl rfl (Nat.le_of_ble_eq_true rfl) rfl rfl NC_le NS_le dL_law_193 ?_
      refine r_istore X [some (.ref b0), some (.ref (k.b + (0))), some (.int x2), some (.int x3), some (.int u97), some (.int (((iushrF u97 4) &&& 3) - ((iushrF u97 4) &&& 3) / 3 * 3)), some (.int ((iushrF u97 6) &&& 3)), some (.int ((iushrF u97 8) &&& 1)), some (.int (((iushrF u97 9) &&& 7) - ((iushrF u97 9) &&& 7) / 5 * 5)), some (.int ((iushrF u97 12) &&& 63)), some (.int u153.1), some (.int u160), some (.int u167), some (.int u175), some (.int u184), some (.int u193), none, none, none, none, none, none] dL_law_196 (Nat.le_of_ble_eq_true rfl) rfl ?_
      refine r_aload_n X (x := k.b + (0)) dL_law_198 rfl ?_
      refine r_iload X (x := ((iushrF u97 4) &&& 3) - ((iushrF u97 4) &&& 3) / 3 * 3) dL_law_199 rfl ?_
      obtain ⟨u201, h201, hf⟩ := bdS hf
      refine r_callV1 X [.int (((iushrF u97 4) &&& 3) - ((iushrF u97 4) &&& 3) / 3 * 3)] [] (K9_gas h201) lkL_34 clsX9 rfl _ o_main (by decide) (Nat.le_of_ble_eq_true rfl) rfl rfl (Nat.le_of_ble_eq_true rfl) rfl rfl NC_le NS_le dL_law_201 ?_
      refine r_lstore X [some (.ref b0), some (.ref (k.b + (0))), some (.int x2), some (.int x3), some (.int u97), some (.int (((iushrF u97 4) &&& 3) - ((iushrF u97 4) &&& 3) / 3 * 3)), some (.int ((iushrF u97 6) &&& 3)), some (.int ((iushrF u97 8) &&& 1)), some (.int (((iushrF u97 9) &&& 7) - ((iushrF u97 9) &&& 7) / 5 * 5)), some (.int ((iushrF u97 12) &&& 63)), some (.int u153.1), some (.int u160), some (.int u167), some (.int u175), some (.int u184), some (.int u193), none, some (.long u201), none, none, none, none] dL_law_204 (Nat.le_of_ble_eq_true rfl) rfl ?_
      refine r_iconst X (v := 1) dL_law_206 rfl ?_
      refine r_istore X [some (.ref b0), some (.ref (k.b + (0))), some (.int x2), some (.int x3), some (.int u97), some (.int (((iushrF u97 4) &&& 3) - ((iushrF u97 4) &&& 3) / 3 * 3)), some (.int ((iushrF u97 6) &&& 3)), some (.int ((iushrF u97 8) &&& 1)), some (.int (((iushrF u97 9) &&& 7) - ((iushrF u97 9) &&& 7) / 5 * 5)), some (.int ((iushrF u97 12) &&& 63)), some (.int u153.1), some (.int u160), some (.int u167), some (.int u175), some (.int u184), some (.int u193), none, some (.long u201), none, some (.int 1), none, none] dL_law_207 (Nat.le_of_ble_eq_true rfl) rfl ?_
      refine r_iload X (x := u97) dL_law_209 rfl ?_
      refine r_bipush X (v := 15) dL_law_211 rfl ?_
      refine r_iand X dL_law_213 ?_
      by_cases c214_0 : (u97 &&& 15) = 0
      · replace hf := ifT hf c214_0
        refine r_tswIn X (off := 70) 284 dL_law_214 (by rw [c214_0]; decide) (by rw [c214_0]; decide) (by rw [c214_0]; rfl) rfl ?_
        refine r_aload_n X (x := k.b + (0)) dL_law_284 rfl ?_
        refine r_iload X (x := (iushrF u97 6) &&& 3) dL_law_285 rfl ?_
        obtain ⟨u287, h287, hf⟩ := bdS hf
        refine r_callV1 X [.int ((iushrF u97 6) &&& 3)] [] (K9_mayOpen h287) lkL_84 clsX9 rfl _ o_main (by decide) (Nat.le_of_ble_eq_true rfl) rfl rfl (Nat.le_of_ble_eq_true rfl) rfl rfl NC_le NS_le dL_law_287 ?_
        suffices K290 : VW k z NC NS (wAll k T R ly rc hn u153.2 tp ee st) 298 [some (.ref b0), some (.ref (k.b + (0))), some (.int x2), some (.int x3), some (.int u97), some (.int (((iushrF u97 4) &&& 3) - ((iushrF u97 4) &&& 3) / 3 * 3)), some (.int ((iushrF u97 6) &&& 3)), some (.int ((iushrF u97 8) &&& 1)), some (.int (((iushrF u97 9) &&& 7) - ((iushrF u97 9) &&& 7) / 5 * 5)), some (.int ((iushrF u97 12) &&& 63)), some (.int u153.1), some (.int u160), some (.int u167), some (.int u175), some (.int u184), some (.int u193), none, some (.long u201), none, some (.int 1), none, none] [.int (if u287 = 0 then (1 : Int32) else (0 : Int32))] by
          refine r_if_ne X 297 dL_law_290 rfl (fun c290 => ?_) (fun c290 => ?_)
          · refine r_iconst X (v := 0) dL_law_297 rfl ?_
            rw [if_neg c290] at K290
            exact K290
          · refine r_iconst X (v := 1) dL_law_293 rfl ?_
            refine r_goto X 298 dL_law_294 rfl ?_
            rw [if_pos c290] at K290
            exact K290
        refine r_istore X [some (.ref b0), some (.ref (k.b + (0))), some (.int x2), some (.int x3), some (.int u97), some (.int (((iushrF u97 4) &&& 3) - ((iushrF u97 4) &&& 3) / 3 * 3)), some (.int ((iushrF u97 6) &&& 3)), some (.int ((iushrF u97 8) &&& 1)), some (.int (((iushrF u97 9) &&& 7) - ((iushrF u97 9) &&& 7) / 5 * 5)), some (.int ((iushrF u97 12) &&& 63)), some (.int u153.1), some (.int u160), some (.int u167), some (.int u175), some (.int u184), some (.int u193), none, some (.long u201), none, some (.int (if u287 = 0 then (1 : Int32) else (0 : Int32))), none, none] dL_law_298 (Nat.le_of_ble_eq_true rfl) rfl ?_
        refine r_aload_n X (x := k.b + (0)) dL_law_300 rfl ?_
        refine r_iload X (x := (iushrF u97 6) &&& 3) dL_law_301 rfl ?_
        refine r_bipush X (v := 6) dL_law_303 rfl ?_
        obtain ⟨u305, h305, hf⟩ := bdS hf
        refine r_callV1 X [.int ((iushrF u97 6) &&& 3), .int 6] [] (K9_valve h305) lkL_87 clsX9 rfl _ o_main (by decide) (Nat.le_of_ble_eq_true rfl) rfl rfl (Nat.le_of_ble_eq_true rfl) rfl rfl NC_le NS_le dL_law_305 ?_
        refine r_istore X [some (.ref b0), some (.ref (k.b + (0))), some (.int x2), some (.int x3), some (.int u97), some (.int (((iushrF u97 4) &&& 3) - ((iushrF u97 4) &&& 3) / 3 * 3)), some (.int ((iushrF u97 6) &&& 3)), some (.int ((iushrF u97 8) &&& 1)), some (.int (((iushrF u97 9) &&& 7) - ((iushrF u97 9) &&& 7) / 5 * 5)), some (.int ((iushrF u97 12) &&& 63)), some (.int u153.1), some (.int u160), some (.int u167), some (.int u175), some (.int u184), some (.int u193), none, some (.long u201), none, some (.int (if u287 = 0 then (1 : Int32) else (0 : Int32))), some (.int u305), none] dL_law_308 (Nat.le_of_ble_eq_true rfl) rfl ?_
        refine r_iload X (x := (if u287 = 0 then (1 : Int32) else (0 : Int32))) dL_law_310 rfl ?_
        refine r_if_eq X 324 dL_law_312 rfl (fun c312 => ?_) (fun c312 => ?_)
        · replace hf := ifT hf c312
          refine r_iconst X (v := 0) dL_law_324 rfl ?_
          refine VW.msk [true, true, true, true, true, true, true, false, true, false, true, true, true, true, true, true, false, true, false, true, true, false] rfl (lo' := [some (.ref b0), some (.ref (k.b + (0))), some (.int x2), some (.int x3), some (.int u97), some (.int (((iushrF u97 4) &&& 3) - ((iushrF u97 4) &&& 3) / 3 * 3)), some (.int ((iushrF u97 6) &&& 3)), none, some (.int (((iushrF u97 9) &&& 7) - ((iushrF u97 9) &&& 7) / 5 * 5)), none, some (.int u153.1), some (.int u160), some (.int u167), some (.int u175), some (.int u184), some (.int u193), none, some (.long u201), none, some (.int (if u287 = 0 then (1 : Int32) else (0 : Int32))), some (.int u305), none]) rfl ?_
          exact B_law_B325 X hX hbl hbA hE hr1 (f_law_B89 len xs (ly (0 : Fin 2)) fu) ih hn u153.2 tp st x2 x3 u97 (((iushrF u97 4) &&& 3) - ((iushrF u97 4) &&& 3) / 3 * 3) ((iushrF u97 6) &&& 3) (((iushrF u97 9) &&& 7) - ((iushrF u97 9) &&& 7) / 5 * 5) u153.1 u160 u167 u175 u184 u193 u201 (if u287 = 0 then (1 : Int32) else (0 : Int32)) u305 0 hf
        · replace hf := ifF hf c312
          refine r_aload_n X (x := k.b + (0)) dL_law_315 rfl ?_
          refine r_iload X (x := (iushrF u97 6) &&& 3) dL_law_316 rfl ?_
          obtain ⟨u318, h318, hf⟩ := bdS hf
          refine r_callV1 X [.int ((iushrF u97 6) &&& 3)] [] (K9_open h318) lkL_122 clsX9 rfl _ o_main (by decide) (Nat.le_of_ble_eq_true rfl) rfl rfl (Nat.le_of_ble_eq_true rfl) rfl rfl NC_le NS_le dL_law_318 ?_
          refine r_goto X 325 dL_law_321 rfl ?_
          refine VW.msk [true, true, true, true, true, true, true, false, true, false, true, true, true, true, true, true, false, true, false, true, true, false] rfl (lo' := [some (.ref b0), some (.ref (k.b + (0))), some (.int x2), some (.int x3), some (.int u97), some (.int (((iushrF u97 4) &&& 3) - ((iushrF u97 4) &&& 3) / 3 * 3)), some (.int ((iushrF u97 6) &&& 3)), none, some (.int (((iushrF u97 9) &&& 7) - ((iushrF u97 9) &&& 7) / 5 * 5)), none, some (.int u153.1), some (.int u160), some (.int u167), some (.int u175), some (.int u184), some (.int u193), none, some (.long u201), none, some (.int (if u287 = 0 then (1 : Int32) else (0 : Int32))), some (.int u305), none]) rfl ?_
          exact B_law_B325 X hX hbl hbA hE hr1 (f_law_B89 len xs (ly (0 : Fin 2)) fu) ih hn u153.2 u318.2.1 u318.2.2 x2 x3 u97 (((iushrF u97 4) &&& 3) - ((iushrF u97 4) &&& 3) / 3 * 3) ((iushrF u97 6) &&& 3) (((iushrF u97 9) &&& 7) - ((iushrF u97 9) &&& 7) / 5 * 5) u153.1 u160 u167 u175 u184 u193 u201 (if u287 = 0 then (1 : Int32) else (0 : Int32)) u305 u318.1 hf
      replace hf := ifF hf c214_0
      by_cases c214_1 : (u97 &&& 15) = 1
      · replace hf := ifT hf c214_1
        refine r_tswIn X (off := 70) 284 dL_law_214 (by rw [c214_1]; decide) (by rw [c214_1]; decide) (by rw [c214_1]; rfl) rfl ?_
        refine r_aload_n X (x := k.b + (0)) dL_law_284 rfl ?_
        refine r_iload X (x := (iushrF u97 6) &&& 3) dL_law_285 rfl ?_
        obtain ⟨u287, h287, hf⟩ := bdS hf
        refine r_callV1 X [.int ((iushrF u97 6) &&& 3)] [] (K9_mayOpen h287) lkL_84 clsX9 rfl _ o_main (by decide) (Nat.le_of_ble_eq_true rfl) rfl rfl (Nat.le_of_ble_eq_true rfl) rfl rfl NC_le NS_le dL_law_287 ?_
        suffices K290 : VW k z NC NS (wAll k T R ly rc hn u153.2 tp ee st) 298 [some (.ref b0), some (.ref (k.b + (0))), some (.int x2), some (.int x3), some (.int u97), some (.int (((iushrF u97 4) &&& 3) - ((iushrF u97 4) &&& 3) / 3 * 3)), some (.int ((iushrF u97 6) &&& 3)), some (.int ((iushrF u97 8) &&& 1)), some (.int (((iushrF u97 9) &&& 7) - ((iushrF u97 9) &&& 7) / 5 * 5)), some (.int ((iushrF u97 12) &&& 63)), some (.int u153.1), some (.int u160), some (.int u167), some (.int u175), some (.int u184), some (.int u193), none, some (.long u201), none, some (.int 1), none, none] [.int (if u287 = 0 then (1 : Int32) else (0 : Int32))] by
          refine r_if_ne X 297 dL_law_290 rfl (fun c290 => ?_) (fun c290 => ?_)
          · refine r_iconst X (v := 0) dL_law_297 rfl ?_
            rw [if_neg c290] at K290
            exact K290
          · refine r_iconst X (v := 1) dL_law_293 rfl ?_
            refine r_goto X 298 dL_law_294 rfl ?_
            rw [if_pos c290] at K290
            exact K290
        refine r_istore X [some (.ref b0), some (.ref (k.b + (0))), some (.int x2), some (.int x3), some (.int u97), some (.int (((iushrF u97 4) &&& 3) - ((iushrF u97 4) &&& 3) / 3 * 3)), some (.int ((iushrF u97 6) &&& 3)), some (.int ((iushrF u97 8) &&& 1)), some (.int (((iushrF u97 9) &&& 7) - ((iushrF u97 9) &&& 7) / 5 * 5)), some (.int ((iushrF u97 12) &&& 63)), some (.int u153.1), some (.int u160), some (.int u167), some (.int u175), some (.int u184), some (.int u193), none, some (.long u201), none, some (.int (if u287 = 0 then (1 : Int32) else (0 : Int32))), none, none] dL_law_298 (Nat.le_of_ble_eq_true rfl) rfl ?_
        refine r_aload_n X (x := k.b + (0)) dL_law_300 rfl ?_
        refine r_iload X (x := (iushrF u97 6) &&& 3) dL_law_301 rfl ?_
        refine r_bipush X (v := 6) dL_law_303 rfl ?_
        obtain ⟨u305, h305, hf⟩ := bdS hf
        refine r_callV1 X [.int ((iushrF u97 6) &&& 3), .int 6] [] (K9_valve h305) lkL_87 clsX9 rfl _ o_main (by decide) (Nat.le_of_ble_eq_true rfl) rfl rfl (Nat.le_of_ble_eq_true rfl) rfl rfl NC_le NS_le dL_law_305 ?_
        refine r_istore X [some (.ref b0), some (.ref (k.b + (0))), some (.int x2), some (.int x3), some (.int u97), some (.int (((iushrF u97 4) &&& 3) - ((iushrF u97 4) &&& 3) / 3 * 3)), some (.int ((iushrF u97 6) &&& 3)), some (.int ((iushrF u97 8) &&& 1)), some (.int (((iushrF u97 9) &&& 7) - ((iushrF u97 9) &&& 7) / 5 * 5)), some (.int ((iushrF u97 12) &&& 63)), some (.int u153.1), some (.int u160), some (.int u167), some (.int u175), some (.int u184), some (.int u193), none, some (.long u201), none, some (.int (if u287 = 0 then (1 : Int32) else (0 : Int32))), some (.int u305), none] dL_law_308 (Nat.le_of_ble_eq_true rfl) rfl ?_
        refine r_iload X (x := (if u287 = 0 then (1 : Int32) else (0 : Int32))) dL_law_310 rfl ?_
        refine r_if_eq X 324 dL_law_312 rfl (fun c312 => ?_) (fun c312 => ?_)
        · replace hf := ifT hf c312
          refine r_iconst X (v := 0) dL_law_324 rfl ?_
          refine VW.msk [true, true, true, true, true, true, true, false, true, false, true, true, true, true, true, true, false, true, false, true, true, false] rfl (lo' := [some (.ref b0), some (.ref (k.b + (0))), some (.int x2), some (.int x3), some (.int u97), some (.int (((iushrF u97 4) &&& 3) - ((iushrF u97 4) &&& 3) / 3 * 3)), some (.int ((iushrF u97 6) &&& 3)), none, some (.int (((iushrF u97 9) &&& 7) - ((iushrF u97 9) &&& 7) / 5 * 5)), none, some (.int u153.1), some (.int u160), some (.int u167), some (.int u175), some (.int u184), some (.int u193), none, some (.long u201), none, some (.int (if u287 = 0 then (1 : Int32) else (0 : Int32))), some (.int u305), none]) rfl ?_
          exact B_law_B325 X hX hbl hbA hE hr1 (f_law_B89 len xs (ly (0 : Fin 2)) fu) ih hn u153.2 tp st x2 x3 u97 (((iushrF u97 4) &&& 3) - ((iushrF u97 4) &&& 3) / 3 * 3) ((iushrF u97 6) &&& 3) (((iushrF u97 9) &&& 7) - ((iushrF u97 9) &&& 7) / 5 * 5) u153.1 u160 u167 u175 u184 u193 u201 (if u287 = 0 then (1 : Int32) else (0 : Int32)) u305 0 hf
        · replace hf := ifF hf c312
          refine r_aload_n X (x := k.b + (0)) dL_law_315 rfl ?_
          refine r_iload X (x := (iushrF u97 6) &&& 3) dL_law_316 rfl ?_
          obtain ⟨u318, h318, hf⟩ := bdS hf
          refine r_callV1 X [.int ((iushrF u97 6) &&& 3)] [] (K9_open h318) lkL_122 clsX9 rfl _ o_main (by decide) (Nat.le_of_ble_eq_true rfl) rfl rfl (Nat.le_of_ble_eq_true rfl) rfl rfl NC_le NS_le dL_law_318 ?_
          refine r_goto X 325 dL_law_321 rfl ?_
          refine VW.msk [true, true, true, true, true, true, true, false, true, false, true, true, true, true, true, true, false, true, false, true, true, false] rfl (lo' := [some (.ref b0), some (.ref (k.b + (0))), some (.int x2), some (.int x3), some (.int u97), some (.int (((iushrF u97 4) &&& 3) - ((iushrF u97 4) &&& 3) / 3 * 3)), some (.int ((iushrF u97 6) &&& 3)), none, some (.int (((iushrF u97 9) &&& 7) - ((iushrF u97 9) &&& 7) / 5 * 5)), none, some (.int u153.1), some (.int u160), some (.int u167), some (.int u175), some (.int u184), some (.int u193), none, some (.long u201), none, some (.int (if u287 = 0 then (1 : Int32) else (0 : Int32))), some (.int u305), none]) rfl ?_
          exact B_law_B325 X hX hbl hbA hE hr1 (f_law_B89 len xs (ly (0 : Fin 2)) fu) ih hn u153.2 u318.2.1 u318.2.2 x2 x3 u97 (((iushrF u97 4) &&& 3) - ((iushrF u97 4) &&& 3) / 3 * 3) ((iushrF u97 6) &&& 3) (((iushrF u97 9) &&& 7) - ((iushrF u97 9) &&& 7) / 5 * 5) u153.1 u160 u167 u175 u184 u193 u201 (if u287 = 0 then (1 : Int32) else (0 : Int32)) u305 u318.1 hf
      replace hf := ifF hf c214_1
      by_cases c214_2 : (u97 &&& 15) = 2
      · replace hf := ifT hf c214_2
        refine r_tswIn X (off := 70) 284 dL_law_214 (by rw [c214_2]; decide) (by rw [c214_2]; decide) (by rw [c214_2]; rfl) rfl ?_
        refine r_aload_n X (x := k.b + (0)) dL_law_284 rfl ?_
        refine r_iload X (x := (iushrF u97 6) &&& 3) dL_law_285 rfl ?_
        obtain ⟨u287, h287, hf⟩ := bdS hf
        refine r_callV1 X [.int ((iushrF u97 6) &&& 3)] [] (K9_mayOpen h287) lkL_84 clsX9 rfl _ o_main (by decide) (Nat.le_of_ble_eq_true rfl) rfl rfl (Nat.le_of_ble_eq_true rfl) rfl rfl NC_le NS_le dL_law_287 ?_
        suffices K290 : VW k z NC NS (wAll k T R ly rc hn u153.2 tp ee st) 298 [some (.ref b0), some (.ref (k.b + (0))), some (.int x2), some (.int x3), some (.int u97), some (.int (((iushrF u97 4) &&& 3) - ((iushrF u97 4) &&& 3) / 3 * 3)), some (.int ((iushrF u97 6) &&& 3)), some (.int ((iushrF u97 8) &&& 1)), some (.int (((iushrF u97 9) &&& 7) - ((iushrF u97 9) &&& 7) / 5 * 5)), some (.int ((iushrF u97 12) &&& 63)), some (.int u153.1), some (.int u160), some (.int u167), some (.int u175), some (.int u184), some (.int u193), none, some (.long u201), none, some (.int 1), none, none] [.int (if u287 = 0 then (1 : Int32) else (0 : Int32))] by
          refine r_if_ne X 297 dL_law_290 rfl (fun c290 => ?_) (fun c290 => ?_)
          · refine r_iconst X (v := 0) dL_law_297 rfl ?_
            rw [if_neg c290] at K290
            exact K290
          · refine r_iconst X (v := 1) dL_law_293 rfl ?_
            refine r_goto X 298 dL_law_294 rfl ?_
            rw [if_pos c290] at K290
            exact K290
        refine r_istore X [some (.ref b0), some (.ref (k.b + (0))), some (.int x2), some (.int x3), some (.int u97), some (.int (((iushrF u97 4) &&& 3) - ((iushrF u97 4) &&& 3) / 3 * 3)), some (.int ((iushrF u97 6) &&& 3)), some (.int ((iushrF u97 8) &&& 1)), some (.int (((iushrF u97 9) &&& 7) - ((iushrF u97 9) &&& 7) / 5 * 5)), some (.int ((iushrF u97 12) &&& 63)), some (.int u153.1), some (.int u160), some (.int u167), some (.int u175), some (.int u184), some (.int u193), none, some (.long u201), none, some (.int (if u287 = 0 then (1 : Int32) else (0 : Int32))), none, none] dL_law_298 (Nat.le_of_ble_eq_true rfl) rfl ?_
        refine r_aload_n X (x := k.b + (0)) dL_law_300 rfl ?_
        refine r_iload X (x := (iushrF u97 6) &&& 3) dL_law_301 rfl ?_
        refine r_bipush X (v := 6) dL_law_303 rfl ?_
        obtain ⟨u305, h305, hf⟩ := bdS hf
        refine r_callV1 X [.int ((iushrF u97 6) &&& 3), .int 6] [] (K9_valve h305) lkL_87 clsX9 rfl _ o_main (by decide) (Nat.le_of_ble_eq_true rfl) rfl rfl (Nat.le_of_ble_eq_true rfl) rfl rfl NC_le NS_le dL_law_305 ?_
        refine r_istore X [some (.ref b0), some (.ref (k.b + (0))), some (.int x2), some (.int x3), some (.int u97), some (.int (((iushrF u97 4) &&& 3) - ((iushrF u97 4) &&& 3) / 3 * 3)), some (.int ((iushrF u97 6) &&& 3)), some (.int ((iushrF u97 8) &&& 1)), some (.int (((iushrF u97 9) &&& 7) - ((iushrF u97 9) &&& 7) / 5 * 5)), some (.int ((iushrF u97 12) &&& 63)), some (.int u153.1), some (.int u160), some (.int u167), some (.int u175), some (.int u184), some (.int u193), none, some (.long u201), none, some (.int (if u287 = 0 then (1 : Int32) else (0 : Int32))), some (.int u305), none] dL_law_308 (Nat.le_of_ble_eq_true rfl) rfl ?_
        refine r_iload X (x := (if u287 = 0 then (1 : Int32) else (0 : Int32))) dL_law_310 rfl ?_
        refine r_if_eq X 324 dL_law_312 rfl (fun c312 => ?_) (fun c312 => ?_)
        · replace hf := ifT hf c312
          refine r_iconst X (v := 0) dL_law_324 rfl ?_
          refine VW.msk [true, true, true, true, true, true, true, false, true, false, true, true, true, true, true, true, false, true, false, true, true, false] rfl (lo' := [some (.ref b0), some (.ref (k.b + (0))), some (.int x2), some (.int x3), some (.int u97), some (.int (((iushrF u97 4) &&& 3) - ((iushrF u97 4) &&& 3) / 3 * 3)), some (.int ((iushrF u97 6) &&& 3)), none, some (.int (((iushrF u97 9) &&& 7) - ((iushrF u97 9) &&& 7) / 5 * 5)), none, some (.int u153.1), some (.int u160), some (.int u167), some (.int u175), some (.int u184), some (.int u193), none, some (.long u201), none, some (.int (if u287 = 0 then (1 : Int32) else (0 : Int32))), some (.int u305), none]) rfl ?_
          exact B_law_B325 X hX hbl hbA hE hr1 (f_law_B89 len xs (ly (0 : Fin 2)) fu) ih hn u153.2 tp st x2 x3 u97 (((iushrF u97 4) &&& 3) - ((iushrF u97 4) &&& 3) / 3 * 3) ((iushrF u97 6) &&& 3) (((iushrF u97 9) &&& 7) - ((iushrF u97 9) &&& 7) / 5 * 5) u153.1 u160 u167 u175 u184 u193 u201 (if u287 = 0 then (1 : Int32) else (0 : Int32)) u305 0 hf
        · replace hf := ifF hf c312
          refine r_aload_n X (x := k.b + (0)) dL_law_315 rfl ?_
          refine r_iload X (x := (iushrF u97 6) &&& 3) dL_law_316 rfl ?_
          obtain ⟨u318, h318, hf⟩ := bdS hf
          refine r_callV1 X [.int ((iushrF u97 6) &&& 3)] [] (K9_open h318) lkL_122 clsX9 rfl _ o_main (by decide) (Nat.le_of_ble_eq_true rfl) rfl rfl (Nat.le_of_ble_eq_true rfl) rfl rfl NC_le NS_le dL_law_318 ?_
          refine r_goto X 325 dL_law_321 rfl ?_
          refine VW.msk [true, true, true, true, true, true, true, false, true, false, true, true, true, true, true, true, false, true, false, true, true, false] rfl (lo' := [some (.ref b0), some (.ref (k.b + (0))), some (.int x2), some (.int x3), some (.int u97), some (.int (((iushrF u97 4) &&& 3) - ((iushrF u97 4) &&& 3) / 3 * 3)), some (.int ((iushrF u97 6) &&& 3)), none, some (.int (((iushrF u97 9) &&& 7) - ((iushrF u97 9) &&& 7) / 5 * 5)), none, some (.int u153.1), some (.int u160), some (.int u167), some (.int u175), some (.int u184), some (.int u193), none, some (.long u201), none, some (.int (if u287 = 0 then (1 : Int32) else (0 : Int32))), some (.int u305), none]) rfl ?_
          exact B_law_B325 X hX hbl hbA hE hr1 (f_law_B89 len xs (ly (0 : Fin 2)) fu) ih hn u153.2 u318.2.1 u318.2.2 x2 x3 u97 (((iushrF u97 4) &&& 3) - ((iushrF u97 4) &&& 3) / 3 * 3) ((iushrF u97 6) &&& 3) (((iushrF u97 9) &&& 7) - ((iushrF u97 9) &&& 7) / 5 * 5) u153.1 u160 u167 u175 u184 u193 u201 (if u287 = 0 then (1 : Int32) else (0 : Int32)) u305 u318.1 hf
      replace hf := ifF hf c214_2
      by_cases c214_3 : (u97 &&& 15) = 3
      · replace hf := ifT hf c214_3
        refine r_tswIn X (off := 138) 352 dL_law_214 (by rw [c214_3]; decide) (by rw [c214_3]; decide) (by rw [c214_3]; rfl) rfl ?_
        refine r_aload_n X (x := k.b + (0)) dL_law_352 rfl ?_
        refine r_iload X (x := (iushrF u97 6) &&& 3) dL_law_353 rfl ?_
        obtain ⟨u355, h355, hf⟩ := bdS hf
        refine r_callV1 X [.int ((iushrF u97 6) &&& 3)] [] (K9_mayOpen h355) lkL_84 clsX9 rfl _ o_main (by decide) (Nat.le_of_ble_eq_true rfl) rfl rfl (Nat.le_of_ble_eq_true rfl) rfl rfl NC_le NS_le dL_law_355 ?_
        refine r_iconst X (v := 1) dL_law_358 rfl ?_
        suffices K359 : VW k z NC NS (wAll k T R ly rc hn u153.2 tp ee st) 367 [some (.ref b0), some (.ref (k.b + (0))), some (.int x2), some (.int x3), some (.int u97), some (.int (((iushrF u97 4) &&& 3) - ((iushrF u97 4) &&& 3) / 3 * 3)), some (.int ((iushrF u97 6) &&& 3)), some (.int ((iushrF u97 8) &&& 1)), some (.int (((iushrF u97 9) &&& 7) - ((iushrF u97 9) &&& 7) / 5 * 5)), some (.int ((iushrF u97 12) &&& 63)), some (.int u153.1), some (.int u160), some (.int u167), some (.int u175), some (.int u184), some (.int u193), none, some (.long u201), none, some (.int 1), none, none] [.int (if u355 = 1 then (1 : Int32) else (0 : Int32))] by
          refine r_icmp_ne X 366 dL_law_359 rfl (fun c359 => ?_) (fun c359 => ?_)
          · refine r_iconst X (v := 0) dL_law_366 rfl ?_
            rw [if_neg c359] at K359
            exact K359
          · refine r_iconst X (v := 1) dL_law_362 rfl ?_
            refine r_goto X 367 dL_law_363 rfl ?_
            rw [if_pos c359] at K359
            exact K359
        refine r_istore X [some (.ref b0), some (.ref (k.b + (0))), some (.int x2), some (.int x3), some (.int u97), some (.int (((iushrF u97 4) &&& 3) - ((iushrF u97 4) &&& 3) / 3 * 3)), some (.int ((iushrF u97 6) &&& 3)), some (.int ((iushrF u97 8) &&& 1)), some (.int (((iushrF u97 9) &&& 7) - ((iushrF u97 9) &&& 7) / 5 * 5)), some (.int ((iushrF u97 12) &&& 63)), some (.int u153.1), some (.int u160), some (.int u167), some (.int u175), some (.int u184), some (.int u193), none, some (.long u201), none, some (.int (if u355 = 1 then (1 : Int32) else (0 : Int32))), none, none] dL_law_367 (Nat.le_of_ble_eq_true rfl) rfl ?_
        refine r_iload X (x := (if u355 = 1 then (1 : Int32) else (0 : Int32))) dL_law_369 rfl ?_
        refine r_if_eq X 383 dL_law_371 rfl (fun c371 => ?_) (fun c371 => ?_)
        · replace hf := ifT hf c371
          refine r_iconst X (v := 0) dL_law_383 rfl ?_
          refine VW.msk [true, true, true, true, true, true, true, false, true, false, true, true, true, true, true, true, false, true, false, true, false, false] rfl (lo' := [some (.ref b0), some (.ref (k.b + (0))), some (.int x2), some (.int x3), some (.int u97), some (.int (((iushrF u97 4) &&& 3) - ((iushrF u97 4) &&& 3) / 3 * 3)), some (.int ((iushrF u97 6) &&& 3)), none, some (.int (((iushrF u97 9) &&& 7) - ((iushrF u97 9) &&& 7) / 5 * 5)), none, some (.int u153.1), some (.int u160), some (.int u167), some (.int u175), some (.int u184), some (.int u193), none, some (.long u201), none, some (.int (if u355 = 1 then (1 : Int32) else (0 : Int32))), none, none]) rfl ?_
          exact B_law_B384 X hX hbl hbA hE hr1 (f_law_B89 len xs (ly (0 : Fin 2)) fu) ih hn u153.2 tp st x2 x3 u97 (((iushrF u97 4) &&& 3) - ((iushrF u97 4) &&& 3) / 3 * 3) ((iushrF u97 6) &&& 3) (((iushrF u97 9) &&& 7) - ((iushrF u97 9) &&& 7) / 5 * 5) u153.1 u160 u167 u175 u184 u193 u201 (if u355 = 1 then (1 : Int32) else (0 : Int32)) 0 hf
        · replace hf := ifF hf c371
          refine r_aload_n X (x := k.b + (0)) dL_law_374 rfl ?_
          refine r_iload X (x := (iushrF u97 6) &&& 3) dL_law_375 rfl ?_
          obtain ⟨u377, h377, hf⟩ := bdS hf
          refine r_callV1 X [.int ((iushrF u97 6) &&& 3)] [] (K9_close h377) lkL_125 clsX9 rfl _ o_main (by decide) (Nat.le_of_ble_eq_true rfl) rfl rfl (Nat.le_of_ble_eq_true rfl) rfl rfl NC_le NS_le dL_law_377 ?_
          refine r_goto X 384 dL_law_380 rfl ?_
          refine VW.msk [true, true, true, true, true, true, true, false, true, false, true, true, true, true, true, true, false, true, false, true, false, false] rfl (lo' := [some (.ref b0), some (.ref (k.b + (0))), some (.int x2), some (.int x3), some (.int u97), some (.int (((iushrF u97 4) &&& 3) - ((iushrF u97 4) &&& 3) / 3 * 3)), some (.int ((iushrF u97 6) &&& 3)), none, some (.int (((iushrF u97 9) &&& 7) - ((iushrF u97 9) &&& 7) / 5 * 5)), none, some (.int u153.1), some (.int u160), some (.int u167), some (.int u175), some (.int u184), some (.int u193), none, some (.long u201), none, some (.int (if u355 = 1 then (1 : Int32) else (0 : Int32))), none, none]) rfl ?_
          exact B_law_B384 X hX hbl hbA hE hr1 (f_law_B89 len xs (ly (0 : Fin 2)) fu) ih hn u153.2 u377.2.1 u377.2.2 x2 x3 u97 (((iushrF u97 4) &&& 3) - ((iushrF u97 4) &&& 3) / 3 * 3) ((iushrF u97 6) &&& 3) (((iushrF u97 9) &&& 7) - ((iushrF u97 9) &&& 7) / 5 * 5) u153.1 u160 u167 u175 u184 u193 u201 (if u355 = 1 then (1 : Int32) else (0 : Int32)) u377.1 hf
      replace hf := ifF hf c214_3
      by_cases c214_4 : (u97 &&& 15) = 4
      · replace hf := ifT hf c214_4
        refine r_tswIn X (off := 202) 416 dL_law_214 (by rw [c214_4]; decide) (by rw [c214_4]; decide) (by rw [c214_4]; rfl) rfl ?_
        refine r_aload_n X (x := k.b + (0)) dL_law_416 rfl ?_
        refine r_iload X (x := (iushrF u97 8) &&& 1) dL_law_417 rfl ?_
        obtain ⟨u419, h419, hf⟩ := bdS hf
        refine r_callV1 X [.int ((iushrF u97 8) &&& 1)] [] (K9_mayStart h419) lkL_93 clsX9 rfl _ o_main (by decide) (Nat.le_of_ble_eq_true rfl) rfl rfl (Nat.le_of_ble_eq_true rfl) rfl rfl NC_le NS_le dL_law_419 ?_
        suffices K422 : VW k z NC NS (wAll k T R ly rc hn u153.2 tp ee st) 430 [some (.ref b0), some (.ref (k.b + (0))), some (.int x2), some (.int x3), some (.int u97), some (.int (((iushrF u97 4) &&& 3) - ((iushrF u97 4) &&& 3) / 3 * 3)), some (.int ((iushrF u97 6) &&& 3)), some (.int ((iushrF u97 8) &&& 1)), some (.int (((iushrF u97 9) &&& 7) - ((iushrF u97 9) &&& 7) / 5 * 5)), some (.int ((iushrF u97 12) &&& 63)), some (.int u153.1), some (.int u160), some (.int u167), some (.int u175), some (.int u184), some (.int u193), none, some (.long u201), none, some (.int 1), none, none] [.int (if u419 = 0 then (1 : Int32) else (0 : Int32))] by
          refine r_if_ne X 429 dL_law_422 rfl (fun c422 => ?_) (fun c422 => ?_)
          · refine r_iconst X (v := 0) dL_law_429 rfl ?_
            rw [if_neg c422] at K422
            exact K422
          · refine r_iconst X (v := 1) dL_law_425 rfl ?_
            refine r_goto X 430 dL_law_426 rfl ?_
            rw [if_pos c422] at K422
            exact K422
        refine r_istore X [some (.ref b0), some (.ref (k.b + (0))), some (.int x2), some (.int x3), some (.int u97), some (.int (((iushrF u97 4) &&& 3) - ((iushrF u97 4) &&& 3) / 3 * 3)), some (.int ((iushrF u97 6) &&& 3)), some (.int ((iushrF u97 8) &&& 1)), some (.int (((iushrF u97 9) &&& 7) - ((iushrF u97 9) &&& 7) / 5 * 5)), some (.int ((iushrF u97 12) &&& 63)), some (.int u153.1), some (.int u160), some (.int u167), some (.int u175), some (.int u184), some (.int u193), none, some (.long u201), none, some (.int (if u419 = 0 then (1 : Int32) else (0 : Int32))), none, none] dL_law_430 (Nat.le_of_ble_eq_true rfl) rfl ?_
        refine r_iload X (x := (if u419 = 0 then (1 : Int32) else (0 : Int32))) dL_law_432 rfl ?_
        refine r_if_eq X 446 dL_law_434 rfl (fun c434 => ?_) (fun c434 => ?_)
        · replace hf := ifT hf c434
          refine r_iconst X (v := 0) dL_law_446 rfl ?_
          refine VW.msk [true, true, true, true, true, true, true, true, true, false, true, true, true, true, true, true, false, true, false, true, false, false] rfl (lo' := [some (.ref b0), some (.ref (k.b + (0))), some (.int x2), some (.int x3), some (.int u97), some (.int (((iushrF u97 4) &&& 3) - ((iushrF u97 4) &&& 3) / 3 * 3)), some (.int ((iushrF u97 6) &&& 3)), some (.int ((iushrF u97 8) &&& 1)), some (.int (((iushrF u97 9) &&& 7) - ((iushrF u97 9) &&& 7) / 5 * 5)), none, some (.int u153.1), some (.int u160), some (.int u167), some (.int u175), some (.int u184), some (.int u193), none, some (.long u201), none, some (.int (if u419 = 0 then (1 : Int32) else (0 : Int32))), none, none]) rfl ?_
          exact B_law_B447 X hX hbl hbA hE hr1 (f_law_B89 len xs (ly (0 : Fin 2)) fu) ih hn u153.2 tp st x2 x3 u97 (((iushrF u97 4) &&& 3) - ((iushrF u97 4) &&& 3) / 3 * 3) ((iushrF u97 6) &&& 3) ((iushrF u97 8) &&& 1) (((iushrF u97 9) &&& 7) - ((iushrF u97 9) &&& 7) / 5 * 5) u153.1 u160 u167 u175 u184 u193 u201 (if u419 = 0 then (1 : Int32) else (0 : Int32)) 0 hf
        · replace hf := ifF hf c434
          refine r_aload_n X (x := k.b + (0)) dL_law_437 rfl ?_
          refine r_iload X (x := (iushrF u97 8) &&& 1) dL_law_438 rfl ?_
          obtain ⟨u440, h440, hf⟩ := bdS hf
          refine r_callV1 X [.int ((iushrF u97 8) &&& 1)] [] (K9_start h440) lkL_128 clsX9 rfl _ o_main (by decide) (Nat.le_of_ble_eq_true rfl) rfl rfl (Nat.le_of_ble_eq_true rfl) rfl rfl NC_le NS_le dL_law_440 ?_
          refine r_goto X 447 dL_law_443 rfl ?_
          refine VW.msk [true, true, true, true, true, true, true, true, true, false, true, true, true, true, true, true, false, true, false, true, false, false] rfl (lo' := [some (.ref b0), some (.ref (k.b + (0))), some (.int x2), some (.int x3), some (.int u97), some (.int (((iushrF u97 4) &&& 3) - ((iushrF u97 4) &&& 3) / 3 * 3)), some (.int ((iushrF u97 6) &&& 3)), some (.int ((iushrF u97 8) &&& 1)), some (.int (((iushrF u97 9) &&& 7) - ((iushrF u97 9) &&& 7) / 5 * 5)), none, some (.int u153.1), some (.int u160), some (.int u167), some (.int u175), some (.int u184), some (.int u193), none, some (.long u201), none, some (.int (if u419 = 0 then (1 : Int32) else (0 : Int32))), none, none]) rfl ?_
          exact B_law_B447 X hX hbl hbA hE hr1 (f_law_B89 len xs (ly (0 : Fin 2)) fu) ih hn u153.2 u440.2.1 u440.2.2 x2 x3 u97 (((iushrF u97 4) &&& 3) - ((iushrF u97 4) &&& 3) / 3 * 3) ((iushrF u97 6) &&& 3) ((iushrF u97 8) &&& 1) (((iushrF u97 9) &&& 7) - ((iushrF u97 9) &&& 7) / 5 * 5) u153.1 u160 u167 u175 u184 u193 u201 (if u419 = 0 then (1 : Int32) else (0 : Int32)) u440.1 hf
      replace hf := ifF hf c214_4
      by_cases c214_5 : (u97 &&& 15) = 5
      · replace hf := ifT hf c214_5
        refine r_tswIn X (off := 202) 416 dL_law_214 (by rw [c214_5]; decide) (by rw [c214_5]; decide) (by rw [c214_5]; rfl) rfl ?_
        refine r_aload_n X (x := k.b + (0)) dL_law_416 rfl ?_
        refine r_iload X (x := (iushrF u97 8) &&& 1) dL_law_417 rfl ?_
        obtain ⟨u419, h419, hf⟩ := bdS hf
        refine r_callV1 X [.int ((iushrF u97 8) &&& 1)] [] (K9_mayStart h419) lkL_93 clsX9 rfl _ o_main (by decide) (Nat.le_of_ble_eq_true rfl) rfl rfl (Nat.le_of_ble_eq_true rfl) rfl rfl NC_le NS_le dL_law_419 ?_
        suffices K422 : VW k z NC NS (wAll k T R ly rc hn u153.2 tp ee st) 430 [some (.ref b0), some (.ref (k.b + (0))), some (.int x2), some (.int x3), some (.int u97), some (.int (((iushrF u97 4) &&& 3) - ((iushrF u97 4) &&& 3) / 3 * 3)), some (.int ((iushrF u97 6) &&& 3)), some (.int ((iushrF u97 8) &&& 1)), some (.int (((iushrF u97 9) &&& 7) - ((iushrF u97 9) &&& 7) / 5 * 5)), some (.int ((iushrF u97 12) &&& 63)), some (.int u153.1), some (.int u160), some (.int u167), some (.int u175), some (.int u184), some (.int u193), none, some (.long u201), none, some (.int 1), none, none] [.int (if u419 = 0 then (1 : Int32) else (0 : Int32))] by
          refine r_if_ne X 429 dL_law_422 rfl (fun c422 => ?_) (fun c422 => ?_)
          · refine r_iconst X (v := 0) dL_law_429 rfl ?_
            rw [if_neg c422] at K422
            exact K422
          · refine r_iconst X (v := 1) dL_law_425 rfl ?_
            refine r_goto X 430 dL_law_426 rfl ?_
            rw [if_pos c422] at K422
            exact K422
        refine r_istore X [some (.ref b0), some (.ref (k.b + (0))), some (.int x2), some (.int x3), some (.int u97), some (.int (((iushrF u97 4) &&& 3) - ((iushrF u97 4) &&& 3) / 3 * 3)), some (.int ((iushrF u97 6) &&& 3)), some (.int ((iushrF u97 8) &&& 1)), some (.int (((iushrF u97 9) &&& 7) - ((iushrF u97 9) &&& 7) / 5 * 5)), some (.int ((iushrF u97 12) &&& 63)), some (.int u153.1), some (.int u160), some (.int u167), some (.int u175), some (.int u184), some (.int u193), none, some (.long u201), none, some (.int (if u419 = 0 then (1 : Int32) else (0 : Int32))), none, none] dL_law_430 (Nat.le_of_ble_eq_true rfl) rfl ?_
        refine r_iload X (x := (if u419 = 0 then (1 : Int32) else (0 : Int32))) dL_law_432 rfl ?_
        refine r_if_eq X 446 dL_law_434 rfl (fun c434 => ?_) (fun c434 => ?_)
        · replace hf := ifT hf c434
          refine r_iconst X (v := 0) dL_law_446 rfl ?_
          refine VW.msk [true, true, true, true, true, true, true, true, true, false, true, true, true, true, true, true, false, true, false, true, false, false] rfl (lo' := [some (.ref b0), some (.ref (k.b + (0))), some (.int x2), some (.int x3), some (.int u97), some (.int (((iushrF u97 4) &&& 3) - ((iushrF u97 4) &&& 3) / 3 * 3)), some (.int ((iushrF u97 6) &&& 3)), some (.int ((iushrF u97 8) &&& 1)), some (.int (((iushrF u97 9) &&& 7) - ((iushrF u97 9) &&& 7) / 5 * 5)), none, some (.int u153.1), some (.int u160), some (.int u167), some (.int u175), some (.int u184), some (.int u193), none, some (.long u201), none, some (.int (if u419 = 0 then (1 : Int32) else (0 : Int32))), none, none]) rfl ?_
          exact B_law_B447 X hX hbl hbA hE hr1 (f_law_B89 len xs (ly (0 : Fin 2)) fu) ih hn u153.2 tp st x2 x3 u97 (((iushrF u97 4) &&& 3) - ((iushrF u97 4) &&& 3) / 3 * 3) ((iushrF u97 6) &&& 3) ((iushrF u97 8) &&& 1) (((iushrF u97 9) &&& 7) - ((iushrF u97 9) &&& 7) / 5 * 5) u153.1 u160 u167 u175 u184 u193 u201 (if u419 = 0 then (1 : Int32) else (0 : Int32)) 0 hf
        · replace hf := ifF hf c434
          refine r_aload_n X (x := k.b + (0)) dL_law_437 rfl ?_
          refine r_iload X (x := (iushrF u97 8) &&& 1) dL_law_438 rfl ?_
          obtain ⟨u440, h440, hf⟩ := bdS hf
          refine r_callV1 X [.int ((iushrF u97 8) &&& 1)] [] (K9_start h440) lkL_128 clsX9 rfl _ o_main (by decide) (Nat.le_of_ble_eq_true rfl) rfl rfl (Nat.le_of_ble_eq_true rfl) rfl rfl NC_le NS_le dL_law_440 ?_
          refine r_goto X 447 dL_law_443 rfl ?_
          refine VW.msk [true, true, true, true, true, true, true, true, true, false, true, true, true, true, true, true, false, true, false, true, false, false] rfl (lo' := [some (.ref b0), some (.ref (k.b + (0))), some (.int x2), some (.int x3), some (.int u97), some (.int (((iushrF u97 4) &&& 3) - ((iushrF u97 4) &&& 3) / 3 * 3)), some (.int ((iushrF u97 6) &&& 3)), some (.int ((iushrF u97 8) &&& 1)), some (.int (((iushrF u97 9) &&& 7) - ((iushrF u97 9) &&& 7) / 5 * 5)), none, some (.int u153.1), some (.int u160), some (.int u167), some (.int u175), some (.int u184), some (.int u193), none, some (.long u201), none, some (.int (if u419 = 0 then (1 : Int32) else (0 : Int32))), none, none]) rfl ?_
          exact B_law_B447 X hX hbl hbA hE hr1 (f_law_B89 len xs (ly (0 : Fin 2)) fu) ih hn u153.2 u440.2.1 u440.2.2 x2 x3 u97 (((iushrF u97 4) &&& 3) - ((iushrF u97 4) &&& 3) / 3 * 3) ((iushrF u97 6) &&& 3) ((iushrF u97 8) &&& 1) (((iushrF u97 9) &&& 7) - ((iushrF u97 9) &&& 7) / 5 * 5) u153.1 u160 u167 u175 u184 u193 u201 (if u419 = 0 then (1 : Int32) else (0 : Int32)) u440.1 hf
      replace hf := ifF hf c214_5
      by_cases c214_6 : (u97 &&& 15) = 6
      · replace hf := ifT hf c214_6
        refine r_tswIn X (off := 271) 485 dL_law_214 (by rw [c214_6]; decide) (by rw [c214_6]; decide) (by rw [c214_6]; rfl) rfl ?_
        refine r_aload_n X (x := k.b + (0)) dL_law_485 rfl ?_
        refine r_iload X (x := (iushrF u97 8) &&& 1) dL_law_486 rfl ?_
        obtain ⟨u488, h488, hf⟩ := bdS hf
        refine r_callV1 X [.int ((iushrF u97 8) &&& 1)] [] (K9_mayStart h488) lkL_93 clsX9 rfl _ o_main (by decide) (Nat.le_of_ble_eq_true rfl) rfl rfl (Nat.le_of_ble_eq_true rfl) rfl rfl NC_le NS_le dL_law_488 ?_
        refine r_iconst X (v := 1) dL_law_491 rfl ?_
        suffices K492 : VW k z NC NS (wAll k T R ly rc hn u153.2 tp ee st) 500 [some (.ref b0), some (.ref (k.b + (0))), some (.int x2), some (.int x3), some (.int u97), some (.int (((iushrF u97 4) &&& 3) - ((iushrF u97 4) &&& 3) / 3 * 3)), some (.int ((iushrF u97 6) &&& 3)), some (.int ((iushrF u97 8) &&& 1)), some (.int (((iushrF u97 9) &&& 7) - ((iushrF u97 9) &&& 7) / 5 * 5)), some (.int ((iushrF u97 12) &&& 63)), some (.int u153.1), some (.int u160), some (.int u167), some (.int u175), some (.int u184), some (.int u193), none, some (.long u201), none, some (.int 1), none, none] [.int (if u488 = 1 then (1 : Int32) else (0 : Int32))] by
          refine r_icmp_ne X 499 dL_law_492 rfl (fun c492 => ?_) (fun c492 => ?_)
          · refine r_iconst X (v := 0) dL_law_499 rfl ?_
            rw [if_neg c492] at K492
            exact K492
          · refine r_iconst X (v := 1) dL_law_495 rfl ?_
            refine r_goto X 500 dL_law_496 rfl ?_
            rw [if_pos c492] at K492
            exact K492
        refine r_istore X [some (.ref b0), some (.ref (k.b + (0))), some (.int x2), some (.int x3), some (.int u97), some (.int (((iushrF u97 4) &&& 3) - ((iushrF u97 4) &&& 3) / 3 * 3)), some (.int ((iushrF u97 6) &&& 3)), some (.int ((iushrF u97 8) &&& 1)), some (.int (((iushrF u97 9) &&& 7) - ((iushrF u97 9) &&& 7) / 5 * 5)), some (.int ((iushrF u97 12) &&& 63)), some (.int u153.1), some (.int u160), some (.int u167), some (.int u175), some (.int u184), some (.int u193), none, some (.long u201), none, some (.int (if u488 = 1 then (1 : Int32) else (0 : Int32))), none, none] dL_law_500 (Nat.le_of_ble_eq_true rfl) rfl ?_
        refine r_iload X (x := (if u488 = 1 then (1 : Int32) else (0 : Int32))) dL_law_502 rfl ?_
        refine r_if_eq X 516 dL_law_504 rfl (fun c504 => ?_) (fun c504 => ?_)
        · replace hf := ifT hf c504
          refine r_iconst X (v := 0) dL_law_516 rfl ?_
          refine VW.msk [true, true, true, true, true, true, true, true, true, false, true, true, true, true, true, true, false, true, false, true, false, false] rfl (lo' := [some (.ref b0), some (.ref (k.b + (0))), some (.int x2), some (.int x3), some (.int u97), some (.int (((iushrF u97 4) &&& 3) - ((iushrF u97 4) &&& 3) / 3 * 3)), some (.int ((iushrF u97 6) &&& 3)), some (.int ((iushrF u97 8) &&& 1)), some (.int (((iushrF u97 9) &&& 7) - ((iushrF u97 9) &&& 7) / 5 * 5)), none, some (.int u153.1), some (.int u160), some (.int u167), some (.int u175), some (.int u184), some (.int u193), none, some (.long u201), none, some (.int (if u488 = 1 then (1 : Int32) else (0 : Int32))), none, none]) rfl ?_
          exact B_law_B517 X hX hbl hbA hE hr1 (f_law_B89 len xs (ly (0 : Fin 2)) fu) ih hn u153.2 tp st x2 x3 u97 (((iushrF u97 4) &&& 3) - ((iushrF u97 4) &&& 3) / 3 * 3) ((iushrF u97 6) &&& 3) ((iushrF u97 8) &&& 1) (((iushrF u97 9) &&& 7) - ((iushrF u97 9) &&& 7) / 5 * 5) u153.1 u160 u167 u175 u184 u193 u201 (if u488 = 1 then (1 : Int32) else (0 : Int32)) 0 hf
        · replace hf := ifF hf c504
          refine r_aload_n X (x := k.b + (0)) dL_law_507 rfl ?_
          refine r_iload X (x := (iushrF u97 8) &&& 1) dL_law_508 rfl ?_
          obtain ⟨u510, h510, hf⟩ := bdS hf
          refine r_callV1 X [.int ((iushrF u97 8) &&& 1)] [] (K9_stop h510) lkL_131 clsX9 rfl _ o_main (by decide) (Nat.le_of_ble_eq_true rfl) rfl rfl (Nat.le_of_ble_eq_true rfl) rfl rfl NC_le NS_le dL_law_510 ?_
          refine r_goto X 517 dL_law_513 rfl ?_
          refine VW.msk [true, true, true, true, true, true, true, true, true, false, true, true, true, true, true, true, false, true, false, true, false, false] rfl (lo' := [some (.ref b0), some (.ref (k.b + (0))), some (.int x2), some (.int x3), some (.int u97), some (.int (((iushrF u97 4) &&& 3) - ((iushrF u97 4) &&& 3) / 3 * 3)), some (.int ((iushrF u97 6) &&& 3)), some (.int ((iushrF u97 8) &&& 1)), some (.int (((iushrF u97 9) &&& 7) - ((iushrF u97 9) &&& 7) / 5 * 5)), none, some (.int u153.1), some (.int u160), some (.int u167), some (.int u175), some (.int u184), some (.int u193), none, some (.long u201), none, some (.int (if u488 = 1 then (1 : Int32) else (0 : Int32))), none, none]) rfl ?_
          exact B_law_B517 X hX hbl hbA hE hr1 (f_law_B89 len xs (ly (0 : Fin 2)) fu) ih hn u153.2 u510.2.1 u510.2.2 x2 x3 u97 (((iushrF u97 4) &&& 3) - ((iushrF u97 4) &&& 3) / 3 * 3) ((iushrF u97 6) &&& 3) ((iushrF u97 8) &&& 1) (((iushrF u97 9) &&& 7) - ((iushrF u97 9) &&& 7) / 5 * 5) u153.1 u160 u167 u175 u184 u193 u201 (if u488 = 1 then (1 : Int32) else (0 : Int32)) u510.1 hf
      replace hf := ifF hf c214_6
      by_cases c214_7 : (u97 &&& 15) = 7
      · replace hf := ifT hf c214_7
        refine r_tswIn X (off := 322) 536 dL_law_214 (by rw [c214_7]; decide) (by rw [c214_7]; decide) (by rw [c214_7]; rfl) rfl ?_
        refine r_aload_n X (x := k.b + (0)) dL_law_536 rfl ?_
        refine r_iload X (x := ((iushrF u97 4) &&& 3) - ((iushrF u97 4) &&& 3) / 3 * 3) dL_law_537 rfl ?_
        refine r_iconst X (v := 1) dL_law_539 rfl ?_
        refine r_iload X (x := (iushrF u97 12) &&& 63) dL_law_540 rfl ?_
        refine r_iadd X dL_law_542 ?_
        obtain ⟨u543, h543, hf⟩ := bdS hf
        refine r_callV1 X [.int (((iushrF u97 4) &&& 3) - ((iushrF u97 4) &&& 3) / 3 * 3), .int (1 + ((iushrF u97 12) &&& 63))] [] (K9_pressureAfter h543) lkL_45 clsX9 rfl _ o_main (by decide) (Nat.le_of_ble_eq_true rfl) rfl rfl (Nat.le_of_ble_eq_true rfl) rfl rfl NC_le NS_le dL_law_543 ?_
        refine r_istore X [some (.ref b0), some (.ref (k.b + (0))), some (.int x2), some (.int x3), some (.int u97), some (.int (((iushrF u97 4) &&& 3) - ((iushrF u97 4) &&& 3) / 3 * 3)), some (.int ((iushrF u97 6) &&& 3)), some (.int ((iushrF u97 8) &&& 1)), some (.int (((iushrF u97 9) &&& 7) - ((iushrF u97 9) &&& 7) / 5 * 5)), some (.int ((iushrF u97 12) &&& 63)), some (.int u153.1), some (.int u160), some (.int u167), some (.int u175), some (.int u184), some (.int u193), none, some (.long u201), none, some (.int 1), some (.int u543.1), none] dL_law_546 (Nat.le_of_ble_eq_true rfl) rfl ?_
        refine r_aload_n X (x := k.b + (0)) dL_law_548 rfl ?_
        refine r_iconst X (v := 1) dL_law_549 rfl ?_
        refine r_iload X (x := (iushrF u97 12) &&& 63) dL_law_550 rfl ?_
        refine r_iadd X dL_law_552 ?_
        obtain ⟨u553, h553, hf⟩ := bdS hf
        refine r_callV1 X [.int (1 + ((iushrF u97 12) &&& 63))] [] (K9_tripsIn h553) lkL_99 clsX9 rfl _ o_main (by decide) (Nat.le_of_ble_eq_true rfl) rfl rfl (Nat.le_of_ble_eq_true rfl) rfl rfl NC_le NS_le dL_law_553 ?_
        refine r_istore X [some (.ref b0), some (.ref (k.b + (0))), some (.int x2), some (.int x3), some (.int u97), some (.int (((iushrF u97 4) &&& 3) - ((iushrF u97 4) &&& 3) / 3 * 3)), some (.int ((iushrF u97 6) &&& 3)), some (.int ((iushrF u97 8) &&& 1)), some (.int (((iushrF u97 9) &&& 7) - ((iushrF u97 9) &&& 7) / 5 * 5)), some (.int ((iushrF u97 12) &&& 63)), some (.int u153.1), some (.int u160), some (.int u167), some (.int u175), some (.int u184), some (.int u193), none, some (.long u201), none, some (.int 1), some (.int u543.1), some (.int u553.1)] dL_law_556 (Nat.le_of_ble_eq_true rfl) rfl ?_
        refine r_aload_n X (x := k.b + (0)) dL_law_558 rfl ?_
        refine r_iconst X (v := 1) dL_law_559 rfl ?_
        refine r_iload X (x := (iushrF u97 12) &&& 63) dL_law_560 rfl ?_
        refine r_iadd X dL_law_562 ?_
        obtain ⟨u563, h563, hf⟩ := bdS hf
        refine r_callV1 X [.int (1 + ((iushrF u97 12) &&& 63))] [] (K9_pass h563) lkL_134 clsX9 rfl _ o_main (by decide) (Nat.le_of_ble_eq_true rfl) rfl rfl (Nat.le_of_ble_eq_true rfl) rfl rfl NC_le NS_le dL_law_563 ?_
        refine r_istore X [some (.ref b0), some (.ref (k.b + (0))), some (.int x2), some (.int x3), some (.int u97), some (.int (((iushrF u97 4) &&& 3) - ((iushrF u97 4) &&& 3) / 3 * 3)), some (.int ((iushrF u97 6) &&& 3)), some (.int ((iushrF u97 8) &&& 1)), some (.int (((iushrF u97 9) &&& 7) - ((iushrF u97 9) &&& 7) / 5 * 5)), some (.int ((iushrF u97 12) &&& 63)), some (.int u153.1), some (.int u160), some (.int u167), some (.int u175), some (.int u184), some (.int u193), some (.int u563.1), some (.long u201), none, some (.int 1), some (.int u543.1), some (.int u553.1)] dL_law_566 (Nat.le_of_ble_eq_true rfl) rfl ?_
        refine r_iload X (x := u563.1) dL_law_568 rfl ?_
        refine r_iload X (x := u553.1) dL_law_570 rfl ?_
        refine r_icmp_ne X 625 dL_law_572 rfl (fun c572 => ?_) (fun c572 => ?_)
        · replace hf := ifF hf c572
          refine r_iconst X (v := 0) dL_law_625 rfl ?_
          obtain rfl := Option.some.inj hf
          exact l_ret hE hr1 dL_law_626
        · replace hf := ifT hf c572
          refine r_aload_n X (x := k.b + (0)) dL_law_575 rfl ?_
          refine r_iload X (x := ((iushrF u97 4) &&& 3) - ((iushrF u97 4) &&& 3) / 3 * 3) dL_law_576 rfl ?_
          refine r_iconst X (v := 3) dL_law_578 rfl ?_
          obtain ⟨u579, h579, hf⟩ := bdS hf
          refine r_callV1 X [.int (((iushrF u97 4) &&& 3) - ((iushrF u97 4) &&& 3) / 3 * 3), .int 3] [] (K9_chamber h579) lkL_27 clsX9 rfl _ o_main (by decide) (Nat.le_of_ble_eq_true rfl) rfl rfl (Nat.le_of_ble_eq_true rfl) rfl rfl NC_le NS_le dL_law_579 ?_
          refine r_iload X (x := u543.1) dL_law_582 rfl ?_
          refine r_icmp_ne X 625 dL_law_584 rfl (fun c584 => ?_) (fun c584 => ?_)
          · replace hf := ifF hf c584
            refine r_iconst X (v := 0) dL_law_625 rfl ?_
            obtain rfl := Option.some.inj hf
            exact l_ret hE hr1 dL_law_626
          · replace hf := ifT hf c584
            refine r_aload_n X (x := k.b + (0)) dL_law_587 rfl ?_
            refine r_iconst X (v := 4) dL_law_588 rfl ?_
            obtain ⟨u589, h589, hf⟩ := bdS hf
            refine r_callV1 X [.int 4] [] (K9_count h589) lkL_78 clsX9 rfl _ o_main (by decide) (Nat.le_of_ble_eq_true rfl) rfl rfl (Nat.le_of_ble_eq_true rfl) rfl rfl NC_le NS_le dL_law_589 ?_
            refine r_iload X (x := u160) dL_law_592 rfl ?_
            refine r_iconst X (v := 1) dL_law_594 rfl ?_
            refine r_iadd X dL_law_595 ?_
            refine r_iload X (x := (iushrF u97 12) &&& 63) dL_law_596 rfl ?_
            refine r_iadd X dL_law_598 ?_
            refine r_icmp_ne X 625 dL_law_599 rfl (fun c599 => ?_) (fun c599 => ?_)
            · replace hf := ifF hf c599
              refine r_iconst X (v := 0) dL_law_625 rfl ?_
              obtain rfl := Option.some.inj hf
              exact l_ret hE hr1 dL_law_626
            · replace hf := ifT hf c599
              refine r_aload_n X (x := k.b + (0)) dL_law_602 rfl ?_
              refine r_iconst X (v := 5) dL_law_603 rfl ?_
              obtain ⟨u604, h604, hf⟩ := bdS hf
              refine r_callV1 X [.int 5] [] (K9_count h604) lkL_78 clsX9 rfl _ o_main (by decide) (Nat.le_of_ble_eq_true rfl) rfl rfl (Nat.le_of_ble_eq_true rfl) rfl rfl NC_le NS_le dL_law_604 ?_
              refine r_aload_n X (x := k.b + (0)) dL_law_607 rfl ?_
              refine r_bipush X (v := 6) dL_law_608 rfl ?_
              obtain ⟨u610, h610, hf⟩ := bdS hf
              refine r_callV1 X [.int 6] [.int u604] (K9_count h610) lkL_78 clsX9 rfl _ o_main (by decide) (Nat.le_of_ble_eq_true rfl) rfl rfl (Nat.le_of_ble_eq_true rfl) rfl rfl NC_le NS_le dL_law_610 ?_
              refine r_iadd X dL_law_613 ?_
              refine r_iload X (x := u167) dL_law_614 rfl ?_
              refine r_iload X (x := u175) dL_law_616 rfl ?_
              refine r_iadd X dL_law_618 ?_
              refine r_iload X (x := u553.1) dL_law_619 rfl ?_
              refine r_iadd X dL_law_621 ?_
              refine r_icmp_eq X 1017 dL_law_622 rfl (fun c622 => ?_) (fun c622 => ?_)
              · replace hf := ifT hf c622
                refine VW.msk [true, true, true, true, true, true, true, false, true, false, true, true, true, true, true, true, true, true, false, true, false, false] rfl (lo' := [some (.ref b0), some (.ref (k.b + (0))), some (.int x2), some (.int x3), some (.int u97), some (.int (((iushrF u97 4) &&& 3) - ((iushrF u97 4) &&& 3) / 3 * 3)), some (.int ((iushrF u97 6) &&& 3)), none, some (.int (((iushrF u97 9) &&& 7) - ((iushrF u97 9) &&& 7) / 5 * 5)), none, some (.int u153.1), some (.int u160), some (.int u167), some (.int u175), some (.int u184), some (.int u193), some (.int u563.1), some (.long u201), none, some (.int 1), none, none]) rfl ?_
                exact B_law_B1017 X hX hbl hbA hE hr1 (f_law_B89 len xs (ly (0 : Fin 2)) fu) ih hn u153.2 u563.2.1 u563.2.2 x2 x3 u97 (((iushrF u97 4) &&& 3) - ((iushrF u97 4) &&& 3) / 3 * 3) ((iushrF u97 6) &&& 3) (((iushrF u97 9) &&& 7) - ((iushrF u97 9) &&& 7) / 5 * 5) u153.1 u160 u167 u175 u184 u193 u563.1 u201 1 hf
              · replace hf := ifF hf c622
                refine r_iconst X (v := 0) dL_law_625 rfl ?_
                obtain rfl := Option.some.inj hf
                exact l_ret hE hr1 dL_law_626
      replace hf := ifF hf c214_7
      by_cases c214_8 : (u97 &&& 15) = 8
      · replace hf := ifT hf c214_8
        refine r_tswIn X (off := 322) 536 dL_law_214 (by rw [c214_8]; decide) (by rw [c214_8]; decide) (by rw [c214_8]; rfl) rfl ?_
        refine r_aload_n X (x := k.b + (0)) dL_law_536 rfl ?_
        refine r_iload X (x := ((iushrF u97 4) &&& 3) - ((iushrF u97 4) &&& 3) / 3 * 3) dL_law_537 rfl ?_
        refine r_iconst X (v := 1) dL_law_539 rfl ?_
        refine r_iload X (x := (iushrF u97 12) &&& 63) dL_law_540 rfl ?_
        refine r_iadd X dL_law_542 ?_
        obtain ⟨u543, h543, hf⟩ := bdS hf
        refine r_callV1 X [.int (((iushrF u97 4) &&& 3) - ((iushrF u97 4) &&& 3) / 3 * 3), .int (1 + ((iushrF u97 12) &&& 63))] [] (K9_pressureAfter h543) lkL_45 clsX9 rfl _ o_main (by decide) (Nat.le_of_ble_eq_true rfl) rfl rfl (Nat.le_of_ble_eq_true rfl) rfl rfl NC_le NS_le dL_law_543 ?_
        refine r_istore X [some (.ref b0), some (.ref (k.b + (0))), some (.int x2), some (.int x3), some (.int u97), some (.int (((iushrF u97 4) &&& 3) - ((iushrF u97 4) &&& 3) / 3 * 3)), some (.int ((iushrF u97 6) &&& 3)), some (.int ((iushrF u97 8) &&& 1)), some (.int (((iushrF u97 9) &&& 7) - ((iushrF u97 9) &&& 7) / 5 * 5)), some (.int ((iushrF u97 12) &&& 63)), some (.int u153.1), some (.int u160), some (.int u167), some (.int u175), some (.int u184), some (.int u193), none, some (.long u201), none, some (.int 1), some (.int u543.1), none] dL_law_546 (Nat.le_of_ble_eq_true rfl) rfl ?_
        refine r_aload_n X (x := k.b + (0)) dL_law_548 rfl ?_
        refine r_iconst X (v := 1) dL_law_549 rfl ?_
        refine r_iload X (x := (iushrF u97 12) &&& 63) dL_law_550 rfl ?_
        refine r_iadd X dL_law_552 ?_
        obtain ⟨u553, h553, hf⟩ := bdS hf
        refine r_callV1 X [.int (1 + ((iushrF u97 12) &&& 63))] [] (K9_tripsIn h553) lkL_99 clsX9 rfl _ o_main (by decide) (Nat.le_of_ble_eq_true rfl) rfl rfl (Nat.le_of_ble_eq_true rfl) rfl rfl NC_le NS_le dL_law_553 ?_
        refine r_istore X [some (.ref b0), some (.ref (k.b + (0))), some (.int x2), some (.int x3), some (.int u97), some (.int (((iushrF u97 4) &&& 3) - ((iushrF u97 4) &&& 3) / 3 * 3)), some (.int ((iushrF u97 6) &&& 3)), some (.int ((iushrF u97 8) &&& 1)), some (.int (((iushrF u97 9) &&& 7) - ((iushrF u97 9) &&& 7) / 5 * 5)), some (.int ((iushrF u97 12) &&& 63)), some (.int u153.1), some (.int u160), some (.int u167), some (.int u175), some (.int u184), some (.int u193), none, some (.long u201), none, some (.int 1), some (.int u543.1), some (.int u553.1)] dL_law_556 (Nat.le_of_ble_eq_true rfl) rfl ?_
        refine r_aload_n X (x := k.b + (0)) dL_law_558 rfl ?_
        refine r_iconst X (v := 1) dL_law_559 rfl ?_
        refine r_iload X (x := (iushrF u97 12) &&& 63) dL_law_560 rfl ?_
        refine r_iadd X dL_law_562 ?_
        obtain ⟨u563, h563, hf⟩ := bdS hf
        refine r_callV1 X [.int (1 + ((iushrF u97 12) &&& 63))] [] (K9_pass h563) lkL_134 clsX9 rfl _ o_main (by decide) (Nat.le_of_ble_eq_true rfl) rfl rfl (Nat.le_of_ble_eq_true rfl) rfl rfl NC_le NS_le dL_law_563 ?_
        refine r_istore X [some (.ref b0), some (.ref (k.b + (0))), some (.int x2), some (.int x3), some (.int u97), some (.int (((iushrF u97 4) &&& 3) - ((iushrF u97 4) &&& 3) / 3 * 3)), some (.int ((iushrF u97 6) &&& 3)), some (.int ((iushrF u97 8) &&& 1)), some (.int (((iushrF u97 9) &&& 7) - ((iushrF u97 9) &&& 7) / 5 * 5)), some (.int ((iushrF u97 12) &&& 63)), some (.int u153.1), some (.int u160), some (.int u167), some (.int u175), some (.int u184), some (.int u193), some (.int u563.1), some (.long u201), none, some (.int 1), some (.int u543.1), some (.int u553.1)] dL_law_566 (Nat.le_of_ble_eq_true rfl) rfl ?_
        refine r_iload X (x := u563.1) dL_law_568 rfl ?_
        refine r_iload X (x := u553.1) dL_law_570 rfl ?_
        refine r_icmp_ne X 625 dL_law_572 rfl (fun c572 => ?_) (fun c572 => ?_)
        · replace hf := ifF hf c572
          refine r_iconst X (v := 0) dL_law_625 rfl ?_
          obtain rfl := Option.some.inj hf
          exact l_ret hE hr1 dL_law_626
        · replace hf := ifT hf c572
          refine r_aload_n X (x := k.b + (0)) dL_law_575 rfl ?_
          refine r_iload X (x := ((iushrF u97 4) &&& 3) - ((iushrF u97 4) &&& 3) / 3 * 3) dL_law_576 rfl ?_
          refine r_iconst X (v := 3) dL_law_578 rfl ?_
          obtain ⟨u579, h579, hf⟩ := bdS hf
          refine r_callV1 X [.int (((iushrF u97 4) &&& 3) - ((iushrF u97 4) &&& 3) / 3 * 3), .int 3] [] (K9_chamber h579) lkL_27 clsX9 rfl _ o_main (by decide) (Nat.le_of_ble_eq_true rfl) rfl rfl (Nat.le_of_ble_eq_true rfl) rfl rfl NC_le NS_le dL_law_579 ?_
          refine r_iload X (x := u543.1) dL_law_582 rfl ?_
          refine r_icmp_ne X 625 dL_law_584 rfl (fun c584 => ?_) (fun c584 => ?_)
          · replace hf := ifF hf c584
            refine r_iconst X (v := 0) dL_law_625 rfl ?_
            obtain rfl := Option.some.inj hf
            exact l_ret hE hr1 dL_law_626
          · replace hf := ifT hf c584
            refine r_aload_n X (x := k.b + (0)) dL_law_587 rfl ?_
            refine r_iconst X (v := 4) dL_law_588 rfl ?_
            obtain ⟨u589, h589, hf⟩ := bdS hf
            refine r_callV1 X [.int 4] [] (K9_count h589) lkL_78 clsX9 rfl _ o_main (by decide) (Nat.le_of_ble_eq_true rfl) rfl rfl (Nat.le_of_ble_eq_true rfl) rfl rfl NC_le NS_le dL_law_589 ?_
            refine r_iload X (x := u160) dL_law_592 rfl ?_
            refine r_iconst X (v := 1) dL_law_594 rfl ?_
            refine r_iadd X dL_law_595 ?_
            refine r_iload X (x := (iushrF u97 12) &&& 63) dL_law_596 rfl ?_
            refine r_iadd X dL_law_598 ?_
            refine r_icmp_ne X 625 dL_law_599 rfl (fun c599 => ?_) (fun c599 => ?_)
            · replace hf := ifF hf c599
              refine r_iconst X (v := 0) dL_law_625 rfl ?_
              obtain rfl := Option.some.inj hf
              exact l_ret hE hr1 dL_law_626
            · replace hf := ifT hf c599
              refine r_aload_n X (x := k.b + (0)) dL_law_602 rfl ?_
              refine r_iconst X (v := 5) dL_law_603 rfl ?_
              obtain ⟨u604, h604, hf⟩ := bdS hf
              refine r_callV1 X [.int 5] [] (K9_count h604) lkL_78 clsX9 rfl _ o_main (by decide) (Nat.le_of_ble_eq_true rfl) rfl rfl (Nat.le_of_ble_eq_true rfl) rfl rfl NC_le NS_le dL_law_604 ?_
              refine r_aload_n X (x := k.b + (0)) dL_law_607 rfl ?_
              refine r_bipush X (v := 6) dL_law_608 rfl ?_
              obtain ⟨u610, h610, hf⟩ := bdS hf
              refine r_callV1 X [.int 6] [.int u604] (K9_count h610) lkL_78 clsX9 rfl _ o_main (by decide) (Nat.le_of_ble_eq_true rfl) rfl rfl (Nat.le_of_ble_eq_true rfl) rfl rfl NC_le NS_le dL_law_610 ?_
              refine r_iadd X dL_law_613 ?_
              refine r_iload X (x := u167) dL_law_614 rfl ?_
              refine r_iload X (x := u175) dL_law_616 rfl ?_
              refine r_iadd X dL_law_618 ?_
              refine r_iload X (x := u553.1) dL_law_619 rfl ?_
              refine r_iadd X dL_law_621 ?_
              refine r_icmp_eq X 1017 dL_law_622 rfl (fun c622 => ?_) (fun c622 => ?_)
              · replace hf := ifT hf c622
                refine VW.msk [true, true, true, true, true, true, true, false, true, false, true, true, true, true, true, true, true, true, false, true, false, false] rfl (lo' := [some (.ref b0), some (.ref (k.b + (0))), some (.int x2), some (.int x3), some (.int u97), some (.int (((iushrF u97 4) &&& 3) - ((iushrF u97 4) &&& 3) / 3 * 3)), some (.int ((iushrF u97 6) &&& 3)), none, some (.int (((iushrF u97 9) &&& 7) - ((iushrF u97 9) &&& 7) / 5 * 5)), none, some (.int u153.1), some (.int u160), some (.int u167), some (.int u175), some (.int u184), some (.int u193), some (.int u563.1), some (.long u201), none, some (.int 1), none, none]) rfl ?_
                exact B_law_B1017 X hX hbl hbA hE hr1 (f_law_B89 len xs (ly (0 : Fin 2)) fu) ih hn u153.2 u563.2.1 u563.2.2 x2 x3 u97 (((iushrF u97 4) &&& 3) - ((iushrF u97 4) &&& 3) / 3 * 3) ((iushrF u97 6) &&& 3) (((iushrF u97 9) &&& 7) - ((iushrF u97 9) &&& 7) / 5 * 5) u153.1 u160 u167 u175 u184 u193 u563.1 u201 1 hf
              · replace hf := ifF hf c622
                refine r_iconst X (v := 0) dL_law_625 rfl ?_
                obtain rfl := Option.some.inj hf
                exact l_ret hE hr1 dL_law_626
      replace hf := ifF hf c214_8
      by_cases c214_9 : (u97 &&& 15) = 9
      · replace hf := ifT hf c214_9
        refine r_tswIn X (off := 322) 536 dL_law_214 (by rw [c214_9]; decide) (by rw [c214_9]; decide) (by rw [c214_9]; rfl) rfl ?_
        refine r_aload_n X (x := k.b + (0)) dL_law_536 rfl ?_
        refine r_iload X (x := ((iushrF u97 4) &&& 3) - ((iushrF u97 4) &&& 3) / 3 * 3) dL_law_537 rfl ?_
        refine r_iconst X (v := 1) dL_law_539 rfl ?_
        refine r_iload X (x := (iushrF u97 12) &&& 63) dL_law_540 rfl ?_
        refine r_iadd X dL_law_542 ?_
        obtain ⟨u543, h543, hf⟩ := bdS hf
        refine r_callV1 X [.int (((iushrF u97 4) &&& 3) - ((iushrF u97 4) &&& 3) / 3 * 3), .int (1 + ((iushrF u97 12) &&& 63))] [] (K9_pressureAfter h543) lkL_45 clsX9 rfl _ o_main (by decide) (Nat.le_of_ble_eq_true rfl) rfl rfl (Nat.le_of_ble_eq_true rfl) rfl rfl NC_le NS_le dL_law_543 ?_
        refine r_istore X [some (.ref b0), some (.ref (k.b + (0))), some (.int x2), some (.int x3), some (.int u97), some (.int (((iushrF u97 4) &&& 3) - ((iushrF u97 4) &&& 3) / 3 * 3)), some (.int ((iushrF u97 6) &&& 3)), some (.int ((iushrF u97 8) &&& 1)), some (.int (((iushrF u97 9) &&& 7) - ((iushrF u97 9) &&& 7) / 5 * 5)), some (.int ((iushrF u97 12) &&& 63)), some (.int u153.1), some (.int u160), some (.int u167), some (.int u175), some (.int u184), some (.int u193), none, some (.long u201), none, some (.int 1), some (.int u543.1), none] dL_law_546 (Nat.le_of_ble_eq_true rfl) rfl ?_
        refine r_aload_n X (x := k.b + (0)) dL_law_548 rfl ?_
        refine r_iconst X (v := 1) dL_law_549 rfl ?_
        refine r_iload X (x := (iushrF u97 12) &&& 63) dL_law_550 rfl ?_
        refine r_iadd X dL_law_552 ?_
        obtain ⟨u553, h553, hf⟩ := bdS hf
        refine r_callV1 X [.int (1 + ((iushrF u97 12) &&& 63))] [] (K9_tripsIn h553) lkL_99 clsX9 rfl _ o_main (by decide) (Nat.le_of_ble_eq_true rfl) rfl rfl (Nat.le_of_ble_eq_true rfl) rfl rfl NC_le NS_le dL_law_553 ?_
        refine r_istore X [some (.ref b0), some (.ref (k.b + (0))), some (.int x2), some (.int x3), some (.int u97), some (.int (((iushrF u97 4) &&& 3) - ((iushrF u97 4) &&& 3) / 3 * 3)), some (.int ((iushrF u97 6) &&& 3)), some (.int ((iushrF u97 8) &&& 1)), some (.int (((iushrF u97 9) &&& 7) - ((iushrF u97 9) &&& 7) / 5 * 5)), some (.int ((iushrF u97 12) &&& 63)), some (.int u153.1), some (.int u160), some (.int u167), some (.int u175), some (.int u184), some (.int u193), none, some (.long u201), none, some (.int 1), some (.int u543.1), some (.int u553.1)] dL_law_556 (Nat.le_of_ble_eq_true rfl) rfl ?_
        refine r_aload_n X (x := k.b + (0)) dL_law_558 rfl ?_
        refine r_iconst X (v := 1) dL_law_559 rfl ?_
        refine r_iload X (x := (iushrF u97 12) &&& 63) dL_law_560 rfl ?_
        refine r_iadd X dL_law_562 ?_
        obtain ⟨u563, h563, hf⟩ := bdS hf
        refine r_callV1 X [.int (1 + ((iushrF u97 12) &&& 63))] [] (K9_pass h563) lkL_134 clsX9 rfl _ o_main (by decide) (Nat.le_of_ble_eq_true rfl) rfl rfl (Nat.le_of_ble_eq_true rfl) rfl rfl NC_le NS_le dL_law_563 ?_
        refine r_istore X [some (.ref b0), some (.ref (k.b + (0))), some (.int x2), some (.int x3), some (.int u97), some (.int (((iushrF u97 4) &&& 3) - ((iushrF u97 4) &&& 3) / 3 * 3)), some (.int ((iushrF u97 6) &&& 3)), some (.int ((iushrF u97 8) &&& 1)), some (.int (((iushrF u97 9) &&& 7) - ((iushrF u97 9) &&& 7) / 5 * 5)), some (.int ((iushrF u97 12) &&& 63)), some (.int u153.1), some (.int u160), some (.int u167), some (.int u175), some (.int u184), some (.int u193), some (.int u563.1), some (.long u201), none, some (.int 1), some (.int u543.1), some (.int u553.1)] dL_law_566 (Nat.le_of_ble_eq_true rfl) rfl ?_
        refine r_iload X (x := u563.1) dL_law_568 rfl ?_
        refine r_iload X (x := u553.1) dL_law_570 rfl ?_
        refine r_icmp_ne X 625 dL_law_572 rfl (fun c572 => ?_) (fun c572 => ?_)
        · replace hf := ifF hf c572
          refine r_iconst X (v := 0) dL_law_625 rfl ?_
          obtain rfl := Option.some.inj hf
          exact l_ret hE hr1 dL_law_626
        · replace hf := ifT hf c572
          refine r_aload_n X (x := k.b + (0)) dL_law_575 rfl ?_
          refine r_iload X (x := ((iushrF u97 4) &&& 3) - ((iushrF u97 4) &&& 3) / 3 * 3) dL_law_576 rfl ?_
          refine r_iconst X (v := 3) dL_law_578 rfl ?_
          obtain ⟨u579, h579, hf⟩ := bdS hf
          refine r_callV1 X [.int (((iushrF u97 4) &&& 3) - ((iushrF u97 4) &&& 3) / 3 * 3), .int 3] [] (K9_chamber h579) lkL_27 clsX9 rfl _ o_main (by decide) (Nat.le_of_ble_eq_true rfl) rfl rfl (Nat.le_of_ble_eq_true rfl) rfl rfl NC_le NS_le dL_law_579 ?_
          refine r_iload X (x := u543.1) dL_law_582 rfl ?_
          refine r_icmp_ne X 625 dL_law_584 rfl (fun c584 => ?_) (fun c584 => ?_)
          · replace hf := ifF hf c584
            refine r_iconst X (v := 0) dL_law_625 rfl ?_
            obtain rfl := Option.some.inj hf
            exact l_ret hE hr1 dL_law_626
          · replace hf := ifT hf c584
            refine r_aload_n X (x := k.b + (0)) dL_law_587 rfl ?_
            refine r_iconst X (v := 4) dL_law_588 rfl ?_
            obtain ⟨u589, h589, hf⟩ := bdS hf
            refine r_callV1 X [.int 4] [] (K9_count h589) lkL_78 clsX9 rfl _ o_main (by decide) (Nat.le_of_ble_eq_true rfl) rfl rfl (Nat.le_of_ble_eq_true rfl) rfl rfl NC_le NS_le dL_law_589 ?_
            refine r_iload X (x := u160) dL_law_592 rfl ?_
            refine r_iconst X (v := 1) dL_law_594 rfl ?_
            refine r_iadd X dL_law_595 ?_
            refine r_iload X (x := (iushrF u97 12) &&& 63) dL_law_596 rfl ?_
            refine r_iadd X dL_law_598 ?_
            refine r_icmp_ne X 625 dL_law_599 rfl (fun c599 => ?_) (fun c599 => ?_)
            · replace hf := ifF hf c599
              refine r_iconst X (v := 0) dL_law_625 rfl ?_
              obtain rfl := Option.some.inj hf
              exact l_ret hE hr1 dL_law_626
            · replace hf := ifT hf c599
              refine r_aload_n X (x := k.b + (0)) dL_law_602 rfl ?_
              refine r_iconst X (v := 5) dL_law_603 rfl ?_
              obtain ⟨u604, h604, hf⟩ := bdS hf
              refine r_callV1 X [.int 5] [] (K9_count h604) lkL_78 clsX9 rfl _ o_main (by decide) (Nat.le_of_ble_eq_true rfl) rfl rfl (Nat.le_of_ble_eq_true rfl) rfl rfl NC_le NS_le dL_law_604 ?_
              refine r_aload_n X (x := k.b + (0)) dL_law_607 rfl ?_
              refine r_bipush X (v := 6) dL_law_608 rfl ?_
              obtain ⟨u610, h610, hf⟩ := bdS hf
              refine r_callV1 X [.int 6] [.int u604] (K9_count h610) lkL_78 clsX9 rfl _ o_main (by decide) (Nat.le_of_ble_eq_true rfl) rfl rfl (Nat.le_of_ble_eq_true rfl) rfl rfl NC_le NS_le dL_law_610 ?_
              refine r_iadd X dL_law_613 ?_
              refine r_iload X (x := u167) dL_law_614 rfl ?_
              refine r_iload X (x := u175) dL_law_616 rfl ?_
              refine r_iadd X dL_law_618 ?_
              refine r_iload X (x := u553.1) dL_law_619 rfl ?_
              refine r_iadd X dL_law_621 ?_
              refine r_icmp_eq X 1017 dL_law_622 rfl (fun c622 => ?_) (fun c622 => ?_)
              · replace hf := ifT hf c622
                refine VW.msk [true, true, true, true, true, true, true, false, true, false, true, true, true, true, true, true, true, true, false, true, false, false] rfl (lo' := [some (.ref b0), some (.ref (k.b + (0))), some (.int x2), some (.int x3), some (.int u97), some (.int (((iushrF u97 4) &&& 3) - ((iushrF u97 4) &&& 3) / 3 * 3)), some (.int ((iushrF u97 6) &&& 3)), none, some (.int (((iushrF u97 9) &&& 7) - ((iushrF u97 9) &&& 7) / 5 * 5)), none, some (.int u153.1), some (.int u160), some (.int u167), some (.int u175), some (.int u184), some (.int u193), some (.int u563.1), some (.long u201), none, some (.int 1), none, none]) rfl ?_
                exact B_law_B1017 X hX hbl hbA hE hr1 (f_law_B89 len xs (ly (0 : Fin 2)) fu) ih hn u153.2 u563.2.1 u563.2.2 x2 x3 u97 (((iushrF u97 4) &&& 3) - ((iushrF u97 4) &&& 3) / 3 * 3) ((iushrF u97 6) &&& 3) (((iushrF u97 9) &&& 7) - ((iushrF u97 9) &&& 7) / 5 * 5) u153.1 u160 u167 u175 u184 u193 u563.1 u201 1 hf
              · replace hf := ifF hf c622
                refine r_iconst X (v := 0) dL_law_625 rfl ?_
                obtain rfl := Option.some.inj hf
                exact l_ret hE hr1 dL_law_626
      replace hf := ifF hf c214_9
      by_cases c214_10 : (u97 &&& 15) = 10
      · replace hf := ifT hf c214_10
        refine r_tswIn X (off := 413) 627 dL_law_214 (by rw [c214_10]; decide) (by rw [c214_10]; decide) (by rw [c214_10]; rfl) rfl ?_
        refine r_aload_n X (x := k.b + (0)) dL_law_627 rfl ?_
        refine r_iload X (x := ((iushrF u97 9) &&& 7) - ((iushrF u97 9) &&& 7) / 5 * 5) dL_law_628 rfl ?_
        obtain ⟨u630, h630, hf⟩ := bdS hf
        refine r_callV1 X [.int (((iushrF u97 9) &&& 7) - ((iushrF u97 9) &&& 7) / 5 * 5)] [] (K9_seal h630) lkL_137 clsX9 rfl _ o_main (by decide) (Nat.le_of_ble_eq_true rfl) rfl rfl (Nat.le_of_ble_eq_true rfl) rfl rfl NC_le NS_le dL_law_630 ?_
        refine r_istore X [some (.ref b0), some (.ref (k.b + (0))), some (.int x2), some (.int x3), some (.int u97), some (.int (((iushrF u97 4) &&& 3) - ((iushrF u97 4) &&& 3) / 3 * 3)), some (.int ((iushrF u97 6) &&& 3)), some (.int ((iushrF u97 8) &&& 1)), some (.int (((iushrF u97 9) &&& 7) - ((iushrF u97 9) &&& 7) / 5 * 5)), some (.int ((iushrF u97 12) &&& 63)), some (.int u153.1), some (.int u160), some (.int u167), some (.int u175), some (.int u184), some (.int u193), some (.int u630.1), some (.long u201), none, some (.int 1), none, none] dL_law_633 (Nat.le_of_ble_eq_true rfl) rfl ?_
        refine r_iload X (x := u630.1) dL_law_635 rfl ?_
        refine r_iload X (x := u184) dL_law_637 rfl ?_
        refine r_icmp_ne X 652 dL_law_639 rfl (fun c639 => ?_) (fun c639 => ?_)
        · replace hf := ifF hf c639
          refine r_iconst X (v := 0) dL_law_652 rfl ?_
          obtain rfl := Option.some.inj hf
          exact l_ret hE hr1 dL_law_653
        · replace hf := ifT hf c639
          refine r_aload_n X (x := k.b + (0)) dL_law_642 rfl ?_
          refine r_iload X (x := ((iushrF u97 9) &&& 7) - ((iushrF u97 9) &&& 7) / 5 * 5) dL_law_643 rfl ?_
          refine r_iconst X (v := 1) dL_law_645 rfl ?_
          obtain ⟨u646, h646, hf⟩ := bdS hf
          refine r_callV1 X [.int (((iushrF u97 9) &&& 7) - ((iushrF u97 9) &&& 7) / 5 * 5), .int 1] [] (K9_flange h646) lkL_81 clsX9 rfl _ o_main (by decide) (Nat.le_of_ble_eq_true rfl) rfl rfl (Nat.le_of_ble_eq_true rfl) rfl rfl NC_le NS_le dL_law_646 ?_
          refine r_if_eq X 1017 dL_law_649 rfl (fun c649 => ?_) (fun c649 => ?_)
          · replace hf := ifT hf c649
            refine VW.msk [true, true, true, true, true, true, true, false, true, false, true, true, true, true, true, true, true, true, false, true, false, false] rfl (lo' := [some (.ref b0), some (.ref (k.b + (0))), some (.int x2), some (.int x3), some (.int u97), some (.int (((iushrF u97 4) &&& 3) - ((iushrF u97 4) &&& 3) / 3 * 3)), some (.int ((iushrF u97 6) &&& 3)), none, some (.int (((iushrF u97 9) &&& 7) - ((iushrF u97 9) &&& 7) / 5 * 5)), none, some (.int u153.1), some (.int u160), some (.int u167), some (.int u175), some (.int u184), some (.int u193), some (.int u630.1), some (.long u201), none, some (.int 1), none, none]) rfl ?_
            exact B_law_B1017 X hX hbl hbA hE hr1 (f_law_B89 len xs (ly (0 : Fin 2)) fu) ih hn u153.2 u630.2.1 u630.2.2 x2 x3 u97 (((iushrF u97 4) &&& 3) - ((iushrF u97 4) &&& 3) / 3 * 3) ((iushrF u97 6) &&& 3) (((iushrF u97 9) &&& 7) - ((iushrF u97 9) &&& 7) / 5 * 5) u153.1 u160 u167 u175 u184 u193 u630.1 u201 1 hf
          · replace hf := ifF hf c649
            refine r_iconst X (v := 0) dL_law_652 rfl ?_
            obtain rfl := Option.some.inj hf
            exact l_ret hE hr1 dL_law_653
      replace hf := ifF hf c214_10
      by_cases c214_11 : (u97 &&& 15) = 11
      · replace hf := ifT hf c214_11
        refine r_tswIn X (off := 440) 654 dL_law_214 (by rw [c214_11]; decide) (by rw [c214_11]; decide) (by rw [c214_11]; rfl) rfl ?_
        refine r_aload_n X (x := k.b + (0)) dL_law_654 rfl ?_
        refine r_iload X (x := ((iushrF u97 9) &&& 7) - ((iushrF u97 9) &&& 7) / 5 * 5) dL_law_655 rfl ?_
        refine r_iload X (x := (iushrF u97 12) &&& 63) dL_law_657 rfl ?_
        obtain ⟨u659, h659, hf⟩ := bdS hf
        refine r_callV1 X [.int (((iushrF u97 9) &&& 7) - ((iushrF u97 9) &&& 7) / 5 * 5), .int ((iushrF u97 12) &&& 63)] [] (K9_setLeak h659) lkL_140 clsX9 rfl _ o_main (by decide) (Nat.le_of_ble_eq_true rfl) rfl rfl (Nat.le_of_ble_eq_true rfl) rfl rfl NC_le NS_le dL_law_659 ?_
        refine r_istore X [some (.ref b0), some (.ref (k.b + (0))), some (.int x2), some (.int x3), some (.int u97), some (.int (((iushrF u97 4) &&& 3) - ((iushrF u97 4) &&& 3) / 3 * 3)), some (.int ((iushrF u97 6) &&& 3)), some (.int ((iushrF u97 8) &&& 1)), some (.int (((iushrF u97 9) &&& 7) - ((iushrF u97 9) &&& 7) / 5 * 5)), some (.int ((iushrF u97 12) &&& 63)), some (.int u153.1), some (.int u160), some (.int u167), some (.int u175), some (.int u184), some (.int u193), some (.int u659.1), some (.long u201), none, some (.int 1), none, none] dL_law_662 (Nat.le_of_ble_eq_true rfl) rfl ?_
        refine r_iload X (x := u659.1) dL_law_664 rfl ?_
        refine r_iload X (x := u184) dL_law_666 rfl ?_
        refine r_icmp_ne X 683 dL_law_668 rfl (fun c668 => ?_) (fun c668 => ?_)
        · replace hf := ifF hf c668
          refine r_iconst X (v := 0) dL_law_683 rfl ?_
          obtain rfl := Option.some.inj hf
          exact l_ret hE hr1 dL_law_684
        · replace hf := ifT hf c668
          refine r_aload_n X (x := k.b + (0)) dL_law_671 rfl ?_
          refine r_iload X (x := ((iushrF u97 9) &&& 7) - ((iushrF u97 9) &&& 7) / 5 * 5) dL_law_672 rfl ?_
          refine r_iconst X (v := 1) dL_law_674 rfl ?_
          obtain ⟨u675, h675, hf⟩ := bdS hf
          refine r_callV1 X [.int (((iushrF u97 9) &&& 7) - ((iushrF u97 9) &&& 7) / 5 * 5), .int 1] [] (K9_flange h675) lkL_81 clsX9 rfl _ o_main (by decide) (Nat.le_of_ble_eq_true rfl) rfl rfl (Nat.le_of_ble_eq_true rfl) rfl rfl NC_le NS_le dL_law_675 ?_
          refine r_iload X (x := (iushrF u97 12) &&& 63) dL_law_678 rfl ?_
          refine r_icmp_eq X 1017 dL_law_680 rfl (fun c680 => ?_) (fun c680 => ?_)
          · replace hf := ifT hf c680
            refine VW.msk [true, true, true, true, true, true, true, false, true, false, true, true, true, true, true, true, true, true, false, true, false, false] rfl (lo' := [some (.ref b0), some (.ref (k.b + (0))), some (.int x2), some (.int x3), some (.int u97), some (.int (((iushrF u97 4) &&& 3) - ((iushrF u97 4) &&& 3) / 3 * 3)), some (.int ((iushrF u97 6) &&& 3)), none, some (.int (((iushrF u97 9) &&& 7) - ((iushrF u97 9) &&& 7) / 5 * 5)), none, some (.int u153.1), some (.int u160), some (.int u167), some (.int u175), some (.int u184), some (.int u193), some (.int u659.1), some (.long u201), none, some (.int 1), none, none]) rfl ?_
            exact B_law_B1017 X hX hbl hbA hE hr1 (f_law_B89 len xs (ly (0 : Fin 2)) fu) ih hn u153.2 u659.2.1 u659.2.2 x2 x3 u97 (((iushrF u97 4) &&& 3) - ((iushrF u97 4) &&& 3) / 3 * 3) ((iushrF u97 6) &&& 3) (((iushrF u97 9) &&& 7) - ((iushrF u97 9) &&& 7) / 5 * 5) u153.1 u160 u167 u175 u184 u193 u659.1 u201 1 hf
          · replace hf := ifF hf c680
            refine r_iconst X (v := 0) dL_law_683 rfl ?_
            obtain rfl := Option.some.inj hf
            exact l_ret hE hr1 dL_law_684
      replace hf := ifF hf c214_11
      by_cases c214_12 : (u97 &&& 15) = 12
      · replace hf := ifT hf c214_12
        refine r_tswIn X (off := 471) 685 dL_law_214 (by rw [c214_12]; decide) (by rw [c214_12]; decide) (by rw [c214_12]; rfl) rfl ?_
        refine r_aload_n X (x := k.b + (0)) dL_law_685 rfl ?_
        refine r_iload X (x := (iushrF u97 6) &&& 3) dL_law_686 rfl ?_
        refine r_sipush X (v := 10000) dL_law_688 rfl ?_
        refine r_iload X (x := (iushrF u97 12) &&& 63) dL_law_691 rfl ?_
        refine r_imul X dL_law_693 ?_
        obtain ⟨u694, h694, hf⟩ := bdS hf
        refine r_callV1 X [.int ((iushrF u97 6) &&& 3), .int (10000 * ((iushrF u97 12) &&& 63))] [] (K9_setRule h694) lkL_143 clsX9 rfl _ o_main (by decide) (Nat.le_of_ble_eq_true rfl) rfl rfl (Nat.le_of_ble_eq_true rfl) rfl rfl NC_le NS_le dL_law_694 ?_
        refine r_istore X [some (.ref b0), some (.ref (k.b + (0))), some (.int x2), some (.int x3), some (.int u97), some (.int (((iushrF u97 4) &&& 3) - ((iushrF u97 4) &&& 3) / 3 * 3)), some (.int ((iushrF u97 6) &&& 3)), some (.int ((iushrF u97 8) &&& 1)), some (.int (((iushrF u97 9) &&& 7) - ((iushrF u97 9) &&& 7) / 5 * 5)), some (.int ((iushrF u97 12) &&& 63)), some (.int u153.1), some (.int u160), some (.int u167), some (.int u175), some (.int u184), some (.int u193), some (.int u694.1), some (.long u201), none, some (.int 1), none, none] dL_law_697 (Nat.le_of_ble_eq_true rfl) rfl ?_
        refine r_iload X (x := u694.1) dL_law_699 rfl ?_
        refine r_iload X (x := u193) dL_law_701 rfl ?_
        refine r_icmp_ne X 722 dL_law_703 rfl (fun c703 => ?_) (fun c703 => ?_)
        · replace hf := ifF hf c703
          refine r_iconst X (v := 0) dL_law_722 rfl ?_
          obtain rfl := Option.some.inj hf
          exact l_ret hE hr1 dL_law_723
        · replace hf := ifT hf c703
          refine r_aload_n X (x := k.b + (0)) dL_law_706 rfl ?_
          refine r_iload X (x := (iushrF u97 6) &&& 3) dL_law_707 rfl ?_
          refine r_iconst X (v := 3) dL_law_709 rfl ?_
          obtain ⟨u710, h710, hf⟩ := bdS hf
          refine r_callV1 X [.int ((iushrF u97 6) &&& 3), .int 3] [] (K9_valve h710) lkL_87 clsX9 rfl _ o_main (by decide) (Nat.le_of_ble_eq_true rfl) rfl rfl (Nat.le_of_ble_eq_true rfl) rfl rfl NC_le NS_le dL_law_710 ?_
          refine r_sipush X (v := 10000) dL_law_713 rfl ?_
          refine r_iload X (x := (iushrF u97 12) &&& 63) dL_law_716 rfl ?_
          refine r_imul X dL_law_718 ?_
          refine r_icmp_eq X 1017 dL_law_719 rfl (fun c719 => ?_) (fun c719 => ?_)
          · replace hf := ifT hf c719
            refine VW.msk [true, true, true, true, true, true, true, false, true, false, true, true, true, true, true, true, true, true, false, true, false, false] rfl (lo' := [some (.ref b0), some (.ref (k.b + (0))), some (.int x2), some (.int x3), some (.int u97), some (.int (((iushrF u97 4) &&& 3) - ((iushrF u97 4) &&& 3) / 3 * 3)), some (.int ((iushrF u97 6) &&& 3)), none, some (.int (((iushrF u97 9) &&& 7) - ((iushrF u97 9) &&& 7) / 5 * 5)), none, some (.int u153.1), some (.int u160), some (.int u167), some (.int u175), some (.int u184), some (.int u193), some (.int u694.1), some (.long u201), none, some (.int 1), none, none]) rfl ?_
            exact B_law_B1017 X hX hbl hbA hE hr1 (f_law_B89 len xs (ly (0 : Fin 2)) fu) ih hn u153.2 u694.2.1 u694.2.2 x2 x3 u97 (((iushrF u97 4) &&& 3) - ((iushrF u97 4) &&& 3) / 3 * 3) ((iushrF u97 6) &&& 3) (((iushrF u97 9) &&& 7) - ((iushrF u97 9) &&& 7) / 5 * 5) u153.1 u160 u167 u175 u184 u193 u694.1 u201 1 hf
          · replace hf := ifF hf c719
            refine r_iconst X (v := 0) dL_law_722 rfl ?_
            obtain rfl := Option.some.inj hf
            exact l_ret hE hr1 dL_law_723
      replace hf := ifF hf c214_12
      by_cases c214_13 : (u97 &&& 15) = 13
      · replace hf := ifT hf c214_13
        refine r_tswIn X (off := 510) 724 dL_law_214 (by rw [c214_13]; decide) (by rw [c214_13]; decide) (by rw [c214_13]; rfl) rfl ?_
        refine r_aload_n X (x := k.b + (0)) dL_law_724 rfl ?_
        refine r_iload X (x := ((iushrF u97 4) &&& 3) - ((iushrF u97 4) &&& 3) / 3 * 3) dL_law_725 rfl ?_
        refine r_iconst X (v := 1) dL_law_727 rfl ?_
        refine r_iload X (x := (iushrF u97 12) &&& 63) dL_law_728 rfl ?_
        refine r_iadd X dL_law_730 ?_
        obtain ⟨u731, h731, hf⟩ := bdS hf
        refine r_callV1 X [.int (((iushrF u97 4) &&& 3) - ((iushrF u97 4) &&& 3) / 3 * 3), .int (1 + ((iushrF u97 12) &&& 63))] [] (K9_lowest h731) lkL_42 clsX9 rfl _ o_main (by decide) (Nat.le_of_ble_eq_true rfl) rfl rfl (Nat.le_of_ble_eq_true rfl) rfl rfl NC_le NS_le dL_law_731 ?_
        refine r_istore X [some (.ref b0), some (.ref (k.b + (0))), some (.int x2), some (.int x3), some (.int u97), some (.int (((iushrF u97 4) &&& 3) - ((iushrF u97 4) &&& 3) / 3 * 3)), some (.int ((iushrF u97 6) &&& 3)), some (.int ((iushrF u97 8) &&& 1)), some (.int (((iushrF u97 9) &&& 7) - ((iushrF u97 9) &&& 7) / 5 * 5)), some (.int ((iushrF u97 12) &&& 63)), some (.int u153.1), some (.int u160), some (.int u167), some (.int u175), some (.int u184), some (.int u193), none, some (.long u201), none, some (.int 1), some (.int u731.1), none] dL_law_734 (Nat.le_of_ble_eq_true rfl) rfl ?_
        refine r_iload X (x := u731.1) dL_law_736 rfl ?_
        refine r_ldc X (v := 1000000) coL_114 dL_law_738 ?_
        suffices K740 : VW k z NC NS (wAll k T R ly rc hn u153.2 tp ee u731.2) 748 [some (.ref b0), some (.ref (k.b + (0))), some (.int x2), some (.int x3), some (.int u97), some (.int (((iushrF u97 4) &&& 3) - ((iushrF u97 4) &&& 3) / 3 * 3)), some (.int ((iushrF u97 6) &&& 3)), some (.int ((iushrF u97 8) &&& 1)), some (.int (((iushrF u97 9) &&& 7) - ((iushrF u97 9) &&& 7) / 5 * 5)), some (.int ((iushrF u97 12) &&& 63)), some (.int u153.1), some (.int u160), some (.int u167), some (.int u175), some (.int u184), some (.int u193), none, some (.long u201), none, some (.int 1), some (.int u731.1), none] [.int (if 1000000 < u731.1 then (0 : Int32) else (1 : Int32))] by
          refine r_icmp_gt X 747 dL_law_740 rfl (fun c740 => ?_) (fun c740 => ?_)
          · refine r_iconst X (v := 0) dL_law_747 rfl ?_
            rw [if_pos c740] at K740
            exact K740
          · refine r_iconst X (v := 1) dL_law_743 rfl ?_
            refine r_goto X 748 dL_law_744 rfl ?_
            rw [if_neg c740] at K740
            exact K740
        refine r_istore X [some (.ref b0), some (.ref (k.b + (0))), some (.int x2), some (.int x3), some (.int u97), some (.int (((iushrF u97 4) &&& 3) - ((iushrF u97 4) &&& 3) / 3 * 3)), some (.int ((iushrF u97 6) &&& 3)), some (.int ((iushrF u97 8) &&& 1)), some (.int (((iushrF u97 9) &&& 7) - ((iushrF u97 9) &&& 7) / 5 * 5)), some (.int ((iushrF u97 12) &&& 63)), some (.int u153.1), some (.int u160), some (.int u167), some (.int u175), some (.int u184), some (.int u193), none, some (.long u201), none, some (.int (if 1000000 < u731.1 then (0 : Int32) else (1 : Int32))), some (.int u731.1), none] dL_law_748 (Nat.le_of_ble_eq_true rfl) rfl ?_
        refine r_iload X (x := (if 1000000 < u731.1 then (0 : Int32) else (1 : Int32))) dL_law_750 rfl ?_
        refine r_if_eq X 766 dL_law_752 rfl (fun c752 => ?_) (fun c752 => ?_)
        · replace hf := ifT hf c752
          refine r_iconst X (v := 0) dL_law_766 rfl ?_
          refine VW.msk [true, true, true, true, true, true, true, false, true, true, true, true, true, true, true, true, false, true, false, true, true, false] rfl (lo' := [some (.ref b0), some (.ref (k.b + (0))), some (.int x2), some (.int x3), some (.int u97), some (.int (((iushrF u97 4) &&& 3) - ((iushrF u97 4) &&& 3) / 3 * 3)), some (.int ((iushrF u97 6) &&& 3)), none, some (.int (((iushrF u97 9) &&& 7) - ((iushrF u97 9) &&& 7) / 5 * 5)), some (.int ((iushrF u97 12) &&& 63)), some (.int u153.1), some (.int u160), some (.int u167), some (.int u175), some (.int u184), some (.int u193), none, some (.long u201), none, some (.int (if 1000000 < u731.1 then (0 : Int32) else (1 : Int32))), some (.int u731.1), none]) rfl ?_
          exact B_law_B767 X hX hbl hbA hE hr1 (f_law_B89 len xs (ly (0 : Fin 2)) fu) ih hn u153.2 tp u731.2 x2 x3 u97 (((iushrF u97 4) &&& 3) - ((iushrF u97 4) &&& 3) / 3 * 3) ((iushrF u97 6) &&& 3) (((iushrF u97 9) &&& 7) - ((iushrF u97 9) &&& 7) / 5 * 5) ((iushrF u97 12) &&& 63) u153.1 u160 u167 u175 u184 u193 u201 (if 1000000 < u731.1 then (0 : Int32) else (1 : Int32)) u731.1 0 hf
        · replace hf := ifF hf c752
          refine r_aload_n X (x := k.b + (0)) dL_law_755 rfl ?_
          refine r_iload X (x := ((iushrF u97 4) &&& 3) - ((iushrF u97 4) &&& 3) / 3 * 3) dL_law_756 rfl ?_
          refine r_iload X (x := u731.1) dL_law_758 rfl ?_
          obtain ⟨u760, h760, hf⟩ := bdS hf
          refine r_callV1 X [.int (((iushrF u97 4) &&& 3) - ((iushrF u97 4) &&& 3) / 3 * 3), .int u731.1] [] (K9_ticksTo h760) lkL_146 clsX9 rfl _ o_main (by decide) (Nat.le_of_ble_eq_true rfl) rfl rfl (Nat.le_of_ble_eq_true rfl) rfl rfl NC_le NS_le dL_law_760 ?_
          refine r_goto X 767 dL_law_763 rfl ?_
          refine VW.msk [true, true, true, true, true, true, true, false, true, true, true, true, true, true, true, true, false, true, false, true, true, false] rfl (lo' := [some (.ref b0), some (.ref (k.b + (0))), some (.int x2), some (.int x3), some (.int u97), some (.int (((iushrF u97 4) &&& 3) - ((iushrF u97 4) &&& 3) / 3 * 3)), some (.int ((iushrF u97 6) &&& 3)), none, some (.int (((iushrF u97 9) &&& 7) - ((iushrF u97 9) &&& 7) / 5 * 5)), some (.int ((iushrF u97 12) &&& 63)), some (.int u153.1), some (.int u160), some (.int u167), some (.int u175), some (.int u184), some (.int u193), none, some (.long u201), none, some (.int (if 1000000 < u731.1 then (0 : Int32) else (1 : Int32))), some (.int u731.1), none]) rfl ?_
          exact B_law_B767 X hX hbl hbA hE hr1 (f_law_B89 len xs (ly (0 : Fin 2)) fu) ih hn u153.2 tp u760.2 x2 x3 u97 (((iushrF u97 4) &&& 3) - ((iushrF u97 4) &&& 3) / 3 * 3) ((iushrF u97 6) &&& 3) (((iushrF u97 9) &&& 7) - ((iushrF u97 9) &&& 7) / 5 * 5) ((iushrF u97 12) &&& 63) u153.1 u160 u167 u175 u184 u193 u201 (if 1000000 < u731.1 then (0 : Int32) else (1 : Int32)) u731.1 u760.1 hf
      replace hf := ifF hf c214_13
      refine r_tswOut X 836 dL_law_214 (tsw_out (fun v hv1 hv2 => by
        rcases (show v = 0 ∨ v = 1 ∨ v = 2 ∨ v = 3 ∨ v = 4 ∨ v = 5 ∨ v = 6 ∨ v = 7 ∨ v = 8 ∨ v = 9 ∨ v = 10 ∨ v = 11 ∨ v = 12 ∨ v = 13 by omega) with rfl | rfl | rfl | rfl | rfl | rfl | rfl | rfl | rfl | rfl | rfl | rfl | rfl | rfl
        · exact c214_0
        · exact c214_1
        · exact c214_2
        · exact c214_3
        · exact c214_4
        · exact c214_5
        · exact c214_6
        · exact c214_7
        · exact c214_8
        · exact c214_9
        · exact c214_10
        · exact c214_11
        · exact c214_12
        · exact c214_13
        )) rfl ?_
      refine r_aload_n X (x := k.b + (0)) dL_law_836 rfl ?_
      refine r_iload X (x := ((iushrF u97 4) &&& 3) - ((iushrF u97 4) &&& 3) / 3 * 3) dL_law_837 rfl ?_
      obtain ⟨u839, h839, hf⟩ := bdS hf
      refine r_callV1 X [.int (((iushrF u97 4) &&& 3) - ((iushrF u97 4) &&& 3) / 3 * 3)] [] (K9_isIsolated h839) lkL_38 clsX9 rfl _ o_main (by decide) (Nat.le_of_ble_eq_true rfl) rfl rfl (Nat.le_of_ble_eq_true rfl) rfl rfl NC_le NS_le dL_law_839 ?_
      refine r_istore X [some (.ref b0), some (.ref (k.b + (0))), some (.int x2), some (.int x3), some (.int u97), some (.int (((iushrF u97 4) &&& 3) - ((iushrF u97 4) &&& 3) / 3 * 3)), some (.int ((iushrF u97 6) &&& 3)), some (.int ((iushrF u97 8) &&& 1)), some (.int (((iushrF u97 9) &&& 7) - ((iushrF u97 9) &&& 7) / 5 * 5)), some (.int ((iushrF u97 12) &&& 63)), some (.int u153.1), some (.int u160), some (.int u167), some (.int u175), some (.int u184), some (.int u193), none, some (.long u201), none, some (.int u839), none, none] dL_law_842 (Nat.le_of_ble_eq_true rfl) rfl ?_
      refine r_aload_n X (x := k.b + (0)) dL_law_844 rfl ?_
      refine r_bipush X (v := 7) dL_law_845 rfl ?_
      obtain ⟨u847, h847, hf⟩ := bdS hf
      refine r_callV1 X [.int 7] [] (K9_count h847) lkL_78 clsX9 rfl _ o_main (by decide) (Nat.le_of_ble_eq_true rfl) rfl rfl (Nat.le_of_ble_eq_true rfl) rfl rfl NC_le NS_le dL_law_847 ?_
      refine r_istore X [some (.ref b0), some (.ref (k.b + (0))), some (.int x2), some (.int x3), some (.int u97), some (.int (((iushrF u97 4) &&& 3) - ((iushrF u97 4) &&& 3) / 3 * 3)), some (.int ((iushrF u97 6) &&& 3)), some (.int ((iushrF u97 8) &&& 1)), some (.int (((iushrF u97 9) &&& 7) - ((iushrF u97 9) &&& 7) / 5 * 5)), some (.int ((iushrF u97 12) &&& 63)), some (.int u153.1), some (.int u160), some (.int u167), some (.int u175), some (.int u184), some (.int u193), none, some (.long u201), none, some (.int u839), some (.int u847), none] dL_law_850 (Nat.le_of_ble_eq_true rfl) rfl ?_
      refine r_iload X (x := u839) dL_law_852 rfl ?_
      refine r_if_eq X 872 dL_law_854 rfl (fun c854 => ?_) (fun c854 => ?_)
      · replace hf := ifT hf c854
        refine r_iconst X (v := 0) dL_law_872 rfl ?_
        refine VW.msk [true, true, true, true, true, true, true, false, true, true, true, true, true, true, true, true, false, true, false, true, true, false] rfl (lo' := [some (.ref b0), some (.ref (k.b + (0))), some (.int x2), some (.int x3), some (.int u97), some (.int (((iushrF u97 4) &&& 3) - ((iushrF u97 4) &&& 3) / 3 * 3)), some (.int ((iushrF u97 6) &&& 3)), none, some (.int (((iushrF u97 9) &&& 7) - ((iushrF u97 9) &&& 7) / 5 * 5)), some (.int ((iushrF u97 12) &&& 63)), some (.int u153.1), some (.int u160), some (.int u167), some (.int u175), some (.int u184), some (.int u193), none, some (.long u201), none, some (.int u839), some (.int u847), none]) rfl ?_
        exact B_law_B873 X hX hbl hbA hE hr1 (f_law_B89 len xs (ly (0 : Fin 2)) fu) ih hn u153.2 tp st x2 x3 u97 (((iushrF u97 4) &&& 3) - ((iushrF u97 4) &&& 3) / 3 * 3) ((iushrF u97 6) &&& 3) (((iushrF u97 9) &&& 7) - ((iushrF u97 9) &&& 7) / 5 * 5) ((iushrF u97 12) &&& 63) u153.1 u160 u167 u175 u184 u193 u201 u839 u847 0 hf
      · replace hf := ifF hf c854
        refine r_aload_n X (x := k.b + (0)) dL_law_857 rfl ?_
        refine r_iload X (x := ((iushrF u97 4) &&& 3) - ((iushrF u97 4) &&& 3) / 3 * 3) dL_law_858 rfl ?_
        refine r_iconst X (v := 2) dL_law_860 rfl ?_
        refine r_iconst X (v := 2) dL_law_861 rfl ?_
        refine r_iload X (x := (iushrF u97 12) &&& 63) dL_law_862 rfl ?_
        refine r_imul X dL_law_864 ?_
        refine r_iadd X dL_law_865 ?_
        obtain ⟨u866, h866, hf⟩ := bdS hf
        refine r_callV1 X [.int (((iushrF u97 4) &&& 3) - ((iushrF u97 4) &&& 3) / 3 * 3), .int (2 + (2 * ((iushrF u97 12) &&& 63)))] [] (K9_test h866) lkL_152 clsX9 rfl _ o_main (by decide) (Nat.le_of_ble_eq_true rfl) rfl rfl (Nat.le_of_ble_eq_true rfl) rfl rfl NC_le NS_le dL_law_866 ?_
        refine r_goto X 873 dL_law_869 rfl ?_
        refine VW.msk [true, true, true, true, true, true, true, false, true, true, true, true, true, true, true, true, false, true, false, true, true, false] rfl (lo' := [some (.ref b0), some (.ref (k.b + (0))), some (.int x2), some (.int x3), some (.int u97), some (.int (((iushrF u97 4) &&& 3) - ((iushrF u97 4) &&& 3) / 3 * 3)), some (.int ((iushrF u97 6) &&& 3)), none, some (.int (((iushrF u97 9) &&& 7) - ((iushrF u97 9) &&& 7) / 5 * 5)), some (.int ((iushrF u97 12) &&& 63)), some (.int u153.1), some (.int u160), some (.int u167), some (.int u175), some (.int u184), some (.int u193), none, some (.long u201), none, some (.int u839), some (.int u847), none]) rfl ?_
        exact B_law_B873 X hX hbl hbA hE hr1 (f_law_B89 len xs (ly (0 : Fin 2)) fu) ih hn u153.2 u866.2.1 u866.2.2 x2 x3 u97 (((iushrF u97 4) &&& 3) - ((iushrF u97 4) &&& 3) / 3 * 3) ((iushrF u97 6) &&& 3) (((iushrF u97 9) &&& 7) - ((iushrF u97 9) &&& 7) / 5 * 5) ((iushrF u97 12) &&& 63) u153.1 u160 u167 u175 u184 u193 u201 u839 u847 u866.1 hf
