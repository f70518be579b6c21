/-! the words, by their places -/
theorem gt0 {w : Cond} (i : Nat) (h : (k2_sels lw_privs)[i]? = some w) : w ∈ lw_tbl := List.mem_append_left _ (List.mem_of_getElem? h)
theorem gb0 {w : Cond} (i : Nat) (h : (k2_sels lw_privs)[i]? = some w) (g : goodWord w = true) : w ∈ bigw := List.mem_filter.mpr ⟨gt0 i h, g⟩
theorem gt1 {w : Cond} (i : Nat) (h : (tables_1_1)[i]? = some w) : w ∈ lw_tbl := List.mem_append_right _ (List.mem_append_left _ (List.mem_of_getElem? h))
theorem gb1 {w : Cond} (i : Nat) (h : (tables_1_1)[i]? = some w) (g : goodWord w = true) : w ∈ bigw := List.mem_filter.mpr ⟨gt1 i h, g⟩
theorem gt2 {w : Cond} (i : Nat) (h : (tables_1_2)[i]? = some w) : w ∈ lw_tbl := List.mem_append_right _ (List.mem_append_right _ (List.mem_append_left _ (List.mem_of_getElem? h)))
theorem gb2 {w : Cond} (i : Nat) (h : (tables_1_2)[i]? = some w) (g : goodWord w = true) : w ∈ bigw := List.mem_filter.mpr ⟨gt2 i h, g⟩
theorem gt3 {w : Cond} (i : Nat) (h : (tables_1_3)[i]? = some w) : w ∈ lw_tbl := List.mem_append_right _ (List.mem_append_right _ (List.mem_append_right _ (List.mem_append_left _ (List.mem_of_getElem? h))))
theorem gb3 {w : Cond} (i : Nat) (h : (tables_1_3)[i]? = some w) (g : goodWord w = true) : w ∈ bigw := List.mem_filter.mpr ⟨gt3 i h, g⟩
theorem gt4 {w : Cond} (i : Nat) (h : (tables_1_4)[i]? = some w) : w ∈ lw_tbl := List.mem_append_right _ (List.mem_append_right _ (List.mem_append_right _ (List.mem_append_right _ (List.mem_append_left _ (List.mem_of_getElem? h)))))
theorem gb4 {w : Cond} (i : Nat) (h : (tables_1_4)[i]? = some w) (g : goodWord w = true) : w ∈ bigw := List.mem_filter.mpr ⟨gt4 i h, g⟩
theorem gt5 {w : Cond} (i : Nat) (h : (tables_1_5)[i]? = some w) : w ∈ lw_tbl := List.mem_append_right _ (List.mem_append_right _ (List.mem_append_right _ (List.mem_append_right _ (List.mem_append_right _ (List.mem_of_getElem? h)))))
theorem gb5 {w : Cond} (i : Nat) (h : (tables_1_5)[i]? = some w) (g : goodWord w = true) : w ∈ bigw := List.mem_filter.mpr ⟨gt5 i h, g⟩
theorem in_r (ws : List Cond) (ps : List Nat) (hp : ws = ps.filterMap (fun i => lw_tbl[i]?)) (h : ws.all goodWord = true) : ∀ w ∈ ws, w ∈ bigw := by
  intro w hw
  refine List.mem_filter.mpr ⟨?_, List.all_eq_true.mp h w hw⟩
  rw [hp] at hw
  obtain ⟨i, -, hi⟩ := List.mem_filterMap.mp hw
  exact List.mem_of_getElem? hi
theorem clsX0 : CLS 0 RX0 TX0 6 tyX0 := ⟨rfl, in_r _ [260, 262, 264, 266, 268, 270] (by decide +kernel) (by decide +kernel), tyX0_ok, nmX0⟩
theorem clsX1 : CLS 1 RX1 TX1 19 tyX1 := ⟨rfl, in_r _ [171, 173, 175, 177, 179, 181, 183, 185, 187, 189, 191, 193, 195, 197, 199, 201, 203, 205, 207] (by decide +kernel) (by decide +kernel), tyX1_ok, nmX1⟩
theorem clsX2 : CLS 2 RX2 TX2 7 tyX2 := ⟨rfl, in_r _ [90, 92, 94, 96, 98, 100, 102] (by decide +kernel) (by decide +kernel), tyX2_ok, nmX2⟩
theorem clsX3 : CLS 3 RX3 TX3 4 tyX3 := ⟨rfl, in_r _ [237, 239, 241, 243] (by decide +kernel) (by decide +kernel), tyX3_ok, nmX3⟩
theorem clsX4 : CLS 4 RX4 TX4 2 tyX4 := ⟨rfl, in_r _ [282, 284] (by decide +kernel) (by decide +kernel), tyX4_ok, nmX4⟩
theorem clsX5 : CLS 5 RX5 TX5 13 tyX5 := ⟨rfl, in_r _ [344, 346, 348, 350, 352, 354, 356, 358, 360, 362, 364, 366, 368] (by decide +kernel) (by decide +kernel), tyX5_ok, nmX5⟩
theorem clsX6 : CLS 6 RX6 TX6 2 tyX6 := ⟨rfl, in_r _ [222, 224] (by decide +kernel) (by decide +kernel), tyX6_ok, nmX6⟩
theorem clsX7 : CLS 7 RX7 TX7 4 tyX7 := ⟨rfl, in_r _ [306, 308, 310, 312] (by decide +kernel) (by decide +kernel), tyX7_ok, nmX7⟩
theorem clsX8 : CLS 8 RX8 TX8 2 tyX8 := ⟨rfl, in_r _ [66, 68] (by decide +kernel) (by decide +kernel), tyX8_ok, nmX8⟩
theorem clsX9 : CLS 9 RX9 TX9 14 tyX9 := ⟨rfl, in_r _ [385, 387, 389, 391, 393, 395, 397, 399, 401, 403, 405, 407, 409, 411] (by decide +kernel) (by decide +kernel), tyX9_ok, nmX9⟩
theorem flX8_9 : FL RX8 9 TX8 0 := (gb1 39 (by decide +kernel) (by decide +kernel))
theorem flX8_15 : FL RX8 15 TX8 1 := (gb1 40 (by decide +kernel) (by decide +kernel))
theorem flX9_93 : FL RX9 93 TX8 1 := (gb1 41 (by decide +kernel) (by decide +kernel))
theorem flX2_37 : FL RX2 37 TX8 1 := (gb1 42 (by decide +kernel) (by decide +kernel))
theorem flX2_30 : FL RX2 30 TX2 0 := (gb1 55 (by decide +kernel) (by decide +kernel))
theorem flX2_11 : FL RX2 11 TX2 1 := (gb1 56 (by decide +kernel) (by decide +kernel))
theorem flX6_30 : FL RX6 30 TX2 1 := (gb1 57 (by decide +kernel) (by decide +kernel))
theorem flX2_15 : FL RX2 15 TX2 2 := (gb1 58 (by decide +kernel) (by decide +kernel))
theorem flX6_44 : FL RX6 44 TX2 2 := (gb1 59 (by decide +kernel) (by decide +kernel))
theorem flX2_18 : FL RX2 18 TX2 3 := (gb1 60 (by decide +kernel) (by decide +kernel))
theorem flX2_21 : FL RX2 21 TX2 4 := (gb1 61 (by decide +kernel) (by decide +kernel))
theorem flX2_24 : FL RX2 24 TX2 5 := (gb1 62 (by decide +kernel) (by decide +kernel))
theorem flX6_34 : FL RX6 34 TX2 5 := (gb1 63 (by decide +kernel) (by decide +kernel))
theorem flX9_110 : FL RX9 110 TX2 5 := (gb1 64 (by decide +kernel) (by decide +kernel))
theorem flX2_27 : FL RX2 27 TX2 6 := (gb1 65 (by decide +kernel) (by decide +kernel))
theorem flX9_113 : FL RX9 113 TX2 6 := (gb1 66 (by decide +kernel) (by decide +kernel))
theorem flX1_9 : FL RX1 9 TX1 0 := (gb1 88 (by decide +kernel) (by decide +kernel))
theorem flX5_62 : FL RX5 62 TX1 0 := (gb1 89 (by decide +kernel) (by decide +kernel))
theorem flX6_41 : FL RX6 41 TX1 0 := (gb1 90 (by decide +kernel) (by decide +kernel))
theorem flX9_125 : FL RX9 125 TX1 0 := (gb1 91 (by decide +kernel) (by decide +kernel))
theorem flX1_15 : FL RX1 15 TX1 1 := (gb1 92 (by decide +kernel) (by decide +kernel))
theorem flX5_79 : FL RX5 79 TX1 1 := (gb1 93 (by decide +kernel) (by decide +kernel))
theorem flX6_82 : FL RX6 82 TX1 1 := (gb1 94 (by decide +kernel) (by decide +kernel))
theorem flX9_220 : FL RX9 220 TX1 1 := (gb1 95 (by decide +kernel) (by decide +kernel))
theorem flX1_18 : FL RX1 18 TX1 2 := (gb1 96 (by decide +kernel) (by decide +kernel))
theorem flX5_82 : FL RX5 82 TX1 2 := (gb1 97 (by decide +kernel) (by decide +kernel))
theorem flX6_85 : FL RX6 85 TX1 2 := (gb1 98 (by decide +kernel) (by decide +kernel))
theorem flX9_223 : FL RX9 223 TX1 2 := (gb1 99 (by decide +kernel) (by decide +kernel))
theorem flX1_21 : FL RX1 21 TX1 3 := (gb1 100 (by decide +kernel) (by decide +kernel))
theorem flX5_88 : FL RX5 88 TX1 3 := (gb1 101 (by decide +kernel) (by decide +kernel))
theorem flX0_52 : FL RX0 52 TX1 3 := (gb1 102 (by decide +kernel) (by decide +kernel))
theorem flX6_88 : FL RX6 88 TX1 3 := (gb1 103 (by decide +kernel) (by decide +kernel))
theorem flX9_226 : FL RX9 226 TX1 3 := (gb1 104 (by decide +kernel) (by decide +kernel))
theorem flX1_24 : FL RX1 24 TX1 4 := (gb1 105 (by decide +kernel) (by decide +kernel))
theorem flX5_67 : FL RX5 67 TX1 4 := (gb1 106 (by decide +kernel) (by decide +kernel))
theorem flX9_251 : FL RX9 251 TX1 4 := (gb1 107 (by decide +kernel) (by decide +kernel))
theorem flX1_28 : FL RX1 28 TX1 5 := (gb1 108 (by decide +kernel) (by decide +kernel))
theorem flX5_76 : FL RX5 76 TX1 5 := (gb1 109 (by decide +kernel) (by decide +kernel))
theorem flX1_31 : FL RX1 31 TX1 6 := (gb1 110 (by decide +kernel) (by decide +kernel))
theorem flX9_254 : FL RX9 254 TX1 6 := (gb1 111 (by decide +kernel) (by decide +kernel))
theorem flX5_184 : FL RX5 184 TX1 6 := (gb1 112 (by decide +kernel) (by decide +kernel))
theorem flX1_34 : FL RX1 34 TX1 7 := (gb1 113 (by decide +kernel) (by decide +kernel))
theorem flX9_170 : FL RX9 170 TX1 7 := (gb1 114 (by decide +kernel) (by decide +kernel))
theorem flX5_136 : FL RX5 136 TX1 7 := (gb1 115 (by decide +kernel) (by decide +kernel))
theorem flX1_37 : FL RX1 37 TX1 8 := (gb1 116 (by decide +kernel) (by decide +kernel))
theorem flX5_142 : FL RX5 142 TX1 8 := (gb1 117 (by decide +kernel) (by decide +kernel))
theorem flX9_270 : FL RX9 270 TX1 8 := (gb1 118 (by decide +kernel) (by decide +kernel))
theorem flX1_40 : FL RX1 40 TX1 9 := (gb1 119 (by decide +kernel) (by decide +kernel))
theorem flX9_276 : FL RX9 276 TX1 9 := (gb1 120 (by decide +kernel) (by decide +kernel))
theorem flX5_204 : FL RX5 204 TX1 9 := (gb1 121 (by decide +kernel) (by decide +kernel))
theorem flX1_43 : FL RX1 43 TX1 10 := (gb1 122 (by decide +kernel) (by decide +kernel))
theorem flX9_279 : FL RX9 279 TX1 10 := (gb1 123 (by decide +kernel) (by decide +kernel))
theorem flX5_201 : FL RX5 201 TX1 10 := (gb1 124 (by decide +kernel) (by decide +kernel))
theorem flX1_46 : FL RX1 46 TX1 11 := (gb1 125 (by decide +kernel) (by decide +kernel))
theorem flX5_139 : FL RX5 139 TX1 11 := (gb1 126 (by decide +kernel) (by decide +kernel))
theorem flX9_282 : FL RX9 282 TX1 11 := (gb1 127 (by decide +kernel) (by decide +kernel))
theorem flX1_49 : FL RX1 49 TX1 12 := (gb1 128 (by decide +kernel) (by decide +kernel))
theorem flX5_145 : FL RX5 145 TX1 12 := (gb1 129 (by decide +kernel) (by decide +kernel))
theorem flX9_285 : FL RX9 285 TX1 12 := (gb1 130 (by decide +kernel) (by decide +kernel))
theorem flX1_52 : FL RX1 52 TX1 13 := (gb1 131 (by decide +kernel) (by decide +kernel))
theorem flX5_111 : FL RX5 111 TX1 13 := (gb1 132 (by decide +kernel) (by decide +kernel))
theorem flX9_288 : FL RX9 288 TX1 13 := (gb1 133 (by decide +kernel) (by decide +kernel))
theorem flX1_55 : FL RX1 55 TX1 14 := (gb1 134 (by decide +kernel) (by decide +kernel))
theorem flX5_114 : FL RX5 114 TX1 14 := (gb1 135 (by decide +kernel) (by decide +kernel))
theorem flX9_291 : FL RX9 291 TX1 14 := (gb1 136 (by decide +kernel) (by decide +kernel))
theorem flX1_58 : FL RX1 58 TX1 15 := (gb1 137 (by decide +kernel) (by decide +kernel))
theorem flX9_294 : FL RX9 294 TX1 15 := (gb1 138 (by decide +kernel) (by decide +kernel))
theorem flX5_191 : FL RX5 191 TX1 15 := (gb1 139 (by decide +kernel) (by decide +kernel))
theorem flX1_61 : FL RX1 61 TX1 16 := (gb1 140 (by decide +kernel) (by decide +kernel))
theorem flX5_85 : FL RX5 85 TX1 16 := (gb1 141 (by decide +kernel) (by decide +kernel))
theorem flX1_64 : FL RX1 64 TX1 17 := (gb1 142 (by decide +kernel) (by decide +kernel))
theorem flX0_57 : FL RX0 57 TX1 17 := (gb1 143 (by decide +kernel) (by decide +kernel))
theorem flX5_108 : FL RX5 108 TX1 17 := (gb1 144 (by decide +kernel) (by decide +kernel))
theorem flX9_297 : FL RX9 297 TX1 17 := (gb1 145 (by decide +kernel) (by decide +kernel))
theorem flX1_67 : FL RX1 67 TX1 18 := (gb1 146 (by decide +kernel) (by decide +kernel))
theorem flX5_91 : FL RX5 91 TX1 18 := (gb1 147 (by decide +kernel) (by decide +kernel))
theorem flX6_18 : FL RX6 18 TX6 0 := (gb1 196 (by decide +kernel) (by decide +kernel))
theorem flX6_12 : FL RX6 12 TX6 1 := (gb1 197 (by decide +kernel) (by decide +kernel))
theorem flX9_116 : FL RX9 116 TX6 1 := (gb1 198 (by decide +kernel) (by decide +kernel))
theorem flX3_18 : FL RX3 18 TX3 0 := (gb1 210 (by decide +kernel) (by decide +kernel))
theorem flX3_22 : FL RX3 22 TX3 1 := (gb1 211 (by decide +kernel) (by decide +kernel))
theorem flX3_9 : FL RX3 9 TX3 2 := (gb1 212 (by decide +kernel) (by decide +kernel))
theorem flX3_15 : FL RX3 15 TX3 3 := (gb1 213 (by decide +kernel) (by decide +kernel))
theorem flX0_9 : FL RX0 9 TX0 0 := (gb1 229 (by decide +kernel) (by decide +kernel))
theorem flX0_15 : FL RX0 15 TX0 1 := (gb1 230 (by decide +kernel) (by decide +kernel))
theorem flX0_18 : FL RX0 18 TX0 2 := (gb1 231 (by decide +kernel) (by decide +kernel))
theorem flX0_21 : FL RX0 21 TX0 3 := (gb1 232 (by decide +kernel) (by decide +kernel))
theorem flX0_25 : FL RX0 25 TX0 4 := (gb1 233 (by decide +kernel) (by decide +kernel))
theorem flX9_344 : FL RX9 344 TX0 4 := (gb1 234 (by decide +kernel) (by decide +kernel))
theorem flX0_28 : FL RX0 28 TX0 5 := (gb1 235 (by decide +kernel) (by decide +kernel))
theorem flX9_347 : FL RX9 347 TX0 5 := (gb1 236 (by decide +kernel) (by decide +kernel))
theorem flX4_9 : FL RX4 9 TX4 0 := (gb2 16 (by decide +kernel) (by decide +kernel))
theorem flX4_13 : FL RX4 13 TX4 1 := (gb2 17 (by decide +kernel) (by decide +kernel))
theorem flX9_350 : FL RX9 350 TX4 1 := (gb2 18 (by decide +kernel) (by decide +kernel))
theorem flX7_7 : FL RX7 7 TX7 0 := (gb2 37 (by decide +kernel) (by decide +kernel))
theorem flX5_59 : FL RX5 59 TX7 0 := (gb2 38 (by decide +kernel) (by decide +kernel))
theorem flX9_246 : FL RX9 246 TX7 0 := (gb2 39 (by decide +kernel) (by decide +kernel))
theorem flX7_13 : FL RX7 13 TX7 1 := (gb2 40 (by decide +kernel) (by decide +kernel))
theorem flX7_16 : FL RX7 16 TX7 2 := (gb2 41 (by decide +kernel) (by decide +kernel))
theorem flX7_20 : FL RX7 20 TX7 3 := (gb2 42 (by decide +kernel) (by decide +kernel))
theorem flX5_54 : FL RX5 54 TX5 0 := (gb2 54 (by decide +kernel) (by decide +kernel))
theorem flX0_31 : FL RX0 31 TX5 0 := (gb2 55 (by decide +kernel) (by decide +kernel))
theorem flX5_9 : FL RX5 9 TX5 1 := (gb2 56 (by decide +kernel) (by decide +kernel))
theorem flX9_229 : FL RX9 229 TX5 1 := (gb2 57 (by decide +kernel) (by decide +kernel))
theorem flX5_15 : FL RX5 15 TX5 2 := (gb2 58 (by decide +kernel) (by decide +kernel))
theorem flX9_364 : FL RX9 364 TX5 2 := (gb2 59 (by decide +kernel) (by decide +kernel))
theorem flX5_18 : FL RX5 18 TX5 3 := (gb2 60 (by decide +kernel) (by decide +kernel))
theorem flX9_373 : FL RX9 373 TX5 3 := (gb2 61 (by decide +kernel) (by decide +kernel))
theorem flX5_21 : FL RX5 21 TX5 4 := (gb2 62 (by decide +kernel) (by decide +kernel))
theorem flX9_266 : FL RX9 266 TX5 4 := (gb2 63 (by decide +kernel) (by decide +kernel))
theorem flX5_25 : FL RX5 25 TX5 5 := (gb2 64 (by decide +kernel) (by decide +kernel))
theorem flX9_166 : FL RX9 166 TX5 5 := (gb2 65 (by decide +kernel) (by decide +kernel))
theorem flX5_29 : FL RX5 29 TX5 6 := (gb2 66 (by decide +kernel) (by decide +kernel))
theorem flX9_201 : FL RX9 201 TX5 6 := (gb2 67 (by decide +kernel) (by decide +kernel))
theorem flX5_32 : FL RX5 32 TX5 7 := (gb2 68 (by decide +kernel) (by decide +kernel))
theorem flX9_257 : FL RX9 257 TX5 7 := (gb2 69 (by decide +kernel) (by decide +kernel))
theorem flX5_35 : FL RX5 35 TX5 8 := (gb2 70 (by decide +kernel) (by decide +kernel))
theorem flX9_204 : FL RX9 204 TX5 8 := (gb2 71 (by decide +kernel) (by decide +kernel))
theorem flX5_38 : FL RX5 38 TX5 9 := (gb2 72 (by decide +kernel) (by decide +kernel))
theorem flX9_232 : FL RX9 232 TX5 9 := (gb2 73 (by decide +kernel) (by decide +kernel))
theorem flX5_41 : FL RX5 41 TX5 10 := (gb2 74 (by decide +kernel) (by decide +kernel))
theorem flX9_239 : FL RX9 239 TX5 10 := (gb2 75 (by decide +kernel) (by decide +kernel))
theorem flX5_44 : FL RX5 44 TX5 11 := (gb2 76 (by decide +kernel) (by decide +kernel))
theorem flX0_45 : FL RX0 45 TX5 11 := (gb2 77 (by decide +kernel) (by decide +kernel))
theorem flX9_300 : FL RX9 300 TX5 11 := (gb2 78 (by decide +kernel) (by decide +kernel))
theorem flX5_50 : FL RX5 50 TX5 12 := (gb2 79 (by decide +kernel) (by decide +kernel))
theorem flX9_242 : FL RX9 242 TX5 12 := (gb2 80 (by decide +kernel) (by decide +kernel))
theorem flX9_12 : FL RX9 12 TX9 0 := (gb2 108 (by decide +kernel) (by decide +kernel))
theorem flX9_21 : FL RX9 21 TX9 1 := (gb2 109 (by decide +kernel) (by decide +kernel))
theorem flX9_28 : FL RX9 28 TX9 2 := (gb2 110 (by decide +kernel) (by decide +kernel))
theorem flX9_37 : FL RX9 37 TX9 3 := (gb2 111 (by decide +kernel) (by decide +kernel))
theorem flX9_46 : FL RX9 46 TX9 4 := (gb2 112 (by decide +kernel) (by decide +kernel))
theorem flX9_53 : FL RX9 53 TX9 5 := (gb2 113 (by decide +kernel) (by decide +kernel))
theorem flX9_60 : FL RX9 60 TX9 6 := (gb2 114 (by decide +kernel) (by decide +kernel))
theorem flX9_66 : FL RX9 66 TX9 7 := (gb2 115 (by decide +kernel) (by decide +kernel))
theorem flX9_73 : FL RX9 73 TX9 8 := (gb2 116 (by decide +kernel) (by decide +kernel))
theorem flX9_77 : FL RX9 77 TX9 9 := (gb2 117 (by decide +kernel) (by decide +kernel))
theorem flX9_80 : FL RX9 80 TX9 10 := (gb2 118 (by decide +kernel) (by decide +kernel))
theorem flX9_84 : FL RX9 84 TX9 11 := (gb2 119 (by decide +kernel) (by decide +kernel))
theorem flX9_87 : FL RX9 87 TX9 12 := (gb2 120 (by decide +kernel) (by decide +kernel))
theorem flX9_90 : FL RX9 90 TX9 13 := (gb2 121 (by decide +kernel) (by decide +kernel))
theorem coX5_58 : .constant RX5 58 1000000 ∈ bigw := (gb2 53 (by decide +kernel) (by decide +kernel))
theorem coX6_106 : .constant RX6 106 1000000 ∈ bigw := (gb3 36 (by decide +kernel) (by decide +kernel))
theorem coX5_183 : .constant RX5 183 1000000000 ∈ bigw := (gb4 44 (by decide +kernel) (by decide +kernel))
theorem coX9_389 : .constant RX9 389 1000000 ∈ bigw := (gb4 72 (by decide +kernel) (by decide +kernel))
theorem coX4_30 : .constant RX4 30 1000000000 ∈ bigw := (gb5 18 (by decide +kernel) (by decide +kernel))
theorem coL_114 : .constant RL 114 1000000 ∈ bigw := (gb5 133 (by decide +kernel) (by decide +kernel))
theorem coX5_70 : .constantLong RX5 70 1000000 ∈ bigw := (gb3 68 (by decide +kernel) (by decide +kernel))
theorem coX5_159 : .constantLong RX5 159 10 ∈ bigw := (gb4 117 (by decide +kernel) (by decide +kernel))
theorem coX5_161 : .constantLong RX5 161 9 ∈ bigw := (gb4 118 (by decide +kernel) (by decide +kernel))
set_option maxRecDepth 100000 in
theorem mc_X9_parseSystem : .code yX9_parseSystem cX9_parseSystem 2 (some .int) ∈ bigw := (gb2 154 rfl (by decide +kernel))
theorem mi_X9_parseSystem : .initialized (yX9_parseSystem : MethodName).cls ∈ bigw := (gb1 1 (by decide +kernel) (by decide +kernel))
theorem ms_X9_parseSystem : .instanceMethod yX9_parseSystem ∈ bigw ∧ .selects (yX9_parseSystem : MethodName).cls yX9_parseSystem yX9_parseSystem ∈ bigw := ⟨(gb2 152 (by decide +kernel) (by decide +kernel)), (gb2 153 (by decide +kernel) (by decide +kernel))⟩
theorem lkL_111 : LKV RL 111 yX9_parseSystem cX9_parseSystem 2 (some .int) 0 := ⟨⟨(gb2 151 (by decide +kernel) (by decide +kernel)), mc_X9_parseSystem, mi_X9_parseSystem, by decide, by decide +kernel⟩, ms_X9_parseSystem.1, ms_X9_parseSystem.2⟩
set_option maxRecDepth 100000 in
theorem mc_X6_parse : .code yX6_parse cX6_parse 4 (some .boolean) ∈ bigw := (gb2 158 rfl (by decide +kernel))
theorem mi_X6_parse : .initialized (yX6_parse : MethodName).cls ∈ bigw := (gb1 5 (by decide +kernel) (by decide +kernel))
theorem ms_X6_parse : .instanceMethod yX6_parse ∈ bigw ∧ .selects (yX6_parse : MethodName).cls yX6_parse yX6_parse ∈ bigw := ⟨(gb2 156 (by decide +kernel) (by decide +kernel)), (gb2 157 (by decide +kernel) (by decide +kernel))⟩
theorem lkX9_106 : LKV RX9 106 yX6_parse cX6_parse 4 (some .boolean) 0 := ⟨⟨(gb2 155 (by decide +kernel) (by decide +kernel)), mc_X6_parse, mi_X6_parse, by decide, by decide +kernel⟩, ms_X6_parse.1, ms_X6_parse.2⟩
set_option maxRecDepth 100000 in
theorem mc_X1_clear : .code yX1_clear cX1_clear 1 none ∈ bigw := (gb2 162 rfl (by decide +kernel))
theorem mi_X1_clear : .initialized (yX1_clear : MethodName).cls ∈ bigw := (gb1 4 (by decide +kernel) (by decide +kernel))
theorem ms_X1_clear : .instanceMethod yX1_clear ∈ bigw ∧ .selects (yX1_clear : MethodName).cls yX1_clear yX1_clear ∈ bigw := ⟨(gb2 160 (by decide +kernel) (by decide +kernel)), (gb2 161 (by decide +kernel) (by decide +kernel))⟩
theorem lkX6_22 : LKV RX6 22 yX1_clear cX1_clear 1 none 0 := ⟨⟨(gb2 159 (by decide +kernel) (by decide +kernel)), mc_X1_clear, mi_X1_clear, by decide, by decide +kernel⟩, ms_X1_clear.1, ms_X1_clear.2⟩
set_option maxRecDepth 100000 in
theorem mc_X2_begin : .code yX2_begin cX2_begin 1 none ∈ bigw := (gb2 166 rfl (by decide +kernel))
theorem mi_X2_begin : .initialized (yX2_begin : MethodName).cls ∈ bigw := (gb1 3 (by decide +kernel) (by decide +kernel))
theorem ms_X2_begin : .instanceMethod yX2_begin ∈ bigw ∧ .selects (yX2_begin : MethodName).cls yX2_begin yX2_begin ∈ bigw := ⟨(gb2 164 (by decide +kernel) (by decide +kernel)), (gb2 165 (by decide +kernel) (by decide +kernel))⟩
theorem lkX6_25 : LKV RX6 25 yX2_begin cX2_begin 1 none 0 := ⟨⟨(gb2 163 (by decide +kernel) (by decide +kernel)), mc_X2_begin, mi_X2_begin, by decide, by decide +kernel⟩, ms_X2_begin.1, ms_X2_begin.2⟩
set_option maxRecDepth 100000 in
theorem mc_X2_advance : .code yX2_advance cX2_advance 2 none ∈ bigw := (gb2 170 rfl (by decide +kernel))
theorem mi_X2_advance : .initialized (yX2_advance : MethodName).cls ∈ bigw := (gb1 3 (by decide +kernel) (by decide +kernel))
theorem ms_X2_advance : .instanceMethod yX2_advance ∈ bigw ∧ .selects (yX2_advance : MethodName).cls yX2_advance yX2_advance ∈ bigw := ⟨(gb2 168 (by decide +kernel) (by decide +kernel)), (gb2 169 (by decide +kernel) (by decide +kernel))⟩
theorem lkX2_34 : LKV RX2 34 yX2_advance cX2_advance 2 none 0 := ⟨⟨(gb2 167 (by decide +kernel) (by decide +kernel)), mc_X2_advance, mi_X2_advance, by decide, by decide +kernel⟩, ms_X2_advance.1, ms_X2_advance.2⟩
set_option maxRecDepth 100000 in
theorem mc_X8_byteAt : .code yX8_byteAt cX8_byteAt 2 (some .int) ∈ bigw := (gb2 174 rfl (by decide +kernel))
theorem mi_X8_byteAt : .initialized (yX8_byteAt : MethodName).cls ∈ bigw := (gb1 2 (by decide +kernel) (by decide +kernel))
theorem ms_X8_byteAt : .instanceMethod yX8_byteAt ∈ bigw ∧ .selects (yX8_byteAt : MethodName).cls yX8_byteAt yX8_byteAt ∈ bigw := ⟨(gb2 172 (by decide +kernel) (by decide +kernel)), (gb2 173 (by decide +kernel) (by decide +kernel))⟩
theorem lkX2_42 : LKV RX2 42 yX8_byteAt cX8_byteAt 2 (some .int) 1 := ⟨⟨(gb2 171 (by decide +kernel) (by decide +kernel)), mc_X8_byteAt, mi_X8_byteAt, by decide, by decide +kernel⟩, ms_X8_byteAt.1, ms_X8_byteAt.2⟩
set_option maxRecDepth 100000 in
theorem mc_X2_kindOf : .code yX2_kindOf cX2_kindOf 1 (some .int) ∈ bigw := (gb2 177 rfl (by decide +kernel))
theorem mi_X2_kindOf : .initialized (yX2_kindOf : MethodName).cls ∈ bigw := (gb1 3 (by decide +kernel) (by decide +kernel))
theorem ms_X2_kindOf : .static yX2_kindOf ∈ bigw := (gb2 176 (by decide +kernel) (by decide +kernel))
theorem lkX2_46 : LKS RX2 46 yX2_kindOf cX2_kindOf 1 (some .int) 1 := ⟨⟨(gb2 175 (by decide +kernel) (by decide +kernel)), mc_X2_kindOf, mi_X2_kindOf, by decide, by decide +kernel⟩, ms_X2_kindOf⟩
set_option maxRecDepth 100000 in
theorem mc_Math_min : .code Lib.Math.min.name Lib.Math.min.code 2 (some .int) ∈ bigw := (gb2 180 rfl (by decide +kernel))
theorem mi_Math_min : .initialized (Lib.Math.min.name : MethodName).cls ∈ bigw := (gb1 20 (by decide +kernel) (by decide +kernel))
theorem ms_Math_min : .static Lib.Math.min.name ∈ bigw := (gb2 179 (by decide +kernel) (by decide +kernel))
theorem lkX2_49 : LKS RX2 49 Lib.Math.min.name Lib.Math.min.code 2 (some .int) 2 := ⟨⟨(gb2 178 (by decide +kernel) (by decide +kernel)), mc_Math_min, mi_Math_min, by decide, by decide +kernel⟩, ms_Math_min⟩
set_option maxRecDepth 100000 in
theorem mc_X6_section : .code yX6_section cX6_section 1 (some .int) ∈ bigw := (gb2 184 rfl (by decide +kernel))
theorem mi_X6_section : .initialized (yX6_section : MethodName).cls ∈ bigw := (gb1 5 (by decide +kernel) (by decide +kernel))
theorem ms_X6_section : .instanceMethod yX6_section ∈ bigw ∧ .selects (yX6_section : MethodName).cls yX6_section yX6_section ∈ bigw := ⟨(gb2 183 (by decide +kernel) (by decide +kernel)), (gb0 0 (by decide +kernel) (by decide +kernel))⟩
theorem lkX6_37 : LKV RX6 37 yX6_section cX6_section 1 (some .int) 0 := ⟨⟨(gb2 181 (by decide +kernel) (by decide +kernel)), mc_X6_section, mi_X6_section, by decide, by decide +kernel⟩, ms_X6_section.1, ms_X6_section.2⟩
set_option maxRecDepth 100000 in
theorem mc_X2_isWord : .code yX2_isWord cX2_isWord 3 (some .boolean) ∈ bigw := (gb2 189 rfl (by decide +kernel))
theorem mi_X2_isWord : .initialized (yX2_isWord : MethodName).cls ∈ bigw := (gb1 3 (by decide +kernel) (by decide +kernel))
theorem ms_X2_isWord : .instanceMethod yX2_isWord ∈ bigw ∧ .selects (yX2_isWord : MethodName).cls yX2_isWord yX2_isWord ∈ bigw := ⟨(gb2 187 (by decide +kernel) (by decide +kernel)), (gb2 188 (by decide +kernel) (by decide +kernel))⟩
theorem lkX6_72 : LKV RX6 72 yX2_isWord cX2_isWord 3 (some .boolean) 1 := ⟨⟨(gb2 186 (by decide +kernel) (by decide +kernel)), mc_X2_isWord, mi_X2_isWord, by decide, by decide +kernel⟩, ms_X2_isWord.1, ms_X2_isWord.2⟩
set_option maxRecDepth 100000 in
theorem mc_String_length : .code ⟨"java/lang/String", "length", "()I"⟩ prog_23_method_54_code 1 (some .int) ∈ bigw := (gb2 193 rfl (by decide +kernel))
theorem mi_String_length : .initialized (⟨"java/lang/String", "length", "()I"⟩ : MethodName).cls ∈ bigw := (gb1 11 (by decide +kernel) (by decide +kernel))
theorem ms_String_length : .instanceMethod ⟨"java/lang/String", "length", "()I"⟩ ∈ bigw ∧ .selects (⟨"java/lang/String", "length", "()I"⟩ : MethodName).cls ⟨"java/lang/String", "length", "()I"⟩ ⟨"java/lang/String", "length", "()I"⟩ ∈ bigw := ⟨(gb2 191 (by decide +kernel) (by decide +kernel)), (gb2 192 (by decide +kernel) (by decide +kernel))⟩
theorem lkX2_55 : LKV RX2 55 ⟨"java/lang/String", "length", "()I"⟩ prog_23_method_54_code 1 (some .int) 0 := ⟨⟨(gb2 190 (by decide +kernel) (by decide +kernel)), mc_String_length, mi_String_length, by decide, by decide +kernel⟩, ms_String_length.1, ms_String_length.2⟩
set_option maxRecDepth 100000 in
theorem mc_String_charAt : .code ⟨"java/lang/String", "charAt", "(I)C"⟩ prog_23_method_56_code 2 (some .char) ∈ bigw := (gb2 203 rfl (by decide +kernel))
theorem mi_String_charAt : .initialized (⟨"java/lang/String", "charAt", "(I)C"⟩ : MethodName).cls ∈ bigw := (gb1 11 (by decide +kernel) (by decide +kernel))
theorem ms_String_charAt : .instanceMethod ⟨"java/lang/String", "charAt", "(I)C"⟩ ∈ bigw ∧ .selects (⟨"java/lang/String", "charAt", "(I)C"⟩ : MethodName).cls ⟨"java/lang/String", "charAt", "(I)C"⟩ ⟨"java/lang/String", "charAt", "(I)C"⟩ ∈ bigw := ⟨(gb2 201 (by decide +kernel) (by decide +kernel)), (gb2 202 (by decide +kernel) (by decide +kernel))⟩
theorem lkX2_60 : LKV RX2 60 ⟨"java/lang/String", "charAt", "(I)C"⟩ prog_23_method_56_code 2 (some .char) 1 := ⟨⟨(gb2 200 (by decide +kernel) (by decide +kernel)), mc_String_charAt, mi_String_charAt, by decide, by decide +kernel⟩, ms_String_charAt.1, ms_String_charAt.2⟩
set_option maxRecDepth 100000 in
theorem mc_X2_fail : .code yX2_fail cX2_fail 3 none ∈ bigw := (gb3 4 rfl (by decide +kernel))
theorem mi_X2_fail : .initialized (yX2_fail : MethodName).cls ∈ bigw := (gb1 3 (by decide +kernel) (by decide +kernel))
theorem ms_X2_fail : .instanceMethod yX2_fail ∈ bigw ∧ .selects (yX2_fail : MethodName).cls yX2_fail yX2_fail ∈ bigw := ⟨(gb3 2 (by decide +kernel) (by decide +kernel)), (gb3 3 (by decide +kernel) (by decide +kernel))⟩
theorem lkX6_47 : LKV RX6 47 yX2_fail cX2_fail 3 none 2 := ⟨⟨(gb3 1 (by decide +kernel) (by decide +kernel)), mc_X2_fail, mi_X2_fail, by decide, by decide +kernel⟩, ms_X2_fail.1, ms_X2_fail.2⟩
set_option maxRecDepth 100000 in
theorem mc_X6_isFull : .code yX6_isFull cX6_isFull 2 (some .boolean) ∈ bigw := (gb3 8 rfl (by decide +kernel))
theorem mi_X6_isFull : .initialized (yX6_isFull : MethodName).cls ∈ bigw := (gb1 5 (by decide +kernel) (by decide +kernel))
theorem ms_X6_isFull : .instanceMethod yX6_isFull ∈ bigw ∧ .selects (yX6_isFull : MethodName).cls yX6_isFull yX6_isFull ∈ bigw := ⟨(gb3 7 (by decide +kernel) (by decide +kernel)), (gb0 1 (by decide +kernel) (by decide +kernel))⟩
theorem lkX6_51 : LKV RX6 51 yX6_isFull cX6_isFull 2 (some .boolean) 1 := ⟨⟨(gb3 5 (by decide +kernel) (by decide +kernel)), mc_X6_isFull, mi_X6_isFull, by decide, by decide +kernel⟩, ms_X6_isFull.1, ms_X6_isFull.2⟩
theorem lkX6_55 : LKV RX6 55 yX2_advance cX2_advance 2 none 0 := ⟨⟨(gb3 9 (by decide +kernel) (by decide +kernel)), mc_X2_advance, mi_X2_advance, by decide, by decide +kernel⟩, ms_X2_advance.1, ms_X2_advance.2⟩
set_option maxRecDepth 100000 in
theorem mc_X6_readChamber : .code yX6_readChamber cX6_readChamber 4 none ∈ bigw := (gb3 13 rfl (by decide +kernel))
theorem mi_X6_readChamber : .initialized (yX6_readChamber : MethodName).cls ∈ bigw := (gb1 5 (by decide +kernel) (by decide +kernel))
theorem ms_X6_readChamber : .instanceMethod yX6_readChamber ∈ bigw ∧ .selects (yX6_readChamber : MethodName).cls yX6_readChamber yX6_readChamber ∈ bigw := ⟨(gb3 12 (by decide +kernel) (by decide +kernel)), (gb0 2 (by decide +kernel) (by decide +kernel))⟩
theorem lkX6_58 : LKV RX6 58 yX6_readChamber cX6_readChamber 4 none 0 := ⟨⟨(gb3 10 (by decide +kernel) (by decide +kernel)), mc_X6_readChamber, mi_X6_readChamber, by decide, by decide +kernel⟩, ms_X6_readChamber.1, ms_X6_readChamber.2⟩
set_option maxRecDepth 100000 in
theorem mc_X2_readNumber : .code yX2_readNumber cX2_readNumber 4 (some .int) ∈ bigw := (gb3 17 rfl (by decide +kernel))
theorem mi_X2_readNumber : .initialized (yX2_readNumber : MethodName).cls ∈ bigw := (gb1 3 (by decide +kernel) (by decide +kernel))
theorem ms_X2_readNumber : .instanceMethod yX2_readNumber ∈ bigw ∧ .selects (yX2_readNumber : MethodName).cls yX2_readNumber yX2_readNumber ∈ bigw := ⟨(gb3 15 (by decide +kernel) (by decide +kernel)), (gb3 16 (by decide +kernel) (by decide +kernel))⟩
theorem lkX6_91 : LKV RX6 91 yX2_readNumber cX2_readNumber 4 (some .int) 2 := ⟨⟨(gb3 14 (by decide +kernel) (by decide +kernel)), mc_X2_readNumber, mi_X2_readNumber, by decide, by decide +kernel⟩, ms_X2_readNumber.1, ms_X2_readNumber.2⟩
theorem lkX2_64 : LKV RX2 64 yX2_fail cX2_fail 3 none 2 := ⟨⟨(gb3 18 (by decide +kernel) (by decide +kernel)), mc_X2_fail, mi_X2_fail, by decide, by decide +kernel⟩, ms_X2_fail.1, ms_X2_fail.2⟩
set_option maxRecDepth 100000 in
theorem mc_X2_readSemicolon : .code yX2_readSemicolon cX2_readSemicolon 1 none ∈ bigw := (gb3 22 rfl (by decide +kernel))
theorem mi_X2_readSemicolon : .initialized (yX2_readSemicolon : MethodName).cls ∈ bigw := (gb1 3 (by decide +kernel) (by decide +kernel))
theorem ms_X2_readSemicolon : .instanceMethod yX2_readSemicolon ∈ bigw ∧ .selects (yX2_readSemicolon : MethodName).cls yX2_readSemicolon yX2_readSemicolon ∈ bigw := ⟨(gb3 20 (by decide +kernel) (by decide +kernel)), (gb3 21 (by decide +kernel) (by decide +kernel))⟩
theorem lkX6_95 : LKV RX6 95 yX2_readSemicolon cX2_readSemicolon 1 none 0 := ⟨⟨(gb3 19 (by decide +kernel) (by decide +kernel)), mc_X2_readSemicolon, mi_X2_readSemicolon, by decide, by decide +kernel⟩, ms_X2_readSemicolon.1, ms_X2_readSemicolon.2⟩
set_option maxRecDepth 100000 in
theorem mc_X1_addChamber : .code yX1_addChamber cX1_addChamber 4 none ∈ bigw := (gb3 26 rfl (by decide +kernel))
theorem mi_X1_addChamber : .initialized (yX1_addChamber : MethodName).cls ∈ bigw := (gb1 4 (by decide +kernel) (by decide +kernel))
theorem ms_X1_addChamber : .instanceMethod yX1_addChamber ∈ bigw ∧ .selects (yX1_addChamber : MethodName).cls yX1_addChamber yX1_addChamber ∈ bigw := ⟨(gb3 24 (by decide +kernel) (by decide +kernel)), (gb3 25 (by decide +kernel) (by decide +kernel))⟩
theorem lkX6_98 : LKV RX6 98 yX1_addChamber cX1_addChamber 4 none 3 := ⟨⟨(gb3 23 (by decide +kernel) (by decide +kernel)), mc_X1_addChamber, mi_X1_addChamber, by decide, by decide +kernel⟩, ms_X1_addChamber.1, ms_X1_addChamber.2⟩
set_option maxRecDepth 100000 in
theorem mc_X6_readPump : .code yX6_readPump cX6_readPump 7 none ∈ bigw := (gb3 30 rfl (by decide +kernel))
theorem mi_X6_readPump : .initialized (yX6_readPump : MethodName).cls ∈ bigw := (gb1 5 (by decide +kernel) (by decide +kernel))
theorem ms_X6_readPump : .instanceMethod yX6_readPump ∈ bigw ∧ .selects (yX6_readPump : MethodName).cls yX6_readPump yX6_readPump ∈ bigw := ⟨(gb3 29 (by decide +kernel) (by decide +kernel)), (gb0 3 (by decide +kernel) (by decide +kernel))⟩
theorem lkX6_61 : LKV RX6 61 yX6_readPump cX6_readPump 7 none 0 := ⟨⟨(gb3 27 (by decide +kernel) (by decide +kernel)), mc_X6_readPump, mi_X6_readPump, by decide, by decide +kernel⟩, ms_X6_readPump.1, ms_X6_readPump.2⟩
set_option maxRecDepth 100000 in
theorem mc_X6_readOtherSide : .code yX6_readOtherSide cX6_readOtherSide 4 (some .int) ∈ bigw := (gb3 34 rfl (by decide +kernel))
theorem mi_X6_readOtherSide : .initialized (yX6_readOtherSide : MethodName).cls ∈ bigw := (gb1 5 (by decide +kernel) (by decide +kernel))
theorem ms_X6_readOtherSide : .instanceMethod yX6_readOtherSide ∈ bigw ∧ .selects (yX6_readOtherSide : MethodName).cls yX6_readOtherSide yX6_readOtherSide ∈ bigw := ⟨(gb3 33 (by decide +kernel) (by decide +kernel)), (gb0 4 (by decide +kernel) (by decide +kernel))⟩
theorem lkX6_102 : LKV RX6 102 yX6_readOtherSide cX6_readOtherSide 4 (some .int) 1 := ⟨⟨(gb3 31 (by decide +kernel) (by decide +kernel)), mc_X6_readOtherSide, mi_X6_readOtherSide, by decide, by decide +kernel⟩, ms_X6_readOtherSide.1, ms_X6_readOtherSide.2⟩
set_option maxRecDepth 100000 in
theorem mc_X1_addPump : .code yX1_addPump cX1_addPump 7 none ∈ bigw := (gb3 40 rfl (by decide +kernel))
theorem mi_X1_addPump : .initialized (yX1_addPump : MethodName).cls ∈ bigw := (gb1 4 (by decide +kernel) (by decide +kernel))
theorem ms_X1_addPump : .instanceMethod yX1_addPump ∈ bigw ∧ .selects (yX1_addPump : MethodName).cls yX1_addPump yX1_addPump ∈ bigw := ⟨(gb3 38 (by decide +kernel) (by decide +kernel)), (gb3 39 (by decide +kernel) (by decide +kernel))⟩
theorem lkX6_107 : LKV RX6 107 yX1_addPump cX1_addPump 7 none 6 := ⟨⟨(gb3 37 (by decide +kernel) (by decide +kernel)), mc_X1_addPump, mi_X1_addPump, by decide, by decide +kernel⟩, ms_X1_addPump.1, ms_X1_addPump.2⟩
set_option maxRecDepth 100000 in
theorem mc_X6_readValve : .code yX6_readValve cX6_readValve 5 none ∈ bigw := (gb3 44 rfl (by decide +kernel))
theorem mi_X6_readValve : .initialized (yX6_readValve : MethodName).cls ∈ bigw := (gb1 5 (by decide +kernel) (by decide +kernel))
theorem ms_X6_readValve : .instanceMethod yX6_readValve ∈ bigw ∧ .selects (yX6_readValve : MethodName).cls yX6_readValve yX6_readValve ∈ bigw := ⟨(gb3 43 (by decide +kernel) (by decide +kernel)), (gb0 5 (by decide +kernel) (by decide +kernel))⟩
theorem lkX6_64 : LKV RX6 64 yX6_readValve cX6_readValve 5 none 0 := ⟨⟨(gb3 41 (by decide +kernel) (by decide +kernel)), mc_X6_readValve, mi_X6_readValve, by decide, by decide +kernel⟩, ms_X6_readValve.1, ms_X6_readValve.2⟩
set_option maxRecDepth 100000 in
theorem mc_X1_addValve : .code yX1_addValve cX1_addValve 5 none ∈ bigw := (gb3 48 rfl (by decide +kernel))
theorem mi_X1_addValve : .initialized (yX1_addValve : MethodName).cls ∈ bigw := (gb1 4 (by decide +kernel) (by decide +kernel))
theorem ms_X1_addValve : .instanceMethod yX1_addValve ∈ bigw ∧ .selects (yX1_addValve : MethodName).cls yX1_addValve yX1_addValve ∈ bigw := ⟨(gb3 46 (by decide +kernel) (by decide +kernel)), (gb3 47 (by decide +kernel) (by decide +kernel))⟩
theorem lkX6_111 : LKV RX6 111 yX1_addValve cX1_addValve 5 none 4 := ⟨⟨(gb3 45 (by decide +kernel) (by decide +kernel)), mc_X1_addValve, mi_X1_addValve, by decide, by decide +kernel⟩, ms_X1_addValve.1, ms_X1_addValve.2⟩
set_option maxRecDepth 100000 in
theorem mc_X6_readFlange : .code yX6_readFlange cX6_readFlange 3 none ∈ bigw := (gb3 52 rfl (by decide +kernel))
theorem mi_X6_readFlange : .initialized (yX6_readFlange : MethodName).cls ∈ bigw := (gb1 5 (by decide +kernel) (by decide +kernel))
theorem ms_X6_readFlange : .instanceMethod yX6_readFlange ∈ bigw ∧ .selects (yX6_readFlange : MethodName).cls yX6_readFlange yX6_readFlange ∈ bigw := ⟨(gb3 51 (by decide +kernel) (by decide +kernel)), (gb0 6 (by decide +kernel) (by decide +kernel))⟩
theorem lkX6_67 : LKV RX6 67 yX6_readFlange cX6_readFlange 3 none 0 := ⟨⟨(gb3 49 (by decide +kernel) (by decide +kernel)), mc_X6_readFlange, mi_X6_readFlange, by decide, by decide +kernel⟩, ms_X6_readFlange.1, ms_X6_readFlange.2⟩
set_option maxRecDepth 100000 in
theorem mc_X1_addFlange : .code yX1_addFlange cX1_addFlange 3 none ∈ bigw := (gb3 56 rfl (by decide +kernel))
theorem mi_X1_addFlange : .initialized (yX1_addFlange : MethodName).cls ∈ bigw := (gb1 4 (by decide +kernel) (by decide +kernel))
theorem ms_X1_addFlange : .instanceMethod yX1_addFlange ∈ bigw ∧ .selects (yX1_addFlange : MethodName).cls yX1_addFlange yX1_addFlange ∈ bigw := ⟨(gb3 54 (by decide +kernel) (by decide +kernel)), (gb3 55 (by decide +kernel) (by decide +kernel))⟩
theorem lkX6_115 : LKV RX6 115 yX1_addFlange cX1_addFlange 3 none 2 := ⟨⟨(gb3 53 (by decide +kernel) (by decide +kernel)), mc_X1_addFlange, mi_X1_addFlange, by decide, by decide +kernel⟩, ms_X1_addFlange.1, ms_X1_addFlange.2⟩
set_option maxRecDepth 100000 in
theorem mc_X1_copyFrom : .code yX1_copyFrom cX1_copyFrom 2 none ∈ bigw := (gb3 60 rfl (by decide +kernel))
theorem mi_X1_copyFrom : .initialized (yX1_copyFrom : MethodName).cls ∈ bigw := (gb1 4 (by decide +kernel) (by decide +kernel))
theorem ms_X1_copyFrom : .instanceMethod yX1_copyFrom ∈ bigw ∧ .selects (yX1_copyFrom : MethodName).cls yX1_copyFrom yX1_copyFrom ∈ bigw := ⟨(gb3 58 (by decide +kernel) (by decide +kernel)), (gb3 59 (by decide +kernel) (by decide +kernel))⟩
theorem lkX9_119 : LKV RX9 119 yX1_copyFrom cX1_copyFrom 2 none 1 := ⟨⟨(gb3 57 (by decide +kernel) (by decide +kernel)), mc_X1_copyFrom, mi_X1_copyFrom, by decide, by decide +kernel⟩, ms_X1_copyFrom.1, ms_X1_copyFrom.2⟩
theorem lkX1_70 : LKA RX1 70 := ⟨(gb3 61 (by decide +kernel) (by decide +kernel)), (gb3 63 (by decide +kernel) (by decide +kernel)), (gb3 62 (by decide +kernel) (by decide +kernel)), (gb1 21 (by decide +kernel) (by decide +kernel))⟩
set_option maxRecDepth 100000 in
theorem mc_X5_reset : .code yX5_reset cX5_reset 2 none ∈ bigw := (gb3 67 rfl (by decide +kernel))
theorem mi_X5_reset : .initialized (yX5_reset : MethodName).cls ∈ bigw := (gb1 9 (by decide +kernel) (by decide +kernel))
theorem ms_X5_reset : .instanceMethod yX5_reset ∈ bigw ∧ .selects (yX5_reset : MethodName).cls yX5_reset yX5_reset ∈ bigw := ⟨(gb3 65 (by decide +kernel) (by decide +kernel)), (gb3 66 (by decide +kernel) (by decide +kernel))⟩
theorem lkX9_122 : LKV RX9 122 yX5_reset cX5_reset 2 none 0 := ⟨⟨(gb3 64 (by decide +kernel) (by decide +kernel)), mc_X5_reset, mi_X5_reset, by decide, by decide +kernel⟩, ms_X5_reset.1, ms_X5_reset.2⟩
set_option maxRecDepth 100000 in
theorem mc_X5_addGas : .code yX5_addGas cX5_addGas 5 none ∈ bigw := (gb3 72 rfl (by decide +kernel))
theorem mi_X5_addGas : .initialized (yX5_addGas : MethodName).cls ∈ bigw := (gb1 9 (by decide +kernel) (by decide +kernel))
theorem ms_X5_addGas : .instanceMethod yX5_addGas ∈ bigw ∧ .selects (yX5_addGas : MethodName).cls yX5_addGas yX5_addGas ∈ bigw := ⟨(gb3 71 (by decide +kernel) (by decide +kernel)), (gb0 7 (by decide +kernel) (by decide +kernel))⟩
theorem lkX5_72 : LKV RX5 72 yX5_addGas cX5_addGas 5 none 2 := ⟨⟨(gb3 69 (by decide +kernel) (by decide +kernel)), mc_X5_addGas, mi_X5_addGas, by decide, by decide +kernel⟩, ms_X5_addGas.1, ms_X5_addGas.2⟩
set_option maxRecDepth 100000 in
theorem mc_X5_putLeak : .code yX5_putLeak cX5_putLeak 3 none ∈ bigw := (gb3 76 rfl (by decide +kernel))
theorem mi_X5_putLeak : .initialized (yX5_putLeak : MethodName).cls ∈ bigw := (gb1 9 (by decide +kernel) (by decide +kernel))
theorem ms_X5_putLeak : .instanceMethod yX5_putLeak ∈ bigw ∧ .selects (yX5_putLeak : MethodName).cls yX5_putLeak yX5_putLeak ∈ bigw := ⟨(gb3 74 (by decide +kernel) (by decide +kernel)), (gb3 75 (by decide +kernel) (by decide +kernel))⟩
theorem lkX5_94 : LKV RX5 94 yX5_putLeak cX5_putLeak 3 none 2 := ⟨⟨(gb3 73 (by decide +kernel) (by decide +kernel)), mc_X5_putLeak, mi_X5_putLeak, by decide, by decide +kernel⟩, ms_X5_putLeak.1, ms_X5_putLeak.2⟩
set_option maxRecDepth 100000 in
theorem mc_X9_open : .code yX9_open cX9_open 2 (some .int) ∈ bigw := (gb3 80 rfl (by decide +kernel))
theorem mi_X9_open : .initialized (yX9_open : MethodName).cls ∈ bigw := (gb1 1 (by decide +kernel) (by decide +kernel))
theorem ms_X9_open : .instanceMethod yX9_open ∈ bigw ∧ .selects (yX9_open : MethodName).cls yX9_open yX9_open ∈ bigw := ⟨(gb3 78 (by decide +kernel) (by decide +kernel)), (gb3 79 (by decide +kernel) (by decide +kernel))⟩
theorem lkL_122 : LKV RL 122 yX9_open cX9_open 2 (some .int) 1 := ⟨⟨(gb3 77 (by decide +kernel) (by decide +kernel)), mc_X9_open, mi_X9_open, by decide, by decide +kernel⟩, ms_X9_open.1, ms_X9_open.2⟩
set_option maxRecDepth 100000 in
theorem mc_X1_hasValve : .code yX1_hasValve cX1_hasValve 2 (some .boolean) ∈ bigw := (gb3 84 rfl (by decide +kernel))
theorem mi_X1_hasValve : .initialized (yX1_hasValve : MethodName).cls ∈ bigw := (gb1 4 (by decide +kernel) (by decide +kernel))
theorem ms_X1_hasValve : .instanceMethod yX1_hasValve ∈ bigw ∧ .selects (yX1_hasValve : MethodName).cls yX1_hasValve yX1_hasValve ∈ bigw := ⟨(gb3 82 (by decide +kernel) (by decide +kernel)), (gb3 83 (by decide +kernel) (by decide +kernel))⟩
theorem lkX9_128 : LKV RX9 128 yX1_hasValve cX1_hasValve 2 (some .boolean) 1 := ⟨⟨(gb3 81 (by decide +kernel) (by decide +kernel)), mc_X1_hasValve, mi_X1_hasValve, by decide, by decide +kernel⟩, ms_X1_hasValve.1, ms_X1_hasValve.2⟩
set_option maxRecDepth 100000 in
theorem mc_X5_openingBar : .code yX5_openingBar cX5_openingBar 2 (some .int) ∈ bigw := (gb3 152 rfl (by decide +kernel))
theorem mi_X5_openingBar : .initialized (yX5_openingBar : MethodName).cls ∈ bigw := (gb1 9 (by decide +kernel) (by decide +kernel))
theorem ms_X5_openingBar : .instanceMethod yX5_openingBar ∈ bigw ∧ .selects (yX5_openingBar : MethodName).cls yX5_openingBar yX5_openingBar ∈ bigw := ⟨(gb3 150 (by decide +kernel) (by decide +kernel)), (gb3 151 (by decide +kernel) (by decide +kernel))⟩
theorem lkX9_135 : LKV RX9 135 yX5_openingBar cX5_openingBar 2 (some .int) 1 := ⟨⟨(gb3 149 (by decide +kernel) (by decide +kernel)), mc_X5_openingBar, mi_X5_openingBar, by decide, by decide +kernel⟩, ms_X5_openingBar.1, ms_X5_openingBar.2⟩
set_option maxRecDepth 100000 in
theorem mc_X5_isOpen : .code yX5_isOpen cX5_isOpen 2 (some .boolean) ∈ bigw := (gb3 156 rfl (by decide +kernel))
theorem mi_X5_isOpen : .initialized (yX5_isOpen : MethodName).cls ∈ bigw := (gb1 9 (by decide +kernel) (by decide +kernel))
theorem ms_X5_isOpen : .instanceMethod yX5_isOpen ∈ bigw ∧ .selects (yX5_isOpen : MethodName).cls yX5_isOpen yX5_isOpen ∈ bigw := ⟨(gb3 154 (by decide +kernel) (by decide +kernel)), (gb3 155 (by decide +kernel) (by decide +kernel))⟩
theorem lkX5_123 : LKV RX5 123 yX5_isOpen cX5_isOpen 2 (some .boolean) 1 := ⟨⟨(gb3 153 (by decide +kernel) (by decide +kernel)), mc_X5_isOpen, mi_X5_isOpen, by decide, by decide +kernel⟩, ms_X5_isOpen.1, ms_X5_isOpen.2⟩
set_option maxRecDepth 100000 in
theorem mc_X5_difference : .code yX5_difference cX5_difference 2 (some .int) ∈ bigw := (gb3 160 rfl (by decide +kernel))
theorem mi_X5_difference : .initialized (yX5_difference : MethodName).cls ∈ bigw := (gb1 9 (by decide +kernel) (by decide +kernel))
theorem ms_X5_difference : .instanceMethod yX5_difference ∈ bigw ∧ .selects (yX5_difference : MethodName).cls yX5_difference yX5_difference ∈ bigw := ⟨(gb3 158 (by decide +kernel) (by decide +kernel)), (gb3 159 (by decide +kernel) (by decide +kernel))⟩
theorem lkX5_127 : LKV RX5 127 yX5_difference cX5_difference 2 (some .int) 1 := ⟨⟨(gb3 157 (by decide +kernel) (by decide +kernel)), mc_X5_difference, mi_X5_difference, by decide, by decide +kernel⟩, ms_X5_difference.1, ms_X5_difference.2⟩
set_option maxRecDepth 100000 in
theorem mc_Math_abs : .code Lib.Math.abs.name Lib.Math.abs.code 1 (some .int) ∈ bigw := (gb3 163 rfl (by decide +kernel))
theorem mi_Math_abs : .initialized (Lib.Math.abs.name : MethodName).cls ∈ bigw := (gb1 20 (by decide +kernel) (by decide +kernel))
theorem ms_Math_abs : .static Lib.Math.abs.name ∈ bigw := (gb3 162 (by decide +kernel) (by decide +kernel))
theorem lkX5_117 : LKS RX5 117 Lib.Math.abs.name Lib.Math.abs.code 1 (some .int) 1 := ⟨⟨(gb3 161 (by decide +kernel) (by decide +kernel)), mc_Math_abs, mi_Math_abs, by decide, by decide +kernel⟩, ms_Math_abs⟩
set_option maxRecDepth 100000 in
theorem mc_X9_beginTrial : .code yX9_beginTrial cX9_beginTrial 1 none ∈ bigw := (gb3 182 rfl (by decide +kernel))
theorem mi_X9_beginTrial : .initialized (yX9_beginTrial : MethodName).cls ∈ bigw := (gb1 1 (by decide +kernel) (by decide +kernel))
theorem ms_X9_beginTrial : .instanceMethod yX9_beginTrial ∈ bigw ∧ .selects (yX9_beginTrial : MethodName).cls yX9_beginTrial yX9_beginTrial ∈ bigw := ⟨(gb3 181 (by decide +kernel) (by decide +kernel)), (gb0 9 (by decide +kernel) (by decide +kernel))⟩
theorem lkX9_139 : LKV RX9 139 yX9_beginTrial cX9_beginTrial 1 none 0 := ⟨⟨(gb3 179 (by decide +kernel) (by decide +kernel)), mc_X9_beginTrial, mi_X9_beginTrial, by decide, by decide +kernel⟩, ms_X9_beginTrial.1, ms_X9_beginTrial.2⟩
set_option maxRecDepth 100000 in
theorem mc_X5_copyFrom : .code yX5_copyFrom cX5_copyFrom 2 none ∈ bigw := (gb3 186 rfl (by decide +kernel))
theorem mi_X5_copyFrom : .initialized (yX5_copyFrom : MethodName).cls ∈ bigw := (gb1 9 (by decide +kernel) (by decide +kernel))
theorem ms_X5_copyFrom : .instanceMethod yX5_copyFrom ∈ bigw ∧ .selects (yX5_copyFrom : MethodName).cls yX5_copyFrom yX5_copyFrom ∈ bigw := ⟨(gb3 184 (by decide +kernel) (by decide +kernel)), (gb3 185 (by decide +kernel) (by decide +kernel))⟩
theorem lkX9_382 : LKV RX9 382 yX5_copyFrom cX5_copyFrom 2 none 1 := ⟨⟨(gb3 183 (by decide +kernel) (by decide +kernel)), mc_X5_copyFrom, mi_X5_copyFrom, by decide, by decide +kernel⟩, ms_X5_copyFrom.1, ms_X5_copyFrom.2⟩
theorem lkX5_98 : LKA RX5 98 := ⟨(gb3 187 (by decide +kernel) (by decide +kernel)), (gb3 63 (by decide +kernel) (by decide +kernel)), (gb3 62 (by decide +kernel) (by decide +kernel)), (gb1 21 (by decide +kernel) (by decide +kernel))⟩
set_option maxRecDepth 100000 in
theorem mc_X7_copyFrom : .code yX7_copyFrom cX7_copyFrom 2 none ∈ bigw := (gb3 191 rfl (by decide +kernel))
theorem mi_X7_copyFrom : .initialized (yX7_copyFrom : MethodName).cls ∈ bigw := (gb1 10 (by decide +kernel) (by decide +kernel))
theorem ms_X7_copyFrom : .instanceMethod yX7_copyFrom ∈ bigw ∧ .selects (yX7_copyFrom : MethodName).cls yX7_copyFrom yX7_copyFrom ∈ bigw := ⟨(gb3 189 (by decide +kernel) (by decide +kernel)), (gb3 190 (by decide +kernel) (by decide +kernel))⟩
theorem lkX5_104 : LKV RX5 104 yX7_copyFrom cX7_copyFrom 2 none 1 := ⟨⟨(gb3 188 (by decide +kernel) (by decide +kernel)), mc_X7_copyFrom, mi_X7_copyFrom, by decide, by decide +kernel⟩, ms_X7_copyFrom.1, ms_X7_copyFrom.2⟩
theorem lkX7_24 : LKA RX7 24 := ⟨(gb3 192 (by decide +kernel) (by decide +kernel)), (gb3 63 (by decide +kernel) (by decide +kernel)), (gb3 62 (by decide +kernel) (by decide +kernel)), (gb1 21 (by decide +kernel) (by decide +kernel))⟩
set_option maxRecDepth 100000 in
theorem mc_X5_openValve : .code yX5_openValve cX5_openValve 2 none ∈ bigw := (gb3 196 rfl (by decide +kernel))
theorem mi_X5_openValve : .initialized (yX5_openValve : MethodName).cls ∈ bigw := (gb1 9 (by decide +kernel) (by decide +kernel))
theorem ms_X5_openValve : .instanceMethod yX5_openValve ∈ bigw ∧ .selects (yX5_openValve : MethodName).cls yX5_openValve yX5_openValve ∈ bigw := ⟨(gb3 194 (by decide +kernel) (by decide +kernel)), (gb3 195 (by decide +kernel) (by decide +kernel))⟩
theorem lkX9_142 : LKV RX9 142 yX5_openValve cX5_openValve 2 none 1 := ⟨⟨(gb3 193 (by decide +kernel) (by decide +kernel)), mc_X5_openValve, mi_X5_openValve, by decide, by decide +kernel⟩, ms_X5_openValve.1, ms_X5_openValve.2⟩
set_option maxRecDepth 100000 in
theorem mc_X9_keepTrial : .code yX9_keepTrial cX9_keepTrial 2 none ∈ bigw := (gb3 200 rfl (by decide +kernel))
theorem mi_X9_keepTrial : .initialized (yX9_keepTrial : MethodName).cls ∈ bigw := (gb1 1 (by decide +kernel) (by decide +kernel))
theorem ms_X9_keepTrial : .instanceMethod yX9_keepTrial ∈ bigw ∧ .selects (yX9_keepTrial : MethodName).cls yX9_keepTrial yX9_keepTrial ∈ bigw := ⟨(gb3 199 (by decide +kernel) (by decide +kernel)), (gb0 10 (by decide +kernel) (by decide +kernel))⟩
theorem lkX9_145 : LKV RX9 145 yX9_keepTrial cX9_keepTrial 2 none 0 := ⟨⟨(gb3 197 (by decide +kernel) (by decide +kernel)), mc_X9_keepTrial, mi_X9_keepTrial, by decide, by decide +kernel⟩, ms_X9_keepTrial.1, ms_X9_keepTrial.2⟩
theorem lkX9_317 : LKS RX9 317 Lib.Math.min.name Lib.Math.min.code 2 (some .int) 2 := ⟨⟨(gb3 201 (by decide +kernel) (by decide +kernel)), mc_Math_min, mi_Math_min, by decide, by decide +kernel⟩, ms_Math_min⟩
theorem lkX9_148 : LKV RX9 148 yX5_difference cX5_difference 2 (some .int) 1 := ⟨⟨(gb3 202 (by decide +kernel) (by decide +kernel)), mc_X5_difference, mi_X5_difference, by decide, by decide +kernel⟩, ms_X5_difference.1, ms_X5_difference.2⟩
set_option maxRecDepth 100000 in
theorem mc_X9_close : .code yX9_close cX9_close 2 (some .int) ∈ bigw := (gb3 206 rfl (by decide +kernel))
theorem mi_X9_close : .initialized (yX9_close : MethodName).cls ∈ bigw := (gb1 1 (by decide +kernel) (by decide +kernel))
theorem ms_X9_close : .instanceMethod yX9_close ∈ bigw ∧ .selects (yX9_close : MethodName).cls yX9_close yX9_close ∈ bigw := ⟨(gb3 204 (by decide +kernel) (by decide +kernel)), (gb3 205 (by decide +kernel) (by decide +kernel))⟩
theorem lkL_125 : LKV RL 125 yX9_close cX9_close 2 (some .int) 1 := ⟨⟨(gb3 203 (by decide +kernel) (by decide +kernel)), mc_X9_close, mi_X9_close, by decide, by decide +kernel⟩, ms_X9_close.1, ms_X9_close.2⟩
theorem lkX9_151 : LKV RX9 151 yX5_isOpen cX5_isOpen 2 (some .boolean) 1 := ⟨⟨(gb3 207 (by decide +kernel) (by decide +kernel)), mc_X5_isOpen, mi_X5_isOpen, by decide, by decide +kernel⟩, ms_X5_isOpen.1, ms_X5_isOpen.2⟩
set_option maxRecDepth 100000 in
theorem mc_X5_closeValve : .code yX5_closeValve cX5_closeValve 2 none ∈ bigw := (gb3 211 rfl (by decide +kernel))
theorem mi_X5_closeValve : .initialized (yX5_closeValve : MethodName).cls ∈ bigw := (gb1 9 (by decide +kernel) (by decide +kernel))
theorem ms_X5_closeValve : .instanceMethod yX5_closeValve ∈ bigw ∧ .selects (yX5_closeValve : MethodName).cls yX5_closeValve yX5_closeValve ∈ bigw := ⟨(gb3 209 (by decide +kernel) (by decide +kernel)), (gb3 210 (by decide +kernel) (by decide +kernel))⟩
theorem lkX9_154 : LKV RX9 154 yX5_closeValve cX5_closeValve 2 none 1 := ⟨⟨(gb3 208 (by decide +kernel) (by decide +kernel)), mc_X5_closeValve, mi_X5_closeValve, by decide, by decide +kernel⟩, ms_X5_closeValve.1, ms_X5_closeValve.2⟩
set_option maxRecDepth 100000 in
theorem mc_X9_start : .code yX9_start cX9_start 2 (some .int) ∈ bigw := (gb3 215 rfl (by decide +kernel))
theorem mi_X9_start : .initialized (yX9_start : MethodName).cls ∈ bigw := (gb1 1 (by decide +kernel) (by decide +kernel))
theorem ms_X9_start : .instanceMethod yX9_start ∈ bigw ∧ .selects (yX9_start : MethodName).cls yX9_start yX9_start ∈ bigw := ⟨(gb3 213 (by decide +kernel) (by decide +kernel)), (gb3 214 (by decide +kernel) (by decide +kernel))⟩
theorem lkL_128 : LKV RL 128 yX9_start cX9_start 2 (some .int) 1 := ⟨⟨(gb3 212 (by decide +kernel) (by decide +kernel)), mc_X9_start, mi_X9_start, by decide, by decide +kernel⟩, ms_X9_start.1, ms_X9_start.2⟩
set_option maxRecDepth 100000 in
theorem mc_X1_hasPump : .code yX1_hasPump cX1_hasPump 2 (some .boolean) ∈ bigw := (gb3 219 rfl (by decide +kernel))
theorem mi_X1_hasPump : .initialized (yX1_hasPump : MethodName).cls ∈ bigw := (gb1 4 (by decide +kernel) (by decide +kernel))
theorem ms_X1_hasPump : .instanceMethod yX1_hasPump ∈ bigw ∧ .selects (yX1_hasPump : MethodName).cls yX1_hasPump yX1_hasPump ∈ bigw := ⟨(gb3 217 (by decide +kernel) (by decide +kernel)), (gb3 218 (by decide +kernel) (by decide +kernel))⟩
theorem lkX9_157 : LKV RX9 157 yX1_hasPump cX1_hasPump 2 (some .boolean) 1 := ⟨⟨(gb3 216 (by decide +kernel) (by decide +kernel)), mc_X1_hasPump, mi_X1_hasPump, by decide, by decide +kernel⟩, ms_X1_hasPump.1, ms_X1_hasPump.2⟩
set_option maxRecDepth 100000 in
theorem mc_X5_startingBar : .code yX5_startingBar cX5_startingBar 2 (some .int) ∈ bigw := (gb3 223 rfl (by decide +kernel))
theorem mi_X5_startingBar : .initialized (yX5_startingBar : MethodName).cls ∈ bigw := (gb1 9 (by decide +kernel) (by decide +kernel))
theorem ms_X5_startingBar : .instanceMethod yX5_startingBar ∈ bigw ∧ .selects (yX5_startingBar : MethodName).cls yX5_startingBar yX5_startingBar ∈ bigw := ⟨(gb3 221 (by decide +kernel) (by decide +kernel)), (gb3 222 (by decide +kernel) (by decide +kernel))⟩
theorem lkX9_160 : LKV RX9 160 yX5_startingBar cX5_startingBar 2 (some .int) 1 := ⟨⟨(gb3 220 (by decide +kernel) (by decide +kernel)), mc_X5_startingBar, mi_X5_startingBar, by decide, by decide +kernel⟩, ms_X5_startingBar.1, ms_X5_startingBar.2⟩
set_option maxRecDepth 100000 in
theorem mc_X5_isRunning : .code yX5_isRunning cX5_isRunning 2 (some .boolean) ∈ bigw := (gb3 227 rfl (by decide +kernel))
theorem mi_X5_isRunning : .initialized (yX5_isRunning : MethodName).cls ∈ bigw := (gb1 9 (by decide +kernel) (by decide +kernel))
theorem ms_X5_isRunning : .instanceMethod yX5_isRunning ∈ bigw ∧ .selects (yX5_isRunning : MethodName).cls yX5_isRunning yX5_isRunning ∈ bigw := ⟨(gb3 225 (by decide +kernel) (by decide +kernel)), (gb3 226 (by decide +kernel) (by decide +kernel))⟩
theorem lkX5_130 : LKV RX5 130 yX5_isRunning cX5_isRunning 2 (some .boolean) 1 := ⟨⟨(gb3 224 (by decide +kernel) (by decide +kernel)), mc_X5_isRunning, mi_X5_isRunning, by decide, by decide +kernel⟩, ms_X5_isRunning.1, ms_X5_isRunning.2⟩
set_option maxRecDepth 100000 in
theorem mc_X5_conditionBar : .code yX5_conditionBar cX5_conditionBar 3 (some .int) ∈ bigw := (gb3 231 rfl (by decide +kernel))
theorem mi_X5_conditionBar : .initialized (yX5_conditionBar : MethodName).cls ∈ bigw := (gb1 9 (by decide +kernel) (by decide +kernel))
theorem ms_X5_conditionBar : .instanceMethod yX5_conditionBar ∈ bigw ∧ .selects (yX5_conditionBar : MethodName).cls yX5_conditionBar yX5_conditionBar ∈ bigw := ⟨(gb3 230 (by decide +kernel) (by decide +kernel)), (gb0 11 (by decide +kernel) (by decide +kernel))⟩
theorem lkX5_133 : LKV RX5 133 yX5_conditionBar cX5_conditionBar 3 (some .int) 1 := ⟨⟨(gb3 228 (by decide +kernel) (by decide +kernel)), mc_X5_conditionBar, mi_X5_conditionBar, by decide, by decide +kernel⟩, ms_X5_conditionBar.1, ms_X5_conditionBar.2⟩
set_option maxRecDepth 100000 in
theorem mc_X5_startPump : .code yX5_startPump cX5_startPump 2 none ∈ bigw := (gb3 235 rfl (by decide +kernel))
theorem mi_X5_startPump : .initialized (yX5_startPump : MethodName).cls ∈ bigw := (gb1 9 (by decide +kernel) (by decide +kernel))
theorem ms_X5_startPump : .instanceMethod yX5_startPump ∈ bigw ∧ .selects (yX5_startPump : MethodName).cls yX5_startPump yX5_startPump ∈ bigw := ⟨(gb3 233 (by decide +kernel) (by decide +kernel)), (gb3 234 (by decide +kernel) (by decide +kernel))⟩
theorem lkX9_163 : LKV RX9 163 yX5_startPump cX5_startPump 2 none 1 := ⟨⟨(gb3 232 (by decide +kernel) (by decide +kernel)), mc_X5_startPump, mi_X5_startPump, by decide, by decide +kernel⟩, ms_X5_startPump.1, ms_X5_startPump.2⟩
set_option maxRecDepth 100000 in
theorem mc_X9_stop : .code yX9_stop cX9_stop 2 (some .int) ∈ bigw := (gb3 239 rfl (by decide +kernel))
theorem mi_X9_stop : .initialized (yX9_stop : MethodName).cls ∈ bigw := (gb1 1 (by decide +kernel) (by decide +kernel))
theorem ms_X9_stop : .instanceMethod yX9_stop ∈ bigw ∧ .selects (yX9_stop : MethodName).cls yX9_stop yX9_stop ∈ bigw := ⟨(gb3 237 (by decide +kernel) (by decide +kernel)), (gb3 238 (by decide +kernel) (by decide +kernel))⟩
theorem lkL_131 : LKV RL 131 yX9_stop cX9_stop 2 (some .int) 1 := ⟨⟨(gb3 236 (by decide +kernel) (by decide +kernel)), mc_X9_stop, mi_X9_stop, by decide, by decide +kernel⟩, ms_X9_stop.1, ms_X9_stop.2⟩
theorem lkX9_173 : LKV RX9 173 yX5_isRunning cX5_isRunning 2 (some .boolean) 1 := ⟨⟨(gb4 0 (by decide +kernel) (by decide +kernel)), mc_X5_isRunning, mi_X5_isRunning, by decide, by decide +kernel⟩, ms_X5_isRunning.1, ms_X5_isRunning.2⟩
set_option maxRecDepth 100000 in
theorem mc_X5_stopPump : .code yX5_stopPump cX5_stopPump 2 none ∈ bigw := (gb4 4 rfl (by decide +kernel))
theorem mi_X5_stopPump : .initialized (yX5_stopPump : MethodName).cls ∈ bigw := (gb1 9 (by decide +kernel) (by decide +kernel))
theorem ms_X5_stopPump : .instanceMethod yX5_stopPump ∈ bigw ∧ .selects (yX5_stopPump : MethodName).cls yX5_stopPump yX5_stopPump ∈ bigw := ⟨(gb4 2 (by decide +kernel) (by decide +kernel)), (gb4 3 (by decide +kernel) (by decide +kernel))⟩
theorem lkX9_176 : LKV RX9 176 yX5_stopPump cX5_stopPump 2 none 1 := ⟨⟨(gb4 1 (by decide +kernel) (by decide +kernel)), mc_X5_stopPump, mi_X5_stopPump, by decide, by decide +kernel⟩, ms_X5_stopPump.1, ms_X5_stopPump.2⟩
set_option maxRecDepth 100000 in
theorem mc_X9_pass : .code yX9_pass cX9_pass 3 (some .int) ∈ bigw := (gb4 8 rfl (by decide +kernel))
theorem mi_X9_pass : .initialized (yX9_pass : MethodName).cls ∈ bigw := (gb1 1 (by decide +kernel) (by decide +kernel))
theorem ms_X9_pass : .instanceMethod yX9_pass ∈ bigw ∧ .selects (yX9_pass : MethodName).cls yX9_pass yX9_pass ∈ bigw := ⟨(gb4 6 (by decide +kernel) (by decide +kernel)), (gb4 7 (by decide +kernel) (by decide +kernel))⟩
theorem lkL_134 : LKV RL 134 yX9_pass cX9_pass 3 (some .int) 1 := ⟨⟨(gb4 5 (by decide +kernel) (by decide +kernel)), mc_X9_pass, mi_X9_pass, by decide, by decide +kernel⟩, ms_X9_pass.1, ms_X9_pass.2⟩
set_option maxRecDepth 100000 in
theorem mc_X9_isTicks : .code yX9_isTicks cX9_isTicks 1 (some .boolean) ∈ bigw := (gb4 11 rfl (by decide +kernel))
theorem mi_X9_isTicks : .initialized (yX9_isTicks : MethodName).cls ∈ bigw := (gb1 1 (by decide +kernel) (by decide +kernel))
theorem ms_X9_isTicks : .static yX9_isTicks ∈ bigw := (gb4 10 (by decide +kernel) (by decide +kernel))
theorem lkX9_179 : LKS RX9 179 yX9_isTicks cX9_isTicks 1 (some .boolean) 1 := ⟨⟨(gb4 9 (by decide +kernel) (by decide +kernel)), mc_X9_isTicks, mi_X9_isTicks, by decide, by decide +kernel⟩, ms_X9_isTicks⟩
set_option maxRecDepth 100000 in
theorem mc_X5_passTicks : .code yX5_passTicks cX5_passTicks 4 (some .int) ∈ bigw := (gb4 30 rfl (by decide +kernel))
theorem mi_X5_passTicks : .initialized (yX5_passTicks : MethodName).cls ∈ bigw := (gb1 9 (by decide +kernel) (by decide +kernel))
theorem ms_X5_passTicks : .instanceMethod yX5_passTicks ∈ bigw ∧ .selects (yX5_passTicks : MethodName).cls yX5_passTicks yX5_passTicks ∈ bigw := ⟨(gb4 28 (by decide +kernel) (by decide +kernel)), (gb4 29 (by decide +kernel) (by decide +kernel))⟩
theorem lkX9_182 : LKV RX9 182 yX5_passTicks cX5_passTicks 4 (some .int) 1 := ⟨⟨(gb4 27 (by decide +kernel) (by decide +kernel)), mc_X5_passTicks, mi_X5_passTicks, by decide, by decide +kernel⟩, ms_X5_passTicks.1, ms_X5_passTicks.2⟩
set_option maxRecDepth 100000 in
theorem mc_X5_tick : .code yX5_tick cX5_tick 2 (some .int) ∈ bigw := (gb4 34 rfl (by decide +kernel))
theorem mi_X5_tick : .initialized (yX5_tick : MethodName).cls ∈ bigw := (gb1 9 (by decide +kernel) (by decide +kernel))
theorem ms_X5_tick : .instanceMethod yX5_tick ∈ bigw ∧ .selects (yX5_tick : MethodName).cls yX5_tick yX5_tick ∈ bigw := ⟨(gb4 32 (by decide +kernel) (by decide +kernel)), (gb4 33 (by decide +kernel) (by decide +kernel))⟩
theorem lkX5_155 : LKV RX5 155 yX5_tick cX5_tick 2 (some .int) 0 := ⟨⟨(gb4 31 (by decide +kernel) (by decide +kernel)), mc_X5_tick, mi_X5_tick, by decide, by decide +kernel⟩, ms_X5_tick.1, ms_X5_tick.2⟩
set_option maxRecDepth 100000 in
theorem mc_X5_tripValves : .code yX5_tripValves cX5_tripValves 3 (some .int) ∈ bigw := (gb4 38 rfl (by decide +kernel))
theorem mi_X5_tripValves : .initialized (yX5_tripValves : MethodName).cls ∈ bigw := (gb1 9 (by decide +kernel) (by decide +kernel))
theorem ms_X5_tripValves : .instanceMethod yX5_tripValves ∈ bigw ∧ .selects (yX5_tripValves : MethodName).cls yX5_tripValves yX5_tripValves ∈ bigw := ⟨(gb4 37 (by decide +kernel) (by decide +kernel)), (gb0 12 (by decide +kernel) (by decide +kernel))⟩
theorem lkX5_167 : LKV RX5 167 yX5_tripValves cX5_tripValves 3 (some .int) 0 := ⟨⟨(gb4 35 (by decide +kernel) (by decide +kernel)), mc_X5_tripValves, mi_X5_tripValves, by decide, by decide +kernel⟩, ms_X5_tripValves.1, ms_X5_tripValves.2⟩
theorem lkX5_179 : LKV RX5 179 yX5_closeValve cX5_closeValve 2 none 1 := ⟨⟨(gb4 39 (by decide +kernel) (by decide +kernel)), mc_X5_closeValve, mi_X5_closeValve, by decide, by decide +kernel⟩, ms_X5_closeValve.1, ms_X5_closeValve.2⟩
set_option maxRecDepth 100000 in
theorem mc_X5_letGasIn : .code yX5_letGasIn cX5_letGasIn 4 none ∈ bigw := (gb4 43 rfl (by decide +kernel))
theorem mi_X5_letGasIn : .initialized (yX5_letGasIn : MethodName).cls ∈ bigw := (gb1 9 (by decide +kernel) (by decide +kernel))
theorem ms_X5_letGasIn : .instanceMethod yX5_letGasIn ∈ bigw ∧ .selects (yX5_letGasIn : MethodName).cls yX5_letGasIn yX5_letGasIn ∈ bigw := ⟨(gb4 42 (by decide +kernel) (by decide +kernel)), (gb0 13 (by decide +kernel) (by decide +kernel))⟩
theorem lkX5_170 : LKV RX5 170 yX5_letGasIn cX5_letGasIn 4 none 0 := ⟨⟨(gb4 40 (by decide +kernel) (by decide +kernel)), mc_X5_letGasIn, mi_X5_letGasIn, by decide, by decide +kernel⟩, ms_X5_letGasIn.1, ms_X5_letGasIn.2⟩
set_option maxRecDepth 100000 in
theorem mc_X5_moveThroughValves : .code yX5_moveThroughValves cX5_moveThroughValves 6 none ∈ bigw := (gb4 48 rfl (by decide +kernel))
theorem mi_X5_moveThroughValves : .initialized (yX5_moveThroughValves : MethodName).cls ∈ bigw := (gb1 9 (by decide +kernel) (by decide +kernel))
theorem ms_X5_moveThroughValves : .instanceMethod yX5_moveThroughValves ∈ bigw ∧ .selects (yX5_moveThroughValves : MethodName).cls yX5_moveThroughValves yX5_moveThroughValves ∈ bigw := ⟨(gb4 47 (by decide +kernel) (by decide +kernel)), (gb0 14 (by decide +kernel) (by decide +kernel))⟩
theorem lkX5_173 : LKV RX5 173 yX5_moveThroughValves cX5_moveThroughValves 6 none 0 := ⟨⟨(gb4 45 (by decide +kernel) (by decide +kernel)), mc_X5_moveThroughValves, mi_X5_moveThroughValves, by decide, by decide +kernel⟩, ms_X5_moveThroughValves.1, ms_X5_moveThroughValves.2⟩
set_option maxRecDepth 100000 in
theorem mc_X5_flow : .code yX5_flow cX5_flow 13 (some .long) ∈ bigw := (gb4 52 rfl (by decide +kernel))
theorem mi_X5_flow : .initialized (yX5_flow : MethodName).cls ∈ bigw := (gb1 9 (by decide +kernel) (by decide +kernel))
theorem ms_X5_flow : .instanceMethod yX5_flow ∈ bigw ∧ .selects (yX5_flow : MethodName).cls yX5_flow yX5_flow ∈ bigw := ⟨(gb4 51 (by decide +kernel) (by decide +kernel)), (gb0 15 (by decide +kernel) (by decide +kernel))⟩
theorem lkX5_187 : LKV RX5 187 yX5_flow cX5_flow 13 (some .long) 2 := ⟨⟨(gb4 49 (by decide +kernel) (by decide +kernel)), mc_X5_flow, mi_X5_flow, by decide, by decide +kernel⟩, ms_X5_flow.1, ms_X5_flow.2⟩
set_option maxRecDepth 100000 in
theorem mc_Math_min_l : .code Lib.MathLoose.min_long.x Lib.MathLoose.min_long.code 4 (some .long) ∈ bigw := (gb4 55 rfl (by decide +kernel))
theorem mi_Math_min_l : .initialized (Lib.MathLoose.min_long.x : MethodName).cls ∈ bigw := (gb1 20 (by decide +kernel) (by decide +kernel))
theorem ms_Math_min_l : .static Lib.MathLoose.min_long.x ∈ bigw := (gb4 54 (by decide +kernel) (by decide +kernel))
theorem lkX5_194 : LKS RX5 194 Lib.MathLoose.min_long.x Lib.MathLoose.min_long.code 4 (some .long) 2 := ⟨⟨(gb4 53 (by decide +kernel) (by decide +kernel)), mc_Math_min_l, mi_Math_min_l, by decide, by decide +kernel⟩, ms_Math_min_l⟩
set_option maxRecDepth 100000 in
theorem mc_X5_runPumps : .code yX5_runPumps cX5_runPumps 6 (some .int) ∈ bigw := (gb4 59 rfl (by decide +kernel))
theorem mi_X5_runPumps : .initialized (yX5_runPumps : MethodName).cls ∈ bigw := (gb1 9 (by decide +kernel) (by decide +kernel))
theorem ms_X5_runPumps : .instanceMethod yX5_runPumps ∈ bigw ∧ .selects (yX5_runPumps : MethodName).cls yX5_runPumps yX5_runPumps ∈ bigw := ⟨(gb4 58 (by decide +kernel) (by decide +kernel)), (gb0 16 (by decide +kernel) (by decide +kernel))⟩
theorem lkX5_176 : LKV RX5 176 yX5_runPumps cX5_runPumps 6 (some .int) 0 := ⟨⟨(gb4 56 (by decide +kernel) (by decide +kernel)), mc_X5_runPumps, mi_X5_runPumps, by decide, by decide +kernel⟩, ms_X5_runPumps.1, ms_X5_runPumps.2⟩
theorem lkX5_198 : LKV RX5 198 yX5_stopPump cX5_stopPump 2 none 1 := ⟨⟨(gb4 60 (by decide +kernel) (by decide +kernel)), mc_X5_stopPump, mi_X5_stopPump, by decide, by decide +kernel⟩, ms_X5_stopPump.1, ms_X5_stopPump.2⟩
set_option maxRecDepth 100000 in
theorem mc_X9_passUntil : .code yX9_passUntil cX9_passUntil 4 (some .int) ∈ bigw := (gb4 64 rfl (by decide +kernel))
theorem mi_X9_passUntil : .initialized (yX9_passUntil : MethodName).cls ∈ bigw := (gb1 1 (by decide +kernel) (by decide +kernel))
theorem ms_X9_passUntil : .instanceMethod yX9_passUntil ∈ bigw ∧ .selects (yX9_passUntil : MethodName).cls yX9_passUntil yX9_passUntil ∈ bigw := ⟨(gb4 62 (by decide +kernel) (by decide +kernel)), (gb4 63 (by decide +kernel) (by decide +kernel))⟩
theorem lkL_149 : LKV RL 149 yX9_passUntil cX9_passUntil 4 (some .int) 2 := ⟨⟨(gb4 61 (by decide +kernel) (by decide +kernel)), mc_X9_passUntil, mi_X9_passUntil, by decide, by decide +kernel⟩, ms_X9_passUntil.1, ms_X9_passUntil.2⟩
set_option maxRecDepth 100000 in
theorem mc_X1_hasChamber : .code yX1_hasChamber cX1_hasChamber 2 (some .boolean) ∈ bigw := (gb4 68 rfl (by decide +kernel))
theorem mi_X1_hasChamber : .initialized (yX1_hasChamber : MethodName).cls ∈ bigw := (gb1 4 (by decide +kernel) (by decide +kernel))
theorem ms_X1_hasChamber : .instanceMethod yX1_hasChamber ∈ bigw ∧ .selects (yX1_hasChamber : MethodName).cls yX1_hasChamber yX1_hasChamber ∈ bigw := ⟨(gb4 66 (by decide +kernel) (by decide +kernel)), (gb4 67 (by decide +kernel) (by decide +kernel))⟩
theorem lkX9_185 : LKV RX9 185 yX1_hasChamber cX1_hasChamber 2 (some .boolean) 1 := ⟨⟨(gb4 65 (by decide +kernel) (by decide +kernel)), mc_X1_hasChamber, mi_X1_hasChamber, by decide, by decide +kernel⟩, ms_X1_hasChamber.1, ms_X1_hasChamber.2⟩
set_option maxRecDepth 100000 in
theorem mc_X9_isPressure : .code yX9_isPressure cX9_isPressure 1 (some .boolean) ∈ bigw := (gb4 71 rfl (by decide +kernel))
theorem mi_X9_isPressure : .initialized (yX9_isPressure : MethodName).cls ∈ bigw := (gb1 1 (by decide +kernel) (by decide +kernel))
theorem ms_X9_isPressure : .static yX9_isPressure ∈ bigw := (gb4 70 (by decide +kernel) (by decide +kernel))
theorem lkX9_188 : LKS RX9 188 yX9_isPressure cX9_isPressure 1 (some .boolean) 1 := ⟨⟨(gb4 69 (by decide +kernel) (by decide +kernel)), mc_X9_isPressure, mi_X9_isPressure, by decide, by decide +kernel⟩, ms_X9_isPressure⟩
set_option maxRecDepth 100000 in
theorem mc_X5_passUntilAtMost : .code yX5_passUntilAtMost cX5_passUntilAtMost 4 (some .int) ∈ bigw := (gb4 76 rfl (by decide +kernel))
theorem mi_X5_passUntilAtMost : .initialized (yX5_passUntilAtMost : MethodName).cls ∈ bigw := (gb1 9 (by decide +kernel) (by decide +kernel))
theorem ms_X5_passUntilAtMost : .instanceMethod yX5_passUntilAtMost ∈ bigw ∧ .selects (yX5_passUntilAtMost : MethodName).cls yX5_passUntilAtMost yX5_passUntilAtMost ∈ bigw := ⟨(gb4 74 (by decide +kernel) (by decide +kernel)), (gb4 75 (by decide +kernel) (by decide +kernel))⟩
theorem lkX9_191 : LKV RX9 191 yX5_passUntilAtMost cX5_passUntilAtMost 4 (some .int) 2 := ⟨⟨(gb4 73 (by decide +kernel) (by decide +kernel)), mc_X5_passUntilAtMost, mi_X5_passUntilAtMost, by decide, by decide +kernel⟩, ms_X5_passUntilAtMost.1, ms_X5_passUntilAtMost.2⟩
set_option maxRecDepth 100000 in
theorem mc_X9_seal : .code yX9_seal cX9_seal 2 (some .int) ∈ bigw := (gb4 80 rfl (by decide +kernel))
theorem mi_X9_seal : .initialized (yX9_seal : MethodName).cls ∈ bigw := (gb1 1 (by decide +kernel) (by decide +kernel))
theorem ms_X9_seal : .instanceMethod yX9_seal ∈ bigw ∧ .selects (yX9_seal : MethodName).cls yX9_seal yX9_seal ∈ bigw := ⟨(gb4 78 (by decide +kernel) (by decide +kernel)), (gb4 79 (by decide +kernel) (by decide +kernel))⟩
theorem lkL_137 : LKV RL 137 yX9_seal cX9_seal 2 (some .int) 1 := ⟨⟨(gb4 77 (by decide +kernel) (by decide +kernel)), mc_X9_seal, mi_X9_seal, by decide, by decide +kernel⟩, ms_X9_seal.1, ms_X9_seal.2⟩
set_option maxRecDepth 100000 in
theorem mc_X1_hasFlange : .code yX1_hasFlange cX1_hasFlange 2 (some .boolean) ∈ bigw := (gb4 84 rfl (by decide +kernel))
theorem mi_X1_hasFlange : .initialized (yX1_hasFlange : MethodName).cls ∈ bigw := (gb1 4 (by decide +kernel) (by decide +kernel))
theorem ms_X1_hasFlange : .instanceMethod yX1_hasFlange ∈ bigw ∧ .selects (yX1_hasFlange : MethodName).cls yX1_hasFlange yX1_hasFlange ∈ bigw := ⟨(gb4 82 (by decide +kernel) (by decide +kernel)), (gb4 83 (by decide +kernel) (by decide +kernel))⟩
theorem lkX9_195 : LKV RX9 195 yX1_hasFlange cX1_hasFlange 2 (some .boolean) 1 := ⟨⟨(gb4 81 (by decide +kernel) (by decide +kernel)), mc_X1_hasFlange, mi_X1_hasFlange, by decide, by decide +kernel⟩, ms_X1_hasFlange.1, ms_X1_hasFlange.2⟩
set_option maxRecDepth 100000 in
theorem mc_X9_changeLeak : .code yX9_changeLeak cX9_changeLeak 4 (some .int) ∈ bigw := (gb4 88 rfl (by decide +kernel))
theorem mi_X9_changeLeak : .initialized (yX9_changeLeak : MethodName).cls ∈ bigw := (gb1 1 (by decide +kernel) (by decide +kernel))
theorem ms_X9_changeLeak : .instanceMethod yX9_changeLeak ∈ bigw ∧ .selects (yX9_changeLeak : MethodName).cls yX9_changeLeak yX9_changeLeak ∈ bigw := ⟨(gb4 87 (by decide +kernel) (by decide +kernel)), (gb0 17 (by decide +kernel) (by decide +kernel))⟩
theorem lkX9_198 : LKV RX9 198 yX9_changeLeak cX9_changeLeak 4 (some .int) 2 := ⟨⟨(gb4 85 (by decide +kernel) (by decide +kernel)), mc_X9_changeLeak, mi_X9_changeLeak, by decide, by decide +kernel⟩, ms_X9_changeLeak.1, ms_X9_changeLeak.2⟩
theorem lkX9_385 : LKV RX9 385 yX5_putLeak cX5_putLeak 3 none 2 := ⟨⟨(gb4 89 (by decide +kernel) (by decide +kernel)), mc_X5_putLeak, mi_X5_putLeak, by decide, by decide +kernel⟩, ms_X5_putLeak.1, ms_X5_putLeak.2⟩
set_option maxRecDepth 100000 in
theorem mc_X9_setLeak : .code yX9_setLeak cX9_setLeak 3 (some .int) ∈ bigw := (gb4 93 rfl (by decide +kernel))
theorem mi_X9_setLeak : .initialized (yX9_setLeak : MethodName).cls ∈ bigw := (gb1 1 (by decide +kernel) (by decide +kernel))
theorem ms_X9_setLeak : .instanceMethod yX9_setLeak ∈ bigw ∧ .selects (yX9_setLeak : MethodName).cls yX9_setLeak yX9_setLeak ∈ bigw := ⟨(gb4 91 (by decide +kernel) (by decide +kernel)), (gb4 92 (by decide +kernel) (by decide +kernel))⟩
theorem lkL_140 : LKV RL 140 yX9_setLeak cX9_setLeak 3 (some .int) 2 := ⟨⟨(gb4 90 (by decide +kernel) (by decide +kernel)), mc_X9_setLeak, mi_X9_setLeak, by decide, by decide +kernel⟩, ms_X9_setLeak.1, ms_X9_setLeak.2⟩
set_option maxRecDepth 100000 in
theorem mc_X9_setRule : .code yX9_setRule cX9_setRule 4 (some .int) ∈ bigw := (gb4 97 rfl (by decide +kernel))
theorem mi_X9_setRule : .initialized (yX9_setRule : MethodName).cls ∈ bigw := (gb1 1 (by decide +kernel) (by decide +kernel))
theorem ms_X9_setRule : .instanceMethod yX9_setRule ∈ bigw ∧ .selects (yX9_setRule : MethodName).cls yX9_setRule yX9_setRule ∈ bigw := ⟨(gb4 95 (by decide +kernel) (by decide +kernel)), (gb4 96 (by decide +kernel) (by decide +kernel))⟩
theorem lkL_143 : LKV RL 143 yX9_setRule cX9_setRule 4 (some .int) 2 := ⟨⟨(gb4 94 (by decide +kernel) (by decide +kernel)), mc_X9_setRule, mi_X9_setRule, by decide, by decide +kernel⟩, ms_X9_setRule.1, ms_X9_setRule.2⟩
set_option maxRecDepth 100000 in
theorem mc_X9_test : .code yX9_test cX9_test 4 (some .int) ∈ bigw := (gb4 101 rfl (by decide +kernel))
theorem mi_X9_test : .initialized (yX9_test : MethodName).cls ∈ bigw := (gb1 1 (by decide +kernel) (by decide +kernel))
theorem ms_X9_test : .instanceMethod yX9_test ∈ bigw ∧ .selects (yX9_test : MethodName).cls yX9_test yX9_test ∈ bigw := ⟨(gb4 99 (by decide +kernel) (by decide +kernel)), (gb4 100 (by decide +kernel) (by decide +kernel))⟩
theorem lkL_152 : LKV RL 152 yX9_test cX9_test 4 (some .int) 2 := ⟨⟨(gb4 98 (by decide +kernel) (by decide +kernel)), mc_X9_test, mi_X9_test, by decide, by decide +kernel⟩, ms_X9_test.1, ms_X9_test.2⟩
set_option maxRecDepth 100000 in
theorem mc_X9_isTestTicks : .code yX9_isTestTicks cX9_isTestTicks 1 (some .boolean) ∈ bigw := (gb4 104 rfl (by decide +kernel))
theorem mi_X9_isTestTicks : .initialized (yX9_isTestTicks : MethodName).cls ∈ bigw := (gb1 1 (by decide +kernel) (by decide +kernel))
theorem ms_X9_isTestTicks : .static yX9_isTestTicks ∈ bigw := (gb4 103 (by decide +kernel) (by decide +kernel))
theorem lkX9_207 : LKS RX9 207 yX9_isTestTicks cX9_isTestTicks 1 (some .boolean) 1 := ⟨⟨(gb4 102 (by decide +kernel) (by decide +kernel)), mc_X9_isTestTicks, mi_X9_isTestTicks, by decide, by decide +kernel⟩, ms_X9_isTestTicks⟩
set_option maxRecDepth 100000 in
theorem mc_X5_isShutOff : .code yX5_isShutOff cX5_isShutOff 4 (some .boolean) ∈ bigw := (gb4 108 rfl (by decide +kernel))
theorem mi_X5_isShutOff : .initialized (yX5_isShutOff : MethodName).cls ∈ bigw := (gb1 9 (by decide +kernel) (by decide +kernel))
theorem ms_X5_isShutOff : .instanceMethod yX5_isShutOff ∈ bigw ∧ .selects (yX5_isShutOff : MethodName).cls yX5_isShutOff yX5_isShutOff ∈ bigw := ⟨(gb4 106 (by decide +kernel) (by decide +kernel)), (gb4 107 (by decide +kernel) (by decide +kernel))⟩
theorem lkX9_210 : LKV RX9 210 yX5_isShutOff cX5_isShutOff 4 (some .boolean) 1 := ⟨⟨(gb4 105 (by decide +kernel) (by decide +kernel)), mc_X5_isShutOff, mi_X5_isShutOff, by decide, by decide +kernel⟩, ms_X5_isShutOff.1, ms_X5_isShutOff.2⟩
set_option maxRecDepth 100000 in
theorem mc_X1_valvesOf : .code yX1_valvesOf cX1_valvesOf 4 (some .int) ∈ bigw := (gb4 112 rfl (by decide +kernel))
theorem mi_X1_valvesOf : .initialized (yX1_valvesOf : MethodName).cls ∈ bigw := (gb1 4 (by decide +kernel) (by decide +kernel))
theorem ms_X1_valvesOf : .instanceMethod yX1_valvesOf ∈ bigw ∧ .selects (yX1_valvesOf : MethodName).cls yX1_valvesOf yX1_valvesOf ∈ bigw := ⟨(gb4 110 (by decide +kernel) (by decide +kernel)), (gb4 111 (by decide +kernel) (by decide +kernel))⟩
theorem lkX5_148 : LKV RX5 148 yX1_valvesOf cX1_valvesOf 4 (some .int) 1 := ⟨⟨(gb4 109 (by decide +kernel) (by decide +kernel)), mc_X1_valvesOf, mi_X1_valvesOf, by decide, by decide +kernel⟩, ms_X1_valvesOf.1, ms_X1_valvesOf.2⟩
set_option maxRecDepth 100000 in
theorem mc_X5_makeTest : .code yX5_makeTest cX5_makeTest 13 (some .int) ∈ bigw := (gb4 116 rfl (by decide +kernel))
theorem mi_X5_makeTest : .initialized (yX5_makeTest : MethodName).cls ∈ bigw := (gb1 9 (by decide +kernel) (by decide +kernel))
theorem ms_X5_makeTest : .instanceMethod yX5_makeTest ∈ bigw ∧ .selects (yX5_makeTest : MethodName).cls yX5_makeTest yX5_makeTest ∈ bigw := ⟨(gb4 114 (by decide +kernel) (by decide +kernel)), (gb4 115 (by decide +kernel) (by decide +kernel))⟩
theorem lkX9_213 : LKV RX9 213 yX5_makeTest cX5_makeTest 13 (some .int) 2 := ⟨⟨(gb4 113 (by decide +kernel) (by decide +kernel)), mc_X5_makeTest, mi_X5_makeTest, by decide, by decide +kernel⟩, ms_X5_makeTest.1, ms_X5_makeTest.2⟩
set_option maxRecDepth 100000 in
theorem mc_X7_add : .code yX7_add cX7_add 9 none ∈ bigw := (gb4 122 rfl (by decide +kernel))
theorem mi_X7_add : .initialized (yX7_add : MethodName).cls ∈ bigw := (gb1 10 (by decide +kernel) (by decide +kernel))
theorem ms_X7_add : .instanceMethod yX7_add ∈ bigw ∧ .selects (yX7_add : MethodName).cls yX7_add yX7_add ∈ bigw := ⟨(gb4 120 (by decide +kernel) (by decide +kernel)), (gb4 121 (by decide +kernel) (by decide +kernel))⟩
theorem lkX5_163 : LKV RX5 163 yX7_add cX7_add 9 none 6 := ⟨⟨(gb4 119 (by decide +kernel) (by decide +kernel)), mc_X7_add, mi_X7_add, by decide, by decide +kernel⟩, ms_X7_add.1, ms_X7_add.2⟩
theorem lkX7_30 : LKS RX7 30 Lib.Math.min.name Lib.Math.min.code 2 (some .int) 2 := ⟨⟨(gb4 123 (by decide +kernel) (by decide +kernel)), mc_Math_min, mi_Math_min, by decide, by decide +kernel⟩, ms_Math_min⟩
set_option maxRecDepth 100000 in
theorem mc_X9_count : .code yX9_count cX9_count 2 (some .int) ∈ bigw := (gb4 127 rfl (by decide +kernel))
theorem mi_X9_count : .initialized (yX9_count : MethodName).cls ∈ bigw := (gb1 1 (by decide +kernel) (by decide +kernel))
theorem ms_X9_count : .instanceMethod yX9_count ∈ bigw ∧ .selects (yX9_count : MethodName).cls yX9_count yX9_count ∈ bigw := ⟨(gb4 125 (by decide +kernel) (by decide +kernel)), (gb4 126 (by decide +kernel) (by decide +kernel))⟩
theorem lkL_78 : LKV RL 78 yX9_count cX9_count 2 (some .int) 1 := ⟨⟨(gb4 124 (by decide +kernel) (by decide +kernel)), mc_X9_count, mi_X9_count, by decide, by decide +kernel⟩, ms_X9_count.1, ms_X9_count.2⟩
set_option maxRecDepth 100000 in
theorem mc_X9_sum : .code yX9_sum cX9_sum 4 (some .int) ∈ bigw := (gb4 130 rfl (by decide +kernel))
theorem mi_X9_sum : .initialized (yX9_sum : MethodName).cls ∈ bigw := (gb1 1 (by decide +kernel) (by decide +kernel))
theorem ms_X9_sum : .static yX9_sum ∈ bigw := (gb4 129 (by decide +kernel) (by decide +kernel))
theorem lkX9_235 : LKS RX9 235 yX9_sum cX9_sum 4 (some .int) 2 := ⟨⟨(gb4 128 (by decide +kernel) (by decide +kernel)), mc_X9_sum, mi_X9_sum, by decide, by decide +kernel⟩, ms_X9_sum⟩
set_option maxRecDepth 100000 in
theorem mc_X9_chamber : .code yX9_chamber cX9_chamber 3 (some .int) ∈ bigw := (gb4 134 rfl (by decide +kernel))
theorem mi_X9_chamber : .initialized (yX9_chamber : MethodName).cls ∈ bigw := (gb1 1 (by decide +kernel) (by decide +kernel))
theorem ms_X9_chamber : .instanceMethod yX9_chamber ∈ bigw ∧ .selects (yX9_chamber : MethodName).cls yX9_chamber yX9_chamber ∈ bigw := ⟨(gb4 132 (by decide +kernel) (by decide +kernel)), (gb4 133 (by decide +kernel) (by decide +kernel))⟩
theorem lkL_27 : LKV RL 27 yX9_chamber cX9_chamber 3 (some .int) 2 := ⟨⟨(gb4 131 (by decide +kernel) (by decide +kernel)), mc_X9_chamber, mi_X9_chamber, by decide, by decide +kernel⟩, ms_X9_chamber.1, ms_X9_chamber.2⟩
theorem lkX9_260 : LKV RX9 260 yX1_valvesOf cX1_valvesOf 4 (some .int) 1 := ⟨⟨(gb4 135 (by decide +kernel) (by decide +kernel)), mc_X1_valvesOf, mi_X1_valvesOf, by decide, by decide +kernel⟩, ms_X1_valvesOf.1, ms_X1_valvesOf.2⟩
set_option maxRecDepth 100000 in
theorem mc_X1_pumpsOf : .code yX1_pumpsOf cX1_pumpsOf 4 (some .int) ∈ bigw := (gb4 139 rfl (by decide +kernel))
theorem mi_X1_pumpsOf : .initialized (yX1_pumpsOf : MethodName).cls ∈ bigw := (gb1 4 (by decide +kernel) (by decide +kernel))
theorem ms_X1_pumpsOf : .instanceMethod yX1_pumpsOf ∈ bigw ∧ .selects (yX1_pumpsOf : MethodName).cls yX1_pumpsOf yX1_pumpsOf ∈ bigw := ⟨(gb4 137 (by decide +kernel) (by decide +kernel)), (gb4 138 (by decide +kernel) (by decide +kernel))⟩
theorem lkX9_263 : LKV RX9 263 yX1_pumpsOf cX1_pumpsOf 4 (some .int) 1 := ⟨⟨(gb4 136 (by decide +kernel) (by decide +kernel)), mc_X1_pumpsOf, mi_X1_pumpsOf, by decide, by decide +kernel⟩, ms_X1_pumpsOf.1, ms_X1_pumpsOf.2⟩
set_option maxRecDepth 100000 in
theorem mc_X9_gas : .code yX9_gas cX9_gas 2 (some .long) ∈ bigw := (gb4 143 rfl (by decide +kernel))
theorem mi_X9_gas : .initialized (yX9_gas : MethodName).cls ∈ bigw := (gb1 1 (by decide +kernel) (by decide +kernel))
theorem ms_X9_gas : .instanceMethod yX9_gas ∈ bigw ∧ .selects (yX9_gas : MethodName).cls yX9_gas yX9_gas ∈ bigw := ⟨(gb4 141 (by decide +kernel) (by decide +kernel)), (gb4 142 (by decide +kernel) (by decide +kernel))⟩
theorem lkL_34 : LKV RL 34 yX9_gas cX9_gas 2 (some .long) 1 := ⟨⟨(gb4 140 (by decide +kernel) (by decide +kernel)), mc_X9_gas, mi_X9_gas, by decide, by decide +kernel⟩, ms_X9_gas.1, ms_X9_gas.2⟩
set_option maxRecDepth 100000 in
theorem mc_X9_pump : .code yX9_pump cX9_pump 3 (some .int) ∈ bigw := (gb4 147 rfl (by decide +kernel))
theorem mi_X9_pump : .initialized (yX9_pump : MethodName).cls ∈ bigw := (gb1 1 (by decide +kernel) (by decide +kernel))
theorem ms_X9_pump : .instanceMethod yX9_pump ∈ bigw ∧ .selects (yX9_pump : MethodName).cls yX9_pump yX9_pump ∈ bigw := ⟨(gb4 145 (by decide +kernel) (by decide +kernel)), (gb4 146 (by decide +kernel) (by decide +kernel))⟩
theorem lkL_96 : LKV RL 96 yX9_pump cX9_pump 3 (some .int) 2 := ⟨⟨(gb4 144 (by decide +kernel) (by decide +kernel)), mc_X9_pump, mi_X9_pump, by decide, by decide +kernel⟩, ms_X9_pump.1, ms_X9_pump.2⟩
set_option maxRecDepth 100000 in
theorem mc_X9_told : .code yX9_told cX9_told 1 (some .int) ∈ bigw := (gb4 150 rfl (by decide +kernel))
theorem mi_X9_told : .initialized (yX9_told : MethodName).cls ∈ bigw := (gb1 1 (by decide +kernel) (by decide +kernel))
theorem ms_X9_told : .static yX9_told ∈ bigw := (gb4 149 (by decide +kernel) (by decide +kernel))
theorem lkX9_273 : LKS RX9 273 yX9_told cX9_told 1 (some .int) 1 := ⟨⟨(gb4 148 (by decide +kernel) (by decide +kernel)), mc_X9_told, mi_X9_told, by decide, by decide +kernel⟩, ms_X9_told⟩
set_option maxRecDepth 100000 in
theorem mc_X9_valve : .code yX9_valve cX9_valve 3 (some .int) ∈ bigw := (gb4 154 rfl (by decide +kernel))
theorem mi_X9_valve : .initialized (yX9_valve : MethodName).cls ∈ bigw := (gb1 1 (by decide +kernel) (by decide +kernel))
theorem ms_X9_valve : .instanceMethod yX9_valve ∈ bigw ∧ .selects (yX9_valve : MethodName).cls yX9_valve yX9_valve ∈ bigw := ⟨(gb4 152 (by decide +kernel) (by decide +kernel)), (gb4 153 (by decide +kernel) (by decide +kernel))⟩
theorem lkL_87 : LKV RL 87 yX9_valve cX9_valve 3 (some .int) 2 := ⟨⟨(gb4 151 (by decide +kernel) (by decide +kernel)), mc_X9_valve, mi_X9_valve, by decide, by decide +kernel⟩, ms_X9_valve.1, ms_X9_valve.2⟩
set_option maxRecDepth 100000 in
theorem mc_X9_flange : .code yX9_flange cX9_flange 3 (some .int) ∈ bigw := (gb4 158 rfl (by decide +kernel))
theorem mi_X9_flange : .initialized (yX9_flange : MethodName).cls ∈ bigw := (gb1 1 (by decide +kernel) (by decide +kernel))
theorem ms_X9_flange : .instanceMethod yX9_flange ∈ bigw ∧ .selects (yX9_flange : MethodName).cls yX9_flange yX9_flange ∈ bigw := ⟨(gb4 156 (by decide +kernel) (by decide +kernel)), (gb4 157 (by decide +kernel) (by decide +kernel))⟩
theorem lkL_81 : LKV RL 81 yX9_flange cX9_flange 3 (some .int) 2 := ⟨⟨(gb4 155 (by decide +kernel) (by decide +kernel)), mc_X9_flange, mi_X9_flange, by decide, by decide +kernel⟩, ms_X9_flange.1, ms_X9_flange.2⟩
set_option maxRecDepth 100000 in
theorem mc_X9_rise : .code yX9_rise cX9_rise 3 (some .int) ∈ bigw := (gb4 162 rfl (by decide +kernel))
theorem mi_X9_rise : .initialized (yX9_rise : MethodName).cls ∈ bigw := (gb1 1 (by decide +kernel) (by decide +kernel))
theorem ms_X9_rise : .instanceMethod yX9_rise ∈ bigw ∧ .selects (yX9_rise : MethodName).cls yX9_rise yX9_rise ∈ bigw := ⟨(gb4 160 (by decide +kernel) (by decide +kernel)), (gb4 161 (by decide +kernel) (by decide +kernel))⟩
theorem lkL_155 : LKV RL 155 yX9_rise cX9_rise 3 (some .int) 2 := ⟨⟨(gb4 159 (by decide +kernel) (by decide +kernel)), mc_X9_rise, mi_X9_rise, by decide, by decide +kernel⟩, ms_X9_rise.1, ms_X9_rise.2⟩
set_option maxRecDepth 100000 in
theorem mc_X7_fact : .code yX7_fact cX7_fact 3 (some .int) ∈ bigw := (gb4 166 rfl (by decide +kernel))
theorem mi_X7_fact : .initialized (yX7_fact : MethodName).cls ∈ bigw := (gb1 10 (by decide +kernel) (by decide +kernel))
theorem ms_X7_fact : .instanceMethod yX7_fact ∈ bigw ∧ .selects (yX7_fact : MethodName).cls yX7_fact yX7_fact ∈ bigw := ⟨(gb4 164 (by decide +kernel) (by decide +kernel)), (gb4 165 (by decide +kernel) (by decide +kernel))⟩
theorem lkX9_303 : LKV RX9 303 yX7_fact cX7_fact 3 (some .int) 2 := ⟨⟨(gb4 163 (by decide +kernel) (by decide +kernel)), mc_X7_fact, mi_X7_fact, by decide, by decide +kernel⟩, ms_X7_fact.1, ms_X7_fact.2⟩
set_option maxRecDepth 100000 in
theorem mc_X7_slot : .code yX7_slot cX7_slot 2 (some .int) ∈ bigw := (gb4 170 rfl (by decide +kernel))
theorem mi_X7_slot : .initialized (yX7_slot : MethodName).cls ∈ bigw := (gb1 10 (by decide +kernel) (by decide +kernel))
theorem ms_X7_slot : .instanceMethod yX7_slot ∈ bigw ∧ .selects (yX7_slot : MethodName).cls yX7_slot yX7_slot ∈ bigw := ⟨(gb4 169 (by decide +kernel) (by decide +kernel)), (gb0 18 (by decide +kernel) (by decide +kernel))⟩
theorem lkX7_36 : LKV RX7 36 yX7_slot cX7_slot 2 (some .int) 1 := ⟨⟨(gb4 167 (by decide +kernel) (by decide +kernel)), mc_X7_slot, mi_X7_slot, by decide, by decide +kernel⟩, ms_X7_slot.1, ms_X7_slot.2⟩
set_option maxRecDepth 100000 in
theorem mc_X9_riseGas : .code yX9_riseGas cX9_riseGas 3 (some .long) ∈ bigw := (gb4 174 rfl (by decide +kernel))
theorem mi_X9_riseGas : .initialized (yX9_riseGas : MethodName).cls ∈ bigw := (gb1 1 (by decide +kernel) (by decide +kernel))
theorem ms_X9_riseGas : .instanceMethod yX9_riseGas ∈ bigw ∧ .selects (yX9_riseGas : MethodName).cls yX9_riseGas yX9_riseGas ∈ bigw := ⟨(gb4 172 (by decide +kernel) (by decide +kernel)), (gb4 173 (by decide +kernel) (by decide +kernel))⟩
theorem lkL_158 : LKV RL 158 yX9_riseGas cX9_riseGas 3 (some .long) 2 := ⟨⟨(gb4 171 (by decide +kernel) (by decide +kernel)), mc_X9_riseGas, mi_X9_riseGas, by decide, by decide +kernel⟩, ms_X9_riseGas.1, ms_X9_riseGas.2⟩
set_option maxRecDepth 100000 in
theorem mc_X7_riseOf : .code yX7_riseOf cX7_riseOf 3 (some .long) ∈ bigw := (gb4 178 rfl (by decide +kernel))
theorem mi_X7_riseOf : .initialized (yX7_riseOf : MethodName).cls ∈ bigw := (gb1 10 (by decide +kernel) (by decide +kernel))
theorem ms_X7_riseOf : .instanceMethod yX7_riseOf ∈ bigw ∧ .selects (yX7_riseOf : MethodName).cls yX7_riseOf yX7_riseOf ∈ bigw := ⟨(gb4 176 (by decide +kernel) (by decide +kernel)), (gb4 177 (by decide +kernel) (by decide +kernel))⟩
theorem lkX9_306 : LKV RX9 306 yX7_riseOf cX7_riseOf 3 (some .long) 2 := ⟨⟨(gb4 175 (by decide +kernel) (by decide +kernel)), mc_X7_riseOf, mi_X7_riseOf, by decide, by decide +kernel⟩, ms_X7_riseOf.1, ms_X7_riseOf.2⟩
set_option maxRecDepth 100000 in
theorem mc_X9_mayOpen : .code yX9_mayOpen cX9_mayOpen 2 (some .int) ∈ bigw := (gb4 182 rfl (by decide +kernel))
theorem mi_X9_mayOpen : .initialized (yX9_mayOpen : MethodName).cls ∈ bigw := (gb1 1 (by decide +kernel) (by decide +kernel))
theorem ms_X9_mayOpen : .instanceMethod yX9_mayOpen ∈ bigw ∧ .selects (yX9_mayOpen : MethodName).cls yX9_mayOpen yX9_mayOpen ∈ bigw := ⟨(gb4 180 (by decide +kernel) (by decide +kernel)), (gb4 181 (by decide +kernel) (by decide +kernel))⟩
theorem lkL_84 : LKV RL 84 yX9_mayOpen cX9_mayOpen 2 (some .int) 1 := ⟨⟨(gb4 179 (by decide +kernel) (by decide +kernel)), mc_X9_mayOpen, mi_X9_mayOpen, by decide, by decide +kernel⟩, ms_X9_mayOpen.1, ms_X9_mayOpen.2⟩
set_option maxRecDepth 100000 in
theorem mc_X9_mayStart : .code yX9_mayStart cX9_mayStart 2 (some .int) ∈ bigw := (gb4 186 rfl (by decide +kernel))
theorem mi_X9_mayStart : .initialized (yX9_mayStart : MethodName).cls ∈ bigw := (gb1 1 (by decide +kernel) (by decide +kernel))
theorem ms_X9_mayStart : .instanceMethod yX9_mayStart ∈ bigw ∧ .selects (yX9_mayStart : MethodName).cls yX9_mayStart yX9_mayStart ∈ bigw := ⟨(gb4 184 (by decide +kernel) (by decide +kernel)), (gb4 185 (by decide +kernel) (by decide +kernel))⟩
theorem lkL_93 : LKV RL 93 yX9_mayStart cX9_mayStart 2 (some .int) 1 := ⟨⟨(gb4 183 (by decide +kernel) (by decide +kernel)), mc_X9_mayStart, mi_X9_mayStart, by decide, by decide +kernel⟩, ms_X9_mayStart.1, ms_X9_mayStart.2⟩
set_option maxRecDepth 100000 in
theorem mc_X9_isIsolated : .code yX9_isIsolated cX9_isIsolated 2 (some .boolean) ∈ bigw := (gb4 190 rfl (by decide +kernel))
theorem mi_X9_isIsolated : .initialized (yX9_isIsolated : MethodName).cls ∈ bigw := (gb1 1 (by decide +kernel) (by decide +kernel))
theorem ms_X9_isIsolated : .instanceMethod yX9_isIsolated ∈ bigw ∧ .selects (yX9_isIsolated : MethodName).cls yX9_isIsolated yX9_isIsolated ∈ bigw := ⟨(gb4 188 (by decide +kernel) (by decide +kernel)), (gb4 189 (by decide +kernel) (by decide +kernel))⟩
theorem lkL_38 : LKV RL 38 yX9_isIsolated cX9_isIsolated 2 (some .boolean) 1 := ⟨⟨(gb4 187 (by decide +kernel) (by decide +kernel)), mc_X9_isIsolated, mi_X9_isIsolated, by decide, by decide +kernel⟩, ms_X9_isIsolated.1, ms_X9_isIsolated.2⟩
set_option maxRecDepth 100000 in
theorem mc_X9_fewestValves : .code yX9_fewestValves cX9_fewestValves 6 (some .int) ∈ bigw := (gb4 194 rfl (by decide +kernel))
theorem mi_X9_fewestValves : .initialized (yX9_fewestValves : MethodName).cls ∈ bigw := (gb1 1 (by decide +kernel) (by decide +kernel))
theorem ms_X9_fewestValves : .instanceMethod yX9_fewestValves ∈ bigw ∧ .selects (yX9_fewestValves : MethodName).cls yX9_fewestValves yX9_fewestValves ∈ bigw := ⟨(gb4 192 (by decide +kernel) (by decide +kernel)), (gb4 193 (by decide +kernel) (by decide +kernel))⟩
theorem lkL_58 : LKV RL 58 yX9_fewestValves cX9_fewestValves 6 (some .int) 2 := ⟨⟨(gb4 191 (by decide +kernel) (by decide +kernel)), mc_X9_fewestValves, mi_X9_fewestValves, by decide, by decide +kernel⟩, ms_X9_fewestValves.1, ms_X9_fewestValves.2⟩
set_option maxRecDepth 100000 in
theorem mc_X9_has : .code yX9_has cX9_has 2 (some .boolean) ∈ bigw := (gb4 197 rfl (by decide +kernel))
theorem mi_X9_has : .initialized (yX9_has : MethodName).cls ∈ bigw := (gb1 1 (by decide +kernel) (by decide +kernel))
theorem ms_X9_has : .static yX9_has ∈ bigw := (gb4 196 (by decide +kernel) (by decide +kernel))
theorem lkX9_313 : LKS RX9 313 yX9_has cX9_has 2 (some .boolean) 2 := ⟨⟨(gb4 195 (by decide +kernel) (by decide +kernel)), mc_X9_has, mi_X9_has, by decide, by decide +kernel⟩, ms_X9_has⟩
set_option maxRecDepth 100000 in
theorem mc_X1_allValves : .code yX1_allValves cX1_allValves 1 (some .int) ∈ bigw := (gb4 201 rfl (by decide +kernel))
theorem mi_X1_allValves : .initialized (yX1_allValves : MethodName).cls ∈ bigw := (gb1 4 (by decide +kernel) (by decide +kernel))
theorem ms_X1_allValves : .instanceMethod yX1_allValves ∈ bigw ∧ .selects (yX1_allValves : MethodName).cls yX1_allValves yX1_allValves ∈ bigw := ⟨(gb4 199 (by decide +kernel) (by decide +kernel)), (gb4 200 (by decide +kernel) (by decide +kernel))⟩
theorem lkX9_325 : LKV RX9 325 yX1_allValves cX1_allValves 1 (some .int) 0 := ⟨⟨(gb4 198 (by decide +kernel) (by decide +kernel)), mc_X1_allValves, mi_X1_allValves, by decide, by decide +kernel⟩, ms_X1_allValves.1, ms_X1_allValves.2⟩
set_option maxRecDepth 100000 in
theorem mc_X1_grown : .code yX1_grown cX1_grown 5 (some .int) ∈ bigw := (gb4 205 rfl (by decide +kernel))
theorem mi_X1_grown : .initialized (yX1_grown : MethodName).cls ∈ bigw := (gb1 4 (by decide +kernel) (by decide +kernel))
theorem ms_X1_grown : .instanceMethod yX1_grown ∈ bigw ∧ .selects (yX1_grown : MethodName).cls yX1_grown yX1_grown ∈ bigw := ⟨(gb4 203 (by decide +kernel) (by decide +kernel)), (gb4 204 (by decide +kernel) (by decide +kernel))⟩
theorem lkX9_329 : LKV RX9 329 yX1_grown cX1_grown 5 (some .int) 2 := ⟨⟨(gb4 202 (by decide +kernel) (by decide +kernel)), mc_X1_grown, mi_X1_grown, by decide, by decide +kernel⟩, ms_X1_grown.1, ms_X1_grown.2⟩
set_option maxRecDepth 100000 in
theorem mc_X9_pressureAfter : .code yX9_pressureAfter cX9_pressureAfter 3 (some .int) ∈ bigw := (gb4 210 rfl (by decide +kernel))
theorem mi_X9_pressureAfter : .initialized (yX9_pressureAfter : MethodName).cls ∈ bigw := (gb1 1 (by decide +kernel) (by decide +kernel))
theorem ms_X9_pressureAfter : .instanceMethod yX9_pressureAfter ∈ bigw ∧ .selects (yX9_pressureAfter : MethodName).cls yX9_pressureAfter yX9_pressureAfter ∈ bigw := ⟨(gb4 208 (by decide +kernel) (by decide +kernel)), (gb4 209 (by decide +kernel) (by decide +kernel))⟩
theorem lkL_45 : LKV RL 45 yX9_pressureAfter cX9_pressureAfter 3 (some .int) 2 := ⟨⟨(gb4 207 (by decide +kernel) (by decide +kernel)), mc_X9_pressureAfter, mi_X9_pressureAfter, by decide, by decide +kernel⟩, ms_X9_pressureAfter.1, ms_X9_pressureAfter.2⟩
set_option maxRecDepth 100000 in
theorem mc_X9_lowest : .code yX9_lowest cX9_lowest 5 (some .int) ∈ bigw := (gb4 214 rfl (by decide +kernel))
theorem mi_X9_lowest : .initialized (yX9_lowest : MethodName).cls ∈ bigw := (gb1 1 (by decide +kernel) (by decide +kernel))
theorem ms_X9_lowest : .instanceMethod yX9_lowest ∈ bigw ∧ .selects (yX9_lowest : MethodName).cls yX9_lowest yX9_lowest ∈ bigw := ⟨(gb4 212 (by decide +kernel) (by decide +kernel)), (gb4 213 (by decide +kernel) (by decide +kernel))⟩
theorem lkL_42 : LKV RL 42 yX9_lowest cX9_lowest 5 (some .int) 2 := ⟨⟨(gb4 211 (by decide +kernel) (by decide +kernel)), mc_X9_lowest, mi_X9_lowest, by decide, by decide +kernel⟩, ms_X9_lowest.1, ms_X9_lowest.2⟩
theorem lkX9_335 : LKV RX9 335 yX5_tick cX5_tick 2 (some .int) 0 := ⟨⟨(gb4 215 (by decide +kernel) (by decide +kernel)), mc_X5_tick, mi_X5_tick, by decide, by decide +kernel⟩, ms_X5_tick.1, ms_X5_tick.2⟩
set_option maxRecDepth 100000 in
theorem mc_X9_ticksTo : .code yX9_ticksTo cX9_ticksTo 4 (some .int) ∈ bigw := (gb4 219 rfl (by decide +kernel))
theorem mi_X9_ticksTo : .initialized (yX9_ticksTo : MethodName).cls ∈ bigw := (gb1 1 (by decide +kernel) (by decide +kernel))
theorem ms_X9_ticksTo : .instanceMethod yX9_ticksTo ∈ bigw ∧ .selects (yX9_ticksTo : MethodName).cls yX9_ticksTo yX9_ticksTo ∈ bigw := ⟨(gb4 217 (by decide +kernel) (by decide +kernel)), (gb4 218 (by decide +kernel) (by decide +kernel))⟩
theorem lkL_146 : LKV RL 146 yX9_ticksTo cX9_ticksTo 4 (some .int) 2 := ⟨⟨(gb4 216 (by decide +kernel) (by decide +kernel)), mc_X9_ticksTo, mi_X9_ticksTo, by decide, by decide +kernel⟩, ms_X9_ticksTo.1, ms_X9_ticksTo.2⟩
set_option maxRecDepth 100000 in
theorem mc_X9_tripsIn : .code yX9_tripsIn cX9_tripsIn 2 (some .int) ∈ bigw := (gb4 238 rfl (by decide +kernel))
theorem mi_X9_tripsIn : .initialized (yX9_tripsIn : MethodName).cls ∈ bigw := (gb1 1 (by decide +kernel) (by decide +kernel))
theorem ms_X9_tripsIn : .instanceMethod yX9_tripsIn ∈ bigw ∧ .selects (yX9_tripsIn : MethodName).cls yX9_tripsIn yX9_tripsIn ∈ bigw := ⟨(gb4 236 (by decide +kernel) (by decide +kernel)), (gb4 237 (by decide +kernel) (by decide +kernel))⟩
theorem lkL_99 : LKV RL 99 yX9_tripsIn cX9_tripsIn 2 (some .int) 1 := ⟨⟨(gb4 235 (by decide +kernel) (by decide +kernel)), mc_X9_tripsIn, mi_X9_tripsIn, by decide, by decide +kernel⟩, ms_X9_tripsIn.1, ms_X9_tripsIn.2⟩
set_option maxRecDepth 100000 in
theorem mc_X9_writeReport : .code yX9_writeReport cX9_writeReport 2 (some .int) ∈ bigw := (gb5 2 rfl (by decide +kernel))
theorem mi_X9_writeReport : .initialized (yX9_writeReport : MethodName).cls ∈ bigw := (gb1 1 (by decide +kernel) (by decide +kernel))
theorem ms_X9_writeReport : .instanceMethod yX9_writeReport ∈ bigw ∧ .selects (yX9_writeReport : MethodName).cls yX9_writeReport yX9_writeReport ∈ bigw := ⟨(gb5 0 (by decide +kernel) (by decide +kernel)), (gb5 1 (by decide +kernel) (by decide +kernel))⟩
theorem lkL_119 : LKV RL 119 yX9_writeReport cX9_writeReport 2 (some .int) 0 := ⟨⟨(gb4 239 (by decide +kernel) (by decide +kernel)), mc_X9_writeReport, mi_X9_writeReport, by decide, by decide +kernel⟩, ms_X9_writeReport.1, ms_X9_writeReport.2⟩
set_option maxRecDepth 100000 in
theorem mc_X4_addText : .code yX4_addText cX4_addText 3 none ∈ bigw := (gb5 7 rfl (by decide +kernel))
theorem mi_X4_addText : .initialized (yX4_addText : MethodName).cls ∈ bigw := (gb1 8 (by decide +kernel) (by decide +kernel))
theorem ms_X4_addText : .instanceMethod yX4_addText ∈ bigw ∧ .selects (yX4_addText : MethodName).cls yX4_addText yX4_addText ∈ bigw := ⟨(gb5 5 (by decide +kernel) (by decide +kernel)), (gb5 6 (by decide +kernel) (by decide +kernel))⟩
theorem lkX9_353 : LKV RX9 353 yX4_addText cX4_addText 3 none 1 := ⟨⟨(gb5 4 (by decide +kernel) (by decide +kernel)), mc_X4_addText, mi_X4_addText, by decide, by decide +kernel⟩, ms_X4_addText.1, ms_X4_addText.2⟩
theorem lkX4_17 : LKV RX4 17 ⟨"java/lang/String", "length", "()I"⟩ prog_23_method_54_code 1 (some .int) 0 := ⟨⟨(gb5 8 (by decide +kernel) (by decide +kernel)), mc_String_length, mi_String_length, by decide, by decide +kernel⟩, ms_String_length.1, ms_String_length.2⟩
theorem lkX4_22 : LKV RX4 22 ⟨"java/lang/String", "charAt", "(I)C"⟩ prog_23_method_56_code 2 (some .char) 1 := ⟨⟨(gb5 9 (by decide +kernel) (by decide +kernel)), mc_String_charAt, mi_String_charAt, by decide, by decide +kernel⟩, ms_String_charAt.1, ms_String_charAt.2⟩
set_option maxRecDepth 100000 in
theorem mc_X4_addByte : .code yX4_addByte cX4_addByte 2 none ∈ bigw := (gb5 13 rfl (by decide +kernel))
theorem mi_X4_addByte : .initialized (yX4_addByte : MethodName).cls ∈ bigw := (gb1 8 (by decide +kernel) (by decide +kernel))
theorem ms_X4_addByte : .instanceMethod yX4_addByte ∈ bigw ∧ .selects (yX4_addByte : MethodName).cls yX4_addByte yX4_addByte ∈ bigw := ⟨(gb5 12 (by decide +kernel) (by decide +kernel)), (gb0 19 (by decide +kernel) (by decide +kernel))⟩
theorem lkX4_26 : LKV RX4 26 yX4_addByte cX4_addByte 2 none 1 := ⟨⟨(gb5 10 (by decide +kernel) (by decide +kernel)), mc_X4_addByte, mi_X4_addByte, by decide, by decide +kernel⟩, ms_X4_addByte.1, ms_X4_addByte.2⟩
set_option maxRecDepth 100000 in
theorem mc_X4_addNumber : .code yX4_addNumber cX4_addNumber 3 none ∈ bigw := (gb5 17 rfl (by decide +kernel))
theorem mi_X4_addNumber : .initialized (yX4_addNumber : MethodName).cls ∈ bigw := (gb1 8 (by decide +kernel) (by decide +kernel))
theorem ms_X4_addNumber : .instanceMethod yX4_addNumber ∈ bigw ∧ .selects (yX4_addNumber : MethodName).cls yX4_addNumber yX4_addNumber ∈ bigw := ⟨(gb5 15 (by decide +kernel) (by decide +kernel)), (gb5 16 (by decide +kernel) (by decide +kernel))⟩
theorem lkX9_357 : LKV RX9 357 yX4_addNumber cX4_addNumber 3 none 1 := ⟨⟨(gb5 14 (by decide +kernel) (by decide +kernel)), mc_X4_addNumber, mi_X4_addNumber, by decide, by decide +kernel⟩, ms_X4_addNumber.1, ms_X4_addNumber.2⟩
set_option maxRecDepth 100000 in
theorem mc_X4_addSet : .code yX4_addSet cX4_addSet 5 none ∈ bigw := (gb5 24 rfl (by decide +kernel))
theorem mi_X4_addSet : .initialized (yX4_addSet : MethodName).cls ∈ bigw := (gb1 8 (by decide +kernel) (by decide +kernel))
theorem ms_X4_addSet : .instanceMethod yX4_addSet ∈ bigw ∧ .selects (yX4_addSet : MethodName).cls yX4_addSet yX4_addSet ∈ bigw := ⟨(gb5 22 (by decide +kernel) (by decide +kernel)), (gb5 23 (by decide +kernel) (by decide +kernel))⟩
theorem lkX9_367 : LKV RX9 367 yX4_addSet cX4_addSet 5 none 3 := ⟨⟨(gb5 21 (by decide +kernel) (by decide +kernel)), mc_X4_addSet, mi_X4_addSet, by decide, by decide +kernel⟩, ms_X4_addSet.1, ms_X4_addSet.2⟩
theorem lkX4_37 : LKV RX4 37 yX4_addText cX4_addText 3 none 1 := ⟨⟨(gb5 26 (by decide +kernel) (by decide +kernel)), mc_X4_addText, mi_X4_addText, by decide, by decide +kernel⟩, ms_X4_addText.1, ms_X4_addText.2⟩
theorem lkX4_41 : LKV RX4 41 yX4_addNumber cX4_addNumber 3 none 1 := ⟨⟨(gb5 27 (by decide +kernel) (by decide +kernel)), mc_X4_addNumber, mi_X4_addNumber, by decide, by decide +kernel⟩, ms_X4_addNumber.1, ms_X4_addNumber.2⟩
set_option maxRecDepth 100000 in
theorem mc_X9_undo : .code yX9_undo cX9_undo 2 (some .int) ∈ bigw := (gb5 33 rfl (by decide +kernel))
theorem mi_X9_undo : .initialized (yX9_undo : MethodName).cls ∈ bigw := (gb1 1 (by decide +kernel) (by decide +kernel))
theorem ms_X9_undo : .instanceMethod yX9_undo ∈ bigw ∧ .selects (yX9_undo : MethodName).cls yX9_undo yX9_undo ∈ bigw := ⟨(gb5 31 (by decide +kernel) (by decide +kernel)), (gb5 32 (by decide +kernel) (by decide +kernel))⟩
theorem lkL_174 : LKV RL 174 yX9_undo cX9_undo 2 (some .int) 0 := ⟨⟨(gb5 30 (by decide +kernel) (by decide +kernel)), mc_X9_undo, mi_X9_undo, by decide, by decide +kernel⟩, ms_X9_undo.1, ms_X9_undo.2⟩
set_option maxRecDepth 100000 in
theorem mc_X9_undoDepth : .code yX9_undoDepth cX9_undoDepth 1 (some .int) ∈ bigw := (gb5 37 rfl (by decide +kernel))
theorem mi_X9_undoDepth : .initialized (yX9_undoDepth : MethodName).cls ∈ bigw := (gb1 1 (by decide +kernel) (by decide +kernel))
theorem ms_X9_undoDepth : .instanceMethod yX9_undoDepth ∈ bigw ∧ .selects (yX9_undoDepth : MethodName).cls yX9_undoDepth yX9_undoDepth ∈ bigw := ⟨(gb5 35 (by decide +kernel) (by decide +kernel)), (gb5 36 (by decide +kernel) (by decide +kernel))⟩
theorem lkL_167 : LKV RL 167 yX9_undoDepth cX9_undoDepth 1 (some .int) 0 := ⟨⟨(gb5 34 (by decide +kernel) (by decide +kernel)), mc_X9_undoDepth, mi_X9_undoDepth, by decide, by decide +kernel⟩, ms_X9_undoDepth.1, ms_X9_undoDepth.2⟩
set_option maxRecDepth 100000 in
theorem mc_L_cell : .code yL_cell cL_cell 2 (some .int) ∈ bigw := (gb5 40 rfl (by decide +kernel))
theorem mi_L_cell : .initialized (yL_cell : MethodName).cls ∈ bigw := (gb1 0 (by decide +kernel) (by decide +kernel))
theorem ms_L_cell : .static yL_cell ∈ bigw := (gb5 39 (by decide +kernel) (by decide +kernel))
theorem lkL_115 : LKS RL 115 yL_cell cL_cell 2 (some .int) 2 := ⟨⟨(gb5 38 (by decide +kernel) (by decide +kernel)), mc_L_cell, mi_L_cell, by decide, by decide +kernel⟩, ms_L_cell⟩
set_option maxRecDepth 100000 in
theorem mc_L_type : .code yL_type cL_type 5 none ∈ bigw := (gb5 43 rfl (by decide +kernel))
theorem mi_L_type : .initialized (yL_type : MethodName).cls ∈ bigw := (gb1 0 (by decide +kernel) (by decide +kernel))
theorem ms_L_type : .static yL_type ∈ bigw := (gb5 42 (by decide +kernel) (by decide +kernel))
theorem lkL_105 : LKS RL 105 yL_type cL_type 5 none 2 := ⟨⟨(gb5 41 (by decide +kernel) (by decide +kernel)), mc_L_type, mi_L_type, by decide, by decide +kernel⟩, ms_L_type⟩
theorem lkL_7 : LKV RL 7 ⟨"java/lang/String", "length", "()I"⟩ prog_23_method_54_code 1 (some .int) 0 := ⟨⟨(gb5 44 (by decide +kernel) (by decide +kernel)), mc_String_length, mi_String_length, by decide, by decide +kernel⟩, ms_String_length.1, ms_String_length.2⟩
theorem lkL_13 : LKV RL 13 ⟨"java/lang/String", "charAt", "(I)C"⟩ prog_23_method_56_code 2 (some .char) 1 := ⟨⟨(gb5 45 (by decide +kernel) (by decide +kernel)), mc_String_charAt, mi_String_charAt, by decide, by decide +kernel⟩, ms_String_charAt.1, ms_String_charAt.2⟩
set_option maxRecDepth 100000 in
theorem mc_X9_appendText : .code yX9_appendText cX9_appendText 6 (some .int) ∈ bigw := (gb5 49 rfl (by decide +kernel))
theorem mi_X9_appendText : .initialized (yX9_appendText : MethodName).cls ∈ bigw := (gb1 1 (by decide +kernel) (by decide +kernel))
theorem ms_X9_appendText : .instanceMethod yX9_appendText ∈ bigw ∧ .selects (yX9_appendText : MethodName).cls yX9_appendText yX9_appendText ∈ bigw := ⟨(gb5 47 (by decide +kernel) (by decide +kernel)), (gb5 48 (by decide +kernel) (by decide +kernel))⟩
theorem lkL_17 : LKV RL 17 yX9_appendText cX9_appendText 6 (some .int) 5 := ⟨⟨(gb5 46 (by decide +kernel) (by decide +kernel)), mc_X9_appendText, mi_X9_appendText, by decide, by decide +kernel⟩, ms_X9_appendText.1, ms_X9_appendText.2⟩
set_option maxRecDepth 100000 in
theorem mc_X8_addWord : .code yX8_addWord cX8_addWord 3 none ∈ bigw := (gb5 53 rfl (by decide +kernel))
theorem mi_X8_addWord : .initialized (yX8_addWord : MethodName).cls ∈ bigw := (gb1 2 (by decide +kernel) (by decide +kernel))
theorem ms_X8_addWord : .instanceMethod yX8_addWord ∈ bigw ∧ .selects (yX8_addWord : MethodName).cls yX8_addWord yX8_addWord ∈ bigw := ⟨(gb5 51 (by decide +kernel) (by decide +kernel)), (gb5 52 (by decide +kernel) (by decide +kernel))⟩
theorem lkX9_99 : LKV RX9 99 yX8_addWord cX8_addWord 3 none 1 := ⟨⟨(gb5 50 (by decide +kernel) (by decide +kernel)), mc_X8_addWord, mi_X8_addWord, by decide, by decide +kernel⟩, ms_X8_addWord.1, ms_X8_addWord.2⟩
set_option maxRecDepth 100000 in
theorem mc_X9_truncateText : .code yX9_truncateText cX9_truncateText 2 (some .int) ∈ bigw := (gb5 57 rfl (by decide +kernel))
theorem mi_X9_truncateText : .initialized (yX9_truncateText : MethodName).cls ∈ bigw := (gb1 1 (by decide +kernel) (by decide +kernel))
theorem ms_X9_truncateText : .instanceMethod yX9_truncateText ∈ bigw ∧ .selects (yX9_truncateText : MethodName).cls yX9_truncateText yX9_truncateText ∈ bigw := ⟨(gb5 55 (by decide +kernel) (by decide +kernel)), (gb5 56 (by decide +kernel) (by decide +kernel))⟩
theorem lkL_23 : LKV RL 23 yX9_truncateText cX9_truncateText 2 (some .int) 1 := ⟨⟨(gb5 54 (by decide +kernel) (by decide +kernel)), mc_X9_truncateText, mi_X9_truncateText, by decide, by decide +kernel⟩, ms_X9_truncateText.1, ms_X9_truncateText.2⟩
set_option maxRecDepth 100000 in
theorem mc_L_holds : .code yL_holds cL_holds 14 (some .boolean) ∈ bigw := (gb5 60 rfl (by decide +kernel))
theorem mi_L_holds : .initialized (yL_holds : MethodName).cls ∈ bigw := (gb1 0 (by decide +kernel) (by decide +kernel))
theorem ms_L_holds : .static yL_holds ∈ bigw := (gb5 59 (by decide +kernel) (by decide +kernel))
theorem lkL_170 : LKS RL 170 yL_holds cL_holds 14 (some .boolean) 2 := ⟨⟨(gb5 58 (by decide +kernel) (by decide +kernel)), mc_L_holds, mi_L_holds, by decide, by decide +kernel⟩, ms_L_holds⟩
set_option maxRecDepth 100000 in
theorem mc_X9_joined : .code yX9_joined cX9_joined 2 (some .int) ∈ bigw := (gb5 64 rfl (by decide +kernel))
theorem mi_X9_joined : .initialized (yX9_joined : MethodName).cls ∈ bigw := (gb1 1 (by decide +kernel) (by decide +kernel))
theorem ms_X9_joined : .instanceMethod yX9_joined ∈ bigw ∧ .selects (yX9_joined : MethodName).cls yX9_joined yX9_joined ∈ bigw := ⟨(gb5 62 (by decide +kernel) (by decide +kernel)), (gb5 63 (by decide +kernel) (by decide +kernel))⟩
theorem lkL_31 : LKV RL 31 yX9_joined cX9_joined 2 (some .int) 1 := ⟨⟨(gb5 61 (by decide +kernel) (by decide +kernel)), mc_X9_joined, mi_X9_joined, by decide, by decide +kernel⟩, ms_X9_joined.1, ms_X9_joined.2⟩
set_option maxRecDepth 100000 in
theorem mc_X5_reach : .code yX5_reach cX5_reach 4 (some .int) ∈ bigw := (gb5 68 rfl (by decide +kernel))
theorem mi_X5_reach : .initialized (yX5_reach : MethodName).cls ∈ bigw := (gb1 9 (by decide +kernel) (by decide +kernel))
theorem ms_X5_reach : .instanceMethod yX5_reach ∈ bigw ∧ .selects (yX5_reach : MethodName).cls yX5_reach yX5_reach ∈ bigw := ⟨(gb5 66 (by decide +kernel) (by decide +kernel)), (gb5 67 (by decide +kernel) (by decide +kernel))⟩
theorem lkX9_310 : LKV RX9 310 yX5_reach cX5_reach 4 (some .int) 1 := ⟨⟨(gb5 65 (by decide +kernel) (by decide +kernel)), mc_X5_reach, mi_X5_reach, by decide, by decide +kernel⟩, ms_X5_reach.1, ms_X5_reach.2⟩
theorem lkX5_151 : LKV RX5 151 yX1_grown cX1_grown 5 (some .int) 2 := ⟨⟨(gb5 69 (by decide +kernel) (by decide +kernel)), mc_X1_grown, mi_X1_grown, by decide, by decide +kernel⟩, ms_X1_grown.1, ms_X1_grown.2⟩
set_option maxRecDepth 100000 in
theorem mc_X9_meanPressure : .code yX9_meanPressure cX9_meanPressure 6 (some .double) ∈ bigw := (gb5 73 rfl (by decide +kernel))
theorem mi_X9_meanPressure : .initialized (yX9_meanPressure : MethodName).cls ∈ bigw := (gb1 1 (by decide +kernel) (by decide +kernel))
theorem ms_X9_meanPressure : .instanceMethod yX9_meanPressure ∈ bigw ∧ .selects (yX9_meanPressure : MethodName).cls yX9_meanPressure yX9_meanPressure ∈ bigw := ⟨(gb5 71 (by decide +kernel) (by decide +kernel)), (gb5 72 (by decide +kernel) (by decide +kernel))⟩
theorem lkL_48 : LKV RL 48 yX9_meanPressure cX9_meanPressure 6 (some .double) 2 := ⟨⟨(gb5 70 (by decide +kernel) (by decide +kernel)), mc_X9_meanPressure, mi_X9_meanPressure, by decide, by decide +kernel⟩, ms_X9_meanPressure.1, ms_X9_meanPressure.2⟩
set_option maxRecDepth 100000 in
theorem mc_X9_spread : .code yX9_spread cX9_spread 6 (some .int) ∈ bigw := (gb5 77 rfl (by decide +kernel))
theorem mi_X9_spread : .initialized (yX9_spread : MethodName).cls ∈ bigw := (gb1 1 (by decide +kernel) (by decide +kernel))
theorem ms_X9_spread : .instanceMethod yX9_spread ∈ bigw ∧ .selects (yX9_spread : MethodName).cls yX9_spread yX9_spread ∈ bigw := ⟨(gb5 75 (by decide +kernel) (by decide +kernel)), (gb5 76 (by decide +kernel) (by decide +kernel))⟩
theorem lkL_52 : LKV RL 52 yX9_spread cX9_spread 6 (some .int) 1 := ⟨⟨(gb5 74 (by decide +kernel) (by decide +kernel)), mc_X9_spread, mi_X9_spread, by decide, by decide +kernel⟩, ms_X9_spread.1, ms_X9_spread.2⟩
set_option maxRecDepth 100000 in
theorem mc_Math_max : .code Lib.Math.max.name Lib.Math.max.code 2 (some .int) ∈ bigw := (gb5 80 rfl (by decide +kernel))
theorem mi_Math_max : .initialized (Lib.Math.max.name : MethodName).cls ∈ bigw := (gb1 20 (by decide +kernel) (by decide +kernel))
theorem ms_Math_max : .static Lib.Math.max.name ∈ bigw := (gb5 79 (by decide +kernel) (by decide +kernel))
theorem lkX9_322 : LKS RX9 322 Lib.Math.max.name Lib.Math.max.code 2 (some .int) 2 := ⟨⟨(gb5 78 (by decide +kernel) (by decide +kernel)), mc_Math_max, mi_Math_max, by decide, by decide +kernel⟩, ms_Math_max⟩
set_option maxRecDepth 100000 in
theorem mc_X9_settled : .code yX9_settled cX9_settled 7 (some .int) ∈ bigw := (gb5 84 rfl (by decide +kernel))
theorem mi_X9_settled : .initialized (yX9_settled : MethodName).cls ∈ bigw := (gb1 1 (by decide +kernel) (by decide +kernel))
theorem ms_X9_settled : .instanceMethod yX9_settled ∈ bigw ∧ .selects (yX9_settled : MethodName).cls yX9_settled yX9_settled ∈ bigw := ⟨(gb5 82 (by decide +kernel) (by decide +kernel)), (gb5 83 (by decide +kernel) (by decide +kernel))⟩
theorem lkL_55 : LKV RL 55 yX9_settled cX9_settled 7 (some .int) 1 := ⟨⟨(gb5 81 (by decide +kernel) (by decide +kernel)), mc_X9_settled, mi_X9_settled, by decide, by decide +kernel⟩, ms_X9_settled.1, ms_X9_settled.2⟩
set_option maxRecDepth 100000 in
theorem mc_X9_isVented : .code yX9_isVented cX9_isVented 2 (some .boolean) ∈ bigw := (gb5 88 rfl (by decide +kernel))
theorem mi_X9_isVented : .initialized (yX9_isVented : MethodName).cls ∈ bigw := (gb1 1 (by decide +kernel) (by decide +kernel))
theorem ms_X9_isVented : .instanceMethod yX9_isVented ∈ bigw ∧ .selects (yX9_isVented : MethodName).cls yX9_isVented yX9_isVented ∈ bigw := ⟨(gb5 86 (by decide +kernel) (by decide +kernel)), (gb5 87 (by decide +kernel) (by decide +kernel))⟩
theorem lkL_61 : LKV RL 61 yX9_isVented cX9_isVented 2 (some .boolean) 1 := ⟨⟨(gb5 85 (by decide +kernel) (by decide +kernel)), mc_X9_isVented, mi_X9_isVented, by decide, by decide +kernel⟩, ms_X9_isVented.1, ms_X9_isVented.2⟩
set_option maxRecDepth 100000 in
theorem mc_X9_found : .code yX9_found cX9_found 3 (some .int) ∈ bigw := (gb5 92 rfl (by decide +kernel))
theorem mi_X9_found : .initialized (yX9_found : MethodName).cls ∈ bigw := (gb1 1 (by decide +kernel) (by decide +kernel))
theorem ms_X9_found : .instanceMethod yX9_found ∈ bigw ∧ .selects (yX9_found : MethodName).cls yX9_found yX9_found ∈ bigw := ⟨(gb5 90 (by decide +kernel) (by decide +kernel)), (gb5 91 (by decide +kernel) (by decide +kernel))⟩
theorem lkL_64 : LKV RL 64 yX9_found cX9_found 3 (some .int) 2 := ⟨⟨(gb5 89 (by decide +kernel) (by decide +kernel)), mc_X9_found, mi_X9_found, by decide, by decide +kernel⟩, ms_X9_found.1, ms_X9_found.2⟩
set_option maxRecDepth 100000 in
theorem mc_X0_run : .code yX0_run cX0_run 7 none ∈ bigw := (gb5 96 rfl (by decide +kernel))
theorem mi_X0_run : .initialized (yX0_run : MethodName).cls ∈ bigw := (gb1 7 (by decide +kernel) (by decide +kernel))
theorem ms_X0_run : .instanceMethod yX0_run ∈ bigw ∧ .selects (yX0_run : MethodName).cls yX0_run yX0_run ∈ bigw := ⟨(gb5 94 (by decide +kernel) (by decide +kernel)), (gb5 95 (by decide +kernel) (by decide +kernel))⟩
theorem lkX9_341 : LKV RX9 341 yX0_run cX0_run 7 none 3 := ⟨⟨(gb5 93 (by decide +kernel) (by decide +kernel)), mc_X0_run, mi_X0_run, by decide, by decide +kernel⟩, ms_X0_run.1, ms_X0_run.2⟩
set_option maxRecDepth 100000 in
theorem mc_X0_collect : .code yX0_collect cX0_collect 5 (some .int) ∈ bigw := (gb5 100 rfl (by decide +kernel))
theorem mi_X0_collect : .initialized (yX0_collect : MethodName).cls ∈ bigw := (gb1 7 (by decide +kernel) (by decide +kernel))
theorem ms_X0_collect : .instanceMethod yX0_collect ∈ bigw ∧ .selects (yX0_collect : MethodName).cls yX0_collect yX0_collect ∈ bigw := ⟨(gb5 99 (by decide +kernel) (by decide +kernel)), (gb0 20 (by decide +kernel) (by decide +kernel))⟩
theorem lkX0_37 : LKV RX0 37 yX0_collect cX0_collect 5 (some .int) 2 := ⟨⟨(gb5 97 (by decide +kernel) (by decide +kernel)), mc_X0_collect, mi_X0_collect, by decide, by decide +kernel⟩, ms_X0_collect.1, ms_X0_collect.2⟩
set_option maxRecDepth 100000 in
theorem mc_X0_addGroup : .code yX0_addGroup cX0_addGroup 3 none ∈ bigw := (gb5 104 rfl (by decide +kernel))
theorem mi_X0_addGroup : .initialized (yX0_addGroup : MethodName).cls ∈ bigw := (gb1 7 (by decide +kernel) (by decide +kernel))
theorem ms_X0_addGroup : .instanceMethod yX0_addGroup ∈ bigw ∧ .selects (yX0_addGroup : MethodName).cls yX0_addGroup yX0_addGroup ∈ bigw := ⟨(gb5 103 (by decide +kernel) (by decide +kernel)), (gb0 21 (by decide +kernel) (by decide +kernel))⟩
theorem lkX0_41 : LKV RX0 41 yX0_addGroup cX0_addGroup 3 none 2 := ⟨⟨(gb5 101 (by decide +kernel) (by decide +kernel)), mc_X0_addGroup, mi_X0_addGroup, by decide, by decide +kernel⟩, ms_X0_addGroup.1, ms_X0_addGroup.2⟩
set_option maxRecDepth 100000 in
theorem mc_X0_sumOf : .code yX0_sumOf cX0_sumOf 5 (some .int) ∈ bigw := (gb5 108 rfl (by decide +kernel))
theorem mi_X0_sumOf : .initialized (yX0_sumOf : MethodName).cls ∈ bigw := (gb1 7 (by decide +kernel) (by decide +kernel))
theorem ms_X0_sumOf : .instanceMethod yX0_sumOf ∈ bigw ∧ .selects (yX0_sumOf : MethodName).cls yX0_sumOf yX0_sumOf ∈ bigw := ⟨(gb5 107 (by decide +kernel) (by decide +kernel)), (gb0 22 (by decide +kernel) (by decide +kernel))⟩
theorem lkX0_48 : LKV RX0 48 yX0_sumOf cX0_sumOf 5 (some .int) 2 := ⟨⟨(gb5 105 (by decide +kernel) (by decide +kernel)), mc_X0_sumOf, mi_X0_sumOf, by decide, by decide +kernel⟩, ms_X0_sumOf.1, ms_X0_sumOf.2⟩
set_option maxRecDepth 100000 in
theorem mc_X9_sprays : .code yX9_sprays cX9_sprays 3 (some .int) ∈ bigw := (gb5 112 rfl (by decide +kernel))
theorem mi_X9_sprays : .initialized (yX9_sprays : MethodName).cls ∈ bigw := (gb1 1 (by decide +kernel) (by decide +kernel))
theorem ms_X9_sprays : .instanceMethod yX9_sprays ∈ bigw ∧ .selects (yX9_sprays : MethodName).cls yX9_sprays yX9_sprays ∈ bigw := ⟨(gb5 110 (by decide +kernel) (by decide +kernel)), (gb5 111 (by decide +kernel) (by decide +kernel))⟩
theorem lkL_67 : LKV RL 67 yX9_sprays cX9_sprays 3 (some .int) 2 := ⟨⟨(gb5 109 (by decide +kernel) (by decide +kernel)), mc_X9_sprays, mi_X9_sprays, by decide, by decide +kernel⟩, ms_X9_sprays.1, ms_X9_sprays.2⟩
set_option maxRecDepth 100000 in
theorem mc_X9_spray : .code yX9_spray cX9_spray 4 (some .int) ∈ bigw := (gb5 116 rfl (by decide +kernel))
theorem mi_X9_spray : .initialized (yX9_spray : MethodName).cls ∈ bigw := (gb1 1 (by decide +kernel) (by decide +kernel))
theorem ms_X9_spray : .instanceMethod yX9_spray ∈ bigw ∧ .selects (yX9_spray : MethodName).cls yX9_spray yX9_spray ∈ bigw := ⟨(gb5 114 (by decide +kernel) (by decide +kernel)), (gb5 115 (by decide +kernel) (by decide +kernel))⟩
theorem lkL_70 : LKV RL 70 yX9_spray cX9_spray 4 (some .int) 1 := ⟨⟨(gb5 113 (by decide +kernel) (by decide +kernel)), mc_X9_spray, mi_X9_spray, by decide, by decide +kernel⟩, ms_X9_spray.1, ms_X9_spray.2⟩
set_option maxRecDepth 100000 in
theorem mc_X1_allFlanges : .code yX1_allFlanges cX1_allFlanges 1 (some .int) ∈ bigw := (gb5 120 rfl (by decide +kernel))
theorem mi_X1_allFlanges : .initialized (yX1_allFlanges : MethodName).cls ∈ bigw := (gb1 4 (by decide +kernel) (by decide +kernel))
theorem ms_X1_allFlanges : .instanceMethod yX1_allFlanges ∈ bigw ∧ .selects (yX1_allFlanges : MethodName).cls yX1_allFlanges yX1_allFlanges ∈ bigw := ⟨(gb5 118 (by decide +kernel) (by decide +kernel)), (gb5 119 (by decide +kernel) (by decide +kernel))⟩
theorem lkX9_338 : LKV RX9 338 yX1_allFlanges cX1_allFlanges 1 (some .int) 0 := ⟨⟨(gb5 117 (by decide +kernel) (by decide +kernel)), mc_X1_allFlanges, mi_X1_allFlanges, by decide, by decide +kernel⟩, ms_X1_allFlanges.1, ms_X1_allFlanges.2⟩
set_option maxRecDepth 100000 in
theorem mc_Integer_bitCount : .code ⟨"java/lang/Integer", "bitCount", "(I)I"⟩ prog_20_method_49_code 1 (some .int) ∈ bigw := (gb5 123 rfl (by decide +kernel))
theorem mi_Integer_bitCount : .initialized (⟨"java/lang/Integer", "bitCount", "(I)I"⟩ : MethodName).cls ∈ bigw := (gb1 24 (by decide +kernel) (by decide +kernel))
theorem ms_Integer_bitCount : .static ⟨"java/lang/Integer", "bitCount", "(I)I"⟩ ∈ bigw := (gb5 122 (by decide +kernel) (by decide +kernel))
theorem lkL_73 : LKS RL 73 ⟨"java/lang/Integer", "bitCount", "(I)I"⟩ prog_20_method_49_code 1 (some .int) 1 := ⟨⟨(gb5 121 (by decide +kernel) (by decide +kernel)), mc_Integer_bitCount, mi_Integer_bitCount, by decide, by decide +kernel⟩, ms_Integer_bitCount⟩
set_option maxRecDepth 100000 in
theorem mc_X9_openable : .code yX9_openable cX9_openable 3 (some .int) ∈ bigw := (gb5 130 rfl (by decide +kernel))
theorem mi_X9_openable : .initialized (yX9_openable : MethodName).cls ∈ bigw := (gb1 1 (by decide +kernel) (by decide +kernel))
theorem ms_X9_openable : .instanceMethod yX9_openable ∈ bigw ∧ .selects (yX9_openable : MethodName).cls yX9_openable yX9_openable ∈ bigw := ⟨(gb5 128 (by decide +kernel) (by decide +kernel)), (gb5 129 (by decide +kernel) (by decide +kernel))⟩
theorem lkL_90 : LKV RL 90 yX9_openable cX9_openable 3 (some .int) 0 := ⟨⟨(gb5 127 (by decide +kernel) (by decide +kernel)), mc_X9_openable, mi_X9_openable, by decide, by decide +kernel⟩, ms_X9_openable.1, ms_X9_openable.2⟩
theorem lkL_162 : LKS RL 162 Lib.Math.min.name Lib.Math.min.code 2 (some .int) 2 := ⟨⟨(gb5 131 (by decide +kernel) (by decide +kernel)), mc_Math_min, mi_Math_min, by decide, by decide +kernel⟩, ms_Math_min⟩
theorem lkX1_76 : LKN RX1 76 yX9_has "VacuumSequencer" cX9_has 2 (some .boolean) 2 := ⟨(gt4 206 (by decide +kernel)), mc_X9_has, mi_X9_has, by decide, by decide +kernel, ms_X9_has⟩
theorem lkX4_31 : LKN RX4 31 yX9_has "VacuumSequencer" cX9_has 2 (some .boolean) 2 := ⟨(gt5 25 (by decide +kernel)), mc_X9_has, mi_X9_has, by decide, by decide +kernel, ms_X9_has⟩
theorem in_t {ws : List Cond} (ps : List Nat) (hp : ws = ps.filterMap (fun i => lw_tbl[i]?)) (h : ws.all (fun w => goodWord w || match w with | .castable _ _ => true | .declares _ => true | _ => false) = true) : ∀ w ∈ ws, w ∈ bigw ∨ (∃ C T, w = .castable C T ∧ w ∈ lw_tbl) ∨ ∃ y, w = .declares y ∧ w ∈ lw_tbl := by
  intro w hw
  have h1 := List.all_eq_true.mp h w hw
  rw [hp] at hw
  obtain ⟨i, -, hi⟩ := List.mem_filterMap.mp hw
  have hm := List.mem_of_getElem? hi
  simp only [Bool.or_eq_true] at h1
  rcases h1 with g | g
  · exact Or.inl (List.mem_filter.mpr ⟨hm, g⟩)
  · refine Or.inr ?_
    cases w <;> first | exact Or.inl ⟨_, _, rfl, hm⟩ | exact Or.inr ⟨_, rfl, hm⟩ | cases g
def strs : List ST := [(RX6, 70, "chamber", [99, 104, 97, 109, 98, 101, 114]), (RX6, 76, "pump", [112, 117, 109, 112]), (RX6, 78, "valve", [118, 97, 108, 118, 101]), (RX6, 80, "flange", [102, 108, 97, 110, 103, 101]), (RX6, 118, "out", [111, 117, 116]), (RX9, 351, "chamber ", [99, 104, 97, 109, 98, 101, 114, 32]), (RX9, 360, " ", [32]), (RX9, 362, " v", [32, 118]), (RX9, 371, " p", [32, 112]), (RX9, 376, "\n", [10]), (RL, 103, "chamber 50 200 40;chamber 20 0 0;chamber 5 30 10;pump 0 2 15 100 1000000 1000000;pump 2 out 8 500 1000000;valve 0 1 30 900000;valve 1 2 12 1000000;valve 0 out 3 1000000;valve 1 out 2 400000;flange 0 50;flange 0 0;flange 1 7;flange 2 300;flange 0 12;", [99, 104, 97, 109, 98, 101, 114, 32, 53, 48, 32, 50, 48, 48, 32, 52, 48, 59, 99, 104, 97, 109, 98, 101, 114, 32, 50, 48, 32, 48, 32, 48, 59, 99, 104, 97, 109, 98, 101, 114, 32, 53, 32, 51, 48, 32, 49, 48, 59, 112, 117, 109, 112, 32, 48, 32, 50, 32, 49, 53, 32, 49, 48, 48, 32, 49, 48, 48, 48, 48, 48, 48, 32, 49, 48, 48, 48, 48, 48, 48, 59, 112, 117, 109, 112, 32, 50, 32, 111, 117, 116, 32, 56, 32, 53, 48, 48, 32, 49, 48, 48, 48, 48, 48, 48, 59, 118, 97, 108, 118, 101, 32, 48, 32, 49, 32, 51, 48, 32, 57, 48, 48, 48, 48, 48, 59, 118, 97, 108, 118, 101, 32, 49, 32, 50, 32, 49, 50, 32, 49, 48, 48, 48, 48, 48, 48, 59, 118, 97, 108, 118, 101, 32, 48, 32, 111, 117, 116, 32, 51, 32, 49, 48, 48, 48, 48, 48, 48, 59, 118, 97, 108, 118, 101, 32, 49, 32, 111, 117, 116, 32, 50, 32, 52, 48, 48, 48, 48, 48, 59, 102, 108, 97, 110, 103, 101, 32, 48, 32, 53, 48, 59, 102, 108, 97, 110, 103, 101, 32, 48, 32, 48, 59, 102, 108, 97, 110, 103, 101, 32, 49, 32, 55, 59, 102, 108, 97, 110, 103, 101, 32, 50, 32, 51, 48, 48, 59, 102, 108, 97, 110, 103, 101, 32, 48, 32, 49, 50, 59])]
