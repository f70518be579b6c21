/-! the words, by their places -/
theorem gt0 {w : Cond} (i : Nat) (h : (k2_sels lw_privs)[i]? = some w) : w ∈ lw_tbl := List.mem_append_left _ (List.mem_of_getElem? h)
theorem gb0 {w : Cond} (i : Nat) (h : (k2_sels lw_privs)[i]? = some w) (g : goodWord w = true) : w ∈ bigw := List.mem_filter.mpr ⟨gt0 i h, g⟩
theorem gt1 {w : Cond} (i : Nat) (h : (tables_1_1)[i]? = some w) : w ∈ lw_tbl := List.mem_append_right _ (List.mem_append_left _ (List.mem_of_getElem? h))
theorem gb1 {w : Cond} (i : Nat) (h : (tables_1_1)[i]? = some w) (g : goodWord w = true) : w ∈ bigw := List.mem_filter.mpr ⟨gt1 i h, g⟩
theorem gt2 {w : Cond} (i : Nat) (h : (tables_1_2)[i]? = some w) : w ∈ lw_tbl := List.mem_append_right _ (List.mem_append_right _ (List.mem_append_left _ (List.mem_of_getElem? h)))
theorem gb2 {w : Cond} (i : Nat) (h : (tables_1_2)[i]? = some w) (g : goodWord w = true) : w ∈ bigw := List.mem_filter.mpr ⟨gt2 i h, g⟩
theorem gt3 {w : Cond} (i : Nat) (h : (tables_1_3)[i]? = some w) : w ∈ lw_tbl := List.mem_append_right _ (List.mem_append_right _ (List.mem_append_right _ (List.mem_append_left _ (List.mem_of_getElem? h))))
theorem gb3 {w : Cond} (i : Nat) (h : (tables_1_3)[i]? = some w) (g : goodWord w = true) : w ∈ bigw := List.mem_filter.mpr ⟨gt3 i h, g⟩
theorem gt4 {w : Cond} (i : Nat) (h : (tables_1_4)[i]? = some w) : w ∈ lw_tbl := List.mem_append_right _ (List.mem_append_right _ (List.mem_append_right _ (List.mem_append_right _ (List.mem_append_left _ (List.mem_of_getElem? h)))))
theorem gb4 {w : Cond} (i : Nat) (h : (tables_1_4)[i]? = some w) (g : goodWord w = true) : w ∈ bigw := List.mem_filter.mpr ⟨gt4 i h, g⟩
theorem gt5 {w : Cond} (i : Nat) (h : (tables_1_5)[i]? = some w) : w ∈ lw_tbl := List.mem_append_right _ (List.mem_append_right _ (List.mem_append_right _ (List.mem_append_right _ (List.mem_append_right _ (List.mem_append_left _ (List.mem_of_getElem? h))))))
theorem gb5 {w : Cond} (i : Nat) (h : (tables_1_5)[i]? = some w) (g : goodWord w = true) : w ∈ bigw := List.mem_filter.mpr ⟨gt5 i h, g⟩
theorem gt6 {w : Cond} (i : Nat) (h : (tables_1_6)[i]? = some w) : w ∈ lw_tbl := List.mem_append_right _ (List.mem_append_right _ (List.mem_append_right _ (List.mem_append_right _ (List.mem_append_right _ (List.mem_append_right _ (List.mem_append_left _ (List.mem_of_getElem? h)))))))
theorem gb6 {w : Cond} (i : Nat) (h : (tables_1_6)[i]? = some w) (g : goodWord w = true) : w ∈ bigw := List.mem_filter.mpr ⟨gt6 i h, g⟩
theorem gt7 {w : Cond} (i : Nat) (h : (tables_1_7)[i]? = some w) : w ∈ lw_tbl := List.mem_append_right _ (List.mem_append_right _ (List.mem_append_right _ (List.mem_append_right _ (List.mem_append_right _ (List.mem_append_right _ (List.mem_append_right _ (List.mem_append_left _ (List.mem_of_getElem? h))))))))
theorem gb7 {w : Cond} (i : Nat) (h : (tables_1_7)[i]? = some w) (g : goodWord w = true) : w ∈ bigw := List.mem_filter.mpr ⟨gt7 i h, g⟩
theorem gt8 {w : Cond} (i : Nat) (h : (tables_1_8)[i]? = some w) : w ∈ lw_tbl := List.mem_append_right _ (List.mem_append_right _ (List.mem_append_right _ (List.mem_append_right _ (List.mem_append_right _ (List.mem_append_right _ (List.mem_append_right _ (List.mem_append_right _ (List.mem_append_left _ (List.mem_of_getElem? h)))))))))
theorem gb8 {w : Cond} (i : Nat) (h : (tables_1_8)[i]? = some w) (g : goodWord w = true) : w ∈ bigw := List.mem_filter.mpr ⟨gt8 i h, g⟩
theorem gt9 {w : Cond} (i : Nat) (h : (tables_1_9)[i]? = some w) : w ∈ lw_tbl := List.mem_append_right _ (List.mem_append_right _ (List.mem_append_right _ (List.mem_append_right _ (List.mem_append_right _ (List.mem_append_right _ (List.mem_append_right _ (List.mem_append_right _ (List.mem_append_right _ (List.mem_of_getElem? h)))))))))
theorem gb9 {w : Cond} (i : Nat) (h : (tables_1_9)[i]? = some w) (g : goodWord w = true) : w ∈ bigw := List.mem_filter.mpr ⟨gt9 i h, g⟩
theorem in_r (ws : List Cond) (ps : List Nat) (hp : ws = ps.filterMap (fun i => lw_tbl[i]?)) (h : ws.all goodWord = true) : ∀ w ∈ ws, w ∈ bigw := by
  intro w hw
  refine List.mem_filter.mpr ⟨?_, List.all_eq_true.mp h w hw⟩
  rw [hp] at hw
  obtain ⟨i, -, hi⟩ := List.mem_filterMap.mp hw
  exact List.mem_of_getElem? hi
theorem clsX0 : CLS 0 RX0 TX0 6 tyX0 := ⟨rfl, in_r _ [344, 346, 348, 350, 352, 354] (by decide +kernel) (by decide +kernel), tyX0_ok, nmX0⟩
theorem clsX1 : CLS 1 RX1 TX1 19 tyX1 := ⟨rfl, in_r _ [255, 257, 259, 261, 263, 265, 267, 269, 271, 273, 275, 277, 279, 281, 283, 285, 287, 289, 291] (by decide +kernel) (by decide +kernel), tyX1_ok, nmX1⟩
theorem clsX2 : CLS 2 RX2 TX2 7 tyX2 := ⟨rfl, in_r _ [174, 176, 178, 180, 182, 184, 186] (by decide +kernel) (by decide +kernel), tyX2_ok, nmX2⟩
theorem clsX3 : CLS 3 RX3 TX3 4 tyX3 := ⟨rfl, in_r _ [321, 323, 325, 327] (by decide +kernel) (by decide +kernel), tyX3_ok, nmX3⟩
theorem clsX4 : CLS 4 RX4 TX4 2 tyX4 := ⟨rfl, in_r _ [367, 369] (by decide +kernel) (by decide +kernel), tyX4_ok, nmX4⟩
theorem clsX5 : CLS 5 RX5 TX5 13 tyX5 := ⟨rfl, in_r _ [429, 431, 433, 435, 437, 439, 441, 443, 445, 447, 449, 451, 453] (by decide +kernel) (by decide +kernel), tyX5_ok, nmX5⟩
theorem clsX6 : CLS 6 RX6 TX6 2 tyX6 := ⟨rfl, in_r _ [306, 308] (by decide +kernel) (by decide +kernel), tyX6_ok, nmX6⟩
theorem clsX7 : CLS 7 RX7 TX7 4 tyX7 := ⟨rfl, in_r _ [391, 393, 395, 397] (by decide +kernel) (by decide +kernel), tyX7_ok, nmX7⟩
theorem clsX8 : CLS 8 RX8 TX8 2 tyX8 := ⟨rfl, in_r _ [146, 148] (by decide +kernel) (by decide +kernel), tyX8_ok, nmX8⟩
theorem clsX9 : CLS 9 RX9 TX9 14 tyX9 := ⟨rfl, in_r _ [470, 472, 474, 476, 478, 480, 482, 484, 486, 488, 490, 492, 494, 496] (by decide +kernel) (by decide +kernel), tyX9_ok, nmX9⟩
theorem clsX10 : CLS 10 RX10 TX10 20 tyX10 := ⟨rfl, in_r _ [1434, 1436, 1438, 1440, 1442, 1444, 1446, 1448, 1450, 1452, 1454, 1456, 1458, 1460, 1462, 1464, 1466, 1468, 1470, 1472] (by decide +kernel) (by decide +kernel), tyX10_ok, nmX10⟩
theorem flX8_9 : FL RX8 9 TX8 0 := (gb1 39 (by decide +kernel) (by decide +kernel))
theorem flX8_15 : FL RX8 15 TX8 1 := (gb1 40 (by decide +kernel) (by decide +kernel))
theorem flX9_93 : FL RX9 93 TX8 1 := (gb1 41 (by decide +kernel) (by decide +kernel))
theorem flX2_37 : FL RX2 37 TX8 1 := (gb1 42 (by decide +kernel) (by decide +kernel))
theorem flX2_30 : FL RX2 30 TX2 0 := (gb1 55 (by decide +kernel) (by decide +kernel))
theorem flX2_11 : FL RX2 11 TX2 1 := (gb1 56 (by decide +kernel) (by decide +kernel))
theorem flX3_31 : FL RX3 31 TX2 1 := (gb1 57 (by decide +kernel) (by decide +kernel))
theorem flX6_30 : FL RX6 30 TX2 1 := (gb1 58 (by decide +kernel) (by decide +kernel))
theorem flX2_15 : FL RX2 15 TX2 2 := (gb1 59 (by decide +kernel) (by decide +kernel))
theorem flX3_34 : FL RX3 34 TX2 2 := (gb1 60 (by decide +kernel) (by decide +kernel))
theorem flX6_44 : FL RX6 44 TX2 2 := (gb1 61 (by decide +kernel) (by decide +kernel))
theorem flX2_18 : FL RX2 18 TX2 3 := (gb1 62 (by decide +kernel) (by decide +kernel))
theorem flX2_21 : FL RX2 21 TX2 4 := (gb1 63 (by decide +kernel) (by decide +kernel))
theorem flX2_24 : FL RX2 24 TX2 5 := (gb1 64 (by decide +kernel) (by decide +kernel))
theorem flX6_34 : FL RX6 34 TX2 5 := (gb1 65 (by decide +kernel) (by decide +kernel))
theorem flX3_41 : FL RX3 41 TX2 5 := (gb1 66 (by decide +kernel) (by decide +kernel))
theorem flX9_110 : FL RX9 110 TX2 5 := (gb1 67 (by decide +kernel) (by decide +kernel))
theorem flX2_27 : FL RX2 27 TX2 6 := (gb1 68 (by decide +kernel) (by decide +kernel))
theorem flX3_52 : FL RX3 52 TX2 6 := (gb1 69 (by decide +kernel) (by decide +kernel))
theorem flX9_113 : FL RX9 113 TX2 6 := (gb1 70 (by decide +kernel) (by decide +kernel))
theorem flX1_9 : FL RX1 9 TX1 0 := (gb1 92 (by decide +kernel) (by decide +kernel))
theorem flX5_62 : FL RX5 62 TX1 0 := (gb1 93 (by decide +kernel) (by decide +kernel))
theorem flX6_41 : FL RX6 41 TX1 0 := (gb1 94 (by decide +kernel) (by decide +kernel))
theorem flX9_125 : FL RX9 125 TX1 0 := (gb1 95 (by decide +kernel) (by decide +kernel))
theorem flX1_15 : FL RX1 15 TX1 1 := (gb1 96 (by decide +kernel) (by decide +kernel))
theorem flX5_79 : FL RX5 79 TX1 1 := (gb1 97 (by decide +kernel) (by decide +kernel))
theorem flX6_82 : FL RX6 82 TX1 1 := (gb1 98 (by decide +kernel) (by decide +kernel))
theorem flX9_220 : FL RX9 220 TX1 1 := (gb1 99 (by decide +kernel) (by decide +kernel))
theorem flX1_18 : FL RX1 18 TX1 2 := (gb1 100 (by decide +kernel) (by decide +kernel))
theorem flX5_82 : FL RX5 82 TX1 2 := (gb1 101 (by decide +kernel) (by decide +kernel))
theorem flX6_85 : FL RX6 85 TX1 2 := (gb1 102 (by decide +kernel) (by decide +kernel))
theorem flX9_223 : FL RX9 223 TX1 2 := (gb1 103 (by decide +kernel) (by decide +kernel))
theorem flX1_21 : FL RX1 21 TX1 3 := (gb1 104 (by decide +kernel) (by decide +kernel))
theorem flX5_88 : FL RX5 88 TX1 3 := (gb1 105 (by decide +kernel) (by decide +kernel))
theorem flX0_52 : FL RX0 52 TX1 3 := (gb1 106 (by decide +kernel) (by decide +kernel))
theorem flX6_88 : FL RX6 88 TX1 3 := (gb1 107 (by decide +kernel) (by decide +kernel))
theorem flX9_226 : FL RX9 226 TX1 3 := (gb1 108 (by decide +kernel) (by decide +kernel))
theorem flX1_24 : FL RX1 24 TX1 4 := (gb1 109 (by decide +kernel) (by decide +kernel))
theorem flX5_67 : FL RX5 67 TX1 4 := (gb1 110 (by decide +kernel) (by decide +kernel))
theorem flX9_251 : FL RX9 251 TX1 4 := (gb1 111 (by decide +kernel) (by decide +kernel))
theorem flX1_28 : FL RX1 28 TX1 5 := (gb1 112 (by decide +kernel) (by decide +kernel))
theorem flX5_76 : FL RX5 76 TX1 5 := (gb1 113 (by decide +kernel) (by decide +kernel))
theorem flX1_31 : FL RX1 31 TX1 6 := (gb1 114 (by decide +kernel) (by decide +kernel))
theorem flX9_254 : FL RX9 254 TX1 6 := (gb1 115 (by decide +kernel) (by decide +kernel))
theorem flX5_184 : FL RX5 184 TX1 6 := (gb1 116 (by decide +kernel) (by decide +kernel))
theorem flX1_34 : FL RX1 34 TX1 7 := (gb1 117 (by decide +kernel) (by decide +kernel))
theorem flX9_170 : FL RX9 170 TX1 7 := (gb1 118 (by decide +kernel) (by decide +kernel))
theorem flX5_136 : FL RX5 136 TX1 7 := (gb1 119 (by decide +kernel) (by decide +kernel))
theorem flX1_37 : FL RX1 37 TX1 8 := (gb1 120 (by decide +kernel) (by decide +kernel))
theorem flX5_142 : FL RX5 142 TX1 8 := (gb1 121 (by decide +kernel) (by decide +kernel))
theorem flX9_270 : FL RX9 270 TX1 8 := (gb1 122 (by decide +kernel) (by decide +kernel))
theorem flX1_40 : FL RX1 40 TX1 9 := (gb1 123 (by decide +kernel) (by decide +kernel))
theorem flX9_276 : FL RX9 276 TX1 9 := (gb1 124 (by decide +kernel) (by decide +kernel))
theorem flX5_204 : FL RX5 204 TX1 9 := (gb1 125 (by decide +kernel) (by decide +kernel))
theorem flX1_43 : FL RX1 43 TX1 10 := (gb1 126 (by decide +kernel) (by decide +kernel))
theorem flX9_279 : FL RX9 279 TX1 10 := (gb1 127 (by decide +kernel) (by decide +kernel))
theorem flX5_201 : FL RX5 201 TX1 10 := (gb1 128 (by decide +kernel) (by decide +kernel))
theorem flX1_46 : FL RX1 46 TX1 11 := (gb1 129 (by decide +kernel) (by decide +kernel))
theorem flX5_139 : FL RX5 139 TX1 11 := (gb1 130 (by decide +kernel) (by decide +kernel))
theorem flX9_282 : FL RX9 282 TX1 11 := (gb1 131 (by decide +kernel) (by decide +kernel))
theorem flX1_49 : FL RX1 49 TX1 12 := (gb1 132 (by decide +kernel) (by decide +kernel))
theorem flX5_145 : FL RX5 145 TX1 12 := (gb1 133 (by decide +kernel) (by decide +kernel))
theorem flX9_285 : FL RX9 285 TX1 12 := (gb1 134 (by decide +kernel) (by decide +kernel))
theorem flX1_52 : FL RX1 52 TX1 13 := (gb1 135 (by decide +kernel) (by decide +kernel))
theorem flX5_111 : FL RX5 111 TX1 13 := (gb1 136 (by decide +kernel) (by decide +kernel))
theorem flX9_288 : FL RX9 288 TX1 13 := (gb1 137 (by decide +kernel) (by decide +kernel))
theorem flX1_55 : FL RX1 55 TX1 14 := (gb1 138 (by decide +kernel) (by decide +kernel))
theorem flX5_114 : FL RX5 114 TX1 14 := (gb1 139 (by decide +kernel) (by decide +kernel))
theorem flX9_291 : FL RX9 291 TX1 14 := (gb1 140 (by decide +kernel) (by decide +kernel))
theorem flX1_58 : FL RX1 58 TX1 15 := (gb1 141 (by decide +kernel) (by decide +kernel))
theorem flX9_294 : FL RX9 294 TX1 15 := (gb1 142 (by decide +kernel) (by decide +kernel))
theorem flX5_191 : FL RX5 191 TX1 15 := (gb1 143 (by decide +kernel) (by decide +kernel))
theorem flX1_61 : FL RX1 61 TX1 16 := (gb1 144 (by decide +kernel) (by decide +kernel))
theorem flX5_85 : FL RX5 85 TX1 16 := (gb1 145 (by decide +kernel) (by decide +kernel))
theorem flX1_64 : FL RX1 64 TX1 17 := (gb1 146 (by decide +kernel) (by decide +kernel))
theorem flX0_57 : FL RX0 57 TX1 17 := (gb1 147 (by decide +kernel) (by decide +kernel))
theorem flX5_108 : FL RX5 108 TX1 17 := (gb1 148 (by decide +kernel) (by decide +kernel))
theorem flX9_297 : FL RX9 297 TX1 17 := (gb1 149 (by decide +kernel) (by decide +kernel))
theorem flX1_67 : FL RX1 67 TX1 18 := (gb1 150 (by decide +kernel) (by decide +kernel))
theorem flX5_91 : FL RX5 91 TX1 18 := (gb1 151 (by decide +kernel) (by decide +kernel))
theorem flX6_18 : FL RX6 18 TX6 0 := (gb1 200 (by decide +kernel) (by decide +kernel))
theorem flX6_12 : FL RX6 12 TX6 1 := (gb1 201 (by decide +kernel) (by decide +kernel))
theorem flX9_116 : FL RX9 116 TX6 1 := (gb1 202 (by decide +kernel) (by decide +kernel))
theorem flX3_18 : FL RX3 18 TX3 0 := (gb1 214 (by decide +kernel) (by decide +kernel))
theorem flX3_22 : FL RX3 22 TX3 1 := (gb1 215 (by decide +kernel) (by decide +kernel))
theorem flX3_9 : FL RX3 9 TX3 2 := (gb1 216 (by decide +kernel) (by decide +kernel))
theorem flX3_15 : FL RX3 15 TX3 3 := (gb1 217 (by decide +kernel) (by decide +kernel))
theorem flX0_9 : FL RX0 9 TX0 0 := (gb1 233 (by decide +kernel) (by decide +kernel))
theorem flX0_15 : FL RX0 15 TX0 1 := (gb1 234 (by decide +kernel) (by decide +kernel))
theorem flX0_18 : FL RX0 18 TX0 2 := (gb1 235 (by decide +kernel) (by decide +kernel))
theorem flX0_21 : FL RX0 21 TX0 3 := (gb1 236 (by decide +kernel) (by decide +kernel))
theorem flX0_25 : FL RX0 25 TX0 4 := (gb1 237 (by decide +kernel) (by decide +kernel))
theorem flX9_344 : FL RX9 344 TX0 4 := (gb1 238 (by decide +kernel) (by decide +kernel))
theorem flX0_28 : FL RX0 28 TX0 5 := (gb1 239 (by decide +kernel) (by decide +kernel))
theorem flX9_347 : FL RX9 347 TX0 5 := (gb2 0 (by decide +kernel) (by decide +kernel))
theorem flX4_9 : FL RX4 9 TX4 0 := (gb2 20 (by decide +kernel) (by decide +kernel))
theorem flX9_378 : FL RX9 378 TX4 0 := (gb2 21 (by decide +kernel) (by decide +kernel))
theorem flX4_13 : FL RX4 13 TX4 1 := (gb2 22 (by decide +kernel) (by decide +kernel))
theorem flX9_350 : FL RX9 350 TX4 1 := (gb2 23 (by decide +kernel) (by decide +kernel))
theorem flX7_7 : FL RX7 7 TX7 0 := (gb2 42 (by decide +kernel) (by decide +kernel))
theorem flX5_59 : FL RX5 59 TX7 0 := (gb2 43 (by decide +kernel) (by decide +kernel))
theorem flX9_246 : FL RX9 246 TX7 0 := (gb2 44 (by decide +kernel) (by decide +kernel))
theorem flX7_13 : FL RX7 13 TX7 1 := (gb2 45 (by decide +kernel) (by decide +kernel))
theorem flX7_16 : FL RX7 16 TX7 2 := (gb2 46 (by decide +kernel) (by decide +kernel))
theorem flX7_20 : FL RX7 20 TX7 3 := (gb2 47 (by decide +kernel) (by decide +kernel))
theorem flX5_54 : FL RX5 54 TX5 0 := (gb2 59 (by decide +kernel) (by decide +kernel))
theorem flX0_31 : FL RX0 31 TX5 0 := (gb2 60 (by decide +kernel) (by decide +kernel))
theorem flX5_9 : FL RX5 9 TX5 1 := (gb2 61 (by decide +kernel) (by decide +kernel))
theorem flX9_229 : FL RX9 229 TX5 1 := (gb2 62 (by decide +kernel) (by decide +kernel))
theorem flX5_15 : FL RX5 15 TX5 2 := (gb2 63 (by decide +kernel) (by decide +kernel))
theorem flX9_364 : FL RX9 364 TX5 2 := (gb2 64 (by decide +kernel) (by decide +kernel))
theorem flX5_18 : FL RX5 18 TX5 3 := (gb2 65 (by decide +kernel) (by decide +kernel))
theorem flX9_373 : FL RX9 373 TX5 3 := (gb2 66 (by decide +kernel) (by decide +kernel))
theorem flX5_21 : FL RX5 21 TX5 4 := (gb2 67 (by decide +kernel) (by decide +kernel))
theorem flX9_266 : FL RX9 266 TX5 4 := (gb2 68 (by decide +kernel) (by decide +kernel))
theorem flX5_25 : FL RX5 25 TX5 5 := (gb2 69 (by decide +kernel) (by decide +kernel))
theorem flX9_166 : FL RX9 166 TX5 5 := (gb2 70 (by decide +kernel) (by decide +kernel))
theorem flX5_29 : FL RX5 29 TX5 6 := (gb2 71 (by decide +kernel) (by decide +kernel))
theorem flX9_201 : FL RX9 201 TX5 6 := (gb2 72 (by decide +kernel) (by decide +kernel))
theorem flX5_32 : FL RX5 32 TX5 7 := (gb2 73 (by decide +kernel) (by decide +kernel))
theorem flX9_257 : FL RX9 257 TX5 7 := (gb2 74 (by decide +kernel) (by decide +kernel))
theorem flX5_35 : FL RX5 35 TX5 8 := (gb2 75 (by decide +kernel) (by decide +kernel))
theorem flX9_204 : FL RX9 204 TX5 8 := (gb2 76 (by decide +kernel) (by decide +kernel))
theorem flX5_38 : FL RX5 38 TX5 9 := (gb2 77 (by decide +kernel) (by decide +kernel))
theorem flX9_232 : FL RX9 232 TX5 9 := (gb2 78 (by decide +kernel) (by decide +kernel))
theorem flX5_41 : FL RX5 41 TX5 10 := (gb2 79 (by decide +kernel) (by decide +kernel))
theorem flX9_239 : FL RX9 239 TX5 10 := (gb2 80 (by decide +kernel) (by decide +kernel))
theorem flX5_44 : FL RX5 44 TX5 11 := (gb2 81 (by decide +kernel) (by decide +kernel))
theorem flX0_45 : FL RX0 45 TX5 11 := (gb2 82 (by decide +kernel) (by decide +kernel))
theorem flX9_300 : FL RX9 300 TX5 11 := (gb2 83 (by decide +kernel) (by decide +kernel))
theorem flX5_50 : FL RX5 50 TX5 12 := (gb2 84 (by decide +kernel) (by decide +kernel))
theorem flX9_242 : FL RX9 242 TX5 12 := (gb2 85 (by decide +kernel) (by decide +kernel))
theorem flX9_12 : FL RX9 12 TX9 0 := (gb2 113 (by decide +kernel) (by decide +kernel))
theorem flX9_21 : FL RX9 21 TX9 1 := (gb2 114 (by decide +kernel) (by decide +kernel))
theorem flX9_28 : FL RX9 28 TX9 2 := (gb2 115 (by decide +kernel) (by decide +kernel))
theorem flX9_37 : FL RX9 37 TX9 3 := (gb2 116 (by decide +kernel) (by decide +kernel))
theorem flX9_46 : FL RX9 46 TX9 4 := (gb2 117 (by decide +kernel) (by decide +kernel))
theorem flX9_53 : FL RX9 53 TX9 5 := (gb2 118 (by decide +kernel) (by decide +kernel))
theorem flX9_60 : FL RX9 60 TX9 6 := (gb2 119 (by decide +kernel) (by decide +kernel))
theorem flX9_66 : FL RX9 66 TX9 7 := (gb2 120 (by decide +kernel) (by decide +kernel))
theorem flX9_73 : FL RX9 73 TX9 8 := (gb2 121 (by decide +kernel) (by decide +kernel))
theorem flX9_77 : FL RX9 77 TX9 9 := (gb2 122 (by decide +kernel) (by decide +kernel))
theorem flX9_80 : FL RX9 80 TX9 10 := (gb2 123 (by decide +kernel) (by decide +kernel))
theorem flX9_84 : FL RX9 84 TX9 11 := (gb2 124 (by decide +kernel) (by decide +kernel))
theorem flX9_87 : FL RX9 87 TX9 12 := (gb2 125 (by decide +kernel) (by decide +kernel))
theorem flX9_90 : FL RX9 90 TX9 13 := (gb2 126 (by decide +kernel) (by decide +kernel))
theorem flX10_7 : FL RX10 7 TX10 0 := (gb6 111 (by decide +kernel) (by decide +kernel))
theorem flX10_13 : FL RX10 13 TX10 1 := (gb6 112 (by decide +kernel) (by decide +kernel))
theorem flX10_16 : FL RX10 16 TX10 2 := (gb6 113 (by decide +kernel) (by decide +kernel))
theorem flX10_19 : FL RX10 19 TX10 3 := (gb6 114 (by decide +kernel) (by decide +kernel))
theorem flX10_22 : FL RX10 22 TX10 4 := (gb6 115 (by decide +kernel) (by decide +kernel))
theorem flX10_47 : FL RX10 47 TX10 5 := (gb6 116 (by decide +kernel) (by decide +kernel))
theorem flX10_36 : FL RX10 36 TX10 6 := (gb6 117 (by decide +kernel) (by decide +kernel))
theorem flX10_25 : FL RX10 25 TX10 7 := (gb6 118 (by decide +kernel) (by decide +kernel))
theorem flX10_223 : FL RX10 223 TX10 8 := (gb6 119 (by decide +kernel) (by decide +kernel))
theorem flX10_246 : FL RX10 246 TX10 9 := (gb6 120 (by decide +kernel) (by decide +kernel))
theorem flX10_243 : FL RX10 243 TX10 10 := (gb6 121 (by decide +kernel) (by decide +kernel))
theorem flX10_229 : FL RX10 229 TX10 11 := (gb6 122 (by decide +kernel) (by decide +kernel))
theorem flX10_255 : FL RX10 255 TX10 12 := (gb6 123 (by decide +kernel) (by decide +kernel))
theorem flX10_29 : FL RX10 29 TX10 13 := (gb6 124 (by decide +kernel) (by decide +kernel))
theorem flX10_343 : FL RX10 343 TX10 14 := (gb6 125 (by decide +kernel) (by decide +kernel))
theorem flX10_346 : FL RX10 346 TX10 15 := (gb6 126 (by decide +kernel) (by decide +kernel))
theorem flX10_408 : FL RX10 408 TX10 16 := (gb6 127 (by decide +kernel) (by decide +kernel))
theorem flX10_411 : FL RX10 411 TX10 17 := (gb6 128 (by decide +kernel) (by decide +kernel))
theorem flX10_33 : FL RX10 33 TX10 18 := (gb6 129 (by decide +kernel) (by decide +kernel))
theorem flX10_424 : FL RX10 424 TX10 19 := (gb6 130 (by decide +kernel) (by decide +kernel))
theorem coX5_58 : .constant RX5 58 1000000 ∈ bigw := (gb2 58 (by decide +kernel) (by decide +kernel))
theorem coX6_106 : .constant RX6 106 1000000 ∈ bigw := (gb3 41 (by decide +kernel) (by decide +kernel))
theorem coX3_61 : .constant RX3 61 9999999 ∈ bigw := (gb3 132 (by decide +kernel) (by decide +kernel))
theorem coX5_183 : .constant RX5 183 1000000000 ∈ bigw := (gb3 218 (by decide +kernel) (by decide +kernel))
theorem coX9_389 : .constant RX9 389 1000000 ∈ bigw := (gb4 2 (by decide +kernel) (by decide +kernel))
theorem coX4_30 : .constant RX4 30 1000000000 ∈ bigw := (gb4 64 (by decide +kernel) (by decide +kernel))
theorem coX5_70 : .constantLong RX5 70 1000000 ∈ bigw := (gb3 73 (by decide +kernel) (by decide +kernel))
theorem coX5_159 : .constantLong RX5 159 10 ∈ bigw := (gb4 28 (by decide +kernel) (by decide +kernel))
theorem coX5_161 : .constantLong RX5 161 9 ∈ bigw := (gb4 29 (by decide +kernel) (by decide +kernel))
theorem coX10_43 : .constantLong RX10 43 1000000 ∈ bigw := (gb6 230 (by decide +kernel) (by decide +kernel))
theorem coX10_45 : .constantLong RX10 45 999 ∈ bigw := (gb7 66 (by decide +kernel) (by decide +kernel))
theorem coX10_106 : .constantLong RX10 106 1000000000 ∈ bigw := (gb7 91 (by decide +kernel) (by decide +kernel))
theorem coX10_197 : .constantLong RX10 197 9999 ∈ bigw := (gb7 147 (by decide +kernel) (by decide +kernel))
theorem coX10_199 : .constantLong RX10 199 2 ∈ bigw := (gb7 163 (by decide +kernel) (by decide +kernel))
theorem coX10_201 : .constantLong RX10 201 998 ∈ bigw := (gb7 164 (by decide +kernel) (by decide +kernel))
theorem coX10_207 : .constantLong RX10 207 10 ∈ bigw := (gb7 177 (by decide +kernel) (by decide +kernel))
theorem coX10_209 : .constantLong RX10 209 9 ∈ bigw := (gb7 178 (by decide +kernel) (by decide +kernel))
theorem coX10_235 : .constantLong RX10 235 97 ∈ bigw := (gb7 214 (by decide +kernel) (by decide +kernel))
theorem coX10_237 : .constantLong RX10 237 122 ∈ bigw := (gb7 215 (by decide +kernel) (by decide +kernel))
theorem coX10_239 : .constantLong RX10 239 48 ∈ bigw := (gb7 220 (by decide +kernel) (by decide +kernel))
theorem coX10_241 : .constantLong RX10 241 57 ∈ bigw := (gb7 221 (by decide +kernel) (by decide +kernel))
theorem coX10_352 : .constantLong RX10 352 9999999 ∈ bigw := (gb8 70 (by decide +kernel) (by decide +kernel))
theorem coX10_360 : .constantLong RX10 360 7 ∈ bigw := (gb8 79 (by decide +kernel) (by decide +kernel))
theorem coX10_362 : .constantLong RX10 362 6 ∈ bigw := (gb8 84 (by decide +kernel) (by decide +kernel))
theorem coX10_373 : .constantLong RX10 373 3 ∈ bigw := (gb8 117 (by decide +kernel) (by decide +kernel))
set_option maxRecDepth 100000 in
theorem mc_X9_parseSystem : .code yX9_parseSystem cX9_parseSystem 2 (some .int) ∈ bigw := (gb2 159 rfl (by decide +kernel))
theorem mi_X9_parseSystem : .initialized (yX9_parseSystem : MethodName).cls ∈ bigw := (gb1 1 (by decide +kernel) (by decide +kernel))
theorem ms_X9_parseSystem : .instanceMethod yX9_parseSystem ∈ bigw ∧ .selects (yX9_parseSystem : MethodName).cls yX9_parseSystem yX9_parseSystem ∈ bigw := ⟨(gb2 157 (by decide +kernel) (by decide +kernel)), (gb2 158 (by decide +kernel) (by decide +kernel))⟩
theorem lkL_171 : LKV RL 171 yX9_parseSystem cX9_parseSystem 2 (some .int) 0 := ⟨⟨(gb2 156 (by decide +kernel) (by decide +kernel)), mc_X9_parseSystem, mi_X9_parseSystem, by decide, by decide +kernel⟩, ms_X9_parseSystem.1, ms_X9_parseSystem.2⟩
set_option maxRecDepth 100000 in
theorem mc_X6_parse : .code yX6_parse cX6_parse 4 (some .boolean) ∈ bigw := (gb2 163 rfl (by decide +kernel))
theorem mi_X6_parse : .initialized (yX6_parse : MethodName).cls ∈ bigw := (gb1 5 (by decide +kernel) (by decide +kernel))
theorem ms_X6_parse : .instanceMethod yX6_parse ∈ bigw ∧ .selects (yX6_parse : MethodName).cls yX6_parse yX6_parse ∈ bigw := ⟨(gb2 161 (by decide +kernel) (by decide +kernel)), (gb2 162 (by decide +kernel) (by decide +kernel))⟩
theorem lkX9_106 : LKV RX9 106 yX6_parse cX6_parse 4 (some .boolean) 0 := ⟨⟨(gb2 160 (by decide +kernel) (by decide +kernel)), mc_X6_parse, mi_X6_parse, by decide, by decide +kernel⟩, ms_X6_parse.1, ms_X6_parse.2⟩
set_option maxRecDepth 100000 in
theorem mc_X1_clear : .code yX1_clear cX1_clear 1 none ∈ bigw := (gb2 167 rfl (by decide +kernel))
theorem mi_X1_clear : .initialized (yX1_clear : MethodName).cls ∈ bigw := (gb1 4 (by decide +kernel) (by decide +kernel))
theorem ms_X1_clear : .instanceMethod yX1_clear ∈ bigw ∧ .selects (yX1_clear : MethodName).cls yX1_clear yX1_clear ∈ bigw := ⟨(gb2 165 (by decide +kernel) (by decide +kernel)), (gb2 166 (by decide +kernel) (by decide +kernel))⟩
theorem lkX6_22 : LKV RX6 22 yX1_clear cX1_clear 1 none 0 := ⟨⟨(gb2 164 (by decide +kernel) (by decide +kernel)), mc_X1_clear, mi_X1_clear, by decide, by decide +kernel⟩, ms_X1_clear.1, ms_X1_clear.2⟩
set_option maxRecDepth 100000 in
theorem mc_X2_begin : .code yX2_begin cX2_begin 1 none ∈ bigw := (gb2 171 rfl (by decide +kernel))
theorem mi_X2_begin : .initialized (yX2_begin : MethodName).cls ∈ bigw := (gb1 3 (by decide +kernel) (by decide +kernel))
theorem ms_X2_begin : .instanceMethod yX2_begin ∈ bigw ∧ .selects (yX2_begin : MethodName).cls yX2_begin yX2_begin ∈ bigw := ⟨(gb2 169 (by decide +kernel) (by decide +kernel)), (gb2 170 (by decide +kernel) (by decide +kernel))⟩
theorem lkX6_25 : LKV RX6 25 yX2_begin cX2_begin 1 none 0 := ⟨⟨(gb2 168 (by decide +kernel) (by decide +kernel)), mc_X2_begin, mi_X2_begin, by decide, by decide +kernel⟩, ms_X2_begin.1, ms_X2_begin.2⟩
set_option maxRecDepth 100000 in
theorem mc_X2_advance : .code yX2_advance cX2_advance 2 none ∈ bigw := (gb2 175 rfl (by decide +kernel))
theorem mi_X2_advance : .initialized (yX2_advance : MethodName).cls ∈ bigw := (gb1 3 (by decide +kernel) (by decide +kernel))
theorem ms_X2_advance : .instanceMethod yX2_advance ∈ bigw ∧ .selects (yX2_advance : MethodName).cls yX2_advance yX2_advance ∈ bigw := ⟨(gb2 173 (by decide +kernel) (by decide +kernel)), (gb2 174 (by decide +kernel) (by decide +kernel))⟩
theorem lkX2_34 : LKV RX2 34 yX2_advance cX2_advance 2 none 0 := ⟨⟨(gb2 172 (by decide +kernel) (by decide +kernel)), mc_X2_advance, mi_X2_advance, by decide, by decide +kernel⟩, ms_X2_advance.1, ms_X2_advance.2⟩
set_option maxRecDepth 100000 in
theorem mc_X8_byteAt : .code yX8_byteAt cX8_byteAt 2 (some .int) ∈ bigw := (gb2 179 rfl (by decide +kernel))
theorem mi_X8_byteAt : .initialized (yX8_byteAt : MethodName).cls ∈ bigw := (gb1 2 (by decide +kernel) (by decide +kernel))
theorem ms_X8_byteAt : .instanceMethod yX8_byteAt ∈ bigw ∧ .selects (yX8_byteAt : MethodName).cls yX8_byteAt yX8_byteAt ∈ bigw := ⟨(gb2 177 (by decide +kernel) (by decide +kernel)), (gb2 178 (by decide +kernel) (by decide +kernel))⟩
theorem lkX2_42 : LKV RX2 42 yX8_byteAt cX8_byteAt 2 (some .int) 1 := ⟨⟨(gb2 176 (by decide +kernel) (by decide +kernel)), mc_X8_byteAt, mi_X8_byteAt, by decide, by decide +kernel⟩, ms_X8_byteAt.1, ms_X8_byteAt.2⟩
set_option maxRecDepth 100000 in
theorem mc_X2_kindOf : .code yX2_kindOf cX2_kindOf 1 (some .int) ∈ bigw := (gb2 182 rfl (by decide +kernel))
theorem mi_X2_kindOf : .initialized (yX2_kindOf : MethodName).cls ∈ bigw := (gb1 3 (by decide +kernel) (by decide +kernel))
theorem ms_X2_kindOf : .static yX2_kindOf ∈ bigw := (gb2 181 (by decide +kernel) (by decide +kernel))
theorem lkX2_46 : LKS RX2 46 yX2_kindOf cX2_kindOf 1 (some .int) 1 := ⟨⟨(gb2 180 (by decide +kernel) (by decide +kernel)), mc_X2_kindOf, mi_X2_kindOf, by decide, by decide +kernel⟩, ms_X2_kindOf⟩
set_option maxRecDepth 100000 in
theorem mc_Math_min : .code Lib.Math.min.name Lib.Math.min.code 2 (some .int) ∈ bigw := (gb2 185 rfl (by decide +kernel))
theorem mi_Math_min : .initialized (Lib.Math.min.name : MethodName).cls ∈ bigw := (gb1 17 (by decide +kernel) (by decide +kernel))
theorem ms_Math_min : .static Lib.Math.min.name ∈ bigw := (gb2 184 (by decide +kernel) (by decide +kernel))
theorem lkX2_49 : LKS RX2 49 Lib.Math.min.name Lib.Math.min.code 2 (some .int) 2 := ⟨⟨(gb2 183 (by decide +kernel) (by decide +kernel)), mc_Math_min, mi_Math_min, by decide, by decide +kernel⟩, ms_Math_min⟩
set_option maxRecDepth 100000 in
theorem mc_X6_section : .code yX6_section cX6_section 1 (some .int) ∈ bigw := (gb2 189 rfl (by decide +kernel))
theorem mi_X6_section : .initialized (yX6_section : MethodName).cls ∈ bigw := (gb1 5 (by decide +kernel) (by decide +kernel))
theorem ms_X6_section : .instanceMethod yX6_section ∈ bigw ∧ .selects (yX6_section : MethodName).cls yX6_section yX6_section ∈ bigw := ⟨(gb2 188 (by decide +kernel) (by decide +kernel)), (gb0 0 (by decide +kernel) (by decide +kernel))⟩
theorem lkX6_37 : LKV RX6 37 yX6_section cX6_section 1 (some .int) 0 := ⟨⟨(gb2 186 (by decide +kernel) (by decide +kernel)), mc_X6_section, mi_X6_section, by decide, by decide +kernel⟩, ms_X6_section.1, ms_X6_section.2⟩
set_option maxRecDepth 100000 in
theorem mc_X2_isWord : .code yX2_isWord cX2_isWord 3 (some .boolean) ∈ bigw := (gb2 194 rfl (by decide +kernel))
theorem mi_X2_isWord : .initialized (yX2_isWord : MethodName).cls ∈ bigw := (gb1 3 (by decide +kernel) (by decide +kernel))
theorem ms_X2_isWord : .instanceMethod yX2_isWord ∈ bigw ∧ .selects (yX2_isWord : MethodName).cls yX2_isWord yX2_isWord ∈ bigw := ⟨(gb2 192 (by decide +kernel) (by decide +kernel)), (gb2 193 (by decide +kernel) (by decide +kernel))⟩
theorem lkX6_72 : LKV RX6 72 yX2_isWord cX2_isWord 3 (some .boolean) 1 := ⟨⟨(gb2 191 (by decide +kernel) (by decide +kernel)), mc_X2_isWord, mi_X2_isWord, by decide, by decide +kernel⟩, ms_X2_isWord.1, ms_X2_isWord.2⟩
set_option maxRecDepth 100000 in
theorem mc_String_length : .code ⟨"java/lang/String", "length", "()I"⟩ prog_22_method_54_code 1 (some .int) ∈ bigw := (gb2 198 rfl (by decide +kernel))
theorem mi_String_length : .initialized (⟨"java/lang/String", "length", "()I"⟩ : MethodName).cls ∈ bigw := (gb1 18 (by decide +kernel) (by decide +kernel))
theorem ms_String_length : .instanceMethod ⟨"java/lang/String", "length", "()I"⟩ ∈ bigw ∧ .selects (⟨"java/lang/String", "length", "()I"⟩ : MethodName).cls ⟨"java/lang/String", "length", "()I"⟩ ⟨"java/lang/String", "length", "()I"⟩ ∈ bigw := ⟨(gb2 196 (by decide +kernel) (by decide +kernel)), (gb2 197 (by decide +kernel) (by decide +kernel))⟩
theorem lkX2_55 : LKV RX2 55 ⟨"java/lang/String", "length", "()I"⟩ prog_22_method_54_code 1 (some .int) 0 := ⟨⟨(gb2 195 (by decide +kernel) (by decide +kernel)), mc_String_length, mi_String_length, by decide, by decide +kernel⟩, ms_String_length.1, ms_String_length.2⟩
set_option maxRecDepth 100000 in
theorem mc_String_charAt : .code ⟨"java/lang/String", "charAt", "(I)C"⟩ prog_22_method_56_code 2 (some .char) ∈ bigw := (gb2 208 rfl (by decide +kernel))
theorem mi_String_charAt : .initialized (⟨"java/lang/String", "charAt", "(I)C"⟩ : MethodName).cls ∈ bigw := (gb1 18 (by decide +kernel) (by decide +kernel))
theorem ms_String_charAt : .instanceMethod ⟨"java/lang/String", "charAt", "(I)C"⟩ ∈ bigw ∧ .selects (⟨"java/lang/String", "charAt", "(I)C"⟩ : MethodName).cls ⟨"java/lang/String", "charAt", "(I)C"⟩ ⟨"java/lang/String", "charAt", "(I)C"⟩ ∈ bigw := ⟨(gb2 206 (by decide +kernel) (by decide +kernel)), (gb2 207 (by decide +kernel) (by decide +kernel))⟩
theorem lkX2_60 : LKV RX2 60 ⟨"java/lang/String", "charAt", "(I)C"⟩ prog_22_method_56_code 2 (some .char) 1 := ⟨⟨(gb2 205 (by decide +kernel) (by decide +kernel)), mc_String_charAt, mi_String_charAt, by decide, by decide +kernel⟩, ms_String_charAt.1, ms_String_charAt.2⟩
set_option maxRecDepth 100000 in
theorem mc_X2_fail : .code yX2_fail cX2_fail 3 none ∈ bigw := (gb3 9 rfl (by decide +kernel))
theorem mi_X2_fail : .initialized (yX2_fail : MethodName).cls ∈ bigw := (gb1 3 (by decide +kernel) (by decide +kernel))
theorem ms_X2_fail : .instanceMethod yX2_fail ∈ bigw ∧ .selects (yX2_fail : MethodName).cls yX2_fail yX2_fail ∈ bigw := ⟨(gb3 7 (by decide +kernel) (by decide +kernel)), (gb3 8 (by decide +kernel) (by decide +kernel))⟩
theorem lkX6_47 : LKV RX6 47 yX2_fail cX2_fail 3 none 2 := ⟨⟨(gb3 6 (by decide +kernel) (by decide +kernel)), mc_X2_fail, mi_X2_fail, by decide, by decide +kernel⟩, ms_X2_fail.1, ms_X2_fail.2⟩
set_option maxRecDepth 100000 in
theorem mc_X6_isFull : .code yX6_isFull cX6_isFull 2 (some .boolean) ∈ bigw := (gb3 13 rfl (by decide +kernel))
theorem mi_X6_isFull : .initialized (yX6_isFull : MethodName).cls ∈ bigw := (gb1 5 (by decide +kernel) (by decide +kernel))
theorem ms_X6_isFull : .instanceMethod yX6_isFull ∈ bigw ∧ .selects (yX6_isFull : MethodName).cls yX6_isFull yX6_isFull ∈ bigw := ⟨(gb3 12 (by decide +kernel) (by decide +kernel)), (gb0 1 (by decide +kernel) (by decide +kernel))⟩
theorem lkX6_51 : LKV RX6 51 yX6_isFull cX6_isFull 2 (some .boolean) 1 := ⟨⟨(gb3 10 (by decide +kernel) (by decide +kernel)), mc_X6_isFull, mi_X6_isFull, by decide, by decide +kernel⟩, ms_X6_isFull.1, ms_X6_isFull.2⟩
theorem lkX6_55 : LKV RX6 55 yX2_advance cX2_advance 2 none 0 := ⟨⟨(gb3 14 (by decide +kernel) (by decide +kernel)), mc_X2_advance, mi_X2_advance, by decide, by decide +kernel⟩, ms_X2_advance.1, ms_X2_advance.2⟩
set_option maxRecDepth 100000 in
theorem mc_X6_readChamber : .code yX6_readChamber cX6_readChamber 4 none ∈ bigw := (gb3 18 rfl (by decide +kernel))
theorem mi_X6_readChamber : .initialized (yX6_readChamber : MethodName).cls ∈ bigw := (gb1 5 (by decide +kernel) (by decide +kernel))
theorem ms_X6_readChamber : .instanceMethod yX6_readChamber ∈ bigw ∧ .selects (yX6_readChamber : MethodName).cls yX6_readChamber yX6_readChamber ∈ bigw := ⟨(gb3 17 (by decide +kernel) (by decide +kernel)), (gb0 2 (by decide +kernel) (by decide +kernel))⟩
theorem lkX6_58 : LKV RX6 58 yX6_readChamber cX6_readChamber 4 none 0 := ⟨⟨(gb3 15 (by decide +kernel) (by decide +kernel)), mc_X6_readChamber, mi_X6_readChamber, by decide, by decide +kernel⟩, ms_X6_readChamber.1, ms_X6_readChamber.2⟩
set_option maxRecDepth 100000 in
theorem mc_X2_readNumber : .code yX2_readNumber cX2_readNumber 4 (some .int) ∈ bigw := (gb3 22 rfl (by decide +kernel))
theorem mi_X2_readNumber : .initialized (yX2_readNumber : MethodName).cls ∈ bigw := (gb1 3 (by decide +kernel) (by decide +kernel))
theorem ms_X2_readNumber : .instanceMethod yX2_readNumber ∈ bigw ∧ .selects (yX2_readNumber : MethodName).cls yX2_readNumber yX2_readNumber ∈ bigw := ⟨(gb3 20 (by decide +kernel) (by decide +kernel)), (gb3 21 (by decide +kernel) (by decide +kernel))⟩
theorem lkX6_91 : LKV RX6 91 yX2_readNumber cX2_readNumber 4 (some .int) 2 := ⟨⟨(gb3 19 (by decide +kernel) (by decide +kernel)), mc_X2_readNumber, mi_X2_readNumber, by decide, by decide +kernel⟩, ms_X2_readNumber.1, ms_X2_readNumber.2⟩
theorem lkX2_64 : LKV RX2 64 yX2_fail cX2_fail 3 none 2 := ⟨⟨(gb3 23 (by decide +kernel) (by decide +kernel)), mc_X2_fail, mi_X2_fail, by decide, by decide +kernel⟩, ms_X2_fail.1, ms_X2_fail.2⟩
set_option maxRecDepth 100000 in
theorem mc_X2_readSemicolon : .code yX2_readSemicolon cX2_readSemicolon 1 none ∈ bigw := (gb3 27 rfl (by decide +kernel))
theorem mi_X2_readSemicolon : .initialized (yX2_readSemicolon : MethodName).cls ∈ bigw := (gb1 3 (by decide +kernel) (by decide +kernel))
theorem ms_X2_readSemicolon : .instanceMethod yX2_readSemicolon ∈ bigw ∧ .selects (yX2_readSemicolon : MethodName).cls yX2_readSemicolon yX2_readSemicolon ∈ bigw := ⟨(gb3 25 (by decide +kernel) (by decide +kernel)), (gb3 26 (by decide +kernel) (by decide +kernel))⟩
theorem lkX6_95 : LKV RX6 95 yX2_readSemicolon cX2_readSemicolon 1 none 0 := ⟨⟨(gb3 24 (by decide +kernel) (by decide +kernel)), mc_X2_readSemicolon, mi_X2_readSemicolon, by decide, by decide +kernel⟩, ms_X2_readSemicolon.1, ms_X2_readSemicolon.2⟩
set_option maxRecDepth 100000 in
theorem mc_X1_addChamber : .code yX1_addChamber cX1_addChamber 4 none ∈ bigw := (gb3 31 rfl (by decide +kernel))
theorem mi_X1_addChamber : .initialized (yX1_addChamber : MethodName).cls ∈ bigw := (gb1 4 (by decide +kernel) (by decide +kernel))
theorem ms_X1_addChamber : .instanceMethod yX1_addChamber ∈ bigw ∧ .selects (yX1_addChamber : MethodName).cls yX1_addChamber yX1_addChamber ∈ bigw := ⟨(gb3 29 (by decide +kernel) (by decide +kernel)), (gb3 30 (by decide +kernel) (by decide +kernel))⟩
theorem lkX6_98 : LKV RX6 98 yX1_addChamber cX1_addChamber 4 none 3 := ⟨⟨(gb3 28 (by decide +kernel) (by decide +kernel)), mc_X1_addChamber, mi_X1_addChamber, by decide, by decide +kernel⟩, ms_X1_addChamber.1, ms_X1_addChamber.2⟩
set_option maxRecDepth 100000 in
theorem mc_X6_readPump : .code yX6_readPump cX6_readPump 7 none ∈ bigw := (gb3 35 rfl (by decide +kernel))
theorem mi_X6_readPump : .initialized (yX6_readPump : MethodName).cls ∈ bigw := (gb1 5 (by decide +kernel) (by decide +kernel))
theorem ms_X6_readPump : .instanceMethod yX6_readPump ∈ bigw ∧ .selects (yX6_readPump : MethodName).cls yX6_readPump yX6_readPump ∈ bigw := ⟨(gb3 34 (by decide +kernel) (by decide +kernel)), (gb0 3 (by decide +kernel) (by decide +kernel))⟩
theorem lkX6_61 : LKV RX6 61 yX6_readPump cX6_readPump 7 none 0 := ⟨⟨(gb3 32 (by decide +kernel) (by decide +kernel)), mc_X6_readPump, mi_X6_readPump, by decide, by decide +kernel⟩, ms_X6_readPump.1, ms_X6_readPump.2⟩
set_option maxRecDepth 100000 in
theorem mc_X6_readOtherSide : .code yX6_readOtherSide cX6_readOtherSide 4 (some .int) ∈ bigw := (gb3 39 rfl (by decide +kernel))
theorem mi_X6_readOtherSide : .initialized (yX6_readOtherSide : MethodName).cls ∈ bigw := (gb1 5 (by decide +kernel) (by decide +kernel))
theorem ms_X6_readOtherSide : .instanceMethod yX6_readOtherSide ∈ bigw ∧ .selects (yX6_readOtherSide : MethodName).cls yX6_readOtherSide yX6_readOtherSide ∈ bigw := ⟨(gb3 38 (by decide +kernel) (by decide +kernel)), (gb0 4 (by decide +kernel) (by decide +kernel))⟩
theorem lkX6_102 : LKV RX6 102 yX6_readOtherSide cX6_readOtherSide 4 (some .int) 1 := ⟨⟨(gb3 36 (by decide +kernel) (by decide +kernel)), mc_X6_readOtherSide, mi_X6_readOtherSide, by decide, by decide +kernel⟩, ms_X6_readOtherSide.1, ms_X6_readOtherSide.2⟩
set_option maxRecDepth 100000 in
theorem mc_X1_addPump : .code yX1_addPump cX1_addPump 7 none ∈ bigw := (gb3 45 rfl (by decide +kernel))
theorem mi_X1_addPump : .initialized (yX1_addPump : MethodName).cls ∈ bigw := (gb1 4 (by decide +kernel) (by decide +kernel))
theorem ms_X1_addPump : .instanceMethod yX1_addPump ∈ bigw ∧ .selects (yX1_addPump : MethodName).cls yX1_addPump yX1_addPump ∈ bigw := ⟨(gb3 43 (by decide +kernel) (by decide +kernel)), (gb3 44 (by decide +kernel) (by decide +kernel))⟩
theorem lkX6_107 : LKV RX6 107 yX1_addPump cX1_addPump 7 none 6 := ⟨⟨(gb3 42 (by decide +kernel) (by decide +kernel)), mc_X1_addPump, mi_X1_addPump, by decide, by decide +kernel⟩, ms_X1_addPump.1, ms_X1_addPump.2⟩
set_option maxRecDepth 100000 in
theorem mc_X6_readValve : .code yX6_readValve cX6_readValve 5 none ∈ bigw := (gb3 49 rfl (by decide +kernel))
theorem mi_X6_readValve : .initialized (yX6_readValve : MethodName).cls ∈ bigw := (gb1 5 (by decide +kernel) (by decide +kernel))
theorem ms_X6_readValve : .instanceMethod yX6_readValve ∈ bigw ∧ .selects (yX6_readValve : MethodName).cls yX6_readValve yX6_readValve ∈ bigw := ⟨(gb3 48 (by decide +kernel) (by decide +kernel)), (gb0 5 (by decide +kernel) (by decide +kernel))⟩
theorem lkX6_64 : LKV RX6 64 yX6_readValve cX6_readValve 5 none 0 := ⟨⟨(gb3 46 (by decide +kernel) (by decide +kernel)), mc_X6_readValve, mi_X6_readValve, by decide, by decide +kernel⟩, ms_X6_readValve.1, ms_X6_readValve.2⟩
set_option maxRecDepth 100000 in
theorem mc_X1_addValve : .code yX1_addValve cX1_addValve 5 none ∈ bigw := (gb3 53 rfl (by decide +kernel))
theorem mi_X1_addValve : .initialized (yX1_addValve : MethodName).cls ∈ bigw := (gb1 4 (by decide +kernel) (by decide +kernel))
theorem ms_X1_addValve : .instanceMethod yX1_addValve ∈ bigw ∧ .selects (yX1_addValve : MethodName).cls yX1_addValve yX1_addValve ∈ bigw := ⟨(gb3 51 (by decide +kernel) (by decide +kernel)), (gb3 52 (by decide +kernel) (by decide +kernel))⟩
theorem lkX6_111 : LKV RX6 111 yX1_addValve cX1_addValve 5 none 4 := ⟨⟨(gb3 50 (by decide +kernel) (by decide +kernel)), mc_X1_addValve, mi_X1_addValve, by decide, by decide +kernel⟩, ms_X1_addValve.1, ms_X1_addValve.2⟩
set_option maxRecDepth 100000 in
theorem mc_X6_readFlange : .code yX6_readFlange cX6_readFlange 3 none ∈ bigw := (gb3 57 rfl (by decide +kernel))
theorem mi_X6_readFlange : .initialized (yX6_readFlange : MethodName).cls ∈ bigw := (gb1 5 (by decide +kernel) (by decide +kernel))
theorem ms_X6_readFlange : .instanceMethod yX6_readFlange ∈ bigw ∧ .selects (yX6_readFlange : MethodName).cls yX6_readFlange yX6_readFlange ∈ bigw := ⟨(gb3 56 (by decide +kernel) (by decide +kernel)), (gb0 6 (by decide +kernel) (by decide +kernel))⟩
theorem lkX6_67 : LKV RX6 67 yX6_readFlange cX6_readFlange 3 none 0 := ⟨⟨(gb3 54 (by decide +kernel) (by decide +kernel)), mc_X6_readFlange, mi_X6_readFlange, by decide, by decide +kernel⟩, ms_X6_readFlange.1, ms_X6_readFlange.2⟩
set_option maxRecDepth 100000 in
theorem mc_X1_addFlange : .code yX1_addFlange cX1_addFlange 3 none ∈ bigw := (gb3 61 rfl (by decide +kernel))
theorem mi_X1_addFlange : .initialized (yX1_addFlange : MethodName).cls ∈ bigw := (gb1 4 (by decide +kernel) (by decide +kernel))
theorem ms_X1_addFlange : .instanceMethod yX1_addFlange ∈ bigw ∧ .selects (yX1_addFlange : MethodName).cls yX1_addFlange yX1_addFlange ∈ bigw := ⟨(gb3 59 (by decide +kernel) (by decide +kernel)), (gb3 60 (by decide +kernel) (by decide +kernel))⟩
theorem lkX6_115 : LKV RX6 115 yX1_addFlange cX1_addFlange 3 none 2 := ⟨⟨(gb3 58 (by decide +kernel) (by decide +kernel)), mc_X1_addFlange, mi_X1_addFlange, by decide, by decide +kernel⟩, ms_X1_addFlange.1, ms_X1_addFlange.2⟩
set_option maxRecDepth 100000 in
theorem mc_X1_copyFrom : .code yX1_copyFrom cX1_copyFrom 2 none ∈ bigw := (gb3 65 rfl (by decide +kernel))
theorem mi_X1_copyFrom : .initialized (yX1_copyFrom : MethodName).cls ∈ bigw := (gb1 4 (by decide +kernel) (by decide +kernel))
theorem ms_X1_copyFrom : .instanceMethod yX1_copyFrom ∈ bigw ∧ .selects (yX1_copyFrom : MethodName).cls yX1_copyFrom yX1_copyFrom ∈ bigw := ⟨(gb3 63 (by decide +kernel) (by decide +kernel)), (gb3 64 (by decide +kernel) (by decide +kernel))⟩
theorem lkX9_119 : LKV RX9 119 yX1_copyFrom cX1_copyFrom 2 none 1 := ⟨⟨(gb3 62 (by decide +kernel) (by decide +kernel)), mc_X1_copyFrom, mi_X1_copyFrom, by decide, by decide +kernel⟩, ms_X1_copyFrom.1, ms_X1_copyFrom.2⟩
theorem lkX1_70 : LKA RX1 70 := ⟨(gb3 66 (by decide +kernel) (by decide +kernel)), (gb3 68 (by decide +kernel) (by decide +kernel)), (gb3 67 (by decide +kernel) (by decide +kernel)), (gb1 22 (by decide +kernel) (by decide +kernel))⟩
set_option maxRecDepth 100000 in
theorem mc_X5_reset : .code yX5_reset cX5_reset 2 none ∈ bigw := (gb3 72 rfl (by decide +kernel))
theorem mi_X5_reset : .initialized (yX5_reset : MethodName).cls ∈ bigw := (gb1 9 (by decide +kernel) (by decide +kernel))
theorem ms_X5_reset : .instanceMethod yX5_reset ∈ bigw ∧ .selects (yX5_reset : MethodName).cls yX5_reset yX5_reset ∈ bigw := ⟨(gb3 70 (by decide +kernel) (by decide +kernel)), (gb3 71 (by decide +kernel) (by decide +kernel))⟩
theorem lkX9_122 : LKV RX9 122 yX5_reset cX5_reset 2 none 0 := ⟨⟨(gb3 69 (by decide +kernel) (by decide +kernel)), mc_X5_reset, mi_X5_reset, by decide, by decide +kernel⟩, ms_X5_reset.1, ms_X5_reset.2⟩
set_option maxRecDepth 100000 in
theorem mc_X5_addGas : .code yX5_addGas cX5_addGas 5 none ∈ bigw := (gb3 77 rfl (by decide +kernel))
theorem mi_X5_addGas : .initialized (yX5_addGas : MethodName).cls ∈ bigw := (gb1 9 (by decide +kernel) (by decide +kernel))
theorem ms_X5_addGas : .instanceMethod yX5_addGas ∈ bigw ∧ .selects (yX5_addGas : MethodName).cls yX5_addGas yX5_addGas ∈ bigw := ⟨(gb3 76 (by decide +kernel) (by decide +kernel)), (gb0 7 (by decide +kernel) (by decide +kernel))⟩
theorem lkX5_72 : LKV RX5 72 yX5_addGas cX5_addGas 5 none 2 := ⟨⟨(gb3 74 (by decide +kernel) (by decide +kernel)), mc_X5_addGas, mi_X5_addGas, by decide, by decide +kernel⟩, ms_X5_addGas.1, ms_X5_addGas.2⟩
set_option maxRecDepth 100000 in
theorem mc_X5_putLeak : .code yX5_putLeak cX5_putLeak 3 none ∈ bigw := (gb3 81 rfl (by decide +kernel))
theorem mi_X5_putLeak : .initialized (yX5_putLeak : MethodName).cls ∈ bigw := (gb1 9 (by decide +kernel) (by decide +kernel))
theorem ms_X5_putLeak : .instanceMethod yX5_putLeak ∈ bigw ∧ .selects (yX5_putLeak : MethodName).cls yX5_putLeak yX5_putLeak ∈ bigw := ⟨(gb3 79 (by decide +kernel) (by decide +kernel)), (gb3 80 (by decide +kernel) (by decide +kernel))⟩
theorem lkX5_94 : LKV RX5 94 yX5_putLeak cX5_putLeak 3 none 2 := ⟨⟨(gb3 78 (by decide +kernel) (by decide +kernel)), mc_X5_putLeak, mi_X5_putLeak, by decide, by decide +kernel⟩, ms_X5_putLeak.1, ms_X5_putLeak.2⟩
set_option maxRecDepth 100000 in
theorem mc_X9_errorCode : .code yX9_errorCode cX9_errorCode 1 (some .int) ∈ bigw := (gb3 85 rfl (by decide +kernel))
theorem mi_X9_errorCode : .initialized (yX9_errorCode : MethodName).cls ∈ bigw := (gb1 1 (by decide +kernel) (by decide +kernel))
theorem ms_X9_errorCode : .instanceMethod yX9_errorCode ∈ bigw ∧ .selects (yX9_errorCode : MethodName).cls yX9_errorCode yX9_errorCode ∈ bigw := ⟨(gb3 83 (by decide +kernel) (by decide +kernel)), (gb3 84 (by decide +kernel) (by decide +kernel))⟩
theorem lkL_175 : LKV RL 175 yX9_errorCode cX9_errorCode 1 (some .int) 0 := ⟨⟨(gb3 82 (by decide +kernel) (by decide +kernel)), mc_X9_errorCode, mi_X9_errorCode, by decide, by decide +kernel⟩, ms_X9_errorCode.1, ms_X9_errorCode.2⟩
set_option maxRecDepth 100000 in
theorem mc_X9_errorPosition : .code yX9_errorPosition cX9_errorPosition 1 (some .int) ∈ bigw := (gb3 89 rfl (by decide +kernel))
theorem mi_X9_errorPosition : .initialized (yX9_errorPosition : MethodName).cls ∈ bigw := (gb1 1 (by decide +kernel) (by decide +kernel))
theorem ms_X9_errorPosition : .instanceMethod yX9_errorPosition ∈ bigw ∧ .selects (yX9_errorPosition : MethodName).cls yX9_errorPosition yX9_errorPosition ∈ bigw := ⟨(gb3 87 (by decide +kernel) (by decide +kernel)), (gb3 88 (by decide +kernel) (by decide +kernel))⟩
theorem lkL_179 : LKV RL 179 yX9_errorPosition cX9_errorPosition 1 (some .int) 0 := ⟨⟨(gb3 86 (by decide +kernel) (by decide +kernel)), mc_X9_errorPosition, mi_X9_errorPosition, by decide, by decide +kernel⟩, ms_X9_errorPosition.1, ms_X9_errorPosition.2⟩
set_option maxRecDepth 100000 in
theorem mc_X9_runRecipe : .code yX9_runRecipe cX9_runRecipe 2 (some .int) ∈ bigw := (gb3 93 rfl (by decide +kernel))
theorem mi_X9_runRecipe : .initialized (yX9_runRecipe : MethodName).cls ∈ bigw := (gb1 1 (by decide +kernel) (by decide +kernel))
theorem ms_X9_runRecipe : .instanceMethod yX9_runRecipe ∈ bigw ∧ .selects (yX9_runRecipe : MethodName).cls yX9_runRecipe yX9_runRecipe ∈ bigw := ⟨(gb3 91 (by decide +kernel) (by decide +kernel)), (gb3 92 (by decide +kernel) (by decide +kernel))⟩
theorem lkL_217 : LKV RL 217 yX9_runRecipe cX9_runRecipe 2 (some .int) 0 := ⟨⟨(gb3 90 (by decide +kernel) (by decide +kernel)), mc_X9_runRecipe, mi_X9_runRecipe, by decide, by decide +kernel⟩, ms_X9_runRecipe.1, ms_X9_runRecipe.2⟩
set_option maxRecDepth 100000 in
theorem mc_X9_beginTrial : .code yX9_beginTrial cX9_beginTrial 1 none ∈ bigw := (gb3 97 rfl (by decide +kernel))
theorem mi_X9_beginTrial : .initialized (yX9_beginTrial : MethodName).cls ∈ bigw := (gb1 1 (by decide +kernel) (by decide +kernel))
theorem ms_X9_beginTrial : .instanceMethod yX9_beginTrial ∈ bigw ∧ .selects (yX9_beginTrial : MethodName).cls yX9_beginTrial yX9_beginTrial ∈ bigw := ⟨(gb3 96 (by decide +kernel) (by decide +kernel)), (gb0 8 (by decide +kernel) (by decide +kernel))⟩
theorem lkX9_139 : LKV RX9 139 yX9_beginTrial cX9_beginTrial 1 none 0 := ⟨⟨(gb3 94 (by decide +kernel) (by decide +kernel)), mc_X9_beginTrial, mi_X9_beginTrial, by decide, by decide +kernel⟩, ms_X9_beginTrial.1, ms_X9_beginTrial.2⟩
set_option maxRecDepth 100000 in
theorem mc_X5_copyFrom : .code yX5_copyFrom cX5_copyFrom 2 none ∈ bigw := (gb3 101 rfl (by decide +kernel))
theorem mi_X5_copyFrom : .initialized (yX5_copyFrom : MethodName).cls ∈ bigw := (gb1 9 (by decide +kernel) (by decide +kernel))
theorem ms_X5_copyFrom : .instanceMethod yX5_copyFrom ∈ bigw ∧ .selects (yX5_copyFrom : MethodName).cls yX5_copyFrom yX5_copyFrom ∈ bigw := ⟨(gb3 99 (by decide +kernel) (by decide +kernel)), (gb3 100 (by decide +kernel) (by decide +kernel))⟩
theorem lkX9_382 : LKV RX9 382 yX5_copyFrom cX5_copyFrom 2 none 1 := ⟨⟨(gb3 98 (by decide +kernel) (by decide +kernel)), mc_X5_copyFrom, mi_X5_copyFrom, by decide, by decide +kernel⟩, ms_X5_copyFrom.1, ms_X5_copyFrom.2⟩
theorem lkX5_98 : LKA RX5 98 := ⟨(gb3 102 (by decide +kernel) (by decide +kernel)), (gb3 68 (by decide +kernel) (by decide +kernel)), (gb3 67 (by decide +kernel) (by decide +kernel)), (gb1 22 (by decide +kernel) (by decide +kernel))⟩
set_option maxRecDepth 100000 in
theorem mc_X7_copyFrom : .code yX7_copyFrom cX7_copyFrom 2 none ∈ bigw := (gb3 106 rfl (by decide +kernel))
theorem mi_X7_copyFrom : .initialized (yX7_copyFrom : MethodName).cls ∈ bigw := (gb1 10 (by decide +kernel) (by decide +kernel))
theorem ms_X7_copyFrom : .instanceMethod yX7_copyFrom ∈ bigw ∧ .selects (yX7_copyFrom : MethodName).cls yX7_copyFrom yX7_copyFrom ∈ bigw := ⟨(gb3 104 (by decide +kernel) (by decide +kernel)), (gb3 105 (by decide +kernel) (by decide +kernel))⟩
theorem lkX5_104 : LKV RX5 104 yX7_copyFrom cX7_copyFrom 2 none 1 := ⟨⟨(gb3 103 (by decide +kernel) (by decide +kernel)), mc_X7_copyFrom, mi_X7_copyFrom, by decide, by decide +kernel⟩, ms_X7_copyFrom.1, ms_X7_copyFrom.2⟩
theorem lkX7_24 : LKA RX7 24 := ⟨(gb3 107 (by decide +kernel) (by decide +kernel)), (gb3 68 (by decide +kernel) (by decide +kernel)), (gb3 67 (by decide +kernel) (by decide +kernel)), (gb1 22 (by decide +kernel) (by decide +kernel))⟩
set_option maxRecDepth 100000 in
theorem mc_X3_run : .code yX3_run cX3_run 6 (some .int) ∈ bigw := (gb3 111 rfl (by decide +kernel))
theorem mi_X3_run : .initialized (yX3_run : MethodName).cls ∈ bigw := (gb1 6 (by decide +kernel) (by decide +kernel))
theorem ms_X3_run : .instanceMethod yX3_run ∈ bigw ∧ .selects (yX3_run : MethodName).cls yX3_run yX3_run ∈ bigw := ⟨(gb3 109 (by decide +kernel) (by decide +kernel)), (gb3 110 (by decide +kernel) (by decide +kernel))⟩
theorem lkX9_216 : LKV RX9 216 yX3_run cX3_run 6 (some .int) 1 := ⟨⟨(gb3 108 (by decide +kernel) (by decide +kernel)), mc_X3_run, mi_X3_run, by decide, by decide +kernel⟩, ms_X3_run.1, ms_X3_run.2⟩
theorem lkX3_26 : LKV RX3 26 yX2_begin cX2_begin 1 none 0 := ⟨⟨(gb3 112 (by decide +kernel) (by decide +kernel)), mc_X2_begin, mi_X2_begin, by decide, by decide +kernel⟩, ms_X2_begin.1, ms_X2_begin.2⟩
set_option maxRecDepth 100000 in
theorem mc_X3_readStep : .code yX3_readStep cX3_readStep 2 (some .int) ∈ bigw := (gb3 116 rfl (by decide +kernel))
theorem mi_X3_readStep : .initialized (yX3_readStep : MethodName).cls ∈ bigw := (gb1 6 (by decide +kernel) (by decide +kernel))
theorem ms_X3_readStep : .instanceMethod yX3_readStep ∈ bigw ∧ .selects (yX3_readStep : MethodName).cls yX3_readStep yX3_readStep ∈ bigw := ⟨(gb3 115 (by decide +kernel) (by decide +kernel)), (gb0 9 (by decide +kernel) (by decide +kernel))⟩
theorem lkX3_37 : LKV RX3 37 yX3_readStep cX3_readStep 2 (some .int) 0 := ⟨⟨(gb3 113 (by decide +kernel) (by decide +kernel)), mc_X3_readStep, mi_X3_readStep, by decide, by decide +kernel⟩, ms_X3_readStep.1, ms_X3_readStep.2⟩
set_option maxRecDepth 100000 in
theorem mc_X3_step : .code yX3_step cX3_step 1 (some .int) ∈ bigw := (gb3 120 rfl (by decide +kernel))
theorem mi_X3_step : .initialized (yX3_step : MethodName).cls ∈ bigw := (gb1 6 (by decide +kernel) (by decide +kernel))
theorem ms_X3_step : .instanceMethod yX3_step ∈ bigw ∧ .selects (yX3_step : MethodName).cls yX3_step yX3_step ∈ bigw := ⟨(gb3 119 (by decide +kernel) (by decide +kernel)), (gb0 10 (by decide +kernel) (by decide +kernel))⟩
theorem lkX3_55 : LKV RX3 55 yX3_step cX3_step 1 (some .int) 0 := ⟨⟨(gb3 117 (by decide +kernel) (by decide +kernel)), mc_X3_step, mi_X3_step, by decide, by decide +kernel⟩, ms_X3_step.1, ms_X3_step.2⟩
theorem lkX3_71 : LKV RX3 71 yX2_isWord cX2_isWord 3 (some .boolean) 1 := ⟨⟨(gb3 122 (by decide +kernel) (by decide +kernel)), mc_X2_isWord, mi_X2_isWord, by decide, by decide +kernel⟩, ms_X2_isWord.1, ms_X2_isWord.2⟩
theorem lkX3_48 : LKV RX3 48 yX2_fail cX2_fail 3 none 2 := ⟨⟨(gb3 130 (by decide +kernel) (by decide +kernel)), mc_X2_fail, mi_X2_fail, by decide, by decide +kernel⟩, ms_X2_fail.1, ms_X2_fail.2⟩
theorem lkX3_58 : LKV RX3 58 yX2_advance cX2_advance 2 none 0 := ⟨⟨(gb3 131 (by decide +kernel) (by decide +kernel)), mc_X2_advance, mi_X2_advance, by decide, by decide +kernel⟩, ms_X2_advance.1, ms_X2_advance.2⟩
theorem lkX3_62 : LKV RX3 62 yX2_readNumber cX2_readNumber 4 (some .int) 2 := ⟨⟨(gb3 133 (by decide +kernel) (by decide +kernel)), mc_X2_readNumber, mi_X2_readNumber, by decide, by decide +kernel⟩, ms_X2_readNumber.1, ms_X2_readNumber.2⟩
theorem lkX3_66 : LKV RX3 66 yX2_readSemicolon cX2_readSemicolon 1 none 0 := ⟨⟨(gb3 134 (by decide +kernel) (by decide +kernel)), mc_X2_readSemicolon, mi_X2_readSemicolon, by decide, by decide +kernel⟩, ms_X2_readSemicolon.1, ms_X2_readSemicolon.2⟩
set_option maxRecDepth 100000 in
theorem mc_X3_execute : .code yX3_execute cX3_execute 3 (some .boolean) ∈ bigw := (gb3 138 rfl (by decide +kernel))
theorem mi_X3_execute : .initialized (yX3_execute : MethodName).cls ∈ bigw := (gb1 6 (by decide +kernel) (by decide +kernel))
theorem ms_X3_execute : .instanceMethod yX3_execute ∈ bigw ∧ .selects (yX3_execute : MethodName).cls yX3_execute yX3_execute ∈ bigw := ⟨(gb3 137 (by decide +kernel) (by decide +kernel)), (gb0 11 (by decide +kernel) (by decide +kernel))⟩
theorem lkX3_44 : LKV RX3 44 yX3_execute cX3_execute 3 (some .boolean) 2 := ⟨⟨(gb3 135 (by decide +kernel) (by decide +kernel)), mc_X3_execute, mi_X3_execute, by decide, by decide +kernel⟩, ms_X3_execute.1, ms_X3_execute.2⟩
set_option maxRecDepth 100000 in
theorem mc_X1_hasValve : .code yX1_hasValve cX1_hasValve 2 (some .boolean) ∈ bigw := (gb3 142 rfl (by decide +kernel))
theorem mi_X1_hasValve : .initialized (yX1_hasValve : MethodName).cls ∈ bigw := (gb1 4 (by decide +kernel) (by decide +kernel))
theorem ms_X1_hasValve : .instanceMethod yX1_hasValve ∈ bigw ∧ .selects (yX1_hasValve : MethodName).cls yX1_hasValve yX1_hasValve ∈ bigw := ⟨(gb3 140 (by decide +kernel) (by decide +kernel)), (gb3 141 (by decide +kernel) (by decide +kernel))⟩
theorem lkX3_88 : LKV RX3 88 yX1_hasValve cX1_hasValve 2 (some .boolean) 1 := ⟨⟨(gb3 139 (by decide +kernel) (by decide +kernel)), mc_X1_hasValve, mi_X1_hasValve, by decide, by decide +kernel⟩, ms_X1_hasValve.1, ms_X1_hasValve.2⟩
set_option maxRecDepth 100000 in
theorem mc_X3_turnValve : .code yX3_turnValve cX3_turnValve 3 (some .boolean) ∈ bigw := (gb3 145 rfl (by decide +kernel))
theorem mi_X3_turnValve : .initialized (yX3_turnValve : MethodName).cls ∈ bigw := (gb1 6 (by decide +kernel) (by decide +kernel))
theorem ms_X3_turnValve : .static yX3_turnValve ∈ bigw := (gb3 144 (by decide +kernel) (by decide +kernel))
theorem lkX3_94 : LKS RX3 94 yX3_turnValve cX3_turnValve 3 (some .boolean) 3 := ⟨⟨(gb3 143 (by decide +kernel) (by decide +kernel)), mc_X3_turnValve, mi_X3_turnValve, by decide, by decide +kernel⟩, ms_X3_turnValve⟩
set_option maxRecDepth 100000 in
theorem mc_X5_openingBar : .code yX5_openingBar cX5_openingBar 2 (some .int) ∈ bigw := (gb3 149 rfl (by decide +kernel))
theorem mi_X5_openingBar : .initialized (yX5_openingBar : MethodName).cls ∈ bigw := (gb1 9 (by decide +kernel) (by decide +kernel))
theorem ms_X5_openingBar : .instanceMethod yX5_openingBar ∈ bigw ∧ .selects (yX5_openingBar : MethodName).cls yX5_openingBar yX5_openingBar ∈ bigw := ⟨(gb3 147 (by decide +kernel) (by decide +kernel)), (gb3 148 (by decide +kernel) (by decide +kernel))⟩
theorem lkX3_137 : LKV RX3 137 yX5_openingBar cX5_openingBar 2 (some .int) 1 := ⟨⟨(gb3 146 (by decide +kernel) (by decide +kernel)), mc_X5_openingBar, mi_X5_openingBar, by decide, by decide +kernel⟩, ms_X5_openingBar.1, ms_X5_openingBar.2⟩
set_option maxRecDepth 100000 in
theorem mc_X5_isOpen : .code yX5_isOpen cX5_isOpen 2 (some .boolean) ∈ bigw := (gb3 153 rfl (by decide +kernel))
theorem mi_X5_isOpen : .initialized (yX5_isOpen : MethodName).cls ∈ bigw := (gb1 9 (by decide +kernel) (by decide +kernel))
theorem ms_X5_isOpen : .instanceMethod yX5_isOpen ∈ bigw ∧ .selects (yX5_isOpen : MethodName).cls yX5_isOpen yX5_isOpen ∈ bigw := ⟨(gb3 151 (by decide +kernel) (by decide +kernel)), (gb3 152 (by decide +kernel) (by decide +kernel))⟩
theorem lkX5_123 : LKV RX5 123 yX5_isOpen cX5_isOpen 2 (some .boolean) 1 := ⟨⟨(gb3 150 (by decide +kernel) (by decide +kernel)), mc_X5_isOpen, mi_X5_isOpen, by decide, by decide +kernel⟩, ms_X5_isOpen.1, ms_X5_isOpen.2⟩
set_option maxRecDepth 100000 in
theorem mc_X5_difference : .code yX5_difference cX5_difference 2 (some .int) ∈ bigw := (gb3 157 rfl (by decide +kernel))
theorem mi_X5_difference : .initialized (yX5_difference : MethodName).cls ∈ bigw := (gb1 9 (by decide +kernel) (by decide +kernel))
theorem ms_X5_difference : .instanceMethod yX5_difference ∈ bigw ∧ .selects (yX5_difference : MethodName).cls yX5_difference yX5_difference ∈ bigw := ⟨(gb3 155 (by decide +kernel) (by decide +kernel)), (gb3 156 (by decide +kernel) (by decide +kernel))⟩
theorem lkX5_127 : LKV RX5 127 yX5_difference cX5_difference 2 (some .int) 1 := ⟨⟨(gb3 154 (by decide +kernel) (by decide +kernel)), mc_X5_difference, mi_X5_difference, by decide, by decide +kernel⟩, ms_X5_difference.1, ms_X5_difference.2⟩
set_option maxRecDepth 100000 in
theorem mc_Math_abs : .code Lib.Math.abs.name Lib.Math.abs.code 1 (some .int) ∈ bigw := (gb3 160 rfl (by decide +kernel))
theorem mi_Math_abs : .initialized (Lib.Math.abs.name : MethodName).cls ∈ bigw := (gb1 17 (by decide +kernel) (by decide +kernel))
theorem ms_Math_abs : .static Lib.Math.abs.name ∈ bigw := (gb3 159 (by decide +kernel) (by decide +kernel))
theorem lkX5_117 : LKS RX5 117 Lib.Math.abs.name Lib.Math.abs.code 1 (some .int) 1 := ⟨⟨(gb3 158 (by decide +kernel) (by decide +kernel)), mc_Math_abs, mi_Math_abs, by decide, by decide +kernel⟩, ms_Math_abs⟩
theorem lkX3_140 : LKV RX3 140 yX5_isOpen cX5_isOpen 2 (some .boolean) 1 := ⟨⟨(gb3 161 (by decide +kernel) (by decide +kernel)), mc_X5_isOpen, mi_X5_isOpen, by decide, by decide +kernel⟩, ms_X5_isOpen.1, ms_X5_isOpen.2⟩
set_option maxRecDepth 100000 in
theorem mc_X5_openValve : .code yX5_openValve cX5_openValve 2 none ∈ bigw := (gb3 165 rfl (by decide +kernel))
theorem mi_X5_openValve : .initialized (yX5_openValve : MethodName).cls ∈ bigw := (gb1 9 (by decide +kernel) (by decide +kernel))
theorem ms_X5_openValve : .instanceMethod yX5_openValve ∈ bigw ∧ .selects (yX5_openValve : MethodName).cls yX5_openValve yX5_openValve ∈ bigw := ⟨(gb3 163 (by decide +kernel) (by decide +kernel)), (gb3 164 (by decide +kernel) (by decide +kernel))⟩
theorem lkX3_143 : LKV RX3 143 yX5_openValve cX5_openValve 2 none 1 := ⟨⟨(gb3 162 (by decide +kernel) (by decide +kernel)), mc_X5_openValve, mi_X5_openValve, by decide, by decide +kernel⟩, ms_X5_openValve.1, ms_X5_openValve.2⟩
set_option maxRecDepth 100000 in
theorem mc_X5_closeValve : .code yX5_closeValve cX5_closeValve 2 none ∈ bigw := (gb3 169 rfl (by decide +kernel))
theorem mi_X5_closeValve : .initialized (yX5_closeValve : MethodName).cls ∈ bigw := (gb1 9 (by decide +kernel) (by decide +kernel))
theorem ms_X5_closeValve : .instanceMethod yX5_closeValve ∈ bigw ∧ .selects (yX5_closeValve : MethodName).cls yX5_closeValve yX5_closeValve ∈ bigw := ⟨(gb3 167 (by decide +kernel) (by decide +kernel)), (gb3 168 (by decide +kernel) (by decide +kernel))⟩
theorem lkX3_147 : LKV RX3 147 yX5_closeValve cX5_closeValve 2 none 1 := ⟨⟨(gb3 166 (by decide +kernel) (by decide +kernel)), mc_X5_closeValve, mi_X5_closeValve, by decide, by decide +kernel⟩, ms_X5_closeValve.1, ms_X5_closeValve.2⟩
set_option maxRecDepth 100000 in
theorem mc_X1_hasPump : .code yX1_hasPump cX1_hasPump 2 (some .boolean) ∈ bigw := (gb3 173 rfl (by decide +kernel))
theorem mi_X1_hasPump : .initialized (yX1_hasPump : MethodName).cls ∈ bigw := (gb1 4 (by decide +kernel) (by decide +kernel))
theorem ms_X1_hasPump : .instanceMethod yX1_hasPump ∈ bigw ∧ .selects (yX1_hasPump : MethodName).cls yX1_hasPump yX1_hasPump ∈ bigw := ⟨(gb3 171 (by decide +kernel) (by decide +kernel)), (gb3 172 (by decide +kernel) (by decide +kernel))⟩
theorem lkX3_98 : LKV RX3 98 yX1_hasPump cX1_hasPump 2 (some .boolean) 1 := ⟨⟨(gb3 170 (by decide +kernel) (by decide +kernel)), mc_X1_hasPump, mi_X1_hasPump, by decide, by decide +kernel⟩, ms_X1_hasPump.1, ms_X1_hasPump.2⟩
set_option maxRecDepth 100000 in
theorem mc_X3_switchPump : .code yX3_switchPump cX3_switchPump 3 (some .boolean) ∈ bigw := (gb3 176 rfl (by decide +kernel))
theorem mi_X3_switchPump : .initialized (yX3_switchPump : MethodName).cls ∈ bigw := (gb1 6 (by decide +kernel) (by decide +kernel))
theorem ms_X3_switchPump : .static yX3_switchPump ∈ bigw := (gb3 175 (by decide +kernel) (by decide +kernel))
theorem lkX3_101 : LKS RX3 101 yX3_switchPump cX3_switchPump 3 (some .boolean) 3 := ⟨⟨(gb3 174 (by decide +kernel) (by decide +kernel)), mc_X3_switchPump, mi_X3_switchPump, by decide, by decide +kernel⟩, ms_X3_switchPump⟩
set_option maxRecDepth 100000 in
theorem mc_X5_startingBar : .code yX5_startingBar cX5_startingBar 2 (some .int) ∈ bigw := (gb3 180 rfl (by decide +kernel))
theorem mi_X5_startingBar : .initialized (yX5_startingBar : MethodName).cls ∈ bigw := (gb1 9 (by decide +kernel) (by decide +kernel))
theorem ms_X5_startingBar : .instanceMethod yX5_startingBar ∈ bigw ∧ .selects (yX5_startingBar : MethodName).cls yX5_startingBar yX5_startingBar ∈ bigw := ⟨(gb3 178 (by decide +kernel) (by decide +kernel)), (gb3 179 (by decide +kernel) (by decide +kernel))⟩
theorem lkX3_150 : LKV RX3 150 yX5_startingBar cX5_startingBar 2 (some .int) 1 := ⟨⟨(gb3 177 (by decide +kernel) (by decide +kernel)), mc_X5_startingBar, mi_X5_startingBar, by decide, by decide +kernel⟩, ms_X5_startingBar.1, ms_X5_startingBar.2⟩
set_option maxRecDepth 100000 in
theorem mc_X5_isRunning : .code yX5_isRunning cX5_isRunning 2 (some .boolean) ∈ bigw := (gb3 184 rfl (by decide +kernel))
theorem mi_X5_isRunning : .initialized (yX5_isRunning : MethodName).cls ∈ bigw := (gb1 9 (by decide +kernel) (by decide +kernel))
theorem ms_X5_isRunning : .instanceMethod yX5_isRunning ∈ bigw ∧ .selects (yX5_isRunning : MethodName).cls yX5_isRunning yX5_isRunning ∈ bigw := ⟨(gb3 182 (by decide +kernel) (by decide +kernel)), (gb3 183 (by decide +kernel) (by decide +kernel))⟩
theorem lkX5_130 : LKV RX5 130 yX5_isRunning cX5_isRunning 2 (some .boolean) 1 := ⟨⟨(gb3 181 (by decide +kernel) (by decide +kernel)), mc_X5_isRunning, mi_X5_isRunning, by decide, by decide +kernel⟩, ms_X5_isRunning.1, ms_X5_isRunning.2⟩
set_option maxRecDepth 100000 in
theorem mc_X5_conditionBar : .code yX5_conditionBar cX5_conditionBar 3 (some .int) ∈ bigw := (gb3 188 rfl (by decide +kernel))
theorem mi_X5_conditionBar : .initialized (yX5_conditionBar : MethodName).cls ∈ bigw := (gb1 9 (by decide +kernel) (by decide +kernel))
theorem ms_X5_conditionBar : .instanceMethod yX5_conditionBar ∈ bigw ∧ .selects (yX5_conditionBar : MethodName).cls yX5_conditionBar yX5_conditionBar ∈ bigw := ⟨(gb3 187 (by decide +kernel) (by decide +kernel)), (gb0 12 (by decide +kernel) (by decide +kernel))⟩
theorem lkX5_133 : LKV RX5 133 yX5_conditionBar cX5_conditionBar 3 (some .int) 1 := ⟨⟨(gb3 185 (by decide +kernel) (by decide +kernel)), mc_X5_conditionBar, mi_X5_conditionBar, by decide, by decide +kernel⟩, ms_X5_conditionBar.1, ms_X5_conditionBar.2⟩
theorem lkX3_153 : LKV RX3 153 yX5_isRunning cX5_isRunning 2 (some .boolean) 1 := ⟨⟨(gb3 189 (by decide +kernel) (by decide +kernel)), mc_X5_isRunning, mi_X5_isRunning, by decide, by decide +kernel⟩, ms_X5_isRunning.1, ms_X5_isRunning.2⟩
set_option maxRecDepth 100000 in
theorem mc_X5_startPump : .code yX5_startPump cX5_startPump 2 none ∈ bigw := (gb3 193 rfl (by decide +kernel))
theorem mi_X5_startPump : .initialized (yX5_startPump : MethodName).cls ∈ bigw := (gb1 9 (by decide +kernel) (by decide +kernel))
theorem ms_X5_startPump : .instanceMethod yX5_startPump ∈ bigw ∧ .selects (yX5_startPump : MethodName).cls yX5_startPump yX5_startPump ∈ bigw := ⟨(gb3 191 (by decide +kernel) (by decide +kernel)), (gb3 192 (by decide +kernel) (by decide +kernel))⟩
theorem lkX3_156 : LKV RX3 156 yX5_startPump cX5_startPump 2 none 1 := ⟨⟨(gb3 190 (by decide +kernel) (by decide +kernel)), mc_X5_startPump, mi_X5_startPump, by decide, by decide +kernel⟩, ms_X5_startPump.1, ms_X5_startPump.2⟩
set_option maxRecDepth 100000 in
theorem mc_X5_stopPump : .code yX5_stopPump cX5_stopPump 2 none ∈ bigw := (gb3 197 rfl (by decide +kernel))
theorem mi_X5_stopPump : .initialized (yX5_stopPump : MethodName).cls ∈ bigw := (gb1 9 (by decide +kernel) (by decide +kernel))
theorem ms_X5_stopPump : .instanceMethod yX5_stopPump ∈ bigw ∧ .selects (yX5_stopPump : MethodName).cls yX5_stopPump yX5_stopPump ∈ bigw := ⟨(gb3 195 (by decide +kernel) (by decide +kernel)), (gb3 196 (by decide +kernel) (by decide +kernel))⟩
theorem lkX3_159 : LKV RX3 159 yX5_stopPump cX5_stopPump 2 none 1 := ⟨⟨(gb3 194 (by decide +kernel) (by decide +kernel)), mc_X5_stopPump, mi_X5_stopPump, by decide, by decide +kernel⟩, ms_X5_stopPump.1, ms_X5_stopPump.2⟩
set_option maxRecDepth 100000 in
theorem mc_X5_passTicks : .code yX5_passTicks cX5_passTicks 4 (some .int) ∈ bigw := (gb3 204 rfl (by decide +kernel))
theorem mi_X5_passTicks : .initialized (yX5_passTicks : MethodName).cls ∈ bigw := (gb1 9 (by decide +kernel) (by decide +kernel))
theorem ms_X5_passTicks : .instanceMethod yX5_passTicks ∈ bigw ∧ .selects (yX5_passTicks : MethodName).cls yX5_passTicks yX5_passTicks ∈ bigw := ⟨(gb3 202 (by decide +kernel) (by decide +kernel)), (gb3 203 (by decide +kernel) (by decide +kernel))⟩
theorem lkX3_107 : LKV RX3 107 yX5_passTicks cX5_passTicks 4 (some .int) 1 := ⟨⟨(gb3 201 (by decide +kernel) (by decide +kernel)), mc_X5_passTicks, mi_X5_passTicks, by decide, by decide +kernel⟩, ms_X5_passTicks.1, ms_X5_passTicks.2⟩
set_option maxRecDepth 100000 in
theorem mc_X5_tick : .code yX5_tick cX5_tick 2 (some .int) ∈ bigw := (gb3 208 rfl (by decide +kernel))
theorem mi_X5_tick : .initialized (yX5_tick : MethodName).cls ∈ bigw := (gb1 9 (by decide +kernel) (by decide +kernel))
theorem ms_X5_tick : .instanceMethod yX5_tick ∈ bigw ∧ .selects (yX5_tick : MethodName).cls yX5_tick yX5_tick ∈ bigw := ⟨(gb3 206 (by decide +kernel) (by decide +kernel)), (gb3 207 (by decide +kernel) (by decide +kernel))⟩
theorem lkX5_155 : LKV RX5 155 yX5_tick cX5_tick 2 (some .int) 0 := ⟨⟨(gb3 205 (by decide +kernel) (by decide +kernel)), mc_X5_tick, mi_X5_tick, by decide, by decide +kernel⟩, ms_X5_tick.1, ms_X5_tick.2⟩
set_option maxRecDepth 100000 in
theorem mc_X5_tripValves : .code yX5_tripValves cX5_tripValves 3 (some .int) ∈ bigw := (gb3 212 rfl (by decide +kernel))
theorem mi_X5_tripValves : .initialized (yX5_tripValves : MethodName).cls ∈ bigw := (gb1 9 (by decide +kernel) (by decide +kernel))
theorem ms_X5_tripValves : .instanceMethod yX5_tripValves ∈ bigw ∧ .selects (yX5_tripValves : MethodName).cls yX5_tripValves yX5_tripValves ∈ bigw := ⟨(gb3 211 (by decide +kernel) (by decide +kernel)), (gb0 13 (by decide +kernel) (by decide +kernel))⟩
theorem lkX5_167 : LKV RX5 167 yX5_tripValves cX5_tripValves 3 (some .int) 0 := ⟨⟨(gb3 209 (by decide +kernel) (by decide +kernel)), mc_X5_tripValves, mi_X5_tripValves, by decide, by decide +kernel⟩, ms_X5_tripValves.1, ms_X5_tripValves.2⟩
theorem lkX5_179 : LKV RX5 179 yX5_closeValve cX5_closeValve 2 none 1 := ⟨⟨(gb3 213 (by decide +kernel) (by decide +kernel)), mc_X5_closeValve, mi_X5_closeValve, by decide, by decide +kernel⟩, ms_X5_closeValve.1, ms_X5_closeValve.2⟩
set_option maxRecDepth 100000 in
theorem mc_X5_letGasIn : .code yX5_letGasIn cX5_letGasIn 4 none ∈ bigw := (gb3 217 rfl (by decide +kernel))
theorem mi_X5_letGasIn : .initialized (yX5_letGasIn : MethodName).cls ∈ bigw := (gb1 9 (by decide +kernel) (by decide +kernel))
theorem ms_X5_letGasIn : .instanceMethod yX5_letGasIn ∈ bigw ∧ .selects (yX5_letGasIn : MethodName).cls yX5_letGasIn yX5_letGasIn ∈ bigw := ⟨(gb3 216 (by decide +kernel) (by decide +kernel)), (gb0 14 (by decide +kernel) (by decide +kernel))⟩
theorem lkX5_170 : LKV RX5 170 yX5_letGasIn cX5_letGasIn 4 none 0 := ⟨⟨(gb3 214 (by decide +kernel) (by decide +kernel)), mc_X5_letGasIn, mi_X5_letGasIn, by decide, by decide +kernel⟩, ms_X5_letGasIn.1, ms_X5_letGasIn.2⟩
set_option maxRecDepth 100000 in
theorem mc_X5_moveThroughValves : .code yX5_moveThroughValves cX5_moveThroughValves 6 none ∈ bigw := (gb3 222 rfl (by decide +kernel))
theorem mi_X5_moveThroughValves : .initialized (yX5_moveThroughValves : MethodName).cls ∈ bigw := (gb1 9 (by decide +kernel) (by decide +kernel))
theorem ms_X5_moveThroughValves : .instanceMethod yX5_moveThroughValves ∈ bigw ∧ .selects (yX5_moveThroughValves : MethodName).cls yX5_moveThroughValves yX5_moveThroughValves ∈ bigw := ⟨(gb3 221 (by decide +kernel) (by decide +kernel)), (gb0 15 (by decide +kernel) (by decide +kernel))⟩
theorem lkX5_173 : LKV RX5 173 yX5_moveThroughValves cX5_moveThroughValves 6 none 0 := ⟨⟨(gb3 219 (by decide +kernel) (by decide +kernel)), mc_X5_moveThroughValves, mi_X5_moveThroughValves, by decide, by decide +kernel⟩, ms_X5_moveThroughValves.1, ms_X5_moveThroughValves.2⟩
set_option maxRecDepth 100000 in
theorem mc_X5_flow : .code yX5_flow cX5_flow 13 (some .long) ∈ bigw := (gb3 226 rfl (by decide +kernel))
theorem mi_X5_flow : .initialized (yX5_flow : MethodName).cls ∈ bigw := (gb1 9 (by decide +kernel) (by decide +kernel))
theorem ms_X5_flow : .instanceMethod yX5_flow ∈ bigw ∧ .selects (yX5_flow : MethodName).cls yX5_flow yX5_flow ∈ bigw := ⟨(gb3 225 (by decide +kernel) (by decide +kernel)), (gb0 16 (by decide +kernel) (by decide +kernel))⟩
theorem lkX5_187 : LKV RX5 187 yX5_flow cX5_flow 13 (some .long) 2 := ⟨⟨(gb3 223 (by decide +kernel) (by decide +kernel)), mc_X5_flow, mi_X5_flow, by decide, by decide +kernel⟩, ms_X5_flow.1, ms_X5_flow.2⟩
set_option maxRecDepth 100000 in
theorem mc_Math_min_l : .code Lib.MathLoose.min_long.x Lib.MathLoose.min_long.code 4 (some .long) ∈ bigw := (gb3 229 rfl (by decide +kernel))
theorem mi_Math_min_l : .initialized (Lib.MathLoose.min_long.x : MethodName).cls ∈ bigw := (gb1 17 (by decide +kernel) (by decide +kernel))
theorem ms_Math_min_l : .static Lib.MathLoose.min_long.x ∈ bigw := (gb3 228 (by decide +kernel) (by decide +kernel))
theorem lkX5_194 : LKS RX5 194 Lib.MathLoose.min_long.x Lib.MathLoose.min_long.code 4 (some .long) 2 := ⟨⟨(gb3 227 (by decide +kernel) (by decide +kernel)), mc_Math_min_l, mi_Math_min_l, by decide, by decide +kernel⟩, ms_Math_min_l⟩
set_option maxRecDepth 100000 in
theorem mc_X5_runPumps : .code yX5_runPumps cX5_runPumps 6 (some .int) ∈ bigw := (gb3 233 rfl (by decide +kernel))
theorem mi_X5_runPumps : .initialized (yX5_runPumps : MethodName).cls ∈ bigw := (gb1 9 (by decide +kernel) (by decide +kernel))
theorem ms_X5_runPumps : .instanceMethod yX5_runPumps ∈ bigw ∧ .selects (yX5_runPumps : MethodName).cls yX5_runPumps yX5_runPumps ∈ bigw := ⟨(gb3 232 (by decide +kernel) (by decide +kernel)), (gb0 17 (by decide +kernel) (by decide +kernel))⟩
theorem lkX5_176 : LKV RX5 176 yX5_runPumps cX5_runPumps 6 (some .int) 0 := ⟨⟨(gb3 230 (by decide +kernel) (by decide +kernel)), mc_X5_runPumps, mi_X5_runPumps, by decide, by decide +kernel⟩, ms_X5_runPumps.1, ms_X5_runPumps.2⟩
theorem lkX5_198 : LKV RX5 198 yX5_stopPump cX5_stopPump 2 none 1 := ⟨⟨(gb3 234 (by decide +kernel) (by decide +kernel)), mc_X5_stopPump, mi_X5_stopPump, by decide, by decide +kernel⟩, ms_X5_stopPump.1, ms_X5_stopPump.2⟩
set_option maxRecDepth 100000 in
theorem mc_X1_hasChamber : .code yX1_hasChamber cX1_hasChamber 2 (some .boolean) ∈ bigw := (gb3 238 rfl (by decide +kernel))
theorem mi_X1_hasChamber : .initialized (yX1_hasChamber : MethodName).cls ∈ bigw := (gb1 4 (by decide +kernel) (by decide +kernel))
theorem ms_X1_hasChamber : .instanceMethod yX1_hasChamber ∈ bigw ∧ .selects (yX1_hasChamber : MethodName).cls yX1_hasChamber yX1_hasChamber ∈ bigw := ⟨(gb3 236 (by decide +kernel) (by decide +kernel)), (gb3 237 (by decide +kernel) (by decide +kernel))⟩
theorem lkX3_113 : LKV RX3 113 yX1_hasChamber cX1_hasChamber 2 (some .boolean) 1 := ⟨⟨(gb3 235 (by decide +kernel) (by decide +kernel)), mc_X1_hasChamber, mi_X1_hasChamber, by decide, by decide +kernel⟩, ms_X1_hasChamber.1, ms_X1_hasChamber.2⟩
set_option maxRecDepth 100000 in
theorem mc_X5_passUntilAtMost : .code yX5_passUntilAtMost cX5_passUntilAtMost 4 (some .int) ∈ bigw := (gb4 6 rfl (by decide +kernel))
theorem mi_X5_passUntilAtMost : .initialized (yX5_passUntilAtMost : MethodName).cls ∈ bigw := (gb1 9 (by decide +kernel) (by decide +kernel))
theorem ms_X5_passUntilAtMost : .instanceMethod yX5_passUntilAtMost ∈ bigw ∧ .selects (yX5_passUntilAtMost : MethodName).cls yX5_passUntilAtMost yX5_passUntilAtMost ∈ bigw := ⟨(gb4 4 (by decide +kernel) (by decide +kernel)), (gb4 5 (by decide +kernel) (by decide +kernel))⟩
theorem lkX3_119 : LKV RX3 119 yX5_passUntilAtMost cX5_passUntilAtMost 4 (some .int) 2 := ⟨⟨(gb4 3 (by decide +kernel) (by decide +kernel)), mc_X5_passUntilAtMost, mi_X5_passUntilAtMost, by decide, by decide +kernel⟩, ms_X5_passUntilAtMost.1, ms_X5_passUntilAtMost.2⟩
set_option maxRecDepth 100000 in
theorem mc_X1_hasFlange : .code yX1_hasFlange cX1_hasFlange 2 (some .boolean) ∈ bigw := (gb4 10 rfl (by decide +kernel))
theorem mi_X1_hasFlange : .initialized (yX1_hasFlange : MethodName).cls ∈ bigw := (gb1 4 (by decide +kernel) (by decide +kernel))
theorem ms_X1_hasFlange : .instanceMethod yX1_hasFlange ∈ bigw ∧ .selects (yX1_hasFlange : MethodName).cls yX1_hasFlange yX1_hasFlange ∈ bigw := ⟨(gb4 8 (by decide +kernel) (by decide +kernel)), (gb4 9 (by decide +kernel) (by decide +kernel))⟩
theorem lkX3_122 : LKV RX3 122 yX1_hasFlange cX1_hasFlange 2 (some .boolean) 1 := ⟨⟨(gb4 7 (by decide +kernel) (by decide +kernel)), mc_X1_hasFlange, mi_X1_hasFlange, by decide, by decide +kernel⟩, ms_X1_hasFlange.1, ms_X1_hasFlange.2⟩
theorem lkX3_125 : LKV RX3 125 yX5_putLeak cX5_putLeak 3 none 2 := ⟨⟨(gb4 11 (by decide +kernel) (by decide +kernel)), mc_X5_putLeak, mi_X5_putLeak, by decide, by decide +kernel⟩, ms_X5_putLeak.1, ms_X5_putLeak.2⟩
set_option maxRecDepth 100000 in
theorem mc_X9_isTicks : .code yX9_isTicks cX9_isTicks 1 (some .boolean) ∈ bigw := (gb3 200 rfl (by decide +kernel))
theorem mi_X9_isTicks : .initialized (yX9_isTicks : MethodName).cls ∈ bigw := (gb1 1 (by decide +kernel) (by decide +kernel))
theorem ms_X9_isTicks : .static yX9_isTicks ∈ bigw := (gb3 199 (by decide +kernel) (by decide +kernel))
theorem lkX9_179 : LKS RX9 179 yX9_isTicks cX9_isTicks 1 (some .boolean) 1 := ⟨⟨(gb4 15 (by decide +kernel) (by decide +kernel)), mc_X9_isTicks, mi_X9_isTicks, by decide, by decide +kernel⟩, ms_X9_isTicks⟩
set_option maxRecDepth 100000 in
theorem mc_X5_isShutOff : .code yX5_isShutOff cX5_isShutOff 4 (some .boolean) ∈ bigw := (gb4 19 rfl (by decide +kernel))
theorem mi_X5_isShutOff : .initialized (yX5_isShutOff : MethodName).cls ∈ bigw := (gb1 9 (by decide +kernel) (by decide +kernel))
theorem ms_X5_isShutOff : .instanceMethod yX5_isShutOff ∈ bigw ∧ .selects (yX5_isShutOff : MethodName).cls yX5_isShutOff yX5_isShutOff ∈ bigw := ⟨(gb4 17 (by decide +kernel) (by decide +kernel)), (gb4 18 (by decide +kernel) (by decide +kernel))⟩
theorem lkX3_131 : LKV RX3 131 yX5_isShutOff cX5_isShutOff 4 (some .boolean) 1 := ⟨⟨(gb4 16 (by decide +kernel) (by decide +kernel)), mc_X5_isShutOff, mi_X5_isShutOff, by decide, by decide +kernel⟩, ms_X5_isShutOff.1, ms_X5_isShutOff.2⟩
set_option maxRecDepth 100000 in
theorem mc_X1_valvesOf : .code yX1_valvesOf cX1_valvesOf 4 (some .int) ∈ bigw := (gb4 23 rfl (by decide +kernel))
theorem mi_X1_valvesOf : .initialized (yX1_valvesOf : MethodName).cls ∈ bigw := (gb1 4 (by decide +kernel) (by decide +kernel))
theorem ms_X1_valvesOf : .instanceMethod yX1_valvesOf ∈ bigw ∧ .selects (yX1_valvesOf : MethodName).cls yX1_valvesOf yX1_valvesOf ∈ bigw := ⟨(gb4 21 (by decide +kernel) (by decide +kernel)), (gb4 22 (by decide +kernel) (by decide +kernel))⟩
theorem lkX5_148 : LKV RX5 148 yX1_valvesOf cX1_valvesOf 4 (some .int) 1 := ⟨⟨(gb4 20 (by decide +kernel) (by decide +kernel)), mc_X1_valvesOf, mi_X1_valvesOf, by decide, by decide +kernel⟩, ms_X1_valvesOf.1, ms_X1_valvesOf.2⟩
set_option maxRecDepth 100000 in
theorem mc_X5_makeTest : .code yX5_makeTest cX5_makeTest 13 (some .int) ∈ bigw := (gb4 27 rfl (by decide +kernel))
theorem mi_X5_makeTest : .initialized (yX5_makeTest : MethodName).cls ∈ bigw := (gb1 9 (by decide +kernel) (by decide +kernel))
theorem ms_X5_makeTest : .instanceMethod yX5_makeTest ∈ bigw ∧ .selects (yX5_makeTest : MethodName).cls yX5_makeTest yX5_makeTest ∈ bigw := ⟨(gb4 25 (by decide +kernel) (by decide +kernel)), (gb4 26 (by decide +kernel) (by decide +kernel))⟩
theorem lkX3_134 : LKV RX3 134 yX5_makeTest cX5_makeTest 13 (some .int) 2 := ⟨⟨(gb4 24 (by decide +kernel) (by decide +kernel)), mc_X5_makeTest, mi_X5_makeTest, by decide, by decide +kernel⟩, ms_X5_makeTest.1, ms_X5_makeTest.2⟩
set_option maxRecDepth 100000 in
theorem mc_X7_add : .code yX7_add cX7_add 9 none ∈ bigw := (gb4 33 rfl (by decide +kernel))
theorem mi_X7_add : .initialized (yX7_add : MethodName).cls ∈ bigw := (gb1 10 (by decide +kernel) (by decide +kernel))
theorem ms_X7_add : .instanceMethod yX7_add ∈ bigw ∧ .selects (yX7_add : MethodName).cls yX7_add yX7_add ∈ bigw := ⟨(gb4 31 (by decide +kernel) (by decide +kernel)), (gb4 32 (by decide +kernel) (by decide +kernel))⟩
theorem lkX5_163 : LKV RX5 163 yX7_add cX7_add 9 none 6 := ⟨⟨(gb4 30 (by decide +kernel) (by decide +kernel)), mc_X7_add, mi_X7_add, by decide, by decide +kernel⟩, ms_X7_add.1, ms_X7_add.2⟩
theorem lkX7_30 : LKS RX7 30 Lib.Math.min.name Lib.Math.min.code 2 (some .int) 2 := ⟨⟨(gb4 34 (by decide +kernel) (by decide +kernel)), mc_Math_min, mi_Math_min, by decide, by decide +kernel⟩, ms_Math_min⟩
set_option maxRecDepth 100000 in
theorem mc_X9_keepTrial : .code yX9_keepTrial cX9_keepTrial 2 none ∈ bigw := (gb4 38 rfl (by decide +kernel))
theorem mi_X9_keepTrial : .initialized (yX9_keepTrial : MethodName).cls ∈ bigw := (gb1 1 (by decide +kernel) (by decide +kernel))
theorem ms_X9_keepTrial : .instanceMethod yX9_keepTrial ∈ bigw ∧ .selects (yX9_keepTrial : MethodName).cls yX9_keepTrial yX9_keepTrial ∈ bigw := ⟨(gb4 37 (by decide +kernel) (by decide +kernel)), (gb0 18 (by decide +kernel) (by decide +kernel))⟩
theorem lkX9_145 : LKV RX9 145 yX9_keepTrial cX9_keepTrial 2 none 0 := ⟨⟨(gb4 35 (by decide +kernel) (by decide +kernel)), mc_X9_keepTrial, mi_X9_keepTrial, by decide, by decide +kernel⟩, ms_X9_keepTrial.1, ms_X9_keepTrial.2⟩
theorem lkX9_317 : LKS RX9 317 Lib.Math.min.name Lib.Math.min.code 2 (some .int) 2 := ⟨⟨(gb4 39 (by decide +kernel) (by decide +kernel)), mc_Math_min, mi_Math_min, by decide, by decide +kernel⟩, ms_Math_min⟩
set_option maxRecDepth 100000 in
theorem mc_X9_openable : .code yX9_openable cX9_openable 3 (some .int) ∈ bigw := (gb4 43 rfl (by decide +kernel))
theorem mi_X9_openable : .initialized (yX9_openable : MethodName).cls ∈ bigw := (gb1 1 (by decide +kernel) (by decide +kernel))
theorem ms_X9_openable : .instanceMethod yX9_openable ∈ bigw ∧ .selects (yX9_openable : MethodName).cls yX9_openable yX9_openable ∈ bigw := ⟨(gb4 41 (by decide +kernel) (by decide +kernel)), (gb4 42 (by decide +kernel) (by decide +kernel))⟩
theorem lkL_270 : LKV RL 270 yX9_openable cX9_openable 3 (some .int) 0 := ⟨⟨(gb4 40 (by decide +kernel) (by decide +kernel)), mc_X9_openable, mi_X9_openable, by decide, by decide +kernel⟩, ms_X9_openable.1, ms_X9_openable.2⟩
theorem lkX9_135 : LKV RX9 135 yX5_openingBar cX5_openingBar 2 (some .int) 1 := ⟨⟨(gb4 44 (by decide +kernel) (by decide +kernel)), mc_X5_openingBar, mi_X5_openingBar, by decide, by decide +kernel⟩, ms_X5_openingBar.1, ms_X5_openingBar.2⟩
set_option maxRecDepth 100000 in
theorem mc_X9_writeReport : .code yX9_writeReport cX9_writeReport 2 (some .int) ∈ bigw := (gb4 48 rfl (by decide +kernel))
theorem mi_X9_writeReport : .initialized (yX9_writeReport : MethodName).cls ∈ bigw := (gb1 1 (by decide +kernel) (by decide +kernel))
theorem ms_X9_writeReport : .instanceMethod yX9_writeReport ∈ bigw ∧ .selects (yX9_writeReport : MethodName).cls yX9_writeReport yX9_writeReport ∈ bigw := ⟨(gb4 46 (by decide +kernel) (by decide +kernel)), (gb4 47 (by decide +kernel) (by decide +kernel))⟩
theorem lkL_312 : LKV RL 312 yX9_writeReport cX9_writeReport 2 (some .int) 0 := ⟨⟨(gb4 45 (by decide +kernel) (by decide +kernel)), mc_X9_writeReport, mi_X9_writeReport, by decide, by decide +kernel⟩, ms_X9_writeReport.1, ms_X9_writeReport.2⟩
set_option maxRecDepth 100000 in
theorem mc_X4_addText : .code yX4_addText cX4_addText 3 none ∈ bigw := (gb4 53 rfl (by decide +kernel))
theorem mi_X4_addText : .initialized (yX4_addText : MethodName).cls ∈ bigw := (gb1 8 (by decide +kernel) (by decide +kernel))
theorem ms_X4_addText : .instanceMethod yX4_addText ∈ bigw ∧ .selects (yX4_addText : MethodName).cls yX4_addText yX4_addText ∈ bigw := ⟨(gb4 51 (by decide +kernel) (by decide +kernel)), (gb4 52 (by decide +kernel) (by decide +kernel))⟩
theorem lkX9_353 : LKV RX9 353 yX4_addText cX4_addText 3 none 1 := ⟨⟨(gb4 50 (by decide +kernel) (by decide +kernel)), mc_X4_addText, mi_X4_addText, by decide, by decide +kernel⟩, ms_X4_addText.1, ms_X4_addText.2⟩
theorem lkX4_17 : LKV RX4 17 ⟨"java/lang/String", "length", "()I"⟩ prog_22_method_54_code 1 (some .int) 0 := ⟨⟨(gb4 54 (by decide +kernel) (by decide +kernel)), mc_String_length, mi_String_length, by decide, by decide +kernel⟩, ms_String_length.1, ms_String_length.2⟩
theorem lkX4_22 : LKV RX4 22 ⟨"java/lang/String", "charAt", "(I)C"⟩ prog_22_method_56_code 2 (some .char) 1 := ⟨⟨(gb4 55 (by decide +kernel) (by decide +kernel)), mc_String_charAt, mi_String_charAt, by decide, by decide +kernel⟩, ms_String_charAt.1, ms_String_charAt.2⟩
set_option maxRecDepth 100000 in
theorem mc_X4_addByte : .code yX4_addByte cX4_addByte 2 none ∈ bigw := (gb4 59 rfl (by decide +kernel))
theorem mi_X4_addByte : .initialized (yX4_addByte : MethodName).cls ∈ bigw := (gb1 8 (by decide +kernel) (by decide +kernel))
theorem ms_X4_addByte : .instanceMethod yX4_addByte ∈ bigw ∧ .selects (yX4_addByte : MethodName).cls yX4_addByte yX4_addByte ∈ bigw := ⟨(gb4 58 (by decide +kernel) (by decide +kernel)), (gb0 19 (by decide +kernel) (by decide +kernel))⟩
theorem lkX4_26 : LKV RX4 26 yX4_addByte cX4_addByte 2 none 1 := ⟨⟨(gb4 56 (by decide +kernel) (by decide +kernel)), mc_X4_addByte, mi_X4_addByte, by decide, by decide +kernel⟩, ms_X4_addByte.1, ms_X4_addByte.2⟩
set_option maxRecDepth 100000 in
theorem mc_X4_addNumber : .code yX4_addNumber cX4_addNumber 3 none ∈ bigw := (gb4 63 rfl (by decide +kernel))
theorem mi_X4_addNumber : .initialized (yX4_addNumber : MethodName).cls ∈ bigw := (gb1 8 (by decide +kernel) (by decide +kernel))
theorem ms_X4_addNumber : .instanceMethod yX4_addNumber ∈ bigw ∧ .selects (yX4_addNumber : MethodName).cls yX4_addNumber yX4_addNumber ∈ bigw := ⟨(gb4 61 (by decide +kernel) (by decide +kernel)), (gb4 62 (by decide +kernel) (by decide +kernel))⟩
theorem lkX9_357 : LKV RX9 357 yX4_addNumber cX4_addNumber 3 none 1 := ⟨⟨(gb4 60 (by decide +kernel) (by decide +kernel)), mc_X4_addNumber, mi_X4_addNumber, by decide, by decide +kernel⟩, ms_X4_addNumber.1, ms_X4_addNumber.2⟩
theorem lkX9_260 : LKV RX9 260 yX1_valvesOf cX1_valvesOf 4 (some .int) 1 := ⟨⟨(gb4 67 (by decide +kernel) (by decide +kernel)), mc_X1_valvesOf, mi_X1_valvesOf, by decide, by decide +kernel⟩, ms_X1_valvesOf.1, ms_X1_valvesOf.2⟩
set_option maxRecDepth 100000 in
theorem mc_X4_addSet : .code yX4_addSet cX4_addSet 5 none ∈ bigw := (gb4 71 rfl (by decide +kernel))
theorem mi_X4_addSet : .initialized (yX4_addSet : MethodName).cls ∈ bigw := (gb1 8 (by decide +kernel) (by decide +kernel))
theorem ms_X4_addSet : .instanceMethod yX4_addSet ∈ bigw ∧ .selects (yX4_addSet : MethodName).cls yX4_addSet yX4_addSet ∈ bigw := ⟨(gb4 69 (by decide +kernel) (by decide +kernel)), (gb4 70 (by decide +kernel) (by decide +kernel))⟩
theorem lkX9_367 : LKV RX9 367 yX4_addSet cX4_addSet 5 none 3 := ⟨⟨(gb4 68 (by decide +kernel) (by decide +kernel)), mc_X4_addSet, mi_X4_addSet, by decide, by decide +kernel⟩, ms_X4_addSet.1, ms_X4_addSet.2⟩
theorem lkX4_37 : LKV RX4 37 yX4_addText cX4_addText 3 none 1 := ⟨⟨(gb4 75 (by decide +kernel) (by decide +kernel)), mc_X4_addText, mi_X4_addText, by decide, by decide +kernel⟩, ms_X4_addText.1, ms_X4_addText.2⟩
theorem lkX4_41 : LKV RX4 41 yX4_addNumber cX4_addNumber 3 none 1 := ⟨⟨(gb4 76 (by decide +kernel) (by decide +kernel)), mc_X4_addNumber, mi_X4_addNumber, by decide, by decide +kernel⟩, ms_X4_addNumber.1, ms_X4_addNumber.2⟩
set_option maxRecDepth 100000 in
theorem mc_X1_pumpsOf : .code yX1_pumpsOf cX1_pumpsOf 4 (some .int) ∈ bigw := (gb4 81 rfl (by decide +kernel))
theorem mi_X1_pumpsOf : .initialized (yX1_pumpsOf : MethodName).cls ∈ bigw := (gb1 4 (by decide +kernel) (by decide +kernel))
theorem ms_X1_pumpsOf : .instanceMethod yX1_pumpsOf ∈ bigw ∧ .selects (yX1_pumpsOf : MethodName).cls yX1_pumpsOf yX1_pumpsOf ∈ bigw := ⟨(gb4 79 (by decide +kernel) (by decide +kernel)), (gb4 80 (by decide +kernel) (by decide +kernel))⟩
theorem lkX9_263 : LKV RX9 263 yX1_pumpsOf cX1_pumpsOf 4 (some .int) 1 := ⟨⟨(gb4 78 (by decide +kernel) (by decide +kernel)), mc_X1_pumpsOf, mi_X1_pumpsOf, by decide, by decide +kernel⟩, ms_X1_pumpsOf.1, ms_X1_pumpsOf.2⟩
set_option maxRecDepth 100000 in
theorem mc_X9_undoDepth : .code yX9_undoDepth cX9_undoDepth 1 (some .int) ∈ bigw := (gb4 86 rfl (by decide +kernel))
theorem mi_X9_undoDepth : .initialized (yX9_undoDepth : MethodName).cls ∈ bigw := (gb1 1 (by decide +kernel) (by decide +kernel))
theorem ms_X9_undoDepth : .instanceMethod yX9_undoDepth ∈ bigw ∧ .selects (yX9_undoDepth : MethodName).cls yX9_undoDepth yX9_undoDepth ∈ bigw := ⟨(gb4 84 (by decide +kernel) (by decide +kernel)), (gb4 85 (by decide +kernel) (by decide +kernel))⟩
theorem lkL_322 : LKV RL 322 yX9_undoDepth cX9_undoDepth 1 (some .int) 0 := ⟨⟨(gb4 83 (by decide +kernel) (by decide +kernel)), mc_X9_undoDepth, mi_X9_undoDepth, by decide, by decide +kernel⟩, ms_X9_undoDepth.1, ms_X9_undoDepth.2⟩
set_option maxRecDepth 100000 in
theorem mc_X9_appendText : .code yX9_appendText cX9_appendText 6 (some .int) ∈ bigw := (gb4 94 rfl (by decide +kernel))
theorem mi_X9_appendText : .initialized (yX9_appendText : MethodName).cls ∈ bigw := (gb1 1 (by decide +kernel) (by decide +kernel))
theorem ms_X9_appendText : .instanceMethod yX9_appendText ∈ bigw ∧ .selects (yX9_appendText : MethodName).cls yX9_appendText yX9_appendText ∈ bigw := ⟨(gb4 92 (by decide +kernel) (by decide +kernel)), (gb4 93 (by decide +kernel) (by decide +kernel))⟩
theorem lkL_7 : LKV RL 7 yX9_appendText cX9_appendText 6 (some .int) 5 := ⟨⟨(gb4 91 (by decide +kernel) (by decide +kernel)), mc_X9_appendText, mi_X9_appendText, by decide, by decide +kernel⟩, ms_X9_appendText.1, ms_X9_appendText.2⟩
set_option maxRecDepth 100000 in
theorem mc_X8_addWord : .code yX8_addWord cX8_addWord 3 none ∈ bigw := (gb4 162 rfl (by decide +kernel))
theorem mi_X8_addWord : .initialized (yX8_addWord : MethodName).cls ∈ bigw := (gb1 2 (by decide +kernel) (by decide +kernel))
theorem ms_X8_addWord : .instanceMethod yX8_addWord ∈ bigw ∧ .selects (yX8_addWord : MethodName).cls yX8_addWord yX8_addWord ∈ bigw := ⟨(gb4 160 (by decide +kernel) (by decide +kernel)), (gb4 161 (by decide +kernel) (by decide +kernel))⟩
theorem lkX9_99 : LKV RX9 99 yX8_addWord cX8_addWord 3 none 1 := ⟨⟨(gb4 159 (by decide +kernel) (by decide +kernel)), mc_X8_addWord, mi_X8_addWord, by decide, by decide +kernel⟩, ms_X8_addWord.1, ms_X8_addWord.2⟩
set_option maxRecDepth 100000 in
theorem mc_X9_truncateText : .code yX9_truncateText cX9_truncateText 2 (some .int) ∈ bigw := (gb4 170 rfl (by decide +kernel))
theorem mi_X9_truncateText : .initialized (yX9_truncateText : MethodName).cls ∈ bigw := (gb1 1 (by decide +kernel) (by decide +kernel))
theorem ms_X9_truncateText : .instanceMethod yX9_truncateText ∈ bigw ∧ .selects (yX9_truncateText : MethodName).cls yX9_truncateText yX9_truncateText ∈ bigw := ⟨(gb4 168 (by decide +kernel) (by decide +kernel)), (gb4 169 (by decide +kernel) (by decide +kernel))⟩
theorem lkL_15 : LKV RL 15 yX9_truncateText cX9_truncateText 2 (some .int) 1 := ⟨⟨(gb4 167 (by decide +kernel) (by decide +kernel)), mc_X9_truncateText, mi_X9_truncateText, by decide, by decide +kernel⟩, ms_X9_truncateText.1, ms_X9_truncateText.2⟩
set_option maxRecDepth 100000 in
theorem mc_X9_open : .code yX9_open cX9_open 2 (some .int) ∈ bigw := (gb4 193 rfl (by decide +kernel))
theorem mi_X9_open : .initialized (yX9_open : MethodName).cls ∈ bigw := (gb1 1 (by decide +kernel) (by decide +kernel))
theorem ms_X9_open : .instanceMethod yX9_open ∈ bigw ∧ .selects (yX9_open : MethodName).cls yX9_open yX9_open ∈ bigw := ⟨(gb4 191 (by decide +kernel) (by decide +kernel)), (gb4 192 (by decide +kernel) (by decide +kernel))⟩
theorem lkL_21 : LKV RL 21 yX9_open cX9_open 2 (some .int) 1 := ⟨⟨(gb4 190 (by decide +kernel) (by decide +kernel)), mc_X9_open, mi_X9_open, by decide, by decide +kernel⟩, ms_X9_open.1, ms_X9_open.2⟩
theorem lkX9_128 : LKV RX9 128 yX1_hasValve cX1_hasValve 2 (some .boolean) 1 := ⟨⟨(gb4 194 (by decide +kernel) (by decide +kernel)), mc_X1_hasValve, mi_X1_hasValve, by decide, by decide +kernel⟩, ms_X1_hasValve.1, ms_X1_hasValve.2⟩
theorem lkX9_142 : LKV RX9 142 yX5_openValve cX5_openValve 2 none 1 := ⟨⟨(gb4 210 (by decide +kernel) (by decide +kernel)), mc_X5_openValve, mi_X5_openValve, by decide, by decide +kernel⟩, ms_X5_openValve.1, ms_X5_openValve.2⟩
theorem lkX9_148 : LKV RX9 148 yX5_difference cX5_difference 2 (some .int) 1 := ⟨⟨(gb4 211 (by decide +kernel) (by decide +kernel)), mc_X5_difference, mi_X5_difference, by decide, by decide +kernel⟩, ms_X5_difference.1, ms_X5_difference.2⟩
set_option maxRecDepth 100000 in
theorem mc_X9_close : .code yX9_close cX9_close 2 (some .int) ∈ bigw := (gb4 218 rfl (by decide +kernel))
theorem mi_X9_close : .initialized (yX9_close : MethodName).cls ∈ bigw := (gb1 1 (by decide +kernel) (by decide +kernel))
theorem ms_X9_close : .instanceMethod yX9_close ∈ bigw ∧ .selects (yX9_close : MethodName).cls yX9_close yX9_close ∈ bigw := ⟨(gb4 216 (by decide +kernel) (by decide +kernel)), (gb4 217 (by decide +kernel) (by decide +kernel))⟩
theorem lkL_26 : LKV RL 26 yX9_close cX9_close 2 (some .int) 1 := ⟨⟨(gb4 215 (by decide +kernel) (by decide +kernel)), mc_X9_close, mi_X9_close, by decide, by decide +kernel⟩, ms_X9_close.1, ms_X9_close.2⟩
theorem lkX9_151 : LKV RX9 151 yX5_isOpen cX5_isOpen 2 (some .boolean) 1 := ⟨⟨(gb4 219 (by decide +kernel) (by decide +kernel)), mc_X5_isOpen, mi_X5_isOpen, by decide, by decide +kernel⟩, ms_X5_isOpen.1, ms_X5_isOpen.2⟩
theorem lkX9_154 : LKV RX9 154 yX5_closeValve cX5_closeValve 2 none 1 := ⟨⟨(gb4 220 (by decide +kernel) (by decide +kernel)), mc_X5_closeValve, mi_X5_closeValve, by decide, by decide +kernel⟩, ms_X5_closeValve.1, ms_X5_closeValve.2⟩
set_option maxRecDepth 100000 in
theorem mc_X9_start : .code yX9_start cX9_start 2 (some .int) ∈ bigw := (gb4 227 rfl (by decide +kernel))
theorem mi_X9_start : .initialized (yX9_start : MethodName).cls ∈ bigw := (gb1 1 (by decide +kernel) (by decide +kernel))
theorem ms_X9_start : .instanceMethod yX9_start ∈ bigw ∧ .selects (yX9_start : MethodName).cls yX9_start yX9_start ∈ bigw := ⟨(gb4 225 (by decide +kernel) (by decide +kernel)), (gb4 226 (by decide +kernel) (by decide +kernel))⟩
theorem lkL_29 : LKV RL 29 yX9_start cX9_start 2 (some .int) 1 := ⟨⟨(gb4 224 (by decide +kernel) (by decide +kernel)), mc_X9_start, mi_X9_start, by decide, by decide +kernel⟩, ms_X9_start.1, ms_X9_start.2⟩
theorem lkX9_157 : LKV RX9 157 yX1_hasPump cX1_hasPump 2 (some .boolean) 1 := ⟨⟨(gb4 228 (by decide +kernel) (by decide +kernel)), mc_X1_hasPump, mi_X1_hasPump, by decide, by decide +kernel⟩, ms_X1_hasPump.1, ms_X1_hasPump.2⟩
theorem lkX9_160 : LKV RX9 160 yX5_startingBar cX5_startingBar 2 (some .int) 1 := ⟨⟨(gb4 229 (by decide +kernel) (by decide +kernel)), mc_X5_startingBar, mi_X5_startingBar, by decide, by decide +kernel⟩, ms_X5_startingBar.1, ms_X5_startingBar.2⟩
theorem lkX9_163 : LKV RX9 163 yX5_startPump cX5_startPump 2 none 1 := ⟨⟨(gb4 230 (by decide +kernel) (by decide +kernel)), mc_X5_startPump, mi_X5_startPump, by decide, by decide +kernel⟩, ms_X5_startPump.1, ms_X5_startPump.2⟩
set_option maxRecDepth 100000 in
theorem mc_X9_stop : .code yX9_stop cX9_stop 2 (some .int) ∈ bigw := (gb4 237 rfl (by decide +kernel))
theorem mi_X9_stop : .initialized (yX9_stop : MethodName).cls ∈ bigw := (gb1 1 (by decide +kernel) (by decide +kernel))
theorem ms_X9_stop : .instanceMethod yX9_stop ∈ bigw ∧ .selects (yX9_stop : MethodName).cls yX9_stop yX9_stop ∈ bigw := ⟨(gb4 235 (by decide +kernel) (by decide +kernel)), (gb4 236 (by decide +kernel) (by decide +kernel))⟩
theorem lkL_32 : LKV RL 32 yX9_stop cX9_stop 2 (some .int) 1 := ⟨⟨(gb4 234 (by decide +kernel) (by decide +kernel)), mc_X9_stop, mi_X9_stop, by decide, by decide +kernel⟩, ms_X9_stop.1, ms_X9_stop.2⟩
theorem lkX9_173 : LKV RX9 173 yX5_isRunning cX5_isRunning 2 (some .boolean) 1 := ⟨⟨(gb4 238 (by decide +kernel) (by decide +kernel)), mc_X5_isRunning, mi_X5_isRunning, by decide, by decide +kernel⟩, ms_X5_isRunning.1, ms_X5_isRunning.2⟩
theorem lkX9_176 : LKV RX9 176 yX5_stopPump cX5_stopPump 2 none 1 := ⟨⟨(gb4 239 (by decide +kernel) (by decide +kernel)), mc_X5_stopPump, mi_X5_stopPump, by decide, by decide +kernel⟩, ms_X5_stopPump.1, ms_X5_stopPump.2⟩
set_option maxRecDepth 100000 in
theorem mc_X9_pass : .code yX9_pass cX9_pass 3 (some .int) ∈ bigw := (gb5 6 rfl (by decide +kernel))
theorem mi_X9_pass : .initialized (yX9_pass : MethodName).cls ∈ bigw := (gb1 1 (by decide +kernel) (by decide +kernel))
theorem ms_X9_pass : .instanceMethod yX9_pass ∈ bigw ∧ .selects (yX9_pass : MethodName).cls yX9_pass yX9_pass ∈ bigw := ⟨(gb5 4 (by decide +kernel) (by decide +kernel)), (gb5 5 (by decide +kernel) (by decide +kernel))⟩
theorem lkL_35 : LKV RL 35 yX9_pass cX9_pass 3 (some .int) 1 := ⟨⟨(gb5 3 (by decide +kernel) (by decide +kernel)), mc_X9_pass, mi_X9_pass, by decide, by decide +kernel⟩, ms_X9_pass.1, ms_X9_pass.2⟩
theorem lkX9_182 : LKV RX9 182 yX5_passTicks cX5_passTicks 4 (some .int) 1 := ⟨⟨(gb5 7 (by decide +kernel) (by decide +kernel)), mc_X5_passTicks, mi_X5_passTicks, by decide, by decide +kernel⟩, ms_X5_passTicks.1, ms_X5_passTicks.2⟩
set_option maxRecDepth 100000 in
theorem mc_X9_passUntil : .code yX9_passUntil cX9_passUntil 4 (some .int) ∈ bigw := (gb5 14 rfl (by decide +kernel))
theorem mi_X9_passUntil : .initialized (yX9_passUntil : MethodName).cls ∈ bigw := (gb1 1 (by decide +kernel) (by decide +kernel))
theorem ms_X9_passUntil : .instanceMethod yX9_passUntil ∈ bigw ∧ .selects (yX9_passUntil : MethodName).cls yX9_passUntil yX9_passUntil ∈ bigw := ⟨(gb5 12 (by decide +kernel) (by decide +kernel)), (gb5 13 (by decide +kernel) (by decide +kernel))⟩
theorem lkL_38 : LKV RL 38 yX9_passUntil cX9_passUntil 4 (some .int) 2 := ⟨⟨(gb5 11 (by decide +kernel) (by decide +kernel)), mc_X9_passUntil, mi_X9_passUntil, by decide, by decide +kernel⟩, ms_X9_passUntil.1, ms_X9_passUntil.2⟩
theorem lkX9_185 : LKV RX9 185 yX1_hasChamber cX1_hasChamber 2 (some .boolean) 1 := ⟨⟨(gb5 15 (by decide +kernel) (by decide +kernel)), mc_X1_hasChamber, mi_X1_hasChamber, by decide, by decide +kernel⟩, ms_X1_hasChamber.1, ms_X1_hasChamber.2⟩
set_option maxRecDepth 100000 in
theorem mc_X9_isPressure : .code yX9_isPressure cX9_isPressure 1 (some .boolean) ∈ bigw := (gb4 1 rfl (by decide +kernel))
theorem mi_X9_isPressure : .initialized (yX9_isPressure : MethodName).cls ∈ bigw := (gb1 1 (by decide +kernel) (by decide +kernel))
theorem ms_X9_isPressure : .static yX9_isPressure ∈ bigw := (gb4 0 (by decide +kernel) (by decide +kernel))
theorem lkX9_188 : LKS RX9 188 yX9_isPressure cX9_isPressure 1 (some .boolean) 1 := ⟨⟨(gb5 16 (by decide +kernel) (by decide +kernel)), mc_X9_isPressure, mi_X9_isPressure, by decide, by decide +kernel⟩, ms_X9_isPressure⟩
theorem lkX9_191 : LKV RX9 191 yX5_passUntilAtMost cX5_passUntilAtMost 4 (some .int) 2 := ⟨⟨(gb5 17 (by decide +kernel) (by decide +kernel)), mc_X5_passUntilAtMost, mi_X5_passUntilAtMost, by decide, by decide +kernel⟩, ms_X5_passUntilAtMost.1, ms_X5_passUntilAtMost.2⟩
set_option maxRecDepth 100000 in
theorem mc_X9_seal : .code yX9_seal cX9_seal 2 (some .int) ∈ bigw := (gb5 24 rfl (by decide +kernel))
theorem mi_X9_seal : .initialized (yX9_seal : MethodName).cls ∈ bigw := (gb1 1 (by decide +kernel) (by decide +kernel))
theorem ms_X9_seal : .instanceMethod yX9_seal ∈ bigw ∧ .selects (yX9_seal : MethodName).cls yX9_seal yX9_seal ∈ bigw := ⟨(gb5 22 (by decide +kernel) (by decide +kernel)), (gb5 23 (by decide +kernel) (by decide +kernel))⟩
theorem lkL_42 : LKV RL 42 yX9_seal cX9_seal 2 (some .int) 1 := ⟨⟨(gb5 21 (by decide +kernel) (by decide +kernel)), mc_X9_seal, mi_X9_seal, by decide, by decide +kernel⟩, ms_X9_seal.1, ms_X9_seal.2⟩
theorem lkX9_195 : LKV RX9 195 yX1_hasFlange cX1_hasFlange 2 (some .boolean) 1 := ⟨⟨(gb5 25 (by decide +kernel) (by decide +kernel)), mc_X1_hasFlange, mi_X1_hasFlange, by decide, by decide +kernel⟩, ms_X1_hasFlange.1, ms_X1_hasFlange.2⟩
set_option maxRecDepth 100000 in
theorem mc_X9_changeLeak : .code yX9_changeLeak cX9_changeLeak 4 (some .int) ∈ bigw := (gb5 29 rfl (by decide +kernel))
theorem mi_X9_changeLeak : .initialized (yX9_changeLeak : MethodName).cls ∈ bigw := (gb1 1 (by decide +kernel) (by decide +kernel))
theorem ms_X9_changeLeak : .instanceMethod yX9_changeLeak ∈ bigw ∧ .selects (yX9_changeLeak : MethodName).cls yX9_changeLeak yX9_changeLeak ∈ bigw := ⟨(gb5 28 (by decide +kernel) (by decide +kernel)), (gb0 21 (by decide +kernel) (by decide +kernel))⟩
theorem lkX9_198 : LKV RX9 198 yX9_changeLeak cX9_changeLeak 4 (some .int) 2 := ⟨⟨(gb5 26 (by decide +kernel) (by decide +kernel)), mc_X9_changeLeak, mi_X9_changeLeak, by decide, by decide +kernel⟩, ms_X9_changeLeak.1, ms_X9_changeLeak.2⟩
theorem lkX9_385 : LKV RX9 385 yX5_putLeak cX5_putLeak 3 none 2 := ⟨⟨(gb5 30 (by decide +kernel) (by decide +kernel)), mc_X5_putLeak, mi_X5_putLeak, by decide, by decide +kernel⟩, ms_X5_putLeak.1, ms_X5_putLeak.2⟩
set_option maxRecDepth 100000 in
theorem mc_X9_setLeak : .code yX9_setLeak cX9_setLeak 3 (some .int) ∈ bigw := (gb5 37 rfl (by decide +kernel))
theorem mi_X9_setLeak : .initialized (yX9_setLeak : MethodName).cls ∈ bigw := (gb1 1 (by decide +kernel) (by decide +kernel))
theorem ms_X9_setLeak : .instanceMethod yX9_setLeak ∈ bigw ∧ .selects (yX9_setLeak : MethodName).cls yX9_setLeak yX9_setLeak ∈ bigw := ⟨(gb5 35 (by decide +kernel) (by decide +kernel)), (gb5 36 (by decide +kernel) (by decide +kernel))⟩
theorem lkL_45 : LKV RL 45 yX9_setLeak cX9_setLeak 3 (some .int) 2 := ⟨⟨(gb5 34 (by decide +kernel) (by decide +kernel)), mc_X9_setLeak, mi_X9_setLeak, by decide, by decide +kernel⟩, ms_X9_setLeak.1, ms_X9_setLeak.2⟩
set_option maxRecDepth 100000 in
theorem mc_X9_setOutgassing : .code yX9_setOutgassing cX9_setOutgassing 4 (some .int) ∈ bigw := (gb5 44 rfl (by decide +kernel))
theorem mi_X9_setOutgassing : .initialized (yX9_setOutgassing : MethodName).cls ∈ bigw := (gb1 1 (by decide +kernel) (by decide +kernel))
theorem ms_X9_setOutgassing : .instanceMethod yX9_setOutgassing ∈ bigw ∧ .selects (yX9_setOutgassing : MethodName).cls yX9_setOutgassing yX9_setOutgassing ∈ bigw := ⟨(gb5 42 (by decide +kernel) (by decide +kernel)), (gb5 43 (by decide +kernel) (by decide +kernel))⟩
theorem lkL_48 : LKV RL 48 yX9_setOutgassing cX9_setOutgassing 4 (some .int) 2 := ⟨⟨(gb5 41 (by decide +kernel) (by decide +kernel)), mc_X9_setOutgassing, mi_X9_setOutgassing, by decide, by decide +kernel⟩, ms_X9_setOutgassing.1, ms_X9_setOutgassing.2⟩
set_option maxRecDepth 100000 in
theorem mc_X9_setRule : .code yX9_setRule cX9_setRule 4 (some .int) ∈ bigw := (gb5 51 rfl (by decide +kernel))
theorem mi_X9_setRule : .initialized (yX9_setRule : MethodName).cls ∈ bigw := (gb1 1 (by decide +kernel) (by decide +kernel))
theorem ms_X9_setRule : .instanceMethod yX9_setRule ∈ bigw ∧ .selects (yX9_setRule : MethodName).cls yX9_setRule yX9_setRule ∈ bigw := ⟨(gb5 49 (by decide +kernel) (by decide +kernel)), (gb5 50 (by decide +kernel) (by decide +kernel))⟩
theorem lkL_51 : LKV RL 51 yX9_setRule cX9_setRule 4 (some .int) 2 := ⟨⟨(gb5 48 (by decide +kernel) (by decide +kernel)), mc_X9_setRule, mi_X9_setRule, by decide, by decide +kernel⟩, ms_X9_setRule.1, ms_X9_setRule.2⟩
set_option maxRecDepth 100000 in
theorem mc_X9_test : .code yX9_test cX9_test 4 (some .int) ∈ bigw := (gb5 58 rfl (by decide +kernel))
theorem mi_X9_test : .initialized (yX9_test : MethodName).cls ∈ bigw := (gb1 1 (by decide +kernel) (by decide +kernel))
theorem ms_X9_test : .instanceMethod yX9_test ∈ bigw ∧ .selects (yX9_test : MethodName).cls yX9_test yX9_test ∈ bigw := ⟨(gb5 56 (by decide +kernel) (by decide +kernel)), (gb5 57 (by decide +kernel) (by decide +kernel))⟩
theorem lkL_54 : LKV RL 54 yX9_test cX9_test 4 (some .int) 2 := ⟨⟨(gb5 55 (by decide +kernel) (by decide +kernel)), mc_X9_test, mi_X9_test, by decide, by decide +kernel⟩, ms_X9_test.1, ms_X9_test.2⟩
set_option maxRecDepth 100000 in
theorem mc_X9_isTestTicks : .code yX9_isTestTicks cX9_isTestTicks 1 (some .boolean) ∈ bigw := (gb4 14 rfl (by decide +kernel))
theorem mi_X9_isTestTicks : .initialized (yX9_isTestTicks : MethodName).cls ∈ bigw := (gb1 1 (by decide +kernel) (by decide +kernel))
theorem ms_X9_isTestTicks : .static yX9_isTestTicks ∈ bigw := (gb4 13 (by decide +kernel) (by decide +kernel))
theorem lkX9_207 : LKS RX9 207 yX9_isTestTicks cX9_isTestTicks 1 (some .boolean) 1 := ⟨⟨(gb5 59 (by decide +kernel) (by decide +kernel)), mc_X9_isTestTicks, mi_X9_isTestTicks, by decide, by decide +kernel⟩, ms_X9_isTestTicks⟩
theorem lkX9_210 : LKV RX9 210 yX5_isShutOff cX5_isShutOff 4 (some .boolean) 1 := ⟨⟨(gb5 60 (by decide +kernel) (by decide +kernel)), mc_X5_isShutOff, mi_X5_isShutOff, by decide, by decide +kernel⟩, ms_X5_isShutOff.1, ms_X5_isShutOff.2⟩
theorem lkX9_213 : LKV RX9 213 yX5_makeTest cX5_makeTest 13 (some .int) 2 := ⟨⟨(gb5 61 (by decide +kernel) (by decide +kernel)), mc_X5_makeTest, mi_X5_makeTest, by decide, by decide +kernel⟩, ms_X5_makeTest.1, ms_X5_makeTest.2⟩
set_option maxRecDepth 100000 in
theorem mc_X9_count : .code yX9_count cX9_count 2 (some .int) ∈ bigw := (gb5 68 rfl (by decide +kernel))
theorem mi_X9_count : .initialized (yX9_count : MethodName).cls ∈ bigw := (gb1 1 (by decide +kernel) (by decide +kernel))
theorem ms_X9_count : .instanceMethod yX9_count ∈ bigw ∧ .selects (yX9_count : MethodName).cls yX9_count yX9_count ∈ bigw := ⟨(gb5 66 (by decide +kernel) (by decide +kernel)), (gb5 67 (by decide +kernel) (by decide +kernel))⟩
theorem lkL_57 : LKV RL 57 yX9_count cX9_count 2 (some .int) 1 := ⟨⟨(gb5 65 (by decide +kernel) (by decide +kernel)), mc_X9_count, mi_X9_count, by decide, by decide +kernel⟩, ms_X9_count.1, ms_X9_count.2⟩
set_option maxRecDepth 100000 in
theorem mc_X9_sum : .code yX9_sum cX9_sum 4 (some .int) ∈ bigw := (gb5 71 rfl (by decide +kernel))
theorem mi_X9_sum : .initialized (yX9_sum : MethodName).cls ∈ bigw := (gb1 1 (by decide +kernel) (by decide +kernel))
theorem ms_X9_sum : .static yX9_sum ∈ bigw := (gb5 70 (by decide +kernel) (by decide +kernel))
theorem lkX9_235 : LKS RX9 235 yX9_sum cX9_sum 4 (some .int) 2 := ⟨⟨(gb5 69 (by decide +kernel) (by decide +kernel)), mc_X9_sum, mi_X9_sum, by decide, by decide +kernel⟩, ms_X9_sum⟩
set_option maxRecDepth 100000 in
theorem mc_X9_chamber : .code yX9_chamber cX9_chamber 3 (some .int) ∈ bigw := (gb5 78 rfl (by decide +kernel))
theorem mi_X9_chamber : .initialized (yX9_chamber : MethodName).cls ∈ bigw := (gb1 1 (by decide +kernel) (by decide +kernel))
theorem ms_X9_chamber : .instanceMethod yX9_chamber ∈ bigw ∧ .selects (yX9_chamber : MethodName).cls yX9_chamber yX9_chamber ∈ bigw := ⟨(gb5 76 (by decide +kernel) (by decide +kernel)), (gb5 77 (by decide +kernel) (by decide +kernel))⟩
theorem lkL_60 : LKV RL 60 yX9_chamber cX9_chamber 3 (some .int) 2 := ⟨⟨(gb5 75 (by decide +kernel) (by decide +kernel)), mc_X9_chamber, mi_X9_chamber, by decide, by decide +kernel⟩, ms_X9_chamber.1, ms_X9_chamber.2⟩
set_option maxRecDepth 100000 in
theorem mc_X9_gas : .code yX9_gas cX9_gas 2 (some .long) ∈ bigw := (gb5 85 rfl (by decide +kernel))
theorem mi_X9_gas : .initialized (yX9_gas : MethodName).cls ∈ bigw := (gb1 1 (by decide +kernel) (by decide +kernel))
theorem ms_X9_gas : .instanceMethod yX9_gas ∈ bigw ∧ .selects (yX9_gas : MethodName).cls yX9_gas yX9_gas ∈ bigw := ⟨(gb5 83 (by decide +kernel) (by decide +kernel)), (gb5 84 (by decide +kernel) (by decide +kernel))⟩
theorem lkL_63 : LKV RL 63 yX9_gas cX9_gas 2 (some .long) 1 := ⟨⟨(gb5 82 (by decide +kernel) (by decide +kernel)), mc_X9_gas, mi_X9_gas, by decide, by decide +kernel⟩, ms_X9_gas.1, ms_X9_gas.2⟩
set_option maxRecDepth 100000 in
theorem mc_X9_pump : .code yX9_pump cX9_pump 3 (some .int) ∈ bigw := (gb5 92 rfl (by decide +kernel))
theorem mi_X9_pump : .initialized (yX9_pump : MethodName).cls ∈ bigw := (gb1 1 (by decide +kernel) (by decide +kernel))
theorem ms_X9_pump : .instanceMethod yX9_pump ∈ bigw ∧ .selects (yX9_pump : MethodName).cls yX9_pump yX9_pump ∈ bigw := ⟨(gb5 90 (by decide +kernel) (by decide +kernel)), (gb5 91 (by decide +kernel) (by decide +kernel))⟩
theorem lkL_67 : LKV RL 67 yX9_pump cX9_pump 3 (some .int) 2 := ⟨⟨(gb5 89 (by decide +kernel) (by decide +kernel)), mc_X9_pump, mi_X9_pump, by decide, by decide +kernel⟩, ms_X9_pump.1, ms_X9_pump.2⟩
set_option maxRecDepth 100000 in
theorem mc_X9_told : .code yX9_told cX9_told 1 (some .int) ∈ bigw := (gb5 95 rfl (by decide +kernel))
theorem mi_X9_told : .initialized (yX9_told : MethodName).cls ∈ bigw := (gb1 1 (by decide +kernel) (by decide +kernel))
theorem ms_X9_told : .static yX9_told ∈ bigw := (gb5 94 (by decide +kernel) (by decide +kernel))
theorem lkX9_273 : LKS RX9 273 yX9_told cX9_told 1 (some .int) 1 := ⟨⟨(gb5 93 (by decide +kernel) (by decide +kernel)), mc_X9_told, mi_X9_told, by decide, by decide +kernel⟩, ms_X9_told⟩
set_option maxRecDepth 100000 in
theorem mc_X9_valve : .code yX9_valve cX9_valve 3 (some .int) ∈ bigw := (gb5 102 rfl (by decide +kernel))
theorem mi_X9_valve : .initialized (yX9_valve : MethodName).cls ∈ bigw := (gb1 1 (by decide +kernel) (by decide +kernel))
theorem ms_X9_valve : .instanceMethod yX9_valve ∈ bigw ∧ .selects (yX9_valve : MethodName).cls yX9_valve yX9_valve ∈ bigw := ⟨(gb5 100 (by decide +kernel) (by decide +kernel)), (gb5 101 (by decide +kernel) (by decide +kernel))⟩
theorem lkL_70 : LKV RL 70 yX9_valve cX9_valve 3 (some .int) 2 := ⟨⟨(gb5 99 (by decide +kernel) (by decide +kernel)), mc_X9_valve, mi_X9_valve, by decide, by decide +kernel⟩, ms_X9_valve.1, ms_X9_valve.2⟩
set_option maxRecDepth 100000 in
theorem mc_X9_flange : .code yX9_flange cX9_flange 3 (some .int) ∈ bigw := (gb5 109 rfl (by decide +kernel))
theorem mi_X9_flange : .initialized (yX9_flange : MethodName).cls ∈ bigw := (gb1 1 (by decide +kernel) (by decide +kernel))
theorem ms_X9_flange : .instanceMethod yX9_flange ∈ bigw ∧ .selects (yX9_flange : MethodName).cls yX9_flange yX9_flange ∈ bigw := ⟨(gb5 107 (by decide +kernel) (by decide +kernel)), (gb5 108 (by decide +kernel) (by decide +kernel))⟩
theorem lkL_73 : LKV RL 73 yX9_flange cX9_flange 3 (some .int) 2 := ⟨⟨(gb5 106 (by decide +kernel) (by decide +kernel)), mc_X9_flange, mi_X9_flange, by decide, by decide +kernel⟩, ms_X9_flange.1, ms_X9_flange.2⟩
set_option maxRecDepth 100000 in
theorem mc_X9_rise : .code yX9_rise cX9_rise 3 (some .int) ∈ bigw := (gb5 116 rfl (by decide +kernel))
theorem mi_X9_rise : .initialized (yX9_rise : MethodName).cls ∈ bigw := (gb1 1 (by decide +kernel) (by decide +kernel))
theorem ms_X9_rise : .instanceMethod yX9_rise ∈ bigw ∧ .selects (yX9_rise : MethodName).cls yX9_rise yX9_rise ∈ bigw := ⟨(gb5 114 (by decide +kernel) (by decide +kernel)), (gb5 115 (by decide +kernel) (by decide +kernel))⟩
theorem lkL_76 : LKV RL 76 yX9_rise cX9_rise 3 (some .int) 2 := ⟨⟨(gb5 113 (by decide +kernel) (by decide +kernel)), mc_X9_rise, mi_X9_rise, by decide, by decide +kernel⟩, ms_X9_rise.1, ms_X9_rise.2⟩
set_option maxRecDepth 100000 in
theorem mc_X7_fact : .code yX7_fact cX7_fact 3 (some .int) ∈ bigw := (gb5 120 rfl (by decide +kernel))
theorem mi_X7_fact : .initialized (yX7_fact : MethodName).cls ∈ bigw := (gb1 10 (by decide +kernel) (by decide +kernel))
theorem ms_X7_fact : .instanceMethod yX7_fact ∈ bigw ∧ .selects (yX7_fact : MethodName).cls yX7_fact yX7_fact ∈ bigw := ⟨(gb5 118 (by decide +kernel) (by decide +kernel)), (gb5 119 (by decide +kernel) (by decide +kernel))⟩
theorem lkX9_303 : LKV RX9 303 yX7_fact cX7_fact 3 (some .int) 2 := ⟨⟨(gb5 117 (by decide +kernel) (by decide +kernel)), mc_X7_fact, mi_X7_fact, by decide, by decide +kernel⟩, ms_X7_fact.1, ms_X7_fact.2⟩
set_option maxRecDepth 100000 in
theorem mc_X7_slot : .code yX7_slot cX7_slot 2 (some .int) ∈ bigw := (gb5 124 rfl (by decide +kernel))
theorem mi_X7_slot : .initialized (yX7_slot : MethodName).cls ∈ bigw := (gb1 10 (by decide +kernel) (by decide +kernel))
theorem ms_X7_slot : .instanceMethod yX7_slot ∈ bigw ∧ .selects (yX7_slot : MethodName).cls yX7_slot yX7_slot ∈ bigw := ⟨(gb5 123 (by decide +kernel) (by decide +kernel)), (gb0 22 (by decide +kernel) (by decide +kernel))⟩
theorem lkX7_36 : LKV RX7 36 yX7_slot cX7_slot 2 (some .int) 1 := ⟨⟨(gb5 121 (by decide +kernel) (by decide +kernel)), mc_X7_slot, mi_X7_slot, by decide, by decide +kernel⟩, ms_X7_slot.1, ms_X7_slot.2⟩
set_option maxRecDepth 100000 in
theorem mc_X9_riseGas : .code yX9_riseGas cX9_riseGas 3 (some .long) ∈ bigw := (gb5 131 rfl (by decide +kernel))
theorem mi_X9_riseGas : .initialized (yX9_riseGas : MethodName).cls ∈ bigw := (gb1 1 (by decide +kernel) (by decide +kernel))
theorem ms_X9_riseGas : .instanceMethod yX9_riseGas ∈ bigw ∧ .selects (yX9_riseGas : MethodName).cls yX9_riseGas yX9_riseGas ∈ bigw := ⟨(gb5 129 (by decide +kernel) (by decide +kernel)), (gb5 130 (by decide +kernel) (by decide +kernel))⟩
theorem lkL_79 : LKV RL 79 yX9_riseGas cX9_riseGas 3 (some .long) 2 := ⟨⟨(gb5 128 (by decide +kernel) (by decide +kernel)), mc_X9_riseGas, mi_X9_riseGas, by decide, by decide +kernel⟩, ms_X9_riseGas.1, ms_X9_riseGas.2⟩
set_option maxRecDepth 100000 in
theorem mc_X7_riseOf : .code yX7_riseOf cX7_riseOf 3 (some .long) ∈ bigw := (gb5 135 rfl (by decide +kernel))
theorem mi_X7_riseOf : .initialized (yX7_riseOf : MethodName).cls ∈ bigw := (gb1 10 (by decide +kernel) (by decide +kernel))
theorem ms_X7_riseOf : .instanceMethod yX7_riseOf ∈ bigw ∧ .selects (yX7_riseOf : MethodName).cls yX7_riseOf yX7_riseOf ∈ bigw := ⟨(gb5 133 (by decide +kernel) (by decide +kernel)), (gb5 134 (by decide +kernel) (by decide +kernel))⟩
theorem lkX9_306 : LKV RX9 306 yX7_riseOf cX7_riseOf 3 (some .long) 2 := ⟨⟨(gb5 132 (by decide +kernel) (by decide +kernel)), mc_X7_riseOf, mi_X7_riseOf, by decide, by decide +kernel⟩, ms_X7_riseOf.1, ms_X7_riseOf.2⟩
set_option maxRecDepth 100000 in
theorem mc_X9_mayOpen : .code yX9_mayOpen cX9_mayOpen 2 (some .int) ∈ bigw := (gb5 142 rfl (by decide +kernel))
theorem mi_X9_mayOpen : .initialized (yX9_mayOpen : MethodName).cls ∈ bigw := (gb1 1 (by decide +kernel) (by decide +kernel))
theorem ms_X9_mayOpen : .instanceMethod yX9_mayOpen ∈ bigw ∧ .selects (yX9_mayOpen : MethodName).cls yX9_mayOpen yX9_mayOpen ∈ bigw := ⟨(gb5 140 (by decide +kernel) (by decide +kernel)), (gb5 141 (by decide +kernel) (by decide +kernel))⟩
theorem lkL_83 : LKV RL 83 yX9_mayOpen cX9_mayOpen 2 (some .int) 1 := ⟨⟨(gb5 139 (by decide +kernel) (by decide +kernel)), mc_X9_mayOpen, mi_X9_mayOpen, by decide, by decide +kernel⟩, ms_X9_mayOpen.1, ms_X9_mayOpen.2⟩
set_option maxRecDepth 100000 in
theorem mc_X9_mayStart : .code yX9_mayStart cX9_mayStart 2 (some .int) ∈ bigw := (gb5 149 rfl (by decide +kernel))
theorem mi_X9_mayStart : .initialized (yX9_mayStart : MethodName).cls ∈ bigw := (gb1 1 (by decide +kernel) (by decide +kernel))
theorem ms_X9_mayStart : .instanceMethod yX9_mayStart ∈ bigw ∧ .selects (yX9_mayStart : MethodName).cls yX9_mayStart yX9_mayStart ∈ bigw := ⟨(gb5 147 (by decide +kernel) (by decide +kernel)), (gb5 148 (by decide +kernel) (by decide +kernel))⟩
theorem lkL_86 : LKV RL 86 yX9_mayStart cX9_mayStart 2 (some .int) 1 := ⟨⟨(gb5 146 (by decide +kernel) (by decide +kernel)), mc_X9_mayStart, mi_X9_mayStart, by decide, by decide +kernel⟩, ms_X9_mayStart.1, ms_X9_mayStart.2⟩
set_option maxRecDepth 100000 in
theorem mc_X9_joined : .code yX9_joined cX9_joined 2 (some .int) ∈ bigw := (gb5 156 rfl (by decide +kernel))
theorem mi_X9_joined : .initialized (yX9_joined : MethodName).cls ∈ bigw := (gb1 1 (by decide +kernel) (by decide +kernel))
theorem ms_X9_joined : .instanceMethod yX9_joined ∈ bigw ∧ .selects (yX9_joined : MethodName).cls yX9_joined yX9_joined ∈ bigw := ⟨(gb5 154 (by decide +kernel) (by decide +kernel)), (gb5 155 (by decide +kernel) (by decide +kernel))⟩
theorem lkL_89 : LKV RL 89 yX9_joined cX9_joined 2 (some .int) 1 := ⟨⟨(gb5 153 (by decide +kernel) (by decide +kernel)), mc_X9_joined, mi_X9_joined, by decide, by decide +kernel⟩, ms_X9_joined.1, ms_X9_joined.2⟩
set_option maxRecDepth 100000 in
theorem mc_X5_reach : .code yX5_reach cX5_reach 4 (some .int) ∈ bigw := (gb5 160 rfl (by decide +kernel))
theorem mi_X5_reach : .initialized (yX5_reach : MethodName).cls ∈ bigw := (gb1 9 (by decide +kernel) (by decide +kernel))
theorem ms_X5_reach : .instanceMethod yX5_reach ∈ bigw ∧ .selects (yX5_reach : MethodName).cls yX5_reach yX5_reach ∈ bigw := ⟨(gb5 158 (by decide +kernel) (by decide +kernel)), (gb5 159 (by decide +kernel) (by decide +kernel))⟩
theorem lkX9_310 : LKV RX9 310 yX5_reach cX5_reach 4 (some .int) 1 := ⟨⟨(gb5 157 (by decide +kernel) (by decide +kernel)), mc_X5_reach, mi_X5_reach, by decide, by decide +kernel⟩, ms_X5_reach.1, ms_X5_reach.2⟩
set_option maxRecDepth 100000 in
theorem mc_X1_grown : .code yX1_grown cX1_grown 5 (some .int) ∈ bigw := (gb5 164 rfl (by decide +kernel))
theorem mi_X1_grown : .initialized (yX1_grown : MethodName).cls ∈ bigw := (gb1 4 (by decide +kernel) (by decide +kernel))
theorem ms_X1_grown : .instanceMethod yX1_grown ∈ bigw ∧ .selects (yX1_grown : MethodName).cls yX1_grown yX1_grown ∈ bigw := ⟨(gb5 162 (by decide +kernel) (by decide +kernel)), (gb5 163 (by decide +kernel) (by decide +kernel))⟩
theorem lkX5_151 : LKV RX5 151 yX1_grown cX1_grown 5 (some .int) 2 := ⟨⟨(gb5 161 (by decide +kernel) (by decide +kernel)), mc_X1_grown, mi_X1_grown, by decide, by decide +kernel⟩, ms_X1_grown.1, ms_X1_grown.2⟩
set_option maxRecDepth 100000 in
theorem mc_X9_isVented : .code yX9_isVented cX9_isVented 2 (some .boolean) ∈ bigw := (gb5 172 rfl (by decide +kernel))
theorem mi_X9_isVented : .initialized (yX9_isVented : MethodName).cls ∈ bigw := (gb1 1 (by decide +kernel) (by decide +kernel))
theorem ms_X9_isVented : .instanceMethod yX9_isVented ∈ bigw ∧ .selects (yX9_isVented : MethodName).cls yX9_isVented yX9_isVented ∈ bigw := ⟨(gb5 170 (by decide +kernel) (by decide +kernel)), (gb5 171 (by decide +kernel) (by decide +kernel))⟩
theorem lkL_92 : LKV RL 92 yX9_isVented cX9_isVented 2 (some .boolean) 1 := ⟨⟨(gb5 169 (by decide +kernel) (by decide +kernel)), mc_X9_isVented, mi_X9_isVented, by decide, by decide +kernel⟩, ms_X9_isVented.1, ms_X9_isVented.2⟩
set_option maxRecDepth 100000 in
theorem mc_X9_has : .code yX9_has cX9_has 2 (some .boolean) ∈ bigw := (gb4 74 rfl (by decide +kernel))
theorem mi_X9_has : .initialized (yX9_has : MethodName).cls ∈ bigw := (gb1 1 (by decide +kernel) (by decide +kernel))
theorem ms_X9_has : .static yX9_has ∈ bigw := (gb4 73 (by decide +kernel) (by decide +kernel))
theorem lkX9_313 : LKS RX9 313 yX9_has cX9_has 2 (some .boolean) 2 := ⟨⟨(gb5 173 (by decide +kernel) (by decide +kernel)), mc_X9_has, mi_X9_has, by decide, by decide +kernel⟩, ms_X9_has⟩
set_option maxRecDepth 100000 in
theorem mc_X9_spread : .code yX9_spread cX9_spread 6 (some .int) ∈ bigw := (gb5 180 rfl (by decide +kernel))
theorem mi_X9_spread : .initialized (yX9_spread : MethodName).cls ∈ bigw := (gb1 1 (by decide +kernel) (by decide +kernel))
theorem ms_X9_spread : .instanceMethod yX9_spread ∈ bigw ∧ .selects (yX9_spread : MethodName).cls yX9_spread yX9_spread ∈ bigw := ⟨(gb5 178 (by decide +kernel) (by decide +kernel)), (gb5 179 (by decide +kernel) (by decide +kernel))⟩
theorem lkL_96 : LKV RL 96 yX9_spread cX9_spread 6 (some .int) 1 := ⟨⟨(gb5 177 (by decide +kernel) (by decide +kernel)), mc_X9_spread, mi_X9_spread, by decide, by decide +kernel⟩, ms_X9_spread.1, ms_X9_spread.2⟩
set_option maxRecDepth 100000 in
theorem mc_Math_max : .code Lib.Math.max.name Lib.Math.max.code 2 (some .int) ∈ bigw := (gb5 183 rfl (by decide +kernel))
theorem mi_Math_max : .initialized (Lib.Math.max.name : MethodName).cls ∈ bigw := (gb1 17 (by decide +kernel) (by decide +kernel))
theorem ms_Math_max : .static Lib.Math.max.name ∈ bigw := (gb5 182 (by decide +kernel) (by decide +kernel))
theorem lkX9_322 : LKS RX9 322 Lib.Math.max.name Lib.Math.max.code 2 (some .int) 2 := ⟨⟨(gb5 181 (by decide +kernel) (by decide +kernel)), mc_Math_max, mi_Math_max, by decide, by decide +kernel⟩, ms_Math_max⟩
set_option maxRecDepth 100000 in
theorem mc_X9_isIsolated : .code yX9_isIsolated cX9_isIsolated 2 (some .boolean) ∈ bigw := (gb5 190 rfl (by decide +kernel))
theorem mi_X9_isIsolated : .initialized (yX9_isIsolated : MethodName).cls ∈ bigw := (gb1 1 (by decide +kernel) (by decide +kernel))
theorem ms_X9_isIsolated : .instanceMethod yX9_isIsolated ∈ bigw ∧ .selects (yX9_isIsolated : MethodName).cls yX9_isIsolated yX9_isIsolated ∈ bigw := ⟨(gb5 188 (by decide +kernel) (by decide +kernel)), (gb5 189 (by decide +kernel) (by decide +kernel))⟩
theorem lkL_99 : LKV RL 99 yX9_isIsolated cX9_isIsolated 2 (some .boolean) 1 := ⟨⟨(gb5 187 (by decide +kernel) (by decide +kernel)), mc_X9_isIsolated, mi_X9_isIsolated, by decide, by decide +kernel⟩, ms_X9_isIsolated.1, ms_X9_isIsolated.2⟩
set_option maxRecDepth 100000 in
theorem mc_X9_fewestValves : .code yX9_fewestValves cX9_fewestValves 6 (some .int) ∈ bigw := (gb5 197 rfl (by decide +kernel))
theorem mi_X9_fewestValves : .initialized (yX9_fewestValves : MethodName).cls ∈ bigw := (gb1 1 (by decide +kernel) (by decide +kernel))
theorem ms_X9_fewestValves : .instanceMethod yX9_fewestValves ∈ bigw ∧ .selects (yX9_fewestValves : MethodName).cls yX9_fewestValves yX9_fewestValves ∈ bigw := ⟨(gb5 195 (by decide +kernel) (by decide +kernel)), (gb5 196 (by decide +kernel) (by decide +kernel))⟩
theorem lkL_102 : LKV RL 102 yX9_fewestValves cX9_fewestValves 6 (some .int) 2 := ⟨⟨(gb5 194 (by decide +kernel) (by decide +kernel)), mc_X9_fewestValves, mi_X9_fewestValves, by decide, by decide +kernel⟩, ms_X9_fewestValves.1, ms_X9_fewestValves.2⟩
set_option maxRecDepth 100000 in
theorem mc_X1_allValves : .code yX1_allValves cX1_allValves 1 (some .int) ∈ bigw := (gb5 201 rfl (by decide +kernel))
theorem mi_X1_allValves : .initialized (yX1_allValves : MethodName).cls ∈ bigw := (gb1 4 (by decide +kernel) (by decide +kernel))
theorem ms_X1_allValves : .instanceMethod yX1_allValves ∈ bigw ∧ .selects (yX1_allValves : MethodName).cls yX1_allValves yX1_allValves ∈ bigw := ⟨(gb5 199 (by decide +kernel) (by decide +kernel)), (gb5 200 (by decide +kernel) (by decide +kernel))⟩
theorem lkX9_325 : LKV RX9 325 yX1_allValves cX1_allValves 1 (some .int) 0 := ⟨⟨(gb5 198 (by decide +kernel) (by decide +kernel)), mc_X1_allValves, mi_X1_allValves, by decide, by decide +kernel⟩, ms_X1_allValves.1, ms_X1_allValves.2⟩
theorem lkX9_329 : LKV RX9 329 yX1_grown cX1_grown 5 (some .int) 2 := ⟨⟨(gb5 202 (by decide +kernel) (by decide +kernel)), mc_X1_grown, mi_X1_grown, by decide, by decide +kernel⟩, ms_X1_grown.1, ms_X1_grown.2⟩
set_option maxRecDepth 100000 in
theorem mc_X9_settled : .code yX9_settled cX9_settled 7 (some .int) ∈ bigw := (gb5 209 rfl (by decide +kernel))
theorem mi_X9_settled : .initialized (yX9_settled : MethodName).cls ∈ bigw := (gb1 1 (by decide +kernel) (by decide +kernel))
theorem ms_X9_settled : .instanceMethod yX9_settled ∈ bigw ∧ .selects (yX9_settled : MethodName).cls yX9_settled yX9_settled ∈ bigw := ⟨(gb5 207 (by decide +kernel) (by decide +kernel)), (gb5 208 (by decide +kernel) (by decide +kernel))⟩
theorem lkL_105 : LKV RL 105 yX9_settled cX9_settled 7 (some .int) 1 := ⟨⟨(gb5 206 (by decide +kernel) (by decide +kernel)), mc_X9_settled, mi_X9_settled, by decide, by decide +kernel⟩, ms_X9_settled.1, ms_X9_settled.2⟩
set_option maxRecDepth 100000 in
theorem mc_X9_widest : .code yX9_widest cX9_widest 4 (some .int) ∈ bigw := (gb5 217 rfl (by decide +kernel))
theorem mi_X9_widest : .initialized (yX9_widest : MethodName).cls ∈ bigw := (gb1 1 (by decide +kernel) (by decide +kernel))
theorem ms_X9_widest : .instanceMethod yX9_widest ∈ bigw ∧ .selects (yX9_widest : MethodName).cls yX9_widest yX9_widest ∈ bigw := ⟨(gb5 215 (by decide +kernel) (by decide +kernel)), (gb5 216 (by decide +kernel) (by decide +kernel))⟩
theorem lkL_108 : LKV RL 108 yX9_widest cX9_widest 4 (some .int) 0 := ⟨⟨(gb5 214 (by decide +kernel) (by decide +kernel)), mc_X9_widest, mi_X9_widest, by decide, by decide +kernel⟩, ms_X9_widest.1, ms_X9_widest.2⟩
set_option maxRecDepth 100000 in
theorem mc_X9_pressureAfter : .code yX9_pressureAfter cX9_pressureAfter 3 (some .int) ∈ bigw := (gb5 239 rfl (by decide +kernel))
theorem mi_X9_pressureAfter : .initialized (yX9_pressureAfter : MethodName).cls ∈ bigw := (gb1 1 (by decide +kernel) (by decide +kernel))
theorem ms_X9_pressureAfter : .instanceMethod yX9_pressureAfter ∈ bigw ∧ .selects (yX9_pressureAfter : MethodName).cls yX9_pressureAfter yX9_pressureAfter ∈ bigw := ⟨(gb5 237 (by decide +kernel) (by decide +kernel)), (gb5 238 (by decide +kernel) (by decide +kernel))⟩
theorem lkL_114 : LKV RL 114 yX9_pressureAfter cX9_pressureAfter 3 (some .int) 2 := ⟨⟨(gb5 236 (by decide +kernel) (by decide +kernel)), mc_X9_pressureAfter, mi_X9_pressureAfter, by decide, by decide +kernel⟩, ms_X9_pressureAfter.1, ms_X9_pressureAfter.2⟩
set_option maxRecDepth 100000 in
theorem mc_X9_lowest : .code yX9_lowest cX9_lowest 5 (some .int) ∈ bigw := (gb6 6 rfl (by decide +kernel))
theorem mi_X9_lowest : .initialized (yX9_lowest : MethodName).cls ∈ bigw := (gb1 1 (by decide +kernel) (by decide +kernel))
theorem ms_X9_lowest : .instanceMethod yX9_lowest ∈ bigw ∧ .selects (yX9_lowest : MethodName).cls yX9_lowest yX9_lowest ∈ bigw := ⟨(gb6 4 (by decide +kernel) (by decide +kernel)), (gb6 5 (by decide +kernel) (by decide +kernel))⟩
theorem lkL_117 : LKV RL 117 yX9_lowest cX9_lowest 5 (some .int) 2 := ⟨⟨(gb6 3 (by decide +kernel) (by decide +kernel)), mc_X9_lowest, mi_X9_lowest, by decide, by decide +kernel⟩, ms_X9_lowest.1, ms_X9_lowest.2⟩
theorem lkX9_335 : LKV RX9 335 yX5_tick cX5_tick 2 (some .int) 0 := ⟨⟨(gb6 7 (by decide +kernel) (by decide +kernel)), mc_X5_tick, mi_X5_tick, by decide, by decide +kernel⟩, ms_X5_tick.1, ms_X5_tick.2⟩
set_option maxRecDepth 100000 in
theorem mc_X9_ticksTo : .code yX9_ticksTo cX9_ticksTo 4 (some .int) ∈ bigw := (gb6 14 rfl (by decide +kernel))
theorem mi_X9_ticksTo : .initialized (yX9_ticksTo : MethodName).cls ∈ bigw := (gb1 1 (by decide +kernel) (by decide +kernel))
theorem ms_X9_ticksTo : .instanceMethod yX9_ticksTo ∈ bigw ∧ .selects (yX9_ticksTo : MethodName).cls yX9_ticksTo yX9_ticksTo ∈ bigw := ⟨(gb6 12 (by decide +kernel) (by decide +kernel)), (gb6 13 (by decide +kernel) (by decide +kernel))⟩
theorem lkL_120 : LKV RL 120 yX9_ticksTo cX9_ticksTo 4 (some .int) 2 := ⟨⟨(gb6 11 (by decide +kernel) (by decide +kernel)), mc_X9_ticksTo, mi_X9_ticksTo, by decide, by decide +kernel⟩, ms_X9_ticksTo.1, ms_X9_ticksTo.2⟩
set_option maxRecDepth 100000 in
theorem mc_X9_tripsIn : .code yX9_tripsIn cX9_tripsIn 2 (some .int) ∈ bigw := (gb6 21 rfl (by decide +kernel))
theorem mi_X9_tripsIn : .initialized (yX9_tripsIn : MethodName).cls ∈ bigw := (gb1 1 (by decide +kernel) (by decide +kernel))
theorem ms_X9_tripsIn : .instanceMethod yX9_tripsIn ∈ bigw ∧ .selects (yX9_tripsIn : MethodName).cls yX9_tripsIn yX9_tripsIn ∈ bigw := ⟨(gb6 19 (by decide +kernel) (by decide +kernel)), (gb6 20 (by decide +kernel) (by decide +kernel))⟩
theorem lkL_123 : LKV RL 123 yX9_tripsIn cX9_tripsIn 2 (some .int) 1 := ⟨⟨(gb6 18 (by decide +kernel) (by decide +kernel)), mc_X9_tripsIn, mi_X9_tripsIn, by decide, by decide +kernel⟩, ms_X9_tripsIn.1, ms_X9_tripsIn.2⟩
set_option maxRecDepth 100000 in
theorem mc_X9_meanPressure : .code yX9_meanPressure cX9_meanPressure 6 (some .double) ∈ bigw := (gb6 28 rfl (by decide +kernel))
theorem mi_X9_meanPressure : .initialized (yX9_meanPressure : MethodName).cls ∈ bigw := (gb1 1 (by decide +kernel) (by decide +kernel))
theorem ms_X9_meanPressure : .instanceMethod yX9_meanPressure ∈ bigw ∧ .selects (yX9_meanPressure : MethodName).cls yX9_meanPressure yX9_meanPressure ∈ bigw := ⟨(gb6 26 (by decide +kernel) (by decide +kernel)), (gb6 27 (by decide +kernel) (by decide +kernel))⟩
theorem lkL_126 : LKV RL 126 yX9_meanPressure cX9_meanPressure 6 (some .double) 2 := ⟨⟨(gb6 25 (by decide +kernel) (by decide +kernel)), mc_X9_meanPressure, mi_X9_meanPressure, by decide, by decide +kernel⟩, ms_X9_meanPressure.1, ms_X9_meanPressure.2⟩
set_option maxRecDepth 100000 in
theorem mc_X9_bestPump : .code yX9_bestPump cX9_bestPump 6 (some .int) ∈ bigw := (gb6 35 rfl (by decide +kernel))
theorem mi_X9_bestPump : .initialized (yX9_bestPump : MethodName).cls ∈ bigw := (gb1 1 (by decide +kernel) (by decide +kernel))
theorem ms_X9_bestPump : .instanceMethod yX9_bestPump ∈ bigw ∧ .selects (yX9_bestPump : MethodName).cls yX9_bestPump yX9_bestPump ∈ bigw := ⟨(gb6 33 (by decide +kernel) (by decide +kernel)), (gb6 34 (by decide +kernel) (by decide +kernel))⟩
theorem lkL_130 : LKV RL 130 yX9_bestPump cX9_bestPump 6 (some .int) 2 := ⟨⟨(gb6 32 (by decide +kernel) (by decide +kernel)), mc_X9_bestPump, mi_X9_bestPump, by decide, by decide +kernel⟩, ms_X9_bestPump.1, ms_X9_bestPump.2⟩
set_option maxRecDepth 100000 in
theorem mc_X9_bestValve : .code yX9_bestValve cX9_bestValve 6 (some .int) ∈ bigw := (gb6 42 rfl (by decide +kernel))
theorem mi_X9_bestValve : .initialized (yX9_bestValve : MethodName).cls ∈ bigw := (gb1 1 (by decide +kernel) (by decide +kernel))
theorem ms_X9_bestValve : .instanceMethod yX9_bestValve ∈ bigw ∧ .selects (yX9_bestValve : MethodName).cls yX9_bestValve yX9_bestValve ∈ bigw := ⟨(gb6 40 (by decide +kernel) (by decide +kernel)), (gb6 41 (by decide +kernel) (by decide +kernel))⟩
theorem lkL_133 : LKV RL 133 yX9_bestValve cX9_bestValve 6 (some .int) 2 := ⟨⟨(gb6 39 (by decide +kernel) (by decide +kernel)), mc_X9_bestValve, mi_X9_bestValve, by decide, by decide +kernel⟩, ms_X9_bestValve.1, ms_X9_bestValve.2⟩
set_option maxRecDepth 100000 in
theorem mc_X9_spray : .code yX9_spray cX9_spray 4 (some .int) ∈ bigw := (gb6 49 rfl (by decide +kernel))
theorem mi_X9_spray : .initialized (yX9_spray : MethodName).cls ∈ bigw := (gb1 1 (by decide +kernel) (by decide +kernel))
theorem ms_X9_spray : .instanceMethod yX9_spray ∈ bigw ∧ .selects (yX9_spray : MethodName).cls yX9_spray yX9_spray ∈ bigw := ⟨(gb6 47 (by decide +kernel) (by decide +kernel)), (gb6 48 (by decide +kernel) (by decide +kernel))⟩
theorem lkL_136 : LKV RL 136 yX9_spray cX9_spray 4 (some .int) 1 := ⟨⟨(gb6 46 (by decide +kernel) (by decide +kernel)), mc_X9_spray, mi_X9_spray, by decide, by decide +kernel⟩, ms_X9_spray.1, ms_X9_spray.2⟩
set_option maxRecDepth 100000 in
theorem mc_X1_allFlanges : .code yX1_allFlanges cX1_allFlanges 1 (some .int) ∈ bigw := (gb6 53 rfl (by decide +kernel))
theorem mi_X1_allFlanges : .initialized (yX1_allFlanges : MethodName).cls ∈ bigw := (gb1 4 (by decide +kernel) (by decide +kernel))
theorem ms_X1_allFlanges : .instanceMethod yX1_allFlanges ∈ bigw ∧ .selects (yX1_allFlanges : MethodName).cls yX1_allFlanges yX1_allFlanges ∈ bigw := ⟨(gb6 51 (by decide +kernel) (by decide +kernel)), (gb6 52 (by decide +kernel) (by decide +kernel))⟩
theorem lkX9_338 : LKV RX9 338 yX1_allFlanges cX1_allFlanges 1 (some .int) 0 := ⟨⟨(gb6 50 (by decide +kernel) (by decide +kernel)), mc_X1_allFlanges, mi_X1_allFlanges, by decide, by decide +kernel⟩, ms_X1_allFlanges.1, ms_X1_allFlanges.2⟩
set_option maxRecDepth 100000 in
theorem mc_X9_sprays : .code yX9_sprays cX9_sprays 3 (some .int) ∈ bigw := (gb6 60 rfl (by decide +kernel))
theorem mi_X9_sprays : .initialized (yX9_sprays : MethodName).cls ∈ bigw := (gb1 1 (by decide +kernel) (by decide +kernel))
theorem ms_X9_sprays : .instanceMethod yX9_sprays ∈ bigw ∧ .selects (yX9_sprays : MethodName).cls yX9_sprays yX9_sprays ∈ bigw := ⟨(gb6 58 (by decide +kernel) (by decide +kernel)), (gb6 59 (by decide +kernel) (by decide +kernel))⟩
theorem lkL_139 : LKV RL 139 yX9_sprays cX9_sprays 3 (some .int) 2 := ⟨⟨(gb6 57 (by decide +kernel) (by decide +kernel)), mc_X9_sprays, mi_X9_sprays, by decide, by decide +kernel⟩, ms_X9_sprays.1, ms_X9_sprays.2⟩
set_option maxRecDepth 100000 in
theorem mc_X0_run : .code yX0_run cX0_run 7 none ∈ bigw := (gb6 64 rfl (by decide +kernel))
theorem mi_X0_run : .initialized (yX0_run : MethodName).cls ∈ bigw := (gb1 7 (by decide +kernel) (by decide +kernel))
theorem ms_X0_run : .instanceMethod yX0_run ∈ bigw ∧ .selects (yX0_run : MethodName).cls yX0_run yX0_run ∈ bigw := ⟨(gb6 62 (by decide +kernel) (by decide +kernel)), (gb6 63 (by decide +kernel) (by decide +kernel))⟩
theorem lkX9_341 : LKV RX9 341 yX0_run cX0_run 7 none 3 := ⟨⟨(gb6 61 (by decide +kernel) (by decide +kernel)), mc_X0_run, mi_X0_run, by decide, by decide +kernel⟩, ms_X0_run.1, ms_X0_run.2⟩
set_option maxRecDepth 100000 in
theorem mc_X0_collect : .code yX0_collect cX0_collect 5 (some .int) ∈ bigw := (gb6 68 rfl (by decide +kernel))
theorem mi_X0_collect : .initialized (yX0_collect : MethodName).cls ∈ bigw := (gb1 7 (by decide +kernel) (by decide +kernel))
theorem ms_X0_collect : .instanceMethod yX0_collect ∈ bigw ∧ .selects (yX0_collect : MethodName).cls yX0_collect yX0_collect ∈ bigw := ⟨(gb6 67 (by decide +kernel) (by decide +kernel)), (gb0 23 (by decide +kernel) (by decide +kernel))⟩
theorem lkX0_37 : LKV RX0 37 yX0_collect cX0_collect 5 (some .int) 2 := ⟨⟨(gb6 65 (by decide +kernel) (by decide +kernel)), mc_X0_collect, mi_X0_collect, by decide, by decide +kernel⟩, ms_X0_collect.1, ms_X0_collect.2⟩
set_option maxRecDepth 100000 in
theorem mc_X0_addGroup : .code yX0_addGroup cX0_addGroup 3 none ∈ bigw := (gb6 72 rfl (by decide +kernel))
theorem mi_X0_addGroup : .initialized (yX0_addGroup : MethodName).cls ∈ bigw := (gb1 7 (by decide +kernel) (by decide +kernel))
theorem ms_X0_addGroup : .instanceMethod yX0_addGroup ∈ bigw ∧ .selects (yX0_addGroup : MethodName).cls yX0_addGroup yX0_addGroup ∈ bigw := ⟨(gb6 71 (by decide +kernel) (by decide +kernel)), (gb0 24 (by decide +kernel) (by decide +kernel))⟩
theorem lkX0_41 : LKV RX0 41 yX0_addGroup cX0_addGroup 3 none 2 := ⟨⟨(gb6 69 (by decide +kernel) (by decide +kernel)), mc_X0_addGroup, mi_X0_addGroup, by decide, by decide +kernel⟩, ms_X0_addGroup.1, ms_X0_addGroup.2⟩
set_option maxRecDepth 100000 in
theorem mc_X0_sumOf : .code yX0_sumOf cX0_sumOf 5 (some .int) ∈ bigw := (gb6 76 rfl (by decide +kernel))
theorem mi_X0_sumOf : .initialized (yX0_sumOf : MethodName).cls ∈ bigw := (gb1 7 (by decide +kernel) (by decide +kernel))
theorem ms_X0_sumOf : .instanceMethod yX0_sumOf ∈ bigw ∧ .selects (yX0_sumOf : MethodName).cls yX0_sumOf yX0_sumOf ∈ bigw := ⟨(gb6 75 (by decide +kernel) (by decide +kernel)), (gb0 25 (by decide +kernel) (by decide +kernel))⟩
theorem lkX0_48 : LKV RX0 48 yX0_sumOf cX0_sumOf 5 (some .int) 2 := ⟨⟨(gb6 73 (by decide +kernel) (by decide +kernel)), mc_X0_sumOf, mi_X0_sumOf, by decide, by decide +kernel⟩, ms_X0_sumOf.1, ms_X0_sumOf.2⟩
set_option maxRecDepth 100000 in
theorem mc_X9_found : .code yX9_found cX9_found 3 (some .int) ∈ bigw := (gb6 83 rfl (by decide +kernel))
theorem mi_X9_found : .initialized (yX9_found : MethodName).cls ∈ bigw := (gb1 1 (by decide +kernel) (by decide +kernel))
theorem ms_X9_found : .instanceMethod yX9_found ∈ bigw ∧ .selects (yX9_found : MethodName).cls yX9_found yX9_found ∈ bigw := ⟨(gb6 81 (by decide +kernel) (by decide +kernel)), (gb6 82 (by decide +kernel) (by decide +kernel))⟩
theorem lkL_142 : LKV RL 142 yX9_found cX9_found 3 (some .int) 2 := ⟨⟨(gb6 80 (by decide +kernel) (by decide +kernel)), mc_X9_found, mi_X9_found, by decide, by decide +kernel⟩, ms_X9_found.1, ms_X9_found.2⟩
set_option maxRecDepth 100000 in
theorem mc_X9_worstFlange : .code yX9_worstFlange cX9_worstFlange 3 (some .int) ∈ bigw := (gb6 90 rfl (by decide +kernel))
theorem mi_X9_worstFlange : .initialized (yX9_worstFlange : MethodName).cls ∈ bigw := (gb1 1 (by decide +kernel) (by decide +kernel))
theorem ms_X9_worstFlange : .instanceMethod yX9_worstFlange ∈ bigw ∧ .selects (yX9_worstFlange : MethodName).cls yX9_worstFlange yX9_worstFlange ∈ bigw := ⟨(gb6 88 (by decide +kernel) (by decide +kernel)), (gb6 89 (by decide +kernel) (by decide +kernel))⟩
theorem lkL_145 : LKV RL 145 yX9_worstFlange cX9_worstFlange 3 (some .int) 0 := ⟨⟨(gb6 87 (by decide +kernel) (by decide +kernel)), mc_X9_worstFlange, mi_X9_worstFlange, by decide, by decide +kernel⟩, ms_X9_worstFlange.1, ms_X9_worstFlange.2⟩
set_option maxRecDepth 100000 in
theorem mc_X9_reportByte : .code yX9_reportByte cX9_reportByte 2 (some .int) ∈ bigw := (gb6 97 rfl (by decide +kernel))
theorem mi_X9_reportByte : .initialized (yX9_reportByte : MethodName).cls ∈ bigw := (gb1 1 (by decide +kernel) (by decide +kernel))
theorem ms_X9_reportByte : .instanceMethod yX9_reportByte ∈ bigw ∧ .selects (yX9_reportByte : MethodName).cls yX9_reportByte yX9_reportByte ∈ bigw := ⟨(gb6 95 (by decide +kernel) (by decide +kernel)), (gb6 96 (by decide +kernel) (by decide +kernel))⟩
theorem lkL_148 : LKV RL 148 yX9_reportByte cX9_reportByte 2 (some .int) 1 := ⟨⟨(gb6 94 (by decide +kernel) (by decide +kernel)), mc_X9_reportByte, mi_X9_reportByte, by decide, by decide +kernel⟩, ms_X9_reportByte.1, ms_X9_reportByte.2⟩
set_option maxRecDepth 100000 in
theorem mc_X9_undo : .code yX9_undo cX9_undo 2 (some .int) ∈ bigw := (gb6 104 rfl (by decide +kernel))
theorem mi_X9_undo : .initialized (yX9_undo : MethodName).cls ∈ bigw := (gb1 1 (by decide +kernel) (by decide +kernel))
theorem ms_X9_undo : .instanceMethod yX9_undo ∈ bigw ∧ .selects (yX9_undo : MethodName).cls yX9_undo yX9_undo ∈ bigw := ⟨(gb6 102 (by decide +kernel) (by decide +kernel)), (gb6 103 (by decide +kernel) (by decide +kernel))⟩
theorem lkL_151 : LKV RL 151 yX9_undo cX9_undo 2 (some .int) 0 := ⟨⟨(gb6 101 (by decide +kernel) (by decide +kernel)), mc_X9_undo, mi_X9_undo, by decide, by decide +kernel⟩, ms_X9_undo.1, ms_X9_undo.2⟩
set_option maxRecDepth 100000 in
theorem mc_X10_thrown : .code yX10_thrown cX10_thrown 1 (some .int) ∈ bigw := (gb6 175 rfl (by decide +kernel))
theorem mi_X10_thrown : .initialized (yX10_thrown : MethodName).cls ∈ bigw := (gb1 11 (by decide +kernel) (by decide +kernel))
theorem ms_X10_thrown : .instanceMethod yX10_thrown ∈ bigw ∧ .selects (yX10_thrown : MethodName).cls yX10_thrown yX10_thrown ∈ bigw := ⟨(gb6 173 (by decide +kernel) (by decide +kernel)), (gb6 174 (by decide +kernel) (by decide +kernel))⟩
theorem lkL_164 : LKV RL 164 yX10_thrown cX10_thrown 1 (some .int) 0 := ⟨⟨(gb6 172 (by decide +kernel) (by decide +kernel)), mc_X10_thrown, mi_X10_thrown, by decide, by decide +kernel⟩, ms_X10_thrown.1, ms_X10_thrown.2⟩
set_option maxRecDepth 100000 in
theorem mc_X10_undo : .code yX10_undo cX10_undo 2 (some .int) ∈ bigw := (gb6 179 rfl (by decide +kernel))
theorem mi_X10_undo : .initialized (yX10_undo : MethodName).cls ∈ bigw := (gb1 11 (by decide +kernel) (by decide +kernel))
theorem ms_X10_undo : .instanceMethod yX10_undo ∈ bigw ∧ .selects (yX10_undo : MethodName).cls yX10_undo yX10_undo ∈ bigw := ⟨(gb6 177 (by decide +kernel) (by decide +kernel)), (gb6 178 (by decide +kernel) (by decide +kernel))⟩
theorem lkL_321 : LKV RL 321 yX10_undo cX10_undo 2 (some .int) 0 := ⟨⟨(gb6 176 (by decide +kernel) (by decide +kernel)), mc_X10_undo, mi_X10_undo, by decide, by decide +kernel⟩, ms_X10_undo.1, ms_X10_undo.2⟩
set_option maxRecDepth 100000 in
theorem mc_X10_no : .code yX10_no cX10_no 2 (some .int) ∈ bigw := (gb6 183 rfl (by decide +kernel))
theorem mi_X10_no : .initialized (yX10_no : MethodName).cls ∈ bigw := (gb1 11 (by decide +kernel) (by decide +kernel))
theorem ms_X10_no : .instanceMethod yX10_no ∈ bigw ∧ .selects (yX10_no : MethodName).cls yX10_no yX10_no ∈ bigw := ⟨(gb6 182 (by decide +kernel) (by decide +kernel)), (gb0 26 (by decide +kernel) (by decide +kernel))⟩
theorem lkX10_57 : LKV RX10 57 yX10_no cX10_no 2 (some .int) 1 := ⟨⟨(gb6 180 (by decide +kernel) (by decide +kernel)), mc_X10_no, mi_X10_no, by decide, by decide +kernel⟩, ms_X10_no.1, ms_X10_no.2⟩
set_option maxRecDepth 100000 in
theorem mc_X10_undoDepth : .code yX10_undoDepth cX10_undoDepth 1 (some .int) ∈ bigw := (gb6 187 rfl (by decide +kernel))
theorem mi_X10_undoDepth : .initialized (yX10_undoDepth : MethodName).cls ∈ bigw := (gb1 11 (by decide +kernel) (by decide +kernel))
theorem ms_X10_undoDepth : .instanceMethod yX10_undoDepth ∈ bigw ∧ .selects (yX10_undoDepth : MethodName).cls yX10_undoDepth yX10_undoDepth ∈ bigw := ⟨(gb6 185 (by decide +kernel) (by decide +kernel)), (gb6 186 (by decide +kernel) (by decide +kernel))⟩
theorem lkL_325 : LKV RL 325 yX10_undoDepth cX10_undoDepth 1 (some .int) 0 := ⟨⟨(gb6 184 (by decide +kernel) (by decide +kernel)), mc_X10_undoDepth, mi_X10_undoDepth, by decide, by decide +kernel⟩, ms_X10_undoDepth.1, ms_X10_undoDepth.2⟩
set_option maxRecDepth 100000 in
theorem mc_X10_open : .code yX10_open cX10_open 2 (some .int) ∈ bigw := (gb6 191 rfl (by decide +kernel))
theorem mi_X10_open : .initialized (yX10_open : MethodName).cls ∈ bigw := (gb1 11 (by decide +kernel) (by decide +kernel))
theorem ms_X10_open : .instanceMethod yX10_open ∈ bigw ∧ .selects (yX10_open : MethodName).cls yX10_open yX10_open ∈ bigw := ⟨(gb6 189 (by decide +kernel) (by decide +kernel)), (gb6 190 (by decide +kernel) (by decide +kernel))⟩
theorem lkL_185 : LKV RL 185 yX10_open cX10_open 2 (some .int) 1 := ⟨⟨(gb6 188 (by decide +kernel) (by decide +kernel)), mc_X10_open, mi_X10_open, by decide, by decide +kernel⟩, ms_X10_open.1, ms_X10_open.2⟩
set_option maxRecDepth 100000 in
theorem mc_X10_isValve : .code yX10_isValve cX10_isValve 2 (some .boolean) ∈ bigw := (gb6 195 rfl (by decide +kernel))
theorem mi_X10_isValve : .initialized (yX10_isValve : MethodName).cls ∈ bigw := (gb1 11 (by decide +kernel) (by decide +kernel))
theorem ms_X10_isValve : .instanceMethod yX10_isValve ∈ bigw ∧ .selects (yX10_isValve : MethodName).cls yX10_isValve yX10_isValve ∈ bigw := ⟨(gb6 194 (by decide +kernel) (by decide +kernel)), (gb0 27 (by decide +kernel) (by decide +kernel))⟩
theorem lkX10_148 : LKV RX10 148 yX10_isValve cX10_isValve 2 (some .boolean) 1 := ⟨⟨(gb6 192 (by decide +kernel) (by decide +kernel)), mc_X10_isValve, mi_X10_isValve, by decide, by decide +kernel⟩, ms_X10_isValve.1, ms_X10_isValve.2⟩
set_option maxRecDepth 100000 in
theorem mc_X10_in : .code yX10_in cX10_in 6 (some .boolean) ∈ bigw := (gb6 198 rfl (by decide +kernel))
theorem mi_X10_in : .initialized (yX10_in : MethodName).cls ∈ bigw := (gb1 11 (by decide +kernel) (by decide +kernel))
theorem ms_X10_in : .static yX10_in ∈ bigw := (gb6 197 (by decide +kernel) (by decide +kernel))
theorem lkX10_39 : LKS RX10 39 yX10_in cX10_in 6 (some .boolean) 3 := ⟨⟨(gb6 196 (by decide +kernel) (by decide +kernel)), mc_X10_in, mi_X10_in, by decide, by decide +kernel⟩, ms_X10_in⟩
set_option maxRecDepth 100000 in
theorem mc_X10_fails : .code yX10_fails cX10_fails 3 (some .boolean) ∈ bigw := (gb6 202 rfl (by decide +kernel))
theorem mi_X10_fails : .initialized (yX10_fails : MethodName).cls ∈ bigw := (gb1 11 (by decide +kernel) (by decide +kernel))
theorem ms_X10_fails : .instanceMethod yX10_fails ∈ bigw ∧ .selects (yX10_fails : MethodName).cls yX10_fails yX10_fails ∈ bigw := ⟨(gb6 201 (by decide +kernel) (by decide +kernel)), (gb0 28 (by decide +kernel) (by decide +kernel))⟩
theorem lkX10_151 : LKV RX10 151 yX10_fails cX10_fails 3 (some .boolean) 2 := ⟨⟨(gb6 199 (by decide +kernel) (by decide +kernel)), mc_X10_fails, mi_X10_fails, by decide, by decide +kernel⟩, ms_X10_fails.1, ms_X10_fails.2⟩
set_option maxRecDepth 100000 in
theorem mc_X10_canOpen : .code yX10_canOpen cX10_canOpen 2 (some .boolean) ∈ bigw := (gb6 206 rfl (by decide +kernel))
theorem mi_X10_canOpen : .initialized (yX10_canOpen : MethodName).cls ∈ bigw := (gb1 11 (by decide +kernel) (by decide +kernel))
theorem ms_X10_canOpen : .instanceMethod yX10_canOpen ∈ bigw ∧ .selects (yX10_canOpen : MethodName).cls yX10_canOpen yX10_canOpen ∈ bigw := ⟨(gb6 205 (by decide +kernel) (by decide +kernel)), (gb0 29 (by decide +kernel) (by decide +kernel))⟩
theorem lkX10_155 : LKV RX10 155 yX10_canOpen cX10_canOpen 2 (some .boolean) 1 := ⟨⟨(gb6 203 (by decide +kernel) (by decide +kernel)), mc_X10_canOpen, mi_X10_canOpen, by decide, by decide +kernel⟩, ms_X10_canOpen.1, ms_X10_canOpen.2⟩
set_option maxRecDepth 100000 in
theorem mc_X10_isOpen : .code yX10_isOpen cX10_isOpen 2 (some .boolean) ∈ bigw := (gb6 210 rfl (by decide +kernel))
theorem mi_X10_isOpen : .initialized (yX10_isOpen : MethodName).cls ∈ bigw := (gb1 11 (by decide +kernel) (by decide +kernel))
theorem ms_X10_isOpen : .instanceMethod yX10_isOpen ∈ bigw ∧ .selects (yX10_isOpen : MethodName).cls yX10_isOpen yX10_isOpen ∈ bigw := ⟨(gb6 209 (by decide +kernel) (by decide +kernel)), (gb0 30 (by decide +kernel) (by decide +kernel))⟩
theorem lkX10_99 : LKV RX10 99 yX10_isOpen cX10_isOpen 2 (some .boolean) 1 := ⟨⟨(gb6 207 (by decide +kernel) (by decide +kernel)), mc_X10_isOpen, mi_X10_isOpen, by decide, by decide +kernel⟩, ms_X10_isOpen.1, ms_X10_isOpen.2⟩
set_option maxRecDepth 100000 in
theorem mc_X10_ofValve : .code yX10_ofValve cX10_ofValve 3 (some .int) ∈ bigw := (gb6 214 rfl (by decide +kernel))
theorem mi_X10_ofValve : .initialized (yX10_ofValve : MethodName).cls ∈ bigw := (gb1 11 (by decide +kernel) (by decide +kernel))
theorem ms_X10_ofValve : .instanceMethod yX10_ofValve ∈ bigw ∧ .selects (yX10_ofValve : MethodName).cls yX10_ofValve yX10_ofValve ∈ bigw := ⟨(gb6 213 (by decide +kernel) (by decide +kernel)), (gb0 31 (by decide +kernel) (by decide +kernel))⟩
theorem lkX10_74 : LKV RX10 74 yX10_ofValve cX10_ofValve 3 (some .int) 2 := ⟨⟨(gb6 211 (by decide +kernel) (by decide +kernel)), mc_X10_ofValve, mi_X10_ofValve, by decide, by decide +kernel⟩, ms_X10_ofValve.1, ms_X10_ofValve.2⟩
set_option maxRecDepth 100000 in
theorem mc_X10_valveAt : .code yX10_valveAt cX10_valveAt 1 (some .int) ∈ bigw := (gb6 217 rfl (by decide +kernel))
theorem mi_X10_valveAt : .initialized (yX10_valveAt : MethodName).cls ∈ bigw := (gb1 11 (by decide +kernel) (by decide +kernel))
theorem ms_X10_valveAt : .static yX10_valveAt ∈ bigw := (gb6 216 (by decide +kernel) (by decide +kernel))
theorem lkX10_68 : LKS RX10 68 yX10_valveAt cX10_valveAt 1 (some .int) 1 := ⟨⟨(gb6 215 (by decide +kernel) (by decide +kernel)), mc_X10_valveAt, mi_X10_valveAt, by decide, by decide +kernel⟩, ms_X10_valveAt⟩
set_option maxRecDepth 100000 in
theorem mc_X10_mayJoin : .code yX10_mayJoin cX10_mayJoin 2 (some .boolean) ∈ bigw := (gb6 221 rfl (by decide +kernel))
theorem mi_X10_mayJoin : .initialized (yX10_mayJoin : MethodName).cls ∈ bigw := (gb1 11 (by decide +kernel) (by decide +kernel))
theorem ms_X10_mayJoin : .instanceMethod yX10_mayJoin ∈ bigw ∧ .selects (yX10_mayJoin : MethodName).cls yX10_mayJoin yX10_mayJoin ∈ bigw := ⟨(gb6 220 (by decide +kernel) (by decide +kernel)), (gb0 32 (by decide +kernel) (by decide +kernel))⟩
theorem lkX10_103 : LKV RX10 103 yX10_mayJoin cX10_mayJoin 2 (some .boolean) 1 := ⟨⟨(gb6 218 (by decide +kernel) (by decide +kernel)), mc_X10_mayJoin, mi_X10_mayJoin, by decide, by decide +kernel⟩, ms_X10_mayJoin.1, ms_X10_mayJoin.2⟩
set_option maxRecDepth 100000 in
theorem mc_X10_difference : .code yX10_difference cX10_difference 2 (some .long) ∈ bigw := (gb6 225 rfl (by decide +kernel))
theorem mi_X10_difference : .initialized (yX10_difference : MethodName).cls ∈ bigw := (gb1 11 (by decide +kernel) (by decide +kernel))
theorem ms_X10_difference : .instanceMethod yX10_difference ∈ bigw ∧ .selects (yX10_difference : MethodName).cls yX10_difference yX10_difference ∈ bigw := ⟨(gb6 224 (by decide +kernel) (by decide +kernel)), (gb0 33 (by decide +kernel) (by decide +kernel))⟩
theorem lkX10_90 : LKV RX10 90 yX10_difference cX10_difference 2 (some .long) 1 := ⟨⟨(gb6 222 (by decide +kernel) (by decide +kernel)), mc_X10_difference, mi_X10_difference, by decide, by decide +kernel⟩, ms_X10_difference.1, ms_X10_difference.2⟩
set_option maxRecDepth 100000 in
theorem mc_X10_pressure : .code yX10_pressure cX10_pressure 2 (some .long) ∈ bigw := (gb6 229 rfl (by decide +kernel))
theorem mi_X10_pressure : .initialized (yX10_pressure : MethodName).cls ∈ bigw := (gb1 11 (by decide +kernel) (by decide +kernel))
theorem ms_X10_pressure : .instanceMethod yX10_pressure ∈ bigw ∧ .selects (yX10_pressure : MethodName).cls yX10_pressure yX10_pressure ∈ bigw := ⟨(gb6 228 (by decide +kernel) (by decide +kernel)), (gb0 34 (by decide +kernel) (by decide +kernel))⟩
theorem lkX10_78 : LKV RX10 78 yX10_pressure cX10_pressure 2 (some .long) 1 := ⟨⟨(gb6 226 (by decide +kernel) (by decide +kernel)), mc_X10_pressure, mi_X10_pressure, by decide, by decide +kernel⟩, ms_X10_pressure.1, ms_X10_pressure.2⟩
set_option maxRecDepth 100000 in
theorem mc_X10_chamberAt : .code yX10_chamberAt cX10_chamberAt 1 (some .int) ∈ bigw := (gb6 233 rfl (by decide +kernel))
theorem mi_X10_chamberAt : .initialized (yX10_chamberAt : MethodName).cls ∈ bigw := (gb1 11 (by decide +kernel) (by decide +kernel))
theorem ms_X10_chamberAt : .static yX10_chamberAt ∈ bigw := (gb6 232 (by decide +kernel) (by decide +kernel))
theorem lkX10_61 : LKS RX10 61 yX10_chamberAt cX10_chamberAt 1 (some .int) 1 := ⟨⟨(gb6 231 (by decide +kernel) (by decide +kernel)), mc_X10_chamberAt, mi_X10_chamberAt, by decide, by decide +kernel⟩, ms_X10_chamberAt⟩
set_option maxRecDepth 100000 in
theorem mc_X10_volume : .code yX10_volume cX10_volume 2 (some .long) ∈ bigw := (gb6 237 rfl (by decide +kernel))
theorem mi_X10_volume : .initialized (yX10_volume : MethodName).cls ∈ bigw := (gb1 11 (by decide +kernel) (by decide +kernel))
theorem ms_X10_volume : .instanceMethod yX10_volume ∈ bigw ∧ .selects (yX10_volume : MethodName).cls yX10_volume yX10_volume ∈ bigw := ⟨(gb6 236 (by decide +kernel) (by decide +kernel)), (gb0 35 (by decide +kernel) (by decide +kernel))⟩
theorem lkX10_64 : LKV RX10 64 yX10_volume cX10_volume 2 (some .long) 1 := ⟨⟨(gb6 234 (by decide +kernel) (by decide +kernel)), mc_X10_volume, mi_X10_volume, by decide, by decide +kernel⟩, ms_X10_volume.1, ms_X10_volume.2⟩
set_option maxRecDepth 100000 in
theorem mc_Math_abs_l : .code Lib.MathLoose.abs_long.x Lib.MathLoose.abs_long.code 2 (some .long) ∈ bigw := (gb7 0 rfl (by decide +kernel))
theorem mi_Math_abs_l : .initialized (Lib.MathLoose.abs_long.x : MethodName).cls ∈ bigw := (gb1 17 (by decide +kernel) (by decide +kernel))
theorem ms_Math_abs_l : .static Lib.MathLoose.abs_long.x ∈ bigw := (gb6 239 (by decide +kernel) (by decide +kernel))
theorem lkX10_81 : LKS RX10 81 Lib.MathLoose.abs_long.x Lib.MathLoose.abs_long.code 2 (some .long) 1 := ⟨⟨(gb6 238 (by decide +kernel) (by decide +kernel)), mc_Math_abs_l, mi_Math_abs_l, by decide, by decide +kernel⟩, ms_Math_abs_l⟩
set_option maxRecDepth 100000 in
theorem mc_X10_remember : .code yX10_remember cX10_remember 1 none ∈ bigw := (gb7 4 rfl (by decide +kernel))
theorem mi_X10_remember : .initialized (yX10_remember : MethodName).cls ∈ bigw := (gb1 11 (by decide +kernel) (by decide +kernel))
theorem ms_X10_remember : .instanceMethod yX10_remember ∈ bigw ∧ .selects (yX10_remember : MethodName).cls yX10_remember yX10_remember ∈ bigw := ⟨(gb7 3 (by decide +kernel) (by decide +kernel)), (gb0 36 (by decide +kernel) (by decide +kernel))⟩
theorem lkX10_158 : LKV RX10 158 yX10_remember cX10_remember 1 none 0 := ⟨⟨(gb7 1 (by decide +kernel) (by decide +kernel)), mc_X10_remember, mi_X10_remember, by decide, by decide +kernel⟩, ms_X10_remember.1, ms_X10_remember.2⟩
set_option maxRecDepth 100000 in
theorem mc_X10_copy : .code yX10_copy cX10_copy 3 none ∈ bigw := (gb7 7 rfl (by decide +kernel))
theorem mi_X10_copy : .initialized (yX10_copy : MethodName).cls ∈ bigw := (gb1 11 (by decide +kernel) (by decide +kernel))
theorem ms_X10_copy : .static yX10_copy ∈ bigw := (gb7 6 (by decide +kernel) (by decide +kernel))
theorem lkX10_50 : LKS RX10 50 yX10_copy cX10_copy 3 none 2 := ⟨⟨(gb7 5 (by decide +kernel) (by decide +kernel)), mc_X10_copy, mi_X10_copy, by decide, by decide +kernel⟩, ms_X10_copy⟩
set_option maxRecDepth 100000 in
theorem mc_X10_push : .code yX10_push cX10_push 2 none ∈ bigw := (gb7 11 rfl (by decide +kernel))
theorem mi_X10_push : .initialized (yX10_push : MethodName).cls ∈ bigw := (gb1 11 (by decide +kernel) (by decide +kernel))
theorem ms_X10_push : .instanceMethod yX10_push ∈ bigw ∧ .selects (yX10_push : MethodName).cls yX10_push yX10_push ∈ bigw := ⟨(gb7 10 (by decide +kernel) (by decide +kernel)), (gb0 37 (by decide +kernel) (by decide +kernel))⟩
theorem lkX10_54 : LKV RX10 54 yX10_push cX10_push 2 none 0 := ⟨⟨(gb7 8 (by decide +kernel) (by decide +kernel)), mc_X10_push, mi_X10_push, by decide, by decide +kernel⟩, ms_X10_push.1, ms_X10_push.2⟩
set_option maxRecDepth 100000 in
theorem mc_X10_turn : .code yX10_turn cX10_turn 3 (some .int) ∈ bigw := (gb7 15 rfl (by decide +kernel))
theorem mi_X10_turn : .initialized (yX10_turn : MethodName).cls ∈ bigw := (gb1 11 (by decide +kernel) (by decide +kernel))
theorem ms_X10_turn : .instanceMethod yX10_turn ∈ bigw ∧ .selects (yX10_turn : MethodName).cls yX10_turn yX10_turn ∈ bigw := ⟨(gb7 14 (by decide +kernel) (by decide +kernel)), (gb0 38 (by decide +kernel) (by decide +kernel))⟩
theorem lkX10_161 : LKV RX10 161 yX10_turn cX10_turn 3 (some .int) 2 := ⟨⟨(gb7 12 (by decide +kernel) (by decide +kernel)), mc_X10_turn, mi_X10_turn, by decide, by decide +kernel⟩, ms_X10_turn.1, ms_X10_turn.2⟩
set_option maxRecDepth 100000 in
theorem mc_X10_close : .code yX10_close cX10_close 2 (some .int) ∈ bigw := (gb7 19 rfl (by decide +kernel))
theorem mi_X10_close : .initialized (yX10_close : MethodName).cls ∈ bigw := (gb1 11 (by decide +kernel) (by decide +kernel))
theorem ms_X10_close : .instanceMethod yX10_close ∈ bigw ∧ .selects (yX10_close : MethodName).cls yX10_close yX10_close ∈ bigw := ⟨(gb7 17 (by decide +kernel) (by decide +kernel)), (gb7 18 (by decide +kernel) (by decide +kernel))⟩
theorem lkL_188 : LKV RL 188 yX10_close cX10_close 2 (some .int) 1 := ⟨⟨(gb7 16 (by decide +kernel) (by decide +kernel)), mc_X10_close, mi_X10_close, by decide, by decide +kernel⟩, ms_X10_close.1, ms_X10_close.2⟩
set_option maxRecDepth 100000 in
theorem mc_X10_start : .code yX10_start cX10_start 2 (some .int) ∈ bigw := (gb7 23 rfl (by decide +kernel))
theorem mi_X10_start : .initialized (yX10_start : MethodName).cls ∈ bigw := (gb1 11 (by decide +kernel) (by decide +kernel))
theorem ms_X10_start : .instanceMethod yX10_start ∈ bigw ∧ .selects (yX10_start : MethodName).cls yX10_start yX10_start ∈ bigw := ⟨(gb7 21 (by decide +kernel) (by decide +kernel)), (gb7 22 (by decide +kernel) (by decide +kernel))⟩
theorem lkL_191 : LKV RL 191 yX10_start cX10_start 2 (some .int) 1 := ⟨⟨(gb7 20 (by decide +kernel) (by decide +kernel)), mc_X10_start, mi_X10_start, by decide, by decide +kernel⟩, ms_X10_start.1, ms_X10_start.2⟩
set_option maxRecDepth 100000 in
theorem mc_X10_isPump : .code yX10_isPump cX10_isPump 2 (some .boolean) ∈ bigw := (gb7 27 rfl (by decide +kernel))
theorem mi_X10_isPump : .initialized (yX10_isPump : MethodName).cls ∈ bigw := (gb1 11 (by decide +kernel) (by decide +kernel))
theorem ms_X10_isPump : .instanceMethod yX10_isPump ∈ bigw ∧ .selects (yX10_isPump : MethodName).cls yX10_isPump yX10_isPump ∈ bigw := ⟨(gb7 26 (by decide +kernel) (by decide +kernel)), (gb0 39 (by decide +kernel) (by decide +kernel))⟩
theorem lkX10_164 : LKV RX10 164 yX10_isPump cX10_isPump 2 (some .boolean) 1 := ⟨⟨(gb7 24 (by decide +kernel) (by decide +kernel)), mc_X10_isPump, mi_X10_isPump, by decide, by decide +kernel⟩, ms_X10_isPump.1, ms_X10_isPump.2⟩
set_option maxRecDepth 100000 in
theorem mc_X10_canStart : .code yX10_canStart cX10_canStart 2 (some .boolean) ∈ bigw := (gb7 31 rfl (by decide +kernel))
theorem mi_X10_canStart : .initialized (yX10_canStart : MethodName).cls ∈ bigw := (gb1 11 (by decide +kernel) (by decide +kernel))
theorem ms_X10_canStart : .instanceMethod yX10_canStart ∈ bigw ∧ .selects (yX10_canStart : MethodName).cls yX10_canStart yX10_canStart ∈ bigw := ⟨(gb7 30 (by decide +kernel) (by decide +kernel)), (gb0 40 (by decide +kernel) (by decide +kernel))⟩
theorem lkX10_167 : LKV RX10 167 yX10_canStart cX10_canStart 2 (some .boolean) 1 := ⟨⟨(gb7 28 (by decide +kernel) (by decide +kernel)), mc_X10_canStart, mi_X10_canStart, by decide, by decide +kernel⟩, ms_X10_canStart.1, ms_X10_canStart.2⟩
set_option maxRecDepth 100000 in
theorem mc_X10_isRunning : .code yX10_isRunning cX10_isRunning 2 (some .boolean) ∈ bigw := (gb7 35 rfl (by decide +kernel))
theorem mi_X10_isRunning : .initialized (yX10_isRunning : MethodName).cls ∈ bigw := (gb1 11 (by decide +kernel) (by decide +kernel))
theorem ms_X10_isRunning : .instanceMethod yX10_isRunning ∈ bigw ∧ .selects (yX10_isRunning : MethodName).cls yX10_isRunning yX10_isRunning ∈ bigw := ⟨(gb7 34 (by decide +kernel) (by decide +kernel)), (gb0 41 (by decide +kernel) (by decide +kernel))⟩
theorem lkX10_135 : LKV RX10 135 yX10_isRunning cX10_isRunning 2 (some .boolean) 1 := ⟨⟨(gb7 32 (by decide +kernel) (by decide +kernel)), mc_X10_isRunning, mi_X10_isRunning, by decide, by decide +kernel⟩, ms_X10_isRunning.1, ms_X10_isRunning.2⟩
set_option maxRecDepth 100000 in
theorem mc_X10_ofPump : .code yX10_ofPump cX10_ofPump 3 (some .int) ∈ bigw := (gb7 39 rfl (by decide +kernel))
theorem mi_X10_ofPump : .initialized (yX10_ofPump : MethodName).cls ∈ bigw := (gb1 11 (by decide +kernel) (by decide +kernel))
theorem ms_X10_ofPump : .instanceMethod yX10_ofPump ∈ bigw ∧ .selects (yX10_ofPump : MethodName).cls yX10_ofPump yX10_ofPump ∈ bigw := ⟨(gb7 38 (by decide +kernel) (by decide +kernel)), (gb0 42 (by decide +kernel) (by decide +kernel))⟩
theorem lkX10_87 : LKV RX10 87 yX10_ofPump cX10_ofPump 3 (some .int) 2 := ⟨⟨(gb7 36 (by decide +kernel) (by decide +kernel)), mc_X10_ofPump, mi_X10_ofPump, by decide, by decide +kernel⟩, ms_X10_ofPump.1, ms_X10_ofPump.2⟩
set_option maxRecDepth 100000 in
theorem mc_X10_pumpAt : .code yX10_pumpAt cX10_pumpAt 1 (some .int) ∈ bigw := (gb7 42 rfl (by decide +kernel))
theorem mi_X10_pumpAt : .initialized (yX10_pumpAt : MethodName).cls ∈ bigw := (gb1 11 (by decide +kernel) (by decide +kernel))
theorem ms_X10_pumpAt : .static yX10_pumpAt ∈ bigw := (gb7 41 (by decide +kernel) (by decide +kernel))
theorem lkX10_71 : LKS RX10 71 yX10_pumpAt cX10_pumpAt 1 (some .int) 1 := ⟨⟨(gb7 40 (by decide +kernel) (by decide +kernel)), mc_X10_pumpAt, mi_X10_pumpAt, by decide, by decide +kernel⟩, ms_X10_pumpAt⟩
set_option maxRecDepth 100000 in
theorem mc_X10_isLowEnough : .code yX10_isLowEnough cX10_isLowEnough 2 (some .boolean) ∈ bigw := (gb7 46 rfl (by decide +kernel))
theorem mi_X10_isLowEnough : .initialized (yX10_isLowEnough : MethodName).cls ∈ bigw := (gb1 11 (by decide +kernel) (by decide +kernel))
theorem ms_X10_isLowEnough : .instanceMethod yX10_isLowEnough ∈ bigw ∧ .selects (yX10_isLowEnough : MethodName).cls yX10_isLowEnough yX10_isLowEnough ∈ bigw := ⟨(gb7 45 (by decide +kernel) (by decide +kernel)), (gb0 43 (by decide +kernel) (by decide +kernel))⟩
theorem lkX10_119 : LKV RX10 119 yX10_isLowEnough cX10_isLowEnough 2 (some .boolean) 1 := ⟨⟨(gb7 43 (by decide +kernel) (by decide +kernel)), mc_X10_isLowEnough, mi_X10_isLowEnough, by decide, by decide +kernel⟩, ms_X10_isLowEnough.1, ms_X10_isLowEnough.2⟩
set_option maxRecDepth 100000 in
theorem mc_X10_isBacked : .code yX10_isBacked cX10_isBacked 3 (some .boolean) ∈ bigw := (gb7 50 rfl (by decide +kernel))
theorem mi_X10_isBacked : .initialized (yX10_isBacked : MethodName).cls ∈ bigw := (gb1 11 (by decide +kernel) (by decide +kernel))
theorem ms_X10_isBacked : .instanceMethod yX10_isBacked ∈ bigw ∧ .selects (yX10_isBacked : MethodName).cls yX10_isBacked yX10_isBacked ∈ bigw := ⟨(gb7 49 (by decide +kernel) (by decide +kernel)), (gb0 44 (by decide +kernel) (by decide +kernel))⟩
theorem lkX10_122 : LKV RX10 122 yX10_isBacked cX10_isBacked 3 (some .boolean) 1 := ⟨⟨(gb7 47 (by decide +kernel) (by decide +kernel)), mc_X10_isBacked, mi_X10_isBacked, by decide, by decide +kernel⟩, ms_X10_isBacked.1, ms_X10_isBacked.2⟩
set_option maxRecDepth 100000 in
theorem mc_X10_run : .code yX10_run cX10_run 3 (some .int) ∈ bigw := (gb7 54 rfl (by decide +kernel))
theorem mi_X10_run : .initialized (yX10_run : MethodName).cls ∈ bigw := (gb1 11 (by decide +kernel) (by decide +kernel))
theorem ms_X10_run : .instanceMethod yX10_run ∈ bigw ∧ .selects (yX10_run : MethodName).cls yX10_run yX10_run ∈ bigw := ⟨(gb7 53 (by decide +kernel) (by decide +kernel)), (gb0 45 (by decide +kernel) (by decide +kernel))⟩
theorem lkX10_170 : LKV RX10 170 yX10_run cX10_run 3 (some .int) 2 := ⟨⟨(gb7 51 (by decide +kernel) (by decide +kernel)), mc_X10_run, mi_X10_run, by decide, by decide +kernel⟩, ms_X10_run.1, ms_X10_run.2⟩
set_option maxRecDepth 100000 in
theorem mc_X10_stop : .code yX10_stop cX10_stop 2 (some .int) ∈ bigw := (gb7 58 rfl (by decide +kernel))
theorem mi_X10_stop : .initialized (yX10_stop : MethodName).cls ∈ bigw := (gb1 11 (by decide +kernel) (by decide +kernel))
theorem ms_X10_stop : .instanceMethod yX10_stop ∈ bigw ∧ .selects (yX10_stop : MethodName).cls yX10_stop yX10_stop ∈ bigw := ⟨(gb7 56 (by decide +kernel) (by decide +kernel)), (gb7 57 (by decide +kernel) (by decide +kernel))⟩
theorem lkL_194 : LKV RL 194 yX10_stop cX10_stop 2 (some .int) 1 := ⟨⟨(gb7 55 (by decide +kernel) (by decide +kernel)), mc_X10_stop, mi_X10_stop, by decide, by decide +kernel⟩, ms_X10_stop.1, ms_X10_stop.2⟩
set_option maxRecDepth 100000 in
theorem mc_X10_pass : .code yX10_pass cX10_pass 2 (some .int) ∈ bigw := (gb7 62 rfl (by decide +kernel))
theorem mi_X10_pass : .initialized (yX10_pass : MethodName).cls ∈ bigw := (gb1 11 (by decide +kernel) (by decide +kernel))
theorem ms_X10_pass : .instanceMethod yX10_pass ∈ bigw ∧ .selects (yX10_pass : MethodName).cls yX10_pass yX10_pass ∈ bigw := ⟨(gb7 60 (by decide +kernel) (by decide +kernel)), (gb7 61 (by decide +kernel) (by decide +kernel))⟩
theorem lkL_197 : LKV RL 197 yX10_pass cX10_pass 2 (some .int) 1 := ⟨⟨(gb7 59 (by decide +kernel) (by decide +kernel)), mc_X10_pass, mi_X10_pass, by decide, by decide +kernel⟩, ms_X10_pass.1, ms_X10_pass.2⟩
set_option maxRecDepth 100000 in
theorem mc_X10_isTicks : .code yX10_isTicks cX10_isTicks 1 (some .boolean) ∈ bigw := (gb7 65 rfl (by decide +kernel))
theorem mi_X10_isTicks : .initialized (yX10_isTicks : MethodName).cls ∈ bigw := (gb1 11 (by decide +kernel) (by decide +kernel))
theorem ms_X10_isTicks : .static yX10_isTicks ∈ bigw := (gb7 64 (by decide +kernel) (by decide +kernel))
theorem lkX10_173 : LKS RX10 173 yX10_isTicks cX10_isTicks 1 (some .boolean) 1 := ⟨⟨(gb7 63 (by decide +kernel) (by decide +kernel)), mc_X10_isTicks, mi_X10_isTicks, by decide, by decide +kernel⟩, ms_X10_isTicks⟩
set_option maxRecDepth 100000 in
theorem mc_X10_passNow : .code yX10_passNow cX10_passNow 4 (some .int) ∈ bigw := (gb7 70 rfl (by decide +kernel))
theorem mi_X10_passNow : .initialized (yX10_passNow : MethodName).cls ∈ bigw := (gb1 11 (by decide +kernel) (by decide +kernel))
theorem ms_X10_passNow : .instanceMethod yX10_passNow ∈ bigw ∧ .selects (yX10_passNow : MethodName).cls yX10_passNow yX10_passNow ∈ bigw := ⟨(gb7 69 (by decide +kernel) (by decide +kernel)), (gb0 46 (by decide +kernel) (by decide +kernel))⟩
theorem lkX10_176 : LKV RX10 176 yX10_passNow cX10_passNow 4 (some .int) 1 := ⟨⟨(gb7 67 (by decide +kernel) (by decide +kernel)), mc_X10_passNow, mi_X10_passNow, by decide, by decide +kernel⟩, ms_X10_passNow.1, ms_X10_passNow.2⟩
set_option maxRecDepth 100000 in
theorem mc_X10_trips : .code yX10_trips cX10_trips 1 (some .int) ∈ bigw := (gb7 74 rfl (by decide +kernel))
theorem mi_X10_trips : .initialized (yX10_trips : MethodName).cls ∈ bigw := (gb1 11 (by decide +kernel) (by decide +kernel))
theorem ms_X10_trips : .instanceMethod yX10_trips ∈ bigw ∧ .selects (yX10_trips : MethodName).cls yX10_trips yX10_trips ∈ bigw := ⟨(gb7 73 (by decide +kernel) (by decide +kernel)), (gb0 47 (by decide +kernel) (by decide +kernel))⟩
theorem lkX10_141 : LKV RX10 141 yX10_trips cX10_trips 1 (some .int) 0 := ⟨⟨(gb7 71 (by decide +kernel) (by decide +kernel)), mc_X10_trips, mi_X10_trips, by decide, by decide +kernel⟩, ms_X10_trips.1, ms_X10_trips.2⟩
set_option maxRecDepth 100000 in
theorem mc_X10_tick : .code yX10_tick cX10_tick 2 none ∈ bigw := (gb7 78 rfl (by decide +kernel))
theorem mi_X10_tick : .initialized (yX10_tick : MethodName).cls ∈ bigw := (gb1 11 (by decide +kernel) (by decide +kernel))
theorem ms_X10_tick : .instanceMethod yX10_tick ∈ bigw ∧ .selects (yX10_tick : MethodName).cls yX10_tick yX10_tick ∈ bigw := ⟨(gb7 77 (by decide +kernel) (by decide +kernel)), (gb0 48 (by decide +kernel) (by decide +kernel))⟩
theorem lkX10_145 : LKV RX10 145 yX10_tick cX10_tick 2 none 0 := ⟨⟨(gb7 75 (by decide +kernel) (by decide +kernel)), mc_X10_tick, mi_X10_tick, by decide, by decide +kernel⟩, ms_X10_tick.1, ms_X10_tick.2⟩
set_option maxRecDepth 100000 in
theorem mc_X10_tripValves : .code yX10_tripValves cX10_tripValves 2 none ∈ bigw := (gb7 82 rfl (by decide +kernel))
theorem mi_X10_tripValves : .initialized (yX10_tripValves : MethodName).cls ∈ bigw := (gb1 11 (by decide +kernel) (by decide +kernel))
theorem ms_X10_tripValves : .instanceMethod yX10_tripValves ∈ bigw ∧ .selects (yX10_tripValves : MethodName).cls yX10_tripValves yX10_tripValves ∈ bigw := ⟨(gb7 81 (by decide +kernel) (by decide +kernel)), (gb0 49 (by decide +kernel) (by decide +kernel))⟩
theorem lkX10_125 : LKV RX10 125 yX10_tripValves cX10_tripValves 2 none 0 := ⟨⟨(gb7 79 (by decide +kernel) (by decide +kernel)), mc_X10_tripValves, mi_X10_tripValves, by decide, by decide +kernel⟩, ms_X10_tripValves.1, ms_X10_tripValves.2⟩
set_option maxRecDepth 100000 in
theorem mc_X10_many : .code yX10_many cX10_many 2 (some .int) ∈ bigw := (gb7 86 rfl (by decide +kernel))
theorem mi_X10_many : .initialized (yX10_many : MethodName).cls ∈ bigw := (gb1 11 (by decide +kernel) (by decide +kernel))
theorem ms_X10_many : .instanceMethod yX10_many ∈ bigw ∧ .selects (yX10_many : MethodName).cls yX10_many yX10_many ∈ bigw := ⟨(gb7 85 (by decide +kernel) (by decide +kernel)), (gb0 50 (by decide +kernel) (by decide +kernel))⟩
theorem lkX10_93 : LKV RX10 93 yX10_many cX10_many 2 (some .int) 1 := ⟨⟨(gb7 83 (by decide +kernel) (by decide +kernel)), mc_X10_many, mi_X10_many, by decide, by decide +kernel⟩, ms_X10_many.1, ms_X10_many.2⟩
set_option maxRecDepth 100000 in
theorem mc_X10_getGas : .code yX10_getGas cX10_getGas 5 none ∈ bigw := (gb7 90 rfl (by decide +kernel))
theorem mi_X10_getGas : .initialized (yX10_getGas : MethodName).cls ∈ bigw := (gb1 11 (by decide +kernel) (by decide +kernel))
theorem ms_X10_getGas : .instanceMethod yX10_getGas ∈ bigw ∧ .selects (yX10_getGas : MethodName).cls yX10_getGas yX10_getGas ∈ bigw := ⟨(gb7 89 (by decide +kernel) (by decide +kernel)), (gb0 51 (by decide +kernel) (by decide +kernel))⟩
theorem lkX10_128 : LKV RX10 128 yX10_getGas cX10_getGas 5 none 0 := ⟨⟨(gb7 87 (by decide +kernel) (by decide +kernel)), mc_X10_getGas, mi_X10_getGas, by decide, by decide +kernel⟩, ms_X10_getGas.1, ms_X10_getGas.2⟩
set_option maxRecDepth 100000 in
theorem mc_X10_leaks : .code yX10_leaks cX10_leaks 5 (some .long) ∈ bigw := (gb7 95 rfl (by decide +kernel))
theorem mi_X10_leaks : .initialized (yX10_leaks : MethodName).cls ∈ bigw := (gb1 11 (by decide +kernel) (by decide +kernel))
theorem ms_X10_leaks : .instanceMethod yX10_leaks ∈ bigw ∧ .selects (yX10_leaks : MethodName).cls yX10_leaks yX10_leaks ∈ bigw := ⟨(gb7 94 (by decide +kernel) (by decide +kernel)), (gb0 52 (by decide +kernel) (by decide +kernel))⟩
theorem lkX10_108 : LKV RX10 108 yX10_leaks cX10_leaks 5 (some .long) 1 := ⟨⟨(gb7 92 (by decide +kernel) (by decide +kernel)), mc_X10_leaks, mi_X10_leaks, by decide, by decide +kernel⟩, ms_X10_leaks.1, ms_X10_leaks.2⟩
set_option maxRecDepth 100000 in
theorem mc_X10_flangeAt : .code yX10_flangeAt cX10_flangeAt 1 (some .int) ∈ bigw := (gb7 98 rfl (by decide +kernel))
theorem mi_X10_flangeAt : .initialized (yX10_flangeAt : MethodName).cls ∈ bigw := (gb1 11 (by decide +kernel) (by decide +kernel))
theorem ms_X10_flangeAt : .static yX10_flangeAt ∈ bigw := (gb7 97 (by decide +kernel) (by decide +kernel))
theorem lkX10_96 : LKS RX10 96 yX10_flangeAt cX10_flangeAt 1 (some .int) 1 := ⟨⟨(gb7 96 (by decide +kernel) (by decide +kernel)), mc_X10_flangeAt, mi_X10_flangeAt, by decide, by decide +kernel⟩, ms_X10_flangeAt⟩
set_option maxRecDepth 100000 in
theorem mc_X10_flowThrough : .code yX10_flowThrough cX10_flowThrough 13 none ∈ bigw := (gb7 102 rfl (by decide +kernel))
theorem mi_X10_flowThrough : .initialized (yX10_flowThrough : MethodName).cls ∈ bigw := (gb1 11 (by decide +kernel) (by decide +kernel))
theorem ms_X10_flowThrough : .instanceMethod yX10_flowThrough ∈ bigw ∧ .selects (yX10_flowThrough : MethodName).cls yX10_flowThrough yX10_flowThrough ∈ bigw := ⟨(gb7 101 (by decide +kernel) (by decide +kernel)), (gb0 53 (by decide +kernel) (by decide +kernel))⟩
theorem lkX10_131 : LKV RX10 131 yX10_flowThrough cX10_flowThrough 13 none 1 := ⟨⟨(gb7 99 (by decide +kernel) (by decide +kernel)), mc_X10_flowThrough, mi_X10_flowThrough, by decide, by decide +kernel⟩, ms_X10_flowThrough.1, ms_X10_flowThrough.2⟩
theorem lkX10_111 : LKS RX10 111 Lib.MathLoose.min_long.x Lib.MathLoose.min_long.code 4 (some .long) 2 := ⟨⟨(gb7 103 (by decide +kernel) (by decide +kernel)), mc_Math_min_l, mi_Math_min_l, by decide, by decide +kernel⟩, ms_Math_min_l⟩
set_option maxRecDepth 100000 in
theorem mc_X10_give : .code yX10_give cX10_give 4 none ∈ bigw := (gb7 107 rfl (by decide +kernel))
theorem mi_X10_give : .initialized (yX10_give : MethodName).cls ∈ bigw := (gb1 11 (by decide +kernel) (by decide +kernel))
theorem ms_X10_give : .instanceMethod yX10_give ∈ bigw ∧ .selects (yX10_give : MethodName).cls yX10_give yX10_give ∈ bigw := ⟨(gb7 106 (by decide +kernel) (by decide +kernel)), (gb0 54 (by decide +kernel) (by decide +kernel))⟩
theorem lkX10_115 : LKV RX10 115 yX10_give cX10_give 4 none 2 := ⟨⟨(gb7 104 (by decide +kernel) (by decide +kernel)), mc_X10_give, mi_X10_give, by decide, by decide +kernel⟩, ms_X10_give.1, ms_X10_give.2⟩
set_option maxRecDepth 100000 in
theorem mc_X10_pumpOut : .code yX10_pumpOut cX10_pumpOut 7 none ∈ bigw := (gb7 111 rfl (by decide +kernel))
theorem mi_X10_pumpOut : .initialized (yX10_pumpOut : MethodName).cls ∈ bigw := (gb1 11 (by decide +kernel) (by decide +kernel))
theorem ms_X10_pumpOut : .instanceMethod yX10_pumpOut ∈ bigw ∧ .selects (yX10_pumpOut : MethodName).cls yX10_pumpOut yX10_pumpOut ∈ bigw := ⟨(gb7 110 (by decide +kernel) (by decide +kernel)), (gb0 55 (by decide +kernel) (by decide +kernel))⟩
theorem lkX10_138 : LKV RX10 138 yX10_pumpOut cX10_pumpOut 7 none 1 := ⟨⟨(gb7 108 (by decide +kernel) (by decide +kernel)), mc_X10_pumpOut, mi_X10_pumpOut, by decide, by decide +kernel⟩, ms_X10_pumpOut.1, ms_X10_pumpOut.2⟩
set_option maxRecDepth 100000 in
theorem mc_X10_passUntil : .code yX10_passUntil cX10_passUntil 4 (some .int) ∈ bigw := (gb7 115 rfl (by decide +kernel))
theorem mi_X10_passUntil : .initialized (yX10_passUntil : MethodName).cls ∈ bigw := (gb1 11 (by decide +kernel) (by decide +kernel))
theorem ms_X10_passUntil : .instanceMethod yX10_passUntil ∈ bigw ∧ .selects (yX10_passUntil : MethodName).cls yX10_passUntil yX10_passUntil ∈ bigw := ⟨(gb7 113 (by decide +kernel) (by decide +kernel)), (gb7 114 (by decide +kernel) (by decide +kernel))⟩
theorem lkL_201 : LKV RL 201 yX10_passUntil cX10_passUntil 4 (some .int) 2 := ⟨⟨(gb7 112 (by decide +kernel) (by decide +kernel)), mc_X10_passUntil, mi_X10_passUntil, by decide, by decide +kernel⟩, ms_X10_passUntil.1, ms_X10_passUntil.2⟩
set_option maxRecDepth 100000 in
theorem mc_X10_isChamber : .code yX10_isChamber cX10_isChamber 2 (some .boolean) ∈ bigw := (gb7 119 rfl (by decide +kernel))
theorem mi_X10_isChamber : .initialized (yX10_isChamber : MethodName).cls ∈ bigw := (gb1 11 (by decide +kernel) (by decide +kernel))
theorem ms_X10_isChamber : .instanceMethod yX10_isChamber ∈ bigw ∧ .selects (yX10_isChamber : MethodName).cls yX10_isChamber yX10_isChamber ∈ bigw := ⟨(gb7 118 (by decide +kernel) (by decide +kernel)), (gb0 56 (by decide +kernel) (by decide +kernel))⟩
theorem lkX10_179 : LKV RX10 179 yX10_isChamber cX10_isChamber 2 (some .boolean) 1 := ⟨⟨(gb7 116 (by decide +kernel) (by decide +kernel)), mc_X10_isChamber, mi_X10_isChamber, by decide, by decide +kernel⟩, ms_X10_isChamber.1, ms_X10_isChamber.2⟩
set_option maxRecDepth 100000 in
theorem mc_X10_isPressure : .code yX10_isPressure cX10_isPressure 1 (some .boolean) ∈ bigw := (gb7 122 rfl (by decide +kernel))
theorem mi_X10_isPressure : .initialized (yX10_isPressure : MethodName).cls ∈ bigw := (gb1 11 (by decide +kernel) (by decide +kernel))
theorem ms_X10_isPressure : .static yX10_isPressure ∈ bigw := (gb7 121 (by decide +kernel) (by decide +kernel))
theorem lkX10_182 : LKS RX10 182 yX10_isPressure cX10_isPressure 1 (some .boolean) 1 := ⟨⟨(gb7 120 (by decide +kernel) (by decide +kernel)), mc_X10_isPressure, mi_X10_isPressure, by decide, by decide +kernel⟩, ms_X10_isPressure⟩
set_option maxRecDepth 100000 in
theorem mc_X10_goDown : .code yX10_goDown cX10_goDown 4 (some .int) ∈ bigw := (gb7 126 rfl (by decide +kernel))
theorem mi_X10_goDown : .initialized (yX10_goDown : MethodName).cls ∈ bigw := (gb1 11 (by decide +kernel) (by decide +kernel))
theorem ms_X10_goDown : .instanceMethod yX10_goDown ∈ bigw ∧ .selects (yX10_goDown : MethodName).cls yX10_goDown yX10_goDown ∈ bigw := ⟨(gb7 125 (by decide +kernel) (by decide +kernel)), (gb0 57 (by decide +kernel) (by decide +kernel))⟩
theorem lkX10_185 : LKV RX10 185 yX10_goDown cX10_goDown 4 (some .int) 2 := ⟨⟨(gb7 123 (by decide +kernel) (by decide +kernel)), mc_X10_goDown, mi_X10_goDown, by decide, by decide +kernel⟩, ms_X10_goDown.1, ms_X10_goDown.2⟩
set_option maxRecDepth 100000 in
theorem mc_X10_seal : .code yX10_seal cX10_seal 2 (some .int) ∈ bigw := (gb7 130 rfl (by decide +kernel))
theorem mi_X10_seal : .initialized (yX10_seal : MethodName).cls ∈ bigw := (gb1 11 (by decide +kernel) (by decide +kernel))
theorem ms_X10_seal : .instanceMethod yX10_seal ∈ bigw ∧ .selects (yX10_seal : MethodName).cls yX10_seal yX10_seal ∈ bigw := ⟨(gb7 128 (by decide +kernel) (by decide +kernel)), (gb7 129 (by decide +kernel) (by decide +kernel))⟩
theorem lkL_204 : LKV RL 204 yX10_seal cX10_seal 2 (some .int) 1 := ⟨⟨(gb7 127 (by decide +kernel) (by decide +kernel)), mc_X10_seal, mi_X10_seal, by decide, by decide +kernel⟩, ms_X10_seal.1, ms_X10_seal.2⟩
set_option maxRecDepth 100000 in
theorem mc_X10_isFlange : .code yX10_isFlange cX10_isFlange 2 (some .boolean) ∈ bigw := (gb7 134 rfl (by decide +kernel))
theorem mi_X10_isFlange : .initialized (yX10_isFlange : MethodName).cls ∈ bigw := (gb1 11 (by decide +kernel) (by decide +kernel))
theorem ms_X10_isFlange : .instanceMethod yX10_isFlange ∈ bigw ∧ .selects (yX10_isFlange : MethodName).cls yX10_isFlange yX10_isFlange ∈ bigw := ⟨(gb7 133 (by decide +kernel) (by decide +kernel)), (gb0 58 (by decide +kernel) (by decide +kernel))⟩
theorem lkX10_191 : LKV RX10 191 yX10_isFlange cX10_isFlange 2 (some .boolean) 1 := ⟨⟨(gb7 131 (by decide +kernel) (by decide +kernel)), mc_X10_isFlange, mi_X10_isFlange, by decide, by decide +kernel⟩, ms_X10_isFlange.1, ms_X10_isFlange.2⟩
set_option maxRecDepth 100000 in
theorem mc_X10_sets : .code yX10_sets cX10_sets 3 (some .int) ∈ bigw := (gb7 138 rfl (by decide +kernel))
theorem mi_X10_sets : .initialized (yX10_sets : MethodName).cls ∈ bigw := (gb1 11 (by decide +kernel) (by decide +kernel))
theorem ms_X10_sets : .instanceMethod yX10_sets ∈ bigw ∧ .selects (yX10_sets : MethodName).cls yX10_sets yX10_sets ∈ bigw := ⟨(gb7 137 (by decide +kernel) (by decide +kernel)), (gb0 59 (by decide +kernel) (by decide +kernel))⟩
theorem lkX10_194 : LKV RX10 194 yX10_sets cX10_sets 3 (some .int) 2 := ⟨⟨(gb7 135 (by decide +kernel) (by decide +kernel)), mc_X10_sets, mi_X10_sets, by decide, by decide +kernel⟩, ms_X10_sets.1, ms_X10_sets.2⟩
set_option maxRecDepth 100000 in
theorem mc_X10_setNow : .code yX10_setNow cX10_setNow 4 (some .int) ∈ bigw := (gb7 142 rfl (by decide +kernel))
theorem mi_X10_setNow : .initialized (yX10_setNow : MethodName).cls ∈ bigw := (gb1 11 (by decide +kernel) (by decide +kernel))
theorem ms_X10_setNow : .instanceMethod yX10_setNow ∈ bigw ∧ .selects (yX10_setNow : MethodName).cls yX10_setNow yX10_setNow ∈ bigw := ⟨(gb7 141 (by decide +kernel) (by decide +kernel)), (gb0 60 (by decide +kernel) (by decide +kernel))⟩
theorem lkX10_188 : LKV RX10 188 yX10_setNow cX10_setNow 4 (some .int) 2 := ⟨⟨(gb7 139 (by decide +kernel) (by decide +kernel)), mc_X10_setNow, mi_X10_setNow, by decide, by decide +kernel⟩, ms_X10_setNow.1, ms_X10_setNow.2⟩
set_option maxRecDepth 100000 in
theorem mc_X10_setLeak : .code yX10_setLeak cX10_setLeak 3 (some .int) ∈ bigw := (gb7 146 rfl (by decide +kernel))
theorem mi_X10_setLeak : .initialized (yX10_setLeak : MethodName).cls ∈ bigw := (gb1 11 (by decide +kernel) (by decide +kernel))
theorem ms_X10_setLeak : .instanceMethod yX10_setLeak ∈ bigw ∧ .selects (yX10_setLeak : MethodName).cls yX10_setLeak yX10_setLeak ∈ bigw := ⟨(gb7 144 (by decide +kernel) (by decide +kernel)), (gb7 145 (by decide +kernel) (by decide +kernel))⟩
theorem lkL_207 : LKV RL 207 yX10_setLeak cX10_setLeak 3 (some .int) 2 := ⟨⟨(gb7 143 (by decide +kernel) (by decide +kernel)), mc_X10_setLeak, mi_X10_setLeak, by decide, by decide +kernel⟩, ms_X10_setLeak.1, ms_X10_setLeak.2⟩
set_option maxRecDepth 100000 in
theorem mc_X10_setOutgassing : .code yX10_setOutgassing cX10_setOutgassing 3 (some .int) ∈ bigw := (gb7 151 rfl (by decide +kernel))
theorem mi_X10_setOutgassing : .initialized (yX10_setOutgassing : MethodName).cls ∈ bigw := (gb1 11 (by decide +kernel) (by decide +kernel))
theorem ms_X10_setOutgassing : .instanceMethod yX10_setOutgassing ∈ bigw ∧ .selects (yX10_setOutgassing : MethodName).cls yX10_setOutgassing yX10_setOutgassing ∈ bigw := ⟨(gb7 149 (by decide +kernel) (by decide +kernel)), (gb7 150 (by decide +kernel) (by decide +kernel))⟩
theorem lkL_210 : LKV RL 210 yX10_setOutgassing cX10_setOutgassing 3 (some .int) 2 := ⟨⟨(gb7 148 (by decide +kernel) (by decide +kernel)), mc_X10_setOutgassing, mi_X10_setOutgassing, by decide, by decide +kernel⟩, ms_X10_setOutgassing.1, ms_X10_setOutgassing.2⟩
set_option maxRecDepth 100000 in
theorem mc_X10_setRule : .code yX10_setRule cX10_setRule 3 (some .int) ∈ bigw := (gb7 155 rfl (by decide +kernel))
theorem mi_X10_setRule : .initialized (yX10_setRule : MethodName).cls ∈ bigw := (gb1 11 (by decide +kernel) (by decide +kernel))
theorem ms_X10_setRule : .instanceMethod yX10_setRule ∈ bigw ∧ .selects (yX10_setRule : MethodName).cls yX10_setRule yX10_setRule ∈ bigw := ⟨(gb7 153 (by decide +kernel) (by decide +kernel)), (gb7 154 (by decide +kernel) (by decide +kernel))⟩
theorem lkL_213 : LKV RL 213 yX10_setRule cX10_setRule 3 (some .int) 2 := ⟨⟨(gb7 152 (by decide +kernel) (by decide +kernel)), mc_X10_setRule, mi_X10_setRule, by decide, by decide +kernel⟩, ms_X10_setRule.1, ms_X10_setRule.2⟩
set_option maxRecDepth 100000 in
theorem mc_X10_test : .code yX10_test cX10_test 3 (some .int) ∈ bigw := (gb7 159 rfl (by decide +kernel))
theorem mi_X10_test : .initialized (yX10_test : MethodName).cls ∈ bigw := (gb1 11 (by decide +kernel) (by decide +kernel))
theorem ms_X10_test : .instanceMethod yX10_test ∈ bigw ∧ .selects (yX10_test : MethodName).cls yX10_test yX10_test ∈ bigw := ⟨(gb7 157 (by decide +kernel) (by decide +kernel)), (gb7 158 (by decide +kernel) (by decide +kernel))⟩
theorem lkL_216 : LKV RL 216 yX10_test cX10_test 3 (some .int) 2 := ⟨⟨(gb7 156 (by decide +kernel) (by decide +kernel)), mc_X10_test, mi_X10_test, by decide, by decide +kernel⟩, ms_X10_test.1, ms_X10_test.2⟩
set_option maxRecDepth 100000 in
theorem mc_X10_isTestTicks : .code yX10_isTestTicks cX10_isTestTicks 1 (some .boolean) ∈ bigw := (gb7 162 rfl (by decide +kernel))
theorem mi_X10_isTestTicks : .initialized (yX10_isTestTicks : MethodName).cls ∈ bigw := (gb1 11 (by decide +kernel) (by decide +kernel))
theorem ms_X10_isTestTicks : .static yX10_isTestTicks ∈ bigw := (gb7 161 (by decide +kernel) (by decide +kernel))
theorem lkX10_214 : LKS RX10 214 yX10_isTestTicks cX10_isTestTicks 1 (some .boolean) 1 := ⟨⟨(gb7 160 (by decide +kernel) (by decide +kernel)), mc_X10_isTestTicks, mi_X10_isTestTicks, by decide, by decide +kernel⟩, ms_X10_isTestTicks⟩
set_option maxRecDepth 100000 in
theorem mc_X10_isAlone : .code yX10_isAlone cX10_isAlone 3 (some .boolean) ∈ bigw := (gb7 168 rfl (by decide +kernel))
theorem mi_X10_isAlone : .initialized (yX10_isAlone : MethodName).cls ∈ bigw := (gb1 11 (by decide +kernel) (by decide +kernel))
theorem ms_X10_isAlone : .instanceMethod yX10_isAlone ∈ bigw ∧ .selects (yX10_isAlone : MethodName).cls yX10_isAlone yX10_isAlone ∈ bigw := ⟨(gb7 167 (by decide +kernel) (by decide +kernel)), (gb0 61 (by decide +kernel) (by decide +kernel))⟩
theorem lkX10_217 : LKV RX10 217 yX10_isAlone cX10_isAlone 3 (some .boolean) 1 := ⟨⟨(gb7 165 (by decide +kernel) (by decide +kernel)), mc_X10_isAlone, mi_X10_isAlone, by decide, by decide +kernel⟩, ms_X10_isAlone.1, ms_X10_isAlone.2⟩
set_option maxRecDepth 100000 in
theorem mc_X10_testNow : .code yX10_testNow cX10_testNow 9 (some .int) ∈ bigw := (gb7 172 rfl (by decide +kernel))
theorem mi_X10_testNow : .initialized (yX10_testNow : MethodName).cls ∈ bigw := (gb1 11 (by decide +kernel) (by decide +kernel))
theorem ms_X10_testNow : .instanceMethod yX10_testNow ∈ bigw ∧ .selects (yX10_testNow : MethodName).cls yX10_testNow yX10_testNow ∈ bigw := ⟨(gb7 171 (by decide +kernel) (by decide +kernel)), (gb0 62 (by decide +kernel) (by decide +kernel))⟩
theorem lkX10_220 : LKV RX10 220 yX10_testNow cX10_testNow 9 (some .int) 2 := ⟨⟨(gb7 169 (by decide +kernel) (by decide +kernel)), mc_X10_testNow, mi_X10_testNow, by decide, by decide +kernel⟩, ms_X10_testNow.1, ms_X10_testNow.2⟩
set_option maxRecDepth 100000 in
theorem mc_X10_riseIn : .code yX10_riseIn cX10_riseIn 6 (some .long) ∈ bigw := (gb7 176 rfl (by decide +kernel))
theorem mi_X10_riseIn : .initialized (yX10_riseIn : MethodName).cls ∈ bigw := (gb1 11 (by decide +kernel) (by decide +kernel))
theorem ms_X10_riseIn : .instanceMethod yX10_riseIn ∈ bigw ∧ .selects (yX10_riseIn : MethodName).cls yX10_riseIn yX10_riseIn ∈ bigw := ⟨(gb7 175 (by decide +kernel) (by decide +kernel)), (gb0 63 (by decide +kernel) (by decide +kernel))⟩
theorem lkX10_203 : LKV RX10 203 yX10_riseIn cX10_riseIn 6 (some .long) 2 := ⟨⟨(gb7 173 (by decide +kernel) (by decide +kernel)), mc_X10_riseIn, mi_X10_riseIn, by decide, by decide +kernel⟩, ms_X10_riseIn.1, ms_X10_riseIn.2⟩
set_option maxRecDepth 100000 in
theorem mc_X10_testAt : .code yX10_testAt cX10_testAt 1 (some .int) ∈ bigw := (gb7 181 rfl (by decide +kernel))
theorem mi_X10_testAt : .initialized (yX10_testAt : MethodName).cls ∈ bigw := (gb1 11 (by decide +kernel) (by decide +kernel))
theorem ms_X10_testAt : .static yX10_testAt ∈ bigw := (gb7 180 (by decide +kernel) (by decide +kernel))
theorem lkX10_211 : LKS RX10 211 yX10_testAt cX10_testAt 1 (some .int) 1 := ⟨⟨(gb7 179 (by decide +kernel) (by decide +kernel)), mc_X10_testAt, mi_X10_testAt, by decide, by decide +kernel⟩, ms_X10_testAt⟩
set_option maxRecDepth 100000 in
theorem mc_X10_appendText : .code yX10_appendText cX10_appendText 6 (some .int) ∈ bigw := (gb7 185 rfl (by decide +kernel))
theorem mi_X10_appendText : .initialized (yX10_appendText : MethodName).cls ∈ bigw := (gb1 11 (by decide +kernel) (by decide +kernel))
theorem ms_X10_appendText : .instanceMethod yX10_appendText ∈ bigw ∧ .selects (yX10_appendText : MethodName).cls yX10_appendText yX10_appendText ∈ bigw := ⟨(gb7 183 (by decide +kernel) (by decide +kernel)), (gb7 184 (by decide +kernel) (by decide +kernel))⟩
theorem lkL_163 : LKV RL 163 yX10_appendText cX10_appendText 6 (some .int) 5 := ⟨⟨(gb7 182 (by decide +kernel) (by decide +kernel)), mc_X10_appendText, mi_X10_appendText, by decide, by decide +kernel⟩, ms_X10_appendText.1, ms_X10_appendText.2⟩
set_option maxRecDepth 100000 in
theorem mc_X10_bring : .code yX10_bring cX10_bring 3 none ∈ bigw := (gb7 189 rfl (by decide +kernel))
theorem mi_X10_bring : .initialized (yX10_bring : MethodName).cls ∈ bigw := (gb1 11 (by decide +kernel) (by decide +kernel))
theorem ms_X10_bring : .instanceMethod yX10_bring ∈ bigw ∧ .selects (yX10_bring : MethodName).cls yX10_bring yX10_bring ∈ bigw := ⟨(gb7 188 (by decide +kernel) (by decide +kernel)), (gb0 64 (by decide +kernel) (by decide +kernel))⟩
theorem lkX10_226 : LKV RX10 226 yX10_bring cX10_bring 3 none 1 := ⟨⟨(gb7 186 (by decide +kernel) (by decide +kernel)), mc_X10_bring, mi_X10_bring, by decide, by decide +kernel⟩, ms_X10_bring.1, ms_X10_bring.2⟩
set_option maxRecDepth 100000 in
theorem mc_X10_truncateText : .code yX10_truncateText cX10_truncateText 2 (some .int) ∈ bigw := (gb7 193 rfl (by decide +kernel))
theorem mi_X10_truncateText : .initialized (yX10_truncateText : MethodName).cls ∈ bigw := (gb1 11 (by decide +kernel) (by decide +kernel))
theorem ms_X10_truncateText : .instanceMethod yX10_truncateText ∈ bigw ∧ .selects (yX10_truncateText : MethodName).cls yX10_truncateText yX10_truncateText ∈ bigw := ⟨(gb7 191 (by decide +kernel) (by decide +kernel)), (gb7 192 (by decide +kernel) (by decide +kernel))⟩
theorem lkL_170 : LKV RL 170 yX10_truncateText cX10_truncateText 2 (some .int) 1 := ⟨⟨(gb7 190 (by decide +kernel) (by decide +kernel)), mc_X10_truncateText, mi_X10_truncateText, by decide, by decide +kernel⟩, ms_X10_truncateText.1, ms_X10_truncateText.2⟩
set_option maxRecDepth 100000 in
theorem mc_X10_parseSystem : .code yX10_parseSystem cX10_parseSystem 2 (some .int) ∈ bigw := (gb7 197 rfl (by decide +kernel))
theorem mi_X10_parseSystem : .initialized (yX10_parseSystem : MethodName).cls ∈ bigw := (gb1 11 (by decide +kernel) (by decide +kernel))
theorem ms_X10_parseSystem : .instanceMethod yX10_parseSystem ∈ bigw ∧ .selects (yX10_parseSystem : MethodName).cls yX10_parseSystem yX10_parseSystem ∈ bigw := ⟨(gb7 195 (by decide +kernel) (by decide +kernel)), (gb7 196 (by decide +kernel) (by decide +kernel))⟩
theorem lkL_174 : LKV RL 174 yX10_parseSystem cX10_parseSystem 2 (some .int) 0 := ⟨⟨(gb7 194 (by decide +kernel) (by decide +kernel)), mc_X10_parseSystem, mi_X10_parseSystem, by decide, by decide +kernel⟩, ms_X10_parseSystem.1, ms_X10_parseSystem.2⟩
set_option maxRecDepth 100000 in
theorem mc_X10_begin : .code yX10_begin cX10_begin 1 none ∈ bigw := (gb7 201 rfl (by decide +kernel))
theorem mi_X10_begin : .initialized (yX10_begin : MethodName).cls ∈ bigw := (gb1 11 (by decide +kernel) (by decide +kernel))
theorem ms_X10_begin : .instanceMethod yX10_begin ∈ bigw ∧ .selects (yX10_begin : MethodName).cls yX10_begin yX10_begin ∈ bigw := ⟨(gb7 200 (by decide +kernel) (by decide +kernel)), (gb0 65 (by decide +kernel) (by decide +kernel))⟩
theorem lkX10_312 : LKV RX10 312 yX10_begin cX10_begin 1 none 0 := ⟨⟨(gb7 198 (by decide +kernel) (by decide +kernel)), mc_X10_begin, mi_X10_begin, by decide, by decide +kernel⟩, ms_X10_begin.1, ms_X10_begin.2⟩
set_option maxRecDepth 100000 in
theorem mc_X10_next : .code yX10_next cX10_next 1 none ∈ bigw := (gb7 205 rfl (by decide +kernel))
theorem mi_X10_next : .initialized (yX10_next : MethodName).cls ∈ bigw := (gb1 11 (by decide +kernel) (by decide +kernel))
theorem ms_X10_next : .instanceMethod yX10_next ∈ bigw ∧ .selects (yX10_next : MethodName).cls yX10_next yX10_next ∈ bigw := ⟨(gb7 204 (by decide +kernel) (by decide +kernel)), (gb0 66 (by decide +kernel) (by decide +kernel))⟩
theorem lkX10_266 : LKV RX10 266 yX10_next cX10_next 1 none 0 := ⟨⟨(gb7 202 (by decide +kernel) (by decide +kernel)), mc_X10_next, mi_X10_next, by decide, by decide +kernel⟩, ms_X10_next.1, ms_X10_next.2⟩
set_option maxRecDepth 100000 in
theorem mc_X10_byteAt : .code yX10_byteAt cX10_byteAt 2 (some .int) ∈ bigw := (gb7 209 rfl (by decide +kernel))
theorem mi_X10_byteAt : .initialized (yX10_byteAt : MethodName).cls ∈ bigw := (gb1 11 (by decide +kernel) (by decide +kernel))
theorem ms_X10_byteAt : .instanceMethod yX10_byteAt ∈ bigw ∧ .selects (yX10_byteAt : MethodName).cls yX10_byteAt yX10_byteAt ∈ bigw := ⟨(gb7 208 (by decide +kernel) (by decide +kernel)), (gb0 67 (by decide +kernel) (by decide +kernel))⟩
theorem lkX10_232 : LKV RX10 232 yX10_byteAt cX10_byteAt 2 (some .int) 1 := ⟨⟨(gb7 206 (by decide +kernel) (by decide +kernel)), mc_X10_byteAt, mi_X10_byteAt, by decide, by decide +kernel⟩, ms_X10_byteAt.1, ms_X10_byteAt.2⟩
set_option maxRecDepth 100000 in
theorem mc_X10_isLetterAt : .code yX10_isLetterAt cX10_isLetterAt 2 (some .boolean) ∈ bigw := (gb7 213 rfl (by decide +kernel))
theorem mi_X10_isLetterAt : .initialized (yX10_isLetterAt : MethodName).cls ∈ bigw := (gb1 11 (by decide +kernel) (by decide +kernel))
theorem ms_X10_isLetterAt : .instanceMethod yX10_isLetterAt ∈ bigw ∧ .selects (yX10_isLetterAt : MethodName).cls yX10_isLetterAt yX10_isLetterAt ∈ bigw := ⟨(gb7 212 (by decide +kernel) (by decide +kernel)), (gb0 68 (by decide +kernel) (by decide +kernel))⟩
theorem lkX10_249 : LKV RX10 249 yX10_isLetterAt cX10_isLetterAt 2 (some .boolean) 1 := ⟨⟨(gb7 210 (by decide +kernel) (by decide +kernel)), mc_X10_isLetterAt, mi_X10_isLetterAt, by decide, by decide +kernel⟩, ms_X10_isLetterAt.1, ms_X10_isLetterAt.2⟩
set_option maxRecDepth 100000 in
theorem mc_X10_isDigitAt : .code yX10_isDigitAt cX10_isDigitAt 2 (some .boolean) ∈ bigw := (gb7 219 rfl (by decide +kernel))
theorem mi_X10_isDigitAt : .initialized (yX10_isDigitAt : MethodName).cls ∈ bigw := (gb1 11 (by decide +kernel) (by decide +kernel))
theorem ms_X10_isDigitAt : .instanceMethod yX10_isDigitAt ∈ bigw ∧ .selects (yX10_isDigitAt : MethodName).cls yX10_isDigitAt yX10_isDigitAt ∈ bigw := ⟨(gb7 218 (by decide +kernel) (by decide +kernel)), (gb0 69 (by decide +kernel) (by decide +kernel))⟩
theorem lkX10_252 : LKV RX10 252 yX10_isDigitAt cX10_isDigitAt 2 (some .boolean) 1 := ⟨⟨(gb7 216 (by decide +kernel) (by decide +kernel)), mc_X10_isDigitAt, mi_X10_isDigitAt, by decide, by decide +kernel⟩, ms_X10_isDigitAt.1, ms_X10_isDigitAt.2⟩
set_option maxRecDepth 100000 in
theorem mc_X10_readChamber : .code yX10_readChamber cX10_readChamber 5 none ∈ bigw := (gb7 225 rfl (by decide +kernel))
theorem mi_X10_readChamber : .initialized (yX10_readChamber : MethodName).cls ∈ bigw := (gb1 11 (by decide +kernel) (by decide +kernel))
theorem ms_X10_readChamber : .instanceMethod yX10_readChamber ∈ bigw ∧ .selects (yX10_readChamber : MethodName).cls yX10_readChamber yX10_readChamber ∈ bigw := ⟨(gb7 224 (by decide +kernel) (by decide +kernel)), (gb0 70 (by decide +kernel) (by decide +kernel))⟩
theorem lkX10_315 : LKV RX10 315 yX10_readChamber cX10_readChamber 5 none 0 := ⟨⟨(gb7 222 (by decide +kernel) (by decide +kernel)), mc_X10_readChamber, mi_X10_readChamber, by decide, by decide +kernel⟩, ms_X10_readChamber.1, ms_X10_readChamber.2⟩
set_option maxRecDepth 100000 in
theorem mc_X10_keyword : .code yX10_keyword cX10_keyword 4 none ∈ bigw := (gb7 230 rfl (by decide +kernel))
theorem mi_X10_keyword : .initialized (yX10_keyword : MethodName).cls ∈ bigw := (gb1 11 (by decide +kernel) (by decide +kernel))
theorem ms_X10_keyword : .instanceMethod yX10_keyword ∈ bigw ∧ .selects (yX10_keyword : MethodName).cls yX10_keyword yX10_keyword ∈ bigw := ⟨(gb7 229 (by decide +kernel) (by decide +kernel)), (gb0 71 (by decide +kernel) (by decide +kernel))⟩
theorem lkX10_290 : LKV RX10 290 yX10_keyword cX10_keyword 4 none 3 := ⟨⟨(gb7 227 (by decide +kernel) (by decide +kernel)), mc_X10_keyword, mi_X10_keyword, by decide, by decide +kernel⟩, ms_X10_keyword.1, ms_X10_keyword.2⟩
set_option maxRecDepth 100000 in
theorem mc_X10_isWord : .code yX10_isWord cX10_isWord 4 (some .boolean) ∈ bigw := (gb7 234 rfl (by decide +kernel))
theorem mi_X10_isWord : .initialized (yX10_isWord : MethodName).cls ∈ bigw := (gb1 11 (by decide +kernel) (by decide +kernel))
theorem ms_X10_isWord : .instanceMethod yX10_isWord ∈ bigw ∧ .selects (yX10_isWord : MethodName).cls yX10_isWord yX10_isWord ∈ bigw := ⟨(gb7 233 (by decide +kernel) (by decide +kernel)), (gb0 72 (by decide +kernel) (by decide +kernel))⟩
theorem lkX10_279 : LKV RX10 279 yX10_isWord cX10_isWord 4 (some .boolean) 1 := ⟨⟨(gb7 231 (by decide +kernel) (by decide +kernel)), mc_X10_isWord, mi_X10_isWord, by decide, by decide +kernel⟩, ms_X10_isWord.1, ms_X10_isWord.2⟩
theorem lkX10_258 : LKV RX10 258 ⟨"java/lang/String", "length", "()I"⟩ prog_22_method_54_code 1 (some .int) 0 := ⟨⟨(gb7 235 (by decide +kernel) (by decide +kernel)), mc_String_length, mi_String_length, by decide, by decide +kernel⟩, ms_String_length.1, ms_String_length.2⟩
theorem lkX10_262 : LKV RX10 262 ⟨"java/lang/String", "charAt", "(I)C"⟩ prog_22_method_56_code 2 (some .char) 1 := ⟨⟨(gb7 236 (by decide +kernel) (by decide +kernel)), mc_String_charAt, mi_String_charAt, by decide, by decide +kernel⟩, ms_String_charAt.1, ms_String_charAt.2⟩
set_option maxRecDepth 100000 in
theorem mc_X10_wrong : .code yX10_wrong cX10_wrong 2 none ∈ bigw := (gb8 0 rfl (by decide +kernel))
theorem mi_X10_wrong : .initialized (yX10_wrong : MethodName).cls ∈ bigw := (gb1 11 (by decide +kernel) (by decide +kernel))
theorem ms_X10_wrong : .instanceMethod yX10_wrong ∈ bigw ∧ .selects (yX10_wrong : MethodName).cls yX10_wrong yX10_wrong ∈ bigw := ⟨(gb7 239 (by decide +kernel) (by decide +kernel)), (gb0 73 (by decide +kernel) (by decide +kernel))⟩
theorem lkX10_269 : LKV RX10 269 yX10_wrong cX10_wrong 2 none 1 := ⟨⟨(gb7 237 (by decide +kernel) (by decide +kernel)), mc_X10_wrong, mi_X10_wrong, by decide, by decide +kernel⟩, ms_X10_wrong.1, ms_X10_wrong.2⟩
set_option maxRecDepth 100000 in
theorem mc_X10_goOn : .code yX10_goOn cX10_goOn 1 none ∈ bigw := (gb8 4 rfl (by decide +kernel))
theorem mi_X10_goOn : .initialized (yX10_goOn : MethodName).cls ∈ bigw := (gb1 11 (by decide +kernel) (by decide +kernel))
theorem ms_X10_goOn : .instanceMethod yX10_goOn ∈ bigw ∧ .selects (yX10_goOn : MethodName).cls yX10_goOn yX10_goOn ∈ bigw := ⟨(gb8 3 (by decide +kernel) (by decide +kernel)), (gb0 74 (by decide +kernel) (by decide +kernel))⟩
theorem lkX10_276 : LKV RX10 276 yX10_goOn cX10_goOn 1 none 0 := ⟨⟨(gb8 1 (by decide +kernel) (by decide +kernel)), mc_X10_goOn, mi_X10_goOn, by decide, by decide +kernel⟩, ms_X10_goOn.1, ms_X10_goOn.2⟩
set_option maxRecDepth 100000 in
theorem mc_X10_number : .code yX10_number cX10_number 6 (some .int) ∈ bigw := (gb8 8 rfl (by decide +kernel))
theorem mi_X10_number : .initialized (yX10_number : MethodName).cls ∈ bigw := (gb1 11 (by decide +kernel) (by decide +kernel))
theorem ms_X10_number : .instanceMethod yX10_number ∈ bigw ∧ .selects (yX10_number : MethodName).cls yX10_number yX10_number ∈ bigw := ⟨(gb8 7 (by decide +kernel) (by decide +kernel)), (gb0 75 (by decide +kernel) (by decide +kernel))⟩
theorem lkX10_283 : LKV RX10 283 yX10_number cX10_number 6 (some .int) 2 := ⟨⟨(gb8 5 (by decide +kernel) (by decide +kernel)), mc_X10_number, mi_X10_number, by decide, by decide +kernel⟩, ms_X10_number.1, ms_X10_number.2⟩
set_option maxRecDepth 100000 in
theorem mc_X10_see : .code yX10_see cX10_see 7 (some .int) ∈ bigw := (gb8 12 rfl (by decide +kernel))
theorem mi_X10_see : .initialized (yX10_see : MethodName).cls ∈ bigw := (gb1 11 (by decide +kernel) (by decide +kernel))
theorem ms_X10_see : .instanceMethod yX10_see ∈ bigw ∧ .selects (yX10_see : MethodName).cls yX10_see yX10_see ∈ bigw := ⟨(gb8 11 (by decide +kernel) (by decide +kernel)), (gb0 76 (by decide +kernel) (by decide +kernel))⟩
theorem lkX10_272 : LKV RX10 272 yX10_see cX10_see 7 (some .int) 2 := ⟨⟨(gb8 9 (by decide +kernel) (by decide +kernel)), mc_X10_see, mi_X10_see, by decide, by decide +kernel⟩, ms_X10_see.1, ms_X10_see.2⟩
set_option maxRecDepth 100000 in
theorem mc_X10_must : .code yX10_must cX10_must 2 none ∈ bigw := (gb8 17 rfl (by decide +kernel))
theorem mi_X10_must : .initialized (yX10_must : MethodName).cls ∈ bigw := (gb1 11 (by decide +kernel) (by decide +kernel))
theorem ms_X10_must : .instanceMethod yX10_must ∈ bigw ∧ .selects (yX10_must : MethodName).cls yX10_must yX10_must ∈ bigw := ⟨(gb8 16 (by decide +kernel) (by decide +kernel)), (gb0 77 (by decide +kernel) (by decide +kernel))⟩
theorem lkX10_296 : LKV RX10 296 yX10_must cX10_must 2 none 1 := ⟨⟨(gb8 14 (by decide +kernel) (by decide +kernel)), mc_X10_must, mi_X10_must, by decide, by decide +kernel⟩, ms_X10_must.1, ms_X10_must.2⟩
set_option maxRecDepth 100000 in
theorem mc_X10_readPump : .code yX10_readPump cX10_readPump 8 none ∈ bigw := (gb8 22 rfl (by decide +kernel))
theorem mi_X10_readPump : .initialized (yX10_readPump : MethodName).cls ∈ bigw := (gb1 11 (by decide +kernel) (by decide +kernel))
theorem ms_X10_readPump : .instanceMethod yX10_readPump ∈ bigw ∧ .selects (yX10_readPump : MethodName).cls yX10_readPump yX10_readPump ∈ bigw := ⟨(gb8 21 (by decide +kernel) (by decide +kernel)), (gb0 78 (by decide +kernel) (by decide +kernel))⟩
theorem lkX10_318 : LKV RX10 318 yX10_readPump cX10_readPump 8 none 0 := ⟨⟨(gb8 19 (by decide +kernel) (by decide +kernel)), mc_X10_readPump, mi_X10_readPump, by decide, by decide +kernel⟩, ms_X10_readPump.1, ms_X10_readPump.2⟩
set_option maxRecDepth 100000 in
theorem mc_X10_chamberHere : .code yX10_chamberHere cX10_chamberHere 1 (some .int) ∈ bigw := (gb8 26 rfl (by decide +kernel))
theorem mi_X10_chamberHere : .initialized (yX10_chamberHere : MethodName).cls ∈ bigw := (gb1 11 (by decide +kernel) (by decide +kernel))
theorem ms_X10_chamberHere : .instanceMethod yX10_chamberHere ∈ bigw ∧ .selects (yX10_chamberHere : MethodName).cls yX10_chamberHere yX10_chamberHere ∈ bigw := ⟨(gb8 25 (by decide +kernel) (by decide +kernel)), (gb0 79 (by decide +kernel) (by decide +kernel))⟩
theorem lkX10_302 : LKV RX10 302 yX10_chamberHere cX10_chamberHere 1 (some .int) 0 := ⟨⟨(gb8 23 (by decide +kernel) (by decide +kernel)), mc_X10_chamberHere, mi_X10_chamberHere, by decide, by decide +kernel⟩, ms_X10_chamberHere.1, ms_X10_chamberHere.2⟩
set_option maxRecDepth 100000 in
theorem mc_X10_otherHere : .code yX10_otherHere cX10_otherHere 3 (some .int) ∈ bigw := (gb8 30 rfl (by decide +kernel))
theorem mi_X10_otherHere : .initialized (yX10_otherHere : MethodName).cls ∈ bigw := (gb1 11 (by decide +kernel) (by decide +kernel))
theorem ms_X10_otherHere : .instanceMethod yX10_otherHere ∈ bigw ∧ .selects (yX10_otherHere : MethodName).cls yX10_otherHere yX10_otherHere ∈ bigw := ⟨(gb8 29 (by decide +kernel) (by decide +kernel)), (gb0 80 (by decide +kernel) (by decide +kernel))⟩
theorem lkX10_305 : LKV RX10 305 yX10_otherHere cX10_otherHere 3 (some .int) 1 := ⟨⟨(gb8 27 (by decide +kernel) (by decide +kernel)), mc_X10_otherHere, mi_X10_otherHere, by decide, by decide +kernel⟩, ms_X10_otherHere.1, ms_X10_otherHere.2⟩
set_option maxRecDepth 100000 in
theorem mc_X10_readValve : .code yX10_readValve cX10_readValve 6 none ∈ bigw := (gb8 36 rfl (by decide +kernel))
theorem mi_X10_readValve : .initialized (yX10_readValve : MethodName).cls ∈ bigw := (gb1 11 (by decide +kernel) (by decide +kernel))
theorem ms_X10_readValve : .instanceMethod yX10_readValve ∈ bigw ∧ .selects (yX10_readValve : MethodName).cls yX10_readValve yX10_readValve ∈ bigw := ⟨(gb8 35 (by decide +kernel) (by decide +kernel)), (gb0 81 (by decide +kernel) (by decide +kernel))⟩
theorem lkX10_321 : LKV RX10 321 yX10_readValve cX10_readValve 6 none 0 := ⟨⟨(gb8 33 (by decide +kernel) (by decide +kernel)), mc_X10_readValve, mi_X10_readValve, by decide, by decide +kernel⟩, ms_X10_readValve.1, ms_X10_readValve.2⟩
set_option maxRecDepth 100000 in
theorem mc_X10_readFlange : .code yX10_readFlange cX10_readFlange 4 none ∈ bigw := (gb8 40 rfl (by decide +kernel))
theorem mi_X10_readFlange : .initialized (yX10_readFlange : MethodName).cls ∈ bigw := (gb1 11 (by decide +kernel) (by decide +kernel))
theorem ms_X10_readFlange : .instanceMethod yX10_readFlange ∈ bigw ∧ .selects (yX10_readFlange : MethodName).cls yX10_readFlange yX10_readFlange ∈ bigw := ⟨(gb8 39 (by decide +kernel) (by decide +kernel)), (gb0 82 (by decide +kernel) (by decide +kernel))⟩
theorem lkX10_324 : LKV RX10 324 yX10_readFlange cX10_readFlange 4 none 0 := ⟨⟨(gb8 37 (by decide +kernel) (by decide +kernel)), mc_X10_readFlange, mi_X10_readFlange, by decide, by decide +kernel⟩, ms_X10_readFlange.1, ms_X10_readFlange.2⟩
set_option maxRecDepth 100000 in
theorem mc_X10_errorCode : .code yX10_errorCode cX10_errorCode 1 (some .int) ∈ bigw := (gb8 45 rfl (by decide +kernel))
theorem mi_X10_errorCode : .initialized (yX10_errorCode : MethodName).cls ∈ bigw := (gb1 11 (by decide +kernel) (by decide +kernel))
theorem ms_X10_errorCode : .instanceMethod yX10_errorCode ∈ bigw ∧ .selects (yX10_errorCode : MethodName).cls yX10_errorCode yX10_errorCode ∈ bigw := ⟨(gb8 43 (by decide +kernel) (by decide +kernel)), (gb8 44 (by decide +kernel) (by decide +kernel))⟩
theorem lkL_178 : LKV RL 178 yX10_errorCode cX10_errorCode 1 (some .int) 0 := ⟨⟨(gb8 42 (by decide +kernel) (by decide +kernel)), mc_X10_errorCode, mi_X10_errorCode, by decide, by decide +kernel⟩, ms_X10_errorCode.1, ms_X10_errorCode.2⟩
set_option maxRecDepth 100000 in
theorem mc_X10_errorPosition : .code yX10_errorPosition cX10_errorPosition 1 (some .int) ∈ bigw := (gb8 49 rfl (by decide +kernel))
theorem mi_X10_errorPosition : .initialized (yX10_errorPosition : MethodName).cls ∈ bigw := (gb1 11 (by decide +kernel) (by decide +kernel))
theorem ms_X10_errorPosition : .instanceMethod yX10_errorPosition ∈ bigw ∧ .selects (yX10_errorPosition : MethodName).cls yX10_errorPosition yX10_errorPosition ∈ bigw := ⟨(gb8 47 (by decide +kernel) (by decide +kernel)), (gb8 48 (by decide +kernel) (by decide +kernel))⟩
theorem lkL_182 : LKV RL 182 yX10_errorPosition cX10_errorPosition 1 (some .int) 0 := ⟨⟨(gb8 46 (by decide +kernel) (by decide +kernel)), mc_X10_errorPosition, mi_X10_errorPosition, by decide, by decide +kernel⟩, ms_X10_errorPosition.1, ms_X10_errorPosition.2⟩
set_option maxRecDepth 100000 in
theorem mc_X10_runRecipe : .code yX10_runRecipe cX10_runRecipe 5 (some .int) ∈ bigw := (gb8 53 rfl (by decide +kernel))
theorem mi_X10_runRecipe : .initialized (yX10_runRecipe : MethodName).cls ∈ bigw := (gb1 11 (by decide +kernel) (by decide +kernel))
theorem ms_X10_runRecipe : .instanceMethod yX10_runRecipe ∈ bigw ∧ .selects (yX10_runRecipe : MethodName).cls yX10_runRecipe yX10_runRecipe ∈ bigw := ⟨(gb8 51 (by decide +kernel) (by decide +kernel)), (gb8 52 (by decide +kernel) (by decide +kernel))⟩
theorem lkL_220 : LKV RL 220 yX10_runRecipe cX10_runRecipe 5 (some .int) 0 := ⟨⟨(gb8 50 (by decide +kernel) (by decide +kernel)), mc_X10_runRecipe, mi_X10_runRecipe, by decide, by decide +kernel⟩, ms_X10_runRecipe.1, ms_X10_runRecipe.2⟩
set_option maxRecDepth 100000 in
theorem mc_X10_goesThrough : .code yX10_goesThrough cX10_goesThrough 3 none ∈ bigw := (gb8 57 rfl (by decide +kernel))
theorem mi_X10_goesThrough : .initialized (yX10_goesThrough : MethodName).cls ∈ bigw := (gb1 11 (by decide +kernel) (by decide +kernel))
theorem ms_X10_goesThrough : .instanceMethod yX10_goesThrough ∈ bigw ∧ .selects (yX10_goesThrough : MethodName).cls yX10_goesThrough yX10_goesThrough ∈ bigw := ⟨(gb8 56 (by decide +kernel) (by decide +kernel)), (gb0 83 (by decide +kernel) (by decide +kernel))⟩
theorem lkX10_357 : LKV RX10 357 yX10_goesThrough cX10_goesThrough 3 none 0 := ⟨⟨(gb8 54 (by decide +kernel) (by decide +kernel)), mc_X10_goesThrough, mi_X10_goesThrough, by decide, by decide +kernel⟩, ms_X10_goesThrough.1, ms_X10_goesThrough.2⟩
set_option maxRecDepth 100000 in
theorem mc_X10_operation : .code yX10_operation cX10_operation 1 (some .int) ∈ bigw := (gb8 61 rfl (by decide +kernel))
theorem mi_X10_operation : .initialized (yX10_operation : MethodName).cls ∈ bigw := (gb1 11 (by decide +kernel) (by decide +kernel))
theorem ms_X10_operation : .instanceMethod yX10_operation ∈ bigw ∧ .selects (yX10_operation : MethodName).cls yX10_operation yX10_operation ∈ bigw := ⟨(gb8 60 (by decide +kernel) (by decide +kernel)), (gb0 84 (by decide +kernel) (by decide +kernel))⟩
theorem lkX10_349 : LKV RX10 349 yX10_operation cX10_operation 1 (some .int) 0 := ⟨⟨(gb8 58 (by decide +kernel) (by decide +kernel)), mc_X10_operation, mi_X10_operation, by decide, by decide +kernel⟩, ms_X10_operation.1, ms_X10_operation.2⟩
set_option maxRecDepth 100000 in
theorem mc_X10_does : .code yX10_does cX10_does 2 (some .boolean) ∈ bigw := (gb8 74 rfl (by decide +kernel))
theorem mi_X10_does : .initialized (yX10_does : MethodName).cls ∈ bigw := (gb1 11 (by decide +kernel) (by decide +kernel))
theorem ms_X10_does : .instanceMethod yX10_does ∈ bigw ∧ .selects (yX10_does : MethodName).cls yX10_does yX10_does ∈ bigw := ⟨(gb8 73 (by decide +kernel) (by decide +kernel)), (gb0 85 (by decide +kernel) (by decide +kernel))⟩
theorem lkX10_354 : LKV RX10 354 yX10_does cX10_does 2 (some .boolean) 1 := ⟨⟨(gb8 71 (by decide +kernel) (by decide +kernel)), mc_X10_does, mi_X10_does, by decide, by decide +kernel⟩, ms_X10_does.1, ms_X10_does.2⟩
set_option maxRecDepth 100000 in
theorem mc_X10_count : .code yX10_count cX10_count 2 (some .int) ∈ bigw := (gb8 78 rfl (by decide +kernel))
theorem mi_X10_count : .initialized (yX10_count : MethodName).cls ∈ bigw := (gb1 11 (by decide +kernel) (by decide +kernel))
theorem ms_X10_count : .instanceMethod yX10_count ∈ bigw ∧ .selects (yX10_count : MethodName).cls yX10_count yX10_count ∈ bigw := ⟨(gb8 76 (by decide +kernel) (by decide +kernel)), (gb8 77 (by decide +kernel) (by decide +kernel))⟩
theorem lkL_223 : LKV RL 223 yX10_count cX10_count 2 (some .int) 1 := ⟨⟨(gb8 75 (by decide +kernel) (by decide +kernel)), mc_X10_count, mi_X10_count, by decide, by decide +kernel⟩, ms_X10_count.1, ms_X10_count.2⟩
set_option maxRecDepth 100000 in
theorem mc_X10_chamber : .code yX10_chamber cX10_chamber 3 (some .int) ∈ bigw := (gb8 83 rfl (by decide +kernel))
theorem mi_X10_chamber : .initialized (yX10_chamber : MethodName).cls ∈ bigw := (gb1 11 (by decide +kernel) (by decide +kernel))
theorem ms_X10_chamber : .instanceMethod yX10_chamber ∈ bigw ∧ .selects (yX10_chamber : MethodName).cls yX10_chamber yX10_chamber ∈ bigw := ⟨(gb8 81 (by decide +kernel) (by decide +kernel)), (gb8 82 (by decide +kernel) (by decide +kernel))⟩
theorem lkL_226 : LKV RL 226 yX10_chamber cX10_chamber 3 (some .int) 2 := ⟨⟨(gb8 80 (by decide +kernel) (by decide +kernel)), mc_X10_chamber, mi_X10_chamber, by decide, by decide +kernel⟩, ms_X10_chamber.1, ms_X10_chamber.2⟩
set_option maxRecDepth 100000 in
theorem mc_X10_valvesOf : .code yX10_valvesOf cX10_valvesOf 4 (some .int) ∈ bigw := (gb8 88 rfl (by decide +kernel))
theorem mi_X10_valvesOf : .initialized (yX10_valvesOf : MethodName).cls ∈ bigw := (gb1 11 (by decide +kernel) (by decide +kernel))
theorem ms_X10_valvesOf : .instanceMethod yX10_valvesOf ∈ bigw ∧ .selects (yX10_valvesOf : MethodName).cls yX10_valvesOf yX10_valvesOf ∈ bigw := ⟨(gb8 87 (by decide +kernel) (by decide +kernel)), (gb0 86 (by decide +kernel) (by decide +kernel))⟩
theorem lkX10_364 : LKV RX10 364 yX10_valvesOf cX10_valvesOf 4 (some .int) 1 := ⟨⟨(gb8 85 (by decide +kernel) (by decide +kernel)), mc_X10_valvesOf, mi_X10_valvesOf, by decide, by decide +kernel⟩, ms_X10_valvesOf.1, ms_X10_valvesOf.2⟩
set_option maxRecDepth 100000 in
theorem mc_X10_pumpsOf : .code yX10_pumpsOf cX10_pumpsOf 4 (some .int) ∈ bigw := (gb8 92 rfl (by decide +kernel))
theorem mi_X10_pumpsOf : .initialized (yX10_pumpsOf : MethodName).cls ∈ bigw := (gb1 11 (by decide +kernel) (by decide +kernel))
theorem ms_X10_pumpsOf : .instanceMethod yX10_pumpsOf ∈ bigw ∧ .selects (yX10_pumpsOf : MethodName).cls yX10_pumpsOf yX10_pumpsOf ∈ bigw := ⟨(gb8 91 (by decide +kernel) (by decide +kernel)), (gb0 87 (by decide +kernel) (by decide +kernel))⟩
theorem lkX10_367 : LKV RX10 367 yX10_pumpsOf cX10_pumpsOf 4 (some .int) 1 := ⟨⟨(gb8 89 (by decide +kernel) (by decide +kernel)), mc_X10_pumpsOf, mi_X10_pumpsOf, by decide, by decide +kernel⟩, ms_X10_pumpsOf.1, ms_X10_pumpsOf.2⟩
set_option maxRecDepth 100000 in
theorem mc_X10_gas : .code yX10_gas cX10_gas 2 (some .long) ∈ bigw := (gb8 96 rfl (by decide +kernel))
theorem mi_X10_gas : .initialized (yX10_gas : MethodName).cls ∈ bigw := (gb1 11 (by decide +kernel) (by decide +kernel))
theorem ms_X10_gas : .instanceMethod yX10_gas ∈ bigw ∧ .selects (yX10_gas : MethodName).cls yX10_gas yX10_gas ∈ bigw := ⟨(gb8 94 (by decide +kernel) (by decide +kernel)), (gb8 95 (by decide +kernel) (by decide +kernel))⟩
theorem lkL_229 : LKV RL 229 yX10_gas cX10_gas 2 (some .long) 1 := ⟨⟨(gb8 93 (by decide +kernel) (by decide +kernel)), mc_X10_gas, mi_X10_gas, by decide, by decide +kernel⟩, ms_X10_gas.1, ms_X10_gas.2⟩
set_option maxRecDepth 100000 in
theorem mc_X10_pump : .code yX10_pump cX10_pump 3 (some .int) ∈ bigw := (gb8 100 rfl (by decide +kernel))
theorem mi_X10_pump : .initialized (yX10_pump : MethodName).cls ∈ bigw := (gb1 11 (by decide +kernel) (by decide +kernel))
theorem ms_X10_pump : .instanceMethod yX10_pump ∈ bigw ∧ .selects (yX10_pump : MethodName).cls yX10_pump yX10_pump ∈ bigw := ⟨(gb8 98 (by decide +kernel) (by decide +kernel)), (gb8 99 (by decide +kernel) (by decide +kernel))⟩
theorem lkL_232 : LKV RL 232 yX10_pump cX10_pump 3 (some .int) 2 := ⟨⟨(gb8 97 (by decide +kernel) (by decide +kernel)), mc_X10_pump, mi_X10_pump, by decide, by decide +kernel⟩, ms_X10_pump.1, ms_X10_pump.2⟩
set_option maxRecDepth 100000 in
theorem mc_X10_valve : .code yX10_valve cX10_valve 3 (some .int) ∈ bigw := (gb8 104 rfl (by decide +kernel))
theorem mi_X10_valve : .initialized (yX10_valve : MethodName).cls ∈ bigw := (gb1 11 (by decide +kernel) (by decide +kernel))
theorem ms_X10_valve : .instanceMethod yX10_valve ∈ bigw ∧ .selects (yX10_valve : MethodName).cls yX10_valve yX10_valve ∈ bigw := ⟨(gb8 102 (by decide +kernel) (by decide +kernel)), (gb8 103 (by decide +kernel) (by decide +kernel))⟩
theorem lkL_235 : LKV RL 235 yX10_valve cX10_valve 3 (some .int) 2 := ⟨⟨(gb8 101 (by decide +kernel) (by decide +kernel)), mc_X10_valve, mi_X10_valve, by decide, by decide +kernel⟩, ms_X10_valve.1, ms_X10_valve.2⟩
set_option maxRecDepth 100000 in
theorem mc_X10_flange : .code yX10_flange cX10_flange 3 (some .int) ∈ bigw := (gb8 108 rfl (by decide +kernel))
theorem mi_X10_flange : .initialized (yX10_flange : MethodName).cls ∈ bigw := (gb1 11 (by decide +kernel) (by decide +kernel))
theorem ms_X10_flange : .instanceMethod yX10_flange ∈ bigw ∧ .selects (yX10_flange : MethodName).cls yX10_flange yX10_flange ∈ bigw := ⟨(gb8 106 (by decide +kernel) (by decide +kernel)), (gb8 107 (by decide +kernel) (by decide +kernel))⟩
theorem lkL_238 : LKV RL 238 yX10_flange cX10_flange 3 (some .int) 2 := ⟨⟨(gb8 105 (by decide +kernel) (by decide +kernel)), mc_X10_flange, mi_X10_flange, by decide, by decide +kernel⟩, ms_X10_flange.1, ms_X10_flange.2⟩
set_option maxRecDepth 100000 in
theorem mc_X10_rise : .code yX10_rise cX10_rise 3 (some .int) ∈ bigw := (gb8 112 rfl (by decide +kernel))
theorem mi_X10_rise : .initialized (yX10_rise : MethodName).cls ∈ bigw := (gb1 11 (by decide +kernel) (by decide +kernel))
theorem ms_X10_rise : .instanceMethod yX10_rise ∈ bigw ∧ .selects (yX10_rise : MethodName).cls yX10_rise yX10_rise ∈ bigw := ⟨(gb8 110 (by decide +kernel) (by decide +kernel)), (gb8 111 (by decide +kernel) (by decide +kernel))⟩
theorem lkL_241 : LKV RL 241 yX10_rise cX10_rise 3 (some .int) 2 := ⟨⟨(gb8 109 (by decide +kernel) (by decide +kernel)), mc_X10_rise, mi_X10_rise, by decide, by decide +kernel⟩, ms_X10_rise.1, ms_X10_rise.2⟩
set_option maxRecDepth 100000 in
theorem mc_X10_isNoTest : .code yX10_isNoTest cX10_isNoTest 2 (some .boolean) ∈ bigw := (gb8 116 rfl (by decide +kernel))
theorem mi_X10_isNoTest : .initialized (yX10_isNoTest : MethodName).cls ∈ bigw := (gb1 11 (by decide +kernel) (by decide +kernel))
theorem ms_X10_isNoTest : .instanceMethod yX10_isNoTest ∈ bigw ∧ .selects (yX10_isNoTest : MethodName).cls yX10_isNoTest yX10_isNoTest ∈ bigw := ⟨(gb8 115 (by decide +kernel) (by decide +kernel)), (gb0 88 (by decide +kernel) (by decide +kernel))⟩
theorem lkX10_370 : LKV RX10 370 yX10_isNoTest cX10_isNoTest 2 (some .boolean) 1 := ⟨⟨(gb8 113 (by decide +kernel) (by decide +kernel)), mc_X10_isNoTest, mi_X10_isNoTest, by decide, by decide +kernel⟩, ms_X10_isNoTest.1, ms_X10_isNoTest.2⟩
set_option maxRecDepth 100000 in
theorem mc_X10_riseGas : .code yX10_riseGas cX10_riseGas 3 (some .long) ∈ bigw := (gb8 121 rfl (by decide +kernel))
theorem mi_X10_riseGas : .initialized (yX10_riseGas : MethodName).cls ∈ bigw := (gb1 11 (by decide +kernel) (by decide +kernel))
theorem ms_X10_riseGas : .instanceMethod yX10_riseGas ∈ bigw ∧ .selects (yX10_riseGas : MethodName).cls yX10_riseGas yX10_riseGas ∈ bigw := ⟨(gb8 119 (by decide +kernel) (by decide +kernel)), (gb8 120 (by decide +kernel) (by decide +kernel))⟩
theorem lkL_245 : LKV RL 245 yX10_riseGas cX10_riseGas 3 (some .long) 2 := ⟨⟨(gb8 118 (by decide +kernel) (by decide +kernel)), mc_X10_riseGas, mi_X10_riseGas, by decide, by decide +kernel⟩, ms_X10_riseGas.1, ms_X10_riseGas.2⟩
set_option maxRecDepth 100000 in
theorem mc_X10_mayOpen : .code yX10_mayOpen cX10_mayOpen 2 (some .int) ∈ bigw := (gb8 125 rfl (by decide +kernel))
theorem mi_X10_mayOpen : .initialized (yX10_mayOpen : MethodName).cls ∈ bigw := (gb1 11 (by decide +kernel) (by decide +kernel))
theorem ms_X10_mayOpen : .instanceMethod yX10_mayOpen ∈ bigw ∧ .selects (yX10_mayOpen : MethodName).cls yX10_mayOpen yX10_mayOpen ∈ bigw := ⟨(gb8 123 (by decide +kernel) (by decide +kernel)), (gb8 124 (by decide +kernel) (by decide +kernel))⟩
theorem lkL_248 : LKV RL 248 yX10_mayOpen cX10_mayOpen 2 (some .int) 1 := ⟨⟨(gb8 122 (by decide +kernel) (by decide +kernel)), mc_X10_mayOpen, mi_X10_mayOpen, by decide, by decide +kernel⟩, ms_X10_mayOpen.1, ms_X10_mayOpen.2⟩
set_option maxRecDepth 100000 in
theorem mc_X10_mayStart : .code yX10_mayStart cX10_mayStart 2 (some .int) ∈ bigw := (gb8 129 rfl (by decide +kernel))
theorem mi_X10_mayStart : .initialized (yX10_mayStart : MethodName).cls ∈ bigw := (gb1 11 (by decide +kernel) (by decide +kernel))
theorem ms_X10_mayStart : .instanceMethod yX10_mayStart ∈ bigw ∧ .selects (yX10_mayStart : MethodName).cls yX10_mayStart yX10_mayStart ∈ bigw := ⟨(gb8 127 (by decide +kernel) (by decide +kernel)), (gb8 128 (by decide +kernel) (by decide +kernel))⟩
theorem lkL_251 : LKV RL 251 yX10_mayStart cX10_mayStart 2 (some .int) 1 := ⟨⟨(gb8 126 (by decide +kernel) (by decide +kernel)), mc_X10_mayStart, mi_X10_mayStart, by decide, by decide +kernel⟩, ms_X10_mayStart.1, ms_X10_mayStart.2⟩
set_option maxRecDepth 100000 in
theorem mc_X10_joined : .code yX10_joined cX10_joined 2 (some .int) ∈ bigw := (gb8 133 rfl (by decide +kernel))
theorem mi_X10_joined : .initialized (yX10_joined : MethodName).cls ∈ bigw := (gb1 11 (by decide +kernel) (by decide +kernel))
theorem ms_X10_joined : .instanceMethod yX10_joined ∈ bigw ∧ .selects (yX10_joined : MethodName).cls yX10_joined yX10_joined ∈ bigw := ⟨(gb8 131 (by decide +kernel) (by decide +kernel)), (gb8 132 (by decide +kernel) (by decide +kernel))⟩
theorem lkL_254 : LKV RL 254 yX10_joined cX10_joined 2 (some .int) 1 := ⟨⟨(gb8 130 (by decide +kernel) (by decide +kernel)), mc_X10_joined, mi_X10_joined, by decide, by decide +kernel⟩, ms_X10_joined.1, ms_X10_joined.2⟩
set_option maxRecDepth 100000 in
theorem mc_X10_joinedWith : .code yX10_joinedWith cX10_joinedWith 4 (some .int) ∈ bigw := (gb8 137 rfl (by decide +kernel))
theorem mi_X10_joinedWith : .initialized (yX10_joinedWith : MethodName).cls ∈ bigw := (gb1 11 (by decide +kernel) (by decide +kernel))
theorem ms_X10_joinedWith : .instanceMethod yX10_joinedWith ∈ bigw ∧ .selects (yX10_joinedWith : MethodName).cls yX10_joinedWith yX10_joinedWith ∈ bigw := ⟨(gb8 136 (by decide +kernel) (by decide +kernel)), (gb0 89 (by decide +kernel) (by decide +kernel))⟩
theorem lkX10_379 : LKV RX10 379 yX10_joinedWith cX10_joinedWith 4 (some .int) 1 := ⟨⟨(gb8 134 (by decide +kernel) (by decide +kernel)), mc_X10_joinedWith, mi_X10_joinedWith, by decide, by decide +kernel⟩, ms_X10_joinedWith.1, ms_X10_joinedWith.2⟩
set_option maxRecDepth 100000 in
theorem mc_X10_beside : .code yX10_beside cX10_beside 7 (some .int) ∈ bigw := (gb8 141 rfl (by decide +kernel))
theorem mi_X10_beside : .initialized (yX10_beside : MethodName).cls ∈ bigw := (gb1 11 (by decide +kernel) (by decide +kernel))
theorem ms_X10_beside : .instanceMethod yX10_beside ∈ bigw ∧ .selects (yX10_beside : MethodName).cls yX10_beside yX10_beside ∈ bigw := ⟨(gb8 140 (by decide +kernel) (by decide +kernel)), (gb0 90 (by decide +kernel) (by decide +kernel))⟩
theorem lkX10_375 : LKV RX10 375 yX10_beside cX10_beside 7 (some .int) 2 := ⟨⟨(gb8 138 (by decide +kernel) (by decide +kernel)), mc_X10_beside, mi_X10_beside, by decide, by decide +kernel⟩, ms_X10_beside.1, ms_X10_beside.2⟩
set_option maxRecDepth 100000 in
theorem mc_X10_isVented : .code yX10_isVented cX10_isVented 2 (some .boolean) ∈ bigw := (gb8 145 rfl (by decide +kernel))
theorem mi_X10_isVented : .initialized (yX10_isVented : MethodName).cls ∈ bigw := (gb1 11 (by decide +kernel) (by decide +kernel))
theorem ms_X10_isVented : .instanceMethod yX10_isVented ∈ bigw ∧ .selects (yX10_isVented : MethodName).cls yX10_isVented yX10_isVented ∈ bigw := ⟨(gb8 143 (by decide +kernel) (by decide +kernel)), (gb8 144 (by decide +kernel) (by decide +kernel))⟩
theorem lkL_257 : LKV RL 257 yX10_isVented cX10_isVented 2 (some .boolean) 1 := ⟨⟨(gb8 142 (by decide +kernel) (by decide +kernel)), mc_X10_isVented, mi_X10_isVented, by decide, by decide +kernel⟩, ms_X10_isVented.1, ms_X10_isVented.2⟩
set_option maxRecDepth 100000 in
theorem mc_X10_leadsOut : .code yX10_leadsOut cX10_leadsOut 4 (some .boolean) ∈ bigw := (gb8 149 rfl (by decide +kernel))
theorem mi_X10_leadsOut : .initialized (yX10_leadsOut : MethodName).cls ∈ bigw := (gb1 11 (by decide +kernel) (by decide +kernel))
theorem ms_X10_leadsOut : .instanceMethod yX10_leadsOut ∈ bigw ∧ .selects (yX10_leadsOut : MethodName).cls yX10_leadsOut yX10_leadsOut ∈ bigw := ⟨(gb8 148 (by decide +kernel) (by decide +kernel)), (gb0 91 (by decide +kernel) (by decide +kernel))⟩
theorem lkX10_382 : LKV RX10 382 yX10_leadsOut cX10_leadsOut 4 (some .boolean) 2 := ⟨⟨(gb8 146 (by decide +kernel) (by decide +kernel)), mc_X10_leadsOut, mi_X10_leadsOut, by decide, by decide +kernel⟩, ms_X10_leadsOut.1, ms_X10_leadsOut.2⟩
set_option maxRecDepth 100000 in
theorem mc_X10_spread : .code yX10_spread cX10_spread 8 (some .int) ∈ bigw := (gb8 153 rfl (by decide +kernel))
theorem mi_X10_spread : .initialized (yX10_spread : MethodName).cls ∈ bigw := (gb1 11 (by decide +kernel) (by decide +kernel))
theorem ms_X10_spread : .instanceMethod yX10_spread ∈ bigw ∧ .selects (yX10_spread : MethodName).cls yX10_spread yX10_spread ∈ bigw := ⟨(gb8 151 (by decide +kernel) (by decide +kernel)), (gb8 152 (by decide +kernel) (by decide +kernel))⟩
theorem lkL_260 : LKV RL 260 yX10_spread cX10_spread 8 (some .int) 1 := ⟨⟨(gb8 150 (by decide +kernel) (by decide +kernel)), mc_X10_spread, mi_X10_spread, by decide, by decide +kernel⟩, ms_X10_spread.1, ms_X10_spread.2⟩
set_option maxRecDepth 100000 in
theorem mc_Math_max_l : .code Lib.MathLoose.max_long.x Lib.MathLoose.max_long.code 4 (some .long) ∈ bigw := (gb8 156 rfl (by decide +kernel))
theorem mi_Math_max_l : .initialized (Lib.MathLoose.max_long.x : MethodName).cls ∈ bigw := (gb1 17 (by decide +kernel) (by decide +kernel))
theorem ms_Math_max_l : .static Lib.MathLoose.max_long.x ∈ bigw := (gb8 155 (by decide +kernel) (by decide +kernel))
theorem lkX10_386 : LKS RX10 386 Lib.MathLoose.max_long.x Lib.MathLoose.max_long.code 4 (some .long) 2 := ⟨⟨(gb8 154 (by decide +kernel) (by decide +kernel)), mc_Math_max_l, mi_Math_max_l, by decide, by decide +kernel⟩, ms_Math_max_l⟩
set_option maxRecDepth 100000 in
theorem mc_X10_isIsolated : .code yX10_isIsolated cX10_isIsolated 2 (some .boolean) ∈ bigw := (gb8 160 rfl (by decide +kernel))
theorem mi_X10_isIsolated : .initialized (yX10_isIsolated : MethodName).cls ∈ bigw := (gb1 11 (by decide +kernel) (by decide +kernel))
theorem ms_X10_isIsolated : .instanceMethod yX10_isIsolated ∈ bigw ∧ .selects (yX10_isIsolated : MethodName).cls yX10_isIsolated yX10_isIsolated ∈ bigw := ⟨(gb8 158 (by decide +kernel) (by decide +kernel)), (gb8 159 (by decide +kernel) (by decide +kernel))⟩
theorem lkL_263 : LKV RL 263 yX10_isIsolated cX10_isIsolated 2 (some .boolean) 1 := ⟨⟨(gb8 157 (by decide +kernel) (by decide +kernel)), mc_X10_isIsolated, mi_X10_isIsolated, by decide, by decide +kernel⟩, ms_X10_isIsolated.1, ms_X10_isIsolated.2⟩
set_option maxRecDepth 100000 in
theorem mc_X10_fewestValves : .code yX10_fewestValves cX10_fewestValves 5 (some .int) ∈ bigw := (gb8 164 rfl (by decide +kernel))
theorem mi_X10_fewestValves : .initialized (yX10_fewestValves : MethodName).cls ∈ bigw := (gb1 11 (by decide +kernel) (by decide +kernel))
theorem ms_X10_fewestValves : .instanceMethod yX10_fewestValves ∈ bigw ∧ .selects (yX10_fewestValves : MethodName).cls yX10_fewestValves yX10_fewestValves ∈ bigw := ⟨(gb8 162 (by decide +kernel) (by decide +kernel)), (gb8 163 (by decide +kernel) (by decide +kernel))⟩
theorem lkL_266 : LKV RL 266 yX10_fewestValves cX10_fewestValves 5 (some .int) 2 := ⟨⟨(gb8 161 (by decide +kernel) (by decide +kernel)), mc_X10_fewestValves, mi_X10_fewestValves, by decide, by decide +kernel⟩, ms_X10_fewestValves.1, ms_X10_fewestValves.2⟩
set_option maxRecDepth 100000 in
theorem mc_X10_settled : .code yX10_settled cX10_settled 8 (some .int) ∈ bigw := (gb8 168 rfl (by decide +kernel))
theorem mi_X10_settled : .initialized (yX10_settled : MethodName).cls ∈ bigw := (gb1 11 (by decide +kernel) (by decide +kernel))
theorem ms_X10_settled : .instanceMethod yX10_settled ∈ bigw ∧ .selects (yX10_settled : MethodName).cls yX10_settled yX10_settled ∈ bigw := ⟨(gb8 166 (by decide +kernel) (by decide +kernel)), (gb8 167 (by decide +kernel) (by decide +kernel))⟩
theorem lkL_269 : LKV RL 269 yX10_settled cX10_settled 8 (some .int) 1 := ⟨⟨(gb8 165 (by decide +kernel) (by decide +kernel)), mc_X10_settled, mi_X10_settled, by decide, by decide +kernel⟩, ms_X10_settled.1, ms_X10_settled.2⟩
set_option maxRecDepth 100000 in
theorem mc_X10_openable : .code yX10_openable cX10_openable 3 (some .int) ∈ bigw := (gb8 172 rfl (by decide +kernel))
theorem mi_X10_openable : .initialized (yX10_openable : MethodName).cls ∈ bigw := (gb1 11 (by decide +kernel) (by decide +kernel))
theorem ms_X10_openable : .instanceMethod yX10_openable ∈ bigw ∧ .selects (yX10_openable : MethodName).cls yX10_openable yX10_openable ∈ bigw := ⟨(gb8 170 (by decide +kernel) (by decide +kernel)), (gb8 171 (by decide +kernel) (by decide +kernel))⟩
theorem lkL_273 : LKV RL 273 yX10_openable cX10_openable 3 (some .int) 0 := ⟨⟨(gb8 169 (by decide +kernel) (by decide +kernel)), mc_X10_openable, mi_X10_openable, by decide, by decide +kernel⟩, ms_X10_openable.1, ms_X10_openable.2⟩
set_option maxRecDepth 100000 in
theorem mc_X10_widest : .code yX10_widest cX10_widest 3 (some .int) ∈ bigw := (gb8 176 rfl (by decide +kernel))
theorem mi_X10_widest : .initialized (yX10_widest : MethodName).cls ∈ bigw := (gb1 11 (by decide +kernel) (by decide +kernel))
theorem ms_X10_widest : .instanceMethod yX10_widest ∈ bigw ∧ .selects (yX10_widest : MethodName).cls yX10_widest yX10_widest ∈ bigw := ⟨(gb8 174 (by decide +kernel) (by decide +kernel)), (gb8 175 (by decide +kernel) (by decide +kernel))⟩
theorem lkL_277 : LKV RL 277 yX10_widest cX10_widest 3 (some .int) 0 := ⟨⟨(gb8 173 (by decide +kernel) (by decide +kernel)), mc_X10_widest, mi_X10_widest, by decide, by decide +kernel⟩, ms_X10_widest.1, ms_X10_widest.2⟩
set_option maxRecDepth 100000 in
theorem mc_X10_pressureAfter : .code yX10_pressureAfter cX10_pressureAfter 5 (some .int) ∈ bigw := (gb8 180 rfl (by decide +kernel))
theorem mi_X10_pressureAfter : .initialized (yX10_pressureAfter : MethodName).cls ∈ bigw := (gb1 11 (by decide +kernel) (by decide +kernel))
theorem ms_X10_pressureAfter : .instanceMethod yX10_pressureAfter ∈ bigw ∧ .selects (yX10_pressureAfter : MethodName).cls yX10_pressureAfter yX10_pressureAfter ∈ bigw := ⟨(gb8 178 (by decide +kernel) (by decide +kernel)), (gb8 179 (by decide +kernel) (by decide +kernel))⟩
theorem lkL_280 : LKV RL 280 yX10_pressureAfter cX10_pressureAfter 5 (some .int) 2 := ⟨⟨(gb8 177 (by decide +kernel) (by decide +kernel)), mc_X10_pressureAfter, mi_X10_pressureAfter, by decide, by decide +kernel⟩, ms_X10_pressureAfter.1, ms_X10_pressureAfter.2⟩
set_option maxRecDepth 100000 in
theorem mc_X10_isNoLook : .code yX10_isNoLook cX10_isNoLook 3 (some .boolean) ∈ bigw := (gb8 184 rfl (by decide +kernel))
theorem mi_X10_isNoLook : .initialized (yX10_isNoLook : MethodName).cls ∈ bigw := (gb1 11 (by decide +kernel) (by decide +kernel))
theorem ms_X10_isNoLook : .instanceMethod yX10_isNoLook ∈ bigw ∧ .selects (yX10_isNoLook : MethodName).cls yX10_isNoLook yX10_isNoLook ∈ bigw := ⟨(gb8 183 (by decide +kernel) (by decide +kernel)), (gb0 92 (by decide +kernel) (by decide +kernel))⟩
theorem lkX10_389 : LKV RX10 389 yX10_isNoLook cX10_isNoLook 3 (some .boolean) 2 := ⟨⟨(gb8 181 (by decide +kernel) (by decide +kernel)), mc_X10_isNoLook, mi_X10_isNoLook, by decide, by decide +kernel⟩, ms_X10_isNoLook.1, ms_X10_isNoLook.2⟩
set_option maxRecDepth 100000 in
theorem mc_X10_think : .code yX10_think cX10_think 1 none ∈ bigw := (gb8 188 rfl (by decide +kernel))
theorem mi_X10_think : .initialized (yX10_think : MethodName).cls ∈ bigw := (gb1 11 (by decide +kernel) (by decide +kernel))
theorem ms_X10_think : .instanceMethod yX10_think ∈ bigw ∧ .selects (yX10_think : MethodName).cls yX10_think yX10_think ∈ bigw := ⟨(gb8 187 (by decide +kernel) (by decide +kernel)), (gb0 93 (by decide +kernel) (by decide +kernel))⟩
theorem lkX10_393 : LKV RX10 393 yX10_think cX10_think 1 none 0 := ⟨⟨(gb8 185 (by decide +kernel) (by decide +kernel)), mc_X10_think, mi_X10_think, by decide, by decide +kernel⟩, ms_X10_think.1, ms_X10_think.2⟩
set_option maxRecDepth 100000 in
theorem mc_X10_pressureIn : .code yX10_pressureIn cX10_pressureIn 4 (some .long) ∈ bigw := (gb8 192 rfl (by decide +kernel))
theorem mi_X10_pressureIn : .initialized (yX10_pressureIn : MethodName).cls ∈ bigw := (gb1 11 (by decide +kernel) (by decide +kernel))
theorem ms_X10_pressureIn : .instanceMethod yX10_pressureIn ∈ bigw ∧ .selects (yX10_pressureIn : MethodName).cls yX10_pressureIn yX10_pressureIn ∈ bigw := ⟨(gb8 191 (by decide +kernel) (by decide +kernel)), (gb0 94 (by decide +kernel) (by decide +kernel))⟩
theorem lkX10_396 : LKV RX10 396 yX10_pressureIn cX10_pressureIn 4 (some .long) 2 := ⟨⟨(gb8 189 (by decide +kernel) (by decide +kernel)), mc_X10_pressureIn, mi_X10_pressureIn, by decide, by decide +kernel⟩, ms_X10_pressureIn.1, ms_X10_pressureIn.2⟩
set_option maxRecDepth 100000 in
theorem mc_X10_wake : .code yX10_wake cX10_wake 1 none ∈ bigw := (gb8 196 rfl (by decide +kernel))
theorem mi_X10_wake : .initialized (yX10_wake : MethodName).cls ∈ bigw := (gb1 11 (by decide +kernel) (by decide +kernel))
theorem ms_X10_wake : .instanceMethod yX10_wake ∈ bigw ∧ .selects (yX10_wake : MethodName).cls yX10_wake yX10_wake ∈ bigw := ⟨(gb8 195 (by decide +kernel) (by decide +kernel)), (gb0 95 (by decide +kernel) (by decide +kernel))⟩
theorem lkX10_399 : LKV RX10 399 yX10_wake cX10_wake 1 none 0 := ⟨⟨(gb8 193 (by decide +kernel) (by decide +kernel)), mc_X10_wake, mi_X10_wake, by decide, by decide +kernel⟩, ms_X10_wake.1, ms_X10_wake.2⟩
set_option maxRecDepth 100000 in
theorem mc_X10_lowest : .code yX10_lowest cX10_lowest 6 (some .int) ∈ bigw := (gb8 200 rfl (by decide +kernel))
theorem mi_X10_lowest : .initialized (yX10_lowest : MethodName).cls ∈ bigw := (gb1 11 (by decide +kernel) (by decide +kernel))
theorem ms_X10_lowest : .instanceMethod yX10_lowest ∈ bigw ∧ .selects (yX10_lowest : MethodName).cls yX10_lowest yX10_lowest ∈ bigw := ⟨(gb8 198 (by decide +kernel) (by decide +kernel)), (gb8 199 (by decide +kernel) (by decide +kernel))⟩
theorem lkL_283 : LKV RL 283 yX10_lowest cX10_lowest 6 (some .int) 2 := ⟨⟨(gb8 197 (by decide +kernel) (by decide +kernel)), mc_X10_lowest, mi_X10_lowest, by decide, by decide +kernel⟩, ms_X10_lowest.1, ms_X10_lowest.2⟩
set_option maxRecDepth 100000 in
theorem mc_X10_ticksTo : .code yX10_ticksTo cX10_ticksTo 4 (some .int) ∈ bigw := (gb8 204 rfl (by decide +kernel))
theorem mi_X10_ticksTo : .initialized (yX10_ticksTo : MethodName).cls ∈ bigw := (gb1 11 (by decide +kernel) (by decide +kernel))
theorem ms_X10_ticksTo : .instanceMethod yX10_ticksTo ∈ bigw ∧ .selects (yX10_ticksTo : MethodName).cls yX10_ticksTo yX10_ticksTo ∈ bigw := ⟨(gb8 202 (by decide +kernel) (by decide +kernel)), (gb8 203 (by decide +kernel) (by decide +kernel))⟩
theorem lkL_286 : LKV RL 286 yX10_ticksTo cX10_ticksTo 4 (some .int) 2 := ⟨⟨(gb8 201 (by decide +kernel) (by decide +kernel)), mc_X10_ticksTo, mi_X10_ticksTo, by decide, by decide +kernel⟩, ms_X10_ticksTo.1, ms_X10_ticksTo.2⟩
set_option maxRecDepth 100000 in
theorem mc_X10_tripsIn : .code yX10_tripsIn cX10_tripsIn 3 (some .int) ∈ bigw := (gb8 208 rfl (by decide +kernel))
theorem mi_X10_tripsIn : .initialized (yX10_tripsIn : MethodName).cls ∈ bigw := (gb1 11 (by decide +kernel) (by decide +kernel))
theorem ms_X10_tripsIn : .instanceMethod yX10_tripsIn ∈ bigw ∧ .selects (yX10_tripsIn : MethodName).cls yX10_tripsIn yX10_tripsIn ∈ bigw := ⟨(gb8 206 (by decide +kernel) (by decide +kernel)), (gb8 207 (by decide +kernel) (by decide +kernel))⟩
theorem lkL_289 : LKV RL 289 yX10_tripsIn cX10_tripsIn 3 (some .int) 1 := ⟨⟨(gb8 205 (by decide +kernel) (by decide +kernel)), mc_X10_tripsIn, mi_X10_tripsIn, by decide, by decide +kernel⟩, ms_X10_tripsIn.1, ms_X10_tripsIn.2⟩
set_option maxRecDepth 100000 in
theorem mc_X10_meanPressure : .code yX10_meanPressure cX10_meanPressure 6 (some .double) ∈ bigw := (gb8 212 rfl (by decide +kernel))
theorem mi_X10_meanPressure : .initialized (yX10_meanPressure : MethodName).cls ∈ bigw := (gb1 11 (by decide +kernel) (by decide +kernel))
theorem ms_X10_meanPressure : .instanceMethod yX10_meanPressure ∈ bigw ∧ .selects (yX10_meanPressure : MethodName).cls yX10_meanPressure yX10_meanPressure ∈ bigw := ⟨(gb8 210 (by decide +kernel) (by decide +kernel)), (gb8 211 (by decide +kernel) (by decide +kernel))⟩
theorem lkL_293 : LKV RL 293 yX10_meanPressure cX10_meanPressure 6 (some .double) 2 := ⟨⟨(gb8 209 (by decide +kernel) (by decide +kernel)), mc_X10_meanPressure, mi_X10_meanPressure, by decide, by decide +kernel⟩, ms_X10_meanPressure.1, ms_X10_meanPressure.2⟩
set_option maxRecDepth 100000 in
theorem mc_X10_bestPump : .code yX10_bestPump cX10_bestPump 10 (some .int) ∈ bigw := (gb8 216 rfl (by decide +kernel))
theorem mi_X10_bestPump : .initialized (yX10_bestPump : MethodName).cls ∈ bigw := (gb1 11 (by decide +kernel) (by decide +kernel))
theorem ms_X10_bestPump : .instanceMethod yX10_bestPump ∈ bigw ∧ .selects (yX10_bestPump : MethodName).cls yX10_bestPump yX10_bestPump ∈ bigw := ⟨(gb8 214 (by decide +kernel) (by decide +kernel)), (gb8 215 (by decide +kernel) (by decide +kernel))⟩
theorem lkL_296 : LKV RL 296 yX10_bestPump cX10_bestPump 10 (some .int) 2 := ⟨⟨(gb8 213 (by decide +kernel) (by decide +kernel)), mc_X10_bestPump, mi_X10_bestPump, by decide, by decide +kernel⟩, ms_X10_bestPump.1, ms_X10_bestPump.2⟩
set_option maxRecDepth 100000 in
theorem mc_X10_bestValve : .code yX10_bestValve cX10_bestValve 10 (some .int) ∈ bigw := (gb8 220 rfl (by decide +kernel))
theorem mi_X10_bestValve : .initialized (yX10_bestValve : MethodName).cls ∈ bigw := (gb1 11 (by decide +kernel) (by decide +kernel))
theorem ms_X10_bestValve : .instanceMethod yX10_bestValve ∈ bigw ∧ .selects (yX10_bestValve : MethodName).cls yX10_bestValve yX10_bestValve ∈ bigw := ⟨(gb8 218 (by decide +kernel) (by decide +kernel)), (gb8 219 (by decide +kernel) (by decide +kernel))⟩
theorem lkL_299 : LKV RL 299 yX10_bestValve cX10_bestValve 10 (some .int) 2 := ⟨⟨(gb8 217 (by decide +kernel) (by decide +kernel)), mc_X10_bestValve, mi_X10_bestValve, by decide, by decide +kernel⟩, ms_X10_bestValve.1, ms_X10_bestValve.2⟩
set_option maxRecDepth 100000 in
theorem mc_X10_spray : .code yX10_spray cX10_spray 2 (some .int) ∈ bigw := (gb8 224 rfl (by decide +kernel))
theorem mi_X10_spray : .initialized (yX10_spray : MethodName).cls ∈ bigw := (gb1 11 (by decide +kernel) (by decide +kernel))
theorem ms_X10_spray : .instanceMethod yX10_spray ∈ bigw ∧ .selects (yX10_spray : MethodName).cls yX10_spray yX10_spray ∈ bigw := ⟨(gb8 222 (by decide +kernel) (by decide +kernel)), (gb8 223 (by decide +kernel) (by decide +kernel))⟩
theorem lkL_302 : LKV RL 302 yX10_spray cX10_spray 2 (some .int) 1 := ⟨⟨(gb8 221 (by decide +kernel) (by decide +kernel)), mc_X10_spray, mi_X10_spray, by decide, by decide +kernel⟩, ms_X10_spray.1, ms_X10_spray.2⟩
set_option maxRecDepth 100000 in
theorem mc_X10_leaksOf : .code yX10_leaksOf cX10_leaksOf 5 (some .long) ∈ bigw := (gb8 228 rfl (by decide +kernel))
theorem mi_X10_leaksOf : .initialized (yX10_leaksOf : MethodName).cls ∈ bigw := (gb1 11 (by decide +kernel) (by decide +kernel))
theorem ms_X10_leaksOf : .instanceMethod yX10_leaksOf ∈ bigw ∧ .selects (yX10_leaksOf : MethodName).cls yX10_leaksOf yX10_leaksOf ∈ bigw := ⟨(gb8 227 (by decide +kernel) (by decide +kernel)), (gb0 96 (by decide +kernel) (by decide +kernel))⟩
theorem lkX10_402 : LKV RX10 402 yX10_leaksOf cX10_leaksOf 5 (some .long) 1 := ⟨⟨(gb8 225 (by decide +kernel) (by decide +kernel)), mc_X10_leaksOf, mi_X10_leaksOf, by decide, by decide +kernel⟩, ms_X10_leaksOf.1, ms_X10_leaksOf.2⟩
set_option maxRecDepth 100000 in
theorem mc_X10_sprays : .code yX10_sprays cX10_sprays 3 (some .int) ∈ bigw := (gb8 232 rfl (by decide +kernel))
theorem mi_X10_sprays : .initialized (yX10_sprays : MethodName).cls ∈ bigw := (gb1 11 (by decide +kernel) (by decide +kernel))
theorem ms_X10_sprays : .instanceMethod yX10_sprays ∈ bigw ∧ .selects (yX10_sprays : MethodName).cls yX10_sprays yX10_sprays ∈ bigw := ⟨(gb8 230 (by decide +kernel) (by decide +kernel)), (gb8 231 (by decide +kernel) (by decide +kernel))⟩
theorem lkL_305 : LKV RL 305 yX10_sprays cX10_sprays 3 (some .int) 2 := ⟨⟨(gb8 229 (by decide +kernel) (by decide +kernel)), mc_X10_sprays, mi_X10_sprays, by decide, by decide +kernel⟩, ms_X10_sprays.1, ms_X10_sprays.2⟩
set_option maxRecDepth 100000 in
theorem mc_X10_isNoHunt : .code yX10_isNoHunt cX10_isNoHunt 5 (some .boolean) ∈ bigw := (gb8 236 rfl (by decide +kernel))
theorem mi_X10_isNoHunt : .initialized (yX10_isNoHunt : MethodName).cls ∈ bigw := (gb1 11 (by decide +kernel) (by decide +kernel))
theorem ms_X10_isNoHunt : .instanceMethod yX10_isNoHunt ∈ bigw ∧ .selects (yX10_isNoHunt : MethodName).cls yX10_isNoHunt yX10_isNoHunt ∈ bigw := ⟨(gb8 235 (by decide +kernel) (by decide +kernel)), (gb0 97 (by decide +kernel) (by decide +kernel))⟩
theorem lkX10_421 : LKV RX10 421 yX10_isNoHunt cX10_isNoHunt 5 (some .boolean) 2 := ⟨⟨(gb8 233 (by decide +kernel) (by decide +kernel)), mc_X10_isNoHunt, mi_X10_isNoHunt, by decide, by decide +kernel⟩, ms_X10_isNoHunt.1, ms_X10_isNoHunt.2⟩
set_option maxRecDepth 100000 in
theorem mc_X10_hunt : .code yX10_hunt cX10_hunt 4 none ∈ bigw := (gb9 0 rfl (by decide +kernel))
theorem mi_X10_hunt : .initialized (yX10_hunt : MethodName).cls ∈ bigw := (gb1 11 (by decide +kernel) (by decide +kernel))
theorem ms_X10_hunt : .instanceMethod yX10_hunt ∈ bigw ∧ .selects (yX10_hunt : MethodName).cls yX10_hunt yX10_hunt ∈ bigw := ⟨(gb8 239 (by decide +kernel) (by decide +kernel)), (gb0 98 (by decide +kernel) (by decide +kernel))⟩
theorem lkX10_417 : LKV RX10 417 yX10_hunt cX10_hunt 4 none 2 := ⟨⟨(gb8 237 (by decide +kernel) (by decide +kernel)), mc_X10_hunt, mi_X10_hunt, by decide, by decide +kernel⟩, ms_X10_hunt.1, ms_X10_hunt.2⟩
set_option maxRecDepth 100000 in
theorem mc_X10_sizeOf : .code yX10_sizeOf cX10_sizeOf 3 (some .int) ∈ bigw := (gb9 3 rfl (by decide +kernel))
theorem mi_X10_sizeOf : .initialized (yX10_sizeOf : MethodName).cls ∈ bigw := (gb1 11 (by decide +kernel) (by decide +kernel))
theorem ms_X10_sizeOf : .static yX10_sizeOf ∈ bigw := (gb9 2 (by decide +kernel) (by decide +kernel))
theorem lkX10_405 : LKS RX10 405 yX10_sizeOf cX10_sizeOf 3 (some .int) 1 := ⟨⟨(gb9 1 (by decide +kernel) (by decide +kernel)), mc_X10_sizeOf, mi_X10_sizeOf, by decide, by decide +kernel⟩, ms_X10_sizeOf⟩
set_option maxRecDepth 100000 in
theorem mc_X10_firstOnes : .code yX10_firstOnes cX10_firstOnes 4 (some .int) ∈ bigw := (gb9 6 rfl (by decide +kernel))
theorem mi_X10_firstOnes : .initialized (yX10_firstOnes : MethodName).cls ∈ bigw := (gb1 11 (by decide +kernel) (by decide +kernel))
theorem ms_X10_firstOnes : .static yX10_firstOnes ∈ bigw := (gb9 5 (by decide +kernel) (by decide +kernel))
theorem lkX10_414 : LKS RX10 414 yX10_firstOnes cX10_firstOnes 4 (some .int) 2 := ⟨⟨(gb9 4 (by decide +kernel) (by decide +kernel)), mc_X10_firstOnes, mi_X10_firstOnes, by decide, by decide +kernel⟩, ms_X10_firstOnes⟩
set_option maxRecDepth 100000 in
theorem mc_X10_found : .code yX10_found cX10_found 3 (some .int) ∈ bigw := (gb9 10 rfl (by decide +kernel))
theorem mi_X10_found : .initialized (yX10_found : MethodName).cls ∈ bigw := (gb1 11 (by decide +kernel) (by decide +kernel))
theorem ms_X10_found : .instanceMethod yX10_found ∈ bigw ∧ .selects (yX10_found : MethodName).cls yX10_found yX10_found ∈ bigw := ⟨(gb9 8 (by decide +kernel) (by decide +kernel)), (gb9 9 (by decide +kernel) (by decide +kernel))⟩
theorem lkL_308 : LKV RL 308 yX10_found cX10_found 3 (some .int) 2 := ⟨⟨(gb9 7 (by decide +kernel) (by decide +kernel)), mc_X10_found, mi_X10_found, by decide, by decide +kernel⟩, ms_X10_found.1, ms_X10_found.2⟩
set_option maxRecDepth 100000 in
theorem mc_X10_worstFlange : .code yX10_worstFlange cX10_worstFlange 3 (some .int) ∈ bigw := (gb9 14 rfl (by decide +kernel))
theorem mi_X10_worstFlange : .initialized (yX10_worstFlange : MethodName).cls ∈ bigw := (gb1 11 (by decide +kernel) (by decide +kernel))
theorem ms_X10_worstFlange : .instanceMethod yX10_worstFlange ∈ bigw ∧ .selects (yX10_worstFlange : MethodName).cls yX10_worstFlange yX10_worstFlange ∈ bigw := ⟨(gb9 12 (by decide +kernel) (by decide +kernel)), (gb9 13 (by decide +kernel) (by decide +kernel))⟩
theorem lkL_311 : LKV RL 311 yX10_worstFlange cX10_worstFlange 3 (some .int) 0 := ⟨⟨(gb9 11 (by decide +kernel) (by decide +kernel)), mc_X10_worstFlange, mi_X10_worstFlange, by decide, by decide +kernel⟩, ms_X10_worstFlange.1, ms_X10_worstFlange.2⟩
set_option maxRecDepth 100000 in
theorem mc_X10_writeReport : .code yX10_writeReport cX10_writeReport 2 (some .int) ∈ bigw := (gb9 18 rfl (by decide +kernel))
theorem mi_X10_writeReport : .initialized (yX10_writeReport : MethodName).cls ∈ bigw := (gb1 11 (by decide +kernel) (by decide +kernel))
theorem ms_X10_writeReport : .instanceMethod yX10_writeReport ∈ bigw ∧ .selects (yX10_writeReport : MethodName).cls yX10_writeReport yX10_writeReport ∈ bigw := ⟨(gb9 16 (by decide +kernel) (by decide +kernel)), (gb9 17 (by decide +kernel) (by decide +kernel))⟩
theorem lkL_315 : LKV RL 315 yX10_writeReport cX10_writeReport 2 (some .int) 0 := ⟨⟨(gb9 15 (by decide +kernel) (by decide +kernel)), mc_X10_writeReport, mi_X10_writeReport, by decide, by decide +kernel⟩, ms_X10_writeReport.1, ms_X10_writeReport.2⟩
set_option maxRecDepth 100000 in
theorem mc_X10_printChamber : .code yX10_printChamber cX10_printChamber 4 none ∈ bigw := (gb9 22 rfl (by decide +kernel))
theorem mi_X10_printChamber : .initialized (yX10_printChamber : MethodName).cls ∈ bigw := (gb1 11 (by decide +kernel) (by decide +kernel))
theorem ms_X10_printChamber : .instanceMethod yX10_printChamber ∈ bigw ∧ .selects (yX10_printChamber : MethodName).cls yX10_printChamber yX10_printChamber ∈ bigw := ⟨(gb9 21 (by decide +kernel) (by decide +kernel)), (gb0 99 (by decide +kernel) (by decide +kernel))⟩
theorem lkX10_440 : LKV RX10 440 yX10_printChamber cX10_printChamber 4 none 1 := ⟨⟨(gb9 19 (by decide +kernel) (by decide +kernel)), mc_X10_printChamber, mi_X10_printChamber, by decide, by decide +kernel⟩, ms_X10_printChamber.1, ms_X10_printChamber.2⟩
set_option maxRecDepth 100000 in
theorem mc_X10_print : .code yX10_print cX10_print 2 none ∈ bigw := (gb9 27 rfl (by decide +kernel))
theorem mi_X10_print : .initialized (yX10_print : MethodName).cls ∈ bigw := (gb1 11 (by decide +kernel) (by decide +kernel))
theorem ms_X10_print : .instanceMethod yX10_print ∈ bigw ∧ .selects (yX10_print : MethodName).cls yX10_print yX10_print ∈ bigw := ⟨(gb9 26 (by decide +kernel) (by decide +kernel)), (gb0 100 (by decide +kernel) (by decide +kernel))⟩
theorem lkX10_431 : LKV RX10 431 yX10_print cX10_print 2 none 1 := ⟨⟨(gb9 24 (by decide +kernel) (by decide +kernel)), mc_X10_print, mi_X10_print, by decide, by decide +kernel⟩, ms_X10_print.1, ms_X10_print.2⟩
set_option maxRecDepth 100000 in
theorem mc_X10_printNumber : .code yX10_printNumber cX10_printNumber 3 none ∈ bigw := (gb9 31 rfl (by decide +kernel))
theorem mi_X10_printNumber : .initialized (yX10_printNumber : MethodName).cls ∈ bigw := (gb1 11 (by decide +kernel) (by decide +kernel))
theorem ms_X10_printNumber : .instanceMethod yX10_printNumber ∈ bigw ∧ .selects (yX10_printNumber : MethodName).cls yX10_printNumber yX10_printNumber ∈ bigw := ⟨(gb9 30 (by decide +kernel) (by decide +kernel)), (gb0 101 (by decide +kernel) (by decide +kernel))⟩
theorem lkX10_427 : LKV RX10 427 yX10_printNumber cX10_printNumber 3 none 1 := ⟨⟨(gb9 28 (by decide +kernel) (by decide +kernel)), mc_X10_printNumber, mi_X10_printNumber, by decide, by decide +kernel⟩, ms_X10_printNumber.1, ms_X10_printNumber.2⟩
set_option maxRecDepth 100000 in
theorem mc_X10_printMark : .code yX10_printMark cX10_printMark 3 none ∈ bigw := (gb9 35 rfl (by decide +kernel))
theorem mi_X10_printMark : .initialized (yX10_printMark : MethodName).cls ∈ bigw := (gb1 11 (by decide +kernel) (by decide +kernel))
theorem ms_X10_printMark : .instanceMethod yX10_printMark ∈ bigw ∧ .selects (yX10_printMark : MethodName).cls yX10_printMark yX10_printMark ∈ bigw := ⟨(gb9 34 (by decide +kernel) (by decide +kernel)), (gb0 102 (by decide +kernel) (by decide +kernel))⟩
theorem lkX10_436 : LKV RX10 436 yX10_printMark cX10_printMark 3 none 2 := ⟨⟨(gb9 32 (by decide +kernel) (by decide +kernel)), mc_X10_printMark, mi_X10_printMark, by decide, by decide +kernel⟩, ms_X10_printMark.1, ms_X10_printMark.2⟩
set_option maxRecDepth 100000 in
theorem mc_X10_reportByte : .code yX10_reportByte cX10_reportByte 2 (some .int) ∈ bigw := (gb9 39 rfl (by decide +kernel))
theorem mi_X10_reportByte : .initialized (yX10_reportByte : MethodName).cls ∈ bigw := (gb1 11 (by decide +kernel) (by decide +kernel))
theorem ms_X10_reportByte : .instanceMethod yX10_reportByte ∈ bigw ∧ .selects (yX10_reportByte : MethodName).cls yX10_reportByte yX10_reportByte ∈ bigw := ⟨(gb9 37 (by decide +kernel) (by decide +kernel)), (gb9 38 (by decide +kernel) (by decide +kernel))⟩
theorem lkL_318 : LKV RL 318 yX10_reportByte cX10_reportByte 2 (some .int) 1 := ⟨⟨(gb9 36 (by decide +kernel) (by decide +kernel)), mc_X10_reportByte, mi_X10_reportByte, by decide, by decide +kernel⟩, ms_X10_reportByte.1, ms_X10_reportByte.2⟩
theorem lkX3_104 : LKN RX3 104 yX9_isTicks "VacuumSequencer" cX9_isTicks 1 (some .boolean) 1 := ⟨(gt3 198 (by decide +kernel)), mc_X9_isTicks, mi_X9_isTicks, by decide, by decide +kernel, ms_X9_isTicks⟩
theorem lkX3_116 : LKN RX3 116 yX9_isPressure "VacuumSequencer" cX9_isPressure 1 (some .boolean) 1 := ⟨(gt3 239 (by decide +kernel)), mc_X9_isPressure, mi_X9_isPressure, by decide, by decide +kernel, ms_X9_isPressure⟩
theorem lkX3_128 : LKN RX3 128 yX9_isTestTicks "VacuumSequencer" cX9_isTestTicks 1 (some .boolean) 1 := ⟨(gt4 12 (by decide +kernel)), mc_X9_isTestTicks, mi_X9_isTestTicks, by decide, by decide +kernel, ms_X9_isTestTicks⟩
theorem lkX4_31 : LKN RX4 31 yX9_has "VacuumSequencer" cX9_has 2 (some .boolean) 2 := ⟨(gt4 72 (by decide +kernel)), mc_X9_has, mi_X9_has, by decide, by decide +kernel, ms_X9_has⟩
theorem lkX1_76 : LKN RX1 76 yX9_has "VacuumSequencer" cX9_has 2 (some .boolean) 2 := ⟨(gt5 165 (by decide +kernel)), mc_X9_has, mi_X9_has, by decide, by decide +kernel, ms_X9_has⟩
theorem in_t {ws : List Cond} (ps : List Nat) (hp : ws = ps.filterMap (fun i => lw_tbl[i]?)) (h : ws.all (fun w => goodWord w || match w with | .castable _ _ => true | .declares _ => true | _ => false) = true) : ∀ w ∈ ws, w ∈ bigw ∨ (∃ C T, w = .castable C T ∧ w ∈ lw_tbl) ∨ ∃ y, w = .declares y ∧ w ∈ lw_tbl := by
  intro w hw
  have h1 := List.all_eq_true.mp h w hw
  rw [hp] at hw
  obtain ⟨i, -, hi⟩ := List.mem_filterMap.mp hw
  have hm := List.mem_of_getElem? hi
  simp only [Bool.or_eq_true] at h1
  rcases h1 with g | g
  · exact Or.inl (List.mem_filter.mpr ⟨hm, g⟩)
  · refine Or.inr ?_
    cases w <;> first | exact Or.inl ⟨_, _, rfl, hm⟩ | exact Or.inr ⟨_, rfl, hm⟩ | cases g
set_option maxRecDepth 100000 in
theorem ltX9_0 : LKT RX9 96 98 0 := ⟨(gb4 95 (by decide +kernel) (by decide +kernel)), (gb1 15 (by decide +kernel) (by decide +kernel)), in_t [115, 940, 949, 954, 957, 959, 941, 942, 134, 135, 943, 948, 955, 971, 930, 972, 932, 973, 934, 944, 946, 936, 961, 962, 963, 964, 921, 964, 965, 966, 967, 923, 967, 968, 969, 941, 925, 960, 919, 920, 927, 928, 929, 931, 933, 935, 970, 938, 937] (by decide +kernel) (by decide +kernel)⟩
set_option maxRecDepth 100000 in
theorem ltX9_1 : LKT RX9 103 105 1 := ⟨(gb4 171 (by decide +kernel) (by decide +kernel)), (gb1 16 (by decide +kernel) (by decide +kernel)), in_t [115, 940, 949, 954, 957, 959, 941, 942, 134, 135, 943, 948, 955, 971, 930, 972, 932, 973, 934, 944, 946, 936, 1004, 1005, 1006, 964, 921, 964, 965, 966, 967, 923, 967, 968, 969, 941, 925, 1003, 995, 996, 997, 951, 998, 999, 1000, 1001, 970, 938, 1002] (by decide +kernel) (by decide +kernel)⟩
set_option maxRecDepth 100000 in
theorem ltX9_2 : LKT RX9 132 134 2 := ⟨(gb4 195 (by decide +kernel) (by decide +kernel)), (gb1 23 (by decide +kernel) (by decide +kernel)), in_t [115, 940, 949, 954, 957, 959, 941, 942, 134, 135, 943, 948, 955, 971, 930, 972, 932, 973, 934, 944, 946, 936, 1028, 1029, 1030, 964, 921, 964, 965, 966, 967, 923, 967, 968, 969, 941, 925, 1027, 1019, 1020, 1021, 952, 1022, 1023, 1024, 1025, 970, 938, 1026] (by decide +kernel) (by decide +kernel)⟩
set_option maxRecDepth 100000 in
theorem ltX9_3 : LKT RX9 332 334 3 := ⟨(gb5 218 (by decide +kernel) (by decide +kernel)), (gb1 24 (by decide +kernel) (by decide +kernel)), in_t [115, 940, 949, 954, 957, 959, 941, 942, 134, 135, 943, 948, 955, 971, 930, 972, 932, 973, 934, 944, 946, 936, 1291, 1292, 1293, 964, 921, 964, 965, 966, 967, 923, 967, 968, 969, 941, 925, 1290, 1282, 1283, 1284, 953, 1285, 1286, 1287, 1288, 970, 938, 1289] (by decide +kernel) (by decide +kernel)⟩
def strs : List ST := [(RX6, 70, "chamber", [99, 104, 97, 109, 98, 101, 114]), (RX6, 76, "pump", [112, 117, 109, 112]), (RX6, 78, "valve", [118, 97, 108, 118, 101]), (RX6, 80, "flange", [102, 108, 97, 110, 103, 101]), (RX6, 118, "out", [111, 117, 116]), (RX3, 69, "open", [111, 112, 101, 110]), (RX3, 75, "close", [99, 108, 111, 115, 101]), (RX3, 77, "start", [115, 116, 97, 114, 116]), (RX3, 78, "stop", [115, 116, 111, 112]), (RX3, 80, "wait", [119, 97, 105, 116]), (RX3, 82, "until", [117, 110, 116, 105, 108]), (RX3, 84, "seal", [115, 101, 97, 108]), (RX3, 86, "test", [116, 101, 115, 116]), (RX9, 351, "chamber ", [99, 104, 97, 109, 98, 101, 114, 32]), (RX9, 360, " ", [32]), (RX9, 362, " v", [32, 118]), (RX9, 371, " p", [32, 112]), (RX9, 376, "\n", [10]), (RX10, 288, "chamber", [99, 104, 97, 109, 98, 101, 114]), (RX10, 294, ";", [59]), (RX10, 300, "pump", [112, 117, 109, 112]), (RX10, 286, "out", [111, 117, 116]), (RX10, 308, "valve", [118, 97, 108, 118, 101]), (RX10, 310, "flange", [102, 108, 97, 110, 103, 101]), (RX10, 327, "open", [111, 112, 101, 110]), (RX10, 329, "close", [99, 108, 111, 115, 101]), (RX10, 331, "start", [115, 116, 97, 114, 116]), (RX10, 333, "stop", [115, 116, 111, 112]), (RX10, 335, "wait", [119, 97, 105, 116]), (RX10, 337, "seal", [115, 101, 97, 108]), (RX10, 339, "until", [117, 110, 116, 105, 108]), (RX10, 341, "test", [116, 101, 115, 116]), (RX10, 434, "chamber ", [99, 104, 97, 109, 98, 101, 114, 32])]
