/-! decode rows: the class -/
theorem dX9_init_0 : decode cX9_init 0 = .ok (.aload_n 0, 1) ∧ 1 = 0 + 1 := ⟨by decide +kernel, rfl⟩
theorem dX9_init_1 : decode cX9_init 1 = .ok (.invokespecial 3, 3) ∧ 4 = 1 + 3 := ⟨by decide +kernel, rfl⟩
theorem dX9_init_4 : decode cX9_init 4 = .ok (.aload_n 0, 1) ∧ 5 = 4 + 1 := ⟨by decide +kernel, rfl⟩
theorem dX9_init_5 : decode cX9_init 5 = .ok (.new 9, 3) ∧ 8 = 5 + 3 := ⟨by decide +kernel, rfl⟩
theorem dX9_init_8 : decode cX9_init 8 = .ok (.dup, 1) ∧ 9 = 8 + 1 := ⟨by decide +kernel, rfl⟩
theorem dX9_init_9 : decode cX9_init 9 = .ok (.invokespecial 11, 3) ∧ 12 = 9 + 3 := ⟨by decide +kernel, rfl⟩
theorem dX9_init_12 : decode cX9_init 12 = .ok (.putfield 12, 3) ∧ 15 = 12 + 3 := ⟨by decide +kernel, rfl⟩
theorem dX9_init_15 : decode cX9_init 15 = .ok (.aload_n 0, 1) ∧ 16 = 15 + 1 := ⟨by decide +kernel, rfl⟩
theorem dX9_init_16 : decode cX9_init 16 = .ok (.new 16, 3) ∧ 19 = 16 + 3 := ⟨by decide +kernel, rfl⟩
theorem dX9_init_19 : decode cX9_init 19 = .ok (.dup, 1) ∧ 20 = 19 + 1 := ⟨by decide +kernel, rfl⟩
theorem dX9_init_20 : decode cX9_init 20 = .ok (.aload_n 0, 1) ∧ 21 = 20 + 1 := ⟨by decide +kernel, rfl⟩
theorem dX9_init_21 : decode cX9_init 21 = .ok (.getfield 12, 3) ∧ 24 = 21 + 3 := ⟨by decide +kernel, rfl⟩
theorem dX9_init_24 : decode cX9_init 24 = .ok (.invokespecial 18, 3) ∧ 27 = 24 + 3 := ⟨by decide +kernel, rfl⟩
theorem dX9_init_27 : decode cX9_init 27 = .ok (.putfield 21, 3) ∧ 30 = 27 + 3 := ⟨by decide +kernel, rfl⟩
theorem dX9_init_30 : decode cX9_init 30 = .ok (.aload_n 0, 1) ∧ 31 = 30 + 1 := ⟨by decide +kernel, rfl⟩
theorem dX9_init_31 : decode cX9_init 31 = .ok (.new 25, 3) ∧ 34 = 31 + 3 := ⟨by decide +kernel, rfl⟩
theorem dX9_init_34 : decode cX9_init 34 = .ok (.dup, 1) ∧ 35 = 34 + 1 := ⟨by decide +kernel, rfl⟩
theorem dX9_init_35 : decode cX9_init 35 = .ok (.invokespecial 27, 3) ∧ 38 = 35 + 3 := ⟨by decide +kernel, rfl⟩
theorem dX9_init_38 : decode cX9_init 38 = .ok (.putfield 28, 3) ∧ 41 = 38 + 3 := ⟨by decide +kernel, rfl⟩
theorem dX9_init_41 : decode cX9_init 41 = .ok (.aload_n 0, 1) ∧ 42 = 41 + 1 := ⟨by decide +kernel, rfl⟩
theorem dX9_init_42 : decode cX9_init 42 = .ok (.new 32, 3) ∧ 45 = 42 + 3 := ⟨by decide +kernel, rfl⟩
theorem dX9_init_45 : decode cX9_init 45 = .ok (.dup, 1) ∧ 46 = 45 + 1 := ⟨by decide +kernel, rfl⟩
theorem dX9_init_46 : decode cX9_init 46 = .ok (.aload_n 0, 1) ∧ 47 = 46 + 1 := ⟨by decide +kernel, rfl⟩
theorem dX9_init_47 : decode cX9_init 47 = .ok (.getfield 21, 3) ∧ 50 = 47 + 3 := ⟨by decide +kernel, rfl⟩
theorem dX9_init_50 : decode cX9_init 50 = .ok (.invokespecial 34, 3) ∧ 53 = 50 + 3 := ⟨by decide +kernel, rfl⟩
theorem dX9_init_53 : decode cX9_init 53 = .ok (.putfield 37, 3) ∧ 56 = 53 + 3 := ⟨by decide +kernel, rfl⟩
theorem dX9_init_56 : decode cX9_init 56 = .ok (.aload_n 0, 1) ∧ 57 = 56 + 1 := ⟨by decide +kernel, rfl⟩
theorem dX9_init_57 : decode cX9_init 57 = .ok (.new 41, 3) ∧ 60 = 57 + 3 := ⟨by decide +kernel, rfl⟩
theorem dX9_init_60 : decode cX9_init 60 = .ok (.dup, 1) ∧ 61 = 60 + 1 := ⟨by decide +kernel, rfl⟩
theorem dX9_init_61 : decode cX9_init 61 = .ok (.aload_n 0, 1) ∧ 62 = 61 + 1 := ⟨by decide +kernel, rfl⟩
theorem dX9_init_62 : decode cX9_init 62 = .ok (.getfield 21, 3) ∧ 65 = 62 + 3 := ⟨by decide +kernel, rfl⟩
theorem dX9_init_65 : decode cX9_init 65 = .ok (.aload_n 0, 1) ∧ 66 = 65 + 1 := ⟨by decide +kernel, rfl⟩
theorem dX9_init_66 : decode cX9_init 66 = .ok (.getfield 28, 3) ∧ 69 = 66 + 3 := ⟨by decide +kernel, rfl⟩
theorem dX9_init_69 : decode cX9_init 69 = .ok (.invokespecial 43, 3) ∧ 72 = 69 + 3 := ⟨by decide +kernel, rfl⟩
theorem dX9_init_72 : decode cX9_init 72 = .ok (.putfield 46, 3) ∧ 75 = 72 + 3 := ⟨by decide +kernel, rfl⟩
theorem dX9_init_75 : decode cX9_init 75 = .ok (.aload_n 0, 1) ∧ 76 = 75 + 1 := ⟨by decide +kernel, rfl⟩
theorem dX9_init_76 : decode cX9_init 76 = .ok (.new 50, 3) ∧ 79 = 76 + 3 := ⟨by decide +kernel, rfl⟩
theorem dX9_init_79 : decode cX9_init 79 = .ok (.dup, 1) ∧ 80 = 79 + 1 := ⟨by decide +kernel, rfl⟩
theorem dX9_init_80 : decode cX9_init 80 = .ok (.invokespecial 52, 3) ∧ 83 = 80 + 3 := ⟨by decide +kernel, rfl⟩
theorem dX9_init_83 : decode cX9_init 83 = .ok (.putfield 53, 3) ∧ 86 = 83 + 3 := ⟨by decide +kernel, rfl⟩
theorem dX9_init_86 : decode cX9_init 86 = .ok (.aload_n 0, 1) ∧ 87 = 86 + 1 := ⟨by decide +kernel, rfl⟩
theorem dX9_init_87 : decode cX9_init 87 = .ok (.new 57, 3) ∧ 90 = 87 + 3 := ⟨by decide +kernel, rfl⟩
theorem dX9_init_90 : decode cX9_init 90 = .ok (.dup, 1) ∧ 91 = 90 + 1 := ⟨by decide +kernel, rfl⟩
theorem dX9_init_91 : decode cX9_init 91 = .ok (.invokespecial 59, 3) ∧ 94 = 91 + 3 := ⟨by decide +kernel, rfl⟩
theorem dX9_init_94 : decode cX9_init 94 = .ok (.putfield 60, 3) ∧ 97 = 94 + 3 := ⟨by decide +kernel, rfl⟩
theorem dX9_init_97 : decode cX9_init 97 = .ok (.aload_n 0, 1) ∧ 98 = 97 + 1 := ⟨by decide +kernel, rfl⟩
theorem dX9_init_98 : decode cX9_init 98 = .ok (.bipush 10, 2) ∧ 100 = 98 + 2 := ⟨by decide +kernel, rfl⟩
theorem dX9_init_100 : decode cX9_init 100 = .ok (.anewarray 64, 3) ∧ 103 = 100 + 3 := ⟨by decide +kernel, rfl⟩
theorem dX9_init_103 : decode cX9_init 103 = .ok (.putfield 66, 3) ∧ 106 = 103 + 3 := ⟨by decide +kernel, rfl⟩
theorem dX9_init_106 : decode cX9_init 106 = .ok (.aload_n 0, 1) ∧ 107 = 106 + 1 := ⟨by decide +kernel, rfl⟩
theorem dX9_init_107 : decode cX9_init 107 = .ok (.new 64, 3) ∧ 110 = 107 + 3 := ⟨by decide +kernel, rfl⟩
theorem dX9_init_110 : decode cX9_init 110 = .ok (.dup, 1) ∧ 111 = 110 + 1 := ⟨by decide +kernel, rfl⟩
theorem dX9_init_111 : decode cX9_init 111 = .ok (.aload_n 0, 1) ∧ 112 = 111 + 1 := ⟨by decide +kernel, rfl⟩
theorem dX9_init_112 : decode cX9_init 112 = .ok (.getfield 28, 3) ∧ 115 = 112 + 3 := ⟨by decide +kernel, rfl⟩
theorem dX9_init_115 : decode cX9_init 115 = .ok (.invokespecial 70, 3) ∧ 118 = 115 + 3 := ⟨by decide +kernel, rfl⟩
theorem dX9_init_118 : decode cX9_init 118 = .ok (.putfield 73, 3) ∧ 121 = 118 + 3 := ⟨by decide +kernel, rfl⟩
theorem dX9_init_121 : decode cX9_init 121 = .ok (.aload_n 0, 1) ∧ 122 = 121 + 1 := ⟨by decide +kernel, rfl⟩
theorem dX9_init_122 : decode cX9_init 122 = .ok (.new 64, 3) ∧ 125 = 122 + 3 := ⟨by decide +kernel, rfl⟩
theorem dX9_init_125 : decode cX9_init 125 = .ok (.dup, 1) ∧ 126 = 125 + 1 := ⟨by decide +kernel, rfl⟩
theorem dX9_init_126 : decode cX9_init 126 = .ok (.aload_n 0, 1) ∧ 127 = 126 + 1 := ⟨by decide +kernel, rfl⟩
theorem dX9_init_127 : decode cX9_init 127 = .ok (.getfield 28, 3) ∧ 130 = 127 + 3 := ⟨by decide +kernel, rfl⟩
theorem dX9_init_130 : decode cX9_init 130 = .ok (.invokespecial 70, 3) ∧ 133 = 130 + 3 := ⟨by decide +kernel, rfl⟩
theorem dX9_init_133 : decode cX9_init 133 = .ok (.putfield 77, 3) ∧ 136 = 133 + 3 := ⟨by decide +kernel, rfl⟩
theorem dX9_init_136 : decode cX9_init 136 = .ok (.aload_n 0, 1) ∧ 137 = 136 + 1 := ⟨by decide +kernel, rfl⟩
theorem dX9_init_137 : decode cX9_init 137 = .ok (.iconst 0, 1) ∧ 138 = 137 + 1 := ⟨by decide +kernel, rfl⟩
theorem dX9_init_138 : decode cX9_init 138 = .ok (.putfield 80, 3) ∧ 141 = 138 + 3 := ⟨by decide +kernel, rfl⟩
theorem dX9_init_141 : decode cX9_init 141 = .ok (.aload_n 0, 1) ∧ 142 = 141 + 1 := ⟨by decide +kernel, rfl⟩
theorem dX9_init_142 : decode cX9_init 142 = .ok (.iconst 0, 1) ∧ 143 = 142 + 1 := ⟨by decide +kernel, rfl⟩
theorem dX9_init_143 : decode cX9_init 143 = .ok (.putfield 84, 3) ∧ 146 = 143 + 3 := ⟨by decide +kernel, rfl⟩
theorem dX9_init_146 : decode cX9_init 146 = .ok (.aload_n 0, 1) ∧ 147 = 146 + 1 := ⟨by decide +kernel, rfl⟩
theorem dX9_init_147 : decode cX9_init 147 = .ok (.iconst 0, 1) ∧ 148 = 147 + 1 := ⟨by decide +kernel, rfl⟩
theorem dX9_init_148 : decode cX9_init 148 = .ok (.putfield 87, 3) ∧ 151 = 148 + 3 := ⟨by decide +kernel, rfl⟩
theorem dX9_init_151 : decode cX9_init 151 = .ok (.aload_n 0, 1) ∧ 152 = 151 + 1 := ⟨by decide +kernel, rfl⟩
theorem dX9_init_152 : decode cX9_init 152 = .ok (.iconst (-1), 1) ∧ 153 = 152 + 1 := ⟨by decide +kernel, rfl⟩
theorem dX9_init_153 : decode cX9_init 153 = .ok (.putfield 90, 3) ∧ 156 = 153 + 3 := ⟨by decide +kernel, rfl⟩
theorem dX9_init_156 : decode cX9_init 156 = .ok (.iconst 0, 1) ∧ 157 = 156 + 1 := ⟨by decide +kernel, rfl⟩
theorem dX9_init_157 : decode cX9_init 157 = .ok (.istore_n 1, 1) ∧ 158 = 157 + 1 := ⟨by decide +kernel, rfl⟩
theorem dX9_init_158 : decode cX9_init 158 = .ok (.iload_n 1, 1) ∧ 159 = 158 + 1 := ⟨by decide +kernel, rfl⟩
theorem dX9_init_159 : decode cX9_init 159 = .ok (.bipush 10, 2) ∧ 161 = 159 + 2 := ⟨by decide +kernel, rfl⟩
theorem dX9_init_161 : decode cX9_init 161 = .ok (.if_icmp .ge 26, 3) ∧ 164 = 161 + 3 := ⟨by decide +kernel, rfl⟩
theorem dX9_init_164 : decode cX9_init 164 = .ok (.aload_n 0, 1) ∧ 165 = 164 + 1 := ⟨by decide +kernel, rfl⟩
theorem dX9_init_165 : decode cX9_init 165 = .ok (.getfield 66, 3) ∧ 168 = 165 + 3 := ⟨by decide +kernel, rfl⟩
theorem dX9_init_168 : decode cX9_init 168 = .ok (.iload_n 1, 1) ∧ 169 = 168 + 1 := ⟨by decide +kernel, rfl⟩
theorem dX9_init_169 : decode cX9_init 169 = .ok (.new 64, 3) ∧ 172 = 169 + 3 := ⟨by decide +kernel, rfl⟩
theorem dX9_init_172 : decode cX9_init 172 = .ok (.dup, 1) ∧ 173 = 172 + 1 := ⟨by decide +kernel, rfl⟩
theorem dX9_init_173 : decode cX9_init 173 = .ok (.aload_n 0, 1) ∧ 174 = 173 + 1 := ⟨by decide +kernel, rfl⟩
theorem dX9_init_174 : decode cX9_init 174 = .ok (.getfield 28, 3) ∧ 177 = 174 + 3 := ⟨by decide +kernel, rfl⟩
theorem dX9_init_177 : decode cX9_init 177 = .ok (.invokespecial 70, 3) ∧ 180 = 177 + 3 := ⟨by decide +kernel, rfl⟩
theorem dX9_init_180 : decode cX9_init 180 = .ok (.aastore, 1) ∧ 181 = 180 + 1 := ⟨by decide +kernel, rfl⟩
theorem dX9_init_181 : decode cX9_init 181 = .ok (.iinc 1 1, 3) ∧ 184 = 181 + 3 := ⟨by decide +kernel, rfl⟩
theorem dX9_init_184 : decode cX9_init 184 = .ok (.goto (-26), 3) ∧ 187 = 184 + 3 := ⟨by decide +kernel, rfl⟩
theorem dX9_init_187 : decode cX9_init 187 = .ok (.return_, 1) ∧ 188 = 187 + 1 := ⟨by decide +kernel, rfl⟩
theorem dX9_appendText_0 : decode cX9_appendText 0 = .ok (.aload_n 0, 1) ∧ 1 = 0 + 1 := ⟨by decide +kernel, rfl⟩
theorem dX9_appendText_1 : decode cX9_appendText 1 = .ok (.getfield 12, 3) ∧ 4 = 1 + 3 := ⟨by decide +kernel, rfl⟩
theorem dX9_appendText_4 : decode cX9_appendText 4 = .ok (.getfield 93, 3) ∧ 7 = 4 + 3 := ⟨by decide +kernel, rfl⟩
theorem dX9_appendText_7 : decode cX9_appendText 7 = .ok (.bipush 20, 2) ∧ 9 = 7 + 2 := ⟨by decide +kernel, rfl⟩
theorem dX9_appendText_9 : decode cX9_appendText 9 = .ok (.iadd, 1) ∧ 10 = 9 + 1 := ⟨by decide +kernel, rfl⟩
theorem dX9_appendText_10 : decode cX9_appendText 10 = .ok (.sipush 900, 3) ∧ 13 = 10 + 3 := ⟨by decide +kernel, rfl⟩
theorem dX9_appendText_13 : decode cX9_appendText 13 = .ok (.if_icmp .le 11, 3) ∧ 16 = 13 + 3 := ⟨by decide +kernel, rfl⟩
theorem dX9_appendText_16 : decode cX9_appendText 16 = .ok (.new 96, 3) ∧ 19 = 16 + 3 := ⟨by decide +kernel, rfl⟩
theorem dX9_appendText_19 : decode cX9_appendText 19 = .ok (.dup, 1) ∧ 20 = 19 + 1 := ⟨by decide +kernel, rfl⟩
theorem dX9_appendText_20 : decode cX9_appendText 20 = .ok (.invokespecial 98, 3) ∧ 23 = 20 + 3 := ⟨by decide +kernel, rfl⟩
theorem dX9_appendText_23 : decode cX9_appendText 23 = .ok (.athrow, 1) ∧ 24 = 23 + 1 := ⟨by decide +kernel, rfl⟩
theorem dX9_appendText_24 : decode cX9_appendText 24 = .ok (.aload_n 0, 1) ∧ 25 = 24 + 1 := ⟨by decide +kernel, rfl⟩
theorem dX9_appendText_25 : decode cX9_appendText 25 = .ok (.getfield 12, 3) ∧ 28 = 25 + 3 := ⟨by decide +kernel, rfl⟩
theorem dX9_appendText_28 : decode cX9_appendText 28 = .ok (.iload_n 1, 1) ∧ 29 = 28 + 1 := ⟨by decide +kernel, rfl⟩
theorem dX9_appendText_29 : decode cX9_appendText 29 = .ok (.invokevirtual 99, 3) ∧ 32 = 29 + 3 := ⟨by decide +kernel, rfl⟩
theorem dX9_appendText_32 : decode cX9_appendText 32 = .ok (.aload_n 0, 1) ∧ 33 = 32 + 1 := ⟨by decide +kernel, rfl⟩
theorem dX9_appendText_33 : decode cX9_appendText 33 = .ok (.getfield 12, 3) ∧ 36 = 33 + 3 := ⟨by decide +kernel, rfl⟩
theorem dX9_appendText_36 : decode cX9_appendText 36 = .ok (.iload_n 2, 1) ∧ 37 = 36 + 1 := ⟨by decide +kernel, rfl⟩
theorem dX9_appendText_37 : decode cX9_appendText 37 = .ok (.invokevirtual 99, 3) ∧ 40 = 37 + 3 := ⟨by decide +kernel, rfl⟩
theorem dX9_appendText_40 : decode cX9_appendText 40 = .ok (.aload_n 0, 1) ∧ 41 = 40 + 1 := ⟨by decide +kernel, rfl⟩
theorem dX9_appendText_41 : decode cX9_appendText 41 = .ok (.getfield 12, 3) ∧ 44 = 41 + 3 := ⟨by decide +kernel, rfl⟩
theorem dX9_appendText_44 : decode cX9_appendText 44 = .ok (.iload_n 3, 1) ∧ 45 = 44 + 1 := ⟨by decide +kernel, rfl⟩
theorem dX9_appendText_45 : decode cX9_appendText 45 = .ok (.invokevirtual 99, 3) ∧ 48 = 45 + 3 := ⟨by decide +kernel, rfl⟩
theorem dX9_appendText_48 : decode cX9_appendText 48 = .ok (.aload_n 0, 1) ∧ 49 = 48 + 1 := ⟨by decide +kernel, rfl⟩
theorem dX9_appendText_49 : decode cX9_appendText 49 = .ok (.getfield 12, 3) ∧ 52 = 49 + 3 := ⟨by decide +kernel, rfl⟩
theorem dX9_appendText_52 : decode cX9_appendText 52 = .ok (.iload 4, 2) ∧ 54 = 52 + 2 := ⟨by decide +kernel, rfl⟩
theorem dX9_appendText_54 : decode cX9_appendText 54 = .ok (.invokevirtual 99, 3) ∧ 57 = 54 + 3 := ⟨by decide +kernel, rfl⟩
theorem dX9_appendText_57 : decode cX9_appendText 57 = .ok (.aload_n 0, 1) ∧ 58 = 57 + 1 := ⟨by decide +kernel, rfl⟩
theorem dX9_appendText_58 : decode cX9_appendText 58 = .ok (.getfield 12, 3) ∧ 61 = 58 + 3 := ⟨by decide +kernel, rfl⟩
theorem dX9_appendText_61 : decode cX9_appendText 61 = .ok (.iload 5, 2) ∧ 63 = 61 + 2 := ⟨by decide +kernel, rfl⟩
theorem dX9_appendText_63 : decode cX9_appendText 63 = .ok (.invokevirtual 99, 3) ∧ 66 = 63 + 3 := ⟨by decide +kernel, rfl⟩
theorem dX9_appendText_66 : decode cX9_appendText 66 = .ok (.aload_n 0, 1) ∧ 67 = 66 + 1 := ⟨by decide +kernel, rfl⟩
theorem dX9_appendText_67 : decode cX9_appendText 67 = .ok (.getfield 12, 3) ∧ 70 = 67 + 3 := ⟨by decide +kernel, rfl⟩
theorem dX9_appendText_70 : decode cX9_appendText 70 = .ok (.getfield 93, 3) ∧ 73 = 70 + 3 := ⟨by decide +kernel, rfl⟩
theorem dX9_appendText_73 : decode cX9_appendText 73 = .ok (.ireturn, 1) ∧ 74 = 73 + 1 := ⟨by decide +kernel, rfl⟩
theorem dX9_truncateText_0 : decode cX9_truncateText 0 = .ok (.iload_n 1, 1) ∧ 1 = 0 + 1 := ⟨by decide +kernel, rfl⟩
theorem dX9_truncateText_1 : decode cX9_truncateText 1 = .ok (.ifCond .lt 14, 3) ∧ 4 = 1 + 3 := ⟨by decide +kernel, rfl⟩
theorem dX9_truncateText_4 : decode cX9_truncateText 4 = .ok (.iload_n 1, 1) ∧ 5 = 4 + 1 := ⟨by decide +kernel, rfl⟩
theorem dX9_truncateText_5 : decode cX9_truncateText 5 = .ok (.aload_n 0, 1) ∧ 6 = 5 + 1 := ⟨by decide +kernel, rfl⟩
theorem dX9_truncateText_6 : decode cX9_truncateText 6 = .ok (.getfield 12, 3) ∧ 9 = 6 + 3 := ⟨by decide +kernel, rfl⟩
theorem dX9_truncateText_9 : decode cX9_truncateText 9 = .ok (.getfield 93, 3) ∧ 12 = 9 + 3 := ⟨by decide +kernel, rfl⟩
theorem dX9_truncateText_12 : decode cX9_truncateText 12 = .ok (.if_icmp .le 11, 3) ∧ 15 = 12 + 3 := ⟨by decide +kernel, rfl⟩
theorem dX9_truncateText_15 : decode cX9_truncateText 15 = .ok (.new 103, 3) ∧ 18 = 15 + 3 := ⟨by decide +kernel, rfl⟩
theorem dX9_truncateText_18 : decode cX9_truncateText 18 = .ok (.dup, 1) ∧ 19 = 18 + 1 := ⟨by decide +kernel, rfl⟩
theorem dX9_truncateText_19 : decode cX9_truncateText 19 = .ok (.invokespecial 105, 3) ∧ 22 = 19 + 3 := ⟨by decide +kernel, rfl⟩
theorem dX9_truncateText_22 : decode cX9_truncateText 22 = .ok (.athrow, 1) ∧ 23 = 22 + 1 := ⟨by decide +kernel, rfl⟩
theorem dX9_truncateText_23 : decode cX9_truncateText 23 = .ok (.aload_n 0, 1) ∧ 24 = 23 + 1 := ⟨by decide +kernel, rfl⟩
theorem dX9_truncateText_24 : decode cX9_truncateText 24 = .ok (.getfield 12, 3) ∧ 27 = 24 + 3 := ⟨by decide +kernel, rfl⟩
theorem dX9_truncateText_27 : decode cX9_truncateText 27 = .ok (.iload_n 1, 1) ∧ 28 = 27 + 1 := ⟨by decide +kernel, rfl⟩
theorem dX9_truncateText_28 : decode cX9_truncateText 28 = .ok (.putfield 93, 3) ∧ 31 = 28 + 3 := ⟨by decide +kernel, rfl⟩
theorem dX9_truncateText_31 : decode cX9_truncateText 31 = .ok (.iload_n 1, 1) ∧ 32 = 31 + 1 := ⟨by decide +kernel, rfl⟩
theorem dX9_truncateText_32 : decode cX9_truncateText 32 = .ok (.ireturn, 1) ∧ 33 = 32 + 1 := ⟨by decide +kernel, rfl⟩
theorem dX9_parseSystem_0 : decode cX9_parseSystem 0 = .ok (.aload_n 0, 1) ∧ 1 = 0 + 1 := ⟨by decide +kernel, rfl⟩
theorem dX9_parseSystem_1 : decode cX9_parseSystem 1 = .ok (.getfield 37, 3) ∧ 4 = 1 + 3 := ⟨by decide +kernel, rfl⟩
theorem dX9_parseSystem_4 : decode cX9_parseSystem 4 = .ok (.invokevirtual 106, 3) ∧ 7 = 4 + 3 := ⟨by decide +kernel, rfl⟩
theorem dX9_parseSystem_7 : decode cX9_parseSystem 7 = .ok (.istore_n 1, 1) ∧ 8 = 7 + 1 := ⟨by decide +kernel, rfl⟩
theorem dX9_parseSystem_8 : decode cX9_parseSystem 8 = .ok (.aload_n 0, 1) ∧ 9 = 8 + 1 := ⟨by decide +kernel, rfl⟩
theorem dX9_parseSystem_9 : decode cX9_parseSystem 9 = .ok (.aload_n 0, 1) ∧ 10 = 9 + 1 := ⟨by decide +kernel, rfl⟩
theorem dX9_parseSystem_10 : decode cX9_parseSystem 10 = .ok (.getfield 21, 3) ∧ 13 = 10 + 3 := ⟨by decide +kernel, rfl⟩
theorem dX9_parseSystem_13 : decode cX9_parseSystem 13 = .ok (.getfield 110, 3) ∧ 16 = 13 + 3 := ⟨by decide +kernel, rfl⟩
theorem dX9_parseSystem_16 : decode cX9_parseSystem 16 = .ok (.putfield 87, 3) ∧ 19 = 16 + 3 := ⟨by decide +kernel, rfl⟩
theorem dX9_parseSystem_19 : decode cX9_parseSystem 19 = .ok (.aload_n 0, 1) ∧ 20 = 19 + 1 := ⟨by decide +kernel, rfl⟩
theorem dX9_parseSystem_20 : decode cX9_parseSystem 20 = .ok (.aload_n 0, 1) ∧ 21 = 20 + 1 := ⟨by decide +kernel, rfl⟩
theorem dX9_parseSystem_21 : decode cX9_parseSystem 21 = .ok (.getfield 21, 3) ∧ 24 = 21 + 3 := ⟨by decide +kernel, rfl⟩
theorem dX9_parseSystem_24 : decode cX9_parseSystem 24 = .ok (.getfield 113, 3) ∧ 27 = 24 + 3 := ⟨by decide +kernel, rfl⟩
theorem dX9_parseSystem_27 : decode cX9_parseSystem 27 = .ok (.putfield 90, 3) ∧ 30 = 27 + 3 := ⟨by decide +kernel, rfl⟩
theorem dX9_parseSystem_30 : decode cX9_parseSystem 30 = .ok (.aload_n 0, 1) ∧ 31 = 30 + 1 := ⟨by decide +kernel, rfl⟩
theorem dX9_parseSystem_31 : decode cX9_parseSystem 31 = .ok (.getfield 12, 3) ∧ 34 = 31 + 3 := ⟨by decide +kernel, rfl⟩
theorem dX9_parseSystem_34 : decode cX9_parseSystem 34 = .ok (.iconst 0, 1) ∧ 35 = 34 + 1 := ⟨by decide +kernel, rfl⟩
theorem dX9_parseSystem_35 : decode cX9_parseSystem 35 = .ok (.putfield 93, 3) ∧ 38 = 35 + 3 := ⟨by decide +kernel, rfl⟩
theorem dX9_parseSystem_38 : decode cX9_parseSystem 38 = .ok (.iload_n 1, 1) ∧ 39 = 38 + 1 := ⟨by decide +kernel, rfl⟩
theorem dX9_parseSystem_39 : decode cX9_parseSystem 39 = .ok (.ifCond .ne 5, 3) ∧ 42 = 39 + 3 := ⟨by decide +kernel, rfl⟩
theorem dX9_parseSystem_42 : decode cX9_parseSystem 42 = .ok (.iconst (-1), 1) ∧ 43 = 42 + 1 := ⟨by decide +kernel, rfl⟩
theorem dX9_parseSystem_43 : decode cX9_parseSystem 43 = .ok (.ireturn, 1) ∧ 44 = 43 + 1 := ⟨by decide +kernel, rfl⟩
theorem dX9_parseSystem_44 : decode cX9_parseSystem 44 = .ok (.aload_n 0, 1) ∧ 45 = 44 + 1 := ⟨by decide +kernel, rfl⟩
theorem dX9_parseSystem_45 : decode cX9_parseSystem 45 = .ok (.getfield 28, 3) ∧ 48 = 45 + 3 := ⟨by decide +kernel, rfl⟩
theorem dX9_parseSystem_48 : decode cX9_parseSystem 48 = .ok (.aload_n 0, 1) ∧ 49 = 48 + 1 := ⟨by decide +kernel, rfl⟩
theorem dX9_parseSystem_49 : decode cX9_parseSystem 49 = .ok (.getfield 37, 3) ∧ 52 = 49 + 3 := ⟨by decide +kernel, rfl⟩
theorem dX9_parseSystem_52 : decode cX9_parseSystem 52 = .ok (.getfield 116, 3) ∧ 55 = 52 + 3 := ⟨by decide +kernel, rfl⟩
theorem dX9_parseSystem_55 : decode cX9_parseSystem 55 = .ok (.invokevirtual 119, 3) ∧ 58 = 55 + 3 := ⟨by decide +kernel, rfl⟩
theorem dX9_parseSystem_58 : decode cX9_parseSystem 58 = .ok (.aload_n 0, 1) ∧ 59 = 58 + 1 := ⟨by decide +kernel, rfl⟩
theorem dX9_parseSystem_59 : decode cX9_parseSystem 59 = .ok (.getfield 73, 3) ∧ 62 = 59 + 3 := ⟨by decide +kernel, rfl⟩
theorem dX9_parseSystem_62 : decode cX9_parseSystem 62 = .ok (.invokevirtual 122, 3) ∧ 65 = 62 + 3 := ⟨by decide +kernel, rfl⟩
theorem dX9_parseSystem_65 : decode cX9_parseSystem 65 = .ok (.aload_n 0, 1) ∧ 66 = 65 + 1 := ⟨by decide +kernel, rfl⟩
theorem dX9_parseSystem_66 : decode cX9_parseSystem 66 = .ok (.iconst 0, 1) ∧ 67 = 66 + 1 := ⟨by decide +kernel, rfl⟩
theorem dX9_parseSystem_67 : decode cX9_parseSystem 67 = .ok (.putfield 84, 3) ∧ 70 = 67 + 3 := ⟨by decide +kernel, rfl⟩
theorem dX9_parseSystem_70 : decode cX9_parseSystem 70 = .ok (.aload_n 0, 1) ∧ 71 = 70 + 1 := ⟨by decide +kernel, rfl⟩
theorem dX9_parseSystem_71 : decode cX9_parseSystem 71 = .ok (.getfield 28, 3) ∧ 74 = 71 + 3 := ⟨by decide +kernel, rfl⟩
theorem dX9_parseSystem_74 : decode cX9_parseSystem 74 = .ok (.getfield 125, 3) ∧ 77 = 74 + 3 := ⟨by decide +kernel, rfl⟩
theorem dX9_parseSystem_77 : decode cX9_parseSystem 77 = .ok (.ireturn, 1) ∧ 78 = 77 + 1 := ⟨by decide +kernel, rfl⟩
theorem dX9_open_0 : decode cX9_open 0 = .ok (.aload_n 0, 1) ∧ 1 = 0 + 1 := ⟨by decide +kernel, rfl⟩
theorem dX9_open_1 : decode cX9_open 1 = .ok (.getfield 28, 3) ∧ 4 = 1 + 3 := ⟨by decide +kernel, rfl⟩
theorem dX9_open_4 : decode cX9_open 4 = .ok (.iload_n 1, 1) ∧ 5 = 4 + 1 := ⟨by decide +kernel, rfl⟩
theorem dX9_open_5 : decode cX9_open 5 = .ok (.invokevirtual 128, 3) ∧ 8 = 5 + 3 := ⟨by decide +kernel, rfl⟩
theorem dX9_open_8 : decode cX9_open 8 = .ok (.ifCond .ne 11, 3) ∧ 11 = 8 + 3 := ⟨by decide +kernel, rfl⟩
theorem dX9_open_11 : decode cX9_open 11 = .ok (.new 132, 3) ∧ 14 = 11 + 3 := ⟨by decide +kernel, rfl⟩
theorem dX9_open_14 : decode cX9_open 14 = .ok (.dup, 1) ∧ 15 = 14 + 1 := ⟨by decide +kernel, rfl⟩
theorem dX9_open_15 : decode cX9_open 15 = .ok (.invokespecial 134, 3) ∧ 18 = 15 + 3 := ⟨by decide +kernel, rfl⟩
theorem dX9_open_18 : decode cX9_open 18 = .ok (.athrow, 1) ∧ 19 = 18 + 1 := ⟨by decide +kernel, rfl⟩
theorem dX9_open_19 : decode cX9_open 19 = .ok (.aload_n 0, 1) ∧ 20 = 19 + 1 := ⟨by decide +kernel, rfl⟩
theorem dX9_open_20 : decode cX9_open 20 = .ok (.getfield 73, 3) ∧ 23 = 20 + 3 := ⟨by decide +kernel, rfl⟩
theorem dX9_open_23 : decode cX9_open 23 = .ok (.iload_n 1, 1) ∧ 24 = 23 + 1 := ⟨by decide +kernel, rfl⟩
theorem dX9_open_24 : decode cX9_open 24 = .ok (.invokevirtual 135, 3) ∧ 27 = 24 + 3 := ⟨by decide +kernel, rfl⟩
theorem dX9_open_27 : decode cX9_open 27 = .ok (.ifCond .eq 11, 3) ∧ 30 = 27 + 3 := ⟨by decide +kernel, rfl⟩
theorem dX9_open_30 : decode cX9_open 30 = .ok (.new 96, 3) ∧ 33 = 30 + 3 := ⟨by decide +kernel, rfl⟩
theorem dX9_open_33 : decode cX9_open 33 = .ok (.dup, 1) ∧ 34 = 33 + 1 := ⟨by decide +kernel, rfl⟩
theorem dX9_open_34 : decode cX9_open 34 = .ok (.invokespecial 98, 3) ∧ 37 = 34 + 3 := ⟨by decide +kernel, rfl⟩
theorem dX9_open_37 : decode cX9_open 37 = .ok (.athrow, 1) ∧ 38 = 37 + 1 := ⟨by decide +kernel, rfl⟩
theorem dX9_open_38 : decode cX9_open 38 = .ok (.aload_n 0, 1) ∧ 39 = 38 + 1 := ⟨by decide +kernel, rfl⟩
theorem dX9_open_39 : decode cX9_open 39 = .ok (.invokevirtual 139, 3) ∧ 42 = 39 + 3 := ⟨by decide +kernel, rfl⟩
theorem dX9_open_42 : decode cX9_open 42 = .ok (.aload_n 0, 1) ∧ 43 = 42 + 1 := ⟨by decide +kernel, rfl⟩
theorem dX9_open_43 : decode cX9_open 43 = .ok (.getfield 77, 3) ∧ 46 = 43 + 3 := ⟨by decide +kernel, rfl⟩
theorem dX9_open_46 : decode cX9_open 46 = .ok (.iload_n 1, 1) ∧ 47 = 46 + 1 := ⟨by decide +kernel, rfl⟩
theorem dX9_open_47 : decode cX9_open 47 = .ok (.invokevirtual 142, 3) ∧ 50 = 47 + 3 := ⟨by decide +kernel, rfl⟩
theorem dX9_open_50 : decode cX9_open 50 = .ok (.aload_n 0, 1) ∧ 51 = 50 + 1 := ⟨by decide +kernel, rfl⟩
theorem dX9_open_51 : decode cX9_open 51 = .ok (.invokevirtual 145, 3) ∧ 54 = 51 + 3 := ⟨by decide +kernel, rfl⟩
theorem dX9_open_54 : decode cX9_open 54 = .ok (.aload_n 0, 1) ∧ 55 = 54 + 1 := ⟨by decide +kernel, rfl⟩
theorem dX9_open_55 : decode cX9_open 55 = .ok (.getfield 73, 3) ∧ 58 = 55 + 3 := ⟨by decide +kernel, rfl⟩
theorem dX9_open_58 : decode cX9_open 58 = .ok (.iload_n 1, 1) ∧ 59 = 58 + 1 := ⟨by decide +kernel, rfl⟩
theorem dX9_open_59 : decode cX9_open 59 = .ok (.invokevirtual 148, 3) ∧ 62 = 59 + 3 := ⟨by decide +kernel, rfl⟩
theorem dX9_open_62 : decode cX9_open 62 = .ok (.ireturn, 1) ∧ 63 = 62 + 1 := ⟨by decide +kernel, rfl⟩
theorem dX9_close_0 : decode cX9_close 0 = .ok (.aload_n 0, 1) ∧ 1 = 0 + 1 := ⟨by decide +kernel, rfl⟩
theorem dX9_close_1 : decode cX9_close 1 = .ok (.getfield 28, 3) ∧ 4 = 1 + 3 := ⟨by decide +kernel, rfl⟩
theorem dX9_close_4 : decode cX9_close 4 = .ok (.iload_n 1, 1) ∧ 5 = 4 + 1 := ⟨by decide +kernel, rfl⟩
theorem dX9_close_5 : decode cX9_close 5 = .ok (.invokevirtual 128, 3) ∧ 8 = 5 + 3 := ⟨by decide +kernel, rfl⟩
theorem dX9_close_8 : decode cX9_close 8 = .ok (.ifCond .ne 11, 3) ∧ 11 = 8 + 3 := ⟨by decide +kernel, rfl⟩
theorem dX9_close_11 : decode cX9_close 11 = .ok (.new 132, 3) ∧ 14 = 11 + 3 := ⟨by decide +kernel, rfl⟩
theorem dX9_close_14 : decode cX9_close 14 = .ok (.dup, 1) ∧ 15 = 14 + 1 := ⟨by decide +kernel, rfl⟩
theorem dX9_close_15 : decode cX9_close 15 = .ok (.invokespecial 134, 3) ∧ 18 = 15 + 3 := ⟨by decide +kernel, rfl⟩
theorem dX9_close_18 : decode cX9_close 18 = .ok (.athrow, 1) ∧ 19 = 18 + 1 := ⟨by decide +kernel, rfl⟩
theorem dX9_close_19 : decode cX9_close 19 = .ok (.aload_n 0, 1) ∧ 20 = 19 + 1 := ⟨by decide +kernel, rfl⟩
theorem dX9_close_20 : decode cX9_close 20 = .ok (.getfield 73, 3) ∧ 23 = 20 + 3 := ⟨by decide +kernel, rfl⟩
theorem dX9_close_23 : decode cX9_close 23 = .ok (.iload_n 1, 1) ∧ 24 = 23 + 1 := ⟨by decide +kernel, rfl⟩
theorem dX9_close_24 : decode cX9_close 24 = .ok (.invokevirtual 151, 3) ∧ 27 = 24 + 3 := ⟨by decide +kernel, rfl⟩
theorem dX9_close_27 : decode cX9_close 27 = .ok (.ifCond .ne 11, 3) ∧ 30 = 27 + 3 := ⟨by decide +kernel, rfl⟩
theorem dX9_close_30 : decode cX9_close 30 = .ok (.new 96, 3) ∧ 33 = 30 + 3 := ⟨by decide +kernel, rfl⟩
theorem dX9_close_33 : decode cX9_close 33 = .ok (.dup, 1) ∧ 34 = 33 + 1 := ⟨by decide +kernel, rfl⟩
theorem dX9_close_34 : decode cX9_close 34 = .ok (.invokespecial 98, 3) ∧ 37 = 34 + 3 := ⟨by decide +kernel, rfl⟩
theorem dX9_close_37 : decode cX9_close 37 = .ok (.athrow, 1) ∧ 38 = 37 + 1 := ⟨by decide +kernel, rfl⟩
theorem dX9_close_38 : decode cX9_close 38 = .ok (.aload_n 0, 1) ∧ 39 = 38 + 1 := ⟨by decide +kernel, rfl⟩
theorem dX9_close_39 : decode cX9_close 39 = .ok (.invokevirtual 139, 3) ∧ 42 = 39 + 3 := ⟨by decide +kernel, rfl⟩
theorem dX9_close_42 : decode cX9_close 42 = .ok (.aload_n 0, 1) ∧ 43 = 42 + 1 := ⟨by decide +kernel, rfl⟩
theorem dX9_close_43 : decode cX9_close 43 = .ok (.getfield 77, 3) ∧ 46 = 43 + 3 := ⟨by decide +kernel, rfl⟩
theorem dX9_close_46 : decode cX9_close 46 = .ok (.iload_n 1, 1) ∧ 47 = 46 + 1 := ⟨by decide +kernel, rfl⟩
theorem dX9_close_47 : decode cX9_close 47 = .ok (.invokevirtual 154, 3) ∧ 50 = 47 + 3 := ⟨by decide +kernel, rfl⟩
theorem dX9_close_50 : decode cX9_close 50 = .ok (.aload_n 0, 1) ∧ 51 = 50 + 1 := ⟨by decide +kernel, rfl⟩
theorem dX9_close_51 : decode cX9_close 51 = .ok (.invokevirtual 145, 3) ∧ 54 = 51 + 3 := ⟨by decide +kernel, rfl⟩
theorem dX9_close_54 : decode cX9_close 54 = .ok (.aload_n 0, 1) ∧ 55 = 54 + 1 := ⟨by decide +kernel, rfl⟩
theorem dX9_close_55 : decode cX9_close 55 = .ok (.getfield 73, 3) ∧ 58 = 55 + 3 := ⟨by decide +kernel, rfl⟩
theorem dX9_close_58 : decode cX9_close 58 = .ok (.iload_n 1, 1) ∧ 59 = 58 + 1 := ⟨by decide +kernel, rfl⟩
theorem dX9_close_59 : decode cX9_close 59 = .ok (.invokevirtual 148, 3) ∧ 62 = 59 + 3 := ⟨by decide +kernel, rfl⟩
theorem dX9_close_62 : decode cX9_close 62 = .ok (.ireturn, 1) ∧ 63 = 62 + 1 := ⟨by decide +kernel, rfl⟩
theorem dX9_start_0 : decode cX9_start 0 = .ok (.aload_n 0, 1) ∧ 1 = 0 + 1 := ⟨by decide +kernel, rfl⟩
theorem dX9_start_1 : decode cX9_start 1 = .ok (.getfield 28, 3) ∧ 4 = 1 + 3 := ⟨by decide +kernel, rfl⟩
theorem dX9_start_4 : decode cX9_start 4 = .ok (.iload_n 1, 1) ∧ 5 = 4 + 1 := ⟨by decide +kernel, rfl⟩
theorem dX9_start_5 : decode cX9_start 5 = .ok (.invokevirtual 157, 3) ∧ 8 = 5 + 3 := ⟨by decide +kernel, rfl⟩
theorem dX9_start_8 : decode cX9_start 8 = .ok (.ifCond .ne 11, 3) ∧ 11 = 8 + 3 := ⟨by decide +kernel, rfl⟩
theorem dX9_start_11 : decode cX9_start 11 = .ok (.new 132, 3) ∧ 14 = 11 + 3 := ⟨by decide +kernel, rfl⟩
theorem dX9_start_14 : decode cX9_start 14 = .ok (.dup, 1) ∧ 15 = 14 + 1 := ⟨by decide +kernel, rfl⟩
theorem dX9_start_15 : decode cX9_start 15 = .ok (.invokespecial 134, 3) ∧ 18 = 15 + 3 := ⟨by decide +kernel, rfl⟩
theorem dX9_start_18 : decode cX9_start 18 = .ok (.athrow, 1) ∧ 19 = 18 + 1 := ⟨by decide +kernel, rfl⟩
theorem dX9_start_19 : decode cX9_start 19 = .ok (.aload_n 0, 1) ∧ 20 = 19 + 1 := ⟨by decide +kernel, rfl⟩
theorem dX9_start_20 : decode cX9_start 20 = .ok (.getfield 73, 3) ∧ 23 = 20 + 3 := ⟨by decide +kernel, rfl⟩
theorem dX9_start_23 : decode cX9_start 23 = .ok (.iload_n 1, 1) ∧ 24 = 23 + 1 := ⟨by decide +kernel, rfl⟩
theorem dX9_start_24 : decode cX9_start 24 = .ok (.invokevirtual 160, 3) ∧ 27 = 24 + 3 := ⟨by decide +kernel, rfl⟩
theorem dX9_start_27 : decode cX9_start 27 = .ok (.ifCond .eq 11, 3) ∧ 30 = 27 + 3 := ⟨by decide +kernel, rfl⟩
theorem dX9_start_30 : decode cX9_start 30 = .ok (.new 96, 3) ∧ 33 = 30 + 3 := ⟨by decide +kernel, rfl⟩
theorem dX9_start_33 : decode cX9_start 33 = .ok (.dup, 1) ∧ 34 = 33 + 1 := ⟨by decide +kernel, rfl⟩
theorem dX9_start_34 : decode cX9_start 34 = .ok (.invokespecial 98, 3) ∧ 37 = 34 + 3 := ⟨by decide +kernel, rfl⟩
theorem dX9_start_37 : decode cX9_start 37 = .ok (.athrow, 1) ∧ 38 = 37 + 1 := ⟨by decide +kernel, rfl⟩
theorem dX9_start_38 : decode cX9_start 38 = .ok (.aload_n 0, 1) ∧ 39 = 38 + 1 := ⟨by decide +kernel, rfl⟩
theorem dX9_start_39 : decode cX9_start 39 = .ok (.invokevirtual 139, 3) ∧ 42 = 39 + 3 := ⟨by decide +kernel, rfl⟩
theorem dX9_start_42 : decode cX9_start 42 = .ok (.aload_n 0, 1) ∧ 43 = 42 + 1 := ⟨by decide +kernel, rfl⟩
theorem dX9_start_43 : decode cX9_start 43 = .ok (.getfield 77, 3) ∧ 46 = 43 + 3 := ⟨by decide +kernel, rfl⟩
theorem dX9_start_46 : decode cX9_start 46 = .ok (.iload_n 1, 1) ∧ 47 = 46 + 1 := ⟨by decide +kernel, rfl⟩
theorem dX9_start_47 : decode cX9_start 47 = .ok (.invokevirtual 163, 3) ∧ 50 = 47 + 3 := ⟨by decide +kernel, rfl⟩
theorem dX9_start_50 : decode cX9_start 50 = .ok (.aload_n 0, 1) ∧ 51 = 50 + 1 := ⟨by decide +kernel, rfl⟩
theorem dX9_start_51 : decode cX9_start 51 = .ok (.invokevirtual 145, 3) ∧ 54 = 51 + 3 := ⟨by decide +kernel, rfl⟩
theorem dX9_start_54 : decode cX9_start 54 = .ok (.aload_n 0, 1) ∧ 55 = 54 + 1 := ⟨by decide +kernel, rfl⟩
theorem dX9_start_55 : decode cX9_start 55 = .ok (.getfield 73, 3) ∧ 58 = 55 + 3 := ⟨by decide +kernel, rfl⟩
theorem dX9_start_58 : decode cX9_start 58 = .ok (.getfield 166, 3) ∧ 61 = 58 + 3 := ⟨by decide +kernel, rfl⟩
theorem dX9_start_61 : decode cX9_start 61 = .ok (.aload_n 0, 1) ∧ 62 = 61 + 1 := ⟨by decide +kernel, rfl⟩
theorem dX9_start_62 : decode cX9_start 62 = .ok (.getfield 28, 3) ∧ 65 = 62 + 3 := ⟨by decide +kernel, rfl⟩
theorem dX9_start_65 : decode cX9_start 65 = .ok (.getfield 170, 3) ∧ 68 = 65 + 3 := ⟨by decide +kernel, rfl⟩
theorem dX9_start_68 : decode cX9_start 68 = .ok (.iload_n 1, 1) ∧ 69 = 68 + 1 := ⟨by decide +kernel, rfl⟩
theorem dX9_start_69 : decode cX9_start 69 = .ok (.iaload, 1) ∧ 70 = 69 + 1 := ⟨by decide +kernel, rfl⟩
theorem dX9_start_70 : decode cX9_start 70 = .ok (.iaload, 1) ∧ 71 = 70 + 1 := ⟨by decide +kernel, rfl⟩
theorem dX9_start_71 : decode cX9_start 71 = .ok (.ireturn, 1) ∧ 72 = 71 + 1 := ⟨by decide +kernel, rfl⟩
theorem dX9_stop_0 : decode cX9_stop 0 = .ok (.aload_n 0, 1) ∧ 1 = 0 + 1 := ⟨by decide +kernel, rfl⟩
theorem dX9_stop_1 : decode cX9_stop 1 = .ok (.getfield 28, 3) ∧ 4 = 1 + 3 := ⟨by decide +kernel, rfl⟩
theorem dX9_stop_4 : decode cX9_stop 4 = .ok (.iload_n 1, 1) ∧ 5 = 4 + 1 := ⟨by decide +kernel, rfl⟩
theorem dX9_stop_5 : decode cX9_stop 5 = .ok (.invokevirtual 157, 3) ∧ 8 = 5 + 3 := ⟨by decide +kernel, rfl⟩
theorem dX9_stop_8 : decode cX9_stop 8 = .ok (.ifCond .ne 11, 3) ∧ 11 = 8 + 3 := ⟨by decide +kernel, rfl⟩
theorem dX9_stop_11 : decode cX9_stop 11 = .ok (.new 132, 3) ∧ 14 = 11 + 3 := ⟨by decide +kernel, rfl⟩
theorem dX9_stop_14 : decode cX9_stop 14 = .ok (.dup, 1) ∧ 15 = 14 + 1 := ⟨by decide +kernel, rfl⟩
theorem dX9_stop_15 : decode cX9_stop 15 = .ok (.invokespecial 134, 3) ∧ 18 = 15 + 3 := ⟨by decide +kernel, rfl⟩
theorem dX9_stop_18 : decode cX9_stop 18 = .ok (.athrow, 1) ∧ 19 = 18 + 1 := ⟨by decide +kernel, rfl⟩
theorem dX9_stop_19 : decode cX9_stop 19 = .ok (.aload_n 0, 1) ∧ 20 = 19 + 1 := ⟨by decide +kernel, rfl⟩
theorem dX9_stop_20 : decode cX9_stop 20 = .ok (.getfield 73, 3) ∧ 23 = 20 + 3 := ⟨by decide +kernel, rfl⟩
theorem dX9_stop_23 : decode cX9_stop 23 = .ok (.iload_n 1, 1) ∧ 24 = 23 + 1 := ⟨by decide +kernel, rfl⟩
theorem dX9_stop_24 : decode cX9_stop 24 = .ok (.invokevirtual 173, 3) ∧ 27 = 24 + 3 := ⟨by decide +kernel, rfl⟩
theorem dX9_stop_27 : decode cX9_stop 27 = .ok (.ifCond .ne 11, 3) ∧ 30 = 27 + 3 := ⟨by decide +kernel, rfl⟩
theorem dX9_stop_30 : decode cX9_stop 30 = .ok (.new 96, 3) ∧ 33 = 30 + 3 := ⟨by decide +kernel, rfl⟩
theorem dX9_stop_33 : decode cX9_stop 33 = .ok (.dup, 1) ∧ 34 = 33 + 1 := ⟨by decide +kernel, rfl⟩
theorem dX9_stop_34 : decode cX9_stop 34 = .ok (.invokespecial 98, 3) ∧ 37 = 34 + 3 := ⟨by decide +kernel, rfl⟩
theorem dX9_stop_37 : decode cX9_stop 37 = .ok (.athrow, 1) ∧ 38 = 37 + 1 := ⟨by decide +kernel, rfl⟩
theorem dX9_stop_38 : decode cX9_stop 38 = .ok (.aload_n 0, 1) ∧ 39 = 38 + 1 := ⟨by decide +kernel, rfl⟩
theorem dX9_stop_39 : decode cX9_stop 39 = .ok (.invokevirtual 139, 3) ∧ 42 = 39 + 3 := ⟨by decide +kernel, rfl⟩
theorem dX9_stop_42 : decode cX9_stop 42 = .ok (.aload_n 0, 1) ∧ 43 = 42 + 1 := ⟨by decide +kernel, rfl⟩
theorem dX9_stop_43 : decode cX9_stop 43 = .ok (.getfield 77, 3) ∧ 46 = 43 + 3 := ⟨by decide +kernel, rfl⟩
theorem dX9_stop_46 : decode cX9_stop 46 = .ok (.iload_n 1, 1) ∧ 47 = 46 + 1 := ⟨by decide +kernel, rfl⟩
theorem dX9_stop_47 : decode cX9_stop 47 = .ok (.invokevirtual 176, 3) ∧ 50 = 47 + 3 := ⟨by decide +kernel, rfl⟩
theorem dX9_stop_50 : decode cX9_stop 50 = .ok (.aload_n 0, 1) ∧ 51 = 50 + 1 := ⟨by decide +kernel, rfl⟩
theorem dX9_stop_51 : decode cX9_stop 51 = .ok (.invokevirtual 145, 3) ∧ 54 = 51 + 3 := ⟨by decide +kernel, rfl⟩
theorem dX9_stop_54 : decode cX9_stop 54 = .ok (.aload_n 0, 1) ∧ 55 = 54 + 1 := ⟨by decide +kernel, rfl⟩
theorem dX9_stop_55 : decode cX9_stop 55 = .ok (.getfield 73, 3) ∧ 58 = 55 + 3 := ⟨by decide +kernel, rfl⟩
theorem dX9_stop_58 : decode cX9_stop 58 = .ok (.getfield 166, 3) ∧ 61 = 58 + 3 := ⟨by decide +kernel, rfl⟩
theorem dX9_stop_61 : decode cX9_stop 61 = .ok (.aload_n 0, 1) ∧ 62 = 61 + 1 := ⟨by decide +kernel, rfl⟩
theorem dX9_stop_62 : decode cX9_stop 62 = .ok (.getfield 28, 3) ∧ 65 = 62 + 3 := ⟨by decide +kernel, rfl⟩
theorem dX9_stop_65 : decode cX9_stop 65 = .ok (.getfield 170, 3) ∧ 68 = 65 + 3 := ⟨by decide +kernel, rfl⟩
theorem dX9_stop_68 : decode cX9_stop 68 = .ok (.iload_n 1, 1) ∧ 69 = 68 + 1 := ⟨by decide +kernel, rfl⟩
theorem dX9_stop_69 : decode cX9_stop 69 = .ok (.iaload, 1) ∧ 70 = 69 + 1 := ⟨by decide +kernel, rfl⟩
theorem dX9_stop_70 : decode cX9_stop 70 = .ok (.iaload, 1) ∧ 71 = 70 + 1 := ⟨by decide +kernel, rfl⟩
theorem dX9_stop_71 : decode cX9_stop 71 = .ok (.ireturn, 1) ∧ 72 = 71 + 1 := ⟨by decide +kernel, rfl⟩
theorem dX9_pass_0 : decode cX9_pass 0 = .ok (.iload_n 1, 1) ∧ 1 = 0 + 1 := ⟨by decide +kernel, rfl⟩
theorem dX9_pass_1 : decode cX9_pass 1 = .ok (.invokestatic 179, 3) ∧ 4 = 1 + 3 := ⟨by decide +kernel, rfl⟩
theorem dX9_pass_4 : decode cX9_pass 4 = .ok (.ifCond .ne 11, 3) ∧ 7 = 4 + 3 := ⟨by decide +kernel, rfl⟩
theorem dX9_pass_7 : decode cX9_pass 7 = .ok (.new 103, 3) ∧ 10 = 7 + 3 := ⟨by decide +kernel, rfl⟩
theorem dX9_pass_10 : decode cX9_pass 10 = .ok (.dup, 1) ∧ 11 = 10 + 1 := ⟨by decide +kernel, rfl⟩
theorem dX9_pass_11 : decode cX9_pass 11 = .ok (.invokespecial 105, 3) ∧ 14 = 11 + 3 := ⟨by decide +kernel, rfl⟩
theorem dX9_pass_14 : decode cX9_pass 14 = .ok (.athrow, 1) ∧ 15 = 14 + 1 := ⟨by decide +kernel, rfl⟩
theorem dX9_pass_15 : decode cX9_pass 15 = .ok (.aload_n 0, 1) ∧ 16 = 15 + 1 := ⟨by decide +kernel, rfl⟩
theorem dX9_pass_16 : decode cX9_pass 16 = .ok (.invokevirtual 139, 3) ∧ 19 = 16 + 3 := ⟨by decide +kernel, rfl⟩
theorem dX9_pass_19 : decode cX9_pass 19 = .ok (.aload_n 0, 1) ∧ 20 = 19 + 1 := ⟨by decide +kernel, rfl⟩
theorem dX9_pass_20 : decode cX9_pass 20 = .ok (.getfield 77, 3) ∧ 23 = 20 + 3 := ⟨by decide +kernel, rfl⟩
theorem dX9_pass_23 : decode cX9_pass 23 = .ok (.iload_n 1, 1) ∧ 24 = 23 + 1 := ⟨by decide +kernel, rfl⟩
theorem dX9_pass_24 : decode cX9_pass 24 = .ok (.invokevirtual 182, 3) ∧ 27 = 24 + 3 := ⟨by decide +kernel, rfl⟩
theorem dX9_pass_27 : decode cX9_pass 27 = .ok (.istore_n 2, 1) ∧ 28 = 27 + 1 := ⟨by decide +kernel, rfl⟩
theorem dX9_pass_28 : decode cX9_pass 28 = .ok (.aload_n 0, 1) ∧ 29 = 28 + 1 := ⟨by decide +kernel, rfl⟩
theorem dX9_pass_29 : decode cX9_pass 29 = .ok (.invokevirtual 145, 3) ∧ 32 = 29 + 3 := ⟨by decide +kernel, rfl⟩
theorem dX9_pass_32 : decode cX9_pass 32 = .ok (.iload_n 2, 1) ∧ 33 = 32 + 1 := ⟨by decide +kernel, rfl⟩
theorem dX9_pass_33 : decode cX9_pass 33 = .ok (.ireturn, 1) ∧ 34 = 33 + 1 := ⟨by decide +kernel, rfl⟩
theorem dX9_passUntil_0 : decode cX9_passUntil 0 = .ok (.aload_n 0, 1) ∧ 1 = 0 + 1 := ⟨by decide +kernel, rfl⟩
theorem dX9_passUntil_1 : decode cX9_passUntil 1 = .ok (.getfield 28, 3) ∧ 4 = 1 + 3 := ⟨by decide +kernel, rfl⟩
theorem dX9_passUntil_4 : decode cX9_passUntil 4 = .ok (.iload_n 1, 1) ∧ 5 = 4 + 1 := ⟨by decide +kernel, rfl⟩
theorem dX9_passUntil_5 : decode cX9_passUntil 5 = .ok (.invokevirtual 185, 3) ∧ 8 = 5 + 3 := ⟨by decide +kernel, rfl⟩
theorem dX9_passUntil_8 : decode cX9_passUntil 8 = .ok (.ifCond .ne 11, 3) ∧ 11 = 8 + 3 := ⟨by decide +kernel, rfl⟩
theorem dX9_passUntil_11 : decode cX9_passUntil 11 = .ok (.new 132, 3) ∧ 14 = 11 + 3 := ⟨by decide +kernel, rfl⟩
theorem dX9_passUntil_14 : decode cX9_passUntil 14 = .ok (.dup, 1) ∧ 15 = 14 + 1 := ⟨by decide +kernel, rfl⟩
theorem dX9_passUntil_15 : decode cX9_passUntil 15 = .ok (.invokespecial 134, 3) ∧ 18 = 15 + 3 := ⟨by decide +kernel, rfl⟩
theorem dX9_passUntil_18 : decode cX9_passUntil 18 = .ok (.athrow, 1) ∧ 19 = 18 + 1 := ⟨by decide +kernel, rfl⟩
theorem dX9_passUntil_19 : decode cX9_passUntil 19 = .ok (.iload_n 2, 1) ∧ 20 = 19 + 1 := ⟨by decide +kernel, rfl⟩
theorem dX9_passUntil_20 : decode cX9_passUntil 20 = .ok (.invokestatic 188, 3) ∧ 23 = 20 + 3 := ⟨by decide +kernel, rfl⟩
theorem dX9_passUntil_23 : decode cX9_passUntil 23 = .ok (.ifCond .ne 11, 3) ∧ 26 = 23 + 3 := ⟨by decide +kernel, rfl⟩
theorem dX9_passUntil_26 : decode cX9_passUntil 26 = .ok (.new 103, 3) ∧ 29 = 26 + 3 := ⟨by decide +kernel, rfl⟩
theorem dX9_passUntil_29 : decode cX9_passUntil 29 = .ok (.dup, 1) ∧ 30 = 29 + 1 := ⟨by decide +kernel, rfl⟩
theorem dX9_passUntil_30 : decode cX9_passUntil 30 = .ok (.invokespecial 105, 3) ∧ 33 = 30 + 3 := ⟨by decide +kernel, rfl⟩
theorem dX9_passUntil_33 : decode cX9_passUntil 33 = .ok (.athrow, 1) ∧ 34 = 33 + 1 := ⟨by decide +kernel, rfl⟩
theorem dX9_passUntil_34 : decode cX9_passUntil 34 = .ok (.aload_n 0, 1) ∧ 35 = 34 + 1 := ⟨by decide +kernel, rfl⟩
theorem dX9_passUntil_35 : decode cX9_passUntil 35 = .ok (.invokevirtual 139, 3) ∧ 38 = 35 + 3 := ⟨by decide +kernel, rfl⟩
theorem dX9_passUntil_38 : decode cX9_passUntil 38 = .ok (.aload_n 0, 1) ∧ 39 = 38 + 1 := ⟨by decide +kernel, rfl⟩
theorem dX9_passUntil_39 : decode cX9_passUntil 39 = .ok (.getfield 77, 3) ∧ 42 = 39 + 3 := ⟨by decide +kernel, rfl⟩
theorem dX9_passUntil_42 : decode cX9_passUntil 42 = .ok (.iload_n 1, 1) ∧ 43 = 42 + 1 := ⟨by decide +kernel, rfl⟩
theorem dX9_passUntil_43 : decode cX9_passUntil 43 = .ok (.iload_n 2, 1) ∧ 44 = 43 + 1 := ⟨by decide +kernel, rfl⟩
theorem dX9_passUntil_44 : decode cX9_passUntil 44 = .ok (.invokevirtual 191, 3) ∧ 47 = 44 + 3 := ⟨by decide +kernel, rfl⟩
theorem dX9_passUntil_47 : decode cX9_passUntil 47 = .ok (.istore_n 3, 1) ∧ 48 = 47 + 1 := ⟨by decide +kernel, rfl⟩
theorem dX9_passUntil_48 : decode cX9_passUntil 48 = .ok (.iload_n 3, 1) ∧ 49 = 48 + 1 := ⟨by decide +kernel, rfl⟩
theorem dX9_passUntil_49 : decode cX9_passUntil 49 = .ok (.iconst (-1), 1) ∧ 50 = 49 + 1 := ⟨by decide +kernel, rfl⟩
theorem dX9_passUntil_50 : decode cX9_passUntil 50 = .ok (.if_icmp .ne 11, 3) ∧ 53 = 50 + 3 := ⟨by decide +kernel, rfl⟩
theorem dX9_passUntil_53 : decode cX9_passUntil 53 = .ok (.new 96, 3) ∧ 56 = 53 + 3 := ⟨by decide +kernel, rfl⟩
theorem dX9_passUntil_56 : decode cX9_passUntil 56 = .ok (.dup, 1) ∧ 57 = 56 + 1 := ⟨by decide +kernel, rfl⟩
theorem dX9_passUntil_57 : decode cX9_passUntil 57 = .ok (.invokespecial 98, 3) ∧ 60 = 57 + 3 := ⟨by decide +kernel, rfl⟩
theorem dX9_passUntil_60 : decode cX9_passUntil 60 = .ok (.athrow, 1) ∧ 61 = 60 + 1 := ⟨by decide +kernel, rfl⟩
theorem dX9_passUntil_61 : decode cX9_passUntil 61 = .ok (.aload_n 0, 1) ∧ 62 = 61 + 1 := ⟨by decide +kernel, rfl⟩
theorem dX9_passUntil_62 : decode cX9_passUntil 62 = .ok (.invokevirtual 145, 3) ∧ 65 = 62 + 3 := ⟨by decide +kernel, rfl⟩
theorem dX9_passUntil_65 : decode cX9_passUntil 65 = .ok (.iload_n 3, 1) ∧ 66 = 65 + 1 := ⟨by decide +kernel, rfl⟩
theorem dX9_passUntil_66 : decode cX9_passUntil 66 = .ok (.ireturn, 1) ∧ 67 = 66 + 1 := ⟨by decide +kernel, rfl⟩
theorem dX9_seal_0 : decode cX9_seal 0 = .ok (.aload_n 0, 1) ∧ 1 = 0 + 1 := ⟨by decide +kernel, rfl⟩
theorem dX9_seal_1 : decode cX9_seal 1 = .ok (.getfield 28, 3) ∧ 4 = 1 + 3 := ⟨by decide +kernel, rfl⟩
theorem dX9_seal_4 : decode cX9_seal 4 = .ok (.iload_n 1, 1) ∧ 5 = 4 + 1 := ⟨by decide +kernel, rfl⟩
theorem dX9_seal_5 : decode cX9_seal 5 = .ok (.invokevirtual 195, 3) ∧ 8 = 5 + 3 := ⟨by decide +kernel, rfl⟩
theorem dX9_seal_8 : decode cX9_seal 8 = .ok (.ifCond .ne 11, 3) ∧ 11 = 8 + 3 := ⟨by decide +kernel, rfl⟩
theorem dX9_seal_11 : decode cX9_seal 11 = .ok (.new 132, 3) ∧ 14 = 11 + 3 := ⟨by decide +kernel, rfl⟩
theorem dX9_seal_14 : decode cX9_seal 14 = .ok (.dup, 1) ∧ 15 = 14 + 1 := ⟨by decide +kernel, rfl⟩
theorem dX9_seal_15 : decode cX9_seal 15 = .ok (.invokespecial 134, 3) ∧ 18 = 15 + 3 := ⟨by decide +kernel, rfl⟩
theorem dX9_seal_18 : decode cX9_seal 18 = .ok (.athrow, 1) ∧ 19 = 18 + 1 := ⟨by decide +kernel, rfl⟩
theorem dX9_seal_19 : decode cX9_seal 19 = .ok (.aload_n 0, 1) ∧ 20 = 19 + 1 := ⟨by decide +kernel, rfl⟩
theorem dX9_seal_20 : decode cX9_seal 20 = .ok (.iload_n 1, 1) ∧ 21 = 20 + 1 := ⟨by decide +kernel, rfl⟩
theorem dX9_seal_21 : decode cX9_seal 21 = .ok (.iconst 0, 1) ∧ 22 = 21 + 1 := ⟨by decide +kernel, rfl⟩
theorem dX9_seal_22 : decode cX9_seal 22 = .ok (.invokevirtual 198, 3) ∧ 25 = 22 + 3 := ⟨by decide +kernel, rfl⟩
theorem dX9_seal_25 : decode cX9_seal 25 = .ok (.ireturn, 1) ∧ 26 = 25 + 1 := ⟨by decide +kernel, rfl⟩
theorem dX9_setLeak_0 : decode cX9_setLeak 0 = .ok (.aload_n 0, 1) ∧ 1 = 0 + 1 := ⟨by decide +kernel, rfl⟩
theorem dX9_setLeak_1 : decode cX9_setLeak 1 = .ok (.getfield 28, 3) ∧ 4 = 1 + 3 := ⟨by decide +kernel, rfl⟩
theorem dX9_setLeak_4 : decode cX9_setLeak 4 = .ok (.iload_n 1, 1) ∧ 5 = 4 + 1 := ⟨by decide +kernel, rfl⟩
theorem dX9_setLeak_5 : decode cX9_setLeak 5 = .ok (.invokevirtual 195, 3) ∧ 8 = 5 + 3 := ⟨by decide +kernel, rfl⟩
theorem dX9_setLeak_8 : decode cX9_setLeak 8 = .ok (.ifCond .ne 11, 3) ∧ 11 = 8 + 3 := ⟨by decide +kernel, rfl⟩
theorem dX9_setLeak_11 : decode cX9_setLeak 11 = .ok (.new 132, 3) ∧ 14 = 11 + 3 := ⟨by decide +kernel, rfl⟩
theorem dX9_setLeak_14 : decode cX9_setLeak 14 = .ok (.dup, 1) ∧ 15 = 14 + 1 := ⟨by decide +kernel, rfl⟩
theorem dX9_setLeak_15 : decode cX9_setLeak 15 = .ok (.invokespecial 134, 3) ∧ 18 = 15 + 3 := ⟨by decide +kernel, rfl⟩
theorem dX9_setLeak_18 : decode cX9_setLeak 18 = .ok (.athrow, 1) ∧ 19 = 18 + 1 := ⟨by decide +kernel, rfl⟩
theorem dX9_setLeak_19 : decode cX9_setLeak 19 = .ok (.iload_n 2, 1) ∧ 20 = 19 + 1 := ⟨by decide +kernel, rfl⟩
theorem dX9_setLeak_20 : decode cX9_setLeak 20 = .ok (.ifCond .lt 10, 3) ∧ 23 = 20 + 3 := ⟨by decide +kernel, rfl⟩
theorem dX9_setLeak_23 : decode cX9_setLeak 23 = .ok (.iload_n 2, 1) ∧ 24 = 23 + 1 := ⟨by decide +kernel, rfl⟩
theorem dX9_setLeak_24 : decode cX9_setLeak 24 = .ok (.sipush 9999, 3) ∧ 27 = 24 + 3 := ⟨by decide +kernel, rfl⟩
theorem dX9_setLeak_27 : decode cX9_setLeak 27 = .ok (.if_icmp .le 11, 3) ∧ 30 = 27 + 3 := ⟨by decide +kernel, rfl⟩
theorem dX9_setLeak_30 : decode cX9_setLeak 30 = .ok (.new 103, 3) ∧ 33 = 30 + 3 := ⟨by decide +kernel, rfl⟩
theorem dX9_setLeak_33 : decode cX9_setLeak 33 = .ok (.dup, 1) ∧ 34 = 33 + 1 := ⟨by decide +kernel, rfl⟩
theorem dX9_setLeak_34 : decode cX9_setLeak 34 = .ok (.invokespecial 105, 3) ∧ 37 = 34 + 3 := ⟨by decide +kernel, rfl⟩
theorem dX9_setLeak_37 : decode cX9_setLeak 37 = .ok (.athrow, 1) ∧ 38 = 37 + 1 := ⟨by decide +kernel, rfl⟩
theorem dX9_setLeak_38 : decode cX9_setLeak 38 = .ok (.aload_n 0, 1) ∧ 39 = 38 + 1 := ⟨by decide +kernel, rfl⟩
theorem dX9_setLeak_39 : decode cX9_setLeak 39 = .ok (.iload_n 1, 1) ∧ 40 = 39 + 1 := ⟨by decide +kernel, rfl⟩
theorem dX9_setLeak_40 : decode cX9_setLeak 40 = .ok (.iload_n 2, 1) ∧ 41 = 40 + 1 := ⟨by decide +kernel, rfl⟩
theorem dX9_setLeak_41 : decode cX9_setLeak 41 = .ok (.invokevirtual 198, 3) ∧ 44 = 41 + 3 := ⟨by decide +kernel, rfl⟩
theorem dX9_setLeak_44 : decode cX9_setLeak 44 = .ok (.ireturn, 1) ∧ 45 = 44 + 1 := ⟨by decide +kernel, rfl⟩
theorem dX9_setRule_0 : decode cX9_setRule 0 = .ok (.aload_n 0, 1) ∧ 1 = 0 + 1 := ⟨by decide +kernel, rfl⟩
theorem dX9_setRule_1 : decode cX9_setRule 1 = .ok (.getfield 28, 3) ∧ 4 = 1 + 3 := ⟨by decide +kernel, rfl⟩
theorem dX9_setRule_4 : decode cX9_setRule 4 = .ok (.iload_n 1, 1) ∧ 5 = 4 + 1 := ⟨by decide +kernel, rfl⟩
theorem dX9_setRule_5 : decode cX9_setRule 5 = .ok (.invokevirtual 128, 3) ∧ 8 = 5 + 3 := ⟨by decide +kernel, rfl⟩
theorem dX9_setRule_8 : decode cX9_setRule 8 = .ok (.ifCond .ne 11, 3) ∧ 11 = 8 + 3 := ⟨by decide +kernel, rfl⟩
theorem dX9_setRule_11 : decode cX9_setRule 11 = .ok (.new 132, 3) ∧ 14 = 11 + 3 := ⟨by decide +kernel, rfl⟩
theorem dX9_setRule_14 : decode cX9_setRule 14 = .ok (.dup, 1) ∧ 15 = 14 + 1 := ⟨by decide +kernel, rfl⟩
theorem dX9_setRule_15 : decode cX9_setRule 15 = .ok (.invokespecial 134, 3) ∧ 18 = 15 + 3 := ⟨by decide +kernel, rfl⟩
theorem dX9_setRule_18 : decode cX9_setRule 18 = .ok (.athrow, 1) ∧ 19 = 18 + 1 := ⟨by decide +kernel, rfl⟩
theorem dX9_setRule_19 : decode cX9_setRule 19 = .ok (.iload_n 2, 1) ∧ 20 = 19 + 1 := ⟨by decide +kernel, rfl⟩
theorem dX9_setRule_20 : decode cX9_setRule 20 = .ok (.invokestatic 188, 3) ∧ 23 = 20 + 3 := ⟨by decide +kernel, rfl⟩
theorem dX9_setRule_23 : decode cX9_setRule 23 = .ok (.ifCond .ne 11, 3) ∧ 26 = 23 + 3 := ⟨by decide +kernel, rfl⟩
theorem dX9_setRule_26 : decode cX9_setRule 26 = .ok (.new 103, 3) ∧ 29 = 26 + 3 := ⟨by decide +kernel, rfl⟩
theorem dX9_setRule_29 : decode cX9_setRule 29 = .ok (.dup, 1) ∧ 30 = 29 + 1 := ⟨by decide +kernel, rfl⟩
theorem dX9_setRule_30 : decode cX9_setRule 30 = .ok (.invokespecial 105, 3) ∧ 33 = 30 + 3 := ⟨by decide +kernel, rfl⟩
theorem dX9_setRule_33 : decode cX9_setRule 33 = .ok (.athrow, 1) ∧ 34 = 33 + 1 := ⟨by decide +kernel, rfl⟩
theorem dX9_setRule_34 : decode cX9_setRule 34 = .ok (.aload_n 0, 1) ∧ 35 = 34 + 1 := ⟨by decide +kernel, rfl⟩
theorem dX9_setRule_35 : decode cX9_setRule 35 = .ok (.getfield 73, 3) ∧ 38 = 35 + 3 := ⟨by decide +kernel, rfl⟩
theorem dX9_setRule_38 : decode cX9_setRule 38 = .ok (.getfield 204, 3) ∧ 41 = 38 + 3 := ⟨by decide +kernel, rfl⟩
theorem dX9_setRule_41 : decode cX9_setRule 41 = .ok (.iload_n 1, 1) ∧ 42 = 41 + 1 := ⟨by decide +kernel, rfl⟩
theorem dX9_setRule_42 : decode cX9_setRule 42 = .ok (.iaload, 1) ∧ 43 = 42 + 1 := ⟨by decide +kernel, rfl⟩
theorem dX9_setRule_43 : decode cX9_setRule 43 = .ok (.istore_n 3, 1) ∧ 44 = 43 + 1 := ⟨by decide +kernel, rfl⟩
theorem dX9_setRule_44 : decode cX9_setRule 44 = .ok (.aload_n 0, 1) ∧ 45 = 44 + 1 := ⟨by decide +kernel, rfl⟩
theorem dX9_setRule_45 : decode cX9_setRule 45 = .ok (.invokevirtual 139, 3) ∧ 48 = 45 + 3 := ⟨by decide +kernel, rfl⟩
theorem dX9_setRule_48 : decode cX9_setRule 48 = .ok (.aload_n 0, 1) ∧ 49 = 48 + 1 := ⟨by decide +kernel, rfl⟩
theorem dX9_setRule_49 : decode cX9_setRule 49 = .ok (.getfield 77, 3) ∧ 52 = 49 + 3 := ⟨by decide +kernel, rfl⟩
theorem dX9_setRule_52 : decode cX9_setRule 52 = .ok (.getfield 204, 3) ∧ 55 = 52 + 3 := ⟨by decide +kernel, rfl⟩
theorem dX9_setRule_55 : decode cX9_setRule 55 = .ok (.iload_n 1, 1) ∧ 56 = 55 + 1 := ⟨by decide +kernel, rfl⟩
theorem dX9_setRule_56 : decode cX9_setRule 56 = .ok (.iload_n 2, 1) ∧ 57 = 56 + 1 := ⟨by decide +kernel, rfl⟩
theorem dX9_setRule_57 : decode cX9_setRule 57 = .ok (.iastore, 1) ∧ 58 = 57 + 1 := ⟨by decide +kernel, rfl⟩
theorem dX9_setRule_58 : decode cX9_setRule 58 = .ok (.aload_n 0, 1) ∧ 59 = 58 + 1 := ⟨by decide +kernel, rfl⟩
theorem dX9_setRule_59 : decode cX9_setRule 59 = .ok (.invokevirtual 145, 3) ∧ 62 = 59 + 3 := ⟨by decide +kernel, rfl⟩
theorem dX9_setRule_62 : decode cX9_setRule 62 = .ok (.iload_n 3, 1) ∧ 63 = 62 + 1 := ⟨by decide +kernel, rfl⟩
theorem dX9_setRule_63 : decode cX9_setRule 63 = .ok (.ireturn, 1) ∧ 64 = 63 + 1 := ⟨by decide +kernel, rfl⟩
theorem dX9_test_0 : decode cX9_test 0 = .ok (.aload_n 0, 1) ∧ 1 = 0 + 1 := ⟨by decide +kernel, rfl⟩
theorem dX9_test_1 : decode cX9_test 1 = .ok (.getfield 28, 3) ∧ 4 = 1 + 3 := ⟨by decide +kernel, rfl⟩
theorem dX9_test_4 : decode cX9_test 4 = .ok (.iload_n 1, 1) ∧ 5 = 4 + 1 := ⟨by decide +kernel, rfl⟩
theorem dX9_test_5 : decode cX9_test 5 = .ok (.invokevirtual 185, 3) ∧ 8 = 5 + 3 := ⟨by decide +kernel, rfl⟩
theorem dX9_test_8 : decode cX9_test 8 = .ok (.ifCond .ne 11, 3) ∧ 11 = 8 + 3 := ⟨by decide +kernel, rfl⟩
theorem dX9_test_11 : decode cX9_test 11 = .ok (.new 132, 3) ∧ 14 = 11 + 3 := ⟨by decide +kernel, rfl⟩
theorem dX9_test_14 : decode cX9_test 14 = .ok (.dup, 1) ∧ 15 = 14 + 1 := ⟨by decide +kernel, rfl⟩
theorem dX9_test_15 : decode cX9_test 15 = .ok (.invokespecial 134, 3) ∧ 18 = 15 + 3 := ⟨by decide +kernel, rfl⟩
theorem dX9_test_18 : decode cX9_test 18 = .ok (.athrow, 1) ∧ 19 = 18 + 1 := ⟨by decide +kernel, rfl⟩
theorem dX9_test_19 : decode cX9_test 19 = .ok (.iload_n 2, 1) ∧ 20 = 19 + 1 := ⟨by decide +kernel, rfl⟩
theorem dX9_test_20 : decode cX9_test 20 = .ok (.invokestatic 207, 3) ∧ 23 = 20 + 3 := ⟨by decide +kernel, rfl⟩
theorem dX9_test_23 : decode cX9_test 23 = .ok (.ifCond .ne 11, 3) ∧ 26 = 23 + 3 := ⟨by decide +kernel, rfl⟩
theorem dX9_test_26 : decode cX9_test 26 = .ok (.new 103, 3) ∧ 29 = 26 + 3 := ⟨by decide +kernel, rfl⟩
theorem dX9_test_29 : decode cX9_test 29 = .ok (.dup, 1) ∧ 30 = 29 + 1 := ⟨by decide +kernel, rfl⟩
theorem dX9_test_30 : decode cX9_test 30 = .ok (.invokespecial 105, 3) ∧ 33 = 30 + 3 := ⟨by decide +kernel, rfl⟩
theorem dX9_test_33 : decode cX9_test 33 = .ok (.athrow, 1) ∧ 34 = 33 + 1 := ⟨by decide +kernel, rfl⟩
theorem dX9_test_34 : decode cX9_test 34 = .ok (.aload_n 0, 1) ∧ 35 = 34 + 1 := ⟨by decide +kernel, rfl⟩
theorem dX9_test_35 : decode cX9_test 35 = .ok (.getfield 73, 3) ∧ 38 = 35 + 3 := ⟨by decide +kernel, rfl⟩
theorem dX9_test_38 : decode cX9_test 38 = .ok (.iload_n 1, 1) ∧ 39 = 38 + 1 := ⟨by decide +kernel, rfl⟩
theorem dX9_test_39 : decode cX9_test 39 = .ok (.invokevirtual 210, 3) ∧ 42 = 39 + 3 := ⟨by decide +kernel, rfl⟩
theorem dX9_test_42 : decode cX9_test 42 = .ok (.ifCond .ne 11, 3) ∧ 45 = 42 + 3 := ⟨by decide +kernel, rfl⟩
theorem dX9_test_45 : decode cX9_test 45 = .ok (.new 96, 3) ∧ 48 = 45 + 3 := ⟨by decide +kernel, rfl⟩
theorem dX9_test_48 : decode cX9_test 48 = .ok (.dup, 1) ∧ 49 = 48 + 1 := ⟨by decide +kernel, rfl⟩
theorem dX9_test_49 : decode cX9_test 49 = .ok (.invokespecial 98, 3) ∧ 52 = 49 + 3 := ⟨by decide +kernel, rfl⟩
theorem dX9_test_52 : decode cX9_test 52 = .ok (.athrow, 1) ∧ 53 = 52 + 1 := ⟨by decide +kernel, rfl⟩
theorem dX9_test_53 : decode cX9_test 53 = .ok (.aload_n 0, 1) ∧ 54 = 53 + 1 := ⟨by decide +kernel, rfl⟩
theorem dX9_test_54 : decode cX9_test 54 = .ok (.invokevirtual 139, 3) ∧ 57 = 54 + 3 := ⟨by decide +kernel, rfl⟩
theorem dX9_test_57 : decode cX9_test 57 = .ok (.aload_n 0, 1) ∧ 58 = 57 + 1 := ⟨by decide +kernel, rfl⟩
theorem dX9_test_58 : decode cX9_test 58 = .ok (.getfield 77, 3) ∧ 61 = 58 + 3 := ⟨by decide +kernel, rfl⟩
theorem dX9_test_61 : decode cX9_test 61 = .ok (.iload_n 1, 1) ∧ 62 = 61 + 1 := ⟨by decide +kernel, rfl⟩
theorem dX9_test_62 : decode cX9_test 62 = .ok (.iload_n 2, 1) ∧ 63 = 62 + 1 := ⟨by decide +kernel, rfl⟩
theorem dX9_test_63 : decode cX9_test 63 = .ok (.invokevirtual 213, 3) ∧ 66 = 63 + 3 := ⟨by decide +kernel, rfl⟩
theorem dX9_test_66 : decode cX9_test 66 = .ok (.istore_n 3, 1) ∧ 67 = 66 + 1 := ⟨by decide +kernel, rfl⟩
theorem dX9_test_67 : decode cX9_test 67 = .ok (.aload_n 0, 1) ∧ 68 = 67 + 1 := ⟨by decide +kernel, rfl⟩
theorem dX9_test_68 : decode cX9_test 68 = .ok (.invokevirtual 145, 3) ∧ 71 = 68 + 3 := ⟨by decide +kernel, rfl⟩
theorem dX9_test_71 : decode cX9_test 71 = .ok (.iload_n 3, 1) ∧ 72 = 71 + 1 := ⟨by decide +kernel, rfl⟩
theorem dX9_test_72 : decode cX9_test 72 = .ok (.ireturn, 1) ∧ 73 = 72 + 1 := ⟨by decide +kernel, rfl⟩
theorem dX9_count_0 : decode cX9_count 0 = .ok (.iload_n 1, 1) ∧ 1 = 0 + 1 := ⟨by decide +kernel, rfl⟩
theorem dX9_count_1 : decode cX9_count 1 = .ok (.tableswitch 134 0 7 #[47, 55, 63, 71, 79, 87, 105, 123], 47) ∧ 48 = 1 + 47 := ⟨by decide +kernel, rfl⟩
theorem dX9_count_48 : decode cX9_count 48 = .ok (.aload_n 0, 1) ∧ 49 = 48 + 1 := ⟨by decide +kernel, rfl⟩
theorem dX9_count_49 : decode cX9_count 49 = .ok (.getfield 28, 3) ∧ 52 = 49 + 3 := ⟨by decide +kernel, rfl⟩
theorem dX9_count_52 : decode cX9_count 52 = .ok (.getfield 125, 3) ∧ 55 = 52 + 3 := ⟨by decide +kernel, rfl⟩
theorem dX9_count_55 : decode cX9_count 55 = .ok (.ireturn, 1) ∧ 56 = 55 + 1 := ⟨by decide +kernel, rfl⟩
theorem dX9_count_56 : decode cX9_count 56 = .ok (.aload_n 0, 1) ∧ 57 = 56 + 1 := ⟨by decide +kernel, rfl⟩
theorem dX9_count_57 : decode cX9_count 57 = .ok (.getfield 28, 3) ∧ 60 = 57 + 3 := ⟨by decide +kernel, rfl⟩
theorem dX9_count_60 : decode cX9_count 60 = .ok (.getfield 220, 3) ∧ 63 = 60 + 3 := ⟨by decide +kernel, rfl⟩
theorem dX9_count_63 : decode cX9_count 63 = .ok (.ireturn, 1) ∧ 64 = 63 + 1 := ⟨by decide +kernel, rfl⟩
theorem dX9_count_64 : decode cX9_count 64 = .ok (.aload_n 0, 1) ∧ 65 = 64 + 1 := ⟨by decide +kernel, rfl⟩
theorem dX9_count_65 : decode cX9_count 65 = .ok (.getfield 28, 3) ∧ 68 = 65 + 3 := ⟨by decide +kernel, rfl⟩
theorem dX9_count_68 : decode cX9_count 68 = .ok (.getfield 223, 3) ∧ 71 = 68 + 3 := ⟨by decide +kernel, rfl⟩
theorem dX9_count_71 : decode cX9_count 71 = .ok (.ireturn, 1) ∧ 72 = 71 + 1 := ⟨by decide +kernel, rfl⟩
theorem dX9_count_72 : decode cX9_count 72 = .ok (.aload_n 0, 1) ∧ 73 = 72 + 1 := ⟨by decide +kernel, rfl⟩
theorem dX9_count_73 : decode cX9_count 73 = .ok (.getfield 28, 3) ∧ 76 = 73 + 3 := ⟨by decide +kernel, rfl⟩
theorem dX9_count_76 : decode cX9_count 76 = .ok (.getfield 226, 3) ∧ 79 = 76 + 3 := ⟨by decide +kernel, rfl⟩
theorem dX9_count_79 : decode cX9_count 79 = .ok (.ireturn, 1) ∧ 80 = 79 + 1 := ⟨by decide +kernel, rfl⟩
theorem dX9_count_80 : decode cX9_count 80 = .ok (.aload_n 0, 1) ∧ 81 = 80 + 1 := ⟨by decide +kernel, rfl⟩
theorem dX9_count_81 : decode cX9_count 81 = .ok (.getfield 73, 3) ∧ 84 = 81 + 3 := ⟨by decide +kernel, rfl⟩
theorem dX9_count_84 : decode cX9_count 84 = .ok (.getfield 229, 3) ∧ 87 = 84 + 3 := ⟨by decide +kernel, rfl⟩
theorem dX9_count_87 : decode cX9_count 87 = .ok (.ireturn, 1) ∧ 88 = 87 + 1 := ⟨by decide +kernel, rfl⟩
theorem dX9_count_88 : decode cX9_count 88 = .ok (.aload_n 0, 1) ∧ 89 = 88 + 1 := ⟨by decide +kernel, rfl⟩
theorem dX9_count_89 : decode cX9_count 89 = .ok (.getfield 73, 3) ∧ 92 = 89 + 3 := ⟨by decide +kernel, rfl⟩
theorem dX9_count_92 : decode cX9_count 92 = .ok (.getfield 232, 3) ∧ 95 = 92 + 3 := ⟨by decide +kernel, rfl⟩
theorem dX9_count_95 : decode cX9_count 95 = .ok (.aload_n 0, 1) ∧ 96 = 95 + 1 := ⟨by decide +kernel, rfl⟩
theorem dX9_count_96 : decode cX9_count 96 = .ok (.getfield 28, 3) ∧ 99 = 96 + 3 := ⟨by decide +kernel, rfl⟩
theorem dX9_count_99 : decode cX9_count 99 = .ok (.getfield 223, 3) ∧ 102 = 99 + 3 := ⟨by decide +kernel, rfl⟩
theorem dX9_count_102 : decode cX9_count 102 = .ok (.invokestatic 235, 3) ∧ 105 = 102 + 3 := ⟨by decide +kernel, rfl⟩
theorem dX9_count_105 : decode cX9_count 105 = .ok (.ireturn, 1) ∧ 106 = 105 + 1 := ⟨by decide +kernel, rfl⟩
theorem dX9_count_106 : decode cX9_count 106 = .ok (.aload_n 0, 1) ∧ 107 = 106 + 1 := ⟨by decide +kernel, rfl⟩
theorem dX9_count_107 : decode cX9_count 107 = .ok (.getfield 73, 3) ∧ 110 = 107 + 3 := ⟨by decide +kernel, rfl⟩
theorem dX9_count_110 : decode cX9_count 110 = .ok (.getfield 239, 3) ∧ 113 = 110 + 3 := ⟨by decide +kernel, rfl⟩
theorem dX9_count_113 : decode cX9_count 113 = .ok (.aload_n 0, 1) ∧ 114 = 113 + 1 := ⟨by decide +kernel, rfl⟩
theorem dX9_count_114 : decode cX9_count 114 = .ok (.getfield 28, 3) ∧ 117 = 114 + 3 := ⟨by decide +kernel, rfl⟩
theorem dX9_count_117 : decode cX9_count 117 = .ok (.getfield 220, 3) ∧ 120 = 117 + 3 := ⟨by decide +kernel, rfl⟩
theorem dX9_count_120 : decode cX9_count 120 = .ok (.invokestatic 235, 3) ∧ 123 = 120 + 3 := ⟨by decide +kernel, rfl⟩
theorem dX9_count_123 : decode cX9_count 123 = .ok (.ireturn, 1) ∧ 124 = 123 + 1 := ⟨by decide +kernel, rfl⟩
theorem dX9_count_124 : decode cX9_count 124 = .ok (.aload_n 0, 1) ∧ 125 = 124 + 1 := ⟨by decide +kernel, rfl⟩
theorem dX9_count_125 : decode cX9_count 125 = .ok (.getfield 73, 3) ∧ 128 = 125 + 3 := ⟨by decide +kernel, rfl⟩
theorem dX9_count_128 : decode cX9_count 128 = .ok (.getfield 242, 3) ∧ 131 = 128 + 3 := ⟨by decide +kernel, rfl⟩
theorem dX9_count_131 : decode cX9_count 131 = .ok (.getfield 246, 3) ∧ 134 = 131 + 3 := ⟨by decide +kernel, rfl⟩
theorem dX9_count_134 : decode cX9_count 134 = .ok (.ireturn, 1) ∧ 135 = 134 + 1 := ⟨by decide +kernel, rfl⟩
theorem dX9_count_135 : decode cX9_count 135 = .ok (.new 103, 3) ∧ 138 = 135 + 3 := ⟨by decide +kernel, rfl⟩
theorem dX9_count_138 : decode cX9_count 138 = .ok (.dup, 1) ∧ 139 = 138 + 1 := ⟨by decide +kernel, rfl⟩
theorem dX9_count_139 : decode cX9_count 139 = .ok (.invokespecial 105, 3) ∧ 142 = 139 + 3 := ⟨by decide +kernel, rfl⟩
theorem dX9_count_142 : decode cX9_count 142 = .ok (.athrow, 1) ∧ 143 = 142 + 1 := ⟨by decide +kernel, rfl⟩
theorem dX9_chamber_0 : decode cX9_chamber 0 = .ok (.aload_n 0, 1) ∧ 1 = 0 + 1 := ⟨by decide +kernel, rfl⟩
theorem dX9_chamber_1 : decode cX9_chamber 1 = .ok (.getfield 28, 3) ∧ 4 = 1 + 3 := ⟨by decide +kernel, rfl⟩
theorem dX9_chamber_4 : decode cX9_chamber 4 = .ok (.iload_n 1, 1) ∧ 5 = 4 + 1 := ⟨by decide +kernel, rfl⟩
theorem dX9_chamber_5 : decode cX9_chamber 5 = .ok (.invokevirtual 185, 3) ∧ 8 = 5 + 3 := ⟨by decide +kernel, rfl⟩
theorem dX9_chamber_8 : decode cX9_chamber 8 = .ok (.ifCond .ne 11, 3) ∧ 11 = 8 + 3 := ⟨by decide +kernel, rfl⟩
theorem dX9_chamber_11 : decode cX9_chamber 11 = .ok (.new 132, 3) ∧ 14 = 11 + 3 := ⟨by decide +kernel, rfl⟩
theorem dX9_chamber_14 : decode cX9_chamber 14 = .ok (.dup, 1) ∧ 15 = 14 + 1 := ⟨by decide +kernel, rfl⟩
theorem dX9_chamber_15 : decode cX9_chamber 15 = .ok (.invokespecial 134, 3) ∧ 18 = 15 + 3 := ⟨by decide +kernel, rfl⟩
theorem dX9_chamber_18 : decode cX9_chamber 18 = .ok (.athrow, 1) ∧ 19 = 18 + 1 := ⟨by decide +kernel, rfl⟩
theorem dX9_chamber_19 : decode cX9_chamber 19 = .ok (.iload_n 2, 1) ∧ 20 = 19 + 1 := ⟨by decide +kernel, rfl⟩
theorem dX9_chamber_20 : decode cX9_chamber 20 = .ok (.tableswitch 112 0 6 #[44, 54, 64, 74, 84, 94, 103], 44) ∧ 64 = 20 + 44 := ⟨by decide +kernel, rfl⟩
theorem dX9_chamber_64 : decode cX9_chamber 64 = .ok (.aload_n 0, 1) ∧ 65 = 64 + 1 := ⟨by decide +kernel, rfl⟩
theorem dX9_chamber_65 : decode cX9_chamber 65 = .ok (.getfield 28, 3) ∧ 68 = 65 + 3 := ⟨by decide +kernel, rfl⟩
theorem dX9_chamber_68 : decode cX9_chamber 68 = .ok (.getfield 251, 3) ∧ 71 = 68 + 3 := ⟨by decide +kernel, rfl⟩
theorem dX9_chamber_71 : decode cX9_chamber 71 = .ok (.iload_n 1, 1) ∧ 72 = 71 + 1 := ⟨by decide +kernel, rfl⟩
theorem dX9_chamber_72 : decode cX9_chamber 72 = .ok (.iaload, 1) ∧ 73 = 72 + 1 := ⟨by decide +kernel, rfl⟩
theorem dX9_chamber_73 : decode cX9_chamber 73 = .ok (.ireturn, 1) ∧ 74 = 73 + 1 := ⟨by decide +kernel, rfl⟩
theorem dX9_chamber_74 : decode cX9_chamber 74 = .ok (.aload_n 0, 1) ∧ 75 = 74 + 1 := ⟨by decide +kernel, rfl⟩
theorem dX9_chamber_75 : decode cX9_chamber 75 = .ok (.getfield 73, 3) ∧ 78 = 75 + 3 := ⟨by decide +kernel, rfl⟩
theorem dX9_chamber_78 : decode cX9_chamber 78 = .ok (.getfield 201, 3) ∧ 81 = 78 + 3 := ⟨by decide +kernel, rfl⟩
theorem dX9_chamber_81 : decode cX9_chamber 81 = .ok (.iload_n 1, 1) ∧ 82 = 81 + 1 := ⟨by decide +kernel, rfl⟩
theorem dX9_chamber_82 : decode cX9_chamber 82 = .ok (.iaload, 1) ∧ 83 = 82 + 1 := ⟨by decide +kernel, rfl⟩
theorem dX9_chamber_83 : decode cX9_chamber 83 = .ok (.ireturn, 1) ∧ 84 = 83 + 1 := ⟨by decide +kernel, rfl⟩
theorem dX9_chamber_84 : decode cX9_chamber 84 = .ok (.aload_n 0, 1) ∧ 85 = 84 + 1 := ⟨by decide +kernel, rfl⟩
theorem dX9_chamber_85 : decode cX9_chamber 85 = .ok (.getfield 28, 3) ∧ 88 = 85 + 3 := ⟨by decide +kernel, rfl⟩
theorem dX9_chamber_88 : decode cX9_chamber 88 = .ok (.getfield 254, 3) ∧ 91 = 88 + 3 := ⟨by decide +kernel, rfl⟩
theorem dX9_chamber_91 : decode cX9_chamber 91 = .ok (.iload_n 1, 1) ∧ 92 = 91 + 1 := ⟨by decide +kernel, rfl⟩
theorem dX9_chamber_92 : decode cX9_chamber 92 = .ok (.iaload, 1) ∧ 93 = 92 + 1 := ⟨by decide +kernel, rfl⟩
theorem dX9_chamber_93 : decode cX9_chamber 93 = .ok (.ireturn, 1) ∧ 94 = 93 + 1 := ⟨by decide +kernel, rfl⟩
theorem dX9_chamber_94 : decode cX9_chamber 94 = .ok (.aload_n 0, 1) ∧ 95 = 94 + 1 := ⟨by decide +kernel, rfl⟩
theorem dX9_chamber_95 : decode cX9_chamber 95 = .ok (.getfield 73, 3) ∧ 98 = 95 + 3 := ⟨by decide +kernel, rfl⟩
theorem dX9_chamber_98 : decode cX9_chamber 98 = .ok (.getfield 166, 3) ∧ 101 = 98 + 3 := ⟨by decide +kernel, rfl⟩
theorem dX9_chamber_101 : decode cX9_chamber 101 = .ok (.iload_n 1, 1) ∧ 102 = 101 + 1 := ⟨by decide +kernel, rfl⟩
theorem dX9_chamber_102 : decode cX9_chamber 102 = .ok (.iaload, 1) ∧ 103 = 102 + 1 := ⟨by decide +kernel, rfl⟩
theorem dX9_chamber_103 : decode cX9_chamber 103 = .ok (.ireturn, 1) ∧ 104 = 103 + 1 := ⟨by decide +kernel, rfl⟩
theorem dX9_chamber_104 : decode cX9_chamber 104 = .ok (.aload_n 0, 1) ∧ 105 = 104 + 1 := ⟨by decide +kernel, rfl⟩
theorem dX9_chamber_105 : decode cX9_chamber 105 = .ok (.getfield 73, 3) ∧ 108 = 105 + 3 := ⟨by decide +kernel, rfl⟩
theorem dX9_chamber_108 : decode cX9_chamber 108 = .ok (.getfield 257, 3) ∧ 111 = 108 + 3 := ⟨by decide +kernel, rfl⟩
theorem dX9_chamber_111 : decode cX9_chamber 111 = .ok (.iload_n 1, 1) ∧ 112 = 111 + 1 := ⟨by decide +kernel, rfl⟩
theorem dX9_chamber_112 : decode cX9_chamber 112 = .ok (.iaload, 1) ∧ 113 = 112 + 1 := ⟨by decide +kernel, rfl⟩
theorem dX9_chamber_113 : decode cX9_chamber 113 = .ok (.ireturn, 1) ∧ 114 = 113 + 1 := ⟨by decide +kernel, rfl⟩
theorem dX9_chamber_114 : decode cX9_chamber 114 = .ok (.aload_n 0, 1) ∧ 115 = 114 + 1 := ⟨by decide +kernel, rfl⟩
theorem dX9_chamber_115 : decode cX9_chamber 115 = .ok (.getfield 28, 3) ∧ 118 = 115 + 3 := ⟨by decide +kernel, rfl⟩
theorem dX9_chamber_118 : decode cX9_chamber 118 = .ok (.iload_n 1, 1) ∧ 119 = 118 + 1 := ⟨by decide +kernel, rfl⟩
theorem dX9_chamber_119 : decode cX9_chamber 119 = .ok (.invokevirtual 260, 3) ∧ 122 = 119 + 3 := ⟨by decide +kernel, rfl⟩
theorem dX9_chamber_122 : decode cX9_chamber 122 = .ok (.ireturn, 1) ∧ 123 = 122 + 1 := ⟨by decide +kernel, rfl⟩
theorem dX9_chamber_123 : decode cX9_chamber 123 = .ok (.aload_n 0, 1) ∧ 124 = 123 + 1 := ⟨by decide +kernel, rfl⟩
theorem dX9_chamber_124 : decode cX9_chamber 124 = .ok (.getfield 28, 3) ∧ 127 = 124 + 3 := ⟨by decide +kernel, rfl⟩
theorem dX9_chamber_127 : decode cX9_chamber 127 = .ok (.iload_n 1, 1) ∧ 128 = 127 + 1 := ⟨by decide +kernel, rfl⟩
theorem dX9_chamber_128 : decode cX9_chamber 128 = .ok (.invokevirtual 263, 3) ∧ 131 = 128 + 3 := ⟨by decide +kernel, rfl⟩
theorem dX9_chamber_131 : decode cX9_chamber 131 = .ok (.ireturn, 1) ∧ 132 = 131 + 1 := ⟨by decide +kernel, rfl⟩
theorem dX9_chamber_132 : decode cX9_chamber 132 = .ok (.new 103, 3) ∧ 135 = 132 + 3 := ⟨by decide +kernel, rfl⟩
theorem dX9_chamber_135 : decode cX9_chamber 135 = .ok (.dup, 1) ∧ 136 = 135 + 1 := ⟨by decide +kernel, rfl⟩
theorem dX9_chamber_136 : decode cX9_chamber 136 = .ok (.invokespecial 105, 3) ∧ 139 = 136 + 3 := ⟨by decide +kernel, rfl⟩
theorem dX9_chamber_139 : decode cX9_chamber 139 = .ok (.athrow, 1) ∧ 140 = 139 + 1 := ⟨by decide +kernel, rfl⟩
theorem dX9_gas_0 : decode cX9_gas 0 = .ok (.aload_n 0, 1) ∧ 1 = 0 + 1 := ⟨by decide +kernel, rfl⟩
theorem dX9_gas_1 : decode cX9_gas 1 = .ok (.getfield 28, 3) ∧ 4 = 1 + 3 := ⟨by decide +kernel, rfl⟩
theorem dX9_gas_4 : decode cX9_gas 4 = .ok (.iload_n 1, 1) ∧ 5 = 4 + 1 := ⟨by decide +kernel, rfl⟩
theorem dX9_gas_5 : decode cX9_gas 5 = .ok (.invokevirtual 185, 3) ∧ 8 = 5 + 3 := ⟨by decide +kernel, rfl⟩
theorem dX9_gas_8 : decode cX9_gas 8 = .ok (.ifCond .ne 11, 3) ∧ 11 = 8 + 3 := ⟨by decide +kernel, rfl⟩
theorem dX9_gas_11 : decode cX9_gas 11 = .ok (.new 132, 3) ∧ 14 = 11 + 3 := ⟨by decide +kernel, rfl⟩
theorem dX9_gas_14 : decode cX9_gas 14 = .ok (.dup, 1) ∧ 15 = 14 + 1 := ⟨by decide +kernel, rfl⟩
theorem dX9_gas_15 : decode cX9_gas 15 = .ok (.invokespecial 134, 3) ∧ 18 = 15 + 3 := ⟨by decide +kernel, rfl⟩
theorem dX9_gas_18 : decode cX9_gas 18 = .ok (.athrow, 1) ∧ 19 = 18 + 1 := ⟨by decide +kernel, rfl⟩
theorem dX9_gas_19 : decode cX9_gas 19 = .ok (.aload_n 0, 1) ∧ 20 = 19 + 1 := ⟨by decide +kernel, rfl⟩
theorem dX9_gas_20 : decode cX9_gas 20 = .ok (.getfield 73, 3) ∧ 23 = 20 + 3 := ⟨by decide +kernel, rfl⟩
theorem dX9_gas_23 : decode cX9_gas 23 = .ok (.getfield 266, 3) ∧ 26 = 23 + 3 := ⟨by decide +kernel, rfl⟩
theorem dX9_gas_26 : decode cX9_gas 26 = .ok (.iload_n 1, 1) ∧ 27 = 26 + 1 := ⟨by decide +kernel, rfl⟩
theorem dX9_gas_27 : decode cX9_gas 27 = .ok (.laload, 1) ∧ 28 = 27 + 1 := ⟨by decide +kernel, rfl⟩
theorem dX9_gas_28 : decode cX9_gas 28 = .ok (.lreturn, 1) ∧ 29 = 28 + 1 := ⟨by decide +kernel, rfl⟩
theorem dX9_pump_0 : decode cX9_pump 0 = .ok (.aload_n 0, 1) ∧ 1 = 0 + 1 := ⟨by decide +kernel, rfl⟩
theorem dX9_pump_1 : decode cX9_pump 1 = .ok (.getfield 28, 3) ∧ 4 = 1 + 3 := ⟨by decide +kernel, rfl⟩
theorem dX9_pump_4 : decode cX9_pump 4 = .ok (.iload_n 1, 1) ∧ 5 = 4 + 1 := ⟨by decide +kernel, rfl⟩
theorem dX9_pump_5 : decode cX9_pump 5 = .ok (.invokevirtual 157, 3) ∧ 8 = 5 + 3 := ⟨by decide +kernel, rfl⟩
theorem dX9_pump_8 : decode cX9_pump 8 = .ok (.ifCond .ne 11, 3) ∧ 11 = 8 + 3 := ⟨by decide +kernel, rfl⟩
theorem dX9_pump_11 : decode cX9_pump 11 = .ok (.new 132, 3) ∧ 14 = 11 + 3 := ⟨by decide +kernel, rfl⟩
theorem dX9_pump_14 : decode cX9_pump 14 = .ok (.dup, 1) ∧ 15 = 14 + 1 := ⟨by decide +kernel, rfl⟩
theorem dX9_pump_15 : decode cX9_pump 15 = .ok (.invokespecial 134, 3) ∧ 18 = 15 + 3 := ⟨by decide +kernel, rfl⟩
theorem dX9_pump_18 : decode cX9_pump 18 = .ok (.athrow, 1) ∧ 19 = 18 + 1 := ⟨by decide +kernel, rfl⟩
theorem dX9_pump_19 : decode cX9_pump 19 = .ok (.iload_n 2, 1) ∧ 20 = 19 + 1 := ⟨by decide +kernel, rfl⟩
theorem dX9_pump_20 : decode cX9_pump 20 = .ok (.tableswitch 156 0 7 #[48, 58, 71, 81, 91, 101, 129, 146], 48) ∧ 68 = 20 + 48 := ⟨by decide +kernel, rfl⟩
theorem dX9_pump_68 : decode cX9_pump 68 = .ok (.aload_n 0, 1) ∧ 69 = 68 + 1 := ⟨by decide +kernel, rfl⟩
theorem dX9_pump_69 : decode cX9_pump 69 = .ok (.getfield 28, 3) ∧ 72 = 69 + 3 := ⟨by decide +kernel, rfl⟩
theorem dX9_pump_72 : decode cX9_pump 72 = .ok (.getfield 170, 3) ∧ 75 = 72 + 3 := ⟨by decide +kernel, rfl⟩
theorem dX9_pump_75 : decode cX9_pump 75 = .ok (.iload_n 1, 1) ∧ 76 = 75 + 1 := ⟨by decide +kernel, rfl⟩
theorem dX9_pump_76 : decode cX9_pump 76 = .ok (.iaload, 1) ∧ 77 = 76 + 1 := ⟨by decide +kernel, rfl⟩
theorem dX9_pump_77 : decode cX9_pump 77 = .ok (.ireturn, 1) ∧ 78 = 77 + 1 := ⟨by decide +kernel, rfl⟩
theorem dX9_pump_78 : decode cX9_pump 78 = .ok (.aload_n 0, 1) ∧ 79 = 78 + 1 := ⟨by decide +kernel, rfl⟩
theorem dX9_pump_79 : decode cX9_pump 79 = .ok (.getfield 28, 3) ∧ 82 = 79 + 3 := ⟨by decide +kernel, rfl⟩
theorem dX9_pump_82 : decode cX9_pump 82 = .ok (.getfield 270, 3) ∧ 85 = 82 + 3 := ⟨by decide +kernel, rfl⟩
theorem dX9_pump_85 : decode cX9_pump 85 = .ok (.iload_n 1, 1) ∧ 86 = 85 + 1 := ⟨by decide +kernel, rfl⟩
theorem dX9_pump_86 : decode cX9_pump 86 = .ok (.iaload, 1) ∧ 87 = 86 + 1 := ⟨by decide +kernel, rfl⟩
theorem dX9_pump_87 : decode cX9_pump 87 = .ok (.invokestatic 273, 3) ∧ 90 = 87 + 3 := ⟨by decide +kernel, rfl⟩
theorem dX9_pump_90 : decode cX9_pump 90 = .ok (.ireturn, 1) ∧ 91 = 90 + 1 := ⟨by decide +kernel, rfl⟩
theorem dX9_pump_91 : decode cX9_pump 91 = .ok (.aload_n 0, 1) ∧ 92 = 91 + 1 := ⟨by decide +kernel, rfl⟩
theorem dX9_pump_92 : decode cX9_pump 92 = .ok (.getfield 28, 3) ∧ 95 = 92 + 3 := ⟨by decide +kernel, rfl⟩
theorem dX9_pump_95 : decode cX9_pump 95 = .ok (.getfield 276, 3) ∧ 98 = 95 + 3 := ⟨by decide +kernel, rfl⟩
theorem dX9_pump_98 : decode cX9_pump 98 = .ok (.iload_n 1, 1) ∧ 99 = 98 + 1 := ⟨by decide +kernel, rfl⟩
theorem dX9_pump_99 : decode cX9_pump 99 = .ok (.iaload, 1) ∧ 100 = 99 + 1 := ⟨by decide +kernel, rfl⟩
theorem dX9_pump_100 : decode cX9_pump 100 = .ok (.ireturn, 1) ∧ 101 = 100 + 1 := ⟨by decide +kernel, rfl⟩
theorem dX9_pump_101 : decode cX9_pump 101 = .ok (.aload_n 0, 1) ∧ 102 = 101 + 1 := ⟨by decide +kernel, rfl⟩
theorem dX9_pump_102 : decode cX9_pump 102 = .ok (.getfield 28, 3) ∧ 105 = 102 + 3 := ⟨by decide +kernel, rfl⟩
theorem dX9_pump_105 : decode cX9_pump 105 = .ok (.getfield 279, 3) ∧ 108 = 105 + 3 := ⟨by decide +kernel, rfl⟩
theorem dX9_pump_108 : decode cX9_pump 108 = .ok (.iload_n 1, 1) ∧ 109 = 108 + 1 := ⟨by decide +kernel, rfl⟩
theorem dX9_pump_109 : decode cX9_pump 109 = .ok (.iaload, 1) ∧ 110 = 109 + 1 := ⟨by decide +kernel, rfl⟩
theorem dX9_pump_110 : decode cX9_pump 110 = .ok (.ireturn, 1) ∧ 111 = 110 + 1 := ⟨by decide +kernel, rfl⟩
theorem dX9_pump_111 : decode cX9_pump 111 = .ok (.aload_n 0, 1) ∧ 112 = 111 + 1 := ⟨by decide +kernel, rfl⟩
theorem dX9_pump_112 : decode cX9_pump 112 = .ok (.getfield 28, 3) ∧ 115 = 112 + 3 := ⟨by decide +kernel, rfl⟩
theorem dX9_pump_115 : decode cX9_pump 115 = .ok (.getfield 282, 3) ∧ 118 = 115 + 3 := ⟨by decide +kernel, rfl⟩
theorem dX9_pump_118 : decode cX9_pump 118 = .ok (.iload_n 1, 1) ∧ 119 = 118 + 1 := ⟨by decide +kernel, rfl⟩
theorem dX9_pump_119 : decode cX9_pump 119 = .ok (.iaload, 1) ∧ 120 = 119 + 1 := ⟨by decide +kernel, rfl⟩
theorem dX9_pump_120 : decode cX9_pump 120 = .ok (.ireturn, 1) ∧ 121 = 120 + 1 := ⟨by decide +kernel, rfl⟩
theorem dX9_pump_121 : decode cX9_pump 121 = .ok (.aload_n 0, 1) ∧ 122 = 121 + 1 := ⟨by decide +kernel, rfl⟩
theorem dX9_pump_122 : decode cX9_pump 122 = .ok (.getfield 28, 3) ∧ 125 = 122 + 3 := ⟨by decide +kernel, rfl⟩
theorem dX9_pump_125 : decode cX9_pump 125 = .ok (.getfield 270, 3) ∧ 128 = 125 + 3 := ⟨by decide +kernel, rfl⟩
theorem dX9_pump_128 : decode cX9_pump 128 = .ok (.iload_n 1, 1) ∧ 129 = 128 + 1 := ⟨by decide +kernel, rfl⟩
theorem dX9_pump_129 : decode cX9_pump 129 = .ok (.iaload, 1) ∧ 130 = 129 + 1 := ⟨by decide +kernel, rfl⟩
theorem dX9_pump_130 : decode cX9_pump 130 = .ok (.bipush 8, 2) ∧ 132 = 130 + 2 := ⟨by decide +kernel, rfl⟩
theorem dX9_pump_132 : decode cX9_pump 132 = .ok (.if_icmp .ne 7, 3) ∧ 135 = 132 + 3 := ⟨by decide +kernel, rfl⟩
theorem dX9_pump_135 : decode cX9_pump 135 = .ok (.iconst (-1), 1) ∧ 136 = 135 + 1 := ⟨by decide +kernel, rfl⟩
theorem dX9_pump_136 : decode cX9_pump 136 = .ok (.goto 12, 3) ∧ 139 = 136 + 3 := ⟨by decide +kernel, rfl⟩
theorem dX9_pump_139 : decode cX9_pump 139 = .ok (.aload_n 0, 1) ∧ 140 = 139 + 1 := ⟨by decide +kernel, rfl⟩
theorem dX9_pump_140 : decode cX9_pump 140 = .ok (.getfield 28, 3) ∧ 143 = 140 + 3 := ⟨by decide +kernel, rfl⟩
theorem dX9_pump_143 : decode cX9_pump 143 = .ok (.getfield 285, 3) ∧ 146 = 143 + 3 := ⟨by decide +kernel, rfl⟩
theorem dX9_pump_146 : decode cX9_pump 146 = .ok (.iload_n 1, 1) ∧ 147 = 146 + 1 := ⟨by decide +kernel, rfl⟩
theorem dX9_pump_147 : decode cX9_pump 147 = .ok (.iaload, 1) ∧ 148 = 147 + 1 := ⟨by decide +kernel, rfl⟩
theorem dX9_pump_148 : decode cX9_pump 148 = .ok (.ireturn, 1) ∧ 149 = 148 + 1 := ⟨by decide +kernel, rfl⟩
theorem dX9_pump_149 : decode cX9_pump 149 = .ok (.aload_n 0, 1) ∧ 150 = 149 + 1 := ⟨by decide +kernel, rfl⟩
theorem dX9_pump_150 : decode cX9_pump 150 = .ok (.getfield 73, 3) ∧ 153 = 150 + 3 := ⟨by decide +kernel, rfl⟩
theorem dX9_pump_153 : decode cX9_pump 153 = .ok (.iload_n 1, 1) ∧ 154 = 153 + 1 := ⟨by decide +kernel, rfl⟩
theorem dX9_pump_154 : decode cX9_pump 154 = .ok (.invokevirtual 173, 3) ∧ 157 = 154 + 3 := ⟨by decide +kernel, rfl⟩
theorem dX9_pump_157 : decode cX9_pump 157 = .ok (.ifCond .eq 7, 3) ∧ 160 = 157 + 3 := ⟨by decide +kernel, rfl⟩
theorem dX9_pump_160 : decode cX9_pump 160 = .ok (.iconst 1, 1) ∧ 161 = 160 + 1 := ⟨by decide +kernel, rfl⟩
theorem dX9_pump_161 : decode cX9_pump 161 = .ok (.goto 4, 3) ∧ 164 = 161 + 3 := ⟨by decide +kernel, rfl⟩
theorem dX9_pump_164 : decode cX9_pump 164 = .ok (.iconst 0, 1) ∧ 165 = 164 + 1 := ⟨by decide +kernel, rfl⟩
theorem dX9_pump_165 : decode cX9_pump 165 = .ok (.ireturn, 1) ∧ 166 = 165 + 1 := ⟨by decide +kernel, rfl⟩
theorem dX9_pump_166 : decode cX9_pump 166 = .ok (.aload_n 0, 1) ∧ 167 = 166 + 1 := ⟨by decide +kernel, rfl⟩
theorem dX9_pump_167 : decode cX9_pump 167 = .ok (.getfield 73, 3) ∧ 170 = 167 + 3 := ⟨by decide +kernel, rfl⟩
theorem dX9_pump_170 : decode cX9_pump 170 = .ok (.getfield 239, 3) ∧ 173 = 170 + 3 := ⟨by decide +kernel, rfl⟩
theorem dX9_pump_173 : decode cX9_pump 173 = .ok (.iload_n 1, 1) ∧ 174 = 173 + 1 := ⟨by decide +kernel, rfl⟩
theorem dX9_pump_174 : decode cX9_pump 174 = .ok (.iaload, 1) ∧ 175 = 174 + 1 := ⟨by decide +kernel, rfl⟩
theorem dX9_pump_175 : decode cX9_pump 175 = .ok (.ireturn, 1) ∧ 176 = 175 + 1 := ⟨by decide +kernel, rfl⟩
theorem dX9_pump_176 : decode cX9_pump 176 = .ok (.new 103, 3) ∧ 179 = 176 + 3 := ⟨by decide +kernel, rfl⟩
theorem dX9_pump_179 : decode cX9_pump 179 = .ok (.dup, 1) ∧ 180 = 179 + 1 := ⟨by decide +kernel, rfl⟩
theorem dX9_pump_180 : decode cX9_pump 180 = .ok (.invokespecial 105, 3) ∧ 183 = 180 + 3 := ⟨by decide +kernel, rfl⟩
theorem dX9_pump_183 : decode cX9_pump 183 = .ok (.athrow, 1) ∧ 184 = 183 + 1 := ⟨by decide +kernel, rfl⟩
theorem dX9_valve_0 : decode cX9_valve 0 = .ok (.aload_n 0, 1) ∧ 1 = 0 + 1 := ⟨by decide +kernel, rfl⟩
theorem dX9_valve_1 : decode cX9_valve 1 = .ok (.getfield 28, 3) ∧ 4 = 1 + 3 := ⟨by decide +kernel, rfl⟩
theorem dX9_valve_4 : decode cX9_valve 4 = .ok (.iload_n 1, 1) ∧ 5 = 4 + 1 := ⟨by decide +kernel, rfl⟩
theorem dX9_valve_5 : decode cX9_valve 5 = .ok (.invokevirtual 128, 3) ∧ 8 = 5 + 3 := ⟨by decide +kernel, rfl⟩
theorem dX9_valve_8 : decode cX9_valve 8 = .ok (.ifCond .ne 11, 3) ∧ 11 = 8 + 3 := ⟨by decide +kernel, rfl⟩
theorem dX9_valve_11 : decode cX9_valve 11 = .ok (.new 132, 3) ∧ 14 = 11 + 3 := ⟨by decide +kernel, rfl⟩
theorem dX9_valve_14 : decode cX9_valve 14 = .ok (.dup, 1) ∧ 15 = 14 + 1 := ⟨by decide +kernel, rfl⟩
theorem dX9_valve_15 : decode cX9_valve 15 = .ok (.invokespecial 134, 3) ∧ 18 = 15 + 3 := ⟨by decide +kernel, rfl⟩
theorem dX9_valve_18 : decode cX9_valve 18 = .ok (.athrow, 1) ∧ 19 = 18 + 1 := ⟨by decide +kernel, rfl⟩
theorem dX9_valve_19 : decode cX9_valve 19 = .ok (.iload_n 2, 1) ∧ 20 = 19 + 1 := ⟨by decide +kernel, rfl⟩
theorem dX9_valve_20 : decode cX9_valve 20 = .ok (.tableswitch 123 0 6 #[44, 54, 67, 77, 87, 104, 114], 44) ∧ 64 = 20 + 44 := ⟨by decide +kernel, rfl⟩
theorem dX9_valve_64 : decode cX9_valve 64 = .ok (.aload_n 0, 1) ∧ 65 = 64 + 1 := ⟨by decide +kernel, rfl⟩
theorem dX9_valve_65 : decode cX9_valve 65 = .ok (.getfield 28, 3) ∧ 68 = 65 + 3 := ⟨by decide +kernel, rfl⟩
theorem dX9_valve_68 : decode cX9_valve 68 = .ok (.getfield 288, 3) ∧ 71 = 68 + 3 := ⟨by decide +kernel, rfl⟩
theorem dX9_valve_71 : decode cX9_valve 71 = .ok (.iload_n 1, 1) ∧ 72 = 71 + 1 := ⟨by decide +kernel, rfl⟩
theorem dX9_valve_72 : decode cX9_valve 72 = .ok (.iaload, 1) ∧ 73 = 72 + 1 := ⟨by decide +kernel, rfl⟩
theorem dX9_valve_73 : decode cX9_valve 73 = .ok (.ireturn, 1) ∧ 74 = 73 + 1 := ⟨by decide +kernel, rfl⟩
theorem dX9_valve_74 : decode cX9_valve 74 = .ok (.aload_n 0, 1) ∧ 75 = 74 + 1 := ⟨by decide +kernel, rfl⟩
theorem dX9_valve_75 : decode cX9_valve 75 = .ok (.getfield 28, 3) ∧ 78 = 75 + 3 := ⟨by decide +kernel, rfl⟩
theorem dX9_valve_78 : decode cX9_valve 78 = .ok (.getfield 291, 3) ∧ 81 = 78 + 3 := ⟨by decide +kernel, rfl⟩
theorem dX9_valve_81 : decode cX9_valve 81 = .ok (.iload_n 1, 1) ∧ 82 = 81 + 1 := ⟨by decide +kernel, rfl⟩
theorem dX9_valve_82 : decode cX9_valve 82 = .ok (.iaload, 1) ∧ 83 = 82 + 1 := ⟨by decide +kernel, rfl⟩
theorem dX9_valve_83 : decode cX9_valve 83 = .ok (.invokestatic 273, 3) ∧ 86 = 83 + 3 := ⟨by decide +kernel, rfl⟩
theorem dX9_valve_86 : decode cX9_valve 86 = .ok (.ireturn, 1) ∧ 87 = 86 + 1 := ⟨by decide +kernel, rfl⟩
theorem dX9_valve_87 : decode cX9_valve 87 = .ok (.aload_n 0, 1) ∧ 88 = 87 + 1 := ⟨by decide +kernel, rfl⟩
theorem dX9_valve_88 : decode cX9_valve 88 = .ok (.getfield 28, 3) ∧ 91 = 88 + 3 := ⟨by decide +kernel, rfl⟩
theorem dX9_valve_91 : decode cX9_valve 91 = .ok (.getfield 294, 3) ∧ 94 = 91 + 3 := ⟨by decide +kernel, rfl⟩
theorem dX9_valve_94 : decode cX9_valve 94 = .ok (.iload_n 1, 1) ∧ 95 = 94 + 1 := ⟨by decide +kernel, rfl⟩
theorem dX9_valve_95 : decode cX9_valve 95 = .ok (.iaload, 1) ∧ 96 = 95 + 1 := ⟨by decide +kernel, rfl⟩
theorem dX9_valve_96 : decode cX9_valve 96 = .ok (.ireturn, 1) ∧ 97 = 96 + 1 := ⟨by decide +kernel, rfl⟩
theorem dX9_valve_97 : decode cX9_valve 97 = .ok (.aload_n 0, 1) ∧ 98 = 97 + 1 := ⟨by decide +kernel, rfl⟩
theorem dX9_valve_98 : decode cX9_valve 98 = .ok (.getfield 73, 3) ∧ 101 = 98 + 3 := ⟨by decide +kernel, rfl⟩
theorem dX9_valve_101 : decode cX9_valve 101 = .ok (.getfield 204, 3) ∧ 104 = 101 + 3 := ⟨by decide +kernel, rfl⟩
theorem dX9_valve_104 : decode cX9_valve 104 = .ok (.iload_n 1, 1) ∧ 105 = 104 + 1 := ⟨by decide +kernel, rfl⟩
theorem dX9_valve_105 : decode cX9_valve 105 = .ok (.iaload, 1) ∧ 106 = 105 + 1 := ⟨by decide +kernel, rfl⟩
theorem dX9_valve_106 : decode cX9_valve 106 = .ok (.ireturn, 1) ∧ 107 = 106 + 1 := ⟨by decide +kernel, rfl⟩
theorem dX9_valve_107 : decode cX9_valve 107 = .ok (.aload_n 0, 1) ∧ 108 = 107 + 1 := ⟨by decide +kernel, rfl⟩
theorem dX9_valve_108 : decode cX9_valve 108 = .ok (.getfield 73, 3) ∧ 111 = 108 + 3 := ⟨by decide +kernel, rfl⟩
theorem dX9_valve_111 : decode cX9_valve 111 = .ok (.iload_n 1, 1) ∧ 112 = 111 + 1 := ⟨by decide +kernel, rfl⟩
theorem dX9_valve_112 : decode cX9_valve 112 = .ok (.invokevirtual 151, 3) ∧ 115 = 112 + 3 := ⟨by decide +kernel, rfl⟩
theorem dX9_valve_115 : decode cX9_valve 115 = .ok (.ifCond .eq 7, 3) ∧ 118 = 115 + 3 := ⟨by decide +kernel, rfl⟩
theorem dX9_valve_118 : decode cX9_valve 118 = .ok (.iconst 1, 1) ∧ 119 = 118 + 1 := ⟨by decide +kernel, rfl⟩
theorem dX9_valve_119 : decode cX9_valve 119 = .ok (.goto 4, 3) ∧ 122 = 119 + 3 := ⟨by decide +kernel, rfl⟩
theorem dX9_valve_122 : decode cX9_valve 122 = .ok (.iconst 0, 1) ∧ 123 = 122 + 1 := ⟨by decide +kernel, rfl⟩
theorem dX9_valve_123 : decode cX9_valve 123 = .ok (.ireturn, 1) ∧ 124 = 123 + 1 := ⟨by decide +kernel, rfl⟩
theorem dX9_valve_124 : decode cX9_valve 124 = .ok (.aload_n 0, 1) ∧ 125 = 124 + 1 := ⟨by decide +kernel, rfl⟩
theorem dX9_valve_125 : decode cX9_valve 125 = .ok (.getfield 73, 3) ∧ 128 = 125 + 3 := ⟨by decide +kernel, rfl⟩
theorem dX9_valve_128 : decode cX9_valve 128 = .ok (.getfield 232, 3) ∧ 131 = 128 + 3 := ⟨by decide +kernel, rfl⟩
theorem dX9_valve_131 : decode cX9_valve 131 = .ok (.iload_n 1, 1) ∧ 132 = 131 + 1 := ⟨by decide +kernel, rfl⟩
theorem dX9_valve_132 : decode cX9_valve 132 = .ok (.iaload, 1) ∧ 133 = 132 + 1 := ⟨by decide +kernel, rfl⟩
theorem dX9_valve_133 : decode cX9_valve 133 = .ok (.ireturn, 1) ∧ 134 = 133 + 1 := ⟨by decide +kernel, rfl⟩
theorem dX9_valve_134 : decode cX9_valve 134 = .ok (.aload_n 0, 1) ∧ 135 = 134 + 1 := ⟨by decide +kernel, rfl⟩
theorem dX9_valve_135 : decode cX9_valve 135 = .ok (.getfield 73, 3) ∧ 138 = 135 + 3 := ⟨by decide +kernel, rfl⟩
theorem dX9_valve_138 : decode cX9_valve 138 = .ok (.iload_n 1, 1) ∧ 139 = 138 + 1 := ⟨by decide +kernel, rfl⟩
theorem dX9_valve_139 : decode cX9_valve 139 = .ok (.invokevirtual 148, 3) ∧ 142 = 139 + 3 := ⟨by decide +kernel, rfl⟩
theorem dX9_valve_142 : decode cX9_valve 142 = .ok (.ireturn, 1) ∧ 143 = 142 + 1 := ⟨by decide +kernel, rfl⟩
theorem dX9_valve_143 : decode cX9_valve 143 = .ok (.new 103, 3) ∧ 146 = 143 + 3 := ⟨by decide +kernel, rfl⟩
theorem dX9_valve_146 : decode cX9_valve 146 = .ok (.dup, 1) ∧ 147 = 146 + 1 := ⟨by decide +kernel, rfl⟩
theorem dX9_valve_147 : decode cX9_valve 147 = .ok (.invokespecial 105, 3) ∧ 150 = 147 + 3 := ⟨by decide +kernel, rfl⟩
theorem dX9_valve_150 : decode cX9_valve 150 = .ok (.athrow, 1) ∧ 151 = 150 + 1 := ⟨by decide +kernel, rfl⟩
theorem dX9_flange_0 : decode cX9_flange 0 = .ok (.aload_n 0, 1) ∧ 1 = 0 + 1 := ⟨by decide +kernel, rfl⟩
theorem dX9_flange_1 : decode cX9_flange 1 = .ok (.getfield 28, 3) ∧ 4 = 1 + 3 := ⟨by decide +kernel, rfl⟩
theorem dX9_flange_4 : decode cX9_flange 4 = .ok (.iload_n 1, 1) ∧ 5 = 4 + 1 := ⟨by decide +kernel, rfl⟩
theorem dX9_flange_5 : decode cX9_flange 5 = .ok (.invokevirtual 195, 3) ∧ 8 = 5 + 3 := ⟨by decide +kernel, rfl⟩
theorem dX9_flange_8 : decode cX9_flange 8 = .ok (.ifCond .ne 11, 3) ∧ 11 = 8 + 3 := ⟨by decide +kernel, rfl⟩
theorem dX9_flange_11 : decode cX9_flange 11 = .ok (.new 132, 3) ∧ 14 = 11 + 3 := ⟨by decide +kernel, rfl⟩
theorem dX9_flange_14 : decode cX9_flange 14 = .ok (.dup, 1) ∧ 15 = 14 + 1 := ⟨by decide +kernel, rfl⟩
theorem dX9_flange_15 : decode cX9_flange 15 = .ok (.invokespecial 134, 3) ∧ 18 = 15 + 3 := ⟨by decide +kernel, rfl⟩
theorem dX9_flange_18 : decode cX9_flange 18 = .ok (.athrow, 1) ∧ 19 = 18 + 1 := ⟨by decide +kernel, rfl⟩
theorem dX9_flange_19 : decode cX9_flange 19 = .ok (.iload_n 2, 1) ∧ 20 = 19 + 1 := ⟨by decide +kernel, rfl⟩
theorem dX9_flange_20 : decode cX9_flange 20 = .ok (.lookupswitch 48 #[(0, 28), (1, 38)], 28) ∧ 48 = 20 + 28 := ⟨by decide +kernel, rfl⟩
theorem dX9_flange_48 : decode cX9_flange 48 = .ok (.aload_n 0, 1) ∧ 49 = 48 + 1 := ⟨by decide +kernel, rfl⟩
theorem dX9_flange_49 : decode cX9_flange 49 = .ok (.getfield 28, 3) ∧ 52 = 49 + 3 := ⟨by decide +kernel, rfl⟩
theorem dX9_flange_52 : decode cX9_flange 52 = .ok (.getfield 297, 3) ∧ 55 = 52 + 3 := ⟨by decide +kernel, rfl⟩
theorem dX9_flange_55 : decode cX9_flange 55 = .ok (.iload_n 1, 1) ∧ 56 = 55 + 1 := ⟨by decide +kernel, rfl⟩
theorem dX9_flange_56 : decode cX9_flange 56 = .ok (.iaload, 1) ∧ 57 = 56 + 1 := ⟨by decide +kernel, rfl⟩
theorem dX9_flange_57 : decode cX9_flange 57 = .ok (.ireturn, 1) ∧ 58 = 57 + 1 := ⟨by decide +kernel, rfl⟩
theorem dX9_flange_58 : decode cX9_flange 58 = .ok (.aload_n 0, 1) ∧ 59 = 58 + 1 := ⟨by decide +kernel, rfl⟩
theorem dX9_flange_59 : decode cX9_flange 59 = .ok (.getfield 73, 3) ∧ 62 = 59 + 3 := ⟨by decide +kernel, rfl⟩
theorem dX9_flange_62 : decode cX9_flange 62 = .ok (.getfield 300, 3) ∧ 65 = 62 + 3 := ⟨by decide +kernel, rfl⟩
theorem dX9_flange_65 : decode cX9_flange 65 = .ok (.iload_n 1, 1) ∧ 66 = 65 + 1 := ⟨by decide +kernel, rfl⟩
theorem dX9_flange_66 : decode cX9_flange 66 = .ok (.iaload, 1) ∧ 67 = 66 + 1 := ⟨by decide +kernel, rfl⟩
theorem dX9_flange_67 : decode cX9_flange 67 = .ok (.ireturn, 1) ∧ 68 = 67 + 1 := ⟨by decide +kernel, rfl⟩
theorem dX9_flange_68 : decode cX9_flange 68 = .ok (.new 103, 3) ∧ 71 = 68 + 3 := ⟨by decide +kernel, rfl⟩
theorem dX9_flange_71 : decode cX9_flange 71 = .ok (.dup, 1) ∧ 72 = 71 + 1 := ⟨by decide +kernel, rfl⟩
theorem dX9_flange_72 : decode cX9_flange 72 = .ok (.invokespecial 105, 3) ∧ 75 = 72 + 3 := ⟨by decide +kernel, rfl⟩
theorem dX9_flange_75 : decode cX9_flange 75 = .ok (.athrow, 1) ∧ 76 = 75 + 1 := ⟨by decide +kernel, rfl⟩
theorem dX9_rise_0 : decode cX9_rise 0 = .ok (.iload_n 1, 1) ∧ 1 = 0 + 1 := ⟨by decide +kernel, rfl⟩
theorem dX9_rise_1 : decode cX9_rise 1 = .ok (.ifCond .lt 17, 3) ∧ 4 = 1 + 3 := ⟨by decide +kernel, rfl⟩
theorem dX9_rise_4 : decode cX9_rise 4 = .ok (.iload_n 1, 1) ∧ 5 = 4 + 1 := ⟨by decide +kernel, rfl⟩
theorem dX9_rise_5 : decode cX9_rise 5 = .ok (.aload_n 0, 1) ∧ 6 = 5 + 1 := ⟨by decide +kernel, rfl⟩
theorem dX9_rise_6 : decode cX9_rise 6 = .ok (.getfield 73, 3) ∧ 9 = 6 + 3 := ⟨by decide +kernel, rfl⟩
theorem dX9_rise_9 : decode cX9_rise 9 = .ok (.getfield 242, 3) ∧ 12 = 9 + 3 := ⟨by decide +kernel, rfl⟩
theorem dX9_rise_12 : decode cX9_rise 12 = .ok (.getfield 246, 3) ∧ 15 = 12 + 3 := ⟨by decide +kernel, rfl⟩
theorem dX9_rise_15 : decode cX9_rise 15 = .ok (.if_icmp .lt 11, 3) ∧ 18 = 15 + 3 := ⟨by decide +kernel, rfl⟩
theorem dX9_rise_18 : decode cX9_rise 18 = .ok (.new 132, 3) ∧ 21 = 18 + 3 := ⟨by decide +kernel, rfl⟩
theorem dX9_rise_21 : decode cX9_rise 21 = .ok (.dup, 1) ∧ 22 = 21 + 1 := ⟨by decide +kernel, rfl⟩
theorem dX9_rise_22 : decode cX9_rise 22 = .ok (.invokespecial 134, 3) ∧ 25 = 22 + 3 := ⟨by decide +kernel, rfl⟩
theorem dX9_rise_25 : decode cX9_rise 25 = .ok (.athrow, 1) ∧ 26 = 25 + 1 := ⟨by decide +kernel, rfl⟩
theorem dX9_rise_26 : decode cX9_rise 26 = .ok (.iload_n 2, 1) ∧ 27 = 26 + 1 := ⟨by decide +kernel, rfl⟩
theorem dX9_rise_27 : decode cX9_rise 27 = .ok (.ifCond .lt 8, 3) ∧ 30 = 27 + 3 := ⟨by decide +kernel, rfl⟩
theorem dX9_rise_30 : decode cX9_rise 30 = .ok (.iload_n 2, 1) ∧ 31 = 30 + 1 := ⟨by decide +kernel, rfl⟩
theorem dX9_rise_31 : decode cX9_rise 31 = .ok (.iconst 4, 1) ∧ 32 = 31 + 1 := ⟨by decide +kernel, rfl⟩
theorem dX9_rise_32 : decode cX9_rise 32 = .ok (.if_icmp .lt 11, 3) ∧ 35 = 32 + 3 := ⟨by decide +kernel, rfl⟩
theorem dX9_rise_35 : decode cX9_rise 35 = .ok (.new 103, 3) ∧ 38 = 35 + 3 := ⟨by decide +kernel, rfl⟩
theorem dX9_rise_38 : decode cX9_rise 38 = .ok (.dup, 1) ∧ 39 = 38 + 1 := ⟨by decide +kernel, rfl⟩
theorem dX9_rise_39 : decode cX9_rise 39 = .ok (.invokespecial 105, 3) ∧ 42 = 39 + 3 := ⟨by decide +kernel, rfl⟩
theorem dX9_rise_42 : decode cX9_rise 42 = .ok (.athrow, 1) ∧ 43 = 42 + 1 := ⟨by decide +kernel, rfl⟩
theorem dX9_rise_43 : decode cX9_rise 43 = .ok (.aload_n 0, 1) ∧ 44 = 43 + 1 := ⟨by decide +kernel, rfl⟩
theorem dX9_rise_44 : decode cX9_rise 44 = .ok (.getfield 73, 3) ∧ 47 = 44 + 3 := ⟨by decide +kernel, rfl⟩
theorem dX9_rise_47 : decode cX9_rise 47 = .ok (.getfield 242, 3) ∧ 50 = 47 + 3 := ⟨by decide +kernel, rfl⟩
theorem dX9_rise_50 : decode cX9_rise 50 = .ok (.iload_n 1, 1) ∧ 51 = 50 + 1 := ⟨by decide +kernel, rfl⟩
theorem dX9_rise_51 : decode cX9_rise 51 = .ok (.iload_n 2, 1) ∧ 52 = 51 + 1 := ⟨by decide +kernel, rfl⟩
theorem dX9_rise_52 : decode cX9_rise 52 = .ok (.invokevirtual 303, 3) ∧ 55 = 52 + 3 := ⟨by decide +kernel, rfl⟩
theorem dX9_rise_55 : decode cX9_rise 55 = .ok (.ireturn, 1) ∧ 56 = 55 + 1 := ⟨by decide +kernel, rfl⟩
theorem dX9_riseGas_0 : decode cX9_riseGas 0 = .ok (.iload_n 1, 1) ∧ 1 = 0 + 1 := ⟨by decide +kernel, rfl⟩
theorem dX9_riseGas_1 : decode cX9_riseGas 1 = .ok (.ifCond .lt 17, 3) ∧ 4 = 1 + 3 := ⟨by decide +kernel, rfl⟩
theorem dX9_riseGas_4 : decode cX9_riseGas 4 = .ok (.iload_n 1, 1) ∧ 5 = 4 + 1 := ⟨by decide +kernel, rfl⟩
theorem dX9_riseGas_5 : decode cX9_riseGas 5 = .ok (.aload_n 0, 1) ∧ 6 = 5 + 1 := ⟨by decide +kernel, rfl⟩
theorem dX9_riseGas_6 : decode cX9_riseGas 6 = .ok (.getfield 73, 3) ∧ 9 = 6 + 3 := ⟨by decide +kernel, rfl⟩
theorem dX9_riseGas_9 : decode cX9_riseGas 9 = .ok (.getfield 242, 3) ∧ 12 = 9 + 3 := ⟨by decide +kernel, rfl⟩
theorem dX9_riseGas_12 : decode cX9_riseGas 12 = .ok (.getfield 246, 3) ∧ 15 = 12 + 3 := ⟨by decide +kernel, rfl⟩
theorem dX9_riseGas_15 : decode cX9_riseGas 15 = .ok (.if_icmp .lt 11, 3) ∧ 18 = 15 + 3 := ⟨by decide +kernel, rfl⟩
theorem dX9_riseGas_18 : decode cX9_riseGas 18 = .ok (.new 132, 3) ∧ 21 = 18 + 3 := ⟨by decide +kernel, rfl⟩
theorem dX9_riseGas_21 : decode cX9_riseGas 21 = .ok (.dup, 1) ∧ 22 = 21 + 1 := ⟨by decide +kernel, rfl⟩
theorem dX9_riseGas_22 : decode cX9_riseGas 22 = .ok (.invokespecial 134, 3) ∧ 25 = 22 + 3 := ⟨by decide +kernel, rfl⟩
theorem dX9_riseGas_25 : decode cX9_riseGas 25 = .ok (.athrow, 1) ∧ 26 = 25 + 1 := ⟨by decide +kernel, rfl⟩
theorem dX9_riseGas_26 : decode cX9_riseGas 26 = .ok (.aload_n 0, 1) ∧ 27 = 26 + 1 := ⟨by decide +kernel, rfl⟩
theorem dX9_riseGas_27 : decode cX9_riseGas 27 = .ok (.getfield 73, 3) ∧ 30 = 27 + 3 := ⟨by decide +kernel, rfl⟩
theorem dX9_riseGas_30 : decode cX9_riseGas 30 = .ok (.getfield 242, 3) ∧ 33 = 30 + 3 := ⟨by decide +kernel, rfl⟩
theorem dX9_riseGas_33 : decode cX9_riseGas 33 = .ok (.iload_n 1, 1) ∧ 34 = 33 + 1 := ⟨by decide +kernel, rfl⟩
theorem dX9_riseGas_34 : decode cX9_riseGas 34 = .ok (.iload_n 2, 1) ∧ 35 = 34 + 1 := ⟨by decide +kernel, rfl⟩
theorem dX9_riseGas_35 : decode cX9_riseGas 35 = .ok (.invokevirtual 306, 3) ∧ 38 = 35 + 3 := ⟨by decide +kernel, rfl⟩
theorem dX9_riseGas_38 : decode cX9_riseGas 38 = .ok (.lreturn, 1) ∧ 39 = 38 + 1 := ⟨by decide +kernel, rfl⟩
theorem dX9_mayOpen_0 : decode cX9_mayOpen 0 = .ok (.aload_n 0, 1) ∧ 1 = 0 + 1 := ⟨by decide +kernel, rfl⟩
theorem dX9_mayOpen_1 : decode cX9_mayOpen 1 = .ok (.getfield 28, 3) ∧ 4 = 1 + 3 := ⟨by decide +kernel, rfl⟩
theorem dX9_mayOpen_4 : decode cX9_mayOpen 4 = .ok (.iload_n 1, 1) ∧ 5 = 4 + 1 := ⟨by decide +kernel, rfl⟩
theorem dX9_mayOpen_5 : decode cX9_mayOpen 5 = .ok (.invokevirtual 128, 3) ∧ 8 = 5 + 3 := ⟨by decide +kernel, rfl⟩
theorem dX9_mayOpen_8 : decode cX9_mayOpen 8 = .ok (.ifCond .ne 11, 3) ∧ 11 = 8 + 3 := ⟨by decide +kernel, rfl⟩
theorem dX9_mayOpen_11 : decode cX9_mayOpen 11 = .ok (.new 132, 3) ∧ 14 = 11 + 3 := ⟨by decide +kernel, rfl⟩
theorem dX9_mayOpen_14 : decode cX9_mayOpen 14 = .ok (.dup, 1) ∧ 15 = 14 + 1 := ⟨by decide +kernel, rfl⟩
theorem dX9_mayOpen_15 : decode cX9_mayOpen 15 = .ok (.invokespecial 134, 3) ∧ 18 = 15 + 3 := ⟨by decide +kernel, rfl⟩
theorem dX9_mayOpen_18 : decode cX9_mayOpen 18 = .ok (.athrow, 1) ∧ 19 = 18 + 1 := ⟨by decide +kernel, rfl⟩
theorem dX9_mayOpen_19 : decode cX9_mayOpen 19 = .ok (.aload_n 0, 1) ∧ 20 = 19 + 1 := ⟨by decide +kernel, rfl⟩
theorem dX9_mayOpen_20 : decode cX9_mayOpen 20 = .ok (.getfield 73, 3) ∧ 23 = 20 + 3 := ⟨by decide +kernel, rfl⟩
theorem dX9_mayOpen_23 : decode cX9_mayOpen 23 = .ok (.iload_n 1, 1) ∧ 24 = 23 + 1 := ⟨by decide +kernel, rfl⟩
theorem dX9_mayOpen_24 : decode cX9_mayOpen 24 = .ok (.invokevirtual 135, 3) ∧ 27 = 24 + 3 := ⟨by decide +kernel, rfl⟩
theorem dX9_mayOpen_27 : decode cX9_mayOpen 27 = .ok (.ireturn, 1) ∧ 28 = 27 + 1 := ⟨by decide +kernel, rfl⟩
theorem dX9_mayStart_0 : decode cX9_mayStart 0 = .ok (.aload_n 0, 1) ∧ 1 = 0 + 1 := ⟨by decide +kernel, rfl⟩
theorem dX9_mayStart_1 : decode cX9_mayStart 1 = .ok (.getfield 28, 3) ∧ 4 = 1 + 3 := ⟨by decide +kernel, rfl⟩
theorem dX9_mayStart_4 : decode cX9_mayStart 4 = .ok (.iload_n 1, 1) ∧ 5 = 4 + 1 := ⟨by decide +kernel, rfl⟩
theorem dX9_mayStart_5 : decode cX9_mayStart 5 = .ok (.invokevirtual 157, 3) ∧ 8 = 5 + 3 := ⟨by decide +kernel, rfl⟩
theorem dX9_mayStart_8 : decode cX9_mayStart 8 = .ok (.ifCond .ne 11, 3) ∧ 11 = 8 + 3 := ⟨by decide +kernel, rfl⟩
theorem dX9_mayStart_11 : decode cX9_mayStart 11 = .ok (.new 132, 3) ∧ 14 = 11 + 3 := ⟨by decide +kernel, rfl⟩
theorem dX9_mayStart_14 : decode cX9_mayStart 14 = .ok (.dup, 1) ∧ 15 = 14 + 1 := ⟨by decide +kernel, rfl⟩
theorem dX9_mayStart_15 : decode cX9_mayStart 15 = .ok (.invokespecial 134, 3) ∧ 18 = 15 + 3 := ⟨by decide +kernel, rfl⟩
theorem dX9_mayStart_18 : decode cX9_mayStart 18 = .ok (.athrow, 1) ∧ 19 = 18 + 1 := ⟨by decide +kernel, rfl⟩
theorem dX9_mayStart_19 : decode cX9_mayStart 19 = .ok (.aload_n 0, 1) ∧ 20 = 19 + 1 := ⟨by decide +kernel, rfl⟩
theorem dX9_mayStart_20 : decode cX9_mayStart 20 = .ok (.getfield 73, 3) ∧ 23 = 20 + 3 := ⟨by decide +kernel, rfl⟩
theorem dX9_mayStart_23 : decode cX9_mayStart 23 = .ok (.iload_n 1, 1) ∧ 24 = 23 + 1 := ⟨by decide +kernel, rfl⟩
theorem dX9_mayStart_24 : decode cX9_mayStart 24 = .ok (.invokevirtual 160, 3) ∧ 27 = 24 + 3 := ⟨by decide +kernel, rfl⟩
theorem dX9_mayStart_27 : decode cX9_mayStart 27 = .ok (.ireturn, 1) ∧ 28 = 27 + 1 := ⟨by decide +kernel, rfl⟩
theorem dX9_joined_0 : decode cX9_joined 0 = .ok (.aload_n 0, 1) ∧ 1 = 0 + 1 := ⟨by decide +kernel, rfl⟩
theorem dX9_joined_1 : decode cX9_joined 1 = .ok (.getfield 28, 3) ∧ 4 = 1 + 3 := ⟨by decide +kernel, rfl⟩
theorem dX9_joined_4 : decode cX9_joined 4 = .ok (.iload_n 1, 1) ∧ 5 = 4 + 1 := ⟨by decide +kernel, rfl⟩
theorem dX9_joined_5 : decode cX9_joined 5 = .ok (.invokevirtual 185, 3) ∧ 8 = 5 + 3 := ⟨by decide +kernel, rfl⟩
theorem dX9_joined_8 : decode cX9_joined 8 = .ok (.ifCond .ne 11, 3) ∧ 11 = 8 + 3 := ⟨by decide +kernel, rfl⟩
theorem dX9_joined_11 : decode cX9_joined 11 = .ok (.new 132, 3) ∧ 14 = 11 + 3 := ⟨by decide +kernel, rfl⟩
theorem dX9_joined_14 : decode cX9_joined 14 = .ok (.dup, 1) ∧ 15 = 14 + 1 := ⟨by decide +kernel, rfl⟩
theorem dX9_joined_15 : decode cX9_joined 15 = .ok (.invokespecial 134, 3) ∧ 18 = 15 + 3 := ⟨by decide +kernel, rfl⟩
theorem dX9_joined_18 : decode cX9_joined 18 = .ok (.athrow, 1) ∧ 19 = 18 + 1 := ⟨by decide +kernel, rfl⟩
theorem dX9_joined_19 : decode cX9_joined 19 = .ok (.aload_n 0, 1) ∧ 20 = 19 + 1 := ⟨by decide +kernel, rfl⟩
theorem dX9_joined_20 : decode cX9_joined 20 = .ok (.getfield 73, 3) ∧ 23 = 20 + 3 := ⟨by decide +kernel, rfl⟩
theorem dX9_joined_23 : decode cX9_joined 23 = .ok (.iload_n 1, 1) ∧ 24 = 23 + 1 := ⟨by decide +kernel, rfl⟩
theorem dX9_joined_24 : decode cX9_joined 24 = .ok (.invokevirtual 310, 3) ∧ 27 = 24 + 3 := ⟨by decide +kernel, rfl⟩
theorem dX9_joined_27 : decode cX9_joined 27 = .ok (.sipush 255, 3) ∧ 30 = 27 + 3 := ⟨by decide +kernel, rfl⟩
theorem dX9_joined_30 : decode cX9_joined 30 = .ok (.iand, 1) ∧ 31 = 30 + 1 := ⟨by decide +kernel, rfl⟩
theorem dX9_joined_31 : decode cX9_joined 31 = .ok (.ireturn, 1) ∧ 32 = 31 + 1 := ⟨by decide +kernel, rfl⟩
theorem dX9_isVented_0 : decode cX9_isVented 0 = .ok (.aload_n 0, 1) ∧ 1 = 0 + 1 := ⟨by decide +kernel, rfl⟩
theorem dX9_isVented_1 : decode cX9_isVented 1 = .ok (.getfield 28, 3) ∧ 4 = 1 + 3 := ⟨by decide +kernel, rfl⟩
theorem dX9_isVented_4 : decode cX9_isVented 4 = .ok (.iload_n 1, 1) ∧ 5 = 4 + 1 := ⟨by decide +kernel, rfl⟩
theorem dX9_isVented_5 : decode cX9_isVented 5 = .ok (.invokevirtual 185, 3) ∧ 8 = 5 + 3 := ⟨by decide +kernel, rfl⟩
theorem dX9_isVented_8 : decode cX9_isVented 8 = .ok (.ifCond .ne 11, 3) ∧ 11 = 8 + 3 := ⟨by decide +kernel, rfl⟩
theorem dX9_isVented_11 : decode cX9_isVented 11 = .ok (.new 132, 3) ∧ 14 = 11 + 3 := ⟨by decide +kernel, rfl⟩
theorem dX9_isVented_14 : decode cX9_isVented 14 = .ok (.dup, 1) ∧ 15 = 14 + 1 := ⟨by decide +kernel, rfl⟩
theorem dX9_isVented_15 : decode cX9_isVented 15 = .ok (.invokespecial 134, 3) ∧ 18 = 15 + 3 := ⟨by decide +kernel, rfl⟩
theorem dX9_isVented_18 : decode cX9_isVented 18 = .ok (.athrow, 1) ∧ 19 = 18 + 1 := ⟨by decide +kernel, rfl⟩
theorem dX9_isVented_19 : decode cX9_isVented 19 = .ok (.aload_n 0, 1) ∧ 20 = 19 + 1 := ⟨by decide +kernel, rfl⟩
theorem dX9_isVented_20 : decode cX9_isVented 20 = .ok (.getfield 73, 3) ∧ 23 = 20 + 3 := ⟨by decide +kernel, rfl⟩
theorem dX9_isVented_23 : decode cX9_isVented 23 = .ok (.iload_n 1, 1) ∧ 24 = 23 + 1 := ⟨by decide +kernel, rfl⟩
theorem dX9_isVented_24 : decode cX9_isVented 24 = .ok (.invokevirtual 310, 3) ∧ 27 = 24 + 3 := ⟨by decide +kernel, rfl⟩
theorem dX9_isVented_27 : decode cX9_isVented 27 = .ok (.bipush 8, 2) ∧ 29 = 27 + 2 := ⟨by decide +kernel, rfl⟩
theorem dX9_isVented_29 : decode cX9_isVented 29 = .ok (.invokestatic 313, 3) ∧ 32 = 29 + 3 := ⟨by decide +kernel, rfl⟩
theorem dX9_isVented_32 : decode cX9_isVented 32 = .ok (.ireturn, 1) ∧ 33 = 32 + 1 := ⟨by decide +kernel, rfl⟩
theorem dX9_spread_0 : decode cX9_spread 0 = .ok (.aload_n 0, 1) ∧ 1 = 0 + 1 := ⟨by decide +kernel, rfl⟩
theorem dX9_spread_1 : decode cX9_spread 1 = .ok (.getfield 28, 3) ∧ 4 = 1 + 3 := ⟨by decide +kernel, rfl⟩
theorem dX9_spread_4 : decode cX9_spread 4 = .ok (.iload_n 1, 1) ∧ 5 = 4 + 1 := ⟨by decide +kernel, rfl⟩
theorem dX9_spread_5 : decode cX9_spread 5 = .ok (.invokevirtual 185, 3) ∧ 8 = 5 + 3 := ⟨by decide +kernel, rfl⟩
theorem dX9_spread_8 : decode cX9_spread 8 = .ok (.ifCond .ne 11, 3) ∧ 11 = 8 + 3 := ⟨by decide +kernel, rfl⟩
theorem dX9_spread_11 : decode cX9_spread 11 = .ok (.new 132, 3) ∧ 14 = 11 + 3 := ⟨by decide +kernel, rfl⟩
theorem dX9_spread_14 : decode cX9_spread 14 = .ok (.dup, 1) ∧ 15 = 14 + 1 := ⟨by decide +kernel, rfl⟩
theorem dX9_spread_15 : decode cX9_spread 15 = .ok (.invokespecial 134, 3) ∧ 18 = 15 + 3 := ⟨by decide +kernel, rfl⟩
theorem dX9_spread_18 : decode cX9_spread 18 = .ok (.athrow, 1) ∧ 19 = 18 + 1 := ⟨by decide +kernel, rfl⟩
theorem dX9_spread_19 : decode cX9_spread 19 = .ok (.aload_n 0, 1) ∧ 20 = 19 + 1 := ⟨by decide +kernel, rfl⟩
theorem dX9_spread_20 : decode cX9_spread 20 = .ok (.getfield 73, 3) ∧ 23 = 20 + 3 := ⟨by decide +kernel, rfl⟩
theorem dX9_spread_23 : decode cX9_spread 23 = .ok (.iload_n 1, 1) ∧ 24 = 23 + 1 := ⟨by decide +kernel, rfl⟩
theorem dX9_spread_24 : decode cX9_spread 24 = .ok (.invokevirtual 310, 3) ∧ 27 = 24 + 3 := ⟨by decide +kernel, rfl⟩
theorem dX9_spread_27 : decode cX9_spread 27 = .ok (.istore_n 2, 1) ∧ 28 = 27 + 1 := ⟨by decide +kernel, rfl⟩
theorem dX9_spread_28 : decode cX9_spread 28 = .ok (.aload_n 0, 1) ∧ 29 = 28 + 1 := ⟨by decide +kernel, rfl⟩
theorem dX9_spread_29 : decode cX9_spread 29 = .ok (.getfield 73, 3) ∧ 32 = 29 + 3 := ⟨by decide +kernel, rfl⟩
theorem dX9_spread_32 : decode cX9_spread 32 = .ok (.getfield 166, 3) ∧ 35 = 32 + 3 := ⟨by decide +kernel, rfl⟩
theorem dX9_spread_35 : decode cX9_spread 35 = .ok (.iload_n 1, 1) ∧ 36 = 35 + 1 := ⟨by decide +kernel, rfl⟩
theorem dX9_spread_36 : decode cX9_spread 36 = .ok (.iaload, 1) ∧ 37 = 36 + 1 := ⟨by decide +kernel, rfl⟩
theorem dX9_spread_37 : decode cX9_spread 37 = .ok (.istore_n 3, 1) ∧ 38 = 37 + 1 := ⟨by decide +kernel, rfl⟩
theorem dX9_spread_38 : decode cX9_spread 38 = .ok (.iload_n 3, 1) ∧ 39 = 38 + 1 := ⟨by decide +kernel, rfl⟩
theorem dX9_spread_39 : decode cX9_spread 39 = .ok (.istore 4, 2) ∧ 41 = 39 + 2 := ⟨by decide +kernel, rfl⟩
theorem dX9_spread_41 : decode cX9_spread 41 = .ok (.iconst 0, 1) ∧ 42 = 41 + 1 := ⟨by decide +kernel, rfl⟩
theorem dX9_spread_42 : decode cX9_spread 42 = .ok (.istore 5, 2) ∧ 44 = 42 + 2 := ⟨by decide +kernel, rfl⟩
theorem dX9_spread_44 : decode cX9_spread 44 = .ok (.iload 5, 2) ∧ 46 = 44 + 2 := ⟨by decide +kernel, rfl⟩
theorem dX9_spread_46 : decode cX9_spread 46 = .ok (.aload_n 0, 1) ∧ 47 = 46 + 1 := ⟨by decide +kernel, rfl⟩
theorem dX9_spread_47 : decode cX9_spread 47 = .ok (.getfield 28, 3) ∧ 50 = 47 + 3 := ⟨by decide +kernel, rfl⟩
theorem dX9_spread_50 : decode cX9_spread 50 = .ok (.getfield 125, 3) ∧ 53 = 50 + 3 := ⟨by decide +kernel, rfl⟩
theorem dX9_spread_53 : decode cX9_spread 53 = .ok (.if_icmp .ge 50, 3) ∧ 56 = 53 + 3 := ⟨by decide +kernel, rfl⟩
theorem dX9_spread_56 : decode cX9_spread 56 = .ok (.iload_n 2, 1) ∧ 57 = 56 + 1 := ⟨by decide +kernel, rfl⟩
theorem dX9_spread_57 : decode cX9_spread 57 = .ok (.iload 5, 2) ∧ 59 = 57 + 2 := ⟨by decide +kernel, rfl⟩
theorem dX9_spread_59 : decode cX9_spread 59 = .ok (.invokestatic 313, 3) ∧ 62 = 59 + 3 := ⟨by decide +kernel, rfl⟩
theorem dX9_spread_62 : decode cX9_spread 62 = .ok (.ifCond .eq 35, 3) ∧ 65 = 62 + 3 := ⟨by decide +kernel, rfl⟩
theorem dX9_spread_65 : decode cX9_spread 65 = .ok (.iload_n 3, 1) ∧ 66 = 65 + 1 := ⟨by decide +kernel, rfl⟩
theorem dX9_spread_66 : decode cX9_spread 66 = .ok (.aload_n 0, 1) ∧ 67 = 66 + 1 := ⟨by decide +kernel, rfl⟩
theorem dX9_spread_67 : decode cX9_spread 67 = .ok (.getfield 73, 3) ∧ 70 = 67 + 3 := ⟨by decide +kernel, rfl⟩
theorem dX9_spread_70 : decode cX9_spread 70 = .ok (.getfield 166, 3) ∧ 73 = 70 + 3 := ⟨by decide +kernel, rfl⟩
theorem dX9_spread_73 : decode cX9_spread 73 = .ok (.iload 5, 2) ∧ 75 = 73 + 2 := ⟨by decide +kernel, rfl⟩
theorem dX9_spread_75 : decode cX9_spread 75 = .ok (.iaload, 1) ∧ 76 = 75 + 1 := ⟨by decide +kernel, rfl⟩
theorem dX9_spread_76 : decode cX9_spread 76 = .ok (.invokestatic 317, 3) ∧ 79 = 76 + 3 := ⟨by decide +kernel, rfl⟩
theorem dX9_spread_79 : decode cX9_spread 79 = .ok (.istore_n 3, 1) ∧ 80 = 79 + 1 := ⟨by decide +kernel, rfl⟩
theorem dX9_spread_80 : decode cX9_spread 80 = .ok (.iload 4, 2) ∧ 82 = 80 + 2 := ⟨by decide +kernel, rfl⟩
theorem dX9_spread_82 : decode cX9_spread 82 = .ok (.aload_n 0, 1) ∧ 83 = 82 + 1 := ⟨by decide +kernel, rfl⟩
theorem dX9_spread_83 : decode cX9_spread 83 = .ok (.getfield 73, 3) ∧ 86 = 83 + 3 := ⟨by decide +kernel, rfl⟩
theorem dX9_spread_86 : decode cX9_spread 86 = .ok (.getfield 166, 3) ∧ 89 = 86 + 3 := ⟨by decide +kernel, rfl⟩
theorem dX9_spread_89 : decode cX9_spread 89 = .ok (.iload 5, 2) ∧ 91 = 89 + 2 := ⟨by decide +kernel, rfl⟩
theorem dX9_spread_91 : decode cX9_spread 91 = .ok (.iaload, 1) ∧ 92 = 91 + 1 := ⟨by decide +kernel, rfl⟩
theorem dX9_spread_92 : decode cX9_spread 92 = .ok (.invokestatic 322, 3) ∧ 95 = 92 + 3 := ⟨by decide +kernel, rfl⟩
theorem dX9_spread_95 : decode cX9_spread 95 = .ok (.istore 4, 2) ∧ 97 = 95 + 2 := ⟨by decide +kernel, rfl⟩
theorem dX9_spread_97 : decode cX9_spread 97 = .ok (.iinc 5 1, 3) ∧ 100 = 97 + 3 := ⟨by decide +kernel, rfl⟩
theorem dX9_spread_100 : decode cX9_spread 100 = .ok (.goto (-56), 3) ∧ 103 = 100 + 3 := ⟨by decide +kernel, rfl⟩
theorem dX9_spread_103 : decode cX9_spread 103 = .ok (.iload 4, 2) ∧ 105 = 103 + 2 := ⟨by decide +kernel, rfl⟩
theorem dX9_spread_105 : decode cX9_spread 105 = .ok (.iload_n 3, 1) ∧ 106 = 105 + 1 := ⟨by decide +kernel, rfl⟩
theorem dX9_spread_106 : decode cX9_spread 106 = .ok (.isub, 1) ∧ 107 = 106 + 1 := ⟨by decide +kernel, rfl⟩
theorem dX9_spread_107 : decode cX9_spread 107 = .ok (.ireturn, 1) ∧ 108 = 107 + 1 := ⟨by decide +kernel, rfl⟩
theorem dX9_isIsolated_0 : decode cX9_isIsolated 0 = .ok (.aload_n 0, 1) ∧ 1 = 0 + 1 := ⟨by decide +kernel, rfl⟩
theorem dX9_isIsolated_1 : decode cX9_isIsolated 1 = .ok (.getfield 28, 3) ∧ 4 = 1 + 3 := ⟨by decide +kernel, rfl⟩
theorem dX9_isIsolated_4 : decode cX9_isIsolated 4 = .ok (.iload_n 1, 1) ∧ 5 = 4 + 1 := ⟨by decide +kernel, rfl⟩
theorem dX9_isIsolated_5 : decode cX9_isIsolated 5 = .ok (.invokevirtual 185, 3) ∧ 8 = 5 + 3 := ⟨by decide +kernel, rfl⟩
theorem dX9_isIsolated_8 : decode cX9_isIsolated 8 = .ok (.ifCond .ne 11, 3) ∧ 11 = 8 + 3 := ⟨by decide +kernel, rfl⟩
theorem dX9_isIsolated_11 : decode cX9_isIsolated 11 = .ok (.new 132, 3) ∧ 14 = 11 + 3 := ⟨by decide +kernel, rfl⟩
theorem dX9_isIsolated_14 : decode cX9_isIsolated 14 = .ok (.dup, 1) ∧ 15 = 14 + 1 := ⟨by decide +kernel, rfl⟩
theorem dX9_isIsolated_15 : decode cX9_isIsolated 15 = .ok (.invokespecial 134, 3) ∧ 18 = 15 + 3 := ⟨by decide +kernel, rfl⟩
theorem dX9_isIsolated_18 : decode cX9_isIsolated 18 = .ok (.athrow, 1) ∧ 19 = 18 + 1 := ⟨by decide +kernel, rfl⟩
theorem dX9_isIsolated_19 : decode cX9_isIsolated 19 = .ok (.aload_n 0, 1) ∧ 20 = 19 + 1 := ⟨by decide +kernel, rfl⟩
theorem dX9_isIsolated_20 : decode cX9_isIsolated 20 = .ok (.getfield 73, 3) ∧ 23 = 20 + 3 := ⟨by decide +kernel, rfl⟩
theorem dX9_isIsolated_23 : decode cX9_isIsolated 23 = .ok (.iload_n 1, 1) ∧ 24 = 23 + 1 := ⟨by decide +kernel, rfl⟩
theorem dX9_isIsolated_24 : decode cX9_isIsolated 24 = .ok (.invokevirtual 210, 3) ∧ 27 = 24 + 3 := ⟨by decide +kernel, rfl⟩
theorem dX9_isIsolated_27 : decode cX9_isIsolated 27 = .ok (.ireturn, 1) ∧ 28 = 27 + 1 := ⟨by decide +kernel, rfl⟩
theorem dX9_fewestValves_0 : decode cX9_fewestValves 0 = .ok (.aload_n 0, 1) ∧ 1 = 0 + 1 := ⟨by decide +kernel, rfl⟩
theorem dX9_fewestValves_1 : decode cX9_fewestValves 1 = .ok (.getfield 28, 3) ∧ 4 = 1 + 3 := ⟨by decide +kernel, rfl⟩
theorem dX9_fewestValves_4 : decode cX9_fewestValves 4 = .ok (.iload_n 1, 1) ∧ 5 = 4 + 1 := ⟨by decide +kernel, rfl⟩
theorem dX9_fewestValves_5 : decode cX9_fewestValves 5 = .ok (.invokevirtual 185, 3) ∧ 8 = 5 + 3 := ⟨by decide +kernel, rfl⟩
theorem dX9_fewestValves_8 : decode cX9_fewestValves 8 = .ok (.ifCond .ne 11, 3) ∧ 11 = 8 + 3 := ⟨by decide +kernel, rfl⟩
theorem dX9_fewestValves_11 : decode cX9_fewestValves 11 = .ok (.new 132, 3) ∧ 14 = 11 + 3 := ⟨by decide +kernel, rfl⟩
theorem dX9_fewestValves_14 : decode cX9_fewestValves 14 = .ok (.dup, 1) ∧ 15 = 14 + 1 := ⟨by decide +kernel, rfl⟩
theorem dX9_fewestValves_15 : decode cX9_fewestValves 15 = .ok (.invokespecial 134, 3) ∧ 18 = 15 + 3 := ⟨by decide +kernel, rfl⟩
theorem dX9_fewestValves_18 : decode cX9_fewestValves 18 = .ok (.athrow, 1) ∧ 19 = 18 + 1 := ⟨by decide +kernel, rfl⟩
theorem dX9_fewestValves_19 : decode cX9_fewestValves 19 = .ok (.iload_n 2, 1) ∧ 20 = 19 + 1 := ⟨by decide +kernel, rfl⟩
theorem dX9_fewestValves_20 : decode cX9_fewestValves 20 = .ok (.iconst (-1), 1) ∧ 21 = 20 + 1 := ⟨by decide +kernel, rfl⟩
theorem dX9_fewestValves_21 : decode cX9_fewestValves 21 = .ok (.if_icmp .eq 22, 3) ∧ 24 = 21 + 3 := ⟨by decide +kernel, rfl⟩
theorem dX9_fewestValves_24 : decode cX9_fewestValves 24 = .ok (.aload_n 0, 1) ∧ 25 = 24 + 1 := ⟨by decide +kernel, rfl⟩
theorem dX9_fewestValves_25 : decode cX9_fewestValves 25 = .ok (.getfield 28, 3) ∧ 28 = 25 + 3 := ⟨by decide +kernel, rfl⟩
theorem dX9_fewestValves_28 : decode cX9_fewestValves 28 = .ok (.iload_n 2, 1) ∧ 29 = 28 + 1 := ⟨by decide +kernel, rfl⟩
theorem dX9_fewestValves_29 : decode cX9_fewestValves 29 = .ok (.invokevirtual 185, 3) ∧ 32 = 29 + 3 := ⟨by decide +kernel, rfl⟩
theorem dX9_fewestValves_32 : decode cX9_fewestValves 32 = .ok (.ifCond .ne 11, 3) ∧ 35 = 32 + 3 := ⟨by decide +kernel, rfl⟩
theorem dX9_fewestValves_35 : decode cX9_fewestValves 35 = .ok (.new 103, 3) ∧ 38 = 35 + 3 := ⟨by decide +kernel, rfl⟩
theorem dX9_fewestValves_38 : decode cX9_fewestValves 38 = .ok (.dup, 1) ∧ 39 = 38 + 1 := ⟨by decide +kernel, rfl⟩
theorem dX9_fewestValves_39 : decode cX9_fewestValves 39 = .ok (.invokespecial 105, 3) ∧ 42 = 39 + 3 := ⟨by decide +kernel, rfl⟩
theorem dX9_fewestValves_42 : decode cX9_fewestValves 42 = .ok (.athrow, 1) ∧ 43 = 42 + 1 := ⟨by decide +kernel, rfl⟩
theorem dX9_fewestValves_43 : decode cX9_fewestValves 43 = .ok (.iload_n 2, 1) ∧ 44 = 43 + 1 := ⟨by decide +kernel, rfl⟩
theorem dX9_fewestValves_44 : decode cX9_fewestValves 44 = .ok (.iconst (-1), 1) ∧ 45 = 44 + 1 := ⟨by decide +kernel, rfl⟩
theorem dX9_fewestValves_45 : decode cX9_fewestValves 45 = .ok (.if_icmp .ne 8, 3) ∧ 48 = 45 + 3 := ⟨by decide +kernel, rfl⟩
theorem dX9_fewestValves_48 : decode cX9_fewestValves 48 = .ok (.bipush 8, 2) ∧ 50 = 48 + 2 := ⟨by decide +kernel, rfl⟩
theorem dX9_fewestValves_50 : decode cX9_fewestValves 50 = .ok (.goto 4, 3) ∧ 53 = 50 + 3 := ⟨by decide +kernel, rfl⟩
theorem dX9_fewestValves_53 : decode cX9_fewestValves 53 = .ok (.iload_n 2, 1) ∧ 54 = 53 + 1 := ⟨by decide +kernel, rfl⟩
theorem dX9_fewestValves_54 : decode cX9_fewestValves 54 = .ok (.istore_n 3, 1) ∧ 55 = 54 + 1 := ⟨by decide +kernel, rfl⟩
theorem dX9_fewestValves_55 : decode cX9_fewestValves 55 = .ok (.iconst 1, 1) ∧ 56 = 55 + 1 := ⟨by decide +kernel, rfl⟩
theorem dX9_fewestValves_56 : decode cX9_fewestValves 56 = .ok (.iload_n 1, 1) ∧ 57 = 56 + 1 := ⟨by decide +kernel, rfl⟩
theorem dX9_fewestValves_57 : decode cX9_fewestValves 57 = .ok (.ishl, 1) ∧ 58 = 57 + 1 := ⟨by decide +kernel, rfl⟩
theorem dX9_fewestValves_58 : decode cX9_fewestValves 58 = .ok (.istore 4, 2) ∧ 60 = 58 + 2 := ⟨by decide +kernel, rfl⟩
theorem dX9_fewestValves_60 : decode cX9_fewestValves 60 = .ok (.iconst 0, 1) ∧ 61 = 60 + 1 := ⟨by decide +kernel, rfl⟩
theorem dX9_fewestValves_61 : decode cX9_fewestValves 61 = .ok (.istore 5, 2) ∧ 63 = 61 + 2 := ⟨by decide +kernel, rfl⟩
theorem dX9_fewestValves_63 : decode cX9_fewestValves 63 = .ok (.iload 5, 2) ∧ 65 = 63 + 2 := ⟨by decide +kernel, rfl⟩
theorem dX9_fewestValves_65 : decode cX9_fewestValves 65 = .ok (.bipush 8, 2) ∧ 67 = 65 + 2 := ⟨by decide +kernel, rfl⟩
theorem dX9_fewestValves_67 : decode cX9_fewestValves 67 = .ok (.if_icmp .gt 39, 3) ∧ 70 = 67 + 3 := ⟨by decide +kernel, rfl⟩
theorem dX9_fewestValves_70 : decode cX9_fewestValves 70 = .ok (.iload 4, 2) ∧ 72 = 70 + 2 := ⟨by decide +kernel, rfl⟩
theorem dX9_fewestValves_72 : decode cX9_fewestValves 72 = .ok (.iload_n 3, 1) ∧ 73 = 72 + 1 := ⟨by decide +kernel, rfl⟩
theorem dX9_fewestValves_73 : decode cX9_fewestValves 73 = .ok (.invokestatic 313, 3) ∧ 76 = 73 + 3 := ⟨by decide +kernel, rfl⟩
theorem dX9_fewestValves_76 : decode cX9_fewestValves 76 = .ok (.ifCond .eq 6, 3) ∧ 79 = 76 + 3 := ⟨by decide +kernel, rfl⟩
theorem dX9_fewestValves_79 : decode cX9_fewestValves 79 = .ok (.iload 5, 2) ∧ 81 = 79 + 2 := ⟨by decide +kernel, rfl⟩
theorem dX9_fewestValves_81 : decode cX9_fewestValves 81 = .ok (.ireturn, 1) ∧ 82 = 81 + 1 := ⟨by decide +kernel, rfl⟩
theorem dX9_fewestValves_82 : decode cX9_fewestValves 82 = .ok (.aload_n 0, 1) ∧ 83 = 82 + 1 := ⟨by decide +kernel, rfl⟩
theorem dX9_fewestValves_83 : decode cX9_fewestValves 83 = .ok (.getfield 28, 3) ∧ 86 = 83 + 3 := ⟨by decide +kernel, rfl⟩
theorem dX9_fewestValves_86 : decode cX9_fewestValves 86 = .ok (.iload 4, 2) ∧ 88 = 86 + 2 := ⟨by decide +kernel, rfl⟩
theorem dX9_fewestValves_88 : decode cX9_fewestValves 88 = .ok (.aload_n 0, 1) ∧ 89 = 88 + 1 := ⟨by decide +kernel, rfl⟩
theorem dX9_fewestValves_89 : decode cX9_fewestValves 89 = .ok (.getfield 28, 3) ∧ 92 = 89 + 3 := ⟨by decide +kernel, rfl⟩
theorem dX9_fewestValves_92 : decode cX9_fewestValves 92 = .ok (.invokevirtual 325, 3) ∧ 95 = 92 + 3 := ⟨by decide +kernel, rfl⟩
theorem dX9_fewestValves_95 : decode cX9_fewestValves 95 = .ok (.invokevirtual 329, 3) ∧ 98 = 95 + 3 := ⟨by decide +kernel, rfl⟩
theorem dX9_fewestValves_98 : decode cX9_fewestValves 98 = .ok (.istore 4, 2) ∧ 100 = 98 + 2 := ⟨by decide +kernel, rfl⟩
theorem dX9_fewestValves_100 : decode cX9_fewestValves 100 = .ok (.iinc 5 1, 3) ∧ 103 = 100 + 3 := ⟨by decide +kernel, rfl⟩
theorem dX9_fewestValves_103 : decode cX9_fewestValves 103 = .ok (.goto (-40), 3) ∧ 106 = 103 + 3 := ⟨by decide +kernel, rfl⟩
theorem dX9_fewestValves_106 : decode cX9_fewestValves 106 = .ok (.iconst (-1), 1) ∧ 107 = 106 + 1 := ⟨by decide +kernel, rfl⟩
theorem dX9_fewestValves_107 : decode cX9_fewestValves 107 = .ok (.ireturn, 1) ∧ 108 = 107 + 1 := ⟨by decide +kernel, rfl⟩
theorem dX9_settled_0 : decode cX9_settled 0 = .ok (.aload_n 0, 1) ∧ 1 = 0 + 1 := ⟨by decide +kernel, rfl⟩
theorem dX9_settled_1 : decode cX9_settled 1 = .ok (.getfield 28, 3) ∧ 4 = 1 + 3 := ⟨by decide +kernel, rfl⟩
theorem dX9_settled_4 : decode cX9_settled 4 = .ok (.iload_n 1, 1) ∧ 5 = 4 + 1 := ⟨by decide +kernel, rfl⟩
theorem dX9_settled_5 : decode cX9_settled 5 = .ok (.invokevirtual 185, 3) ∧ 8 = 5 + 3 := ⟨by decide +kernel, rfl⟩
theorem dX9_settled_8 : decode cX9_settled 8 = .ok (.ifCond .ne 11, 3) ∧ 11 = 8 + 3 := ⟨by decide +kernel, rfl⟩
theorem dX9_settled_11 : decode cX9_settled 11 = .ok (.new 132, 3) ∧ 14 = 11 + 3 := ⟨by decide +kernel, rfl⟩
theorem dX9_settled_14 : decode cX9_settled 14 = .ok (.dup, 1) ∧ 15 = 14 + 1 := ⟨by decide +kernel, rfl⟩
theorem dX9_settled_15 : decode cX9_settled 15 = .ok (.invokespecial 134, 3) ∧ 18 = 15 + 3 := ⟨by decide +kernel, rfl⟩
theorem dX9_settled_18 : decode cX9_settled 18 = .ok (.athrow, 1) ∧ 19 = 18 + 1 := ⟨by decide +kernel, rfl⟩
theorem dX9_settled_19 : decode cX9_settled 19 = .ok (.aload_n 0, 1) ∧ 20 = 19 + 1 := ⟨by decide +kernel, rfl⟩
theorem dX9_settled_20 : decode cX9_settled 20 = .ok (.getfield 73, 3) ∧ 23 = 20 + 3 := ⟨by decide +kernel, rfl⟩
theorem dX9_settled_23 : decode cX9_settled 23 = .ok (.iload_n 1, 1) ∧ 24 = 23 + 1 := ⟨by decide +kernel, rfl⟩
theorem dX9_settled_24 : decode cX9_settled 24 = .ok (.invokevirtual 310, 3) ∧ 27 = 24 + 3 := ⟨by decide +kernel, rfl⟩
theorem dX9_settled_27 : decode cX9_settled 27 = .ok (.istore_n 2, 1) ∧ 28 = 27 + 1 := ⟨by decide +kernel, rfl⟩
theorem dX9_settled_28 : decode cX9_settled 28 = .ok (.lconst 0, 1) ∧ 29 = 28 + 1 := ⟨by decide +kernel, rfl⟩
theorem dX9_settled_29 : decode cX9_settled 29 = .ok (.lstore_n 3, 1) ∧ 30 = 29 + 1 := ⟨by decide +kernel, rfl⟩
theorem dX9_settled_30 : decode cX9_settled 30 = .ok (.iconst 0, 1) ∧ 31 = 30 + 1 := ⟨by decide +kernel, rfl⟩
theorem dX9_settled_31 : decode cX9_settled 31 = .ok (.istore 5, 2) ∧ 33 = 31 + 2 := ⟨by decide +kernel, rfl⟩
theorem dX9_settled_33 : decode cX9_settled 33 = .ok (.iconst 0, 1) ∧ 34 = 33 + 1 := ⟨by decide +kernel, rfl⟩
theorem dX9_settled_34 : decode cX9_settled 34 = .ok (.istore 6, 2) ∧ 36 = 34 + 2 := ⟨by decide +kernel, rfl⟩
theorem dX9_settled_36 : decode cX9_settled 36 = .ok (.iload 6, 2) ∧ 38 = 36 + 2 := ⟨by decide +kernel, rfl⟩
theorem dX9_settled_38 : decode cX9_settled 38 = .ok (.aload_n 0, 1) ∧ 39 = 38 + 1 := ⟨by decide +kernel, rfl⟩
theorem dX9_settled_39 : decode cX9_settled 39 = .ok (.getfield 28, 3) ∧ 42 = 39 + 3 := ⟨by decide +kernel, rfl⟩
theorem dX9_settled_42 : decode cX9_settled 42 = .ok (.getfield 125, 3) ∧ 45 = 42 + 3 := ⟨by decide +kernel, rfl⟩
theorem dX9_settled_45 : decode cX9_settled 45 = .ok (.if_icmp .ge 46, 3) ∧ 48 = 45 + 3 := ⟨by decide +kernel, rfl⟩
theorem dX9_settled_48 : decode cX9_settled 48 = .ok (.iload_n 2, 1) ∧ 49 = 48 + 1 := ⟨by decide +kernel, rfl⟩
theorem dX9_settled_49 : decode cX9_settled 49 = .ok (.iload 6, 2) ∧ 51 = 49 + 2 := ⟨by decide +kernel, rfl⟩
theorem dX9_settled_51 : decode cX9_settled 51 = .ok (.invokestatic 313, 3) ∧ 54 = 51 + 3 := ⟨by decide +kernel, rfl⟩
theorem dX9_settled_54 : decode cX9_settled 54 = .ok (.ifCond .eq 31, 3) ∧ 57 = 54 + 3 := ⟨by decide +kernel, rfl⟩
theorem dX9_settled_57 : decode cX9_settled 57 = .ok (.lload_n 3, 1) ∧ 58 = 57 + 1 := ⟨by decide +kernel, rfl⟩
theorem dX9_settled_58 : decode cX9_settled 58 = .ok (.aload_n 0, 1) ∧ 59 = 58 + 1 := ⟨by decide +kernel, rfl⟩
theorem dX9_settled_59 : decode cX9_settled 59 = .ok (.getfield 73, 3) ∧ 62 = 59 + 3 := ⟨by decide +kernel, rfl⟩
theorem dX9_settled_62 : decode cX9_settled 62 = .ok (.getfield 266, 3) ∧ 65 = 62 + 3 := ⟨by decide +kernel, rfl⟩
theorem dX9_settled_65 : decode cX9_settled 65 = .ok (.iload 6, 2) ∧ 67 = 65 + 2 := ⟨by decide +kernel, rfl⟩
theorem dX9_settled_67 : decode cX9_settled 67 = .ok (.laload, 1) ∧ 68 = 67 + 1 := ⟨by decide +kernel, rfl⟩
theorem dX9_settled_68 : decode cX9_settled 68 = .ok (.ladd, 1) ∧ 69 = 68 + 1 := ⟨by decide +kernel, rfl⟩
theorem dX9_settled_69 : decode cX9_settled 69 = .ok (.lstore_n 3, 1) ∧ 70 = 69 + 1 := ⟨by decide +kernel, rfl⟩
theorem dX9_settled_70 : decode cX9_settled 70 = .ok (.iload 5, 2) ∧ 72 = 70 + 2 := ⟨by decide +kernel, rfl⟩
theorem dX9_settled_72 : decode cX9_settled 72 = .ok (.aload_n 0, 1) ∧ 73 = 72 + 1 := ⟨by decide +kernel, rfl⟩
theorem dX9_settled_73 : decode cX9_settled 73 = .ok (.getfield 28, 3) ∧ 76 = 73 + 3 := ⟨by decide +kernel, rfl⟩
theorem dX9_settled_76 : decode cX9_settled 76 = .ok (.getfield 251, 3) ∧ 79 = 76 + 3 := ⟨by decide +kernel, rfl⟩
theorem dX9_settled_79 : decode cX9_settled 79 = .ok (.iload 6, 2) ∧ 81 = 79 + 2 := ⟨by decide +kernel, rfl⟩
theorem dX9_settled_81 : decode cX9_settled 81 = .ok (.iaload, 1) ∧ 82 = 81 + 1 := ⟨by decide +kernel, rfl⟩
theorem dX9_settled_82 : decode cX9_settled 82 = .ok (.iadd, 1) ∧ 83 = 82 + 1 := ⟨by decide +kernel, rfl⟩
theorem dX9_settled_83 : decode cX9_settled 83 = .ok (.istore 5, 2) ∧ 85 = 83 + 2 := ⟨by decide +kernel, rfl⟩
theorem dX9_settled_85 : decode cX9_settled 85 = .ok (.iinc 6 1, 3) ∧ 88 = 85 + 3 := ⟨by decide +kernel, rfl⟩
theorem dX9_settled_88 : decode cX9_settled 88 = .ok (.goto (-52), 3) ∧ 91 = 88 + 3 := ⟨by decide +kernel, rfl⟩
theorem dX9_settled_91 : decode cX9_settled 91 = .ok (.iload 5, 2) ∧ 93 = 91 + 2 := ⟨by decide +kernel, rfl⟩
theorem dX9_settled_93 : decode cX9_settled 93 = .ok (.ifCond .le 12, 3) ∧ 96 = 93 + 3 := ⟨by decide +kernel, rfl⟩
theorem dX9_settled_96 : decode cX9_settled 96 = .ok (.lload_n 3, 1) ∧ 97 = 96 + 1 := ⟨by decide +kernel, rfl⟩
theorem dX9_settled_97 : decode cX9_settled 97 = .ok (.iload 5, 2) ∧ 99 = 97 + 2 := ⟨by decide +kernel, rfl⟩
theorem dX9_settled_99 : decode cX9_settled 99 = .ok (.i2l, 1) ∧ 100 = 99 + 1 := ⟨by decide +kernel, rfl⟩
theorem dX9_settled_100 : decode cX9_settled 100 = .ok (.ldiv, 1) ∧ 101 = 100 + 1 := ⟨by decide +kernel, rfl⟩
theorem dX9_settled_101 : decode cX9_settled 101 = .ok (.l2i, 1) ∧ 102 = 101 + 1 := ⟨by decide +kernel, rfl⟩
theorem dX9_settled_102 : decode cX9_settled 102 = .ok (.goto 4, 3) ∧ 105 = 102 + 3 := ⟨by decide +kernel, rfl⟩
theorem dX9_settled_105 : decode cX9_settled 105 = .ok (.iconst 0, 1) ∧ 106 = 105 + 1 := ⟨by decide +kernel, rfl⟩
theorem dX9_settled_106 : decode cX9_settled 106 = .ok (.ireturn, 1) ∧ 107 = 106 + 1 := ⟨by decide +kernel, rfl⟩
theorem dX9_openable_0 : decode cX9_openable 0 = .ok (.iconst 0, 1) ∧ 1 = 0 + 1 := ⟨by decide +kernel, rfl⟩
theorem dX9_openable_1 : decode cX9_openable 1 = .ok (.istore_n 1, 1) ∧ 2 = 1 + 1 := ⟨by decide +kernel, rfl⟩
theorem dX9_openable_2 : decode cX9_openable 2 = .ok (.iconst 0, 1) ∧ 3 = 2 + 1 := ⟨by decide +kernel, rfl⟩
theorem dX9_openable_3 : decode cX9_openable 3 = .ok (.istore_n 2, 1) ∧ 4 = 3 + 1 := ⟨by decide +kernel, rfl⟩
theorem dX9_openable_4 : decode cX9_openable 4 = .ok (.iload_n 2, 1) ∧ 5 = 4 + 1 := ⟨by decide +kernel, rfl⟩
theorem dX9_openable_5 : decode cX9_openable 5 = .ok (.aload_n 0, 1) ∧ 6 = 5 + 1 := ⟨by decide +kernel, rfl⟩
theorem dX9_openable_6 : decode cX9_openable 6 = .ok (.getfield 28, 3) ∧ 9 = 6 + 3 := ⟨by decide +kernel, rfl⟩
theorem dX9_openable_9 : decode cX9_openable 9 = .ok (.getfield 223, 3) ∧ 12 = 9 + 3 := ⟨by decide +kernel, rfl⟩
theorem dX9_openable_12 : decode cX9_openable 12 = .ok (.if_icmp .ge 26, 3) ∧ 15 = 12 + 3 := ⟨by decide +kernel, rfl⟩
theorem dX9_openable_15 : decode cX9_openable 15 = .ok (.aload_n 0, 1) ∧ 16 = 15 + 1 := ⟨by decide +kernel, rfl⟩
theorem dX9_openable_16 : decode cX9_openable 16 = .ok (.getfield 73, 3) ∧ 19 = 16 + 3 := ⟨by decide +kernel, rfl⟩
theorem dX9_openable_19 : decode cX9_openable 19 = .ok (.iload_n 2, 1) ∧ 20 = 19 + 1 := ⟨by decide +kernel, rfl⟩
theorem dX9_openable_20 : decode cX9_openable 20 = .ok (.invokevirtual 135, 3) ∧ 23 = 20 + 3 := ⟨by decide +kernel, rfl⟩
theorem dX9_openable_23 : decode cX9_openable 23 = .ok (.ifCond .ne 9, 3) ∧ 26 = 23 + 3 := ⟨by decide +kernel, rfl⟩
theorem dX9_openable_26 : decode cX9_openable 26 = .ok (.iload_n 1, 1) ∧ 27 = 26 + 1 := ⟨by decide +kernel, rfl⟩
theorem dX9_openable_27 : decode cX9_openable 27 = .ok (.iconst 1, 1) ∧ 28 = 27 + 1 := ⟨by decide +kernel, rfl⟩
theorem dX9_openable_28 : decode cX9_openable 28 = .ok (.iload_n 2, 1) ∧ 29 = 28 + 1 := ⟨by decide +kernel, rfl⟩
theorem dX9_openable_29 : decode cX9_openable 29 = .ok (.ishl, 1) ∧ 30 = 29 + 1 := ⟨by decide +kernel, rfl⟩
theorem dX9_openable_30 : decode cX9_openable 30 = .ok (.ior, 1) ∧ 31 = 30 + 1 := ⟨by decide +kernel, rfl⟩
theorem dX9_openable_31 : decode cX9_openable 31 = .ok (.istore_n 1, 1) ∧ 32 = 31 + 1 := ⟨by decide +kernel, rfl⟩
theorem dX9_openable_32 : decode cX9_openable 32 = .ok (.iinc 2 1, 3) ∧ 35 = 32 + 3 := ⟨by decide +kernel, rfl⟩
theorem dX9_openable_35 : decode cX9_openable 35 = .ok (.goto (-31), 3) ∧ 38 = 35 + 3 := ⟨by decide +kernel, rfl⟩
theorem dX9_openable_38 : decode cX9_openable 38 = .ok (.iload_n 1, 1) ∧ 39 = 38 + 1 := ⟨by decide +kernel, rfl⟩
theorem dX9_openable_39 : decode cX9_openable 39 = .ok (.ireturn, 1) ∧ 40 = 39 + 1 := ⟨by decide +kernel, rfl⟩
theorem dX9_pressureAfter_0 : decode cX9_pressureAfter 0 = .ok (.aload_n 0, 1) ∧ 1 = 0 + 1 := ⟨by decide +kernel, rfl⟩
theorem dX9_pressureAfter_1 : decode cX9_pressureAfter 1 = .ok (.getfield 28, 3) ∧ 4 = 1 + 3 := ⟨by decide +kernel, rfl⟩
theorem dX9_pressureAfter_4 : decode cX9_pressureAfter 4 = .ok (.iload_n 1, 1) ∧ 5 = 4 + 1 := ⟨by decide +kernel, rfl⟩
theorem dX9_pressureAfter_5 : decode cX9_pressureAfter 5 = .ok (.invokevirtual 185, 3) ∧ 8 = 5 + 3 := ⟨by decide +kernel, rfl⟩
theorem dX9_pressureAfter_8 : decode cX9_pressureAfter 8 = .ok (.ifCond .ne 11, 3) ∧ 11 = 8 + 3 := ⟨by decide +kernel, rfl⟩
theorem dX9_pressureAfter_11 : decode cX9_pressureAfter 11 = .ok (.new 132, 3) ∧ 14 = 11 + 3 := ⟨by decide +kernel, rfl⟩
theorem dX9_pressureAfter_14 : decode cX9_pressureAfter 14 = .ok (.dup, 1) ∧ 15 = 14 + 1 := ⟨by decide +kernel, rfl⟩
theorem dX9_pressureAfter_15 : decode cX9_pressureAfter 15 = .ok (.invokespecial 134, 3) ∧ 18 = 15 + 3 := ⟨by decide +kernel, rfl⟩
theorem dX9_pressureAfter_18 : decode cX9_pressureAfter 18 = .ok (.athrow, 1) ∧ 19 = 18 + 1 := ⟨by decide +kernel, rfl⟩
theorem dX9_pressureAfter_19 : decode cX9_pressureAfter 19 = .ok (.iload_n 2, 1) ∧ 20 = 19 + 1 := ⟨by decide +kernel, rfl⟩
theorem dX9_pressureAfter_20 : decode cX9_pressureAfter 20 = .ok (.invokestatic 179, 3) ∧ 23 = 20 + 3 := ⟨by decide +kernel, rfl⟩
theorem dX9_pressureAfter_23 : decode cX9_pressureAfter 23 = .ok (.ifCond .ne 11, 3) ∧ 26 = 23 + 3 := ⟨by decide +kernel, rfl⟩
theorem dX9_pressureAfter_26 : decode cX9_pressureAfter 26 = .ok (.new 103, 3) ∧ 29 = 26 + 3 := ⟨by decide +kernel, rfl⟩
theorem dX9_pressureAfter_29 : decode cX9_pressureAfter 29 = .ok (.dup, 1) ∧ 30 = 29 + 1 := ⟨by decide +kernel, rfl⟩
theorem dX9_pressureAfter_30 : decode cX9_pressureAfter 30 = .ok (.invokespecial 105, 3) ∧ 33 = 30 + 3 := ⟨by decide +kernel, rfl⟩
theorem dX9_pressureAfter_33 : decode cX9_pressureAfter 33 = .ok (.athrow, 1) ∧ 34 = 33 + 1 := ⟨by decide +kernel, rfl⟩
theorem dX9_pressureAfter_34 : decode cX9_pressureAfter 34 = .ok (.aload_n 0, 1) ∧ 35 = 34 + 1 := ⟨by decide +kernel, rfl⟩
theorem dX9_pressureAfter_35 : decode cX9_pressureAfter 35 = .ok (.invokevirtual 139, 3) ∧ 38 = 35 + 3 := ⟨by decide +kernel, rfl⟩
theorem dX9_pressureAfter_38 : decode cX9_pressureAfter 38 = .ok (.aload_n 0, 1) ∧ 39 = 38 + 1 := ⟨by decide +kernel, rfl⟩
theorem dX9_pressureAfter_39 : decode cX9_pressureAfter 39 = .ok (.getfield 77, 3) ∧ 42 = 39 + 3 := ⟨by decide +kernel, rfl⟩
theorem dX9_pressureAfter_42 : decode cX9_pressureAfter 42 = .ok (.iload_n 2, 1) ∧ 43 = 42 + 1 := ⟨by decide +kernel, rfl⟩
theorem dX9_pressureAfter_43 : decode cX9_pressureAfter 43 = .ok (.invokevirtual 182, 3) ∧ 46 = 43 + 3 := ⟨by decide +kernel, rfl⟩
theorem dX9_pressureAfter_46 : decode cX9_pressureAfter 46 = .ok (.pop, 1) ∧ 47 = 46 + 1 := ⟨by decide +kernel, rfl⟩
theorem dX9_pressureAfter_47 : decode cX9_pressureAfter 47 = .ok (.aload_n 0, 1) ∧ 48 = 47 + 1 := ⟨by decide +kernel, rfl⟩
theorem dX9_pressureAfter_48 : decode cX9_pressureAfter 48 = .ok (.getfield 77, 3) ∧ 51 = 48 + 3 := ⟨by decide +kernel, rfl⟩
theorem dX9_pressureAfter_51 : decode cX9_pressureAfter 51 = .ok (.getfield 166, 3) ∧ 54 = 51 + 3 := ⟨by decide +kernel, rfl⟩
theorem dX9_pressureAfter_54 : decode cX9_pressureAfter 54 = .ok (.iload_n 1, 1) ∧ 55 = 54 + 1 := ⟨by decide +kernel, rfl⟩
theorem dX9_pressureAfter_55 : decode cX9_pressureAfter 55 = .ok (.iaload, 1) ∧ 56 = 55 + 1 := ⟨by decide +kernel, rfl⟩
theorem dX9_pressureAfter_56 : decode cX9_pressureAfter 56 = .ok (.ireturn, 1) ∧ 57 = 56 + 1 := ⟨by decide +kernel, rfl⟩
theorem dX9_lowest_0 : decode cX9_lowest 0 = .ok (.aload_n 0, 1) ∧ 1 = 0 + 1 := ⟨by decide +kernel, rfl⟩
theorem dX9_lowest_1 : decode cX9_lowest 1 = .ok (.getfield 28, 3) ∧ 4 = 1 + 3 := ⟨by decide +kernel, rfl⟩
theorem dX9_lowest_4 : decode cX9_lowest 4 = .ok (.iload_n 1, 1) ∧ 5 = 4 + 1 := ⟨by decide +kernel, rfl⟩
theorem dX9_lowest_5 : decode cX9_lowest 5 = .ok (.invokevirtual 185, 3) ∧ 8 = 5 + 3 := ⟨by decide +kernel, rfl⟩
theorem dX9_lowest_8 : decode cX9_lowest 8 = .ok (.ifCond .ne 11, 3) ∧ 11 = 8 + 3 := ⟨by decide +kernel, rfl⟩
theorem dX9_lowest_11 : decode cX9_lowest 11 = .ok (.new 132, 3) ∧ 14 = 11 + 3 := ⟨by decide +kernel, rfl⟩
theorem dX9_lowest_14 : decode cX9_lowest 14 = .ok (.dup, 1) ∧ 15 = 14 + 1 := ⟨by decide +kernel, rfl⟩
theorem dX9_lowest_15 : decode cX9_lowest 15 = .ok (.invokespecial 134, 3) ∧ 18 = 15 + 3 := ⟨by decide +kernel, rfl⟩
theorem dX9_lowest_18 : decode cX9_lowest 18 = .ok (.athrow, 1) ∧ 19 = 18 + 1 := ⟨by decide +kernel, rfl⟩
theorem dX9_lowest_19 : decode cX9_lowest 19 = .ok (.iload_n 2, 1) ∧ 20 = 19 + 1 := ⟨by decide +kernel, rfl⟩
theorem dX9_lowest_20 : decode cX9_lowest 20 = .ok (.invokestatic 179, 3) ∧ 23 = 20 + 3 := ⟨by decide +kernel, rfl⟩
theorem dX9_lowest_23 : decode cX9_lowest 23 = .ok (.ifCond .ne 11, 3) ∧ 26 = 23 + 3 := ⟨by decide +kernel, rfl⟩
theorem dX9_lowest_26 : decode cX9_lowest 26 = .ok (.new 103, 3) ∧ 29 = 26 + 3 := ⟨by decide +kernel, rfl⟩
theorem dX9_lowest_29 : decode cX9_lowest 29 = .ok (.dup, 1) ∧ 30 = 29 + 1 := ⟨by decide +kernel, rfl⟩
theorem dX9_lowest_30 : decode cX9_lowest 30 = .ok (.invokespecial 105, 3) ∧ 33 = 30 + 3 := ⟨by decide +kernel, rfl⟩
theorem dX9_lowest_33 : decode cX9_lowest 33 = .ok (.athrow, 1) ∧ 34 = 33 + 1 := ⟨by decide +kernel, rfl⟩
theorem dX9_lowest_34 : decode cX9_lowest 34 = .ok (.aload_n 0, 1) ∧ 35 = 34 + 1 := ⟨by decide +kernel, rfl⟩
theorem dX9_lowest_35 : decode cX9_lowest 35 = .ok (.invokevirtual 139, 3) ∧ 38 = 35 + 3 := ⟨by decide +kernel, rfl⟩
theorem dX9_lowest_38 : decode cX9_lowest 38 = .ok (.aload_n 0, 1) ∧ 39 = 38 + 1 := ⟨by decide +kernel, rfl⟩
theorem dX9_lowest_39 : decode cX9_lowest 39 = .ok (.getfield 77, 3) ∧ 42 = 39 + 3 := ⟨by decide +kernel, rfl⟩
theorem dX9_lowest_42 : decode cX9_lowest 42 = .ok (.getfield 166, 3) ∧ 45 = 42 + 3 := ⟨by decide +kernel, rfl⟩
theorem dX9_lowest_45 : decode cX9_lowest 45 = .ok (.iload_n 1, 1) ∧ 46 = 45 + 1 := ⟨by decide +kernel, rfl⟩
theorem dX9_lowest_46 : decode cX9_lowest 46 = .ok (.iaload, 1) ∧ 47 = 46 + 1 := ⟨by decide +kernel, rfl⟩
theorem dX9_lowest_47 : decode cX9_lowest 47 = .ok (.istore_n 3, 1) ∧ 48 = 47 + 1 := ⟨by decide +kernel, rfl⟩
theorem dX9_lowest_48 : decode cX9_lowest 48 = .ok (.iconst 0, 1) ∧ 49 = 48 + 1 := ⟨by decide +kernel, rfl⟩
theorem dX9_lowest_49 : decode cX9_lowest 49 = .ok (.istore 4, 2) ∧ 51 = 49 + 2 := ⟨by decide +kernel, rfl⟩
theorem dX9_lowest_51 : decode cX9_lowest 51 = .ok (.iload 4, 2) ∧ 53 = 51 + 2 := ⟨by decide +kernel, rfl⟩
theorem dX9_lowest_53 : decode cX9_lowest 53 = .ok (.iload_n 2, 1) ∧ 54 = 53 + 1 := ⟨by decide +kernel, rfl⟩
theorem dX9_lowest_54 : decode cX9_lowest 54 = .ok (.if_icmp .ge 31, 3) ∧ 57 = 54 + 3 := ⟨by decide +kernel, rfl⟩
theorem dX9_lowest_57 : decode cX9_lowest 57 = .ok (.aload_n 0, 1) ∧ 58 = 57 + 1 := ⟨by decide +kernel, rfl⟩
theorem dX9_lowest_58 : decode cX9_lowest 58 = .ok (.getfield 77, 3) ∧ 61 = 58 + 3 := ⟨by decide +kernel, rfl⟩
theorem dX9_lowest_61 : decode cX9_lowest 61 = .ok (.invokevirtual 335, 3) ∧ 64 = 61 + 3 := ⟨by decide +kernel, rfl⟩
theorem dX9_lowest_64 : decode cX9_lowest 64 = .ok (.pop, 1) ∧ 65 = 64 + 1 := ⟨by decide +kernel, rfl⟩
theorem dX9_lowest_65 : decode cX9_lowest 65 = .ok (.iload_n 3, 1) ∧ 66 = 65 + 1 := ⟨by decide +kernel, rfl⟩
theorem dX9_lowest_66 : decode cX9_lowest 66 = .ok (.aload_n 0, 1) ∧ 67 = 66 + 1 := ⟨by decide +kernel, rfl⟩
theorem dX9_lowest_67 : decode cX9_lowest 67 = .ok (.getfield 77, 3) ∧ 70 = 67 + 3 := ⟨by decide +kernel, rfl⟩
theorem dX9_lowest_70 : decode cX9_lowest 70 = .ok (.getfield 166, 3) ∧ 73 = 70 + 3 := ⟨by decide +kernel, rfl⟩
theorem dX9_lowest_73 : decode cX9_lowest 73 = .ok (.iload_n 1, 1) ∧ 74 = 73 + 1 := ⟨by decide +kernel, rfl⟩
theorem dX9_lowest_74 : decode cX9_lowest 74 = .ok (.iaload, 1) ∧ 75 = 74 + 1 := ⟨by decide +kernel, rfl⟩
theorem dX9_lowest_75 : decode cX9_lowest 75 = .ok (.invokestatic 317, 3) ∧ 78 = 75 + 3 := ⟨by decide +kernel, rfl⟩
theorem dX9_lowest_78 : decode cX9_lowest 78 = .ok (.istore_n 3, 1) ∧ 79 = 78 + 1 := ⟨by decide +kernel, rfl⟩
theorem dX9_lowest_79 : decode cX9_lowest 79 = .ok (.iinc 4 1, 3) ∧ 82 = 79 + 3 := ⟨by decide +kernel, rfl⟩
theorem dX9_lowest_82 : decode cX9_lowest 82 = .ok (.goto (-31), 3) ∧ 85 = 82 + 3 := ⟨by decide +kernel, rfl⟩
theorem dX9_lowest_85 : decode cX9_lowest 85 = .ok (.iload_n 3, 1) ∧ 86 = 85 + 1 := ⟨by decide +kernel, rfl⟩
theorem dX9_lowest_86 : decode cX9_lowest 86 = .ok (.ireturn, 1) ∧ 87 = 86 + 1 := ⟨by decide +kernel, rfl⟩
theorem dX9_ticksTo_0 : decode cX9_ticksTo 0 = .ok (.aload_n 0, 1) ∧ 1 = 0 + 1 := ⟨by decide +kernel, rfl⟩
theorem dX9_ticksTo_1 : decode cX9_ticksTo 1 = .ok (.getfield 28, 3) ∧ 4 = 1 + 3 := ⟨by decide +kernel, rfl⟩
theorem dX9_ticksTo_4 : decode cX9_ticksTo 4 = .ok (.iload_n 1, 1) ∧ 5 = 4 + 1 := ⟨by decide +kernel, rfl⟩
theorem dX9_ticksTo_5 : decode cX9_ticksTo 5 = .ok (.invokevirtual 185, 3) ∧ 8 = 5 + 3 := ⟨by decide +kernel, rfl⟩
theorem dX9_ticksTo_8 : decode cX9_ticksTo 8 = .ok (.ifCond .ne 11, 3) ∧ 11 = 8 + 3 := ⟨by decide +kernel, rfl⟩
theorem dX9_ticksTo_11 : decode cX9_ticksTo 11 = .ok (.new 132, 3) ∧ 14 = 11 + 3 := ⟨by decide +kernel, rfl⟩
theorem dX9_ticksTo_14 : decode cX9_ticksTo 14 = .ok (.dup, 1) ∧ 15 = 14 + 1 := ⟨by decide +kernel, rfl⟩
theorem dX9_ticksTo_15 : decode cX9_ticksTo 15 = .ok (.invokespecial 134, 3) ∧ 18 = 15 + 3 := ⟨by decide +kernel, rfl⟩
theorem dX9_ticksTo_18 : decode cX9_ticksTo 18 = .ok (.athrow, 1) ∧ 19 = 18 + 1 := ⟨by decide +kernel, rfl⟩
theorem dX9_ticksTo_19 : decode cX9_ticksTo 19 = .ok (.iload_n 2, 1) ∧ 20 = 19 + 1 := ⟨by decide +kernel, rfl⟩
theorem dX9_ticksTo_20 : decode cX9_ticksTo 20 = .ok (.invokestatic 188, 3) ∧ 23 = 20 + 3 := ⟨by decide +kernel, rfl⟩
theorem dX9_ticksTo_23 : decode cX9_ticksTo 23 = .ok (.ifCond .ne 11, 3) ∧ 26 = 23 + 3 := ⟨by decide +kernel, rfl⟩
theorem dX9_ticksTo_26 : decode cX9_ticksTo 26 = .ok (.new 103, 3) ∧ 29 = 26 + 3 := ⟨by decide +kernel, rfl⟩
theorem dX9_ticksTo_29 : decode cX9_ticksTo 29 = .ok (.dup, 1) ∧ 30 = 29 + 1 := ⟨by decide +kernel, rfl⟩
theorem dX9_ticksTo_30 : decode cX9_ticksTo 30 = .ok (.invokespecial 105, 3) ∧ 33 = 30 + 3 := ⟨by decide +kernel, rfl⟩
theorem dX9_ticksTo_33 : decode cX9_ticksTo 33 = .ok (.athrow, 1) ∧ 34 = 33 + 1 := ⟨by decide +kernel, rfl⟩
theorem dX9_ticksTo_34 : decode cX9_ticksTo 34 = .ok (.aload_n 0, 1) ∧ 35 = 34 + 1 := ⟨by decide +kernel, rfl⟩
theorem dX9_ticksTo_35 : decode cX9_ticksTo 35 = .ok (.invokevirtual 139, 3) ∧ 38 = 35 + 3 := ⟨by decide +kernel, rfl⟩
theorem dX9_ticksTo_38 : decode cX9_ticksTo 38 = .ok (.aload_n 0, 1) ∧ 39 = 38 + 1 := ⟨by decide +kernel, rfl⟩
theorem dX9_ticksTo_39 : decode cX9_ticksTo 39 = .ok (.getfield 77, 3) ∧ 42 = 39 + 3 := ⟨by decide +kernel, rfl⟩
theorem dX9_ticksTo_42 : decode cX9_ticksTo 42 = .ok (.iload_n 1, 1) ∧ 43 = 42 + 1 := ⟨by decide +kernel, rfl⟩
theorem dX9_ticksTo_43 : decode cX9_ticksTo 43 = .ok (.iload_n 2, 1) ∧ 44 = 43 + 1 := ⟨by decide +kernel, rfl⟩
theorem dX9_ticksTo_44 : decode cX9_ticksTo 44 = .ok (.invokevirtual 191, 3) ∧ 47 = 44 + 3 := ⟨by decide +kernel, rfl⟩
theorem dX9_ticksTo_47 : decode cX9_ticksTo 47 = .ok (.istore_n 3, 1) ∧ 48 = 47 + 1 := ⟨by decide +kernel, rfl⟩
theorem dX9_ticksTo_48 : decode cX9_ticksTo 48 = .ok (.iload_n 3, 1) ∧ 49 = 48 + 1 := ⟨by decide +kernel, rfl⟩
theorem dX9_ticksTo_49 : decode cX9_ticksTo 49 = .ok (.iconst (-1), 1) ∧ 50 = 49 + 1 := ⟨by decide +kernel, rfl⟩
theorem dX9_ticksTo_50 : decode cX9_ticksTo 50 = .ok (.if_icmp .ne 11, 3) ∧ 53 = 50 + 3 := ⟨by decide +kernel, rfl⟩
theorem dX9_ticksTo_53 : decode cX9_ticksTo 53 = .ok (.new 332, 3) ∧ 56 = 53 + 3 := ⟨by decide +kernel, rfl⟩
theorem dX9_ticksTo_56 : decode cX9_ticksTo 56 = .ok (.dup, 1) ∧ 57 = 56 + 1 := ⟨by decide +kernel, rfl⟩
theorem dX9_ticksTo_57 : decode cX9_ticksTo 57 = .ok (.invokespecial 334, 3) ∧ 60 = 57 + 3 := ⟨by decide +kernel, rfl⟩
theorem dX9_ticksTo_60 : decode cX9_ticksTo 60 = .ok (.athrow, 1) ∧ 61 = 60 + 1 := ⟨by decide +kernel, rfl⟩
theorem dX9_ticksTo_61 : decode cX9_ticksTo 61 = .ok (.iload_n 3, 1) ∧ 62 = 61 + 1 := ⟨by decide +kernel, rfl⟩
theorem dX9_ticksTo_62 : decode cX9_ticksTo 62 = .ok (.ireturn, 1) ∧ 63 = 62 + 1 := ⟨by decide +kernel, rfl⟩
theorem dX9_tripsIn_0 : decode cX9_tripsIn 0 = .ok (.iload_n 1, 1) ∧ 1 = 0 + 1 := ⟨by decide +kernel, rfl⟩
theorem dX9_tripsIn_1 : decode cX9_tripsIn 1 = .ok (.invokestatic 179, 3) ∧ 4 = 1 + 3 := ⟨by decide +kernel, rfl⟩
theorem dX9_tripsIn_4 : decode cX9_tripsIn 4 = .ok (.ifCond .ne 11, 3) ∧ 7 = 4 + 3 := ⟨by decide +kernel, rfl⟩
theorem dX9_tripsIn_7 : decode cX9_tripsIn 7 = .ok (.new 103, 3) ∧ 10 = 7 + 3 := ⟨by decide +kernel, rfl⟩
theorem dX9_tripsIn_10 : decode cX9_tripsIn 10 = .ok (.dup, 1) ∧ 11 = 10 + 1 := ⟨by decide +kernel, rfl⟩
theorem dX9_tripsIn_11 : decode cX9_tripsIn 11 = .ok (.invokespecial 105, 3) ∧ 14 = 11 + 3 := ⟨by decide +kernel, rfl⟩
theorem dX9_tripsIn_14 : decode cX9_tripsIn 14 = .ok (.athrow, 1) ∧ 15 = 14 + 1 := ⟨by decide +kernel, rfl⟩
theorem dX9_tripsIn_15 : decode cX9_tripsIn 15 = .ok (.aload_n 0, 1) ∧ 16 = 15 + 1 := ⟨by decide +kernel, rfl⟩
theorem dX9_tripsIn_16 : decode cX9_tripsIn 16 = .ok (.invokevirtual 139, 3) ∧ 19 = 16 + 3 := ⟨by decide +kernel, rfl⟩
theorem dX9_tripsIn_19 : decode cX9_tripsIn 19 = .ok (.aload_n 0, 1) ∧ 20 = 19 + 1 := ⟨by decide +kernel, rfl⟩
theorem dX9_tripsIn_20 : decode cX9_tripsIn 20 = .ok (.getfield 77, 3) ∧ 23 = 20 + 3 := ⟨by decide +kernel, rfl⟩
theorem dX9_tripsIn_23 : decode cX9_tripsIn 23 = .ok (.iload_n 1, 1) ∧ 24 = 23 + 1 := ⟨by decide +kernel, rfl⟩
theorem dX9_tripsIn_24 : decode cX9_tripsIn 24 = .ok (.invokevirtual 182, 3) ∧ 27 = 24 + 3 := ⟨by decide +kernel, rfl⟩
theorem dX9_tripsIn_27 : decode cX9_tripsIn 27 = .ok (.ireturn, 1) ∧ 28 = 27 + 1 := ⟨by decide +kernel, rfl⟩
theorem dX9_meanPressure_0 : decode cX9_meanPressure 0 = .ok (.aload_n 0, 1) ∧ 1 = 0 + 1 := ⟨by decide +kernel, rfl⟩
theorem dX9_meanPressure_1 : decode cX9_meanPressure 1 = .ok (.getfield 28, 3) ∧ 4 = 1 + 3 := ⟨by decide +kernel, rfl⟩
theorem dX9_meanPressure_4 : decode cX9_meanPressure 4 = .ok (.iload_n 1, 1) ∧ 5 = 4 + 1 := ⟨by decide +kernel, rfl⟩
theorem dX9_meanPressure_5 : decode cX9_meanPressure 5 = .ok (.invokevirtual 185, 3) ∧ 8 = 5 + 3 := ⟨by decide +kernel, rfl⟩
theorem dX9_meanPressure_8 : decode cX9_meanPressure 8 = .ok (.ifCond .ne 11, 3) ∧ 11 = 8 + 3 := ⟨by decide +kernel, rfl⟩
theorem dX9_meanPressure_11 : decode cX9_meanPressure 11 = .ok (.new 132, 3) ∧ 14 = 11 + 3 := ⟨by decide +kernel, rfl⟩
theorem dX9_meanPressure_14 : decode cX9_meanPressure 14 = .ok (.dup, 1) ∧ 15 = 14 + 1 := ⟨by decide +kernel, rfl⟩
theorem dX9_meanPressure_15 : decode cX9_meanPressure 15 = .ok (.invokespecial 134, 3) ∧ 18 = 15 + 3 := ⟨by decide +kernel, rfl⟩
theorem dX9_meanPressure_18 : decode cX9_meanPressure 18 = .ok (.athrow, 1) ∧ 19 = 18 + 1 := ⟨by decide +kernel, rfl⟩
theorem dX9_meanPressure_19 : decode cX9_meanPressure 19 = .ok (.iload_n 2, 1) ∧ 20 = 19 + 1 := ⟨by decide +kernel, rfl⟩
theorem dX9_meanPressure_20 : decode cX9_meanPressure 20 = .ok (.invokestatic 179, 3) ∧ 23 = 20 + 3 := ⟨by decide +kernel, rfl⟩
theorem dX9_meanPressure_23 : decode cX9_meanPressure 23 = .ok (.ifCond .ne 11, 3) ∧ 26 = 23 + 3 := ⟨by decide +kernel, rfl⟩
theorem dX9_meanPressure_26 : decode cX9_meanPressure 26 = .ok (.new 103, 3) ∧ 29 = 26 + 3 := ⟨by decide +kernel, rfl⟩
theorem dX9_meanPressure_29 : decode cX9_meanPressure 29 = .ok (.dup, 1) ∧ 30 = 29 + 1 := ⟨by decide +kernel, rfl⟩
theorem dX9_meanPressure_30 : decode cX9_meanPressure 30 = .ok (.invokespecial 105, 3) ∧ 33 = 30 + 3 := ⟨by decide +kernel, rfl⟩
theorem dX9_meanPressure_33 : decode cX9_meanPressure 33 = .ok (.athrow, 1) ∧ 34 = 33 + 1 := ⟨by decide +kernel, rfl⟩
theorem dX9_meanPressure_34 : decode cX9_meanPressure 34 = .ok (.aload_n 0, 1) ∧ 35 = 34 + 1 := ⟨by decide +kernel, rfl⟩
theorem dX9_meanPressure_35 : decode cX9_meanPressure 35 = .ok (.invokevirtual 139, 3) ∧ 38 = 35 + 3 := ⟨by decide +kernel, rfl⟩
theorem dX9_meanPressure_38 : decode cX9_meanPressure 38 = .ok (.lconst 0, 1) ∧ 39 = 38 + 1 := ⟨by decide +kernel, rfl⟩
theorem dX9_meanPressure_39 : decode cX9_meanPressure 39 = .ok (.lstore_n 3, 1) ∧ 40 = 39 + 1 := ⟨by decide +kernel, rfl⟩
theorem dX9_meanPressure_40 : decode cX9_meanPressure 40 = .ok (.iconst 0, 1) ∧ 41 = 40 + 1 := ⟨by decide +kernel, rfl⟩
theorem dX9_meanPressure_41 : decode cX9_meanPressure 41 = .ok (.istore 5, 2) ∧ 43 = 41 + 2 := ⟨by decide +kernel, rfl⟩
theorem dX9_meanPressure_43 : decode cX9_meanPressure 43 = .ok (.iload 5, 2) ∧ 45 = 43 + 2 := ⟨by decide +kernel, rfl⟩
theorem dX9_meanPressure_45 : decode cX9_meanPressure 45 = .ok (.iload_n 2, 1) ∧ 46 = 45 + 1 := ⟨by decide +kernel, rfl⟩
theorem dX9_meanPressure_46 : decode cX9_meanPressure 46 = .ok (.if_icmp .ge 30, 3) ∧ 49 = 46 + 3 := ⟨by decide +kernel, rfl⟩
theorem dX9_meanPressure_49 : decode cX9_meanPressure 49 = .ok (.aload_n 0, 1) ∧ 50 = 49 + 1 := ⟨by decide +kernel, rfl⟩
theorem dX9_meanPressure_50 : decode cX9_meanPressure 50 = .ok (.getfield 77, 3) ∧ 53 = 50 + 3 := ⟨by decide +kernel, rfl⟩
theorem dX9_meanPressure_53 : decode cX9_meanPressure 53 = .ok (.invokevirtual 335, 3) ∧ 56 = 53 + 3 := ⟨by decide +kernel, rfl⟩
theorem dX9_meanPressure_56 : decode cX9_meanPressure 56 = .ok (.pop, 1) ∧ 57 = 56 + 1 := ⟨by decide +kernel, rfl⟩
theorem dX9_meanPressure_57 : decode cX9_meanPressure 57 = .ok (.lload_n 3, 1) ∧ 58 = 57 + 1 := ⟨by decide +kernel, rfl⟩
theorem dX9_meanPressure_58 : decode cX9_meanPressure 58 = .ok (.aload_n 0, 1) ∧ 59 = 58 + 1 := ⟨by decide +kernel, rfl⟩
theorem dX9_meanPressure_59 : decode cX9_meanPressure 59 = .ok (.getfield 77, 3) ∧ 62 = 59 + 3 := ⟨by decide +kernel, rfl⟩
theorem dX9_meanPressure_62 : decode cX9_meanPressure 62 = .ok (.getfield 166, 3) ∧ 65 = 62 + 3 := ⟨by decide +kernel, rfl⟩
theorem dX9_meanPressure_65 : decode cX9_meanPressure 65 = .ok (.iload_n 1, 1) ∧ 66 = 65 + 1 := ⟨by decide +kernel, rfl⟩
theorem dX9_meanPressure_66 : decode cX9_meanPressure 66 = .ok (.iaload, 1) ∧ 67 = 66 + 1 := ⟨by decide +kernel, rfl⟩
theorem dX9_meanPressure_67 : decode cX9_meanPressure 67 = .ok (.i2l, 1) ∧ 68 = 67 + 1 := ⟨by decide +kernel, rfl⟩
theorem dX9_meanPressure_68 : decode cX9_meanPressure 68 = .ok (.ladd, 1) ∧ 69 = 68 + 1 := ⟨by decide +kernel, rfl⟩
theorem dX9_meanPressure_69 : decode cX9_meanPressure 69 = .ok (.lstore_n 3, 1) ∧ 70 = 69 + 1 := ⟨by decide +kernel, rfl⟩
theorem dX9_meanPressure_70 : decode cX9_meanPressure 70 = .ok (.iinc 5 1, 3) ∧ 73 = 70 + 3 := ⟨by decide +kernel, rfl⟩
theorem dX9_meanPressure_73 : decode cX9_meanPressure 73 = .ok (.goto (-30), 3) ∧ 76 = 73 + 3 := ⟨by decide +kernel, rfl⟩
theorem dX9_meanPressure_76 : decode cX9_meanPressure 76 = .ok (.lload_n 3, 1) ∧ 77 = 76 + 1 := ⟨by decide +kernel, rfl⟩
theorem dX9_meanPressure_77 : decode cX9_meanPressure 77 = .ok (.l2d, 1) ∧ 78 = 77 + 1 := ⟨by decide +kernel, rfl⟩
theorem dX9_meanPressure_78 : decode cX9_meanPressure 78 = .ok (.iload_n 2, 1) ∧ 79 = 78 + 1 := ⟨by decide +kernel, rfl⟩
theorem dX9_meanPressure_79 : decode cX9_meanPressure 79 = .ok (.i2d, 1) ∧ 80 = 79 + 1 := ⟨by decide +kernel, rfl⟩
theorem dX9_meanPressure_80 : decode cX9_meanPressure 80 = .ok (.ddiv, 1) ∧ 81 = 80 + 1 := ⟨by decide +kernel, rfl⟩
theorem dX9_meanPressure_81 : decode cX9_meanPressure 81 = .ok (.dreturn, 1) ∧ 82 = 81 + 1 := ⟨by decide +kernel, rfl⟩
theorem dX9_spray_0 : decode cX9_spray 0 = .ok (.iload_n 1, 1) ∧ 1 = 0 + 1 := ⟨by decide +kernel, rfl⟩
theorem dX9_spray_1 : decode cX9_spray 1 = .ok (.aload_n 0, 1) ∧ 2 = 1 + 1 := ⟨by decide +kernel, rfl⟩
theorem dX9_spray_2 : decode cX9_spray 2 = .ok (.getfield 28, 3) ∧ 5 = 2 + 3 := ⟨by decide +kernel, rfl⟩
theorem dX9_spray_5 : decode cX9_spray 5 = .ok (.invokevirtual 338, 3) ∧ 8 = 5 + 3 := ⟨by decide +kernel, rfl⟩
theorem dX9_spray_8 : decode cX9_spray 8 = .ok (.iconst (-1), 1) ∧ 9 = 8 + 1 := ⟨by decide +kernel, rfl⟩
theorem dX9_spray_9 : decode cX9_spray 9 = .ok (.ixor, 1) ∧ 10 = 9 + 1 := ⟨by decide +kernel, rfl⟩
theorem dX9_spray_10 : decode cX9_spray 10 = .ok (.iand, 1) ∧ 11 = 10 + 1 := ⟨by decide +kernel, rfl⟩
theorem dX9_spray_11 : decode cX9_spray 11 = .ok (.ifCond .eq 11, 3) ∧ 14 = 11 + 3 := ⟨by decide +kernel, rfl⟩
theorem dX9_spray_14 : decode cX9_spray 14 = .ok (.new 103, 3) ∧ 17 = 14 + 3 := ⟨by decide +kernel, rfl⟩
theorem dX9_spray_17 : decode cX9_spray 17 = .ok (.dup, 1) ∧ 18 = 17 + 1 := ⟨by decide +kernel, rfl⟩
theorem dX9_spray_18 : decode cX9_spray 18 = .ok (.invokespecial 105, 3) ∧ 21 = 18 + 3 := ⟨by decide +kernel, rfl⟩
theorem dX9_spray_21 : decode cX9_spray 21 = .ok (.athrow, 1) ∧ 22 = 21 + 1 := ⟨by decide +kernel, rfl⟩
theorem dX9_spray_22 : decode cX9_spray 22 = .ok (.iconst 0, 1) ∧ 23 = 22 + 1 := ⟨by decide +kernel, rfl⟩
theorem dX9_spray_23 : decode cX9_spray 23 = .ok (.istore_n 2, 1) ∧ 24 = 23 + 1 := ⟨by decide +kernel, rfl⟩
theorem dX9_spray_24 : decode cX9_spray 24 = .ok (.iconst 0, 1) ∧ 25 = 24 + 1 := ⟨by decide +kernel, rfl⟩
theorem dX9_spray_25 : decode cX9_spray 25 = .ok (.istore_n 3, 1) ∧ 26 = 25 + 1 := ⟨by decide +kernel, rfl⟩
theorem dX9_spray_26 : decode cX9_spray 26 = .ok (.iload_n 3, 1) ∧ 27 = 26 + 1 := ⟨by decide +kernel, rfl⟩
theorem dX9_spray_27 : decode cX9_spray 27 = .ok (.aload_n 0, 1) ∧ 28 = 27 + 1 := ⟨by decide +kernel, rfl⟩
theorem dX9_spray_28 : decode cX9_spray 28 = .ok (.getfield 28, 3) ∧ 31 = 28 + 3 := ⟨by decide +kernel, rfl⟩
theorem dX9_spray_31 : decode cX9_spray 31 = .ok (.getfield 226, 3) ∧ 34 = 31 + 3 := ⟨by decide +kernel, rfl⟩
theorem dX9_spray_34 : decode cX9_spray 34 = .ok (.if_icmp .ge 29, 3) ∧ 37 = 34 + 3 := ⟨by decide +kernel, rfl⟩
theorem dX9_spray_37 : decode cX9_spray 37 = .ok (.iload_n 1, 1) ∧ 38 = 37 + 1 := ⟨by decide +kernel, rfl⟩
theorem dX9_spray_38 : decode cX9_spray 38 = .ok (.iload_n 3, 1) ∧ 39 = 38 + 1 := ⟨by decide +kernel, rfl⟩
theorem dX9_spray_39 : decode cX9_spray 39 = .ok (.invokestatic 313, 3) ∧ 42 = 39 + 3 := ⟨by decide +kernel, rfl⟩
theorem dX9_spray_42 : decode cX9_spray 42 = .ok (.ifCond .eq 15, 3) ∧ 45 = 42 + 3 := ⟨by decide +kernel, rfl⟩
theorem dX9_spray_45 : decode cX9_spray 45 = .ok (.iload_n 2, 1) ∧ 46 = 45 + 1 := ⟨by decide +kernel, rfl⟩
theorem dX9_spray_46 : decode cX9_spray 46 = .ok (.aload_n 0, 1) ∧ 47 = 46 + 1 := ⟨by decide +kernel, rfl⟩
theorem dX9_spray_47 : decode cX9_spray 47 = .ok (.getfield 73, 3) ∧ 50 = 47 + 3 := ⟨by decide +kernel, rfl⟩
theorem dX9_spray_50 : decode cX9_spray 50 = .ok (.getfield 300, 3) ∧ 53 = 50 + 3 := ⟨by decide +kernel, rfl⟩
theorem dX9_spray_53 : decode cX9_spray 53 = .ok (.iload_n 3, 1) ∧ 54 = 53 + 1 := ⟨by decide +kernel, rfl⟩
theorem dX9_spray_54 : decode cX9_spray 54 = .ok (.iaload, 1) ∧ 55 = 54 + 1 := ⟨by decide +kernel, rfl⟩
theorem dX9_spray_55 : decode cX9_spray 55 = .ok (.iadd, 1) ∧ 56 = 55 + 1 := ⟨by decide +kernel, rfl⟩
theorem dX9_spray_56 : decode cX9_spray 56 = .ok (.istore_n 2, 1) ∧ 57 = 56 + 1 := ⟨by decide +kernel, rfl⟩
theorem dX9_spray_57 : decode cX9_spray 57 = .ok (.iinc 3 1, 3) ∧ 60 = 57 + 3 := ⟨by decide +kernel, rfl⟩
theorem dX9_spray_60 : decode cX9_spray 60 = .ok (.goto (-34), 3) ∧ 63 = 60 + 3 := ⟨by decide +kernel, rfl⟩
theorem dX9_spray_63 : decode cX9_spray 63 = .ok (.iload_n 2, 1) ∧ 64 = 63 + 1 := ⟨by decide +kernel, rfl⟩
theorem dX9_spray_64 : decode cX9_spray 64 = .ok (.ireturn, 1) ∧ 65 = 64 + 1 := ⟨by decide +kernel, rfl⟩
theorem dX9_sprays_0 : decode cX9_sprays 0 = .ok (.aload_n 0, 1) ∧ 1 = 0 + 1 := ⟨by decide +kernel, rfl⟩
theorem dX9_sprays_1 : decode cX9_sprays 1 = .ok (.getfield 28, 3) ∧ 4 = 1 + 3 := ⟨by decide +kernel, rfl⟩
theorem dX9_sprays_4 : decode cX9_sprays 4 = .ok (.iload_n 1, 1) ∧ 5 = 4 + 1 := ⟨by decide +kernel, rfl⟩
theorem dX9_sprays_5 : decode cX9_sprays 5 = .ok (.invokevirtual 185, 3) ∧ 8 = 5 + 3 := ⟨by decide +kernel, rfl⟩
theorem dX9_sprays_8 : decode cX9_sprays 8 = .ok (.ifCond .ne 11, 3) ∧ 11 = 8 + 3 := ⟨by decide +kernel, rfl⟩
theorem dX9_sprays_11 : decode cX9_sprays 11 = .ok (.new 132, 3) ∧ 14 = 11 + 3 := ⟨by decide +kernel, rfl⟩
theorem dX9_sprays_14 : decode cX9_sprays 14 = .ok (.dup, 1) ∧ 15 = 14 + 1 := ⟨by decide +kernel, rfl⟩
theorem dX9_sprays_15 : decode cX9_sprays 15 = .ok (.invokespecial 134, 3) ∧ 18 = 15 + 3 := ⟨by decide +kernel, rfl⟩
theorem dX9_sprays_18 : decode cX9_sprays 18 = .ok (.athrow, 1) ∧ 19 = 18 + 1 := ⟨by decide +kernel, rfl⟩
theorem dX9_sprays_19 : decode cX9_sprays 19 = .ok (.iload_n 2, 1) ∧ 20 = 19 + 1 := ⟨by decide +kernel, rfl⟩
theorem dX9_sprays_20 : decode cX9_sprays 20 = .ok (.iconst 1, 1) ∧ 21 = 20 + 1 := ⟨by decide +kernel, rfl⟩
theorem dX9_sprays_21 : decode cX9_sprays 21 = .ok (.if_icmp .lt 10, 3) ∧ 24 = 21 + 3 := ⟨by decide +kernel, rfl⟩
theorem dX9_sprays_24 : decode cX9_sprays 24 = .ok (.iload_n 2, 1) ∧ 25 = 24 + 1 := ⟨by decide +kernel, rfl⟩
theorem dX9_sprays_25 : decode cX9_sprays 25 = .ok (.sipush 9999, 3) ∧ 28 = 25 + 3 := ⟨by decide +kernel, rfl⟩
theorem dX9_sprays_28 : decode cX9_sprays 28 = .ok (.if_icmp .le 11, 3) ∧ 31 = 28 + 3 := ⟨by decide +kernel, rfl⟩
theorem dX9_sprays_31 : decode cX9_sprays 31 = .ok (.new 103, 3) ∧ 34 = 31 + 3 := ⟨by decide +kernel, rfl⟩
theorem dX9_sprays_34 : decode cX9_sprays 34 = .ok (.dup, 1) ∧ 35 = 34 + 1 := ⟨by decide +kernel, rfl⟩
theorem dX9_sprays_35 : decode cX9_sprays 35 = .ok (.invokespecial 105, 3) ∧ 38 = 35 + 3 := ⟨by decide +kernel, rfl⟩
theorem dX9_sprays_38 : decode cX9_sprays 38 = .ok (.athrow, 1) ∧ 39 = 38 + 1 := ⟨by decide +kernel, rfl⟩
theorem dX9_sprays_39 : decode cX9_sprays 39 = .ok (.aload_n 0, 1) ∧ 40 = 39 + 1 := ⟨by decide +kernel, rfl⟩
theorem dX9_sprays_40 : decode cX9_sprays 40 = .ok (.getfield 53, 3) ∧ 43 = 40 + 3 := ⟨by decide +kernel, rfl⟩
theorem dX9_sprays_43 : decode cX9_sprays 43 = .ok (.aload_n 0, 1) ∧ 44 = 43 + 1 := ⟨by decide +kernel, rfl⟩
theorem dX9_sprays_44 : decode cX9_sprays 44 = .ok (.getfield 73, 3) ∧ 47 = 44 + 3 := ⟨by decide +kernel, rfl⟩
theorem dX9_sprays_47 : decode cX9_sprays 47 = .ok (.iload_n 1, 1) ∧ 48 = 47 + 1 := ⟨by decide +kernel, rfl⟩
theorem dX9_sprays_48 : decode cX9_sprays 48 = .ok (.iload_n 2, 1) ∧ 49 = 48 + 1 := ⟨by decide +kernel, rfl⟩
theorem dX9_sprays_49 : decode cX9_sprays 49 = .ok (.invokevirtual 341, 3) ∧ 52 = 49 + 3 := ⟨by decide +kernel, rfl⟩
theorem dX9_sprays_52 : decode cX9_sprays 52 = .ok (.aload_n 0, 1) ∧ 53 = 52 + 1 := ⟨by decide +kernel, rfl⟩
theorem dX9_sprays_53 : decode cX9_sprays 53 = .ok (.getfield 53, 3) ∧ 56 = 53 + 3 := ⟨by decide +kernel, rfl⟩
theorem dX9_sprays_56 : decode cX9_sprays 56 = .ok (.getfield 344, 3) ∧ 59 = 56 + 3 := ⟨by decide +kernel, rfl⟩
theorem dX9_sprays_59 : decode cX9_sprays 59 = .ok (.ireturn, 1) ∧ 60 = 59 + 1 := ⟨by decide +kernel, rfl⟩
theorem dX9_found_0 : decode cX9_found 0 = .ok (.aload_n 0, 1) ∧ 1 = 0 + 1 := ⟨by decide +kernel, rfl⟩
theorem dX9_found_1 : decode cX9_found 1 = .ok (.getfield 28, 3) ∧ 4 = 1 + 3 := ⟨by decide +kernel, rfl⟩
theorem dX9_found_4 : decode cX9_found 4 = .ok (.iload_n 1, 1) ∧ 5 = 4 + 1 := ⟨by decide +kernel, rfl⟩
theorem dX9_found_5 : decode cX9_found 5 = .ok (.invokevirtual 185, 3) ∧ 8 = 5 + 3 := ⟨by decide +kernel, rfl⟩
theorem dX9_found_8 : decode cX9_found 8 = .ok (.ifCond .ne 11, 3) ∧ 11 = 8 + 3 := ⟨by decide +kernel, rfl⟩
theorem dX9_found_11 : decode cX9_found 11 = .ok (.new 132, 3) ∧ 14 = 11 + 3 := ⟨by decide +kernel, rfl⟩
theorem dX9_found_14 : decode cX9_found 14 = .ok (.dup, 1) ∧ 15 = 14 + 1 := ⟨by decide +kernel, rfl⟩
theorem dX9_found_15 : decode cX9_found 15 = .ok (.invokespecial 134, 3) ∧ 18 = 15 + 3 := ⟨by decide +kernel, rfl⟩
theorem dX9_found_18 : decode cX9_found 18 = .ok (.athrow, 1) ∧ 19 = 18 + 1 := ⟨by decide +kernel, rfl⟩
theorem dX9_found_19 : decode cX9_found 19 = .ok (.iload_n 2, 1) ∧ 20 = 19 + 1 := ⟨by decide +kernel, rfl⟩
theorem dX9_found_20 : decode cX9_found 20 = .ok (.iconst 1, 1) ∧ 21 = 20 + 1 := ⟨by decide +kernel, rfl⟩
theorem dX9_found_21 : decode cX9_found 21 = .ok (.if_icmp .lt 10, 3) ∧ 24 = 21 + 3 := ⟨by decide +kernel, rfl⟩
theorem dX9_found_24 : decode cX9_found 24 = .ok (.iload_n 2, 1) ∧ 25 = 24 + 1 := ⟨by decide +kernel, rfl⟩
theorem dX9_found_25 : decode cX9_found 25 = .ok (.sipush 9999, 3) ∧ 28 = 25 + 3 := ⟨by decide +kernel, rfl⟩
theorem dX9_found_28 : decode cX9_found 28 = .ok (.if_icmp .le 11, 3) ∧ 31 = 28 + 3 := ⟨by decide +kernel, rfl⟩
theorem dX9_found_31 : decode cX9_found 31 = .ok (.new 103, 3) ∧ 34 = 31 + 3 := ⟨by decide +kernel, rfl⟩
theorem dX9_found_34 : decode cX9_found 34 = .ok (.dup, 1) ∧ 35 = 34 + 1 := ⟨by decide +kernel, rfl⟩
theorem dX9_found_35 : decode cX9_found 35 = .ok (.invokespecial 105, 3) ∧ 38 = 35 + 3 := ⟨by decide +kernel, rfl⟩
theorem dX9_found_38 : decode cX9_found 38 = .ok (.athrow, 1) ∧ 39 = 38 + 1 := ⟨by decide +kernel, rfl⟩
theorem dX9_found_39 : decode cX9_found 39 = .ok (.aload_n 0, 1) ∧ 40 = 39 + 1 := ⟨by decide +kernel, rfl⟩
theorem dX9_found_40 : decode cX9_found 40 = .ok (.getfield 53, 3) ∧ 43 = 40 + 3 := ⟨by decide +kernel, rfl⟩
theorem dX9_found_43 : decode cX9_found 43 = .ok (.aload_n 0, 1) ∧ 44 = 43 + 1 := ⟨by decide +kernel, rfl⟩
theorem dX9_found_44 : decode cX9_found 44 = .ok (.getfield 73, 3) ∧ 47 = 44 + 3 := ⟨by decide +kernel, rfl⟩
theorem dX9_found_47 : decode cX9_found 47 = .ok (.iload_n 1, 1) ∧ 48 = 47 + 1 := ⟨by decide +kernel, rfl⟩
theorem dX9_found_48 : decode cX9_found 48 = .ok (.iload_n 2, 1) ∧ 49 = 48 + 1 := ⟨by decide +kernel, rfl⟩
theorem dX9_found_49 : decode cX9_found 49 = .ok (.invokevirtual 341, 3) ∧ 52 = 49 + 3 := ⟨by decide +kernel, rfl⟩
theorem dX9_found_52 : decode cX9_found 52 = .ok (.aload_n 0, 1) ∧ 53 = 52 + 1 := ⟨by decide +kernel, rfl⟩
theorem dX9_found_53 : decode cX9_found 53 = .ok (.getfield 53, 3) ∧ 56 = 53 + 3 := ⟨by decide +kernel, rfl⟩
theorem dX9_found_56 : decode cX9_found 56 = .ok (.getfield 347, 3) ∧ 59 = 56 + 3 := ⟨by decide +kernel, rfl⟩
theorem dX9_found_59 : decode cX9_found 59 = .ok (.ireturn, 1) ∧ 60 = 59 + 1 := ⟨by decide +kernel, rfl⟩
theorem dX9_writeReport_0 : decode cX9_writeReport 0 = .ok (.aload_n 0, 1) ∧ 1 = 0 + 1 := ⟨by decide +kernel, rfl⟩
theorem dX9_writeReport_1 : decode cX9_writeReport 1 = .ok (.getfield 60, 3) ∧ 4 = 1 + 3 := ⟨by decide +kernel, rfl⟩
theorem dX9_writeReport_4 : decode cX9_writeReport 4 = .ok (.iconst 0, 1) ∧ 5 = 4 + 1 := ⟨by decide +kernel, rfl⟩
theorem dX9_writeReport_5 : decode cX9_writeReport 5 = .ok (.putfield 350, 3) ∧ 8 = 5 + 3 := ⟨by decide +kernel, rfl⟩
theorem dX9_writeReport_8 : decode cX9_writeReport 8 = .ok (.iconst 0, 1) ∧ 9 = 8 + 1 := ⟨by decide +kernel, rfl⟩
theorem dX9_writeReport_9 : decode cX9_writeReport 9 = .ok (.istore_n 1, 1) ∧ 10 = 9 + 1 := ⟨by decide +kernel, rfl⟩
theorem dX9_writeReport_10 : decode cX9_writeReport 10 = .ok (.iload_n 1, 1) ∧ 11 = 10 + 1 := ⟨by decide +kernel, rfl⟩
theorem dX9_writeReport_11 : decode cX9_writeReport 11 = .ok (.aload_n 0, 1) ∧ 12 = 11 + 1 := ⟨by decide +kernel, rfl⟩
theorem dX9_writeReport_12 : decode cX9_writeReport 12 = .ok (.getfield 28, 3) ∧ 15 = 12 + 3 := ⟨by decide +kernel, rfl⟩
theorem dX9_writeReport_15 : decode cX9_writeReport 15 = .ok (.getfield 125, 3) ∧ 18 = 15 + 3 := ⟨by decide +kernel, rfl⟩
theorem dX9_writeReport_18 : decode cX9_writeReport 18 = .ok (.if_icmp .ge 119, 3) ∧ 21 = 18 + 3 := ⟨by decide +kernel, rfl⟩
theorem dX9_writeReport_21 : decode cX9_writeReport 21 = .ok (.aload_n 0, 1) ∧ 22 = 21 + 1 := ⟨by decide +kernel, rfl⟩
theorem dX9_writeReport_22 : decode cX9_writeReport 22 = .ok (.getfield 60, 3) ∧ 25 = 22 + 3 := ⟨by decide +kernel, rfl⟩
theorem dX9_writeReport_25 : decode cX9_writeReport 25 = .ok (.ldc_w 351, 3) ∧ 28 = 25 + 3 := ⟨by decide +kernel, rfl⟩
theorem dX9_writeReport_28 : decode cX9_writeReport 28 = .ok (.invokevirtual 353, 3) ∧ 31 = 28 + 3 := ⟨by decide +kernel, rfl⟩
theorem dX9_writeReport_31 : decode cX9_writeReport 31 = .ok (.aload_n 0, 1) ∧ 32 = 31 + 1 := ⟨by decide +kernel, rfl⟩
theorem dX9_writeReport_32 : decode cX9_writeReport 32 = .ok (.getfield 60, 3) ∧ 35 = 32 + 3 := ⟨by decide +kernel, rfl⟩
theorem dX9_writeReport_35 : decode cX9_writeReport 35 = .ok (.iload_n 1, 1) ∧ 36 = 35 + 1 := ⟨by decide +kernel, rfl⟩
theorem dX9_writeReport_36 : decode cX9_writeReport 36 = .ok (.invokevirtual 357, 3) ∧ 39 = 36 + 3 := ⟨by decide +kernel, rfl⟩
theorem dX9_writeReport_39 : decode cX9_writeReport 39 = .ok (.aload_n 0, 1) ∧ 40 = 39 + 1 := ⟨by decide +kernel, rfl⟩
theorem dX9_writeReport_40 : decode cX9_writeReport 40 = .ok (.getfield 60, 3) ∧ 43 = 40 + 3 := ⟨by decide +kernel, rfl⟩
theorem dX9_writeReport_43 : decode cX9_writeReport 43 = .ok (.ldc_w 360, 3) ∧ 46 = 43 + 3 := ⟨by decide +kernel, rfl⟩
theorem dX9_writeReport_46 : decode cX9_writeReport 46 = .ok (.invokevirtual 353, 3) ∧ 49 = 46 + 3 := ⟨by decide +kernel, rfl⟩
theorem dX9_writeReport_49 : decode cX9_writeReport 49 = .ok (.aload_n 0, 1) ∧ 50 = 49 + 1 := ⟨by decide +kernel, rfl⟩
theorem dX9_writeReport_50 : decode cX9_writeReport 50 = .ok (.getfield 60, 3) ∧ 53 = 50 + 3 := ⟨by decide +kernel, rfl⟩
theorem dX9_writeReport_53 : decode cX9_writeReport 53 = .ok (.aload_n 0, 1) ∧ 54 = 53 + 1 := ⟨by decide +kernel, rfl⟩
theorem dX9_writeReport_54 : decode cX9_writeReport 54 = .ok (.getfield 73, 3) ∧ 57 = 54 + 3 := ⟨by decide +kernel, rfl⟩
theorem dX9_writeReport_57 : decode cX9_writeReport 57 = .ok (.getfield 166, 3) ∧ 60 = 57 + 3 := ⟨by decide +kernel, rfl⟩
theorem dX9_writeReport_60 : decode cX9_writeReport 60 = .ok (.iload_n 1, 1) ∧ 61 = 60 + 1 := ⟨by decide +kernel, rfl⟩
theorem dX9_writeReport_61 : decode cX9_writeReport 61 = .ok (.iaload, 1) ∧ 62 = 61 + 1 := ⟨by decide +kernel, rfl⟩
theorem dX9_writeReport_62 : decode cX9_writeReport 62 = .ok (.invokevirtual 357, 3) ∧ 65 = 62 + 3 := ⟨by decide +kernel, rfl⟩
theorem dX9_writeReport_65 : decode cX9_writeReport 65 = .ok (.aload_n 0, 1) ∧ 66 = 65 + 1 := ⟨by decide +kernel, rfl⟩
theorem dX9_writeReport_66 : decode cX9_writeReport 66 = .ok (.getfield 60, 3) ∧ 69 = 66 + 3 := ⟨by decide +kernel, rfl⟩
theorem dX9_writeReport_69 : decode cX9_writeReport 69 = .ok (.ldc_w 362, 3) ∧ 72 = 69 + 3 := ⟨by decide +kernel, rfl⟩
theorem dX9_writeReport_72 : decode cX9_writeReport 72 = .ok (.aload_n 0, 1) ∧ 73 = 72 + 1 := ⟨by decide +kernel, rfl⟩
theorem dX9_writeReport_73 : decode cX9_writeReport 73 = .ok (.getfield 28, 3) ∧ 76 = 73 + 3 := ⟨by decide +kernel, rfl⟩
theorem dX9_writeReport_76 : decode cX9_writeReport 76 = .ok (.iload_n 1, 1) ∧ 77 = 76 + 1 := ⟨by decide +kernel, rfl⟩
theorem dX9_writeReport_77 : decode cX9_writeReport 77 = .ok (.invokevirtual 260, 3) ∧ 80 = 77 + 3 := ⟨by decide +kernel, rfl⟩
theorem dX9_writeReport_80 : decode cX9_writeReport 80 = .ok (.aload_n 0, 1) ∧ 81 = 80 + 1 := ⟨by decide +kernel, rfl⟩
theorem dX9_writeReport_81 : decode cX9_writeReport 81 = .ok (.getfield 73, 3) ∧ 84 = 81 + 3 := ⟨by decide +kernel, rfl⟩
theorem dX9_writeReport_84 : decode cX9_writeReport 84 = .ok (.getfield 364, 3) ∧ 87 = 84 + 3 := ⟨by decide +kernel, rfl⟩
theorem dX9_writeReport_87 : decode cX9_writeReport 87 = .ok (.iand, 1) ∧ 88 = 87 + 1 := ⟨by decide +kernel, rfl⟩
theorem dX9_writeReport_88 : decode cX9_writeReport 88 = .ok (.bipush 10, 2) ∧ 90 = 88 + 2 := ⟨by decide +kernel, rfl⟩
theorem dX9_writeReport_90 : decode cX9_writeReport 90 = .ok (.invokevirtual 367, 3) ∧ 93 = 90 + 3 := ⟨by decide +kernel, rfl⟩
theorem dX9_writeReport_93 : decode cX9_writeReport 93 = .ok (.aload_n 0, 1) ∧ 94 = 93 + 1 := ⟨by decide +kernel, rfl⟩
theorem dX9_writeReport_94 : decode cX9_writeReport 94 = .ok (.getfield 60, 3) ∧ 97 = 94 + 3 := ⟨by decide +kernel, rfl⟩
theorem dX9_writeReport_97 : decode cX9_writeReport 97 = .ok (.ldc_w 371, 3) ∧ 100 = 97 + 3 := ⟨by decide +kernel, rfl⟩
theorem dX9_writeReport_100 : decode cX9_writeReport 100 = .ok (.aload_n 0, 1) ∧ 101 = 100 + 1 := ⟨by decide +kernel, rfl⟩
theorem dX9_writeReport_101 : decode cX9_writeReport 101 = .ok (.getfield 28, 3) ∧ 104 = 101 + 3 := ⟨by decide +kernel, rfl⟩
theorem dX9_writeReport_104 : decode cX9_writeReport 104 = .ok (.iload_n 1, 1) ∧ 105 = 104 + 1 := ⟨by decide +kernel, rfl⟩
theorem dX9_writeReport_105 : decode cX9_writeReport 105 = .ok (.invokevirtual 263, 3) ∧ 108 = 105 + 3 := ⟨by decide +kernel, rfl⟩
theorem dX9_writeReport_108 : decode cX9_writeReport 108 = .ok (.aload_n 0, 1) ∧ 109 = 108 + 1 := ⟨by decide +kernel, rfl⟩
theorem dX9_writeReport_109 : decode cX9_writeReport 109 = .ok (.getfield 73, 3) ∧ 112 = 109 + 3 := ⟨by decide +kernel, rfl⟩
theorem dX9_writeReport_112 : decode cX9_writeReport 112 = .ok (.getfield 373, 3) ∧ 115 = 112 + 3 := ⟨by decide +kernel, rfl⟩
theorem dX9_writeReport_115 : decode cX9_writeReport 115 = .ok (.iand, 1) ∧ 116 = 115 + 1 := ⟨by decide +kernel, rfl⟩
theorem dX9_writeReport_116 : decode cX9_writeReport 116 = .ok (.bipush 6, 2) ∧ 118 = 116 + 2 := ⟨by decide +kernel, rfl⟩
theorem dX9_writeReport_118 : decode cX9_writeReport 118 = .ok (.invokevirtual 367, 3) ∧ 121 = 118 + 3 := ⟨by decide +kernel, rfl⟩
theorem dX9_writeReport_121 : decode cX9_writeReport 121 = .ok (.aload_n 0, 1) ∧ 122 = 121 + 1 := ⟨by decide +kernel, rfl⟩
theorem dX9_writeReport_122 : decode cX9_writeReport 122 = .ok (.getfield 60, 3) ∧ 125 = 122 + 3 := ⟨by decide +kernel, rfl⟩
theorem dX9_writeReport_125 : decode cX9_writeReport 125 = .ok (.ldc_w 376, 3) ∧ 128 = 125 + 3 := ⟨by decide +kernel, rfl⟩
theorem dX9_writeReport_128 : decode cX9_writeReport 128 = .ok (.invokevirtual 353, 3) ∧ 131 = 128 + 3 := ⟨by decide +kernel, rfl⟩
theorem dX9_writeReport_131 : decode cX9_writeReport 131 = .ok (.iinc 1 1, 3) ∧ 134 = 131 + 3 := ⟨by decide +kernel, rfl⟩
theorem dX9_writeReport_134 : decode cX9_writeReport 134 = .ok (.goto (-124), 3) ∧ 137 = 134 + 3 := ⟨by decide +kernel, rfl⟩
theorem dX9_writeReport_137 : decode cX9_writeReport 137 = .ok (.aload_n 0, 1) ∧ 138 = 137 + 1 := ⟨by decide +kernel, rfl⟩
theorem dX9_writeReport_138 : decode cX9_writeReport 138 = .ok (.getfield 60, 3) ∧ 141 = 138 + 3 := ⟨by decide +kernel, rfl⟩
theorem dX9_writeReport_141 : decode cX9_writeReport 141 = .ok (.getfield 350, 3) ∧ 144 = 141 + 3 := ⟨by decide +kernel, rfl⟩
theorem dX9_writeReport_144 : decode cX9_writeReport 144 = .ok (.ireturn, 1) ∧ 145 = 144 + 1 := ⟨by decide +kernel, rfl⟩
theorem dX9_undo_0 : decode cX9_undo 0 = .ok (.aload_n 0, 1) ∧ 1 = 0 + 1 := ⟨by decide +kernel, rfl⟩
theorem dX9_undo_1 : decode cX9_undo 1 = .ok (.getfield 84, 3) ∧ 4 = 1 + 3 := ⟨by decide +kernel, rfl⟩
theorem dX9_undo_4 : decode cX9_undo 4 = .ok (.ifCond .ne 11, 3) ∧ 7 = 4 + 3 := ⟨by decide +kernel, rfl⟩
theorem dX9_undo_7 : decode cX9_undo 7 = .ok (.new 96, 3) ∧ 10 = 7 + 3 := ⟨by decide +kernel, rfl⟩
theorem dX9_undo_10 : decode cX9_undo 10 = .ok (.dup, 1) ∧ 11 = 10 + 1 := ⟨by decide +kernel, rfl⟩
theorem dX9_undo_11 : decode cX9_undo 11 = .ok (.invokespecial 98, 3) ∧ 14 = 11 + 3 := ⟨by decide +kernel, rfl⟩
theorem dX9_undo_14 : decode cX9_undo 14 = .ok (.athrow, 1) ∧ 15 = 14 + 1 := ⟨by decide +kernel, rfl⟩
theorem dX9_undo_15 : decode cX9_undo 15 = .ok (.aload_n 0, 1) ∧ 16 = 15 + 1 := ⟨by decide +kernel, rfl⟩
theorem dX9_undo_16 : decode cX9_undo 16 = .ok (.aload_n 0, 1) ∧ 17 = 16 + 1 := ⟨by decide +kernel, rfl⟩
theorem dX9_undo_17 : decode cX9_undo 17 = .ok (.getfield 80, 3) ∧ 20 = 17 + 3 := ⟨by decide +kernel, rfl⟩
theorem dX9_undo_20 : decode cX9_undo 20 = .ok (.bipush 10, 2) ∧ 22 = 20 + 2 := ⟨by decide +kernel, rfl⟩
theorem dX9_undo_22 : decode cX9_undo 22 = .ok (.iadd, 1) ∧ 23 = 22 + 1 := ⟨by decide +kernel, rfl⟩
theorem dX9_undo_23 : decode cX9_undo 23 = .ok (.iconst 1, 1) ∧ 24 = 23 + 1 := ⟨by decide +kernel, rfl⟩
theorem dX9_undo_24 : decode cX9_undo 24 = .ok (.isub, 1) ∧ 25 = 24 + 1 := ⟨by decide +kernel, rfl⟩
theorem dX9_undo_25 : decode cX9_undo 25 = .ok (.bipush 10, 2) ∧ 27 = 25 + 2 := ⟨by decide +kernel, rfl⟩
theorem dX9_undo_27 : decode cX9_undo 27 = .ok (.irem, 1) ∧ 28 = 27 + 1 := ⟨by decide +kernel, rfl⟩
theorem dX9_undo_28 : decode cX9_undo 28 = .ok (.putfield 80, 3) ∧ 31 = 28 + 3 := ⟨by decide +kernel, rfl⟩
theorem dX9_undo_31 : decode cX9_undo 31 = .ok (.aload_n 0, 1) ∧ 32 = 31 + 1 := ⟨by decide +kernel, rfl⟩
theorem dX9_undo_32 : decode cX9_undo 32 = .ok (.getfield 73, 3) ∧ 35 = 32 + 3 := ⟨by decide +kernel, rfl⟩
theorem dX9_undo_35 : decode cX9_undo 35 = .ok (.astore_n 1, 1) ∧ 36 = 35 + 1 := ⟨by decide +kernel, rfl⟩
theorem dX9_undo_36 : decode cX9_undo 36 = .ok (.aload_n 0, 1) ∧ 37 = 36 + 1 := ⟨by decide +kernel, rfl⟩
theorem dX9_undo_37 : decode cX9_undo 37 = .ok (.aload_n 0, 1) ∧ 38 = 37 + 1 := ⟨by decide +kernel, rfl⟩
theorem dX9_undo_38 : decode cX9_undo 38 = .ok (.getfield 66, 3) ∧ 41 = 38 + 3 := ⟨by decide +kernel, rfl⟩
theorem dX9_undo_41 : decode cX9_undo 41 = .ok (.aload_n 0, 1) ∧ 42 = 41 + 1 := ⟨by decide +kernel, rfl⟩
theorem dX9_undo_42 : decode cX9_undo 42 = .ok (.getfield 80, 3) ∧ 45 = 42 + 3 := ⟨by decide +kernel, rfl⟩
theorem dX9_undo_45 : decode cX9_undo 45 = .ok (.aaload, 1) ∧ 46 = 45 + 1 := ⟨by decide +kernel, rfl⟩
theorem dX9_undo_46 : decode cX9_undo 46 = .ok (.putfield 73, 3) ∧ 49 = 46 + 3 := ⟨by decide +kernel, rfl⟩
theorem dX9_undo_49 : decode cX9_undo 49 = .ok (.aload_n 0, 1) ∧ 50 = 49 + 1 := ⟨by decide +kernel, rfl⟩
theorem dX9_undo_50 : decode cX9_undo 50 = .ok (.getfield 66, 3) ∧ 53 = 50 + 3 := ⟨by decide +kernel, rfl⟩
theorem dX9_undo_53 : decode cX9_undo 53 = .ok (.aload_n 0, 1) ∧ 54 = 53 + 1 := ⟨by decide +kernel, rfl⟩
theorem dX9_undo_54 : decode cX9_undo 54 = .ok (.getfield 80, 3) ∧ 57 = 54 + 3 := ⟨by decide +kernel, rfl⟩
theorem dX9_undo_57 : decode cX9_undo 57 = .ok (.aload_n 1, 1) ∧ 58 = 57 + 1 := ⟨by decide +kernel, rfl⟩
theorem dX9_undo_58 : decode cX9_undo 58 = .ok (.aastore, 1) ∧ 59 = 58 + 1 := ⟨by decide +kernel, rfl⟩
theorem dX9_undo_59 : decode cX9_undo 59 = .ok (.aload_n 0, 1) ∧ 60 = 59 + 1 := ⟨by decide +kernel, rfl⟩
theorem dX9_undo_60 : decode cX9_undo 60 = .ok (.dup, 1) ∧ 61 = 60 + 1 := ⟨by decide +kernel, rfl⟩
theorem dX9_undo_61 : decode cX9_undo 61 = .ok (.getfield 84, 3) ∧ 64 = 61 + 3 := ⟨by decide +kernel, rfl⟩
theorem dX9_undo_64 : decode cX9_undo 64 = .ok (.iconst 1, 1) ∧ 65 = 64 + 1 := ⟨by decide +kernel, rfl⟩
theorem dX9_undo_65 : decode cX9_undo 65 = .ok (.isub, 1) ∧ 66 = 65 + 1 := ⟨by decide +kernel, rfl⟩
theorem dX9_undo_66 : decode cX9_undo 66 = .ok (.putfield 84, 3) ∧ 69 = 66 + 3 := ⟨by decide +kernel, rfl⟩
theorem dX9_undo_69 : decode cX9_undo 69 = .ok (.aload_n 0, 1) ∧ 70 = 69 + 1 := ⟨by decide +kernel, rfl⟩
theorem dX9_undo_70 : decode cX9_undo 70 = .ok (.getfield 84, 3) ∧ 73 = 70 + 3 := ⟨by decide +kernel, rfl⟩
theorem dX9_undo_73 : decode cX9_undo 73 = .ok (.ireturn, 1) ∧ 74 = 73 + 1 := ⟨by decide +kernel, rfl⟩
theorem dX9_undoDepth_0 : decode cX9_undoDepth 0 = .ok (.aload_n 0, 1) ∧ 1 = 0 + 1 := ⟨by decide +kernel, rfl⟩
theorem dX9_undoDepth_1 : decode cX9_undoDepth 1 = .ok (.getfield 84, 3) ∧ 4 = 1 + 3 := ⟨by decide +kernel, rfl⟩
theorem dX9_undoDepth_4 : decode cX9_undoDepth 4 = .ok (.ireturn, 1) ∧ 5 = 4 + 1 := ⟨by decide +kernel, rfl⟩
theorem dX9_beginTrial_0 : decode cX9_beginTrial 0 = .ok (.aload_n 0, 1) ∧ 1 = 0 + 1 := ⟨by decide +kernel, rfl⟩
theorem dX9_beginTrial_1 : decode cX9_beginTrial 1 = .ok (.getfield 77, 3) ∧ 4 = 1 + 3 := ⟨by decide +kernel, rfl⟩
theorem dX9_beginTrial_4 : decode cX9_beginTrial 4 = .ok (.aload_n 0, 1) ∧ 5 = 4 + 1 := ⟨by decide +kernel, rfl⟩
theorem dX9_beginTrial_5 : decode cX9_beginTrial 5 = .ok (.getfield 73, 3) ∧ 8 = 5 + 3 := ⟨by decide +kernel, rfl⟩
theorem dX9_beginTrial_8 : decode cX9_beginTrial 8 = .ok (.invokevirtual 382, 3) ∧ 11 = 8 + 3 := ⟨by decide +kernel, rfl⟩
theorem dX9_beginTrial_11 : decode cX9_beginTrial 11 = .ok (.return_, 1) ∧ 12 = 11 + 1 := ⟨by decide +kernel, rfl⟩
theorem dX9_keepTrial_0 : decode cX9_keepTrial 0 = .ok (.aload_n 0, 1) ∧ 1 = 0 + 1 := ⟨by decide +kernel, rfl⟩
theorem dX9_keepTrial_1 : decode cX9_keepTrial 1 = .ok (.getfield 66, 3) ∧ 4 = 1 + 3 := ⟨by decide +kernel, rfl⟩
theorem dX9_keepTrial_4 : decode cX9_keepTrial 4 = .ok (.aload_n 0, 1) ∧ 5 = 4 + 1 := ⟨by decide +kernel, rfl⟩
theorem dX9_keepTrial_5 : decode cX9_keepTrial 5 = .ok (.getfield 80, 3) ∧ 8 = 5 + 3 := ⟨by decide +kernel, rfl⟩
theorem dX9_keepTrial_8 : decode cX9_keepTrial 8 = .ok (.aaload, 1) ∧ 9 = 8 + 1 := ⟨by decide +kernel, rfl⟩
theorem dX9_keepTrial_9 : decode cX9_keepTrial 9 = .ok (.astore_n 1, 1) ∧ 10 = 9 + 1 := ⟨by decide +kernel, rfl⟩
theorem dX9_keepTrial_10 : decode cX9_keepTrial 10 = .ok (.aload_n 0, 1) ∧ 11 = 10 + 1 := ⟨by decide +kernel, rfl⟩
theorem dX9_keepTrial_11 : decode cX9_keepTrial 11 = .ok (.getfield 66, 3) ∧ 14 = 11 + 3 := ⟨by decide +kernel, rfl⟩
theorem dX9_keepTrial_14 : decode cX9_keepTrial 14 = .ok (.aload_n 0, 1) ∧ 15 = 14 + 1 := ⟨by decide +kernel, rfl⟩
theorem dX9_keepTrial_15 : decode cX9_keepTrial 15 = .ok (.getfield 80, 3) ∧ 18 = 15 + 3 := ⟨by decide +kernel, rfl⟩
theorem dX9_keepTrial_18 : decode cX9_keepTrial 18 = .ok (.aload_n 0, 1) ∧ 19 = 18 + 1 := ⟨by decide +kernel, rfl⟩
theorem dX9_keepTrial_19 : decode cX9_keepTrial 19 = .ok (.getfield 73, 3) ∧ 22 = 19 + 3 := ⟨by decide +kernel, rfl⟩
theorem dX9_keepTrial_22 : decode cX9_keepTrial 22 = .ok (.aastore, 1) ∧ 23 = 22 + 1 := ⟨by decide +kernel, rfl⟩
theorem dX9_keepTrial_23 : decode cX9_keepTrial 23 = .ok (.aload_n 0, 1) ∧ 24 = 23 + 1 := ⟨by decide +kernel, rfl⟩
theorem dX9_keepTrial_24 : decode cX9_keepTrial 24 = .ok (.aload_n 0, 1) ∧ 25 = 24 + 1 := ⟨by decide +kernel, rfl⟩
theorem dX9_keepTrial_25 : decode cX9_keepTrial 25 = .ok (.getfield 77, 3) ∧ 28 = 25 + 3 := ⟨by decide +kernel, rfl⟩
theorem dX9_keepTrial_28 : decode cX9_keepTrial 28 = .ok (.putfield 73, 3) ∧ 31 = 28 + 3 := ⟨by decide +kernel, rfl⟩
theorem dX9_keepTrial_31 : decode cX9_keepTrial 31 = .ok (.aload_n 0, 1) ∧ 32 = 31 + 1 := ⟨by decide +kernel, rfl⟩
theorem dX9_keepTrial_32 : decode cX9_keepTrial 32 = .ok (.aload_n 1, 1) ∧ 33 = 32 + 1 := ⟨by decide +kernel, rfl⟩
theorem dX9_keepTrial_33 : decode cX9_keepTrial 33 = .ok (.putfield 77, 3) ∧ 36 = 33 + 3 := ⟨by decide +kernel, rfl⟩
theorem dX9_keepTrial_36 : decode cX9_keepTrial 36 = .ok (.aload_n 0, 1) ∧ 37 = 36 + 1 := ⟨by decide +kernel, rfl⟩
theorem dX9_keepTrial_37 : decode cX9_keepTrial 37 = .ok (.aload_n 0, 1) ∧ 38 = 37 + 1 := ⟨by decide +kernel, rfl⟩
theorem dX9_keepTrial_38 : decode cX9_keepTrial 38 = .ok (.getfield 80, 3) ∧ 41 = 38 + 3 := ⟨by decide +kernel, rfl⟩
theorem dX9_keepTrial_41 : decode cX9_keepTrial 41 = .ok (.iconst 1, 1) ∧ 42 = 41 + 1 := ⟨by decide +kernel, rfl⟩
theorem dX9_keepTrial_42 : decode cX9_keepTrial 42 = .ok (.iadd, 1) ∧ 43 = 42 + 1 := ⟨by decide +kernel, rfl⟩
theorem dX9_keepTrial_43 : decode cX9_keepTrial 43 = .ok (.bipush 10, 2) ∧ 45 = 43 + 2 := ⟨by decide +kernel, rfl⟩
theorem dX9_keepTrial_45 : decode cX9_keepTrial 45 = .ok (.irem, 1) ∧ 46 = 45 + 1 := ⟨by decide +kernel, rfl⟩
theorem dX9_keepTrial_46 : decode cX9_keepTrial 46 = .ok (.putfield 80, 3) ∧ 49 = 46 + 3 := ⟨by decide +kernel, rfl⟩
theorem dX9_keepTrial_49 : decode cX9_keepTrial 49 = .ok (.aload_n 0, 1) ∧ 50 = 49 + 1 := ⟨by decide +kernel, rfl⟩
theorem dX9_keepTrial_50 : decode cX9_keepTrial 50 = .ok (.aload_n 0, 1) ∧ 51 = 50 + 1 := ⟨by decide +kernel, rfl⟩
theorem dX9_keepTrial_51 : decode cX9_keepTrial 51 = .ok (.getfield 84, 3) ∧ 54 = 51 + 3 := ⟨by decide +kernel, rfl⟩
theorem dX9_keepTrial_54 : decode cX9_keepTrial 54 = .ok (.iconst 1, 1) ∧ 55 = 54 + 1 := ⟨by decide +kernel, rfl⟩
theorem dX9_keepTrial_55 : decode cX9_keepTrial 55 = .ok (.iadd, 1) ∧ 56 = 55 + 1 := ⟨by decide +kernel, rfl⟩
theorem dX9_keepTrial_56 : decode cX9_keepTrial 56 = .ok (.bipush 10, 2) ∧ 58 = 56 + 2 := ⟨by decide +kernel, rfl⟩
theorem dX9_keepTrial_58 : decode cX9_keepTrial 58 = .ok (.invokestatic 317, 3) ∧ 61 = 58 + 3 := ⟨by decide +kernel, rfl⟩
theorem dX9_keepTrial_61 : decode cX9_keepTrial 61 = .ok (.putfield 84, 3) ∧ 64 = 61 + 3 := ⟨by decide +kernel, rfl⟩
theorem dX9_keepTrial_64 : decode cX9_keepTrial 64 = .ok (.return_, 1) ∧ 65 = 64 + 1 := ⟨by decide +kernel, rfl⟩
theorem dX9_changeLeak_0 : decode cX9_changeLeak 0 = .ok (.aload_n 0, 1) ∧ 1 = 0 + 1 := ⟨by decide +kernel, rfl⟩
theorem dX9_changeLeak_1 : decode cX9_changeLeak 1 = .ok (.getfield 73, 3) ∧ 4 = 1 + 3 := ⟨by decide +kernel, rfl⟩
theorem dX9_changeLeak_4 : decode cX9_changeLeak 4 = .ok (.getfield 300, 3) ∧ 7 = 4 + 3 := ⟨by decide +kernel, rfl⟩
theorem dX9_changeLeak_7 : decode cX9_changeLeak 7 = .ok (.iload_n 1, 1) ∧ 8 = 7 + 1 := ⟨by decide +kernel, rfl⟩
theorem dX9_changeLeak_8 : decode cX9_changeLeak 8 = .ok (.iaload, 1) ∧ 9 = 8 + 1 := ⟨by decide +kernel, rfl⟩
theorem dX9_changeLeak_9 : decode cX9_changeLeak 9 = .ok (.istore_n 3, 1) ∧ 10 = 9 + 1 := ⟨by decide +kernel, rfl⟩
theorem dX9_changeLeak_10 : decode cX9_changeLeak 10 = .ok (.aload_n 0, 1) ∧ 11 = 10 + 1 := ⟨by decide +kernel, rfl⟩
theorem dX9_changeLeak_11 : decode cX9_changeLeak 11 = .ok (.invokevirtual 139, 3) ∧ 14 = 11 + 3 := ⟨by decide +kernel, rfl⟩
theorem dX9_changeLeak_14 : decode cX9_changeLeak 14 = .ok (.aload_n 0, 1) ∧ 15 = 14 + 1 := ⟨by decide +kernel, rfl⟩
theorem dX9_changeLeak_15 : decode cX9_changeLeak 15 = .ok (.getfield 77, 3) ∧ 18 = 15 + 3 := ⟨by decide +kernel, rfl⟩
theorem dX9_changeLeak_18 : decode cX9_changeLeak 18 = .ok (.iload_n 1, 1) ∧ 19 = 18 + 1 := ⟨by decide +kernel, rfl⟩
theorem dX9_changeLeak_19 : decode cX9_changeLeak 19 = .ok (.iload_n 2, 1) ∧ 20 = 19 + 1 := ⟨by decide +kernel, rfl⟩
theorem dX9_changeLeak_20 : decode cX9_changeLeak 20 = .ok (.invokevirtual 385, 3) ∧ 23 = 20 + 3 := ⟨by decide +kernel, rfl⟩
theorem dX9_changeLeak_23 : decode cX9_changeLeak 23 = .ok (.aload_n 0, 1) ∧ 24 = 23 + 1 := ⟨by decide +kernel, rfl⟩
theorem dX9_changeLeak_24 : decode cX9_changeLeak 24 = .ok (.invokevirtual 145, 3) ∧ 27 = 24 + 3 := ⟨by decide +kernel, rfl⟩
theorem dX9_changeLeak_27 : decode cX9_changeLeak 27 = .ok (.iload_n 3, 1) ∧ 28 = 27 + 1 := ⟨by decide +kernel, rfl⟩
theorem dX9_changeLeak_28 : decode cX9_changeLeak 28 = .ok (.ireturn, 1) ∧ 29 = 28 + 1 := ⟨by decide +kernel, rfl⟩
theorem dX9_isTicks_0 : decode cX9_isTicks 0 = .ok (.iload_n 0, 1) ∧ 1 = 0 + 1 := ⟨by decide +kernel, rfl⟩
theorem dX9_isTicks_1 : decode cX9_isTicks 1 = .ok (.iconst 1, 1) ∧ 2 = 1 + 1 := ⟨by decide +kernel, rfl⟩
theorem dX9_isTicks_2 : decode cX9_isTicks 2 = .ok (.if_icmp .lt 14, 3) ∧ 5 = 2 + 3 := ⟨by decide +kernel, rfl⟩
theorem dX9_isTicks_5 : decode cX9_isTicks 5 = .ok (.iload_n 0, 1) ∧ 6 = 5 + 1 := ⟨by decide +kernel, rfl⟩
theorem dX9_isTicks_6 : decode cX9_isTicks 6 = .ok (.sipush 999, 3) ∧ 9 = 6 + 3 := ⟨by decide +kernel, rfl⟩
theorem dX9_isTicks_9 : decode cX9_isTicks 9 = .ok (.if_icmp .gt 7, 3) ∧ 12 = 9 + 3 := ⟨by decide +kernel, rfl⟩
theorem dX9_isTicks_12 : decode cX9_isTicks 12 = .ok (.iconst 1, 1) ∧ 13 = 12 + 1 := ⟨by decide +kernel, rfl⟩
theorem dX9_isTicks_13 : decode cX9_isTicks 13 = .ok (.goto 4, 3) ∧ 16 = 13 + 3 := ⟨by decide +kernel, rfl⟩
theorem dX9_isTicks_16 : decode cX9_isTicks 16 = .ok (.iconst 0, 1) ∧ 17 = 16 + 1 := ⟨by decide +kernel, rfl⟩
theorem dX9_isTicks_17 : decode cX9_isTicks 17 = .ok (.ireturn, 1) ∧ 18 = 17 + 1 := ⟨by decide +kernel, rfl⟩
theorem dX9_isTestTicks_0 : decode cX9_isTestTicks 0 = .ok (.iload_n 0, 1) ∧ 1 = 0 + 1 := ⟨by decide +kernel, rfl⟩
theorem dX9_isTestTicks_1 : decode cX9_isTestTicks 1 = .ok (.invokestatic 179, 3) ∧ 4 = 1 + 3 := ⟨by decide +kernel, rfl⟩
theorem dX9_isTestTicks_4 : decode cX9_isTestTicks 4 = .ok (.ifCond .eq 13, 3) ∧ 7 = 4 + 3 := ⟨by decide +kernel, rfl⟩
theorem dX9_isTestTicks_7 : decode cX9_isTestTicks 7 = .ok (.iload_n 0, 1) ∧ 8 = 7 + 1 := ⟨by decide +kernel, rfl⟩
theorem dX9_isTestTicks_8 : decode cX9_isTestTicks 8 = .ok (.iconst 2, 1) ∧ 9 = 8 + 1 := ⟨by decide +kernel, rfl⟩
theorem dX9_isTestTicks_9 : decode cX9_isTestTicks 9 = .ok (.irem, 1) ∧ 10 = 9 + 1 := ⟨by decide +kernel, rfl⟩
theorem dX9_isTestTicks_10 : decode cX9_isTestTicks 10 = .ok (.ifCond .ne 7, 3) ∧ 13 = 10 + 3 := ⟨by decide +kernel, rfl⟩
theorem dX9_isTestTicks_13 : decode cX9_isTestTicks 13 = .ok (.iconst 1, 1) ∧ 14 = 13 + 1 := ⟨by decide +kernel, rfl⟩
theorem dX9_isTestTicks_14 : decode cX9_isTestTicks 14 = .ok (.goto 4, 3) ∧ 17 = 14 + 3 := ⟨by decide +kernel, rfl⟩
theorem dX9_isTestTicks_17 : decode cX9_isTestTicks 17 = .ok (.iconst 0, 1) ∧ 18 = 17 + 1 := ⟨by decide +kernel, rfl⟩
theorem dX9_isTestTicks_18 : decode cX9_isTestTicks 18 = .ok (.ireturn, 1) ∧ 19 = 18 + 1 := ⟨by decide +kernel, rfl⟩
theorem dX9_isPressure_0 : decode cX9_isPressure 0 = .ok (.iload_n 0, 1) ∧ 1 = 0 + 1 := ⟨by decide +kernel, rfl⟩
theorem dX9_isPressure_1 : decode cX9_isPressure 1 = .ok (.ifCond .lt 14, 3) ∧ 4 = 1 + 3 := ⟨by decide +kernel, rfl⟩
theorem dX9_isPressure_4 : decode cX9_isPressure 4 = .ok (.iload_n 0, 1) ∧ 5 = 4 + 1 := ⟨by decide +kernel, rfl⟩
theorem dX9_isPressure_5 : decode cX9_isPressure 5 = .ok (.ldc_w 389, 3) ∧ 8 = 5 + 3 := ⟨by decide +kernel, rfl⟩
theorem dX9_isPressure_8 : decode cX9_isPressure 8 = .ok (.if_icmp .gt 7, 3) ∧ 11 = 8 + 3 := ⟨by decide +kernel, rfl⟩
theorem dX9_isPressure_11 : decode cX9_isPressure 11 = .ok (.iconst 1, 1) ∧ 12 = 11 + 1 := ⟨by decide +kernel, rfl⟩
theorem dX9_isPressure_12 : decode cX9_isPressure 12 = .ok (.goto 4, 3) ∧ 15 = 12 + 3 := ⟨by decide +kernel, rfl⟩
theorem dX9_isPressure_15 : decode cX9_isPressure 15 = .ok (.iconst 0, 1) ∧ 16 = 15 + 1 := ⟨by decide +kernel, rfl⟩
theorem dX9_isPressure_16 : decode cX9_isPressure 16 = .ok (.ireturn, 1) ∧ 17 = 16 + 1 := ⟨by decide +kernel, rfl⟩
theorem dX9_has_0 : decode cX9_has 0 = .ok (.iload_n 0, 1) ∧ 1 = 0 + 1 := ⟨by decide +kernel, rfl⟩
theorem dX9_has_1 : decode cX9_has 1 = .ok (.iload_n 1, 1) ∧ 2 = 1 + 1 := ⟨by decide +kernel, rfl⟩
theorem dX9_has_2 : decode cX9_has 2 = .ok (.ishr, 1) ∧ 3 = 2 + 1 := ⟨by decide +kernel, rfl⟩
theorem dX9_has_3 : decode cX9_has 3 = .ok (.iconst 1, 1) ∧ 4 = 3 + 1 := ⟨by decide +kernel, rfl⟩
theorem dX9_has_4 : decode cX9_has 4 = .ok (.iand, 1) ∧ 5 = 4 + 1 := ⟨by decide +kernel, rfl⟩
theorem dX9_has_5 : decode cX9_has 5 = .ok (.ifCond .eq 7, 3) ∧ 8 = 5 + 3 := ⟨by decide +kernel, rfl⟩
theorem dX9_has_8 : decode cX9_has 8 = .ok (.iconst 1, 1) ∧ 9 = 8 + 1 := ⟨by decide +kernel, rfl⟩
theorem dX9_has_9 : decode cX9_has 9 = .ok (.goto 4, 3) ∧ 12 = 9 + 3 := ⟨by decide +kernel, rfl⟩
theorem dX9_has_12 : decode cX9_has 12 = .ok (.iconst 0, 1) ∧ 13 = 12 + 1 := ⟨by decide +kernel, rfl⟩
theorem dX9_has_13 : decode cX9_has 13 = .ok (.ireturn, 1) ∧ 14 = 13 + 1 := ⟨by decide +kernel, rfl⟩
theorem dX9_told_0 : decode cX9_told 0 = .ok (.iload_n 0, 1) ∧ 1 = 0 + 1 := ⟨by decide +kernel, rfl⟩
theorem dX9_told_1 : decode cX9_told 1 = .ok (.bipush 8, 2) ∧ 3 = 1 + 2 := ⟨by decide +kernel, rfl⟩
theorem dX9_told_3 : decode cX9_told 3 = .ok (.if_icmp .ne 7, 3) ∧ 6 = 3 + 3 := ⟨by decide +kernel, rfl⟩
theorem dX9_told_6 : decode cX9_told 6 = .ok (.iconst (-1), 1) ∧ 7 = 6 + 1 := ⟨by decide +kernel, rfl⟩
theorem dX9_told_7 : decode cX9_told 7 = .ok (.goto 4, 3) ∧ 10 = 7 + 3 := ⟨by decide +kernel, rfl⟩
theorem dX9_told_10 : decode cX9_told 10 = .ok (.iload_n 0, 1) ∧ 11 = 10 + 1 := ⟨by decide +kernel, rfl⟩
theorem dX9_told_11 : decode cX9_told 11 = .ok (.ireturn, 1) ∧ 12 = 11 + 1 := ⟨by decide +kernel, rfl⟩
theorem dX9_sum_0 : decode cX9_sum 0 = .ok (.iconst 0, 1) ∧ 1 = 0 + 1 := ⟨by decide +kernel, rfl⟩
theorem dX9_sum_1 : decode cX9_sum 1 = .ok (.istore_n 2, 1) ∧ 2 = 1 + 1 := ⟨by decide +kernel, rfl⟩
theorem dX9_sum_2 : decode cX9_sum 2 = .ok (.iconst 0, 1) ∧ 3 = 2 + 1 := ⟨by decide +kernel, rfl⟩
theorem dX9_sum_3 : decode cX9_sum 3 = .ok (.istore_n 3, 1) ∧ 4 = 3 + 1 := ⟨by decide +kernel, rfl⟩
theorem dX9_sum_4 : decode cX9_sum 4 = .ok (.iload_n 3, 1) ∧ 5 = 4 + 1 := ⟨by decide +kernel, rfl⟩
theorem dX9_sum_5 : decode cX9_sum 5 = .ok (.iload_n 1, 1) ∧ 6 = 5 + 1 := ⟨by decide +kernel, rfl⟩
theorem dX9_sum_6 : decode cX9_sum 6 = .ok (.if_icmp .ge 21, 3) ∧ 9 = 6 + 3 := ⟨by decide +kernel, rfl⟩
theorem dX9_sum_9 : decode cX9_sum 9 = .ok (.iload_n 3, 1) ∧ 10 = 9 + 1 := ⟨by decide +kernel, rfl⟩
theorem dX9_sum_10 : decode cX9_sum 10 = .ok (.aload_n 0, 1) ∧ 11 = 10 + 1 := ⟨by decide +kernel, rfl⟩
theorem dX9_sum_11 : decode cX9_sum 11 = .ok (.arraylength, 1) ∧ 12 = 11 + 1 := ⟨by decide +kernel, rfl⟩
theorem dX9_sum_12 : decode cX9_sum 12 = .ok (.if_icmp .ge 15, 3) ∧ 15 = 12 + 3 := ⟨by decide +kernel, rfl⟩
theorem dX9_sum_15 : decode cX9_sum 15 = .ok (.iload_n 2, 1) ∧ 16 = 15 + 1 := ⟨by decide +kernel, rfl⟩
theorem dX9_sum_16 : decode cX9_sum 16 = .ok (.aload_n 0, 1) ∧ 17 = 16 + 1 := ⟨by decide +kernel, rfl⟩
theorem dX9_sum_17 : decode cX9_sum 17 = .ok (.iload_n 3, 1) ∧ 18 = 17 + 1 := ⟨by decide +kernel, rfl⟩
theorem dX9_sum_18 : decode cX9_sum 18 = .ok (.iaload, 1) ∧ 19 = 18 + 1 := ⟨by decide +kernel, rfl⟩
theorem dX9_sum_19 : decode cX9_sum 19 = .ok (.iadd, 1) ∧ 20 = 19 + 1 := ⟨by decide +kernel, rfl⟩
theorem dX9_sum_20 : decode cX9_sum 20 = .ok (.istore_n 2, 1) ∧ 21 = 20 + 1 := ⟨by decide +kernel, rfl⟩
theorem dX9_sum_21 : decode cX9_sum 21 = .ok (.iinc 3 1, 3) ∧ 24 = 21 + 3 := ⟨by decide +kernel, rfl⟩
theorem dX9_sum_24 : decode cX9_sum 24 = .ok (.goto (-20), 3) ∧ 27 = 24 + 3 := ⟨by decide +kernel, rfl⟩
theorem dX9_sum_27 : decode cX9_sum 27 = .ok (.iload_n 2, 1) ∧ 28 = 27 + 1 := ⟨by decide +kernel, rfl⟩
theorem dX9_sum_28 : decode cX9_sum 28 = .ok (.ireturn, 1) ∧ 29 = 28 + 1 := ⟨by decide +kernel, rfl⟩
