/-! decode rows: the class -/
theorem dX0_init_0 : decode cX0_init 0 = .ok (.aload_n 0, 1) ∧ 1 = 0 + 1 := ⟨by decide +kernel, rfl⟩
theorem dX0_init_1 : decode cX0_init 1 = .ok (.invokespecial 3, 3) ∧ 4 = 1 + 3 := ⟨by decide +kernel, rfl⟩
theorem dX0_init_4 : decode cX0_init 4 = .ok (.aload_n 0, 1) ∧ 5 = 4 + 1 := ⟨by decide +kernel, rfl⟩
theorem dX0_init_5 : decode cX0_init 5 = .ok (.bipush 24, 2) ∧ 7 = 5 + 2 := ⟨by decide +kernel, rfl⟩
theorem dX0_init_7 : decode cX0_init 7 = .ok (.newarray .int, 2) ∧ 9 = 7 + 2 := ⟨by decide +kernel, rfl⟩
theorem dX0_init_9 : decode cX0_init 9 = .ok (.putfield 9, 3) ∧ 12 = 9 + 3 := ⟨by decide +kernel, rfl⟩
theorem dX0_init_12 : decode cX0_init 12 = .ok (.aload_n 0, 1) ∧ 13 = 12 + 1 := ⟨by decide +kernel, rfl⟩
theorem dX0_init_13 : decode cX0_init 13 = .ok (.bipush 47, 2) ∧ 15 = 13 + 2 := ⟨by decide +kernel, rfl⟩
theorem dX0_init_15 : decode cX0_init 15 = .ok (.newarray .int, 2) ∧ 17 = 15 + 2 := ⟨by decide +kernel, rfl⟩
theorem dX0_init_17 : decode cX0_init 17 = .ok (.putfield 15, 3) ∧ 20 = 17 + 3 := ⟨by decide +kernel, rfl⟩
theorem dX0_init_20 : decode cX0_init 20 = .ok (.aload_n 0, 1) ∧ 21 = 20 + 1 := ⟨by decide +kernel, rfl⟩
theorem dX0_init_21 : decode cX0_init 21 = .ok (.bipush 47, 2) ∧ 23 = 21 + 2 := ⟨by decide +kernel, rfl⟩
theorem dX0_init_23 : decode cX0_init 23 = .ok (.newarray .int, 2) ∧ 25 = 23 + 2 := ⟨by decide +kernel, rfl⟩
theorem dX0_init_25 : decode cX0_init 25 = .ok (.putfield 18, 3) ∧ 28 = 25 + 3 := ⟨by decide +kernel, rfl⟩
theorem dX0_init_28 : decode cX0_init 28 = .ok (.aload_n 0, 1) ∧ 29 = 28 + 1 := ⟨by decide +kernel, rfl⟩
theorem dX0_init_29 : decode cX0_init 29 = .ok (.iconst 0, 1) ∧ 30 = 29 + 1 := ⟨by decide +kernel, rfl⟩
theorem dX0_init_30 : decode cX0_init 30 = .ok (.putfield 21, 3) ∧ 33 = 30 + 3 := ⟨by decide +kernel, rfl⟩
theorem dX0_init_33 : decode cX0_init 33 = .ok (.aload_n 0, 1) ∧ 34 = 33 + 1 := ⟨by decide +kernel, rfl⟩
theorem dX0_init_34 : decode cX0_init 34 = .ok (.iconst 0, 1) ∧ 35 = 34 + 1 := ⟨by decide +kernel, rfl⟩
theorem dX0_init_35 : decode cX0_init 35 = .ok (.putfield 25, 3) ∧ 38 = 35 + 3 := ⟨by decide +kernel, rfl⟩
theorem dX0_init_38 : decode cX0_init 38 = .ok (.aload_n 0, 1) ∧ 39 = 38 + 1 := ⟨by decide +kernel, rfl⟩
theorem dX0_init_39 : decode cX0_init 39 = .ok (.iconst 0, 1) ∧ 40 = 39 + 1 := ⟨by decide +kernel, rfl⟩
theorem dX0_init_40 : decode cX0_init 40 = .ok (.putfield 28, 3) ∧ 43 = 40 + 3 := ⟨by decide +kernel, rfl⟩
theorem dX0_init_43 : decode cX0_init 43 = .ok (.return_, 1) ∧ 44 = 43 + 1 := ⟨by decide +kernel, rfl⟩
theorem dX0_run_0 : decode cX0_run 0 = .ok (.aload_n 0, 1) ∧ 1 = 0 + 1 := ⟨by decide +kernel, rfl⟩
theorem dX0_run_1 : decode cX0_run 1 = .ok (.iconst 0, 1) ∧ 2 = 1 + 1 := ⟨by decide +kernel, rfl⟩
theorem dX0_run_2 : decode cX0_run 2 = .ok (.putfield 21, 3) ∧ 5 = 2 + 3 := ⟨by decide +kernel, rfl⟩
theorem dX0_run_5 : decode cX0_run 5 = .ok (.aload_n 0, 1) ∧ 6 = 5 + 1 := ⟨by decide +kernel, rfl⟩
theorem dX0_run_6 : decode cX0_run 6 = .ok (.iconst 0, 1) ∧ 7 = 6 + 1 := ⟨by decide +kernel, rfl⟩
theorem dX0_run_7 : decode cX0_run 7 = .ok (.putfield 25, 3) ∧ 10 = 7 + 3 := ⟨by decide +kernel, rfl⟩
theorem dX0_run_10 : decode cX0_run 10 = .ok (.aload_n 0, 1) ∧ 11 = 10 + 1 := ⟨by decide +kernel, rfl⟩
theorem dX0_run_11 : decode cX0_run 11 = .ok (.iconst 0, 1) ∧ 12 = 11 + 1 := ⟨by decide +kernel, rfl⟩
theorem dX0_run_12 : decode cX0_run 12 = .ok (.putfield 28, 3) ∧ 15 = 12 + 3 := ⟨by decide +kernel, rfl⟩
theorem dX0_run_15 : decode cX0_run 15 = .ok (.aload_n 0, 1) ∧ 16 = 15 + 1 := ⟨by decide +kernel, rfl⟩
theorem dX0_run_16 : decode cX0_run 16 = .ok (.iconst 0, 1) ∧ 17 = 16 + 1 := ⟨by decide +kernel, rfl⟩
theorem dX0_run_17 : decode cX0_run 17 = .ok (.aload_n 0, 1) ∧ 18 = 17 + 1 := ⟨by decide +kernel, rfl⟩
theorem dX0_run_18 : decode cX0_run 18 = .ok (.aload_n 1, 1) ∧ 19 = 18 + 1 := ⟨by decide +kernel, rfl⟩
theorem dX0_run_19 : decode cX0_run 19 = .ok (.getfield 31, 3) ∧ 22 = 19 + 3 := ⟨by decide +kernel, rfl⟩
theorem dX0_run_22 : decode cX0_run 22 = .ok (.iload_n 2, 1) ∧ 23 = 22 + 1 := ⟨by decide +kernel, rfl⟩
theorem dX0_run_23 : decode cX0_run 23 = .ok (.invokevirtual 37, 3) ∧ 26 = 23 + 3 := ⟨by decide +kernel, rfl⟩
theorem dX0_run_26 : decode cX0_run 26 = .ok (.invokevirtual 41, 3) ∧ 29 = 26 + 3 := ⟨by decide +kernel, rfl⟩
theorem dX0_run_29 : decode cX0_run 29 = .ok (.iconst 0, 1) ∧ 30 = 29 + 1 := ⟨by decide +kernel, rfl⟩
theorem dX0_run_30 : decode cX0_run 30 = .ok (.istore 4, 2) ∧ 32 = 30 + 2 := ⟨by decide +kernel, rfl⟩
theorem dX0_run_32 : decode cX0_run 32 = .ok (.iload 4, 2) ∧ 34 = 32 + 2 := ⟨by decide +kernel, rfl⟩
theorem dX0_run_34 : decode cX0_run 34 = .ok (.aload_n 0, 1) ∧ 35 = 34 + 1 := ⟨by decide +kernel, rfl⟩
theorem dX0_run_35 : decode cX0_run 35 = .ok (.getfield 21, 3) ∧ 38 = 35 + 3 := ⟨by decide +kernel, rfl⟩
theorem dX0_run_38 : decode cX0_run 38 = .ok (.if_icmp .ge 132, 3) ∧ 41 = 38 + 3 := ⟨by decide +kernel, rfl⟩
theorem dX0_run_41 : decode cX0_run 41 = .ok (.iload 4, 2) ∧ 43 = 41 + 2 := ⟨by decide +kernel, rfl⟩
theorem dX0_run_43 : decode cX0_run 43 = .ok (.bipush 47, 2) ∧ 45 = 43 + 2 := ⟨by decide +kernel, rfl⟩
theorem dX0_run_45 : decode cX0_run 45 = .ok (.if_icmp .ge 125, 3) ∧ 48 = 45 + 3 := ⟨by decide +kernel, rfl⟩
theorem dX0_run_48 : decode cX0_run 48 = .ok (.aload_n 0, 1) ∧ 49 = 48 + 1 := ⟨by decide +kernel, rfl⟩
theorem dX0_run_49 : decode cX0_run 49 = .ok (.dup, 1) ∧ 50 = 49 + 1 := ⟨by decide +kernel, rfl⟩
theorem dX0_run_50 : decode cX0_run 50 = .ok (.getfield 25, 3) ∧ 53 = 50 + 3 := ⟨by decide +kernel, rfl⟩
theorem dX0_run_53 : decode cX0_run 53 = .ok (.iconst 1, 1) ∧ 54 = 53 + 1 := ⟨by decide +kernel, rfl⟩
theorem dX0_run_54 : decode cX0_run 54 = .ok (.iadd, 1) ∧ 55 = 54 + 1 := ⟨by decide +kernel, rfl⟩
theorem dX0_run_55 : decode cX0_run 55 = .ok (.putfield 25, 3) ∧ 58 = 55 + 3 := ⟨by decide +kernel, rfl⟩
theorem dX0_run_58 : decode cX0_run 58 = .ok (.aload_n 0, 1) ∧ 59 = 58 + 1 := ⟨by decide +kernel, rfl⟩
theorem dX0_run_59 : decode cX0_run 59 = .ok (.aload_n 1, 1) ∧ 60 = 59 + 1 := ⟨by decide +kernel, rfl⟩
theorem dX0_run_60 : decode cX0_run 60 = .ok (.getfield 45, 3) ∧ 63 = 60 + 3 := ⟨by decide +kernel, rfl⟩
theorem dX0_run_63 : decode cX0_run 63 = .ok (.iload 4, 2) ∧ 65 = 63 + 2 := ⟨by decide +kernel, rfl⟩
theorem dX0_run_65 : decode cX0_run 65 = .ok (.invokevirtual 48, 3) ∧ 68 = 65 + 3 := ⟨by decide +kernel, rfl⟩
theorem dX0_run_68 : decode cX0_run 68 = .ok (.iload_n 3, 1) ∧ 69 = 68 + 1 := ⟨by decide +kernel, rfl⟩
theorem dX0_run_69 : decode cX0_run 69 = .ok (.if_icmp .ge 6, 3) ∧ 72 = 69 + 3 := ⟨by decide +kernel, rfl⟩
theorem dX0_run_72 : decode cX0_run 72 = .ok (.goto 92, 3) ∧ 75 = 72 + 3 := ⟨by decide +kernel, rfl⟩
theorem dX0_run_75 : decode cX0_run 75 = .ok (.aload_n 0, 1) ∧ 76 = 75 + 1 := ⟨by decide +kernel, rfl⟩
theorem dX0_run_76 : decode cX0_run 76 = .ok (.getfield 18, 3) ∧ 79 = 76 + 3 := ⟨by decide +kernel, rfl⟩
theorem dX0_run_79 : decode cX0_run 79 = .ok (.iload 4, 2) ∧ 81 = 79 + 2 := ⟨by decide +kernel, rfl⟩
theorem dX0_run_81 : decode cX0_run 81 = .ok (.iaload, 1) ∧ 82 = 81 + 1 := ⟨by decide +kernel, rfl⟩
theorem dX0_run_82 : decode cX0_run 82 = .ok (.iconst 1, 1) ∧ 83 = 82 + 1 := ⟨by decide +kernel, rfl⟩
theorem dX0_run_83 : decode cX0_run 83 = .ok (.if_icmp .ne 29, 3) ∧ 86 = 83 + 3 := ⟨by decide +kernel, rfl⟩
theorem dX0_run_86 : decode cX0_run 86 = .ok (.aload_n 0, 1) ∧ 87 = 86 + 1 := ⟨by decide +kernel, rfl⟩
theorem dX0_run_87 : decode cX0_run 87 = .ok (.dup, 1) ∧ 88 = 87 + 1 := ⟨by decide +kernel, rfl⟩
theorem dX0_run_88 : decode cX0_run 88 = .ok (.getfield 28, 3) ∧ 91 = 88 + 3 := ⟨by decide +kernel, rfl⟩
theorem dX0_run_91 : decode cX0_run 91 = .ok (.iconst 1, 1) ∧ 92 = 91 + 1 := ⟨by decide +kernel, rfl⟩
theorem dX0_run_92 : decode cX0_run 92 = .ok (.aload_n 0, 1) ∧ 93 = 92 + 1 := ⟨by decide +kernel, rfl⟩
theorem dX0_run_93 : decode cX0_run 93 = .ok (.getfield 9, 3) ∧ 96 = 93 + 3 := ⟨by decide +kernel, rfl⟩
theorem dX0_run_96 : decode cX0_run 96 = .ok (.aload_n 0, 1) ∧ 97 = 96 + 1 := ⟨by decide +kernel, rfl⟩
theorem dX0_run_97 : decode cX0_run 97 = .ok (.getfield 15, 3) ∧ 100 = 97 + 3 := ⟨by decide +kernel, rfl⟩
theorem dX0_run_100 : decode cX0_run 100 = .ok (.iload 4, 2) ∧ 102 = 100 + 2 := ⟨by decide +kernel, rfl⟩
theorem dX0_run_102 : decode cX0_run 102 = .ok (.iaload, 1) ∧ 103 = 102 + 1 := ⟨by decide +kernel, rfl⟩
theorem dX0_run_103 : decode cX0_run 103 = .ok (.iaload, 1) ∧ 104 = 103 + 1 := ⟨by decide +kernel, rfl⟩
theorem dX0_run_104 : decode cX0_run 104 = .ok (.ishl, 1) ∧ 105 = 104 + 1 := ⟨by decide +kernel, rfl⟩
theorem dX0_run_105 : decode cX0_run 105 = .ok (.ior, 1) ∧ 106 = 105 + 1 := ⟨by decide +kernel, rfl⟩
theorem dX0_run_106 : decode cX0_run 106 = .ok (.putfield 28, 3) ∧ 109 = 106 + 3 := ⟨by decide +kernel, rfl⟩
theorem dX0_run_109 : decode cX0_run 109 = .ok (.goto 55, 3) ∧ 112 = 109 + 3 := ⟨by decide +kernel, rfl⟩
theorem dX0_run_112 : decode cX0_run 112 = .ok (.aload_n 0, 1) ∧ 113 = 112 + 1 := ⟨by decide +kernel, rfl⟩
theorem dX0_run_113 : decode cX0_run 113 = .ok (.getfield 18, 3) ∧ 116 = 113 + 3 := ⟨by decide +kernel, rfl⟩
theorem dX0_run_116 : decode cX0_run 116 = .ok (.iload 4, 2) ∧ 118 = 116 + 2 := ⟨by decide +kernel, rfl⟩
theorem dX0_run_118 : decode cX0_run 118 = .ok (.iaload, 1) ∧ 119 = 118 + 1 := ⟨by decide +kernel, rfl⟩
theorem dX0_run_119 : decode cX0_run 119 = .ok (.iconst 2, 1) ∧ 120 = 119 + 1 := ⟨by decide +kernel, rfl⟩
theorem dX0_run_120 : decode cX0_run 120 = .ok (.idiv, 1) ∧ 121 = 120 + 1 := ⟨by decide +kernel, rfl⟩
theorem dX0_run_121 : decode cX0_run 121 = .ok (.istore 5, 2) ∧ 123 = 121 + 2 := ⟨by decide +kernel, rfl⟩
theorem dX0_run_123 : decode cX0_run 123 = .ok (.aload_n 0, 1) ∧ 124 = 123 + 1 := ⟨by decide +kernel, rfl⟩
theorem dX0_run_124 : decode cX0_run 124 = .ok (.getfield 18, 3) ∧ 127 = 124 + 3 := ⟨by decide +kernel, rfl⟩
theorem dX0_run_127 : decode cX0_run 127 = .ok (.iload 4, 2) ∧ 129 = 127 + 2 := ⟨by decide +kernel, rfl⟩
theorem dX0_run_129 : decode cX0_run 129 = .ok (.iaload, 1) ∧ 130 = 129 + 1 := ⟨by decide +kernel, rfl⟩
theorem dX0_run_130 : decode cX0_run 130 = .ok (.iload 5, 2) ∧ 132 = 130 + 2 := ⟨by decide +kernel, rfl⟩
theorem dX0_run_132 : decode cX0_run 132 = .ok (.isub, 1) ∧ 133 = 132 + 1 := ⟨by decide +kernel, rfl⟩
theorem dX0_run_133 : decode cX0_run 133 = .ok (.istore 6, 2) ∧ 135 = 133 + 2 := ⟨by decide +kernel, rfl⟩
theorem dX0_run_135 : decode cX0_run 135 = .ok (.aload_n 0, 1) ∧ 136 = 135 + 1 := ⟨by decide +kernel, rfl⟩
theorem dX0_run_136 : decode cX0_run 136 = .ok (.aload_n 0, 1) ∧ 137 = 136 + 1 := ⟨by decide +kernel, rfl⟩
theorem dX0_run_137 : decode cX0_run 137 = .ok (.getfield 15, 3) ∧ 140 = 137 + 3 := ⟨by decide +kernel, rfl⟩
theorem dX0_run_140 : decode cX0_run 140 = .ok (.iload 4, 2) ∧ 142 = 140 + 2 := ⟨by decide +kernel, rfl⟩
theorem dX0_run_142 : decode cX0_run 142 = .ok (.iaload, 1) ∧ 143 = 142 + 1 := ⟨by decide +kernel, rfl⟩
theorem dX0_run_143 : decode cX0_run 143 = .ok (.iload 6, 2) ∧ 145 = 143 + 2 := ⟨by decide +kernel, rfl⟩
theorem dX0_run_145 : decode cX0_run 145 = .ok (.invokevirtual 41, 3) ∧ 148 = 145 + 3 := ⟨by decide +kernel, rfl⟩
theorem dX0_run_148 : decode cX0_run 148 = .ok (.aload_n 0, 1) ∧ 149 = 148 + 1 := ⟨by decide +kernel, rfl⟩
theorem dX0_run_149 : decode cX0_run 149 = .ok (.aload_n 0, 1) ∧ 150 = 149 + 1 := ⟨by decide +kernel, rfl⟩
theorem dX0_run_150 : decode cX0_run 150 = .ok (.getfield 15, 3) ∧ 153 = 150 + 3 := ⟨by decide +kernel, rfl⟩
theorem dX0_run_153 : decode cX0_run 153 = .ok (.iload 4, 2) ∧ 155 = 153 + 2 := ⟨by decide +kernel, rfl⟩
theorem dX0_run_155 : decode cX0_run 155 = .ok (.iaload, 1) ∧ 156 = 155 + 1 := ⟨by decide +kernel, rfl⟩
theorem dX0_run_156 : decode cX0_run 156 = .ok (.iload 6, 2) ∧ 158 = 156 + 2 := ⟨by decide +kernel, rfl⟩
theorem dX0_run_158 : decode cX0_run 158 = .ok (.iadd, 1) ∧ 159 = 158 + 1 := ⟨by decide +kernel, rfl⟩
theorem dX0_run_159 : decode cX0_run 159 = .ok (.iload 5, 2) ∧ 161 = 159 + 2 := ⟨by decide +kernel, rfl⟩
theorem dX0_run_161 : decode cX0_run 161 = .ok (.invokevirtual 41, 3) ∧ 164 = 161 + 3 := ⟨by decide +kernel, rfl⟩
theorem dX0_run_164 : decode cX0_run 164 = .ok (.iinc 4 1, 3) ∧ 167 = 164 + 3 := ⟨by decide +kernel, rfl⟩
theorem dX0_run_167 : decode cX0_run 167 = .ok (.goto (-135), 3) ∧ 170 = 167 + 3 := ⟨by decide +kernel, rfl⟩
theorem dX0_run_170 : decode cX0_run 170 = .ok (.return_, 1) ∧ 171 = 170 + 1 := ⟨by decide +kernel, rfl⟩
theorem dX0_collect_0 : decode cX0_collect 0 = .ok (.iconst 0, 1) ∧ 1 = 0 + 1 := ⟨by decide +kernel, rfl⟩
theorem dX0_collect_1 : decode cX0_collect 1 = .ok (.istore_n 3, 1) ∧ 2 = 1 + 1 := ⟨by decide +kernel, rfl⟩
theorem dX0_collect_2 : decode cX0_collect 2 = .ok (.iconst 0, 1) ∧ 3 = 2 + 1 := ⟨by decide +kernel, rfl⟩
theorem dX0_collect_3 : decode cX0_collect 3 = .ok (.istore 4, 2) ∧ 5 = 3 + 2 := ⟨by decide +kernel, rfl⟩
theorem dX0_collect_5 : decode cX0_collect 5 = .ok (.iload 4, 2) ∧ 7 = 5 + 2 := ⟨by decide +kernel, rfl⟩
theorem dX0_collect_7 : decode cX0_collect 7 = .ok (.aload_n 1, 1) ∧ 8 = 7 + 1 := ⟨by decide +kernel, rfl⟩
theorem dX0_collect_8 : decode cX0_collect 8 = .ok (.getfield 52, 3) ∧ 11 = 8 + 3 := ⟨by decide +kernel, rfl⟩
theorem dX0_collect_11 : decode cX0_collect 11 = .ok (.if_icmp .ge 31, 3) ∧ 14 = 11 + 3 := ⟨by decide +kernel, rfl⟩
theorem dX0_collect_14 : decode cX0_collect 14 = .ok (.aload_n 1, 1) ∧ 15 = 14 + 1 := ⟨by decide +kernel, rfl⟩
theorem dX0_collect_15 : decode cX0_collect 15 = .ok (.getfield 57, 3) ∧ 18 = 15 + 3 := ⟨by decide +kernel, rfl⟩
theorem dX0_collect_18 : decode cX0_collect 18 = .ok (.iload 4, 2) ∧ 20 = 18 + 2 := ⟨by decide +kernel, rfl⟩
theorem dX0_collect_20 : decode cX0_collect 20 = .ok (.iaload, 1) ∧ 21 = 20 + 1 := ⟨by decide +kernel, rfl⟩
theorem dX0_collect_21 : decode cX0_collect 21 = .ok (.iload_n 2, 1) ∧ 22 = 21 + 1 := ⟨by decide +kernel, rfl⟩
theorem dX0_collect_22 : decode cX0_collect 22 = .ok (.if_icmp .ne 14, 3) ∧ 25 = 22 + 3 := ⟨by decide +kernel, rfl⟩
theorem dX0_collect_25 : decode cX0_collect 25 = .ok (.aload_n 0, 1) ∧ 26 = 25 + 1 := ⟨by decide +kernel, rfl⟩
theorem dX0_collect_26 : decode cX0_collect 26 = .ok (.getfield 9, 3) ∧ 29 = 26 + 3 := ⟨by decide +kernel, rfl⟩
theorem dX0_collect_29 : decode cX0_collect 29 = .ok (.iload_n 3, 1) ∧ 30 = 29 + 1 := ⟨by decide +kernel, rfl⟩
theorem dX0_collect_30 : decode cX0_collect 30 = .ok (.iload 4, 2) ∧ 32 = 30 + 2 := ⟨by decide +kernel, rfl⟩
theorem dX0_collect_32 : decode cX0_collect 32 = .ok (.iastore, 1) ∧ 33 = 32 + 1 := ⟨by decide +kernel, rfl⟩
theorem dX0_collect_33 : decode cX0_collect 33 = .ok (.iinc 3 1, 3) ∧ 36 = 33 + 3 := ⟨by decide +kernel, rfl⟩
theorem dX0_collect_36 : decode cX0_collect 36 = .ok (.iinc 4 1, 3) ∧ 39 = 36 + 3 := ⟨by decide +kernel, rfl⟩
theorem dX0_collect_39 : decode cX0_collect 39 = .ok (.goto (-34), 3) ∧ 42 = 39 + 3 := ⟨by decide +kernel, rfl⟩
theorem dX0_collect_42 : decode cX0_collect 42 = .ok (.iload_n 3, 1) ∧ 43 = 42 + 1 := ⟨by decide +kernel, rfl⟩
theorem dX0_collect_43 : decode cX0_collect 43 = .ok (.ireturn, 1) ∧ 44 = 43 + 1 := ⟨by decide +kernel, rfl⟩
theorem dX0_addGroup_0 : decode cX0_addGroup 0 = .ok (.iload_n 2, 1) ∧ 1 = 0 + 1 := ⟨by decide +kernel, rfl⟩
theorem dX0_addGroup_1 : decode cX0_addGroup 1 = .ok (.ifCond .le 42, 3) ∧ 4 = 1 + 3 := ⟨by decide +kernel, rfl⟩
theorem dX0_addGroup_4 : decode cX0_addGroup 4 = .ok (.aload_n 0, 1) ∧ 5 = 4 + 1 := ⟨by decide +kernel, rfl⟩
theorem dX0_addGroup_5 : decode cX0_addGroup 5 = .ok (.getfield 21, 3) ∧ 8 = 5 + 3 := ⟨by decide +kernel, rfl⟩
theorem dX0_addGroup_8 : decode cX0_addGroup 8 = .ok (.bipush 47, 2) ∧ 10 = 8 + 2 := ⟨by decide +kernel, rfl⟩
theorem dX0_addGroup_10 : decode cX0_addGroup 10 = .ok (.if_icmp .ge 33, 3) ∧ 13 = 10 + 3 := ⟨by decide +kernel, rfl⟩
theorem dX0_addGroup_13 : decode cX0_addGroup 13 = .ok (.aload_n 0, 1) ∧ 14 = 13 + 1 := ⟨by decide +kernel, rfl⟩
theorem dX0_addGroup_14 : decode cX0_addGroup 14 = .ok (.getfield 15, 3) ∧ 17 = 14 + 3 := ⟨by decide +kernel, rfl⟩
theorem dX0_addGroup_17 : decode cX0_addGroup 17 = .ok (.aload_n 0, 1) ∧ 18 = 17 + 1 := ⟨by decide +kernel, rfl⟩
theorem dX0_addGroup_18 : decode cX0_addGroup 18 = .ok (.getfield 21, 3) ∧ 21 = 18 + 3 := ⟨by decide +kernel, rfl⟩
theorem dX0_addGroup_21 : decode cX0_addGroup 21 = .ok (.iload_n 1, 1) ∧ 22 = 21 + 1 := ⟨by decide +kernel, rfl⟩
theorem dX0_addGroup_22 : decode cX0_addGroup 22 = .ok (.iastore, 1) ∧ 23 = 22 + 1 := ⟨by decide +kernel, rfl⟩
theorem dX0_addGroup_23 : decode cX0_addGroup 23 = .ok (.aload_n 0, 1) ∧ 24 = 23 + 1 := ⟨by decide +kernel, rfl⟩
theorem dX0_addGroup_24 : decode cX0_addGroup 24 = .ok (.getfield 18, 3) ∧ 27 = 24 + 3 := ⟨by decide +kernel, rfl⟩
theorem dX0_addGroup_27 : decode cX0_addGroup 27 = .ok (.aload_n 0, 1) ∧ 28 = 27 + 1 := ⟨by decide +kernel, rfl⟩
theorem dX0_addGroup_28 : decode cX0_addGroup 28 = .ok (.getfield 21, 3) ∧ 31 = 28 + 3 := ⟨by decide +kernel, rfl⟩
theorem dX0_addGroup_31 : decode cX0_addGroup 31 = .ok (.iload_n 2, 1) ∧ 32 = 31 + 1 := ⟨by decide +kernel, rfl⟩
theorem dX0_addGroup_32 : decode cX0_addGroup 32 = .ok (.iastore, 1) ∧ 33 = 32 + 1 := ⟨by decide +kernel, rfl⟩
theorem dX0_addGroup_33 : decode cX0_addGroup 33 = .ok (.aload_n 0, 1) ∧ 34 = 33 + 1 := ⟨by decide +kernel, rfl⟩
theorem dX0_addGroup_34 : decode cX0_addGroup 34 = .ok (.dup, 1) ∧ 35 = 34 + 1 := ⟨by decide +kernel, rfl⟩
theorem dX0_addGroup_35 : decode cX0_addGroup 35 = .ok (.getfield 21, 3) ∧ 38 = 35 + 3 := ⟨by decide +kernel, rfl⟩
theorem dX0_addGroup_38 : decode cX0_addGroup 38 = .ok (.iconst 1, 1) ∧ 39 = 38 + 1 := ⟨by decide +kernel, rfl⟩
theorem dX0_addGroup_39 : decode cX0_addGroup 39 = .ok (.iadd, 1) ∧ 40 = 39 + 1 := ⟨by decide +kernel, rfl⟩
theorem dX0_addGroup_40 : decode cX0_addGroup 40 = .ok (.putfield 21, 3) ∧ 43 = 40 + 3 := ⟨by decide +kernel, rfl⟩
theorem dX0_addGroup_43 : decode cX0_addGroup 43 = .ok (.return_, 1) ∧ 44 = 43 + 1 := ⟨by decide +kernel, rfl⟩
theorem dX0_sumOf_0 : decode cX0_sumOf 0 = .ok (.iconst 0, 1) ∧ 1 = 0 + 1 := ⟨by decide +kernel, rfl⟩
theorem dX0_sumOf_1 : decode cX0_sumOf 1 = .ok (.istore_n 3, 1) ∧ 2 = 1 + 1 := ⟨by decide +kernel, rfl⟩
theorem dX0_sumOf_2 : decode cX0_sumOf 2 = .ok (.aload_n 0, 1) ∧ 3 = 2 + 1 := ⟨by decide +kernel, rfl⟩
theorem dX0_sumOf_3 : decode cX0_sumOf 3 = .ok (.getfield 15, 3) ∧ 6 = 3 + 3 := ⟨by decide +kernel, rfl⟩
theorem dX0_sumOf_6 : decode cX0_sumOf 6 = .ok (.iload_n 2, 1) ∧ 7 = 6 + 1 := ⟨by decide +kernel, rfl⟩
theorem dX0_sumOf_7 : decode cX0_sumOf 7 = .ok (.iaload, 1) ∧ 8 = 7 + 1 := ⟨by decide +kernel, rfl⟩
theorem dX0_sumOf_8 : decode cX0_sumOf 8 = .ok (.istore 4, 2) ∧ 10 = 8 + 2 := ⟨by decide +kernel, rfl⟩
theorem dX0_sumOf_10 : decode cX0_sumOf 10 = .ok (.iload 4, 2) ∧ 12 = 10 + 2 := ⟨by decide +kernel, rfl⟩
theorem dX0_sumOf_12 : decode cX0_sumOf 12 = .ok (.aload_n 0, 1) ∧ 13 = 12 + 1 := ⟨by decide +kernel, rfl⟩
theorem dX0_sumOf_13 : decode cX0_sumOf 13 = .ok (.getfield 15, 3) ∧ 16 = 13 + 3 := ⟨by decide +kernel, rfl⟩
theorem dX0_sumOf_16 : decode cX0_sumOf 16 = .ok (.iload_n 2, 1) ∧ 17 = 16 + 1 := ⟨by decide +kernel, rfl⟩
theorem dX0_sumOf_17 : decode cX0_sumOf 17 = .ok (.iaload, 1) ∧ 18 = 17 + 1 := ⟨by decide +kernel, rfl⟩
theorem dX0_sumOf_18 : decode cX0_sumOf 18 = .ok (.aload_n 0, 1) ∧ 19 = 18 + 1 := ⟨by decide +kernel, rfl⟩
theorem dX0_sumOf_19 : decode cX0_sumOf 19 = .ok (.getfield 18, 3) ∧ 22 = 19 + 3 := ⟨by decide +kernel, rfl⟩
theorem dX0_sumOf_22 : decode cX0_sumOf 22 = .ok (.iload_n 2, 1) ∧ 23 = 22 + 1 := ⟨by decide +kernel, rfl⟩
theorem dX0_sumOf_23 : decode cX0_sumOf 23 = .ok (.iaload, 1) ∧ 24 = 23 + 1 := ⟨by decide +kernel, rfl⟩
theorem dX0_sumOf_24 : decode cX0_sumOf 24 = .ok (.iadd, 1) ∧ 25 = 24 + 1 := ⟨by decide +kernel, rfl⟩
theorem dX0_sumOf_25 : decode cX0_sumOf 25 = .ok (.if_icmp .ge 21, 3) ∧ 28 = 25 + 3 := ⟨by decide +kernel, rfl⟩
theorem dX0_sumOf_28 : decode cX0_sumOf 28 = .ok (.iload_n 3, 1) ∧ 29 = 28 + 1 := ⟨by decide +kernel, rfl⟩
theorem dX0_sumOf_29 : decode cX0_sumOf 29 = .ok (.aload_n 1, 1) ∧ 30 = 29 + 1 := ⟨by decide +kernel, rfl⟩
theorem dX0_sumOf_30 : decode cX0_sumOf 30 = .ok (.aload_n 0, 1) ∧ 31 = 30 + 1 := ⟨by decide +kernel, rfl⟩
theorem dX0_sumOf_31 : decode cX0_sumOf 31 = .ok (.getfield 9, 3) ∧ 34 = 31 + 3 := ⟨by decide +kernel, rfl⟩
theorem dX0_sumOf_34 : decode cX0_sumOf 34 = .ok (.iload 4, 2) ∧ 36 = 34 + 2 := ⟨by decide +kernel, rfl⟩
theorem dX0_sumOf_36 : decode cX0_sumOf 36 = .ok (.iaload, 1) ∧ 37 = 36 + 1 := ⟨by decide +kernel, rfl⟩
theorem dX0_sumOf_37 : decode cX0_sumOf 37 = .ok (.iaload, 1) ∧ 38 = 37 + 1 := ⟨by decide +kernel, rfl⟩
theorem dX0_sumOf_38 : decode cX0_sumOf 38 = .ok (.iadd, 1) ∧ 39 = 38 + 1 := ⟨by decide +kernel, rfl⟩
theorem dX0_sumOf_39 : decode cX0_sumOf 39 = .ok (.istore_n 3, 1) ∧ 40 = 39 + 1 := ⟨by decide +kernel, rfl⟩
theorem dX0_sumOf_40 : decode cX0_sumOf 40 = .ok (.iinc 4 1, 3) ∧ 43 = 40 + 3 := ⟨by decide +kernel, rfl⟩
theorem dX0_sumOf_43 : decode cX0_sumOf 43 = .ok (.goto (-33), 3) ∧ 46 = 43 + 3 := ⟨by decide +kernel, rfl⟩
theorem dX0_sumOf_46 : decode cX0_sumOf 46 = .ok (.iload_n 3, 1) ∧ 47 = 46 + 1 := ⟨by decide +kernel, rfl⟩
theorem dX0_sumOf_47 : decode cX0_sumOf 47 = .ok (.ireturn, 1) ∧ 48 = 47 + 1 := ⟨by decide +kernel, rfl⟩
theorem dX1_init_0 : decode cX1_init 0 = .ok (.aload_n 0, 1) ∧ 1 = 0 + 1 := ⟨by decide +kernel, rfl⟩
theorem dX1_init_1 : decode cX1_init 1 = .ok (.invokespecial 3, 3) ∧ 4 = 1 + 3 := ⟨by decide +kernel, rfl⟩
theorem dX1_init_4 : decode cX1_init 4 = .ok (.aload_n 0, 1) ∧ 5 = 4 + 1 := ⟨by decide +kernel, rfl⟩
theorem dX1_init_5 : decode cX1_init 5 = .ok (.iconst 0, 1) ∧ 6 = 5 + 1 := ⟨by decide +kernel, rfl⟩
theorem dX1_init_6 : decode cX1_init 6 = .ok (.putfield 9, 3) ∧ 9 = 6 + 3 := ⟨by decide +kernel, rfl⟩
theorem dX1_init_9 : decode cX1_init 9 = .ok (.aload_n 0, 1) ∧ 10 = 9 + 1 := ⟨by decide +kernel, rfl⟩
theorem dX1_init_10 : decode cX1_init 10 = .ok (.iconst 0, 1) ∧ 11 = 10 + 1 := ⟨by decide +kernel, rfl⟩
theorem dX1_init_11 : decode cX1_init 11 = .ok (.putfield 15, 3) ∧ 14 = 11 + 3 := ⟨by decide +kernel, rfl⟩
theorem dX1_init_14 : decode cX1_init 14 = .ok (.aload_n 0, 1) ∧ 15 = 14 + 1 := ⟨by decide +kernel, rfl⟩
theorem dX1_init_15 : decode cX1_init 15 = .ok (.iconst 0, 1) ∧ 16 = 15 + 1 := ⟨by decide +kernel, rfl⟩
theorem dX1_init_16 : decode cX1_init 16 = .ok (.putfield 18, 3) ∧ 19 = 16 + 3 := ⟨by decide +kernel, rfl⟩
theorem dX1_init_19 : decode cX1_init 19 = .ok (.aload_n 0, 1) ∧ 20 = 19 + 1 := ⟨by decide +kernel, rfl⟩
theorem dX1_init_20 : decode cX1_init 20 = .ok (.iconst 0, 1) ∧ 21 = 20 + 1 := ⟨by decide +kernel, rfl⟩
theorem dX1_init_21 : decode cX1_init 21 = .ok (.putfield 21, 3) ∧ 24 = 21 + 3 := ⟨by decide +kernel, rfl⟩
theorem dX1_init_24 : decode cX1_init 24 = .ok (.aload_n 0, 1) ∧ 25 = 24 + 1 := ⟨by decide +kernel, rfl⟩
theorem dX1_init_25 : decode cX1_init 25 = .ok (.bipush 8, 2) ∧ 27 = 25 + 2 := ⟨by decide +kernel, rfl⟩
theorem dX1_init_27 : decode cX1_init 27 = .ok (.newarray .int, 2) ∧ 29 = 27 + 2 := ⟨by decide +kernel, rfl⟩
theorem dX1_init_29 : decode cX1_init 29 = .ok (.putfield 24, 3) ∧ 32 = 29 + 3 := ⟨by decide +kernel, rfl⟩
theorem dX1_init_32 : decode cX1_init 32 = .ok (.aload_n 0, 1) ∧ 33 = 32 + 1 := ⟨by decide +kernel, rfl⟩
theorem dX1_init_33 : decode cX1_init 33 = .ok (.bipush 8, 2) ∧ 35 = 33 + 2 := ⟨by decide +kernel, rfl⟩
theorem dX1_init_35 : decode cX1_init 35 = .ok (.newarray .int, 2) ∧ 37 = 35 + 2 := ⟨by decide +kernel, rfl⟩
theorem dX1_init_37 : decode cX1_init 37 = .ok (.putfield 28, 3) ∧ 40 = 37 + 3 := ⟨by decide +kernel, rfl⟩
theorem dX1_init_40 : decode cX1_init 40 = .ok (.aload_n 0, 1) ∧ 41 = 40 + 1 := ⟨by decide +kernel, rfl⟩
theorem dX1_init_41 : decode cX1_init 41 = .ok (.bipush 8, 2) ∧ 43 = 41 + 2 := ⟨by decide +kernel, rfl⟩
theorem dX1_init_43 : decode cX1_init 43 = .ok (.newarray .int, 2) ∧ 45 = 43 + 2 := ⟨by decide +kernel, rfl⟩
theorem dX1_init_45 : decode cX1_init 45 = .ok (.putfield 31, 3) ∧ 48 = 45 + 3 := ⟨by decide +kernel, rfl⟩
theorem dX1_init_48 : decode cX1_init 48 = .ok (.aload_n 0, 1) ∧ 49 = 48 + 1 := ⟨by decide +kernel, rfl⟩
theorem dX1_init_49 : decode cX1_init 49 = .ok (.bipush 6, 2) ∧ 51 = 49 + 2 := ⟨by decide +kernel, rfl⟩
theorem dX1_init_51 : decode cX1_init 51 = .ok (.newarray .int, 2) ∧ 53 = 51 + 2 := ⟨by decide +kernel, rfl⟩
theorem dX1_init_53 : decode cX1_init 53 = .ok (.putfield 34, 3) ∧ 56 = 53 + 3 := ⟨by decide +kernel, rfl⟩
theorem dX1_init_56 : decode cX1_init 56 = .ok (.aload_n 0, 1) ∧ 57 = 56 + 1 := ⟨by decide +kernel, rfl⟩
theorem dX1_init_57 : decode cX1_init 57 = .ok (.bipush 6, 2) ∧ 59 = 57 + 2 := ⟨by decide +kernel, rfl⟩
theorem dX1_init_59 : decode cX1_init 59 = .ok (.newarray .int, 2) ∧ 61 = 59 + 2 := ⟨by decide +kernel, rfl⟩
theorem dX1_init_61 : decode cX1_init 61 = .ok (.putfield 37, 3) ∧ 64 = 61 + 3 := ⟨by decide +kernel, rfl⟩
theorem dX1_init_64 : decode cX1_init 64 = .ok (.aload_n 0, 1) ∧ 65 = 64 + 1 := ⟨by decide +kernel, rfl⟩
theorem dX1_init_65 : decode cX1_init 65 = .ok (.bipush 6, 2) ∧ 67 = 65 + 2 := ⟨by decide +kernel, rfl⟩
theorem dX1_init_67 : decode cX1_init 67 = .ok (.newarray .int, 2) ∧ 69 = 67 + 2 := ⟨by decide +kernel, rfl⟩
theorem dX1_init_69 : decode cX1_init 69 = .ok (.putfield 40, 3) ∧ 72 = 69 + 3 := ⟨by decide +kernel, rfl⟩
theorem dX1_init_72 : decode cX1_init 72 = .ok (.aload_n 0, 1) ∧ 73 = 72 + 1 := ⟨by decide +kernel, rfl⟩
theorem dX1_init_73 : decode cX1_init 73 = .ok (.bipush 6, 2) ∧ 75 = 73 + 2 := ⟨by decide +kernel, rfl⟩
theorem dX1_init_75 : decode cX1_init 75 = .ok (.newarray .int, 2) ∧ 77 = 75 + 2 := ⟨by decide +kernel, rfl⟩
theorem dX1_init_77 : decode cX1_init 77 = .ok (.putfield 43, 3) ∧ 80 = 77 + 3 := ⟨by decide +kernel, rfl⟩
theorem dX1_init_80 : decode cX1_init 80 = .ok (.aload_n 0, 1) ∧ 81 = 80 + 1 := ⟨by decide +kernel, rfl⟩
theorem dX1_init_81 : decode cX1_init 81 = .ok (.bipush 6, 2) ∧ 83 = 81 + 2 := ⟨by decide +kernel, rfl⟩
theorem dX1_init_83 : decode cX1_init 83 = .ok (.newarray .int, 2) ∧ 85 = 83 + 2 := ⟨by decide +kernel, rfl⟩
theorem dX1_init_85 : decode cX1_init 85 = .ok (.putfield 46, 3) ∧ 88 = 85 + 3 := ⟨by decide +kernel, rfl⟩
theorem dX1_init_88 : decode cX1_init 88 = .ok (.aload_n 0, 1) ∧ 89 = 88 + 1 := ⟨by decide +kernel, rfl⟩
theorem dX1_init_89 : decode cX1_init 89 = .ok (.bipush 6, 2) ∧ 91 = 89 + 2 := ⟨by decide +kernel, rfl⟩
theorem dX1_init_91 : decode cX1_init 91 = .ok (.newarray .int, 2) ∧ 93 = 91 + 2 := ⟨by decide +kernel, rfl⟩
theorem dX1_init_93 : decode cX1_init 93 = .ok (.putfield 49, 3) ∧ 96 = 93 + 3 := ⟨by decide +kernel, rfl⟩
theorem dX1_init_96 : decode cX1_init 96 = .ok (.aload_n 0, 1) ∧ 97 = 96 + 1 := ⟨by decide +kernel, rfl⟩
theorem dX1_init_97 : decode cX1_init 97 = .ok (.bipush 10, 2) ∧ 99 = 97 + 2 := ⟨by decide +kernel, rfl⟩
theorem dX1_init_99 : decode cX1_init 99 = .ok (.newarray .int, 2) ∧ 101 = 99 + 2 := ⟨by decide +kernel, rfl⟩
theorem dX1_init_101 : decode cX1_init 101 = .ok (.putfield 52, 3) ∧ 104 = 101 + 3 := ⟨by decide +kernel, rfl⟩
theorem dX1_init_104 : decode cX1_init 104 = .ok (.aload_n 0, 1) ∧ 105 = 104 + 1 := ⟨by decide +kernel, rfl⟩
theorem dX1_init_105 : decode cX1_init 105 = .ok (.bipush 10, 2) ∧ 107 = 105 + 2 := ⟨by decide +kernel, rfl⟩
theorem dX1_init_107 : decode cX1_init 107 = .ok (.newarray .int, 2) ∧ 109 = 107 + 2 := ⟨by decide +kernel, rfl⟩
theorem dX1_init_109 : decode cX1_init 109 = .ok (.putfield 55, 3) ∧ 112 = 109 + 3 := ⟨by decide +kernel, rfl⟩
theorem dX1_init_112 : decode cX1_init 112 = .ok (.aload_n 0, 1) ∧ 113 = 112 + 1 := ⟨by decide +kernel, rfl⟩
theorem dX1_init_113 : decode cX1_init 113 = .ok (.bipush 10, 2) ∧ 115 = 113 + 2 := ⟨by decide +kernel, rfl⟩
theorem dX1_init_115 : decode cX1_init 115 = .ok (.newarray .int, 2) ∧ 117 = 115 + 2 := ⟨by decide +kernel, rfl⟩
theorem dX1_init_117 : decode cX1_init 117 = .ok (.putfield 58, 3) ∧ 120 = 117 + 3 := ⟨by decide +kernel, rfl⟩
theorem dX1_init_120 : decode cX1_init 120 = .ok (.aload_n 0, 1) ∧ 121 = 120 + 1 := ⟨by decide +kernel, rfl⟩
theorem dX1_init_121 : decode cX1_init 121 = .ok (.bipush 10, 2) ∧ 123 = 121 + 2 := ⟨by decide +kernel, rfl⟩
theorem dX1_init_123 : decode cX1_init 123 = .ok (.newarray .int, 2) ∧ 125 = 123 + 2 := ⟨by decide +kernel, rfl⟩
theorem dX1_init_125 : decode cX1_init 125 = .ok (.putfield 61, 3) ∧ 128 = 125 + 3 := ⟨by decide +kernel, rfl⟩
theorem dX1_init_128 : decode cX1_init 128 = .ok (.aload_n 0, 1) ∧ 129 = 128 + 1 := ⟨by decide +kernel, rfl⟩
theorem dX1_init_129 : decode cX1_init 129 = .ok (.bipush 24, 2) ∧ 131 = 129 + 2 := ⟨by decide +kernel, rfl⟩
theorem dX1_init_131 : decode cX1_init 131 = .ok (.newarray .int, 2) ∧ 133 = 131 + 2 := ⟨by decide +kernel, rfl⟩
theorem dX1_init_133 : decode cX1_init 133 = .ok (.putfield 64, 3) ∧ 136 = 133 + 3 := ⟨by decide +kernel, rfl⟩
theorem dX1_init_136 : decode cX1_init 136 = .ok (.aload_n 0, 1) ∧ 137 = 136 + 1 := ⟨by decide +kernel, rfl⟩
theorem dX1_init_137 : decode cX1_init 137 = .ok (.bipush 24, 2) ∧ 139 = 137 + 2 := ⟨by decide +kernel, rfl⟩
theorem dX1_init_139 : decode cX1_init 139 = .ok (.newarray .int, 2) ∧ 141 = 139 + 2 := ⟨by decide +kernel, rfl⟩
theorem dX1_init_141 : decode cX1_init 141 = .ok (.putfield 67, 3) ∧ 144 = 141 + 3 := ⟨by decide +kernel, rfl⟩
theorem dX1_init_144 : decode cX1_init 144 = .ok (.return_, 1) ∧ 145 = 144 + 1 := ⟨by decide +kernel, rfl⟩
theorem dX1_clear_0 : decode cX1_clear 0 = .ok (.aload_n 0, 1) ∧ 1 = 0 + 1 := ⟨by decide +kernel, rfl⟩
theorem dX1_clear_1 : decode cX1_clear 1 = .ok (.iconst 0, 1) ∧ 2 = 1 + 1 := ⟨by decide +kernel, rfl⟩
theorem dX1_clear_2 : decode cX1_clear 2 = .ok (.putfield 9, 3) ∧ 5 = 2 + 3 := ⟨by decide +kernel, rfl⟩
theorem dX1_clear_5 : decode cX1_clear 5 = .ok (.aload_n 0, 1) ∧ 6 = 5 + 1 := ⟨by decide +kernel, rfl⟩
theorem dX1_clear_6 : decode cX1_clear 6 = .ok (.iconst 0, 1) ∧ 7 = 6 + 1 := ⟨by decide +kernel, rfl⟩
theorem dX1_clear_7 : decode cX1_clear 7 = .ok (.putfield 15, 3) ∧ 10 = 7 + 3 := ⟨by decide +kernel, rfl⟩
theorem dX1_clear_10 : decode cX1_clear 10 = .ok (.aload_n 0, 1) ∧ 11 = 10 + 1 := ⟨by decide +kernel, rfl⟩
theorem dX1_clear_11 : decode cX1_clear 11 = .ok (.iconst 0, 1) ∧ 12 = 11 + 1 := ⟨by decide +kernel, rfl⟩
theorem dX1_clear_12 : decode cX1_clear 12 = .ok (.putfield 18, 3) ∧ 15 = 12 + 3 := ⟨by decide +kernel, rfl⟩
theorem dX1_clear_15 : decode cX1_clear 15 = .ok (.aload_n 0, 1) ∧ 16 = 15 + 1 := ⟨by decide +kernel, rfl⟩
theorem dX1_clear_16 : decode cX1_clear 16 = .ok (.iconst 0, 1) ∧ 17 = 16 + 1 := ⟨by decide +kernel, rfl⟩
theorem dX1_clear_17 : decode cX1_clear 17 = .ok (.putfield 21, 3) ∧ 20 = 17 + 3 := ⟨by decide +kernel, rfl⟩
theorem dX1_clear_20 : decode cX1_clear 20 = .ok (.return_, 1) ∧ 21 = 20 + 1 := ⟨by decide +kernel, rfl⟩
theorem dX1_copyFrom_0 : decode cX1_copyFrom 0 = .ok (.aload_n 0, 1) ∧ 1 = 0 + 1 := ⟨by decide +kernel, rfl⟩
theorem dX1_copyFrom_1 : decode cX1_copyFrom 1 = .ok (.aload_n 1, 1) ∧ 2 = 1 + 1 := ⟨by decide +kernel, rfl⟩
theorem dX1_copyFrom_2 : decode cX1_copyFrom 2 = .ok (.getfield 9, 3) ∧ 5 = 2 + 3 := ⟨by decide +kernel, rfl⟩
theorem dX1_copyFrom_5 : decode cX1_copyFrom 5 = .ok (.putfield 9, 3) ∧ 8 = 5 + 3 := ⟨by decide +kernel, rfl⟩
theorem dX1_copyFrom_8 : decode cX1_copyFrom 8 = .ok (.aload_n 0, 1) ∧ 9 = 8 + 1 := ⟨by decide +kernel, rfl⟩
theorem dX1_copyFrom_9 : decode cX1_copyFrom 9 = .ok (.aload_n 1, 1) ∧ 10 = 9 + 1 := ⟨by decide +kernel, rfl⟩
theorem dX1_copyFrom_10 : decode cX1_copyFrom 10 = .ok (.getfield 15, 3) ∧ 13 = 10 + 3 := ⟨by decide +kernel, rfl⟩
theorem dX1_copyFrom_13 : decode cX1_copyFrom 13 = .ok (.putfield 15, 3) ∧ 16 = 13 + 3 := ⟨by decide +kernel, rfl⟩
theorem dX1_copyFrom_16 : decode cX1_copyFrom 16 = .ok (.aload_n 0, 1) ∧ 17 = 16 + 1 := ⟨by decide +kernel, rfl⟩
theorem dX1_copyFrom_17 : decode cX1_copyFrom 17 = .ok (.aload_n 1, 1) ∧ 18 = 17 + 1 := ⟨by decide +kernel, rfl⟩
theorem dX1_copyFrom_18 : decode cX1_copyFrom 18 = .ok (.getfield 18, 3) ∧ 21 = 18 + 3 := ⟨by decide +kernel, rfl⟩
theorem dX1_copyFrom_21 : decode cX1_copyFrom 21 = .ok (.putfield 18, 3) ∧ 24 = 21 + 3 := ⟨by decide +kernel, rfl⟩
theorem dX1_copyFrom_24 : decode cX1_copyFrom 24 = .ok (.aload_n 0, 1) ∧ 25 = 24 + 1 := ⟨by decide +kernel, rfl⟩
theorem dX1_copyFrom_25 : decode cX1_copyFrom 25 = .ok (.aload_n 1, 1) ∧ 26 = 25 + 1 := ⟨by decide +kernel, rfl⟩
theorem dX1_copyFrom_26 : decode cX1_copyFrom 26 = .ok (.getfield 21, 3) ∧ 29 = 26 + 3 := ⟨by decide +kernel, rfl⟩
theorem dX1_copyFrom_29 : decode cX1_copyFrom 29 = .ok (.putfield 21, 3) ∧ 32 = 29 + 3 := ⟨by decide +kernel, rfl⟩
theorem dX1_copyFrom_32 : decode cX1_copyFrom 32 = .ok (.aload_n 1, 1) ∧ 33 = 32 + 1 := ⟨by decide +kernel, rfl⟩
theorem dX1_copyFrom_33 : decode cX1_copyFrom 33 = .ok (.getfield 24, 3) ∧ 36 = 33 + 3 := ⟨by decide +kernel, rfl⟩
theorem dX1_copyFrom_36 : decode cX1_copyFrom 36 = .ok (.iconst 0, 1) ∧ 37 = 36 + 1 := ⟨by decide +kernel, rfl⟩
theorem dX1_copyFrom_37 : decode cX1_copyFrom 37 = .ok (.aload_n 0, 1) ∧ 38 = 37 + 1 := ⟨by decide +kernel, rfl⟩
theorem dX1_copyFrom_38 : decode cX1_copyFrom 38 = .ok (.getfield 24, 3) ∧ 41 = 38 + 3 := ⟨by decide +kernel, rfl⟩
theorem dX1_copyFrom_41 : decode cX1_copyFrom 41 = .ok (.iconst 0, 1) ∧ 42 = 41 + 1 := ⟨by decide +kernel, rfl⟩
theorem dX1_copyFrom_42 : decode cX1_copyFrom 42 = .ok (.bipush 8, 2) ∧ 44 = 42 + 2 := ⟨by decide +kernel, rfl⟩
theorem dX1_copyFrom_44 : decode cX1_copyFrom 44 = .ok (.invokestatic 70, 3) ∧ 47 = 44 + 3 := ⟨by decide +kernel, rfl⟩
theorem dX1_copyFrom_47 : decode cX1_copyFrom 47 = .ok (.aload_n 1, 1) ∧ 48 = 47 + 1 := ⟨by decide +kernel, rfl⟩
theorem dX1_copyFrom_48 : decode cX1_copyFrom 48 = .ok (.getfield 28, 3) ∧ 51 = 48 + 3 := ⟨by decide +kernel, rfl⟩
theorem dX1_copyFrom_51 : decode cX1_copyFrom 51 = .ok (.iconst 0, 1) ∧ 52 = 51 + 1 := ⟨by decide +kernel, rfl⟩
theorem dX1_copyFrom_52 : decode cX1_copyFrom 52 = .ok (.aload_n 0, 1) ∧ 53 = 52 + 1 := ⟨by decide +kernel, rfl⟩
theorem dX1_copyFrom_53 : decode cX1_copyFrom 53 = .ok (.getfield 28, 3) ∧ 56 = 53 + 3 := ⟨by decide +kernel, rfl⟩
theorem dX1_copyFrom_56 : decode cX1_copyFrom 56 = .ok (.iconst 0, 1) ∧ 57 = 56 + 1 := ⟨by decide +kernel, rfl⟩
theorem dX1_copyFrom_57 : decode cX1_copyFrom 57 = .ok (.bipush 8, 2) ∧ 59 = 57 + 2 := ⟨by decide +kernel, rfl⟩
theorem dX1_copyFrom_59 : decode cX1_copyFrom 59 = .ok (.invokestatic 70, 3) ∧ 62 = 59 + 3 := ⟨by decide +kernel, rfl⟩
theorem dX1_copyFrom_62 : decode cX1_copyFrom 62 = .ok (.aload_n 1, 1) ∧ 63 = 62 + 1 := ⟨by decide +kernel, rfl⟩
theorem dX1_copyFrom_63 : decode cX1_copyFrom 63 = .ok (.getfield 31, 3) ∧ 66 = 63 + 3 := ⟨by decide +kernel, rfl⟩
theorem dX1_copyFrom_66 : decode cX1_copyFrom 66 = .ok (.iconst 0, 1) ∧ 67 = 66 + 1 := ⟨by decide +kernel, rfl⟩
theorem dX1_copyFrom_67 : decode cX1_copyFrom 67 = .ok (.aload_n 0, 1) ∧ 68 = 67 + 1 := ⟨by decide +kernel, rfl⟩
theorem dX1_copyFrom_68 : decode cX1_copyFrom 68 = .ok (.getfield 31, 3) ∧ 71 = 68 + 3 := ⟨by decide +kernel, rfl⟩
theorem dX1_copyFrom_71 : decode cX1_copyFrom 71 = .ok (.iconst 0, 1) ∧ 72 = 71 + 1 := ⟨by decide +kernel, rfl⟩
theorem dX1_copyFrom_72 : decode cX1_copyFrom 72 = .ok (.bipush 8, 2) ∧ 74 = 72 + 2 := ⟨by decide +kernel, rfl⟩
theorem dX1_copyFrom_74 : decode cX1_copyFrom 74 = .ok (.invokestatic 70, 3) ∧ 77 = 74 + 3 := ⟨by decide +kernel, rfl⟩
theorem dX1_copyFrom_77 : decode cX1_copyFrom 77 = .ok (.aload_n 1, 1) ∧ 78 = 77 + 1 := ⟨by decide +kernel, rfl⟩
theorem dX1_copyFrom_78 : decode cX1_copyFrom 78 = .ok (.getfield 34, 3) ∧ 81 = 78 + 3 := ⟨by decide +kernel, rfl⟩
theorem dX1_copyFrom_81 : decode cX1_copyFrom 81 = .ok (.iconst 0, 1) ∧ 82 = 81 + 1 := ⟨by decide +kernel, rfl⟩
theorem dX1_copyFrom_82 : decode cX1_copyFrom 82 = .ok (.aload_n 0, 1) ∧ 83 = 82 + 1 := ⟨by decide +kernel, rfl⟩
theorem dX1_copyFrom_83 : decode cX1_copyFrom 83 = .ok (.getfield 34, 3) ∧ 86 = 83 + 3 := ⟨by decide +kernel, rfl⟩
theorem dX1_copyFrom_86 : decode cX1_copyFrom 86 = .ok (.iconst 0, 1) ∧ 87 = 86 + 1 := ⟨by decide +kernel, rfl⟩
theorem dX1_copyFrom_87 : decode cX1_copyFrom 87 = .ok (.bipush 6, 2) ∧ 89 = 87 + 2 := ⟨by decide +kernel, rfl⟩
theorem dX1_copyFrom_89 : decode cX1_copyFrom 89 = .ok (.invokestatic 70, 3) ∧ 92 = 89 + 3 := ⟨by decide +kernel, rfl⟩
theorem dX1_copyFrom_92 : decode cX1_copyFrom 92 = .ok (.aload_n 1, 1) ∧ 93 = 92 + 1 := ⟨by decide +kernel, rfl⟩
theorem dX1_copyFrom_93 : decode cX1_copyFrom 93 = .ok (.getfield 37, 3) ∧ 96 = 93 + 3 := ⟨by decide +kernel, rfl⟩
theorem dX1_copyFrom_96 : decode cX1_copyFrom 96 = .ok (.iconst 0, 1) ∧ 97 = 96 + 1 := ⟨by decide +kernel, rfl⟩
theorem dX1_copyFrom_97 : decode cX1_copyFrom 97 = .ok (.aload_n 0, 1) ∧ 98 = 97 + 1 := ⟨by decide +kernel, rfl⟩
theorem dX1_copyFrom_98 : decode cX1_copyFrom 98 = .ok (.getfield 37, 3) ∧ 101 = 98 + 3 := ⟨by decide +kernel, rfl⟩
theorem dX1_copyFrom_101 : decode cX1_copyFrom 101 = .ok (.iconst 0, 1) ∧ 102 = 101 + 1 := ⟨by decide +kernel, rfl⟩
theorem dX1_copyFrom_102 : decode cX1_copyFrom 102 = .ok (.bipush 6, 2) ∧ 104 = 102 + 2 := ⟨by decide +kernel, rfl⟩
theorem dX1_copyFrom_104 : decode cX1_copyFrom 104 = .ok (.invokestatic 70, 3) ∧ 107 = 104 + 3 := ⟨by decide +kernel, rfl⟩
theorem dX1_copyFrom_107 : decode cX1_copyFrom 107 = .ok (.aload_n 1, 1) ∧ 108 = 107 + 1 := ⟨by decide +kernel, rfl⟩
theorem dX1_copyFrom_108 : decode cX1_copyFrom 108 = .ok (.getfield 40, 3) ∧ 111 = 108 + 3 := ⟨by decide +kernel, rfl⟩
theorem dX1_copyFrom_111 : decode cX1_copyFrom 111 = .ok (.iconst 0, 1) ∧ 112 = 111 + 1 := ⟨by decide +kernel, rfl⟩
theorem dX1_copyFrom_112 : decode cX1_copyFrom 112 = .ok (.aload_n 0, 1) ∧ 113 = 112 + 1 := ⟨by decide +kernel, rfl⟩
theorem dX1_copyFrom_113 : decode cX1_copyFrom 113 = .ok (.getfield 40, 3) ∧ 116 = 113 + 3 := ⟨by decide +kernel, rfl⟩
theorem dX1_copyFrom_116 : decode cX1_copyFrom 116 = .ok (.iconst 0, 1) ∧ 117 = 116 + 1 := ⟨by decide +kernel, rfl⟩
theorem dX1_copyFrom_117 : decode cX1_copyFrom 117 = .ok (.bipush 6, 2) ∧ 119 = 117 + 2 := ⟨by decide +kernel, rfl⟩
theorem dX1_copyFrom_119 : decode cX1_copyFrom 119 = .ok (.invokestatic 70, 3) ∧ 122 = 119 + 3 := ⟨by decide +kernel, rfl⟩
theorem dX1_copyFrom_122 : decode cX1_copyFrom 122 = .ok (.aload_n 1, 1) ∧ 123 = 122 + 1 := ⟨by decide +kernel, rfl⟩
theorem dX1_copyFrom_123 : decode cX1_copyFrom 123 = .ok (.getfield 43, 3) ∧ 126 = 123 + 3 := ⟨by decide +kernel, rfl⟩
theorem dX1_copyFrom_126 : decode cX1_copyFrom 126 = .ok (.iconst 0, 1) ∧ 127 = 126 + 1 := ⟨by decide +kernel, rfl⟩
theorem dX1_copyFrom_127 : decode cX1_copyFrom 127 = .ok (.aload_n 0, 1) ∧ 128 = 127 + 1 := ⟨by decide +kernel, rfl⟩
theorem dX1_copyFrom_128 : decode cX1_copyFrom 128 = .ok (.getfield 43, 3) ∧ 131 = 128 + 3 := ⟨by decide +kernel, rfl⟩
theorem dX1_copyFrom_131 : decode cX1_copyFrom 131 = .ok (.iconst 0, 1) ∧ 132 = 131 + 1 := ⟨by decide +kernel, rfl⟩
theorem dX1_copyFrom_132 : decode cX1_copyFrom 132 = .ok (.bipush 6, 2) ∧ 134 = 132 + 2 := ⟨by decide +kernel, rfl⟩
theorem dX1_copyFrom_134 : decode cX1_copyFrom 134 = .ok (.invokestatic 70, 3) ∧ 137 = 134 + 3 := ⟨by decide +kernel, rfl⟩
theorem dX1_copyFrom_137 : decode cX1_copyFrom 137 = .ok (.aload_n 1, 1) ∧ 138 = 137 + 1 := ⟨by decide +kernel, rfl⟩
theorem dX1_copyFrom_138 : decode cX1_copyFrom 138 = .ok (.getfield 46, 3) ∧ 141 = 138 + 3 := ⟨by decide +kernel, rfl⟩
theorem dX1_copyFrom_141 : decode cX1_copyFrom 141 = .ok (.iconst 0, 1) ∧ 142 = 141 + 1 := ⟨by decide +kernel, rfl⟩
theorem dX1_copyFrom_142 : decode cX1_copyFrom 142 = .ok (.aload_n 0, 1) ∧ 143 = 142 + 1 := ⟨by decide +kernel, rfl⟩
theorem dX1_copyFrom_143 : decode cX1_copyFrom 143 = .ok (.getfield 46, 3) ∧ 146 = 143 + 3 := ⟨by decide +kernel, rfl⟩
theorem dX1_copyFrom_146 : decode cX1_copyFrom 146 = .ok (.iconst 0, 1) ∧ 147 = 146 + 1 := ⟨by decide +kernel, rfl⟩
theorem dX1_copyFrom_147 : decode cX1_copyFrom 147 = .ok (.bipush 6, 2) ∧ 149 = 147 + 2 := ⟨by decide +kernel, rfl⟩
theorem dX1_copyFrom_149 : decode cX1_copyFrom 149 = .ok (.invokestatic 70, 3) ∧ 152 = 149 + 3 := ⟨by decide +kernel, rfl⟩
theorem dX1_copyFrom_152 : decode cX1_copyFrom 152 = .ok (.aload_n 1, 1) ∧ 153 = 152 + 1 := ⟨by decide +kernel, rfl⟩
theorem dX1_copyFrom_153 : decode cX1_copyFrom 153 = .ok (.getfield 49, 3) ∧ 156 = 153 + 3 := ⟨by decide +kernel, rfl⟩
theorem dX1_copyFrom_156 : decode cX1_copyFrom 156 = .ok (.iconst 0, 1) ∧ 157 = 156 + 1 := ⟨by decide +kernel, rfl⟩
theorem dX1_copyFrom_157 : decode cX1_copyFrom 157 = .ok (.aload_n 0, 1) ∧ 158 = 157 + 1 := ⟨by decide +kernel, rfl⟩
theorem dX1_copyFrom_158 : decode cX1_copyFrom 158 = .ok (.getfield 49, 3) ∧ 161 = 158 + 3 := ⟨by decide +kernel, rfl⟩
theorem dX1_copyFrom_161 : decode cX1_copyFrom 161 = .ok (.iconst 0, 1) ∧ 162 = 161 + 1 := ⟨by decide +kernel, rfl⟩
theorem dX1_copyFrom_162 : decode cX1_copyFrom 162 = .ok (.bipush 6, 2) ∧ 164 = 162 + 2 := ⟨by decide +kernel, rfl⟩
theorem dX1_copyFrom_164 : decode cX1_copyFrom 164 = .ok (.invokestatic 70, 3) ∧ 167 = 164 + 3 := ⟨by decide +kernel, rfl⟩
theorem dX1_copyFrom_167 : decode cX1_copyFrom 167 = .ok (.aload_n 1, 1) ∧ 168 = 167 + 1 := ⟨by decide +kernel, rfl⟩
theorem dX1_copyFrom_168 : decode cX1_copyFrom 168 = .ok (.getfield 52, 3) ∧ 171 = 168 + 3 := ⟨by decide +kernel, rfl⟩
theorem dX1_copyFrom_171 : decode cX1_copyFrom 171 = .ok (.iconst 0, 1) ∧ 172 = 171 + 1 := ⟨by decide +kernel, rfl⟩
theorem dX1_copyFrom_172 : decode cX1_copyFrom 172 = .ok (.aload_n 0, 1) ∧ 173 = 172 + 1 := ⟨by decide +kernel, rfl⟩
theorem dX1_copyFrom_173 : decode cX1_copyFrom 173 = .ok (.getfield 52, 3) ∧ 176 = 173 + 3 := ⟨by decide +kernel, rfl⟩
theorem dX1_copyFrom_176 : decode cX1_copyFrom 176 = .ok (.iconst 0, 1) ∧ 177 = 176 + 1 := ⟨by decide +kernel, rfl⟩
theorem dX1_copyFrom_177 : decode cX1_copyFrom 177 = .ok (.bipush 10, 2) ∧ 179 = 177 + 2 := ⟨by decide +kernel, rfl⟩
theorem dX1_copyFrom_179 : decode cX1_copyFrom 179 = .ok (.invokestatic 70, 3) ∧ 182 = 179 + 3 := ⟨by decide +kernel, rfl⟩
theorem dX1_copyFrom_182 : decode cX1_copyFrom 182 = .ok (.aload_n 1, 1) ∧ 183 = 182 + 1 := ⟨by decide +kernel, rfl⟩
theorem dX1_copyFrom_183 : decode cX1_copyFrom 183 = .ok (.getfield 55, 3) ∧ 186 = 183 + 3 := ⟨by decide +kernel, rfl⟩
theorem dX1_copyFrom_186 : decode cX1_copyFrom 186 = .ok (.iconst 0, 1) ∧ 187 = 186 + 1 := ⟨by decide +kernel, rfl⟩
theorem dX1_copyFrom_187 : decode cX1_copyFrom 187 = .ok (.aload_n 0, 1) ∧ 188 = 187 + 1 := ⟨by decide +kernel, rfl⟩
theorem dX1_copyFrom_188 : decode cX1_copyFrom 188 = .ok (.getfield 55, 3) ∧ 191 = 188 + 3 := ⟨by decide +kernel, rfl⟩
theorem dX1_copyFrom_191 : decode cX1_copyFrom 191 = .ok (.iconst 0, 1) ∧ 192 = 191 + 1 := ⟨by decide +kernel, rfl⟩
theorem dX1_copyFrom_192 : decode cX1_copyFrom 192 = .ok (.bipush 10, 2) ∧ 194 = 192 + 2 := ⟨by decide +kernel, rfl⟩
theorem dX1_copyFrom_194 : decode cX1_copyFrom 194 = .ok (.invokestatic 70, 3) ∧ 197 = 194 + 3 := ⟨by decide +kernel, rfl⟩
theorem dX1_copyFrom_197 : decode cX1_copyFrom 197 = .ok (.aload_n 1, 1) ∧ 198 = 197 + 1 := ⟨by decide +kernel, rfl⟩
theorem dX1_copyFrom_198 : decode cX1_copyFrom 198 = .ok (.getfield 58, 3) ∧ 201 = 198 + 3 := ⟨by decide +kernel, rfl⟩
theorem dX1_copyFrom_201 : decode cX1_copyFrom 201 = .ok (.iconst 0, 1) ∧ 202 = 201 + 1 := ⟨by decide +kernel, rfl⟩
theorem dX1_copyFrom_202 : decode cX1_copyFrom 202 = .ok (.aload_n 0, 1) ∧ 203 = 202 + 1 := ⟨by decide +kernel, rfl⟩
theorem dX1_copyFrom_203 : decode cX1_copyFrom 203 = .ok (.getfield 58, 3) ∧ 206 = 203 + 3 := ⟨by decide +kernel, rfl⟩
theorem dX1_copyFrom_206 : decode cX1_copyFrom 206 = .ok (.iconst 0, 1) ∧ 207 = 206 + 1 := ⟨by decide +kernel, rfl⟩
theorem dX1_copyFrom_207 : decode cX1_copyFrom 207 = .ok (.bipush 10, 2) ∧ 209 = 207 + 2 := ⟨by decide +kernel, rfl⟩
theorem dX1_copyFrom_209 : decode cX1_copyFrom 209 = .ok (.invokestatic 70, 3) ∧ 212 = 209 + 3 := ⟨by decide +kernel, rfl⟩
theorem dX1_copyFrom_212 : decode cX1_copyFrom 212 = .ok (.aload_n 1, 1) ∧ 213 = 212 + 1 := ⟨by decide +kernel, rfl⟩
theorem dX1_copyFrom_213 : decode cX1_copyFrom 213 = .ok (.getfield 61, 3) ∧ 216 = 213 + 3 := ⟨by decide +kernel, rfl⟩
theorem dX1_copyFrom_216 : decode cX1_copyFrom 216 = .ok (.iconst 0, 1) ∧ 217 = 216 + 1 := ⟨by decide +kernel, rfl⟩
theorem dX1_copyFrom_217 : decode cX1_copyFrom 217 = .ok (.aload_n 0, 1) ∧ 218 = 217 + 1 := ⟨by decide +kernel, rfl⟩
theorem dX1_copyFrom_218 : decode cX1_copyFrom 218 = .ok (.getfield 61, 3) ∧ 221 = 218 + 3 := ⟨by decide +kernel, rfl⟩
theorem dX1_copyFrom_221 : decode cX1_copyFrom 221 = .ok (.iconst 0, 1) ∧ 222 = 221 + 1 := ⟨by decide +kernel, rfl⟩
theorem dX1_copyFrom_222 : decode cX1_copyFrom 222 = .ok (.bipush 10, 2) ∧ 224 = 222 + 2 := ⟨by decide +kernel, rfl⟩
theorem dX1_copyFrom_224 : decode cX1_copyFrom 224 = .ok (.invokestatic 70, 3) ∧ 227 = 224 + 3 := ⟨by decide +kernel, rfl⟩
theorem dX1_copyFrom_227 : decode cX1_copyFrom 227 = .ok (.aload_n 1, 1) ∧ 228 = 227 + 1 := ⟨by decide +kernel, rfl⟩
theorem dX1_copyFrom_228 : decode cX1_copyFrom 228 = .ok (.getfield 64, 3) ∧ 231 = 228 + 3 := ⟨by decide +kernel, rfl⟩
theorem dX1_copyFrom_231 : decode cX1_copyFrom 231 = .ok (.iconst 0, 1) ∧ 232 = 231 + 1 := ⟨by decide +kernel, rfl⟩
theorem dX1_copyFrom_232 : decode cX1_copyFrom 232 = .ok (.aload_n 0, 1) ∧ 233 = 232 + 1 := ⟨by decide +kernel, rfl⟩
theorem dX1_copyFrom_233 : decode cX1_copyFrom 233 = .ok (.getfield 64, 3) ∧ 236 = 233 + 3 := ⟨by decide +kernel, rfl⟩
theorem dX1_copyFrom_236 : decode cX1_copyFrom 236 = .ok (.iconst 0, 1) ∧ 237 = 236 + 1 := ⟨by decide +kernel, rfl⟩
theorem dX1_copyFrom_237 : decode cX1_copyFrom 237 = .ok (.bipush 24, 2) ∧ 239 = 237 + 2 := ⟨by decide +kernel, rfl⟩
theorem dX1_copyFrom_239 : decode cX1_copyFrom 239 = .ok (.invokestatic 70, 3) ∧ 242 = 239 + 3 := ⟨by decide +kernel, rfl⟩
theorem dX1_copyFrom_242 : decode cX1_copyFrom 242 = .ok (.aload_n 1, 1) ∧ 243 = 242 + 1 := ⟨by decide +kernel, rfl⟩
theorem dX1_copyFrom_243 : decode cX1_copyFrom 243 = .ok (.getfield 67, 3) ∧ 246 = 243 + 3 := ⟨by decide +kernel, rfl⟩
theorem dX1_copyFrom_246 : decode cX1_copyFrom 246 = .ok (.iconst 0, 1) ∧ 247 = 246 + 1 := ⟨by decide +kernel, rfl⟩
theorem dX1_copyFrom_247 : decode cX1_copyFrom 247 = .ok (.aload_n 0, 1) ∧ 248 = 247 + 1 := ⟨by decide +kernel, rfl⟩
theorem dX1_copyFrom_248 : decode cX1_copyFrom 248 = .ok (.getfield 67, 3) ∧ 251 = 248 + 3 := ⟨by decide +kernel, rfl⟩
theorem dX1_copyFrom_251 : decode cX1_copyFrom 251 = .ok (.iconst 0, 1) ∧ 252 = 251 + 1 := ⟨by decide +kernel, rfl⟩
theorem dX1_copyFrom_252 : decode cX1_copyFrom 252 = .ok (.bipush 24, 2) ∧ 254 = 252 + 2 := ⟨by decide +kernel, rfl⟩
theorem dX1_copyFrom_254 : decode cX1_copyFrom 254 = .ok (.invokestatic 70, 3) ∧ 257 = 254 + 3 := ⟨by decide +kernel, rfl⟩
theorem dX1_copyFrom_257 : decode cX1_copyFrom 257 = .ok (.return_, 1) ∧ 258 = 257 + 1 := ⟨by decide +kernel, rfl⟩
theorem dX1_hasChamber_0 : decode cX1_hasChamber 0 = .ok (.iload_n 1, 1) ∧ 1 = 0 + 1 := ⟨by decide +kernel, rfl⟩
theorem dX1_hasChamber_1 : decode cX1_hasChamber 1 = .ok (.ifCond .lt 15, 3) ∧ 4 = 1 + 3 := ⟨by decide +kernel, rfl⟩
theorem dX1_hasChamber_4 : decode cX1_hasChamber 4 = .ok (.iload_n 1, 1) ∧ 5 = 4 + 1 := ⟨by decide +kernel, rfl⟩
theorem dX1_hasChamber_5 : decode cX1_hasChamber 5 = .ok (.aload_n 0, 1) ∧ 6 = 5 + 1 := ⟨by decide +kernel, rfl⟩
theorem dX1_hasChamber_6 : decode cX1_hasChamber 6 = .ok (.getfield 9, 3) ∧ 9 = 6 + 3 := ⟨by decide +kernel, rfl⟩
theorem dX1_hasChamber_9 : decode cX1_hasChamber 9 = .ok (.if_icmp .ge 7, 3) ∧ 12 = 9 + 3 := ⟨by decide +kernel, rfl⟩
theorem dX1_hasChamber_12 : decode cX1_hasChamber 12 = .ok (.iconst 1, 1) ∧ 13 = 12 + 1 := ⟨by decide +kernel, rfl⟩
theorem dX1_hasChamber_13 : decode cX1_hasChamber 13 = .ok (.goto 4, 3) ∧ 16 = 13 + 3 := ⟨by decide +kernel, rfl⟩
theorem dX1_hasChamber_16 : decode cX1_hasChamber 16 = .ok (.iconst 0, 1) ∧ 17 = 16 + 1 := ⟨by decide +kernel, rfl⟩
theorem dX1_hasChamber_17 : decode cX1_hasChamber 17 = .ok (.ireturn, 1) ∧ 18 = 17 + 1 := ⟨by decide +kernel, rfl⟩
theorem dX1_hasPump_0 : decode cX1_hasPump 0 = .ok (.iload_n 1, 1) ∧ 1 = 0 + 1 := ⟨by decide +kernel, rfl⟩
theorem dX1_hasPump_1 : decode cX1_hasPump 1 = .ok (.ifCond .lt 15, 3) ∧ 4 = 1 + 3 := ⟨by decide +kernel, rfl⟩
theorem dX1_hasPump_4 : decode cX1_hasPump 4 = .ok (.iload_n 1, 1) ∧ 5 = 4 + 1 := ⟨by decide +kernel, rfl⟩
theorem dX1_hasPump_5 : decode cX1_hasPump 5 = .ok (.aload_n 0, 1) ∧ 6 = 5 + 1 := ⟨by decide +kernel, rfl⟩
theorem dX1_hasPump_6 : decode cX1_hasPump 6 = .ok (.getfield 15, 3) ∧ 9 = 6 + 3 := ⟨by decide +kernel, rfl⟩
theorem dX1_hasPump_9 : decode cX1_hasPump 9 = .ok (.if_icmp .ge 7, 3) ∧ 12 = 9 + 3 := ⟨by decide +kernel, rfl⟩
theorem dX1_hasPump_12 : decode cX1_hasPump 12 = .ok (.iconst 1, 1) ∧ 13 = 12 + 1 := ⟨by decide +kernel, rfl⟩
theorem dX1_hasPump_13 : decode cX1_hasPump 13 = .ok (.goto 4, 3) ∧ 16 = 13 + 3 := ⟨by decide +kernel, rfl⟩
theorem dX1_hasPump_16 : decode cX1_hasPump 16 = .ok (.iconst 0, 1) ∧ 17 = 16 + 1 := ⟨by decide +kernel, rfl⟩
theorem dX1_hasPump_17 : decode cX1_hasPump 17 = .ok (.ireturn, 1) ∧ 18 = 17 + 1 := ⟨by decide +kernel, rfl⟩
theorem dX1_hasValve_0 : decode cX1_hasValve 0 = .ok (.iload_n 1, 1) ∧ 1 = 0 + 1 := ⟨by decide +kernel, rfl⟩
theorem dX1_hasValve_1 : decode cX1_hasValve 1 = .ok (.ifCond .lt 15, 3) ∧ 4 = 1 + 3 := ⟨by decide +kernel, rfl⟩
theorem dX1_hasValve_4 : decode cX1_hasValve 4 = .ok (.iload_n 1, 1) ∧ 5 = 4 + 1 := ⟨by decide +kernel, rfl⟩
theorem dX1_hasValve_5 : decode cX1_hasValve 5 = .ok (.aload_n 0, 1) ∧ 6 = 5 + 1 := ⟨by decide +kernel, rfl⟩
theorem dX1_hasValve_6 : decode cX1_hasValve 6 = .ok (.getfield 18, 3) ∧ 9 = 6 + 3 := ⟨by decide +kernel, rfl⟩
theorem dX1_hasValve_9 : decode cX1_hasValve 9 = .ok (.if_icmp .ge 7, 3) ∧ 12 = 9 + 3 := ⟨by decide +kernel, rfl⟩
theorem dX1_hasValve_12 : decode cX1_hasValve 12 = .ok (.iconst 1, 1) ∧ 13 = 12 + 1 := ⟨by decide +kernel, rfl⟩
theorem dX1_hasValve_13 : decode cX1_hasValve 13 = .ok (.goto 4, 3) ∧ 16 = 13 + 3 := ⟨by decide +kernel, rfl⟩
theorem dX1_hasValve_16 : decode cX1_hasValve 16 = .ok (.iconst 0, 1) ∧ 17 = 16 + 1 := ⟨by decide +kernel, rfl⟩
theorem dX1_hasValve_17 : decode cX1_hasValve 17 = .ok (.ireturn, 1) ∧ 18 = 17 + 1 := ⟨by decide +kernel, rfl⟩
theorem dX1_hasFlange_0 : decode cX1_hasFlange 0 = .ok (.iload_n 1, 1) ∧ 1 = 0 + 1 := ⟨by decide +kernel, rfl⟩
theorem dX1_hasFlange_1 : decode cX1_hasFlange 1 = .ok (.ifCond .lt 15, 3) ∧ 4 = 1 + 3 := ⟨by decide +kernel, rfl⟩
theorem dX1_hasFlange_4 : decode cX1_hasFlange 4 = .ok (.iload_n 1, 1) ∧ 5 = 4 + 1 := ⟨by decide +kernel, rfl⟩
theorem dX1_hasFlange_5 : decode cX1_hasFlange 5 = .ok (.aload_n 0, 1) ∧ 6 = 5 + 1 := ⟨by decide +kernel, rfl⟩
theorem dX1_hasFlange_6 : decode cX1_hasFlange 6 = .ok (.getfield 21, 3) ∧ 9 = 6 + 3 := ⟨by decide +kernel, rfl⟩
theorem dX1_hasFlange_9 : decode cX1_hasFlange 9 = .ok (.if_icmp .ge 7, 3) ∧ 12 = 9 + 3 := ⟨by decide +kernel, rfl⟩
theorem dX1_hasFlange_12 : decode cX1_hasFlange 12 = .ok (.iconst 1, 1) ∧ 13 = 12 + 1 := ⟨by decide +kernel, rfl⟩
theorem dX1_hasFlange_13 : decode cX1_hasFlange 13 = .ok (.goto 4, 3) ∧ 16 = 13 + 3 := ⟨by decide +kernel, rfl⟩
theorem dX1_hasFlange_16 : decode cX1_hasFlange 16 = .ok (.iconst 0, 1) ∧ 17 = 16 + 1 := ⟨by decide +kernel, rfl⟩
theorem dX1_hasFlange_17 : decode cX1_hasFlange 17 = .ok (.ireturn, 1) ∧ 18 = 17 + 1 := ⟨by decide +kernel, rfl⟩
theorem dX1_allValves_0 : decode cX1_allValves 0 = .ok (.iconst 1, 1) ∧ 1 = 0 + 1 := ⟨by decide +kernel, rfl⟩
theorem dX1_allValves_1 : decode cX1_allValves 1 = .ok (.aload_n 0, 1) ∧ 2 = 1 + 1 := ⟨by decide +kernel, rfl⟩
theorem dX1_allValves_2 : decode cX1_allValves 2 = .ok (.getfield 18, 3) ∧ 5 = 2 + 3 := ⟨by decide +kernel, rfl⟩
theorem dX1_allValves_5 : decode cX1_allValves 5 = .ok (.ishl, 1) ∧ 6 = 5 + 1 := ⟨by decide +kernel, rfl⟩
theorem dX1_allValves_6 : decode cX1_allValves 6 = .ok (.iconst 1, 1) ∧ 7 = 6 + 1 := ⟨by decide +kernel, rfl⟩
theorem dX1_allValves_7 : decode cX1_allValves 7 = .ok (.isub, 1) ∧ 8 = 7 + 1 := ⟨by decide +kernel, rfl⟩
theorem dX1_allValves_8 : decode cX1_allValves 8 = .ok (.ireturn, 1) ∧ 9 = 8 + 1 := ⟨by decide +kernel, rfl⟩
theorem dX1_allFlanges_0 : decode cX1_allFlanges 0 = .ok (.iconst 1, 1) ∧ 1 = 0 + 1 := ⟨by decide +kernel, rfl⟩
theorem dX1_allFlanges_1 : decode cX1_allFlanges 1 = .ok (.aload_n 0, 1) ∧ 2 = 1 + 1 := ⟨by decide +kernel, rfl⟩
theorem dX1_allFlanges_2 : decode cX1_allFlanges 2 = .ok (.getfield 21, 3) ∧ 5 = 2 + 3 := ⟨by decide +kernel, rfl⟩
theorem dX1_allFlanges_5 : decode cX1_allFlanges 5 = .ok (.ishl, 1) ∧ 6 = 5 + 1 := ⟨by decide +kernel, rfl⟩
theorem dX1_allFlanges_6 : decode cX1_allFlanges 6 = .ok (.iconst 1, 1) ∧ 7 = 6 + 1 := ⟨by decide +kernel, rfl⟩
theorem dX1_allFlanges_7 : decode cX1_allFlanges 7 = .ok (.isub, 1) ∧ 8 = 7 + 1 := ⟨by decide +kernel, rfl⟩
theorem dX1_allFlanges_8 : decode cX1_allFlanges 8 = .ok (.ireturn, 1) ∧ 9 = 8 + 1 := ⟨by decide +kernel, rfl⟩
theorem dX1_valvesOf_0 : decode cX1_valvesOf 0 = .ok (.iconst 0, 1) ∧ 1 = 0 + 1 := ⟨by decide +kernel, rfl⟩
theorem dX1_valvesOf_1 : decode cX1_valvesOf 1 = .ok (.istore_n 2, 1) ∧ 2 = 1 + 1 := ⟨by decide +kernel, rfl⟩
theorem dX1_valvesOf_2 : decode cX1_valvesOf 2 = .ok (.iconst 0, 1) ∧ 3 = 2 + 1 := ⟨by decide +kernel, rfl⟩
theorem dX1_valvesOf_3 : decode cX1_valvesOf 3 = .ok (.istore_n 3, 1) ∧ 4 = 3 + 1 := ⟨by decide +kernel, rfl⟩
theorem dX1_valvesOf_4 : decode cX1_valvesOf 4 = .ok (.iload_n 3, 1) ∧ 5 = 4 + 1 := ⟨by decide +kernel, rfl⟩
theorem dX1_valvesOf_5 : decode cX1_valvesOf 5 = .ok (.aload_n 0, 1) ∧ 6 = 5 + 1 := ⟨by decide +kernel, rfl⟩
theorem dX1_valvesOf_6 : decode cX1_valvesOf 6 = .ok (.getfield 18, 3) ∧ 9 = 6 + 3 := ⟨by decide +kernel, rfl⟩
theorem dX1_valvesOf_9 : decode cX1_valvesOf 9 = .ok (.if_icmp .ge 35, 3) ∧ 12 = 9 + 3 := ⟨by decide +kernel, rfl⟩
theorem dX1_valvesOf_12 : decode cX1_valvesOf 12 = .ok (.aload_n 0, 1) ∧ 13 = 12 + 1 := ⟨by decide +kernel, rfl⟩
theorem dX1_valvesOf_13 : decode cX1_valvesOf 13 = .ok (.getfield 52, 3) ∧ 16 = 13 + 3 := ⟨by decide +kernel, rfl⟩
theorem dX1_valvesOf_16 : decode cX1_valvesOf 16 = .ok (.iload_n 3, 1) ∧ 17 = 16 + 1 := ⟨by decide +kernel, rfl⟩
theorem dX1_valvesOf_17 : decode cX1_valvesOf 17 = .ok (.iaload, 1) ∧ 18 = 17 + 1 := ⟨by decide +kernel, rfl⟩
theorem dX1_valvesOf_18 : decode cX1_valvesOf 18 = .ok (.iload_n 1, 1) ∧ 19 = 18 + 1 := ⟨by decide +kernel, rfl⟩
theorem dX1_valvesOf_19 : decode cX1_valvesOf 19 = .ok (.if_icmp .eq 13, 3) ∧ 22 = 19 + 3 := ⟨by decide +kernel, rfl⟩
theorem dX1_valvesOf_22 : decode cX1_valvesOf 22 = .ok (.aload_n 0, 1) ∧ 23 = 22 + 1 := ⟨by decide +kernel, rfl⟩
theorem dX1_valvesOf_23 : decode cX1_valvesOf 23 = .ok (.getfield 55, 3) ∧ 26 = 23 + 3 := ⟨by decide +kernel, rfl⟩
theorem dX1_valvesOf_26 : decode cX1_valvesOf 26 = .ok (.iload_n 3, 1) ∧ 27 = 26 + 1 := ⟨by decide +kernel, rfl⟩
theorem dX1_valvesOf_27 : decode cX1_valvesOf 27 = .ok (.iaload, 1) ∧ 28 = 27 + 1 := ⟨by decide +kernel, rfl⟩
theorem dX1_valvesOf_28 : decode cX1_valvesOf 28 = .ok (.iload_n 1, 1) ∧ 29 = 28 + 1 := ⟨by decide +kernel, rfl⟩
theorem dX1_valvesOf_29 : decode cX1_valvesOf 29 = .ok (.if_icmp .ne 9, 3) ∧ 32 = 29 + 3 := ⟨by decide +kernel, rfl⟩
theorem dX1_valvesOf_32 : decode cX1_valvesOf 32 = .ok (.iload_n 2, 1) ∧ 33 = 32 + 1 := ⟨by decide +kernel, rfl⟩
theorem dX1_valvesOf_33 : decode cX1_valvesOf 33 = .ok (.iconst 1, 1) ∧ 34 = 33 + 1 := ⟨by decide +kernel, rfl⟩
theorem dX1_valvesOf_34 : decode cX1_valvesOf 34 = .ok (.iload_n 3, 1) ∧ 35 = 34 + 1 := ⟨by decide +kernel, rfl⟩
theorem dX1_valvesOf_35 : decode cX1_valvesOf 35 = .ok (.ishl, 1) ∧ 36 = 35 + 1 := ⟨by decide +kernel, rfl⟩
theorem dX1_valvesOf_36 : decode cX1_valvesOf 36 = .ok (.ior, 1) ∧ 37 = 36 + 1 := ⟨by decide +kernel, rfl⟩
theorem dX1_valvesOf_37 : decode cX1_valvesOf 37 = .ok (.istore_n 2, 1) ∧ 38 = 37 + 1 := ⟨by decide +kernel, rfl⟩
theorem dX1_valvesOf_38 : decode cX1_valvesOf 38 = .ok (.iinc 3 1, 3) ∧ 41 = 38 + 3 := ⟨by decide +kernel, rfl⟩
theorem dX1_valvesOf_41 : decode cX1_valvesOf 41 = .ok (.goto (-37), 3) ∧ 44 = 41 + 3 := ⟨by decide +kernel, rfl⟩
theorem dX1_valvesOf_44 : decode cX1_valvesOf 44 = .ok (.iload_n 2, 1) ∧ 45 = 44 + 1 := ⟨by decide +kernel, rfl⟩
theorem dX1_valvesOf_45 : decode cX1_valvesOf 45 = .ok (.ireturn, 1) ∧ 46 = 45 + 1 := ⟨by decide +kernel, rfl⟩
theorem dX1_pumpsOf_0 : decode cX1_pumpsOf 0 = .ok (.iconst 0, 1) ∧ 1 = 0 + 1 := ⟨by decide +kernel, rfl⟩
theorem dX1_pumpsOf_1 : decode cX1_pumpsOf 1 = .ok (.istore_n 2, 1) ∧ 2 = 1 + 1 := ⟨by decide +kernel, rfl⟩
theorem dX1_pumpsOf_2 : decode cX1_pumpsOf 2 = .ok (.iconst 0, 1) ∧ 3 = 2 + 1 := ⟨by decide +kernel, rfl⟩
theorem dX1_pumpsOf_3 : decode cX1_pumpsOf 3 = .ok (.istore_n 3, 1) ∧ 4 = 3 + 1 := ⟨by decide +kernel, rfl⟩
theorem dX1_pumpsOf_4 : decode cX1_pumpsOf 4 = .ok (.iload_n 3, 1) ∧ 5 = 4 + 1 := ⟨by decide +kernel, rfl⟩
theorem dX1_pumpsOf_5 : decode cX1_pumpsOf 5 = .ok (.aload_n 0, 1) ∧ 6 = 5 + 1 := ⟨by decide +kernel, rfl⟩
theorem dX1_pumpsOf_6 : decode cX1_pumpsOf 6 = .ok (.getfield 15, 3) ∧ 9 = 6 + 3 := ⟨by decide +kernel, rfl⟩
theorem dX1_pumpsOf_9 : decode cX1_pumpsOf 9 = .ok (.if_icmp .ge 25, 3) ∧ 12 = 9 + 3 := ⟨by decide +kernel, rfl⟩
theorem dX1_pumpsOf_12 : decode cX1_pumpsOf 12 = .ok (.aload_n 0, 1) ∧ 13 = 12 + 1 := ⟨by decide +kernel, rfl⟩
theorem dX1_pumpsOf_13 : decode cX1_pumpsOf 13 = .ok (.getfield 34, 3) ∧ 16 = 13 + 3 := ⟨by decide +kernel, rfl⟩
theorem dX1_pumpsOf_16 : decode cX1_pumpsOf 16 = .ok (.iload_n 3, 1) ∧ 17 = 16 + 1 := ⟨by decide +kernel, rfl⟩
theorem dX1_pumpsOf_17 : decode cX1_pumpsOf 17 = .ok (.iaload, 1) ∧ 18 = 17 + 1 := ⟨by decide +kernel, rfl⟩
theorem dX1_pumpsOf_18 : decode cX1_pumpsOf 18 = .ok (.iload_n 1, 1) ∧ 19 = 18 + 1 := ⟨by decide +kernel, rfl⟩
theorem dX1_pumpsOf_19 : decode cX1_pumpsOf 19 = .ok (.if_icmp .ne 9, 3) ∧ 22 = 19 + 3 := ⟨by decide +kernel, rfl⟩
theorem dX1_pumpsOf_22 : decode cX1_pumpsOf 22 = .ok (.iload_n 2, 1) ∧ 23 = 22 + 1 := ⟨by decide +kernel, rfl⟩
theorem dX1_pumpsOf_23 : decode cX1_pumpsOf 23 = .ok (.iconst 1, 1) ∧ 24 = 23 + 1 := ⟨by decide +kernel, rfl⟩
theorem dX1_pumpsOf_24 : decode cX1_pumpsOf 24 = .ok (.iload_n 3, 1) ∧ 25 = 24 + 1 := ⟨by decide +kernel, rfl⟩
theorem dX1_pumpsOf_25 : decode cX1_pumpsOf 25 = .ok (.ishl, 1) ∧ 26 = 25 + 1 := ⟨by decide +kernel, rfl⟩
theorem dX1_pumpsOf_26 : decode cX1_pumpsOf 26 = .ok (.ior, 1) ∧ 27 = 26 + 1 := ⟨by decide +kernel, rfl⟩
theorem dX1_pumpsOf_27 : decode cX1_pumpsOf 27 = .ok (.istore_n 2, 1) ∧ 28 = 27 + 1 := ⟨by decide +kernel, rfl⟩
theorem dX1_pumpsOf_28 : decode cX1_pumpsOf 28 = .ok (.iinc 3 1, 3) ∧ 31 = 28 + 3 := ⟨by decide +kernel, rfl⟩
theorem dX1_pumpsOf_31 : decode cX1_pumpsOf 31 = .ok (.goto (-27), 3) ∧ 34 = 31 + 3 := ⟨by decide +kernel, rfl⟩
theorem dX1_pumpsOf_34 : decode cX1_pumpsOf 34 = .ok (.iload_n 2, 1) ∧ 35 = 34 + 1 := ⟨by decide +kernel, rfl⟩
theorem dX1_pumpsOf_35 : decode cX1_pumpsOf 35 = .ok (.ireturn, 1) ∧ 36 = 35 + 1 := ⟨by decide +kernel, rfl⟩
theorem dX1_grown_0 : decode cX1_grown 0 = .ok (.iload_n 1, 1) ∧ 1 = 0 + 1 := ⟨by decide +kernel, rfl⟩
theorem dX1_grown_1 : decode cX1_grown 1 = .ok (.istore_n 3, 1) ∧ 2 = 1 + 1 := ⟨by decide +kernel, rfl⟩
theorem dX1_grown_2 : decode cX1_grown 2 = .ok (.iconst 0, 1) ∧ 3 = 2 + 1 := ⟨by decide +kernel, rfl⟩
theorem dX1_grown_3 : decode cX1_grown 3 = .ok (.istore 4, 2) ∧ 5 = 3 + 2 := ⟨by decide +kernel, rfl⟩
theorem dX1_grown_5 : decode cX1_grown 5 = .ok (.iload 4, 2) ∧ 7 = 5 + 2 := ⟨by decide +kernel, rfl⟩
theorem dX1_grown_7 : decode cX1_grown 7 = .ok (.aload_n 0, 1) ∧ 8 = 7 + 1 := ⟨by decide +kernel, rfl⟩
theorem dX1_grown_8 : decode cX1_grown 8 = .ok (.getfield 18, 3) ∧ 11 = 8 + 3 := ⟨by decide +kernel, rfl⟩
theorem dX1_grown_11 : decode cX1_grown 11 = .ok (.if_icmp .ge 85, 3) ∧ 14 = 11 + 3 := ⟨by decide +kernel, rfl⟩
theorem dX1_grown_14 : decode cX1_grown 14 = .ok (.iload_n 2, 1) ∧ 15 = 14 + 1 := ⟨by decide +kernel, rfl⟩
theorem dX1_grown_15 : decode cX1_grown 15 = .ok (.iload 4, 2) ∧ 17 = 15 + 2 := ⟨by decide +kernel, rfl⟩
theorem dX1_grown_17 : decode cX1_grown 17 = .ok (.invokestatic 76, 3) ∧ 20 = 17 + 3 := ⟨by decide +kernel, rfl⟩
theorem dX1_grown_20 : decode cX1_grown 20 = .ok (.ifCond .ne 6, 3) ∧ 23 = 20 + 3 := ⟨by decide +kernel, rfl⟩
theorem dX1_grown_23 : decode cX1_grown 23 = .ok (.goto 67, 3) ∧ 26 = 23 + 3 := ⟨by decide +kernel, rfl⟩
theorem dX1_grown_26 : decode cX1_grown 26 = .ok (.iload_n 1, 1) ∧ 27 = 26 + 1 := ⟨by decide +kernel, rfl⟩
theorem dX1_grown_27 : decode cX1_grown 27 = .ok (.aload_n 0, 1) ∧ 28 = 27 + 1 := ⟨by decide +kernel, rfl⟩
theorem dX1_grown_28 : decode cX1_grown 28 = .ok (.getfield 52, 3) ∧ 31 = 28 + 3 := ⟨by decide +kernel, rfl⟩
theorem dX1_grown_31 : decode cX1_grown 31 = .ok (.iload 4, 2) ∧ 33 = 31 + 2 := ⟨by decide +kernel, rfl⟩
theorem dX1_grown_33 : decode cX1_grown 33 = .ok (.iaload, 1) ∧ 34 = 33 + 1 := ⟨by decide +kernel, rfl⟩
theorem dX1_grown_34 : decode cX1_grown 34 = .ok (.invokestatic 76, 3) ∧ 37 = 34 + 3 := ⟨by decide +kernel, rfl⟩
theorem dX1_grown_37 : decode cX1_grown 37 = .ok (.ifCond .eq 15, 3) ∧ 40 = 37 + 3 := ⟨by decide +kernel, rfl⟩
theorem dX1_grown_40 : decode cX1_grown 40 = .ok (.iload_n 3, 1) ∧ 41 = 40 + 1 := ⟨by decide +kernel, rfl⟩
theorem dX1_grown_41 : decode cX1_grown 41 = .ok (.iconst 1, 1) ∧ 42 = 41 + 1 := ⟨by decide +kernel, rfl⟩
theorem dX1_grown_42 : decode cX1_grown 42 = .ok (.aload_n 0, 1) ∧ 43 = 42 + 1 := ⟨by decide +kernel, rfl⟩
theorem dX1_grown_43 : decode cX1_grown 43 = .ok (.getfield 55, 3) ∧ 46 = 43 + 3 := ⟨by decide +kernel, rfl⟩
theorem dX1_grown_46 : decode cX1_grown 46 = .ok (.iload 4, 2) ∧ 48 = 46 + 2 := ⟨by decide +kernel, rfl⟩
theorem dX1_grown_48 : decode cX1_grown 48 = .ok (.iaload, 1) ∧ 49 = 48 + 1 := ⟨by decide +kernel, rfl⟩
theorem dX1_grown_49 : decode cX1_grown 49 = .ok (.ishl, 1) ∧ 50 = 49 + 1 := ⟨by decide +kernel, rfl⟩
theorem dX1_grown_50 : decode cX1_grown 50 = .ok (.ior, 1) ∧ 51 = 50 + 1 := ⟨by decide +kernel, rfl⟩
theorem dX1_grown_51 : decode cX1_grown 51 = .ok (.istore_n 3, 1) ∧ 52 = 51 + 1 := ⟨by decide +kernel, rfl⟩
theorem dX1_grown_52 : decode cX1_grown 52 = .ok (.aload_n 0, 1) ∧ 53 = 52 + 1 := ⟨by decide +kernel, rfl⟩
theorem dX1_grown_53 : decode cX1_grown 53 = .ok (.getfield 55, 3) ∧ 56 = 53 + 3 := ⟨by decide +kernel, rfl⟩
theorem dX1_grown_56 : decode cX1_grown 56 = .ok (.iload 4, 2) ∧ 58 = 56 + 2 := ⟨by decide +kernel, rfl⟩
theorem dX1_grown_58 : decode cX1_grown 58 = .ok (.iaload, 1) ∧ 59 = 58 + 1 := ⟨by decide +kernel, rfl⟩
theorem dX1_grown_59 : decode cX1_grown 59 = .ok (.bipush 8, 2) ∧ 61 = 59 + 2 := ⟨by decide +kernel, rfl⟩
theorem dX1_grown_61 : decode cX1_grown 61 = .ok (.if_icmp .eq 29, 3) ∧ 64 = 61 + 3 := ⟨by decide +kernel, rfl⟩
theorem dX1_grown_64 : decode cX1_grown 64 = .ok (.iload_n 1, 1) ∧ 65 = 64 + 1 := ⟨by decide +kernel, rfl⟩
theorem dX1_grown_65 : decode cX1_grown 65 = .ok (.aload_n 0, 1) ∧ 66 = 65 + 1 := ⟨by decide +kernel, rfl⟩
theorem dX1_grown_66 : decode cX1_grown 66 = .ok (.getfield 55, 3) ∧ 69 = 66 + 3 := ⟨by decide +kernel, rfl⟩
theorem dX1_grown_69 : decode cX1_grown 69 = .ok (.iload 4, 2) ∧ 71 = 69 + 2 := ⟨by decide +kernel, rfl⟩
theorem dX1_grown_71 : decode cX1_grown 71 = .ok (.iaload, 1) ∧ 72 = 71 + 1 := ⟨by decide +kernel, rfl⟩
theorem dX1_grown_72 : decode cX1_grown 72 = .ok (.invokestatic 76, 3) ∧ 75 = 72 + 3 := ⟨by decide +kernel, rfl⟩
theorem dX1_grown_75 : decode cX1_grown 75 = .ok (.ifCond .eq 15, 3) ∧ 78 = 75 + 3 := ⟨by decide +kernel, rfl⟩
theorem dX1_grown_78 : decode cX1_grown 78 = .ok (.iload_n 3, 1) ∧ 79 = 78 + 1 := ⟨by decide +kernel, rfl⟩
theorem dX1_grown_79 : decode cX1_grown 79 = .ok (.iconst 1, 1) ∧ 80 = 79 + 1 := ⟨by decide +kernel, rfl⟩
theorem dX1_grown_80 : decode cX1_grown 80 = .ok (.aload_n 0, 1) ∧ 81 = 80 + 1 := ⟨by decide +kernel, rfl⟩
theorem dX1_grown_81 : decode cX1_grown 81 = .ok (.getfield 52, 3) ∧ 84 = 81 + 3 := ⟨by decide +kernel, rfl⟩
theorem dX1_grown_84 : decode cX1_grown 84 = .ok (.iload 4, 2) ∧ 86 = 84 + 2 := ⟨by decide +kernel, rfl⟩
theorem dX1_grown_86 : decode cX1_grown 86 = .ok (.iaload, 1) ∧ 87 = 86 + 1 := ⟨by decide +kernel, rfl⟩
theorem dX1_grown_87 : decode cX1_grown 87 = .ok (.ishl, 1) ∧ 88 = 87 + 1 := ⟨by decide +kernel, rfl⟩
theorem dX1_grown_88 : decode cX1_grown 88 = .ok (.ior, 1) ∧ 89 = 88 + 1 := ⟨by decide +kernel, rfl⟩
theorem dX1_grown_89 : decode cX1_grown 89 = .ok (.istore_n 3, 1) ∧ 90 = 89 + 1 := ⟨by decide +kernel, rfl⟩
theorem dX1_grown_90 : decode cX1_grown 90 = .ok (.iinc 4 1, 3) ∧ 93 = 90 + 3 := ⟨by decide +kernel, rfl⟩
theorem dX1_grown_93 : decode cX1_grown 93 = .ok (.goto (-88), 3) ∧ 96 = 93 + 3 := ⟨by decide +kernel, rfl⟩
theorem dX1_grown_96 : decode cX1_grown 96 = .ok (.iload_n 3, 1) ∧ 97 = 96 + 1 := ⟨by decide +kernel, rfl⟩
theorem dX1_grown_97 : decode cX1_grown 97 = .ok (.ireturn, 1) ∧ 98 = 97 + 1 := ⟨by decide +kernel, rfl⟩
theorem dX1_addChamber_0 : decode cX1_addChamber 0 = .ok (.aload_n 0, 1) ∧ 1 = 0 + 1 := ⟨by decide +kernel, rfl⟩
theorem dX1_addChamber_1 : decode cX1_addChamber 1 = .ok (.getfield 9, 3) ∧ 4 = 1 + 3 := ⟨by decide +kernel, rfl⟩
theorem dX1_addChamber_4 : decode cX1_addChamber 4 = .ok (.bipush 8, 2) ∧ 6 = 4 + 2 := ⟨by decide +kernel, rfl⟩
theorem dX1_addChamber_6 : decode cX1_addChamber 6 = .ok (.if_icmp .lt 4, 3) ∧ 9 = 6 + 3 := ⟨by decide +kernel, rfl⟩
theorem dX1_addChamber_9 : decode cX1_addChamber 9 = .ok (.return_, 1) ∧ 10 = 9 + 1 := ⟨by decide +kernel, rfl⟩
theorem dX1_addChamber_10 : decode cX1_addChamber 10 = .ok (.aload_n 0, 1) ∧ 11 = 10 + 1 := ⟨by decide +kernel, rfl⟩
theorem dX1_addChamber_11 : decode cX1_addChamber 11 = .ok (.getfield 24, 3) ∧ 14 = 11 + 3 := ⟨by decide +kernel, rfl⟩
theorem dX1_addChamber_14 : decode cX1_addChamber 14 = .ok (.aload_n 0, 1) ∧ 15 = 14 + 1 := ⟨by decide +kernel, rfl⟩
theorem dX1_addChamber_15 : decode cX1_addChamber 15 = .ok (.getfield 9, 3) ∧ 18 = 15 + 3 := ⟨by decide +kernel, rfl⟩
theorem dX1_addChamber_18 : decode cX1_addChamber 18 = .ok (.iload_n 1, 1) ∧ 19 = 18 + 1 := ⟨by decide +kernel, rfl⟩
theorem dX1_addChamber_19 : decode cX1_addChamber 19 = .ok (.iastore, 1) ∧ 20 = 19 + 1 := ⟨by decide +kernel, rfl⟩
theorem dX1_addChamber_20 : decode cX1_addChamber 20 = .ok (.aload_n 0, 1) ∧ 21 = 20 + 1 := ⟨by decide +kernel, rfl⟩
theorem dX1_addChamber_21 : decode cX1_addChamber 21 = .ok (.getfield 28, 3) ∧ 24 = 21 + 3 := ⟨by decide +kernel, rfl⟩
theorem dX1_addChamber_24 : decode cX1_addChamber 24 = .ok (.aload_n 0, 1) ∧ 25 = 24 + 1 := ⟨by decide +kernel, rfl⟩
theorem dX1_addChamber_25 : decode cX1_addChamber 25 = .ok (.getfield 9, 3) ∧ 28 = 25 + 3 := ⟨by decide +kernel, rfl⟩
theorem dX1_addChamber_28 : decode cX1_addChamber 28 = .ok (.iload_n 2, 1) ∧ 29 = 28 + 1 := ⟨by decide +kernel, rfl⟩
theorem dX1_addChamber_29 : decode cX1_addChamber 29 = .ok (.iastore, 1) ∧ 30 = 29 + 1 := ⟨by decide +kernel, rfl⟩
theorem dX1_addChamber_30 : decode cX1_addChamber 30 = .ok (.aload_n 0, 1) ∧ 31 = 30 + 1 := ⟨by decide +kernel, rfl⟩
theorem dX1_addChamber_31 : decode cX1_addChamber 31 = .ok (.getfield 31, 3) ∧ 34 = 31 + 3 := ⟨by decide +kernel, rfl⟩
theorem dX1_addChamber_34 : decode cX1_addChamber 34 = .ok (.aload_n 0, 1) ∧ 35 = 34 + 1 := ⟨by decide +kernel, rfl⟩
theorem dX1_addChamber_35 : decode cX1_addChamber 35 = .ok (.getfield 9, 3) ∧ 38 = 35 + 3 := ⟨by decide +kernel, rfl⟩
theorem dX1_addChamber_38 : decode cX1_addChamber 38 = .ok (.iload_n 3, 1) ∧ 39 = 38 + 1 := ⟨by decide +kernel, rfl⟩
theorem dX1_addChamber_39 : decode cX1_addChamber 39 = .ok (.iastore, 1) ∧ 40 = 39 + 1 := ⟨by decide +kernel, rfl⟩
theorem dX1_addChamber_40 : decode cX1_addChamber 40 = .ok (.aload_n 0, 1) ∧ 41 = 40 + 1 := ⟨by decide +kernel, rfl⟩
theorem dX1_addChamber_41 : decode cX1_addChamber 41 = .ok (.dup, 1) ∧ 42 = 41 + 1 := ⟨by decide +kernel, rfl⟩
theorem dX1_addChamber_42 : decode cX1_addChamber 42 = .ok (.getfield 9, 3) ∧ 45 = 42 + 3 := ⟨by decide +kernel, rfl⟩
theorem dX1_addChamber_45 : decode cX1_addChamber 45 = .ok (.iconst 1, 1) ∧ 46 = 45 + 1 := ⟨by decide +kernel, rfl⟩
theorem dX1_addChamber_46 : decode cX1_addChamber 46 = .ok (.iadd, 1) ∧ 47 = 46 + 1 := ⟨by decide +kernel, rfl⟩
theorem dX1_addChamber_47 : decode cX1_addChamber 47 = .ok (.putfield 9, 3) ∧ 50 = 47 + 3 := ⟨by decide +kernel, rfl⟩
theorem dX1_addChamber_50 : decode cX1_addChamber 50 = .ok (.return_, 1) ∧ 51 = 50 + 1 := ⟨by decide +kernel, rfl⟩
theorem dX1_addPump_0 : decode cX1_addPump 0 = .ok (.aload_n 0, 1) ∧ 1 = 0 + 1 := ⟨by decide +kernel, rfl⟩
theorem dX1_addPump_1 : decode cX1_addPump 1 = .ok (.getfield 15, 3) ∧ 4 = 1 + 3 := ⟨by decide +kernel, rfl⟩
theorem dX1_addPump_4 : decode cX1_addPump 4 = .ok (.bipush 6, 2) ∧ 6 = 4 + 2 := ⟨by decide +kernel, rfl⟩
theorem dX1_addPump_6 : decode cX1_addPump 6 = .ok (.if_icmp .lt 4, 3) ∧ 9 = 6 + 3 := ⟨by decide +kernel, rfl⟩
theorem dX1_addPump_9 : decode cX1_addPump 9 = .ok (.return_, 1) ∧ 10 = 9 + 1 := ⟨by decide +kernel, rfl⟩
theorem dX1_addPump_10 : decode cX1_addPump 10 = .ok (.aload_n 0, 1) ∧ 11 = 10 + 1 := ⟨by decide +kernel, rfl⟩
theorem dX1_addPump_11 : decode cX1_addPump 11 = .ok (.getfield 34, 3) ∧ 14 = 11 + 3 := ⟨by decide +kernel, rfl⟩
theorem dX1_addPump_14 : decode cX1_addPump 14 = .ok (.aload_n 0, 1) ∧ 15 = 14 + 1 := ⟨by decide +kernel, rfl⟩
theorem dX1_addPump_15 : decode cX1_addPump 15 = .ok (.getfield 15, 3) ∧ 18 = 15 + 3 := ⟨by decide +kernel, rfl⟩
theorem dX1_addPump_18 : decode cX1_addPump 18 = .ok (.iload_n 1, 1) ∧ 19 = 18 + 1 := ⟨by decide +kernel, rfl⟩
theorem dX1_addPump_19 : decode cX1_addPump 19 = .ok (.iastore, 1) ∧ 20 = 19 + 1 := ⟨by decide +kernel, rfl⟩
theorem dX1_addPump_20 : decode cX1_addPump 20 = .ok (.aload_n 0, 1) ∧ 21 = 20 + 1 := ⟨by decide +kernel, rfl⟩
theorem dX1_addPump_21 : decode cX1_addPump 21 = .ok (.getfield 37, 3) ∧ 24 = 21 + 3 := ⟨by decide +kernel, rfl⟩
theorem dX1_addPump_24 : decode cX1_addPump 24 = .ok (.aload_n 0, 1) ∧ 25 = 24 + 1 := ⟨by decide +kernel, rfl⟩
theorem dX1_addPump_25 : decode cX1_addPump 25 = .ok (.getfield 15, 3) ∧ 28 = 25 + 3 := ⟨by decide +kernel, rfl⟩
theorem dX1_addPump_28 : decode cX1_addPump 28 = .ok (.iload_n 2, 1) ∧ 29 = 28 + 1 := ⟨by decide +kernel, rfl⟩
theorem dX1_addPump_29 : decode cX1_addPump 29 = .ok (.iastore, 1) ∧ 30 = 29 + 1 := ⟨by decide +kernel, rfl⟩
theorem dX1_addPump_30 : decode cX1_addPump 30 = .ok (.aload_n 0, 1) ∧ 31 = 30 + 1 := ⟨by decide +kernel, rfl⟩
theorem dX1_addPump_31 : decode cX1_addPump 31 = .ok (.getfield 40, 3) ∧ 34 = 31 + 3 := ⟨by decide +kernel, rfl⟩
theorem dX1_addPump_34 : decode cX1_addPump 34 = .ok (.aload_n 0, 1) ∧ 35 = 34 + 1 := ⟨by decide +kernel, rfl⟩
theorem dX1_addPump_35 : decode cX1_addPump 35 = .ok (.getfield 15, 3) ∧ 38 = 35 + 3 := ⟨by decide +kernel, rfl⟩
theorem dX1_addPump_38 : decode cX1_addPump 38 = .ok (.iload_n 3, 1) ∧ 39 = 38 + 1 := ⟨by decide +kernel, rfl⟩
theorem dX1_addPump_39 : decode cX1_addPump 39 = .ok (.iastore, 1) ∧ 40 = 39 + 1 := ⟨by decide +kernel, rfl⟩
theorem dX1_addPump_40 : decode cX1_addPump 40 = .ok (.aload_n 0, 1) ∧ 41 = 40 + 1 := ⟨by decide +kernel, rfl⟩
theorem dX1_addPump_41 : decode cX1_addPump 41 = .ok (.getfield 43, 3) ∧ 44 = 41 + 3 := ⟨by decide +kernel, rfl⟩
theorem dX1_addPump_44 : decode cX1_addPump 44 = .ok (.aload_n 0, 1) ∧ 45 = 44 + 1 := ⟨by decide +kernel, rfl⟩
theorem dX1_addPump_45 : decode cX1_addPump 45 = .ok (.getfield 15, 3) ∧ 48 = 45 + 3 := ⟨by decide +kernel, rfl⟩
theorem dX1_addPump_48 : decode cX1_addPump 48 = .ok (.iload 4, 2) ∧ 50 = 48 + 2 := ⟨by decide +kernel, rfl⟩
theorem dX1_addPump_50 : decode cX1_addPump 50 = .ok (.iastore, 1) ∧ 51 = 50 + 1 := ⟨by decide +kernel, rfl⟩
theorem dX1_addPump_51 : decode cX1_addPump 51 = .ok (.aload_n 0, 1) ∧ 52 = 51 + 1 := ⟨by decide +kernel, rfl⟩
theorem dX1_addPump_52 : decode cX1_addPump 52 = .ok (.getfield 46, 3) ∧ 55 = 52 + 3 := ⟨by decide +kernel, rfl⟩
theorem dX1_addPump_55 : decode cX1_addPump 55 = .ok (.aload_n 0, 1) ∧ 56 = 55 + 1 := ⟨by decide +kernel, rfl⟩
theorem dX1_addPump_56 : decode cX1_addPump 56 = .ok (.getfield 15, 3) ∧ 59 = 56 + 3 := ⟨by decide +kernel, rfl⟩
theorem dX1_addPump_59 : decode cX1_addPump 59 = .ok (.iload 5, 2) ∧ 61 = 59 + 2 := ⟨by decide +kernel, rfl⟩
theorem dX1_addPump_61 : decode cX1_addPump 61 = .ok (.iastore, 1) ∧ 62 = 61 + 1 := ⟨by decide +kernel, rfl⟩
theorem dX1_addPump_62 : decode cX1_addPump 62 = .ok (.aload_n 0, 1) ∧ 63 = 62 + 1 := ⟨by decide +kernel, rfl⟩
theorem dX1_addPump_63 : decode cX1_addPump 63 = .ok (.getfield 49, 3) ∧ 66 = 63 + 3 := ⟨by decide +kernel, rfl⟩
theorem dX1_addPump_66 : decode cX1_addPump 66 = .ok (.aload_n 0, 1) ∧ 67 = 66 + 1 := ⟨by decide +kernel, rfl⟩
theorem dX1_addPump_67 : decode cX1_addPump 67 = .ok (.getfield 15, 3) ∧ 70 = 67 + 3 := ⟨by decide +kernel, rfl⟩
theorem dX1_addPump_70 : decode cX1_addPump 70 = .ok (.iload 6, 2) ∧ 72 = 70 + 2 := ⟨by decide +kernel, rfl⟩
theorem dX1_addPump_72 : decode cX1_addPump 72 = .ok (.iastore, 1) ∧ 73 = 72 + 1 := ⟨by decide +kernel, rfl⟩
theorem dX1_addPump_73 : decode cX1_addPump 73 = .ok (.aload_n 0, 1) ∧ 74 = 73 + 1 := ⟨by decide +kernel, rfl⟩
theorem dX1_addPump_74 : decode cX1_addPump 74 = .ok (.dup, 1) ∧ 75 = 74 + 1 := ⟨by decide +kernel, rfl⟩
theorem dX1_addPump_75 : decode cX1_addPump 75 = .ok (.getfield 15, 3) ∧ 78 = 75 + 3 := ⟨by decide +kernel, rfl⟩
theorem dX1_addPump_78 : decode cX1_addPump 78 = .ok (.iconst 1, 1) ∧ 79 = 78 + 1 := ⟨by decide +kernel, rfl⟩
theorem dX1_addPump_79 : decode cX1_addPump 79 = .ok (.iadd, 1) ∧ 80 = 79 + 1 := ⟨by decide +kernel, rfl⟩
theorem dX1_addPump_80 : decode cX1_addPump 80 = .ok (.putfield 15, 3) ∧ 83 = 80 + 3 := ⟨by decide +kernel, rfl⟩
theorem dX1_addPump_83 : decode cX1_addPump 83 = .ok (.return_, 1) ∧ 84 = 83 + 1 := ⟨by decide +kernel, rfl⟩
theorem dX1_addValve_0 : decode cX1_addValve 0 = .ok (.aload_n 0, 1) ∧ 1 = 0 + 1 := ⟨by decide +kernel, rfl⟩
theorem dX1_addValve_1 : decode cX1_addValve 1 = .ok (.getfield 18, 3) ∧ 4 = 1 + 3 := ⟨by decide +kernel, rfl⟩
theorem dX1_addValve_4 : decode cX1_addValve 4 = .ok (.bipush 10, 2) ∧ 6 = 4 + 2 := ⟨by decide +kernel, rfl⟩
theorem dX1_addValve_6 : decode cX1_addValve 6 = .ok (.if_icmp .lt 4, 3) ∧ 9 = 6 + 3 := ⟨by decide +kernel, rfl⟩
theorem dX1_addValve_9 : decode cX1_addValve 9 = .ok (.return_, 1) ∧ 10 = 9 + 1 := ⟨by decide +kernel, rfl⟩
theorem dX1_addValve_10 : decode cX1_addValve 10 = .ok (.aload_n 0, 1) ∧ 11 = 10 + 1 := ⟨by decide +kernel, rfl⟩
theorem dX1_addValve_11 : decode cX1_addValve 11 = .ok (.getfield 52, 3) ∧ 14 = 11 + 3 := ⟨by decide +kernel, rfl⟩
theorem dX1_addValve_14 : decode cX1_addValve 14 = .ok (.aload_n 0, 1) ∧ 15 = 14 + 1 := ⟨by decide +kernel, rfl⟩
theorem dX1_addValve_15 : decode cX1_addValve 15 = .ok (.getfield 18, 3) ∧ 18 = 15 + 3 := ⟨by decide +kernel, rfl⟩
theorem dX1_addValve_18 : decode cX1_addValve 18 = .ok (.iload_n 1, 1) ∧ 19 = 18 + 1 := ⟨by decide +kernel, rfl⟩
theorem dX1_addValve_19 : decode cX1_addValve 19 = .ok (.iastore, 1) ∧ 20 = 19 + 1 := ⟨by decide +kernel, rfl⟩
theorem dX1_addValve_20 : decode cX1_addValve 20 = .ok (.aload_n 0, 1) ∧ 21 = 20 + 1 := ⟨by decide +kernel, rfl⟩
theorem dX1_addValve_21 : decode cX1_addValve 21 = .ok (.getfield 55, 3) ∧ 24 = 21 + 3 := ⟨by decide +kernel, rfl⟩
theorem dX1_addValve_24 : decode cX1_addValve 24 = .ok (.aload_n 0, 1) ∧ 25 = 24 + 1 := ⟨by decide +kernel, rfl⟩
theorem dX1_addValve_25 : decode cX1_addValve 25 = .ok (.getfield 18, 3) ∧ 28 = 25 + 3 := ⟨by decide +kernel, rfl⟩
theorem dX1_addValve_28 : decode cX1_addValve 28 = .ok (.iload_n 2, 1) ∧ 29 = 28 + 1 := ⟨by decide +kernel, rfl⟩
theorem dX1_addValve_29 : decode cX1_addValve 29 = .ok (.iastore, 1) ∧ 30 = 29 + 1 := ⟨by decide +kernel, rfl⟩
theorem dX1_addValve_30 : decode cX1_addValve 30 = .ok (.aload_n 0, 1) ∧ 31 = 30 + 1 := ⟨by decide +kernel, rfl⟩
theorem dX1_addValve_31 : decode cX1_addValve 31 = .ok (.getfield 58, 3) ∧ 34 = 31 + 3 := ⟨by decide +kernel, rfl⟩
theorem dX1_addValve_34 : decode cX1_addValve 34 = .ok (.aload_n 0, 1) ∧ 35 = 34 + 1 := ⟨by decide +kernel, rfl⟩
theorem dX1_addValve_35 : decode cX1_addValve 35 = .ok (.getfield 18, 3) ∧ 38 = 35 + 3 := ⟨by decide +kernel, rfl⟩
theorem dX1_addValve_38 : decode cX1_addValve 38 = .ok (.iload_n 3, 1) ∧ 39 = 38 + 1 := ⟨by decide +kernel, rfl⟩
theorem dX1_addValve_39 : decode cX1_addValve 39 = .ok (.iastore, 1) ∧ 40 = 39 + 1 := ⟨by decide +kernel, rfl⟩
theorem dX1_addValve_40 : decode cX1_addValve 40 = .ok (.aload_n 0, 1) ∧ 41 = 40 + 1 := ⟨by decide +kernel, rfl⟩
theorem dX1_addValve_41 : decode cX1_addValve 41 = .ok (.getfield 61, 3) ∧ 44 = 41 + 3 := ⟨by decide +kernel, rfl⟩
theorem dX1_addValve_44 : decode cX1_addValve 44 = .ok (.aload_n 0, 1) ∧ 45 = 44 + 1 := ⟨by decide +kernel, rfl⟩
theorem dX1_addValve_45 : decode cX1_addValve 45 = .ok (.getfield 18, 3) ∧ 48 = 45 + 3 := ⟨by decide +kernel, rfl⟩
theorem dX1_addValve_48 : decode cX1_addValve 48 = .ok (.iload 4, 2) ∧ 50 = 48 + 2 := ⟨by decide +kernel, rfl⟩
theorem dX1_addValve_50 : decode cX1_addValve 50 = .ok (.iastore, 1) ∧ 51 = 50 + 1 := ⟨by decide +kernel, rfl⟩
theorem dX1_addValve_51 : decode cX1_addValve 51 = .ok (.aload_n 0, 1) ∧ 52 = 51 + 1 := ⟨by decide +kernel, rfl⟩
theorem dX1_addValve_52 : decode cX1_addValve 52 = .ok (.dup, 1) ∧ 53 = 52 + 1 := ⟨by decide +kernel, rfl⟩
theorem dX1_addValve_53 : decode cX1_addValve 53 = .ok (.getfield 18, 3) ∧ 56 = 53 + 3 := ⟨by decide +kernel, rfl⟩
theorem dX1_addValve_56 : decode cX1_addValve 56 = .ok (.iconst 1, 1) ∧ 57 = 56 + 1 := ⟨by decide +kernel, rfl⟩
theorem dX1_addValve_57 : decode cX1_addValve 57 = .ok (.iadd, 1) ∧ 58 = 57 + 1 := ⟨by decide +kernel, rfl⟩
theorem dX1_addValve_58 : decode cX1_addValve 58 = .ok (.putfield 18, 3) ∧ 61 = 58 + 3 := ⟨by decide +kernel, rfl⟩
theorem dX1_addValve_61 : decode cX1_addValve 61 = .ok (.return_, 1) ∧ 62 = 61 + 1 := ⟨by decide +kernel, rfl⟩
theorem dX1_addFlange_0 : decode cX1_addFlange 0 = .ok (.aload_n 0, 1) ∧ 1 = 0 + 1 := ⟨by decide +kernel, rfl⟩
theorem dX1_addFlange_1 : decode cX1_addFlange 1 = .ok (.getfield 21, 3) ∧ 4 = 1 + 3 := ⟨by decide +kernel, rfl⟩
theorem dX1_addFlange_4 : decode cX1_addFlange 4 = .ok (.bipush 24, 2) ∧ 6 = 4 + 2 := ⟨by decide +kernel, rfl⟩
theorem dX1_addFlange_6 : decode cX1_addFlange 6 = .ok (.if_icmp .lt 4, 3) ∧ 9 = 6 + 3 := ⟨by decide +kernel, rfl⟩
theorem dX1_addFlange_9 : decode cX1_addFlange 9 = .ok (.return_, 1) ∧ 10 = 9 + 1 := ⟨by decide +kernel, rfl⟩
theorem dX1_addFlange_10 : decode cX1_addFlange 10 = .ok (.aload_n 0, 1) ∧ 11 = 10 + 1 := ⟨by decide +kernel, rfl⟩
theorem dX1_addFlange_11 : decode cX1_addFlange 11 = .ok (.getfield 64, 3) ∧ 14 = 11 + 3 := ⟨by decide +kernel, rfl⟩
theorem dX1_addFlange_14 : decode cX1_addFlange 14 = .ok (.aload_n 0, 1) ∧ 15 = 14 + 1 := ⟨by decide +kernel, rfl⟩
theorem dX1_addFlange_15 : decode cX1_addFlange 15 = .ok (.getfield 21, 3) ∧ 18 = 15 + 3 := ⟨by decide +kernel, rfl⟩
theorem dX1_addFlange_18 : decode cX1_addFlange 18 = .ok (.iload_n 1, 1) ∧ 19 = 18 + 1 := ⟨by decide +kernel, rfl⟩
theorem dX1_addFlange_19 : decode cX1_addFlange 19 = .ok (.iastore, 1) ∧ 20 = 19 + 1 := ⟨by decide +kernel, rfl⟩
theorem dX1_addFlange_20 : decode cX1_addFlange 20 = .ok (.aload_n 0, 1) ∧ 21 = 20 + 1 := ⟨by decide +kernel, rfl⟩
theorem dX1_addFlange_21 : decode cX1_addFlange 21 = .ok (.getfield 67, 3) ∧ 24 = 21 + 3 := ⟨by decide +kernel, rfl⟩
theorem dX1_addFlange_24 : decode cX1_addFlange 24 = .ok (.aload_n 0, 1) ∧ 25 = 24 + 1 := ⟨by decide +kernel, rfl⟩
theorem dX1_addFlange_25 : decode cX1_addFlange 25 = .ok (.getfield 21, 3) ∧ 28 = 25 + 3 := ⟨by decide +kernel, rfl⟩
theorem dX1_addFlange_28 : decode cX1_addFlange 28 = .ok (.iload_n 2, 1) ∧ 29 = 28 + 1 := ⟨by decide +kernel, rfl⟩
theorem dX1_addFlange_29 : decode cX1_addFlange 29 = .ok (.iastore, 1) ∧ 30 = 29 + 1 := ⟨by decide +kernel, rfl⟩
theorem dX1_addFlange_30 : decode cX1_addFlange 30 = .ok (.aload_n 0, 1) ∧ 31 = 30 + 1 := ⟨by decide +kernel, rfl⟩
theorem dX1_addFlange_31 : decode cX1_addFlange 31 = .ok (.dup, 1) ∧ 32 = 31 + 1 := ⟨by decide +kernel, rfl⟩
theorem dX1_addFlange_32 : decode cX1_addFlange 32 = .ok (.getfield 21, 3) ∧ 35 = 32 + 3 := ⟨by decide +kernel, rfl⟩
theorem dX1_addFlange_35 : decode cX1_addFlange 35 = .ok (.iconst 1, 1) ∧ 36 = 35 + 1 := ⟨by decide +kernel, rfl⟩
theorem dX1_addFlange_36 : decode cX1_addFlange 36 = .ok (.iadd, 1) ∧ 37 = 36 + 1 := ⟨by decide +kernel, rfl⟩
theorem dX1_addFlange_37 : decode cX1_addFlange 37 = .ok (.putfield 21, 3) ∧ 40 = 37 + 3 := ⟨by decide +kernel, rfl⟩
theorem dX1_addFlange_40 : decode cX1_addFlange 40 = .ok (.return_, 1) ∧ 41 = 40 + 1 := ⟨by decide +kernel, rfl⟩
theorem dX2_init_0 : decode cX2_init 0 = .ok (.aload_n 0, 1) ∧ 1 = 0 + 1 := ⟨by decide +kernel, rfl⟩
theorem dX2_init_1 : decode cX2_init 1 = .ok (.invokespecial 3, 3) ∧ 4 = 1 + 3 := ⟨by decide +kernel, rfl⟩
theorem dX2_init_4 : decode cX2_init 4 = .ok (.aload_n 0, 1) ∧ 5 = 4 + 1 := ⟨by decide +kernel, rfl⟩
theorem dX2_init_5 : decode cX2_init 5 = .ok (.iconst 0, 1) ∧ 6 = 5 + 1 := ⟨by decide +kernel, rfl⟩
theorem dX2_init_6 : decode cX2_init 6 = .ok (.putfield 11, 3) ∧ 9 = 6 + 3 := ⟨by decide +kernel, rfl⟩
theorem dX2_init_9 : decode cX2_init 9 = .ok (.aload_n 0, 1) ∧ 10 = 9 + 1 := ⟨by decide +kernel, rfl⟩
theorem dX2_init_10 : decode cX2_init 10 = .ok (.iconst 0, 1) ∧ 11 = 10 + 1 := ⟨by decide +kernel, rfl⟩
theorem dX2_init_11 : decode cX2_init 11 = .ok (.putfield 15, 3) ∧ 14 = 11 + 3 := ⟨by decide +kernel, rfl⟩
theorem dX2_init_14 : decode cX2_init 14 = .ok (.aload_n 0, 1) ∧ 15 = 14 + 1 := ⟨by decide +kernel, rfl⟩
theorem dX2_init_15 : decode cX2_init 15 = .ok (.iconst 0, 1) ∧ 16 = 15 + 1 := ⟨by decide +kernel, rfl⟩
theorem dX2_init_16 : decode cX2_init 16 = .ok (.putfield 18, 3) ∧ 19 = 16 + 3 := ⟨by decide +kernel, rfl⟩
theorem dX2_init_19 : decode cX2_init 19 = .ok (.aload_n 0, 1) ∧ 20 = 19 + 1 := ⟨by decide +kernel, rfl⟩
theorem dX2_init_20 : decode cX2_init 20 = .ok (.iconst 0, 1) ∧ 21 = 20 + 1 := ⟨by decide +kernel, rfl⟩
theorem dX2_init_21 : decode cX2_init 21 = .ok (.putfield 21, 3) ∧ 24 = 21 + 3 := ⟨by decide +kernel, rfl⟩
theorem dX2_init_24 : decode cX2_init 24 = .ok (.aload_n 0, 1) ∧ 25 = 24 + 1 := ⟨by decide +kernel, rfl⟩
theorem dX2_init_25 : decode cX2_init 25 = .ok (.iconst 0, 1) ∧ 26 = 25 + 1 := ⟨by decide +kernel, rfl⟩
theorem dX2_init_26 : decode cX2_init 26 = .ok (.putfield 24, 3) ∧ 29 = 26 + 3 := ⟨by decide +kernel, rfl⟩
theorem dX2_init_29 : decode cX2_init 29 = .ok (.aload_n 0, 1) ∧ 30 = 29 + 1 := ⟨by decide +kernel, rfl⟩
theorem dX2_init_30 : decode cX2_init 30 = .ok (.iconst (-1), 1) ∧ 31 = 30 + 1 := ⟨by decide +kernel, rfl⟩
theorem dX2_init_31 : decode cX2_init 31 = .ok (.putfield 27, 3) ∧ 34 = 31 + 3 := ⟨by decide +kernel, rfl⟩
theorem dX2_init_34 : decode cX2_init 34 = .ok (.aload_n 0, 1) ∧ 35 = 34 + 1 := ⟨by decide +kernel, rfl⟩
theorem dX2_init_35 : decode cX2_init 35 = .ok (.aload_n 1, 1) ∧ 36 = 35 + 1 := ⟨by decide +kernel, rfl⟩
theorem dX2_init_36 : decode cX2_init 36 = .ok (.putfield 30, 3) ∧ 39 = 36 + 3 := ⟨by decide +kernel, rfl⟩
theorem dX2_init_39 : decode cX2_init 39 = .ok (.return_, 1) ∧ 40 = 39 + 1 := ⟨by decide +kernel, rfl⟩
theorem dX2_begin_0 : decode cX2_begin 0 = .ok (.aload_n 0, 1) ∧ 1 = 0 + 1 := ⟨by decide +kernel, rfl⟩
theorem dX2_begin_1 : decode cX2_begin 1 = .ok (.iconst 0, 1) ∧ 2 = 1 + 1 := ⟨by decide +kernel, rfl⟩
theorem dX2_begin_2 : decode cX2_begin 2 = .ok (.putfield 18, 3) ∧ 5 = 2 + 3 := ⟨by decide +kernel, rfl⟩
theorem dX2_begin_5 : decode cX2_begin 5 = .ok (.aload_n 0, 1) ∧ 6 = 5 + 1 := ⟨by decide +kernel, rfl⟩
theorem dX2_begin_6 : decode cX2_begin 6 = .ok (.iconst 0, 1) ∧ 7 = 6 + 1 := ⟨by decide +kernel, rfl⟩
theorem dX2_begin_7 : decode cX2_begin 7 = .ok (.putfield 24, 3) ∧ 10 = 7 + 3 := ⟨by decide +kernel, rfl⟩
theorem dX2_begin_10 : decode cX2_begin 10 = .ok (.aload_n 0, 1) ∧ 11 = 10 + 1 := ⟨by decide +kernel, rfl⟩
theorem dX2_begin_11 : decode cX2_begin 11 = .ok (.iconst (-1), 1) ∧ 12 = 11 + 1 := ⟨by decide +kernel, rfl⟩
theorem dX2_begin_12 : decode cX2_begin 12 = .ok (.putfield 27, 3) ∧ 15 = 12 + 3 := ⟨by decide +kernel, rfl⟩
theorem dX2_begin_15 : decode cX2_begin 15 = .ok (.aload_n 0, 1) ∧ 16 = 15 + 1 := ⟨by decide +kernel, rfl⟩
theorem dX2_begin_16 : decode cX2_begin 16 = .ok (.invokevirtual 34, 3) ∧ 19 = 16 + 3 := ⟨by decide +kernel, rfl⟩
theorem dX2_begin_19 : decode cX2_begin 19 = .ok (.return_, 1) ∧ 20 = 19 + 1 := ⟨by decide +kernel, rfl⟩
theorem dX2_advance_0 : decode cX2_advance 0 = .ok (.aload_n 0, 1) ∧ 1 = 0 + 1 := ⟨by decide +kernel, rfl⟩
theorem dX2_advance_1 : decode cX2_advance 1 = .ok (.aload_n 0, 1) ∧ 2 = 1 + 1 := ⟨by decide +kernel, rfl⟩
theorem dX2_advance_2 : decode cX2_advance 2 = .ok (.getfield 18, 3) ∧ 5 = 2 + 3 := ⟨by decide +kernel, rfl⟩
theorem dX2_advance_5 : decode cX2_advance 5 = .ok (.putfield 15, 3) ∧ 8 = 5 + 3 := ⟨by decide +kernel, rfl⟩
theorem dX2_advance_8 : decode cX2_advance 8 = .ok (.aload_n 0, 1) ∧ 9 = 8 + 1 := ⟨by decide +kernel, rfl⟩
theorem dX2_advance_9 : decode cX2_advance 9 = .ok (.getfield 15, 3) ∧ 12 = 9 + 3 := ⟨by decide +kernel, rfl⟩
theorem dX2_advance_12 : decode cX2_advance 12 = .ok (.aload_n 0, 1) ∧ 13 = 12 + 1 := ⟨by decide +kernel, rfl⟩
theorem dX2_advance_13 : decode cX2_advance 13 = .ok (.getfield 30, 3) ∧ 16 = 13 + 3 := ⟨by decide +kernel, rfl⟩
theorem dX2_advance_16 : decode cX2_advance 16 = .ok (.getfield 37, 3) ∧ 19 = 16 + 3 := ⟨by decide +kernel, rfl⟩
theorem dX2_advance_19 : decode cX2_advance 19 = .ok (.if_icmp .ge 48, 3) ∧ 22 = 19 + 3 := ⟨by decide +kernel, rfl⟩
theorem dX2_advance_22 : decode cX2_advance 22 = .ok (.aload_n 0, 1) ∧ 23 = 22 + 1 := ⟨by decide +kernel, rfl⟩
theorem dX2_advance_23 : decode cX2_advance 23 = .ok (.getfield 30, 3) ∧ 26 = 23 + 3 := ⟨by decide +kernel, rfl⟩
theorem dX2_advance_26 : decode cX2_advance 26 = .ok (.aload_n 0, 1) ∧ 27 = 26 + 1 := ⟨by decide +kernel, rfl⟩
theorem dX2_advance_27 : decode cX2_advance 27 = .ok (.getfield 15, 3) ∧ 30 = 27 + 3 := ⟨by decide +kernel, rfl⟩
theorem dX2_advance_30 : decode cX2_advance 30 = .ok (.invokevirtual 42, 3) ∧ 33 = 30 + 3 := ⟨by decide +kernel, rfl⟩
theorem dX2_advance_33 : decode cX2_advance 33 = .ok (.bipush 32, 2) ∧ 35 = 33 + 2 := ⟨by decide +kernel, rfl⟩
theorem dX2_advance_35 : decode cX2_advance 35 = .ok (.if_icmp .eq 19, 3) ∧ 38 = 35 + 3 := ⟨by decide +kernel, rfl⟩
theorem dX2_advance_38 : decode cX2_advance 38 = .ok (.aload_n 0, 1) ∧ 39 = 38 + 1 := ⟨by decide +kernel, rfl⟩
theorem dX2_advance_39 : decode cX2_advance 39 = .ok (.getfield 30, 3) ∧ 42 = 39 + 3 := ⟨by decide +kernel, rfl⟩
theorem dX2_advance_42 : decode cX2_advance 42 = .ok (.aload_n 0, 1) ∧ 43 = 42 + 1 := ⟨by decide +kernel, rfl⟩
theorem dX2_advance_43 : decode cX2_advance 43 = .ok (.getfield 15, 3) ∧ 46 = 43 + 3 := ⟨by decide +kernel, rfl⟩
theorem dX2_advance_46 : decode cX2_advance 46 = .ok (.invokevirtual 42, 3) ∧ 49 = 46 + 3 := ⟨by decide +kernel, rfl⟩
theorem dX2_advance_49 : decode cX2_advance 49 = .ok (.bipush 10, 2) ∧ 51 = 49 + 2 := ⟨by decide +kernel, rfl⟩
theorem dX2_advance_51 : decode cX2_advance 51 = .ok (.if_icmp .ne 16, 3) ∧ 54 = 51 + 3 := ⟨by decide +kernel, rfl⟩
theorem dX2_advance_54 : decode cX2_advance 54 = .ok (.aload_n 0, 1) ∧ 55 = 54 + 1 := ⟨by decide +kernel, rfl⟩
theorem dX2_advance_55 : decode cX2_advance 55 = .ok (.dup, 1) ∧ 56 = 55 + 1 := ⟨by decide +kernel, rfl⟩
theorem dX2_advance_56 : decode cX2_advance 56 = .ok (.getfield 15, 3) ∧ 59 = 56 + 3 := ⟨by decide +kernel, rfl⟩
theorem dX2_advance_59 : decode cX2_advance 59 = .ok (.iconst 1, 1) ∧ 60 = 59 + 1 := ⟨by decide +kernel, rfl⟩
theorem dX2_advance_60 : decode cX2_advance 60 = .ok (.iadd, 1) ∧ 61 = 60 + 1 := ⟨by decide +kernel, rfl⟩
theorem dX2_advance_61 : decode cX2_advance 61 = .ok (.putfield 15, 3) ∧ 64 = 61 + 3 := ⟨by decide +kernel, rfl⟩
theorem dX2_advance_64 : decode cX2_advance 64 = .ok (.goto (-56), 3) ∧ 67 = 64 + 3 := ⟨by decide +kernel, rfl⟩
theorem dX2_advance_67 : decode cX2_advance 67 = .ok (.aload_n 0, 1) ∧ 68 = 67 + 1 := ⟨by decide +kernel, rfl⟩
theorem dX2_advance_68 : decode cX2_advance 68 = .ok (.aload_n 0, 1) ∧ 69 = 68 + 1 := ⟨by decide +kernel, rfl⟩
theorem dX2_advance_69 : decode cX2_advance 69 = .ok (.getfield 30, 3) ∧ 72 = 69 + 3 := ⟨by decide +kernel, rfl⟩
theorem dX2_advance_72 : decode cX2_advance 72 = .ok (.aload_n 0, 1) ∧ 73 = 72 + 1 := ⟨by decide +kernel, rfl⟩
theorem dX2_advance_73 : decode cX2_advance 73 = .ok (.getfield 15, 3) ∧ 76 = 73 + 3 := ⟨by decide +kernel, rfl⟩
theorem dX2_advance_76 : decode cX2_advance 76 = .ok (.invokevirtual 42, 3) ∧ 79 = 76 + 3 := ⟨by decide +kernel, rfl⟩
theorem dX2_advance_79 : decode cX2_advance 79 = .ok (.invokestatic 46, 3) ∧ 82 = 79 + 3 := ⟨by decide +kernel, rfl⟩
theorem dX2_advance_82 : decode cX2_advance 82 = .ok (.putfield 11, 3) ∧ 85 = 82 + 3 := ⟨by decide +kernel, rfl⟩
theorem dX2_advance_85 : decode cX2_advance 85 = .ok (.aload_n 0, 1) ∧ 86 = 85 + 1 := ⟨by decide +kernel, rfl⟩
theorem dX2_advance_86 : decode cX2_advance 86 = .ok (.aload_n 0, 1) ∧ 87 = 86 + 1 := ⟨by decide +kernel, rfl⟩
theorem dX2_advance_87 : decode cX2_advance 87 = .ok (.getfield 15, 3) ∧ 90 = 87 + 3 := ⟨by decide +kernel, rfl⟩
theorem dX2_advance_90 : decode cX2_advance 90 = .ok (.iconst 1, 1) ∧ 91 = 90 + 1 := ⟨by decide +kernel, rfl⟩
theorem dX2_advance_91 : decode cX2_advance 91 = .ok (.iadd, 1) ∧ 92 = 91 + 1 := ⟨by decide +kernel, rfl⟩
theorem dX2_advance_92 : decode cX2_advance 92 = .ok (.aload_n 0, 1) ∧ 93 = 92 + 1 := ⟨by decide +kernel, rfl⟩
theorem dX2_advance_93 : decode cX2_advance 93 = .ok (.getfield 30, 3) ∧ 96 = 93 + 3 := ⟨by decide +kernel, rfl⟩
theorem dX2_advance_96 : decode cX2_advance 96 = .ok (.getfield 37, 3) ∧ 99 = 96 + 3 := ⟨by decide +kernel, rfl⟩
theorem dX2_advance_99 : decode cX2_advance 99 = .ok (.invokestatic 49, 3) ∧ 102 = 99 + 3 := ⟨by decide +kernel, rfl⟩
theorem dX2_advance_102 : decode cX2_advance 102 = .ok (.putfield 18, 3) ∧ 105 = 102 + 3 := ⟨by decide +kernel, rfl⟩
theorem dX2_advance_105 : decode cX2_advance 105 = .ok (.aload_n 0, 1) ∧ 106 = 105 + 1 := ⟨by decide +kernel, rfl⟩
theorem dX2_advance_106 : decode cX2_advance 106 = .ok (.getfield 11, 3) ∧ 109 = 106 + 3 := ⟨by decide +kernel, rfl⟩
theorem dX2_advance_109 : decode cX2_advance 109 = .ok (.iconst 1, 1) ∧ 110 = 109 + 1 := ⟨by decide +kernel, rfl⟩
theorem dX2_advance_110 : decode cX2_advance 110 = .ok (.if_icmp .eq 11, 3) ∧ 113 = 110 + 3 := ⟨by decide +kernel, rfl⟩
theorem dX2_advance_113 : decode cX2_advance 113 = .ok (.aload_n 0, 1) ∧ 114 = 113 + 1 := ⟨by decide +kernel, rfl⟩
theorem dX2_advance_114 : decode cX2_advance 114 = .ok (.getfield 11, 3) ∧ 117 = 114 + 3 := ⟨by decide +kernel, rfl⟩
theorem dX2_advance_117 : decode cX2_advance 117 = .ok (.iconst 2, 1) ∧ 118 = 117 + 1 := ⟨by decide +kernel, rfl⟩
theorem dX2_advance_118 : decode cX2_advance 118 = .ok (.if_icmp .ne 51, 3) ∧ 121 = 118 + 3 := ⟨by decide +kernel, rfl⟩
theorem dX2_advance_121 : decode cX2_advance 121 = .ok (.aload_n 0, 1) ∧ 122 = 121 + 1 := ⟨by decide +kernel, rfl⟩
theorem dX2_advance_122 : decode cX2_advance 122 = .ok (.getfield 18, 3) ∧ 125 = 122 + 3 := ⟨by decide +kernel, rfl⟩
theorem dX2_advance_125 : decode cX2_advance 125 = .ok (.aload_n 0, 1) ∧ 126 = 125 + 1 := ⟨by decide +kernel, rfl⟩
theorem dX2_advance_126 : decode cX2_advance 126 = .ok (.getfield 30, 3) ∧ 129 = 126 + 3 := ⟨by decide +kernel, rfl⟩
theorem dX2_advance_129 : decode cX2_advance 129 = .ok (.getfield 37, 3) ∧ 132 = 129 + 3 := ⟨by decide +kernel, rfl⟩
theorem dX2_advance_132 : decode cX2_advance 132 = .ok (.if_icmp .ge 37, 3) ∧ 135 = 132 + 3 := ⟨by decide +kernel, rfl⟩
theorem dX2_advance_135 : decode cX2_advance 135 = .ok (.aload_n 0, 1) ∧ 136 = 135 + 1 := ⟨by decide +kernel, rfl⟩
theorem dX2_advance_136 : decode cX2_advance 136 = .ok (.getfield 30, 3) ∧ 139 = 136 + 3 := ⟨by decide +kernel, rfl⟩
theorem dX2_advance_139 : decode cX2_advance 139 = .ok (.aload_n 0, 1) ∧ 140 = 139 + 1 := ⟨by decide +kernel, rfl⟩
theorem dX2_advance_140 : decode cX2_advance 140 = .ok (.getfield 18, 3) ∧ 143 = 140 + 3 := ⟨by decide +kernel, rfl⟩
theorem dX2_advance_143 : decode cX2_advance 143 = .ok (.invokevirtual 42, 3) ∧ 146 = 143 + 3 := ⟨by decide +kernel, rfl⟩
theorem dX2_advance_146 : decode cX2_advance 146 = .ok (.invokestatic 46, 3) ∧ 149 = 146 + 3 := ⟨by decide +kernel, rfl⟩
theorem dX2_advance_149 : decode cX2_advance 149 = .ok (.aload_n 0, 1) ∧ 150 = 149 + 1 := ⟨by decide +kernel, rfl⟩
theorem dX2_advance_150 : decode cX2_advance 150 = .ok (.getfield 11, 3) ∧ 153 = 150 + 3 := ⟨by decide +kernel, rfl⟩
theorem dX2_advance_153 : decode cX2_advance 153 = .ok (.if_icmp .ne 16, 3) ∧ 156 = 153 + 3 := ⟨by decide +kernel, rfl⟩
theorem dX2_advance_156 : decode cX2_advance 156 = .ok (.aload_n 0, 1) ∧ 157 = 156 + 1 := ⟨by decide +kernel, rfl⟩
theorem dX2_advance_157 : decode cX2_advance 157 = .ok (.dup, 1) ∧ 158 = 157 + 1 := ⟨by decide +kernel, rfl⟩
theorem dX2_advance_158 : decode cX2_advance 158 = .ok (.getfield 18, 3) ∧ 161 = 158 + 3 := ⟨by decide +kernel, rfl⟩
theorem dX2_advance_161 : decode cX2_advance 161 = .ok (.iconst 1, 1) ∧ 162 = 161 + 1 := ⟨by decide +kernel, rfl⟩
theorem dX2_advance_162 : decode cX2_advance 162 = .ok (.iadd, 1) ∧ 163 = 162 + 1 := ⟨by decide +kernel, rfl⟩
theorem dX2_advance_163 : decode cX2_advance 163 = .ok (.putfield 18, 3) ∧ 166 = 163 + 3 := ⟨by decide +kernel, rfl⟩
theorem dX2_advance_166 : decode cX2_advance 166 = .ok (.goto (-45), 3) ∧ 169 = 166 + 3 := ⟨by decide +kernel, rfl⟩
theorem dX2_advance_169 : decode cX2_advance 169 = .ok (.aload_n 0, 1) ∧ 170 = 169 + 1 := ⟨by decide +kernel, rfl⟩
theorem dX2_advance_170 : decode cX2_advance 170 = .ok (.iconst 0, 1) ∧ 171 = 170 + 1 := ⟨by decide +kernel, rfl⟩
theorem dX2_advance_171 : decode cX2_advance 171 = .ok (.putfield 21, 3) ∧ 174 = 171 + 3 := ⟨by decide +kernel, rfl⟩
theorem dX2_advance_174 : decode cX2_advance 174 = .ok (.aload_n 0, 1) ∧ 175 = 174 + 1 := ⟨by decide +kernel, rfl⟩
theorem dX2_advance_175 : decode cX2_advance 175 = .ok (.getfield 15, 3) ∧ 178 = 175 + 3 := ⟨by decide +kernel, rfl⟩
theorem dX2_advance_178 : decode cX2_advance 178 = .ok (.istore_n 1, 1) ∧ 179 = 178 + 1 := ⟨by decide +kernel, rfl⟩
theorem dX2_advance_179 : decode cX2_advance 179 = .ok (.aload_n 0, 1) ∧ 180 = 179 + 1 := ⟨by decide +kernel, rfl⟩
theorem dX2_advance_180 : decode cX2_advance 180 = .ok (.getfield 11, 3) ∧ 183 = 180 + 3 := ⟨by decide +kernel, rfl⟩
theorem dX2_advance_183 : decode cX2_advance 183 = .ok (.iconst 2, 1) ∧ 184 = 183 + 1 := ⟨by decide +kernel, rfl⟩
theorem dX2_advance_184 : decode cX2_advance 184 = .ok (.if_icmp .ne 51, 3) ∧ 187 = 184 + 3 := ⟨by decide +kernel, rfl⟩
theorem dX2_advance_187 : decode cX2_advance 187 = .ok (.iload_n 1, 1) ∧ 188 = 187 + 1 := ⟨by decide +kernel, rfl⟩
theorem dX2_advance_188 : decode cX2_advance 188 = .ok (.aload_n 0, 1) ∧ 189 = 188 + 1 := ⟨by decide +kernel, rfl⟩
theorem dX2_advance_189 : decode cX2_advance 189 = .ok (.getfield 18, 3) ∧ 192 = 189 + 3 := ⟨by decide +kernel, rfl⟩
theorem dX2_advance_192 : decode cX2_advance 192 = .ok (.if_icmp .ge 43, 3) ∧ 195 = 192 + 3 := ⟨by decide +kernel, rfl⟩
theorem dX2_advance_195 : decode cX2_advance 195 = .ok (.iload_n 1, 1) ∧ 196 = 195 + 1 := ⟨by decide +kernel, rfl⟩
theorem dX2_advance_196 : decode cX2_advance 196 = .ok (.aload_n 0, 1) ∧ 197 = 196 + 1 := ⟨by decide +kernel, rfl⟩
theorem dX2_advance_197 : decode cX2_advance 197 = .ok (.getfield 15, 3) ∧ 200 = 197 + 3 := ⟨by decide +kernel, rfl⟩
theorem dX2_advance_200 : decode cX2_advance 200 = .ok (.bipush 7, 2) ∧ 202 = 200 + 2 := ⟨by decide +kernel, rfl⟩
theorem dX2_advance_202 : decode cX2_advance 202 = .ok (.iadd, 1) ∧ 203 = 202 + 1 := ⟨by decide +kernel, rfl⟩
theorem dX2_advance_203 : decode cX2_advance 203 = .ok (.if_icmp .ge 32, 3) ∧ 206 = 203 + 3 := ⟨by decide +kernel, rfl⟩
theorem dX2_advance_206 : decode cX2_advance 206 = .ok (.aload_n 0, 1) ∧ 207 = 206 + 1 := ⟨by decide +kernel, rfl⟩
theorem dX2_advance_207 : decode cX2_advance 207 = .ok (.aload_n 0, 1) ∧ 208 = 207 + 1 := ⟨by decide +kernel, rfl⟩
theorem dX2_advance_208 : decode cX2_advance 208 = .ok (.getfield 21, 3) ∧ 211 = 208 + 3 := ⟨by decide +kernel, rfl⟩
theorem dX2_advance_211 : decode cX2_advance 211 = .ok (.bipush 10, 2) ∧ 213 = 211 + 2 := ⟨by decide +kernel, rfl⟩
theorem dX2_advance_213 : decode cX2_advance 213 = .ok (.imul, 1) ∧ 214 = 213 + 1 := ⟨by decide +kernel, rfl⟩
theorem dX2_advance_214 : decode cX2_advance 214 = .ok (.aload_n 0, 1) ∧ 215 = 214 + 1 := ⟨by decide +kernel, rfl⟩
theorem dX2_advance_215 : decode cX2_advance 215 = .ok (.getfield 30, 3) ∧ 218 = 215 + 3 := ⟨by decide +kernel, rfl⟩
theorem dX2_advance_218 : decode cX2_advance 218 = .ok (.iload_n 1, 1) ∧ 219 = 218 + 1 := ⟨by decide +kernel, rfl⟩
theorem dX2_advance_219 : decode cX2_advance 219 = .ok (.invokevirtual 42, 3) ∧ 222 = 219 + 3 := ⟨by decide +kernel, rfl⟩
theorem dX2_advance_222 : decode cX2_advance 222 = .ok (.iadd, 1) ∧ 223 = 222 + 1 := ⟨by decide +kernel, rfl⟩
theorem dX2_advance_223 : decode cX2_advance 223 = .ok (.bipush 48, 2) ∧ 225 = 223 + 2 := ⟨by decide +kernel, rfl⟩
theorem dX2_advance_225 : decode cX2_advance 225 = .ok (.isub, 1) ∧ 226 = 225 + 1 := ⟨by decide +kernel, rfl⟩
theorem dX2_advance_226 : decode cX2_advance 226 = .ok (.putfield 21, 3) ∧ 229 = 226 + 3 := ⟨by decide +kernel, rfl⟩
theorem dX2_advance_229 : decode cX2_advance 229 = .ok (.iinc 1 1, 3) ∧ 232 = 229 + 3 := ⟨by decide +kernel, rfl⟩
theorem dX2_advance_232 : decode cX2_advance 232 = .ok (.goto (-53), 3) ∧ 235 = 232 + 3 := ⟨by decide +kernel, rfl⟩
theorem dX2_advance_235 : decode cX2_advance 235 = .ok (.return_, 1) ∧ 236 = 235 + 1 := ⟨by decide +kernel, rfl⟩
theorem dX2_kindOf_0 : decode cX2_kindOf 0 = .ok (.iload_n 0, 1) ∧ 1 = 0 + 1 := ⟨by decide +kernel, rfl⟩
theorem dX2_kindOf_1 : decode cX2_kindOf 1 = .ok (.iconst (-1), 1) ∧ 2 = 1 + 1 := ⟨by decide +kernel, rfl⟩
theorem dX2_kindOf_2 : decode cX2_kindOf 2 = .ok (.if_icmp .ne 5, 3) ∧ 5 = 2 + 3 := ⟨by decide +kernel, rfl⟩
theorem dX2_kindOf_5 : decode cX2_kindOf 5 = .ok (.iconst 0, 1) ∧ 6 = 5 + 1 := ⟨by decide +kernel, rfl⟩
theorem dX2_kindOf_6 : decode cX2_kindOf 6 = .ok (.ireturn, 1) ∧ 7 = 6 + 1 := ⟨by decide +kernel, rfl⟩
theorem dX2_kindOf_7 : decode cX2_kindOf 7 = .ok (.iload_n 0, 1) ∧ 8 = 7 + 1 := ⟨by decide +kernel, rfl⟩
theorem dX2_kindOf_8 : decode cX2_kindOf 8 = .ok (.bipush 97, 2) ∧ 10 = 8 + 2 := ⟨by decide +kernel, rfl⟩
theorem dX2_kindOf_10 : decode cX2_kindOf 10 = .ok (.if_icmp .lt 11, 3) ∧ 13 = 10 + 3 := ⟨by decide +kernel, rfl⟩
theorem dX2_kindOf_13 : decode cX2_kindOf 13 = .ok (.iload_n 0, 1) ∧ 14 = 13 + 1 := ⟨by decide +kernel, rfl⟩
theorem dX2_kindOf_14 : decode cX2_kindOf 14 = .ok (.bipush 122, 2) ∧ 16 = 14 + 2 := ⟨by decide +kernel, rfl⟩
theorem dX2_kindOf_16 : decode cX2_kindOf 16 = .ok (.if_icmp .gt 5, 3) ∧ 19 = 16 + 3 := ⟨by decide +kernel, rfl⟩
theorem dX2_kindOf_19 : decode cX2_kindOf 19 = .ok (.iconst 1, 1) ∧ 20 = 19 + 1 := ⟨by decide +kernel, rfl⟩
theorem dX2_kindOf_20 : decode cX2_kindOf 20 = .ok (.ireturn, 1) ∧ 21 = 20 + 1 := ⟨by decide +kernel, rfl⟩
theorem dX2_kindOf_21 : decode cX2_kindOf 21 = .ok (.iload_n 0, 1) ∧ 22 = 21 + 1 := ⟨by decide +kernel, rfl⟩
theorem dX2_kindOf_22 : decode cX2_kindOf 22 = .ok (.bipush 48, 2) ∧ 24 = 22 + 2 := ⟨by decide +kernel, rfl⟩
theorem dX2_kindOf_24 : decode cX2_kindOf 24 = .ok (.if_icmp .lt 11, 3) ∧ 27 = 24 + 3 := ⟨by decide +kernel, rfl⟩
theorem dX2_kindOf_27 : decode cX2_kindOf 27 = .ok (.iload_n 0, 1) ∧ 28 = 27 + 1 := ⟨by decide +kernel, rfl⟩
theorem dX2_kindOf_28 : decode cX2_kindOf 28 = .ok (.bipush 57, 2) ∧ 30 = 28 + 2 := ⟨by decide +kernel, rfl⟩
theorem dX2_kindOf_30 : decode cX2_kindOf 30 = .ok (.if_icmp .gt 5, 3) ∧ 33 = 30 + 3 := ⟨by decide +kernel, rfl⟩
theorem dX2_kindOf_33 : decode cX2_kindOf 33 = .ok (.iconst 2, 1) ∧ 34 = 33 + 1 := ⟨by decide +kernel, rfl⟩
theorem dX2_kindOf_34 : decode cX2_kindOf 34 = .ok (.ireturn, 1) ∧ 35 = 34 + 1 := ⟨by decide +kernel, rfl⟩
theorem dX2_kindOf_35 : decode cX2_kindOf 35 = .ok (.iload_n 0, 1) ∧ 36 = 35 + 1 := ⟨by decide +kernel, rfl⟩
theorem dX2_kindOf_36 : decode cX2_kindOf 36 = .ok (.bipush 59, 2) ∧ 38 = 36 + 2 := ⟨by decide +kernel, rfl⟩
theorem dX2_kindOf_38 : decode cX2_kindOf 38 = .ok (.if_icmp .ne 7, 3) ∧ 41 = 38 + 3 := ⟨by decide +kernel, rfl⟩
theorem dX2_kindOf_41 : decode cX2_kindOf 41 = .ok (.iconst 3, 1) ∧ 42 = 41 + 1 := ⟨by decide +kernel, rfl⟩
theorem dX2_kindOf_42 : decode cX2_kindOf 42 = .ok (.goto 4, 3) ∧ 45 = 42 + 3 := ⟨by decide +kernel, rfl⟩
theorem dX2_kindOf_45 : decode cX2_kindOf 45 = .ok (.iconst 4, 1) ∧ 46 = 45 + 1 := ⟨by decide +kernel, rfl⟩
theorem dX2_kindOf_46 : decode cX2_kindOf 46 = .ok (.ireturn, 1) ∧ 47 = 46 + 1 := ⟨by decide +kernel, rfl⟩
theorem dX2_fail_0 : decode cX2_fail 0 = .ok (.aload_n 0, 1) ∧ 1 = 0 + 1 := ⟨by decide +kernel, rfl⟩
theorem dX2_fail_1 : decode cX2_fail 1 = .ok (.getfield 24, 3) ∧ 4 = 1 + 3 := ⟨by decide +kernel, rfl⟩
theorem dX2_fail_4 : decode cX2_fail 4 = .ok (.ifCond .ne 13, 3) ∧ 7 = 4 + 3 := ⟨by decide +kernel, rfl⟩
theorem dX2_fail_7 : decode cX2_fail 7 = .ok (.aload_n 0, 1) ∧ 8 = 7 + 1 := ⟨by decide +kernel, rfl⟩
theorem dX2_fail_8 : decode cX2_fail 8 = .ok (.iload_n 1, 1) ∧ 9 = 8 + 1 := ⟨by decide +kernel, rfl⟩
theorem dX2_fail_9 : decode cX2_fail 9 = .ok (.putfield 24, 3) ∧ 12 = 9 + 3 := ⟨by decide +kernel, rfl⟩
theorem dX2_fail_12 : decode cX2_fail 12 = .ok (.aload_n 0, 1) ∧ 13 = 12 + 1 := ⟨by decide +kernel, rfl⟩
theorem dX2_fail_13 : decode cX2_fail 13 = .ok (.iload_n 2, 1) ∧ 14 = 13 + 1 := ⟨by decide +kernel, rfl⟩
theorem dX2_fail_14 : decode cX2_fail 14 = .ok (.putfield 27, 3) ∧ 17 = 14 + 3 := ⟨by decide +kernel, rfl⟩
theorem dX2_fail_17 : decode cX2_fail 17 = .ok (.return_, 1) ∧ 18 = 17 + 1 := ⟨by decide +kernel, rfl⟩
theorem dX2_isWord_0 : decode cX2_isWord 0 = .ok (.aload_n 0, 1) ∧ 1 = 0 + 1 := ⟨by decide +kernel, rfl⟩
theorem dX2_isWord_1 : decode cX2_isWord 1 = .ok (.getfield 11, 3) ∧ 4 = 1 + 3 := ⟨by decide +kernel, rfl⟩
theorem dX2_isWord_4 : decode cX2_isWord 4 = .ok (.iconst 1, 1) ∧ 5 = 4 + 1 := ⟨by decide +kernel, rfl⟩
theorem dX2_isWord_5 : decode cX2_isWord 5 = .ok (.if_icmp .ne 19, 3) ∧ 8 = 5 + 3 := ⟨by decide +kernel, rfl⟩
theorem dX2_isWord_8 : decode cX2_isWord 8 = .ok (.aload_n 0, 1) ∧ 9 = 8 + 1 := ⟨by decide +kernel, rfl⟩
theorem dX2_isWord_9 : decode cX2_isWord 9 = .ok (.getfield 18, 3) ∧ 12 = 9 + 3 := ⟨by decide +kernel, rfl⟩
theorem dX2_isWord_12 : decode cX2_isWord 12 = .ok (.aload_n 0, 1) ∧ 13 = 12 + 1 := ⟨by decide +kernel, rfl⟩
theorem dX2_isWord_13 : decode cX2_isWord 13 = .ok (.getfield 15, 3) ∧ 16 = 13 + 3 := ⟨by decide +kernel, rfl⟩
theorem dX2_isWord_16 : decode cX2_isWord 16 = .ok (.isub, 1) ∧ 17 = 16 + 1 := ⟨by decide +kernel, rfl⟩
theorem dX2_isWord_17 : decode cX2_isWord 17 = .ok (.aload_n 1, 1) ∧ 18 = 17 + 1 := ⟨by decide +kernel, rfl⟩
theorem dX2_isWord_18 : decode cX2_isWord 18 = .ok (.invokevirtual 55, 3) ∧ 21 = 18 + 3 := ⟨by decide +kernel, rfl⟩
theorem dX2_isWord_21 : decode cX2_isWord 21 = .ok (.if_icmp .eq 5, 3) ∧ 24 = 21 + 3 := ⟨by decide +kernel, rfl⟩
theorem dX2_isWord_24 : decode cX2_isWord 24 = .ok (.iconst 0, 1) ∧ 25 = 24 + 1 := ⟨by decide +kernel, rfl⟩
theorem dX2_isWord_25 : decode cX2_isWord 25 = .ok (.ireturn, 1) ∧ 26 = 25 + 1 := ⟨by decide +kernel, rfl⟩
theorem dX2_isWord_26 : decode cX2_isWord 26 = .ok (.iconst 0, 1) ∧ 27 = 26 + 1 := ⟨by decide +kernel, rfl⟩
theorem dX2_isWord_27 : decode cX2_isWord 27 = .ok (.istore_n 2, 1) ∧ 28 = 27 + 1 := ⟨by decide +kernel, rfl⟩
theorem dX2_isWord_28 : decode cX2_isWord 28 = .ok (.iload_n 2, 1) ∧ 29 = 28 + 1 := ⟨by decide +kernel, rfl⟩
theorem dX2_isWord_29 : decode cX2_isWord 29 = .ok (.aload_n 1, 1) ∧ 30 = 29 + 1 := ⟨by decide +kernel, rfl⟩
theorem dX2_isWord_30 : decode cX2_isWord 30 = .ok (.invokevirtual 55, 3) ∧ 33 = 30 + 3 := ⟨by decide +kernel, rfl⟩
theorem dX2_isWord_33 : decode cX2_isWord 33 = .ok (.if_icmp .ge 32, 3) ∧ 36 = 33 + 3 := ⟨by decide +kernel, rfl⟩
theorem dX2_isWord_36 : decode cX2_isWord 36 = .ok (.aload_n 0, 1) ∧ 37 = 36 + 1 := ⟨by decide +kernel, rfl⟩
theorem dX2_isWord_37 : decode cX2_isWord 37 = .ok (.getfield 30, 3) ∧ 40 = 37 + 3 := ⟨by decide +kernel, rfl⟩
theorem dX2_isWord_40 : decode cX2_isWord 40 = .ok (.aload_n 0, 1) ∧ 41 = 40 + 1 := ⟨by decide +kernel, rfl⟩
theorem dX2_isWord_41 : decode cX2_isWord 41 = .ok (.getfield 15, 3) ∧ 44 = 41 + 3 := ⟨by decide +kernel, rfl⟩
theorem dX2_isWord_44 : decode cX2_isWord 44 = .ok (.iload_n 2, 1) ∧ 45 = 44 + 1 := ⟨by decide +kernel, rfl⟩
theorem dX2_isWord_45 : decode cX2_isWord 45 = .ok (.iadd, 1) ∧ 46 = 45 + 1 := ⟨by decide +kernel, rfl⟩
theorem dX2_isWord_46 : decode cX2_isWord 46 = .ok (.invokevirtual 42, 3) ∧ 49 = 46 + 3 := ⟨by decide +kernel, rfl⟩
theorem dX2_isWord_49 : decode cX2_isWord 49 = .ok (.aload_n 1, 1) ∧ 50 = 49 + 1 := ⟨by decide +kernel, rfl⟩
theorem dX2_isWord_50 : decode cX2_isWord 50 = .ok (.iload_n 2, 1) ∧ 51 = 50 + 1 := ⟨by decide +kernel, rfl⟩
theorem dX2_isWord_51 : decode cX2_isWord 51 = .ok (.invokevirtual 60, 3) ∧ 54 = 51 + 3 := ⟨by decide +kernel, rfl⟩
theorem dX2_isWord_54 : decode cX2_isWord 54 = .ok (.if_icmp .eq 5, 3) ∧ 57 = 54 + 3 := ⟨by decide +kernel, rfl⟩
theorem dX2_isWord_57 : decode cX2_isWord 57 = .ok (.iconst 0, 1) ∧ 58 = 57 + 1 := ⟨by decide +kernel, rfl⟩
theorem dX2_isWord_58 : decode cX2_isWord 58 = .ok (.ireturn, 1) ∧ 59 = 58 + 1 := ⟨by decide +kernel, rfl⟩
theorem dX2_isWord_59 : decode cX2_isWord 59 = .ok (.iinc 2 1, 3) ∧ 62 = 59 + 3 := ⟨by decide +kernel, rfl⟩
theorem dX2_isWord_62 : decode cX2_isWord 62 = .ok (.goto (-34), 3) ∧ 65 = 62 + 3 := ⟨by decide +kernel, rfl⟩
theorem dX2_isWord_65 : decode cX2_isWord 65 = .ok (.iconst 1, 1) ∧ 66 = 65 + 1 := ⟨by decide +kernel, rfl⟩
theorem dX2_isWord_66 : decode cX2_isWord 66 = .ok (.ireturn, 1) ∧ 67 = 66 + 1 := ⟨by decide +kernel, rfl⟩
theorem dX2_readNumber_0 : decode cX2_readNumber 0 = .ok (.aload_n 0, 1) ∧ 1 = 0 + 1 := ⟨by decide +kernel, rfl⟩
theorem dX2_readNumber_1 : decode cX2_readNumber 1 = .ok (.getfield 24, 3) ∧ 4 = 1 + 3 := ⟨by decide +kernel, rfl⟩
theorem dX2_readNumber_4 : decode cX2_readNumber 4 = .ok (.ifCond .eq 5, 3) ∧ 7 = 4 + 3 := ⟨by decide +kernel, rfl⟩
theorem dX2_readNumber_7 : decode cX2_readNumber 7 = .ok (.iconst 0, 1) ∧ 8 = 7 + 1 := ⟨by decide +kernel, rfl⟩
theorem dX2_readNumber_8 : decode cX2_readNumber 8 = .ok (.ireturn, 1) ∧ 9 = 8 + 1 := ⟨by decide +kernel, rfl⟩
theorem dX2_readNumber_9 : decode cX2_readNumber 9 = .ok (.aload_n 0, 1) ∧ 10 = 9 + 1 := ⟨by decide +kernel, rfl⟩
theorem dX2_readNumber_10 : decode cX2_readNumber 10 = .ok (.getfield 11, 3) ∧ 13 = 10 + 3 := ⟨by decide +kernel, rfl⟩
theorem dX2_readNumber_13 : decode cX2_readNumber 13 = .ok (.iconst 2, 1) ∧ 14 = 13 + 1 := ⟨by decide +kernel, rfl⟩
theorem dX2_readNumber_14 : decode cX2_readNumber 14 = .ok (.if_icmp .eq 14, 3) ∧ 17 = 14 + 3 := ⟨by decide +kernel, rfl⟩
theorem dX2_readNumber_17 : decode cX2_readNumber 17 = .ok (.aload_n 0, 1) ∧ 18 = 17 + 1 := ⟨by decide +kernel, rfl⟩
theorem dX2_readNumber_18 : decode cX2_readNumber 18 = .ok (.iconst 1, 1) ∧ 19 = 18 + 1 := ⟨by decide +kernel, rfl⟩
theorem dX2_readNumber_19 : decode cX2_readNumber 19 = .ok (.aload_n 0, 1) ∧ 20 = 19 + 1 := ⟨by decide +kernel, rfl⟩
theorem dX2_readNumber_20 : decode cX2_readNumber 20 = .ok (.getfield 15, 3) ∧ 23 = 20 + 3 := ⟨by decide +kernel, rfl⟩
theorem dX2_readNumber_23 : decode cX2_readNumber 23 = .ok (.invokevirtual 64, 3) ∧ 26 = 23 + 3 := ⟨by decide +kernel, rfl⟩
theorem dX2_readNumber_26 : decode cX2_readNumber 26 = .ok (.iconst 0, 1) ∧ 27 = 26 + 1 := ⟨by decide +kernel, rfl⟩
theorem dX2_readNumber_27 : decode cX2_readNumber 27 = .ok (.ireturn, 1) ∧ 28 = 27 + 1 := ⟨by decide +kernel, rfl⟩
theorem dX2_readNumber_28 : decode cX2_readNumber 28 = .ok (.aload_n 0, 1) ∧ 29 = 28 + 1 := ⟨by decide +kernel, rfl⟩
theorem dX2_readNumber_29 : decode cX2_readNumber 29 = .ok (.getfield 18, 3) ∧ 32 = 29 + 3 := ⟨by decide +kernel, rfl⟩
theorem dX2_readNumber_32 : decode cX2_readNumber 32 = .ok (.aload_n 0, 1) ∧ 33 = 32 + 1 := ⟨by decide +kernel, rfl⟩
theorem dX2_readNumber_33 : decode cX2_readNumber 33 = .ok (.getfield 15, 3) ∧ 36 = 33 + 3 := ⟨by decide +kernel, rfl⟩
theorem dX2_readNumber_36 : decode cX2_readNumber 36 = .ok (.isub, 1) ∧ 37 = 36 + 1 := ⟨by decide +kernel, rfl⟩
theorem dX2_readNumber_37 : decode cX2_readNumber 37 = .ok (.bipush 7, 2) ∧ 39 = 37 + 2 := ⟨by decide +kernel, rfl⟩
theorem dX2_readNumber_39 : decode cX2_readNumber 39 = .ok (.if_icmp .gt 19, 3) ∧ 42 = 39 + 3 := ⟨by decide +kernel, rfl⟩
theorem dX2_readNumber_42 : decode cX2_readNumber 42 = .ok (.aload_n 0, 1) ∧ 43 = 42 + 1 := ⟨by decide +kernel, rfl⟩
theorem dX2_readNumber_43 : decode cX2_readNumber 43 = .ok (.getfield 21, 3) ∧ 46 = 43 + 3 := ⟨by decide +kernel, rfl⟩
theorem dX2_readNumber_46 : decode cX2_readNumber 46 = .ok (.iload_n 1, 1) ∧ 47 = 46 + 1 := ⟨by decide +kernel, rfl⟩
theorem dX2_readNumber_47 : decode cX2_readNumber 47 = .ok (.if_icmp .lt 11, 3) ∧ 50 = 47 + 3 := ⟨by decide +kernel, rfl⟩
theorem dX2_readNumber_50 : decode cX2_readNumber 50 = .ok (.aload_n 0, 1) ∧ 51 = 50 + 1 := ⟨by decide +kernel, rfl⟩
theorem dX2_readNumber_51 : decode cX2_readNumber 51 = .ok (.getfield 21, 3) ∧ 54 = 51 + 3 := ⟨by decide +kernel, rfl⟩
theorem dX2_readNumber_54 : decode cX2_readNumber 54 = .ok (.iload_n 2, 1) ∧ 55 = 54 + 1 := ⟨by decide +kernel, rfl⟩
theorem dX2_readNumber_55 : decode cX2_readNumber 55 = .ok (.if_icmp .le 14, 3) ∧ 58 = 55 + 3 := ⟨by decide +kernel, rfl⟩
theorem dX2_readNumber_58 : decode cX2_readNumber 58 = .ok (.aload_n 0, 1) ∧ 59 = 58 + 1 := ⟨by decide +kernel, rfl⟩
theorem dX2_readNumber_59 : decode cX2_readNumber 59 = .ok (.iconst 2, 1) ∧ 60 = 59 + 1 := ⟨by decide +kernel, rfl⟩
theorem dX2_readNumber_60 : decode cX2_readNumber 60 = .ok (.aload_n 0, 1) ∧ 61 = 60 + 1 := ⟨by decide +kernel, rfl⟩
theorem dX2_readNumber_61 : decode cX2_readNumber 61 = .ok (.getfield 15, 3) ∧ 64 = 61 + 3 := ⟨by decide +kernel, rfl⟩
theorem dX2_readNumber_64 : decode cX2_readNumber 64 = .ok (.invokevirtual 64, 3) ∧ 67 = 64 + 3 := ⟨by decide +kernel, rfl⟩
theorem dX2_readNumber_67 : decode cX2_readNumber 67 = .ok (.iconst 0, 1) ∧ 68 = 67 + 1 := ⟨by decide +kernel, rfl⟩
theorem dX2_readNumber_68 : decode cX2_readNumber 68 = .ok (.ireturn, 1) ∧ 69 = 68 + 1 := ⟨by decide +kernel, rfl⟩
theorem dX2_readNumber_69 : decode cX2_readNumber 69 = .ok (.aload_n 0, 1) ∧ 70 = 69 + 1 := ⟨by decide +kernel, rfl⟩
theorem dX2_readNumber_70 : decode cX2_readNumber 70 = .ok (.getfield 21, 3) ∧ 73 = 70 + 3 := ⟨by decide +kernel, rfl⟩
theorem dX2_readNumber_73 : decode cX2_readNumber 73 = .ok (.istore_n 3, 1) ∧ 74 = 73 + 1 := ⟨by decide +kernel, rfl⟩
theorem dX2_readNumber_74 : decode cX2_readNumber 74 = .ok (.aload_n 0, 1) ∧ 75 = 74 + 1 := ⟨by decide +kernel, rfl⟩
theorem dX2_readNumber_75 : decode cX2_readNumber 75 = .ok (.invokevirtual 34, 3) ∧ 78 = 75 + 3 := ⟨by decide +kernel, rfl⟩
theorem dX2_readNumber_78 : decode cX2_readNumber 78 = .ok (.iload_n 3, 1) ∧ 79 = 78 + 1 := ⟨by decide +kernel, rfl⟩
theorem dX2_readNumber_79 : decode cX2_readNumber 79 = .ok (.ireturn, 1) ∧ 80 = 79 + 1 := ⟨by decide +kernel, rfl⟩
theorem dX2_readSemicolon_0 : decode cX2_readSemicolon 0 = .ok (.aload_n 0, 1) ∧ 1 = 0 + 1 := ⟨by decide +kernel, rfl⟩
theorem dX2_readSemicolon_1 : decode cX2_readSemicolon 1 = .ok (.getfield 24, 3) ∧ 4 = 1 + 3 := ⟨by decide +kernel, rfl⟩
theorem dX2_readSemicolon_4 : decode cX2_readSemicolon 4 = .ok (.ifCond .eq 4, 3) ∧ 7 = 4 + 3 := ⟨by decide +kernel, rfl⟩
theorem dX2_readSemicolon_7 : decode cX2_readSemicolon 7 = .ok (.return_, 1) ∧ 8 = 7 + 1 := ⟨by decide +kernel, rfl⟩
theorem dX2_readSemicolon_8 : decode cX2_readSemicolon 8 = .ok (.aload_n 0, 1) ∧ 9 = 8 + 1 := ⟨by decide +kernel, rfl⟩
theorem dX2_readSemicolon_9 : decode cX2_readSemicolon 9 = .ok (.getfield 11, 3) ∧ 12 = 9 + 3 := ⟨by decide +kernel, rfl⟩
theorem dX2_readSemicolon_12 : decode cX2_readSemicolon 12 = .ok (.iconst 3, 1) ∧ 13 = 12 + 1 := ⟨by decide +kernel, rfl⟩
theorem dX2_readSemicolon_13 : decode cX2_readSemicolon 13 = .ok (.if_icmp .eq 13, 3) ∧ 16 = 13 + 3 := ⟨by decide +kernel, rfl⟩
theorem dX2_readSemicolon_16 : decode cX2_readSemicolon 16 = .ok (.aload_n 0, 1) ∧ 17 = 16 + 1 := ⟨by decide +kernel, rfl⟩
theorem dX2_readSemicolon_17 : decode cX2_readSemicolon 17 = .ok (.iconst 1, 1) ∧ 18 = 17 + 1 := ⟨by decide +kernel, rfl⟩
theorem dX2_readSemicolon_18 : decode cX2_readSemicolon 18 = .ok (.aload_n 0, 1) ∧ 19 = 18 + 1 := ⟨by decide +kernel, rfl⟩
theorem dX2_readSemicolon_19 : decode cX2_readSemicolon 19 = .ok (.getfield 15, 3) ∧ 22 = 19 + 3 := ⟨by decide +kernel, rfl⟩
theorem dX2_readSemicolon_22 : decode cX2_readSemicolon 22 = .ok (.invokevirtual 64, 3) ∧ 25 = 22 + 3 := ⟨by decide +kernel, rfl⟩
theorem dX2_readSemicolon_25 : decode cX2_readSemicolon 25 = .ok (.return_, 1) ∧ 26 = 25 + 1 := ⟨by decide +kernel, rfl⟩
theorem dX2_readSemicolon_26 : decode cX2_readSemicolon 26 = .ok (.aload_n 0, 1) ∧ 27 = 26 + 1 := ⟨by decide +kernel, rfl⟩
theorem dX2_readSemicolon_27 : decode cX2_readSemicolon 27 = .ok (.invokevirtual 34, 3) ∧ 30 = 27 + 3 := ⟨by decide +kernel, rfl⟩
theorem dX2_readSemicolon_30 : decode cX2_readSemicolon 30 = .ok (.return_, 1) ∧ 31 = 30 + 1 := ⟨by decide +kernel, rfl⟩
theorem dX3_init_0 : decode cX3_init 0 = .ok (.aload_n 0, 1) ∧ 1 = 0 + 1 := ⟨by decide +kernel, rfl⟩
theorem dX3_init_1 : decode cX3_init 1 = .ok (.invokespecial 3, 3) ∧ 4 = 1 + 3 := ⟨by decide +kernel, rfl⟩
theorem dX3_init_4 : decode cX3_init 4 = .ok (.aload_n 0, 1) ∧ 5 = 4 + 1 := ⟨by decide +kernel, rfl⟩
theorem dX3_init_5 : decode cX3_init 5 = .ok (.iconst 0, 1) ∧ 6 = 5 + 1 := ⟨by decide +kernel, rfl⟩
theorem dX3_init_6 : decode cX3_init 6 = .ok (.putfield 9, 3) ∧ 9 = 6 + 3 := ⟨by decide +kernel, rfl⟩
theorem dX3_init_9 : decode cX3_init 9 = .ok (.aload_n 0, 1) ∧ 10 = 9 + 1 := ⟨by decide +kernel, rfl⟩
theorem dX3_init_10 : decode cX3_init 10 = .ok (.iconst 0, 1) ∧ 11 = 10 + 1 := ⟨by decide +kernel, rfl⟩
theorem dX3_init_11 : decode cX3_init 11 = .ok (.putfield 15, 3) ∧ 14 = 11 + 3 := ⟨by decide +kernel, rfl⟩
theorem dX3_init_14 : decode cX3_init 14 = .ok (.aload_n 0, 1) ∧ 15 = 14 + 1 := ⟨by decide +kernel, rfl⟩
theorem dX3_init_15 : decode cX3_init 15 = .ok (.aload_n 1, 1) ∧ 16 = 15 + 1 := ⟨by decide +kernel, rfl⟩
theorem dX3_init_16 : decode cX3_init 16 = .ok (.putfield 18, 3) ∧ 19 = 16 + 3 := ⟨by decide +kernel, rfl⟩
theorem dX3_init_19 : decode cX3_init 19 = .ok (.aload_n 0, 1) ∧ 20 = 19 + 1 := ⟨by decide +kernel, rfl⟩
theorem dX3_init_20 : decode cX3_init 20 = .ok (.aload_n 2, 1) ∧ 21 = 20 + 1 := ⟨by decide +kernel, rfl⟩
theorem dX3_init_21 : decode cX3_init 21 = .ok (.putfield 22, 3) ∧ 24 = 21 + 3 := ⟨by decide +kernel, rfl⟩
theorem dX3_init_24 : decode cX3_init 24 = .ok (.return_, 1) ∧ 25 = 24 + 1 := ⟨by decide +kernel, rfl⟩
theorem dX4_init_0 : decode cX4_init 0 = .ok (.aload_n 0, 1) ∧ 1 = 0 + 1 := ⟨by decide +kernel, rfl⟩
theorem dX4_init_1 : decode cX4_init 1 = .ok (.invokespecial 1, 3) ∧ 4 = 1 + 3 := ⟨by decide +kernel, rfl⟩
theorem dX4_init_4 : decode cX4_init 4 = .ok (.aload_n 0, 1) ∧ 5 = 4 + 1 := ⟨by decide +kernel, rfl⟩
theorem dX4_init_5 : decode cX4_init 5 = .ok (.sipush 246, 3) ∧ 8 = 5 + 3 := ⟨by decide +kernel, rfl⟩
theorem dX4_init_8 : decode cX4_init 8 = .ok (.newarray .byte, 2) ∧ 10 = 8 + 2 := ⟨by decide +kernel, rfl⟩
theorem dX4_init_10 : decode cX4_init 10 = .ok (.putfield 9, 3) ∧ 13 = 10 + 3 := ⟨by decide +kernel, rfl⟩
theorem dX4_init_13 : decode cX4_init 13 = .ok (.aload_n 0, 1) ∧ 14 = 13 + 1 := ⟨by decide +kernel, rfl⟩
theorem dX4_init_14 : decode cX4_init 14 = .ok (.iconst 0, 1) ∧ 15 = 14 + 1 := ⟨by decide +kernel, rfl⟩
theorem dX4_init_15 : decode cX4_init 15 = .ok (.putfield 13, 3) ∧ 18 = 15 + 3 := ⟨by decide +kernel, rfl⟩
theorem dX4_init_18 : decode cX4_init 18 = .ok (.return_, 1) ∧ 19 = 18 + 1 := ⟨by decide +kernel, rfl⟩
theorem dX4_addText_0 : decode cX4_addText 0 = .ok (.iconst 0, 1) ∧ 1 = 0 + 1 := ⟨by decide +kernel, rfl⟩
theorem dX4_addText_1 : decode cX4_addText 1 = .ok (.istore_n 2, 1) ∧ 2 = 1 + 1 := ⟨by decide +kernel, rfl⟩
theorem dX4_addText_2 : decode cX4_addText 2 = .ok (.iload_n 2, 1) ∧ 3 = 2 + 1 := ⟨by decide +kernel, rfl⟩
theorem dX4_addText_3 : decode cX4_addText 3 = .ok (.aload_n 1, 1) ∧ 4 = 3 + 1 := ⟨by decide +kernel, rfl⟩
theorem dX4_addText_4 : decode cX4_addText 4 = .ok (.invokevirtual 17, 3) ∧ 7 = 4 + 3 := ⟨by decide +kernel, rfl⟩
theorem dX4_addText_7 : decode cX4_addText 7 = .ok (.if_icmp .ge 18, 3) ∧ 10 = 7 + 3 := ⟨by decide +kernel, rfl⟩
theorem dX4_addText_10 : decode cX4_addText 10 = .ok (.aload_n 0, 1) ∧ 11 = 10 + 1 := ⟨by decide +kernel, rfl⟩
theorem dX4_addText_11 : decode cX4_addText 11 = .ok (.aload_n 1, 1) ∧ 12 = 11 + 1 := ⟨by decide +kernel, rfl⟩
theorem dX4_addText_12 : decode cX4_addText 12 = .ok (.iload_n 2, 1) ∧ 13 = 12 + 1 := ⟨by decide +kernel, rfl⟩
theorem dX4_addText_13 : decode cX4_addText 13 = .ok (.invokevirtual 22, 3) ∧ 16 = 13 + 3 := ⟨by decide +kernel, rfl⟩
theorem dX4_addText_16 : decode cX4_addText 16 = .ok (.invokevirtual 26, 3) ∧ 19 = 16 + 3 := ⟨by decide +kernel, rfl⟩
theorem dX4_addText_19 : decode cX4_addText 19 = .ok (.iinc 2 1, 3) ∧ 22 = 19 + 3 := ⟨by decide +kernel, rfl⟩
theorem dX4_addText_22 : decode cX4_addText 22 = .ok (.goto (-20), 3) ∧ 25 = 22 + 3 := ⟨by decide +kernel, rfl⟩
theorem dX4_addText_25 : decode cX4_addText 25 = .ok (.return_, 1) ∧ 26 = 25 + 1 := ⟨by decide +kernel, rfl⟩
theorem dX4_addNumber_0 : decode cX4_addNumber 0 = .ok (.iconst 1, 1) ∧ 1 = 0 + 1 := ⟨by decide +kernel, rfl⟩
theorem dX4_addNumber_1 : decode cX4_addNumber 1 = .ok (.istore_n 2, 1) ∧ 2 = 1 + 1 := ⟨by decide +kernel, rfl⟩
theorem dX4_addNumber_2 : decode cX4_addNumber 2 = .ok (.iload_n 2, 1) ∧ 3 = 2 + 1 := ⟨by decide +kernel, rfl⟩
theorem dX4_addNumber_3 : decode cX4_addNumber 3 = .ok (.ldc 30, 2) ∧ 5 = 3 + 2 := ⟨by decide +kernel, rfl⟩
theorem dX4_addNumber_5 : decode cX4_addNumber 5 = .ok (.if_icmp .ge 19, 3) ∧ 8 = 5 + 3 := ⟨by decide +kernel, rfl⟩
theorem dX4_addNumber_8 : decode cX4_addNumber 8 = .ok (.iload_n 1, 1) ∧ 9 = 8 + 1 := ⟨by decide +kernel, rfl⟩
theorem dX4_addNumber_9 : decode cX4_addNumber 9 = .ok (.iload_n 2, 1) ∧ 10 = 9 + 1 := ⟨by decide +kernel, rfl⟩
theorem dX4_addNumber_10 : decode cX4_addNumber 10 = .ok (.idiv, 1) ∧ 11 = 10 + 1 := ⟨by decide +kernel, rfl⟩
theorem dX4_addNumber_11 : decode cX4_addNumber 11 = .ok (.bipush 10, 2) ∧ 13 = 11 + 2 := ⟨by decide +kernel, rfl⟩
theorem dX4_addNumber_13 : decode cX4_addNumber 13 = .ok (.if_icmp .lt 11, 3) ∧ 16 = 13 + 3 := ⟨by decide +kernel, rfl⟩
theorem dX4_addNumber_16 : decode cX4_addNumber 16 = .ok (.iload_n 2, 1) ∧ 17 = 16 + 1 := ⟨by decide +kernel, rfl⟩
theorem dX4_addNumber_17 : decode cX4_addNumber 17 = .ok (.bipush 10, 2) ∧ 19 = 17 + 2 := ⟨by decide +kernel, rfl⟩
theorem dX4_addNumber_19 : decode cX4_addNumber 19 = .ok (.imul, 1) ∧ 20 = 19 + 1 := ⟨by decide +kernel, rfl⟩
theorem dX4_addNumber_20 : decode cX4_addNumber 20 = .ok (.istore_n 2, 1) ∧ 21 = 20 + 1 := ⟨by decide +kernel, rfl⟩
theorem dX4_addNumber_21 : decode cX4_addNumber 21 = .ok (.goto (-19), 3) ∧ 24 = 21 + 3 := ⟨by decide +kernel, rfl⟩
theorem dX4_addNumber_24 : decode cX4_addNumber 24 = .ok (.iload_n 2, 1) ∧ 25 = 24 + 1 := ⟨by decide +kernel, rfl⟩
theorem dX4_addNumber_25 : decode cX4_addNumber 25 = .ok (.ifCond .le 24, 3) ∧ 28 = 25 + 3 := ⟨by decide +kernel, rfl⟩
theorem dX4_addNumber_28 : decode cX4_addNumber 28 = .ok (.aload_n 0, 1) ∧ 29 = 28 + 1 := ⟨by decide +kernel, rfl⟩
theorem dX4_addNumber_29 : decode cX4_addNumber 29 = .ok (.bipush 48, 2) ∧ 31 = 29 + 2 := ⟨by decide +kernel, rfl⟩
theorem dX4_addNumber_31 : decode cX4_addNumber 31 = .ok (.iload_n 1, 1) ∧ 32 = 31 + 1 := ⟨by decide +kernel, rfl⟩
theorem dX4_addNumber_32 : decode cX4_addNumber 32 = .ok (.iload_n 2, 1) ∧ 33 = 32 + 1 := ⟨by decide +kernel, rfl⟩
theorem dX4_addNumber_33 : decode cX4_addNumber 33 = .ok (.idiv, 1) ∧ 34 = 33 + 1 := ⟨by decide +kernel, rfl⟩
theorem dX4_addNumber_34 : decode cX4_addNumber 34 = .ok (.bipush 10, 2) ∧ 36 = 34 + 2 := ⟨by decide +kernel, rfl⟩
theorem dX4_addNumber_36 : decode cX4_addNumber 36 = .ok (.irem, 1) ∧ 37 = 36 + 1 := ⟨by decide +kernel, rfl⟩
theorem dX4_addNumber_37 : decode cX4_addNumber 37 = .ok (.iadd, 1) ∧ 38 = 37 + 1 := ⟨by decide +kernel, rfl⟩
theorem dX4_addNumber_38 : decode cX4_addNumber 38 = .ok (.invokevirtual 26, 3) ∧ 41 = 38 + 3 := ⟨by decide +kernel, rfl⟩
theorem dX4_addNumber_41 : decode cX4_addNumber 41 = .ok (.iload_n 2, 1) ∧ 42 = 41 + 1 := ⟨by decide +kernel, rfl⟩
theorem dX4_addNumber_42 : decode cX4_addNumber 42 = .ok (.bipush 10, 2) ∧ 44 = 42 + 2 := ⟨by decide +kernel, rfl⟩
theorem dX4_addNumber_44 : decode cX4_addNumber 44 = .ok (.idiv, 1) ∧ 45 = 44 + 1 := ⟨by decide +kernel, rfl⟩
theorem dX4_addNumber_45 : decode cX4_addNumber 45 = .ok (.istore_n 2, 1) ∧ 46 = 45 + 1 := ⟨by decide +kernel, rfl⟩
theorem dX4_addNumber_46 : decode cX4_addNumber 46 = .ok (.goto (-22), 3) ∧ 49 = 46 + 3 := ⟨by decide +kernel, rfl⟩
theorem dX4_addNumber_49 : decode cX4_addNumber 49 = .ok (.return_, 1) ∧ 50 = 49 + 1 := ⟨by decide +kernel, rfl⟩
theorem dX4_addSet_0 : decode cX4_addSet 0 = .ok (.iconst 0, 1) ∧ 1 = 0 + 1 := ⟨by decide +kernel, rfl⟩
theorem dX4_addSet_1 : decode cX4_addSet 1 = .ok (.istore 4, 2) ∧ 3 = 1 + 2 := ⟨by decide +kernel, rfl⟩
theorem dX4_addSet_3 : decode cX4_addSet 3 = .ok (.iload 4, 2) ∧ 5 = 3 + 2 := ⟨by decide +kernel, rfl⟩
theorem dX4_addSet_5 : decode cX4_addSet 5 = .ok (.iload_n 3, 1) ∧ 6 = 5 + 1 := ⟨by decide +kernel, rfl⟩
theorem dX4_addSet_6 : decode cX4_addSet 6 = .ok (.if_icmp .ge 29, 3) ∧ 9 = 6 + 3 := ⟨by decide +kernel, rfl⟩
theorem dX4_addSet_9 : decode cX4_addSet 9 = .ok (.iload_n 2, 1) ∧ 10 = 9 + 1 := ⟨by decide +kernel, rfl⟩
theorem dX4_addSet_10 : decode cX4_addSet 10 = .ok (.iload 4, 2) ∧ 12 = 10 + 2 := ⟨by decide +kernel, rfl⟩
theorem dX4_addSet_12 : decode cX4_addSet 12 = .ok (.invokestatic 31, 3) ∧ 15 = 12 + 3 := ⟨by decide +kernel, rfl⟩
theorem dX4_addSet_15 : decode cX4_addSet 15 = .ok (.ifCond .eq 14, 3) ∧ 18 = 15 + 3 := ⟨by decide +kernel, rfl⟩
theorem dX4_addSet_18 : decode cX4_addSet 18 = .ok (.aload_n 0, 1) ∧ 19 = 18 + 1 := ⟨by decide +kernel, rfl⟩
theorem dX4_addSet_19 : decode cX4_addSet 19 = .ok (.aload_n 1, 1) ∧ 20 = 19 + 1 := ⟨by decide +kernel, rfl⟩
theorem dX4_addSet_20 : decode cX4_addSet 20 = .ok (.invokevirtual 37, 3) ∧ 23 = 20 + 3 := ⟨by decide +kernel, rfl⟩
theorem dX4_addSet_23 : decode cX4_addSet 23 = .ok (.aload_n 0, 1) ∧ 24 = 23 + 1 := ⟨by decide +kernel, rfl⟩
theorem dX4_addSet_24 : decode cX4_addSet 24 = .ok (.iload 4, 2) ∧ 26 = 24 + 2 := ⟨by decide +kernel, rfl⟩
theorem dX4_addSet_26 : decode cX4_addSet 26 = .ok (.invokevirtual 41, 3) ∧ 29 = 26 + 3 := ⟨by decide +kernel, rfl⟩
theorem dX4_addSet_29 : decode cX4_addSet 29 = .ok (.iinc 4 1, 3) ∧ 32 = 29 + 3 := ⟨by decide +kernel, rfl⟩
theorem dX4_addSet_32 : decode cX4_addSet 32 = .ok (.goto (-29), 3) ∧ 35 = 32 + 3 := ⟨by decide +kernel, rfl⟩
theorem dX4_addSet_35 : decode cX4_addSet 35 = .ok (.return_, 1) ∧ 36 = 35 + 1 := ⟨by decide +kernel, rfl⟩
theorem dX4_addByte_0 : decode cX4_addByte 0 = .ok (.aload_n 0, 1) ∧ 1 = 0 + 1 := ⟨by decide +kernel, rfl⟩
theorem dX4_addByte_1 : decode cX4_addByte 1 = .ok (.getfield 13, 3) ∧ 4 = 1 + 3 := ⟨by decide +kernel, rfl⟩
theorem dX4_addByte_4 : decode cX4_addByte 4 = .ok (.sipush 246, 3) ∧ 7 = 4 + 3 := ⟨by decide +kernel, rfl⟩
theorem dX4_addByte_7 : decode cX4_addByte 7 = .ok (.if_icmp .ge 24, 3) ∧ 10 = 7 + 3 := ⟨by decide +kernel, rfl⟩
theorem dX4_addByte_10 : decode cX4_addByte 10 = .ok (.aload_n 0, 1) ∧ 11 = 10 + 1 := ⟨by decide +kernel, rfl⟩
theorem dX4_addByte_11 : decode cX4_addByte 11 = .ok (.getfield 9, 3) ∧ 14 = 11 + 3 := ⟨by decide +kernel, rfl⟩
theorem dX4_addByte_14 : decode cX4_addByte 14 = .ok (.aload_n 0, 1) ∧ 15 = 14 + 1 := ⟨by decide +kernel, rfl⟩
theorem dX4_addByte_15 : decode cX4_addByte 15 = .ok (.getfield 13, 3) ∧ 18 = 15 + 3 := ⟨by decide +kernel, rfl⟩
theorem dX4_addByte_18 : decode cX4_addByte 18 = .ok (.iload_n 1, 1) ∧ 19 = 18 + 1 := ⟨by decide +kernel, rfl⟩
theorem dX4_addByte_19 : decode cX4_addByte 19 = .ok (.i2b, 1) ∧ 20 = 19 + 1 := ⟨by decide +kernel, rfl⟩
theorem dX4_addByte_20 : decode cX4_addByte 20 = .ok (.bastore, 1) ∧ 21 = 20 + 1 := ⟨by decide +kernel, rfl⟩
theorem dX4_addByte_21 : decode cX4_addByte 21 = .ok (.aload_n 0, 1) ∧ 22 = 21 + 1 := ⟨by decide +kernel, rfl⟩
theorem dX4_addByte_22 : decode cX4_addByte 22 = .ok (.dup, 1) ∧ 23 = 22 + 1 := ⟨by decide +kernel, rfl⟩
theorem dX4_addByte_23 : decode cX4_addByte 23 = .ok (.getfield 13, 3) ∧ 26 = 23 + 3 := ⟨by decide +kernel, rfl⟩
theorem dX4_addByte_26 : decode cX4_addByte 26 = .ok (.iconst 1, 1) ∧ 27 = 26 + 1 := ⟨by decide +kernel, rfl⟩
theorem dX4_addByte_27 : decode cX4_addByte 27 = .ok (.iadd, 1) ∧ 28 = 27 + 1 := ⟨by decide +kernel, rfl⟩
theorem dX4_addByte_28 : decode cX4_addByte 28 = .ok (.putfield 13, 3) ∧ 31 = 28 + 3 := ⟨by decide +kernel, rfl⟩
theorem dX4_addByte_31 : decode cX4_addByte 31 = .ok (.return_, 1) ∧ 32 = 31 + 1 := ⟨by decide +kernel, rfl⟩
theorem dX5_init_0 : decode cX5_init 0 = .ok (.aload_n 0, 1) ∧ 1 = 0 + 1 := ⟨by decide +kernel, rfl⟩
theorem dX5_init_1 : decode cX5_init 1 = .ok (.invokespecial 3, 3) ∧ 4 = 1 + 3 := ⟨by decide +kernel, rfl⟩
theorem dX5_init_4 : decode cX5_init 4 = .ok (.aload_n 0, 1) ∧ 5 = 4 + 1 := ⟨by decide +kernel, rfl⟩
theorem dX5_init_5 : decode cX5_init 5 = .ok (.iconst 0, 1) ∧ 6 = 5 + 1 := ⟨by decide +kernel, rfl⟩
theorem dX5_init_6 : decode cX5_init 6 = .ok (.putfield 9, 3) ∧ 9 = 6 + 3 := ⟨by decide +kernel, rfl⟩
theorem dX5_init_9 : decode cX5_init 9 = .ok (.aload_n 0, 1) ∧ 10 = 9 + 1 := ⟨by decide +kernel, rfl⟩
theorem dX5_init_10 : decode cX5_init 10 = .ok (.iconst 0, 1) ∧ 11 = 10 + 1 := ⟨by decide +kernel, rfl⟩
theorem dX5_init_11 : decode cX5_init 11 = .ok (.putfield 15, 3) ∧ 14 = 11 + 3 := ⟨by decide +kernel, rfl⟩
theorem dX5_init_14 : decode cX5_init 14 = .ok (.aload_n 0, 1) ∧ 15 = 14 + 1 := ⟨by decide +kernel, rfl⟩
theorem dX5_init_15 : decode cX5_init 15 = .ok (.iconst 0, 1) ∧ 16 = 15 + 1 := ⟨by decide +kernel, rfl⟩
theorem dX5_init_16 : decode cX5_init 16 = .ok (.putfield 18, 3) ∧ 19 = 16 + 3 := ⟨by decide +kernel, rfl⟩
theorem dX5_init_19 : decode cX5_init 19 = .ok (.aload_n 0, 1) ∧ 20 = 19 + 1 := ⟨by decide +kernel, rfl⟩
theorem dX5_init_20 : decode cX5_init 20 = .ok (.bipush 8, 2) ∧ 22 = 20 + 2 := ⟨by decide +kernel, rfl⟩
theorem dX5_init_22 : decode cX5_init 22 = .ok (.newarray .long, 2) ∧ 24 = 22 + 2 := ⟨by decide +kernel, rfl⟩
theorem dX5_init_24 : decode cX5_init 24 = .ok (.putfield 21, 3) ∧ 27 = 24 + 3 := ⟨by decide +kernel, rfl⟩
theorem dX5_init_27 : decode cX5_init 27 = .ok (.aload_n 0, 1) ∧ 28 = 27 + 1 := ⟨by decide +kernel, rfl⟩
theorem dX5_init_28 : decode cX5_init 28 = .ok (.bipush 9, 2) ∧ 30 = 28 + 2 := ⟨by decide +kernel, rfl⟩
theorem dX5_init_30 : decode cX5_init 30 = .ok (.newarray .int, 2) ∧ 32 = 30 + 2 := ⟨by decide +kernel, rfl⟩
theorem dX5_init_32 : decode cX5_init 32 = .ok (.putfield 25, 3) ∧ 35 = 32 + 3 := ⟨by decide +kernel, rfl⟩
theorem dX5_init_35 : decode cX5_init 35 = .ok (.aload_n 0, 1) ∧ 36 = 35 + 1 := ⟨by decide +kernel, rfl⟩
theorem dX5_init_36 : decode cX5_init 36 = .ok (.bipush 8, 2) ∧ 38 = 36 + 2 := ⟨by decide +kernel, rfl⟩
theorem dX5_init_38 : decode cX5_init 38 = .ok (.newarray .int, 2) ∧ 40 = 38 + 2 := ⟨by decide +kernel, rfl⟩
theorem dX5_init_40 : decode cX5_init 40 = .ok (.putfield 29, 3) ∧ 43 = 40 + 3 := ⟨by decide +kernel, rfl⟩
theorem dX5_init_43 : decode cX5_init 43 = .ok (.aload_n 0, 1) ∧ 44 = 43 + 1 := ⟨by decide +kernel, rfl⟩
theorem dX5_init_44 : decode cX5_init 44 = .ok (.bipush 8, 2) ∧ 46 = 44 + 2 := ⟨by decide +kernel, rfl⟩
theorem dX5_init_46 : decode cX5_init 46 = .ok (.newarray .int, 2) ∧ 48 = 46 + 2 := ⟨by decide +kernel, rfl⟩
theorem dX5_init_48 : decode cX5_init 48 = .ok (.putfield 32, 3) ∧ 51 = 48 + 3 := ⟨by decide +kernel, rfl⟩
theorem dX5_init_51 : decode cX5_init 51 = .ok (.aload_n 0, 1) ∧ 52 = 51 + 1 := ⟨by decide +kernel, rfl⟩
theorem dX5_init_52 : decode cX5_init 52 = .ok (.bipush 10, 2) ∧ 54 = 52 + 2 := ⟨by decide +kernel, rfl⟩
theorem dX5_init_54 : decode cX5_init 54 = .ok (.newarray .int, 2) ∧ 56 = 54 + 2 := ⟨by decide +kernel, rfl⟩
theorem dX5_init_56 : decode cX5_init 56 = .ok (.putfield 35, 3) ∧ 59 = 56 + 3 := ⟨by decide +kernel, rfl⟩
theorem dX5_init_59 : decode cX5_init 59 = .ok (.aload_n 0, 1) ∧ 60 = 59 + 1 := ⟨by decide +kernel, rfl⟩
theorem dX5_init_60 : decode cX5_init 60 = .ok (.bipush 10, 2) ∧ 62 = 60 + 2 := ⟨by decide +kernel, rfl⟩
theorem dX5_init_62 : decode cX5_init 62 = .ok (.newarray .int, 2) ∧ 64 = 62 + 2 := ⟨by decide +kernel, rfl⟩
theorem dX5_init_64 : decode cX5_init 64 = .ok (.putfield 38, 3) ∧ 67 = 64 + 3 := ⟨by decide +kernel, rfl⟩
theorem dX5_init_67 : decode cX5_init 67 = .ok (.aload_n 0, 1) ∧ 68 = 67 + 1 := ⟨by decide +kernel, rfl⟩
theorem dX5_init_68 : decode cX5_init 68 = .ok (.bipush 6, 2) ∧ 70 = 68 + 2 := ⟨by decide +kernel, rfl⟩
theorem dX5_init_70 : decode cX5_init 70 = .ok (.newarray .int, 2) ∧ 72 = 70 + 2 := ⟨by decide +kernel, rfl⟩
theorem dX5_init_72 : decode cX5_init 72 = .ok (.putfield 41, 3) ∧ 75 = 72 + 3 := ⟨by decide +kernel, rfl⟩
theorem dX5_init_75 : decode cX5_init 75 = .ok (.aload_n 0, 1) ∧ 76 = 75 + 1 := ⟨by decide +kernel, rfl⟩
theorem dX5_init_76 : decode cX5_init 76 = .ok (.bipush 24, 2) ∧ 78 = 76 + 2 := ⟨by decide +kernel, rfl⟩
theorem dX5_init_78 : decode cX5_init 78 = .ok (.newarray .int, 2) ∧ 80 = 78 + 2 := ⟨by decide +kernel, rfl⟩
theorem dX5_init_80 : decode cX5_init 80 = .ok (.putfield 44, 3) ∧ 83 = 80 + 3 := ⟨by decide +kernel, rfl⟩
theorem dX5_init_83 : decode cX5_init 83 = .ok (.aload_n 0, 1) ∧ 84 = 83 + 1 := ⟨by decide +kernel, rfl⟩
theorem dX5_init_84 : decode cX5_init 84 = .ok (.new 47, 3) ∧ 87 = 84 + 3 := ⟨by decide +kernel, rfl⟩
theorem dX5_init_87 : decode cX5_init 87 = .ok (.dup, 1) ∧ 88 = 87 + 1 := ⟨by decide +kernel, rfl⟩
theorem dX5_init_88 : decode cX5_init 88 = .ok (.invokespecial 49, 3) ∧ 91 = 88 + 3 := ⟨by decide +kernel, rfl⟩
theorem dX5_init_91 : decode cX5_init 91 = .ok (.putfield 50, 3) ∧ 94 = 91 + 3 := ⟨by decide +kernel, rfl⟩
theorem dX5_init_94 : decode cX5_init 94 = .ok (.aload_n 0, 1) ∧ 95 = 94 + 1 := ⟨by decide +kernel, rfl⟩
theorem dX5_init_95 : decode cX5_init 95 = .ok (.aload_n 1, 1) ∧ 96 = 95 + 1 := ⟨by decide +kernel, rfl⟩
theorem dX5_init_96 : decode cX5_init 96 = .ok (.putfield 54, 3) ∧ 99 = 96 + 3 := ⟨by decide +kernel, rfl⟩
theorem dX5_init_99 : decode cX5_init 99 = .ok (.aload_n 0, 1) ∧ 100 = 99 + 1 := ⟨by decide +kernel, rfl⟩
theorem dX5_init_100 : decode cX5_init 100 = .ok (.getfield 25, 3) ∧ 103 = 100 + 3 := ⟨by decide +kernel, rfl⟩
theorem dX5_init_103 : decode cX5_init 103 = .ok (.bipush 8, 2) ∧ 105 = 103 + 2 := ⟨by decide +kernel, rfl⟩
theorem dX5_init_105 : decode cX5_init 105 = .ok (.ldc 58, 2) ∧ 107 = 105 + 2 := ⟨by decide +kernel, rfl⟩
theorem dX5_init_107 : decode cX5_init 107 = .ok (.iastore, 1) ∧ 108 = 107 + 1 := ⟨by decide +kernel, rfl⟩
theorem dX5_init_108 : decode cX5_init 108 = .ok (.return_, 1) ∧ 109 = 108 + 1 := ⟨by decide +kernel, rfl⟩
theorem dX5_reset_0 : decode cX5_reset 0 = .ok (.aload_n 0, 1) ∧ 1 = 0 + 1 := ⟨by decide +kernel, rfl⟩
theorem dX5_reset_1 : decode cX5_reset 1 = .ok (.iconst 0, 1) ∧ 2 = 1 + 1 := ⟨by decide +kernel, rfl⟩
theorem dX5_reset_2 : decode cX5_reset 2 = .ok (.putfield 9, 3) ∧ 5 = 2 + 3 := ⟨by decide +kernel, rfl⟩
theorem dX5_reset_5 : decode cX5_reset 5 = .ok (.aload_n 0, 1) ∧ 6 = 5 + 1 := ⟨by decide +kernel, rfl⟩
theorem dX5_reset_6 : decode cX5_reset 6 = .ok (.iconst 0, 1) ∧ 7 = 6 + 1 := ⟨by decide +kernel, rfl⟩
theorem dX5_reset_7 : decode cX5_reset 7 = .ok (.putfield 15, 3) ∧ 10 = 7 + 3 := ⟨by decide +kernel, rfl⟩
theorem dX5_reset_10 : decode cX5_reset 10 = .ok (.aload_n 0, 1) ∧ 11 = 10 + 1 := ⟨by decide +kernel, rfl⟩
theorem dX5_reset_11 : decode cX5_reset 11 = .ok (.iconst 0, 1) ∧ 12 = 11 + 1 := ⟨by decide +kernel, rfl⟩
theorem dX5_reset_12 : decode cX5_reset 12 = .ok (.putfield 18, 3) ∧ 15 = 12 + 3 := ⟨by decide +kernel, rfl⟩
theorem dX5_reset_15 : decode cX5_reset 15 = .ok (.aload_n 0, 1) ∧ 16 = 15 + 1 := ⟨by decide +kernel, rfl⟩
theorem dX5_reset_16 : decode cX5_reset 16 = .ok (.getfield 50, 3) ∧ 19 = 16 + 3 := ⟨by decide +kernel, rfl⟩
theorem dX5_reset_19 : decode cX5_reset 19 = .ok (.iconst 0, 1) ∧ 20 = 19 + 1 := ⟨by decide +kernel, rfl⟩
theorem dX5_reset_20 : decode cX5_reset 20 = .ok (.putfield 59, 3) ∧ 23 = 20 + 3 := ⟨by decide +kernel, rfl⟩
theorem dX5_reset_23 : decode cX5_reset 23 = .ok (.iconst 0, 1) ∧ 24 = 23 + 1 := ⟨by decide +kernel, rfl⟩
theorem dX5_reset_24 : decode cX5_reset 24 = .ok (.istore_n 1, 1) ∧ 25 = 24 + 1 := ⟨by decide +kernel, rfl⟩
theorem dX5_reset_25 : decode cX5_reset 25 = .ok (.iload_n 1, 1) ∧ 26 = 25 + 1 := ⟨by decide +kernel, rfl⟩
theorem dX5_reset_26 : decode cX5_reset 26 = .ok (.aload_n 0, 1) ∧ 27 = 26 + 1 := ⟨by decide +kernel, rfl⟩
theorem dX5_reset_27 : decode cX5_reset 27 = .ok (.getfield 54, 3) ∧ 30 = 27 + 3 := ⟨by decide +kernel, rfl⟩
theorem dX5_reset_30 : decode cX5_reset 30 = .ok (.getfield 62, 3) ∧ 33 = 30 + 3 := ⟨by decide +kernel, rfl⟩
theorem dX5_reset_33 : decode cX5_reset 33 = .ok (.if_icmp .ge 57, 3) ∧ 36 = 33 + 3 := ⟨by decide +kernel, rfl⟩
theorem dX5_reset_36 : decode cX5_reset 36 = .ok (.aload_n 0, 1) ∧ 37 = 36 + 1 := ⟨by decide +kernel, rfl⟩
theorem dX5_reset_37 : decode cX5_reset 37 = .ok (.getfield 21, 3) ∧ 40 = 37 + 3 := ⟨by decide +kernel, rfl⟩
theorem dX5_reset_40 : decode cX5_reset 40 = .ok (.iload_n 1, 1) ∧ 41 = 40 + 1 := ⟨by decide +kernel, rfl⟩
theorem dX5_reset_41 : decode cX5_reset 41 = .ok (.lconst 0, 1) ∧ 42 = 41 + 1 := ⟨by decide +kernel, rfl⟩
theorem dX5_reset_42 : decode cX5_reset 42 = .ok (.lastore, 1) ∧ 43 = 42 + 1 := ⟨by decide +kernel, rfl⟩
theorem dX5_reset_43 : decode cX5_reset 43 = .ok (.aload_n 0, 1) ∧ 44 = 43 + 1 := ⟨by decide +kernel, rfl⟩
theorem dX5_reset_44 : decode cX5_reset 44 = .ok (.iload_n 1, 1) ∧ 45 = 44 + 1 := ⟨by decide +kernel, rfl⟩
theorem dX5_reset_45 : decode cX5_reset 45 = .ok (.aload_n 0, 1) ∧ 46 = 45 + 1 := ⟨by decide +kernel, rfl⟩
theorem dX5_reset_46 : decode cX5_reset 46 = .ok (.getfield 54, 3) ∧ 49 = 46 + 3 := ⟨by decide +kernel, rfl⟩
theorem dX5_reset_49 : decode cX5_reset 49 = .ok (.getfield 67, 3) ∧ 52 = 49 + 3 := ⟨by decide +kernel, rfl⟩
theorem dX5_reset_52 : decode cX5_reset 52 = .ok (.iload_n 1, 1) ∧ 53 = 52 + 1 := ⟨by decide +kernel, rfl⟩
theorem dX5_reset_53 : decode cX5_reset 53 = .ok (.iaload, 1) ∧ 54 = 53 + 1 := ⟨by decide +kernel, rfl⟩
theorem dX5_reset_54 : decode cX5_reset 54 = .ok (.i2l, 1) ∧ 55 = 54 + 1 := ⟨by decide +kernel, rfl⟩
theorem dX5_reset_55 : decode cX5_reset 55 = .ok (.ldc2_w 70, 3) ∧ 58 = 55 + 3 := ⟨by decide +kernel, rfl⟩
theorem dX5_reset_58 : decode cX5_reset 58 = .ok (.lmul, 1) ∧ 59 = 58 + 1 := ⟨by decide +kernel, rfl⟩
theorem dX5_reset_59 : decode cX5_reset 59 = .ok (.invokevirtual 72, 3) ∧ 62 = 59 + 3 := ⟨by decide +kernel, rfl⟩
theorem dX5_reset_62 : decode cX5_reset 62 = .ok (.aload_n 0, 1) ∧ 63 = 62 + 1 := ⟨by decide +kernel, rfl⟩
theorem dX5_reset_63 : decode cX5_reset 63 = .ok (.getfield 29, 3) ∧ 66 = 63 + 3 := ⟨by decide +kernel, rfl⟩
theorem dX5_reset_66 : decode cX5_reset 66 = .ok (.iload_n 1, 1) ∧ 67 = 66 + 1 := ⟨by decide +kernel, rfl⟩
theorem dX5_reset_67 : decode cX5_reset 67 = .ok (.aload_n 0, 1) ∧ 68 = 67 + 1 := ⟨by decide +kernel, rfl⟩
theorem dX5_reset_68 : decode cX5_reset 68 = .ok (.getfield 54, 3) ∧ 71 = 68 + 3 := ⟨by decide +kernel, rfl⟩
theorem dX5_reset_71 : decode cX5_reset 71 = .ok (.getfield 76, 3) ∧ 74 = 71 + 3 := ⟨by decide +kernel, rfl⟩
theorem dX5_reset_74 : decode cX5_reset 74 = .ok (.iload_n 1, 1) ∧ 75 = 74 + 1 := ⟨by decide +kernel, rfl⟩
theorem dX5_reset_75 : decode cX5_reset 75 = .ok (.iaload, 1) ∧ 76 = 75 + 1 := ⟨by decide +kernel, rfl⟩
theorem dX5_reset_76 : decode cX5_reset 76 = .ok (.iastore, 1) ∧ 77 = 76 + 1 := ⟨by decide +kernel, rfl⟩
theorem dX5_reset_77 : decode cX5_reset 77 = .ok (.aload_n 0, 1) ∧ 78 = 77 + 1 := ⟨by decide +kernel, rfl⟩
theorem dX5_reset_78 : decode cX5_reset 78 = .ok (.getfield 32, 3) ∧ 81 = 78 + 3 := ⟨by decide +kernel, rfl⟩
theorem dX5_reset_81 : decode cX5_reset 81 = .ok (.iload_n 1, 1) ∧ 82 = 81 + 1 := ⟨by decide +kernel, rfl⟩
theorem dX5_reset_82 : decode cX5_reset 82 = .ok (.iconst 0, 1) ∧ 83 = 82 + 1 := ⟨by decide +kernel, rfl⟩
theorem dX5_reset_83 : decode cX5_reset 83 = .ok (.iastore, 1) ∧ 84 = 83 + 1 := ⟨by decide +kernel, rfl⟩
theorem dX5_reset_84 : decode cX5_reset 84 = .ok (.iinc 1 1, 3) ∧ 87 = 84 + 3 := ⟨by decide +kernel, rfl⟩
theorem dX5_reset_87 : decode cX5_reset 87 = .ok (.goto (-62), 3) ∧ 90 = 87 + 3 := ⟨by decide +kernel, rfl⟩
theorem dX5_reset_90 : decode cX5_reset 90 = .ok (.iconst 0, 1) ∧ 91 = 90 + 1 := ⟨by decide +kernel, rfl⟩
theorem dX5_reset_91 : decode cX5_reset 91 = .ok (.istore_n 1, 1) ∧ 92 = 91 + 1 := ⟨by decide +kernel, rfl⟩
theorem dX5_reset_92 : decode cX5_reset 92 = .ok (.iload_n 1, 1) ∧ 93 = 92 + 1 := ⟨by decide +kernel, rfl⟩
theorem dX5_reset_93 : decode cX5_reset 93 = .ok (.aload_n 0, 1) ∧ 94 = 93 + 1 := ⟨by decide +kernel, rfl⟩
theorem dX5_reset_94 : decode cX5_reset 94 = .ok (.getfield 54, 3) ∧ 97 = 94 + 3 := ⟨by decide +kernel, rfl⟩
theorem dX5_reset_97 : decode cX5_reset 97 = .ok (.getfield 79, 3) ∧ 100 = 97 + 3 := ⟨by decide +kernel, rfl⟩
theorem dX5_reset_100 : decode cX5_reset 100 = .ok (.if_icmp .ge 16, 3) ∧ 103 = 100 + 3 := ⟨by decide +kernel, rfl⟩
theorem dX5_reset_103 : decode cX5_reset 103 = .ok (.aload_n 0, 1) ∧ 104 = 103 + 1 := ⟨by decide +kernel, rfl⟩
theorem dX5_reset_104 : decode cX5_reset 104 = .ok (.getfield 41, 3) ∧ 107 = 104 + 3 := ⟨by decide +kernel, rfl⟩
theorem dX5_reset_107 : decode cX5_reset 107 = .ok (.iload_n 1, 1) ∧ 108 = 107 + 1 := ⟨by decide +kernel, rfl⟩
theorem dX5_reset_108 : decode cX5_reset 108 = .ok (.iconst 0, 1) ∧ 109 = 108 + 1 := ⟨by decide +kernel, rfl⟩
theorem dX5_reset_109 : decode cX5_reset 109 = .ok (.iastore, 1) ∧ 110 = 109 + 1 := ⟨by decide +kernel, rfl⟩
theorem dX5_reset_110 : decode cX5_reset 110 = .ok (.iinc 1 1, 3) ∧ 113 = 110 + 3 := ⟨by decide +kernel, rfl⟩
theorem dX5_reset_113 : decode cX5_reset 113 = .ok (.goto (-21), 3) ∧ 116 = 113 + 3 := ⟨by decide +kernel, rfl⟩
theorem dX5_reset_116 : decode cX5_reset 116 = .ok (.iconst 0, 1) ∧ 117 = 116 + 1 := ⟨by decide +kernel, rfl⟩
theorem dX5_reset_117 : decode cX5_reset 117 = .ok (.istore_n 1, 1) ∧ 118 = 117 + 1 := ⟨by decide +kernel, rfl⟩
theorem dX5_reset_118 : decode cX5_reset 118 = .ok (.iload_n 1, 1) ∧ 119 = 118 + 1 := ⟨by decide +kernel, rfl⟩
theorem dX5_reset_119 : decode cX5_reset 119 = .ok (.aload_n 0, 1) ∧ 120 = 119 + 1 := ⟨by decide +kernel, rfl⟩
theorem dX5_reset_120 : decode cX5_reset 120 = .ok (.getfield 54, 3) ∧ 123 = 120 + 3 := ⟨by decide +kernel, rfl⟩
theorem dX5_reset_123 : decode cX5_reset 123 = .ok (.getfield 82, 3) ∧ 126 = 123 + 3 := ⟨by decide +kernel, rfl⟩
theorem dX5_reset_126 : decode cX5_reset 126 = .ok (.if_icmp .ge 31, 3) ∧ 129 = 126 + 3 := ⟨by decide +kernel, rfl⟩
theorem dX5_reset_129 : decode cX5_reset 129 = .ok (.aload_n 0, 1) ∧ 130 = 129 + 1 := ⟨by decide +kernel, rfl⟩
theorem dX5_reset_130 : decode cX5_reset 130 = .ok (.getfield 35, 3) ∧ 133 = 130 + 3 := ⟨by decide +kernel, rfl⟩
theorem dX5_reset_133 : decode cX5_reset 133 = .ok (.iload_n 1, 1) ∧ 134 = 133 + 1 := ⟨by decide +kernel, rfl⟩
theorem dX5_reset_134 : decode cX5_reset 134 = .ok (.aload_n 0, 1) ∧ 135 = 134 + 1 := ⟨by decide +kernel, rfl⟩
theorem dX5_reset_135 : decode cX5_reset 135 = .ok (.getfield 54, 3) ∧ 138 = 135 + 3 := ⟨by decide +kernel, rfl⟩
theorem dX5_reset_138 : decode cX5_reset 138 = .ok (.getfield 85, 3) ∧ 141 = 138 + 3 := ⟨by decide +kernel, rfl⟩
theorem dX5_reset_141 : decode cX5_reset 141 = .ok (.iload_n 1, 1) ∧ 142 = 141 + 1 := ⟨by decide +kernel, rfl⟩
theorem dX5_reset_142 : decode cX5_reset 142 = .ok (.iaload, 1) ∧ 143 = 142 + 1 := ⟨by decide +kernel, rfl⟩
theorem dX5_reset_143 : decode cX5_reset 143 = .ok (.iastore, 1) ∧ 144 = 143 + 1 := ⟨by decide +kernel, rfl⟩
theorem dX5_reset_144 : decode cX5_reset 144 = .ok (.aload_n 0, 1) ∧ 145 = 144 + 1 := ⟨by decide +kernel, rfl⟩
theorem dX5_reset_145 : decode cX5_reset 145 = .ok (.getfield 38, 3) ∧ 148 = 145 + 3 := ⟨by decide +kernel, rfl⟩
theorem dX5_reset_148 : decode cX5_reset 148 = .ok (.iload_n 1, 1) ∧ 149 = 148 + 1 := ⟨by decide +kernel, rfl⟩
theorem dX5_reset_149 : decode cX5_reset 149 = .ok (.iconst 0, 1) ∧ 150 = 149 + 1 := ⟨by decide +kernel, rfl⟩
theorem dX5_reset_150 : decode cX5_reset 150 = .ok (.iastore, 1) ∧ 151 = 150 + 1 := ⟨by decide +kernel, rfl⟩
theorem dX5_reset_151 : decode cX5_reset 151 = .ok (.iinc 1 1, 3) ∧ 154 = 151 + 3 := ⟨by decide +kernel, rfl⟩
theorem dX5_reset_154 : decode cX5_reset 154 = .ok (.goto (-36), 3) ∧ 157 = 154 + 3 := ⟨by decide +kernel, rfl⟩
theorem dX5_reset_157 : decode cX5_reset 157 = .ok (.iconst 0, 1) ∧ 158 = 157 + 1 := ⟨by decide +kernel, rfl⟩
theorem dX5_reset_158 : decode cX5_reset 158 = .ok (.istore_n 1, 1) ∧ 159 = 158 + 1 := ⟨by decide +kernel, rfl⟩
theorem dX5_reset_159 : decode cX5_reset 159 = .ok (.iload_n 1, 1) ∧ 160 = 159 + 1 := ⟨by decide +kernel, rfl⟩
theorem dX5_reset_160 : decode cX5_reset 160 = .ok (.aload_n 0, 1) ∧ 161 = 160 + 1 := ⟨by decide +kernel, rfl⟩
theorem dX5_reset_161 : decode cX5_reset 161 = .ok (.getfield 54, 3) ∧ 164 = 161 + 3 := ⟨by decide +kernel, rfl⟩
theorem dX5_reset_164 : decode cX5_reset 164 = .ok (.getfield 88, 3) ∧ 167 = 164 + 3 := ⟨by decide +kernel, rfl⟩
theorem dX5_reset_167 : decode cX5_reset 167 = .ok (.if_icmp .ge 30, 3) ∧ 170 = 167 + 3 := ⟨by decide +kernel, rfl⟩
theorem dX5_reset_170 : decode cX5_reset 170 = .ok (.aload_n 0, 1) ∧ 171 = 170 + 1 := ⟨by decide +kernel, rfl⟩
theorem dX5_reset_171 : decode cX5_reset 171 = .ok (.getfield 44, 3) ∧ 174 = 171 + 3 := ⟨by decide +kernel, rfl⟩
theorem dX5_reset_174 : decode cX5_reset 174 = .ok (.iload_n 1, 1) ∧ 175 = 174 + 1 := ⟨by decide +kernel, rfl⟩
theorem dX5_reset_175 : decode cX5_reset 175 = .ok (.iconst 0, 1) ∧ 176 = 175 + 1 := ⟨by decide +kernel, rfl⟩
theorem dX5_reset_176 : decode cX5_reset 176 = .ok (.iastore, 1) ∧ 177 = 176 + 1 := ⟨by decide +kernel, rfl⟩
theorem dX5_reset_177 : decode cX5_reset 177 = .ok (.aload_n 0, 1) ∧ 178 = 177 + 1 := ⟨by decide +kernel, rfl⟩
theorem dX5_reset_178 : decode cX5_reset 178 = .ok (.iload_n 1, 1) ∧ 179 = 178 + 1 := ⟨by decide +kernel, rfl⟩
theorem dX5_reset_179 : decode cX5_reset 179 = .ok (.aload_n 0, 1) ∧ 180 = 179 + 1 := ⟨by decide +kernel, rfl⟩
theorem dX5_reset_180 : decode cX5_reset 180 = .ok (.getfield 54, 3) ∧ 183 = 180 + 3 := ⟨by decide +kernel, rfl⟩
theorem dX5_reset_183 : decode cX5_reset 183 = .ok (.getfield 91, 3) ∧ 186 = 183 + 3 := ⟨by decide +kernel, rfl⟩
theorem dX5_reset_186 : decode cX5_reset 186 = .ok (.iload_n 1, 1) ∧ 187 = 186 + 1 := ⟨by decide +kernel, rfl⟩
theorem dX5_reset_187 : decode cX5_reset 187 = .ok (.iaload, 1) ∧ 188 = 187 + 1 := ⟨by decide +kernel, rfl⟩
theorem dX5_reset_188 : decode cX5_reset 188 = .ok (.invokevirtual 94, 3) ∧ 191 = 188 + 3 := ⟨by decide +kernel, rfl⟩
theorem dX5_reset_191 : decode cX5_reset 191 = .ok (.iinc 1 1, 3) ∧ 194 = 191 + 3 := ⟨by decide +kernel, rfl⟩
theorem dX5_reset_194 : decode cX5_reset 194 = .ok (.goto (-35), 3) ∧ 197 = 194 + 3 := ⟨by decide +kernel, rfl⟩
theorem dX5_reset_197 : decode cX5_reset 197 = .ok (.return_, 1) ∧ 198 = 197 + 1 := ⟨by decide +kernel, rfl⟩
theorem dX5_copyFrom_0 : decode cX5_copyFrom 0 = .ok (.aload_n 0, 1) ∧ 1 = 0 + 1 := ⟨by decide +kernel, rfl⟩
theorem dX5_copyFrom_1 : decode cX5_copyFrom 1 = .ok (.aload_n 1, 1) ∧ 2 = 1 + 1 := ⟨by decide +kernel, rfl⟩
theorem dX5_copyFrom_2 : decode cX5_copyFrom 2 = .ok (.getfield 9, 3) ∧ 5 = 2 + 3 := ⟨by decide +kernel, rfl⟩
theorem dX5_copyFrom_5 : decode cX5_copyFrom 5 = .ok (.putfield 9, 3) ∧ 8 = 5 + 3 := ⟨by decide +kernel, rfl⟩
theorem dX5_copyFrom_8 : decode cX5_copyFrom 8 = .ok (.aload_n 0, 1) ∧ 9 = 8 + 1 := ⟨by decide +kernel, rfl⟩
theorem dX5_copyFrom_9 : decode cX5_copyFrom 9 = .ok (.aload_n 1, 1) ∧ 10 = 9 + 1 := ⟨by decide +kernel, rfl⟩
theorem dX5_copyFrom_10 : decode cX5_copyFrom 10 = .ok (.getfield 15, 3) ∧ 13 = 10 + 3 := ⟨by decide +kernel, rfl⟩
theorem dX5_copyFrom_13 : decode cX5_copyFrom 13 = .ok (.putfield 15, 3) ∧ 16 = 13 + 3 := ⟨by decide +kernel, rfl⟩
theorem dX5_copyFrom_16 : decode cX5_copyFrom 16 = .ok (.aload_n 0, 1) ∧ 17 = 16 + 1 := ⟨by decide +kernel, rfl⟩
theorem dX5_copyFrom_17 : decode cX5_copyFrom 17 = .ok (.aload_n 1, 1) ∧ 18 = 17 + 1 := ⟨by decide +kernel, rfl⟩
theorem dX5_copyFrom_18 : decode cX5_copyFrom 18 = .ok (.getfield 18, 3) ∧ 21 = 18 + 3 := ⟨by decide +kernel, rfl⟩
theorem dX5_copyFrom_21 : decode cX5_copyFrom 21 = .ok (.putfield 18, 3) ∧ 24 = 21 + 3 := ⟨by decide +kernel, rfl⟩
theorem dX5_copyFrom_24 : decode cX5_copyFrom 24 = .ok (.aload_n 1, 1) ∧ 25 = 24 + 1 := ⟨by decide +kernel, rfl⟩
theorem dX5_copyFrom_25 : decode cX5_copyFrom 25 = .ok (.getfield 21, 3) ∧ 28 = 25 + 3 := ⟨by decide +kernel, rfl⟩
theorem dX5_copyFrom_28 : decode cX5_copyFrom 28 = .ok (.iconst 0, 1) ∧ 29 = 28 + 1 := ⟨by decide +kernel, rfl⟩
theorem dX5_copyFrom_29 : decode cX5_copyFrom 29 = .ok (.aload_n 0, 1) ∧ 30 = 29 + 1 := ⟨by decide +kernel, rfl⟩
theorem dX5_copyFrom_30 : decode cX5_copyFrom 30 = .ok (.getfield 21, 3) ∧ 33 = 30 + 3 := ⟨by decide +kernel, rfl⟩
theorem dX5_copyFrom_33 : decode cX5_copyFrom 33 = .ok (.iconst 0, 1) ∧ 34 = 33 + 1 := ⟨by decide +kernel, rfl⟩
theorem dX5_copyFrom_34 : decode cX5_copyFrom 34 = .ok (.bipush 8, 2) ∧ 36 = 34 + 2 := ⟨by decide +kernel, rfl⟩
theorem dX5_copyFrom_36 : decode cX5_copyFrom 36 = .ok (.invokestatic 98, 3) ∧ 39 = 36 + 3 := ⟨by decide +kernel, rfl⟩
theorem dX5_copyFrom_39 : decode cX5_copyFrom 39 = .ok (.aload_n 1, 1) ∧ 40 = 39 + 1 := ⟨by decide +kernel, rfl⟩
theorem dX5_copyFrom_40 : decode cX5_copyFrom 40 = .ok (.getfield 25, 3) ∧ 43 = 40 + 3 := ⟨by decide +kernel, rfl⟩
theorem dX5_copyFrom_43 : decode cX5_copyFrom 43 = .ok (.iconst 0, 1) ∧ 44 = 43 + 1 := ⟨by decide +kernel, rfl⟩
theorem dX5_copyFrom_44 : decode cX5_copyFrom 44 = .ok (.aload_n 0, 1) ∧ 45 = 44 + 1 := ⟨by decide +kernel, rfl⟩
theorem dX5_copyFrom_45 : decode cX5_copyFrom 45 = .ok (.getfield 25, 3) ∧ 48 = 45 + 3 := ⟨by decide +kernel, rfl⟩
theorem dX5_copyFrom_48 : decode cX5_copyFrom 48 = .ok (.iconst 0, 1) ∧ 49 = 48 + 1 := ⟨by decide +kernel, rfl⟩
theorem dX5_copyFrom_49 : decode cX5_copyFrom 49 = .ok (.bipush 8, 2) ∧ 51 = 49 + 2 := ⟨by decide +kernel, rfl⟩
theorem dX5_copyFrom_51 : decode cX5_copyFrom 51 = .ok (.invokestatic 98, 3) ∧ 54 = 51 + 3 := ⟨by decide +kernel, rfl⟩
theorem dX5_copyFrom_54 : decode cX5_copyFrom 54 = .ok (.aload_n 1, 1) ∧ 55 = 54 + 1 := ⟨by decide +kernel, rfl⟩
theorem dX5_copyFrom_55 : decode cX5_copyFrom 55 = .ok (.getfield 29, 3) ∧ 58 = 55 + 3 := ⟨by decide +kernel, rfl⟩
theorem dX5_copyFrom_58 : decode cX5_copyFrom 58 = .ok (.iconst 0, 1) ∧ 59 = 58 + 1 := ⟨by decide +kernel, rfl⟩
theorem dX5_copyFrom_59 : decode cX5_copyFrom 59 = .ok (.aload_n 0, 1) ∧ 60 = 59 + 1 := ⟨by decide +kernel, rfl⟩
theorem dX5_copyFrom_60 : decode cX5_copyFrom 60 = .ok (.getfield 29, 3) ∧ 63 = 60 + 3 := ⟨by decide +kernel, rfl⟩
theorem dX5_copyFrom_63 : decode cX5_copyFrom 63 = .ok (.iconst 0, 1) ∧ 64 = 63 + 1 := ⟨by decide +kernel, rfl⟩
theorem dX5_copyFrom_64 : decode cX5_copyFrom 64 = .ok (.bipush 8, 2) ∧ 66 = 64 + 2 := ⟨by decide +kernel, rfl⟩
theorem dX5_copyFrom_66 : decode cX5_copyFrom 66 = .ok (.invokestatic 98, 3) ∧ 69 = 66 + 3 := ⟨by decide +kernel, rfl⟩
theorem dX5_copyFrom_69 : decode cX5_copyFrom 69 = .ok (.aload_n 1, 1) ∧ 70 = 69 + 1 := ⟨by decide +kernel, rfl⟩
theorem dX5_copyFrom_70 : decode cX5_copyFrom 70 = .ok (.getfield 32, 3) ∧ 73 = 70 + 3 := ⟨by decide +kernel, rfl⟩
theorem dX5_copyFrom_73 : decode cX5_copyFrom 73 = .ok (.iconst 0, 1) ∧ 74 = 73 + 1 := ⟨by decide +kernel, rfl⟩
theorem dX5_copyFrom_74 : decode cX5_copyFrom 74 = .ok (.aload_n 0, 1) ∧ 75 = 74 + 1 := ⟨by decide +kernel, rfl⟩
theorem dX5_copyFrom_75 : decode cX5_copyFrom 75 = .ok (.getfield 32, 3) ∧ 78 = 75 + 3 := ⟨by decide +kernel, rfl⟩
theorem dX5_copyFrom_78 : decode cX5_copyFrom 78 = .ok (.iconst 0, 1) ∧ 79 = 78 + 1 := ⟨by decide +kernel, rfl⟩
theorem dX5_copyFrom_79 : decode cX5_copyFrom 79 = .ok (.bipush 8, 2) ∧ 81 = 79 + 2 := ⟨by decide +kernel, rfl⟩
theorem dX5_copyFrom_81 : decode cX5_copyFrom 81 = .ok (.invokestatic 98, 3) ∧ 84 = 81 + 3 := ⟨by decide +kernel, rfl⟩
theorem dX5_copyFrom_84 : decode cX5_copyFrom 84 = .ok (.aload_n 1, 1) ∧ 85 = 84 + 1 := ⟨by decide +kernel, rfl⟩
theorem dX5_copyFrom_85 : decode cX5_copyFrom 85 = .ok (.getfield 35, 3) ∧ 88 = 85 + 3 := ⟨by decide +kernel, rfl⟩
theorem dX5_copyFrom_88 : decode cX5_copyFrom 88 = .ok (.iconst 0, 1) ∧ 89 = 88 + 1 := ⟨by decide +kernel, rfl⟩
theorem dX5_copyFrom_89 : decode cX5_copyFrom 89 = .ok (.aload_n 0, 1) ∧ 90 = 89 + 1 := ⟨by decide +kernel, rfl⟩
theorem dX5_copyFrom_90 : decode cX5_copyFrom 90 = .ok (.getfield 35, 3) ∧ 93 = 90 + 3 := ⟨by decide +kernel, rfl⟩
theorem dX5_copyFrom_93 : decode cX5_copyFrom 93 = .ok (.iconst 0, 1) ∧ 94 = 93 + 1 := ⟨by decide +kernel, rfl⟩
theorem dX5_copyFrom_94 : decode cX5_copyFrom 94 = .ok (.bipush 10, 2) ∧ 96 = 94 + 2 := ⟨by decide +kernel, rfl⟩
theorem dX5_copyFrom_96 : decode cX5_copyFrom 96 = .ok (.invokestatic 98, 3) ∧ 99 = 96 + 3 := ⟨by decide +kernel, rfl⟩
theorem dX5_copyFrom_99 : decode cX5_copyFrom 99 = .ok (.aload_n 1, 1) ∧ 100 = 99 + 1 := ⟨by decide +kernel, rfl⟩
theorem dX5_copyFrom_100 : decode cX5_copyFrom 100 = .ok (.getfield 38, 3) ∧ 103 = 100 + 3 := ⟨by decide +kernel, rfl⟩
theorem dX5_copyFrom_103 : decode cX5_copyFrom 103 = .ok (.iconst 0, 1) ∧ 104 = 103 + 1 := ⟨by decide +kernel, rfl⟩
theorem dX5_copyFrom_104 : decode cX5_copyFrom 104 = .ok (.aload_n 0, 1) ∧ 105 = 104 + 1 := ⟨by decide +kernel, rfl⟩
theorem dX5_copyFrom_105 : decode cX5_copyFrom 105 = .ok (.getfield 38, 3) ∧ 108 = 105 + 3 := ⟨by decide +kernel, rfl⟩
theorem dX5_copyFrom_108 : decode cX5_copyFrom 108 = .ok (.iconst 0, 1) ∧ 109 = 108 + 1 := ⟨by decide +kernel, rfl⟩
theorem dX5_copyFrom_109 : decode cX5_copyFrom 109 = .ok (.bipush 10, 2) ∧ 111 = 109 + 2 := ⟨by decide +kernel, rfl⟩
theorem dX5_copyFrom_111 : decode cX5_copyFrom 111 = .ok (.invokestatic 98, 3) ∧ 114 = 111 + 3 := ⟨by decide +kernel, rfl⟩
theorem dX5_copyFrom_114 : decode cX5_copyFrom 114 = .ok (.aload_n 1, 1) ∧ 115 = 114 + 1 := ⟨by decide +kernel, rfl⟩
theorem dX5_copyFrom_115 : decode cX5_copyFrom 115 = .ok (.getfield 41, 3) ∧ 118 = 115 + 3 := ⟨by decide +kernel, rfl⟩
theorem dX5_copyFrom_118 : decode cX5_copyFrom 118 = .ok (.iconst 0, 1) ∧ 119 = 118 + 1 := ⟨by decide +kernel, rfl⟩
theorem dX5_copyFrom_119 : decode cX5_copyFrom 119 = .ok (.aload_n 0, 1) ∧ 120 = 119 + 1 := ⟨by decide +kernel, rfl⟩
theorem dX5_copyFrom_120 : decode cX5_copyFrom 120 = .ok (.getfield 41, 3) ∧ 123 = 120 + 3 := ⟨by decide +kernel, rfl⟩
theorem dX5_copyFrom_123 : decode cX5_copyFrom 123 = .ok (.iconst 0, 1) ∧ 124 = 123 + 1 := ⟨by decide +kernel, rfl⟩
theorem dX5_copyFrom_124 : decode cX5_copyFrom 124 = .ok (.bipush 6, 2) ∧ 126 = 124 + 2 := ⟨by decide +kernel, rfl⟩
theorem dX5_copyFrom_126 : decode cX5_copyFrom 126 = .ok (.invokestatic 98, 3) ∧ 129 = 126 + 3 := ⟨by decide +kernel, rfl⟩
theorem dX5_copyFrom_129 : decode cX5_copyFrom 129 = .ok (.aload_n 1, 1) ∧ 130 = 129 + 1 := ⟨by decide +kernel, rfl⟩
theorem dX5_copyFrom_130 : decode cX5_copyFrom 130 = .ok (.getfield 44, 3) ∧ 133 = 130 + 3 := ⟨by decide +kernel, rfl⟩
theorem dX5_copyFrom_133 : decode cX5_copyFrom 133 = .ok (.iconst 0, 1) ∧ 134 = 133 + 1 := ⟨by decide +kernel, rfl⟩
theorem dX5_copyFrom_134 : decode cX5_copyFrom 134 = .ok (.aload_n 0, 1) ∧ 135 = 134 + 1 := ⟨by decide +kernel, rfl⟩
theorem dX5_copyFrom_135 : decode cX5_copyFrom 135 = .ok (.getfield 44, 3) ∧ 138 = 135 + 3 := ⟨by decide +kernel, rfl⟩
theorem dX5_copyFrom_138 : decode cX5_copyFrom 138 = .ok (.iconst 0, 1) ∧ 139 = 138 + 1 := ⟨by decide +kernel, rfl⟩
theorem dX5_copyFrom_139 : decode cX5_copyFrom 139 = .ok (.bipush 24, 2) ∧ 141 = 139 + 2 := ⟨by decide +kernel, rfl⟩
theorem dX5_copyFrom_141 : decode cX5_copyFrom 141 = .ok (.invokestatic 98, 3) ∧ 144 = 141 + 3 := ⟨by decide +kernel, rfl⟩
theorem dX5_copyFrom_144 : decode cX5_copyFrom 144 = .ok (.aload_n 0, 1) ∧ 145 = 144 + 1 := ⟨by decide +kernel, rfl⟩
theorem dX5_copyFrom_145 : decode cX5_copyFrom 145 = .ok (.getfield 50, 3) ∧ 148 = 145 + 3 := ⟨by decide +kernel, rfl⟩
theorem dX5_copyFrom_148 : decode cX5_copyFrom 148 = .ok (.aload_n 1, 1) ∧ 149 = 148 + 1 := ⟨by decide +kernel, rfl⟩
theorem dX5_copyFrom_149 : decode cX5_copyFrom 149 = .ok (.getfield 50, 3) ∧ 152 = 149 + 3 := ⟨by decide +kernel, rfl⟩
theorem dX5_copyFrom_152 : decode cX5_copyFrom 152 = .ok (.invokevirtual 104, 3) ∧ 155 = 152 + 3 := ⟨by decide +kernel, rfl⟩
theorem dX5_copyFrom_155 : decode cX5_copyFrom 155 = .ok (.return_, 1) ∧ 156 = 155 + 1 := ⟨by decide +kernel, rfl⟩
theorem dX5_isOpen_0 : decode cX5_isOpen 0 = .ok (.aload_n 0, 1) ∧ 1 = 0 + 1 := ⟨by decide +kernel, rfl⟩
theorem dX5_isOpen_1 : decode cX5_isOpen 1 = .ok (.getfield 15, 3) ∧ 4 = 1 + 3 := ⟨by decide +kernel, rfl⟩
theorem dX5_isOpen_4 : decode cX5_isOpen 4 = .ok (.iload_n 1, 1) ∧ 5 = 4 + 1 := ⟨by decide +kernel, rfl⟩
theorem dX5_isOpen_5 : decode cX5_isOpen 5 = .ok (.ishr, 1) ∧ 6 = 5 + 1 := ⟨by decide +kernel, rfl⟩
theorem dX5_isOpen_6 : decode cX5_isOpen 6 = .ok (.iconst 1, 1) ∧ 7 = 6 + 1 := ⟨by decide +kernel, rfl⟩
theorem dX5_isOpen_7 : decode cX5_isOpen 7 = .ok (.iand, 1) ∧ 8 = 7 + 1 := ⟨by decide +kernel, rfl⟩
theorem dX5_isOpen_8 : decode cX5_isOpen 8 = .ok (.ifCond .eq 7, 3) ∧ 11 = 8 + 3 := ⟨by decide +kernel, rfl⟩
theorem dX5_isOpen_11 : decode cX5_isOpen 11 = .ok (.iconst 1, 1) ∧ 12 = 11 + 1 := ⟨by decide +kernel, rfl⟩
theorem dX5_isOpen_12 : decode cX5_isOpen 12 = .ok (.goto 4, 3) ∧ 15 = 12 + 3 := ⟨by decide +kernel, rfl⟩
theorem dX5_isOpen_15 : decode cX5_isOpen 15 = .ok (.iconst 0, 1) ∧ 16 = 15 + 1 := ⟨by decide +kernel, rfl⟩
theorem dX5_isOpen_16 : decode cX5_isOpen 16 = .ok (.ireturn, 1) ∧ 17 = 16 + 1 := ⟨by decide +kernel, rfl⟩
theorem dX5_isRunning_0 : decode cX5_isRunning 0 = .ok (.aload_n 0, 1) ∧ 1 = 0 + 1 := ⟨by decide +kernel, rfl⟩
theorem dX5_isRunning_1 : decode cX5_isRunning 1 = .ok (.getfield 18, 3) ∧ 4 = 1 + 3 := ⟨by decide +kernel, rfl⟩
theorem dX5_isRunning_4 : decode cX5_isRunning 4 = .ok (.iload_n 1, 1) ∧ 5 = 4 + 1 := ⟨by decide +kernel, rfl⟩
theorem dX5_isRunning_5 : decode cX5_isRunning 5 = .ok (.ishr, 1) ∧ 6 = 5 + 1 := ⟨by decide +kernel, rfl⟩
theorem dX5_isRunning_6 : decode cX5_isRunning 6 = .ok (.iconst 1, 1) ∧ 7 = 6 + 1 := ⟨by decide +kernel, rfl⟩
theorem dX5_isRunning_7 : decode cX5_isRunning 7 = .ok (.iand, 1) ∧ 8 = 7 + 1 := ⟨by decide +kernel, rfl⟩
theorem dX5_isRunning_8 : decode cX5_isRunning 8 = .ok (.ifCond .eq 7, 3) ∧ 11 = 8 + 3 := ⟨by decide +kernel, rfl⟩
theorem dX5_isRunning_11 : decode cX5_isRunning 11 = .ok (.iconst 1, 1) ∧ 12 = 11 + 1 := ⟨by decide +kernel, rfl⟩
theorem dX5_isRunning_12 : decode cX5_isRunning 12 = .ok (.goto 4, 3) ∧ 15 = 12 + 3 := ⟨by decide +kernel, rfl⟩
theorem dX5_isRunning_15 : decode cX5_isRunning 15 = .ok (.iconst 0, 1) ∧ 16 = 15 + 1 := ⟨by decide +kernel, rfl⟩
theorem dX5_isRunning_16 : decode cX5_isRunning 16 = .ok (.ireturn, 1) ∧ 17 = 16 + 1 := ⟨by decide +kernel, rfl⟩
theorem dX5_openValve_0 : decode cX5_openValve 0 = .ok (.aload_n 0, 1) ∧ 1 = 0 + 1 := ⟨by decide +kernel, rfl⟩
theorem dX5_openValve_1 : decode cX5_openValve 1 = .ok (.dup, 1) ∧ 2 = 1 + 1 := ⟨by decide +kernel, rfl⟩
theorem dX5_openValve_2 : decode cX5_openValve 2 = .ok (.getfield 15, 3) ∧ 5 = 2 + 3 := ⟨by decide +kernel, rfl⟩
theorem dX5_openValve_5 : decode cX5_openValve 5 = .ok (.iconst 1, 1) ∧ 6 = 5 + 1 := ⟨by decide +kernel, rfl⟩
theorem dX5_openValve_6 : decode cX5_openValve 6 = .ok (.iload_n 1, 1) ∧ 7 = 6 + 1 := ⟨by decide +kernel, rfl⟩
theorem dX5_openValve_7 : decode cX5_openValve 7 = .ok (.ishl, 1) ∧ 8 = 7 + 1 := ⟨by decide +kernel, rfl⟩
theorem dX5_openValve_8 : decode cX5_openValve 8 = .ok (.ior, 1) ∧ 9 = 8 + 1 := ⟨by decide +kernel, rfl⟩
theorem dX5_openValve_9 : decode cX5_openValve 9 = .ok (.putfield 15, 3) ∧ 12 = 9 + 3 := ⟨by decide +kernel, rfl⟩
theorem dX5_openValve_12 : decode cX5_openValve 12 = .ok (.return_, 1) ∧ 13 = 12 + 1 := ⟨by decide +kernel, rfl⟩
theorem dX5_closeValve_0 : decode cX5_closeValve 0 = .ok (.aload_n 0, 1) ∧ 1 = 0 + 1 := ⟨by decide +kernel, rfl⟩
theorem dX5_closeValve_1 : decode cX5_closeValve 1 = .ok (.dup, 1) ∧ 2 = 1 + 1 := ⟨by decide +kernel, rfl⟩
theorem dX5_closeValve_2 : decode cX5_closeValve 2 = .ok (.getfield 15, 3) ∧ 5 = 2 + 3 := ⟨by decide +kernel, rfl⟩
theorem dX5_closeValve_5 : decode cX5_closeValve 5 = .ok (.iconst 1, 1) ∧ 6 = 5 + 1 := ⟨by decide +kernel, rfl⟩
theorem dX5_closeValve_6 : decode cX5_closeValve 6 = .ok (.iload_n 1, 1) ∧ 7 = 6 + 1 := ⟨by decide +kernel, rfl⟩
theorem dX5_closeValve_7 : decode cX5_closeValve 7 = .ok (.ishl, 1) ∧ 8 = 7 + 1 := ⟨by decide +kernel, rfl⟩
theorem dX5_closeValve_8 : decode cX5_closeValve 8 = .ok (.iconst (-1), 1) ∧ 9 = 8 + 1 := ⟨by decide +kernel, rfl⟩
theorem dX5_closeValve_9 : decode cX5_closeValve 9 = .ok (.ixor, 1) ∧ 10 = 9 + 1 := ⟨by decide +kernel, rfl⟩
theorem dX5_closeValve_10 : decode cX5_closeValve 10 = .ok (.iand, 1) ∧ 11 = 10 + 1 := ⟨by decide +kernel, rfl⟩
theorem dX5_closeValve_11 : decode cX5_closeValve 11 = .ok (.putfield 15, 3) ∧ 14 = 11 + 3 := ⟨by decide +kernel, rfl⟩
theorem dX5_closeValve_14 : decode cX5_closeValve 14 = .ok (.return_, 1) ∧ 15 = 14 + 1 := ⟨by decide +kernel, rfl⟩
theorem dX5_startPump_0 : decode cX5_startPump 0 = .ok (.aload_n 0, 1) ∧ 1 = 0 + 1 := ⟨by decide +kernel, rfl⟩
theorem dX5_startPump_1 : decode cX5_startPump 1 = .ok (.dup, 1) ∧ 2 = 1 + 1 := ⟨by decide +kernel, rfl⟩
theorem dX5_startPump_2 : decode cX5_startPump 2 = .ok (.getfield 18, 3) ∧ 5 = 2 + 3 := ⟨by decide +kernel, rfl⟩
theorem dX5_startPump_5 : decode cX5_startPump 5 = .ok (.iconst 1, 1) ∧ 6 = 5 + 1 := ⟨by decide +kernel, rfl⟩
theorem dX5_startPump_6 : decode cX5_startPump 6 = .ok (.iload_n 1, 1) ∧ 7 = 6 + 1 := ⟨by decide +kernel, rfl⟩
theorem dX5_startPump_7 : decode cX5_startPump 7 = .ok (.ishl, 1) ∧ 8 = 7 + 1 := ⟨by decide +kernel, rfl⟩
theorem dX5_startPump_8 : decode cX5_startPump 8 = .ok (.ior, 1) ∧ 9 = 8 + 1 := ⟨by decide +kernel, rfl⟩
theorem dX5_startPump_9 : decode cX5_startPump 9 = .ok (.putfield 18, 3) ∧ 12 = 9 + 3 := ⟨by decide +kernel, rfl⟩
theorem dX5_startPump_12 : decode cX5_startPump 12 = .ok (.return_, 1) ∧ 13 = 12 + 1 := ⟨by decide +kernel, rfl⟩
theorem dX5_stopPump_0 : decode cX5_stopPump 0 = .ok (.aload_n 0, 1) ∧ 1 = 0 + 1 := ⟨by decide +kernel, rfl⟩
theorem dX5_stopPump_1 : decode cX5_stopPump 1 = .ok (.dup, 1) ∧ 2 = 1 + 1 := ⟨by decide +kernel, rfl⟩
theorem dX5_stopPump_2 : decode cX5_stopPump 2 = .ok (.getfield 18, 3) ∧ 5 = 2 + 3 := ⟨by decide +kernel, rfl⟩
theorem dX5_stopPump_5 : decode cX5_stopPump 5 = .ok (.iconst 1, 1) ∧ 6 = 5 + 1 := ⟨by decide +kernel, rfl⟩
theorem dX5_stopPump_6 : decode cX5_stopPump 6 = .ok (.iload_n 1, 1) ∧ 7 = 6 + 1 := ⟨by decide +kernel, rfl⟩
theorem dX5_stopPump_7 : decode cX5_stopPump 7 = .ok (.ishl, 1) ∧ 8 = 7 + 1 := ⟨by decide +kernel, rfl⟩
theorem dX5_stopPump_8 : decode cX5_stopPump 8 = .ok (.iconst (-1), 1) ∧ 9 = 8 + 1 := ⟨by decide +kernel, rfl⟩
theorem dX5_stopPump_9 : decode cX5_stopPump 9 = .ok (.ixor, 1) ∧ 10 = 9 + 1 := ⟨by decide +kernel, rfl⟩
theorem dX5_stopPump_10 : decode cX5_stopPump 10 = .ok (.iand, 1) ∧ 11 = 10 + 1 := ⟨by decide +kernel, rfl⟩
theorem dX5_stopPump_11 : decode cX5_stopPump 11 = .ok (.putfield 18, 3) ∧ 14 = 11 + 3 := ⟨by decide +kernel, rfl⟩
theorem dX5_stopPump_14 : decode cX5_stopPump 14 = .ok (.return_, 1) ∧ 15 = 14 + 1 := ⟨by decide +kernel, rfl⟩
theorem dX5_putLeak_0 : decode cX5_putLeak 0 = .ok (.aload_n 0, 1) ∧ 1 = 0 + 1 := ⟨by decide +kernel, rfl⟩
theorem dX5_putLeak_1 : decode cX5_putLeak 1 = .ok (.getfield 32, 3) ∧ 4 = 1 + 3 := ⟨by decide +kernel, rfl⟩
theorem dX5_putLeak_4 : decode cX5_putLeak 4 = .ok (.aload_n 0, 1) ∧ 5 = 4 + 1 := ⟨by decide +kernel, rfl⟩
theorem dX5_putLeak_5 : decode cX5_putLeak 5 = .ok (.getfield 54, 3) ∧ 8 = 5 + 3 := ⟨by decide +kernel, rfl⟩
theorem dX5_putLeak_8 : decode cX5_putLeak 8 = .ok (.getfield 108, 3) ∧ 11 = 8 + 3 := ⟨by decide +kernel, rfl⟩
theorem dX5_putLeak_11 : decode cX5_putLeak 11 = .ok (.iload_n 1, 1) ∧ 12 = 11 + 1 := ⟨by decide +kernel, rfl⟩
theorem dX5_putLeak_12 : decode cX5_putLeak 12 = .ok (.iaload, 1) ∧ 13 = 12 + 1 := ⟨by decide +kernel, rfl⟩
theorem dX5_putLeak_13 : decode cX5_putLeak 13 = .ok (.dup2, 1) ∧ 14 = 13 + 1 := ⟨by decide +kernel, rfl⟩
theorem dX5_putLeak_14 : decode cX5_putLeak 14 = .ok (.iaload, 1) ∧ 15 = 14 + 1 := ⟨by decide +kernel, rfl⟩
theorem dX5_putLeak_15 : decode cX5_putLeak 15 = .ok (.iload_n 2, 1) ∧ 16 = 15 + 1 := ⟨by decide +kernel, rfl⟩
theorem dX5_putLeak_16 : decode cX5_putLeak 16 = .ok (.aload_n 0, 1) ∧ 17 = 16 + 1 := ⟨by decide +kernel, rfl⟩
theorem dX5_putLeak_17 : decode cX5_putLeak 17 = .ok (.getfield 44, 3) ∧ 20 = 17 + 3 := ⟨by decide +kernel, rfl⟩
theorem dX5_putLeak_20 : decode cX5_putLeak 20 = .ok (.iload_n 1, 1) ∧ 21 = 20 + 1 := ⟨by decide +kernel, rfl⟩
theorem dX5_putLeak_21 : decode cX5_putLeak 21 = .ok (.iaload, 1) ∧ 22 = 21 + 1 := ⟨by decide +kernel, rfl⟩
theorem dX5_putLeak_22 : decode cX5_putLeak 22 = .ok (.isub, 1) ∧ 23 = 22 + 1 := ⟨by decide +kernel, rfl⟩
theorem dX5_putLeak_23 : decode cX5_putLeak 23 = .ok (.iadd, 1) ∧ 24 = 23 + 1 := ⟨by decide +kernel, rfl⟩
theorem dX5_putLeak_24 : decode cX5_putLeak 24 = .ok (.iastore, 1) ∧ 25 = 24 + 1 := ⟨by decide +kernel, rfl⟩
theorem dX5_putLeak_25 : decode cX5_putLeak 25 = .ok (.aload_n 0, 1) ∧ 26 = 25 + 1 := ⟨by decide +kernel, rfl⟩
theorem dX5_putLeak_26 : decode cX5_putLeak 26 = .ok (.getfield 44, 3) ∧ 29 = 26 + 3 := ⟨by decide +kernel, rfl⟩
theorem dX5_putLeak_29 : decode cX5_putLeak 29 = .ok (.iload_n 1, 1) ∧ 30 = 29 + 1 := ⟨by decide +kernel, rfl⟩
theorem dX5_putLeak_30 : decode cX5_putLeak 30 = .ok (.iload_n 2, 1) ∧ 31 = 30 + 1 := ⟨by decide +kernel, rfl⟩
theorem dX5_putLeak_31 : decode cX5_putLeak 31 = .ok (.iastore, 1) ∧ 32 = 31 + 1 := ⟨by decide +kernel, rfl⟩
theorem dX5_putLeak_32 : decode cX5_putLeak 32 = .ok (.return_, 1) ∧ 33 = 32 + 1 := ⟨by decide +kernel, rfl⟩
theorem dX5_difference_0 : decode cX5_difference 0 = .ok (.aload_n 0, 1) ∧ 1 = 0 + 1 := ⟨by decide +kernel, rfl⟩
theorem dX5_difference_1 : decode cX5_difference 1 = .ok (.getfield 25, 3) ∧ 4 = 1 + 3 := ⟨by decide +kernel, rfl⟩
theorem dX5_difference_4 : decode cX5_difference 4 = .ok (.aload_n 0, 1) ∧ 5 = 4 + 1 := ⟨by decide +kernel, rfl⟩
theorem dX5_difference_5 : decode cX5_difference 5 = .ok (.getfield 54, 3) ∧ 8 = 5 + 3 := ⟨by decide +kernel, rfl⟩
theorem dX5_difference_8 : decode cX5_difference 8 = .ok (.getfield 111, 3) ∧ 11 = 8 + 3 := ⟨by decide +kernel, rfl⟩
theorem dX5_difference_11 : decode cX5_difference 11 = .ok (.iload_n 1, 1) ∧ 12 = 11 + 1 := ⟨by decide +kernel, rfl⟩
theorem dX5_difference_12 : decode cX5_difference 12 = .ok (.iaload, 1) ∧ 13 = 12 + 1 := ⟨by decide +kernel, rfl⟩
theorem dX5_difference_13 : decode cX5_difference 13 = .ok (.iaload, 1) ∧ 14 = 13 + 1 := ⟨by decide +kernel, rfl⟩
theorem dX5_difference_14 : decode cX5_difference 14 = .ok (.aload_n 0, 1) ∧ 15 = 14 + 1 := ⟨by decide +kernel, rfl⟩
theorem dX5_difference_15 : decode cX5_difference 15 = .ok (.getfield 25, 3) ∧ 18 = 15 + 3 := ⟨by decide +kernel, rfl⟩
theorem dX5_difference_18 : decode cX5_difference 18 = .ok (.aload_n 0, 1) ∧ 19 = 18 + 1 := ⟨by decide +kernel, rfl⟩
theorem dX5_difference_19 : decode cX5_difference 19 = .ok (.getfield 54, 3) ∧ 22 = 19 + 3 := ⟨by decide +kernel, rfl⟩
theorem dX5_difference_22 : decode cX5_difference 22 = .ok (.getfield 114, 3) ∧ 25 = 22 + 3 := ⟨by decide +kernel, rfl⟩
theorem dX5_difference_25 : decode cX5_difference 25 = .ok (.iload_n 1, 1) ∧ 26 = 25 + 1 := ⟨by decide +kernel, rfl⟩
theorem dX5_difference_26 : decode cX5_difference 26 = .ok (.iaload, 1) ∧ 27 = 26 + 1 := ⟨by decide +kernel, rfl⟩
theorem dX5_difference_27 : decode cX5_difference 27 = .ok (.iaload, 1) ∧ 28 = 27 + 1 := ⟨by decide +kernel, rfl⟩
theorem dX5_difference_28 : decode cX5_difference 28 = .ok (.isub, 1) ∧ 29 = 28 + 1 := ⟨by decide +kernel, rfl⟩
theorem dX5_difference_29 : decode cX5_difference 29 = .ok (.invokestatic 117, 3) ∧ 32 = 29 + 3 := ⟨by decide +kernel, rfl⟩
theorem dX5_difference_32 : decode cX5_difference 32 = .ok (.ireturn, 1) ∧ 33 = 32 + 1 := ⟨by decide +kernel, rfl⟩
theorem dX5_openingBar_0 : decode cX5_openingBar 0 = .ok (.aload_n 0, 1) ∧ 1 = 0 + 1 := ⟨by decide +kernel, rfl⟩
theorem dX5_openingBar_1 : decode cX5_openingBar 1 = .ok (.iload_n 1, 1) ∧ 2 = 1 + 1 := ⟨by decide +kernel, rfl⟩
theorem dX5_openingBar_2 : decode cX5_openingBar 2 = .ok (.invokevirtual 123, 3) ∧ 5 = 2 + 3 := ⟨by decide +kernel, rfl⟩
theorem dX5_openingBar_5 : decode cX5_openingBar 5 = .ok (.ifCond .eq 5, 3) ∧ 8 = 5 + 3 := ⟨by decide +kernel, rfl⟩
theorem dX5_openingBar_8 : decode cX5_openingBar 8 = .ok (.iconst 1, 1) ∧ 9 = 8 + 1 := ⟨by decide +kernel, rfl⟩
theorem dX5_openingBar_9 : decode cX5_openingBar 9 = .ok (.ireturn, 1) ∧ 10 = 9 + 1 := ⟨by decide +kernel, rfl⟩
theorem dX5_openingBar_10 : decode cX5_openingBar 10 = .ok (.aload_n 0, 1) ∧ 11 = 10 + 1 := ⟨by decide +kernel, rfl⟩
theorem dX5_openingBar_11 : decode cX5_openingBar 11 = .ok (.iload_n 1, 1) ∧ 12 = 11 + 1 := ⟨by decide +kernel, rfl⟩
theorem dX5_openingBar_12 : decode cX5_openingBar 12 = .ok (.invokevirtual 127, 3) ∧ 15 = 12 + 3 := ⟨by decide +kernel, rfl⟩
theorem dX5_openingBar_15 : decode cX5_openingBar 15 = .ok (.aload_n 0, 1) ∧ 16 = 15 + 1 := ⟨by decide +kernel, rfl⟩
theorem dX5_openingBar_16 : decode cX5_openingBar 16 = .ok (.getfield 35, 3) ∧ 19 = 16 + 3 := ⟨by decide +kernel, rfl⟩
theorem dX5_openingBar_19 : decode cX5_openingBar 19 = .ok (.iload_n 1, 1) ∧ 20 = 19 + 1 := ⟨by decide +kernel, rfl⟩
theorem dX5_openingBar_20 : decode cX5_openingBar 20 = .ok (.iaload, 1) ∧ 21 = 20 + 1 := ⟨by decide +kernel, rfl⟩
theorem dX5_openingBar_21 : decode cX5_openingBar 21 = .ok (.if_icmp .le 7, 3) ∧ 24 = 21 + 3 := ⟨by decide +kernel, rfl⟩
theorem dX5_openingBar_24 : decode cX5_openingBar 24 = .ok (.iconst 2, 1) ∧ 25 = 24 + 1 := ⟨by decide +kernel, rfl⟩
theorem dX5_openingBar_25 : decode cX5_openingBar 25 = .ok (.goto 4, 3) ∧ 28 = 25 + 3 := ⟨by decide +kernel, rfl⟩
theorem dX5_openingBar_28 : decode cX5_openingBar 28 = .ok (.iconst 0, 1) ∧ 29 = 28 + 1 := ⟨by decide +kernel, rfl⟩
theorem dX5_openingBar_29 : decode cX5_openingBar 29 = .ok (.ireturn, 1) ∧ 30 = 29 + 1 := ⟨by decide +kernel, rfl⟩
theorem dX5_startingBar_0 : decode cX5_startingBar 0 = .ok (.aload_n 0, 1) ∧ 1 = 0 + 1 := ⟨by decide +kernel, rfl⟩
theorem dX5_startingBar_1 : decode cX5_startingBar 1 = .ok (.iload_n 1, 1) ∧ 2 = 1 + 1 := ⟨by decide +kernel, rfl⟩
theorem dX5_startingBar_2 : decode cX5_startingBar 2 = .ok (.invokevirtual 130, 3) ∧ 5 = 2 + 3 := ⟨by decide +kernel, rfl⟩
theorem dX5_startingBar_5 : decode cX5_startingBar 5 = .ok (.ifCond .eq 7, 3) ∧ 8 = 5 + 3 := ⟨by decide +kernel, rfl⟩
theorem dX5_startingBar_8 : decode cX5_startingBar 8 = .ok (.iconst 1, 1) ∧ 9 = 8 + 1 := ⟨by decide +kernel, rfl⟩
theorem dX5_startingBar_9 : decode cX5_startingBar 9 = .ok (.goto 8, 3) ∧ 12 = 9 + 3 := ⟨by decide +kernel, rfl⟩
theorem dX5_startingBar_12 : decode cX5_startingBar 12 = .ok (.aload_n 0, 1) ∧ 13 = 12 + 1 := ⟨by decide +kernel, rfl⟩
theorem dX5_startingBar_13 : decode cX5_startingBar 13 = .ok (.iload_n 1, 1) ∧ 14 = 13 + 1 := ⟨by decide +kernel, rfl⟩
theorem dX5_startingBar_14 : decode cX5_startingBar 14 = .ok (.invokevirtual 133, 3) ∧ 17 = 14 + 3 := ⟨by decide +kernel, rfl⟩
theorem dX5_startingBar_17 : decode cX5_startingBar 17 = .ok (.ireturn, 1) ∧ 18 = 17 + 1 := ⟨by decide +kernel, rfl⟩
theorem dX5_conditionBar_0 : decode cX5_conditionBar 0 = .ok (.aload_n 0, 1) ∧ 1 = 0 + 1 := ⟨by decide +kernel, rfl⟩
theorem dX5_conditionBar_1 : decode cX5_conditionBar 1 = .ok (.getfield 25, 3) ∧ 4 = 1 + 3 := ⟨by decide +kernel, rfl⟩
theorem dX5_conditionBar_4 : decode cX5_conditionBar 4 = .ok (.aload_n 0, 1) ∧ 5 = 4 + 1 := ⟨by decide +kernel, rfl⟩
theorem dX5_conditionBar_5 : decode cX5_conditionBar 5 = .ok (.getfield 54, 3) ∧ 8 = 5 + 3 := ⟨by decide +kernel, rfl⟩
theorem dX5_conditionBar_8 : decode cX5_conditionBar 8 = .ok (.getfield 136, 3) ∧ 11 = 8 + 3 := ⟨by decide +kernel, rfl⟩
theorem dX5_conditionBar_11 : decode cX5_conditionBar 11 = .ok (.iload_n 1, 1) ∧ 12 = 11 + 1 := ⟨by decide +kernel, rfl⟩
theorem dX5_conditionBar_12 : decode cX5_conditionBar 12 = .ok (.iaload, 1) ∧ 13 = 12 + 1 := ⟨by decide +kernel, rfl⟩
theorem dX5_conditionBar_13 : decode cX5_conditionBar 13 = .ok (.iaload, 1) ∧ 14 = 13 + 1 := ⟨by decide +kernel, rfl⟩
theorem dX5_conditionBar_14 : decode cX5_conditionBar 14 = .ok (.aload_n 0, 1) ∧ 15 = 14 + 1 := ⟨by decide +kernel, rfl⟩
theorem dX5_conditionBar_15 : decode cX5_conditionBar 15 = .ok (.getfield 54, 3) ∧ 18 = 15 + 3 := ⟨by decide +kernel, rfl⟩
theorem dX5_conditionBar_18 : decode cX5_conditionBar 18 = .ok (.getfield 139, 3) ∧ 21 = 18 + 3 := ⟨by decide +kernel, rfl⟩
theorem dX5_conditionBar_21 : decode cX5_conditionBar 21 = .ok (.iload_n 1, 1) ∧ 22 = 21 + 1 := ⟨by decide +kernel, rfl⟩
theorem dX5_conditionBar_22 : decode cX5_conditionBar 22 = .ok (.iaload, 1) ∧ 23 = 22 + 1 := ⟨by decide +kernel, rfl⟩
theorem dX5_conditionBar_23 : decode cX5_conditionBar 23 = .ok (.if_icmp .le 5, 3) ∧ 26 = 23 + 3 := ⟨by decide +kernel, rfl⟩
theorem dX5_conditionBar_26 : decode cX5_conditionBar 26 = .ok (.iconst 2, 1) ∧ 27 = 26 + 1 := ⟨by decide +kernel, rfl⟩
theorem dX5_conditionBar_27 : decode cX5_conditionBar 27 = .ok (.ireturn, 1) ∧ 28 = 27 + 1 := ⟨by decide +kernel, rfl⟩
theorem dX5_conditionBar_28 : decode cX5_conditionBar 28 = .ok (.aload_n 0, 1) ∧ 29 = 28 + 1 := ⟨by decide +kernel, rfl⟩
theorem dX5_conditionBar_29 : decode cX5_conditionBar 29 = .ok (.getfield 54, 3) ∧ 32 = 29 + 3 := ⟨by decide +kernel, rfl⟩
theorem dX5_conditionBar_32 : decode cX5_conditionBar 32 = .ok (.getfield 142, 3) ∧ 35 = 32 + 3 := ⟨by decide +kernel, rfl⟩
theorem dX5_conditionBar_35 : decode cX5_conditionBar 35 = .ok (.iload_n 1, 1) ∧ 36 = 35 + 1 := ⟨by decide +kernel, rfl⟩
theorem dX5_conditionBar_36 : decode cX5_conditionBar 36 = .ok (.iaload, 1) ∧ 37 = 36 + 1 := ⟨by decide +kernel, rfl⟩
theorem dX5_conditionBar_37 : decode cX5_conditionBar 37 = .ok (.istore_n 2, 1) ∧ 38 = 37 + 1 := ⟨by decide +kernel, rfl⟩
theorem dX5_conditionBar_38 : decode cX5_conditionBar 38 = .ok (.iload_n 2, 1) ∧ 39 = 38 + 1 := ⟨by decide +kernel, rfl⟩
theorem dX5_conditionBar_39 : decode cX5_conditionBar 39 = .ok (.bipush 8, 2) ∧ 41 = 39 + 2 := ⟨by decide +kernel, rfl⟩
theorem dX5_conditionBar_41 : decode cX5_conditionBar 41 = .ok (.if_icmp .eq 25, 3) ∧ 44 = 41 + 3 := ⟨by decide +kernel, rfl⟩
theorem dX5_conditionBar_44 : decode cX5_conditionBar 44 = .ok (.aload_n 0, 1) ∧ 45 = 44 + 1 := ⟨by decide +kernel, rfl⟩
theorem dX5_conditionBar_45 : decode cX5_conditionBar 45 = .ok (.getfield 25, 3) ∧ 48 = 45 + 3 := ⟨by decide +kernel, rfl⟩
theorem dX5_conditionBar_48 : decode cX5_conditionBar 48 = .ok (.iload_n 2, 1) ∧ 49 = 48 + 1 := ⟨by decide +kernel, rfl⟩
theorem dX5_conditionBar_49 : decode cX5_conditionBar 49 = .ok (.iaload, 1) ∧ 50 = 49 + 1 := ⟨by decide +kernel, rfl⟩
theorem dX5_conditionBar_50 : decode cX5_conditionBar 50 = .ok (.aload_n 0, 1) ∧ 51 = 50 + 1 := ⟨by decide +kernel, rfl⟩
theorem dX5_conditionBar_51 : decode cX5_conditionBar 51 = .ok (.getfield 54, 3) ∧ 54 = 51 + 3 := ⟨by decide +kernel, rfl⟩
theorem dX5_conditionBar_54 : decode cX5_conditionBar 54 = .ok (.getfield 145, 3) ∧ 57 = 54 + 3 := ⟨by decide +kernel, rfl⟩
theorem dX5_conditionBar_57 : decode cX5_conditionBar 57 = .ok (.iload_n 1, 1) ∧ 58 = 57 + 1 := ⟨by decide +kernel, rfl⟩
theorem dX5_conditionBar_58 : decode cX5_conditionBar 58 = .ok (.iaload, 1) ∧ 59 = 58 + 1 := ⟨by decide +kernel, rfl⟩
theorem dX5_conditionBar_59 : decode cX5_conditionBar 59 = .ok (.if_icmp .le 7, 3) ∧ 62 = 59 + 3 := ⟨by decide +kernel, rfl⟩
theorem dX5_conditionBar_62 : decode cX5_conditionBar 62 = .ok (.iconst 3, 1) ∧ 63 = 62 + 1 := ⟨by decide +kernel, rfl⟩
theorem dX5_conditionBar_63 : decode cX5_conditionBar 63 = .ok (.goto 4, 3) ∧ 66 = 63 + 3 := ⟨by decide +kernel, rfl⟩
theorem dX5_conditionBar_66 : decode cX5_conditionBar 66 = .ok (.iconst 0, 1) ∧ 67 = 66 + 1 := ⟨by decide +kernel, rfl⟩
theorem dX5_conditionBar_67 : decode cX5_conditionBar 67 = .ok (.ireturn, 1) ∧ 68 = 67 + 1 := ⟨by decide +kernel, rfl⟩
theorem dX5_isShutOff_0 : decode cX5_isShutOff 0 = .ok (.aload_n 0, 1) ∧ 1 = 0 + 1 := ⟨by decide +kernel, rfl⟩
theorem dX5_isShutOff_1 : decode cX5_isShutOff 1 = .ok (.getfield 54, 3) ∧ 4 = 1 + 3 := ⟨by decide +kernel, rfl⟩
theorem dX5_isShutOff_4 : decode cX5_isShutOff 4 = .ok (.iload_n 1, 1) ∧ 5 = 4 + 1 := ⟨by decide +kernel, rfl⟩
theorem dX5_isShutOff_5 : decode cX5_isShutOff 5 = .ok (.invokevirtual 148, 3) ∧ 8 = 5 + 3 := ⟨by decide +kernel, rfl⟩
theorem dX5_isShutOff_8 : decode cX5_isShutOff 8 = .ok (.aload_n 0, 1) ∧ 9 = 8 + 1 := ⟨by decide +kernel, rfl⟩
theorem dX5_isShutOff_9 : decode cX5_isShutOff 9 = .ok (.getfield 15, 3) ∧ 12 = 9 + 3 := ⟨by decide +kernel, rfl⟩
theorem dX5_isShutOff_12 : decode cX5_isShutOff 12 = .ok (.iand, 1) ∧ 13 = 12 + 1 := ⟨by decide +kernel, rfl⟩
theorem dX5_isShutOff_13 : decode cX5_isShutOff 13 = .ok (.ifCond .eq 5, 3) ∧ 16 = 13 + 3 := ⟨by decide +kernel, rfl⟩
theorem dX5_isShutOff_16 : decode cX5_isShutOff 16 = .ok (.iconst 0, 1) ∧ 17 = 16 + 1 := ⟨by decide +kernel, rfl⟩
theorem dX5_isShutOff_17 : decode cX5_isShutOff 17 = .ok (.ireturn, 1) ∧ 18 = 17 + 1 := ⟨by decide +kernel, rfl⟩
theorem dX5_isShutOff_18 : decode cX5_isShutOff 18 = .ok (.iconst 0, 1) ∧ 19 = 18 + 1 := ⟨by decide +kernel, rfl⟩
theorem dX5_isShutOff_19 : decode cX5_isShutOff 19 = .ok (.istore_n 2, 1) ∧ 20 = 19 + 1 := ⟨by decide +kernel, rfl⟩
theorem dX5_isShutOff_20 : decode cX5_isShutOff 20 = .ok (.iload_n 2, 1) ∧ 21 = 20 + 1 := ⟨by decide +kernel, rfl⟩
theorem dX5_isShutOff_21 : decode cX5_isShutOff 21 = .ok (.aload_n 0, 1) ∧ 22 = 21 + 1 := ⟨by decide +kernel, rfl⟩
theorem dX5_isShutOff_22 : decode cX5_isShutOff 22 = .ok (.getfield 54, 3) ∧ 25 = 22 + 3 := ⟨by decide +kernel, rfl⟩
theorem dX5_isShutOff_25 : decode cX5_isShutOff 25 = .ok (.getfield 79, 3) ∧ 28 = 25 + 3 := ⟨by decide +kernel, rfl⟩
theorem dX5_isShutOff_28 : decode cX5_isShutOff 28 = .ok (.if_icmp .ge 55, 3) ∧ 31 = 28 + 3 := ⟨by decide +kernel, rfl⟩
theorem dX5_isShutOff_31 : decode cX5_isShutOff 31 = .ok (.aload_n 0, 1) ∧ 32 = 31 + 1 := ⟨by decide +kernel, rfl⟩
theorem dX5_isShutOff_32 : decode cX5_isShutOff 32 = .ok (.getfield 54, 3) ∧ 35 = 32 + 3 := ⟨by decide +kernel, rfl⟩
theorem dX5_isShutOff_35 : decode cX5_isShutOff 35 = .ok (.getfield 136, 3) ∧ 38 = 35 + 3 := ⟨by decide +kernel, rfl⟩
theorem dX5_isShutOff_38 : decode cX5_isShutOff 38 = .ok (.iload_n 2, 1) ∧ 39 = 38 + 1 := ⟨by decide +kernel, rfl⟩
theorem dX5_isShutOff_39 : decode cX5_isShutOff 39 = .ok (.iaload, 1) ∧ 40 = 39 + 1 := ⟨by decide +kernel, rfl⟩
theorem dX5_isShutOff_40 : decode cX5_isShutOff 40 = .ok (.iload_n 1, 1) ∧ 41 = 40 + 1 := ⟨by decide +kernel, rfl⟩
theorem dX5_isShutOff_41 : decode cX5_isShutOff 41 = .ok (.if_icmp .eq 16, 3) ∧ 44 = 41 + 3 := ⟨by decide +kernel, rfl⟩
theorem dX5_isShutOff_44 : decode cX5_isShutOff 44 = .ok (.aload_n 0, 1) ∧ 45 = 44 + 1 := ⟨by decide +kernel, rfl⟩
theorem dX5_isShutOff_45 : decode cX5_isShutOff 45 = .ok (.getfield 54, 3) ∧ 48 = 45 + 3 := ⟨by decide +kernel, rfl⟩
theorem dX5_isShutOff_48 : decode cX5_isShutOff 48 = .ok (.getfield 142, 3) ∧ 51 = 48 + 3 := ⟨by decide +kernel, rfl⟩
theorem dX5_isShutOff_51 : decode cX5_isShutOff 51 = .ok (.iload_n 2, 1) ∧ 52 = 51 + 1 := ⟨by decide +kernel, rfl⟩
theorem dX5_isShutOff_52 : decode cX5_isShutOff 52 = .ok (.iaload, 1) ∧ 53 = 52 + 1 := ⟨by decide +kernel, rfl⟩
theorem dX5_isShutOff_53 : decode cX5_isShutOff 53 = .ok (.iload_n 1, 1) ∧ 54 = 53 + 1 := ⟨by decide +kernel, rfl⟩
theorem dX5_isShutOff_54 : decode cX5_isShutOff 54 = .ok (.if_icmp .ne 7, 3) ∧ 57 = 54 + 3 := ⟨by decide +kernel, rfl⟩
theorem dX5_isShutOff_57 : decode cX5_isShutOff 57 = .ok (.iconst 1, 1) ∧ 58 = 57 + 1 := ⟨by decide +kernel, rfl⟩
theorem dX5_isShutOff_58 : decode cX5_isShutOff 58 = .ok (.goto 4, 3) ∧ 61 = 58 + 3 := ⟨by decide +kernel, rfl⟩
theorem dX5_isShutOff_61 : decode cX5_isShutOff 61 = .ok (.iconst 0, 1) ∧ 62 = 61 + 1 := ⟨by decide +kernel, rfl⟩
theorem dX5_isShutOff_62 : decode cX5_isShutOff 62 = .ok (.istore_n 3, 1) ∧ 63 = 62 + 1 := ⟨by decide +kernel, rfl⟩
theorem dX5_isShutOff_63 : decode cX5_isShutOff 63 = .ok (.iload_n 3, 1) ∧ 64 = 63 + 1 := ⟨by decide +kernel, rfl⟩
theorem dX5_isShutOff_64 : decode cX5_isShutOff 64 = .ok (.ifCond .eq 13, 3) ∧ 67 = 64 + 3 := ⟨by decide +kernel, rfl⟩
theorem dX5_isShutOff_67 : decode cX5_isShutOff 67 = .ok (.aload_n 0, 1) ∧ 68 = 67 + 1 := ⟨by decide +kernel, rfl⟩
theorem dX5_isShutOff_68 : decode cX5_isShutOff 68 = .ok (.iload_n 2, 1) ∧ 69 = 68 + 1 := ⟨by decide +kernel, rfl⟩
theorem dX5_isShutOff_69 : decode cX5_isShutOff 69 = .ok (.invokevirtual 130, 3) ∧ 72 = 69 + 3 := ⟨by decide +kernel, rfl⟩
theorem dX5_isShutOff_72 : decode cX5_isShutOff 72 = .ok (.ifCond .eq 5, 3) ∧ 75 = 72 + 3 := ⟨by decide +kernel, rfl⟩
theorem dX5_isShutOff_75 : decode cX5_isShutOff 75 = .ok (.iconst 0, 1) ∧ 76 = 75 + 1 := ⟨by decide +kernel, rfl⟩
theorem dX5_isShutOff_76 : decode cX5_isShutOff 76 = .ok (.ireturn, 1) ∧ 77 = 76 + 1 := ⟨by decide +kernel, rfl⟩
theorem dX5_isShutOff_77 : decode cX5_isShutOff 77 = .ok (.iinc 2 1, 3) ∧ 80 = 77 + 3 := ⟨by decide +kernel, rfl⟩
theorem dX5_isShutOff_80 : decode cX5_isShutOff 80 = .ok (.goto (-60), 3) ∧ 83 = 80 + 3 := ⟨by decide +kernel, rfl⟩
theorem dX5_isShutOff_83 : decode cX5_isShutOff 83 = .ok (.iconst 1, 1) ∧ 84 = 83 + 1 := ⟨by decide +kernel, rfl⟩
theorem dX5_isShutOff_84 : decode cX5_isShutOff 84 = .ok (.ireturn, 1) ∧ 85 = 84 + 1 := ⟨by decide +kernel, rfl⟩
theorem dX5_reach_0 : decode cX5_reach 0 = .ok (.iconst 1, 1) ∧ 1 = 0 + 1 := ⟨by decide +kernel, rfl⟩
theorem dX5_reach_1 : decode cX5_reach 1 = .ok (.iload_n 1, 1) ∧ 2 = 1 + 1 := ⟨by decide +kernel, rfl⟩
theorem dX5_reach_2 : decode cX5_reach 2 = .ok (.ishl, 1) ∧ 3 = 2 + 1 := ⟨by decide +kernel, rfl⟩
theorem dX5_reach_3 : decode cX5_reach 3 = .ok (.istore_n 2, 1) ∧ 4 = 3 + 1 := ⟨by decide +kernel, rfl⟩
theorem dX5_reach_4 : decode cX5_reach 4 = .ok (.iconst 0, 1) ∧ 5 = 4 + 1 := ⟨by decide +kernel, rfl⟩
theorem dX5_reach_5 : decode cX5_reach 5 = .ok (.istore_n 3, 1) ∧ 6 = 5 + 1 := ⟨by decide +kernel, rfl⟩
theorem dX5_reach_6 : decode cX5_reach 6 = .ok (.iload_n 3, 1) ∧ 7 = 6 + 1 := ⟨by decide +kernel, rfl⟩
theorem dX5_reach_7 : decode cX5_reach 7 = .ok (.bipush 8, 2) ∧ 9 = 7 + 2 := ⟨by decide +kernel, rfl⟩
theorem dX5_reach_9 : decode cX5_reach 9 = .ok (.if_icmp .ge 22, 3) ∧ 12 = 9 + 3 := ⟨by decide +kernel, rfl⟩
theorem dX5_reach_12 : decode cX5_reach 12 = .ok (.aload_n 0, 1) ∧ 13 = 12 + 1 := ⟨by decide +kernel, rfl⟩
theorem dX5_reach_13 : decode cX5_reach 13 = .ok (.getfield 54, 3) ∧ 16 = 13 + 3 := ⟨by decide +kernel, rfl⟩
theorem dX5_reach_16 : decode cX5_reach 16 = .ok (.iload_n 2, 1) ∧ 17 = 16 + 1 := ⟨by decide +kernel, rfl⟩
theorem dX5_reach_17 : decode cX5_reach 17 = .ok (.aload_n 0, 1) ∧ 18 = 17 + 1 := ⟨by decide +kernel, rfl⟩
theorem dX5_reach_18 : decode cX5_reach 18 = .ok (.getfield 15, 3) ∧ 21 = 18 + 3 := ⟨by decide +kernel, rfl⟩
theorem dX5_reach_21 : decode cX5_reach 21 = .ok (.invokevirtual 151, 3) ∧ 24 = 21 + 3 := ⟨by decide +kernel, rfl⟩
theorem dX5_reach_24 : decode cX5_reach 24 = .ok (.istore_n 2, 1) ∧ 25 = 24 + 1 := ⟨by decide +kernel, rfl⟩
theorem dX5_reach_25 : decode cX5_reach 25 = .ok (.iinc 3 1, 3) ∧ 28 = 25 + 3 := ⟨by decide +kernel, rfl⟩
theorem dX5_reach_28 : decode cX5_reach 28 = .ok (.goto (-22), 3) ∧ 31 = 28 + 3 := ⟨by decide +kernel, rfl⟩
theorem dX5_reach_31 : decode cX5_reach 31 = .ok (.iload_n 2, 1) ∧ 32 = 31 + 1 := ⟨by decide +kernel, rfl⟩
theorem dX5_reach_32 : decode cX5_reach 32 = .ok (.ireturn, 1) ∧ 33 = 32 + 1 := ⟨by decide +kernel, rfl⟩
theorem dX5_passTicks_0 : decode cX5_passTicks 0 = .ok (.iconst 0, 1) ∧ 1 = 0 + 1 := ⟨by decide +kernel, rfl⟩
theorem dX5_passTicks_1 : decode cX5_passTicks 1 = .ok (.istore_n 2, 1) ∧ 2 = 1 + 1 := ⟨by decide +kernel, rfl⟩
theorem dX5_passTicks_2 : decode cX5_passTicks 2 = .ok (.iconst 0, 1) ∧ 3 = 2 + 1 := ⟨by decide +kernel, rfl⟩
theorem dX5_passTicks_3 : decode cX5_passTicks 3 = .ok (.istore_n 3, 1) ∧ 4 = 3 + 1 := ⟨by decide +kernel, rfl⟩
theorem dX5_passTicks_4 : decode cX5_passTicks 4 = .ok (.iload_n 3, 1) ∧ 5 = 4 + 1 := ⟨by decide +kernel, rfl⟩
theorem dX5_passTicks_5 : decode cX5_passTicks 5 = .ok (.iload_n 1, 1) ∧ 6 = 5 + 1 := ⟨by decide +kernel, rfl⟩
theorem dX5_passTicks_6 : decode cX5_passTicks 6 = .ok (.if_icmp .ge 16, 3) ∧ 9 = 6 + 3 := ⟨by decide +kernel, rfl⟩
theorem dX5_passTicks_9 : decode cX5_passTicks 9 = .ok (.iload_n 2, 1) ∧ 10 = 9 + 1 := ⟨by decide +kernel, rfl⟩
theorem dX5_passTicks_10 : decode cX5_passTicks 10 = .ok (.aload_n 0, 1) ∧ 11 = 10 + 1 := ⟨by decide +kernel, rfl⟩
theorem dX5_passTicks_11 : decode cX5_passTicks 11 = .ok (.invokevirtual 155, 3) ∧ 14 = 11 + 3 := ⟨by decide +kernel, rfl⟩
theorem dX5_passTicks_14 : decode cX5_passTicks 14 = .ok (.iadd, 1) ∧ 15 = 14 + 1 := ⟨by decide +kernel, rfl⟩
theorem dX5_passTicks_15 : decode cX5_passTicks 15 = .ok (.istore_n 2, 1) ∧ 16 = 15 + 1 := ⟨by decide +kernel, rfl⟩
theorem dX5_passTicks_16 : decode cX5_passTicks 16 = .ok (.iinc 3 1, 3) ∧ 19 = 16 + 3 := ⟨by decide +kernel, rfl⟩
theorem dX5_passTicks_19 : decode cX5_passTicks 19 = .ok (.goto (-15), 3) ∧ 22 = 19 + 3 := ⟨by decide +kernel, rfl⟩
theorem dX5_passTicks_22 : decode cX5_passTicks 22 = .ok (.iload_n 2, 1) ∧ 23 = 22 + 1 := ⟨by decide +kernel, rfl⟩
theorem dX5_passTicks_23 : decode cX5_passTicks 23 = .ok (.ireturn, 1) ∧ 24 = 23 + 1 := ⟨by decide +kernel, rfl⟩
theorem dX5_passUntilAtMost_0 : decode cX5_passUntilAtMost 0 = .ok (.iconst 0, 1) ∧ 1 = 0 + 1 := ⟨by decide +kernel, rfl⟩
theorem dX5_passUntilAtMost_1 : decode cX5_passUntilAtMost 1 = .ok (.istore_n 3, 1) ∧ 2 = 1 + 1 := ⟨by decide +kernel, rfl⟩
theorem dX5_passUntilAtMost_2 : decode cX5_passUntilAtMost 2 = .ok (.iload_n 3, 1) ∧ 3 = 2 + 1 := ⟨by decide +kernel, rfl⟩
theorem dX5_passUntilAtMost_3 : decode cX5_passUntilAtMost 3 = .ok (.sipush 999, 3) ∧ 6 = 3 + 3 := ⟨by decide +kernel, rfl⟩
theorem dX5_passUntilAtMost_6 : decode cX5_passUntilAtMost 6 = .ok (.if_icmp .gt 26, 3) ∧ 9 = 6 + 3 := ⟨by decide +kernel, rfl⟩
theorem dX5_passUntilAtMost_9 : decode cX5_passUntilAtMost 9 = .ok (.aload_n 0, 1) ∧ 10 = 9 + 1 := ⟨by decide +kernel, rfl⟩
theorem dX5_passUntilAtMost_10 : decode cX5_passUntilAtMost 10 = .ok (.getfield 25, 3) ∧ 13 = 10 + 3 := ⟨by decide +kernel, rfl⟩
theorem dX5_passUntilAtMost_13 : decode cX5_passUntilAtMost 13 = .ok (.iload_n 1, 1) ∧ 14 = 13 + 1 := ⟨by decide +kernel, rfl⟩
theorem dX5_passUntilAtMost_14 : decode cX5_passUntilAtMost 14 = .ok (.iaload, 1) ∧ 15 = 14 + 1 := ⟨by decide +kernel, rfl⟩
theorem dX5_passUntilAtMost_15 : decode cX5_passUntilAtMost 15 = .ok (.iload_n 2, 1) ∧ 16 = 15 + 1 := ⟨by decide +kernel, rfl⟩
theorem dX5_passUntilAtMost_16 : decode cX5_passUntilAtMost 16 = .ok (.if_icmp .gt 5, 3) ∧ 19 = 16 + 3 := ⟨by decide +kernel, rfl⟩
theorem dX5_passUntilAtMost_19 : decode cX5_passUntilAtMost 19 = .ok (.iload_n 3, 1) ∧ 20 = 19 + 1 := ⟨by decide +kernel, rfl⟩
theorem dX5_passUntilAtMost_20 : decode cX5_passUntilAtMost 20 = .ok (.ireturn, 1) ∧ 21 = 20 + 1 := ⟨by decide +kernel, rfl⟩
theorem dX5_passUntilAtMost_21 : decode cX5_passUntilAtMost 21 = .ok (.aload_n 0, 1) ∧ 22 = 21 + 1 := ⟨by decide +kernel, rfl⟩
theorem dX5_passUntilAtMost_22 : decode cX5_passUntilAtMost 22 = .ok (.invokevirtual 155, 3) ∧ 25 = 22 + 3 := ⟨by decide +kernel, rfl⟩
theorem dX5_passUntilAtMost_25 : decode cX5_passUntilAtMost 25 = .ok (.pop, 1) ∧ 26 = 25 + 1 := ⟨by decide +kernel, rfl⟩
theorem dX5_passUntilAtMost_26 : decode cX5_passUntilAtMost 26 = .ok (.iinc 3 1, 3) ∧ 29 = 26 + 3 := ⟨by decide +kernel, rfl⟩
theorem dX5_passUntilAtMost_29 : decode cX5_passUntilAtMost 29 = .ok (.goto (-27), 3) ∧ 32 = 29 + 3 := ⟨by decide +kernel, rfl⟩
theorem dX5_passUntilAtMost_32 : decode cX5_passUntilAtMost 32 = .ok (.iconst (-1), 1) ∧ 33 = 32 + 1 := ⟨by decide +kernel, rfl⟩
theorem dX5_passUntilAtMost_33 : decode cX5_passUntilAtMost 33 = .ok (.ireturn, 1) ∧ 34 = 33 + 1 := ⟨by decide +kernel, rfl⟩
theorem dX5_makeTest_0 : decode cX5_makeTest 0 = .ok (.iload_n 2, 1) ∧ 1 = 0 + 1 := ⟨by decide +kernel, rfl⟩
theorem dX5_makeTest_1 : decode cX5_makeTest 1 = .ok (.iconst 2, 1) ∧ 2 = 1 + 1 := ⟨by decide +kernel, rfl⟩
theorem dX5_makeTest_2 : decode cX5_makeTest 2 = .ok (.idiv, 1) ∧ 3 = 2 + 1 := ⟨by decide +kernel, rfl⟩
theorem dX5_makeTest_3 : decode cX5_makeTest 3 = .ok (.istore_n 3, 1) ∧ 4 = 3 + 1 := ⟨by decide +kernel, rfl⟩
theorem dX5_makeTest_4 : decode cX5_makeTest 4 = .ok (.aload_n 0, 1) ∧ 5 = 4 + 1 := ⟨by decide +kernel, rfl⟩
theorem dX5_makeTest_5 : decode cX5_makeTest 5 = .ok (.getfield 21, 3) ∧ 8 = 5 + 3 := ⟨by decide +kernel, rfl⟩
theorem dX5_makeTest_8 : decode cX5_makeTest 8 = .ok (.iload_n 1, 1) ∧ 9 = 8 + 1 := ⟨by decide +kernel, rfl⟩
theorem dX5_makeTest_9 : decode cX5_makeTest 9 = .ok (.laload, 1) ∧ 10 = 9 + 1 := ⟨by decide +kernel, rfl⟩
theorem dX5_makeTest_10 : decode cX5_makeTest 10 = .ok (.lstore 4, 2) ∧ 12 = 10 + 2 := ⟨by decide +kernel, rfl⟩
theorem dX5_makeTest_12 : decode cX5_makeTest 12 = .ok (.iconst 0, 1) ∧ 13 = 12 + 1 := ⟨by decide +kernel, rfl⟩
theorem dX5_makeTest_13 : decode cX5_makeTest 13 = .ok (.istore 6, 2) ∧ 15 = 13 + 2 := ⟨by decide +kernel, rfl⟩
theorem dX5_makeTest_15 : decode cX5_makeTest 15 = .ok (.iload 6, 2) ∧ 17 = 15 + 2 := ⟨by decide +kernel, rfl⟩
theorem dX5_makeTest_17 : decode cX5_makeTest 17 = .ok (.iload_n 3, 1) ∧ 18 = 17 + 1 := ⟨by decide +kernel, rfl⟩
theorem dX5_makeTest_18 : decode cX5_makeTest 18 = .ok (.if_icmp .ge 14, 3) ∧ 21 = 18 + 3 := ⟨by decide +kernel, rfl⟩
theorem dX5_makeTest_21 : decode cX5_makeTest 21 = .ok (.aload_n 0, 1) ∧ 22 = 21 + 1 := ⟨by decide +kernel, rfl⟩
theorem dX5_makeTest_22 : decode cX5_makeTest 22 = .ok (.invokevirtual 155, 3) ∧ 25 = 22 + 3 := ⟨by decide +kernel, rfl⟩
theorem dX5_makeTest_25 : decode cX5_makeTest 25 = .ok (.pop, 1) ∧ 26 = 25 + 1 := ⟨by decide +kernel, rfl⟩
theorem dX5_makeTest_26 : decode cX5_makeTest 26 = .ok (.iinc 6 1, 3) ∧ 29 = 26 + 3 := ⟨by decide +kernel, rfl⟩
theorem dX5_makeTest_29 : decode cX5_makeTest 29 = .ok (.goto (-14), 3) ∧ 32 = 29 + 3 := ⟨by decide +kernel, rfl⟩
theorem dX5_makeTest_32 : decode cX5_makeTest 32 = .ok (.aload_n 0, 1) ∧ 33 = 32 + 1 := ⟨by decide +kernel, rfl⟩
theorem dX5_makeTest_33 : decode cX5_makeTest 33 = .ok (.getfield 21, 3) ∧ 36 = 33 + 3 := ⟨by decide +kernel, rfl⟩
theorem dX5_makeTest_36 : decode cX5_makeTest 36 = .ok (.iload_n 1, 1) ∧ 37 = 36 + 1 := ⟨by decide +kernel, rfl⟩
theorem dX5_makeTest_37 : decode cX5_makeTest 37 = .ok (.laload, 1) ∧ 38 = 37 + 1 := ⟨by decide +kernel, rfl⟩
theorem dX5_makeTest_38 : decode cX5_makeTest 38 = .ok (.lstore 6, 2) ∧ 40 = 38 + 2 := ⟨by decide +kernel, rfl⟩
theorem dX5_makeTest_40 : decode cX5_makeTest 40 = .ok (.iconst 0, 1) ∧ 41 = 40 + 1 := ⟨by decide +kernel, rfl⟩
theorem dX5_makeTest_41 : decode cX5_makeTest 41 = .ok (.istore 8, 2) ∧ 43 = 41 + 2 := ⟨by decide +kernel, rfl⟩
theorem dX5_makeTest_43 : decode cX5_makeTest 43 = .ok (.iload 8, 2) ∧ 45 = 43 + 2 := ⟨by decide +kernel, rfl⟩
theorem dX5_makeTest_45 : decode cX5_makeTest 45 = .ok (.iload_n 3, 1) ∧ 46 = 45 + 1 := ⟨by decide +kernel, rfl⟩
theorem dX5_makeTest_46 : decode cX5_makeTest 46 = .ok (.if_icmp .ge 14, 3) ∧ 49 = 46 + 3 := ⟨by decide +kernel, rfl⟩
theorem dX5_makeTest_49 : decode cX5_makeTest 49 = .ok (.aload_n 0, 1) ∧ 50 = 49 + 1 := ⟨by decide +kernel, rfl⟩
theorem dX5_makeTest_50 : decode cX5_makeTest 50 = .ok (.invokevirtual 155, 3) ∧ 53 = 50 + 3 := ⟨by decide +kernel, rfl⟩
theorem dX5_makeTest_53 : decode cX5_makeTest 53 = .ok (.pop, 1) ∧ 54 = 53 + 1 := ⟨by decide +kernel, rfl⟩
theorem dX5_makeTest_54 : decode cX5_makeTest 54 = .ok (.iinc 8 1, 3) ∧ 57 = 54 + 3 := ⟨by decide +kernel, rfl⟩
theorem dX5_makeTest_57 : decode cX5_makeTest 57 = .ok (.goto (-14), 3) ∧ 60 = 57 + 3 := ⟨by decide +kernel, rfl⟩
theorem dX5_makeTest_60 : decode cX5_makeTest 60 = .ok (.lload 6, 2) ∧ 62 = 60 + 2 := ⟨by decide +kernel, rfl⟩
theorem dX5_makeTest_62 : decode cX5_makeTest 62 = .ok (.lload 4, 2) ∧ 64 = 62 + 2 := ⟨by decide +kernel, rfl⟩
theorem dX5_makeTest_64 : decode cX5_makeTest 64 = .ok (.lsub, 1) ∧ 65 = 64 + 1 := ⟨by decide +kernel, rfl⟩
theorem dX5_makeTest_65 : decode cX5_makeTest 65 = .ok (.lstore 8, 2) ∧ 67 = 65 + 2 := ⟨by decide +kernel, rfl⟩
theorem dX5_makeTest_67 : decode cX5_makeTest 67 = .ok (.aload_n 0, 1) ∧ 68 = 67 + 1 := ⟨by decide +kernel, rfl⟩
theorem dX5_makeTest_68 : decode cX5_makeTest 68 = .ok (.getfield 21, 3) ∧ 71 = 68 + 3 := ⟨by decide +kernel, rfl⟩
theorem dX5_makeTest_71 : decode cX5_makeTest 71 = .ok (.iload_n 1, 1) ∧ 72 = 71 + 1 := ⟨by decide +kernel, rfl⟩
theorem dX5_makeTest_72 : decode cX5_makeTest 72 = .ok (.laload, 1) ∧ 73 = 72 + 1 := ⟨by decide +kernel, rfl⟩
theorem dX5_makeTest_73 : decode cX5_makeTest 73 = .ok (.lload 6, 2) ∧ 75 = 73 + 2 := ⟨by decide +kernel, rfl⟩
theorem dX5_makeTest_75 : decode cX5_makeTest 75 = .ok (.lsub, 1) ∧ 76 = 75 + 1 := ⟨by decide +kernel, rfl⟩
theorem dX5_makeTest_76 : decode cX5_makeTest 76 = .ok (.lstore 10, 2) ∧ 78 = 76 + 2 := ⟨by decide +kernel, rfl⟩
theorem dX5_makeTest_78 : decode cX5_makeTest 78 = .ok (.iconst 1, 1) ∧ 79 = 78 + 1 := ⟨by decide +kernel, rfl⟩
theorem dX5_makeTest_79 : decode cX5_makeTest 79 = .ok (.istore 12, 2) ∧ 81 = 79 + 2 := ⟨by decide +kernel, rfl⟩
theorem dX5_makeTest_81 : decode cX5_makeTest 81 = .ok (.lload 8, 2) ∧ 83 = 81 + 2 := ⟨by decide +kernel, rfl⟩
theorem dX5_makeTest_83 : decode cX5_makeTest 83 = .ok (.lconst 0, 1) ∧ 84 = 83 + 1 := ⟨by decide +kernel, rfl⟩
theorem dX5_makeTest_84 : decode cX5_makeTest 84 = .ok (.lcmp, 1) ∧ 85 = 84 + 1 := ⟨by decide +kernel, rfl⟩
theorem dX5_makeTest_85 : decode cX5_makeTest 85 = .ok (.ifCond .ne 16, 3) ∧ 88 = 85 + 3 := ⟨by decide +kernel, rfl⟩
theorem dX5_makeTest_88 : decode cX5_makeTest 88 = .ok (.lload 10, 2) ∧ 90 = 88 + 2 := ⟨by decide +kernel, rfl⟩
theorem dX5_makeTest_90 : decode cX5_makeTest 90 = .ok (.lconst 0, 1) ∧ 91 = 90 + 1 := ⟨by decide +kernel, rfl⟩
theorem dX5_makeTest_91 : decode cX5_makeTest 91 = .ok (.lcmp, 1) ∧ 92 = 91 + 1 := ⟨by decide +kernel, rfl⟩
theorem dX5_makeTest_92 : decode cX5_makeTest 92 = .ok (.ifCond .ne 9, 3) ∧ 95 = 92 + 3 := ⟨by decide +kernel, rfl⟩
theorem dX5_makeTest_95 : decode cX5_makeTest 95 = .ok (.iconst 0, 1) ∧ 96 = 95 + 1 := ⟨by decide +kernel, rfl⟩
theorem dX5_makeTest_96 : decode cX5_makeTest 96 = .ok (.istore 12, 2) ∧ 98 = 96 + 2 := ⟨by decide +kernel, rfl⟩
theorem dX5_makeTest_98 : decode cX5_makeTest 98 = .ok (.goto 22, 3) ∧ 101 = 98 + 3 := ⟨by decide +kernel, rfl⟩
theorem dX5_makeTest_101 : decode cX5_makeTest 101 = .ok (.lload 10, 2) ∧ 103 = 101 + 2 := ⟨by decide +kernel, rfl⟩
theorem dX5_makeTest_103 : decode cX5_makeTest 103 = .ok (.ldc2_w 159, 3) ∧ 106 = 103 + 3 := ⟨by decide +kernel, rfl⟩
theorem dX5_makeTest_106 : decode cX5_makeTest 106 = .ok (.lmul, 1) ∧ 107 = 106 + 1 := ⟨by decide +kernel, rfl⟩
theorem dX5_makeTest_107 : decode cX5_makeTest 107 = .ok (.lload 8, 2) ∧ 109 = 107 + 2 := ⟨by decide +kernel, rfl⟩
theorem dX5_makeTest_109 : decode cX5_makeTest 109 = .ok (.ldc2_w 161, 3) ∧ 112 = 109 + 3 := ⟨by decide +kernel, rfl⟩
theorem dX5_makeTest_112 : decode cX5_makeTest 112 = .ok (.lmul, 1) ∧ 113 = 112 + 1 := ⟨by decide +kernel, rfl⟩
theorem dX5_makeTest_113 : decode cX5_makeTest 113 = .ok (.lcmp, 1) ∧ 114 = 113 + 1 := ⟨by decide +kernel, rfl⟩
theorem dX5_makeTest_114 : decode cX5_makeTest 114 = .ok (.ifCond .lt 6, 3) ∧ 117 = 114 + 3 := ⟨by decide +kernel, rfl⟩
theorem dX5_makeTest_117 : decode cX5_makeTest 117 = .ok (.iconst 2, 1) ∧ 118 = 117 + 1 := ⟨by decide +kernel, rfl⟩
theorem dX5_makeTest_118 : decode cX5_makeTest 118 = .ok (.istore 12, 2) ∧ 120 = 118 + 2 := ⟨by decide +kernel, rfl⟩
theorem dX5_makeTest_120 : decode cX5_makeTest 120 = .ok (.aload_n 0, 1) ∧ 121 = 120 + 1 := ⟨by decide +kernel, rfl⟩
theorem dX5_makeTest_121 : decode cX5_makeTest 121 = .ok (.getfield 50, 3) ∧ 124 = 121 + 3 := ⟨by decide +kernel, rfl⟩
theorem dX5_makeTest_124 : decode cX5_makeTest 124 = .ok (.iload_n 1, 1) ∧ 125 = 124 + 1 := ⟨by decide +kernel, rfl⟩
theorem dX5_makeTest_125 : decode cX5_makeTest 125 = .ok (.iload 12, 2) ∧ 127 = 125 + 2 := ⟨by decide +kernel, rfl⟩
theorem dX5_makeTest_127 : decode cX5_makeTest 127 = .ok (.aload_n 0, 1) ∧ 128 = 127 + 1 := ⟨by decide +kernel, rfl⟩
theorem dX5_makeTest_128 : decode cX5_makeTest 128 = .ok (.getfield 9, 3) ∧ 131 = 128 + 3 := ⟨by decide +kernel, rfl⟩
theorem dX5_makeTest_131 : decode cX5_makeTest 131 = .ok (.iload_n 2, 1) ∧ 132 = 131 + 1 := ⟨by decide +kernel, rfl⟩
theorem dX5_makeTest_132 : decode cX5_makeTest 132 = .ok (.lload 8, 2) ∧ 134 = 132 + 2 := ⟨by decide +kernel, rfl⟩
theorem dX5_makeTest_134 : decode cX5_makeTest 134 = .ok (.lload 10, 2) ∧ 136 = 134 + 2 := ⟨by decide +kernel, rfl⟩
theorem dX5_makeTest_136 : decode cX5_makeTest 136 = .ok (.invokevirtual 163, 3) ∧ 139 = 136 + 3 := ⟨by decide +kernel, rfl⟩
theorem dX5_makeTest_139 : decode cX5_makeTest 139 = .ok (.iload 12, 2) ∧ 141 = 139 + 2 := ⟨by decide +kernel, rfl⟩
theorem dX5_makeTest_141 : decode cX5_makeTest 141 = .ok (.ireturn, 1) ∧ 142 = 141 + 1 := ⟨by decide +kernel, rfl⟩
theorem dX5_tick_0 : decode cX5_tick 0 = .ok (.aload_n 0, 1) ∧ 1 = 0 + 1 := ⟨by decide +kernel, rfl⟩
theorem dX5_tick_1 : decode cX5_tick 1 = .ok (.invokevirtual 167, 3) ∧ 4 = 1 + 3 := ⟨by decide +kernel, rfl⟩
theorem dX5_tick_4 : decode cX5_tick 4 = .ok (.istore_n 1, 1) ∧ 5 = 4 + 1 := ⟨by decide +kernel, rfl⟩
theorem dX5_tick_5 : decode cX5_tick 5 = .ok (.aload_n 0, 1) ∧ 6 = 5 + 1 := ⟨by decide +kernel, rfl⟩
theorem dX5_tick_6 : decode cX5_tick 6 = .ok (.invokevirtual 170, 3) ∧ 9 = 6 + 3 := ⟨by decide +kernel, rfl⟩
theorem dX5_tick_9 : decode cX5_tick 9 = .ok (.aload_n 0, 1) ∧ 10 = 9 + 1 := ⟨by decide +kernel, rfl⟩
theorem dX5_tick_10 : decode cX5_tick 10 = .ok (.invokevirtual 173, 3) ∧ 13 = 10 + 3 := ⟨by decide +kernel, rfl⟩
theorem dX5_tick_13 : decode cX5_tick 13 = .ok (.iload_n 1, 1) ∧ 14 = 13 + 1 := ⟨by decide +kernel, rfl⟩
theorem dX5_tick_14 : decode cX5_tick 14 = .ok (.aload_n 0, 1) ∧ 15 = 14 + 1 := ⟨by decide +kernel, rfl⟩
theorem dX5_tick_15 : decode cX5_tick 15 = .ok (.invokevirtual 176, 3) ∧ 18 = 15 + 3 := ⟨by decide +kernel, rfl⟩
theorem dX5_tick_18 : decode cX5_tick 18 = .ok (.iadd, 1) ∧ 19 = 18 + 1 := ⟨by decide +kernel, rfl⟩
theorem dX5_tick_19 : decode cX5_tick 19 = .ok (.istore_n 1, 1) ∧ 20 = 19 + 1 := ⟨by decide +kernel, rfl⟩
theorem dX5_tick_20 : decode cX5_tick 20 = .ok (.aload_n 0, 1) ∧ 21 = 20 + 1 := ⟨by decide +kernel, rfl⟩
theorem dX5_tick_21 : decode cX5_tick 21 = .ok (.dup, 1) ∧ 22 = 21 + 1 := ⟨by decide +kernel, rfl⟩
theorem dX5_tick_22 : decode cX5_tick 22 = .ok (.getfield 9, 3) ∧ 25 = 22 + 3 := ⟨by decide +kernel, rfl⟩
theorem dX5_tick_25 : decode cX5_tick 25 = .ok (.iconst 1, 1) ∧ 26 = 25 + 1 := ⟨by decide +kernel, rfl⟩
theorem dX5_tick_26 : decode cX5_tick 26 = .ok (.iadd, 1) ∧ 27 = 26 + 1 := ⟨by decide +kernel, rfl⟩
theorem dX5_tick_27 : decode cX5_tick 27 = .ok (.putfield 9, 3) ∧ 30 = 27 + 3 := ⟨by decide +kernel, rfl⟩
theorem dX5_tick_30 : decode cX5_tick 30 = .ok (.iload_n 1, 1) ∧ 31 = 30 + 1 := ⟨by decide +kernel, rfl⟩
theorem dX5_tick_31 : decode cX5_tick 31 = .ok (.ireturn, 1) ∧ 32 = 31 + 1 := ⟨by decide +kernel, rfl⟩
theorem dX5_tripValves_0 : decode cX5_tripValves 0 = .ok (.iconst 0, 1) ∧ 1 = 0 + 1 := ⟨by decide +kernel, rfl⟩
theorem dX5_tripValves_1 : decode cX5_tripValves 1 = .ok (.istore_n 1, 1) ∧ 2 = 1 + 1 := ⟨by decide +kernel, rfl⟩
theorem dX5_tripValves_2 : decode cX5_tripValves 2 = .ok (.iconst 0, 1) ∧ 3 = 2 + 1 := ⟨by decide +kernel, rfl⟩
theorem dX5_tripValves_3 : decode cX5_tripValves 3 = .ok (.istore_n 2, 1) ∧ 4 = 3 + 1 := ⟨by decide +kernel, rfl⟩
theorem dX5_tripValves_4 : decode cX5_tripValves 4 = .ok (.iload_n 2, 1) ∧ 5 = 4 + 1 := ⟨by decide +kernel, rfl⟩
theorem dX5_tripValves_5 : decode cX5_tripValves 5 = .ok (.aload_n 0, 1) ∧ 6 = 5 + 1 := ⟨by decide +kernel, rfl⟩
theorem dX5_tripValves_6 : decode cX5_tripValves 6 = .ok (.getfield 54, 3) ∧ 9 = 6 + 3 := ⟨by decide +kernel, rfl⟩
theorem dX5_tripValves_9 : decode cX5_tripValves 9 = .ok (.getfield 82, 3) ∧ 12 = 9 + 3 := ⟨by decide +kernel, rfl⟩
theorem dX5_tripValves_12 : decode cX5_tripValves 12 = .ok (.if_icmp .ge 49, 3) ∧ 15 = 12 + 3 := ⟨by decide +kernel, rfl⟩
theorem dX5_tripValves_15 : decode cX5_tripValves 15 = .ok (.aload_n 0, 1) ∧ 16 = 15 + 1 := ⟨by decide +kernel, rfl⟩
theorem dX5_tripValves_16 : decode cX5_tripValves 16 = .ok (.iload_n 2, 1) ∧ 17 = 16 + 1 := ⟨by decide +kernel, rfl⟩
theorem dX5_tripValves_17 : decode cX5_tripValves 17 = .ok (.invokevirtual 123, 3) ∧ 20 = 17 + 3 := ⟨by decide +kernel, rfl⟩
theorem dX5_tripValves_20 : decode cX5_tripValves 20 = .ok (.ifCond .eq 35, 3) ∧ 23 = 20 + 3 := ⟨by decide +kernel, rfl⟩
theorem dX5_tripValves_23 : decode cX5_tripValves 23 = .ok (.aload_n 0, 1) ∧ 24 = 23 + 1 := ⟨by decide +kernel, rfl⟩
theorem dX5_tripValves_24 : decode cX5_tripValves 24 = .ok (.iload_n 2, 1) ∧ 25 = 24 + 1 := ⟨by decide +kernel, rfl⟩
theorem dX5_tripValves_25 : decode cX5_tripValves 25 = .ok (.invokevirtual 127, 3) ∧ 28 = 25 + 3 := ⟨by decide +kernel, rfl⟩
theorem dX5_tripValves_28 : decode cX5_tripValves 28 = .ok (.aload_n 0, 1) ∧ 29 = 28 + 1 := ⟨by decide +kernel, rfl⟩
theorem dX5_tripValves_29 : decode cX5_tripValves 29 = .ok (.getfield 35, 3) ∧ 32 = 29 + 3 := ⟨by decide +kernel, rfl⟩
theorem dX5_tripValves_32 : decode cX5_tripValves 32 = .ok (.iload_n 2, 1) ∧ 33 = 32 + 1 := ⟨by decide +kernel, rfl⟩
theorem dX5_tripValves_33 : decode cX5_tripValves 33 = .ok (.iaload, 1) ∧ 34 = 33 + 1 := ⟨by decide +kernel, rfl⟩
theorem dX5_tripValves_34 : decode cX5_tripValves 34 = .ok (.if_icmp .le 21, 3) ∧ 37 = 34 + 3 := ⟨by decide +kernel, rfl⟩
theorem dX5_tripValves_37 : decode cX5_tripValves 37 = .ok (.aload_n 0, 1) ∧ 38 = 37 + 1 := ⟨by decide +kernel, rfl⟩
theorem dX5_tripValves_38 : decode cX5_tripValves 38 = .ok (.iload_n 2, 1) ∧ 39 = 38 + 1 := ⟨by decide +kernel, rfl⟩
theorem dX5_tripValves_39 : decode cX5_tripValves 39 = .ok (.invokevirtual 179, 3) ∧ 42 = 39 + 3 := ⟨by decide +kernel, rfl⟩
theorem dX5_tripValves_42 : decode cX5_tripValves 42 = .ok (.aload_n 0, 1) ∧ 43 = 42 + 1 := ⟨by decide +kernel, rfl⟩
theorem dX5_tripValves_43 : decode cX5_tripValves 43 = .ok (.getfield 38, 3) ∧ 46 = 43 + 3 := ⟨by decide +kernel, rfl⟩
theorem dX5_tripValves_46 : decode cX5_tripValves 46 = .ok (.iload_n 2, 1) ∧ 47 = 46 + 1 := ⟨by decide +kernel, rfl⟩
theorem dX5_tripValves_47 : decode cX5_tripValves 47 = .ok (.dup2, 1) ∧ 48 = 47 + 1 := ⟨by decide +kernel, rfl⟩
theorem dX5_tripValves_48 : decode cX5_tripValves 48 = .ok (.iaload, 1) ∧ 49 = 48 + 1 := ⟨by decide +kernel, rfl⟩
theorem dX5_tripValves_49 : decode cX5_tripValves 49 = .ok (.iconst 1, 1) ∧ 50 = 49 + 1 := ⟨by decide +kernel, rfl⟩
theorem dX5_tripValves_50 : decode cX5_tripValves 50 = .ok (.iadd, 1) ∧ 51 = 50 + 1 := ⟨by decide +kernel, rfl⟩
theorem dX5_tripValves_51 : decode cX5_tripValves 51 = .ok (.iastore, 1) ∧ 52 = 51 + 1 := ⟨by decide +kernel, rfl⟩
theorem dX5_tripValves_52 : decode cX5_tripValves 52 = .ok (.iinc 1 1, 3) ∧ 55 = 52 + 3 := ⟨by decide +kernel, rfl⟩
theorem dX5_tripValves_55 : decode cX5_tripValves 55 = .ok (.iinc 2 1, 3) ∧ 58 = 55 + 3 := ⟨by decide +kernel, rfl⟩
theorem dX5_tripValves_58 : decode cX5_tripValves 58 = .ok (.goto (-54), 3) ∧ 61 = 58 + 3 := ⟨by decide +kernel, rfl⟩
theorem dX5_tripValves_61 : decode cX5_tripValves 61 = .ok (.iload_n 1, 1) ∧ 62 = 61 + 1 := ⟨by decide +kernel, rfl⟩
theorem dX5_tripValves_62 : decode cX5_tripValves 62 = .ok (.ireturn, 1) ∧ 63 = 62 + 1 := ⟨by decide +kernel, rfl⟩
theorem dX5_letGasIn_0 : decode cX5_letGasIn 0 = .ok (.iconst 0, 1) ∧ 1 = 0 + 1 := ⟨by decide +kernel, rfl⟩
theorem dX5_letGasIn_1 : decode cX5_letGasIn 1 = .ok (.istore_n 1, 1) ∧ 2 = 1 + 1 := ⟨by decide +kernel, rfl⟩
theorem dX5_letGasIn_2 : decode cX5_letGasIn 2 = .ok (.iload_n 1, 1) ∧ 3 = 2 + 1 := ⟨by decide +kernel, rfl⟩
theorem dX5_letGasIn_3 : decode cX5_letGasIn 3 = .ok (.aload_n 0, 1) ∧ 4 = 3 + 1 := ⟨by decide +kernel, rfl⟩
theorem dX5_letGasIn_4 : decode cX5_letGasIn 4 = .ok (.getfield 54, 3) ∧ 7 = 4 + 3 := ⟨by decide +kernel, rfl⟩
theorem dX5_letGasIn_7 : decode cX5_letGasIn 7 = .ok (.getfield 62, 3) ∧ 10 = 7 + 3 := ⟨by decide +kernel, rfl⟩
theorem dX5_letGasIn_10 : decode cX5_letGasIn 10 = .ok (.if_icmp .ge 89, 3) ∧ 13 = 10 + 3 := ⟨by decide +kernel, rfl⟩
theorem dX5_letGasIn_13 : decode cX5_letGasIn 13 = .ok (.iconst 0, 1) ∧ 14 = 13 + 1 := ⟨by decide +kernel, rfl⟩
theorem dX5_letGasIn_14 : decode cX5_letGasIn 14 = .ok (.istore_n 2, 1) ∧ 15 = 14 + 1 := ⟨by decide +kernel, rfl⟩
theorem dX5_letGasIn_15 : decode cX5_letGasIn 15 = .ok (.aload_n 0, 1) ∧ 16 = 15 + 1 := ⟨by decide +kernel, rfl⟩
theorem dX5_letGasIn_16 : decode cX5_letGasIn 16 = .ok (.getfield 25, 3) ∧ 19 = 16 + 3 := ⟨by decide +kernel, rfl⟩
theorem dX5_letGasIn_19 : decode cX5_letGasIn 19 = .ok (.iload_n 1, 1) ∧ 20 = 19 + 1 := ⟨by decide +kernel, rfl⟩
theorem dX5_letGasIn_20 : decode cX5_letGasIn 20 = .ok (.iaload, 1) ∧ 21 = 20 + 1 := ⟨by decide +kernel, rfl⟩
theorem dX5_letGasIn_21 : decode cX5_letGasIn 21 = .ok (.ldc 183, 2) ∧ 23 = 21 + 2 := ⟨by decide +kernel, rfl⟩
theorem dX5_letGasIn_23 : decode cX5_letGasIn 23 = .ok (.if_icmp .ge 12, 3) ∧ 26 = 23 + 3 := ⟨by decide +kernel, rfl⟩
theorem dX5_letGasIn_26 : decode cX5_letGasIn 26 = .ok (.iload_n 2, 1) ∧ 27 = 26 + 1 := ⟨by decide +kernel, rfl⟩
theorem dX5_letGasIn_27 : decode cX5_letGasIn 27 = .ok (.aload_n 0, 1) ∧ 28 = 27 + 1 := ⟨by decide +kernel, rfl⟩
theorem dX5_letGasIn_28 : decode cX5_letGasIn 28 = .ok (.getfield 29, 3) ∧ 31 = 28 + 3 := ⟨by decide +kernel, rfl⟩
theorem dX5_letGasIn_31 : decode cX5_letGasIn 31 = .ok (.iload_n 1, 1) ∧ 32 = 31 + 1 := ⟨by decide +kernel, rfl⟩
theorem dX5_letGasIn_32 : decode cX5_letGasIn 32 = .ok (.iaload, 1) ∧ 33 = 32 + 1 := ⟨by decide +kernel, rfl⟩
theorem dX5_letGasIn_33 : decode cX5_letGasIn 33 = .ok (.iadd, 1) ∧ 34 = 33 + 1 := ⟨by decide +kernel, rfl⟩
theorem dX5_letGasIn_34 : decode cX5_letGasIn 34 = .ok (.istore_n 2, 1) ∧ 35 = 34 + 1 := ⟨by decide +kernel, rfl⟩
theorem dX5_letGasIn_35 : decode cX5_letGasIn 35 = .ok (.aload_n 0, 1) ∧ 36 = 35 + 1 := ⟨by decide +kernel, rfl⟩
theorem dX5_letGasIn_36 : decode cX5_letGasIn 36 = .ok (.getfield 25, 3) ∧ 39 = 36 + 3 := ⟨by decide +kernel, rfl⟩
theorem dX5_letGasIn_39 : decode cX5_letGasIn 39 = .ok (.iload_n 1, 1) ∧ 40 = 39 + 1 := ⟨by decide +kernel, rfl⟩
theorem dX5_letGasIn_40 : decode cX5_letGasIn 40 = .ok (.iaload, 1) ∧ 41 = 40 + 1 := ⟨by decide +kernel, rfl⟩
theorem dX5_letGasIn_41 : decode cX5_letGasIn 41 = .ok (.ldc 58, 2) ∧ 43 = 41 + 2 := ⟨by decide +kernel, rfl⟩
theorem dX5_letGasIn_43 : decode cX5_letGasIn 43 = .ok (.if_icmp .ge 12, 3) ∧ 46 = 43 + 3 := ⟨by decide +kernel, rfl⟩
theorem dX5_letGasIn_46 : decode cX5_letGasIn 46 = .ok (.iload_n 2, 1) ∧ 47 = 46 + 1 := ⟨by decide +kernel, rfl⟩
theorem dX5_letGasIn_47 : decode cX5_letGasIn 47 = .ok (.aload_n 0, 1) ∧ 48 = 47 + 1 := ⟨by decide +kernel, rfl⟩
theorem dX5_letGasIn_48 : decode cX5_letGasIn 48 = .ok (.getfield 32, 3) ∧ 51 = 48 + 3 := ⟨by decide +kernel, rfl⟩
theorem dX5_letGasIn_51 : decode cX5_letGasIn 51 = .ok (.iload_n 1, 1) ∧ 52 = 51 + 1 := ⟨by decide +kernel, rfl⟩
theorem dX5_letGasIn_52 : decode cX5_letGasIn 52 = .ok (.iaload, 1) ∧ 53 = 52 + 1 := ⟨by decide +kernel, rfl⟩
theorem dX5_letGasIn_53 : decode cX5_letGasIn 53 = .ok (.iadd, 1) ∧ 54 = 53 + 1 := ⟨by decide +kernel, rfl⟩
theorem dX5_letGasIn_54 : decode cX5_letGasIn 54 = .ok (.istore_n 2, 1) ∧ 55 = 54 + 1 := ⟨by decide +kernel, rfl⟩
theorem dX5_letGasIn_55 : decode cX5_letGasIn 55 = .ok (.aload_n 0, 1) ∧ 56 = 55 + 1 := ⟨by decide +kernel, rfl⟩
theorem dX5_letGasIn_56 : decode cX5_letGasIn 56 = .ok (.iload_n 1, 1) ∧ 57 = 56 + 1 := ⟨by decide +kernel, rfl⟩
theorem dX5_letGasIn_57 : decode cX5_letGasIn 57 = .ok (.iload_n 2, 1) ∧ 58 = 57 + 1 := ⟨by decide +kernel, rfl⟩
theorem dX5_letGasIn_58 : decode cX5_letGasIn 58 = .ok (.i2l, 1) ∧ 59 = 58 + 1 := ⟨by decide +kernel, rfl⟩
theorem dX5_letGasIn_59 : decode cX5_letGasIn 59 = .ok (.invokevirtual 72, 3) ∧ 62 = 59 + 3 := ⟨by decide +kernel, rfl⟩
theorem dX5_letGasIn_62 : decode cX5_letGasIn 62 = .ok (.aload_n 0, 1) ∧ 63 = 62 + 1 := ⟨by decide +kernel, rfl⟩
theorem dX5_letGasIn_63 : decode cX5_letGasIn 63 = .ok (.getfield 54, 3) ∧ 66 = 63 + 3 := ⟨by decide +kernel, rfl⟩
theorem dX5_letGasIn_66 : decode cX5_letGasIn 66 = .ok (.getfield 184, 3) ∧ 69 = 66 + 3 := ⟨by decide +kernel, rfl⟩
theorem dX5_letGasIn_69 : decode cX5_letGasIn 69 = .ok (.iload_n 1, 1) ∧ 70 = 69 + 1 := ⟨by decide +kernel, rfl⟩
theorem dX5_letGasIn_70 : decode cX5_letGasIn 70 = .ok (.iaload, 1) ∧ 71 = 70 + 1 := ⟨by decide +kernel, rfl⟩
theorem dX5_letGasIn_71 : decode cX5_letGasIn 71 = .ok (.istore_n 3, 1) ∧ 72 = 71 + 1 := ⟨by decide +kernel, rfl⟩
theorem dX5_letGasIn_72 : decode cX5_letGasIn 72 = .ok (.iload_n 3, 1) ∧ 73 = 72 + 1 := ⟨by decide +kernel, rfl⟩
theorem dX5_letGasIn_73 : decode cX5_letGasIn 73 = .ok (.ifCond .le 20, 3) ∧ 76 = 73 + 3 := ⟨by decide +kernel, rfl⟩
theorem dX5_letGasIn_76 : decode cX5_letGasIn 76 = .ok (.aload_n 0, 1) ∧ 77 = 76 + 1 := ⟨by decide +kernel, rfl⟩
theorem dX5_letGasIn_77 : decode cX5_letGasIn 77 = .ok (.getfield 29, 3) ∧ 80 = 77 + 3 := ⟨by decide +kernel, rfl⟩
theorem dX5_letGasIn_80 : decode cX5_letGasIn 80 = .ok (.iload_n 1, 1) ∧ 81 = 80 + 1 := ⟨by decide +kernel, rfl⟩
theorem dX5_letGasIn_81 : decode cX5_letGasIn 81 = .ok (.dup2, 1) ∧ 82 = 81 + 1 := ⟨by decide +kernel, rfl⟩
theorem dX5_letGasIn_82 : decode cX5_letGasIn 82 = .ok (.iaload, 1) ∧ 83 = 82 + 1 := ⟨by decide +kernel, rfl⟩
theorem dX5_letGasIn_83 : decode cX5_letGasIn 83 = .ok (.aload_n 0, 1) ∧ 84 = 83 + 1 := ⟨by decide +kernel, rfl⟩
theorem dX5_letGasIn_84 : decode cX5_letGasIn 84 = .ok (.getfield 29, 3) ∧ 87 = 84 + 3 := ⟨by decide +kernel, rfl⟩
theorem dX5_letGasIn_87 : decode cX5_letGasIn 87 = .ok (.iload_n 1, 1) ∧ 88 = 87 + 1 := ⟨by decide +kernel, rfl⟩
theorem dX5_letGasIn_88 : decode cX5_letGasIn 88 = .ok (.iaload, 1) ∧ 89 = 88 + 1 := ⟨by decide +kernel, rfl⟩
theorem dX5_letGasIn_89 : decode cX5_letGasIn 89 = .ok (.iload_n 3, 1) ∧ 90 = 89 + 1 := ⟨by decide +kernel, rfl⟩
theorem dX5_letGasIn_90 : decode cX5_letGasIn 90 = .ok (.idiv, 1) ∧ 91 = 90 + 1 := ⟨by decide +kernel, rfl⟩
theorem dX5_letGasIn_91 : decode cX5_letGasIn 91 = .ok (.isub, 1) ∧ 92 = 91 + 1 := ⟨by decide +kernel, rfl⟩
theorem dX5_letGasIn_92 : decode cX5_letGasIn 92 = .ok (.iastore, 1) ∧ 93 = 92 + 1 := ⟨by decide +kernel, rfl⟩
theorem dX5_letGasIn_93 : decode cX5_letGasIn 93 = .ok (.iinc 1 1, 3) ∧ 96 = 93 + 3 := ⟨by decide +kernel, rfl⟩
theorem dX5_letGasIn_96 : decode cX5_letGasIn 96 = .ok (.goto (-94), 3) ∧ 99 = 96 + 3 := ⟨by decide +kernel, rfl⟩
theorem dX5_letGasIn_99 : decode cX5_letGasIn 99 = .ok (.return_, 1) ∧ 100 = 99 + 1 := ⟨by decide +kernel, rfl⟩
theorem dX5_moveThroughValves_0 : decode cX5_moveThroughValves 0 = .ok (.iconst 0, 1) ∧ 1 = 0 + 1 := ⟨by decide +kernel, rfl⟩
theorem dX5_moveThroughValves_1 : decode cX5_moveThroughValves 1 = .ok (.istore_n 1, 1) ∧ 2 = 1 + 1 := ⟨by decide +kernel, rfl⟩
theorem dX5_moveThroughValves_2 : decode cX5_moveThroughValves 2 = .ok (.iload_n 1, 1) ∧ 3 = 2 + 1 := ⟨by decide +kernel, rfl⟩
theorem dX5_moveThroughValves_3 : decode cX5_moveThroughValves 3 = .ok (.aload_n 0, 1) ∧ 4 = 3 + 1 := ⟨by decide +kernel, rfl⟩
theorem dX5_moveThroughValves_4 : decode cX5_moveThroughValves 4 = .ok (.getfield 54, 3) ∧ 7 = 4 + 3 := ⟨by decide +kernel, rfl⟩
theorem dX5_moveThroughValves_7 : decode cX5_moveThroughValves 7 = .ok (.getfield 82, 3) ∧ 10 = 7 + 3 := ⟨by decide +kernel, rfl⟩
theorem dX5_moveThroughValves_10 : decode cX5_moveThroughValves 10 = .ok (.if_icmp .ge 112, 3) ∧ 13 = 10 + 3 := ⟨by decide +kernel, rfl⟩
theorem dX5_moveThroughValves_13 : decode cX5_moveThroughValves 13 = .ok (.aload_n 0, 1) ∧ 14 = 13 + 1 := ⟨by decide +kernel, rfl⟩
theorem dX5_moveThroughValves_14 : decode cX5_moveThroughValves 14 = .ok (.iload_n 1, 1) ∧ 15 = 14 + 1 := ⟨by decide +kernel, rfl⟩
theorem dX5_moveThroughValves_15 : decode cX5_moveThroughValves 15 = .ok (.invokevirtual 123, 3) ∧ 18 = 15 + 3 := ⟨by decide +kernel, rfl⟩
theorem dX5_moveThroughValves_18 : decode cX5_moveThroughValves 18 = .ok (.ifCond .ne 6, 3) ∧ 21 = 18 + 3 := ⟨by decide +kernel, rfl⟩
theorem dX5_moveThroughValves_21 : decode cX5_moveThroughValves 21 = .ok (.goto 95, 3) ∧ 24 = 21 + 3 := ⟨by decide +kernel, rfl⟩
theorem dX5_moveThroughValves_24 : decode cX5_moveThroughValves 24 = .ok (.aload_n 0, 1) ∧ 25 = 24 + 1 := ⟨by decide +kernel, rfl⟩
theorem dX5_moveThroughValves_25 : decode cX5_moveThroughValves 25 = .ok (.getfield 54, 3) ∧ 28 = 25 + 3 := ⟨by decide +kernel, rfl⟩
theorem dX5_moveThroughValves_28 : decode cX5_moveThroughValves 28 = .ok (.getfield 111, 3) ∧ 31 = 28 + 3 := ⟨by decide +kernel, rfl⟩
theorem dX5_moveThroughValves_31 : decode cX5_moveThroughValves 31 = .ok (.iload_n 1, 1) ∧ 32 = 31 + 1 := ⟨by decide +kernel, rfl⟩
theorem dX5_moveThroughValves_32 : decode cX5_moveThroughValves 32 = .ok (.iaload, 1) ∧ 33 = 32 + 1 := ⟨by decide +kernel, rfl⟩
theorem dX5_moveThroughValves_33 : decode cX5_moveThroughValves 33 = .ok (.istore_n 2, 1) ∧ 34 = 33 + 1 := ⟨by decide +kernel, rfl⟩
theorem dX5_moveThroughValves_34 : decode cX5_moveThroughValves 34 = .ok (.aload_n 0, 1) ∧ 35 = 34 + 1 := ⟨by decide +kernel, rfl⟩
theorem dX5_moveThroughValves_35 : decode cX5_moveThroughValves 35 = .ok (.getfield 54, 3) ∧ 38 = 35 + 3 := ⟨by decide +kernel, rfl⟩
theorem dX5_moveThroughValves_38 : decode cX5_moveThroughValves 38 = .ok (.getfield 114, 3) ∧ 41 = 38 + 3 := ⟨by decide +kernel, rfl⟩
theorem dX5_moveThroughValves_41 : decode cX5_moveThroughValves 41 = .ok (.iload_n 1, 1) ∧ 42 = 41 + 1 := ⟨by decide +kernel, rfl⟩
theorem dX5_moveThroughValves_42 : decode cX5_moveThroughValves 42 = .ok (.iaload, 1) ∧ 43 = 42 + 1 := ⟨by decide +kernel, rfl⟩
theorem dX5_moveThroughValves_43 : decode cX5_moveThroughValves 43 = .ok (.istore_n 3, 1) ∧ 44 = 43 + 1 := ⟨by decide +kernel, rfl⟩
theorem dX5_moveThroughValves_44 : decode cX5_moveThroughValves 44 = .ok (.aload_n 0, 1) ∧ 45 = 44 + 1 := ⟨by decide +kernel, rfl⟩
theorem dX5_moveThroughValves_45 : decode cX5_moveThroughValves 45 = .ok (.getfield 25, 3) ∧ 48 = 45 + 3 := ⟨by decide +kernel, rfl⟩
theorem dX5_moveThroughValves_48 : decode cX5_moveThroughValves 48 = .ok (.iload_n 2, 1) ∧ 49 = 48 + 1 := ⟨by decide +kernel, rfl⟩
theorem dX5_moveThroughValves_49 : decode cX5_moveThroughValves 49 = .ok (.iaload, 1) ∧ 50 = 49 + 1 := ⟨by decide +kernel, rfl⟩
theorem dX5_moveThroughValves_50 : decode cX5_moveThroughValves 50 = .ok (.aload_n 0, 1) ∧ 51 = 50 + 1 := ⟨by decide +kernel, rfl⟩
theorem dX5_moveThroughValves_51 : decode cX5_moveThroughValves 51 = .ok (.getfield 25, 3) ∧ 54 = 51 + 3 := ⟨by decide +kernel, rfl⟩
theorem dX5_moveThroughValves_54 : decode cX5_moveThroughValves 54 = .ok (.iload_n 3, 1) ∧ 55 = 54 + 1 := ⟨by decide +kernel, rfl⟩
theorem dX5_moveThroughValves_55 : decode cX5_moveThroughValves 55 = .ok (.iaload, 1) ∧ 56 = 55 + 1 := ⟨by decide +kernel, rfl⟩
theorem dX5_moveThroughValves_56 : decode cX5_moveThroughValves 56 = .ok (.if_icmp .ge 23, 3) ∧ 59 = 56 + 3 := ⟨by decide +kernel, rfl⟩
theorem dX5_moveThroughValves_59 : decode cX5_moveThroughValves 59 = .ok (.aload_n 0, 1) ∧ 60 = 59 + 1 := ⟨by decide +kernel, rfl⟩
theorem dX5_moveThroughValves_60 : decode cX5_moveThroughValves 60 = .ok (.getfield 54, 3) ∧ 63 = 60 + 3 := ⟨by decide +kernel, rfl⟩
theorem dX5_moveThroughValves_63 : decode cX5_moveThroughValves 63 = .ok (.getfield 114, 3) ∧ 66 = 63 + 3 := ⟨by decide +kernel, rfl⟩
theorem dX5_moveThroughValves_66 : decode cX5_moveThroughValves 66 = .ok (.iload_n 1, 1) ∧ 67 = 66 + 1 := ⟨by decide +kernel, rfl⟩
theorem dX5_moveThroughValves_67 : decode cX5_moveThroughValves 67 = .ok (.iaload, 1) ∧ 68 = 67 + 1 := ⟨by decide +kernel, rfl⟩
theorem dX5_moveThroughValves_68 : decode cX5_moveThroughValves 68 = .ok (.istore_n 2, 1) ∧ 69 = 68 + 1 := ⟨by decide +kernel, rfl⟩
theorem dX5_moveThroughValves_69 : decode cX5_moveThroughValves 69 = .ok (.aload_n 0, 1) ∧ 70 = 69 + 1 := ⟨by decide +kernel, rfl⟩
theorem dX5_moveThroughValves_70 : decode cX5_moveThroughValves 70 = .ok (.getfield 54, 3) ∧ 73 = 70 + 3 := ⟨by decide +kernel, rfl⟩
theorem dX5_moveThroughValves_73 : decode cX5_moveThroughValves 73 = .ok (.getfield 111, 3) ∧ 76 = 73 + 3 := ⟨by decide +kernel, rfl⟩
theorem dX5_moveThroughValves_76 : decode cX5_moveThroughValves 76 = .ok (.iload_n 1, 1) ∧ 77 = 76 + 1 := ⟨by decide +kernel, rfl⟩
theorem dX5_moveThroughValves_77 : decode cX5_moveThroughValves 77 = .ok (.iaload, 1) ∧ 78 = 77 + 1 := ⟨by decide +kernel, rfl⟩
theorem dX5_moveThroughValves_78 : decode cX5_moveThroughValves 78 = .ok (.istore_n 3, 1) ∧ 79 = 78 + 1 := ⟨by decide +kernel, rfl⟩
theorem dX5_moveThroughValves_79 : decode cX5_moveThroughValves 79 = .ok (.aload_n 0, 1) ∧ 80 = 79 + 1 := ⟨by decide +kernel, rfl⟩
theorem dX5_moveThroughValves_80 : decode cX5_moveThroughValves 80 = .ok (.iload_n 1, 1) ∧ 81 = 80 + 1 := ⟨by decide +kernel, rfl⟩
theorem dX5_moveThroughValves_81 : decode cX5_moveThroughValves 81 = .ok (.aload_n 0, 1) ∧ 82 = 81 + 1 := ⟨by decide +kernel, rfl⟩
theorem dX5_moveThroughValves_82 : decode cX5_moveThroughValves 82 = .ok (.getfield 25, 3) ∧ 85 = 82 + 3 := ⟨by decide +kernel, rfl⟩
theorem dX5_moveThroughValves_85 : decode cX5_moveThroughValves 85 = .ok (.iload_n 2, 1) ∧ 86 = 85 + 1 := ⟨by decide +kernel, rfl⟩
theorem dX5_moveThroughValves_86 : decode cX5_moveThroughValves 86 = .ok (.iaload, 1) ∧ 87 = 86 + 1 := ⟨by decide +kernel, rfl⟩
theorem dX5_moveThroughValves_87 : decode cX5_moveThroughValves 87 = .ok (.i2l, 1) ∧ 88 = 87 + 1 := ⟨by decide +kernel, rfl⟩
theorem dX5_moveThroughValves_88 : decode cX5_moveThroughValves 88 = .ok (.aload_n 0, 1) ∧ 89 = 88 + 1 := ⟨by decide +kernel, rfl⟩
theorem dX5_moveThroughValves_89 : decode cX5_moveThroughValves 89 = .ok (.getfield 25, 3) ∧ 92 = 89 + 3 := ⟨by decide +kernel, rfl⟩
theorem dX5_moveThroughValves_92 : decode cX5_moveThroughValves 92 = .ok (.iload_n 3, 1) ∧ 93 = 92 + 1 := ⟨by decide +kernel, rfl⟩
theorem dX5_moveThroughValves_93 : decode cX5_moveThroughValves 93 = .ok (.iaload, 1) ∧ 94 = 93 + 1 := ⟨by decide +kernel, rfl⟩
theorem dX5_moveThroughValves_94 : decode cX5_moveThroughValves 94 = .ok (.i2l, 1) ∧ 95 = 94 + 1 := ⟨by decide +kernel, rfl⟩
theorem dX5_moveThroughValves_95 : decode cX5_moveThroughValves 95 = .ok (.lsub, 1) ∧ 96 = 95 + 1 := ⟨by decide +kernel, rfl⟩
theorem dX5_moveThroughValves_96 : decode cX5_moveThroughValves 96 = .ok (.invokevirtual 187, 3) ∧ 99 = 96 + 3 := ⟨by decide +kernel, rfl⟩
theorem dX5_moveThroughValves_99 : decode cX5_moveThroughValves 99 = .ok (.lstore 4, 2) ∧ 101 = 99 + 2 := ⟨by decide +kernel, rfl⟩
theorem dX5_moveThroughValves_101 : decode cX5_moveThroughValves 101 = .ok (.aload_n 0, 1) ∧ 102 = 101 + 1 := ⟨by decide +kernel, rfl⟩
theorem dX5_moveThroughValves_102 : decode cX5_moveThroughValves 102 = .ok (.iload_n 2, 1) ∧ 103 = 102 + 1 := ⟨by decide +kernel, rfl⟩
theorem dX5_moveThroughValves_103 : decode cX5_moveThroughValves 103 = .ok (.lload 4, 2) ∧ 105 = 103 + 2 := ⟨by decide +kernel, rfl⟩
theorem dX5_moveThroughValves_105 : decode cX5_moveThroughValves 105 = .ok (.lneg, 1) ∧ 106 = 105 + 1 := ⟨by decide +kernel, rfl⟩
theorem dX5_moveThroughValves_106 : decode cX5_moveThroughValves 106 = .ok (.invokevirtual 72, 3) ∧ 109 = 106 + 3 := ⟨by decide +kernel, rfl⟩
theorem dX5_moveThroughValves_109 : decode cX5_moveThroughValves 109 = .ok (.aload_n 0, 1) ∧ 110 = 109 + 1 := ⟨by decide +kernel, rfl⟩
theorem dX5_moveThroughValves_110 : decode cX5_moveThroughValves 110 = .ok (.iload_n 3, 1) ∧ 111 = 110 + 1 := ⟨by decide +kernel, rfl⟩
theorem dX5_moveThroughValves_111 : decode cX5_moveThroughValves 111 = .ok (.lload 4, 2) ∧ 113 = 111 + 2 := ⟨by decide +kernel, rfl⟩
theorem dX5_moveThroughValves_113 : decode cX5_moveThroughValves 113 = .ok (.invokevirtual 72, 3) ∧ 116 = 113 + 3 := ⟨by decide +kernel, rfl⟩
theorem dX5_moveThroughValves_116 : decode cX5_moveThroughValves 116 = .ok (.iinc 1 1, 3) ∧ 119 = 116 + 3 := ⟨by decide +kernel, rfl⟩
theorem dX5_moveThroughValves_119 : decode cX5_moveThroughValves 119 = .ok (.goto (-117), 3) ∧ 122 = 119 + 3 := ⟨by decide +kernel, rfl⟩
theorem dX5_moveThroughValves_122 : decode cX5_moveThroughValves 122 = .ok (.return_, 1) ∧ 123 = 122 + 1 := ⟨by decide +kernel, rfl⟩
theorem dX5_flow_0 : decode cX5_flow 0 = .ok (.aload_n 0, 1) ∧ 1 = 0 + 1 := ⟨by decide +kernel, rfl⟩
theorem dX5_flow_1 : decode cX5_flow 1 = .ok (.getfield 54, 3) ∧ 4 = 1 + 3 := ⟨by decide +kernel, rfl⟩
theorem dX5_flow_4 : decode cX5_flow 4 = .ok (.getfield 67, 3) ∧ 7 = 4 + 3 := ⟨by decide +kernel, rfl⟩
theorem dX5_flow_7 : decode cX5_flow 7 = .ok (.aload_n 0, 1) ∧ 8 = 7 + 1 := ⟨by decide +kernel, rfl⟩
theorem dX5_flow_8 : decode cX5_flow 8 = .ok (.getfield 54, 3) ∧ 11 = 8 + 3 := ⟨by decide +kernel, rfl⟩
theorem dX5_flow_11 : decode cX5_flow 11 = .ok (.getfield 111, 3) ∧ 14 = 11 + 3 := ⟨by decide +kernel, rfl⟩
theorem dX5_flow_14 : decode cX5_flow 14 = .ok (.iload_n 1, 1) ∧ 15 = 14 + 1 := ⟨by decide +kernel, rfl⟩
theorem dX5_flow_15 : decode cX5_flow 15 = .ok (.iaload, 1) ∧ 16 = 15 + 1 := ⟨by decide +kernel, rfl⟩
theorem dX5_flow_16 : decode cX5_flow 16 = .ok (.iaload, 1) ∧ 17 = 16 + 1 := ⟨by decide +kernel, rfl⟩
theorem dX5_flow_17 : decode cX5_flow 17 = .ok (.i2l, 1) ∧ 18 = 17 + 1 := ⟨by decide +kernel, rfl⟩
theorem dX5_flow_18 : decode cX5_flow 18 = .ok (.lstore 4, 2) ∧ 20 = 18 + 2 := ⟨by decide +kernel, rfl⟩
theorem dX5_flow_20 : decode cX5_flow 20 = .ok (.aload_n 0, 1) ∧ 21 = 20 + 1 := ⟨by decide +kernel, rfl⟩
theorem dX5_flow_21 : decode cX5_flow 21 = .ok (.getfield 54, 3) ∧ 24 = 21 + 3 := ⟨by decide +kernel, rfl⟩
theorem dX5_flow_24 : decode cX5_flow 24 = .ok (.getfield 114, 3) ∧ 27 = 24 + 3 := ⟨by decide +kernel, rfl⟩
theorem dX5_flow_27 : decode cX5_flow 27 = .ok (.iload_n 1, 1) ∧ 28 = 27 + 1 := ⟨by decide +kernel, rfl⟩
theorem dX5_flow_28 : decode cX5_flow 28 = .ok (.iaload, 1) ∧ 29 = 28 + 1 := ⟨by decide +kernel, rfl⟩
theorem dX5_flow_29 : decode cX5_flow 29 = .ok (.istore 6, 2) ∧ 31 = 29 + 2 := ⟨by decide +kernel, rfl⟩
theorem dX5_flow_31 : decode cX5_flow 31 = .ok (.lload_n 2, 1) ∧ 32 = 31 + 1 := ⟨by decide +kernel, rfl⟩
theorem dX5_flow_32 : decode cX5_flow 32 = .ok (.lload 4, 2) ∧ 34 = 32 + 2 := ⟨by decide +kernel, rfl⟩
theorem dX5_flow_34 : decode cX5_flow 34 = .ok (.lmul, 1) ∧ 35 = 34 + 1 := ⟨by decide +kernel, rfl⟩
theorem dX5_flow_35 : decode cX5_flow 35 = .ok (.lstore 7, 2) ∧ 37 = 35 + 2 := ⟨by decide +kernel, rfl⟩
theorem dX5_flow_37 : decode cX5_flow 37 = .ok (.iload 6, 2) ∧ 39 = 37 + 2 := ⟨by decide +kernel, rfl⟩
theorem dX5_flow_39 : decode cX5_flow 39 = .ok (.bipush 8, 2) ∧ 41 = 39 + 2 := ⟨by decide +kernel, rfl⟩
theorem dX5_flow_41 : decode cX5_flow 41 = .ok (.if_icmp .eq 46, 3) ∧ 44 = 41 + 3 := ⟨by decide +kernel, rfl⟩
theorem dX5_flow_44 : decode cX5_flow 44 = .ok (.aload_n 0, 1) ∧ 45 = 44 + 1 := ⟨by decide +kernel, rfl⟩
theorem dX5_flow_45 : decode cX5_flow 45 = .ok (.getfield 54, 3) ∧ 48 = 45 + 3 := ⟨by decide +kernel, rfl⟩
theorem dX5_flow_48 : decode cX5_flow 48 = .ok (.getfield 67, 3) ∧ 51 = 48 + 3 := ⟨by decide +kernel, rfl⟩
theorem dX5_flow_51 : decode cX5_flow 51 = .ok (.iload 6, 2) ∧ 53 = 51 + 2 := ⟨by decide +kernel, rfl⟩
theorem dX5_flow_53 : decode cX5_flow 53 = .ok (.iaload, 1) ∧ 54 = 53 + 1 := ⟨by decide +kernel, rfl⟩
theorem dX5_flow_54 : decode cX5_flow 54 = .ok (.i2l, 1) ∧ 55 = 54 + 1 := ⟨by decide +kernel, rfl⟩
theorem dX5_flow_55 : decode cX5_flow 55 = .ok (.lstore 9, 2) ∧ 57 = 55 + 2 := ⟨by decide +kernel, rfl⟩
theorem dX5_flow_57 : decode cX5_flow 57 = .ok (.lload 4, 2) ∧ 59 = 57 + 2 := ⟨by decide +kernel, rfl⟩
theorem dX5_flow_59 : decode cX5_flow 59 = .ok (.lload 9, 2) ∧ 61 = 59 + 2 := ⟨by decide +kernel, rfl⟩
theorem dX5_flow_61 : decode cX5_flow 61 = .ok (.ladd, 1) ∧ 62 = 61 + 1 := ⟨by decide +kernel, rfl⟩
theorem dX5_flow_62 : decode cX5_flow 62 = .ok (.lstore 11, 2) ∧ 64 = 62 + 2 := ⟨by decide +kernel, rfl⟩
theorem dX5_flow_64 : decode cX5_flow 64 = .ok (.lload 11, 2) ∧ 66 = 64 + 2 := ⟨by decide +kernel, rfl⟩
theorem dX5_flow_66 : decode cX5_flow 66 = .ok (.lconst 0, 1) ∧ 67 = 66 + 1 := ⟨by decide +kernel, rfl⟩
theorem dX5_flow_67 : decode cX5_flow 67 = .ok (.lcmp, 1) ∧ 68 = 67 + 1 := ⟨by decide +kernel, rfl⟩
theorem dX5_flow_68 : decode cX5_flow 68 = .ok (.ifCond .le 16, 3) ∧ 71 = 68 + 3 := ⟨by decide +kernel, rfl⟩
theorem dX5_flow_71 : decode cX5_flow 71 = .ok (.lload_n 2, 1) ∧ 72 = 71 + 1 := ⟨by decide +kernel, rfl⟩
theorem dX5_flow_72 : decode cX5_flow 72 = .ok (.lload 4, 2) ∧ 74 = 72 + 2 := ⟨by decide +kernel, rfl⟩
theorem dX5_flow_74 : decode cX5_flow 74 = .ok (.lmul, 1) ∧ 75 = 74 + 1 := ⟨by decide +kernel, rfl⟩
theorem dX5_flow_75 : decode cX5_flow 75 = .ok (.lload 9, 2) ∧ 77 = 75 + 2 := ⟨by decide +kernel, rfl⟩
theorem dX5_flow_77 : decode cX5_flow 77 = .ok (.lmul, 1) ∧ 78 = 77 + 1 := ⟨by decide +kernel, rfl⟩
theorem dX5_flow_78 : decode cX5_flow 78 = .ok (.lload 11, 2) ∧ 80 = 78 + 2 := ⟨by decide +kernel, rfl⟩
theorem dX5_flow_80 : decode cX5_flow 80 = .ok (.ldiv, 1) ∧ 81 = 80 + 1 := ⟨by decide +kernel, rfl⟩
theorem dX5_flow_81 : decode cX5_flow 81 = .ok (.goto 4, 3) ∧ 84 = 81 + 3 := ⟨by decide +kernel, rfl⟩
theorem dX5_flow_84 : decode cX5_flow 84 = .ok (.lconst 0, 1) ∧ 85 = 84 + 1 := ⟨by decide +kernel, rfl⟩
theorem dX5_flow_85 : decode cX5_flow 85 = .ok (.lstore 7, 2) ∧ 87 = 85 + 2 := ⟨by decide +kernel, rfl⟩
theorem dX5_flow_87 : decode cX5_flow 87 = .ok (.aload_n 0, 1) ∧ 88 = 87 + 1 := ⟨by decide +kernel, rfl⟩
theorem dX5_flow_88 : decode cX5_flow 88 = .ok (.getfield 54, 3) ∧ 91 = 88 + 3 := ⟨by decide +kernel, rfl⟩
theorem dX5_flow_91 : decode cX5_flow 91 = .ok (.getfield 191, 3) ∧ 94 = 91 + 3 := ⟨by decide +kernel, rfl⟩
theorem dX5_flow_94 : decode cX5_flow 94 = .ok (.iload_n 1, 1) ∧ 95 = 94 + 1 := ⟨by decide +kernel, rfl⟩
theorem dX5_flow_95 : decode cX5_flow 95 = .ok (.iaload, 1) ∧ 96 = 95 + 1 := ⟨by decide +kernel, rfl⟩
theorem dX5_flow_96 : decode cX5_flow 96 = .ok (.i2l, 1) ∧ 97 = 96 + 1 := ⟨by decide +kernel, rfl⟩
theorem dX5_flow_97 : decode cX5_flow 97 = .ok (.lload_n 2, 1) ∧ 98 = 97 + 1 := ⟨by decide +kernel, rfl⟩
theorem dX5_flow_98 : decode cX5_flow 98 = .ok (.lmul, 1) ∧ 99 = 98 + 1 := ⟨by decide +kernel, rfl⟩
theorem dX5_flow_99 : decode cX5_flow 99 = .ok (.lload 7, 2) ∧ 101 = 99 + 2 := ⟨by decide +kernel, rfl⟩
theorem dX5_flow_101 : decode cX5_flow 101 = .ok (.invokestatic 194, 3) ∧ 104 = 101 + 3 := ⟨by decide +kernel, rfl⟩
theorem dX5_flow_104 : decode cX5_flow 104 = .ok (.lreturn, 1) ∧ 105 = 104 + 1 := ⟨by decide +kernel, rfl⟩
theorem dX5_runPumps_0 : decode cX5_runPumps 0 = .ok (.iconst 0, 1) ∧ 1 = 0 + 1 := ⟨by decide +kernel, rfl⟩
theorem dX5_runPumps_1 : decode cX5_runPumps 1 = .ok (.istore_n 1, 1) ∧ 2 = 1 + 1 := ⟨by decide +kernel, rfl⟩
theorem dX5_runPumps_2 : decode cX5_runPumps 2 = .ok (.iconst 0, 1) ∧ 3 = 2 + 1 := ⟨by decide +kernel, rfl⟩
theorem dX5_runPumps_3 : decode cX5_runPumps 3 = .ok (.istore_n 2, 1) ∧ 4 = 3 + 1 := ⟨by decide +kernel, rfl⟩
theorem dX5_runPumps_4 : decode cX5_runPumps 4 = .ok (.iload_n 2, 1) ∧ 5 = 4 + 1 := ⟨by decide +kernel, rfl⟩
theorem dX5_runPumps_5 : decode cX5_runPumps 5 = .ok (.aload_n 0, 1) ∧ 6 = 5 + 1 := ⟨by decide +kernel, rfl⟩
theorem dX5_runPumps_6 : decode cX5_runPumps 6 = .ok (.getfield 54, 3) ∧ 9 = 6 + 3 := ⟨by decide +kernel, rfl⟩
theorem dX5_runPumps_9 : decode cX5_runPumps 9 = .ok (.getfield 79, 3) ∧ 12 = 9 + 3 := ⟨by decide +kernel, rfl⟩
theorem dX5_runPumps_12 : decode cX5_runPumps 12 = .ok (.if_icmp .ge 143, 3) ∧ 15 = 12 + 3 := ⟨by decide +kernel, rfl⟩
theorem dX5_runPumps_15 : decode cX5_runPumps 15 = .ok (.aload_n 0, 1) ∧ 16 = 15 + 1 := ⟨by decide +kernel, rfl⟩
theorem dX5_runPumps_16 : decode cX5_runPumps 16 = .ok (.iload_n 2, 1) ∧ 17 = 16 + 1 := ⟨by decide +kernel, rfl⟩
theorem dX5_runPumps_17 : decode cX5_runPumps 17 = .ok (.invokevirtual 130, 3) ∧ 20 = 17 + 3 := ⟨by decide +kernel, rfl⟩
theorem dX5_runPumps_20 : decode cX5_runPumps 20 = .ok (.ifCond .ne 6, 3) ∧ 23 = 20 + 3 := ⟨by decide +kernel, rfl⟩
theorem dX5_runPumps_23 : decode cX5_runPumps 23 = .ok (.goto 126, 3) ∧ 26 = 23 + 3 := ⟨by decide +kernel, rfl⟩
theorem dX5_runPumps_26 : decode cX5_runPumps 26 = .ok (.aload_n 0, 1) ∧ 27 = 26 + 1 := ⟨by decide +kernel, rfl⟩
theorem dX5_runPumps_27 : decode cX5_runPumps 27 = .ok (.getfield 54, 3) ∧ 30 = 27 + 3 := ⟨by decide +kernel, rfl⟩
theorem dX5_runPumps_30 : decode cX5_runPumps 30 = .ok (.getfield 136, 3) ∧ 33 = 30 + 3 := ⟨by decide +kernel, rfl⟩
theorem dX5_runPumps_33 : decode cX5_runPumps 33 = .ok (.iload_n 2, 1) ∧ 34 = 33 + 1 := ⟨by decide +kernel, rfl⟩
theorem dX5_runPumps_34 : decode cX5_runPumps 34 = .ok (.iaload, 1) ∧ 35 = 34 + 1 := ⟨by decide +kernel, rfl⟩
theorem dX5_runPumps_35 : decode cX5_runPumps 35 = .ok (.istore_n 3, 1) ∧ 36 = 35 + 1 := ⟨by decide +kernel, rfl⟩
theorem dX5_runPumps_36 : decode cX5_runPumps 36 = .ok (.aload_n 0, 1) ∧ 37 = 36 + 1 := ⟨by decide +kernel, rfl⟩
theorem dX5_runPumps_37 : decode cX5_runPumps 37 = .ok (.iload_n 2, 1) ∧ 38 = 37 + 1 := ⟨by decide +kernel, rfl⟩
theorem dX5_runPumps_38 : decode cX5_runPumps 38 = .ok (.invokevirtual 133, 3) ∧ 41 = 38 + 3 := ⟨by decide +kernel, rfl⟩
theorem dX5_runPumps_41 : decode cX5_runPumps 41 = .ok (.ifCond .eq 24, 3) ∧ 44 = 41 + 3 := ⟨by decide +kernel, rfl⟩
theorem dX5_runPumps_44 : decode cX5_runPumps 44 = .ok (.aload_n 0, 1) ∧ 45 = 44 + 1 := ⟨by decide +kernel, rfl⟩
theorem dX5_runPumps_45 : decode cX5_runPumps 45 = .ok (.iload_n 2, 1) ∧ 46 = 45 + 1 := ⟨by decide +kernel, rfl⟩
theorem dX5_runPumps_46 : decode cX5_runPumps 46 = .ok (.invokevirtual 198, 3) ∧ 49 = 46 + 3 := ⟨by decide +kernel, rfl⟩
theorem dX5_runPumps_49 : decode cX5_runPumps 49 = .ok (.aload_n 0, 1) ∧ 50 = 49 + 1 := ⟨by decide +kernel, rfl⟩
theorem dX5_runPumps_50 : decode cX5_runPumps 50 = .ok (.getfield 41, 3) ∧ 53 = 50 + 3 := ⟨by decide +kernel, rfl⟩
theorem dX5_runPumps_53 : decode cX5_runPumps 53 = .ok (.iload_n 2, 1) ∧ 54 = 53 + 1 := ⟨by decide +kernel, rfl⟩
theorem dX5_runPumps_54 : decode cX5_runPumps 54 = .ok (.dup2, 1) ∧ 55 = 54 + 1 := ⟨by decide +kernel, rfl⟩
theorem dX5_runPumps_55 : decode cX5_runPumps 55 = .ok (.iaload, 1) ∧ 56 = 55 + 1 := ⟨by decide +kernel, rfl⟩
theorem dX5_runPumps_56 : decode cX5_runPumps 56 = .ok (.iconst 1, 1) ∧ 57 = 56 + 1 := ⟨by decide +kernel, rfl⟩
theorem dX5_runPumps_57 : decode cX5_runPumps 57 = .ok (.iadd, 1) ∧ 58 = 57 + 1 := ⟨by decide +kernel, rfl⟩
theorem dX5_runPumps_58 : decode cX5_runPumps 58 = .ok (.iastore, 1) ∧ 59 = 58 + 1 := ⟨by decide +kernel, rfl⟩
theorem dX5_runPumps_59 : decode cX5_runPumps 59 = .ok (.iinc 1 1, 3) ∧ 62 = 59 + 3 := ⟨by decide +kernel, rfl⟩
theorem dX5_runPumps_62 : decode cX5_runPumps 62 = .ok (.goto 87, 3) ∧ 65 = 62 + 3 := ⟨by decide +kernel, rfl⟩
theorem dX5_runPumps_65 : decode cX5_runPumps 65 = .ok (.aload_n 0, 1) ∧ 66 = 65 + 1 := ⟨by decide +kernel, rfl⟩
theorem dX5_runPumps_66 : decode cX5_runPumps 66 = .ok (.getfield 25, 3) ∧ 69 = 66 + 3 := ⟨by decide +kernel, rfl⟩
theorem dX5_runPumps_69 : decode cX5_runPumps 69 = .ok (.iload_n 3, 1) ∧ 70 = 69 + 1 := ⟨by decide +kernel, rfl⟩
theorem dX5_runPumps_70 : decode cX5_runPumps 70 = .ok (.iaload, 1) ∧ 71 = 70 + 1 := ⟨by decide +kernel, rfl⟩
theorem dX5_runPumps_71 : decode cX5_runPumps 71 = .ok (.aload_n 0, 1) ∧ 72 = 71 + 1 := ⟨by decide +kernel, rfl⟩
theorem dX5_runPumps_72 : decode cX5_runPumps 72 = .ok (.getfield 54, 3) ∧ 75 = 72 + 3 := ⟨by decide +kernel, rfl⟩
theorem dX5_runPumps_75 : decode cX5_runPumps 75 = .ok (.getfield 201, 3) ∧ 78 = 75 + 3 := ⟨by decide +kernel, rfl⟩
theorem dX5_runPumps_78 : decode cX5_runPumps 78 = .ok (.iload_n 2, 1) ∧ 79 = 78 + 1 := ⟨by decide +kernel, rfl⟩
theorem dX5_runPumps_79 : decode cX5_runPumps 79 = .ok (.iaload, 1) ∧ 80 = 79 + 1 := ⟨by decide +kernel, rfl⟩
theorem dX5_runPumps_80 : decode cX5_runPumps 80 = .ok (.if_icmp .le 69, 3) ∧ 83 = 80 + 3 := ⟨by decide +kernel, rfl⟩
theorem dX5_runPumps_83 : decode cX5_runPumps 83 = .ok (.aload_n 0, 1) ∧ 84 = 83 + 1 := ⟨by decide +kernel, rfl⟩
theorem dX5_runPumps_84 : decode cX5_runPumps 84 = .ok (.getfield 54, 3) ∧ 87 = 84 + 3 := ⟨by decide +kernel, rfl⟩
theorem dX5_runPumps_87 : decode cX5_runPumps 87 = .ok (.getfield 204, 3) ∧ 90 = 87 + 3 := ⟨by decide +kernel, rfl⟩
theorem dX5_runPumps_90 : decode cX5_runPumps 90 = .ok (.iload_n 2, 1) ∧ 91 = 90 + 1 := ⟨by decide +kernel, rfl⟩
theorem dX5_runPumps_91 : decode cX5_runPumps 91 = .ok (.iaload, 1) ∧ 92 = 91 + 1 := ⟨by decide +kernel, rfl⟩
theorem dX5_runPumps_92 : decode cX5_runPumps 92 = .ok (.i2l, 1) ∧ 93 = 92 + 1 := ⟨by decide +kernel, rfl⟩
theorem dX5_runPumps_93 : decode cX5_runPumps 93 = .ok (.aload_n 0, 1) ∧ 94 = 93 + 1 := ⟨by decide +kernel, rfl⟩
theorem dX5_runPumps_94 : decode cX5_runPumps 94 = .ok (.getfield 25, 3) ∧ 97 = 94 + 3 := ⟨by decide +kernel, rfl⟩
theorem dX5_runPumps_97 : decode cX5_runPumps 97 = .ok (.iload_n 3, 1) ∧ 98 = 97 + 1 := ⟨by decide +kernel, rfl⟩
theorem dX5_runPumps_98 : decode cX5_runPumps 98 = .ok (.iaload, 1) ∧ 99 = 98 + 1 := ⟨by decide +kernel, rfl⟩
theorem dX5_runPumps_99 : decode cX5_runPumps 99 = .ok (.aload_n 0, 1) ∧ 100 = 99 + 1 := ⟨by decide +kernel, rfl⟩
theorem dX5_runPumps_100 : decode cX5_runPumps 100 = .ok (.getfield 54, 3) ∧ 103 = 100 + 3 := ⟨by decide +kernel, rfl⟩
theorem dX5_runPumps_103 : decode cX5_runPumps 103 = .ok (.getfield 201, 3) ∧ 106 = 103 + 3 := ⟨by decide +kernel, rfl⟩
theorem dX5_runPumps_106 : decode cX5_runPumps 106 = .ok (.iload_n 2, 1) ∧ 107 = 106 + 1 := ⟨by decide +kernel, rfl⟩
theorem dX5_runPumps_107 : decode cX5_runPumps 107 = .ok (.iaload, 1) ∧ 108 = 107 + 1 := ⟨by decide +kernel, rfl⟩
theorem dX5_runPumps_108 : decode cX5_runPumps 108 = .ok (.isub, 1) ∧ 109 = 108 + 1 := ⟨by decide +kernel, rfl⟩
theorem dX5_runPumps_109 : decode cX5_runPumps 109 = .ok (.i2l, 1) ∧ 110 = 109 + 1 := ⟨by decide +kernel, rfl⟩
theorem dX5_runPumps_110 : decode cX5_runPumps 110 = .ok (.lmul, 1) ∧ 111 = 110 + 1 := ⟨by decide +kernel, rfl⟩
theorem dX5_runPumps_111 : decode cX5_runPumps 111 = .ok (.lstore 4, 2) ∧ 113 = 111 + 2 := ⟨by decide +kernel, rfl⟩
theorem dX5_runPumps_113 : decode cX5_runPumps 113 = .ok (.lload 4, 2) ∧ 115 = 113 + 2 := ⟨by decide +kernel, rfl⟩
theorem dX5_runPumps_115 : decode cX5_runPumps 115 = .ok (.aload_n 0, 1) ∧ 116 = 115 + 1 := ⟨by decide +kernel, rfl⟩
theorem dX5_runPumps_116 : decode cX5_runPumps 116 = .ok (.getfield 21, 3) ∧ 119 = 116 + 3 := ⟨by decide +kernel, rfl⟩
theorem dX5_runPumps_119 : decode cX5_runPumps 119 = .ok (.iload_n 3, 1) ∧ 120 = 119 + 1 := ⟨by decide +kernel, rfl⟩
theorem dX5_runPumps_120 : decode cX5_runPumps 120 = .ok (.laload, 1) ∧ 121 = 120 + 1 := ⟨by decide +kernel, rfl⟩
theorem dX5_runPumps_121 : decode cX5_runPumps 121 = .ok (.invokestatic 194, 3) ∧ 124 = 121 + 3 := ⟨by decide +kernel, rfl⟩
theorem dX5_runPumps_124 : decode cX5_runPumps 124 = .ok (.lstore 4, 2) ∧ 126 = 124 + 2 := ⟨by decide +kernel, rfl⟩
theorem dX5_runPumps_126 : decode cX5_runPumps 126 = .ok (.aload_n 0, 1) ∧ 127 = 126 + 1 := ⟨by decide +kernel, rfl⟩
theorem dX5_runPumps_127 : decode cX5_runPumps 127 = .ok (.iload_n 3, 1) ∧ 128 = 127 + 1 := ⟨by decide +kernel, rfl⟩
theorem dX5_runPumps_128 : decode cX5_runPumps 128 = .ok (.lload 4, 2) ∧ 130 = 128 + 2 := ⟨by decide +kernel, rfl⟩
theorem dX5_runPumps_130 : decode cX5_runPumps 130 = .ok (.lneg, 1) ∧ 131 = 130 + 1 := ⟨by decide +kernel, rfl⟩
theorem dX5_runPumps_131 : decode cX5_runPumps 131 = .ok (.invokevirtual 72, 3) ∧ 134 = 131 + 3 := ⟨by decide +kernel, rfl⟩
theorem dX5_runPumps_134 : decode cX5_runPumps 134 = .ok (.aload_n 0, 1) ∧ 135 = 134 + 1 := ⟨by decide +kernel, rfl⟩
theorem dX5_runPumps_135 : decode cX5_runPumps 135 = .ok (.aload_n 0, 1) ∧ 136 = 135 + 1 := ⟨by decide +kernel, rfl⟩
theorem dX5_runPumps_136 : decode cX5_runPumps 136 = .ok (.getfield 54, 3) ∧ 139 = 136 + 3 := ⟨by decide +kernel, rfl⟩
theorem dX5_runPumps_139 : decode cX5_runPumps 139 = .ok (.getfield 142, 3) ∧ 142 = 139 + 3 := ⟨by decide +kernel, rfl⟩
theorem dX5_runPumps_142 : decode cX5_runPumps 142 = .ok (.iload_n 2, 1) ∧ 143 = 142 + 1 := ⟨by decide +kernel, rfl⟩
theorem dX5_runPumps_143 : decode cX5_runPumps 143 = .ok (.iaload, 1) ∧ 144 = 143 + 1 := ⟨by decide +kernel, rfl⟩
theorem dX5_runPumps_144 : decode cX5_runPumps 144 = .ok (.lload 4, 2) ∧ 146 = 144 + 2 := ⟨by decide +kernel, rfl⟩
theorem dX5_runPumps_146 : decode cX5_runPumps 146 = .ok (.invokevirtual 72, 3) ∧ 149 = 146 + 3 := ⟨by decide +kernel, rfl⟩
theorem dX5_runPumps_149 : decode cX5_runPumps 149 = .ok (.iinc 2 1, 3) ∧ 152 = 149 + 3 := ⟨by decide +kernel, rfl⟩
theorem dX5_runPumps_152 : decode cX5_runPumps 152 = .ok (.goto (-148), 3) ∧ 155 = 152 + 3 := ⟨by decide +kernel, rfl⟩
theorem dX5_runPumps_155 : decode cX5_runPumps 155 = .ok (.iload_n 1, 1) ∧ 156 = 155 + 1 := ⟨by decide +kernel, rfl⟩
theorem dX5_runPumps_156 : decode cX5_runPumps 156 = .ok (.ireturn, 1) ∧ 157 = 156 + 1 := ⟨by decide +kernel, rfl⟩
theorem dX5_addGas_0 : decode cX5_addGas 0 = .ok (.iload_n 1, 1) ∧ 1 = 0 + 1 := ⟨by decide +kernel, rfl⟩
theorem dX5_addGas_1 : decode cX5_addGas 1 = .ok (.bipush 8, 2) ∧ 3 = 1 + 2 := ⟨by decide +kernel, rfl⟩
theorem dX5_addGas_3 : decode cX5_addGas 3 = .ok (.if_icmp .ne 4, 3) ∧ 6 = 3 + 3 := ⟨by decide +kernel, rfl⟩
theorem dX5_addGas_6 : decode cX5_addGas 6 = .ok (.return_, 1) ∧ 7 = 6 + 1 := ⟨by decide +kernel, rfl⟩
theorem dX5_addGas_7 : decode cX5_addGas 7 = .ok (.aload_n 0, 1) ∧ 8 = 7 + 1 := ⟨by decide +kernel, rfl⟩
theorem dX5_addGas_8 : decode cX5_addGas 8 = .ok (.getfield 21, 3) ∧ 11 = 8 + 3 := ⟨by decide +kernel, rfl⟩
theorem dX5_addGas_11 : decode cX5_addGas 11 = .ok (.iload_n 1, 1) ∧ 12 = 11 + 1 := ⟨by decide +kernel, rfl⟩
theorem dX5_addGas_12 : decode cX5_addGas 12 = .ok (.dup2, 1) ∧ 13 = 12 + 1 := ⟨by decide +kernel, rfl⟩
theorem dX5_addGas_13 : decode cX5_addGas 13 = .ok (.laload, 1) ∧ 14 = 13 + 1 := ⟨by decide +kernel, rfl⟩
theorem dX5_addGas_14 : decode cX5_addGas 14 = .ok (.lload_n 2, 1) ∧ 15 = 14 + 1 := ⟨by decide +kernel, rfl⟩
theorem dX5_addGas_15 : decode cX5_addGas 15 = .ok (.ladd, 1) ∧ 16 = 15 + 1 := ⟨by decide +kernel, rfl⟩
theorem dX5_addGas_16 : decode cX5_addGas 16 = .ok (.lastore, 1) ∧ 17 = 16 + 1 := ⟨by decide +kernel, rfl⟩
theorem dX5_addGas_17 : decode cX5_addGas 17 = .ok (.aload_n 0, 1) ∧ 18 = 17 + 1 := ⟨by decide +kernel, rfl⟩
theorem dX5_addGas_18 : decode cX5_addGas 18 = .ok (.getfield 54, 3) ∧ 21 = 18 + 3 := ⟨by decide +kernel, rfl⟩
theorem dX5_addGas_21 : decode cX5_addGas 21 = .ok (.getfield 67, 3) ∧ 24 = 21 + 3 := ⟨by decide +kernel, rfl⟩
theorem dX5_addGas_24 : decode cX5_addGas 24 = .ok (.iload_n 1, 1) ∧ 25 = 24 + 1 := ⟨by decide +kernel, rfl⟩
theorem dX5_addGas_25 : decode cX5_addGas 25 = .ok (.iaload, 1) ∧ 26 = 25 + 1 := ⟨by decide +kernel, rfl⟩
theorem dX5_addGas_26 : decode cX5_addGas 26 = .ok (.istore 4, 2) ∧ 28 = 26 + 2 := ⟨by decide +kernel, rfl⟩
theorem dX5_addGas_28 : decode cX5_addGas 28 = .ok (.aload_n 0, 1) ∧ 29 = 28 + 1 := ⟨by decide +kernel, rfl⟩
theorem dX5_addGas_29 : decode cX5_addGas 29 = .ok (.getfield 25, 3) ∧ 32 = 29 + 3 := ⟨by decide +kernel, rfl⟩
theorem dX5_addGas_32 : decode cX5_addGas 32 = .ok (.iload_n 1, 1) ∧ 33 = 32 + 1 := ⟨by decide +kernel, rfl⟩
theorem dX5_addGas_33 : decode cX5_addGas 33 = .ok (.iload 4, 2) ∧ 35 = 33 + 2 := ⟨by decide +kernel, rfl⟩
theorem dX5_addGas_35 : decode cX5_addGas 35 = .ok (.ifCond .le 17, 3) ∧ 38 = 35 + 3 := ⟨by decide +kernel, rfl⟩
theorem dX5_addGas_38 : decode cX5_addGas 38 = .ok (.aload_n 0, 1) ∧ 39 = 38 + 1 := ⟨by decide +kernel, rfl⟩
theorem dX5_addGas_39 : decode cX5_addGas 39 = .ok (.getfield 21, 3) ∧ 42 = 39 + 3 := ⟨by decide +kernel, rfl⟩
theorem dX5_addGas_42 : decode cX5_addGas 42 = .ok (.iload_n 1, 1) ∧ 43 = 42 + 1 := ⟨by decide +kernel, rfl⟩
theorem dX5_addGas_43 : decode cX5_addGas 43 = .ok (.laload, 1) ∧ 44 = 43 + 1 := ⟨by decide +kernel, rfl⟩
theorem dX5_addGas_44 : decode cX5_addGas 44 = .ok (.iload 4, 2) ∧ 46 = 44 + 2 := ⟨by decide +kernel, rfl⟩
theorem dX5_addGas_46 : decode cX5_addGas 46 = .ok (.i2l, 1) ∧ 47 = 46 + 1 := ⟨by decide +kernel, rfl⟩
theorem dX5_addGas_47 : decode cX5_addGas 47 = .ok (.ldiv, 1) ∧ 48 = 47 + 1 := ⟨by decide +kernel, rfl⟩
theorem dX5_addGas_48 : decode cX5_addGas 48 = .ok (.l2i, 1) ∧ 49 = 48 + 1 := ⟨by decide +kernel, rfl⟩
theorem dX5_addGas_49 : decode cX5_addGas 49 = .ok (.goto 4, 3) ∧ 52 = 49 + 3 := ⟨by decide +kernel, rfl⟩
theorem dX5_addGas_52 : decode cX5_addGas 52 = .ok (.iconst 0, 1) ∧ 53 = 52 + 1 := ⟨by decide +kernel, rfl⟩
theorem dX5_addGas_53 : decode cX5_addGas 53 = .ok (.iastore, 1) ∧ 54 = 53 + 1 := ⟨by decide +kernel, rfl⟩
theorem dX5_addGas_54 : decode cX5_addGas 54 = .ok (.return_, 1) ∧ 55 = 54 + 1 := ⟨by decide +kernel, rfl⟩
theorem dX6_init_0 : decode cX6_init 0 = .ok (.aload_n 0, 1) ∧ 1 = 0 + 1 := ⟨by decide +kernel, rfl⟩
theorem dX6_init_1 : decode cX6_init 1 = .ok (.invokespecial 3, 3) ∧ 4 = 1 + 3 := ⟨by decide +kernel, rfl⟩
theorem dX6_init_4 : decode cX6_init 4 = .ok (.aload_n 0, 1) ∧ 5 = 4 + 1 := ⟨by decide +kernel, rfl⟩
theorem dX6_init_5 : decode cX6_init 5 = .ok (.new 9, 3) ∧ 8 = 5 + 3 := ⟨by decide +kernel, rfl⟩
theorem dX6_init_8 : decode cX6_init 8 = .ok (.dup, 1) ∧ 9 = 8 + 1 := ⟨by decide +kernel, rfl⟩
theorem dX6_init_9 : decode cX6_init 9 = .ok (.invokespecial 11, 3) ∧ 12 = 9 + 3 := ⟨by decide +kernel, rfl⟩
theorem dX6_init_12 : decode cX6_init 12 = .ok (.putfield 12, 3) ∧ 15 = 12 + 3 := ⟨by decide +kernel, rfl⟩
theorem dX6_init_15 : decode cX6_init 15 = .ok (.aload_n 0, 1) ∧ 16 = 15 + 1 := ⟨by decide +kernel, rfl⟩
theorem dX6_init_16 : decode cX6_init 16 = .ok (.aload_n 1, 1) ∧ 17 = 16 + 1 := ⟨by decide +kernel, rfl⟩
theorem dX6_init_17 : decode cX6_init 17 = .ok (.putfield 18, 3) ∧ 20 = 17 + 3 := ⟨by decide +kernel, rfl⟩
theorem dX6_init_20 : decode cX6_init 20 = .ok (.return_, 1) ∧ 21 = 20 + 1 := ⟨by decide +kernel, rfl⟩
theorem dX6_parse_0 : decode cX6_parse 0 = .ok (.aload_n 0, 1) ∧ 1 = 0 + 1 := ⟨by decide +kernel, rfl⟩
theorem dX6_parse_1 : decode cX6_parse 1 = .ok (.getfield 12, 3) ∧ 4 = 1 + 3 := ⟨by decide +kernel, rfl⟩
theorem dX6_parse_4 : decode cX6_parse 4 = .ok (.invokevirtual 22, 3) ∧ 7 = 4 + 3 := ⟨by decide +kernel, rfl⟩
theorem dX6_parse_7 : decode cX6_parse 7 = .ok (.aload_n 0, 1) ∧ 8 = 7 + 1 := ⟨by decide +kernel, rfl⟩
theorem dX6_parse_8 : decode cX6_parse 8 = .ok (.getfield 18, 3) ∧ 11 = 8 + 3 := ⟨by decide +kernel, rfl⟩
theorem dX6_parse_11 : decode cX6_parse 11 = .ok (.invokevirtual 25, 3) ∧ 14 = 11 + 3 := ⟨by decide +kernel, rfl⟩
theorem dX6_parse_14 : decode cX6_parse 14 = .ok (.iconst 0, 1) ∧ 15 = 14 + 1 := ⟨by decide +kernel, rfl⟩
theorem dX6_parse_15 : decode cX6_parse 15 = .ok (.istore_n 1, 1) ∧ 16 = 15 + 1 := ⟨by decide +kernel, rfl⟩
theorem dX6_parse_16 : decode cX6_parse 16 = .ok (.iconst 0, 1) ∧ 17 = 16 + 1 := ⟨by decide +kernel, rfl⟩
theorem dX6_parse_17 : decode cX6_parse 17 = .ok (.istore_n 2, 1) ∧ 18 = 17 + 1 := ⟨by decide +kernel, rfl⟩
theorem dX6_parse_18 : decode cX6_parse 18 = .ok (.iload_n 2, 1) ∧ 19 = 18 + 1 := ⟨by decide +kernel, rfl⟩
theorem dX6_parse_19 : decode cX6_parse 19 = .ok (.sipush 900, 3) ∧ 22 = 19 + 3 := ⟨by decide +kernel, rfl⟩
theorem dX6_parse_22 : decode cX6_parse 22 = .ok (.if_icmp .ge 157, 3) ∧ 25 = 22 + 3 := ⟨by decide +kernel, rfl⟩
theorem dX6_parse_25 : decode cX6_parse 25 = .ok (.aload_n 0, 1) ∧ 26 = 25 + 1 := ⟨by decide +kernel, rfl⟩
theorem dX6_parse_26 : decode cX6_parse 26 = .ok (.getfield 18, 3) ∧ 29 = 26 + 3 := ⟨by decide +kernel, rfl⟩
theorem dX6_parse_29 : decode cX6_parse 29 = .ok (.getfield 30, 3) ∧ 32 = 29 + 3 := ⟨by decide +kernel, rfl⟩
theorem dX6_parse_32 : decode cX6_parse 32 = .ok (.ifCond .eq 147, 3) ∧ 35 = 32 + 3 := ⟨by decide +kernel, rfl⟩
theorem dX6_parse_35 : decode cX6_parse 35 = .ok (.aload_n 0, 1) ∧ 36 = 35 + 1 := ⟨by decide +kernel, rfl⟩
theorem dX6_parse_36 : decode cX6_parse 36 = .ok (.getfield 18, 3) ∧ 39 = 36 + 3 := ⟨by decide +kernel, rfl⟩
theorem dX6_parse_39 : decode cX6_parse 39 = .ok (.getfield 34, 3) ∧ 42 = 39 + 3 := ⟨by decide +kernel, rfl⟩
theorem dX6_parse_42 : decode cX6_parse 42 = .ok (.ifCond .ne 137, 3) ∧ 45 = 42 + 3 := ⟨by decide +kernel, rfl⟩
theorem dX6_parse_45 : decode cX6_parse 45 = .ok (.aload_n 0, 1) ∧ 46 = 45 + 1 := ⟨by decide +kernel, rfl⟩
theorem dX6_parse_46 : decode cX6_parse 46 = .ok (.invokevirtual 37, 3) ∧ 49 = 46 + 3 := ⟨by decide +kernel, rfl⟩
theorem dX6_parse_49 : decode cX6_parse 49 = .ok (.istore_n 3, 1) ∧ 50 = 49 + 1 := ⟨by decide +kernel, rfl⟩
theorem dX6_parse_50 : decode cX6_parse 50 = .ok (.iload_n 3, 1) ∧ 51 = 50 + 1 := ⟨by decide +kernel, rfl⟩
theorem dX6_parse_51 : decode cX6_parse 51 = .ok (.iload_n 1, 1) ∧ 52 = 51 + 1 := ⟨by decide +kernel, rfl⟩
theorem dX6_parse_52 : decode cX6_parse 52 = .ok (.if_icmp .lt 17, 3) ∧ 55 = 52 + 3 := ⟨by decide +kernel, rfl⟩
theorem dX6_parse_55 : decode cX6_parse 55 = .ok (.iload_n 3, 1) ∧ 56 = 55 + 1 := ⟨by decide +kernel, rfl⟩
theorem dX6_parse_56 : decode cX6_parse 56 = .ok (.ifCond .le 31, 3) ∧ 59 = 56 + 3 := ⟨by decide +kernel, rfl⟩
theorem dX6_parse_59 : decode cX6_parse 59 = .ok (.aload_n 0, 1) ∧ 60 = 59 + 1 := ⟨by decide +kernel, rfl⟩
theorem dX6_parse_60 : decode cX6_parse 60 = .ok (.getfield 12, 3) ∧ 63 = 60 + 3 := ⟨by decide +kernel, rfl⟩
theorem dX6_parse_63 : decode cX6_parse 63 = .ok (.getfield 41, 3) ∧ 66 = 63 + 3 := ⟨by decide +kernel, rfl⟩
theorem dX6_parse_66 : decode cX6_parse 66 = .ok (.ifCond .ne 21, 3) ∧ 69 = 66 + 3 := ⟨by decide +kernel, rfl⟩
theorem dX6_parse_69 : decode cX6_parse 69 = .ok (.aload_n 0, 1) ∧ 70 = 69 + 1 := ⟨by decide +kernel, rfl⟩
theorem dX6_parse_70 : decode cX6_parse 70 = .ok (.getfield 18, 3) ∧ 73 = 70 + 3 := ⟨by decide +kernel, rfl⟩
theorem dX6_parse_73 : decode cX6_parse 73 = .ok (.iconst 1, 1) ∧ 74 = 73 + 1 := ⟨by decide +kernel, rfl⟩
theorem dX6_parse_74 : decode cX6_parse 74 = .ok (.aload_n 0, 1) ∧ 75 = 74 + 1 := ⟨by decide +kernel, rfl⟩
theorem dX6_parse_75 : decode cX6_parse 75 = .ok (.getfield 18, 3) ∧ 78 = 75 + 3 := ⟨by decide +kernel, rfl⟩
theorem dX6_parse_78 : decode cX6_parse 78 = .ok (.getfield 44, 3) ∧ 81 = 78 + 3 := ⟨by decide +kernel, rfl⟩
theorem dX6_parse_81 : decode cX6_parse 81 = .ok (.invokevirtual 47, 3) ∧ 84 = 81 + 3 := ⟨by decide +kernel, rfl⟩
theorem dX6_parse_84 : decode cX6_parse 84 = .ok (.goto 89, 3) ∧ 87 = 84 + 3 := ⟨by decide +kernel, rfl⟩
theorem dX6_parse_87 : decode cX6_parse 87 = .ok (.aload_n 0, 1) ∧ 88 = 87 + 1 := ⟨by decide +kernel, rfl⟩
theorem dX6_parse_88 : decode cX6_parse 88 = .ok (.iload_n 3, 1) ∧ 89 = 88 + 1 := ⟨by decide +kernel, rfl⟩
theorem dX6_parse_89 : decode cX6_parse 89 = .ok (.invokevirtual 51, 3) ∧ 92 = 89 + 3 := ⟨by decide +kernel, rfl⟩
theorem dX6_parse_92 : decode cX6_parse 92 = .ok (.ifCond .eq 21, 3) ∧ 95 = 92 + 3 := ⟨by decide +kernel, rfl⟩
theorem dX6_parse_95 : decode cX6_parse 95 = .ok (.aload_n 0, 1) ∧ 96 = 95 + 1 := ⟨by decide +kernel, rfl⟩
theorem dX6_parse_96 : decode cX6_parse 96 = .ok (.getfield 18, 3) ∧ 99 = 96 + 3 := ⟨by decide +kernel, rfl⟩
theorem dX6_parse_99 : decode cX6_parse 99 = .ok (.iconst 4, 1) ∧ 100 = 99 + 1 := ⟨by decide +kernel, rfl⟩
theorem dX6_parse_100 : decode cX6_parse 100 = .ok (.aload_n 0, 1) ∧ 101 = 100 + 1 := ⟨by decide +kernel, rfl⟩
theorem dX6_parse_101 : decode cX6_parse 101 = .ok (.getfield 18, 3) ∧ 104 = 101 + 3 := ⟨by decide +kernel, rfl⟩
theorem dX6_parse_104 : decode cX6_parse 104 = .ok (.getfield 44, 3) ∧ 107 = 104 + 3 := ⟨by decide +kernel, rfl⟩
theorem dX6_parse_107 : decode cX6_parse 107 = .ok (.invokevirtual 47, 3) ∧ 110 = 107 + 3 := ⟨by decide +kernel, rfl⟩
theorem dX6_parse_110 : decode cX6_parse 110 = .ok (.goto 63, 3) ∧ 113 = 110 + 3 := ⟨by decide +kernel, rfl⟩
theorem dX6_parse_113 : decode cX6_parse 113 = .ok (.iload_n 3, 1) ∧ 114 = 113 + 1 := ⟨by decide +kernel, rfl⟩
theorem dX6_parse_114 : decode cX6_parse 114 = .ok (.istore_n 1, 1) ∧ 115 = 114 + 1 := ⟨by decide +kernel, rfl⟩
theorem dX6_parse_115 : decode cX6_parse 115 = .ok (.aload_n 0, 1) ∧ 116 = 115 + 1 := ⟨by decide +kernel, rfl⟩
theorem dX6_parse_116 : decode cX6_parse 116 = .ok (.getfield 18, 3) ∧ 119 = 116 + 3 := ⟨by decide +kernel, rfl⟩
theorem dX6_parse_119 : decode cX6_parse 119 = .ok (.invokevirtual 55, 3) ∧ 122 = 119 + 3 := ⟨by decide +kernel, rfl⟩
theorem dX6_parse_122 : decode cX6_parse 122 = .ok (.iload_n 3, 1) ∧ 123 = 122 + 1 := ⟨by decide +kernel, rfl⟩
theorem dX6_parse_123 : decode cX6_parse 123 = .ok (.tableswitch 46 0 2 #[25, 32, 39], 25) ∧ 148 = 123 + 25 := ⟨by decide +kernel, rfl⟩
theorem dX6_parse_148 : decode cX6_parse 148 = .ok (.aload_n 0, 1) ∧ 149 = 148 + 1 := ⟨by decide +kernel, rfl⟩
theorem dX6_parse_149 : decode cX6_parse 149 = .ok (.invokevirtual 58, 3) ∧ 152 = 149 + 3 := ⟨by decide +kernel, rfl⟩
theorem dX6_parse_152 : decode cX6_parse 152 = .ok (.goto 21, 3) ∧ 155 = 152 + 3 := ⟨by decide +kernel, rfl⟩
theorem dX6_parse_155 : decode cX6_parse 155 = .ok (.aload_n 0, 1) ∧ 156 = 155 + 1 := ⟨by decide +kernel, rfl⟩
theorem dX6_parse_156 : decode cX6_parse 156 = .ok (.invokevirtual 61, 3) ∧ 159 = 156 + 3 := ⟨by decide +kernel, rfl⟩
theorem dX6_parse_159 : decode cX6_parse 159 = .ok (.goto 14, 3) ∧ 162 = 159 + 3 := ⟨by decide +kernel, rfl⟩
theorem dX6_parse_162 : decode cX6_parse 162 = .ok (.aload_n 0, 1) ∧ 163 = 162 + 1 := ⟨by decide +kernel, rfl⟩
theorem dX6_parse_163 : decode cX6_parse 163 = .ok (.invokevirtual 64, 3) ∧ 166 = 163 + 3 := ⟨by decide +kernel, rfl⟩
theorem dX6_parse_166 : decode cX6_parse 166 = .ok (.goto 7, 3) ∧ 169 = 166 + 3 := ⟨by decide +kernel, rfl⟩
theorem dX6_parse_169 : decode cX6_parse 169 = .ok (.aload_n 0, 1) ∧ 170 = 169 + 1 := ⟨by decide +kernel, rfl⟩
theorem dX6_parse_170 : decode cX6_parse 170 = .ok (.invokevirtual 67, 3) ∧ 173 = 170 + 3 := ⟨by decide +kernel, rfl⟩
theorem dX6_parse_173 : decode cX6_parse 173 = .ok (.iinc 2 1, 3) ∧ 176 = 173 + 3 := ⟨by decide +kernel, rfl⟩
theorem dX6_parse_176 : decode cX6_parse 176 = .ok (.goto (-158), 3) ∧ 179 = 176 + 3 := ⟨by decide +kernel, rfl⟩
theorem dX6_parse_179 : decode cX6_parse 179 = .ok (.aload_n 0, 1) ∧ 180 = 179 + 1 := ⟨by decide +kernel, rfl⟩
theorem dX6_parse_180 : decode cX6_parse 180 = .ok (.getfield 12, 3) ∧ 183 = 180 + 3 := ⟨by decide +kernel, rfl⟩
theorem dX6_parse_183 : decode cX6_parse 183 = .ok (.getfield 41, 3) ∧ 186 = 183 + 3 := ⟨by decide +kernel, rfl⟩
theorem dX6_parse_186 : decode cX6_parse 186 = .ok (.ifCond .ne 18, 3) ∧ 189 = 186 + 3 := ⟨by decide +kernel, rfl⟩
theorem dX6_parse_189 : decode cX6_parse 189 = .ok (.aload_n 0, 1) ∧ 190 = 189 + 1 := ⟨by decide +kernel, rfl⟩
theorem dX6_parse_190 : decode cX6_parse 190 = .ok (.getfield 18, 3) ∧ 193 = 190 + 3 := ⟨by decide +kernel, rfl⟩
theorem dX6_parse_193 : decode cX6_parse 193 = .ok (.iconst 1, 1) ∧ 194 = 193 + 1 := ⟨by decide +kernel, rfl⟩
theorem dX6_parse_194 : decode cX6_parse 194 = .ok (.aload_n 0, 1) ∧ 195 = 194 + 1 := ⟨by decide +kernel, rfl⟩
theorem dX6_parse_195 : decode cX6_parse 195 = .ok (.getfield 18, 3) ∧ 198 = 195 + 3 := ⟨by decide +kernel, rfl⟩
theorem dX6_parse_198 : decode cX6_parse 198 = .ok (.getfield 44, 3) ∧ 201 = 198 + 3 := ⟨by decide +kernel, rfl⟩
theorem dX6_parse_201 : decode cX6_parse 201 = .ok (.invokevirtual 47, 3) ∧ 204 = 201 + 3 := ⟨by decide +kernel, rfl⟩
theorem dX6_parse_204 : decode cX6_parse 204 = .ok (.aload_n 0, 1) ∧ 205 = 204 + 1 := ⟨by decide +kernel, rfl⟩
theorem dX6_parse_205 : decode cX6_parse 205 = .ok (.getfield 18, 3) ∧ 208 = 205 + 3 := ⟨by decide +kernel, rfl⟩
theorem dX6_parse_208 : decode cX6_parse 208 = .ok (.getfield 34, 3) ∧ 211 = 208 + 3 := ⟨by decide +kernel, rfl⟩
theorem dX6_parse_211 : decode cX6_parse 211 = .ok (.ifCond .ne 7, 3) ∧ 214 = 211 + 3 := ⟨by decide +kernel, rfl⟩
theorem dX6_parse_214 : decode cX6_parse 214 = .ok (.iconst 1, 1) ∧ 215 = 214 + 1 := ⟨by decide +kernel, rfl⟩
theorem dX6_parse_215 : decode cX6_parse 215 = .ok (.goto 4, 3) ∧ 218 = 215 + 3 := ⟨by decide +kernel, rfl⟩
theorem dX6_parse_218 : decode cX6_parse 218 = .ok (.iconst 0, 1) ∧ 219 = 218 + 1 := ⟨by decide +kernel, rfl⟩
theorem dX6_parse_219 : decode cX6_parse 219 = .ok (.ireturn, 1) ∧ 220 = 219 + 1 := ⟨by decide +kernel, rfl⟩
theorem dX6_section_0 : decode cX6_section 0 = .ok (.aload_n 0, 1) ∧ 1 = 0 + 1 := ⟨by decide +kernel, rfl⟩
theorem dX6_section_1 : decode cX6_section 1 = .ok (.getfield 18, 3) ∧ 4 = 1 + 3 := ⟨by decide +kernel, rfl⟩
theorem dX6_section_4 : decode cX6_section 4 = .ok (.ldc 70, 2) ∧ 6 = 4 + 2 := ⟨by decide +kernel, rfl⟩
theorem dX6_section_6 : decode cX6_section 6 = .ok (.invokevirtual 72, 3) ∧ 9 = 6 + 3 := ⟨by decide +kernel, rfl⟩
theorem dX6_section_9 : decode cX6_section 9 = .ok (.ifCond .eq 5, 3) ∧ 12 = 9 + 3 := ⟨by decide +kernel, rfl⟩
theorem dX6_section_12 : decode cX6_section 12 = .ok (.iconst 0, 1) ∧ 13 = 12 + 1 := ⟨by decide +kernel, rfl⟩
theorem dX6_section_13 : decode cX6_section 13 = .ok (.ireturn, 1) ∧ 14 = 13 + 1 := ⟨by decide +kernel, rfl⟩
theorem dX6_section_14 : decode cX6_section 14 = .ok (.aload_n 0, 1) ∧ 15 = 14 + 1 := ⟨by decide +kernel, rfl⟩
theorem dX6_section_15 : decode cX6_section 15 = .ok (.getfield 18, 3) ∧ 18 = 15 + 3 := ⟨by decide +kernel, rfl⟩
theorem dX6_section_18 : decode cX6_section 18 = .ok (.ldc 76, 2) ∧ 20 = 18 + 2 := ⟨by decide +kernel, rfl⟩
theorem dX6_section_20 : decode cX6_section 20 = .ok (.invokevirtual 72, 3) ∧ 23 = 20 + 3 := ⟨by decide +kernel, rfl⟩
theorem dX6_section_23 : decode cX6_section 23 = .ok (.ifCond .eq 5, 3) ∧ 26 = 23 + 3 := ⟨by decide +kernel, rfl⟩
theorem dX6_section_26 : decode cX6_section 26 = .ok (.iconst 1, 1) ∧ 27 = 26 + 1 := ⟨by decide +kernel, rfl⟩
theorem dX6_section_27 : decode cX6_section 27 = .ok (.ireturn, 1) ∧ 28 = 27 + 1 := ⟨by decide +kernel, rfl⟩
theorem dX6_section_28 : decode cX6_section 28 = .ok (.aload_n 0, 1) ∧ 29 = 28 + 1 := ⟨by decide +kernel, rfl⟩
theorem dX6_section_29 : decode cX6_section 29 = .ok (.getfield 18, 3) ∧ 32 = 29 + 3 := ⟨by decide +kernel, rfl⟩
theorem dX6_section_32 : decode cX6_section 32 = .ok (.ldc 78, 2) ∧ 34 = 32 + 2 := ⟨by decide +kernel, rfl⟩
theorem dX6_section_34 : decode cX6_section 34 = .ok (.invokevirtual 72, 3) ∧ 37 = 34 + 3 := ⟨by decide +kernel, rfl⟩
theorem dX6_section_37 : decode cX6_section 37 = .ok (.ifCond .eq 5, 3) ∧ 40 = 37 + 3 := ⟨by decide +kernel, rfl⟩
theorem dX6_section_40 : decode cX6_section 40 = .ok (.iconst 2, 1) ∧ 41 = 40 + 1 := ⟨by decide +kernel, rfl⟩
theorem dX6_section_41 : decode cX6_section 41 = .ok (.ireturn, 1) ∧ 42 = 41 + 1 := ⟨by decide +kernel, rfl⟩
theorem dX6_section_42 : decode cX6_section 42 = .ok (.aload_n 0, 1) ∧ 43 = 42 + 1 := ⟨by decide +kernel, rfl⟩
theorem dX6_section_43 : decode cX6_section 43 = .ok (.getfield 18, 3) ∧ 46 = 43 + 3 := ⟨by decide +kernel, rfl⟩
theorem dX6_section_46 : decode cX6_section 46 = .ok (.ldc 80, 2) ∧ 48 = 46 + 2 := ⟨by decide +kernel, rfl⟩
theorem dX6_section_48 : decode cX6_section 48 = .ok (.invokevirtual 72, 3) ∧ 51 = 48 + 3 := ⟨by decide +kernel, rfl⟩
theorem dX6_section_51 : decode cX6_section 51 = .ok (.ifCond .eq 7, 3) ∧ 54 = 51 + 3 := ⟨by decide +kernel, rfl⟩
theorem dX6_section_54 : decode cX6_section 54 = .ok (.iconst 3, 1) ∧ 55 = 54 + 1 := ⟨by decide +kernel, rfl⟩
theorem dX6_section_55 : decode cX6_section 55 = .ok (.goto 4, 3) ∧ 58 = 55 + 3 := ⟨by decide +kernel, rfl⟩
theorem dX6_section_58 : decode cX6_section 58 = .ok (.iconst (-1), 1) ∧ 59 = 58 + 1 := ⟨by decide +kernel, rfl⟩
theorem dX6_section_59 : decode cX6_section 59 = .ok (.ireturn, 1) ∧ 60 = 59 + 1 := ⟨by decide +kernel, rfl⟩
theorem dX6_isFull_0 : decode cX6_isFull 0 = .ok (.iload_n 1, 1) ∧ 1 = 0 + 1 := ⟨by decide +kernel, rfl⟩
theorem dX6_isFull_1 : decode cX6_isFull 1 = .ok (.tableswitch 81 0 2 #[27, 45, 63], 27) ∧ 28 = 1 + 27 := ⟨by decide +kernel, rfl⟩
theorem dX6_isFull_28 : decode cX6_isFull 28 = .ok (.aload_n 0, 1) ∧ 29 = 28 + 1 := ⟨by decide +kernel, rfl⟩
theorem dX6_isFull_29 : decode cX6_isFull 29 = .ok (.getfield 12, 3) ∧ 32 = 29 + 3 := ⟨by decide +kernel, rfl⟩
theorem dX6_isFull_32 : decode cX6_isFull 32 = .ok (.getfield 41, 3) ∧ 35 = 32 + 3 := ⟨by decide +kernel, rfl⟩
theorem dX6_isFull_35 : decode cX6_isFull 35 = .ok (.bipush 8, 2) ∧ 37 = 35 + 2 := ⟨by decide +kernel, rfl⟩
theorem dX6_isFull_37 : decode cX6_isFull 37 = .ok (.if_icmp .ne 7, 3) ∧ 40 = 37 + 3 := ⟨by decide +kernel, rfl⟩
theorem dX6_isFull_40 : decode cX6_isFull 40 = .ok (.iconst 1, 1) ∧ 41 = 40 + 1 := ⟨by decide +kernel, rfl⟩
theorem dX6_isFull_41 : decode cX6_isFull 41 = .ok (.goto 4, 3) ∧ 44 = 41 + 3 := ⟨by decide +kernel, rfl⟩
theorem dX6_isFull_44 : decode cX6_isFull 44 = .ok (.iconst 0, 1) ∧ 45 = 44 + 1 := ⟨by decide +kernel, rfl⟩
theorem dX6_isFull_45 : decode cX6_isFull 45 = .ok (.ireturn, 1) ∧ 46 = 45 + 1 := ⟨by decide +kernel, rfl⟩
theorem dX6_isFull_46 : decode cX6_isFull 46 = .ok (.aload_n 0, 1) ∧ 47 = 46 + 1 := ⟨by decide +kernel, rfl⟩
theorem dX6_isFull_47 : decode cX6_isFull 47 = .ok (.getfield 12, 3) ∧ 50 = 47 + 3 := ⟨by decide +kernel, rfl⟩
theorem dX6_isFull_50 : decode cX6_isFull 50 = .ok (.getfield 82, 3) ∧ 53 = 50 + 3 := ⟨by decide +kernel, rfl⟩
theorem dX6_isFull_53 : decode cX6_isFull 53 = .ok (.bipush 6, 2) ∧ 55 = 53 + 2 := ⟨by decide +kernel, rfl⟩
theorem dX6_isFull_55 : decode cX6_isFull 55 = .ok (.if_icmp .ne 7, 3) ∧ 58 = 55 + 3 := ⟨by decide +kernel, rfl⟩
theorem dX6_isFull_58 : decode cX6_isFull 58 = .ok (.iconst 1, 1) ∧ 59 = 58 + 1 := ⟨by decide +kernel, rfl⟩
theorem dX6_isFull_59 : decode cX6_isFull 59 = .ok (.goto 4, 3) ∧ 62 = 59 + 3 := ⟨by decide +kernel, rfl⟩
theorem dX6_isFull_62 : decode cX6_isFull 62 = .ok (.iconst 0, 1) ∧ 63 = 62 + 1 := ⟨by decide +kernel, rfl⟩
theorem dX6_isFull_63 : decode cX6_isFull 63 = .ok (.ireturn, 1) ∧ 64 = 63 + 1 := ⟨by decide +kernel, rfl⟩
theorem dX6_isFull_64 : decode cX6_isFull 64 = .ok (.aload_n 0, 1) ∧ 65 = 64 + 1 := ⟨by decide +kernel, rfl⟩
theorem dX6_isFull_65 : decode cX6_isFull 65 = .ok (.getfield 12, 3) ∧ 68 = 65 + 3 := ⟨by decide +kernel, rfl⟩
theorem dX6_isFull_68 : decode cX6_isFull 68 = .ok (.getfield 85, 3) ∧ 71 = 68 + 3 := ⟨by decide +kernel, rfl⟩
theorem dX6_isFull_71 : decode cX6_isFull 71 = .ok (.bipush 10, 2) ∧ 73 = 71 + 2 := ⟨by decide +kernel, rfl⟩
theorem dX6_isFull_73 : decode cX6_isFull 73 = .ok (.if_icmp .ne 7, 3) ∧ 76 = 73 + 3 := ⟨by decide +kernel, rfl⟩
theorem dX6_isFull_76 : decode cX6_isFull 76 = .ok (.iconst 1, 1) ∧ 77 = 76 + 1 := ⟨by decide +kernel, rfl⟩
theorem dX6_isFull_77 : decode cX6_isFull 77 = .ok (.goto 4, 3) ∧ 80 = 77 + 3 := ⟨by decide +kernel, rfl⟩
theorem dX6_isFull_80 : decode cX6_isFull 80 = .ok (.iconst 0, 1) ∧ 81 = 80 + 1 := ⟨by decide +kernel, rfl⟩
theorem dX6_isFull_81 : decode cX6_isFull 81 = .ok (.ireturn, 1) ∧ 82 = 81 + 1 := ⟨by decide +kernel, rfl⟩
theorem dX6_isFull_82 : decode cX6_isFull 82 = .ok (.aload_n 0, 1) ∧ 83 = 82 + 1 := ⟨by decide +kernel, rfl⟩
theorem dX6_isFull_83 : decode cX6_isFull 83 = .ok (.getfield 12, 3) ∧ 86 = 83 + 3 := ⟨by decide +kernel, rfl⟩
theorem dX6_isFull_86 : decode cX6_isFull 86 = .ok (.getfield 88, 3) ∧ 89 = 86 + 3 := ⟨by decide +kernel, rfl⟩
theorem dX6_isFull_89 : decode cX6_isFull 89 = .ok (.bipush 24, 2) ∧ 91 = 89 + 2 := ⟨by decide +kernel, rfl⟩
theorem dX6_isFull_91 : decode cX6_isFull 91 = .ok (.if_icmp .ne 7, 3) ∧ 94 = 91 + 3 := ⟨by decide +kernel, rfl⟩
theorem dX6_isFull_94 : decode cX6_isFull 94 = .ok (.iconst 1, 1) ∧ 95 = 94 + 1 := ⟨by decide +kernel, rfl⟩
theorem dX6_isFull_95 : decode cX6_isFull 95 = .ok (.goto 4, 3) ∧ 98 = 95 + 3 := ⟨by decide +kernel, rfl⟩
theorem dX6_isFull_98 : decode cX6_isFull 98 = .ok (.iconst 0, 1) ∧ 99 = 98 + 1 := ⟨by decide +kernel, rfl⟩
theorem dX6_isFull_99 : decode cX6_isFull 99 = .ok (.ireturn, 1) ∧ 100 = 99 + 1 := ⟨by decide +kernel, rfl⟩
theorem dX6_readChamber_0 : decode cX6_readChamber 0 = .ok (.aload_n 0, 1) ∧ 1 = 0 + 1 := ⟨by decide +kernel, rfl⟩
theorem dX6_readChamber_1 : decode cX6_readChamber 1 = .ok (.getfield 18, 3) ∧ 4 = 1 + 3 := ⟨by decide +kernel, rfl⟩
theorem dX6_readChamber_4 : decode cX6_readChamber 4 = .ok (.iconst 1, 1) ∧ 5 = 4 + 1 := ⟨by decide +kernel, rfl⟩
theorem dX6_readChamber_5 : decode cX6_readChamber 5 = .ok (.sipush 999, 3) ∧ 8 = 5 + 3 := ⟨by decide +kernel, rfl⟩
theorem dX6_readChamber_8 : decode cX6_readChamber 8 = .ok (.invokevirtual 91, 3) ∧ 11 = 8 + 3 := ⟨by decide +kernel, rfl⟩
theorem dX6_readChamber_11 : decode cX6_readChamber 11 = .ok (.istore_n 1, 1) ∧ 12 = 11 + 1 := ⟨by decide +kernel, rfl⟩
theorem dX6_readChamber_12 : decode cX6_readChamber 12 = .ok (.aload_n 0, 1) ∧ 13 = 12 + 1 := ⟨by decide +kernel, rfl⟩
theorem dX6_readChamber_13 : decode cX6_readChamber 13 = .ok (.getfield 18, 3) ∧ 16 = 13 + 3 := ⟨by decide +kernel, rfl⟩
theorem dX6_readChamber_16 : decode cX6_readChamber 16 = .ok (.iconst 0, 1) ∧ 17 = 16 + 1 := ⟨by decide +kernel, rfl⟩
theorem dX6_readChamber_17 : decode cX6_readChamber 17 = .ok (.sipush 9999, 3) ∧ 20 = 17 + 3 := ⟨by decide +kernel, rfl⟩
theorem dX6_readChamber_20 : decode cX6_readChamber 20 = .ok (.invokevirtual 91, 3) ∧ 23 = 20 + 3 := ⟨by decide +kernel, rfl⟩
theorem dX6_readChamber_23 : decode cX6_readChamber 23 = .ok (.istore_n 2, 1) ∧ 24 = 23 + 1 := ⟨by decide +kernel, rfl⟩
theorem dX6_readChamber_24 : decode cX6_readChamber 24 = .ok (.aload_n 0, 1) ∧ 25 = 24 + 1 := ⟨by decide +kernel, rfl⟩
theorem dX6_readChamber_25 : decode cX6_readChamber 25 = .ok (.getfield 18, 3) ∧ 28 = 25 + 3 := ⟨by decide +kernel, rfl⟩
theorem dX6_readChamber_28 : decode cX6_readChamber 28 = .ok (.iconst 0, 1) ∧ 29 = 28 + 1 := ⟨by decide +kernel, rfl⟩
theorem dX6_readChamber_29 : decode cX6_readChamber 29 = .ok (.sipush 999, 3) ∧ 32 = 29 + 3 := ⟨by decide +kernel, rfl⟩
theorem dX6_readChamber_32 : decode cX6_readChamber 32 = .ok (.invokevirtual 91, 3) ∧ 35 = 32 + 3 := ⟨by decide +kernel, rfl⟩
theorem dX6_readChamber_35 : decode cX6_readChamber 35 = .ok (.istore_n 3, 1) ∧ 36 = 35 + 1 := ⟨by decide +kernel, rfl⟩
theorem dX6_readChamber_36 : decode cX6_readChamber 36 = .ok (.aload_n 0, 1) ∧ 37 = 36 + 1 := ⟨by decide +kernel, rfl⟩
theorem dX6_readChamber_37 : decode cX6_readChamber 37 = .ok (.getfield 18, 3) ∧ 40 = 37 + 3 := ⟨by decide +kernel, rfl⟩
theorem dX6_readChamber_40 : decode cX6_readChamber 40 = .ok (.invokevirtual 95, 3) ∧ 43 = 40 + 3 := ⟨by decide +kernel, rfl⟩
theorem dX6_readChamber_43 : decode cX6_readChamber 43 = .ok (.aload_n 0, 1) ∧ 44 = 43 + 1 := ⟨by decide +kernel, rfl⟩
theorem dX6_readChamber_44 : decode cX6_readChamber 44 = .ok (.getfield 18, 3) ∧ 47 = 44 + 3 := ⟨by decide +kernel, rfl⟩
theorem dX6_readChamber_47 : decode cX6_readChamber 47 = .ok (.getfield 34, 3) ∧ 50 = 47 + 3 := ⟨by decide +kernel, rfl⟩
theorem dX6_readChamber_50 : decode cX6_readChamber 50 = .ok (.ifCond .ne 13, 3) ∧ 53 = 50 + 3 := ⟨by decide +kernel, rfl⟩
theorem dX6_readChamber_53 : decode cX6_readChamber 53 = .ok (.aload_n 0, 1) ∧ 54 = 53 + 1 := ⟨by decide +kernel, rfl⟩
theorem dX6_readChamber_54 : decode cX6_readChamber 54 = .ok (.getfield 12, 3) ∧ 57 = 54 + 3 := ⟨by decide +kernel, rfl⟩
theorem dX6_readChamber_57 : decode cX6_readChamber 57 = .ok (.iload_n 1, 1) ∧ 58 = 57 + 1 := ⟨by decide +kernel, rfl⟩
theorem dX6_readChamber_58 : decode cX6_readChamber 58 = .ok (.iload_n 2, 1) ∧ 59 = 58 + 1 := ⟨by decide +kernel, rfl⟩
theorem dX6_readChamber_59 : decode cX6_readChamber 59 = .ok (.iload_n 3, 1) ∧ 60 = 59 + 1 := ⟨by decide +kernel, rfl⟩
theorem dX6_readChamber_60 : decode cX6_readChamber 60 = .ok (.invokevirtual 98, 3) ∧ 63 = 60 + 3 := ⟨by decide +kernel, rfl⟩
theorem dX6_readChamber_63 : decode cX6_readChamber 63 = .ok (.return_, 1) ∧ 64 = 63 + 1 := ⟨by decide +kernel, rfl⟩
theorem dX6_readPump_0 : decode cX6_readPump 0 = .ok (.aload_n 0, 1) ∧ 1 = 0 + 1 := ⟨by decide +kernel, rfl⟩
theorem dX6_readPump_1 : decode cX6_readPump 1 = .ok (.getfield 18, 3) ∧ 4 = 1 + 3 := ⟨by decide +kernel, rfl⟩
theorem dX6_readPump_4 : decode cX6_readPump 4 = .ok (.iconst 0, 1) ∧ 5 = 4 + 1 := ⟨by decide +kernel, rfl⟩
theorem dX6_readPump_5 : decode cX6_readPump 5 = .ok (.aload_n 0, 1) ∧ 6 = 5 + 1 := ⟨by decide +kernel, rfl⟩
theorem dX6_readPump_6 : decode cX6_readPump 6 = .ok (.getfield 12, 3) ∧ 9 = 6 + 3 := ⟨by decide +kernel, rfl⟩
theorem dX6_readPump_9 : decode cX6_readPump 9 = .ok (.getfield 41, 3) ∧ 12 = 9 + 3 := ⟨by decide +kernel, rfl⟩
theorem dX6_readPump_12 : decode cX6_readPump 12 = .ok (.iconst 1, 1) ∧ 13 = 12 + 1 := ⟨by decide +kernel, rfl⟩
theorem dX6_readPump_13 : decode cX6_readPump 13 = .ok (.isub, 1) ∧ 14 = 13 + 1 := ⟨by decide +kernel, rfl⟩
theorem dX6_readPump_14 : decode cX6_readPump 14 = .ok (.invokevirtual 91, 3) ∧ 17 = 14 + 3 := ⟨by decide +kernel, rfl⟩
theorem dX6_readPump_17 : decode cX6_readPump 17 = .ok (.istore_n 1, 1) ∧ 18 = 17 + 1 := ⟨by decide +kernel, rfl⟩
theorem dX6_readPump_18 : decode cX6_readPump 18 = .ok (.aload_n 0, 1) ∧ 19 = 18 + 1 := ⟨by decide +kernel, rfl⟩
theorem dX6_readPump_19 : decode cX6_readPump 19 = .ok (.iload_n 1, 1) ∧ 20 = 19 + 1 := ⟨by decide +kernel, rfl⟩
theorem dX6_readPump_20 : decode cX6_readPump 20 = .ok (.invokevirtual 102, 3) ∧ 23 = 20 + 3 := ⟨by decide +kernel, rfl⟩
theorem dX6_readPump_23 : decode cX6_readPump 23 = .ok (.istore_n 2, 1) ∧ 24 = 23 + 1 := ⟨by decide +kernel, rfl⟩
theorem dX6_readPump_24 : decode cX6_readPump 24 = .ok (.aload_n 0, 1) ∧ 25 = 24 + 1 := ⟨by decide +kernel, rfl⟩
theorem dX6_readPump_25 : decode cX6_readPump 25 = .ok (.getfield 18, 3) ∧ 28 = 25 + 3 := ⟨by decide +kernel, rfl⟩
theorem dX6_readPump_28 : decode cX6_readPump 28 = .ok (.iconst 1, 1) ∧ 29 = 28 + 1 := ⟨by decide +kernel, rfl⟩
theorem dX6_readPump_29 : decode cX6_readPump 29 = .ok (.sipush 999, 3) ∧ 32 = 29 + 3 := ⟨by decide +kernel, rfl⟩
theorem dX6_readPump_32 : decode cX6_readPump 32 = .ok (.invokevirtual 91, 3) ∧ 35 = 32 + 3 := ⟨by decide +kernel, rfl⟩
theorem dX6_readPump_35 : decode cX6_readPump 35 = .ok (.istore_n 3, 1) ∧ 36 = 35 + 1 := ⟨by decide +kernel, rfl⟩
theorem dX6_readPump_36 : decode cX6_readPump 36 = .ok (.aload_n 0, 1) ∧ 37 = 36 + 1 := ⟨by decide +kernel, rfl⟩
theorem dX6_readPump_37 : decode cX6_readPump 37 = .ok (.getfield 18, 3) ∧ 40 = 37 + 3 := ⟨by decide +kernel, rfl⟩
theorem dX6_readPump_40 : decode cX6_readPump 40 = .ok (.iconst 0, 1) ∧ 41 = 40 + 1 := ⟨by decide +kernel, rfl⟩
theorem dX6_readPump_41 : decode cX6_readPump 41 = .ok (.ldc 106, 2) ∧ 43 = 41 + 2 := ⟨by decide +kernel, rfl⟩
theorem dX6_readPump_43 : decode cX6_readPump 43 = .ok (.invokevirtual 91, 3) ∧ 46 = 43 + 3 := ⟨by decide +kernel, rfl⟩
theorem dX6_readPump_46 : decode cX6_readPump 46 = .ok (.istore 4, 2) ∧ 48 = 46 + 2 := ⟨by decide +kernel, rfl⟩
theorem dX6_readPump_48 : decode cX6_readPump 48 = .ok (.aload_n 0, 1) ∧ 49 = 48 + 1 := ⟨by decide +kernel, rfl⟩
theorem dX6_readPump_49 : decode cX6_readPump 49 = .ok (.getfield 18, 3) ∧ 52 = 49 + 3 := ⟨by decide +kernel, rfl⟩
theorem dX6_readPump_52 : decode cX6_readPump 52 = .ok (.iload 4, 2) ∧ 54 = 52 + 2 := ⟨by decide +kernel, rfl⟩
theorem dX6_readPump_54 : decode cX6_readPump 54 = .ok (.ldc 106, 2) ∧ 56 = 54 + 2 := ⟨by decide +kernel, rfl⟩
theorem dX6_readPump_56 : decode cX6_readPump 56 = .ok (.invokevirtual 91, 3) ∧ 59 = 56 + 3 := ⟨by decide +kernel, rfl⟩
theorem dX6_readPump_59 : decode cX6_readPump 59 = .ok (.istore 5, 2) ∧ 61 = 59 + 2 := ⟨by decide +kernel, rfl⟩
theorem dX6_readPump_61 : decode cX6_readPump 61 = .ok (.iload_n 2, 1) ∧ 62 = 61 + 1 := ⟨by decide +kernel, rfl⟩
theorem dX6_readPump_62 : decode cX6_readPump 62 = .ok (.bipush 8, 2) ∧ 64 = 62 + 2 := ⟨by decide +kernel, rfl⟩
theorem dX6_readPump_64 : decode cX6_readPump 64 = .ok (.if_icmp .ne 8, 3) ∧ 67 = 64 + 3 := ⟨by decide +kernel, rfl⟩
theorem dX6_readPump_67 : decode cX6_readPump 67 = .ok (.ldc 106, 2) ∧ 69 = 67 + 2 := ⟨by decide +kernel, rfl⟩
theorem dX6_readPump_69 : decode cX6_readPump 69 = .ok (.goto 13, 3) ∧ 72 = 69 + 3 := ⟨by decide +kernel, rfl⟩
theorem dX6_readPump_72 : decode cX6_readPump 72 = .ok (.aload_n 0, 1) ∧ 73 = 72 + 1 := ⟨by decide +kernel, rfl⟩
theorem dX6_readPump_73 : decode cX6_readPump 73 = .ok (.getfield 18, 3) ∧ 76 = 73 + 3 := ⟨by decide +kernel, rfl⟩
theorem dX6_readPump_76 : decode cX6_readPump 76 = .ok (.iconst 0, 1) ∧ 77 = 76 + 1 := ⟨by decide +kernel, rfl⟩
theorem dX6_readPump_77 : decode cX6_readPump 77 = .ok (.ldc 106, 2) ∧ 79 = 77 + 2 := ⟨by decide +kernel, rfl⟩
theorem dX6_readPump_79 : decode cX6_readPump 79 = .ok (.invokevirtual 91, 3) ∧ 82 = 79 + 3 := ⟨by decide +kernel, rfl⟩
theorem dX6_readPump_82 : decode cX6_readPump 82 = .ok (.istore 6, 2) ∧ 84 = 82 + 2 := ⟨by decide +kernel, rfl⟩
theorem dX6_readPump_84 : decode cX6_readPump 84 = .ok (.aload_n 0, 1) ∧ 85 = 84 + 1 := ⟨by decide +kernel, rfl⟩
theorem dX6_readPump_85 : decode cX6_readPump 85 = .ok (.getfield 18, 3) ∧ 88 = 85 + 3 := ⟨by decide +kernel, rfl⟩
theorem dX6_readPump_88 : decode cX6_readPump 88 = .ok (.invokevirtual 95, 3) ∧ 91 = 88 + 3 := ⟨by decide +kernel, rfl⟩
theorem dX6_readPump_91 : decode cX6_readPump 91 = .ok (.aload_n 0, 1) ∧ 92 = 91 + 1 := ⟨by decide +kernel, rfl⟩
theorem dX6_readPump_92 : decode cX6_readPump 92 = .ok (.getfield 18, 3) ∧ 95 = 92 + 3 := ⟨by decide +kernel, rfl⟩
theorem dX6_readPump_95 : decode cX6_readPump 95 = .ok (.getfield 34, 3) ∧ 98 = 95 + 3 := ⟨by decide +kernel, rfl⟩
theorem dX6_readPump_98 : decode cX6_readPump 98 = .ok (.ifCond .ne 19, 3) ∧ 101 = 98 + 3 := ⟨by decide +kernel, rfl⟩
theorem dX6_readPump_101 : decode cX6_readPump 101 = .ok (.aload_n 0, 1) ∧ 102 = 101 + 1 := ⟨by decide +kernel, rfl⟩
theorem dX6_readPump_102 : decode cX6_readPump 102 = .ok (.getfield 12, 3) ∧ 105 = 102 + 3 := ⟨by decide +kernel, rfl⟩
theorem dX6_readPump_105 : decode cX6_readPump 105 = .ok (.iload_n 1, 1) ∧ 106 = 105 + 1 := ⟨by decide +kernel, rfl⟩
theorem dX6_readPump_106 : decode cX6_readPump 106 = .ok (.iload_n 2, 1) ∧ 107 = 106 + 1 := ⟨by decide +kernel, rfl⟩
theorem dX6_readPump_107 : decode cX6_readPump 107 = .ok (.iload_n 3, 1) ∧ 108 = 107 + 1 := ⟨by decide +kernel, rfl⟩
theorem dX6_readPump_108 : decode cX6_readPump 108 = .ok (.iload 4, 2) ∧ 110 = 108 + 2 := ⟨by decide +kernel, rfl⟩
theorem dX6_readPump_110 : decode cX6_readPump 110 = .ok (.iload 5, 2) ∧ 112 = 110 + 2 := ⟨by decide +kernel, rfl⟩
theorem dX6_readPump_112 : decode cX6_readPump 112 = .ok (.iload 6, 2) ∧ 114 = 112 + 2 := ⟨by decide +kernel, rfl⟩
theorem dX6_readPump_114 : decode cX6_readPump 114 = .ok (.invokevirtual 107, 3) ∧ 117 = 114 + 3 := ⟨by decide +kernel, rfl⟩
theorem dX6_readPump_117 : decode cX6_readPump 117 = .ok (.return_, 1) ∧ 118 = 117 + 1 := ⟨by decide +kernel, rfl⟩
theorem dX6_readValve_0 : decode cX6_readValve 0 = .ok (.aload_n 0, 1) ∧ 1 = 0 + 1 := ⟨by decide +kernel, rfl⟩
theorem dX6_readValve_1 : decode cX6_readValve 1 = .ok (.getfield 18, 3) ∧ 4 = 1 + 3 := ⟨by decide +kernel, rfl⟩
theorem dX6_readValve_4 : decode cX6_readValve 4 = .ok (.iconst 0, 1) ∧ 5 = 4 + 1 := ⟨by decide +kernel, rfl⟩
theorem dX6_readValve_5 : decode cX6_readValve 5 = .ok (.aload_n 0, 1) ∧ 6 = 5 + 1 := ⟨by decide +kernel, rfl⟩
theorem dX6_readValve_6 : decode cX6_readValve 6 = .ok (.getfield 12, 3) ∧ 9 = 6 + 3 := ⟨by decide +kernel, rfl⟩
theorem dX6_readValve_9 : decode cX6_readValve 9 = .ok (.getfield 41, 3) ∧ 12 = 9 + 3 := ⟨by decide +kernel, rfl⟩
theorem dX6_readValve_12 : decode cX6_readValve 12 = .ok (.iconst 1, 1) ∧ 13 = 12 + 1 := ⟨by decide +kernel, rfl⟩
theorem dX6_readValve_13 : decode cX6_readValve 13 = .ok (.isub, 1) ∧ 14 = 13 + 1 := ⟨by decide +kernel, rfl⟩
theorem dX6_readValve_14 : decode cX6_readValve 14 = .ok (.invokevirtual 91, 3) ∧ 17 = 14 + 3 := ⟨by decide +kernel, rfl⟩
theorem dX6_readValve_17 : decode cX6_readValve 17 = .ok (.istore_n 1, 1) ∧ 18 = 17 + 1 := ⟨by decide +kernel, rfl⟩
theorem dX6_readValve_18 : decode cX6_readValve 18 = .ok (.aload_n 0, 1) ∧ 19 = 18 + 1 := ⟨by decide +kernel, rfl⟩
theorem dX6_readValve_19 : decode cX6_readValve 19 = .ok (.iload_n 1, 1) ∧ 20 = 19 + 1 := ⟨by decide +kernel, rfl⟩
theorem dX6_readValve_20 : decode cX6_readValve 20 = .ok (.invokevirtual 102, 3) ∧ 23 = 20 + 3 := ⟨by decide +kernel, rfl⟩
theorem dX6_readValve_23 : decode cX6_readValve 23 = .ok (.istore_n 2, 1) ∧ 24 = 23 + 1 := ⟨by decide +kernel, rfl⟩
theorem dX6_readValve_24 : decode cX6_readValve 24 = .ok (.aload_n 0, 1) ∧ 25 = 24 + 1 := ⟨by decide +kernel, rfl⟩
theorem dX6_readValve_25 : decode cX6_readValve 25 = .ok (.getfield 18, 3) ∧ 28 = 25 + 3 := ⟨by decide +kernel, rfl⟩
theorem dX6_readValve_28 : decode cX6_readValve 28 = .ok (.iconst 1, 1) ∧ 29 = 28 + 1 := ⟨by decide +kernel, rfl⟩
theorem dX6_readValve_29 : decode cX6_readValve 29 = .ok (.sipush 999, 3) ∧ 32 = 29 + 3 := ⟨by decide +kernel, rfl⟩
theorem dX6_readValve_32 : decode cX6_readValve 32 = .ok (.invokevirtual 91, 3) ∧ 35 = 32 + 3 := ⟨by decide +kernel, rfl⟩
theorem dX6_readValve_35 : decode cX6_readValve 35 = .ok (.istore_n 3, 1) ∧ 36 = 35 + 1 := ⟨by decide +kernel, rfl⟩
theorem dX6_readValve_36 : decode cX6_readValve 36 = .ok (.aload_n 0, 1) ∧ 37 = 36 + 1 := ⟨by decide +kernel, rfl⟩
theorem dX6_readValve_37 : decode cX6_readValve 37 = .ok (.getfield 18, 3) ∧ 40 = 37 + 3 := ⟨by decide +kernel, rfl⟩
theorem dX6_readValve_40 : decode cX6_readValve 40 = .ok (.iconst 0, 1) ∧ 41 = 40 + 1 := ⟨by decide +kernel, rfl⟩
theorem dX6_readValve_41 : decode cX6_readValve 41 = .ok (.ldc 106, 2) ∧ 43 = 41 + 2 := ⟨by decide +kernel, rfl⟩
theorem dX6_readValve_43 : decode cX6_readValve 43 = .ok (.invokevirtual 91, 3) ∧ 46 = 43 + 3 := ⟨by decide +kernel, rfl⟩
theorem dX6_readValve_46 : decode cX6_readValve 46 = .ok (.istore 4, 2) ∧ 48 = 46 + 2 := ⟨by decide +kernel, rfl⟩
theorem dX6_readValve_48 : decode cX6_readValve 48 = .ok (.aload_n 0, 1) ∧ 49 = 48 + 1 := ⟨by decide +kernel, rfl⟩
theorem dX6_readValve_49 : decode cX6_readValve 49 = .ok (.getfield 18, 3) ∧ 52 = 49 + 3 := ⟨by decide +kernel, rfl⟩
theorem dX6_readValve_52 : decode cX6_readValve 52 = .ok (.invokevirtual 95, 3) ∧ 55 = 52 + 3 := ⟨by decide +kernel, rfl⟩
theorem dX6_readValve_55 : decode cX6_readValve 55 = .ok (.aload_n 0, 1) ∧ 56 = 55 + 1 := ⟨by decide +kernel, rfl⟩
theorem dX6_readValve_56 : decode cX6_readValve 56 = .ok (.getfield 18, 3) ∧ 59 = 56 + 3 := ⟨by decide +kernel, rfl⟩
theorem dX6_readValve_59 : decode cX6_readValve 59 = .ok (.getfield 34, 3) ∧ 62 = 59 + 3 := ⟨by decide +kernel, rfl⟩
theorem dX6_readValve_62 : decode cX6_readValve 62 = .ok (.ifCond .ne 15, 3) ∧ 65 = 62 + 3 := ⟨by decide +kernel, rfl⟩
theorem dX6_readValve_65 : decode cX6_readValve 65 = .ok (.aload_n 0, 1) ∧ 66 = 65 + 1 := ⟨by decide +kernel, rfl⟩
theorem dX6_readValve_66 : decode cX6_readValve 66 = .ok (.getfield 12, 3) ∧ 69 = 66 + 3 := ⟨by decide +kernel, rfl⟩
theorem dX6_readValve_69 : decode cX6_readValve 69 = .ok (.iload_n 1, 1) ∧ 70 = 69 + 1 := ⟨by decide +kernel, rfl⟩
theorem dX6_readValve_70 : decode cX6_readValve 70 = .ok (.iload_n 2, 1) ∧ 71 = 70 + 1 := ⟨by decide +kernel, rfl⟩
theorem dX6_readValve_71 : decode cX6_readValve 71 = .ok (.iload_n 3, 1) ∧ 72 = 71 + 1 := ⟨by decide +kernel, rfl⟩
theorem dX6_readValve_72 : decode cX6_readValve 72 = .ok (.iload 4, 2) ∧ 74 = 72 + 2 := ⟨by decide +kernel, rfl⟩
theorem dX6_readValve_74 : decode cX6_readValve 74 = .ok (.invokevirtual 111, 3) ∧ 77 = 74 + 3 := ⟨by decide +kernel, rfl⟩
theorem dX6_readValve_77 : decode cX6_readValve 77 = .ok (.return_, 1) ∧ 78 = 77 + 1 := ⟨by decide +kernel, rfl⟩
theorem dX6_readFlange_0 : decode cX6_readFlange 0 = .ok (.aload_n 0, 1) ∧ 1 = 0 + 1 := ⟨by decide +kernel, rfl⟩
theorem dX6_readFlange_1 : decode cX6_readFlange 1 = .ok (.getfield 18, 3) ∧ 4 = 1 + 3 := ⟨by decide +kernel, rfl⟩
theorem dX6_readFlange_4 : decode cX6_readFlange 4 = .ok (.iconst 0, 1) ∧ 5 = 4 + 1 := ⟨by decide +kernel, rfl⟩
theorem dX6_readFlange_5 : decode cX6_readFlange 5 = .ok (.aload_n 0, 1) ∧ 6 = 5 + 1 := ⟨by decide +kernel, rfl⟩
theorem dX6_readFlange_6 : decode cX6_readFlange 6 = .ok (.getfield 12, 3) ∧ 9 = 6 + 3 := ⟨by decide +kernel, rfl⟩
theorem dX6_readFlange_9 : decode cX6_readFlange 9 = .ok (.getfield 41, 3) ∧ 12 = 9 + 3 := ⟨by decide +kernel, rfl⟩
theorem dX6_readFlange_12 : decode cX6_readFlange 12 = .ok (.iconst 1, 1) ∧ 13 = 12 + 1 := ⟨by decide +kernel, rfl⟩
theorem dX6_readFlange_13 : decode cX6_readFlange 13 = .ok (.isub, 1) ∧ 14 = 13 + 1 := ⟨by decide +kernel, rfl⟩
theorem dX6_readFlange_14 : decode cX6_readFlange 14 = .ok (.invokevirtual 91, 3) ∧ 17 = 14 + 3 := ⟨by decide +kernel, rfl⟩
theorem dX6_readFlange_17 : decode cX6_readFlange 17 = .ok (.istore_n 1, 1) ∧ 18 = 17 + 1 := ⟨by decide +kernel, rfl⟩
theorem dX6_readFlange_18 : decode cX6_readFlange 18 = .ok (.aload_n 0, 1) ∧ 19 = 18 + 1 := ⟨by decide +kernel, rfl⟩
theorem dX6_readFlange_19 : decode cX6_readFlange 19 = .ok (.getfield 18, 3) ∧ 22 = 19 + 3 := ⟨by decide +kernel, rfl⟩
theorem dX6_readFlange_22 : decode cX6_readFlange 22 = .ok (.iconst 0, 1) ∧ 23 = 22 + 1 := ⟨by decide +kernel, rfl⟩
theorem dX6_readFlange_23 : decode cX6_readFlange 23 = .ok (.sipush 9999, 3) ∧ 26 = 23 + 3 := ⟨by decide +kernel, rfl⟩
theorem dX6_readFlange_26 : decode cX6_readFlange 26 = .ok (.invokevirtual 91, 3) ∧ 29 = 26 + 3 := ⟨by decide +kernel, rfl⟩
theorem dX6_readFlange_29 : decode cX6_readFlange 29 = .ok (.istore_n 2, 1) ∧ 30 = 29 + 1 := ⟨by decide +kernel, rfl⟩
theorem dX6_readFlange_30 : decode cX6_readFlange 30 = .ok (.aload_n 0, 1) ∧ 31 = 30 + 1 := ⟨by decide +kernel, rfl⟩
theorem dX6_readFlange_31 : decode cX6_readFlange 31 = .ok (.getfield 18, 3) ∧ 34 = 31 + 3 := ⟨by decide +kernel, rfl⟩
theorem dX6_readFlange_34 : decode cX6_readFlange 34 = .ok (.invokevirtual 95, 3) ∧ 37 = 34 + 3 := ⟨by decide +kernel, rfl⟩
theorem dX6_readFlange_37 : decode cX6_readFlange 37 = .ok (.aload_n 0, 1) ∧ 38 = 37 + 1 := ⟨by decide +kernel, rfl⟩
theorem dX6_readFlange_38 : decode cX6_readFlange 38 = .ok (.getfield 18, 3) ∧ 41 = 38 + 3 := ⟨by decide +kernel, rfl⟩
theorem dX6_readFlange_41 : decode cX6_readFlange 41 = .ok (.getfield 34, 3) ∧ 44 = 41 + 3 := ⟨by decide +kernel, rfl⟩
theorem dX6_readFlange_44 : decode cX6_readFlange 44 = .ok (.ifCond .ne 12, 3) ∧ 47 = 44 + 3 := ⟨by decide +kernel, rfl⟩
theorem dX6_readFlange_47 : decode cX6_readFlange 47 = .ok (.aload_n 0, 1) ∧ 48 = 47 + 1 := ⟨by decide +kernel, rfl⟩
theorem dX6_readFlange_48 : decode cX6_readFlange 48 = .ok (.getfield 12, 3) ∧ 51 = 48 + 3 := ⟨by decide +kernel, rfl⟩
theorem dX6_readFlange_51 : decode cX6_readFlange 51 = .ok (.iload_n 1, 1) ∧ 52 = 51 + 1 := ⟨by decide +kernel, rfl⟩
theorem dX6_readFlange_52 : decode cX6_readFlange 52 = .ok (.iload_n 2, 1) ∧ 53 = 52 + 1 := ⟨by decide +kernel, rfl⟩
theorem dX6_readFlange_53 : decode cX6_readFlange 53 = .ok (.invokevirtual 115, 3) ∧ 56 = 53 + 3 := ⟨by decide +kernel, rfl⟩
theorem dX6_readFlange_56 : decode cX6_readFlange 56 = .ok (.return_, 1) ∧ 57 = 56 + 1 := ⟨by decide +kernel, rfl⟩
theorem dX6_readOtherSide_0 : decode cX6_readOtherSide 0 = .ok (.aload_n 0, 1) ∧ 1 = 0 + 1 := ⟨by decide +kernel, rfl⟩
theorem dX6_readOtherSide_1 : decode cX6_readOtherSide 1 = .ok (.getfield 18, 3) ∧ 4 = 1 + 3 := ⟨by decide +kernel, rfl⟩
theorem dX6_readOtherSide_4 : decode cX6_readOtherSide 4 = .ok (.getfield 34, 3) ∧ 7 = 4 + 3 := ⟨by decide +kernel, rfl⟩
theorem dX6_readOtherSide_7 : decode cX6_readOtherSide 7 = .ok (.ifCond .ne 25, 3) ∧ 10 = 7 + 3 := ⟨by decide +kernel, rfl⟩
theorem dX6_readOtherSide_10 : decode cX6_readOtherSide 10 = .ok (.aload_n 0, 1) ∧ 11 = 10 + 1 := ⟨by decide +kernel, rfl⟩
theorem dX6_readOtherSide_11 : decode cX6_readOtherSide 11 = .ok (.getfield 18, 3) ∧ 14 = 11 + 3 := ⟨by decide +kernel, rfl⟩
theorem dX6_readOtherSide_14 : decode cX6_readOtherSide 14 = .ok (.ldc 118, 2) ∧ 16 = 14 + 2 := ⟨by decide +kernel, rfl⟩
theorem dX6_readOtherSide_16 : decode cX6_readOtherSide 16 = .ok (.invokevirtual 72, 3) ∧ 19 = 16 + 3 := ⟨by decide +kernel, rfl⟩
theorem dX6_readOtherSide_19 : decode cX6_readOtherSide 19 = .ok (.ifCond .eq 13, 3) ∧ 22 = 19 + 3 := ⟨by decide +kernel, rfl⟩
theorem dX6_readOtherSide_22 : decode cX6_readOtherSide 22 = .ok (.aload_n 0, 1) ∧ 23 = 22 + 1 := ⟨by decide +kernel, rfl⟩
theorem dX6_readOtherSide_23 : decode cX6_readOtherSide 23 = .ok (.getfield 18, 3) ∧ 26 = 23 + 3 := ⟨by decide +kernel, rfl⟩
theorem dX6_readOtherSide_26 : decode cX6_readOtherSide 26 = .ok (.invokevirtual 55, 3) ∧ 29 = 26 + 3 := ⟨by decide +kernel, rfl⟩
theorem dX6_readOtherSide_29 : decode cX6_readOtherSide 29 = .ok (.bipush 8, 2) ∧ 31 = 29 + 2 := ⟨by decide +kernel, rfl⟩
theorem dX6_readOtherSide_31 : decode cX6_readOtherSide 31 = .ok (.ireturn, 1) ∧ 32 = 31 + 1 := ⟨by decide +kernel, rfl⟩
theorem dX6_readOtherSide_32 : decode cX6_readOtherSide 32 = .ok (.aload_n 0, 1) ∧ 33 = 32 + 1 := ⟨by decide +kernel, rfl⟩
theorem dX6_readOtherSide_33 : decode cX6_readOtherSide 33 = .ok (.getfield 18, 3) ∧ 36 = 33 + 3 := ⟨by decide +kernel, rfl⟩
theorem dX6_readOtherSide_36 : decode cX6_readOtherSide 36 = .ok (.getfield 44, 3) ∧ 39 = 36 + 3 := ⟨by decide +kernel, rfl⟩
theorem dX6_readOtherSide_39 : decode cX6_readOtherSide 39 = .ok (.istore_n 2, 1) ∧ 40 = 39 + 1 := ⟨by decide +kernel, rfl⟩
theorem dX6_readOtherSide_40 : decode cX6_readOtherSide 40 = .ok (.aload_n 0, 1) ∧ 41 = 40 + 1 := ⟨by decide +kernel, rfl⟩
theorem dX6_readOtherSide_41 : decode cX6_readOtherSide 41 = .ok (.getfield 18, 3) ∧ 44 = 41 + 3 := ⟨by decide +kernel, rfl⟩
theorem dX6_readOtherSide_44 : decode cX6_readOtherSide 44 = .ok (.iconst 0, 1) ∧ 45 = 44 + 1 := ⟨by decide +kernel, rfl⟩
theorem dX6_readOtherSide_45 : decode cX6_readOtherSide 45 = .ok (.aload_n 0, 1) ∧ 46 = 45 + 1 := ⟨by decide +kernel, rfl⟩
theorem dX6_readOtherSide_46 : decode cX6_readOtherSide 46 = .ok (.getfield 12, 3) ∧ 49 = 46 + 3 := ⟨by decide +kernel, rfl⟩
theorem dX6_readOtherSide_49 : decode cX6_readOtherSide 49 = .ok (.getfield 41, 3) ∧ 52 = 49 + 3 := ⟨by decide +kernel, rfl⟩
theorem dX6_readOtherSide_52 : decode cX6_readOtherSide 52 = .ok (.iconst 1, 1) ∧ 53 = 52 + 1 := ⟨by decide +kernel, rfl⟩
theorem dX6_readOtherSide_53 : decode cX6_readOtherSide 53 = .ok (.isub, 1) ∧ 54 = 53 + 1 := ⟨by decide +kernel, rfl⟩
theorem dX6_readOtherSide_54 : decode cX6_readOtherSide 54 = .ok (.invokevirtual 91, 3) ∧ 57 = 54 + 3 := ⟨by decide +kernel, rfl⟩
theorem dX6_readOtherSide_57 : decode cX6_readOtherSide 57 = .ok (.istore_n 3, 1) ∧ 58 = 57 + 1 := ⟨by decide +kernel, rfl⟩
theorem dX6_readOtherSide_58 : decode cX6_readOtherSide 58 = .ok (.aload_n 0, 1) ∧ 59 = 58 + 1 := ⟨by decide +kernel, rfl⟩
theorem dX6_readOtherSide_59 : decode cX6_readOtherSide 59 = .ok (.getfield 18, 3) ∧ 62 = 59 + 3 := ⟨by decide +kernel, rfl⟩
theorem dX6_readOtherSide_62 : decode cX6_readOtherSide 62 = .ok (.getfield 34, 3) ∧ 65 = 62 + 3 := ⟨by decide +kernel, rfl⟩
theorem dX6_readOtherSide_65 : decode cX6_readOtherSide 65 = .ok (.ifCond .ne 17, 3) ∧ 68 = 65 + 3 := ⟨by decide +kernel, rfl⟩
theorem dX6_readOtherSide_68 : decode cX6_readOtherSide 68 = .ok (.iload_n 3, 1) ∧ 69 = 68 + 1 := ⟨by decide +kernel, rfl⟩
theorem dX6_readOtherSide_69 : decode cX6_readOtherSide 69 = .ok (.iload_n 1, 1) ∧ 70 = 69 + 1 := ⟨by decide +kernel, rfl⟩
theorem dX6_readOtherSide_70 : decode cX6_readOtherSide 70 = .ok (.if_icmp .ne 12, 3) ∧ 73 = 70 + 3 := ⟨by decide +kernel, rfl⟩
theorem dX6_readOtherSide_73 : decode cX6_readOtherSide 73 = .ok (.aload_n 0, 1) ∧ 74 = 73 + 1 := ⟨by decide +kernel, rfl⟩
theorem dX6_readOtherSide_74 : decode cX6_readOtherSide 74 = .ok (.getfield 18, 3) ∧ 77 = 74 + 3 := ⟨by decide +kernel, rfl⟩
theorem dX6_readOtherSide_77 : decode cX6_readOtherSide 77 = .ok (.iconst 3, 1) ∧ 78 = 77 + 1 := ⟨by decide +kernel, rfl⟩
theorem dX6_readOtherSide_78 : decode cX6_readOtherSide 78 = .ok (.iload_n 2, 1) ∧ 79 = 78 + 1 := ⟨by decide +kernel, rfl⟩
theorem dX6_readOtherSide_79 : decode cX6_readOtherSide 79 = .ok (.invokevirtual 47, 3) ∧ 82 = 79 + 3 := ⟨by decide +kernel, rfl⟩
theorem dX6_readOtherSide_82 : decode cX6_readOtherSide 82 = .ok (.iload_n 3, 1) ∧ 83 = 82 + 1 := ⟨by decide +kernel, rfl⟩
theorem dX6_readOtherSide_83 : decode cX6_readOtherSide 83 = .ok (.ireturn, 1) ∧ 84 = 83 + 1 := ⟨by decide +kernel, rfl⟩
theorem dX7_init_0 : decode cX7_init 0 = .ok (.aload_n 0, 1) ∧ 1 = 0 + 1 := ⟨by decide +kernel, rfl⟩
theorem dX7_init_1 : decode cX7_init 1 = .ok (.invokespecial 1, 3) ∧ 4 = 1 + 3 := ⟨by decide +kernel, rfl⟩
theorem dX7_init_4 : decode cX7_init 4 = .ok (.aload_n 0, 1) ∧ 5 = 4 + 1 := ⟨by decide +kernel, rfl⟩
theorem dX7_init_5 : decode cX7_init 5 = .ok (.iconst 0, 1) ∧ 6 = 5 + 1 := ⟨by decide +kernel, rfl⟩
theorem dX7_init_6 : decode cX7_init 6 = .ok (.putfield 7, 3) ∧ 9 = 6 + 3 := ⟨by decide +kernel, rfl⟩
theorem dX7_init_9 : decode cX7_init 9 = .ok (.aload_n 0, 1) ∧ 10 = 9 + 1 := ⟨by decide +kernel, rfl⟩
theorem dX7_init_10 : decode cX7_init 10 = .ok (.iconst 0, 1) ∧ 11 = 10 + 1 := ⟨by decide +kernel, rfl⟩
theorem dX7_init_11 : decode cX7_init 11 = .ok (.putfield 13, 3) ∧ 14 = 11 + 3 := ⟨by decide +kernel, rfl⟩
theorem dX7_init_14 : decode cX7_init 14 = .ok (.aload_n 0, 1) ∧ 15 = 14 + 1 := ⟨by decide +kernel, rfl⟩
theorem dX7_init_15 : decode cX7_init 15 = .ok (.bipush 40, 2) ∧ 17 = 15 + 2 := ⟨by decide +kernel, rfl⟩
theorem dX7_init_17 : decode cX7_init 17 = .ok (.newarray .int, 2) ∧ 19 = 17 + 2 := ⟨by decide +kernel, rfl⟩
theorem dX7_init_19 : decode cX7_init 19 = .ok (.putfield 16, 3) ∧ 22 = 19 + 3 := ⟨by decide +kernel, rfl⟩
theorem dX7_init_22 : decode cX7_init 22 = .ok (.aload_n 0, 1) ∧ 23 = 22 + 1 := ⟨by decide +kernel, rfl⟩
theorem dX7_init_23 : decode cX7_init 23 = .ok (.bipush 20, 2) ∧ 25 = 23 + 2 := ⟨by decide +kernel, rfl⟩
theorem dX7_init_25 : decode cX7_init 25 = .ok (.newarray .long, 2) ∧ 27 = 25 + 2 := ⟨by decide +kernel, rfl⟩
theorem dX7_init_27 : decode cX7_init 27 = .ok (.putfield 20, 3) ∧ 30 = 27 + 3 := ⟨by decide +kernel, rfl⟩
theorem dX7_init_30 : decode cX7_init 30 = .ok (.return_, 1) ∧ 31 = 30 + 1 := ⟨by decide +kernel, rfl⟩
theorem dX7_copyFrom_0 : decode cX7_copyFrom 0 = .ok (.aload_n 0, 1) ∧ 1 = 0 + 1 := ⟨by decide +kernel, rfl⟩
theorem dX7_copyFrom_1 : decode cX7_copyFrom 1 = .ok (.aload_n 1, 1) ∧ 2 = 1 + 1 := ⟨by decide +kernel, rfl⟩
theorem dX7_copyFrom_2 : decode cX7_copyFrom 2 = .ok (.getfield 7, 3) ∧ 5 = 2 + 3 := ⟨by decide +kernel, rfl⟩
theorem dX7_copyFrom_5 : decode cX7_copyFrom 5 = .ok (.putfield 7, 3) ∧ 8 = 5 + 3 := ⟨by decide +kernel, rfl⟩
theorem dX7_copyFrom_8 : decode cX7_copyFrom 8 = .ok (.aload_n 0, 1) ∧ 9 = 8 + 1 := ⟨by decide +kernel, rfl⟩
theorem dX7_copyFrom_9 : decode cX7_copyFrom 9 = .ok (.aload_n 1, 1) ∧ 10 = 9 + 1 := ⟨by decide +kernel, rfl⟩
theorem dX7_copyFrom_10 : decode cX7_copyFrom 10 = .ok (.getfield 13, 3) ∧ 13 = 10 + 3 := ⟨by decide +kernel, rfl⟩
theorem dX7_copyFrom_13 : decode cX7_copyFrom 13 = .ok (.putfield 13, 3) ∧ 16 = 13 + 3 := ⟨by decide +kernel, rfl⟩
theorem dX7_copyFrom_16 : decode cX7_copyFrom 16 = .ok (.aload_n 1, 1) ∧ 17 = 16 + 1 := ⟨by decide +kernel, rfl⟩
theorem dX7_copyFrom_17 : decode cX7_copyFrom 17 = .ok (.getfield 16, 3) ∧ 20 = 17 + 3 := ⟨by decide +kernel, rfl⟩
theorem dX7_copyFrom_20 : decode cX7_copyFrom 20 = .ok (.iconst 0, 1) ∧ 21 = 20 + 1 := ⟨by decide +kernel, rfl⟩
theorem dX7_copyFrom_21 : decode cX7_copyFrom 21 = .ok (.aload_n 0, 1) ∧ 22 = 21 + 1 := ⟨by decide +kernel, rfl⟩
theorem dX7_copyFrom_22 : decode cX7_copyFrom 22 = .ok (.getfield 16, 3) ∧ 25 = 22 + 3 := ⟨by decide +kernel, rfl⟩
theorem dX7_copyFrom_25 : decode cX7_copyFrom 25 = .ok (.iconst 0, 1) ∧ 26 = 25 + 1 := ⟨by decide +kernel, rfl⟩
theorem dX7_copyFrom_26 : decode cX7_copyFrom 26 = .ok (.bipush 40, 2) ∧ 28 = 26 + 2 := ⟨by decide +kernel, rfl⟩
theorem dX7_copyFrom_28 : decode cX7_copyFrom 28 = .ok (.invokestatic 24, 3) ∧ 31 = 28 + 3 := ⟨by decide +kernel, rfl⟩
theorem dX7_copyFrom_31 : decode cX7_copyFrom 31 = .ok (.aload_n 1, 1) ∧ 32 = 31 + 1 := ⟨by decide +kernel, rfl⟩
theorem dX7_copyFrom_32 : decode cX7_copyFrom 32 = .ok (.getfield 20, 3) ∧ 35 = 32 + 3 := ⟨by decide +kernel, rfl⟩
theorem dX7_copyFrom_35 : decode cX7_copyFrom 35 = .ok (.iconst 0, 1) ∧ 36 = 35 + 1 := ⟨by decide +kernel, rfl⟩
theorem dX7_copyFrom_36 : decode cX7_copyFrom 36 = .ok (.aload_n 0, 1) ∧ 37 = 36 + 1 := ⟨by decide +kernel, rfl⟩
theorem dX7_copyFrom_37 : decode cX7_copyFrom 37 = .ok (.getfield 20, 3) ∧ 40 = 37 + 3 := ⟨by decide +kernel, rfl⟩
theorem dX7_copyFrom_40 : decode cX7_copyFrom 40 = .ok (.iconst 0, 1) ∧ 41 = 40 + 1 := ⟨by decide +kernel, rfl⟩
theorem dX7_copyFrom_41 : decode cX7_copyFrom 41 = .ok (.bipush 20, 2) ∧ 43 = 41 + 2 := ⟨by decide +kernel, rfl⟩
theorem dX7_copyFrom_43 : decode cX7_copyFrom 43 = .ok (.invokestatic 24, 3) ∧ 46 = 43 + 3 := ⟨by decide +kernel, rfl⟩
theorem dX7_copyFrom_46 : decode cX7_copyFrom 46 = .ok (.return_, 1) ∧ 47 = 46 + 1 := ⟨by decide +kernel, rfl⟩
theorem dX7_add_0 : decode cX7_add 0 = .ok (.aload_n 0, 1) ∧ 1 = 0 + 1 := ⟨by decide +kernel, rfl⟩
theorem dX7_add_1 : decode cX7_add 1 = .ok (.getfield 16, 3) ∧ 4 = 1 + 3 := ⟨by decide +kernel, rfl⟩
theorem dX7_add_4 : decode cX7_add 4 = .ok (.aload_n 0, 1) ∧ 5 = 4 + 1 := ⟨by decide +kernel, rfl⟩
theorem dX7_add_5 : decode cX7_add 5 = .ok (.getfield 13, 3) ∧ 8 = 5 + 3 := ⟨by decide +kernel, rfl⟩
theorem dX7_add_8 : decode cX7_add 8 = .ok (.iconst 4, 1) ∧ 9 = 8 + 1 := ⟨by decide +kernel, rfl⟩
theorem dX7_add_9 : decode cX7_add 9 = .ok (.imul, 1) ∧ 10 = 9 + 1 := ⟨by decide +kernel, rfl⟩
theorem dX7_add_10 : decode cX7_add 10 = .ok (.iload_n 1, 1) ∧ 11 = 10 + 1 := ⟨by decide +kernel, rfl⟩
theorem dX7_add_11 : decode cX7_add 11 = .ok (.iastore, 1) ∧ 12 = 11 + 1 := ⟨by decide +kernel, rfl⟩
theorem dX7_add_12 : decode cX7_add 12 = .ok (.aload_n 0, 1) ∧ 13 = 12 + 1 := ⟨by decide +kernel, rfl⟩
theorem dX7_add_13 : decode cX7_add 13 = .ok (.getfield 16, 3) ∧ 16 = 13 + 3 := ⟨by decide +kernel, rfl⟩
theorem dX7_add_16 : decode cX7_add 16 = .ok (.aload_n 0, 1) ∧ 17 = 16 + 1 := ⟨by decide +kernel, rfl⟩
theorem dX7_add_17 : decode cX7_add 17 = .ok (.getfield 13, 3) ∧ 20 = 17 + 3 := ⟨by decide +kernel, rfl⟩
theorem dX7_add_20 : decode cX7_add 20 = .ok (.iconst 4, 1) ∧ 21 = 20 + 1 := ⟨by decide +kernel, rfl⟩
theorem dX7_add_21 : decode cX7_add 21 = .ok (.imul, 1) ∧ 22 = 21 + 1 := ⟨by decide +kernel, rfl⟩
theorem dX7_add_22 : decode cX7_add 22 = .ok (.iconst 1, 1) ∧ 23 = 22 + 1 := ⟨by decide +kernel, rfl⟩
theorem dX7_add_23 : decode cX7_add 23 = .ok (.iadd, 1) ∧ 24 = 23 + 1 := ⟨by decide +kernel, rfl⟩
theorem dX7_add_24 : decode cX7_add 24 = .ok (.iload_n 2, 1) ∧ 25 = 24 + 1 := ⟨by decide +kernel, rfl⟩
theorem dX7_add_25 : decode cX7_add 25 = .ok (.iastore, 1) ∧ 26 = 25 + 1 := ⟨by decide +kernel, rfl⟩
theorem dX7_add_26 : decode cX7_add 26 = .ok (.aload_n 0, 1) ∧ 27 = 26 + 1 := ⟨by decide +kernel, rfl⟩
theorem dX7_add_27 : decode cX7_add 27 = .ok (.getfield 16, 3) ∧ 30 = 27 + 3 := ⟨by decide +kernel, rfl⟩
theorem dX7_add_30 : decode cX7_add 30 = .ok (.aload_n 0, 1) ∧ 31 = 30 + 1 := ⟨by decide +kernel, rfl⟩
theorem dX7_add_31 : decode cX7_add 31 = .ok (.getfield 13, 3) ∧ 34 = 31 + 3 := ⟨by decide +kernel, rfl⟩
theorem dX7_add_34 : decode cX7_add 34 = .ok (.iconst 4, 1) ∧ 35 = 34 + 1 := ⟨by decide +kernel, rfl⟩
theorem dX7_add_35 : decode cX7_add 35 = .ok (.imul, 1) ∧ 36 = 35 + 1 := ⟨by decide +kernel, rfl⟩
theorem dX7_add_36 : decode cX7_add 36 = .ok (.iconst 2, 1) ∧ 37 = 36 + 1 := ⟨by decide +kernel, rfl⟩
theorem dX7_add_37 : decode cX7_add 37 = .ok (.iadd, 1) ∧ 38 = 37 + 1 := ⟨by decide +kernel, rfl⟩
theorem dX7_add_38 : decode cX7_add 38 = .ok (.iload_n 3, 1) ∧ 39 = 38 + 1 := ⟨by decide +kernel, rfl⟩
theorem dX7_add_39 : decode cX7_add 39 = .ok (.iastore, 1) ∧ 40 = 39 + 1 := ⟨by decide +kernel, rfl⟩
theorem dX7_add_40 : decode cX7_add 40 = .ok (.aload_n 0, 1) ∧ 41 = 40 + 1 := ⟨by decide +kernel, rfl⟩
theorem dX7_add_41 : decode cX7_add 41 = .ok (.getfield 16, 3) ∧ 44 = 41 + 3 := ⟨by decide +kernel, rfl⟩
theorem dX7_add_44 : decode cX7_add 44 = .ok (.aload_n 0, 1) ∧ 45 = 44 + 1 := ⟨by decide +kernel, rfl⟩
theorem dX7_add_45 : decode cX7_add 45 = .ok (.getfield 13, 3) ∧ 48 = 45 + 3 := ⟨by decide +kernel, rfl⟩
theorem dX7_add_48 : decode cX7_add 48 = .ok (.iconst 4, 1) ∧ 49 = 48 + 1 := ⟨by decide +kernel, rfl⟩
theorem dX7_add_49 : decode cX7_add 49 = .ok (.imul, 1) ∧ 50 = 49 + 1 := ⟨by decide +kernel, rfl⟩
theorem dX7_add_50 : decode cX7_add 50 = .ok (.iconst 3, 1) ∧ 51 = 50 + 1 := ⟨by decide +kernel, rfl⟩
theorem dX7_add_51 : decode cX7_add 51 = .ok (.iadd, 1) ∧ 52 = 51 + 1 := ⟨by decide +kernel, rfl⟩
theorem dX7_add_52 : decode cX7_add 52 = .ok (.iload 4, 2) ∧ 54 = 52 + 2 := ⟨by decide +kernel, rfl⟩
theorem dX7_add_54 : decode cX7_add 54 = .ok (.iastore, 1) ∧ 55 = 54 + 1 := ⟨by decide +kernel, rfl⟩
theorem dX7_add_55 : decode cX7_add 55 = .ok (.aload_n 0, 1) ∧ 56 = 55 + 1 := ⟨by decide +kernel, rfl⟩
theorem dX7_add_56 : decode cX7_add 56 = .ok (.getfield 20, 3) ∧ 59 = 56 + 3 := ⟨by decide +kernel, rfl⟩
theorem dX7_add_59 : decode cX7_add 59 = .ok (.aload_n 0, 1) ∧ 60 = 59 + 1 := ⟨by decide +kernel, rfl⟩
theorem dX7_add_60 : decode cX7_add 60 = .ok (.getfield 13, 3) ∧ 63 = 60 + 3 := ⟨by decide +kernel, rfl⟩
theorem dX7_add_63 : decode cX7_add 63 = .ok (.iconst 2, 1) ∧ 64 = 63 + 1 := ⟨by decide +kernel, rfl⟩
theorem dX7_add_64 : decode cX7_add 64 = .ok (.imul, 1) ∧ 65 = 64 + 1 := ⟨by decide +kernel, rfl⟩
theorem dX7_add_65 : decode cX7_add 65 = .ok (.lload 5, 2) ∧ 67 = 65 + 2 := ⟨by decide +kernel, rfl⟩
theorem dX7_add_67 : decode cX7_add 67 = .ok (.lastore, 1) ∧ 68 = 67 + 1 := ⟨by decide +kernel, rfl⟩
theorem dX7_add_68 : decode cX7_add 68 = .ok (.aload_n 0, 1) ∧ 69 = 68 + 1 := ⟨by decide +kernel, rfl⟩
theorem dX7_add_69 : decode cX7_add 69 = .ok (.getfield 20, 3) ∧ 72 = 69 + 3 := ⟨by decide +kernel, rfl⟩
theorem dX7_add_72 : decode cX7_add 72 = .ok (.aload_n 0, 1) ∧ 73 = 72 + 1 := ⟨by decide +kernel, rfl⟩
theorem dX7_add_73 : decode cX7_add 73 = .ok (.getfield 13, 3) ∧ 76 = 73 + 3 := ⟨by decide +kernel, rfl⟩
theorem dX7_add_76 : decode cX7_add 76 = .ok (.iconst 2, 1) ∧ 77 = 76 + 1 := ⟨by decide +kernel, rfl⟩
theorem dX7_add_77 : decode cX7_add 77 = .ok (.imul, 1) ∧ 78 = 77 + 1 := ⟨by decide +kernel, rfl⟩
theorem dX7_add_78 : decode cX7_add 78 = .ok (.iconst 1, 1) ∧ 79 = 78 + 1 := ⟨by decide +kernel, rfl⟩
theorem dX7_add_79 : decode cX7_add 79 = .ok (.iadd, 1) ∧ 80 = 79 + 1 := ⟨by decide +kernel, rfl⟩
theorem dX7_add_80 : decode cX7_add 80 = .ok (.lload 7, 2) ∧ 82 = 80 + 2 := ⟨by decide +kernel, rfl⟩
theorem dX7_add_82 : decode cX7_add 82 = .ok (.lastore, 1) ∧ 83 = 82 + 1 := ⟨by decide +kernel, rfl⟩
theorem dX7_add_83 : decode cX7_add 83 = .ok (.aload_n 0, 1) ∧ 84 = 83 + 1 := ⟨by decide +kernel, rfl⟩
theorem dX7_add_84 : decode cX7_add 84 = .ok (.aload_n 0, 1) ∧ 85 = 84 + 1 := ⟨by decide +kernel, rfl⟩
theorem dX7_add_85 : decode cX7_add 85 = .ok (.getfield 13, 3) ∧ 88 = 85 + 3 := ⟨by decide +kernel, rfl⟩
theorem dX7_add_88 : decode cX7_add 88 = .ok (.iconst 1, 1) ∧ 89 = 88 + 1 := ⟨by decide +kernel, rfl⟩
theorem dX7_add_89 : decode cX7_add 89 = .ok (.iadd, 1) ∧ 90 = 89 + 1 := ⟨by decide +kernel, rfl⟩
theorem dX7_add_90 : decode cX7_add 90 = .ok (.bipush 10, 2) ∧ 92 = 90 + 2 := ⟨by decide +kernel, rfl⟩
theorem dX7_add_92 : decode cX7_add 92 = .ok (.irem, 1) ∧ 93 = 92 + 1 := ⟨by decide +kernel, rfl⟩
theorem dX7_add_93 : decode cX7_add 93 = .ok (.putfield 13, 3) ∧ 96 = 93 + 3 := ⟨by decide +kernel, rfl⟩
theorem dX7_add_96 : decode cX7_add 96 = .ok (.aload_n 0, 1) ∧ 97 = 96 + 1 := ⟨by decide +kernel, rfl⟩
theorem dX7_add_97 : decode cX7_add 97 = .ok (.aload_n 0, 1) ∧ 98 = 97 + 1 := ⟨by decide +kernel, rfl⟩
theorem dX7_add_98 : decode cX7_add 98 = .ok (.getfield 7, 3) ∧ 101 = 98 + 3 := ⟨by decide +kernel, rfl⟩
theorem dX7_add_101 : decode cX7_add 101 = .ok (.iconst 1, 1) ∧ 102 = 101 + 1 := ⟨by decide +kernel, rfl⟩
theorem dX7_add_102 : decode cX7_add 102 = .ok (.iadd, 1) ∧ 103 = 102 + 1 := ⟨by decide +kernel, rfl⟩
theorem dX7_add_103 : decode cX7_add 103 = .ok (.bipush 10, 2) ∧ 105 = 103 + 2 := ⟨by decide +kernel, rfl⟩
theorem dX7_add_105 : decode cX7_add 105 = .ok (.invokestatic 30, 3) ∧ 108 = 105 + 3 := ⟨by decide +kernel, rfl⟩
theorem dX7_add_108 : decode cX7_add 108 = .ok (.putfield 7, 3) ∧ 111 = 108 + 3 := ⟨by decide +kernel, rfl⟩
theorem dX7_add_111 : decode cX7_add 111 = .ok (.return_, 1) ∧ 112 = 111 + 1 := ⟨by decide +kernel, rfl⟩
theorem dX7_fact_0 : decode cX7_fact 0 = .ok (.aload_n 0, 1) ∧ 1 = 0 + 1 := ⟨by decide +kernel, rfl⟩
theorem dX7_fact_1 : decode cX7_fact 1 = .ok (.getfield 16, 3) ∧ 4 = 1 + 3 := ⟨by decide +kernel, rfl⟩
theorem dX7_fact_4 : decode cX7_fact 4 = .ok (.aload_n 0, 1) ∧ 5 = 4 + 1 := ⟨by decide +kernel, rfl⟩
theorem dX7_fact_5 : decode cX7_fact 5 = .ok (.iload_n 1, 1) ∧ 6 = 5 + 1 := ⟨by decide +kernel, rfl⟩
theorem dX7_fact_6 : decode cX7_fact 6 = .ok (.invokevirtual 36, 3) ∧ 9 = 6 + 3 := ⟨by decide +kernel, rfl⟩
theorem dX7_fact_9 : decode cX7_fact 9 = .ok (.iconst 4, 1) ∧ 10 = 9 + 1 := ⟨by decide +kernel, rfl⟩
theorem dX7_fact_10 : decode cX7_fact 10 = .ok (.imul, 1) ∧ 11 = 10 + 1 := ⟨by decide +kernel, rfl⟩
theorem dX7_fact_11 : decode cX7_fact 11 = .ok (.iload_n 2, 1) ∧ 12 = 11 + 1 := ⟨by decide +kernel, rfl⟩
theorem dX7_fact_12 : decode cX7_fact 12 = .ok (.iadd, 1) ∧ 13 = 12 + 1 := ⟨by decide +kernel, rfl⟩
theorem dX7_fact_13 : decode cX7_fact 13 = .ok (.iaload, 1) ∧ 14 = 13 + 1 := ⟨by decide +kernel, rfl⟩
theorem dX7_fact_14 : decode cX7_fact 14 = .ok (.ireturn, 1) ∧ 15 = 14 + 1 := ⟨by decide +kernel, rfl⟩
theorem dX7_riseOf_0 : decode cX7_riseOf 0 = .ok (.aload_n 0, 1) ∧ 1 = 0 + 1 := ⟨by decide +kernel, rfl⟩
theorem dX7_riseOf_1 : decode cX7_riseOf 1 = .ok (.getfield 20, 3) ∧ 4 = 1 + 3 := ⟨by decide +kernel, rfl⟩
theorem dX7_riseOf_4 : decode cX7_riseOf 4 = .ok (.aload_n 0, 1) ∧ 5 = 4 + 1 := ⟨by decide +kernel, rfl⟩
theorem dX7_riseOf_5 : decode cX7_riseOf 5 = .ok (.iload_n 1, 1) ∧ 6 = 5 + 1 := ⟨by decide +kernel, rfl⟩
theorem dX7_riseOf_6 : decode cX7_riseOf 6 = .ok (.invokevirtual 36, 3) ∧ 9 = 6 + 3 := ⟨by decide +kernel, rfl⟩
theorem dX7_riseOf_9 : decode cX7_riseOf 9 = .ok (.iconst 2, 1) ∧ 10 = 9 + 1 := ⟨by decide +kernel, rfl⟩
theorem dX7_riseOf_10 : decode cX7_riseOf 10 = .ok (.imul, 1) ∧ 11 = 10 + 1 := ⟨by decide +kernel, rfl⟩
theorem dX7_riseOf_11 : decode cX7_riseOf 11 = .ok (.iload_n 2, 1) ∧ 12 = 11 + 1 := ⟨by decide +kernel, rfl⟩
theorem dX7_riseOf_12 : decode cX7_riseOf 12 = .ok (.ifCond .eq 7, 3) ∧ 15 = 12 + 3 := ⟨by decide +kernel, rfl⟩
theorem dX7_riseOf_15 : decode cX7_riseOf 15 = .ok (.iconst 1, 1) ∧ 16 = 15 + 1 := ⟨by decide +kernel, rfl⟩
theorem dX7_riseOf_16 : decode cX7_riseOf 16 = .ok (.goto 4, 3) ∧ 19 = 16 + 3 := ⟨by decide +kernel, rfl⟩
theorem dX7_riseOf_19 : decode cX7_riseOf 19 = .ok (.iconst 0, 1) ∧ 20 = 19 + 1 := ⟨by decide +kernel, rfl⟩
theorem dX7_riseOf_20 : decode cX7_riseOf 20 = .ok (.iadd, 1) ∧ 21 = 20 + 1 := ⟨by decide +kernel, rfl⟩
theorem dX7_riseOf_21 : decode cX7_riseOf 21 = .ok (.laload, 1) ∧ 22 = 21 + 1 := ⟨by decide +kernel, rfl⟩
theorem dX7_riseOf_22 : decode cX7_riseOf 22 = .ok (.lreturn, 1) ∧ 23 = 22 + 1 := ⟨by decide +kernel, rfl⟩
theorem dX7_slot_0 : decode cX7_slot 0 = .ok (.aload_n 0, 1) ∧ 1 = 0 + 1 := ⟨by decide +kernel, rfl⟩
theorem dX7_slot_1 : decode cX7_slot 1 = .ok (.getfield 13, 3) ∧ 4 = 1 + 3 := ⟨by decide +kernel, rfl⟩
theorem dX7_slot_4 : decode cX7_slot 4 = .ok (.bipush 10, 2) ∧ 6 = 4 + 2 := ⟨by decide +kernel, rfl⟩
theorem dX7_slot_6 : decode cX7_slot 6 = .ok (.iadd, 1) ∧ 7 = 6 + 1 := ⟨by decide +kernel, rfl⟩
theorem dX7_slot_7 : decode cX7_slot 7 = .ok (.iconst 1, 1) ∧ 8 = 7 + 1 := ⟨by decide +kernel, rfl⟩
theorem dX7_slot_8 : decode cX7_slot 8 = .ok (.isub, 1) ∧ 9 = 8 + 1 := ⟨by decide +kernel, rfl⟩
theorem dX7_slot_9 : decode cX7_slot 9 = .ok (.iload_n 1, 1) ∧ 10 = 9 + 1 := ⟨by decide +kernel, rfl⟩
theorem dX7_slot_10 : decode cX7_slot 10 = .ok (.isub, 1) ∧ 11 = 10 + 1 := ⟨by decide +kernel, rfl⟩
theorem dX7_slot_11 : decode cX7_slot 11 = .ok (.bipush 10, 2) ∧ 13 = 11 + 2 := ⟨by decide +kernel, rfl⟩
theorem dX7_slot_13 : decode cX7_slot 13 = .ok (.irem, 1) ∧ 14 = 13 + 1 := ⟨by decide +kernel, rfl⟩
theorem dX7_slot_14 : decode cX7_slot 14 = .ok (.ireturn, 1) ∧ 15 = 14 + 1 := ⟨by decide +kernel, rfl⟩
theorem dX8_init_0 : decode cX8_init 0 = .ok (.aload_n 0, 1) ∧ 1 = 0 + 1 := ⟨by decide +kernel, rfl⟩
theorem dX8_init_1 : decode cX8_init 1 = .ok (.invokespecial 3, 3) ∧ 4 = 1 + 3 := ⟨by decide +kernel, rfl⟩
theorem dX8_init_4 : decode cX8_init 4 = .ok (.aload_n 0, 1) ∧ 5 = 4 + 1 := ⟨by decide +kernel, rfl⟩
theorem dX8_init_5 : decode cX8_init 5 = .ok (.sipush 900, 3) ∧ 8 = 5 + 3 := ⟨by decide +kernel, rfl⟩
theorem dX8_init_8 : decode cX8_init 8 = .ok (.newarray .byte, 2) ∧ 10 = 8 + 2 := ⟨by decide +kernel, rfl⟩
theorem dX8_init_10 : decode cX8_init 10 = .ok (.putfield 9, 3) ∧ 13 = 10 + 3 := ⟨by decide +kernel, rfl⟩
theorem dX8_init_13 : decode cX8_init 13 = .ok (.aload_n 0, 1) ∧ 14 = 13 + 1 := ⟨by decide +kernel, rfl⟩
theorem dX8_init_14 : decode cX8_init 14 = .ok (.iconst 0, 1) ∧ 15 = 14 + 1 := ⟨by decide +kernel, rfl⟩
theorem dX8_init_15 : decode cX8_init 15 = .ok (.putfield 15, 3) ∧ 18 = 15 + 3 := ⟨by decide +kernel, rfl⟩
theorem dX8_init_18 : decode cX8_init 18 = .ok (.return_, 1) ∧ 19 = 18 + 1 := ⟨by decide +kernel, rfl⟩
theorem dX8_addWord_0 : decode cX8_addWord 0 = .ok (.bipush 24, 2) ∧ 2 = 0 + 2 := ⟨by decide +kernel, rfl⟩
theorem dX8_addWord_2 : decode cX8_addWord 2 = .ok (.istore_n 2, 1) ∧ 3 = 2 + 1 := ⟨by decide +kernel, rfl⟩
theorem dX8_addWord_3 : decode cX8_addWord 3 = .ok (.iload_n 2, 1) ∧ 4 = 3 + 1 := ⟨by decide +kernel, rfl⟩
theorem dX8_addWord_4 : decode cX8_addWord 4 = .ok (.ifCond .lt 42, 3) ∧ 7 = 4 + 3 := ⟨by decide +kernel, rfl⟩
theorem dX8_addWord_7 : decode cX8_addWord 7 = .ok (.aload_n 0, 1) ∧ 8 = 7 + 1 := ⟨by decide +kernel, rfl⟩
theorem dX8_addWord_8 : decode cX8_addWord 8 = .ok (.getfield 15, 3) ∧ 11 = 8 + 3 := ⟨by decide +kernel, rfl⟩
theorem dX8_addWord_11 : decode cX8_addWord 11 = .ok (.sipush 900, 3) ∧ 14 = 11 + 3 := ⟨by decide +kernel, rfl⟩
theorem dX8_addWord_14 : decode cX8_addWord 14 = .ok (.if_icmp .ge 32, 3) ∧ 17 = 14 + 3 := ⟨by decide +kernel, rfl⟩
theorem dX8_addWord_17 : decode cX8_addWord 17 = .ok (.aload_n 0, 1) ∧ 18 = 17 + 1 := ⟨by decide +kernel, rfl⟩
theorem dX8_addWord_18 : decode cX8_addWord 18 = .ok (.getfield 9, 3) ∧ 21 = 18 + 3 := ⟨by decide +kernel, rfl⟩
theorem dX8_addWord_21 : decode cX8_addWord 21 = .ok (.aload_n 0, 1) ∧ 22 = 21 + 1 := ⟨by decide +kernel, rfl⟩
theorem dX8_addWord_22 : decode cX8_addWord 22 = .ok (.getfield 15, 3) ∧ 25 = 22 + 3 := ⟨by decide +kernel, rfl⟩
theorem dX8_addWord_25 : decode cX8_addWord 25 = .ok (.iload_n 1, 1) ∧ 26 = 25 + 1 := ⟨by decide +kernel, rfl⟩
theorem dX8_addWord_26 : decode cX8_addWord 26 = .ok (.iload_n 2, 1) ∧ 27 = 26 + 1 := ⟨by decide +kernel, rfl⟩
theorem dX8_addWord_27 : decode cX8_addWord 27 = .ok (.iushr, 1) ∧ 28 = 27 + 1 := ⟨by decide +kernel, rfl⟩
theorem dX8_addWord_28 : decode cX8_addWord 28 = .ok (.i2b, 1) ∧ 29 = 28 + 1 := ⟨by decide +kernel, rfl⟩
theorem dX8_addWord_29 : decode cX8_addWord 29 = .ok (.bastore, 1) ∧ 30 = 29 + 1 := ⟨by decide +kernel, rfl⟩
theorem dX8_addWord_30 : decode cX8_addWord 30 = .ok (.aload_n 0, 1) ∧ 31 = 30 + 1 := ⟨by decide +kernel, rfl⟩
theorem dX8_addWord_31 : decode cX8_addWord 31 = .ok (.dup, 1) ∧ 32 = 31 + 1 := ⟨by decide +kernel, rfl⟩
theorem dX8_addWord_32 : decode cX8_addWord 32 = .ok (.getfield 15, 3) ∧ 35 = 32 + 3 := ⟨by decide +kernel, rfl⟩
theorem dX8_addWord_35 : decode cX8_addWord 35 = .ok (.iconst 1, 1) ∧ 36 = 35 + 1 := ⟨by decide +kernel, rfl⟩
theorem dX8_addWord_36 : decode cX8_addWord 36 = .ok (.iadd, 1) ∧ 37 = 36 + 1 := ⟨by decide +kernel, rfl⟩
theorem dX8_addWord_37 : decode cX8_addWord 37 = .ok (.putfield 15, 3) ∧ 40 = 37 + 3 := ⟨by decide +kernel, rfl⟩
theorem dX8_addWord_40 : decode cX8_addWord 40 = .ok (.iinc 2 (-8), 3) ∧ 43 = 40 + 3 := ⟨by decide +kernel, rfl⟩
theorem dX8_addWord_43 : decode cX8_addWord 43 = .ok (.goto (-40), 3) ∧ 46 = 43 + 3 := ⟨by decide +kernel, rfl⟩
theorem dX8_addWord_46 : decode cX8_addWord 46 = .ok (.return_, 1) ∧ 47 = 46 + 1 := ⟨by decide +kernel, rfl⟩
theorem dX8_byteAt_0 : decode cX8_byteAt 0 = .ok (.iload_n 1, 1) ∧ 1 = 0 + 1 := ⟨by decide +kernel, rfl⟩
theorem dX8_byteAt_1 : decode cX8_byteAt 1 = .ok (.ifCond .lt 24, 3) ∧ 4 = 1 + 3 := ⟨by decide +kernel, rfl⟩
theorem dX8_byteAt_4 : decode cX8_byteAt 4 = .ok (.iload_n 1, 1) ∧ 5 = 4 + 1 := ⟨by decide +kernel, rfl⟩
theorem dX8_byteAt_5 : decode cX8_byteAt 5 = .ok (.aload_n 0, 1) ∧ 6 = 5 + 1 := ⟨by decide +kernel, rfl⟩
theorem dX8_byteAt_6 : decode cX8_byteAt 6 = .ok (.getfield 15, 3) ∧ 9 = 6 + 3 := ⟨by decide +kernel, rfl⟩
theorem dX8_byteAt_9 : decode cX8_byteAt 9 = .ok (.if_icmp .ge 16, 3) ∧ 12 = 9 + 3 := ⟨by decide +kernel, rfl⟩
theorem dX8_byteAt_12 : decode cX8_byteAt 12 = .ok (.aload_n 0, 1) ∧ 13 = 12 + 1 := ⟨by decide +kernel, rfl⟩
theorem dX8_byteAt_13 : decode cX8_byteAt 13 = .ok (.getfield 9, 3) ∧ 16 = 13 + 3 := ⟨by decide +kernel, rfl⟩
theorem dX8_byteAt_16 : decode cX8_byteAt 16 = .ok (.iload_n 1, 1) ∧ 17 = 16 + 1 := ⟨by decide +kernel, rfl⟩
theorem dX8_byteAt_17 : decode cX8_byteAt 17 = .ok (.baload, 1) ∧ 18 = 17 + 1 := ⟨by decide +kernel, rfl⟩
theorem dX8_byteAt_18 : decode cX8_byteAt 18 = .ok (.sipush 255, 3) ∧ 21 = 18 + 3 := ⟨by decide +kernel, rfl⟩
theorem dX8_byteAt_21 : decode cX8_byteAt 21 = .ok (.iand, 1) ∧ 22 = 21 + 1 := ⟨by decide +kernel, rfl⟩
theorem dX8_byteAt_22 : decode cX8_byteAt 22 = .ok (.goto 4, 3) ∧ 25 = 22 + 3 := ⟨by decide +kernel, rfl⟩
theorem dX8_byteAt_25 : decode cX8_byteAt 25 = .ok (.iconst (-1), 1) ∧ 26 = 25 + 1 := ⟨by decide +kernel, rfl⟩
theorem dX8_byteAt_26 : decode cX8_byteAt 26 = .ok (.ireturn, 1) ∧ 27 = 26 + 1 := ⟨by decide +kernel, rfl⟩
